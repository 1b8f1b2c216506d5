/-! CONSTRUCTORS: cells at known places, the heap's size is known -/
/-- the words of a nest mate's constructor -/
def nxS : List Cond := [.methodLinkNest "TwinShelf" 118 yX9_init "TwinShelf", .methodLinkNest "TwinShelf" 17 yX6_init "TwinShelf", .methodLinkNest "TwinShelf" 24 yX10_init "TwinShelf", .methodLinkNest "TwinShelf" 60 yX4_init "TwinShelf", .methodLinkNest "TwinShelf" 70 yX1_init "TwinShelf", .methodLinkNest "TwinShelf" 77 yX5_init "TwinShelf", .methodLinkNest "TwinShelf$DaysText" 11 yX2_init "TwinShelf", .methodLinkNest "TwinShelf$ShelfText" 11 yX7_init "TwinShelf", .methodLinkNest "TwinShelf$World" 11 yX7_init "TwinShelf", .methodLinkNest "TwinShelf$World" 20 yX2_init "TwinShelf"]
def NX (U : State) : Prop := (∀ w ∈ nxS, va_Nw w U) ∧ va_AO "TwinShelf$Tray" U ∧ va_AO "TwinShelf$World" U
def zA (a n : Nat) : Nat → Prop := fun q => a ≤ q ∧ q < a + n
/-- the heap holds ws, all from a on and below a + n, z cells in all; since s nothing else has changed -/
abbrev ZH (D : va_G) (ws : va_W) (a n z : Nat) (s : State) (H : Heap) (locs : List Loc) : Prop := va_P D vwCl ws H ∧ va_D (zA a n) ws ∧ va_S (zA a n) s.heap H locs ∧ H.size = z
/-- what a walk of a constructor knows -/
abbrev CZ (p : Program) (m : MethodId) (c : Code) (cc : ByteArray) (nL : Nat) (s : State) (args : Array Value) (own : String) (D : va_G) (cy : Nat → ClassId) : Prop := CallFix p m c cc nL s args wsL_law own ∧ va_K D vwCl (tysP cy) s ∧ NX s
section ZR
variable {p : Program} {l : Launch} {e : Env} {R : Room} {s : State} {m : MethodId} {args : Array Value} {below : List Frame} {meth : Method} {c : Code} {H : Heap} {locs : List Loc} {cells slots : Nat} {Q : State → Prop}
variable {cc : ByteArray} {nL : Nat} {pc : Nat} {ls : Array Slot} {rest : List Value} {D : va_G} {cy : Nat → ClassId} {own : String} {idx κ k : Nat} {C : String} {T : u_T} {N : Nat} {a n z : Nat} {ws : va_W}
theorem z_new (E : CZ p m c cc nL s args own D cy) (hw : ZH D ws a n z s H locs) (hκ : vwCl[κ]? = some (C, T, N)) (h13 : N = nfC κ) (hin : ∀ w ∈ u_ws C T N, w ∈ wsL_law) (hty : ∀ k, k < N → parseFieldDescriptor (T k).2.2.1 = some (tyC κ k)) (hcl : Cond.classLink own idx C ∈ wsL_law) (hins : Cond.instantiable C N ∈ wsL_law) (hini : Cond.initialized C ∈ wsL_law) {fs : List Value} (hfs : ∀ j, j < N → defaultValue (tyC κ j) = vp_V fs j) (ha : zA a n z) (hc : cells + 1 ≤ R.cells) (hs : slots + N ≤ R.slots) (hdg : decode cc pc = .ok (.new idx, 3))
    (kk : ∀ H1 : Heap, ZH D (ws ++ [(z, .inr (κ, fs))]) a n (z + 1) s H1 locs → W p l e R s m args below meth c H1 locs (cells + 1) (slots + N) Q (F0 m (pc + 3) ls (.ref z :: rest))) : W p l e R s m args below meth c H locs cells slots Q (F0 m pc ls rest) := by
  obtain ⟨hP, hD, hS, hz⟩ := hw
  have hts := E.1.2.2.2.2
  have hKn := E.2.1.1 κ _ hκ
  refine W.newcK E.1.1 E.1.2.1 E.1.2.2.2.1 (hts _ hcl) (hts _ hins) (hts _ hini) rfl hdg hc hs hKn.2.1 hz fun H1 kC hkC e1 z1 o1 => ?_
  have hk : ∀ (k : Nat) (x : Nat × va_E), ws[k]? = some x → H1[x.1]? = H[x.1]? := fun k x hx => o1 x.1 (by have := (hP k x hx).lt; omega)
  refine kk H1 ⟨(hP.kept hk).app (fun k x hx => ?_), hD.push hP hz.symm ha, ⟨Nat.le_trans hS.1 (by omega), fun x h1 h2 => (o1 x (by have := hS.1; omega)).trans (hS.2.1 x h1 h2), hS.2.2⟩, z1⟩
  have hz1 : k < 1 := (List.getElem?_eq_some_iff.mp hx).1
  rw [show k = 0 by omega] at hx
  cases hx
  exact ⟨_, hκ, (u_born (tyC κ) hts hin hKn hkC e1 hty).to hfs⟩
theorem z_newa (E : CZ p m c cc nL s args own D cy) (hw : ZH D ws a n z s H locs) {atype : ArrayType} {ty : FieldType} (t0 : Nat) {cA : ClassId} (ht : (tysP cy)[t0]? = some (cA, ty)) (hnr : match ty with | .object _ => False | .array _ => False | _ => True) (hat : newarray.typeOf atype = ty) (harr : Cond.arrayClass ty ∈ wsL_law) {nn : Int32} {N' : Nat} {a0 : vp_A} (h0 : ∀ cA : ClassId, vp_cell cA a0 = arrV cA N' (fun _ => defaultValue ty)) (hn : ¬ nn < 0) (hN : nn.toNatClampNeg = N') (hby : N' * componentBytes ty ≤ 536870912) (ha : zA a n z) (hc : cells + 1 ≤ R.cells) (hs : slots + N' ≤ R.slots) (hdg : decode cc pc = .ok (.newarray atype, 2))
    (kk : ∀ H1 : Heap, ZH D (ws ++ [(z, .inl (cA, a0))]) a n (z + 1) s H1 locs → W p l e R s m args below meth c H1 locs (cells + 1) (slots + N') Q (F0 m (pc + 2) ls (.ref z :: rest))) : W p l e R s m args below meth c H locs cells slots Q (F0 m pc ls (.int nn :: rest)) := by
  obtain ⟨hP, hD, hS, hz⟩ := hw
  have hts := E.1.2.2.2.2
  subst hat
  refine va_newaK E.1.1 E.1.2.1 (hts _ harr) rfl hdg rfl hn hN hby hc hs hz fun H1 cB e1 z1 o1 hAr hNm => ?_
  have hk : ∀ (k : Nat) (x : Nat × va_E), ws[k]? = some x → H1[x.1]? = H[x.1]? := fun k x hx => o1 x.1 (by have := (hP k x hx).lt; omega)
  have hcA : cB = cA := by
    have h2 := (E.2.1.2 t0 _ ht).2
    unfold va_RA at h2
    have h3 : s.vm.findClass ("[" ++ (newarray.typeOf atype).toString) = some cA := by
      revert h2 hnr
      cases atype <;> intro hnr h2 <;> exact h2
    exact Option.some.inj (hNm.symm.trans h3)
  subst hcA
  refine kk H1 ⟨(hP.kept hk).app (fun k x hx => ?_), hD.push hP hz.symm ha, ⟨Nat.le_trans hS.1 (by omega), fun x h1 h2 => (o1 x (by have := hS.1; omega)).trans (hS.2.1 x h1 h2), hS.2.2⟩, z1⟩
  have hz1 : k < 1 := (List.getElem?_eq_some_iff.mp hx).1
  rw [show k = 0 by omega] at hx
  cases hx
  show H1[z]? = some (vp_cell _ _)
  rw [h0]
  exact e1
theorem z_slots (E : CZ p m c cc nL s args own D cy) (F : FW own idx κ k C T N) : ∀ x y, x < N → y < N → x ≠ y → (D.2 κ) x ≠ (D.2 κ) y := by
  obtain ⟨f1, f2, f3, f4, f5, f6, f7, f8⟩ := F
  exact va_apart (own := own) E.1.2.2.2.2 f6 (tyC κ) f7 f8 E.2.1 f1
theorem z_put (E : CZ p m c cc nL s args own D cy) (hw : ZH D ws a n z s H locs) (F : FW own idx κ k C T N) (hfin : (T k).2.2.2 = false) {x q0 : Nat} {fs : List Value} (he : ws[q0]? = some (x, .inr (κ, fs))) {v : Value} (hn : narrow (tyC κ k) v = v) (hf : fits (tyC κ k) v = true) (hl : k < fs.length) (hdg : decode cc pc = .ok (.putfield idx, 3))
    (kk : ∀ (H1 : Heap) (locs1 : List Loc), ZH D (ws.set q0 (x, .inr (κ, fs.set k v))) a n z s H1 locs1 → W p l e R s m args below meth c H1 locs1 cells slots Q (F0 m (pc + 3) ls rest)) : W p l e R s m args below meth c H locs cells slots Q (F0 m pc ls (v :: .ref x :: rest)) := by
  obtain ⟨hP, hD, hS0, hz⟩ := hw
  have hap := z_slots E F
  obtain ⟨f1, f2, f3, f4, f5, f6, f7, f8⟩ := F
  have hts := E.1.2.2.2.2
  obtain ⟨r, h1, cell, q1, q2, q3, q4⟩ := hP q0 _ he
  have hr : r = (C, T, N) := Option.some.inj (h1.symm.trans f1)
  subst hr
  obtain ⟨hS, hfc, kC, hkC, hkind⟩ := E.2.1.1 κ _ f1
  obtain ⟨cf, kf, fi, f, hi, hsl⟩ := hS k f2
  have hlay := hts _ (f6 _ (u_in_lay f2))
  unfold u_lay at hlay
  rw [if_neg (by rw [hfin]; decide)] at hlay
  have hst := (u_facts hfc hkC (u_lays hts f6 f2) hi).1
  have h6 := u_store hfc hkC hkind hlay hi (f7 k f2) hn hf
  refine W.putK E.1.1 E.1.2.1 (f := f) ⟨E.1.2.2.2.1, hts _ f5, ⟨_, _, _, hi⟩, hst⟩ (by rw [q2]; exact h6) q1 q3 (by rw [hsl]; exact k2_hasslot (q4 k f2)) rfl rfl hdg fun H' e1 e2 e3 => ?_
  rw [hsl] at e1 ⊢
  exact kk H' _ ⟨hP.set hD he ⟨_, f1, t_OB.to (V := updV (vp_V fs) k v) ⟨_, e1, q2, q3, t_set q4 hap f2 v⟩ (fun j _ => vp_updV_set hl v j)⟩ e3, hD.set he, hS0.put e2 e3 (hD.2 q0 _ he), e2.trans hz⟩
theorem z_putF (E : CZ p m c cc nL s args own D cy) (hw : ZH D ws a n z s H locs) (F : FW own idx κ k C T N) (hfin : (T k).2.2.2 = true) (hin2 : meth.name = "<init>") (hdecl : (T k).1 = own) {x q0 : Nat} {fs : List Value} (he : ws[q0]? = some (x, .inr (κ, fs))) {v : Value} (hn : narrow (tyC κ k) v = v) (hf : fits (tyC κ k) v = true) (hl : k < fs.length) (hdg : decode cc pc = .ok (.putfield idx, 3))
    (kk : ∀ (H1 : Heap) (locs1 : List Loc), ZH D (ws.set q0 (x, .inr (κ, fs.set k v))) a n z s H1 locs1 → W p l e R s m args below meth c H1 locs1 cells slots Q (F0 m (pc + 3) ls rest)) : W p l e R s m args below meth c H locs cells slots Q (F0 m pc ls (v :: .ref x :: rest)) := by
  obtain ⟨hP, hD, hS0, hz⟩ := hw
  have hap := z_slots E F
  obtain ⟨f1, f2, f3, f4, f5, f6, f7, f8⟩ := F
  have hts := E.1.2.2.2.2
  obtain ⟨r, h1, cell, q1, q2, q3, q4⟩ := hP q0 _ he
  have hr : r = (C, T, N) := Option.some.inj (h1.symm.trans f1)
  subst hr
  obtain ⟨hS, hfc, kC, hkC, hkind⟩ := E.2.1.1 κ _ f1
  obtain ⟨cf, kf, fi, f, hi, hsl⟩ := hS k f2
  have hlay := hts _ (f6 _ (u_in_lay f2))
  unfold u_lay at hlay
  rw [if_pos hfin] at hlay
  have hst := (u_facts hfc hkC (u_lays hts f6 f2) hi).1
  have hcf : m.cls = cf := by
    obtain ⟨_, _, c', _, _, _, -, -, hf', -, -, -, hown2, -⟩ := Cond.laysFinal_spec hlay
    have e1 : c' = cf := by have := hi.symm.trans hf'; simp at this; exact this.1.symm
    rw [hdecl] at hown2
    rw [← e1]; exact Option.some.inj (E.1.2.2.2.1.symm.trans hown2)
  have h6 := u_fits hfc hkC hkind (Or.inr hlay) hi (f7 k f2) hn hf
  refine W.putFinK E.1.1 E.1.2.1 E.1.2.2.2.1 (hts _ f5) hi hst hcf hin2 (by rw [q2]; exact h6) q1 q3 (by rw [hsl]; exact k2_hasslot (q4 k f2)) rfl rfl hdg fun H' e1 e2 e3 => ?_
  rw [hsl] at e1 ⊢
  exact kk H' _ ⟨hP.set hD he ⟨_, f1, t_OB.to (V := updV (vp_V fs) k v) ⟨_, e1, q2, q3, t_set q4 hap f2 v⟩ (fun j _ => vp_updV_set hl v j)⟩ e3, hD.set he, hS0.put e2 e3 (hD.2 q0 _ he), e2.trans hz⟩
theorem z_get (E : CZ p m c cc nL s args own D cy) (hw : ZH D ws a n z s H locs) (F : FW own idx κ k C T N) {x q0 : Nat} {fs : List Value} (he : ws[q0]? = some (x, .inr (κ, fs))) {v : Value} (hv : fs[k]? = some v) (hdg : decode cc pc = .ok (.getfield idx, 3))
    (kk : W p l e R s m args below meth c H locs cells slots Q (F0 m (pc + 3) ls (v :: rest))) : W p l e R s m args below meth c H locs cells slots Q (F0 m pc ls (.ref x :: rest)) := by
  obtain ⟨f1, f2, f3, f4, f5, f6, f7, f8⟩ := F
  exact va_get E.1.1 E.1.2.1 E.1.2.2.2.2 f6 E.1.2.2.2.1 E.2.1 hw.1 q0 he f1 k f2 (E.1.2.2.2.2 _ f5) (fun _ h => h) hv hdg kk
theorem z_anew (E : CZ p m c cc nL s args own D cy) (hw : ZH D ws a n z s H locs) (t0 : Nat) {cA : ClassId} (ht : (tysP cy)[t0]? = some (cA, .object C)) (hcl : Cond.classLink own idx C ∈ wsL_law) (hov : va_AO C s) {nn : Int32} {N' : Nat} (hn : ¬ nn < 0) (hN : nn.toNatClampNeg = N') (hby : N' * 4 ≤ 536870912) (ha : zA a n z) (hc : cells + 1 ≤ R.cells) (hs : slots + N' ≤ R.slots) (hdg : decode cc pc = .ok (.anewarray idx, 3))
    (kk : ∀ H1 : Heap, ZH D (ws ++ [(z, .inl (cA, N', .inr (.inr (.inr (.inr (fun _ => none))))))]) a n (z + 1) s H1 locs → W p l e R s m args below meth c H1 locs (cells + 1) (slots + N') Q (F0 m (pc + 3) ls (.ref z :: rest))) : W p l e R s m args below meth c H locs cells slots Q (F0 m pc ls (.int nn :: rest)) := by
  obtain ⟨hP, hD, hS, hz⟩ := hw
  have hts := E.1.2.2.2.2
  subst hN
  refine W.anew E.1.1 E.1.2.1 E.1.2.2.2.1 (hts _ hcl) (va_AO.use hov) rfl hdg rfl hn hby hc hs fun cB kA comp f1 f2 f3 f4 => ?_
  have hcA : cB = cA := by
    obtain ⟨_, _, _, _, _, h4⟩ := (E.2.1.2 t0 _ ht).2
    exact Option.some.inj (f1.symm.trans h4)
  subst hcA
  subst hz
  generalize hH1 : H.push ({ cls := cB, slots := Array.replicate nn.toNatClampNeg .null, vm := .none } : Cell) = H1
  have z1 : H1.size = H.size + 1 := by rw [← hH1, Array.size_push]
  have e1 : H1[H.size]? = some (arrV cB nn.toNatClampNeg (fun _ => .null)) := by rw [← hH1, Array.getElem?_push_size, ← arrV_new]
  have o1 : ∀ q : Nat, q < H.size → H1[q]? = H[q]? := fun q hq => by rw [← hH1, Array.getElem?_push, if_neg (Nat.ne_of_lt hq)]
  have hk : ∀ (k : Nat) (x : Nat × va_E), ws[k]? = some x → H1[x.1]? = H[x.1]? := fun k x hx => o1 x.1 ((hP k x hx).lt)
  refine kk H1 ⟨(hP.kept hk).app (fun k x hx => ?_), hD.push hP rfl ha, ⟨Nat.le_trans hS.1 (by omega), fun x h1 h2 => (o1 x (by have := hS.1; omega)).trans (hS.2.1 x h1 h2), hS.2.2⟩, z1⟩
  have hz1 : k < 1 := (List.getElem?_eq_some_iff.mp hx).1
  rw [show k = 0 by omega] at hx
  cases hx
  exact e1
theorem z_ast (E : CZ p m c cc nL s args own D cy) (hw : ZH D ws a n z s H locs) (q0 t0 qk : Nat) {x v : Nat} {cA : ClassId} {r : vw_C} {N' : Nat} {vs : List Value} {f : Nat → Option Nat} (he : ws[q0]? = some (x, .inl (cA, N', .inr (.inr (.inr (.inr f)))))) (ht : (tysP cy)[t0]? = some (cA, .object r.1)) (hv : ws[qk]? = some (v, .inr (κ, vs))) (hκ : vwCl[κ]? = some r) {i : Int32} (hin : vp_in i N') (hdg : decode cc pc = .ok (.aastore, 1))
    (kk : ∀ (H1 : Heap) (locs1 : List Loc), ZH D (ws.set q0 (x, .inl (cA, N', .inr (.inr (.inr (.inr (va_up f i.toNatClampNeg (some v)))))))) a n z s H1 locs1 → W p l e R s m args below meth c H1 locs1 cells slots Q (F0 m (pc + 1) ls rest)) : W p l e R s m args below meth c H locs cells slots Q (F0 m pc ls (.ref v :: .int i :: .ref x :: rest)) := by
  obtain ⟨hP, hD, hS, hz⟩ := hw
  have hlt : i.toNatClampNeg < N' := Nat.not_le.mp fun q => hin (Or.inr q)
  have h0 : ¬ i < 0 := fun q => hin (Or.inl q)
  obtain ⟨r', hr', cellV, g1, g2, g3, -⟩ := hP qk _ hv
  have hcls := (E.2.1.1 κ r hκ).2
  obtain ⟨kA, comp, k1, k2, k3, -⟩ := (E.2.1.2 t0 _ ht).2
  have hcomp : comp = D.1 κ := Option.some.inj (k3.symm.trans hcls.1)
  subst hcomp
  obtain ⟨kC, hkC, hkd⟩ := hcls.2
  refine W.aast E.1.1 E.1.2.1 (hP q0 _ he) (fun q h => by cases h) (fun h => by cases h) k1 k2 rfl hkC ⟨h0, by show _ < (arrV _ _ _).slots.size; rw [arrV_size]; exact hlt⟩ g1 (fun q h => by rw [g3] at h; cases h) (by rw [g2]; exact hkC) (by rw [g2]; exact va_assign hcls) rfl rfl hdg fun H1 e z1 oq => ?_
  refine kk H1 _ ⟨hP.set hD he ?_ oq, hD.set he, hS.put z1 oq (hD.2 q0 _ he), z1.trans hz⟩
  show H1[x]? = some (vp_cell _ _)
  rw [e]
  rw [vp_cell_q, vp_cell_q, arrV_store]
  congr 2
  funext q
  by_cases hq : q = i.toNatClampNeg
  · subst hq
    simp [updV, va_up, va_rf]
  · simp [updV, va_up, hq]
theorem z_iast (E : CZ p m c cc nL s args own D cy) (hw : ZH D ws a n z s H locs) (q0 : Nat) {x : Nat} {N' : Nat} {f : Nat → Int32} (he : ws[q0]? = some (x, .inl (cy 0, N', .inl f))) {i v : Int32} (hin : vp_in i N') (hdg : decode cc pc = .ok (.iastore, 1))
    (kk : ∀ (H1 : Heap) (locs1 : List Loc), ZH D (ws.set q0 (x, .inl (cy 0, N', .inl (upd f i.toNatClampNeg v)))) a n z s H1 locs1 → W p l e R s m args below meth c H1 locs1 cells slots Q (F0 m (pc + 1) ls rest)) : W p l e R s m args below meth c H locs cells slots Q (F0 m pc ls (.int v :: .int i :: .ref x :: rest)) := by
  obtain ⟨hP, hD, hS, hz⟩ := hw
  refine W.iast E.1.1 E.1.2.1 (hP q0 _ he) ((E.2.1.2 0 (cy 0, .int) rfl).1 N' (fun j => .int (f j))) (fun q => by cases q) (by show ¬ (i < 0 ∨ (arrV _ _ _).slots.size ≤ _); rw [arrV_size]; exact hin) rfl rfl hdg fun H1 e z1 oq => ?_
  refine kk H1 _ ⟨hP.set hD he ?_ oq, hD.set he, hS.put z1 oq (hD.2 q0 _ he), z1.trans hz⟩
  show H1[x]? = some (vp_cell _ _)
  rw [e]
  rw [vp_cell_i, vp_cell_i, arrV_store]
  congr 2
  funext q
  by_cases hq : q = i.toNatClampNeg
  · subst hq
    simp [updV, upd]
  · simp [updV, upd, hq]
/-- the words that a constructor's contract asks -/
def rmZ (d mc ms : Nat) : Room := { frames := d, cells := mc, slots := ms, locals := 64 * d }
def PcZ (D : va_G) (cy : Nat → ClassId) (a : Nat) (av : List Value) (ws : va_W) : Array Value → State → Prop := fun v U => v = av.toArray ∧ va_K D vwCl (tysP cy) U ∧ NX U ∧ U.heap.size = a + 1 ∧ va_P D vwCl ws U.heap
def QcZ (D : va_G) (a n : Nat) (ws : va_W) : Array Value → State → Outcome → State → Prop := fun _ st o t => o = .returned none ∧ va_P D vwCl ws t.heap ∧ t.heap.size = a + n ∧ va_F (zA a n) st t
theorem nx_warm {U : State} (h : NX s) (hW : s.WarmedH U.vm) : NX U := by
  refine ⟨fun w hw => ?_, va_AO.moved hW.alike h.2.1, va_AO.moved hW.alike h.2.2⟩
  have h1 := h.1 w hw
  simp only [nxS, List.mem_cons, List.not_mem_nil, or_false] at hw
  rcases hw with rfl | rfl | rfl | rfl | rfl | rfl | rfl | rfl | rfl | rfl <;> exact va_Nw.warmM hW h1
theorem nx_same {U : State} (h : NX s) (hV : s.vm = U.vm) : NX U := by
  refine ⟨fun w hw => ?_, va_AO.moved (by rw [hV]; exact Vm.Alike.refl _) h.2.1, va_AO.moved (by rw [hV]; exact Vm.Alike.refl _) h.2.2⟩
  have h1 := h.1 w hw
  simp only [nxS, List.mem_cons, List.not_mem_nil, or_false] at hw
  rcases hw with rfl | rfl | rfl | rfl | rfl | rfl | rfl | rfl | rfl | rfl <;> exact va_Nw.same rfl hV h1
theorem z_blind {av : List Value} : FrameBlind (PcZ D cy a av ws) := fun a U g mk q => ⟨q.1, va_K.moved (u := U) (U := U.calling g mk a) (Vm.Alike.refl U.vm) q.2.1, nx_same q.2.2.1 rfl, q.2.2.2.1, q.2.2.2.2⟩
/-- consecutive places are apart -/
theorem zD_of {ws : va_W} (h : ws.map Prod.fst = (List.range ws.length).map (fun i => a + i)) (hn : ws.length ≤ n) : va_D (zA a n) ws := by
  have at1 : ∀ (i : Nat) (p : Nat × va_E), ws[i]? = some p → p.1 = a + i ∧ i < ws.length := by
    intro i p hi
    have hl : i < ws.length := (List.getElem?_eq_some_iff.mp hi).1
    have h1 : (ws.map Prod.fst)[i]? = some p.1 := by rw [List.getElem?_map, hi]; rfl
    rw [h, List.getElem?_map, List.getElem?_range hl] at h1
    exact ⟨(Option.some.inj h1).symm, hl⟩
  constructor
  · intro i j p q hi hj e
    have h1 := (at1 i p hi).1
    have h2 := (at1 j q hj).1
    omega
  · intro k q hk
    have h1 := at1 k q hk
    exact ⟨by omega, by omega⟩
theorem nd_mem (l : List Nat) (i : Nat) : l.contains i = true ↔ i ∈ l := by simp
theorem nd_aux : ∀ (l : List Nat), l.Nodup → va_nd l = true
  | [], _ => rfl
  | x :: l, h => by
    have h1 := List.nodup_cons.mp h
    simp only [va_nd, Bool.and_eq_true]
    exact ⟨by simpa using h1.1, nd_aux l h1.2⟩
theorem nd_range (k : Nat) : va_nd (List.range k) = true := nd_aux _ List.nodup_range
/-- behind a constructor's call -/
theorem z_back {pre w1 : va_W} {z' n' mc ms : Nat} {fs : List Value} {st0 : List Value} {av : Array Value} (hr : va_Run p l e R s m args below meth c H locs cells slots mc ms (F0 m pc ls st0) rest (QcZ D z' n' w1 av) (zA z' n')) (hw : ZH D (pre ++ [(z', .inr (κ, fs))]) a n (z' + 1) s H locs) (hD2 : va_D (zA z' n') w1) (hsub : a ≤ z' ∧ z' + n' ≤ a + n)
    (kk : ∀ (H1 : Heap) (locs1 : List Loc), ZH D (pre ++ w1) a n (z' + n') s H1 locs1 → W p l e R s m args below meth c H1 locs1 (cells + mc) (slots + ms) Q (F0 m (pc + 3) ls rest)) : W p l e R s m args below meth c H locs cells slots Q (F0 m pc ls st0) := by
  intro T hT X
  obtain ⟨v, st₀, t, T', L, h0, X', hL, e1, e2, ⟨hv, hp, hz, hk1, hk2⟩, st⟩ := hr T hT X
  cases hv
  obtain ⟨hP, hD, hS, hzz⟩ := hw
  rw [h0] at hk1 hk2
  have hpre : ∀ (k : Nat) (q : Nat × va_E), pre[k]? = some q → q.1 < z' := fun k q hq => by
    have hl : k < pre.length := (List.getElem?_eq_some_iff.mp hq).1
    have h1 : (pre ++ [(z', .inr (κ, fs))] : va_W)[k]? = some q := by rw [List.getElem?_append_left hl]; exact hq
    have h2 : (pre ++ [(z', .inr (κ, fs))] : va_W)[pre.length]? = some (z', .inr (κ, fs)) := by simp
    have h3 := (hP k q h1).lt
    have h4 : q.1 ≠ z' := fun e => by have := hD.1 k pre.length _ _ h1 h2 e; omega
    omega
  have hD1 : va_D (zA a n) (pre ++ w1) := by
    refine va_D.app (hD.sub (List.range pre.length) ?_ ?_) (hD2.weaken (fun k q hk h => ⟨by have := h.1; omega, by have := h.2; omega⟩)) (fun i j p q hi hj e => ?_)
    · exact nd_range _
    · apply List.ext_getElem?
      intro i
      simp only [List.getElem?_map]
      by_cases hl : i < pre.length
      · rw [List.getElem?_range hl, Option.map_some, List.getElem?_append_left hl, List.getElem?_eq_getElem hl]; rfl
      · rw [List.getElem?_eq_none (by simpa using hl), List.getElem?_eq_none (by omega)]; rfl
    · have h1 := hpre i p hi
      have h2 := (hD2.2 j q hj).1
      omega
  have hAsub : ∀ q, zA z' n' q → zA a n q := fun q h => ⟨by have := h.1; omega, by have := h.2; omega⟩
  have hPpre : va_P D vwCl pre t.heap := fun k q hq => by
    have h1 : (pre ++ [(z', .inr (κ, fs))] : va_W)[k]? = some q := by
      rw [List.getElem?_append_left (List.getElem?_eq_some_iff.mp hq).1]; exact hq
    exact (hP k q h1).kept (hk2 q.1 ((hP k q h1).lt) (fun h => by have := hpre k q hq; have := h.1; omega))
  obtain ⟨t2, a1, b1⟩ := kk T'.heap (locs ++ L) ⟨by rw [e1]; exact hPpre.app hp, hD1, ⟨Nat.le_trans hS.1 (by rw [e1]; exact hk1), fun q h1 h2 => by rw [e1, hk2 q (Nat.lt_of_lt_of_le h1 hS.1) (fun h => h2 (hAsub q h))]; exact hS.2.1 q h1 h2, fun q hq => by
      rcases List.mem_append.mp hq with h | h
      · exact hS.2.2 q h
      · exact hAsub _ (hL q h)⟩, by rw [e1]; exact hz⟩ T' rfl X'
  exact ⟨t2, st t2 a1, b1⟩
theorem z_pre (E : CZ p m c cc nL s args own D cy) {pre : va_W} {z' : Nat} {e0 : va_E} (hw : ZH D (pre ++ [(z', e0)]) a n (z' + 1) s H locs) {av : List Value} : PreS s H (PcZ D cy z' av [(z', e0)]) av := by
  refine ⟨z_blind, fun U hU hW => ⟨rfl, va_K.moved hW.alike E.2.1, nx_warm E.2.2 hW, by rw [hU]; exact hw.2.2.2, ?_⟩⟩
  rw [hU]
  exact hw.1.sub [pre.length] (by simp)
/-- a call of a constructor of one's own or of a package's -/
theorem z_init (pre : va_W) (rest : List Value) (E : CZ p m c cc nL s args own D cy) {w1 : va_W} {z' n' mc ms d : Nat} {fs : List Value} (hw : ZH D (pre ++ [(z', .inr (κ, fs))]) a n (z' + 1) s H locs) {yy : MethodName} {bytes : ByteArray} {maxL nn : Nat} {As : List Value} (hM : Met l yy (wU yy bytes maxL none) (rmZ d mc ms) (PcZ D cy z' (.ref z' :: As) [(z', .inr (κ, fs))]) (QcZ D z' n' w1) mc ms (zA z' n')) (hl : Cond.methodLink own idx yy ∈ wsL_law) (hin : Cond.instanceMethod yy ∈ wsL_law) (hco : Cond.code yy bytes maxL none ∈ wsL_law) (hini : Cond.initialized yy.cls ∈ wsL_law) (hnm : yy.name = "<init>" ∧ yy.cls ≠ "java/lang/invoke/MethodHandle" ∧ yy.cls ≠ "java/lang/invoke/VarHandle" ∧ (parseMethodDescriptor yy.desc).map (fun d => d.parameters.length) = some nn) {st0 : List Value} (hn : As.length = nn) (hst : st0 = As.reverse ++ .ref z' :: rest) (hsz : ls.size = nL) (hrs : (rest.map fun v => v.category).sum ≤ 8) (hR : d + 1 ≤ R.frames ∧ 8 + (maxL + 11) + 64 * d ≤ R.locals) (hcs : cells + mc ≤ R.cells ∧ slots + ms ≤ R.slots) (hdg : decode cc pc = .ok (.invokespecial idx, 3)) (hD2 : va_D (zA z' n') w1) (hsub : a ≤ z' ∧ z' + n' ≤ a + n)
    (kk : ∀ (H1 : Heap) (locs1 : List Loc), ZH D (pre ++ w1) a n (z' + n') s H1 locs1 → W p l e R s m args below meth c H1 locs1 (cells + mc) (slots + ms) Q (F0 m (pc + 3) ls rest)) : W p l e R s m args below meth c H locs cells slots Q (F0 m pc ls st0) := by
  have hts := E.1.2.2.2.2
  have cb : CallB R s args own idx yy bytes maxL none (wU yy bytes maxL none) (rmZ d mc ms) mc ms nn := ⟨rfl, rfl, hR.1, hR.2, wU_pay hts hco, List.mem_cons_self, hts _ hco, hts _ hini, ⟨hnm.2.1, hnm.2.2.1⟩, fun sig h => by have h2 := hnm.2.2.2; rw [h] at h2; exact (Option.some.inj h2).symm, hts _ hl⟩
  exact z_back (va_runI E.1 hM ⟨cb, hnm.1, hts _ hin⟩ (z_pre E hw) rfl hn hsz hst (lv_room hrs) hdg hcs) hw hD2 hsub kk
/-- a call of a nest mate's private constructor -/
theorem z_initN (pre : va_W) (rest : List Value) (E : CZ p m c cc nL s args own D cy) {w1 : va_W} {z' n' mc ms d : Nat} {fs : List Value} (hw : ZH D (pre ++ [(z', .inr (κ, fs))]) a n (z' + 1) s H locs) {yy : MethodName} {bytes : ByteArray} {maxL nn : Nat} {As : List Value} (hM : Met l yy (wU yy bytes maxL none) (rmZ d mc ms) (PcZ D cy z' (.ref z' :: As) [(z', .inr (κ, fs))]) (QcZ D z' n' w1) mc ms (zA z' n')) (hl : Cond.methodLinkNest own idx yy "TwinShelf" ∈ nxS) (hin : Cond.instanceMethod yy ∈ wsL_law) (hco : Cond.code yy bytes maxL none ∈ wsL_law) (hini : Cond.initialized yy.cls ∈ wsL_law) (hnm : yy.name = "<init>" ∧ yy.cls ≠ "java/lang/invoke/MethodHandle" ∧ yy.cls ≠ "java/lang/invoke/VarHandle" ∧ (parseMethodDescriptor yy.desc).map (fun d => d.parameters.length) = some nn) {st0 : List Value} (hn : As.length = nn) (hst : st0 = As.reverse ++ .ref z' :: rest) (hsz : ls.size = nL) (hrs : (rest.map fun v => v.category).sum ≤ 8) (hR : d + 1 ≤ R.frames ∧ 8 + (maxL + 11) + 64 * d ≤ R.locals) (hcs : cells + mc ≤ R.cells ∧ slots + ms ≤ R.slots) (hdg : decode cc pc = .ok (.invokespecial idx, 3)) (hD2 : va_D (zA z' n') w1) (hsub : a ≤ z' ∧ z' + n' ≤ a + n)
    (kk : ∀ (H1 : Heap) (locs1 : List Loc), ZH D (pre ++ w1) a n (z' + n') s H1 locs1 → W p l e R s m args below meth c H1 locs1 (cells + mc) (slots + ms) Q (F0 m (pc + 3) ls rest)) : W p l e R s m args below meth c H locs cells slots Q (F0 m pc ls st0) := by
  have hts := E.1.2.2.2.2
  have cn : va_CN R s args own idx yy "TwinShelf" bytes maxL none (wU yy bytes maxL none) (rmZ d mc ms) mc ms nn := ⟨⟨rfl, rfl, hR.1, hR.2, wU_pay hts hco, List.mem_cons_self⟩, hts _ hco, hts _ hini, ⟨hnm.2.1, hnm.2.2.1⟩, fun sig h => by have h2 := hnm.2.2.2; rw [h] at h2; exact (Option.some.inj h2).symm, va_Nw.use rfl (E.2.2.1 _ hl)⟩
  exact z_back (va_runIN E.1 hM ⟨cn, hnm.1, hts _ hin⟩ (z_pre E hw) rfl hn hsz hst (lv_room hrs) hdg hcs) hw hD2 hsub kk
theorem z_vret (E : CZ p m c cc nL s args own D cy) (hr : meth.sig.returnType = none) (hlk : meth.locks = false) (hw : ZH D ws a n z s H locs) (hz : z = a + n) (hdg : decode cc pc = .ok (.return_, 1)) : W p l e R s m args below meth c H locs cells slots (MQ below (QcZ D a n ws) args s cells slots (zA a n)) (F0 m pc ls []) :=
  W.vret E.1.1 E.1.2.1 hr (fun t ht _ => ⟨rfl, by rw [ht]; exact hw.1, by rw [ht, hw.2.2.2, hz], hw.2.2.1.F ht⟩) hw.2.2.1.2.2 hdg hlk
/-- a constructor's contract out of its walk -/
theorem z_met {yy : MethodName} {bytes : ByteArray} {maxL d mc ms : Nat} {av : List Value} {lv : List (Nat × Value)} {ws0 ws1 : va_W} (hy : plainName yy.cls = true) (hnm : yy.name = "<init>") (hlen : (lg_sl av).length ≤ maxL) (hlv : lv_args 0 av = lv) (hD0 : va_D (zA a n) ws0)
    (body : ∀ (p : Program) (e : Env) (s : State) (m : MethodId) (args : Array Value) (below : List Frame) (meth : Method) (c : Code) (ls : Array Slot), CZ p m c bytes maxL s args yy.cls D cy → meth.sig.returnType = none → meth.locks = false → meth.name = "<init>" → ZH D ws0 a n (a + 1) s s.heap [] → lv_has ls maxL lv → W p l e (rmZ d mc ms) s m args below meth c s.heap [] 0 0 (MQ below (QcZ D a n ws1) args s mc ms (zA a n)) (F0 m 0 ls [])) : Met l yy (wU yy bytes maxL none) (rmZ d mc ms) (PcZ D cy a av ws0) (QcZ D a n ws1) mc ms (zA a n) := by
  refine Met.ofW (cc := bytes) (maxL := maxL) (ret := none) hy rfl ?_
  intro p e s m args below meth c s₁ B hml hv
  obtain ⟨rfl, hK, hN, hz, hP⟩ := hv
  have hts := atoms_spec (ws := wU yy bytes maxL none) B.pre
  have hl := lv_entry av (n := maxL) hlen
  rw [hlv] at hl
  rw [lg_entry_eq]
  exact body p e s m _ below meth c _ ⟨⟨B.exec, B.bytes, hml, findClass_of_methodNamed B.named, fun w h => hts w (List.mem_cons_of_mem _ h)⟩, hK, hN⟩ B.returns B.notSynchronized (hnm ▸ (name_of_methodNamed B.named B.method).1) ⟨hP, hD0, va_S.rf, hz⟩ hl
end ZR
