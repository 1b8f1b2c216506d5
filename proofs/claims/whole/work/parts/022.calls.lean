section QC
variable {p : Program} {l : Launch} {e : Env} {R : Room} {s : State} {m : MethodId} {args : Array Value} {below : List Frame} {meth : Method} {c : Code} {H : Heap} {locs : List Loc} {cells slots : Nat} {Q : State → Prop}
variable {cc : ByteArray} {nL : Nat} {pc : Nat} {ls : Array Slot} {rest : List Value} {D : va_G} {cy : Nat → ClassId} {Λ : LY} {b : Nat} {σ : ST} {own : String} {idx κ k : Nat} {C : String} {T : u_T} {N : Nat} {x y : Nat}
theorem wU_pay {s : State} {args : Array Value} (hts : ∀ w ∈ wsL_law, w.before args s = true) {y : MethodName} {bytes : ByteArray} {maxL : Nat} {ret : Option FieldType} (hc : Cond.code y bytes maxL ret ∈ wsL_law) : ∀ w ∈ wU y bytes maxL ret, ∀ (a' : Array Value) (U : State), s.WarmedH U.vm → w.before a' U = true := by
  intro w hw a' U hW
  have h2 : w ∈ wsL_law := (List.mem_cons.mp hw).elim (fun h => by rw [h]; exact hc) id
  exact word_at hW (wsL_good w h2) (hts w h2)
theorem q_blind {av : List Value} : FrameBlind (PcP D cy Λ b av σ) := fun a U g mk q => ⟨q.1, va_K.moved (u := U) (U := U.calling g mk a) (Vm.Alike.refl U.vm) q.2.1, q.2.2.1, SX_same q.2.2.2 rfl rfl⟩
/-- what comes back from a call over the pool -/
theorem q_back {rv : Option Value} {τ : ST} {st0 : List Value} {a : Array Value} (hr : va_Run p l e R s m args below meth c H locs cells slots 0 0 (F0 m pc ls st0) rest (QcP D cy Λ b rv τ a) (inP Λ b)) (hw : PH D cy Λ b σ s H locs)
    (kk : ∀ (H1 : Heap) (locs1 : List Loc), PH D cy Λ b τ s H1 locs1 → W p l e R s m args below meth c H1 locs1 cells slots Q (F0 m (pc + 3) ls (rv.toList ++ rest))) : W p l e R s m args below meth c H locs cells slots Q (F0 m pc ls st0) := by
  intro T hT X
  obtain ⟨v, st₀, t, T', L, h0, X', hL, e1, e2, ⟨hv, hp, hz, hk⟩, st⟩ := hr T hT X
  cases hv
  rw [h0] at hz hk
  obtain ⟨t2, a1, b1⟩ := kk T'.heap (locs ++ L) ⟨by rw [e1]; exact hp, ⟨Nat.le_trans hw.2.1.1 (by rw [e1]; exact hz), fun q h1 h2 => by rw [e1, hk q (Nat.lt_of_lt_of_le h1 hw.2.1.1) h2]; exact hw.2.1.2.1 q h1 h2, fun q hq => by
      rcases List.mem_append.mp hq with h | h
      · exact hw.2.1.2.2 q h
      · exact hL q h⟩, hw.2.2⟩ T' rfl X'
  exact ⟨t2, st t2 a1, b1⟩
theorem q_pre (E : CX p m c cc nL s args own D cy Λ) (hw : PH D cy Λ b σ s H locs) {As : List Value} : PreS s H (PcP D cy Λ b As σ) As := ⟨q_blind, fun U hU hW => ⟨rfl, va_K.moved hW.alike E.2.1, by rw [hU]; exact hw.1, SX_to hw.2.2 hw.2.1 hU hW⟩⟩
/-- a virtual call over the pool -/
theorem q_cV (E : CX p m c cc nL s args own D cy Λ) (hw : PH D cy Λ b σ s H locs) {yy : MethodName} {bytes : ByteArray} {maxL n d : Nat} {ret : Option FieldType} (M : MW own idx C yy bytes maxL ret n) {As : List Value} {rv : Option Value} {τ : ST} (hM : Met l yy (wU yy bytes maxL ret) (rmD d) (PcP D cy Λ b (.ref (b + x) :: As) σ) (QcP D cy Λ b rv τ) 0 0 (inP Λ b)) (hκ : vwCl[κ]? = some (C, T, N)) (h13 : κ < 13) (hk : Λ.1 x = κ) {st0 : List Value} (hn : As.length = n) (hst : st0 = As.reverse ++ .ref (b + x) :: rest) (hsz : ls.size = nL) (hrs : (rest.map fun v => v.category).sum ≤ 8) (hR : d + 1 ≤ R.frames ∧ 8 + (maxL + 11) + 64 * d ≤ R.locals) (hcs : cells ≤ R.cells ∧ slots ≤ R.slots) (hdg : decode cc pc = .ok (.invokevirtual idx, 3))
    (kk : ∀ (H1 : Heap) (locs1 : List Loc), PH D cy Λ b τ s H1 locs1 → W p l e R s m args below meth c H1 locs1 cells slots Q (F0 m (pc + 3) ls (rv.toList ++ rest))) : W p l e R s m args below meth c H locs cells slots Q (F0 m pc ls st0) := by
  obtain ⟨m1, m2, m3, m4, m5, m6, m7, m8, m9⟩ := M
  have hts := E.1.2.2.2.2
  have hini : (Cond.initialized yy.cls).before args s = true := by rw [m6]; exact hts _ m4
  have he : (wsP cy Λ b σ)[x]? = some (b + x, .inr (κ, fsC Λ b σ x κ)) := by rw [wsP_at (q_lt E hk (by omega)), CE_obj hk h13]
  have cw : CallW R s args own C idx yy bytes maxL ret (wU yy bytes maxL ret) (rmD d) 0 0 n := ⟨⟨rfl, rfl, hR.1, hR.2, wU_pay hts m5, List.mem_cons_self, hts _ m5, hini, ⟨m7, m8⟩, fun sig h => by rw [h] at m9; exact (Option.some.inj m9).symm, hts _ m1⟩, hts _ m2, hts _ m3⟩
  exact q_back (va_runV E.1 hM cw ⟨q_blind, va_recv E.2.1 hw.1 hκ he, (q_pre E hw).2⟩ rfl hn hsz hst (lv_room hrs) hdg ⟨hcs.1, hcs.2⟩) hw kk
/-- a static call over the pool -/
theorem q_cS (E : CX p m c cc nL s args own D cy Λ) (hw : PH D cy Λ b σ s H locs) {yy : MethodName} {bytes : ByteArray} {maxL n d : Nat} {ret : Option FieldType} (M : MS own idx yy bytes maxL ret n) {As : List Value} {rv : Option Value} {τ : ST} (hM : Met l yy (wU yy bytes maxL ret) (rmD d) (PcP D cy Λ b As σ) (QcP D cy Λ b rv τ) 0 0 (inP Λ b)) {st0 : List Value} (hn : As.length = n) (hst : st0 = As.reverse ++ rest) (hsz : ls.size = nL) (hrs : (rest.map fun v => v.category).sum ≤ 8) (hR : d + 1 ≤ R.frames ∧ 8 + (maxL + 11) + 64 * d ≤ R.locals) (hcs : cells ≤ R.cells ∧ slots ≤ R.slots) (hdg : decode cc pc = .ok (.invokestatic idx, 3))
    (kk : ∀ (H1 : Heap) (locs1 : List Loc), PH D cy Λ b τ s H1 locs1 → W p l e R s m args below meth c H1 locs1 cells slots Q (F0 m (pc + 3) ls (rv.toList ++ rest))) : W p l e R s m args below meth c H locs cells slots Q (F0 m pc ls st0) := by
  obtain ⟨m1, m2, m4, m5, m7, m8, m9⟩ := M
  have hts := E.1.2.2.2.2
  have cw : CallB R s args own idx yy bytes maxL ret (wU yy bytes maxL ret) (rmD d) 0 0 n ∧ (Cond.static yy).before args s = true := ⟨⟨rfl, rfl, hR.1, hR.2, wU_pay hts m5, List.mem_cons_self, hts _ m5, hts _ m4, ⟨m7, m8⟩, fun sig h => by rw [h] at m9; exact (Option.some.inj m9).symm, hts _ m1⟩, hts _ m2⟩
  exact q_back (va_runS E.1 hM cw (q_pre E hw) rfl hn hsz hst (lv_room hrs) hdg ⟨hcs.1, hcs.2⟩) hw kk
/-- the contract out of a walk from the entry -/
theorem q_met {yy : MethodName} {bytes : ByteArray} {maxL d : Nat} {ret : Option FieldType} {av : List Value} {rv : Option Value} {τ : ST} {lv : List (Nat × Value)} (hΛ : LOK Λ) (hy : plainName yy.cls = true) (hlen : (lg_sl av).length ≤ maxL) (hlv : lv_args 0 av = lv)
    (body : ∀ (p : Program) (e : Env) (s : State) (m : MethodId) (args : Array Value) (below : List Frame) (meth : Method) (c : Code) (ls : Array Slot), CX p m c bytes maxL s args yy.cls D cy Λ → meth.sig.returnType = ret → meth.locks = false → PH D cy Λ b σ s s.heap [] → lv_has ls maxL lv → W p l e (rmD d) s m args below meth c s.heap [] 0 0 (MQ below (QcP D cy Λ b rv τ) args s 0 0 (inP Λ b)) (F0 m 0 ls [])) : Met l yy (wU yy bytes maxL ret) (rmD d) (PcP D cy Λ b av σ) (QcP D cy Λ b rv τ) 0 0 (inP Λ b) := by
  refine Met.ofW (cc := bytes) (maxL := maxL) (ret := ret) hy rfl ?_
  intro p e s m args below meth c s₁ B hml hv
  obtain ⟨rfl, hK, hP, hX⟩ := hv
  have hts := atoms_spec (ws := wU yy bytes maxL ret) B.pre
  have hl := lv_entry av (n := maxL) hlen
  rw [hlv] at hl
  rw [lg_entry_eq]
  exact body p e s m _ below meth c _ ⟨⟨B.exec, B.bytes, hml, findClass_of_methodNamed B.named, fun w h => hts w (List.mem_cons_of_mem _ h)⟩, hK, hΛ⟩ B.returns B.notSynchronized ⟨hP, va_S.rf, hX⟩ hl
theorem q_iret (E : CX p m c cc nL s args own D cy Λ) (hr : meth.sig.returnType = some .int) (hlk : meth.locks = false) (hw : PH D cy Λ b σ s H locs) {v : Int32} {r : Int32 × ST} (hm : some (v, σ) = some r) (hdg : decode cc pc = .ok (.ireturn, 1)) : W p l e R s m args below meth c H locs 0 0 (MQ below (QcP D cy Λ b (some (.int r.1)) r.2) args s 0 0 (inP Λ b)) (F0 m pc ls [.int v]) := by
  cases hm
  exact W.iret E.1.1 E.1.2.1 hr (fun t ht _ => ⟨rfl, by rw [ht]; exact hw.1, hw.2.1.F ht⟩) hw.2.1.2.2 hdg hlk
theorem q_zret (E : CX p m c cc nL s args own D cy Λ) (hr : meth.sig.returnType = some .boolean) (hlk : meth.locks = false) (hw : PH D cy Λ b σ s H locs) {v : Int32} {r : Int32 × ST} (hm : (ckZ v).bind (fun v => some (v, σ)) = some r) (hdg : decode cc pc = .ok (.ireturn, 1)) : W p l e R s m args below meth c H locs 0 0 (MQ below (QcP D cy Λ b (some (.int r.1)) r.2) args s 0 0 (inP Λ b)) (F0 m pc ls [.int v]) := by
  obtain ⟨v', hv', hm⟩ := o_bd hm
  obtain ⟨hz, hv2⟩ := o_ps hv'
  cases hv2
  cases hm
  exact W.zret E.1.1 E.1.2.1 hr (by rcases hz with rfl | rfl <;> rfl) (fun t ht _ => ⟨rfl, by rw [ht]; exact hw.1, hw.2.1.F ht⟩) hw.2.1.2.2 hdg hlk
theorem q_lret (E : CX p m c cc nL s args own D cy Λ) (hr : meth.sig.returnType = some .long) (hlk : meth.locks = false) (hw : PH D cy Λ b σ s H locs) {v : Int64} {r : Int64 × ST} (hm : some (v, σ) = some r) (hdg : decode cc pc = .ok (.lreturn, 1)) : W p l e R s m args below meth c H locs 0 0 (MQ below (QcP D cy Λ b (some (.long r.1)) r.2) args s 0 0 (inP Λ b)) (F0 m pc ls [.long v]) := by
  cases hm
  exact W.lret E.1.1 E.1.2.1 hr (fun t ht _ => ⟨rfl, by rw [ht]; exact hw.1, hw.2.1.F ht⟩) hw.2.1.2.2 hdg hlk
theorem q_vret (E : CX p m c cc nL s args own D cy Λ) (hr : meth.sig.returnType = none) (hlk : meth.locks = false) (hw : PH D cy Λ b σ s H locs) {r : ST} (hm : some σ = some r) (hdg : decode cc pc = .ok (.return_, 1)) : W p l e R s m args below meth c H locs 0 0 (MQ below (QcP D cy Λ b none r) args s 0 0 (inP Λ b)) (F0 m pc ls []) := by
  cases hm
  exact W.vret E.1.1 E.1.2.1 hr (fun t ht _ => ⟨rfl, by rw [ht]; exact hw.1, hw.2.1.F ht⟩) hw.2.1.2.2 hdg hlk
theorem o_t {α : Type} {cnd : Prop} [Decidable cnd] {a b : Option α} {r : α} (h : cnd) (hm : (if cnd then a else b) = some r) : a = some r := by rw [if_pos h] at hm; exact hm
theorem o_f {α : Type} {cnd : Prop} [Decidable cnd] {a b : Option α} {r : α} (h : ¬ cnd) (hm : (if cnd then a else b) = some r) : b = some r := by rw [if_neg h] at hm; exact hm
theorem q_idiv (E : CX p m c cc nL s args own D cy Λ) {u v : Int32} {α : Type} {f : Int32 → Option α} {r : α} (hm : (dvI u v).bind f = some r) (hdg : decode cc pc = .ok (.idiv, 1)) (kk : ∀ w, f w = some r → W p l e R s m args below meth c H locs cells slots Q (F0 m (pc + 1) ls (.int w :: rest))) : W p l e R s m args below meth c H locs cells slots Q (F0 m pc ls (.int v :: .int u :: rest)) := by
  obtain ⟨w, hv, hm⟩ := o_bd hm
  obtain ⟨hi, rfl⟩ := o_nt hv
  exact lv_idiv E.1.1 E.1.2.1 hdg hi (kk _ hm)
theorem q_irem (E : CX p m c cc nL s args own D cy Λ) {u v : Int32} {α : Type} {f : Int32 → Option α} {r : α} (hm : (rmI u v).bind f = some r) (hdg : decode cc pc = .ok (.irem, 1)) (kk : ∀ w, f w = some r → W p l e R s m args below meth c H locs cells slots Q (F0 m (pc + 1) ls (.int w :: rest))) : W p l e R s m args below meth c H locs cells slots Q (F0 m pc ls (.int v :: .int u :: rest)) := by
  obtain ⟨w, hv, hm⟩ := o_bd hm
  obtain ⟨hi, rfl⟩ := o_nt hv
  exact lv_irem E.1.1 E.1.2.1 hdg hi (kk _ hm)
theorem q_ldiv (E : CX p m c cc nL s args own D cy Λ) {u v : Int64} {α : Type} {f : Int64 → Option α} {r : α} (hm : (dvL u v).bind f = some r) (hdg : decode cc pc = .ok (.ldiv, 1)) (kk : ∀ w, f w = some r → W p l e R s m args below meth c H locs cells slots Q (F0 m (pc + 1) ls (.long w :: rest))) : W p l e R s m args below meth c H locs cells slots Q (F0 m pc ls (.long v :: .long u :: rest)) := by
  obtain ⟨w, hv, hm⟩ := o_bd hm
  obtain ⟨hi, rfl⟩ := o_nt hv
  exact lv_ldiv E.1.1 E.1.2.1 hdg hi (kk _ hm)
theorem q_lrem (E : CX p m c cc nL s args own D cy Λ) {u v : Int64} {α : Type} {f : Int64 → Option α} {r : α} (hm : (rmL u v).bind f = some r) (hdg : decode cc pc = .ok (.lrem, 1)) (kk : ∀ w, f w = some r → W p l e R s m args below meth c H locs cells slots Q (F0 m (pc + 1) ls (.long w :: rest))) : W p l e R s m args below meth c H locs cells slots Q (F0 m pc ls (.long v :: .long u :: rest)) := by
  obtain ⟨w, hv, hm⟩ := o_bd hm
  obtain ⟨hi, rfl⟩ := o_nt hv
  exact lv_lrem E.1.1 E.1.2.1 hdg hi (kk _ hm)
/-- a literal -/
theorem q_ldcS {rest : List Value} (E : CX p m c cc nL s args own D cy Λ) (hw : PH D cy Λ b σ s H locs) {tx : String} {i : Nat} (hq : (own, idx, tx, i) ∈ refS) (hdg : decode cc pc = .ok (.ldc idx, 2))
    (kk : W p l e R s m args below meth c H locs cells slots Q (F0 m (pc + 2) ls (.ref (cy (100 + i)) :: rest))) : W p l e R s m args below meth c H locs cells slots Q (F0 m pc ls rest) :=
  va_ldcS E.1.1 E.1.2.1 E.1.2.2.2.1 (hw.2.2.2.1 _ hq) hdg kk
theorem q_getV {rest : List Value} (E : CX p m c cc nL s args own D cy Λ) (hw : PH D cy Λ b σ s H locs) {i : Nat} (hi : i < 15) (hl : Cond.fieldLink own idx "java/lang/String" "value" "[B" ∈ wsL_law) (hdg : decode cc pc = .ok (.getfield idx, 3))
    (kk : W p l e R s m args below meth c H locs cells slots Q (F0 m (pc + 3) ls (.ref (cy (200 + i)) :: rest))) : W p l e R s m args below meth c H locs cells slots Q (F0 m pc ls (.ref (cy (100 + i)) :: rest)) :=
  vk_getf E.1.1 E.1.2.1 (hw.2.2.1.1 i hi).2.2.1 hw.2.1 E.1.2.2.2.1 (E.1.2.2.2.2 _ hl) (fun _ h => h) hdg kk
theorem q_getC {rest : List Value} (E : CX p m c cc nL s args own D cy Λ) (hw : PH D cy Λ b σ s H locs) {i : Nat} (hi : i < 15) (hl : Cond.fieldLink own idx "java/lang/String" "coder" "B" ∈ wsL_law) (hdg : decode cc pc = .ok (.getfield idx, 3))
    (kk : W p l e R s m args below meth c H locs cells slots Q (F0 m (pc + 3) ls (.int 0 :: rest))) : W p l e R s m args below meth c H locs cells slots Q (F0 m pc ls (.ref (cy (100 + i)) :: rest)) :=
  vk_getf E.1.1 E.1.2.1 (hw.2.2.1.1 i hi).2.1 hw.2.1 E.1.2.2.2.1 (E.1.2.2.2.2 _ hl) (fun _ h => h) hdg kk
theorem q_cmps {rest : List Value} (E : CX p m c cc nL s args own D cy Λ) (hw : PH D cy Λ b σ s H locs) (hl : Cond.fieldLink own idx "java/lang/String" "COMPACT_STRINGS" "Z" ∈ wsL_law) (hdg : decode cc pc = .ok (.getstatic idx, 3))
    (kk : W p l e R s m args below meth c H locs cells slots Q (F0 m (pc + 3) ls (.int 1 :: rest))) : W p l e R s m args below meth c H locs cells slots Q (F0 m pc ls rest) :=
  va_gets E.1.1 E.1.2.1 hw.2.2.2.2.1 hw.2.1 E.1.2.2.2.1 (E.1.2.2.2.2 _ hl) (fun _ h => h) hdg kk
theorem q_sio {rest : List Value} (E : CX p m c cc nL s args own D cy Λ) (hw : PH D cy Λ b σ s H locs) (hl : Cond.fieldLink own idx "jdk/internal/util/Preconditions" "SIOOBE_FORMATTER" "Ljava/util/function/BiFunction;" ∈ wsL_law) (hdg : decode cc pc = .ok (.getstatic idx, 3))
    (kk : ∀ o : Option Nat, W p l e R s m args below meth c H locs cells slots Q (F0 m (pc + 3) ls (va_rf o :: rest))) : W p l e R s m args below meth c H locs cells slots Q (F0 m pc ls rest) := by
  rcases hw.2.2.2.2.2 with h | ⟨t, h⟩
  · exact va_gets E.1.1 E.1.2.1 h hw.2.1 E.1.2.2.2.1 (E.1.2.2.2.2 _ hl) (fun _ h => h) hdg (kk none)
  · exact va_gets E.1.1 E.1.2.1 h hw.2.1 E.1.2.2.2.1 (E.1.2.2.2.2 _ hl) (fun _ h => h) hdg (kk (some t))
theorem q_slen {rest : List Value} (E : CX p m c cc nL s args own D cy Λ) (hw : PH D cy Λ b σ s H locs) {i : Nat} (hi : i < 15) (hdg : decode cc pc = .ok (.arraylength, 1))
    (kk : W p l e R s m args below meth c H locs cells slots Q (F0 m (pc + 1) ls (.int (Int32.ofNat (lenS.getD i 0)) :: rest))) : W p l e R s m args below meth c H locs cells slots Q (F0 m pc ls (.ref (cy (200 + i)) :: rest)) :=
  va_tlen E.1.1 E.1.2.1 (hw.2.2.1.1 i hi).2.2.2 hw.2.1 rfl hdg kk
theorem q_sald {rest : List Value} (E : CX p m c cc nL s args own D cy Λ) (hw : PH D cy Λ b σ s H locs) {i : Nat} (hi : i < 15) {j : Int32} {α : Type} {f : Int32 → Option α} {r : α} (hm : (ldS i j).bind f = some r) (hdg : decode cc pc = .ok (.baload, 1))
    (kk : ∀ v : Int32, f v = some r → W p l e R s m args below meth c H locs cells slots Q (F0 m (pc + 1) ls (.int v :: rest))) : W p l e R s m args below meth c H locs cells slots Q (F0 m pc ls (.int j :: .ref (cy (200 + i)) :: rest)) := by
  obtain ⟨v, hv, hm⟩ := o_bd hm
  obtain ⟨hj, rfl⟩ := o_nt hv
  exact va_tb E.1.1 E.1.2.1 (hw.2.2.1.1 i hi).2.2.2 hw.2.1 hj rfl hdg (kk _ hm)
theorem q_nret (E : CX p m c cc nL s args own D cy Λ) {ty : FieldType} (hr : meth.sig.returnType = some ty) (hlk : meth.locks = false) (hw : PH D cy Λ b σ s H locs) {v : Int32} {r : Int32 × ST} (hm : (ckN ty v).bind (fun v => some (v, σ)) = some r) (hdg : decode cc pc = .ok (.ireturn, 1)) : W p l e R s m args below meth c H locs 0 0 (MQ below (QcP D cy Λ b (some (.int r.1)) r.2) args s 0 0 (inP Λ b)) (F0 m pc ls [.int v]) := by
  obtain ⟨v', hv', hm⟩ := o_bd hm
  obtain ⟨hz, hv2⟩ := o_ps hv'
  cases hv2
  cases hm
  exact W.zret E.1.1 E.1.2.1 hr hz (fun t ht _ => ⟨rfl, by rw [ht]; exact hw.1, hw.2.1.F ht⟩) hw.2.1.2.2 hdg hlk
/-- a literal goes back: its place -/
theorem q_sret (E : CX p m c cc nL s args own D cy Λ) (hr : meth.sig.returnType = some (.object "java/lang/String")) (hlk : meth.locks = false) (hw : PH D cy Λ b σ s H locs) {i : Nat} {r : Nat × ST} (hm : some (i, σ) = some r) (hdg : decode cc pc = .ok (.areturn, 1)) : W p l e R s m args below meth c H locs 0 0 (MQ below (QcP D cy Λ b (some (.ref (cy (100 + r.1)))) r.2) args s 0 0 (inP Λ b)) (F0 m pc ls [.ref (cy (100 + i))]) := by
  cases hm
  exact W.aret E.1.1 E.1.2.1 hr (Or.inl ⟨_, rfl⟩) (Or.inr ⟨_, rfl⟩) (fun t ht _ => ⟨rfl, by rw [ht]; exact hw.1, hw.2.1.F ht⟩) hw.2.1.2.2 hdg hlk
/-- a call of a literal's method -/
theorem q_cT (E : CX p m c cc nL s args own D cy Λ) (hw : PH D cy Λ b σ s H locs) {yy : MethodName} {bytes : ByteArray} {maxL n d : Nat} {ret : Option FieldType} (M : MW own idx "java/lang/String" yy bytes maxL ret n) {As : List Value} {rv : Option Value} {τ : ST} {i : Nat} (hM : Met l yy (wU yy bytes maxL ret) (rmD d) (PcP D cy Λ b (.ref (cy (100 + i)) :: As) σ) (QcP D cy Λ b rv τ) 0 0 (inP Λ b)) (hi : i < 15) {st0 : List Value} (hn : As.length = n) (hst : st0 = As.reverse ++ .ref (cy (100 + i)) :: rest) (hsz : ls.size = nL) (hrs : (rest.map fun v => v.category).sum ≤ 8) (hR : d + 1 ≤ R.frames ∧ 8 + (maxL + 11) + 64 * d ≤ R.locals) (hcs : cells ≤ R.cells ∧ slots ≤ R.slots) (hdg : decode cc pc = .ok (.invokevirtual idx, 3))
    (kk : ∀ (H1 : Heap) (locs1 : List Loc), PH D cy Λ b τ s H1 locs1 → W p l e R s m args below meth c H1 locs1 cells slots Q (F0 m (pc + 3) ls (rv.toList ++ rest))) : W p l e R s m args below meth c H locs cells slots Q (F0 m pc ls st0) := by
  obtain ⟨m1, m2, m3, m4, m5, m6, m7, m8, m9⟩ := M
  have hts := E.1.2.2.2.2
  have hini : (Cond.initialized yy.cls).before args s = true := by rw [m6]; exact hts _ m4
  have cw : CallW R s args own "java/lang/String" idx yy bytes maxL ret (wU yy bytes maxL ret) (rmD d) 0 0 n := ⟨⟨rfl, rfl, hR.1, hR.2, wU_pay hts m5, List.mem_cons_self, hts _ m5, hini, ⟨m7, m8⟩, fun sig h => by rw [h] at m9; exact (Option.some.inj m9).symm, hts _ m1⟩, hts _ m2, hts _ m3⟩
  exact q_back (va_runV E.1 hM cw ⟨q_blind, vk_recv hw.2.2.1 hi hw.2.1, (q_pre E hw).2⟩ rfl hn hsz hst (lv_room hrs) hdg ⟨hcs.1, hcs.2⟩) hw kk
theorem q_cTi (rest : List Value) (E : CX p m c cc nL s args own D cy Λ) (hw : PH D cy Λ b σ s H locs) {yy : MethodName} {bytes : ByteArray} {maxL n d : Nat} {ret : Option FieldType} {As : List Value} {α : Type} {r : α} {g : Option (Int32 × ST)} {f : Int32 × ST → Option α} (hm : g.bind f = some r) (M : MW own idx "java/lang/String" yy bytes maxL ret n) {i : Nat} (hM : ∀ u, g = some u → Met l yy (wU yy bytes maxL ret) (rmD d) (PcP D cy Λ b (.ref (cy (100 + i)) :: As) σ) (QcP D cy Λ b (some (.int u.1)) u.2) 0 0 (inP Λ b)) (hi : i < 15) {st0 : List Value} (hn : As.length = n) (hst : st0 = As.reverse ++ .ref (cy (100 + i)) :: rest) (hsz : ls.size = nL) (hrs : (rest.map fun v => v.category).sum ≤ 8) (hR : d + 1 ≤ R.frames ∧ 8 + (maxL + 11) + 64 * d ≤ R.locals) (hdg : decode cc pc = .ok (.invokevirtual idx, 3))
    (kk : ∀ (u : Int32 × ST) (H1 : Heap) (locs1 : List Loc), f u = some r → PH D cy Λ b u.2 s H1 locs1 → W p l e R s m args below meth c H1 locs1 0 0 Q (F0 m (pc + 3) ls (.int u.1 :: rest))) : W p l e R s m args below meth c H locs 0 0 Q (F0 m pc ls st0) := by
  obtain ⟨u, hu, hm⟩ := o_bd hm
  exact q_cT E hw M (hM u hu) hi hn hst hsz hrs hR ⟨Nat.zero_le _, Nat.zero_le _⟩ hdg fun H1 locs1 hw1 => kk u H1 locs1 hm hw1
theorem q_cSs (rest : List Value) (E : CX p m c cc nL s args own D cy Λ) (hw : PH D cy Λ b σ s H locs) {yy : MethodName} {bytes : ByteArray} {maxL n d : Nat} {ret : Option FieldType} {As : List Value} {α : Type} {r : α} {g : Option (Nat × ST)} {f : Nat × ST → Option α} (hm : g.bind f = some r) (M : MS own idx yy bytes maxL ret n) (hM : ∀ u, g = some u → Met l yy (wU yy bytes maxL ret) (rmD d) (PcP D cy Λ b As σ) (QcP D cy Λ b (some (.ref (cy (100 + u.1)))) u.2) 0 0 (inP Λ b)) {st0 : List Value} (hn : As.length = n) (hst : st0 = As.reverse ++ rest) (hsz : ls.size = nL) (hrs : (rest.map fun v => v.category).sum ≤ 8) (hR : d + 1 ≤ R.frames ∧ 8 + (maxL + 11) + 64 * d ≤ R.locals) (hdg : decode cc pc = .ok (.invokestatic idx, 3))
    (kk : ∀ (u : Nat × ST) (H1 : Heap) (locs1 : List Loc), f u = some r → PH D cy Λ b u.2 s H1 locs1 → W p l e R s m args below meth c H1 locs1 0 0 Q (F0 m (pc + 3) ls (.ref (cy (100 + u.1)) :: rest))) : W p l e R s m args below meth c H locs 0 0 Q (F0 m pc ls st0) := by
  obtain ⟨u, hu, hm⟩ := o_bd hm
  exact q_cS E hw M (hM u hu) hn hst hsz hrs hR ⟨Nat.zero_le _, Nat.zero_le _⟩ hdg fun H1 locs1 hw1 => kk u H1 locs1 hm hw1
end QC
