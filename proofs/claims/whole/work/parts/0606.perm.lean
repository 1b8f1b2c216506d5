section ZP
variable {D : va_G} {cl : List vw_C} {H : Heap} {A : Nat → Prop}
theorem vaP_iff {ws : va_W} : va_P D cl ws H ↔ ∀ q ∈ ws, va_at D cl q H := by
  constructor
  · intro h q hq
    obtain ⟨k, hk⟩ := List.mem_iff_getElem?.mp hq
    exact h k q hk
  · intro h k q hk
    exact h q (List.mem_of_getElem? hk)
theorem vaD_l {u v : va_W} (h : va_D A (u ++ v)) : va_D A u := by
  have g : ∀ (i : Nat) (p : Nat × va_E), u[i]? = some p → (u ++ v)[i]? = some p := fun i p hi => by
    rw [List.getElem?_append_left (List.getElem?_eq_some_iff.mp hi).1]; exact hi
  exact ⟨fun i j p q hi hj e => h.1 i j p q (g i p hi) (g j q hj) e, fun k q hk => h.2 k q (g k q hk)⟩
theorem vaD_r {u v : va_W} (h : va_D A (u ++ v)) : va_D A v := by
  have g : ∀ (i : Nat) (p : Nat × va_E), v[i]? = some p → (u ++ v)[u.length + i]? = some p := fun i p hi => by
    rw [List.getElem?_append_right (Nat.le_add_right _ _), Nat.add_sub_cancel_left]; exact hi
  exact ⟨fun i j p q hi hj e => by have := h.1 _ _ p q (g i p hi) (g j q hj) e; omega, fun k q hk => h.2 _ q (g k q hk)⟩
theorem vaD_dis {u v : va_W} (h : va_D A (u ++ v)) : ∀ p ∈ u, ∀ q ∈ v, p.1 ≠ q.1 := by
  intro p hp q hq e
  obtain ⟨i, hi⟩ := List.mem_iff_getElem?.mp hp
  obtain ⟨j, hj⟩ := List.mem_iff_getElem?.mp hq
  have li := (List.getElem?_eq_some_iff.mp hi).1
  have h1 : (u ++ v)[i]? = some p := by rw [List.getElem?_append_left li]; exact hi
  have h2 : (u ++ v)[u.length + j]? = some q := by rw [List.getElem?_append_right (Nat.le_add_right _ _), Nat.add_sub_cancel_left]; exact hj
  have := h.1 _ _ p q h1 h2 e
  omega
theorem vaD_mk {u v : va_W} (h1 : va_D A u) (h2 : va_D A v) (hd : ∀ p ∈ u, ∀ q ∈ v, p.1 ≠ q.1) : va_D A (u ++ v) := va_D.app h1 h2 (fun _ _ p q hi hj => hd p (List.mem_of_getElem? hi) q (List.mem_of_getElem? hj))
theorem vaD_comm {u v : va_W} (h : va_D A (u ++ v)) : va_D A (v ++ u) := vaD_mk (vaD_r h) (vaD_l h) (fun p hp q hq e => vaD_dis h q hq p hp e.symm)
theorem vaD_swap {t u v : va_W} (h : va_D A (t ++ (u ++ v))) : va_D A (t ++ (v ++ u)) := vaD_mk (vaD_l h) (vaD_comm (vaD_r h)) (fun p hp q hq => vaD_dis h p hp q ((List.mem_append.mp hq).elim (fun z => List.mem_append_right _ z) (fun z => List.mem_append_left _ z)))
theorem vaP_l {w1 w2 : va_W} (h : va_P D cl (w1 ++ w2) H) : va_P D cl w1 H := vaP_iff.mpr fun q hq => vaP_iff.mp h q (List.mem_append_left _ hq)
theorem vaP_r {w1 w2 : va_W} (h : va_P D cl (w1 ++ w2) H) : va_P D cl w2 H := vaP_iff.mpr fun q hq => vaP_iff.mp h q (List.mem_append_right _ hq)
theorem vaP_t {x : Nat × va_E} {w2 : va_W} (h : va_P D cl (x :: w2) H) : va_P D cl w2 H := vaP_iff.mpr fun q hq => vaP_iff.mp h q (List.mem_cons_of_mem _ hq)
theorem vaP_h {x : Nat × va_E} {w2 : va_W} (h : va_P D cl (x :: w2) H) : va_at D cl x H := vaP_iff.mp h x List.mem_cons_self
theorem ZH_swap {D : va_G} {t u v : va_W} {a n z : Nat} {s : State} {locs : List Loc} (h : ZH D (t ++ (u ++ v)) a n z s H locs) : ZH D (t ++ (v ++ u)) a n z s H locs := by
  obtain ⟨h1, h2, h3, h4⟩ := h
  refine ⟨vaP_iff.mpr fun q hq => vaP_iff.mp h1 q ?_, vaD_swap h2, h3, h4⟩
  simp only [List.mem_append] at hq ⊢
  rcases hq with g | g | g
  · exact Or.inl g
  · exact Or.inr (Or.inr g)
  · exact Or.inr (Or.inl g)
theorem ZH_1 {w : va_W} {c0 x : Nat × va_E} {a n z : Nat} {s : State} {locs : List Loc} (h : ZH D (c0 :: (w ++ [x])) a n z s H locs) : ZH D (c0 :: x :: w) a n z s H locs := ZH_swap (t := [c0]) (u := w) (v := [x]) h
theorem ZH_2 {w : va_W} {c0 c1 x : Nat × va_E} {a n z : Nat} {s : State} {locs : List Loc} (h : ZH D (c0 :: ((c1 :: w) ++ [x])) a n z s H locs) : ZH D (c0 :: c1 :: x :: w) a n z s H locs := ZH_swap (t := [c0, c1]) (u := w) (v := [x]) h
end ZP
section ZQ
variable {p : Program} {l : Launch} {e : Env} {R : Room} {s : State} {m : MethodId} {args : Array Value} {below : List Frame} {meth : Method} {c : Code} {H : Heap} {locs : List Loc} {cells slots : Nat} {Q : State → Prop}
variable {cc : ByteArray} {nL : Nat} {pc : Nat} {ls : Array Slot} {rest : List Value} {D : va_G} {cy : Nat → ClassId} {own : String} {idx κ k : Nat} {C : String} {T : u_T} {N : Nat} {a n z x : Nat} {w ws : va_W} {c0 c1 : Nat × va_E}
/-- a field of a cell that the heap holds -/
theorem y_getA {fs : List Value} {v : Value} (E : CZ p m c cc nL s args own D cy) (hat : va_at D vwCl (x, .inr (κ, fs)) H) (F : FW own idx κ k C T N) (hv : fs[k]? = some v) (hdg : decode cc pc = .ok (.getfield idx, 3))
    (kk : W p l e R s m args below meth c H locs cells slots Q (F0 m (pc + 3) ls (v :: rest))) : W p l e R s m args below meth c H locs cells slots Q (F0 m pc ls (.ref x :: rest)) := by
  obtain ⟨f1, f2, f3, f4, f5, f6, f7, f8⟩ := F
  exact va_get (ws := [(x, .inr (κ, fs))]) E.1.1 E.1.2.1 E.1.2.2.2.2 f6 E.1.2.2.2.1 E.2.1 (vaP_iff.mpr fun q hq => by rw [List.mem_singleton.mp hq]; exact hat) 0 rfl f1 k f2 (E.1.2.2.2.2 _ f5) (fun _ h => h) hv hdg kk
/-- a reference comes into a row of references -/
theorem y_astA {v : Nat} {cA : ClassId} {r : vw_C} {N' : Nat} {vs : List Value} {f : Nat → Option Nat} {i : Int32} (E : CZ p m c cc nL s args own D cy) (q0 t0 : Nat) (hw : ZH D ws a n z s H locs) (he : ws[q0]? = some (x, .inl (cA, N', .inr (.inr (.inr (.inr f)))))) (ht : (tysP cy)[t0]? = some (cA, .object r.1)) (hv : va_at D vwCl (v, .inr (κ, vs)) H) (hκ : vwCl[κ]? = some r) (hin : vp_in i N') (hdg : decode cc pc = .ok (.aastore, 1))
    (kk : ∀ (H1 : Heap) (locs1 : List Loc), ZH D (ws.set q0 (x, .inl (cA, N', .inr (.inr (.inr (.inr (va_up f i.toNatClampNeg (some v)))))))) a n z s H1 locs1 → W p l e R s m args below meth c H1 locs1 cells slots Q (F0 m (pc + 1) ls rest)) : W p l e R s m args below meth c H locs cells slots Q (F0 m pc ls (.ref v :: .int i :: .ref x :: rest)) := by
  obtain ⟨hP, hD, hS, hz⟩ := hw
  have hlt : i.toNatClampNeg < N' := Nat.not_le.mp fun q => hin (Or.inr q)
  have h0 : ¬ i < 0 := fun q => hin (Or.inl q)
  obtain ⟨r', hr', cellV, g1, g2, g3, -⟩ := hv
  have hcls := (E.2.1.1 κ r hκ).2
  obtain ⟨kA, comp, k1, k2, k3, -⟩ := (E.2.1.2 t0 _ ht).2
  have hcomp : comp = D.1 κ := Option.some.inj (k3.symm.trans hcls.1)
  subst hcomp
  obtain ⟨kC, hkC, hkd⟩ := hcls.2
  refine W.aast E.1.1 E.1.2.1 (hP q0 _ he) (fun q h => by cases h) (fun h => by cases h) k1 k2 rfl hkC ⟨h0, by show _ < (arrV _ _ _).slots.size; rw [arrV_size]; exact hlt⟩ g1 (fun q h => by rw [g3] at h; cases h) (by rw [g2]; exact hkC) (by rw [g2]; exact va_assign hcls) rfl rfl hdg fun H1 e z1 oq => ?_
  refine kk H1 _ ⟨hP.set hD he ?_ oq, hD.set he, hS.put z1 oq (hD.2 q0 _ he), z1.trans hz⟩
  show H1[x]? = some (vp_cell _ _)
  rw [e]
  rw [vp_cell_q, vp_cell_q, arrV_store]
  congr 2
  funext q
  by_cases hq : q = i.toNatClampNeg
  · subst hq
    simp [updV, va_up, va_rf]
  · simp [updV, va_up, hq]
theorem y_ast1 (g : Nat → Option Nat) {v : Nat} {cA : ClassId} {r : vw_C} {N' : Nat} {vs : List Value} {f : Nat → Option Nat} {i : Int32} (hg : va_up f i.toNatClampNeg (some v) = g) (E : CZ p m c cc nL s args own D cy) (t0 : Nat) (hw : ZH D (c0 :: (x, .inl (cA, N', .inr (.inr (.inr (.inr f))))) :: w) a n z s H locs) (ht : (tysP cy)[t0]? = some (cA, .object r.1)) (hv : va_at D vwCl (v, .inr (κ, vs)) H) (hκ : vwCl[κ]? = some r) (hin : vp_in i N') (hdg : decode cc pc = .ok (.aastore, 1))
    (kk : ∀ (H1 : Heap) (locs1 : List Loc), ZH D (c0 :: (x, .inl (cA, N', .inr (.inr (.inr (.inr g))))) :: w) a n z s H1 locs1 → W p l e R s m args below meth c H1 locs1 cells slots Q (F0 m (pc + 1) ls rest)) : W p l e R s m args below meth c H locs cells slots Q (F0 m pc ls (.ref v :: .int i :: .ref x :: rest)) := by
  subst hg
  exact y_astA E 1 t0 hw rfl ht hv hκ hin hdg kk
theorem y_ast2 (g : Nat → Option Nat) {v : Nat} {cA : ClassId} {r : vw_C} {N' : Nat} {vs : List Value} {f : Nat → Option Nat} {i : Int32} (hg : va_up f i.toNatClampNeg (some v) = g) (E : CZ p m c cc nL s args own D cy) (t0 : Nat) (hw : ZH D (c0 :: c1 :: (x, .inl (cA, N', .inr (.inr (.inr (.inr f))))) :: w) a n z s H locs) (ht : (tysP cy)[t0]? = some (cA, .object r.1)) (hv : va_at D vwCl (v, .inr (κ, vs)) H) (hκ : vwCl[κ]? = some r) (hin : vp_in i N') (hdg : decode cc pc = .ok (.aastore, 1))
    (kk : ∀ (H1 : Heap) (locs1 : List Loc), ZH D (c0 :: c1 :: (x, .inl (cA, N', .inr (.inr (.inr (.inr g))))) :: w) a n z s H1 locs1 → W p l e R s m args below meth c H1 locs1 cells slots Q (F0 m (pc + 1) ls rest)) : W p l e R s m args below meth c H locs cells slots Q (F0 m pc ls (.ref v :: .int i :: .ref x :: rest)) := by
  subst hg
  exact y_astA E 2 t0 hw rfl ht hv hκ hin hdg kk
end ZQ
