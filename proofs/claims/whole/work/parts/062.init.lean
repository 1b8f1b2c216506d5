def zW_X12 (cy : Nat → ClassId) (a : Nat) : va_W := (a, .inr (12, [.ref (a + 1), .ref (a + 2), .int 0, .long 0, .long 1, .ref (a + 3), .ref (a + 4), .ref (a + 5), .ref (a + 6), .ref (a + 7), .int 0, .int 0, .int 0, .int 0, .int 0, .int 0, .int (-1), .int (-1), .int 0, .int 0, .ref (a + 8), .int 0, .int 0, .ref (a + 9), .ref (a + 10), .ref (a + 11), .ref (a + 12), .int 0, .int (-1), .ref (a + 13), .int 0, .ref (a + 14), .int 0, .ref (a + 15), .ref (a + 16), .ref (a + 17), .int 0, .ref (a + 18), .ref (a + 19), .int 0, .int 0, .ref (a + 20), .ref (a + 21), .ref (a + 22), .int 0, .int 0, .int 0])) :: ([] ++ [((a + 1), .inl (cy 0, 29600, .inl (fun _ => 0)))] ++ [((a + 2), .inl (cy 1, 70, .inr (.inl (fun _ => 0))))] ++ [((a + 3), .inl (cy 0, 4, .inl (fun _ => 0)))] ++ [((a + 4), .inl (cy 0, 4, .inl (upd (upd (upd (upd (fun _ => 0) 0 (-1)) 1 (-1)) 2 (-1)) 3 (-1))))] ++ [((a + 5), .inl (cy 1, 240, .inr (.inl (fun _ => 0))))] ++ [((a + 6), .inl (cy 2, 900, .inl (fun _ => 0)))] ++ [((a + 7), .inl (cy 2, 900, .inl (fun _ => 0)))] ++ [((a + 8), .inl (cy 0, 3, .inl (fun _ => 0)))] ++ [((a + 9), .inl (cy 0, 6, .inl (fun _ => 0)))] ++ [((a + 10), .inl (cy 0, 180, .inl (fun _ => 0)))] ++ [((a + 11), .inl (cy 0, 180, .inl (fun _ => 0)))] ++ [((a + 12), .inl (cy 0, 180, .inl (fun _ => 0)))] ++ [((a + 13), .inl (cy 0, 6, .inl (fun _ => 0)))] ++ [((a + 14), .inl (cy 0, 180, .inl (fun _ => 0)))] ++ [((a + 15), .inl (cy 0, 15, .inl (fun _ => 0)))] ++ [((a + 16), .inl (cy 0, 15, .inl (fun _ => 0)))] ++ [((a + 17), .inl (cy 0, 5, .inl (fun _ => 0)))] ++ [((a + 18), .inl (cy 3, 1001, .inl (fun _ => 0)))] ++ [((a + 19), .inl (cy 0, 3700, .inl (fun _ => 0)))] ++ [((a + 20), .inl (cy 0, 80, .inl (fun _ => 0)))] ++ [((a + 21), .inl (cy 0, 6, .inl (fun _ => 0)))] ++ [((a + 22), .inl (cy 0, 6, .inl (fun _ => 0)))])
theorem ar_13 {D : va_G} {cy : Nat → ClassId} {a x n : Nat} {f : Nat → Int32} {H : Heap} (h1 : LR.1 x = 13) (h2 : LR.2.2.1 x = n) (h3 : gA s0R x = f) (h : va_at D vwCl (a + x, .inl (cy 0, n, .inl f)) H) : va_at D vwCl (a + x, CE cy LR a s0R x) H := by
  rw [CE_13 h1, h2, h3]; exact h
theorem ar_14 {D : va_G} {cy : Nat → ClassId} {a x n : Nat} {H : Heap} (h1 : LR.1 x = 14) (h2 : LR.2.2.1 x = n) (h : va_at D vwCl (a + x, .inl (cy 1, n, .inr (.inl (fun _ => 0)))) H) : va_at D vwCl (a + x, CE cy LR a s0R x) H := by
  rw [CE_14 h1, h2]; exact h
theorem ar_15 {D : va_G} {cy : Nat → ClassId} {a x n : Nat} {f : Nat → Int32} {H : Heap} (h1 : LR.1 x = 15) (h2 : LR.2.2.1 x = n) (h3 : gA s0R x = f) (h : va_at D vwCl (a + x, .inl (cy 2, n, .inl f)) H) : va_at D vwCl (a + x, CE cy LR a s0R x) H := by
  rw [CE_15 h1, h2, h3]; exact h
theorem ar_16 {D : va_G} {cy : Nat → ClassId} {a x n : Nat} {f : Nat → Int32} {H : Heap} (h1 : LR.1 x = 16) (h2 : LR.2.2.1 x = n) (h3 : gA s0R x = f) (h : va_at D vwCl (a + x, .inl (cy 3, n, .inl f)) H) : va_at D vwCl (a + x, CE cy LR a s0R x) H := by
  rw [CE_16 h1, h2, h3]; exact h
theorem ar_ob {D : va_G} {cy : Nat → ClassId} {a x κ : Nat} {fs : List Value} {H : Heap} (h1 : LR.1 x = κ) (hκ : κ < 13) (h2 : fsC LR a s0R x κ = fs) (h : va_at D vwCl (a + x, .inr (κ, fs)) H) : va_at D vwCl (a + x, CE cy LR a s0R x) H := by
  rw [CE_obj h1 hκ, h2]; exact h
set_option maxRecDepth 100000 in
set_option maxHeartbeats 8000000 in
theorem s0R_P {D : va_G} {cy : Nat → ClassId} {a : Nat} {H : Heap} (h : va_P D vwCl (zW_X12 cy a) H) : va_P D vwCl (wsP cy LR a s0R) H := by
  unfold zW_X12 at h
  intro k q hk
  have hl : k < 23 := by
    have h9 := (List.getElem?_eq_some_iff.mp hk).1
    have h8 : k < LR.2.2.2 := by simpa [wsP] using h9
    exact h8
  rw [wsP_at hl] at hk
  cases hk
  have f_0 : va_at D vwCl (a + 0, CE cy LR a s0R 0) H := ar_ob (x := 0) (κ := 12) (fs := [.ref (a + 1), .ref (a + 2), .int 0, .long 0, .long 1, .ref (a + 3), .ref (a + 4), .ref (a + 5), .ref (a + 6), .ref (a + 7), .int 0, .int 0, .int 0, .int 0, .int 0, .int 0, .int (-1), .int (-1), .int 0, .int 0, .ref (a + 8), .int 0, .int 0, .ref (a + 9), .ref (a + 10), .ref (a + 11), .ref (a + 12), .int 0, .int (-1), .ref (a + 13), .int 0, .ref (a + 14), .int 0, .ref (a + 15), .ref (a + 16), .ref (a + 17), .int 0, .ref (a + 18), .ref (a + 19), .int 0, .int 0, .ref (a + 20), .ref (a + 21), .ref (a + 22), .int 0, .int 0, .int 0]) rfl (by decide) rfl (vaP_h h)
  have f_1 : va_at D vwCl (a + 1, CE cy LR a s0R 1) H := ar_13 (x := 1) (n := 29600) rfl rfl rfl (vaP_h (vaP_r (vaP_l (vaP_l (vaP_l (vaP_l (vaP_l (vaP_l (vaP_l (vaP_l (vaP_l (vaP_l (vaP_l (vaP_l (vaP_l (vaP_l (vaP_l (vaP_l (vaP_l (vaP_l (vaP_l (vaP_l (vaP_l (vaP_t h))))))))))))))))))))))))
  have f_2 : va_at D vwCl (a + 2, CE cy LR a s0R 2) H := ar_14 (x := 2) (n := 70) rfl rfl (vaP_h (vaP_r (vaP_l (vaP_l (vaP_l (vaP_l (vaP_l (vaP_l (vaP_l (vaP_l (vaP_l (vaP_l (vaP_l (vaP_l (vaP_l (vaP_l (vaP_l (vaP_l (vaP_l (vaP_l (vaP_l (vaP_l (vaP_t h)))))))))))))))))))))))
  have f_3 : va_at D vwCl (a + 3, CE cy LR a s0R 3) H := ar_13 (x := 3) (n := 4) rfl rfl rfl (vaP_h (vaP_r (vaP_l (vaP_l (vaP_l (vaP_l (vaP_l (vaP_l (vaP_l (vaP_l (vaP_l (vaP_l (vaP_l (vaP_l (vaP_l (vaP_l (vaP_l (vaP_l (vaP_l (vaP_l (vaP_l (vaP_t h))))))))))))))))))))))
  have f_4 : va_at D vwCl (a + 4, CE cy LR a s0R 4) H := ar_13 (x := 4) (n := 4) rfl rfl rfl (vaP_h (vaP_r (vaP_l (vaP_l (vaP_l (vaP_l (vaP_l (vaP_l (vaP_l (vaP_l (vaP_l (vaP_l (vaP_l (vaP_l (vaP_l (vaP_l (vaP_l (vaP_l (vaP_l (vaP_l (vaP_t h)))))))))))))))))))))
  have f_5 : va_at D vwCl (a + 5, CE cy LR a s0R 5) H := ar_14 (x := 5) (n := 240) rfl rfl (vaP_h (vaP_r (vaP_l (vaP_l (vaP_l (vaP_l (vaP_l (vaP_l (vaP_l (vaP_l (vaP_l (vaP_l (vaP_l (vaP_l (vaP_l (vaP_l (vaP_l (vaP_l (vaP_l (vaP_t h))))))))))))))))))))
  have f_6 : va_at D vwCl (a + 6, CE cy LR a s0R 6) H := ar_15 (x := 6) (n := 900) rfl rfl rfl (vaP_h (vaP_r (vaP_l (vaP_l (vaP_l (vaP_l (vaP_l (vaP_l (vaP_l (vaP_l (vaP_l (vaP_l (vaP_l (vaP_l (vaP_l (vaP_l (vaP_l (vaP_l (vaP_t h)))))))))))))))))))
  have f_7 : va_at D vwCl (a + 7, CE cy LR a s0R 7) H := ar_15 (x := 7) (n := 900) rfl rfl rfl (vaP_h (vaP_r (vaP_l (vaP_l (vaP_l (vaP_l (vaP_l (vaP_l (vaP_l (vaP_l (vaP_l (vaP_l (vaP_l (vaP_l (vaP_l (vaP_l (vaP_l (vaP_t h))))))))))))))))))
  have f_8 : va_at D vwCl (a + 8, CE cy LR a s0R 8) H := ar_13 (x := 8) (n := 3) rfl rfl rfl (vaP_h (vaP_r (vaP_l (vaP_l (vaP_l (vaP_l (vaP_l (vaP_l (vaP_l (vaP_l (vaP_l (vaP_l (vaP_l (vaP_l (vaP_l (vaP_l (vaP_t h)))))))))))))))))
  have f_9 : va_at D vwCl (a + 9, CE cy LR a s0R 9) H := ar_13 (x := 9) (n := 6) rfl rfl rfl (vaP_h (vaP_r (vaP_l (vaP_l (vaP_l (vaP_l (vaP_l (vaP_l (vaP_l (vaP_l (vaP_l (vaP_l (vaP_l (vaP_l (vaP_l (vaP_t h))))))))))))))))
  have f_10 : va_at D vwCl (a + 10, CE cy LR a s0R 10) H := ar_13 (x := 10) (n := 180) rfl rfl rfl (vaP_h (vaP_r (vaP_l (vaP_l (vaP_l (vaP_l (vaP_l (vaP_l (vaP_l (vaP_l (vaP_l (vaP_l (vaP_l (vaP_l (vaP_t h)))))))))))))))
  have f_11 : va_at D vwCl (a + 11, CE cy LR a s0R 11) H := ar_13 (x := 11) (n := 180) rfl rfl rfl (vaP_h (vaP_r (vaP_l (vaP_l (vaP_l (vaP_l (vaP_l (vaP_l (vaP_l (vaP_l (vaP_l (vaP_l (vaP_l (vaP_t h))))))))))))))
  have f_12 : va_at D vwCl (a + 12, CE cy LR a s0R 12) H := ar_13 (x := 12) (n := 180) rfl rfl rfl (vaP_h (vaP_r (vaP_l (vaP_l (vaP_l (vaP_l (vaP_l (vaP_l (vaP_l (vaP_l (vaP_l (vaP_l (vaP_t h)))))))))))))
  have f_13 : va_at D vwCl (a + 13, CE cy LR a s0R 13) H := ar_13 (x := 13) (n := 6) rfl rfl rfl (vaP_h (vaP_r (vaP_l (vaP_l (vaP_l (vaP_l (vaP_l (vaP_l (vaP_l (vaP_l (vaP_l (vaP_t h))))))))))))
  have f_14 : va_at D vwCl (a + 14, CE cy LR a s0R 14) H := ar_13 (x := 14) (n := 180) rfl rfl rfl (vaP_h (vaP_r (vaP_l (vaP_l (vaP_l (vaP_l (vaP_l (vaP_l (vaP_l (vaP_l (vaP_t h)))))))))))
  have f_15 : va_at D vwCl (a + 15, CE cy LR a s0R 15) H := ar_13 (x := 15) (n := 15) rfl rfl rfl (vaP_h (vaP_r (vaP_l (vaP_l (vaP_l (vaP_l (vaP_l (vaP_l (vaP_l (vaP_t h))))))))))
  have f_16 : va_at D vwCl (a + 16, CE cy LR a s0R 16) H := ar_13 (x := 16) (n := 15) rfl rfl rfl (vaP_h (vaP_r (vaP_l (vaP_l (vaP_l (vaP_l (vaP_l (vaP_l (vaP_t h)))))))))
  have f_17 : va_at D vwCl (a + 17, CE cy LR a s0R 17) H := ar_13 (x := 17) (n := 5) rfl rfl rfl (vaP_h (vaP_r (vaP_l (vaP_l (vaP_l (vaP_l (vaP_l (vaP_t h))))))))
  have f_18 : va_at D vwCl (a + 18, CE cy LR a s0R 18) H := ar_16 (x := 18) (n := 1001) rfl rfl rfl (vaP_h (vaP_r (vaP_l (vaP_l (vaP_l (vaP_l (vaP_t h)))))))
  have f_19 : va_at D vwCl (a + 19, CE cy LR a s0R 19) H := ar_13 (x := 19) (n := 3700) rfl rfl rfl (vaP_h (vaP_r (vaP_l (vaP_l (vaP_l (vaP_t h))))))
  have f_20 : va_at D vwCl (a + 20, CE cy LR a s0R 20) H := ar_13 (x := 20) (n := 80) rfl rfl rfl (vaP_h (vaP_r (vaP_l (vaP_l (vaP_t h)))))
  have f_21 : va_at D vwCl (a + 21, CE cy LR a s0R 21) H := ar_13 (x := 21) (n := 6) rfl rfl rfl (vaP_h (vaP_r (vaP_l (vaP_t h))))
  have f_22 : va_at D vwCl (a + 22, CE cy LR a s0R 22) H := ar_13 (x := 22) (n := 6) rfl rfl rfl (vaP_h (vaP_r (vaP_t h)))
  by_cases r_0 : k = 0
  · subst r_0; exact f_0
  by_cases r_1 : k = 1
  · subst r_1; exact f_1
  by_cases r_2 : k = 2
  · subst r_2; exact f_2
  by_cases r_3 : k = 3
  · subst r_3; exact f_3
  by_cases r_4 : k = 4
  · subst r_4; exact f_4
  by_cases r_5 : k = 5
  · subst r_5; exact f_5
  by_cases r_6 : k = 6
  · subst r_6; exact f_6
  by_cases r_7 : k = 7
  · subst r_7; exact f_7
  by_cases r_8 : k = 8
  · subst r_8; exact f_8
  by_cases r_9 : k = 9
  · subst r_9; exact f_9
  by_cases r_10 : k = 10
  · subst r_10; exact f_10
  by_cases r_11 : k = 11
  · subst r_11; exact f_11
  by_cases r_12 : k = 12
  · subst r_12; exact f_12
  by_cases r_13 : k = 13
  · subst r_13; exact f_13
  by_cases r_14 : k = 14
  · subst r_14; exact f_14
  by_cases r_15 : k = 15
  · subst r_15; exact f_15
  by_cases r_16 : k = 16
  · subst r_16; exact f_16
  by_cases r_17 : k = 17
  · subst r_17; exact f_17
  by_cases r_18 : k = 18
  · subst r_18; exact f_18
  by_cases r_19 : k = 19
  · subst r_19; exact f_19
  by_cases r_20 : k = 20
  · subst r_20; exact f_20
  by_cases r_21 : k = 21
  · subst r_21; exact f_21
  have e : k = 22 := by omega
  subst e; exact f_22
theorem mz_X12 : MW RX12 93 RX12 yX12_empties cX12_empties 3 none 1 := ⟨rL10 _ (List.mem_of_getElem? (i := 3) rfl), rL10 _ (List.mem_of_getElem? (i := 4) rfl), rL10 _ (List.mem_of_getElem? (i := 5) rfl), rL1 _ (List.mem_of_getElem? (i := 5) rfl), rL10 _ (List.mem_of_getElem? (i := 6) rfl), rfl, by decide, by decide, by decide +kernel⟩
def PcM (D : va_G) (cy : Nat → ClassId) (a : Nat) (av : List Value) (ws : va_W) : Array Value → State → Prop := fun v U => PcZ D cy a av ws v U ∧ SX cy LR a U
def QcM (D : va_G) (cy : Nat → ClassId) (a : Nat) (τ : ST) : Array Value → State → Outcome → State → Prop := fun _ st o t => o = .returned none ∧ va_P D vwCl (wsP cy LR a τ) t.heap ∧ va_F (zA a 23) st t
set_option maxRecDepth 100000 in
set_option maxHeartbeats 8000000 in
theorem zc_X12_init {l : Launch} {D : va_G} {cy : Nat → ClassId} {a : Nat} {τ : ST} (hτ : f_X12_empties 0 0 s0R = some τ) : Met l yX12_init (wU yX12_init cX12_init 1 none) (rmZ 2 22 37281) (PcM D cy a [.ref a] [(a, .inr (12, [.null, .null, .int 0, .long 0, .long 0, .null, .null, .null, .null, .null, .int 0, .int 0, .int 0, .int 0, .int 0, .int 0, .int 0, .int 0, .int 0, .int 0, .null, .int 0, .int 0, .null, .null, .null, .null, .int 0, .int 0, .null, .int 0, .null, .int 0, .null, .null, .null, .int 0, .null, .null, .int 0, .int 0, .null, .null, .null, .int 0, .int 0, .int 0]))]) (QcM D cy a τ) 22 37281 (zA a 23) := by
  refine Met.ofW (cc := cX12_init) (maxL := 1) (ret := none) (by decide) rfl ?_
  intro p e s m args below meth c s₁ B hml hv
  obtain ⟨⟨rfl, hK, hN, hz, hP⟩, hSX⟩ := hv
  have hts := atoms_spec (ws := wU yX12_init cX12_init 1 none) B.pre
  have hl := lv_entry [.ref a] (n := 1) (Nat.le_of_ble_eq_true rfl)
  rw [lg_entry_eq]
  generalize (lg_sl ([.ref a]) ++ List.replicate (1 - (lg_sl ([.ref a])).length) Slot.unset).toArray = ls at hl ⊢
  have hl : lv_has ls 1 [(0, .ref a)] := hl
  have E : CZ p m c cX12_init 1 s [Value.ref a].toArray RX12 D cy := ⟨⟨B.exec, B.bytes, hml, findClass_of_methodNamed B.named, fun w h => hts w (List.mem_cons_of_mem _ h)⟩, hK, hN⟩
  have hr := B.returns
  have hlk := B.notSynchronized
  have hin : meth.name = "<init>" := (name_of_methodNamed B.named B.method).1
  have hw : ZH D ((a, .inr (12, [.null, .null, .int 0, .long 0, .long 0, .null, .null, .null, .null, .null, .int 0, .int 0, .int 0, .int 0, .int 0, .int 0, .int 0, .int 0, .int 0, .int 0, .null, .int 0, .int 0, .null, .null, .null, .null, .int 0, .int 0, .null, .int 0, .null, .int 0, .null, .null, .null, .int 0, .null, .null, .int 0, .int 0, .null, .null, .null, .int 0, .int 0, .int 0])) :: []) a 23 (a + 1) s s.heap [] := ⟨hP, zD_of rfl (Nat.le_of_ble_eq_true rfl), va_S.rf, hz⟩
  have hx := E.1.1
  have hb := E.1.2.1
  refine lv_aload_n hx hb dX12_init_0 rfl (lv_at hl 0 rfl) ?_
  refine W.objInit hx hb E.1.2.2.2.1 (E.1.2.2.2.2 _ (rL8 _ (List.mem_of_getElem? (i := 23) rfl))) (E.1.2.2.2.2 _ (rL1 _ (List.mem_of_getElem? (i := 11) rfl))) (E.1.2.2.2.2 _ (rL1 _ (List.mem_of_getElem? (i := 12) rfl))) rfl (hl.1.trans E.1.2.2.1.symm) rfl dX12_init_1 (Nat.le_of_ble_eq_true rfl) (Nat.le_of_ble_eq_true rfl) ?_
  refine W.eq (g2 := F0 m 4 ls []) rfl ?_
  refine lv_aload_n hx hb dX12_init_4 rfl (lv_at hl 0 rfl) ?_
  refine lv_sipush (v := 29600) hx hb dX12_init_5 (by decide) ?_
  refine y_newa (a + 2) rfl (N' := 29600) (a0 := (29600, .inl (fun _ => 0))) E hw 0 rfl trivial rfl (rL3 _ (List.mem_of_getElem? (i := 3) rfl)) (fun _ => rfl) (by decide) (by decide) (by decide) ⟨by omega, by omega⟩ (Nat.le_of_ble_eq_true rfl) (Nat.le_of_ble_eq_true rfl) dX12_init_8 (fun H hw => ?_)
  refine y_putF [.ref (a + 1), .null, .int 0, .long 0, .long 0, .null, .null, .null, .null, .null, .int 0, .int 0, .int 0, .int 0, .int 0, .int 0, .int 0, .int 0, .int 0, .int 0, .null, .int 0, .int 0, .null, .null, .null, .null, .int 0, .int 0, .null, .int 0, .null, .int 0, .null, .null, .null, .int 0, .null, .null, .int 0, .int 0, .null, .null, .null, .int 0, .int 0, .int 0] rfl E hw fz_X12_7 rfl hin rfl rfl rfl (Nat.le_of_ble_eq_true rfl) dX12_init_10 (fun H locs hw => ?_)
  refine lv_aload_n hx hb dX12_init_13 rfl (lv_at hl 0 rfl) ?_
  refine lv_bipush (v := 70) hx hb dX12_init_14 (by decide) ?_
  refine y_newa (a + 3) rfl (N' := 70) (a0 := (70, .inr (.inl (fun _ => 0)))) E hw 1 rfl trivial rfl (rL5 _ (List.mem_of_getElem? (i := 8) rfl)) (fun _ => rfl) (by decide) (by decide) (by decide) ⟨by omega, by omega⟩ (Nat.le_of_ble_eq_true rfl) (Nat.le_of_ble_eq_true rfl) dX12_init_16 (fun H hw => ?_)
  refine y_putF [.ref (a + 1), .ref (a + 2), .int 0, .long 0, .long 0, .null, .null, .null, .null, .null, .int 0, .int 0, .int 0, .int 0, .int 0, .int 0, .int 0, .int 0, .int 0, .int 0, .null, .int 0, .int 0, .null, .null, .null, .null, .int 0, .int 0, .null, .int 0, .null, .int 0, .null, .null, .null, .int 0, .null, .null, .int 0, .int 0, .null, .null, .null, .int 0, .int 0, .int 0] rfl E hw fz_X12_13 rfl hin rfl rfl rfl (Nat.le_of_ble_eq_true rfl) dX12_init_18 (fun H locs hw => ?_)
  refine lv_aload_n hx hb dX12_init_21 rfl (lv_at hl 0 rfl) ?_
  refine lv_lconst (v := 1) hx hb dX12_init_22 (by decide) ?_
  refine y_put [.ref (a + 1), .ref (a + 2), .int 0, .long 0, .long 1, .null, .null, .null, .null, .null, .int 0, .int 0, .int 0, .int 0, .int 0, .int 0, .int 0, .int 0, .int 0, .int 0, .null, .int 0, .int 0, .null, .null, .null, .null, .int 0, .int 0, .null, .int 0, .null, .int 0, .null, .null, .null, .int 0, .null, .null, .int 0, .int 0, .null, .null, .null, .int 0, .int 0, .int 0] rfl E hw fz_X12_17 rfl rfl rfl (Nat.le_of_ble_eq_true rfl) dX12_init_23 (fun H locs hw => ?_)
  refine lv_aload_n hx hb dX12_init_26 rfl (lv_at hl 0 rfl) ?_
  refine lv_iconst (v := 4) hx hb dX12_init_27 (by decide) ?_
  refine y_newa (a + 4) rfl (N' := 4) (a0 := (4, .inl (fun _ => 0))) E hw 0 rfl trivial rfl (rL3 _ (List.mem_of_getElem? (i := 3) rfl)) (fun _ => rfl) (by decide) (by decide) (by decide) ⟨by omega, by omega⟩ (Nat.le_of_ble_eq_true rfl) (Nat.le_of_ble_eq_true rfl) dX12_init_28 (fun H hw => ?_)
  refine y_putF [.ref (a + 1), .ref (a + 2), .int 0, .long 0, .long 1, .ref (a + 3), .null, .null, .null, .null, .int 0, .int 0, .int 0, .int 0, .int 0, .int 0, .int 0, .int 0, .int 0, .int 0, .null, .int 0, .int 0, .null, .null, .null, .null, .int 0, .int 0, .null, .int 0, .null, .int 0, .null, .null, .null, .int 0, .null, .null, .int 0, .int 0, .null, .null, .null, .int 0, .int 0, .int 0] rfl E hw fz_X12_21 rfl hin rfl rfl rfl (Nat.le_of_ble_eq_true rfl) dX12_init_30 (fun H locs hw => ?_)
  refine lv_aload_n hx hb dX12_init_33 rfl (lv_at hl 0 rfl) ?_
  refine lv_iconst (v := 4) hx hb dX12_init_34 (by decide) ?_
  refine y_newa (a + 5) rfl (N' := 4) (a0 := (4, .inl (fun _ => 0))) E hw 0 rfl trivial rfl (rL3 _ (List.mem_of_getElem? (i := 3) rfl)) (fun _ => rfl) (by decide) (by decide) (by decide) ⟨by omega, by omega⟩ (Nat.le_of_ble_eq_true rfl) (Nat.le_of_ble_eq_true rfl) dX12_init_35 (fun H hw => ?_)
  refine lv_dup hx hb dX12_init_37 rfl ?_
  refine lv_iconst (v := 0) hx hb dX12_init_38 (by decide) ?_
  refine lv_iconst (v := (-1)) hx hb dX12_init_39 (by decide) ?_
  refine y_iast 4 ([] ++ [((a + 1), .inl (cy 0, 29600, .inl (fun _ => 0)))] ++ [((a + 2), .inl (cy 1, 70, .inr (.inl (fun _ => 0))))] ++ [((a + 3), .inl (cy 0, 4, .inl (fun _ => 0)))] ++ [((a + 4), .inl (cy 0, 4, .inl (upd (fun _ => 0) 0 (-1))))]) rfl E hw rfl (by unfold vp_in; decide) dX12_init_40 (fun H locs hw => ?_)
  refine lv_dup hx hb dX12_init_41 rfl ?_
  refine lv_iconst (v := 1) hx hb dX12_init_42 (by decide) ?_
  refine lv_iconst (v := (-1)) hx hb dX12_init_43 (by decide) ?_
  refine y_iast 4 ([] ++ [((a + 1), .inl (cy 0, 29600, .inl (fun _ => 0)))] ++ [((a + 2), .inl (cy 1, 70, .inr (.inl (fun _ => 0))))] ++ [((a + 3), .inl (cy 0, 4, .inl (fun _ => 0)))] ++ [((a + 4), .inl (cy 0, 4, .inl (upd (upd (fun _ => 0) 0 (-1)) 1 (-1))))]) rfl E hw rfl (by unfold vp_in; decide) dX12_init_44 (fun H locs hw => ?_)
  refine lv_dup hx hb dX12_init_45 rfl ?_
  refine lv_iconst (v := 2) hx hb dX12_init_46 (by decide) ?_
  refine lv_iconst (v := (-1)) hx hb dX12_init_47 (by decide) ?_
  refine y_iast 4 ([] ++ [((a + 1), .inl (cy 0, 29600, .inl (fun _ => 0)))] ++ [((a + 2), .inl (cy 1, 70, .inr (.inl (fun _ => 0))))] ++ [((a + 3), .inl (cy 0, 4, .inl (fun _ => 0)))] ++ [((a + 4), .inl (cy 0, 4, .inl (upd (upd (upd (fun _ => 0) 0 (-1)) 1 (-1)) 2 (-1))))]) rfl E hw rfl (by unfold vp_in; decide) dX12_init_48 (fun H locs hw => ?_)
  refine lv_dup hx hb dX12_init_49 rfl ?_
  refine lv_iconst (v := 3) hx hb dX12_init_50 (by decide) ?_
  refine lv_iconst (v := (-1)) hx hb dX12_init_51 (by decide) ?_
  refine y_iast 4 ([] ++ [((a + 1), .inl (cy 0, 29600, .inl (fun _ => 0)))] ++ [((a + 2), .inl (cy 1, 70, .inr (.inl (fun _ => 0))))] ++ [((a + 3), .inl (cy 0, 4, .inl (fun _ => 0)))] ++ [((a + 4), .inl (cy 0, 4, .inl (upd (upd (upd (upd (fun _ => 0) 0 (-1)) 1 (-1)) 2 (-1)) 3 (-1))))]) rfl E hw rfl (by unfold vp_in; decide) dX12_init_52 (fun H locs hw => ?_)
  refine y_putF [.ref (a + 1), .ref (a + 2), .int 0, .long 0, .long 1, .ref (a + 3), .ref (a + 4), .null, .null, .null, .int 0, .int 0, .int 0, .int 0, .int 0, .int 0, .int 0, .int 0, .int 0, .int 0, .null, .int 0, .int 0, .null, .null, .null, .null, .int 0, .int 0, .null, .int 0, .null, .int 0, .null, .null, .null, .int 0, .null, .null, .int 0, .int 0, .null, .null, .null, .int 0, .int 0, .int 0] rfl E hw fz_X12_24 rfl hin rfl rfl rfl (Nat.le_of_ble_eq_true rfl) dX12_init_53 (fun H locs hw => ?_)
  refine lv_aload_n hx hb dX12_init_56 rfl (lv_at hl 0 rfl) ?_
  refine lv_sipush (v := 240) hx hb dX12_init_57 (by decide) ?_
  refine y_newa (a + 6) rfl (N' := 240) (a0 := (240, .inr (.inl (fun _ => 0)))) E hw 1 rfl trivial rfl (rL5 _ (List.mem_of_getElem? (i := 8) rfl)) (fun _ => rfl) (by decide) (by decide) (by decide) ⟨by omega, by omega⟩ (Nat.le_of_ble_eq_true rfl) (Nat.le_of_ble_eq_true rfl) dX12_init_60 (fun H hw => ?_)
  refine y_putF [.ref (a + 1), .ref (a + 2), .int 0, .long 0, .long 1, .ref (a + 3), .ref (a + 4), .ref (a + 5), .null, .null, .int 0, .int 0, .int 0, .int 0, .int 0, .int 0, .int 0, .int 0, .int 0, .int 0, .null, .int 0, .int 0, .null, .null, .null, .null, .int 0, .int 0, .null, .int 0, .null, .int 0, .null, .null, .null, .int 0, .null, .null, .int 0, .int 0, .null, .null, .null, .int 0, .int 0, .int 0] rfl E hw fz_X12_27 rfl hin rfl rfl rfl (Nat.le_of_ble_eq_true rfl) dX12_init_62 (fun H locs hw => ?_)
  refine lv_aload_n hx hb dX12_init_65 rfl (lv_at hl 0 rfl) ?_
  refine lv_sipush (v := 900) hx hb dX12_init_66 (by decide) ?_
  refine y_newa (a + 7) rfl (N' := 900) (a0 := (900, .inl (fun _ => 0))) E hw 2 rfl trivial rfl (rL9 _ (List.mem_of_getElem? (i := 6) rfl)) (fun _ => rfl) (by decide) (by decide) (by decide) ⟨by omega, by omega⟩ (Nat.le_of_ble_eq_true rfl) (Nat.le_of_ble_eq_true rfl) dX12_init_69 (fun H hw => ?_)
  refine y_putF [.ref (a + 1), .ref (a + 2), .int 0, .long 0, .long 1, .ref (a + 3), .ref (a + 4), .ref (a + 5), .ref (a + 6), .null, .int 0, .int 0, .int 0, .int 0, .int 0, .int 0, .int 0, .int 0, .int 0, .int 0, .null, .int 0, .int 0, .null, .null, .null, .null, .int 0, .int 0, .null, .int 0, .null, .int 0, .null, .null, .null, .int 0, .null, .null, .int 0, .int 0, .null, .null, .null, .int 0, .int 0, .int 0] rfl E hw fz_X12_30 rfl hin rfl rfl rfl (Nat.le_of_ble_eq_true rfl) dX12_init_71 (fun H locs hw => ?_)
  refine lv_aload_n hx hb dX12_init_74 rfl (lv_at hl 0 rfl) ?_
  refine lv_sipush (v := 900) hx hb dX12_init_75 (by decide) ?_
  refine y_newa (a + 8) rfl (N' := 900) (a0 := (900, .inl (fun _ => 0))) E hw 2 rfl trivial rfl (rL9 _ (List.mem_of_getElem? (i := 6) rfl)) (fun _ => rfl) (by decide) (by decide) (by decide) ⟨by omega, by omega⟩ (Nat.le_of_ble_eq_true rfl) (Nat.le_of_ble_eq_true rfl) dX12_init_78 (fun H hw => ?_)
  refine y_putF [.ref (a + 1), .ref (a + 2), .int 0, .long 0, .long 1, .ref (a + 3), .ref (a + 4), .ref (a + 5), .ref (a + 6), .ref (a + 7), .int 0, .int 0, .int 0, .int 0, .int 0, .int 0, .int 0, .int 0, .int 0, .int 0, .null, .int 0, .int 0, .null, .null, .null, .null, .int 0, .int 0, .null, .int 0, .null, .int 0, .null, .null, .null, .int 0, .null, .null, .int 0, .int 0, .null, .null, .null, .int 0, .int 0, .int 0] rfl E hw fz_X12_34 rfl hin rfl rfl rfl (Nat.le_of_ble_eq_true rfl) dX12_init_80 (fun H locs hw => ?_)
  refine lv_aload_n hx hb dX12_init_83 rfl (lv_at hl 0 rfl) ?_
  refine lv_iconst (v := (-1)) hx hb dX12_init_84 (by decide) ?_
  refine y_put [.ref (a + 1), .ref (a + 2), .int 0, .long 0, .long 1, .ref (a + 3), .ref (a + 4), .ref (a + 5), .ref (a + 6), .ref (a + 7), .int 0, .int 0, .int 0, .int 0, .int 0, .int 0, .int (-1), .int 0, .int 0, .int 0, .null, .int 0, .int 0, .null, .null, .null, .null, .int 0, .int 0, .null, .int 0, .null, .int 0, .null, .null, .null, .int 0, .null, .null, .int 0, .int 0, .null, .null, .null, .int 0, .int 0, .int 0] rfl E hw fz_X12_37 rfl rfl rfl (Nat.le_of_ble_eq_true rfl) dX12_init_85 (fun H locs hw => ?_)
  refine lv_aload_n hx hb dX12_init_88 rfl (lv_at hl 0 rfl) ?_
  refine lv_iconst (v := (-1)) hx hb dX12_init_89 (by decide) ?_
  refine y_put [.ref (a + 1), .ref (a + 2), .int 0, .long 0, .long 1, .ref (a + 3), .ref (a + 4), .ref (a + 5), .ref (a + 6), .ref (a + 7), .int 0, .int 0, .int 0, .int 0, .int 0, .int 0, .int (-1), .int (-1), .int 0, .int 0, .null, .int 0, .int 0, .null, .null, .null, .null, .int 0, .int 0, .null, .int 0, .null, .int 0, .null, .null, .null, .int 0, .null, .null, .int 0, .int 0, .null, .null, .null, .int 0, .int 0, .int 0] rfl E hw fz_X12_41 rfl rfl rfl (Nat.le_of_ble_eq_true rfl) dX12_init_90 (fun H locs hw => ?_)
  refine lv_aload_n hx hb dX12_init_93 rfl (lv_at hl 0 rfl) ?_
  refine lv_iconst (v := 3) hx hb dX12_init_94 (by decide) ?_
  refine y_newa (a + 9) rfl (N' := 3) (a0 := (3, .inl (fun _ => 0))) E hw 0 rfl trivial rfl (rL3 _ (List.mem_of_getElem? (i := 3) rfl)) (fun _ => rfl) (by decide) (by decide) (by decide) ⟨by omega, by omega⟩ (Nat.le_of_ble_eq_true rfl) (Nat.le_of_ble_eq_true rfl) dX12_init_95 (fun H hw => ?_)
  refine y_putF [.ref (a + 1), .ref (a + 2), .int 0, .long 0, .long 1, .ref (a + 3), .ref (a + 4), .ref (a + 5), .ref (a + 6), .ref (a + 7), .int 0, .int 0, .int 0, .int 0, .int 0, .int 0, .int (-1), .int (-1), .int 0, .int 0, .ref (a + 8), .int 0, .int 0, .null, .null, .null, .null, .int 0, .int 0, .null, .int 0, .null, .int 0, .null, .null, .null, .int 0, .null, .null, .int 0, .int 0, .null, .null, .null, .int 0, .int 0, .int 0] rfl E hw fz_X12_44 rfl hin rfl rfl rfl (Nat.le_of_ble_eq_true rfl) dX12_init_97 (fun H locs hw => ?_)
  refine lv_aload_n hx hb dX12_init_100 rfl (lv_at hl 0 rfl) ?_
  refine lv_bipush (v := 6) hx hb dX12_init_101 (by decide) ?_
  refine y_newa (a + 10) rfl (N' := 6) (a0 := (6, .inl (fun _ => 0))) E hw 0 rfl trivial rfl (rL3 _ (List.mem_of_getElem? (i := 3) rfl)) (fun _ => rfl) (by decide) (by decide) (by decide) ⟨by omega, by omega⟩ (Nat.le_of_ble_eq_true rfl) (Nat.le_of_ble_eq_true rfl) dX12_init_103 (fun H hw => ?_)
  refine y_putF [.ref (a + 1), .ref (a + 2), .int 0, .long 0, .long 1, .ref (a + 3), .ref (a + 4), .ref (a + 5), .ref (a + 6), .ref (a + 7), .int 0, .int 0, .int 0, .int 0, .int 0, .int 0, .int (-1), .int (-1), .int 0, .int 0, .ref (a + 8), .int 0, .int 0, .ref (a + 9), .null, .null, .null, .int 0, .int 0, .null, .int 0, .null, .int 0, .null, .null, .null, .int 0, .null, .null, .int 0, .int 0, .null, .null, .null, .int 0, .int 0, .int 0] rfl E hw fz_X12_47 rfl hin rfl rfl rfl (Nat.le_of_ble_eq_true rfl) dX12_init_105 (fun H locs hw => ?_)
  refine lv_aload_n hx hb dX12_init_108 rfl (lv_at hl 0 rfl) ?_
  refine lv_sipush (v := 180) hx hb dX12_init_109 (by decide) ?_
  refine y_newa (a + 11) rfl (N' := 180) (a0 := (180, .inl (fun _ => 0))) E hw 0 rfl trivial rfl (rL3 _ (List.mem_of_getElem? (i := 3) rfl)) (fun _ => rfl) (by decide) (by decide) (by decide) ⟨by omega, by omega⟩ (Nat.le_of_ble_eq_true rfl) (Nat.le_of_ble_eq_true rfl) dX12_init_112 (fun H hw => ?_)
  refine y_putF [.ref (a + 1), .ref (a + 2), .int 0, .long 0, .long 1, .ref (a + 3), .ref (a + 4), .ref (a + 5), .ref (a + 6), .ref (a + 7), .int 0, .int 0, .int 0, .int 0, .int 0, .int 0, .int (-1), .int (-1), .int 0, .int 0, .ref (a + 8), .int 0, .int 0, .ref (a + 9), .ref (a + 10), .null, .null, .int 0, .int 0, .null, .int 0, .null, .int 0, .null, .null, .null, .int 0, .null, .null, .int 0, .int 0, .null, .null, .null, .int 0, .int 0, .int 0] rfl E hw fz_X12_50 rfl hin rfl rfl rfl (Nat.le_of_ble_eq_true rfl) dX12_init_114 (fun H locs hw => ?_)
  refine lv_aload_n hx hb dX12_init_117 rfl (lv_at hl 0 rfl) ?_
  refine lv_sipush (v := 180) hx hb dX12_init_118 (by decide) ?_
  refine y_newa (a + 12) rfl (N' := 180) (a0 := (180, .inl (fun _ => 0))) E hw 0 rfl trivial rfl (rL3 _ (List.mem_of_getElem? (i := 3) rfl)) (fun _ => rfl) (by decide) (by decide) (by decide) ⟨by omega, by omega⟩ (Nat.le_of_ble_eq_true rfl) (Nat.le_of_ble_eq_true rfl) dX12_init_121 (fun H hw => ?_)
  refine y_putF [.ref (a + 1), .ref (a + 2), .int 0, .long 0, .long 1, .ref (a + 3), .ref (a + 4), .ref (a + 5), .ref (a + 6), .ref (a + 7), .int 0, .int 0, .int 0, .int 0, .int 0, .int 0, .int (-1), .int (-1), .int 0, .int 0, .ref (a + 8), .int 0, .int 0, .ref (a + 9), .ref (a + 10), .ref (a + 11), .null, .int 0, .int 0, .null, .int 0, .null, .int 0, .null, .null, .null, .int 0, .null, .null, .int 0, .int 0, .null, .null, .null, .int 0, .int 0, .int 0] rfl E hw fz_X12_53 rfl hin rfl rfl rfl (Nat.le_of_ble_eq_true rfl) dX12_init_123 (fun H locs hw => ?_)
  refine lv_aload_n hx hb dX12_init_126 rfl (lv_at hl 0 rfl) ?_
  refine lv_sipush (v := 180) hx hb dX12_init_127 (by decide) ?_
  refine y_newa (a + 13) rfl (N' := 180) (a0 := (180, .inl (fun _ => 0))) E hw 0 rfl trivial rfl (rL3 _ (List.mem_of_getElem? (i := 3) rfl)) (fun _ => rfl) (by decide) (by decide) (by decide) ⟨by omega, by omega⟩ (Nat.le_of_ble_eq_true rfl) (Nat.le_of_ble_eq_true rfl) dX12_init_130 (fun H hw => ?_)
  refine y_putF [.ref (a + 1), .ref (a + 2), .int 0, .long 0, .long 1, .ref (a + 3), .ref (a + 4), .ref (a + 5), .ref (a + 6), .ref (a + 7), .int 0, .int 0, .int 0, .int 0, .int 0, .int 0, .int (-1), .int (-1), .int 0, .int 0, .ref (a + 8), .int 0, .int 0, .ref (a + 9), .ref (a + 10), .ref (a + 11), .ref (a + 12), .int 0, .int 0, .null, .int 0, .null, .int 0, .null, .null, .null, .int 0, .null, .null, .int 0, .int 0, .null, .null, .null, .int 0, .int 0, .int 0] rfl E hw fz_X12_56 rfl hin rfl rfl rfl (Nat.le_of_ble_eq_true rfl) dX12_init_132 (fun H locs hw => ?_)
  refine lv_aload_n hx hb dX12_init_135 rfl (lv_at hl 0 rfl) ?_
  refine lv_iconst (v := (-1)) hx hb dX12_init_136 (by decide) ?_
  refine y_put [.ref (a + 1), .ref (a + 2), .int 0, .long 0, .long 1, .ref (a + 3), .ref (a + 4), .ref (a + 5), .ref (a + 6), .ref (a + 7), .int 0, .int 0, .int 0, .int 0, .int 0, .int 0, .int (-1), .int (-1), .int 0, .int 0, .ref (a + 8), .int 0, .int 0, .ref (a + 9), .ref (a + 10), .ref (a + 11), .ref (a + 12), .int 0, .int (-1), .null, .int 0, .null, .int 0, .null, .null, .null, .int 0, .null, .null, .int 0, .int 0, .null, .null, .null, .int 0, .int 0, .int 0] rfl E hw fz_X12_59 rfl rfl rfl (Nat.le_of_ble_eq_true rfl) dX12_init_137 (fun H locs hw => ?_)
  refine lv_aload_n hx hb dX12_init_140 rfl (lv_at hl 0 rfl) ?_
  refine lv_bipush (v := 6) hx hb dX12_init_141 (by decide) ?_
  refine y_newa (a + 14) rfl (N' := 6) (a0 := (6, .inl (fun _ => 0))) E hw 0 rfl trivial rfl (rL3 _ (List.mem_of_getElem? (i := 3) rfl)) (fun _ => rfl) (by decide) (by decide) (by decide) ⟨by omega, by omega⟩ (Nat.le_of_ble_eq_true rfl) (Nat.le_of_ble_eq_true rfl) dX12_init_143 (fun H hw => ?_)
  refine y_putF [.ref (a + 1), .ref (a + 2), .int 0, .long 0, .long 1, .ref (a + 3), .ref (a + 4), .ref (a + 5), .ref (a + 6), .ref (a + 7), .int 0, .int 0, .int 0, .int 0, .int 0, .int 0, .int (-1), .int (-1), .int 0, .int 0, .ref (a + 8), .int 0, .int 0, .ref (a + 9), .ref (a + 10), .ref (a + 11), .ref (a + 12), .int 0, .int (-1), .ref (a + 13), .int 0, .null, .int 0, .null, .null, .null, .int 0, .null, .null, .int 0, .int 0, .null, .null, .null, .int 0, .int 0, .int 0] rfl E hw fz_X12_62 rfl hin rfl rfl rfl (Nat.le_of_ble_eq_true rfl) dX12_init_145 (fun H locs hw => ?_)
  refine lv_aload_n hx hb dX12_init_148 rfl (lv_at hl 0 rfl) ?_
  refine lv_sipush (v := 180) hx hb dX12_init_149 (by decide) ?_
  refine y_newa (a + 15) rfl (N' := 180) (a0 := (180, .inl (fun _ => 0))) E hw 0 rfl trivial rfl (rL3 _ (List.mem_of_getElem? (i := 3) rfl)) (fun _ => rfl) (by decide) (by decide) (by decide) ⟨by omega, by omega⟩ (Nat.le_of_ble_eq_true rfl) (Nat.le_of_ble_eq_true rfl) dX12_init_152 (fun H hw => ?_)
  refine y_putF [.ref (a + 1), .ref (a + 2), .int 0, .long 0, .long 1, .ref (a + 3), .ref (a + 4), .ref (a + 5), .ref (a + 6), .ref (a + 7), .int 0, .int 0, .int 0, .int 0, .int 0, .int 0, .int (-1), .int (-1), .int 0, .int 0, .ref (a + 8), .int 0, .int 0, .ref (a + 9), .ref (a + 10), .ref (a + 11), .ref (a + 12), .int 0, .int (-1), .ref (a + 13), .int 0, .ref (a + 14), .int 0, .null, .null, .null, .int 0, .null, .null, .int 0, .int 0, .null, .null, .null, .int 0, .int 0, .int 0] rfl E hw fz_X12_65 rfl hin rfl rfl rfl (Nat.le_of_ble_eq_true rfl) dX12_init_154 (fun H locs hw => ?_)
  refine lv_aload_n hx hb dX12_init_157 rfl (lv_at hl 0 rfl) ?_
  refine lv_bipush (v := 15) hx hb dX12_init_158 (by decide) ?_
  refine y_newa (a + 16) rfl (N' := 15) (a0 := (15, .inl (fun _ => 0))) E hw 0 rfl trivial rfl (rL3 _ (List.mem_of_getElem? (i := 3) rfl)) (fun _ => rfl) (by decide) (by decide) (by decide) ⟨by omega, by omega⟩ (Nat.le_of_ble_eq_true rfl) (Nat.le_of_ble_eq_true rfl) dX12_init_160 (fun H hw => ?_)
  refine y_putF [.ref (a + 1), .ref (a + 2), .int 0, .long 0, .long 1, .ref (a + 3), .ref (a + 4), .ref (a + 5), .ref (a + 6), .ref (a + 7), .int 0, .int 0, .int 0, .int 0, .int 0, .int 0, .int (-1), .int (-1), .int 0, .int 0, .ref (a + 8), .int 0, .int 0, .ref (a + 9), .ref (a + 10), .ref (a + 11), .ref (a + 12), .int 0, .int (-1), .ref (a + 13), .int 0, .ref (a + 14), .int 0, .ref (a + 15), .null, .null, .int 0, .null, .null, .int 0, .int 0, .null, .null, .null, .int 0, .int 0, .int 0] rfl E hw fz_X12_68 rfl hin rfl rfl rfl (Nat.le_of_ble_eq_true rfl) dX12_init_162 (fun H locs hw => ?_)
  refine lv_aload_n hx hb dX12_init_165 rfl (lv_at hl 0 rfl) ?_
  refine lv_bipush (v := 15) hx hb dX12_init_166 (by decide) ?_
  refine y_newa (a + 17) rfl (N' := 15) (a0 := (15, .inl (fun _ => 0))) E hw 0 rfl trivial rfl (rL3 _ (List.mem_of_getElem? (i := 3) rfl)) (fun _ => rfl) (by decide) (by decide) (by decide) ⟨by omega, by omega⟩ (Nat.le_of_ble_eq_true rfl) (Nat.le_of_ble_eq_true rfl) dX12_init_168 (fun H hw => ?_)
  refine y_putF [.ref (a + 1), .ref (a + 2), .int 0, .long 0, .long 1, .ref (a + 3), .ref (a + 4), .ref (a + 5), .ref (a + 6), .ref (a + 7), .int 0, .int 0, .int 0, .int 0, .int 0, .int 0, .int (-1), .int (-1), .int 0, .int 0, .ref (a + 8), .int 0, .int 0, .ref (a + 9), .ref (a + 10), .ref (a + 11), .ref (a + 12), .int 0, .int (-1), .ref (a + 13), .int 0, .ref (a + 14), .int 0, .ref (a + 15), .ref (a + 16), .null, .int 0, .null, .null, .int 0, .int 0, .null, .null, .null, .int 0, .int 0, .int 0] rfl E hw fz_X12_71 rfl hin rfl rfl rfl (Nat.le_of_ble_eq_true rfl) dX12_init_170 (fun H locs hw => ?_)
  refine lv_aload_n hx hb dX12_init_173 rfl (lv_at hl 0 rfl) ?_
  refine lv_iconst (v := 5) hx hb dX12_init_174 (by decide) ?_
  refine y_newa (a + 18) rfl (N' := 5) (a0 := (5, .inl (fun _ => 0))) E hw 0 rfl trivial rfl (rL3 _ (List.mem_of_getElem? (i := 3) rfl)) (fun _ => rfl) (by decide) (by decide) (by decide) ⟨by omega, by omega⟩ (Nat.le_of_ble_eq_true rfl) (Nat.le_of_ble_eq_true rfl) dX12_init_175 (fun H hw => ?_)
  refine y_putF [.ref (a + 1), .ref (a + 2), .int 0, .long 0, .long 1, .ref (a + 3), .ref (a + 4), .ref (a + 5), .ref (a + 6), .ref (a + 7), .int 0, .int 0, .int 0, .int 0, .int 0, .int 0, .int (-1), .int (-1), .int 0, .int 0, .ref (a + 8), .int 0, .int 0, .ref (a + 9), .ref (a + 10), .ref (a + 11), .ref (a + 12), .int 0, .int (-1), .ref (a + 13), .int 0, .ref (a + 14), .int 0, .ref (a + 15), .ref (a + 16), .ref (a + 17), .int 0, .null, .null, .int 0, .int 0, .null, .null, .null, .int 0, .int 0, .int 0] rfl E hw fz_X12_74 rfl hin rfl rfl rfl (Nat.le_of_ble_eq_true rfl) dX12_init_177 (fun H locs hw => ?_)
  refine lv_aload_n hx hb dX12_init_180 rfl (lv_at hl 0 rfl) ?_
  refine lv_sipush (v := 1001) hx hb dX12_init_181 (by decide) ?_
  refine y_newa (a + 19) rfl (N' := 1001) (a0 := (1001, .inl (fun _ => 0))) E hw 3 rfl trivial rfl (rL8 _ (List.mem_of_getElem? (i := 5) rfl)) (fun _ => rfl) (by decide) (by decide) (by decide) ⟨by omega, by omega⟩ (Nat.le_of_ble_eq_true rfl) (Nat.le_of_ble_eq_true rfl) dX12_init_184 (fun H hw => ?_)
  refine y_putF [.ref (a + 1), .ref (a + 2), .int 0, .long 0, .long 1, .ref (a + 3), .ref (a + 4), .ref (a + 5), .ref (a + 6), .ref (a + 7), .int 0, .int 0, .int 0, .int 0, .int 0, .int 0, .int (-1), .int (-1), .int 0, .int 0, .ref (a + 8), .int 0, .int 0, .ref (a + 9), .ref (a + 10), .ref (a + 11), .ref (a + 12), .int 0, .int (-1), .ref (a + 13), .int 0, .ref (a + 14), .int 0, .ref (a + 15), .ref (a + 16), .ref (a + 17), .int 0, .ref (a + 18), .null, .int 0, .int 0, .null, .null, .null, .int 0, .int 0, .int 0] rfl E hw fz_X12_77 rfl hin rfl rfl rfl (Nat.le_of_ble_eq_true rfl) dX12_init_186 (fun H locs hw => ?_)
  refine lv_aload_n hx hb dX12_init_189 rfl (lv_at hl 0 rfl) ?_
  refine lv_sipush (v := 3700) hx hb dX12_init_190 (by decide) ?_
  refine y_newa (a + 20) rfl (N' := 3700) (a0 := (3700, .inl (fun _ => 0))) E hw 0 rfl trivial rfl (rL3 _ (List.mem_of_getElem? (i := 3) rfl)) (fun _ => rfl) (by decide) (by decide) (by decide) ⟨by omega, by omega⟩ (Nat.le_of_ble_eq_true rfl) (Nat.le_of_ble_eq_true rfl) dX12_init_193 (fun H hw => ?_)
  refine y_putF [.ref (a + 1), .ref (a + 2), .int 0, .long 0, .long 1, .ref (a + 3), .ref (a + 4), .ref (a + 5), .ref (a + 6), .ref (a + 7), .int 0, .int 0, .int 0, .int 0, .int 0, .int 0, .int (-1), .int (-1), .int 0, .int 0, .ref (a + 8), .int 0, .int 0, .ref (a + 9), .ref (a + 10), .ref (a + 11), .ref (a + 12), .int 0, .int (-1), .ref (a + 13), .int 0, .ref (a + 14), .int 0, .ref (a + 15), .ref (a + 16), .ref (a + 17), .int 0, .ref (a + 18), .ref (a + 19), .int 0, .int 0, .null, .null, .null, .int 0, .int 0, .int 0] rfl E hw fz_X12_81 rfl hin rfl rfl rfl (Nat.le_of_ble_eq_true rfl) dX12_init_195 (fun H locs hw => ?_)
  refine lv_aload_n hx hb dX12_init_198 rfl (lv_at hl 0 rfl) ?_
  refine lv_bipush (v := 80) hx hb dX12_init_199 (by decide) ?_
  refine y_newa (a + 21) rfl (N' := 80) (a0 := (80, .inl (fun _ => 0))) E hw 0 rfl trivial rfl (rL3 _ (List.mem_of_getElem? (i := 3) rfl)) (fun _ => rfl) (by decide) (by decide) (by decide) ⟨by omega, by omega⟩ (Nat.le_of_ble_eq_true rfl) (Nat.le_of_ble_eq_true rfl) dX12_init_201 (fun H hw => ?_)
  refine y_putF [.ref (a + 1), .ref (a + 2), .int 0, .long 0, .long 1, .ref (a + 3), .ref (a + 4), .ref (a + 5), .ref (a + 6), .ref (a + 7), .int 0, .int 0, .int 0, .int 0, .int 0, .int 0, .int (-1), .int (-1), .int 0, .int 0, .ref (a + 8), .int 0, .int 0, .ref (a + 9), .ref (a + 10), .ref (a + 11), .ref (a + 12), .int 0, .int (-1), .ref (a + 13), .int 0, .ref (a + 14), .int 0, .ref (a + 15), .ref (a + 16), .ref (a + 17), .int 0, .ref (a + 18), .ref (a + 19), .int 0, .int 0, .ref (a + 20), .null, .null, .int 0, .int 0, .int 0] rfl E hw fz_X12_84 rfl hin rfl rfl rfl (Nat.le_of_ble_eq_true rfl) dX12_init_203 (fun H locs hw => ?_)
  refine lv_aload_n hx hb dX12_init_206 rfl (lv_at hl 0 rfl) ?_
  refine lv_bipush (v := 6) hx hb dX12_init_207 (by decide) ?_
  refine y_newa (a + 22) rfl (N' := 6) (a0 := (6, .inl (fun _ => 0))) E hw 0 rfl trivial rfl (rL3 _ (List.mem_of_getElem? (i := 3) rfl)) (fun _ => rfl) (by decide) (by decide) (by decide) ⟨by omega, by omega⟩ (Nat.le_of_ble_eq_true rfl) (Nat.le_of_ble_eq_true rfl) dX12_init_209 (fun H hw => ?_)
  refine y_putF [.ref (a + 1), .ref (a + 2), .int 0, .long 0, .long 1, .ref (a + 3), .ref (a + 4), .ref (a + 5), .ref (a + 6), .ref (a + 7), .int 0, .int 0, .int 0, .int 0, .int 0, .int 0, .int (-1), .int (-1), .int 0, .int 0, .ref (a + 8), .int 0, .int 0, .ref (a + 9), .ref (a + 10), .ref (a + 11), .ref (a + 12), .int 0, .int (-1), .ref (a + 13), .int 0, .ref (a + 14), .int 0, .ref (a + 15), .ref (a + 16), .ref (a + 17), .int 0, .ref (a + 18), .ref (a + 19), .int 0, .int 0, .ref (a + 20), .ref (a + 21), .null, .int 0, .int 0, .int 0] rfl E hw fz_X12_87 rfl hin rfl rfl rfl (Nat.le_of_ble_eq_true rfl) dX12_init_211 (fun H locs hw => ?_)
  refine lv_aload_n hx hb dX12_init_214 rfl (lv_at hl 0 rfl) ?_
  refine lv_bipush (v := 6) hx hb dX12_init_215 (by decide) ?_
  refine y_newa (a + 23) rfl (N' := 6) (a0 := (6, .inl (fun _ => 0))) E hw 0 rfl trivial rfl (rL3 _ (List.mem_of_getElem? (i := 3) rfl)) (fun _ => rfl) (by decide) (by decide) (by decide) ⟨by omega, by omega⟩ (Nat.le_of_ble_eq_true rfl) (Nat.le_of_ble_eq_true rfl) dX12_init_217 (fun H hw => ?_)
  refine y_putF [.ref (a + 1), .ref (a + 2), .int 0, .long 0, .long 1, .ref (a + 3), .ref (a + 4), .ref (a + 5), .ref (a + 6), .ref (a + 7), .int 0, .int 0, .int 0, .int 0, .int 0, .int 0, .int (-1), .int (-1), .int 0, .int 0, .ref (a + 8), .int 0, .int 0, .ref (a + 9), .ref (a + 10), .ref (a + 11), .ref (a + 12), .int 0, .int (-1), .ref (a + 13), .int 0, .ref (a + 14), .int 0, .ref (a + 15), .ref (a + 16), .ref (a + 17), .int 0, .ref (a + 18), .ref (a + 19), .int 0, .int 0, .ref (a + 20), .ref (a + 21), .ref (a + 22), .int 0, .int 0, .int 0] rfl E hw fz_X12_90 rfl hin rfl rfl rfl (Nat.le_of_ble_eq_true rfl) dX12_init_219 (fun H locs hw => ?_)
  refine lv_aload_n hx hb dX12_init_222 rfl (lv_at hl 0 rfl) ?_
  refine lv_iconst (v := 0) hx hb dX12_init_223 (by decide) ?_
  have hw2 : PH D cy LR a s0R s _ _ := ⟨s0R_P hw.1, hw.2.2.1, hSX⟩
  have E2 : CX p m c cX12_init 1 s [Value.ref a].toArray RX12 D cy LR := ⟨E.1, E.2.1, LR_ok⟩
  refine q_cV (κ := 12) (C := RX12) (T := TX12) (N := 47) (x := 0) (rest := []) E2 hw2 mz_X12 (c_X12_empties hτ rfl) rfl (by decide) rfl rfl rfl hl.1 (Nat.le_of_ble_eq_true rfl) ⟨Nat.le_of_ble_eq_true rfl, Nat.le_of_ble_eq_true rfl⟩ ⟨Nat.le_of_ble_eq_true rfl, Nat.le_of_ble_eq_true rfl⟩ dX12_init_224 (fun H locs hw => ?_)
  exact W.vret hx hb hr (fun t ht _ => ⟨rfl, by rw [ht]; exact hw.1, hw.2.1.F ht⟩) hw.2.1.2.2 dX12_init_227 hlk
