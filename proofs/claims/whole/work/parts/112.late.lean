/-! LATE -/
def df6 (F G : Nat → Int32) : Nat → Int32
  | 0 => nI 0
  | n + 1 => df6 F G n + (F n - G n)
theorem df_sum (F G : Nat → Int32) (a b : Nat) : ∀ n, df6 (fun k => F (a + k)) (fun k => G (b + k)) n = sum6 F a n - sum6 G b n
  | 0 => by rw [df6, sum6, sum6]; decide
  | n + 1 => by
    rw [df6, sum6, sum6, df_sum F G a b n]
    generalize sum6 F a n = x
    generalize sum6 G b n = y
    generalize F (a + n) = u
    generalize G (b + n) = v
    rw [Int32.sub_eq_add_neg, Int32.sub_eq_add_neg, Int32.sub_eq_add_neg, Int32.neg_add, Int32.sub_eq_add_neg (-y) v]
    ac_rfl
theorem r_late_loop {τ : ST} {a y o : Nat} (ha : a < 6) (hy : y < 6) (ho : o ≤ 6) : ∀ (n k : Nat), k ≤ 6 → 6 - k < n → k_X12_late_48 n 0 (nI a) (nI y) (nI o) (df6 (fun j => gA τ 1 (29120 + o + j)) (fun j => gA τ 1 (tb a y + o + j)) k) (nI k) τ = some (df6 (fun j => gA τ 1 (29120 + o + j)) (fun j => gA τ 1 (tb a y + o + j)) 6, sI τ 0 2 (nI 0)) := by
  intro n
  induction n with
  | zero => intros; omega
  | succ n ih =>
    intro k hk hn
    rw [k_X12_late_48]
    by_cases e : k = 6
    · subst e
      simp (disch := omega) only [↓mI_e, lit, ofN, bsm, nI_add, pk_mul, pk_sub, nI_e, nI_leE, nI_ltE, nI_mI, mI_nI, mI_lt, nlt_mI, mI_le, nle_mI, nI_addm, sh_b, bI_0, bI_1, bI_bI, ckZ_b, ckZ_n0, ckZ_n1, stIe, stJe, stZ_n0, stZ_n1, rm_nI, dv_nI, if_true, if_false, if_pos, if_neg, rf0, rf1, rf5, rf6, rf7, rf8, rf9, rf20, rf23, rf24, rf25, rf26, rf29, rf31, rf33, rf34, rf35, rf37, rf38, rf41, rf42, rf43,  r_gives]
    · have IH := ih (k + 1) (by omega) (by omega)
      rw [df6] at IH
      have htb : 30 + 12 * (6 * a + y) = tb a y := rfl
      simp (disch := omega) only [↓mI_e, lit, ofN, bsm, nI_add, pk_mul, pk_sub, nI_e, nI_leE, nI_ltE, nI_mI, mI_nI, mI_lt, nlt_mI, mI_le, nle_mI, nI_addm, sh_b, bI_0, bI_1, bI_bI, ckZ_b, ckZ_n0, ckZ_n1, stIe, stJe, stZ_n0, stZ_n1, rm_nI, dv_nI, if_true, if_false, if_pos, if_neg, rf0, rf1, rf5, rf6, rf7, rf8, rf9, rf20, rf23, rf24, rf25, rf26, rf29, rf31, rf33, rf34, rf35, rf37, rf38, rf41, rf42, rf43,  lr1, f_X12_thingOf]
      exact IH
theorem sim_late (i : Nat) (hi : i + 6 ≤ 3072) : SIM_late (Rel i) (Rel (i + 6)) := by
  intro a0 a1 σ τ h
  have hW := h.2.2.2.2.1
  have hS := hW.1
  have hK := hS.1.1
  have hY := hS.1.2.1
  show Sm i _ _
  rcases keeper_cases hS.1 a0 with hb | ⟨a, ha, rfl⟩
  · simp (disch := omega) only [↓mI_e, lit, ofN, bsm, nI_add, pk_mul, pk_sub, nI_e, nI_leE, nI_ltE, nI_mI, mI_nI, mI_lt, nlt_mI, mI_le, nle_mI, nI_addm, sh_b, bI_0, bI_1, bI_bI, ckZ_b, ckZ_n0, ckZ_n1, stIe, stJe, stZ_n0, stZ_n1, rm_nI, dv_nI, if_true, if_false, if_pos, if_neg, rf0, rf1, rf5, rf6, rf7, rf8, rf9, rf20, rf23, rf24, rf25, rf26, rf29, rf31, rf33, rf34, rf35, rf37, rf38, rf41, rf42, rf43,  f_X11_late, k_X11_late_16, f_X12_late, k_X12_late_16, c_isKeeper_no hS hb, r_isKeeper_no hb, c_refuse, r_refuse]
    exact Sm_0 h _ _
  · rcases key_cases hS.1 a1 with hb | ⟨y, hy, rfl⟩
    · simp (disch := omega) only [↓mI_e, lit, ofN, bsm, nI_add, pk_mul, pk_sub, nI_e, nI_leE, nI_ltE, nI_mI, mI_nI, mI_lt, nlt_mI, mI_le, nle_mI, nI_addm, sh_b, bI_0, bI_1, bI_bI, ckZ_b, ckZ_n0, ckZ_n1, stIe, stJe, stZ_n0, stZ_n1, rm_nI, dv_nI, if_true, if_false, if_pos, if_neg, rf0, rf1, rf5, rf6, rf7, rf8, rf9, rf20, rf23, rf24, rf25, rf26, rf29, rf31, rf33, rf34, rf35, rf37, rf38, rf41, rf42, rf43,  f_X11_late, k_X11_late_16, f_X12_late, k_X12_late_16, c_isKeeper_yes hS ha, r_isKeeper_y hS.1 ha, c_isKey_no hS hb, r_isKey_no hb, c_refuse, r_refuse]
      exact Sm_0 h _ _
    · have hw := wM_w
      obtain ⟨r, F, G, q1, q2, q3, q4⟩ := c_joinAll wM_w (by omega) (y := y) (by omega) hW (by unfold wM; omega)
      obtain ⟨r', p1, p2, p3⟩ := r_joinsAll (by omega) hW (y := y) (by omega) (τ := τ) rfl
      have eu := IsJ_uniq q4 p3
      obtain ⟨σ1, hσ1⟩ : ∃ σ1, σ1 = sA (sA σ 98 F) 99 G := ⟨_, rfl⟩
      obtain ⟨τ1, hτ1⟩ : ∃ τ1, τ1 = sA τ 1 (put12 (gA τ 1) 29120 r') := ⟨_, rfl⟩
      rw [← hσ1] at q1 q2
      rw [← hτ1] at p1
      have hW1 : RelW (50000 * i) (wv σ1 wM) (gA τ 1) (gB τ 2) := by
        rw [hσ1, wv_sA_out _ (by unfold wM; omega), wv_sA_out _ (by unfold wM; omega)]; exact hW
      have g1 : gA τ1 1 = put12 (gA τ 1) 29120 r' := by rw [hτ1, gA_sA, if_pos rfl]
      have esm : sm (gA τ1 1) y = sm (gA τ 1) y := by rw [g1]; exact (Hd_put (gA τ 1) (to := 29120) (by omega) r').sm (by omega)
      have es1 := c_sumOf isC_j (i := 0) (by omega) σ1
      have es2 := c_sumOf (isC_h hw) (i := a * 6 + y) (by omega) σ1
      have hcr := wv_CR (w := wM) (by decide) (hW1.2.2.2.2.2.1 a y (by omega) (by omega)).1
      have hsc : Sq noE [14] σ σ1 := by rw [hσ1]; exact ((Sq.rf σ).sA _ rfl).sA _ rfl
      have hst : Sc [2] τ τ1 := by rw [hτ1]; exact (Sc.rf τ).sA _ rfl
      have hm : ∀ k, k < 19400 → gA τ1 1 k = gA τ 1 k := fun k hk => by rw [g1]; exact p12_out _ _ _ (by omega)
      have c11 : LC.2.1 0 11 = 97 := rfl
      have e1 := c_kset hw hS
      have sums : ∀ o, (o = if sm (gA τ 1) y then 0 else 6) → df6 (fun j => gA τ1 1 (29120 + o + j)) (fun j => gA τ1 1 (tb a y + o + j)) 6 = sum6 (gA σ1 (97 + 2)) (0 * 6) 6 - sum6 (gA σ1 (wM + 15 + 2)) ((a * 6 + y) * 6) 6 := fun o ho => by
        rw [df_sum (gA τ1 1) (gA τ1 1) (29120 + o) (tb a y + o) 6]
        congr 1
        · refine sum6_congr 6 (fun k hk => ?_)
          have c := q2 k hk
          rw [g1]
          cases hs : sm (gA τ 1) y
          · rw [hs] at c ho
            simp only [Bool.false_eq_true, if_false] at c ho
            subst ho
            rw [c.2, eu _ (by omega), show 29120 + 6 + k = 29120 + (6 + k) by omega, p12_in _ _ _ (by omega)]
          · rw [hs] at c ho
            simp only [if_true] at c ho
            subst ho
            rw [c.2.1, eu _ (by omega), show 29120 + 0 + k = 29120 + k by omega, p12_in _ _ _ (by omega)]
        · refine sum6_congr 6 (fun k hk => ?_)
          have c := hcr k hk
          rw [g1]
          cases hs : sm (gA τ 1) y
          · rw [hs] at c ho
            simp only [Bool.false_eq_true, if_false] at c ho
            subst ho
            rw [c.2, p12_out _ _ _ (by unfold tb; omega)]
            unfold sh
            rw [show tb a y + 6 + k = tb a y + (6 + k) by omega]
          · rw [hs] at c ho
            simp only [if_true] at c ho
            subst ho
            rw [c.2.1, p12_out _ _ _ (by unfold tb; omega)]
            rfl
      cases hs : sm (gA τ 1) y
      · have sm6 := sums 6 (by rw [hs]; rfl)
        have l1 := r_late_loop (τ := τ1) (a := a) (y := y) (o := 6) (by omega) (by omega) (by omega) FU 0 (by omega) (by unfold FU; omega)
        rw [sm6] at l1
        have l1 : k_X12_late_48 FU 0 (nI a) (nI y) (nI 6) (nI 0) (nI 0) τ1 = _ := l1
        rw [hs] at esm
        simp (disch := omega) only [↓mI_e, lit, ofN, bsm, nI_add, pk_mul, pk_sub, nI_e, nI_leE, nI_ltE, nI_mI, mI_nI, mI_lt, nlt_mI, mI_le, nle_mI, nI_addm, sh_b, bI_0, bI_1, bI_bI, ckZ_b, ckZ_n0, ckZ_n1, stIe, stJe, stZ_n0, stZ_n1, rm_nI, dv_nI, if_true, if_false, if_pos, if_neg, rf0, rf1, rf5, rf6, rf7, rf8, rf9, rf20, rf23, rf24, rf25, rf26, rf29, rf31, rf33, rf34, rf35, rf37, rf38, rf41, rf42, rf43,  f_X11_late, f_X12_late, c_isKeeper_yes hS ha, r_isKeeper_y hS.1 ha, c_isKey_yes hS hy, r_isKey_y hS.1 hy, c02, w_0 hw, w_2 hw, c11, e1, q1, p1, es1, es2, f_X10_cellOf, c_answer, r_isSum, esm, k_X12_late_41, l1]
        exact Sm_q h hsc hst hm _ _
      · have sm6 := sums 0 (by rw [hs]; rfl)
        have l1 := r_late_loop (τ := τ1) (a := a) (y := y) (o := 0) (by omega) (by omega) (by omega) FU 0 (by omega) (by unfold FU; omega)
        rw [sm6] at l1
        have l1 : k_X12_late_48 FU 0 (nI a) (nI y) (nI 0) (nI 0) (nI 0) τ1 = _ := l1
        rw [hs] at esm
        simp (disch := omega) only [↓mI_e, lit, ofN, bsm, nI_add, pk_mul, pk_sub, nI_e, nI_leE, nI_ltE, nI_mI, mI_nI, mI_lt, nlt_mI, mI_le, nle_mI, nI_addm, sh_b, bI_0, bI_1, bI_bI, ckZ_b, ckZ_n0, ckZ_n1, stIe, stJe, stZ_n0, stZ_n1, rm_nI, dv_nI, if_true, if_false, if_pos, if_neg, rf0, rf1, rf5, rf6, rf7, rf8, rf9, rf20, rf23, rf24, rf25, rf26, rf29, rf31, rf33, rf34, rf35, rf37, rf38, rf41, rf42, rf43,  f_X11_late, f_X12_late, c_isKeeper_yes hS ha, r_isKeeper_y hS.1 ha, c_isKey_yes hS hy, r_isKey_y hS.1 hy, c02, w_0 hw, w_2 hw, c11, e1, q1, p1, es1, es2, f_X10_cellOf, c_answer, r_isSum, esm, Bool.true_eq_false, k_X12_late_41, l1]
        exact Sm_q h hsc hst hm _ _
