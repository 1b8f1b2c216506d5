/-! LIFE: tests, and the step's next line -/
set_option maxHeartbeats 4000000 in
theorem L_holds {w lf : Nat} (hl : isLf w lf) {g : Nat → Int64} {L : Nat} {D : Nat → Nat → Nat} {σ0 τ0 : ST} {B s d : Nat} {σ τ : ST} (h : LV w lf g L D σ0 τ0 B s d σ τ) {l : Nat} (hL : l < L) (ho : D l 0 = 23 ∨ D l 0 = 24 ∨ D l 0 = 25) : ∃ b τ1, f_X4_holds lf w (nI l) σ = some (bI b, σ) ∧ f_X12_holds 0 (nI (4480 + 6 * l)) τ = some (bI b, τ1) ∧ Wp w σ σ τ τ1 ∧ gA τ1 1 = gA τ 1 := by
  have hw := isLf_w hl
  have hW := h.1
  have hK := hW.1.1.1
  have hY := hW.1.1.2.1
  have hL60 := h.2.1.2.2.2
  obtain ⟨f7, hr⟩ := LV_days h
  obtain ⟨c0, cY, cP, cV, cQ, cM⟩ := h.2.1.2.2.1 l hL
  obtain ⟨r0, rY, rP, rV, rK, rN, rT, rM, rS⟩ := hr l hL
  obtain ⟨v0, vY, v78, v9, vP, v17, vV, v18, _⟩ := h.2.2.2.2.2.2 l hL
  rcases ho with e | e | e
  · have c0' : gA σ (w + 9) l = nI 20 := by have z := c0; rw [e] at z; exact z
    have r0' : gA τ 1 (4480 + 6 * l) = nI 1923 := by have z := r0; rw [e] at z; exact z
    have cy : gA σ (w + 10) l = nI (D l 1) := cY (by rw [e]; rfl)
    have ry : gA τ 1 (4480 + 6 * l + 1) = nI (D l 1) := rY (by rw [e]; rfl)
    have hy := vY (by rw [e]; rfl)
    obtain ⟨g9, a1, _⟩ := r_isAlike hW.1.1 hy
    have a3 := c_isAlike hw hW.1 hW.2.2.2.2.2.1 hy
    refine ⟨alk (gA τ 1) (D l 1), sA τ 9 g9, ?_, ?_, Wp_9 g9, rfl⟩
    · simp (disch := omega) only [↓mI_e, lit, ofN, bsm, nI_add, pk_mul, pk_sub, nI_e, nI_leE, nI_ltE, nI_mI, mI_nI, mI_lt, nlt_mI, mI_le, nle_mI, nI_addm, sh_b, bI_0, bI_1, bI_bI, ckZ_b, ckZ_n0, ckZ_n1, stIe, stJe, stZ_n0, stZ_n1, rm_nI, dv_nI, if_true, if_false, if_pos, if_neg, rf0, rf1, rf5, rf6, rf7, rf8, rf9, rf20, rf23, rf24, rf25, rf26, rf29, rf31, rf33, rf34, rf35, rf37, rf38, rf41, rf42, rf43,  f_X4_holds, w_1 hw, wd_0 hw, wd_1 hw, lw9 hw, c0', lw10 hw, cy, a3]
    · simp (disch := omega) only [↓mI_e, lit, ofN, bsm, nI_add, pk_mul, pk_sub, nI_e, nI_leE, nI_ltE, nI_mI, mI_nI, mI_lt, nlt_mI, mI_le, nle_mI, nI_addm, sh_b, bI_0, bI_1, bI_bI, ckZ_b, ckZ_n0, ckZ_n1, stIe, stJe, stZ_n0, stZ_n1, rm_nI, dv_nI, if_true, if_false, if_pos, if_neg, rf0, rf1, rf5, rf6, rf7, rf8, rf9, rf20, rf23, rf24, rf25, rf26, rf29, rf31, rf33, rf34, rf35, rf37, rf38, rf41, rf42, rf43,  f_X12_holds, lr1, r0', ry, a1]
  · have c0' : gA σ (w + 9) l = nI 21 := by have z := c0; rw [e] at z; exact z
    have r0' : gA τ 1 (4480 + 6 * l) = nI 1924 := by have z := r0; rw [e] at z; exact z
    have cp : gA σ (w + 11) l = nI (D l 2) := cP (by rw [e]; rfl)
    have rk : gA τ 1 (4480 + 6 * l + 2) = nI (D l 2) := rK (by rw [e]; rfl)
    have ha := vP (by rw [e]; rfl)
    have u0 : gI σ w 9 = gA τ 1 5 := hW.2.1.1
    refine ⟨bt (gA τ 1 5) (D l 2), τ, ?_, ?_, Wp.rf, rfl⟩
    · simp (disch := omega) only [↓mI_e, lit, ofN, bsm, nI_add, pk_mul, pk_sub, nI_e, nI_leE, nI_ltE, nI_mI, mI_nI, mI_lt, nlt_mI, mI_le, nle_mI, nI_addm, sh_b, bI_0, bI_1, bI_bI, ckZ_b, ckZ_n0, ckZ_n1, stIe, stJe, stZ_n0, stZ_n1, rm_nI, dv_nI, if_true, if_false, if_pos, if_neg, rf0, rf1, rf5, rf6, rf7, rf8, rf9, rf20, rf23, rf24, rf25, rf26, rf29, rf31, rf33, rf34, rf35, rf37, rf38, rf41, rf42, rf43,  f_X4_holds, w_1 hw, wd_0 hw, wd_2 hw, lw9 hw, c0', lw11 hw, cp, c_isUp, u0]
    · simp (disch := omega) only [↓mI_e, lit, ofN, bsm, nI_add, pk_mul, pk_sub, nI_e, nI_leE, nI_ltE, nI_mI, mI_nI, mI_lt, nlt_mI, mI_le, nle_mI, nI_addm, sh_b, bI_0, bI_1, bI_bI, ckZ_b, ckZ_n0, ckZ_n1, stIe, stJe, stZ_n0, stZ_n1, rm_nI, dv_nI, if_true, if_false, if_pos, if_neg, rf0, rf1, rf5, rf6, rf7, rf8, rf9, rf20, rf23, rf24, rf25, rf26, rf29, rf31, rf33, rf34, rf35, rf37, rf38, rf41, rf42, rf43,  f_X12_holds, lr1, r0', rk, r_isUp]
  · have c0' : gA σ (w + 9) l = nI 22 := by have z := c0; rw [e] at z; exact z
    have r0' : gA τ 1 (4480 + 6 * l) = nI 1925 := by have z := r0; rw [e] at z; exact z
    have cy : gA σ (w + 10) l = nI (D l 1) := cY (by rw [e]; rfl)
    have ry : gA τ 1 (4480 + 6 * l + 1) = nI (D l 1) := rY (by rw [e]; rfl)
    have hy := vY (by rw [e]; rfl)
    have cp : gA σ (w + 11) l = nI (D l 2) := cP (by rw [e]; rfl)
    have rk : gA τ 1 (4480 + 6 * l + 2) = nI (D l 2) := rK (by rw [e]; rfl)
    have ha := vP (by rw [e]; rfl)
    have cv : gA σ (w + 12) l = nI (D l 3) := cV (by rw [e]; rfl)
    have rt : gA τ 1 (4480 + 6 * l + 3) = nI (D l 3) := rT (by rw [e]; rfl)
    have cq : gA σ (w + 13) l = nI (D l 4) := cQ (by rw [e]; rfl)
    have rs : gA τ 1 (4480 + 6 * l + 5) = nI (D l 4) := rS e
    have eb := CR_bits (wv_CR (by decide) (hW.2.2.2.2.2.1 (D l 2) (D l 1) (by omega) (by omega)).1) 6 (Nat.le_refl _)
    rw [pc6_sh] at eb
    have tc := c_twinCount (isC_h hw) (i := D l 2 * 6 + D l 1) (by omega) σ
    rw [eb] at tc
    have tr := r_twinsOf (a := tb (D l 2) (D l 1)) (y := D l 1) (by have := tb_lt (p := D l 2) (y := D l 1) (by omega) (by omega); omega) (by omega) τ
    have et : 30 + 12 * (6 * D l 2 + D l 1) = tb (D l 2) (D l 1) := rfl
    generalize nI (if sm (gA τ 1) (D l 1) = true then 0 else pc6 (gA τ 1) (tb (D l 2) (D l 1)) 6) = Q at tc tr
    obtain ⟨_, _, _, _, _, _, _, _, _, v25, _⟩ := h.2.2.2.2.2.2 l hL
    have hq := v25 e
    rcases hq with hq | hq | hq
    · by_cases z : nI (D l 3) ≤ Q
      · refine ⟨false, τ, ?_, ?_, Wp.rf, rfl⟩
        · rw [f_X4_holds, w_1 hw, wd_0 hw, lw9 hw (by omega), bsm, c0', if_neg (show ¬ nI 22 = (20 : Int32) by decide), bsm, if_neg (show ¬ nI 22 = (21 : Int32) by decide), wd_2 hw, lw11 hw (by omega), bsm, wd_1 hw, lw10 hw (by omega), bsm, wd_4 hw, wd_3 hw, cp, cy]
          simp (disch := omega) only [↓mI_e, lit, ofN, bsm, nI_add, pk_mul, pk_sub, nI_e, nI_leE, nI_ltE, nI_mI, mI_nI, mI_lt, nlt_mI, mI_le, nle_mI, nI_addm, sh_b, bI_0, bI_1, bI_bI, ckZ_b, ckZ_n0, ckZ_n1, stIe, stJe, stZ_n0, stZ_n1, rm_nI, dv_nI, if_true, if_false, if_pos, if_neg, rf0, rf1, rf5, rf6, rf7, rf8, rf9, rf20, rf23, rf24, rf25, rf26, rf29, rf31, rf33, rf34, rf35, rf37, rf38, rf41, rf42, rf43,  k_X4_holds_100, w_2 hw, lw12 hw, cv, lw13 hw, cq, f_X10_cellOf, tc, hq, z]
          rfl
        · rw [f_X12_holds, rf0, lr1 (by omega), bsm, r0', if_neg (show ¬ nI 1925 - 1900 = (23 : Int32) by decide), if_neg (show ¬ nI 1925 - 1900 = (24 : Int32) by decide)]
          simp (disch := omega) only [↓mI_e, lit, ofN, bsm, nI_add, pk_mul, pk_sub, nI_e, nI_leE, nI_ltE, nI_mI, mI_nI, mI_lt, nlt_mI, mI_le, nle_mI, nI_addm, sh_b, bI_0, bI_1, bI_bI, ckZ_b, ckZ_n0, ckZ_n1, stIe, stJe, stZ_n0, stZ_n1, rm_nI, dv_nI, if_true, if_false, if_pos, if_neg, rf0, rf1, rf5, rf6, rf7, rf8, rf9, rf20, rf23, rf24, rf25, rf26, rf29, rf31, rf33, rf34, rf35, rf37, rf38, rf41, rf42, rf43,  k_X12_holds_165, lr1, ry, rk, rt, rs, f_X12_thingOf, et, tr, hq, z]
          rfl
      · refine ⟨true, τ, ?_, ?_, Wp.rf, rfl⟩
        · rw [f_X4_holds, w_1 hw, wd_0 hw, lw9 hw (by omega), bsm, c0', if_neg (show ¬ nI 22 = (20 : Int32) by decide), bsm, if_neg (show ¬ nI 22 = (21 : Int32) by decide), wd_2 hw, lw11 hw (by omega), bsm, wd_1 hw, lw10 hw (by omega), bsm, wd_4 hw, wd_3 hw, cp, cy]
          simp (disch := omega) only [↓mI_e, lit, ofN, bsm, nI_add, pk_mul, pk_sub, nI_e, nI_leE, nI_ltE, nI_mI, mI_nI, mI_lt, nlt_mI, mI_le, nle_mI, nI_addm, sh_b, bI_0, bI_1, bI_bI, ckZ_b, ckZ_n0, ckZ_n1, stIe, stJe, stZ_n0, stZ_n1, rm_nI, dv_nI, if_true, if_false, if_pos, if_neg, rf0, rf1, rf5, rf6, rf7, rf8, rf9, rf20, rf23, rf24, rf25, rf26, rf29, rf31, rf33, rf34, rf35, rf37, rf38, rf41, rf42, rf43,  k_X4_holds_100, w_2 hw, lw12 hw, cv, lw13 hw, cq, f_X10_cellOf, tc, hq, z]
          rfl
        · rw [f_X12_holds, rf0, lr1 (by omega), bsm, r0', if_neg (show ¬ nI 1925 - 1900 = (23 : Int32) by decide), if_neg (show ¬ nI 1925 - 1900 = (24 : Int32) by decide)]
          simp (disch := omega) only [↓mI_e, lit, ofN, bsm, nI_add, pk_mul, pk_sub, nI_e, nI_leE, nI_ltE, nI_mI, mI_nI, mI_lt, nlt_mI, mI_le, nle_mI, nI_addm, sh_b, bI_0, bI_1, bI_bI, ckZ_b, ckZ_n0, ckZ_n1, stIe, stJe, stZ_n0, stZ_n1, rm_nI, dv_nI, if_true, if_false, if_pos, if_neg, rf0, rf1, rf5, rf6, rf7, rf8, rf9, rf20, rf23, rf24, rf25, rf26, rf29, rf31, rf33, rf34, rf35, rf37, rf38, rf41, rf42, rf43,  k_X12_holds_165, lr1, ry, rk, rt, rs, f_X12_thingOf, et, tr, hq, z]
          rfl
    · by_cases z : Q = nI (D l 3)
      · refine ⟨true, τ, ?_, ?_, Wp.rf, rfl⟩
        · rw [f_X4_holds, w_1 hw, wd_0 hw, lw9 hw (by omega), bsm, c0', if_neg (show ¬ nI 22 = (20 : Int32) by decide), bsm, if_neg (show ¬ nI 22 = (21 : Int32) by decide), wd_2 hw, lw11 hw (by omega), bsm, wd_1 hw, lw10 hw (by omega), bsm, wd_4 hw, wd_3 hw, cp, cy]
          simp (disch := omega) only [↓mI_e, lit, ofN, bsm, nI_add, pk_mul, pk_sub, nI_e, nI_leE, nI_ltE, nI_mI, mI_nI, mI_lt, nlt_mI, mI_le, nle_mI, nI_addm, sh_b, bI_0, bI_1, bI_bI, ckZ_b, ckZ_n0, ckZ_n1, stIe, stJe, stZ_n0, stZ_n1, rm_nI, dv_nI, if_true, if_false, if_pos, if_neg, rf0, rf1, rf5, rf6, rf7, rf8, rf9, rf20, rf23, rf24, rf25, rf26, rf29, rf31, rf33, rf34, rf35, rf37, rf38, rf41, rf42, rf43,  k_X4_holds_147, w_2 hw, lw12 hw, cv, lw13 hw, cq, f_X10_cellOf, tc, hq, z]
          rfl
        · rw [f_X12_holds, rf0, lr1 (by omega), bsm, r0', if_neg (show ¬ nI 1925 - 1900 = (23 : Int32) by decide), if_neg (show ¬ nI 1925 - 1900 = (24 : Int32) by decide)]
          simp (disch := omega) only [↓mI_e, lit, ofN, bsm, nI_add, pk_mul, pk_sub, nI_e, nI_leE, nI_ltE, nI_mI, mI_nI, mI_lt, nlt_mI, mI_le, nle_mI, nI_addm, sh_b, bI_0, bI_1, bI_bI, ckZ_b, ckZ_n0, ckZ_n1, stIe, stJe, stZ_n0, stZ_n1, rm_nI, dv_nI, if_true, if_false, if_pos, if_neg, rf0, rf1, rf5, rf6, rf7, rf8, rf9, rf20, rf23, rf24, rf25, rf26, rf29, rf31, rf33, rf34, rf35, rf37, rf38, rf41, rf42, rf43,  k_X12_holds_165, lr1, ry, rk, rt, rs, f_X12_thingOf, et, tr, hq, z]
          rfl
      · refine ⟨false, τ, ?_, ?_, Wp.rf, rfl⟩
        · rw [f_X4_holds, w_1 hw, wd_0 hw, lw9 hw (by omega), bsm, c0', if_neg (show ¬ nI 22 = (20 : Int32) by decide), bsm, if_neg (show ¬ nI 22 = (21 : Int32) by decide), wd_2 hw, lw11 hw (by omega), bsm, wd_1 hw, lw10 hw (by omega), bsm, wd_4 hw, wd_3 hw, cp, cy]
          simp (disch := omega) only [↓mI_e, lit, ofN, bsm, nI_add, pk_mul, pk_sub, nI_e, nI_leE, nI_ltE, nI_mI, mI_nI, mI_lt, nlt_mI, mI_le, nle_mI, nI_addm, sh_b, bI_0, bI_1, bI_bI, ckZ_b, ckZ_n0, ckZ_n1, stIe, stJe, stZ_n0, stZ_n1, rm_nI, dv_nI, if_true, if_false, if_pos, if_neg, rf0, rf1, rf5, rf6, rf7, rf8, rf9, rf20, rf23, rf24, rf25, rf26, rf29, rf31, rf33, rf34, rf35, rf37, rf38, rf41, rf42, rf43,  k_X4_holds_147, w_2 hw, lw12 hw, cv, lw13 hw, cq, f_X10_cellOf, tc, hq, z]
          rfl
        · rw [f_X12_holds, rf0, lr1 (by omega), bsm, r0', if_neg (show ¬ nI 1925 - 1900 = (23 : Int32) by decide), if_neg (show ¬ nI 1925 - 1900 = (24 : Int32) by decide)]
          simp (disch := omega) only [↓mI_e, lit, ofN, bsm, nI_add, pk_mul, pk_sub, nI_e, nI_leE, nI_ltE, nI_mI, mI_nI, mI_lt, nlt_mI, mI_le, nle_mI, nI_addm, sh_b, bI_0, bI_1, bI_bI, ckZ_b, ckZ_n0, ckZ_n1, stIe, stJe, stZ_n0, stZ_n1, rm_nI, dv_nI, if_true, if_false, if_pos, if_neg, rf0, rf1, rf5, rf6, rf7, rf8, rf9, rf20, rf23, rf24, rf25, rf26, rf29, rf31, rf33, rf34, rf35, rf37, rf38, rf41, rf42, rf43,  k_X12_holds_165, lr1, ry, rk, rt, rs, f_X12_thingOf, et, tr, hq, z]
          rfl
    · by_cases z : Q ≤ nI (D l 3)
      · refine ⟨false, τ, ?_, ?_, Wp.rf, rfl⟩
        · rw [f_X4_holds, w_1 hw, wd_0 hw, lw9 hw (by omega), bsm, c0', if_neg (show ¬ nI 22 = (20 : Int32) by decide), bsm, if_neg (show ¬ nI 22 = (21 : Int32) by decide), wd_2 hw, lw11 hw (by omega), bsm, wd_1 hw, lw10 hw (by omega), bsm, wd_4 hw, wd_3 hw, cp, cy]
          simp (disch := omega) only [↓mI_e, lit, ofN, bsm, nI_add, pk_mul, pk_sub, nI_e, nI_leE, nI_ltE, nI_mI, mI_nI, mI_lt, nlt_mI, mI_le, nle_mI, nI_addm, sh_b, bI_0, bI_1, bI_bI, ckZ_b, ckZ_n0, ckZ_n1, stIe, stJe, stZ_n0, stZ_n1, rm_nI, dv_nI, if_true, if_false, if_pos, if_neg, rf0, rf1, rf5, rf6, rf7, rf8, rf9, rf20, rf23, rf24, rf25, rf26, rf29, rf31, rf33, rf34, rf35, rf37, rf38, rf41, rf42, rf43,  k_X4_holds_147, w_2 hw, lw12 hw, cv, lw13 hw, cq, f_X10_cellOf, tc, hq, z]
          rfl
        · rw [f_X12_holds, rf0, lr1 (by omega), bsm, r0', if_neg (show ¬ nI 1925 - 1900 = (23 : Int32) by decide), if_neg (show ¬ nI 1925 - 1900 = (24 : Int32) by decide)]
          simp (disch := omega) only [↓mI_e, lit, ofN, bsm, nI_add, pk_mul, pk_sub, nI_e, nI_leE, nI_ltE, nI_mI, mI_nI, mI_lt, nlt_mI, mI_le, nle_mI, nI_addm, sh_b, bI_0, bI_1, bI_bI, ckZ_b, ckZ_n0, ckZ_n1, stIe, stJe, stZ_n0, stZ_n1, rm_nI, dv_nI, if_true, if_false, if_pos, if_neg, rf0, rf1, rf5, rf6, rf7, rf8, rf9, rf20, rf23, rf24, rf25, rf26, rf29, rf31, rf33, rf34, rf35, rf37, rf38, rf41, rf42, rf43,  k_X12_holds_165, lr1, ry, rk, rt, rs, f_X12_thingOf, et, tr, hq, z]
          rfl
      · refine ⟨true, τ, ?_, ?_, Wp.rf, rfl⟩
        · rw [f_X4_holds, w_1 hw, wd_0 hw, lw9 hw (by omega), bsm, c0', if_neg (show ¬ nI 22 = (20 : Int32) by decide), bsm, if_neg (show ¬ nI 22 = (21 : Int32) by decide), wd_2 hw, lw11 hw (by omega), bsm, wd_1 hw, lw10 hw (by omega), bsm, wd_4 hw, wd_3 hw, cp, cy]
          simp (disch := omega) only [↓mI_e, lit, ofN, bsm, nI_add, pk_mul, pk_sub, nI_e, nI_leE, nI_ltE, nI_mI, mI_nI, mI_lt, nlt_mI, mI_le, nle_mI, nI_addm, sh_b, bI_0, bI_1, bI_bI, ckZ_b, ckZ_n0, ckZ_n1, stIe, stJe, stZ_n0, stZ_n1, rm_nI, dv_nI, if_true, if_false, if_pos, if_neg, rf0, rf1, rf5, rf6, rf7, rf8, rf9, rf20, rf23, rf24, rf25, rf26, rf29, rf31, rf33, rf34, rf35, rf37, rf38, rf41, rf42, rf43,  k_X4_holds_147, w_2 hw, lw12 hw, cv, lw13 hw, cq, f_X10_cellOf, tc, hq, z]
          rfl
        · rw [f_X12_holds, rf0, lr1 (by omega), bsm, r0', if_neg (show ¬ nI 1925 - 1900 = (23 : Int32) by decide), if_neg (show ¬ nI 1925 - 1900 = (24 : Int32) by decide)]
          simp (disch := omega) only [↓mI_e, lit, ofN, bsm, nI_add, pk_mul, pk_sub, nI_e, nI_leE, nI_ltE, nI_mI, mI_nI, mI_lt, nlt_mI, mI_le, nle_mI, nI_addm, sh_b, bI_0, bI_1, bI_bI, ckZ_b, ckZ_n0, ckZ_n1, stIe, stJe, stZ_n0, stZ_n1, rm_nI, dv_nI, if_true, if_false, if_pos, if_neg, rf0, rf1, rf5, rf6, rf7, rf8, rf9, rf20, rf23, rf24, rf25, rf26, rf29, rf31, rf33, rf34, rf35, rf37, rf38, rf41, rf42, rf43,  k_X12_holds_165, lr1, ry, rk, rt, rs, f_X12_thingOf, et, tr, hq, z]
          rfl
/-- the line behind a step, for both (not behind stop) -/
theorem L_next {w lf : Nat} (hl : isLf w lf) {g : Nat → Int64} {L : Nat} {D : Nat → Nat → Nat} {σ0 τ0 : ST} {B s d : Nat} {σ τ : ST} (h : LV w lf g L D σ0 τ0 B s d σ τ) {l : Nat} (hL : l < L) (h21 : D l 0 ≠ 21) (h22 : D l 0 ≠ 22) (hP : LPs lf L D l σ τ) (rec33 : Nat → Int32 → ST → Option ST) : ∃ l' σ1 τ1 F', l' ≤ L ∧ 900000 < F' ∧ LV w lf g L D σ0 τ0 B s d σ1 τ1 ∧ LPs lf L D l' σ1 τ1 ∧ NE L D l' ∧ f_X4_lineBehindStep lf w (nI l) σ = some (nI l', σ1) ∧ (ldA LR τ 1 (nI (4480 + 6 * l))).bind (fun a14 => if a14 = nI 20 then ((ldA LR τ 1 (nI (4480 + 6 * l + 1))).bind fun a16 => (stA LR τ 20 (nI l) (a16 - nI 1)).bind fun σ17 => k_X12_lives_125 rec33 0 (nI l) (nI (4480 + 6 * l)) σ17) else k_X12_lives_125 rec33 0 (nI l) (nI (4480 + 6 * l)) τ) = (k_X12_behindEnds_2 F' 0 (nI l') τ1).bind (fun u => rec33 0 u.1 u.2) := by
  have hw := isLf_w hl
  have hL60 := h.2.1.2.2.2
  obtain ⟨f7, hr⟩ := LV_days h
  have hv := h.2.2.2.2.2.2
  obtain ⟨c0, cY, cP, cV, cQ, cM⟩ := h.2.1.2.2.1 l hL
  obtain ⟨r0, rY, rP, rV, rK, rN, rT, rM, rS⟩ := hr l hL
  obtain ⟨v0, vY, v78, v9, vP, v17, vV, v18, v20, _⟩ := hv l hL
  have n10 : (nI 1 = nI 0) = False := eq_false (by decide)
  have ne1 : D l 0 ≠ 20 → NE L D (l + 1) := fun ne q1 q2 q3 q4 => by
    have : D (l + 1) 5 = l := by omega
    rw [this] at q3
    exact ne q3
  by_cases e20 : D l 0 = 20
  · -- a loop
    have hn := v20 e20
    have c0' : gA σ (w + 9) l = nI 23 := by have z := c0; rw [e20] at z; exact z
    have r0' : gA τ 1 (4480 + 6 * l) = nI 20 := by have z := r0; rw [e20] at z; exact z
    have cv : gA σ (w + 12) l = nI (D l 3) := cV (by rw [e20]; rfl)
    have ry : gA τ 1 (4480 + 6 * l + 1) = nI (D l 3) := rV (by rw [e20]; rfl)
    have cm : gA σ (w + 14) l = nI (D l 5) := cM (by rw [e20]; rfl)
    have cm' : ∀ F, gA (sA σ (lf + 2) F) (w + 14) l = nI (D l 5) := fun F => by rw [gA_sA, if_neg (w_lf hl (x := 14) (by omega) 2 (by omega))]; exact cm
    obtain ⟨q1, q2, q3, q4, q5⟩ := VD_beg hv hL (by rw [e20]; rfl)
    have g0' : ∀ F, gA (sA τ 20 F) 1 (4480 + 6 * l) = nI 20 := fun F => by rw [gA_sA, if_neg (by decide)]; exact r0'
    have oth : ∀ (F G : Nat → Int32) (m : Nat), (∀ k, k ≠ l → F k = gA σ (lf + 2) k) → (∀ k, k ≠ l → G k = gA τ 20 k) → l < m → m ≤ l + 2 → ∀ k, k < L → D k 0 = 20 → k < m → m ≤ D k 5 → k ≠ l → k ≠ l + 1 → ∃ r, r ≤ 98 ∧ gA (sA τ 20 G) 20 k = nI r ∧ gA (sA σ (lf + 2) F) (lf + 2) k = nI (r + 1) := fun F G m hF hG m1 m2 k k1 k2 k3 k4 k5 k6 => by
      rw [gA_sA, if_pos rfl, gA_sA, if_pos rfl, hF k k5, hG k k5]
      exact hP k k1 k2 (by omega) (by omega)
    by_cases em : D l 5 = l + 1
    · -- of nothing
      have e21 : D (l + 1) 0 = 21 := by rw [← em]; exact q3
      have e5 : D (l + 1) 5 = l := by rw [← em]; exact q4
      obtain ⟨F', hF'⟩ : ∃ F', F' = FU - (D l 3 - 1 + 1) := ⟨_, rfl⟩
      have hemp := r_empty (D := D) hL60 (show l + 1 < L by omega) e20 e21 e5 (gA τ 1) f7 hr (D l 3 - 1) FU (sA τ 20 (upd (gA τ 20) l (nI (D l 3 - 1)))) (by omega) (by unfold FU; omega) (by rw [gA_sA, if_neg (by decide)]) (by rw [gA_sA, if_pos rfl, upd_at, if_pos rfl])
      rw [sA_sA, ← hF'] at hemp
      have eG : upd (gA (sA τ 20 (upd (gA τ 20) l (nI (D l 3 - 1)))) 20) l (nI 0) = upd (gA τ 20) l (nI 0) := by
        funext j
        rw [gA_sA, if_pos rfl, upd_at, upd_at, upd_at]
        split <;> rfl
      rw [eG] at hemp
      refine ⟨l + 2, sA σ (lf + 2) (upd (gA σ (lf + 2)) l (nI (D l 3))), sA τ 20 (upd (gA τ 20) l (nI 0)), F', by omega, by rw [hF']; unfold FU; omega, LV_loops hl h _ _, ?_, ?_, ?_, ?_⟩
      · intro k k1 k2 k3 k4
        have k5 : k ≠ l := fun z => by rw [z, em] at k4; omega
        have k6 : k ≠ l + 1 := fun z => by rw [z, e21] at k2; omega
        exact oth _ _ (l + 2) (fun k hk => by rw [upd_at, if_neg hk]) (fun k hk => by rw [upd_at, if_neg hk]) (by omega) (by omega) k k1 k2 k3 k4 k5 k6
      · intro z1 z2 z3 z4
        have : D (l + 2) 5 = l + 1 := by omega
        rw [this, e21] at z3
        omega
      · simp (disch := omega) only [↓mI_e, lit, ofN, bsm, nI_add, pk_mul, pk_sub, nI_e, nI_leE, nI_ltE, nI_mI, mI_nI, mI_lt, nlt_mI, mI_le, nle_mI, nI_addm, sh_b, bI_0, bI_1, bI_bI, ckZ_b, ckZ_n0, ckZ_n1, stIe, stJe, stZ_n0, stZ_n1, rm_nI, dv_nI, if_true, if_false, if_pos, if_neg, rf0, rf1, rf5, rf6, rf7, rf8, rf9, rf20, rf23, rf24, rf25, rf26, rf29, rf31, rf33, rf34, rf35, rf37, rf38, rf41, rf42, rf43,  f_X4_lineBehindStep, w_1 hw, wd_0 hw, wd_3 hw, wd_5 hw, lw9 hw, c0', lw12 hw, cv, lf_2 hl, st2 hl, lw14 hw, cm', em, k_X4_lineBehindStep_86]
      · simp (disch := omega) only [↓mI_e, lit, ofN, bsm, nI_add, pk_mul, pk_sub, nI_e, nI_leE, nI_ltE, nI_mI, mI_nI, mI_lt, nlt_mI, mI_le, nle_mI, nI_addm, sh_b, bI_0, bI_1, bI_bI, ckZ_b, ckZ_n0, ckZ_n1, stIe, stJe, stZ_n0, stZ_n1, rm_nI, dv_nI, if_true, if_false, if_pos, if_neg, rf0, rf1, rf5, rf6, rf7, rf8, rf9, rf20, rf23, rf24, rf25, rf26, rf29, rf31, rf33, rf34, rf35, rf37, rf38, rf41, rf42, rf43,  lr1, r0', ry, sr20, k_X12_lives_125, g0', k_X12_lives_159, k_X12_lives_162, f_X12_behindEnds]
        rw [hemp]
    · have en : nI (D l 5) = nI (l + 1) → False := fun z => by rw [nI_e (by omega) (by omega)] at z; exact em z
      have er : D l 3 - 1 + 1 = D l 3 := by omega
      refine ⟨l + 1, sA σ (lf + 2) (upd (gA σ (lf + 2)) l (nI (D l 3))), sA τ 20 (upd (gA τ 20) l (nI (D l 3 - 1))), FU, by omega, by unfold FU; omega, LV_loops hl h _ _, ?_, ?_, ?_, ?_⟩
      · intro k k1 k2 k3 k4
        by_cases z : k = l
        · subst z
          rw [gA_sA, if_pos rfl, gA_sA, if_pos rfl, upd_at, if_pos rfl, upd_at, if_pos rfl]
          exact ⟨D k 3 - 1, by omega, rfl, by rw [er]⟩
        · exact oth _ _ (l + 1) (fun k hk => by rw [upd_at, if_neg hk]) (fun k hk => by rw [upd_at, if_neg hk]) (by omega) (by omega) k k1 k2 k3 k4 z (by omega)
      · intro _ z2
        exact absurd z2 (VD_in hv hL (by rw [e20]; rfl) em)
      · simp (disch := omega) only [↓mI_e, lit, ofN, bsm, nI_add, pk_mul, pk_sub, nI_e, nI_leE, nI_ltE, nI_mI, mI_nI, mI_lt, nlt_mI, mI_le, nle_mI, nI_addm, sh_b, bI_0, bI_1, bI_bI, ckZ_b, ckZ_n0, ckZ_n1, stIe, stJe, stZ_n0, stZ_n1, rm_nI, dv_nI, if_true, if_false, if_pos, if_neg, rf0, rf1, rf5, rf6, rf7, rf8, rf9, rf20, rf23, rf24, rf25, rf26, rf29, rf31, rf33, rf34, rf35, rf37, rf38, rf41, rf42, rf43,  f_X4_lineBehindStep, w_1 hw, wd_0 hw, wd_3 hw, wd_5 hw, lw9 hw, c0', lw12 hw, cv, lf_2 hl, st2 hl, lw14 hw, cm', em, k_X4_lineBehindStep_86]
      · simp (disch := omega) only [↓mI_e, lit, ofN, bsm, nI_add, pk_mul, pk_sub, nI_e, nI_leE, nI_ltE, nI_mI, mI_nI, mI_lt, nlt_mI, mI_le, nle_mI, nI_addm, sh_b, bI_0, bI_1, bI_bI, ckZ_b, ckZ_n0, ckZ_n1, stIe, stJe, stZ_n0, stZ_n1, rm_nI, dv_nI, if_true, if_false, if_pos, if_neg, rf0, rf1, rf5, rf6, rf7, rf8, rf9, rf20, rf23, rf24, rf25, rf26, rf29, rf31, rf33, rf34, rf35, rf37, rf38, rf41, rf42, rf43,  lr1, r0', ry, sr20, k_X12_lives_125, g0', k_X12_lives_159, k_X12_lives_162, f_X12_behindEnds]
  · by_cases e23 : 23 ≤ D l 0
    · -- a when
      have hoO : oO (D l 0) = true := by
        have : D l 0 = 23 ∨ D l 0 = 24 ∨ D l 0 = 25 := by omega
        rcases this with z | z | z <;> rw [z] <;> rfl
      have hoM : oM (D l 0) = true := by
        have : D l 0 = 23 ∨ D l 0 = 24 ∨ D l 0 = 25 := by omega
        rcases this with z | z | z <;> rw [z] <;> rfl
      obtain ⟨q1, q2, q3, q4, q5⟩ := VD_beg hv hL hoO
      have cm : gA σ (w + 14) l = nI (D l 5) := cM hoM
      have rm : gA τ 1 (4480 + 6 * l + 4) = nI (D l 5) := rM hoM
      obtain ⟨b, τ1, b1, b2, b3, b4⟩ := L_holds hl h hL (by omega)
      have hk := LV_keep hl h b3 (B' := B) (by rw [b4]; exact h.1)
      have rm' : gA τ1 1 (4480 + 6 * l + 4) = nI (D l 5) := by rw [b4]; exact rm
      have r0' : gA τ 1 (4480 + 6 * l) = nI (1900 + D l 0) := by
        have z : gA τ 1 (4480 + 6 * l) = nI (rwd (D l 0)) := r0
        rw [z]
        unfold rwd
        rw [if_pos e23]
      have c0' : gA σ (w + 9) l = nI (D l 0 - 3) := by
        have z : gA σ (w + 9) l = nI (cw (D l 0)) := c0
        rw [z]
        have : D l 0 = 23 ∨ D l 0 = 24 ∨ D l 0 = 25 := by omega
        rcases this with z | z | z <;> rw [z] <;> rfl
      have c87 : f_X4_lineBehindStep lf w (nI l) σ = k_X4_lineBehindStep_87 lf w (nI l) (w + 8) σ := by
        have : D l 0 = 23 ∨ D l 0 = 24 ∨ D l 0 = 25 := by omega
        rcases this with z | z | z
        · rw [z] at c0'
          simp (disch := omega) only [↓mI_e, lit, ofN, bsm, nI_add, pk_mul, pk_sub, nI_e, nI_leE, nI_ltE, nI_mI, mI_nI, mI_lt, nlt_mI, mI_le, nle_mI, nI_addm, sh_b, bI_0, bI_1, bI_bI, ckZ_b, ckZ_n0, ckZ_n1, stIe, stJe, stZ_n0, stZ_n1, rm_nI, dv_nI, if_true, if_false, if_pos, if_neg, rf0, rf1, rf5, rf6, rf7, rf8, rf9, rf20, rf23, rf24, rf25, rf26, rf29, rf31, rf33, rf34, rf35, rf37, rf38, rf41, rf42, rf43,  f_X4_lineBehindStep, w_1 hw, wd_0 hw, lw9 hw, c0']
        · rw [z] at c0'
          simp (disch := omega) only [↓mI_e, lit, ofN, bsm, nI_add, pk_mul, pk_sub, nI_e, nI_leE, nI_ltE, nI_mI, mI_nI, mI_lt, nlt_mI, mI_le, nle_mI, nI_addm, sh_b, bI_0, bI_1, bI_bI, ckZ_b, ckZ_n0, ckZ_n1, stIe, stJe, stZ_n0, stZ_n1, rm_nI, dv_nI, if_true, if_false, if_pos, if_neg, rf0, rf1, rf5, rf6, rf7, rf8, rf9, rf20, rf23, rf24, rf25, rf26, rf29, rf31, rf33, rf34, rf35, rf37, rf38, rf41, rf42, rf43,  f_X4_lineBehindStep, w_1 hw, wd_0 hw, lw9 hw, c0']
        · rw [z] at c0'
          simp (disch := omega) only [↓mI_e, lit, ofN, bsm, nI_add, pk_mul, pk_sub, nI_e, nI_leE, nI_ltE, nI_mI, mI_nI, mI_lt, nlt_mI, mI_le, nle_mI, nI_addm, sh_b, bI_0, bI_1, bI_bI, ckZ_b, ckZ_n0, ckZ_n1, stIe, stJe, stZ_n0, stZ_n1, rm_nI, dv_nI, if_true, if_false, if_pos, if_neg, rf0, rf1, rf5, rf6, rf7, rf8, rf9, rf20, rf23, rf24, rf25, rf26, rf29, rf31, rf33, rf34, rf35, rf37, rf38, rf41, rf42, rf43,  f_X4_lineBehindStep, w_1 hw, wd_0 hw, lw9 hw, c0']
      have n20 : ¬ 1900 + D l 0 = 20 := by omega
      have n19 : ¬ 1900 + D l 0 < 1900 := by omega
      cases b
      · refine ⟨D l 5 + 1, σ, τ1, FU, by omega, by unfold FU; omega, hk.1, ?_, ?_, ?_, ?_⟩
        · intro k k1 k2 k3 k4
          rw [hk.2.2]
          have k5 : k < l := by
            by_cases z : k < l
            · exact z
            · exfalso
              by_cases z2 : k = l
              · rw [z2] at k2; omega
              · by_cases z3 : k = D l 5
                · rw [z3, q3] at k2; omega
                · have := q5 k (by omega) (by omega) (by rw [k2]; rfl)
                  omega
          exact hP k k1 k2 k5 (by omega)
        · intro z1 z2 z3 z4
          have : D (D l 5 + 1) 5 = D l 5 := by omega
          rw [this, q3] at z3
          omega
        · rw [c87]
          simp (disch := omega) only [↓mI_e, lit, ofN, bsm, nI_add, pk_mul, pk_sub, nI_e, nI_leE, nI_ltE, nI_mI, mI_nI, mI_lt, nlt_mI, mI_le, nle_mI, nI_addm, sh_b, bI_0, bI_1, bI_bI, ckZ_b, ckZ_n0, ckZ_n1, stIe, stJe, stZ_n0, stZ_n1, rm_nI, dv_nI, if_true, if_false, if_pos, if_neg, rf0, rf1, rf5, rf6, rf7, rf8, rf9, rf20, rf23, rf24, rf25, rf26, rf29, rf31, rf33, rf34, rf35, rf37, rf38, rf41, rf42, rf43,  k_X4_lineBehindStep_87, b1, bI_f, wd_5 hw, lw14 hw, cm, k_X4_lineBehindStep_110]
        · simp (disch := omega) only [↓mI_e, lit, ofN, bsm, nI_add, pk_mul, pk_sub, nI_e, nI_leE, nI_ltE, nI_mI, mI_nI, mI_lt, nlt_mI, mI_le, nle_mI, nI_addm, sh_b, bI_0, bI_1, bI_bI, ckZ_b, ckZ_n0, ckZ_n1, stIe, stJe, stZ_n0, stZ_n1, rm_nI, dv_nI, if_true, if_false, if_pos, if_neg, rf0, rf1, rf5, rf6, rf7, rf8, rf9, rf20, rf23, rf24, rf25, rf26, rf29, rf31, rf33, rf34, rf35, rf37, rf38, rf41, rf42, rf43,  lr1, r0', n20, k_X12_lives_125, n19, b2, bI_f, rm', k_X12_lives_162, f_X12_behindEnds]
      · refine ⟨l + 1, σ, τ1, FU, by omega, by unfold FU; omega, hk.1, LPs_c (LPs_up hP e20) rfl hk.2.2, ne1 e20, ?_, ?_⟩
        · rw [c87]
          simp (disch := omega) only [↓mI_e, lit, ofN, bsm, nI_add, pk_mul, pk_sub, nI_e, nI_leE, nI_ltE, nI_mI, mI_nI, mI_lt, nlt_mI, mI_le, nle_mI, nI_addm, sh_b, bI_0, bI_1, bI_bI, ckZ_b, ckZ_n0, ckZ_n1, stIe, stJe, stZ_n0, stZ_n1, rm_nI, dv_nI, if_true, if_false, if_pos, if_neg, rf0, rf1, rf5, rf6, rf7, rf8, rf9, rf20, rf23, rf24, rf25, rf26, rf29, rf31, rf33, rf34, rf35, rf37, rf38, rf41, rf42, rf43,  k_X4_lineBehindStep_87, b1, bI_t, n10, k_X4_lineBehindStep_110]
        · simp (disch := omega) only [↓mI_e, lit, ofN, bsm, nI_add, pk_mul, pk_sub, nI_e, nI_leE, nI_ltE, nI_mI, mI_nI, mI_lt, nlt_mI, mI_le, nle_mI, nI_addm, sh_b, bI_0, bI_1, bI_bI, ckZ_b, ckZ_n0, ckZ_n1, stIe, stJe, stZ_n0, stZ_n1, rm_nI, dv_nI, if_true, if_false, if_pos, if_neg, rf0, rf1, rf5, rf6, rf7, rf8, rf9, rf20, rf23, rf24, rf25, rf26, rf29, rf31, rf33, rf34, rf35, rf37, rf38, rf41, rf42, rf43,  lr1, r0', n20, k_X12_lives_125, n19, b2, bI_t, n10, k_X12_lives_159, k_X12_lives_162, f_X12_behindEnds]
    · -- any other
      have ecw : cw (D l 0) = D l 0 := by unfold cw; rw [if_neg (by omega), if_neg (by omega), if_neg (by omega), if_neg (by omega), if_neg (by omega), if_neg (by omega)]
      have erw : rwd (D l 0) = D l 0 := by unfold rwd; rw [if_neg (by omega)]
      have c0' : gA σ (w + 9) l = nI (D l 0) := by have z := c0; rw [ecw] at z; exact z
      have r0' : gA τ 1 (4480 + 6 * l) = nI (D l 0) := by have z := r0; rw [erw] at z; exact z
      refine ⟨l + 1, σ, τ, FU, by omega, by unfold FU; omega, h, LPs_up hP e20, ne1 e20, ?_, ?_⟩
      · simp (disch := omega) only [↓mI_e, lit, ofN, bsm, nI_add, pk_mul, pk_sub, nI_e, nI_leE, nI_ltE, nI_mI, mI_nI, mI_lt, nlt_mI, mI_le, nle_mI, nI_addm, sh_b, bI_0, bI_1, bI_bI, ckZ_b, ckZ_n0, ckZ_n1, stIe, stJe, stZ_n0, stZ_n1, rm_nI, dv_nI, if_true, if_false, if_pos, if_neg, rf0, rf1, rf5, rf6, rf7, rf8, rf9, rf20, rf23, rf24, rf25, rf26, rf29, rf31, rf33, rf34, rf35, rf37, rf38, rf41, rf42, rf43,  f_X4_lineBehindStep, w_1 hw, wd_0 hw, lw9 hw, c0', k_X4_lineBehindStep_111]
      · simp (disch := omega) only [↓mI_e, lit, ofN, bsm, nI_add, pk_mul, pk_sub, nI_e, nI_leE, nI_ltE, nI_mI, mI_nI, mI_lt, nlt_mI, mI_le, nle_mI, nI_addm, sh_b, bI_0, bI_1, bI_bI, ckZ_b, ckZ_n0, ckZ_n1, stIe, stJe, stZ_n0, stZ_n1, rm_nI, dv_nI, if_true, if_false, if_pos, if_neg, rf0, rf1, rf5, rf6, rf7, rf8, rf9, rf20, rf23, rf24, rf25, rf26, rf29, rf31, rf33, rf34, rf35, rf37, rf38, rf41, rf42, rf43,  lr1, r0', k_X12_lives_125, k_X12_lives_159, k_X12_lives_162, f_X12_behindEnds]
