/-! LIFE: every kind of step -/
theorem L_storm {w lf : Nat} (hl : isLf w lf) {g : Nat → Int64} {L : Nat} {D : Nat → Nat → Nat} {σ0 τ0 : ST} {B s v K : Nat} (hv : v ≤ 16) (R2 R20 : Nat → Int32) : ∀ (n n' k d : Nat) (σ τ : ST), k ≤ K → K - k < n → K - k < n' → KN (gA τ 1) = K → LV w lf g L D σ0 τ0 B s d σ τ → gA σ (lf + 2) = R2 → gA τ 20 = R20 → ∃ d' σ1 τ1, k_X4_drawStorm_2 n lf w (nI v) (nI k) σ = some σ1 ∧ k_X12_does_376 n' 0 (nI v) (nI k) τ = some τ1 ∧ LV w lf g L D σ0 τ0 B s d' σ1 τ1 ∧ gA σ1 (lf + 2) = R2 ∧ gA τ1 20 = R20 := by
  have hw := isLf_w hl
  intro n
  induction n with
  | zero => intros; omega
  | succ n ih =>
    intro n' k d σ τ hk hn hn' hK h e2 e20
    obtain ⟨n1, rfl⟩ : ∃ n1, n' = n1 + 1 := ⟨n' - 1, by omega⟩
    have hW := h.1
    have hK6 := hW.1.1.1
    have e6 : gI σ (w + 1) 6 = nI K := by rw [← hK]; exact hW.1.2.1.1.trans (eK _)
    have e3 : gA τ 1 3 = nI K := by rw [← hK]; exact eK _
    rw [k_X4_drawStorm_2, k_X12_does_376]
    by_cases c : K ≤ k
    · refine ⟨d, σ, τ, ?_, ?_, h, e2, e20⟩
      · simp (disch := omega) only [↓mI_e, lit, ofN, bsm, nI_add, pk_mul, pk_sub, nI_e, nI_leE, nI_ltE, nI_mI, mI_nI, mI_lt, nlt_mI, mI_le, nle_mI, nI_addm, sh_b, bI_0, bI_1, bI_bI, ckZ_b, ckZ_n0, ckZ_n1, stIe, stJe, stZ_n0, stZ_n1, rm_nI, dv_nI, if_true, if_false, if_pos, if_neg, rf0, rf1, rf5, rf6, rf7, rf8, rf9, rf20, rf23, rf24, rf25, rf26, rf29, rf31, rf33, rf34, rf35, rf37, rf38, rf41, rf42, rf43,  w_0 hw, e6, c]
      · simp (disch := omega) only [↓mI_e, lit, ofN, bsm, nI_add, pk_mul, pk_sub, nI_e, nI_leE, nI_ltE, nI_mI, mI_nI, mI_lt, nlt_mI, mI_le, nle_mI, nI_addm, sh_b, bI_0, bI_1, bI_bI, ckZ_b, ckZ_n0, ckZ_n1, stIe, stJe, stZ_n0, stZ_n1, rm_nI, dv_nI, if_true, if_false, if_pos, if_neg, rf0, rf1, rf5, rf6, rf7, rf8, rf9, rf20, rf23, rf24, rf25, rf26, rf29, rf31, rf33, rf34, rf35, rf37, rf38, rf41, rf42, rf43,  lr1, e3, c, k_X12_does_437]
    · have hd := h.2.2.2.1
      have hm1 : (d * 2801 + 12413) % 65536 < 65536 := Nat.mod_lt _ (by omega)
      have hdm := hd.2.2
      generalize hd1 : (d * 2801 + 12413) % 65536 = d1 at hm1
      have h1 : LV w lf g L D σ0 τ0 B s d1 (sI σ lf 3 (nI d1)) (sI τ 0 39 (nI d1)) := LV_out hl h (wv_sI_out _ (wv_lf hl (x := 0) (by omega)) _ _) rfl ⟨by rw [gI_sI, if_neg (by omega)]; exact h.2.2.1.1, by rw [gI_sI, if_neg (by decide)]; exact h.2.2.1.2⟩ ⟨by rw [gI_sI, if_pos ⟨rfl, rfl⟩], by rw [gI_sI, if_pos ⟨rfl, rfl⟩], hm1⟩ h.2.2.2.2.1 (SqE_sI hl (Sq.rf σ) _ _) (SL.sI 39 _ (by omega))
      have u0 : gI (sI σ lf 3 (nI d1)) w 9 = gA τ 1 5 := h1.1.2.1.1
      have i39 : gI (sI τ 0 39 (nI d1)) 0 39 = nI d1 := by rw [gI_sI, if_pos ⟨rfl, rfl⟩]
      have i3 : gI (sI σ lf 3 (nI d1)) lf 3 = nI d1 := by rw [gI_sI, if_pos ⟨rfl, rfl⟩]
      have a1 : gA (sI τ 0 39 (nI d1)) 1 = gA τ 1 := rfl
      have mq : d1 / 8 % 16 < 16 := Nat.mod_lt _ (by omega)
      have step : ∀ u : Int32, ∃ d' σ1 τ1, k_X4_drawStorm_2 n lf w (nI v) (nI (k + 1)) (sI (sI σ lf 3 (nI d1)) w 9 u) = some σ1 ∧ k_X12_does_376 n1 0 (nI v) (nI (k + 1)) (sA (sI τ 0 39 (nI d1)) 1 (upd (gA τ 1) 5 u)) = some τ1 ∧ LV w lf g L D σ0 τ0 B s d' σ1 τ1 ∧ gA σ1 (lf + 2) = R2 ∧ gA τ1 20 = R20 := fun u => by
        obtain ⟨z1, z2, z3⟩ := LV_keep hl h1 (Wp_up hw 9 u u 5 (by omega)) (B' := B) (by rw [wv_sI0, gA_sA, if_pos rfl]; exact RelW_up h1.1 u)
        rw [a1] at z1 z3
        refine ih n1 (k + 1) d1 _ _ (by omega) (by omega) (by omega) ?_ z1 (by rw [z2]; exact e2) (by rw [z3]; exact e20)
        rw [gA_sA, if_pos rfl]
        unfold KN
        rw [upd_at, if_neg (by decide)]
        exact hK
      have e39 : gI τ 0 39 = nI d := hd.2.1
      have ecl : gI σ lf 3 = nI d := hd.1
      by_cases c2 : d1 / 8 % 16 < v
      · have c3 : ¬ v ≤ d1 / 8 % 16 := by omega
        simp (disch := omega) only [↓mI_e, lit, ofN, bsm, nI_add, pk_mul, pk_sub, nI_e, nI_leE, nI_ltE, nI_mI, mI_nI, mI_lt, nlt_mI, mI_le, nle_mI, nI_addm, sh_b, bI_0, bI_1, bI_bI, ckZ_b, ckZ_n0, ckZ_n1, stIe, stJe, stZ_n0, stZ_n1, rm_nI, dv_nI, if_true, if_false, if_pos, if_neg, rf0, rf1, rf5, rf6, rf7, rf8, rf9, rf20, rf23, rf24, rf25, rf26, rf29, rf31, rf33, rf34, rf35, rf37, rf38, rf41, rf42, rf43,  w_0 hw, e6, c, ecl, hd1, i3, c2, k_X4_drawStorm_53, f_X10_setUp, k_X10_setUp_26, u0, lr1, e3, f_X12_draw, e39, i39, c3, a1, k_X12_does_427, sr1]
        exact step _
      · have c3 : v ≤ d1 / 8 % 16 := by omega
        simp (disch := omega) only [↓mI_e, lit, ofN, bsm, nI_add, pk_mul, pk_sub, nI_e, nI_leE, nI_ltE, nI_mI, mI_nI, mI_lt, nlt_mI, mI_le, nle_mI, nI_addm, sh_b, bI_0, bI_1, bI_bI, ckZ_b, ckZ_n0, ckZ_n1, stIe, stJe, stZ_n0, stZ_n1, rm_nI, dv_nI, if_true, if_false, if_pos, if_neg, rf0, rf1, rf5, rf6, rf7, rf8, rf9, rf20, rf23, rf24, rf25, rf26, rf29, rf31, rf33, rf34, rf35, rf37, rf38, rf41, rf42, rf43,  w_0 hw, e6, c, ecl, hd1, i3, c2, k_X4_drawStorm_53, f_X10_setUp, k_X10_setUp_26, u0, lr1, e3, f_X12_draw, e39, i39, c3, a1, k_X12_does_427, sr1]
        exact step _
theorem add0 (x : Int32) : x + nI 0 = x := Int32.add_zero x
theorem upd_self (f : Nat → Int32) (k : Nat) : upd f k (f k) = f := by
  funext j
  rw [upd_at]
  split
  · rename_i h; rw [h]
  · rfl
theorem L_do {w lf : Nat} (hl : isLf w lf) {g : Nat → Int64} {L : Nat} {D : Nat → Nat → Nat} {σ0 τ0 : ST} {B s d : Nat} (hB : B + 999 < 2 ^ 31) {σ τ : ST} (h : LV w lf g L D σ0 τ0 B s d σ τ) {l : Nat} (hL : l < L) (h21 : D l 0 ≠ 21) : ∃ σ1 τ1, f_X4_doStep lf w (nI l) 97 σ = some σ1 ∧ (D l 0 ≠ 22 → f_X12_does 0 (nI (4480 + 6 * l)) τ = some τ1) ∧ OKs w lf g L D σ0 τ0 B s σ τ σ1 τ1 := by
  have hw := isLf_w hl
  have hW := h.1
  have hK := hW.1.1.1
  have hY := hW.1.1.2.1
  have hL60 := h.2.1.2.2.2
  obtain ⟨f7, hr⟩ := LV_days h
  obtain ⟨c0, cY, cP, cV, cQ, cM⟩ := h.2.1.2.2.1 l hL
  obtain ⟨r0, rY, rP, rV, rK, rN, rT, rM, rS⟩ := hr l hL
  obtain ⟨v0, vY, v78, v9, vP, v17, vV, v18, _⟩ := h.2.2.2.2.2.2 l hL
  have n10 : (nI 1 = nI 0) = False := eq_false (by decide)
  have mm : (mI = mI) = True := eq_true rfl
  have u0 : gI σ w 9 = gA τ 1 5 := hW.2.1.1
  have i1 : nI (4480 + 6 * l) + (1 : Int32) = nI (4480 + 6 * l + 1) := by simp only [lit, nI_add]
  have i2 : nI (4480 + 6 * l) + (2 : Int32) = nI (4480 + 6 * l + 2) := by simp only [lit, nI_add]
  have idle : OKs w lf g L D σ0 τ0 B s σ τ σ τ := OK_world hl h Wp.rf hW (by omega)
  have hcs : D l 0 = 7 ∨ D l 0 = 8 ∨ D l 0 = 9 ∨ D l 0 = 10 ∨ D l 0 = 11 ∨ D l 0 = 12 ∨ D l 0 = 13 ∨ D l 0 = 14 ∨ D l 0 = 15 ∨ D l 0 = 16 ∨ D l 0 = 17 ∨ D l 0 = 18 ∨ D l 0 = 20 ∨ D l 0 = 22 ∨ D l 0 = 23 ∨ D l 0 = 24 ∨ D l 0 = 25 := by omega
  rcases hcs with e | e | e | e | e | e | e | e | e | e | e | e | e | e | e | e | e
  · -- 7
    have c0' : gA σ (w + 9) l = nI 7 := by have z := c0; rw [e] at z; exact z
    have r0' : gA τ 1 (4480 + 6 * l) = nI 7 := by have z := r0; rw [e] at z; exact z
    have cy : gA σ (w + 10) l = nI (D l 1) := cY (by rw [e]; rfl)
    have ry : gA τ 1 (4480 + 6 * l + 1) = nI (D l 1) := rY (by rw [e]; rfl)
    have hy := vY (by rw [e]; rfl)
    have cp : gA σ (w + 11) l = nI (D l 2) := cP (by rw [e]; rfl)
    have ha := vP (by rw [e]; rfl)
    have cv : gA σ (w + 12) l = nI (D l 3) := cV (by rw [e]; rfl)
    have hv := vV (by rw [e]; rfl)
    have rk : gA τ 1 (4480 + 6 * l + 2) = nI (D l 2) := rK (by rw [e]; rfl)
    have rt : gA τ 1 (4480 + 6 * l + 3) = nI (D l 3) := rT (by rw [e]; rfl)
    obtain ⟨k, x, σa, σ1, τ1, t1, t2, t3, t4, t5⟩ := L_put hl (by omega) h hy ha (v := D l 3) (r := 4480 + 6 * l) (by omega) (by omega) (Or.inr ⟨r0', rt⟩)
    refine ⟨σ1, τ1, ?_, fun _ => ?_, t5⟩
    · rw [f_X4_doStep, w_1 hw, wd_0 hw, wd_1 hw, wd_2 hw, wd_3 hw, lw10 hw (by omega), bsm, lw11 hw (by omega), bsm, lw12 hw (by omega), bsm, lw9 hw (by omega), bsm, c0', if_pos (show nI 7 = (7 : Int32) from rfl)]
      simp (disch := omega) only [↓mI_e, lit, ofN, bsm, nI_add, pk_mul, pk_sub, nI_e, nI_leE, nI_ltE, nI_mI, mI_nI, mI_lt, nlt_mI, mI_le, nle_mI, nI_addm, sh_b, bI_0, bI_1, bI_bI, ckZ_b, ckZ_n0, ckZ_n1, stIe, stJe, stZ_n0, stZ_n1, rm_nI, dv_nI, if_true, if_false, if_pos, if_neg, rf0, rf1, rf5, rf6, rf7, rf8, rf9, rf20, rf23, rf24, rf25, rf26, rf29, rf31, rf33, rf34, rf35, rf37, rf38, rf41, rf42, rf43,  k_X4_doStep_307, w_1 hw, wd_0 hw, wd_1 hw, wd_2 hw, wd_3 hw, wd_4 hw, lw9 hw, lw10 hw, lw11 hw, lw12 hw, lw13 hw, lf_0 hl, c0', cy, cp, cv, t1, t2, t3]
    · rw [f_X12_does, rf0, i1, i2, lr1 (by omega), bsm, lr1 (by omega), bsm, lr1 (by omega), bsm, r0', if_pos (show nI 7 = (7 : Int32) from rfl)]
      simp (disch := omega) only [↓mI_e, lit, ofN, bsm, nI_add, pk_mul, pk_sub, nI_e, nI_leE, nI_ltE, nI_mI, mI_nI, mI_lt, nlt_mI, mI_le, nle_mI, nI_addm, sh_b, bI_0, bI_1, bI_bI, ckZ_b, ckZ_n0, ckZ_n1, stIe, stJe, stZ_n0, stZ_n1, rm_nI, dv_nI, if_true, if_false, if_pos, if_neg, rf0, rf1, rf5, rf6, rf7, rf8, rf9, rf20, rf23, rf24, rf25, rf26, rf29, rf31, rf33, rf34, rf35, rf37, rf38, rf41, rf42, rf43,  lr1, r0', ry, rk, t4]
  · -- 8
    have c0' : gA σ (w + 9) l = nI 8 := by have z := c0; rw [e] at z; exact z
    have r0' : gA τ 1 (4480 + 6 * l) = nI 8 := by have z := r0; rw [e] at z; exact z
    have cy : gA σ (w + 10) l = nI (D l 1) := cY (by rw [e]; rfl)
    have ry : gA τ 1 (4480 + 6 * l + 1) = nI (D l 1) := rY (by rw [e]; rfl)
    have hy := vY (by rw [e]; rfl)
    have cp : gA σ (w + 11) l = nI (D l 2) := cP (by rw [e]; rfl)
    have ha := vP (by rw [e]; rfl)
    have rk : gA τ 1 (4480 + 6 * l + 2) = nI (D l 2) := rK (by rw [e]; rfl)
    obtain ⟨k, x, σa, σ1, τ1, t1, t2, t3, t4, t5⟩ := L_put hl (by omega) h hy ha (v := 1000) (r := 4480 + 6 * l) (by omega) (by omega) (Or.inl ⟨r0', rfl⟩)
    refine ⟨σ1, τ1, ?_, fun _ => ?_, t5⟩
    · rw [f_X4_doStep, w_1 hw, wd_0 hw, wd_1 hw, wd_2 hw, wd_3 hw, lw10 hw (by omega), bsm, lw11 hw (by omega), bsm, lw12 hw (by omega), bsm, lw9 hw (by omega), bsm, c0', if_neg (show ¬ nI 8 = (7 : Int32) by decide), if_pos (show nI 8 = (8 : Int32) from rfl)]
      simp (disch := omega) only [↓mI_e, lit, ofN, bsm, nI_add, pk_mul, pk_sub, nI_e, nI_leE, nI_ltE, nI_mI, mI_nI, mI_lt, nlt_mI, mI_le, nle_mI, nI_addm, sh_b, bI_0, bI_1, bI_bI, ckZ_b, ckZ_n0, ckZ_n1, stIe, stJe, stZ_n0, stZ_n1, rm_nI, dv_nI, if_true, if_false, if_pos, if_neg, rf0, rf1, rf5, rf6, rf7, rf8, rf9, rf20, rf23, rf24, rf25, rf26, rf29, rf31, rf33, rf34, rf35, rf37, rf38, rf41, rf42, rf43,  k_X4_doStep_307, w_1 hw, wd_0 hw, wd_1 hw, wd_2 hw, wd_3 hw, wd_4 hw, lw9 hw, lw10 hw, lw11 hw, lw12 hw, lw13 hw, lf_0 hl, c0', cy, cp, t1, t2, t3]
    · rw [f_X12_does, rf0, i1, i2, lr1 (by omega), bsm, lr1 (by omega), bsm, lr1 (by omega), bsm, r0', if_neg (show ¬ nI 8 = (7 : Int32) by decide), if_pos (show nI 8 = (8 : Int32) from rfl)]
      simp (disch := omega) only [↓mI_e, lit, ofN, bsm, nI_add, pk_mul, pk_sub, nI_e, nI_leE, nI_ltE, nI_mI, mI_nI, mI_lt, nlt_mI, mI_le, nle_mI, nI_addm, sh_b, bI_0, bI_1, bI_bI, ckZ_b, ckZ_n0, ckZ_n1, stIe, stJe, stZ_n0, stZ_n1, rm_nI, dv_nI, if_true, if_false, if_pos, if_neg, rf0, rf1, rf5, rf6, rf7, rf8, rf9, rf20, rf23, rf24, rf25, rf26, rf29, rf31, rf33, rf34, rf35, rf37, rf38, rf41, rf42, rf43,  lr1, r0', ry, rk, t4]
  · -- 9
    have c0' : gA σ (w + 9) l = nI 9 := by have z := c0; rw [e] at z; exact z
    have r0' : gA τ 1 (4480 + 6 * l) = nI 9 := by have z := r0; rw [e] at z; exact z
    have cy : gA σ (w + 10) l = nI (D l 1) := cY (by rw [e]; rfl)
    have ry : gA τ 1 (4480 + 6 * l + 1) = nI (D l 1) := rY (by rw [e]; rfl)
    have hy := vY (by rw [e]; rfl)
    have cp : gA σ (w + 11) l = nI (D l 2) := cP (by rw [e]; rfl)
    have ha := vP (by rw [e]; rfl)
    have cv : gA σ (w + 12) l = nI (D l 3) := cV (by rw [e]; rfl)
    have hv := vV (by rw [e]; rfl)
    have rk : gA τ 1 (4480 + 6 * l + 2) = nI (D l 2) := rK (by rw [e]; rfl)
    have rt : gA τ 1 (4480 + 6 * l + 3) = nI (D l 3) := rT (by rw [e]; rfl)
    obtain ⟨x, σa, σ1, gr, b, t1, t2, t3, t4, t5⟩ := L_add hl hB h hy ha (n := D l 3) (by omega) (v9 e).1
    have e1 : gA (sA τ 9 gr) 1 = gA τ 1 := rfl
    have e21 : gA (sA τ 9 gr) 21 = gA τ 21 := rfl
    cases b
    · refine ⟨σ1, _, ?_, fun _ => ?_, t5 rfl⟩
      · rw [f_X4_doStep, w_1 hw, wd_0 hw, wd_1 hw, wd_2 hw, wd_3 hw, lw10 hw (by omega), bsm, lw11 hw (by omega), bsm, lw12 hw (by omega), bsm, lw9 hw (by omega), bsm, c0', if_neg (show ¬ nI 9 = (7 : Int32) by decide), if_neg (show ¬ nI 9 = (8 : Int32) by decide), if_pos (show nI 9 = (9 : Int32) from rfl)]
        simp (disch := omega) only [↓mI_e, lit, ofN, bsm, nI_add, pk_mul, pk_sub, nI_e, nI_leE, nI_ltE, nI_mI, mI_nI, mI_lt, nlt_mI, mI_le, nle_mI, nI_addm, sh_b, bI_0, bI_1, bI_bI, ckZ_b, ckZ_n0, ckZ_n1, stIe, stJe, stZ_n0, stZ_n1, rm_nI, dv_nI, if_true, if_false, if_pos, if_neg, rf0, rf1, rf5, rf6, rf7, rf8, rf9, rf20, rf23, rf24, rf25, rf26, rf29, rf31, rf33, rf34, rf35, rf37, rf38, rf41, rf42, rf43,  k_X4_doStep_307, w_1 hw, wd_0 hw, wd_1 hw, wd_2 hw, wd_3 hw, wd_4 hw, lw9 hw, lw10 hw, lw11 hw, lw12 hw, lw13 hw, lf_0 hl, c0', cy, cp, cv, t1, t2]
      · rw [f_X12_does, rf0, i1, i2, lr1 (by omega), bsm, lr1 (by omega), bsm, lr1 (by omega), bsm, r0', if_neg (show ¬ nI 9 = (7 : Int32) by decide), if_neg (show ¬ nI 9 = (8 : Int32) by decide), if_pos (show nI 9 = (9 : Int32) from rfl)]
        simp (disch := omega) only [↓mI_e, lit, ofN, bsm, nI_add, pk_mul, pk_sub, nI_e, nI_leE, nI_ltE, nI_mI, mI_nI, mI_lt, nlt_mI, mI_le, nle_mI, nI_addm, sh_b, bI_0, bI_1, bI_bI, ckZ_b, ckZ_n0, ckZ_n1, stIe, stJe, stZ_n0, stZ_n1, rm_nI, dv_nI, if_true, if_false, if_pos, if_neg, rf0, rf1, rf5, rf6, rf7, rf8, rf9, rf20, rf23, rf24, rf25, rf26, rf29, rf31, rf33, rf34, rf35, rf37, rf38, rf41, rf42, rf43,  lr1, r0', ry, rk, t3, bI_f, lr21, sr21, e21, k_X12_does_437]
    · obtain ⟨x', τa, τ1, q1, q2, q3⟩ := t4 rfl
      refine ⟨σ1, τ1, ?_, fun _ => ?_, q3⟩
      · rw [f_X4_doStep, w_1 hw, wd_0 hw, wd_1 hw, wd_2 hw, wd_3 hw, lw10 hw (by omega), bsm, lw11 hw (by omega), bsm, lw12 hw (by omega), bsm, lw9 hw (by omega), bsm, c0', if_neg (show ¬ nI 9 = (7 : Int32) by decide), if_neg (show ¬ nI 9 = (8 : Int32) by decide), if_pos (show nI 9 = (9 : Int32) from rfl)]
        simp (disch := omega) only [↓mI_e, lit, ofN, bsm, nI_add, pk_mul, pk_sub, nI_e, nI_leE, nI_ltE, nI_mI, mI_nI, mI_lt, nlt_mI, mI_le, nle_mI, nI_addm, sh_b, bI_0, bI_1, bI_bI, ckZ_b, ckZ_n0, ckZ_n1, stIe, stJe, stZ_n0, stZ_n1, rm_nI, dv_nI, if_true, if_false, if_pos, if_neg, rf0, rf1, rf5, rf6, rf7, rf8, rf9, rf20, rf23, rf24, rf25, rf26, rf29, rf31, rf33, rf34, rf35, rf37, rf38, rf41, rf42, rf43,  k_X4_doStep_307, w_1 hw, wd_0 hw, wd_1 hw, wd_2 hw, wd_3 hw, wd_4 hw, lw9 hw, lw10 hw, lw11 hw, lw12 hw, lw13 hw, lf_0 hl, c0', cy, cp, cv, t1, t2]
      · rw [f_X12_does, rf0, i1, i2, lr1 (by omega), bsm, lr1 (by omega), bsm, lr1 (by omega), bsm, r0', if_neg (show ¬ nI 9 = (7 : Int32) by decide), if_neg (show ¬ nI 9 = (8 : Int32) by decide), if_pos (show nI 9 = (9 : Int32) from rfl)]
        simp (disch := omega) only [↓mI_e, lit, ofN, bsm, nI_add, pk_mul, pk_sub, nI_e, nI_leE, nI_ltE, nI_mI, mI_nI, mI_lt, nlt_mI, mI_le, nle_mI, nI_addm, sh_b, bI_0, bI_1, bI_bI, ckZ_b, ckZ_n0, ckZ_n1, stIe, stJe, stZ_n0, stZ_n1, rm_nI, dv_nI, if_true, if_false, if_pos, if_neg, rf0, rf1, rf5, rf6, rf7, rf8, rf9, rf20, rf23, rf24, rf25, rf26, rf29, rf31, rf33, rf34, rf35, rf37, rf38, rf41, rf42, rf43,  lr1, r0', ry, rk, t3, bI_t, n10, e1, rt, q1, q2, k_X12_does_437]
  · -- 10
    have c0' : gA σ (w + 9) l = nI 10 := by have z := c0; rw [e] at z; exact z
    have r0' : gA τ 1 (4480 + 6 * l) = nI 10 := by have z := r0; rw [e] at z; exact z
    have cy : gA σ (w + 10) l = nI (D l 1) := cY (by rw [e]; rfl)
    have ry : gA τ 1 (4480 + 6 * l + 1) = nI (D l 1) := rY (by rw [e]; rfl)
    have hy := vY (by rw [e]; rfl)
    have cp : gA σ (w + 11) l = nI (D l 2) := cP (by rw [e]; rfl)
    have ha := vP (by rw [e]; rfl)
    have rk : gA τ 1 (4480 + 6 * l + 2) = nI (D l 2) := rK (by rw [e]; rfl)
    obtain ⟨gr, G, c1, c2, _⟩ := r_canGet hW.1.1 hy (a := D l 2) (by omega)
    obtain ⟨τb, hτb⟩ : ∃ τb, τb = sI (sA (sA τ 9 gr) 13 G) 0 30 (nI (cnt (rp (gA τ 1) (D l 1) (D l 2)) (pm (gA τ 1)))) := ⟨_, rfl⟩
    rw [← hτb] at c1
    have hpb : Wp w σ σ τ τb := by rw [hτb]; exact ⟨Sq.rf σ, (((Sc.rf τ).sA _ rfl).sA _ rfl).sI _ rfl, fun _ _ _ => rfl⟩
    have g0 : gA τb 1 = gA τ 1 := by rw [hτb]; rfl
    have g21 : gA τb 21 = gA τ 21 := by rw [hτb]; rfl
    by_cases hc : RN (gA τ 1) ≤ cnt (rp (gA τ 1) (D l 1) (D l 2)) (pm (gA τ 1))
    · rw [decide_eq_true hc] at c1
      obtain ⟨σ1, τ1, J, w1, w2, w3, w4, _⟩ := W_get hw (isLf_2 hl) (B := B) (by omega) (τ := τb) (by rw [g0]; exact hW) (y := D l 1) (a := D l 2) (x := nI 0) (by rw [g0]; exact hy) (by omega) (Or.inr ⟨0, by omega, rfl⟩) (by rw [g0]; exact hc) (by rw [g0, hτb]; exact c2)
      have te := tally_eq hl h (hpb.trans w4) w3 (k := 3) (by omega)
      refine ⟨_, _, ?_, fun _ => ?_, OK_tally hl h (hpb.trans w4) w3 (by omega) 3 (gA τ1 21 3 + nI 1)⟩
      · rw [f_X4_doStep, w_1 hw, wd_0 hw, wd_1 hw, wd_2 hw, wd_3 hw, lw10 hw (by omega), bsm, lw11 hw (by omega), bsm, lw12 hw (by omega), bsm, lw9 hw (by omega), bsm, c0', if_neg (show ¬ nI 10 = (7 : Int32) by decide), if_neg (show ¬ nI 10 = (8 : Int32) by decide), if_neg (show ¬ nI 10 = (9 : Int32) by decide), if_pos (show nI 10 = (10 : Int32) from rfl)]
        simp (disch := omega) only [↓mI_e, lit, ofN, bsm, nI_add, pk_mul, pk_sub, nI_e, nI_leE, nI_ltE, nI_mI, mI_nI, mI_lt, nlt_mI, mI_le, nle_mI, nI_addm, sh_b, bI_0, bI_1, bI_bI, ckZ_b, ckZ_n0, ckZ_n1, stIe, stJe, stZ_n0, stZ_n1, rm_nI, dv_nI, if_true, if_false, if_pos, if_neg, rf0, rf1, rf5, rf6, rf7, rf8, rf9, rf20, rf23, rf24, rf25, rf26, rf29, rf31, rf33, rf34, rf35, rf37, rf38, rf41, rf42, rf43,  k_X4_doStep_307, w_1 hw, wd_0 hw, wd_1 hw, wd_2 hw, wd_3 hw, wd_4 hw, lw9 hw, lw10 hw, lw11 hw, lw12 hw, lw13 hw, lf_0 hl, c0', cy, cp, w1, n10, k_X4_doStep_193, lt1 hl, st1 hl, te]
      · rw [f_X12_does, rf0, i1, i2, lr1 (by omega), bsm, lr1 (by omega), bsm, lr1 (by omega), bsm, r0', if_neg (show ¬ nI 10 = (7 : Int32) by decide), if_neg (show ¬ nI 10 = (8 : Int32) by decide), if_neg (show ¬ nI 10 = (9 : Int32) by decide), if_pos (show nI 10 = (10 : Int32) from rfl)]
        simp (disch := omega) only [↓mI_e, lit, ofN, bsm, nI_add, pk_mul, pk_sub, nI_e, nI_leE, nI_ltE, nI_mI, mI_nI, mI_lt, nlt_mI, mI_le, nle_mI, nI_addm, sh_b, bI_0, bI_1, bI_bI, ckZ_b, ckZ_n0, ckZ_n1, stIe, stJe, stZ_n0, stZ_n1, rm_nI, dv_nI, if_true, if_false, if_pos, if_neg, rf0, rf1, rf5, rf6, rf7, rf8, rf9, rf20, rf23, rf24, rf25, rf26, rf29, rf31, rf33, rf34, rf35, rf37, rf38, rf41, rf42, rf43,  lr1, r0', ry, rk, c1, bI_t, n10, w2, lr21, sr21, k_X12_does_437]
    · rw [decide_eq_false hc] at c1
      have hno := W_get_no hw hW hy (a := D l 2) (by omega) (nI 0) 97 hc
      have te := h.2.2.2.2.1 0 (by omega)
      have hok := OK_tally hl h hpb (B' := B) (by rw [g0]; exact hW) (by omega) 0 (gA τ 21 0 + nI 1)
      rw [g21] at hok
      refine ⟨_, _, ?_, fun _ => ?_, hok⟩
      · rw [f_X4_doStep, w_1 hw, wd_0 hw, wd_1 hw, wd_2 hw, wd_3 hw, lw10 hw (by omega), bsm, lw11 hw (by omega), bsm, lw12 hw (by omega), bsm, lw9 hw (by omega), bsm, c0', if_neg (show ¬ nI 10 = (7 : Int32) by decide), if_neg (show ¬ nI 10 = (8 : Int32) by decide), if_neg (show ¬ nI 10 = (9 : Int32) by decide), if_pos (show nI 10 = (10 : Int32) from rfl)]
        simp (disch := omega) only [↓mI_e, lit, ofN, bsm, nI_add, pk_mul, pk_sub, nI_e, nI_leE, nI_ltE, nI_mI, mI_nI, mI_lt, nlt_mI, mI_le, nle_mI, nI_addm, sh_b, bI_0, bI_1, bI_bI, ckZ_b, ckZ_n0, ckZ_n1, stIe, stJe, stZ_n0, stZ_n1, rm_nI, dv_nI, if_true, if_false, if_pos, if_neg, rf0, rf1, rf5, rf6, rf7, rf8, rf9, rf20, rf23, rf24, rf25, rf26, rf29, rf31, rf33, rf34, rf35, rf37, rf38, rf41, rf42, rf43,  k_X4_doStep_307, w_1 hw, wd_0 hw, wd_1 hw, wd_2 hw, wd_3 hw, wd_4 hw, lw9 hw, lw10 hw, lw11 hw, lw12 hw, lw13 hw, lf_0 hl, c0', cy, cp, hno, k_X4_doStep_193, lt1 hl, st1 hl, te]
      · rw [f_X12_does, rf0, i1, i2, lr1 (by omega), bsm, lr1 (by omega), bsm, lr1 (by omega), bsm, r0', if_neg (show ¬ nI 10 = (7 : Int32) by decide), if_neg (show ¬ nI 10 = (8 : Int32) by decide), if_neg (show ¬ nI 10 = (9 : Int32) by decide), if_pos (show nI 10 = (10 : Int32) from rfl)]
        simp (disch := omega) only [↓mI_e, lit, ofN, bsm, nI_add, pk_mul, pk_sub, nI_e, nI_leE, nI_ltE, nI_mI, mI_nI, mI_lt, nlt_mI, mI_le, nle_mI, nI_addm, sh_b, bI_0, bI_1, bI_bI, ckZ_b, ckZ_n0, ckZ_n1, stIe, stJe, stZ_n0, stZ_n1, rm_nI, dv_nI, if_true, if_false, if_pos, if_neg, rf0, rf1, rf5, rf6, rf7, rf8, rf9, rf20, rf23, rf24, rf25, rf26, rf29, rf31, rf33, rf34, rf35, rf37, rf38, rf41, rf42, rf43,  lr1, r0', ry, rk, c1, bI_f, lr21, sr21, g21, k_X12_does_437]
  · -- 11
    have c0' : gA σ (w + 9) l = nI 11 := by have z := c0; rw [e] at z; exact z
    have r0' : gA τ 1 (4480 + 6 * l) = nI 11 := by have z := r0; rw [e] at z; exact z
    have cp : gA σ (w + 11) l = nI (D l 2) := cP (by rw [e]; rfl)
    have ha := vP (by rw [e]; rfl)
    have ry : gA τ 1 (4480 + 6 * l + 1) = nI (D l 2) := rP (by rw [e]; rfl)
    refine ⟨_, _, ?_, fun _ => ?_, OK_world hl h (Wp_up hw 9 (gA τ 1 5 &&& ((nI 1 <<< (nI (D l 2) &&& nI 31)) ^^^ mI)) (gA τ 1 5 &&& ((nI 1 <<< (nI (D l 2) &&& nI 31)) ^^^ mI)) 5 (by omega)) (B' := B) (by rw [wv_sI0, gA_sA, if_pos rfl]; exact RelW_up hW _) (by omega)⟩
    · rw [f_X4_doStep, w_1 hw, wd_0 hw, wd_1 hw, wd_2 hw, wd_3 hw, lw10 hw (by omega), bsm, lw11 hw (by omega), bsm, lw12 hw (by omega), bsm, lw9 hw (by omega), bsm, c0', if_neg (show ¬ nI 11 = (7 : Int32) by decide), if_neg (show ¬ nI 11 = (8 : Int32) by decide), if_neg (show ¬ nI 11 = (9 : Int32) by decide), if_neg (show ¬ nI 11 = (10 : Int32) by decide), if_pos (show nI 11 = (11 : Int32) from rfl)]
      simp (disch := omega) only [↓mI_e, lit, ofN, bsm, nI_add, pk_mul, pk_sub, nI_e, nI_leE, nI_ltE, nI_mI, mI_nI, mI_lt, nlt_mI, mI_le, nle_mI, nI_addm, sh_b, bI_0, bI_1, bI_bI, ckZ_b, ckZ_n0, ckZ_n1, stIe, stJe, stZ_n0, stZ_n1, rm_nI, dv_nI, if_true, if_false, if_pos, if_neg, rf0, rf1, rf5, rf6, rf7, rf8, rf9, rf20, rf23, rf24, rf25, rf26, rf29, rf31, rf33, rf34, rf35, rf37, rf38, rf41, rf42, rf43,  k_X4_doStep_307, w_1 hw, wd_0 hw, wd_1 hw, wd_2 hw, wd_3 hw, wd_4 hw, lw9 hw, lw10 hw, lw11 hw, lw12 hw, lw13 hw, lf_0 hl, c0', cp, f_X10_setUp, k_X10_setUp_26, u0, n10]
    · rw [f_X12_does, rf0, i1, i2, lr1 (by omega), bsm, lr1 (by omega), bsm, lr1 (by omega), bsm, r0', if_neg (show ¬ nI 11 = (7 : Int32) by decide), if_neg (show ¬ nI 11 = (8 : Int32) by decide), if_neg (show ¬ nI 11 = (9 : Int32) by decide), if_neg (show ¬ nI 11 = (10 : Int32) by decide), if_pos (show nI 11 = (11 : Int32) from rfl)]
      simp (disch := omega) only [↓mI_e, lit, ofN, bsm, nI_add, pk_mul, pk_sub, nI_e, nI_leE, nI_ltE, nI_mI, mI_nI, mI_lt, nlt_mI, mI_le, nle_mI, nI_addm, sh_b, bI_0, bI_1, bI_bI, ckZ_b, ckZ_n0, ckZ_n1, stIe, stJe, stZ_n0, stZ_n1, rm_nI, dv_nI, if_true, if_false, if_pos, if_neg, rf0, rf1, rf5, rf6, rf7, rf8, rf9, rf20, rf23, rf24, rf25, rf26, rf29, rf31, rf33, rf34, rf35, rf37, rf38, rf41, rf42, rf43,  lr1, r0', ry, sr1, k_X12_does_437]
  · -- 12
    have c0' : gA σ (w + 9) l = nI 12 := by have z := c0; rw [e] at z; exact z
    have r0' : gA τ 1 (4480 + 6 * l) = nI 12 := by have z := r0; rw [e] at z; exact z
    have cp : gA σ (w + 11) l = nI (D l 2) := cP (by rw [e]; rfl)
    have ha := vP (by rw [e]; rfl)
    have ry : gA τ 1 (4480 + 6 * l + 1) = nI (D l 2) := rP (by rw [e]; rfl)
    refine ⟨_, _, ?_, fun _ => ?_, OK_world hl h (Wp_up hw 9 (gA τ 1 5 ||| (nI 1 <<< (nI (D l 2) &&& nI 31))) (gA τ 1 5 ||| (nI 1 <<< (nI (D l 2) &&& nI 31))) 5 (by omega)) (B' := B) (by rw [wv_sI0, gA_sA, if_pos rfl]; exact RelW_up hW _) (by omega)⟩
    · rw [f_X4_doStep, w_1 hw, wd_0 hw, wd_1 hw, wd_2 hw, wd_3 hw, lw10 hw (by omega), bsm, lw11 hw (by omega), bsm, lw12 hw (by omega), bsm, lw9 hw (by omega), bsm, c0', if_neg (show ¬ nI 12 = (7 : Int32) by decide), if_neg (show ¬ nI 12 = (8 : Int32) by decide), if_neg (show ¬ nI 12 = (9 : Int32) by decide), if_neg (show ¬ nI 12 = (10 : Int32) by decide), if_neg (show ¬ nI 12 = (11 : Int32) by decide), if_pos (show nI 12 = (12 : Int32) from rfl)]
      simp (disch := omega) only [↓mI_e, lit, ofN, bsm, nI_add, pk_mul, pk_sub, nI_e, nI_leE, nI_ltE, nI_mI, mI_nI, mI_lt, nlt_mI, mI_le, nle_mI, nI_addm, sh_b, bI_0, bI_1, bI_bI, ckZ_b, ckZ_n0, ckZ_n1, stIe, stJe, stZ_n0, stZ_n1, rm_nI, dv_nI, if_true, if_false, if_pos, if_neg, rf0, rf1, rf5, rf6, rf7, rf8, rf9, rf20, rf23, rf24, rf25, rf26, rf29, rf31, rf33, rf34, rf35, rf37, rf38, rf41, rf42, rf43,  k_X4_doStep_307, w_1 hw, wd_0 hw, wd_1 hw, wd_2 hw, wd_3 hw, wd_4 hw, lw9 hw, lw10 hw, lw11 hw, lw12 hw, lw13 hw, lf_0 hl, c0', cp, f_X10_setUp, k_X10_setUp_26, u0, n10]
    · rw [f_X12_does, rf0, i1, i2, lr1 (by omega), bsm, lr1 (by omega), bsm, lr1 (by omega), bsm, r0', if_neg (show ¬ nI 12 = (7 : Int32) by decide), if_neg (show ¬ nI 12 = (8 : Int32) by decide), if_neg (show ¬ nI 12 = (9 : Int32) by decide), if_neg (show ¬ nI 12 = (10 : Int32) by decide), if_neg (show ¬ nI 12 = (11 : Int32) by decide), if_pos (show nI 12 = (12 : Int32) from rfl)]
      simp (disch := omega) only [↓mI_e, lit, ofN, bsm, nI_add, pk_mul, pk_sub, nI_e, nI_leE, nI_ltE, nI_mI, mI_nI, mI_lt, nlt_mI, mI_le, nle_mI, nI_addm, sh_b, bI_0, bI_1, bI_bI, ckZ_b, ckZ_n0, ckZ_n1, stIe, stJe, stZ_n0, stZ_n1, rm_nI, dv_nI, if_true, if_false, if_pos, if_neg, rf0, rf1, rf5, rf6, rf7, rf8, rf9, rf20, rf23, rf24, rf25, rf26, rf29, rf31, rf33, rf34, rf35, rf37, rf38, rf41, rf42, rf43,  lr1, r0', ry, sr1, k_X12_does_437]
  · -- 13
    have c0' : gA σ (w + 9) l = nI 13 := by have z := c0; rw [e] at z; exact z
    have r0' : gA τ 1 (4480 + 6 * l) = nI 13 := by have z := r0; rw [e] at z; exact z
    have cp : gA σ (w + 11) l = nI (D l 2) := cP (by rw [e]; rfl)
    have ha := vP (by rw [e]; rfl)
    have ry : gA τ 1 (4480 + 6 * l + 1) = nI (D l 2) := rP (by rw [e]; rfl)
    obtain ⟨σ1, τ1, w1, w2, w3, w4, w5⟩ := W_wipe hw hW (a := D l 2) (by omega)
    refine ⟨σ1, τ1, ?_, fun _ => ?_, OK_world hl h w4 w3 (by omega)⟩
    · rw [f_X4_doStep, w_1 hw, wd_0 hw, wd_1 hw, wd_2 hw, wd_3 hw, lw10 hw (by omega), bsm, lw11 hw (by omega), bsm, lw12 hw (by omega), bsm, lw9 hw (by omega), bsm, c0', if_neg (show ¬ nI 13 = (7 : Int32) by decide), if_neg (show ¬ nI 13 = (8 : Int32) by decide), if_neg (show ¬ nI 13 = (9 : Int32) by decide), if_neg (show ¬ nI 13 = (10 : Int32) by decide), if_neg (show ¬ nI 13 = (11 : Int32) by decide), if_neg (show ¬ nI 13 = (12 : Int32) by decide), if_pos (show nI 13 = (13 : Int32) from rfl)]
      simp (disch := omega) only [↓mI_e, lit, ofN, bsm, nI_add, pk_mul, pk_sub, nI_e, nI_leE, nI_ltE, nI_mI, mI_nI, mI_lt, nlt_mI, mI_le, nle_mI, nI_addm, sh_b, bI_0, bI_1, bI_bI, ckZ_b, ckZ_n0, ckZ_n1, stIe, stJe, stZ_n0, stZ_n1, rm_nI, dv_nI, if_true, if_false, if_pos, if_neg, rf0, rf1, rf5, rf6, rf7, rf8, rf9, rf20, rf23, rf24, rf25, rf26, rf29, rf31, rf33, rf34, rf35, rf37, rf38, rf41, rf42, rf43,  k_X4_doStep_307, w_1 hw, wd_0 hw, wd_1 hw, wd_2 hw, wd_3 hw, wd_4 hw, lw9 hw, lw10 hw, lw11 hw, lw12 hw, lw13 hw, lf_0 hl, c0', cp, w1]
    · rw [f_X12_does, rf0, i1, i2, lr1 (by omega), bsm, lr1 (by omega), bsm, lr1 (by omega), bsm, r0', if_neg (show ¬ nI 13 = (7 : Int32) by decide), if_neg (show ¬ nI 13 = (8 : Int32) by decide), if_neg (show ¬ nI 13 = (9 : Int32) by decide), if_neg (show ¬ nI 13 = (10 : Int32) by decide), if_neg (show ¬ nI 13 = (11 : Int32) by decide), if_neg (show ¬ nI 13 = (12 : Int32) by decide), if_pos (show nI 13 = (13 : Int32) from rfl)]
      simp (disch := omega) only [↓mI_e, lit, ofN, bsm, nI_add, pk_mul, pk_sub, nI_e, nI_leE, nI_ltE, nI_mI, mI_nI, mI_lt, nlt_mI, mI_le, nle_mI, nI_addm, sh_b, bI_0, bI_1, bI_bI, ckZ_b, ckZ_n0, ckZ_n1, stIe, stJe, stZ_n0, stZ_n1, rm_nI, dv_nI, if_true, if_false, if_pos, if_neg, rf0, rf1, rf5, rf6, rf7, rf8, rf9, rf20, rf23, rf24, rf25, rf26, rf29, rf31, rf33, rf34, rf35, rf37, rf38, rf41, rf42, rf43,  lr1, r0', ry, w2, k_X12_does_437]
  · -- 14
    have c0' : gA σ (w + 9) l = nI 14 := by have z := c0; rw [e] at z; exact z
    have r0' : gA τ 1 (4480 + 6 * l) = nI 14 := by have z := r0; rw [e] at z; exact z
    have cv : gA σ (w + 12) l = nI (D l 3) := cV (by rw [e]; rfl)
    have hv := vV (by rw [e]; rfl)
    have ry : gA τ 1 (4480 + 6 * l + 1) = nI (D l 3) := rV (by rw [e]; rfl)
    refine ⟨_, _, ?_, fun _ => ?_, OK_world hl h (Wp_up hw 10 (nI (D l 3)) (nI (D l 3)) 6 (by omega)) (B' := B) (by rw [wv_sI0, gA_sA, if_pos rfl]; exact RelW_pt hW _) (by omega)⟩
    · rw [f_X4_doStep, w_1 hw, wd_0 hw, wd_1 hw, wd_2 hw, wd_3 hw, lw10 hw (by omega), bsm, lw11 hw (by omega), bsm, lw12 hw (by omega), bsm, lw9 hw (by omega), bsm, c0', if_neg (show ¬ nI 14 = (7 : Int32) by decide), if_neg (show ¬ nI 14 = (8 : Int32) by decide), if_neg (show ¬ nI 14 = (9 : Int32) by decide), if_neg (show ¬ nI 14 = (10 : Int32) by decide), if_neg (show ¬ nI 14 = (11 : Int32) by decide), if_neg (show ¬ nI 14 = (12 : Int32) by decide), if_neg (show ¬ nI 14 = (13 : Int32) by decide), if_pos (show nI 14 = (14 : Int32) from rfl)]
      simp (disch := omega) only [↓mI_e, lit, ofN, bsm, nI_add, pk_mul, pk_sub, nI_e, nI_leE, nI_ltE, nI_mI, mI_nI, mI_lt, nlt_mI, mI_le, nle_mI, nI_addm, sh_b, bI_0, bI_1, bI_bI, ckZ_b, ckZ_n0, ckZ_n1, stIe, stJe, stZ_n0, stZ_n1, rm_nI, dv_nI, if_true, if_false, if_pos, if_neg, rf0, rf1, rf5, rf6, rf7, rf8, rf9, rf20, rf23, rf24, rf25, rf26, rf29, rf31, rf33, rf34, rf35, rf37, rf38, rf41, rf42, rf43,  k_X4_doStep_307, w_1 hw, wd_0 hw, wd_1 hw, wd_2 hw, wd_3 hw, wd_4 hw, lw9 hw, lw10 hw, lw11 hw, lw12 hw, lw13 hw, lf_0 hl, c0', cv]
    · rw [f_X12_does, rf0, i1, i2, lr1 (by omega), bsm, lr1 (by omega), bsm, lr1 (by omega), bsm, r0', if_neg (show ¬ nI 14 = (7 : Int32) by decide), if_neg (show ¬ nI 14 = (8 : Int32) by decide), if_neg (show ¬ nI 14 = (9 : Int32) by decide), if_neg (show ¬ nI 14 = (10 : Int32) by decide), if_neg (show ¬ nI 14 = (11 : Int32) by decide), if_neg (show ¬ nI 14 = (12 : Int32) by decide), if_neg (show ¬ nI 14 = (13 : Int32) by decide), if_pos (show nI 14 = (14 : Int32) from rfl)]
      simp (disch := omega) only [↓mI_e, lit, ofN, bsm, nI_add, pk_mul, pk_sub, nI_e, nI_leE, nI_ltE, nI_mI, mI_nI, mI_lt, nlt_mI, mI_le, nle_mI, nI_addm, sh_b, bI_0, bI_1, bI_bI, ckZ_b, ckZ_n0, ckZ_n1, stIe, stJe, stZ_n0, stZ_n1, rm_nI, dv_nI, if_true, if_false, if_pos, if_neg, rf0, rf1, rf5, rf6, rf7, rf8, rf9, rf20, rf23, rf24, rf25, rf26, rf29, rf31, rf33, rf34, rf35, rf37, rf38, rf41, rf42, rf43,  lr1, r0', ry, sr1, k_X12_does_437]
  · -- 15
    have c0' : gA σ (w + 9) l = nI 15 := by have z := c0; rw [e] at z; exact z
    have r0' : gA τ 1 (4480 + 6 * l) = nI 15 := by have z := r0; rw [e] at z; exact z
    refine ⟨_, _, ?_, fun _ => ?_, OK_world hl h (Wp_up hw 10 (nI 0) (nI 0) 6 (by omega)) (B' := B) (by rw [wv_sI0, gA_sA, if_pos rfl]; exact RelW_pt hW _) (by omega)⟩
    · rw [f_X4_doStep, w_1 hw, wd_0 hw, wd_1 hw, wd_2 hw, wd_3 hw, lw10 hw (by omega), bsm, lw11 hw (by omega), bsm, lw12 hw (by omega), bsm, lw9 hw (by omega), bsm, c0', if_neg (show ¬ nI 15 = (7 : Int32) by decide), if_neg (show ¬ nI 15 = (8 : Int32) by decide), if_neg (show ¬ nI 15 = (9 : Int32) by decide), if_neg (show ¬ nI 15 = (10 : Int32) by decide), if_neg (show ¬ nI 15 = (11 : Int32) by decide), if_neg (show ¬ nI 15 = (12 : Int32) by decide), if_neg (show ¬ nI 15 = (13 : Int32) by decide), if_neg (show ¬ nI 15 = (14 : Int32) by decide), if_pos (show nI 15 = (15 : Int32) from rfl)]
      simp (disch := omega) only [↓mI_e, lit, ofN, bsm, nI_add, pk_mul, pk_sub, nI_e, nI_leE, nI_ltE, nI_mI, mI_nI, mI_lt, nlt_mI, mI_le, nle_mI, nI_addm, sh_b, bI_0, bI_1, bI_bI, ckZ_b, ckZ_n0, ckZ_n1, stIe, stJe, stZ_n0, stZ_n1, rm_nI, dv_nI, if_true, if_false, if_pos, if_neg, rf0, rf1, rf5, rf6, rf7, rf8, rf9, rf20, rf23, rf24, rf25, rf26, rf29, rf31, rf33, rf34, rf35, rf37, rf38, rf41, rf42, rf43,  k_X4_doStep_307, w_1 hw, wd_0 hw, wd_1 hw, wd_2 hw, wd_3 hw, wd_4 hw, lw9 hw, lw10 hw, lw11 hw, lw12 hw, lw13 hw, lf_0 hl, c0']
    · rw [f_X12_does, rf0, i1, i2, lr1 (by omega), bsm, lr1 (by omega), bsm, lr1 (by omega), bsm, r0', if_neg (show ¬ nI 15 = (7 : Int32) by decide), if_neg (show ¬ nI 15 = (8 : Int32) by decide), if_neg (show ¬ nI 15 = (9 : Int32) by decide), if_neg (show ¬ nI 15 = (10 : Int32) by decide), if_neg (show ¬ nI 15 = (11 : Int32) by decide), if_neg (show ¬ nI 15 = (12 : Int32) by decide), if_neg (show ¬ nI 15 = (13 : Int32) by decide), if_neg (show ¬ nI 15 = (14 : Int32) by decide), if_pos (show nI 15 = (15 : Int32) from rfl)]
      simp (disch := omega) only [↓mI_e, lit, ofN, bsm, nI_add, pk_mul, pk_sub, nI_e, nI_leE, nI_ltE, nI_mI, mI_nI, mI_lt, nlt_mI, mI_le, nle_mI, nI_addm, sh_b, bI_0, bI_1, bI_bI, ckZ_b, ckZ_n0, ckZ_n1, stIe, stJe, stZ_n0, stZ_n1, rm_nI, dv_nI, if_true, if_false, if_pos, if_neg, rf0, rf1, rf5, rf6, rf7, rf8, rf9, rf20, rf23, rf24, rf25, rf26, rf29, rf31, rf33, rf34, rf35, rf37, rf38, rf41, rf42, rf43,  lr1, r0', sr1, k_X12_does_437]
  · -- 16
    have c0' : gA σ (w + 9) l = nI 16 := by have z := c0; rw [e] at z; exact z
    have r0' : gA τ 1 (4480 + 6 * l) = nI 16 := by have z := r0; rw [e] at z; exact z
    obtain ⟨σ1, τ1, q, w1, w2, w3, w4, w5, _⟩ := W_hand hw (by omega) hW
    have te := h.2.2.2.2.1 4 (by omega)
    refine ⟨_, _, ?_, fun _ => ?_, OK_tally hl h w4 w3 (by omega) 4 (gA τ 21 4 + nI q)⟩
    · rw [f_X4_doStep, w_1 hw, wd_0 hw, wd_1 hw, wd_2 hw, wd_3 hw, lw10 hw (by omega), bsm, lw11 hw (by omega), bsm, lw12 hw (by omega), bsm, lw9 hw (by omega), bsm, c0', if_neg (show ¬ nI 16 = (7 : Int32) by decide), if_neg (show ¬ nI 16 = (8 : Int32) by decide), if_neg (show ¬ nI 16 = (9 : Int32) by decide), if_neg (show ¬ nI 16 = (10 : Int32) by decide), if_neg (show ¬ nI 16 = (11 : Int32) by decide), if_neg (show ¬ nI 16 = (12 : Int32) by decide), if_neg (show ¬ nI 16 = (13 : Int32) by decide), if_neg (show ¬ nI 16 = (14 : Int32) by decide), if_neg (show ¬ nI 16 = (15 : Int32) by decide), if_pos (show nI 16 = (16 : Int32) from rfl)]
      simp (disch := omega) only [↓mI_e, lit, ofN, bsm, nI_add, pk_mul, pk_sub, nI_e, nI_leE, nI_ltE, nI_mI, mI_nI, mI_lt, nlt_mI, mI_le, nle_mI, nI_addm, sh_b, bI_0, bI_1, bI_bI, ckZ_b, ckZ_n0, ckZ_n1, stIe, stJe, stZ_n0, stZ_n1, rm_nI, dv_nI, if_true, if_false, if_pos, if_neg, rf0, rf1, rf5, rf6, rf7, rf8, rf9, rf20, rf23, rf24, rf25, rf26, rf29, rf31, rf33, rf34, rf35, rf37, rf38, rf41, rf42, rf43,  k_X4_doStep_307, w_1 hw, wd_0 hw, wd_1 hw, wd_2 hw, wd_3 hw, wd_4 hw, lw9 hw, lw10 hw, lw11 hw, lw12 hw, lw13 hw, lf_0 hl, c0', lt1 hl, w1, st1 hl, te]
    · rw [f_X12_does, rf0, i1, i2, lr1 (by omega), bsm, lr1 (by omega), bsm, lr1 (by omega), bsm, r0', if_neg (show ¬ nI 16 = (7 : Int32) by decide), if_neg (show ¬ nI 16 = (8 : Int32) by decide), if_neg (show ¬ nI 16 = (9 : Int32) by decide), if_neg (show ¬ nI 16 = (10 : Int32) by decide), if_neg (show ¬ nI 16 = (11 : Int32) by decide), if_neg (show ¬ nI 16 = (12 : Int32) by decide), if_neg (show ¬ nI 16 = (13 : Int32) by decide), if_neg (show ¬ nI 16 = (14 : Int32) by decide), if_neg (show ¬ nI 16 = (15 : Int32) by decide), if_pos (show nI 16 = (16 : Int32) from rfl)]
      simp (disch := omega) only [↓mI_e, lit, ofN, bsm, nI_add, pk_mul, pk_sub, nI_e, nI_leE, nI_ltE, nI_mI, mI_nI, mI_lt, nlt_mI, mI_le, nle_mI, nI_addm, sh_b, bI_0, bI_1, bI_bI, ckZ_b, ckZ_n0, ckZ_n1, stIe, stJe, stZ_n0, stZ_n1, rm_nI, dv_nI, if_true, if_false, if_pos, if_neg, rf0, rf1, rf5, rf6, rf7, rf8, rf9, rf20, rf23, rf24, rf25, rf26, rf29, rf31, rf33, rf34, rf35, rf37, rf38, rf41, rf42, rf43,  lr1, r0', lr21, w2, sr21, k_X12_does_437]
  · -- 17
    have c0' : gA σ (w + 9) l = nI 17 := by have z := c0; rw [e] at z; exact z
    have r0' : gA τ 1 (4480 + 6 * l) = nI 17 := by have z := r0; rw [e] at z; exact z
    have cp : gA σ (w + 11) l = nI (D l 2) := cP (by rw [e]; rfl)
    have ha := vP (by rw [e]; rfl)
    have ry : gA τ 1 (4480 + 6 * l + 1) = nI (D l 2) := rP (by rw [e]; rfl)
    have cq : gA σ (w + 13) l = nI (D l 4) := cQ (by rw [e]; rfl)
    have rn : gA τ 1 (4480 + 6 * l + 2) = nI (D l 4) := rN e
    have hb := v17 e
    have te := h.2.2.2.2.1 0 (by omega)
    by_cases hc : D l 2 ≠ D l 4 ∧ rch (gA τ 1) (D l 2) (D l 4) = true
    · obtain ⟨σ1, τ1, q, w1, w2, w3, w4, w5, w6⟩ := W_night hw (by omega) hW (a := D l 2) (b := D l 4) (by omega) (by omega) hc.1 hc.2
      have hdr := r_doReach (a := D l 2) (b := D l 4) (by omega) (by omega) τ
      rw [hc.2] at hdr
      have hp : Wp w σ σ1 τ (sI τ1 0 45 (nI q)) := w4.trans ⟨Sq.rf σ1, (Sc.rf τ1).sI _ rfl, fun _ _ _ => rfl⟩
      have e1 : gA σ1 (lf + 1) 0 = gA τ 21 0 := by rw [tally_eq hl h w4 w3 (k := 0) (by omega)]; exact congrFun (w4.2.1.2.2.1 21 rfl (by decide)) 0
      have e2 : upd (gA σ1 (lf + 1)) 0 (gA τ 21 0) = gA σ1 (lf + 1) := by rw [← e1, upd_self]
      have hne := hc.1
      refine ⟨σ1, sI τ1 0 45 (nI q), ?_, fun _ => ?_, OK_world hl h hp w3 (by omega)⟩
      · rw [f_X4_doStep, w_1 hw, wd_0 hw, wd_1 hw, wd_2 hw, wd_3 hw, lw10 hw (by omega), bsm, lw11 hw (by omega), bsm, lw12 hw (by omega), bsm, lw9 hw (by omega), bsm, c0', if_neg (show ¬ nI 17 = (7 : Int32) by decide), if_neg (show ¬ nI 17 = (8 : Int32) by decide), if_neg (show ¬ nI 17 = (9 : Int32) by decide), if_neg (show ¬ nI 17 = (10 : Int32) by decide), if_neg (show ¬ nI 17 = (11 : Int32) by decide), if_neg (show ¬ nI 17 = (12 : Int32) by decide), if_neg (show ¬ nI 17 = (13 : Int32) by decide), if_neg (show ¬ nI 17 = (14 : Int32) by decide), if_neg (show ¬ nI 17 = (15 : Int32) by decide), if_neg (show ¬ nI 17 = (16 : Int32) by decide), if_pos (show nI 17 = (17 : Int32) from rfl)]
        simp (disch := omega) only [↓mI_e, lit, ofN, bsm, nI_add, pk_mul, pk_sub, nI_e, nI_leE, nI_ltE, nI_mI, mI_nI, mI_lt, nlt_mI, mI_le, nle_mI, nI_addm, sh_b, bI_0, bI_1, bI_bI, ckZ_b, ckZ_n0, ckZ_n1, stIe, stJe, stZ_n0, stZ_n1, rm_nI, dv_nI, if_true, if_false, if_pos, if_neg, rf0, rf1, rf5, rf6, rf7, rf8, rf9, rf20, rf23, rf24, rf25, rf26, rf29, rf31, rf33, rf34, rf35, rf37, rf38, rf41, rf42, rf43,  k_X4_doStep_307, w_1 hw, wd_0 hw, wd_1 hw, wd_2 hw, wd_3 hw, wd_4 hw, lw9 hw, lw10 hw, lw11 hw, lw12 hw, lw13 hw, lf_0 hl, c0', cp, cq, lt1 hl, w1, k_X4_doStep_292, st1 hl, te, add0, e2, sA_self]
      · rw [f_X12_does, rf0, i1, i2, lr1 (by omega), bsm, lr1 (by omega), bsm, lr1 (by omega), bsm, r0', if_neg (show ¬ nI 17 = (7 : Int32) by decide), if_neg (show ¬ nI 17 = (8 : Int32) by decide), if_neg (show ¬ nI 17 = (9 : Int32) by decide), if_neg (show ¬ nI 17 = (10 : Int32) by decide), if_neg (show ¬ nI 17 = (11 : Int32) by decide), if_neg (show ¬ nI 17 = (12 : Int32) by decide), if_neg (show ¬ nI 17 = (13 : Int32) by decide), if_neg (show ¬ nI 17 = (14 : Int32) by decide), if_neg (show ¬ nI 17 = (15 : Int32) by decide), if_neg (show ¬ nI 17 = (16 : Int32) by decide), if_pos (show nI 17 = (17 : Int32) from rfl)]
        simp (disch := omega) only [↓mI_e, lit, ofN, bsm, nI_add, pk_mul, pk_sub, nI_e, nI_leE, nI_ltE, nI_mI, mI_nI, mI_lt, nlt_mI, mI_le, nle_mI, nI_addm, sh_b, bI_0, bI_1, bI_bI, ckZ_b, ckZ_n0, ckZ_n1, stIe, stJe, stZ_n0, stZ_n1, rm_nI, dv_nI, if_true, if_false, if_pos, if_neg, rf0, rf1, rf5, rf6, rf7, rf8, rf9, rf20, rf23, rf24, rf25, rf26, rf29, rf31, rf33, rf34, rf35, rf37, rf38, rf41, rf42, rf43,  lr1, r0', ry, rn, hne, hdr, bI_t, n10, w2, k_X12_does_437]
    · have hno := W_night_no (w := w) hW (a := D l 2) (b := D l 4) (by omega) (by omega) hc
      refine ⟨_, _, ?_, fun _ => ?_, OK_tally hl h Wp.rf hW (by omega) 0 (gA τ 21 0 + nI 1)⟩
      · rw [f_X4_doStep, w_1 hw, wd_0 hw, wd_1 hw, wd_2 hw, wd_3 hw, lw10 hw (by omega), bsm, lw11 hw (by omega), bsm, lw12 hw (by omega), bsm, lw9 hw (by omega), bsm, c0', if_neg (show ¬ nI 17 = (7 : Int32) by decide), if_neg (show ¬ nI 17 = (8 : Int32) by decide), if_neg (show ¬ nI 17 = (9 : Int32) by decide), if_neg (show ¬ nI 17 = (10 : Int32) by decide), if_neg (show ¬ nI 17 = (11 : Int32) by decide), if_neg (show ¬ nI 17 = (12 : Int32) by decide), if_neg (show ¬ nI 17 = (13 : Int32) by decide), if_neg (show ¬ nI 17 = (14 : Int32) by decide), if_neg (show ¬ nI 17 = (15 : Int32) by decide), if_neg (show ¬ nI 17 = (16 : Int32) by decide), if_pos (show nI 17 = (17 : Int32) from rfl)]
        simp (disch := omega) only [↓mI_e, lit, ofN, bsm, nI_add, pk_mul, pk_sub, nI_e, nI_leE, nI_ltE, nI_mI, mI_nI, mI_lt, nlt_mI, mI_le, nle_mI, nI_addm, sh_b, bI_0, bI_1, bI_bI, ckZ_b, ckZ_n0, ckZ_n1, stIe, stJe, stZ_n0, stZ_n1, rm_nI, dv_nI, if_true, if_false, if_pos, if_neg, rf0, rf1, rf5, rf6, rf7, rf8, rf9, rf20, rf23, rf24, rf25, rf26, rf29, rf31, rf33, rf34, rf35, rf37, rf38, rf41, rf42, rf43,  k_X4_doStep_307, w_1 hw, wd_0 hw, wd_1 hw, wd_2 hw, wd_3 hw, wd_4 hw, lw9 hw, lw10 hw, lw11 hw, lw12 hw, lw13 hw, lf_0 hl, c0', cp, cq, lt1 hl, hno, mm, k_X4_doStep_292, st1 hl, te]
      · by_cases hq : D l 2 = D l 4
        · rw [f_X12_does, rf0, i1, i2, lr1 (by omega), bsm, lr1 (by omega), bsm, lr1 (by omega), bsm, r0', if_neg (show ¬ nI 17 = (7 : Int32) by decide), if_neg (show ¬ nI 17 = (8 : Int32) by decide), if_neg (show ¬ nI 17 = (9 : Int32) by decide), if_neg (show ¬ nI 17 = (10 : Int32) by decide), if_neg (show ¬ nI 17 = (11 : Int32) by decide), if_neg (show ¬ nI 17 = (12 : Int32) by decide), if_neg (show ¬ nI 17 = (13 : Int32) by decide), if_neg (show ¬ nI 17 = (14 : Int32) by decide), if_neg (show ¬ nI 17 = (15 : Int32) by decide), if_neg (show ¬ nI 17 = (16 : Int32) by decide), if_pos (show nI 17 = (17 : Int32) from rfl)]
          simp (disch := omega) only [↓mI_e, lit, ofN, bsm, nI_add, pk_mul, pk_sub, nI_e, nI_leE, nI_ltE, nI_mI, mI_nI, mI_lt, nlt_mI, mI_le, nle_mI, nI_addm, sh_b, bI_0, bI_1, bI_bI, ckZ_b, ckZ_n0, ckZ_n1, stIe, stJe, stZ_n0, stZ_n1, rm_nI, dv_nI, if_true, if_false, if_pos, if_neg, rf0, rf1, rf5, rf6, rf7, rf8, rf9, rf20, rf23, rf24, rf25, rf26, rf29, rf31, rf33, rf34, rf35, rf37, rf38, rf41, rf42, rf43,  lr1, r0', ry, rn, hq, k_X12_does_360, lr21, sr21, k_X12_does_437]
        · have hdr := r_doReach (a := D l 2) (b := D l 4) (by omega) (by omega) τ
          have hz : rch (gA τ 1) (D l 2) (D l 4) = false := by
            cases z : rch (gA τ 1) (D l 2) (D l 4)
            · rfl
            · exact absurd ⟨hq, z⟩ hc
          rw [hz] at hdr
          rw [f_X12_does, rf0, i1, i2, lr1 (by omega), bsm, lr1 (by omega), bsm, lr1 (by omega), bsm, r0', if_neg (show ¬ nI 17 = (7 : Int32) by decide), if_neg (show ¬ nI 17 = (8 : Int32) by decide), if_neg (show ¬ nI 17 = (9 : Int32) by decide), if_neg (show ¬ nI 17 = (10 : Int32) by decide), if_neg (show ¬ nI 17 = (11 : Int32) by decide), if_neg (show ¬ nI 17 = (12 : Int32) by decide), if_neg (show ¬ nI 17 = (13 : Int32) by decide), if_neg (show ¬ nI 17 = (14 : Int32) by decide), if_neg (show ¬ nI 17 = (15 : Int32) by decide), if_neg (show ¬ nI 17 = (16 : Int32) by decide), if_pos (show nI 17 = (17 : Int32) from rfl)]
          simp (disch := omega) only [↓mI_e, lit, ofN, bsm, nI_add, pk_mul, pk_sub, nI_e, nI_leE, nI_ltE, nI_mI, mI_nI, mI_lt, nlt_mI, mI_le, nle_mI, nI_addm, sh_b, bI_0, bI_1, bI_bI, ckZ_b, ckZ_n0, ckZ_n1, stIe, stJe, stZ_n0, stZ_n1, rm_nI, dv_nI, if_true, if_false, if_pos, if_neg, rf0, rf1, rf5, rf6, rf7, rf8, rf9, rf20, rf23, rf24, rf25, rf26, rf29, rf31, rf33, rf34, rf35, rf37, rf38, rf41, rf42, rf43,  lr1, r0', ry, rn, hq, hdr, bI_f, k_X12_does_360, lr21, sr21, k_X12_does_437]
  · -- 18
    have c0' : gA σ (w + 9) l = nI 18 := by have z := c0; rw [e] at z; exact z
    have r0' : gA τ 1 (4480 + 6 * l) = nI 18 := by have z := r0; rw [e] at z; exact z
    have cv : gA σ (w + 12) l = nI (D l 3) := cV (by rw [e]; rfl)
    have hv := vV (by rw [e]; rfl)
    have ry : gA τ 1 (4480 + 6 * l + 1) = nI (D l 3) := rV (by rw [e]; rfl)
    obtain ⟨d', σ1, τ1, w1, w2, w3, w4, w5⟩ := L_storm hl (v18 e) (gA σ (lf + 2)) (gA τ 20) FU FU 0 d σ τ (Nat.zero_le _) (by unfold FU; omega) (by unfold FU; omega) rfl h rfl rfl
    refine ⟨σ1, τ1, ?_, fun _ => ?_, ⟨d', LV_mono (by omega) w3⟩, w4, w5⟩
    · rw [f_X4_doStep, w_1 hw, wd_0 hw, wd_1 hw, wd_2 hw, wd_3 hw, lw10 hw (by omega), bsm, lw11 hw (by omega), bsm, lw12 hw (by omega), bsm, lw9 hw (by omega), bsm, c0', if_neg (show ¬ nI 18 = (7 : Int32) by decide), if_neg (show ¬ nI 18 = (8 : Int32) by decide), if_neg (show ¬ nI 18 = (9 : Int32) by decide), if_neg (show ¬ nI 18 = (10 : Int32) by decide), if_neg (show ¬ nI 18 = (11 : Int32) by decide), if_neg (show ¬ nI 18 = (12 : Int32) by decide), if_neg (show ¬ nI 18 = (13 : Int32) by decide), if_neg (show ¬ nI 18 = (14 : Int32) by decide), if_neg (show ¬ nI 18 = (15 : Int32) by decide), if_neg (show ¬ nI 18 = (16 : Int32) by decide), if_neg (show ¬ nI 18 = (17 : Int32) by decide), if_pos (show nI 18 = (18 : Int32) from rfl)]
      simp (disch := omega) only [↓mI_e, lit, ofN, bsm, nI_add, pk_mul, pk_sub, nI_e, nI_leE, nI_ltE, nI_mI, mI_nI, mI_lt, nlt_mI, mI_le, nle_mI, nI_addm, sh_b, bI_0, bI_1, bI_bI, ckZ_b, ckZ_n0, ckZ_n1, stIe, stJe, stZ_n0, stZ_n1, rm_nI, dv_nI, if_true, if_false, if_pos, if_neg, rf0, rf1, rf5, rf6, rf7, rf8, rf9, rf20, rf23, rf24, rf25, rf26, rf29, rf31, rf33, rf34, rf35, rf37, rf38, rf41, rf42, rf43,  k_X4_doStep_307, w_1 hw, wd_0 hw, wd_1 hw, wd_2 hw, wd_3 hw, wd_4 hw, lw9 hw, lw10 hw, lw11 hw, lw12 hw, lw13 hw, lf_0 hl, c0', cv, f_X4_drawStorm, w1]
    · rw [f_X12_does, rf0, i1, i2, lr1 (by omega), bsm, lr1 (by omega), bsm, lr1 (by omega), bsm, r0', if_neg (show ¬ nI 18 = (7 : Int32) by decide), if_neg (show ¬ nI 18 = (8 : Int32) by decide), if_neg (show ¬ nI 18 = (9 : Int32) by decide), if_neg (show ¬ nI 18 = (10 : Int32) by decide), if_neg (show ¬ nI 18 = (11 : Int32) by decide), if_neg (show ¬ nI 18 = (12 : Int32) by decide), if_neg (show ¬ nI 18 = (13 : Int32) by decide), if_neg (show ¬ nI 18 = (14 : Int32) by decide), if_neg (show ¬ nI 18 = (15 : Int32) by decide), if_neg (show ¬ nI 18 = (16 : Int32) by decide), if_neg (show ¬ nI 18 = (17 : Int32) by decide), if_pos (show nI 18 = (18 : Int32) from rfl)]
      simp (disch := omega) only [↓mI_e, lit, ofN, bsm, nI_add, pk_mul, pk_sub, nI_e, nI_leE, nI_ltE, nI_mI, mI_nI, mI_lt, nlt_mI, mI_le, nle_mI, nI_addm, sh_b, bI_0, bI_1, bI_bI, ckZ_b, ckZ_n0, ckZ_n1, stIe, stJe, stZ_n0, stZ_n1, rm_nI, dv_nI, if_true, if_false, if_pos, if_neg, rf0, rf1, rf5, rf6, rf7, rf8, rf9, rf20, rf23, rf24, rf25, rf26, rf29, rf31, rf33, rf34, rf35, rf37, rf38, rf41, rf42, rf43,  lr1, r0', ry]
      exact w2
  · -- 20
    have c0' : gA σ (w + 9) l = nI 23 := by have z := c0; rw [e] at z; exact z
    have r0' : gA τ 1 (4480 + 6 * l) = nI 20 := by have z := r0; rw [e] at z; exact z
    have cv : gA σ (w + 12) l = nI (D l 3) := cV (by rw [e]; rfl)
    have hv := vV (by rw [e]; rfl)
    have ry : gA τ 1 (4480 + 6 * l + 1) = nI (D l 3) := rV (by rw [e]; rfl)
    refine ⟨σ, τ, ?_, fun ne => ?_, idle⟩
    · rw [f_X4_doStep, w_1 hw, wd_0 hw, wd_1 hw, wd_2 hw, wd_3 hw, lw10 hw (by omega), bsm, lw11 hw (by omega), bsm, lw12 hw (by omega), bsm, lw9 hw (by omega), bsm, c0', if_neg (show ¬ nI 23 = (7 : Int32) by decide), if_neg (show ¬ nI 23 = (8 : Int32) by decide), if_neg (show ¬ nI 23 = (9 : Int32) by decide), if_neg (show ¬ nI 23 = (10 : Int32) by decide), if_neg (show ¬ nI 23 = (11 : Int32) by decide), if_neg (show ¬ nI 23 = (12 : Int32) by decide), if_neg (show ¬ nI 23 = (13 : Int32) by decide), if_neg (show ¬ nI 23 = (14 : Int32) by decide), if_neg (show ¬ nI 23 = (15 : Int32) by decide), if_neg (show ¬ nI 23 = (16 : Int32) by decide), if_neg (show ¬ nI 23 = (17 : Int32) by decide), if_neg (show ¬ nI 23 = (18 : Int32) by decide)]
      simp (disch := omega) only [↓mI_e, lit, ofN, bsm, nI_add, pk_mul, pk_sub, nI_e, nI_leE, nI_ltE, nI_mI, mI_nI, mI_lt, nlt_mI, mI_le, nle_mI, nI_addm, sh_b, bI_0, bI_1, bI_bI, ckZ_b, ckZ_n0, ckZ_n1, stIe, stJe, stZ_n0, stZ_n1, rm_nI, dv_nI, if_true, if_false, if_pos, if_neg, rf0, rf1, rf5, rf6, rf7, rf8, rf9, rf20, rf23, rf24, rf25, rf26, rf29, rf31, rf33, rf34, rf35, rf37, rf38, rf41, rf42, rf43,  k_X4_doStep_307, w_1 hw, wd_0 hw, wd_1 hw, wd_2 hw, wd_3 hw, wd_4 hw, lw9 hw, lw10 hw, lw11 hw, lw12 hw, lw13 hw, lf_0 hl, c0']
    · rw [f_X12_does, rf0, i1, i2, lr1 (by omega), bsm, lr1 (by omega), bsm, lr1 (by omega), bsm, r0', if_neg (show ¬ nI 20 = (7 : Int32) by decide), if_neg (show ¬ nI 20 = (8 : Int32) by decide), if_neg (show ¬ nI 20 = (9 : Int32) by decide), if_neg (show ¬ nI 20 = (10 : Int32) by decide), if_neg (show ¬ nI 20 = (11 : Int32) by decide), if_neg (show ¬ nI 20 = (12 : Int32) by decide), if_neg (show ¬ nI 20 = (13 : Int32) by decide), if_neg (show ¬ nI 20 = (14 : Int32) by decide), if_neg (show ¬ nI 20 = (15 : Int32) by decide), if_neg (show ¬ nI 20 = (16 : Int32) by decide), if_neg (show ¬ nI 20 = (17 : Int32) by decide), if_neg (show ¬ nI 20 = (18 : Int32) by decide)]
      simp (disch := omega) only [↓mI_e, lit, ofN, bsm, nI_add, pk_mul, pk_sub, nI_e, nI_leE, nI_ltE, nI_mI, mI_nI, mI_lt, nlt_mI, mI_le, nle_mI, nI_addm, sh_b, bI_0, bI_1, bI_bI, ckZ_b, ckZ_n0, ckZ_n1, stIe, stJe, stZ_n0, stZ_n1, rm_nI, dv_nI, if_true, if_false, if_pos, if_neg, rf0, rf1, rf5, rf6, rf7, rf8, rf9, rf20, rf23, rf24, rf25, rf26, rf29, rf31, rf33, rf34, rf35, rf37, rf38, rf41, rf42, rf43,  lr1, r0', k_X12_does_437]
  · -- 22
    have c0' : gA σ (w + 9) l = nI 25 := by have z := c0; rw [e] at z; exact z
    have r0' : gA τ 1 (4480 + 6 * l) = nI 22 := by have z := r0; rw [e] at z; exact z
    refine ⟨σ, τ, ?_, fun ne => ?_, idle⟩
    · rw [f_X4_doStep, w_1 hw, wd_0 hw, wd_1 hw, wd_2 hw, wd_3 hw, lw10 hw (by omega), bsm, lw11 hw (by omega), bsm, lw12 hw (by omega), bsm, lw9 hw (by omega), bsm, c0', if_neg (show ¬ nI 25 = (7 : Int32) by decide), if_neg (show ¬ nI 25 = (8 : Int32) by decide), if_neg (show ¬ nI 25 = (9 : Int32) by decide), if_neg (show ¬ nI 25 = (10 : Int32) by decide), if_neg (show ¬ nI 25 = (11 : Int32) by decide), if_neg (show ¬ nI 25 = (12 : Int32) by decide), if_neg (show ¬ nI 25 = (13 : Int32) by decide), if_neg (show ¬ nI 25 = (14 : Int32) by decide), if_neg (show ¬ nI 25 = (15 : Int32) by decide), if_neg (show ¬ nI 25 = (16 : Int32) by decide), if_neg (show ¬ nI 25 = (17 : Int32) by decide), if_neg (show ¬ nI 25 = (18 : Int32) by decide)]
      simp (disch := omega) only [↓mI_e, lit, ofN, bsm, nI_add, pk_mul, pk_sub, nI_e, nI_leE, nI_ltE, nI_mI, mI_nI, mI_lt, nlt_mI, mI_le, nle_mI, nI_addm, sh_b, bI_0, bI_1, bI_bI, ckZ_b, ckZ_n0, ckZ_n1, stIe, stJe, stZ_n0, stZ_n1, rm_nI, dv_nI, if_true, if_false, if_pos, if_neg, rf0, rf1, rf5, rf6, rf7, rf8, rf9, rf20, rf23, rf24, rf25, rf26, rf29, rf31, rf33, rf34, rf35, rf37, rf38, rf41, rf42, rf43,  k_X4_doStep_307, w_1 hw, wd_0 hw, wd_1 hw, wd_2 hw, wd_3 hw, wd_4 hw, lw9 hw, lw10 hw, lw11 hw, lw12 hw, lw13 hw, lf_0 hl, c0']
    · exact absurd e ne
  · -- 23
    have c0' : gA σ (w + 9) l = nI 20 := by have z := c0; rw [e] at z; exact z
    have r0' : gA τ 1 (4480 + 6 * l) = nI 1923 := by have z := r0; rw [e] at z; exact z
    have cy : gA σ (w + 10) l = nI (D l 1) := cY (by rw [e]; rfl)
    have ry : gA τ 1 (4480 + 6 * l + 1) = nI (D l 1) := rY (by rw [e]; rfl)
    have hy := vY (by rw [e]; rfl)
    refine ⟨σ, τ, ?_, fun ne => ?_, idle⟩
    · rw [f_X4_doStep, w_1 hw, wd_0 hw, wd_1 hw, wd_2 hw, wd_3 hw, lw10 hw (by omega), bsm, lw11 hw (by omega), bsm, lw12 hw (by omega), bsm, lw9 hw (by omega), bsm, c0', if_neg (show ¬ nI 20 = (7 : Int32) by decide), if_neg (show ¬ nI 20 = (8 : Int32) by decide), if_neg (show ¬ nI 20 = (9 : Int32) by decide), if_neg (show ¬ nI 20 = (10 : Int32) by decide), if_neg (show ¬ nI 20 = (11 : Int32) by decide), if_neg (show ¬ nI 20 = (12 : Int32) by decide), if_neg (show ¬ nI 20 = (13 : Int32) by decide), if_neg (show ¬ nI 20 = (14 : Int32) by decide), if_neg (show ¬ nI 20 = (15 : Int32) by decide), if_neg (show ¬ nI 20 = (16 : Int32) by decide), if_neg (show ¬ nI 20 = (17 : Int32) by decide), if_neg (show ¬ nI 20 = (18 : Int32) by decide)]
      simp (disch := omega) only [↓mI_e, lit, ofN, bsm, nI_add, pk_mul, pk_sub, nI_e, nI_leE, nI_ltE, nI_mI, mI_nI, mI_lt, nlt_mI, mI_le, nle_mI, nI_addm, sh_b, bI_0, bI_1, bI_bI, ckZ_b, ckZ_n0, ckZ_n1, stIe, stJe, stZ_n0, stZ_n1, rm_nI, dv_nI, if_true, if_false, if_pos, if_neg, rf0, rf1, rf5, rf6, rf7, rf8, rf9, rf20, rf23, rf24, rf25, rf26, rf29, rf31, rf33, rf34, rf35, rf37, rf38, rf41, rf42, rf43,  k_X4_doStep_307, w_1 hw, wd_0 hw, wd_1 hw, wd_2 hw, wd_3 hw, wd_4 hw, lw9 hw, lw10 hw, lw11 hw, lw12 hw, lw13 hw, lf_0 hl, c0']
    · rw [f_X12_does, rf0, i1, i2, lr1 (by omega), bsm, lr1 (by omega), bsm, lr1 (by omega), bsm, r0', if_neg (show ¬ nI 1923 = (7 : Int32) by decide), if_neg (show ¬ nI 1923 = (8 : Int32) by decide), if_neg (show ¬ nI 1923 = (9 : Int32) by decide), if_neg (show ¬ nI 1923 = (10 : Int32) by decide), if_neg (show ¬ nI 1923 = (11 : Int32) by decide), if_neg (show ¬ nI 1923 = (12 : Int32) by decide), if_neg (show ¬ nI 1923 = (13 : Int32) by decide), if_neg (show ¬ nI 1923 = (14 : Int32) by decide), if_neg (show ¬ nI 1923 = (15 : Int32) by decide), if_neg (show ¬ nI 1923 = (16 : Int32) by decide), if_neg (show ¬ nI 1923 = (17 : Int32) by decide), if_neg (show ¬ nI 1923 = (18 : Int32) by decide)]
      simp (disch := omega) only [↓mI_e, lit, ofN, bsm, nI_add, pk_mul, pk_sub, nI_e, nI_leE, nI_ltE, nI_mI, mI_nI, mI_lt, nlt_mI, mI_le, nle_mI, nI_addm, sh_b, bI_0, bI_1, bI_bI, ckZ_b, ckZ_n0, ckZ_n1, stIe, stJe, stZ_n0, stZ_n1, rm_nI, dv_nI, if_true, if_false, if_pos, if_neg, rf0, rf1, rf5, rf6, rf7, rf8, rf9, rf20, rf23, rf24, rf25, rf26, rf29, rf31, rf33, rf34, rf35, rf37, rf38, rf41, rf42, rf43,  lr1, r0', k_X12_does_437]
  · -- 24
    have c0' : gA σ (w + 9) l = nI 21 := by have z := c0; rw [e] at z; exact z
    have r0' : gA τ 1 (4480 + 6 * l) = nI 1924 := by have z := r0; rw [e] at z; exact z
    have cp : gA σ (w + 11) l = nI (D l 2) := cP (by rw [e]; rfl)
    have ha := vP (by rw [e]; rfl)
    have rk : gA τ 1 (4480 + 6 * l + 2) = nI (D l 2) := rK (by rw [e]; rfl)
    refine ⟨σ, τ, ?_, fun ne => ?_, idle⟩
    · rw [f_X4_doStep, w_1 hw, wd_0 hw, wd_1 hw, wd_2 hw, wd_3 hw, lw10 hw (by omega), bsm, lw11 hw (by omega), bsm, lw12 hw (by omega), bsm, lw9 hw (by omega), bsm, c0', if_neg (show ¬ nI 21 = (7 : Int32) by decide), if_neg (show ¬ nI 21 = (8 : Int32) by decide), if_neg (show ¬ nI 21 = (9 : Int32) by decide), if_neg (show ¬ nI 21 = (10 : Int32) by decide), if_neg (show ¬ nI 21 = (11 : Int32) by decide), if_neg (show ¬ nI 21 = (12 : Int32) by decide), if_neg (show ¬ nI 21 = (13 : Int32) by decide), if_neg (show ¬ nI 21 = (14 : Int32) by decide), if_neg (show ¬ nI 21 = (15 : Int32) by decide), if_neg (show ¬ nI 21 = (16 : Int32) by decide), if_neg (show ¬ nI 21 = (17 : Int32) by decide), if_neg (show ¬ nI 21 = (18 : Int32) by decide)]
      simp (disch := omega) only [↓mI_e, lit, ofN, bsm, nI_add, pk_mul, pk_sub, nI_e, nI_leE, nI_ltE, nI_mI, mI_nI, mI_lt, nlt_mI, mI_le, nle_mI, nI_addm, sh_b, bI_0, bI_1, bI_bI, ckZ_b, ckZ_n0, ckZ_n1, stIe, stJe, stZ_n0, stZ_n1, rm_nI, dv_nI, if_true, if_false, if_pos, if_neg, rf0, rf1, rf5, rf6, rf7, rf8, rf9, rf20, rf23, rf24, rf25, rf26, rf29, rf31, rf33, rf34, rf35, rf37, rf38, rf41, rf42, rf43,  k_X4_doStep_307, w_1 hw, wd_0 hw, wd_1 hw, wd_2 hw, wd_3 hw, wd_4 hw, lw9 hw, lw10 hw, lw11 hw, lw12 hw, lw13 hw, lf_0 hl, c0']
    · rw [f_X12_does, rf0, i1, i2, lr1 (by omega), bsm, lr1 (by omega), bsm, lr1 (by omega), bsm, r0', if_neg (show ¬ nI 1924 = (7 : Int32) by decide), if_neg (show ¬ nI 1924 = (8 : Int32) by decide), if_neg (show ¬ nI 1924 = (9 : Int32) by decide), if_neg (show ¬ nI 1924 = (10 : Int32) by decide), if_neg (show ¬ nI 1924 = (11 : Int32) by decide), if_neg (show ¬ nI 1924 = (12 : Int32) by decide), if_neg (show ¬ nI 1924 = (13 : Int32) by decide), if_neg (show ¬ nI 1924 = (14 : Int32) by decide), if_neg (show ¬ nI 1924 = (15 : Int32) by decide), if_neg (show ¬ nI 1924 = (16 : Int32) by decide), if_neg (show ¬ nI 1924 = (17 : Int32) by decide), if_neg (show ¬ nI 1924 = (18 : Int32) by decide)]
      simp (disch := omega) only [↓mI_e, lit, ofN, bsm, nI_add, pk_mul, pk_sub, nI_e, nI_leE, nI_ltE, nI_mI, mI_nI, mI_lt, nlt_mI, mI_le, nle_mI, nI_addm, sh_b, bI_0, bI_1, bI_bI, ckZ_b, ckZ_n0, ckZ_n1, stIe, stJe, stZ_n0, stZ_n1, rm_nI, dv_nI, if_true, if_false, if_pos, if_neg, rf0, rf1, rf5, rf6, rf7, rf8, rf9, rf20, rf23, rf24, rf25, rf26, rf29, rf31, rf33, rf34, rf35, rf37, rf38, rf41, rf42, rf43,  lr1, r0', k_X12_does_437]
  · -- 25
    have c0' : gA σ (w + 9) l = nI 22 := by have z := c0; rw [e] at z; exact z
    have r0' : gA τ 1 (4480 + 6 * l) = nI 1925 := by have z := r0; rw [e] at z; exact z
    have cy : gA σ (w + 10) l = nI (D l 1) := cY (by rw [e]; rfl)
    have ry : gA τ 1 (4480 + 6 * l + 1) = nI (D l 1) := rY (by rw [e]; rfl)
    have hy := vY (by rw [e]; rfl)
    have cp : gA σ (w + 11) l = nI (D l 2) := cP (by rw [e]; rfl)
    have ha := vP (by rw [e]; rfl)
    have cv : gA σ (w + 12) l = nI (D l 3) := cV (by rw [e]; rfl)
    have hv := vV (by rw [e]; rfl)
    have rk : gA τ 1 (4480 + 6 * l + 2) = nI (D l 2) := rK (by rw [e]; rfl)
    have rt : gA τ 1 (4480 + 6 * l + 3) = nI (D l 3) := rT (by rw [e]; rfl)
    refine ⟨σ, τ, ?_, fun ne => ?_, idle⟩
    · rw [f_X4_doStep, w_1 hw, wd_0 hw, wd_1 hw, wd_2 hw, wd_3 hw, lw10 hw (by omega), bsm, lw11 hw (by omega), bsm, lw12 hw (by omega), bsm, lw9 hw (by omega), bsm, c0', if_neg (show ¬ nI 22 = (7 : Int32) by decide), if_neg (show ¬ nI 22 = (8 : Int32) by decide), if_neg (show ¬ nI 22 = (9 : Int32) by decide), if_neg (show ¬ nI 22 = (10 : Int32) by decide), if_neg (show ¬ nI 22 = (11 : Int32) by decide), if_neg (show ¬ nI 22 = (12 : Int32) by decide), if_neg (show ¬ nI 22 = (13 : Int32) by decide), if_neg (show ¬ nI 22 = (14 : Int32) by decide), if_neg (show ¬ nI 22 = (15 : Int32) by decide), if_neg (show ¬ nI 22 = (16 : Int32) by decide), if_neg (show ¬ nI 22 = (17 : Int32) by decide), if_neg (show ¬ nI 22 = (18 : Int32) by decide)]
      simp (disch := omega) only [↓mI_e, lit, ofN, bsm, nI_add, pk_mul, pk_sub, nI_e, nI_leE, nI_ltE, nI_mI, mI_nI, mI_lt, nlt_mI, mI_le, nle_mI, nI_addm, sh_b, bI_0, bI_1, bI_bI, ckZ_b, ckZ_n0, ckZ_n1, stIe, stJe, stZ_n0, stZ_n1, rm_nI, dv_nI, if_true, if_false, if_pos, if_neg, rf0, rf1, rf5, rf6, rf7, rf8, rf9, rf20, rf23, rf24, rf25, rf26, rf29, rf31, rf33, rf34, rf35, rf37, rf38, rf41, rf42, rf43,  k_X4_doStep_307, w_1 hw, wd_0 hw, wd_1 hw, wd_2 hw, wd_3 hw, wd_4 hw, lw9 hw, lw10 hw, lw11 hw, lw12 hw, lw13 hw, lf_0 hl, c0']
    · rw [f_X12_does, rf0, i1, i2, lr1 (by omega), bsm, lr1 (by omega), bsm, lr1 (by omega), bsm, r0', if_neg (show ¬ nI 1925 = (7 : Int32) by decide), if_neg (show ¬ nI 1925 = (8 : Int32) by decide), if_neg (show ¬ nI 1925 = (9 : Int32) by decide), if_neg (show ¬ nI 1925 = (10 : Int32) by decide), if_neg (show ¬ nI 1925 = (11 : Int32) by decide), if_neg (show ¬ nI 1925 = (12 : Int32) by decide), if_neg (show ¬ nI 1925 = (13 : Int32) by decide), if_neg (show ¬ nI 1925 = (14 : Int32) by decide), if_neg (show ¬ nI 1925 = (15 : Int32) by decide), if_neg (show ¬ nI 1925 = (16 : Int32) by decide), if_neg (show ¬ nI 1925 = (17 : Int32) by decide), if_neg (show ¬ nI 1925 = (18 : Int32) by decide)]
      simp (disch := omega) only [↓mI_e, lit, ofN, bsm, nI_add, pk_mul, pk_sub, nI_e, nI_leE, nI_ltE, nI_mI, mI_nI, mI_lt, nlt_mI, mI_le, nle_mI, nI_addm, sh_b, bI_0, bI_1, bI_bI, ckZ_b, ckZ_n0, ckZ_n1, stIe, stJe, stZ_n0, stZ_n1, rm_nI, dv_nI, if_true, if_false, if_pos, if_neg, rf0, rf1, rf5, rf6, rf7, rf8, rf9, rf20, rf23, rf24, rf25, rf26, rf29, rf31, rf33, rf34, rf35, rf37, rf38, rf41, rf42, rf43,  lr1, r0', k_X12_does_437]
