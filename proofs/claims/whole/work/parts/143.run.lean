/-! LIFE: a whole run -/
theorem L_step {w lf : Nat} (hl : isLf w lf) {g : Nat → Int64} {L : Nat} {D : Nat → Nat → Nat} {σ0 τ0 : ST} {B s d : Nat} (hB : B + 999 < 2 ^ 31) (hs : s < 300) {σ τ : ST} (h : LV w lf g L D σ0 τ0 B s d σ τ) {l : Nat} (hL : l < L) (h21 : D l 0 ≠ 21) (hP : LPs lf L D l σ τ) (N t M : Nat) (ht : t + 1 < 100000) : (D l 0 = 22 ∧ ∃ σ1 τ1 d', LV w lf g L D σ0 τ0 (B + 999) (s + 1) d' σ1 τ1 ∧ k_X4_run_30 (N + 2) lf w 97 (w + 8) (nI l) (nI t) σ = some σ1 ∧ k_X12_lives_33 (M + 1) 0 (nI l) τ = some τ1) ∨ ∃ l' σ1 τ1 F' d', l' ≤ L ∧ 900000 < F' ∧ LV w lf g L D σ0 τ0 (B + 999) (s + 1) d' σ1 τ1 ∧ LPs lf L D l' σ1 τ1 ∧ NE L D l' ∧ k_X4_run_30 (N + 2) lf w 97 (w + 8) (nI l) (nI t) σ = k_X4_run_30 (N + 1) lf w 97 (w + 8) (nI l') (nI (t + 1)) σ1 ∧ k_X12_lives_33 (M + 1) 0 (nI l) τ = (k_X12_behindEnds_2 F' 0 (nI l') τ1).bind (fun u => k_X12_lives_33 M 0 u.1 u.2) := by
  have hw := isLf_w hl
  have hL60 := h.2.1.2.2.2
  obtain ⟨f7, hr⟩ := LV_days h
  have hv := h.2.2.2.2.2.2
  have vo := (hv l hL).1
  have c0 : gA σ (w + 9) l = nI (cw (D l 0)) := (h.2.1.2.2.1 l hL).1
  have r0 : gA τ 1 (4480 + 6 * l) = nI (rwd (D l 0)) := (hr l hL).1
  have e7 : gI σ (w + 8) 7 = nI L := h.2.1.2.1
  obtain ⟨es, es'⟩ := h.2.2.1
  have ht1 : ¬ 100000 ≤ t := by omega
  have cL : ¬ L ≤ l := by omega
  have c24 : (nI (cw (D l 0)) = nI 24) = False := by rw [cw_24 ⟨vo.1, vo.2.1⟩]; exact eq_false h21
  have s300 : ¬ s = 300 := by omega
  have h6 : LV w lf g L D σ0 τ0 B (s + 1) d (sI σ lf 1 (nI (s + 1))) (sI τ 0 40 (nI (s + 1))) := LV_out hl h (wv_sI_out _ (wv_lf hl (x := 0) (by omega)) _ _) rfl ⟨by rw [gI_sI, if_pos ⟨rfl, rfl⟩], by rw [gI_sI, if_pos ⟨rfl, rfl⟩]⟩ ⟨by rw [gI_sI, if_neg (by omega)]; exact h.2.2.2.1.1, by rw [gI_sI, if_neg (by decide)]; exact h.2.2.2.1.2.1, h.2.2.2.1.2.2⟩ h.2.2.2.2.1 (SqE_sI hl (Sq.rf σ) _ _) (SL.sI 40 _ (by omega))
  have r0b : gA (sI τ 0 40 (nI (s + 1))) 1 (4480 + 6 * l) = nI (rwd (D l 0)) := r0
  obtain ⟨σ1, τ1, d1, d2, ⟨d', d3⟩, d4, d5⟩ := L_do hl hB h6 hL h21
  have hP1 : LPs lf L D l σ1 τ1 := LPs_c hP (by rw [d4]; rfl) (by rw [d5]; rfl)
  by_cases e22 : D l 0 = 22
  · refine Or.inl ⟨e22, σ1, sI τ 0 40 (nI (s + 1)), d, ?_, ?_, ?_⟩
    · -- nothing is done at a stop
      have c0b : gA (sI σ lf 1 (nI (s + 1))) (w + 9) l = nI 25 := by have z : gA (sI σ lf 1 (nI (s + 1))) (w + 9) l = nI (cw (D l 0)) := c0; rw [e22] at z; exact z
      have q : f_X4_doStep lf w (nI l) 97 (sI σ lf 1 (nI (s + 1))) = some (sI σ lf 1 (nI (s + 1))) := by
        rw [f_X4_doStep, w_1 hw, wd_0 hw, wd_1 hw, wd_2 hw, wd_3 hw, lw10 hw (by omega), bsm, lw11 hw (by omega), bsm, lw12 hw (by omega), bsm, lw9 hw (by omega), bsm, c0b, if_neg (show ¬ nI 25 = (7 : Int32) by decide), if_neg (show ¬ nI 25 = (8 : Int32) by decide), if_neg (show ¬ nI 25 = (9 : Int32) by decide), if_neg (show ¬ nI 25 = (10 : Int32) by decide), if_neg (show ¬ nI 25 = (11 : Int32) by decide), if_neg (show ¬ nI 25 = (12 : Int32) by decide), if_neg (show ¬ nI 25 = (13 : Int32) by decide), if_neg (show ¬ nI 25 = (14 : Int32) by decide), if_neg (show ¬ nI 25 = (15 : Int32) by decide), if_neg (show ¬ nI 25 = (16 : Int32) by decide), if_neg (show ¬ nI 25 = (17 : Int32) by decide), if_neg (show ¬ nI 25 = (18 : Int32) by decide)]
        rfl
      rw [q] at d1
      have e1 : sI σ lf 1 (nI (s + 1)) = σ1 := Option.some.inj d1
      rw [← e1]
      exact LV_mono (by omega) h6
    · have c1 : gA σ1 (w + 9) l = nI 25 := by
        have z : gA σ1 (w + 9) l = nI (cw (D l 0)) := (d3.2.1.2.2.1 l hL).1
        rw [e22] at z; exact z
      have e71 : gI σ1 (w + 8) 7 = nI L := d3.2.1.2.1
      have lb : f_X4_lineBehindStep lf w (nI l) σ1 = some (nI L, σ1) := by
        simp (disch := omega) only [↓mI_e, lit, ofN, bsm, nI_add, pk_mul, pk_sub, nI_e, nI_leE, nI_ltE, nI_mI, mI_nI, mI_lt, nlt_mI, mI_le, nle_mI, nI_addm, sh_b, bI_0, bI_1, bI_bI, ckZ_b, ckZ_n0, ckZ_n1, stIe, stJe, stZ_n0, stZ_n1, rm_nI, dv_nI, if_true, if_false, if_pos, if_neg, rf0, rf1, rf5, rf6, rf7, rf8, rf9, rf20, rf23, rf24, rf25, rf26, rf29, rf31, rf33, rf34, rf35, rf37, rf38, rf41, rf42, rf43,  f_X4_lineBehindStep, w_1 hw, wd_0 hw, lw9 hw, c1, e71]
      have ht2 : ¬ 100000 ≤ t + 1 := by omega
      rw [k_X4_run_30]
      simp (disch := omega) only [↓mI_e, lit, ofN, bsm, nI_add, pk_mul, pk_sub, nI_e, nI_leE, nI_ltE, nI_mI, mI_nI, mI_lt, nlt_mI, mI_le, nle_mI, nI_addm, sh_b, bI_0, bI_1, bI_bI, ckZ_b, ckZ_n0, ckZ_n1, stIe, stJe, stZ_n0, stZ_n1, rm_nI, dv_nI, if_true, if_false, if_pos, if_neg, rf0, rf1, rf5, rf6, rf7, rf8, rf9, rf20, rf23, rf24, rf25, rf26, rf29, rf31, rf33, rf34, rf35, rf37, rf38, rf41, rf42, rf43,  ht1, e7, cL, wd_0 hw, lw9 hw, c0, c24, es, hs, d1, lb, k_X4_run_118]
      rw [k_X4_run_30]
      simp (disch := omega) only [↓mI_e, lit, ofN, bsm, nI_add, pk_mul, pk_sub, nI_e, nI_leE, nI_ltE, nI_mI, mI_nI, mI_lt, nlt_mI, mI_le, nle_mI, nI_addm, sh_b, bI_0, bI_1, bI_bI, ckZ_b, ckZ_n0, ckZ_n1, stIe, stJe, stZ_n0, stZ_n1, rm_nI, dv_nI, if_true, if_false, if_pos, if_neg, rf0, rf1, rf5, rf6, rf7, rf8, rf9, rf20, rf23, rf24, rf25, rf26, rf29, rf31, rf33, rf34, rf35, rf37, rf38, rf41, rf42, rf43,  ht2, e71, k_X4_run_124]
    · have r1 : gA (sI τ 0 40 (nI (s + 1))) 1 (4480 + 6 * l) = nI 22 := by rw [r0b, e22]; rfl
      rw [k_X12_lives_33]
      simp (disch := omega) only [↓mI_e, lit, ofN, bsm, nI_add, pk_mul, pk_sub, nI_e, nI_leE, nI_ltE, nI_mI, mI_nI, mI_lt, nlt_mI, mI_le, nle_mI, nI_addm, sh_b, bI_0, bI_1, bI_bI, ckZ_b, ckZ_n0, ckZ_n1, stIe, stJe, stZ_n0, stZ_n1, rm_nI, dv_nI, if_true, if_false, if_pos, if_neg, rf0, rf1, rf5, rf6, rf7, rf8, rf9, rf20, rf23, rf24, rf25, rf26, rf29, rf31, rf33, rf34, rf35, rf37, rf38, rf41, rf42, rf43,  lr1, f7, cL, es', s300, r1]
  · obtain ⟨l', σ2, τ2, F', a1, a2, a3, a4, a5, a6, a7⟩ := L_next hl d3 hL h21 e22 hP1 (k_X12_lives_33 M)
    refine Or.inr ⟨l', σ2, τ2, F', d', a1, a2, a3, a4, a5, ?_, ?_⟩
    · rw [k_X4_run_30]
      simp (disch := omega) only [↓mI_e, lit, ofN, bsm, nI_add, pk_mul, pk_sub, nI_e, nI_leE, nI_ltE, nI_mI, mI_nI, mI_lt, nlt_mI, mI_le, nle_mI, nI_addm, sh_b, bI_0, bI_1, bI_bI, ckZ_b, ckZ_n0, ckZ_n1, stIe, stJe, stZ_n0, stZ_n1, rm_nI, dv_nI, if_true, if_false, if_pos, if_neg, rf0, rf1, rf5, rf6, rf7, rf8, rf9, rf20, rf23, rf24, rf25, rf26, rf29, rf31, rf33, rf34, rf35, rf37, rf38, rf41, rf42, rf43,  ht1, e7, cL, wd_0 hw, lw9 hw, c0, c24, es, hs, d1, a6, k_X4_run_118]
    · have r22 : (nI (rwd (D l 0)) = nI 22) = False := by
        have h1 : ∀ o : Fin 26, (nI (rwd o.1) = nI 22) ↔ (o.1 = 22) := by decide +kernel
        exact eq_false (fun z => e22 ((h1 ⟨D l 0, by omega⟩).mp z))
      rw [k_X12_lives_33, ← a7]
      have dd := d2 e22
      simp (disch := omega) only [↓mI_e, lit, ofN, bsm, nI_add, pk_mul, pk_sub, nI_e, nI_leE, nI_ltE, nI_mI, mI_nI, mI_lt, nlt_mI, mI_le, nle_mI, nI_addm, sh_b, bI_0, bI_1, bI_bI, ckZ_b, ckZ_n0, ckZ_n1, stIe, stJe, stZ_n0, stZ_n1, rm_nI, dv_nI, if_true, if_false, if_pos, if_neg, rf0, rf1, rf5, rf6, rf7, rf8, rf9, rf20, rf23, rf24, rf25, rf26, rf29, rf31, rf33, rf34, rf35, rf37, rf38, rf41, rf42, rf43,  lr1, f7, cL, es', s300, r0b, r22, dd]
theorem L_done_c {w lf L l t N : Nat} {σ : ST} (hL : L ≤ 60) (h1 : l ≤ L) (c : L ≤ l) (ht : t < 100000) (e7 : gI σ (w + 8) 7 = nI L) : k_X4_run_30 (N + 1) lf w 97 (w + 8) (nI l) (nI t) σ = some σ := by
  have ht1 : ¬ 100000 ≤ t := by omega
  rw [k_X4_run_30]
  simp (disch := omega) only [↓mI_e, lit, ofN, bsm, nI_add, pk_mul, pk_sub, nI_e, nI_leE, nI_ltE, nI_mI, mI_nI, mI_lt, nlt_mI, mI_le, nle_mI, nI_addm, sh_b, bI_0, bI_1, bI_bI, ckZ_b, ckZ_n0, ckZ_n1, stIe, stJe, stZ_n0, stZ_n1, rm_nI, dv_nI, if_true, if_false, if_pos, if_neg, rf0, rf1, rf5, rf6, rf7, rf8, rf9, rf20, rf23, rf24, rf25, rf26, rf29, rf31, rf33, rf34, rf35, rf37, rf38, rf41, rf42, rf43,  ht1, e7, c, k_X4_run_124]
theorem L_done_r {L l M : Nat} {τ : ST} (hL : L ≤ 60) (h1 : l ≤ L) (c : L ≤ l) (f7 : gA τ 1 7 = nI L) : k_X12_lives_33 (M + 1) 0 (nI l) τ = some τ := by
  rw [k_X12_lives_33]
  simp (disch := omega) only [↓mI_e, lit, ofN, bsm, nI_add, pk_mul, pk_sub, nI_e, nI_leE, nI_ltE, nI_mI, mI_nI, mI_lt, nlt_mI, mI_le, nle_mI, nI_addm, sh_b, bI_0, bI_1, bI_bI, ckZ_b, ckZ_n0, ckZ_n1, stIe, stJe, stZ_n0, stZ_n1, rm_nI, dv_nI, if_true, if_false, if_pos, if_neg, rf0, rf1, rf5, rf6, rf7, rf8, rf9, rf20, rf23, rf24, rf25, rf26, rf29, rf31, rf33, rf34, rf35, rf37, rf38, rf41, rf42, rf43,  lr1, f7, c]
theorem L_run {w lf : Nat} (hl : isLf w lf) {g : Nat → Int64} {L : Nat} {D : Nat → Nat → Nat} {σ0 τ0 : ST} : ∀ (k s B d l : Nat) (σ τ : ST) (N t M : Nat), s + k = 300 → LV w lf g L D σ0 τ0 B s d σ τ → l ≤ L → (l < L → D l 0 ≠ 21) → LPs lf L D l σ τ → 62 * k + 10 < N → k + 1 < M → t + 62 * k + 10 < 100000 → B + 999 * k + 999 < 2 ^ 31 → ∃ σ1 τ1 s' d', k_X4_run_30 N lf w 97 (w + 8) (nI l) (nI t) σ = some σ1 ∧ k_X12_lives_33 M 0 (nI l) τ = some τ1 ∧ s' ≤ 300 ∧ LV w lf g L D σ0 τ0 (B + 999 * k) s' d' σ1 τ1 := by
  have hw := isLf_w hl
  intro k
  induction k with
  | zero =>
    intro s B d l σ τ N t M hs h h1 h2 hP hN hM ht hB
    have hL60 := h.2.1.2.2.2
    obtain ⟨f7, hr⟩ := LV_days h
    have e7 : gI σ (w + 8) 7 = nI L := h.2.1.2.1
    obtain ⟨es, es'⟩ := h.2.2.1
    obtain ⟨N1, rfl⟩ : ∃ N1, N = N1 + 1 := ⟨N - 1, by omega⟩
    obtain ⟨M1, rfl⟩ : ∃ M1, M = M1 + 1 := ⟨M - 1, by omega⟩
    have ht1 : ¬ 100000 ≤ t := by omega
    by_cases c : L ≤ l
    · refine ⟨σ, τ, s, d, ?_, ?_, by omega, LV_mono (by omega) h⟩
      · rw [k_X4_run_30]
        simp (disch := omega) only [↓mI_e, lit, ofN, bsm, nI_add, pk_mul, pk_sub, nI_e, nI_leE, nI_ltE, nI_mI, mI_nI, mI_lt, nlt_mI, mI_le, nle_mI, nI_addm, sh_b, bI_0, bI_1, bI_bI, ckZ_b, ckZ_n0, ckZ_n1, stIe, stJe, stZ_n0, stZ_n1, rm_nI, dv_nI, if_true, if_false, if_pos, if_neg, rf0, rf1, rf5, rf6, rf7, rf8, rf9, rf20, rf23, rf24, rf25, rf26, rf29, rf31, rf33, rf34, rf35, rf37, rf38, rf41, rf42, rf43,  ht1, e7, c, k_X4_run_124]
      · rw [k_X12_lives_33]
        simp (disch := omega) only [↓mI_e, lit, ofN, bsm, nI_add, pk_mul, pk_sub, nI_e, nI_leE, nI_ltE, nI_mI, mI_nI, mI_lt, nlt_mI, mI_le, nle_mI, nI_addm, sh_b, bI_0, bI_1, bI_bI, ckZ_b, ckZ_n0, ckZ_n1, stIe, stJe, stZ_n0, stZ_n1, rm_nI, dv_nI, if_true, if_false, if_pos, if_neg, rf0, rf1, rf5, rf6, rf7, rf8, rf9, rf20, rf23, rf24, rf25, rf26, rf29, rf31, rf33, rf34, rf35, rf37, rf38, rf41, rf42, rf43,  lr1, f7, c]
    · have hlt : l < L := by omega
      have vo := (h.2.2.2.2.2.2 l hlt).1
      have c0 : gA σ (w + 9) l = nI (cw (D l 0)) := (h.2.1.2.2.1 l hlt).1
      have c24 : (nI (cw (D l 0)) = nI 24) = False := by rw [cw_24 ⟨vo.1, vo.2.1⟩]; exact eq_false (h2 hlt)
      have e300 : s = 300 := by omega
      subst e300
      refine ⟨_, _, 300, d, ?_, ?_, by omega, LV_mono (by omega) (LV_tally hl h 5 (nI 1))⟩
      · rw [k_X4_run_30]
        simp (disch := omega) only [↓mI_e, lit, ofN, bsm, nI_add, pk_mul, pk_sub, nI_e, nI_leE, nI_ltE, nI_mI, mI_nI, mI_lt, nlt_mI, mI_le, nle_mI, nI_addm, sh_b, bI_0, bI_1, bI_bI, ckZ_b, ckZ_n0, ckZ_n1, stIe, stJe, stZ_n0, stZ_n1, rm_nI, dv_nI, if_true, if_false, if_pos, if_neg, rf0, rf1, rf5, rf6, rf7, rf8, rf9, rf20, rf23, rf24, rf25, rf26, rf29, rf31, rf33, rf34, rf35, rf37, rf38, rf41, rf42, rf43,  ht1, e7, c, wd_0 hw, lw9 hw, c0, c24, es, lf_0 hl, st1 hl]
      · rw [k_X12_lives_33]
        simp (disch := omega) only [↓mI_e, lit, ofN, bsm, nI_add, pk_mul, pk_sub, nI_e, nI_leE, nI_ltE, nI_mI, mI_nI, mI_lt, nlt_mI, mI_le, nle_mI, nI_addm, sh_b, bI_0, bI_1, bI_bI, ckZ_b, ckZ_n0, ckZ_n1, stIe, stJe, stZ_n0, stZ_n1, rm_nI, dv_nI, if_true, if_false, if_pos, if_neg, rf0, rf1, rf5, rf6, rf7, rf8, rf9, rf20, rf23, rf24, rf25, rf26, rf29, rf31, rf33, rf34, rf35, rf37, rf38, rf41, rf42, rf43,  lr1, f7, c, es', sr21]
  | succ k ih =>
    intro s B d l σ τ N t M hs h h1 h2 hP hN hM ht hB
    have hL60 := h.2.1.2.2.2
    obtain ⟨f7, hr⟩ := LV_days h
    have e7 : gI σ (w + 8) 7 = nI L := h.2.1.2.1
    have ht1 : ¬ 100000 ≤ t := by omega
    obtain ⟨N1, rfl⟩ : ∃ N1, N = N1 + 2 := ⟨N - 2, by omega⟩
    obtain ⟨M1, rfl⟩ : ∃ M1, M = M1 + 1 := ⟨M - 1, by omega⟩
    by_cases c : L ≤ l
    · refine ⟨σ, τ, s, d, ?_, ?_, by omega, LV_mono (by omega) h⟩
      · exact L_done_c (N := N1 + 1) hL60 h1 c (by omega) e7
      · exact L_done_r hL60 h1 c f7
    · rcases L_step hl (by omega) (by omega) h (show l < L by omega) (h2 (by omega)) hP N1 t M1 (by omega) with ⟨_, σ1, τ1, d', a1, a2, a3⟩ | ⟨l', σ1, τ1, F', d', a1, a2, a3, a4, a5, a6, a7⟩
      · exact ⟨σ1, τ1, s + 1, d', a2, a3, by omega, LV_mono (by omega) a1⟩
      · obtain ⟨e, l2, σ2, τ2, b1, b2, b3, b4, b5, b6, b7⟩ := L_ends hl 60 l' σ1 τ1 (N1 + 1) (t + 1) F' a1 (by omega) a3 a4 a5 (by omega) (by omega) (by omega)
        obtain ⟨σ3, τ3, s', d3, c1, c2, c3, c4⟩ := ih (s + 1) (B + 999) d' l2 σ2 τ2 (N1 + 1 - e) (t + 1 + e) M1 (by omega) b4 b2 b3 b5 (by omega) (by omega) (by omega) (by omega)
        refine ⟨σ3, τ3, s', d3, ?_, ?_, c3, LV_mono (by omega) c4⟩
        · rw [a6, b6]; exact c1
        · rw [a7, b7, bsm]; exact c2
theorem r_lives_12 : ∀ (n k : Nat) (τ : ST), k ≤ 6 → 6 - k < n → (∀ j, j < k → gA τ 21 j = nI 0) → ∃ G, k_X12_lives_12 n 0 (nI k) τ = k_X12_lives_33 FU 0 (nI 0) (sA τ 21 G) ∧ ∀ j, j < 6 → G j = nI 0 := by
  obtain ⟨F, hF, hF2⟩ : ∃ F, FU = F ∧ 5000 < F := ⟨FU, rfl, by unfold FU; omega⟩
  rw [hF]
  intro n
  induction n with
  | zero => intros; omega
  | succ n ih =>
    intro k τ hk hn hz
    rw [k_X12_lives_12, hF]
    by_cases c : 6 ≤ k
    · refine ⟨gA τ 21, ?_, fun j hj => hz j (by omega)⟩
      simp (disch := omega) only [↓mI_e, lit, ofN, bsm, nI_add, pk_mul, pk_sub, nI_e, nI_leE, nI_ltE, nI_mI, mI_nI, mI_lt, nlt_mI, mI_le, nle_mI, nI_addm, sh_b, bI_0, bI_1, bI_bI, ckZ_b, ckZ_n0, ckZ_n1, stIe, stJe, stZ_n0, stZ_n1, rm_nI, dv_nI, if_true, if_false, if_pos, if_neg, rf0, rf1, rf5, rf6, rf7, rf8, rf9, rf20, rf23, rf24, rf25, rf26, rf29, rf31, rf33, rf34, rf35, rf37, rf38, rf41, rf42, rf43,  c]
      rw [sA_self]
    · obtain ⟨G, g1, g2⟩ := ih (k + 1) (sA τ 21 (upd (gA τ 21) k (nI 0))) (by omega) (by omega) (fun j hj => by
        rw [gA_sA, if_pos rfl, upd_at]
        split
        · rfl
        · exact hz j (by omega))
      rw [sA_sA] at g1
      refine ⟨G, ?_, g2⟩
      simp (disch := omega) only [↓mI_e, lit, ofN, bsm, nI_add, pk_mul, pk_sub, nI_e, nI_leE, nI_ltE, nI_mI, mI_nI, mI_lt, nlt_mI, mI_le, nle_mI, nI_addm, sh_b, bI_0, bI_1, bI_bI, ckZ_b, ckZ_n0, ckZ_n1, stIe, stJe, stZ_n0, stZ_n1, rm_nI, dv_nI, if_true, if_false, if_pos, if_neg, rf0, rf1, rf5, rf6, rf7, rf8, rf9, rf20, rf23, rf24, rf25, rf26, rf29, rf31, rf33, rf34, rf35, rf37, rf38, rf41, rf42, rf43,  c, sr21]
      exact g1
/-- days lived by both -/
theorem L_live {w lf : Nat} (hl : isLf w lf) {B : Nat} (hB : B + 300699 < 2 ^ 31) {σ τ : ST} {g : Nat → Int64} (hW : RelW B (wv σ w) (gA τ 1) g) (h7 : gA τ 1 7 ≠ mI) {sd : Nat} (hsd : sd < 65536) : ∃ σ1 τ1 L D s d, f_X4_run lf w (nI sd) 97 σ = some σ1 ∧ f_X12_lives 0 (nI sd) τ = some τ1 ∧ s ≤ 300 ∧ LV w lf g L D σ τ (B + 299700) s d σ1 τ1 := by
  have hw := isLf_w hl
  obtain ⟨_, _, _, _, _, _, _, hD, _⟩ := id hW
  rcases hD with ⟨z, _⟩ | ⟨L, D, l1, l2, l3, l4, l5, l6, l7⟩
  · exact absurd z h7
  · have hp := isLf_p hl
    have fl := fill1 (lf + 1) (nI 0) σ (by rw [lf_n1 hl]; omega)
    rw [lf_n1 hl] at fl
    obtain ⟨G, r1, r2⟩ := r_lives_12 FU 0 (sI (sI τ 0 39 (nI sd)) 0 40 (nI 0)) (by omega) (by unfold FU; omega) (fun j hj => by omega)
    obtain ⟨σi, hσi⟩ : ∃ σi, σi = sI (sI (sA σ (lf + 1) (fillF (gA σ (lf + 1)) 0 6 (nI 0))) lf 1 (nI 0)) lf 3 (nI sd) := ⟨_, rfl⟩
    obtain ⟨τi, hτi⟩ : ∃ τi, τi = sA (sI (sI τ 0 39 (nI sd)) 0 40 (nI 0)) 21 G := ⟨_, rfl⟩
    have hwv : wv σi w = wv σ w := by
      have z0 : lf < w ∨ w + 28 ≤ lf := wv_lf hl (x := 0) (by omega)
      rw [hσi, wv_sI_out _ z0, wv_sI_out _ z0, wv_sA_out _ (wv_lf hl (by omega))]
    have hgi : gA τi 1 = gA τ 1 := by rw [hτi, gA_sA, if_neg (by decide)]; rfl
    have hi : LV w lf g L D σ τ B 0 sd σi τi := by
      have e8 : ∀ k, gI σi (w + 8) k = gI σ (w + 8) k := fun k => congrArg (fun z => gI z 8 k) hwv
      refine ⟨by rw [hwv, hgi]; exact hW, ⟨by rw [e8]; exact l3, by rw [e8]; exact l4, by rw [hwv]; exact l6, l1⟩, ⟨?_, ?_⟩, ⟨?_, ?_, hsd⟩, fun k hk => ?_, ⟨?_, ?_⟩, by rw [hgi]; exact l5⟩
      · rw [hσi, gI_sI, if_neg (by omega), gI_sI, if_pos ⟨rfl, rfl⟩]
      · rw [hτi, gI_sA, gI_sI, if_pos ⟨rfl, rfl⟩]
      · rw [hσi, gI_sI, if_pos ⟨rfl, rfl⟩]
      · rw [hτi, gI_sA, gI_sI, if_neg (by decide), gI_sI, if_pos ⟨rfl, rfl⟩]
      · rw [hσi, gA_sI, gA_sI, gA_sA, if_pos rfl, hτi, gA_sA, if_pos rfl, r2 k hk]
        unfold fillF
        rw [if_pos (by omega)]
      · rw [hσi]; exact SqE_sI hl (SqE_sI hl (SqE_sA (Sq.rf σ) (Or.inl rfl) _) _ _) _ _
      · rw [hτi]; exact ((SL.sI 39 _ (by omega)).trans (SL.sI 40 _ (by omega))).trans (SL.sA 21 _ (Or.inr rfl))
    obtain ⟨σ1, τ1, s', d', a1, a2, a3, a4⟩ := L_run hl 300 0 B sd 0 σi τi FU 0 FU (by omega) hi (by omega) (fun hL e => by have := (VD_end l5 hL e).1; omega) (fun k _ _ hk => by omega) (by unfold FU; omega) (by unfold FU; omega) (by omega) (by omega)
    refine ⟨σ1, τ1, L, D, s', d', ?_, ?_, a3, a4⟩
    · simp (disch := omega) only [↓mI_e, lit, ofN, bsm, nI_add, pk_mul, pk_sub, nI_e, nI_leE, nI_ltE, nI_mI, mI_nI, mI_lt, nlt_mI, mI_le, nle_mI, nI_addm, sh_b, bI_0, bI_1, bI_bI, ckZ_b, ckZ_n0, ckZ_n1, stIe, stJe, stZ_n0, stZ_n1, rm_nI, dv_nI, if_true, if_false, if_pos, if_neg, rf0, rf1, rf5, rf6, rf7, rf8, rf9, rf20, rf23, rf24, rf25, rf26, rf29, rf31, rf33, rf34, rf35, rf37, rf38, rf41, rf42, rf43,  f_X4_run, lf_0 hl, fl, w_1 hw]
      rw [← hσi]
      exact a1
    · simp (disch := omega) only [↓mI_e, lit, ofN, bsm, nI_add, pk_mul, pk_sub, nI_e, nI_leE, nI_ltE, nI_mI, mI_nI, mI_lt, nlt_mI, mI_le, nle_mI, nI_addm, sh_b, bI_0, bI_1, bI_bI, ckZ_b, ckZ_n0, ckZ_n1, stIe, stJe, stZ_n0, stZ_n1, rm_nI, dv_nI, if_true, if_false, if_pos, if_neg, rf0, rf1, rf5, rf6, rf7, rf8, rf9, rf20, rf23, rf24, rf25, rf26, rf29, rf31, rf33, rf34, rf35, rf37, rf38, rf41, rf42, rf43,  f_X12_lives]
      rw [r1, ← hτi]
      exact a2
