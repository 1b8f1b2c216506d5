/-! AGREED, whole -/
theorem ag_loop {B : Nat} (hB : B + 300699 < 2 ^ 31) {f : Nat → Int32} (h7 : f 7 ≠ mI) {σ0 τ0 : ST} {sd m : Nat} (hsd : sd + m ≤ 10000) (hm : m ≤ 20) (was : Int32) : ∀ (n n' j c : Nat) (σ τ : ST), j ≤ m → m - j < n → m - j < n' → c ≤ j → AG B f σ0 τ0 σ τ → ∃ c' σ1 τ1, c' ≤ m ∧ k_X11_agreed_57 n 0 (nI sd) (nI m) (nI c) (nI j) σ = (f_X11_setFraction 0 (nI c') (nI m) σ1).bind (fun u2 => (f_X11_allowed 0 u2).bind fun u3 => (ckZ u3.1).bind fun z => some (z, u3.2)) ∧ k_X12_agreed_105 n' 0 (nI sd) (nI m) was (nI c) (nI j) τ = (f_X12_tellsBy 0 (lN c') (lN m) (sI τ1 0 28 was)).bind (fun u6 => (ckZ u6.1).bind fun z => some (z, u6.2)) ∧ AG B f σ0 τ0 σ1 τ1 := by
  have n10 : (nI 1 = nI 0) = False := eq_false (by decide)
  obtain ⟨F, hF, hF2⟩ : ∃ F, FU = F ∧ 5000 < F := ⟨FU, rfl, by unfold FU; omega⟩
  intro n
  induction n with
  | zero => intros; omega
  | succ n ih =>
    intro n' j c σ τ hj hn hn' hc h
    obtain ⟨n1, rfl⟩ : ∃ n1, n' = n1 + 1 := ⟨n' - 1, by omega⟩
    rw [k_X11_agreed_57, k_X12_agreed_105]
    by_cases cj : m ≤ j
    · refine ⟨c, σ, τ, by omega, ?_, ?_, h⟩
      · rw [if_pos (show nI m ≤ nI j by rw [nI_leE (by omega) (by omega)]; exact cj)]
      · rw [if_pos (show nI m ≤ nI j by rw [nI_leE (by omega) (by omega)]; exact cj), stIe, bsm, nI_l (by omega), nI_l (by omega)]
    · obtain ⟨σa, σ1, τ1, g9, b, p, a1, a2, a3, a4, a5, ⟨a6, a7⟩, a8⟩ := ag_one hB h h7 (sd := sd + j) (by omega)
      have e4 : gA (sA τ1 9 g9) 1 4 = nI (YN (gA τ1 1)) := a6
      have h149 := fun v4 => r_ag_149 (gA τ1 1) (k_X12_agreed_105 n1) (nI sd) (nI m) was v4 j FU 0 (sA τ1 9 g9) (by omega) (by unfold FU; omega) (by
        rw [gA_sA, if_neg (by decide)]
        funext i
        rw [if_neg (by omega)])
      rw [hF] at h149
      have cj' : ¬ nI m ≤ nI j := by rw [nI_leE (by omega) (by omega)]; exact cj
      cases b
      · have a7' : ¬ (p = (nI 1 <<< (nI (YN (gA τ1 1)) &&& nI 31)) - nI 1) := by rw [a7]; decide
        obtain ⟨c', σ2, τ2, q1, q2, q3, q4⟩ := ih n1 (j + 1) c σ1 _ (by omega) (by omega) (by omega) (by omega) a8
        refine ⟨c', σ2, τ2, q1, ?_, ?_, q4⟩
        · rw [← q2]
          simp (disch := omega) only [↓mI_e, lit, ofN, bsm, nI_add, pk_mul, pk_sub, nI_e, nI_leE, nI_ltE, nI_mI, mI_nI, mI_lt, nlt_mI, mI_le, nle_mI, nI_addm, sh_b, bI_0, bI_1, bI_bI, ckZ_b, ckZ_n0, ckZ_n1, stIe, stJe, stZ_n0, stZ_n1, rm_nI, dv_nI, if_true, if_false, if_pos, if_neg, rf0, rf1, rf5, rf6, rf7, rf8, rf9, rf20, rf23, rf24, rf25, rf26, rf29, rf31, rf33, rf34, rf35, rf37, rf38, rf41, rf42, rf43,  cj, c06, c02, a1, show LC.2.1 0 8 = 81 from rfl, show LC.2.1 0 11 = 97 from rfl, a2, a3, bI_f, k_X11_agreed_106]
        · rw [← q3, ← h149]
          simp (disch := omega) only [↓mI_e, lit, ofN, bsm, nI_add, pk_mul, pk_sub, nI_e, nI_leE, nI_ltE, nI_mI, mI_nI, mI_lt, nlt_mI, mI_le, nle_mI, nI_addm, sh_b, bI_0, bI_1, bI_bI, ckZ_b, ckZ_n0, ckZ_n1, stIe, stJe, stZ_n0, stZ_n1, rm_nI, dv_nI, if_true, if_false, if_pos, if_neg, rf0, rf1, rf5, rf6, rf7, rf8, rf9, rf20, rf23, rf24, rf25, rf26, rf29, rf31, rf33, rf34, rf35, rf37, rf38, rf41, rf42, rf43,  cj, a4, a5, lr1, e4, a7', k_X12_agreed_143, hF, Nat.add_zero]
      · have a7' : p = (nI 1 <<< (nI (YN (gA τ1 1)) &&& nI 31)) - nI 1 := by rw [a7]
        obtain ⟨c', σ2, τ2, q1, q2, q3, q4⟩ := ih n1 (j + 1) (c + 1) σ1 _ (by omega) (by omega) (by omega) (by omega) a8
        refine ⟨c', σ2, τ2, q1, ?_, ?_, q4⟩
        · rw [← q2]
          simp (disch := omega) only [↓mI_e, lit, ofN, bsm, nI_add, pk_mul, pk_sub, nI_e, nI_leE, nI_ltE, nI_mI, mI_nI, mI_lt, nlt_mI, mI_le, nle_mI, nI_addm, sh_b, bI_0, bI_1, bI_bI, ckZ_b, ckZ_n0, ckZ_n1, stIe, stJe, stZ_n0, stZ_n1, rm_nI, dv_nI, if_true, if_false, if_pos, if_neg, rf0, rf1, rf5, rf6, rf7, rf8, rf9, rf20, rf23, rf24, rf25, rf26, rf29, rf31, rf33, rf34, rf35, rf37, rf38, rf41, rf42, rf43,  cj, c06, c02, a1, show LC.2.1 0 8 = 81 from rfl, show LC.2.1 0 11 = 97 from rfl, a2, a3, bI_t, n10, k_X11_agreed_106]
        · rw [← q3, ← h149]
          have a7t : (p = (nI 1 <<< (nI (YN (gA τ1 1)) &&& nI 31)) - nI 1) = True := eq_true a7'
          simp (disch := omega) only [↓mI_e, lit, ofN, bsm, nI_add, pk_mul, pk_sub, nI_e, nI_leE, nI_ltE, nI_mI, mI_nI, mI_lt, nlt_mI, mI_le, nle_mI, nI_addm, sh_b, bI_0, bI_1, bI_bI, ckZ_b, ckZ_n0, ckZ_n1, stIe, stJe, stZ_n0, stZ_n1, rm_nI, dv_nI, if_true, if_false, if_pos, if_neg, rf0, rf1, rf5, rf6, rf7, rf8, rf9, rf20, rf23, rf24, rf25, rf26, rf29, rf31, rf33, rf34, rf35, rf37, rf38, rf41, rf42, rf43,  cj, a4, a5, lr1, e4, a7t, k_X12_agreed_143, hF]
theorem ea_out : ∀ x, x < 194 → (2 ≤ x ∧ x ≤ 3) ∨ (78 ≤ x ∧ x ≤ 79) ∨ 100 = x ∨ 102 ≤ x → scC x = false ∧ EA x = false := by decide +kernel
theorem sim_agreed (i : Nat) (hi : i + 6 ≤ 3072) : SIM_agreed (Rel i) (Rel (i + 6)) := by
  intro a0 a1 σ τ h
  have hW := h.2.2.2.2.1
  have hw := wM_w
  have n10 : (nI 1 = nI 0) = False := eq_false (by decide)
  have n60 : (nI 6 = nI 0) = False := eq_false (by decide)
  show Sm i _ _
  have bad : f_X11_agreed 0 a0 a1 σ = k_X11_agreed_26 0 σ → f_X12_agreed 0 a0 a1 τ = k_X12_agreed_35 0 τ → Sm i (f_X11_agreed 0 a0 a1 σ) (f_X12_agreed 0 a0 a1 τ) := fun e1 e2 => by
    rw [e1, e2]
    simp (disch := omega) only [↓mI_e, lit, ofN, bsm, nI_add, pk_mul, pk_sub, nI_e, nI_leE, nI_ltE, nI_mI, mI_nI, mI_lt, nlt_mI, mI_le, nle_mI, nI_addm, sh_b, bI_0, bI_1, bI_bI, ckZ_b, ckZ_n0, ckZ_n1, stIe, stJe, stZ_n0, stZ_n1, rm_nI, dv_nI, if_true, if_false, if_pos, if_neg, rf0, rf1, rf5, rf6, rf7, rf8, rf9, rf20, rf23, rf24, rf25, rf26, rf29, rf31, rf33, rf34, rf35, rf37, rf38, rf41, rf42, rf43,  k_X11_agreed_26, k_X12_agreed_35, c_refused, r_is, n10]
    exact Sm_0 h _ _
  rcases num_cases a1 1 20 (by omega) (by omega) with hb | ⟨m, hm1, hm, rfl⟩
  · -- so many seeds can't be
    refine bad ?_ ?_
    · by_cases z0 : a0 < nI 0
      · simp (disch := omega) only [↓mI_e, lit, ofN, bsm, nI_add, pk_mul, pk_sub, nI_e, nI_leE, nI_ltE, nI_mI, mI_nI, mI_lt, nlt_mI, mI_le, nle_mI, nI_addm, sh_b, bI_0, bI_1, bI_bI, ckZ_b, ckZ_n0, ckZ_n1, stIe, stJe, stZ_n0, stZ_n1, rm_nI, dv_nI, if_true, if_false, if_pos, if_neg, rf0, rf1, rf5, rf6, rf7, rf8, rf9, rf20, rf23, rf24, rf25, rf26, rf29, rf31, rf33, rf34, rf35, rf37, rf38, rf41, rf42, rf43,  f_X11_agreed, z0]
      · rcases hb with hb | hb
        · have z1 : a1 < nI 1 := by rw [Int32.lt_iff_toInt_lt, nI_toInt (by omega)]; exact hb
          simp (disch := omega) only [↓mI_e, lit, ofN, bsm, nI_add, pk_mul, pk_sub, nI_e, nI_leE, nI_ltE, nI_mI, mI_nI, mI_lt, nlt_mI, mI_le, nle_mI, nI_addm, sh_b, bI_0, bI_1, bI_bI, ckZ_b, ckZ_n0, ckZ_n1, stIe, stJe, stZ_n0, stZ_n1, rm_nI, dv_nI, if_true, if_false, if_pos, if_neg, rf0, rf1, rf5, rf6, rf7, rf8, rf9, rf20, rf23, rf24, rf25, rf26, rf29, rf31, rf33, rf34, rf35, rf37, rf38, rf41, rf42, rf43,  f_X11_agreed, z0, z1]
        · have z1 : ¬ a1 < nI 1 := by rw [Int32.lt_iff_toInt_lt, nI_toInt (by omega)]; omega
          have z2 : nI 20 < a1 := by rw [Int32.lt_iff_toInt_lt, nI_toInt (by omega)]; exact hb
          simp (disch := omega) only [↓mI_e, lit, ofN, bsm, nI_add, pk_mul, pk_sub, nI_e, nI_leE, nI_ltE, nI_mI, mI_nI, mI_lt, nlt_mI, mI_le, nle_mI, nI_addm, sh_b, bI_0, bI_1, bI_bI, ckZ_b, ckZ_n0, ckZ_n1, stIe, stJe, stZ_n0, stZ_n1, rm_nI, dv_nI, if_true, if_false, if_pos, if_neg, rf0, rf1, rf5, rf6, rf7, rf8, rf9, rf20, rf23, rf24, rf25, rf26, rf29, rf31, rf33, rf34, rf35, rf37, rf38, rf41, rf42, rf43,  f_X11_agreed, z0, z1, z2]
    · have hf := r_isFrom_n (v := a1) (a := 1) (b := 20) (by omega) (by omega) hb τ
      rcases num_cases a0 0 9999 (by omega) (by omega) with hb0 | ⟨sd, _, hsd, rfl⟩
      · have hf0 := r_isFrom_n (v := a0) (a := 0) (b := 9999) (by omega) (by omega) hb0 τ
        simp (disch := omega) only [↓mI_e, lit, ofN, bsm, nI_add, pk_mul, pk_sub, nI_e, nI_leE, nI_ltE, nI_mI, mI_nI, mI_lt, nlt_mI, mI_le, nle_mI, nI_addm, sh_b, bI_0, bI_1, bI_bI, ckZ_b, ckZ_n0, ckZ_n1, stIe, stJe, stZ_n0, stZ_n1, rm_nI, dv_nI, if_true, if_false, if_pos, if_neg, rf0, rf1, rf5, rf6, rf7, rf8, rf9, rf20, rf23, rf24, rf25, rf26, rf29, rf31, rf33, rf34, rf35, rf37, rf38, rf41, rf42, rf43,  f_X12_agreed, litL, hf0]
      · have hf0 := r_isFrom_y (k := sd) (a := 0) (b := 9999) (by omega) (by omega) (by omega) τ
        simp (disch := omega) only [↓mI_e, lit, ofN, bsm, nI_add, pk_mul, pk_sub, nI_e, nI_leE, nI_ltE, nI_mI, mI_nI, mI_lt, nlt_mI, mI_le, nle_mI, nI_addm, sh_b, bI_0, bI_1, bI_bI, ckZ_b, ckZ_n0, ckZ_n1, stIe, stJe, stZ_n0, stZ_n1, rm_nI, dv_nI, if_true, if_false, if_pos, if_neg, rf0, rf1, rf5, rf6, rf7, rf8, rf9, rf20, rf23, rf24, rf25, rf26, rf29, rf31, rf33, rf34, rf35, rf37, rf38, rf41, rf42, rf43,  f_X12_agreed, litL, hf0, n10, hf]
  · have hfm := r_isFrom_y (k := m) (a := 1) (b := 20) (by omega) (by omega) (by omega) τ
    rcases num_cases a0 0 9999 (by omega) (by omega) with hb0 | ⟨sd, _, hsd, rfl⟩
    · have hf0 := r_isFrom_n (v := a0) (a := 0) (b := 9999) (by omega) (by omega) hb0 τ
      refine bad ?_ ?_
      · by_cases z0 : a0 < nI 0
        · simp (disch := omega) only [↓mI_e, lit, ofN, bsm, nI_add, pk_mul, pk_sub, nI_e, nI_leE, nI_ltE, nI_mI, mI_nI, mI_lt, nlt_mI, mI_le, nle_mI, nI_addm, sh_b, bI_0, bI_1, bI_bI, ckZ_b, ckZ_n0, ckZ_n1, stIe, stJe, stZ_n0, stZ_n1, rm_nI, dv_nI, if_true, if_false, if_pos, if_neg, rf0, rf1, rf5, rf6, rf7, rf8, rf9, rf20, rf23, rf24, rf25, rf26, rf29, rf31, rf33, rf34, rf35, rf37, rf38, rf41, rf42, rf43,  f_X11_agreed, z0]
        · have z3 : ¬ a0 ≤ nI (9999 - m + 1) := fun q => by
            rw [Int32.le_iff_toInt_le, nI_toInt (by omega)] at q
            rw [Int32.lt_iff_toInt_lt] at z0
            have e0 : (nI 0).toInt = 0 := rfl
            omega
          simp (disch := omega) only [↓mI_e, lit, ofN, bsm, nI_add, pk_mul, pk_sub, nI_e, nI_leE, nI_ltE, nI_mI, mI_nI, mI_lt, nlt_mI, mI_le, nle_mI, nI_addm, sh_b, bI_0, bI_1, bI_bI, ckZ_b, ckZ_n0, ckZ_n1, stIe, stJe, stZ_n0, stZ_n1, rm_nI, dv_nI, if_true, if_false, if_pos, if_neg, rf0, rf1, rf5, rf6, rf7, rf8, rf9, rf20, rf23, rf24, rf25, rf26, rf29, rf31, rf33, rf34, rf35, rf37, rf38, rf41, rf42, rf43,  f_X11_agreed, z0, z3]
      · simp (disch := omega) only [↓mI_e, lit, ofN, bsm, nI_add, pk_mul, pk_sub, nI_e, nI_leE, nI_ltE, nI_mI, mI_nI, mI_lt, nlt_mI, mI_le, nle_mI, nI_addm, sh_b, bI_0, bI_1, bI_bI, ckZ_b, ckZ_n0, ckZ_n1, stIe, stJe, stZ_n0, stZ_n1, rm_nI, dv_nI, if_true, if_false, if_pos, if_neg, rf0, rf1, rf5, rf6, rf7, rf8, rf9, rf20, rf23, rf24, rf25, rf26, rf29, rf31, rf33, rf34, rf35, rf37, rf38, rf41, rf42, rf43,  f_X12_agreed, litL, hf0]
    · have hf0 := r_isFrom_y (k := sd) (a := 0) (b := 9999) (by omega) (by omega) (by omega) τ
      by_cases hz : sd + m ≤ 10000
      · have z1 : sd ≤ 9999 - m + 1 := by omega
        have z2 : sd + m - 1 ≤ 9999 := by omega
        by_cases h7 : gA τ 1 7 = mI
        · have h6 : gI σ (wM + 8) 6 = nI 0 := by
            obtain ⟨_, _, _, _, _, _, _, hD, _⟩ := id hW
            rcases hD with ⟨_, z, _⟩ | ⟨L, D, l1, l2, _⟩
            · exact z
            · rw [l2] at h7
              have := nI_mI (a := L) (by omega)
              rw [h7] at this
              exact absurd rfl (of_eq_false this)
          have mm : (mI = mI) = True := eq_true rfl
          simp (disch := omega) only [↓mI_e, lit, ofN, bsm, nI_add, pk_mul, pk_sub, nI_e, nI_leE, nI_ltE, nI_mI, mI_nI, mI_lt, nlt_mI, mI_le, nle_mI, nI_addm, sh_b, bI_0, bI_1, bI_bI, ckZ_b, ckZ_n0, ckZ_n1, stIe, stJe, stZ_n0, stZ_n1, rm_nI, dv_nI, if_true, if_false, if_pos, if_neg, rf0, rf1, rf5, rf6, rf7, rf8, rf9, rf20, rf23, rf24, rf25, rf26, rf29, rf31, rf33, rf34, rf35, rf37, rf38, rf41, rf42, rf43,  f_X11_agreed, f_X12_agreed, litL, hf0, hfm, n10, z1, z2, c02, w_1 hw, h6, lr1, h7, mm, c_refused, r_is, n60]
          exact Sm_0 h _ _
        · have h6 : gI σ (wM + 8) 6 = nI 1 := by
            obtain ⟨_, _, _, _, _, _, _, hD, _⟩ := id hW
            rcases hD with ⟨z, _⟩ | ⟨L, D, _, _, l3, _⟩
            · exact absurd z h7
            · exact l3
          have h7' : (gA τ 1 7 = mI) = False := eq_false h7
          have h67 := r_ag_67 (gA τ 1) (nI sd) (nI m) (gI τ 0 28) FU 0 τ (by omega) (by unfold FU; omega) (by funext j; rw [if_neg (by omega)])
          have hag : AG (50000 * i) (gA τ 1) σ τ σ (sA τ 1 (fun i => if 24250 ≤ i ∧ i < 24250 + 4480 then gA τ 1 (i - 24250) else gA τ 1 i)) := by
            refine ⟨Sq.rf σ, fun k hk => ?_, ?_, SLa.s1 _ (fun k q1 q2 => by rw [if_neg (by omega)])⟩
            · rw [gA_sA, if_pos rfl, if_neg (by omega), if_pos (by omega)]
              exact ⟨rfl, congrArg (gA τ 1) (by omega)⟩
            · rw [gA_sA, if_pos rfl]
              exact RelW_congr (fun k hk => by rw [if_neg (by omega)]) (fun _ _ => rfl) hW
          obtain ⟨c', σ1, τ1, q1, q2, q3, q4, q5, q6, q7⟩ := ag_loop (B := 50000 * i) (by omega) h7 hz hm (gI τ 0 28) FU FU 0 0 σ _ (by omega) (by unfold FU; omega) (by unfold FU; omega) (by omega) hag
          obtain ⟨σ2, k1, k2, k3, k4⟩ := c_frac q1 hm1 hm σ1
          have k5 := r_tells q1 hm1 hm (sI τ1 0 28 (gI τ 0 28))
          generalize c' / Nat.gcd c' m = tp at k2 k5
          generalize m / Nat.gcd c' m = bo at k3 k5
          have ec : f_X11_agreed 0 (nI sd) (nI m) σ = some (nI 1, sI σ2 0 14 (nI 0)) := by
            have e1 : f_X11_agreed 0 (nI sd) (nI m) σ = k_X11_agreed_57 FU 0 (nI sd) (nI m) (nI 0) (nI 0) σ := by
              simp (disch := omega) only [↓mI_e, lit, ofN, bsm, nI_add, pk_mul, pk_sub, nI_e, nI_leE, nI_ltE, nI_mI, mI_nI, mI_lt, nlt_mI, mI_le, nle_mI, nI_addm, sh_b, bI_0, bI_1, bI_bI, ckZ_b, ckZ_n0, ckZ_n1, stIe, stJe, stZ_n0, stZ_n1, rm_nI, dv_nI, if_true, if_false, if_pos, if_neg, rf0, rf1, rf5, rf6, rf7, rf8, rf9, rf20, rf23, rf24, rf25, rf26, rf29, rf31, rf33, rf34, rf35, rf37, rf38, rf41, rf42, rf43,  f_X11_agreed, z1, c02, w_1 hw, h6, n10]
            rw [e1, q2, k1]
            simp (disch := omega) only [↓mI_e, lit, ofN, bsm, nI_add, pk_mul, pk_sub, nI_e, nI_leE, nI_ltE, nI_mI, mI_nI, mI_lt, nlt_mI, mI_le, nle_mI, nI_addm, sh_b, bI_0, bI_1, bI_bI, ckZ_b, ckZ_n0, ckZ_n1, stIe, stJe, stZ_n0, stZ_n1, rm_nI, dv_nI, if_true, if_false, if_pos, if_neg, rf0, rf1, rf5, rf6, rf7, rf8, rf9, rf20, rf23, rf24, rf25, rf26, rf29, rf31, rf33, rf34, rf35, rf37, rf38, rf41, rf42, rf43,  c_allowed]
          have er : f_X12_agreed 0 (nI sd) (nI m) τ = some (nI 1, sI (sJ (sJ (sI τ1 0 28 (gI τ 0 28)) 0 3 (lN tp)) 0 4 (lN bo)) 0 2 (nI 0)) := by
            have e1 : f_X12_agreed 0 (nI sd) (nI m) τ = k_X12_agreed_67 FU 0 (nI sd) (nI m) (gI τ 0 28) (nI 0) τ := by
              simp (disch := omega) only [↓mI_e, lit, ofN, bsm, nI_add, pk_mul, pk_sub, nI_e, nI_leE, nI_ltE, nI_mI, mI_nI, mI_lt, nlt_mI, mI_le, nle_mI, nI_addm, sh_b, bI_0, bI_1, bI_bI, ckZ_b, ckZ_n0, ckZ_n1, stIe, stJe, stZ_n0, stZ_n1, rm_nI, dv_nI, if_true, if_false, if_pos, if_neg, rf0, rf1, rf5, rf6, rf7, rf8, rf9, rf20, rf23, rf24, rf25, rf26, rf29, rf31, rf33, rf34, rf35, rf37, rf38, rf41, rf42, rf43,  f_X12_agreed, litL, hf0, hfm, n10, z2, lr1, h7']
            rw [e1, h67, q3, k5]
            rfl
          rw [ec, er]
          refine ⟨_, _, _, rfl, rfl, ?_⟩
          obtain ⟨r1, r2, r3, r4, r5, r6⟩ := h
          have q4' : Sq EA [15, 16] σ σ2 := (q4.mono (fun k hk => by simp)).trans ⟨k4.1, k4.2.1, fun x x1 x2 x3 => k4.2.2 x x1 x2 rfl⟩
          have cI : ∀ x, x < 194 → (2 ≤ x ∧ x ≤ 3) ∨ (78 ≤ x ∧ x ≤ 79) ∨ 100 = x ∨ 102 ≤ x → (∀ k, gI (sI σ2 0 14 (nI 0)) x k = gI σ x k) ∧ (∀ k, gJ (sI σ2 0 14 (nI 0)) x k = gJ σ x k) ∧ gA (sI σ2 0 14 (nI 0)) x = gA σ x ∧ gB (sI σ2 0 14 (nI 0)) x = gB σ x := fun x hx hx2 => by
            obtain ⟨z1, z2⟩ := ea_out x hx hx2
            have z3 := q4'.2.2 x (by omega) z1 z2
            exact ⟨fun k => by rw [gI_sI, if_neg (by omega)]; exact z3.1 k, z3.2.1, z3.2.2.1, z3.2.2.2⟩
          obtain ⟨τ2, hτ2⟩ : ∃ τ2, τ2 = sI (sJ (sJ (sI τ1 0 28 (gI τ 0 28)) 0 3 (lN tp)) 0 4 (lN bo)) 0 2 (nI 0) := ⟨_, rfl⟩
          rw [← hτ2]
          have tI : ∀ k, scI k = false → [28, 39, 40].contains k = false → k ≠ 2 → gI τ2 0 k = gI τ 0 k := fun k z1 z2 z4 => by
            rw [hτ2, gI_sI, if_neg (fun z => z4 z.2), gI_sJ, gI_sJ, gI_sI, if_neg]
            · exact q7.1 k z1 z2
            · intro z; rw [z.2] at z2; exact absurd z2 (by decide)
          have tA : ∀ x, scA x = false → x ≠ 1 → x ≠ 20 → x ≠ 21 → gA τ2 x = gA τ x := fun x z1 z2 z3 z4 => by
            rw [hτ2, gA_sI, gA_sJ, gA_sJ, gA_sI]; exact q7.2.2.1 x z1 z2 z3 z4
          have tB : ∀ x, gB τ2 x = gB τ x := fun x => by rw [hτ2]; exact q7.2.2.2.1 x
          have t1 : gA τ2 1 = gA τ1 1 := by rw [hτ2]; rfl
          have hwv : wv (sI σ2 0 14 (nI 0)) wM = wv σ wM := by
            rw [wv_sI_out _ (by unfold wM; omega), wv_Sq k4]
            exact wM_EA q4
          refine ⟨⟨?_, ?_, ?_⟩, R2_c r2 (fun x k z1 z2 => (cI x (by omega) (by omega)).1 k) (fun x z1 z2 => (cI x (by omega) (by omega)).2.2.2) (tA 3 rfl (by decide) (by decide) (by decide)) (tA 4 rfl (by decide) (by decide) (by decide)) (tB 5), R3_c r3 (fun k => (cI 2 (by decide) (by omega)).1 k) (cI 3 (by decide) (by omega)).2.2.1 (tI 10 rfl rfl (by decide)) (tI 16 rfl rfl (by decide)) (tI 17 rfl rfl (by decide)) (tA 6 rfl (by decide) (by decide) (by decide)), R4_c r4 ?_ ?_ ((cI 78 (by decide) (by omega)).1 1) (cI 100 (by decide) (by omega)).2.2.1 (cI 79 (by decide) (by omega)).2.2.1 (tI 32 rfl rfl (by decide)) ?_ (tI 44 rfl rfl (by decide)) (tA 14 rfl (by decide) (by decide) (by decide)) (tA 22 rfl (by decide) (by decide) (by decide)), ?_, RM_c r6 (by omega) ?_ (tI 46 rfl rfl (by decide)) (fun x z1 z2 => cI x z2 (by omega)) (fun k z1 z2 => by rw [t1]; exact q7.2.2.2.2 k z1 z2) (tB 2)⟩
          · rw [hτ2, gI_sI, if_pos ⟨rfl, rfl⟩, gI_sI, if_pos ⟨rfl, rfl⟩]
          · rw [hτ2, gJ_sI, gJ_sI, gJ_sJ, if_neg (by decide), gJ_sJ, if_pos ⟨rfl, rfl⟩]; exact k2
          · rw [hτ2, gJ_sI, gJ_sI, gJ_sJ, if_pos ⟨rfl, rfl⟩]; exact k3
          · rw [gI_sI, if_neg (by decide), q4'.1 18 rfl]
          · rw [gI_sI, if_neg (by decide), q4'.1 19 rfl]
          · rw [hτ2, gI_sI, if_neg (by decide), gI_sJ, gI_sJ, gI_sI, if_pos ⟨rfl, rfl⟩]
          · rw [hwv, t1, tB 2]
            exact RelW_mono (by omega) q6
          · rw [gI_sI, if_neg (by decide), q4'.1 17 rfl]
      · have z1 : ¬ sd ≤ 9999 - m + 1 := by omega
        have z2 : ¬ sd + m - 1 ≤ 9999 := by omega
        refine bad ?_ ?_
        · simp (disch := omega) only [↓mI_e, lit, ofN, bsm, nI_add, pk_mul, pk_sub, nI_e, nI_leE, nI_ltE, nI_mI, mI_nI, mI_lt, nlt_mI, mI_le, nle_mI, nI_addm, sh_b, bI_0, bI_1, bI_bI, ckZ_b, ckZ_n0, ckZ_n1, stIe, stJe, stZ_n0, stZ_n1, rm_nI, dv_nI, if_true, if_false, if_pos, if_neg, rf0, rf1, rf5, rf6, rf7, rf8, rf9, rf20, rf23, rf24, rf25, rf26, rf29, rf31, rf33, rf34, rf35, rf37, rf38, rf41, rf42, rf43,  f_X11_agreed, z1]
        · simp (disch := omega) only [↓mI_e, lit, ofN, bsm, nI_add, pk_mul, pk_sub, nI_e, nI_leE, nI_ltE, nI_mI, mI_nI, mI_lt, nlt_mI, mI_le, nle_mI, nI_addm, sh_b, bI_0, bI_1, bI_bI, ckZ_b, ckZ_n0, ckZ_n1, stIe, stJe, stZ_n0, stZ_n1, rm_nI, dv_nI, if_true, if_false, if_pos, if_neg, rf0, rf1, rf5, rf6, rf7, rf8, rf9, rf20, rf23, rf24, rf25, rf26, rf29, rf31, rf33, rf34, rf35, rf37, rf38, rf41, rf42, rf43,  f_X12_agreed, litL, hf0, hfm, n10, z2]
