/-! TWIN, POUR AND FEED -/
theorem nn_of {v : Int32} (h : ¬ v < nI 0) : ∃ m, m < 2 ^ 31 ∧ v = nI m := by
  rcases num_cases v 0 (2 ^ 31 - 1) (by decide) (by decide) with q | ⟨k, _, q2, q3⟩
  · rcases q with q | q
    · exact absurd (by rw [Int32.lt_iff_toInt_lt]; have : (nI 0).toInt = 0 := rfl; omega) h
    · have := Int32.toInt_lt v
      exfalso
      omega
  · exact ⟨k, by omega, q3⟩
theorem c_dotAt_loop {c L i : Nat} (hc : isC c L) (hi : i * 6 + 6 ≤ L) {σ : ST} {b : Nat → Int32} (hb : ∀ k, k < 6 → gA σ (c + 1) (i * 6 + k) = b k) {M : Nat} (hM : M < 2 ^ 31) : ∀ (n d : Nat), d ≤ 180 → 180 - d < n → cnt (std b) d ≤ M → ∃ r, k_X0_dotAt_5 n c (nI i) (nI (M - cnt (std b) d)) (nI d) σ = some (r, σ) ∧ ((∃ e, e < 180 ∧ std b e = true ∧ cnt (std b) e = M ∧ r = nI e) ∨ (cnt (std b) 180 ≤ M ∧ r = mI)) := by
  have hL := hc.2.2.2.2
  intro n
  induction n with
  | zero => intros; omega
  | succ n ih =>
    intro d hd hn hM2
    rw [k_X0_dotAt_5]
    by_cases e : d = 180
    · subst e
      exact ⟨mI, by simp (disch := omega) only [↓mI_e, lit, ofN, bsm, nI_add, pk_mul, pk_sub, nI_e, nI_leE, nI_ltE, nI_mI, mI_nI, mI_lt, nlt_mI, mI_le, nle_mI, nI_addm, sh_b, bI_0, bI_1, bI_bI, ckZ_b, ckZ_n0, ckZ_n1, stIe, stJe, stZ_n0, stZ_n1, rm_nI, dv_nI, if_true, if_false, if_pos, if_neg, rf0, rf1, rf5, rf6, rf7, rf8, rf9, rf20, rf23, rf24, rf25, rf26, rf29, rf31, rf33, rf34, rf35, rf37, rf38, rf41, rf42, rf43,  f_X0_dotAt, k_X0_dotAt_48, k_X0_dotAt_54], Or.inr ⟨hM2, rfl⟩⟩
    · have hs : cnt (std b) (d + 1) = cnt (std b) d + (if std b d then 1 else 0) := rfl
      have hbit : gA σ (c + 1) (i * 6 + d / 30) = b (d / 30) := hb _ (by omega)
      cases hpd : std b d
      · have hp : bt (b (d / 30)) (d % 30) = false := hpd
        rw [hpd] at hs
        obtain ⟨r, q1, q2⟩ := ih (d + 1) (by omega) (by omega) (by rw [hs]; exact hM2)
        rw [hs] at q1
        refine ⟨r, ?_, q2⟩
        simp (disch := omega) only [↓mI_e, lit, ofN, bsm, nI_add, pk_mul, pk_sub, nI_e, nI_leE, nI_ltE, nI_mI, mI_nI, mI_lt, nlt_mI, mI_le, nle_mI, nI_addm, sh_b, bI_0, bI_1, bI_bI, ckZ_b, ckZ_n0, ckZ_n1, stIe, stJe, stZ_n0, stZ_n1, rm_nI, dv_nI, if_true, if_false, if_pos, if_neg, rf0, rf1, rf5, rf6, rf7, rf8, rf9, rf20, rf23, rf24, rf25, rf26, rf29, rf31, rf33, rf34, rf35, rf37, rf38, rf41, rf42, rf43,  k_X0_dotAt_54, k_X0_dotAt_48, f_X0_bitsOf, hc.1, lc1 hc, hbit, hp]
        exact q1
      · have hp : bt (b (d / 30)) (d % 30) = true := hpd
        rw [hpd] at hs
        by_cases z : M - cnt (std b) d = 0
        · refine ⟨nI d, ?_, Or.inl ⟨d, by omega, hpd, by omega, rfl⟩⟩
          simp (disch := omega) only [↓mI_e, lit, ofN, bsm, nI_add, pk_mul, pk_sub, nI_e, nI_leE, nI_ltE, nI_mI, mI_nI, mI_lt, nlt_mI, mI_le, nle_mI, nI_addm, sh_b, bI_0, bI_1, bI_bI, ckZ_b, ckZ_n0, ckZ_n1, stIe, stJe, stZ_n0, stZ_n1, rm_nI, dv_nI, if_true, if_false, if_pos, if_neg, rf0, rf1, rf5, rf6, rf7, rf8, rf9, rf20, rf23, rf24, rf25, rf26, rf29, rf31, rf33, rf34, rf35, rf37, rf38, rf41, rf42, rf43,  k_X0_dotAt_54, k_X0_dotAt_48, f_X0_bitsOf, hc.1, lc1 hc, hbit, hp, Bool.true_eq_false]
        · have hs : cnt (std b) (d + 1) = cnt (std b) d + 1 := hs
          obtain ⟨r, q1, q2⟩ := ih (d + 1) (by omega) (by omega) (by omega)
          rw [show M - cnt (std b) (d + 1) = M - cnt (std b) d - 1 by omega] at q1
          refine ⟨r, ?_, q2⟩
          simp (disch := omega) only [↓mI_e, lit, ofN, bsm, nI_add, pk_mul, pk_sub, nI_e, nI_leE, nI_ltE, nI_mI, mI_nI, mI_lt, nlt_mI, mI_le, nle_mI, nI_addm, sh_b, bI_0, bI_1, bI_bI, ckZ_b, ckZ_n0, ckZ_n1, stIe, stJe, stZ_n0, stZ_n1, rm_nI, dv_nI, if_true, if_false, if_pos, if_neg, rf0, rf1, rf5, rf6, rf7, rf8, rf9, rf20, rf23, rf24, rf25, rf26, rf29, rf31, rf33, rf34, rf35, rf37, rf38, rf41, rf42, rf43,  k_X0_dotAt_54, k_X0_dotAt_48, f_X0_bitsOf, hc.1, lc1 hc, hbit, hp, Bool.true_eq_false]
          exact q1
theorem c_dotAt_m {c L i : Nat} {v : Int32} (h : v < nI 0) (σ : ST) : f_X0_dotAt c (nI i) v σ = some (mI, σ) := by
  obtain ⟨F, hF, hF2⟩ : ∃ F, FU = F ∧ 5000 < F := ⟨FU, rfl, by unfold FU; omega⟩
  obtain ⟨m, rfl⟩ : ∃ m, F = m + 1 := ⟨F - 1, by omega⟩
  rw [f_X0_dotAt, hF, k_X0_dotAt_5]
  have h2 : v < 0 := h
  simp (disch := omega) only [↓mI_e, lit, ofN, bsm, nI_add, pk_mul, pk_sub, nI_e, nI_leE, nI_ltE, nI_mI, mI_nI, mI_lt, nlt_mI, mI_le, nle_mI, nI_addm, sh_b, bI_0, bI_1, bI_bI, ckZ_b, ckZ_n0, ckZ_n1, stIe, stJe, stZ_n0, stZ_n1, rm_nI, dv_nI, if_true, if_false, if_pos, if_neg, rf0, rf1, rf5, rf6, rf7, rf8, rf9, rf20, rf23, rf24, rf25, rf26, rf29, rf31, rf33, rf34, rf35, rf37, rf38, rf41, rf42, rf43,  k_X0_dotAt_54, h]
/-- the dots of a have: the class's bits and the reference's -/
theorem have_dots {B : Nat} {σ : ST} {w : Nat} {g : Nat → Int64} {f : Nat → Int32} (h : RelW B (wv σ w) f g) {a y : Nat} (ha : a < 6) (hy : y < 6) : (∀ k, k < 6 → gA σ (w + 15 + 1) ((a * 6 + y) * 6 + k) = jbits (sm f y) (sh f (tb a y)) k) ∧ cnt (std (jbits (sm f y) (sh f (tb a y)))) 180 = twN (sm f y) (sh f (tb a y)) ∧ (sm f y = false → ∀ d, d < 180 → std (jbits (sm f y) (sh f (tb a y))) d = std (sh f (tb a y)) d) := by
  obtain ⟨h1, h2⟩ := h.2.2.2.2.2.1 a y ha hy
  have h3 : sm f y = false → ∀ d, d < 180 → std (jbits (sm f y) (sh f (tb a y))) d = std (sh f (tb a y)) d := fun hs d hd => by
    unfold std jbits
    rw [if_pos (by omega), hs]; rfl
  refine ⟨fun k hk => jbits_CR (wv_CR (by decide) h1) hk, ?_, h3⟩
  unfold twN
  cases hs : sm f y
  · have h4 := h3 hs
    rw [hs] at h4
    exact cnt_congr 180 h4
  · refine cnt_tail (m := 0) 180 (by omega) (fun d _ _ => ?_)
    unfold std jbits
    by_cases z : d / 30 < 6
    · rw [if_pos z]; exact bt_n0 _
    · rw [if_neg z]; exact bt_n0 _
theorem sim_twin (i : Nat) : SIM_twin (Rel i) (Rel (i + 6)) := by
  intro a0 a1 a2 a3 σ τ h
  have hW := h.2.2.2.2.1
  have hS := hW.1
  have hK := hS.1.1
  have hY := hS.1.2.1
  have hw := wM_w
  show Sm i _ _
  rcases keeper_cases hS.1 a0 with hb | ⟨a, ha, rfl⟩
  · rw [f_X11_twin, f_X12_twin, c_isKeeper_no hS hb, r_isKeeper_no hb, bsm, bsm, if_pos (show nI 0 = (0 : Int32) from rfl), if_pos (show nI 0 = (0 : Int32) from rfl)]
    simp (disch := omega) only [↓mI_e, lit, ofN, bsm, nI_add, pk_mul, pk_sub, nI_e, nI_leE, nI_ltE, nI_mI, mI_nI, mI_lt, nlt_mI, mI_le, nle_mI, nI_addm, sh_b, bI_0, bI_1, bI_bI, ckZ_b, ckZ_n0, ckZ_n1, stIe, stJe, stZ_n0, stZ_n1, rm_nI, dv_nI, if_true, if_false, if_pos, if_neg, rf0, rf1, rf5, rf6, rf7, rf8, rf9, rf20, rf23, rf24, rf25, rf26, rf29, rf31, rf33, rf34, rf35, rf37, rf38, rf41, rf42, rf43,  k_X11_twin_27, k_X12_twin_27, c_refuse, r_refuse]
    exact Sm_0 h _ _
  · rcases key_cases hS.1 a1 with hb | ⟨y, hy, rfl⟩
    · rw [f_X11_twin, f_X12_twin, c_isKeeper_yes hS ha, r_isKeeper_y hS.1 ha, bsm, bsm, if_neg (show ¬ nI 1 = 0 by decide), if_neg (show ¬ nI 1 = 0 by decide), c_isKey_no hS hb, r_isKey_no hb, bsm, bsm, if_pos (show nI 0 = (0 : Int32) from rfl), if_pos (show nI 0 = (0 : Int32) from rfl)]
      simp (disch := omega) only [↓mI_e, lit, ofN, bsm, nI_add, pk_mul, pk_sub, nI_e, nI_leE, nI_ltE, nI_mI, mI_nI, mI_lt, nlt_mI, mI_le, nle_mI, nI_addm, sh_b, bI_0, bI_1, bI_bI, ckZ_b, ckZ_n0, ckZ_n1, stIe, stJe, stZ_n0, stZ_n1, rm_nI, dv_nI, if_true, if_false, if_pos, if_neg, rf0, rf1, rf5, rf6, rf7, rf8, rf9, rf20, rf23, rf24, rf25, rf26, rf29, rf31, rf33, rf34, rf35, rf37, rf38, rf41, rf42, rf43,  k_X11_twin_27, k_X12_twin_27, c_refuse, r_refuse]
      exact Sm_0 h _ _
    · by_cases g3 : a3 < nI 0
      · simp (disch := omega) only [↓mI_e, lit, ofN, bsm, nI_add, pk_mul, pk_sub, nI_e, nI_leE, nI_ltE, nI_mI, mI_nI, mI_lt, nlt_mI, mI_le, nle_mI, nI_addm, sh_b, bI_0, bI_1, bI_bI, ckZ_b, ckZ_n0, ckZ_n1, stIe, stJe, stZ_n0, stZ_n1, rm_nI, dv_nI, if_true, if_false, if_pos, if_neg, rf0, rf1, rf5, rf6, rf7, rf8, rf9, rf20, rf23, rf24, rf25, rf26, rf29, rf31, rf33, rf34, rf35, rf37, rf38, rf41, rf42, rf43,  f_X11_twin, k_X11_twin_112, k_X11_twin_27, f_X12_twin, k_X12_twin_101, k_X12_twin_104, k_X12_twin_27, k_X12_twin_56, c_isKeeper_yes hS ha, r_isKeeper_y hS.1 ha, c_isKey_yes hS hy, r_isKey_y hS.1 hy, g3, c_refuse, r_refuse]
        exact Sm_0 h _ _
      · by_cases g4 : a3 ≤ nI 2
        · obtain ⟨m3, h3, rfl⟩ := int_to (M := nI 2) (n := 2) rfl g3 g4
          obtain ⟨τ2, l1, l2, l3, l4⟩ := r_laysTwins (a := tb a y) (y := y) (by unfold tb; omega) (by omega) τ
          have l1 : f_X12_laysTwins 0 (nI (30 + 12 * (6 * a + y))) (nI y) τ = some τ2 := l1
          obtain ⟨d1, d2, d3⟩ := have_dots hW (a := a) (y := y) (by omega) (by omega)
          rw [← d2] at l3
          have g2 : gA τ2 1 = gA τ 1 := l2.2.2.1 1 (by decide) (by decide) (by decide)
          have hrel := fun r v => Sm_1 h l2.sc g2 r v
          by_cases g5 : a2 < nI 0
          · have e1 := c_dotAt_m (c := wM + 15) (L := 0) (i := a * 6 + y) g5 σ
            simp (disch := omega) only [↓mI_e, lit, ofN, bsm, nI_add, pk_mul, pk_sub, nI_e, nI_leE, nI_ltE, nI_mI, mI_nI, mI_lt, nlt_mI, mI_le, nle_mI, nI_addm, sh_b, bI_0, bI_1, bI_bI, ckZ_b, ckZ_n0, ckZ_n1, stIe, stJe, stZ_n0, stZ_n1, rm_nI, dv_nI, if_true, if_false, if_pos, if_neg, rf0, rf1, rf5, rf6, rf7, rf8, rf9, rf20, rf23, rf24, rf25, rf26, rf29, rf31, rf33, rf34, rf35, rf37, rf38, rf41, rf42, rf43,  f_X11_twin, k_X11_twin_112, k_X11_twin_27, f_X12_twin, k_X12_twin_101, k_X12_twin_104, k_X12_twin_27, k_X12_twin_56, c_isKeeper_yes hS ha, r_isKeeper_y hS.1 ha, c_isKey_yes hS hy, r_isKey_y hS.1 hy, g5, c02, w_2 hw, f_X10_cellOf, f_X12_thingOf, e1, l1, c_refuse, r_refuse]
            exact hrel _ _
          · obtain ⟨M, hM, rfl⟩ := nn_of g5
            obtain ⟨r, e1, e2⟩ := c_dotAt_loop (isC_h hw) (i := a * 6 + y) (by omega) d1 hM FU 0 (by omega) (by unfold FU; omega) (Nat.zero_le _)
            have e1 : f_X0_dotAt (wM + 15) (nI (a * 6 + y)) (nI M) σ = some (r, σ) := e1
            generalize hN : cnt (std (jbits (sm (gA τ 1) y) (sh (gA τ 1) (tb a y)))) 180 = N at e2 l3
            have hNl : N ≤ 180 := by rw [← hN]; exact cnt_le _ _
            rcases e2 with ⟨e, z1, z2, z3, rfl⟩ | ⟨z1, rfl⟩
            · have hlt : M < N := by rw [← hN, ← z3]; exact cnt_lt2 z1 z2
              have hs : sm (gA τ 1) y = false := by
                cases hs : sm (gA τ 1) y
                · rfl
                · exfalso
                  rw [hs] at z2
                  unfold std jbits at z2
                  rw [if_pos (by omega), if_pos rfl, bt_n0] at z2
                  exact absurd z2 (by decide)
              have hp : std (sh (gA τ 1) (tb a y)) e = true := by rw [← d3 hs e z1]; exact z2
              have hc : cnt (std (sh (gA τ 1) (tb a y))) e = M := by rw [← z3]; exact cnt_congr e (fun d hd => (d3 hs d (by omega)).symm)
              obtain ⟨_, k1, k2, k3⟩ := l4 hs
              have k1 := k1 e z1 hp
              have k2 := k2 e z1 hp
              have k3 := k3 e z1 hp
              rw [hc, Nat.zero_add] at k1 k2 k3
              have hv := vals_eq hW (y := y) (by omega) (hW.2.2.2.2.2.1 a y (by omega) (by omega)).2 z1 z2
              have hv1 : gA σ (wM + 27) (y * 180 + e) = gA τ 1 (vb y (e / 30) (e % 30 + 1)) := by
                rw [← wv_A σ wM (by decide)]; exact hv.1
              rcases (show m3 = 0 ∨ m3 = 1 ∨ m3 = 2 by omega) with rfl | rfl | rfl
              · simp (disch := omega) only [↓mI_e, lit, ofN, bsm, nI_add, pk_mul, pk_sub, nI_e, nI_leE, nI_ltE, nI_mI, mI_nI, mI_lt, nlt_mI, mI_le, nle_mI, nI_addm, sh_b, bI_0, bI_1, bI_bI, ckZ_b, ckZ_n0, ckZ_n1, stIe, stJe, stZ_n0, stZ_n1, rm_nI, dv_nI, if_true, if_false, if_pos, if_neg, rf0, rf1, rf5, rf6, rf7, rf8, rf9, rf20, rf23, rf24, rf25, rf26, rf29, rf31, rf33, rf34, rf35, rf37, rf38, rf41, rf42, rf43,  f_X11_twin, k_X11_twin_112, k_X11_twin_27, f_X12_twin, k_X12_twin_101, k_X12_twin_104, k_X12_twin_27, k_X12_twin_56, c_isKeeper_yes hS ha, r_isKeeper_y hS.1 ha, c_isKey_yes hS hy, r_isKey_y hS.1 hy, c02, w_2 hw, w_8 hw, f_X10_cellOf, f_X12_thingOf, e1, l1, l3, lw27 hw, lr10, k1, hv1, c_answer, r_gives]
                exact hrel _ _
              · simp (disch := omega) only [↓mI_e, lit, ofN, bsm, nI_add, pk_mul, pk_sub, nI_e, nI_leE, nI_ltE, nI_mI, mI_nI, mI_lt, nlt_mI, mI_le, nle_mI, nI_addm, sh_b, bI_0, bI_1, bI_bI, ckZ_b, ckZ_n0, ckZ_n1, stIe, stJe, stZ_n0, stZ_n1, rm_nI, dv_nI, if_true, if_false, if_pos, if_neg, rf0, rf1, rf5, rf6, rf7, rf8, rf9, rf20, rf23, rf24, rf25, rf26, rf29, rf31, rf33, rf34, rf35, rf37, rf38, rf41, rf42, rf43,  f_X11_twin, k_X11_twin_112, k_X11_twin_27, f_X12_twin, k_X12_twin_101, k_X12_twin_104, k_X12_twin_27, k_X12_twin_56, c_isKeeper_yes hS ha, r_isKeeper_y hS.1 ha, c_isKey_yes hS hy, r_isKey_y hS.1 hy, c02, w_2 hw, f_X10_cellOf, f_X12_thingOf, e1, l1, l3, lr11, k2, c_answer, r_gives]
                exact hrel _ _
              · simp (disch := omega) only [↓mI_e, lit, ofN, bsm, nI_add, pk_mul, pk_sub, nI_e, nI_leE, nI_ltE, nI_mI, mI_nI, mI_lt, nlt_mI, mI_le, nle_mI, nI_addm, sh_b, bI_0, bI_1, bI_bI, ckZ_b, ckZ_n0, ckZ_n1, stIe, stJe, stZ_n0, stZ_n1, rm_nI, dv_nI, if_true, if_false, if_pos, if_neg, rf0, rf1, rf5, rf6, rf7, rf8, rf9, rf20, rf23, rf24, rf25, rf26, rf29, rf31, rf33, rf34, rf35, rf37, rf38, rf41, rf42, rf43,  f_X11_twin, k_X11_twin_112, k_X11_twin_27, f_X12_twin, k_X12_twin_101, k_X12_twin_104, k_X12_twin_27, k_X12_twin_56, c_isKeeper_yes hS ha, r_isKeeper_y hS.1 ha, c_isKey_yes hS hy, r_isKey_y hS.1 hy, c02, w_2 hw, f_X10_cellOf, f_X12_thingOf, e1, l1, l3, lr12, k3, c_answer, r_gives]
                exact hrel _ _
            · simp (disch := omega) only [↓mI_e, lit, ofN, bsm, nI_add, pk_mul, pk_sub, nI_e, nI_leE, nI_ltE, nI_mI, mI_nI, mI_lt, nlt_mI, mI_le, nle_mI, nI_addm, sh_b, bI_0, bI_1, bI_bI, ckZ_b, ckZ_n0, ckZ_n1, stIe, stJe, stZ_n0, stZ_n1, rm_nI, dv_nI, if_true, if_false, if_pos, if_neg, rf0, rf1, rf5, rf6, rf7, rf8, rf9, rf20, rf23, rf24, rf25, rf26, rf29, rf31, rf33, rf34, rf35, rf37, rf38, rf41, rf42, rf43,  f_X11_twin, k_X11_twin_112, k_X11_twin_27, f_X12_twin, k_X12_twin_101, k_X12_twin_104, k_X12_twin_27, k_X12_twin_56, c_isKeeper_yes hS ha, r_isKeeper_y hS.1 ha, c_isKey_yes hS hy, r_isKey_y hS.1 hy, c02, w_2 hw, f_X10_cellOf, f_X12_thingOf, e1, l1, l3, c_refuse, r_refuse]
              exact hrel _ _
        · simp (disch := omega) only [↓mI_e, lit, ofN, bsm, nI_add, pk_mul, pk_sub, nI_e, nI_leE, nI_ltE, nI_mI, mI_nI, mI_lt, nlt_mI, mI_le, nle_mI, nI_addm, sh_b, bI_0, bI_1, bI_bI, ckZ_b, ckZ_n0, ckZ_n1, stIe, stJe, stZ_n0, stZ_n1, rm_nI, dv_nI, if_true, if_false, if_pos, if_neg, rf0, rf1, rf5, rf6, rf7, rf8, rf9, rf20, rf23, rf24, rf25, rf26, rf29, rf31, rf33, rf34, rf35, rf37, rf38, rf41, rf42, rf43,  f_X11_twin, k_X11_twin_112, k_X11_twin_27, f_X12_twin, k_X12_twin_101, k_X12_twin_104, k_X12_twin_27, k_X12_twin_56, c_isKeeper_yes hS ha, r_isKeeper_y hS.1 ha, c_isKey_yes hS hy, r_isKey_y hS.1 hy, g3, g4, c_refuse, r_refuse]
          exact Sm_0 h _ _
/-! POUR -/
def pS (B : Nat → Int64) (a b lo hi : Nat) : Nat → Int64 := fun j => if b + lo ≤ j ∧ j < b + hi then B (a + (j - b)) else B j
theorem pS_up {B : Nat → Int64} {a b k : Nat} : vp_updL (pS B a b 0 k) (b + k) (B (a + k)) = pS B a b 0 (k + 1) := by
  funext j
  unfold vp_updL pS
  by_cases z : j = b + k
  · rw [if_pos z, if_pos (by omega), show a + (j - b) = a + k by omega]
  · rw [if_neg z]
    by_cases z2 : b + 0 ≤ j ∧ j < b + k
    · rw [if_pos z2, if_pos (by omega)]
    · rw [if_neg z2, if_neg (by omega)]
theorem pS_down {B : Nat → Int64} {a b lo hi : Nat} (h : lo < hi) : vp_updL (pS B a b (lo + 1) hi) (b + lo) (B (a + lo)) = pS B a b lo hi := by
  funext j
  unfold vp_updL pS
  by_cases z : j = b + lo
  · rw [if_pos z, if_pos (by omega), show a + (j - b) = a + lo by omega]
  · rw [if_neg z]
    by_cases z2 : b + (lo + 1) ≤ j ∧ j < b + hi
    · rw [if_pos z2, if_pos (by omega)]
    · rw [if_neg z2, if_neg (by omega)]
theorem r_pour_up {t u p q N : Nat} (ht : t < 4) (hu : u < 4) (hp : p + N ≤ 60) (hq : q + N ≤ 60) (hqp : q ≤ p) (B : Nat → Int64) : ∀ (n k : Nat) (τ : ST), k ≤ N → N - k < n → gB τ 5 = pS B (60 * t + p) (60 * u + q) 0 k → k_X12_pour_118 n 0 (nI t) (nI p) (nI u) (nI q) (nI N) (nI k) τ = some (nI 1, sI (sB τ 5 (pS B (60 * t + p) (60 * u + q) 0 N)) 0 2 (nI 0)) := by
  intro n
  induction n with
  | zero => intros; omega
  | succ n ih =>
    intro k τ hk hn h5
    rw [k_X12_pour_118]
    by_cases e : k = N
    · subst e
      rw [← h5, sB_self]
      simp (disch := omega) only [↓mI_e, lit, ofN, bsm, nI_add, pk_mul, pk_sub, nI_e, nI_leE, nI_ltE, nI_mI, mI_nI, mI_lt, nlt_mI, mI_le, nle_mI, nI_addm, sh_b, bI_0, bI_1, bI_bI, ckZ_b, ckZ_n0, ckZ_n1, stIe, stJe, stZ_n0, stZ_n1, rm_nI, dv_nI, if_true, if_false, if_pos, if_neg, rf0, rf1, rf5, rf6, rf7, rf8, rf9, rf20, rf23, rf24, rf25, rf26, rf29, rf31, rf33, rf34, rf35, rf37, rf38, rf41, rf42, rf43,  r_is]
    · have e1 : pS B (60 * t + p) (60 * u + q) 0 k (60 * t + p + k) = B (60 * t + p + k) := if_neg (by omega)
      have e2 := ih (k + 1) (sB τ 5 (vp_updL (gB τ 5) (60 * u + q + k) (gB τ 5 (60 * t + p + k)))) (by omega) (by omega) (by rw [gB_sB, if_pos rfl, h5, e1, pS_up])
      rw [sB_sB] at e2
      simp (disch := omega) only [↓mI_e, lit, ofN, bsm, nI_add, pk_mul, pk_sub, nI_e, nI_leE, nI_ltE, nI_mI, mI_nI, mI_lt, nlt_mI, mI_le, nle_mI, nI_addm, sh_b, bI_0, bI_1, bI_bI, ckZ_b, ckZ_n0, ckZ_n1, stIe, stJe, stZ_n0, stZ_n1, rm_nI, dv_nI, if_true, if_false, if_pos, if_neg, rf0, rf1, rf5, rf6, rf7, rf8, rf9, rf20, rf23, rf24, rf25, rf26, rf29, rf31, rf33, rf34, rf35, rf37, rf38, rf41, rf42, rf43,  k_X12_pour_143, lr5, sr5]
      exact e2
theorem r_pour_down {t u p q N : Nat} (ht : t < 4) (hu : u < 4) (hp : p + N ≤ 60) (hq : q + N ≤ 60) (hqp : p < q) (B : Nat → Int64) : ∀ (n k : Nat) (τ : ST), k ≤ N → N - k < n → gB τ 5 = pS B (60 * t + p) (60 * u + q) (N - k) N → k_X12_pour_118 n 0 (nI t) (nI p) (nI u) (nI q) (nI N) (nI k) τ = some (nI 1, sI (sB τ 5 (pS B (60 * t + p) (60 * u + q) 0 N)) 0 2 (nI 0)) := by
  intro n
  induction n with
  | zero => intros; omega
  | succ n ih =>
    intro k τ hk hn h5
    rw [k_X12_pour_118]
    by_cases e : k = N
    · subst e
      rw [Nat.sub_self] at h5
      rw [← h5, sB_self]
      simp (disch := omega) only [↓mI_e, lit, ofN, bsm, nI_add, pk_mul, pk_sub, nI_e, nI_leE, nI_ltE, nI_mI, mI_nI, mI_lt, nlt_mI, mI_le, nle_mI, nI_addm, sh_b, bI_0, bI_1, bI_bI, ckZ_b, ckZ_n0, ckZ_n1, stIe, stJe, stZ_n0, stZ_n1, rm_nI, dv_nI, if_true, if_false, if_pos, if_neg, rf0, rf1, rf5, rf6, rf7, rf8, rf9, rf20, rf23, rf24, rf25, rf26, rf29, rf31, rf33, rf34, rf35, rf37, rf38, rf41, rf42, rf43,  r_is]
    · have e1 : pS B (60 * t + p) (60 * u + q) (N - k) N (60 * t + p + (N - 1 - k)) = B (60 * t + p + (N - 1 - k)) := if_neg (by omega)
      have e3 : pS B (60 * t + p) (60 * u + q) (N - k) N = pS B (60 * t + p) (60 * u + q) (N - 1 - k + 1) N := by rw [show N - 1 - k + 1 = N - k by omega]
      have e2 := ih (k + 1) (sB τ 5 (vp_updL (gB τ 5) (60 * u + q + (N - 1 - k)) (gB τ 5 (60 * t + p + (N - 1 - k))))) (by omega) (by omega) (by rw [gB_sB, if_pos rfl, h5, e1, e3, pS_down (by omega), show N - (k + 1) = N - 1 - k by omega])
      rw [sB_sB] at e2
      simp (disch := omega) only [↓mI_e, lit, ofN, bsm, nI_add, pk_mul, pk_sub, nI_e, nI_leE, nI_ltE, nI_mI, mI_nI, mI_lt, nlt_mI, mI_le, nle_mI, nI_addm, sh_b, bI_0, bI_1, bI_bI, ckZ_b, ckZ_n0, ckZ_n1, stIe, stJe, stZ_n0, stZ_n1, rm_nI, dv_nI, if_true, if_false, if_pos, if_neg, rf0, rf1, rf5, rf6, rf7, rf8, rf9, rf20, rf23, rf24, rf25, rf26, rf29, rf31, rf33, rf34, rf35, rf37, rf38, rf41, rf42, rf43,  k_X12_pour_143, lr5, sr5]
      exact e2
theorem r_pour_go {t u p q N : Nat} (ht : t < 4) (hu : u < 4) (hp : p + N ≤ 60) (hq : q + N ≤ 60) (τ : ST) : k_X12_pour_118 FU 0 (nI t) (nI p) (nI u) (nI q) (nI N) (nI 0) τ = some (nI 1, sI (sB τ 5 (pS (gB τ 5) (60 * t + p) (60 * u + q) 0 N)) 0 2 (nI 0)) := by
  rcases Nat.lt_or_ge p q with z | z
  · exact r_pour_down ht hu hp hq z (gB τ 5) FU 0 τ (by omega) (by unfold FU; omega) (by funext j; unfold pS; rw [if_neg (by omega)])
  · exact r_pour_up ht hu hp hq z (gB τ 5) FU 0 τ (by omega) (by unfold FU; omega) (by funext j; unfold pS; rw [if_neg (by omega)])
theorem sub_le {m p n : Nat} (hm : m ≤ 60) (hp : p < 2 ^ 31) (hn : n < 2 ^ 31) : (nI m - nI p < nI n) ↔ ¬ p + n ≤ m := by
  rw [Int32.lt_iff_toInt_lt, Int32.toInt_sub, nI_toInt (by omega), nI_toInt hp, nI_toInt hn]
  have : ((m : Int) - (p : Int)).bmod (2 ^ 32) = (m : Int) - (p : Int) := by
    rw [Int.bmod_def]
    have h1 : (m : Int) - (p : Int) < 2 ^ 31 := by omega
    have h2 : -(2 ^ 31) ≤ (m : Int) - (p : Int) := by omega
    omega
  rw [this]
  omega
theorem tray_at {σ τ : ST} (h : R2 σ τ) {t : Nat} (ht : t < 4) : (gI σ (102 + 2 * t) 1 = nI 0 ∧ gA τ 4 t = mI) ∨ (gI σ (102 + 2 * t) 1 = nI 1 ∧ ∃ m s : Nat, m ≤ 60 ∧ s ≤ 3 ∧ gI σ (102 + 2 * t) 3 = nI m ∧ gI σ (102 + 2 * t) 2 = nI s ∧ gA τ 4 t = nI m ∧ gA τ 3 t = nI s ∧ ∀ k, k < m → gB σ (103 + 2 * t) k = gB τ 5 (60 * t + k)) := h t ht
theorem sim_pour (i : Nat) : SIM_pour (Rel i) (Rel (i + 6)) := by
  intro a0 a1 a2 a3 a4 σ τ h
  show Sm i _ _
  rcases tray_cases a0 with hb | ⟨t, ht, rfl⟩
  · rw [f_X11_pour, f_X12_pour, c_isTray_no hb, r_isTray_no hb, bsm, bsm, if_pos (show nI 0 = (0 : Int32) from rfl), if_pos (show nI 0 = (0 : Int32) from rfl)]
    simp (disch := omega) only [↓mI_e, lit, ofN, bsm, nI_add, pk_mul, pk_sub, nI_e, nI_leE, nI_ltE, nI_mI, mI_nI, mI_lt, nlt_mI, mI_le, nle_mI, nI_addm, sh_b, bI_0, bI_1, bI_bI, ckZ_b, ckZ_n0, ckZ_n1, stIe, stJe, stZ_n0, stZ_n1, rm_nI, dv_nI, if_true, if_false, if_pos, if_neg, rf0, rf1, rf5, rf6, rf7, rf8, rf9, rf20, rf23, rf24, rf25, rf26, rf29, rf31, rf33, rf34, rf35, rf37, rf38, rf41, rf42, rf43,  k_X11_pour_30, k_X12_pour_28, c_refused, r_is]
    exact Sm_0 h _ _
  · have n1 : ¬ nI 1 = (0 : Int32) := by decide
    rw [f_X11_pour, f_X12_pour, c_isTray_y ht, r_isTray_y ht, bsm, bsm, if_neg n1, if_neg n1]
    rcases tray_cases a2 with hb | ⟨u, hu, rfl⟩
    · rw [c_isTray_no hb, r_isTray_no hb, bsm, bsm, if_pos (show nI 0 = (0 : Int32) from rfl), if_pos (show nI 0 = (0 : Int32) from rfl)]
      simp (disch := omega) only [↓mI_e, lit, ofN, bsm, nI_add, pk_mul, pk_sub, nI_e, nI_leE, nI_ltE, nI_mI, mI_nI, mI_lt, nlt_mI, mI_le, nle_mI, nI_addm, sh_b, bI_0, bI_1, bI_bI, ckZ_b, ckZ_n0, ckZ_n1, stIe, stJe, stZ_n0, stZ_n1, rm_nI, dv_nI, if_true, if_false, if_pos, if_neg, rf0, rf1, rf5, rf6, rf7, rf8, rf9, rf20, rf23, rf24, rf25, rf26, rf29, rf31, rf33, rf34, rf35, rf37, rf38, rf41, rf42, rf43,  k_X11_pour_30, k_X12_pour_28, c_refused, r_is]
      exact Sm_0 h _ _
    · rw [c_isTray_y hu, r_isTray_y hu, bsm, bsm, if_neg n1, if_neg n1]
      by_cases g1 : a1 < nI 0
      · rw [if_pos (show a1 < 0 from g1), if_pos (show a1 < 0 from g1)]
        simp (disch := omega) only [↓mI_e, lit, ofN, bsm, nI_add, pk_mul, pk_sub, nI_e, nI_leE, nI_ltE, nI_mI, mI_nI, mI_lt, nlt_mI, mI_le, nle_mI, nI_addm, sh_b, bI_0, bI_1, bI_bI, ckZ_b, ckZ_n0, ckZ_n1, stIe, stJe, stZ_n0, stZ_n1, rm_nI, dv_nI, if_true, if_false, if_pos, if_neg, rf0, rf1, rf5, rf6, rf7, rf8, rf9, rf20, rf23, rf24, rf25, rf26, rf29, rf31, rf33, rf34, rf35, rf37, rf38, rf41, rf42, rf43,  k_X11_pour_30, k_X12_pour_28, c_refused, r_is]
        exact Sm_0 h _ _
      · rw [if_neg (show ¬ a1 < 0 from g1), if_neg (show ¬ a1 < 0 from g1)]
        by_cases g3 : a3 < nI 0
        · rw [if_pos (show a3 < 0 from g3), if_pos (show a3 < 0 from g3)]
          simp (disch := omega) only [↓mI_e, lit, ofN, bsm, nI_add, pk_mul, pk_sub, nI_e, nI_leE, nI_ltE, nI_mI, mI_nI, mI_lt, nlt_mI, mI_le, nle_mI, nI_addm, sh_b, bI_0, bI_1, bI_bI, ckZ_b, ckZ_n0, ckZ_n1, stIe, stJe, stZ_n0, stZ_n1, rm_nI, dv_nI, if_true, if_false, if_pos, if_neg, rf0, rf1, rf5, rf6, rf7, rf8, rf9, rf20, rf23, rf24, rf25, rf26, rf29, rf31, rf33, rf34, rf35, rf37, rf38, rf41, rf42, rf43,  k_X11_pour_30, k_X12_pour_28, c_refused, r_is]
          exact Sm_0 h _ _
        · rw [if_neg (show ¬ a3 < 0 from g3), if_neg (show ¬ a3 < 0 from g3)]
          by_cases g4 : a4 < nI 0
          · have g5 : ¬ (0 : Int32) ≤ a4 := fun q => absurd g4 (Int32.not_lt.mpr q)
            rw [if_neg g5, if_neg g5]
            simp (disch := omega) only [↓mI_e, lit, ofN, bsm, nI_add, pk_mul, pk_sub, nI_e, nI_leE, nI_ltE, nI_mI, mI_nI, mI_lt, nlt_mI, mI_le, nle_mI, nI_addm, sh_b, bI_0, bI_1, bI_bI, ckZ_b, ckZ_n0, ckZ_n1, stIe, stJe, stZ_n0, stZ_n1, rm_nI, dv_nI, if_true, if_false, if_pos, if_neg, rf0, rf1, rf5, rf6, rf7, rf8, rf9, rf20, rf23, rf24, rf25, rf26, rf29, rf31, rf33, rf34, rf35, rf37, rf38, rf41, rf42, rf43,  k_X11_pour_30, k_X12_pour_28, c_refused, r_is]
            exact Sm_0 h _ _
          · have g5 : (0 : Int32) ≤ a4 := Int32.not_lt.mp g4
            obtain ⟨p, hp, rfl⟩ := nn_of g1
            obtain ⟨q, hq, rfl⟩ := nn_of g3
            obtain ⟨N, hN, rfl⟩ := nn_of g4
            rw [if_pos g5, if_pos g5]
            have c1 := c_tray_of ht
            have c2 := c_tray_of hu
            rcases tray_at h.2.1 ht with ⟨x1, x2⟩ | ⟨x0, m1, s1, x1, x2, x3, x4, x5, x6, x7⟩
            · simp (disch := omega) only [↓mI_e, lit, ofN, bsm, nI_add, pk_mul, pk_sub, nI_e, nI_leE, nI_ltE, nI_mI, mI_nI, mI_lt, nlt_mI, mI_le, nle_mI, nI_addm, sh_b, bI_0, bI_1, bI_bI, ckZ_b, ckZ_n0, ckZ_n1, stIe, stJe, stZ_n0, stZ_n1, rm_nI, dv_nI, if_true, if_false, if_pos, if_neg, rf0, rf1, rf5, rf6, rf7, rf8, rf9, rf20, rf23, rf24, rf25, rf26, rf29, rf31, rf33, rf34, rf35, rf37, rf38, rf41, rf42, rf43,  c1, c2, x1, lr4, x2, k_X11_pour_68, k_X12_pour_54, c_refused, r_is]
              exact Sm_0 h _ _
            · rcases tray_at h.2.1 hu with ⟨y1, y2⟩ | ⟨y0, m2, s2, y1, y2, y3, y4, y5, y6, y7⟩
              · simp (disch := omega) only [↓mI_e, lit, ofN, bsm, nI_add, pk_mul, pk_sub, nI_e, nI_leE, nI_ltE, nI_mI, mI_nI, mI_lt, nlt_mI, mI_le, nle_mI, nI_addm, sh_b, bI_0, bI_1, bI_bI, ckZ_b, ckZ_n0, ckZ_n1, stIe, stJe, stZ_n0, stZ_n1, rm_nI, dv_nI, if_true, if_false, if_pos, if_neg, rf0, rf1, rf5, rf6, rf7, rf8, rf9, rf20, rf23, rf24, rf25, rf26, rf29, rf31, rf33, rf34, rf35, rf37, rf38, rf41, rf42, rf43,  c1, c2, x0, y1, lr4, x5, y2, k_X11_pour_68, k_X12_pour_54, c_refused, r_is]
                exact Sm_0 h _ _
              · by_cases zs : s1 = s2
                · subst zs
                  by_cases z1 : p + N ≤ m1
                  · have w1 : ¬ (nI m1 - nI p < nI N) := fun w => ((sub_le x1 hp hN).mp w) z1
                    by_cases z2 : q + N ≤ m2
                    · obtain ⟨l1, l2⟩ := tr_l ht
                      obtain ⟨l3, l4⟩ := tr_l hu
                      have e1 : cpB LC σ (103 + 2 * t) (nI p) (103 + 2 * u) (nI q) (nI N) = _ := cpB_n (σ := σ) (a := p) (b := q) (n := N) 60 60 l2 l4 (by omega) (by omega) (by decide) (by decide)
                      have e2 := r_pour_go ht hu (p := p) (q := q) (N := N) (by omega) (by omega) τ
                      simp (disch := omega) only [↓mI_e, lit, ofN, bsm, nI_add, pk_mul, pk_sub, nI_e, nI_leE, nI_ltE, nI_mI, mI_nI, mI_lt, nlt_mI, mI_le, nle_mI, nI_addm, sh_b, bI_0, bI_1, bI_bI, ckZ_b, ckZ_n0, ckZ_n1, stIe, stJe, stZ_n0, stZ_n1, rm_nI, dv_nI, if_true, if_false, if_pos, if_neg, rf0, rf1, rf5, rf6, rf7, rf8, rf9, rf20, rf23, rf24, rf25, rf26, rf29, rf31, rf33, rf34, rf35, rf37, rf38, rf41, rf42, rf43,  c1, c2, x0, y0, x4, y4, x3, y3, lr4, x5, y5, lr3, x6, y6, l1, l3, e1, e2, c_allowed]
                      refine ⟨nI 1, _, _, rfl, rfl, ?_⟩
                      refine Rel_t h ⟨by rw [gI_sI, gI_sI]; rfl, h.1.2.1, h.1.2.2⟩ (fun v hv => ?_) (((Fr.rf σ).sB _ ⟨by omega, by omega⟩).sI _ (Or.inl ⟨rfl, rfl⟩)) (((Fr.rf τ).sB _ (Or.inr (Or.inr rfl))).sI _ ⟨rfl, rfl⟩)
                      have h3 := h.2.1 v hv
                      unfold R2t at h3 ⊢
                      have e3 : ∀ (F : Nat → Int64) k, gI (sI (sB σ (103 + 2 * u) F) 0 14 (nI 0)) (102 + 2 * v) k = gI σ (102 + 2 * v) k := fun F k => by rw [gI_sI, if_neg (by omega)]; rfl
                      rw [e3, e3, e3, gA_sI, gA_sI, gA_sB, gA_sB, gB_sI, gB_sI, gB_sB, gB_sB, if_pos rfl]
                      rcases h3 with h3 | ⟨b1, m', s', b2, b3, b4, b5, b6, b7, b8⟩
                      · exact Or.inl h3
                      · refine Or.inr ⟨b1, m', s', b2, b3, b4, b5, b6, b7, fun k hk => ?_⟩
                        have h8 := b8 k hk
                        unfold pS
                        by_cases z : v = u
                        · subst z
                          rw [if_pos rfl]
                          unfold va_cpy
                          by_cases z5 : q ≤ k ∧ k < q + N
                          · rw [if_pos z5, if_pos (by omega), x7 _ (by omega), show 60 * t + (p + (k - q)) = 60 * t + p + (60 * v + k - (60 * v + q)) by omega]
                          · rw [if_neg z5, if_neg (by omega)]; exact h8
                        · rw [if_neg (by omega), if_neg (by omega)]; exact h8
                    · have w2 : ¬ (nI N ≤ nI m2 - nI q) := fun w => absurd ((sub_le y1 hq hN).mpr z2) (Int32.not_lt.mpr w)
                      simp (disch := omega) only [↓mI_e, lit, ofN, bsm, nI_add, pk_mul, pk_sub, nI_e, nI_leE, nI_ltE, nI_mI, mI_nI, mI_lt, nlt_mI, mI_le, nle_mI, nI_addm, sh_b, bI_0, bI_1, bI_bI, ckZ_b, ckZ_n0, ckZ_n1, stIe, stJe, stZ_n0, stZ_n1, rm_nI, dv_nI, if_true, if_false, if_pos, if_neg, rf0, rf1, rf5, rf6, rf7, rf8, rf9, rf20, rf23, rf24, rf25, rf26, rf29, rf31, rf33, rf34, rf35, rf37, rf38, rf41, rf42, rf43,  c1, c2, x0, y0, x4, y4, x3, y3, lr4, x5, y5, lr3, x6, y6, w1, w2, k_X11_pour_119, k_X12_pour_109, c_refused, r_is]
                      exact Sm_0 h _ _
                  · have w1 : (nI m1 - nI p < nI N) := (sub_le x1 hp hN).mpr z1
                    simp (disch := omega) only [↓mI_e, lit, ofN, bsm, nI_add, pk_mul, pk_sub, nI_e, nI_leE, nI_ltE, nI_mI, mI_nI, mI_lt, nlt_mI, mI_le, nle_mI, nI_addm, sh_b, bI_0, bI_1, bI_bI, ckZ_b, ckZ_n0, ckZ_n1, stIe, stJe, stZ_n0, stZ_n1, rm_nI, dv_nI, if_true, if_false, if_pos, if_neg, rf0, rf1, rf5, rf6, rf7, rf8, rf9, rf20, rf23, rf24, rf25, rf26, rf29, rf31, rf33, rf34, rf35, rf37, rf38, rf41, rf42, rf43,  c1, c2, x0, y0, x4, y4, x3, y3, lr4, x5, y5, lr3, x6, y6, w1, k_X11_pour_119, k_X12_pour_109, c_refused, r_is]
                    exact Sm_0 h _ _
                · simp (disch := omega) only [↓mI_e, lit, ofN, bsm, nI_add, pk_mul, pk_sub, nI_e, nI_leE, nI_ltE, nI_mI, mI_nI, mI_lt, nlt_mI, mI_le, nle_mI, nI_addm, sh_b, bI_0, bI_1, bI_bI, ckZ_b, ckZ_n0, ckZ_n1, stIe, stJe, stZ_n0, stZ_n1, rm_nI, dv_nI, if_true, if_false, if_pos, if_neg, rf0, rf1, rf5, rf6, rf7, rf8, rf9, rf20, rf23, rf24, rf25, rf26, rf29, rf31, rf33, rf34, rf35, rf37, rf38, rf41, rf42, rf43,  c1, c2, x0, y0, x4, y4, lr4, x5, y5, lr3, x6, y6, zs, c_refused, r_is]
                  exact Sm_0 h _ _
/-! FEED -/
theorem by_same (x : Int32) : byR (x &&& nI 255) (x.toInt8.toInt32).toInt8.toInt32 := by
  have key : ∀ (x : Int32) k, bt (x.toInt8.toInt32) k = (decide (k < 32) && bt x (if k < 8 then k else 7)) := fun x k => by
    unfold bt
    rw [Int8.toBitVec_toInt32, Int32.toBitVec_toInt8, BitVec.getLsbD_signExtend]
    by_cases z : k < 8
    · rw [if_pos z, if_pos z, BitVec.getLsbD_signExtend, if_pos (by omega), decide_eq_true (show k < 8 from z)]; rfl
    · rw [if_neg z, if_neg z]
      congr 1
      rw [BitVec.msb_eq_getLsbD_last, BitVec.getLsbD_signExtend, if_pos (by decide)]
      rfl
  have e : (x.toInt8.toInt32).toInt8.toInt32 = x.toInt8.toInt32 := bt_ext (fun k hk => by
    rw [key, key]
    by_cases z : k < 8
    · rw [if_pos z, key, if_pos z]; simp
    · rw [if_neg z, key, if_pos (by omega), if_neg z, decide_eq_true (show 7 < 32 by decide), Bool.true_and])
  rw [e]
  refine ⟨bt_ext (fun k hk => ?_), e⟩
  rw [bt_and, bt_and, key]
  by_cases z : k < 8
  · rw [if_pos z]; simp [hk]
  · have : bt (nI 255) k = false := by
      rw [bt_nI 255 hk]
      exact Nat.testBit_lt_two_pow (by have := Nat.pow_le_pow_right (show 0 < 2 by decide) (show 8 ≤ k by omega); omega)
    rw [this, Bool.and_false, Bool.and_false]
def T3 (n : Nat) (σ τ : ST) : Prop := gI σ 2 1 = nI n ∧ gI τ 0 10 = nI n ∧ ∀ k, k < n → byR (gA σ 3 k) (gA τ 6 k)
def I3c : Nat → Nat → Prop := fun x k => x = 2 ∧ k = 1
def A3c : Nat → Prop := fun x => x = 3
def I3r : Nat → Nat → Prop := fun x k => x = 0 ∧ k = 10
def A3r : Nat → Prop := fun x => x = 6
theorem add_m8 {a : Nat} (h : 8 ≤ a) : nI a + -nI 8 = nI (a - 8) := by
  rw [← Int32.sub_eq_add_neg]
  exact pk_sub h
theorem m8_neg : (nI 0 + -nI 8 < nI 0) = True := eq_true (by decide)
theorem T3_step {n : Nat} {σ τ : ST} (h : T3 n σ τ) (x : Int32) : T3 (n + 1) (sI (sA σ 3 (upd (gA σ 3) n (x &&& nI 255))) 2 1 (nI (n + 1))) (sI (sA τ 6 (upd (gA τ 6) n (x.toInt8.toInt32).toInt8.toInt32)) 0 10 (nI (n + 1))) := by
  refine ⟨by rw [gI_sI, if_pos ⟨rfl, rfl⟩], by rw [gI_sI, if_pos ⟨rfl, rfl⟩], fun k hk => ?_⟩
  rw [gA_sI, gA_sI, gA_sA, gA_sA, if_pos rfl, if_pos rfl, upd_at, upd_at]
  by_cases z : k = n
  · rw [if_pos z, if_pos z]; exact by_same x
  · rw [if_neg z, if_neg z]; exact h.2.2 k (by omega)
theorem feed_loop (v : Int32) : ∀ (r n m : Nat) (σ τ : ST), r ≤ 3 → n + r + 1 ≤ 900 → T3 n σ τ → ∃ σ1 τ1, k_X6_take_3 (m + r + 2) 2 v (nI (8 * r)) σ = some σ1 ∧ k_X12_four_3 (m + r + 2) 0 v (nI (8 * r)) τ = some τ1 ∧ T3 (n + r + 1) σ1 τ1 ∧ Fr I3c A3c σ σ1 ∧ Fr I3r A3r τ τ1 := by
  intro r
  induction r with
  | zero =>
    intro n m σ τ hr hn h
    have s1 := fun v => sa (Λ := LC) (σ := σ) (y := 3) (k := n) (v := v) 900 rfl (by omega) (by decide)
    have h2 := T3_step h (v >>> (nI 0 &&& nI 31))
    refine ⟨_, _, ?_, ?_, h2, ((Fr.rf σ).sA _ (show A3c 3 from rfl)).sI _ (show I3c 2 1 from ⟨rfl, rfl⟩), ((Fr.rf τ).sA _ (show A3r 6 from rfl)).sI _ (show I3r 0 10 from ⟨rfl, rfl⟩)⟩
    · have z1 : ∀ σ', k_X6_take_3 (m + 0 + 1) 2 v (nI 0 + -nI 8) σ' = some σ' := fun σ' => by
        rw [k_X6_take_3]
        simp (disch := omega) only [↓mI_e, lit, ofN, bsm, nI_add, pk_mul, pk_sub, nI_e, nI_leE, nI_ltE, nI_mI, mI_nI, mI_lt, nlt_mI, mI_le, nle_mI, nI_addm, sh_b, bI_0, bI_1, bI_bI, ckZ_b, ckZ_n0, ckZ_n1, stIe, stJe, stZ_n0, stZ_n1, rm_nI, dv_nI, if_true, if_false, if_pos, if_neg, rf0, rf1, rf5, rf6, rf7, rf8, rf9, rf20, rf23, rf24, rf25, rf26, rf29, rf31, rf33, rf34, rf35, rf37, rf38, rf41, rf42, rf43,  m8_neg, k_X6_take_49]
      rw [k_X6_take_3]
      simp (disch := omega) only [↓mI_e, lit, ofN, bsm, nI_add, pk_mul, pk_sub, nI_e, nI_leE, nI_ltE, nI_mI, mI_nI, mI_lt, nlt_mI, mI_le, nle_mI, nI_addm, sh_b, bI_0, bI_1, bI_bI, ckZ_b, ckZ_n0, ckZ_n1, stIe, stJe, stZ_n0, stZ_n1, rm_nI, dv_nI, if_true, if_false, if_pos, if_neg, rf0, rf1, rf5, rf6, rf7, rf8, rf9, rf20, rf23, rf24, rf25, rf26, rf29, rf31, rf33, rf34, rf35, rf37, rf38, rf41, rf42, rf43,  Nat.mul_zero, h.1, show LC.2.1 2 0 = 3 from rfl, s1, gI_sA, h.1, z1]
    · have z1 : ∀ τ', k_X12_four_3 (m + 0 + 1) 0 v (nI 0 + -nI 8) τ' = some τ' := fun τ' => by
        rw [k_X12_four_3]
        simp (disch := omega) only [↓mI_e, lit, ofN, bsm, nI_add, pk_mul, pk_sub, nI_e, nI_leE, nI_ltE, nI_mI, mI_nI, mI_lt, nlt_mI, mI_le, nle_mI, nI_addm, sh_b, bI_0, bI_1, bI_bI, ckZ_b, ckZ_n0, ckZ_n1, stIe, stJe, stZ_n0, stZ_n1, rm_nI, dv_nI, if_true, if_false, if_pos, if_neg, rf0, rf1, rf5, rf6, rf7, rf8, rf9, rf20, rf23, rf24, rf25, rf26, rf29, rf31, rf33, rf34, rf35, rf37, rf38, rf41, rf42, rf43,  m8_neg]
      rw [k_X12_four_3]
      simp (disch := omega) only [↓mI_e, lit, ofN, bsm, nI_add, pk_mul, pk_sub, nI_e, nI_leE, nI_ltE, nI_mI, mI_nI, mI_lt, nlt_mI, mI_le, nle_mI, nI_addm, sh_b, bI_0, bI_1, bI_bI, ckZ_b, ckZ_n0, ckZ_n1, stIe, stJe, stZ_n0, stZ_n1, rm_nI, dv_nI, if_true, if_false, if_pos, if_neg, rf0, rf1, rf5, rf6, rf7, rf8, rf9, rf20, rf23, rf24, rf25, rf26, rf29, rf31, rf33, rf34, rf35, rf37, rf38, rf41, rf42, rf43,  Nat.mul_zero, h.2.1, sr6, gI_sA, z1]
  | succ r ih =>
    intro n m σ τ hr hn h
    have s1 := fun v => sa (Λ := LC) (σ := σ) (y := 3) (k := n) (v := v) 900 rfl (by omega) (by decide)
    have h2 := T3_step h (v >>> (nI (8 * (r + 1)) &&& nI 31))
    obtain ⟨σ1, τ1, q1, q2, q3, q4, q5⟩ := ih (n + 1) m _ _ (by omega) (by omega) h2
    have e8 : 8 * (r + 1) - 8 = 8 * r := by omega
    refine ⟨σ1, τ1, ?_, ?_, by rw [show n + (r + 1) + 1 = n + 1 + r + 1 by omega]; exact q3, (((Fr.rf σ).sA _ (show A3c 3 from rfl)).sI _ (show I3c 2 1 from ⟨rfl, rfl⟩)).trans q4, (((Fr.rf τ).sA _ (show A3r 6 from rfl)).sI _ (show I3r 0 10 from ⟨rfl, rfl⟩)).trans q5⟩
    · rw [show m + (r + 1) + 2 = m + r + 2 + 1 by omega, k_X6_take_3]
      simp (disch := omega) only [↓mI_e, lit, ofN, bsm, nI_add, pk_mul, pk_sub, nI_e, nI_leE, nI_ltE, nI_mI, mI_nI, mI_lt, nlt_mI, mI_le, nle_mI, nI_addm, sh_b, bI_0, bI_1, bI_bI, ckZ_b, ckZ_n0, ckZ_n1, stIe, stJe, stZ_n0, stZ_n1, rm_nI, dv_nI, if_true, if_false, if_pos, if_neg, rf0, rf1, rf5, rf6, rf7, rf8, rf9, rf20, rf23, rf24, rf25, rf26, rf29, rf31, rf33, rf34, rf35, rf37, rf38, rf41, rf42, rf43,  h.1, show LC.2.1 2 0 = 3 from rfl, s1, gI_sA, h.1, add_m8, e8]
      exact q1
    · rw [show m + (r + 1) + 2 = m + r + 2 + 1 by omega, k_X12_four_3]
      simp (disch := omega) only [↓mI_e, lit, ofN, bsm, nI_add, pk_mul, pk_sub, nI_e, nI_leE, nI_ltE, nI_mI, mI_nI, mI_lt, nlt_mI, mI_le, nle_mI, nI_addm, sh_b, bI_0, bI_1, bI_bI, ckZ_b, ckZ_n0, ckZ_n1, stIe, stJe, stZ_n0, stZ_n1, rm_nI, dv_nI, if_true, if_false, if_pos, if_neg, rf0, rf1, rf5, rf6, rf7, rf8, rf9, rf20, rf23, rf24, rf25, rf26, rf29, rf31, rf33, rf34, rf35, rf37, rf38, rf41, rf42, rf43,  h.2.1, sr6, gI_sA, add_m8, e8]
      exact q2
theorem feed4 (v : Int32) {n : Nat} {σ τ : ST} (hn : n + 4 ≤ 900) (h : T3 n σ τ) : ∃ σ1 τ1, f_X6_take 2 v σ = some σ1 ∧ f_X12_four 0 v τ = some τ1 ∧ T3 (n + 4) σ1 τ1 ∧ Fr I3c A3c σ σ1 ∧ Fr I3r A3r τ τ1 := by
  obtain ⟨F, hF, hF2⟩ : ∃ F, FU = F ∧ 5000 < F := ⟨FU, rfl, by unfold FU; omega⟩
  obtain ⟨m, rfl⟩ : ∃ m, F = m + 3 + 2 := ⟨F - 5, by omega⟩
  rw [f_X6_take, f_X12_four, hF]
  exact feed_loop v 3 n m σ τ (by omega) (by omega) h
theorem sim_feed (i : Nat) : SIM_feed (Rel i) (Rel (i + 6)) := by
  intro a0 a1 a2 a3 a4 σ τ h
  obtain ⟨⟨n, hn, t1, t2, t3⟩, t4, t5⟩ := h.2.2.1
  show Sm i _ _
  have c1 : LC.2.1 0 1 = 2 := rfl
  by_cases z : n ≤ 880
  · obtain ⟨σ1, τ1, p1, r1, k1, f1, g1⟩ := feed4 a0 (by omega) (show T3 n σ τ from ⟨t1, t2, t3⟩)
    obtain ⟨σ2, τ2, p2, r2, k2, f2, g2⟩ := feed4 a1 (by omega) k1
    obtain ⟨σ3, τ3, p3, r3, k3, f3, g3⟩ := feed4 a2 (by omega) k2
    obtain ⟨σ4, τ4, p4, r4, k4, f4, g4⟩ := feed4 a3 (by omega) k3
    obtain ⟨σ5, τ5, p5, r5, k5, f5, g5⟩ := feed4 a4 (by omega) k4
    have hσ := (((f1.trans f2).trans f3).trans f4).trans f5
    have hτ := (((g1.trans g2).trans g3).trans g4).trans g5
    refine ⟨nI (n + 4 + 4 + 4 + 4 + 4), σ5, τ5, ?_, ?_, ?_⟩
    · simp (disch := omega) only [↓mI_e, lit, ofN, bsm, nI_add, pk_mul, pk_sub, nI_e, nI_leE, nI_ltE, nI_mI, mI_nI, mI_lt, nlt_mI, mI_le, nle_mI, nI_addm, sh_b, bI_0, bI_1, bI_bI, ckZ_b, ckZ_n0, ckZ_n1, stIe, stJe, stZ_n0, stZ_n1, rm_nI, dv_nI, if_true, if_false, if_pos, if_neg, rf0, rf1, rf5, rf6, rf7, rf8, rf9, rf20, rf23, rf24, rf25, rf26, rf29, rf31, rf33, rf34, rf35, rf37, rf38, rf41, rf42, rf43,  f_X11_feed, c1, t1, p1, p2, p3, p4, p5, k5.1]
    · simp (disch := omega) only [↓mI_e, lit, ofN, bsm, nI_add, pk_mul, pk_sub, nI_e, nI_leE, nI_ltE, nI_mI, mI_nI, mI_lt, nlt_mI, mI_le, nle_mI, nI_addm, sh_b, bI_0, bI_1, bI_bI, ckZ_b, ckZ_n0, ckZ_n1, stIe, stJe, stZ_n0, stZ_n1, rm_nI, dv_nI, if_true, if_false, if_pos, if_neg, rf0, rf1, rf5, rf6, rf7, rf8, rf9, rf20, rf23, rf24, rf25, rf26, rf29, rf31, rf33, rf34, rf35, rf37, rf38, rf41, rf42, rf43,  f_X12_feed, t2, r1, r2, r3, r4, r5, k5.2.1]
    · obtain ⟨h1, h2, h3, h4, h5, h6⟩ := h
      have cI : ∀ x k, x ≠ 2 → gI σ5 x k = gI σ x k := fun x k a => (hσ.1 x k (fun q => a q.1)).1
      have cJ : ∀ x k, x ≠ 2 → gJ σ5 x k = gJ σ x k := fun x k a => (hσ.1 x k (fun q => a q.1)).2
      have cA : ∀ x, x ≠ 3 → gA σ5 x = gA σ x := fun x a => (hσ.2 x a).1
      have cB : ∀ x, x ≠ 3 → gB σ5 x = gB σ x := fun x a => (hσ.2 x a).2
      have tI : ∀ k, k ≠ 10 → gI τ5 0 k = gI τ 0 k := fun k a => (hτ.1 0 k (fun q => a q.2)).1
      have tJ : ∀ k, k ≠ 10 → gJ τ5 0 k = gJ τ 0 k := fun k a => (hτ.1 0 k (fun q => a q.2)).2
      have tA : ∀ x, x ≠ 6 → gA τ5 x = gA τ x := fun x a => (hτ.2 x a).1
      have tB : ∀ x, x ≠ 6 → gB τ5 x = gB τ x := fun x a => (hτ.2 x a).2
      refine ⟨⟨?_, ?_, ?_⟩, R2_c h2 (fun x k a b => cI x k (by omega)) (fun x a b => cB x (by omega)) (tA 3 (by decide)) (tA 4 (by decide)) (tB 5 (by decide)), ⟨⟨_, by omega, k5.1, k5.2.1, k5.2.2⟩, ?_, ?_⟩, R4_c h4 (cI 0 18 (by decide)) (cI 0 19 (by decide)) (cI 78 1 (by decide)) (cA 100 (by decide)) (cA 79 (by decide)) (tI 32 (by decide)) (tI 28 (by decide)) (tI 44 (by decide)) (tA 14 (by decide)) (tA 22 (by decide)), ?_, RM_c h6 (by omega) (cI 0 17 (by decide)) (tI 46 (by decide)) (fun x a b => ⟨fun k => cI x k (by omega), fun k => cJ x k (by omega), cA x (by omega), cB x (by omega)⟩) (fun k _ _ => by rw [tA 1 (by decide)]) (tB 2 (by decide))⟩
      · rw [cI 0 14 (by decide), tI 2 (by decide)]; exact h1.1
      · rw [cJ 0 15 (by decide), tJ 3 (by decide)]; exact h1.2.1
      · rw [cJ 0 16 (by decide), tJ 4 (by decide)]; exact h1.2.2
      · rw [tI 16 (by decide)]; rw [← t4]; exact (hσ.1 2 2 (fun q => absurd q.2 (by decide))).1
      · rw [tI 17 (by decide)]; rw [← t5]; exact (hσ.1 2 3 (fun q => absurd q.2 (by decide))).1
      · rw [wv_same (σ := σ) (σ' := σ5) (w := wM) (fun x a b => by
          unfold wM at a b
          exact ⟨fun k => cI x k (by omega), fun k => cJ x k (by omega), cA x (by omega), cB x (by omega)⟩), tA 1 (by decide), tB 2 (by decide)]
        exact RelW_mono (by omega) h5
  · refine ⟨mI, σ, τ, ?_, ?_, Rel_id h⟩
    · simp (disch := omega) only [↓mI_e, lit, ofN, bsm, nI_add, pk_mul, pk_sub, nI_e, nI_leE, nI_ltE, nI_mI, mI_nI, mI_lt, nlt_mI, mI_le, nle_mI, nI_addm, sh_b, bI_0, bI_1, bI_bI, ckZ_b, ckZ_n0, ckZ_n1, stIe, stJe, stZ_n0, stZ_n1, rm_nI, dv_nI, if_true, if_false, if_pos, if_neg, rf0, rf1, rf5, rf6, rf7, rf8, rf9, rf20, rf23, rf24, rf25, rf26, rf29, rf31, rf33, rf34, rf35, rf37, rf38, rf41, rf42, rf43,  f_X11_feed, c1, t1]
    · simp (disch := omega) only [↓mI_e, lit, ofN, bsm, nI_add, pk_mul, pk_sub, nI_e, nI_leE, nI_ltE, nI_mI, mI_nI, mI_lt, nlt_mI, mI_le, nle_mI, nI_addm, sh_b, bI_0, bI_1, bI_bI, ckZ_b, ckZ_n0, ckZ_n1, stIe, stJe, stZ_n0, stZ_n1, rm_nI, dv_nI, if_true, if_false, if_pos, if_neg, rf0, rf1, rf5, rf6, rf7, rf8, rf9, rf20, rf23, rf24, rf25, rf26, rf29, rf31, rf33, rf34, rf35, rf37, rf38, rf41, rf42, rf43,  f_X12_feed, t2]
