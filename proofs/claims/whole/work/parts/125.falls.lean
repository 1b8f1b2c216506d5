/-! FEWEST FALLS -/
theorem reach_cnt {f : Nat → Int32} (hf : WFs f) {y a : Nat} (hy : y < YN f) {P : Int32} (hP : ∀ k, bt P k = (isPl f y k && rch f a k)) : pcN (vN P) = cnt (rp f y a) (pm f) := by
  have hK := hf.1
  rw [pc_bt_m P (m := KN f) (by omega) (fun i hi => by rw [hP, isPl_no hi]; rfl), ← rp_cnt hf hy, rp_keep hf hy]
  exact cnt_congr _ (fun i _ => hP i)
theorem sim_fewestFalls (i : Nat) : SIM_fewestFalls (Rel i) (Rel (i + 6)) := by
  intro a0 a1 σ τ h
  have hW := h.2.2.2.2.1
  obtain ⟨hS, hU, _⟩ := id hW
  have hK := hS.1.1
  have hY := hS.1.2.1
  have hR := hS.1.2.2.2.1
  have hN := hS.1.2.2.1
  have hw := wM_w
  have n10 : (nI 1 = nI 0) = False := eq_false (by decide)
  show Sm i _ _
  rcases key_cases hS.1 a0 with hb | ⟨y, hy, rfl⟩
  · simp (disch := omega) only [↓mI_e, lit, ofN, bsm, nI_add, pk_mul, pk_sub, nI_e, nI_leE, nI_ltE, nI_mI, mI_nI, mI_lt, nlt_mI, mI_le, nle_mI, nI_addm, sh_b, bI_0, bI_1, bI_bI, ckZ_b, ckZ_n0, ckZ_n1, stIe, stJe, stZ_n0, stZ_n1, rm_nI, dv_nI, if_true, if_false, if_pos, if_neg, rf0, rf1, rf5, rf6, rf7, rf8, rf9, rf20, rf23, rf24, rf25, rf26, rf29, rf31, rf33, rf34, rf35, rf37, rf38, rf41, rf42, rf43,  f_X11_fewestFalls, k_X11_fewestFalls_118, k_X11_fewestFalls_16, k_X11_fewestFalls_94, f_X12_fewestFalls, k_X12_fewestFalls_16, k_X12_fewestFalls_60, k_X12_fewestFalls_97, c_isKey_no hS hb, r_isKey_no hb, c_refuse, r_refuse]
    exact Sm_0 h _ _
  · rcases keeper_cases hS.1 a1 with hb | ⟨a, ha, rfl⟩
    · simp (disch := omega) only [↓mI_e, lit, ofN, bsm, nI_add, pk_mul, pk_sub, nI_e, nI_leE, nI_ltE, nI_mI, mI_nI, mI_lt, nlt_mI, mI_le, nle_mI, nI_addm, sh_b, bI_0, bI_1, bI_bI, ckZ_b, ckZ_n0, ckZ_n1, stIe, stJe, stZ_n0, stZ_n1, rm_nI, dv_nI, if_true, if_false, if_pos, if_neg, rf0, rf1, rf5, rf6, rf7, rf8, rf9, rf20, rf23, rf24, rf25, rf26, rf29, rf31, rf33, rf34, rf35, rf37, rf38, rf41, rf42, rf43,  f_X11_fewestFalls, k_X11_fewestFalls_118, k_X11_fewestFalls_16, k_X11_fewestFalls_94, f_X12_fewestFalls, k_X12_fewestFalls_16, k_X12_fewestFalls_60, k_X12_fewestFalls_97, c_isKey_yes hS hy, r_isKey_y hS.1 hy, c_isKeeper_no hS hb, r_isKeeper_no hb, c_refuse, r_refuse]
      exact Sm_0 h _ _
    · obtain ⟨P, p1, p2⟩ := c_placesReached hw hS hU hy (a := a) (by omega)
      have pc := reach_cnt hS.1 hy p2
      have hcl := cnt_le (rp (gA τ 1) y a) (pm (gA τ 1))
      have hpm := pm_le (f := gA τ 1)
      obtain ⟨gr, G, c1, c2, _⟩ := r_canGet hS.1 hy (a := a) (by omega)
      obtain ⟨τ0, hτ0⟩ : ∃ τ0, τ0 = sI (sA (sA τ 9 gr) 13 G) 0 30 (nI (cnt (rp (gA τ 1) y a) (pm (gA τ 1)))) := ⟨_, rfl⟩
      rw [← hτ0] at c1
      have sc0 : ∀ e, Sc e τ τ0 := fun e => by rw [hτ0]; exact (((Sc.rf τ).sA _ rfl).sA _ rfl).sI _ rfl
      have g0 : gA τ0 1 = gA τ 1 := by rw [hτ0]; rfl
      have g30 : gI τ0 0 30 = nI (cnt (rp (gA τ 1) y a) (pm (gA τ 1))) := by rw [hτ0, gI_sI, if_pos ⟨rfl, rfl⟩]
      obtain ⟨g9, q1⟩ := r_isPlace (τ := τ0) (y := y) (k := a) (by rw [g0]; exact hS.1) (by rw [g0]; exact hy) (by omega)
      rw [g0] at q1
      generalize cnt (rp (gA τ 1) y a) (pm (gA τ 1)) = N at *
      have e10 : gI σ (wM + 1) 10 = nI (RN (gA τ 1)) := hS.2.1.2.2.2.1.trans (eR _)
      have g30' : gI (sA τ0 9 g9) 0 30 = nI N := g30
      have g1' : gA (sA τ0 9 g9) 1 1 = nI (RN (gA τ 1)) := by show gA τ0 1 1 = _; rw [g0]; exact eR _
      have ep := c_isPlace hw hS hy (k := a) (by omega)
      by_cases hr : RN (gA τ 1) ≤ N
      · have hd := decide_eq_true hr
        rw [hd] at c1
        have m1 : gA (sA τ0 9 g9) 1 = gA τ 1 := g0
        have s1 : Sc [2] τ (sA τ0 9 g9) := (sc0 _).sA (x := 9) _ rfl
        cases hp : isPl (gA τ 1) y a
        · rw [hp] at q1 ep
          simp (disch := omega) only [↓mI_e, lit, ofN, bsm, nI_add, pk_mul, pk_sub, nI_e, nI_leE, nI_ltE, nI_mI, mI_nI, mI_lt, nlt_mI, mI_le, nle_mI, nI_addm, sh_b, bI_0, bI_1, bI_bI, ckZ_b, ckZ_n0, ckZ_n1, stIe, stJe, stZ_n0, stZ_n1, rm_nI, dv_nI, if_true, if_false, if_pos, if_neg, rf0, rf1, rf5, rf6, rf7, rf8, rf9, rf20, rf23, rf24, rf25, rf26, rf29, rf31, rf33, rf34, rf35, rf37, rf38, rf41, rf42, rf43,  f_X11_fewestFalls, k_X11_fewestFalls_118, k_X11_fewestFalls_16, k_X11_fewestFalls_94, f_X12_fewestFalls, k_X12_fewestFalls_16, k_X12_fewestFalls_60, k_X12_fewestFalls_97, c_isKey_yes hS hy, r_isKey_y hS.1 hy, c_isKeeper_yes hS ha, r_isKeeper_y hS.1 ha, c02, w_0 hw, p1, bitCount_eq, pc, e10, hr, ep, q1, c1, bI_f, bI_t, n10, g30', g1', lr1, c_refuse, r_refuse, c_answer, r_gives]
          exact Sm_1 h s1 m1 _ _
        · rw [hp] at q1 ep
          by_cases z : N - RN (gA τ 1) + 1 ≤ N - 1
          · simp (disch := omega) only [↓mI_e, lit, ofN, bsm, nI_add, pk_mul, pk_sub, nI_e, nI_leE, nI_ltE, nI_mI, mI_nI, mI_lt, nlt_mI, mI_le, nle_mI, nI_addm, sh_b, bI_0, bI_1, bI_bI, ckZ_b, ckZ_n0, ckZ_n1, stIe, stJe, stZ_n0, stZ_n1, rm_nI, dv_nI, if_true, if_false, if_pos, if_neg, rf0, rf1, rf5, rf6, rf7, rf8, rf9, rf20, rf23, rf24, rf25, rf26, rf29, rf31, rf33, rf34, rf35, rf37, rf38, rf41, rf42, rf43,  f_X11_fewestFalls, k_X11_fewestFalls_118, k_X11_fewestFalls_16, k_X11_fewestFalls_94, f_X12_fewestFalls, k_X12_fewestFalls_16, k_X12_fewestFalls_60, k_X12_fewestFalls_97, c_isKey_yes hS hy, r_isKey_y hS.1 hy, c_isKeeper_yes hS ha, r_isKeeper_y hS.1 ha, c02, w_0 hw, p1, bitCount_eq, pc, e10, hr, ep, q1, c1, bI_f, bI_t, n10, g30', g1', lr1, c_refuse, r_refuse, c_answer, r_gives, z]
            exact Sm_1 h s1 m1 _ _
          · simp (disch := omega) only [↓mI_e, lit, ofN, bsm, nI_add, pk_mul, pk_sub, nI_e, nI_leE, nI_ltE, nI_mI, mI_nI, mI_lt, nlt_mI, mI_le, nle_mI, nI_addm, sh_b, bI_0, bI_1, bI_bI, ckZ_b, ckZ_n0, ckZ_n1, stIe, stJe, stZ_n0, stZ_n1, rm_nI, dv_nI, if_true, if_false, if_pos, if_neg, rf0, rf1, rf5, rf6, rf7, rf8, rf9, rf20, rf23, rf24, rf25, rf26, rf29, rf31, rf33, rf34, rf35, rf37, rf38, rf41, rf42, rf43,  f_X11_fewestFalls, k_X11_fewestFalls_118, k_X11_fewestFalls_16, k_X11_fewestFalls_94, f_X12_fewestFalls, k_X12_fewestFalls_16, k_X12_fewestFalls_60, k_X12_fewestFalls_97, c_isKey_yes hS hy, r_isKey_y hS.1 hy, c_isKeeper_yes hS ha, r_isKeeper_y hS.1 ha, c02, w_0 hw, p1, bitCount_eq, pc, e10, hr, ep, q1, c1, bI_f, bI_t, n10, g30', g1', lr1, c_refuse, r_refuse, c_answer, r_gives, z]
            exact Sm_1 h s1 m1 _ _
      · have hd := decide_eq_false hr
        rw [hd] at c1
        simp (disch := omega) only [↓mI_e, lit, ofN, bsm, nI_add, pk_mul, pk_sub, nI_e, nI_leE, nI_ltE, nI_mI, mI_nI, mI_lt, nlt_mI, mI_le, nle_mI, nI_addm, sh_b, bI_0, bI_1, bI_bI, ckZ_b, ckZ_n0, ckZ_n1, stIe, stJe, stZ_n0, stZ_n1, rm_nI, dv_nI, if_true, if_false, if_pos, if_neg, rf0, rf1, rf5, rf6, rf7, rf8, rf9, rf20, rf23, rf24, rf25, rf26, rf29, rf31, rf33, rf34, rf35, rf37, rf38, rf41, rf42, rf43,  f_X11_fewestFalls, k_X11_fewestFalls_118, k_X11_fewestFalls_16, k_X11_fewestFalls_94, f_X12_fewestFalls, k_X12_fewestFalls_16, k_X12_fewestFalls_60, k_X12_fewestFalls_97, c_isKey_yes hS hy, r_isKey_y hS.1 hy, c_isKeeper_yes hS ha, r_isKeeper_y hS.1 ha, c02, w_0 hw, p1, bitCount_eq, pc, e10, hr, c1, bI_f, c_refuse, r_refuse]
        exact Sm_1 h (sc0 _) g0 _ _
