theorem sim_bury (i : Nat) : SIM_bury (Rel i) (Rel (i + 6)) := by
  intro a0 σ τ h
  have hW := h.2.2.2.2.1
  obtain ⟨hS, hU, _, hG, hV, hH, _⟩ := id hW
  have hK := hS.1.1
  have hY := hS.1.2.1
  have hw := wM_w
  show Sm i _ _
  rcases key_cases hS.1 a0 with hb | ⟨y, hy, rfl⟩
  · rw [f_X11_bury, f_X12_bury, c_isKey_no hS hb, r_isKey_no hb, bsm, bsm, if_pos (show nI 0 = (0 : Int32) from rfl), if_pos (show nI 0 = (0 : Int32) from rfl)]
    simp (disch := omega) only [↓mI_e, lit, ofN, bsm, nI_add, pk_mul, pk_sub, nI_e, nI_leE, nI_ltE, nI_mI, mI_nI, mI_lt, nlt_mI, mI_le, nle_mI, nI_addm, sh_b, bI_0, bI_1, bI_bI, ckZ_b, ckZ_n0, ckZ_n1, stIe, stJe, stZ_n0, stZ_n1, rm_nI, dv_nI, if_true, if_false, if_pos, if_neg, rf0, rf1, rf5, rf6, rf7, rf8, rf9, rf20, rf23, rf24, rf25, rf26, rf29, rf31, rf33, rf34, rf35, rf37, rf38, rf41, rf42, rf43,  c_refuse, r_refuse]
    exact Sm_0 h _ _
  · have n10 : (nI 1 = nI 0) = False := eq_false (by decide)
    cases hs : sm (gA τ 1) y
    · obtain ⟨g9, a1, a2⟩ := r_isAlike hS.1 hy
      have a3 := c_isAlike hw hS hH hy
      obtain ⟨P, g9', p1, p2, p3⟩ := r_placesOf (τ := sA τ 9 g9) (y := y) hS.1 hy
      rw [sA_sA] at p1
      have eP : gA σ (wM + 7) y = P := bt_ext (fun k _ => (hS.2.2.2.2.2.2.1 y hy k).trans (p2 k).symm)
      have e9 : gI σ wM 9 = gA τ 1 5 := hU.1
      have l5 : gA (sA τ 9 g9') 1 5 = gA τ 1 5 := rfl
      cases za : alk (gA τ 1) y
      · rw [za] at a1 a3
        by_cases zu : P &&& (gA τ 1 5 ^^^ mI) = nI 0
        · simp (disch := omega) only [↓mI_e, lit, ofN, bsm, nI_add, pk_mul, pk_sub, nI_e, nI_leE, nI_ltE, nI_mI, mI_nI, mI_lt, nlt_mI, mI_le, nle_mI, nI_addm, sh_b, bI_0, bI_1, bI_bI, ckZ_b, ckZ_n0, ckZ_n1, stIe, stJe, stZ_n0, stZ_n1, rm_nI, dv_nI, if_true, if_false, if_pos, if_neg, rf0, rf1, rf5, rf6, rf7, rf8, rf9, rf20, rf23, rf24, rf25, rf26, rf29, rf31, rf33, rf34, rf35, rf37, rf38, rf41, rf42, rf43,  f_X11_bury, k_X11_bury_61, f_X12_bury, k_X12_bury_47, c_isKey_yes hS hy, r_isKey_y hS.1 hy, c02, w_0 hw, ws_5 hw, c_isSum hw hS, r_isSum, hs, lw7 hw, eP, f_X10_areUp, k_X10_areUp_16, e9, zu, n10, a3, a1, bI_f, c_refuse, r_refuse]
          exact Sm_1 h ((Sc.rf τ).sA _ rfl) rfl _ _
        · simp (disch := omega) only [↓mI_e, lit, ofN, bsm, nI_add, pk_mul, pk_sub, nI_e, nI_leE, nI_ltE, nI_mI, mI_nI, mI_lt, nlt_mI, mI_le, nle_mI, nI_addm, sh_b, bI_0, bI_1, bI_bI, ckZ_b, ckZ_n0, ckZ_n1, stIe, stJe, stZ_n0, stZ_n1, rm_nI, dv_nI, if_true, if_false, if_pos, if_neg, rf0, rf1, rf5, rf6, rf7, rf8, rf9, rf20, rf23, rf24, rf25, rf26, rf29, rf31, rf33, rf34, rf35, rf37, rf38, rf41, rf42, rf43,  f_X11_bury, k_X11_bury_61, f_X12_bury, k_X12_bury_47, c_isKey_yes hS hy, r_isKey_y hS.1 hy, c02, w_0 hw, ws_5 hw, c_isSum hw hS, r_isSum, hs, lw7 hw, eP, f_X10_areUp, k_X10_areUp_16, e9, zu, n10, a1, bI_f, c_refuse, r_refuse]
          exact Sm_1 h ((Sc.rf τ).sA _ rfl) rfl _ _
      · rw [za] at a1 a3
        by_cases zu : P &&& (gA τ 1 5 ^^^ mI) = nI 0
        · obtain ⟨Gs, hGs⟩ := Classical.axiomOfChoice (show ∀ k, ∃ G : Int32, k < 6 → ∀ j, bt G j = (decide (j < gv (gA τ 1) k y) && grv (gA τ 1) y k j) from fun k => by
            by_cases hk : k < 6
            · obtain ⟨G, _, h2⟩ := c_graves hw hG hV (show y < 6 by omega) hk
              exact ⟨G, fun _ => h2⟩
            · exact ⟨nI 0, fun z => absurd z hk⟩)
          have b1 : k_X10_buryGraves_4 FU wM (nI y) (nI 0) (nI 0) σ = some (nI (cnB y Gs (gA σ (wM + 16)) (rw6 (gA τ 1) y 0) (KN (gA τ 1))), sA σ (wM + 16) (clK (gA τ 1) y Gs (gA σ (wM + 16)) (KN (gA τ 1)))) := c_bury_4 hw hy hGs (gA σ (wM + 16)) FU 0 σ hS hG hV (by omega) (by unfold FU; omega) rfl
          obtain ⟨τ1, b2, b3, b4⟩ := r_bury_58 hS.1 hy hs FU 0 (sA τ 9 g9') (by omega) (by unfold FU; unfold pm; split <;> omega) ⟨fun _ _ => rfl, fun p _ => ⟨fun _ _ _ => rfl, fun z => by unfold Sm0 at z; have := of_decide_eq_true z; omega⟩⟩ p3
          have b2' : k_X12_bury_58 FU 0 (nI y) (nI 0) (nI 0) (sA τ 9 g9') = some (nI (cA (gA τ 1) y (pm (gA τ 1))), sI τ1 0 2 (nI 0)) := b2
          have ec : cnB y Gs (gA σ (wM + 16)) (rw6 (gA τ 1) y 0) (KN (gA τ 1)) = cA (gA τ 1) y (pm (gA τ 1)) := by
            have hpm : pm (gA τ 1) ≤ KN (gA τ 1) := pm_le
            by_cases hk0 : KN (gA τ 1) = 0
            · rw [hk0, show pm (gA τ 1) = 0 by omega]; rfl
            · have hp1 : 1 ≤ pm (gA τ 1) := by have := hS.1.2.2.1; unfold pm; split <;> omega
              have hr0 : rw6 (gA τ 1) y 0 < KN (gA τ 1) := rw6_lt hS.1 hy (by omega)
              have hHp := hH (rw6 (gA τ 1) y 0) y (by omega) (by omega)
              rw [hs] at hHp
              have hbt : ∀ k, k < 6 → ∀ j, bt (gA τ 1 (tb (rw6 (gA τ 1) y 0) y + k)) j = true → j < gv (gA τ 1) k y ∧ gv (gA τ 1) k y ≤ 30 := fun k hk j hj => by
                have h1 := hHp.2 k hk
                simp only [Bool.false_eq_true, if_false] at h1
                have h2 := h1.2 j hj
                have h3 := (hG.2 k y hk (by omega)).1
                exact ⟨by omega, h3⟩
              have e1 := cnB_cnt (p0 := rw6 (gA τ 1) y 0) hGs (R := gA σ (wM + 16)) (fun k hk => by
                have h1 := hHp.1 k hk
                simp only [Bool.false_eq_true, if_false] at h1
                exact h1.1) hbt (KN (gA τ 1)) hK
              obtain ⟨q, hq⟩ : ∃ q, pm (gA τ 1) = q + 1 := ⟨pm (gA τ 1) - 1, by omega⟩
              have e2 : cnt (sd (gA τ 1) (tb (rw6 (gA τ 1) y 0) y) y) 180 = cnt (sd (gA τ 1) (tb (rw6 (gA τ 1) y 0) y) y) (30 * KN (gA τ 1)) := cnt_tail 180 (by omega) (fun d h1 h2 => by
                cases z : std (sh (gA τ 1) (tb (rw6 (gA τ 1) y 0) y)) d
                · unfold sd; rw [z]; rfl
                · have h3 := hbt (d / 30) (by omega) (d % 30) z
                  have h4 := (hG.2 (d / 30) y (by omega) (by omega)).2 (Or.inl (by omega))
                  omega)
              rw [e1, ← e2, hq]
              show _ = cnt (sd (gA τ 1) (tb (rw6 (gA τ 1) y q) y) y) 180
              by_cases hq0 : q = 0
              · rw [hq0]
              · have z1 := of_decide_eq_true za q (by omega) (by omega)
                exact cnt_congr 180 (sd_like (of_decide_eq_true z1))
          simp (disch := omega) only [↓mI_e, lit, ofN, bsm, nI_add, pk_mul, pk_sub, nI_e, nI_leE, nI_ltE, nI_mI, mI_nI, mI_lt, nlt_mI, mI_le, nle_mI, nI_addm, sh_b, bI_0, bI_1, bI_bI, ckZ_b, ckZ_n0, ckZ_n1, stIe, stJe, stZ_n0, stZ_n1, rm_nI, dv_nI, if_true, if_false, if_pos, if_neg, rf0, rf1, rf5, rf6, rf7, rf8, rf9, rf20, rf23, rf24, rf25, rf26, rf29, rf31, rf33, rf34, rf35, rf37, rf38, rf41, rf42, rf43,  f_X11_bury, k_X11_bury_61, f_X12_bury, k_X12_bury_47, c_isKey_yes hS hy, r_isKey_y hS.1 hy, c02, w_0 hw, ws_5 hw, c_isSum hw hS, r_isSum, hs, lw7 hw, eP, f_X10_areUp, k_X10_areUp_16, e9, zu, n10, a3, a1, bI_t, p1, lr1, l5, c_answer, f_X10_buryGraves, b1, b2', ec]
          refine ⟨_, _, _, rfl, rfl, ?_⟩
          have hF : ∀ j, 462 ≤ j → gA τ1 1 j = gA τ 1 j := fun j hj => b3.1 j (fun p hp z => by unfold tb at z; omega)
          have b5 : Sc [2] τ (sI τ1 0 2 (nI 0)) := (((Sc.rf τ).sA g9' rfl).trans b4).sI _ rfl
          refine Rel_w h ((SqW_sA hw (Sq.rf σ) (x := 16) (by decide) _).sI _ rfl) (b5.mono (fun k hk => by simp at hk ⊢; exact hk.1)) ⟨?_, ?_, ?_⟩ ?_ (fun k h1 _ => hF k (by omega)) ?_
          · rw [gI_sI, gI_sI, if_pos ⟨rfl, rfl⟩, if_pos ⟨rfl, rfl⟩]
          · rw [b5.2.1 3 rfl]; exact h.1.2.1
          · rw [b5.2.1 4 rfl]; exact h.1.2.2
          · rw [b5.1 28 rfl rfl]; exact h.2.2.2.1.2.1
          · rw [wv_sI_out _ (Or.inl (by decide)), wv_sA _ _ (by decide)]
            have h9 := RelW_bury hW hy hs b3 hGs
            exact RelW_mono (by omega) h9
        · simp (disch := omega) only [↓mI_e, lit, ofN, bsm, nI_add, pk_mul, pk_sub, nI_e, nI_leE, nI_ltE, nI_mI, mI_nI, mI_lt, nlt_mI, mI_le, nle_mI, nI_addm, sh_b, bI_0, bI_1, bI_bI, ckZ_b, ckZ_n0, ckZ_n1, stIe, stJe, stZ_n0, stZ_n1, rm_nI, dv_nI, if_true, if_false, if_pos, if_neg, rf0, rf1, rf5, rf6, rf7, rf8, rf9, rf20, rf23, rf24, rf25, rf26, rf29, rf31, rf33, rf34, rf35, rf37, rf38, rf41, rf42, rf43,  f_X11_bury, k_X11_bury_61, f_X12_bury, k_X12_bury_47, c_isKey_yes hS hy, r_isKey_y hS.1 hy, c02, w_0 hw, ws_5 hw, c_isSum hw hS, r_isSum, hs, lw7 hw, eP, f_X10_areUp, k_X10_areUp_16, e9, zu, n10, a1, bI_t, p1, lr1, l5, c_refuse, r_refuse]
          exact Sm_1 h ((Sc.rf τ).sA _ rfl) rfl _ _
    · simp (disch := omega) only [↓mI_e, lit, ofN, bsm, nI_add, pk_mul, pk_sub, nI_e, nI_leE, nI_ltE, nI_mI, mI_nI, mI_lt, nlt_mI, mI_le, nle_mI, nI_addm, sh_b, bI_0, bI_1, bI_bI, ckZ_b, ckZ_n0, ckZ_n1, stIe, stJe, stZ_n0, stZ_n1, rm_nI, dv_nI, if_true, if_false, if_pos, if_neg, rf0, rf1, rf5, rf6, rf7, rf8, rf9, rf20, rf23, rf24, rf25, rf26, rf29, rf31, rf33, rf34, rf35, rf37, rf38, rf41, rf42, rf43,  f_X11_bury, k_X11_bury_61, f_X12_bury, k_X12_bury_47, c_isKey_yes hS hy, r_isKey_y hS.1 hy, c02, w_0 hw, c_isSum hw hS, r_isSum, hs, n10, Bool.true_eq_false, c_refuse, r_refuse]
      exact Sm_0 h _ _
