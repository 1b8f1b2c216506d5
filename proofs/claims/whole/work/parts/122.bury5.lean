theorem put12_self (f : Nat → Int32) (ad : Nat) : put12 f ad (sh f ad) = f := by
  funext j
  unfold put12 sh
  by_cases z : ad ≤ j ∧ j < ad + 12
  · rw [if_pos z, show ad + (j - ad) = j by omega]
  · rw [if_neg z]
theorem Bu_0 (f : Nat → Int32) (ad y : Nat) : Bu f ad y 0 (sh f ad) := by
  refine ⟨fun _ _ => rfl, fun k hk j => ?_⟩
  have e : dB f ad y 0 (30 * k + j) = false := by
    unfold dB
    rw [decide_eq_false (by omega), Bool.and_false, Bool.and_false]
  rw [e, Bool.and_false, Bool.not_false, Bool.and_true]
  rfl
theorem r_bury_58 {f : Nat → Int32} (hWF : WFs f) {y : Nat} (hy : y < YN f) (hs : sm f y = false) : ∀ (n m : Nat) (τ : ST), m ≤ pm f → pm f - m < n → BF f (gA τ 1) y m → (∀ i, i < KN f → gA τ 9 i = nI (rw6 f y i)) → ∃ τ1, k_X12_bury_58 n 0 (nI y) (nI (cA f y m)) (nI m) τ = some (nI (cA f y (pm f)), sI τ1 0 2 (nI 0)) ∧ BF f (gA τ1 1) y (pm f) ∧ Sc [2] τ τ1 := by
  obtain ⟨hK, hY, hN, _⟩ := id hWF
  have hpk : pm f ≤ KN f := pm_le
  obtain ⟨F, hF, hF2⟩ : ∃ F, FU = F ∧ 5000 < F := ⟨FU, rfl, by unfold FU; omega⟩
  intro n
  induction n with
  | zero => intros; omega
  | succ n ih =>
    intro m τ hm hn hB h9
    have out : ∀ j, (j < 30 ∨ 462 ≤ j) → gA τ 1 j = f j := fun j hj => hB.1 j (fun p hp => by unfold tb; omega)
    have e0 : gA τ 1 0 = nI (NN f) := by rw [out 0 (by omega)]; exact eN f
    have e3 : gA τ 1 3 = nI (KN f) := by rw [out 3 (by omega)]; exact eK f
    have hpm : f_X12_placeMany 0 τ = some (nI (pm f), τ) := by
      unfold pm
      by_cases z : KN f ≤ NN f
      · rw [if_pos z]
        simp (disch := omega) only [↓mI_e, lit, ofN, bsm, nI_add, pk_mul, pk_sub, nI_e, nI_leE, nI_ltE, nI_mI, mI_nI, mI_lt, nlt_mI, mI_le, nle_mI, nI_addm, sh_b, bI_0, bI_1, bI_bI, ckZ_b, ckZ_n0, ckZ_n1, stIe, stJe, stZ_n0, stZ_n1, rm_nI, dv_nI, if_true, if_false, if_pos, if_neg, rf0, rf1, rf5, rf6, rf7, rf8, rf9, rf20, rf23, rf24, rf25, rf26, rf29, rf31, rf33, rf34, rf35, rf37, rf38, rf41, rf42, rf43,  f_X12_placeMany, k_X12_placeMany_30, lr1, e0, e3]
      · rw [if_neg z]
        simp (disch := omega) only [↓mI_e, lit, ofN, bsm, nI_add, pk_mul, pk_sub, nI_e, nI_leE, nI_ltE, nI_mI, mI_nI, mI_lt, nlt_mI, mI_le, nle_mI, nI_addm, sh_b, bI_0, bI_1, bI_bI, ckZ_b, ckZ_n0, ckZ_n1, stIe, stJe, stZ_n0, stZ_n1, rm_nI, dv_nI, if_true, if_false, if_pos, if_neg, rf0, rf1, rf5, rf6, rf7, rf8, rf9, rf20, rf23, rf24, rf25, rf26, rf29, rf31, rf33, rf34, rf35, rf37, rf38, rf41, rf42, rf43,  f_X12_placeMany, k_X12_placeMany_30, lr1, e0, e3]
    rw [k_X12_bury_58, hF]
    by_cases e : m = pm f
    · refine ⟨τ, ?_, by rw [← e]; exact hB, Sc.rf τ⟩
      rw [e]
      simp (disch := omega) only [↓mI_e, lit, ofN, bsm, nI_add, pk_mul, pk_sub, nI_e, nI_leE, nI_ltE, nI_mI, mI_nI, mI_lt, nlt_mI, mI_le, nle_mI, nI_addm, sh_b, bI_0, bI_1, bI_bI, ckZ_b, ckZ_n0, ckZ_n1, stIe, stJe, stZ_n0, stZ_n1, rm_nI, dv_nI, if_true, if_false, if_pos, if_neg, rf0, rf1, rf5, rf6, rf7, rf8, rf9, rf20, rf23, rf24, rf25, rf26, rf29, rf31, rf33, rf34, rf35, rf37, rf38, rf41, rf42, rf43,  hpm, r_gives]
    · have hmK : m < KN f := by omega
      have hp := rw6_lt hWF hy hmK
      have h9m := h9 m hmK
      obtain ⟨a1, a2⟩ := Sm0_at hWF hy hmK
      have hss := fun p (hne : p ≠ rw6 f y m) => Sm0_s hWF hy hmK hne
      have ecA : cA f y (m + 1) = cnt (sd f (tb (rw6 f y m) y) y) 180 := rfl
      generalize rw6 f y m = p at hp h9m a1 a2 hss ecA
      have hth := (hB.2 p (by omega)).1 a1
      have hsm : sm (gA τ 1) y = false := by unfold sm; rw [out _ (by omega)]; exact hs
      obtain ⟨τ2, l1, l2, l3, l4⟩ := r_laysTwins (a := tb p y) (y := y) (by unfold tb; omega) (by omega) τ
      have l4 := l4 hsm
      have l1 : f_X12_laysTwins 0 (nI (30 + 12 * (6 * p + y))) (nI y) τ = some τ2 := l1
      have g2 : gA τ2 1 = gA τ 1 := l2.2.2.1 1 (by decide) (by decide) (by decide)
      obtain ⟨t', q1, q2⟩ := r_bury_91 (f := gA τ 1) (ad := tb p y) (y := y) (by unfold tb; omega) (by unfold tb; omega) (by omega) m (k_X12_bury_58 n) FU 0 τ2 (sh (gA τ 1) (tb p y)) (by omega) (by unfold FU; have := cnt_le (std (sh (gA τ 1) (tb p y))) 180; omega) l4 (by rw [put12_self]; exact g2) (Bu_0 _ _ _)
      have hv : ∀ d, d < 180 → gA τ 1 (vb y (d / 30) (d % 30 + 1)) = f (vb y (d / 30) (d % 30 + 1)) := fun d hd => out _ (by unfold vb; omega)
      have q2' := Bu_congr hth hv q2
      have hz : cnt (dB (gA τ 1) (tb p y) y 0) 180 = 0 := cnt_tail (m := 0) 180 (by omega) (fun d _ _ => by unfold dB; rw [decide_eq_false (by omega), Bool.and_false, Bool.and_false])
      have hc : cnt (dB (gA τ 1) (tb p y) y (cnt (std (sh (gA τ 1) (tb p y))) 180)) 180 = cA f y (m + 1) := by
        rw [ecA]
        refine cnt_congr 180 (fun d hd => ?_)
        rw [dB_all hd]
        unfold sd std sh ded
        rw [hth _ (by omega), hv d hd]
      rw [hz, hc] at q1
      obtain ⟨τ3, r1, r2, r3⟩ := ih (m + 1) (sA τ2 1 (put12 (gA τ 1) (tb p y) t')) (by omega) (by omega) (by
        rw [gA_sA, if_pos rfl]
        refine ⟨fun j hj => by rw [p12_out _ _ _ (hj p (by omega))]; exact hB.1 j hj, fun p' hp' => ?_⟩
        by_cases z : p' = p
        · subst z
          refine ⟨fun q => by rw [a2] at q; exact absurd q (by decide), fun _ => ?_⟩
          refine ⟨fun k hk => ?_, fun k hk j => ?_⟩
          · show put12 (gA τ 1) (tb p' y) t' (tb p' y + (6 + k)) = _
            rw [p12_in _ _ _ (by omega)]; exact q2'.1 k hk
          · show bt (put12 (gA τ 1) (tb p' y) t' (tb p' y + k)) j = _
            rw [p12_in _ _ _ (by omega)]; exact q2'.2 k hk j
        · rw [hss p' z]
          have hfar : ∀ k, k < 12 → put12 (gA τ 1) (tb p y) t' (tb p' y + k) = gA τ 1 (tb p' y + k) := fun k hk => p12_out _ _ _ (by unfold tb; omega)
          refine ⟨fun q k hk => by rw [hfar k hk]; exact (hB.2 p' hp').1 q k hk, fun q => ?_⟩
          have hb := (hB.2 p' hp').2 q
          refine ⟨fun k hk => ?_, fun k hk j => ?_⟩
          · show put12 (gA τ 1) (tb p y) t' (tb p' y + (6 + k)) = _
            rw [hfar _ (by omega)]; exact hb.1 k hk
          · show bt (put12 (gA τ 1) (tb p y) t' (tb p' y + k)) j = _
            rw [hfar _ (by omega)]; exact hb.2 k hk j) (fun i hi => by
        show gA τ2 9 i = _
        rw [l2.2.2.1 9 (by decide) (by decide) (by decide)]; exact h9 i hi)
      refine ⟨τ3, ?_, r2, (l2.sc.trans ((Sc.rf τ2).sA _ rfl)).trans r3⟩
      have r0 := q1.trans r1
      rw [hF] at r0
      simp (disch := omega) only [↓mI_e, lit, ofN, bsm, nI_add, pk_mul, pk_sub, nI_e, nI_leE, nI_ltE, nI_mI, mI_nI, mI_lt, nlt_mI, mI_le, nle_mI, nI_addm, sh_b, bI_0, bI_1, bI_bI, ckZ_b, ckZ_n0, ckZ_n1, stIe, stJe, stZ_n0, stZ_n1, rm_nI, dv_nI, if_true, if_false, if_pos, if_neg, rf0, rf1, rf5, rf6, rf7, rf8, rf9, rf20, rf23, rf24, rf25, rf26, rf29, rf31, rf33, rf34, rf35, rf37, rf38, rf41, rf42, rf43,  hpm, lr9, h9m, f_X12_thingOf, l1]
      exact r0
