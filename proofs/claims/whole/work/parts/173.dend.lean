/-! an end -/
def DW (t : Nat → Nat) (n : Nat) (σ0 τ0 : ST) (K Y p : Nat) (σ τ : ST) : Prop := ∃ L C dd D op I d w y k v o m q f q8 d21 c22, DInv K Y (gA τ0 1) L C dd D op I d w y k v o m q f q8 d21 c22 ∧ MD t n σ0 τ0 p I d w y k v o m q f q8 d21 c22 σ τ
theorem JJ_t {t : Nat → Nat} {n p : Nat} {σ τ : ST} (h : JJ t n p σ τ) {k : Nat} (hk : k ≠ 11 ∧ k ≠ 12 ∧ k ≠ 13 ∧ k ≠ 14 ∧ k ≠ 15 ∧ k ≠ 18) (v : Int32) : JJ t n p σ (sI τ 0 k v) := by
  have e : ∀ j, j ≠ k → gI (sI τ 0 k v) 0 j = gI τ 0 j := fun j hj => by rw [gI_sI, if_neg (fun z => hj z.2)]
  obtain ⟨a, b, c, d, r, q⟩ := h
  refine ⟨a, b, c, ⟨by rw [e 11 (by omega)]; exact d.1, d.2⟩, ?_, by rw [e 18 (by omega)]; exact q⟩
  unfold RT at r ⊢
  rw [e 12 (by omega), e 13 (by omega), e 14 (by omega), e 15 (by omega)]
  exact r
section
variable {t : Nat → Nat} {n p : Nat} {σ0 τ0 σ τ : ST} {I w y k v o m q f q8 : Nat → Int32} {d d21 c22 : Int32} {K Y L C dd : Nat} {D : Nat → Nat → Nat} {op : Nat → Nat}
theorem ld8 {τ : ST} {j : Nat} (h : j < 3) : ldA LR τ (LR.2.1 0 20) (nI j) = some (gA τ 8 j) := la 3 rfl h (by decide)
theorem ld48 {σ : ST} {j : Nat} (h : j < 3) : ldA LC σ (LC.2.1 40 3) (nI j) = some (gA σ 48 j) := la 3 rfl h (by decide)
theorem st_end (hI : DInv K Y (gA τ0 1) L C dd D op I d w y k v o m q f q8 d21 c22) (h : MDC t n σ0 τ0 p I d w y k v o m q f q8 d21 c22 σ τ) (hw : tW t n p = 21) : Out σ0 τ0 (fun σ1 τ1 => ∃ p', p < p' ∧ DW t n σ0 τ0 K Y p' σ1 τ1) (f_X3_takesEnd 40 σ) (f_X12_step 0 τ) := by
  obtain ⟨N1, N2, N3⟩ := hI.nums
  obtain ⟨i7, i8, id, i19, i21, i22⟩ := hI.ints
  have hin := r_in h.1.2.2.2.1 h.1.2.1 h.1.2.2.2.2.1
  have k2 : tK t n p = 2 := by
    by_cases e : tK t n p = 2
    · exact e
    · unfold tW at hw; rw [if_neg e] at hw; exact absurd hw (by decide)
  have hlt := tE_gt h.1.2.1 (show tK t n p ≠ 0 by omega)
  rw [hw, if_neg (by decide)] at hin
  have d7 : ldA LR τ (LR.2.1 0 0) 19407 = some (nI L) := (ldA1 (τ := τ) (k := 19407) (by decide)).trans (by rw [h.2.2.2.1, i19])
  have g4 : gI σ 40 4 = nI dd := h.2.2.1.2.1.trans id
  have g21 : gI τ 0 21 = nI dd := h.2.2.2.2.2.1.trans i21
  have g22 : gI τ 0 22 = nI C := h.2.2.2.2.2.2.trans i22
  have eR : f_X12_step 0 τ = k_X12_step_42 0 (nI 21) (nI L) (nI (23880 + 6 * L)) 0 τ := by
    unfold f_X12_step
    rw [hin, bsm]
    simp only []
    rw [d7, bsm, if_neg (show ¬ nI 21 = 19 by decide), if_neg (show ¬ nI 21 = 20 by decide), show (6 : Int32) * nI L = nI (6 * L) from pk_mul 6 L, show (23880 : Int32) + nI (6 * L) = nI (23880 + 6 * L) from nI_add 23880 (6 * L)]
  rw [eR]
  unfold k_X12_step_42 f_X3_takesEnd
  rw [if_neg (show ¬ nI 21 < 7 by decide), if_neg (show ¬ (22 : Int32) < nI 21 by decide), if_pos (show nI 21 = 21 from rfl), g21, g4]
  by_cases z : dd = 0
  · obtain ⟨σf, τf, b1, b2, b3⟩ := both_fail h.1 h.2.1 (k := 2) (by omega) (by omega)
    have b1' : f_X6_blame 2 2 σ = some (nI 0, σf) := b1
    have b2' : f_X12_fails 0 2 τ = some (nI 0, τf) := b2
    rw [z, if_neg (show ¬ (0 : Int32) < nI 0 by decide), if_pos (show nI 0 = 0 from rfl), show LC.2.1 40 1 = 2 from rfl, b1']
    unfold k_X12_step_69
    rw [b2']
    exact Or.inr ⟨σf, τf, rfl, rfl, b3⟩
  · have hd1 : 1 ≤ dd := by omega
    have hL : L < 60 := by omega
    obtain ⟨u1, u2, u3, u4⟩ := hI.opn (dd - 1) (by omega)
    have uL : op (dd - 1) < 60 := by omega
    rw [if_pos (show (0 : Int32) < nI dd from (nI_ltE (a := 0) (b := dd) (by omega) (by omega)).mpr (by omega)), if_neg (fun y => by have := (nI_e (a := dd) (b := 0) (by omega) (by omega)).mp y; omega)]
    have em : nI dd - 1 = nI (dd - 1) := by rw [show (1 : Int32) = nI 1 from rfl, pk_sub (by omega)]
    rw [em, stIe, bsm, c_newLine hL 24 (sI σ 40 4 (nI (dd - 1))) (by rw [gI_sI, if_neg (by decide), h.2.2.1.1]; exact i7), bsm]
    simp only []
    obtain ⟨σb, hσb⟩ : ∃ σb, σb = nlS L 24 (sI σ 40 4 (nI (dd - 1))) := ⟨_, rfl⟩
    rw [← hσb]
    have b4 : gI σb 40 4 = nI (dd - 1) := by rw [hσb]; rfl
    have b48 : gA σb 48 = q := by rw [hσb]; exact h.2.2.1.2.2.2.2.2.2.2.2
    have hJb : JC t n p σb τ := by
      rw [hσb]
      exact JC_sI (JC_sA (JC_sA (JC_sI h.1 (by decide) _) (by decide) _) (by decide) _) (by decide) _
    have hFb : FrC σ0 σb := by
      rw [hσb]
      exact (((h.2.1.1.sI _ (Or.inr (by decide))).sA _ (by decide)).sA _ (by decide)).sI _ (Or.inr (by decide))
    have hDb : DN (upd I 7 (nI (L + 1))) (nI (dd - 1)) (upd w L (nI 24)) y k v o (upd m L (nI L)) q σb := by
      rw [hσb]
      exact (((h.2.2.1.i40 (nI (dd - 1))).a42 L (nI 24)).a47 L (nI L)).i41 7 (nI (L + 1))
    rw [b4, ld48 (by omega), bsm, b48, u1, show LC.2.1 (LC.2.1 40 0) 5 = 47 from rfl, sa 60 rfl hL (by decide), bsm]
    have c4 : gI (sA σb 47 (upd (gA σb 47) L (nI (op (dd - 1))))) 40 4 = nI (dd - 1) := b4
    rw [c4, ld48 (by omega), bsm, show gA (sA σb 47 (upd (gA σb 47) L (nI (op (dd - 1))))) 48 (dd - 1) = nI (op (dd - 1)) from by rw [gA_sA, if_neg (by decide), b48, u1], sa 60 rfl uL (by decide), bsm]
    have hMC : MDC t n σ0 τ0 p (upd I 7 (nI (L + 1))) (nI (dd - 1)) (upd w L (nI 24)) y k v o (upd (upd (upd m L (nI L)) L (nI (op (dd - 1)))) (op (dd - 1)) (nI L)) q (pf f L (nI 21)) q8 d21 (nI (C + 0)) (sA (sA σb 47 (upd (gA σb 47) L (nI (op (dd - 1))))) 47 (upd (gA (sA σb 47 (upd (gA σb 47) L (nI (op (dd - 1))))) 47) (op (dd - 1)) (nI L))) (sA (sI τ 0 22 (nI (C + 0))) 1 (pf (gA τ 1) L (nI 21))) := by
      refine ⟨JC_tA (JC_t (JC_sA (JC_sA hJb (by decide) _) (by decide) _) (by decide) _) (by decide) _, ⟨(hFb.sA _ (by decide)).sA _ (by decide), ?_⟩, (hDb.a47 L _).a47 (op (dd - 1)) _, ⟨by rw [gA_sA, if_pos rfl, h.2.2.2.1], by rw [gA_sA, if_neg (by decide)]; exact h.2.2.2.2.1, h.2.2.2.2.2.1, rfl⟩⟩
      refine (h.2.1.2.sI (k := 22) _ rfl).trans ⟨⟨fun _ _ => rfl, fun _ => rfl, fun x a _ => by rw [gA_sA, if_neg a], fun j hj => ?_, fun _ _ => rfl, fun _ _ => rfl⟩, rfl⟩
      rw [gA_sA, if_pos rfl, (pf_at (gA τ 1) hL (nI 21)).2.2.2 j (by omega) (by omega)]
      rfl
    obtain ⟨τb, pb, hMb⟩ := hMC.pass
    obtain ⟨σd, hσd⟩ : ∃ σd, σd = sA (sA σb 47 (upd (gA σb 47) L (nI (op (dd - 1))))) 47 (upd (gA (sA σb 47 (upd (gA σb 47) L (nI (op (dd - 1))))) 47) (op (dd - 1)) (nI L)) := ⟨_, rfl⟩
    rw [← hσd] at hMb ⊢
    have e21 : gI τb 0 21 = nI dd := hMb.2.2.2.2.2.1.trans i21
    have ord : f_X12_order 0 (nI 21) (nI (23880 + 6 * L)) τb = some (nI 1, τb) := by
      unfold f_X12_order
      rw [if_neg (show ¬ nI 21 = 7 by decide), if_neg (show ¬ nI 21 = 8 by decide), if_neg (show ¬ nI 21 = 9 by decide), if_neg (show ¬ nI 21 = 10 by decide), if_neg (show ¬ nI 21 = 11 by decide), if_neg (show ¬ nI 21 = 12 by decide), if_neg (show ¬ nI 21 = 13 by decide), if_neg (show ¬ nI 21 = 14 by decide), if_neg (show ¬ nI 21 = 15 by decide), if_neg (show ¬ nI 21 = 16 by decide), if_neg (show ¬ nI 21 = 17 by decide), if_neg (show ¬ nI 21 = 18 by decide), if_neg (show ¬ nI 21 = 19 by decide), if_neg (show ¬ nI 21 = 20 by decide)]
      rfl
    obtain ⟨τc, hτc⟩ : ∃ τc, τc = sA (sA (sI τb 0 21 (nI (dd - 1))) 1 (upd (gA τb 1) (23880 + 6 * L + 4) (nI (op (dd - 1))))) 1 (upd (upd (gA τb 1) (23880 + 6 * L + 4) (nI (op (dd - 1)))) (23880 + 6 * op (dd - 1) + 4) (nI L)) := ⟨_, rfl⟩
    have e222 : k_X12_step_222 0 (nI 21) (nI L) (nI (23880 + 6 * L)) τb = (f_X12_wantSign 0 (nI 59) τc).bind fun u1 => (ckZ u1.1).bind fun z => some (z, u1.2) := by
      unfold k_X12_step_222
      have s21 : gI (sI τb 0 21 (nI (dd - 1))) 0 21 = nI (dd - 1) := by rw [gI_sI, if_pos ⟨rfl, rfl⟩]
      have q8b : gA (sI τb 0 21 (nI (dd - 1))) 8 (dd - 1) = nI (op (dd - 1)) := by rw [gA_sI, hMb.2.2.2.2.1]; exact u2
      have s21' : gI (sA (sI τb 0 21 (nI (dd - 1))) 1 (upd (gA (sI τb 0 21 (nI (dd - 1))) 1) (23880 + 6 * L + 4) (nI (op (dd - 1))))) 0 21 = nI (dd - 1) := s21
      have q8b' : gA (sA (sI τb 0 21 (nI (dd - 1))) 1 (upd (gA (sI τb 0 21 (nI (dd - 1))) 1) (23880 + 6 * L + 4) (nI (op (dd - 1))))) 8 (dd - 1) = nI (op (dd - 1)) := by rw [gA_sA, if_neg (by decide)]; exact q8b
      rw [if_pos (show nI 21 = 21 from rfl), e21, em, stIe, bsm, s21, ld8 (by omega), bsm, q8b, show nI (23880 + 6 * L) + 4 = nI (23880 + 6 * L + 4) from by rw [show (4 : Int32) = nI 4 from rfl, nI_add], sA1_st (by omega), bsm, s21', ld8 (by omega), bsm, q8b', show (6 : Int32) * nI (op (dd - 1)) = nI (6 * op (dd - 1)) from pk_mul 6 (op (dd - 1)), show (23880 : Int32) + nI (6 * op (dd - 1)) = nI (23880 + 6 * op (dd - 1)) from nI_add 23880 (6 * op (dd - 1)), show nI (23880 + 6 * op (dd - 1)) + 4 = nI (23880 + 6 * op (dd - 1) + 4) from by rw [show (4 : Int32) = nI 4 from rfl, nI_add], sA1_st (by omega), bsm, hτc]
      rfl
    have e75 : k_X12_step_75 0 (nI 21) (nI L) (nI (23880 + 6 * L)) 0 τ = (f_X12_wantSign 0 (nI 59) τc).bind fun u1 => (ckZ u1.1).bind fun z => some (z, u1.2) := by
      unfold k_X12_step_75 k_X12_step_97 k_X12_step_117
      rw [if_pos (show nI 21 = 21 from rfl), if_pos rfl, if_pos (show nI 21 = 21 from rfl), g22]
      refine (r_133 (C := C) (s2 := 0) hL (nI 21) 0 τ (by rw [h.2.2.2.1, i19])).trans ?_
      rw [pb, bsm, ord, bsm, if_neg (show ¬ ((nI 1, τb) : Int32 × ST).1 = 0 from fun z => absurd (show nI 1 = 0 from z) (by decide)), if_pos rfl]
      exact e222
    rw [e75]
    have hMc : MD t n σ0 τ0 (tE t n p) (upd I 7 (nI (L + 1))) (nI (dd - 1)) (upd w L (nI 24)) y k v o (upd (upd (upd m L (nI L)) L (nI (op (dd - 1)))) (op (dd - 1)) (nI L)) q (upd (upd (pf f L (nI 21)) (23880 + 6 * L + 4) (nI (op (dd - 1)))) (23880 + 6 * op (dd - 1) + 4) (nI L)) q8 (nI (dd - 1)) (nI (C + 0)) σd τc := by
      have hf1 := hMb.2.2.2.1
      rw [hτc, hf1]
      refine ⟨JJ_tA (JJ_tA (JJ_t hMb.1 (by decide) _) (by decide) _) (by decide) _, ⟨hMb.2.1.1, ?_⟩, hMb.2.2.1, ⟨by rw [gA_sA, if_pos rfl], by rw [gA_sA, if_neg (by decide), gA_sA, if_neg (by decide)]; exact hMb.2.2.2.2.1, by rw [gI_sA, gI_sA, gI_sI, if_pos ⟨rfl, rfl⟩], by rw [gI_sA, gI_sA, gI_sI, if_neg (by decide)]; exact hMb.2.2.2.2.2.2⟩⟩
      have r1 := (hMb.2.1.2.sI (k := 21) (nI (dd - 1)) rfl).sA1 (k := 23880 + 6 * L + 4) (nI (op (dd - 1))) (by omega)
      have r2 := r1.sA1 (k := 23880 + 6 * op (dd - 1) + 4) (nI L) (by omega)
      rw [gA_sI, hf1, gA_sA, if_pos rfl] at r2
      exact r2
    obtain ⟨s1, s1_, hs1⟩ := hMc.step
    rw [show LC.2.1 40 1 = 2 from rfl, s1_, bsm]
    refine Out.ckL (Out.ckR (hs1.sign.mono (fun σ2 τ2 hM2 => ?_)))
    have pa := pf_at f hL (nI 21)
    refine ⟨_, Nat.lt_of_lt_of_le hlt (le_tE hMc.1.2.1), L + 1, C, dd - 1, _, op, _, _, _, _, _, _, _, _, _, _, _, _, _, hI.ends hd1 (R := fun i => if i = 0 then 21 else if i = 5 then op (dd - 1) else 0) rfl rfl ?_ (fun j hj => ⟨by rw [upd_at, if_neg hj], rfl, rfl, rfl, rfl⟩) (fun j h1 h2 => by rw [upd_at, if_neg h2, upd_at, if_neg h1, upd_at, if_neg h1]) ⟨by rw [upd_at, if_neg (by omega), upd_at, if_pos rfl], by rw [upd_at, if_pos rfl]⟩ (fun x h1 h2 h3 => by rw [upd_at, if_neg h3, upd_at, if_neg (by omega), pa.2.2.2 x (by omega) (by omega)]) ⟨by rw [upd_at, if_neg (by omega), upd_at, if_pos rfl], by rw [upd_at, if_pos rfl]⟩ (by rw [upd_at, if_neg (by omega), upd_at, if_neg (by omega)]; exact pa.2.2.1) ⟨rfl, by rw [upd_at, if_neg (by decide)]; exact i8⟩ rfl rfl rfl (fun j hj => ⟨rfl, rfl⟩), hM2⟩
    refine ⟨⟨by rw [upd_at, if_pos rfl]; rfl, fun z => absurd (show oY 21 = true from z) (by decide), fun z => absurd (show oP 21 = true from z) (by decide), fun z => absurd (show oV 21 = true from z) (by decide), fun z => absurd (show oQ 21 = true from z) (by decide)⟩, ⟨by rw [upd_at, if_neg (by omega), upd_at, if_neg (by omega)]; exact pa.1, fun z => absurd (show oY 21 = true from z) (by decide), fun z => absurd (show [11, 12, 13, 17].contains 21 = true from z) (by decide), fun z => absurd (show [14, 18, 20].contains 21 = true from z) (by decide), fun z => absurd (show [7, 8, 9, 10, 24, 25].contains 21 = true from z) (by decide), fun z => absurd (show 21 = 17 from z) (by decide), fun z => absurd (show [7, 9, 25].contains 21 = true from z) (by decide), fun z => absurd (show 21 = 25 from z) (by decide)⟩, (show 7 ≤ 21 ∧ 21 ≤ 25 ∧ 21 ≠ 19 by decide), fun z => absurd (show oY 21 = true from z) (by decide), fun z => absurd (show (21 = 7 ∨ 21 = 8) from z) (by decide), fun z => absurd (show 21 = 9 from z) (by decide), fun z => absurd (show oP 21 = true from z) (by decide), fun z => absurd (show 21 = 17 from z) (by decide), fun z => absurd (show oV 21 = true from z) (by decide), fun z => absurd (show 21 = 18 from z) (by decide), fun z => absurd (show 21 = 20 from z) (by decide), fun z => absurd (show 21 = 25 from z) (by decide)⟩
end
