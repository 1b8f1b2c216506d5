/-! the class's words and signs -/
theorem c_word_7 {t : Nat → Nat} {n q : Nat} : ∀ (m p N : Nat) (σ : ST), TC σ t n → q ≤ p → p ≤ n → n - p ≤ m → m < N → gI σ 2 5 = nI q → gI σ 2 11 = nI p → k_X6_stepWord_7 N 2 (lN (ltN 32 (fun c => c - 96) t q (min (p - q) 8))) σ = k_X6_stepWord_82 2 (lN (ltN 32 (fun c => c - 96) t q (min (edn pLe t n p - q) 8))) (sI σ 2 11 (nI (edn pLe t n p))) := by
  have n10 : (nI 1 = nI 0) = False := eq_false (by decide)
  intro m
  induction m with
  | zero =>
    intro p N σ hT hq hp hm hN h5 h11
    obtain ⟨N1, rfl⟩ : ∃ N1, N = N1 + 1 := ⟨N - 1, by omega⟩
    have hn := hT.2.1
    have e : p = n := by omega
    subst e
    rw [edn_at (Nat.le_refl _) (fun z => by omega), ← h11, sI_self, k_X6_stepWord_7]
    simp (disch := omega) only [↓mI_e, lit, ofN, bsm, nI_add, pk_mul, pk_sub, nI_e, nI_leE, nI_ltE, nI_mI, mI_nI, mI_lt, nlt_mI, mI_le, nle_mI, nI_addm, sh_b, bI_0, bI_1, bI_bI, ckZ_b, ckZ_n0, ckZ_n1, stIe, stJe, stZ_n0, stZ_n1, rm_nI, dv_nI, if_true, if_false, if_pos, if_neg, rf0, rf1, rf5, rf6, rf7, rf8, rf9, rf20, rf23, rf24, rf25, rf26, rf29, rf31, rf33, rf34, rf35, rf37, rf38, rf41, rf42, rf43,  hT.1, h11]
  | succ m ih =>
    intro p N σ hT hq hp hm hN h5 h11
    obtain ⟨N1, rfl⟩ : ∃ N1, N = N1 + 1 := ⟨N - 1, by omega⟩
    have hn := hT.2.1
    by_cases c : n ≤ p
    · have e : p = n := by omega
      subst e
      rw [edn_at (Nat.le_refl _) (fun z => by omega), ← h11, sI_self, k_X6_stepWord_7]
      simp (disch := omega) only [↓mI_e, lit, ofN, bsm, nI_add, pk_mul, pk_sub, nI_e, nI_leE, nI_ltE, nI_mI, mI_nI, mI_lt, nlt_mI, mI_le, nle_mI, nI_addm, sh_b, bI_0, bI_1, bI_bI, ckZ_b, ckZ_n0, ckZ_n1, stIe, stJe, stZ_n0, stZ_n1, rm_nI, dv_nI, if_true, if_false, if_pos, if_neg, rf0, rf1, rf5, rf6, rf7, rf8, rf9, rf20, rf23, rf24, rf25, rf26, rf29, rf31, rf33, rf34, rf35, rf37, rf38, rf41, rf42, rf43,  hT.1, h11]
    · obtain ⟨g1, g2⟩ := hT.2.2 p (by omega)
      have hd := c_isLetter g2 σ
      cases b : pLe (t p)
      · rw [b] at hd
        rw [edn_at (by omega) (fun _ => b), ← h11, sI_self, k_X6_stepWord_7]
        simp (disch := omega) only [↓mI_e, lit, ofN, bsm, nI_add, pk_mul, pk_sub, nI_e, nI_leE, nI_ltE, nI_mI, mI_nI, mI_lt, nlt_mI, mI_le, nle_mI, nI_addm, sh_b, bI_0, bI_1, bI_bI, ckZ_b, ckZ_n0, ckZ_n1, stIe, stJe, stZ_n0, stZ_n1, rm_nI, dv_nI, if_true, if_false, if_pos, if_neg, rf0, rf1, rf5, rf6, rf7, rf8, rf9, rf20, rf23, rf24, rf25, rf26, rf29, rf31, rf33, rf34, rf35, rf37, rf38, rf41, rf42, rf43,  hT.1, h11, c, r20, l3, g1, hd, bI_f]
      · rw [b] at hd
        have hb := of_decide_eq_true b
        have h1 := ih (p + 1) N1 (sI σ 2 11 (nI (p + 1))) (TC_sI hT (by decide) _) (by omega) (by omega) (by omega) (by omega) (by rw [gI_sI, if_neg (by decide)]; exact h5) (by rw [gI_sI, if_pos ⟨rfl, rfl⟩])
        rw [sI_sI] at h1
        rw [edn_s (show p < n by omega) b, ← h1, k_X6_stepWord_7]
        by_cases c8 : 8 ≤ p - q
        · have em : min (p - q) 8 = min (p + 1 - q) 8 := by omega
          rw [em]
          simp (disch := omega) only [↓mI_e, lit, ofN, bsm, nI_add, pk_mul, pk_sub, nI_e, nI_leE, nI_ltE, nI_mI, mI_nI, mI_lt, nlt_mI, mI_le, nle_mI, nI_addm, sh_b, bI_0, bI_1, bI_bI, ckZ_b, ckZ_n0, ckZ_n1, stIe, stJe, stZ_n0, stZ_n1, rm_nI, dv_nI, if_true, if_false, if_pos, if_neg, rf0, rf1, rf5, rf6, rf7, rf8, rf9, rf20, rf23, rf24, rf25, rf26, rf29, rf31, rf33, rf34, rf35, rf37, rf38, rf41, rf42, rf43,  hT.1, h11, c, r20, l3, g1, hd, bI_t, n10, h5, c8, k_X6_stepWord_69]
        · have em : min (p + 1 - q) 8 = p - q + 1 := by omega
          have em0 : min (p - q) 8 = p - q := by omega
          have eq1 : q + (p - q) = p := by omega
          have e96 : t p - 97 + 1 = t p - 96 := by omega
          rw [em, em0, ltN, eq1]
          simp (disch := omega) only [↓mI_e, lit, ofN, bsm, nI_add, pk_mul, pk_sub, nI_e, nI_leE, nI_ltE, nI_mI, mI_nI, mI_lt, nlt_mI, mI_le, nle_mI, nI_addm, sh_b, bI_0, bI_1, bI_bI, ckZ_b, ckZ_n0, ckZ_n1, stIe, stJe, stZ_n0, stZ_n1, rm_nI, dv_nI, if_true, if_false, if_pos, if_neg, rf0, rf1, rf5, rf6, rf7, rf8, rf9, rf20, rf23, rf24, rf25, rf26, rf29, rf31, rf33, rf34, rf35, rf37, rf38, rf41, rf42, rf43,  hT.1, h11, c, r20, l3, g1, hd, bI_t, n10, h5, c8, k_X6_stepWord_69, e96, nI_l, litL, lN_mul, lN_add]
/-- the own word by the class's number, or none -/
def OwC (t : Nat → Nat) (q m : Nat) (r : Int32) : Prop := (∃ k, k < 26 ∧ mtW (fun j => t (q + j)) m k = true ∧ r = nI k) ∨ ((∀ k, k < 26 → mtW (fun j => t (q + j)) m k = false) ∧ r = mI)
theorem c_stepWord {t : Nat → Nat} {n q : Nat} {σ : ST} (hT : TC σ t n) (hq : q < n) (h5 : gI σ 2 5 = nI q) (h11 : gI σ 2 11 = nI q) (h9 : gJ σ 2 9 = -1) : ∃ σ1 r, f_X6_stepWord 2 σ = some σ1 ∧ Rd [4, 8, 11] σ σ1 ∧ gI σ1 2 4 = nI 1 ∧ gI σ1 2 11 = nI (edn pLe t n q) ∧ gI σ1 2 8 = r ∧ OwC t q (edn pLe t n q - q) r ∧ gJ σ1 2 9 = (if r = mI ∧ edn pLe t n q - q ≤ 8 then lN (ltN 32 (fun c => c - 96) t q (edn pLe t n q - q)) else -1) := by
  have hn := hT.2.1
  have h1 := c_word_7 (q := q) n q FU (sI σ 2 4 (nI 1)) (TC_sI hT (by decide) _) (Nat.le_refl _) (by omega) (by omega) (by unfold FU; omega) (by rw [gI_sI, if_neg (by decide)]; exact h5) (by rw [gI_sI, if_neg (by decide)]; exact h11)
  obtain ⟨x1, x2, x3, x4⟩ := edn_spec pLe t (show q ≤ n by omega)
  generalize edn pLe t n q = e at *
  rw [Nat.sub_self] at h1
  obtain ⟨σa, hσa⟩ : ∃ σa, σa = sI (sI σ 2 4 (nI 1)) 2 11 (nI e) := ⟨_, rfl⟩
  rw [← hσa] at h1
  have ha : Rd [4, 8, 11] σ σa := by rw [hσa]; exact ((Rd.rf _ σ).sI _ rfl).sI _ rfl
  have hTa := ha.TC rfl hT
  have a5 : gI σa 2 5 = nI q := by rw [ha.1 2 5 (by decide)]; exact h5
  have a11 : gI σa 2 11 = nI e := by rw [hσa, gI_sI, if_pos ⟨rfl, rfl⟩]
  have a4 : gI σa 2 4 = nI 1 := by rw [hσa, gI_sI, if_neg (by decide), gI_sI, if_pos ⟨rfl, rfl⟩]
  have a9 : gJ σa 2 9 = -1 := by rw [hσa]; exact h9
  obtain ⟨r, r1, r2⟩ := c_find (σ := σa) (q := q) (m := e - q) (u := fun j => t (q + j)) (by omega) (by omega) a5 (fun j hj => hTa.2.2 (q + j) (by omega)) 26 0 FU (by omega) (by unfold FU; omega) (by decide)
  have r1' : f_X6_findOwnWord 2 (nI (e - q)) σa = some (r, σa) := r1
  have ow : OwC t q (e - q) r := by
    rcases r2 with ⟨k, _, k2, k3, k4⟩ | ⟨k1, k2⟩
    · exact Or.inl ⟨k, k2, k3, k4⟩
    · exact Or.inr ⟨fun k hk => k1 k (by omega) hk, k2⟩
  have b8 : gI (sI σa 2 8 r) 2 8 = r := by rw [gI_sI, if_pos ⟨rfl, rfl⟩]
  have b11 : gI (sI σa 2 8 r) 2 11 = nI e := by rw [gI_sI, if_neg (by decide)]; exact a11
  have b5 : gI (sI σa 2 8 r) 2 5 = nI q := by rw [gI_sI, if_neg (by decide)]; exact a5
  have b4 : gI (sI σa 2 8 r) 2 4 = nI 1 := by rw [gI_sI, if_neg (by decide)]; exact a4
  have hst : f_X6_stepWord 2 σ = k_X6_stepWord_82 2 (lN (ltN 32 (fun c => c - 96) t q (min (e - q) 8))) σa := by
    rw [← h1]
    simp (disch := omega) only [↓mI_e, lit, ofN, bsm, nI_add, pk_mul, pk_sub, nI_e, nI_leE, nI_ltE, nI_mI, mI_nI, mI_lt, nlt_mI, mI_le, nle_mI, nI_addm, sh_b, bI_0, bI_1, bI_bI, ckZ_b, ckZ_n0, ckZ_n1, stIe, stJe, stZ_n0, stZ_n1, rm_nI, dv_nI, if_true, if_false, if_pos, if_neg, rf0, rf1, rf5, rf6, rf7, rf8, rf9, rf20, rf23, rf24, rf25, rf26, rf29, rf31, rf33, rf34, rf35, rf37, rf38, rf41, rf42, rf43,  f_X6_stepWord, litL]
    rfl
  rw [hst]
  by_cases c1 : r = mI
  · by_cases c2 : 8 < e - q
    · refine ⟨sI σa 2 8 r, r, ?_, ha.sI _ rfl, b4, b11, b8, ow, ?_⟩
      · subst c1
        have mm : (mI = mI) = True := eq_true rfl
        simp (disch := omega) only [↓mI_e, lit, ofN, bsm, nI_add, pk_mul, pk_sub, nI_e, nI_leE, nI_ltE, nI_mI, mI_nI, mI_lt, nlt_mI, mI_le, nle_mI, nI_addm, sh_b, bI_0, bI_1, bI_bI, ckZ_b, ckZ_n0, ckZ_n1, stIe, stJe, stZ_n0, stZ_n1, rm_nI, dv_nI, if_true, if_false, if_pos, if_neg, rf0, rf1, rf5, rf6, rf7, rf8, rf9, rf20, rf23, rf24, rf25, rf26, rf29, rf31, rf33, rf34, rf35, rf37, rf38, rf41, rf42, rf43,  k_X6_stepWord_82, a11, a5, r1', b8, mm, b11, b5, c2, k_X6_stepWord_126]
      · rw [if_neg (fun z => by omega)]; exact a9
    · refine ⟨sJ (sI σa 2 8 r) 2 9 (lN (ltN 32 (fun c => c - 96) t q (e - q))), r, ?_, (ha.sI _ rfl).sJ _, b4, b11, b8, ow, ?_⟩
      · subst c1
        have mm : (mI = mI) = True := eq_true rfl
        have em : min (e - q) 8 = e - q := by omega
        rw [em]
        simp (disch := omega) only [↓mI_e, lit, ofN, bsm, nI_add, pk_mul, pk_sub, nI_e, nI_leE, nI_ltE, nI_mI, mI_nI, mI_lt, nlt_mI, mI_le, nle_mI, nI_addm, sh_b, bI_0, bI_1, bI_bI, ckZ_b, ckZ_n0, ckZ_n1, stIe, stJe, stZ_n0, stZ_n1, rm_nI, dv_nI, if_true, if_false, if_pos, if_neg, rf0, rf1, rf5, rf6, rf7, rf8, rf9, rf20, rf23, rf24, rf25, rf26, rf29, rf31, rf33, rf34, rf35, rf37, rf38, rf41, rf42, rf43,  k_X6_stepWord_82, a11, a5, r1', b8, mm, b11, b5, c2, k_X6_stepWord_126]
      · rw [if_pos ⟨c1, by omega⟩, gJ_sJ, if_pos ⟨rfl, rfl⟩]
  · refine ⟨sI σa 2 8 r, r, ?_, ha.sI _ rfl, b4, b11, b8, ow, ?_⟩
    · simp (disch := omega) only [↓mI_e, lit, ofN, bsm, nI_add, pk_mul, pk_sub, nI_e, nI_leE, nI_ltE, nI_mI, mI_nI, mI_lt, nlt_mI, mI_le, nle_mI, nI_addm, sh_b, bI_0, bI_1, bI_bI, ckZ_b, ckZ_n0, ckZ_n1, stIe, stJe, stZ_n0, stZ_n1, rm_nI, dv_nI, if_true, if_false, if_pos, if_neg, rf0, rf1, rf5, rf6, rf7, rf8, rf9, rf20, rf23, rf24, rf25, rf26, rf29, rf31, rf33, rf34, rf35, rf37, rf38, rf41, rf42, rf43,  k_X6_stepWord_82, a11, a5, r1', b8, c1, k_X6_stepWord_126]
    · rw [if_neg (fun z => c1 z.1)]; exact a9
