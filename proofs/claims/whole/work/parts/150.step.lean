/-! the class's step -/
/-- only the reader's fields l have changed, and perhaps the name -/
def Rd (l : List Nat) (σ σ1 : ST) : Prop := (∀ x k, ¬ (x = 2 ∧ l.contains k = true) → gI σ1 x k = gI σ x k) ∧ (∀ x k, ¬ (x = 2 ∧ k = 9) → gJ σ1 x k = gJ σ x k) ∧ (∀ x, gA σ1 x = gA σ x) ∧ ∀ x, gB σ1 x = gB σ x
theorem Rd.rf (l : List Nat) (σ : ST) : Rd l σ σ := ⟨fun _ _ _ => rfl, fun _ _ _ => rfl, fun _ => rfl, fun _ => rfl⟩
theorem Rd.trans {l : List Nat} {σ σ1 σ2 : ST} (h : Rd l σ σ1) (h2 : Rd l σ1 σ2) : Rd l σ σ2 := ⟨fun x k a => (h2.1 x k a).trans (h.1 x k a), fun x k a => (h2.2.1 x k a).trans (h.2.1 x k a), fun x => (h2.2.2.1 x).trans (h.2.2.1 x), fun x => (h2.2.2.2 x).trans (h.2.2.2 x)⟩
theorem Rd.sI {l : List Nat} {σ σ1 : ST} (h : Rd l σ σ1) {k : Nat} (v : Int32) (hk : l.contains k = true) : Rd l σ (sI σ1 2 k v) := h.trans ⟨fun x j a => by
    rw [gI_sI, if_neg]
    intro z
    rw [z.2] at a
    exact a ⟨z.1, hk⟩, fun _ _ _ => rfl, fun _ => rfl, fun _ => rfl⟩
theorem Rd.sJ {l : List Nat} {σ σ1 : ST} (h : Rd l σ σ1) (v : Int64) : Rd l σ (sJ σ1 2 9 v) := h.trans ⟨fun _ _ _ => rfl, fun x j a => by rw [gJ_sJ, if_neg a], fun _ => rfl, fun _ => rfl⟩
theorem Rd.mono {l l2 : List Nat} {σ σ1 : ST} (h : Rd l σ σ1) (hl : ∀ k, l.contains k = true → l2.contains k = true) : Rd l2 σ σ1 := ⟨fun x k a => h.1 x k (fun z => a ⟨z.1, hl k z.2⟩), h.2⟩
theorem Rd.TC {l : List Nat} {σ σ1 : ST} (h : Rd l σ σ1) (h10 : l.contains 10 = false) {t : Nat → Nat} {n : Nat} (hT : TC σ t n) : TC σ1 t n := ⟨by rw [h.1 2 10 (fun z => by rw [h10] at z; exact absurd z.2 (by decide))]; exact hT.1, hT.2.1, fun k hk => by rw [h.2.2.1]; exact hT.2.2 k hk⟩
theorem dgN_lt {t : Nat → Nat} {q : Nat} (h : ∀ j, t (q + j) < 58 ∨ True) : True := trivial
theorem c_num_10 {t : Nat → Nat} {n q : Nat} : ∀ (m p N : Nat) (σ : ST), TC σ t n → q ≤ p → p ≤ n → n - p ≤ m → m < N → gI σ 2 5 = nI q → gI σ 2 11 = nI p → (p - q ≤ 4 → gI σ 2 4 = nI 2 ∧ gI σ 2 6 = nI (dgN t q (p - q))) → (4 < p - q → gI σ 2 4 = nI 4) → ∃ σ1, k_X6_stepNumber_10 N 2 σ = some σ1 ∧ Rd [4, 6, 11] σ σ1 ∧ gI σ1 2 11 = nI (edn pDi t n p) ∧ (edn pDi t n p - q ≤ 4 → gI σ1 2 4 = nI 2 ∧ gI σ1 2 6 = nI (dgN t q (edn pDi t n p - q))) ∧ (4 < edn pDi t n p - q → gI σ1 2 4 = nI 4) ∧ ∀ x k, gJ σ1 x k = gJ σ x k := by
  intro m
  induction m with
  | zero =>
    intro p N σ hT hq hp hm hN h5 h11 h1 h2
    obtain ⟨N1, rfl⟩ : ∃ N1, N = N1 + 1 := ⟨N - 1, by omega⟩
    have hn := hT.2.1
    have e : p = n := by omega
    subst e
    rw [edn_at (Nat.le_refl _) (fun z => by omega)]
    refine ⟨σ, ?_, Rd.rf _ _, h11, h1, h2, fun _ _ => rfl⟩
    rw [k_X6_stepNumber_10]
    simp (disch := omega) only [↓mI_e, lit, ofN, bsm, nI_add, pk_mul, pk_sub, nI_e, nI_leE, nI_ltE, nI_mI, mI_nI, mI_lt, nlt_mI, mI_le, nle_mI, nI_addm, sh_b, bI_0, bI_1, bI_bI, ckZ_b, ckZ_n0, ckZ_n1, stIe, stJe, stZ_n0, stZ_n1, rm_nI, dv_nI, if_true, if_false, if_pos, if_neg, rf0, rf1, rf5, rf6, rf7, rf8, rf9, rf20, rf23, rf24, rf25, rf26, rf29, rf31, rf33, rf34, rf35, rf37, rf38, rf41, rf42, rf43,  hT.1, h11, k_X6_stepNumber_94]
  | succ m ih =>
    intro p N σ hT hq hp hm hN h5 h11 h1 h2
    obtain ⟨N1, rfl⟩ : ∃ N1, N = N1 + 1 := ⟨N - 1, by omega⟩
    have hn := hT.2.1
    by_cases c : n ≤ p
    · have e : p = n := by omega
      subst e
      rw [edn_at (Nat.le_refl _) (fun z => by omega)]
      refine ⟨σ, ?_, Rd.rf _ _, h11, h1, h2, fun _ _ => rfl⟩
      rw [k_X6_stepNumber_10]
      simp (disch := omega) only [↓mI_e, lit, ofN, bsm, nI_add, pk_mul, pk_sub, nI_e, nI_leE, nI_ltE, nI_mI, mI_nI, mI_lt, nlt_mI, mI_le, nle_mI, nI_addm, sh_b, bI_0, bI_1, bI_bI, ckZ_b, ckZ_n0, ckZ_n1, stIe, stJe, stZ_n0, stZ_n1, rm_nI, dv_nI, if_true, if_false, if_pos, if_neg, rf0, rf1, rf5, rf6, rf7, rf8, rf9, rf20, rf23, rf24, rf25, rf26, rf29, rf31, rf33, rf34, rf35, rf37, rf38, rf41, rf42, rf43,  hT.1, h11, k_X6_stepNumber_94]
    · obtain ⟨g1, g2⟩ := hT.2.2 p (by omega)
      have hd := c_isDigit g2 σ
      cases b : pDi (t p)
      · rw [b] at hd
        rw [edn_at (by omega) (fun _ => b)]
        refine ⟨σ, ?_, Rd.rf _ _, h11, h1, h2, fun _ _ => rfl⟩
        rw [k_X6_stepNumber_10]
        simp (disch := omega) only [↓mI_e, lit, ofN, bsm, nI_add, pk_mul, pk_sub, nI_e, nI_leE, nI_ltE, nI_mI, mI_nI, mI_lt, nlt_mI, mI_le, nle_mI, nI_addm, sh_b, bI_0, bI_1, bI_bI, ckZ_b, ckZ_n0, ckZ_n1, stIe, stJe, stZ_n0, stZ_n1, rm_nI, dv_nI, if_true, if_false, if_pos, if_neg, rf0, rf1, rf5, rf6, rf7, rf8, rf9, rf20, rf23, rf24, rf25, rf26, rf29, rf31, rf33, rf34, rf35, rf37, rf38, rf41, rf42, rf43,  hT.1, h11, c, r20, l3, g1, hd, bI_f, k_X6_stepNumber_94]
      · rw [b] at hd
        have hb := of_decide_eq_true b
        rw [edn_s (show p < n by omega) b]
        have n10 : (nI 1 = nI 0) = False := eq_false (by decide)
        by_cases c4 : 4 ≤ p - q
        · obtain ⟨σ1, a1, a2, a3, a4, a5, a6⟩ := ih (p + 1) N1 (sI (sI σ 2 4 (nI 4)) 2 11 (nI (p + 1))) (TC_sI (TC_sI hT (by decide) _) (by decide) _) (by omega) (by omega) (by omega) (by omega) (by rw [gI_sI, if_neg (by decide), gI_sI, if_neg (by decide)]; exact h5) (by rw [gI_sI, if_pos ⟨rfl, rfl⟩]) (fun z => by omega) (fun _ => by rw [gI_sI, if_neg (by decide), gI_sI, if_pos ⟨rfl, rfl⟩])
          refine ⟨σ1, ?_, (((Rd.rf _ σ).sI _ rfl).sI _ rfl).trans a2, a3, a4, a5, a6⟩
          have e11 : gI (sI σ 2 4 (nI 4)) 2 11 = nI p := by rw [gI_sI, if_neg (by decide)]; exact h11
          rw [k_X6_stepNumber_10]
          simp (disch := omega) only [↓mI_e, lit, ofN, bsm, nI_add, pk_mul, pk_sub, nI_e, nI_leE, nI_ltE, nI_mI, mI_nI, mI_lt, nlt_mI, mI_le, nle_mI, nI_addm, sh_b, bI_0, bI_1, bI_bI, ckZ_b, ckZ_n0, ckZ_n1, stIe, stJe, stZ_n0, stZ_n1, rm_nI, dv_nI, if_true, if_false, if_pos, if_neg, rf0, rf1, rf5, rf6, rf7, rf8, rf9, rf20, rf23, rf24, rf25, rf26, rf29, rf31, rf33, rf34, rf35, rf37, rf38, rf41, rf42, rf43,  hT.1, h11, c, r20, l3, g1, hd, bI_t, n10, h5, c4, k_X6_stepNumber_81, e11]
          exact a1
        · obtain ⟨z1, z2⟩ := h1 (by omega)
          have es : p + 1 - q = p - q + 1 := by omega
          have ed1 : dgN t q (p + 1 - q) = dgN t q (p - q) * 10 + (t p - 48) := by rw [es, dgN, show q + (p - q) = p by omega]
          obtain ⟨σ1, a1, a2, a3, a4, a5, a6⟩ := ih (p + 1) N1 (sI (sI σ 2 6 (nI (dgN t q (p - q) * 10 + (t p - 48)))) 2 11 (nI (p + 1))) (TC_sI (TC_sI hT (by decide) _) (by decide) _) (by omega) (by omega) (by omega) (by omega) (by rw [gI_sI, if_neg (by decide), gI_sI, if_neg (by decide)]; exact h5) (by rw [gI_sI, if_pos ⟨rfl, rfl⟩]) (fun _ => ⟨by rw [gI_sI, if_neg (by decide), gI_sI, if_neg (by decide)]; exact z1, by rw [gI_sI, if_neg (by decide), gI_sI, if_pos ⟨rfl, rfl⟩, ed1]⟩) (fun z => by omega)
          refine ⟨σ1, ?_, (((Rd.rf _ σ).sI _ rfl).sI _ rfl).trans a2, a3, a4, a5, a6⟩
          have e11 : ∀ v, gI (sI σ 2 6 v) 2 11 = nI p := fun v => by rw [gI_sI, if_neg (by decide)]; exact h11
          rw [k_X6_stepNumber_10]
          simp (disch := omega) only [↓mI_e, lit, ofN, bsm, nI_add, pk_mul, pk_sub, nI_e, nI_leE, nI_ltE, nI_mI, mI_nI, mI_lt, nlt_mI, mI_le, nle_mI, nI_addm, sh_b, bI_0, bI_1, bI_bI, ckZ_b, ckZ_n0, ckZ_n1, stIe, stJe, stZ_n0, stZ_n1, rm_nI, dv_nI, if_true, if_false, if_pos, if_neg, rf0, rf1, rf5, rf6, rf7, rf8, rf9, rf20, rf23, rf24, rf25, rf26, rf29, rf31, rf33, rf34, rf35, rf37, rf38, rf41, rf42, rf43,  hT.1, h11, c, r20, l3, g1, hd, bI_t, n10, h5, c4, z2, k_X6_stepNumber_81, e11]
          exact a1
