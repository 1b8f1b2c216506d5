/-! TOKENS of a text t of n bytes -/
def ed (P : Nat → Bool) (t : Nat → Nat) (n : Nat) : Nat → Nat → Nat
  | 0, p => p
  | f + 1, p => if p < n ∧ P (t p) = true then ed P t n f (p + 1) else p
def Ed (P : Nat → Bool) (t : Nat → Nat) (n p q : Nat) : Prop := p ≤ q ∧ q ≤ n ∧ (∀ j, p ≤ j → j < q → P (t j) = true) ∧ (q < n → P (t q) = false)
theorem ed_spec (P : Nat → Bool) (t : Nat → Nat) (n : Nat) : ∀ f p, p ≤ n → n - p ≤ f → Ed P t n p (ed P t n f p)
  | 0, p, h1, h2 => ⟨Nat.le_refl _, h1, fun j a b => by simp only [ed] at b; omega, fun z => by simp only [ed] at z; omega⟩
  | f + 1, p, h1, h2 => by
    rw [ed]
    by_cases c : p < n ∧ P (t p) = true
    · rw [if_pos c]
      obtain ⟨a1, a2, a3, a4⟩ := ed_spec P t n f (p + 1) (by omega) (by omega)
      refine ⟨by omega, a2, fun j b1 b2 => ?_, a4⟩
      by_cases e : j = p
      · rw [e]; exact c.2
      · exact a3 j (by omega) b2
    · rw [if_neg c]
      refine ⟨Nat.le_refl _, h1, fun j a b => by omega, fun z => ?_⟩
      cases q : P (t p)
      · rfl
      · exact absurd ⟨z, q⟩ c
theorem Ed_uniq {P : Nat → Bool} {t : Nat → Nat} {n p q q' : Nat} (h : Ed P t n p q) (h' : Ed P t n p q') : q = q' := by
  obtain ⟨a1, a2, a3, a4⟩ := h
  obtain ⟨b1, b2, b3, b4⟩ := h'
  rcases Nat.lt_trichotomy q q' with z | z | z
  · have := b3 q (by omega) z
    rw [a4 (by omega)] at this; exact absurd this (by decide)
  · exact z
  · have := a3 q' (by omega) z
    rw [b4 (by omega)] at this; exact absurd this (by decide)
def edn (P : Nat → Bool) (t : Nat → Nat) (n p : Nat) : Nat := ed P t n (n - p) p
theorem edn_spec (P : Nat → Bool) (t : Nat → Nat) {n p : Nat} (h : p ≤ n) : Ed P t n p (edn P t n p) := ed_spec P t n (n - p) p h (Nat.le_refl _)
theorem edn_at {P : Nat → Bool} {t : Nat → Nat} {n p : Nat} (h : p ≤ n) (hp : p < n → P (t p) = false) : edn P t n p = p := Ed_uniq (edn_spec P t h) ⟨Nat.le_refl _, h, fun j a b => by omega, hp⟩
theorem edn_s {P : Nat → Bool} {t : Nat → Nat} {n p : Nat} (h : p < n) (hp : P (t p) = true) : edn P t n p = edn P t n (p + 1) := by
  obtain ⟨b1, b2, b3, b4⟩ := edn_spec P t (show p + 1 ≤ n by omega)
  refine Ed_uniq (edn_spec P t (by omega)) ⟨by omega, b2, fun j c1 c2 => ?_, b4⟩
  by_cases e : j = p
  · rw [e]; exact hp
  · exact b3 j (by omega) c2
def pBl (c : Nat) : Bool := decide (c = 10 ∨ c = 32)
def pLe (c : Nat) : Bool := decide (97 ≤ c ∧ c ≤ 122)
def pDi (c : Nat) : Bool := decide (48 ≤ c ∧ c ≤ 57)
/-- the number that m digits from q on tell -/
def dgN (t : Nat → Nat) (q : Nat) : Nat → Nat
  | 0 => 0
  | m + 1 => dgN t q m * 10 + (t (q + m) - 48)
/-- what m letters from q on tell, by 32 and by 256 -/
def ltN (b : Nat) (g : Nat → Nat) (t : Nat → Nat) (q : Nat) : Nat → Nat
  | 0 => 0
  | m + 1 => ltN b g t q m * b + g (t (q + m))
/-- the text as the class has it -/
def TC (σ : ST) (t : Nat → Nat) (n : Nat) : Prop := gI σ 2 10 = nI n ∧ n ≤ 900 ∧ ∀ k, k < n → gA σ 3 k = nI (t k) ∧ t k < 256
theorem l3 {σ : ST} {k : Nat} (h : k < 900) : ldA LC σ 3 (nI k) = some (gA σ 3 k) := la 900 rfl h (by decide)
theorem r20 : LC.2.1 2 0 = 3 := rfl
theorem c_isLetter {c : Nat} (hc : c < 256) (σ : ST) : f_X6_isLetter (nI c) σ = some (bI (pLe c), σ) := by
  unfold pLe
  by_cases h1 : c < 97
  · rw [decide_eq_false (by omega)]
    simp (disch := omega) only [↓mI_e, lit, ofN, bsm, nI_add, pk_mul, pk_sub, nI_e, nI_leE, nI_ltE, nI_mI, mI_nI, mI_lt, nlt_mI, mI_le, nle_mI, nI_addm, sh_b, bI_0, bI_1, bI_bI, ckZ_b, ckZ_n0, ckZ_n1, stIe, stJe, stZ_n0, stZ_n1, rm_nI, dv_nI, if_true, if_false, if_pos, if_neg, rf0, rf1, rf5, rf6, rf7, rf8, rf9, rf20, rf23, rf24, rf25, rf26, rf29, rf31, rf33, rf34, rf35, rf37, rf38, rf41, rf42, rf43,  f_X6_isLetter, k_X6_isLetter_16, k_X6_isLetter_17, h1, bI_f]
  · by_cases h2 : 122 < c
    · rw [decide_eq_false (by omega)]
      simp (disch := omega) only [↓mI_e, lit, ofN, bsm, nI_add, pk_mul, pk_sub, nI_e, nI_leE, nI_ltE, nI_mI, mI_nI, mI_lt, nlt_mI, mI_le, nle_mI, nI_addm, sh_b, bI_0, bI_1, bI_bI, ckZ_b, ckZ_n0, ckZ_n1, stIe, stJe, stZ_n0, stZ_n1, rm_nI, dv_nI, if_true, if_false, if_pos, if_neg, rf0, rf1, rf5, rf6, rf7, rf8, rf9, rf20, rf23, rf24, rf25, rf26, rf29, rf31, rf33, rf34, rf35, rf37, rf38, rf41, rf42, rf43,  f_X6_isLetter, k_X6_isLetter_16, k_X6_isLetter_17, h1, h2, bI_f]
    · rw [decide_eq_true (by omega)]
      simp (disch := omega) only [↓mI_e, lit, ofN, bsm, nI_add, pk_mul, pk_sub, nI_e, nI_leE, nI_ltE, nI_mI, mI_nI, mI_lt, nlt_mI, mI_le, nle_mI, nI_addm, sh_b, bI_0, bI_1, bI_bI, ckZ_b, ckZ_n0, ckZ_n1, stIe, stJe, stZ_n0, stZ_n1, rm_nI, dv_nI, if_true, if_false, if_pos, if_neg, rf0, rf1, rf5, rf6, rf7, rf8, rf9, rf20, rf23, rf24, rf25, rf26, rf29, rf31, rf33, rf34, rf35, rf37, rf38, rf41, rf42, rf43,  f_X6_isLetter, k_X6_isLetter_16, k_X6_isLetter_17, h1, h2, bI_t]
theorem c_isDigit {c : Nat} (hc : c < 256) (σ : ST) : f_X6_isDigit (nI c) σ = some (bI (pDi c), σ) := by
  unfold pDi
  by_cases h1 : c < 48
  · rw [decide_eq_false (by omega)]
    simp (disch := omega) only [↓mI_e, lit, ofN, bsm, nI_add, pk_mul, pk_sub, nI_e, nI_leE, nI_ltE, nI_mI, mI_nI, mI_lt, nlt_mI, mI_le, nle_mI, nI_addm, sh_b, bI_0, bI_1, bI_bI, ckZ_b, ckZ_n0, ckZ_n1, stIe, stJe, stZ_n0, stZ_n1, rm_nI, dv_nI, if_true, if_false, if_pos, if_neg, rf0, rf1, rf5, rf6, rf7, rf8, rf9, rf20, rf23, rf24, rf25, rf26, rf29, rf31, rf33, rf34, rf35, rf37, rf38, rf41, rf42, rf43,  f_X6_isDigit, k_X6_isDigit_16, k_X6_isDigit_17, h1, bI_f]
  · by_cases h2 : 57 < c
    · rw [decide_eq_false (by omega)]
      simp (disch := omega) only [↓mI_e, lit, ofN, bsm, nI_add, pk_mul, pk_sub, nI_e, nI_leE, nI_ltE, nI_mI, mI_nI, mI_lt, nlt_mI, mI_le, nle_mI, nI_addm, sh_b, bI_0, bI_1, bI_bI, ckZ_b, ckZ_n0, ckZ_n1, stIe, stJe, stZ_n0, stZ_n1, rm_nI, dv_nI, if_true, if_false, if_pos, if_neg, rf0, rf1, rf5, rf6, rf7, rf8, rf9, rf20, rf23, rf24, rf25, rf26, rf29, rf31, rf33, rf34, rf35, rf37, rf38, rf41, rf42, rf43,  f_X6_isDigit, k_X6_isDigit_16, k_X6_isDigit_17, h1, h2, bI_f]
    · rw [decide_eq_true (by omega)]
      simp (disch := omega) only [↓mI_e, lit, ofN, bsm, nI_add, pk_mul, pk_sub, nI_e, nI_leE, nI_ltE, nI_mI, mI_nI, mI_lt, nlt_mI, mI_le, nle_mI, nI_addm, sh_b, bI_0, bI_1, bI_bI, ckZ_b, ckZ_n0, ckZ_n1, stIe, stJe, stZ_n0, stZ_n1, rm_nI, dv_nI, if_true, if_false, if_pos, if_neg, rf0, rf1, rf5, rf6, rf7, rf8, rf9, rf20, rf23, rf24, rf25, rf26, rf29, rf31, rf33, rf34, rf35, rf37, rf38, rf41, rf42, rf43,  f_X6_isDigit, k_X6_isDigit_16, k_X6_isDigit_17, h1, h2, bI_t]
theorem TC_sI {σ : ST} {t : Nat → Nat} {n : Nat} (h : TC σ t n) {k : Nat} (hk : k ≠ 10) (v : Int32) : TC (sI σ 2 k v) t n := ⟨by rw [gI_sI, if_neg (fun z => hk z.2.symm)]; exact h.1, h.2⟩
theorem TC_sJ {σ : ST} {t : Nat → Nat} {n : Nat} (h : TC σ t n) {k : Nat} (v : Int64) : TC (sJ σ 2 k v) t n := h
/-- blanks are passed over -/
theorem c_step_0 {t : Nat → Nat} {n : Nat} : ∀ (m p N : Nat) (σ : ST), TC σ t n → p ≤ n → n - p ≤ m → m < N → gI σ 2 11 = nI p → ∃ N', 0 < N' ∧ k_X6_step_0 N 2 σ = k_X6_step_52 2 (sI σ 2 11 (nI (edn pBl t n p))) := by
  intro m
  induction m with
  | zero =>
    intro p N σ hT hp hm hN h11
    obtain ⟨N1, rfl⟩ : ∃ N1, N = N1 + 1 := ⟨N - 1, by omega⟩
    have hn := hT.2.1
    have e : p = n := by omega
    subst e
    refine ⟨1, by omega, ?_⟩
    rw [edn_at (Nat.le_refl _) (fun z => by omega), ← h11, sI_self, k_X6_step_0]
    simp (disch := omega) only [↓mI_e, lit, ofN, bsm, nI_add, pk_mul, pk_sub, nI_e, nI_leE, nI_ltE, nI_mI, mI_nI, mI_lt, nlt_mI, mI_le, nle_mI, nI_addm, sh_b, bI_0, bI_1, bI_bI, ckZ_b, ckZ_n0, ckZ_n1, stIe, stJe, stZ_n0, stZ_n1, rm_nI, dv_nI, if_true, if_false, if_pos, if_neg, rf0, rf1, rf5, rf6, rf7, rf8, rf9, rf20, rf23, rf24, rf25, rf26, rf29, rf31, rf33, rf34, rf35, rf37, rf38, rf41, rf42, rf43,  hT.1, h11]
  | succ m ih =>
    intro p N σ hT hp hm hN h11
    obtain ⟨N1, rfl⟩ : ∃ N1, N = N1 + 1 := ⟨N - 1, by omega⟩
    have hn := hT.2.1
    by_cases c : n ≤ p
    · have e : p = n := by omega
      subst e
      refine ⟨1, by omega, ?_⟩
      rw [edn_at (Nat.le_refl _) (fun z => by omega), ← h11, sI_self, k_X6_step_0]
      simp (disch := omega) only [↓mI_e, lit, ofN, bsm, nI_add, pk_mul, pk_sub, nI_e, nI_leE, nI_ltE, nI_mI, mI_nI, mI_lt, nlt_mI, mI_le, nle_mI, nI_addm, sh_b, bI_0, bI_1, bI_bI, ckZ_b, ckZ_n0, ckZ_n1, stIe, stJe, stZ_n0, stZ_n1, rm_nI, dv_nI, if_true, if_false, if_pos, if_neg, rf0, rf1, rf5, rf6, rf7, rf8, rf9, rf20, rf23, rf24, rf25, rf26, rf29, rf31, rf33, rf34, rf35, rf37, rf38, rf41, rf42, rf43,  hT.1, h11]
    · obtain ⟨g1, g2⟩ := hT.2.2 p (by omega)
      by_cases b : t p = 10 ∨ t p = 32
      · obtain ⟨N', n1, n2⟩ := ih (p + 1) N1 (sI σ 2 11 (nI (p + 1))) (TC_sI hT (by decide) _) (by omega) (by omega) (by omega) (by rw [gI_sI, if_pos ⟨rfl, rfl⟩])
        rw [sI_sI, ← edn_s (show p < n by omega) (show pBl (t p) = true from decide_eq_true b)] at n2
        refine ⟨N', n1, ?_⟩
        rw [← n2, k_X6_step_0]
        rcases b with b | b
        · simp (disch := omega) only [↓mI_e, lit, ofN, bsm, nI_add, pk_mul, pk_sub, nI_e, nI_leE, nI_ltE, nI_mI, mI_nI, mI_lt, nlt_mI, mI_le, nle_mI, nI_addm, sh_b, bI_0, bI_1, bI_bI, ckZ_b, ckZ_n0, ckZ_n1, stIe, stJe, stZ_n0, stZ_n1, rm_nI, dv_nI, if_true, if_false, if_pos, if_neg, rf0, rf1, rf5, rf6, rf7, rf8, rf9, rf20, rf23, rf24, rf25, rf26, rf29, rf31, rf33, rf34, rf35, rf37, rf38, rf41, rf42, rf43,  hT.1, h11, c, r20, l3, g1, b, k_X6_step_39]
        · simp (disch := omega) only [↓mI_e, lit, ofN, bsm, nI_add, pk_mul, pk_sub, nI_e, nI_leE, nI_ltE, nI_mI, mI_nI, mI_lt, nlt_mI, mI_le, nle_mI, nI_addm, sh_b, bI_0, bI_1, bI_bI, ckZ_b, ckZ_n0, ckZ_n1, stIe, stJe, stZ_n0, stZ_n1, rm_nI, dv_nI, if_true, if_false, if_pos, if_neg, rf0, rf1, rf5, rf6, rf7, rf8, rf9, rf20, rf23, rf24, rf25, rf26, rf29, rf31, rf33, rf34, rf35, rf37, rf38, rf41, rf42, rf43,  hT.1, h11, c, r20, l3, g1, b, k_X6_step_39]
      · refine ⟨1, by omega, ?_⟩
        have b1 : ¬ t p = 10 := fun z => b (Or.inl z)
        have b2 : ¬ t p = 32 := fun z => b (Or.inr z)
        rw [edn_at (by omega) (fun _ => decide_eq_false b), ← h11, sI_self, k_X6_step_0]
        simp (disch := omega) only [↓mI_e, lit, ofN, bsm, nI_add, pk_mul, pk_sub, nI_e, nI_leE, nI_ltE, nI_mI, mI_nI, mI_lt, nlt_mI, mI_le, nle_mI, nI_addm, sh_b, bI_0, bI_1, bI_bI, ckZ_b, ckZ_n0, ckZ_n1, stIe, stJe, stZ_n0, stZ_n1, rm_nI, dv_nI, if_true, if_false, if_pos, if_neg, rf0, rf1, rf5, rf6, rf7, rf8, rf9, rf20, rf23, rf24, rf25, rf26, rf29, rf31, rf33, rf34, rf35, rf37, rf38, rf41, rf42, rf43,  hT.1, h11, c, r20, l3, g1, b1, b2]
