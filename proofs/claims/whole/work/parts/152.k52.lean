/-! the class's step, behind the blanks -/
def k52 (σ5 : ST) : Option ST := if (gI σ5 2 11) < (gI σ5 2 10) then ((ldA LC σ5 (LC.2.1 2 0) (gI σ5 2 11)).bind fun a7 =>
  (f_X6_isLetter a7 σ5).bind fun u8 =>
  if u8.1 = 0 then ((ldA LC u8.2 (LC.2.1 2 0) (gI u8.2 2 11)).bind fun a10 =>
  (f_X6_isDigit a10 u8.2).bind fun u11 =>
  if u11.1 = 0 then ((ldA LC u11.2 (LC.2.1 2 0) (gI u11.2 2 11)).bind fun a13 =>
  (stI u11.2 2 7 a13).bind fun σ14 =>
  if (gI σ14 2 7) = 59 then (k_X6_step_185 2 2 σ14) else (if (gI σ14 2 7) = 60 then (k_X6_step_185 2 2 σ14) else (if (gI σ14 2 7) = 62 then (k_X6_step_185 2 2 σ14) else (if (gI σ14 2 7) = 61 then (k_X6_step_185 2 2 σ14) else (k_X6_step_190 2 2 4 σ14))))) else ((f_X6_stepNumber 2 u11.2).bind fun u19 =>
  k_X6_step_203 u19)) else ((f_X6_stepWord 2 u8.2).bind fun u20 =>
  k_X6_step_203 u20)) else ((stI σ5 2 4 0).bind fun σ21 =>
  k_X6_step_203 σ21)
theorem s52 {σ : ST} {q : Nat} (h : gI σ 2 11 = nI q) : k_X6_step_52 2 σ = k52 (sJ (sI (sI σ 2 5 (nI q)) 2 8 mI) 2 9 (-1)) := by
  rw [k_X6_step_52, h, stIe, bsm, stIe, bsm, stJe, bsm]
  rfl
theorem k52_end {σ : ST} {n q : Nat} (h : gI σ 2 11 = nI q) (h10 : gI σ 2 10 = nI n) (hn : n ≤ 900) (hq : q ≤ 900) (c : n ≤ q) : k52 σ = some (sI σ 2 4 (nI 0)) := by
  unfold k52
  rw [if_neg (show ¬ gI σ 2 11 < gI σ 2 10 by rw [h, h10, nI_ltE (by omega) (by omega)]; omega)]
  rfl
theorem k52_go {σ : ST} {t : Nat → Nat} {n q : Nat} (hT : TC σ t n) (h : gI σ 2 11 = nI q) (c : q < n) (b1 : pLe (t q) = true) : k52 σ = f_X6_stepWord 2 σ := by
  have hn := hT.2.1
  obtain ⟨g1, g2⟩ := hT.2.2 q c
  have hle := c_isLetter g2 σ
  rw [b1] at hle
  unfold k52
  rw [if_pos (show gI σ 2 11 < gI σ 2 10 by rw [h, hT.1, nI_ltE (by omega) (by omega)]; omega), r20, h, l3 (by omega), bsm, g1, hle, bsm, if_neg (show ¬ ((bI true, σ) : Int32 × ST).1 = 0 from fun z => absurd (show bI true = 0 from z) (by decide))]
  cases f_X6_stepWord 2 σ <;> rfl
theorem k52_di {σ : ST} {t : Nat → Nat} {n q : Nat} (hT : TC σ t n) (h : gI σ 2 11 = nI q) (c : q < n) (b1 : pLe (t q) = false) (b2 : pDi (t q) = true) : k52 σ = f_X6_stepNumber 2 σ := by
  have hn := hT.2.1
  obtain ⟨g1, g2⟩ := hT.2.2 q c
  have hle := c_isLetter g2 σ
  have hdi := c_isDigit g2 σ
  rw [b1] at hle
  rw [b2] at hdi
  unfold k52
  rw [if_pos (show gI σ 2 11 < gI σ 2 10 by rw [h, hT.1, nI_ltE (by omega) (by omega)]; omega), r20, h, l3 (by omega), bsm, g1, hle, bsm, if_pos (show ((bI false, σ) : Int32 × ST).1 = 0 from rfl)]
  simp only []
  rw [h, l3 (by omega), bsm, g1, hdi, bsm, if_neg (show ¬ ((bI true, σ) : Int32 × ST).1 = 0 from fun z => absurd (show bI true = 0 from z) (by decide))]
  cases f_X6_stepNumber 2 σ <;> rfl
/-- a sign, or none -/
theorem k52_sg {σ : ST} {t : Nat → Nat} {n q : Nat} (hT : TC σ t n) (h : gI σ 2 11 = nI q) (c : q < n) (b1 : pLe (t q) = false) (b2 : pDi (t q) = false) : k52 σ = some (sI (sI (sI σ 2 7 (nI (t q))) 2 4 (nI (if t q = 59 ∨ t q = 60 ∨ t q = 62 ∨ t q = 61 then 3 else 4))) 2 11 (nI (q + 1))) := by
  have hn := hT.2.1
  obtain ⟨g1, g2⟩ := hT.2.2 q c
  have hle := c_isLetter g2 σ
  have hdi := c_isDigit g2 σ
  rw [b1] at hle
  rw [b2] at hdi
  unfold k52
  rw [if_pos (show gI σ 2 11 < gI σ 2 10 by rw [h, hT.1, nI_ltE (by omega) (by omega)]; omega), r20, h, l3 (by omega), bsm, g1, hle, bsm, if_pos (show ((bI false, σ) : Int32 × ST).1 = 0 from rfl)]
  simp only []
  rw [h, l3 (by omega), bsm, g1, hdi, bsm, if_pos (show ((bI false, σ) : Int32 × ST).1 = 0 from rfl)]
  simp only []
  rw [h, l3 (by omega), bsm, g1, stIe, bsm]
  have s7 : gI (sI σ 2 7 (nI (t q))) 2 7 = nI (t q) := by rw [gI_sI, if_pos ⟨rfl, rfl⟩]
  have s11 : ∀ v, gI (sI (sI σ 2 7 (nI (t q))) 2 4 v) 2 11 = nI q := fun v => by rw [gI_sI, if_neg (by decide), gI_sI, if_neg (by decide)]; exact h
  have yes : k_X6_step_185 2 2 (sI σ 2 7 (nI (t q))) = some (sI (sI (sI σ 2 7 (nI (t q))) 2 4 (nI 3)) 2 11 (nI (q + 1))) := by
    simp (disch := omega) only [↓mI_e, lit, ofN, bsm, nI_add, pk_mul, pk_sub, nI_e, nI_leE, nI_ltE, nI_mI, mI_nI, mI_lt, nlt_mI, mI_le, nle_mI, nI_addm, sh_b, bI_0, bI_1, bI_bI, ckZ_b, ckZ_n0, ckZ_n1, stIe, stJe, stZ_n0, stZ_n1, rm_nI, dv_nI, if_true, if_false, if_pos, if_neg, rf0, rf1, rf5, rf6, rf7, rf8, rf9, rf20, rf23, rf24, rf25, rf26, rf29, rf31, rf33, rf34, rf35, rf37, rf38, rf41, rf42, rf43,  k_X6_step_185, k_X6_step_190, k_X6_step_203, s11]
  have no : k_X6_step_190 2 2 4 (sI σ 2 7 (nI (t q))) = some (sI (sI (sI σ 2 7 (nI (t q))) 2 4 (nI 4)) 2 11 (nI (q + 1))) := by
    simp (disch := omega) only [↓mI_e, lit, ofN, bsm, nI_add, pk_mul, pk_sub, nI_e, nI_leE, nI_ltE, nI_mI, mI_nI, mI_lt, nlt_mI, mI_le, nle_mI, nI_addm, sh_b, bI_0, bI_1, bI_bI, ckZ_b, ckZ_n0, ckZ_n1, stIe, stJe, stZ_n0, stZ_n1, rm_nI, dv_nI, if_true, if_false, if_pos, if_neg, rf0, rf1, rf5, rf6, rf7, rf8, rf9, rf20, rf23, rf24, rf25, rf26, rf29, rf31, rf33, rf34, rf35, rf37, rf38, rf41, rf42, rf43,  k_X6_step_190, k_X6_step_203, s11]
  have q59 : (nI (t q) = (59 : Int32)) = (t q = 59) := nI_e (b := 59) (by omega) (by omega)
  have q60 : (nI (t q) = (60 : Int32)) = (t q = 60) := nI_e (b := 60) (by omega) (by omega)
  have q62 : (nI (t q) = (62 : Int32)) = (t q = 62) := nI_e (b := 62) (by omega) (by omega)
  have q61 : (nI (t q) = (61 : Int32)) = (t q = 61) := nI_e (b := 61) (by omega) (by omega)
  rw [s7, yes, no]
  by_cases c1 : t q = 59
  · rw [if_pos (by rw [q59]; exact c1), if_pos (Or.inl c1)]
  · rw [if_neg (by rw [q59]; exact c1)]
    by_cases c2 : t q = 60
    · rw [if_pos (by rw [q60]; exact c2), if_pos (Or.inr (Or.inl c2))]
    · rw [if_neg (by rw [q60]; exact c2)]
      by_cases c3 : t q = 62
      · rw [if_pos (by rw [q62]; exact c3), if_pos (Or.inr (Or.inr (Or.inl c3)))]
      · rw [if_neg (by rw [q62]; exact c3)]
        by_cases c4 : t q = 61
        · rw [if_pos (by rw [q61]; exact c4), if_pos (Or.inr (Or.inr (Or.inr c4)))]
        · rw [if_neg (by rw [q61]; exact c4), if_neg (by omega)]
