/-! THE WORDS of the texts -/
def chN (i k : Nat) : Nat := vN ((bytS.getD i []).getD k 0)
theorem ch_tab : ∀ i : Fin 15, ∀ k : Fin 134, k.1 < lenS.getD i.1 0 → ((ldS i.1 (nI k.1)).bind (fun a2 => ckN .char (((a2 &&& 255).toUInt32 % 65536).toInt32)) = some (nI (chN i.1 k.1)) ∧ ckN .char (nI (chN i.1 k.1)) = some (nI (chN i.1 k.1)) ∧ ¬ (nI k.1 < 0) ∧ nI k.1 < Int32.ofNat (lenS.getD i.1 0) ∧ chN i.1 k.1 < 128) := by decide +kernel
theorem ch_lt {i k : Nat} (hi : i < 15) (hk : k < lenS.getD i 0) (hk2 : k < 134) : chN i k < 128 := (ch_tab ⟨i, hi⟩ ⟨k, hk2⟩ hk).2.2.2.2
theorem c_charAt {i k : Nat} (hi : i < 15) (hk2 : k < 134) (hk : k < lenS.getD i 0) (σ : ST) : f_J0_charAt_5068e i (nI k) σ = some (nI (chN i k), σ) := by
  obtain ⟨h1, h2, h3, h4, _⟩ := ch_tab ⟨i, hi⟩ ⟨k, hk2⟩ hk
  simp only [] at h1 h2 h3 h4
  obtain ⟨a, ha⟩ : ∃ a, ldS i (nI k) = some a := by
    cases z : ldS i (nI k) with
    | none => rw [z] at h1; exact absurd h1 (by simp)
    | some a => exact ⟨a, rfl⟩
  rw [ha] at h1
  have h1' : ckN .char (((a &&& 255).toUInt32 % 65536).toInt32) = some (nI (chN i k)) := h1
  unfold f_J0_charAt_5068e f_J0_isLatin1_aae02 k_J0_isLatin1_aae02_18 f_J1_charAt_3b067 f_J0_checkIndex_df160 f_J3_checkIndex_8e157
  rw [if_neg (show ¬ (1 : Int32) = 0 by decide), if_pos rfl, ckZ_1, b_some, b_some]
  rw [if_neg (show ¬ (1 : Int32) = 0 by decide), if_neg h3, if_pos h4, b_some, b_some, ha, b_some, h1', b_some, b_some, h2, b_some]
theorem r_charAt {i k : Nat} (hi : i < 15) (hk2 : k < 134) (hk : k < lenS.getD i 0) (σ : ST) : f_J0_charAt_5068er i (nI k) σ = some (nI (chN i k), σ) := by
  obtain ⟨h1, h2, h3, h4, _⟩ := ch_tab ⟨i, hi⟩ ⟨k, hk2⟩ hk
  simp only [] at h1 h2 h3 h4
  obtain ⟨a, ha⟩ : ∃ a, ldS i (nI k) = some a := by
    cases z : ldS i (nI k) with
    | none => rw [z] at h1; exact absurd h1 (by simp)
    | some a => exact ⟨a, rfl⟩
  rw [ha] at h1
  have h1' : ckN .char (((a &&& 255).toUInt32 % 65536).toInt32) = some (nI (chN i k)) := h1
  unfold f_J0_charAt_5068er f_J0_isLatin1_aae02r k_J0_isLatin1_aae02r_18 f_J1_charAt_3b067r f_J0_checkIndex_df160r f_J3_checkIndex_8e157r
  rw [if_neg (show ¬ (1 : Int32) = 0 by decide), if_pos rfl, ckZ_1, b_some, b_some]
  rw [if_neg (show ¬ (1 : Int32) = 0 by decide), if_neg h3, if_pos h4, b_some, b_some, ha, b_some, h1', b_some, b_some, h2, b_some]
theorem len_tab : ∀ i : Fin 15, (Int32.ofNat (lenS.getD i.1 0)) >>> ((0 : Int32) &&& 31) = nI (lenS.getD i.1 0) := by decide +kernel
theorem c_length {i : Nat} (hi : i < 15) (σ : ST) : f_J0_length_8abf5 i σ = some (nI (lenS.getD i 0), σ) := by
  unfold f_J0_length_8abf5 f_J0_coder_7d493 k_J0_coder_7d493_14
  rw [if_neg (show ¬ (1 : Int32) = 0 by decide), show ckN .byte 0 = some 0 from rfl, b_some, b_some]
  rw [len_tab ⟨i, hi⟩]
theorem r_length {i : Nat} (hi : i < 15) (σ : ST) : f_J0_length_8abf5r i σ = some (nI (lenS.getD i 0), σ) := by
  unfold f_J0_length_8abf5r f_J0_coder_7d493r k_J0_coder_7d493r_14
  rw [if_neg (show ¬ (1 : Int32) = 0 by decide), show ckN .byte 0 = some 0 from rfl, b_some, b_some]
  rw [len_tab ⟨i, hi⟩]
/-! the class's words: where they begin, how long they are -/
def oWc (i : Nat) : Nat := [0, 7, 13, 20, 27, 30, 34, 38, 42, 49, 53, 57, 62, 67, 72, 77, 82, 87, 93, 99, 104, 110, 113, 119, 124, 128, 133].getD i 133
def lWc (i : Nat) : Nat := [6, 5, 6, 6, 2, 3, 3, 3, 6, 3, 3, 4, 4, 4, 4, 4, 4, 5, 5, 4, 5, 2, 5, 4, 3, 4].getD i 0
def oWr (i : Nat) : Nat := [1, 8, 15, 19, 25, 32, 35, 39, 43, 50, 54, 58, 63, 68, 73, 78, 83, 88, 94, 100, 105, 110, 114, 119, 125, 128, 134].getD i 134
def lWr (i : Nat) : Nat := [6, 6, 3, 5, 6, 2, 3, 3, 6, 3, 3, 4, 4, 4, 4, 4, 4, 5, 5, 4, 4, 3, 4, 5, 2, 5].getD i 0
/-- the class's number of a word as the reference's -/
def pmW (i : Nat) : Nat := [0, 3, 4, 1, 5, 2, 6, 7, 8, 9, 10, 11, 12, 13, 14, 15, 16, 17, 18, 19, 23, 24, 25, 20, 21, 22].getD i 0
theorem wc_tab : ∀ i : Fin 26, oWc (i.1 + 1) = oWc i.1 + lWc i.1 + 1 ∧ oWc i.1 + lWc i.1 < 133 ∧ chN 10 (oWc i.1 + lWc i.1) = 32 ∧ 1 ≤ lWc i.1 ∧ lWc i.1 ≤ 6 ∧ ∀ j : Fin 6, j.1 < lWc i.1 → chN 10 (oWc i.1 + j.1) ≠ 32 := by decide +kernel
theorem wr_tab : ∀ i : Fin 26, oWr (i.1 + 1) = oWr i.1 + lWr i.1 + 1 ∧ oWr i.1 + lWr i.1 < 134 ∧ chN 14 (oWr i.1 + lWr i.1) = 32 ∧ 1 ≤ lWr i.1 ∧ lWr i.1 ≤ 6 ∧ ∀ j : Fin 6, j.1 < lWr i.1 → chN 14 (oWr i.1 + j.1) ≠ 32 := by decide +kernel
theorem pm_tab : ∀ i : Fin 26, pmW i.1 < 26 ∧ lWr (pmW i.1) = lWc i.1 ∧ ∀ j : Fin 6, j.1 < lWc i.1 → chN 14 (oWr (pmW i.1) + j.1) = chN 10 (oWc i.1 + j.1) := by decide +kernel
theorem wc_dis : ∀ i k : Fin 26, lWc i.1 = lWc k.1 → (∀ j : Fin 6, j.1 < lWc i.1 → chN 10 (oWc i.1 + j.1) = chN 10 (oWc k.1 + j.1)) → i = k := by decide +kernel
theorem pm_onto : ∀ k : Fin 26, ∃ i : Fin 26, pmW i.1 = k.1 := by decide +kernel
/-- the word of m letters u is the i-th of the class's own words -/
def mtW (u : Nat → Nat) (m i : Nat) : Bool := decide (lWc i = m ∧ ∀ j, j < lWc i → u j = chN 10 (oWc i + j))
def mtR (u : Nat → Nat) (m i : Nat) : Bool := decide (lWr i = m ∧ ∀ j, j < lWr i → u j = chN 14 (oWr i + j))
theorem mtW_R {u : Nat → Nat} {m i : Nat} (hi : i < 26) : mtR u m (pmW i) = mtW u m i := by
  obtain ⟨h1, h2, h3⟩ := pm_tab ⟨i, hi⟩
  have h6 := (wc_tab ⟨i, hi⟩).2.2.2.2.1
  simp only [] at h1 h2 h3 h6
  unfold mtR mtW
  rw [h2]
  refine decide_eq_decide.mpr ⟨fun z => ⟨z.1, fun j hj => ?_⟩, fun z => ⟨z.1, fun j hj => ?_⟩⟩
  · rw [z.2 j hj]; exact h3 ⟨j, by omega⟩ hj
  · rw [z.2 j hj]; exact (h3 ⟨j, by omega⟩ hj).symm
theorem mtW_1 {u : Nat → Nat} {m i k : Nat} (hi : i < 26) (hk : k < 26) (h1 : mtW u m i = true) (h2 : mtW u m k = true) : i = k := by
  have h1 := of_decide_eq_true h1
  have h2 := of_decide_eq_true h2
  have h6 := (wc_tab ⟨i, hi⟩).2.2.2.2.1
  simp only [] at h6
  have := wc_dis ⟨i, hi⟩ ⟨k, hk⟩ (by show lWc i = lWc k; rw [h1.1, h2.1]) (fun j hj => by
    have a := h1.2 j.1 hj
    have b := h2.2 j.1 (by have : lWc i = lWc k := by rw [h1.1, h2.1]
                           have hj' : j.1 < lWc i := hj
                           omega)
    exact a.symm.trans b)
  exact congrArg Fin.val this
/-! the class looks for an own word -/
theorem c_wd {σ : ST} {q m wh o len : Nat} {u : Nat → Nat} (ho : o + len < 133) (hm : m ≤ 900) (hq : q + m ≤ 900) (hwh : wh < 100) (hbl : chN 10 (o + len) = 32) (hlet : ∀ j, j < len → chN 10 (o + j) ≠ 32) (h5 : gI σ 2 5 = nI q) (hu : ∀ j, j < m → gA σ 3 (q + j) = nI (u j) ∧ u j < 256) : ∀ (d a N : Nat), a + d = len → d < N → k_X6_findOwnWord_10 N 2 (nI m) (nI wh) (nI a) (bI (decide (∀ j, j < a → j < m ∧ u j = chN 10 (o + j)))) (nI (o + a)) σ = if (len = m ∧ ∀ j, j < len → u j = chN 10 (o + j)) then some (nI wh, σ) else k_X6_findOwnWord_10 (N - (d + 1)) 2 (nI m) (nI (wh + 1)) (nI 0) (nI 1) (nI (o + len + 1)) σ := by
  have l10 : lenS.getD 10 0 = 133 := rfl
  have n10 : (nI 1 = nI 0) = False := eq_false (by decide)
  intro d
  induction d with
  | zero =>
    intro a N ha hN
    obtain ⟨N1, rfl⟩ : ∃ N1, N = N1 + 1 := ⟨N - 1, by omega⟩
    have : a = len := by omega
    subst this
    have hc := c_charAt (i := 10) (k := o + a) (by omega) (by omega) (by omega) σ
    rw [hbl] at hc
    have hle := c_length (i := 10) (by omega) σ
    rw [l10] at hle
    have cl : ¬ 133 ≤ o + a := by omega
    rw [k_X6_findOwnWord_10, show N1 + 1 - (0 + 1) = N1 by omega]
    by_cases e : ∀ j, j < a → j < m ∧ u j = chN 10 (o + j)
    · rw [decide_eq_true e]
      by_cases em : a = m
      · rw [if_pos (c := a = m ∧ ∀ j, j < a → u j = chN 10 (o + j)) ⟨em, fun j hj => (e j hj).2⟩]
        simp (disch := omega) only [↓mI_e, lit, ofN, bsm, nI_add, pk_mul, pk_sub, nI_e, nI_leE, nI_ltE, nI_mI, mI_nI, mI_lt, nlt_mI, mI_le, nle_mI, nI_addm, sh_b, bI_0, bI_1, bI_bI, ckZ_b, ckZ_n0, ckZ_n1, stIe, stJe, stZ_n0, stZ_n1, rm_nI, dv_nI, if_true, if_false, if_pos, if_neg, rf0, rf1, rf5, rf6, rf7, rf8, rf9, rf20, rf23, rf24, rf25, rf26, rf29, rf31, rf33, rf34, rf35, rf37, rf38, rf41, rf42, rf43,  hle, cl, hc, Bool.true_eq_false]
      · rw [if_neg (c := a = m ∧ ∀ j, j < a → u j = chN 10 (o + j)) (fun z => em z.1)]
        simp (disch := omega) only [↓mI_e, lit, ofN, bsm, nI_add, pk_mul, pk_sub, nI_e, nI_leE, nI_ltE, nI_mI, mI_nI, mI_lt, nlt_mI, mI_le, nle_mI, nI_addm, sh_b, bI_0, bI_1, bI_bI, ckZ_b, ckZ_n0, ckZ_n1, stIe, stJe, stZ_n0, stZ_n1, rm_nI, dv_nI, if_true, if_false, if_pos, if_neg, rf0, rf1, rf5, rf6, rf7, rf8, rf9, rf20, rf23, rf24, rf25, rf26, rf29, rf31, rf33, rf34, rf35, rf37, rf38, rf41, rf42, rf43,  hle, cl, hc, Bool.true_eq_false, em, k_X6_findOwnWord_48, k_X6_findOwnWord_95]
    · rw [decide_eq_false e, if_neg (c := a = m ∧ ∀ j, j < a → u j = chN 10 (o + j)) (fun z => e (fun j hj => ⟨by omega, z.2 j hj⟩))]
      simp (disch := omega) only [↓mI_e, lit, ofN, bsm, nI_add, pk_mul, pk_sub, nI_e, nI_leE, nI_ltE, nI_mI, mI_nI, mI_lt, nlt_mI, mI_le, nle_mI, nI_addm, sh_b, bI_0, bI_1, bI_bI, ckZ_b, ckZ_n0, ckZ_n1, stIe, stJe, stZ_n0, stZ_n1, rm_nI, dv_nI, if_true, if_false, if_pos, if_neg, rf0, rf1, rf5, rf6, rf7, rf8, rf9, rf20, rf23, rf24, rf25, rf26, rf29, rf31, rf33, rf34, rf35, rf37, rf38, rf41, rf42, rf43,  hle, cl, hc, k_X6_findOwnWord_48, k_X6_findOwnWord_95]
  | succ d ih =>
    intro a N ha hN
    obtain ⟨N1, rfl⟩ : ∃ N1, N = N1 + 1 := ⟨N - 1, by omega⟩
    have hc := c_charAt (i := 10) (k := o + a) (by omega) (by omega) (by omega) σ
    have hlt := ch_lt (i := 10) (k := o + a) (by omega) (by omega) (by omega)
    have hle := c_length (i := 10) (by omega) σ
    rw [l10] at hle
    have cl : ¬ 133 ≤ o + a := by omega
    have h32 : ¬ chN 10 (o + a) = 32 := hlet a (by omega)
    have h1 := ih (a + 1) N1 (by omega) (by omega)
    rw [← Nat.add_assoc, show N1 - (d + 1) = N1 + 1 - (d + 1 + 1) by omega] at h1
    rw [← h1, k_X6_findOwnWord_10]
    by_cases e : ∀ j, j < a → j < m ∧ u j = chN 10 (o + j)
    · rw [decide_eq_true e]
      by_cases em : m ≤ a
      · rw [decide_eq_false (show ¬ ∀ j, j < a + 1 → j < m ∧ u j = chN 10 (o + j) from fun z => by have := (z a (by omega)).1; omega)]
        simp (disch := omega) only [↓mI_e, lit, ofN, bsm, nI_add, pk_mul, pk_sub, nI_e, nI_leE, nI_ltE, nI_mI, mI_nI, mI_lt, nlt_mI, mI_le, nle_mI, nI_addm, sh_b, bI_0, bI_1, bI_bI, ckZ_b, ckZ_n0, ckZ_n1, stIe, stJe, stZ_n0, stZ_n1, rm_nI, dv_nI, if_true, if_false, if_pos, if_neg, rf0, rf1, rf5, rf6, rf7, rf8, rf9, rf20, rf23, rf24, rf25, rf26, rf29, rf31, rf33, rf34, rf35, rf37, rf38, rf41, rf42, rf43,  hle, cl, hc, h32, Bool.true_eq_false, em, k_X6_findOwnWord_89, k_X6_findOwnWord_90, k_X6_findOwnWord_95, bI_f]
      · obtain ⟨g1, g2⟩ := hu a (by omega)
        have l3 : ldA LC σ 3 (nI (q + a)) = some (gA σ 3 (q + a)) := la 900 rfl (by omega) (by decide)
        have r2 : LC.2.1 2 0 = 3 := rfl
        by_cases ee : u a = chN 10 (o + a)
        · rw [decide_eq_true (show ∀ j, j < a + 1 → j < m ∧ u j = chN 10 (o + j) from fun j hj => by
            by_cases z : j = a
            · rw [z]; exact ⟨by omega, ee⟩
            · exact e j (by omega))]
          simp (disch := omega) only [↓mI_e, lit, ofN, bsm, nI_add, pk_mul, pk_sub, nI_e, nI_leE, nI_ltE, nI_mI, mI_nI, mI_lt, nlt_mI, mI_le, nle_mI, nI_addm, sh_b, bI_0, bI_1, bI_bI, ckZ_b, ckZ_n0, ckZ_n1, stIe, stJe, stZ_n0, stZ_n1, rm_nI, dv_nI, if_true, if_false, if_pos, if_neg, rf0, rf1, rf5, rf6, rf7, rf8, rf9, rf20, rf23, rf24, rf25, rf26, rf29, rf31, rf33, rf34, rf35, rf37, rf38, rf41, rf42, rf43,  hle, cl, hc, h32, Bool.true_eq_false, em, r2, h5, l3, g1, ee, k_X6_findOwnWord_90, k_X6_findOwnWord_95, bI_t]
        · rw [decide_eq_false (show ¬ ∀ j, j < a + 1 → j < m ∧ u j = chN 10 (o + j) from fun z => ee (z a (by omega)).2)]
          simp (disch := omega) only [↓mI_e, lit, ofN, bsm, nI_add, pk_mul, pk_sub, nI_e, nI_leE, nI_ltE, nI_mI, mI_nI, mI_lt, nlt_mI, mI_le, nle_mI, nI_addm, sh_b, bI_0, bI_1, bI_bI, ckZ_b, ckZ_n0, ckZ_n1, stIe, stJe, stZ_n0, stZ_n1, rm_nI, dv_nI, if_true, if_false, if_pos, if_neg, rf0, rf1, rf5, rf6, rf7, rf8, rf9, rf20, rf23, rf24, rf25, rf26, rf29, rf31, rf33, rf34, rf35, rf37, rf38, rf41, rf42, rf43,  hle, cl, hc, h32, Bool.true_eq_false, em, r2, h5, l3, g1, ee, k_X6_findOwnWord_89, k_X6_findOwnWord_90, k_X6_findOwnWord_95, bI_f]
    · rw [decide_eq_false e, decide_eq_false (show ¬ ∀ j, j < a + 1 → j < m ∧ u j = chN 10 (o + j) from fun z => e (fun j hj => z j (by omega)))]
      simp (disch := omega) only [↓mI_e, lit, ofN, bsm, nI_add, pk_mul, pk_sub, nI_e, nI_leE, nI_ltE, nI_mI, mI_nI, mI_lt, nlt_mI, mI_le, nle_mI, nI_addm, sh_b, bI_0, bI_1, bI_bI, ckZ_b, ckZ_n0, ckZ_n1, stIe, stJe, stZ_n0, stZ_n1, rm_nI, dv_nI, if_true, if_false, if_pos, if_neg, rf0, rf1, rf5, rf6, rf7, rf8, rf9, rf20, rf23, rf24, rf25, rf26, rf29, rf31, rf33, rf34, rf35, rf37, rf38, rf41, rf42, rf43,  hle, cl, hc, h32, k_X6_findOwnWord_89, k_X6_findOwnWord_90, k_X6_findOwnWord_95, bI_f]
theorem c_find {σ : ST} {q m : Nat} {u : Nat → Nat} (hm : m ≤ 900) (hq : q + m ≤ 900) (h5 : gI σ 2 5 = nI q) (hu : ∀ j, j < m → gA σ 3 (q + j) = nI (u j) ∧ u j < 256) : ∀ (e i N : Nat), i + e = 26 → 133 - oWc i < N → oWc i ≤ 133 → ∃ r, k_X6_findOwnWord_10 N 2 (nI m) (nI i) (nI 0) (nI 1) (nI (oWc i)) σ = some (r, σ) ∧ ((∃ k, i ≤ k ∧ k < 26 ∧ mtW u m k = true ∧ r = nI k) ∨ ((∀ k, i ≤ k → k < 26 → mtW u m k = false) ∧ r = mI)) := by
  have l10 : lenS.getD 10 0 = 133 := rfl
  intro e
  induction e with
  | zero =>
    intro i N hi hN _
    obtain ⟨N1, rfl⟩ : ∃ N1, N = N1 + 1 := ⟨N - 1, by omega⟩
    have : i = 26 := by omega
    subst this
    have hle := c_length (i := 10) (by omega) σ
    rw [l10] at hle
    have eo : oWc 26 = 133 := rfl
    refine ⟨mI, ?_, Or.inr ⟨fun k h1 h2 => by omega, rfl⟩⟩
    rw [k_X6_findOwnWord_10, eo]
    simp (disch := omega) only [↓mI_e, lit, ofN, bsm, nI_add, pk_mul, pk_sub, nI_e, nI_leE, nI_ltE, nI_mI, mI_nI, mI_lt, nlt_mI, mI_le, nle_mI, nI_addm, sh_b, bI_0, bI_1, bI_bI, ckZ_b, ckZ_n0, ckZ_n1, stIe, stJe, stZ_n0, stZ_n1, rm_nI, dv_nI, if_true, if_false, if_pos, if_neg, rf0, rf1, rf5, rf6, rf7, rf8, rf9, rf20, rf23, rf24, rf25, rf26, rf29, rf31, rf33, rf34, rf35, rf37, rf38, rf41, rf42, rf43,  hle]
  | succ e ih =>
    intro i N hi hN ho
    obtain ⟨t1, t2, t3, t4, t5, t6⟩ := wc_tab ⟨i, by omega⟩
    simp only [] at t1 t2 t3 t4 t5 t6
    have h1 := c_wd (σ := σ) (q := q) (m := m) (wh := i) (o := oWc i) (len := lWc i) (u := u) t2 hm hq (by omega) t3 (fun j hj => t6 ⟨j, by omega⟩ hj) h5 hu (lWc i) 0 N (by omega) (by omega)
    rw [decide_eq_true (show ∀ j, j < 0 → j < m ∧ u j = chN 10 (oWc i + j) from fun j hj => by omega), bI_t, Nat.add_zero] at h1
    rw [h1]
    by_cases z : lWc i = m ∧ ∀ j, j < lWc i → u j = chN 10 (oWc i + j)
    · rw [if_pos z]
      exact ⟨nI i, rfl, Or.inl ⟨i, Nat.le_refl _, by omega, decide_eq_true z, rfl⟩⟩
    · rw [if_neg z, ← t1]
      obtain ⟨r, r1, r2⟩ := ih (i + 1) (N - (lWc i + 1)) (by omega) (by omega) (by omega)
      refine ⟨r, r1, ?_⟩
      rcases r2 with ⟨k, k1, k2, k3, k4⟩ | ⟨k1, k2⟩
      · exact Or.inl ⟨k, by omega, k2, k3, k4⟩
      · refine Or.inr ⟨fun k h1 h2 => ?_, k2⟩
        by_cases e : k = i
        · rw [e]; exact decide_eq_false z
        · exact k1 k (by omega) h2
