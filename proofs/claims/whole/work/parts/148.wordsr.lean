/-! the reference looks for an own word -/
def TX (τ : ST) (t : Nat → Nat) (n : Nat) : Prop := gI τ 0 11 = nI n ∧ n ≤ 900 ∧ ∀ k, k < n → gA τ 7 k &&& nI 255 = nI (t k) ∧ t k < 256
theorem r_byteAt {τ : ST} {t : Nat → Nat} {n : Nat} (h : TX τ t n) {k : Nat} (hk : k < n) : f_X12_byteAt 0 (nI k) τ = some (nI (t k), τ) := by
  obtain ⟨h1, h2, h3⟩ := h
  have h4 := (h3 k hk).1
  have c : ¬ n ≤ k := by omega
  simp (disch := omega) only [↓mI_e, lit, ofN, bsm, nI_add, pk_mul, pk_sub, nI_e, nI_leE, nI_ltE, nI_mI, mI_nI, mI_lt, nlt_mI, mI_le, nle_mI, nI_addm, sh_b, bI_0, bI_1, bI_bI, ckZ_b, ckZ_n0, ckZ_n1, stIe, stJe, stZ_n0, stZ_n1, rm_nI, dv_nI, if_true, if_false, if_pos, if_neg, rf0, rf1, rf5, rf6, rf7, rf8, rf9, rf20, rf23, rf24, rf25, rf26, rf29, rf31, rf33, rf34, rf35, rf37, rf38, rf41, rf42, rf43,  f_X12_byteAt, k_X12_byteAt_22, h1, c, lr7, h4]
theorem r_byteEnd {τ : ST} {t : Nat → Nat} {n : Nat} (h : TX τ t n) {k : Nat} (hk : n ≤ k) (hk2 : k < 2000) : f_X12_byteAt 0 (nI k) τ = some (mI, τ) := by
  obtain ⟨h1, h2, h3⟩ := h
  simp (disch := omega) only [↓mI_e, lit, ofN, bsm, nI_add, pk_mul, pk_sub, nI_e, nI_leE, nI_ltE, nI_mI, mI_nI, mI_lt, nlt_mI, mI_le, nle_mI, nI_addm, sh_b, bI_0, bI_1, bI_bI, ckZ_b, ckZ_n0, ckZ_n1, stIe, stJe, stZ_n0, stZ_n1, rm_nI, dv_nI, if_true, if_false, if_pos, if_neg, rf0, rf1, rf5, rf6, rf7, rf8, rf9, rf20, rf23, rf24, rf25, rf26, rf29, rf31, rf33, rf34, rf35, rf37, rf38, rf41, rf42, rf43,  f_X12_byteAt, k_X12_byteAt_22, h1, hk]
theorem r_wd_68 {τ : ST} {t : Nat → Nat} {n q m o wh : Nat} (hT : TX τ t n) (hq : q + m ≤ n) (ho : o + m < 134) (h13 : gI τ 0 13 = nI q) (rec14 : Nat → Nat → Int32 → Int32 → ST → Option (Int32 × ST)) : ∀ (d a N : Nat), a + d = m → d < N → k_X12_inWords_68 rec14 N 0 14 (nI wh) (nI o) (nI (o + m)) (bI (decide (∀ j, j < a → t (q + j) = chN 14 (o + j)))) (nI (o + a)) τ = k_X12_inWords_115 rec14 0 14 (nI wh) (nI (o + m)) (bI (decide (∀ j, j < m → t (q + j) = chN 14 (o + j)))) τ := by
  have l14 : lenS.getD 14 0 = 134 := rfl
  have hn := hT.2.1
  intro d
  induction d with
  | zero =>
    intro a N ha hN
    obtain ⟨N1, rfl⟩ : ∃ N1, N = N1 + 1 := ⟨N - 1, by omega⟩
    have : a = m := by omega
    subst this
    rw [k_X12_inWords_68]
    simp (disch := omega) only [↓mI_e, lit, ofN, bsm, nI_add, pk_mul, pk_sub, nI_e, nI_leE, nI_ltE, nI_mI, mI_nI, mI_lt, nlt_mI, mI_le, nle_mI, nI_addm, sh_b, bI_0, bI_1, bI_bI, ckZ_b, ckZ_n0, ckZ_n1, stIe, stJe, stZ_n0, stZ_n1, rm_nI, dv_nI, if_true, if_false, if_pos, if_neg, rf0, rf1, rf5, rf6, rf7, rf8, rf9, rf20, rf23, rf24, rf25, rf26, rf29, rf31, rf33, rf34, rf35, rf37, rf38, rf41, rf42, rf43, ]
  | succ d ih =>
    intro a N ha hN
    obtain ⟨N1, rfl⟩ : ∃ N1, N = N1 + 1 := ⟨N - 1, by omega⟩
    have hc := r_charAt (i := 14) (k := o + a) (by omega) (by omega) (by omega) τ
    have hlt := ch_lt (i := 14) (k := o + a) (by omega) (by omega) (by omega)
    have h1 := ih (a + 1) N1 (by omega) (by omega)
    have cl : ¬ o + m ≤ o + a := by omega
    have hb := r_byteAt hT (show q + a < n by omega)
    have htl := (hT.2.2 (q + a) (by omega)).2
    have e1 : q + (o + a) - o = q + a := by omega
    rw [← h1, k_X12_inWords_68]
    by_cases e : ∀ j, j < a → t (q + j) = chN 14 (o + j)
    · rw [decide_eq_true e]
      by_cases ee : chN 14 (o + a) = t (q + a)
      · rw [decide_eq_true (show ∀ j, j < a + 1 → t (q + j) = chN 14 (o + j) from fun j hj => by
          by_cases z : j = a
          · rw [z]; exact ee.symm
          · exact e j (by omega))]
        simp (disch := omega) only [↓mI_e, lit, ofN, bsm, nI_add, pk_mul, pk_sub, nI_e, nI_leE, nI_ltE, nI_mI, mI_nI, mI_lt, nlt_mI, mI_le, nle_mI, nI_addm, sh_b, bI_0, bI_1, bI_bI, ckZ_b, ckZ_n0, ckZ_n1, stIe, stJe, stZ_n0, stZ_n1, rm_nI, dv_nI, if_true, if_false, if_pos, if_neg, rf0, rf1, rf5, rf6, rf7, rf8, rf9, rf20, rf23, rf24, rf25, rf26, rf29, rf31, rf33, rf34, rf35, rf37, rf38, rf41, rf42, rf43,  cl, Bool.true_eq_false, hc, h13, e1, hb, ee, k_X12_inWords_107, bI_t, Nat.add_assoc]
      · rw [decide_eq_false (show ¬ ∀ j, j < a + 1 → t (q + j) = chN 14 (o + j) from fun z => ee (z a (by omega)).symm)]
        simp (disch := omega) only [↓mI_e, lit, ofN, bsm, nI_add, pk_mul, pk_sub, nI_e, nI_leE, nI_ltE, nI_mI, mI_nI, mI_lt, nlt_mI, mI_le, nle_mI, nI_addm, sh_b, bI_0, bI_1, bI_bI, ckZ_b, ckZ_n0, ckZ_n1, stIe, stJe, stZ_n0, stZ_n1, rm_nI, dv_nI, if_true, if_false, if_pos, if_neg, rf0, rf1, rf5, rf6, rf7, rf8, rf9, rf20, rf23, rf24, rf25, rf26, rf29, rf31, rf33, rf34, rf35, rf37, rf38, rf41, rf42, rf43,  cl, Bool.true_eq_false, hc, h13, e1, hb, ee, k_X12_inWords_107, bI_f, Nat.add_assoc]
    · rw [decide_eq_false e, decide_eq_false (show ¬ ∀ j, j < a + 1 → t (q + j) = chN 14 (o + j) from fun z => e (fun j hj => z j (by omega)))]
      obtain ⟨N2, rfl⟩ : ∃ N2, N1 = N2 + 1 := ⟨N1 - 1, by omega⟩
      rw [k_X12_inWords_68]
      by_cases cz : o + m ≤ o + (a + 1)
      · simp (disch := omega) only [↓mI_e, lit, ofN, bsm, nI_add, pk_mul, pk_sub, nI_e, nI_leE, nI_ltE, nI_mI, mI_nI, mI_lt, nlt_mI, mI_le, nle_mI, nI_addm, sh_b, bI_0, bI_1, bI_bI, ckZ_b, ckZ_n0, ckZ_n1, stIe, stJe, stZ_n0, stZ_n1, rm_nI, dv_nI, if_true, if_false, if_pos, if_neg, rf0, rf1, rf5, rf6, rf7, rf8, rf9, rf20, rf23, rf24, rf25, rf26, rf29, rf31, rf33, rf34, rf35, rf37, rf38, rf41, rf42, rf43,  cl, cz, bI_f]
      · simp (disch := omega) only [↓mI_e, lit, ofN, bsm, nI_add, pk_mul, pk_sub, nI_e, nI_leE, nI_ltE, nI_mI, mI_nI, mI_lt, nlt_mI, mI_le, nle_mI, nI_addm, sh_b, bI_0, bI_1, bI_bI, ckZ_b, ckZ_n0, ckZ_n1, stIe, stJe, stZ_n0, stZ_n1, rm_nI, dv_nI, if_true, if_false, if_pos, if_neg, rf0, rf1, rf5, rf6, rf7, rf8, rf9, rf20, rf23, rf24, rf25, rf26, rf29, rf31, rf33, rf34, rf35, rf37, rf38, rf41, rf42, rf43,  cl, cz, bI_f]
theorem r_wd_25 {τ : ST} {t : Nat → Nat} {n q m o len wh : Nat} (hT : TX τ t n) (hq : q + m ≤ n) (ho : o + len < 134) (hwh : wh < 100) (hbl : chN 14 (o + len) = 32) (hlet : ∀ j, j < len → chN 14 (o + j) ≠ 32) (h13 : gI τ 0 13 = nI q) (h14 : gI τ 0 14 = nI (q + m)) (rec14 : Nat → Nat → Int32 → Int32 → ST → Option (Int32 × ST)) : ∀ (d a N : Nat), a + d = len → d < N → k_X12_inWords_25 rec14 N 0 14 (nI wh) (nI o) (nI (o + a)) τ = if (len = m ∧ ∀ j, j < len → t (q + j) = chN 14 (o + j)) then some (nI wh, τ) else rec14 0 14 (nI (wh + 1)) (nI (o + len + 1)) τ := by
  have l14 : lenS.getD 14 0 = 134 := rfl
  have hn := hT.2.1
  have n10 : (nI 1 = nI 0) = False := eq_false (by decide)
  obtain ⟨F, hF, hF2⟩ : ∃ F, FU = F ∧ 5000 < F := ⟨FU, rfl, by unfold FU; omega⟩
  intro d
  induction d with
  | zero =>
    intro a N ha hN
    obtain ⟨N1, rfl⟩ : ∃ N1, N = N1 + 1 := ⟨N - 1, by omega⟩
    have : a = len := by omega
    subst this
    have hc := r_charAt (i := 14) (k := o + a) (by omega) (by omega) (by omega) τ
    rw [hbl] at hc
    have e1 : o + a - o = a := by omega
    have e2 : q + m - q = m := by omega
    rw [k_X12_inWords_25]
    by_cases em : a = m
    · subst em
      have h68 := r_wd_68 (wh := wh) hT hq ho h13 rec14 a 0 FU (by omega) (by unfold FU; omega)
      rw [decide_eq_true (show ∀ j, j < 0 → t (q + j) = chN 14 (o + j) from fun j hj => by omega), bI_t, Nat.add_zero, hF] at h68
      simp (disch := omega) only [↓mI_e, lit, ofN, bsm, nI_add, pk_mul, pk_sub, nI_e, nI_leE, nI_ltE, nI_mI, mI_nI, mI_lt, nlt_mI, mI_le, nle_mI, nI_addm, sh_b, bI_0, bI_1, bI_bI, ckZ_b, ckZ_n0, ckZ_n1, stIe, stJe, stZ_n0, stZ_n1, rm_nI, dv_nI, if_true, if_false, if_pos, if_neg, rf0, rf1, rf5, rf6, rf7, rf8, rf9, rf20, rf23, rf24, rf25, rf26, rf29, rf31, rf33, rf34, rf35, rf37, rf38, rf41, rf42, rf43,  hc, h14, h13, e1, e2, k_X12_inWords_63, hF]
      rw [h68]
      by_cases z : ∀ j, j < a → t (q + j) = chN 14 (o + j)
      · rw [decide_eq_true z, if_pos ⟨trivial, z⟩]
        simp (disch := omega) only [↓mI_e, lit, ofN, bsm, nI_add, pk_mul, pk_sub, nI_e, nI_leE, nI_ltE, nI_mI, mI_nI, mI_lt, nlt_mI, mI_le, nle_mI, nI_addm, sh_b, bI_0, bI_1, bI_bI, ckZ_b, ckZ_n0, ckZ_n1, stIe, stJe, stZ_n0, stZ_n1, rm_nI, dv_nI, if_true, if_false, if_pos, if_neg, rf0, rf1, rf5, rf6, rf7, rf8, rf9, rf20, rf23, rf24, rf25, rf26, rf29, rf31, rf33, rf34, rf35, rf37, rf38, rf41, rf42, rf43,  k_X12_inWords_115, bI_t, n10]
      · rw [decide_eq_false z, if_neg (fun y => z y.2)]
        simp (disch := omega) only [↓mI_e, lit, ofN, bsm, nI_add, pk_mul, pk_sub, nI_e, nI_leE, nI_ltE, nI_mI, mI_nI, mI_lt, nlt_mI, mI_le, nle_mI, nI_addm, sh_b, bI_0, bI_1, bI_bI, ckZ_b, ckZ_n0, ckZ_n1, stIe, stJe, stZ_n0, stZ_n1, rm_nI, dv_nI, if_true, if_false, if_pos, if_neg, rf0, rf1, rf5, rf6, rf7, rf8, rf9, rf20, rf23, rf24, rf25, rf26, rf29, rf31, rf33, rf34, rf35, rf37, rf38, rf41, rf42, rf43,  k_X12_inWords_115, bI_f]
    · rw [if_neg (c := a = m ∧ ∀ j, j < a → t (q + j) = chN 14 (o + j)) (fun z => em z.1)]
      simp (disch := omega) only [↓mI_e, lit, ofN, bsm, nI_add, pk_mul, pk_sub, nI_e, nI_leE, nI_ltE, nI_mI, mI_nI, mI_lt, nlt_mI, mI_le, nle_mI, nI_addm, sh_b, bI_0, bI_1, bI_bI, ckZ_b, ckZ_n0, ckZ_n1, stIe, stJe, stZ_n0, stZ_n1, rm_nI, dv_nI, if_true, if_false, if_pos, if_neg, rf0, rf1, rf5, rf6, rf7, rf8, rf9, rf20, rf23, rf24, rf25, rf26, rf29, rf31, rf33, rf34, rf35, rf37, rf38, rf41, rf42, rf43,  hc, h14, h13, e1, e2, em, k_X12_inWords_63]
      rw [show FU = 999999 + 1 from rfl, k_X12_inWords_68]
      by_cases cz : o + a ≤ o
      · simp (disch := omega) only [↓mI_e, lit, ofN, bsm, nI_add, pk_mul, pk_sub, nI_e, nI_leE, nI_ltE, nI_mI, mI_nI, mI_lt, nlt_mI, mI_le, nle_mI, nI_addm, sh_b, bI_0, bI_1, bI_bI, ckZ_b, ckZ_n0, ckZ_n1, stIe, stJe, stZ_n0, stZ_n1, rm_nI, dv_nI, if_true, if_false, if_pos, if_neg, rf0, rf1, rf5, rf6, rf7, rf8, rf9, rf20, rf23, rf24, rf25, rf26, rf29, rf31, rf33, rf34, rf35, rf37, rf38, rf41, rf42, rf43,  cz, k_X12_inWords_115]
      · simp (disch := omega) only [↓mI_e, lit, ofN, bsm, nI_add, pk_mul, pk_sub, nI_e, nI_leE, nI_ltE, nI_mI, mI_nI, mI_lt, nlt_mI, mI_le, nle_mI, nI_addm, sh_b, bI_0, bI_1, bI_bI, ckZ_b, ckZ_n0, ckZ_n1, stIe, stJe, stZ_n0, stZ_n1, rm_nI, dv_nI, if_true, if_false, if_pos, if_neg, rf0, rf1, rf5, rf6, rf7, rf8, rf9, rf20, rf23, rf24, rf25, rf26, rf29, rf31, rf33, rf34, rf35, rf37, rf38, rf41, rf42, rf43,  cz, k_X12_inWords_115]
  | succ d ih =>
    intro a N ha hN
    obtain ⟨N1, rfl⟩ : ∃ N1, N = N1 + 1 := ⟨N - 1, by omega⟩
    have hc := r_charAt (i := 14) (k := o + a) (by omega) (by omega) (by omega) τ
    have hlt := ch_lt (i := 14) (k := o + a) (by omega) (by omega) (by omega)
    have h32 : ¬ chN 14 (o + a) = 32 := hlet a (by omega)
    have h1 := ih (a + 1) N1 (by omega) (by omega)
    rw [← h1, k_X12_inWords_25]
    simp (disch := omega) only [↓mI_e, lit, ofN, bsm, nI_add, pk_mul, pk_sub, nI_e, nI_leE, nI_ltE, nI_mI, mI_nI, mI_lt, nlt_mI, mI_le, nle_mI, nI_addm, sh_b, bI_0, bI_1, bI_bI, ckZ_b, ckZ_n0, ckZ_n1, stIe, stJe, stZ_n0, stZ_n1, rm_nI, dv_nI, if_true, if_false, if_pos, if_neg, rf0, rf1, rf5, rf6, rf7, rf8, rf9, rf20, rf23, rf24, rf25, rf26, rf29, rf31, rf33, rf34, rf35, rf37, rf38, rf41, rf42, rf43,  hc, h32, Nat.add_assoc]
theorem r_find {τ : ST} {t : Nat → Nat} {n q m : Nat} (hT : TX τ t n) (hq : q + m ≤ n) (h13 : gI τ 0 13 = nI q) (h14 : gI τ 0 14 = nI (q + m)) : ∀ (e i N : Nat), i + e = 26 → e < N → oWr i ≤ 134 → ∃ r, k_X12_inWords_14 N 0 14 (nI i) (nI (oWr i)) τ = some (r, τ) ∧ ((∃ k, i ≤ k ∧ k < 26 ∧ mtR (fun j => t (q + j)) m k = true ∧ r = nI k) ∨ ((∀ k, i ≤ k → k < 26 → mtR (fun j => t (q + j)) m k = false) ∧ r = mI)) := by
  have l14 : lenS.getD 14 0 = 134 := rfl
  have hn := hT.2.1
  obtain ⟨F, hF, hF2⟩ : ∃ F, FU = F ∧ 5000 < F := ⟨FU, rfl, by unfold FU; omega⟩
  intro e
  induction e with
  | zero =>
    intro i N hi hN _
    obtain ⟨N1, rfl⟩ : ∃ N1, N = N1 + 1 := ⟨N - 1, by omega⟩
    have : i = 26 := by omega
    subst this
    have hle := r_length (i := 14) (by omega) τ
    rw [l14] at hle
    have eo : oWr 26 = 134 := rfl
    refine ⟨mI, ?_, Or.inr ⟨fun k h1 h2 => by omega, rfl⟩⟩
    rw [k_X12_inWords_14, eo]
    simp (disch := omega) only [↓mI_e, lit, ofN, bsm, nI_add, pk_mul, pk_sub, nI_e, nI_leE, nI_ltE, nI_mI, mI_nI, mI_lt, nlt_mI, mI_le, nle_mI, nI_addm, sh_b, bI_0, bI_1, bI_bI, ckZ_b, ckZ_n0, ckZ_n1, stIe, stJe, stZ_n0, stZ_n1, rm_nI, dv_nI, if_true, if_false, if_pos, if_neg, rf0, rf1, rf5, rf6, rf7, rf8, rf9, rf20, rf23, rf24, rf25, rf26, rf29, rf31, rf33, rf34, rf35, rf37, rf38, rf41, rf42, rf43,  hle]
  | succ e ih =>
    intro i N hi hN ho
    obtain ⟨N1, rfl⟩ : ∃ N1, N = N1 + 1 := ⟨N - 1, by omega⟩
    obtain ⟨t1, t2, t3, t4, t5, t6⟩ := wr_tab ⟨i, by omega⟩
    simp only [] at t1 t2 t3 t4 t5 t6
    have h1 := r_wd_25 (wh := i) (o := oWr i) (len := lWr i) hT hq t2 (by omega) t3 (fun j hj => t6 ⟨j, by omega⟩ hj) h13 h14 (k_X12_inWords_14 N1) (lWr i) 0 FU (by omega) (by unfold FU; omega)
    rw [Nat.add_zero, hF] at h1
    have hle := r_length (i := 14) (by omega) τ
    rw [l14] at hle
    have cl : ¬ 134 ≤ oWr i := by omega
    have e0 : k_X12_inWords_14 (N1 + 1) 0 14 (nI i) (nI (oWr i)) τ = k_X12_inWords_25 (k_X12_inWords_14 N1) F 0 14 (nI i) (nI (oWr i)) (nI (oWr i)) τ := by
      rw [k_X12_inWords_14, hF]
      simp (disch := omega) only [↓mI_e, lit, ofN, bsm, nI_add, pk_mul, pk_sub, nI_e, nI_leE, nI_ltE, nI_mI, mI_nI, mI_lt, nlt_mI, mI_le, nle_mI, nI_addm, sh_b, bI_0, bI_1, bI_bI, ckZ_b, ckZ_n0, ckZ_n1, stIe, stJe, stZ_n0, stZ_n1, rm_nI, dv_nI, if_true, if_false, if_pos, if_neg, rf0, rf1, rf5, rf6, rf7, rf8, rf9, rf20, rf23, rf24, rf25, rf26, rf29, rf31, rf33, rf34, rf35, rf37, rf38, rf41, rf42, rf43,  hle, cl]
    rw [e0, h1]
    by_cases z : lWr i = m ∧ ∀ j, j < lWr i → t (q + j) = chN 14 (oWr i + j)
    · rw [if_pos z]
      exact ⟨nI i, rfl, Or.inl ⟨i, Nat.le_refl _, by omega, decide_eq_true z, rfl⟩⟩
    · rw [if_neg z, ← t1]
      obtain ⟨r, r1, r2⟩ := ih (i + 1) N1 (by omega) (by omega) (by omega)
      refine ⟨r, r1, ?_⟩
      rcases r2 with ⟨k, k1, k2, k3, k4⟩ | ⟨k1, k2⟩
      · exact Or.inl ⟨k, by omega, k2, k3, k4⟩
      · refine Or.inr ⟨fun k h1 h2 => ?_, k2⟩
        by_cases e : k = i
        · rw [e]; exact decide_eq_false z
        · exact k1 k (by omega) h2
/-- the word's number, the reference's; none -/
def wdN (t : Nat → Nat) (q m : Nat) : Option Nat := (List.range 26).find? (fun i => mtR (fun j => t (q + j)) m i)
theorem mtR_1 {u : Nat → Nat} {m i k : Nat} (hi : i < 26) (hk : k < 26) (h1 : mtR u m i = true) (h2 : mtR u m k = true) : i = k := by
  obtain ⟨⟨a, ha⟩, ea⟩ := pm_onto ⟨i, hi⟩
  obtain ⟨⟨b, hb⟩, eb⟩ := pm_onto ⟨k, hk⟩
  simp only [] at ea eb
  rw [← ea, mtW_R ha] at h1
  rw [← eb, mtW_R hb] at h2
  have := mtW_1 ha hb h1 h2
  rw [← ea, ← eb, this]
