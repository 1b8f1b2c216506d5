/-! THE CLASS: cells once more -/
def ls (σ : ST) (c i d j n : Nat) : Bool := decide (∀ k, k < n → gA σ (c + 1) (i * 6 + k) = gA σ (d + 1) (j * 6 + k) ∧ gA σ (c + 2) (i * 6 + k) = gA σ (d + 2) (j * 6 + k))
theorem ls_s (σ : ST) (c i d j n : Nat) : ls σ c i d j (n + 1) = (ls σ c i d j n && decide (gA σ (c + 1) (i * 6 + n) = gA σ (d + 1) (j * 6 + n) ∧ gA σ (c + 2) (i * 6 + n) = gA σ (d + 2) (j * 6 + n))) := by
  unfold ls
  rw [← Bool.decide_and]
  apply decide_eq_decide.mpr
  constructor
  · intro h; exact ⟨fun k hk => h k (by omega), h n (by omega)⟩
  · intro h k hk
    by_cases e : k = n
    · subst e; exact h.2
    · exact h.1 k (by omega)
theorem ls_no {σ : ST} {c i d j m n : Nat} (h : ls σ c i d j m = false) (hm : m ≤ n) : ls σ c i d j n = false := by
  apply decide_eq_false
  intro q
  exact of_decide_eq_false h (fun k hk => q k (by omega))
theorem c_isSame_loop {c L d M i j : Nat} (hc : isC c L) (hd : isC d M) (hi : i * 6 + 6 ≤ L) (hj : j * 6 + 6 ≤ M) (σ : ST) : ∀ (n m : Nat), m ≤ 6 → 6 - m < n → ls σ c i d j m = true → k_X0_isSame_15 n c d (nI (i * 6)) (nI (j * 6)) (nI m) σ = some (bI (ls σ c i d j 6), σ) := by
  have hL := hc.2.2.2.2
  have hM := hd.2.2.2.2
  intro n
  induction n with
  | zero => intros; omega
  | succ n ih =>
    intro m hm hn hs
    rw [k_X0_isSame_15]
    by_cases e : m = 6
    · subst e
      simp (disch := omega) only [↓mI_e, lit, ofN, bsm, nI_add, pk_mul, pk_sub, nI_e, nI_leE, nI_ltE, nI_mI, mI_nI, mI_lt, nlt_mI, mI_le, nle_mI, nI_addm, sh_b, bI_0, bI_1, bI_bI, ckZ_b, ckZ_n0, ckZ_n1, stIe, stJe, stZ_n0, stZ_n1, rm_nI, dv_nI, if_pos, if_neg, rf0, rf1, rf5, rf6, rf7, rf8, rf9, rf20, rf23, rf24, rf25, rf26, rf29, rf31, rf33, rf34, rf35, rf37, rf38, rf41, rf42, rf43,  hs]
      rfl
    · simp (disch := omega) only [↓mI_e, lit, ofN, bsm, nI_add, pk_mul, pk_sub, nI_e, nI_leE, nI_ltE, nI_mI, mI_nI, mI_lt, nlt_mI, mI_le, nle_mI, nI_addm, sh_b, bI_0, bI_1, bI_bI, ckZ_b, ckZ_n0, ckZ_n1, stIe, stJe, stZ_n0, stZ_n1, rm_nI, dv_nI, if_pos, if_neg, rf0, rf1, rf5, rf6, rf7, rf8, rf9, rf20, rf23, rf24, rf25, rf26, rf29, rf31, rf33, rf34, rf35, rf37, rf38, rf41, rf42, rf43,  hc.1, hc.2.1, hd.1, hd.2.1, lc1 hc, lc2 hc, lc1 hd, lc2 hd, k_X0_isSame_68]
      have h3 := ls_s σ c i d j m
      rw [hs] at h3
      by_cases g1 : gA σ (c + 1) (i * 6 + m) = gA σ (d + 1) (j * 6 + m)
      · rw [if_pos g1]
        by_cases g2 : gA σ (c + 2) (i * 6 + m) = gA σ (d + 2) (j * 6 + m)
        · rw [if_pos g2]
          exact ih (m + 1) (by omega) (by omega) (by rw [h3, decide_eq_true ⟨g1, g2⟩]; rfl)
        · rw [if_neg g2, ls_no (m := m + 1) (by rw [h3, decide_eq_false (fun q => g2 q.2)]; rfl) (by omega)]; rfl
      · rw [if_neg g1, ls_no (m := m + 1) (by rw [h3, decide_eq_false (fun q => g1 q.1)]; rfl) (by omega)]; rfl
theorem c_isSame {c L d M i j : Nat} (hc : isC c L) (hd : isC d M) (hi : i * 6 + 6 ≤ L) (hj : j * 6 + 6 ≤ M) (σ : ST) : f_X0_isSame c (nI i) d (nI j) σ = some (bI (ls σ c i d j 6), σ) := by
  unfold f_X0_isSame
  simp (disch := omega) only [↓mI_e, lit, ofN, bsm, nI_add, pk_mul, pk_sub, nI_e, nI_leE, nI_ltE, nI_mI, mI_nI, mI_lt, nlt_mI, mI_le, nle_mI, nI_addm, sh_b, bI_0, bI_1, bI_bI, ckZ_b, ckZ_n0, ckZ_n1, stIe, stJe, stZ_n0, stZ_n1, rm_nI, dv_nI, if_pos, if_neg, rf0, rf1, rf5, rf6, rf7, rf8, rf9, rf20, rf23, rf24, rf25, rf26, rf29, rf31, rf33, rf34, rf35, rf37, rf38, rf41, rf42, rf43, ]
  exact c_isSame_loop hc hd hi hj σ FU 0 (by omega) (by unfold FU; omega) (decide_eq_true (fun k hk => by omega))
/-- what a copy of cell j of d makes of cell i of c -/
def cF (σ : ST) (x i y j : Nat) : Nat → Int32 := va_cpy (gA σ y) (gA σ x) (j * 6) (i * 6) 6
theorem cF_at (σ : ST) (x i y j k : Nat) : cF σ x i y j k = if i * 6 ≤ k ∧ k < i * 6 + 6 then gA σ y (j * 6 + (k - i * 6)) else gA σ x k := rfl
theorem c_copyCell {c L d M i j : Nat} (hc : isC c L) (hd : isC d M) (hi : i * 6 + 6 ≤ L) (hj : j * 6 + 6 ≤ M) (hcd : c = d ∨ c + 3 ≤ d ∨ d + 3 ≤ c) (σ : ST) : f_X0_copyCell c (nI i) d (nI j) σ = some (sA (sA σ (c + 1) (cF σ (c + 1) i (d + 1) j)) (c + 2) (cF σ (c + 2) i (d + 2) j)) := by
  have hL := hc.2.2.2.2
  have hM := hd.2.2.2.2
  unfold f_X0_copyCell
  simp (disch := omega) only [↓mI_e, lit, ofN, bsm, nI_add, pk_mul, pk_sub, nI_e, nI_leE, nI_ltE, nI_mI, mI_nI, mI_lt, nlt_mI, mI_le, nle_mI, nI_addm, sh_b, bI_0, bI_1, bI_bI, ckZ_b, ckZ_n0, ckZ_n1, stIe, stJe, stZ_n0, stZ_n1, rm_nI, dv_nI, if_pos, if_neg, rf0, rf1, rf5, rf6, rf7, rf8, rf9, rf20, rf23, rf24, rf25, rf26, rf29, rf31, rf33, rf34, rf35, rf37, rf38, rf41, rf42, rf43,  hc.1, hc.2.1, hd.1, hd.2.1]
  rw [cpA_n M L hd.2.2.1 hc.2.2.1 (by omega) (by omega) (by omega) (by omega), b_some, cpA_n M L hd.2.2.2.1 hc.2.2.2.1 (by omega) (by omega) (by omega) (by omega), b_some]
  rw [gA_sA, if_neg (by omega), gA_sA, if_neg (by omega)]
  rfl
theorem c_copyCounts {c L d M i j : Nat} (hc : isC c L) (hd : isC d M) (hi : i * 6 + 6 ≤ L) (hj : j * 6 + 6 ≤ M) (σ : ST) : f_X0_copyCounts c (nI i) d (nI j) σ = some (sA σ (c + 2) (cF σ (c + 2) i (d + 2) j)) := by
  have hL := hc.2.2.2.2
  have hM := hd.2.2.2.2
  unfold f_X0_copyCounts
  simp (disch := omega) only [↓mI_e, lit, ofN, bsm, nI_add, pk_mul, pk_sub, nI_e, nI_leE, nI_ltE, nI_mI, mI_nI, mI_lt, nlt_mI, mI_le, nle_mI, nI_addm, sh_b, bI_0, bI_1, bI_bI, ckZ_b, ckZ_n0, ckZ_n1, stIe, stJe, stZ_n0, stZ_n1, rm_nI, dv_nI, if_pos, if_neg, rf0, rf1, rf5, rf6, rf7, rf8, rf9, rf20, rf23, rf24, rf25, rf26, rf29, rf31, rf33, rf34, rf35, rf37, rf38, rf41, rf42, rf43,  hc.2.1, hd.2.1]
  rw [cpA_n M L hd.2.2.2.1 hc.2.2.2.1 (by omega) (by omega) (by omega) (by omega), b_some]
  rfl
theorem fillR_loop (x : Nat) (v : Int32) (L : Nat) (hl : L ≤ LC.2.2.1 x) (hb : LC.2.2.1 x < 2 ^ 31) : ∀ (m i : Nat) (σ : ST), i ≤ L → L - i < m → k_J7_fill_fda19_10 m x (nI L) v (nI i) σ = some (sA σ x (fillF (gA σ x) i L v)) := by
  intro m
  induction m with
  | zero => intro i σ _ h; omega
  | succ m ih =>
    intro i σ hi h
    rw [k_J7_fill_fda19_10]
    by_cases e : i = L
    · subst e
      rw [if_pos (nI_le (Nat.le_refl _) (by omega)), fillF_done _ (Nat.le_refl _), sA_self]
    · rw [if_neg (nI_ge (by omega) (by omega)), stA_nI (by omega) hb, b_some, nI_1, ih (i + 1) _ (by omega) (by omega), sA_sA, gA_sA, if_pos rfl, fillF_step _ (by omega)]
theorem fillR (x : Nat) (v : Int32) {a b L : Nat} (σ : ST) (hL : LC.2.2.1 x = L) (hab : a ≤ b) (hb : b ≤ L) (hl : L < 900000) : f_J7_fill_fda19 x (nI a) (nI b) v σ = some (sA σ x (fillF (gA σ x) a b v)) := by
  unfold f_J7_fill_fda19 f_J7_rangeCheck_23922
  rw [hL, ofN, if_pos (nI_le hab (by omega)), if_pos (nI_pos' (by omega)), if_pos (nI_le hb (by omega)), b_some]
  exact fillR_loop x v b (by omega) (by omega) FU a σ hab (by unfold FU; omega)
theorem c_empty {c L i : Nat} (hc : isC c L) (hi : i * 6 + 6 ≤ L) (σ : ST) : f_X0_empty c (nI i) σ = some (sA (sA σ (c + 1) (fillF (gA σ (c + 1)) (i * 6) (i * 6 + 6) (nI 0))) (c + 2) (fillF (gA σ (c + 2)) (i * 6) (i * 6 + 6) (nI 0))) := by
  have hL := hc.2.2.2.2
  unfold f_X0_empty
  simp (disch := omega) only [↓mI_e, lit, ofN, bsm, nI_add, pk_mul, pk_sub, nI_e, nI_leE, nI_ltE, nI_mI, mI_nI, mI_lt, nlt_mI, mI_le, nle_mI, nI_addm, sh_b, bI_0, bI_1, bI_bI, ckZ_b, ckZ_n0, ckZ_n1, stIe, stJe, stZ_n0, stZ_n1, rm_nI, dv_nI, if_pos, if_neg, rf0, rf1, rf5, rf6, rf7, rf8, rf9, rf20, rf23, rf24, rf25, rf26, rf29, rf31, rf33, rf34, rf35, rf37, rf38, rf41, rf42, rf43,  hc.1, hc.2.1]
  rw [fillR (c + 1) (nI 0) σ hc.2.2.1 (by omega) hi (by omega), b_some, fillR (c + 2) (nI 0) _ hc.2.2.2.1 (by omega) hi (by omega), b_some, gA_sA, if_neg (by omega)]
theorem c_sumOf_loop {c L i : Nat} (hc : isC c L) (hi : i * 6 + 6 ≤ L) (σ : ST) : ∀ (n m : Nat), m ≤ 6 → 6 - m < n → k_X0_sumOf_4 n c (nI i) (sum6 (gA σ (c + 2)) (i * 6) m) (nI m) σ = some (sum6 (gA σ (c + 2)) (i * 6) 6, σ) := by
  have hL := hc.2.2.2.2
  intro n
  induction n with
  | zero => intros; omega
  | succ n ih =>
    intro m hm hn
    rw [k_X0_sumOf_4]
    by_cases e : m = 6
    · subst e
      simp (disch := omega) only [↓mI_e, lit, ofN, bsm, nI_add, pk_mul, pk_sub, nI_e, nI_leE, nI_ltE, nI_mI, mI_nI, mI_lt, nlt_mI, mI_le, nle_mI, nI_addm, sh_b, bI_0, bI_1, bI_bI, ckZ_b, ckZ_n0, ckZ_n1, stIe, stJe, stZ_n0, stZ_n1, rm_nI, dv_nI, if_pos, if_neg, rf0, rf1, rf5, rf6, rf7, rf8, rf9, rf20, rf23, rf24, rf25, rf26, rf29, rf31, rf33, rf34, rf35, rf37, rf38, rf41, rf42, rf43, ]
    · simp (disch := omega) only [↓mI_e, lit, ofN, bsm, nI_add, pk_mul, pk_sub, nI_e, nI_leE, nI_ltE, nI_mI, mI_nI, mI_lt, nlt_mI, mI_le, nle_mI, nI_addm, sh_b, bI_0, bI_1, bI_bI, ckZ_b, ckZ_n0, ckZ_n1, stIe, stJe, stZ_n0, stZ_n1, rm_nI, dv_nI, if_pos, if_neg, rf0, rf1, rf5, rf6, rf7, rf8, rf9, rf20, rf23, rf24, rf25, rf26, rf29, rf31, rf33, rf34, rf35, rf37, rf38, rf41, rf42, rf43,  f_X0_seenOf, hc.2.1, lc2 hc]
      exact ih (m + 1) (by omega) (by omega)
theorem c_sumOf {c L i : Nat} (hc : isC c L) (hi : i * 6 + 6 ≤ L) (σ : ST) : f_X0_sumOf c (nI i) σ = some (sum6 (gA σ (c + 2)) (i * 6) 6, σ) := c_sumOf_loop hc hi σ FU 0 (by omega) (by unfold FU; omega)
/-- how many bits six numbers have -/
def pc6 (g : Nat → Int32) (a : Nat) : Nat → Nat
  | 0 => 0
  | n + 1 => pc6 g a n + pcN (vN (g (a + n)))
theorem c_twinCount_loop {c L i : Nat} (hc : isC c L) (hi : i * 6 + 6 ≤ L) (σ : ST) : ∀ (n m : Nat), m ≤ 6 → 6 - m < n → k_X0_twinCount_4 n c (nI i) (nI (pc6 (gA σ (c + 1)) (i * 6) m)) (nI m) σ = some (nI (pc6 (gA σ (c + 1)) (i * 6) 6), σ) := by
  have hL := hc.2.2.2.2
  intro n
  induction n with
  | zero => intros; omega
  | succ n ih =>
    intro m hm hn
    rw [k_X0_twinCount_4]
    by_cases e : m = 6
    · subst e
      simp (disch := omega) only [↓mI_e, lit, ofN, bsm, nI_add, pk_mul, pk_sub, nI_e, nI_leE, nI_ltE, nI_mI, mI_nI, mI_lt, nlt_mI, mI_le, nle_mI, nI_addm, sh_b, bI_0, bI_1, bI_bI, ckZ_b, ckZ_n0, ckZ_n1, stIe, stJe, stZ_n0, stZ_n1, rm_nI, dv_nI, if_pos, if_neg, rf0, rf1, rf5, rf6, rf7, rf8, rf9, rf20, rf23, rf24, rf25, rf26, rf29, rf31, rf33, rf34, rf35, rf37, rf38, rf41, rf42, rf43, ]
    · simp (disch := omega) only [↓mI_e, lit, ofN, bsm, nI_add, pk_mul, pk_sub, nI_e, nI_leE, nI_ltE, nI_mI, mI_nI, mI_lt, nlt_mI, mI_le, nle_mI, nI_addm, sh_b, bI_0, bI_1, bI_bI, ckZ_b, ckZ_n0, ckZ_n1, stIe, stJe, stZ_n0, stZ_n1, rm_nI, dv_nI, if_pos, if_neg, rf0, rf1, rf5, rf6, rf7, rf8, rf9, rf20, rf23, rf24, rf25, rf26, rf29, rf31, rf33, rf34, rf35, rf37, rf38, rf41, rf42, rf43,  f_X0_bitsOf, hc.1, lc1 hc, bitCount_eq]
      exact ih (m + 1) (by omega) (by omega)
theorem c_twinCount {c L i : Nat} (hc : isC c L) (hi : i * 6 + 6 ≤ L) (σ : ST) : f_X0_twinCount c (nI i) σ = some (nI (pc6 (gA σ (c + 1)) (i * 6) 6), σ) := c_twinCount_loop hc hi σ FU 0 (by omega) (by unfold FU; omega)
theorem r_twinsOf_loop {a y : Nat} (h1 : a + 6 ≤ 29600) (hy : y < 6) (τ : ST) (hs : sm (gA τ 1) y = false) : ∀ (n i : Nat), i ≤ 6 → 6 - i < n → k_X12_twinsOf_5 n 0 (nI a) (nI y) (nI (pc6 (gA τ 1) a i)) (nI i) τ = some (nI (pc6 (gA τ 1) a 6), τ) := by
  intro n
  induction n with
  | zero => intros; omega
  | succ n ih =>
    intro i hi hn
    rw [k_X12_twinsOf_5]
    by_cases e : i = 6
    · subst e
      simp (disch := omega) only [↓mI_e, lit, ofN, bsm, nI_add, pk_mul, pk_sub, nI_e, nI_leE, nI_ltE, nI_mI, mI_nI, mI_lt, nlt_mI, mI_le, nle_mI, nI_addm, sh_b, bI_0, bI_1, bI_bI, ckZ_b, ckZ_n0, ckZ_n1, stIe, stJe, stZ_n0, stZ_n1, rm_nI, dv_nI, if_pos, if_neg, rf0, rf1, rf5, rf6, rf7, rf8, rf9, rf20, rf23, rf24, rf25, rf26, rf29, rf31, rf33, rf34, rf35, rf37, rf38, rf41, rf42, rf43,  k_X12_twinsOf_41]
    · simp (disch := omega) only [↓mI_e, lit, ofN, bsm, nI_add, pk_mul, pk_sub, nI_e, nI_leE, nI_ltE, nI_mI, mI_nI, mI_lt, nlt_mI, mI_le, nle_mI, nI_addm, sh_b, bI_0, bI_1, bI_bI, ckZ_b, ckZ_n0, ckZ_n1, stIe, stJe, stZ_n0, stZ_n1, rm_nI, dv_nI, if_pos, if_neg, rf0, rf1, rf5, rf6, rf7, rf8, rf9, rf20, rf23, rf24, rf25, rf26, rf29, rf31, rf33, rf34, rf35, rf37, rf38, rf41, rf42, rf43,  r_isSum, hs, lr1, r_bits]
      exact ih (i + 1) (by omega) (by omega)
theorem r_twinsOf {a y : Nat} (h1 : a + 6 ≤ 29600) (hy : y < 6) (τ : ST) : f_X12_twinsOf 0 (nI a) (nI y) τ = some (nI (if sm (gA τ 1) y then 0 else pc6 (gA τ 1) a 6), τ) := by
  unfold f_X12_twinsOf
  cases hs : sm (gA τ 1) y
  · exact r_twinsOf_loop h1 hy τ hs FU 0 (by omega) (by unfold FU; omega)
  · show k_X12_twinsOf_5 (999999 + 1) 0 (nI a) (nI y) 0 0 τ = _
    rw [k_X12_twinsOf_5]
    simp (disch := omega) only [↓mI_e, lit, ofN, bsm, nI_add, pk_mul, pk_sub, nI_e, nI_leE, nI_ltE, nI_mI, mI_nI, mI_lt, nlt_mI, mI_le, nle_mI, nI_addm, sh_b, bI_0, bI_1, bI_bI, ckZ_b, ckZ_n0, ckZ_n1, stIe, stJe, stZ_n0, stZ_n1, rm_nI, dv_nI, if_pos, if_neg, rf0, rf1, rf5, rf6, rf7, rf8, rf9, rf20, rf23, rf24, rf25, rf26, rf29, rf31, rf33, rf34, rf35, rf37, rf38, rf41, rf42, rf43,  r_isSum, hs, k_X12_twinsOf_41, Bool.true_eq_false, if_false, if_true]
/-! THE CLASS: questions to a world -/
theorem c_isPlace {w : Nat} (hw : isW w) {σ : ST} {f : Nat → Int32} (h : RS (wv σ w) f) {y k : Nat} (hy : y < YN f) (hk : k < 32) : f_X7_isPlace (w + 1) (nI y) (nI k) σ = some (bI (isPl f y k), σ) := by
  obtain ⟨hf, _, _, _, _, _, h7, _⟩ := h
  have hY := hf.2.1
  have e : bt (gA σ (w + 7) y) k = isPl f y k := h7 y hy k
  simp (disch := omega) only [↓mI_e, lit, ofN, bsm, nI_add, pk_mul, pk_sub, nI_e, nI_leE, nI_ltE, nI_mI, mI_nI, mI_lt, nlt_mI, mI_le, nle_mI, nI_addm, sh_b, bI_0, bI_1, bI_bI, ckZ_b, ckZ_n0, ckZ_n1, stIe, stJe, stZ_n0, stZ_n1, rm_nI, dv_nI, if_pos, if_neg, rf0, rf1, rf5, rf6, rf7, rf8, rf9, rf20, rf23, rf24, rf25, rf26, rf29, rf31, rf33, rf34, rf35, rf37, rf38, rf41, rf42, rf43,  f_X7_isPlace, k_X7_isPlace_18, w_0 hw, w_1 hw, w_2 hw, w_3 hw, w_4 hw, w_5 hw, w_6 hw, w_7 hw, w_8 hw, ws_0 hw, ws_1 hw, ws_2 hw, ws_3 hw, ws_4 hw, ws_5 hw, wd_0 hw, wd_1 hw, wd_2 hw, wd_3 hw, wd_4 hw, wd_5 hw, wh_0 hw, wh_1 hw, wq_0 hw, wq_1 hw, wt_0 hw, wt_1 hw, lw2 hw, lw4 hw, lw6 hw, lw7 hw, lw9 hw, lw10 hw, lw11 hw, lw12 hw, lw13 hw, lw14 hw, lw16 hw, lw17 hw, lw19 hw, lw20 hw, lw21 hw, lw23 hw, lw24 hw, lw25 hw, lw26 hw, lw27 hw, lw3 hw, lw5 hw, sw2 hw, sw4 hw, sw6 hw, sw7 hw, sw9 hw, sw10 hw, sw11 hw, sw12 hw, sw13 hw, sw14 hw, sw16 hw, sw17 hw, sw19 hw, sw20 hw, sw21 hw, sw23 hw, sw24 hw, sw25 hw, sw26 hw, sw27 hw, e]
  cases isPl f y k <;> rfl
theorem c_areBothPlaces {w : Nat} (hw : isW w) {σ : ST} {f : Nat → Int32} (h : RS (wv σ w) f) {y a b : Nat} (hy : y < YN f) (ha : a < 32) (hb : b < 32) : f_X7_areBothPlaces (w + 1) (nI y) (nI a) (nI b) σ = some (bI (isPl f y a && isPl f y b), σ) := by
  unfold f_X7_areBothPlaces k_X7_areBothPlaces_22 k_X7_areBothPlaces_23
  rw [c_isPlace hw h hy ha, b_some, c_isPlace hw h hy hb, b_some]
  cases isPl f y a <;> cases isPl f y b <;> rfl
theorem c_isSum {w : Nat} (hw : isW w) {σ : ST} {f : Nat → Int32} (h : RS (wv σ w) f) {y : Nat} (hy : y < 6) : f_X7_isSum (w + 1) (nI y) σ = some (bI (sm f y), σ) := by
  obtain ⟨hf, _, _, _, h5, _⟩ := h
  have e : bt (gI σ (w + 1) 8) y = sm f y := by have := h5 y; rw [decide_eq_true hy] at this; exact this
  simp (disch := omega) only [↓mI_e, lit, ofN, bsm, nI_add, pk_mul, pk_sub, nI_e, nI_leE, nI_ltE, nI_mI, mI_nI, mI_lt, nlt_mI, mI_le, nle_mI, nI_addm, sh_b, bI_0, bI_1, bI_bI, ckZ_b, ckZ_n0, ckZ_n1, stIe, stJe, stZ_n0, stZ_n1, rm_nI, dv_nI, if_pos, if_neg, rf0, rf1, rf5, rf6, rf7, rf8, rf9, rf20, rf23, rf24, rf25, rf26, rf29, rf31, rf33, rf34, rf35, rf37, rf38, rf41, rf42, rf43,  f_X7_isSum, k_X7_isSum_16, e]
  cases sm f y <;> rfl
theorem c_keeperAlong {w : Nat} (hw : isW w) {σ : ST} {f : Nat → Int32} (h : RS (wv σ w) f) {y m : Nat} (hy : y < YN f) (hm : m < KN f) : f_X7_keeperAlong (w + 1) (nI y) (nI m) σ = some (nI (rw6 f y m), σ) := by
  obtain ⟨hf, _, _, _, _, _, _, h8⟩ := h
  have hY := hf.2.1
  have hK := hf.1
  have e : gA σ (w + 6) (y * 6 + m) = nI (rw6 f y m) := h8 y hy m hm
  simp (disch := omega) only [↓mI_e, lit, ofN, bsm, nI_add, pk_mul, pk_sub, nI_e, nI_leE, nI_ltE, nI_mI, mI_nI, mI_lt, nlt_mI, mI_le, nle_mI, nI_addm, sh_b, bI_0, bI_1, bI_bI, ckZ_b, ckZ_n0, ckZ_n1, stIe, stJe, stZ_n0, stZ_n1, rm_nI, dv_nI, if_pos, if_neg, rf0, rf1, rf5, rf6, rf7, rf8, rf9, rf20, rf23, rf24, rf25, rf26, rf29, rf31, rf33, rf34, rf35, rf37, rf38, rf41, rf42, rf43,  f_X7_keeperAlong, w_0 hw, w_1 hw, w_2 hw, w_3 hw, w_4 hw, w_5 hw, w_6 hw, w_7 hw, w_8 hw, ws_0 hw, ws_1 hw, ws_2 hw, ws_3 hw, ws_4 hw, ws_5 hw, wd_0 hw, wd_1 hw, wd_2 hw, wd_3 hw, wd_4 hw, wd_5 hw, wh_0 hw, wh_1 hw, wq_0 hw, wq_1 hw, wt_0 hw, wt_1 hw, lw2 hw, lw4 hw, lw6 hw, lw7 hw, lw9 hw, lw10 hw, lw11 hw, lw12 hw, lw13 hw, lw14 hw, lw16 hw, lw17 hw, lw19 hw, lw20 hw, lw21 hw, lw23 hw, lw24 hw, lw25 hw, lw26 hw, lw27 hw, lw3 hw, lw5 hw, sw2 hw, sw4 hw, sw6 hw, sw7 hw, sw9 hw, sw10 hw, sw11 hw, sw12 hw, sw13 hw, sw14 hw, sw16 hw, sw17 hw, sw19 hw, sw20 hw, sw21 hw, sw23 hw, sw24 hw, sw25 hw, sw26 hw, sw27 hw, e]
theorem c_isUp {w k : Nat} (hk : k < 32) (σ : ST) : f_X10_isUp w (nI k) σ = some (bI (bt (gI σ w 9) k), σ) := by
  simp (disch := omega) only [↓mI_e, lit, ofN, bsm, nI_add, pk_mul, pk_sub, nI_e, nI_leE, nI_ltE, nI_mI, mI_nI, mI_lt, nlt_mI, mI_le, nle_mI, nI_addm, sh_b, bI_0, bI_1, bI_bI, ckZ_b, ckZ_n0, ckZ_n1, stIe, stJe, stZ_n0, stZ_n1, rm_nI, dv_nI, if_pos, if_neg, rf0, rf1, rf5, rf6, rf7, rf8, rf9, rf20, rf23, rf24, rf25, rf26, rf29, rf31, rf33, rf34, rf35, rf37, rf38, rf41, rf42, rf43,  f_X10_isUp, k_X10_isUp_16]
  cases bt (gI σ w 9) k <;> rfl
theorem c_reaches {w a b : Nat} {σ : ST} {f : Nat → Int32} (h : RU (wv σ w) f) (ha : a < 32) (hb : b < 32) : f_X10_reaches w (nI a) (nI b) σ = some (bI (rch f a b), σ) := by
  have e1 : gI σ w 9 = f 5 := h.1
  have e2 : gI σ w 10 = f 6 := h.2
  simp (disch := omega) only [↓mI_e, lit, ofN, bsm, nI_add, pk_mul, pk_sub, nI_e, nI_leE, nI_ltE, nI_mI, mI_nI, mI_lt, nlt_mI, mI_le, nle_mI, nI_addm, sh_b, bI_0, bI_1, bI_bI, ckZ_b, ckZ_n0, ckZ_n1, stIe, stJe, stZ_n0, stZ_n1, rm_nI, dv_nI, if_pos, if_neg, rf0, rf1, rf5, rf6, rf7, rf8, rf9, rf20, rf23, rf24, rf25, rf26, rf29, rf31, rf33, rf34, rf35, rf37, rf38, rf41, rf42, rf43,  f_X10_reaches, k_X10_reaches_40, k_X10_reaches_39, c_isUp, e1, e2]
  unfold rch
  cases bt (f 5) a <;> cases bt (f 5) b <;> cases bt (f 6) a <;> cases bt (f 6) b <;> rfl
theorem c_canTake {w : Nat} (hw : isW w) {σ : ST} {f : Nat → Int32} (h : RS (wv σ w) f) (hu : RU (wv σ w) f) {y k : Nat} (hy : y < YN f) (hk : k < 32) : f_X10_canTake w (nI y) (nI k) σ = some (bI (isPl f y k && bt (f 5) k), σ) := by
  have e1 : gI σ w 9 = f 5 := hu.1
  unfold f_X10_canTake k_X10_canTake_24 k_X10_canTake_25
  rw [w_0 hw, c_isPlace hw h hy hk, b_some, c_isUp hk, b_some, e1]
  cases isPl f y k <;> cases bt (f 5) k <;> rfl
theorem c_placesReached_loop {w : Nat} (hw : isW w) {σ : ST} {f : Nat → Int32} (h : RS (wv σ w) f) (hu : RU (wv σ w) f) {y a : Nat} (hy : y < YN f) (ha : a < 32) : ∀ (n i : Nat) (p : Int32), i ≤ KN f → KN f - i < n → (∀ k, bt p k = (decide (k < i) && (isPl f y k && rch f a k))) → ∃ p', k_X10_placesReached_5 n w (nI y) (nI a) p (nI i) σ = some (p', σ) ∧ ∀ k, bt p' k = (isPl f y k && rch f a k) := by
  have hK := h.1.1
  have e6 : gI σ (w + 1) 6 = nI (KN f) := h.2.1.1.trans (eK f)
  intro n
  induction n with
  | zero => intros; omega
  | succ n ih =>
    intro i p hi hn hp
    rw [k_X10_placesReached_5]
    by_cases e : i = KN f
    · subst e
      simp (disch := omega) only [↓mI_e, lit, ofN, bsm, nI_add, pk_mul, pk_sub, nI_e, nI_leE, nI_ltE, nI_mI, mI_nI, mI_lt, nlt_mI, mI_le, nle_mI, nI_addm, sh_b, bI_0, bI_1, bI_bI, ckZ_b, ckZ_n0, ckZ_n1, stIe, stJe, stZ_n0, stZ_n1, rm_nI, dv_nI, if_pos, if_neg, rf0, rf1, rf5, rf6, rf7, rf8, rf9, rf20, rf23, rf24, rf25, rf26, rf29, rf31, rf33, rf34, rf35, rf37, rf38, rf41, rf42, rf43,  w_0 hw, w_1 hw, w_2 hw, w_3 hw, w_4 hw, w_5 hw, w_6 hw, w_7 hw, w_8 hw, ws_0 hw, ws_1 hw, ws_2 hw, ws_3 hw, ws_4 hw, ws_5 hw, wd_0 hw, wd_1 hw, wd_2 hw, wd_3 hw, wd_4 hw, wd_5 hw, wh_0 hw, wh_1 hw, wq_0 hw, wq_1 hw, wt_0 hw, wt_1 hw, lw2 hw, lw4 hw, lw6 hw, lw7 hw, lw9 hw, lw10 hw, lw11 hw, lw12 hw, lw13 hw, lw14 hw, lw16 hw, lw17 hw, lw19 hw, lw20 hw, lw21 hw, lw23 hw, lw24 hw, lw25 hw, lw26 hw, lw27 hw, lw3 hw, lw5 hw, sw2 hw, sw4 hw, sw6 hw, sw7 hw, sw9 hw, sw10 hw, sw11 hw, sw12 hw, sw13 hw, sw14 hw, sw16 hw, sw17 hw, sw19 hw, sw20 hw, sw21 hw, sw23 hw, sw24 hw, sw25 hw, sw26 hw, sw27 hw, e6]
      refine ⟨p, rfl, fun k => ?_⟩
      rw [hp]
      by_cases g : k < KN f
      · rw [decide_eq_true g]; rfl
      · have : isPl f y k = false := decide_eq_false (fun q => g q.1)
        rw [this, decide_eq_false g]; rfl
    · simp (disch := omega) only [↓mI_e, lit, ofN, bsm, nI_add, pk_mul, pk_sub, nI_e, nI_leE, nI_ltE, nI_mI, mI_nI, mI_lt, nlt_mI, mI_le, nle_mI, nI_addm, sh_b, bI_0, bI_1, bI_bI, ckZ_b, ckZ_n0, ckZ_n1, stIe, stJe, stZ_n0, stZ_n1, rm_nI, dv_nI, if_pos, if_neg, rf0, rf1, rf5, rf6, rf7, rf8, rf9, rf20, rf23, rf24, rf25, rf26, rf29, rf31, rf33, rf34, rf35, rf37, rf38, rf41, rf42, rf43,  k_X10_placesReached_47, w_0 hw, w_1 hw, w_2 hw, w_3 hw, w_4 hw, w_5 hw, w_6 hw, w_7 hw, w_8 hw, ws_0 hw, ws_1 hw, ws_2 hw, ws_3 hw, ws_4 hw, ws_5 hw, wd_0 hw, wd_1 hw, wd_2 hw, wd_3 hw, wd_4 hw, wd_5 hw, wh_0 hw, wh_1 hw, wq_0 hw, wq_1 hw, wt_0 hw, wt_1 hw, lw2 hw, lw4 hw, lw6 hw, lw7 hw, lw9 hw, lw10 hw, lw11 hw, lw12 hw, lw13 hw, lw14 hw, lw16 hw, lw17 hw, lw19 hw, lw20 hw, lw21 hw, lw23 hw, lw24 hw, lw25 hw, lw26 hw, lw27 hw, lw3 hw, lw5 hw, sw2 hw, sw4 hw, sw6 hw, sw7 hw, sw9 hw, sw10 hw, sw11 hw, sw12 hw, sw13 hw, sw14 hw, sw16 hw, sw17 hw, sw19 hw, sw20 hw, sw21 hw, sw23 hw, sw24 hw, sw25 hw, sw26 hw, sw27 hw, e6, c_isPlace hw h hy, c_reaches hu]
      have fin : ∀ p', (∀ k, bt p' k = (bt p k || (decide (k = i) && (isPl f y i && rch f a i)))) → ∀ k, bt p' k = (decide (k < i + 1) && (isPl f y k && rch f a k)) := by
        intro p' h1 k
        rw [h1, hp]
        by_cases g : k = i
        · subst g; simp
        · have : decide (k < i + 1) = decide (k < i) := decide_eq_decide.mpr (by omega)
          rw [this, decide_eq_false g]; simp
      cases c1 : isPl f y i
      · simp only [if_true]
        exact ih (i + 1) p (by omega) (by omega) (fin p (fun k => by rw [c1]; simp))
      · simp only [Bool.true_eq_false, if_false]
        cases c2 : rch f a i
        · simp only [if_true]
          exact ih (i + 1) p (by omega) (by omega) (fin p (fun k => by rw [c2]; simp))
        · simp only [Bool.true_eq_false, if_false]
          exact ih (i + 1) _ (by omega) (by omega) (fin _ (fun k => by rw [bt_ins _ (by omega), c1, c2]; simp))
theorem c_placesReached {w : Nat} (hw : isW w) {σ : ST} {f : Nat → Int32} (h : RS (wv σ w) f) (hu : RU (wv σ w) f) {y a : Nat} (hy : y < YN f) (ha : a < 32) : ∃ p', f_X10_placesReached w (nI y) (nI a) σ = some (p', σ) ∧ ∀ k, bt p' k = (isPl f y k && rch f a k) := by
  have hK := h.1.1
  exact c_placesReached_loop hw h hu hy ha FU 0 (nI 0) (by omega) (by unfold FU; omega) (fun k => by rw [bt_n0, decide_eq_false (by omega)]; rfl)
/-- likeness of two keepers at a key -/
def tl (t u : Nat → Int32) (n : Nat) : Bool := decide (∀ k, k < n → t k = u k)
theorem tl_lk (f : Nat → Int32) (a b n : Nat) : tl (sh f a) (sh f b) n = lk f a b n := rfl
theorem cr_ls {s : Bool} {σ : ST} {c i d j : Nat} {t u : Nat → Int32} (h1 : CR s σ c i t) (h2 : CR s σ d j u) : ls σ c i d j 6 = tl t u 12 := by
  unfold ls tl
  apply decide_eq_decide.mpr
  unfold CR at h1 h2
  cases s
  · simp only [Bool.false_eq_true, if_false] at h1 h2
    constructor
    · intro h k hk
      by_cases g : k < 6
      · have := (h k g).1; rw [(h1 k g).1, (h2 k g).1] at this; exact this
      · have := (h (k - 6) (by omega)).2
        rw [(h1 (k - 6) (by omega)).2, (h2 (k - 6) (by omega)).2, show 6 + (k - 6) = k by omega] at this
        exact this
    · intro h k hk
      rw [(h1 k hk).1, (h2 k hk).1, (h1 k hk).2, (h2 k hk).2]
      exact ⟨h k (by omega), h (6 + k) (by omega)⟩
  · simp only [if_true] at h1 h2
    constructor
    · intro h k hk
      by_cases g : k < 6
      · have := (h k g).2; rw [(h1 k g).2.1, (h2 k g).2.1] at this; exact this
      · have e1 := (h1 (k - 6) (by omega)).2.2; have e2 := (h2 (k - 6) (by omega)).2.2
        rw [show 6 + (k - 6) = k by omega] at e1 e2
        rw [e1, e2]
    · intro h k hk
      rw [(h1 k hk).1, (h2 k hk).1, (h1 k hk).2.1, (h2 k hk).2.1]
      exact ⟨rfl, h k (by omega)⟩
theorem wv_CR {s : Bool} {σ : ST} {w c i : Nat} {t : Nat → Int32} (hc : c + 2 < 28) (h : CR s (wv σ w) c i t) : CR s σ (w + c) i t := by
  intro k hk
  have := h k hk
  rw [wv_A _ _ (by omega), wv_A _ _ (by omega)] at this
  exact this
theorem c_areLike {w : Nat} (hw : isW w) {σ : ST} {f : Nat → Int32} {B : Nat} (h : RH B (wv σ w) f) {a b y : Nat} (ha : a < 6) (hb : b < 6) (hy : y < 6) : f_X10_areLike w (nI a) (nI b) (nI y) σ = some (bI (lk f (tb a y) (tb b y) 12), σ) := by
  have e1 := wv_CR (by decide) (h a y ha hy).1
  have e2 := wv_CR (by decide) (h b y hb hy).1
  simp (disch := omega) only [↓mI_e, lit, ofN, bsm, nI_add, pk_mul, pk_sub, nI_e, nI_leE, nI_ltE, nI_mI, mI_nI, mI_lt, nlt_mI, mI_le, nle_mI, nI_addm, sh_b, bI_0, bI_1, bI_bI, ckZ_b, ckZ_n0, ckZ_n1, stIe, stJe, stZ_n0, stZ_n1, rm_nI, dv_nI, if_pos, if_neg, rf0, rf1, rf5, rf6, rf7, rf8, rf9, rf20, rf23, rf24, rf25, rf26, rf29, rf31, rf33, rf34, rf35, rf37, rf38, rf41, rf42, rf43,  f_X10_areLike, f_X10_cellOf, w_2 hw, c_isSame (isC_h hw) (isC_h hw), cr_ls e1 e2, tl_lk]
