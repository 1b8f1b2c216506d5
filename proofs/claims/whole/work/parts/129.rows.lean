/-! CHOICES: what the class counts -/
def rcC (σ : ST) (i : Nat) : Nat × (Nat → Int32) := rowN (vN (gA σ 89 i)) (fun k => gA σ 88 (i * 180 + k))
def hasV (v : Int32) (r : Nat × (Nat → Int32)) : Bool := decide (∃ k, k < r.1 ∧ r.2 k = v)
theorem hasV_N (v : Int32) (L : Nat) (E : Nat → Int32) : hasV v (rowN L E) = decide (∃ k, k < L ∧ E k = v) := by
  unfold hasV rowN
  refine decide_eq_decide.mpr ⟨fun ⟨k, h1, h2⟩ => ⟨k, h1, ?_⟩, fun ⟨k, h1, h2⟩ => ⟨k, h1, ?_⟩⟩
  · simp only [] at h1 h2
    rw [if_pos h1] at h2; exact h2
  · simp only []
    rw [if_pos h1]; exact h2
/-- rows of at most 180 numbers -/
def LnC (σ : ST) (n : Nat) : Prop := n ≤ 20 ∧ gI σ 84 3 = nI n ∧ ∀ i, i < n → vN (gA σ 89 i) ≤ 180
theorem c_same_19 {σ : ST} {n0 : Nat} (h : LnC σ n0) {i j : Nat} (hi : i < n0) (hj : j < n0) : ∀ (n k : Nat), k ≤ vN (gA σ 89 i) → vN (gA σ 89 i) - k < n → (∀ k', k' < k → gA σ 88 (i * 180 + k') = gA σ 88 (j * 180 + k')) → k_X1_areSameRows_19 n 84 (nI i) (nI j) (nI k) σ = some (bI (decide (∀ k, k < vN (gA σ 89 i) → gA σ 88 (i * 180 + k) = gA σ 88 (j * 180 + k))), σ) := by
  have h20 := h.1
  have hL := h.2.2 i hi
  have e9 : gA σ 89 i = nI (vN (gA σ 89 i)) := (nI_vN _).symm
  generalize vN (gA σ 89 i) = L at *
  intro n
  induction n with
  | zero => intros; omega
  | succ n ih =>
    intro k hk hn hp
    rw [k_X1_areSameRows_19]
    by_cases c : L ≤ k
    · simp (disch := omega) only [↓mI_e, lit, ofN, bsm, nI_add, pk_mul, pk_sub, nI_e, nI_leE, nI_ltE, nI_mI, mI_nI, mI_lt, nlt_mI, mI_le, nle_mI, nI_addm, sh_b, bI_0, bI_1, bI_bI, ckZ_b, ckZ_n0, ckZ_n1, stIe, stJe, stZ_n0, stZ_n1, rm_nI, dv_nI, if_true, if_false, if_pos, if_neg, rf0, rf1, rf5, rf6, rf7, rf8, rf9, rf20, rf23, rf24, rf25, rf26, rf29, rf31, rf33, rf34, rf35, rf37, rf38, rf41, rf42, rf43,  ch_3, l89, e9, c]
      rw [decide_eq_true (fun k' hk' => hp k' (by omega))]
      rfl
    · by_cases c2 : gA σ 88 (i * 180 + k) = gA σ 88 (j * 180 + k)
      · simp (disch := omega) only [↓mI_e, lit, ofN, bsm, nI_add, pk_mul, pk_sub, nI_e, nI_leE, nI_ltE, nI_mI, mI_nI, mI_lt, nlt_mI, mI_le, nle_mI, nI_addm, sh_b, bI_0, bI_1, bI_bI, ckZ_b, ckZ_n0, ckZ_n1, stIe, stJe, stZ_n0, stZ_n1, rm_nI, dv_nI, if_true, if_false, if_pos, if_neg, rf0, rf1, rf5, rf6, rf7, rf8, rf9, rf20, rf23, rf24, rf25, rf26, rf29, rf31, rf33, rf34, rf35, rf37, rf38, rf41, rf42, rf43,  ch_2, ch_3, l88, l89, e9, c, c2]
        refine ih (k + 1) (by omega) (by omega) (fun k' hk' => ?_)
        by_cases e : k' = k
        · rw [e]; exact c2
        · exact hp k' (by omega)
      · simp (disch := omega) only [↓mI_e, lit, ofN, bsm, nI_add, pk_mul, pk_sub, nI_e, nI_leE, nI_ltE, nI_mI, mI_nI, mI_lt, nlt_mI, mI_le, nle_mI, nI_addm, sh_b, bI_0, bI_1, bI_bI, ckZ_b, ckZ_n0, ckZ_n1, stIe, stJe, stZ_n0, stZ_n1, rm_nI, dv_nI, if_true, if_false, if_pos, if_neg, rf0, rf1, rf5, rf6, rf7, rf8, rf9, rf20, rf23, rf24, rf25, rf26, rf29, rf31, rf33, rf34, rf35, rf37, rf38, rf41, rf42, rf43,  ch_2, ch_3, l88, l89, e9, c, c2]
        rw [decide_eq_false (fun z => c2 (z k (by omega)))]
        rfl
theorem c_areSame {σ : ST} {n0 : Nat} (h : LnC σ n0) {i j : Nat} (hi : i < n0) (hj : j < n0) : ∃ b, f_X1_areSameRows 84 (nI i) (nI j) σ = some (bI b, σ) ∧ (b = true ↔ rcC σ j = rcC σ i) := by
  have h20 := h.1
  have hL := h.2.2 i hi
  have hM := h.2.2 j hj
  have h1 := c_same_19 h hi hj FU 0 (by omega) (by unfold FU; omega) (fun k' hk' => by omega)
  have e9 : gA σ 89 i = nI (vN (gA σ 89 i)) := (nI_vN _).symm
  have f9 : gA σ 89 j = nI (vN (gA σ 89 j)) := (nI_vN _).symm
  by_cases c : vN (gA σ 89 i) = vN (gA σ 89 j)
  · refine ⟨decide (∀ k, k < vN (gA σ 89 i) → gA σ 88 (i * 180 + k) = gA σ 88 (j * 180 + k)), ?_, ?_⟩
    · have c' : gA σ 89 i = gA σ 89 j := by rw [e9, f9, c]
      simp (disch := omega) only [↓mI_e, lit, ofN, bsm, nI_add, pk_mul, pk_sub, nI_e, nI_leE, nI_ltE, nI_mI, mI_nI, mI_lt, nlt_mI, mI_le, nle_mI, nI_addm, sh_b, bI_0, bI_1, bI_bI, ckZ_b, ckZ_n0, ckZ_n1, stIe, stJe, stZ_n0, stZ_n1, rm_nI, dv_nI, if_true, if_false, if_pos, if_neg, rf0, rf1, rf5, rf6, rf7, rf8, rf9, rf20, rf23, rf24, rf25, rf26, rf29, rf31, rf33, rf34, rf35, rf37, rf38, rf41, rf42, rf43,  f_X1_areSameRows, ch_3, l89, c']
      rw [c] at h1
      exact h1
    · unfold rcC
      rw [rowN_eq, decide_eq_true_eq]
      constructor
      · intro z; exact ⟨c.symm, fun k hk => (z k (by omega)).symm⟩
      · intro z k hk; exact (z.2 k (by omega)).symm
  · refine ⟨false, ?_, ?_⟩
    · have c' : (gA σ 89 i = gA σ 89 j) = False := eq_false (fun z => c (by rw [z]))
      simp (disch := omega) only [↓mI_e, lit, ofN, bsm, nI_add, pk_mul, pk_sub, nI_e, nI_leE, nI_ltE, nI_mI, mI_nI, mI_lt, nlt_mI, mI_le, nle_mI, nI_addm, sh_b, bI_0, bI_1, bI_bI, ckZ_b, ckZ_n0, ckZ_n1, stIe, stJe, stZ_n0, stZ_n1, rm_nI, dv_nI, if_true, if_false, if_pos, if_neg, rf0, rf1, rf5, rf6, rf7, rf8, rf9, rf20, rf23, rf24, rf25, rf26, rf29, rf31, rf33, rf34, rf35, rf37, rf38, rf41, rf42, rf43,  f_X1_areSameRows, ch_3, l89, c']
      rfl
    · unfold rcC
      rw [rowN_eq]
      exact ⟨fun z => absurd z (by decide), fun z => absurd z.1.symm c⟩
theorem c_first_2 {σ : ST} {n0 : Nat} (h : LnC σ n0) {i : Nat} (hi : i < n0) : ∀ (n j : Nat), j ≤ i → i - j < n → (∀ j', j' < j → rcC σ j' ≠ rcC σ i) → k_X1_isFirstSuch_2 n 84 (nI i) (nI j) σ = some (bI (fst1 (fun _ => true) (rcC σ) i), σ) := by
  have h20 := h.1
  have n10 : (nI 1 = nI 0) = False := eq_false (by decide)
  intro n
  induction n with
  | zero => intros; omega
  | succ n ih =>
    intro j hj hn hp
    rw [k_X1_isFirstSuch_2]
    by_cases c : i ≤ j
    · simp (disch := omega) only [↓mI_e, lit, ofN, bsm, nI_add, pk_mul, pk_sub, nI_e, nI_leE, nI_ltE, nI_mI, mI_nI, mI_lt, nlt_mI, mI_le, nle_mI, nI_addm, sh_b, bI_0, bI_1, bI_bI, ckZ_b, ckZ_n0, ckZ_n1, stIe, stJe, stZ_n0, stZ_n1, rm_nI, dv_nI, if_true, if_false, if_pos, if_neg, rf0, rf1, rf5, rf6, rf7, rf8, rf9, rf20, rf23, rf24, rf25, rf26, rf29, rf31, rf33, rf34, rf35, rf37, rf38, rf41, rf42, rf43,  c]
      rw [fst1_t.mpr ⟨rfl, fun j' h1 _ => hp j' (by omega)⟩]
      rfl
    · obtain ⟨b, b1, b2⟩ := c_areSame h hi (show j < n0 by omega)
      cases b
      · simp (disch := omega) only [↓mI_e, lit, ofN, bsm, nI_add, pk_mul, pk_sub, nI_e, nI_leE, nI_ltE, nI_mI, mI_nI, mI_lt, nlt_mI, mI_le, nle_mI, nI_addm, sh_b, bI_0, bI_1, bI_bI, ckZ_b, ckZ_n0, ckZ_n1, stIe, stJe, stZ_n0, stZ_n1, rm_nI, dv_nI, if_true, if_false, if_pos, if_neg, rf0, rf1, rf5, rf6, rf7, rf8, rf9, rf20, rf23, rf24, rf25, rf26, rf29, rf31, rf33, rf34, rf35, rf37, rf38, rf41, rf42, rf43,  c, b1, bI_f]
        refine ih (j + 1) (by omega) (by omega) (fun j' hj' => ?_)
        by_cases e : j' = j
        · rw [e]; exact fun z => absurd (b2.mpr z) (by decide)
        · exact hp j' (by omega)
      · simp (disch := omega) only [↓mI_e, lit, ofN, bsm, nI_add, pk_mul, pk_sub, nI_e, nI_leE, nI_ltE, nI_mI, mI_nI, mI_lt, nlt_mI, mI_le, nle_mI, nI_addm, sh_b, bI_0, bI_1, bI_bI, ckZ_b, ckZ_n0, ckZ_n1, stIe, stJe, stZ_n0, stZ_n1, rm_nI, dv_nI, if_true, if_false, if_pos, if_neg, rf0, rf1, rf5, rf6, rf7, rf8, rf9, rf20, rf23, rf24, rf25, rf26, rf29, rf31, rf33, rf34, rf35, rf37, rf38, rf41, rf42, rf43,  c, b1, bI_t, n10]
        rw [fst1_f.mpr (fun z => z.2 j (by omega) rfl (b2.mp rfl))]
        rfl
theorem c_unlike_4 {σ : ST} {n0 : Nat} (h : LnC σ n0) : ∀ (n i : Nat), i ≤ n0 → n0 - i < n → k_X1_unlikeRows_4 n 84 (nI (cnt (fst1 (fun _ => true) (rcC σ)) i)) (nI i) σ = some (nI (cnt (fst1 (fun _ => true) (rcC σ)) n0), σ) := by
  have h20 := h.1
  have n10 : (nI 1 = nI 0) = False := eq_false (by decide)
  intro n
  induction n with
  | zero => intros; omega
  | succ n ih =>
    intro i hi hn
    rw [k_X1_unlikeRows_4]
    by_cases c : n0 ≤ i
    · have : i = n0 := by omega
      subst this
      simp (disch := omega) only [↓mI_e, lit, ofN, bsm, nI_add, pk_mul, pk_sub, nI_e, nI_leE, nI_ltE, nI_mI, mI_nI, mI_lt, nlt_mI, mI_le, nle_mI, nI_addm, sh_b, bI_0, bI_1, bI_bI, ckZ_b, ckZ_n0, ckZ_n1, stIe, stJe, stZ_n0, stZ_n1, rm_nI, dv_nI, if_true, if_false, if_pos, if_neg, rf0, rf1, rf5, rf6, rf7, rf8, rf9, rf20, rf23, rf24, rf25, rf26, rf29, rf31, rf33, rf34, rf35, rf37, rf38, rf41, rf42, rf43,  h.2.1]
    · have h1 := c_first_2 h (show i < n0 by omega) FU 0 (by omega) (by unfold FU; omega) (fun j' hj' => by omega)
      have h2 := ih (i + 1) (by omega) (by omega)
      simp only [cnt] at h2
      have hcl := cnt_le (fst1 (fun _ => true) (rcC σ)) i
      cases z : fst1 (fun _ => true) (rcC σ) i
      · rw [z] at h1 h2
        simp (disch := omega) only [↓mI_e, lit, ofN, bsm, nI_add, pk_mul, pk_sub, nI_e, nI_leE, nI_ltE, nI_mI, mI_nI, mI_lt, nlt_mI, mI_le, nle_mI, nI_addm, sh_b, bI_0, bI_1, bI_bI, ckZ_b, ckZ_n0, ckZ_n1, stIe, stJe, stZ_n0, stZ_n1, rm_nI, dv_nI, if_true, if_false, if_pos, if_neg, rf0, rf1, rf5, rf6, rf7, rf8, rf9, rf20, rf23, rf24, rf25, rf26, rf29, rf31, rf33, rf34, rf35, rf37, rf38, rf41, rf42, rf43,  h.2.1, c, f_X1_isFirstSuch, h1, bI_f, k_X1_unlikeRows_23]
        exact h2
      · rw [z] at h1 h2
        simp (disch := omega) only [↓mI_e, lit, ofN, bsm, nI_add, pk_mul, pk_sub, nI_e, nI_leE, nI_ltE, nI_mI, mI_nI, mI_lt, nlt_mI, mI_le, nle_mI, nI_addm, sh_b, bI_0, bI_1, bI_bI, ckZ_b, ckZ_n0, ckZ_n1, stIe, stJe, stZ_n0, stZ_n1, rm_nI, dv_nI, if_true, if_false, if_pos, if_neg, rf0, rf1, rf5, rf6, rf7, rf8, rf9, rf20, rf23, rf24, rf25, rf26, rf29, rf31, rf33, rf34, rf35, rf37, rf38, rf41, rf42, rf43,  h.2.1, c, f_X1_isFirstSuch, h1, bI_t, n10, k_X1_unlikeRows_23]
        exact h2
theorem c_unlike {σ : ST} {n0 : Nat} (h : LnC σ n0) : f_X1_unlikeRows 84 σ = some (nI (cnt (fst1 (fun _ => true) (rcC σ)) n0), σ) := c_unlike_4 h FU 0 (by omega) (by have := h.1; unfold FU; omega)
theorem c_isIn_2 {σ : ST} {n0 : Nat} (h : LnC σ n0) (v : Int32) {i : Nat} (hi : i < n0) : ∀ (n k : Nat), k ≤ vN (gA σ 89 i) → vN (gA σ 89 i) - k < n → (∀ k', k' < k → gA σ 88 (i * 180 + k') ≠ v) → k_X1_isIn_2 n 84 v (nI i) (nI k) σ = some (bI (hasV v (rcC σ i)), σ) := by
  have h20 := h.1
  have hL := h.2.2 i hi
  have e9 : gA σ 89 i = nI (vN (gA σ 89 i)) := (nI_vN _).symm
  unfold rcC
  rw [hasV_N]
  generalize vN (gA σ 89 i) = L at *
  intro n
  induction n with
  | zero => intros; omega
  | succ n ih =>
    intro k hk hn hp
    rw [k_X1_isIn_2]
    by_cases c : L ≤ k
    · simp (disch := omega) only [↓mI_e, lit, ofN, bsm, nI_add, pk_mul, pk_sub, nI_e, nI_leE, nI_ltE, nI_mI, mI_nI, mI_lt, nlt_mI, mI_le, nle_mI, nI_addm, sh_b, bI_0, bI_1, bI_bI, ckZ_b, ckZ_n0, ckZ_n1, stIe, stJe, stZ_n0, stZ_n1, rm_nI, dv_nI, if_true, if_false, if_pos, if_neg, rf0, rf1, rf5, rf6, rf7, rf8, rf9, rf20, rf23, rf24, rf25, rf26, rf29, rf31, rf33, rf34, rf35, rf37, rf38, rf41, rf42, rf43,  ch_3, l89, e9, c]
      rw [decide_eq_false (fun ⟨k', h1, h2⟩ => hp k' (by omega) h2)]
      rfl
    · by_cases c2 : gA σ 88 (i * 180 + k) = v
      · simp (disch := omega) only [↓mI_e, lit, ofN, bsm, nI_add, pk_mul, pk_sub, nI_e, nI_leE, nI_ltE, nI_mI, mI_nI, mI_lt, nlt_mI, mI_le, nle_mI, nI_addm, sh_b, bI_0, bI_1, bI_bI, ckZ_b, ckZ_n0, ckZ_n1, stIe, stJe, stZ_n0, stZ_n1, rm_nI, dv_nI, if_true, if_false, if_pos, if_neg, rf0, rf1, rf5, rf6, rf7, rf8, rf9, rf20, rf23, rf24, rf25, rf26, rf29, rf31, rf33, rf34, rf35, rf37, rf38, rf41, rf42, rf43,  ch_2, ch_3, l88, l89, e9, c, c2]
        rw [decide_eq_true ⟨k, by omega, c2⟩]
        rfl
      · simp (disch := omega) only [↓mI_e, lit, ofN, bsm, nI_add, pk_mul, pk_sub, nI_e, nI_leE, nI_ltE, nI_mI, mI_nI, mI_lt, nlt_mI, mI_le, nle_mI, nI_addm, sh_b, bI_0, bI_1, bI_bI, ckZ_b, ckZ_n0, ckZ_n1, stIe, stJe, stZ_n0, stZ_n1, rm_nI, dv_nI, if_true, if_false, if_pos, if_neg, rf0, rf1, rf5, rf6, rf7, rf8, rf9, rf20, rf23, rf24, rf25, rf26, rf29, rf31, rf33, rf34, rf35, rf37, rf38, rf41, rf42, rf43,  ch_2, ch_3, l88, l89, e9, c, c2]
        refine ih (k + 1) (by omega) (by omega) (fun k' hk' => ?_)
        by_cases e : k' = k
        · rw [e]; exact c2
        · exact hp k' (by omega)
theorem c_with_4 {σ : ST} {n0 : Nat} (h : LnC σ n0) (v : Int32) : ∀ (n i : Nat), i ≤ n0 → n0 - i < n → k_X1_rowsWith_4 n 84 v (nI (cnt (fun i => hasV v (rcC σ i)) i)) (nI i) σ = some (nI (cnt (fun i => hasV v (rcC σ i)) n0), σ) := by
  have h20 := h.1
  have n10 : (nI 1 = nI 0) = False := eq_false (by decide)
  intro n
  induction n with
  | zero => intros; omega
  | succ n ih =>
    intro i hi hn
    rw [k_X1_rowsWith_4]
    by_cases c : n0 ≤ i
    · have : i = n0 := by omega
      subst this
      simp (disch := omega) only [↓mI_e, lit, ofN, bsm, nI_add, pk_mul, pk_sub, nI_e, nI_leE, nI_ltE, nI_mI, mI_nI, mI_lt, nlt_mI, mI_le, nle_mI, nI_addm, sh_b, bI_0, bI_1, bI_bI, ckZ_b, ckZ_n0, ckZ_n1, stIe, stJe, stZ_n0, stZ_n1, rm_nI, dv_nI, if_true, if_false, if_pos, if_neg, rf0, rf1, rf5, rf6, rf7, rf8, rf9, rf20, rf23, rf24, rf25, rf26, rf29, rf31, rf33, rf34, rf35, rf37, rf38, rf41, rf42, rf43,  h.2.1]
    · have h1 := c_isIn_2 h v (show i < n0 by omega) FU 0 (by omega) (by have := h.2.2 i (by omega); unfold FU; omega) (fun j' hj' => by omega)
      have h2 := ih (i + 1) (by omega) (by omega)
      have hcl := cnt_le (fun i => hasV v (rcC σ i)) i
      cases z : hasV v (rcC σ i)
      · rw [z] at h1
        rw [cnt_sf (p := fun i => hasV v (rcC σ i)) z] at h2
        simp (disch := omega) only [↓mI_e, lit, ofN, bsm, nI_add, pk_mul, pk_sub, nI_e, nI_leE, nI_ltE, nI_mI, mI_nI, mI_lt, nlt_mI, mI_le, nle_mI, nI_addm, sh_b, bI_0, bI_1, bI_bI, ckZ_b, ckZ_n0, ckZ_n1, stIe, stJe, stZ_n0, stZ_n1, rm_nI, dv_nI, if_true, if_false, if_pos, if_neg, rf0, rf1, rf5, rf6, rf7, rf8, rf9, rf20, rf23, rf24, rf25, rf26, rf29, rf31, rf33, rf34, rf35, rf37, rf38, rf41, rf42, rf43,  h.2.1, c, f_X1_isIn, h1, bI_f, k_X1_rowsWith_24]
        exact h2
      · rw [z] at h1
        rw [cnt_st (p := fun i => hasV v (rcC σ i)) z] at h2
        simp (disch := omega) only [↓mI_e, lit, ofN, bsm, nI_add, pk_mul, pk_sub, nI_e, nI_leE, nI_ltE, nI_mI, mI_nI, mI_lt, nlt_mI, mI_le, nle_mI, nI_addm, sh_b, bI_0, bI_1, bI_bI, ckZ_b, ckZ_n0, ckZ_n1, stIe, stJe, stZ_n0, stZ_n1, rm_nI, dv_nI, if_true, if_false, if_pos, if_neg, rf0, rf1, rf5, rf6, rf7, rf8, rf9, rf20, rf23, rf24, rf25, rf26, rf29, rf31, rf33, rf34, rf35, rf37, rf38, rf41, rf42, rf43,  h.2.1, c, f_X1_isIn, h1, bI_t, n10, k_X1_rowsWith_24]
        exact h2
theorem c_with {σ : ST} {n0 : Nat} (h : LnC σ n0) (v : Int32) : f_X1_rowsWith 84 v σ = some (nI (cnt (fun i => hasV v (rcC σ i)) n0), σ) := c_with_4 h v FU 0 (by omega) (by have := h.1; unfold FU; omega)
theorem CHi_rows {f : Nat → Int32} (hf : WFs f) {y P : Nat} {σ0 σ : ST} (h : CHi f y P 64 σ0 σ) : LnC σ (cnt (pC P (RN f)) 64) ∧ ∀ m, m < 64 → pC P (RN f) m = true → rcC σ (cnt (pC P (RN f)) m) = rowS f y (SC f m) := by
  have hR := hf.2.2.2.1
  have hN := hf.2.2.1
  have h20 : cnt (pC P (RN f)) 64 ≤ 20 := Nat.le_trans (cnt_mono 64 (fun i _ h => decide_eq_true (pC_R h))) (pick_20 (R := RN f) (by omega) (Nat.le_refl _))
  refine ⟨⟨h20, h.2.1, fun i hi => ?_⟩, fun m h1 h2 => ?_⟩
  · obtain ⟨m, m1, m2, m3⟩ := cnt_onto _ _ hi
    have h3 := (h.2.2 m m1 m2).1
    have h4 := rwL_le (sm f y) (jS f y (SC f m))
    rw [m3] at h3
    rw [h3, vN_nI (by omega)]; exact h4
  · obtain ⟨h3, h5⟩ := h.2.2 m h1 h2
    have h4 := rwL_le (sm f y) (jS f y (SC f m))
    unfold rcC rowS
    rw [rowN_F, rowN_eq, h3, vN_nI (by omega)]
    exact ⟨rfl, h5⟩
