/-! CHOICES: the reference's table of rows told -/
def trR (τ : ST) (r : Nat) : Nat × (Nat → Int32) := rowN (vN (gA τ 19 (182 * r))) (fun k => gA τ 19 (182 * r + 1 + k))
def Cur (τ : ST) (s : Bool) (ρ : Nat × (Nat → Int32)) : Prop := if s then (ρ = rowN 1 (fun _ => sum6 (gA τ 1) 29100 6) ∧ gI τ 0 27 = nI 0) else ∃ L, L ≤ 180 ∧ ρ = rowN L (gA τ 10) ∧ gI τ 0 27 = nI L
theorem r_old_177 {a L : Nat} (hL : L ≤ 180) (ha : a + 1 + L ≤ 3700) (F0 V : Nat → Int32) : ∀ (n k : Nat) (τ : ST), k ≤ L → L - k < n → gI τ 0 27 = nI L → gA τ 10 = V → gA τ 19 = (fun j => if a + 1 ≤ j ∧ j < a + 1 + k then V (j - (a + 1)) else F0 j) → k_X12_isOld_177 n 0 (nI a) (nI k) τ = some (nI 0, sA τ 19 (fun j => if a + 1 ≤ j ∧ j < a + 1 + L then V (j - (a + 1)) else F0 j)) := by
  intro n
  induction n with
  | zero => intros; omega
  | succ n ih =>
    intro k τ hk hn h27 h10 h19
    rw [k_X12_isOld_177]
    by_cases c : L ≤ k
    · have : k = L := by omega
      subst this
      simp (disch := omega) only [↓mI_e, lit, ofN, bsm, nI_add, pk_mul, pk_sub, nI_e, nI_leE, nI_ltE, nI_mI, mI_nI, mI_lt, nlt_mI, mI_le, nle_mI, nI_addm, sh_b, bI_0, bI_1, bI_bI, ckZ_b, ckZ_n0, ckZ_n1, stIe, stJe, stZ_n0, stZ_n1, rm_nI, dv_nI, if_true, if_false, if_pos, if_neg, rf0, rf1, rf5, rf6, rf7, rf8, rf9, rf20, rf23, rf24, rf25, rf26, rf29, rf31, rf33, rf34, rf35, rf37, rf38, rf41, rf42, rf43,  h27]
      rw [← h19, sA_self]
    · simp (disch := omega) only [↓mI_e, lit, ofN, bsm, nI_add, pk_mul, pk_sub, nI_e, nI_leE, nI_ltE, nI_mI, mI_nI, mI_lt, nlt_mI, mI_le, nle_mI, nI_addm, sh_b, bI_0, bI_1, bI_bI, ckZ_b, ckZ_n0, ckZ_n1, stIe, stJe, stZ_n0, stZ_n1, rm_nI, dv_nI, if_true, if_false, if_pos, if_neg, rf0, rf1, rf5, rf6, rf7, rf8, rf9, rf20, rf23, rf24, rf25, rf26, rf29, rf31, rf33, rf34, rf35, rf37, rf38, rf41, rf42, rf43,  h27, c, lr10, sr19]
      rw [ih (k + 1) (sA τ 19 (upd (gA τ 19) (a + 1 + k) (gA τ 10 k))) (by omega) (by omega) h27 (by rw [gA_sA, if_neg (by decide)]; exact h10), sA_sA]
      rw [gA_sA, if_pos rfl, h19, h10]
      funext j
      rw [upd_at]
      by_cases e : j = a + 1 + k
      · subst e
        rw [if_pos rfl, if_pos (by omega)]
        exact congrArg V (by omega)
      · rw [if_neg e]
        by_cases e2 : a + 1 ≤ j ∧ j < a + 1 + k
        · rw [if_pos e2, if_pos (by omega)]
        · rw [if_neg e2, if_neg (by omega)]
theorem r_old_69 {L a : Nat} (hL : L ≤ 180) (ha : a + 1 + L ≤ 3700) (τ : ST) (h27 : gI τ 0 27 = nI L) (rec2 : Nat → Int32 → Int32 → Int32 → ST → Option (Int32 × ST)) (v1 v2 v3 : Int32) : ∀ (n k : Nat), k ≤ L → L - k < n → k_X12_isOld_69 rec2 n 0 v1 v2 v3 (nI a) (bI (decide (∀ j, j < k → gA τ 19 (a + 1 + j) = gA τ 10 j))) (nI k) τ = k_X12_isOld_118 rec2 0 v1 v2 v3 (bI (decide (∀ j, j < L → gA τ 19 (a + 1 + j) = gA τ 10 j))) τ := by
  intro n
  induction n with
  | zero => intros; omega
  | succ n ih =>
    intro k hk hn
    rw [k_X12_isOld_69]
    by_cases c : L ≤ k
    · have : k = L := by omega
      subst this
      simp (disch := omega) only [↓mI_e, lit, ofN, bsm, nI_add, pk_mul, pk_sub, nI_e, nI_leE, nI_ltE, nI_mI, mI_nI, mI_lt, nlt_mI, mI_le, nle_mI, nI_addm, sh_b, bI_0, bI_1, bI_bI, ckZ_b, ckZ_n0, ckZ_n1, stIe, stJe, stZ_n0, stZ_n1, rm_nI, dv_nI, if_true, if_false, if_pos, if_neg, rf0, rf1, rf5, rf6, rf7, rf8, rf9, rf20, rf23, rf24, rf25, rf26, rf29, rf31, rf33, rf34, rf35, rf37, rf38, rf41, rf42, rf43,  h27]
    · by_cases d : ∀ j, j < k → gA τ 19 (a + 1 + j) = gA τ 10 j
      · have h1 := ih (k + 1) (by omega) (by omega)
        rw [decide_eq_true d]
        by_cases e : gA τ 19 (a + 1 + k) = gA τ 10 k
        · rw [decide_eq_true (show ∀ j, j < k + 1 → gA τ 19 (a + 1 + j) = gA τ 10 j from fun j hj => by
            by_cases z : j = k
            · rw [z]; exact e
            · exact d j (by omega))] at h1
          simp (disch := omega) only [↓mI_e, lit, ofN, bsm, nI_add, pk_mul, pk_sub, nI_e, nI_leE, nI_ltE, nI_mI, mI_nI, mI_lt, nlt_mI, mI_le, nle_mI, nI_addm, sh_b, bI_0, bI_1, bI_bI, ckZ_b, ckZ_n0, ckZ_n1, stIe, stJe, stZ_n0, stZ_n1, rm_nI, dv_nI, if_true, if_false, if_pos, if_neg, rf0, rf1, rf5, rf6, rf7, rf8, rf9, rf20, rf23, rf24, rf25, rf26, rf29, rf31, rf33, rf34, rf35, rf37, rf38, rf41, rf42, rf43,  h27, c, Bool.true_eq_false, lr19, lr10, e, k_X12_isOld_110]
          exact h1
        · rw [decide_eq_false (show ¬ ∀ j, j < k + 1 → gA τ 19 (a + 1 + j) = gA τ 10 j from fun z => e (z k (by omega)))] at h1
          simp (disch := omega) only [↓mI_e, lit, ofN, bsm, nI_add, pk_mul, pk_sub, nI_e, nI_leE, nI_ltE, nI_mI, mI_nI, mI_lt, nlt_mI, mI_le, nle_mI, nI_addm, sh_b, bI_0, bI_1, bI_bI, ckZ_b, ckZ_n0, ckZ_n1, stIe, stJe, stZ_n0, stZ_n1, rm_nI, dv_nI, if_true, if_false, if_pos, if_neg, rf0, rf1, rf5, rf6, rf7, rf8, rf9, rf20, rf23, rf24, rf25, rf26, rf29, rf31, rf33, rf34, rf35, rf37, rf38, rf41, rf42, rf43,  h27, c, Bool.true_eq_false, lr19, lr10, e, k_X12_isOld_110]
          exact h1
      · rw [decide_eq_false d, decide_eq_false (show ¬ ∀ j, j < L → gA τ 19 (a + 1 + j) = gA τ 10 j from fun z => d (fun j hj => z j (by omega)))]
        simp (disch := omega) only [↓mI_e, lit, ofN, bsm, nI_add, pk_mul, pk_sub, nI_e, nI_leE, nI_ltE, nI_mI, mI_nI, mI_lt, nlt_mI, mI_le, nle_mI, nI_addm, sh_b, bI_0, bI_1, bI_bI, ckZ_b, ckZ_n0, ckZ_n1, stIe, stJe, stZ_n0, stZ_n1, rm_nI, dv_nI, if_true, if_false, if_pos, if_neg, rf0, rf1, rf5, rf6, rf7, rf8, rf9, rf20, rf23, rf24, rf25, rf26, rf29, rf31, rf33, rf34, rf35, rf37, rf38, rf41, rf42, rf43,  h27, c]
theorem r_old_no {L : Nat} (hL : L ≤ 180) (τ : ST) (h27 : gI τ 0 27 = nI L) (rec2 : Nat → Int32 → Int32 → Int32 → ST → Option (Int32 × ST)) (v1 v2 v3 v4 : Int32) (b : Bool) (hb : b = false ∨ L = 0) : k_X12_isOld_69 rec2 FU 0 v1 v2 v3 v4 (bI b) (nI 0) τ = k_X12_isOld_118 rec2 0 v1 v2 v3 (bI b) τ := by
  rw [show FU = 999999 + 1 from rfl, k_X12_isOld_69]
  by_cases c : L ≤ 0
  · simp (disch := omega) only [↓mI_e, lit, ofN, bsm, nI_add, pk_mul, pk_sub, nI_e, nI_leE, nI_ltE, nI_mI, mI_nI, mI_lt, nlt_mI, mI_le, nle_mI, nI_addm, sh_b, bI_0, bI_1, bI_bI, ckZ_b, ckZ_n0, ckZ_n1, stIe, stJe, stZ_n0, stZ_n1, rm_nI, dv_nI, if_true, if_false, if_pos, if_neg, rf0, rf1, rf5, rf6, rf7, rf8, rf9, rf20, rf23, rf24, rf25, rf26, rf29, rf31, rf33, rf34, rf35, rf37, rf38, rf41, rf42, rf43,  h27, c]
  · have hb' : b = false := hb.resolve_right (by omega)
    subst hb'
    simp (disch := omega) only [↓mI_e, lit, ofN, bsm, nI_add, pk_mul, pk_sub, nI_e, nI_leE, nI_ltE, nI_mI, mI_nI, mI_lt, nlt_mI, mI_le, nle_mI, nI_addm, sh_b, bI_0, bI_1, bI_bI, ckZ_b, ckZ_n0, ckZ_n1, stIe, stJe, stZ_n0, stZ_n1, rm_nI, dv_nI, if_true, if_false, if_pos, if_neg, rf0, rf1, rf5, rf6, rf7, rf8, rf9, rf20, rf23, rf24, rf25, rf26, rf29, rf31, rf33, rf34, rf35, rf37, rf38, rf41, rf42, rf43,  h27, c]
theorem r_old_2 {τ : ST} {s : Bool} {ρ : Nat × (Nat → Int32)} {U : Nat} (hU : U ≤ 19) (hc : Cur τ s ρ) (hl : ∀ r, r < U → vN (gA τ 19 (182 * r)) ≤ 180) : ∀ (n r : Nat), r ≤ U → U - r < n → (∀ r', r' < r → trR τ r' ≠ ρ) → ∃ b τ1, k_X12_isOld_2 n 0 (nI U) (bI s) (nI r) τ = some (bI b, τ1) ∧ (b = true ↔ ∃ r, r < U ∧ trR τ r = ρ) ∧ (∃ F, τ1 = sA τ 19 F) ∧ (b = true → τ1 = τ) ∧ (b = false → trR τ1 U = ρ ∧ ∀ r, r < U → trR τ1 r = trR τ r) := by
  have n10 : (nI 1 = nI 0) = False := eq_false (by decide)
  intro n
  induction n with
  | zero => intros; omega
  | succ n ih =>
    intro r hr hn hp
    rw [k_X12_isOld_2]
    by_cases c : U ≤ r
    · have hno : ¬ ∃ r, r < U ∧ trR τ r = ρ := fun ⟨r', h1, h2⟩ => hp r' (by omega) h2
      cases s
      · obtain ⟨L, hL, hρ, h27⟩ := hc
        have h1 := r_old_177 (a := 182 * U) hL (by omega) (upd (gA τ 19) (182 * U) (nI L)) (gA τ 10) FU 0 (sA τ 19 (upd (gA τ 19) (182 * U) (nI L))) (by omega) (by unfold FU; omega) h27 (by rw [gA_sA, if_neg (by decide)]) (by rw [gA_sA, if_pos rfl]; funext j; rw [if_neg (by omega)])
        rw [sA_sA] at h1
        refine ⟨false, (sA τ 19 (fun j => if 182 * U + 1 ≤ j ∧ j < 182 * U + 1 + L then gA τ 10 (j - (182 * U + 1)) else upd (gA τ 19) (182 * U) (nI L) j)), ?_, ⟨fun z => absurd z (by decide), fun z => absurd z hno⟩, ⟨_, rfl⟩, fun z => absurd z (by decide), fun _ => ⟨?_, fun r' hr' => ?_⟩⟩
        · simp (disch := omega) only [↓mI_e, lit, ofN, bsm, nI_add, pk_mul, pk_sub, nI_e, nI_leE, nI_ltE, nI_mI, mI_nI, mI_lt, nlt_mI, mI_le, nle_mI, nI_addm, sh_b, bI_0, bI_1, bI_bI, ckZ_b, ckZ_n0, ckZ_n1, stIe, stJe, stZ_n0, stZ_n1, rm_nI, dv_nI, if_true, if_false, if_pos, if_neg, rf0, rf1, rf5, rf6, rf7, rf8, rf9, rf20, rf23, rf24, rf25, rf26, rf29, rf31, rf33, rf34, rf35, rf37, rf38, rf41, rf42, rf43,  c, bI_f, h27, k_X12_isOld_154, k_X12_isOld_174, sr19]
          exact h1
        · unfold trR
          rw [hρ, rowN_eq, gA_sA, if_pos rfl]
          rw [if_neg (by omega), upd_at, if_pos rfl, vN_nI (by omega)]
          refine ⟨rfl, fun k hk => ?_⟩
          rw [if_pos (by omega)]
          exact congrArg (gA τ 10) (by omega)
        · unfold trR
          have h5 := hl r' hr'
          have e1 : ∀ j, j < 182 * U → gA (sA τ 19 (fun j => if 182 * U + 1 ≤ j ∧ j < 182 * U + 1 + L then gA τ 10 (j - (182 * U + 1)) else upd (gA τ 19) (182 * U) (nI L) j)) 19 j = gA τ 19 j := fun j hj => by
            rw [gA_sA, if_pos rfl, if_neg (by omega), upd_at, if_neg (by omega)]
          rw [rowN_eq, e1 _ (by omega)]
          exact ⟨rfl, fun k hk => e1 _ (by omega)⟩
      · obtain ⟨hρ, h27⟩ := hc
        have e0 : gA (sA τ 19 (upd (gA τ 19) (182 * U) (nI 1))) 1 = gA τ 1 := by rw [gA_sA, if_neg (by decide)]
        have e1 := r_sumOf (a := 29100) (by omega) (sA τ 19 (upd (gA τ 19) (182 * U) (nI 1)))
        rw [e0] at e1
        have e2 : gA (sA τ 19 (upd (gA τ 19) (182 * U) (nI 1))) 19 = upd (gA τ 19) (182 * U) (nI 1) := by rw [gA_sA, if_pos rfl]
        have h1 := r_old_177 (a := 182 * U) (L := 0) (by omega) (by omega) (upd (upd (gA τ 19) (182 * U) (nI 1)) (182 * U + 1) (sum6 (gA τ 1) 29100 6)) (gA τ 10) FU 0 (sA τ 19 (upd (upd (gA τ 19) (182 * U) (nI 1)) (182 * U + 1) (sum6 (gA τ 1) 29100 6))) (by omega) (by unfold FU; omega) h27 (by rw [gA_sA, if_neg (by decide)]) (by rw [gA_sA, if_pos rfl]; funext j; rw [if_neg (by omega)])
        rw [sA_sA, show (fun j => if 182 * U + 1 ≤ j ∧ j < 182 * U + 1 + 0 then gA τ 10 (j - (182 * U + 1)) else upd (upd (gA τ 19) (182 * U) (nI 1)) (182 * U + 1) (sum6 (gA τ 1) 29100 6) j) = upd (upd (gA τ 19) (182 * U) (nI 1)) (182 * U + 1) (sum6 (gA τ 1) 29100 6) from funext fun j => if_neg (by omega)] at h1
        refine ⟨false, (sA τ 19 (upd (upd (gA τ 19) (182 * U) (nI 1)) (182 * U + 1) (sum6 (gA τ 1) 29100 6))), ?_, ⟨fun z => absurd z (by decide), fun z => absurd z hno⟩, ⟨_, rfl⟩, fun z => absurd z (by decide), fun _ => ⟨?_, fun r' hr' => ?_⟩⟩
        · simp (disch := omega) only [↓mI_e, lit, ofN, bsm, nI_add, pk_mul, pk_sub, nI_e, nI_leE, nI_ltE, nI_mI, mI_nI, mI_lt, nlt_mI, mI_le, nle_mI, nI_addm, sh_b, bI_0, bI_1, bI_bI, ckZ_b, ckZ_n0, ckZ_n1, stIe, stJe, stZ_n0, stZ_n1, rm_nI, dv_nI, if_true, if_false, if_pos, if_neg, rf0, rf1, rf5, rf6, rf7, rf8, rf9, rf20, rf23, rf24, rf25, rf26, rf29, rf31, rf33, rf34, rf35, rf37, rf38, rf41, rf42, rf43,  c, bI_t, n10, h27, k_X12_isOld_154, k_X12_isOld_174, sr19, e1, e2, sA_sA]
          exact h1
        · unfold trR
          rw [hρ, rowN_eq, gA_sA, if_pos rfl]
          rw [upd_at, if_neg (by omega), upd_at, if_pos rfl, vN_nI (by omega)]
          refine ⟨rfl, fun k hk => ?_⟩
          have : k = 0 := by omega
          subst this
          rw [upd_at, if_pos (by omega)]
        · unfold trR
          have h5 := hl r' hr'
          have e3 : ∀ j, j < 182 * U → gA (sA τ 19 (upd (upd (gA τ 19) (182 * U) (nI 1)) (182 * U + 1) (sum6 (gA τ 1) 29100 6))) 19 j = gA τ 19 j := fun j hj => by
            rw [gA_sA, if_pos rfl, upd_at, if_neg (by omega), upd_at, if_neg (by omega)]
          rw [rowN_eq, e3 _ (by omega)]
          exact ⟨rfl, fun k hk => e3 _ (by omega)⟩
    · have h5 := hl r (by omega)
      have e9 : gA τ 19 (182 * r) = nI (vN (gA τ 19 (182 * r))) := (nI_vN _).symm
      have go : trR τ r ≠ ρ → ∃ b τ1, k_X12_isOld_2 n 0 (nI U) (bI s) (nI (r + 1)) τ = some (bI b, τ1) ∧ (b = true ↔ ∃ r, r < U ∧ trR τ r = ρ) ∧ (∃ F, τ1 = sA τ 19 F) ∧ (b = true → τ1 = τ) ∧ (b = false → trR τ1 U = ρ ∧ ∀ r, r < U → trR τ1 r = trR τ r) := fun z => ih (r + 1) (by omega) (by omega) (fun r' hr' => by
        by_cases e : r' = r
        · rw [e]; exact z
        · exact hp r' (by omega))
      have yes : trR τ r = ρ → ∃ b τ1, some (nI 1, τ) = some (bI b, τ1) ∧ (b = true ↔ ∃ r, r < U ∧ trR τ r = ρ) ∧ (∃ F, τ1 = sA τ 19 F) ∧ (b = true → τ1 = τ) ∧ (b = false → trR τ1 U = ρ ∧ ∀ r, r < U → trR τ1 r = trR τ r) := fun z => ⟨true, τ, rfl, ⟨fun _ => ⟨r, by omega, z⟩, fun _ => rfl⟩, ⟨gA τ 19, (sA_self τ 19).symm⟩, fun _ => rfl, fun z => absurd z (by decide)⟩
      cases s
      · obtain ⟨L, hL, hρ, h27⟩ := hc
        by_cases d : vN (gA τ 19 (182 * r)) = L
        · have e9' : gA τ 19 (182 * r) = nI L := by rw [e9, d]
          have h1 := r_old_69 (a := 182 * r) hL (by omega) τ h27 (k_X12_isOld_2 n) (nI U) (nI 0) (nI r) FU 0 (by omega) (by unfold FU; omega)
          rw [decide_eq_true (show ∀ j, j < 0 → gA τ 19 (182 * r + 1 + j) = gA τ 10 j from fun j hj => by omega)] at h1
          have heq : trR τ r = ρ ↔ ∀ j, j < L → gA τ 19 (182 * r + 1 + j) = gA τ 10 j := by
            unfold trR
            rw [hρ, rowN_eq, d]
            exact ⟨fun z => z.2, fun z => ⟨rfl, z⟩⟩
          by_cases q : ∀ j, j < L → gA τ 19 (182 * r + 1 + j) = gA τ 10 j
          · rw [decide_eq_true q] at h1
            simp (disch := omega) only [↓mI_e, lit, ofN, bsm, nI_add, pk_mul, pk_sub, nI_e, nI_leE, nI_ltE, nI_mI, mI_nI, mI_lt, nlt_mI, mI_le, nle_mI, nI_addm, sh_b, bI_0, bI_1, bI_bI, ckZ_b, ckZ_n0, ckZ_n1, stIe, stJe, stZ_n0, stZ_n1, rm_nI, dv_nI, if_true, if_false, if_pos, if_neg, rf0, rf1, rf5, rf6, rf7, rf8, rf9, rf20, rf23, rf24, rf25, rf26, rf29, rf31, rf33, rf34, rf35, rf37, rf38, rf41, rf42, rf43,  c, bI_f, lr19, h27, e9', k_X12_isOld_33, k_X12_isOld_59, k_X12_isOld_64]
            rw [bI_t] at h1
            rw [h1]
            simp (disch := omega) only [↓mI_e, lit, ofN, bsm, nI_add, pk_mul, pk_sub, nI_e, nI_leE, nI_ltE, nI_mI, mI_nI, mI_lt, nlt_mI, mI_le, nle_mI, nI_addm, sh_b, bI_0, bI_1, bI_bI, ckZ_b, ckZ_n0, ckZ_n1, stIe, stJe, stZ_n0, stZ_n1, rm_nI, dv_nI, if_true, if_false, if_pos, if_neg, rf0, rf1, rf5, rf6, rf7, rf8, rf9, rf20, rf23, rf24, rf25, rf26, rf29, rf31, rf33, rf34, rf35, rf37, rf38, rf41, rf42, rf43,  k_X12_isOld_118, n10]
            exact yes (heq.mpr q)
          · rw [decide_eq_false q] at h1
            simp (disch := omega) only [↓mI_e, lit, ofN, bsm, nI_add, pk_mul, pk_sub, nI_e, nI_leE, nI_ltE, nI_mI, mI_nI, mI_lt, nlt_mI, mI_le, nle_mI, nI_addm, sh_b, bI_0, bI_1, bI_bI, ckZ_b, ckZ_n0, ckZ_n1, stIe, stJe, stZ_n0, stZ_n1, rm_nI, dv_nI, if_true, if_false, if_pos, if_neg, rf0, rf1, rf5, rf6, rf7, rf8, rf9, rf20, rf23, rf24, rf25, rf26, rf29, rf31, rf33, rf34, rf35, rf37, rf38, rf41, rf42, rf43,  c, bI_f, lr19, h27, e9', k_X12_isOld_33, k_X12_isOld_59, k_X12_isOld_64]
            rw [bI_t] at h1
            rw [h1]
            simp (disch := omega) only [↓mI_e, lit, ofN, bsm, nI_add, pk_mul, pk_sub, nI_e, nI_leE, nI_ltE, nI_mI, mI_nI, mI_lt, nlt_mI, mI_le, nle_mI, nI_addm, sh_b, bI_0, bI_1, bI_bI, ckZ_b, ckZ_n0, ckZ_n1, stIe, stJe, stZ_n0, stZ_n1, rm_nI, dv_nI, if_true, if_false, if_pos, if_neg, rf0, rf1, rf5, rf6, rf7, rf8, rf9, rf20, rf23, rf24, rf25, rf26, rf29, rf31, rf33, rf34, rf35, rf37, rf38, rf41, rf42, rf43,  k_X12_isOld_118, bI_f]
            exact go (fun z => q (heq.mp z))
        · have e10 : (gA τ 19 (182 * r) = nI L) = False := eq_false (fun z => d (by rw [z, vN_nI (by omega)]))
          have h1 := r_old_no hL τ h27 (k_X12_isOld_2 n) (nI U) (nI 0) (nI r) (nI (182 * r)) false (Or.inl rfl)
          simp (disch := omega) only [↓mI_e, lit, ofN, bsm, nI_add, pk_mul, pk_sub, nI_e, nI_leE, nI_ltE, nI_mI, mI_nI, mI_lt, nlt_mI, mI_le, nle_mI, nI_addm, sh_b, bI_0, bI_1, bI_bI, ckZ_b, ckZ_n0, ckZ_n1, stIe, stJe, stZ_n0, stZ_n1, rm_nI, dv_nI, if_true, if_false, if_pos, if_neg, rf0, rf1, rf5, rf6, rf7, rf8, rf9, rf20, rf23, rf24, rf25, rf26, rf29, rf31, rf33, rf34, rf35, rf37, rf38, rf41, rf42, rf43,  c, bI_f, lr19, h27, e10, k_X12_isOld_33, k_X12_isOld_63, k_X12_isOld_64]
          rw [bI_f] at h1
          rw [h1]
          simp (disch := omega) only [↓mI_e, lit, ofN, bsm, nI_add, pk_mul, pk_sub, nI_e, nI_leE, nI_ltE, nI_mI, mI_nI, mI_lt, nlt_mI, mI_le, nle_mI, nI_addm, sh_b, bI_0, bI_1, bI_bI, ckZ_b, ckZ_n0, ckZ_n1, stIe, stJe, stZ_n0, stZ_n1, rm_nI, dv_nI, if_true, if_false, if_pos, if_neg, rf0, rf1, rf5, rf6, rf7, rf8, rf9, rf20, rf23, rf24, rf25, rf26, rf29, rf31, rf33, rf34, rf35, rf37, rf38, rf41, rf42, rf43,  k_X12_isOld_118]
          refine go (fun z => d ?_)
          unfold trR at z
          rw [hρ, rowN_eq] at z
          exact z.1
      · obtain ⟨hρ, h27⟩ := hc
        have es := r_sumOf (a := 29100) (by omega) τ
        have heq : trR τ r = ρ ↔ vN (gA τ 19 (182 * r)) = 1 ∧ gA τ 19 (182 * r + 1) = sum6 (gA τ 1) 29100 6 := by
          unfold trR
          rw [hρ, rowN_eq]
          exact ⟨fun z => ⟨z.1, z.2 0 (by omega)⟩, fun z => ⟨z.1, fun k hk => by
            have : k = 0 := by omega
            subst this
            exact z.2⟩⟩
        have h1 := fun b => r_old_no (L := 0) (by omega) τ h27 (k_X12_isOld_2 n) (nI U) (nI 1) (nI r) (nI (182 * r)) b (Or.inr rfl)
        by_cases d : vN (gA τ 19 (182 * r)) = 1
        · have e9' : gA τ 19 (182 * r) = nI 1 := by rw [e9, d]
          by_cases q : gA τ 19 (182 * r + 1) = sum6 (gA τ 1) 29100 6
          · simp (disch := omega) only [↓mI_e, lit, ofN, bsm, nI_add, pk_mul, pk_sub, nI_e, nI_leE, nI_ltE, nI_mI, mI_nI, mI_lt, nlt_mI, mI_le, nle_mI, nI_addm, sh_b, bI_0, bI_1, bI_bI, ckZ_b, ckZ_n0, ckZ_n1, stIe, stJe, stZ_n0, stZ_n1, rm_nI, dv_nI, if_true, if_false, if_pos, if_neg, rf0, rf1, rf5, rf6, rf7, rf8, rf9, rf20, rf23, rf24, rf25, rf26, rf29, rf31, rf33, rf34, rf35, rf37, rf38, rf41, rf42, rf43,  c, bI_t, n10, lr19, h27, e9', es, q, k_X12_isOld_33, k_X12_isOld_59, k_X12_isOld_64]
            have h2 := h1 true
            rw [bI_t] at h2
            rw [h2]
            simp (disch := omega) only [↓mI_e, lit, ofN, bsm, nI_add, pk_mul, pk_sub, nI_e, nI_leE, nI_ltE, nI_mI, mI_nI, mI_lt, nlt_mI, mI_le, nle_mI, nI_addm, sh_b, bI_0, bI_1, bI_bI, ckZ_b, ckZ_n0, ckZ_n1, stIe, stJe, stZ_n0, stZ_n1, rm_nI, dv_nI, if_true, if_false, if_pos, if_neg, rf0, rf1, rf5, rf6, rf7, rf8, rf9, rf20, rf23, rf24, rf25, rf26, rf29, rf31, rf33, rf34, rf35, rf37, rf38, rf41, rf42, rf43,  k_X12_isOld_118, n10]
            exact yes (heq.mpr ⟨d, q⟩)
          · simp (disch := omega) only [↓mI_e, lit, ofN, bsm, nI_add, pk_mul, pk_sub, nI_e, nI_leE, nI_ltE, nI_mI, mI_nI, mI_lt, nlt_mI, mI_le, nle_mI, nI_addm, sh_b, bI_0, bI_1, bI_bI, ckZ_b, ckZ_n0, ckZ_n1, stIe, stJe, stZ_n0, stZ_n1, rm_nI, dv_nI, if_true, if_false, if_pos, if_neg, rf0, rf1, rf5, rf6, rf7, rf8, rf9, rf20, rf23, rf24, rf25, rf26, rf29, rf31, rf33, rf34, rf35, rf37, rf38, rf41, rf42, rf43,  c, bI_t, n10, lr19, h27, e9', es, q, k_X12_isOld_33, k_X12_isOld_63, k_X12_isOld_64]
            have h2 := h1 false
            rw [bI_f] at h2
            rw [h2]
            simp (disch := omega) only [↓mI_e, lit, ofN, bsm, nI_add, pk_mul, pk_sub, nI_e, nI_leE, nI_ltE, nI_mI, mI_nI, mI_lt, nlt_mI, mI_le, nle_mI, nI_addm, sh_b, bI_0, bI_1, bI_bI, ckZ_b, ckZ_n0, ckZ_n1, stIe, stJe, stZ_n0, stZ_n1, rm_nI, dv_nI, if_true, if_false, if_pos, if_neg, rf0, rf1, rf5, rf6, rf7, rf8, rf9, rf20, rf23, rf24, rf25, rf26, rf29, rf31, rf33, rf34, rf35, rf37, rf38, rf41, rf42, rf43,  k_X12_isOld_118]
            exact go (fun z => q (heq.mp z).2)
        · have e10 : (gA τ 19 (182 * r) = nI 1) = False := eq_false (fun z => d (by rw [z, vN_nI (by omega)]))
          simp (disch := omega) only [↓mI_e, lit, ofN, bsm, nI_add, pk_mul, pk_sub, nI_e, nI_leE, nI_ltE, nI_mI, mI_nI, mI_lt, nlt_mI, mI_le, nle_mI, nI_addm, sh_b, bI_0, bI_1, bI_bI, ckZ_b, ckZ_n0, ckZ_n1, stIe, stJe, stZ_n0, stZ_n1, rm_nI, dv_nI, if_true, if_false, if_pos, if_neg, rf0, rf1, rf5, rf6, rf7, rf8, rf9, rf20, rf23, rf24, rf25, rf26, rf29, rf31, rf33, rf34, rf35, rf37, rf38, rf41, rf42, rf43,  c, bI_t, n10, lr19, h27, e10, k_X12_isOld_33, k_X12_isOld_63, k_X12_isOld_64]
          have h2 := h1 false
          rw [bI_f] at h2
          rw [h2]
          simp (disch := omega) only [↓mI_e, lit, ofN, bsm, nI_add, pk_mul, pk_sub, nI_e, nI_leE, nI_ltE, nI_mI, mI_nI, mI_lt, nlt_mI, mI_le, nle_mI, nI_addm, sh_b, bI_0, bI_1, bI_bI, ckZ_b, ckZ_n0, ckZ_n1, stIe, stJe, stZ_n0, stZ_n1, rm_nI, dv_nI, if_true, if_false, if_pos, if_neg, rf0, rf1, rf5, rf6, rf7, rf8, rf9, rf20, rf23, rf24, rf25, rf26, rf29, rf31, rf33, rf34, rf35, rf37, rf38, rf41, rf42, rf43,  k_X12_isOld_118]
          exact go (fun z => d (heq.mp z).1)
theorem r_isOld {τ : ST} {s : Bool} {ρ : Nat × (Nat → Int32)} {U : Nat} (hU : U ≤ 19) (hc : Cur τ s ρ) (hl : ∀ r, r < U → vN (gA τ 19 (182 * r)) ≤ 180) : ∃ b τ1, f_X12_isOld 0 (nI U) (bI s) τ = some (bI b, τ1) ∧ (b = true ↔ ∃ r, r < U ∧ trR τ r = ρ) ∧ (∃ F, τ1 = sA τ 19 F) ∧ (b = true → τ1 = τ) ∧ (b = false → trR τ1 U = ρ ∧ ∀ r, r < U → trR τ1 r = trR τ r) := r_old_2 hU hc hl FU 0 (by omega) (by unfold FU; omega) (fun r' hr' => by omega)
