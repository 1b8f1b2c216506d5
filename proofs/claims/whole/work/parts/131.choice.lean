/-! CHOICES: the reference -/
theorem r_ch_141 {L : Nat} (hL : L ≤ 180) (τ : ST) (h27 : gI τ 0 27 = nI L) (rec12 : Nat → Int32 → Int32 → Int32 → Int32 → Int32 → Int32 → Int32 → ST → Option (Int32 × ST)) (v1 v2 v3 v4 v5 v6 v7 : Int32) : ∀ (n k : Nat), k ≤ L → L - k < n → k_X12_choices_141 rec12 n 0 v1 v2 v3 v4 v5 v6 v7 (bI (decide (∃ j, j < k ∧ gA τ 10 j = v3))) (nI k) τ = k_X12_choices_191 rec12 0 v1 v2 v3 v4 v5 v7 v6 (bI (decide (∃ j, j < L ∧ gA τ 10 j = v3))) τ := by
  have n10 : (nI 1 = nI 0) = False := eq_false (by decide)
  intro n
  induction n with
  | zero => intros; omega
  | succ n ih =>
    intro k hk hn
    rw [k_X12_choices_141]
    by_cases c : L ≤ k
    · have : k = L := by omega
      subst this
      cases z : decide (∃ j, j < k ∧ gA τ 10 j = v3)
      · simp (disch := omega) only [↓mI_e, lit, ofN, bsm, nI_add, pk_mul, pk_sub, nI_e, nI_leE, nI_ltE, nI_mI, mI_nI, mI_lt, nlt_mI, mI_le, nle_mI, nI_addm, sh_b, bI_0, bI_1, bI_bI, ckZ_b, ckZ_n0, ckZ_n1, stIe, stJe, stZ_n0, stZ_n1, rm_nI, dv_nI, if_true, if_false, if_pos, if_neg, rf0, rf1, rf5, rf6, rf7, rf8, rf9, rf20, rf23, rf24, rf25, rf26, rf29, rf31, rf33, rf34, rf35, rf37, rf38, rf41, rf42, rf43,  h27, bI_f]
      · simp (disch := omega) only [↓mI_e, lit, ofN, bsm, nI_add, pk_mul, pk_sub, nI_e, nI_leE, nI_ltE, nI_mI, mI_nI, mI_lt, nlt_mI, mI_le, nle_mI, nI_addm, sh_b, bI_0, bI_1, bI_bI, ckZ_b, ckZ_n0, ckZ_n1, stIe, stJe, stZ_n0, stZ_n1, rm_nI, dv_nI, if_true, if_false, if_pos, if_neg, rf0, rf1, rf5, rf6, rf7, rf8, rf9, rf20, rf23, rf24, rf25, rf26, rf29, rf31, rf33, rf34, rf35, rf37, rf38, rf41, rf42, rf43,  h27, bI_t, n10]
    · have h1 := ih (k + 1) (by omega) (by omega)
      by_cases d : ∃ j, j < k ∧ gA τ 10 j = v3
      · rw [decide_eq_true (show ∃ j, j < k + 1 ∧ gA τ 10 j = v3 from by obtain ⟨j, j1, j2⟩ := d; exact ⟨j, by omega, j2⟩)] at h1
        rw [decide_eq_true d]
        simp (disch := omega) only [↓mI_e, lit, ofN, bsm, nI_add, pk_mul, pk_sub, nI_e, nI_leE, nI_ltE, nI_mI, mI_nI, mI_lt, nlt_mI, mI_le, nle_mI, nI_addm, sh_b, bI_0, bI_1, bI_bI, ckZ_b, ckZ_n0, ckZ_n1, stIe, stJe, stZ_n0, stZ_n1, rm_nI, dv_nI, if_true, if_false, if_pos, if_neg, rf0, rf1, rf5, rf6, rf7, rf8, rf9, rf20, rf23, rf24, rf25, rf26, rf29, rf31, rf33, rf34, rf35, rf37, rf38, rf41, rf42, rf43,  h27, c, bI_t, n10, k_X12_choices_166, k_X12_choices_171]
        rw [bI_t] at h1
        exact h1
      · rw [decide_eq_false d]
        by_cases e : gA τ 10 k = v3
        · rw [decide_eq_true (show ∃ j, j < k + 1 ∧ gA τ 10 j = v3 from ⟨k, by omega, e⟩)] at h1
          simp (disch := omega) only [↓mI_e, lit, ofN, bsm, nI_add, pk_mul, pk_sub, nI_e, nI_leE, nI_ltE, nI_mI, mI_nI, mI_lt, nlt_mI, mI_le, nle_mI, nI_addm, sh_b, bI_0, bI_1, bI_bI, ckZ_b, ckZ_n0, ckZ_n1, stIe, stJe, stZ_n0, stZ_n1, rm_nI, dv_nI, if_true, if_false, if_pos, if_neg, rf0, rf1, rf5, rf6, rf7, rf8, rf9, rf20, rf23, rf24, rf25, rf26, rf29, rf31, rf33, rf34, rf35, rf37, rf38, rf41, rf42, rf43,  h27, c, bI_f, lr10, e, k_X12_choices_166, k_X12_choices_171]
          rw [bI_t] at h1
          exact h1
        · rw [decide_eq_false (show ¬ ∃ j, j < k + 1 ∧ gA τ 10 j = v3 from fun ⟨j, j1, j2⟩ => by
            by_cases z : j = k
            · rw [z] at j2; exact e j2
            · exact d ⟨j, by omega, j2⟩)] at h1
          simp (disch := omega) only [↓mI_e, lit, ofN, bsm, nI_add, pk_mul, pk_sub, nI_e, nI_leE, nI_ltE, nI_mI, mI_nI, mI_lt, nlt_mI, mI_le, nle_mI, nI_addm, sh_b, bI_0, bI_1, bI_bI, ckZ_b, ckZ_n0, ckZ_n1, stIe, stJe, stZ_n0, stZ_n1, rm_nI, dv_nI, if_true, if_false, if_pos, if_neg, rf0, rf1, rf5, rf6, rf7, rf8, rf9, rf20, rf23, rf24, rf25, rf26, rf29, rf31, rf33, rf34, rf35, rf37, rf38, rf41, rf42, rf43,  h27, c, bI_f, lr10, e, k_X12_choices_171]
          rw [bI_f] at h1
          exact h1
theorem r_ch_49 {B : Nat} (hB : B < 2 ^ 31) {s : ST} {g : Nat → Int64} {f : Nat → Int32} (h : RelW B s f g) {y a A m : Nat} (hy : y < YN f) (hA : cnt (rp f y a) (pm f) = A) (hA6 : A ≤ 6) {G : Nat → Int32} (hG : ∀ i, i < A → G i = nI (ap f y a i)) (hm : m < 64) (hx : ∃ i, i < A ∧ m.testBit i = true) (rec12 : Nat → Int32 → Int32 → Int32 → Int32 → Int32 → Int32 → Int32 → ST → Option (Int32 × ST)) (v2 v3 v4 v5 v6 : Int32) : ∀ (n k : Nat) (τ : ST) (r : Nat → Int32) (fs : Bool), k ≤ A → A - k < n → gA τ 1 = put12 f 29100 r → gI τ 0 30 = nI A → gA τ 13 = G → (fs = true ∧ (∀ i, i < k → m.testBit i = false) ∨ fs = false ∧ TI (sm f y) B (fun k => gv f k y) r ∧ IsJ (sm f y) (fun p => ∃ i, i < k ∧ m.testBit i = true ∧ ap f y a i = p) (thS f y) r) → ∃ r', k_X12_choices_49 rec12 n 0 (nI y) v2 v3 v4 v5 v6 (nI m) (bI fs) (nI k) τ = ((f_X12_laysTwins 0 (nI 29100) (nI y) (sA τ 1 (put12 f 29100 r'))).bind fun u10 => k_X12_choices_141 rec12 FU 0 (nI y) v2 v3 v4 v5 v6 (nI m) (nI 0) (nI 0) u10) ∧ TI (sm f y) B (fun k => gv f k y) r' ∧ IsJ (sm f y) (SR f y a m) (thS f y) r' := by
  have hK := h.1.1.1
  have hY := h.1.1.2.1
  have n10 : (nI 1 = nI 0) = False := eq_false (by decide)
  obtain ⟨F, hF, hF2⟩ : ∃ F, FU = F ∧ 5000 < F := ⟨FU, rfl, by unfold FU; omega⟩
  rw [hF]
  intro n
  induction n with
  | zero => intros; omega
  | succ n ih =>
    intro k τ r fs hk hn hg h30 h13 hi
    rw [k_X12_choices_49, hF]
    by_cases e : A ≤ k
    · have ek : k = A := by omega
      subst ek
      rcases hi with ⟨_, h2⟩ | ⟨_, h2, h3⟩
      · obtain ⟨i, i1, i2⟩ := hx
        rw [h2 i i1] at i2; exact absurd i2 (by decide)
      · refine ⟨r, ?_, h2, IsJ_set h3 (fun p => by unfold SR; rw [hA])⟩
        simp (disch := omega) only [↓mI_e, lit, ofN, bsm, nI_add, pk_mul, pk_sub, nI_e, nI_leE, nI_ltE, nI_mI, mI_nI, mI_lt, nlt_mI, mI_le, nle_mI, nI_addm, sh_b, bI_0, bI_1, bI_bI, ckZ_b, ckZ_n0, ckZ_n1, stIe, stJe, stZ_n0, stZ_n1, rm_nI, dv_nI, if_true, if_false, if_pos, if_neg, rf0, rf1, rf5, rf6, rf7, rf8, rf9, rf20, rf23, rf24, rf25, rf26, rf29, rf31, rf33, rf34, rf35, rf37, rf38, rf41, rf42, rf43,  h30]
        rw [← hg, sA_self]
    · have eb : bt (nI m) k = m.testBit k := bt_nI m (by omega)
      have ha := ap_lt h.1.1 hy (a := a) (i := k) (by omega)
      have t1 := tb_lt (p := ap f y a k) (y := y) (by omega) (by omega)
      have e13 : gA τ 13 k = nI (ap f y a k) := by rw [h13]; exact hG k (by omega)
      have et : 30 + 12 * (6 * ap f y a k + y) = tb (ap f y a k) y := rfl
      obtain ⟨_, t2⟩ := h.2.2.2.2.2.1 (ap f y a k) y (by omega) (by omega)
      cases c : m.testBit k
      · have h1 := ih (k + 1) τ r fs (by omega) (by omega) hg h30 h13 (by
          rcases hi with ⟨h1, h2⟩ | ⟨h1, h2, h3⟩
          · refine Or.inl ⟨h1, fun i hi => ?_⟩
            by_cases z : i = k
            · rw [z]; exact c
            · exact h2 i (by omega)
          · refine Or.inr ⟨h1, h2, IsJ_set h3 (fun p => ⟨fun ⟨i, i1, i2, i3⟩ => ⟨i, ?_, i2, i3⟩, fun ⟨i, i1, i2, i3⟩ => ⟨i, by omega, i2, i3⟩⟩)⟩
            by_cases z : i = k
            · rw [z, c] at i2; exact absurd i2 (by decide)
            · omega)
        rw [c] at eb
        simp (disch := omega) only [↓mI_e, lit, ofN, bsm, nI_add, pk_mul, pk_sub, nI_e, nI_leE, nI_ltE, nI_mI, mI_nI, mI_lt, nlt_mI, mI_le, nle_mI, nI_addm, sh_b, bI_0, bI_1, bI_bI, ckZ_b, ckZ_n0, ckZ_n1, stIe, stJe, stZ_n0, stZ_n1, rm_nI, dv_nI, if_true, if_false, if_pos, if_neg, rf0, rf1, rf5, rf6, rf7, rf8, rf9, rf20, rf23, rf24, rf25, rf26, rf29, rf31, rf33, rf34, rf35, rf37, rf38, rf41, rf42, rf43,  h30, e, eb, k_X12_choices_121]
        exact h1
      · rw [c] at eb
        rcases hi with ⟨h1, h2⟩ | ⟨h1, h2, h3⟩
        · subst h1
          have hcp := r_copy (to := 29100) (fr := tb (ap f y a k) y) (by omega) (by omega) (by omega) τ
          have eq1 : put12 (gA τ 1) 29100 (sh (gA τ 1) (tb (ap f y a k) y)) = put12 f 29100 (thS f y (ap f y a k)) := by
            funext j
            unfold put12
            by_cases z : 29100 ≤ j ∧ j < 29100 + 12
            · rw [if_pos z, if_pos z]
              unfold thS sh
              rw [hg, put12_out (by omega)]
            · rw [if_neg z, if_neg z, hg, put12_out (by omega)]
          rw [eq1] at hcp
          obtain ⟨r', q1, q2, q3⟩ := ih (k + 1) (sA τ 1 (put12 f 29100 (thS f y (ap f y a k)))) (thS f y (ap f y a k)) false (by omega) (by omega) (by rw [gA_sA, if_pos rfl]) h30 (by rw [gA_sA, if_neg (by decide)]; exact h13) (Or.inr ⟨rfl, t2, IsJ_set (IsJ_1 (th := thS f y) (p := ap f y a k) t2) (fun p => by
            constructor
            · intro ⟨i, z1, z2, z3⟩
              by_cases z : i = k
              · subst z; exact z3.symm
              · rw [h2 i (by omega)] at z2; exact absurd z2 (by decide)
            · intro z; exact ⟨k, by omega, c, z.symm⟩)⟩)
          refine ⟨r', ?_, q2, q3⟩
          simp (disch := omega) only [↓mI_e, lit, ofN, bsm, nI_add, pk_mul, pk_sub, nI_e, nI_leE, nI_ltE, nI_mI, mI_nI, mI_lt, nlt_mI, mI_le, nle_mI, nI_addm, sh_b, bI_0, bI_1, bI_bI, ckZ_b, ckZ_n0, ckZ_n1, stIe, stJe, stZ_n0, stZ_n1, rm_nI, dv_nI, if_true, if_false, if_pos, if_neg, rf0, rf1, rf5, rf6, rf7, rf8, rf9, rf20, rf23, rf24, rf25, rf26, rf29, rf31, rf33, rf34, rf35, rf37, rf38, rf41, rf42, rf43,  h30, e, eb, Bool.true_eq_false, lr13, e13, f_X12_thingOf, et, hcp, k_X12_choices_118, k_X12_choices_121]
          rw [bI_f, sA_sA] at q1
          exact q1
        · subst h1
          have hjn := r_joins (to := 29100) (fr := tb (ap f y a k) y) (y := y) (by omega) (by omega) (by omega) (by omega) (by omega) (by omega) τ
          have es : sm (gA τ 1) y = sm f y := by unfold sm; rw [hg, put12_out (by omega)]
          have eq1 : put12 (gA τ 1) 29100 (jT (sm (gA τ 1) y) (sh (gA τ 1) 29100) (sh (gA τ 1) (tb (ap f y a k) y))) = put12 f 29100 (jT (sm f y) r (thS f y (ap f y a k))) := by
            rw [es]
            funext j
            unfold put12
            by_cases z : 29100 ≤ j ∧ j < 29100 + 12
            · rw [if_pos z, if_pos z]
              refine jT_congr (fun i hi => by unfold sh; rw [hg, put12_in hi]) (fun i hi => ?_) (by omega)
              unfold thS sh
              rw [hg, put12_out (by omega)]
            · rw [if_neg z, if_neg z, hg, put12_out (by omega)]
          rw [eq1] at hjn
          obtain ⟨r', q1, q2, q3⟩ := ih (k + 1) (sA τ 1 (put12 f 29100 (jT (sm f y) r (thS f y (ap f y a k))))) (jT (sm f y) r (thS f y (ap f y a k))) false (by omega) (by omega) (by rw [gA_sA, if_pos rfl]) h30 (by rw [gA_sA, if_neg (by decide)]; exact h13) (Or.inr ⟨rfl, TI_join hB (gvl h (by omega)) h2 t2, IsJ_set (IsJ_join hB (gvl h (by omega)) h3 (IsJ_1 (th := thS f y) (p := ap f y a k) t2) h2 t2) (fun p => by
            constructor
            · intro ⟨i, z1, z2, z3⟩
              by_cases z : i = k
              · subst z; exact Or.inr z3.symm
              · exact Or.inl ⟨i, by omega, z2, z3⟩
            · intro z
              rcases z with ⟨i, z1, z2, z3⟩ | z
              · exact ⟨i, by omega, z2, z3⟩
              · exact ⟨k, by omega, c, z.symm⟩)⟩)
          refine ⟨r', ?_, q2, q3⟩
          simp (disch := omega) only [↓mI_e, lit, ofN, bsm, nI_add, pk_mul, pk_sub, nI_e, nI_leE, nI_ltE, nI_mI, mI_nI, mI_lt, nlt_mI, mI_le, nle_mI, nI_addm, sh_b, bI_0, bI_1, bI_bI, ckZ_b, ckZ_n0, ckZ_n1, stIe, stJe, stZ_n0, stZ_n1, rm_nI, dv_nI, if_true, if_false, if_pos, if_neg, rf0, rf1, rf5, rf6, rf7, rf8, rf9, rf20, rf23, rf24, rf25, rf26, rf29, rf31, rf33, rf34, rf35, rf37, rf38, rf41, rf42, rf43,  h30, e, eb, Bool.true_eq_false, bI_f, lr13, e13, f_X12_thingOf, et, hjn, k_X12_choices_118, k_X12_choices_121]
          rw [bI_f, sA_sA] at q1
          exact q1
noncomputable def rwR (f : Nat → Int32) (y a m : Nat) : Nat × (Nat → Int32) := rowS f y (SR f y a m)
noncomputable def wqR (f : Nat → Int32) (y a : Nat) (v : Int32) (m : Nat) : Bool := pR (RN f) m && (!sm f y && hasV v (rwR f y a m))
def ChR (f : Nat → Int32) (y a A : Nat) (G : Nat → Int32) (m : Nat) (τ0 τ : ST) : Prop := (∃ J, gA τ 1 = put12 f 29100 J) ∧ gI τ 0 30 = nI A ∧ gA τ 13 = G ∧ Sc [] τ0 τ ∧ (∀ m', m' < m → pR (RN f) m' = true → ∃ r, r < cnt (fst1 (pR (RN f)) (rwR f y a)) m ∧ trR τ r = rwR f y a m') ∧ ∀ r, r < cnt (fst1 (pR (RN f)) (rwR f y a)) m → ∃ m', m' < m ∧ pR (RN f) m' = true ∧ trR τ r = rwR f y a m'
/-- behind laysTwins the row of this choice lies ready -/
theorem cur_of {f : Nat → Int32} {y a m : Nat} (hy : y < 6) {r : Nat → Int32} (hj : IsJ (sm f y) (SR f y a m) (thS f y) r) {τ τ2 : ST} (hg : gA τ 1 = put12 f 29100 r) (h3 : L3 τ τ2) (h27 : gI τ2 0 27 = nI (twN (sm (gA τ 1) y) (sh (gA τ 1) 29100))) (hl : sm (gA τ 1) y = false → LT (gA τ 1) 29100 y 180 τ2) : Cur τ2 (sm f y) (rwR f y a m) ∧ ∃ L, L ≤ 180 ∧ gI τ2 0 27 = nI L ∧ ∀ v, decide (∃ j, j < L ∧ gA τ2 10 j = v) = (!sm f y && hasV v (rwR f y a m)) := by
  have es : sm (gA τ 1) y = sm f y := by unfold sm; rw [hg, put12_out (by omega)]
  have hjr : ∀ k, k < 12 → jS f y (SR f y a m) k = r k := jn_eq hj
  have hsh : ∀ k, k < 12 → sh (gA τ 1) 29100 k = jS f y (SR f y a m) k := fun k hk => by unfold sh; rw [hg, put12_in hk, hjr k hk]
  have g2 : gA τ2 1 = gA τ 1 := h3.2.2.1 1 (by decide) (by decide) (by decide)
  rw [es] at h27 hl
  unfold rwR rowS
  cases hs : sm f y
  · rw [hs] at h27 hl
    have esh : ∀ d, d < 180 → std (sh (gA τ 1) 29100) d = std (jS f y (SR f y a m)) d := fun d hd => by unfold std; rw [hsh _ (by omega)]
    have ec : cnt (std (sh (gA τ 1) 29100)) 180 = cnt (std (jS f y (SR f y a m))) 180 := cnt_congr 180 esh
    have h27' : gI τ2 0 27 = nI (cnt (std (jS f y (SR f y a m))) 180) := by rw [← ec]; exact h27
    have hLT := hl rfl
    have d1 : DL (std (jS f y (SR f y a m))) 180 (gA τ2 10) 0 (fun e => f (vb y (e / 30) (e % 30 + 1))) := DL_congr esh (fun d hd _ => by
      rw [hg, put12_out]
      unfold vb
      omega) hLT.2.1
    have erow : rowF false f y (jS f y (SR f y a m)) = rowN (cnt (std (jS f y (SR f y a m))) 180) (gA τ2 10) := by
      rw [rowN_F, rowN_eq]
      refine ⟨rfl, fun k hk => ?_⟩
      have := DL_kth d1 hk
      rw [Nat.zero_add] at this
      exact this.symm
    refine ⟨⟨_, cnt_le _ _, erow, h27'⟩, _, cnt_le _ _, h27', fun v => ?_⟩
    rw [erow, hasV_N]; rfl
  · rw [hs] at h27
    refine ⟨⟨?_, h27⟩, 0, by omega, h27, fun v => ?_⟩
    · rw [rowN_F, rowN_eq]
      refine ⟨rfl, fun k hk => ?_⟩
      show sum6 (jS f y (SR f y a m)) 0 6 = _
      rw [g2]
      exact sum6_congr 6 (fun k hk => (congrArg (jS f y (SR f y a m)) (Nat.zero_add k)).trans (hsh k (by omega)).symm)
    · rw [decide_eq_false (fun ⟨j, j1, _⟩ => by omega)]; rfl
theorem r_ch_12 {B : Nat} (hB : B < 2 ^ 31) {s : ST} {g : Nat → Int64} {f : Nat → Int32} (h : RelW B s f g) {y a A : Nat} (hy : y < YN f) (hA : cnt (rp f y a) (pm f) = A) (hA6 : A ≤ 6) {G : Nat → Int32} (hG : ∀ i, i < A → G i = nI (ap f y a i)) (v2 v3 : Int32) (τ0 : ST) : ∀ (n m : Nat) (τ : ST), m ≤ 2 ^ A → 2 ^ A - m < n → ChR f y a A G m τ0 τ → ∃ τ1, k_X12_choices_12 n 0 (nI y) v2 v3 (nI (cnt (pR (RN f)) m)) (nI (cnt (fst1 (pR (RN f)) (rwR f y a)) m)) (nI (cnt (wqR f y a v3) m)) (nI m) τ = some (if v2 = nI 0 then nI (cnt (pR (RN f)) (2 ^ A)) else if v2 = nI 1 then nI (cnt (fst1 (pR (RN f)) (rwR f y a)) (2 ^ A)) else nI (cnt (wqR f y a v3) (2 ^ A)), τ1) ∧ ChR f y a A G (2 ^ A) τ0 τ1 := by
  have hK := h.1.1.1
  have hY := h.1.1.2.1
  have hR := h.1.1.2.2.2.1
  have hN := h.1.1.2.2.1
  have n10 : (nI 1 = nI 0) = False := eq_false (by decide)
  have hpow : nI 1 <<< (nI A &&& nI 31) = nI (2 ^ A) := pow_of (by omega)
  have hA64 : 2 ^ A ≤ 64 := Nat.pow_le_pow_right (n := 2) (by decide) hA6
  have h20 : cnt (pR (RN f)) (2 ^ A) ≤ 20 := pick_20 (R := RN f) (by omega) hA64
  have hf0 : ∀ z : Nat → Bool, ∀ m, cnt z (m + 1) = cnt z m + (if z m then 1 else 0) := fun _ _ => rfl
  obtain ⟨F, hF, hF2⟩ : ∃ F, FU = F ∧ 5000 < F := ⟨FU, rfl, by unfold FU; omega⟩
  intro n
  induction n with
  | zero => intros; omega
  | succ n ih =>
    intro m τ hm hn hi
    obtain ⟨⟨J, i1⟩, i2, i3, i4, i5, i6⟩ := hi
    have e1 : gA τ 1 1 = nI (RN f) := by rw [i1, put12_out (by omega)]; exact eR f
    rw [k_X12_choices_12, hF]
    by_cases c : 2 ^ A ≤ m
    · have : m = 2 ^ A := by omega
      subst this
      refine ⟨τ, ?_, ⟨J, i1⟩, i2, i3, i4, i5, i6⟩
      simp (disch := omega) only [↓mI_e, lit, ofN, bsm, nI_add, pk_mul, pk_sub, nI_e, nI_leE, nI_ltE, nI_mI, mI_nI, mI_lt, nlt_mI, mI_le, nle_mI, nI_addm, sh_b, bI_0, bI_1, bI_bI, ckZ_b, ckZ_n0, ckZ_n1, stIe, stJe, stZ_n0, stZ_n1, rm_nI, dv_nI, if_true, if_false, if_pos, if_neg, rf0, rf1, rf5, rf6, rf7, rf8, rf9, rf20, rf23, rf24, rf25, rf26, rf29, rf31, rf33, rf34, rf35, rf37, rf38, rf41, rf42, rf43,  i2, hpow, k_X12_choices_245]
      split
      · rfl
      · split <;> rfl
    · have hlt : m < 2 ^ A := by omega
      have hvm : vN (nI m) = m := vN_nI (by omega)
      have hpl : pcN m ≤ 6 := pcN_le m 6 (by omega)
      have hcu := cnt_le (fst1 (pR (RN f)) (rwR f y a)) m
      have hcw := cnt_le (wqR f y a v3) m
      have hcp := cnt_le (pR (RN f)) m
      by_cases c2 : pcN m = RN f
      · have hp : pR (RN f) m = true := decide_eq_true c2
        have hp1 : cnt (pR (RN f)) (m + 1) = cnt (pR (RN f)) m + 1 := by rw [hf0, hp]; rfl
        have hmo := cnt_mono2 (p := pR (RN f)) (show m + 1 ≤ 2 ^ A by omega)
        have hUp : cnt (fst1 (pR (RN f)) (rwR f y a)) m ≤ cnt (pR (RN f)) m := cnt_mono m (fun i _ z => (fst1_t.mp z).1)
        have hx : ∃ i, i < A ∧ m.testBit i = true := by
          by_cases z : ∃ i, i < A ∧ m.testBit i = true
          · exact z
          · exfalso
            have : m = 0 := bit_ext (n := A) hlt (Nat.two_pow_pos A) (fun i hi => by
              rw [Nat.zero_testBit]
              cases q : m.testBit i
              · rfl
              · exact absurd ⟨i, hi, q⟩ z)
            rw [this, pcN_0] at c2
            omega
        obtain ⟨r, q1, q2, q3⟩ := r_ch_49 hB h hy hA hA6 hG (show m < 64 by omega) hx (k_X12_choices_12 n) v2 v3 (nI (cnt (pR (RN f)) m + 1)) (nI (cnt (fst1 (pR (RN f)) (rwR f y a)) m)) (nI (cnt (wqR f y a v3) m)) FU 0 τ J true (by omega) (by unfold FU; omega) i1 i2 i3 (Or.inl ⟨rfl, fun i hi => by omega⟩)
        rw [hF] at q1
        obtain ⟨τ2, l1, l2, l3, l4⟩ := r_laysTwins (a := 29100) (y := y) (by omega) (by omega) (sA τ 1 (put12 f 29100 r))
        have hg' : gA (sA τ 1 (put12 f 29100 r)) 1 = put12 f 29100 r := by rw [gA_sA, if_pos rfl]
        obtain ⟨hc, L, hL, h27, hv⟩ := cur_of (y := y) (by omega) q3 hg' l2 l3 l4
        have g1 : gA τ2 1 = put12 f 29100 r := by rw [l2.2.2.1 1 (by decide) (by decide) (by decide), hg']
        have g19 : gA τ2 19 = gA τ 19 := by rw [l2.2.2.1 19 (by decide) (by decide) (by decide), gA_sA, if_neg (by decide)]
        have etr : ∀ r', trR τ2 r' = trR τ r' := fun r' => by unfold trR; rw [g19]
        have h141 := r_ch_141 hL τ2 h27 (k_X12_choices_12 n) (nI y) v2 v3 (nI (cnt (pR (RN f)) m + 1)) (nI (cnt (fst1 (pR (RN f)) (rwR f y a)) m)) (nI (cnt (wqR f y a v3) m)) (nI m) FU 0 (by omega) (by unfold FU; omega)
        rw [hv v3, decide_eq_false (show ¬ ∃ j, j < 0 ∧ gA τ2 10 j = v3 from fun ⟨j, j1, _⟩ => by omega), bI_f, hF] at h141
        have hls : ∀ r', r' < cnt (fst1 (pR (RN f)) (rwR f y a)) m → vN (gA τ2 19 (182 * r')) ≤ 180 := fun r' hr' => by
          obtain ⟨m', _, _, z3⟩ := i6 r' hr'
          have z4 := congrArg Prod.fst z3
          rw [g19]
          have z5 : vN (gA τ 19 (182 * r')) = rwL (sm f y) (jS f y (SR f y a m')) := z4
          rw [z5]; exact rwL_le _ _
        obtain ⟨b, τ3, o1, o2, ⟨F3, o3⟩, o4, o5⟩ := r_isOld (U := cnt (fst1 (pR (RN f)) (rwR f y a)) m) (by omega) hc hls
        have es2 : sm (gA τ2 1) y = sm f y := by unfold sm; rw [g1, put12_out (by omega)]
        have ew : cnt (wqR f y a v3) (m + 1) = cnt (wqR f y a v3) m + (if (!sm f y && hasV v3 (rwR f y a m)) then 1 else 0) := by rw [hf0]; unfold wqR; rw [hp, Bool.true_and]
        have sc3 : Sc [] τ0 τ3 := by
          rw [o3]
          exact ((i4.sA _ rfl).trans l2.sc).sA _ rfl
        have fs3 : gI τ3 0 30 = nI A ∧ gA τ3 13 = G ∧ gA τ3 1 = put12 f 29100 r := by
          rw [o3]
          refine ⟨?_, ?_, ?_⟩
          · show gI τ2 0 30 = _; rw [l2.1 30 (by decide)]; exact i2
          · rw [gA_sA, if_neg (by decide), l2.2.2.1 13 (by decide) (by decide) (by decide), gA_sA, if_neg (by decide)]; exact i3
          · rw [gA_sA, if_neg (by decide)]; exact g1
        have fin : ∀ u, cnt (fst1 (pR (RN f)) (rwR f y a)) (m + 1) = u → ChR f y a A G (m + 1) τ0 τ3 → ∃ τ1, k_X12_choices_218 (k_X12_choices_12 n) 0 (nI y) v2 v3 (nI (cnt (pR (RN f)) m + 1)) (nI u) (nI (cnt (wqR f y a v3) m) + bI (!sm f y && hasV v3 (rwR f y a m))) (nI m) τ3 = some (if v2 = nI 0 then nI (cnt (pR (RN f)) (2 ^ A)) else if v2 = nI 1 then nI (cnt (fst1 (pR (RN f)) (rwR f y a)) (2 ^ A)) else nI (cnt (wqR f y a v3) (2 ^ A)), τ1) ∧ ChR f y a A G (2 ^ A) τ0 τ1 := fun u hu hh => by
          have h2 := ih (m + 1) τ3 (by omega) (by omega) hh
          rw [hu, hp1, ew] at h2
          have e5 : nI (cnt (wqR f y a v3) m) + bI (!sm f y && hasV v3 (rwR f y a m)) = nI (cnt (wqR f y a v3) m + (if (!sm f y && hasV v3 (rwR f y a m)) then 1 else 0)) := by
            cases (!sm f y && hasV v3 (rwR f y a m))
            · rw [bI_f, nI_add]; rfl
            · rw [bI_t, nI_add]; rfl
          rw [e5, k_X12_choices_218, nI_1]
          exact h2
        simp (disch := omega) only [↓mI_e, lit, ofN, bsm, nI_add, pk_mul, pk_sub, nI_e, nI_leE, nI_ltE, nI_mI, mI_nI, mI_lt, nlt_mI, mI_le, nle_mI, nI_addm, sh_b, bI_0, bI_1, bI_bI, ckZ_b, ckZ_n0, ckZ_n1, stIe, stJe, stZ_n0, stZ_n1, rm_nI, dv_nI, if_true, if_false, if_pos, if_neg, rf0, rf1, rf5, rf6, rf7, rf8, rf9, rf20, rf23, rf24, rf25, rf26, rf29, rf31, rf33, rf34, rf35, rf37, rf38, rf41, rf42, rf43,  i2, hpow, c, r_bits, hvm, lr1, e1, c2]
        rw [bI_t] at q1
        rw [q1, l1, bsm, h141]
        simp (disch := omega) only [↓mI_e, lit, ofN, bsm, nI_add, pk_mul, pk_sub, nI_e, nI_leE, nI_ltE, nI_mI, mI_nI, mI_lt, nlt_mI, mI_le, nle_mI, nI_addm, sh_b, bI_0, bI_1, bI_bI, ckZ_b, ckZ_n0, ckZ_n1, stIe, stJe, stZ_n0, stZ_n1, rm_nI, dv_nI, if_true, if_false, if_pos, if_neg, rf0, rf1, rf5, rf6, rf7, rf8, rf9, rf20, rf23, rf24, rf25, rf26, rf29, rf31, rf33, rf34, rf35, rf37, rf38, rf41, rf42, rf43,  k_X12_choices_191, r_isSum, es2, o1]
        cases b
        · obtain ⟨o6, o7⟩ := o5 rfl
          have hfs : fst1 (pR (RN f)) (rwR f y a) m = true := fst1_t.mpr ⟨hp, fun j hj hpj z => by
            obtain ⟨r', z1, z2⟩ := i5 j hj hpj
            exact absurd (o2.mpr ⟨r', z1, by rw [etr, z2]; exact z⟩) (by decide)⟩
          have hu : cnt (fst1 (pR (RN f)) (rwR f y a)) (m + 1) = cnt (fst1 (pR (RN f)) (rwR f y a)) m + 1 := by rw [hf0, hfs]; rfl
          simp (disch := omega) only [↓mI_e, lit, ofN, bsm, nI_add, pk_mul, pk_sub, nI_e, nI_leE, nI_ltE, nI_mI, mI_nI, mI_lt, nlt_mI, mI_le, nle_mI, nI_addm, sh_b, bI_0, bI_1, bI_bI, ckZ_b, ckZ_n0, ckZ_n1, stIe, stJe, stZ_n0, stZ_n1, rm_nI, dv_nI, if_true, if_false, if_pos, if_neg, rf0, rf1, rf5, rf6, rf7, rf8, rf9, rf20, rf23, rf24, rf25, rf26, rf29, rf31, rf33, rf34, rf35, rf37, rf38, rf41, rf42, rf43,  bI_f, k_X12_choices_215]
          refine fin _ hu ⟨⟨r, fs3.2.2⟩, fs3.1, fs3.2.1, sc3, fun m' h1 h2 => ?_, fun r' hr' => ?_⟩
          · by_cases z : m' = m
            · subst z; exact ⟨_, by omega, o6⟩
            · obtain ⟨r', z1, z2⟩ := i5 m' (by omega) h2
              exact ⟨r', by omega, by rw [o7 r' z1, etr]; exact z2⟩
          · by_cases z : r' = cnt (fst1 (pR (RN f)) (rwR f y a)) m
            · subst z; exact ⟨m, by omega, hp, o6⟩
            · obtain ⟨m', z1, z2, z3⟩ := i6 r' (by omega)
              exact ⟨m', by omega, z2, by rw [o7 r' (by omega), etr]; exact z3⟩
        · have o4' := o4 rfl
          obtain ⟨r0, z1, z2⟩ := o2.mp rfl
          obtain ⟨m0, w1, w2, w3⟩ := i6 r0 z1
          have hfs : fst1 (pR (RN f)) (rwR f y a) m = false := fst1_f.mpr (fun z => z.2 m0 w1 w2 (by rw [← w3, ← etr]; exact z2))
          have hu : cnt (fst1 (pR (RN f)) (rwR f y a)) (m + 1) = cnt (fst1 (pR (RN f)) (rwR f y a)) m := by rw [hf0, hfs]; rfl
          simp (disch := omega) only [↓mI_e, lit, ofN, bsm, nI_add, pk_mul, pk_sub, nI_e, nI_leE, nI_ltE, nI_mI, mI_nI, mI_lt, nlt_mI, mI_le, nle_mI, nI_addm, sh_b, bI_0, bI_1, bI_bI, ckZ_b, ckZ_n0, ckZ_n1, stIe, stJe, stZ_n0, stZ_n1, rm_nI, dv_nI, if_true, if_false, if_pos, if_neg, rf0, rf1, rf5, rf6, rf7, rf8, rf9, rf20, rf23, rf24, rf25, rf26, rf29, rf31, rf33, rf34, rf35, rf37, rf38, rf41, rf42, rf43,  bI_t, n10, k_X12_choices_215, Nat.add_zero]
          refine fin _ hu ⟨⟨r, fs3.2.2⟩, fs3.1, fs3.2.1, sc3, fun m' h1 h2 => ?_, fun r' hr' => ?_⟩
          · by_cases z : m' = m
            · subst z; exact ⟨r0, by omega, by rw [o4']; exact z2⟩
            · obtain ⟨r', z1, z2⟩ := i5 m' (by omega) h2
              exact ⟨r', by omega, by rw [o4', etr]; exact z2⟩
          · obtain ⟨m', z1, z2, z3⟩ := i6 r' (by omega)
            exact ⟨m', by omega, z2, by rw [o4', etr]; exact z3⟩
      · have hp : pR (RN f) m = false := decide_eq_false c2
        have hp1 : cnt (pR (RN f)) (m + 1) = cnt (pR (RN f)) m := by rw [hf0, hp]; rfl
        have hfs : fst1 (pR (RN f)) (rwR f y a) m = false := fst1_f.mpr (fun z => by rw [hp] at z; exact absurd z.1 (by decide))
        have hu : cnt (fst1 (pR (RN f)) (rwR f y a)) (m + 1) = cnt (fst1 (pR (RN f)) (rwR f y a)) m := by rw [hf0, hfs]; rfl
        have ew : cnt (wqR f y a v3) (m + 1) = cnt (wqR f y a v3) m := by rw [hf0]; unfold wqR; rw [hp]; rfl
        have h2 := ih (m + 1) τ (by omega) (by omega) ⟨⟨J, i1⟩, i2, i3, i4, fun m' h1 h2 => by
          by_cases z : m' = m
          · rw [z, hp] at h2; exact absurd h2 (by decide)
          · obtain ⟨r', z1, z2⟩ := i5 m' (by omega) h2
            exact ⟨r', by omega, z2⟩, fun r' hr' => by
          obtain ⟨m', z1, z2, z3⟩ := i6 r' (by omega)
          exact ⟨m', by omega, z2, z3⟩⟩
        rw [hp1, hu, ew] at h2
        simp (disch := omega) only [↓mI_e, lit, ofN, bsm, nI_add, pk_mul, pk_sub, nI_e, nI_leE, nI_ltE, nI_mI, mI_nI, mI_lt, nlt_mI, mI_le, nle_mI, nI_addm, sh_b, bI_0, bI_1, bI_bI, ckZ_b, ckZ_n0, ckZ_n1, stIe, stJe, stZ_n0, stZ_n1, rm_nI, dv_nI, if_true, if_false, if_pos, if_neg, rf0, rf1, rf5, rf6, rf7, rf8, rf9, rf20, rf23, rf24, rf25, rf26, rf29, rf31, rf33, rf34, rf35, rf37, rf38, rf41, rf42, rf43,  i2, hpow, c, r_bits, hvm, lr1, e1, c2, k_X12_choices_218]
        exact h2
theorem r_choices {B : Nat} (hB : B < 2 ^ 31) {s : ST} {g : Nat → Int64} {f : Nat → Int32} (h : RelW B s f g) {y a A : Nat} (hy : y < YN f) (hA : cnt (rp f y a) (pm f) = A) (hA6 : A ≤ 6) {G : Nat → Int32} (hG : ∀ i, i < A → G i = nI (ap f y a i)) (v2 v3 : Int32) {τ : ST} (h1 : ∃ J, gA τ 1 = put12 f 29100 J) (h30 : gI τ 0 30 = nI A) (h13 : gA τ 13 = G) : ∃ τ1, f_X12_choices 0 (nI y) v2 v3 τ = some (if v2 = nI 0 then nI (cnt (pR (RN f)) (2 ^ A)) else if v2 = nI 1 then nI (cnt (fst1 (pR (RN f)) (rwR f y a)) (2 ^ A)) else nI (cnt (wqR f y a v3) (2 ^ A)), τ1) ∧ (∃ J, gA τ1 1 = put12 f 29100 J) ∧ gI τ1 0 30 = nI A ∧ gA τ1 13 = G ∧ Sc [] τ τ1 := by
  have hA64 : 2 ^ A ≤ 64 := Nat.pow_le_pow_right (n := 2) (by decide) hA6
  obtain ⟨τ1, q1, q2, q3, q4, q5, _⟩ := r_ch_12 hB h hy hA hA6 hG v2 v3 τ FU 0 τ (Nat.zero_le _) (by unfold FU; omega) ⟨h1, h30, h13, Sc.rf τ, fun m' h1 => by omega, fun r hr => by simp only [cnt] at hr; omega⟩
  exact ⟨τ1, q1, q2, q3, q4, q5⟩
