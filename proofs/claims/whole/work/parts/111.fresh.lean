/-! THE JOIN OF ALL: FRESH AND LATE -/
theorem p12_in (f : Nat → Int32) (to : Nat) (g : Nat → Int32) {k : Nat} (hk : k < 12) : put12 f to g (to + k) = g k := by
  unfold put12
  rw [if_pos (by omega), show to + k - to = k by omega]
theorem p12_out (f : Nat → Int32) (to : Nat) (g : Nat → Int32) {j : Nat} (hj : ¬ (to ≤ j ∧ j < to + 12)) : put12 f to g j = f j := if_neg hj
theorem put12_2 (f : Nat → Int32) (to : Nat) (g h : Nat → Int32) : put12 (put12 f to g) to h = put12 f to h := by
  funext j
  unfold put12
  by_cases z : to ≤ j ∧ j < to + 12
  · rw [if_pos z, if_pos z]
  · rw [if_neg z, if_neg z, if_neg z]
theorem put12_e {f : Nat → Int32} {to : Nat} {g h : Nat → Int32} (e : ∀ k, k < 12 → g k = h k) : put12 f to g = put12 f to h := by
  funext j
  unfold put12
  by_cases z : to ≤ j ∧ j < to + 12
  · rw [if_pos z, if_pos z, e _ (by omega)]
  · rw [if_neg z, if_neg z]
theorem r_jAll_0 {y : Nat} (f : Nat → Int32) : ∀ (n k : Nat) (τ : ST), k ≤ 12 → 12 - k < n → gA τ 1 = (fun j => if 29120 ≤ j ∧ j < 29120 + k then nI 0 else f j) → k_X12_joinsAll_2 n 0 (nI y) (nI k) τ = k_X12_joinsAll_27 FU 0 (nI y) (nI 0) (sA τ 1 (put12 f 29120 (fun _ => nI 0))) := by
  obtain ⟨F, hF, hF2⟩ : ∃ F, FU = F ∧ 5000 < F := ⟨FU, rfl, by unfold FU; omega⟩
  rw [hF]
  intro n
  induction n with
  | zero => intros; omega
  | succ n ih =>
    intro k τ hk hn h1
    rw [k_X12_joinsAll_2, hF]
    by_cases e : k = 12
    · subst e
      have e1 : gA τ 1 = put12 f 29120 (fun _ => nI 0) := h1
      rw [← e1, sA_self]
      simp (disch := omega) only [↓mI_e, lit, ofN, bsm, nI_add, pk_mul, pk_sub, nI_e, nI_leE, nI_ltE, nI_mI, mI_nI, mI_lt, nlt_mI, mI_le, nle_mI, nI_addm, sh_b, bI_0, bI_1, bI_bI, ckZ_b, ckZ_n0, ckZ_n1, stIe, stJe, stZ_n0, stZ_n1, rm_nI, dv_nI, if_true, if_false, if_pos, if_neg, rf0, rf1, rf5, rf6, rf7, rf8, rf9, rf20, rf23, rf24, rf25, rf26, rf29, rf31, rf33, rf34, rf35, rf37, rf38, rf41, rf42, rf43, ]
    · have IH := ih (k + 1) (sA τ 1 (upd (gA τ 1) (29120 + k) (nI 0))) (by omega) (by omega) (by
        rw [gA_sA, if_pos rfl, h1]
        funext j
        rw [upd_at]
        by_cases z : j = 29120 + k
        · rw [if_pos z, if_pos (by omega)]
        · rw [if_neg z]
          by_cases z2 : 29120 ≤ j ∧ j < 29120 + k
          · rw [if_pos z2, if_pos (by omega)]
          · rw [if_neg z2, if_neg (by omega)])
      rw [sA_sA] at IH
      simp (disch := omega) only [↓mI_e, lit, ofN, bsm, nI_add, pk_mul, pk_sub, nI_e, nI_leE, nI_ltE, nI_mI, mI_nI, mI_lt, nlt_mI, mI_le, nle_mI, nI_addm, sh_b, bI_0, bI_1, bI_bI, ckZ_b, ckZ_n0, ckZ_n1, stIe, stJe, stZ_n0, stZ_n1, rm_nI, dv_nI, if_true, if_false, if_pos, if_neg, rf0, rf1, rf5, rf6, rf7, rf8, rf9, rf20, rf23, rf24, rf25, rf26, rf29, rf31, rf33, rf34, rf35, rf37, rf38, rf41, rf42, rf43,  sr1]
      exact IH
theorem r_jAll_27 {B : Nat} (hB : B < 2 ^ 31) {s : ST} {g : Nat → Int64} {f : Nat → Int32} (h : RelW B s f g) {y : Nat} (hy : y < 6) : ∀ (n k : Nat) (τ : ST) (r : Nat → Int32), k ≤ KN f → KN f - k < n → gA τ 1 = put12 f 29120 r → TI (sm f y) B (fun k => gv f k y) r → IsJ (sm f y) (fun p => p < k) (thS f y) r → ∃ r', k_X12_joinsAll_27 n 0 (nI y) (nI k) τ = some (sA τ 1 (put12 f 29120 r')) ∧ TI (sm f y) B (fun k => gv f k y) r' ∧ IsJ (sm f y) (fun p => p < KN f) (thS f y) r' := by
  have hK := h.1.1.1
  intro n
  induction n with
  | zero => intros; omega
  | succ n ih =>
    intro k τ r hk hn h1 ht hj
    have e3 : gA τ 1 3 = nI (KN f) := by rw [h1, p12_out _ _ _ (by omega)]; exact (nI_vN _).symm
    have esm : sm (gA τ 1) y = sm f y := by unfold sm; rw [h1, p12_out _ _ _ (by omega)]
    rw [k_X12_joinsAll_27]
    by_cases e : k = KN f
    · subst e
      refine ⟨r, ?_, ht, hj⟩
      rw [← h1, sA_self]
      simp (disch := omega) only [↓mI_e, lit, ofN, bsm, nI_add, pk_mul, pk_sub, nI_e, nI_leE, nI_ltE, nI_mI, mI_nI, mI_lt, nlt_mI, mI_le, nle_mI, nI_addm, sh_b, bI_0, bI_1, bI_bI, ckZ_b, ckZ_n0, ckZ_n1, stIe, stJe, stZ_n0, stZ_n1, rm_nI, dv_nI, if_true, if_false, if_pos, if_neg, rf0, rf1, rf5, rf6, rf7, rf8, rf9, rf20, rf23, rf24, rf25, rf26, rf29, rf31, rf33, rf34, rf35, rf37, rf38, rf41, rf42, rf43,  lr1, e3]
    · have t2 := (h.2.2.2.2.2.1 k y (by omega) hy).2
      have htb : tb k y + 12 ≤ 470 := by unfold tb; omega
      have hth : ∀ j, j < 12 → sh (gA τ 1) (tb k y) j = thS f y k j := fun j hj' => by
        unfold sh thS sh
        rw [h1, p12_out _ _ _ (by omega)]
      by_cases z : k = 0
      · subst z
        have c1 := r_copy (to := 29120) (fr := tb 0 y) (by omega) (by omega) (by omega) τ
        have e1 : put12 (gA τ 1) 29120 (sh (gA τ 1) (tb 0 y)) = put12 f 29120 (thS f y 0) := by
          rw [put12_e hth, h1, put12_2]
        rw [e1] at c1
        have c1 : f_X12_copy 0 (nI 29120) (nI (30 + 12 * (6 * 0 + y))) τ = _ := c1
        obtain ⟨r', q1, q2, q3⟩ := ih 1 (sA τ 1 (put12 f 29120 (thS f y 0))) (thS f y 0) (by omega) (by omega) (by rw [gA_sA, if_pos rfl]) t2 (IsJ_set (IsJ_1 (th := thS f y) (p := 0) t2) (fun p => ⟨fun q => by omega, fun q => by omega⟩))
        rw [sA_sA] at q1
        refine ⟨r', ?_, q2, q3⟩
        simp (disch := omega) only [↓mI_e, lit, ofN, bsm, nI_add, pk_mul, pk_sub, nI_e, nI_leE, nI_ltE, nI_mI, mI_nI, mI_lt, nlt_mI, mI_le, nle_mI, nI_addm, sh_b, bI_0, bI_1, bI_bI, ckZ_b, ckZ_n0, ckZ_n1, stIe, stJe, stZ_n0, stZ_n1, rm_nI, dv_nI, if_true, if_false, if_pos, if_neg, rf0, rf1, rf5, rf6, rf7, rf8, rf9, rf20, rf23, rf24, rf25, rf26, rf29, rf31, rf33, rf34, rf35, rf37, rf38, rf41, rf42, rf43,  lr1, e3, f_X12_thingOf, c1, k_X12_joinsAll_71]
        exact q1
      · have c1 := r_joins (to := 29120) (fr := tb k y) (by omega) (by unfold tb; omega) (by omega) (by omega) hy (by omega) τ
        have hr : ∀ j, j < 12 → sh (gA τ 1) 29120 j = r j := fun j hj' => by
          unfold sh
          rw [h1, p12_in _ _ _ hj']
        have e1 : put12 (gA τ 1) 29120 (jT (sm (gA τ 1) y) (sh (gA τ 1) 29120) (sh (gA τ 1) (tb k y))) = put12 f 29120 (jT (sm f y) r (thS f y k)) := by
          rw [h1, put12_2, ← h1, esm]
          refine put12_e (fun j hj' => ?_)
          unfold jT
          by_cases z2 : j < 6
          · rw [if_pos z2, if_pos z2, hr _ (by omega), hr _ (by omega), hth _ (by omega), hth _ (by omega), if_pos z2, if_pos z2]
          · rw [if_neg z2, if_neg z2, hr _ (by omega), hth _ (by omega), if_neg z2, if_neg z2]
        rw [e1] at c1
        have c1 : f_X12_joins 0 (nI 29120) (nI (30 + 12 * (6 * k + y))) (nI y) τ = _ := c1
        obtain ⟨r', q1, q2, q3⟩ := ih (k + 1) (sA τ 1 (put12 f 29120 (jT (sm f y) r (thS f y k)))) (jT (sm f y) r (thS f y k)) (by omega) (by omega) (by rw [gA_sA, if_pos rfl]) (TI_join hB (gvl h hy) ht t2) (IsJ_set (IsJ_join hB (gvl h hy) hj (IsJ_1 (th := thS f y) (p := k) t2) ht t2) (fun p => ⟨fun q => by omega, fun q => by omega⟩))
        rw [sA_sA] at q1
        refine ⟨r', ?_, q2, q3⟩
        simp (disch := omega) only [↓mI_e, lit, ofN, bsm, nI_add, pk_mul, pk_sub, nI_e, nI_leE, nI_ltE, nI_mI, mI_nI, mI_lt, nlt_mI, mI_le, nle_mI, nI_addm, sh_b, bI_0, bI_1, bI_bI, ckZ_b, ckZ_n0, ckZ_n1, stIe, stJe, stZ_n0, stZ_n1, rm_nI, dv_nI, if_true, if_false, if_pos, if_neg, rf0, rf1, rf5, rf6, rf7, rf8, rf9, rf20, rf23, rf24, rf25, rf26, rf29, rf31, rf33, rf34, rf35, rf37, rf38, rf41, rf42, rf43,  lr1, e3, f_X12_thingOf, c1, k_X12_joinsAll_71]
        exact q1
theorem r_joinsAll {B : Nat} (hB : B < 2 ^ 31) {s : ST} {g : Nat → Int64} {f : Nat → Int32} (h : RelW B s f g) {y : Nat} (hy : y < 6) {τ : ST} (hf : gA τ 1 = f) : ∃ r, f_X12_joinsAll 0 (nI y) τ = some (sA τ 1 (put12 f 29120 r)) ∧ TI (sm f y) B (fun k => gv f k y) r ∧ IsJ (sm f y) (fun p => p < KN f) (thS f y) r := by
  have hK := h.1.1.1
  have q1 := r_jAll_0 (y := y) f FU 0 τ (by omega) (by unfold FU; omega) (by funext j; rw [if_neg (by omega), hf])
  obtain ⟨r, q2, q3, q4⟩ := r_jAll_27 hB h hy FU 0 (sA τ 1 (put12 f 29120 (fun _ => nI 0))) (fun _ => nI 0) (by omega) (by unfold FU; omega) (by rw [gA_sA, if_pos rfl]) (TI_0 _ _ _ (fun _ _ => rfl)) (IsJ_set (IsJ_0 _ (thS f y) (fun _ _ => rfl)) (fun p => ⟨fun z => by omega, fun z => z.elim⟩))
  rw [sA_sA] at q2
  exact ⟨r, q1.trans q2, q3, q4⟩
theorem c_joinAll {w : Nat} (hw : isW w) {B : Nat} (hB : B < 2 ^ 31) {g : Nat → Int64} {f : Nat → Int32} {y : Nat} (hy : y < 6) {σ : ST} (h : RelW B (wv σ w) f g) (hcw : 100 ≤ w ∨ w + 28 ≤ 97) : ∃ r F G, f_X10_joinSet w (upT (nI (KN f))) (nI y) 97 (nI 0) σ = some (sA (sA σ 98 F) 99 G) ∧ CR (sm f y) (sA (sA σ 98 F) 99 G) 97 0 r ∧ TI (sm f y) B (fun k => gv f k y) r ∧ IsJ (sm f y) (fun p => p < KN f) (thS f y) r := by
  have hK := h.1.1.1
  obtain ⟨r, F, G, q1, q2, q3, q4, _⟩ := c_joinSet hw hB hy (upT (nI (KN f))) isC_j (i := 0) (by omega) (by omega) h
  exact ⟨r, F, G, q1, q2, q3, IsJ_set q4 (fun p => ⟨fun z => ⟨z, by rw [bt_upT (by omega) (by omega)]; exact decide_eq_true z⟩, fun z => z.1⟩)⟩
theorem c_kset {w : Nat} (hw : isW w) {σ : ST} {f : Nat → Int32} (h : RS (wv σ w) f) : f_X7_keeperSet (w + 1) σ = some (upT (nI (KN f)), σ) := by
  have e6 : gI σ (w + 1) 6 = nI (KN f) := h.2.1.1.trans (eK f)
  simp (disch := omega) only [↓mI_e, lit, ofN, bsm, nI_add, pk_mul, pk_sub, nI_e, nI_leE, nI_ltE, nI_mI, mI_nI, mI_lt, nlt_mI, mI_le, nle_mI, nI_addm, sh_b, bI_0, bI_1, bI_bI, ckZ_b, ckZ_n0, ckZ_n1, stIe, stJe, stZ_n0, stZ_n1, rm_nI, dv_nI, if_true, if_false, if_pos, if_neg, rf0, rf1, rf5, rf6, rf7, rf8, rf9, rf20, rf23, rf24, rf25, rf26, rf29, rf31, rf33, rf34, rf35, rf37, rf38, rf41, rf42, rf43,  f_X7_keeperSet, e6]
  rfl
def frP (f : Nat → Int32) (y : Nat) (r : Nat → Int32) (p : Nat) : Bool := isPl f y p && tl (thS f y p) r 12
theorem tl_sym (t u : Nat → Int32) (n : Nat) : tl t u n = tl u t n := by
  unfold tl
  exact decide_eq_decide.mpr ⟨fun q k hk => (q k hk).symm, fun q k hk => (q k hk).symm⟩
theorem tl_congr {t u t' u' : Nat → Int32} {n : Nat} (h1 : ∀ k, k < n → t k = t' k) (h2 : ∀ k, k < n → u k = u' k) : tl t u n = tl t' u' n := by
  unfold tl
  exact decide_eq_decide.mpr ⟨fun q k hk => by rw [← h1 k hk, ← h2 k hk]; exact q k hk, fun q k hk => by rw [h1 k hk, h2 k hk]; exact q k hk⟩
theorem c_fresh_loop {σ : ST} {B : Nat} {f : Nat → Int32} {g : Nat → Int64} (h : RelW B (wv σ wM) f g) {y : Nat} (hy : y < YN f) {r : Nat → Int32} (hr : CR (sm f y) σ 97 0 r) : ∀ (n i : Nat) (p : Int32), i ≤ KN f → KN f - i < n → (∀ k, bt p k = (decide (k < i) && frP f y r k)) → ∃ p', k_X11_fresh_41 n 0 (nI y) p (nI i) σ = some (p', sI σ 0 14 (nI 0)) ∧ ∀ k, bt p' k = (decide (k < KN f) && frP f y r k) := by
  have hK := h.1.1.1
  have hY := h.1.1.2.1
  have hw := wM_w
  have e6 : gI σ (wM + 1) 6 = nI (KN f) := h.1.2.1.1.trans (eK f)
  intro n
  induction n with
  | zero => intros; omega
  | succ n ih =>
    intro i p hi hn hp
    rw [k_X11_fresh_41]
    by_cases e : i = KN f
    · subst e
      refine ⟨p, ?_, hp⟩
      simp (disch := omega) only [↓mI_e, lit, ofN, bsm, nI_add, pk_mul, pk_sub, nI_e, nI_leE, nI_ltE, nI_mI, mI_nI, mI_lt, nlt_mI, mI_le, nle_mI, nI_addm, sh_b, bI_0, bI_1, bI_bI, ckZ_b, ckZ_n0, ckZ_n1, stIe, stJe, stZ_n0, stZ_n1, rm_nI, dv_nI, if_true, if_false, if_pos, if_neg, rf0, rf1, rf5, rf6, rf7, rf8, rf9, rf20, rf23, rf24, rf25, rf26, rf29, rf31, rf33, rf34, rf35, rf37, rf38, rf41, rf42, rf43,  c02, w_0 hw, e6, c_answer]
    · have c1 := c_isPlace hw h.1 hy (k := i) (by omega)
      have c2 := c_isSame isC_j (isC_h hw) (i := 0) (j := i * 6 + y) (by omega) (by omega) σ
      have hcr := wv_CR (w := wM) (by decide) (h.2.2.2.2.2.1 i y (by omega) (by omega)).1
      rw [cr_ls hr hcr, tl_sym] at c2
      have c2 : f_X0_isSame 97 (nI 0) (wM + 15) (nI (i * 6 + y)) σ = some (bI (tl (thS f y i) r 12), σ) := c2
      have c11 : LC.2.1 0 11 = 97 := rfl
      cases z1 : isPl f y i
      · obtain ⟨p', q1, q2⟩ := ih (i + 1) p (by omega) (by omega) (fun k => set_step hp (fun k => by unfold frP; rw [z1]; simp) k)
        refine ⟨p', ?_, q2⟩
        rw [z1] at c1
        simp (disch := omega) only [↓mI_e, lit, ofN, bsm, nI_add, pk_mul, pk_sub, nI_e, nI_leE, nI_ltE, nI_mI, mI_nI, mI_lt, nlt_mI, mI_le, nle_mI, nI_addm, sh_b, bI_0, bI_1, bI_bI, ckZ_b, ckZ_n0, ckZ_n1, stIe, stJe, stZ_n0, stZ_n1, rm_nI, dv_nI, if_true, if_false, if_pos, if_neg, rf0, rf1, rf5, rf6, rf7, rf8, rf9, rf20, rf23, rf24, rf25, rf26, rf29, rf31, rf33, rf34, rf35, rf37, rf38, rf41, rf42, rf43,  c02, w_0 hw, e6, c1, bI_f, k_X11_fresh_99]
        exact q1
      · rw [z1] at c1
        have n10 : (nI 1 = nI 0) = False := eq_false (by decide)
        cases z2 : tl (thS f y i) r 12
        · rw [z2] at c2
          obtain ⟨p', q1, q2⟩ := ih (i + 1) p (by omega) (by omega) (fun k => set_step hp (fun k => by unfold frP; rw [z2]; simp) k)
          refine ⟨p', ?_, q2⟩
          simp (disch := omega) only [↓mI_e, lit, ofN, bsm, nI_add, pk_mul, pk_sub, nI_e, nI_leE, nI_ltE, nI_mI, mI_nI, mI_lt, nlt_mI, mI_le, nle_mI, nI_addm, sh_b, bI_0, bI_1, bI_bI, ckZ_b, ckZ_n0, ckZ_n1, stIe, stJe, stZ_n0, stZ_n1, rm_nI, dv_nI, if_true, if_false, if_pos, if_neg, rf0, rf1, rf5, rf6, rf7, rf8, rf9, rf20, rf23, rf24, rf25, rf26, rf29, rf31, rf33, rf34, rf35, rf37, rf38, rf41, rf42, rf43,  c02, w_0 hw, w_2 hw, c11, e6, c1, bI_t, n10, f_X10_cellOf, c2, bI_f, k_X11_fresh_99]
          exact q1
        · rw [z2] at c2
          obtain ⟨p', q1, q2⟩ := ih (i + 1) (p ||| (nI 1 <<< (nI i &&& nI 31))) (by omega) (by omega) (fun k => set_step hp (fun k => by rw [bt_ins _ (by omega)]; unfold frP; rw [z1, z2]; simp) k)
          refine ⟨p', ?_, q2⟩
          simp (disch := omega) only [↓mI_e, lit, ofN, bsm, nI_add, pk_mul, pk_sub, nI_e, nI_leE, nI_ltE, nI_mI, mI_nI, mI_lt, nlt_mI, mI_le, nle_mI, nI_addm, sh_b, bI_0, bI_1, bI_bI, ckZ_b, ckZ_n0, ckZ_n1, stIe, stJe, stZ_n0, stZ_n1, rm_nI, dv_nI, if_true, if_false, if_pos, if_neg, rf0, rf1, rf5, rf6, rf7, rf8, rf9, rf20, rf23, rf24, rf25, rf26, rf29, rf31, rf33, rf34, rf35, rf37, rf38, rf41, rf42, rf43,  c02, w_0 hw, w_2 hw, c11, e6, c1, bI_t, n10, f_X10_cellOf, c2, k_X11_fresh_99]
          exact q1
theorem r_fresh_loop {τ : ST} {f : Nat → Int32} {y : Nat} (hy : y < 6) (hK : KN f ≤ 6) {r : Nat → Int32} (h3 : gA τ 1 3 = f 3) (hr : ∀ k, k < 12 → gA τ 1 (29120 + k) = r k) (ht : ∀ p k, p < 6 → k < 12 → gA τ 1 (tb p y + k) = thS f y p k) {S : Int32} (hS : ∀ k, bt S k = isPl f y k) : ∀ (n i : Nat) (p : Int32), i ≤ KN f → KN f - i < n → (∀ k, bt p k = (decide (k < i) && frP f y r k)) → ∃ p', k_X12_fresh_30 n 0 (nI y) S p (nI i) τ = some (p', sI τ 0 2 (nI 0)) ∧ ∀ k, bt p' k = (decide (k < KN f) && frP f y r k) := by
  have h3 : gA τ 1 3 = nI (KN f) := h3.trans (eK f)
  intro n
  induction n with
  | zero => intros; omega
  | succ n ih =>
    intro i p hi hn hp
    rw [k_X12_fresh_30]
    by_cases e : i = KN f
    · subst e
      refine ⟨p, ?_, hp⟩
      simp (disch := omega) only [↓mI_e, lit, ofN, bsm, nI_add, pk_mul, pk_sub, nI_e, nI_leE, nI_ltE, nI_mI, mI_nI, mI_lt, nlt_mI, mI_le, nle_mI, nI_addm, sh_b, bI_0, bI_1, bI_bI, ckZ_b, ckZ_n0, ckZ_n1, stIe, stJe, stZ_n0, stZ_n1, rm_nI, dv_nI, if_true, if_false, if_pos, if_neg, rf0, rf1, rf5, rf6, rf7, rf8, rf9, rf20, rf23, rf24, rf25, rf26, rf29, rf31, rf33, rf34, rf35, rf37, rf38, rf41, rf42, rf43,  lr1, h3, r_gives]
    · have c2 := r_areLike (a := tb i y) (b := 29120) (by unfold tb; omega) (by omega) τ
      rw [← tl_lk, tl_congr (t := sh (gA τ 1) (tb i y)) (u := sh (gA τ 1) 29120) (t' := thS f y i) (u' := r) (fun k hk => ht i k (by omega) hk) hr] at c2
      have c2 : f_X12_areLike 0 (nI (30 + 12 * (6 * i + y))) (nI 29120) τ = _ := c2
      have por : ∀ x : Int32, x ||| nI 0 = x := up_and
      have n01 : (nI 0 = nI 1) = False := eq_false (by decide)
      cases z1 : isPl f y i
      · obtain ⟨p', q1, q2⟩ := ih (i + 1) p (by omega) (by omega) (fun k => set_step hp (fun k => by unfold frP; rw [z1]; simp) k)
        refine ⟨p', ?_, q2⟩
        simp (disch := omega) only [↓mI_e, lit, ofN, bsm, nI_add, pk_mul, pk_sub, nI_e, nI_leE, nI_ltE, nI_mI, mI_nI, mI_lt, nlt_mI, mI_le, nle_mI, nI_addm, sh_b, bI_0, bI_1, bI_bI, ckZ_b, ckZ_n0, ckZ_n1, stIe, stJe, stZ_n0, stZ_n1, rm_nI, dv_nI, if_true, if_false, if_pos, if_neg, rf0, rf1, rf5, rf6, rf7, rf8, rf9, rf20, rf23, rf24, rf25, rf26, rf29, rf31, rf33, rf34, rf35, rf37, rf38, rf41, rf42, rf43,  lr1, h3, hS, z1, bI_f, n01, Bool.false_eq_true, k_X12_fresh_76, k_X12_fresh_77, por]
        exact q1
      · cases z2 : tl (thS f y i) r 12
        · rw [z2] at c2
          obtain ⟨p', q1, q2⟩ := ih (i + 1) p (by omega) (by omega) (fun k => set_step hp (fun k => by unfold frP; rw [z2]; simp) k)
          refine ⟨p', ?_, q2⟩
          simp (disch := omega) only [↓mI_e, lit, ofN, bsm, nI_add, pk_mul, pk_sub, nI_e, nI_leE, nI_ltE, nI_mI, mI_nI, mI_lt, nlt_mI, mI_le, nle_mI, nI_addm, sh_b, bI_0, bI_1, bI_bI, ckZ_b, ckZ_n0, ckZ_n1, stIe, stJe, stZ_n0, stZ_n1, rm_nI, dv_nI, if_true, if_false, if_pos, if_neg, rf0, rf1, rf5, rf6, rf7, rf8, rf9, rf20, rf23, rf24, rf25, rf26, rf29, rf31, rf33, rf34, rf35, rf37, rf38, rf41, rf42, rf43,  lr1, h3, hS, z1, f_X12_thingOf, c2, bI_f, k_X12_fresh_76, k_X12_fresh_77, por]
          exact q1
        · rw [z2] at c2
          obtain ⟨p', q1, q2⟩ := ih (i + 1) (p ||| (nI 1 <<< (nI i &&& nI 31))) (by omega) (by omega) (fun k => set_step hp (fun k => by rw [bt_ins _ (by omega)]; unfold frP; rw [z1, z2]; simp) k)
          refine ⟨p', ?_, q2⟩
          have n10 : (nI 1 = nI 0) = False := eq_false (by decide)
          simp (disch := omega) only [↓mI_e, lit, ofN, bsm, nI_add, pk_mul, pk_sub, nI_e, nI_leE, nI_ltE, nI_mI, mI_nI, mI_lt, nlt_mI, mI_le, nle_mI, nI_addm, sh_b, bI_0, bI_1, bI_bI, ckZ_b, ckZ_n0, ckZ_n1, stIe, stJe, stZ_n0, stZ_n1, rm_nI, dv_nI, if_true, if_false, if_pos, if_neg, rf0, rf1, rf5, rf6, rf7, rf8, rf9, rf20, rf23, rf24, rf25, rf26, rf29, rf31, rf33, rf34, rf35, rf37, rf38, rf41, rf42, rf43,  lr1, h3, hS, z1, f_X12_thingOf, c2, bI_t, n10, k_X12_fresh_77]
          exact q1
theorem Hd_put (f : Nat → Int32) {to : Nat} (hto : 28 ≤ to) (r : Nat → Int32) : Hd f (put12 f to r) := fun k hk => p12_out _ _ _ (by omega)
theorem sim_fresh (i : Nat) (hi : i + 6 ≤ 3072) : SIM_fresh (Rel i) (Rel (i + 6)) := by
  intro a0 σ τ h
  have hW := h.2.2.2.2.1
  have hS := hW.1
  have hK := hS.1.1
  have hY := hS.1.2.1
  show Sm i _ _
  rcases key_cases hS.1 a0 with hb | ⟨y, hy, rfl⟩
  · simp (disch := omega) only [↓mI_e, lit, ofN, bsm, nI_add, pk_mul, pk_sub, nI_e, nI_leE, nI_ltE, nI_mI, mI_nI, mI_lt, nlt_mI, mI_le, nle_mI, nI_addm, sh_b, bI_0, bI_1, bI_bI, ckZ_b, ckZ_n0, ckZ_n1, stIe, stJe, stZ_n0, stZ_n1, rm_nI, dv_nI, if_true, if_false, if_pos, if_neg, rf0, rf1, rf5, rf6, rf7, rf8, rf9, rf20, rf23, rf24, rf25, rf26, rf29, rf31, rf33, rf34, rf35, rf37, rf38, rf41, rf42, rf43,  f_X11_fresh, f_X12_fresh, c_isKey_no hS hb, r_isKey_no hb, c_refuse, r_refuse]
    exact Sm_0 h _ _
  · have hw := wM_w
    obtain ⟨r, F, G, q1, q2, q3, q4⟩ := c_joinAll wM_w (by omega) (y := y) (by omega) hW (by unfold wM; omega)
    obtain ⟨r', p1, p2, p3⟩ := r_joinsAll (by omega) hW (y := y) (by omega) (τ := τ) rfl
    have eu := IsJ_uniq q4 p3
    have hW1 : RelW (50000 * i) (wv (sA (sA σ 98 F) 99 G) wM) (gA τ 1) (gB τ 2) := by
      rw [wv_sA_out _ (by unfold wM; omega), wv_sA_out _ (by unfold wM; omega)]; exact hW
    obtain ⟨pc, c1, c2⟩ := c_fresh_loop hW1 hy q2 FU 0 (nI 0) (by omega) (by unfold FU; omega) (set_0 _)
    have hd := Hd_put (gA τ 1) (to := 29120) (by omega) r'
    obtain ⟨S, gr, s1, s2, _⟩ := r_placesOf (τ := sA τ 1 (put12 (gA τ 1) 29120 r')) (y := y) (by rw [gA_sA, if_pos rfl]; exact hd.wf hS.1) (by rw [gA_sA, if_pos rfl, hd.Y]; exact hy)
    have s2 : ∀ k, bt S k = isPl (gA τ 1) y k := fun k => by
      rw [s2 k, gA_sA, if_pos rfl]; exact hd.pl hK (by omega)
    obtain ⟨pr, r1, r2⟩ := r_fresh_loop (τ := sA (sA τ 1 (put12 (gA τ 1) 29120 r')) 9 gr) (f := gA τ 1) (y := y) (by omega) hK (r := r') (by
        show put12 (gA τ 1) 29120 r' 3 = _
        exact p12_out _ _ _ (by omega)) (fun k hk => by
        show put12 (gA τ 1) 29120 r' (29120 + k) = _
        exact p12_in _ _ _ hk) (fun p k hp hk => by
        show put12 (gA τ 1) 29120 r' (tb p y + k) = _
        exact p12_out _ _ _ (by unfold tb; omega)) s2 FU 0 (nI 0) (by omega) (by unfold FU; omega) (set_0 _)
    have ep : pc = pr := bt_ext (fun k _ => by
      rw [c2 k, r2 k]
      congr 1
      unfold frP
      rw [tl_congr (fun _ _ => rfl) eu])
    subst ep
    have c11 : LC.2.1 0 11 = 97 := rfl
    have e1 := c_kset hw hS
    simp (disch := omega) only [↓mI_e, lit, ofN, bsm, nI_add, pk_mul, pk_sub, nI_e, nI_leE, nI_ltE, nI_mI, mI_nI, mI_lt, nlt_mI, mI_le, nle_mI, nI_addm, sh_b, bI_0, bI_1, bI_bI, ckZ_b, ckZ_n0, ckZ_n1, stIe, stJe, stZ_n0, stZ_n1, rm_nI, dv_nI, if_true, if_false, if_pos, if_neg, rf0, rf1, rf5, rf6, rf7, rf8, rf9, rf20, rf23, rf24, rf25, rf26, rf29, rf31, rf33, rf34, rf35, rf37, rf38, rf41, rf42, rf43,  f_X11_fresh, f_X12_fresh, c_isKey_yes hS hy, r_isKey_y hS.1 hy, c02, w_0 hw, c11, e1, q1, p1, s1, c1, r1]
    refine Sm_q h (((Sq.rf σ).sA _ rfl).sA _ rfl) (((Sc.rf τ).sA _ rfl).sA _ rfl) (fun k hk => ?_) _ _
    show put12 (gA τ 1) 29120 r' k = gA τ 1 k
    exact p12_out _ _ _ (by omega)
