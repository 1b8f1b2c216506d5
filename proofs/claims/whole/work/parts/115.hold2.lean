/-! HOLDERS AND SAFE -/
def hsN (f : Nat → Int32) (a y v n : Nat) : Bool := decide (∃ d, d < n ∧ (std (sh f a) d = true ∧ f (vb y (d / 30) (d % 30 + 1)) = nI v))
def hsD (f : Nat → Int32) (a y v : Nat) : Bool := hsN f a y v 180
theorem hsN_iff (f : Nat → Int32) (a y v n : Nat) : hsN f a y v n = true ↔ ∃ d, d < n ∧ (std (sh f a) d = true ∧ f (vb y (d / 30) (d % 30 + 1)) = nI v) := by
  unfold hsN
  rw [decide_eq_true_eq]
theorem hsD_iff (f : Nat → Int32) (a y v : Nat) : hsD f a y v = true ↔ ∃ d, d < 180 ∧ (std (sh f a) d = true ∧ f (vb y (d / 30) (d % 30 + 1)) = nI v) := hsN_iff f a y v 180
theorem r_hasIt_loop {τ : ST} {N v : Nat} (hN : N ≤ 180) (h27 : gI τ 0 27 = nI N) : ∀ (n j : Nat), j ≤ N → N - j < n → (∀ i, i < j → ¬ gA τ 10 i = nI v) → k_X12_hasIt_9 n 0 (nI v) (nI j) τ = some (bI (decide (∃ i, i < N ∧ gA τ 10 i = nI v)), τ) := by
  intro n
  induction n with
  | zero => intros; omega
  | succ n ih =>
    intro j hj hn h
    rw [k_X12_hasIt_9]
    by_cases e : j = N
    · subst e
      rw [decide_eq_false (fun ⟨i, q1, q2⟩ => h i q1 q2), bI_f]
      simp (disch := omega) only [↓mI_e, lit, ofN, bsm, nI_add, pk_mul, pk_sub, nI_e, nI_leE, nI_ltE, nI_mI, mI_nI, mI_lt, nlt_mI, mI_le, nle_mI, nI_addm, sh_b, bI_0, bI_1, bI_bI, ckZ_b, ckZ_n0, ckZ_n1, stIe, stJe, stZ_n0, stZ_n1, rm_nI, dv_nI, if_true, if_false, if_pos, if_neg, rf0, rf1, rf5, rf6, rf7, rf8, rf9, rf20, rf23, rf24, rf25, rf26, rf29, rf31, rf33, rf34, rf35, rf37, rf38, rf41, rf42, rf43,  h27]
    · by_cases z : gA τ 10 j = nI v
      · rw [decide_eq_true (⟨j, by omega, z⟩ : ∃ i, i < N ∧ gA τ 10 i = nI v), bI_t]
        simp (disch := omega) only [↓mI_e, lit, ofN, bsm, nI_add, pk_mul, pk_sub, nI_e, nI_leE, nI_ltE, nI_mI, mI_nI, mI_lt, nlt_mI, mI_le, nle_mI, nI_addm, sh_b, bI_0, bI_1, bI_bI, ckZ_b, ckZ_n0, ckZ_n1, stIe, stJe, stZ_n0, stZ_n1, rm_nI, dv_nI, if_true, if_false, if_pos, if_neg, rf0, rf1, rf5, rf6, rf7, rf8, rf9, rf20, rf23, rf24, rf25, rf26, rf29, rf31, rf33, rf34, rf35, rf37, rf38, rf41, rf42, rf43,  h27, lr10, z]
      · simp (disch := omega) only [↓mI_e, lit, ofN, bsm, nI_add, pk_mul, pk_sub, nI_e, nI_leE, nI_ltE, nI_mI, mI_nI, mI_lt, nlt_mI, mI_le, nle_mI, nI_addm, sh_b, bI_0, bI_1, bI_bI, ckZ_b, ckZ_n0, ckZ_n1, stIe, stJe, stZ_n0, stZ_n1, rm_nI, dv_nI, if_true, if_false, if_pos, if_neg, rf0, rf1, rf5, rf6, rf7, rf8, rf9, rf20, rf23, rf24, rf25, rf26, rf29, rf31, rf33, rf34, rf35, rf37, rf38, rf41, rf42, rf43,  h27, lr10, z]
        exact ih (j + 1) (by omega) (by omega) (fun i hi => by
          by_cases z2 : i = j
          · rw [z2]; exact z
          · exact h i (by omega))
theorem r_hasIt {a y v : Nat} (ha : a + 12 ≤ 29600) (hy : y < 6) {τ : ST} {f : Nat → Int32} (hf : gA τ 1 = f) (hs : sm f y = false) : ∃ τ1, f_X12_hasIt 0 (nI a) (nI y) (nI v) τ = some (bI (hsD f a y v), τ1) ∧ L3 τ τ1 := by
  obtain ⟨τ1, l1, l2, l3, l4⟩ := r_laysTwins ha hy τ
  rw [hf] at l3 l4
  have hN : twN (sm f y) (sh f a) = cnt (std (sh f a)) 180 := by unfold twN; rw [hs]; rfl
  rw [hN] at l3
  have l5 := (l4 hs).2.1
  have q := r_hasIt_loop (v := v) (cnt_le _ _) l3 FU 0 (by omega) (by unfold FU; have := cnt_le (std (sh f a)) 180; omega) (fun i hi => by omega)
  have e : decide (∃ i, i < cnt (std (sh f a)) 180 ∧ gA τ1 10 i = nI v) = hsD f a y v := by
    unfold hsD hsN
    refine decide_eq_decide.mpr ⟨fun ⟨i, h1, h2⟩ => ?_, fun ⟨d, h1, h2, h3⟩ => ?_⟩
    · obtain ⟨d, k1, k2, k3⟩ := cnt_onto 180 i h1
      have k4 := l5 d k1 k2
      rw [Nat.zero_add, k3] at k4
      exact ⟨d, k1, k2, k4.symm.trans h2⟩
    · have k4 := l5 d h1 h2
      rw [Nat.zero_add] at k4
      exact ⟨_, cnt_lt2 h1 h2, k4.trans h3⟩
  rw [e] at q
  refine ⟨τ1, ?_, l2⟩
  simp (disch := omega) only [↓mI_e, lit, ofN, bsm, nI_add, pk_mul, pk_sub, nI_e, nI_leE, nI_ltE, nI_mI, mI_nI, mI_lt, nlt_mI, mI_le, nle_mI, nI_addm, sh_b, bI_0, bI_1, bI_bI, ckZ_b, ckZ_n0, ckZ_n1, stIe, stJe, stZ_n0, stZ_n1, rm_nI, dv_nI, if_true, if_false, if_pos, if_neg, rf0, rf1, rf5, rf6, rf7, rf8, rf9, rf20, rf23, rf24, rf25, rf26, rf29, rf31, rf33, rf34, rf35, rf37, rf38, rf41, rf42, rf43,  f_X12_hasIt, l1]
  exact q
def hfq (f : Nat → Int32) (y v p q : Nat) : Bool := hsD f (tb p y) y v || decide (∃ r, r < q ∧ f (hb p r y) = nI 1 ∧ hsD f (hb p r y + 1) y v = true)
theorem hfq_0 (f : Nat → Int32) (y v p : Nat) : hfq f y v p 0 = hsD f (tb p y) y v := by
  unfold hfq
  rw [decide_eq_false (fun ⟨r, h, _⟩ => by omega), Bool.or_false]
theorem hfq_s (f : Nat → Int32) (y v p q : Nat) : hfq f y v p (q + 1) = (hfq f y v p q || (decide (f (hb p q y) = nI 1) && hsD f (hb p q y + 1) y v)) := by
  unfold hfq
  rw [Bool.or_assoc]
  congr 1
  rw [Bool.eq_iff_iff, decide_eq_true_eq, Bool.or_eq_true, decide_eq_true_eq, Bool.and_eq_true, decide_eq_true_eq]
  constructor
  · rintro ⟨r, h1, h2, h3⟩
    by_cases z : r = q
    · subst z; exact Or.inr ⟨h2, h3⟩
    · exact Or.inl ⟨r, by omega, h2, h3⟩
  · rintro (⟨r, h1, h2, h3⟩ | ⟨h2, h3⟩)
    · exact ⟨r, by omega, h2, h3⟩
    · exact ⟨q, by omega, h2, h3⟩
theorem hfq_mono {f : Nat → Int32} {y v p q K : Nat} (h : q ≤ K) (hq : hfq f y v p q = true) : hfq f y v p K = true := by
  unfold hfq at hq ⊢
  rw [Bool.or_eq_true, decide_eq_true_eq] at hq ⊢
  rcases hq with hq | ⟨r, h1, h2⟩
  · exact Or.inl hq
  · exact Or.inr ⟨r, by omega, h2⟩
theorem L3_1 {τ τ1 : ST} (h : L3 τ τ1) {f : Nat → Int32} (hf : gA τ 1 = f) : gA τ1 1 = f := (h.2.2.1 1 (by decide) (by decide) (by decide)).trans hf
theorem r_hold_34 {f : Nat → Int32} {y v p : Nat} (hK : KN f ≤ 6) (hy : y < 6) (hp : p < 6) (hs : sm f y = false) (S : Int32) (rec5 : Nat → Int32 → Int32 → Int32 → Int32 → ST → Option (Int32 × ST)) : ∀ (n q : Nat) (τ : ST), q ≤ KN f → KN f - q < n → gA τ 1 = f → ∃ τ1, k_X12_holdersOf_34 rec5 n 0 (nI y) (nI v) S (nI p) (bI (hfq f y v p q)) (nI q) τ = k_X12_holdersOf_101 rec5 0 (nI y) (nI v) S (nI p) (bI (hfq f y v p (KN f))) τ1 ∧ L3 τ τ1 := by
  intro n
  induction n with
  | zero => intros; omega
  | succ n ih =>
    intro q τ hq hn hf
    have e3 : gA τ 1 3 = nI (KN f) := by rw [hf]; exact eK f
    have n10 : (nI 1 = nI 0) = False := eq_false (by decide)
    rw [k_X12_holdersOf_34]
    by_cases e : q = KN f
    · subst e
      refine ⟨τ, ?_, L3.rf τ⟩
      simp (disch := omega) only [↓mI_e, lit, ofN, bsm, nI_add, pk_mul, pk_sub, nI_e, nI_leE, nI_ltE, nI_mI, mI_nI, mI_lt, nlt_mI, mI_le, nle_mI, nI_addm, sh_b, bI_0, bI_1, bI_bI, ckZ_b, ckZ_n0, ckZ_n1, stIe, stJe, stZ_n0, stZ_n1, rm_nI, dv_nI, if_true, if_false, if_pos, if_neg, rf0, rf1, rf5, rf6, rf7, rf8, rf9, rf20, rf23, rf24, rf25, rf26, rf29, rf31, rf33, rf34, rf35, rf37, rf38, rf41, rf42, rf43,  lr1, e3]
    · cases zf : hfq f y v p q
      · have hs2 := hfq_s f y v p q
        rw [zf, Bool.false_or] at hs2
        have ehb : 470 + 13 * ((6 * p + q) * 6 + y) = hb p q y := rfl
        have hlb : hb p q y < 3290 := by unfold hb; omega
        by_cases z1 : f (hb p q y) = nI 1
        · obtain ⟨τ1, h1, h2⟩ := r_hasIt (a := hb p q y + 1) (y := y) (v := v) (by omega) hy hf hs
          rw [decide_eq_true z1, Bool.true_and] at hs2
          obtain ⟨τ2, q1, q2⟩ := ih (q + 1) τ1 (by omega) (by omega) (L3_1 h2 hf)
          rw [hs2] at q1
          refine ⟨τ2, ?_, h2.trans q2⟩
          have z1' : gA τ 1 (hb p q y) = nI 1 := by rw [hf]; exact z1
          cases z2 : hsD f (hb p q y + 1) y v
          · rw [z2] at h1 q1
            simp (disch := omega) only [↓mI_e, lit, ofN, bsm, nI_add, pk_mul, pk_sub, nI_e, nI_leE, nI_ltE, nI_mI, mI_nI, mI_lt, nlt_mI, mI_le, nle_mI, nI_addm, sh_b, bI_0, bI_1, bI_bI, ckZ_b, ckZ_n0, ckZ_n1, stIe, stJe, stZ_n0, stZ_n1, rm_nI, dv_nI, if_true, if_false, if_pos, if_neg, rf0, rf1, rf5, rf6, rf7, rf8, rf9, rf20, rf23, rf24, rf25, rf26, rf29, rf31, rf33, rf34, rf35, rf37, rf38, rf41, rf42, rf43,  lr1, e3, bI_f, f_X12_hintOf, ehb, z1', h1, k_X12_holdersOf_92, k_X12_holdersOf_93]
            exact q1
          · rw [z2] at h1 q1
            simp (disch := omega) only [↓mI_e, lit, ofN, bsm, nI_add, pk_mul, pk_sub, nI_e, nI_leE, nI_ltE, nI_mI, mI_nI, mI_lt, nlt_mI, mI_le, nle_mI, nI_addm, sh_b, bI_0, bI_1, bI_bI, ckZ_b, ckZ_n0, ckZ_n1, stIe, stJe, stZ_n0, stZ_n1, rm_nI, dv_nI, if_true, if_false, if_pos, if_neg, rf0, rf1, rf5, rf6, rf7, rf8, rf9, rf20, rf23, rf24, rf25, rf26, rf29, rf31, rf33, rf34, rf35, rf37, rf38, rf41, rf42, rf43,  lr1, e3, bI_f, bI_t, n10, f_X12_hintOf, ehb, z1', h1, k_X12_holdersOf_93]
            exact q1
        · rw [decide_eq_false z1, Bool.false_and] at hs2
          obtain ⟨τ2, q1, q2⟩ := ih (q + 1) τ (by omega) (by omega) hf
          rw [hs2] at q1
          refine ⟨τ2, ?_, q2⟩
          have z1' : ¬ gA τ 1 (hb p q y) = nI 1 := by rw [hf]; exact z1
          simp (disch := omega) only [↓mI_e, lit, ofN, bsm, nI_add, pk_mul, pk_sub, nI_e, nI_leE, nI_ltE, nI_mI, mI_nI, mI_lt, nlt_mI, mI_le, nle_mI, nI_addm, sh_b, bI_0, bI_1, bI_bI, ckZ_b, ckZ_n0, ckZ_n1, stIe, stJe, stZ_n0, stZ_n1, rm_nI, dv_nI, if_true, if_false, if_pos, if_neg, rf0, rf1, rf5, rf6, rf7, rf8, rf9, rf20, rf23, rf24, rf25, rf26, rf29, rf31, rf33, rf34, rf35, rf37, rf38, rf41, rf42, rf43,  lr1, e3, bI_f, f_X12_hintOf, ehb, z1', k_X12_holdersOf_92, k_X12_holdersOf_93]
          exact q1
      · rw [hfq_mono hq zf]
        refine ⟨τ, ?_, L3.rf τ⟩
        simp (disch := omega) only [↓mI_e, lit, ofN, bsm, nI_add, pk_mul, pk_sub, nI_e, nI_leE, nI_ltE, nI_mI, mI_nI, mI_lt, nlt_mI, mI_le, nle_mI, nI_addm, sh_b, bI_0, bI_1, bI_bI, ckZ_b, ckZ_n0, ckZ_n1, stIe, stJe, stZ_n0, stZ_n1, rm_nI, dv_nI, if_true, if_false, if_pos, if_neg, rf0, rf1, rf5, rf6, rf7, rf8, rf9, rf20, rf23, rf24, rf25, rf26, rf29, rf31, rf33, rf34, rf35, rf37, rf38, rf41, rf42, rf43,  lr1, e3, bI_t, n10]
theorem r_hold_5 {f : Nat → Int32} {y v : Nat} (hK : KN f ≤ 6) (hy : y < 6) (hs : sm f y = false) : ∀ (n p : Nat) (S : Int32) (τ : ST), p ≤ KN f → KN f - p < n → gA τ 1 = f → (∀ k, bt S k = (decide (k < p) && hfq f y v k (KN f))) → ∃ S' τ1, k_X12_holdersOf_5 n 0 (nI y) (nI v) S (nI p) τ = some (S', τ1) ∧ (∀ k, bt S' k = (decide (k < KN f) && hfq f y v k (KN f))) ∧ L3 τ τ1 := by
  obtain ⟨F, hF, hF2⟩ : ∃ F, FU = F ∧ 5000 < F := ⟨FU, rfl, by unfold FU; omega⟩
  intro n
  induction n with
  | zero => intros; omega
  | succ n ih =>
    intro p S τ hp hn hf hS
    have e3 : gA τ 1 3 = nI (KN f) := by rw [hf]; exact eK f
    have n10 : (nI 1 = nI 0) = False := eq_false (by decide)
    rw [k_X12_holdersOf_5, hF]
    by_cases e : p = KN f
    · subst e
      refine ⟨S, τ, ?_, hS, L3.rf τ⟩
      simp (disch := omega) only [↓mI_e, lit, ofN, bsm, nI_add, pk_mul, pk_sub, nI_e, nI_leE, nI_ltE, nI_mI, mI_nI, mI_lt, nlt_mI, mI_le, nle_mI, nI_addm, sh_b, bI_0, bI_1, bI_bI, ckZ_b, ckZ_n0, ckZ_n1, stIe, stJe, stZ_n0, stZ_n1, rm_nI, dv_nI, if_true, if_false, if_pos, if_neg, rf0, rf1, rf5, rf6, rf7, rf8, rf9, rf20, rf23, rf24, rf25, rf26, rf29, rf31, rf33, rf34, rf35, rf37, rf38, rf41, rf42, rf43,  lr1, e3]
    · obtain ⟨τ1, h1, h2⟩ := r_hasIt (a := tb p y) (y := y) (v := v) (by unfold tb; omega) hy hf hs
      have h1 : f_X12_hasIt 0 (nI (30 + 12 * (6 * p + y))) (nI y) (nI v) τ = _ := h1
      rw [← hfq_0] at h1
      obtain ⟨τ2, q1, q2⟩ := r_hold_34 (v := v) hK hy (show p < 6 by omega) hs S (k_X12_holdersOf_5 n) F 0 τ1 (by omega) (by omega) (L3_1 h2 hf)
      have q12 := h2.trans q2
      cases z : hfq f y v p (KN f)
      · rw [z] at q1
        obtain ⟨S', τ3, q3, q4, q5⟩ := ih (p + 1) S τ2 (by omega) (by omega) (L3_1 q12 hf) (fun k => set_step hS (fun k => by rw [z]; simp) k)
        refine ⟨S', τ3, ?_, q4, q12.trans q5⟩
        have por : ∀ x : Int32, x ||| nI 0 = x := up_and
        simp (disch := omega) only [↓mI_e, lit, ofN, bsm, nI_add, pk_mul, pk_sub, nI_e, nI_leE, nI_ltE, nI_mI, mI_nI, mI_lt, nlt_mI, mI_le, nle_mI, nI_addm, sh_b, bI_0, bI_1, bI_bI, ckZ_b, ckZ_n0, ckZ_n1, stIe, stJe, stZ_n0, stZ_n1, rm_nI, dv_nI, if_true, if_false, if_pos, if_neg, rf0, rf1, rf5, rf6, rf7, rf8, rf9, rf20, rf23, rf24, rf25, rf26, rf29, rf31, rf33, rf34, rf35, rf37, rf38, rf41, rf42, rf43,  lr1, e3, f_X12_thingOf, h1, q1, k_X12_holdersOf_101, bI_f, k_X12_holdersOf_115, por]
        exact q3
      · rw [z] at q1
        obtain ⟨S', τ3, q3, q4, q5⟩ := ih (p + 1) (S ||| (nI 1 <<< (nI p &&& nI 31))) τ2 (by omega) (by omega) (L3_1 q12 hf) (fun k => set_step hS (fun k => by rw [bt_ins _ (by omega), z]; simp) k)
        refine ⟨S', τ3, ?_, q4, q12.trans q5⟩
        simp (disch := omega) only [↓mI_e, lit, ofN, bsm, nI_add, pk_mul, pk_sub, nI_e, nI_leE, nI_ltE, nI_mI, mI_nI, mI_lt, nlt_mI, mI_le, nle_mI, nI_addm, sh_b, bI_0, bI_1, bI_bI, ckZ_b, ckZ_n0, ckZ_n1, stIe, stJe, stZ_n0, stZ_n1, rm_nI, dv_nI, if_true, if_false, if_pos, if_neg, rf0, rf1, rf5, rf6, rf7, rf8, rf9, rf20, rf23, rf24, rf25, rf26, rf29, rf31, rf33, rf34, rf35, rf37, rf38, rf41, rf42, rf43,  lr1, e3, f_X12_thingOf, h1, q1, k_X12_holdersOf_101, bI_t, n10, k_X12_holdersOf_115]
        exact q3
/-- the class's bits, in the reference's words -/
theorem held_bits {B : Nat} {σ : ST} {w : Nat} {g : Nat → Int64} {f : Nat → Int32} (h : RelW B (wv σ w) f g) {p y k K : Nat} (hp : p < 6) (hy : y < 6) (hk : k < 6) (hK : K ≤ 6) (j : Nat) : bt (hbs (gA σ (w + 16)) (gA σ (w + 19)) p y k K) j = true ↔ (sm f y = false ∧ (bt (f (tb p y + k)) j = true ∨ ∃ q, q < K ∧ bt (f (hb p q y + 1 + k)) j = true)) := by
  rw [bt_hbs]
  have cA := wv_CR (w := w) (by decide) (h.2.2.2.2.2.1 p y hp hy).1 k hk
  have cB := fun q (hq : q < 6) => wv_CR (w := w) (by decide) (((h.2.2.2.2.2.2.1 p q hp hq).2 y hy).1) k hk
  cases hs : sm f y
  · rw [hs] at cA cB
    simp only [Bool.false_eq_true, if_false] at cA cB
    have a1 : gA σ (w + 16) ((p * 6 + y) * 6 + k) = f (tb p y + k) := cA.1
    have b1 : ∀ q, q < 6 → gA σ (w + 19) (((p * 6 + q) * 6 + y) * 6 + k) = f (hb p q y + 1 + k) := fun q hq => (cB q hq).1
    rw [a1]
    constructor
    · rintro (h1 | ⟨q, h1, h2⟩)
      · exact ⟨rfl, Or.inl h1⟩
      · rw [b1 q (by omega)] at h2; exact ⟨rfl, Or.inr ⟨q, h1, h2⟩⟩
    · rintro ⟨_, h1 | ⟨q, h1, h2⟩⟩
      · exact Or.inl h1
      · exact Or.inr ⟨q, h1, by rw [b1 q (by omega)]; exact h2⟩
  · rw [hs] at cA cB
    simp only [if_true] at cA cB
    have a1 : gA σ (w + 16) ((p * 6 + y) * 6 + k) = nI 0 := cA.1
    have b1 : ∀ q, q < 6 → gA σ (w + 19) (((p * 6 + q) * 6 + y) * 6 + k) = nI 0 := fun q hq => (cB q hq).1
    rw [a1, bt_n0]
    constructor
    · rintro (h1 | ⟨q, h1, h2⟩)
      · exact absurd h1 (by decide)
      · rw [b1 q (by omega), bt_n0] at h2; exact absurd h2 (by decide)
    · rintro ⟨h1, _⟩; exact absurd h1 (by decide)
theorem thing_hi {B : Nat} {s : ST} {g : Nat → Int64} {f : Nat → Int32} (h : RelW B s f g) {y k : Nat} (hy : y < 6) (hk : k < 6) {J : Nat → Int32} (hs : sm f y = false) (ht : TI (sm f y) B (fun k => gv f k y) J) {j : Nat} (hj : bt (J k) j = true) : j < gv f k y ∧ gv f k y ≤ 30 := by
  have h1 := ht k hk
  rw [hs] at h1
  simp only [Bool.false_eq_true, if_false] at h1
  have h2 := h1.2 j hj
  exact ⟨by omega, gvl h hy k hk⟩
theorem held_lt {B : Nat} {σ : ST} {w : Nat} {g : Nat → Int64} {f : Nat → Int32} (h : RelW B (wv σ w) f g) {p y k K : Nat} (hp : p < 6) (hy : y < 6) (hk : k < 6) (hK : K ≤ 6) {j : Nat} (hj : bt (hbs (gA σ (w + 16)) (gA σ (w + 19)) p y k K) j = true) : j < gv f k y ∧ gv f k y ≤ 30 := by
  obtain ⟨hs, h1⟩ := (held_bits h hp hy hk hK j).mp hj
  rcases h1 with h1 | ⟨q, hq, h1⟩
  · exact thing_hi h hy hk hs (h.2.2.2.2.2.1 p y hp hy).2 h1
  · exact thing_hi h hy hk hs (((h.2.2.2.2.2.2.1 p q hp (by omega)).2 y hy).2.1) h1
def hPp (σ : ST) (w y K p e : Nat) : Bool := bt (hbs (gA σ (w + 16)) (gA σ (w + 19)) p y (e / 30) K) (e % 30)
/-- who holds what, by value: the class's table -/
theorem c_hold {B : Nat} {σ : ST} {w : Nat} (hw : isW w) (hr : 101 < w ∨ w + 28 ≤ 101) {g : Nat → Int64} {f : Nat → Int32} (h : RelW B (wv σ w) f g) {y : Nat} (hy : y < 6) : ∃ T, f_X10_noteHolders w (nI y) 101 σ = some (sA σ 101 T) ∧ ∀ c, c ≤ 1000 → ∀ j, bt (T c) j = (decide (j < KN f) && (!sm f y && hfq f y c j (KN f))) := by
  have hK := h.1.1.1
  have e6 : gI σ (w + 1) 6 = nI (KN f) := h.1.2.1.1.trans (eK f)
  have hval : ∀ p, p < KN f → ∀ e, e < 180 → hPp σ w y (KN f) p e = true → gA σ (w + 27) (y * 180 + e) = f (vb y (e / 30) (e % 30 + 1)) ∧ vN (f (vb y (e / 30) (e % 30 + 1))) ≤ 1000 := fun p hp e he hpe => by
    obtain ⟨h1, _⟩ := held_lt h (show p < 6 by omega) hy (show e / 30 < 6 by omega) hK hpe
    have h3 := h.2.2.2.2.1 y (e / 30) (e % 30) hy (by omega) h1
    rw [show y * 180 + e / 30 * 30 + e % 30 = y * 180 + e by omega, wv_A σ w (by decide)] at h3
    exact h3
  have c0 : ∀ p, p < KN f → ∀ k, k < 6 → ∀ j, 30 ≤ j → bt (hbs (gA σ (w + 16)) (gA σ (w + 19)) p y k (KN f)) j = false := fun p hp k hk j hj => by
    cases q : bt (hbs (gA σ (w + 16)) (gA σ (w + 19)) p y k (KN f)) j
    · rfl
    · have := held_lt h (show p < 6 by omega) hy hk hK q; omega
  have c1 : ∀ p, p < KN f → ∀ k, KN f ≤ k → k < 6 → ∀ j, bt (hbs (gA σ (w + 16)) (gA σ (w + 19)) p y k (KN f)) j = false := fun p hp k hk hk6 j => by
    cases q : bt (hbs (gA σ (w + 16)) (gA σ (w + 19)) p y k (KN f)) j
    · rfl
    · have h1 := held_lt h (show p < 6 by omega) hy hk6 hK q
      have h2 := (h.2.2.2.1.2 k y hk6 hy).2 (Or.inl hk)
      omega
  obtain ⟨T, q1, q2⟩ := c_note hw hy hK e6 c0 c1 (P := hPp σ w y (KN f)) (fun p _ e _ => rfl) (fun p hp e he hpe => ⟨_, (hval p hp e he hpe).2, by rw [nI_vN]; exact (hval p hp e he hpe).1⟩) hr
  refine ⟨T, q1, fun c hc j => ?_⟩
  rw [Bool.eq_iff_iff, q2 c hc j, Bool.and_eq_true, decide_eq_true_eq, Bool.and_eq_true]
  constructor
  · rintro (⟨h1, e, h2, h3, h4⟩ | ⟨h1, e, h2, _⟩)
    · refine ⟨h1, ?_⟩
      have hv := (hval j h1 e h2 h3).1.symm.trans h4
      obtain ⟨hs, h5⟩ := (held_bits h (show j < 6 by omega) hy (show e / 30 < 6 by omega) hK (e % 30)).mp h3
      refine ⟨by rw [hs]; rfl, ?_⟩
      unfold hfq
      rw [Bool.or_eq_true, decide_eq_true_eq]
      rcases h5 with h5 | ⟨q, hq, h5⟩
      · exact Or.inl ((hsD_iff _ _ _ _).mpr ⟨e, h2, h5, hv⟩)
      · refine Or.inr ⟨q, hq, ?_, (hsD_iff _ _ _ _).mpr ⟨e, h2, h5, hv⟩⟩
        rcases ((h.2.2.2.2.2.2.1 j q (by omega) (by omega)).2 y hy).2.2 with ⟨_, z⟩ | ⟨z, _⟩
        · rw [z (e / 30) (by omega), bt_n0] at h5; exact absurd h5 (by decide)
        · exact z
    · omega
  · rintro ⟨h1, hs, h2⟩
    have hs : sm f y = false := by revert hs; cases sm f y <;> simp
    refine Or.inl ⟨h1, ?_⟩
    unfold hfq at h2
    rw [Bool.or_eq_true, decide_eq_true_eq] at h2
    have fin : ∀ e, e < 180 → hPp σ w y (KN f) j e = true → f (vb y (e / 30) (e % 30 + 1)) = nI c → ∃ e, e < 180 ∧ hPp σ w y (KN f) j e = true ∧ gA σ (w + 27) (y * 180 + e) = nI c := fun e he hpe hv => ⟨e, he, hpe, ((hval j h1 e he hpe).1).trans hv⟩
    rcases h2 with h2 | ⟨q, hq, h3, h4⟩
    · obtain ⟨d, k1, k2, k3⟩ := (hsD_iff _ _ _ _).mp h2
      exact fin d k1 ((held_bits h (show j < 6 by omega) hy (show d / 30 < 6 by omega) hK (d % 30)).mpr ⟨hs, Or.inl k2⟩) k3
    · obtain ⟨d, k1, k2, k3⟩ := (hsD_iff _ _ _ _).mp h4
      exact fin d k1 ((held_bits h (show j < 6 by omega) hy (show d / 30 < 6 by omega) hK (d % 30)).mpr ⟨hs, Or.inr ⟨q, hq, k2⟩⟩) k3
theorem both_hold {i : Nat} {σ τ : ST} (h : Rel i σ τ) {y v : Nat} (hy : y < 6) (hv : v ≤ 1000) (hs : sm (gA τ 1) y = false) : ∃ x σ1 τ1, f_X11_holderSet 0 (nI y) (nI v) σ = some (x, σ1) ∧ f_X12_holdersOf 0 (nI y) (nI v) τ = some (x, τ1) ∧ Sq noE [14] σ σ1 ∧ L3 τ τ1 := by
  have hW := h.2.2.2.2.1
  have hK := hW.1.1.1
  obtain ⟨T, q1, q2⟩ := c_hold wM_w (by unfold wM; omega) hW hy
  obtain ⟨S, τ1, r1, r2, r3⟩ := r_hold_5 (f := gA τ 1) (v := v) hK hy hs FU 0 (nI 0) τ (by omega) (by unfold FU; omega) rfl (set_0 _)
  have e : T v = S := bt_ext (fun k _ => by rw [q2 v hv k, r2 k, hs, Bool.not_false, Bool.true_and])
  have c13 : LC.2.1 0 13 = 101 := rfl
  have l1 := la (Λ := LC) (σ := sA σ 101 T) (y := 101) (k := v) 1001 rfl (by omega) (by decide)
  rw [gA_sA, if_pos rfl, e] at l1
  refine ⟨S, sA σ 101 T, τ1, ?_, r1, (Sq.rf σ).sA _ rfl, r3⟩
  simp (disch := omega) only [↓mI_e, lit, ofN, bsm, nI_add, pk_mul, pk_sub, nI_e, nI_leE, nI_ltE, nI_mI, mI_nI, mI_lt, nlt_mI, mI_le, nle_mI, nI_addm, sh_b, bI_0, bI_1, bI_bI, ckZ_b, ckZ_n0, ckZ_n1, stIe, stJe, stZ_n0, stZ_n1, rm_nI, dv_nI, if_true, if_false, if_pos, if_neg, rf0, rf1, rf5, rf6, rf7, rf8, rf9, rf20, rf23, rf24, rf25, rf26, rf29, rf31, rf33, rf34, rf35, rf37, rf38, rf41, rf42, rf43,  f_X11_holderSet, c02, c13, q1, l1]
theorem pc_0 (x : Int32) : (nI (pcN (vN x)) = nI 0) = (x = nI 0) := by
  have h1 := pcN_le (vN x) 32 (vN_lt x)
  rw [nI_e (by omega) (by omega)]
  apply propext
  constructor
  · intro q
    apply vN_inj
    by_cases z : vN x = 0
    · rw [z]; rfl
    · have := pcN_low (vN x) z; omega
  · intro q
    rw [q]
    exact pcN_0
theorem sim_holders (i : Nat) : SIM_holders (Rel i) (Rel (i + 6)) := by
  intro a0 a1 σ τ h
  have hW := h.2.2.2.2.1
  have hS := hW.1
  have hY := hS.1.2.1
  have hw := wM_w
  show Sm i _ _
  rcases key_cases hS.1 a0 with hb | ⟨y, hy, rfl⟩
  · simp (disch := omega) only [↓mI_e, lit, ofN, bsm, nI_add, pk_mul, pk_sub, nI_e, nI_leE, nI_ltE, nI_mI, mI_nI, mI_lt, nlt_mI, mI_le, nle_mI, nI_addm, sh_b, bI_0, bI_1, bI_bI, ckZ_b, ckZ_n0, ckZ_n1, stIe, stJe, stZ_n0, stZ_n1, rm_nI, dv_nI, if_true, if_false, if_pos, if_neg, rf0, rf1, rf5, rf6, rf7, rf8, rf9, rf20, rf23, rf24, rf25, rf26, rf29, rf31, rf33, rf34, rf35, rf37, rf38, rf41, rf42, rf43,  f_X11_holders, k_X11_holders_19, f_X12_holders, k_X12_holders_20, c_isKey_no hS hb, r_isKey_no hb, c_refuse, r_refuse]
    exact Sm_0 h _ _
  · rcases num_cases a1 0 1000 (by omega) (by omega) with hb | ⟨v, _, hv, rfl⟩
    · have hf := r_isFrom_n (v := a1) (a := 0) (b := 1000) (by omega) (by omega) (by rcases hb with hb | hb; exact Or.inl hb; exact Or.inr (by omega)) τ
      by_cases z : a1 < nI 0
      · simp (disch := omega) only [↓mI_e, lit, ofN, bsm, nI_add, pk_mul, pk_sub, nI_e, nI_leE, nI_ltE, nI_mI, mI_nI, mI_lt, nlt_mI, mI_le, nle_mI, nI_addm, sh_b, bI_0, bI_1, bI_bI, ckZ_b, ckZ_n0, ckZ_n1, stIe, stJe, stZ_n0, stZ_n1, rm_nI, dv_nI, if_true, if_false, if_pos, if_neg, rf0, rf1, rf5, rf6, rf7, rf8, rf9, rf20, rf23, rf24, rf25, rf26, rf29, rf31, rf33, rf34, rf35, rf37, rf38, rf41, rf42, rf43,  f_X11_holders, k_X11_holders_19, f_X12_holders, k_X12_holders_20, c_isKey_yes hS hy, r_isKey_y hS.1 hy, litL, hf, z, c_refuse, r_refuse]
        exact Sm_0 h _ _
      · have z2 : ¬ a1 ≤ nI 1000 := fun q => by
          rw [Int32.le_iff_toInt_le] at q
          rw [Int32.lt_iff_toInt_lt] at z
          have e1 : (nI 1000).toInt = 1000 := rfl
          have e0 : (nI 0).toInt = 0 := rfl
          omega
        simp (disch := omega) only [↓mI_e, lit, ofN, bsm, nI_add, pk_mul, pk_sub, nI_e, nI_leE, nI_ltE, nI_mI, mI_nI, mI_lt, nlt_mI, mI_le, nle_mI, nI_addm, sh_b, bI_0, bI_1, bI_bI, ckZ_b, ckZ_n0, ckZ_n1, stIe, stJe, stZ_n0, stZ_n1, rm_nI, dv_nI, if_true, if_false, if_pos, if_neg, rf0, rf1, rf5, rf6, rf7, rf8, rf9, rf20, rf23, rf24, rf25, rf26, rf29, rf31, rf33, rf34, rf35, rf37, rf38, rf41, rf42, rf43,  f_X11_holders, k_X11_holders_19, f_X12_holders, k_X12_holders_20, c_isKey_yes hS hy, r_isKey_y hS.1 hy, litL, hf, z, z2, c_refuse, r_refuse]
        exact Sm_0 h _ _
    · have hf := r_isFrom_y (k := v) (a := 0) (b := 1000) (by omega) (by omega) (by omega) τ
      cases hs : sm (gA τ 1) y
      · obtain ⟨x, σ1, τ1, p1, p2, p3, p4⟩ := both_hold h (y := y) (v := v) (by omega) hv hs
        simp (disch := omega) only [↓mI_e, lit, ofN, bsm, nI_add, pk_mul, pk_sub, nI_e, nI_leE, nI_ltE, nI_mI, mI_nI, mI_lt, nlt_mI, mI_le, nle_mI, nI_addm, sh_b, bI_0, bI_1, bI_bI, ckZ_b, ckZ_n0, ckZ_n1, stIe, stJe, stZ_n0, stZ_n1, rm_nI, dv_nI, if_true, if_false, if_pos, if_neg, rf0, rf1, rf5, rf6, rf7, rf8, rf9, rf20, rf23, rf24, rf25, rf26, rf29, rf31, rf33, rf34, rf35, rf37, rf38, rf41, rf42, rf43,  f_X11_holders, k_X11_holders_58, f_X12_holders, k_X12_holders_53, c_isKey_yes hS hy, r_isKey_y hS.1 hy, litL, hf, c02, w_0 hw, c_isSum hw hS, r_isSum, hs, p1, p2, c_answer, r_gives]
        exact Sm_q h p3 p4.sc (fun k _ => by rw [p4.2.2.1 1 (by decide) (by decide) (by decide)]) _ _
      · simp (disch := omega) only [↓mI_e, lit, ofN, bsm, nI_add, pk_mul, pk_sub, nI_e, nI_leE, nI_ltE, nI_mI, mI_nI, mI_lt, nlt_mI, mI_le, nle_mI, nI_addm, sh_b, bI_0, bI_1, bI_bI, ckZ_b, ckZ_n0, ckZ_n1, stIe, stJe, stZ_n0, stZ_n1, rm_nI, dv_nI, if_true, if_false, if_pos, if_neg, rf0, rf1, rf5, rf6, rf7, rf8, rf9, rf20, rf23, rf24, rf25, rf26, rf29, rf31, rf33, rf34, rf35, rf37, rf38, rf41, rf42, rf43,  f_X11_holders, k_X11_holders_58, f_X12_holders, k_X12_holders_53, c_isKey_yes hS hy, r_isKey_y hS.1 hy, litL, hf, c02, w_0 hw, c_isSum hw hS, r_isSum, hs, Bool.true_eq_false, c_refuse, r_refuse]
        exact Sm_0 h _ _
theorem sim_safe (i : Nat) : SIM_safe (Rel i) (Rel (i + 6)) := by
  intro a0 a1 σ τ h
  have hW := h.2.2.2.2.1
  have hS := hW.1
  have hY := hS.1.2.1
  have hw := wM_w
  show Sm i _ _
  rcases key_cases hS.1 a0 with hb | ⟨y, hy, rfl⟩
  · simp (disch := omega) only [↓mI_e, lit, ofN, bsm, nI_add, pk_mul, pk_sub, nI_e, nI_leE, nI_ltE, nI_mI, mI_nI, mI_lt, nlt_mI, mI_le, nle_mI, nI_addm, sh_b, bI_0, bI_1, bI_bI, ckZ_b, ckZ_n0, ckZ_n1, stIe, stJe, stZ_n0, stZ_n1, rm_nI, dv_nI, if_true, if_false, if_pos, if_neg, rf0, rf1, rf5, rf6, rf7, rf8, rf9, rf20, rf23, rf24, rf25, rf26, rf29, rf31, rf33, rf34, rf35, rf37, rf38, rf41, rf42, rf43,  f_X11_safe, k_X11_safe_19, f_X12_safe, k_X12_safe_20, c_isKey_no hS hb, r_isKey_no hb, c_refuse, r_refuse]
    exact Sm_0 h _ _
  · rcases num_cases a1 0 1000 (by omega) (by omega) with hb | ⟨v, _, hv, rfl⟩
    · have hf := r_isFrom_n (v := a1) (a := 0) (b := 1000) (by omega) (by omega) (by rcases hb with hb | hb; exact Or.inl hb; exact Or.inr (by omega)) τ
      by_cases z : a1 < nI 0
      · simp (disch := omega) only [↓mI_e, lit, ofN, bsm, nI_add, pk_mul, pk_sub, nI_e, nI_leE, nI_ltE, nI_mI, mI_nI, mI_lt, nlt_mI, mI_le, nle_mI, nI_addm, sh_b, bI_0, bI_1, bI_bI, ckZ_b, ckZ_n0, ckZ_n1, stIe, stJe, stZ_n0, stZ_n1, rm_nI, dv_nI, if_true, if_false, if_pos, if_neg, rf0, rf1, rf5, rf6, rf7, rf8, rf9, rf20, rf23, rf24, rf25, rf26, rf29, rf31, rf33, rf34, rf35, rf37, rf38, rf41, rf42, rf43,  f_X11_safe, k_X11_safe_19, f_X12_safe, k_X12_safe_20, c_isKey_yes hS hy, r_isKey_y hS.1 hy, litL, hf, z, c_refuse, r_refuse]
        exact Sm_0 h _ _
      · have z2 : ¬ a1 ≤ nI 1000 := fun q => by
          rw [Int32.le_iff_toInt_le] at q
          rw [Int32.lt_iff_toInt_lt] at z
          have e1 : (nI 1000).toInt = 1000 := rfl
          have e0 : (nI 0).toInt = 0 := rfl
          omega
        simp (disch := omega) only [↓mI_e, lit, ofN, bsm, nI_add, pk_mul, pk_sub, nI_e, nI_leE, nI_ltE, nI_mI, mI_nI, mI_lt, nlt_mI, mI_le, nle_mI, nI_addm, sh_b, bI_0, bI_1, bI_bI, ckZ_b, ckZ_n0, ckZ_n1, stIe, stJe, stZ_n0, stZ_n1, rm_nI, dv_nI, if_true, if_false, if_pos, if_neg, rf0, rf1, rf5, rf6, rf7, rf8, rf9, rf20, rf23, rf24, rf25, rf26, rf29, rf31, rf33, rf34, rf35, rf37, rf38, rf41, rf42, rf43,  f_X11_safe, k_X11_safe_19, f_X12_safe, k_X12_safe_20, c_isKey_yes hS hy, r_isKey_y hS.1 hy, litL, hf, z, z2, c_refuse, r_refuse]
        exact Sm_0 h _ _
    · have hf := r_isFrom_y (k := v) (a := 0) (b := 1000) (by omega) (by omega) (by omega) τ
      cases hs : sm (gA τ 1) y
      · obtain ⟨x, σ1, τ1, p1, p2, p3, p4⟩ := both_hold h (y := y) (v := v) (by omega) hv hs
        have hm : ∀ k, k < 19400 → gA τ1 1 k = gA τ 1 k := fun k _ => by rw [p4.2.2.1 1 (by decide) (by decide) (by decide)]
        have hpc := pc_0 x
        by_cases zx : x = nI 0
        · rw [eq_true zx] at hpc
          simp (disch := omega) only [↓mI_e, lit, ofN, bsm, nI_add, pk_mul, pk_sub, nI_e, nI_leE, nI_ltE, nI_mI, mI_nI, mI_lt, nlt_mI, mI_le, nle_mI, nI_addm, sh_b, bI_0, bI_1, bI_bI, ckZ_b, ckZ_n0, ckZ_n1, stIe, stJe, stZ_n0, stZ_n1, rm_nI, dv_nI, if_true, if_false, if_pos, if_neg, rf0, rf1, rf5, rf6, rf7, rf8, rf9, rf20, rf23, rf24, rf25, rf26, rf29, rf31, rf33, rf34, rf35, rf37, rf38, rf41, rf42, rf43,  f_X11_safe, k_X11_safe_74, f_X12_safe, k_X12_safe_69, c_isKey_yes hS hy, r_isKey_y hS.1 hy, litL, hf, c02, w_0 hw, c_isSum hw hS, r_isSum, hs, p1, p2, zx, r_bits, c_refuse, r_refuse, show pcN (vN (nI 0)) = 0 from pcN_0]
          exact Sm_q h p3 p4.sc hm _ _
        · rw [eq_false zx] at hpc
          have hpc2 : ¬ nI (pcN (vN x)) = nI 0 := of_eq_false hpc
          generalize hgx : nI (pcN (vN x)) = nx at hpc2
          have b1 := bitCount_eq x σ1
          have b2 := r_bits x τ1
          rw [hgx] at b1 b2
          simp (disch := omega) only [↓mI_e, lit, ofN, bsm, nI_add, pk_mul, pk_sub, nI_e, nI_leE, nI_ltE, nI_mI, mI_nI, mI_lt, nlt_mI, mI_le, nle_mI, nI_addm, sh_b, bI_0, bI_1, bI_bI, ckZ_b, ckZ_n0, ckZ_n1, stIe, stJe, stZ_n0, stZ_n1, rm_nI, dv_nI, if_true, if_false, if_pos, if_neg, rf0, rf1, rf5, rf6, rf7, rf8, rf9, rf20, rf23, rf24, rf25, rf26, rf29, rf31, rf33, rf34, rf35, rf37, rf38, rf41, rf42, rf43,  f_X11_safe, k_X11_safe_74, f_X12_safe, k_X12_safe_69, c_isKey_yes hS hy, r_isKey_y hS.1 hy, litL, hf, c02, w_0 hw, c_isSum hw hS, r_isSum, hs, p1, p2, zx, b1, b2, hpc2, c_answer, r_gives]
          exact Sm_q h p3 p4.sc hm _ _
      · simp (disch := omega) only [↓mI_e, lit, ofN, bsm, nI_add, pk_mul, pk_sub, nI_e, nI_leE, nI_ltE, nI_mI, mI_nI, mI_lt, nlt_mI, mI_le, nle_mI, nI_addm, sh_b, bI_0, bI_1, bI_bI, ckZ_b, ckZ_n0, ckZ_n1, stIe, stJe, stZ_n0, stZ_n1, rm_nI, dv_nI, if_true, if_false, if_pos, if_neg, rf0, rf1, rf5, rf6, rf7, rf8, rf9, rf20, rf23, rf24, rf25, rf26, rf29, rf31, rf33, rf34, rf35, rf37, rf38, rf41, rf42, rf43,  f_X11_safe, k_X11_safe_74, f_X12_safe, k_X12_safe_69, c_isKey_yes hS hy, r_isKey_y hS.1 hy, litL, hf, c02, w_0 hw, c_isSum hw hS, r_isSum, hs, Bool.true_eq_false, c_refuse, r_refuse]
        exact Sm_0 h _ _
