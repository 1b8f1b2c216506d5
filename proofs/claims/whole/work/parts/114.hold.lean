/-! HOLDERS -/
def hbs (A B : Nat → Int32) (p y k : Nat) : Nat → Int32
  | 0 => A ((p * 6 + y) * 6 + k)
  | q + 1 => hbs A B p y k q ||| B (((p * 6 + q) * 6 + y) * 6 + k)
theorem bt_hbs {A B : Nat → Int32} {p y k j : Nat} : ∀ n, bt (hbs A B p y k n) j = true ↔ (bt (A ((p * 6 + y) * 6 + k)) j = true ∨ ∃ q, q < n ∧ bt (B (((p * 6 + q) * 6 + y) * 6 + k)) j = true)
  | 0 => ⟨fun h => Or.inl h, fun h => h.elim id (fun ⟨q, h1, _⟩ => by omega)⟩
  | n + 1 => by
    rw [hbs, bt_or, Bool.or_eq_true, bt_hbs n]
    constructor
    · rintro ((h | ⟨q, h1, h2⟩) | h)
      · exact Or.inl h
      · exact Or.inr ⟨q, by omega, h2⟩
      · exact Or.inr ⟨n, by omega, h⟩
    · rintro (h | ⟨q, h1, h2⟩)
      · exact Or.inl (Or.inl h)
      · by_cases z : q = n
        · rw [z] at h2; exact Or.inr h2
        · exact Or.inl (Or.inr ⟨q, by omega, h2⟩)
theorem c_held_loop {w : Nat} (hw : isW w) {σ : ST} {K p y k : Nat} (e6 : gI σ (w + 1) 6 = nI K) (hK : K ≤ 6) (hp : p < 6) (hy : y < 6) (hk : k < 6) : ∀ (n q : Nat), q ≤ K → K - q < n → k_X10_bitsHeld_18 n w (nI p) (nI y) (nI k) (hbs (gA σ (w + 16)) (gA σ (w + 19)) p y k q) (nI q) σ = some (hbs (gA σ (w + 16)) (gA σ (w + 19)) p y k K, σ) := by
  intro n
  induction n with
  | zero => intros; omega
  | succ n ih =>
    intro q hq hn
    rw [k_X10_bitsHeld_18]
    by_cases e : q = K
    · subst e
      simp (disch := omega) only [↓mI_e, lit, ofN, bsm, nI_add, pk_mul, pk_sub, nI_e, nI_leE, nI_ltE, nI_mI, mI_nI, mI_lt, nlt_mI, mI_le, nle_mI, nI_addm, sh_b, bI_0, bI_1, bI_bI, ckZ_b, ckZ_n0, ckZ_n1, stIe, stJe, stZ_n0, stZ_n1, rm_nI, dv_nI, if_true, if_false, if_pos, if_neg, rf0, rf1, rf5, rf6, rf7, rf8, rf9, rf20, rf23, rf24, rf25, rf26, rf29, rf31, rf33, rf34, rf35, rf37, rf38, rf41, rf42, rf43,  w_0 hw, e6]
    · have IH := ih (q + 1) (by omega) (by omega)
      rw [hbs] at IH
      simp (disch := omega) only [↓mI_e, lit, ofN, bsm, nI_add, pk_mul, pk_sub, nI_e, nI_leE, nI_ltE, nI_mI, mI_nI, mI_lt, nlt_mI, mI_le, nle_mI, nI_addm, sh_b, bI_0, bI_1, bI_bI, ckZ_b, ckZ_n0, ckZ_n1, stIe, stJe, stZ_n0, stZ_n1, rm_nI, dv_nI, if_true, if_false, if_pos, if_neg, rf0, rf1, rf5, rf6, rf7, rf8, rf9, rf20, rf23, rf24, rf25, rf26, rf29, rf31, rf33, rf34, rf35, rf37, rf38, rf41, rf42, rf43,  w_0 hw, w_3 hw, e6, f_X0_bitsOf, wq_0 hw, lw19 hw]
      exact IH
theorem c_bitsHeld {w : Nat} (hw : isW w) {σ : ST} {K p y k : Nat} (e6 : gI σ (w + 1) 6 = nI K) (hK : K ≤ 6) (hp : p < 6) (hy : y < 6) (hk : k < 6) : f_X10_bitsHeld w (nI p) (nI y) (nI k) σ = some (hbs (gA σ (w + 16)) (gA σ (w + 19)) p y k K, σ) := by
  obtain ⟨F, hF, hF2⟩ : ∃ F, FU = F ∧ 5000 < F := ⟨FU, rfl, by unfold FU; omega⟩
  have q := c_held_loop hw e6 hK hp hy hk F 0 (by omega) (by omega)
  simp (disch := omega) only [↓mI_e, lit, ofN, bsm, nI_add, pk_mul, pk_sub, nI_e, nI_leE, nI_ltE, nI_mI, mI_nI, mI_lt, nlt_mI, mI_le, nle_mI, nI_addm, sh_b, bI_0, bI_1, bI_bI, ckZ_b, ckZ_n0, ckZ_n1, stIe, stJe, stZ_n0, stZ_n1, rm_nI, dv_nI, if_true, if_false, if_pos, if_neg, rf0, rf1, rf5, rf6, rf7, rf8, rf9, rf20, rf23, rf24, rf25, rf26, rf29, rf31, rf33, rf34, rf35, rf37, rf38, rf41, rf42, rf43,  f_X10_bitsHeld, hF, f_X10_cellOf, w_2 hw, f_X0_bitsOf, wh_0 hw, lw16 hw]
  exact q
/-- the table of holders by value -/
def NT (P : Nat → Nat → Bool) (V : Nat → Int32) (p d : Nat) (T : Nat → Int32) : Prop := ∀ c, c ≤ 1000 → ∀ j, bt (T c) j = true ↔ ((j < p ∧ ∃ e, e < 180 ∧ P j e = true ∧ V e = nI c) ∨ (j = p ∧ ∃ e, e < d ∧ P p e = true ∧ V e = nI c))
theorem NT_skip {P : Nat → Nat → Bool} {V : Nat → Int32} {p d d2 : Nat} {T : Nat → Int32} (h : NT P V p d T) (hd : d ≤ d2) (hp : ∀ e, d ≤ e → e < d2 → P p e = false) : NT P V p d2 T := fun c hc j => by
  rw [h c hc j]
  constructor
  · rintro (h1 | ⟨h1, e, h2, h3⟩)
    · exact Or.inl h1
    · exact Or.inr ⟨h1, e, by omega, h3⟩
  · rintro (h1 | ⟨h1, e, h2, h3, h4⟩)
    · exact Or.inl h1
    · by_cases z : e < d
      · exact Or.inr ⟨h1, e, z, h3, h4⟩
      · rw [hp e (by omega) h2] at h3; exact absurd h3 (by decide)
theorem NT_set {P : Nat → Nat → Bool} {V : Nat → Int32} {p d x : Nat} {T : Nat → Int32} (h : NT P V p d T) (hp6 : p < 6) (hp : P p d = true) (hx : x ≤ 1000) (hv : V d = nI x) : NT P V p (d + 1) (upd T x (T x ||| (nI 1 <<< (nI p &&& nI 31)))) := fun c hc j => by
  rw [upd_at]
  by_cases z : c = x
  · subst z
    rw [if_pos rfl, bt_ins _ (by omega), Bool.or_eq_true, h c hc j, decide_eq_true_eq]
    constructor
    · rintro ((h1 | ⟨h1, e, h2, h3⟩) | h1)
      · exact Or.inl h1
      · exact Or.inr ⟨h1, e, by omega, h3⟩
      · exact Or.inr ⟨h1, d, by omega, hp, hv⟩
    · rintro (h1 | ⟨h1, _⟩)
      · exact Or.inl (Or.inl h1)
      · exact Or.inr h1
  · rw [if_neg z, h c hc j]
    constructor
    · rintro (h1 | ⟨h1, e, h2, h3⟩)
      · exact Or.inl h1
      · exact Or.inr ⟨h1, e, by omega, h3⟩
    · rintro (h1 | ⟨h1, e, h2, h3, h4⟩)
      · exact Or.inl h1
      · by_cases z2 : e = d
        · rw [z2, hv] at h4
          exact absurd ((nI_eq (by omega) (by omega)).mp h4).symm z
        · exact Or.inr ⟨h1, e, by omega, h3, h4⟩
theorem NT_next {P : Nat → Nat → Bool} {V : Nat → Int32} {p : Nat} {T : Nat → Int32} (h : NT P V p 180 T) : NT P V (p + 1) 0 T := fun c hc j => by
  rw [h c hc j]
  constructor
  · rintro (⟨h1, h2⟩ | ⟨h1, h2⟩)
    · exact Or.inl ⟨by omega, h2⟩
    · subst h1; exact Or.inl ⟨by omega, h2⟩
  · rintro (⟨h1, h2⟩ | ⟨h1, e, h2, _⟩)
    · by_cases z : j = p
      · subst z; exact Or.inr ⟨rfl, h2⟩
      · exact Or.inl ⟨by omega, h2⟩
    · omega
theorem c_note_in {w : Nat} (hw : isW w) {y p k K : Nat} (hy : y < 6) (hp : p < 6) (hk : k < 6) {A B V : Nat → Int32} (hb : ∀ k, k < 6 → ∀ j, 30 ≤ j → bt (hbs A B p y k K) j = false) {P : Nat → Nat → Bool} (hP : ∀ e, e < 180 → P p e = bt (hbs A B p y (e / 30) K) (e % 30)) (hV : ∀ e, e < 180 → P p e = true → ∃ x, x ≤ 1000 ∧ V (y * 180 + e) = nI x) (hr : 101 < w ∨ w + 28 ≤ 101) (rec21 : Nat → Int32 → Nat → Int32 → Int32 → ST → Option ST) : ∀ (n i : Nat) (σ : ST), i ≤ 30 → 30 - i < n → gA σ (w + 27) = V → NT P (fun e => V (y * 180 + e)) p (30 * k + i) (gA σ 101) → ∃ T, k_X10_noteHolders_46 rec21 n w (nI y) 101 (nI p) (nI k) (hbs A B p y k K) (nI i) σ = rec21 w (nI y) 101 (nI p) (nI (k + 1)) (sA σ 101 T) ∧ NT P (fun e => V (y * 180 + e)) p (30 * (k + 1)) T := by
  have hl : LC.2.2.1 101 = 1001 := rfl
  intro n
  induction n with
  | zero => intros; omega
  | succ n ih =>
    intro i σ hi hn h27 hT
    rw [k_X10_noteHolders_46]
    have last : (∀ j, i ≤ j → j < 30 → bt (hbs A B p y k K) j = false) → ∃ T, k_X10_noteHolders_104 rec21 w (nI y) 101 (nI p) (nI k) σ = rec21 w (nI y) 101 (nI p) (nI (k + 1)) (sA σ 101 T) ∧ NT P (fun e => V (y * 180 + e)) p (30 * (k + 1)) T := fun hz => by
      refine ⟨gA σ 101, ?_, NT_skip hT (by omega) (fun e h1 h2 => ?_)⟩
      · rw [sA_self]
        simp (disch := omega) only [↓mI_e, lit, ofN, bsm, nI_add, pk_mul, pk_sub, nI_e, nI_leE, nI_ltE, nI_mI, mI_nI, mI_lt, nlt_mI, mI_le, nle_mI, nI_addm, sh_b, bI_0, bI_1, bI_bI, ckZ_b, ckZ_n0, ckZ_n1, stIe, stJe, stZ_n0, stZ_n1, rm_nI, dv_nI, if_true, if_false, if_pos, if_neg, rf0, rf1, rf5, rf6, rf7, rf8, rf9, rf20, rf23, rf24, rf25, rf26, rf29, rf31, rf33, rf34, rf35, rf37, rf38, rf41, rf42, rf43,  k_X10_noteHolders_104]
      · rw [hP e (by omega), show e / 30 = k by omega]
        exact hz _ (by omega) (by omega)
    by_cases e : i = 30
    · subst e
      simp (disch := omega) only [↓mI_e, lit, ofN, bsm, nI_add, pk_mul, pk_sub, nI_e, nI_leE, nI_ltE, nI_mI, mI_nI, mI_lt, nlt_mI, mI_le, nle_mI, nI_addm, sh_b, bI_0, bI_1, bI_bI, ckZ_b, ckZ_n0, ckZ_n1, stIe, stJe, stZ_n0, stZ_n1, rm_nI, dv_nI, if_true, if_false, if_pos, if_neg, rf0, rf1, rf5, rf6, rf7, rf8, rf9, rf20, rf23, rf24, rf25, rf26, rf29, rf31, rf33, rf34, rf35, rf37, rf38, rf41, rf42, rf43, ]
      exact last (fun j h1 h2 => by omega)
    · have hz := shr_0 (x := hbs A B p y k K) (i := i) (by omega) (hb k hk)
      have eP : P p (30 * k + i) = bt (hbs A B p y k K) i := by
        rw [hP _ (by omega), show (30 * k + i) / 30 = k by omega, show (30 * k + i) % 30 = i by omega]
      simp (disch := omega) only [↓mI_e, lit, ofN, bsm, nI_add, pk_mul, pk_sub, nI_e, nI_leE, nI_ltE, nI_mI, mI_nI, mI_lt, nlt_mI, mI_le, nle_mI, nI_addm, sh_b, bI_0, bI_1, bI_bI, ckZ_b, ckZ_n0, ckZ_n1, stIe, stJe, stZ_n0, stZ_n1, rm_nI, dv_nI, if_true, if_false, if_pos, if_neg, rf0, rf1, rf5, rf6, rf7, rf8, rf9, rf20, rf23, rf24, rf25, rf26, rf29, rf31, rf33, rf34, rf35, rf37, rf38, rf41, rf42, rf43,  w_8 hw, k_X10_noteHolders_98, lw27 hw]
      by_cases g : hbs A B p y k K >>> (nI i &&& nI 31) = nI 0
      · rw [if_pos g]
        exact last (fun j h1 _ => hz.mp g j h1)
      · rw [if_neg g]
        cases cb : bt (hbs A B p y k K) i
        · simp only [if_true]
          refine ih (i + 1) σ (by omega) (by omega) h27 ?_
          rw [show 30 * k + (i + 1) = 30 * k + i + 1 by omega]
          exact NT_skip hT (by omega) (fun e h1 h2 => by rw [show e = 30 * k + i by omega, eP]; exact cb)
        · simp only [Bool.true_eq_false, if_false]
          obtain ⟨x, hx, ex⟩ := hV (30 * k + i) (by omega) (by rw [eP]; exact cb)
          have e27 : gA σ (w + 27) (y * 180 + k * 30 + i) = nI x := by rw [h27, show y * 180 + k * 30 + i = y * 180 + (30 * k + i) by omega]; exact ex
          have l1 := la (Λ := LC) (σ := σ) (y := 101) (k := x) 1001 hl (by omega) (by decide)
          have s1 := fun v => sa (Λ := LC) (σ := σ) (y := 101) (k := x) (v := v) 1001 hl (by omega) (by decide)
          obtain ⟨T, q1, q2⟩ := ih (i + 1) (sA σ 101 (upd (gA σ 101) x (gA σ 101 x ||| (nI 1 <<< (nI p &&& nI 31))))) (by omega) (by omega) (by rw [gA_sA, if_neg (by omega)]; exact h27) (by
            rw [gA_sA, if_pos rfl, show 30 * k + (i + 1) = 30 * k + i + 1 by omega]
            exact NT_set hT hp (by rw [eP]; exact cb) hx ex)
          rw [sA_sA] at q1
          refine ⟨T, ?_, q2⟩
          simp (disch := omega) only [↓mI_e, lit, ofN, bsm, nI_add, pk_mul, pk_sub, nI_e, nI_leE, nI_ltE, nI_mI, mI_nI, mI_lt, nlt_mI, mI_le, nle_mI, nI_addm, sh_b, bI_0, bI_1, bI_bI, ckZ_b, ckZ_n0, ckZ_n1, stIe, stJe, stZ_n0, stZ_n1, rm_nI, dv_nI, if_true, if_false, if_pos, if_neg, rf0, rf1, rf5, rf6, rf7, rf8, rf9, rf20, rf23, rf24, rf25, rf26, rf29, rf31, rf33, rf34, rf35, rf37, rf38, rf41, rf42, rf43,  e27, l1, s1]
          exact q1
theorem c_note_21 {w : Nat} (hw : isW w) {y p K : Nat} (hy : y < 6) (hp : p < 6) (hK : K ≤ 6) {A B V : Nat → Int32} (hb : ∀ k, k < 6 → ∀ j, 30 ≤ j → bt (hbs A B p y k K) j = false) (hb0 : ∀ k, K ≤ k → k < 6 → ∀ j, bt (hbs A B p y k K) j = false) {P : Nat → Nat → Bool} (hP : ∀ e, e < 180 → P p e = bt (hbs A B p y (e / 30) K) (e % 30)) (hV : ∀ e, e < 180 → P p e = true → ∃ x, x ≤ 1000 ∧ V (y * 180 + e) = nI x) (hr : 101 < w ∨ w + 28 ≤ 101) (rec7 : Nat → Int32 → Nat → Int32 → ST → Option ST) : ∀ (n k : Nat) (σ : ST), k ≤ K → K - k < n → gI σ (w + 1) 6 = nI K → gA σ (w + 16) = A → gA σ (w + 19) = B → gA σ (w + 27) = V → NT P (fun e => V (y * 180 + e)) p (30 * k) (gA σ 101) → ∃ T, k_X10_noteHolders_21 rec7 n w (nI y) 101 (nI p) (nI k) σ = rec7 w (nI y) 101 (nI (p + 1)) (sA σ 101 T) ∧ NT P (fun e => V (y * 180 + e)) (p + 1) 0 T := by
  obtain ⟨F, hF, hF2⟩ : ∃ F, FU = F ∧ 5000 < F := ⟨FU, rfl, by unfold FU; omega⟩
  intro n
  induction n with
  | zero => intros; omega
  | succ n ih =>
    intro k σ hk hn e6 h16 h19 h27 hT
    rw [k_X10_noteHolders_21, hF]
    by_cases e : k = K
    · subst e
      refine ⟨gA σ 101, ?_, NT_next (NT_skip hT (by omega) (fun e h1 h2 => by rw [hP e h2]; exact hb0 _ (by omega) (by omega) _))⟩
      rw [sA_self]
      simp (disch := omega) only [↓mI_e, lit, ofN, bsm, nI_add, pk_mul, pk_sub, nI_e, nI_leE, nI_ltE, nI_mI, mI_nI, mI_lt, nlt_mI, mI_le, nle_mI, nI_addm, sh_b, bI_0, bI_1, bI_bI, ckZ_b, ckZ_n0, ckZ_n1, stIe, stJe, stZ_n0, stZ_n1, rm_nI, dv_nI, if_true, if_false, if_pos, if_neg, rf0, rf1, rf5, rf6, rf7, rf8, rf9, rf20, rf23, rf24, rf25, rf26, rf29, rf31, rf33, rf34, rf35, rf37, rf38, rf41, rf42, rf43,  w_0 hw, e6]
    · have c1 := c_bitsHeld hw e6 hK hp hy (show k < 6 by omega)
      rw [h16, h19] at c1
      obtain ⟨T, q1, q2⟩ := c_note_in hw hy hp (show k < 6 by omega) hb hP hV hr (k_X10_noteHolders_21 rec7 n) F 0 σ (by omega) (by omega) h27 hT
      obtain ⟨T2, q3, q4⟩ := ih (k + 1) (sA σ 101 T) (by omega) (by omega) e6 (by rw [gA_sA, if_neg (by omega)]; exact h16) (by rw [gA_sA, if_neg (by omega)]; exact h19) (by rw [gA_sA, if_neg (by omega)]; exact h27) (by rw [gA_sA, if_pos rfl]; exact q2)
      rw [sA_sA] at q3
      refine ⟨T2, ?_, q4⟩
      simp (disch := omega) only [↓mI_e, lit, ofN, bsm, nI_add, pk_mul, pk_sub, nI_e, nI_leE, nI_ltE, nI_mI, mI_nI, mI_lt, nlt_mI, mI_le, nle_mI, nI_addm, sh_b, bI_0, bI_1, bI_bI, ckZ_b, ckZ_n0, ckZ_n1, stIe, stJe, stZ_n0, stZ_n1, rm_nI, dv_nI, if_true, if_false, if_pos, if_neg, rf0, rf1, rf5, rf6, rf7, rf8, rf9, rf20, rf23, rf24, rf25, rf26, rf29, rf31, rf33, rf34, rf35, rf37, rf38, rf41, rf42, rf43,  w_0 hw, e6, c1]
      exact q1.trans q3
theorem c_note_7 {w : Nat} (hw : isW w) {y K : Nat} (hy : y < 6) (hK : K ≤ 6) {A B V : Nat → Int32} (hb : ∀ p, p < K → ∀ k, k < 6 → ∀ j, 30 ≤ j → bt (hbs A B p y k K) j = false) (hb0 : ∀ p, p < K → ∀ k, K ≤ k → k < 6 → ∀ j, bt (hbs A B p y k K) j = false) {P : Nat → Nat → Bool} (hP : ∀ p, p < K → ∀ e, e < 180 → P p e = bt (hbs A B p y (e / 30) K) (e % 30)) (hV : ∀ p, p < K → ∀ e, e < 180 → P p e = true → ∃ x, x ≤ 1000 ∧ V (y * 180 + e) = nI x) (hr : 101 < w ∨ w + 28 ≤ 101) : ∀ (n p : Nat) (σ : ST), p ≤ K → K - p < n → gI σ (w + 1) 6 = nI K → gA σ (w + 16) = A → gA σ (w + 19) = B → gA σ (w + 27) = V → NT P (fun e => V (y * 180 + e)) p 0 (gA σ 101) → ∃ T, k_X10_noteHolders_7 n w (nI y) 101 (nI p) σ = some (sA σ 101 T) ∧ NT P (fun e => V (y * 180 + e)) K 0 T := by
  obtain ⟨F, hF, hF2⟩ : ∃ F, FU = F ∧ 5000 < F := ⟨FU, rfl, by unfold FU; omega⟩
  intro n
  induction n with
  | zero => intros; omega
  | succ n ih =>
    intro p σ hp hn e6 h16 h19 h27 hT
    rw [k_X10_noteHolders_7, hF]
    by_cases e : p = K
    · subst e
      refine ⟨gA σ 101, ?_, hT⟩
      rw [sA_self]
      simp (disch := omega) only [↓mI_e, lit, ofN, bsm, nI_add, pk_mul, pk_sub, nI_e, nI_leE, nI_ltE, nI_mI, mI_nI, mI_lt, nlt_mI, mI_le, nle_mI, nI_addm, sh_b, bI_0, bI_1, bI_bI, ckZ_b, ckZ_n0, ckZ_n1, stIe, stJe, stZ_n0, stZ_n1, rm_nI, dv_nI, if_true, if_false, if_pos, if_neg, rf0, rf1, rf5, rf6, rf7, rf8, rf9, rf20, rf23, rf24, rf25, rf26, rf29, rf31, rf33, rf34, rf35, rf37, rf38, rf41, rf42, rf43,  w_0 hw, e6]
    · obtain ⟨T, q1, q2⟩ := c_note_21 hw hy (show p < 6 by omega) hK (hb p (by omega)) (hb0 p (by omega)) (hP p (by omega)) (hV p (by omega)) hr (k_X10_noteHolders_7 n) F 0 σ (by omega) (by omega) e6 h16 h19 h27 hT
      obtain ⟨T2, q3, q4⟩ := ih (p + 1) (sA σ 101 T) (by omega) (by omega) e6 (by rw [gA_sA, if_neg (by omega)]; exact h16) (by rw [gA_sA, if_neg (by omega)]; exact h19) (by rw [gA_sA, if_neg (by omega)]; exact h27) (by rw [gA_sA, if_pos rfl]; exact q2)
      rw [sA_sA] at q3
      refine ⟨T2, ?_, q4⟩
      simp (disch := omega) only [↓mI_e, lit, ofN, bsm, nI_add, pk_mul, pk_sub, nI_e, nI_leE, nI_ltE, nI_mI, mI_nI, mI_lt, nlt_mI, mI_le, nle_mI, nI_addm, sh_b, bI_0, bI_1, bI_bI, ckZ_b, ckZ_n0, ckZ_n1, stIe, stJe, stZ_n0, stZ_n1, rm_nI, dv_nI, if_true, if_false, if_pos, if_neg, rf0, rf1, rf5, rf6, rf7, rf8, rf9, rf20, rf23, rf24, rf25, rf26, rf29, rf31, rf33, rf34, rf35, rf37, rf38, rf41, rf42, rf43,  w_0 hw, e6]
      exact q1.trans q3
theorem c_fill0 : ∀ (n k : Nat) (σ : ST), k ≤ 1001 → 1001 - k < n → (∀ j, j < k → gA σ 101 j = nI 0) → ∃ T, k_J7_fill_53178_5 n 101 (nI 0) (nI k) (nI 1001) σ = some (sA σ 101 T) ∧ ∀ j, j < 1001 → T j = nI 0 := by
  have hl : LC.2.2.1 101 = 1001 := rfl
  intro n
  induction n with
  | zero => intros; omega
  | succ n ih =>
    intro k σ hk hn h
    rw [k_J7_fill_53178_5]
    by_cases e : k = 1001
    · subst e
      refine ⟨gA σ 101, ?_, h⟩
      rw [sA_self]
      simp (disch := omega) only [↓mI_e, lit, ofN, bsm, nI_add, pk_mul, pk_sub, nI_e, nI_leE, nI_ltE, nI_mI, mI_nI, mI_lt, nlt_mI, mI_le, nle_mI, nI_addm, sh_b, bI_0, bI_1, bI_bI, ckZ_b, ckZ_n0, ckZ_n1, stIe, stJe, stZ_n0, stZ_n1, rm_nI, dv_nI, if_true, if_false, if_pos, if_neg, rf0, rf1, rf5, rf6, rf7, rf8, rf9, rf20, rf23, rf24, rf25, rf26, rf29, rf31, rf33, rf34, rf35, rf37, rf38, rf41, rf42, rf43, ]
    · have s1 := sa (Λ := LC) (σ := σ) (y := 101) (k := k) (v := nI 0) 1001 hl (by omega) (by decide)
      obtain ⟨T, q1, q2⟩ := ih (k + 1) (sA σ 101 (upd (gA σ 101) k (nI 0))) (by omega) (by omega) (fun j hj => by
        rw [gA_sA, if_pos rfl, upd_at]
        by_cases z : j = k
        · rw [if_pos z]
        · rw [if_neg z]; exact h j (by omega))
      rw [sA_sA] at q1
      refine ⟨T, ?_, q2⟩
      simp (disch := omega) only [↓mI_e, lit, ofN, bsm, nI_add, pk_mul, pk_sub, nI_e, nI_leE, nI_ltE, nI_mI, mI_nI, mI_lt, nlt_mI, mI_le, nle_mI, nI_addm, sh_b, bI_0, bI_1, bI_bI, ckZ_b, ckZ_n0, ckZ_n1, stIe, stJe, stZ_n0, stZ_n1, rm_nI, dv_nI, if_true, if_false, if_pos, if_neg, rf0, rf1, rf5, rf6, rf7, rf8, rf9, rf20, rf23, rf24, rf25, rf26, rf29, rf31, rf33, rf34, rf35, rf37, rf38, rf41, rf42, rf43,  s1]
      exact q1
theorem c_note {w : Nat} (hw : isW w) {y K : Nat} (hy : y < 6) (hK : K ≤ 6) {σ : ST} (e6 : gI σ (w + 1) 6 = nI K) (hb : ∀ p, p < K → ∀ k, k < 6 → ∀ j, 30 ≤ j → bt (hbs (gA σ (w + 16)) (gA σ (w + 19)) p y k K) j = false) (hb0 : ∀ p, p < K → ∀ k, K ≤ k → k < 6 → ∀ j, bt (hbs (gA σ (w + 16)) (gA σ (w + 19)) p y k K) j = false) {P : Nat → Nat → Bool} (hP : ∀ p, p < K → ∀ e, e < 180 → P p e = bt (hbs (gA σ (w + 16)) (gA σ (w + 19)) p y (e / 30) K) (e % 30)) (hV : ∀ p, p < K → ∀ e, e < 180 → P p e = true → ∃ x, x ≤ 1000 ∧ gA σ (w + 27) (y * 180 + e) = nI x) (hr : 101 < w ∨ w + 28 ≤ 101) : ∃ T, f_X10_noteHolders w (nI y) 101 σ = some (sA σ 101 T) ∧ NT P (fun e => gA σ (w + 27) (y * 180 + e)) K 0 T := by
  obtain ⟨F, hF, hF2⟩ : ∃ F, FU = F ∧ 5000 < F := ⟨FU, rfl, by unfold FU; omega⟩
  have hl : LC.2.2.1 101 = 1001 := rfl
  obtain ⟨T, q1, q2⟩ := c_fill0 F 0 σ (by omega) (by omega) (fun j hj => by omega)
  obtain ⟨T2, q3, q4⟩ := c_note_7 hw hy hK hb hb0 hP hV hr F 0 (sA σ 101 T) (by omega) (by omega) e6 (by rw [gA_sA, if_neg (by omega)]) (by rw [gA_sA, if_neg (by omega)]) (by rw [gA_sA, if_neg (by omega)]) (by
    rw [gA_sA, if_pos rfl]
    intro c hc j
    rw [q2 c (by omega), bt_n0]
    exact ⟨fun q => absurd q (by decide), fun q => by rcases q with ⟨q, _⟩ | ⟨_, e, q, _⟩ <;> omega⟩)
  rw [sA_sA] at q3
  refine ⟨T2, ?_, q4⟩
  simp (disch := omega) only [↓mI_e, lit, ofN, bsm, nI_add, pk_mul, pk_sub, nI_e, nI_leE, nI_ltE, nI_mI, mI_nI, mI_lt, nlt_mI, mI_le, nle_mI, nI_addm, sh_b, bI_0, bI_1, bI_bI, ckZ_b, ckZ_n0, ckZ_n1, stIe, stJe, stZ_n0, stZ_n1, rm_nI, dv_nI, if_true, if_false, if_pos, if_neg, rf0, rf1, rf5, rf6, rf7, rf8, rf9, rf20, rf23, rf24, rf25, rf26, rf29, rf31, rf33, rf34, rf35, rf37, rf38, rf41, rf42, rf43,  f_X10_noteHolders, f_J7_fill_53178, hl, hF, q1]
  exact q3
