/-! MORE CALLS THAT ONLY ASK -/
theorem cnt_s0 (p : Nat → Bool) : ∀ n, cnt p (n + 1) = (if p 0 then 1 else 0) + cnt (fun i => p (i + 1)) n
  | 0 => by simp [cnt]
  | n + 1 => by
    have h := cnt_s0 p n
    rw [cnt, h]
    simp only [cnt]
    omega
theorem cnt_add (p : Nat → Bool) (m : Nat) : ∀ n, cnt p (m + n) = cnt p m + cnt (fun i => p (m + i)) n
  | 0 => rfl
  | n + 1 => by
    have h := cnt_add p m n
    show cnt p (m + n) + (if p (m + n) then 1 else 0) = _
    rw [h]
    simp only [cnt]
    omega
theorem cnt_tail {p : Nat → Bool} {m : Nat} : ∀ n, m ≤ n → (∀ i, m ≤ i → i < n → p i = false) → cnt p n = cnt p m
  | 0, h, _ => by have : m = 0 := by omega
                  subst this; rfl
  | n + 1, h, hp => by
    by_cases e : m = n + 1
    · subst e; rfl
    · rw [cnt, hp n (by omega) (by omega), cnt_tail n (by omega) (fun i a b => hp i a (by omega))]; simp
theorem pcN_cnt : ∀ (k n : Nat), n < 2 ^ k → pcN n = cnt (fun i => n.testBit i) k
  | 0, n, h => by
    have : n = 0 := by omega
    subst this; simp [pcN_0, cnt]
  | k + 1, n, h => by
    rw [pcN_s, cnt_s0, pcN_cnt k (n / 2) (by rw [Nat.pow_succ] at h; omega)]
    congr 1
    · rw [Nat.testBit_zero]
      by_cases g : n % 2 = 1
      · simp [g]
      · have : n % 2 = 0 := by omega
        simp [this]
    · exact cnt_congr k (fun i _ => by rw [Nat.testBit_succ])
theorem pc_bt (x : Int32) : pcN (vN x) = cnt (bt x) 32 := pcN_cnt 32 (vN x) (vN_lt x)
theorem pc_bt_m (x : Int32) {m : Nat} (hm : m ≤ 32) (h : ∀ i, m ≤ i → bt x i = false) : pcN (vN x) = cnt (bt x) m := by
  rw [pc_bt]; exact cnt_tail 32 hm (fun i a _ => h i a)
/-! told -/
theorem r_told_loop {τ : ST} : ∀ (n i : Nat) (p : Int32), i ≤ 4 → 4 - i < n → (∀ k, bt p k = decide (k < i ∧ gA τ 1 (4440 + 8 * k) ≠ mI)) → ∃ p', k_X12_told_37 n 0 p (nI i) τ = some (p', sI τ 0 2 (nI 0)) ∧ ∀ k, bt p' k = decide (k < 4 ∧ gA τ 1 (4440 + 8 * k) ≠ mI) := by
  intro n
  induction n with
  | zero => intros; omega
  | succ n ih =>
    intro i p hi hn hp
    rw [k_X12_told_37]
    by_cases e : i = 4
    · subst e
      simp (disch := omega) only [↓mI_e, lit, ofN, bsm, nI_add, pk_mul, pk_sub, nI_e, nI_leE, nI_ltE, nI_mI, mI_nI, mI_lt, nlt_mI, mI_le, nle_mI, nI_addm, sh_b, bI_0, bI_1, bI_bI, ckZ_b, ckZ_n0, ckZ_n1, stIe, stJe, stZ_n0, stZ_n1, rm_nI, dv_nI, if_pos, if_neg, rf0, rf1, rf5, rf6, rf7, rf8, rf9, rf20, rf23, rf24, rf25, rf26, rf29, rf31, rf33, rf34, rf35, rf37, rf38, rf41, rf42, rf43,  r_gives]
      exact ⟨p, rfl, hp⟩
    · simp (disch := omega) only [↓mI_e, lit, ofN, bsm, nI_add, pk_mul, pk_sub, nI_e, nI_leE, nI_ltE, nI_mI, mI_nI, mI_lt, nlt_mI, mI_le, nle_mI, nI_addm, sh_b, bI_0, bI_1, bI_bI, ckZ_b, ckZ_n0, ckZ_n1, stIe, stJe, stZ_n0, stZ_n1, rm_nI, dv_nI, if_pos, if_neg, rf0, rf1, rf5, rf6, rf7, rf8, rf9, rf20, rf23, rf24, rf25, rf26, rf29, rf31, rf33, rf34, rf35, rf37, rf38, rf41, rf42, rf43,  k_X12_told_67, lr1]
      have fin : ∀ p', (∀ k, bt p' k = (bt p k || (decide (k = i) && decide (gA τ 1 (4440 + 8 * i) ≠ mI)))) → ∀ k, bt p' k = decide (k < i + 1 ∧ gA τ 1 (4440 + 8 * k) ≠ mI) := by
        intro p' h1 k
        rw [h1, hp]
        by_cases g : k = i
        · subst g; simp
        · have : decide (k < i + 1 ∧ gA τ 1 (4440 + 8 * k) ≠ mI) = decide (k < i ∧ gA τ 1 (4440 + 8 * k) ≠ mI) := decide_eq_decide.mpr ⟨fun q => ⟨by omega, q.2⟩, fun q => ⟨by omega, q.2⟩⟩
          rw [this, decide_eq_false g]; simp
      by_cases g : gA τ 1 (4440 + 8 * i) = mI
      · rw [if_pos g]
        exact ih (i + 1) _ (by omega) (by omega) (fin _ (fun k => by rw [bt_or, bt_n0, g]; simp))
      · rw [if_neg g]
        exact ih (i + 1) _ (by omega) (by omega) (fin _ (fun k => by rw [bt_ins _ (by omega), decide_eq_true g]; simp))
theorem ne_out {a : Int32} {n : Nat} (hn : n < 2 ^ 31) (h : a < 0 ∨ nI n ≤ a) {k : Nat} (hk : k < n) : (a = nI k) = False := by
  apply eq_false
  intro e
  subst e
  rcases h with h | h
  · exact nI_pos (by omega) h
  · exact nI_ge hk hn h
theorem sim_told (i : Nat) : SIM_told (Rel i) (Rel (i + 6)) := by
  intro a0 σ τ h
  obtain ⟨hS, hU, hT, _⟩ := h.2.2.2.2.1
  obtain ⟨e6, e7, e9, e10, e11⟩ := hS.2.1
  have e6 : gI σ (wM + 1) 6 = gA τ 1 3 := e6
  have e7 : gI σ (wM + 1) 7 = gA τ 1 4 := e7
  have e9 : gI σ (wM + 1) 9 = gA τ 1 0 := e9
  have e10 : gI σ (wM + 1) 10 = gA τ 1 1 := e10
  have e11 : gI σ (wM + 1) 11 = gA τ 1 2 := e11
  have u9 : gI σ wM 9 = gA τ 1 5 := hU.1
  have u10 : gI σ wM 10 = gA τ 1 6 := hU.2
  show Sm i _ _
  have out : (a0 < 0 ∨ nI 8 ≤ a0) → Sm i (f_X11_told 0 a0 σ) (f_X12_told 0 a0 τ) := by
    intro g
    have n0 := fun k (hk : k < 8) => ne_out (by decide) g hk
    have e1 : f_X11_told 0 a0 σ = some (mI, sI σ 0 14 (nI 1)) := by
      simp (disch := omega) only [↓mI_e, lit, ofN, bsm, nI_add, pk_mul, pk_sub, nI_e, nI_leE, nI_ltE, nI_mI, mI_nI, mI_lt, nlt_mI, mI_le, nle_mI, nI_addm, sh_b, bI_0, bI_1, bI_bI, ckZ_b, ckZ_n0, ckZ_n1, stIe, stJe, stZ_n0, stZ_n1, rm_nI, dv_nI, if_pos, if_neg, rf0, rf1, rf5, rf6, rf7, rf8, rf9, rf20, rf23, rf24, rf25, rf26, rf29, rf31, rf33, rf34, rf35, rf37, rf38, rf41, rf42, rf43,  f_X11_told, n0 0 (by decide), n0 1 (by decide), n0 2 (by decide), n0 3 (by decide), n0 4 (by decide), n0 5 (by decide), n0 6 (by decide), n0 7 (by decide), if_false, c_refuse]
    have e2 : f_X12_told 0 a0 τ = some (mI, sI τ 0 2 (nI 1)) := by
      unfold f_X12_told k_X12_told_10
      rcases g with g | g
      · rw [if_pos g]; rfl
      · have : ¬ a0 ≤ 7 := fun q => by
          have h1 := Int32.le_iff_toInt_le.mp q
          have h2 := Int32.le_iff_toInt_le.mp g
          rw [nI_toInt (by omega)] at h2
          have : (7 : Int32).toInt = 7 := rfl
          omega
        rw [if_neg this]
        split <;> rfl
    rw [e1, e2]
    exact Sm_0 h _ _
  rcases pk_ix a0 (n := 8) (by omega) with g | g | ⟨k, hk, rfl⟩
  · exact out (Or.inl g)
  · exact out (Or.inr g)
  · by_cases k7 : k = 7
    · subst k7
      obtain ⟨p', h1, h2⟩ := r_told_loop (τ := τ) FU 0 (nI 0) (by omega) (by unfold FU; omega) (fun k => by rw [bt_n0]; symm; exact decide_eq_false (fun q => by omega))
      have e : gI σ wM 11 = p' := bt_ext (fun k _ => (hT.1 k).trans (h2 k).symm)
      simp (disch := omega) only [↓mI_e, lit, ofN, bsm, nI_add, pk_mul, pk_sub, nI_e, nI_leE, nI_ltE, nI_mI, mI_nI, mI_lt, nlt_mI, mI_le, nle_mI, nI_addm, sh_b, bI_0, bI_1, bI_bI, ckZ_b, ckZ_n0, ckZ_n1, stIe, stJe, stZ_n0, stZ_n1, rm_nI, dv_nI, if_pos, if_neg, rf0, rf1, rf5, rf6, rf7, rf8, rf9, rf20, rf23, rf24, rf25, rf26, rf29, rf31, rf33, rf34, rf35, rf37, rf38, rf41, rf42, rf43,  f_X11_told, f_X12_told, c02, e, h1, c_answer]
      exact Sm_0 h _ _
    · have e2 : f_X12_told 0 (nI k) τ = some (gA τ 1 k, sI τ 0 2 (nI 0)) := by
        simp (disch := omega) only [↓mI_e, lit, ofN, bsm, nI_add, pk_mul, pk_sub, nI_e, nI_leE, nI_ltE, nI_mI, mI_nI, mI_lt, nlt_mI, mI_le, nle_mI, nI_addm, sh_b, bI_0, bI_1, bI_bI, ckZ_b, ckZ_n0, ckZ_n1, stIe, stJe, stZ_n0, stZ_n1, rm_nI, dv_nI, if_pos, if_neg, rf0, rf1, rf5, rf6, rf7, rf8, rf9, rf20, rf23, rf24, rf25, rf26, rf29, rf31, rf33, rf34, rf35, rf37, rf38, rf41, rf42, rf43,  f_X12_told, lr1, r_gives]
      rw [e2]
      have h8 : k = 0 ∨ k = 1 ∨ k = 2 ∨ k = 3 ∨ k = 4 ∨ k = 5 ∨ k = 6 := by omega
      rcases h8 with rfl | rfl | rfl | rfl | rfl | rfl | rfl
      all_goals
        simp (disch := omega) only [↓mI_e, lit, ofN, bsm, nI_add, pk_mul, pk_sub, nI_e, nI_leE, nI_ltE, nI_mI, mI_nI, mI_lt, nlt_mI, mI_le, nle_mI, nI_addm, sh_b, bI_0, bI_1, bI_bI, ckZ_b, ckZ_n0, ckZ_n1, stIe, stJe, stZ_n0, stZ_n1, rm_nI, dv_nI, if_pos, if_neg, rf0, rf1, rf5, rf6, rf7, rf8, rf9, rf20, rf23, rf24, rf25, rf26, rf29, rf31, rf33, rf34, rf35, rf37, rf38, rf41, rf42, rf43,  f_X11_told, c02, w_0 wM_w, e6, e7, e9, e10, e11, u9, u10, c_answer]
        exact Sm_0 h _ _
/-! alike -/
def alN (f : Nat → Int32) (y i : Nat) : Bool := decide (∀ m, m < i → (1 ≤ m → lk f (tb (rw6 f y 0) y) (tb (rw6 f y m) y) 12 = true))
def alk (f : Nat → Int32) (y : Nat) : Bool := alN f y (pm f)
theorem alN_s (f : Nat → Int32) (y i : Nat) (hi : 1 ≤ i) : alN f y (i + 1) = (alN f y i && lk f (tb (rw6 f y 0) y) (tb (rw6 f y i) y) 12) := by
  have : (alN f y i && lk f (tb (rw6 f y 0) y) (tb (rw6 f y i) y) 12) = decide ((∀ m, m < i → (1 ≤ m → lk f (tb (rw6 f y 0) y) (tb (rw6 f y m) y) 12 = true)) ∧ lk f (tb (rw6 f y 0) y) (tb (rw6 f y i) y) 12 = true) := by
    rw [Bool.decide_and, Bool.decide_eq_true]; rfl
  rw [this]
  unfold alN
  apply decide_eq_decide.mpr
  constructor
  · intro h; exact ⟨fun m hm => h m (by omega), h i (by omega) hi⟩
  · intro h m hm h1
    by_cases e : m = i
    · subst e; exact h.2
    · exact h.1 m (by omega) h1
theorem alN_1 (f : Nat → Int32) (y i : Nat) (hi : i ≤ 1) : alN f y i = true := decide_eq_true (fun m hm h1 => by omega)
theorem alN_no {f : Nat → Int32} {y i j : Nat} (hij : i ≤ j) (h : alN f y i = false) : alN f y j = false := decide_eq_false (fun q => of_decide_eq_false h (fun m hm => q m (by omega)))
theorem pm_le {f : Nat → Int32} : pm f ≤ KN f := by unfold pm; split <;> omega
theorem rw6_lt {f : Nat → Int32} (hf : WFs f) {y m : Nat} (hy : y < YN f) (hm : m < KN f) : rw6 f y m < KN f := (rho_in (wy_dis hf hy) hm).1
theorem r_isAlike_loop {f : Nat → Int32} (hf : WFs f) {y : Nat} (hy : y < YN f) {τ : ST} (hg : gA τ 1 = f) (hr : ∀ m, m < KN f → gA τ 9 m = nI (rw6 f y m)) : ∀ (n i : Nat), 1 ≤ i → (i ≤ pm f ∨ i = 1) → pm f + 1 - i < n → k_X12_isAlike_9 n 0 (nI y) (bI (alN f y i)) (nI i) τ = some (bI (alk f y), τ) := by
  have hK := hf.1
  have hY := hf.2.1
  have hpk := pm_le (f := f)
  intro n
  induction n with
  | zero => intros; omega
  | succ n ih =>
    intro i h1 hi hn
    rw [k_X12_isAlike_9, r_placeMany (by rw [hg]; exact hf), hg]
    by_cases e : pm f ≤ i
    · simp (disch := omega) only [↓mI_e, lit, ofN, bsm, nI_add, pk_mul, pk_sub, nI_e, nI_leE, nI_ltE, nI_mI, mI_nI, mI_lt, nlt_mI, mI_le, nle_mI, nI_addm, sh_b, bI_0, bI_1, bI_bI, ckZ_b, ckZ_n0, ckZ_n1, stIe, stJe, stZ_n0, stZ_n1, rm_nI, dv_nI, if_pos, if_neg, rf0, rf1, rf5, rf6, rf7, rf8, rf9, rf20, rf23, rf24, rf25, rf26, rf29, rf31, rf33, rf34, rf35, rf37, rf38, rf41, rf42, rf43, ]
      unfold alk
      by_cases e2 : i = pm f
      · rw [e2]
      · rw [alN_1 f y i (by omega), alN_1 f y (pm f) (by omega)]
    · have q0 := rw6_lt hf hy (m := 0) (by omega)
      have qi := rw6_lt hf hy (m := i) (by omega)
      have r0 := hr 0 (by omega)
      have ri := hr i (by omega)
      simp (disch := omega) only [↓mI_e, lit, ofN, bsm, nI_add, pk_mul, pk_sub, nI_e, nI_leE, nI_ltE, nI_mI, mI_nI, mI_lt, nlt_mI, mI_le, nle_mI, nI_addm, sh_b, bI_0, bI_1, bI_bI, ckZ_b, ckZ_n0, ckZ_n1, stIe, stJe, stZ_n0, stZ_n1, rm_nI, dv_nI, if_pos, if_neg, rf0, rf1, rf5, rf6, rf7, rf8, rf9, rf20, rf23, rf24, rf25, rf26, rf29, rf31, rf33, rf34, rf35, rf37, rf38, rf41, rf42, rf43,  k_X12_isAlike_55, k_X12_isAlike_54, lr9, r0, ri, f_X12_thingOf, r_areLike, hg]
      have h3 := ih (i + 1) (by omega) (by omega) (by omega)
      rw [alN_s f y i h1] at h3
      unfold tb at h3
      cases c1 : alN f y i
      · rw [c1] at h3; simpa [bI_f, bI_t] using h3
      · rw [c1] at h3
        cases c2 : lk f (30 + 12 * (6 * rw6 f y 0 + y)) (30 + 12 * (6 * rw6 f y i + y)) 12
        · rw [c2] at h3; simpa [bI_f, bI_t] using h3
        · rw [c2] at h3; simpa [bI_f, bI_t] using h3
theorem r_isAlike {y : Nat} {τ : ST} (hf : WFs (gA τ 1)) (hy : y < YN (gA τ 1)) : ∃ g, f_X12_isAlike 0 (nI y) τ = some (bI (alk (gA τ 1) y), sA τ 9 g) ∧ ∀ m, m < KN (gA τ 1) → g m = nI (rw6 (gA τ 1) y m) := by
  obtain ⟨g, h1, h2⟩ := r_laysRow hf hy
  refine ⟨g, ?_, h2⟩
  have h3 := r_isAlike_loop hf hy (τ := sA τ 9 g) rfl (fun m hm => by rw [gA_sA, if_pos rfl]; exact h2 m hm) FU 1 (by omega) (Or.inr rfl) (by have := hf.1; have := pm_le (f := gA τ 1); unfold FU; omega)
  rw [alN_1 _ _ 1 (by omega)] at h3
  unfold f_X12_isAlike
  rw [h1, b_some]
  exact h3
theorem c_isAlike_loop {w : Nat} (hw : isW w) {σ : ST} {f : Nat → Int32} {B : Nat} (h : RS (wv σ w) f) (hH : RH B (wv σ w) f) {y : Nat} (hy : y < YN f) : ∀ (n i : Nat), 1 ≤ i → (i ≤ pm f ∨ i = 1) → pm f + 1 - i < n → alN f y i = true → k_X10_isAlike_20 n w (nI y) (nI (pm f)) (nI i) σ = some (bI (alk f y), σ) := by
  have hf := h.1
  have hK := hf.1
  have hY := hf.2.1
  have hpk := pm_le (f := f)
  intro n
  induction n with
  | zero => intros; omega
  | succ n ih =>
    intro i h1 hi hn ha
    rw [k_X10_isAlike_20]
    by_cases e : pm f ≤ i
    · simp (disch := omega) only [↓mI_e, lit, ofN, bsm, nI_add, pk_mul, pk_sub, nI_e, nI_leE, nI_ltE, nI_mI, mI_nI, mI_lt, nlt_mI, mI_le, nle_mI, nI_addm, sh_b, bI_0, bI_1, bI_bI, ckZ_b, ckZ_n0, ckZ_n1, stIe, stJe, stZ_n0, stZ_n1, rm_nI, dv_nI, if_pos, if_neg, rf0, rf1, rf5, rf6, rf7, rf8, rf9, rf20, rf23, rf24, rf25, rf26, rf29, rf31, rf33, rf34, rf35, rf37, rf38, rf41, rf42, rf43, ]
      unfold alk
      by_cases e2 : i = pm f
      · rw [← e2, ha]; rfl
      · rw [alN_1 f y (pm f) (by omega)]; rfl
    · have q0 := rw6_lt hf hy (m := 0) (by omega)
      have qi := rw6_lt hf hy (m := i) (by omega)
      simp (disch := omega) only [↓mI_e, lit, ofN, bsm, nI_add, pk_mul, pk_sub, nI_e, nI_leE, nI_ltE, nI_mI, mI_nI, mI_lt, nlt_mI, mI_le, nle_mI, nI_addm, sh_b, bI_0, bI_1, bI_bI, ckZ_b, ckZ_n0, ckZ_n1, stIe, stJe, stZ_n0, stZ_n1, rm_nI, dv_nI, if_pos, if_neg, rf0, rf1, rf5, rf6, rf7, rf8, rf9, rf20, rf23, rf24, rf25, rf26, rf29, rf31, rf33, rf34, rf35, rf37, rf38, rf41, rf42, rf43,  w_0 hw, c_keeperAlong hw h hy, c_areLike hw hH]
      have h3 := alN_s f y i h1
      rw [ha] at h3
      cases c2 : lk f (tb (rw6 f y 0) y) (tb (rw6 f y i) y) 12
      · rw [c2] at h3
        unfold alk
        rw [alN_no (j := pm f) (i := i + 1) (by omega) h3]; rfl
      · rw [c2] at h3
        simp only [Bool.true_eq_false, if_false]
        exact ih (i + 1) (by omega) (by omega) (by omega) h3
theorem c_pm {w : Nat} {σ : ST} {f : Nat → Int32} (h : RS (wv σ w) f) : (if gI σ (w + 1) 6 < gI σ (w + 1) 9 then gI σ (w + 1) 6 else gI σ (w + 1) 9) = nI (pm f) := by
  have hf := h.1
  have e6 : gI σ (w + 1) 6 = nI (KN f) := h.2.1.1.trans (eK f)
  have e9 : gI σ (w + 1) 9 = nI (NN f) := h.2.1.2.2.1.trans (eN f)
  obtain ⟨hK, _, hN, _⟩ := hf
  simp (disch := omega) only [e6, e9, nI_ltE]
  unfold pm
  by_cases g : KN f < NN f
  · rw [if_pos g, if_pos (by omega)]
  · rw [if_neg g]
    by_cases g2 : KN f ≤ NN f
    · rw [if_pos g2, show NN f = KN f by omega]
    · rw [if_neg g2]
theorem c_isAlike {w : Nat} (hw : isW w) {σ : ST} {f : Nat → Int32} {B : Nat} (h : RS (wv σ w) f) (hH : RH B (wv σ w) f) {y : Nat} (hy : y < YN f) : f_X10_isAlike w (nI y) σ = some (bI (alk f y), σ) := by
  unfold f_X10_isAlike
  rw [w_0 hw, c_pm h]
  exact c_isAlike_loop hw h hH hy FU 1 (by omega) (Or.inr rfl) (by have := h.1.1; have := pm_le (f := f); unfold FU; omega) (alN_1 _ _ _ (by omega))
/-- a set of keys, built key by key -/
theorem set_step {P : Nat → Bool} {i : Nat} {p p' : Int32} (hp : ∀ k, bt p k = (decide (k < i) && P k)) (h1 : ∀ k, bt p' k = (bt p k || (decide (k = i) && P i))) (k : Nat) : bt p' k = (decide (k < i + 1) && P k) := by
  rw [h1, hp]
  by_cases g : k = i
  · subst g; simp
  · have : decide (k < i + 1) = decide (k < i) := decide_eq_decide.mpr (by omega)
    rw [this, decide_eq_false g]; simp
theorem set_0 (P : Nat → Bool) (k : Nat) : bt (nI 0) k = (decide (k < 0) && P k) := by rw [bt_n0, decide_eq_false (by omega)]; rfl
theorem c_alike_loop {σ : ST} {f : Nat → Int32} {B : Nat} (h : RS (wv σ wM) f) (hH : RH B (wv σ wM) f) : ∀ (n i : Nat) (p : Int32), i ≤ YN f → YN f - i < n → (∀ k, bt p k = (decide (k < i) && alk f k)) → ∃ p', k_X11_alike_4 n 0 p (nI i) σ = some (p', sI σ 0 14 (nI 0)) ∧ ∀ k, bt p' k = (decide (k < YN f) && alk f k) := by
  have hY := h.1.2.1
  have e7 : gI σ (wM + 1) 7 = nI (YN f) := h.2.1.2.1.trans (eY f)
  intro n
  induction n with
  | zero => intros; omega
  | succ n ih =>
    intro i p hi hn hp
    rw [k_X11_alike_4]
    by_cases e : i = YN f
    · subst e
      simp (disch := omega) only [↓mI_e, lit, ofN, bsm, nI_add, pk_mul, pk_sub, nI_e, nI_leE, nI_ltE, nI_mI, mI_nI, mI_lt, nlt_mI, mI_le, nle_mI, nI_addm, sh_b, bI_0, bI_1, bI_bI, ckZ_b, ckZ_n0, ckZ_n1, stIe, stJe, stZ_n0, stZ_n1, rm_nI, dv_nI, if_pos, if_neg, rf0, rf1, rf5, rf6, rf7, rf8, rf9, rf20, rf23, rf24, rf25, rf26, rf29, rf31, rf33, rf34, rf35, rf37, rf38, rf41, rf42, rf43,  c02, w_0 wM_w, e7, c_answer]
      exact ⟨p, rfl, hp⟩
    · simp (disch := omega) only [↓mI_e, lit, ofN, bsm, nI_add, pk_mul, pk_sub, nI_e, nI_leE, nI_ltE, nI_mI, mI_nI, mI_lt, nlt_mI, mI_le, nle_mI, nI_addm, sh_b, bI_0, bI_1, bI_bI, ckZ_b, ckZ_n0, ckZ_n1, stIe, stJe, stZ_n0, stZ_n1, rm_nI, dv_nI, if_pos, if_neg, rf0, rf1, rf5, rf6, rf7, rf8, rf9, rf20, rf23, rf24, rf25, rf26, rf29, rf31, rf33, rf34, rf35, rf37, rf38, rf41, rf42, rf43,  c02, w_0 wM_w, e7, c_isAlike wM_w h hH, k_X11_alike_35]
      cases c : alk f i
      · simp only [if_true]
        exact ih (i + 1) p (by omega) (by omega) (set_step hp (fun k => by rw [c]; simp))
      · simp only [Bool.true_eq_false, if_false]
        exact ih (i + 1) _ (by omega) (by omega) (set_step hp (fun k => by rw [bt_ins _ (by omega), c]; simp))
theorem r_alikes_loop {f : Nat → Int32} (hf : WFs f) : ∀ (n i : Nat) (p : Int32) (τ : ST), i ≤ YN f → YN f - i < n → gA τ 1 = f → (∀ k, bt p k = (decide (k < i) && alk f k)) → ∃ p' g, k_X12_alikes_4 n 0 p (nI i) τ = some (p', sA τ 9 g) ∧ ∀ k, bt p' k = (decide (k < YN f) && alk f k) := by
  have hY := hf.2.1
  intro n
  induction n with
  | zero => intros; omega
  | succ n ih =>
    intro i p τ hi hn hg hp
    rw [k_X12_alikes_4]
    have e4 : gA τ 1 4 = nI (YN f) := by rw [hg]; exact eY f
    by_cases e : i = YN f
    · subst e
      simp (disch := omega) only [↓mI_e, lit, ofN, bsm, nI_add, pk_mul, pk_sub, nI_e, nI_leE, nI_ltE, nI_mI, mI_nI, mI_lt, nlt_mI, mI_le, nle_mI, nI_addm, sh_b, bI_0, bI_1, bI_bI, ckZ_b, ckZ_n0, ckZ_n1, stIe, stJe, stZ_n0, stZ_n1, rm_nI, dv_nI, if_pos, if_neg, rf0, rf1, rf5, rf6, rf7, rf8, rf9, rf20, rf23, rf24, rf25, rf26, rf29, rf31, rf33, rf34, rf35, rf37, rf38, rf41, rf42, rf43,  lr1, e4]
      exact ⟨p, gA τ 9, by rw [sA_self], hp⟩
    · obtain ⟨g, h1, _⟩ := r_isAlike (y := i) (τ := τ) (by rw [hg]; exact hf) (by rw [hg]; omega)
      simp (disch := omega) only [↓mI_e, lit, ofN, bsm, nI_add, pk_mul, pk_sub, nI_e, nI_leE, nI_ltE, nI_mI, mI_nI, mI_lt, nlt_mI, mI_le, nle_mI, nI_addm, sh_b, bI_0, bI_1, bI_bI, ckZ_b, ckZ_n0, ckZ_n1, stIe, stJe, stZ_n0, stZ_n1, rm_nI, dv_nI, if_pos, if_neg, rf0, rf1, rf5, rf6, rf7, rf8, rf9, rf20, rf23, rf24, rf25, rf26, rf29, rf31, rf33, rf34, rf35, rf37, rf38, rf41, rf42, rf43,  lr1, e4, h1, hg, k_X12_alikes_30]
      cases c : alk f i
      · simp only [if_true]
        obtain ⟨p', g', h3, h4⟩ := ih (i + 1) (p ||| nI 0) (sA τ 9 g) (by omega) (by omega) hg (set_step hp (fun k => by rw [bt_or, bt_n0, c]; simp))
        exact ⟨p', g', by rw [h3, sA_sA], h4⟩
      · simp only [Bool.true_eq_false, if_false]
        obtain ⟨p', g', h3, h4⟩ := ih (i + 1) (p ||| (nI 1 <<< (nI i &&& nI 31))) (sA τ 9 g) (by omega) (by omega) hg (set_step hp (fun k => by rw [bt_ins _ (by omega), c]; simp))
        exact ⟨p', g', by rw [h3, sA_sA], h4⟩
theorem sim_alike (i : Nat) : SIM_alike (Rel i) (Rel (i + 6)) := by
  intro σ τ h
  obtain ⟨hS, hU, hT, _, _, hH, _⟩ := h.2.2.2.2.1
  have hY := hS.1.2.1
  show Sm i _ _
  obtain ⟨p, h1, h2⟩ := c_alike_loop hS hH FU 0 (nI 0) (by omega) (by unfold FU; omega) (set_0 _)
  obtain ⟨p', g, h3, h4⟩ := r_alikes_loop hS.1 FU 0 (nI 0) τ (by omega) (by unfold FU; omega) rfl (set_0 _)
  have e : p = p' := bt_ext (fun k _ => (h2 k).trans (h4 k).symm)
  simp (disch := omega) only [↓mI_e, lit, ofN, bsm, nI_add, pk_mul, pk_sub, nI_e, nI_leE, nI_ltE, nI_mI, mI_nI, mI_lt, nlt_mI, mI_le, nle_mI, nI_addm, sh_b, bI_0, bI_1, bI_bI, ckZ_b, ckZ_n0, ckZ_n1, stIe, stJe, stZ_n0, stZ_n1, rm_nI, dv_nI, if_pos, if_neg, rf0, rf1, rf5, rf6, rf7, rf8, rf9, rf20, rf23, rf24, rf25, rf26, rf29, rf31, rf33, rf34, rf35, rf37, rf38, rf41, rf42, rf43,  f_X11_alike, f_X12_alike, f_X12_alikes, h1, h3, r_gives, e]
  exact Sm_9 h _ _ _
/-! differ -/
def dfr (f : Nat → Int32) (a b y : Nat) : Bool := (isPl f y a && isPl f y b) && !lk f (tb a y) (tb b y) 12
theorem c_differ_loop {σ : ST} {f : Nat → Int32} {B a b : Nat} (h : RS (wv σ wM) f) (hH : RH B (wv σ wM) f) (ha : a < 6) (hb : b < 6) : ∀ (n i : Nat) (p : Int32), i ≤ YN f → YN f - i < n → (∀ k, bt p k = (decide (k < i) && dfr f a b k)) → ∃ p', k_X11_differ_27 n 0 (nI a) (nI b) p (nI i) σ = some (p', sI σ 0 14 (nI 0)) ∧ ∀ k, bt p' k = (decide (k < YN f) && dfr f a b k) := by
  have hY := h.1.2.1
  have e7 : gI σ (wM + 1) 7 = nI (YN f) := h.2.1.2.1.trans (eY f)
  intro n
  induction n with
  | zero => intros; omega
  | succ n ih =>
    intro i p hi hn hp
    rw [k_X11_differ_27]
    by_cases e : i = YN f
    · subst e
      simp (disch := omega) only [↓mI_e, lit, ofN, bsm, nI_add, pk_mul, pk_sub, nI_e, nI_leE, nI_ltE, nI_mI, mI_nI, mI_lt, nlt_mI, mI_le, nle_mI, nI_addm, sh_b, bI_0, bI_1, bI_bI, ckZ_b, ckZ_n0, ckZ_n1, stIe, stJe, stZ_n0, stZ_n1, rm_nI, dv_nI, if_pos, if_neg, rf0, rf1, rf5, rf6, rf7, rf8, rf9, rf20, rf23, rf24, rf25, rf26, rf29, rf31, rf33, rf34, rf35, rf37, rf38, rf41, rf42, rf43,  c02, w_0 wM_w, e7, c_answer]
      exact ⟨p, rfl, hp⟩
    · simp (disch := omega) only [↓mI_e, lit, ofN, bsm, nI_add, pk_mul, pk_sub, nI_e, nI_leE, nI_ltE, nI_mI, mI_nI, mI_lt, nlt_mI, mI_le, nle_mI, nI_addm, sh_b, bI_0, bI_1, bI_bI, ckZ_b, ckZ_n0, ckZ_n1, stIe, stJe, stZ_n0, stZ_n1, rm_nI, dv_nI, if_pos, if_neg, rf0, rf1, rf5, rf6, rf7, rf8, rf9, rf20, rf23, rf24, rf25, rf26, rf29, rf31, rf33, rf34, rf35, rf37, rf38, rf41, rf42, rf43,  c02, w_0 wM_w, e7, c_areBothPlaces wM_w h, c_areLike wM_w hH, k_X11_differ_80]
      cases c1 : isPl f i a && isPl f i b
      · simp only [if_true]
        exact ih (i + 1) p (by omega) (by omega) (set_step hp (fun k => by unfold dfr; rw [c1]; simp))
      · simp only [Bool.true_eq_false, if_false]
        cases c2 : lk f (tb a i) (tb b i) 12
        · simp only [if_true]
          exact ih (i + 1) _ (by omega) (by omega) (set_step hp (fun k => by rw [bt_ins _ (by omega)]; unfold dfr; rw [c1, c2]; simp))
        · simp only [Bool.true_eq_false, if_false]
          exact ih (i + 1) p (by omega) (by omega) (set_step hp (fun k => by unfold dfr; rw [c1, c2]; simp))
theorem sh_b2 (x : Int32) {a b : Nat} (ha : a < 32) (hb : b < 32) : ((x >>> (nI a &&& nI 31)) &&& (x >>> (nI b &&& nI 31))) &&& nI 1 = bI (bt x a && bt x b) := by
  have h1 := sh_b x ha
  have h2 := sh_b x hb
  have : ((x >>> (nI a &&& nI 31)) &&& (x >>> (nI b &&& nI 31))) &&& nI 1 = (((x >>> (nI a &&& nI 31)) &&& nI 1) &&& ((x >>> (nI b &&& nI 31)) &&& nI 1)) := by
    apply bt_ext
    intro k hk
    simp only [bt_and]
    cases bt (x >>> (nI a &&& nI 31)) k <;> cases bt (x >>> (nI b &&& nI 31)) k <;> cases bt (nI 1) k <;> rfl
  rw [this, h1, h2]
  cases bt x a <;> cases bt x b <;> rfl
theorem r_differsAt_loop {f : Nat → Int32} (hf : WFs f) {a b : Nat} (ha : a < 6) (hb : b < 6) : ∀ (n i : Nat) (p : Int32) (τ : ST), i ≤ YN f → YN f - i < n → gA τ 1 = f → (∀ k, bt p k = (decide (k < i) && dfr f a b k)) → ∃ p' g, k_X12_differsAt_5 n 0 (nI a) (nI b) p (nI i) τ = some (p', sA τ 9 g) ∧ ∀ k, bt p' k = (decide (k < YN f) && dfr f a b k) := by
  have hY := hf.2.1
  intro n
  induction n with
  | zero => intros; omega
  | succ n ih =>
    intro i p τ hi hn hg hp
    rw [k_X12_differsAt_5]
    have e4 : gA τ 1 4 = nI (YN f) := by rw [hg]; exact eY f
    by_cases e : i = YN f
    · subst e
      simp (disch := omega) only [↓mI_e, lit, ofN, bsm, nI_add, pk_mul, pk_sub, nI_e, nI_leE, nI_ltE, nI_mI, mI_nI, mI_lt, nlt_mI, mI_le, nle_mI, nI_addm, sh_b, bI_0, bI_1, bI_bI, ckZ_b, ckZ_n0, ckZ_n1, stIe, stJe, stZ_n0, stZ_n1, rm_nI, dv_nI, if_pos, if_neg, rf0, rf1, rf5, rf6, rf7, rf8, rf9, rf20, rf23, rf24, rf25, rf26, rf29, rf31, rf33, rf34, rf35, rf37, rf38, rf41, rf42, rf43,  lr1, e4]
      exact ⟨p, gA τ 9, by rw [sA_self], hp⟩
    · obtain ⟨q, g, h1, h2, _⟩ := r_placesOf (y := i) (τ := τ) (by rw [hg]; exact hf) (by rw [hg]; omega)
      rw [hg] at h2
      have hga : gA (sA τ 9 g) 1 = f := hg
      simp (disch := omega) only [↓mI_e, lit, ofN, bsm, nI_add, pk_mul, pk_sub, nI_e, nI_leE, nI_ltE, nI_mI, mI_nI, mI_lt, nlt_mI, mI_le, nle_mI, nI_addm, sh_b, bI_0, bI_1, bI_bI, ckZ_b, ckZ_n0, ckZ_n1, stIe, stJe, stZ_n0, stZ_n1, rm_nI, dv_nI, if_pos, if_neg, rf0, rf1, rf5, rf6, rf7, rf8, rf9, rf20, rf23, rf24, rf25, rf26, rf29, rf31, rf33, rf34, rf35, rf37, rf38, rf41, rf42, rf43,  lr1, e4, h1, sh_b2, h2, f_X12_thingOf, r_areLike, hga, k_X12_differsAt_68, k_X12_differsAt_69]
      have go : ∀ p', (∀ k, bt p' k = (bt p k || (decide (k = i) && dfr f a b i))) → ∃ p'' g', k_X12_differsAt_5 n 0 (nI a) (nI b) p' (nI (i + 1)) (sA τ 9 g) = some (p'', sA τ 9 g') ∧ ∀ k, bt p'' k = (decide (k < YN f) && dfr f a b k) := by
        intro p' hp'
        obtain ⟨p'', g', h3, h4⟩ := ih (i + 1) p' (sA τ 9 g) (by omega) (by omega) hg (set_step hp hp')
        exact ⟨p'', g', by rw [h3, sA_sA], h4⟩
      cases c1 : isPl f i a && isPl f i b
      · simp only [Bool.false_eq_true, if_false]
        exact go _ (fun k => by unfold dfr; rw [bt_or, bt_n0, c1]; simp)
      · simp only [if_true]
        cases c2 : lk f (30 + 12 * (6 * a + i)) (30 + 12 * (6 * b + i)) 12
        · simp only [if_true]
          exact go _ (fun k => by unfold dfr tb; rw [bt_ins _ (by omega), c1, c2]; simp)
        · simp only [Bool.true_eq_false, if_false]
          exact go _ (fun k => by unfold dfr tb; rw [bt_or, bt_n0, c1, c2]; simp)
theorem r_differsAt {τ : ST} (hf : WFs (gA τ 1)) {a b : Nat} (ha : a < 6) (hb : b < 6) : ∃ p' g, f_X12_differsAt 0 (nI a) (nI b) τ = some (p', sA τ 9 g) ∧ ∀ k, bt p' k = (decide (k < YN (gA τ 1)) && dfr (gA τ 1) a b k) := by
  have hY := hf.2.1
  exact r_differsAt_loop hf ha hb FU 0 (nI 0) τ (by omega) (by unfold FU; omega) rfl (set_0 _)
theorem sim_differ (i : Nat) : SIM_differ (Rel i) (Rel (i + 6)) := by
  intro a0 a1 σ τ h
  obtain ⟨hS, hU, hT, _, _, hH, _⟩ := h.2.2.2.2.1
  have hK := hS.1.1
  have hY := hS.1.2.1
  show Sm i _ _
  rcases keeper_cases hS.1 a0 with hb | ⟨a, ha, rfl⟩
  · simp (disch := omega) only [↓mI_e, lit, ofN, bsm, nI_add, pk_mul, pk_sub, nI_e, nI_leE, nI_ltE, nI_mI, mI_nI, mI_lt, nlt_mI, mI_le, nle_mI, nI_addm, sh_b, bI_0, bI_1, bI_bI, ckZ_b, ckZ_n0, ckZ_n1, stIe, stJe, stZ_n0, stZ_n1, rm_nI, dv_nI, if_pos, if_neg, rf0, rf1, rf5, rf6, rf7, rf8, rf9, rf20, rf23, rf24, rf25, rf26, rf29, rf31, rf33, rf34, rf35, rf37, rf38, rf41, rf42, rf43,  f_X11_differ, k_X11_differ_16, k_X11_differ_80, f_X12_differ, k_X12_differ_29, k_X12_differ_34, c_isKeeper_no hS hb, r_isKeeper_no hb, c_refuse, r_refuse]
    exact Sm_0 h _ _
  · rcases keeper_cases hS.1 a1 with hb | ⟨b, hb, rfl⟩
    · simp (disch := omega) only [↓mI_e, lit, ofN, bsm, nI_add, pk_mul, pk_sub, nI_e, nI_leE, nI_ltE, nI_mI, mI_nI, mI_lt, nlt_mI, mI_le, nle_mI, nI_addm, sh_b, bI_0, bI_1, bI_bI, ckZ_b, ckZ_n0, ckZ_n1, stIe, stJe, stZ_n0, stZ_n1, rm_nI, dv_nI, if_pos, if_neg, rf0, rf1, rf5, rf6, rf7, rf8, rf9, rf20, rf23, rf24, rf25, rf26, rf29, rf31, rf33, rf34, rf35, rf37, rf38, rf41, rf42, rf43,  f_X11_differ, k_X11_differ_16, k_X11_differ_80, f_X12_differ, k_X12_differ_29, k_X12_differ_34, c_isKeeper_yes hS ha, r_isKeeper_y hS.1 ha, c_isKeeper_no hS hb, r_isKeeper_no hb, c_refuse, r_refuse]
      exact Sm_0 h _ _
    · obtain ⟨p, h1, h2⟩ := c_differ_loop (a := a) (b := b) hS hH (by omega) (by omega) FU 0 (nI 0) (by omega) (by unfold FU; omega) (set_0 _)
      obtain ⟨p', g, h3, h4⟩ := r_differsAt (τ := τ) hS.1 (a := a) (b := b) (by omega) (by omega)
      have e : p = p' := bt_ext (fun k _ => (h2 k).trans (h4 k).symm)
      simp (disch := omega) only [↓mI_e, lit, ofN, bsm, nI_add, pk_mul, pk_sub, nI_e, nI_leE, nI_ltE, nI_mI, mI_nI, mI_lt, nlt_mI, mI_le, nle_mI, nI_addm, sh_b, bI_0, bI_1, bI_bI, ckZ_b, ckZ_n0, ckZ_n1, stIe, stJe, stZ_n0, stZ_n1, rm_nI, dv_nI, if_pos, if_neg, rf0, rf1, rf5, rf6, rf7, rf8, rf9, rf20, rf23, rf24, rf25, rf26, rf29, rf31, rf33, rf34, rf35, rf37, rf38, rf41, rf42, rf43,  f_X11_differ, k_X11_differ_16, k_X11_differ_80, f_X12_differ, k_X12_differ_29, k_X12_differ_34, c_isKeeper_yes hS ha, r_isKeeper_y hS.1 ha, c_isKeeper_yes hS hb, r_isKeeper_y hS.1 hb, h1, h3, e, r_gives]
      exact Sm_9 h _ _ _
/-! load -/
theorem c_load_loop {σ : ST} {f : Nat → Int32} {a : Nat} (h : RS (wv σ wM) f) (ha : a < 6) : ∀ (n i : Nat), i ≤ YN f → YN f - i < n → k_X11_load_18 n 0 (nI a) (nI (cnt (fun y => isPl f y a) i)) (nI i) σ = some (nI (cnt (fun y => isPl f y a) (YN f)), sI σ 0 14 (nI 0)) := by
  have hY := h.1.2.1
  have e7 : gI σ (wM + 1) 7 = nI (YN f) := h.2.1.2.1.trans (eY f)
  intro n
  induction n with
  | zero => intros; omega
  | succ n ih =>
    intro i hi hn
    rw [k_X11_load_18]
    by_cases e : i = YN f
    · subst e
      simp (disch := omega) only [↓mI_e, lit, ofN, bsm, nI_add, pk_mul, pk_sub, nI_e, nI_leE, nI_ltE, nI_mI, mI_nI, mI_lt, nlt_mI, mI_le, nle_mI, nI_addm, sh_b, bI_0, bI_1, bI_bI, ckZ_b, ckZ_n0, ckZ_n1, stIe, stJe, stZ_n0, stZ_n1, rm_nI, dv_nI, if_pos, if_neg, rf0, rf1, rf5, rf6, rf7, rf8, rf9, rf20, rf23, rf24, rf25, rf26, rf29, rf31, rf33, rf34, rf35, rf37, rf38, rf41, rf42, rf43,  c02, w_0 wM_w, e7, c_answer]
    · simp (disch := omega) only [↓mI_e, lit, ofN, bsm, nI_add, pk_mul, pk_sub, nI_e, nI_leE, nI_ltE, nI_mI, mI_nI, mI_lt, nlt_mI, mI_le, nle_mI, nI_addm, sh_b, bI_0, bI_1, bI_bI, ckZ_b, ckZ_n0, ckZ_n1, stIe, stJe, stZ_n0, stZ_n1, rm_nI, dv_nI, if_pos, if_neg, rf0, rf1, rf5, rf6, rf7, rf8, rf9, rf20, rf23, rf24, rf25, rf26, rf29, rf31, rf33, rf34, rf35, rf37, rf38, rf41, rf42, rf43,  c02, w_0 wM_w, e7, c_isPlace wM_w h, k_X11_load_50]
      have h3 := ih (i + 1) (by omega) (by omega)
      rw [cnt] at h3
      cases c : isPl f i a
      · simp only [c] at h3; simpa using h3
      · simp only [c] at h3; simpa using h3
theorem r_load_loop {f : Nat → Int32} (hf : WFs f) {a : Nat} (ha : a < 6) : ∀ (n i : Nat) (τ : ST), i ≤ YN f → YN f - i < n → gA τ 1 = f → ∃ g, k_X12_load_18 n 0 (nI a) (nI (cnt (fun y => isPl f y a) i)) (nI i) τ = some (nI (cnt (fun y => isPl f y a) (YN f)), sI (sA τ 9 g) 0 2 (nI 0)) := by
  have hY := hf.2.1
  intro n
  induction n with
  | zero => intros; omega
  | succ n ih =>
    intro i τ hi hn hg
    rw [k_X12_load_18]
    have e4 : gA τ 1 4 = nI (YN f) := by rw [hg]; exact eY f
    by_cases e : i = YN f
    · subst e
      simp (disch := omega) only [↓mI_e, lit, ofN, bsm, nI_add, pk_mul, pk_sub, nI_e, nI_leE, nI_ltE, nI_mI, mI_nI, mI_lt, nlt_mI, mI_le, nle_mI, nI_addm, sh_b, bI_0, bI_1, bI_bI, ckZ_b, ckZ_n0, ckZ_n1, stIe, stJe, stZ_n0, stZ_n1, rm_nI, dv_nI, if_pos, if_neg, rf0, rf1, rf5, rf6, rf7, rf8, rf9, rf20, rf23, rf24, rf25, rf26, rf29, rf31, rf33, rf34, rf35, rf37, rf38, rf41, rf42, rf43,  lr1, e4, r_gives]
      exact ⟨gA τ 9, by rw [sA_self]⟩
    · obtain ⟨g, h1⟩ := r_isPlace (y := i) (k := a) (τ := τ) (by rw [hg]; exact hf) (by rw [hg]; omega) (by omega)
      simp (disch := omega) only [↓mI_e, lit, ofN, bsm, nI_add, pk_mul, pk_sub, nI_e, nI_leE, nI_ltE, nI_mI, mI_nI, mI_lt, nlt_mI, mI_le, nle_mI, nI_addm, sh_b, bI_0, bI_1, bI_bI, ckZ_b, ckZ_n0, ckZ_n1, stIe, stJe, stZ_n0, stZ_n1, rm_nI, dv_nI, if_pos, if_neg, rf0, rf1, rf5, rf6, rf7, rf8, rf9, rf20, rf23, rf24, rf25, rf26, rf29, rf31, rf33, rf34, rf35, rf37, rf38, rf41, rf42, rf43,  lr1, e4, h1, hg, k_X12_load_43]
      obtain ⟨g', h3⟩ := ih (i + 1) (sA τ 9 g) (by omega) (by omega) hg
      rw [cnt, sA_sA] at h3
      refine ⟨g', ?_⟩
      cases c : isPl f i a
      · simp only [c] at h3; simpa using h3
      · simp only [c] at h3; simpa using h3
theorem sim_load (i : Nat) : SIM_load (Rel i) (Rel (i + 6)) := by
  intro a0 σ τ h
  have hS := h.2.2.2.2.1.1
  have hK := hS.1.1
  have hY := hS.1.2.1
  show Sm i _ _
  rcases keeper_cases hS.1 a0 with hb | ⟨a, ha, rfl⟩
  · simp (disch := omega) only [↓mI_e, lit, ofN, bsm, nI_add, pk_mul, pk_sub, nI_e, nI_leE, nI_ltE, nI_mI, mI_nI, mI_lt, nlt_mI, mI_le, nle_mI, nI_addm, sh_b, bI_0, bI_1, bI_bI, ckZ_b, ckZ_n0, ckZ_n1, stIe, stJe, stZ_n0, stZ_n1, rm_nI, dv_nI, if_pos, if_neg, rf0, rf1, rf5, rf6, rf7, rf8, rf9, rf20, rf23, rf24, rf25, rf26, rf29, rf31, rf33, rf34, rf35, rf37, rf38, rf41, rf42, rf43,  f_X11_load, k_X11_load_50, f_X12_load, k_X12_load_43, c_isKeeper_no hS hb, r_isKeeper_no hb, c_refuse, r_refuse]
    exact Sm_0 h _ _
  · have h1 := c_load_loop (a := a) hS (by omega) FU 0 (by omega) (by unfold FU; omega)
    obtain ⟨g, h3⟩ := r_load_loop hS.1 (a := a) (by omega) FU 0 τ (by omega) (by unfold FU; omega) rfl
    rw [cnt] at h1 h3
    simp (disch := omega) only [↓mI_e, lit, ofN, bsm, nI_add, pk_mul, pk_sub, nI_e, nI_leE, nI_ltE, nI_mI, mI_nI, mI_lt, nlt_mI, mI_le, nle_mI, nI_addm, sh_b, bI_0, bI_1, bI_bI, ckZ_b, ckZ_n0, ckZ_n1, stIe, stJe, stZ_n0, stZ_n1, rm_nI, dv_nI, if_pos, if_neg, rf0, rf1, rf5, rf6, rf7, rf8, rf9, rf20, rf23, rf24, rf25, rf26, rf29, rf31, rf33, rf34, rf35, rf37, rf38, rf41, rf42, rf43,  f_X11_load, k_X11_load_50, f_X12_load, k_X12_load_43, c_isKeeper_yes hS ha, r_isKeeper_y hS.1 ha, h1, h3]
    exact Sm_9 h _ _ _
/-! twins, seen, partOf -/
theorem CR_bits {s : Bool} {σ : ST} {c i : Nat} {t : Nat → Int32} (h : CR s σ c i t) : ∀ n, n ≤ 6 → pc6 (gA σ (c + 1)) (i * 6) n = if s then 0 else pc6 t 0 n
  | 0, _ => by cases s <;> rfl
  | n + 1, hn => by
    have ih := CR_bits h n (by omega)
    have h1 := h n (by omega)
    rw [pc6, ih]
    cases s
    · simp only [Bool.false_eq_true, if_false] at h1 ⊢
      rw [h1.1, pc6, show 0 + n = n by omega]
    · simp only [if_true] at h1 ⊢
      rw [h1.1, vN_nI (by decide), pcN_0]
theorem pc6_sh (f : Nat → Int32) (a : Nat) : ∀ n, pc6 (sh f a) 0 n = pc6 f a n
  | 0 => rfl
  | n + 1 => by rw [pc6, pc6, pc6_sh f a n]; unfold sh; rw [show a + (0 + n) = a + n by omega]
theorem sim_twins (i : Nat) : SIM_twins (Rel i) (Rel (i + 6)) := by
  intro a0 a1 σ τ h
  obtain ⟨hS, hU, hT, _, _, hH, _⟩ := h.2.2.2.2.1
  have hK := hS.1.1
  have hY := hS.1.2.1
  show Sm i _ _
  rcases keeper_cases hS.1 a0 with hb | ⟨a, ha, rfl⟩
  · simp (disch := omega) only [↓mI_e, lit, ofN, bsm, nI_add, pk_mul, pk_sub, nI_e, nI_leE, nI_ltE, nI_mI, mI_nI, mI_lt, nlt_mI, mI_le, nle_mI, nI_addm, sh_b, bI_0, bI_1, bI_bI, ckZ_b, ckZ_n0, ckZ_n1, stIe, stJe, stZ_n0, stZ_n1, rm_nI, dv_nI, if_pos, if_neg, rf0, rf1, rf5, rf6, rf7, rf8, rf9, rf20, rf23, rf24, rf25, rf26, rf29, rf31, rf33, rf34, rf35, rf37, rf38, rf41, rf42, rf43,  f_X11_twins, k_X11_twins_16, f_X12_twins, k_X12_twins_34, k_X12_twins_39, c_isKeeper_no hS hb, r_isKeeper_no hb, c_refuse, r_refuse]
    exact Sm_0 h _ _
  · rcases key_cases hS.1 a1 with hb | ⟨y, hy, rfl⟩
    · simp (disch := omega) only [↓mI_e, lit, ofN, bsm, nI_add, pk_mul, pk_sub, nI_e, nI_leE, nI_ltE, nI_mI, mI_nI, mI_lt, nlt_mI, mI_le, nle_mI, nI_addm, sh_b, bI_0, bI_1, bI_bI, ckZ_b, ckZ_n0, ckZ_n1, stIe, stJe, stZ_n0, stZ_n1, rm_nI, dv_nI, if_pos, if_neg, rf0, rf1, rf5, rf6, rf7, rf8, rf9, rf20, rf23, rf24, rf25, rf26, rf29, rf31, rf33, rf34, rf35, rf37, rf38, rf41, rf42, rf43,  f_X11_twins, k_X11_twins_16, f_X12_twins, k_X12_twins_34, k_X12_twins_39, c_isKeeper_yes hS ha, r_isKeeper_y hS.1 ha, c_isKey_no hS hb, r_isKey_no hb, c_refuse, r_refuse]
      exact Sm_0 h _ _
    · have e := CR_bits (wv_CR (by decide) (hH a y (by omega) (by omega)).1) 6 (Nat.le_refl _)
      rw [pc6_sh] at e
      simp (disch := omega) only [↓mI_e, lit, ofN, bsm, nI_add, pk_mul, pk_sub, nI_e, nI_leE, nI_ltE, nI_mI, mI_nI, mI_lt, nlt_mI, mI_le, nle_mI, nI_addm, sh_b, bI_0, bI_1, bI_bI, ckZ_b, ckZ_n0, ckZ_n1, stIe, stJe, stZ_n0, stZ_n1, rm_nI, dv_nI, if_pos, if_neg, rf0, rf1, rf5, rf6, rf7, rf8, rf9, rf20, rf23, rf24, rf25, rf26, rf29, rf31, rf33, rf34, rf35, rf37, rf38, rf41, rf42, rf43,  f_X11_twins, k_X11_twins_16, f_X12_twins, k_X12_twins_34, k_X12_twins_39, c_isKeeper_yes hS ha, r_isKeeper_y hS.1 ha, c_isKey_yes hS hy, r_isKey_y hS.1 hy, c02, w_2 wM_w, f_X10_cellOf, f_X12_thingOf, c_twinCount (isC_h wM_w), r_twinsOf, e, c_answer, r_gives]
      exact Sm_0 h _ _
theorem sim_seen (i : Nat) : SIM_seen (Rel i) (Rel (i + 6)) := by
  intro a0 a1 a2 σ τ h
  obtain ⟨hS, hU, hT, _, _, hH, _⟩ := h.2.2.2.2.1
  have hK := hS.1.1
  have hY := hS.1.2.1
  show Sm i _ _
  rcases keeper_cases hS.1 a0 with hb | ⟨a, ha, rfl⟩
  · simp (disch := omega) only [↓mI_e, lit, ofN, bsm, nI_add, pk_mul, pk_sub, nI_e, nI_leE, nI_ltE, nI_mI, mI_nI, mI_lt, nlt_mI, mI_le, nle_mI, nI_addm, sh_b, bI_0, bI_1, bI_bI, ckZ_b, ckZ_n0, ckZ_n1, stIe, stJe, stZ_n0, stZ_n1, rm_nI, dv_nI, if_pos, if_neg, rf0, rf1, rf5, rf6, rf7, rf8, rf9, rf20, rf23, rf24, rf25, rf26, rf29, rf31, rf33, rf34, rf35, rf37, rf38, rf41, rf42, rf43,  f_X11_seen, k_X11_seen_24, k_X11_seen_65, f_X12_seen, k_X12_seen_53, k_X12_seen_59, k_X12_seen_64, c_isKeeper_no hS hb, r_isKeeper_no hb, c_refuse, r_refuse]
    exact Sm_0 h _ _
  · rcases key_cases hS.1 a1 with hb | ⟨y, hy, rfl⟩
    · simp (disch := omega) only [↓mI_e, lit, ofN, bsm, nI_add, pk_mul, pk_sub, nI_e, nI_leE, nI_ltE, nI_mI, mI_nI, mI_lt, nlt_mI, mI_le, nle_mI, nI_addm, sh_b, bI_0, bI_1, bI_bI, ckZ_b, ckZ_n0, ckZ_n1, stIe, stJe, stZ_n0, stZ_n1, rm_nI, dv_nI, if_pos, if_neg, rf0, rf1, rf5, rf6, rf7, rf8, rf9, rf20, rf23, rf24, rf25, rf26, rf29, rf31, rf33, rf34, rf35, rf37, rf38, rf41, rf42, rf43,  f_X11_seen, k_X11_seen_24, k_X11_seen_65, f_X12_seen, k_X12_seen_53, k_X12_seen_59, k_X12_seen_64, c_isKeeper_yes hS ha, r_isKeeper_y hS.1 ha, c_isKey_no hS hb, r_isKey_no hb, c_refuse, r_refuse]
      exact Sm_0 h _ _
    · rcases keeper_cases hS.1 a2 with hb | ⟨b, hb, rfl⟩
      · simp (disch := omega) only [↓mI_e, lit, ofN, bsm, nI_add, pk_mul, pk_sub, nI_e, nI_leE, nI_ltE, nI_mI, mI_nI, mI_lt, nlt_mI, mI_le, nle_mI, nI_addm, sh_b, bI_0, bI_1, bI_bI, ckZ_b, ckZ_n0, ckZ_n1, stIe, stJe, stZ_n0, stZ_n1, rm_nI, dv_nI, if_pos, if_neg, rf0, rf1, rf5, rf6, rf7, rf8, rf9, rf20, rf23, rf24, rf25, rf26, rf29, rf31, rf33, rf34, rf35, rf37, rf38, rf41, rf42, rf43,  f_X11_seen, k_X11_seen_24, k_X11_seen_65, f_X12_seen, k_X12_seen_53, k_X12_seen_59, k_X12_seen_64, c_isKeeper_yes hS ha, r_isKeeper_y hS.1 ha, c_isKey_yes hS hy, r_isKey_y hS.1 hy, c_isKeeper_no hS hb, r_isKeeper_no hb, c_refuse, r_refuse]
        exact Sm_0 h _ _
      · have e := (wv_CR (by decide) (hH a y (by omega) (by omega)).1) b (by omega)
        have hw := wM_w
        simp (disch := omega) only [↓mI_e, lit, ofN, bsm, nI_add, pk_mul, pk_sub, nI_e, nI_leE, nI_ltE, nI_mI, mI_nI, mI_lt, nlt_mI, mI_le, nle_mI, nI_addm, sh_b, bI_0, bI_1, bI_bI, ckZ_b, ckZ_n0, ckZ_n1, stIe, stJe, stZ_n0, stZ_n1, rm_nI, dv_nI, if_pos, if_neg, rf0, rf1, rf5, rf6, rf7, rf8, rf9, rf20, rf23, rf24, rf25, rf26, rf29, rf31, rf33, rf34, rf35, rf37, rf38, rf41, rf42, rf43,  f_X11_seen, k_X11_seen_24, k_X11_seen_65, f_X12_seen, k_X12_seen_53, k_X12_seen_59, k_X12_seen_64, c_isKeeper_yes hS ha, r_isKeeper_y hS.1 ha, c_isKey_yes hS hy, r_isKey_y hS.1 hy, c_isKeeper_yes hS hb, r_isKeeper_y hS.1 hb, c02, w_0 hw, w_2 hw, wh_1 hw, lw17 hw, f_X10_cellOf, f_X12_thingOf, f_X0_seenOf, c_isSum hw hS, r_isSum, lr1, c_answer, r_gives]
        cases c : sm (gA τ 1) y
        · rw [c] at e
          have e2 : gA σ (wM + 17) ((a * 6 + y) * 6 + b) = gA τ 1 (30 + 12 * (6 * a + y) + 6 + b) := by
            have := e.2
            unfold sh tb at this
            rw [show 30 + 12 * (6 * a + y) + 6 + b = 30 + 12 * (6 * a + y) + (6 + b) by omega]
            exact this
          simp only [if_true, e2]
          exact Sm_0 h _ _
        · exact Sm_0 h _ _
theorem sim_partOf (i : Nat) : SIM_partOf (Rel i) (Rel (i + 6)) := by
  intro a0 a1 a2 σ τ h
  obtain ⟨hS, hU, hT, _, _, hH, _⟩ := h.2.2.2.2.1
  have hK := hS.1.1
  have hY := hS.1.2.1
  show Sm i _ _
  rcases keeper_cases hS.1 a0 with hb | ⟨a, ha, rfl⟩
  · simp (disch := omega) only [↓mI_e, lit, ofN, bsm, nI_add, pk_mul, pk_sub, nI_e, nI_leE, nI_ltE, nI_mI, mI_nI, mI_lt, nlt_mI, mI_le, nle_mI, nI_addm, sh_b, bI_0, bI_1, bI_bI, ckZ_b, ckZ_n0, ckZ_n1, stIe, stJe, stZ_n0, stZ_n1, rm_nI, dv_nI, if_pos, if_neg, rf0, rf1, rf5, rf6, rf7, rf8, rf9, rf20, rf23, rf24, rf25, rf26, rf29, rf31, rf33, rf34, rf35, rf37, rf38, rf41, rf42, rf43,  f_X11_partOf, k_X11_partOf_24, f_X12_partOf, k_X12_partOf_24, k_X12_partOf_64, c_isKeeper_no hS hb, r_isKeeper_no hb, c_refuse, r_refuse]
    exact Sm_0 h _ _
  · rcases key_cases hS.1 a1 with hb | ⟨y, hy, rfl⟩
    · simp (disch := omega) only [↓mI_e, lit, ofN, bsm, nI_add, pk_mul, pk_sub, nI_e, nI_leE, nI_ltE, nI_mI, mI_nI, mI_lt, nlt_mI, mI_le, nle_mI, nI_addm, sh_b, bI_0, bI_1, bI_bI, ckZ_b, ckZ_n0, ckZ_n1, stIe, stJe, stZ_n0, stZ_n1, rm_nI, dv_nI, if_pos, if_neg, rf0, rf1, rf5, rf6, rf7, rf8, rf9, rf20, rf23, rf24, rf25, rf26, rf29, rf31, rf33, rf34, rf35, rf37, rf38, rf41, rf42, rf43,  f_X11_partOf, k_X11_partOf_24, f_X12_partOf, k_X12_partOf_24, k_X12_partOf_64, c_isKeeper_yes hS ha, r_isKeeper_y hS.1 ha, c_isKey_no hS hb, r_isKey_no hb, c_refuse, r_refuse]
      exact Sm_0 h _ _
    · rcases keeper_cases hS.1 a2 with hb | ⟨b, hb, rfl⟩
      · simp (disch := omega) only [↓mI_e, lit, ofN, bsm, nI_add, pk_mul, pk_sub, nI_e, nI_leE, nI_ltE, nI_mI, mI_nI, mI_lt, nlt_mI, mI_le, nle_mI, nI_addm, sh_b, bI_0, bI_1, bI_bI, ckZ_b, ckZ_n0, ckZ_n1, stIe, stJe, stZ_n0, stZ_n1, rm_nI, dv_nI, if_pos, if_neg, rf0, rf1, rf5, rf6, rf7, rf8, rf9, rf20, rf23, rf24, rf25, rf26, rf29, rf31, rf33, rf34, rf35, rf37, rf38, rf41, rf42, rf43,  f_X11_partOf, k_X11_partOf_24, f_X12_partOf, k_X12_partOf_24, k_X12_partOf_64, c_isKeeper_yes hS ha, r_isKeeper_y hS.1 ha, c_isKey_yes hS hy, r_isKey_y hS.1 hy, c_isKeeper_no hS hb, r_isKeeper_no hb, c_refuse, r_refuse]
        exact Sm_0 h _ _
      · have e := (wv_CR (by decide) (hH a y (by omega) (by omega)).1) b (by omega)
        have hw := wM_w
        simp (disch := omega) only [↓mI_e, lit, ofN, bsm, nI_add, pk_mul, pk_sub, nI_e, nI_leE, nI_ltE, nI_mI, mI_nI, mI_lt, nlt_mI, mI_le, nle_mI, nI_addm, sh_b, bI_0, bI_1, bI_bI, ckZ_b, ckZ_n0, ckZ_n1, stIe, stJe, stZ_n0, stZ_n1, rm_nI, dv_nI, if_pos, if_neg, rf0, rf1, rf5, rf6, rf7, rf8, rf9, rf20, rf23, rf24, rf25, rf26, rf29, rf31, rf33, rf34, rf35, rf37, rf38, rf41, rf42, rf43,  f_X11_partOf, k_X11_partOf_24, f_X12_partOf, k_X12_partOf_24, k_X12_partOf_64, c_isKeeper_yes hS ha, r_isKeeper_y hS.1 ha, c_isKey_yes hS hy, r_isKey_y hS.1 hy, c_isKeeper_yes hS hb, r_isKeeper_y hS.1 hb, c02, w_0 hw, w_2 hw, wh_1 hw, lw17 hw, f_X10_cellOf, f_X12_thingOf, f_X0_seenOf, c_isSum hw hS, r_isSum, lr1, c_answer, r_gives, c_refuse, r_refuse]
        cases c : sm (gA τ 1) y
        · exact Sm_0 h _ _
        · rw [c] at e
          have e2 : gA σ (wM + 17) ((a * 6 + y) * 6 + b) = gA τ 1 (30 + 12 * (6 * a + y) + b) := e.2.1
          simp only [Bool.true_eq_false, if_false, e2]
          exact Sm_0 h _ _
