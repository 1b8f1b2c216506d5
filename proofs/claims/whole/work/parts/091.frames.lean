/-! FRAMES: what a call leaves as it was -/
def scI (k : Nat) : Bool := [11, 12, 13, 14, 15, 18, 19, 21, 22, 27, 30, 36, 45].contains k
def scA (x : Nat) : Bool := [7, 8, 9, 10, 11, 12, 13, 15, 16, 17, 18, 19].contains x
/-- the reference: only its work rows, the row at, and the fields e have changed -/
def Sc (e : List Nat) (τ τ1 : ST) : Prop := (∀ k, scI k = false → e.contains k = false → gI τ1 0 k = gI τ 0 k) ∧ (∀ k, e.contains k = false → gJ τ1 0 k = gJ τ 0 k) ∧ (∀ x, scA x = false → x ≠ 1 → gA τ1 x = gA τ x) ∧ ∀ x, gB τ1 x = gB τ x
theorem Sc.rf {e : List Nat} (τ : ST) : Sc e τ τ := ⟨fun _ _ _ => rfl, fun _ _ => rfl, fun _ _ _ => rfl, fun _ => rfl⟩
theorem Sc.trans {e : List Nat} {τ τ1 τ2 : ST} (h : Sc e τ τ1) (h2 : Sc e τ1 τ2) : Sc e τ τ2 := ⟨fun k a b => (h2.1 k a b).trans (h.1 k a b), fun k a => (h2.2.1 k a).trans (h.2.1 k a), fun x a b => (h2.2.2.1 x a b).trans (h.2.2.1 x a b), fun x => (h2.2.2.2 x).trans (h.2.2.2 x)⟩
theorem Sc.sI {e : List Nat} {τ τ1 : ST} (h : Sc e τ τ1) {k : Nat} (v : Int32) (hk : (scI k || e.contains k) = true) : Sc e τ (sI τ1 0 k v) := h.trans ⟨fun j a b => by
    rw [gI_sI, if_neg]
    intro q
    rw [q.2] at a b
    rw [a, b] at hk
    exact absurd hk (by decide), fun _ _ => rfl, fun _ _ _ => rfl, fun _ => rfl⟩
theorem Sc.sJ {e : List Nat} {τ τ1 : ST} (h : Sc e τ τ1) {k : Nat} (v : Int64) (hk : e.contains k = true) : Sc e τ (sJ τ1 0 k v) := h.trans ⟨fun _ _ _ => rfl, fun j a => by
    rw [gJ_sJ, if_neg]
    intro q
    rw [q.2, hk] at a
    exact absurd a (by decide), fun _ _ _ => rfl, fun _ => rfl⟩
theorem Sc.sA {e : List Nat} {τ τ1 : ST} (h : Sc e τ τ1) {x : Nat} (f : Nat → Int32) (hx : (scA x || x == 1) = true) : Sc e τ (sA τ1 x f) := h.trans ⟨fun _ _ _ => rfl, fun _ _ => rfl, fun y a b => by
    rw [gA_sA, if_neg]
    intro q
    subst q
    rw [a] at hx
    exact b (by simpa using hx), fun _ => rfl⟩
theorem Sc.mono {e e2 : List Nat} {τ τ1 : ST} (h : Sc e τ τ1) (he : ∀ k, e2.contains k = false → e.contains k = false) : Sc e2 τ τ1 := ⟨fun k a b => h.1 k a (he k b), fun k a => h.2.1 k (he k a), h.2.2.1, h.2.2.2⟩
def scC (x : Nat) : Bool := (decide (32 ≤ x) && decide (x ≤ 48)) || ((decide (50 ≤ x) && (decide (x ≤ 77) && false)) || ((decide (80 ≤ x) && (decide (x ≤ 99) && decide (84 ≤ x))) || x == 101))
/-- the class: only its work rows, the cells E, and the fields e of the object itself have changed -/
def Sq (E : Nat → Bool) (e : List Nat) (σ σ1 : ST) : Prop := (∀ k, e.contains k = false → gI σ1 0 k = gI σ 0 k) ∧ (∀ k, e.contains k = false → gJ σ1 0 k = gJ σ 0 k) ∧ ∀ x, x ≠ 0 → scC x = false → E x = false → (∀ k, gI σ1 x k = gI σ x k) ∧ (∀ k, gJ σ1 x k = gJ σ x k) ∧ gA σ1 x = gA σ x ∧ gB σ1 x = gB σ x
theorem Sq.rf {E : Nat → Bool} {e : List Nat} (σ : ST) : Sq E e σ σ := ⟨fun _ _ => rfl, fun _ _ => rfl, fun _ _ _ _ => ⟨fun _ => rfl, fun _ => rfl, rfl, rfl⟩⟩
theorem Sq.trans {E : Nat → Bool} {e : List Nat} {σ σ1 σ2 : ST} (h : Sq E e σ σ1) (h2 : Sq E e σ1 σ2) : Sq E e σ σ2 := ⟨fun k a => (h2.1 k a).trans (h.1 k a), fun k a => (h2.2.1 k a).trans (h.2.1 k a), fun x a b c => ⟨fun k => ((h2.2.2 x a b c).1 k).trans ((h.2.2 x a b c).1 k), fun k => ((h2.2.2 x a b c).2.1 k).trans ((h.2.2 x a b c).2.1 k), (h2.2.2 x a b c).2.2.1.trans (h.2.2 x a b c).2.2.1, (h2.2.2 x a b c).2.2.2.trans (h.2.2 x a b c).2.2.2⟩⟩
theorem Sq.sI {E : Nat → Bool} {e : List Nat} {σ σ1 : ST} (h : Sq E e σ σ1) {x k : Nat} (v : Int32) (hx : (if x = 0 then e.contains k else (scC x || E x)) = true) : Sq E e σ (sI σ1 x k v) := h.trans ⟨fun j a => by
    rw [gI_sI, if_neg]
    intro q
    rw [← q.1, if_pos rfl, ← q.2, a] at hx
    exact absurd hx (by decide), fun _ _ => rfl, fun y a b c => ⟨fun j => by
    rw [gI_sI, if_neg]
    intro q
    rw [← q.1, if_neg a, b, c] at hx
    exact absurd hx (by decide), fun _ => rfl, rfl, rfl⟩⟩
theorem Sq.sJ {E : Nat → Bool} {e : List Nat} {σ σ1 : ST} (h : Sq E e σ σ1) {x k : Nat} (v : Int64) (hx : (if x = 0 then e.contains k else (scC x || E x)) = true) : Sq E e σ (sJ σ1 x k v) := h.trans ⟨fun _ _ => rfl, fun j a => by
    rw [gJ_sJ, if_neg]
    intro q
    rw [← q.1, if_pos rfl, ← q.2, a] at hx
    exact absurd hx (by decide), fun y a b c => ⟨fun _ => rfl, fun j => by
    rw [gJ_sJ, if_neg]
    intro q
    rw [← q.1, if_neg a, b, c] at hx
    exact absurd hx (by decide), rfl, rfl⟩⟩
theorem Sq.sA {E : Nat → Bool} {e : List Nat} {σ σ1 : ST} (h : Sq E e σ σ1) {x : Nat} (f : Nat → Int32) (hx : (x == 0 || (scC x || E x)) = true) : Sq E e σ (sA σ1 x f) := h.trans ⟨fun _ _ => rfl, fun _ _ => rfl, fun y a b c => ⟨fun _ => rfl, fun _ => rfl, by
    rw [gA_sA, if_neg]
    intro q
    subst q
    rw [b, c] at hx
    exact a (by simpa using hx), rfl⟩⟩
theorem Sq.sB {E : Nat → Bool} {e : List Nat} {σ σ1 : ST} (h : Sq E e σ σ1) {x : Nat} (f : Nat → Int64) (hx : (x == 0 || (scC x || E x)) = true) : Sq E e σ (sB σ1 x f) := h.trans ⟨fun _ _ => rfl, fun _ _ => rfl, fun y a b c => ⟨fun _ => rfl, fun _ => rfl, rfl, by
    rw [gB_sB, if_neg]
    intro q
    subst q
    rw [b, c] at hx
    exact a (by simpa using hx)⟩⟩
/-- the cells of the world at w -/
def inW (w : Nat) (x : Nat) : Bool := decide (w ≤ x) && (decide (x < w + 28) && !(decide (w + 1 ≤ x) && decide (x < w + 15)))
def noE (_ : Nat) : Bool := false
theorem Sq.toW {e : List Nat} {σ σ1 : ST} {w : Nat} (h : Sq noE e σ σ1) : Sq (inW w) e σ σ1 := ⟨h.1, h.2.1, fun x a b _ => h.2.2 x a b rfl⟩
theorem Sq.mono {E : Nat → Bool} {e e2 : List Nat} {σ σ1 : ST} (h : Sq E e σ σ1) (he : ∀ k, e2.contains k = false → e.contains k = false) : Sq E e2 σ σ1 := ⟨fun k a => h.1 k (he k a), fun k a => h.2.1 k (he k a), h.2.2⟩
/-! the relation speaks of the slot alone -/
theorem CR_congr {s : Bool} {σ : ST} {c i : Nat} {t u : Nat → Int32} (h : ∀ k, k < 12 → u k = t k) (hc : CR s σ c i t) : CR s σ c i u := by
  intro k hk
  have := hc k hk
  rw [h k (by omega), h (6 + k) (by omega)]; exact this
theorem TI_congr {s : Bool} {B : Nat} {g g2 : Nat → Nat} {t u : Nat → Int32} (h : ∀ k, k < 12 → u k = t k) (hg : ∀ k, k < 6 → g2 k = g k) (hc : TI s B g t) : TI s B g2 u := by
  intro k hk
  have := hc k hk
  rw [h k (by omega), h (6 + k) (by omega), hg k hk]; exact this
theorem TI_mono {s : Bool} {B B2 : Nat} {g g2 : Nat → Nat} {t : Nat → Int32} (hB : B ≤ B2) (hg : ∀ k, k < 6 → g k ≤ g2 k) (hc : TI s B g t) : TI s B2 g2 t := by
  intro k hk
  have h1 := hc k hk
  have h2 := hg k hk
  cases s
  · simp only [Bool.false_eq_true, if_false] at h1 ⊢; exact ⟨by omega, h1.2⟩
  · simp only [if_true] at h1 ⊢; exact ⟨by omega, h1.2⟩
theorem rk_congr {w v : Nat → Nat} {n j : Nat} (h : ∀ i, i < n → v i = w i) (hj : v j = w j) : rk v n j = rk w n j := by
  unfold rk
  exact cnt_congr n (fun i hi => by rw [h i hi, hj])
theorem rho_congr {w v : Nat → Nat} {n m : Nat} (h : ∀ i, i < n → v i = w i) : rho v n m = rho w n m := by
  unfold rho
  congr 1
  have : ∀ l : List Nat, (∀ x, x ∈ l → x < n) → l.find? (fun j => rk v n j == m) = l.find? (fun j => rk w n j == m) := by
    intro l
    induction l with
    | nil => intro _; rfl
    | cons a l ih =>
      intro hl
      rw [List.find?_cons, List.find?_cons, rk_congr h (h a (hl a (List.mem_cons_self ..))), ih (fun x hx => hl x (List.mem_cons_of_mem _ hx))]
  exact this _ (fun x hx => List.mem_range.mp hx)
theorem isPl_no {f : Nat → Int32} {y k : Nat} (h : KN f ≤ k) : isPl f y k = false := decide_eq_false (fun q => by omega)
theorem RelW_congr {B : Nat} {s : ST} {f f' : Nat → Int32} {g g' : Nat → Int64} (hf : ∀ k, k < 4850 → f' k = f k) (hg : ∀ k, k < 12 → g' k = g k) (h : RelW B s f g) : RelW B s f' g' := by
  obtain ⟨hS, hU, hT, hG, hV, hH, hI, hD, hN⟩ := h
  have eK : KN f' = KN f := by unfold KN; rw [hf 3 (by omega)]
  have eY : YN f' = YN f := by unfold YN; rw [hf 4 (by omega)]
  have eN : NN f' = NN f := by unfold NN; rw [hf 0 (by omega)]
  have eR : RN f' = RN f := by unfold RN; rw [hf 1 (by omega)]
  have eW : WN f' = WN f := by unfold WN; rw [hf 2 (by omega)]
  have eka : ∀ i, i < 6 → ka f' i = ka f i := fun i hi => by unfold ka; rw [hf _ (by omega)]
  have eya : ∀ i, i < 6 → ya f' i = ya f i := fun i hi => by unfold ya; rw [hf _ (by omega)]
  have esm : ∀ y, y < 6 → sm f' y = sm f y := fun y hy => by unfold sm; rw [hf _ (by omega)]
  have egv : ∀ k y, k < 6 → y < 6 → gv f' k y = gv f k y := fun k y hk hy => by unfold gv; rw [hf _ (by omega)]
  have ewy : ∀ y i, y < 6 → i < 6 → wy f' y i = wy f y i := fun y i hy hi => by unfold wy; rw [eka i hi, eya y hy]
  obtain ⟨⟨q1, q2, q3, q4, q5, q6, q7, q8⟩, s2, s3, s4, s5, s6, s7, s8⟩ := hS
  have epl : ∀ y k, y < 6 → isPl f' y k = isPl f y k := fun y k hy => by
    by_cases hk : k < KN f
    · unfold isPl; rw [eK, eN, rk_congr (fun i hi => ewy y i hy (by omega)) (ewy y k hy (by omega))]
    · rw [isPl_no (by omega), isPl_no (by omega)]
  have erw : ∀ y m, y < 6 → rw6 f' y m = rw6 f y m := fun y m hy => by
    unfold rw6; rw [eK, rho_congr (fun i hi => ewy y i hy (by omega))]
  refine ⟨⟨⟨by omega, by omega, by omega, by omega, by omega, ?_, ?_, ?_⟩, ?_, ?_, ?_, ?_, ?_, ?_, ?_⟩, ?_, ⟨?_, ?_⟩, ⟨?_, ?_⟩, ?_, ?_, ?_, ?_, ?_⟩
  · intro i hi; rw [eK] at hi; rw [eka i (by omega)]; exact q6 i hi
  · intro i hi; rw [eY] at hi; rw [eya i (by omega)]; exact q7 i hi
  · intro i j hi hj e; rw [eK] at hi hj; rw [eka i (by omega), eka j (by omega)] at e; exact q8 i j hi hj e
  · rw [hf 3 (by omega), hf 4 (by omega), hf 0 (by omega), hf 1 (by omega), hf 2 (by omega)]; exact s2
  · intro i hi; rw [eK] at hi; rw [hf _ (by omega)]; exact s3 i hi
  · intro i hi; rw [eY] at hi; rw [hf _ (by omega)]; exact s4 i hi
  · intro y
    rw [s5]
    by_cases hy : y < 6
    · rw [esm y hy]
    · rw [decide_eq_false hy]; rfl
  · intro y h1 h2; rw [eY] at h1; rw [esm y h2]; exact s6 y h1 h2
  · intro y hy k; rw [eY] at hy; rw [epl y k (by omega)]; exact s7 y hy k
  · intro y hy m hm; rw [eY] at hy; rw [eK] at hm; rw [erw y m (by omega)]; exact s8 y hy m hm
  · exact ⟨by rw [hf 5 (by omega)]; exact hU.1, by rw [hf 6 (by omega)]; exact hU.2⟩
  · intro k
    rw [hT.1 k]
    apply decide_eq_decide.mpr
    constructor
    · intro h1; exact ⟨h1.1, by rw [hf _ (by omega)]; exact h1.2⟩
    · intro h1; exact ⟨h1.1, by have := h1.2; rw [hf _ (by omega)] at this; exact this⟩
  · intro t ht
    refine ⟨(hT.2 t ht).1, fun h1 => ?_⟩
    rw [hf _ (by omega)] at h1
    obtain ⟨y, a1, a2, a3, a4, a5⟩ := (hT.2 t ht).2 h1
    refine ⟨y, by omega, by rw [esm y (by omega)]; exact a2, by rw [hf _ (by omega)]; exact a3, a4, fun k hk => ?_⟩
    rw [hf _ (by omega), egv k y hk (by omega)]
    exact a5 k hk
  · intro c hc; rw [hf _ (by omega)]; exact hG.1 c hc
  · intro k y hk hy; rw [egv k y hk hy, eK, eY]; exact hG.2 k y hk hy
  · intro y k i hy hk hi
    rw [egv k y hk hy] at hi
    have := (hG.2 k y hk hy).1
    unfold vb
    rw [hf _ (by omega)]
    exact hV y k i hy hk hi
  · intro p y hp hy
    have h1 := hH p y hp hy
    rw [esm y hy]
    exact ⟨CR_congr (fun k hk => by unfold sh tb; exact hf _ (by omega)) h1.1, TI_congr (fun k hk => by unfold sh tb; exact hf _ (by omega)) (fun k hk => egv k y hk hy) h1.2⟩
  · intro p q hp hq
    have h1 := hI p q hp hq
    refine ⟨fun y => ?_, fun y hy => ?_⟩
    · rw [h1.1 y]
      apply decide_eq_decide.mpr
      constructor
      · intro h2; exact ⟨h2.1, by rw [hf _ (by unfold hb; omega)]; exact h2.2⟩
      · intro h2; exact ⟨h2.1, by have := h2.2; rw [hf _ (by unfold hb; omega)] at this; exact this⟩
    · have h2 := h1.2 y hy
      have hlt : hb p q y + 13 ≤ 3278 := by unfold hb; omega
      rw [esm y hy]
      refine ⟨CR_congr (fun k hk => by unfold sh; exact hf _ (by omega)) h2.1, TI_congr (fun k hk => by unfold sh; exact hf _ (by omega)) (fun k hk => egv k y hk hy) h2.2.1, ?_⟩
      rw [hf _ (by omega), eK, eY]
      rcases h2.2.2 with h3 | h3
      · exact Or.inl ⟨h3.1, fun k hk => by rw [hf _ (by omega)]; exact h3.2 k hk⟩
      · exact Or.inr h3
  · rcases hD with h1 | ⟨L, D, h1, h2, h3, h4, h5, h6, h7⟩
    · exact Or.inl ⟨by rw [hf 7 (by omega)]; exact h1.1, h1.2⟩
    · refine Or.inr ⟨L, D, h1, by rw [hf 7 (by omega)]; exact h2, h3, h4, ?_, h6, ?_⟩
      · intro k hk
        have h8 := h5 k hk
        obtain ⟨a1, a2, a3, a4, a5⟩ := h8
        rw [eY, eK]
        refine ⟨a1, a2, fun e => ?_, fun e => ?_, a5⟩
        · have hy := a2 (by rcases e with e | e <;> rw [e] <;> rfl)
          rw [esm _ (by omega)]; exact a3 e
        · have hy := a2 (by rw [e]; rfl)
          rw [esm _ (by omega)]; exact a4 e
      · intro k hk
        have h8 := h7 k hk
        unfold stb at h8 ⊢
        rw [hf _ (by omega), hf _ (by omega), hf _ (by omega), hf _ (by omega), hf _ (by omega), hf _ (by omega)]
        exact h8
  · refine ⟨fun i hi => ?_, fun i hi => ?_⟩
    · rw [eK] at hi; rw [hg _ (by omega)]; exact hN.1 i hi
    · rw [eY] at hi; rw [hg _ (by omega)]; exact ⟨(hN.2 i hi).1, fun h6 => by rw [hf _ (by omega)]; exact (hN.2 i hi).2 h6⟩
theorem RelW_mono {B B2 : Nat} {s : ST} {f : Nat → Int32} {g : Nat → Int64} (hB : B ≤ B2) (h : RelW B s f g) : RelW B2 s f g := by
  obtain ⟨hS, hU, hT, hG, hV, hH, hI, hD, hN⟩ := h
  exact ⟨hS, hU, hT, hG, hV, fun p y hp hy => ⟨(hH p y hp hy).1, TI_mono hB (fun _ _ => Nat.le_refl _) (hH p y hp hy).2⟩, fun p q hp hq => ⟨(hI p q hp hq).1, fun y hy => ⟨((hI p q hp hq).2 y hy).1, TI_mono hB (fun _ _ => Nat.le_refl _) ((hI p q hp hq).2 y hy).2.1, ((hI p q hp hq).2 y hy).2.2⟩⟩, hD, hN⟩
/-- the relation behind a call that may change the main world, the fraction and what is done -/
theorem Rel_w {i : Nat} {σ τ σ1 τ1 : ST} (h : Rel i σ τ) (hσ : Sq (inW wM) [14, 15, 16, 19] σ σ1) (hτ : Sc [2, 3, 4, 28] τ τ1) (h1 : R1 σ1 τ1) (h19 : gI σ1 0 19 = gI τ1 0 28) (hm : ∀ k, 4850 ≤ k → k < 19400 → gA τ1 1 k = gA τ 1 k) (hw : RelW (50000 * (i + 6)) (wv σ1 wM) (gA τ1 1) (gB τ 2)) : Rel (i + 6) σ1 τ1 := by
  obtain ⟨_, h2, h3, h4, h5, n, h6, h7, h8, h9⟩ := h
  have eI : ∀ x k, x ≠ 0 → scC x = false → inW wM x = false → gI σ1 x k = gI σ x k := fun x k a b c => (hσ.2.2 x a b c).1 k
  have eA : ∀ x, x ≠ 0 → scC x = false → inW wM x = false → gA σ1 x = gA σ x := fun x a b c => (hσ.2.2 x a b c).2.2.1
  have eB : ∀ x, x ≠ 0 → scC x = false → inW wM x = false → gB σ1 x = gB σ x := fun x a b c => (hσ.2.2 x a b c).2.2.2
  refine ⟨h1, ?_, ?_, ?_, ?_, n, h6, ?_, ?_, ?_⟩
  · intro t ht
    have h10 := h2 t ht
    unfold R2t at h10 ⊢
    have o1 : (102 + 2 * t) ≠ 0 := by omega
    have o2 : scC (102 + 2 * t) = false := by have : ∀ t, t < 4 → scC (102 + 2 * t) = false := by decide
                                              exact this t ht
    have o3 : inW wM (102 + 2 * t) = false := by have : ∀ t, t < 4 → inW wM (102 + 2 * t) = false := by decide
                                                 exact this t ht
    have p2 : scC (103 + 2 * t) = false := by have : ∀ t, t < 4 → scC (103 + 2 * t) = false := by decide
                                              exact this t ht
    have p3 : inW wM (103 + 2 * t) = false := by have : ∀ t, t < 4 → inW wM (103 + 2 * t) = false := by decide
                                                 exact this t ht
    rw [eI _ _ o1 o2 o3, eI _ _ o1 o2 o3, eI _ _ o1 o2 o3, eB _ (by omega) p2 p3, hτ.2.2.1 4 rfl (by decide), hτ.2.2.1 3 rfl (by decide), hτ.2.2.2 5]
    exact h10
  · unfold R3 at h3 ⊢
    rw [eI 2 1 (by decide) rfl rfl, eI 2 2 (by decide) rfl rfl, eI 2 3 (by decide) rfl rfl, eA 3 (by decide) rfl rfl, hτ.1 10 rfl rfl, hτ.1 16 rfl rfl, hτ.1 17 rfl rfl, hτ.2.2.1 6 rfl (by decide)]
    exact h3
  · unfold R4 at h4 ⊢
    rw [hσ.1 18 rfl, eA 100 (by decide) rfl rfl, eI 78 1 (by decide) rfl rfl, eA 79 (by decide) rfl rfl, hτ.1 32 rfl rfl, hτ.2.2.1 14 rfl (by decide), hτ.1 44 rfl rfl, hτ.2.2.1 22 rfl (by decide)]
    exact ⟨h4.1, h19, h4.2.2⟩
  · rw [hτ.2.2.2 2]; exact hw
  · rw [hσ.1 17 rfl]; exact h7
  · rw [hτ.1 46 rfl rfl]; exact h8
  · intro j hj
    have e1 : wv σ1 (110 + 28 * j) = wv σ (110 + 28 * j) := wv_same (fun x a b => hσ.2.2 x (by omega) (by
      unfold scC
      rw [decide_eq_false (show ¬ x ≤ 48 by omega), decide_eq_false (show ¬ x ≤ 77 by omega), decide_eq_false (show ¬ x ≤ 99 by omega)]
      simp
      omega) (by unfold inW wM; rw [decide_eq_false (show ¬ x < 4 + 28 by omega)]; simp))
    rw [e1, hτ.2.2.2 2]
    refine RelW_congr (fun k hk => ?_) (fun _ _ => rfl) (RelW_mono (by omega) (h9 j hj))
    exact hm _ (by omega) (by omega)
theorem Rel_q {i : Nat} {σ τ σ1 τ1 : ST} (h : Rel i σ τ) (hσ : Sq noE [14] σ σ1) (hτ : Sc [2] τ τ1) (hs : gI σ1 0 14 = gI τ1 0 2) (hm : ∀ k, k < 19400 → gA τ1 1 k = gA τ 1 k) : Rel (i + 6) σ1 τ1 := by
  have e1 : wv σ1 wM = wv σ wM := wv_same (fun x a b => hσ.2.2 x (by unfold wM at a; omega) (by
      unfold wM at a b
      unfold scC
      rw [decide_eq_false (show ¬ 32 ≤ x by omega), decide_eq_false (show ¬ 50 ≤ x by omega), decide_eq_false (show ¬ 80 ≤ x by omega)]
      simp
      omega) rfl)
  refine Rel_w h (hσ.toW.mono (fun k hk => by simp at hk ⊢; exact hk.1)) (hτ.mono (fun k hk => by simp at hk ⊢; exact hk.1)) ⟨hs, ?_, ?_⟩ ?_ (fun k _ hk => hm k hk) ?_
  · rw [hσ.2.1 15 rfl, hτ.2.1 3 rfl]; exact h.1.2.1
  · rw [hσ.2.1 16 rfl, hτ.2.1 4 rfl]; exact h.1.2.2
  · rw [hσ.1 19 rfl, hτ.1 28 rfl rfl]; exact h.2.2.2.1.2.1
  · rw [e1]
    exact RelW_congr (fun k hk => hm k (by omega)) (fun _ _ => rfl) (RelW_mono (by omega) h.2.2.2.2.1)
