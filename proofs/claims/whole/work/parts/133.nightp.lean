/-! NIGHTS: what a place took in, as a set -/
theorem IsJ_union {s : Bool} {th : Nat → Nat → Int32} {r : Nat → Int32} {I : Nat → Prop} {Sf : Nat → Nat → Prop} (hne : ∃ i, I i) (h : ∀ i, I i → IsJ s (Sf i) th r) : IsJ s (fun p => ∃ i, I i ∧ Sf i p) th r := by
  obtain ⟨i0, h0⟩ := hne
  intro k hk
  have h1 := fun i hi => h i hi k hk
  cases s
  · simp only [Bool.false_eq_true, if_false] at h1 ⊢
    refine ⟨fun m => ⟨fun z p ⟨i, a, b⟩ => ((h1 i a).1 m).mp z p b, fun z => ((h1 i0 h0).1 m).mpr (fun p hp => z p ⟨i0, h0, hp⟩)⟩, fun j hj => ⟨fun z => ?_, fun ⟨⟨p, ⟨i, a, b⟩, c⟩, d⟩ => ?_⟩⟩
    · obtain ⟨⟨p, p1, p2⟩, _⟩ := ((h1 i0 h0).2 j hj).mp z
      exact ⟨⟨p, ⟨i0, h0, p1⟩, p2⟩, fun q ⟨i, a, b⟩ => (((h1 i a).2 j hj).mp z).2 q b⟩
    · exact ((h1 i a).2 j hj).mpr ⟨⟨p, b, c⟩, fun q hq => d q ⟨i, a, hq⟩⟩
  · simp only [if_true] at h1 ⊢
    exact ⟨fun m => ⟨fun z p ⟨i, a, b⟩ => ((h1 i a).1 m).mp z p b, fun z => ((h1 i0 h0).1 m).mpr (fun p hp => z p ⟨i0, h0, hp⟩)⟩, (h1 i0 h0).2⟩
def SM (f : Nat → Int32) (S : Int32) (p : Nat) : Prop := p < KN f ∧ bt S p = true
theorem join_ex {B : Nat} (hB : B < 2 ^ 31) {σ : ST} {f : Nat → Int32} {g : Nat → Int64} (hW : RelW B (wv σ wM) f g) {y : Nat} (hy : y < 6) (S : Int32) : ∃ r, TI (sm f y) B (fun k => gv f k y) r ∧ IsJ (sm f y) (SM f S) (thS f y) r := by
  obtain ⟨r, F, G, _, _, j3, j4, _⟩ := c_joinSet wM_w hB hy S (c := 85) (L := 6) (i := 0) isC_c (by omega) (by unfold wM; omega) hW
  exact ⟨r, j3, j4⟩
def eqJ (f : Nat → Int32) (y : Nat) (S S' : Int32) : Prop := ∀ k, k < 12 → jS f y (SM f S) k = jS f y (SM f S') k
def nt (T : Nat → Int32) (a b k : Nat) : Int32 := if k = a ∨ k = b then T a ||| T b else T k
def Tok (f : Nat → Int32) (y : Nat) (T : Nat → Int32) : Prop := ∀ p, isPl f y p = true → bt (T p) p = true ∧ ∀ q, bt (T p) q = true → isPl f y q = true
theorem Tok_nt {f : Nat → Int32} {y : Nat} {T : Nat → Int32} (h : Tok f y T) {a b : Nat} (ha : isPl f y a = true) (hb : isPl f y b = true) : Tok f y (nt T a b) := by
  intro p hp
  unfold nt
  by_cases c : p = a ∨ p = b
  · rw [if_pos c]
    refine ⟨?_, fun q hq => ?_⟩
    · rw [bt_or]
      rcases c with rfl | rfl
      · rw [(h _ ha).1]; rfl
      · rw [(h _ hb).1, Bool.or_true]
    · rw [bt_or, Bool.or_eq_true] at hq
      rcases hq with hq | hq
      · exact (h _ ha).2 q hq
      · exact (h _ hb).2 q hq
  · rw [if_neg c]; exact h p hp
theorem nt_same {T : Nat → Int32} {a b : Nat} (h : T a = T b) : nt T a b = T := by
  funext k
  unfold nt
  have e : T a ||| T b = T a := by
    rw [← h]
    apply bt_ext
    intro j _
    rw [bt_or, Bool.or_self]
  by_cases c : k = a ∨ k = b
  · rw [if_pos c, e]
    rcases c with rfl | rfl
    · rfl
    · exact h
  · rw [if_neg c]
def alT (f : Nat → Int32) (y : Nat) (T : Nat → Int32) : Prop := ∀ p q, isPl f y p = true → isPl f y q = true → eqJ f y (T p) (T q)
def whT (f : Nat → Int32) (y : Nat) (P : Int32) (T : Nat → Int32) : Prop := ∀ p, isPl f y p = true → eqJ f y (T p) P
theorem pl_lt {f : Nat → Int32} {y p : Nat} (h : isPl f y p = true) : p < KN f := (of_decide_eq_true h).1
theorem al_wh {f : Nat → Int32} {y : Nat} {P : Int32} (hP : ∀ k, bt P k = isPl f y k) (hex : ∀ S, ∃ r, IsJ (sm f y) (SM f S) (thS f y) r) {T : Nat → Int32} (hT : Tok f y T) : alT f y T ↔ whT f y P T := by
  have hj : ∀ S, IsJ (sm f y) (SM f S) (thS f y) (jS f y (SM f S)) := fun S => by
    obtain ⟨r, hr⟩ := hex S
    exact jn_is hr
  constructor
  · intro h p hp
    have h1 : IsJ (sm f y) (fun x => ∃ q, isPl f y q = true ∧ SM f (T q) x) (thS f y) (jS f y (SM f (T p))) := IsJ_union ⟨p, hp⟩ (fun q hq => IsJ_congr (hj (T q)) (h p q hp hq))
    have h2 : IsJ (sm f y) (SM f P) (thS f y) (jS f y (SM f (T p))) := IsJ_set h1 (fun x => by
      constructor
      · intro ⟨z1, z2⟩
        rw [hP] at z2
        exact ⟨x, z2, z1, (hT x z2).1⟩
      · intro ⟨q, q1, q2, q3⟩
        refine ⟨q2, ?_⟩
        rw [hP]; exact (hT q q1).2 x q3)
    exact IsJ_uniq h2 (hj P)
  · intro h p q hp hq k hk
    rw [h p hp k hk, h q hq k hk]
theorem cnt_zero {p : Nat → Bool} : ∀ n, cnt p n = 0 ↔ ∀ i, i < n → p i = false
  | 0 => ⟨fun _ i hi => by omega, fun _ => rfl⟩
  | n + 1 => by
    have h := cnt_zero (p := p) n
    simp only [cnt]
    constructor
    · intro z i hi
      have h1 : cnt p n = 0 := by omega
      by_cases e : i = n
      · rw [e]
        cases c : p n
        · rfl
        · rw [c] at z; simp at z
      · exact h.mp h1 i (by omega)
    · intro z
      rw [h.mpr (fun i hi => z i (by omega)), z n (by omega)]; rfl
theorem cnt_two {p q : Nat → Bool} {a b : Nat} : ∀ n, (∀ i, i < n → i ≠ a → i ≠ b → p i = true → q i = true) → cnt p n ≤ cnt q n + (if a < n then 1 else 0) + (if b < n then 1 else 0)
  | 0, _ => by simp [cnt]
  | n + 1, h => by
    have h1 := cnt_two (p := p) (q := q) (a := a) (b := b) n (fun i hi => h i (by omega))
    simp only [cnt]
    by_cases ea : n = a
    · subst ea
      rw [if_pos (show n < n + 1 by omega)]
      rw [if_neg (show ¬ n < n by omega)] at h1
      have : (if p n = true then 1 else 0) ≤ 1 := by split <;> omega
      by_cases eb : b < n
      · rw [if_pos (show b < n + 1 by omega)]; rw [if_pos eb] at h1; omega
      · rw [if_neg eb] at h1; omega
    · by_cases eb : n = b
      · subst eb
        rw [if_pos (show n < n + 1 by omega)]
        rw [if_neg (show ¬ n < n by omega)] at h1
        have : (if p n = true then 1 else 0) ≤ 1 := by split <;> omega
        by_cases e2 : a < n
        · rw [if_pos (show a < n + 1 by omega)]; rw [if_pos e2] at h1; omega
        · rw [if_neg e2] at h1; omega
      · have e1 : (if a < n then 1 else 0) = (if a < n + 1 then 1 else 0) := by
          by_cases z : a < n
          · rw [if_pos z, if_pos (by omega)]
          · rw [if_neg z, if_neg (by omega)]
        have e2 : (if b < n then 1 else 0) = (if b < n + 1 then 1 else 0) := by
          by_cases z : b < n
          · rw [if_pos z, if_pos (by omega)]
          · rw [if_neg z, if_neg (by omega)]
        rw [e1, e2] at h1
        have h2 := h n (by omega) ea eb
        cases c : p n
        · simp only [Bool.false_eq_true, if_false]; omega
        · rw [h2 c]; simp only [if_true]; omega
/-- how many places lack something; W tells which sets are whole -/
def lckP (f : Nat → Int32) (y : Nat) (W : Nat → Int32) (T : Nat → Int32) (p : Nat) : Bool := isPl f y p && decide (W (vN (T p)) = nI 0)
def lck (f : Nat → Int32) (y : Nat) (W : Nat → Int32) (T : Nat → Int32) : Nat := cnt (lckP f y W T) (KN f)
def prN (f : Nat → Int32) (y a b : Nat) : Bool := isPl f y a && (isPl f y b && rch f a b)
def Stl (f : Nat → Int32) (y : Nat) (W : Nat → Int32) : Nat → (Nat → Int32) → Prop
  | 0, T => lck f y W T = 0
  | k + 1, T => lck f y W T = 0 ∨ (lck f y W T ≤ 2 * (k + 1) ∧ ∃ a b, a < b ∧ b < KN f ∧ prN f y a b = true ∧ T a ≠ T b ∧ Stl f y W k (nt T a b))
def ExN (f : Nat → Int32) (y : Nat) : Nat → (Nat → Int32) → Prop
  | 0, T => alT f y T
  | k + 1, T => ∃ a b, a < b ∧ b < KN f ∧ prN f y a b = true ∧ ExN f y k (nt T a b)
theorem Stl_lck {f : Nat → Int32} {y : Nat} {W : Nat → Int32} : ∀ k T, Stl f y W k T → lck f y W T ≤ 2 * k
  | 0, T, h => by rw [show lck f y W T = 0 from h]; omega
  | k + 1, T, h => by
    rcases h with h | h
    · omega
    · exact h.1
theorem lck_nt {f : Nat → Int32} {y : Nat} {W : Nat → Int32} {T : Nat → Int32} {a b : Nat} : lck f y W T ≤ lck f y W (nt T a b) + 2 := by
  have h := cnt_two (p := lckP f y W T) (q := lckP f y W (nt T a b)) (a := a) (b := b) (KN f) (fun i _ h1 h2 h3 => by
    unfold lckP nt at *
    rw [if_neg (fun z => by rcases z with z | z <;> contradiction)]; exact h3)
  unfold lck
  have : (if a < KN f then 1 else 0) ≤ 1 := by split <;> omega
  have : (if b < KN f then 1 else 0) ≤ 1 := by split <;> omega
  omega
theorem prN_pl {f : Nat → Int32} {y a b : Nat} (h : prN f y a b = true) : isPl f y a = true ∧ isPl f y b = true := by
  unfold prN at h
  simp only [Bool.and_eq_true] at h
  exact ⟨h.1, h.2.1⟩
theorem Stl_Ex {f : Nat → Int32} {y : Nat} {P : Int32} {W : Nat → Int32} (hP : ∀ k, bt P k = isPl f y k) (hex : ∀ S, ∃ r, IsJ (sm f y) (SM f S) (thS f y) r) (hK : KN f ≤ 6) (hw : ∀ S : Int32, (∀ q, bt S q = true → isPl f y q = true) → (W (vN S) = nI 0 ↔ ¬ eqJ f y S P)) : ∀ n T, Tok f y T → (Stl f y W n T ↔ ∃ k, k ≤ n ∧ ExN f y k T) := by
  have h0 : ∀ T, Tok f y T → (lck f y W T = 0 ↔ alT f y T) := fun T hT => by
    rw [al_wh hP hex hT]
    unfold lck
    rw [cnt_zero]
    constructor
    · intro h p hp
      have h1 := h p (pl_lt hp)
      unfold lckP at h1
      rw [hp, Bool.true_and] at h1
      exact Classical.byContradiction (fun z => of_decide_eq_false h1 ((hw (T p) (hT p hp).2).mpr z))
    · intro h p _
      unfold lckP
      cases c : isPl f y p
      · rfl
      · rw [Bool.true_and]
        exact decide_eq_false (fun z => (hw (T p) (hT p c).2).mp z (h p c))
  have back : ∀ k n T, k ≤ n → Tok f y T → ExN f y k T → Stl f y W n T := by
    intro k
    induction k with
    | zero =>
      intro n T _ hT h
      have h1 := (h0 T hT).mpr h
      cases n with
      | zero => exact h1
      | succ n => exact Or.inl h1
    | succ k ih =>
      intro n T hn hT h
      obtain ⟨a, b, a1, a2, a3, a4⟩ := h
      have hpl := prN_pl a3
      by_cases e : T a = T b
      · rw [nt_same e] at a4
        exact ih n T (by omega) hT a4
      · obtain ⟨m, rfl⟩ : ∃ m, n = m + 1 := ⟨n - 1, by omega⟩
        have h1 := ih m (nt T a b) (by omega) (Tok_nt hT hpl.1 hpl.2) a4
        have h2 := Stl_lck _ _ h1
        have h3 := lck_nt (f := f) (y := y) (W := W) (T := T) (a := a) (b := b)
        exact Or.inr ⟨by omega, a, b, a1, a2, a3, e, h1⟩
  intro n
  induction n with
  | zero =>
    intro T hT
    constructor
    · intro h; exact ⟨0, by omega, (h0 T hT).mp h⟩
    · intro ⟨k, k1, k2⟩
      exact back k 0 T k1 hT k2
  | succ n ih =>
    intro T hT
    constructor
    · intro h
      rcases h with h | ⟨_, a, b, a1, a2, a3, _, a5⟩
      · exact ⟨0, by omega, (h0 T hT).mp h⟩
      · have hpl := prN_pl a3
        obtain ⟨k, k1, k2⟩ := (ih (nt T a b) (Tok_nt hT hpl.1 hpl.2)).mp a5
        exact ⟨k + 1, by omega, a, b, a1, a2, a3, k2⟩
    · intro ⟨k, k1, k2⟩
      exact back k (n + 1) T k1 hT k2
