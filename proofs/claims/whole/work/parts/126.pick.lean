/-! CHOICES: counting, and numbers made of bits -/
theorem cnt_st {p : Nat → Bool} {n : Nat} (h : p n = true) : cnt p (n + 1) = cnt p n + 1 := by simp only [cnt]; rw [h]; rfl
theorem cnt_sf {p : Nat → Bool} {n : Nat} (h : p n = false) : cnt p (n + 1) = cnt p n := by simp only [cnt]; rw [h]; rfl
theorem cnt_rem {q : Nat → Bool} {j : Nat} (hq : q j = true) : ∀ m, j < m → cnt q m = cnt (fun i => q i && !decide (i = j)) m + 1
  | 0, h => by omega
  | m + 1, h => by
    simp only [cnt]
    by_cases e : j = m
    · subst e
      have h1 : cnt (fun i => q i && !decide (i = j)) j = cnt q j := cnt_congr j (fun i hi => by rw [decide_eq_false (show ¬ i = j by omega)]; simp)
      rw [h1]; simp [hq]
    · have h1 := cnt_rem (q := q) hq m (by omega)
      have e2 : (q m && !decide (m = j)) = q m := by rw [decide_eq_false (show ¬ m = j by omega)]; simp
      simp only [e2]
      omega
theorem cnt_inj_le {p : Nat → Bool} {φ : Nat → Nat} : ∀ (n : Nat) {q : Nat → Bool} {m : Nat}, (∀ i, i < n → p i = true → φ i < m ∧ q (φ i) = true) → (∀ i j, i < n → j < n → p i = true → p j = true → φ i = φ j → i = j) → cnt p n ≤ cnt q m
  | 0, _, _, _, _ => Nat.zero_le _
  | n + 1, q, m, h1, h2 => by
    simp only [cnt]
    cases hp : p n
    · have := cnt_inj_le n (fun i hi => h1 i (by omega)) (fun i j hi hj => h2 i j (by omega) (by omega))
      simpa using this
    · obtain ⟨g1, g2⟩ := h1 n (by omega) hp
      have h3 := cnt_inj_le n (q := fun j => q j && !decide (j = φ n)) (m := m) (fun i hi hpi => ⟨(h1 i (by omega) hpi).1, by
        rw [(h1 i (by omega) hpi).2, decide_eq_false (fun e => by have := h2 i n (by omega) (by omega) hpi hp e; omega)]; rfl⟩) (fun i j hi hj => h2 i j (by omega) (by omega))
      rw [cnt_rem g2 m g1]
      simp only [if_true]
      omega
theorem least {P : Nat → Prop} (h : ∃ n, P n) : ∃ n, P n ∧ ∀ m, m < n → ¬ P m := by
  obtain ⟨n, hn⟩ := h
  induction n using Nat.strongRecOn with
  | _ n ih =>
    by_cases g : ∃ m, m < n ∧ P m
    · obtain ⟨m, h1, h2⟩ := g
      exact ih m h1 h2
    · exact ⟨n, hn, fun m h1 h2 => g ⟨m, h1, h2⟩⟩
def ofB (p : Nat → Bool) : Nat → Nat
  | 0 => 0
  | n + 1 => ofB p n ||| (if p n then 2 ^ n else 0)
theorem ofB_bit (p : Nat → Bool) (i : Nat) : ∀ n, (ofB p n).testBit i = (decide (i < n) && p i)
  | 0 => by simp [ofB]
  | n + 1 => by
    rw [ofB, Nat.testBit_or, ofB_bit p i n]
    by_cases e : n = i
    · subst e
      rw [decide_eq_false (Nat.lt_irrefl n), decide_eq_true (Nat.lt_succ_self n)]
      cases p n <;> simp [Nat.testBit_two_pow]
    · have h1 : Nat.testBit (if p n then 2 ^ n else 0) i = false := by
        split
        · rw [Nat.testBit_two_pow]; exact decide_eq_false e
        · exact Nat.zero_testBit i
      rw [h1, Bool.or_false]
      congr 1
      exact decide_eq_decide.mpr (by omega)
theorem ofB_lt (p : Nat → Bool) : ∀ n, ofB p n < 2 ^ n
  | 0 => by simp [ofB]
  | n + 1 => by
    rw [ofB]
    refine Nat.or_lt_two_pow ?_ ?_
    · have := ofB_lt p n; rw [Nat.pow_succ]; omega
    · have : 0 < 2 ^ n := Nat.two_pow_pos n
      split
      · rw [Nat.pow_succ]; omega
      · rw [Nat.pow_succ]; omega
theorem bit_ext {a b n : Nat} (ha : a < 2 ^ n) (hb : b < 2 ^ n) (h : ∀ i, i < n → a.testBit i = b.testBit i) : a = b := by
  apply Nat.eq_of_testBit_eq
  intro i
  by_cases hi : i < n
  · exact h i hi
  · rw [Nat.testBit_lt_two_pow (Nat.lt_of_lt_of_le ha (Nat.pow_le_pow_right (by decide) (by omega))), Nat.testBit_lt_two_pow (Nat.lt_of_lt_of_le hb (Nat.pow_le_pow_right (by decide) (by omega)))]
theorem pick_20 {R : Nat} (hR : R ≤ 6) {n : Nat} (hn : n ≤ 64) : cnt (fun m => decide (pcN m = R)) n ≤ 20 := by
  have h1 : ∀ R : Fin 7, cnt (fun m => decide (p8 m = R.1)) 64 ≤ 20 := by decide
  have h2 : cnt (fun m => decide (p8 m = R)) 64 ≤ 20 := h1 ⟨R, by omega⟩
  have h3 : cnt (fun m => decide (pcN m = R)) 64 = cnt (fun m => decide (p8 m = R)) 64 := cnt_congr 64 (fun i hi => by rw [pcN_8 (by omega)])
  have h4 := cnt_mono2 (p := fun m => decide (pcN m = R)) hn
  omega
/-! rows that are told -/
noncomputable def jn (s : Bool) (S : Nat → Prop) (th : Nat → Nat → Int32) : Nat → Int32 := Classical.epsilon (IsJ s S th)
theorem jn_is {s : Bool} {S : Nat → Prop} {th : Nat → Nat → Int32} {r : Nat → Int32} (h : IsJ s S th r) : IsJ s S th (jn s S th) := Classical.epsilon_spec ⟨r, h⟩
theorem jn_eq {s : Bool} {S : Nat → Prop} {th : Nat → Nat → Int32} {r : Nat → Int32} (h : IsJ s S th r) : ∀ k, k < 12 → jn s S th k = r k := fun k hk => IsJ_uniq (jn_is h) h k hk
def kth (p : Nat → Bool) (k : Nat) : Nat := ((List.range 180).find? (fun d => p d && (cnt p d == k))).getD 0
theorem kth_in {p : Nat → Bool} {k : Nat} (h : k < cnt p 180) : kth p k < 180 ∧ p (kth p k) = true ∧ cnt p (kth p k) = k := by
  unfold kth
  cases q : (List.range 180).find? (fun d => p d && (cnt p d == k)) with
  | none =>
    rw [List.find?_eq_none] at q
    obtain ⟨d, d1, d2, d3⟩ := cnt_onto _ _ h
    have := q d (List.mem_range.mpr d1)
    rw [d2, d3] at this
    simp at this
  | some m =>
    have h1 := List.find?_some q
    have h2 := List.mem_range.mp (List.mem_of_find?_eq_some q)
    simp at h1
    exact ⟨h2, h1.1, h1.2⟩
theorem DL_kth {p : Nat → Bool} {R : Nat → Int32} {fr : Nat} {v : Nat → Int32} (h : DL p 180 R fr v) {k : Nat} (hk : k < cnt p 180) : R (fr + k) = v (kth p k) := by
  have h1 := kth_in hk
  have h2 := h _ h1.1 h1.2.1
  rw [h1.2.2] at h2
  exact h2
def rwL (s : Bool) (r : Nat → Int32) : Nat := if s then 1 else cnt (std r) 180
def rwE (s : Bool) (f : Nat → Int32) (y : Nat) (r : Nat → Int32) (k : Nat) : Int32 := if s then sum6 r 0 6 else f (vb y (kth (std r) k / 30) (kth (std r) k % 30 + 1))
def rowF (s : Bool) (f : Nat → Int32) (y : Nat) (r : Nat → Int32) : Nat × (Nat → Int32) := (rwL s r, fun k => if k < rwL s r then rwE s f y r k else nI 0)
theorem rwL_le (s : Bool) (r : Nat → Int32) : rwL s r ≤ 180 := by unfold rwL; have := cnt_le (std r) 180; split <;> omega
/-- a row that lies somewhere: its length L, its numbers E -/
def rowN (L : Nat) (E : Nat → Int32) : Nat × (Nat → Int32) := (L, fun k => if k < L then E k else nI 0)
theorem rowN_F (s : Bool) (f : Nat → Int32) (y : Nat) (r : Nat → Int32) : rowF s f y r = rowN (rwL s r) (rwE s f y r) := rfl
theorem rowN_eq {L L' : Nat} {E E' : Nat → Int32} : rowN L E = rowN L' E' ↔ L = L' ∧ ∀ k, k < L → E k = E' k := by
  unfold rowN
  constructor
  · intro h
    have h1 : L = L' := congrArg Prod.fst h
    refine ⟨h1, fun k hk => ?_⟩
    have h2 := congrFun (congrArg Prod.snd h) k
    simp only [] at h2
    rw [if_pos hk, if_pos (by omega)] at h2
    exact h2
  · rintro ⟨rfl, h⟩
    congr 1
    funext k
    split
    · exact h k ‹_›
    · rfl
noncomputable def jS (f : Nat → Int32) (y : Nat) (S : Nat → Prop) : Nat → Int32 := jn (sm f y) S (thS f y)
noncomputable def rowS (f : Nat → Int32) (y : Nat) (S : Nat → Prop) : Nat × (Nat → Int32) := rowF (sm f y) f y (jS f y S)
theorem rowS_set {f : Nat → Int32} {y : Nat} {S S' : Nat → Prop} (h : ∀ p, S p ↔ S' p) : rowS f y S = rowS f y S' := by rw [show S = S' from funext fun p => propext (h p)]
/-! how many unlike ones -/
noncomputable def fst1 {α : Type} (p : Nat → Bool) (r : Nat → α) (i : Nat) : Bool := @decide (p i = true ∧ ∀ j, j < i → p j = true → r j ≠ r i) (Classical.propDecidable _)
theorem fst1_t {α : Type} {p : Nat → Bool} {r : Nat → α} {i : Nat} : fst1 p r i = true ↔ (p i = true ∧ ∀ j, j < i → p j = true → r j ≠ r i) := @decide_eq_true_iff _ (Classical.propDecidable _)
theorem fst1_f {α : Type} {p : Nat → Bool} {r : Nat → α} {i : Nat} : fst1 p r i = false ↔ ¬ (p i = true ∧ ∀ j, j < i → p j = true → r j ≠ r i) := @decide_eq_false_iff_not _ (Classical.propDecidable _)
theorem fst1_le {α : Type} {p q : Nat → Bool} {r u : Nat → α} {n m : Nat} (h : ∀ i, i < n → p i = true → ∃ j, j < m ∧ q j = true ∧ u j = r i) : cnt (fst1 p r) n ≤ cnt (fst1 q u) m := by
  have h1 : ∀ i, ∃ j, i < n → p i = true → (j < m ∧ q j = true ∧ u j = r i) ∧ ∀ j', j' < j → ¬ (j' < m ∧ q j' = true ∧ u j' = r i) := fun i => by
    by_cases g : i < n ∧ p i = true
    · obtain ⟨j, z1, z2⟩ := least (h i g.1 g.2)
      exact ⟨j, fun _ _ => ⟨z1, z2⟩⟩
    · exact ⟨0, fun a b => absurd ⟨a, b⟩ g⟩
  obtain ⟨φ, hφ⟩ := Classical.axiomOfChoice h1
  refine cnt_inj_le (φ := φ) n (fun i hi hp => ?_) (fun i j hi hj hp hq e => ?_)
  · have hp' := fst1_t.mp hp
    obtain ⟨⟨a1, a2, a3⟩, a4⟩ := hφ i hi hp'.1
    exact ⟨a1, fst1_t.mpr ⟨a2, fun j' h1 h2 h3 => a4 j' h1 ⟨by omega, h2, h3.trans a3⟩⟩⟩
  · have hp' := fst1_t.mp hp
    have hq' := fst1_t.mp hq
    have a3 := (hφ i hi hp'.1).1.2.2
    have b3 := (hφ j hj hq'.1).1.2.2
    rw [e, b3] at a3
    rcases Nat.lt_trichotomy i j with g | g | g
    · exact absurd a3.symm (hq'.2 i g hp'.1)
    · exact g
    · exact absurd a3 (hp'.2 j g hq'.1)
