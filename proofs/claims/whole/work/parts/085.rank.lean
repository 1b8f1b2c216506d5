/-! RANKS: keepers by their ways; sets by bits -/
def bI (b : Bool) : Int32 := if b then nI 1 else nI 0
theorem bI_0 (b : Bool) : (bI b = nI 0) = (b = false) := by cases b <;> decide
theorem bI_1 (b : Bool) : (bI b = nI 1) = (b = true) := by cases b <;> decide
theorem bI_bI (a b : Bool) : (bI a = bI b) = (a = b) := by cases a <;> cases b <;> decide
theorem ckZ_b (b : Bool) : ckZ (bI b) = some (bI b) := by cases b <;> rfl
theorem sh_b (x : Int32) {k : Nat} (hk : k < 32) : (x >>> (nI k &&& nI 31)) &&& nI 1 = bI (bt x k) := by
  rw [sh_and x hk]; cases bt x k <;> rfl
theorem bI_t : bI true = nI 1 := rfl
theorem bI_f : bI false = nI 0 := rfl
def cnt (p : Nat → Bool) : Nat → Nat
  | 0 => 0
  | n + 1 => cnt p n + (if p n then 1 else 0)
theorem cnt_le (p : Nat → Bool) : ∀ n, cnt p n ≤ n
  | 0 => Nat.le_refl _
  | n + 1 => by have := cnt_le p n; simp only [cnt]; split <;> omega
theorem cnt_mono {p q : Nat → Bool} : ∀ n, (∀ i, i < n → p i = true → q i = true) → cnt p n ≤ cnt q n
  | 0, _ => Nat.le_refl _
  | n + 1, h => by
    have h1 := cnt_mono (p := p) (q := q) n (fun i hi => h i (by omega))
    have h2 := h n (by omega)
    simp only [cnt]
    cases hp : p n
    · simp; omega
    · rw [h2 hp]; simp; omega
theorem cnt_lt {p q : Nat → Bool} {j : Nat} (hq : q j = true) (hp : p j = false) : ∀ n, j < n → (∀ i, i < n → p i = true → q i = true) → cnt p n < cnt q n
  | 0, h, _ => by omega
  | n + 1, hj, h => by
    simp only [cnt]
    by_cases e : j = n
    · subst e
      have h1 := cnt_mono (p := p) (q := q) j (fun i hi => h i (by omega))
      rw [hq, hp]; simp; omega
    · have h1 := cnt_lt hq hp n (by omega) (fun i hi => h i (by omega))
      have h2 := h n (by omega)
      cases hp2 : p n
      · simp; omega
      · rw [h2 hp2]; simp; omega
theorem cnt_congr {p q : Nat → Bool} : ∀ n, (∀ i, i < n → p i = q i) → cnt p n = cnt q n
  | 0, _ => rfl
  | n + 1, h => by simp only [cnt]; rw [cnt_congr n (fun i hi => h i (by omega)), h n (by omega)]
/-- how many of the first n stand ahead of j -/
def rk (w : Nat → Nat) (n j : Nat) : Nat := cnt (fun i => decide (w i < w j)) n
theorem rk_lt {w : Nat → Nat} {n i j : Nat} (hi : i < n) (h : w i < w j) : rk w n i < rk w n j := by
  unfold rk
  refine cnt_lt (j := i) (decide_eq_true h) (decide_eq_false (by omega)) n hi (fun k _ hk => ?_)
  exact decide_eq_true (Nat.lt_trans (of_decide_eq_true hk) h)
theorem rk_le {w : Nat → Nat} {n i j : Nat} (h : w i ≤ w j) : rk w n i ≤ rk w n j := by
  unfold rk
  refine cnt_mono n (fun k _ hk => ?_)
  exact decide_eq_true (Nat.lt_of_lt_of_le (of_decide_eq_true hk) h)
theorem rk_bound {w : Nat → Nat} {n j : Nat} (hj : j < n) : rk w n j < n := by
  have h1 : rk w n j < cnt (fun _ => true) n := by
    unfold rk
    exact cnt_lt (j := j) rfl (decide_eq_false (by omega)) n hj (fun _ _ _ => rfl)
  have := cnt_le (fun _ => true) n
  omega
def Dis (w : Nat → Nat) (n : Nat) : Prop := ∀ i j, i < n → j < n → w i = w j → i = j
theorem rk_inj {w : Nat → Nat} {n : Nat} (hd : Dis w n) {i j : Nat} (hi : i < n) (hj : j < n) (h : rk w n i = rk w n j) : i = j := by
  rcases Nat.lt_trichotomy (w i) (w j) with g | g | g
  · have := rk_lt (n := n) hi g; omega
  · exact hd i j hi hj g
  · have := rk_lt (n := n) hj g; omega
theorem rk_s (w : Nat → Nat) (n j : Nat) : rk w (n + 1) j = rk w n j + (if w n < w j then 1 else 0) := by
  unfold rk; simp only [cnt]
  by_cases h : w n < w j <;> simp [h]
theorem rk_onto {w : Nat → Nat} : ∀ n, Dis w n → ∀ m, m < n → ∃ j, j < n ∧ rk w n j = m
  | 0, _, m, h => by omega
  | n + 1, hd, m, hm => by
    have hd2 : Dis w n := fun i j hi hj h => hd i j (by omega) (by omega) h
    have ih := rk_onto n hd2
    have pn : rk w n n ≤ n := cnt_le _ n
    rcases Nat.lt_trichotomy m (rk w n n) with g | g | g
    · obtain ⟨j, hj, e⟩ := ih m (by omega)
      refine ⟨j, by omega, ?_⟩
      rw [rk_s, e]
      have : ¬ w n < w j := fun q => by have := rk_le (n := n) (Nat.le_of_lt q); omega
      rw [if_neg this]; rfl
    · refine ⟨n, by omega, ?_⟩
      rw [rk_s, if_neg (Nat.lt_irrefl _)]; omega
    · obtain ⟨j, hj, e⟩ := ih (m - 1) (by omega)
      refine ⟨j, by omega, ?_⟩
      rw [rk_s, e]
      have : w n < w j := by
        rcases Nat.lt_trichotomy (w n) (w j) with q | q | q
        · exact q
        · have := hd n j (by omega) (by omega) q; omega
        · have := rk_lt (n := n) hj q; omega
      rw [if_pos this]; omega
/-- the one that has m ahead of it -/
def rho (w : Nat → Nat) (n m : Nat) : Nat := ((List.range n).find? (fun j => rk w n j == m)).getD 0
theorem rho_rk {w : Nat → Nat} {n : Nat} (hd : Dis w n) {j : Nat} (hj : j < n) : rho w n (rk w n j) = j := by
  unfold rho
  cases h : (List.range n).find? (fun i => rk w n i == rk w n j) with
  | none =>
    rw [List.find?_eq_none] at h
    exact absurd (beq_self_eq_true _) (h j (List.mem_range.mpr hj))
  | some i =>
    have h1 := List.find?_some h
    have h2 := List.mem_range.mp (List.mem_of_find?_eq_some h)
    exact rk_inj hd h2 hj (by simpa using h1)
theorem rho_in {w : Nat → Nat} {n : Nat} (hd : Dis w n) {m : Nat} (hm : m < n) : rho w n m < n ∧ rk w n (rho w n m) = m := by
  obtain ⟨j, hj, e⟩ := rk_onto n hd m hm
  rw [← e, rho_rk hd hj]; exact ⟨hj, rfl⟩
theorem rho_inj {w : Nat → Nat} {n : Nat} (hd : Dis w n) {a b : Nat} (ha : a < n) (hb : b < n) (h : rho w n a = rho w n b) : a = b := by
  have h1 := (rho_in hd ha).2; have h2 := (rho_in hd hb).2; rw [h] at h1; omega
theorem rho_s {w : Nat → Nat} {n : Nat} (hd : Dis w (n + 1)) {m : Nat} (hm : m < n + 1) : rho w (n + 1) m = if m < rk w n n then rho w n m else if m = rk w n n then n else rho w n (m - 1) := by
  have hd2 : Dis w n := fun i j hi hj h => hd i j (by omega) (by omega) h
  have pn : rk w n n ≤ n := cnt_le _ n
  have key : ∀ j, j < n + 1 → rk w (n + 1) j = m → rho w (n + 1) m = j := fun j hj e => by rw [← e]; exact rho_rk hd hj
  by_cases g : m < rk w n n
  · rw [if_pos g]
    obtain ⟨h1, h2⟩ := rho_in hd2 (m := m) (by omega)
    refine key _ (by omega) ?_
    rw [rk_s, h2]
    have : ¬ w n < w (rho w n m) := fun q => by have := rk_le (n := n) (Nat.le_of_lt q); omega
    rw [if_neg this]; rfl
  · rw [if_neg g]
    by_cases g2 : m = rk w n n
    · rw [if_pos g2]
      refine key _ (by omega) ?_
      rw [rk_s, if_neg (Nat.lt_irrefl _)]; omega
    · rw [if_neg g2]
      obtain ⟨h1, h2⟩ := rho_in hd2 (m := m - 1) (by omega)
      refine key _ (by omega) ?_
      rw [rk_s, h2]
      have : w n < w (rho w n (m - 1)) := by
        rcases Nat.lt_trichotomy (w n) (w (rho w n (m - 1))) with q | q | q
        · exact q
        · have := hd n _ (by omega) (by omega) q; omega
        · have := rk_lt (n := n) h1 q; omega
      rw [if_pos this]; omega
/-- the way to the m-th one -/
theorem rho_way {w : Nat → Nat} {n : Nat} (hd : Dis w (n + 1)) {m : Nat} (hm : m < n) : (w n < w (rho w n m)) = (rk w n n ≤ m) := by
  have hd2 : Dis w n := fun i j hi hj h => hd i j (by omega) (by omega) h
  obtain ⟨h1, h2⟩ := rho_in hd2 hm
  apply propext
  constructor
  · intro q; have := rk_le (n := n) (Nat.le_of_lt q); omega
  · intro q
    rcases Nat.lt_trichotomy (w n) (w (rho w n m)) with g | g | g
    · exact g
    · have := hd n _ (by omega) (by omega) g; omega
    · have := rk_lt (n := n) h1 g; omega
