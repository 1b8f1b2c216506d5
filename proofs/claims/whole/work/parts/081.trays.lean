/-! status, top, bottom, trays -/
theorem c_isTray (v0 : Nat) (v1 : Int32) (σ : ST) : f_X11_isTray v0 v1 σ = some (if v1 < 0 ∨ 4 ≤ v1 then 0 else 1, σ) := by
  unfold f_X11_isTray k_X11_isTray_13 k_X11_isTray_14
  by_cases h1 : v1 < 0
  · simp [h1, ckZ_0]
  · by_cases h2 : 4 ≤ v1
    · simp [h1, h2, ckZ_0]
    · simp [h1, h2, ckZ_1]
theorem r_isTray (v1 : Int32) (τ : ST) : f_X12_isTray v1 τ = some (if v1 < 0 ∨ 4 ≤ v1 then 0 else 1, τ) := by
  unfold f_X12_isTray k_X12_isTray_13 k_X12_isTray_14
  by_cases h1 : v1 < 0
  · simp [h1, ckZ_0]
  · by_cases h2 : 4 ≤ v1
    · simp [h1, h2, ckZ_0]
    · simp [h1, h2, ckZ_1]
theorem c_refused (v0 : Nat) (w : Int32) (σ : ST) : f_X11_refused v0 w σ = some (0, sI σ v0 14 w) := rfl
theorem c_allowed (v0 : Nat) (σ : ST) : f_X11_allowed v0 σ = some (1, sI σ v0 14 0) := rfl
theorem c_refuse (v0 : Nat) (w : Int32) (σ : ST) : f_X11_refuse v0 w σ = some (-1, sI σ v0 14 w) := rfl
theorem c_answer (v0 : Nat) (w : Int32) (σ : ST) : f_X11_answer v0 w σ = some (w, sI σ v0 14 0) := rfl
theorem r_refuse (v0 : Nat) (w : Int32) (τ : ST) : f_X12_refuse v0 w τ = some (-1, sI τ v0 2 w) := rfl
theorem r_gives (v0 : Nat) (w : Int32) (τ : ST) : f_X12_gives v0 w τ = some (w, sI τ v0 2 0) := rfl
theorem r_is (v0 : Nat) (w : Int32) (τ : ST) : f_X12_is v0 w τ = some (if w = 0 then 1 else 0, sI τ v0 2 w) := by
  unfold f_X12_is k_X12_is_14
  by_cases h : w = 0
  · simp [h, stI_e, ckZ_1]
  · simp [h, stI_e, ckZ_0]
/-- Arrays.fill(long[], long) -/
theorem fill2_loop (x : Nat) (v : Int64) (L : Nat) (hl : L ≤ LC.2.2.1 x) (hb : LC.2.2.1 x < 2 ^ 31) : ∀ (m i : Nat) (σ : ST), i ≤ L → L - i < m → k_J7_fill_d0a16_6 m x v (nI i) (nI L) σ = some (sB σ x (fillG (gB σ x) i L v)) := by
  intro m
  induction m with
  | zero => intro i σ _ h; omega
  | succ m ih =>
    intro i σ hi h
    rw [k_J7_fill_d0a16_6]
    by_cases e : i = L
    · subst e
      rw [if_pos (nI_le (Nat.le_refl _) (by omega)), fillG_done _ (Nat.le_refl _), sB_self]
    · rw [if_neg (nI_ge (by omega) (by omega)), stB_nI (by omega) hb, b_some, nI_1, ih (i + 1) _ (by omega) (by omega), sB_sB, gB_sB, if_pos rfl, fillG_step _ (by omega)]
theorem fill2 (x : Nat) (v : Int64) (σ : ST) (hb : LC.2.2.1 x < 900000) : f_J7_fill_d0a16 x v σ = some (sB σ x (fillG (gB σ x) 0 (LC.2.2.1 x) v)) := by
  unfold f_J7_fill_d0a16
  exact fill2_loop x v (LC.2.2.1 x) (Nat.le_refl _) (by omega) FU 0 σ (Nat.zero_le _) (by unfold FU; omega)
theorem tr_at : ∀ t, t < 4 → LC.1 (102 + 2 * t) = 9 ∧ LC.2.1 (102 + 2 * t) 0 = 103 + 2 * t ∧ LC.2.2.1 (103 + 2 * t) = 60 ∧ LC.2.1 (LC.2.1 0 0) t = 102 + 2 * t := by decide
theorem c_tray_of {t : Nat} (ht : t < 4) : ldR LC 9 (LC.2.1 0 0) (nI t) = some (102 + 2 * t) := by
  have h := tr_at t ht
  unfold ldR
  rw [if_neg (nI_in (N := LC.2.2.1 (LC.2.1 0 0)) (by exact ht) (by decide)), nI_clamp (by omega), h.2.2.2, if_pos h.1]
theorem c_begin {t : Nat} (ht : t < 4) (v1 v2 : Int32) (σ : ST) : f_X9_begin (102 + 2 * t) v1 v2 σ = some (sB (sI (sI (sI σ (102 + 2 * t) 1 1) (102 + 2 * t) 2 v1) (102 + 2 * t) 3 v2) (103 + 2 * t) (fillG (gB σ (103 + 2 * t)) 0 60 0)) := by
  obtain ⟨h1, h2, h3, h4⟩ := tr_at t ht
  unfold f_X9_begin
  rw [stZ_1, b_some, stI_e, b_some, stI_e, b_some, h2, fill2 _ _ _ (by rw [h3]; decide), b_some, h3]
  rfl
/-- an int from 0 to n is a natural number -/
theorem int_to {v M : Int32} {n : Nat} (hM : M.toInt = n) (h0 : ¬ v < 0) (h1 : v ≤ M) : ∃ k : Nat, k ≤ n ∧ v = nI k := nI_of2 hM h0 h1
/-- the reference's row of numbers is emptied -/
theorem r_tray_loop {t : Nat} (ht : t < 4) {M : Nat} (hM : M ≤ 60) : ∀ (n i : Nat) (τ : ST), i ≤ M → M - i < n → k_X12_tray_49 n 0 (nI t) (nI M) (nI i) τ = some (1, sI (sB τ 5 (fun k => if 60 * t + i ≤ k ∧ k < 60 * t + M then 0 else gB τ 5 k)) 0 2 0) := by
  intro n
  induction n with
  | zero => intro i τ _ h; omega
  | succ n ih =>
    intro i τ hi h
    rw [k_X12_tray_49]
    by_cases e : i = M
    · subst e
      rw [if_pos (nI_le (Nat.le_refl _) (by omega)), r_is, b_some]
      have e2 : (fun k => if 60 * t + i ≤ k ∧ k < 60 * t + i then (0 : Int64) else gB τ 5 k) = gB τ 5 := by
        funext k; rw [if_neg (by omega)]
      rw [e2, sB_self]
      rfl
    · have e60 : (60 : Int32) * nI t + nI i = nI (60 * t + i) := by
        rw [show (60 : Int32) = nI 60 from rfl, pk_mul, nI_add]
      rw [if_neg (nI_ge (by omega) (by omega)), show LR.2.1 0 7 = 5 from rfl, e60, stB_nI (by show 60 * t + i < 240; omega) (by decide), b_some, nI_1, ih (i + 1) _ (by omega) (by omega), sB_sB, gB_sB, if_pos rfl]
      congr 4
      funext k
      unfold vp_updL
      by_cases h1 : 60 * t + (i + 1) ≤ k ∧ k < 60 * t + M
      · rw [if_pos h1, if_pos (by omega)]
      · rw [if_neg h1]
        by_cases h2 : k = 60 * t + i
        · subst h2; rw [if_pos rfl, if_pos (by omega)]
        · rw [if_neg h2, if_neg (by omega)]
