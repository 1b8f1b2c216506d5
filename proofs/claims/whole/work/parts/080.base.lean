/-! PURE WORK: what the models answer -/
theorem sA_sA (σ : ST) (x : Nat) (f g : Nat → Int32) : sA (sA σ x f) x g = sA σ x g := by
  unfold sA; simp only [bx_uu]
theorem sB_sB (σ : ST) (x : Nat) (f g : Nat → Int64) : sB (sB σ x f) x g = sB σ x g := by
  unfold sB; simp only [bx_uu]
theorem vu_self {α : Type} (f : Nat → α) (x : Nat) : va_up f x (f x) = f := by
  funext j; unfold va_up; split <;> simp_all
theorem sA_self (σ : ST) (x : Nat) : sA σ x (gA σ x) = σ := by
  unfold sA gA; rw [vu_self]
theorem sB_self (σ : ST) (x : Nat) : sB σ x (gB σ x) = σ := by
  unfold sB gB; rw [vu_self]
theorem ldA_nI {Λ : LY} {σ : ST} {y k : Nat} (h : k < Λ.2.2.1 y) (hl : Λ.2.2.1 y < 2 ^ 31) : ldA Λ σ y (nI k) = some (gA σ y k) := by
  unfold ldA; rw [if_neg (nI_in h hl), nI_clamp (by omega)]
theorem ldB_nI {Λ : LY} {σ : ST} {y k : Nat} (h : k < Λ.2.2.1 y) (hl : Λ.2.2.1 y < 2 ^ 31) : ldB Λ σ y (nI k) = some (gB σ y k) := by
  unfold ldB; rw [if_neg (nI_in h hl), nI_clamp (by omega)]
theorem stA_nI {Λ : LY} {σ : ST} {y k : Nat} {v : Int32} (h : k < Λ.2.2.1 y) (hl : Λ.2.2.1 y < 2 ^ 31) : stA Λ σ y (nI k) v = some (sA σ y (upd (gA σ y) k v)) := by
  unfold stA; rw [if_neg (nI_in h hl), nI_clamp (by omega)]
theorem stB_nI {Λ : LY} {σ : ST} {y k : Nat} {v : Int64} (h : k < Λ.2.2.1 y) (hl : Λ.2.2.1 y < 2 ^ 31) : stB Λ σ y (nI k) v = some (sB σ y (vp_updL (gB σ y) k v)) := by
  unfold stB; rw [if_neg (nI_in h hl), nI_clamp (by omega)]
theorem ckZ_0 : ckZ 0 = some 0 := rfl
theorem ckZ_1 : ckZ 1 = some 1 := rfl
theorem stI_e (σ : ST) (x k : Nat) (v : Int32) : stI σ x k v = some (sI σ x k v) := rfl
theorem stJ_e (σ : ST) (x k : Nat) (v : Int64) : stJ σ x k v = some (sJ σ x k v) := rfl
theorem stZ_0 (σ : ST) (x k : Nat) : stZ σ x k 0 = some (sI σ x k 0) := rfl
theorem stZ_1 (σ : ST) (x k : Nat) : stZ σ x k 1 = some (sI σ x k 1) := rfl
theorem b_some {α β : Type} (v : α) (f : α → Option β) : (some v).bind f = f v := rfl
/-- a part of a row becomes v -/
def fillF (f : Nat → Int32) (i L : Nat) (v : Int32) : Nat → Int32 := fun k => if i ≤ k ∧ k < L then v else f k
def fillG (f : Nat → Int64) (i L : Nat) (v : Int64) : Nat → Int64 := fun k => if i ≤ k ∧ k < L then v else f k
theorem fillF_done (f : Nat → Int32) {i L : Nat} (h : L ≤ i) (v : Int32) : fillF f i L v = f := by
  funext k; unfold fillF; rw [if_neg (by omega)]
theorem fillG_done (f : Nat → Int64) {i L : Nat} (h : L ≤ i) (v : Int64) : fillG f i L v = f := by
  funext k; unfold fillG; rw [if_neg (by omega)]
theorem fillF_step (f : Nat → Int32) {i L : Nat} (h : i < L) (v : Int32) : fillF (upd f i v) (i + 1) L v = fillF f i L v := by
  funext k; unfold fillF upd
  by_cases h1 : i + 1 ≤ k ∧ k < L
  · rw [if_pos h1, if_pos (by omega)]
  · rw [if_neg h1]
    by_cases h2 : k = i
    · subst h2; rw [if_pos rfl, if_pos (by omega)]
    · rw [if_neg h2, if_neg (by omega)]
theorem fillG_step (f : Nat → Int64) {i L : Nat} (h : i < L) (v : Int64) : fillG (vp_updL f i v) (i + 1) L v = fillG f i L v := by
  funext k; unfold fillG vp_updL
  by_cases h1 : i + 1 ≤ k ∧ k < L
  · rw [if_pos h1, if_pos (by omega)]
  · rw [if_neg h1]
    by_cases h2 : k = i
    · subst h2; rw [if_pos rfl, if_pos (by omega)]
    · rw [if_neg h2, if_neg (by omega)]
/-- Arrays.fill(int[], int) -/
theorem fill1_loop (x : Nat) (v : Int32) (L : Nat) (hl : L ≤ LC.2.2.1 x) (hb : LC.2.2.1 x < 2 ^ 31) : ∀ (m i : Nat) (σ : ST), i ≤ L → L - i < m → k_J7_fill_53178_5 m x v (nI i) (nI L) σ = some (sA σ x (fillF (gA σ x) i L v)) := by
  intro m
  induction m with
  | zero => intro i σ _ h; omega
  | succ m ih =>
    intro i σ hi h
    rw [k_J7_fill_53178_5]
    by_cases e : i = L
    · subst e
      rw [if_pos (nI_le (Nat.le_refl _) (by omega)), fillF_done _ (Nat.le_refl _), sA_self]
    · rw [if_neg (nI_ge (by omega) (by omega)), stA_nI (by omega) hb, b_some, nI_1, ih (i + 1) _ (by omega) (by omega), sA_sA, gA_sA, if_pos rfl, fillF_step _ (by omega)]
theorem fill1 (x : Nat) (v : Int32) (σ : ST) (hb : LC.2.2.1 x < 900000) : f_J7_fill_53178 x v σ = some (sA σ x (fillF (gA σ x) 0 (LC.2.2.1 x) v)) := by
  unfold f_J7_fill_53178
  exact fill1_loop x v (LC.2.2.1 x) (Nat.le_refl _) (by omega) FU 0 σ (Nat.zero_le _) (by unfold FU; omega)
