/-! THE RELATION between a world of the class and a slot of the reference -/
/-- the cells of the world at w, from 0 on -/
def wv (σ : ST) (w : Nat) : ST := (fun x k => if x < 28 then gI σ (w + x) k else 0, fun x k => if x < 28 then gJ σ (w + x) k else 0, fun x => if x < 28 then gA σ (w + x) else fun _ => 0, fun x => if x < 28 then gB σ (w + x) else fun _ => 0)
theorem wv_I (σ : ST) (w : Nat) {x : Nat} (h : x < 28) (k : Nat) : gI (wv σ w) x k = gI σ (w + x) k := if_pos h
theorem wv_A (σ : ST) (w : Nat) {x : Nat} (h : x < 28) : gA (wv σ w) x = gA σ (w + x) := if_pos h
theorem wv_B (σ : ST) (w : Nat) {x : Nat} (h : x < 28) : gB (wv σ w) x = gB σ (w + x) := if_pos h
/-- a world stays where none of its cells has changed -/
theorem wv_same {σ σ' : ST} {w : Nat} (h : ∀ x, w ≤ x → x < w + 28 → (∀ k, gI σ' x k = gI σ x k) ∧ (∀ k, gJ σ' x k = gJ σ x k) ∧ gA σ' x = gA σ x ∧ gB σ' x = gB σ x) : wv σ' w = wv σ w := by
  unfold wv
  congr 1
  · funext x k
    by_cases hx : x < 28
    · rw [if_pos hx, if_pos hx]; exact (h (w + x) (by omega) (by omega)).1 k
    · rw [if_neg hx, if_neg hx]
  · congr 1
    · funext x k
      by_cases hx : x < 28
      · rw [if_pos hx, if_pos hx]; exact (h (w + x) (by omega) (by omega)).2.1 k
      · rw [if_neg hx, if_neg hx]
    · congr 1
      · funext x
        by_cases hx : x < 28
        · rw [if_pos hx, if_pos hx]; exact (h (w + x) (by omega) (by omega)).2.2.1
        · rw [if_neg hx, if_neg hx]
      · funext x
        by_cases hx : x < 28
        · rw [if_pos hx, if_pos hx]; exact (h (w + x) (by omega) (by omega)).2.2.2
        · rw [if_neg hx, if_neg hx]
theorem wv_sA_out (σ : ST) {w y : Nat} (h : y < w ∨ w + 28 ≤ y) (f : Nat → Int32) : wv (sA σ y f) w = wv σ w := wv_same (fun x h1 h2 => ⟨fun _ => rfl, fun _ => rfl, by rw [gA_sA, if_neg (by omega)], rfl⟩)
theorem wv_sB_out (σ : ST) {w y : Nat} (h : y < w ∨ w + 28 ≤ y) (f : Nat → Int64) : wv (sB σ y f) w = wv σ w := wv_same (fun x h1 h2 => ⟨fun _ => rfl, fun _ => rfl, rfl, by rw [gB_sB, if_neg (by omega)]⟩)
theorem wv_sI_out (σ : ST) {w y : Nat} (h : y < w ∨ w + 28 ≤ y) (k : Nat) (v : Int32) : wv (sI σ y k v) w = wv σ w := wv_same (fun x h1 h2 => ⟨fun _ => by rw [gI_sI, if_neg (by omega)], fun _ => rfl, rfl, rfl⟩)
theorem wv_sJ_out (σ : ST) {w y : Nat} (h : y < w ∨ w + 28 ≤ y) (k : Nat) (v : Int64) : wv (sJ σ y k v) w = wv σ w := wv_same (fun x h1 h2 => ⟨fun _ => rfl, fun _ => by rw [gJ_sJ, if_neg (by omega)], rfl, rfl⟩)
theorem wv_sA (σ : ST) (w : Nat) {x : Nat} (h : x < 28) (f : Nat → Int32) : wv (sA σ (w + x) f) w = sA (wv σ w) x f := by
  unfold wv sA
  simp only []
  congr 3
  funext y
  unfold va_up
  by_cases e : y = x
  · subst e; rw [if_pos h, if_pos rfl]; exact if_pos rfl
  · rw [if_neg e]
    by_cases hy : y < 28
    · rw [if_pos hy]
      show _ = (if y < 28 then gA σ (w + y) else fun _ => 0)
      rw [if_pos hy]; exact if_neg (by omega)
    · rw [if_neg hy]
      show _ = (if y < 28 then gA σ (w + y) else fun _ => 0)
      rw [if_neg hy]
theorem wv_sI (σ : ST) (w : Nat) {x : Nat} (h : x < 28) (k : Nat) (v : Int32) : wv (sI σ (w + x) k v) w = sI (wv σ w) x k v := by
  unfold wv
  have e : (fun y j => if y < 28 then gI (sI σ (w + x) k v) (w + y) j else 0) = (sI (fun y j => if y < 28 then gI σ (w + y) j else 0, σ.2) x k v).1 := by
    funext y j
    show _ = gI (sI (fun y j => if y < 28 then gI σ (w + y) j else 0, σ.2) x k v) y j
    rw [gI_sI, gI_sI (fun y j => if y < 28 then gI σ (w + y) j else 0, σ.2)]
    by_cases e : y = x
    · subst e
      rw [if_pos h]
      by_cases g : j = k
      · subst g; rw [if_pos ⟨rfl, rfl⟩, if_pos ⟨rfl, rfl⟩]
      · rw [if_neg (fun q => g q.2), if_neg (fun q => g q.2)]
        show _ = if y < 28 then gI σ (w + y) j else 0
        rw [if_pos h]
    · rw [if_neg (c := y = x ∧ j = k) (fun q => e q.1)]
      show _ = (if y < 28 then gI σ (w + y) j else 0)
      by_cases hy : y < 28
      · rw [if_pos hy, if_pos hy, if_neg (fun q => e (by omega))]
      · rw [if_neg hy, if_neg hy]
  rw [e]
  rfl
/-! things -/
def CR (s : Bool) (σ : ST) (c i : Nat) (t : Nat → Int32) : Prop := ∀ k, k < 6 → if s then (gA σ (c + 1) (i * 6 + k) = nI 0 ∧ gA σ (c + 2) (i * 6 + k) = t k ∧ t (6 + k) = nI 0) else (gA σ (c + 1) (i * 6 + k) = t k ∧ gA σ (c + 2) (i * 6 + k) = t (6 + k))
def TI (s : Bool) (B : Nat) (gv : Nat → Nat) (t : Nat → Int32) : Prop := ∀ k, k < 6 → if s then (vN (t k) ≤ B ∧ t (6 + k) = nI 0) else (vN (t (6 + k)) ≤ gv k ∧ ∀ i, bt (t k) i = true → i < vN (t (6 + k)))
def gv (f : Nat → Int32) (k y : Nat) : Nat := vN (f (4400 + 6 * k + y))
def hb (p q y : Nat) : Nat := 470 + 13 * ((6 * p + q) * 6 + y)
def tb (p y : Nat) : Nat := 30 + 12 * (6 * p + y)
def RS (s : ST) (f : Nat → Int32) : Prop := WFs f ∧ (gI s 1 6 = f 3 ∧ gI s 1 7 = f 4 ∧ gI s 1 9 = f 0 ∧ gI s 1 10 = f 1 ∧ gI s 1 11 = f 2) ∧ (∀ i, i < KN f → gA s 2 i = f (10 + i)) ∧ (∀ i, i < YN f → gA s 4 i = f (16 + i)) ∧ (∀ y, bt (gI s 1 8) y = (decide (y < 6) && sm f y)) ∧ (∀ y, YN f ≤ y → y < 6 → sm f y = false) ∧ (∀ y, y < YN f → ∀ k, bt (gA s 7 y) k = isPl f y k) ∧ ∀ y, y < YN f → ∀ m, m < KN f → gA s 6 (y * 6 + m) = nI (rw6 f y m)
def RU (s : ST) (f : Nat → Int32) : Prop := gI s 0 9 = f 5 ∧ gI s 0 10 = f 6
def RTk (s : ST) (f : Nat → Int32) : Prop := (∀ k, bt (gI s 0 11) k = decide (k < 4 ∧ f (4440 + 8 * k) ≠ mI)) ∧ ∀ t, t < 4 → (∀ k, k < 6 → gA s 23 (t * 6 + k) = nI 0) ∧ (f (4440 + 8 * t) ≠ mI → ∃ y, y < YN f ∧ sm f y = false ∧ f (4440 + 8 * t) = nI y ∧ gA s 25 t = nI y ∧ ∀ k, k < 6 → gA s 24 (t * 6 + k) = f (4440 + 8 * t + 1 + k) ∧ vN (f (4440 + 8 * t + 1 + k)) ≤ gv f k y)
def RGv (s : ST) (f : Nat → Int32) : Prop := (∀ c, c < 36 → gA s 26 c = f (4400 + c)) ∧ ∀ k y, k < 6 → y < 6 → gv f k y ≤ 30 ∧ (KN f ≤ k ∨ YN f ≤ y → gv f k y = 0)
def vb (y k c : Nat) : Nat := 3280 + 31 * (6 * y + k) + c
def RV (s : ST) (f : Nat → Int32) : Prop := ∀ y k i, y < 6 → k < 6 → i < gv f k y → gA s 27 (y * 180 + k * 30 + i) = f (vb y k (i + 1)) ∧ vN (f (vb y k (i + 1))) ≤ 1000
def RH (B : Nat) (s : ST) (f : Nat → Int32) : Prop := ∀ p y, p < 6 → y < 6 → CR (sm f y) s 15 (p * 6 + y) (sh f (tb p y)) ∧ TI (sm f y) B (fun k => gv f k y) (sh f (tb p y))
def RI (B : Nat) (s : ST) (f : Nat → Int32) : Prop := ∀ p q, p < 6 → q < 6 → (∀ y, bt (gA s 21 (p * 6 + q)) y = decide (y < 6 ∧ f (hb p q y) = nI 1)) ∧ ∀ y, y < 6 → CR (sm f y) s 18 ((p * 6 + q) * 6 + y) (sh f (hb p q y + 1)) ∧ TI (sm f y) B (fun k => gv f k y) (sh f (hb p q y + 1)) ∧ ((f (hb p q y) = nI 0 ∧ ∀ k, k < 12 → f (hb p q y + 1 + k) = nI 0) ∨ (f (hb p q y) = nI 1 ∧ p < KN f ∧ q < KN f ∧ y < YN f))
/-! days: line k has D k 0 its order, D k 1 the key, 2 the keeper, 3 the number, 4 the other, 5 the mate -/
def oY (o : Nat) : Bool := [7, 8, 9, 10, 23, 25].contains o
def oP (o : Nat) : Bool := [7, 8, 9, 10, 11, 12, 13, 17, 24, 25].contains o
def oV (o : Nat) : Bool := [7, 9, 14, 18, 20, 25].contains o
def oQ (o : Nat) : Bool := [17, 25].contains o
def oO (o : Nat) : Bool := [20, 23, 24, 25].contains o
def oM (o : Nat) : Bool := [20, 21, 23, 24, 25].contains o
/-- the class's number of an order -/
def cw (o : Nat) : Nat := if o = 20 then 23 else if o = 21 then 24 else if o = 22 then 25 else if o = 23 then 20 else if o = 24 then 21 else if o = 25 then 22 else o
/-- the reference's -/
def rwd (o : Nat) : Nat := if 23 ≤ o then 1900 + o else o
def RdC (s : ST) (D : Nat → Nat → Nat) (L : Nat) : Prop := ∀ k, k < L → gA s 9 k = nI (cw (D k 0)) ∧ (oY (D k 0) = true → gA s 10 k = nI (D k 1)) ∧ (oP (D k 0) = true → gA s 11 k = nI (D k 2)) ∧ (oV (D k 0) = true → gA s 12 k = nI (D k 3)) ∧ (oQ (D k 0) = true → gA s 13 k = nI (D k 4)) ∧ (oM (D k 0) = true → gA s 14 k = nI (D k 5))
def stb (k i : Nat) : Nat := 4480 + 6 * k + i
def RdR (f : Nat → Int32) (D : Nat → Nat → Nat) (L : Nat) : Prop := ∀ k, k < L → f (stb k 0) = nI (rwd (D k 0)) ∧ (oY (D k 0) = true → f (stb k 1) = nI (D k 1)) ∧ ([11, 12, 13, 17].contains (D k 0) = true → f (stb k 1) = nI (D k 2)) ∧ ([14, 18, 20].contains (D k 0) = true → f (stb k 1) = nI (D k 3)) ∧ ([7, 8, 9, 10, 24, 25].contains (D k 0) = true → f (stb k 2) = nI (D k 2)) ∧ (D k 0 = 17 → f (stb k 2) = nI (D k 4)) ∧ ([7, 9, 25].contains (D k 0) = true → f (stb k 3) = nI (D k 3)) ∧ (oM (D k 0) = true → f (stb k 4) = nI (D k 5)) ∧ (D k 0 = 25 → f (stb k 5) = nI (D k 4))
def VD (f : Nat → Int32) (D : Nat → Nat → Nat) (L : Nat) : Prop := ∀ k, k < L → (7 ≤ D k 0 ∧ D k 0 ≤ 25 ∧ D k 0 ≠ 19) ∧ (oY (D k 0) = true → D k 1 < YN f) ∧ (D k 0 = 7 ∨ D k 0 = 8 → sm f (D k 1) = false) ∧ (D k 0 = 9 → sm f (D k 1) = true ∧ 1 ≤ D k 3) ∧ (oP (D k 0) = true → D k 2 < KN f) ∧ (D k 0 = 17 → D k 4 < KN f) ∧ (oV (D k 0) = true → D k 3 ≤ 999) ∧ (D k 0 = 18 → D k 3 ≤ 16) ∧ (D k 0 = 20 → 1 ≤ D k 3 ∧ D k 3 ≤ 99) ∧ (D k 0 = 25 → D k 4 = 60 ∨ D k 4 = 61 ∨ D k 4 = 62) ∧ (oO (D k 0) = true → k < D k 5 ∧ D k 5 < L ∧ D (D k 5) 0 = 21 ∧ D (D k 5) 5 = k ∧ ∀ c, k < c → c < D k 5 → oO (D c 0) = true → D c 5 < D k 5) ∧ (D k 0 = 21 → D k 5 < k ∧ oO (D (D k 5) 0) = true ∧ D (D k 5) 5 = k)
def RDy (s : ST) (f : Nat → Int32) : Prop := (f 7 = mI ∧ gI s 8 6 = nI 0 ∧ gI s 8 7 = nI 0) ∨ ∃ (L : Nat) (D : Nat → Nat → Nat), L ≤ 60 ∧ f 7 = nI L ∧ gI s 8 6 = nI 1 ∧ gI s 8 7 = nI L ∧ VD f D L ∧ RdC s D L ∧ RdR f D L
/-! names -/
def n32 (l : List Nat) : Nat := l.foldl (fun v c => v * 32 + (c - 96)) 0
def n256 (l : List Nat) : Nat := l.foldl (fun v c => v * 256 + c) 0
def NmR (a b : Int64) : Prop := ∃ l : List Nat, 1 ≤ l.length ∧ l.length ≤ 8 ∧ (∀ c, c ∈ l → 97 ≤ c ∧ c ≤ 122) ∧ a = Int64.ofNat (n32 l) ∧ b = Int64.ofNat (n256 l)
def RNm (s : ST) (f : Nat → Int32) (g : Nat → Int64) : Prop := (∀ i, i < KN f → NmR (gB s 3 i) (g i)) ∧ ∀ i, i < YN f → NmR (gB s 5 i) (g (6 + i)) ∧ (i < 6 → f (22 + i) = nI 0 ∨ f (22 + i) = nI 1)
def RelW (B : Nat) (s : ST) (f : Nat → Int32) (g : Nat → Int64) : Prop := RS s f ∧ RU s f ∧ RTk s f ∧ RGv s f ∧ RV s f ∧ RH B s f ∧ RI B s f ∧ RDy s f ∧ RNm s f g
/-! the whole relation -/
def byR (a b : Int32) : Prop := a = b &&& nI 255 ∧ b.toInt8.toInt32 = b
def R3 (σ τ : ST) : Prop := (∃ n, n ≤ 900 ∧ gI σ 2 1 = nI n ∧ gI τ 0 10 = nI n ∧ ∀ k, k < n → byR (gA σ 3 k) (gA τ 6 k)) ∧ gI σ 2 2 = gI τ 0 16 ∧ gI σ 2 3 = gI τ 0 17
def R4 (σ τ : ST) : Prop := (∃ n, n ≤ 180 ∧ gI σ 0 18 = nI n ∧ gI τ 0 32 = nI n ∧ ∀ k, k < n → gA σ 100 k = gA τ 14 k) ∧ gI σ 0 19 = gI τ 0 28 ∧ ((gI σ 78 1 = mI ∧ gI τ 0 44 = nI 0) ∨ (∃ n, n ≤ 300 ∧ gI σ 78 1 = nI n ∧ gI τ 0 44 = nI 1 ∧ ∀ k, k < 6 → gA σ 79 k = gA τ 22 k))
def RM (B : Nat) (σ τ : ST) : Prop := ∃ n, n ≤ 3 ∧ gI σ 0 17 = nI n ∧ gI τ 0 46 = nI n ∧ ∀ i, i < n → RelW B (wv σ (110 + 28 * i)) (fun k => gA τ 1 (4850 * (i + 1) + k)) (fun k => gB τ 2 (12 * (i + 1) + k))
def Rel (i : Nat) (σ τ : ST) : Prop := R1 σ τ ∧ R2 σ τ ∧ R3 σ τ ∧ R4 σ τ ∧ RelW (50000 * i) (wv σ wM) (gA τ 1) (gB τ 2) ∧ RM (50000 * i) σ τ
