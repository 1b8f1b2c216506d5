def KtC : List Nat := [11, 17, 6, 13, 10, 7, 13, 14, 13, 14, 13, 13, 2, 13, 13, 13, 13, 13, 13, 0, 13, 13, 0, 13, 13, 13, 0, 13, 13, 13, 13, 13, 8, 7, 13, 14, 13, 14, 13, 13, 3, 2, 13, 13, 13, 13, 13, 13, 13, 18, 10, 7, 13, 14, 13, 14, 13, 13, 2, 13, 13, 13, 13, 13, 13, 0, 13, 13, 0, 13, 13, 13, 0, 13, 13, 13, 13, 13, 4, 13, 13, 4, 13, 13, 1, 0, 13, 13, 13, 13, 5, 0, 13, 13, 16, 13, 13, 0, 13, 13, 13, 13, 9, 14, 9, 14, 9, 14, 9, 14, 10, 7, 13, 14, 13, 14, 13, 13, 2, 13, 13, 13, 13, 13, 13, 0, 13, 13, 0, 13, 13, 13, 0, 13, 13, 13, 13, 13, 10, 7, 13, 14, 13, 14, 13, 13, 2, 13, 13, 13, 13, 13, 13, 0, 13, 13, 0, 13, 13, 13, 0, 13, 13, 13, 13, 13, 10, 7, 13, 14, 13, 14, 13, 13, 2, 13, 13, 13, 13, 13, 13, 0, 13, 13, 0, 13, 13, 13, 0, 13, 13, 13, 13, 13]
def LtC : List Nat := [0, 4, 0, 900, 0, 0, 6, 6, 6, 6, 36, 6, 0, 60, 60, 60, 60, 60, 60, 0, 216, 216, 0, 1296, 1296, 36, 0, 24, 24, 4, 36, 1080, 0, 0, 6, 6, 6, 6, 36, 6, 0, 0, 60, 60, 60, 60, 60, 60, 3, 3, 0, 0, 6, 6, 6, 6, 36, 6, 0, 60, 60, 60, 60, 60, 60, 0, 216, 216, 0, 1296, 1296, 36, 0, 24, 24, 4, 36, 1080, 0, 6, 60, 0, 6, 60, 0, 0, 6, 6, 3600, 20, 0, 0, 384, 384, 64, 6, 6, 0, 6, 6, 180, 1001, 0, 60, 0, 60, 0, 60, 0, 60, 0, 0, 6, 6, 6, 6, 36, 6, 0, 60, 60, 60, 60, 60, 60, 0, 216, 216, 0, 1296, 1296, 36, 0, 24, 24, 4, 36, 1080, 0, 0, 6, 6, 6, 6, 36, 6, 0, 60, 60, 60, 60, 60, 60, 0, 216, 216, 0, 1296, 1296, 36, 0, 24, 24, 4, 36, 1080, 0, 0, 6, 6, 6, 6, 36, 6, 0, 60, 60, 60, 60, 60, 60, 0, 216, 216, 0, 1296, 1296, 36, 0, 24, 24, 4, 36, 1080]
def KC (x : Nat) : Nat := KtC.getD x 99
def lenC (x : Nat) : Nat := LtC.getD x 0
def KtR : List Nat := [12, 13, 14, 13, 13, 14, 15, 15, 13, 13, 13, 13, 13, 13, 13, 13, 13, 13, 16, 13, 13, 13, 13]
def LtR : List Nat := [0, 29600, 70, 4, 4, 240, 900, 900, 3, 6, 180, 180, 180, 6, 180, 15, 15, 5, 1001, 3700, 80, 6, 6]
def KR (x : Nat) : Nat := KtR.getD x 99
def lenR (x : Nat) : Nat := LtR.getD x 0
def rfC (x k : Nat) : Nat := match KC x with
  | 0 => x + 1 + k
  | 1 => (match k with | 0 => x + 1 | 1 => x + 4 | _ => x + 5)
  | 2 => x + 1 + k
  | 3 => (match k with | 0 => x + 1 | 1 => 2 | 2 => 5 | _ => x + 8)
  | 4 => (match k with | 0 => x + 1 | _ => x + 2)
  | 5 => (match k with | 0 => x + 1 | 1 => x + 4 | 2 => x + 5 | _ => x + 6)
  | 6 => x + 1
  | 7 => x + 1 + k
  | 8 => (match k with | 0 => x + 1 | _ => 2)
  | 9 => x + 1
  | 10 => (match k with | 0 => x + 1 | 1 => x + 8 | 2 => x + 15 | 3 => x + 18 | 4 => x + 21 | 5 => x + 22 | 6 => x + 25 | 7 => x + 26 | _ => x + 27)
  | 11 => (match k with | 0 => 1 | 1 => 2 | 2 => 4 | 3 => 32 | 4 => 40 | 5 => 49 | 6 => 50 | 7 => 78 | 8 => 81 | 9 => 84 | 10 => 90 | 11 => 97 | 12 => 100 | _ => 101)
  | 17 => 102 + 2 * k
  | 18 => 110 + 28 * k
  | _ => 0
def rfR (_x k : Nat) : Nat := match k with
  | 0 => 1
  | 1 => 2
  | 5 => 3
  | 6 => 4
  | 7 => 5
  | 8 => 6
  | 9 => 7
  | 20 => 8
  | 23 => 9
  | 24 => 10
  | 25 => 11
  | 26 => 12
  | 29 => 13
  | 31 => 14
  | 33 => 15
  | 34 => 16
  | 35 => 17
  | 37 => 18
  | 38 => 19
  | 41 => 20
  | 42 => 21
  | 43 => 22
  | _ => 0
def LC : LY := (KC, rfC, lenC, 194)
def LR : LY := (KR, rfR, lenR, 23)
theorem LC_ok : LOK LC := fun x h => by
  by_cases hx : x < 194
  · exact hx
  · exfalso
    have e : KC x = 99 := by
      unfold KC
      rw [List.getD_eq_getElem?_getD, List.getElem?_eq_none (by show 194 ≤ x; omega)]
      rfl
    have h2 : KC x < 19 := h
    omega
theorem LR_ok : LOK LR := fun x h => by
  by_cases hx : x < 23
  · exact hx
  · exfalso
    have e : KR x = 99 := by
      unfold KR
      rw [List.getD_eq_getElem?_getD, List.getElem?_eq_none (by show 23 ≤ x; omega)]
      rfl
    have h2 : KR x < 19 := h
    omega
theorem tC_11_0_all : ∀ x, x < 194 → KC x = 11 → KC (rfC x 0) = 17 := by decide +kernel
theorem tC_11_0 {x : Nat} (h : LC.1 x = 11) : LC.1 (LC.2.1 x 0) = 17 := tC_11_0_all x (LC_ok x (by rw [h]; decide)) h
theorem tC_11_1_all : ∀ x, x < 194 → KC x = 11 → KC (rfC x 1) = 6 := by decide +kernel
theorem tC_11_1 {x : Nat} (h : LC.1 x = 11) : LC.1 (LC.2.1 x 1) = 6 := tC_11_1_all x (LC_ok x (by rw [h]; decide)) h
theorem tC_11_2_all : ∀ x, x < 194 → KC x = 11 → KC (rfC x 2) = 10 := by decide +kernel
theorem tC_11_2 {x : Nat} (h : LC.1 x = 11) : LC.1 (LC.2.1 x 2) = 10 := tC_11_2_all x (LC_ok x (by rw [h]; decide)) h
theorem tC_11_3_all : ∀ x, x < 194 → KC x = 11 → KC (rfC x 3) = 8 := by decide +kernel
theorem tC_11_3 {x : Nat} (h : LC.1 x = 11) : LC.1 (LC.2.1 x 3) = 8 := tC_11_3_all x (LC_ok x (by rw [h]; decide)) h
theorem tC_11_4_all : ∀ x, x < 194 → KC x = 11 → KC (rfC x 4) = 3 := by decide +kernel
theorem tC_11_4 {x : Nat} (h : LC.1 x = 11) : LC.1 (LC.2.1 x 4) = 3 := tC_11_4_all x (LC_ok x (by rw [h]; decide)) h
theorem tC_11_5_all : ∀ x, x < 194 → KC x = 11 → KC (rfC x 5) = 18 := by decide +kernel
theorem tC_11_5 {x : Nat} (h : LC.1 x = 11) : LC.1 (LC.2.1 x 5) = 18 := tC_11_5_all x (LC_ok x (by rw [h]; decide)) h
theorem tC_11_6_all : ∀ x, x < 194 → KC x = 11 → KC (rfC x 6) = 10 := by decide +kernel
theorem tC_11_6 {x : Nat} (h : LC.1 x = 11) : LC.1 (LC.2.1 x 6) = 10 := tC_11_6_all x (LC_ok x (by rw [h]; decide)) h
theorem tC_11_7_all : ∀ x, x < 194 → KC x = 11 → KC (rfC x 7) = 4 := by decide +kernel
theorem tC_11_7 {x : Nat} (h : LC.1 x = 11) : LC.1 (LC.2.1 x 7) = 4 := tC_11_7_all x (LC_ok x (by rw [h]; decide)) h
theorem tC_11_8_all : ∀ x, x < 194 → KC x = 11 → KC (rfC x 8) = 4 := by decide +kernel
theorem tC_11_8 {x : Nat} (h : LC.1 x = 11) : LC.1 (LC.2.1 x 8) = 4 := tC_11_8_all x (LC_ok x (by rw [h]; decide)) h
theorem tC_11_9_all : ∀ x, x < 194 → KC x = 11 → KC (rfC x 9) = 1 := by decide +kernel
theorem tC_11_9 {x : Nat} (h : LC.1 x = 11) : LC.1 (LC.2.1 x 9) = 1 := tC_11_9_all x (LC_ok x (by rw [h]; decide)) h
theorem tC_11_10_all : ∀ x, x < 194 → KC x = 11 → KC (rfC x 10) = 5 := by decide +kernel
theorem tC_11_10 {x : Nat} (h : LC.1 x = 11) : LC.1 (LC.2.1 x 10) = 5 := tC_11_10_all x (LC_ok x (by rw [h]; decide)) h
theorem tC_11_11_all : ∀ x, x < 194 → KC x = 11 → KC (rfC x 11) = 0 := by decide +kernel
theorem tC_11_11 {x : Nat} (h : LC.1 x = 11) : LC.1 (LC.2.1 x 11) = 0 := tC_11_11_all x (LC_ok x (by rw [h]; decide)) h
theorem tC_11_12_all : ∀ x, x < 194 → KC x = 11 → KC (rfC x 12) = 13 := by decide +kernel
theorem tC_11_12 {x : Nat} (h : LC.1 x = 11) : LC.1 (LC.2.1 x 12) = 13 := tC_11_12_all x (LC_ok x (by rw [h]; decide)) h
theorem tC_11_13_all : ∀ x, x < 194 → KC x = 11 → KC (rfC x 13) = 13 := by decide +kernel
theorem tC_11_13 {x : Nat} (h : LC.1 x = 11) : LC.1 (LC.2.1 x 13) = 13 := tC_11_13_all x (LC_ok x (by rw [h]; decide)) h
theorem tC_6_0_all : ∀ x, x < 194 → KC x = 6 → KC (rfC x 0) = 13 := by decide +kernel
theorem tC_6_0 {x : Nat} (h : LC.1 x = 6) : LC.1 (LC.2.1 x 0) = 13 := tC_6_0_all x (LC_ok x (by rw [h]; decide)) h
theorem tC_10_0_all : ∀ x, x < 194 → KC x = 10 → KC (rfC x 0) = 7 := by decide +kernel
theorem tC_10_0 {x : Nat} (h : LC.1 x = 10) : LC.1 (LC.2.1 x 0) = 7 := tC_10_0_all x (LC_ok x (by rw [h]; decide)) h
theorem tC_10_1_all : ∀ x, x < 194 → KC x = 10 → KC (rfC x 1) = 2 := by decide +kernel
theorem tC_10_1 {x : Nat} (h : LC.1 x = 10) : LC.1 (LC.2.1 x 1) = 2 := tC_10_1_all x (LC_ok x (by rw [h]; decide)) h
theorem tC_10_2_all : ∀ x, x < 194 → KC x = 10 → KC (rfC x 2) = 0 := by decide +kernel
theorem tC_10_2 {x : Nat} (h : LC.1 x = 10) : LC.1 (LC.2.1 x 2) = 0 := tC_10_2_all x (LC_ok x (by rw [h]; decide)) h
theorem tC_10_3_all : ∀ x, x < 194 → KC x = 10 → KC (rfC x 3) = 0 := by decide +kernel
theorem tC_10_3 {x : Nat} (h : LC.1 x = 10) : LC.1 (LC.2.1 x 3) = 0 := tC_10_3_all x (LC_ok x (by rw [h]; decide)) h
theorem tC_10_4_all : ∀ x, x < 194 → KC x = 10 → KC (rfC x 4) = 13 := by decide +kernel
theorem tC_10_4 {x : Nat} (h : LC.1 x = 10) : LC.1 (LC.2.1 x 4) = 13 := tC_10_4_all x (LC_ok x (by rw [h]; decide)) h
theorem tC_10_5_all : ∀ x, x < 194 → KC x = 10 → KC (rfC x 5) = 0 := by decide +kernel
theorem tC_10_5 {x : Nat} (h : LC.1 x = 10) : LC.1 (LC.2.1 x 5) = 0 := tC_10_5_all x (LC_ok x (by rw [h]; decide)) h
theorem tC_10_6_all : ∀ x, x < 194 → KC x = 10 → KC (rfC x 6) = 13 := by decide +kernel
theorem tC_10_6 {x : Nat} (h : LC.1 x = 10) : LC.1 (LC.2.1 x 6) = 13 := tC_10_6_all x (LC_ok x (by rw [h]; decide)) h
theorem tC_10_7_all : ∀ x, x < 194 → KC x = 10 → KC (rfC x 7) = 13 := by decide +kernel
theorem tC_10_7 {x : Nat} (h : LC.1 x = 10) : LC.1 (LC.2.1 x 7) = 13 := tC_10_7_all x (LC_ok x (by rw [h]; decide)) h
theorem tC_10_8_all : ∀ x, x < 194 → KC x = 10 → KC (rfC x 8) = 13 := by decide +kernel
theorem tC_10_8 {x : Nat} (h : LC.1 x = 10) : LC.1 (LC.2.1 x 8) = 13 := tC_10_8_all x (LC_ok x (by rw [h]; decide)) h
theorem tC_7_0_all : ∀ x, x < 194 → KC x = 7 → KC (rfC x 0) = 13 := by decide +kernel
theorem tC_7_0 {x : Nat} (h : LC.1 x = 7) : LC.1 (LC.2.1 x 0) = 13 := tC_7_0_all x (LC_ok x (by rw [h]; decide)) h
theorem tC_7_1_all : ∀ x, x < 194 → KC x = 7 → KC (rfC x 1) = 14 := by decide +kernel
theorem tC_7_1 {x : Nat} (h : LC.1 x = 7) : LC.1 (LC.2.1 x 1) = 14 := tC_7_1_all x (LC_ok x (by rw [h]; decide)) h
theorem tC_7_2_all : ∀ x, x < 194 → KC x = 7 → KC (rfC x 2) = 13 := by decide +kernel
theorem tC_7_2 {x : Nat} (h : LC.1 x = 7) : LC.1 (LC.2.1 x 2) = 13 := tC_7_2_all x (LC_ok x (by rw [h]; decide)) h
theorem tC_7_3_all : ∀ x, x < 194 → KC x = 7 → KC (rfC x 3) = 14 := by decide +kernel
theorem tC_7_3 {x : Nat} (h : LC.1 x = 7) : LC.1 (LC.2.1 x 3) = 14 := tC_7_3_all x (LC_ok x (by rw [h]; decide)) h
theorem tC_7_4_all : ∀ x, x < 194 → KC x = 7 → KC (rfC x 4) = 13 := by decide +kernel
theorem tC_7_4 {x : Nat} (h : LC.1 x = 7) : LC.1 (LC.2.1 x 4) = 13 := tC_7_4_all x (LC_ok x (by rw [h]; decide)) h
theorem tC_7_5_all : ∀ x, x < 194 → KC x = 7 → KC (rfC x 5) = 13 := by decide +kernel
theorem tC_7_5 {x : Nat} (h : LC.1 x = 7) : LC.1 (LC.2.1 x 5) = 13 := tC_7_5_all x (LC_ok x (by rw [h]; decide)) h
theorem tC_2_0_all : ∀ x, x < 194 → KC x = 2 → KC (rfC x 0) = 13 := by decide +kernel
theorem tC_2_0 {x : Nat} (h : LC.1 x = 2) : LC.1 (LC.2.1 x 0) = 13 := tC_2_0_all x (LC_ok x (by rw [h]; decide)) h
theorem tC_2_1_all : ∀ x, x < 194 → KC x = 2 → KC (rfC x 1) = 13 := by decide +kernel
theorem tC_2_1 {x : Nat} (h : LC.1 x = 2) : LC.1 (LC.2.1 x 1) = 13 := tC_2_1_all x (LC_ok x (by rw [h]; decide)) h
theorem tC_2_2_all : ∀ x, x < 194 → KC x = 2 → KC (rfC x 2) = 13 := by decide +kernel
theorem tC_2_2 {x : Nat} (h : LC.1 x = 2) : LC.1 (LC.2.1 x 2) = 13 := tC_2_2_all x (LC_ok x (by rw [h]; decide)) h
theorem tC_2_3_all : ∀ x, x < 194 → KC x = 2 → KC (rfC x 3) = 13 := by decide +kernel
theorem tC_2_3 {x : Nat} (h : LC.1 x = 2) : LC.1 (LC.2.1 x 3) = 13 := tC_2_3_all x (LC_ok x (by rw [h]; decide)) h
theorem tC_2_4_all : ∀ x, x < 194 → KC x = 2 → KC (rfC x 4) = 13 := by decide +kernel
theorem tC_2_4 {x : Nat} (h : LC.1 x = 2) : LC.1 (LC.2.1 x 4) = 13 := tC_2_4_all x (LC_ok x (by rw [h]; decide)) h
theorem tC_2_5_all : ∀ x, x < 194 → KC x = 2 → KC (rfC x 5) = 13 := by decide +kernel
theorem tC_2_5 {x : Nat} (h : LC.1 x = 2) : LC.1 (LC.2.1 x 5) = 13 := tC_2_5_all x (LC_ok x (by rw [h]; decide)) h
theorem tC_0_0_all : ∀ x, x < 194 → KC x = 0 → KC (rfC x 0) = 13 := by decide +kernel
theorem tC_0_0 {x : Nat} (h : LC.1 x = 0) : LC.1 (LC.2.1 x 0) = 13 := tC_0_0_all x (LC_ok x (by rw [h]; decide)) h
theorem tC_0_1_all : ∀ x, x < 194 → KC x = 0 → KC (rfC x 1) = 13 := by decide +kernel
theorem tC_0_1 {x : Nat} (h : LC.1 x = 0) : LC.1 (LC.2.1 x 1) = 13 := tC_0_1_all x (LC_ok x (by rw [h]; decide)) h
theorem tC_8_0_all : ∀ x, x < 194 → KC x = 8 → KC (rfC x 0) = 7 := by decide +kernel
theorem tC_8_0 {x : Nat} (h : LC.1 x = 8) : LC.1 (LC.2.1 x 0) = 7 := tC_8_0_all x (LC_ok x (by rw [h]; decide)) h
theorem tC_8_1_all : ∀ x, x < 194 → KC x = 8 → KC (rfC x 1) = 6 := by decide +kernel
theorem tC_8_1 {x : Nat} (h : LC.1 x = 8) : LC.1 (LC.2.1 x 1) = 6 := tC_8_1_all x (LC_ok x (by rw [h]; decide)) h
theorem tC_3_0_all : ∀ x, x < 194 → KC x = 3 → KC (rfC x 0) = 2 := by decide +kernel
theorem tC_3_0 {x : Nat} (h : LC.1 x = 3) : LC.1 (LC.2.1 x 0) = 2 := tC_3_0_all x (LC_ok x (by rw [h]; decide)) h
theorem tC_3_1_all : ∀ x, x < 194 → KC x = 3 → KC (rfC x 1) = 6 := by decide +kernel
theorem tC_3_1 {x : Nat} (h : LC.1 x = 3) : LC.1 (LC.2.1 x 1) = 6 := tC_3_1_all x (LC_ok x (by rw [h]; decide)) h
theorem tC_3_2_all : ∀ x, x < 194 → KC x = 3 → KC (rfC x 2) = 7 := by decide +kernel
theorem tC_3_2 {x : Nat} (h : LC.1 x = 3) : LC.1 (LC.2.1 x 2) = 7 := tC_3_2_all x (LC_ok x (by rw [h]; decide)) h
theorem tC_3_3_all : ∀ x, x < 194 → KC x = 3 → KC (rfC x 3) = 13 := by decide +kernel
theorem tC_3_3 {x : Nat} (h : LC.1 x = 3) : LC.1 (LC.2.1 x 3) = 13 := tC_3_3_all x (LC_ok x (by rw [h]; decide)) h
theorem tC_4_0_all : ∀ x, x < 194 → KC x = 4 → KC (rfC x 0) = 13 := by decide +kernel
theorem tC_4_0 {x : Nat} (h : LC.1 x = 4) : LC.1 (LC.2.1 x 0) = 13 := tC_4_0_all x (LC_ok x (by rw [h]; decide)) h
theorem tC_4_2_all : ∀ x, x < 194 → KC x = 4 → KC (rfC x 2) = 13 := by decide +kernel
theorem tC_4_2 {x : Nat} (h : LC.1 x = 4) : LC.1 (LC.2.1 x 2) = 13 := tC_4_2_all x (LC_ok x (by rw [h]; decide)) h
theorem tC_1_0_all : ∀ x, x < 194 → KC x = 1 → KC (rfC x 0) = 0 := by decide +kernel
theorem tC_1_0 {x : Nat} (h : LC.1 x = 1) : LC.1 (LC.2.1 x 0) = 0 := tC_1_0_all x (LC_ok x (by rw [h]; decide)) h
theorem tC_1_1_all : ∀ x, x < 194 → KC x = 1 → KC (rfC x 1) = 13 := by decide +kernel
theorem tC_1_1 {x : Nat} (h : LC.1 x = 1) : LC.1 (LC.2.1 x 1) = 13 := tC_1_1_all x (LC_ok x (by rw [h]; decide)) h
theorem tC_1_2_all : ∀ x, x < 194 → KC x = 1 → KC (rfC x 2) = 13 := by decide +kernel
theorem tC_1_2 {x : Nat} (h : LC.1 x = 1) : LC.1 (LC.2.1 x 2) = 13 := tC_1_2_all x (LC_ok x (by rw [h]; decide)) h
theorem tC_5_0_all : ∀ x, x < 194 → KC x = 5 → KC (rfC x 0) = 0 := by decide +kernel
theorem tC_5_0 {x : Nat} (h : LC.1 x = 5) : LC.1 (LC.2.1 x 0) = 0 := tC_5_0_all x (LC_ok x (by rw [h]; decide)) h
theorem tC_5_1_all : ∀ x, x < 194 → KC x = 5 → KC (rfC x 1) = 16 := by decide +kernel
theorem tC_5_1 {x : Nat} (h : LC.1 x = 5) : LC.1 (LC.2.1 x 1) = 16 := tC_5_1_all x (LC_ok x (by rw [h]; decide)) h
theorem tC_5_2_all : ∀ x, x < 194 → KC x = 5 → KC (rfC x 2) = 13 := by decide +kernel
theorem tC_5_2 {x : Nat} (h : LC.1 x = 5) : LC.1 (LC.2.1 x 2) = 13 := tC_5_2_all x (LC_ok x (by rw [h]; decide)) h
theorem tC_5_3_all : ∀ x, x < 194 → KC x = 5 → KC (rfC x 3) = 13 := by decide +kernel
theorem tC_5_3 {x : Nat} (h : LC.1 x = 5) : LC.1 (LC.2.1 x 3) = 13 := tC_5_3_all x (LC_ok x (by rw [h]; decide)) h
theorem tC_9_0_all : ∀ x, x < 194 → KC x = 9 → KC (rfC x 0) = 14 := by decide +kernel
theorem tC_9_0 {x : Nat} (h : LC.1 x = 9) : LC.1 (LC.2.1 x 0) = 14 := tC_9_0_all x (LC_ok x (by rw [h]; decide)) h
theorem tR_12_0_all : ∀ x, x < 23 → KR x = 12 → KR (rfR x 0) = 13 := by decide +kernel
theorem tR_12_0 {x : Nat} (h : LR.1 x = 12) : LR.1 (LR.2.1 x 0) = 13 := tR_12_0_all x (LR_ok x (by rw [h]; decide)) h
theorem tR_12_1_all : ∀ x, x < 23 → KR x = 12 → KR (rfR x 1) = 14 := by decide +kernel
theorem tR_12_1 {x : Nat} (h : LR.1 x = 12) : LR.1 (LR.2.1 x 1) = 14 := tR_12_1_all x (LR_ok x (by rw [h]; decide)) h
theorem tR_12_5_all : ∀ x, x < 23 → KR x = 12 → KR (rfR x 5) = 13 := by decide +kernel
theorem tR_12_5 {x : Nat} (h : LR.1 x = 12) : LR.1 (LR.2.1 x 5) = 13 := tR_12_5_all x (LR_ok x (by rw [h]; decide)) h
theorem tR_12_6_all : ∀ x, x < 23 → KR x = 12 → KR (rfR x 6) = 13 := by decide +kernel
theorem tR_12_6 {x : Nat} (h : LR.1 x = 12) : LR.1 (LR.2.1 x 6) = 13 := tR_12_6_all x (LR_ok x (by rw [h]; decide)) h
theorem tR_12_7_all : ∀ x, x < 23 → KR x = 12 → KR (rfR x 7) = 14 := by decide +kernel
theorem tR_12_7 {x : Nat} (h : LR.1 x = 12) : LR.1 (LR.2.1 x 7) = 14 := tR_12_7_all x (LR_ok x (by rw [h]; decide)) h
theorem tR_12_8_all : ∀ x, x < 23 → KR x = 12 → KR (rfR x 8) = 15 := by decide +kernel
theorem tR_12_8 {x : Nat} (h : LR.1 x = 12) : LR.1 (LR.2.1 x 8) = 15 := tR_12_8_all x (LR_ok x (by rw [h]; decide)) h
theorem tR_12_9_all : ∀ x, x < 23 → KR x = 12 → KR (rfR x 9) = 15 := by decide +kernel
theorem tR_12_9 {x : Nat} (h : LR.1 x = 12) : LR.1 (LR.2.1 x 9) = 15 := tR_12_9_all x (LR_ok x (by rw [h]; decide)) h
theorem tR_12_20_all : ∀ x, x < 23 → KR x = 12 → KR (rfR x 20) = 13 := by decide +kernel
theorem tR_12_20 {x : Nat} (h : LR.1 x = 12) : LR.1 (LR.2.1 x 20) = 13 := tR_12_20_all x (LR_ok x (by rw [h]; decide)) h
theorem tR_12_23_all : ∀ x, x < 23 → KR x = 12 → KR (rfR x 23) = 13 := by decide +kernel
theorem tR_12_23 {x : Nat} (h : LR.1 x = 12) : LR.1 (LR.2.1 x 23) = 13 := tR_12_23_all x (LR_ok x (by rw [h]; decide)) h
theorem tR_12_24_all : ∀ x, x < 23 → KR x = 12 → KR (rfR x 24) = 13 := by decide +kernel
theorem tR_12_24 {x : Nat} (h : LR.1 x = 12) : LR.1 (LR.2.1 x 24) = 13 := tR_12_24_all x (LR_ok x (by rw [h]; decide)) h
theorem tR_12_25_all : ∀ x, x < 23 → KR x = 12 → KR (rfR x 25) = 13 := by decide +kernel
theorem tR_12_25 {x : Nat} (h : LR.1 x = 12) : LR.1 (LR.2.1 x 25) = 13 := tR_12_25_all x (LR_ok x (by rw [h]; decide)) h
theorem tR_12_26_all : ∀ x, x < 23 → KR x = 12 → KR (rfR x 26) = 13 := by decide +kernel
theorem tR_12_26 {x : Nat} (h : LR.1 x = 12) : LR.1 (LR.2.1 x 26) = 13 := tR_12_26_all x (LR_ok x (by rw [h]; decide)) h
theorem tR_12_29_all : ∀ x, x < 23 → KR x = 12 → KR (rfR x 29) = 13 := by decide +kernel
theorem tR_12_29 {x : Nat} (h : LR.1 x = 12) : LR.1 (LR.2.1 x 29) = 13 := tR_12_29_all x (LR_ok x (by rw [h]; decide)) h
theorem tR_12_31_all : ∀ x, x < 23 → KR x = 12 → KR (rfR x 31) = 13 := by decide +kernel
theorem tR_12_31 {x : Nat} (h : LR.1 x = 12) : LR.1 (LR.2.1 x 31) = 13 := tR_12_31_all x (LR_ok x (by rw [h]; decide)) h
theorem tR_12_33_all : ∀ x, x < 23 → KR x = 12 → KR (rfR x 33) = 13 := by decide +kernel
theorem tR_12_33 {x : Nat} (h : LR.1 x = 12) : LR.1 (LR.2.1 x 33) = 13 := tR_12_33_all x (LR_ok x (by rw [h]; decide)) h
theorem tR_12_34_all : ∀ x, x < 23 → KR x = 12 → KR (rfR x 34) = 13 := by decide +kernel
theorem tR_12_34 {x : Nat} (h : LR.1 x = 12) : LR.1 (LR.2.1 x 34) = 13 := tR_12_34_all x (LR_ok x (by rw [h]; decide)) h
theorem tR_12_35_all : ∀ x, x < 23 → KR x = 12 → KR (rfR x 35) = 13 := by decide +kernel
theorem tR_12_35 {x : Nat} (h : LR.1 x = 12) : LR.1 (LR.2.1 x 35) = 13 := tR_12_35_all x (LR_ok x (by rw [h]; decide)) h
theorem tR_12_37_all : ∀ x, x < 23 → KR x = 12 → KR (rfR x 37) = 16 := by decide +kernel
theorem tR_12_37 {x : Nat} (h : LR.1 x = 12) : LR.1 (LR.2.1 x 37) = 16 := tR_12_37_all x (LR_ok x (by rw [h]; decide)) h
theorem tR_12_38_all : ∀ x, x < 23 → KR x = 12 → KR (rfR x 38) = 13 := by decide +kernel
theorem tR_12_38 {x : Nat} (h : LR.1 x = 12) : LR.1 (LR.2.1 x 38) = 13 := tR_12_38_all x (LR_ok x (by rw [h]; decide)) h
theorem tR_12_41_all : ∀ x, x < 23 → KR x = 12 → KR (rfR x 41) = 13 := by decide +kernel
theorem tR_12_41 {x : Nat} (h : LR.1 x = 12) : LR.1 (LR.2.1 x 41) = 13 := tR_12_41_all x (LR_ok x (by rw [h]; decide)) h
theorem tR_12_42_all : ∀ x, x < 23 → KR x = 12 → KR (rfR x 42) = 13 := by decide +kernel
theorem tR_12_42 {x : Nat} (h : LR.1 x = 12) : LR.1 (LR.2.1 x 42) = 13 := tR_12_42_all x (LR_ok x (by rw [h]; decide)) h
theorem tR_12_43_all : ∀ x, x < 23 → KR x = 12 → KR (rfR x 43) = 13 := by decide +kernel
theorem tR_12_43 {x : Nat} (h : LR.1 x = 12) : LR.1 (LR.2.1 x 43) = 13 := tR_12_43_all x (LR_ok x (by rw [h]; decide)) h
theorem w_arraycopy : Cond.native arraycopyName ∈ wsL_law ∧ Cond.static arraycopyName ∈ wsL_law ∧ Cond.initialized "java/lang/System" ∈ wsL_law := ⟨rL14 _ (List.mem_of_getElem? (i := 21) rfl), rL14 _ (List.mem_of_getElem? (i := 22) rfl), rL14 _ (List.mem_of_getElem? (i := 23) rfl)⟩
