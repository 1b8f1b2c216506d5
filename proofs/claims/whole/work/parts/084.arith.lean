/-! ARITHMETIC for the models: all ints as nI of a natural number, or mI -/
def mI : Int32 := -1
theorem mI_e : (-1 : Int32) = mI := Eq.trans rfl rfl
theorem lit (n : Nat) : (OfNat.ofNat n : Int32) = nI (OfNat.ofNat n) := Eq.trans rfl rfl
theorem ofN (n : Nat) : Int32.ofNat n = nI n := Eq.trans rfl rfl
theorem nI_mI {a : Nat} (h : a < 2 ^ 31) : (nI a = mI) = False := eq_false (fun e => by have h1 := nI_toInt h; rw [e] at h1; have : mI.toInt = -1 := rfl; omega)
theorem mI_nI {a : Nat} (h : a < 2 ^ 31) : (mI = nI a) = False := eq_false (fun e => by have h1 := nI_toInt h; rw [← e] at h1; have : mI.toInt = -1 := rfl; omega)
theorem mI_lt {a : Nat} (h : a < 2 ^ 31) : (mI < nI a) = True := eq_true (by rw [Int32.lt_iff_toInt_lt, nI_toInt h]; have : mI.toInt = -1 := rfl; omega)
theorem nlt_mI {a : Nat} (h : a < 2 ^ 31) : (nI a < mI) = False := eq_false (by rw [Int32.lt_iff_toInt_lt, nI_toInt h]; have : mI.toInt = -1 := rfl; omega)
theorem mI_le {a : Nat} (h : a < 2 ^ 31) : (mI ≤ nI a) = True := eq_true (by rw [Int32.le_iff_toInt_le, nI_toInt h]; have : mI.toInt = -1 := rfl; omega)
theorem nle_mI {a : Nat} (h : a < 2 ^ 31) : (nI a ≤ mI) = False := eq_false (by rw [Int32.le_iff_toInt_le, nI_toInt h]; have : mI.toInt = -1 := rfl; omega)
theorem nI_addm {a : Nat} (h : 0 < a) : nI a + mI = nI (a - 1) := by
  obtain ⟨b, rfl⟩ : ∃ b, a = b + 1 := ⟨a - 1, by omega⟩
  exact pk_m1 b
theorem nI_e {a b : Nat} (ha : a < 2 ^ 31) (hb : b < 2 ^ 31) : (nI a = nI b) = (a = b) := propext (nI_eq ha hb)
theorem nI_leE {a b : Nat} (ha : a < 2 ^ 31) (hb : b < 2 ^ 31) : (nI a ≤ nI b) = (a ≤ b) := propext (nI_leI ha hb)
theorem nI_ltE {a b : Nat} (ha : a < 2 ^ 31) (hb : b < 2 ^ 31) : (nI a < nI b) = (a < b) := propext (nI_ltI ha hb)
theorem rm_nI {a d : Nat} (ha : a < 2 ^ 31) (h0 : 0 < d) (hd : d < 2 ^ 31) : rmI (nI a) (nI d) = some (nI (a % d)) := by
  unfold rmI; rw [if_neg (nI_ne0 h0 hd), pk_rem ha h0 hd]
theorem dv_nI {a d : Nat} (ha : a < 2 ^ 31) (h0 : 0 < d) (hd : d < 2 ^ 31) : dvI (nI a) (nI d) = some (nI (a / d)) := by
  unfold dvI; rw [if_neg (nI_ne0 h0 hd), pk_div ha h0 hd]
theorem ckZ_n0 : ckZ (nI 0) = some (nI 0) := Eq.trans rfl rfl
theorem ckZ_n1 : ckZ (nI 1) = some (nI 1) := Eq.trans rfl rfl
theorem stZ_n0 (σ : ST) (x k : Nat) : stZ σ x k (nI 0) = some (sI σ x k (nI 0)) := Eq.trans rfl rfl
theorem stZ_n1 (σ : ST) (x k : Nat) : stZ σ x k (nI 1) = some (sI σ x k (nI 1)) := Eq.trans rfl rfl
theorem bsm {α β : Type} (v : α) (f : α → Option β) : (some v).bind f = f v := Eq.trans rfl rfl
theorem stIe (σ : ST) (x k : Nat) (v : Int32) : stI σ x k v = some (sI σ x k v) := Eq.trans rfl rfl
theorem stJe (σ : ST) (x k : Nat) (v : Int64) : stJ σ x k v = some (sJ σ x k v) := Eq.trans rfl rfl
/-- bit k of x, as the programs ask for it -/
theorem sh_and (x : Int32) {k : Nat} (hk : k < 32) : (x >>> (nI k &&& nI 31)) &&& nI 1 = nI (if bt x k then 1 else 0) := by
  have h := shr1 x hk
  rw [show (nI k &&& nI 31) = (nI k &&& 31) from rfl, show ((x >>> (nI k &&& 31)) &&& nI 1) = ((x >>> (nI k &&& 31)) &&& 1) from rfl, h]
  cases bt x k <;> rfl
theorem bit01 (b : Bool) : (nI (if b then 1 else 0) = nI 0) = (b = false) := by cases b <;> decide
theorem bit10 (b : Bool) : (nI (if b then 1 else 0) = nI 1) = (b = true) := by cases b <;> decide
theorem bitbb (a b : Bool) : (nI (if a then 1 else 0) = nI (if b then 1 else 0)) = (a = b) := by cases a <;> cases b <;> decide
theorem bt_one {k j : Nat} (hk : k < 32) : bt (nI 1 <<< (nI k &&& nI 31)) j = decide (j = k) := by
  by_cases hj : j < 32
  · exact bt_shl hk hj
  · rw [bt_big _ (by omega)]; symm; exact decide_eq_false (by omega)
theorem bt_m (x : Int32) {k : Nat} (hk : k < 32) : bt (x ^^^ mI) k = !bt x k := bt_not x hk
theorem bt_n0 (k : Nat) : bt (nI 0) k = false := bt_0 k
/-- a set with one more -/
theorem bt_ins (x : Int32) {k j : Nat} (hk : k < 32) : bt (x ||| (nI 1 <<< (nI k &&& nI 31))) j = (bt x j || decide (j = k)) := by rw [bt_or, bt_one hk]
theorem bt_del (x : Int32) {k j : Nat} (hk : k < 32) : bt (x &&& ((nI 1 <<< (nI k &&& nI 31)) ^^^ mI)) j = (bt x j && !decide (j = k)) := by
  by_cases hj : j < 32
  · rw [bt_and, bt_m _ hj, bt_one hk]
  · rw [bt_big _ (by omega), bt_big x (by omega)]; rfl
/-- arrays by their number -/
theorem la {Λ : LY} {σ : ST} {y k : Nat} (L : Nat) (hL : Λ.2.2.1 y = L) (h : k < L) (hl : L < 2 ^ 31) : ldA Λ σ y (nI k) = some (gA σ y k) := ldA_nI (by omega) (by omega)
theorem sa {Λ : LY} {σ : ST} {y k : Nat} {v : Int32} (L : Nat) (hL : Λ.2.2.1 y = L) (h : k < L) (hl : L < 2 ^ 31) : stA Λ σ y (nI k) v = some (sA σ y (upd (gA σ y) k v)) := stA_nI (by omega) (by omega)
theorem lb {Λ : LY} {σ : ST} {y k : Nat} (L : Nat) (hL : Λ.2.2.1 y = L) (h : k < L) (hl : L < 2 ^ 31) : ldB Λ σ y (nI k) = some (gB σ y k) := ldB_nI (by omega) (by omega)
theorem sb {Λ : LY} {σ : ST} {y k : Nat} {v : Int64} (L : Nat) (hL : Λ.2.2.1 y = L) (h : k < L) (hl : L < 2 ^ 31) : stB Λ σ y (nI k) v = some (sB σ y (vp_updL (gB σ y) k v)) := stB_nI (by omega) (by omega)
theorem cpA_n {Λ : LY} {σ : ST} {y z a b n : Nat} (L M : Nat) (hL : Λ.2.2.1 y = L) (hM : Λ.2.2.1 z = M) (h1 : a + n ≤ L) (h2 : b + n ≤ M) (h3 : L < 2 ^ 31) (h4 : M < 2 ^ 31) : cpA Λ σ y (nI a) z (nI b) (nI n) = some (sA σ z (va_cpy (gA σ y) (gA σ z) a b n)) := by
  unfold cpA
  rw [nI_clamp (by omega), nI_clamp (by omega), nI_clamp (by omega), if_pos ⟨nI_pos (by omega), nI_pos (by omega), nI_pos (by omega), by omega, by omega⟩]
theorem cpB_n {Λ : LY} {σ : ST} {y z a b n : Nat} (L M : Nat) (hL : Λ.2.2.1 y = L) (hM : Λ.2.2.1 z = M) (h1 : a + n ≤ L) (h2 : b + n ≤ M) (h3 : L < 2 ^ 31) (h4 : M < 2 ^ 31) : cpB Λ σ y (nI a) z (nI b) (nI n) = some (sB σ z (va_cpy (gB σ y) (gB σ z) a b n)) := by
  unfold cpB
  rw [nI_clamp (by omega), nI_clamp (by omega), nI_clamp (by omega), if_pos ⟨nI_pos (by omega), nI_pos (by omega), nI_pos (by omega), by omega, by omega⟩]
/-! the reference: where its rows lie -/
theorem rf0 : LR.2.1 0 0 = 1 := Eq.trans rfl rfl
theorem rf1 : LR.2.1 0 1 = 2 := Eq.trans rfl rfl
theorem rf5 : LR.2.1 0 5 = 3 := Eq.trans rfl rfl
theorem rf6 : LR.2.1 0 6 = 4 := Eq.trans rfl rfl
theorem rf7 : LR.2.1 0 7 = 5 := Eq.trans rfl rfl
theorem rf8 : LR.2.1 0 8 = 6 := Eq.trans rfl rfl
theorem rf9 : LR.2.1 0 9 = 7 := Eq.trans rfl rfl
theorem rf20 : LR.2.1 0 20 = 8 := Eq.trans rfl rfl
theorem rf23 : LR.2.1 0 23 = 9 := Eq.trans rfl rfl
theorem rf24 : LR.2.1 0 24 = 10 := Eq.trans rfl rfl
theorem rf25 : LR.2.1 0 25 = 11 := Eq.trans rfl rfl
theorem rf26 : LR.2.1 0 26 = 12 := Eq.trans rfl rfl
theorem rf29 : LR.2.1 0 29 = 13 := Eq.trans rfl rfl
theorem rf31 : LR.2.1 0 31 = 14 := Eq.trans rfl rfl
theorem rf33 : LR.2.1 0 33 = 15 := Eq.trans rfl rfl
theorem rf34 : LR.2.1 0 34 = 16 := Eq.trans rfl rfl
theorem rf35 : LR.2.1 0 35 = 17 := Eq.trans rfl rfl
theorem rf37 : LR.2.1 0 37 = 18 := Eq.trans rfl rfl
theorem rf38 : LR.2.1 0 38 = 19 := Eq.trans rfl rfl
theorem rf41 : LR.2.1 0 41 = 20 := Eq.trans rfl rfl
theorem rf42 : LR.2.1 0 42 = 21 := Eq.trans rfl rfl
theorem rf43 : LR.2.1 0 43 = 22 := Eq.trans rfl rfl
theorem lr1 {τ : ST} {k : Nat} (h : k < 29600) : ldA LR τ 1 (nI k) = some (gA τ 1 k) := la 29600 rfl h (by decide)
theorem sr1 {τ : ST} {k : Nat} {v : Int32} (h : k < 29600) : stA LR τ 1 (nI k) v = some (sA τ 1 (upd (gA τ 1) k v)) := sa 29600 rfl h (by decide)
theorem lr2 {τ : ST} {k : Nat} (h : k < 70) : ldB LR τ 2 (nI k) = some (gB τ 2 k) := lb 70 rfl h (by decide)
theorem sr2 {τ : ST} {k : Nat} {v : Int64} (h : k < 70) : stB LR τ 2 (nI k) v = some (sB τ 2 (vp_updL (gB τ 2) k v)) := sb 70 rfl h (by decide)
theorem lr3 {τ : ST} {k : Nat} (h : k < 4) : ldA LR τ 3 (nI k) = some (gA τ 3 k) := la 4 rfl h (by decide)
theorem sr3 {τ : ST} {k : Nat} {v : Int32} (h : k < 4) : stA LR τ 3 (nI k) v = some (sA τ 3 (upd (gA τ 3) k v)) := sa 4 rfl h (by decide)
theorem lr4 {τ : ST} {k : Nat} (h : k < 4) : ldA LR τ 4 (nI k) = some (gA τ 4 k) := la 4 rfl h (by decide)
theorem sr4 {τ : ST} {k : Nat} {v : Int32} (h : k < 4) : stA LR τ 4 (nI k) v = some (sA τ 4 (upd (gA τ 4) k v)) := sa 4 rfl h (by decide)
theorem lr5 {τ : ST} {k : Nat} (h : k < 240) : ldB LR τ 5 (nI k) = some (gB τ 5 k) := lb 240 rfl h (by decide)
theorem sr5 {τ : ST} {k : Nat} {v : Int64} (h : k < 240) : stB LR τ 5 (nI k) v = some (sB τ 5 (vp_updL (gB τ 5) k v)) := sb 240 rfl h (by decide)
theorem lr6 {τ : ST} {k : Nat} (h : k < 900) : ldA LR τ 6 (nI k) = some (gA τ 6 k) := la 900 rfl h (by decide)
theorem sr6 {τ : ST} {k : Nat} {v : Int32} (h : k < 900) : stA LR τ 6 (nI k) v = some (sA τ 6 (upd (gA τ 6) k v)) := sa 900 rfl h (by decide)
theorem lr7 {τ : ST} {k : Nat} (h : k < 900) : ldA LR τ 7 (nI k) = some (gA τ 7 k) := la 900 rfl h (by decide)
theorem sr7 {τ : ST} {k : Nat} {v : Int32} (h : k < 900) : stA LR τ 7 (nI k) v = some (sA τ 7 (upd (gA τ 7) k v)) := sa 900 rfl h (by decide)
theorem lr8 {τ : ST} {k : Nat} (h : k < 3) : ldA LR τ 8 (nI k) = some (gA τ 8 k) := la 3 rfl h (by decide)
theorem sr8 {τ : ST} {k : Nat} {v : Int32} (h : k < 3) : stA LR τ 8 (nI k) v = some (sA τ 8 (upd (gA τ 8) k v)) := sa 3 rfl h (by decide)
theorem lr9 {τ : ST} {k : Nat} (h : k < 6) : ldA LR τ 9 (nI k) = some (gA τ 9 k) := la 6 rfl h (by decide)
theorem sr9 {τ : ST} {k : Nat} {v : Int32} (h : k < 6) : stA LR τ 9 (nI k) v = some (sA τ 9 (upd (gA τ 9) k v)) := sa 6 rfl h (by decide)
theorem lr10 {τ : ST} {k : Nat} (h : k < 180) : ldA LR τ 10 (nI k) = some (gA τ 10 k) := la 180 rfl h (by decide)
theorem sr10 {τ : ST} {k : Nat} {v : Int32} (h : k < 180) : stA LR τ 10 (nI k) v = some (sA τ 10 (upd (gA τ 10) k v)) := sa 180 rfl h (by decide)
theorem lr11 {τ : ST} {k : Nat} (h : k < 180) : ldA LR τ 11 (nI k) = some (gA τ 11 k) := la 180 rfl h (by decide)
theorem sr11 {τ : ST} {k : Nat} {v : Int32} (h : k < 180) : stA LR τ 11 (nI k) v = some (sA τ 11 (upd (gA τ 11) k v)) := sa 180 rfl h (by decide)
theorem lr12 {τ : ST} {k : Nat} (h : k < 180) : ldA LR τ 12 (nI k) = some (gA τ 12 k) := la 180 rfl h (by decide)
theorem sr12 {τ : ST} {k : Nat} {v : Int32} (h : k < 180) : stA LR τ 12 (nI k) v = some (sA τ 12 (upd (gA τ 12) k v)) := sa 180 rfl h (by decide)
theorem lr13 {τ : ST} {k : Nat} (h : k < 6) : ldA LR τ 13 (nI k) = some (gA τ 13 k) := la 6 rfl h (by decide)
theorem sr13 {τ : ST} {k : Nat} {v : Int32} (h : k < 6) : stA LR τ 13 (nI k) v = some (sA τ 13 (upd (gA τ 13) k v)) := sa 6 rfl h (by decide)
theorem lr14 {τ : ST} {k : Nat} (h : k < 180) : ldA LR τ 14 (nI k) = some (gA τ 14 k) := la 180 rfl h (by decide)
theorem sr14 {τ : ST} {k : Nat} {v : Int32} (h : k < 180) : stA LR τ 14 (nI k) v = some (sA τ 14 (upd (gA τ 14) k v)) := sa 180 rfl h (by decide)
theorem lr15 {τ : ST} {k : Nat} (h : k < 15) : ldA LR τ 15 (nI k) = some (gA τ 15 k) := la 15 rfl h (by decide)
theorem sr15 {τ : ST} {k : Nat} {v : Int32} (h : k < 15) : stA LR τ 15 (nI k) v = some (sA τ 15 (upd (gA τ 15) k v)) := sa 15 rfl h (by decide)
theorem lr16 {τ : ST} {k : Nat} (h : k < 15) : ldA LR τ 16 (nI k) = some (gA τ 16 k) := la 15 rfl h (by decide)
theorem sr16 {τ : ST} {k : Nat} {v : Int32} (h : k < 15) : stA LR τ 16 (nI k) v = some (sA τ 16 (upd (gA τ 16) k v)) := sa 15 rfl h (by decide)
theorem lr17 {τ : ST} {k : Nat} (h : k < 5) : ldA LR τ 17 (nI k) = some (gA τ 17 k) := la 5 rfl h (by decide)
theorem sr17 {τ : ST} {k : Nat} {v : Int32} (h : k < 5) : stA LR τ 17 (nI k) v = some (sA τ 17 (upd (gA τ 17) k v)) := sa 5 rfl h (by decide)
theorem lr18 {τ : ST} {k : Nat} (h : k < 1001) : ldA LR τ 18 (nI k) = some (gA τ 18 k) := la 1001 rfl h (by decide)
theorem sr18 {τ : ST} {k : Nat} {v : Int32} (h : k < 1001) : stA LR τ 18 (nI k) v = some (sA τ 18 (upd (gA τ 18) k v)) := sa 1001 rfl h (by decide)
theorem lr19 {τ : ST} {k : Nat} (h : k < 3700) : ldA LR τ 19 (nI k) = some (gA τ 19 k) := la 3700 rfl h (by decide)
theorem sr19 {τ : ST} {k : Nat} {v : Int32} (h : k < 3700) : stA LR τ 19 (nI k) v = some (sA τ 19 (upd (gA τ 19) k v)) := sa 3700 rfl h (by decide)
theorem lr20 {τ : ST} {k : Nat} (h : k < 80) : ldA LR τ 20 (nI k) = some (gA τ 20 k) := la 80 rfl h (by decide)
theorem sr20 {τ : ST} {k : Nat} {v : Int32} (h : k < 80) : stA LR τ 20 (nI k) v = some (sA τ 20 (upd (gA τ 20) k v)) := sa 80 rfl h (by decide)
theorem lr21 {τ : ST} {k : Nat} (h : k < 6) : ldA LR τ 21 (nI k) = some (gA τ 21 k) := la 6 rfl h (by decide)
theorem sr21 {τ : ST} {k : Nat} {v : Int32} (h : k < 6) : stA LR τ 21 (nI k) v = some (sA τ 21 (upd (gA τ 21) k v)) := sa 6 rfl h (by decide)
theorem lr22 {τ : ST} {k : Nat} (h : k < 6) : ldA LR τ 22 (nI k) = some (gA τ 22 k) := la 6 rfl h (by decide)
theorem sr22 {τ : ST} {k : Nat} {v : Int32} (h : k < 6) : stA LR τ 22 (nI k) v = some (sA τ 22 (upd (gA τ 22) k v)) := sa 6 rfl h (by decide)
theorem vu_comm {α : Type} (f : Nat → α) {x y : Nat} (h : x ≠ y) (a b : α) : va_up (va_up f x a) y b = va_up (va_up f y b) x a := by
  funext j
  unfold va_up
  by_cases h1 : j = y
  · subst h1; rw [if_pos rfl, if_neg (fun e => h e.symm), if_pos rfl]
  · rw [if_neg h1]
    by_cases h2 : j = x
    · subst h2; rw [if_pos rfl, if_pos rfl]
    · rw [if_neg h2, if_neg h2, if_neg h1]
theorem sA_comm (σ : ST) {x y : Nat} (h : x ≠ y) (f g : Nat → Int32) : sA (sA σ x f) y g = sA (sA σ y g) x f := by
  unfold sA; simp only [vu_comm _ h]
