/-! THE REFERENCE: small questions, joins, copies, rows -/
def rch (f : Nat → Int32) (a b : Nat) : Bool := bt (f 5) a && (bt (f 5) b && (bt (f 6) a == bt (f 6) b))
def sm (f : Nat → Int32) (y : Nat) : Bool := decide (f (22 + y) = nI 1)
theorem r_isSum {y : Nat} (h : y < 6) (τ : ST) : f_X12_isSum 0 (nI y) τ = some (bI (sm (gA τ 1) y), τ) := by
  simp (disch := omega) only [↓mI_e, lit, ofN, bsm, nI_add, pk_mul, pk_sub, nI_e, nI_leE, nI_ltE, nI_mI, mI_nI, mI_lt, nlt_mI, mI_le, nle_mI, nI_addm, sh_b, bI_0, bI_1, bI_bI, ckZ_b, ckZ_n0, ckZ_n1, stIe, stJe, stZ_n0, stZ_n1, rm_nI, dv_nI, if_pos, if_neg, rf0, rf1, rf5, rf6, rf7, rf8, rf9, rf20, rf23, rf24, rf25, rf26, rf29, rf31, rf33, rf34, rf35, rf37, rf38, rf41, rf42, rf43,  f_X12_isSum, k_X12_isSum_18, lr1]
  unfold sm
  by_cases e : gA τ 1 (22 + y) = nI 1
  · simp only [e, if_true, decide_true]; rfl
  · simp only [e, if_false, decide_false]; rfl
theorem r_isUp {k : Nat} (h : k < 32) (τ : ST) : f_X12_isUp 0 (nI k) τ = some (bI (bt (gA τ 1 5) k), τ) := by
  simp (disch := omega) only [↓mI_e, lit, ofN, bsm, nI_add, pk_mul, pk_sub, nI_e, nI_leE, nI_ltE, nI_mI, mI_nI, mI_lt, nlt_mI, mI_le, nle_mI, nI_addm, sh_b, bI_0, bI_1, bI_bI, ckZ_b, ckZ_n0, ckZ_n1, stIe, stJe, stZ_n0, stZ_n1, rm_nI, dv_nI, if_pos, if_neg, rf0, rf1, rf5, rf6, rf7, rf8, rf9, rf20, rf23, rf24, rf25, rf26, rf29, rf31, rf33, rf34, rf35, rf37, rf38, rf41, rf42, rf43,  f_X12_isUp, k_X12_isUp_19, lr1]
  cases bt (gA τ 1 5) k <;> rfl
theorem r_doReach {a b : Nat} (ha : a < 32) (hb : b < 32) (τ : ST) : f_X12_doReach 0 (nI a) (nI b) τ = some (bI (rch (gA τ 1) a b), τ) := by
  simp (disch := omega) only [↓mI_e, lit, ofN, bsm, nI_add, pk_mul, pk_sub, nI_e, nI_leE, nI_ltE, nI_mI, mI_nI, mI_lt, nlt_mI, mI_le, nle_mI, nI_addm, sh_b, bI_0, bI_1, bI_bI, ckZ_b, ckZ_n0, ckZ_n1, stIe, stJe, stZ_n0, stZ_n1, rm_nI, dv_nI, if_pos, if_neg, rf0, rf1, rf5, rf6, rf7, rf8, rf9, rf20, rf23, rf24, rf25, rf26, rf29, rf31, rf33, rf34, rf35, rf37, rf38, rf41, rf42, rf43,  f_X12_doReach, k_X12_doReach_46, k_X12_doReach_45, r_isUp, lr1]
  unfold rch
  cases bt (gA τ 1 5) a <;> cases bt (gA τ 1 5) b <;> cases bt (gA τ 1 6) a <;> cases bt (gA τ 1 6) b <;> rfl
theorem r_isKeeper_no {v : Int32} {τ : ST} (h : v < 0 ∨ gA τ 1 3 ≤ v) : f_X12_isKeeper 0 v τ = some (nI 0, τ) := by
  unfold f_X12_isKeeper k_X12_isKeeper_18 k_X12_isKeeper_19
  rw [rf0, show (3 : Int32) = nI 3 from rfl, lr1 (by omega)]
  by_cases g : v < 0
  · rw [if_pos g]; rfl
  · rw [if_neg g, b_some, if_pos (h.resolve_left g)]; rfl
theorem r_isKeeper_yes {v : Int32} {τ : ST} (h : ¬ v < 0) (h2 : ¬ gA τ 1 3 ≤ v) : f_X12_isKeeper 0 v τ = some (nI 1, τ) := by
  unfold f_X12_isKeeper k_X12_isKeeper_18 k_X12_isKeeper_19
  rw [rf0, show (3 : Int32) = nI 3 from rfl, lr1 (by omega), if_neg h, b_some, if_neg h2]; rfl
theorem r_isKey_no {v : Int32} {τ : ST} (h : v < 0 ∨ gA τ 1 4 ≤ v) : f_X12_isKey 0 v τ = some (nI 0, τ) := by
  unfold f_X12_isKey k_X12_isKey_18 k_X12_isKey_19
  rw [rf0, show (4 : Int32) = nI 4 from rfl, lr1 (by omega)]
  by_cases g : v < 0
  · rw [if_pos g]; rfl
  · rw [if_neg g, b_some, if_pos (h.resolve_left g)]; rfl
theorem r_isKey_yes {v : Int32} {τ : ST} (h : ¬ v < 0) (h2 : ¬ gA τ 1 4 ≤ v) : f_X12_isKey 0 v τ = some (nI 1, τ) := by
  unfold f_X12_isKey k_X12_isKey_18 k_X12_isKey_19
  rw [rf0, show (4 : Int32) = nI 4 from rfl, lr1 (by omega), if_neg h, b_some, if_neg h2]; rfl
/-! joins -/
def upT (c : Int32) : Int32 := (nI 1 <<< (c &&& nI 31)) - nI 1
def jb (a b sa sb : Int32) : Int32 := ((a &&& b) ||| (a &&& (upT sb ^^^ mI))) ||| (b &&& (upT sa ^^^ mI))
def mx (a b : Int32) : Int32 := if a ≤ b then b else a
/-- JOIN of two things of twelve numbers -/
def jT (s : Bool) (t u : Nat → Int32) (k : Nat) : Int32 := if s then (if k < 6 then mx (t k) (u k) else t k) else if k < 6 then jb (t k) (u k) (t (6 + k)) (u (6 + k)) else mx (t k) (u k)
def put12 (f : Nat → Int32) (to : Nat) (g : Nat → Int32) : Nat → Int32 := fun j => if to ≤ j ∧ j < to + 12 then g (j - to) else f j
def sh (f : Nat → Int32) (a : Nat) : Nat → Int32 := fun k => f (a + k)
def jPart (s : Bool) (f : Nat → Int32) (to fr i : Nat) : Nat → Int32 := fun j => if to ≤ j ∧ j < to + 12 ∧ (j - to) % 6 < i then jT s (sh f to) (sh f fr) (j - to) else f j
theorem upd_at (f : Nat → Int32) (k : Nat) (v : Int32) (j : Nat) : upd f k v j = if j = k then v else f j := rfl
theorem r_joins_loop {to fr y : Nat} (hto : 28 ≤ to) (hfr : 28 ≤ fr) (h1 : to + 12 ≤ 29600) (h2 : fr + 12 ≤ 29600) (hy : y < 6) (hd : to + 12 ≤ fr ∨ fr + 12 ≤ to) (f : Nat → Int32) : ∀ (n i : Nat) (τ : ST), i ≤ 6 → 6 - i < n → gA τ 1 = jPart (sm f y) f to fr i → k_X12_joins_3 n 0 (nI to) (nI fr) (nI y) (nI i) τ = some (sA τ 1 (jPart (sm f y) f to fr 6)) := by
  intro n
  induction n with
  | zero => intros; omega
  | succ n ih =>
    intro i τ hi hn hg
    have hs : sm (gA τ 1) y = sm f y := by
      unfold sm
      rw [hg]
      unfold jPart
      rw [if_neg (by omega)]
    rw [k_X12_joins_3]
    by_cases e : i = 6
    · subst e
      simp (disch := omega) only [↓mI_e, lit, ofN, bsm, nI_add, pk_mul, pk_sub, nI_e, nI_leE, nI_ltE, nI_mI, mI_nI, mI_lt, nlt_mI, mI_le, nle_mI, nI_addm, sh_b, bI_0, bI_1, bI_bI, ckZ_b, ckZ_n0, ckZ_n1, stIe, stJe, stZ_n0, stZ_n1, rm_nI, dv_nI, if_pos, if_neg, rf0, rf1, rf5, rf6, rf7, rf8, rf9, rf20, rf23, rf24, rf25, rf26, rf29, rf31, rf33, rf34, rf35, rf37, rf38, rf41, rf42, rf43,  hg]
      rw [← hg, sA_self]
    · simp (disch := omega) only [↓mI_e, lit, ofN, bsm, nI_add, pk_mul, pk_sub, nI_e, nI_leE, nI_ltE, nI_mI, mI_nI, mI_lt, nlt_mI, mI_le, nle_mI, nI_addm, sh_b, bI_0, bI_1, bI_bI, ckZ_b, ckZ_n0, ckZ_n1, stIe, stJe, stZ_n0, stZ_n1, rm_nI, dv_nI, if_pos, if_neg, rf0, rf1, rf5, rf6, rf7, rf8, rf9, rf20, rf23, rf24, rf25, rf26, rf29, rf31, rf33, rf34, rf35, rf37, rf38, rf41, rf42, rf43,  k_X12_joins_155, k_X12_joins_156, k_X12_joins_62, f_X12_upTo, r_isSum, hs, lr1, sr1, gA_sA]
      have e1 : gA τ 1 (to + i) = f (to + i) := by rw [hg]; unfold jPart; rw [if_neg (by omega)]
      have e2 : gA τ 1 (fr + i) = f (fr + i) := by rw [hg]; unfold jPart; rw [if_neg (by omega)]
      have e3 : gA τ 1 (to + 6 + i) = f (to + 6 + i) := by rw [hg]; unfold jPart; rw [if_neg (by omega)]
      have e4 : gA τ 1 (fr + 6 + i) = f (fr + 6 + i) := by rw [hg]; unfold jPart; rw [if_neg (by omega)]
      have a3 : f (to + (6 + i)) = f (to + 6 + i) := congrArg f (by omega)
      have a4 : f (fr + (6 + i)) = f (fr + 6 + i) := congrArg f (by omega)
      cases c : sm f y
      · simp only [if_true, e1, e2, e3, e4]
        have fin : ∀ v : Int32, v = mx (f (to + 6 + i)) (f (fr + 6 + i)) → k_X12_joins_3 n 0 (nI to) (nI fr) (nI y) (nI (i + 1)) (sA (sA τ 1 (upd (gA τ 1) (to + i) (jb (f (to + i)) (f (fr + i)) (f (to + 6 + i)) (f (fr + 6 + i))))) 1 (upd (upd (gA τ 1) (to + i) (jb (f (to + i)) (f (fr + i)) (f (to + 6 + i)) (f (fr + 6 + i)))) (to + 6 + i) v)) = some (sA τ 1 (jPart false f to fr 6)) := by
          intro v hv
          rw [sA_sA, ← c, ih (i + 1) _ (by omega) (by omega), sA_sA]
          rw [gA_sA, if_pos rfl, hg, c]
          funext j
          simp only [upd_at]
          by_cases g1 : j = to + 6 + i
          · subst g1
            rw [if_pos rfl]
            unfold jPart
            rw [if_pos (by omega), hv]
            unfold jT sh
            rw [if_neg (by decide), if_neg (by omega)]
            congr 2 <;> omega
          · rw [if_neg g1]
            by_cases g2 : j = to + i
            · subst g2
              rw [if_pos rfl]
              unfold jPart
              rw [if_pos (by omega)]
              unfold jT sh
              rw [if_neg (by decide), if_pos (by omega), show to + i - to = i by omega, a3, a4]
            · rw [if_neg g2]
              unfold jPart
              by_cases g3 : to ≤ j ∧ j < to + 12 ∧ (j - to) % 6 < i
              · rw [if_pos g3, if_pos (by omega)]
              · rw [if_neg g3, if_neg (by omega)]
        unfold upT at *
        unfold jb upT at fin
        by_cases g : f (to + 6 + i) ≤ f (fr + 6 + i)
        · rw [if_pos g]
          exact fin _ (by unfold mx; rw [if_pos g])
        · rw [if_neg g]
          exact fin _ (by unfold mx; rw [if_neg g])
      · simp only [e1, e2, Bool.true_eq_false, if_false]
        have fin : ∀ v : Int32, v = mx (f (to + i)) (f (fr + i)) → k_X12_joins_3 n 0 (nI to) (nI fr) (nI y) (nI (i + 1)) (sA τ 1 (upd (gA τ 1) (to + i) v)) = some (sA τ 1 (jPart true f to fr 6)) := by
          intro v hv
          rw [← c, ih (i + 1) _ (by omega) (by omega), sA_sA]
          rw [gA_sA, if_pos rfl, hg, c]
          funext j
          simp only [upd_at]
          by_cases g2 : j = to + i
          · subst g2
            rw [if_pos rfl]
            unfold jPart
            rw [if_pos (by omega), hv]
            unfold jT sh
            rw [if_pos rfl, if_pos (by omega), show to + i - to = i by omega]
          · rw [if_neg g2]
            unfold jPart
            by_cases g3 : to ≤ j ∧ j < to + 12 ∧ (j - to) % 6 < i
            · rw [if_pos g3, if_pos (by omega)]
            · rw [if_neg g3]
              by_cases g4 : to ≤ j ∧ j < to + 12 ∧ (j - to) % 6 < i + 1
              · rw [if_pos g4]
                unfold jT sh
                rw [if_pos rfl, if_neg (by omega)]
                exact congrArg f (by omega)
              · rw [if_neg g4]
        by_cases g : f (to + i) ≤ f (fr + i)
        · rw [if_pos g]
          exact fin _ (by unfold mx; rw [if_pos g])
        · rw [if_neg g]
          exact fin _ (by unfold mx; rw [if_neg g])
theorem r_joins {to fr y : Nat} (hto : 28 ≤ to) (hfr : 28 ≤ fr) (h1 : to + 12 ≤ 29600) (h2 : fr + 12 ≤ 29600) (hy : y < 6) (hd : to + 12 ≤ fr ∨ fr + 12 ≤ to) (τ : ST) : f_X12_joins 0 (nI to) (nI fr) (nI y) τ = some (sA τ 1 (put12 (gA τ 1) to (jT (sm (gA τ 1) y) (sh (gA τ 1) to) (sh (gA τ 1) fr)))) := by
  unfold f_X12_joins
  rw [show (0 : Int32) = nI 0 from rfl, r_joins_loop hto hfr h1 h2 hy hd (gA τ 1) FU 0 τ (by omega) (by unfold FU; omega) (by funext j; unfold jPart; rw [if_neg (by omega)])]
  congr 2
  funext j
  unfold jPart put12
  by_cases g : to ≤ j ∧ j < to + 12
  · rw [if_pos g, if_pos (by omega)]
  · rw [if_neg g, if_neg (by omega)]
/-! copies -/
theorem r_copy_loop {to fr : Nat} (h1 : to + 12 ≤ 29600) (h2 : fr + 12 ≤ 29600) (hd : to + 12 ≤ fr ∨ fr + 12 ≤ to) (f : Nat → Int32) : ∀ (n i : Nat) (τ : ST), i ≤ 12 → 12 - i < n → gA τ 1 = (fun j => if to ≤ j ∧ j < to + i then f (fr + (j - to)) else f j) → k_X12_copy_2 n 0 (nI to) (nI fr) (nI i) τ = some (sA τ 1 (put12 f to (sh f fr))) := by
  intro n
  induction n with
  | zero => intros; omega
  | succ n ih =>
    intro i τ hi hn hg
    rw [k_X12_copy_2]
    by_cases e : i = 12
    · subst e
      simp (disch := omega) only [↓mI_e, lit, ofN, bsm, nI_add, pk_mul, pk_sub, nI_e, nI_leE, nI_ltE, nI_mI, mI_nI, mI_lt, nlt_mI, mI_le, nle_mI, nI_addm, sh_b, bI_0, bI_1, bI_bI, ckZ_b, ckZ_n0, ckZ_n1, stIe, stJe, stZ_n0, stZ_n1, rm_nI, dv_nI, if_pos, if_neg, rf0, rf1, rf5, rf6, rf7, rf8, rf9, rf20, rf23, rf24, rf25, rf26, rf29, rf31, rf33, rf34, rf35, rf37, rf38, rf41, rf42, rf43, ]
      congr 1
      rw [show put12 f to (sh f fr) = gA τ 1 from hg.symm, sA_self]
    · simp (disch := omega) only [↓mI_e, lit, ofN, bsm, nI_add, pk_mul, pk_sub, nI_e, nI_leE, nI_ltE, nI_mI, mI_nI, mI_lt, nlt_mI, mI_le, nle_mI, nI_addm, sh_b, bI_0, bI_1, bI_bI, ckZ_b, ckZ_n0, ckZ_n1, stIe, stJe, stZ_n0, stZ_n1, rm_nI, dv_nI, if_pos, if_neg, rf0, rf1, rf5, rf6, rf7, rf8, rf9, rf20, rf23, rf24, rf25, rf26, rf29, rf31, rf33, rf34, rf35, rf37, rf38, rf41, rf42, rf43,  lr1, sr1]
      rw [ih (i + 1) _ (by omega) (by omega), sA_sA]
      rw [gA_sA, if_pos rfl, hg]
      funext j
      simp only [upd_at]
      by_cases g1 : j = to + i
      · subst g1
        rw [if_pos rfl, if_neg (by omega), if_pos (by omega)]
        exact congrArg f (by omega)
      · rw [if_neg g1]
        by_cases g3 : to ≤ j ∧ j < to + i
        · rw [if_pos g3, if_pos (by omega)]
        · rw [if_neg g3, if_neg (by omega)]
theorem r_copy {to fr : Nat} (h1 : to + 12 ≤ 29600) (h2 : fr + 12 ≤ 29600) (hd : to + 12 ≤ fr ∨ fr + 12 ≤ to) (τ : ST) : f_X12_copy 0 (nI to) (nI fr) τ = some (sA τ 1 (put12 (gA τ 1) to (sh (gA τ 1) fr))) := by
  unfold f_X12_copy
  exact r_copy_loop h1 h2 hd (gA τ 1) FU 0 τ (by omega) (by unfold FU; omega) (by funext j; rw [if_neg (by omega)])
/-! likeness -/
def lk (f : Nat → Int32) (a b n : Nat) : Bool := decide (∀ k, k < n → f (a + k) = f (b + k))
theorem lk_s (f : Nat → Int32) (a b n : Nat) : lk f a b (n + 1) = (lk f a b n && decide (f (a + n) = f (b + n))) := by
  unfold lk
  rw [← Bool.decide_and]
  apply decide_eq_decide.mpr
  constructor
  · intro h; exact ⟨fun k hk => h k (by omega), h n (by omega)⟩
  · intro h k hk
    by_cases e : k = n
    · subst e; exact h.2
    · exact h.1 k (by omega)
theorem r_areLike_loop {a b : Nat} (h1 : a + 12 ≤ 29600) (h2 : b + 12 ≤ 29600) (τ : ST) : ∀ (n i : Nat), i ≤ 12 → 12 - i < n → k_X12_areLike_5 n 0 (nI a) (nI b) (bI (lk (gA τ 1) a b i)) (nI i) τ = some (bI (lk (gA τ 1) a b 12), τ) := by
  intro n
  induction n with
  | zero => intros; omega
  | succ n ih =>
    intro i hi hn
    rw [k_X12_areLike_5]
    by_cases e : i = 12
    · subst e
      simp (disch := omega) only [↓mI_e, lit, ofN, bsm, nI_add, pk_mul, pk_sub, nI_e, nI_leE, nI_ltE, nI_mI, mI_nI, mI_lt, nlt_mI, mI_le, nle_mI, nI_addm, sh_b, bI_0, bI_1, bI_bI, ckZ_b, ckZ_n0, ckZ_n1, stIe, stJe, stZ_n0, stZ_n1, rm_nI, dv_nI, if_pos, if_neg, rf0, rf1, rf5, rf6, rf7, rf8, rf9, rf20, rf23, rf24, rf25, rf26, rf29, rf31, rf33, rf34, rf35, rf37, rf38, rf41, rf42, rf43, ]
    · simp (disch := omega) only [↓mI_e, lit, ofN, bsm, nI_add, pk_mul, pk_sub, nI_e, nI_leE, nI_ltE, nI_mI, mI_nI, mI_lt, nlt_mI, mI_le, nle_mI, nI_addm, sh_b, bI_0, bI_1, bI_bI, ckZ_b, ckZ_n0, ckZ_n1, stIe, stJe, stZ_n0, stZ_n1, rm_nI, dv_nI, if_pos, if_neg, rf0, rf1, rf5, rf6, rf7, rf8, rf9, rf20, rf23, rf24, rf25, rf26, rf29, rf31, rf33, rf34, rf35, rf37, rf38, rf41, rf42, rf43,  k_X12_areLike_41, k_X12_areLike_42, lr1]
      have h3 := ih (i + 1) (by omega) (by omega)
      rw [lk_s] at h3
      cases c : lk (gA τ 1) a b i
      · rw [c] at h3; simpa [bI_t, bI_f] using h3
      · rw [c] at h3
        by_cases g : gA τ 1 (a + i) = gA τ 1 (b + i)
        · rw [decide_eq_true g] at h3; simpa [g, bI_t, bI_f] using h3
        · rw [decide_eq_false g] at h3; simpa [g, bI_t, bI_f] using h3
theorem r_areLike {a b : Nat} (h1 : a + 12 ≤ 29600) (h2 : b + 12 ≤ 29600) (τ : ST) : f_X12_areLike 0 (nI a) (nI b) τ = some (bI (lk (gA τ 1) a b 12), τ) := by
  unfold f_X12_areLike
  have h := r_areLike_loop h1 h2 τ FU 0 (by omega) (by unfold FU; omega)
  rw [show lk (gA τ 1) a b 0 = true from decide_eq_true (fun k hk => by omega)] at h
  exact h
/-! sums -/
def sum6 (f : Nat → Int32) (a : Nat) : Nat → Int32
  | 0 => nI 0
  | n + 1 => sum6 f a n + f (a + n)
theorem r_sumOf_loop {a : Nat} (h1 : a + 6 ≤ 29600) (τ : ST) : ∀ (n i : Nat), i ≤ 6 → 6 - i < n → k_X12_sumOf_4 n 0 (nI a) (sum6 (gA τ 1) a i) (nI i) τ = some (sum6 (gA τ 1) a 6, τ) := by
  intro n
  induction n with
  | zero => intros; omega
  | succ n ih =>
    intro i hi hn
    rw [k_X12_sumOf_4]
    by_cases e : i = 6
    · subst e
      simp (disch := omega) only [↓mI_e, lit, ofN, bsm, nI_add, pk_mul, pk_sub, nI_e, nI_leE, nI_ltE, nI_mI, mI_nI, mI_lt, nlt_mI, mI_le, nle_mI, nI_addm, sh_b, bI_0, bI_1, bI_bI, ckZ_b, ckZ_n0, ckZ_n1, stIe, stJe, stZ_n0, stZ_n1, rm_nI, dv_nI, if_pos, if_neg, rf0, rf1, rf5, rf6, rf7, rf8, rf9, rf20, rf23, rf24, rf25, rf26, rf29, rf31, rf33, rf34, rf35, rf37, rf38, rf41, rf42, rf43, ]
    · simp (disch := omega) only [↓mI_e, lit, ofN, bsm, nI_add, pk_mul, pk_sub, nI_e, nI_leE, nI_ltE, nI_mI, mI_nI, mI_lt, nlt_mI, mI_le, nle_mI, nI_addm, sh_b, bI_0, bI_1, bI_bI, ckZ_b, ckZ_n0, ckZ_n1, stIe, stJe, stZ_n0, stZ_n1, rm_nI, dv_nI, if_pos, if_neg, rf0, rf1, rf5, rf6, rf7, rf8, rf9, rf20, rf23, rf24, rf25, rf26, rf29, rf31, rf33, rf34, rf35, rf37, rf38, rf41, rf42, rf43,  lr1]
      exact ih (i + 1) (by omega) (by omega)
theorem r_sumOf {a : Nat} (h1 : a + 6 ≤ 29600) (τ : ST) : f_X12_sumOf 0 (nI a) τ = some (sum6 (gA τ 1) a 6, τ) := by
  unfold f_X12_sumOf
  exact r_sumOf_loop h1 τ FU 0 (by omega) (by unfold FU; omega)
