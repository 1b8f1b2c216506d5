/-! PUT, STRIKE, ADD -/
theorem lg_lt {x y : Int64} : (lg_cmp x y < 0) = (x < y) := by
  unfold lg_cmp
  apply propext
  by_cases h : x > y
  · rw [if_pos h]
    have h2 := Int64.lt_iff_toInt_lt.mp h
    rw [Int64.lt_iff_toInt_lt]
    constructor
    · intro q; exact absurd q (by decide)
    · intro q; omega
  · rw [if_neg h]
    by_cases h3 : x = y
    · subst h3
      rw [if_pos rfl, Int64.lt_iff_toInt_lt]
      constructor
      · intro q; exact absurd q (by decide)
      · intro q; omega
    · rw [if_neg h3]
      have h4 : ¬ y.toInt < x.toInt := fun q => h (Int64.lt_iff_toInt_lt.mpr q)
      have h5 : x.toInt ≠ y.toInt := fun q => h3 (Int64.toInt_inj.mp q)
      rw [Int64.lt_iff_toInt_lt]
      constructor
      · intro _; omega
      · intro _; decide
theorem lg_gt {x y : Int64} : ((0 : Int32) < lg_cmp x y) = (y < x) := by
  unfold lg_cmp
  apply propext
  by_cases h : x > y
  · rw [if_pos h]
    exact ⟨fun _ => h, fun _ => by decide⟩
  · rw [if_neg h]
    constructor
    · intro q
      by_cases h3 : x = y
      · rw [if_pos h3] at q; exact absurd q (by decide)
      · rw [if_neg h3] at q; exact absurd q (by decide)
    · intro q; exact absurd q h
theorem r_isFrom_y {k a b : Nat} (h1 : a ≤ k) (h2 : k ≤ b) (hb : b < 2 ^ 31) (τ : ST) : f_X12_isFrom ((nI k).toInt64) (lN a) (lN b) τ = some (nI 1, τ) := by
  unfold f_X12_isFrom k_X12_isFrom_17 k_X12_isFrom_18
  simp only [lg_lt, lg_gt, nI_l (show k < 2 ^ 31 by omega)]
  rw [if_neg (fun q => by have := (lN_lt (by omega) (by omega)).mp q; omega), if_neg (fun q => by have := (lN_lt (by omega) (by omega)).mp q; omega)]
  rfl
theorem r_isFrom_n {v : Int32} {a b : Nat} (ha : a < 2 ^ 31) (hb : b < 2 ^ 31) (h : v.toInt < a ∨ (b : Int) < v.toInt) (τ : ST) : f_X12_isFrom (v.toInt64) (lN a) (lN b) τ = some (nI 0, τ) := by
  unfold f_X12_isFrom k_X12_isFrom_17 k_X12_isFrom_18
  simp only [lg_lt, lg_gt]
  by_cases g : v.toInt64 < lN a
  · rw [if_pos g]; rfl
  · rw [if_neg g]
    have h2 : lN b < v.toInt64 := by
      rw [Int64.lt_iff_toInt_lt, lN_toInt hb, Int32.toInt_toInt64]
      rw [Int64.lt_iff_toInt_lt, lN_toInt ha, Int32.toInt_toInt64] at g
      omega
    rw [if_pos h2]; rfl
theorem cell_ne {X Y k a : Nat} (h : X ≠ Y) (hk : k < 6) (ha : a < 6) : X * 6 + k ≠ Y * 6 + a := by omega
theorem litL (n : Nat) : (OfNat.ofNat n : Int64) = lN (OfNat.ofNat n) := Eq.trans rfl rfl
theorem num_cases (v : Int32) (a b : Nat) (hab : a ≤ b) (hb : b < 2 ^ 31) : (v.toInt < a ∨ (b : Int) < v.toInt) ∨ ∃ k, a ≤ k ∧ k ≤ b ∧ v = nI k := by
  by_cases h : v.toInt < a
  · exact Or.inl (Or.inl h)
  · by_cases h2 : (b : Int) < v.toInt
    · exact Or.inl (Or.inr h2)
    · refine Or.inr ⟨v.toInt.toNat, by omega, by omega, ?_⟩
      apply Int32.toInt_inj.mp
      rw [nI_toInt (by omega)]
      omega
theorem mI_toInt : mI.toInt = -1 := rfl
theorem nI_tI {k : Nat} (h : k < 2 ^ 31) : (nI k).toInt = k := nI_toInt h
theorem tick_cases (a : Int32) : a = mI ∨ (∃ t, t < 4 ∧ a = nI t) ∨ ((a < mI ∨ nI 4 ≤ a) ∧ (a = mI) = False ∧ (a < 0 ∨ nI 4 ≤ a)) := by
  rcases num_cases a 0 3 (by omega) (by omega) with h | ⟨k, _, h2, e⟩
  · by_cases g : a = mI
    · exact Or.inl g
    · refine Or.inr (Or.inr ⟨?_, eq_false g, ?_⟩)
      · rcases h with h | h
        · refine Or.inl ?_
          rw [Int32.lt_iff_toInt_lt, mI_toInt]
          have : a.toInt ≠ -1 := fun q => g (Int32.toInt_inj.mp q)
          omega
        · refine Or.inr ?_
          rw [Int32.le_iff_toInt_le, nI_toInt (by omega)]
          omega
      · rcases h with h | h
        · refine Or.inl ?_
          rw [Int32.lt_iff_toInt_lt]
          have : (0 : Int32).toInt = 0 := rfl
          omega
        · refine Or.inr ?_
          rw [Int32.le_iff_toInt_le, nI_toInt (by omega)]
          omega
  · exact Or.inr (Or.inl ⟨k, by omega, e⟩)
theorem c_tick_no {a : Int32} (h : a < mI ∨ nI 4 ≤ a) (σ : ST) : f_X11_isTicketOrNone 0 a σ = some (nI 0, σ) := by
  unfold f_X11_isTicketOrNone k_X11_isTicketOrNone_14 k_X11_isTicketOrNone_15
  by_cases g : a < mI
  · rw [if_pos (show a < -1 from g)]; rfl
  · rw [if_neg (show ¬ a < -1 from g), if_pos (show (4 : Int32) ≤ a from h.resolve_left g)]; rfl
theorem c_tick_m (σ : ST) : f_X11_isTicketOrNone 0 mI σ = some (nI 1, σ) := rfl
theorem c_tick_y {t : Nat} (h : t < 4) (σ : ST) : f_X11_isTicketOrNone 0 (nI t) σ = some (nI 1, σ) := by
  simp (disch := omega) only [↓mI_e, lit, ofN, bsm, nI_add, pk_mul, pk_sub, nI_e, nI_leE, nI_ltE, nI_mI, mI_nI, mI_lt, nlt_mI, mI_le, nle_mI, nI_addm, sh_b, bI_0, bI_1, bI_bI, ckZ_b, ckZ_n0, ckZ_n1, stIe, stJe, stZ_n0, stZ_n1, rm_nI, dv_nI, if_true, if_false, if_pos, if_neg, rf0, rf1, rf5, rf6, rf7, rf8, rf9, rf20, rf23, rf24, rf25, rf26, rf29, rf31, rf33, rf34, rf35, rf37, rf38, rf41, rf42, rf43,  f_X11_isTicketOrNone, k_X11_isTicketOrNone_14, k_X11_isTicketOrNone_15]
/-! the reference: may it be -/
theorem r_canTake {y a : Nat} {τ : ST} (hf : WFs (gA τ 1)) (hy : y < YN (gA τ 1)) (ha : a < 32) : ∃ gr, f_X12_canTake 0 (nI y) (nI a) τ = some (bI (isPl (gA τ 1) y a && bt (gA τ 1 5) a), sA τ 9 gr) := by
  obtain ⟨g, h1⟩ := r_isPlace hf hy ha
  cases c : bt (gA τ 1 5) a
  · refine ⟨gA τ 9, ?_⟩
    simp (disch := omega) only [↓mI_e, lit, ofN, bsm, nI_add, pk_mul, pk_sub, nI_e, nI_leE, nI_ltE, nI_mI, mI_nI, mI_lt, nlt_mI, mI_le, nle_mI, nI_addm, sh_b, bI_0, bI_1, bI_bI, ckZ_b, ckZ_n0, ckZ_n1, stIe, stJe, stZ_n0, stZ_n1, rm_nI, dv_nI, if_true, if_false, if_pos, if_neg, rf0, rf1, rf5, rf6, rf7, rf8, rf9, rf20, rf23, rf24, rf25, rf26, rf29, rf31, rf33, rf34, rf35, rf37, rf38, rf41, rf42, rf43,  f_X12_canTake, k_X12_canTake_21, k_X12_canTake_22, r_isUp, c]
    rw [sA_self]
    cases isPl (gA τ 1) y a <;> rfl
  · refine ⟨g, ?_⟩
    simp (disch := omega) only [↓mI_e, lit, ofN, bsm, nI_add, pk_mul, pk_sub, nI_e, nI_leE, nI_ltE, nI_mI, mI_nI, mI_lt, nlt_mI, mI_le, nle_mI, nI_addm, sh_b, bI_0, bI_1, bI_bI, ckZ_b, ckZ_n0, ckZ_n1, stIe, stJe, stZ_n0, stZ_n1, rm_nI, dv_nI, if_true, if_false, if_pos, if_neg, rf0, rf1, rf5, rf6, rf7, rf8, rf9, rf20, rf23, rf24, rf25, rf26, rf29, rf31, rf33, rf34, rf35, rf37, rf38, rf41, rf42, rf43,  f_X12_canTake, k_X12_canTake_21, k_X12_canTake_22, r_isUp, c, Bool.true_eq_false, h1]
    cases isPl (gA τ 1) y a <;> rfl
/-- whether a ticket is none, or of that key -/
def tkOk (f : Nat → Int32) (y : Nat) (k : Int32) : Prop := k = mI ∨ ∃ t, t < 4 ∧ k = nI t ∧ f (4440 + 8 * t) = nI y
def putOk (f : Nat → Int32) (y a : Nat) (k : Int32) : Prop := (sm f y = false ∧ tkOk f y k) ∧ (isPl f y a = true ∧ bt (f 5) a = true) ∧ gv f a y < 30
/-- a ticket that is none, or there -/
def tkIn (f : Nat → Int32) (k : Int32) : Prop := k = mI ∨ ∃ t, t < 4 ∧ k = nI t ∧ f (4440 + 8 * t) ≠ mI
theorem r_wrongPut_58 {y a : Nat} {τ : ST} (hf : WFs (gA τ 1)) (hy : y < YN (gA τ 1)) (ha : a < 6) (hg : gv (gA τ 1) a y ≤ 30) : ∃ gr v, k_X12_wrongPut_58 0 (nI y) (nI a) τ = some (nI v, sA τ 9 gr) ∧ ((v = 0 ∧ (isPl (gA τ 1) y a = true ∧ bt (gA τ 1 5) a = true) ∧ gv (gA τ 1) a y < 30) ∨ (v = 7 ∧ ¬ ((isPl (gA τ 1) y a = true ∧ bt (gA τ 1 5) a = true) ∧ gv (gA τ 1) a y < 30))) := by
  have hY := hf.2.1
  obtain ⟨gr, h1⟩ := r_canTake hf hy (a := a) (by omega)
  have e : gA τ 1 (4400 + 6 * a + y) = nI (gv (gA τ 1) a y) := (nI_vN _).symm
  cases c : isPl (gA τ 1) y a && bt (gA τ 1 5) a
  · refine ⟨gr, 7, ?_, Or.inr ⟨rfl, fun z => ?_⟩⟩
    · simp (disch := omega) only [↓mI_e, lit, ofN, bsm, nI_add, pk_mul, pk_sub, nI_e, nI_leE, nI_ltE, nI_mI, mI_nI, mI_lt, nlt_mI, mI_le, nle_mI, nI_addm, sh_b, bI_0, bI_1, bI_bI, ckZ_b, ckZ_n0, ckZ_n1, stIe, stJe, stZ_n0, stZ_n1, rm_nI, dv_nI, if_true, if_false, if_pos, if_neg, rf0, rf1, rf5, rf6, rf7, rf8, rf9, rf20, rf23, rf24, rf25, rf26, rf29, rf31, rf33, rf34, rf35, rf37, rf38, rf41, rf42, rf43,  k_X12_wrongPut_58, k_X12_wrongPut_91, k_X12_wrongPut_93, h1, c]
    · rw [z.1.1, z.1.2] at c; exact absurd c (by decide)
  · have c2 : isPl (gA τ 1) y a = true ∧ bt (gA τ 1 5) a = true := by simpa using c
    by_cases g : gv (gA τ 1) a y < 30
    · refine ⟨gr, 0, ?_, Or.inl ⟨rfl, c2, g⟩⟩
      simp (disch := omega) only [↓mI_e, lit, ofN, bsm, nI_add, pk_mul, pk_sub, nI_e, nI_leE, nI_ltE, nI_mI, mI_nI, mI_lt, nlt_mI, mI_le, nle_mI, nI_addm, sh_b, bI_0, bI_1, bI_bI, ckZ_b, ckZ_n0, ckZ_n1, stIe, stJe, stZ_n0, stZ_n1, rm_nI, dv_nI, if_true, if_false, if_pos, if_neg, rf0, rf1, rf5, rf6, rf7, rf8, rf9, rf20, rf23, rf24, rf25, rf26, rf29, rf31, rf33, rf34, rf35, rf37, rf38, rf41, rf42, rf43,  k_X12_wrongPut_58, k_X12_wrongPut_91, k_X12_wrongPut_93, h1, c, Bool.true_eq_false, lr1, gA_sA, e]
    · refine ⟨gr, 7, ?_, Or.inr ⟨rfl, fun z => g z.2⟩⟩
      simp (disch := omega) only [↓mI_e, lit, ofN, bsm, nI_add, pk_mul, pk_sub, nI_e, nI_leE, nI_ltE, nI_mI, mI_nI, mI_lt, nlt_mI, mI_le, nle_mI, nI_addm, sh_b, bI_0, bI_1, bI_bI, ckZ_b, ckZ_n0, ckZ_n1, stIe, stJe, stZ_n0, stZ_n1, rm_nI, dv_nI, if_true, if_false, if_pos, if_neg, rf0, rf1, rf5, rf6, rf7, rf8, rf9, rf20, rf23, rf24, rf25, rf26, rf29, rf31, rf33, rf34, rf35, rf37, rf38, rf41, rf42, rf43,  k_X12_wrongPut_58, k_X12_wrongPut_91, k_X12_wrongPut_93, h1, c, Bool.true_eq_false, lr1, gA_sA, e]
theorem r_wrongPut {y a : Nat} {τ : ST} (hf : WFs (gA τ 1)) (hy : y < YN (gA τ 1)) (ha : a < 6) (hg : gv (gA τ 1) a y ≤ 30) {k : Int32} (hk : tkIn (gA τ 1) k) : ∃ gr v, f_X12_wrongPut 0 (nI y) (nI a) k τ = some (nI v, sA τ 9 gr) ∧ ((v = 0 ∧ putOk (gA τ 1) y a k) ∨ (v = 7 ∧ ¬ putOk (gA τ 1) y a k)) := by
  have hY := hf.2.1
  obtain ⟨gr, v, h1, h2⟩ := r_wrongPut_58 hf hy ha hg
  cases c : sm (gA τ 1) y
  · rcases hk with rfl | ⟨t, ht, rfl, hk⟩
    · refine ⟨gr, v, ?_, ?_⟩
      · simp (disch := omega) only [↓mI_e, lit, ofN, bsm, nI_add, pk_mul, pk_sub, nI_e, nI_leE, nI_ltE, nI_mI, mI_nI, mI_lt, nlt_mI, mI_le, nle_mI, nI_addm, sh_b, bI_0, bI_1, bI_bI, ckZ_b, ckZ_n0, ckZ_n1, stIe, stJe, stZ_n0, stZ_n1, rm_nI, dv_nI, if_true, if_false, if_pos, if_neg, rf0, rf1, rf5, rf6, rf7, rf8, rf9, rf20, rf23, rf24, rf25, rf26, rf29, rf31, rf33, rf34, rf35, rf37, rf38, rf41, rf42, rf43,  f_X12_wrongPut, k_X12_wrongPut_25, k_X12_wrongPut_55, r_isSum, c, h1]
      · rcases h2 with z | z
        · exact Or.inl ⟨z.1, ⟨c, Or.inl rfl⟩, z.2⟩
        · exact Or.inr ⟨z.1, fun q => z.2 q.2⟩
    · by_cases g : gA τ 1 (4440 + 8 * t) = nI y
      · refine ⟨gr, v, ?_, ?_⟩
        · simp (disch := omega) only [↓mI_e, lit, ofN, bsm, nI_add, pk_mul, pk_sub, nI_e, nI_leE, nI_ltE, nI_mI, mI_nI, mI_lt, nlt_mI, mI_le, nle_mI, nI_addm, sh_b, bI_0, bI_1, bI_bI, ckZ_b, ckZ_n0, ckZ_n1, stIe, stJe, stZ_n0, stZ_n1, rm_nI, dv_nI, if_true, if_false, if_pos, if_neg, rf0, rf1, rf5, rf6, rf7, rf8, rf9, rf20, rf23, rf24, rf25, rf26, rf29, rf31, rf33, rf34, rf35, rf37, rf38, rf41, rf42, rf43,  f_X12_wrongPut, k_X12_wrongPut_25, k_X12_wrongPut_55, r_isSum, c, h1, lr1, g]
        · rcases h2 with z | z
          · exact Or.inl ⟨z.1, ⟨c, Or.inr ⟨t, ht, rfl, g⟩⟩, z.2⟩
          · exact Or.inr ⟨z.1, fun q => z.2 q.2⟩
      · refine ⟨gA τ 9, 7, ?_, Or.inr ⟨rfl, fun q => ?_⟩⟩
        · simp (disch := omega) only [↓mI_e, lit, ofN, bsm, nI_add, pk_mul, pk_sub, nI_e, nI_leE, nI_ltE, nI_mI, mI_nI, mI_lt, nlt_mI, mI_le, nle_mI, nI_addm, sh_b, bI_0, bI_1, bI_bI, ckZ_b, ckZ_n0, ckZ_n1, stIe, stJe, stZ_n0, stZ_n1, rm_nI, dv_nI, if_true, if_false, if_pos, if_neg, rf0, rf1, rf5, rf6, rf7, rf8, rf9, rf20, rf23, rf24, rf25, rf26, rf29, rf31, rf33, rf34, rf35, rf37, rf38, rf41, rf42, rf43,  f_X12_wrongPut, k_X12_wrongPut_25, k_X12_wrongPut_55, r_isSum, c, lr1, hk, g]
          rw [sA_self]
        · rcases q.1.2 with q | ⟨t', h3, q, h4⟩
          · exact absurd q (by rw [nI_mI (by omega)]; exact fun z => z)
          · rw [nI_e (by omega) (by omega)] at q
            subst q; exact g h4
  · refine ⟨gA τ 9, 7, ?_, Or.inr ⟨rfl, fun q => ?_⟩⟩
    · rcases hk with rfl | ⟨t, ht, rfl, hk⟩
      · simp (disch := omega) only [↓mI_e, lit, ofN, bsm, nI_add, pk_mul, pk_sub, nI_e, nI_leE, nI_ltE, nI_mI, mI_nI, mI_lt, nlt_mI, mI_le, nle_mI, nI_addm, sh_b, bI_0, bI_1, bI_bI, ckZ_b, ckZ_n0, ckZ_n1, stIe, stJe, stZ_n0, stZ_n1, rm_nI, dv_nI, if_true, if_false, if_pos, if_neg, rf0, rf1, rf5, rf6, rf7, rf8, rf9, rf20, rf23, rf24, rf25, rf26, rf29, rf31, rf33, rf34, rf35, rf37, rf38, rf41, rf42, rf43,  f_X12_wrongPut, k_X12_wrongPut_25, k_X12_wrongPut_55, r_isSum, c, Bool.true_eq_false]
        rw [sA_self]
      · simp (disch := omega) only [↓mI_e, lit, ofN, bsm, nI_add, pk_mul, pk_sub, nI_e, nI_leE, nI_ltE, nI_mI, mI_nI, mI_lt, nlt_mI, mI_le, nle_mI, nI_addm, sh_b, bI_0, bI_1, bI_bI, ckZ_b, ckZ_n0, ckZ_n1, stIe, stJe, stZ_n0, stZ_n1, rm_nI, dv_nI, if_true, if_false, if_pos, if_neg, rf0, rf1, rf5, rf6, rf7, rf8, rf9, rf20, rf23, rf24, rf25, rf26, rf29, rf31, rf33, rf34, rf35, rf37, rf38, rf41, rf42, rf43,  f_X12_wrongPut, k_X12_wrongPut_25, k_X12_wrongPut_55, r_isSum, c, Bool.true_eq_false, lr1, hk]
        rw [sA_self]
    · rw [q.1.1] at c; exact absurd c (by decide)
/-! the ticket's join -/
def uT (f : Nat → Int32) (t : Nat) : Nat → Int32 := fun k => if k < 6 then nI 0 else f (4440 + 8 * t + 1 + (k - 6))
theorem uT_hi (f : Nat → Int32) (t k : Nat) : uT f t (6 + k) = f (4440 + 8 * t + 1 + k) := by
  unfold uT; rw [if_neg (by omega), show 6 + k - 6 = k by omega]
theorem jb_r0 (a s x : Int32) : jb a (nI 0) s x = a &&& (upT x ^^^ mI) := by
  apply bt_ext
  intro k hk
  unfold jb
  rw [bt_or, bt_or, bt_and, bt_and, bt_and, bt_n0]
  cases bt a k <;> simp
theorem r_puts_loop {a y t : Nat} (ha : a < 6) (hy : y < 6) (ht : t < 4) (f : Nat → Int32) (v : Int32) : ∀ (n i : Nat) (τ : ST), i ≤ 6 → 6 - i < n → gA τ 1 = (fun j => if tb a y ≤ j ∧ j < tb a y + 12 ∧ (j - tb a y) % 6 < i then jT false (sh f (tb a y)) (uT f t) (j - tb a y) else f j) → k_X12_puts_11 n 0 (nI y) (nI a) v (nI t) (nI (tb a y)) (nI i) τ = k_X12_puts_104 0 (nI y) (nI a) v (nI (tb a y)) (sA τ 1 (put12 f (tb a y) (jT false (sh f (tb a y)) (uT f t)))) := by
  have t1 := tb_lt (p := a) (y := y) ha hy
  intro n
  induction n with
  | zero => intros; omega
  | succ n ih =>
    intro i τ hi hn hg
    rw [k_X12_puts_11]
    by_cases e : i = 6
    · subst e
      simp (disch := omega) only [↓mI_e, lit, ofN, bsm, nI_add, pk_mul, pk_sub, nI_e, nI_leE, nI_ltE, nI_mI, mI_nI, mI_lt, nlt_mI, mI_le, nle_mI, nI_addm, sh_b, bI_0, bI_1, bI_bI, ckZ_b, ckZ_n0, ckZ_n1, stIe, stJe, stZ_n0, stZ_n1, rm_nI, dv_nI, if_true, if_false, if_pos, if_neg, rf0, rf1, rf5, rf6, rf7, rf8, rf9, rf20, rf23, rf24, rf25, rf26, rf29, rf31, rf33, rf34, rf35, rf37, rf38, rf41, rf42, rf43, ]
      rw [show put12 f (tb a y) (jT false (sh f (tb a y)) (uT f t)) = gA τ 1 from ?_, sA_self]
      rw [hg]
      funext j
      unfold put12
      by_cases g : tb a y ≤ j ∧ j < tb a y + 12
      · rw [if_pos g, if_pos (by omega)]
      · rw [if_neg g, if_neg (by omega)]
    · have e1 : gA τ 1 (tb a y + i) = f (tb a y + i) := by rw [hg]; simp only []; rw [if_neg (by omega)]
      have e2 : gA τ 1 (tb a y + 6 + i) = f (tb a y + 6 + i) := by rw [hg]; simp only []; rw [if_neg (by omega)]
      have e3 : gA τ 1 (4440 + 8 * t + 1 + i) = f (4440 + 8 * t + 1 + i) := by rw [hg]; simp only []; rw [if_neg (by omega)]
      have e4 : ∀ v, upd (gA τ 1) (tb a y + i) v (tb a y + 6 + i) = f (tb a y + 6 + i) := fun v => by rw [upd_at, if_neg (by omega), e2]
      simp (disch := omega) only [↓mI_e, lit, ofN, bsm, nI_add, pk_mul, pk_sub, nI_e, nI_leE, nI_ltE, nI_mI, mI_nI, mI_lt, nlt_mI, mI_le, nle_mI, nI_addm, sh_b, bI_0, bI_1, bI_bI, ckZ_b, ckZ_n0, ckZ_n1, stIe, stJe, stZ_n0, stZ_n1, rm_nI, dv_nI, if_true, if_false, if_pos, if_neg, rf0, rf1, rf5, rf6, rf7, rf8, rf9, rf20, rf23, rf24, rf25, rf26, rf29, rf31, rf33, rf34, rf35, rf37, rf38, rf41, rf42, rf43,  lr1, sr1, e1, e3, f_X12_upTo, gA_sA, e4, k_X12_puts_98, sA_sA]
      have fin : ∀ G : Nat → Int32, G = upd (upd (gA τ 1) (tb a y + i) (jb (f (tb a y + i)) (nI 0) (f (tb a y + 6 + i)) (f (4440 + 8 * t + 1 + i)))) (tb a y + 6 + i) (mx (f (tb a y + 6 + i)) (f (4440 + 8 * t + 1 + i))) → k_X12_puts_11 n 0 (nI y) (nI a) v (nI t) (nI (tb a y)) (nI (i + 1)) (sA τ 1 G) = k_X12_puts_104 0 (nI y) (nI a) v (nI (tb a y)) (sA τ 1 (put12 f (tb a y) (jT false (sh f (tb a y)) (uT f t)))) := by
        intro G hG
        rw [ih (i + 1) (sA τ 1 G) (by omega) (by omega) ?_, sA_sA]
        rw [gA_sA, if_pos rfl, hG, hg]
        funext j
        simp only [upd_at]
        by_cases g1 : j = tb a y + 6 + i
        · subst g1
          rw [if_pos rfl, if_pos (by omega), show tb a y + 6 + i - tb a y = 6 + i by omega, jT_hi, uT_hi]
          unfold sh
          rw [show tb a y + (6 + i) = tb a y + 6 + i by omega]; rfl
        · rw [if_neg g1]
          by_cases g2 : j = tb a y + i
          · subst g2
            rw [if_pos rfl, if_pos (by omega), show tb a y + i - tb a y = i by omega, jT_lo _ _ _ (by omega), uT_hi]
            unfold sh uT
            rw [if_pos (show i < 6 by omega), show tb a y + (6 + i) = tb a y + 6 + i by omega]; rfl
          · rw [if_neg g2]
            by_cases g3 : tb a y ≤ j ∧ j < tb a y + 12 ∧ (j - tb a y) % 6 < i
            · rw [if_pos g3, if_pos (by omega)]
            · rw [if_neg g3, if_neg (by omega)]
      by_cases g : f (4440 + 8 * t + 1 + i) ≤ f (tb a y + 6 + i)
      · rw [if_pos g]
        refine fin _ ?_
        rw [jb_r0, mx_c, if_pos g]
        funext j
        simp only [upd_at]
        by_cases g1 : j = tb a y + 6 + i
        · subst g1
          rw [if_pos rfl, if_neg (by omega), e2]
        · rw [if_neg g1]; rfl
      · rw [if_neg g]
        refine fin _ ?_
        rw [jb_r0, mx_c, if_neg g]; rfl
/-! a new dot -/
def dotF (f : Nat → Int32) (y a : Nat) (v : Int32) : Nat → Int32 := upd (upd (upd (upd f (4400 + 6 * a + y) (nI (gv f a y + 1))) (vb y a (gv f a y + 1)) v) (tb a y + a) (f (tb a y + a) ||| (nI 1 <<< (nI (gv f a y) &&& nI 31)))) (tb a y + 6 + a) (nI (gv f a y + 1))
theorem dotF_at (f : Nat → Int32) (y a : Nat) (v : Int32) (j : Nat) : dotF f y a v j = if j = tb a y + 6 + a then nI (gv f a y + 1) else if j = tb a y + a then f (tb a y + a) ||| (nI 1 <<< (nI (gv f a y) &&& nI 31)) else if j = vb y a (gv f a y + 1) then v else if j = 4400 + 6 * a + y then nI (gv f a y + 1) else f j := rfl
theorem RelW_dot {B : Nat} {s s' : ST} {f : Nat → Int32} {g : Nat → Int64} (h : RelW B s f g) {a y v : Nat} (ha : a < KN f) (hy : y < YN f) (hs : sm f y = false) (hg30 : gv f a y < 30) (hv : v ≤ 1000) (o1 : ∀ x k, gI s' x k = gI s x k) (o2 : ∀ x, x ≠ 16 → x ≠ 17 → x ≠ 26 → x ≠ 27 → gA s' x = gA s x) (o3 : ∀ x, gB s' x = gB s x) (o26 : gA s' 26 = upd (gA s 26) (a * 6 + y) (nI (gv f a y + 1))) (o27 : gA s' 27 = upd (gA s 27) (y * 180 + a * 30 + gv f a y) (nI v)) (o16 : gA s' 16 = upd (gA s 16) ((a * 6 + y) * 6 + a) (gA s 16 ((a * 6 + y) * 6 + a) ||| (nI 1 <<< (nI (gv f a y) &&& nI 31)))) (o17 : gA s' 17 = upd (gA s 17) ((a * 6 + y) * 6 + a) (nI (gv f a y + 1))) : RelW B s' (dotF f y a (nI v)) g := by
  obtain ⟨hS, hU, hT, hG, hV, hH, hI, hD, hN⟩ := h
  have hK := hS.1.1
  have hY := hS.1.2.1
  have htb := tb_lt (p := a) (y := y) (by omega) (by omega)
  have hvb : 3280 ≤ vb y a (gv f a y + 1) ∧ vb y a (gv f a y + 1) < 4400 := by unfold vb; omega
  have e : ∀ k, (k < 30 ∨ (462 ≤ k ∧ k < 3280) ∨ 4436 ≤ k) → dotF f y a (nI v) k = f k := fun k hk => by
    rw [dotF_at, if_neg (by omega), if_neg (by omega), if_neg (by omega), if_neg (by omega)]
  have hf : Hd f (dotF f y a (nI v)) := fun k hk => e k (by omega)
  have hgv : ∀ k y', k < 6 → y' < 6 → gv (dotF f y a (nI v)) k y' = if k = a ∧ y' = y then gv f a y + 1 else gv f k y' := fun k y' hk hy' => by
    unfold gv
    rw [dotF_at, if_neg (by omega), if_neg (by omega), if_neg (by omega)]
    by_cases z : k = a ∧ y' = y
    · obtain ⟨rfl, rfl⟩ := z
      rw [if_pos rfl, if_pos ⟨rfl, rfl⟩]
      exact vN_nI (by have : gv f k y' < 30 := hg30; unfold gv at this; omega)
    · rw [if_neg (by omega), if_neg z]
  have hg : ∀ k y', k < 6 → y' < 6 → gv f k y' ≤ gv (dotF f y a (nI v)) k y' := fun k y' hk hy' => by
    rw [hgv k y' hk hy']
    by_cases z : k = a ∧ y' = y
    · obtain ⟨rfl, rfl⟩ := z
      rw [if_pos ⟨rfl, rfl⟩]; omega
    · rw [if_neg z]; exact Nat.le_refl _
  refine ⟨RS_c hf hS (o1 1) (o2 2 (by decide) (by decide) (by decide) (by decide)) (o2 4 (by decide) (by decide) (by decide) (by decide)) (o2 6 (by decide) (by decide) (by decide) (by decide)) (o2 7 (by decide) (by decide) (by decide) (by decide)), RU_c hU (e 5 (by omega)) (e 6 (by omega)) (o1 0 9) (o1 0 10), RT_c hf hY hT (fun k a b => e k (by omega)) hg (o1 0 11) (o2 23 (by decide) (by decide) (by decide) (by decide)) (o2 24 (by decide) (by decide) (by decide) (by decide)) (o2 25 (by decide) (by decide) (by decide) (by decide)), ⟨?_, ?_⟩, ?_, ?_, RI_c hf hI hg (fun k a b => e k (by omega)) (o2 19 (by decide) (by decide) (by decide) (by decide)) (o2 20 (by decide) (by decide) (by decide) (by decide)) (o2 21 (by decide) (by decide) (by decide) (by decide)), RD_c hf hY hD (e 7 (by omega)) (fun k a b => e k (by omega)) (o1 8 6) (o1 8 7) (fun x a b => o2 x (by omega) (by omega) (by omega) (by omega)), RN_c hf hN (o3 3) (o3 5)⟩
  · intro c hc
    have e2 : dotF f y a (nI v) (4400 + c) = if 4400 + c = 4400 + 6 * a + y then nI (gv f a y + 1) else f (4400 + c) := by
      rw [dotF_at, if_neg (by omega), if_neg (by omega), if_neg (by omega)]
    rw [o26, upd_at, e2]
    by_cases z : c = a * 6 + y
    · rw [if_pos z, if_pos (by omega)]
    · rw [if_neg z, if_neg (by omega)]; exact hG.1 c hc
  · intro k y' hk hy'
    rw [hgv k y' hk hy', hf.K, hf.Y]
    by_cases z : k = a ∧ y' = y
    · rw [if_pos z]; exact ⟨by omega, fun q => by omega⟩
    · rw [if_neg z]; exact hG.2 k y' hk hy'
  · intro y' k i hy' hk hi
    rw [hgv k y' hk hy'] at hi
    have hbk := (hG.2 k y' hk hy').1
    have hi30 : i < 30 := by
      by_cases z : k = a ∧ y' = y
      · rw [if_pos z] at hi; omega
      · rw [if_neg z] at hi; omega
    have e2 : dotF f y a (nI v) (vb y' k (i + 1)) = if vb y' k (i + 1) = vb y a (gv f a y + 1) then nI v else f (vb y' k (i + 1)) := by
      have hvb2 : 3280 ≤ vb y' k (i + 1) ∧ vb y' k (i + 1) < 4400 := by unfold vb; omega
      rw [dotF_at, if_neg (by omega), if_neg (by omega)]
      by_cases q : vb y' k (i + 1) = vb y a (gv f a y + 1)
      · rw [if_pos q, if_pos q]
      · rw [if_neg q, if_neg q, if_neg (by omega)]
    rw [o27, upd_at, e2]
    by_cases z : k = a ∧ y' = y
    · rw [if_pos z] at hi
      obtain ⟨rfl, rfl⟩ := z
      by_cases z2 : i = gv f k y'
      · subst z2
        rw [if_pos rfl, if_pos rfl]
        exact ⟨rfl, by rw [vN_nI (by omega)]; exact hv⟩
      · rw [if_neg (by omega), if_neg (by unfold vb; omega)]
        exact hV y' k i hy' hk (by omega)
    · rw [if_neg z] at hi
      rw [if_neg (by omega), if_neg (by unfold vb; omega)]
      exact hV y' k i hy' hk hi
  · intro p' y' hp' hy'
    rw [hf.sm hy']
    obtain ⟨h1, h2⟩ := hH p' y' hp' hy'
    by_cases z : p' = a ∧ y' = y
    · obtain ⟨rfl, rfl⟩ := z
      rw [hs] at h1 h2 ⊢
      have b0 : ∀ k, k < 6 → k ≠ p' → sh (dotF f y' p' (nI v)) (tb p' y') k = sh f (tb p' y') k ∧ sh (dotF f y' p' (nI v)) (tb p' y') (6 + k) = sh f (tb p' y') (6 + k) := fun k hk hne => by
        unfold sh
        rw [dotF_at, if_neg (by omega), if_neg (by omega), if_neg (by omega), if_neg (by omega), dotF_at, if_neg (by omega), if_neg (by omega), if_neg (by omega), if_neg (by omega)]
        exact ⟨rfl, rfl⟩
      have b1 : sh (dotF f y' p' (nI v)) (tb p' y') p' = f (tb p' y' + p') ||| (nI 1 <<< (nI (gv f p' y') &&& nI 31)) := by
        unfold sh
        rw [dotF_at, if_neg (by omega), if_pos rfl]
      have b2 : sh (dotF f y' p' (nI v)) (tb p' y') (6 + p') = nI (gv f p' y' + 1) := by
        unfold sh
        rw [dotF_at, if_pos (by omega)]
      constructor
      · intro k hk
        have h3 := h1 k hk
        simp only [Bool.false_eq_true, if_false] at h3 ⊢
        show gA s' 16 _ = _ ∧ gA s' 17 _ = _
        rw [o16, o17, upd_at, upd_at]
        by_cases z2 : k = p'
        · subst z2
          rw [if_pos rfl, if_pos rfl, b1, b2]
          exact ⟨by rw [show gA s 16 ((k * 6 + y') * 6 + k) = f (tb k y' + k) from h3.1], rfl⟩
        · rw [if_neg (by omega), if_neg (by omega), (b0 k hk z2).1, (b0 k hk z2).2]; exact h3
      · intro k hk
        have h3 := h2 k hk
        simp only [Bool.false_eq_true, if_false] at h3 ⊢
        rw [hgv k y' hk hy']
        by_cases z2 : k = p'
        · subst z2
          rw [if_pos ⟨rfl, rfl⟩, b1, b2, vN_nI (by omega)]
          refine ⟨Nat.le_refl _, fun i hi => ?_⟩
          rw [bt_ins _ (by omega)] at hi
          cases q : bt (f (tb k y' + k)) i
          · rw [q] at hi
            have : i = gv f k y' := by simpa using hi
            omega
          · have h4 := h3.2 i q
            have h5 := h3.1
            omega
        · rw [if_neg (fun q => z2 q.1), (b0 k hk z2).1, (b0 k hk z2).2]; exact h3
    · have hne : tb p' y' + 12 ≤ tb a y ∨ tb a y + 12 ≤ tb p' y' := by unfold tb; omega
      have hl := tb_lt hp' hy'
      have e1 : ∀ k, k < 12 → sh (dotF f y a (nI v)) (tb p' y') k = sh f (tb p' y') k := fun k hk => by
        unfold sh
        rw [dotF_at, if_neg (by omega), if_neg (by omega), if_neg (by omega), if_neg (by omega)]
      refine ⟨CR_congr e1 (fun k hk => ?_), TI_congr e1 (fun _ _ => rfl) (TI_mono (Nat.le_refl _) (fun k hk => hg k y' hk hy') h2)⟩
      have h3 := h1 k hk
      have hX : p' * 6 + y' ≠ a * 6 + y := by omega
      have e16 : gA s' 16 ((p' * 6 + y') * 6 + k) = gA s 16 ((p' * 6 + y') * 6 + k) := by rw [o16, upd_at, if_neg (cell_ne hX hk (by omega))]
      have e17 : gA s' 17 ((p' * 6 + y') * 6 + k) = gA s 17 ((p' * 6 + y') * 6 + k) := by rw [o17, upd_at, if_neg (cell_ne hX hk (by omega))]
      show if sm f y' then (gA s' 16 _ = _ ∧ gA s' 17 _ = _ ∧ _) else (gA s' 16 _ = _ ∧ gA s' 17 _ = _)
      rw [e16, e17]; exact h3
