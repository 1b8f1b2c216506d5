/-! CHOICES: the class -/
theorem ch_0 : LC.2.1 0 9 = 84 := rfl
theorem ch_1 : LC.2.1 84 0 = 85 := rfl
theorem ch_2 : LC.2.1 84 1 = 88 := rfl
theorem ch_3 : LC.2.1 84 2 = 89 := rfl
theorem l88 {σ : ST} {k : Nat} (h : k < 3600) : ldA LC σ 88 (nI k) = some (gA σ 88 k) := la 3600 rfl h (by decide)
theorem s88 {σ : ST} {k : Nat} {v : Int32} (h : k < 3600) : stA LC σ 88 (nI k) v = some (sA σ 88 (upd (gA σ 88) k v)) := sa 3600 rfl h (by decide)
theorem l89 {σ : ST} {k : Nat} (h : k < 20) : ldA LC σ 89 (nI k) = some (gA σ 89 k) := la 20 rfl h (by decide)
theorem s89 {σ : ST} {k : Nat} {v : Int32} (h : k < 20) : stA LC σ 89 (nI k) v = some (sA σ 89 (upd (gA σ 89) k v)) := sa 20 rfl h (by decide)
theorem c_keepRow {B : Nat} {σ : ST} {f : Nat → Int32} {g : Nat → Int64} (hW : RelW B (wv σ wM) f g) {y n : Nat} (hy : y < YN f) (hn : n < 20) {J : Nat → Int32} (hc : CR (sm f y) σ 85 0 J) (ht : TI (sm f y) B (fun k => gv f k y) J) (h3 : gI σ 84 3 = nI n) : ∃ R, f_X1_keepRow 84 wM (nI y) σ = some (sI (sA (sA σ 88 R) 89 (upd (gA σ 89) n (nI (rwL (sm f y) J)))) 84 3 (nI (n + 1))) ∧ (∀ k, k < rwL (sm f y) J → R (n * 180 + k) = rwE (sm f y) f y J k) ∧ ∀ j, j < n * 180 ∨ n * 180 + 180 ≤ j → R j = gA σ 88 j := by
  have hY := hW.1.1.2.1
  have n10 : (nI 1 = nI 0) = False := eq_false (by decide)
  have es := c_isSum wM_w hW.1 (y := y) (by omega)
  cases hs : sm f y
  · rw [hs] at es hc ht
    obtain ⟨R, v1, v2, v3⟩ := c_valuesIn wM_w hW.1 (y := y) (by omega) (r := 88) (L := 3600) (fr := n * 180) rfl (by omega) (by omega) (by unfold wM; omega) (jbits_hi (gvl hW (by omega)) ht) (fun k q1 q2 => jbits_0 q2 ((hW.2.2.2.1.2 k y q2 (by omega)).2 (Or.inl q1)) ht) isC_c (i0 := 0) (by omega) (by decide) (fun k hk => jbits_CR hc hk)
    have esh : ∀ d, d < 180 → std (jbits false J) d = std J d := fun d hd => by
      unfold std jbits
      rw [if_pos (by omega)]; rfl
    have en : cnt (std (jbits false J)) 180 = cnt (std J) 180 := cnt_congr 180 esh
    rw [en] at v1
    have hcl := cnt_le (std J) 180
    have d1 : DL (std J) 180 R (n * 180) (fun e => f (vb y (e / 30) (e % 30 + 1))) := by
      refine DL_congr esh (fun d hd hp => ?_) v2
      exact (vals_eq hW (by omega) (J := J) (by rw [hs]; exact ht) hd (by rw [hs]; exact hp)).1
    refine ⟨R, ?_, fun k hk => ?_, v3⟩
    · have h3' : gI (sA (sA σ 88 R) 89 (upd (gA σ 89) n (nI (cnt (std J) 180)))) 84 3 = nI n := h3
      have h3'' : gA (sA σ 88 R) 89 = gA σ 89 := by rw [gA_sA, if_neg (by decide)]
      simp (disch := omega) only [↓mI_e, lit, ofN, bsm, nI_add, pk_mul, pk_sub, nI_e, nI_leE, nI_ltE, nI_mI, mI_nI, mI_lt, nlt_mI, mI_le, nle_mI, nI_addm, sh_b, bI_0, bI_1, bI_bI, ckZ_b, ckZ_n0, ckZ_n1, stIe, stJe, stZ_n0, stZ_n1, rm_nI, dv_nI, if_true, if_false, if_pos, if_neg, rf0, rf1, rf5, rf6, rf7, rf8, rf9, rf20, rf23, rf24, rf25, rf26, rf29, rf31, rf33, rf34, rf35, rf37, rf38, rf41, rf42, rf43,  f_X1_keepRow, k_X1_keepRow_71, w_0 wM_w, es, bI_f, ch_1, ch_2, ch_3, h3, v1, s89, h3'', h3', rwL, Bool.false_eq_true]
    · exact DL_kth d1 hk
  · rw [hs] at es hc
    have e6 : sum6 (gA σ (85 + 2)) (0 * 6) 6 = sum6 J 0 6 := sum6_congr 6 (fun k hk => by
      have q := hc k hk
      simp only [if_true] at q
      exact q.2.1.trans (congrArg J (Nat.zero_add k).symm))
    have es2 := c_sumOf isC_c (i := 0) (by omega) σ
    rw [e6] at es2
    refine ⟨upd (gA σ 88) (n * 180) (sum6 J 0 6), ?_, fun k hk => ?_, fun j hj => ?_⟩
    · have h3' : ∀ v, gI (sA (sA σ 88 (upd (gA σ 88) (n * 180) (sum6 J 0 6))) 89 v) 84 3 = nI n := fun _ => h3
      have h3a : gI (sA σ 88 (upd (gA σ 88) (n * 180) (sum6 J 0 6))) 84 3 = nI n := h3
      have h3'' : gA (sA σ 88 (upd (gA σ 88) (n * 180) (sum6 J 0 6))) 89 = gA σ 89 := by rw [gA_sA, if_neg (by decide)]
      simp (disch := omega) only [↓mI_e, lit, ofN, bsm, nI_add, pk_mul, pk_sub, nI_e, nI_leE, nI_ltE, nI_mI, mI_nI, mI_lt, nlt_mI, mI_le, nle_mI, nI_addm, sh_b, bI_0, bI_1, bI_bI, ckZ_b, ckZ_n0, ckZ_n1, stIe, stJe, stZ_n0, stZ_n1, rm_nI, dv_nI, if_true, if_false, if_pos, if_neg, rf0, rf1, rf5, rf6, rf7, rf8, rf9, rf20, rf23, rf24, rf25, rf26, rf29, rf31, rf33, rf34, rf35, rf37, rf38, rf41, rf42, rf43,  f_X1_keepRow, k_X1_keepRow_71, w_0 wM_w, es, bI_t, n10, ch_1, ch_2, ch_3, h3, es2, s88, s89, h3'', h3', h3a, rwL]
    · have hk0 : k = 0 := by unfold rwL at hk; simp at hk; exact hk
      subst hk0
      rw [upd_at, if_pos (by omega)]; rfl
    · rw [upd_at, if_neg (by omega)]
theorem sub_iff {m P : Nat} (hm : m < 64) : (nI m &&& (nI P ^^^ mI) = nI 0) = (m &&& P = m) := by
  apply propext
  constructor
  · intro h
    apply Nat.eq_of_testBit_eq
    intro k
    rw [Nat.testBit_and]
    by_cases hk : k < 32
    · have h1 := congrArg (fun x => bt x k) h
      simp only [bt_and, bt_m _ hk, bt_n0, bt_nI _ hk] at h1
      cases c : m.testBit k
      · rfl
      · rw [c] at h1
        cases c2 : P.testBit k
        · rw [c2] at h1; simp at h1
        · rfl
    · rw [Nat.testBit_lt_two_pow (Nat.lt_of_lt_of_le (show m < 2 ^ 6 from hm) (Nat.pow_le_pow_right (by decide) (by omega)))]; rfl
  · intro h
    apply bt_ext
    intro k hk
    rw [bt_and, bt_m _ hk, bt_n0, bt_nI _ hk, bt_nI _ hk]
    cases c : m.testBit k
    · rfl
    · have h1 := congrArg (fun x => Nat.testBit x k) h
      simp only [Nat.testBit_and, c, Bool.true_and] at h1
      rw [h1]; rfl
def RowAt (σ : ST) (s : Bool) (f : Nat → Int32) (y i : Nat) (J : Nat → Int32) : Prop := gA σ 89 i = nI (rwL s J) ∧ ∀ k, k < rwL s J → gA σ 88 (i * 180 + k) = rwE s f y J k
def CHi (f : Nat → Int32) (y P m : Nat) (σ0 σ : ST) : Prop := Sq noE [] σ0 σ ∧ gI σ 84 3 = nI (cnt (pC P (RN f)) m) ∧ ∀ m', m' < m → pC P (RN f) m' = true → RowAt σ (sm f y) f y (cnt (pC P (RN f)) m') (jS f y (SC f m'))
theorem wv_Sq {σ0 σ : ST} {e : List Nat} (h : Sq noE e σ0 σ) : wv σ wM = wv σ0 wM := wv_same (fun x a b => h.2.2 x (by unfold wM at a; omega) (by
      unfold wM at a b
      unfold scC
      rw [decide_eq_false (show ¬ 32 ≤ x by omega), decide_eq_false (show ¬ 50 ≤ x by omega), decide_eq_false (show ¬ 80 ≤ x by omega)]
      simp
      omega) rfl)
theorem c_fill_16 {B : Nat} (hB : B < 2 ^ 31) {σ0 : ST} {f : Nat → Int32} {g : Nat → Int64} (hW : RelW B (wv σ0 wM) f g) {y P : Nat} (hy : y < YN f) (hP : P < 64) : ∀ (n m : Nat) (σ : ST), m ≤ 64 → 64 - m < n → CHi f y P m σ0 σ → ∃ σ1, k_X1_fill_16 n 84 wM (nI y) (nI P) (nI m) σ = some (bI (decide (0 < cnt (pC P (RN f)) 64)), σ1) ∧ CHi f y P 64 σ0 σ1 := by
  have hY := hW.1.1.2.1
  have hR := hW.1.1.2.2.2.1
  have hN := hW.1.1.2.2.1
  have h20 : cnt (pC P (RN f)) 64 ≤ 20 := Nat.le_trans (cnt_mono 64 (fun i _ h => decide_eq_true (pC_R h))) (pick_20 (R := RN f) (by omega) (Nat.le_refl _))
  intro n
  induction n with
  | zero => intros; omega
  | succ n ih =>
    intro m σ hm hn hi
    obtain ⟨i1, i2, i3⟩ := hi
    have hml : cnt (pC P (RN f)) m ≤ cnt (pC P (RN f)) 64 := cnt_mono2 hm
    have hWσ : RelW B (wv σ wM) f g := by rw [wv_Sq i1]; exact hW
    have out : cnt (pC P (RN f)) m = cnt (pC P (RN f)) 64 → ∃ σ1, k_X1_fill_81 84 σ = some (bI (decide (0 < cnt (pC P (RN f)) 64)), σ1) ∧ CHi f y P 64 σ0 σ1 := fun e => by
      refine ⟨σ, ?_, i1, by rw [← e]; exact i2, fun m' h1 h2 => ?_⟩
      · rw [e] at i2
        by_cases z : cnt (pC P (RN f)) 64 = 0
        · rw [z] at i2 ⊢
          simp (disch := omega) only [↓mI_e, lit, ofN, bsm, nI_add, pk_mul, pk_sub, nI_e, nI_leE, nI_ltE, nI_mI, mI_nI, mI_lt, nlt_mI, mI_le, nle_mI, nI_addm, sh_b, bI_0, bI_1, bI_bI, ckZ_b, ckZ_n0, ckZ_n1, stIe, stJe, stZ_n0, stZ_n1, rm_nI, dv_nI, if_true, if_false, if_pos, if_neg, rf0, rf1, rf5, rf6, rf7, rf8, rf9, rf20, rf23, rf24, rf25, rf26, rf29, rf31, rf33, rf34, rf35, rf37, rf38, rf41, rf42, rf43,  k_X1_fill_81, k_X1_fill_93, i2]
          rfl
        · have z2 : ¬ cnt (pC P (RN f)) 64 ≤ 0 := by omega
          simp (disch := omega) only [↓mI_e, lit, ofN, bsm, nI_add, pk_mul, pk_sub, nI_e, nI_leE, nI_ltE, nI_mI, mI_nI, mI_lt, nlt_mI, mI_le, nle_mI, nI_addm, sh_b, bI_0, bI_1, bI_bI, ckZ_b, ckZ_n0, ckZ_n1, stIe, stJe, stZ_n0, stZ_n1, rm_nI, dv_nI, if_true, if_false, if_pos, if_neg, rf0, rf1, rf5, rf6, rf7, rf8, rf9, rf20, rf23, rf24, rf25, rf26, rf29, rf31, rf33, rf34, rf35, rf37, rf38, rf41, rf42, rf43,  k_X1_fill_81, k_X1_fill_93, i2, z2]
          rw [decide_eq_true (by omega)]
          rfl
      · by_cases g1 : m' < m
        · exact i3 m' g1 h2
        · have := cnt_mono2 (p := pC P (RN f)) (show m ≤ m' by omega)
          have := cnt_lt2 h1 h2
          omega
    rw [k_X1_fill_16]
    by_cases c1 : P < m
    · simp (disch := omega) only [↓mI_e, lit, ofN, bsm, nI_add, pk_mul, pk_sub, nI_e, nI_leE, nI_ltE, nI_mI, mI_nI, mI_lt, nlt_mI, mI_le, nle_mI, nI_addm, sh_b, bI_0, bI_1, bI_bI, ckZ_b, ckZ_n0, ckZ_n1, stIe, stJe, stZ_n0, stZ_n1, rm_nI, dv_nI, if_true, if_false, if_pos, if_neg, rf0, rf1, rf5, rf6, rf7, rf8, rf9, rf20, rf23, rf24, rf25, rf26, rf29, rf31, rf33, rf34, rf35, rf37, rf38, rf41, rf42, rf43,  c1]
      refine out (cnt_tail 64 hm (fun i h1 h2 => ?_)).symm
      cases c : pC P (RN f) i
      · rfl
      · exfalso
        unfold pC at c
        simp only [Bool.and_eq_true, decide_eq_true_eq] at c
        have := Nat.and_le_right (n := i) (m := P)
        omega
    · by_cases c2 : 20 ≤ cnt (pC P (RN f)) m
      · simp (disch := omega) only [↓mI_e, lit, ofN, bsm, nI_add, pk_mul, pk_sub, nI_e, nI_leE, nI_ltE, nI_mI, mI_nI, mI_lt, nlt_mI, mI_le, nle_mI, nI_addm, sh_b, bI_0, bI_1, bI_bI, ckZ_b, ckZ_n0, ckZ_n1, stIe, stJe, stZ_n0, stZ_n1, rm_nI, dv_nI, if_true, if_false, if_pos, if_neg, rf0, rf1, rf5, rf6, rf7, rf8, rf9, rf20, rf23, rf24, rf25, rf26, rf29, rf31, rf33, rf34, rf35, rf37, rf38, rf41, rf42, rf43,  c1, i2, c2]
        exact out (by omega)
      · have nxt : ∀ σ2, CHi f y P (m + 1) σ0 σ2 → ∃ σ1, k_X1_fill_16 n 84 wM (nI y) (nI P) (nI (m + 1)) σ2 = some (bI (decide (0 < cnt (pC P (RN f)) 64)), σ1) ∧ CHi f y P 64 σ0 σ1 := fun σ2 h2 => ih (m + 1) σ2 (by omega) (by omega) h2
        have skip : pC P (RN f) m = false → CHi f y P (m + 1) σ0 σ := fun z => by
          have ec : cnt (pC P (RN f)) (m + 1) = cnt (pC P (RN f)) m := by simp only [cnt]; rw [z]; rfl
          refine ⟨i1, by rw [ec]; exact i2, fun m' h1 h2 => ?_⟩
          by_cases e : m' = m
          · rw [e, z] at h2; exact absurd h2 (by decide)
          · exact i3 m' (by omega) h2
        have e10 : gI σ (wM + 1) 10 = nI (RN f) := hWσ.1.2.1.2.2.2.1.trans (eR _)
        by_cases c3 : m &&& P = m
        · have hpl : pcN m ≤ 6 := pcN_le m 6 (by omega)
          by_cases c4 : pcN m = RN f
          · have hpc : pC P (RN f) m = true := by unfold pC; rw [decide_eq_true c3, decide_eq_true c4]; rfl
            obtain ⟨r, F, G, j1, j2, j3, j4, _⟩ := c_joinSet wM_w hB (y := y) (by omega) (nI m) (c := 85) (L := 6) (i := 0) isC_c (by omega) (by unfold wM; omega) hWσ
            have hj : ∀ k, k < 12 → jS f y (SC f m) k = r k := jn_eq j4
            obtain ⟨R, k1, k2, k3⟩ := c_keepRow (σ := sA (sA σ 86 F) 87 G) (n := cnt (pC P (RN f)) m) (J := jS f y (SC f m)) (by rw [wv_sA_out _ (by unfold wM; omega), wv_sA_out _ (by unfold wM; omega)]; exact hWσ) hy (by omega) (CR_congr hj j2) (TI_congr hj (fun _ _ => rfl) j3) i2
            have ec : cnt (pC P (RN f)) (m + 1) = cnt (pC P (RN f)) m + 1 := by simp only [cnt]; rw [hpc]; rfl
            have hvm : vN (nI m) = m := vN_nI (by omega)
            simp (disch := omega) only [↓mI_e, lit, ofN, bsm, nI_add, pk_mul, pk_sub, nI_e, nI_leE, nI_ltE, nI_mI, mI_nI, mI_lt, nlt_mI, mI_le, nle_mI, nI_addm, sh_b, bI_0, bI_1, bI_bI, ckZ_b, ckZ_n0, ckZ_n1, stIe, stJe, stZ_n0, stZ_n1, rm_nI, dv_nI, if_true, if_false, if_pos, if_neg, rf0, rf1, rf5, rf6, rf7, rf8, rf9, rf20, rf23, rf24, rf25, rf26, rf29, rf31, rf33, rf34, rf35, rf37, rf38, rf41, rf42, rf43,  c1, i2, c2, sub_iff (show m < 64 by omega), c3, bitCount_eq, hvm, c4, e10, w_0 wM_w, ch_1, j1, k1, k_X1_fill_75]
            refine nxt _ ⟨?_, ?_, fun m' h1 h2 => ?_⟩
            · exact ((((i1.sA _ rfl).sA _ rfl).sA _ rfl).sA _ rfl).sI _ rfl
            · rw [ec, gI_sI, if_pos ⟨rfl, rfl⟩]
            · have g88 : gA (sI (sA (sA (sA (sA σ 86 F) 87 G) 88 R) 89 (upd (gA (sA (sA σ 86 F) 87 G) 89) (cnt (pC P (RN f)) m) (nI (rwL (sm f y) (jS f y (SC f m)))))) 84 3 (nI (cnt (pC P (RN f)) m + 1))) 88 = R := by
                rw [gA_sI, gA_sA, if_neg (by decide), gA_sA, if_pos rfl]
              have g89 : gA (sI (sA (sA (sA (sA σ 86 F) 87 G) 88 R) 89 (upd (gA (sA (sA σ 86 F) 87 G) 89) (cnt (pC P (RN f)) m) (nI (rwL (sm f y) (jS f y (SC f m)))))) 84 3 (nI (cnt (pC P (RN f)) m + 1))) 89 = upd (gA σ 89) (cnt (pC P (RN f)) m) (nI (rwL (sm f y) (jS f y (SC f m)))) := by
                rw [gA_sI, gA_sA, if_pos rfl, gA_sA, if_neg (by decide), gA_sA, if_neg (by decide)]
              unfold RowAt
              rw [g88, g89, upd_at]
              by_cases e : m' = m
              · subst e
                exact ⟨if_pos rfl, k2⟩
              · have hlt : cnt (pC P (RN f)) m' < cnt (pC P (RN f)) m := cnt_lt2 (by omega) h2
                rw [if_neg (by omega)]
                have h4 := i3 m' (by omega) h2
                refine ⟨h4.1, fun k hk => ?_⟩
                have hk2 := rwL_le (sm f y) (jS f y (SC f m'))
                rw [k3 _ (Or.inl (by omega)), gA_sA, if_neg (by decide), gA_sA, if_neg (by decide)]
                exact h4.2 k hk
          · have hvm : vN (nI m) = m := vN_nI (by omega)
            simp (disch := omega) only [↓mI_e, lit, ofN, bsm, nI_add, pk_mul, pk_sub, nI_e, nI_leE, nI_ltE, nI_mI, mI_nI, mI_lt, nlt_mI, mI_le, nle_mI, nI_addm, sh_b, bI_0, bI_1, bI_bI, ckZ_b, ckZ_n0, ckZ_n1, stIe, stJe, stZ_n0, stZ_n1, rm_nI, dv_nI, if_true, if_false, if_pos, if_neg, rf0, rf1, rf5, rf6, rf7, rf8, rf9, rf20, rf23, rf24, rf25, rf26, rf29, rf31, rf33, rf34, rf35, rf37, rf38, rf41, rf42, rf43,  c1, i2, c2, sub_iff (show m < 64 by omega), c3, bitCount_eq, hvm, c4, e10, w_0 wM_w, k_X1_fill_75]
            exact nxt σ (skip (by unfold pC; rw [decide_eq_false c4, Bool.and_false]))
        · simp (disch := omega) only [↓mI_e, lit, ofN, bsm, nI_add, pk_mul, pk_sub, nI_e, nI_leE, nI_ltE, nI_mI, mI_nI, mI_lt, nlt_mI, mI_le, nle_mI, nI_addm, sh_b, bI_0, bI_1, bI_bI, ckZ_b, ckZ_n0, ckZ_n1, stIe, stJe, stZ_n0, stZ_n1, rm_nI, dv_nI, if_true, if_false, if_pos, if_neg, rf0, rf1, rf5, rf6, rf7, rf8, rf9, rf20, rf23, rf24, rf25, rf26, rf29, rf31, rf33, rf34, rf35, rf37, rf38, rf41, rf42, rf43,  c1, i2, c2, sub_iff (show m < 64 by omega), c3, k_X1_fill_75]
          exact nxt σ (skip (by unfold pC; rw [decide_eq_false c3]; rfl))
theorem c_fill {B : Nat} (hB : B < 2 ^ 31) {σ : ST} {f : Nat → Int32} {g : Nat → Int64} (hW : RelW B (wv σ wM) f g) {y a : Nat} (hy : y < YN f) (ha : a < 6) : ∃ P σ1, (∀ k, P.testBit k = (isPl f y k && rch f a k)) ∧ f_X1_fill 84 wM (nI y) (nI a) σ = some (bI (decide (0 < cnt (pC P (RN f)) 64)), σ1) ∧ CHi f y P 64 σ σ1 := by
  have hK := hW.1.1.1
  have hW1 : RelW B (wv (sI σ 84 3 (nI 0)) wM) f g := by rw [wv_sI_out _ (by unfold wM; omega)]; exact hW
  obtain ⟨p, p1, p2⟩ := c_placesReached wM_w hW1.1 hW1.2.1 hy (a := a) (by omega)
  have hP : ∀ k, (vN p).testBit k = (isPl f y k && rch f a k) := fun k => by
    rw [← p2 k]; rfl
  have hlt : vN p < 64 := by
    refine Nat.lt_pow_two_of_testBit (n := 6) (vN p) (fun k hk => ?_)
    rw [hP, isPl_no (by omega)]; rfl
  have hr0 : pC (vN p) (RN f) 0 = false := by
    have hR := hW.1.1.2.2.2.1
    unfold pC
    rw [decide_eq_false (show ¬ pcN 0 = RN f by rw [pcN_0]; omega), Bool.and_false]
  obtain ⟨σ1, q1, q2⟩ := c_fill_16 hB hW hy hlt FU 1 (sI σ 84 3 (nI 0)) (by omega) (by unfold FU; omega) ⟨(Sq.rf σ).sI _ rfl, by rw [gI_sI, if_pos ⟨rfl, rfl⟩]; simp only [cnt]; rw [hr0]; rfl, fun m' h1 h2 => by
    have : m' = 0 := by omega
    rw [this, hr0] at h2; exact absurd h2 (by decide)⟩
  refine ⟨vN p, σ1, hP, ?_, q2⟩
  rw [nI_vN] at q1
  simp (disch := omega) only [↓mI_e, lit, ofN, bsm, nI_add, pk_mul, pk_sub, nI_e, nI_leE, nI_ltE, nI_mI, mI_nI, mI_lt, nlt_mI, mI_le, nle_mI, nI_addm, sh_b, bI_0, bI_1, bI_bI, ckZ_b, ckZ_n0, ckZ_n1, stIe, stJe, stZ_n0, stZ_n1, rm_nI, dv_nI, if_true, if_false, if_pos, if_neg, rf0, rf1, rf5, rf6, rf7, rf8, rf9, rf20, rf23, rf24, rf25, rf26, rf29, rf31, rf33, rf34, rf35, rf37, rf38, rf41, rf42, rf43,  f_X1_fill, p1]
  exact q1
