/-! NIGHTS: the class searches -/
def TB (f : Nat → Int32) (T : Nat → Int32) : Prop := ∀ k, k < KN f → ∀ j, 6 ≤ j → bt (T k) j = false
theorem TB_lt {f T : Nat → Int32} (h : TB f T) {k : Nat} (hk : k < KN f) : vN (T k) < 64 := Nat.lt_pow_two_of_testBit (n := 6) _ (fun j hj => h k hk j hj)
theorem TB_nt {f T : Nat → Int32} (h : TB f T) {a b : Nat} (ha : a < KN f) (hb : b < KN f) : TB f (nt T a b) := by
  intro k hk j hj
  unfold nt
  split
  · rw [bt_or, h a ha j hj, h b hb j hj]; rfl
  · exact h k hk j hj
theorem upd_nt (T : Nat → Int32) (a b : Nat) : upd (upd T a (T a ||| T b)) b (T a ||| T b) = nt T a b := by
  funext k
  unfold nt
  rw [upd_at, upd_at]
  by_cases h1 : k = b
  · rw [if_pos h1, if_pos (Or.inr h1)]
  · rw [if_neg h1]
    by_cases h2 : k = a
    · rw [if_pos h2, if_pos (Or.inl h2)]
    · rw [if_neg h2, if_neg (fun z => by rcases z with z | z <;> contradiction)]
theorem upd_un (T : Nat → Int32) (a b : Nat) : upd (upd (nt T a b) a (T a)) b (T b) = T := by
  funext k
  unfold nt
  rw [upd_at, upd_at]
  by_cases h1 : k = b
  · rw [if_pos h1, h1]
  · rw [if_neg h1]
    by_cases h2 : k = a
    · rw [if_pos h2, h2]
    · rw [if_neg h2, if_neg (fun z => by rcases z with z | z <;> contradiction)]
theorem c_lack_4 {f : Nat → Int32} (hK : KN f ≤ 6) {y P : Nat} {Rb W : Nat → Int32} (hP : ∀ k, P.testBit k = isPl f y k) {σ : ST} (h : NCx f P Rb W σ) (hT : TB f (gA σ 95)) : ∀ (n k : Nat), k ≤ KN f → KN f - k < n → k_X5_lackingPlaces_4 n 90 (nI (cnt (lckP f y W (gA σ 95)) k)) (nI k) σ = some (nI (lck f y W (gA σ 95)), σ) := by
  intro n
  induction n with
  | zero => intros; omega
  | succ n ih =>
    intro k hk hn
    rw [k_X5_lackingPlaces_4]
    by_cases c : KN f ≤ k
    · have : k = KN f := by omega
      subst this
      simp (disch := omega) only [↓mI_e, lit, ofN, bsm, nI_add, pk_mul, pk_sub, nI_e, nI_leE, nI_ltE, nI_mI, mI_nI, mI_lt, nlt_mI, mI_le, nle_mI, nI_addm, sh_b, bI_0, bI_1, bI_bI, ckZ_b, ckZ_n0, ckZ_n1, stIe, stJe, stZ_n0, stZ_n1, rm_nI, dv_nI, if_true, if_false, if_pos, if_neg, rf0, rf1, rf5, rf6, rf7, rf8, rf9, rf20, rf23, rf24, rf25, rf26, rf29, rf31, rf33, rf34, rf35, rf37, rf38, rf41, rf42, rf43,  h.1]
      rfl
    · have eb : bt (nI P) k = isPl f y k := by rw [bt_nI P (by omega)]; exact hP k
      have h1 := ih (k + 1) (by omega) (by omega)
      have hcl := cnt_le (lckP f y W (gA σ 95)) k
      have ec : cnt (lckP f y W (gA σ 95)) (k + 1) = cnt (lckP f y W (gA σ 95)) k + (if lckP f y W (gA σ 95) k then 1 else 0) := rfl
      rw [ec] at h1
      cases cp : isPl f y k
      · rw [cp] at eb
        have e0 : lckP f y W (gA σ 95) k = false := by unfold lckP; rw [cp]; rfl
        rw [e0] at h1
        simp (disch := omega) only [↓mI_e, lit, ofN, bsm, nI_add, pk_mul, pk_sub, nI_e, nI_leE, nI_ltE, nI_mI, mI_nI, mI_lt, nlt_mI, mI_le, nle_mI, nI_addm, sh_b, bI_0, bI_1, bI_bI, ckZ_b, ckZ_n0, ckZ_n1, stIe, stJe, stZ_n0, stZ_n1, rm_nI, dv_nI, if_true, if_false, if_pos, if_neg, rf0, rf1, rf5, rf6, rf7, rf8, rf9, rf20, rf23, rf24, rf25, rf26, rf29, rf31, rf33, rf34, rf35, rf37, rf38, rf41, rf42, rf43,  h.1, c, h.2.1, eb, k_X5_lackingPlaces_40]
        exact h1
      · rw [cp] at eb
        have ht := TB_lt hT (show k < KN f by omega)
        have et : gA σ 95 k = nI (vN (gA σ 95 k)) := (nI_vN _).symm
        have l94' : ldA LC σ 94 (gA σ 95 k) = some (W (vN (gA σ 95 k))) := by
          rw [et, l94 (by omega), h.2.2.2, vN_nI (by omega)]
        by_cases z : W (vN (gA σ 95 k)) = nI 0
        · have e0 : lckP f y W (gA σ 95) k = true := by unfold lckP; rw [cp, decide_eq_true z]; rfl
          rw [e0] at h1
          simp (disch := omega) only [↓mI_e, lit, ofN, bsm, nI_add, pk_mul, pk_sub, nI_e, nI_leE, nI_ltE, nI_mI, mI_nI, mI_lt, nlt_mI, mI_le, nle_mI, nI_addm, sh_b, bI_0, bI_1, bI_bI, ckZ_b, ckZ_n0, ckZ_n1, stIe, stJe, stZ_n0, stZ_n1, rm_nI, dv_nI, if_true, if_false, if_pos, if_neg, rf0, rf1, rf5, rf6, rf7, rf8, rf9, rf20, rf23, rf24, rf25, rf26, rf29, rf31, rf33, rf34, rf35, rf37, rf38, rf41, rf42, rf43,  h.1, c, h.2.1, eb, Bool.true_eq_false, nc_2, nc_3, l95, l94', z, k_X5_lackingPlaces_40]
          exact h1
        · have e0 : lckP f y W (gA σ 95) k = false := by unfold lckP; rw [cp, decide_eq_false z]; rfl
          rw [e0] at h1
          simp (disch := omega) only [↓mI_e, lit, ofN, bsm, nI_add, pk_mul, pk_sub, nI_e, nI_leE, nI_ltE, nI_mI, mI_nI, mI_lt, nlt_mI, mI_le, nle_mI, nI_addm, sh_b, bI_0, bI_1, bI_bI, ckZ_b, ckZ_n0, ckZ_n1, stIe, stJe, stZ_n0, stZ_n1, rm_nI, dv_nI, if_true, if_false, if_pos, if_neg, rf0, rf1, rf5, rf6, rf7, rf8, rf9, rf20, rf23, rf24, rf25, rf26, rf29, rf31, rf33, rf34, rf35, rf37, rf38, rf41, rf42, rf43,  h.1, c, h.2.1, eb, Bool.true_eq_false, nc_2, nc_3, l95, l94', z, k_X5_lackingPlaces_40]
          exact h1
theorem c_lack {f : Nat → Int32} (hK : KN f ≤ 6) {y P : Nat} {Rb W : Nat → Int32} (hP : ∀ k, P.testBit k = isPl f y k) {σ : ST} (h : NCx f P Rb W σ) (hT : TB f (gA σ 95)) : f_X5_lackingPlaces 90 σ = some (nI (lck f y W (gA σ 95)), σ) := c_lack_4 hK hP h hT FU 0 (by omega) (by unfold FU; omega)
theorem c_isOfUse {f : Nat → Int32} (hK : KN f ≤ 6) {y P : Nat} {Rb W : Nat → Int32} (hR : ∀ a, a < KN f → ∀ b, bt (Rb a) b = prN f y a b) {σ : ST} (h : NCx f P Rb W σ) {a b : Nat} (ha : a < KN f) (hb : b < KN f) : f_X5_isOfUse 90 (nI a) (nI b) σ = some (bI (prN f y a b && decide (gA σ 95 a ≠ gA σ 95 b)), σ) := by
  have e1 : gA σ 96 a = Rb a := by rw [h.2.2.1]
  have e2 := hR a ha b
  cases c : prN f y a b
  · rw [c] at e2
    simp (disch := omega) only [↓mI_e, lit, ofN, bsm, nI_add, pk_mul, pk_sub, nI_e, nI_leE, nI_ltE, nI_mI, mI_nI, mI_lt, nlt_mI, mI_le, nle_mI, nI_addm, sh_b, bI_0, bI_1, bI_bI, ckZ_b, ckZ_n0, ckZ_n1, stIe, stJe, stZ_n0, stZ_n1, rm_nI, dv_nI, if_true, if_false, if_pos, if_neg, rf0, rf1, rf5, rf6, rf7, rf8, rf9, rf20, rf23, rf24, rf25, rf26, rf29, rf31, rf33, rf34, rf35, rf37, rf38, rf41, rf42, rf43,  f_X5_isOfUse, k_X5_isOfUse_32, k_X5_isOfUse_33, nc_3, nc_4, l96, e1, e2]
    rfl
  · rw [c] at e2
    by_cases z : gA σ 95 a = gA σ 95 b
    · simp (disch := omega) only [↓mI_e, lit, ofN, bsm, nI_add, pk_mul, pk_sub, nI_e, nI_leE, nI_ltE, nI_mI, mI_nI, mI_lt, nlt_mI, mI_le, nle_mI, nI_addm, sh_b, bI_0, bI_1, bI_bI, ckZ_b, ckZ_n0, ckZ_n1, stIe, stJe, stZ_n0, stZ_n1, rm_nI, dv_nI, if_true, if_false, if_pos, if_neg, rf0, rf1, rf5, rf6, rf7, rf8, rf9, rf20, rf23, rf24, rf25, rf26, rf29, rf31, rf33, rf34, rf35, rf37, rf38, rf41, rf42, rf43,  f_X5_isOfUse, k_X5_isOfUse_32, k_X5_isOfUse_33, nc_3, nc_4, l96, l95, e1, e2, Bool.true_eq_false, z]
      rw [decide_eq_false (fun q => q rfl)]
      rfl
    · simp (disch := omega) only [↓mI_e, lit, ofN, bsm, nI_add, pk_mul, pk_sub, nI_e, nI_leE, nI_ltE, nI_mI, mI_nI, mI_lt, nlt_mI, mI_le, nle_mI, nI_addm, sh_b, bI_0, bI_1, bI_bI, ckZ_b, ckZ_n0, ckZ_n1, stIe, stJe, stZ_n0, stZ_n1, rm_nI, dv_nI, if_true, if_false, if_pos, if_neg, rf0, rf1, rf5, rf6, rf7, rf8, rf9, rf20, rf23, rf24, rf25, rf26, rf29, rf31, rf33, rf34, rf35, rf37, rf38, rf41, rf42, rf43,  f_X5_isOfUse, k_X5_isOfUse_32, k_X5_isOfUse_33, nc_3, nc_4, l96, l95, e1, e2, Bool.true_eq_false, z]
      rw [decide_eq_true z]
      rfl
def HitN (f : Nat → Int32) (y : Nat) (W : Nat → Int32) (k : Nat) (T : Nat → Int32) (a b : Nat) : Prop := prN f y a b = true ∧ T a ≠ T b ∧ Stl f y W k (nt T a b)
def OutN (f : Nat → Int32) (y : Nat) (W : Nat → Int32) (k : Nat) (T : Nat → Int32) (a : Nat) : Prop := ∃ a' b', a ≤ a' ∧ a' < b' ∧ b' < KN f ∧ HitN f y W k T a' b'
def InN (f : Nat → Int32) (y : Nat) (W : Nat → Int32) (k : Nat) (T : Nat → Int32) (a b : Nat) : Prop := (∃ b', b ≤ b' ∧ b' < KN f ∧ HitN f y W k T a b') ∨ OutN f y W k T (a + 1)
theorem InN_s {f : Nat → Int32} {y : Nat} {W : Nat → Int32} {k : Nat} {T : Nat → Int32} {a b : Nat} (h : ¬ HitN f y W k T a b) : InN f y W k T a (b + 1) ↔ InN f y W k T a b := by
  constructor
  · intro z
    rcases z with ⟨b', h1, h2, h3⟩ | z
    · exact Or.inl ⟨b', by omega, h2, h3⟩
    · exact Or.inr z
  · intro z
    rcases z with ⟨b', h1, h2, h3⟩ | z
    · by_cases e : b' = b
      · rw [e] at h3; exact absurd h3 h
      · exact Or.inl ⟨b', by omega, h2, h3⟩
    · exact Or.inr z
theorem InN_out {f : Nat → Int32} {y : Nat} {W : Nat → Int32} {k : Nat} {T : Nat → Int32} {a : Nat} : InN f y W k T a (a + 1) ↔ OutN f y W k T a := by
  constructor
  · intro z
    rcases z with ⟨b', h1, h2, h3⟩ | ⟨a', b', h1, h2⟩
    · exact ⟨a, b', by omega, by omega, h2, h3⟩
    · exact ⟨a', b', by omega, h2⟩
  · intro ⟨a', b', h1, h2, h3, h4⟩
    by_cases e : a' = a
    · subst e; exact Or.inl ⟨b', by omega, h3, h4⟩
    · exact Or.inr ⟨a', b', by omega, h2, h3, h4⟩
theorem Stl_out {f : Nat → Int32} {y : Nat} {W : Nat → Int32} {k : Nat} {T : Nat → Int32} (h0 : lck f y W T ≠ 0) (h1 : lck f y W T ≤ 2 * (k + 1)) : OutN f y W k T 0 ↔ Stl f y W (k + 1) T := by
  constructor
  · intro ⟨a, b, _, h2, h3, h4, h5, h6⟩
    exact Or.inr ⟨h1, a, b, h2, h3, h4, h5, h6⟩
  · intro z
    rcases z with z | ⟨_, a, b, h2, h3, h4, h5, h6⟩
    · exact absurd z h0
    · exact ⟨a, b, by omega, h2, h3, h4, h5, h6⟩
theorem NCx_95 {f : Nat → Int32} {P : Nat} {Rb W : Nat → Int32} {σ : ST} (h : NCx f P Rb W σ) (T : Nat → Int32) : NCx f P Rb W (sA σ 95 T) := ⟨h.1, h.2.1, by rw [gA_sA, if_neg (by decide)]; exact h.2.2.1, by rw [gA_sA, if_neg (by decide)]; exact h.2.2.2⟩
theorem lck_le (f : Nat → Int32) (y : Nat) (W T : Nat → Int32) : lck f y W T ≤ KN f := cnt_le _ _
theorem c_st_0 {f : Nat → Int32} (hK : KN f ≤ 6) {y P : Nat} {Rb W : Nat → Int32} (hP : ∀ k, P.testBit k = isPl f y k) (hR : ∀ a, a < KN f → ∀ b, bt (Rb a) b = prN f y a b) {k : Nat} (hk : k ≤ 0) {σ : ST} (h : NCx f P Rb W σ) (hT : TB f (gA σ 95)) : ∃ r, f_X5_settlesn0 90 (nI k) σ = some (bI r, σ) ∧ (r = true ↔ Stl f y W k (gA σ 95)) := by
  have hl := c_lack hK hP h hT
  have hll := lck_le f y W (gA σ 95)
  have : k = 0 := by omega
  subst this
  by_cases c : lck f y W (gA σ 95) = 0
  · refine ⟨true, ?_, fun _ => c, fun _ => rfl⟩
    simp (disch := omega) only [↓mI_e, lit, ofN, bsm, nI_add, pk_mul, pk_sub, nI_e, nI_leE, nI_ltE, nI_mI, mI_nI, mI_lt, nlt_mI, mI_le, nle_mI, nI_addm, sh_b, bI_0, bI_1, bI_bI, ckZ_b, ckZ_n0, ckZ_n1, stIe, stJe, stZ_n0, stZ_n1, rm_nI, dv_nI, if_true, if_false, if_pos, if_neg, rf0, rf1, rf5, rf6, rf7, rf8, rf9, rf20, rf23, rf24, rf25, rf26, rf29, rf31, rf33, rf34, rf35, rf37, rf38, rf41, rf42, rf43,  f_X5_settlesn0, hl, c]
    rfl
  · refine ⟨false, ?_, fun z => absurd z (by decide), fun z => absurd z c⟩
    have c2 : ¬ lck f y W (gA σ 95) ≤ 2 * 0 := by omega
    simp (disch := omega) only [↓mI_e, lit, ofN, bsm, nI_add, pk_mul, pk_sub, nI_e, nI_leE, nI_ltE, nI_mI, mI_nI, mI_lt, nlt_mI, mI_le, nle_mI, nI_addm, sh_b, bI_0, bI_1, bI_bI, ckZ_b, ckZ_n0, ckZ_n1, stIe, stJe, stZ_n0, stZ_n1, rm_nI, dv_nI, if_true, if_false, if_pos, if_neg, rf0, rf1, rf5, rf6, rf7, rf8, rf9, rf20, rf23, rf24, rf25, rf26, rf29, rf31, rf33, rf34, rf35, rf37, rf38, rf41, rf42, rf43,  f_X5_settlesn0, hl, c, c2]
    rfl
theorem c_sb_1 {f : Nat → Int32} (hK : KN f ≤ 6) {y P : Nat} {Rb W : Nat → Int32} (hP : ∀ k, P.testBit k = isPl f y k) (hR : ∀ a, a < KN f → ∀ b, bt (Rb a) b = prN f y a b) {k : Nat} (hk : k ≤ 0) {σ : ST} (h : NCx f P Rb W σ) (hT : TB f (gA σ 95)) {a b : Nat} (ha : a < KN f) (hb : b < KN f) : ∃ r, f_X5_settlesBehindn1 90 (nI a) (nI b) (nI k) σ = some (bI r, σ) ∧ (r = true ↔ Stl f y W k (nt (gA σ 95) a b)) := by
  obtain ⟨r, r1, r2⟩ := c_st_0 hK hP hR hk (NCx_95 h (nt (gA σ 95) a b)) (by rw [gA_sA, if_pos rfl]; exact TB_nt hT ha hb)
  rw [gA_sA, if_pos rfl] at r2
  refine ⟨r, ?_, r2⟩
  have e1 : gA (sA σ 95 (upd (gA σ 95) a (gA σ 95 a ||| gA σ 95 b))) 95 = upd (gA σ 95) a (gA σ 95 a ||| gA σ 95 b) := by rw [gA_sA, if_pos rfl]
  have e2 : gA (sA σ 95 (nt (gA σ 95) a b)) 95 = nt (gA σ 95) a b := by rw [gA_sA, if_pos rfl]
  have e3 : gA (sA σ 95 (upd (nt (gA σ 95) a b) a (gA σ 95 a))) 95 = upd (nt (gA σ 95) a b) a (gA σ 95 a) := by rw [gA_sA, if_pos rfl]
  simp (disch := omega) only [↓mI_e, lit, ofN, bsm, nI_add, pk_mul, pk_sub, nI_e, nI_leE, nI_ltE, nI_mI, mI_nI, mI_lt, nlt_mI, mI_le, nle_mI, nI_addm, sh_b, bI_0, bI_1, bI_bI, ckZ_b, ckZ_n0, ckZ_n1, stIe, stJe, stZ_n0, stZ_n1, rm_nI, dv_nI, if_true, if_false, if_pos, if_neg, rf0, rf1, rf5, rf6, rf7, rf8, rf9, rf20, rf23, rf24, rf25, rf26, rf29, rf31, rf33, rf34, rf35, rf37, rf38, rf41, rf42, rf43,  f_X5_settlesBehindn1, nc_3, l95, s95, e1, sA_sA, upd_nt, r1, e2, e3, upd_un, sA_self]
theorem c_35_1 {f : Nat → Int32} (hK : KN f ≤ 6) {y P : Nat} {Rb W : Nat → Int32} (hP : ∀ k, P.testBit k = isPl f y k) (hR : ∀ a, a < KN f → ∀ b, bt (Rb a) b = prN f y a b) {k : Nat} (hk : k ≤ 0) {σ : ST} (h : NCx f P Rb W σ) (hT : TB f (gA σ 95)) {a : Nat} (ha : a < KN f) (rec22 : Nat → Int32 → Int32 → ST → Option (Int32 × ST)) (hrec : ∃ r, rec22 90 (nI (k + 1)) (nI (a + 1)) σ = some (bI r, σ) ∧ (r = true ↔ OutN f y W k (gA σ 95) (a + 1))) : ∀ (n b : Nat), a < b → b ≤ KN f → KN f - b < n → ∃ r, k_X5_settlesn1_35 rec22 n 90 (nI (k + 1)) (nI a) (nI b) σ = some (bI r, σ) ∧ (r = true ↔ InN f y W k (gA σ 95) a b) := by
  have n10 : (nI 1 = nI 0) = False := eq_false (by decide)
  intro n
  induction n with
  | zero => intros; omega
  | succ n ih =>
    intro b hab hb hn
    rw [k_X5_settlesn1_35]
    by_cases c : KN f ≤ b
    · obtain ⟨r, r1, r2⟩ := hrec
      refine ⟨r, ?_, r2.trans ⟨fun z => Or.inr z, fun z => ?_⟩⟩
      · simp (disch := omega) only [↓mI_e, lit, ofN, bsm, nI_add, pk_mul, pk_sub, nI_e, nI_leE, nI_ltE, nI_mI, mI_nI, mI_lt, nlt_mI, mI_le, nle_mI, nI_addm, sh_b, bI_0, bI_1, bI_bI, ckZ_b, ckZ_n0, ckZ_n1, stIe, stJe, stZ_n0, stZ_n1, rm_nI, dv_nI, if_true, if_false, if_pos, if_neg, rf0, rf1, rf5, rf6, rf7, rf8, rf9, rf20, rf23, rf24, rf25, rf26, rf29, rf31, rf33, rf34, rf35, rf37, rf38, rf41, rf42, rf43,  h.1, c]
        exact r1
      · rcases z with ⟨b', h1, h2, _⟩ | z
        · omega
        · exact z
    · have hu := c_isOfUse hK hR h ha (show b < KN f by omega)
      obtain ⟨r, r1, r2⟩ := ih (b + 1) (by omega) (by omega) (by omega)
      by_cases c2 : prN f y a b = true ∧ gA σ 95 a ≠ gA σ 95 b
      · rw [c2.1, decide_eq_true c2.2, Bool.and_self] at hu
        obtain ⟨q, q1, q2⟩ := c_sb_1 hK hP hR hk h hT ha (show b < KN f by omega)
        cases q
        · refine ⟨r, ?_, r2.trans (InN_s (fun z => absurd (q2.mpr z.2.2) (by decide)))⟩
          simp (disch := omega) only [↓mI_e, lit, ofN, bsm, nI_add, pk_mul, pk_sub, nI_e, nI_leE, nI_ltE, nI_mI, mI_nI, mI_lt, nlt_mI, mI_le, nle_mI, nI_addm, sh_b, bI_0, bI_1, bI_bI, ckZ_b, ckZ_n0, ckZ_n1, stIe, stJe, stZ_n0, stZ_n1, rm_nI, dv_nI, if_true, if_false, if_pos, if_neg, rf0, rf1, rf5, rf6, rf7, rf8, rf9, rf20, rf23, rf24, rf25, rf26, rf29, rf31, rf33, rf34, rf35, rf37, rf38, rf41, rf42, rf43,  h.1, c, hu, bI_t, n10, Nat.add_sub_cancel, q1, bI_f, k_X5_settlesn1_69]
          exact r1
        · refine ⟨true, ?_, fun _ => Or.inl ⟨b, Nat.le_refl _, by omega, c2.1, c2.2, q2.mp rfl⟩, fun _ => rfl⟩
          simp (disch := omega) only [↓mI_e, lit, ofN, bsm, nI_add, pk_mul, pk_sub, nI_e, nI_leE, nI_ltE, nI_mI, mI_nI, mI_lt, nlt_mI, mI_le, nle_mI, nI_addm, sh_b, bI_0, bI_1, bI_bI, ckZ_b, ckZ_n0, ckZ_n1, stIe, stJe, stZ_n0, stZ_n1, rm_nI, dv_nI, if_true, if_false, if_pos, if_neg, rf0, rf1, rf5, rf6, rf7, rf8, rf9, rf20, rf23, rf24, rf25, rf26, rf29, rf31, rf33, rf34, rf35, rf37, rf38, rf41, rf42, rf43,  h.1, c, hu, bI_t, n10, Nat.add_sub_cancel, q1]
      · have hu' : (prN f y a b && decide (gA σ 95 a ≠ gA σ 95 b)) = false := by
          cases z : prN f y a b
          · rfl
          · rw [Bool.true_and]
            exact decide_eq_false (fun w => c2 ⟨z, w⟩)
        rw [hu'] at hu
        refine ⟨r, ?_, r2.trans (InN_s (fun z => c2 ⟨z.1, z.2.1⟩))⟩
        simp (disch := omega) only [↓mI_e, lit, ofN, bsm, nI_add, pk_mul, pk_sub, nI_e, nI_leE, nI_ltE, nI_mI, mI_nI, mI_lt, nlt_mI, mI_le, nle_mI, nI_addm, sh_b, bI_0, bI_1, bI_bI, ckZ_b, ckZ_n0, ckZ_n1, stIe, stJe, stZ_n0, stZ_n1, rm_nI, dv_nI, if_true, if_false, if_pos, if_neg, rf0, rf1, rf5, rf6, rf7, rf8, rf9, rf20, rf23, rf24, rf25, rf26, rf29, rf31, rf33, rf34, rf35, rf37, rf38, rf41, rf42, rf43,  h.1, c, hu, bI_f, k_X5_settlesn1_69]
        exact r1
theorem c_22_1 {f : Nat → Int32} (hK : KN f ≤ 6) {y P : Nat} {Rb W : Nat → Int32} (hP : ∀ k, P.testBit k = isPl f y k) (hR : ∀ a, a < KN f → ∀ b, bt (Rb a) b = prN f y a b) {k : Nat} (hk : k ≤ 0) {σ : ST} (h : NCx f P Rb W σ) (hT : TB f (gA σ 95)) : ∀ (n a : Nat), a ≤ KN f → KN f - a < n → ∃ r, k_X5_settlesn1_22 n 90 (nI (k + 1)) (nI a) σ = some (bI r, σ) ∧ (r = true ↔ OutN f y W k (gA σ 95) a) := by
  obtain ⟨F, hF, hF2⟩ : ∃ F, FU = F ∧ 5000 < F := ⟨FU, rfl, by unfold FU; omega⟩
  intro n
  induction n with
  | zero => intros; omega
  | succ n ih =>
    intro a ha hn
    rw [k_X5_settlesn1_22, hF]
    by_cases c : KN f ≤ a
    · refine ⟨false, ?_, fun z => absurd z (by decide), fun ⟨a', b', h1, h2, h3, _⟩ => by omega⟩
      simp (disch := omega) only [↓mI_e, lit, ofN, bsm, nI_add, pk_mul, pk_sub, nI_e, nI_leE, nI_ltE, nI_mI, mI_nI, mI_lt, nlt_mI, mI_le, nle_mI, nI_addm, sh_b, bI_0, bI_1, bI_bI, ckZ_b, ckZ_n0, ckZ_n1, stIe, stJe, stZ_n0, stZ_n1, rm_nI, dv_nI, if_true, if_false, if_pos, if_neg, rf0, rf1, rf5, rf6, rf7, rf8, rf9, rf20, rf23, rf24, rf25, rf26, rf29, rf31, rf33, rf34, rf35, rf37, rf38, rf41, rf42, rf43,  h.1, c]
      rfl
    · obtain ⟨r, r1, r2⟩ := c_35_1 hK hP hR hk h hT (show a < KN f by omega) (k_X5_settlesn1_22 n) (ih (a + 1) (by omega) (by omega)) FU (a + 1) (by omega) (by omega) (by unfold FU; omega)
      rw [hF] at r1
      refine ⟨r, ?_, r2.trans InN_out⟩
      simp (disch := omega) only [↓mI_e, lit, ofN, bsm, nI_add, pk_mul, pk_sub, nI_e, nI_leE, nI_ltE, nI_mI, mI_nI, mI_lt, nlt_mI, mI_le, nle_mI, nI_addm, sh_b, bI_0, bI_1, bI_bI, ckZ_b, ckZ_n0, ckZ_n1, stIe, stJe, stZ_n0, stZ_n1, rm_nI, dv_nI, if_true, if_false, if_pos, if_neg, rf0, rf1, rf5, rf6, rf7, rf8, rf9, rf20, rf23, rf24, rf25, rf26, rf29, rf31, rf33, rf34, rf35, rf37, rf38, rf41, rf42, rf43,  h.1, c]
      exact r1
theorem c_st_1 {f : Nat → Int32} (hK : KN f ≤ 6) {y P : Nat} {Rb W : Nat → Int32} (hP : ∀ k, P.testBit k = isPl f y k) (hR : ∀ a, a < KN f → ∀ b, bt (Rb a) b = prN f y a b) {k : Nat} (hk : k ≤ 1) {σ : ST} (h : NCx f P Rb W σ) (hT : TB f (gA σ 95)) : ∃ r, f_X5_settlesn1 90 (nI k) σ = some (bI r, σ) ∧ (r = true ↔ Stl f y W k (gA σ 95)) := by
  have hl := c_lack hK hP h hT
  have hll := lck_le f y W (gA σ 95)
  by_cases c : lck f y W (gA σ 95) = 0
  · refine ⟨true, ?_, fun _ => ?_, fun _ => rfl⟩
    · simp (disch := omega) only [↓mI_e, lit, ofN, bsm, nI_add, pk_mul, pk_sub, nI_e, nI_leE, nI_ltE, nI_mI, mI_nI, mI_lt, nlt_mI, mI_le, nle_mI, nI_addm, sh_b, bI_0, bI_1, bI_bI, ckZ_b, ckZ_n0, ckZ_n1, stIe, stJe, stZ_n0, stZ_n1, rm_nI, dv_nI, if_true, if_false, if_pos, if_neg, rf0, rf1, rf5, rf6, rf7, rf8, rf9, rf20, rf23, rf24, rf25, rf26, rf29, rf31, rf33, rf34, rf35, rf37, rf38, rf41, rf42, rf43,  f_X5_settlesn1, hl, c]
      rfl
    · cases k with
      | zero => exact c
      | succ k => exact Or.inl c
  · by_cases c2 : lck f y W (gA σ 95) ≤ 2 * k
    · obtain ⟨j, rfl⟩ : ∃ j, k = j + 1 := ⟨k - 1, by omega⟩
      obtain ⟨r, r1, r2⟩ := c_22_1 hK hP hR (show j ≤ 0 by omega) h hT FU 0 (by omega) (by unfold FU; omega)
      refine ⟨r, ?_, r2.trans (Stl_out c c2)⟩
      simp (disch := omega) only [↓mI_e, lit, ofN, bsm, nI_add, pk_mul, pk_sub, nI_e, nI_leE, nI_ltE, nI_mI, mI_nI, mI_lt, nlt_mI, mI_le, nle_mI, nI_addm, sh_b, bI_0, bI_1, bI_bI, ckZ_b, ckZ_n0, ckZ_n1, stIe, stJe, stZ_n0, stZ_n1, rm_nI, dv_nI, if_true, if_false, if_pos, if_neg, rf0, rf1, rf5, rf6, rf7, rf8, rf9, rf20, rf23, rf24, rf25, rf26, rf29, rf31, rf33, rf34, rf35, rf37, rf38, rf41, rf42, rf43,  f_X5_settlesn1, hl, c, c2]
      exact r1
    · refine ⟨false, ?_, fun z => absurd z (by decide), fun z => absurd (Stl_lck _ _ z) c2⟩
      simp (disch := omega) only [↓mI_e, lit, ofN, bsm, nI_add, pk_mul, pk_sub, nI_e, nI_leE, nI_ltE, nI_mI, mI_nI, mI_lt, nlt_mI, mI_le, nle_mI, nI_addm, sh_b, bI_0, bI_1, bI_bI, ckZ_b, ckZ_n0, ckZ_n1, stIe, stJe, stZ_n0, stZ_n1, rm_nI, dv_nI, if_true, if_false, if_pos, if_neg, rf0, rf1, rf5, rf6, rf7, rf8, rf9, rf20, rf23, rf24, rf25, rf26, rf29, rf31, rf33, rf34, rf35, rf37, rf38, rf41, rf42, rf43,  f_X5_settlesn1, hl, c, c2]
      rfl
theorem c_sb_2 {f : Nat → Int32} (hK : KN f ≤ 6) {y P : Nat} {Rb W : Nat → Int32} (hP : ∀ k, P.testBit k = isPl f y k) (hR : ∀ a, a < KN f → ∀ b, bt (Rb a) b = prN f y a b) {k : Nat} (hk : k ≤ 1) {σ : ST} (h : NCx f P Rb W σ) (hT : TB f (gA σ 95)) {a b : Nat} (ha : a < KN f) (hb : b < KN f) : ∃ r, f_X5_settlesBehindn2 90 (nI a) (nI b) (nI k) σ = some (bI r, σ) ∧ (r = true ↔ Stl f y W k (nt (gA σ 95) a b)) := by
  obtain ⟨r, r1, r2⟩ := c_st_1 hK hP hR hk (NCx_95 h (nt (gA σ 95) a b)) (by rw [gA_sA, if_pos rfl]; exact TB_nt hT ha hb)
  rw [gA_sA, if_pos rfl] at r2
  refine ⟨r, ?_, r2⟩
  have e1 : gA (sA σ 95 (upd (gA σ 95) a (gA σ 95 a ||| gA σ 95 b))) 95 = upd (gA σ 95) a (gA σ 95 a ||| gA σ 95 b) := by rw [gA_sA, if_pos rfl]
  have e2 : gA (sA σ 95 (nt (gA σ 95) a b)) 95 = nt (gA σ 95) a b := by rw [gA_sA, if_pos rfl]
  have e3 : gA (sA σ 95 (upd (nt (gA σ 95) a b) a (gA σ 95 a))) 95 = upd (nt (gA σ 95) a b) a (gA σ 95 a) := by rw [gA_sA, if_pos rfl]
  simp (disch := omega) only [↓mI_e, lit, ofN, bsm, nI_add, pk_mul, pk_sub, nI_e, nI_leE, nI_ltE, nI_mI, mI_nI, mI_lt, nlt_mI, mI_le, nle_mI, nI_addm, sh_b, bI_0, bI_1, bI_bI, ckZ_b, ckZ_n0, ckZ_n1, stIe, stJe, stZ_n0, stZ_n1, rm_nI, dv_nI, if_true, if_false, if_pos, if_neg, rf0, rf1, rf5, rf6, rf7, rf8, rf9, rf20, rf23, rf24, rf25, rf26, rf29, rf31, rf33, rf34, rf35, rf37, rf38, rf41, rf42, rf43,  f_X5_settlesBehindn2, nc_3, l95, s95, e1, sA_sA, upd_nt, r1, e2, e3, upd_un, sA_self]
theorem c_35_2 {f : Nat → Int32} (hK : KN f ≤ 6) {y P : Nat} {Rb W : Nat → Int32} (hP : ∀ k, P.testBit k = isPl f y k) (hR : ∀ a, a < KN f → ∀ b, bt (Rb a) b = prN f y a b) {k : Nat} (hk : k ≤ 1) {σ : ST} (h : NCx f P Rb W σ) (hT : TB f (gA σ 95)) {a : Nat} (ha : a < KN f) (rec22 : Nat → Int32 → Int32 → ST → Option (Int32 × ST)) (hrec : ∃ r, rec22 90 (nI (k + 1)) (nI (a + 1)) σ = some (bI r, σ) ∧ (r = true ↔ OutN f y W k (gA σ 95) (a + 1))) : ∀ (n b : Nat), a < b → b ≤ KN f → KN f - b < n → ∃ r, k_X5_settlesn2_35 rec22 n 90 (nI (k + 1)) (nI a) (nI b) σ = some (bI r, σ) ∧ (r = true ↔ InN f y W k (gA σ 95) a b) := by
  have n10 : (nI 1 = nI 0) = False := eq_false (by decide)
  intro n
  induction n with
  | zero => intros; omega
  | succ n ih =>
    intro b hab hb hn
    rw [k_X5_settlesn2_35]
    by_cases c : KN f ≤ b
    · obtain ⟨r, r1, r2⟩ := hrec
      refine ⟨r, ?_, r2.trans ⟨fun z => Or.inr z, fun z => ?_⟩⟩
      · simp (disch := omega) only [↓mI_e, lit, ofN, bsm, nI_add, pk_mul, pk_sub, nI_e, nI_leE, nI_ltE, nI_mI, mI_nI, mI_lt, nlt_mI, mI_le, nle_mI, nI_addm, sh_b, bI_0, bI_1, bI_bI, ckZ_b, ckZ_n0, ckZ_n1, stIe, stJe, stZ_n0, stZ_n1, rm_nI, dv_nI, if_true, if_false, if_pos, if_neg, rf0, rf1, rf5, rf6, rf7, rf8, rf9, rf20, rf23, rf24, rf25, rf26, rf29, rf31, rf33, rf34, rf35, rf37, rf38, rf41, rf42, rf43,  h.1, c]
        exact r1
      · rcases z with ⟨b', h1, h2, _⟩ | z
        · omega
        · exact z
    · have hu := c_isOfUse hK hR h ha (show b < KN f by omega)
      obtain ⟨r, r1, r2⟩ := ih (b + 1) (by omega) (by omega) (by omega)
      by_cases c2 : prN f y a b = true ∧ gA σ 95 a ≠ gA σ 95 b
      · rw [c2.1, decide_eq_true c2.2, Bool.and_self] at hu
        obtain ⟨q, q1, q2⟩ := c_sb_2 hK hP hR hk h hT ha (show b < KN f by omega)
        cases q
        · refine ⟨r, ?_, r2.trans (InN_s (fun z => absurd (q2.mpr z.2.2) (by decide)))⟩
          simp (disch := omega) only [↓mI_e, lit, ofN, bsm, nI_add, pk_mul, pk_sub, nI_e, nI_leE, nI_ltE, nI_mI, mI_nI, mI_lt, nlt_mI, mI_le, nle_mI, nI_addm, sh_b, bI_0, bI_1, bI_bI, ckZ_b, ckZ_n0, ckZ_n1, stIe, stJe, stZ_n0, stZ_n1, rm_nI, dv_nI, if_true, if_false, if_pos, if_neg, rf0, rf1, rf5, rf6, rf7, rf8, rf9, rf20, rf23, rf24, rf25, rf26, rf29, rf31, rf33, rf34, rf35, rf37, rf38, rf41, rf42, rf43,  h.1, c, hu, bI_t, n10, Nat.add_sub_cancel, q1, bI_f, k_X5_settlesn2_69]
          exact r1
        · refine ⟨true, ?_, fun _ => Or.inl ⟨b, Nat.le_refl _, by omega, c2.1, c2.2, q2.mp rfl⟩, fun _ => rfl⟩
          simp (disch := omega) only [↓mI_e, lit, ofN, bsm, nI_add, pk_mul, pk_sub, nI_e, nI_leE, nI_ltE, nI_mI, mI_nI, mI_lt, nlt_mI, mI_le, nle_mI, nI_addm, sh_b, bI_0, bI_1, bI_bI, ckZ_b, ckZ_n0, ckZ_n1, stIe, stJe, stZ_n0, stZ_n1, rm_nI, dv_nI, if_true, if_false, if_pos, if_neg, rf0, rf1, rf5, rf6, rf7, rf8, rf9, rf20, rf23, rf24, rf25, rf26, rf29, rf31, rf33, rf34, rf35, rf37, rf38, rf41, rf42, rf43,  h.1, c, hu, bI_t, n10, Nat.add_sub_cancel, q1]
      · have hu' : (prN f y a b && decide (gA σ 95 a ≠ gA σ 95 b)) = false := by
          cases z : prN f y a b
          · rfl
          · rw [Bool.true_and]
            exact decide_eq_false (fun w => c2 ⟨z, w⟩)
        rw [hu'] at hu
        refine ⟨r, ?_, r2.trans (InN_s (fun z => c2 ⟨z.1, z.2.1⟩))⟩
        simp (disch := omega) only [↓mI_e, lit, ofN, bsm, nI_add, pk_mul, pk_sub, nI_e, nI_leE, nI_ltE, nI_mI, mI_nI, mI_lt, nlt_mI, mI_le, nle_mI, nI_addm, sh_b, bI_0, bI_1, bI_bI, ckZ_b, ckZ_n0, ckZ_n1, stIe, stJe, stZ_n0, stZ_n1, rm_nI, dv_nI, if_true, if_false, if_pos, if_neg, rf0, rf1, rf5, rf6, rf7, rf8, rf9, rf20, rf23, rf24, rf25, rf26, rf29, rf31, rf33, rf34, rf35, rf37, rf38, rf41, rf42, rf43,  h.1, c, hu, bI_f, k_X5_settlesn2_69]
        exact r1
theorem c_22_2 {f : Nat → Int32} (hK : KN f ≤ 6) {y P : Nat} {Rb W : Nat → Int32} (hP : ∀ k, P.testBit k = isPl f y k) (hR : ∀ a, a < KN f → ∀ b, bt (Rb a) b = prN f y a b) {k : Nat} (hk : k ≤ 1) {σ : ST} (h : NCx f P Rb W σ) (hT : TB f (gA σ 95)) : ∀ (n a : Nat), a ≤ KN f → KN f - a < n → ∃ r, k_X5_settlesn2_22 n 90 (nI (k + 1)) (nI a) σ = some (bI r, σ) ∧ (r = true ↔ OutN f y W k (gA σ 95) a) := by
  obtain ⟨F, hF, hF2⟩ : ∃ F, FU = F ∧ 5000 < F := ⟨FU, rfl, by unfold FU; omega⟩
  intro n
  induction n with
  | zero => intros; omega
  | succ n ih =>
    intro a ha hn
    rw [k_X5_settlesn2_22, hF]
    by_cases c : KN f ≤ a
    · refine ⟨false, ?_, fun z => absurd z (by decide), fun ⟨a', b', h1, h2, h3, _⟩ => by omega⟩
      simp (disch := omega) only [↓mI_e, lit, ofN, bsm, nI_add, pk_mul, pk_sub, nI_e, nI_leE, nI_ltE, nI_mI, mI_nI, mI_lt, nlt_mI, mI_le, nle_mI, nI_addm, sh_b, bI_0, bI_1, bI_bI, ckZ_b, ckZ_n0, ckZ_n1, stIe, stJe, stZ_n0, stZ_n1, rm_nI, dv_nI, if_true, if_false, if_pos, if_neg, rf0, rf1, rf5, rf6, rf7, rf8, rf9, rf20, rf23, rf24, rf25, rf26, rf29, rf31, rf33, rf34, rf35, rf37, rf38, rf41, rf42, rf43,  h.1, c]
      rfl
    · obtain ⟨r, r1, r2⟩ := c_35_2 hK hP hR hk h hT (show a < KN f by omega) (k_X5_settlesn2_22 n) (ih (a + 1) (by omega) (by omega)) FU (a + 1) (by omega) (by omega) (by unfold FU; omega)
      rw [hF] at r1
      refine ⟨r, ?_, r2.trans InN_out⟩
      simp (disch := omega) only [↓mI_e, lit, ofN, bsm, nI_add, pk_mul, pk_sub, nI_e, nI_leE, nI_ltE, nI_mI, mI_nI, mI_lt, nlt_mI, mI_le, nle_mI, nI_addm, sh_b, bI_0, bI_1, bI_bI, ckZ_b, ckZ_n0, ckZ_n1, stIe, stJe, stZ_n0, stZ_n1, rm_nI, dv_nI, if_true, if_false, if_pos, if_neg, rf0, rf1, rf5, rf6, rf7, rf8, rf9, rf20, rf23, rf24, rf25, rf26, rf29, rf31, rf33, rf34, rf35, rf37, rf38, rf41, rf42, rf43,  h.1, c]
      exact r1
theorem c_st_2 {f : Nat → Int32} (hK : KN f ≤ 6) {y P : Nat} {Rb W : Nat → Int32} (hP : ∀ k, P.testBit k = isPl f y k) (hR : ∀ a, a < KN f → ∀ b, bt (Rb a) b = prN f y a b) {k : Nat} (hk : k ≤ 2) {σ : ST} (h : NCx f P Rb W σ) (hT : TB f (gA σ 95)) : ∃ r, f_X5_settlesn2 90 (nI k) σ = some (bI r, σ) ∧ (r = true ↔ Stl f y W k (gA σ 95)) := by
  have hl := c_lack hK hP h hT
  have hll := lck_le f y W (gA σ 95)
  by_cases c : lck f y W (gA σ 95) = 0
  · refine ⟨true, ?_, fun _ => ?_, fun _ => rfl⟩
    · simp (disch := omega) only [↓mI_e, lit, ofN, bsm, nI_add, pk_mul, pk_sub, nI_e, nI_leE, nI_ltE, nI_mI, mI_nI, mI_lt, nlt_mI, mI_le, nle_mI, nI_addm, sh_b, bI_0, bI_1, bI_bI, ckZ_b, ckZ_n0, ckZ_n1, stIe, stJe, stZ_n0, stZ_n1, rm_nI, dv_nI, if_true, if_false, if_pos, if_neg, rf0, rf1, rf5, rf6, rf7, rf8, rf9, rf20, rf23, rf24, rf25, rf26, rf29, rf31, rf33, rf34, rf35, rf37, rf38, rf41, rf42, rf43,  f_X5_settlesn2, hl, c]
      rfl
    · cases k with
      | zero => exact c
      | succ k => exact Or.inl c
  · by_cases c2 : lck f y W (gA σ 95) ≤ 2 * k
    · obtain ⟨j, rfl⟩ : ∃ j, k = j + 1 := ⟨k - 1, by omega⟩
      obtain ⟨r, r1, r2⟩ := c_22_2 hK hP hR (show j ≤ 1 by omega) h hT FU 0 (by omega) (by unfold FU; omega)
      refine ⟨r, ?_, r2.trans (Stl_out c c2)⟩
      simp (disch := omega) only [↓mI_e, lit, ofN, bsm, nI_add, pk_mul, pk_sub, nI_e, nI_leE, nI_ltE, nI_mI, mI_nI, mI_lt, nlt_mI, mI_le, nle_mI, nI_addm, sh_b, bI_0, bI_1, bI_bI, ckZ_b, ckZ_n0, ckZ_n1, stIe, stJe, stZ_n0, stZ_n1, rm_nI, dv_nI, if_true, if_false, if_pos, if_neg, rf0, rf1, rf5, rf6, rf7, rf8, rf9, rf20, rf23, rf24, rf25, rf26, rf29, rf31, rf33, rf34, rf35, rf37, rf38, rf41, rf42, rf43,  f_X5_settlesn2, hl, c, c2]
      exact r1
    · refine ⟨false, ?_, fun z => absurd z (by decide), fun z => absurd (Stl_lck _ _ z) c2⟩
      simp (disch := omega) only [↓mI_e, lit, ofN, bsm, nI_add, pk_mul, pk_sub, nI_e, nI_leE, nI_ltE, nI_mI, mI_nI, mI_lt, nlt_mI, mI_le, nle_mI, nI_addm, sh_b, bI_0, bI_1, bI_bI, ckZ_b, ckZ_n0, ckZ_n1, stIe, stJe, stZ_n0, stZ_n1, rm_nI, dv_nI, if_true, if_false, if_pos, if_neg, rf0, rf1, rf5, rf6, rf7, rf8, rf9, rf20, rf23, rf24, rf25, rf26, rf29, rf31, rf33, rf34, rf35, rf37, rf38, rf41, rf42, rf43,  f_X5_settlesn2, hl, c, c2]
      rfl
theorem c_sb_3 {f : Nat → Int32} (hK : KN f ≤ 6) {y P : Nat} {Rb W : Nat → Int32} (hP : ∀ k, P.testBit k = isPl f y k) (hR : ∀ a, a < KN f → ∀ b, bt (Rb a) b = prN f y a b) {k : Nat} (hk : k ≤ 2) {σ : ST} (h : NCx f P Rb W σ) (hT : TB f (gA σ 95)) {a b : Nat} (ha : a < KN f) (hb : b < KN f) : ∃ r, f_X5_settlesBehindn3 90 (nI a) (nI b) (nI k) σ = some (bI r, σ) ∧ (r = true ↔ Stl f y W k (nt (gA σ 95) a b)) := by
  obtain ⟨r, r1, r2⟩ := c_st_2 hK hP hR hk (NCx_95 h (nt (gA σ 95) a b)) (by rw [gA_sA, if_pos rfl]; exact TB_nt hT ha hb)
  rw [gA_sA, if_pos rfl] at r2
  refine ⟨r, ?_, r2⟩
  have e1 : gA (sA σ 95 (upd (gA σ 95) a (gA σ 95 a ||| gA σ 95 b))) 95 = upd (gA σ 95) a (gA σ 95 a ||| gA σ 95 b) := by rw [gA_sA, if_pos rfl]
  have e2 : gA (sA σ 95 (nt (gA σ 95) a b)) 95 = nt (gA σ 95) a b := by rw [gA_sA, if_pos rfl]
  have e3 : gA (sA σ 95 (upd (nt (gA σ 95) a b) a (gA σ 95 a))) 95 = upd (nt (gA σ 95) a b) a (gA σ 95 a) := by rw [gA_sA, if_pos rfl]
  simp (disch := omega) only [↓mI_e, lit, ofN, bsm, nI_add, pk_mul, pk_sub, nI_e, nI_leE, nI_ltE, nI_mI, mI_nI, mI_lt, nlt_mI, mI_le, nle_mI, nI_addm, sh_b, bI_0, bI_1, bI_bI, ckZ_b, ckZ_n0, ckZ_n1, stIe, stJe, stZ_n0, stZ_n1, rm_nI, dv_nI, if_true, if_false, if_pos, if_neg, rf0, rf1, rf5, rf6, rf7, rf8, rf9, rf20, rf23, rf24, rf25, rf26, rf29, rf31, rf33, rf34, rf35, rf37, rf38, rf41, rf42, rf43,  f_X5_settlesBehindn3, nc_3, l95, s95, e1, sA_sA, upd_nt, r1, e2, e3, upd_un, sA_self]
theorem c_35_3 {f : Nat → Int32} (hK : KN f ≤ 6) {y P : Nat} {Rb W : Nat → Int32} (hP : ∀ k, P.testBit k = isPl f y k) (hR : ∀ a, a < KN f → ∀ b, bt (Rb a) b = prN f y a b) {k : Nat} (hk : k ≤ 2) {σ : ST} (h : NCx f P Rb W σ) (hT : TB f (gA σ 95)) {a : Nat} (ha : a < KN f) (rec22 : Nat → Int32 → Int32 → ST → Option (Int32 × ST)) (hrec : ∃ r, rec22 90 (nI (k + 1)) (nI (a + 1)) σ = some (bI r, σ) ∧ (r = true ↔ OutN f y W k (gA σ 95) (a + 1))) : ∀ (n b : Nat), a < b → b ≤ KN f → KN f - b < n → ∃ r, k_X5_settlesn3_35 rec22 n 90 (nI (k + 1)) (nI a) (nI b) σ = some (bI r, σ) ∧ (r = true ↔ InN f y W k (gA σ 95) a b) := by
  have n10 : (nI 1 = nI 0) = False := eq_false (by decide)
  intro n
  induction n with
  | zero => intros; omega
  | succ n ih =>
    intro b hab hb hn
    rw [k_X5_settlesn3_35]
    by_cases c : KN f ≤ b
    · obtain ⟨r, r1, r2⟩ := hrec
      refine ⟨r, ?_, r2.trans ⟨fun z => Or.inr z, fun z => ?_⟩⟩
      · simp (disch := omega) only [↓mI_e, lit, ofN, bsm, nI_add, pk_mul, pk_sub, nI_e, nI_leE, nI_ltE, nI_mI, mI_nI, mI_lt, nlt_mI, mI_le, nle_mI, nI_addm, sh_b, bI_0, bI_1, bI_bI, ckZ_b, ckZ_n0, ckZ_n1, stIe, stJe, stZ_n0, stZ_n1, rm_nI, dv_nI, if_true, if_false, if_pos, if_neg, rf0, rf1, rf5, rf6, rf7, rf8, rf9, rf20, rf23, rf24, rf25, rf26, rf29, rf31, rf33, rf34, rf35, rf37, rf38, rf41, rf42, rf43,  h.1, c]
        exact r1
      · rcases z with ⟨b', h1, h2, _⟩ | z
        · omega
        · exact z
    · have hu := c_isOfUse hK hR h ha (show b < KN f by omega)
      obtain ⟨r, r1, r2⟩ := ih (b + 1) (by omega) (by omega) (by omega)
      by_cases c2 : prN f y a b = true ∧ gA σ 95 a ≠ gA σ 95 b
      · rw [c2.1, decide_eq_true c2.2, Bool.and_self] at hu
        obtain ⟨q, q1, q2⟩ := c_sb_3 hK hP hR hk h hT ha (show b < KN f by omega)
        cases q
        · refine ⟨r, ?_, r2.trans (InN_s (fun z => absurd (q2.mpr z.2.2) (by decide)))⟩
          simp (disch := omega) only [↓mI_e, lit, ofN, bsm, nI_add, pk_mul, pk_sub, nI_e, nI_leE, nI_ltE, nI_mI, mI_nI, mI_lt, nlt_mI, mI_le, nle_mI, nI_addm, sh_b, bI_0, bI_1, bI_bI, ckZ_b, ckZ_n0, ckZ_n1, stIe, stJe, stZ_n0, stZ_n1, rm_nI, dv_nI, if_true, if_false, if_pos, if_neg, rf0, rf1, rf5, rf6, rf7, rf8, rf9, rf20, rf23, rf24, rf25, rf26, rf29, rf31, rf33, rf34, rf35, rf37, rf38, rf41, rf42, rf43,  h.1, c, hu, bI_t, n10, Nat.add_sub_cancel, q1, bI_f, k_X5_settlesn3_69]
          exact r1
        · refine ⟨true, ?_, fun _ => Or.inl ⟨b, Nat.le_refl _, by omega, c2.1, c2.2, q2.mp rfl⟩, fun _ => rfl⟩
          simp (disch := omega) only [↓mI_e, lit, ofN, bsm, nI_add, pk_mul, pk_sub, nI_e, nI_leE, nI_ltE, nI_mI, mI_nI, mI_lt, nlt_mI, mI_le, nle_mI, nI_addm, sh_b, bI_0, bI_1, bI_bI, ckZ_b, ckZ_n0, ckZ_n1, stIe, stJe, stZ_n0, stZ_n1, rm_nI, dv_nI, if_true, if_false, if_pos, if_neg, rf0, rf1, rf5, rf6, rf7, rf8, rf9, rf20, rf23, rf24, rf25, rf26, rf29, rf31, rf33, rf34, rf35, rf37, rf38, rf41, rf42, rf43,  h.1, c, hu, bI_t, n10, Nat.add_sub_cancel, q1]
      · have hu' : (prN f y a b && decide (gA σ 95 a ≠ gA σ 95 b)) = false := by
          cases z : prN f y a b
          · rfl
          · rw [Bool.true_and]
            exact decide_eq_false (fun w => c2 ⟨z, w⟩)
        rw [hu'] at hu
        refine ⟨r, ?_, r2.trans (InN_s (fun z => c2 ⟨z.1, z.2.1⟩))⟩
        simp (disch := omega) only [↓mI_e, lit, ofN, bsm, nI_add, pk_mul, pk_sub, nI_e, nI_leE, nI_ltE, nI_mI, mI_nI, mI_lt, nlt_mI, mI_le, nle_mI, nI_addm, sh_b, bI_0, bI_1, bI_bI, ckZ_b, ckZ_n0, ckZ_n1, stIe, stJe, stZ_n0, stZ_n1, rm_nI, dv_nI, if_true, if_false, if_pos, if_neg, rf0, rf1, rf5, rf6, rf7, rf8, rf9, rf20, rf23, rf24, rf25, rf26, rf29, rf31, rf33, rf34, rf35, rf37, rf38, rf41, rf42, rf43,  h.1, c, hu, bI_f, k_X5_settlesn3_69]
        exact r1
theorem c_22_3 {f : Nat → Int32} (hK : KN f ≤ 6) {y P : Nat} {Rb W : Nat → Int32} (hP : ∀ k, P.testBit k = isPl f y k) (hR : ∀ a, a < KN f → ∀ b, bt (Rb a) b = prN f y a b) {k : Nat} (hk : k ≤ 2) {σ : ST} (h : NCx f P Rb W σ) (hT : TB f (gA σ 95)) : ∀ (n a : Nat), a ≤ KN f → KN f - a < n → ∃ r, k_X5_settlesn3_22 n 90 (nI (k + 1)) (nI a) σ = some (bI r, σ) ∧ (r = true ↔ OutN f y W k (gA σ 95) a) := by
  obtain ⟨F, hF, hF2⟩ : ∃ F, FU = F ∧ 5000 < F := ⟨FU, rfl, by unfold FU; omega⟩
  intro n
  induction n with
  | zero => intros; omega
  | succ n ih =>
    intro a ha hn
    rw [k_X5_settlesn3_22, hF]
    by_cases c : KN f ≤ a
    · refine ⟨false, ?_, fun z => absurd z (by decide), fun ⟨a', b', h1, h2, h3, _⟩ => by omega⟩
      simp (disch := omega) only [↓mI_e, lit, ofN, bsm, nI_add, pk_mul, pk_sub, nI_e, nI_leE, nI_ltE, nI_mI, mI_nI, mI_lt, nlt_mI, mI_le, nle_mI, nI_addm, sh_b, bI_0, bI_1, bI_bI, ckZ_b, ckZ_n0, ckZ_n1, stIe, stJe, stZ_n0, stZ_n1, rm_nI, dv_nI, if_true, if_false, if_pos, if_neg, rf0, rf1, rf5, rf6, rf7, rf8, rf9, rf20, rf23, rf24, rf25, rf26, rf29, rf31, rf33, rf34, rf35, rf37, rf38, rf41, rf42, rf43,  h.1, c]
      rfl
    · obtain ⟨r, r1, r2⟩ := c_35_3 hK hP hR hk h hT (show a < KN f by omega) (k_X5_settlesn3_22 n) (ih (a + 1) (by omega) (by omega)) FU (a + 1) (by omega) (by omega) (by unfold FU; omega)
      rw [hF] at r1
      refine ⟨r, ?_, r2.trans InN_out⟩
      simp (disch := omega) only [↓mI_e, lit, ofN, bsm, nI_add, pk_mul, pk_sub, nI_e, nI_leE, nI_ltE, nI_mI, mI_nI, mI_lt, nlt_mI, mI_le, nle_mI, nI_addm, sh_b, bI_0, bI_1, bI_bI, ckZ_b, ckZ_n0, ckZ_n1, stIe, stJe, stZ_n0, stZ_n1, rm_nI, dv_nI, if_true, if_false, if_pos, if_neg, rf0, rf1, rf5, rf6, rf7, rf8, rf9, rf20, rf23, rf24, rf25, rf26, rf29, rf31, rf33, rf34, rf35, rf37, rf38, rf41, rf42, rf43,  h.1, c]
      exact r1
theorem c_st_3 {f : Nat → Int32} (hK : KN f ≤ 6) {y P : Nat} {Rb W : Nat → Int32} (hP : ∀ k, P.testBit k = isPl f y k) (hR : ∀ a, a < KN f → ∀ b, bt (Rb a) b = prN f y a b) {k : Nat} (hk : k ≤ 3) {σ : ST} (h : NCx f P Rb W σ) (hT : TB f (gA σ 95)) : ∃ r, f_X5_settlesn3 90 (nI k) σ = some (bI r, σ) ∧ (r = true ↔ Stl f y W k (gA σ 95)) := by
  have hl := c_lack hK hP h hT
  have hll := lck_le f y W (gA σ 95)
  by_cases c : lck f y W (gA σ 95) = 0
  · refine ⟨true, ?_, fun _ => ?_, fun _ => rfl⟩
    · simp (disch := omega) only [↓mI_e, lit, ofN, bsm, nI_add, pk_mul, pk_sub, nI_e, nI_leE, nI_ltE, nI_mI, mI_nI, mI_lt, nlt_mI, mI_le, nle_mI, nI_addm, sh_b, bI_0, bI_1, bI_bI, ckZ_b, ckZ_n0, ckZ_n1, stIe, stJe, stZ_n0, stZ_n1, rm_nI, dv_nI, if_true, if_false, if_pos, if_neg, rf0, rf1, rf5, rf6, rf7, rf8, rf9, rf20, rf23, rf24, rf25, rf26, rf29, rf31, rf33, rf34, rf35, rf37, rf38, rf41, rf42, rf43,  f_X5_settlesn3, hl, c]
      rfl
    · cases k with
      | zero => exact c
      | succ k => exact Or.inl c
  · by_cases c2 : lck f y W (gA σ 95) ≤ 2 * k
    · obtain ⟨j, rfl⟩ : ∃ j, k = j + 1 := ⟨k - 1, by omega⟩
      obtain ⟨r, r1, r2⟩ := c_22_3 hK hP hR (show j ≤ 2 by omega) h hT FU 0 (by omega) (by unfold FU; omega)
      refine ⟨r, ?_, r2.trans (Stl_out c c2)⟩
      simp (disch := omega) only [↓mI_e, lit, ofN, bsm, nI_add, pk_mul, pk_sub, nI_e, nI_leE, nI_ltE, nI_mI, mI_nI, mI_lt, nlt_mI, mI_le, nle_mI, nI_addm, sh_b, bI_0, bI_1, bI_bI, ckZ_b, ckZ_n0, ckZ_n1, stIe, stJe, stZ_n0, stZ_n1, rm_nI, dv_nI, if_true, if_false, if_pos, if_neg, rf0, rf1, rf5, rf6, rf7, rf8, rf9, rf20, rf23, rf24, rf25, rf26, rf29, rf31, rf33, rf34, rf35, rf37, rf38, rf41, rf42, rf43,  f_X5_settlesn3, hl, c, c2]
      exact r1
    · refine ⟨false, ?_, fun z => absurd z (by decide), fun z => absurd (Stl_lck _ _ z) c2⟩
      simp (disch := omega) only [↓mI_e, lit, ofN, bsm, nI_add, pk_mul, pk_sub, nI_e, nI_leE, nI_ltE, nI_mI, mI_nI, mI_lt, nlt_mI, mI_le, nle_mI, nI_addm, sh_b, bI_0, bI_1, bI_bI, ckZ_b, ckZ_n0, ckZ_n1, stIe, stJe, stZ_n0, stZ_n1, rm_nI, dv_nI, if_true, if_false, if_pos, if_neg, rf0, rf1, rf5, rf6, rf7, rf8, rf9, rf20, rf23, rf24, rf25, rf26, rf29, rf31, rf33, rf34, rf35, rf37, rf38, rf41, rf42, rf43,  f_X5_settlesn3, hl, c, c2]
      rfl
theorem c_sb_4 {f : Nat → Int32} (hK : KN f ≤ 6) {y P : Nat} {Rb W : Nat → Int32} (hP : ∀ k, P.testBit k = isPl f y k) (hR : ∀ a, a < KN f → ∀ b, bt (Rb a) b = prN f y a b) {k : Nat} (hk : k ≤ 3) {σ : ST} (h : NCx f P Rb W σ) (hT : TB f (gA σ 95)) {a b : Nat} (ha : a < KN f) (hb : b < KN f) : ∃ r, f_X5_settlesBehindn4 90 (nI a) (nI b) (nI k) σ = some (bI r, σ) ∧ (r = true ↔ Stl f y W k (nt (gA σ 95) a b)) := by
  obtain ⟨r, r1, r2⟩ := c_st_3 hK hP hR hk (NCx_95 h (nt (gA σ 95) a b)) (by rw [gA_sA, if_pos rfl]; exact TB_nt hT ha hb)
  rw [gA_sA, if_pos rfl] at r2
  refine ⟨r, ?_, r2⟩
  have e1 : gA (sA σ 95 (upd (gA σ 95) a (gA σ 95 a ||| gA σ 95 b))) 95 = upd (gA σ 95) a (gA σ 95 a ||| gA σ 95 b) := by rw [gA_sA, if_pos rfl]
  have e2 : gA (sA σ 95 (nt (gA σ 95) a b)) 95 = nt (gA σ 95) a b := by rw [gA_sA, if_pos rfl]
  have e3 : gA (sA σ 95 (upd (nt (gA σ 95) a b) a (gA σ 95 a))) 95 = upd (nt (gA σ 95) a b) a (gA σ 95 a) := by rw [gA_sA, if_pos rfl]
  simp (disch := omega) only [↓mI_e, lit, ofN, bsm, nI_add, pk_mul, pk_sub, nI_e, nI_leE, nI_ltE, nI_mI, mI_nI, mI_lt, nlt_mI, mI_le, nle_mI, nI_addm, sh_b, bI_0, bI_1, bI_bI, ckZ_b, ckZ_n0, ckZ_n1, stIe, stJe, stZ_n0, stZ_n1, rm_nI, dv_nI, if_true, if_false, if_pos, if_neg, rf0, rf1, rf5, rf6, rf7, rf8, rf9, rf20, rf23, rf24, rf25, rf26, rf29, rf31, rf33, rf34, rf35, rf37, rf38, rf41, rf42, rf43,  f_X5_settlesBehindn4, nc_3, l95, s95, e1, sA_sA, upd_nt, r1, e2, e3, upd_un, sA_self]
theorem c_35_4 {f : Nat → Int32} (hK : KN f ≤ 6) {y P : Nat} {Rb W : Nat → Int32} (hP : ∀ k, P.testBit k = isPl f y k) (hR : ∀ a, a < KN f → ∀ b, bt (Rb a) b = prN f y a b) {k : Nat} (hk : k ≤ 3) {σ : ST} (h : NCx f P Rb W σ) (hT : TB f (gA σ 95)) {a : Nat} (ha : a < KN f) (rec22 : Nat → Int32 → Int32 → ST → Option (Int32 × ST)) (hrec : ∃ r, rec22 90 (nI (k + 1)) (nI (a + 1)) σ = some (bI r, σ) ∧ (r = true ↔ OutN f y W k (gA σ 95) (a + 1))) : ∀ (n b : Nat), a < b → b ≤ KN f → KN f - b < n → ∃ r, k_X5_settlesn4_35 rec22 n 90 (nI (k + 1)) (nI a) (nI b) σ = some (bI r, σ) ∧ (r = true ↔ InN f y W k (gA σ 95) a b) := by
  have n10 : (nI 1 = nI 0) = False := eq_false (by decide)
  intro n
  induction n with
  | zero => intros; omega
  | succ n ih =>
    intro b hab hb hn
    rw [k_X5_settlesn4_35]
    by_cases c : KN f ≤ b
    · obtain ⟨r, r1, r2⟩ := hrec
      refine ⟨r, ?_, r2.trans ⟨fun z => Or.inr z, fun z => ?_⟩⟩
      · simp (disch := omega) only [↓mI_e, lit, ofN, bsm, nI_add, pk_mul, pk_sub, nI_e, nI_leE, nI_ltE, nI_mI, mI_nI, mI_lt, nlt_mI, mI_le, nle_mI, nI_addm, sh_b, bI_0, bI_1, bI_bI, ckZ_b, ckZ_n0, ckZ_n1, stIe, stJe, stZ_n0, stZ_n1, rm_nI, dv_nI, if_true, if_false, if_pos, if_neg, rf0, rf1, rf5, rf6, rf7, rf8, rf9, rf20, rf23, rf24, rf25, rf26, rf29, rf31, rf33, rf34, rf35, rf37, rf38, rf41, rf42, rf43,  h.1, c]
        exact r1
      · rcases z with ⟨b', h1, h2, _⟩ | z
        · omega
        · exact z
    · have hu := c_isOfUse hK hR h ha (show b < KN f by omega)
      obtain ⟨r, r1, r2⟩ := ih (b + 1) (by omega) (by omega) (by omega)
      by_cases c2 : prN f y a b = true ∧ gA σ 95 a ≠ gA σ 95 b
      · rw [c2.1, decide_eq_true c2.2, Bool.and_self] at hu
        obtain ⟨q, q1, q2⟩ := c_sb_4 hK hP hR hk h hT ha (show b < KN f by omega)
        cases q
        · refine ⟨r, ?_, r2.trans (InN_s (fun z => absurd (q2.mpr z.2.2) (by decide)))⟩
          simp (disch := omega) only [↓mI_e, lit, ofN, bsm, nI_add, pk_mul, pk_sub, nI_e, nI_leE, nI_ltE, nI_mI, mI_nI, mI_lt, nlt_mI, mI_le, nle_mI, nI_addm, sh_b, bI_0, bI_1, bI_bI, ckZ_b, ckZ_n0, ckZ_n1, stIe, stJe, stZ_n0, stZ_n1, rm_nI, dv_nI, if_true, if_false, if_pos, if_neg, rf0, rf1, rf5, rf6, rf7, rf8, rf9, rf20, rf23, rf24, rf25, rf26, rf29, rf31, rf33, rf34, rf35, rf37, rf38, rf41, rf42, rf43,  h.1, c, hu, bI_t, n10, Nat.add_sub_cancel, q1, bI_f, k_X5_settlesn4_69]
          exact r1
        · refine ⟨true, ?_, fun _ => Or.inl ⟨b, Nat.le_refl _, by omega, c2.1, c2.2, q2.mp rfl⟩, fun _ => rfl⟩
          simp (disch := omega) only [↓mI_e, lit, ofN, bsm, nI_add, pk_mul, pk_sub, nI_e, nI_leE, nI_ltE, nI_mI, mI_nI, mI_lt, nlt_mI, mI_le, nle_mI, nI_addm, sh_b, bI_0, bI_1, bI_bI, ckZ_b, ckZ_n0, ckZ_n1, stIe, stJe, stZ_n0, stZ_n1, rm_nI, dv_nI, if_true, if_false, if_pos, if_neg, rf0, rf1, rf5, rf6, rf7, rf8, rf9, rf20, rf23, rf24, rf25, rf26, rf29, rf31, rf33, rf34, rf35, rf37, rf38, rf41, rf42, rf43,  h.1, c, hu, bI_t, n10, Nat.add_sub_cancel, q1]
      · have hu' : (prN f y a b && decide (gA σ 95 a ≠ gA σ 95 b)) = false := by
          cases z : prN f y a b
          · rfl
          · rw [Bool.true_and]
            exact decide_eq_false (fun w => c2 ⟨z, w⟩)
        rw [hu'] at hu
        refine ⟨r, ?_, r2.trans (InN_s (fun z => c2 ⟨z.1, z.2.1⟩))⟩
        simp (disch := omega) only [↓mI_e, lit, ofN, bsm, nI_add, pk_mul, pk_sub, nI_e, nI_leE, nI_ltE, nI_mI, mI_nI, mI_lt, nlt_mI, mI_le, nle_mI, nI_addm, sh_b, bI_0, bI_1, bI_bI, ckZ_b, ckZ_n0, ckZ_n1, stIe, stJe, stZ_n0, stZ_n1, rm_nI, dv_nI, if_true, if_false, if_pos, if_neg, rf0, rf1, rf5, rf6, rf7, rf8, rf9, rf20, rf23, rf24, rf25, rf26, rf29, rf31, rf33, rf34, rf35, rf37, rf38, rf41, rf42, rf43,  h.1, c, hu, bI_f, k_X5_settlesn4_69]
        exact r1
theorem c_22_4 {f : Nat → Int32} (hK : KN f ≤ 6) {y P : Nat} {Rb W : Nat → Int32} (hP : ∀ k, P.testBit k = isPl f y k) (hR : ∀ a, a < KN f → ∀ b, bt (Rb a) b = prN f y a b) {k : Nat} (hk : k ≤ 3) {σ : ST} (h : NCx f P Rb W σ) (hT : TB f (gA σ 95)) : ∀ (n a : Nat), a ≤ KN f → KN f - a < n → ∃ r, k_X5_settlesn4_22 n 90 (nI (k + 1)) (nI a) σ = some (bI r, σ) ∧ (r = true ↔ OutN f y W k (gA σ 95) a) := by
  obtain ⟨F, hF, hF2⟩ : ∃ F, FU = F ∧ 5000 < F := ⟨FU, rfl, by unfold FU; omega⟩
  intro n
  induction n with
  | zero => intros; omega
  | succ n ih =>
    intro a ha hn
    rw [k_X5_settlesn4_22, hF]
    by_cases c : KN f ≤ a
    · refine ⟨false, ?_, fun z => absurd z (by decide), fun ⟨a', b', h1, h2, h3, _⟩ => by omega⟩
      simp (disch := omega) only [↓mI_e, lit, ofN, bsm, nI_add, pk_mul, pk_sub, nI_e, nI_leE, nI_ltE, nI_mI, mI_nI, mI_lt, nlt_mI, mI_le, nle_mI, nI_addm, sh_b, bI_0, bI_1, bI_bI, ckZ_b, ckZ_n0, ckZ_n1, stIe, stJe, stZ_n0, stZ_n1, rm_nI, dv_nI, if_true, if_false, if_pos, if_neg, rf0, rf1, rf5, rf6, rf7, rf8, rf9, rf20, rf23, rf24, rf25, rf26, rf29, rf31, rf33, rf34, rf35, rf37, rf38, rf41, rf42, rf43,  h.1, c]
      rfl
    · obtain ⟨r, r1, r2⟩ := c_35_4 hK hP hR hk h hT (show a < KN f by omega) (k_X5_settlesn4_22 n) (ih (a + 1) (by omega) (by omega)) FU (a + 1) (by omega) (by omega) (by unfold FU; omega)
      rw [hF] at r1
      refine ⟨r, ?_, r2.trans InN_out⟩
      simp (disch := omega) only [↓mI_e, lit, ofN, bsm, nI_add, pk_mul, pk_sub, nI_e, nI_leE, nI_ltE, nI_mI, mI_nI, mI_lt, nlt_mI, mI_le, nle_mI, nI_addm, sh_b, bI_0, bI_1, bI_bI, ckZ_b, ckZ_n0, ckZ_n1, stIe, stJe, stZ_n0, stZ_n1, rm_nI, dv_nI, if_true, if_false, if_pos, if_neg, rf0, rf1, rf5, rf6, rf7, rf8, rf9, rf20, rf23, rf24, rf25, rf26, rf29, rf31, rf33, rf34, rf35, rf37, rf38, rf41, rf42, rf43,  h.1, c]
      exact r1
theorem c_st_4 {f : Nat → Int32} (hK : KN f ≤ 6) {y P : Nat} {Rb W : Nat → Int32} (hP : ∀ k, P.testBit k = isPl f y k) (hR : ∀ a, a < KN f → ∀ b, bt (Rb a) b = prN f y a b) {k : Nat} (hk : k ≤ 4) {σ : ST} (h : NCx f P Rb W σ) (hT : TB f (gA σ 95)) : ∃ r, f_X5_settlesn4 90 (nI k) σ = some (bI r, σ) ∧ (r = true ↔ Stl f y W k (gA σ 95)) := by
  have hl := c_lack hK hP h hT
  have hll := lck_le f y W (gA σ 95)
  by_cases c : lck f y W (gA σ 95) = 0
  · refine ⟨true, ?_, fun _ => ?_, fun _ => rfl⟩
    · simp (disch := omega) only [↓mI_e, lit, ofN, bsm, nI_add, pk_mul, pk_sub, nI_e, nI_leE, nI_ltE, nI_mI, mI_nI, mI_lt, nlt_mI, mI_le, nle_mI, nI_addm, sh_b, bI_0, bI_1, bI_bI, ckZ_b, ckZ_n0, ckZ_n1, stIe, stJe, stZ_n0, stZ_n1, rm_nI, dv_nI, if_true, if_false, if_pos, if_neg, rf0, rf1, rf5, rf6, rf7, rf8, rf9, rf20, rf23, rf24, rf25, rf26, rf29, rf31, rf33, rf34, rf35, rf37, rf38, rf41, rf42, rf43,  f_X5_settlesn4, hl, c]
      rfl
    · cases k with
      | zero => exact c
      | succ k => exact Or.inl c
  · by_cases c2 : lck f y W (gA σ 95) ≤ 2 * k
    · obtain ⟨j, rfl⟩ : ∃ j, k = j + 1 := ⟨k - 1, by omega⟩
      obtain ⟨r, r1, r2⟩ := c_22_4 hK hP hR (show j ≤ 3 by omega) h hT FU 0 (by omega) (by unfold FU; omega)
      refine ⟨r, ?_, r2.trans (Stl_out c c2)⟩
      simp (disch := omega) only [↓mI_e, lit, ofN, bsm, nI_add, pk_mul, pk_sub, nI_e, nI_leE, nI_ltE, nI_mI, mI_nI, mI_lt, nlt_mI, mI_le, nle_mI, nI_addm, sh_b, bI_0, bI_1, bI_bI, ckZ_b, ckZ_n0, ckZ_n1, stIe, stJe, stZ_n0, stZ_n1, rm_nI, dv_nI, if_true, if_false, if_pos, if_neg, rf0, rf1, rf5, rf6, rf7, rf8, rf9, rf20, rf23, rf24, rf25, rf26, rf29, rf31, rf33, rf34, rf35, rf37, rf38, rf41, rf42, rf43,  f_X5_settlesn4, hl, c, c2]
      exact r1
    · refine ⟨false, ?_, fun z => absurd z (by decide), fun z => absurd (Stl_lck _ _ z) c2⟩
      simp (disch := omega) only [↓mI_e, lit, ofN, bsm, nI_add, pk_mul, pk_sub, nI_e, nI_leE, nI_ltE, nI_mI, mI_nI, mI_lt, nlt_mI, mI_le, nle_mI, nI_addm, sh_b, bI_0, bI_1, bI_bI, ckZ_b, ckZ_n0, ckZ_n1, stIe, stJe, stZ_n0, stZ_n1, rm_nI, dv_nI, if_true, if_false, if_pos, if_neg, rf0, rf1, rf5, rf6, rf7, rf8, rf9, rf20, rf23, rf24, rf25, rf26, rf29, rf31, rf33, rf34, rf35, rf37, rf38, rf41, rf42, rf43,  f_X5_settlesn4, hl, c, c2]
      rfl
theorem c_fewest_8 {f : Nat → Int32} (hK : KN f ≤ 6) {y P : Nat} {Rb W : Nat → Int32} (hP : ∀ k, P.testBit k = isPl f y k) (hR : ∀ a, a < KN f → ∀ b, bt (Rb a) b = prN f y a b) {σ : ST} (h : NCx f P Rb W σ) (hT : TB f (gA σ 95)) : ∀ (n m : Nat), m ≤ 5 → 5 - m < n → (∀ j, j < m → ¬ Stl f y W j (gA σ 95)) → (∃ q, q ≤ 4 ∧ Stl f y W q (gA σ 95) ∧ (∀ j, j < q → ¬ Stl f y W j (gA σ 95)) ∧ k_X5_fewest_8 n 90 (nI m) σ = some (nI q, σ)) ∨ ((∀ j, j ≤ 4 → ¬ Stl f y W j (gA σ 95)) ∧ k_X5_fewest_8 n 90 (nI m) σ = some (mI, σ)) := by
  have n10 : (nI 1 = nI 0) = False := eq_false (by decide)
  intro n
  induction n with
  | zero => intros; omega
  | succ n ih =>
    intro m hm hn hp
    rw [k_X5_fewest_8]
    by_cases c : 4 < m
    · refine Or.inr ⟨fun j hj => hp j (by omega), ?_⟩
      simp (disch := omega) only [↓mI_e, lit, ofN, bsm, nI_add, pk_mul, pk_sub, nI_e, nI_leE, nI_ltE, nI_mI, mI_nI, mI_lt, nlt_mI, mI_le, nle_mI, nI_addm, sh_b, bI_0, bI_1, bI_bI, ckZ_b, ckZ_n0, ckZ_n1, stIe, stJe, stZ_n0, stZ_n1, rm_nI, dv_nI, if_true, if_false, if_pos, if_neg, rf0, rf1, rf5, rf6, rf7, rf8, rf9, rf20, rf23, rf24, rf25, rf26, rf29, rf31, rf33, rf34, rf35, rf37, rf38, rf41, rf42, rf43,  c]
    · obtain ⟨r, r1, r2⟩ := c_st_4 hK hP hR (show m ≤ 4 by omega) h hT
      cases r
      · have hno : ¬ Stl f y W m (gA σ 95) := fun z => absurd (r2.mpr z) (by decide)
        have h1 := ih (m + 1) (by omega) (by omega) (fun j hj => by
          by_cases e : j = m
          · rw [e]; exact hno
          · exact hp j (by omega))
        simp (disch := omega) only [↓mI_e, lit, ofN, bsm, nI_add, pk_mul, pk_sub, nI_e, nI_leE, nI_ltE, nI_mI, mI_nI, mI_lt, nlt_mI, mI_le, nle_mI, nI_addm, sh_b, bI_0, bI_1, bI_bI, ckZ_b, ckZ_n0, ckZ_n1, stIe, stJe, stZ_n0, stZ_n1, rm_nI, dv_nI, if_true, if_false, if_pos, if_neg, rf0, rf1, rf5, rf6, rf7, rf8, rf9, rf20, rf23, rf24, rf25, rf26, rf29, rf31, rf33, rf34, rf35, rf37, rf38, rf41, rf42, rf43,  c, r1, bI_f]
        exact h1
      · refine Or.inl ⟨m, by omega, r2.mp rfl, hp, ?_⟩
        simp (disch := omega) only [↓mI_e, lit, ofN, bsm, nI_add, pk_mul, pk_sub, nI_e, nI_leE, nI_ltE, nI_mI, mI_nI, mI_lt, nlt_mI, mI_le, nle_mI, nI_addm, sh_b, bI_0, bI_1, bI_bI, ckZ_b, ckZ_n0, ckZ_n1, stIe, stJe, stZ_n0, stZ_n1, rm_nI, dv_nI, if_true, if_false, if_pos, if_neg, rf0, rf1, rf5, rf6, rf7, rf8, rf9, rf20, rf23, rf24, rf25, rf26, rf29, rf31, rf33, rf34, rf35, rf37, rf38, rf41, rf42, rf43,  c, r1, bI_t, n10]
