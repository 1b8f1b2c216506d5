/-! NIGHTS: the class makes ready -/
theorem nc_0 : LC.2.1 0 10 = 90 := rfl
theorem nc_1 : LC.2.1 90 0 = 91 := rfl
theorem nc_2 : LC.2.1 90 1 = 94 := rfl
theorem nc_3 : LC.2.1 90 2 = 95 := rfl
theorem nc_4 : LC.2.1 90 3 = 96 := rfl
theorem l94 {σ : ST} {k : Nat} (h : k < 64) : ldA LC σ 94 (nI k) = some (gA σ 94 k) := la 64 rfl h (by decide)
theorem s94 {σ : ST} {k : Nat} {v : Int32} (h : k < 64) : stA LC σ 94 (nI k) v = some (sA σ 94 (upd (gA σ 94) k v)) := sa 64 rfl h (by decide)
theorem l95 {σ : ST} {k : Nat} (h : k < 6) : ldA LC σ 95 (nI k) = some (gA σ 95 k) := la 6 rfl h (by decide)
theorem s95 {σ : ST} {k : Nat} {v : Int32} (h : k < 6) : stA LC σ 95 (nI k) v = some (sA σ 95 (upd (gA σ 95) k v)) := sa 6 rfl h (by decide)
theorem l96 {σ : ST} {k : Nat} (h : k < 6) : ldA LC σ 96 (nI k) = some (gA σ 96 k) := la 6 rfl h (by decide)
theorem s96 {σ : ST} {k : Nat} {v : Int32} (h : k < 6) : stA LC σ 96 (nI k) v = some (sA σ 96 (upd (gA σ 96) k v)) := sa 6 rfl h (by decide)
theorem an_11 : nI 1 &&& nI 1 = nI 1 := rfl
theorem an_01 : nI 0 &&& nI 1 = nI 0 := rfl
def oneB (k : Nat) : Int32 := nI 1 <<< (nI k &&& nI 31)
theorem c_nb_26 {f : Nat → Int32} {y P : Nat} (hy : y < YN f) (hP : ∀ k, P.testBit k = isPl f y k) (σ0 : ST) {B : Nat} {g : Nat → Int64} (hW : RelW B (wv σ0 wM) f g) : ∀ (n k : Nat) (σ : ST), k ≤ KN f → KN f - k < n → Sq noE [] σ0 σ → gI σ 90 4 = nI (KN f) → gI σ 90 5 = nI P → (∀ j, j < k → gA σ 95 j = oneB j ∧ ∀ b, bt (gA σ 96 j) b = prN f y j b) → ∃ σ1, k_X5_begin_26 n 90 wM (nI y) (nI k) σ = k_X5_begin_78 FU 90 wM (nI y) (nI 0) σ1 ∧ Sq noE [] σ0 σ1 ∧ gI σ1 90 4 = nI (KN f) ∧ gI σ1 90 5 = nI P ∧ (∀ j, j < KN f → gA σ1 95 j = oneB j ∧ ∀ b, bt (gA σ1 96 j) b = prN f y j b) := by
  have hK := hW.1.1.1
  obtain ⟨F, hF, hF2⟩ : ∃ F, FU = F ∧ 5000 < F := ⟨FU, rfl, by unfold FU; omega⟩
  rw [hF]
  intro n
  induction n with
  | zero => intros; omega
  | succ n ih =>
    intro k σ hk hn i1 i2 i3 i4
    rw [k_X5_begin_26, hF]
    by_cases c : KN f ≤ k
    · have : k = KN f := by omega
      subst this
      refine ⟨σ, ?_, i1, i2, i3, i4⟩
      simp (disch := omega) only [↓mI_e, lit, ofN, bsm, nI_add, pk_mul, pk_sub, nI_e, nI_leE, nI_ltE, nI_mI, mI_nI, mI_lt, nlt_mI, mI_le, nle_mI, nI_addm, sh_b, bI_0, bI_1, bI_bI, ckZ_b, ckZ_n0, ckZ_n1, stIe, stJe, stZ_n0, stZ_n1, rm_nI, dv_nI, if_true, if_false, if_pos, if_neg, rf0, rf1, rf5, rf6, rf7, rf8, rf9, rf20, rf23, rf24, rf25, rf26, rf29, rf31, rf33, rf34, rf35, rf37, rf38, rf41, rf42, rf43,  i2]
    · have eb : bt (nI P) k = isPl f y k := by rw [bt_nI P (by omega)]; exact hP k
      have st : ∀ x : Int32, (∀ b, bt x b = prN f y k b) → ∃ σ1, k_X5_begin_26 n 90 wM (nI y) (nI (k + 1)) (sA (sA σ 95 (upd (gA σ 95) k (oneB k))) 96 (upd (gA (sA σ 95 (upd (gA σ 95) k (oneB k))) 96) k x)) = k_X5_begin_78 F 90 wM (nI y) (nI 0) σ1 ∧ Sq noE [] σ0 σ1 ∧ gI σ1 90 4 = nI (KN f) ∧ gI σ1 90 5 = nI P ∧ (∀ j, j < KN f → gA σ1 95 j = oneB j ∧ ∀ b, bt (gA σ1 96 j) b = prN f y j b) := fun x hx => by
        refine ih (k + 1) _ (by omega) (by omega) ((i1.sA _ rfl).sA _ rfl) i2 i3 (fun j hj => ?_)
        rw [gA_sA, if_neg (by decide), gA_sA, if_pos rfl, gA_sA, if_pos rfl, gA_sA, if_neg (by decide), upd_at, upd_at]
        by_cases e : j = k
        · subst e
          rw [if_pos rfl, if_pos rfl]
          exact ⟨rfl, hx⟩
        · rw [if_neg e, if_neg e]
          exact i4 j (by omega)
      have e5 : gI (sA σ 95 (upd (gA σ 95) k (oneB k))) 90 5 = nI P := i3
      cases cp : isPl f y k
      · rw [cp] at eb
        simp (disch := omega) only [↓mI_e, lit, ofN, bsm, nI_add, pk_mul, pk_sub, nI_e, nI_leE, nI_ltE, nI_mI, mI_nI, mI_lt, nlt_mI, mI_le, nle_mI, nI_addm, sh_b, bI_0, bI_1, bI_bI, ckZ_b, ckZ_n0, ckZ_n1, stIe, stJe, stZ_n0, stZ_n1, rm_nI, dv_nI, if_true, if_false, if_pos, if_neg, rf0, rf1, rf5, rf6, rf7, rf8, rf9, rf20, rf23, rf24, rf25, rf26, rf29, rf31, rf33, rf34, rf35, rf37, rf38, rf41, rf42, rf43,  i2, c, nc_3, nc_4, s95, show nI 1 <<< (nI k &&& nI 31) = oneB k from rfl, e5, eb, k_X5_begin_69, s96]
        refine st (nI 0) (fun b => ?_)
        unfold prN
        rw [cp, bt_n0]; rfl
      · rw [cp] at eb
        have i1' : Sq noE [] σ0 (sA σ 95 (upd (gA σ 95) k (oneB k))) := i1.sA _ rfl
        obtain ⟨p, p1, p2⟩ := c_placesReached wM_w (σ := sA σ 95 (upd (gA σ 95) k (oneB k))) (f := f) (by rw [wv_Sq i1']; exact hW.1) (by rw [wv_Sq i1']; exact hW.2.1) hy (a := k) (by omega)
        simp (disch := omega) only [↓mI_e, lit, ofN, bsm, nI_add, pk_mul, pk_sub, nI_e, nI_leE, nI_ltE, nI_mI, mI_nI, mI_lt, nlt_mI, mI_le, nle_mI, nI_addm, sh_b, bI_0, bI_1, bI_bI, ckZ_b, ckZ_n0, ckZ_n1, stIe, stJe, stZ_n0, stZ_n1, rm_nI, dv_nI, if_true, if_false, if_pos, if_neg, rf0, rf1, rf5, rf6, rf7, rf8, rf9, rf20, rf23, rf24, rf25, rf26, rf29, rf31, rf33, rf34, rf35, rf37, rf38, rf41, rf42, rf43,  i2, c, nc_3, nc_4, s95, show nI 1 <<< (nI k &&& nI 31) = oneB k from rfl, e5, eb, Bool.true_eq_false, p1, k_X5_begin_69, s96]
        refine st p (fun b => ?_)
        unfold prN
        rw [cp, p2]; rfl
/-- the joins of all sets of places -/
theorem c_nb_78 {B : Nat} (hB : B < 2 ^ 31) {f : Nat → Int32} {g : Nat → Int64} {σ0 : ST} (hW : RelW B (wv σ0 wM) f g) {y P : Nat} (hy : y < YN f) (hP : P < 64) : ∀ (n m : Nat) (σ : ST), m ≤ P + 1 → P + 1 - m < n → Sq noE [] σ0 σ → gI σ 90 5 = nI P → (∀ m', m' < m → m' &&& P = m' → CR (sm f y) σ 91 m' (jS f y (SM f (nI m')))) → ∃ F G, k_X5_begin_78 n 90 wM (nI y) (nI m) σ = k_X5_begin_116 FU 90 (nI 0) (sA (sA σ 92 F) 93 G) ∧ ∀ m', m' ≤ P → m' &&& P = m' → CR (sm f y) (sA (sA σ 92 F) 93 G) 91 m' (jS f y (SM f (nI m'))) := by
  have hY := hW.1.1.2.1
  obtain ⟨F, hF, hF2⟩ : ∃ F, FU = F ∧ 5000 < F := ⟨FU, rfl, by unfold FU; omega⟩
  rw [hF]
  intro n
  induction n with
  | zero => intros; omega
  | succ n ih =>
    intro m σ hm hn i1 i3 i4
    rw [k_X5_begin_78, hF]
    by_cases c : P < m
    · refine ⟨gA σ 92, gA σ 93, ?_, fun m' h1 h2 => ?_⟩
      · simp (disch := omega) only [↓mI_e, lit, ofN, bsm, nI_add, pk_mul, pk_sub, nI_e, nI_leE, nI_ltE, nI_mI, mI_nI, mI_lt, nlt_mI, mI_le, nle_mI, nI_addm, sh_b, bI_0, bI_1, bI_bI, ckZ_b, ckZ_n0, ckZ_n1, stIe, stJe, stZ_n0, stZ_n1, rm_nI, dv_nI, if_true, if_false, if_pos, if_neg, rf0, rf1, rf5, rf6, rf7, rf8, rf9, rf20, rf23, rf24, rf25, rf26, rf29, rf31, rf33, rf34, rf35, rf37, rf38, rf41, rf42, rf43,  i3, c]
        rw [sA_self, sA_self]
      · rw [sA_self, sA_self]
        exact i4 m' (by omega) h2
    · by_cases c3 : m &&& P = m
      · obtain ⟨r, F, G, j1, j2, j3, j4, j5⟩ := c_joinSet wM_w hB (y := y) (by omega) (nI m) (c := 91) (L := 384) (i := m) isC_n (by omega) (by unfold wM; omega) (σ := σ) (f := f) (g := g) (by rw [wv_Sq i1]; exact hW)
        have hj : ∀ k, k < 12 → jS f y (SM f (nI m)) k = r k := jn_eq j4
        obtain ⟨F2, G2, q1, q2⟩ := ih (m + 1) (sA (sA σ 92 F) 93 G) (by omega) (by omega) ((i1.sA _ rfl).sA _ rfl) i3 (fun m' h1 h2 => by
          by_cases e : m' = m
          · subst e
            exact CR_congr hj j2
          · intro k hk
            have h5 := i4 m' (by omega) h2 k hk
            have e1 : gA (sA (sA σ 92 F) 93 G) (91 + 1) (m' * 6 + k) = gA σ (91 + 1) (m' * 6 + k) := by
              rw [gA_sA, if_neg (by decide), gA_sA, if_pos rfl]
              exact (j5 _ (by omega)).1
            have e2 : gA (sA (sA σ 92 F) 93 G) (91 + 2) (m' * 6 + k) = gA σ (91 + 2) (m' * 6 + k) := by
              rw [gA_sA, if_pos rfl]
              exact (j5 _ (by omega)).2
            rw [e1, e2]; exact h5)
        have e3 : ∀ F2 G2 : Nat → Int32, sA (sA (sA (sA σ 92 F) 93 G) 92 F2) 93 G2 = sA (sA σ 92 F2) 93 G2 := fun F2 G2 => by
          rw [sA_comm _ (show (93 : Nat) ≠ 92 by decide), sA_sA, sA_sA]
        rw [e3] at q1 q2
        refine ⟨F2, G2, ?_, q2⟩
        simp (disch := omega) only [↓mI_e, lit, ofN, bsm, nI_add, pk_mul, pk_sub, nI_e, nI_leE, nI_ltE, nI_mI, mI_nI, mI_lt, nlt_mI, mI_le, nle_mI, nI_addm, sh_b, bI_0, bI_1, bI_bI, ckZ_b, ckZ_n0, ckZ_n1, stIe, stJe, stZ_n0, stZ_n1, rm_nI, dv_nI, if_true, if_false, if_pos, if_neg, rf0, rf1, rf5, rf6, rf7, rf8, rf9, rf20, rf23, rf24, rf25, rf26, rf29, rf31, rf33, rf34, rf35, rf37, rf38, rf41, rf42, rf43,  i3, c, sub_iff (show m < 64 by omega), c3, nc_1, j1, k_X5_begin_108]
        exact q1
      · obtain ⟨F2, G2, q1, q2⟩ := ih (m + 1) σ (by omega) (by omega) i1 i3 (fun m' h1 h2 => by
          by_cases e : m' = m
          · rw [e] at h2; exact absurd h2 c3
          · exact i4 m' (by omega) h2)
        refine ⟨F2, G2, ?_, q2⟩
        simp (disch := omega) only [↓mI_e, lit, ofN, bsm, nI_add, pk_mul, pk_sub, nI_e, nI_leE, nI_ltE, nI_mI, mI_nI, mI_lt, nlt_mI, mI_le, nle_mI, nI_addm, sh_b, bI_0, bI_1, bI_bI, ckZ_b, ckZ_n0, ckZ_n1, stIe, stJe, stZ_n0, stZ_n1, rm_nI, dv_nI, if_true, if_false, if_pos, if_neg, rf0, rf1, rf5, rf6, rf7, rf8, rf9, rf20, rf23, rf24, rf25, rf26, rf29, rf31, rf33, rf34, rf35, rf37, rf38, rf41, rf42, rf43,  i3, c, sub_iff (show m < 64 by omega), c3, k_X5_begin_108]
        exact q1
theorem c_nb_116 {f : Nat → Int32} {y P : Nat} (hP : P < 64) : ∀ (n m : Nat) (σ : ST), m ≤ P + 1 → P + 1 - m < n → gI σ 90 5 = nI P → (∀ m', m' ≤ P → m' &&& P = m' → CR (sm f y) σ 91 m' (jS f y (SM f (nI m')))) → (∀ m', m' < m → m' &&& P = m' → (gA σ 94 m' = nI 0 ↔ ¬ eqJ f y (nI m') (nI P))) → ∃ W, k_X5_begin_116 n 90 (nI m) σ = some (sA σ 94 W) ∧ ∀ m', m' ≤ P → m' &&& P = m' → (W m' = nI 0 ↔ ¬ eqJ f y (nI m') (nI P)) := by
  have n10 : (nI 1 = nI 0) = False := eq_false (by decide)
  intro n
  induction n with
  | zero => intros; omega
  | succ n ih =>
    intro m σ hm hn i3 i4 i5
    rw [k_X5_begin_116]
    by_cases c : P < m
    · refine ⟨gA σ 94, ?_, fun m' h1 h2 => i5 m' (by omega) h2⟩
      simp (disch := omega) only [↓mI_e, lit, ofN, bsm, nI_add, pk_mul, pk_sub, nI_e, nI_leE, nI_ltE, nI_mI, mI_nI, mI_lt, nlt_mI, mI_le, nle_mI, nI_addm, sh_b, bI_0, bI_1, bI_bI, ckZ_b, ckZ_n0, ckZ_n1, stIe, stJe, stZ_n0, stZ_n1, rm_nI, dv_nI, if_true, if_false, if_pos, if_neg, rf0, rf1, rf5, rf6, rf7, rf8, rf9, rf20, rf23, rf24, rf25, rf26, rf29, rf31, rf33, rf34, rf35, rf37, rf38, rf41, rf42, rf43,  i3, c]
      rw [sA_self]
    · have st : ∀ x : Int32, (m &&& P = m → (x = nI 0 ↔ ¬ eqJ f y (nI m) (nI P))) → ∃ W, k_X5_begin_116 n 90 (nI (m + 1)) (sA σ 94 (upd (gA σ 94) m x)) = some (sA σ 94 W) ∧ ∀ m', m' ≤ P → m' &&& P = m' → (W m' = nI 0 ↔ ¬ eqJ f y (nI m') (nI P)) := fun x hx => by
        obtain ⟨W, q1, q2⟩ := ih (m + 1) (sA σ 94 (upd (gA σ 94) m x)) (by omega) (by omega) i3 (fun m' h1 h2 k hk => by
          have h5 := i4 m' h1 h2 k hk
          have e1 : gA (sA σ 94 (upd (gA σ 94) m x)) (91 + 1) = gA σ (91 + 1) := by rw [gA_sA, if_neg (by decide)]
          have e2 : gA (sA σ 94 (upd (gA σ 94) m x)) (91 + 2) = gA σ (91 + 2) := by rw [gA_sA, if_neg (by decide)]
          rw [e1, e2]; exact h5) (fun m' h1 h2 => by
          rw [gA_sA, if_pos rfl, upd_at]
          by_cases e : m' = m
          · subst e; rw [if_pos rfl]; exact hx h2
          · rw [if_neg e]; exact i5 m' (by omega) h2)
        rw [sA_sA] at q1
        exact ⟨W, q1, q2⟩
      by_cases c3 : m &&& P = m
      · have hsm := c_isSame isC_n isC_n (i := m) (j := P) (by omega) (by omega) σ
        have hPP : P &&& P = P := Nat.and_self P
        have e1 := cr_ls (i4 m (by omega) c3) (i4 P (Nat.le_refl _) hPP)
        rw [e1] at hsm
        by_cases q : eqJ f y (nI m) (nI P)
        · have e2 : tl (jS f y (SM f (nI m))) (jS f y (SM f (nI P))) 12 = true := decide_eq_true q
          rw [e2] at hsm
          simp (disch := omega) only [↓mI_e, lit, ofN, bsm, nI_add, pk_mul, pk_sub, nI_e, nI_leE, nI_ltE, nI_mI, mI_nI, mI_lt, nlt_mI, mI_le, nle_mI, nI_addm, sh_b, bI_0, bI_1, bI_bI, ckZ_b, ckZ_n0, ckZ_n1, stIe, stJe, stZ_n0, stZ_n1, rm_nI, dv_nI, if_true, if_false, if_pos, if_neg, rf0, rf1, rf5, rf6, rf7, rf8, rf9, rf20, rf23, rf24, rf25, rf26, rf29, rf31, rf33, rf34, rf35, rf37, rf38, rf41, rf42, rf43,  i3, c, sub_iff (show m < 64 by omega), c3, nc_1, nc_2, hsm, bI_t, n10, k_X5_begin_164, an_11, s94]
          exact st (nI 1) (fun _ => ⟨fun z => absurd z (by decide), fun z => absurd q z⟩)
        · have e2 : tl (jS f y (SM f (nI m))) (jS f y (SM f (nI P))) 12 = false := decide_eq_false q
          rw [e2] at hsm
          simp (disch := omega) only [↓mI_e, lit, ofN, bsm, nI_add, pk_mul, pk_sub, nI_e, nI_leE, nI_ltE, nI_mI, mI_nI, mI_lt, nlt_mI, mI_le, nle_mI, nI_addm, sh_b, bI_0, bI_1, bI_bI, ckZ_b, ckZ_n0, ckZ_n1, stIe, stJe, stZ_n0, stZ_n1, rm_nI, dv_nI, if_true, if_false, if_pos, if_neg, rf0, rf1, rf5, rf6, rf7, rf8, rf9, rf20, rf23, rf24, rf25, rf26, rf29, rf31, rf33, rf34, rf35, rf37, rf38, rf41, rf42, rf43,  i3, c, sub_iff (show m < 64 by omega), c3, nc_1, nc_2, hsm, bI_f, k_X5_begin_163, k_X5_begin_164, an_01, s94]
          exact st (nI 0) (fun _ => ⟨fun _ => q, fun _ => rfl⟩)
      · simp (disch := omega) only [↓mI_e, lit, ofN, bsm, nI_add, pk_mul, pk_sub, nI_e, nI_leE, nI_ltE, nI_mI, mI_nI, mI_lt, nlt_mI, mI_le, nle_mI, nI_addm, sh_b, bI_0, bI_1, bI_bI, ckZ_b, ckZ_n0, ckZ_n1, stIe, stJe, stZ_n0, stZ_n1, rm_nI, dv_nI, if_true, if_false, if_pos, if_neg, rf0, rf1, rf5, rf6, rf7, rf8, rf9, rf20, rf23, rf24, rf25, rf26, rf29, rf31, rf33, rf34, rf35, rf37, rf38, rf41, rf42, rf43,  i3, c, sub_iff (show m < 64 by omega), c3, nc_2, k_X5_begin_163, k_X5_begin_164, an_01, s94]
        exact st (nI 0) (fun z => absurd z c3)
/-- what the search goes by -/
def NCx (f : Nat → Int32) (P : Nat) (Rb W : Nat → Int32) (σ : ST) : Prop := gI σ 90 4 = nI (KN f) ∧ gI σ 90 5 = nI P ∧ gA σ 96 = Rb ∧ gA σ 94 = W
theorem c_nbegin {B : Nat} (hB : B < 2 ^ 31) {f : Nat → Int32} {g : Nat → Int64} {σ : ST} (hW : RelW B (wv σ wM) f g) {y : Nat} (hy : y < YN f) : ∃ P Rb W σ1, f_X5_begin 90 wM (nI y) σ = some σ1 ∧ Sq noE [] σ σ1 ∧ NCx f P Rb W σ1 ∧ P < 64 ∧ (∀ k, P.testBit k = isPl f y k) ∧ (∀ a, a < KN f → ∀ b, bt (Rb a) b = prN f y a b) ∧ (∀ k, k < KN f → gA σ1 95 k = oneB k) ∧ ∀ m, m ≤ P → m &&& P = m → (W m = nI 0 ↔ ¬ eqJ f y (nI m) (nI P)) := by
  have hK := hW.1.1.1
  have hY := hW.1.1.2.1
  have hPb : ∀ k, (vN (gA σ (wM + 7) y)).testBit k = isPl f y k := fun k => hW.1.2.2.2.2.2.2.1 y hy k
  have e7 : gA σ (wM + 7) y = nI (vN (gA σ (wM + 7) y)) := (nI_vN _).symm
  have hlt : vN (gA σ (wM + 7) y) < 64 := by
    refine Nat.lt_pow_two_of_testBit (n := 6) _ (fun k hk => ?_)
    rw [hPb, isPl_no (by omega)]
  generalize vN (gA σ (wM + 7) y) = P at *
  have e6 : gI σ (wM + 1) 6 = nI (KN f) := hW.1.2.1.1.trans (eK f)
  have sq1 : Sq noE [] σ (sI (sI σ 90 4 (nI (KN f))) 90 5 (nI P)) := ((Sq.rf σ).sI _ rfl).sI _ rfl
  obtain ⟨σ1, a1, a2, a3, a4, a5⟩ := c_nb_26 hy hPb σ hW FU 0 (sI (sI σ 90 4 (nI (KN f))) 90 5 (nI P)) (by omega) (by unfold FU; omega) sq1 (by rw [gI_sI, if_neg (by decide), gI_sI, if_pos ⟨rfl, rfl⟩]) (by rw [gI_sI, if_pos ⟨rfl, rfl⟩]) (fun j hj => by omega)
  obtain ⟨F, G, b1, b2⟩ := c_nb_78 hB hW hy hlt FU 0 σ1 (by omega) (by unfold FU; omega) a2 a4 (fun m' h1 => by omega)
  obtain ⟨W, d1, d2⟩ := c_nb_116 (f := f) (y := y) hlt FU 0 (sA (sA σ1 92 F) 93 G) (by omega) (by unfold FU; omega) a4 b2 (fun m' h1 => by omega)
  refine ⟨P, gA σ1 96, W, sA (sA (sA σ1 92 F) 93 G) 94 W, ?_, ((a2.sA _ rfl).sA _ rfl).sA _ rfl, ⟨a3, a4, ?_, ?_⟩, hlt, hPb, fun a ha => (a5 a ha).2, fun k hk => ?_, d2⟩
  · have e7' : gA (sI σ 90 4 (nI (KN f))) (wM + 7) y = nI P := e7
    simp (disch := omega) only [↓mI_e, lit, ofN, bsm, nI_add, pk_mul, pk_sub, nI_e, nI_leE, nI_ltE, nI_mI, mI_nI, mI_lt, nlt_mI, mI_le, nle_mI, nI_addm, sh_b, bI_0, bI_1, bI_bI, ckZ_b, ckZ_n0, ckZ_n1, stIe, stJe, stZ_n0, stZ_n1, rm_nI, dv_nI, if_true, if_false, if_pos, if_neg, rf0, rf1, rf5, rf6, rf7, rf8, rf9, rf20, rf23, rf24, rf25, rf26, rf29, rf31, rf33, rf34, rf35, rf37, rf38, rf41, rf42, rf43,  f_X5_begin, w_0 wM_w, ws_5 wM_w, e6, lw7 wM_w, e7']
    rw [a1, b1, d1]
  · rw [gA_sA, if_neg (by decide), gA_sA, if_neg (by decide), gA_sA, if_neg (by decide)]
  · rw [gA_sA, if_pos rfl]
  · rw [gA_sA, if_neg (by decide), gA_sA, if_neg (by decide), gA_sA, if_neg (by decide)]
    exact (a5 k hk).1
