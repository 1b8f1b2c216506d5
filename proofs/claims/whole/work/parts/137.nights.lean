/-! NIGHTS: both -/
theorem r_doNights {B : Nat} (hB : B < 2 ^ 31) {f : Nat → Int32} (hWf : WFs f) {y M np : Nat} (hy : y < YN f) (hg : ∀ k, k < 6 → gv f k y ≤ 30) (hM : M ≤ 4) {pa pb : Nat → Nat} (hpr : PrR f y np pa pb) {τ0 τ : ST} (hnb : NB f np pa pb τ0 τ) {T : Nat → Int32} (hlv : LvR B f y T 0 (gA τ 1)) : ∃ b τ1, f_X12_doNights 0 (nI y) (nI M) τ = some (bI b, τ1) ∧ (b = true ↔ ExN f y M T) ∧ NB f np pa pb τ0 τ1 ∧ (b = false → LvR B f y T 0 (gA τ1 1)) := by
  have hK := hWf.1
  have hnp := hpr.1
  have hnb1 : NB f np pa pb τ0 (sA τ 17 (upd (gA τ 17) 0 mI)) := ⟨hnb.1, hnb.2.1, hnb.2.2.1, hnb.2.2.2.sA _ rfl⟩
  by_cases c : M = 0
  · subst c
    obtain ⟨b, g9, b1, b2⟩ := r_alikeOn hWf hy (l := 0) (by omega) (τ := sA τ 17 (upd (gA τ 17) 0 mI)) hnb1.1 hlv
    refine ⟨b, sA (sA τ 17 (upd (gA τ 17) 0 mI)) 9 g9, ?_, b2, ⟨hnb1.1, hnb1.2.1, hnb1.2.2.1, hnb1.2.2.2.sA _ rfl⟩, fun _ => hlv⟩
    simp (disch := omega) only [↓mI_e, lit, ofN, bsm, nI_add, pk_mul, pk_sub, nI_e, nI_leE, nI_ltE, nI_mI, mI_nI, mI_lt, nlt_mI, mI_le, nle_mI, nI_addm, sh_b, bI_0, bI_1, bI_bI, ckZ_b, ckZ_n0, ckZ_n1, stIe, stJe, stZ_n0, stZ_n1, rm_nI, dv_nI, if_true, if_false, if_pos, if_neg, rf0, rf1, rf5, rf6, rf7, rf8, rf9, rf20, rf23, rf24, rf25, rf26, rf29, rf31, rf33, rf34, rf35, rf37, rf38, rf41, rf42, rf43,  f_X12_doNights, sr17, b1]
  · obtain ⟨n, rfl⟩ : ∃ n, M = n + 1 := ⟨M - 1, by omega⟩
    have hcst : np * (1 + cst n) + 1 < 900000 := by
      have h1 : np * (1 + cst n) ≤ 15 * (1 + cst n) := Nat.mul_le_mul_right _ hnp
      have h2 : cst n ≤ 3856 := by
        have : ∀ m, m < 4 → cst m ≤ 3856 := by decide
        exact this n (by omega)
      omega
    have h0 := r_dfs hB hWf hy hg hM hpr τ0 n 0 (by omega) np 0 (by omega) T (sA τ 17 (upd (gA τ 17) 0 mI)) hnb1 hlv (by rw [gA_sA, if_pos rfl, upd_at, if_pos rfl]; rfl) FU (by unfold FU; omega)
    rw [← ExN_pr hpr n] at h0
    rcases h0 with ⟨h2, τ1, h3, h4⟩ | ⟨hno, τ1, N', h3, h4, h5, h6, h7⟩
    · refine ⟨true, τ1, ?_, ⟨fun _ => h2, fun _ => rfl⟩, h4, fun z => absurd z (by decide)⟩
      simp (disch := omega) only [↓mI_e, lit, ofN, bsm, nI_add, pk_mul, pk_sub, nI_e, nI_leE, nI_ltE, nI_mI, mI_nI, mI_lt, nlt_mI, mI_le, nle_mI, nI_addm, sh_b, bI_0, bI_1, bI_bI, ckZ_b, ckZ_n0, ckZ_n1, stIe, stJe, stZ_n0, stZ_n1, rm_nI, dv_nI, if_true, if_false, if_pos, if_neg, rf0, rf1, rf5, rf6, rf7, rf8, rf9, rf20, rf23, rf24, rf25, rf26, rf29, rf31, rf33, rf34, rf35, rf37, rf38, rf41, rf42, rf43,  f_X12_doNights, sr17, c]
      exact h3
    · refine ⟨false, τ1, ?_, ⟨fun z => absurd z (by decide), fun z => absurd z hno⟩, h5, fun _ => LvR_c hK hlv (fun j _ j2 => h6 j (by omega))⟩
      obtain ⟨N2, rfl⟩ : ∃ N2, N' = N2 + 1 := ⟨N' - 1, by have : FU = 1000000 := rfl; omega⟩
      have e1 : nI 0 + mI = mI := rfl
      rw [e1, k_X12_doNights_20] at h4
      simp (disch := omega) only [↓mI_e, lit, ofN, bsm, nI_add, pk_mul, pk_sub, nI_e, nI_leE, nI_ltE, nI_mI, mI_nI, mI_lt, nlt_mI, mI_le, nle_mI, nI_addm, sh_b, bI_0, bI_1, bI_bI, ckZ_b, ckZ_n0, ckZ_n1, stIe, stJe, stZ_n0, stZ_n1, rm_nI, dv_nI, if_true, if_false, if_pos, if_neg, rf0, rf1, rf5, rf6, rf7, rf8, rf9, rf20, rf23, rf24, rf25, rf26, rf29, rf31, rf33, rf34, rf35, rf37, rf38, rf41, rf42, rf43,  f_X12_doNights, sr17, c]
      rw [h4]
      rfl
theorem r_nights_142 {B : Nat} (hB : B < 2 ^ 31) {f : Nat → Int32} (hWf : WFs f) {y np : Nat} (hy : y < YN f) (hg : ∀ k, k < 6 → gv f k y ≤ 30) {pa pb : Nat → Nat} (hpr : PrR f y np pa pb) (τ0 : ST) {T : Nat → Int32} : ∀ (n m : Nat) (τ : ST), m ≤ 5 → 5 - m < n → NB f np pa pb τ0 τ → LvR B f y T 0 (gA τ 1) → (∀ j, j < m → ¬ ExN f y j T) → (∃ q τ1, q ≤ 4 ∧ ExN f y q T ∧ (∀ j, j < q → ¬ ExN f y j T) ∧ k_X12_nights_142 n 0 (nI y) (nI m) τ = some (nI q, sI τ1 0 2 (nI 0)) ∧ NB f np pa pb τ0 τ1) ∨ ∃ τ1, (∀ j, j ≤ 4 → ¬ ExN f y j T) ∧ k_X12_nights_142 n 0 (nI y) (nI m) τ = some (mI, sI τ1 0 2 (nI 6)) ∧ NB f np pa pb τ0 τ1 := by
  have n10 : (nI 1 = nI 0) = False := eq_false (by decide)
  intro n
  induction n with
  | zero => intros; omega
  | succ n ih =>
    intro m τ hm hn hnb hlv hp
    rw [k_X12_nights_142]
    by_cases c : 5 ≤ m
    · refine Or.inr ⟨τ, fun j hj => hp j (by omega), ?_, hnb⟩
      simp (disch := omega) only [↓mI_e, lit, ofN, bsm, nI_add, pk_mul, pk_sub, nI_e, nI_leE, nI_ltE, nI_mI, mI_nI, mI_lt, nlt_mI, mI_le, nle_mI, nI_addm, sh_b, bI_0, bI_1, bI_bI, ckZ_b, ckZ_n0, ckZ_n1, stIe, stJe, stZ_n0, stZ_n1, rm_nI, dv_nI, if_true, if_false, if_pos, if_neg, rf0, rf1, rf5, rf6, rf7, rf8, rf9, rf20, rf23, rf24, rf25, rf26, rf29, rf31, rf33, rf34, rf35, rf37, rf38, rf41, rf42, rf43,  c, r_refuse]
    · obtain ⟨b, τ1, b1, b2, b3, b4⟩ := r_doNights hB hWf hy hg (show m ≤ 4 by omega) hpr hnb hlv
      cases b
      · have hno : ¬ ExN f y m T := fun z => absurd (b2.mpr z) (by decide)
        have h1 := ih (m + 1) τ1 (by omega) (by omega) b3 (b4 rfl) (fun j hj => by
          by_cases e : j = m
          · rw [e]; exact hno
          · exact hp j (by omega))
        simp (disch := omega) only [↓mI_e, lit, ofN, bsm, nI_add, pk_mul, pk_sub, nI_e, nI_leE, nI_ltE, nI_mI, mI_nI, mI_lt, nlt_mI, mI_le, nle_mI, nI_addm, sh_b, bI_0, bI_1, bI_bI, ckZ_b, ckZ_n0, ckZ_n1, stIe, stJe, stZ_n0, stZ_n1, rm_nI, dv_nI, if_true, if_false, if_pos, if_neg, rf0, rf1, rf5, rf6, rf7, rf8, rf9, rf20, rf23, rf24, rf25, rf26, rf29, rf31, rf33, rf34, rf35, rf37, rf38, rf41, rf42, rf43,  c, b1, bI_f]
        exact h1
      · refine Or.inl ⟨m, τ1, by omega, b2.mp rfl, hp, ?_, b3⟩
        simp (disch := omega) only [↓mI_e, lit, ofN, bsm, nI_add, pk_mul, pk_sub, nI_e, nI_leE, nI_ltE, nI_mI, mI_nI, mI_lt, nlt_mI, mI_le, nle_mI, nI_addm, sh_b, bI_0, bI_1, bI_bI, ckZ_b, ckZ_n0, ckZ_n1, stIe, stJe, stZ_n0, stZ_n1, rm_nI, dv_nI, if_true, if_false, if_pos, if_neg, rf0, rf1, rf5, rf6, rf7, rf8, rf9, rf20, rf23, rf24, rf25, rf26, rf29, rf31, rf33, rf34, rf35, rf37, rf38, rf41, rf42, rf43,  c, b1, bI_t, n10, r_gives]
/-! the pairs are laid -/
def oPr (a : Nat) : Nat := [0, 5, 9, 12, 14, 15, 15].getD a 15
theorem oPr_1 : ∀ a, a < 6 → oPr a + (5 - a) = oPr (a + 1) := by decide
theorem oPr_2 : ∀ a b, a < 6 → b < 6 → a < b → oPr a + (b - a - 1) ≤ 14 := by
  have h : ∀ a b : Fin 6, a.1 < b.1 → oPr a.1 + (b.1 - a.1 - 1) ≤ 14 := by decide
  exact fun a b ha hb => h ⟨a, ha⟩ ⟨b, hb⟩
/-- pairs laid ahead of (a, b) -/
def PrU (f : Nat → Int32) (y : Nat) (np : Nat) (pa pb : Nat → Nat) (a b : Nat) : Prop := (∀ j, j < np → pa j < pb j ∧ pb j < KN f ∧ prN f y (pa j) (pb j) = true) ∧ ∀ a' b', (a' < a ∨ a' = a ∧ b' < b) → a' < b' → b' < KN f → prN f y a' b' = true → ∃ j, j < np ∧ pa j = a' ∧ pb j = b'
def NP (f : Nat → Int32) (y a b : Nat) (bd : Nat) (τ0 τ : ST) : Prop := ∃ np pa pb, np ≤ bd ∧ PrU f y np pa pb a b ∧ NB f np pa pb τ0 τ
def lv0 (f : Nat → Int32) (y a : Nat) (F : Nat → Int32) : Prop := ∀ k, k < a → ∀ i, i < 12 → F (lv 0 k + i) = f (tb k y + i)
theorem r_nights_60 {f : Nat → Int32} (hWf : WFs f) {y a : Nat} (hy : y < YN f) (ha : a < KN f) {P : Int32} (hP : ∀ k, bt P k = isPl f y k) (τ0 : ST) (rec27 : Nat → Int32 → Int32 → Int32 → ST → Option (Int32 × ST)) : ∀ (n b : Nat) (τ : ST), a < b → b ≤ KN f → KN f - b < n → NP f y a b (oPr a + (b - a - 1)) τ0 τ → lv0 f y (a + 1) (gA τ 1) → ∃ τ1, k_X12_nights_60 rec27 n 0 (nI y) P (nI a) (nI b) τ = rec27 0 (nI y) P (nI (a + 1)) τ1 ∧ NP f y (a + 1) 0 (oPr (a + 1)) τ0 τ1 ∧ lv0 f y (a + 1) (gA τ1 1) := by
  have hK := hWf.1
  have n10 : (nI 1 = nI 0) = False := eq_false (by decide)
  intro n
  induction n with
  | zero => intros; omega
  | succ n ih =>
    intro b τ hab hb hn hnp hl0
    rw [k_X12_nights_60]
    have e3 : gA τ 1 3 = nI (KN f) := by
      obtain ⟨np, pa, pb, _, _, h3⟩ := hnp
      rw [h3.1 3 (by omega)]; exact eK f
    by_cases c : KN f ≤ b
    · refine ⟨τ, ?_, ?_, hl0⟩
      · simp (disch := omega) only [↓mI_e, lit, ofN, bsm, nI_add, pk_mul, pk_sub, nI_e, nI_leE, nI_ltE, nI_mI, mI_nI, mI_lt, nlt_mI, mI_le, nle_mI, nI_addm, sh_b, bI_0, bI_1, bI_bI, ckZ_b, ckZ_n0, ckZ_n1, stIe, stJe, stZ_n0, stZ_n1, rm_nI, dv_nI, if_true, if_false, if_pos, if_neg, rf0, rf1, rf5, rf6, rf7, rf8, rf9, rf20, rf23, rf24, rf25, rf26, rf29, rf31, rf33, rf34, rf35, rf37, rf38, rf41, rf42, rf43,  lr1, e3, c]
      · obtain ⟨np, pa, pb, h1, h2, h3⟩ := hnp
        have := oPr_1 a (by omega)
        refine ⟨np, pa, pb, by omega, ⟨h2.1, fun a' b' z1 z2 z3 z4 => h2.2 a' b' ?_ z2 z3 z4⟩, h3⟩
        omega
    · have eb := sh_b2 P (a := a) (b := b) (by omega) (by omega)
      rw [hP, hP] at eb
      have skip : prN f y a b = false → NP f y a (b + 1) (oPr a + (b + 1 - a - 1)) τ0 τ := fun z => by
        obtain ⟨np, pa, pb, h1, h2, h3⟩ := hnp
        refine ⟨np, pa, pb, by omega, ⟨h2.1, fun a' b' z1 z2 z3 z4 => ?_⟩, h3⟩
        by_cases e : a' = a ∧ b' = b
        · rw [e.1, e.2, z] at z4; exact absurd z4 (by decide)
        · exact h2.2 a' b' (by omega) z2 z3 z4
      cases cp : (isPl f y a && isPl f y b)
      · rw [cp] at eb
        have hno : prN f y a b = false := by
          unfold prN
          cases z1 : isPl f y a
          · rfl
          · rw [z1, Bool.true_and] at cp; rw [cp]; rfl
        have h1 := ih (b + 1) τ (by omega) (by omega) (by omega) (skip hno) hl0
        simp (disch := omega) only [↓mI_e, lit, ofN, bsm, nI_add, pk_mul, pk_sub, nI_e, nI_leE, nI_ltE, nI_mI, mI_nI, mI_lt, nlt_mI, mI_le, nle_mI, nI_addm, sh_b, bI_0, bI_1, bI_bI, ckZ_b, ckZ_n0, ckZ_n1, stIe, stJe, stZ_n0, stZ_n1, rm_nI, dv_nI, if_true, if_false, if_pos, if_neg, rf0, rf1, rf5, rf6, rf7, rf8, rf9, rf20, rf23, rf24, rf25, rf26, rf29, rf31, rf33, rf34, rf35, rf37, rf38, rf41, rf42, rf43,  lr1, e3, c, eb, bI_f, k_X12_nights_128]
        exact h1
      · rw [cp] at eb
        have hdr := r_doReach (a := a) (b := b) (by omega) (by omega) τ
        have er : rch (gA τ 1) a b = rch f a b := by
          obtain ⟨np, pa, pb, _, _, h3⟩ := hnp
          unfold rch
          rw [h3.1 5 (by omega), h3.1 6 (by omega)]
        rw [er] at hdr
        have hpr0 : prN f y a b = rch f a b := by
          unfold prN
          rw [Bool.and_eq_true] at cp
          rw [cp.1, cp.2]; rfl
        cases cr : rch f a b
        · rw [cr] at hdr
          have h1 := ih (b + 1) τ (by omega) (by omega) (by omega) (skip (by rw [hpr0]; exact cr)) hl0
          simp (disch := omega) only [↓mI_e, lit, ofN, bsm, nI_add, pk_mul, pk_sub, nI_e, nI_leE, nI_ltE, nI_mI, mI_nI, mI_lt, nlt_mI, mI_le, nle_mI, nI_addm, sh_b, bI_0, bI_1, bI_bI, ckZ_b, ckZ_n0, ckZ_n1, stIe, stJe, stZ_n0, stZ_n1, rm_nI, dv_nI, if_true, if_false, if_pos, if_neg, rf0, rf1, rf5, rf6, rf7, rf8, rf9, rf20, rf23, rf24, rf25, rf26, rf29, rf31, rf33, rf34, rf35, rf37, rf38, rf41, rf42, rf43,  lr1, e3, c, eb, bI_t, n10, hdr, bI_f, k_X12_nights_128]
          exact h1
        · rw [cr] at hdr
          obtain ⟨np, pa, pb, h1, h2, h3⟩ := hnp
          have hlim := oPr_2 a b (by omega) (by omega) hab
          obtain ⟨τ1, hτ1⟩ : ∃ τ1, τ1 = sI (sA (sA τ 15 (upd (gA τ 15) np (nI a))) 16 (upd (gA τ 16) np (nI b))) 0 36 (nI (np + 1)) := ⟨_, rfl⟩
          have h5 := ih (b + 1) τ1 (by omega) (by omega) (by omega) ⟨np + 1, fun j => if j = np then a else pa j, fun j => if j = np then b else pb j, by omega, ⟨fun j hj => ?_, fun a' b' z1 z2 z3 z4 => ?_⟩, ?_, ?_, fun j hj => ?_, ?_⟩ ?_
          · have e36 : gI τ 0 36 = nI np := h3.2.1
            have e36a : gI (sA τ 15 (upd (gA τ 15) np (nI a))) 0 36 = nI np := e36
            have e36b : ∀ v, gI (sA (sA τ 15 (upd (gA τ 15) np (nI a))) 16 v) 0 36 = nI np := fun _ => e36
            have e16 : gA (sA τ 15 (upd (gA τ 15) np (nI a))) 16 = gA τ 16 := by rw [gA_sA, if_neg (by decide)]
            simp (disch := omega) only [↓mI_e, lit, ofN, bsm, nI_add, pk_mul, pk_sub, nI_e, nI_leE, nI_ltE, nI_mI, mI_nI, mI_lt, nlt_mI, mI_le, nle_mI, nI_addm, sh_b, bI_0, bI_1, bI_bI, ckZ_b, ckZ_n0, ckZ_n1, stIe, stJe, stZ_n0, stZ_n1, rm_nI, dv_nI, if_true, if_false, if_pos, if_neg, rf0, rf1, rf5, rf6, rf7, rf8, rf9, rf20, rf23, rf24, rf25, rf26, rf29, rf31, rf33, rf34, rf35, rf37, rf38, rf41, rf42, rf43,  lr1, e3, c, eb, bI_t, n10, hdr, e36, sr15, e36a, e16, sr16, e36b, k_X12_nights_128]
            rw [← hτ1]
            exact h5
          · simp only []
            by_cases e : j = np
            · rw [if_pos e, if_pos e]; exact ⟨hab, by omega, by rw [hpr0]; exact cr⟩
            · rw [if_neg e, if_neg e]; exact h2.1 j (by omega)
          · by_cases e : a' = a ∧ b' = b
            · exact ⟨np, by omega, (if_pos rfl).trans e.1.symm, (if_pos rfl).trans e.2.symm⟩
            · obtain ⟨j, j1, j2, j3⟩ := h2.2 a' b' (by omega) z2 z3 z4
              exact ⟨j, by omega, (if_neg (by omega)).trans j2, (if_neg (by omega)).trans j3⟩
          · rw [hτ1]; exact h3.1
          · rw [hτ1, gI_sI, if_pos ⟨rfl, rfl⟩]
          · have g15 : gA τ1 15 = upd (gA τ 15) np (nI a) := by rw [hτ1, gA_sI, gA_sA, if_neg (by decide), gA_sA, if_pos rfl]
            have g16 : gA τ1 16 = upd (gA τ 16) np (nI b) := by rw [hτ1, gA_sI, gA_sA, if_pos rfl]
            rw [g15, g16, upd_at, upd_at]
            simp only []
            by_cases e : j = np
            · rw [if_pos e, if_pos e, if_pos e, if_pos e]; exact ⟨rfl, rfl⟩
            · rw [if_neg e, if_neg e, if_neg e, if_neg e]; exact h3.2.2.1 j (by omega)
          · rw [hτ1]; exact ((h3.2.2.2.sA _ rfl).sA _ rfl).sI _ rfl
          · rw [hτ1]; exact hl0
theorem r_nights_27 {f : Nat → Int32} (hWf : WFs f) {y : Nat} (hy : y < YN f) {P : Int32} (hP : ∀ k, bt P k = isPl f y k) (τ0 : ST) : ∀ (n a : Nat) (τ : ST), a ≤ KN f → KN f - a < n → NP f y a 0 (oPr a) τ0 τ → lv0 f y a (gA τ 1) → ∃ τ1, k_X12_nights_27 n 0 (nI y) P (nI a) τ = k_X12_nights_142 FU 0 (nI y) (nI 0) τ1 ∧ NP f y (KN f) 0 15 τ0 τ1 ∧ lv0 f y (KN f) (gA τ1 1) := by
  have hK := hWf.1
  have hY := hWf.2.1
  obtain ⟨F, hF, hF2⟩ : ∃ F, FU = F ∧ 5000 < F := ⟨FU, rfl, by unfold FU; omega⟩
  rw [hF]
  intro n
  induction n with
  | zero => intros; omega
  | succ n ih =>
    intro a τ ha hn hnp hl0
    have e3 : gA τ 1 3 = nI (KN f) := by
      obtain ⟨np, pa, pb, _, _, h3⟩ := hnp
      rw [h3.1 3 (by omega)]; exact eK f
    rw [k_X12_nights_27, hF]
    by_cases c : KN f ≤ a
    · have : a = KN f := by omega
      subst this
      refine ⟨τ, ?_, ?_, hl0⟩
      · simp (disch := omega) only [↓mI_e, lit, ofN, bsm, nI_add, pk_mul, pk_sub, nI_e, nI_leE, nI_ltE, nI_mI, mI_nI, mI_lt, nlt_mI, mI_le, nle_mI, nI_addm, sh_b, bI_0, bI_1, bI_bI, ckZ_b, ckZ_n0, ckZ_n1, stIe, stJe, stZ_n0, stZ_n1, rm_nI, dv_nI, if_true, if_false, if_pos, if_neg, rf0, rf1, rf5, rf6, rf7, rf8, rf9, rf20, rf23, rf24, rf25, rf26, rf29, rf31, rf33, rf34, rf35, rf37, rf38, rf41, rf42, rf43,  lr1, e3]
      · obtain ⟨np, pa, pb, h1, h2, h3⟩ := hnp
        have : ∀ a, a < 7 → oPr a ≤ 15 := by decide
        have := this (KN f) (by omega)
        exact ⟨np, pa, pb, by omega, h2, h3⟩
    · have t1 := tb_lt (p := a) (y := y) (by omega) (by omega)
      have hcp := r_copy (to := lv 0 a) (fr := tb a y) (by unfold lv; omega) (by omega) (by unfold lv; omega) τ
      have et : 30 + 12 * (6 * a + y) = tb a y := rfl
      have el : 29200 + 12 * a = lv 0 a := by unfold lv; omega
      have hp2 : ∀ j, j < 29200 → put12 (gA τ 1) (lv 0 a) (sh (gA τ 1) (tb a y)) j = gA τ 1 j := fun j hj => put12_out (by unfold lv; omega)
      have hlo : Lo f (gA τ 1) := by
        obtain ⟨np, pa, pb, _, _, h3⟩ := hnp
        exact h3.1
      obtain ⟨τ1, q1, q2, q3⟩ := r_nights_60 hWf hy (show a < KN f by omega) hP τ0 (k_X12_nights_27 n) FU (a + 1) (sA τ 1 (put12 (gA τ 1) (lv 0 a) (sh (gA τ 1) (tb a y)))) (by omega) (by omega) (by unfold FU; omega) (by
        obtain ⟨np, pa, pb, h1, h2, h3⟩ := hnp
        refine ⟨np, pa, pb, by omega, ⟨h2.1, fun a' b' z1 z2 z3 z4 => h2.2 a' b' (by omega) z2 z3 z4⟩, ?_, h3.2.1, h3.2.2.1, h3.2.2.2.sA _ rfl⟩
        intro j hj
        rw [gA_sA, if_pos rfl, hp2 j hj]; exact h3.1 j hj) (by
        intro k hk i hi
        rw [gA_sA, if_pos rfl]
        by_cases e : k = a
        · subst e
          rw [put12_in hi]
          unfold sh
          exact hlo _ (by omega)
        · rw [put12_out (by unfold lv; omega)]
          exact hl0 k (by omega) i hi)
      rw [hF] at q1
      obtain ⟨τ2, p1, p2, p3⟩ := ih (a + 1) τ1 (by omega) (by omega) q2 q3
      refine ⟨τ2, ?_, p2, p3⟩
      simp (disch := omega) only [↓mI_e, lit, ofN, bsm, nI_add, pk_mul, pk_sub, nI_e, nI_leE, nI_ltE, nI_mI, mI_nI, mI_lt, nlt_mI, mI_le, nle_mI, nI_addm, sh_b, bI_0, bI_1, bI_bI, ckZ_b, ckZ_n0, ckZ_n1, stIe, stJe, stZ_n0, stZ_n1, rm_nI, dv_nI, if_true, if_false, if_pos, if_neg, rf0, rf1, rf5, rf6, rf7, rf8, rf9, rf20, rf23, rf24, rf25, rf26, rf29, rf31, rf33, rf34, rf35, rf37, rf38, rf41, rf42, rf43,  lr1, e3, c, f_X12_thingOf, et, el, hcp]
      rw [q1, p1]
theorem bt_oneB {k j : Nat} (hk : k < 32) : bt (oneB k) j = decide (j = k) := bt_one hk
theorem sim_nights (i : Nat) (hi : i + 6 ≤ 3072) : SIM_nights (Rel i) (Rel (i + 6)) := by
  intro a0 σ τ h
  have hW := h.2.2.2.2.1
  obtain ⟨hS, hU, _, _, _, hH, _⟩ := id hW
  have hK := hS.1.1
  have hY := hS.1.2.1
  have hw := wM_w
  have n10 : (nI 1 = nI 0) = False := eq_false (by decide)
  have hB : 50000 * i < 2 ^ 31 := by omega
  show Sm i _ _
  rcases key_cases hS.1 a0 with hb | ⟨y, hy, rfl⟩
  · simp (disch := omega) only [↓mI_e, lit, ofN, bsm, nI_add, pk_mul, pk_sub, nI_e, nI_leE, nI_ltE, nI_mI, mI_nI, mI_lt, nlt_mI, mI_le, nle_mI, nI_addm, sh_b, bI_0, bI_1, bI_bI, ckZ_b, ckZ_n0, ckZ_n1, stIe, stJe, stZ_n0, stZ_n1, rm_nI, dv_nI, if_true, if_false, if_pos, if_neg, rf0, rf1, rf5, rf6, rf7, rf8, rf9, rf20, rf23, rf24, rf25, rf26, rf29, rf31, rf33, rf34, rf35, rf37, rf38, rf41, rf42, rf43,  f_X11_nights, k_X11_nights_46, f_X12_nights, k_X12_nights_128, c_isKey_no hS hb, r_isKey_no hb, c_refuse, r_refuse]
    exact Sm_0 h _ _
  · obtain ⟨P, Rb, W, σ1, b1, b2, b3, b4, b5, b6, b7, b8⟩ := c_nbegin hB hW hy
    have hTB : TB (gA τ 1) (gA σ1 95) := fun k hk j hj => by rw [b7 k hk, bt_oneB (by omega)]; exact decide_eq_false (by omega)
    have hTok : Tok (gA τ 1) y (gA σ1 95) := fun p hp => by
      have := pl_lt hp
      rw [b7 p this]
      refine ⟨by rw [bt_oneB (by omega)]; exact decide_eq_true rfl, fun q hq => ?_⟩
      rw [bt_oneB (by omega)] at hq
      rw [of_decide_eq_true hq]; exact hp
    have hPb : ∀ k, bt (nI P) k = isPl (gA τ 1) y k := fun k => by
      by_cases hk : k < 32
      · rw [bt_nI P hk]; exact b5 k
      · rw [bt_big _ (by omega), isPl_no (by omega)]
    have hex : ∀ S, ∃ r, IsJ (sm (gA τ 1) y) (SM (gA τ 1) S) (thS (gA τ 1) y) r := fun S => by
      obtain ⟨r, _, h2⟩ := join_ex hB hW (show y < 6 by omega) S
      exact ⟨r, h2⟩
    have hwS := Stl_Ex (W := W) hPb hex hK (fun S hS2 => by
      have hsub : vN S &&& P = vN S := by
        apply Nat.eq_of_testBit_eq
        intro k
        rw [Nat.testBit_and]
        cases z : (vN S).testBit k
        · rfl
        · rw [b5 k, hS2 k z]; rfl
      have hle : vN S ≤ P := by
        have := Nat.and_le_right (n := vN S) (m := P)
        omega
      have h1 := b8 (vN S) hle hsub
      rw [nI_vN] at h1
      exact h1)
    have hcl := c_fewest_8 hK b5 b6 b3 hTB FU 0 (by omega) (by unfold FU; omega) (fun j hj => by omega)
    obtain ⟨p, g9, p1, p2, _⟩ := r_placesOf hS.1 hy
    obtain ⟨τa, hτa⟩ : ∃ τa, τa = sI (sA τ 9 g9) 0 36 (nI 0) := ⟨_, rfl⟩
    obtain ⟨τ1, q1, ⟨np, pa, pb, q2, q3, q4⟩, q5⟩ := r_nights_27 hS.1 hy p2 τ FU 0 τa (by omega) (by unfold FU; omega) ⟨0, fun _ => 0, fun _ => 0, by omega, ⟨fun j hj => by omega, fun a' b' z1 => by omega⟩, by rw [hτa]; exact fun j _ => rfl, by rw [hτa, gI_sI, if_pos ⟨rfl, rfl⟩], fun j hj => by omega, by rw [hτa]; exact ((Sc.rf τ).sA _ rfl).sI _ rfl⟩ (fun k hk => by omega)
    have hpr : PrR (gA τ 1) y np pa pb := ⟨q2, q3.1, fun a b z1 z2 z3 => q3.2 a b (Or.inl (by omega)) z1 z2 z3⟩
    have hlv : LvR (50000 * i) (gA τ 1) y (gA σ1 95) 0 (gA τ1 1) := fun k hk => by
      have hT := (hH k y (by omega) (by omega)).2
      have e1 : ∀ j, j < 12 → sh (gA τ1 1) (lv 0 k) j = thS (gA τ 1) y k j := fun j hj => q5 k hk j hj
      refine ⟨TI_congr e1 (fun _ _ => rfl) hT, IsJ_congr (IsJ_set (IsJ_1 (th := thS (gA τ 1) y) (p := k) hT) (fun q => ?_)) e1⟩
      unfold SM
      rw [b7 k hk, bt_oneB (by omega), decide_eq_true_eq]
      exact ⟨fun z => z.2, fun z => ⟨by omega, z⟩⟩
    have hrl := r_nights_142 hB hS.1 hy (gvl hW (by omega)) hpr τ FU 0 τ1 (by omega) (by unfold FU; omega) q4 hlv (fun j hj => by omega)
    have fin : ∀ τ2, NB (gA τ 1) np pa pb τ τ2 → ∀ r v, Sm i (some (r, sI σ1 0 14 v)) (some (r, sI τ2 0 2 v)) := fun τ2 hn r v => Sm_q h (b2.mono (fun k hk => by simp)) (hn.2.2.2.mono (fun k hk => by simp)) (fun k hk => hn.1 k (by omega)) r v
    have hq1 : k_X12_nights_27 FU 0 (nI y) p (nI 0) τa = k_X12_nights_142 FU 0 (nI y) (nI 0) τ1 := q1
    rcases hcl with ⟨q, c1, c2, c3, c4⟩ | ⟨c1, c2⟩
    · obtain ⟨k, k1, k2⟩ := (hwS q (gA σ1 95) hTok).mp c2
      rcases hrl with ⟨q', τ2, d1, d2, d3, d4, d5⟩ | ⟨τ2, d1, _⟩
      · have hqq : q' = q := by
          have h1 : q ≤ q' := by
            rcases Nat.lt_or_ge q' q with z | z
            · exact absurd ((hwS q' (gA σ1 95) hTok).mpr ⟨q', Nat.le_refl _, d2⟩) (c3 q' z)
            · exact z
          have h2 : q' ≤ k := by
            rcases Nat.lt_or_ge k q' with z | z
            · exact absurd k2 (d3 k z)
            · exact z
          omega
        rw [hqq] at d4
        simp (disch := omega) only [↓mI_e, lit, ofN, bsm, nI_add, pk_mul, pk_sub, nI_e, nI_leE, nI_ltE, nI_mI, mI_nI, mI_lt, nlt_mI, mI_le, nle_mI, nI_addm, sh_b, bI_0, bI_1, bI_bI, ckZ_b, ckZ_n0, ckZ_n1, stIe, stJe, stZ_n0, stZ_n1, rm_nI, dv_nI, if_true, if_false, if_pos, if_neg, rf0, rf1, rf5, rf6, rf7, rf8, rf9, rf20, rf23, rf24, rf25, rf26, rf29, rf31, rf33, rf34, rf35, rf37, rf38, rf41, rf42, rf43,  f_X11_nights, k_X11_nights_46, f_X12_nights, c_isKey_yes hS hy, r_isKey_y hS.1 hy, c02, nc_0, f_X5_fewest, b1, c4, p1]
        rw [← hτa, hq1, d4]
        simp (disch := omega) only [↓mI_e, lit, ofN, bsm, nI_add, pk_mul, pk_sub, nI_e, nI_leE, nI_ltE, nI_mI, mI_nI, mI_lt, nlt_mI, mI_le, nle_mI, nI_addm, sh_b, bI_0, bI_1, bI_bI, ckZ_b, ckZ_n0, ckZ_n1, stIe, stJe, stZ_n0, stZ_n1, rm_nI, dv_nI, if_true, if_false, if_pos, if_neg, rf0, rf1, rf5, rf6, rf7, rf8, rf9, rf20, rf23, rf24, rf25, rf26, rf29, rf31, rf33, rf34, rf35, rf37, rf38, rf41, rf42, rf43,  c_answer]
        exact fin τ2 d5 _ _
      · exact absurd k2 (d1 k (by omega))
    · rcases hrl with ⟨q', τ2, d1, d2, d3, d4, d5⟩ | ⟨τ2, d1, d2, d3⟩
      · exact absurd ((hwS q' (gA σ1 95) hTok).mpr ⟨q', Nat.le_refl _, d2⟩) (c1 q' d1)
      · have mm : (mI = mI) = True := eq_true rfl
        simp (disch := omega) only [↓mI_e, lit, ofN, bsm, nI_add, pk_mul, pk_sub, nI_e, nI_leE, nI_ltE, nI_mI, mI_nI, mI_lt, nlt_mI, mI_le, nle_mI, nI_addm, sh_b, bI_0, bI_1, bI_bI, ckZ_b, ckZ_n0, ckZ_n1, stIe, stJe, stZ_n0, stZ_n1, rm_nI, dv_nI, if_true, if_false, if_pos, if_neg, rf0, rf1, rf5, rf6, rf7, rf8, rf9, rf20, rf23, rf24, rf25, rf26, rf29, rf31, rf33, rf34, rf35, rf37, rf38, rf41, rf42, rf43,  f_X11_nights, k_X11_nights_46, f_X12_nights, c_isKey_yes hS hy, r_isKey_y hS.1 hy, c02, nc_0, f_X5_fewest, b1, c2, p1, mm]
        rw [← hτa, hq1, d2]
        simp (disch := omega) only [↓mI_e, lit, ofN, bsm, nI_add, pk_mul, pk_sub, nI_e, nI_leE, nI_ltE, nI_mI, mI_nI, mI_lt, nlt_mI, mI_le, nle_mI, nI_addm, sh_b, bI_0, bI_1, bI_bI, ckZ_b, ckZ_n0, ckZ_n1, stIe, stJe, stZ_n0, stZ_n1, rm_nI, dv_nI, if_true, if_false, if_pos, if_neg, rf0, rf1, rf5, rf6, rf7, rf8, rf9, rf20, rf23, rf24, rf25, rf26, rf29, rf31, rf33, rf34, rf35, rf37, rf38, rf41, rf42, rf43,  c_refuse]
        exact fin τ2 d3 _ _
