/-! THE REFERENCE: rows and places -/
theorem sub_add {a b c : Nat} (h : b ≤ c) : nI a - nI b + nI c = nI (a + c - b) := by
  have : nI a - nI b + nI c = nI a + nI c - nI b := by
    rw [Int32.sub_eq_add_neg, Int32.sub_eq_add_neg, Int32.add_assoc, Int32.add_comm (-nI b), ← Int32.add_assoc]
  rw [this, nI_add, pk_sub (by omega)]
def KN (f : Nat → Int32) : Nat := vN (f 3)
def YN (f : Nat → Int32) : Nat := vN (f 4)
def NN (f : Nat → Int32) : Nat := vN (f 0)
def RN (f : Nat → Int32) : Nat := vN (f 1)
def WN (f : Nat → Int32) : Nat := vN (f 2)
def ka (f : Nat → Int32) (i : Nat) : Nat := vN (f (10 + i))
def ya (f : Nat → Int32) (y : Nat) : Nat := vN (f (16 + y))
def wy (f : Nat → Int32) (y i : Nat) : Nat := (ka f i + 1000 - ya f y) % 1000
theorem wy_e (f : Nat → Int32) (y i : Nat) : (ka f i + 1000 - ya f y) % 1000 = wy f y i := by rw [wy]
theorem wy_lt (f : Nat → Int32) (y i : Nat) : wy f y i < 1000 := by rw [wy]; exact Nat.mod_lt _ (by decide)
/-- numbers of a shelf that can be -/
def WFs (f : Nat → Int32) : Prop := KN f ≤ 6 ∧ YN f ≤ 6 ∧ (1 ≤ NN f ∧ NN f ≤ 6) ∧ (1 ≤ RN f ∧ RN f ≤ NN f) ∧ (1 ≤ WN f ∧ WN f ≤ NN f) ∧ (∀ i, i < KN f → ka f i < 1000) ∧ (∀ y, y < YN f → ya f y < 1000) ∧ ∀ i j, i < KN f → j < KN f → ka f i = ka f j → i = j
theorem eK (f : Nat → Int32) : f 3 = nI (KN f) := (nI_vN _).symm
theorem eY (f : Nat → Int32) : f 4 = nI (YN f) := (nI_vN _).symm
theorem eN (f : Nat → Int32) : f 0 = nI (NN f) := (nI_vN _).symm
theorem eR (f : Nat → Int32) : f 1 = nI (RN f) := (nI_vN _).symm
theorem eW (f : Nat → Int32) : f 2 = nI (WN f) := (nI_vN _).symm
theorem eka (f : Nat → Int32) (i : Nat) : f (10 + i) = nI (ka f i) := (nI_vN _).symm
theorem eya (f : Nat → Int32) (i : Nat) : f (16 + i) = nI (ya f i) := (nI_vN _).symm
theorem wy_dis {f : Nat → Int32} (hf : WFs f) {y : Nat} (hy : y < YN f) : Dis (wy f y) (KN f) := by
  intro i j hi hj h
  obtain ⟨_, _, _, _, _, h1, h2, h3⟩ := hf
  have := h1 i hi; have := h1 j hj; have := h2 y hy
  refine h3 i j hi hj ?_
  unfold wy at h
  omega
theorem Dis.sub {w : Nat → Nat} {n m : Nat} (h : Dis w n) (hm : m ≤ n) : Dis w m := fun i j hi hj e => h i j (by omega) (by omega) e
theorem r_laysRow_in {f : Nat → Int32} (hf : WFs f) {y k : Nat} (hy : y < YN f) (hk : k < KN f) (rec9 : Nat → Int32 → Int32 → Int32 → ST → Option ST) : ∀ (n i : Nat) (τ : ST), i ≤ k → i < n → rk (wy f y) k k ≤ i → gA τ 1 = f → (∀ m, m < i → gA τ 9 m = nI (rho (wy f y) k m)) → (∀ m, i < m → m ≤ k → gA τ 9 m = nI (rho (wy f y) k (m - 1))) → ∃ g, k_X12_laysRow_46 rec9 n 0 (nI y) (nI (KN f)) (nI k) (nI (wy f y k)) (nI i) τ = rec9 0 (nI y) (nI (KN f)) (nI (k + 1)) (sA τ 9 g) ∧ ∀ m, m < k + 1 → g m = nI (rho (wy f y) (k + 1) m) := by
  have hd := wy_dis hf hy
  obtain ⟨hK, hY, _, _, _, hka, hya, _⟩ := id hf
  have hyv := hya y hy
  have hwk : wy f y k < 1000 := wy_lt f y k
  have hd1 : Dis (wy f y) (k + 1) := hd.sub (by omega)
  have last : ∀ (τ : ST) (i : Nat), i ≤ k → rk (wy f y) k k = i → (∀ m, m < i → gA τ 9 m = nI (rho (wy f y) k m)) → (∀ m, i < m → m ≤ k → gA τ 9 m = nI (rho (wy f y) k (m - 1))) → ∃ g, k_X12_laysRow_113 rec9 0 (nI y) (nI (KN f)) (nI k) (nI i) τ = rec9 0 (nI y) (nI (KN f)) (nI (k + 1)) (sA τ 9 g) ∧ ∀ m, m < k + 1 → g m = nI (rho (wy f y) (k + 1) m) := by
    intro τ i hi hp hlo hhi
    refine ⟨upd (gA τ 9) i (nI k), ?_, fun m hm => ?_⟩
    · simp (disch := omega) only [↓mI_e, lit, ofN, bsm, nI_add, pk_mul, pk_sub, nI_e, nI_leE, nI_ltE, nI_mI, mI_nI, mI_lt, nlt_mI, mI_le, nle_mI, nI_addm, sh_b, bI_0, bI_1, bI_bI, ckZ_b, ckZ_n0, ckZ_n1, stIe, stJe, stZ_n0, stZ_n1, rm_nI, dv_nI, if_pos, if_neg, rf0, rf1, rf5, rf6, rf7, rf8, rf9, rf20, rf23, rf24, rf25, rf26, rf29, rf31, rf33, rf34, rf35, rf37, rf38, rf41, rf42, rf43,  k_X12_laysRow_113, sr9]
    · rw [rho_s hd1 hm, upd_at, hp]
      by_cases g1 : m = i
      · subst g1; rw [if_pos rfl, if_neg (by omega), if_pos rfl]
      · rw [if_neg g1]
        by_cases g2 : m < i
        · rw [if_pos g2]; exact hlo m g2
        · rw [if_neg g2, if_neg g1]; exact hhi m (by omega) (by omega)
  intro n
  induction n with
  | zero => intros; omega
  | succ n ih =>
    intro i τ hi hn hp hg hlo hhi
    rw [k_X12_laysRow_46]
    by_cases e : i = 0
    · subst e
      simp (disch := omega) only [↓mI_e, lit, ofN, bsm, nI_add, pk_mul, pk_sub, nI_e, nI_leE, nI_ltE, nI_mI, mI_nI, mI_lt, nlt_mI, mI_le, nle_mI, nI_addm, sh_b, bI_0, bI_1, bI_bI, ckZ_b, ckZ_n0, ckZ_n1, stIe, stJe, stZ_n0, stZ_n1, rm_nI, dv_nI, if_pos, if_neg, rf0, rf1, rf5, rf6, rf7, rf8, rf9, rf20, rf23, rf24, rf25, rf26, rf29, rf31, rf33, rf34, rf35, rf37, rf38, rf41, rf42, rf43, ]
      exact last τ 0 hi (by omega) hlo hhi
    · have e1 : gA τ 9 (i - 1) = nI (rho (wy f y) k (i - 1)) := hlo _ (by omega)
      have hr := (rho_in (hd.sub (m := k) (by omega)) (m := i - 1) (by omega)).1
      generalize hρ : rho (wy f y) k (i - 1) = ρ at e1 hr
      have hkr := hka ρ (by omega)
      have hw := wy_e f y ρ
      have hwr : wy f y ρ < 1000 := wy_lt f y ρ
      simp (disch := omega) only [↓mI_e, lit, ofN, bsm, nI_add, pk_mul, pk_sub, nI_e, nI_leE, nI_ltE, nI_mI, mI_nI, mI_lt, nlt_mI, mI_le, nle_mI, nI_addm, sh_b, bI_0, bI_1, bI_bI, ckZ_b, ckZ_n0, ckZ_n1, stIe, stJe, stZ_n0, stZ_n1, rm_nI, dv_nI, if_pos, if_neg, rf0, rf1, rf5, rf6, rf7, rf8, rf9, rf20, rf23, rf24, rf25, rf26, rf29, rf31, rf33, rf34, rf35, rf37, rf38, rf41, rf42, rf43,  lr9, lr1, sr9, e1, hg, eka f, eya f, sub_add, hw]
      have hway := rho_way hd1 (m := i - 1) (by omega)
      rw [hρ] at hway
      by_cases g : wy f y ρ ≤ wy f y k
      · rw [if_pos g]
        refine last τ i hi ?_ hlo hhi
        have : ¬ (rk (wy f y) k k ≤ i - 1) := by rw [← hway]; omega
        omega
      · rw [if_neg g]
        have hp2 : rk (wy f y) k k ≤ i - 1 := by rw [← hway]; omega
        obtain ⟨g', h1, h2⟩ := ih (i - 1) (sA τ 9 (upd (gA τ 9) i (nI ρ))) (by omega) (by omega) hp2 (by rw [gA_sA, if_neg (by decide)]; exact hg) (fun m hm => by rw [gA_sA, if_pos rfl, upd_at, if_neg (by omega)]; exact hlo m (by omega)) (fun m h3 h4 => by
          rw [gA_sA, if_pos rfl, upd_at]
          by_cases g5 : m = i
          · subst g5; rw [if_pos rfl, hρ]
          · rw [if_neg g5]; exact hhi m (by omega) h4)
        exact ⟨g', by rw [h1, sA_sA], h2⟩
theorem r_laysRow_out {f : Nat → Int32} (hf : WFs f) {y : Nat} (hy : y < YN f) : ∀ (n k : Nat) (τ : ST), k ≤ KN f → KN f - k < n → gA τ 1 = f → (∀ m, m < k → gA τ 9 m = nI (rho (wy f y) k m)) → ∃ g, k_X12_laysRow_9 n 0 (nI y) (nI (KN f)) (nI k) τ = some (sA τ 9 g) ∧ ∀ m, m < KN f → g m = nI (rho (wy f y) (KN f) m) := by
  obtain ⟨hK, hY, _, _, _, hka, hya, _⟩ := id hf
  have hyv := hya y hy
  intro n
  induction n with
  | zero => intros; omega
  | succ n ih =>
    intro k τ hk hn hg hlo
    obtain ⟨F, hF, hF2⟩ : ∃ F, FU = F ∧ 5000 < F := ⟨FU, rfl, by unfold FU; omega⟩
    rw [k_X12_laysRow_9, hF]
    by_cases e : k = KN f
    · subst e
      simp (disch := omega) only [↓mI_e, lit, ofN, bsm, nI_add, pk_mul, pk_sub, nI_e, nI_leE, nI_ltE, nI_mI, mI_nI, mI_lt, nlt_mI, mI_le, nle_mI, nI_addm, sh_b, bI_0, bI_1, bI_bI, ckZ_b, ckZ_n0, ckZ_n1, stIe, stJe, stZ_n0, stZ_n1, rm_nI, dv_nI, if_pos, if_neg, rf0, rf1, rf5, rf6, rf7, rf8, rf9, rf20, rf23, rf24, rf25, rf26, rf29, rf31, rf33, rf34, rf35, rf37, rf38, rf41, rf42, rf43, ]
      exact ⟨gA τ 9, by rw [sA_self], hlo⟩
    · have hkk := hka k (by omega)
      have hw := wy_e f y k
      simp (disch := omega) only [↓mI_e, lit, ofN, bsm, nI_add, pk_mul, pk_sub, nI_e, nI_leE, nI_ltE, nI_mI, mI_nI, mI_lt, nlt_mI, mI_le, nle_mI, nI_addm, sh_b, bI_0, bI_1, bI_bI, ckZ_b, ckZ_n0, ckZ_n1, stIe, stJe, stZ_n0, stZ_n1, rm_nI, dv_nI, if_pos, if_neg, rf0, rf1, rf5, rf6, rf7, rf8, rf9, rf20, rf23, rf24, rf25, rf26, rf29, rf31, rf33, rf34, rf35, rf37, rf38, rf41, rf42, rf43,  lr1, hg, eka f, eya f, sub_add, hw]
      obtain ⟨g, h1, h2⟩ := r_laysRow_in hf hy (k := k) (by omega) (k_X12_laysRow_9 n) F k τ (Nat.le_refl _) (by omega) (cnt_le _ k) hg hlo (fun m h3 h4 => by omega)
      rw [h1]
      obtain ⟨g', h3, h4⟩ := ih (k + 1) (sA τ 9 g) (by omega) (by omega) (by rw [gA_sA, if_neg (by decide)]; exact hg) (fun m hm => by rw [gA_sA, if_pos rfl]; exact h2 m hm)
      exact ⟨g', by rw [h3, sA_sA], h4⟩
/-- the keepers of a key's row -/
def rw6 (f : Nat → Int32) (y m : Nat) : Nat := rho (wy f y) (KN f) m
theorem r_laysRow {y : Nat} {τ : ST} (hf : WFs (gA τ 1)) (hy : y < YN (gA τ 1)) : ∃ g, f_X12_laysRow 0 (nI y) τ = some (sA τ 9 g) ∧ ∀ m, m < KN (gA τ 1) → g m = nI (rw6 (gA τ 1) y m) := by
  obtain ⟨hK, _⟩ := id hf
  simp (disch := omega) only [↓mI_e, lit, ofN, bsm, nI_add, pk_mul, pk_sub, nI_e, nI_leE, nI_ltE, nI_mI, mI_nI, mI_lt, nlt_mI, mI_le, nle_mI, nI_addm, sh_b, bI_0, bI_1, bI_bI, ckZ_b, ckZ_n0, ckZ_n1, stIe, stJe, stZ_n0, stZ_n1, rm_nI, dv_nI, if_pos, if_neg, rf0, rf1, rf5, rf6, rf7, rf8, rf9, rf20, rf23, rf24, rf25, rf26, rf29, rf31, rf33, rf34, rf35, rf37, rf38, rf41, rf42, rf43,  f_X12_laysRow, lr1, eK (gA τ 1)]
  exact r_laysRow_out hf hy FU 0 τ (by omega) (by unfold FU; omega) rfl (fun m hm => by omega)
def pm (f : Nat → Int32) : Nat := if KN f ≤ NN f then KN f else NN f
theorem r_placeMany {τ : ST} (hf : WFs (gA τ 1)) : f_X12_placeMany 0 τ = some (nI (pm (gA τ 1)), τ) := by
  obtain ⟨hK, _, hN, _⟩ := id hf
  simp (disch := omega) only [↓mI_e, lit, ofN, bsm, nI_add, pk_mul, pk_sub, nI_e, nI_leE, nI_ltE, nI_mI, mI_nI, mI_lt, nlt_mI, mI_le, nle_mI, nI_addm, sh_b, bI_0, bI_1, bI_bI, ckZ_b, ckZ_n0, ckZ_n1, stIe, stJe, stZ_n0, stZ_n1, rm_nI, dv_nI, if_pos, if_neg, rf0, rf1, rf5, rf6, rf7, rf8, rf9, rf20, rf23, rf24, rf25, rf26, rf29, rf31, rf33, rf34, rf35, rf37, rf38, rf41, rf42, rf43,  f_X12_placeMany, k_X12_placeMany_30, lr1, eK (gA τ 1), eN (gA τ 1)]
  unfold pm
  split <;> rfl
/-- whether a keeper is one of a key's places -/
def isPl (f : Nat → Int32) (y k : Nat) : Bool := decide (k < KN f ∧ rk (wy f y) (KN f) k < NN f)
theorem isPl_rw {f : Nat → Int32} (hf : WFs f) {y m : Nat} (hy : y < YN f) (hm : m < KN f) : isPl f y (rw6 f y m) = decide (m < pm f) := by
  have h := rho_in (wy_dis hf hy) hm
  unfold isPl rw6 pm
  apply decide_eq_decide.mpr
  rw [h.2]
  constructor
  · intro h2; split <;> omega
  · intro h2; refine ⟨h.1, ?_⟩; split at h2 <;> omega
theorem pl_rk {f : Nat → Int32} (hf : WFs f) {y k : Nat} (hy : y < YN f) (h : isPl f y k = true) : ∃ m, m < pm f ∧ m < KN f ∧ rw6 f y m = k := by
  have h2 := of_decide_eq_true h
  refine ⟨rk (wy f y) (KN f) k, ?_, rk_bound h2.1, rho_rk (wy_dis hf hy) h2.1⟩
  have := rk_bound (w := wy f y) h2.1
  unfold pm; split <;> omega
theorem r_placesOf_loop {f : Nat → Int32} (hf : WFs f) {y : Nat} (hy : y < YN f) : ∀ (n i : Nat) (p : Int32) (τ : ST), i ≤ pm f → pm f - i < n → gA τ 1 = f → (∀ m, m < KN f → gA τ 9 m = nI (rw6 f y m)) → (∀ k, bt p k = decide (k < KN f ∧ rk (wy f y) (KN f) k < i)) → ∃ p', k_X12_placesOf_9 n 0 p (nI i) τ = some (p', τ) ∧ ∀ k, bt p' k = isPl f y k := by
  obtain ⟨hK, hY, hN, _⟩ := id hf
  have hpm : pm f ≤ 6 := by unfold pm; split <;> omega
  have hpk : pm f ≤ KN f := by unfold pm; split <;> omega
  intro n
  induction n with
  | zero => intros; omega
  | succ n ih =>
    intro i p τ hi hn hg hr hp
    rw [k_X12_placesOf_9, r_placeMany (by rw [hg]; exact hf), hg]
    by_cases e : i = pm f
    · subst e
      simp (disch := omega) only [↓mI_e, lit, ofN, bsm, nI_add, pk_mul, pk_sub, nI_e, nI_leE, nI_ltE, nI_mI, mI_nI, mI_lt, nlt_mI, mI_le, nle_mI, nI_addm, sh_b, bI_0, bI_1, bI_bI, ckZ_b, ckZ_n0, ckZ_n1, stIe, stJe, stZ_n0, stZ_n1, rm_nI, dv_nI, if_pos, if_neg, rf0, rf1, rf5, rf6, rf7, rf8, rf9, rf20, rf23, rf24, rf25, rf26, rf29, rf31, rf33, rf34, rf35, rf37, rf38, rf41, rf42, rf43, ]
      refine ⟨p, rfl, fun k => ?_⟩
      rw [hp]
      unfold isPl
      apply decide_eq_decide.mpr
      unfold pm
      constructor
      · intro h; refine ⟨h.1, ?_⟩; have := h.2; split at this <;> omega
      · intro h
        have := rk_bound (w := wy f y) h.1
        refine ⟨h.1, ?_⟩; split <;> omega
    · have hrw := (rho_in (wy_dis hf hy) (m := i) (by omega))
      have hrw1 : rw6 f y i < 6 := Nat.lt_of_lt_of_le hrw.1 hK
      have e1 := hr i (by omega)
      simp (disch := omega) only [↓mI_e, lit, ofN, bsm, nI_add, pk_mul, pk_sub, nI_e, nI_leE, nI_ltE, nI_mI, mI_nI, mI_lt, nlt_mI, mI_le, nle_mI, nI_addm, sh_b, bI_0, bI_1, bI_bI, ckZ_b, ckZ_n0, ckZ_n1, stIe, stJe, stZ_n0, stZ_n1, rm_nI, dv_nI, if_pos, if_neg, rf0, rf1, rf5, rf6, rf7, rf8, rf9, rf20, rf23, rf24, rf25, rf26, rf29, rf31, rf33, rf34, rf35, rf37, rf38, rf41, rf42, rf43,  lr9, e1]
      refine ih (i + 1) _ τ (by omega) (by omega) hg hr (fun k => ?_)
      rw [bt_ins _ (by omega), hp, ← Bool.decide_or]
      apply decide_eq_decide.mpr
      constructor
      · rintro (h | h)
        · exact ⟨h.1, by omega⟩
        · subst h; exact ⟨hrw.1, by have := hrw.2; unfold rw6; omega⟩
      · intro h
        by_cases g : rk (wy f y) (KN f) k < i
        · exact Or.inl ⟨h.1, g⟩
        · refine Or.inr ?_
          have : rk (wy f y) (KN f) k = i := by omega
          unfold rw6
          rw [← this, rho_rk (wy_dis hf hy) h.1]
theorem r_placesOf {y : Nat} {τ : ST} (hf : WFs (gA τ 1)) (hy : y < YN (gA τ 1)) : ∃ p g, f_X12_placesOf 0 (nI y) τ = some (p, sA τ 9 g) ∧ (∀ k, bt p k = isPl (gA τ 1) y k) ∧ ∀ m, m < KN (gA τ 1) → g m = nI (rw6 (gA τ 1) y m) := by
  obtain ⟨g, h1, h2⟩ := r_laysRow hf hy
  unfold f_X12_placesOf
  rw [h1, b_some]
  obtain ⟨p, h3, h4⟩ := r_placesOf_loop hf hy FU 0 (nI 0) (sA τ 9 g) (by omega) (by unfold FU pm; have := hf.1; split <;> omega) rfl (fun m hm => by rw [gA_sA, if_pos rfl]; exact h2 m hm) (fun k => by rw [bt_n0]; symm; exact decide_eq_false (by omega))
  exact ⟨p, g, h3, h4, h2⟩
theorem r_isPlace {y k : Nat} {τ : ST} (hf : WFs (gA τ 1)) (hy : y < YN (gA τ 1)) (hk : k < 32) : ∃ g, f_X12_isPlace 0 (nI k) (nI y) τ = some (bI (isPl (gA τ 1) y k), sA τ 9 g) := by
  obtain ⟨p, g, h1, h2, _⟩ := r_placesOf hf hy
  refine ⟨g, ?_⟩
  unfold f_X12_isPlace k_X12_isPlace_18
  rw [h1, b_some]
  simp (disch := omega) only [↓mI_e, lit, ofN, bsm, nI_add, pk_mul, pk_sub, nI_e, nI_leE, nI_ltE, nI_mI, mI_nI, mI_lt, nlt_mI, mI_le, nle_mI, nI_addm, sh_b, bI_0, bI_1, bI_bI, ckZ_b, ckZ_n0, ckZ_n1, stIe, stJe, stZ_n0, stZ_n1, rm_nI, dv_nI, if_pos, if_neg, rf0, rf1, rf5, rf6, rf7, rf8, rf9, rf20, rf23, rf24, rf25, rf26, rf29, rf31, rf33, rf34, rf35, rf37, rf38, rf41, rf42, rf43, ]
  rw [h2]
  cases isPl (gA τ 1) y k <;> rfl
