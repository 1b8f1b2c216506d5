/-! BURY: the graves -/
def grv (f : Nat → Int32) (y k i : Nat) : Bool := decide (f (vb y k (i + 1)) = nI 1000)
theorem c_graves_loop {w : Nat} (hw : isW w) {σ : ST} {f : Nat → Int32} (hG0 : RGv (wv σ w) f) (hV0 : RV (wv σ w) f) {y k : Nat} (hy : y < 6) (hk : k < 6) : ∀ (n i : Nat) (G : Int32), i ≤ gv f k y → gv f k y - i < n → (∀ j, bt G j = (decide (j < i) && grv f y k j)) → ∃ G', k_X10_gravesGivenBy_5 n w (nI k) (nI y) G (nI i) σ = some (G', σ) ∧ ∀ j, bt G' j = (decide (j < gv f k y) && grv f y k j) := by
  have hg := (hG0.2 k y hk hy).1
  have e26 : gA σ (w + 26) (k * 6 + y) = nI (gv f k y) := by
    have h1 := hG0.1 (k * 6 + y) (by omega)
    rw [wv_A σ w (by decide)] at h1
    rw [h1, show 4400 + (k * 6 + y) = 4400 + 6 * k + y by omega]
    exact (nI_vN _).symm
  intro n
  induction n with
  | zero => intros; omega
  | succ n ih =>
    intro i G hi hn hG
    rw [k_X10_gravesGivenBy_5]
    by_cases e : i = gv f k y
    · refine ⟨G, ?_, fun j => by rw [hG j, e]⟩
      simp (disch := omega) only [↓mI_e, lit, ofN, bsm, nI_add, pk_mul, pk_sub, nI_e, nI_leE, nI_ltE, nI_mI, mI_nI, mI_lt, nlt_mI, mI_le, nle_mI, nI_addm, sh_b, bI_0, bI_1, bI_bI, ckZ_b, ckZ_n0, ckZ_n1, stIe, stJe, stZ_n0, stZ_n1, rm_nI, dv_nI, if_true, if_false, if_pos, if_neg, rf0, rf1, rf5, rf6, rf7, rf8, rf9, rf20, rf23, rf24, rf25, rf26, rf29, rf31, rf33, rf34, rf35, rf37, rf38, rf41, rf42, rf43,  f_X10_cellOf, w_7 hw, lw26 hw, e26]
    · have h3 := (hV0 y k i hy hk (by omega)).1
      rw [wv_A σ w (by decide)] at h3
      by_cases z : f (vb y k (i + 1)) = nI 1000
      · have zg : grv f y k i = true := decide_eq_true z
        obtain ⟨G', q1, q2⟩ := ih (i + 1) (G ||| (nI 1 <<< (nI i &&& nI 31))) (by omega) (by omega) (fun j => set_step hG (fun j => by rw [bt_ins _ (by omega), zg]; simp) j)
        refine ⟨G', ?_, q2⟩
        simp (disch := omega) only [↓mI_e, lit, ofN, bsm, nI_add, pk_mul, pk_sub, nI_e, nI_leE, nI_ltE, nI_mI, mI_nI, mI_lt, nlt_mI, mI_le, nle_mI, nI_addm, sh_b, bI_0, bI_1, bI_bI, ckZ_b, ckZ_n0, ckZ_n1, stIe, stJe, stZ_n0, stZ_n1, rm_nI, dv_nI, if_true, if_false, if_pos, if_neg, rf0, rf1, rf5, rf6, rf7, rf8, rf9, rf20, rf23, rf24, rf25, rf26, rf29, rf31, rf33, rf34, rf35, rf37, rf38, rf41, rf42, rf43,  f_X10_cellOf, w_7 hw, w_8 hw, lw26 hw, lw27 hw, e26, h3, z, k_X10_gravesGivenBy_51]
        exact q1
      · have zg : grv f y k i = false := decide_eq_false z
        obtain ⟨G', q1, q2⟩ := ih (i + 1) G (by omega) (by omega) (fun j => set_step hG (fun j => by rw [zg]; simp) j)
        refine ⟨G', ?_, q2⟩
        simp (disch := omega) only [↓mI_e, lit, ofN, bsm, nI_add, pk_mul, pk_sub, nI_e, nI_leE, nI_ltE, nI_mI, mI_nI, mI_lt, nlt_mI, mI_le, nle_mI, nI_addm, sh_b, bI_0, bI_1, bI_bI, ckZ_b, ckZ_n0, ckZ_n1, stIe, stJe, stZ_n0, stZ_n1, rm_nI, dv_nI, if_true, if_false, if_pos, if_neg, rf0, rf1, rf5, rf6, rf7, rf8, rf9, rf20, rf23, rf24, rf25, rf26, rf29, rf31, rf33, rf34, rf35, rf37, rf38, rf41, rf42, rf43,  f_X10_cellOf, w_7 hw, w_8 hw, lw26 hw, lw27 hw, e26, h3, z, k_X10_gravesGivenBy_51]
        exact q1
theorem c_graves {w : Nat} (hw : isW w) {σ : ST} {f : Nat → Int32} (hG0 : RGv (wv σ w) f) (hV0 : RV (wv σ w) f) {y k : Nat} (hy : y < 6) (hk : k < 6) : ∃ G, f_X10_gravesGivenBy w (nI k) (nI y) σ = some (G, σ) ∧ ∀ j, bt G j = (decide (j < gv f k y) && grv f y k j) := by
  have hg := (hG0.2 k y hk hy).1
  exact c_graves_loop hw hG0 hV0 hy hk FU 0 (nI 0) (by omega) (by unfold FU; omega) (set_0 _)
/-- the bits of the first p places of part k, cleared -/
def clP (f : Nat → Int32) (y k : Nat) (G : Int32) (R : Nat → Int32) : Nat → Nat → Int32
  | 0 => R
  | p + 1 => if isPl f y p then upd (clP f y k G R p) ((p * 6 + y) * 6 + k) (clP f y k G R p ((p * 6 + y) * 6 + k) &&& (G ^^^ mI)) else clP f y k G R p
theorem clP_at (f : Nat → Int32) (y k : Nat) (hy : y < 6) (hk : k < 6) (G : Int32) (R : Nat → Int32) : ∀ P p' k' y', k' < 6 → y' < 6 → clP f y k G R P ((p' * 6 + y') * 6 + k') = if p' < P ∧ isPl f y p' = true ∧ k' = k ∧ y' = y then R ((p' * 6 + y') * 6 + k') &&& (G ^^^ mI) else R ((p' * 6 + y') * 6 + k')
  | 0, p', k', y', _, _ => by rw [clP, if_neg (by omega)]
  | P + 1, p', k', y', hk', hy' => by
    have ih := clP_at f y k hy hk G R P
    rw [clP]
    cases z : isPl f y P
    · rw [if_neg (by decide), ih p' k' y' hk' hy']
      by_cases z2 : p' = P
      · subst z2
        rw [z, if_neg (by simp), if_neg (by simp)]
      · by_cases z3 : p' < P ∧ isPl f y p' = true ∧ k' = k ∧ y' = y
        · rw [if_pos z3, if_pos ⟨by omega, z3.2⟩]
        · rw [if_neg z3, if_neg (fun q => z3 ⟨by omega, q.2⟩)]
    · rw [if_pos rfl, upd_at]
      by_cases z2 : (p' * 6 + y') * 6 + k' = (P * 6 + y) * 6 + k
      · have e1 : k' = k := by omega
        have e2 : y' = y := by omega
        have e3 : p' = P := by omega
        subst e1 e2 e3
        rw [if_pos rfl, ih p' k' y' hk' hy', if_neg (by omega), if_pos ⟨by omega, z, rfl, rfl⟩]
      · rw [if_neg z2, ih p' k' y' hk' hy']
        by_cases z3 : p' < P ∧ isPl f y p' = true ∧ k' = k ∧ y' = y
        · rw [if_pos z3, if_pos ⟨by omega, z3.2⟩]
        · rw [if_neg z3, if_neg (fun q => z3 ⟨by
            have : p' ≠ P := fun q2 => z2 (by rw [q2, q.2.2.1, q.2.2.2])
            omega, q.2⟩)]
theorem c_bury_56 {w : Nat} (hw : isW w) {f : Nat → Int32} {y k : Nat} (hy : y < YN f) (hk : k < 6) (G v2 : Int32) (R : Nat → Int32) (rec4 : Nat → Int32 → Int32 → Int32 → ST → Option (Int32 × ST)) : ∀ (n p : Nat) (σ : ST), RS (wv σ w) f → p ≤ KN f → KN f - p < n → gA σ (w + 16) = clP f y k G R p → k_X10_buryGraves_56 rec4 n w (nI y) v2 (nI k) G (nI p) σ = rec4 w (nI y) v2 (nI (k + 1)) (sA σ (w + 16) (clP f y k G R (KN f))) := by
  intro n
  induction n with
  | zero => intros; omega
  | succ n ih =>
    intro p σ h hp hn hR
    have hK := h.1.1
    have hY := h.1.2.1
    have e6 : gI σ (w + 1) 6 = nI (KN f) := h.2.1.1.trans (eK f)
    rw [k_X10_buryGraves_56]
    by_cases e : p = KN f
    · subst e
      rw [← hR, sA_self]
      simp (disch := omega) only [↓mI_e, lit, ofN, bsm, nI_add, pk_mul, pk_sub, nI_e, nI_leE, nI_ltE, nI_mI, mI_nI, mI_lt, nlt_mI, mI_le, nle_mI, nI_addm, sh_b, bI_0, bI_1, bI_bI, ckZ_b, ckZ_n0, ckZ_n1, stIe, stJe, stZ_n0, stZ_n1, rm_nI, dv_nI, if_true, if_false, if_pos, if_neg, rf0, rf1, rf5, rf6, rf7, rf8, rf9, rf20, rf23, rf24, rf25, rf26, rf29, rf31, rf33, rf34, rf35, rf37, rf38, rf41, rf42, rf43,  w_0 hw, e6]
    · have c1 := c_isPlace hw h hy (k := p) (by omega)
      cases z : isPl f y p
      · rw [z] at c1
        have IH := ih (p + 1) σ h (by omega) (by omega) (by rw [clP, z, if_neg (by decide)]; exact hR)
        simp (disch := omega) only [↓mI_e, lit, ofN, bsm, nI_add, pk_mul, pk_sub, nI_e, nI_leE, nI_ltE, nI_mI, mI_nI, mI_lt, nlt_mI, mI_le, nle_mI, nI_addm, sh_b, bI_0, bI_1, bI_bI, ckZ_b, ckZ_n0, ckZ_n1, stIe, stJe, stZ_n0, stZ_n1, rm_nI, dv_nI, if_true, if_false, if_pos, if_neg, rf0, rf1, rf5, rf6, rf7, rf8, rf9, rf20, rf23, rf24, rf25, rf26, rf29, rf31, rf33, rf34, rf35, rf37, rf38, rf41, rf42, rf43,  w_0 hw, e6, c1, bI_f, k_X10_buryGraves_107]
        exact IH
      · rw [z] at c1
        have n10 : (nI 1 = nI 0) = False := eq_false (by decide)
        have IH := ih (p + 1) (sA σ (w + 16) (upd (gA σ (w + 16)) ((p * 6 + y) * 6 + k) (gA σ (w + 16) ((p * 6 + y) * 6 + k) &&& (G ^^^ mI)))) (by
          rw [wv_sA σ w (x := 16) (by decide)]
          exact RS_c (fun _ _ => rfl) h (fun _ => rfl) rfl rfl rfl rfl) (by omega) (by omega) (by rw [gA_sA, if_pos rfl, clP, z, if_pos rfl, hR])
        rw [sA_sA] at IH
        simp (disch := omega) only [↓mI_e, lit, ofN, bsm, nI_add, pk_mul, pk_sub, nI_e, nI_leE, nI_ltE, nI_mI, mI_nI, mI_lt, nlt_mI, mI_le, nle_mI, nI_addm, sh_b, bI_0, bI_1, bI_bI, ckZ_b, ckZ_n0, ckZ_n1, stIe, stJe, stZ_n0, stZ_n1, rm_nI, dv_nI, if_true, if_false, if_pos, if_neg, rf0, rf1, rf5, rf6, rf7, rf8, rf9, rf20, rf23, rf24, rf25, rf26, rf29, rf31, rf33, rf34, rf35, rf37, rf38, rf41, rf42, rf43,  w_0 hw, w_2 hw, e6, c1, bI_t, n10, f_X10_cellOf, wh_0 hw, lw16 hw, sw16 hw, k_X10_buryGraves_107]
        exact IH
def clK (f : Nat → Int32) (y : Nat) (Gs : Nat → Int32) (R : Nat → Int32) : Nat → Nat → Int32
  | 0 => R
  | k + 1 => clP f y k (Gs k) (clK f y Gs R k) (KN f)
def cnB (y : Nat) (Gs : Nat → Int32) (R : Nat → Int32) (p0 : Nat) : Nat → Nat
  | 0 => 0
  | k + 1 => cnB y Gs R p0 k + pcN (vN (R ((p0 * 6 + y) * 6 + k) &&& Gs k))
theorem clK_at (f : Nat → Int32) (y : Nat) (hy : y < 6) (Gs : Nat → Int32) (R : Nat → Int32) : ∀ n, n ≤ 6 → ∀ p' k' y', k' < 6 → y' < 6 → clK f y Gs R n ((p' * 6 + y') * 6 + k') = if p' < KN f ∧ isPl f y p' = true ∧ k' < n ∧ y' = y then R ((p' * 6 + y') * 6 + k') &&& (Gs k' ^^^ mI) else R ((p' * 6 + y') * 6 + k')
  | 0, _, p', k', y', _, _ => by rw [clK, if_neg (by omega)]
  | n + 1, hn, p', k', y', hk', hy' => by
    rw [clK, clP_at f y n hy (by omega) (Gs n) _ (KN f) p' k' y' hk' hy', clK_at f y hy Gs R n (by omega) p' k' y' hk' hy']
    by_cases z : p' < KN f ∧ isPl f y p' = true ∧ k' = n ∧ y' = y
    · rw [if_pos z, if_neg (by omega), if_pos ⟨z.1, z.2.1, by omega, z.2.2.2⟩, z.2.2.1]
    · rw [if_neg z]
      by_cases z2 : p' < KN f ∧ isPl f y p' = true ∧ k' < n ∧ y' = y
      · rw [if_pos z2, if_pos ⟨z2.1, z2.2.1, by omega, z2.2.2.2⟩]
      · rw [if_neg z2, if_neg (fun q => by
          by_cases z3 : k' = n
          · exact z ⟨q.1, q.2.1, z3, q.2.2.2⟩
          · exact z2 ⟨q.1, q.2.1, by omega, q.2.2.2⟩)]
theorem c_bury_4 {w : Nat} (hw : isW w) {f : Nat → Int32} {y : Nat} (hy : y < YN f) {Gs : Nat → Int32} (hGs : ∀ k, k < 6 → ∀ j, bt (Gs k) j = (decide (j < gv f k y) && grv f y k j)) (R : Nat → Int32) : ∀ (n k : Nat) (σ : ST), RS (wv σ w) f → RGv (wv σ w) f → RV (wv σ w) f → k ≤ KN f → KN f - k < n → gA σ (w + 16) = clK f y Gs R k → k_X10_buryGraves_4 n w (nI y) (nI (cnB y Gs R (rw6 f y 0) k)) (nI k) σ = some (nI (cnB y Gs R (rw6 f y 0) (KN f)), sA σ (w + 16) (clK f y Gs R (KN f))) := by
  obtain ⟨F, hF, hF2⟩ : ∃ F, FU = F ∧ 5000 < F := ⟨FU, rfl, by unfold FU; omega⟩
  intro n
  induction n with
  | zero => intros; omega
  | succ n ih =>
    intro k σ h hG hV hk hn hR
    have hK := h.1.1
    have hY := h.1.2.1
    have e6 : gI σ (w + 1) 6 = nI (KN f) := h.2.1.1.trans (eK f)
    rw [k_X10_buryGraves_4, hF]
    by_cases e : k = KN f
    · subst e
      rw [← hR, sA_self]
      simp (disch := omega) only [↓mI_e, lit, ofN, bsm, nI_add, pk_mul, pk_sub, nI_e, nI_leE, nI_ltE, nI_mI, mI_nI, mI_lt, nlt_mI, mI_le, nle_mI, nI_addm, sh_b, bI_0, bI_1, bI_bI, ckZ_b, ckZ_n0, ckZ_n1, stIe, stJe, stZ_n0, stZ_n1, rm_nI, dv_nI, if_true, if_false, if_pos, if_neg, rf0, rf1, rf5, rf6, rf7, rf8, rf9, rf20, rf23, rf24, rf25, rf26, rf29, rf31, rf33, rf34, rf35, rf37, rf38, rf41, rf42, rf43,  w_0 hw, e6]
    · obtain ⟨G, c1, c2⟩ := c_graves hw hG hV (y := y) (k := k) (by omega) (by omega)
      have eG : G = Gs k := bt_ext (fun j _ => by rw [c2 j, hGs k (by omega) j])
      subst eG
      have c3 := c_keeperAlong hw h hy (m := 0) (by omega)
      have hp0 := rw6_lt h.1 hy (m := 0) (by omega)
      generalize rw6 f y 0 = p0 at c3 hp0 ih ⊢
      have e16 : gA σ (w + 16) ((p0 * 6 + y) * 6 + k) = R ((p0 * 6 + y) * 6 + k) := by
        rw [hR, clK_at f y (by omega) Gs R k (by omega) p0 k y (by omega) (by omega), if_neg (by omega)]
      have q := c_bury_56 hw hy (show k < 6 by omega) (Gs k) (nI (cnB y Gs R p0 k + pcN (vN (R ((p0 * 6 + y) * 6 + k) &&& Gs k)))) (clK f y Gs R k) (k_X10_buryGraves_4 n) F 0 σ h (by omega) (by omega) hR
      have IH := ih (k + 1) (sA σ (w + 16) (clP f y k (Gs k) (clK f y Gs R k) (KN f))) (by
          rw [wv_sA σ w (x := 16) (by decide)]
          exact RS_c (fun _ _ => rfl) h (fun _ => rfl) rfl rfl rfl rfl) (by
          rw [wv_sA σ w (x := 16) (by decide)]
          exact RG_c (fun _ _ => rfl) hG (fun _ _ _ => rfl) rfl) (by
          rw [wv_sA σ w (x := 16) (by decide)]
          exact RV_c hG hV (fun _ _ _ => rfl) (fun _ _ _ => rfl) rfl) (by omega) (by omega) (by rw [gA_sA, if_pos rfl]; rfl)
      rw [sA_sA] at IH
      simp (disch := omega) only [↓mI_e, lit, ofN, bsm, nI_add, pk_mul, pk_sub, nI_e, nI_leE, nI_ltE, nI_mI, mI_nI, mI_lt, nlt_mI, mI_le, nle_mI, nI_addm, sh_b, bI_0, bI_1, bI_bI, ckZ_b, ckZ_n0, ckZ_n1, stIe, stJe, stZ_n0, stZ_n1, rm_nI, dv_nI, if_true, if_false, if_pos, if_neg, rf0, rf1, rf5, rf6, rf7, rf8, rf9, rf20, rf23, rf24, rf25, rf26, rf29, rf31, rf33, rf34, rf35, rf37, rf38, rf41, rf42, rf43,  w_0 hw, w_2 hw, e6, c1, c3, f_X10_cellOf, f_X0_bitsOf, wh_0 hw, lw16 hw, e16, bitCount_eq]
      exact q.trans IH
