/-! HAND -/
def hfl (f : Nat → Int32) (p q y : Nat) : Bool := decide (f (hb p q y) = nI 1)
def hJ (f : Nat → Int32) (p q : Nat) : Nat → (Nat → Int32)
  | 0 => f
  | k + 1 => if hfl f p q k then put12 (hJ f p q k) (tb q k) (jT (sm f k) (sh f (tb q k)) (sh f (hb p q k + 1))) else hJ f p q k
theorem tb_s (q k : Nat) : tb q k = tb q 0 + 12 * k := by unfold tb; omega
theorem hb_s (p q k : Nat) : hb p q k = hb p q 0 + 13 * k := by unfold hb; omega
theorem hJ_out (f : Nat → Int32) (p q : Nat) : ∀ k j, (j < tb q 0 ∨ tb q k ≤ j) → hJ f p q k j = f j
  | 0, _, _ => rfl
  | k + 1, j, hj => by
    have e1 := tb_s q k
    have e2 := tb_s q (k + 1)
    have ih := hJ_out f p q k j (by omega)
    rw [hJ]
    split
    · rw [put12_out (by omega)]; exact ih
    · exact ih
theorem hJ_h (f : Nat → Int32) {p q : Nat} (hq : q < 6) (k : Nat) : Hd5 f (hJ f p q k) := by
  have : 30 ≤ tb q 0 := by unfold tb; omega
  exact ⟨fun j hj => hJ_out f p q k j (by omega), hJ_out f p q k 5 (by omega), hJ_out f p q k 6 (by omega)⟩
/-- behind the hand of one couple -/
def hQ (f : Nat → Int32) (p q : Nat) : Nat → Int32 := zr (hJ f p q (YN f)) (hb p q 0) (hb p q 6)
theorem c_handTo_loop {w : Nat} (hw : isW w) {B : Nat} (hB : B < 2 ^ 31) {g : Nat → Int64} {f : Nat → Int32} (hf : WFs f) {p q : Nat} (hp : p < 6) (hq : q < 6) {K0 : Int32} (hK0 : ∀ y, bt K0 y = decide (y < 6 ∧ f (hb p q y) = nI 1)) : ∀ (n k : Nat) (σ : ST), k ≤ YN f → YN f - k < n → RelW B (wv σ w) (hJ f p q k) g → ∃ σ1, k_X10_handTo_10 n w (nI (p * 6 + q)) (nI q) K0 (nI k) σ = some (nI (cnt (hfl f p q) 6), σ1) ∧ RelW B (wv σ1 w) (hQ f p q) g ∧ Sq (inW w) [] σ σ1 := by
  have hY := hf.2.1
  have ec : pcN (vN K0) = cnt (hfl f p q) 6 := by
    rw [pc_bt_m _ (m := 6) (by omega) (fun i hi => by rw [hK0]; exact decide_eq_false (fun z => by omega))]
    exact cnt_congr 6 (fun i hi => by rw [hK0]; exact decide_eq_decide.mpr ⟨fun z => z.2, fun z => ⟨hi, z⟩⟩)
  intro n
  induction n with
  | zero => intros; omega
  | succ n ih =>
    intro k σ hk hn h
    have hh := hJ_h f (p := p) hq k
    have e7 : gI σ (w + 1) 7 = nI (YN f) := by
      have h1 : gI σ (w + 1) 7 = hJ f p q k 4 := h.1.2.1.2.1
      rw [h1, hh.1 4 (by omega)]; exact eY f
    rw [k_X10_handTo_10]
    by_cases e : k = YN f
    · subst e
      obtain ⟨σ1, h1, h2, h3⟩ := W_drop hw h hp hq
      simp (disch := omega) only [↓mI_e, lit, ofN, bsm, nI_add, pk_mul, pk_sub, nI_e, nI_leE, nI_ltE, nI_mI, mI_nI, mI_lt, nlt_mI, mI_le, nle_mI, nI_addm, sh_b, bI_0, bI_1, bI_bI, ckZ_b, ckZ_n0, ckZ_n1, stIe, stJe, stZ_n0, stZ_n1, rm_nI, dv_nI, if_true, if_false, if_pos, if_neg, rf0, rf1, rf5, rf6, rf7, rf8, rf9, rf20, rf23, rf24, rf25, rf26, rf29, rf31, rf33, rf34, rf35, rf37, rf38, rf41, rf42, rf43,  w_0 hw, w_1 hw, w_2 hw, w_3 hw, w_4 hw, w_5 hw, w_6 hw, w_7 hw, w_8 hw, ws_0 hw, ws_1 hw, ws_2 hw, ws_3 hw, ws_4 hw, ws_5 hw, wd_0 hw, wd_1 hw, wd_2 hw, wd_3 hw, wd_4 hw, wd_5 hw, wh_0 hw, wh_1 hw, wq_0 hw, wq_1 hw, wt_0 hw, wt_1 hw, lw2 hw, lw4 hw, lw6 hw, lw7 hw, lw9 hw, lw10 hw, lw11 hw, lw12 hw, lw13 hw, lw14 hw, lw16 hw, lw17 hw, lw19 hw, lw20 hw, lw21 hw, lw23 hw, lw24 hw, lw25 hw, lw26 hw, lw27 hw, lw3 hw, lw5 hw, sw2 hw, sw4 hw, sw6 hw, sw7 hw, sw9 hw, sw10 hw, sw11 hw, sw12 hw, sw13 hw, sw14 hw, sw16 hw, sw17 hw, sw19 hw, sw20 hw, sw21 hw, sw23 hw, sw24 hw, sw25 hw, sw26 hw, sw27 hw, e7, h1, bitCount_eq, ec]
      exact ⟨σ1, rfl, h2, h3⟩
    · have eb : bt K0 k = hfl f p q k := by rw [hK0]; exact decide_eq_decide.mpr ⟨fun z => z.2, fun z => ⟨by omega, z⟩⟩
      simp (disch := omega) only [↓mI_e, lit, ofN, bsm, nI_add, pk_mul, pk_sub, nI_e, nI_leE, nI_ltE, nI_mI, mI_nI, mI_lt, nlt_mI, mI_le, nle_mI, nI_addm, sh_b, bI_0, bI_1, bI_bI, ckZ_b, ckZ_n0, ckZ_n1, stIe, stJe, stZ_n0, stZ_n1, rm_nI, dv_nI, if_true, if_false, if_pos, if_neg, rf0, rf1, rf5, rf6, rf7, rf8, rf9, rf20, rf23, rf24, rf25, rf26, rf29, rf31, rf33, rf34, rf35, rf37, rf38, rf41, rf42, rf43,  w_0 hw, w_1 hw, w_2 hw, w_3 hw, w_4 hw, w_5 hw, w_6 hw, w_7 hw, w_8 hw, ws_0 hw, ws_1 hw, ws_2 hw, ws_3 hw, ws_4 hw, ws_5 hw, wd_0 hw, wd_1 hw, wd_2 hw, wd_3 hw, wd_4 hw, wd_5 hw, wh_0 hw, wh_1 hw, wq_0 hw, wq_1 hw, wt_0 hw, wt_1 hw, lw2 hw, lw4 hw, lw6 hw, lw7 hw, lw9 hw, lw10 hw, lw11 hw, lw12 hw, lw13 hw, lw14 hw, lw16 hw, lw17 hw, lw19 hw, lw20 hw, lw21 hw, lw23 hw, lw24 hw, lw25 hw, lw26 hw, lw27 hw, lw3 hw, lw5 hw, sw2 hw, sw4 hw, sw6 hw, sw7 hw, sw9 hw, sw10 hw, sw11 hw, sw12 hw, sw13 hw, sw14 hw, sw16 hw, sw17 hw, sw19 hw, sw20 hw, sw21 hw, sw23 hw, sw24 hw, sw25 hw, sw26 hw, sw27 hw, e7, eb, k_X10_handTo_55]
      have IH := ih (k + 1)
      rw [hJ] at IH
      cases c : hfl f p q k
      · rw [c] at IH
        simp only [Bool.false_eq_true, if_false] at IH
        simp only [if_true]
        exact IH σ (by omega) (by omega) h
      · rw [c] at IH
        simp only [if_true] at IH
        simp only [Bool.true_eq_false, if_false]
        obtain ⟨c2, t2, _⟩ := (h.2.2.2.2.2.2.1 p q hp hq).2 k (by omega)
        obtain ⟨σ1, h1, h2, h3, _⟩ := W_joinH hw hB h (p := q) (y := k) hq (by omega) (isC_i hw) (j := (p * 6 + q) * 6 + k) (by omega) (by omega) (wv_CR (c := 18) (by decide) c2) t2
        simp (disch := omega) only [↓mI_e, lit, ofN, bsm, nI_add, pk_mul, pk_sub, nI_e, nI_leE, nI_ltE, nI_mI, mI_nI, mI_lt, nlt_mI, mI_le, nle_mI, nI_addm, sh_b, bI_0, bI_1, bI_bI, ckZ_b, ckZ_n0, ckZ_n1, stIe, stJe, stZ_n0, stZ_n1, rm_nI, dv_nI, if_true, if_false, if_pos, if_neg, rf0, rf1, rf5, rf6, rf7, rf8, rf9, rf20, rf23, rf24, rf25, rf26, rf29, rf31, rf33, rf34, rf35, rf37, rf38, rf41, rf42, rf43,  f_X10_cellOf, h1]
        have t1 := tb_s q k
        have t3 : tb q 0 + 72 ≤ 462 := by unfold tb; omega
        have t4 : 470 ≤ hb p q k := by unfold hb; omega
        have ej : put12 (hJ f p q k) (tb q k) (jT (sm (hJ f p q k) k) (sh (hJ f p q k) (tb q k)) (sh (hJ f p q k) (hb p q k + 1))) = put12 (hJ f p q k) (tb q k) (jT (sm f k) (sh f (tb q k)) (sh f (hb p q k + 1))) := by
          rw [hh.1.sm (by omega)]
          exact put12_congr (fun i hi => jT_congr (fun j hj => by unfold sh; exact hJ_out f p q k _ (by omega)) (fun j hj => by unfold sh; exact hJ_out f p q k _ (by omega)) hi)
        rw [ej] at h2
        obtain ⟨σ2, h4, h5, h6⟩ := IH σ1 (by omega) (by omega) h2
        exact ⟨σ2, h4, h5, h3.trans h6⟩
theorem W_handTo {w : Nat} (hw : isW w) {B : Nat} (hB : B < 2 ^ 31) {σ : ST} {f : Nat → Int32} {g : Nat → Int64} (h : RelW B (wv σ w) f g) {p q : Nat} (hp : p < 6) (hq : q < 6) : ∃ σ1, f_X10_handTo w (nI (p * 6 + q)) (nI q) σ = some (nI (cnt (hfl f p q) 6), σ1) ∧ RelW B (wv σ1 w) (hQ f p q) g ∧ Sq (inW w) [] σ σ1 := by
  have hY := h.1.1.2.1
  have hl := c_handTo_loop hw hB (g := g) h.1.1 hp hq (K0 := gA σ (w + 21) (p * 6 + q)) (h.2.2.2.2.2.2.1 p q hp hq).1 FU 0 σ (by omega) (by unfold FU; omega) h
  simp (disch := omega) only [↓mI_e, lit, ofN, bsm, nI_add, pk_mul, pk_sub, nI_e, nI_leE, nI_ltE, nI_mI, mI_nI, mI_lt, nlt_mI, mI_le, nle_mI, nI_addm, sh_b, bI_0, bI_1, bI_bI, ckZ_b, ckZ_n0, ckZ_n1, stIe, stJe, stZ_n0, stZ_n1, rm_nI, dv_nI, if_true, if_false, if_pos, if_neg, rf0, rf1, rf5, rf6, rf7, rf8, rf9, rf20, rf23, rf24, rf25, rf26, rf29, rf31, rf33, rf34, rf35, rf37, rf38, rf41, rf42, rf43,  f_X10_handTo, w_0 hw, w_1 hw, w_2 hw, w_3 hw, w_4 hw, w_5 hw, w_6 hw, w_7 hw, w_8 hw, ws_0 hw, ws_1 hw, ws_2 hw, ws_3 hw, ws_4 hw, ws_5 hw, wd_0 hw, wd_1 hw, wd_2 hw, wd_3 hw, wd_4 hw, wd_5 hw, wh_0 hw, wh_1 hw, wq_0 hw, wq_1 hw, wt_0 hw, wt_1 hw, lw2 hw, lw4 hw, lw6 hw, lw7 hw, lw9 hw, lw10 hw, lw11 hw, lw12 hw, lw13 hw, lw14 hw, lw16 hw, lw17 hw, lw19 hw, lw20 hw, lw21 hw, lw23 hw, lw24 hw, lw25 hw, lw26 hw, lw27 hw, lw3 hw, lw5 hw, sw2 hw, sw4 hw, sw6 hw, sw7 hw, sw9 hw, sw10 hw, sw11 hw, sw12 hw, sw13 hw, sw14 hw, sw16 hw, sw17 hw, sw19 hw, sw20 hw, sw21 hw, sw23 hw, sw24 hw, sw25 hw, sw26 hw, sw27 hw]
  exact hl
/-! the reference -/
theorem r_hands_13 (rec29 : Nat → Int32 → Int32 → Int32 → Int32 → ST → Option (Int32 × ST)) {H : Nat} (hH : H + 13 ≤ 29600) (x1 x2 x3 x4 : Int32) : ∀ (n i : Nat) (τ : ST), i ≤ 13 → 13 - i < n → k_X12_hands_92 rec29 n 0 x1 x2 x3 x4 (nI H) (nI i) τ = rec29 0 (x1 + 1) x2 x3 (x4 + 1) (sA τ 1 (zr (gA τ 1) (H + i) (H + 13))) := by
  intro n
  induction n with
  | zero => intros; omega
  | succ n ih =>
    intro i τ hi hn
    rw [k_X12_hands_92]
    by_cases e : i = 13
    · subst e
      rw [if_pos (show (13 : Int32) ≤ nI 13 from nI_le (Nat.le_refl _) (by decide)), show zr (gA τ 1) (H + 13) (H + 13) = gA τ 1 from by funext j; exact zr_out (by omega), sA_self]
      rfl
    · simp (disch := omega) only [↓mI_e, lit, ofN, bsm, nI_add, pk_mul, pk_sub, nI_e, nI_leE, nI_ltE, nI_mI, mI_nI, mI_lt, nlt_mI, mI_le, nle_mI, nI_addm, sh_b, bI_0, bI_1, bI_bI, ckZ_b, ckZ_n0, ckZ_n1, stIe, stJe, stZ_n0, stZ_n1, rm_nI, dv_nI, if_true, if_false, if_pos, if_neg, rf0, rf1, rf5, rf6, rf7, rf8, rf9, rf20, rf23, rf24, rf25, rf26, rf29, rf31, rf33, rf34, rf35, rf37, rf38, rf41, rf42, rf43,  sr1]
      rw [ih (i + 1) _ (by omega) (by omega), sA_sA, gA_sA, if_pos rfl]
      congr 2
      funext j
      unfold zr
      rw [upd_at]
      by_cases g1 : H + (i + 1) ≤ j ∧ j < H + 13
      · rw [if_pos g1, if_pos (by omega)]
      · rw [if_neg g1]
        by_cases g2 : j = H + i
        · rw [if_pos g2, if_pos (by omega)]
        · rw [if_neg g2, if_neg (by omega)]
def hR (f : Nat → Int32) (p q k : Nat) : Nat → Int32 := zr (hJ f p q k) (hb p q 0) (hb p q k)
theorem hR_out (f : Nat → Int32) (p q : Nat) {k j : Nat} (h1 : j < tb q 0 ∨ tb q k ≤ j) (h2 : j < hb p q 0 ∨ hb p q k ≤ j) : hR f p q k j = f j := by
  unfold hR
  rw [zr_out (by omega), hJ_out f p q k j h1]
theorem r_hands_key {B : Nat} {s : ST} {g : Nat → Int64} {f : Nat → Int32} (h : RelW B s f g) {p q : Nat} (hp : p < 6) (hq : q < 6) (rec16 : Nat → Int32 → Int32 → Int32 → ST → Option (Int32 × ST)) {c0 : Nat} (hr : rch f p q = true) : ∀ (n k : Nat) (τ : ST), k ≤ YN f → YN f - k < n → gA τ 1 = hR f p q k → k_X12_hands_29 rec16 n 0 (nI (c0 + cnt (hfl f p q) k)) (nI p) (nI q) (nI k) τ = rec16 0 (nI (c0 + cnt (hfl f p q) (YN f))) (nI p) (nI (q + 1)) (sA τ 1 (hR f p q (YN f))) := by
  have hY := h.1.1.2.1
  obtain ⟨F, hF, hF2⟩ : ∃ F, FU = F ∧ 5000 < F := ⟨FU, rfl, by unfold FU; omega⟩
  intro n
  induction n with
  | zero => intros; omega
  | succ n ih =>
    intro k τ hk hn hg
    have t1 := tb_s q k
    have t2 := hb_s p q k
    have t3 : 30 ≤ tb q 0 ∧ tb q 0 + 72 ≤ 462 := by unfold tb; omega
    have t4 : 470 ≤ hb p q 0 ∧ hb p q 0 + 78 ≤ 3278 := by unfold hb; omega
    have eo : ∀ j, j < 30 → gA τ 1 j = f j := fun j hj => by rw [hg]; exact hR_out f p q (by omega) (by omega)
    have e4 : gA τ 1 4 = nI (YN f) := by rw [eo 4 (by omega)]; exact eY f
    have er : rch (gA τ 1) p q = true := by rw [← hr]; unfold rch; rw [eo 5 (by omega), eo 6 (by omega)]
    have es : ∀ y, y < 6 → sm (gA τ 1) y = sm f y := fun y hy => by unfold sm; rw [eo _ (by omega)]
    rw [k_X12_hands_29, hF]
    by_cases e : k = YN f
    · subst e
      simp (disch := omega) only [↓mI_e, lit, ofN, bsm, nI_add, pk_mul, pk_sub, nI_e, nI_leE, nI_ltE, nI_mI, mI_nI, mI_lt, nlt_mI, mI_le, nle_mI, nI_addm, sh_b, bI_0, bI_1, bI_bI, ckZ_b, ckZ_n0, ckZ_n1, stIe, stJe, stZ_n0, stZ_n1, rm_nI, dv_nI, if_true, if_false, if_pos, if_neg, rf0, rf1, rf5, rf6, rf7, rf8, rf9, rf20, rf23, rf24, rf25, rf26, rf29, rf31, rf33, rf34, rf35, rf37, rf38, rf41, rf42, rf43,  lr1, e4]
      rw [← hg, sA_self]
    · have et : 470 + 13 * ((6 * p + q) * 6 + k) = hb p q k := rfl
      have et2 : 30 + 12 * (6 * q + k) = tb q k := rfl
      have eh : gA τ 1 (hb p q k) = f (hb p q k) := by rw [hg]; exact hR_out f p q (by omega) (by omega)
      have IH := ih (k + 1)
      rw [cnt] at IH
      rcases ((h.2.2.2.2.2.2.1 p q hp hq).2 k (by omega)).2.2 with z | z
      · have hfl0 : hfl f p q k = false := decide_eq_false (by rw [z.1]; decide)
        rw [hfl0] at IH
        simp only [Bool.false_eq_true, if_false, Nat.add_zero] at IH
        simp (disch := omega) only [↓mI_e, lit, ofN, bsm, nI_add, pk_mul, pk_sub, nI_e, nI_leE, nI_ltE, nI_mI, mI_nI, mI_lt, nlt_mI, mI_le, nle_mI, nI_addm, sh_b, bI_0, bI_1, bI_bI, ckZ_b, ckZ_n0, ckZ_n1, stIe, stJe, stZ_n0, stZ_n1, rm_nI, dv_nI, if_true, if_false, if_pos, if_neg, rf0, rf1, rf5, rf6, rf7, rf8, rf9, rf20, rf23, rf24, rf25, rf26, rf29, rf31, rf33, rf34, rf35, rf37, rf38, rf41, rf42, rf43,  lr1, e4, f_X12_hintOf, et, eh, z.1, k_X12_hands_119]
        refine IH τ (by omega) (by omega) ?_
        rw [hg]
        funext j
        have t5 := hb_s p q (k + 1)
        unfold hR
        rw [hJ, hfl0]
        simp only [Bool.false_eq_true, if_false]
        unfold zr
        by_cases g1 : hb p q 0 ≤ j ∧ j < hb p q k
        · rw [if_pos g1, if_pos (by omega)]
        · rw [if_neg g1]
          by_cases g2 : hb p q 0 ≤ j ∧ j < hb p q (k + 1)
          · rw [if_pos g2, hJ_out f p q k j (by omega)]
            by_cases g3 : j = hb p q k
            · rw [g3]; exact z.1
            · have := z.2 (j - hb p q k - 1) (by omega)
              rw [show hb p q k + 1 + (j - hb p q k - 1) = j by omega] at this
              exact this
          · rw [if_neg g2]
      · have hfl1 : hfl f p q k = true := decide_eq_true z.1
        rw [hfl1] at IH
        simp only [if_true] at IH
        have hj := r_joins (to := tb q k) (fr := hb p q k + 1) (y := k) (by omega) (by omega) (by omega) (by omega) (by omega) (by omega) τ
        have h13 := fun x1 x2 x3 x4 τ' => r_hands_13 (k_X12_hands_29 rec16 n) (H := hb p q k) (by omega) x1 x2 x3 x4 F 0 τ' (by omega) (by omega)
        have n10 : ¬ (nI 1 = nI 0) := by decide
        simp (disch := omega) only [↓mI_e, lit, ofN, bsm, nI_add, pk_mul, pk_sub, nI_e, nI_leE, nI_ltE, nI_mI, mI_nI, mI_lt, nlt_mI, mI_le, nle_mI, nI_addm, sh_b, bI_0, bI_1, bI_bI, ckZ_b, ckZ_n0, ckZ_n1, stIe, stJe, stZ_n0, stZ_n1, rm_nI, dv_nI, if_true, if_false, if_pos, if_neg, rf0, rf1, rf5, rf6, rf7, rf8, rf9, rf20, rf23, rf24, rf25, rf26, rf29, rf31, rf33, rf34, rf35, rf37, rf38, rf41, rf42, rf43,  lr1, e4, f_X12_hintOf, f_X12_thingOf, et, et2, eh, z.1, n10, r_doReach, er, Bool.true_eq_false, hj, h13, gA_sA, sA_sA]
        refine Eq.trans (IH (sA τ 1 _) (by omega) (by omega) ?_) ?_
        · rw [gA_sA, if_pos rfl, es k (by omega)]
          have ej : put12 (gA τ 1) (tb q k) (jT (sm f k) (sh (gA τ 1) (tb q k)) (sh (gA τ 1) (hb p q k + 1))) = put12 (gA τ 1) (tb q k) (jT (sm f k) (sh f (tb q k)) (sh f (hb p q k + 1))) := put12_congr (fun i hi => jT_congr (fun j hj => by unfold sh; rw [hg]; exact hR_out f p q (by omega) (by omega)) (fun j hj => by unfold sh; rw [hg]; exact hR_out f p q (by omega) (by omega)) hi)
          rw [ej, hg]
          have t5 := hb_s p q (k + 1)
          funext j
          unfold hR
          rw [hJ, hfl1]
          simp only [if_true]
          generalize jT (sm f k) (sh f (tb q k)) (sh f (hb p q k + 1)) = u
          unfold zr
          by_cases g1 : hb p q k + 0 ≤ j ∧ j < hb p q k + 13
          · rw [if_pos g1, if_pos (by omega)]
          · rw [if_neg g1]
            by_cases g2 : hb p q 0 ≤ j ∧ j < hb p q (k + 1)
            · rw [if_pos g2, put12_out (by omega), if_pos (by omega)]
            · rw [if_neg g2]
              by_cases g3 : tb q k ≤ j ∧ j < tb q k + 12
              · unfold put12; rw [if_pos g3, if_pos g3]
              · rw [put12_out (by omega), put12_out (by omega), if_neg (by omega)]
        · rw [sA_sA]
theorem r_hands_no {f : Nat → Int32} (hY : YN f ≤ 6) {p q : Nat} (hp : p < 6) (hq : q < 6) (rec16 : Nat → Int32 → Int32 → Int32 → ST → Option (Int32 × ST)) (x : Int32) (hr : rch f p q = false) {τ : ST} (hg : gA τ 1 = f) : ∀ (n k : Nat), k ≤ YN f → YN f - k < n → k_X12_hands_29 rec16 n 0 x (nI p) (nI q) (nI k) τ = rec16 0 x (nI p) (nI (q + 1)) τ := by
  have e4 : gA τ 1 4 = nI (YN f) := by rw [hg]; exact eY f
  intro n
  induction n with
  | zero => intros; omega
  | succ n ih =>
    intro k hk hn
    rw [k_X12_hands_29]
    by_cases e : k = YN f
    · subst e
      simp (disch := omega) only [↓mI_e, lit, ofN, bsm, nI_add, pk_mul, pk_sub, nI_e, nI_leE, nI_ltE, nI_mI, mI_nI, mI_lt, nlt_mI, mI_le, nle_mI, nI_addm, sh_b, bI_0, bI_1, bI_bI, ckZ_b, ckZ_n0, ckZ_n1, stIe, stJe, stZ_n0, stZ_n1, rm_nI, dv_nI, if_true, if_false, if_pos, if_neg, rf0, rf1, rf5, rf6, rf7, rf8, rf9, rf20, rf23, rf24, rf25, rf26, rf29, rf31, rf33, rf34, rf35, rf37, rf38, rf41, rf42, rf43,  lr1, e4]
    · have IH := ih (k + 1) (by omega) (by omega)
      simp (disch := omega) only [↓mI_e, lit, ofN, bsm, nI_add, pk_mul, pk_sub, nI_e, nI_leE, nI_ltE, nI_mI, mI_nI, mI_lt, nlt_mI, mI_le, nle_mI, nI_addm, sh_b, bI_0, bI_1, bI_bI, ckZ_b, ckZ_n0, ckZ_n1, stIe, stJe, stZ_n0, stZ_n1, rm_nI, dv_nI, if_true, if_false, if_pos, if_neg, rf0, rf1, rf5, rf6, rf7, rf8, rf9, rf20, rf23, rf24, rf25, rf26, rf29, rf31, rf33, rf34, rf35, rf37, rf38, rf41, rf42, rf43,  lr1, e4, f_X12_hintOf, r_doReach, hg, hr, k_X12_hands_119, IH, ite_self]
theorem hF_eq {B : Nat} {s : ST} {g : Nat → Int64} {f : Nat → Int32} (h : RelW B s f g) {p q : Nat} (hp : p < 6) (hq : q < 6) : hR f p q (YN f) = hQ f p q := by
  have hY := h.1.1.2.1
  have t3 : 30 ≤ tb q 0 ∧ tb q 0 + 72 ≤ 462 := by unfold tb; omega
  have t4 : 470 ≤ hb p q 0 := by unfold hb; omega
  have t5 := hb_s p q (YN f)
  have t6 := hb_s p q 6
  have t7 := tb_s q (YN f)
  funext j
  unfold hR hQ zr
  by_cases g1 : hb p q 0 ≤ j ∧ j < hb p q (YN f)
  · rw [if_pos g1, if_pos (by omega)]
  · rw [if_neg g1]
    by_cases g2 : hb p q 0 ≤ j ∧ j < hb p q 6
    · rw [if_pos g2, hJ_out f p q _ j (by omega)]
      obtain ⟨y, k, hy, hk, rfl⟩ := hb_split g2.1 g2.2
      have t8 := hb_s p q y
      rcases ((h.2.2.2.2.2.2.1 p q hp hq).2 y hy).2.2 with z1 | z1
      · by_cases k0 : k = 0
        · subst k0; rw [Nat.add_zero]; exact z1.1
        · have := z1.2 (k - 1) (by omega)
          rw [show hb p q y + 1 + (k - 1) = hb p q y + k by omega] at this
          exact this
      · omega
    · rw [if_neg g2]
theorem cnt_hfl {B : Nat} {s : ST} {g : Nat → Int64} {f : Nat → Int32} (h : RelW B s f g) {p q : Nat} (hp : p < 6) (hq : q < 6) : cnt (hfl f p q) 6 = cnt (hfl f p q) (YN f) := by
  have hY := h.1.1.2.1
  refine cnt_tail 6 hY (fun i a b => ?_)
  rcases ((h.2.2.2.2.2.2.1 p q hp hq).2 i b).2.2 with z1 | z1
  · exact decide_eq_false (by rw [z1.1]; decide)
  · omega
theorem hF_h {f : Nat → Int32} (hY : YN f ≤ 6) {p q : Nat} (hp : p < 6) (hq : q < 6) : Hd5 f (hQ f p q) ∧ ∀ k, 3278 ≤ k → hQ f p q k = f k := by
  have t4 : 470 ≤ hb p q 0 ∧ hb p q 6 ≤ 3278 := by unfold hb; omega
  have h1 := hJ_h f (p := p) hq (YN f)
  have t3 : 30 ≤ tb q 0 ∧ tb q (YN f) ≤ 462 := by unfold tb; omega
  refine ⟨⟨fun k hk => ?_, ?_, ?_⟩, fun k hk => ?_⟩
  · unfold hQ; rw [zr_out (by omega)]; exact h1.1 k hk
  · unfold hQ; rw [zr_out (by omega)]; exact h1.2.1
  · unfold hQ; rw [zr_out (by omega)]; exact h1.2.2
  · unfold hQ
    rw [zr_out (by omega)]
    exact hJ_out f p q _ k (by omega)
/-- both sides, keeper by keeper -/
theorem hand_in {w : Nat} (hw : isW w) {B : Nat} (hB : B < 2 ^ 31) {g : Nat → Int64} {p : Nat} (hp : p < 6) (rec4 : Nat → Int32 → Int32 → ST → Option (Int32 × ST)) (rec4' : Nat → Int32 → Int32 → ST → Option (Int32 × ST)) : ∀ (n n' q c : Nat) (σ τ : ST), q ≤ KN (gA τ 1) → KN (gA τ 1) - q < n → KN (gA τ 1) - q < n' → c + 6 * (KN (gA τ 1) - q) < 2 ^ 31 → RelW B (wv σ w) (gA τ 1) g → ∃ σ1 τ1 c1, k_X10_handOn_17 rec4 n w (nI c) (nI p) (nI q) σ = rec4 w (nI c1) (nI (p + 1)) σ1 ∧ k_X12_hands_16 rec4' n' 0 (nI c) (nI p) (nI q) τ = rec4' 0 (nI c1) (nI (p + 1)) τ1 ∧ RelW B (wv σ1 w) (gA τ1 1) g ∧ Wp w σ σ1 τ τ1 ∧ gI τ1 0 28 = gI τ 0 28 ∧ KN (gA τ1 1) = KN (gA τ 1) ∧ c1 ≤ c + 6 * (KN (gA τ 1) - q) := by
  obtain ⟨F, hF, hF2⟩ : ∃ F, FU = F ∧ 5000 < F := ⟨FU, rfl, by unfold FU; omega⟩
  intro n
  induction n with
  | zero => intros; omega
  | succ n ih =>
    intro n' q c σ τ hq hn hn' hc h
    obtain ⟨n', rfl⟩ : ∃ m, n' = m + 1 := ⟨n' - 1, by omega⟩
    have hK := h.1.1.1
    have hY := h.1.1.2.1
    have e6 : gI σ (w + 1) 6 = nI (KN (gA τ 1)) := h.1.2.1.1.trans (eK _)
    rw [k_X10_handOn_17, k_X12_hands_16, hF]
    by_cases e : q = KN (gA τ 1)
    · subst e
      simp (disch := omega) only [↓mI_e, lit, ofN, bsm, nI_add, pk_mul, pk_sub, nI_e, nI_leE, nI_ltE, nI_mI, mI_nI, mI_lt, nlt_mI, mI_le, nle_mI, nI_addm, sh_b, bI_0, bI_1, bI_bI, ckZ_b, ckZ_n0, ckZ_n1, stIe, stJe, stZ_n0, stZ_n1, rm_nI, dv_nI, if_true, if_false, if_pos, if_neg, rf0, rf1, rf5, rf6, rf7, rf8, rf9, rf20, rf23, rf24, rf25, rf26, rf29, rf31, rf33, rf34, rf35, rf37, rf38, rf41, rf42, rf43,  w_0 hw, w_1 hw, w_2 hw, w_3 hw, w_4 hw, w_5 hw, w_6 hw, w_7 hw, w_8 hw, ws_0 hw, ws_1 hw, ws_2 hw, ws_3 hw, ws_4 hw, ws_5 hw, wd_0 hw, wd_1 hw, wd_2 hw, wd_3 hw, wd_4 hw, wd_5 hw, wh_0 hw, wh_1 hw, wq_0 hw, wq_1 hw, wt_0 hw, wt_1 hw, lw2 hw, lw4 hw, lw6 hw, lw7 hw, lw9 hw, lw10 hw, lw11 hw, lw12 hw, lw13 hw, lw14 hw, lw16 hw, lw17 hw, lw19 hw, lw20 hw, lw21 hw, lw23 hw, lw24 hw, lw25 hw, lw26 hw, lw27 hw, lw3 hw, lw5 hw, sw2 hw, sw4 hw, sw6 hw, sw7 hw, sw9 hw, sw10 hw, sw11 hw, sw12 hw, sw13 hw, sw14 hw, sw16 hw, sw17 hw, sw19 hw, sw20 hw, sw21 hw, sw23 hw, sw24 hw, sw25 hw, sw26 hw, sw27 hw, e6, lr1, eK (gA τ 1)]
      exact ⟨σ, τ, c, rfl, rfl, h, Wp.rf, rfl, rfl, by omega⟩
    · have er := c_reaches h.2.1 (a := p) (b := q) (by omega) (by omega)
      cases hr : rch (gA τ 1) p q
      · rw [hr] at er
        have h2 := r_hands_no (f := gA τ 1) hY hp (q := q) (by omega) (k_X12_hands_16 rec4' n') (nI c) hr rfl F 0 (by omega) (by omega)
        obtain ⟨σ1, τ1, c1, i1, i2, i3, i4, i5, i6, i7⟩ := ih n' (q + 1) c σ τ (by omega) (by omega) (by omega) (by omega) h
        simp (disch := omega) only [↓mI_e, lit, ofN, bsm, nI_add, pk_mul, pk_sub, nI_e, nI_leE, nI_ltE, nI_mI, mI_nI, mI_lt, nlt_mI, mI_le, nle_mI, nI_addm, sh_b, bI_0, bI_1, bI_bI, ckZ_b, ckZ_n0, ckZ_n1, stIe, stJe, stZ_n0, stZ_n1, rm_nI, dv_nI, if_true, if_false, if_pos, if_neg, rf0, rf1, rf5, rf6, rf7, rf8, rf9, rf20, rf23, rf24, rf25, rf26, rf29, rf31, rf33, rf34, rf35, rf37, rf38, rf41, rf42, rf43,  w_0 hw, w_1 hw, w_2 hw, w_3 hw, w_4 hw, w_5 hw, w_6 hw, w_7 hw, w_8 hw, ws_0 hw, ws_1 hw, ws_2 hw, ws_3 hw, ws_4 hw, ws_5 hw, wd_0 hw, wd_1 hw, wd_2 hw, wd_3 hw, wd_4 hw, wd_5 hw, wh_0 hw, wh_1 hw, wq_0 hw, wq_1 hw, wt_0 hw, wt_1 hw, lw2 hw, lw4 hw, lw6 hw, lw7 hw, lw9 hw, lw10 hw, lw11 hw, lw12 hw, lw13 hw, lw14 hw, lw16 hw, lw17 hw, lw19 hw, lw20 hw, lw21 hw, lw23 hw, lw24 hw, lw25 hw, lw26 hw, lw27 hw, lw3 hw, lw5 hw, sw2 hw, sw4 hw, sw6 hw, sw7 hw, sw9 hw, sw10 hw, sw11 hw, sw12 hw, sw13 hw, sw14 hw, sw16 hw, sw17 hw, sw19 hw, sw20 hw, sw21 hw, sw23 hw, sw24 hw, sw25 hw, sw26 hw, sw27 hw, e6, lr1, eK (gA τ 1), er, k_X10_handOn_51, h2, i1, i2]
        exact ⟨σ1, τ1, c1, rfl, rfl, i3, i4, i5, i6, by omega⟩
      · rw [hr] at er
        obtain ⟨σ1, h1, h2, h3⟩ := W_handTo hw hB h hp (q := q) (by omega)
        have h4 := r_hands_key h hp (q := q) (by omega) (k_X12_hands_16 rec4' n') (c0 := c) hr F 0 τ (by omega) (by omega) (by funext j; unfold hR; rw [zr_out (by omega)]; rfl)
        rw [hF_eq h hp (by omega), ← cnt_hfl h hp (by omega)] at h4
        have hc6 := cnt_le (hfl (gA τ 1) p q) 6
        obtain ⟨hh, hreg⟩ := hF_h hY hp (q := q) (by omega)
        have hKq : KN (gA (sA τ 1 (hQ (gA τ 1) p q)) 1) = KN (gA τ 1) := hh.1.K
        obtain ⟨σ2, τ2, c1, i1, i2, i3, i4, i5, i6, i7⟩ := ih n' (q + 1) (c + cnt (hfl (gA τ 1) p q) 6) σ1 (sA τ 1 (hQ (gA τ 1) p q)) (by omega) (by omega) (by omega) (by omega) h2
        rw [cnt, Nat.add_zero] at h4
        simp (disch := omega) only [↓mI_e, lit, ofN, bsm, nI_add, pk_mul, pk_sub, nI_e, nI_leE, nI_ltE, nI_mI, mI_nI, mI_lt, nlt_mI, mI_le, nle_mI, nI_addm, sh_b, bI_0, bI_1, bI_bI, ckZ_b, ckZ_n0, ckZ_n1, stIe, stJe, stZ_n0, stZ_n1, rm_nI, dv_nI, if_true, if_false, if_pos, if_neg, rf0, rf1, rf5, rf6, rf7, rf8, rf9, rf20, rf23, rf24, rf25, rf26, rf29, rf31, rf33, rf34, rf35, rf37, rf38, rf41, rf42, rf43,  w_0 hw, w_1 hw, w_2 hw, w_3 hw, w_4 hw, w_5 hw, w_6 hw, w_7 hw, w_8 hw, ws_0 hw, ws_1 hw, ws_2 hw, ws_3 hw, ws_4 hw, ws_5 hw, wd_0 hw, wd_1 hw, wd_2 hw, wd_3 hw, wd_4 hw, wd_5 hw, wh_0 hw, wh_1 hw, wq_0 hw, wq_1 hw, wt_0 hw, wt_1 hw, lw2 hw, lw4 hw, lw6 hw, lw7 hw, lw9 hw, lw10 hw, lw11 hw, lw12 hw, lw13 hw, lw14 hw, lw16 hw, lw17 hw, lw19 hw, lw20 hw, lw21 hw, lw23 hw, lw24 hw, lw25 hw, lw26 hw, lw27 hw, lw3 hw, lw5 hw, sw2 hw, sw4 hw, sw6 hw, sw7 hw, sw9 hw, sw10 hw, sw11 hw, sw12 hw, sw13 hw, sw14 hw, sw16 hw, sw17 hw, sw19 hw, sw20 hw, sw21 hw, sw23 hw, sw24 hw, sw25 hw, sw26 hw, sw27 hw, e6, lr1, eK (gA τ 1), er, k_X10_handOn_51, Bool.true_eq_false, h1, h4, i1, i2]
        refine ⟨σ2, τ2, c1, rfl, rfl, i3, ⟨h3.trans i4.1, ((Sc.rf τ).sA _ rfl).trans i4.2.1, fun k a b => ?_⟩, i5, by omega, by omega⟩
        rw [i4.2.2 k a b, gA_sA, if_pos rfl, hreg k (by omega)]
theorem hand_out {w : Nat} (hw : isW w) {B : Nat} (hB : B < 2 ^ 31) {g : Nat → Int64} : ∀ (n n' p c : Nat) (σ τ : ST), p ≤ KN (gA τ 1) → KN (gA τ 1) - p < n → KN (gA τ 1) - p < n' → c + 36 * (KN (gA τ 1) - p) < 2 ^ 31 → RelW B (wv σ w) (gA τ 1) g → ∃ σ1 τ1 c1, k_X10_handOn_4 n w (nI c) (nI p) σ = some (nI c1, σ1) ∧ k_X12_hands_4 n' 0 (nI c) (nI p) τ = some (nI c1, τ1) ∧ RelW B (wv σ1 w) (gA τ1 1) g ∧ Wp w σ σ1 τ τ1 ∧ gI τ1 0 28 = gI τ 0 28 ∧ c1 ≤ c + 36 * (KN (gA τ 1) - p) := by
  obtain ⟨F, hF, hF2⟩ : ∃ F, FU = F ∧ 5000 < F := ⟨FU, rfl, by unfold FU; omega⟩
  intro n
  induction n with
  | zero => intros; omega
  | succ n ih =>
    intro n' p c σ τ hq hn hn' hc h
    obtain ⟨n', rfl⟩ : ∃ m, n' = m + 1 := ⟨n' - 1, by omega⟩
    have hK := h.1.1.1
    have e6 : gI σ (w + 1) 6 = nI (KN (gA τ 1)) := h.1.2.1.1.trans (eK _)
    rw [k_X10_handOn_4, k_X12_hands_4, hF]
    by_cases e : p = KN (gA τ 1)
    · subst e
      simp (disch := omega) only [↓mI_e, lit, ofN, bsm, nI_add, pk_mul, pk_sub, nI_e, nI_leE, nI_ltE, nI_mI, mI_nI, mI_lt, nlt_mI, mI_le, nle_mI, nI_addm, sh_b, bI_0, bI_1, bI_bI, ckZ_b, ckZ_n0, ckZ_n1, stIe, stJe, stZ_n0, stZ_n1, rm_nI, dv_nI, if_true, if_false, if_pos, if_neg, rf0, rf1, rf5, rf6, rf7, rf8, rf9, rf20, rf23, rf24, rf25, rf26, rf29, rf31, rf33, rf34, rf35, rf37, rf38, rf41, rf42, rf43,  w_0 hw, w_1 hw, w_2 hw, w_3 hw, w_4 hw, w_5 hw, w_6 hw, w_7 hw, w_8 hw, ws_0 hw, ws_1 hw, ws_2 hw, ws_3 hw, ws_4 hw, ws_5 hw, wd_0 hw, wd_1 hw, wd_2 hw, wd_3 hw, wd_4 hw, wd_5 hw, wh_0 hw, wh_1 hw, wq_0 hw, wq_1 hw, wt_0 hw, wt_1 hw, lw2 hw, lw4 hw, lw6 hw, lw7 hw, lw9 hw, lw10 hw, lw11 hw, lw12 hw, lw13 hw, lw14 hw, lw16 hw, lw17 hw, lw19 hw, lw20 hw, lw21 hw, lw23 hw, lw24 hw, lw25 hw, lw26 hw, lw27 hw, lw3 hw, lw5 hw, sw2 hw, sw4 hw, sw6 hw, sw7 hw, sw9 hw, sw10 hw, sw11 hw, sw12 hw, sw13 hw, sw14 hw, sw16 hw, sw17 hw, sw19 hw, sw20 hw, sw21 hw, sw23 hw, sw24 hw, sw25 hw, sw26 hw, sw27 hw, e6, lr1, eK (gA τ 1)]
      exact ⟨σ, τ, c, rfl, rfl, h, Wp.rf, rfl, by omega⟩
    · obtain ⟨σ1, τ1, c1, i1, i2, i3, i4, i5, i6, i7⟩ := hand_in hw hB (p := p) (by omega) (k_X10_handOn_4 n) (k_X12_hands_4 n') F F 0 c σ τ (by omega) (by omega) (by omega) (by omega) h
      obtain ⟨σ2, τ2, c2, j1, j2, j3, j4, j5, j6⟩ := ih n' (p + 1) c1 σ1 τ1 (by omega) (by omega) (by omega) (by omega) i3
      simp (disch := omega) only [↓mI_e, lit, ofN, bsm, nI_add, pk_mul, pk_sub, nI_e, nI_leE, nI_ltE, nI_mI, mI_nI, mI_lt, nlt_mI, mI_le, nle_mI, nI_addm, sh_b, bI_0, bI_1, bI_bI, ckZ_b, ckZ_n0, ckZ_n1, stIe, stJe, stZ_n0, stZ_n1, rm_nI, dv_nI, if_true, if_false, if_pos, if_neg, rf0, rf1, rf5, rf6, rf7, rf8, rf9, rf20, rf23, rf24, rf25, rf26, rf29, rf31, rf33, rf34, rf35, rf37, rf38, rf41, rf42, rf43,  w_0 hw, w_1 hw, w_2 hw, w_3 hw, w_4 hw, w_5 hw, w_6 hw, w_7 hw, w_8 hw, ws_0 hw, ws_1 hw, ws_2 hw, ws_3 hw, ws_4 hw, ws_5 hw, wd_0 hw, wd_1 hw, wd_2 hw, wd_3 hw, wd_4 hw, wd_5 hw, wh_0 hw, wh_1 hw, wq_0 hw, wq_1 hw, wt_0 hw, wt_1 hw, lw2 hw, lw4 hw, lw6 hw, lw7 hw, lw9 hw, lw10 hw, lw11 hw, lw12 hw, lw13 hw, lw14 hw, lw16 hw, lw17 hw, lw19 hw, lw20 hw, lw21 hw, lw23 hw, lw24 hw, lw25 hw, lw26 hw, lw27 hw, lw3 hw, lw5 hw, sw2 hw, sw4 hw, sw6 hw, sw7 hw, sw9 hw, sw10 hw, sw11 hw, sw12 hw, sw13 hw, sw14 hw, sw16 hw, sw17 hw, sw19 hw, sw20 hw, sw21 hw, sw23 hw, sw24 hw, sw25 hw, sw26 hw, sw27 hw, e6, lr1, eK (gA τ 1), i1, i2, j1, j2]
      exact ⟨σ2, τ2, c2, rfl, rfl, j3, i4.trans j4, by rw [j5, i5], by omega⟩
theorem W_hand {w : Nat} (hw : isW w) {B : Nat} (hB : B < 2 ^ 31) {σ τ : ST} {g : Nat → Int64} (h : RelW B (wv σ w) (gA τ 1) g) : ∃ σ1 τ1 c, f_X10_handOn w σ = some (nI c, σ1) ∧ f_X12_hands 0 τ = some (nI c, τ1) ∧ RelW B (wv σ1 w) (gA τ1 1) g ∧ Wp w σ σ1 τ τ1 ∧ gI τ1 0 28 = gI τ 0 28 ∧ c ≤ 216 := by
  have hK := h.1.1.1
  obtain ⟨σ1, τ1, c, h1, h2, h3, h4, h5, h6⟩ := hand_out hw hB FU FU 0 0 σ τ (by omega) (by unfold FU; omega) (by unfold FU; omega) (by omega) h
  exact ⟨σ1, τ1, c, h1, h2, h3, h4, h5, by omega⟩
theorem sim_hand (i : Nat) (hi : i + 6 ≤ 3072) : SIM_hand (Rel i) (Rel (i + 6)) := by
  intro σ τ h
  have hW := h.2.2.2.2.1
  show Sm i _ _
  obtain ⟨σ1, τ1, c, h1, h2, h3, h4, h5, h6⟩ := W_hand wM_w (by omega) hW
  simp (disch := omega) only [↓mI_e, lit, ofN, bsm, nI_add, pk_mul, pk_sub, nI_e, nI_leE, nI_ltE, nI_mI, mI_nI, mI_lt, nlt_mI, mI_le, nle_mI, nI_addm, sh_b, bI_0, bI_1, bI_bI, ckZ_b, ckZ_n0, ckZ_n1, stIe, stJe, stZ_n0, stZ_n1, rm_nI, dv_nI, if_true, if_false, if_pos, if_neg, rf0, rf1, rf5, rf6, rf7, rf8, rf9, rf20, rf23, rf24, rf25, rf26, rf29, rf31, rf33, rf34, rf35, rf37, rf38, rf41, rf42, rf43,  f_X11_hand, f_X12_hand, c02, h1, h2, c_answer, r_gives]
  exact Sm_W h h4 h5 (RelW_mono (by omega) h3) _ _
/-! NIGHT -/
theorem W_copyH {w : Nat} (hw : isW w) {B : Nat} {σ : ST} {f : Nat → Int32} {g : Nat → Int64} (h : RelW B (wv σ w) f g) {p q y : Nat} (hp : p < 6) (hq : q < 6) (hy : y < 6) (hne : p ≠ q) : ∃ σ1, f_X0_copyCell (w + 15) (nI (p * 6 + y)) (w + 15) (nI (q * 6 + y)) σ = some σ1 ∧ RelW B (wv σ1 w) (put12 f (tb p y) (sh f (tb q y))) g ∧ Sq (inW w) [] σ σ1 := by
  have e1 := c_copyCell (isC_h hw) (isC_h hw) (i := p * 6 + y) (j := q * 6 + y) (by omega) (by omega) (Or.inl rfl) σ
  obtain ⟨c2, t2⟩ := h.2.2.2.2.2.1 q y hq hy
  have c2' := wv_CR (c := 15) (by decide) c2
  refine ⟨_, e1, ?_, ?_⟩
  · rw [show w + 15 + 1 = w + 16 by omega, show w + 15 + 2 = w + 17 by omega, wv_sA _ _ (by decide), wv_sA _ _ (by decide)]
    refine RelW_have h hp hy ?_ ?_ t2
    · refine ⟨fun _ _ => rfl, fun x h1 h2 => by rw [gA_sA, if_neg h2, gA_sA, if_neg h1], fun _ => rfl, fun j hj => ⟨?_, ?_⟩⟩
      · rw [gA_sA, if_neg (by decide), gA_sA, if_pos rfl, cF_at, if_neg hj]; rfl
      · rw [gA_sA, if_pos rfl, cF_at, if_neg hj]; rfl
    · intro k hk
      have h1 := c2' k hk
      have a1 : cF σ (w + 16) (p * 6 + y) (w + 16) (q * 6 + y) ((p * 6 + y) * 6 + k) = gA σ (w + 16) ((q * 6 + y) * 6 + k) := by rw [cF_at, if_pos (by omega), show (p * 6 + y) * 6 + k - (p * 6 + y) * 6 = k by omega]
      have a2 : cF σ (w + 17) (p * 6 + y) (w + 17) (q * 6 + y) ((p * 6 + y) * 6 + k) = gA σ (w + 17) ((q * 6 + y) * 6 + k) := by rw [cF_at, if_pos (by omega), show (p * 6 + y) * 6 + k - (p * 6 + y) * 6 = k by omega]
      show if sm f y then (cF σ (w + 16) _ _ _ _ = _ ∧ cF σ (w + 17) _ _ _ _ = _ ∧ _) else (cF σ (w + 16) _ _ _ _ = _ ∧ cF σ (w + 17) _ _ _ _ = _)
      rw [a1, a2]; exact h1
  · rw [show w + 15 + 1 = w + 16 by omega, show w + 15 + 2 = w + 17 by omega]
    exact SqW_sA hw (SqW_sA hw (Sq.rf σ) (by decide) _) (by decide) _
def nJ (f : Nat → Int32) (a b y : Nat) (G : Nat → Int32) : Nat → Int32 := put12 (put12 G (tb a y) (jT (sm f y) (sh G (tb a y)) (sh G (tb b y)))) (tb b y) (sh (put12 G (tb a y) (jT (sm f y) (sh G (tb a y)) (sh G (tb b y)))) (tb a y))
def nS (f : Nat → Int32) (a b : Nat) : Nat → (Nat → Int32)
  | 0 => f
  | k + 1 => if dfr f a b k then nJ f a b k (nS f a b k) else nS f a b k
theorem nS_out (f : Nat → Int32) {a b : Nat} (ha : a < 6) (hb : b < 6) : ∀ k, k ≤ 6 → ∀ j, (j < 30 ∨ 462 ≤ j ∨ (∃ p y, p < 6 ∧ y < 6 ∧ k ≤ y ∧ tb p y ≤ j ∧ j < tb p y + 12)) → nS f a b k j = f j
  | 0, _, _, _ => rfl
  | k + 1, hk, j, hj => by
    have t1 := tb_lt (p := a) (y := k) ha (by omega)
    have t2 := tb_lt (p := b) (y := k) hb (by omega)
    have ih := nS_out f ha hb k (by omega) j (by
      rcases hj with h | h | ⟨p, y, h1, h2, h3, h4⟩
      · exact Or.inl h
      · exact Or.inr (Or.inl h)
      · exact Or.inr (Or.inr ⟨p, y, h1, h2, by omega, h4⟩))
    have o1 : j < tb a k ∨ tb a k + 12 ≤ j := by
      rcases hj with h | h | ⟨p, y, h1, h2, h3, h4⟩
      · omega
      · omega
      · unfold tb at *; omega
    have o2 : j < tb b k ∨ tb b k + 12 ≤ j := by
      rcases hj with h | h | ⟨p, y, h1, h2, h3, h4⟩
      · omega
      · omega
      · unfold tb at *; omega
    rw [nS]
    split
    · unfold nJ
      rw [put12_out o2, put12_out o1]; exact ih
    · exact ih
theorem nS_h (f : Nat → Int32) {a b : Nat} (ha : a < 6) (hb : b < 6) {k : Nat} (hk : k ≤ 6) : Hd5 f (nS f a b k) := ⟨fun j hj => nS_out f ha hb k hk j (by omega), nS_out f ha hb k hk 5 (by omega), nS_out f ha hb k hk 6 (by omega)⟩
theorem nS_lk (f : Nat → Int32) {a b : Nat} (ha : a < 6) (hb : b < 6) {k : Nat} (hk : k < 6) : lk (nS f a b k) (tb a k) (tb b k) 12 = lk f (tb a k) (tb b k) 12 := by
  unfold lk
  apply decide_eq_decide.mpr
  have e1 : ∀ i, i < 12 → nS f a b k (tb a k + i) = f (tb a k + i) := fun i hi => nS_out f ha hb k (by omega) _ (Or.inr (Or.inr ⟨a, k, ha, hk, Nat.le_refl _, by omega, by omega⟩))
  have e2 : ∀ i, i < 12 → nS f a b k (tb b k + i) = f (tb b k + i) := fun i hi => nS_out f ha hb k (by omega) _ (Or.inr (Or.inr ⟨b, k, hb, hk, Nat.le_refl _, by omega, by omega⟩))
  exact ⟨fun h i hi => by rw [← e1 i hi, ← e2 i hi]; exact h i hi, fun h i hi => by rw [e1 i hi, e2 i hi]; exact h i hi⟩
theorem c_compare_loop {w : Nat} (hw : isW w) {B : Nat} (hB : B < 2 ^ 31) {g : Nat → Int64} {f : Nat → Int32} (hf : WFs f) {a b : Nat} (ha : a < 6) (hb : b < 6) (hne : a ≠ b) : ∀ (n k : Nat) (σ : ST), k ≤ YN f → YN f - k < n → RelW B (wv σ w) (nS f a b k) g → ∃ σ1, k_X10_compare_21 n w (nI a) (nI b) (nI (cnt (dfr f a b) k)) (nI k) σ = some (nI (cnt (dfr f a b) (YN f)), σ1) ∧ RelW B (wv σ1 w) (nS f a b (YN f)) g ∧ Sq (inW w) [] σ σ1 := by
  have hY := hf.2.1
  have hK := hf.1
  intro n
  induction n with
  | zero => intros; omega
  | succ n ih =>
    intro k σ hk hn h
    have hh := nS_h f ha hb (k := k) (by omega)
    have e7 : gI σ (w + 1) 7 = nI (YN f) := by
      have h1 : gI σ (w + 1) 7 = nS f a b k 4 := h.1.2.1.2.1
      rw [h1, hh.1 4 (by omega)]; exact eY f
    rw [k_X10_compare_21]
    by_cases e : k = YN f
    · subst e
      simp (disch := omega) only [↓mI_e, lit, ofN, bsm, nI_add, pk_mul, pk_sub, nI_e, nI_leE, nI_ltE, nI_mI, mI_nI, mI_lt, nlt_mI, mI_le, nle_mI, nI_addm, sh_b, bI_0, bI_1, bI_bI, ckZ_b, ckZ_n0, ckZ_n1, stIe, stJe, stZ_n0, stZ_n1, rm_nI, dv_nI, if_true, if_false, if_pos, if_neg, rf0, rf1, rf5, rf6, rf7, rf8, rf9, rf20, rf23, rf24, rf25, rf26, rf29, rf31, rf33, rf34, rf35, rf37, rf38, rf41, rf42, rf43,  w_0 hw, w_1 hw, w_2 hw, w_3 hw, w_4 hw, w_5 hw, w_6 hw, w_7 hw, w_8 hw, ws_0 hw, ws_1 hw, ws_2 hw, ws_3 hw, ws_4 hw, ws_5 hw, wd_0 hw, wd_1 hw, wd_2 hw, wd_3 hw, wd_4 hw, wd_5 hw, wh_0 hw, wh_1 hw, wq_0 hw, wq_1 hw, wt_0 hw, wt_1 hw, lw2 hw, lw4 hw, lw6 hw, lw7 hw, lw9 hw, lw10 hw, lw11 hw, lw12 hw, lw13 hw, lw14 hw, lw16 hw, lw17 hw, lw19 hw, lw20 hw, lw21 hw, lw23 hw, lw24 hw, lw25 hw, lw26 hw, lw27 hw, lw3 hw, lw5 hw, sw2 hw, sw4 hw, sw6 hw, sw7 hw, sw9 hw, sw10 hw, sw11 hw, sw12 hw, sw13 hw, sw14 hw, sw16 hw, sw17 hw, sw19 hw, sw20 hw, sw21 hw, sw23 hw, sw24 hw, sw25 hw, sw26 hw, sw27 hw, e7]
      exact ⟨σ, rfl, h, Sq.rf σ⟩
    · have e1 := c_areBothPlaces hw h.1 (y := k) (a := a) (b := b) (by rw [hh.1.Y]; omega) (by omega) (by omega)
      rw [hh.1.pl hK (by omega), hh.1.pl hK (by omega)] at e1
      have e2 := c_areLike hw h.2.2.2.2.2.1 (a := a) (b := b) (y := k) ha hb (by omega)
      rw [nS_lk f ha hb (by omega)] at e2
      have IH := ih (k + 1)
      rw [cnt, nS] at IH
      simp (disch := omega) only [↓mI_e, lit, ofN, bsm, nI_add, pk_mul, pk_sub, nI_e, nI_leE, nI_ltE, nI_mI, mI_nI, mI_lt, nlt_mI, mI_le, nle_mI, nI_addm, sh_b, bI_0, bI_1, bI_bI, ckZ_b, ckZ_n0, ckZ_n1, stIe, stJe, stZ_n0, stZ_n1, rm_nI, dv_nI, if_true, if_false, if_pos, if_neg, rf0, rf1, rf5, rf6, rf7, rf8, rf9, rf20, rf23, rf24, rf25, rf26, rf29, rf31, rf33, rf34, rf35, rf37, rf38, rf41, rf42, rf43,  w_0 hw, w_1 hw, w_2 hw, w_3 hw, w_4 hw, w_5 hw, w_6 hw, w_7 hw, w_8 hw, ws_0 hw, ws_1 hw, ws_2 hw, ws_3 hw, ws_4 hw, ws_5 hw, wd_0 hw, wd_1 hw, wd_2 hw, wd_3 hw, wd_4 hw, wd_5 hw, wh_0 hw, wh_1 hw, wq_0 hw, wq_1 hw, wt_0 hw, wt_1 hw, lw2 hw, lw4 hw, lw6 hw, lw7 hw, lw9 hw, lw10 hw, lw11 hw, lw12 hw, lw13 hw, lw14 hw, lw16 hw, lw17 hw, lw19 hw, lw20 hw, lw21 hw, lw23 hw, lw24 hw, lw25 hw, lw26 hw, lw27 hw, lw3 hw, lw5 hw, sw2 hw, sw4 hw, sw6 hw, sw7 hw, sw9 hw, sw10 hw, sw11 hw, sw12 hw, sw13 hw, sw14 hw, sw16 hw, sw17 hw, sw19 hw, sw20 hw, sw21 hw, sw23 hw, sw24 hw, sw25 hw, sw26 hw, sw27 hw, e7, e1, e2, k_X10_compare_107]
      cases c1 : isPl f k a && isPl f k b
      · have hd : dfr f a b k = false := by unfold dfr; rw [c1]; rfl
        rw [hd] at IH
        simp only [Bool.false_eq_true, if_false, Nat.add_zero] at IH
        simp only [if_true]
        exact IH σ (by omega) (by omega) h
      · simp only [Bool.true_eq_false, if_false]
        cases c2 : lk f (tb a k) (tb b k) 12
        · have hd : dfr f a b k = true := by unfold dfr; rw [c1, c2]; rfl
          rw [hd] at IH
          simp only [if_true] at IH
          simp only [if_true]
          obtain ⟨cb, tbb⟩ := h.2.2.2.2.2.1 b k hb (by omega)
          obtain ⟨σ1, h1, h2, h3, _⟩ := W_joinH hw hB h (p := a) (y := k) ha (by omega) (isC_h hw) (j := b * 6 + k) (by omega) (Or.inl ⟨rfl, by omega⟩) (wv_CR (c := 15) (by decide) cb) tbb
          rw [hh.1.sm (by omega)] at h2
          obtain ⟨σ2, h4, h5, h6⟩ := W_copyH hw h2 (p := b) (q := a) (y := k) hb ha (by omega) (fun z => hne z.symm)
          simp (disch := omega) only [↓mI_e, lit, ofN, bsm, nI_add, pk_mul, pk_sub, nI_e, nI_leE, nI_ltE, nI_mI, mI_nI, mI_lt, nlt_mI, mI_le, nle_mI, nI_addm, sh_b, bI_0, bI_1, bI_bI, ckZ_b, ckZ_n0, ckZ_n1, stIe, stJe, stZ_n0, stZ_n1, rm_nI, dv_nI, if_true, if_false, if_pos, if_neg, rf0, rf1, rf5, rf6, rf7, rf8, rf9, rf20, rf23, rf24, rf25, rf26, rf29, rf31, rf33, rf34, rf35, rf37, rf38, rf41, rf42, rf43,  f_X10_cellOf, h1, h4]
          obtain ⟨σ3, h7, h8, h9⟩ := IH σ2 (by omega) (by omega) h5
          exact ⟨σ3, h7, h8, h3.trans (h6.trans h9)⟩
        · have hd : dfr f a b k = false := by unfold dfr; rw [c1, c2]; rfl
          rw [hd] at IH
          simp only [Bool.false_eq_true, if_false, Nat.add_zero] at IH
          simp only [Bool.true_eq_false, if_false]
          exact IH σ (by omega) (by omega) h
theorem r_compares_loop {f : Nat → Int32} (hf : WFs f) {a b : Nat} (ha : a < 6) (hb : b < 6) (hne : a ≠ b) {P : Int32} (hP : ∀ k, bt P k = (decide (k < YN f) && dfr f a b k)) : ∀ (n k : Nat) (τ : ST), k ≤ YN f → YN f - k < n → gA τ 1 = nS f a b k → k_X12_comparesTwo_10 n 0 (nI a) (nI b) P (nI k) τ = some (nI (cnt (dfr f a b) (YN f)), sA τ 1 (nS f a b (YN f))) := by
  have hY := hf.2.1
  have ec : pcN (vN P) = cnt (dfr f a b) (YN f) := by
    rw [pc_bt_m _ (m := YN f) (by omega) (fun i hi => by rw [hP, decide_eq_false (by omega)]; rfl)]
    exact cnt_congr _ (fun i hi => by rw [hP, decide_eq_true hi]; rfl)
  intro n
  induction n with
  | zero => intros; omega
  | succ n ih =>
    intro k τ hk hn hg
    have hh := nS_h f ha hb (k := k) (by omega)
    have e4 : gA τ 1 4 = nI (YN f) := by rw [hg, hh.1 4 (by omega)]; exact eY f
    rw [k_X12_comparesTwo_10]
    by_cases e : k = YN f
    · subst e
      simp (disch := omega) only [↓mI_e, lit, ofN, bsm, nI_add, pk_mul, pk_sub, nI_e, nI_leE, nI_ltE, nI_mI, mI_nI, mI_lt, nlt_mI, mI_le, nle_mI, nI_addm, sh_b, bI_0, bI_1, bI_bI, ckZ_b, ckZ_n0, ckZ_n1, stIe, stJe, stZ_n0, stZ_n1, rm_nI, dv_nI, if_true, if_false, if_pos, if_neg, rf0, rf1, rf5, rf6, rf7, rf8, rf9, rf20, rf23, rf24, rf25, rf26, rf29, rf31, rf33, rf34, rf35, rf37, rf38, rf41, rf42, rf43,  lr1, e4, r_bits, ec]
      rw [← hg, sA_self]
    · have t1 := tb_lt (p := a) (y := k) ha (by omega)
      have t2 := tb_lt (p := b) (y := k) hb (by omega)
      have hd : tb a k + 12 ≤ tb b k ∨ tb b k + 12 ≤ tb a k := by unfold tb; omega
      have ea : 30 + 12 * (6 * a + k) = tb a k := rfl
      have eb : 30 + 12 * (6 * b + k) = tb b k := rfl
      have hb1 := hP k
      rw [decide_eq_true (show k < YN f by omega), Bool.true_and] at hb1
      have hj := r_joins (to := tb a k) (fr := tb b k) (y := k) (by omega) (by omega) (by omega) (by omega) (by omega) hd τ
      rw [hg, hh.1.sm (by omega)] at hj
      have hc := fun τ' => r_copy (to := tb b k) (fr := tb a k) (by omega) (by omega) (by omega) τ'
      have IH := ih (k + 1)
      rw [nS] at IH
      cases c : dfr f a b k
      · rw [c] at IH hb1
        simp only [Bool.false_eq_true, if_false] at IH
        simp (disch := omega) only [↓mI_e, lit, ofN, bsm, nI_add, pk_mul, pk_sub, nI_e, nI_leE, nI_ltE, nI_mI, mI_nI, mI_lt, nlt_mI, mI_le, nle_mI, nI_addm, sh_b, bI_0, bI_1, bI_bI, ckZ_b, ckZ_n0, ckZ_n1, stIe, stJe, stZ_n0, stZ_n1, rm_nI, dv_nI, if_true, if_false, if_pos, if_neg, rf0, rf1, rf5, rf6, rf7, rf8, rf9, rf20, rf23, rf24, rf25, rf26, rf29, rf31, rf33, rf34, rf35, rf37, rf38, rf41, rf42, rf43,  lr1, e4, hb1, k_X12_comparesTwo_71]
        exact IH τ (by omega) (by omega) hg
      · rw [c] at IH hb1
        simp only [if_true] at IH
        simp (disch := omega) only [↓mI_e, lit, ofN, bsm, nI_add, pk_mul, pk_sub, nI_e, nI_leE, nI_ltE, nI_mI, mI_nI, mI_lt, nlt_mI, mI_le, nle_mI, nI_addm, sh_b, bI_0, bI_1, bI_bI, ckZ_b, ckZ_n0, ckZ_n1, stIe, stJe, stZ_n0, stZ_n1, rm_nI, dv_nI, if_true, if_false, if_pos, if_neg, rf0, rf1, rf5, rf6, rf7, rf8, rf9, rf20, rf23, rf24, rf25, rf26, rf29, rf31, rf33, rf34, rf35, rf37, rf38, rf41, rf42, rf43,  lr1, e4, hb1, Bool.true_eq_false, f_X12_thingOf, ea, eb, hj, hc, gA_sA, sA_sA, k_X12_comparesTwo_71]
        have h3 := IH (sA τ 1 (nJ f a b k (nS f a b k))) (by omega) (by omega) (by rw [gA_sA, if_pos rfl])
        rw [sA_sA] at h3
        exact h3
theorem W_night {w : Nat} (hw : isW w) {B : Nat} (hB : B < 2 ^ 31) {σ τ : ST} {g : Nat → Int64} (h : RelW B (wv σ w) (gA τ 1) g) {a b : Nat} (ha : a < 6) (hb : b < 6) (hne : a ≠ b) (hr : rch (gA τ 1) a b = true) : ∃ σ1 τ1 c, f_X10_compare w (nI a) (nI b) σ = some (nI c, σ1) ∧ f_X12_comparesTwo 0 (nI a) (nI b) τ = some (nI c, τ1) ∧ RelW B (wv σ1 w) (gA τ1 1) g ∧ Wp w σ σ1 τ τ1 ∧ gI τ1 0 28 = gI τ 0 28 ∧ c ≤ 6 := by
  have hY := h.1.1.2.1
  obtain ⟨P, gr, d1, d2⟩ := r_differsAt h.1.1 ha hb
  obtain ⟨σ1, h1, h2, h3⟩ := c_compare_loop hw hB h.1.1 ha hb hne FU 0 σ (by omega) (by unfold FU; omega) h
  have h4 := r_compares_loop h.1.1 ha hb hne d2 FU 0 (sA τ 9 gr) (by omega) (by unfold FU; omega) rfl
  have er := c_reaches h.2.1 (a := a) (b := b) (by omega) (by omega)
  rw [hr] at er
  have hcl := cnt_le (dfr (gA τ 1) a b) (YN (gA τ 1))
  refine ⟨σ1, sA (sA τ 9 gr) 1 (nS (gA τ 1) a b (YN (gA τ 1))), cnt (dfr (gA τ 1) a b) (YN (gA τ 1)), ?_, ?_, h2, ⟨h3, ((Sc.rf τ).sA _ rfl).sA _ rfl, fun k b1 b2 => ?_⟩, rfl, by omega⟩
  · rw [cnt] at h1
    simp (disch := omega) only [↓mI_e, lit, ofN, bsm, nI_add, pk_mul, pk_sub, nI_e, nI_leE, nI_ltE, nI_mI, mI_nI, mI_lt, nlt_mI, mI_le, nle_mI, nI_addm, sh_b, bI_0, bI_1, bI_bI, ckZ_b, ckZ_n0, ckZ_n1, stIe, stJe, stZ_n0, stZ_n1, rm_nI, dv_nI, if_true, if_false, if_pos, if_neg, rf0, rf1, rf5, rf6, rf7, rf8, rf9, rf20, rf23, rf24, rf25, rf26, rf29, rf31, rf33, rf34, rf35, rf37, rf38, rf41, rf42, rf43,  f_X10_compare, k_X10_compare_14, hne, er, Bool.true_eq_false, h1]
  · unfold f_X12_comparesTwo
    rw [d1, b_some]
    exact h4
  · rw [gA_sA, if_pos rfl]
    exact nS_out _ ha hb _ (by omega) k (by omega)
theorem W_night_no {w : Nat} {B : Nat} {σ : ST} {f : Nat → Int32} {g : Nat → Int64} (h : RelW B (wv σ w) f g) {a b : Nat} (ha : a < 6) (hb : b < 6) (hr : ¬ (a ≠ b ∧ rch f a b = true)) : f_X10_compare w (nI a) (nI b) σ = some (mI, σ) := by
  have er := c_reaches h.2.1 (a := a) (b := b) (by omega) (by omega)
  by_cases e : a = b
  · simp (disch := omega) only [↓mI_e, lit, ofN, bsm, nI_add, pk_mul, pk_sub, nI_e, nI_leE, nI_ltE, nI_mI, mI_nI, mI_lt, nlt_mI, mI_le, nle_mI, nI_addm, sh_b, bI_0, bI_1, bI_bI, ckZ_b, ckZ_n0, ckZ_n1, stIe, stJe, stZ_n0, stZ_n1, rm_nI, dv_nI, if_true, if_false, if_pos, if_neg, rf0, rf1, rf5, rf6, rf7, rf8, rf9, rf20, rf23, rf24, rf25, rf26, rf29, rf31, rf33, rf34, rf35, rf37, rf38, rf41, rf42, rf43,  f_X10_compare, k_X10_compare_14, e]
  · have hr2 : rch f a b = false := by
      cases q : rch f a b
      · rfl
      · exact absurd ⟨e, q⟩ hr
    rw [hr2] at er
    simp (disch := omega) only [↓mI_e, lit, ofN, bsm, nI_add, pk_mul, pk_sub, nI_e, nI_leE, nI_ltE, nI_mI, mI_nI, mI_lt, nlt_mI, mI_le, nle_mI, nI_addm, sh_b, bI_0, bI_1, bI_bI, ckZ_b, ckZ_n0, ckZ_n1, stIe, stJe, stZ_n0, stZ_n1, rm_nI, dv_nI, if_true, if_false, if_pos, if_neg, rf0, rf1, rf5, rf6, rf7, rf8, rf9, rf20, rf23, rf24, rf25, rf26, rf29, rf31, rf33, rf34, rf35, rf37, rf38, rf41, rf42, rf43,  f_X10_compare, k_X10_compare_14, e, er]
theorem sim_night (i : Nat) (hi : i + 6 ≤ 3072) : SIM_night (Rel i) (Rel (i + 6)) := by
  intro a0 a1 σ τ h
  have hW := h.2.2.2.2.1
  have hS := hW.1
  have hK := hS.1.1
  show Sm i _ _
  rcases keeper_cases hS.1 a0 with hb | ⟨a, ha, rfl⟩
  · simp (disch := omega) only [↓mI_e, lit, ofN, bsm, nI_add, pk_mul, pk_sub, nI_e, nI_leE, nI_ltE, nI_mI, mI_nI, mI_lt, nlt_mI, mI_le, nle_mI, nI_addm, sh_b, bI_0, bI_1, bI_bI, ckZ_b, ckZ_n0, ckZ_n1, stIe, stJe, stZ_n0, stZ_n1, rm_nI, dv_nI, if_true, if_false, if_pos, if_neg, rf0, rf1, rf5, rf6, rf7, rf8, rf9, rf20, rf23, rf24, rf25, rf26, rf29, rf31, rf33, rf34, rf35, rf37, rf38, rf41, rf42, rf43,  f_X11_night, k_X11_night_21, k_X11_night_56, f_X12_night, k_X12_night_21, k_X12_night_55, c_isKeeper_no hS hb, r_isKeeper_no hb, c_refuse, r_refuse]
    exact Sm_0 h _ _
  · rcases keeper_cases hS.1 a1 with hb | ⟨b, hb, rfl⟩
    · simp (disch := omega) only [↓mI_e, lit, ofN, bsm, nI_add, pk_mul, pk_sub, nI_e, nI_leE, nI_ltE, nI_mI, mI_nI, mI_lt, nlt_mI, mI_le, nle_mI, nI_addm, sh_b, bI_0, bI_1, bI_bI, ckZ_b, ckZ_n0, ckZ_n1, stIe, stJe, stZ_n0, stZ_n1, rm_nI, dv_nI, if_true, if_false, if_pos, if_neg, rf0, rf1, rf5, rf6, rf7, rf8, rf9, rf20, rf23, rf24, rf25, rf26, rf29, rf31, rf33, rf34, rf35, rf37, rf38, rf41, rf42, rf43,  f_X11_night, k_X11_night_21, k_X11_night_56, f_X12_night, k_X12_night_21, k_X12_night_55, c_isKeeper_yes hS ha, r_isKeeper_y hS.1 ha, c_isKeeper_no hS hb, r_isKeeper_no hb, c_refuse, r_refuse]
      exact Sm_0 h _ _
    · by_cases e : a = b
      · simp (disch := omega) only [↓mI_e, lit, ofN, bsm, nI_add, pk_mul, pk_sub, nI_e, nI_leE, nI_ltE, nI_mI, mI_nI, mI_lt, nlt_mI, mI_le, nle_mI, nI_addm, sh_b, bI_0, bI_1, bI_bI, ckZ_b, ckZ_n0, ckZ_n1, stIe, stJe, stZ_n0, stZ_n1, rm_nI, dv_nI, if_true, if_false, if_pos, if_neg, rf0, rf1, rf5, rf6, rf7, rf8, rf9, rf20, rf23, rf24, rf25, rf26, rf29, rf31, rf33, rf34, rf35, rf37, rf38, rf41, rf42, rf43,  f_X11_night, k_X11_night_21, k_X11_night_56, f_X12_night, k_X12_night_21, k_X12_night_55, c_isKeeper_yes hS ha, r_isKeeper_y hS.1 ha, c_isKeeper_yes hS hb, r_isKeeper_y hS.1 hb, e, c_refuse, r_refuse]
        exact Sm_0 h _ _
      · cases hr : rch (gA τ 1) a b
        · have hno := W_night_no (w := wM) hW (a := a) (b := b) (by omega) (by omega) (fun z => by rw [hr] at z; exact absurd z.2 (by decide))
          simp (disch := omega) only [↓mI_e, lit, ofN, bsm, nI_add, pk_mul, pk_sub, nI_e, nI_leE, nI_ltE, nI_mI, mI_nI, mI_lt, nlt_mI, mI_le, nle_mI, nI_addm, sh_b, bI_0, bI_1, bI_bI, ckZ_b, ckZ_n0, ckZ_n1, stIe, stJe, stZ_n0, stZ_n1, rm_nI, dv_nI, if_true, if_false, if_pos, if_neg, rf0, rf1, rf5, rf6, rf7, rf8, rf9, rf20, rf23, rf24, rf25, rf26, rf29, rf31, rf33, rf34, rf35, rf37, rf38, rf41, rf42, rf43,  f_X11_night, k_X11_night_21, k_X11_night_56, f_X12_night, k_X12_night_21, k_X12_night_55, c_isKeeper_yes hS ha, r_isKeeper_y hS.1 ha, c_isKeeper_yes hS hb, r_isKeeper_y hS.1 hb, e, c02, hno, r_doReach, hr, c_refuse, r_refuse]
          exact Sm_0 h _ _
        · obtain ⟨σ1, τ1, c, h1, h2, h3, h4, h5, h6⟩ := W_night wM_w (by omega) hW (a := a) (b := b) (by omega) (by omega) e hr
          simp (disch := omega) only [↓mI_e, lit, ofN, bsm, nI_add, pk_mul, pk_sub, nI_e, nI_leE, nI_ltE, nI_mI, mI_nI, mI_lt, nlt_mI, mI_le, nle_mI, nI_addm, sh_b, bI_0, bI_1, bI_bI, ckZ_b, ckZ_n0, ckZ_n1, stIe, stJe, stZ_n0, stZ_n1, rm_nI, dv_nI, if_true, if_false, if_pos, if_neg, rf0, rf1, rf5, rf6, rf7, rf8, rf9, rf20, rf23, rf24, rf25, rf26, rf29, rf31, rf33, rf34, rf35, rf37, rf38, rf41, rf42, rf43,  f_X11_night, k_X11_night_21, k_X11_night_56, f_X12_night, k_X12_night_21, k_X12_night_55, c_isKeeper_yes hS ha, r_isKeeper_y hS.1 ha, c_isKeeper_yes hS hb, r_isKeeper_y hS.1 hb, e, c02, h1, r_doReach, hr, Bool.true_eq_false, h2, c_answer, r_gives]
          exact Sm_W h h4 h5 (RelW_mono (by omega) h3) _ _
