/-! GET in a world, and as a call -/
theorem c_collect_loop {w : Nat} (hw : isW w) {B : Nat} {g : Nat → Int64} {f : Nat → Int32} (hf : WFs f) {y : Nat} (hy : y < YN f) {A : Int32} {c L : Nat} (hc : isC c L) (hi : 0 * 6 + 6 ≤ L) (hcw : c + 3 ≤ w ∨ w + 28 ≤ c) {J : Nat → Int32} (ht : TI (sm f y) B (fun k => gv f k y) J) {x : Int32} (hx : x = mI ∨ ∃ t, t < 4 ∧ x = nI t) : ∀ (n k : Nat) (σ : ST), k ≤ KN f → KN f - k < n → RelW B (wv σ w) (cpS f y (fun p => decide (p < k) && bt A p) J) g → CR (sm f y) σ c 0 J → ∃ σ1, k_X10_collect_28 n w (nI y) x c A (nI k) σ = some (nI 1, σ1) ∧ RelW B (wv σ1 w) (if x = mI ∨ sm f y = true then cpS f y (fun p => decide (p < KN f) && bt A p) J else tkF (cpS f y (fun p => decide (p < KN f) && bt A p) J) x.toNatClampNeg y J) g ∧ CR (sm f y) σ1 c 0 J ∧ Sq (inW w) [] σ σ1 := by
  have hK := hf.1
  have hY := hf.2.1
  intro n
  induction n with
  | zero => intros; omega
  | succ n ih =>
    intro k σ hk hn h hJ
    have hh := cpS_h f y (fun p => decide (p < k) && bt A p) J
    have e6 : gI σ (w + 1) 6 = nI (KN f) := by
      have h1 : gI σ (w + 1) 6 = cpS f y (fun p => decide (p < k) && bt A p) J 3 := h.1.2.1.1
      rw [h1, hh.1 3 (by omega)]; exact eK f
    have es := c_isSum hw h.1 (y := y) (by omega)
    rw [hh.1.sm (by omega)] at es
    rw [k_X10_collect_28]
    by_cases e : k = KN f
    · subst e
      rcases hx with rfl | ⟨t, ht4, rfl⟩
      · simp (disch := omega) only [↓mI_e, lit, ofN, bsm, nI_add, pk_mul, pk_sub, nI_e, nI_leE, nI_ltE, nI_mI, mI_nI, mI_lt, nlt_mI, mI_le, nle_mI, nI_addm, sh_b, bI_0, bI_1, bI_bI, ckZ_b, ckZ_n0, ckZ_n1, stIe, stJe, stZ_n0, stZ_n1, rm_nI, dv_nI, if_true, if_false, if_pos, if_neg, rf0, rf1, rf5, rf6, rf7, rf8, rf9, rf20, rf23, rf24, rf25, rf26, rf29, rf31, rf33, rf34, rf35, rf37, rf38, rf41, rf42, rf43,  w_0 hw, w_1 hw, w_2 hw, w_3 hw, w_4 hw, w_5 hw, w_6 hw, w_7 hw, w_8 hw, ws_0 hw, ws_1 hw, ws_2 hw, ws_3 hw, ws_4 hw, ws_5 hw, wd_0 hw, wd_1 hw, wd_2 hw, wd_3 hw, wd_4 hw, wd_5 hw, wh_0 hw, wh_1 hw, wq_0 hw, wq_1 hw, wt_0 hw, wt_1 hw, lw2 hw, lw4 hw, lw6 hw, lw7 hw, lw9 hw, lw10 hw, lw11 hw, lw12 hw, lw13 hw, lw14 hw, lw16 hw, lw17 hw, lw19 hw, lw20 hw, lw21 hw, lw23 hw, lw24 hw, lw25 hw, lw26 hw, lw27 hw, lw3 hw, lw5 hw, sw2 hw, sw4 hw, sw6 hw, sw7 hw, sw9 hw, sw10 hw, sw11 hw, sw12 hw, sw13 hw, sw14 hw, sw16 hw, sw17 hw, sw19 hw, sw20 hw, sw21 hw, sw23 hw, sw24 hw, sw25 hw, sw26 hw, sw27 hw, e6, k_X10_collect_118, true_or]
        exact ⟨σ, rfl, h, hJ, Sq.rf σ⟩
      · have hxm : (nI t = mI) = False := nI_mI (by omega)
        cases hs : sm f y
        · rw [hs] at es hJ ht
          have hcc := c_copyCounts (isC_t hw) hc (i := t) (j := 0) (by omega) hi σ
          rw [show w + 22 + 2 = w + 24 by omega] at hcc
          have e25 : gA (sA σ (w + 24) (cF σ (w + 24) t (c + 2) 0)) (w + 25) = gA σ (w + 25) := by rw [gA_sA, if_neg (by omega)]
          have e11 : gI (sA (sA σ (w + 24) (cF σ (w + 24) t (c + 2) 0)) (w + 25) (upd (gA σ (w + 25)) t (nI y))) w 11 = gI σ w 11 := rfl
          have hcl : (nI t).toNatClampNeg = t := nI_clamp (by omega)
          simp (disch := omega) only [↓mI_e, lit, ofN, bsm, nI_add, pk_mul, pk_sub, nI_e, nI_leE, nI_ltE, nI_mI, mI_nI, mI_lt, nlt_mI, mI_le, nle_mI, nI_addm, sh_b, bI_0, bI_1, bI_bI, ckZ_b, ckZ_n0, ckZ_n1, stIe, stJe, stZ_n0, stZ_n1, rm_nI, dv_nI, if_true, if_false, if_pos, if_neg, rf0, rf1, rf5, rf6, rf7, rf8, rf9, rf20, rf23, rf24, rf25, rf26, rf29, rf31, rf33, rf34, rf35, rf37, rf38, rf41, rf42, rf43,  w_0 hw, w_1 hw, w_2 hw, w_3 hw, w_4 hw, w_5 hw, w_6 hw, w_7 hw, w_8 hw, ws_0 hw, ws_1 hw, ws_2 hw, ws_3 hw, ws_4 hw, ws_5 hw, wd_0 hw, wd_1 hw, wd_2 hw, wd_3 hw, wd_4 hw, wd_5 hw, wh_0 hw, wh_1 hw, wq_0 hw, wq_1 hw, wt_0 hw, wt_1 hw, lw2 hw, lw4 hw, lw6 hw, lw7 hw, lw9 hw, lw10 hw, lw11 hw, lw12 hw, lw13 hw, lw14 hw, lw16 hw, lw17 hw, lw19 hw, lw20 hw, lw21 hw, lw23 hw, lw24 hw, lw25 hw, lw26 hw, lw27 hw, lw3 hw, lw5 hw, sw2 hw, sw4 hw, sw6 hw, sw7 hw, sw9 hw, sw10 hw, sw11 hw, sw12 hw, sw13 hw, sw14 hw, sw16 hw, sw17 hw, sw19 hw, sw20 hw, sw21 hw, sw23 hw, sw24 hw, sw25 hw, sw26 hw, sw27 hw, e6, es, hxm, hcc, e25, e11, k_X10_collect_118, hcl, or_self, Bool.false_eq_true]
          refine ⟨_, rfl, ?_, ?_, ?_⟩
          · rw [wv_sI0, wv_sA _ _ (by decide), wv_sA _ _ (by decide)]
            have e2 : gA σ (w + 25) = gA (wv σ w) 25 := rfl
            have e3 : gI σ w 11 = gI (wv σ w) 0 11 := rfl
            rw [e2, e3]
            refine RelW_tick h ht4 (by rw [hh.1.Y]; exact hy) (by rw [hh.1.sm (by omega)]; exact hs) (gv_h (fun j a b => cpS_out (by omega)) (by omega) ht) (fun k hk => ?_) (fun j hj => ?_)
            · rw [cF_at, if_pos (by omega), show t * 6 + k - t * 6 = k by omega]
              have h1 := hJ k hk
              simp only [Bool.false_eq_true, if_false] at h1
              exact h1.2
            · rw [cF_at, if_neg hj]; rfl
          · refine CR_sI ?_
            exact CR_sA (CR_sA hJ _ (by omega) (by omega)) _ (by omega) (by omega)
          · exact SqW_sI hw (SqW_sA hw (SqW_sA hw (Sq.rf σ) (by decide) _) (by decide) _) (x := 0) (by decide) _ _
        · rw [hs] at es hJ
          simp (disch := omega) only [↓mI_e, lit, ofN, bsm, nI_add, pk_mul, pk_sub, nI_e, nI_leE, nI_ltE, nI_mI, mI_nI, mI_lt, nlt_mI, mI_le, nle_mI, nI_addm, sh_b, bI_0, bI_1, bI_bI, ckZ_b, ckZ_n0, ckZ_n1, stIe, stJe, stZ_n0, stZ_n1, rm_nI, dv_nI, if_true, if_false, if_pos, if_neg, rf0, rf1, rf5, rf6, rf7, rf8, rf9, rf20, rf23, rf24, rf25, rf26, rf29, rf31, rf33, rf34, rf35, rf37, rf38, rf41, rf42, rf43,  w_0 hw, w_1 hw, w_2 hw, w_3 hw, w_4 hw, w_5 hw, w_6 hw, w_7 hw, w_8 hw, ws_0 hw, ws_1 hw, ws_2 hw, ws_3 hw, ws_4 hw, ws_5 hw, wd_0 hw, wd_1 hw, wd_2 hw, wd_3 hw, wd_4 hw, wd_5 hw, wh_0 hw, wh_1 hw, wq_0 hw, wq_1 hw, wt_0 hw, wt_1 hw, lw2 hw, lw4 hw, lw6 hw, lw7 hw, lw9 hw, lw10 hw, lw11 hw, lw12 hw, lw13 hw, lw14 hw, lw16 hw, lw17 hw, lw19 hw, lw20 hw, lw21 hw, lw23 hw, lw24 hw, lw25 hw, lw26 hw, lw27 hw, lw3 hw, lw5 hw, sw2 hw, sw4 hw, sw6 hw, sw7 hw, sw9 hw, sw10 hw, sw11 hw, sw12 hw, sw13 hw, sw14 hw, sw16 hw, sw17 hw, sw19 hw, sw20 hw, sw21 hw, sw23 hw, sw24 hw, sw25 hw, sw26 hw, sw27 hw, e6, es, hxm, Bool.true_eq_false, k_X10_collect_118, or_true]
          exact ⟨σ, rfl, h, hJ, Sq.rf σ⟩
    · have IH := ih (k + 1)
      simp (disch := omega) only [↓mI_e, lit, ofN, bsm, nI_add, pk_mul, pk_sub, nI_e, nI_leE, nI_ltE, nI_mI, mI_nI, mI_lt, nlt_mI, mI_le, nle_mI, nI_addm, sh_b, bI_0, bI_1, bI_bI, ckZ_b, ckZ_n0, ckZ_n1, stIe, stJe, stZ_n0, stZ_n1, rm_nI, dv_nI, if_true, if_false, if_pos, if_neg, rf0, rf1, rf5, rf6, rf7, rf8, rf9, rf20, rf23, rf24, rf25, rf26, rf29, rf31, rf33, rf34, rf35, rf37, rf38, rf41, rf42, rf43,  w_0 hw, w_1 hw, w_2 hw, w_3 hw, w_4 hw, w_5 hw, w_6 hw, w_7 hw, w_8 hw, ws_0 hw, ws_1 hw, ws_2 hw, ws_3 hw, ws_4 hw, ws_5 hw, wd_0 hw, wd_1 hw, wd_2 hw, wd_3 hw, wd_4 hw, wd_5 hw, wh_0 hw, wh_1 hw, wq_0 hw, wq_1 hw, wt_0 hw, wt_1 hw, lw2 hw, lw4 hw, lw6 hw, lw7 hw, lw9 hw, lw10 hw, lw11 hw, lw12 hw, lw13 hw, lw14 hw, lw16 hw, lw17 hw, lw19 hw, lw20 hw, lw21 hw, lw23 hw, lw24 hw, lw25 hw, lw26 hw, lw27 hw, lw3 hw, lw5 hw, sw2 hw, sw4 hw, sw6 hw, sw7 hw, sw9 hw, sw10 hw, sw11 hw, sw12 hw, sw13 hw, sw14 hw, sw16 hw, sw17 hw, sw19 hw, sw20 hw, sw21 hw, sw23 hw, sw24 hw, sw25 hw, sw26 hw, sw27 hw, e6, k_X10_collect_66]
      cases cb : bt A k
      · simp only [if_true]
        refine IH σ (by omega) (by omega) ?_ hJ
        rw [cpS_congr (S' := fun p => decide (p < k) && bt A p) (fun q hq => ?_) (fun _ _ => rfl)]
        · exact h
        · by_cases z : q = k
          · subst z; rw [cb]; simp
          · have : decide (q < k + 1) = decide (q < k) := decide_eq_decide.mpr (by omega)
            rw [this]
      · simp only [Bool.true_eq_false, if_false]
        obtain ⟨σ1, h1, h2, h3, h4⟩ := W_copyJ hw h (p := k) (y := y) (by omega) (by omega) hc hi hcw (by rw [hh.1.sm (by omega)]; exact hJ) (by rw [hh.1.sm (by omega)]; exact gv_h (fun j a b => cpS_out (by omega)) (by omega) ht)
        have e0 : nI 0 = nI 0 := rfl
        simp (disch := omega) only [↓mI_e, lit, ofN, bsm, nI_add, pk_mul, pk_sub, nI_e, nI_leE, nI_ltE, nI_mI, mI_nI, mI_lt, nlt_mI, mI_le, nle_mI, nI_addm, sh_b, bI_0, bI_1, bI_bI, ckZ_b, ckZ_n0, ckZ_n1, stIe, stJe, stZ_n0, stZ_n1, rm_nI, dv_nI, if_true, if_false, if_pos, if_neg, rf0, rf1, rf5, rf6, rf7, rf8, rf9, rf20, rf23, rf24, rf25, rf26, rf29, rf31, rf33, rf34, rf35, rf37, rf38, rf41, rf42, rf43,  f_X10_cellOf, h1]
        rw [cpS_step (S' := fun p => decide (p < k + 1) && bt A p) (by omega) (by omega) (fun q => ?_) (fun _ _ => rfl)] at h2
        · obtain ⟨σ2, q1, q2, q3, q4⟩ := IH σ1 (by omega) (by omega) h2 (fun k hk => by
            have := hJ k hk
            rw [h4 _ (by omega), h4 _ (by omega)]; exact this)
          exact ⟨σ2, q1, q2, q3, h3.trans q4⟩
        · by_cases z : q = k
          · subst z; rw [cb]; simp
          · have : decide (q < k + 1) = decide (q < k) := decide_eq_decide.mpr (by omega)
            rw [this, decide_eq_false z]; simp
/-! the reference -/
theorem r_gets1 {B : Nat} (hB : B < 2 ^ 31) {s : ST} {g : Nat → Int64} {f : Nat → Int32} (h : RelW B s f g) {y a : Nat} (hy : y < YN f) (hr : RN f ≤ cnt (rp f y a) (pm f)) {G : Nat → Int32} (hG : ∀ i, i < RN f → G i = nI (ap f y a i)) (x : Int32) : ∀ (n k : Nat) (τ : ST) (r : Nat → Int32), 1 ≤ k → k ≤ RN f → RN f - k < n → gA τ 1 = put12 f 29100 r → gA τ 13 = G → TI (sm f y) B (fun k => gv f k y) r → IsJ (sm f y) (fun p => ∃ i, i < k ∧ ap f y a i = p) (thS f y) r → ∃ r', k_X12_getsIt_20 n 0 (nI y) x (nI k) τ = k_X12_getsIt_57 FU 0 (nI y) x (nI 0) (sA τ 1 (put12 f 29100 r')) ∧ TI (sm f y) B (fun k => gv f k y) r' ∧ IsJ (sm f y) (fun p => ∃ i, i < RN f ∧ ap f y a i = p) (thS f y) r' := by
  have hK := h.1.1.1
  have hY := h.1.1.2.1
  have hR := h.1.1.2.2.2.1
  have hN := h.1.1.2.2.1
  obtain ⟨F, hF, hF2⟩ : ∃ F, FU = F ∧ 5000 < F := ⟨FU, rfl, by unfold FU; omega⟩
  rw [hF]
  intro n
  induction n with
  | zero => intros; omega
  | succ n ih =>
    intro k τ r h1 hk hn hg h13 ht hj
    have e1 : gA τ 1 1 = nI (RN f) := by rw [hg, put12_out (by omega)]; exact eR f
    rw [k_X12_getsIt_20, hF]
    by_cases e : k = RN f
    · subst e
      simp (disch := omega) only [↓mI_e, lit, ofN, bsm, nI_add, pk_mul, pk_sub, nI_e, nI_leE, nI_ltE, nI_mI, mI_nI, mI_lt, nlt_mI, mI_le, nle_mI, nI_addm, sh_b, bI_0, bI_1, bI_bI, ckZ_b, ckZ_n0, ckZ_n1, stIe, stJe, stZ_n0, stZ_n1, rm_nI, dv_nI, if_true, if_false, if_pos, if_neg, rf0, rf1, rf5, rf6, rf7, rf8, rf9, rf20, rf23, rf24, rf25, rf26, rf29, rf31, rf33, rf34, rf35, rf37, rf38, rf41, rf42, rf43,  lr1, e1]
      exact ⟨r, by rw [← hg, sA_self], ht, hj⟩
    · have ha := ap_lt h.1.1 hy (a := a) (i := k) (by omega)
      have t1 := tb_lt (p := ap f y a k) (y := y) (by omega) (by omega)
      have e13 : gA τ 13 k = nI (ap f y a k) := by rw [h13]; exact hG k (by omega)
      have et : 30 + 12 * (6 * ap f y a k + y) = tb (ap f y a k) y := rfl
      have hjn := r_joins (to := 29100) (fr := tb (ap f y a k) y) (y := y) (by omega) (by omega) (by omega) (by omega) (by omega) (by omega) τ
      obtain ⟨_, t2⟩ := h.2.2.2.2.2.1 (ap f y a k) y (by omega) (by omega)
      simp (disch := omega) only [↓mI_e, lit, ofN, bsm, nI_add, pk_mul, pk_sub, nI_e, nI_leE, nI_ltE, nI_mI, mI_nI, mI_lt, nlt_mI, mI_le, nle_mI, nI_addm, sh_b, bI_0, bI_1, bI_bI, ckZ_b, ckZ_n0, ckZ_n1, stIe, stJe, stZ_n0, stZ_n1, rm_nI, dv_nI, if_true, if_false, if_pos, if_neg, rf0, rf1, rf5, rf6, rf7, rf8, rf9, rf20, rf23, rf24, rf25, rf26, rf29, rf31, rf33, rf34, rf35, rf37, rf38, rf41, rf42, rf43,  lr1, e1, lr13, e13, f_X12_thingOf, et, hjn]
      have es : sm (gA τ 1) y = sm f y := by unfold sm; rw [hg, put12_out (by omega)]
      have eq1 : put12 (gA τ 1) 29100 (jT (sm (gA τ 1) y) (sh (gA τ 1) 29100) (sh (gA τ 1) (tb (ap f y a k) y))) = put12 f 29100 (jT (sm f y) r (thS f y (ap f y a k))) := by
        rw [es]
        funext j
        unfold put12
        by_cases z : 29100 ≤ j ∧ j < 29100 + 12
        · rw [if_pos z, if_pos z]
          refine jT_congr (fun i hi => by unfold sh; rw [hg, put12_in hi]) (fun i hi => ?_) (by omega)
          unfold thS sh
          rw [hg, put12_out (by omega)]
        · rw [if_neg z, if_neg z, hg, put12_out (by omega)]
      rw [eq1]
      obtain ⟨r', q1, q2, q3⟩ := ih (k + 1) (sA τ 1 (put12 f 29100 (jT (sm f y) r (thS f y (ap f y a k))))) (jT (sm f y) r (thS f y (ap f y a k))) (by omega) (by omega) (by omega) (by rw [gA_sA, if_pos rfl]) (by rw [gA_sA, if_neg (by decide)]; exact h13) (TI_join hB (gvl h (by omega)) ht t2) (IsJ_set (IsJ_join hB (gvl h (by omega)) hj (IsJ_1 (th := thS f y) (p := ap f y a k) t2) ht t2) (fun p => by
        constructor
        · intro ⟨i, z1, z2⟩
          by_cases z : i = k
          · subst z; exact Or.inr z2.symm
          · exact Or.inl ⟨i, by omega, z2⟩
        · intro z
          rcases z with ⟨i, z1, z2⟩ | z
          · exact ⟨i, by omega, z2⟩
          · exact ⟨k, by omega, z.symm⟩))
      exact ⟨r', by rw [q1, sA_sA], q2, q3⟩
theorem r_gets3 {t : Nat} (ht : t < 4) (f : Nat → Int32) : ∀ (n k : Nat) (τ : ST), k ≤ 6 → 6 - k < n → gA τ 1 = (fun j => if 4440 + 8 * t + 1 ≤ j ∧ j < 4440 + 8 * t + 1 + k then f (29106 + (j - (4440 + 8 * t + 1))) else f j) → k_X12_getsIt_121 n 0 (nI t) (nI k) τ = some (sA τ 1 (fun j => if 4440 + 8 * t + 1 ≤ j ∧ j < 4440 + 8 * t + 1 + 6 then f (29106 + (j - (4440 + 8 * t + 1))) else f j)) := by
  intro n
  induction n with
  | zero => intros; omega
  | succ n ih =>
    intro k τ hk hn hg
    rw [k_X12_getsIt_121]
    by_cases e : k = 6
    · subst e
      simp (disch := omega) only [↓mI_e, lit, ofN, bsm, nI_add, pk_mul, pk_sub, nI_e, nI_leE, nI_ltE, nI_mI, mI_nI, mI_lt, nlt_mI, mI_le, nle_mI, nI_addm, sh_b, bI_0, bI_1, bI_bI, ckZ_b, ckZ_n0, ckZ_n1, stIe, stJe, stZ_n0, stZ_n1, rm_nI, dv_nI, if_true, if_false, if_pos, if_neg, rf0, rf1, rf5, rf6, rf7, rf8, rf9, rf20, rf23, rf24, rf25, rf26, rf29, rf31, rf33, rf34, rf35, rf37, rf38, rf41, rf42, rf43, ]
      rw [← hg, sA_self]
    · have e1 : gA τ 1 (29106 + k) = f (29106 + k) := by rw [hg]; simp only []; rw [if_neg (by omega)]
      simp (disch := omega) only [↓mI_e, lit, ofN, bsm, nI_add, pk_mul, pk_sub, nI_e, nI_leE, nI_ltE, nI_mI, mI_nI, mI_lt, nlt_mI, mI_le, nle_mI, nI_addm, sh_b, bI_0, bI_1, bI_bI, ckZ_b, ckZ_n0, ckZ_n1, stIe, stJe, stZ_n0, stZ_n1, rm_nI, dv_nI, if_true, if_false, if_pos, if_neg, rf0, rf1, rf5, rf6, rf7, rf8, rf9, rf20, rf23, rf24, rf25, rf26, rf29, rf31, rf33, rf34, rf35, rf37, rf38, rf41, rf42, rf43,  lr1, sr1, e1]
      rw [ih (k + 1) _ (by omega) (by omega) ?_, sA_sA]
      rw [gA_sA, if_pos rfl, hg]
      funext j
      rw [upd_at]
      by_cases g1 : j = 4440 + 8 * t + 1 + k
      · subst g1
        rw [if_pos rfl, if_pos (by omega), show 4440 + 8 * t + 1 + k - (4440 + 8 * t + 1) = k by omega]
      · rw [if_neg g1]
        by_cases g2 : 4440 + 8 * t + 1 ≤ j ∧ j < 4440 + 8 * t + 1 + k
        · rw [if_pos g2, if_pos (by omega)]
        · rw [if_neg g2, if_neg (by omega)]
theorem r_gets2 {f : Nat → Int32} (hf : WFs f) {y a : Nat} (hy : y < YN f) (hr : RN f ≤ cnt (rp f y a) (pm f)) {G : Nat → Int32} (hG : ∀ i, i < RN f → G i = nI (ap f y a i)) {J : Nat → Int32} {x : Int32} (hx : x = mI ∨ ∃ t, t < 4 ∧ x = nI t) : ∀ (n k : Nat) (τ : ST), k ≤ RN f → RN f - k < n → gA τ 1 = put12 (cpS f y (fun p => decide (∃ i, i < k ∧ ap f y a i = p)) J) 29100 J → gA τ 13 = G → ∃ F, k_X12_getsIt_57 n 0 (nI y) x (nI k) τ = some (sA τ 1 F) ∧ (∀ j, j < 29100 → F j = (if x = mI ∨ sm f y = true then cpS f y (fun p => decide (∃ i, i < RN f ∧ ap f y a i = p)) J else tkF (cpS f y (fun p => decide (∃ i, i < RN f ∧ ap f y a i = p)) J) x.toNatClampNeg y J) j) ∧ ∀ k, k < 12 → F (29100 + k) = J k := by
  have hK := hf.1
  have hY := hf.2.1
  have hR := hf.2.2.2.1
  have hN := hf.2.2.1
  obtain ⟨F, hF, hF2⟩ : ∃ F, FU = F ∧ 5000 < F := ⟨FU, rfl, by unfold FU; omega⟩
  intro n
  induction n with
  | zero => intros; omega
  | succ n ih =>
    intro k τ hk hn hg h13
    have eo : ∀ j, j < 30 → gA τ 1 j = f j := fun j hj => by rw [hg, put12_out (by omega), cpS_out (by omega)]
    have e1 : gA τ 1 1 = nI (RN f) := by rw [eo 1 (by omega)]; exact eR f
    have es : sm (gA τ 1) y = sm f y := by unfold sm; rw [eo _ (by omega)]
    rw [k_X12_getsIt_57, hF]
    by_cases e : k = RN f
    · subst e
      have base : ∀ j, j < 29100 → gA τ 1 j = cpS f y (fun p => decide (∃ i, i < RN f ∧ ap f y a i = p)) J j := fun j hj => by rw [hg, put12_out (by omega)]
      have baseJ : ∀ k, k < 12 → gA τ 1 (29100 + k) = J k := fun k hk => by rw [hg, put12_in hk]
      rcases hx with rfl | ⟨t, ht, rfl⟩
      · simp (disch := omega) only [↓mI_e, lit, ofN, bsm, nI_add, pk_mul, pk_sub, nI_e, nI_leE, nI_ltE, nI_mI, mI_nI, mI_lt, nlt_mI, mI_le, nle_mI, nI_addm, sh_b, bI_0, bI_1, bI_bI, ckZ_b, ckZ_n0, ckZ_n1, stIe, stJe, stZ_n0, stZ_n1, rm_nI, dv_nI, if_true, if_false, if_pos, if_neg, rf0, rf1, rf5, rf6, rf7, rf8, rf9, rf20, rf23, rf24, rf25, rf26, rf29, rf31, rf33, rf34, rf35, rf37, rf38, rf41, rf42, rf43,  lr1, e1, k_X12_getsIt_104, true_or]
        exact ⟨gA τ 1, by rw [sA_self], base, baseJ⟩
      · have hxm : (nI t = mI) = False := nI_mI (by omega)
        cases hs : sm f y
        · have hcl : (nI t).toNatClampNeg = t := nI_clamp (by omega)
          have h3 := r_gets3 ht (upd (gA τ 1) (4440 + 8 * t) (nI y)) F 0 (sA τ 1 (upd (gA τ 1) (4440 + 8 * t) (nI y))) (by omega) (by omega) (by
            rw [gA_sA, if_pos rfl]
            funext j
            rw [if_neg (by omega)])
          rw [sA_sA] at h3
          simp (disch := omega) only [↓mI_e, lit, ofN, bsm, nI_add, pk_mul, pk_sub, nI_e, nI_leE, nI_ltE, nI_mI, mI_nI, mI_lt, nlt_mI, mI_le, nle_mI, nI_addm, sh_b, bI_0, bI_1, bI_bI, ckZ_b, ckZ_n0, ckZ_n1, stIe, stJe, stZ_n0, stZ_n1, rm_nI, dv_nI, if_true, if_false, if_pos, if_neg, rf0, rf1, rf5, rf6, rf7, rf8, rf9, rf20, rf23, rf24, rf25, rf26, rf29, rf31, rf33, rf34, rf35, rf37, rf38, rf41, rf42, rf43,  lr1, e1, r_isSum, es, hs, hxm, sr1, h3, hcl, or_self, Bool.false_eq_true]
          refine ⟨_, rfl, fun j hj => ?_, fun k hk => ?_⟩
          · unfold tkF
            by_cases g1 : 4440 + 8 * t + 1 ≤ j ∧ j < 4440 + 8 * t + 1 + 6
            · rw [if_pos g1, if_neg (by omega), if_pos (by omega), upd_at, if_neg (by omega), show 29106 + (j - (4440 + 8 * t + 1)) = 29100 + (6 + (j - (4440 + 8 * t + 1))) by omega, baseJ _ (by omega)]
            · rw [if_neg g1, upd_at]
              by_cases g2 : j = 4440 + 8 * t
              · rw [if_pos g2, if_pos g2]
              · rw [if_neg g2, if_neg g2, if_neg (by omega)]; exact base j hj
          · rw [if_neg (by omega), upd_at, if_neg (by omega)]; exact baseJ k hk
        · simp (disch := omega) only [↓mI_e, lit, ofN, bsm, nI_add, pk_mul, pk_sub, nI_e, nI_leE, nI_ltE, nI_mI, mI_nI, mI_lt, nlt_mI, mI_le, nle_mI, nI_addm, sh_b, bI_0, bI_1, bI_bI, ckZ_b, ckZ_n0, ckZ_n1, stIe, stJe, stZ_n0, stZ_n1, rm_nI, dv_nI, if_true, if_false, if_pos, if_neg, rf0, rf1, rf5, rf6, rf7, rf8, rf9, rf20, rf23, rf24, rf25, rf26, rf29, rf31, rf33, rf34, rf35, rf37, rf38, rf41, rf42, rf43,  lr1, e1, r_isSum, es, hs, hxm, Bool.true_eq_false, k_X12_getsIt_104, or_true]
          exact ⟨gA τ 1, by rw [sA_self], base, baseJ⟩
    · have ha := ap_lt hf hy (a := a) (i := k) (by omega)
      have t1 := tb_lt (p := ap f y a k) (y := y) (by omega) (by omega)
      have e13 : gA τ 13 k = nI (ap f y a k) := by rw [h13]; exact hG k (by omega)
      have et : 30 + 12 * (6 * ap f y a k + y) = tb (ap f y a k) y := rfl
      have hcp := r_copy (to := tb (ap f y a k) y) (fr := 29100) (by omega) (by omega) (by omega) τ
      simp (disch := omega) only [↓mI_e, lit, ofN, bsm, nI_add, pk_mul, pk_sub, nI_e, nI_leE, nI_ltE, nI_mI, mI_nI, mI_lt, nlt_mI, mI_le, nle_mI, nI_addm, sh_b, bI_0, bI_1, bI_bI, ckZ_b, ckZ_n0, ckZ_n1, stIe, stJe, stZ_n0, stZ_n1, rm_nI, dv_nI, if_true, if_false, if_pos, if_neg, rf0, rf1, rf5, rf6, rf7, rf8, rf9, rf20, rf23, rf24, rf25, rf26, rf29, rf31, rf33, rf34, rf35, rf37, rf38, rf41, rf42, rf43,  lr1, e1, lr13, e13, f_X12_thingOf, et, hcp]
      have eq1 : put12 (gA τ 1) (tb (ap f y a k) y) (sh (gA τ 1) 29100) = put12 (cpS f y (fun p => decide (∃ i, i < k + 1 ∧ ap f y a i = p)) J) 29100 J := by
        have hst := cpS_step (f := f) (y := y) (p := ap f y a k) (by omega) (by omega) (S := fun p => decide (∃ i, i < k ∧ ap f y a i = p)) (S' := fun p => decide (∃ i, i < k + 1 ∧ ap f y a i = p)) (J := J) (t := J) (fun q => by
          rw [← Bool.decide_or]
          refine decide_eq_decide.mpr ⟨fun ⟨i, z1, z2⟩ => ?_, fun z => ?_⟩
          · by_cases z : i = k
            · subst z; exact Or.inr z2.symm
            · exact Or.inl ⟨i, by omega, z2⟩
          · rcases z with ⟨i, z1, z2⟩ | z
            · exact ⟨i, by omega, z2⟩
            · exact ⟨k, by omega, z.symm⟩) (fun _ _ => rfl)
        rw [← hst]
        funext j
        have hJ : ∀ i, i < 12 → gA τ 1 (29100 + i) = J i := fun i hi => by rw [hg, put12_in hi]
        by_cases z : tb (ap f y a k) y ≤ j ∧ j < tb (ap f y a k) y + 12
        · rw [put12_out (f := put12 (cpS f y (fun p => decide (∃ i, i < k ∧ ap f y a i = p)) J) (tb (ap f y a k) y) J) (by omega)]
          unfold put12
          rw [if_pos z, if_pos z]
          unfold sh
          exact hJ _ (by omega)
        · rw [put12_out (f := gA τ 1) (by omega), hg]
          unfold put12
          by_cases z2 : 29100 ≤ j ∧ j < 29100 + 12
          · rw [if_pos z2, if_pos z2]
          · rw [if_neg z2, if_neg z2, if_neg z]
      rw [eq1]
      obtain ⟨Fn, q1, q2, q3⟩ := ih (k + 1) (sA τ 1 (put12 (cpS f y (fun p => decide (∃ i, i < k + 1 ∧ ap f y a i = p)) J) 29100 J)) (by omega) (by omega) (by rw [gA_sA, if_pos rfl]) (by rw [gA_sA, if_neg (by decide)]; exact h13)
      exact ⟨Fn, by rw [q1, sA_sA], q2, q3⟩
theorem W_get_no {w : Nat} (hw : isW w) {B : Nat} {σ : ST} {f : Nat → Int32} {g : Nat → Int64} (h : RelW B (wv σ w) f g) {y a : Nat} (hy : y < YN f) (ha : a < 6) (x : Int32) (c : Nat) (hr : ¬ RN f ≤ cnt (rp f y a) (pm f)) : f_X10_collect w (nI y) (nI a) x c σ = some (nI 0, σ) := by
  obtain ⟨A, h1, _, h3⟩ := c_firstReached hw h.1 h.2.1 hy ha
  simp (disch := omega) only [↓mI_e, lit, ofN, bsm, nI_add, pk_mul, pk_sub, nI_e, nI_leE, nI_ltE, nI_mI, mI_nI, mI_lt, nlt_mI, mI_le, nle_mI, nI_addm, sh_b, bI_0, bI_1, bI_bI, ckZ_b, ckZ_n0, ckZ_n1, stIe, stJe, stZ_n0, stZ_n1, rm_nI, dv_nI, if_true, if_false, if_pos, if_neg, rf0, rf1, rf5, rf6, rf7, rf8, rf9, rf20, rf23, rf24, rf25, rf26, rf29, rf31, rf33, rf34, rf35, rf37, rf38, rf41, rf42, rf43,  f_X10_collect, h1, h3 hr]
/-- GET of a key: both sides; J is what is told -/
theorem W_get {w : Nat} (hw : isW w) (hw2 : w = wM ∨ w = wK) {B : Nat} (hB : B < 2 ^ 31) {σ τ : ST} {g : Nat → Int64} (h : RelW B (wv σ w) (gA τ 1) g) {y a : Nat} (hy : y < YN (gA τ 1)) (ha : a < 6) {x : Int32} (hx : x = mI ∨ ∃ t, t < 4 ∧ x = nI t) (hr : RN (gA τ 1) ≤ cnt (rp (gA τ 1) y a) (pm (gA τ 1))) (hA : DL (rp (gA τ 1) y a) (pm (gA τ 1)) (gA τ 13) 0 (fun i => nI (rw6 (gA τ 1) y i))) : ∃ σ1 τ1 J, f_X10_collect w (nI y) (nI a) x 97 σ = some (nI 1, σ1) ∧ f_X12_getsIt 0 (nI y) x τ = some τ1 ∧ RelW B (wv σ1 w) (gA τ1 1) g ∧ Wp w σ σ1 τ τ1 ∧ gI τ1 0 28 = gI τ 0 28 ∧ CR (sm (gA τ 1) y) σ1 97 0 J ∧ TI (sm (gA τ 1) y) B (fun k => gv (gA τ 1) k y) J ∧ (∀ k, k < 12 → gA τ1 1 (29100 + k) = J k) ∧ (∀ k, k < 30 ∨ (3278 ≤ k ∧ k < 4440) → gA τ1 1 k = gA τ 1 k) := by
  have hf := h.1.1
  have hK := hf.1
  have hY := hf.2.1
  have hR := hf.2.2.2.1
  have hN := hf.2.2.1
  have hw3 : 97 + 3 ≤ w ∨ w + 28 ≤ 97 := by unfold wM wK at hw2; omega
  obtain ⟨A, a1, a2, _⟩ := c_firstReached hw h.1 h.2.1 hy ha
  obtain ⟨a3, a4⟩ := a2 hr
  obtain ⟨J, F0, G0, j1, j2, j3, j4, _⟩ := c_joinSet hw hB (y := y) (by omega) A isC_j (i := 0) (by omega) hw3 h
  have hR1 : RelW B (wv (sA (sA σ (97 + 1) F0) (97 + 2) G0) w) (gA τ 1) g := by
    rw [wv_sA_out _ (by omega), wv_sA_out _ (by omega)]; exact h
  obtain ⟨σ1, k1, k2, k3, k4⟩ := c_collect_loop hw hf hy (A := A) isC_j (by omega) hw3 j3 hx FU 0 _ (by omega) (by unfold FU; omega) (by rw [cpS_0 _ _ (fun q => by simp)]; exact hR1) j2
  -- the reference
  have hG : ∀ i, i < RN (gA τ 1) → gA τ 13 i = nI (ap (gA τ 1) y a i) := fun i hi => by
    have h1 := aq_in (f := gA τ 1) (y := y) (a := a) (i := i) (by omega)
    have h2 := hA _ h1.1 h1.2.1
    rw [h1.2.2, Nat.zero_add] at h2
    exact h2
  have ha0 := ap_lt hf hy (a := a) (i := 0) (by omega)
  have t0 := tb_lt (p := ap (gA τ 1) y a 0) (y := y) (by omega) (by omega)
  have hc0 := r_copy (to := 29100) (fr := tb (ap (gA τ 1) y a 0) y) (by omega) (by omega) (by omega) τ
  obtain ⟨_, ti0⟩ := h.2.2.2.2.2.1 (ap (gA τ 1) y a 0) y (by omega) (by omega)
  have hJ0 : IsJ (sm (gA τ 1) y) (fun p => ∃ i, i < 1 ∧ ap (gA τ 1) y a i = p) (thS (gA τ 1) y) (thS (gA τ 1) y (ap (gA τ 1) y a 0)) := by
    refine IsJ_set (IsJ_1 (th := thS (gA τ 1) y) (p := ap (gA τ 1) y a 0) ti0) (fun p => ⟨fun ⟨i, z1, z2⟩ => ?_, fun z => ⟨0, by omega, z.symm⟩⟩)
    have : i = 0 := by omega
    subst this
    exact z2.symm
  obtain ⟨r', r1, r2, r3⟩ := r_gets1 hB h hy hr hG x FU 1 (sA τ 1 (put12 (gA τ 1) 29100 (sh (gA τ 1) (tb (ap (gA τ 1) y a 0) y)))) (thS (gA τ 1) y (ap (gA τ 1) y a 0)) (by omega) (by omega) (by unfold FU; omega) (by rw [gA_sA, if_pos rfl]; rfl) rfl ti0 hJ0
  rw [sA_sA] at r1
  have eask : ∀ p, (decide (p < KN (gA τ 1)) && bt A p) = decide (∃ i, i < RN (gA τ 1) ∧ ap (gA τ 1) y a i = p) := fun p => by
    rw [a4, ask_ap hf hy hr]
    by_cases z : ∃ i, i < RN (gA τ 1) ∧ ap (gA τ 1) y a i = p
    · obtain ⟨i, z1, z2⟩ := z
      have := ap_lt hf hy (a := a) (i := i) (by omega)
      rw [decide_eq_true (show p < KN (gA τ 1) by omega)]; rfl
    · rw [decide_eq_false z]; simp
  have hJeq : ∀ k, k < 12 → r' k = J k := IsJ_uniq r3 (IsJ_set j4 (fun p => by
    have h1 := eask p
    constructor
    · intro ⟨i, z1, z2⟩
      have h2 : decide (∃ i, i < RN (gA τ 1) ∧ ap (gA τ 1) y a i = p) = true := decide_eq_true ⟨i, z1, z2⟩
      rw [h2] at h1
      simpa using h1
    · intro z
      rw [decide_eq_true z.1, z.2] at h1
      exact of_decide_eq_true h1.symm))
  obtain ⟨Fn, s1, s2, s3⟩ := r_gets2 hf hy hr hG (J := r') hx FU 0 (sA τ 1 (put12 (gA τ 1) 29100 r')) (by omega) (by unfold FU; omega) (by rw [gA_sA, if_pos rfl, cpS_0 _ _ (fun q => decide_eq_false (fun ⟨i, z, _⟩ => by omega))]) rfl
  rw [sA_sA] at s1
  have efin : ∀ j, j < 29100 → Fn j = (if x = mI ∨ sm (gA τ 1) y = true then cpS (gA τ 1) y (fun p => decide (p < KN (gA τ 1)) && bt A p) J else tkF (cpS (gA τ 1) y (fun p => decide (p < KN (gA τ 1)) && bt A p) J) x.toNatClampNeg y J) j := fun j hj => by
    rw [s2 j hj]
    have ec : cpS (gA τ 1) y (fun p => decide (∃ i, i < RN (gA τ 1) ∧ ap (gA τ 1) y a i = p)) r' = cpS (gA τ 1) y (fun p => decide (p < KN (gA τ 1)) && bt A p) J := cpS_congr (fun q _ => (eask q).symm) hJeq
    rw [ec]
    by_cases z : x = mI ∨ sm (gA τ 1) y = true
    · rw [if_pos z, if_pos z]
    · rw [if_neg z, if_neg z]
      unfold tkF
      by_cases z1 : j = 4440 + 8 * x.toNatClampNeg
      · rw [if_pos z1, if_pos z1]
      · rw [if_neg z1, if_neg z1]
        by_cases z2 : 4440 + 8 * x.toNatClampNeg + 1 ≤ j ∧ j < 4440 + 8 * x.toNatClampNeg + 7
        · rw [if_pos z2, if_pos z2]; exact hJeq _ (by omega)
        · rw [if_neg z2, if_neg z2]
  have reg : ∀ k, (k < 30 ∨ (3278 ≤ k ∧ k < 4440) ∨ (4850 ≤ k ∧ k < 29100)) → Fn k = gA τ 1 k := fun k hk => by
    rw [efin k (by omega)]
    have hxc : x = mI ∨ x.toNatClampNeg < 4 := by
      rcases hx with z | ⟨t, z, rfl⟩
      · exact Or.inl z
      · exact Or.inr (by rw [nI_clamp (by omega)]; exact z)
    by_cases z : x = mI ∨ sm (gA τ 1) y = true
    · rw [if_pos z, cpS_out (by omega)]
    · rw [if_neg z]
      have := hxc.resolve_left (fun q => z (Or.inl q))
      unfold tkF
      rw [if_neg (by omega), if_neg (by omega), cpS_out (by omega)]
  refine ⟨σ1, sA τ 1 Fn, J, ?_, ?_, ?_, ⟨?_, (Sc.rf τ).sA _ rfl, fun k b1 b2 => ?_⟩, rfl, k3, j3, fun k hk => ?_, fun k hk => ?_⟩
  · simp (disch := omega) only [↓mI_e, lit, ofN, bsm, nI_add, pk_mul, pk_sub, nI_e, nI_leE, nI_ltE, nI_mI, mI_nI, mI_lt, nlt_mI, mI_le, nle_mI, nI_addm, sh_b, bI_0, bI_1, bI_bI, ckZ_b, ckZ_n0, ckZ_n1, stIe, stJe, stZ_n0, stZ_n1, rm_nI, dv_nI, if_true, if_false, if_pos, if_neg, rf0, rf1, rf5, rf6, rf7, rf8, rf9, rf20, rf23, rf24, rf25, rf26, rf29, rf31, rf33, rf34, rf35, rf37, rf38, rf41, rf42, rf43,  f_X10_collect, a1, a3, j1]
    exact k1
  · have et : 30 + 12 * (6 * ap (gA τ 1) y a 0 + y) = tb (ap (gA τ 1) y a 0) y := rfl
    have e13 := hG 0 (by omega)
    simp (disch := omega) only [↓mI_e, lit, ofN, bsm, nI_add, pk_mul, pk_sub, nI_e, nI_leE, nI_ltE, nI_mI, mI_nI, mI_lt, nlt_mI, mI_le, nle_mI, nI_addm, sh_b, bI_0, bI_1, bI_bI, ckZ_b, ckZ_n0, ckZ_n1, stIe, stJe, stZ_n0, stZ_n1, rm_nI, dv_nI, if_true, if_false, if_pos, if_neg, rf0, rf1, rf5, rf6, rf7, rf8, rf9, rf20, rf23, rf24, rf25, rf26, rf29, rf31, rf33, rf34, rf35, rf37, rf38, rf41, rf42, rf43,  f_X12_getsIt, lr13, e13, f_X12_thingOf, et, hc0]
    rw [r1, s1]
  · rw [gA_sA, if_pos rfl]
    exact RelW_congr (fun j hj => efin j (by omega)) (fun _ _ => rfl) k2
  · exact (((Sq.rf σ).sA _ rfl).sA _ rfl).trans k4
  · rw [gA_sA, if_pos rfl]; exact reg k (by omega)
  · rw [gA_sA, if_pos rfl, s3 k hk]; exact hJeq k hk
  · rw [gA_sA, if_pos rfl]; exact reg k (by omega)
