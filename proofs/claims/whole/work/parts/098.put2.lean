/-! PUT and ADD in a world -/
theorem c_dot {w : Nat} (hw : isW w) {B : Nat} {σ : ST} {f : Nat → Int32} {g : Nat → Int64} (h : RelW B (wv σ w) f g) {y a v : Nat} (hy : y < YN f) (ha : a < KN f) (hs : sm f y = false) (hg : gv f a y < 30) (hv : v ≤ 1000) : ∃ σ1, k_X10_putValue_91 w (nI y) (nI a) (nI v) (nI (a * 6 + y)) σ = (f_X10_giveOut w (nI y) (nI a) σ1).bind (fun u => some (u.1, u.2)) ∧ RelW B (wv σ1 w) (dotF f y a (nI v)) g ∧ Sq (inW w) [] σ σ1 := by
  have hK := h.1.1.1
  have hY := h.1.1.2.1
  have e26 : gA σ (w + 26) (a * 6 + y) = nI (gv f a y) := by
    have h1 : gA σ (w + 26) (a * 6 + y) = f (4400 + (a * 6 + y)) := h.2.2.2.1.1 (a * 6 + y) (by omega)
    rw [h1, show 4400 + (a * 6 + y) = 4400 + 6 * a + y by omega]
    exact (nI_vN _).symm
  have i1 : y * 180 + a * 30 + (gv f a y + 1) - 1 = y * 180 + a * 30 + gv f a y := by omega
  have i2 : gv f a y + 1 - 1 = gv f a y := by omega
  refine ⟨sA (sA (sA (sA σ (w + 26) (upd (gA σ (w + 26)) (a * 6 + y) (nI (gv f a y + 1)))) (w + 27) (upd (gA σ (w + 27)) (y * 180 + a * 30 + gv f a y) (nI v))) (w + 16) (upd (gA σ (w + 16)) ((a * 6 + y) * 6 + a) (gA σ (w + 16) ((a * 6 + y) * 6 + a) ||| (nI 1 <<< (nI (gv f a y) &&& nI 31))))) (w + 17) (upd (gA σ (w + 17)) ((a * 6 + y) * 6 + a) (nI (gv f a y + 1))), ?_, ?_, ?_⟩
  · have n1 : ¬ (w + 26 = w + 27) := by omega
    have n2 : ¬ (w + 27 = w + 26) := by omega
    have n3 : ¬ (w + 16 = w + 27) := by omega
    have n4 : ¬ (w + 16 = w + 26) := by omega
    have n5 : ¬ (w + 17 = w + 16) := by omega
    have n6 : ¬ (w + 17 = w + 27) := by omega
    have n7 : ¬ (w + 17 = w + 26) := by omega
    simp (disch := omega) only [↓mI_e, lit, ofN, bsm, nI_add, pk_mul, pk_sub, nI_e, nI_leE, nI_ltE, nI_mI, mI_nI, mI_lt, nlt_mI, mI_le, nle_mI, nI_addm, sh_b, bI_0, bI_1, bI_bI, ckZ_b, ckZ_n0, ckZ_n1, stIe, stJe, stZ_n0, stZ_n1, rm_nI, dv_nI, if_true, if_false, if_pos, if_neg, rf0, rf1, rf5, rf6, rf7, rf8, rf9, rf20, rf23, rf24, rf25, rf26, rf29, rf31, rf33, rf34, rf35, rf37, rf38, rf41, rf42, rf43,  k_X10_putValue_91, f_X0_give, w_0 hw, w_1 hw, w_2 hw, w_3 hw, w_4 hw, w_5 hw, w_6 hw, w_7 hw, w_8 hw, ws_0 hw, ws_1 hw, ws_2 hw, ws_3 hw, ws_4 hw, ws_5 hw, wd_0 hw, wd_1 hw, wd_2 hw, wd_3 hw, wd_4 hw, wd_5 hw, wh_0 hw, wh_1 hw, wq_0 hw, wq_1 hw, wt_0 hw, wt_1 hw, lw2 hw, lw4 hw, lw6 hw, lw7 hw, lw9 hw, lw10 hw, lw11 hw, lw12 hw, lw13 hw, lw14 hw, lw16 hw, lw17 hw, lw19 hw, lw20 hw, lw21 hw, lw23 hw, lw24 hw, lw25 hw, lw26 hw, lw27 hw, lw3 hw, lw5 hw, sw2 hw, sw4 hw, sw6 hw, sw7 hw, sw9 hw, sw10 hw, sw11 hw, sw12 hw, sw13 hw, sw14 hw, sw16 hw, sw17 hw, sw19 hw, sw20 hw, sw21 hw, sw23 hw, sw24 hw, sw25 hw, sw26 hw, sw27 hw, e26, gA_sA, pk_us, i1, i2, n1, n2, n3, n4, n5, n6, n7]
  · rw [wv_sA _ _ (by decide), wv_sA _ _ (by decide), wv_sA _ _ (by decide), wv_sA _ _ (by decide)]
    refine RelW_dot h ha hy hs hg hv (fun _ _ => rfl) (fun x h1 h2 h3 h4 => by rw [gA_sA, if_neg h2, gA_sA, if_neg h1, gA_sA, if_neg h4, gA_sA, if_neg h3]) (fun _ => rfl) rfl rfl rfl rfl
  · exact SqW_sA hw (SqW_sA hw (SqW_sA hw (SqW_sA hw (Sq.rf σ) (by decide) _) (by decide) _) (by decide) _) (by decide) _
theorem r_dot {y a : Nat} {v : Int32} {τ : ST} (hy : y < 6) (ha : a < 6) (hg : gv (gA τ 1) a y < 30) : k_X12_puts_104 0 (nI y) (nI a) v (nI (tb a y)) τ = (f_X12_givesOut 0 (nI y) (nI a) (sA τ 1 (dotF (gA τ 1) y a v))).bind (fun u => some (u.1, u.2)) := by
  have e : gA τ 1 (4400 + 6 * a + y) = nI (gv (gA τ 1) a y) := (nI_vN _).symm
  have t1 := tb_lt (p := a) (y := y) ha hy
  have i2 : gv (gA τ 1) a y + 1 - 1 = gv (gA τ 1) a y := by omega
  have hvb : 3280 ≤ vb y a (gv (gA τ 1) a y + 1) ∧ vb y a (gv (gA τ 1) a y + 1) < 4400 := by unfold vb; omega
  have ev : 3280 + 31 * (6 * y + a) + (gv (gA τ 1) a y + 1) = vb y a (gv (gA τ 1) a y + 1) := rfl
  have u1 : ∀ x z, upd (upd (gA τ 1) (4400 + 6 * a + y) x) (vb y a (gv (gA τ 1) a y + 1)) z (tb a y + a) = gA τ 1 (tb a y + a) := fun x z => by rw [upd_at, if_neg (by omega), upd_at, if_neg (by omega)]
  simp (disch := omega) only [↓mI_e, lit, ofN, bsm, nI_add, pk_mul, pk_sub, nI_e, nI_leE, nI_ltE, nI_mI, mI_nI, mI_lt, nlt_mI, mI_le, nle_mI, nI_addm, sh_b, bI_0, bI_1, bI_bI, ckZ_b, ckZ_n0, ckZ_n1, stIe, stJe, stZ_n0, stZ_n1, rm_nI, dv_nI, if_true, if_false, if_pos, if_neg, rf0, rf1, rf5, rf6, rf7, rf8, rf9, rf20, rf23, rf24, rf25, rf26, rf29, rf31, rf33, rf34, rf35, rf37, rf38, rf41, rf42, rf43,  k_X12_puts_104, lr1, sr1, e, gA_sA, pk_us, ev, i2, sA_sA, u1]
  rfl
theorem gv_put12 {f : Nat → Int32} {p y : Nat} (hp : p < 6) (hy : y < 6) (t : Nat → Int32) {a y' : Nat} (ha : a < 6) (hy' : y' < 6) : gv (put12 f (tb p y) t) a y' = gv f a y' := by
  have := tb_lt hp hy
  unfold gv; rw [put12_out (by omega)]
theorem W_put {w : Nat} (hw : isW w) {B : Nat} (hB : B < 2 ^ 31) {σ τ : ST} {g : Nat → Int64} (h : RelW B (wv σ w) (gA τ 1) g) {y a v : Nat} (hy : y < YN (gA τ 1)) (ha : a < KN (gA τ 1)) (hv : v ≤ 1000) {k : Int32} (hok : putOk (gA τ 1) y a k) : ∃ σ1 τ1 m, f_X10_putValue w (nI y) (nI a) (nI v) k σ = some (nI m, σ1) ∧ f_X12_puts 0 (nI y) (nI a) (nI v) k τ = some (nI m, τ1) ∧ RelW B (wv σ1 w) (gA τ1 1) g ∧ Wp w σ σ1 τ τ1 ∧ gI τ1 0 28 = nI (if m < WN (gA τ 1) then 0 else 1) ∧ m ≤ 100 ∧ WN (gA τ1 1) = WN (gA τ 1) := by
  have hK := h.1.1.1
  have hY := h.1.1.2.1
  obtain ⟨⟨hs, htk⟩, ⟨hpl, hup⟩, hg⟩ := hok
  have t1 := tb_lt (p := a) (y := y) (by omega) (by omega)
  -- what stands behind the ticket
  have main : ∀ (σj : ST) (f1 : Nat → Int32) (τj : ST), gA τj 1 = f1 → RelW B (wv σj w) f1 g → Hd5 (gA τ 1) f1 → gv f1 a y = gv (gA τ 1) a y → Wp w σ σj τ τj → ∃ σ1 τ1 m, k_X10_putValue_91 w (nI y) (nI a) (nI v) (nI (a * 6 + y)) σj = some (nI m, σ1) ∧ k_X12_puts_104 0 (nI y) (nI a) (nI v) (nI (tb a y)) τj = some (nI m, τ1) ∧ RelW B (wv σ1 w) (gA τ1 1) g ∧ Wp w σ σ1 τ τ1 ∧ gI τ1 0 28 = nI (if m < WN (gA τ 1) then 0 else 1) ∧ m ≤ 100 ∧ WN (gA τ1 1) = WN (gA τ 1) := by
    intro σj f1 τj hτj hR hh hgj hp
    obtain ⟨σd, d1, d2, d3⟩ := c_dot hw hR (y := y) (a := a) (v := v) (by rw [hh.1.Y]; exact hy) (by rw [hh.1.K]; exact ha) (by rw [hh.1.sm (by omega)]; exact hs) (by omega) hv
    have hd5 : Hd5 f1 (dotF f1 y a (nI v)) := by
      have ed : ∀ k, k < 28 → dotF f1 y a (nI v) k = f1 k := fun k hk => by
        have hvb : 3280 ≤ vb y a (gv f1 a y + 1) := by unfold vb; omega
        rw [dotF_at, if_neg (by omega), if_neg (by omega), if_neg (by omega), if_neg (by omega)]
      exact ⟨fun k hk => ed k (by omega), ed 5 (by omega), ed 6 (by omega)⟩
    have hh2 := hh.trans hd5
    have hf2 : WFs (dotF f1 y a (nI v)) := hh2.1.wf h.1.1
    obtain ⟨σ1, q1, q2, q3⟩ := c_giveOut hw hB d2 (y := y) (a := a) (by rw [hh2.1.Y]; exact hy) (by rw [hh2.1.K]; exact ha)
    have hr1 := r_dot (y := y) (a := a) (v := nI v) (τ := τj) (by omega) (by omega) (by rw [hτj]; omega)
    rw [hτj] at hr1
    obtain ⟨gr, r1⟩ := r_givesOut (τ := sA τj 1 (dotF f1 y a (nI v))) hf2 (y := y) (a := a) (by show y < YN (dotF f1 y a (nI v)); rw [hh2.1.Y]; exact hy) (by show a < KN (dotF f1 y a (nI v)); rw [hh2.1.K]; exact ha)
    have e1 : gA (sA τj 1 (dotF f1 y a (nI v))) 1 = dotF f1 y a (nI v) := rfl
    rw [e1] at r1
    have hc := gS_c (dotF f1 y a (nI v)) y a (pm (dotF f1 y a (nI v)))
    have hpk := pm_le (f := dotF f1 y a (nI v))
    have hk2 := hh2.1.K
    have hgs := gS_h hf2 (y := y) (a := a) (by rw [hh2.1.Y]; exact hy) (by omega) (pm (dotF f1 y a (nI v))) (by omega)
    refine ⟨σ1, sI (sA (sA (sA τj 1 (dotF f1 y a (nI v))) 9 gr) 1 (gS (dotF f1 y a (nI v)) y a (pm (dotF f1 y a (nI v)))).1) 0 28 (nI (if (gS (dotF f1 y a (nI v)) y a (pm (dotF f1 y a (nI v)))).2.2 < WN (dotF f1 y a (nI v)) then 0 else 1)), (gS (dotF f1 y a (nI v)) y a (pm (dotF f1 y a (nI v)))).2.2, ?_, ?_, q2, ?_, ?_, by omega, ?_⟩
    · rw [d1, q1]; rfl
    · rw [hr1, r1]; rfl
    · refine ⟨hp.1.trans (d3.trans q3), hp.2.1.trans ((((((Sc.rf τj).sA _ rfl).sA _ rfl).sA _ rfl).sI _ rfl)), fun k a1 a2 => ?_⟩
      rw [gA_sI, gA_sA, if_pos rfl]
      have hreg := gS_reg hf2 (y := y) (a := a) (by rw [hh2.1.Y]; exact hy) (by omega) (pm (dotF f1 y a (nI v))) (by omega) k (by omega)
      rw [hreg]
      have hvb : vb y a (gv f1 a y + 1) < 4400 := by unfold vb; omega
      rw [dotF_at, if_neg (by omega), if_neg (by omega), if_neg (by omega), if_neg (by omega), ← hτj]
      exact hp.2.2 k a1 a2
    · rw [gI_sI, if_pos ⟨rfl, rfl⟩, hh2.1.W]
    · show WN (gS (dotF f1 y a (nI v)) y a (pm (dotF f1 y a (nI v)))).1 = _
      rw [hgs.1.W, hh2.1.W]
  have ec := c_canTake hw h.1 h.2.1 hy (k := a) (by omega)
  rw [hpl, hup] at ec
  have e26 : gA σ (w + 26) (a * 6 + y) = nI (gv (gA τ 1) a y) := by
    have h1 : gA σ (w + 26) (a * 6 + y) = gA τ 1 (4400 + (a * 6 + y)) := h.2.2.2.1.1 (a * 6 + y) (by omega)
    rw [h1, show 4400 + (a * 6 + y) = 4400 + 6 * a + y by omega]
    exact (nI_vN _).symm
  have et : 30 + 12 * (6 * a + y) = tb a y := rfl
  rcases htk with rfl | ⟨t, ht, rfl, hkt⟩
  · obtain ⟨σ1, τ1, m, h1, h2, h3⟩ := main σ (gA τ 1) τ rfl h (Hd5.rf _) rfl Wp.rf
    refine ⟨σ1, τ1, m, ?_, ?_, h3⟩
    · rw [← h1]
      simp (disch := omega) only [↓mI_e, lit, ofN, bsm, nI_add, pk_mul, pk_sub, nI_e, nI_leE, nI_ltE, nI_mI, mI_nI, mI_lt, nlt_mI, mI_le, nle_mI, nI_addm, sh_b, bI_0, bI_1, bI_bI, ckZ_b, ckZ_n0, ckZ_n1, stIe, stJe, stZ_n0, stZ_n1, rm_nI, dv_nI, if_true, if_false, if_pos, if_neg, rf0, rf1, rf5, rf6, rf7, rf8, rf9, rf20, rf23, rf24, rf25, rf26, rf29, rf31, rf33, rf34, rf35, rf37, rf38, rf41, rf42, rf43,  f_X10_putValue, k_X10_putValue_28, k_X10_putValue_29, f_X10_cellOf, w_0 hw, w_1 hw, w_2 hw, w_3 hw, w_4 hw, w_5 hw, w_6 hw, w_7 hw, w_8 hw, ws_0 hw, ws_1 hw, ws_2 hw, ws_3 hw, ws_4 hw, ws_5 hw, wd_0 hw, wd_1 hw, wd_2 hw, wd_3 hw, wd_4 hw, wd_5 hw, wh_0 hw, wh_1 hw, wq_0 hw, wq_1 hw, wt_0 hw, wt_1 hw, lw2 hw, lw4 hw, lw6 hw, lw7 hw, lw9 hw, lw10 hw, lw11 hw, lw12 hw, lw13 hw, lw14 hw, lw16 hw, lw17 hw, lw19 hw, lw20 hw, lw21 hw, lw23 hw, lw24 hw, lw25 hw, lw26 hw, lw27 hw, lw3 hw, lw5 hw, sw2 hw, sw4 hw, sw6 hw, sw7 hw, sw9 hw, sw10 hw, sw11 hw, sw12 hw, sw13 hw, sw14 hw, sw16 hw, sw17 hw, sw19 hw, sw20 hw, sw21 hw, sw23 hw, sw24 hw, sw25 hw, sw26 hw, sw27 hw, c_isSum hw h.1, hs, ec, e26, Bool.and_self, Bool.true_eq_false]
    · rw [← h2]
      obtain ⟨F, hF, hF2⟩ : ∃ F, FU = F ∧ 5000 < F := ⟨FU, rfl, by unfold FU; omega⟩
      show (f_X12_thingOf 0 (nI a) (nI y) τ).bind (fun u18 => k_X12_puts_11 FU 0 (nI y) (nI a) (nI v) mI u18.1 0 u18.2) = _
      rw [show FU = 999999 + 1 from rfl]
      simp (disch := omega) only [↓mI_e, lit, ofN, bsm, nI_add, pk_mul, pk_sub, nI_e, nI_leE, nI_ltE, nI_mI, mI_nI, mI_lt, nlt_mI, mI_le, nle_mI, nI_addm, sh_b, bI_0, bI_1, bI_bI, ckZ_b, ckZ_n0, ckZ_n1, stIe, stJe, stZ_n0, stZ_n1, rm_nI, dv_nI, if_true, if_false, if_pos, if_neg, rf0, rf1, rf5, rf6, rf7, rf8, rf9, rf20, rf23, rf24, rf25, rf26, rf29, rf31, rf33, rf34, rf35, rf37, rf38, rf41, rf42, rf43,  f_X12_thingOf, et]
      rw [k_X12_puts_11]
      simp (disch := omega) only [↓mI_e, lit, ofN, bsm, nI_add, pk_mul, pk_sub, nI_e, nI_leE, nI_ltE, nI_mI, mI_nI, mI_lt, nlt_mI, mI_le, nle_mI, nI_addm, sh_b, bI_0, bI_1, bI_bI, ckZ_b, ckZ_n0, ckZ_n1, stIe, stJe, stZ_n0, stZ_n1, rm_nI, dv_nI, if_true, if_false, if_pos, if_neg, rf0, rf1, rf5, rf6, rf7, rf8, rf9, rf20, rf23, rf24, rf25, rf26, rf29, rf31, rf33, rf34, rf35, rf37, rf38, rf41, rf42, rf43, ]
  · -- with a ticket of that key
    have hne : gA τ 1 (4440 + 8 * t) ≠ mI := by rw [hkt]; exact fun q => by rw [nI_mI (by omega)] at q; exact q
    obtain ⟨hz, htt⟩ := h.2.2.1.2 t ht
    obtain ⟨y', a1, a2, a3, a4, a5⟩ := htt hne
    have ey : y' = y := by rw [a3, nI_e (by omega) (by omega)] at hkt; exact hkt
    subst ey
    have a4 : gA σ (w + 25) t = nI y' := a4
    have cu : CR false σ (w + 22) t (uT (gA τ 1) t) := fun k hk => by
      simp only [Bool.false_eq_true, if_false]
      rw [uT_hi]
      refine ⟨?_, (a5 k hk).1⟩
      unfold uT
      rw [if_pos hk]
      exact hz k hk
    have tu : TI false B (fun k => gv (gA τ 1) k y') (uT (gA τ 1) t) := fun k hk => by
      simp only [Bool.false_eq_true, if_false]
      rw [uT_hi]
      refine ⟨(a5 k hk).2, fun i hi => ?_⟩
      unfold uT at hi
      rw [if_pos hk, bt_n0] at hi
      exact absurd hi (by decide)
    obtain ⟨σj, j1, j2, j3, j4⟩ := W_joinH hw hB h (p := a) (y := y') (by omega) (by omega) (isC_t hw) (j := t) (by omega) (by omega) (by rw [hs]; exact cu) (by rw [hs]; exact tu)
    rw [hs] at j2
    obtain ⟨f1, hf1⟩ : ∃ f1, f1 = put12 (gA τ 1) (tb a y') (jT false (sh (gA τ 1) (tb a y')) (uT (gA τ 1) t)) := ⟨_, rfl⟩
    rw [← hf1] at j2
    have hh1 : Hd5 (gA τ 1) f1 := by rw [hf1]; exact Hd5_put12 (by omega) _
    obtain ⟨σ1, τ1, m, h1, h2, h3⟩ := main σj f1 (sA τ 1 f1) rfl j2 hh1 (by rw [hf1]; exact gv_put12 (by omega) (by omega) _ (by omega) (by omega)) ⟨j3, (Sc.rf τ).sA _ rfl, fun k b1 b2 => by rw [gA_sA, if_pos rfl, hf1, put12_out (by omega)]⟩
    refine ⟨σ1, τ1, m, ?_, ?_, h3⟩
    · rw [← h1]
      simp (disch := omega) only [↓mI_e, lit, ofN, bsm, nI_add, pk_mul, pk_sub, nI_e, nI_leE, nI_ltE, nI_mI, mI_nI, mI_lt, nlt_mI, mI_le, nle_mI, nI_addm, sh_b, bI_0, bI_1, bI_bI, ckZ_b, ckZ_n0, ckZ_n1, stIe, stJe, stZ_n0, stZ_n1, rm_nI, dv_nI, if_true, if_false, if_pos, if_neg, rf0, rf1, rf5, rf6, rf7, rf8, rf9, rf20, rf23, rf24, rf25, rf26, rf29, rf31, rf33, rf34, rf35, rf37, rf38, rf41, rf42, rf43,  f_X10_putValue, k_X10_putValue_28, k_X10_putValue_29, f_X10_cellOf, w_0 hw, w_1 hw, w_2 hw, w_3 hw, w_4 hw, w_5 hw, w_6 hw, w_7 hw, w_8 hw, ws_0 hw, ws_1 hw, ws_2 hw, ws_3 hw, ws_4 hw, ws_5 hw, wd_0 hw, wd_1 hw, wd_2 hw, wd_3 hw, wd_4 hw, wd_5 hw, wh_0 hw, wh_1 hw, wq_0 hw, wq_1 hw, wt_0 hw, wt_1 hw, lw2 hw, lw4 hw, lw6 hw, lw7 hw, lw9 hw, lw10 hw, lw11 hw, lw12 hw, lw13 hw, lw14 hw, lw16 hw, lw17 hw, lw19 hw, lw20 hw, lw21 hw, lw23 hw, lw24 hw, lw25 hw, lw26 hw, lw27 hw, lw3 hw, lw5 hw, sw2 hw, sw4 hw, sw6 hw, sw7 hw, sw9 hw, sw10 hw, sw11 hw, sw12 hw, sw13 hw, sw14 hw, sw16 hw, sw17 hw, sw19 hw, sw20 hw, sw21 hw, sw23 hw, sw24 hw, sw25 hw, sw26 hw, sw27 hw, c_isSum hw h.1, hs, ec, e26, Bool.and_self, Bool.true_eq_false, a4, j1]
    · rw [← h2, hf1]
      have hl := r_puts_loop (a := a) (y := y') (t := t) (by omega) (by omega) ht (gA τ 1) (nI v) FU 0 τ (by omega) (by unfold FU; omega) (by funext j; rw [if_neg (by omega)])
      rw [← hl]
      simp (disch := omega) only [↓mI_e, lit, ofN, bsm, nI_add, pk_mul, pk_sub, nI_e, nI_leE, nI_ltE, nI_mI, mI_nI, mI_lt, nlt_mI, mI_le, nle_mI, nI_addm, sh_b, bI_0, bI_1, bI_bI, ckZ_b, ckZ_n0, ckZ_n1, stIe, stJe, stZ_n0, stZ_n1, rm_nI, dv_nI, if_true, if_false, if_pos, if_neg, rf0, rf1, rf5, rf6, rf7, rf8, rf9, rf20, rf23, rf24, rf25, rf26, rf29, rf31, rf33, rf34, rf35, rf37, rf38, rf41, rf42, rf43,  f_X12_puts, f_X12_thingOf, et]
theorem W_put_no {w : Nat} (hw : isW w) {B : Nat} {σ : ST} {f : Nat → Int32} {g : Nat → Int64} (h : RelW B (wv σ w) f g) {y a : Nat} (hy : y < YN f) (ha : a < KN f) (v : Int32) {k : Int32} (hk : tkIn f k) (hok : ¬ putOk f y a k) : f_X10_putValue w (nI y) (nI a) v k σ = some (mI, σ) := by
  have hK := h.1.1.1
  have hY := h.1.1.2.1
  have ec := c_canTake hw h.1 h.2.1 hy (k := a) (by omega)
  have hgl := gvl h (y := y) (by omega) a (by omega)
  have e26 : gA σ (w + 26) (a * 6 + y) = nI (gv f a y) := by
    have h1 : gA σ (w + 26) (a * 6 + y) = f (4400 + (a * 6 + y)) := h.2.2.2.1.1 (a * 6 + y) (by omega)
    rw [h1, show 4400 + (a * 6 + y) = 4400 + 6 * a + y by omega]
    exact (nI_vN _).symm
  have rest : tkOk f y k → k_X10_putValue_29 w (nI y) (nI a) v k (nI (a * 6 + y)) (nI 0) σ = some (mI, σ) := by
    intro ht
    cases hs : sm f y
    · cases hc : isPl f y a && bt (f 5) a
      · rw [hc] at ec
        simp (disch := omega) only [↓mI_e, lit, ofN, bsm, nI_add, pk_mul, pk_sub, nI_e, nI_leE, nI_ltE, nI_mI, mI_nI, mI_lt, nlt_mI, mI_le, nle_mI, nI_addm, sh_b, bI_0, bI_1, bI_bI, ckZ_b, ckZ_n0, ckZ_n1, stIe, stJe, stZ_n0, stZ_n1, rm_nI, dv_nI, if_true, if_false, if_pos, if_neg, rf0, rf1, rf5, rf6, rf7, rf8, rf9, rf20, rf23, rf24, rf25, rf26, rf29, rf31, rf33, rf34, rf35, rf37, rf38, rf41, rf42, rf43,  k_X10_putValue_29, k_X10_putValue_68, w_0 hw, w_1 hw, w_2 hw, w_3 hw, w_4 hw, w_5 hw, w_6 hw, w_7 hw, w_8 hw, ws_0 hw, ws_1 hw, ws_2 hw, ws_3 hw, ws_4 hw, ws_5 hw, wd_0 hw, wd_1 hw, wd_2 hw, wd_3 hw, wd_4 hw, wd_5 hw, wh_0 hw, wh_1 hw, wq_0 hw, wq_1 hw, wt_0 hw, wt_1 hw, lw2 hw, lw4 hw, lw6 hw, lw7 hw, lw9 hw, lw10 hw, lw11 hw, lw12 hw, lw13 hw, lw14 hw, lw16 hw, lw17 hw, lw19 hw, lw20 hw, lw21 hw, lw23 hw, lw24 hw, lw25 hw, lw26 hw, lw27 hw, lw3 hw, lw5 hw, sw2 hw, sw4 hw, sw6 hw, sw7 hw, sw9 hw, sw10 hw, sw11 hw, sw12 hw, sw13 hw, sw14 hw, sw16 hw, sw17 hw, sw19 hw, sw20 hw, sw21 hw, sw23 hw, sw24 hw, sw25 hw, sw26 hw, sw27 hw, c_isSum hw h.1, hs, ec]
      · rw [hc] at ec
        have hc2 : isPl f y a = true ∧ bt (f 5) a = true := by simpa using hc
        have hg : ¬ gv f a y < 30 := fun z => hok ⟨⟨hs, ht⟩, hc2, z⟩
        simp (disch := omega) only [↓mI_e, lit, ofN, bsm, nI_add, pk_mul, pk_sub, nI_e, nI_leE, nI_ltE, nI_mI, mI_nI, mI_lt, nlt_mI, mI_le, nle_mI, nI_addm, sh_b, bI_0, bI_1, bI_bI, ckZ_b, ckZ_n0, ckZ_n1, stIe, stJe, stZ_n0, stZ_n1, rm_nI, dv_nI, if_true, if_false, if_pos, if_neg, rf0, rf1, rf5, rf6, rf7, rf8, rf9, rf20, rf23, rf24, rf25, rf26, rf29, rf31, rf33, rf34, rf35, rf37, rf38, rf41, rf42, rf43,  k_X10_putValue_29, k_X10_putValue_68, w_0 hw, w_1 hw, w_2 hw, w_3 hw, w_4 hw, w_5 hw, w_6 hw, w_7 hw, w_8 hw, ws_0 hw, ws_1 hw, ws_2 hw, ws_3 hw, ws_4 hw, ws_5 hw, wd_0 hw, wd_1 hw, wd_2 hw, wd_3 hw, wd_4 hw, wd_5 hw, wh_0 hw, wh_1 hw, wq_0 hw, wq_1 hw, wt_0 hw, wt_1 hw, lw2 hw, lw4 hw, lw6 hw, lw7 hw, lw9 hw, lw10 hw, lw11 hw, lw12 hw, lw13 hw, lw14 hw, lw16 hw, lw17 hw, lw19 hw, lw20 hw, lw21 hw, lw23 hw, lw24 hw, lw25 hw, lw26 hw, lw27 hw, lw3 hw, lw5 hw, sw2 hw, sw4 hw, sw6 hw, sw7 hw, sw9 hw, sw10 hw, sw11 hw, sw12 hw, sw13 hw, sw14 hw, sw16 hw, sw17 hw, sw19 hw, sw20 hw, sw21 hw, sw23 hw, sw24 hw, sw25 hw, sw26 hw, sw27 hw, c_isSum hw h.1, hs, ec, Bool.true_eq_false, e26]
    · simp (disch := omega) only [↓mI_e, lit, ofN, bsm, nI_add, pk_mul, pk_sub, nI_e, nI_leE, nI_ltE, nI_mI, mI_nI, mI_lt, nlt_mI, mI_le, nle_mI, nI_addm, sh_b, bI_0, bI_1, bI_bI, ckZ_b, ckZ_n0, ckZ_n1, stIe, stJe, stZ_n0, stZ_n1, rm_nI, dv_nI, if_true, if_false, if_pos, if_neg, rf0, rf1, rf5, rf6, rf7, rf8, rf9, rf20, rf23, rf24, rf25, rf26, rf29, rf31, rf33, rf34, rf35, rf37, rf38, rf41, rf42, rf43,  k_X10_putValue_29, k_X10_putValue_68, w_0 hw, w_1 hw, w_2 hw, w_3 hw, w_4 hw, w_5 hw, w_6 hw, w_7 hw, w_8 hw, ws_0 hw, ws_1 hw, ws_2 hw, ws_3 hw, ws_4 hw, ws_5 hw, wd_0 hw, wd_1 hw, wd_2 hw, wd_3 hw, wd_4 hw, wd_5 hw, wh_0 hw, wh_1 hw, wq_0 hw, wq_1 hw, wt_0 hw, wt_1 hw, lw2 hw, lw4 hw, lw6 hw, lw7 hw, lw9 hw, lw10 hw, lw11 hw, lw12 hw, lw13 hw, lw14 hw, lw16 hw, lw17 hw, lw19 hw, lw20 hw, lw21 hw, lw23 hw, lw24 hw, lw25 hw, lw26 hw, lw27 hw, lw3 hw, lw5 hw, sw2 hw, sw4 hw, sw6 hw, sw7 hw, sw9 hw, sw10 hw, sw11 hw, sw12 hw, sw13 hw, sw14 hw, sw16 hw, sw17 hw, sw19 hw, sw20 hw, sw21 hw, sw23 hw, sw24 hw, sw25 hw, sw26 hw, sw27 hw, c_isSum hw h.1, hs, Bool.true_eq_false]
  rcases hk with rfl | ⟨t, ht, rfl, hne⟩
  · have := rest (Or.inl rfl)
    simp (disch := omega) only [↓mI_e, lit, ofN, bsm, nI_add, pk_mul, pk_sub, nI_e, nI_leE, nI_ltE, nI_mI, mI_nI, mI_lt, nlt_mI, mI_le, nle_mI, nI_addm, sh_b, bI_0, bI_1, bI_bI, ckZ_b, ckZ_n0, ckZ_n1, stIe, stJe, stZ_n0, stZ_n1, rm_nI, dv_nI, if_true, if_false, if_pos, if_neg, rf0, rf1, rf5, rf6, rf7, rf8, rf9, rf20, rf23, rf24, rf25, rf26, rf29, rf31, rf33, rf34, rf35, rf37, rf38, rf41, rf42, rf43,  f_X10_putValue, k_X10_putValue_28, f_X10_cellOf, this]
  · obtain ⟨y', a1, a2, a3, a4, a5⟩ := (h.2.2.1.2 t ht).2 hne
    have a4 : gA σ (w + 25) t = nI y' := a4
    by_cases z : y' = y
    · subst z
      have := rest (Or.inr ⟨t, ht, rfl, a3⟩)
      simp (disch := omega) only [↓mI_e, lit, ofN, bsm, nI_add, pk_mul, pk_sub, nI_e, nI_leE, nI_ltE, nI_mI, mI_nI, mI_lt, nlt_mI, mI_le, nle_mI, nI_addm, sh_b, bI_0, bI_1, bI_bI, ckZ_b, ckZ_n0, ckZ_n1, stIe, stJe, stZ_n0, stZ_n1, rm_nI, dv_nI, if_true, if_false, if_pos, if_neg, rf0, rf1, rf5, rf6, rf7, rf8, rf9, rf20, rf23, rf24, rf25, rf26, rf29, rf31, rf33, rf34, rf35, rf37, rf38, rf41, rf42, rf43,  f_X10_putValue, k_X10_putValue_28, f_X10_cellOf, w_0 hw, w_1 hw, w_2 hw, w_3 hw, w_4 hw, w_5 hw, w_6 hw, w_7 hw, w_8 hw, ws_0 hw, ws_1 hw, ws_2 hw, ws_3 hw, ws_4 hw, ws_5 hw, wd_0 hw, wd_1 hw, wd_2 hw, wd_3 hw, wd_4 hw, wd_5 hw, wh_0 hw, wh_1 hw, wq_0 hw, wq_1 hw, wt_0 hw, wt_1 hw, lw2 hw, lw4 hw, lw6 hw, lw7 hw, lw9 hw, lw10 hw, lw11 hw, lw12 hw, lw13 hw, lw14 hw, lw16 hw, lw17 hw, lw19 hw, lw20 hw, lw21 hw, lw23 hw, lw24 hw, lw25 hw, lw26 hw, lw27 hw, lw3 hw, lw5 hw, sw2 hw, sw4 hw, sw6 hw, sw7 hw, sw9 hw, sw10 hw, sw11 hw, sw12 hw, sw13 hw, sw14 hw, sw16 hw, sw17 hw, sw19 hw, sw20 hw, sw21 hw, sw23 hw, sw24 hw, sw25 hw, sw26 hw, sw27 hw, a4, this]
    · have n1 : ¬ (nI 1 = nI 0) := by decide
      cases hs : sm f y
      · simp (disch := omega) only [↓mI_e, lit, ofN, bsm, nI_add, pk_mul, pk_sub, nI_e, nI_leE, nI_ltE, nI_mI, mI_nI, mI_lt, nlt_mI, mI_le, nle_mI, nI_addm, sh_b, bI_0, bI_1, bI_bI, ckZ_b, ckZ_n0, ckZ_n1, stIe, stJe, stZ_n0, stZ_n1, rm_nI, dv_nI, if_true, if_false, if_pos, if_neg, rf0, rf1, rf5, rf6, rf7, rf8, rf9, rf20, rf23, rf24, rf25, rf26, rf29, rf31, rf33, rf34, rf35, rf37, rf38, rf41, rf42, rf43,  f_X10_putValue, k_X10_putValue_29, k_X10_putValue_68, f_X10_cellOf, w_0 hw, w_1 hw, w_2 hw, w_3 hw, w_4 hw, w_5 hw, w_6 hw, w_7 hw, w_8 hw, ws_0 hw, ws_1 hw, ws_2 hw, ws_3 hw, ws_4 hw, ws_5 hw, wd_0 hw, wd_1 hw, wd_2 hw, wd_3 hw, wd_4 hw, wd_5 hw, wh_0 hw, wh_1 hw, wq_0 hw, wq_1 hw, wt_0 hw, wt_1 hw, lw2 hw, lw4 hw, lw6 hw, lw7 hw, lw9 hw, lw10 hw, lw11 hw, lw12 hw, lw13 hw, lw14 hw, lw16 hw, lw17 hw, lw19 hw, lw20 hw, lw21 hw, lw23 hw, lw24 hw, lw25 hw, lw26 hw, lw27 hw, lw3 hw, lw5 hw, sw2 hw, sw4 hw, sw6 hw, sw7 hw, sw9 hw, sw10 hw, sw11 hw, sw12 hw, sw13 hw, sw14 hw, sw16 hw, sw17 hw, sw19 hw, sw20 hw, sw21 hw, sw23 hw, sw24 hw, sw25 hw, sw26 hw, sw27 hw, a4, z, c_isSum hw h.1, hs, n1]
      · simp (disch := omega) only [↓mI_e, lit, ofN, bsm, nI_add, pk_mul, pk_sub, nI_e, nI_leE, nI_ltE, nI_mI, mI_nI, mI_lt, nlt_mI, mI_le, nle_mI, nI_addm, sh_b, bI_0, bI_1, bI_bI, ckZ_b, ckZ_n0, ckZ_n1, stIe, stJe, stZ_n0, stZ_n1, rm_nI, dv_nI, if_true, if_false, if_pos, if_neg, rf0, rf1, rf5, rf6, rf7, rf8, rf9, rf20, rf23, rf24, rf25, rf26, rf29, rf31, rf33, rf34, rf35, rf37, rf38, rf41, rf42, rf43,  f_X10_putValue, k_X10_putValue_29, k_X10_putValue_68, f_X10_cellOf, w_0 hw, w_1 hw, w_2 hw, w_3 hw, w_4 hw, w_5 hw, w_6 hw, w_7 hw, w_8 hw, ws_0 hw, ws_1 hw, ws_2 hw, ws_3 hw, ws_4 hw, ws_5 hw, wd_0 hw, wd_1 hw, wd_2 hw, wd_3 hw, wd_4 hw, wd_5 hw, wh_0 hw, wh_1 hw, wq_0 hw, wq_1 hw, wt_0 hw, wt_1 hw, lw2 hw, lw4 hw, lw6 hw, lw7 hw, lw9 hw, lw10 hw, lw11 hw, lw12 hw, lw13 hw, lw14 hw, lw16 hw, lw17 hw, lw19 hw, lw20 hw, lw21 hw, lw23 hw, lw24 hw, lw25 hw, lw26 hw, lw27 hw, lw3 hw, lw5 hw, sw2 hw, sw4 hw, sw6 hw, sw7 hw, sw9 hw, sw10 hw, sw11 hw, sw12 hw, sw13 hw, sw14 hw, sw16 hw, sw17 hw, sw19 hw, sw20 hw, sw21 hw, sw23 hw, sw24 hw, sw25 hw, sw26 hw, sw27 hw, a4, z, c_isSum hw h.1, hs, Bool.true_eq_false]
