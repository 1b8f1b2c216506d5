/-! ADD in a world; PUT, STRIKE, ADD as calls -/
theorem W_add {w : Nat} (hw : isW w) {B : Nat} (hB : B + 999 < 2 ^ 31) {σ τ : ST} {g : Nat → Int64} (h : RelW B (wv σ w) (gA τ 1) g) {y a n : Nat} (hy : y < YN (gA τ 1)) (ha : a < KN (gA τ 1)) (hn : n ≤ 999) (hs : sm (gA τ 1) y = true) (hc : isPl (gA τ 1) y a = true ∧ bt (gA τ 1 5) a = true) : ∃ σ1 τ1 m, f_X10_addPart w (nI y) (nI a) (nI n) σ = some (nI m, σ1) ∧ f_X12_adds 0 (nI y) (nI a) (nI n) τ = some (nI m, τ1) ∧ RelW (B + 999) (wv σ1 w) (gA τ1 1) g ∧ Wp w σ σ1 τ τ1 ∧ gI τ1 0 28 = nI (if m < WN (gA τ 1) then 0 else 1) ∧ m ≤ 100 ∧ WN (gA τ1 1) = WN (gA τ 1) := by
  have hK := h.1.1.1
  have hY := h.1.1.2.1
  have t1 := tb_lt (p := a) (y := y) (by omega) (by omega)
  obtain ⟨c1, ti1⟩ := h.2.2.2.2.2.1 a y (by omega) (by omega)
  have ca := c1 a (by omega)
  have ta := ti1 a (by omega)
  rw [hs] at ca ta
  simp only [if_true] at ca ta
  have ea : gA σ (w + 17) ((a * 6 + y) * 6 + a) = nI (vN (gA τ 1 (tb a y + a))) := by
    have h1 : gA σ (w + 17) ((a * 6 + y) * 6 + a) = gA τ 1 (tb a y + a) := ca.2.1
    rw [h1, nI_vN]
  have eb : gA τ 1 (tb a y + a) = nI (vN (gA τ 1 (tb a y + a))) := (nI_vN _).symm
  have hle : vN (gA τ 1 (tb a y + a)) ≤ B := ta.1
  obtain ⟨V, hV⟩ : ∃ V, V = vN (gA τ 1 (tb a y + a)) := ⟨_, rfl⟩
  rw [← hV] at ea eb hle
  obtain ⟨t, ht⟩ : ∃ t, t = upd (sh (gA τ 1) (tb a y)) a (nI (V + n)) := ⟨_, rfl⟩
  obtain ⟨f1, hf1⟩ : ∃ f1, f1 = upd (gA τ 1) (tb a y + a) (nI (V + n)) := ⟨_, rfl⟩
  have ef : put12 (gA τ 1) (tb a y) t = f1 := by
    rw [ht, hf1]
    funext j
    rw [upd_at]
    unfold put12
    by_cases z : tb a y ≤ j ∧ j < tb a y + 12
    · rw [if_pos z, upd_at]
      by_cases z2 : j = tb a y + a
      · rw [if_pos z2, if_pos (by omega)]
      · rw [if_neg z2, if_neg (by omega)]
        unfold sh
        rw [show tb a y + (j - tb a y) = j by omega]
    · rw [if_neg z, if_neg (by omega)]
  have hR : RelW (B + 999) (wv (sA σ (w + 17) (upd (gA σ (w + 17)) ((a * 6 + y) * 6 + a) (nI (V + n)))) w) f1 g := by
    rw [wv_sA _ _ (by decide), ← ef]
    refine RelW_have (RelW_mono (by omega) h) (p := a) (y := y) (by omega) (by omega) ?_ ?_ ?_
    · refine ⟨fun _ _ => rfl, fun x _ h2 => by rw [gA_sA, if_neg h2], fun _ => rfl, fun j hj => ⟨rfl, ?_⟩⟩
      rw [gA_sA, if_pos rfl, upd_at, if_neg (by omega)]; rfl
    · intro k hk
      have h3 := c1 k hk
      rw [hs] at h3 ⊢
      simp only [if_true] at h3 ⊢
      rw [ht, upd_at, upd_at, if_neg (show ¬ 6 + k = a by omega)]
      refine ⟨h3.1, ?_, h3.2.2⟩
      show upd (gA σ (w + 17)) _ _ _ = _
      rw [upd_at]
      by_cases z : k = a
      · subst z; rw [if_pos rfl, if_pos rfl]
      · rw [if_neg (by omega), if_neg z]; exact h3.2.1
    · intro k hk
      have h3 := ti1 k hk
      rw [hs] at h3 ⊢
      simp only [if_true] at h3 ⊢
      rw [ht, upd_at, upd_at, if_neg (show ¬ 6 + k = a by omega)]
      refine ⟨?_, h3.2⟩
      by_cases z : k = a
      · rw [if_pos z, vN_nI (by omega)]; omega
      · rw [if_neg z]; omega
  have hh1 : Hd5 (gA τ 1) f1 := by
    have ed : ∀ k, k < 28 → f1 k = gA τ 1 k := fun k hk => by rw [hf1, upd_at, if_neg (by omega)]
    exact ⟨fun k hk => ed k (by omega), ed 5 (by omega), ed 6 (by omega)⟩
  have hf2 : WFs f1 := hh1.1.wf h.1.1
  obtain ⟨σ1, q1, q2, q3⟩ := c_giveOut hw hB hR (y := y) (a := a) (by rw [hh1.1.Y]; exact hy) (by rw [hh1.1.K]; exact ha)
  obtain ⟨gr, r1⟩ := r_givesOut (τ := sA τ 1 f1) hf2 (y := y) (a := a) (by show y < YN f1; rw [hh1.1.Y]; exact hy) (by show a < KN f1; rw [hh1.1.K]; exact ha)
  have e1 : gA (sA τ 1 f1) 1 = f1 := rfl
  rw [e1] at r1
  have hcc := gS_c f1 y a (pm f1)
  have hpk := pm_le (f := f1)
  have hk2 := hh1.1.K
  have hgs := gS_h hf2 (y := y) (a := a) (by rw [hh1.1.Y]; exact hy) (by omega) (pm f1) (by omega)
  refine ⟨σ1, sI (sA (sA (sA τ 1 f1) 9 gr) 1 (gS f1 y a (pm f1)).1) 0 28 (nI (if (gS f1 y a (pm f1)).2.2 < WN f1 then 0 else 1)), (gS f1 y a (pm f1)).2.2, ?_, ?_, q2, ?_, ?_, by omega, ?_⟩
  · have ec := c_canTake hw h.1 h.2.1 hy (k := a) (by omega)
    rw [hc.1, hc.2] at ec
    simp (disch := omega) only [↓mI_e, lit, ofN, bsm, nI_add, pk_mul, pk_sub, nI_e, nI_leE, nI_ltE, nI_mI, mI_nI, mI_lt, nlt_mI, mI_le, nle_mI, nI_addm, sh_b, bI_0, bI_1, bI_bI, ckZ_b, ckZ_n0, ckZ_n1, stIe, stJe, stZ_n0, stZ_n1, rm_nI, dv_nI, if_true, if_false, if_pos, if_neg, rf0, rf1, rf5, rf6, rf7, rf8, rf9, rf20, rf23, rf24, rf25, rf26, rf29, rf31, rf33, rf34, rf35, rf37, rf38, rf41, rf42, rf43,  f_X10_addPart, k_X10_addPart_20, f_X10_cellOf, w_0 hw, w_1 hw, w_2 hw, w_3 hw, w_4 hw, w_5 hw, w_6 hw, w_7 hw, w_8 hw, ws_0 hw, ws_1 hw, ws_2 hw, ws_3 hw, ws_4 hw, ws_5 hw, wd_0 hw, wd_1 hw, wd_2 hw, wd_3 hw, wd_4 hw, wd_5 hw, wh_0 hw, wh_1 hw, wq_0 hw, wq_1 hw, wt_0 hw, wt_1 hw, lw2 hw, lw4 hw, lw6 hw, lw7 hw, lw9 hw, lw10 hw, lw11 hw, lw12 hw, lw13 hw, lw14 hw, lw16 hw, lw17 hw, lw19 hw, lw20 hw, lw21 hw, lw23 hw, lw24 hw, lw25 hw, lw26 hw, lw27 hw, lw3 hw, lw5 hw, sw2 hw, sw4 hw, sw6 hw, sw7 hw, sw9 hw, sw10 hw, sw11 hw, sw12 hw, sw13 hw, sw14 hw, sw16 hw, sw17 hw, sw19 hw, sw20 hw, sw21 hw, sw23 hw, sw24 hw, sw25 hw, sw26 hw, sw27 hw, c_isSum hw h.1, hs, ec, Bool.and_self, Bool.true_eq_false, ea, q1]
  · have et : 30 + 12 * (6 * a + y) = tb a y := rfl
    simp (disch := omega) only [↓mI_e, lit, ofN, bsm, nI_add, pk_mul, pk_sub, nI_e, nI_leE, nI_ltE, nI_mI, mI_nI, mI_lt, nlt_mI, mI_le, nle_mI, nI_addm, sh_b, bI_0, bI_1, bI_bI, ckZ_b, ckZ_n0, ckZ_n1, stIe, stJe, stZ_n0, stZ_n1, rm_nI, dv_nI, if_true, if_false, if_pos, if_neg, rf0, rf1, rf5, rf6, rf7, rf8, rf9, rf20, rf23, rf24, rf25, rf26, rf29, rf31, rf33, rf34, rf35, rf37, rf38, rf41, rf42, rf43,  f_X12_adds, f_X12_thingOf, et, lr1, sr1, eb, ← hf1, r1]
  · refine ⟨(SqW_sA hw (Sq.rf σ) (by decide) _).trans q3, (((((Sc.rf τ).sA _ rfl).sA _ rfl).sA _ rfl).sI _ rfl), fun k a1 a2 => ?_⟩
    rw [gA_sI, gA_sA, if_pos rfl, gS_reg hf2 (y := y) (a := a) (by rw [hh1.1.Y]; exact hy) (by omega) (pm f1) (by omega) k (by omega), hf1, upd_at, if_neg (by omega)]
  · rw [gI_sI, if_pos ⟨rfl, rfl⟩, hh1.1.W]
  · show WN (gS f1 y a (pm f1)).1 = _
    rw [hgs.1.W, hh1.1.W]
theorem W_add_no {w : Nat} (hw : isW w) {B : Nat} {σ : ST} {f : Nat → Int32} {g : Nat → Int64} (h : RelW B (wv σ w) f g) {y a : Nat} (hy : y < YN f) (ha : a < KN f) (n : Int32) (hc : ¬ (sm f y = true ∧ (isPl f y a && bt (f 5) a) = true)) : f_X10_addPart w (nI y) (nI a) n σ = some (mI, σ) := by
  have hK := h.1.1.1
  have hY := h.1.1.2.1
  have ec := c_canTake hw h.1 h.2.1 hy (k := a) (by omega)
  cases hs : sm f y
  · simp (disch := omega) only [↓mI_e, lit, ofN, bsm, nI_add, pk_mul, pk_sub, nI_e, nI_leE, nI_ltE, nI_mI, mI_nI, mI_lt, nlt_mI, mI_le, nle_mI, nI_addm, sh_b, bI_0, bI_1, bI_bI, ckZ_b, ckZ_n0, ckZ_n1, stIe, stJe, stZ_n0, stZ_n1, rm_nI, dv_nI, if_true, if_false, if_pos, if_neg, rf0, rf1, rf5, rf6, rf7, rf8, rf9, rf20, rf23, rf24, rf25, rf26, rf29, rf31, rf33, rf34, rf35, rf37, rf38, rf41, rf42, rf43,  f_X10_addPart, k_X10_addPart_20, w_0 hw, w_1 hw, w_2 hw, w_3 hw, w_4 hw, w_5 hw, w_6 hw, w_7 hw, w_8 hw, ws_0 hw, ws_1 hw, ws_2 hw, ws_3 hw, ws_4 hw, ws_5 hw, wd_0 hw, wd_1 hw, wd_2 hw, wd_3 hw, wd_4 hw, wd_5 hw, wh_0 hw, wh_1 hw, wq_0 hw, wq_1 hw, wt_0 hw, wt_1 hw, lw2 hw, lw4 hw, lw6 hw, lw7 hw, lw9 hw, lw10 hw, lw11 hw, lw12 hw, lw13 hw, lw14 hw, lw16 hw, lw17 hw, lw19 hw, lw20 hw, lw21 hw, lw23 hw, lw24 hw, lw25 hw, lw26 hw, lw27 hw, lw3 hw, lw5 hw, sw2 hw, sw4 hw, sw6 hw, sw7 hw, sw9 hw, sw10 hw, sw11 hw, sw12 hw, sw13 hw, sw14 hw, sw16 hw, sw17 hw, sw19 hw, sw20 hw, sw21 hw, sw23 hw, sw24 hw, sw25 hw, sw26 hw, sw27 hw, c_isSum hw h.1, hs]
  · have h2 : (isPl f y a && bt (f 5) a) = false := by
      cases q : isPl f y a && bt (f 5) a
      · rfl
      · exact absurd ⟨hs, q⟩ hc
    rw [h2] at ec
    simp (disch := omega) only [↓mI_e, lit, ofN, bsm, nI_add, pk_mul, pk_sub, nI_e, nI_leE, nI_ltE, nI_mI, mI_nI, mI_lt, nlt_mI, mI_le, nle_mI, nI_addm, sh_b, bI_0, bI_1, bI_bI, ckZ_b, ckZ_n0, ckZ_n1, stIe, stJe, stZ_n0, stZ_n1, rm_nI, dv_nI, if_true, if_false, if_pos, if_neg, rf0, rf1, rf5, rf6, rf7, rf8, rf9, rf20, rf23, rf24, rf25, rf26, rf29, rf31, rf33, rf34, rf35, rf37, rf38, rf41, rf42, rf43,  f_X10_addPart, k_X10_addPart_20, w_0 hw, w_1 hw, w_2 hw, w_3 hw, w_4 hw, w_5 hw, w_6 hw, w_7 hw, w_8 hw, ws_0 hw, ws_1 hw, ws_2 hw, ws_3 hw, ws_4 hw, ws_5 hw, wd_0 hw, wd_1 hw, wd_2 hw, wd_3 hw, wd_4 hw, wd_5 hw, wh_0 hw, wh_1 hw, wq_0 hw, wq_1 hw, wt_0 hw, wt_1 hw, lw2 hw, lw4 hw, lw6 hw, lw7 hw, lw9 hw, lw10 hw, lw11 hw, lw12 hw, lw13 hw, lw14 hw, lw16 hw, lw17 hw, lw19 hw, lw20 hw, lw21 hw, lw23 hw, lw24 hw, lw25 hw, lw26 hw, lw27 hw, lw3 hw, lw5 hw, sw2 hw, sw4 hw, sw6 hw, sw7 hw, sw9 hw, sw10 hw, sw11 hw, sw12 hw, sw13 hw, sw14 hw, sw16 hw, sw17 hw, sw19 hw, sw20 hw, sw21 hw, sw23 hw, sw24 hw, sw25 hw, sw26 hw, sw27 hw, c_isSum hw h.1, hs, Bool.true_eq_false, ec]
/-- behind a put, strike or add that was done -/
theorem Sm_told {i : Nat} (hi : i + 6 ≤ 3072) {σ τ σ1 τ1 : ST} {m : Nat} (h : Rel i σ τ) (hp : Wp wM σ σ1 τ τ1) (hR : RelW (50000 * (i + 6)) (wv σ1 wM) (gA τ1 1) (gB τ 2)) (h28 : gI τ1 0 28 = nI (if m < WN (gA τ 1) then 0 else 1)) (hm : m ≤ 100) (hW : WN (gA τ1 1) = WN (gA τ 1)) : Sm i ((f_X11_answerTold 0 (nI m) σ1).bind (fun u => some (u.1, u.2))) (some (nI m, sI τ1 0 2 (nI 0))) := by
  have e11 : gI σ1 (wM + 1) 11 = nI (WN (gA τ 1)) := by
    have h1 : gI σ1 (wM + 1) 11 = gA τ1 1 2 := hR.1.2.1.2.2.2.2
    rw [h1, ← hW]; exact (nI_vN _).symm
  have hWl := hR.1.1.2.2.2.2.1
  have hNl := hR.1.1.2.2.1
  rw [hW] at hWl
  have e : f_X11_answerTold 0 (nI m) σ1 = some (nI m, sI (sI σ1 0 19 (nI (if m < WN (gA τ 1) then 0 else 1))) 0 14 (nI 0)) := by
    simp (disch := omega) only [↓mI_e, lit, ofN, bsm, nI_add, pk_mul, pk_sub, nI_e, nI_leE, nI_ltE, nI_mI, mI_nI, mI_lt, nlt_mI, mI_le, nle_mI, nI_addm, sh_b, bI_0, bI_1, bI_bI, ckZ_b, ckZ_n0, ckZ_n1, stIe, stJe, stZ_n0, stZ_n1, rm_nI, dv_nI, if_true, if_false, if_pos, if_neg, rf0, rf1, rf5, rf6, rf7, rf8, rf9, rf20, rf23, rf24, rf25, rf26, rf29, rf31, rf33, rf34, rf35, rf37, rf38, rf41, rf42, rf43,  f_X11_answerTold, k_X11_answerTold_32, c02, w_0 wM_w, e11, c_answer]
    by_cases g : m < WN (gA τ 1)
    · simp only [if_pos g]
    · simp only [if_neg g]
  rw [e]
  refine ⟨nI m, _, _, rfl, rfl, ?_⟩
  refine Rel_w h (((hp.1.mono (fun k _ => rfl)).sI _ rfl).sI _ rfl) ((hp.2.1.mono (fun k hk => by simp at hk ⊢; exact hk.2.2.2)).sI _ rfl) ⟨by rw [gI_sI, gI_sI]; rfl, ?_, ?_⟩ ?_ (fun k a b => hp.2.2 k a (by omega)) ?_
  · rw [gJ_sI, gJ_sI, gJ_sI, hp.1.2.1 15 rfl, hp.2.1.2.1 3 rfl]; exact h.1.2.1
  · rw [gJ_sI, gJ_sI, gJ_sI, hp.1.2.1 16 rfl, hp.2.1.2.1 4 rfl]; exact h.1.2.2
  · rw [gI_sI, if_neg (by decide), gI_sI, if_pos ⟨rfl, rfl⟩, gI_sI τ1, if_neg (c := 0 = 0 ∧ 28 = 2) (by decide), h28]
  · rw [wv_sI_out _ (by unfold wM; omega), wv_sI_out _ (by unfold wM; omega)]; exact hR
theorem putS {i : Nat} (hi : i + 6 ≤ 3072) {σ τ : ST} (h : Rel i σ τ) {y a v : Nat} (hy : y < YN (gA τ 1)) (ha : a < KN (gA τ 1)) (hv : v ≤ 1000) {k : Int32} (hk : k = mI ∨ ∃ t, t < 4 ∧ k = nI t) : Sm i (f_X11_putOrStrike 0 (nI y) (nI a) (nI v) k σ) (k_X12_put0_48 0 (nI y) (nI a) (nI v) k τ) := by
  have hW := h.2.2.2.2.1
  have hS := hW.1
  have hT := hW.2.2.1
  have hK := hS.1.1
  have hY := hS.1.2.1
  have hgl := gvl hW (y := y) (by omega) a (by omega)
  have go : tkIn (gA τ 1) k → f_X11_putOrStrike 0 (nI y) (nI a) (nI v) k σ = k_X11_putOrStrike_25 0 (nI y) (nI a) (nI v) k σ → Sm i (f_X11_putOrStrike 0 (nI y) (nI a) (nI v) k σ) (k_X12_put0_48 0 (nI y) (nI a) (nI v) k τ) := by
    intro hin e1
    rw [e1]
    obtain ⟨gr, x, r1, r2⟩ := r_wrongPut hS.1 hy (by omega) hgl hin
    rcases r2 with ⟨rfl, hok⟩ | ⟨rfl, hok⟩
    · obtain ⟨σ1, τ1, m, p1, p2, p3, p4, p5, p6, p7⟩ := W_put wM_w (by omega) (τ := sA τ 9 gr) hW hy ha hv hok
      have hp : Wp wM σ σ1 τ τ1 := ⟨p4.1, ((Sc.rf τ).sA gr rfl).trans p4.2.1, p4.2.2⟩
      have hfin := Sm_told hi h hp (RelW_mono (by omega) p3) p5 p6 p7
      simp (disch := omega) only [↓mI_e, lit, ofN, bsm, nI_add, pk_mul, pk_sub, nI_e, nI_leE, nI_ltE, nI_mI, mI_nI, mI_lt, nlt_mI, mI_le, nle_mI, nI_addm, sh_b, bI_0, bI_1, bI_bI, ckZ_b, ckZ_n0, ckZ_n1, stIe, stJe, stZ_n0, stZ_n1, rm_nI, dv_nI, if_true, if_false, if_pos, if_neg, rf0, rf1, rf5, rf6, rf7, rf8, rf9, rf20, rf23, rf24, rf25, rf26, rf29, rf31, rf33, rf34, rf35, rf37, rf38, rf41, rf42, rf43,  k_X11_putOrStrike_25, k_X12_put0_48, k_X12_put0_85, c02, p1, r1, p2, r_gives]
      exact hfin
    · have hno := W_put_no wM_w hW hy ha (nI v) hin hok
      simp (disch := omega) only [↓mI_e, lit, ofN, bsm, nI_add, pk_mul, pk_sub, nI_e, nI_leE, nI_ltE, nI_mI, mI_nI, mI_lt, nlt_mI, mI_le, nle_mI, nI_addm, sh_b, bI_0, bI_1, bI_bI, ckZ_b, ckZ_n0, ckZ_n1, stIe, stJe, stZ_n0, stZ_n1, rm_nI, dv_nI, if_true, if_false, if_pos, if_neg, rf0, rf1, rf5, rf6, rf7, rf8, rf9, rf20, rf23, rf24, rf25, rf26, rf29, rf31, rf33, rf34, rf35, rf37, rf38, rf41, rf42, rf43,  k_X11_putOrStrike_25, k_X12_put0_48, k_X12_put0_85, c02, hno, r1, f_X11_answerTold, c_refuse, r_refuse]
      exact Sm_9 h _ _ _
  rcases hk with rfl | ⟨t, ht, rfl⟩
  · exact go (Or.inl rfl) (by simp (disch := omega) only [↓mI_e, lit, ofN, bsm, nI_add, pk_mul, pk_sub, nI_e, nI_leE, nI_ltE, nI_mI, mI_nI, mI_lt, nlt_mI, mI_le, nle_mI, nI_addm, sh_b, bI_0, bI_1, bI_bI, ckZ_b, ckZ_n0, ckZ_n1, stIe, stJe, stZ_n0, stZ_n1, rm_nI, dv_nI, if_true, if_false, if_pos, if_neg, rf0, rf1, rf5, rf6, rf7, rf8, rf9, rf20, rf23, rf24, rf25, rf26, rf29, rf31, rf33, rf34, rf35, rf37, rf38, rf41, rf42, rf43,  f_X11_putOrStrike])
  · by_cases g : gA τ 1 (4440 + 8 * t) = mI
    · have g3 : decide (gA τ 1 (4440 + 8 * t) ≠ mI) = false := decide_eq_false (fun z => z g)
      simp (disch := omega) only [↓mI_e, lit, ofN, bsm, nI_add, pk_mul, pk_sub, nI_e, nI_leE, nI_ltE, nI_mI, mI_nI, mI_lt, nlt_mI, mI_le, nle_mI, nI_addm, sh_b, bI_0, bI_1, bI_bI, ckZ_b, ckZ_n0, ckZ_n1, stIe, stJe, stZ_n0, stZ_n1, rm_nI, dv_nI, if_true, if_false, if_pos, if_neg, rf0, rf1, rf5, rf6, rf7, rf8, rf9, rf20, rf23, rf24, rf25, rf26, rf29, rf31, rf33, rf34, rf35, rf37, rf38, rf41, rf42, rf43,  f_X11_putOrStrike, k_X12_put0_48, k_X12_put0_85, f_X12_wrongPut, c02, c_hasTicket hT ht, g3, lr1, g, c_refuse, r_refuse]
      exact Sm_0 h _ _
    · have g3 : decide (gA τ 1 (4440 + 8 * t) ≠ mI) = true := decide_eq_true g
      exact go (Or.inr ⟨t, ht, rfl, g⟩) (by simp (disch := omega) only [↓mI_e, lit, ofN, bsm, nI_add, pk_mul, pk_sub, nI_e, nI_leE, nI_ltE, nI_mI, mI_nI, mI_lt, nlt_mI, mI_le, nle_mI, nI_addm, sh_b, bI_0, bI_1, bI_bI, ckZ_b, ckZ_n0, ckZ_n1, stIe, stJe, stZ_n0, stZ_n1, rm_nI, dv_nI, if_true, if_false, if_pos, if_neg, rf0, rf1, rf5, rf6, rf7, rf8, rf9, rf20, rf23, rf24, rf25, rf26, rf29, rf31, rf33, rf34, rf35, rf37, rf38, rf41, rf42, rf43,  f_X11_putOrStrike, c02, c_hasTicket hT ht, g3, Bool.true_eq_false])
theorem Sm_bind {i : Nat} {A B : Option (Int32 × ST)} (h : Sm i A B) : Sm i (A.bind (fun u => some (u.1, u.2))) (B.bind (fun u => some (u.1, u.2))) := by
  obtain ⟨r, σ1, τ1, h1, h2, h3⟩ := h
  exact ⟨r, σ1, τ1, by rw [h1]; rfl, by rw [h2]; rfl, h3⟩
theorem sim_put (i : Nat) (hi : i + 6 ≤ 3072) : SIM_put (Rel i) (Rel (i + 6)) := by
  intro a0 a1 a2 a3 σ τ h
  have hS := h.2.2.2.2.1.1
  have hK := hS.1.1
  show Sm i _ _
  rcases key_cases hS.1 a0 with hb | ⟨y, hy, rfl⟩
  · simp (disch := omega) only [↓mI_e, lit, ofN, bsm, nI_add, pk_mul, pk_sub, nI_e, nI_leE, nI_ltE, nI_mI, mI_nI, mI_lt, nlt_mI, mI_le, nle_mI, nI_addm, sh_b, bI_0, bI_1, bI_bI, ckZ_b, ckZ_n0, ckZ_n1, stIe, stJe, stZ_n0, stZ_n1, rm_nI, dv_nI, if_true, if_false, if_pos, if_neg, rf0, rf1, rf5, rf6, rf7, rf8, rf9, rf20, rf23, rf24, rf25, rf26, rf29, rf31, rf33, rf34, rf35, rf37, rf38, rf41, rf42, rf43,  f_X11_put, k_X11_put_36, f_X12_put, k_X12_put_15, f_X12_put0, k_X12_put0_42, k_X12_put0_48, k_X12_put0_85, c_isKey_no hS hb, r_isKey_no hb, c_refuse, r_refuse, ite_self]
    exact Sm_0 h _ _
  · rcases keeper_cases hS.1 a1 with hb | ⟨a, ha, rfl⟩
    · simp (disch := omega) only [↓mI_e, lit, ofN, bsm, nI_add, pk_mul, pk_sub, nI_e, nI_leE, nI_ltE, nI_mI, mI_nI, mI_lt, nlt_mI, mI_le, nle_mI, nI_addm, sh_b, bI_0, bI_1, bI_bI, ckZ_b, ckZ_n0, ckZ_n1, stIe, stJe, stZ_n0, stZ_n1, rm_nI, dv_nI, if_true, if_false, if_pos, if_neg, rf0, rf1, rf5, rf6, rf7, rf8, rf9, rf20, rf23, rf24, rf25, rf26, rf29, rf31, rf33, rf34, rf35, rf37, rf38, rf41, rf42, rf43,  f_X11_put, k_X11_put_36, f_X12_put, k_X12_put_15, f_X12_put0, k_X12_put0_42, k_X12_put0_48, k_X12_put0_85, c_isKey_yes hS hy, r_isKey_y hS.1 hy, c_isKeeper_no hS hb, r_isKeeper_no hb, c_refuse, r_refuse, ite_self]
      exact Sm_0 h _ _
    · rcases num_cases a2 0 999 (by omega) (by omega) with hb | ⟨v, _, hv, rfl⟩
      · have e1 : f_X11_put 0 (nI y) (nI a) a2 a3 σ = some (mI, sI σ 0 14 (nI 1)) := by
          rcases hb with hb | hb
          · have g1 : a2 < nI 0 := by rw [Int32.lt_iff_toInt_lt, nI_toInt (by omega)]; exact hb
            simp (disch := omega) only [↓mI_e, lit, ofN, bsm, nI_add, pk_mul, pk_sub, nI_e, nI_leE, nI_ltE, nI_mI, mI_nI, mI_lt, nlt_mI, mI_le, nle_mI, nI_addm, sh_b, bI_0, bI_1, bI_bI, ckZ_b, ckZ_n0, ckZ_n1, stIe, stJe, stZ_n0, stZ_n1, rm_nI, dv_nI, if_true, if_false, if_pos, if_neg, rf0, rf1, rf5, rf6, rf7, rf8, rf9, rf20, rf23, rf24, rf25, rf26, rf29, rf31, rf33, rf34, rf35, rf37, rf38, rf41, rf42, rf43,  f_X11_put, k_X11_put_36, c_isKey_yes hS hy, c_isKeeper_yes hS ha, g1, c_refuse]
          · have g1 : ¬ a2 < nI 0 := by rw [Int32.lt_iff_toInt_lt, nI_toInt (by omega)]; omega
            have g2 : nI 999 < a2 := by rw [Int32.lt_iff_toInt_lt, nI_toInt (by omega)]; exact hb
            simp (disch := omega) only [↓mI_e, lit, ofN, bsm, nI_add, pk_mul, pk_sub, nI_e, nI_leE, nI_ltE, nI_mI, mI_nI, mI_lt, nlt_mI, mI_le, nle_mI, nI_addm, sh_b, bI_0, bI_1, bI_bI, ckZ_b, ckZ_n0, ckZ_n1, stIe, stJe, stZ_n0, stZ_n1, rm_nI, dv_nI, if_true, if_false, if_pos, if_neg, rf0, rf1, rf5, rf6, rf7, rf8, rf9, rf20, rf23, rf24, rf25, rf26, rf29, rf31, rf33, rf34, rf35, rf37, rf38, rf41, rf42, rf43,  f_X11_put, k_X11_put_36, c_isKey_yes hS hy, c_isKeeper_yes hS ha, g1, g2, c_refuse]
        have e2 : f_X12_put 0 (nI y) (nI a) a2 a3 τ = some (mI, sI τ 0 2 (nI 1)) := by
          by_cases g : a2 = nI 1000
          · subst g
            have hf := r_isFrom_n (v := mI) (a := 0) (b := 1000) (by omega) (by omega) (Or.inl (by decide)) τ
            simp (disch := omega) only [↓mI_e, lit, ofN, bsm, nI_add, pk_mul, pk_sub, nI_e, nI_leE, nI_ltE, nI_mI, mI_nI, mI_lt, nlt_mI, mI_le, nle_mI, nI_addm, sh_b, bI_0, bI_1, bI_bI, ckZ_b, ckZ_n0, ckZ_n1, stIe, stJe, stZ_n0, stZ_n1, rm_nI, dv_nI, if_true, if_false, if_pos, if_neg, rf0, rf1, rf5, rf6, rf7, rf8, rf9, rf20, rf23, rf24, rf25, rf26, rf29, rf31, rf33, rf34, rf35, rf37, rf38, rf41, rf42, rf43,  f_X12_put, k_X12_put_15, f_X12_put0, k_X12_put0_42, k_X12_put0_48, k_X12_put0_85, litL, r_isKey_y hS.1 hy, r_isKeeper_y hS.1 ha, hf, r_refuse]
          · have hne : a2.toInt ≠ 1000 := fun q => g (Int32.toInt_inj.mp (by rw [q, nI_toInt (by omega)]; rfl))
            have hf := r_isFrom_n (v := a2) (a := 0) (b := 1000) (by omega) (by omega) (by rcases hb with hb | hb; exact Or.inl hb; exact Or.inr (by omega)) τ
            simp (disch := omega) only [↓mI_e, lit, ofN, bsm, nI_add, pk_mul, pk_sub, nI_e, nI_leE, nI_ltE, nI_mI, mI_nI, mI_lt, nlt_mI, mI_le, nle_mI, nI_addm, sh_b, bI_0, bI_1, bI_bI, ckZ_b, ckZ_n0, ckZ_n1, stIe, stJe, stZ_n0, stZ_n1, rm_nI, dv_nI, if_true, if_false, if_pos, if_neg, rf0, rf1, rf5, rf6, rf7, rf8, rf9, rf20, rf23, rf24, rf25, rf26, rf29, rf31, rf33, rf34, rf35, rf37, rf38, rf41, rf42, rf43,  f_X12_put, k_X12_put_15, f_X12_put0, k_X12_put0_42, k_X12_put0_48, k_X12_put0_85, litL, g, r_isKey_y hS.1 hy, r_isKeeper_y hS.1 ha, hf, r_refuse]
        rw [e1, e2]
        exact Sm_0 h _ _
      · have hf := r_isFrom_y (k := v) (a := 0) (b := 1000) (by omega) (by omega) (by omega) τ
        rcases tick_cases a3 with rfl | ⟨t, ht, rfl⟩ | ⟨hb1, hb2, hb3⟩
        · have hfin := Sm_bind (putS hi h hy ha (v := v) (by omega) (k := mI) (Or.inl rfl))
          simp (disch := omega) only [↓mI_e, lit, ofN, bsm, nI_add, pk_mul, pk_sub, nI_e, nI_leE, nI_ltE, nI_mI, mI_nI, mI_lt, nlt_mI, mI_le, nle_mI, nI_addm, sh_b, bI_0, bI_1, bI_bI, ckZ_b, ckZ_n0, ckZ_n1, stIe, stJe, stZ_n0, stZ_n1, rm_nI, dv_nI, if_true, if_false, if_pos, if_neg, rf0, rf1, rf5, rf6, rf7, rf8, rf9, rf20, rf23, rf24, rf25, rf26, rf29, rf31, rf33, rf34, rf35, rf37, rf38, rf41, rf42, rf43,  f_X11_put, k_X11_put_36, f_X12_put, k_X12_put_15, f_X12_put0, k_X12_put0_42, litL, c_isKey_yes hS hy, c_isKeeper_yes hS ha, r_isKey_y hS.1 hy, r_isKeeper_y hS.1 ha, hf, c_tick_m]
          exact hfin
        · have hfin := Sm_bind (putS hi h hy ha (v := v) (by omega) (k := nI t) (Or.inr ⟨t, ht, rfl⟩))
          simp (disch := omega) only [↓mI_e, lit, ofN, bsm, nI_add, pk_mul, pk_sub, nI_e, nI_leE, nI_ltE, nI_mI, mI_nI, mI_lt, nlt_mI, mI_le, nle_mI, nI_addm, sh_b, bI_0, bI_1, bI_bI, ckZ_b, ckZ_n0, ckZ_n1, stIe, stJe, stZ_n0, stZ_n1, rm_nI, dv_nI, if_true, if_false, if_pos, if_neg, rf0, rf1, rf5, rf6, rf7, rf8, rf9, rf20, rf23, rf24, rf25, rf26, rf29, rf31, rf33, rf34, rf35, rf37, rf38, rf41, rf42, rf43,  f_X11_put, k_X11_put_36, f_X12_put, k_X12_put_15, f_X12_put0, k_X12_put0_42, litL, c_isKey_yes hS hy, c_isKeeper_yes hS ha, r_isKey_y hS.1 hy, r_isKeeper_y hS.1 ha, hf, c_tick_y ht, r_isTicket_y ht]
          exact hfin
        · simp (disch := omega) only [↓mI_e, lit, ofN, bsm, nI_add, pk_mul, pk_sub, nI_e, nI_leE, nI_ltE, nI_mI, mI_nI, mI_lt, nlt_mI, mI_le, nle_mI, nI_addm, sh_b, bI_0, bI_1, bI_bI, ckZ_b, ckZ_n0, ckZ_n1, stIe, stJe, stZ_n0, stZ_n1, rm_nI, dv_nI, if_true, if_false, if_pos, if_neg, rf0, rf1, rf5, rf6, rf7, rf8, rf9, rf20, rf23, rf24, rf25, rf26, rf29, rf31, rf33, rf34, rf35, rf37, rf38, rf41, rf42, rf43,  f_X11_put, k_X11_put_36, f_X12_put, k_X12_put_15, f_X12_put0, k_X12_put0_42, litL, c_isKey_yes hS hy, c_isKeeper_yes hS ha, r_isKey_y hS.1 hy, r_isKeeper_y hS.1 ha, hf, c_tick_no hb1, hb2, r_isTicket_no hb3, c_refuse, r_refuse]
          exact Sm_0 h _ _
theorem sim_strike (i : Nat) (hi : i + 6 ≤ 3072) : SIM_strike (Rel i) (Rel (i + 6)) := by
  intro a0 a1 a3 σ τ h
  have hS := h.2.2.2.2.1.1
  have hK := hS.1.1
  show Sm i _ _
  rcases key_cases hS.1 a0 with hb | ⟨y, hy, rfl⟩
  · simp (disch := omega) only [↓mI_e, lit, ofN, bsm, nI_add, pk_mul, pk_sub, nI_e, nI_leE, nI_ltE, nI_mI, mI_nI, mI_lt, nlt_mI, mI_le, nle_mI, nI_addm, sh_b, bI_0, bI_1, bI_bI, ckZ_b, ckZ_n0, ckZ_n1, stIe, stJe, stZ_n0, stZ_n1, rm_nI, dv_nI, if_true, if_false, if_pos, if_neg, rf0, rf1, rf5, rf6, rf7, rf8, rf9, rf20, rf23, rf24, rf25, rf26, rf29, rf31, rf33, rf34, rf35, rf37, rf38, rf41, rf42, rf43,  f_X11_strike, k_X11_strike_24, f_X12_strike, f_X12_put0, k_X12_put0_42, k_X12_put0_48, k_X12_put0_85, c_isKey_no hS hb, r_isKey_no hb, c_refuse, r_refuse]
    exact Sm_0 h _ _
  · rcases keeper_cases hS.1 a1 with hb | ⟨a, ha, rfl⟩
    · simp (disch := omega) only [↓mI_e, lit, ofN, bsm, nI_add, pk_mul, pk_sub, nI_e, nI_leE, nI_ltE, nI_mI, mI_nI, mI_lt, nlt_mI, mI_le, nle_mI, nI_addm, sh_b, bI_0, bI_1, bI_bI, ckZ_b, ckZ_n0, ckZ_n1, stIe, stJe, stZ_n0, stZ_n1, rm_nI, dv_nI, if_true, if_false, if_pos, if_neg, rf0, rf1, rf5, rf6, rf7, rf8, rf9, rf20, rf23, rf24, rf25, rf26, rf29, rf31, rf33, rf34, rf35, rf37, rf38, rf41, rf42, rf43,  f_X11_strike, k_X11_strike_24, f_X12_strike, f_X12_put0, k_X12_put0_42, k_X12_put0_48, k_X12_put0_85, c_isKey_yes hS hy, r_isKey_y hS.1 hy, c_isKeeper_no hS hb, r_isKeeper_no hb, c_refuse, r_refuse]
      exact Sm_0 h _ _
    · have hf := r_isFrom_y (k := 1000) (a := 0) (b := 1000) (by omega) (by omega) (by omega) τ
      rcases tick_cases a3 with rfl | ⟨t, ht, rfl⟩ | ⟨hb1, hb2, hb3⟩
      · have hfin := Sm_bind (putS hi h hy ha (v := 1000) (by omega) (k := mI) (Or.inl rfl))
        simp (disch := omega) only [↓mI_e, lit, ofN, bsm, nI_add, pk_mul, pk_sub, nI_e, nI_leE, nI_ltE, nI_mI, mI_nI, mI_lt, nlt_mI, mI_le, nle_mI, nI_addm, sh_b, bI_0, bI_1, bI_bI, ckZ_b, ckZ_n0, ckZ_n1, stIe, stJe, stZ_n0, stZ_n1, rm_nI, dv_nI, if_true, if_false, if_pos, if_neg, rf0, rf1, rf5, rf6, rf7, rf8, rf9, rf20, rf23, rf24, rf25, rf26, rf29, rf31, rf33, rf34, rf35, rf37, rf38, rf41, rf42, rf43,  f_X11_strike, k_X11_strike_24, f_X12_strike, f_X12_put0, k_X12_put0_42, litL, c_isKey_yes hS hy, c_isKeeper_yes hS ha, r_isKey_y hS.1 hy, r_isKeeper_y hS.1 ha, hf, c_tick_m]
        exact hfin
      · have hfin := Sm_bind (putS hi h hy ha (v := 1000) (by omega) (k := nI t) (Or.inr ⟨t, ht, rfl⟩))
        simp (disch := omega) only [↓mI_e, lit, ofN, bsm, nI_add, pk_mul, pk_sub, nI_e, nI_leE, nI_ltE, nI_mI, mI_nI, mI_lt, nlt_mI, mI_le, nle_mI, nI_addm, sh_b, bI_0, bI_1, bI_bI, ckZ_b, ckZ_n0, ckZ_n1, stIe, stJe, stZ_n0, stZ_n1, rm_nI, dv_nI, if_true, if_false, if_pos, if_neg, rf0, rf1, rf5, rf6, rf7, rf8, rf9, rf20, rf23, rf24, rf25, rf26, rf29, rf31, rf33, rf34, rf35, rf37, rf38, rf41, rf42, rf43,  f_X11_strike, k_X11_strike_24, f_X12_strike, f_X12_put0, k_X12_put0_42, litL, c_isKey_yes hS hy, c_isKeeper_yes hS ha, r_isKey_y hS.1 hy, r_isKeeper_y hS.1 ha, hf, c_tick_y ht, r_isTicket_y ht]
        exact hfin
      · simp (disch := omega) only [↓mI_e, lit, ofN, bsm, nI_add, pk_mul, pk_sub, nI_e, nI_leE, nI_ltE, nI_mI, mI_nI, mI_lt, nlt_mI, mI_le, nle_mI, nI_addm, sh_b, bI_0, bI_1, bI_bI, ckZ_b, ckZ_n0, ckZ_n1, stIe, stJe, stZ_n0, stZ_n1, rm_nI, dv_nI, if_true, if_false, if_pos, if_neg, rf0, rf1, rf5, rf6, rf7, rf8, rf9, rf20, rf23, rf24, rf25, rf26, rf29, rf31, rf33, rf34, rf35, rf37, rf38, rf41, rf42, rf43,  f_X11_strike, k_X11_strike_24, f_X12_strike, f_X12_put0, k_X12_put0_42, litL, c_isKey_yes hS hy, c_isKeeper_yes hS ha, r_isKey_y hS.1 hy, r_isKeeper_y hS.1 ha, hf, c_tick_no hb1, hb2, r_isTicket_no hb3, c_refuse, r_refuse]
        exact Sm_0 h _ _
theorem sim_add (i : Nat) (hi : i + 6 ≤ 3072) : SIM_add (Rel i) (Rel (i + 6)) := by
  intro a0 a1 a2 σ τ h
  have hW := h.2.2.2.2.1
  have hS := hW.1
  have hK := hS.1.1
  have hY := hS.1.2.1
  show Sm i _ _
  rcases key_cases hS.1 a0 with hb | ⟨y, hy, rfl⟩
  · simp (disch := omega) only [↓mI_e, lit, ofN, bsm, nI_add, pk_mul, pk_sub, nI_e, nI_leE, nI_ltE, nI_mI, mI_nI, mI_lt, nlt_mI, mI_le, nle_mI, nI_addm, sh_b, bI_0, bI_1, bI_bI, ckZ_b, ckZ_n0, ckZ_n1, stIe, stJe, stZ_n0, stZ_n1, rm_nI, dv_nI, if_true, if_false, if_pos, if_neg, rf0, rf1, rf5, rf6, rf7, rf8, rf9, rf20, rf23, rf24, rf25, rf26, rf29, rf31, rf33, rf34, rf35, rf37, rf38, rf41, rf42, rf43,  f_X11_add, k_X11_add_28, f_X12_add, k_X12_add_28, k_X12_add_65, k_X12_add_71, c_isKey_no hS hb, r_isKey_no hb, c_refuse, r_refuse]
    exact Sm_0 h _ _
  · rcases keeper_cases hS.1 a1 with hb | ⟨a, ha, rfl⟩
    · simp (disch := omega) only [↓mI_e, lit, ofN, bsm, nI_add, pk_mul, pk_sub, nI_e, nI_leE, nI_ltE, nI_mI, mI_nI, mI_lt, nlt_mI, mI_le, nle_mI, nI_addm, sh_b, bI_0, bI_1, bI_bI, ckZ_b, ckZ_n0, ckZ_n1, stIe, stJe, stZ_n0, stZ_n1, rm_nI, dv_nI, if_true, if_false, if_pos, if_neg, rf0, rf1, rf5, rf6, rf7, rf8, rf9, rf20, rf23, rf24, rf25, rf26, rf29, rf31, rf33, rf34, rf35, rf37, rf38, rf41, rf42, rf43,  f_X11_add, k_X11_add_28, f_X12_add, k_X12_add_28, k_X12_add_65, k_X12_add_71, c_isKey_yes hS hy, r_isKey_y hS.1 hy, c_isKeeper_no hS hb, r_isKeeper_no hb, c_refuse, r_refuse]
      exact Sm_0 h _ _
    · rcases num_cases a2 1 999 (by omega) (by omega) with hb | ⟨v, hv1, hv, rfl⟩
      · have e1 : f_X11_add 0 (nI y) (nI a) a2 σ = some (mI, sI σ 0 14 (nI 1)) := by
          rcases hb with hb | hb
          · have g1 : a2 < nI 1 := by rw [Int32.lt_iff_toInt_lt, nI_toInt (by omega)]; exact hb
            simp (disch := omega) only [↓mI_e, lit, ofN, bsm, nI_add, pk_mul, pk_sub, nI_e, nI_leE, nI_ltE, nI_mI, mI_nI, mI_lt, nlt_mI, mI_le, nle_mI, nI_addm, sh_b, bI_0, bI_1, bI_bI, ckZ_b, ckZ_n0, ckZ_n1, stIe, stJe, stZ_n0, stZ_n1, rm_nI, dv_nI, if_true, if_false, if_pos, if_neg, rf0, rf1, rf5, rf6, rf7, rf8, rf9, rf20, rf23, rf24, rf25, rf26, rf29, rf31, rf33, rf34, rf35, rf37, rf38, rf41, rf42, rf43,  f_X11_add, k_X11_add_28, c_isKey_yes hS hy, c_isKeeper_yes hS ha, g1, c_refuse]
          · have g1 : ¬ a2 < nI 1 := by rw [Int32.lt_iff_toInt_lt, nI_toInt (by omega)]; omega
            have g2 : ¬ a2 ≤ nI 999 := by rw [Int32.le_iff_toInt_le, nI_toInt (by omega)]; omega
            simp (disch := omega) only [↓mI_e, lit, ofN, bsm, nI_add, pk_mul, pk_sub, nI_e, nI_leE, nI_ltE, nI_mI, mI_nI, mI_lt, nlt_mI, mI_le, nle_mI, nI_addm, sh_b, bI_0, bI_1, bI_bI, ckZ_b, ckZ_n0, ckZ_n1, stIe, stJe, stZ_n0, stZ_n1, rm_nI, dv_nI, if_true, if_false, if_pos, if_neg, rf0, rf1, rf5, rf6, rf7, rf8, rf9, rf20, rf23, rf24, rf25, rf26, rf29, rf31, rf33, rf34, rf35, rf37, rf38, rf41, rf42, rf43,  f_X11_add, k_X11_add_28, c_isKey_yes hS hy, c_isKeeper_yes hS ha, g1, g2, c_refuse]
        have hf := r_isFrom_n (v := a2) (a := 1) (b := 999) (by omega) (by omega) hb τ
        simp (disch := omega) only [↓mI_e, lit, ofN, bsm, nI_add, pk_mul, pk_sub, nI_e, nI_leE, nI_ltE, nI_mI, mI_nI, mI_lt, nlt_mI, mI_le, nle_mI, nI_addm, sh_b, bI_0, bI_1, bI_bI, ckZ_b, ckZ_n0, ckZ_n1, stIe, stJe, stZ_n0, stZ_n1, rm_nI, dv_nI, if_true, if_false, if_pos, if_neg, rf0, rf1, rf5, rf6, rf7, rf8, rf9, rf20, rf23, rf24, rf25, rf26, rf29, rf31, rf33, rf34, rf35, rf37, rf38, rf41, rf42, rf43,  f_X12_add, k_X12_add_28, k_X12_add_65, k_X12_add_71, litL, e1, r_isKey_y hS.1 hy, r_isKeeper_y hS.1 ha, hf, r_refuse]
        exact Sm_0 h _ _
      · have hf := r_isFrom_y (k := v) (a := 1) (b := 999) (by omega) (by omega) (by omega) τ
        obtain ⟨gr, rc⟩ := r_canTake hS.1 hy (a := a) (by omega)
        by_cases g : sm (gA τ 1) y = true ∧ (isPl (gA τ 1) y a && bt (gA τ 1 5) a) = true
        · have hc2 : isPl (gA τ 1) y a = true ∧ bt (gA τ 1 5) a = true := by simpa using g.2
          obtain ⟨σ1, τ1, m, p1, p2, p3, p4, p5, p6, p7⟩ := W_add wM_w (by omega) (τ := sA τ 9 gr) hW hy ha (n := v) (by omega) g.1 hc2
          have hp : Wp wM σ σ1 τ τ1 := ⟨p4.1, ((Sc.rf τ).sA gr rfl).trans p4.2.1, p4.2.2⟩
          have hfin := Sm_told hi h hp (RelW_mono (by omega) p3) p5 p6 p7
          simp (disch := omega) only [↓mI_e, lit, ofN, bsm, nI_add, pk_mul, pk_sub, nI_e, nI_leE, nI_ltE, nI_mI, mI_nI, mI_lt, nlt_mI, mI_le, nle_mI, nI_addm, sh_b, bI_0, bI_1, bI_bI, ckZ_b, ckZ_n0, ckZ_n1, stIe, stJe, stZ_n0, stZ_n1, rm_nI, dv_nI, if_true, if_false, if_pos, if_neg, rf0, rf1, rf5, rf6, rf7, rf8, rf9, rf20, rf23, rf24, rf25, rf26, rf29, rf31, rf33, rf34, rf35, rf37, rf38, rf41, rf42, rf43,  f_X11_add, k_X11_add_28, f_X12_add, k_X12_add_28, k_X12_add_65, k_X12_add_71, litL, c_isKey_yes hS hy, c_isKeeper_yes hS ha, r_isKey_y hS.1 hy, r_isKeeper_y hS.1 ha, hf, c02, p1, r_isSum, g.1, Bool.true_eq_false, rc, g.2, p2, r_gives]
          exact hfin
        · have hno := W_add_no wM_w hW hy ha (nI v) g
          cases hs : sm (gA τ 1) y
          · simp (disch := omega) only [↓mI_e, lit, ofN, bsm, nI_add, pk_mul, pk_sub, nI_e, nI_leE, nI_ltE, nI_mI, mI_nI, mI_lt, nlt_mI, mI_le, nle_mI, nI_addm, sh_b, bI_0, bI_1, bI_bI, ckZ_b, ckZ_n0, ckZ_n1, stIe, stJe, stZ_n0, stZ_n1, rm_nI, dv_nI, if_true, if_false, if_pos, if_neg, rf0, rf1, rf5, rf6, rf7, rf8, rf9, rf20, rf23, rf24, rf25, rf26, rf29, rf31, rf33, rf34, rf35, rf37, rf38, rf41, rf42, rf43,  f_X11_add, k_X11_add_28, f_X12_add, k_X12_add_28, k_X12_add_65, k_X12_add_71, litL, c_isKey_yes hS hy, c_isKeeper_yes hS ha, r_isKey_y hS.1 hy, r_isKeeper_y hS.1 ha, hf, c02, hno, f_X11_answerTold, r_isSum, hs, c_refuse, r_refuse]
            exact Sm_0 h _ _
          · have h2 : (isPl (gA τ 1) y a && bt (gA τ 1 5) a) = false := by
              cases q : isPl (gA τ 1) y a && bt (gA τ 1 5) a
              · rfl
              · exact absurd ⟨hs, q⟩ g
            simp (disch := omega) only [↓mI_e, lit, ofN, bsm, nI_add, pk_mul, pk_sub, nI_e, nI_leE, nI_ltE, nI_mI, mI_nI, mI_lt, nlt_mI, mI_le, nle_mI, nI_addm, sh_b, bI_0, bI_1, bI_bI, ckZ_b, ckZ_n0, ckZ_n1, stIe, stJe, stZ_n0, stZ_n1, rm_nI, dv_nI, if_true, if_false, if_pos, if_neg, rf0, rf1, rf5, rf6, rf7, rf8, rf9, rf20, rf23, rf24, rf25, rf26, rf29, rf31, rf33, rf34, rf35, rf37, rf38, rf41, rf42, rf43,  f_X11_add, k_X11_add_28, f_X12_add, k_X12_add_28, k_X12_add_65, k_X12_add_71, litL, c_isKey_yes hS hy, c_isKeeper_yes hS ha, r_isKey_y hS.1 hy, r_isKeeper_y hS.1 ha, hf, c02, hno, f_X11_answerTold, r_isSum, hs, Bool.true_eq_false, rc, h2, c_refuse, r_refuse]
            exact Sm_9 h _ _ _
