/-! hints, ticket -/
def hflag (f : Nat → Int32) (p j : Nat) : Bool := decide (f (470 + 13 * (36 * p) + 13 * j) = nI 1)
theorem hflag_hb (f : Nat → Int32) (p q y : Nat) : hflag f p (6 * q + y) = decide (f (hb p q y) = nI 1) := by
  unfold hflag hb
  rw [show 470 + 13 * (36 * p) + 13 * (6 * q + y) = 470 + 13 * ((6 * p + q) * 6 + y) by omega]
theorem RI_flag {B : Nat} {s : ST} {f : Nat → Int32} (h : RI B s f) {p q y : Nat} (hp : p < 6) (hq : q < 6) (hy : y < 6) : f (hb p q y) = bI (hflag f p (6 * q + y)) := by
  rw [hflag_hb]
  rcases ((h p q hp hq).2 y hy).2.2 with h1 | h1
  · rw [h1.1]; rfl
  · rw [h1.1]; rfl
theorem c_hintCount_loop {w : Nat} (hw : isW w) {σ : ST} {f : Nat → Int32} {B p : Nat} (h : RS (wv σ w) f) (hI : RI B (wv σ w) f) (hp : p < 6) : ∀ (n q : Nat), q ≤ KN f → KN f - q < n → k_X10_hintCount_4 n w (nI p) (nI (cnt (hflag f p) (6 * q))) (nI q) σ = some (nI (cnt (hflag f p) 36), σ) := by
  have hK := h.1.1
  have e6 : gI σ (w + 1) 6 = nI (KN f) := h.2.1.1.trans (eK f)
  intro n
  induction n with
  | zero => intros; omega
  | succ n ih =>
    intro q hq hn
    rw [k_X10_hintCount_4]
    by_cases e : q = KN f
    · subst e
      simp (disch := omega) only [↓mI_e, lit, ofN, bsm, nI_add, pk_mul, pk_sub, nI_e, nI_leE, nI_ltE, nI_mI, mI_nI, mI_lt, nlt_mI, mI_le, nle_mI, nI_addm, sh_b, bI_0, bI_1, bI_bI, ckZ_b, ckZ_n0, ckZ_n1, stIe, stJe, stZ_n0, stZ_n1, rm_nI, dv_nI, if_pos, if_neg, rf0, rf1, rf5, rf6, rf7, rf8, rf9, rf20, rf23, rf24, rf25, rf26, rf29, rf31, rf33, rf34, rf35, rf37, rf38, rf41, rf42, rf43,  w_0 hw, w_1 hw, w_2 hw, w_3 hw, w_4 hw, w_5 hw, w_6 hw, w_7 hw, w_8 hw, ws_0 hw, ws_1 hw, ws_2 hw, ws_3 hw, ws_4 hw, ws_5 hw, wd_0 hw, wd_1 hw, wd_2 hw, wd_3 hw, wd_4 hw, wd_5 hw, wh_0 hw, wh_1 hw, wq_0 hw, wq_1 hw, wt_0 hw, wt_1 hw, lw2 hw, lw4 hw, lw6 hw, lw7 hw, lw9 hw, lw10 hw, lw11 hw, lw12 hw, lw13 hw, lw14 hw, lw16 hw, lw17 hw, lw19 hw, lw20 hw, lw21 hw, lw23 hw, lw24 hw, lw25 hw, lw26 hw, lw27 hw, lw3 hw, lw5 hw, sw2 hw, sw4 hw, sw6 hw, sw7 hw, sw9 hw, sw10 hw, sw11 hw, sw12 hw, sw13 hw, sw14 hw, sw16 hw, sw17 hw, sw19 hw, sw20 hw, sw21 hw, sw23 hw, sw24 hw, sw25 hw, sw26 hw, sw27 hw, e6]
      rw [cnt_tail (m := 6 * KN f) 36 (by omega) (fun i a b => ?_)]
      have h1 := ((hI p (i / 6) hp (by omega)).2 (i % 6) (by omega)).2.2
      have h2 := hflag_hb f p (i / 6) (i % 6)
      rw [show 6 * (i / 6) + i % 6 = i by omega] at h2
      rw [h2]
      rcases h1 with h1 | h1
      · rw [h1.1]; rfl
      · omega
    · have hb1 : ∀ y, bt (gA σ (w + 21) (p * 6 + q)) y = decide (y < 6 ∧ f (hb p q y) = nI 1) := (hI p q hp (by omega)).1
      have e1 : pcN (vN (gA σ (w + 21) (p * 6 + q))) = cnt (fun i => hflag f p (6 * q + i)) 6 := by
        rw [pc_bt_m _ (m := 6) (by omega) (fun i hi => by rw [hb1]; exact decide_eq_false (fun z => by omega))]
        refine cnt_congr 6 (fun i hi => ?_)
        rw [hb1, hflag_hb]
        exact decide_eq_decide.mpr ⟨fun z => z.2, fun z => ⟨hi, z⟩⟩
      simp (disch := omega) only [↓mI_e, lit, ofN, bsm, nI_add, pk_mul, pk_sub, nI_e, nI_leE, nI_ltE, nI_mI, mI_nI, mI_lt, nlt_mI, mI_le, nle_mI, nI_addm, sh_b, bI_0, bI_1, bI_bI, ckZ_b, ckZ_n0, ckZ_n1, stIe, stJe, stZ_n0, stZ_n1, rm_nI, dv_nI, if_pos, if_neg, rf0, rf1, rf5, rf6, rf7, rf8, rf9, rf20, rf23, rf24, rf25, rf26, rf29, rf31, rf33, rf34, rf35, rf37, rf38, rf41, rf42, rf43,  w_0 hw, w_1 hw, w_2 hw, w_3 hw, w_4 hw, w_5 hw, w_6 hw, w_7 hw, w_8 hw, ws_0 hw, ws_1 hw, ws_2 hw, ws_3 hw, ws_4 hw, ws_5 hw, wd_0 hw, wd_1 hw, wd_2 hw, wd_3 hw, wd_4 hw, wd_5 hw, wh_0 hw, wh_1 hw, wq_0 hw, wq_1 hw, wt_0 hw, wt_1 hw, lw2 hw, lw4 hw, lw6 hw, lw7 hw, lw9 hw, lw10 hw, lw11 hw, lw12 hw, lw13 hw, lw14 hw, lw16 hw, lw17 hw, lw19 hw, lw20 hw, lw21 hw, lw23 hw, lw24 hw, lw25 hw, lw26 hw, lw27 hw, lw3 hw, lw5 hw, sw2 hw, sw4 hw, sw6 hw, sw7 hw, sw9 hw, sw10 hw, sw11 hw, sw12 hw, sw13 hw, sw14 hw, sw16 hw, sw17 hw, sw19 hw, sw20 hw, sw21 hw, sw23 hw, sw24 hw, sw25 hw, sw26 hw, sw27 hw, e6, bitCount_eq, e1]
      rw [← cnt_add, show 6 * q + 6 = 6 * (q + 1) by omega]
      exact ih (q + 1) (by omega) (by omega)
theorem c_hintCount {w : Nat} (hw : isW w) {σ : ST} {f : Nat → Int32} {B p : Nat} (h : RS (wv σ w) f) (hI : RI B (wv σ w) f) (hp : p < 6) : f_X10_hintCount w (nI p) σ = some (nI (cnt (hflag f p) 36), σ) :=
  c_hintCount_loop hw h hI hp FU 0 (by omega) (by have := h.1.1; unfold FU; omega)
theorem r_hints_loop {τ : ST} {s : ST} {B p : Nat} (hI : RI B s (gA τ 1)) (hp : p < 6) : ∀ (n j : Nat), j ≤ 36 → 36 - j < n → k_X12_hints_18 n 0 (nI p) (nI (cnt (hflag (gA τ 1) p) j)) (nI j) τ = some (nI (cnt (hflag (gA τ 1) p) 36), sI τ 0 2 (nI 0)) := by
  intro n
  induction n with
  | zero => intros; omega
  | succ n ih =>
    intro j hj hn
    rw [k_X12_hints_18]
    by_cases e : j = 36
    · subst e
      simp (disch := omega) only [↓mI_e, lit, ofN, bsm, nI_add, pk_mul, pk_sub, nI_e, nI_leE, nI_ltE, nI_mI, mI_nI, mI_lt, nlt_mI, mI_le, nle_mI, nI_addm, sh_b, bI_0, bI_1, bI_bI, ckZ_b, ckZ_n0, ckZ_n1, stIe, stJe, stZ_n0, stZ_n1, rm_nI, dv_nI, if_pos, if_neg, rf0, rf1, rf5, rf6, rf7, rf8, rf9, rf20, rf23, rf24, rf25, rf26, rf29, rf31, rf33, rf34, rf35, rf37, rf38, rf41, rf42, rf43,  r_gives]
    · have h1 := RI_flag hI (p := p) (q := j / 6) (y := j % 6) hp (by omega) (by omega)
      rw [show 6 * (j / 6) + j % 6 = j by omega] at h1
      have h2 : hb p (j / 6) (j % 6) = 470 + 13 * ((6 * p + 0) * 6 + 0) + 13 * j := by unfold hb; omega
      rw [h2] at h1
      simp (disch := omega) only [↓mI_e, lit, ofN, bsm, nI_add, pk_mul, pk_sub, nI_e, nI_leE, nI_ltE, nI_mI, mI_nI, mI_lt, nlt_mI, mI_le, nle_mI, nI_addm, sh_b, bI_0, bI_1, bI_bI, ckZ_b, ckZ_n0, ckZ_n1, stIe, stJe, stZ_n0, stZ_n1, rm_nI, dv_nI, if_pos, if_neg, rf0, rf1, rf5, rf6, rf7, rf8, rf9, rf20, rf23, rf24, rf25, rf26, rf29, rf31, rf33, rf34, rf35, rf37, rf38, rf41, rf42, rf43,  f_X12_hintOf, lr1, h1]
      have h3 := ih (j + 1) (by omega) (by omega)
      rw [cnt] at h3
      cases c : hflag (gA τ 1) p j
      · simp only [c] at h3; simpa [bI_f, nI_add] using h3
      · simp only [c] at h3; simpa [bI_t, nI_add] using h3
theorem sim_hints (i : Nat) : SIM_hints (Rel i) (Rel (i + 6)) := by
  intro a0 σ τ h
  obtain ⟨hS, hU, hT, _, _, hH, hI, _⟩ := h.2.2.2.2.1
  have hK := hS.1.1
  show Sm i _ _
  rcases keeper_cases hS.1 a0 with hb | ⟨a, ha, rfl⟩
  · simp (disch := omega) only [↓mI_e, lit, ofN, bsm, nI_add, pk_mul, pk_sub, nI_e, nI_leE, nI_ltE, nI_mI, mI_nI, mI_lt, nlt_mI, mI_le, nle_mI, nI_addm, sh_b, bI_0, bI_1, bI_bI, ckZ_b, ckZ_n0, ckZ_n1, stIe, stJe, stZ_n0, stZ_n1, rm_nI, dv_nI, if_pos, if_neg, rf0, rf1, rf5, rf6, rf7, rf8, rf9, rf20, rf23, rf24, rf25, rf26, rf29, rf31, rf33, rf34, rf35, rf37, rf38, rf41, rf42, rf43,  f_X11_hints, k_X11_hints_28, f_X12_hints, c_isKeeper_no hS hb, r_isKeeper_no hb, c_refuse, r_refuse]
    exact Sm_0 h _ _
  · have h2 := r_hints_loop hI (p := a) (by omega) FU 0 (by omega) (by unfold FU; omega)
    rw [cnt] at h2
    simp (disch := omega) only [↓mI_e, lit, ofN, bsm, nI_add, pk_mul, pk_sub, nI_e, nI_leE, nI_ltE, nI_mI, mI_nI, mI_lt, nlt_mI, mI_le, nle_mI, nI_addm, sh_b, bI_0, bI_1, bI_bI, ckZ_b, ckZ_n0, ckZ_n1, stIe, stJe, stZ_n0, stZ_n1, rm_nI, dv_nI, if_pos, if_neg, rf0, rf1, rf5, rf6, rf7, rf8, rf9, rf20, rf23, rf24, rf25, rf26, rf29, rf31, rf33, rf34, rf35, rf37, rf38, rf41, rf42, rf43,  f_X11_hints, k_X11_hints_28, f_X12_hints, c_isKeeper_yes hS ha, r_isKeeper_y hS.1 ha, c02, c_hintCount wM_w hS hI, h2, c_answer]
    exact Sm_0 h _ _
theorem c_hasTicket {w t : Nat} {σ : ST} {f : Nat → Int32} (h : RTk (wv σ w) f) (ht : t < 4) : f_X10_hasTicket w (nI t) σ = some (bI (decide (f (4440 + 8 * t) ≠ mI)), σ) := by
  have e : bt (gI σ w 11) t = decide (f (4440 + 8 * t) ≠ mI) := (h.1 t).trans (decide_eq_decide.mpr ⟨fun z => z.2, fun z => ⟨ht, z⟩⟩)
  simp (disch := omega) only [↓mI_e, lit, ofN, bsm, nI_add, pk_mul, pk_sub, nI_e, nI_leE, nI_ltE, nI_mI, mI_nI, mI_lt, nlt_mI, mI_le, nle_mI, nI_addm, sh_b, bI_0, bI_1, bI_bI, ckZ_b, ckZ_n0, ckZ_n1, stIe, stJe, stZ_n0, stZ_n1, rm_nI, dv_nI, if_pos, if_neg, rf0, rf1, rf5, rf6, rf7, rf8, rf9, rf20, rf23, rf24, rf25, rf26, rf29, rf31, rf33, rf34, rf35, rf37, rf38, rf41, rf42, rf43,  f_X10_hasTicket, k_X10_hasTicket_16, e]
  by_cases g : f (4440 + 8 * t) ≠ mI
  · rw [decide_eq_true g]; rfl
  · rw [decide_eq_false g]; rfl
theorem ticket_cases (a : Int32) : (a < 0 ∨ nI 4 ≤ a) ∨ ∃ t, t < 4 ∧ a = nI t := by
  rcases pk_ix a (n := 4) (by omega) with h | h | ⟨j, h, e⟩
  · exact Or.inl (Or.inl h)
  · exact Or.inl (Or.inr h)
  · exact Or.inr ⟨j, h, e⟩
theorem r_isTicket_no {a : Int32} (h : a < 0 ∨ nI 4 ≤ a) (τ : ST) : f_X12_isTicket a τ = some (nI 0, τ) := by
  unfold f_X12_isTicket k_X12_isTicket_13 k_X12_isTicket_14
  by_cases g : a < 0
  · rw [if_pos g]; rfl
  · rw [if_neg g, if_pos (show (4 : Int32) ≤ a from h.resolve_left g)]; rfl
theorem r_isTicket_y {t : Nat} (h : t < 4) (τ : ST) : f_X12_isTicket (nI t) τ = some (nI 1, τ) := by
  simp (disch := omega) only [↓mI_e, lit, ofN, bsm, nI_add, pk_mul, pk_sub, nI_e, nI_leE, nI_ltE, nI_mI, mI_nI, mI_lt, nlt_mI, mI_le, nle_mI, nI_addm, sh_b, bI_0, bI_1, bI_bI, ckZ_b, ckZ_n0, ckZ_n1, stIe, stJe, stZ_n0, stZ_n1, rm_nI, dv_nI, if_pos, if_neg, rf0, rf1, rf5, rf6, rf7, rf8, rf9, rf20, rf23, rf24, rf25, rf26, rf29, rf31, rf33, rf34, rf35, rf37, rf38, rf41, rf42, rf43,  f_X12_isTicket, k_X12_isTicket_13, k_X12_isTicket_14]
theorem sim_ticket (i : Nat) : SIM_ticket (Rel i) (Rel (i + 6)) := by
  intro a0 a1 σ τ h
  obtain ⟨hS, hU, hT, _⟩ := h.2.2.2.2.1
  have hK := hS.1.1
  have hw := wM_w
  show Sm i _ _
  rcases ticket_cases a0 with hb | ⟨t, ht, rfl⟩
  · have e1 : f_X11_ticket 0 a0 a1 σ = some (mI, sI σ 0 14 (nI 1)) := by
      unfold f_X11_ticket k_X11_ticket_22
      by_cases g : a0 < 0
      · rw [if_pos g]; rfl
      · rw [if_neg g, if_pos (show (4 : Int32) ≤ a0 from hb.resolve_left g)]; rfl
    simp (disch := omega) only [↓mI_e, lit, ofN, bsm, nI_add, pk_mul, pk_sub, nI_e, nI_leE, nI_ltE, nI_mI, mI_nI, mI_lt, nlt_mI, mI_le, nle_mI, nI_addm, sh_b, bI_0, bI_1, bI_bI, ckZ_b, ckZ_n0, ckZ_n1, stIe, stJe, stZ_n0, stZ_n1, rm_nI, dv_nI, if_pos, if_neg, rf0, rf1, rf5, rf6, rf7, rf8, rf9, rf20, rf23, rf24, rf25, rf26, rf29, rf31, rf33, rf34, rf35, rf37, rf38, rf41, rf42, rf43,  f_X12_ticket, k_X12_ticket_20, r_isTicket_no hb, r_refuse, e1]
    exact Sm_0 h _ _
  · by_cases g : a1 = mI
    · subst g
      by_cases g2 : gA τ 1 (4440 + 8 * t) = mI
      · have g3 : decide (gA τ 1 (4440 + 8 * t) ≠ mI) = false := decide_eq_false (fun z => z g2)
        simp (disch := omega) only [↓mI_e, lit, ofN, bsm, nI_add, pk_mul, pk_sub, nI_e, nI_leE, nI_ltE, nI_mI, mI_nI, mI_lt, nlt_mI, mI_le, nle_mI, nI_addm, sh_b, bI_0, bI_1, bI_bI, ckZ_b, ckZ_n0, ckZ_n1, stIe, stJe, stZ_n0, stZ_n1, rm_nI, dv_nI, if_pos, if_neg, rf0, rf1, rf5, rf6, rf7, rf8, rf9, rf20, rf23, rf24, rf25, rf26, rf29, rf31, rf33, rf34, rf35, rf37, rf38, rf41, rf42, rf43,  f_X11_ticket, k_X11_ticket_22, k_X11_ticket_28, k_X11_ticket_76, f_X12_ticket, k_X12_ticket_20, k_X12_ticket_26, k_X12_ticket_73, r_isTicket_y ht, eq_self, if_true, c02, c_hasTicket hT ht, lr1, g2, g3, c_refuse, r_refuse]
        exact Sm_0 h _ _
      · have g3 : decide (gA τ 1 (4440 + 8 * t) ≠ mI) = true := decide_eq_true g2
        obtain ⟨y, _, _, e3, e4, _⟩ := (hT.2 t ht).2 g2
        have e4 : gA σ (wM + 25) t = gA τ 1 (4440 + 8 * t) := e4.trans e3.symm
        have e5 : 4440 + 8 * t + 1 - 1 = 4440 + 8 * t := by omega
        simp (disch := omega) only [↓mI_e, lit, ofN, bsm, nI_add, pk_mul, pk_sub, nI_e, nI_leE, nI_ltE, nI_mI, mI_nI, mI_lt, nlt_mI, mI_le, nle_mI, nI_addm, sh_b, bI_0, bI_1, bI_bI, ckZ_b, ckZ_n0, ckZ_n1, stIe, stJe, stZ_n0, stZ_n1, rm_nI, dv_nI, if_pos, if_neg, rf0, rf1, rf5, rf6, rf7, rf8, rf9, rf20, rf23, rf24, rf25, rf26, rf29, rf31, rf33, rf34, rf35, rf37, rf38, rf41, rf42, rf43,  f_X11_ticket, k_X11_ticket_22, k_X11_ticket_28, k_X11_ticket_76, f_X12_ticket, k_X12_ticket_20, k_X12_ticket_26, k_X12_ticket_73, r_isTicket_y ht, eq_self, if_true, c02, c_hasTicket hT ht, lr1, g2, g3, w_6 hw, lw25 hw, e4, e5, Bool.true_eq_false, if_false, c_answer, r_gives]
        exact Sm_0 h _ _
    · rcases keeper_cases hS.1 a1 with hb | ⟨a, ha, rfl⟩
      · simp (disch := omega) only [↓mI_e, lit, ofN, bsm, nI_add, pk_mul, pk_sub, nI_e, nI_leE, nI_ltE, nI_mI, mI_nI, mI_lt, nlt_mI, mI_le, nle_mI, nI_addm, sh_b, bI_0, bI_1, bI_bI, ckZ_b, ckZ_n0, ckZ_n1, stIe, stJe, stZ_n0, stZ_n1, rm_nI, dv_nI, if_pos, if_neg, rf0, rf1, rf5, rf6, rf7, rf8, rf9, rf20, rf23, rf24, rf25, rf26, rf29, rf31, rf33, rf34, rf35, rf37, rf38, rf41, rf42, rf43,  f_X11_ticket, k_X11_ticket_22, k_X11_ticket_28, k_X11_ticket_76, f_X12_ticket, k_X12_ticket_20, k_X12_ticket_26, k_X12_ticket_73, r_isTicket_y ht, g, if_false, c_isKeeper_no hS hb, r_isKeeper_no hb, c_refuse, r_refuse]
        exact Sm_0 h _ _
      · by_cases g2 : gA τ 1 (4440 + 8 * t) = mI
        · have g3 : decide (gA τ 1 (4440 + 8 * t) ≠ mI) = false := decide_eq_false (fun z => z g2)
          simp (disch := omega) only [↓mI_e, lit, ofN, bsm, nI_add, pk_mul, pk_sub, nI_e, nI_leE, nI_ltE, nI_mI, mI_nI, mI_lt, nlt_mI, mI_le, nle_mI, nI_addm, sh_b, bI_0, bI_1, bI_bI, ckZ_b, ckZ_n0, ckZ_n1, stIe, stJe, stZ_n0, stZ_n1, rm_nI, dv_nI, if_pos, if_neg, rf0, rf1, rf5, rf6, rf7, rf8, rf9, rf20, rf23, rf24, rf25, rf26, rf29, rf31, rf33, rf34, rf35, rf37, rf38, rf41, rf42, rf43,  f_X11_ticket, k_X11_ticket_22, k_X11_ticket_28, k_X11_ticket_76, f_X12_ticket, k_X12_ticket_20, k_X12_ticket_26, k_X12_ticket_73, r_isTicket_y ht, c_isKeeper_yes hS ha, r_isKeeper_y hS.1 ha, c02, c_hasTicket hT ht, lr1, g2, g3, c_refuse, r_refuse]
          exact Sm_0 h _ _
        · have g3 : decide (gA τ 1 (4440 + 8 * t) ≠ mI) = true := decide_eq_true g2
          obtain ⟨y, _, _, _, _, e5⟩ := (hT.2 t ht).2 g2
          have e5 : gA σ (wM + 24) (t * 6 + a) = gA τ 1 (4440 + 8 * t + 1 + a) := (e5 a (by omega)).1
          simp (disch := omega) only [↓mI_e, lit, ofN, bsm, nI_add, pk_mul, pk_sub, nI_e, nI_leE, nI_ltE, nI_mI, mI_nI, mI_lt, nlt_mI, mI_le, nle_mI, nI_addm, sh_b, bI_0, bI_1, bI_bI, ckZ_b, ckZ_n0, ckZ_n1, stIe, stJe, stZ_n0, stZ_n1, rm_nI, dv_nI, if_pos, if_neg, rf0, rf1, rf5, rf6, rf7, rf8, rf9, rf20, rf23, rf24, rf25, rf26, rf29, rf31, rf33, rf34, rf35, rf37, rf38, rf41, rf42, rf43,  f_X11_ticket, k_X11_ticket_22, k_X11_ticket_28, k_X11_ticket_76, f_X12_ticket, k_X12_ticket_20, k_X12_ticket_26, k_X12_ticket_73, r_isTicket_y ht, c_isKeeper_yes hS ha, r_isKeeper_y hS.1 ha, c02, c_hasTicket hT ht, lr1, g2, g3, w_5 hw, wt_1 hw, f_X0_seenOf, lw24 hw, e5, Bool.true_eq_false, if_false, c_answer, r_gives]
          exact Sm_0 h _ _
