/-! GET -/
theorem sI_sA (σ : ST) (x k : Nat) (v : Int32) (y : Nat) (F : Nat → Int32) : sA (sI σ x k v) y F = sI (sA σ y F) x k v := rfl
theorem sI_sI (σ : ST) (x k : Nat) (v u : Int32) : sI (sI σ x k v) x k u = sI σ x k u := by
  unfold sI
  simp only []
  congr 1
  funext j i
  unfold va_up
  by_cases g : j = x
  · subst g
    simp only [if_true]
    by_cases g2 : i = k
    · subst g2; simp
    · simp [g2]
  · simp [g]
theorem sI_self (σ : ST) (x k : Nat) : sI σ x k (gI σ x k) = σ := by
  unfold sI gI
  rw [vu_self, vu_self]
theorem cnt_insert {g h : Nat → Bool} {x : Bool} {p n : Nat} (hp : p ≤ n) (h1 : ∀ m, m < p → g m = h m) (h2 : g p = x) (h3 : ∀ m, p ≤ m → m < n → g (m + 1) = h m) : cnt g (n + 1) = cnt h n + (if x then 1 else 0) := by
  obtain ⟨d, rfl⟩ : ∃ d, n = p + d := ⟨n - p, by omega⟩
  rw [show p + d + 1 = p + 1 + d by omega, cnt_add, cnt_add h p d, cnt, h2, cnt_congr p h1, cnt_congr (p := fun i => g (p + 1 + i)) (q := fun i => h (p + i)) d (fun i hi => by rw [show p + 1 + i = p + i + 1 by omega]; exact h3 _ (by omega) (by omega))]
  omega
theorem cnt_rho {w : Nat → Nat} (P : Nat → Bool) : ∀ n, Dis w n → cnt (fun m => P (rho w n m)) n = cnt P n
  | 0, _ => rfl
  | n + 1, hd => by
    have ih := cnt_rho (w := w) P n (hd.sub (by omega))
    have hle := cnt_le (fun i => decide (w i < w n)) n
    have hle : rk w n n ≤ n := hle
    rw [cnt_insert (g := fun m => P (rho w (n + 1) m)) (h := fun m => P (rho w n m)) (x := P n) (p := rk w n n) (n := n) hle (fun m hm => by rw [rho_s hd (by omega), if_pos hm]) (by rw [rho_s hd (by omega), if_neg (by omega), if_pos rfl]) (fun m h1 h2 => by rw [rho_s hd (by omega), if_neg (by omega), if_neg (by omega), show m + 1 - 1 = m by omega]), ih]
    rfl
/-- the m-th in the row is a place that is reached -/
def rp (f : Nat → Int32) (y a m : Nat) : Bool := isPl f y (rw6 f y m) && rch f a (rw6 f y m)
theorem rp_pm {f : Nat → Int32} (hf : WFs f) {y a m : Nat} (hy : y < YN f) (hm : m < KN f) (h : pm f ≤ m) : rp f y a m = false := by
  unfold rp; rw [isPl_rw hf hy hm, decide_eq_false (by omega)]; rfl
theorem rp_cnt {f : Nat → Int32} (hf : WFs f) {y a : Nat} (hy : y < YN f) : cnt (rp f y a) (KN f) = cnt (rp f y a) (pm f) := cnt_tail _ pm_le (fun i h1 h2 => rp_pm hf hy h2 h1)
theorem rp_keep {f : Nat → Int32} (hf : WFs f) {y a : Nat} (hy : y < YN f) : cnt (rp f y a) (KN f) = cnt (fun k => isPl f y k && rch f a k) (KN f) := cnt_rho (w := wy f y) (fun k => isPl f y k && rch f a k) (KN f) (wy_dis hf hy)
/-- the set of those that a GET asks -/
def ask (f : Nat → Int32) (y a p : Nat) : Bool := decide (∃ m, m < KN f ∧ (rw6 f y m = p ∧ rp f y a m = true ∧ cnt (rp f y a) m < RN f))
theorem c_first_loop {w : Nat} (hw : isW w) {σ : ST} {f : Nat → Int32} (h : RS (wv σ w) f) {y a : Nat} (hy : y < YN f) {P : Int32} (hP : ∀ k, bt P k = (isPl f y k && rch f a k)) : ∀ (n m : Nat) (A : Int32), m ≤ KN f → KN f - m < n → (∀ p, bt A p = decide (∃ i, i < m ∧ (rw6 f y i = p ∧ rp f y a i = true ∧ cnt (rp f y a) i < RN f))) → ∃ A', k_X10_firstReached_38 n w (nI y) P A (nI (RN f - cnt (rp f y a) m)) (nI m) σ = some (A', σ) ∧ ∀ p, bt A' p = ask f y a p := by
  have hK := h.1.1
  have hY := h.1.2.1
  have hR := h.1.2.2.2.1
  have hN := h.1.2.2.1
  have e6 : gI σ (w + 1) 6 = nI (KN f) := h.2.1.1.trans (eK f)
  intro n
  induction n with
  | zero => intros; omega
  | succ n ih =>
    intro m A hm hn hA
    rw [k_X10_firstReached_38]
    have fin : (m = KN f ∨ RN f ≤ cnt (rp f y a) m) → ∀ p, bt A p = ask f y a p := by
      intro q p
      rw [hA]
      unfold ask
      refine decide_eq_decide.mpr ⟨fun ⟨i, z1, z2⟩ => ⟨i, by omega, z2⟩, fun ⟨i, z1, z2⟩ => ⟨i, ?_, z2⟩⟩
      rcases q with q | q
      · omega
      · by_cases g : i < m
        · exact g
        · have := cnt_mono2 (p := rp f y a) (show m ≤ i by omega)
          omega
    by_cases e : m = KN f
    · simp (disch := omega) only [↓mI_e, lit, ofN, bsm, nI_add, pk_mul, pk_sub, nI_e, nI_leE, nI_ltE, nI_mI, mI_nI, mI_lt, nlt_mI, mI_le, nle_mI, nI_addm, sh_b, bI_0, bI_1, bI_bI, ckZ_b, ckZ_n0, ckZ_n1, stIe, stJe, stZ_n0, stZ_n1, rm_nI, dv_nI, if_true, if_false, if_pos, if_neg, rf0, rf1, rf5, rf6, rf7, rf8, rf9, rf20, rf23, rf24, rf25, rf26, rf29, rf31, rf33, rf34, rf35, rf37, rf38, rf41, rf42, rf43,  w_0 hw, w_1 hw, w_2 hw, w_3 hw, w_4 hw, w_5 hw, w_6 hw, w_7 hw, w_8 hw, ws_0 hw, ws_1 hw, ws_2 hw, ws_3 hw, ws_4 hw, ws_5 hw, wd_0 hw, wd_1 hw, wd_2 hw, wd_3 hw, wd_4 hw, wd_5 hw, wh_0 hw, wh_1 hw, wq_0 hw, wq_1 hw, wt_0 hw, wt_1 hw, lw2 hw, lw4 hw, lw6 hw, lw7 hw, lw9 hw, lw10 hw, lw11 hw, lw12 hw, lw13 hw, lw14 hw, lw16 hw, lw17 hw, lw19 hw, lw20 hw, lw21 hw, lw23 hw, lw24 hw, lw25 hw, lw26 hw, lw27 hw, lw3 hw, lw5 hw, sw2 hw, sw4 hw, sw6 hw, sw7 hw, sw9 hw, sw10 hw, sw11 hw, sw12 hw, sw13 hw, sw14 hw, sw16 hw, sw17 hw, sw19 hw, sw20 hw, sw21 hw, sw23 hw, sw24 hw, sw25 hw, sw26 hw, sw27 hw, e6, k_X10_firstReached_92]
      exact ⟨A, rfl, fin (Or.inl e)⟩
    · by_cases e2 : RN f ≤ cnt (rp f y a) m
      · simp (disch := omega) only [↓mI_e, lit, ofN, bsm, nI_add, pk_mul, pk_sub, nI_e, nI_leE, nI_ltE, nI_mI, mI_nI, mI_lt, nlt_mI, mI_le, nle_mI, nI_addm, sh_b, bI_0, bI_1, bI_bI, ckZ_b, ckZ_n0, ckZ_n1, stIe, stJe, stZ_n0, stZ_n1, rm_nI, dv_nI, if_true, if_false, if_pos, if_neg, rf0, rf1, rf5, rf6, rf7, rf8, rf9, rf20, rf23, rf24, rf25, rf26, rf29, rf31, rf33, rf34, rf35, rf37, rf38, rf41, rf42, rf43,  w_0 hw, w_1 hw, w_2 hw, w_3 hw, w_4 hw, w_5 hw, w_6 hw, w_7 hw, w_8 hw, ws_0 hw, ws_1 hw, ws_2 hw, ws_3 hw, ws_4 hw, ws_5 hw, wd_0 hw, wd_1 hw, wd_2 hw, wd_3 hw, wd_4 hw, wd_5 hw, wh_0 hw, wh_1 hw, wq_0 hw, wq_1 hw, wt_0 hw, wt_1 hw, lw2 hw, lw4 hw, lw6 hw, lw7 hw, lw9 hw, lw10 hw, lw11 hw, lw12 hw, lw13 hw, lw14 hw, lw16 hw, lw17 hw, lw19 hw, lw20 hw, lw21 hw, lw23 hw, lw24 hw, lw25 hw, lw26 hw, lw27 hw, lw3 hw, lw5 hw, sw2 hw, sw4 hw, sw6 hw, sw7 hw, sw9 hw, sw10 hw, sw11 hw, sw12 hw, sw13 hw, sw14 hw, sw16 hw, sw17 hw, sw19 hw, sw20 hw, sw21 hw, sw23 hw, sw24 hw, sw25 hw, sw26 hw, sw27 hw, e6, k_X10_firstReached_92]
        exact ⟨A, rfl, fin (Or.inr e2)⟩
      · have r1 := rw6_lt h.1 hy (m := m) (by omega)
        have hPm : (P &&& (nI 1 <<< (nI (rw6 f y m) &&& nI 31)) = nI 0) ↔ rp f y a m = false := by
          constructor
          · intro z
            have := congrArg (fun x => bt x (rw6 f y m)) z
            simp only [bt_and, bt_one (show rw6 f y m < 32 by omega), bt_n0, hP, decide_true, Bool.and_true] at this
            exact this
          · intro z
            apply bt_ext
            intro j hj
            rw [bt_and, bt_one (by omega), bt_n0, hP]
            by_cases q : j = rw6 f y m
            · subst q; unfold rp at z; rw [z]; rfl
            · rw [decide_eq_false q]; simp
        have step : ∀ A' : Int32, (∀ p, bt A' p = (bt A p || (decide (p = rw6 f y m) && rp f y a m))) → ∀ p, bt A' p = decide (∃ i, i < m + 1 ∧ (rw6 f y i = p ∧ rp f y a i = true ∧ cnt (rp f y a) i < RN f)) := by
          intro A' h1 p
          rw [h1, hA]
          by_cases z : ∃ i, i < m ∧ (rw6 f y i = p ∧ rp f y a i = true ∧ cnt (rp f y a) i < RN f)
          · rw [decide_eq_true z]
            obtain ⟨i, z1, z2⟩ := z
            symm
            simp only [Bool.true_or]
            exact decide_eq_true ⟨i, by omega, z2⟩
          · rw [decide_eq_false z, Bool.false_or]
            by_cases z3 : p = rw6 f y m ∧ rp f y a m = true
            · rw [decide_eq_true z3.1, z3.2]
              symm
              exact decide_eq_true ⟨m, by omega, z3.1.symm, z3.2, by omega⟩
            · have : (decide (p = rw6 f y m) && rp f y a m) = false := by
                cases q1 : decide (p = rw6 f y m)
                · rfl
                · cases q2 : rp f y a m
                  · rfl
                  · exact absurd ⟨of_decide_eq_true q1, q2⟩ z3
              rw [this]
              symm
              refine decide_eq_false (fun ⟨i, z1, z2⟩ => ?_)
              by_cases g : i < m
              · exact z ⟨i, g, z2⟩
              · have : i = m := by omega
                subst this
                exact z3 ⟨z2.1.symm, z2.2.1⟩
        have IH := ih (m + 1)
        rw [cnt] at IH
        simp (disch := omega) only [↓mI_e, lit, ofN, bsm, nI_add, pk_mul, pk_sub, nI_e, nI_leE, nI_ltE, nI_mI, mI_nI, mI_lt, nlt_mI, mI_le, nle_mI, nI_addm, sh_b, bI_0, bI_1, bI_bI, ckZ_b, ckZ_n0, ckZ_n1, stIe, stJe, stZ_n0, stZ_n1, rm_nI, dv_nI, if_true, if_false, if_pos, if_neg, rf0, rf1, rf5, rf6, rf7, rf8, rf9, rf20, rf23, rf24, rf25, rf26, rf29, rf31, rf33, rf34, rf35, rf37, rf38, rf41, rf42, rf43,  w_0 hw, w_1 hw, w_2 hw, w_3 hw, w_4 hw, w_5 hw, w_6 hw, w_7 hw, w_8 hw, ws_0 hw, ws_1 hw, ws_2 hw, ws_3 hw, ws_4 hw, ws_5 hw, wd_0 hw, wd_1 hw, wd_2 hw, wd_3 hw, wd_4 hw, wd_5 hw, wh_0 hw, wh_1 hw, wq_0 hw, wq_1 hw, wt_0 hw, wt_1 hw, lw2 hw, lw4 hw, lw6 hw, lw7 hw, lw9 hw, lw10 hw, lw11 hw, lw12 hw, lw13 hw, lw14 hw, lw16 hw, lw17 hw, lw19 hw, lw20 hw, lw21 hw, lw23 hw, lw24 hw, lw25 hw, lw26 hw, lw27 hw, lw3 hw, lw5 hw, sw2 hw, sw4 hw, sw6 hw, sw7 hw, sw9 hw, sw10 hw, sw11 hw, sw12 hw, sw13 hw, sw14 hw, sw16 hw, sw17 hw, sw19 hw, sw20 hw, sw21 hw, sw23 hw, sw24 hw, sw25 hw, sw26 hw, sw27 hw, e6, c_keeperAlong hw h hy, k_X10_firstReached_86]
        cases c : rp f y a m
        · rw [c] at IH
          simp only [Bool.false_eq_true, if_false, Nat.add_zero] at IH
          rw [if_pos (hPm.mpr c)]
          exact IH A (by omega) (by omega) (step A (fun p => by rw [c]; simp))
        · rw [c] at IH
          simp only [if_true] at IH
          rw [if_neg (fun z => by rw [hPm.mp z] at c; exact absurd c (by decide))]
          rw [show RN f - cnt (rp f y a) m - 1 = RN f - (cnt (rp f y a) m + 1) by omega]
          exact IH (A ||| (nI 1 <<< (nI (rw6 f y m) &&& nI 31))) (by omega) (by omega) (step _ (fun p => by rw [bt_ins _ (by omega), c]; simp))
theorem c_firstReached {w : Nat} (hw : isW w) {σ : ST} {f : Nat → Int32} (h : RS (wv σ w) f) (hu : RU (wv σ w) f) {y a : Nat} (hy : y < YN f) (ha : a < 6) : ∃ A, f_X10_firstReached w (nI y) (nI a) σ = some (A, σ) ∧ (RN f ≤ cnt (rp f y a) (pm f) → (A = nI 0) = False ∧ ∀ p, bt A p = ask f y a p) ∧ (¬ RN f ≤ cnt (rp f y a) (pm f) → A = nI 0) := by
  have hK := h.1.1
  have hR := h.1.2.2.2.1
  have hN := h.1.2.2.1
  obtain ⟨P, h1, hP⟩ := c_placesReached hw h hu hy (a := a) (by omega)
  have e10 : gI σ (w + 1) 10 = nI (RN f) := h.2.1.2.2.2.1.trans (eR f)
  have ec : pcN (vN P) = cnt (rp f y a) (pm f) := by
    rw [pc_bt_m _ (m := KN f) (by omega) (fun i hi => by rw [hP, isPl_no hi]; rfl), ← rp_cnt h.1 hy, rp_keep h.1 hy]
    exact cnt_congr _ (fun i _ => hP i)
  have hcl := cnt_le (rp f y a) (pm f)
  have hpk := pm_le (f := f)
  by_cases g : RN f ≤ cnt (rp f y a) (pm f)
  · obtain ⟨A, h2, h3⟩ := c_first_loop hw h hy hP FU 0 (nI 0) (by omega) (by unfold FU; omega) (fun p => by rw [bt_n0]; symm; exact decide_eq_false (fun ⟨i, z, _⟩ => by omega))
    rw [cnt, Nat.sub_zero] at h2
    refine ⟨A, ?_, fun _ => ⟨eq_false (fun z => ?_), h3⟩, fun z => absurd g z⟩
    · simp (disch := omega) only [↓mI_e, lit, ofN, bsm, nI_add, pk_mul, pk_sub, nI_e, nI_leE, nI_ltE, nI_mI, mI_nI, mI_lt, nlt_mI, mI_le, nle_mI, nI_addm, sh_b, bI_0, bI_1, bI_bI, ckZ_b, ckZ_n0, ckZ_n1, stIe, stJe, stZ_n0, stZ_n1, rm_nI, dv_nI, if_true, if_false, if_pos, if_neg, rf0, rf1, rf5, rf6, rf7, rf8, rf9, rf20, rf23, rf24, rf25, rf26, rf29, rf31, rf33, rf34, rf35, rf37, rf38, rf41, rf42, rf43,  f_X10_firstReached, w_0 hw, h1, bitCount_eq, ec, e10, h2]
    · have hpos : 0 < cnt (rp f y a) (pm f) := by omega
      obtain ⟨m, m1, m2, m3⟩ := cnt_onto (p := rp f y a) (pm f) 0 hpos
      have := h3 (rw6 f y m)
      rw [z, bt_n0] at this
      unfold ask at this
      rw [decide_eq_true ⟨m, by omega, rfl, m2, by omega⟩] at this
      exact absurd this (by decide)
  · refine ⟨nI 0, ?_, fun z => absurd z g, fun _ => rfl⟩
    simp (disch := omega) only [↓mI_e, lit, ofN, bsm, nI_add, pk_mul, pk_sub, nI_e, nI_leE, nI_ltE, nI_mI, mI_nI, mI_lt, nlt_mI, mI_le, nle_mI, nI_addm, sh_b, bI_0, bI_1, bI_bI, ckZ_b, ckZ_n0, ckZ_n1, stIe, stJe, stZ_n0, stZ_n1, rm_nI, dv_nI, if_true, if_false, if_pos, if_neg, rf0, rf1, rf5, rf6, rf7, rf8, rf9, rf20, rf23, rf24, rf25, rf26, rf29, rf31, rf33, rf34, rf35, rf37, rf38, rf41, rf42, rf43,  f_X10_firstReached, w_0 hw, h1, bitCount_eq, ec, e10]
/-! the reference: whom it asks -/
theorem r_finds_loop {f : Nat → Int32} (hf : WFs f) {y a : Nat} (hy : y < YN f) (ha : a < 6) : ∀ (n m : Nat) (τ : ST), m ≤ pm f → pm f - m < n → gA τ 1 = f → (∀ i, i < KN f → gA τ 9 i = nI (rw6 f y i)) → gI τ 0 30 = nI (cnt (rp f y a) m) → DL (rp f y a) m (gA τ 13) 0 (fun i => nI (rw6 f y i)) → ∃ G, k_X12_findsPlaces_12 n 0 (nI a) (nI m) τ = some (sI (sA τ 13 G) 0 30 (nI (cnt (rp f y a) (pm f)))) ∧ DL (rp f y a) (pm f) G 0 (fun i => nI (rw6 f y i)) := by
  have hK := hf.1
  have hpk := pm_le (f := f)
  intro n
  induction n with
  | zero => intros; omega
  | succ n ih =>
    intro m τ hm hn hg hr h30 hD
    rw [k_X12_findsPlaces_12, r_placeMany (by rw [hg]; exact hf), hg]
    by_cases e : m = pm f
    · subst e
      simp (disch := omega) only [↓mI_e, lit, ofN, bsm, nI_add, pk_mul, pk_sub, nI_e, nI_leE, nI_ltE, nI_mI, mI_nI, mI_lt, nlt_mI, mI_le, nle_mI, nI_addm, sh_b, bI_0, bI_1, bI_bI, ckZ_b, ckZ_n0, ckZ_n1, stIe, stJe, stZ_n0, stZ_n1, rm_nI, dv_nI, if_true, if_false, if_pos, if_neg, rf0, rf1, rf5, rf6, rf7, rf8, rf9, rf20, rf23, rf24, rf25, rf26, rf29, rf31, rf33, rf34, rf35, rf37, rf38, rf41, rf42, rf43, ]
      refine ⟨gA τ 13, ?_, hD⟩
      rw [sA_self, ← h30]
      congr 1
      exact (sI_self τ 0 30).symm
    · have r1 := rw6_lt hf hy (m := m) (by omega)
      have ri := hr m (by omega)
      have hcl := cnt_le (rp f y a) m
      have epl : rp f y a m = rch f a (rw6 f y m) := by unfold rp; rw [isPl_rw hf hy (by omega), decide_eq_true (by omega)]; rfl
      have IH := ih (m + 1)
      rw [cnt, epl] at IH
      simp (disch := omega) only [↓mI_e, lit, ofN, bsm, nI_add, pk_mul, pk_sub, nI_e, nI_leE, nI_ltE, nI_mI, mI_nI, mI_lt, nlt_mI, mI_le, nle_mI, nI_addm, sh_b, bI_0, bI_1, bI_bI, ckZ_b, ckZ_n0, ckZ_n1, stIe, stJe, stZ_n0, stZ_n1, rm_nI, dv_nI, if_true, if_false, if_pos, if_neg, rf0, rf1, rf5, rf6, rf7, rf8, rf9, rf20, rf23, rf24, rf25, rf26, rf29, rf31, rf33, rf34, rf35, rf37, rf38, rf41, rf42, rf43,  lr9, ri, r_doReach, hg, h30, sr13, gI_sA, k_X12_findsPlaces_62]
      cases c : rch f a (rw6 f y m)
      · rw [c] at IH epl
        simp only [Bool.false_eq_true, if_false, Nat.add_zero] at IH
        simp only [if_true]
        refine IH τ (by omega) (by omega) hg hr h30 (fun d hd hp => ?_)
        by_cases q : d = m
        · subst q; rw [epl] at hp; exact absurd hp (by decide)
        · exact hD d (by omega) hp
      · rw [c] at IH epl
        simp only [if_true] at IH
        simp only [Bool.true_eq_false, if_false]
        obtain ⟨G, q1, q2⟩ := IH (sI (sA τ 13 (upd (gA τ 13) (cnt (rp f y a) m) (nI (rw6 f y m)))) 0 30 (nI (cnt (rp f y a) m + 1))) (by omega) (by omega) hg hr (by rw [gI_sI, if_pos ⟨rfl, rfl⟩]) (fun d hd hp => by
          rw [gA_sI, gA_sA, if_pos rfl, upd_at]
          by_cases q : d = m
          · subst q; rw [if_pos (by omega)]
          · have hlt := cnt_lt2 (p := rp f y a) (d := d) (n := m) (by omega) hp
            rw [if_neg (by omega)]
            exact hD d (by omega) hp)
        refine ⟨G, ?_, q2⟩
        rw [q1]
        congr 1
        rw [sI_sA, sA_sA, sI_sI]
