/-! MOVED -/
def w1 (f : Nat → Int32) (y v : Nat) : Nat := (v + 1000 - ya f y) % 1000
def ahd (f : Nat → Int32) (y v : Nat) (i : Nat) : Bool := decide (wy f y i < w1 f y v)
def mvd (f : Nat → Int32) (v y : Nat) : Bool := decide (cnt (ahd f y v) (KN f) < NN f)
theorem c_wayFrom {w : Nat} (hw : isW w) {σ : ST} {f : Nat → Int32} (h : RS (wv σ w) f) {y v : Nat} (hy : y < YN f) (hv : v < 1000) : f_X7_wayFrom (w + 1) (nI y) (nI v) σ = some (nI (w1 f y v), σ) := by
  have hY := h.1.2.1
  have hya := h.1.2.2.2.2.2.2.1 y hy
  have e4 : gA σ (w + 4) y = nI (ya f y) := (h.2.2.2.1 y hy).trans (eya f y)
  unfold w1
  by_cases z : v < ya f y
  · have e : (v + 1000 - ya f y) % 1000 = v + 1000 - ya f y := Nat.mod_eq_of_lt (by omega)
    rw [e]
    simp (disch := omega) only [↓mI_e, lit, ofN, bsm, nI_add, pk_mul, pk_sub, nI_e, nI_leE, nI_ltE, nI_mI, mI_nI, mI_lt, nlt_mI, mI_le, nle_mI, nI_addm, sh_b, bI_0, bI_1, bI_bI, ckZ_b, ckZ_n0, ckZ_n1, stIe, stJe, stZ_n0, stZ_n1, rm_nI, dv_nI, if_true, if_false, if_pos, if_neg, rf0, rf1, rf5, rf6, rf7, rf8, rf9, rf20, rf23, rf24, rf25, rf26, rf29, rf31, rf33, rf34, rf35, rf37, rf38, rf41, rf42, rf43,  f_X7_wayFrom, k_X7_wayFrom_33, ws_2 hw, lw4 hw, e4, sub_add]
  · have e : (v + 1000 - ya f y) % 1000 = v - ya f y := by omega
    rw [e]
    simp (disch := omega) only [↓mI_e, lit, ofN, bsm, nI_add, pk_mul, pk_sub, nI_e, nI_leE, nI_ltE, nI_mI, mI_nI, mI_lt, nlt_mI, mI_le, nle_mI, nI_addm, sh_b, bI_0, bI_1, bI_bI, ckZ_b, ckZ_n0, ckZ_n1, stIe, stJe, stZ_n0, stZ_n1, rm_nI, dv_nI, if_true, if_false, if_pos, if_neg, rf0, rf1, rf5, rf6, rf7, rf8, rf9, rf20, rf23, rf24, rf25, rf26, rf29, rf31, rf33, rf34, rf35, rf37, rf38, rf41, rf42, rf43,  f_X7_wayFrom, k_X7_wayFrom_33, ws_2 hw, lw4 hw, e4]
theorem c_ahead_loop {w : Nat} (hw : isW w) {σ : ST} {f : Nat → Int32} (h : RS (wv σ w) f) {y v : Nat} (hy : y < YN f) : ∀ (n i : Nat), i ≤ KN f → KN f - i < n → k_X7_keepersAhead_13 n (w + 1) (nI y) (nI (w1 f y v)) (nI (cnt (ahd f y v) i)) (nI i) σ = some (nI (cnt (ahd f y v) (KN f)), σ) := by
  have hK := h.1.1
  have hl : w1 f y v < 1000 := Nat.mod_lt _ (by decide)
  have e6 : gI σ (w + 1) 6 = nI (KN f) := h.2.1.1.trans (eK f)
  intro n
  induction n with
  | zero => intros; omega
  | succ n ih =>
    intro i hi hn
    rw [k_X7_keepersAhead_13]
    by_cases e : i = KN f
    · subst e
      simp (disch := omega) only [↓mI_e, lit, ofN, bsm, nI_add, pk_mul, pk_sub, nI_e, nI_leE, nI_ltE, nI_mI, mI_nI, mI_lt, nlt_mI, mI_le, nle_mI, nI_addm, sh_b, bI_0, bI_1, bI_bI, ckZ_b, ckZ_n0, ckZ_n1, stIe, stJe, stZ_n0, stZ_n1, rm_nI, dv_nI, if_true, if_false, if_pos, if_neg, rf0, rf1, rf5, rf6, rf7, rf8, rf9, rf20, rf23, rf24, rf25, rf26, rf29, rf31, rf33, rf34, rf35, rf37, rf38, rf41, rf42, rf43,  e6]
    · have hka := h.1.2.2.2.2.2.1 i (by omega)
      have e2 : gA σ (w + 2) i = nI (ka f i) := (h.2.2.1 i (by omega)).trans (eka f i)
      have c1 := c_wayFrom hw h hy hka
      have ew : w1 f y (ka f i) = wy f y i := rfl
      rw [ew] at c1
      have hwl := wy_lt f y i
      have IH := ih (i + 1) (by omega) (by omega)
      rw [cnt] at IH
      by_cases z : wy f y i < w1 f y v
      · rw [show ahd f y v i = true from decide_eq_true z, if_pos rfl] at IH
        simp (disch := omega) only [↓mI_e, lit, ofN, bsm, nI_add, pk_mul, pk_sub, nI_e, nI_leE, nI_ltE, nI_mI, mI_nI, mI_lt, nlt_mI, mI_le, nle_mI, nI_addm, sh_b, bI_0, bI_1, bI_bI, ckZ_b, ckZ_n0, ckZ_n1, stIe, stJe, stZ_n0, stZ_n1, rm_nI, dv_nI, if_true, if_false, if_pos, if_neg, rf0, rf1, rf5, rf6, rf7, rf8, rf9, rf20, rf23, rf24, rf25, rf26, rf29, rf31, rf33, rf34, rf35, rf37, rf38, rf41, rf42, rf43,  e6, ws_0 hw, lw2 hw, e2, c1, k_X7_keepersAhead_41]
        exact IH
      · rw [show ahd f y v i = false from decide_eq_false z, if_neg (by decide), Nat.add_zero] at IH
        simp (disch := omega) only [↓mI_e, lit, ofN, bsm, nI_add, pk_mul, pk_sub, nI_e, nI_leE, nI_ltE, nI_mI, mI_nI, mI_lt, nlt_mI, mI_le, nle_mI, nI_addm, sh_b, bI_0, bI_1, bI_bI, ckZ_b, ckZ_n0, ckZ_n1, stIe, stJe, stZ_n0, stZ_n1, rm_nI, dv_nI, if_true, if_false, if_pos, if_neg, rf0, rf1, rf5, rf6, rf7, rf8, rf9, rf20, rf23, rf24, rf25, rf26, rf29, rf31, rf33, rf34, rf35, rf37, rf38, rf41, rf42, rf43,  e6, ws_0 hw, lw2 hw, e2, c1, k_X7_keepersAhead_41]
        exact IH
theorem c_ahead {w : Nat} (hw : isW w) {σ : ST} {f : Nat → Int32} (h : RS (wv σ w) f) {y v : Nat} (hy : y < YN f) (hv : v < 1000) : f_X7_keepersAhead (w + 1) (nI y) (nI v) σ = some (nI (cnt (ahd f y v) (KN f)), σ) := by
  have hK := h.1.1
  obtain ⟨F, hF, hF2⟩ : ∃ F, FU = F ∧ 5000 < F := ⟨FU, rfl, by unfold FU; omega⟩
  have q := c_ahead_loop hw h (v := v) hy F 0 (by omega) (by omega)
  have q : k_X7_keepersAhead_13 F (w + 1) (nI y) (nI (w1 f y v)) (nI 0) (nI 0) σ = _ := q
  simp (disch := omega) only [↓mI_e, lit, ofN, bsm, nI_add, pk_mul, pk_sub, nI_e, nI_leE, nI_ltE, nI_mI, mI_nI, mI_lt, nlt_mI, mI_le, nle_mI, nI_addm, sh_b, bI_0, bI_1, bI_bI, ckZ_b, ckZ_n0, ckZ_n1, stIe, stJe, stZ_n0, stZ_n1, rm_nI, dv_nI, if_true, if_false, if_pos, if_neg, rf0, rf1, rf5, rf6, rf7, rf8, rf9, rf20, rf23, rf24, rf25, rf26, rf29, rf31, rf33, rf34, rf35, rf37, rf38, rf41, rf42, rf43,  f_X7_keepersAhead, c_wayFrom hw h hy hv, hF]
  exact q
theorem c_moved_loop {σ : ST} {f : Nat → Int32} (h : RS (wv σ wM) f) {v : Nat} (hv : v < 1000) : ∀ (n y : Nat), y ≤ YN f → YN f - y < n → k_X11_moved_63 n 0 (nI v) (nI (cnt (mvd f v) y)) (nI y) σ = some (nI (cnt (mvd f v) (YN f)), sI σ 0 14 (nI 0)) := by
  have hw := wM_w
  have hY := h.1.2.1
  have hK := h.1.1
  have hN := h.1.2.2.1
  have e7 : gI σ (wM + 1) 7 = nI (YN f) := h.2.1.2.1.trans (eY f)
  have e9 : gI σ (wM + 1) 9 = nI (NN f) := h.2.1.2.2.1.trans (eN f)
  intro n
  induction n with
  | zero => intros; omega
  | succ n ih =>
    intro y hy hn
    rw [k_X11_moved_63]
    by_cases e : y = YN f
    · subst e
      simp (disch := omega) only [↓mI_e, lit, ofN, bsm, nI_add, pk_mul, pk_sub, nI_e, nI_leE, nI_ltE, nI_mI, mI_nI, mI_lt, nlt_mI, mI_le, nle_mI, nI_addm, sh_b, bI_0, bI_1, bI_bI, ckZ_b, ckZ_n0, ckZ_n1, stIe, stJe, stZ_n0, stZ_n1, rm_nI, dv_nI, if_true, if_false, if_pos, if_neg, rf0, rf1, rf5, rf6, rf7, rf8, rf9, rf20, rf23, rf24, rf25, rf26, rf29, rf31, rf33, rf34, rf35, rf37, rf38, rf41, rf42, rf43,  c02, w_0 hw, e7, c_answer]
    · have c1 := c_ahead hw h (y := y) (by omega) hv
      have hcl := cnt_le (ahd f y v) (KN f)
      have IH := ih (y + 1) (by omega) (by omega)
      rw [cnt] at IH
      by_cases z : cnt (ahd f y v) (KN f) < NN f
      · rw [show mvd f v y = true from decide_eq_true z, if_pos rfl] at IH
        simp (disch := omega) only [↓mI_e, lit, ofN, bsm, nI_add, pk_mul, pk_sub, nI_e, nI_leE, nI_ltE, nI_mI, mI_nI, mI_lt, nlt_mI, mI_le, nle_mI, nI_addm, sh_b, bI_0, bI_1, bI_bI, ckZ_b, ckZ_n0, ckZ_n1, stIe, stJe, stZ_n0, stZ_n1, rm_nI, dv_nI, if_true, if_false, if_pos, if_neg, rf0, rf1, rf5, rf6, rf7, rf8, rf9, rf20, rf23, rf24, rf25, rf26, rf29, rf31, rf33, rf34, rf35, rf37, rf38, rf41, rf42, rf43,  c02, w_0 hw, e7, c1, e9, k_X11_moved_105]
        exact IH
      · rw [show mvd f v y = false from decide_eq_false z, if_neg (by decide), Nat.add_zero] at IH
        simp (disch := omega) only [↓mI_e, lit, ofN, bsm, nI_add, pk_mul, pk_sub, nI_e, nI_leE, nI_ltE, nI_mI, mI_nI, mI_lt, nlt_mI, mI_le, nle_mI, nI_addm, sh_b, bI_0, bI_1, bI_bI, ckZ_b, ckZ_n0, ckZ_n1, stIe, stJe, stZ_n0, stZ_n1, rm_nI, dv_nI, if_true, if_false, if_pos, if_neg, rf0, rf1, rf5, rf6, rf7, rf8, rf9, rf20, rf23, rf24, rf25, rf26, rf29, rf31, rf33, rf34, rf35, rf37, rf38, rf41, rf42, rf43,  c02, w_0 hw, e7, c1, e9, k_X11_moved_105]
        exact IH
theorem r_moved_in {τ : ST} {f : Nat → Int32} (hf : gA τ 1 = f) (hWF : WFs f) {y v : Nat} (hy : y < YN f) (c : Nat) (rec77 : Nat → Int32 → Int32 → Int32 → ST → Option (Int32 × ST)) : ∀ (n i : Nat), i ≤ KN f → KN f - i < n → k_X12_movedBy_114 rec77 n 0 (nI v) (nI c) (nI y) (nI (w1 f y v)) (nI (cnt (ahd f y v) i)) (nI i) τ = rec77 0 (nI v) (nI (c + if mvd f v y then 1 else 0)) (nI (y + 1)) τ := by
  obtain ⟨hK, hY, hN, _, _, hka, hya, _⟩ := id hWF
  have hl : w1 f y v < 1000 := Nat.mod_lt _ (by decide)
  have e3 : gA τ 1 3 = nI (KN f) := by rw [hf]; exact eK f
  have e0 : gA τ 1 0 = nI (NN f) := by rw [hf]; exact eN f
  have e16 : gA τ 1 (16 + y) = nI (ya f y) := by rw [hf]; exact eya f y
  have hyy := hya y hy
  intro n
  induction n with
  | zero => intros; omega
  | succ n ih =>
    intro i hi hn
    rw [k_X12_movedBy_114]
    by_cases e : i = KN f
    · subst e
      have hcl := cnt_le (ahd f y v) (KN f)
      by_cases z : cnt (ahd f y v) (KN f) < NN f
      · rw [show mvd f v y = true from decide_eq_true z, if_pos rfl]
        simp (disch := omega) only [↓mI_e, lit, ofN, bsm, nI_add, pk_mul, pk_sub, nI_e, nI_leE, nI_ltE, nI_mI, mI_nI, mI_lt, nlt_mI, mI_le, nle_mI, nI_addm, sh_b, bI_0, bI_1, bI_bI, ckZ_b, ckZ_n0, ckZ_n1, stIe, stJe, stZ_n0, stZ_n1, rm_nI, dv_nI, if_true, if_false, if_pos, if_neg, rf0, rf1, rf5, rf6, rf7, rf8, rf9, rf20, rf23, rf24, rf25, rf26, rf29, rf31, rf33, rf34, rf35, rf37, rf38, rf41, rf42, rf43,  lr1, e3, e0, k_X12_movedBy_191]
      · rw [show mvd f v y = false from decide_eq_false z, if_neg (by decide)]
        simp (disch := omega) only [↓mI_e, lit, ofN, bsm, nI_add, pk_mul, pk_sub, nI_e, nI_leE, nI_ltE, nI_mI, mI_nI, mI_lt, nlt_mI, mI_le, nle_mI, nI_addm, sh_b, bI_0, bI_1, bI_bI, ckZ_b, ckZ_n0, ckZ_n1, stIe, stJe, stZ_n0, stZ_n1, rm_nI, dv_nI, if_true, if_false, if_pos, if_neg, rf0, rf1, rf5, rf6, rf7, rf8, rf9, rf20, rf23, rf24, rf25, rf26, rf29, rf31, rf33, rf34, rf35, rf37, rf38, rf41, rf42, rf43,  lr1, e3, e0, k_X12_movedBy_191]
    · have e10 : gA τ 1 (10 + i) = nI (ka f i) := by rw [hf]; exact eka f i
      have hki := hka i (by omega)
      have hwl := wy_lt f y i
      have ew := wy_e f y i
      have IH := ih (i + 1) (by omega) (by omega)
      rw [cnt] at IH
      by_cases z : wy f y i < w1 f y v
      · rw [show ahd f y v i = true from decide_eq_true z, if_pos rfl] at IH
        simp (disch := omega) only [↓mI_e, lit, ofN, bsm, nI_add, pk_mul, pk_sub, nI_e, nI_leE, nI_ltE, nI_mI, mI_nI, mI_lt, nlt_mI, mI_le, nle_mI, nI_addm, sh_b, bI_0, bI_1, bI_bI, ckZ_b, ckZ_n0, ckZ_n1, stIe, stJe, stZ_n0, stZ_n1, rm_nI, dv_nI, if_true, if_false, if_pos, if_neg, rf0, rf1, rf5, rf6, rf7, rf8, rf9, rf20, rf23, rf24, rf25, rf26, rf29, rf31, rf33, rf34, rf35, rf37, rf38, rf41, rf42, rf43,  lr1, e3, e10, e16, sub_add, ew, k_X12_movedBy_165]
        exact IH
      · rw [show ahd f y v i = false from decide_eq_false z, if_neg (by decide), Nat.add_zero] at IH
        simp (disch := omega) only [↓mI_e, lit, ofN, bsm, nI_add, pk_mul, pk_sub, nI_e, nI_leE, nI_ltE, nI_mI, mI_nI, mI_lt, nlt_mI, mI_le, nle_mI, nI_addm, sh_b, bI_0, bI_1, bI_bI, ckZ_b, ckZ_n0, ckZ_n1, stIe, stJe, stZ_n0, stZ_n1, rm_nI, dv_nI, if_true, if_false, if_pos, if_neg, rf0, rf1, rf5, rf6, rf7, rf8, rf9, rf20, rf23, rf24, rf25, rf26, rf29, rf31, rf33, rf34, rf35, rf37, rf38, rf41, rf42, rf43,  lr1, e3, e10, e16, sub_add, ew, k_X12_movedBy_165, Nat.add_zero]
        exact IH
theorem r_moved_out {τ : ST} {f : Nat → Int32} (hf : gA τ 1 = f) (hWF : WFs f) {v : Nat} (hv : v < 1000) : ∀ (n y : Nat), y ≤ YN f → YN f - y < n → k_X12_movedBy_77 n 0 (nI v) (nI (cnt (mvd f v) y)) (nI y) τ = some (nI (cnt (mvd f v) (YN f)), sI τ 0 2 (nI 0)) := by
  obtain ⟨hK, hY, hN, _, _, hka, hya, _⟩ := id hWF
  have e4 : gA τ 1 4 = nI (YN f) := by rw [hf]; exact eY f
  obtain ⟨F, hF, hF2⟩ : ∃ F, FU = F ∧ 5000 < F := ⟨FU, rfl, by unfold FU; omega⟩
  intro n
  induction n with
  | zero => intros; omega
  | succ n ih =>
    intro y hy hn
    rw [k_X12_movedBy_77, hF]
    by_cases e : y = YN f
    · subst e
      simp (disch := omega) only [↓mI_e, lit, ofN, bsm, nI_add, pk_mul, pk_sub, nI_e, nI_leE, nI_ltE, nI_mI, mI_nI, mI_lt, nlt_mI, mI_le, nle_mI, nI_addm, sh_b, bI_0, bI_1, bI_bI, ckZ_b, ckZ_n0, ckZ_n1, stIe, stJe, stZ_n0, stZ_n1, rm_nI, dv_nI, if_true, if_false, if_pos, if_neg, rf0, rf1, rf5, rf6, rf7, rf8, rf9, rf20, rf23, rf24, rf25, rf26, rf29, rf31, rf33, rf34, rf35, rf37, rf38, rf41, rf42, rf43,  lr1, e4, r_gives]
    · have e16 : gA τ 1 (16 + y) = nI (ya f y) := by rw [hf]; exact eya f y
      have hyy := hya y (by omega)
      have q := r_moved_in hf hWF (y := y) (v := v) (by omega) (cnt (mvd f v) y) (k_X12_movedBy_77 n) F 0 (by omega) (by omega)
      have IH := ih (y + 1) (by omega) (by omega)
      rw [cnt] at IH
      have ew : (v + 1000 - ya f y) % 1000 = w1 f y v := rfl
      simp (disch := omega) only [↓mI_e, lit, ofN, bsm, nI_add, pk_mul, pk_sub, nI_e, nI_leE, nI_ltE, nI_mI, mI_nI, mI_lt, nlt_mI, mI_le, nle_mI, nI_addm, sh_b, bI_0, bI_1, bI_bI, ckZ_b, ckZ_n0, ckZ_n1, stIe, stJe, stZ_n0, stZ_n1, rm_nI, dv_nI, if_true, if_false, if_pos, if_neg, rf0, rf1, rf5, rf6, rf7, rf8, rf9, rf20, rf23, rf24, rf25, rf26, rf29, rf31, rf33, rf34, rf35, rf37, rf38, rf41, rf42, rf43,  lr1, e4, e16, sub_add, ew]
      exact q.trans IH
def tkn (f : Nat → Int32) (v i : Nat) : Bool := decide (ka f i = v)
theorem c_taken_loop {w : Nat} (hw : isW w) {σ : ST} {f : Nat → Int32} (h : RS (wv σ w) f) {v : Nat} (hv : v < 1000) : ∀ (n i : Nat), i ≤ KN f → KN f - i < n → (∀ j, j < i → tkn f v j = false) → k_X7_isTakenAt_2 n (w + 1) (nI v) (nI i) σ = some (bI (decide (∃ j, j < KN f ∧ tkn f v j = true)), σ) := by
  have hK := h.1.1
  have e6 : gI σ (w + 1) 6 = nI (KN f) := h.2.1.1.trans (eK f)
  intro n
  induction n with
  | zero => intros; omega
  | succ n ih =>
    intro i hi hn hj
    rw [k_X7_isTakenAt_2]
    by_cases e : i = KN f
    · subst e
      rw [decide_eq_false (fun ⟨j, q1, q2⟩ => by rw [hj j q1] at q2; exact absurd q2 (by decide)), bI_f]
      simp (disch := omega) only [↓mI_e, lit, ofN, bsm, nI_add, pk_mul, pk_sub, nI_e, nI_leE, nI_ltE, nI_mI, mI_nI, mI_lt, nlt_mI, mI_le, nle_mI, nI_addm, sh_b, bI_0, bI_1, bI_bI, ckZ_b, ckZ_n0, ckZ_n1, stIe, stJe, stZ_n0, stZ_n1, rm_nI, dv_nI, if_true, if_false, if_pos, if_neg, rf0, rf1, rf5, rf6, rf7, rf8, rf9, rf20, rf23, rf24, rf25, rf26, rf29, rf31, rf33, rf34, rf35, rf37, rf38, rf41, rf42, rf43,  e6]
    · have hka := h.1.2.2.2.2.2.1 i (by omega)
      have e2 : gA σ (w + 2) i = nI (ka f i) := (h.2.2.1 i (by omega)).trans (eka f i)
      by_cases z : ka f i = v
      · rw [decide_eq_true (⟨i, by omega, decide_eq_true z⟩ : ∃ j, j < KN f ∧ tkn f v j = true), bI_t]
        simp (disch := omega) only [↓mI_e, lit, ofN, bsm, nI_add, pk_mul, pk_sub, nI_e, nI_leE, nI_ltE, nI_mI, mI_nI, mI_lt, nlt_mI, mI_le, nle_mI, nI_addm, sh_b, bI_0, bI_1, bI_bI, ckZ_b, ckZ_n0, ckZ_n1, stIe, stJe, stZ_n0, stZ_n1, rm_nI, dv_nI, if_true, if_false, if_pos, if_neg, rf0, rf1, rf5, rf6, rf7, rf8, rf9, rf20, rf23, rf24, rf25, rf26, rf29, rf31, rf33, rf34, rf35, rf37, rf38, rf41, rf42, rf43,  e6, ws_0 hw, lw2 hw, e2]
      · simp (disch := omega) only [↓mI_e, lit, ofN, bsm, nI_add, pk_mul, pk_sub, nI_e, nI_leE, nI_ltE, nI_mI, mI_nI, mI_lt, nlt_mI, mI_le, nle_mI, nI_addm, sh_b, bI_0, bI_1, bI_bI, ckZ_b, ckZ_n0, ckZ_n1, stIe, stJe, stZ_n0, stZ_n1, rm_nI, dv_nI, if_true, if_false, if_pos, if_neg, rf0, rf1, rf5, rf6, rf7, rf8, rf9, rf20, rf23, rf24, rf25, rf26, rf29, rf31, rf33, rf34, rf35, rf37, rf38, rf41, rf42, rf43,  e6, ws_0 hw, lw2 hw, e2]
        exact ih (i + 1) (by omega) (by omega) (fun j q => by
          by_cases z2 : j = i
          · rw [z2]; exact decide_eq_false z
          · exact hj j (by omega))
theorem r_taken_loop {τ : ST} {f : Nat → Int32} (hf : gA τ 1 = f) (hWF : WFs f) {v : Nat} (hv : v < 1000) : ∀ (n i : Nat), i ≤ KN f → KN f - i < n → (∀ j, j < i → tkn f v j = false) → k_X12_movedBy_37 n 0 (nI v) (nI i) τ = if decide (∃ j, j < KN f ∧ tkn f v j = true) then some (mI, sI τ 0 2 (nI 7)) else some (nI (cnt (mvd f v) (YN f)), sI τ 0 2 (nI 0)) := by
  obtain ⟨hK, hY, hN, _, _, hka, hya, _⟩ := id hWF
  have e3 : gA τ 1 3 = nI (KN f) := by rw [hf]; exact eK f
  have out := r_moved_out hf hWF hv FU 0 (by omega) (by unfold FU; omega)
  have out : k_X12_movedBy_77 FU 0 (nI v) (nI 0) (nI 0) τ = _ := out
  obtain ⟨F, hF, hF2⟩ : ∃ F, FU = F ∧ 5000 < F := ⟨FU, rfl, by unfold FU; omega⟩
  rw [hF] at out
  intro n
  induction n with
  | zero => intros; omega
  | succ n ih =>
    intro i hi hn hj
    rw [k_X12_movedBy_37, hF]
    by_cases e : i = KN f
    · subst e
      rw [decide_eq_false (fun ⟨j, q1, q2⟩ => by rw [hj j q1] at q2; exact absurd q2 (by decide)), if_neg (by decide)]
      simp (disch := omega) only [↓mI_e, lit, ofN, bsm, nI_add, pk_mul, pk_sub, nI_e, nI_leE, nI_ltE, nI_mI, mI_nI, mI_lt, nlt_mI, mI_le, nle_mI, nI_addm, sh_b, bI_0, bI_1, bI_bI, ckZ_b, ckZ_n0, ckZ_n1, stIe, stJe, stZ_n0, stZ_n1, rm_nI, dv_nI, if_true, if_false, if_pos, if_neg, rf0, rf1, rf5, rf6, rf7, rf8, rf9, rf20, rf23, rf24, rf25, rf26, rf29, rf31, rf33, rf34, rf35, rf37, rf38, rf41, rf42, rf43,  lr1, e3, out]
    · have e10 : gA τ 1 (10 + i) = nI (ka f i) := by rw [hf]; exact eka f i
      have hki := hka i (by omega)
      by_cases z : ka f i = v
      · rw [decide_eq_true (⟨i, by omega, decide_eq_true z⟩ : ∃ j, j < KN f ∧ tkn f v j = true), if_pos rfl]
        simp (disch := omega) only [↓mI_e, lit, ofN, bsm, nI_add, pk_mul, pk_sub, nI_e, nI_leE, nI_ltE, nI_mI, mI_nI, mI_lt, nlt_mI, mI_le, nle_mI, nI_addm, sh_b, bI_0, bI_1, bI_bI, ckZ_b, ckZ_n0, ckZ_n1, stIe, stJe, stZ_n0, stZ_n1, rm_nI, dv_nI, if_true, if_false, if_pos, if_neg, rf0, rf1, rf5, rf6, rf7, rf8, rf9, rf20, rf23, rf24, rf25, rf26, rf29, rf31, rf33, rf34, rf35, rf37, rf38, rf41, rf42, rf43,  lr1, e3, e10, r_refuse]
      · simp (disch := omega) only [↓mI_e, lit, ofN, bsm, nI_add, pk_mul, pk_sub, nI_e, nI_leE, nI_ltE, nI_mI, mI_nI, mI_lt, nlt_mI, mI_le, nle_mI, nI_addm, sh_b, bI_0, bI_1, bI_bI, ckZ_b, ckZ_n0, ckZ_n1, stIe, stJe, stZ_n0, stZ_n1, rm_nI, dv_nI, if_true, if_false, if_pos, if_neg, rf0, rf1, rf5, rf6, rf7, rf8, rf9, rf20, rf23, rf24, rf25, rf26, rf29, rf31, rf33, rf34, rf35, rf37, rf38, rf41, rf42, rf43,  lr1, e3, e10]
        exact ih (i + 1) (by omega) (by omega) (fun j q => by
          by_cases z2 : j = i
          · rw [z2]; exact decide_eq_false z
          · exact hj j (by omega))
theorem sim_moved (i : Nat) : SIM_moved (Rel i) (Rel (i + 6)) := by
  intro a0 σ τ h
  have hW := h.2.2.2.2.1
  have hS := hW.1
  have hK := hS.1.1
  have hY := hS.1.2.1
  have hw := wM_w
  show Sm i _ _
  rcases num_cases a0 0 999 (by omega) (by omega) with hb | ⟨v, _, hv, rfl⟩
  · have hf := r_isFrom_n (v := a0) (a := 0) (b := 999) (by omega) (by omega) (by rcases hb with hb | hb; exact Or.inl hb; exact Or.inr (by omega)) τ
    by_cases z : a0 < nI 0
    · simp (disch := omega) only [↓mI_e, lit, ofN, bsm, nI_add, pk_mul, pk_sub, nI_e, nI_leE, nI_ltE, nI_mI, mI_nI, mI_lt, nlt_mI, mI_le, nle_mI, nI_addm, sh_b, bI_0, bI_1, bI_bI, ckZ_b, ckZ_n0, ckZ_n1, stIe, stJe, stZ_n0, stZ_n1, rm_nI, dv_nI, if_true, if_false, if_pos, if_neg, rf0, rf1, rf5, rf6, rf7, rf8, rf9, rf20, rf23, rf24, rf25, rf26, rf29, rf31, rf33, rf34, rf35, rf37, rf38, rf41, rf42, rf43,  f_X11_moved, k_X11_moved_11, f_X12_moved, f_X12_movedBy, litL, hf, z, c_refuse, r_refuse]
      exact Sm_0 h _ _
    · have z2 : ¬ a0 < nI 1000 := fun q => by
        rw [Int32.lt_iff_toInt_lt] at q z
        have e1 : (nI 1000).toInt = 1000 := rfl
        have e0 : (nI 0).toInt = 0 := rfl
        omega
      simp (disch := omega) only [↓mI_e, lit, ofN, bsm, nI_add, pk_mul, pk_sub, nI_e, nI_leE, nI_ltE, nI_mI, mI_nI, mI_lt, nlt_mI, mI_le, nle_mI, nI_addm, sh_b, bI_0, bI_1, bI_bI, ckZ_b, ckZ_n0, ckZ_n1, stIe, stJe, stZ_n0, stZ_n1, rm_nI, dv_nI, if_true, if_false, if_pos, if_neg, rf0, rf1, rf5, rf6, rf7, rf8, rf9, rf20, rf23, rf24, rf25, rf26, rf29, rf31, rf33, rf34, rf35, rf37, rf38, rf41, rf42, rf43,  f_X11_moved, k_X11_moved_11, f_X12_moved, f_X12_movedBy, litL, hf, z, z2, c_refuse, r_refuse]
      exact Sm_0 h _ _
  · have hf := r_isFrom_y (k := v) (a := 0) (b := 999) (by omega) (by omega) (by omega) τ
    have e6 : gI σ (wM + 1) 6 = nI (KN (gA τ 1)) := hS.2.1.1.trans (eK _)
    have e3 : gA τ 1 3 = nI (KN (gA τ 1)) := eK _
    by_cases z : KN (gA τ 1) = 6
    · simp (disch := omega) only [↓mI_e, lit, ofN, bsm, nI_add, pk_mul, pk_sub, nI_e, nI_leE, nI_ltE, nI_mI, mI_nI, mI_lt, nlt_mI, mI_le, nle_mI, nI_addm, sh_b, bI_0, bI_1, bI_bI, ckZ_b, ckZ_n0, ckZ_n1, stIe, stJe, stZ_n0, stZ_n1, rm_nI, dv_nI, if_true, if_false, if_pos, if_neg, rf0, rf1, rf5, rf6, rf7, rf8, rf9, rf20, rf23, rf24, rf25, rf26, rf29, rf31, rf33, rf34, rf35, rf37, rf38, rf41, rf42, rf43,  f_X11_moved, f_X12_moved, f_X12_movedBy, litL, hf, c02, w_0 hw, e6, lr1, e3, z, c_refuse, r_refuse]
      exact Sm_0 h _ _
    · have c1 := c_taken_loop hw hS (v := v) (by omega) FU 0 (by omega) (by unfold FU; omega) (fun j q => by omega)
      have c1 : f_X7_isTakenAt (wM + 1) (nI v) σ = _ := c1
      have r1 := r_taken_loop (τ := τ) rfl hS.1 (v := v) (by omega) FU 0 (by omega) (by unfold FU; omega) (fun j q => by omega)
      have c2 := c_moved_loop hS (v := v) (by omega) FU 0 (by omega) (by unfold FU; omega)
      have c2 : k_X11_moved_63 FU 0 (nI v) (nI 0) (nI 0) σ = _ := c2
      cases q : decide (∃ j, j < KN (gA τ 1) ∧ tkn (gA τ 1) v j = true)
      · rw [q] at c1 r1
        rw [if_neg (by decide)] at r1
        simp (disch := omega) only [↓mI_e, lit, ofN, bsm, nI_add, pk_mul, pk_sub, nI_e, nI_leE, nI_ltE, nI_mI, mI_nI, mI_lt, nlt_mI, mI_le, nle_mI, nI_addm, sh_b, bI_0, bI_1, bI_bI, ckZ_b, ckZ_n0, ckZ_n1, stIe, stJe, stZ_n0, stZ_n1, rm_nI, dv_nI, if_true, if_false, if_pos, if_neg, rf0, rf1, rf5, rf6, rf7, rf8, rf9, rf20, rf23, rf24, rf25, rf26, rf29, rf31, rf33, rf34, rf35, rf37, rf38, rf41, rf42, rf43,  f_X11_moved, f_X12_moved, f_X12_movedBy, litL, hf, c02, w_0 hw, e6, lr1, e3, z, c1, bI_f, r1, c2]
        exact Sm_0 h _ _
      · rw [q] at c1 r1
        rw [if_pos rfl] at r1
        simp (disch := omega) only [↓mI_e, lit, ofN, bsm, nI_add, pk_mul, pk_sub, nI_e, nI_leE, nI_ltE, nI_mI, mI_nI, mI_lt, nlt_mI, mI_le, nle_mI, nI_addm, sh_b, bI_0, bI_1, bI_bI, ckZ_b, ckZ_n0, ckZ_n1, stIe, stJe, stZ_n0, stZ_n1, rm_nI, dv_nI, if_true, if_false, if_pos, if_neg, rf0, rf1, rf5, rf6, rf7, rf8, rf9, rf20, rf23, rf24, rf25, rf26, rf29, rf31, rf33, rf34, rf35, rf37, rf38, rf41, rf42, rf43,  f_X11_moved, f_X12_moved, f_X12_movedBy, litL, hf, c02, w_0 hw, e6, lr1, e3, z, c1, Bool.true_eq_false, r1, c_refuse]
        exact Sm_0 h _ _
