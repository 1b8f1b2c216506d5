/-! CALLS THAT ONLY ASK -/
def Sm (i : Nat) (A B : Option (Int32 × ST)) : Prop := ∃ (r : Int32) (σ1 τ1 : ST), A = some (r, σ1) ∧ B = some (r, τ1) ∧ Rel (i + 6) σ1 τ1
theorem Sm_q {i : Nat} {σ τ σ1 τ1 : ST} (h : Rel i σ τ) (hσ : Sq noE [14] σ σ1) (hτ : Sc [2] τ τ1) (hm : ∀ k, k < 19400 → gA τ1 1 k = gA τ 1 k) (r v : Int32) : Sm i (some (r, sI σ1 0 14 v)) (some (r, sI τ1 0 2 v)) :=
  ⟨r, _, _, rfl, rfl, Rel_q h (hσ.sI v rfl) (hτ.sI v rfl) (by rw [gI_sI, gI_sI]; rfl) hm⟩
theorem Sm_0 {i : Nat} {σ τ : ST} (h : Rel i σ τ) (r v : Int32) : Sm i (some (r, sI σ 0 14 v)) (some (r, sI τ 0 2 v)) := Sm_q h (Sq.rf σ) (Sc.rf τ) (fun _ _ => rfl) r v
theorem Sm_1 {i : Nat} {σ τ τ1 : ST} (h : Rel i σ τ) (hτ : Sc [2] τ τ1) (hm : gA τ1 1 = gA τ 1) (r v : Int32) : Sm i (some (r, sI σ 0 14 v)) (some (r, sI τ1 0 2 v)) := Sm_q h (Sq.rf σ) hτ (fun _ _ => by rw [hm]) r v
theorem Sm_9 {i : Nat} {σ τ : ST} (h : Rel i σ τ) (g : Nat → Int32) (r v : Int32) : Sm i (some (r, sI σ 0 14 v)) (some (r, sI (sA τ 9 g) 0 2 v)) := Sm_1 h ((Sc.rf τ).sA g rfl) rfl r v
theorem Rel_id {i : Nat} {σ τ : ST} (h : Rel i σ τ) : Rel (i + 6) σ τ := Rel_q h (Sq.rf σ) (Sc.rf τ) h.1.1 (fun _ _ => rfl)
theorem key_cases {f : Nat → Int32} (hf : WFs f) (v : Int32) : (v < 0 ∨ f 4 ≤ v) ∨ ∃ y, y < YN f ∧ v = nI y := by
  rcases pk_ix v (n := YN f) (by have := hf.2.1; omega) with h | h | ⟨j, h, e⟩
  · exact Or.inl (Or.inl h)
  · exact Or.inl (Or.inr (by rw [eY f]; exact h))
  · exact Or.inr ⟨j, h, e⟩
theorem keeper_cases {f : Nat → Int32} (hf : WFs f) (v : Int32) : (v < 0 ∨ f 3 ≤ v) ∨ ∃ y, y < KN f ∧ v = nI y := by
  rcases pk_ix v (n := KN f) (by have := hf.1; omega) with h | h | ⟨j, h, e⟩
  · exact Or.inl (Or.inl h)
  · exact Or.inl (Or.inr (by rw [eK f]; exact h))
  · exact Or.inr ⟨j, h, e⟩
theorem c_isKey_no {σ : ST} {f : Nat → Int32} (h : RS (wv σ wM) f) {v : Int32} (hv : v < 0 ∨ f 4 ≤ v) : f_X11_isKey 0 v σ = some (nI 0, σ) := by
  have e : gI σ (wM + 1) 7 = f 4 := h.2.1.2.1
  unfold f_X11_isKey k_X11_isKey_22 k_X11_isKey_23
  rw [c02, w_0 wM_w, e]
  by_cases g : v < 0
  · rw [if_pos g]; rfl
  · rw [if_neg g, if_pos (hv.resolve_left g)]; rfl
theorem c_isKey_yes {σ : ST} {f : Nat → Int32} (h : RS (wv σ wM) f) {y : Nat} (hy : y < YN f) : f_X11_isKey 0 (nI y) σ = some (nI 1, σ) := by
  have e : gI σ (wM + 1) 7 = f 4 := h.2.1.2.1
  have hY := h.1.2.1
  simp (disch := omega) only [↓mI_e, lit, ofN, bsm, nI_add, pk_mul, pk_sub, nI_e, nI_leE, nI_ltE, nI_mI, mI_nI, mI_lt, nlt_mI, mI_le, nle_mI, nI_addm, sh_b, bI_0, bI_1, bI_bI, ckZ_b, ckZ_n0, ckZ_n1, stIe, stJe, stZ_n0, stZ_n1, rm_nI, dv_nI, if_pos, if_neg, rf0, rf1, rf5, rf6, rf7, rf8, rf9, rf20, rf23, rf24, rf25, rf26, rf29, rf31, rf33, rf34, rf35, rf37, rf38, rf41, rf42, rf43,  f_X11_isKey, k_X11_isKey_22, k_X11_isKey_23, c02, w_0 wM_w, e, eY f]
theorem c_isKeeper_no {σ : ST} {f : Nat → Int32} (h : RS (wv σ wM) f) {v : Int32} (hv : v < 0 ∨ f 3 ≤ v) : f_X11_isKeeper 0 v σ = some (nI 0, σ) := by
  have e : gI σ (wM + 1) 6 = f 3 := h.2.1.1
  unfold f_X11_isKeeper k_X11_isKeeper_22 k_X11_isKeeper_23
  rw [c02, w_0 wM_w, e]
  by_cases g : v < 0
  · rw [if_pos g]; rfl
  · rw [if_neg g, if_pos (hv.resolve_left g)]; rfl
theorem c_isKeeper_yes {σ : ST} {f : Nat → Int32} (h : RS (wv σ wM) f) {y : Nat} (hy : y < KN f) : f_X11_isKeeper 0 (nI y) σ = some (nI 1, σ) := by
  have e : gI σ (wM + 1) 6 = f 3 := h.2.1.1
  have hK := h.1.1
  simp (disch := omega) only [↓mI_e, lit, ofN, bsm, nI_add, pk_mul, pk_sub, nI_e, nI_leE, nI_ltE, nI_mI, mI_nI, mI_lt, nlt_mI, mI_le, nle_mI, nI_addm, sh_b, bI_0, bI_1, bI_bI, ckZ_b, ckZ_n0, ckZ_n1, stIe, stJe, stZ_n0, stZ_n1, rm_nI, dv_nI, if_pos, if_neg, rf0, rf1, rf5, rf6, rf7, rf8, rf9, rf20, rf23, rf24, rf25, rf26, rf29, rf31, rf33, rf34, rf35, rf37, rf38, rf41, rf42, rf43,  f_X11_isKeeper, k_X11_isKeeper_22, k_X11_isKeeper_23, c02, w_0 wM_w, e, eK f]
theorem r_isKey_y {τ : ST} (h : WFs (gA τ 1)) {y : Nat} (hy : y < YN (gA τ 1)) : f_X12_isKey 0 (nI y) τ = some (nI 1, τ) := by
  have hY := h.2.1
  simp (disch := omega) only [↓mI_e, lit, ofN, bsm, nI_add, pk_mul, pk_sub, nI_e, nI_leE, nI_ltE, nI_mI, mI_nI, mI_lt, nlt_mI, mI_le, nle_mI, nI_addm, sh_b, bI_0, bI_1, bI_bI, ckZ_b, ckZ_n0, ckZ_n1, stIe, stJe, stZ_n0, stZ_n1, rm_nI, dv_nI, if_pos, if_neg, rf0, rf1, rf5, rf6, rf7, rf8, rf9, rf20, rf23, rf24, rf25, rf26, rf29, rf31, rf33, rf34, rf35, rf37, rf38, rf41, rf42, rf43,  f_X12_isKey, k_X12_isKey_18, k_X12_isKey_19, lr1, eY (gA τ 1)]
theorem r_isKeeper_y {τ : ST} (h : WFs (gA τ 1)) {y : Nat} (hy : y < KN (gA τ 1)) : f_X12_isKeeper 0 (nI y) τ = some (nI 1, τ) := by
  have hK := h.1
  simp (disch := omega) only [↓mI_e, lit, ofN, bsm, nI_add, pk_mul, pk_sub, nI_e, nI_leE, nI_ltE, nI_mI, mI_nI, mI_lt, nlt_mI, mI_le, nle_mI, nI_addm, sh_b, bI_0, bI_1, bI_bI, ckZ_b, ckZ_n0, ckZ_n1, stIe, stJe, stZ_n0, stZ_n1, rm_nI, dv_nI, if_pos, if_neg, rf0, rf1, rf5, rf6, rf7, rf8, rf9, rf20, rf23, rf24, rf25, rf26, rf29, rf31, rf33, rf34, rf35, rf37, rf38, rf41, rf42, rf43,  f_X12_isKeeper, k_X12_isKeeper_18, k_X12_isKeeper_19, lr1, eK (gA τ 1)]
theorem sim_status (i : Nat) : SIM_status (Rel i) (Rel (i + 6)) := fun σ τ h => ⟨gI σ 0 14, σ, τ, rfl, by rw [h.1.1]; rfl, Rel_id h⟩
theorem sim_top (i : Nat) : SIM_top (Rel i) (Rel (i + 6)) := fun σ τ h => ⟨gJ σ 0 15, σ, τ, rfl, by rw [h.1.2.1]; rfl, Rel_id h⟩
theorem sim_bottom (i : Nat) : SIM_bottom (Rel i) (Rel (i + 6)) := fun σ τ h => ⟨gJ σ 0 16, σ, τ, rfl, by rw [h.1.2.2]; rfl, Rel_id h⟩
theorem sim_fault (i : Nat) : SIM_fault (Rel i) (Rel (i + 6)) := by
  intro a0 σ τ h
  obtain ⟨_, e1, e2⟩ := h.2.2.1
  unfold f_X11_fault f_X12_fault k_X11_fault_28 k_X12_fault_24
  rw [show LC.2.1 0 1 = 2 from rfl, e1, e2]
  by_cases g : a0 = 0
  · rw [if_pos g, if_pos g]; exact ⟨_, _, _, rfl, rfl, Rel_id h⟩
  · rw [if_neg g, if_neg g]
    by_cases g2 : a0 = 1
    · rw [if_pos g2, if_pos g2]; exact ⟨_, _, _, rfl, rfl, Rel_id h⟩
    · rw [if_neg g2, if_neg g2]; exact ⟨_, _, _, rfl, rfl, Rel_id h⟩
theorem sim_isDone (i : Nat) : SIM_isDone (Rel i) (Rel (i + 6)) := by
  intro σ τ h
  have e := h.2.2.2.1.2.1
  show Sm i _ _
  unfold f_X11_isDone f_X12_isDone
  rw [e]
  by_cases g : gI τ 0 28 = -1
  · rw [if_pos g, if_pos g]; exact Sm_0 h _ _
  · rw [if_neg g, if_neg g]; exact Sm_0 h _ _
theorem sim_got (i : Nat) : SIM_got (Rel i) (Rel (i + 6)) := by
  intro a0 σ τ h
  obtain ⟨n, hn, e1, e2, e3⟩ := h.2.2.2.1.1
  show Sm i _ _
  rcases pk_ix a0 (n := n) (by omega) with g | g | ⟨k, hk, rfl⟩
  · unfold f_X11_got f_X12_got
    rw [if_pos g, if_pos g]; exact Sm_0 h _ _
  · unfold f_X11_got f_X12_got
    rw [e1, e2]
    have g3 : ¬ a0 < nI n := Int32.not_lt.mpr g
    by_cases g2 : a0 < 0
    · rw [if_pos g2, if_pos g2]; exact Sm_0 h _ _
    · rw [if_neg g2, if_neg g2, if_neg g3, if_neg g3]; exact Sm_0 h _ _
  · simp (disch := omega) only [↓mI_e, lit, ofN, bsm, nI_add, pk_mul, pk_sub, nI_e, nI_leE, nI_ltE, nI_mI, mI_nI, mI_lt, nlt_mI, mI_le, nle_mI, nI_addm, sh_b, bI_0, bI_1, bI_bI, ckZ_b, ckZ_n0, ckZ_n1, stIe, stJe, stZ_n0, stZ_n1, rm_nI, dv_nI, if_pos, if_neg, rf0, rf1, rf5, rf6, rf7, rf8, rf9, rf20, rf23, rf24, rf25, rf26, rf29, rf31, rf33, rf34, rf35, rf37, rf38, rf41, rf42, rf43,  f_X11_got, k_X11_got_12, k_X11_got_31, f_X12_got, k_X12_got_12, k_X12_got_31, e1, e2, lr14, show LC.2.1 0 12 = 100 from rfl, la 180 (show LC.2.2.1 100 = 180 from rfl), e3 k hk, c_answer, r_gives]
    exact Sm_0 h _ _
theorem sim_lived (i : Nat) : SIM_lived (Rel i) (Rel (i + 6)) := by
  intro a0 σ τ h
  have h4 := h.2.2.2.1.2.2
  show Sm i _ _
  rcases pk_ix a0 (n := 6) (by omega) with g | g | ⟨k, hk, rfl⟩
  · unfold f_X11_lived f_X12_lived
    rw [if_pos g, if_pos g]; exact Sm_0 h _ _
  · unfold f_X11_lived f_X12_lived
    have g3 : ¬ a0 < 6 := Int32.not_lt.mpr g
    have g4 : ¬ a0 ≤ 5 := fun q => by
      have h1 := Int32.le_iff_toInt_le.mp q
      have h2 := Int32.le_iff_toInt_le.mp g
      rw [nI_toInt (by omega)] at h2
      have : (5 : Int32).toInt = 5 := rfl
      omega
    by_cases g2 : a0 < 0
    · rw [if_pos g2, if_pos g2]; exact Sm_0 h _ _
    · rw [if_neg g2, if_neg g2, if_neg g3, if_neg g4]; exact Sm_0 h _ _
  · rcases h4 with ⟨e1, e2⟩ | ⟨n, hn, e1, e2, e3⟩
    · simp (disch := omega) only [↓mI_e, lit, ofN, bsm, nI_add, pk_mul, pk_sub, nI_e, nI_leE, nI_ltE, nI_mI, mI_nI, mI_lt, nlt_mI, mI_le, nle_mI, nI_addm, sh_b, bI_0, bI_1, bI_bI, ckZ_b, ckZ_n0, ckZ_n1, stIe, stJe, stZ_n0, stZ_n1, rm_nI, dv_nI, if_pos, if_neg, rf0, rf1, rf5, rf6, rf7, rf8, rf9, rf20, rf23, rf24, rf25, rf26, rf29, rf31, rf33, rf34, rf35, rf37, rf38, rf41, rf42, rf43,  f_X11_lived, k_X11_lived_10, k_X11_lived_49, f_X12_lived, k_X12_lived_43, k_X12_lived_9, show LC.2.1 0 7 = 78 from rfl, e1, e2, c_refuse, r_refuse]
      exact Sm_0 h _ _
    · simp (disch := omega) only [↓mI_e, lit, ofN, bsm, nI_add, pk_mul, pk_sub, nI_e, nI_leE, nI_ltE, nI_mI, mI_nI, mI_lt, nlt_mI, mI_le, nle_mI, nI_addm, sh_b, bI_0, bI_1, bI_bI, ckZ_b, ckZ_n0, ckZ_n1, stIe, stJe, stZ_n0, stZ_n1, rm_nI, dv_nI, if_pos, if_neg, rf0, rf1, rf5, rf6, rf7, rf8, rf9, rf20, rf23, rf24, rf25, rf26, rf29, rf31, rf33, rf34, rf35, rf37, rf38, rf41, rf42, rf43,  f_X11_lived, k_X11_lived_10, k_X11_lived_49, f_X12_lived, k_X12_lived_43, k_X12_lived_9, show LC.2.1 0 7 = 78 from rfl, show LC.2.1 78 0 = 79 from rfl, la 6 (show LC.2.2.1 79 = 6 from rfl), lr22, e1, e2, e3 k hk, c_answer, r_gives]
      exact Sm_0 h _ _
theorem sim_row (i : Nat) : SIM_row (Rel i) (Rel (i + 6)) := by
  intro a0 a1 σ τ h
  have hS := h.2.2.2.2.1.1
  have e6 : gI σ (wM + 1) 6 = nI (KN (gA τ 1)) := hS.2.1.1.trans (eK _)
  have hK := hS.1.1
  show Sm i _ _
  rcases key_cases hS.1 a0 with hb | ⟨y, hy, rfl⟩
  · simp (disch := omega) only [↓mI_e, lit, ofN, bsm, nI_add, pk_mul, pk_sub, nI_e, nI_leE, nI_ltE, nI_mI, mI_nI, mI_lt, nlt_mI, mI_le, nle_mI, nI_addm, sh_b, bI_0, bI_1, bI_bI, ckZ_b, ckZ_n0, ckZ_n1, stIe, stJe, stZ_n0, stZ_n1, rm_nI, dv_nI, if_pos, if_neg, rf0, rf1, rf5, rf6, rf7, rf8, rf9, rf20, rf23, rf24, rf25, rf26, rf29, rf31, rf33, rf34, rf35, rf37, rf38, rf41, rf42, rf43,  f_X11_row, k_X11_row_32, f_X12_row, k_X12_row_28, c_isKey_no hS hb, r_isKey_no hb, c_refuse, r_refuse]
    exact Sm_0 h _ _
  · rcases pk_ix a1 (n := KN (gA τ 1)) (by omega) with g | g | ⟨k, hk, rfl⟩
    · have g' : a1 < nI 0 := g
      simp (disch := omega) only [↓mI_e, lit, ofN, bsm, nI_add, pk_mul, pk_sub, nI_e, nI_leE, nI_ltE, nI_mI, mI_nI, mI_lt, nlt_mI, mI_le, nle_mI, nI_addm, sh_b, bI_0, bI_1, bI_bI, ckZ_b, ckZ_n0, ckZ_n1, stIe, stJe, stZ_n0, stZ_n1, rm_nI, dv_nI, if_pos, if_neg, rf0, rf1, rf5, rf6, rf7, rf8, rf9, rf20, rf23, rf24, rf25, rf26, rf29, rf31, rf33, rf34, rf35, rf37, rf38, rf41, rf42, rf43,  f_X11_row, k_X11_row_32, f_X12_row, k_X12_row_28, c_isKey_yes hS hy, r_isKey_y hS.1 hy, g', if_true, c_refuse, r_refuse]
      exact Sm_0 h _ _
    · have g3 : ¬ a1 < nI (KN (gA τ 1)) := Int32.not_lt.mpr g
      simp (disch := omega) only [↓mI_e, lit, ofN, bsm, nI_add, pk_mul, pk_sub, nI_e, nI_leE, nI_ltE, nI_mI, mI_nI, mI_lt, nlt_mI, mI_le, nle_mI, nI_addm, sh_b, bI_0, bI_1, bI_bI, ckZ_b, ckZ_n0, ckZ_n1, stIe, stJe, stZ_n0, stZ_n1, rm_nI, dv_nI, if_pos, if_neg, rf0, rf1, rf5, rf6, rf7, rf8, rf9, rf20, rf23, rf24, rf25, rf26, rf29, rf31, rf33, rf34, rf35, rf37, rf38, rf41, rf42, rf43,  f_X11_row, k_X11_row_32, f_X12_row, k_X12_row_28, c_isKey_yes hS hy, r_isKey_y hS.1 hy, c02, w_0 wM_w, e6, lr1, eK (gA τ 1), g3, if_false, c_refuse, r_refuse, ite_self]
      exact Sm_0 h _ _
    · obtain ⟨gr, h1, h2⟩ := r_laysRow hS.1 hy
      simp (disch := omega) only [↓mI_e, lit, ofN, bsm, nI_add, pk_mul, pk_sub, nI_e, nI_leE, nI_ltE, nI_mI, mI_nI, mI_lt, nlt_mI, mI_le, nle_mI, nI_addm, sh_b, bI_0, bI_1, bI_bI, ckZ_b, ckZ_n0, ckZ_n1, stIe, stJe, stZ_n0, stZ_n1, rm_nI, dv_nI, if_pos, if_neg, rf0, rf1, rf5, rf6, rf7, rf8, rf9, rf20, rf23, rf24, rf25, rf26, rf29, rf31, rf33, rf34, rf35, rf37, rf38, rf41, rf42, rf43,  f_X11_row, k_X11_row_32, f_X12_row, k_X12_row_28, c_isKey_yes hS hy, r_isKey_y hS.1 hy, c02, w_0 wM_w, e6, lr1, eK (gA τ 1), c_keeperAlong wM_w hS hy hk, h1, lr9, gA_sA, if_true, h2 k hk, c_answer, r_gives]
      exact Sm_9 h _ _ _
theorem sim_places (i : Nat) : SIM_places (Rel i) (Rel (i + 6)) := by
  intro a0 σ τ h
  have hS := h.2.2.2.2.1.1
  have hY := hS.1.2.1
  show Sm i _ _
  rcases key_cases hS.1 a0 with hb | ⟨y, hy, rfl⟩
  · simp (disch := omega) only [↓mI_e, lit, ofN, bsm, nI_add, pk_mul, pk_sub, nI_e, nI_leE, nI_ltE, nI_mI, mI_nI, mI_lt, nlt_mI, mI_le, nle_mI, nI_addm, sh_b, bI_0, bI_1, bI_bI, ckZ_b, ckZ_n0, ckZ_n1, stIe, stJe, stZ_n0, stZ_n1, rm_nI, dv_nI, if_pos, if_neg, rf0, rf1, rf5, rf6, rf7, rf8, rf9, rf20, rf23, rf24, rf25, rf26, rf29, rf31, rf33, rf34, rf35, rf37, rf38, rf41, rf42, rf43,  f_X11_places, k_X11_places_32, f_X12_places, k_X12_places_25, c_isKey_no hS hb, r_isKey_no hb, c_refuse, r_refuse]
    exact Sm_0 h _ _
  · obtain ⟨p, gr, h1, h2, _⟩ := r_placesOf hS.1 hy
    have e : gA σ (wM + 7) y = p := bt_ext (fun k _ => (hS.2.2.2.2.2.2.1 y hy k).trans (h2 k).symm)
    simp (disch := omega) only [↓mI_e, lit, ofN, bsm, nI_add, pk_mul, pk_sub, nI_e, nI_leE, nI_ltE, nI_mI, mI_nI, mI_lt, nlt_mI, mI_le, nle_mI, nI_addm, sh_b, bI_0, bI_1, bI_bI, ckZ_b, ckZ_n0, ckZ_n1, stIe, stJe, stZ_n0, stZ_n1, rm_nI, dv_nI, if_pos, if_neg, rf0, rf1, rf5, rf6, rf7, rf8, rf9, rf20, rf23, rf24, rf25, rf26, rf29, rf31, rf33, rf34, rf35, rf37, rf38, rf41, rf42, rf43,  f_X11_places, k_X11_places_32, f_X12_places, k_X12_places_25, c_isKey_yes hS hy, r_isKey_y hS.1 hy, c02, w_0 wM_w, ws_5 wM_w, lw7 wM_w, e, h1, c_answer, r_gives]
    exact Sm_9 h _ _ _
theorem c_whether (b : Bool) (σ : ST) : f_X11_answerWhether 0 (bI b) σ = some (bI b, sI σ 0 14 (nI 0)) := by cases b <;> rfl
theorem sim_reach (i : Nat) : SIM_reach (Rel i) (Rel (i + 6)) := by
  intro a0 a1 σ τ h
  have hS := h.2.2.2.2.1.1
  have hU := h.2.2.2.2.1.2.1
  have hK := hS.1.1
  show Sm i _ _
  rcases keeper_cases hS.1 a0 with hb | ⟨a, ha, rfl⟩
  · simp (disch := omega) only [↓mI_e, lit, ofN, bsm, nI_add, pk_mul, pk_sub, nI_e, nI_leE, nI_ltE, nI_mI, mI_nI, mI_lt, nlt_mI, mI_le, nle_mI, nI_addm, sh_b, bI_0, bI_1, bI_bI, ckZ_b, ckZ_n0, ckZ_n1, stIe, stJe, stZ_n0, stZ_n1, rm_nI, dv_nI, if_pos, if_neg, rf0, rf1, rf5, rf6, rf7, rf8, rf9, rf20, rf23, rf24, rf25, rf26, rf29, rf31, rf33, rf34, rf35, rf37, rf38, rf41, rf42, rf43,  f_X11_reach, k_X11_reach_16, f_X12_reach, k_X12_reach_31, k_X12_reach_37, k_X12_reach_42, c_isKeeper_no hS hb, r_isKeeper_no hb, c_refuse, r_refuse]
    exact Sm_0 h _ _
  · rcases keeper_cases hS.1 a1 with hb | ⟨b, hb, rfl⟩
    · simp (disch := omega) only [↓mI_e, lit, ofN, bsm, nI_add, pk_mul, pk_sub, nI_e, nI_leE, nI_ltE, nI_mI, mI_nI, mI_lt, nlt_mI, mI_le, nle_mI, nI_addm, sh_b, bI_0, bI_1, bI_bI, ckZ_b, ckZ_n0, ckZ_n1, stIe, stJe, stZ_n0, stZ_n1, rm_nI, dv_nI, if_pos, if_neg, rf0, rf1, rf5, rf6, rf7, rf8, rf9, rf20, rf23, rf24, rf25, rf26, rf29, rf31, rf33, rf34, rf35, rf37, rf38, rf41, rf42, rf43,  f_X11_reach, k_X11_reach_16, f_X12_reach, k_X12_reach_31, k_X12_reach_37, k_X12_reach_42, c_isKeeper_yes hS ha, r_isKeeper_y hS.1 ha, c_isKeeper_no hS hb, r_isKeeper_no hb, c_refuse, r_refuse]
      exact Sm_0 h _ _
    · simp (disch := omega) only [↓mI_e, lit, ofN, bsm, nI_add, pk_mul, pk_sub, nI_e, nI_leE, nI_ltE, nI_mI, mI_nI, mI_lt, nlt_mI, mI_le, nle_mI, nI_addm, sh_b, bI_0, bI_1, bI_bI, ckZ_b, ckZ_n0, ckZ_n1, stIe, stJe, stZ_n0, stZ_n1, rm_nI, dv_nI, if_pos, if_neg, rf0, rf1, rf5, rf6, rf7, rf8, rf9, rf20, rf23, rf24, rf25, rf26, rf29, rf31, rf33, rf34, rf35, rf37, rf38, rf41, rf42, rf43,  f_X11_reach, k_X11_reach_16, f_X12_reach, k_X12_reach_31, k_X12_reach_37, k_X12_reach_42, c_isKeeper_yes hS ha, r_isKeeper_y hS.1 ha, c_isKeeper_yes hS hb, r_isKeeper_y hS.1 hb, c02, c_reaches hU, r_doReach, c_whether, r_gives]
      cases rch (gA τ 1) a b
      · exact Sm_0 h _ _
      · exact Sm_0 h _ _
theorem sim_like (i : Nat) : SIM_like (Rel i) (Rel (i + 6)) := by
  intro a0 a1 a2 σ τ h
  have hS := h.2.2.2.2.1.1
  have hH := h.2.2.2.2.1.2.2.2.2.2.1
  have hK := hS.1.1
  have hY := hS.1.2.1
  show Sm i _ _
  rcases keeper_cases hS.1 a0 with hb | ⟨a, ha, rfl⟩
  · simp (disch := omega) only [↓mI_e, lit, ofN, bsm, nI_add, pk_mul, pk_sub, nI_e, nI_leE, nI_ltE, nI_mI, mI_nI, mI_lt, nlt_mI, mI_le, nle_mI, nI_addm, sh_b, bI_0, bI_1, bI_bI, ckZ_b, ckZ_n0, ckZ_n1, stIe, stJe, stZ_n0, stZ_n1, rm_nI, dv_nI, if_pos, if_neg, rf0, rf1, rf5, rf6, rf7, rf8, rf9, rf20, rf23, rf24, rf25, rf26, rf29, rf31, rf33, rf34, rf35, rf37, rf38, rf41, rf42, rf43,  f_X11_like, k_X11_like_24, f_X12_like, k_X12_like_49, k_X12_like_55, k_X12_like_60, c_isKeeper_no hS hb, r_isKeeper_no hb, c_refuse, r_refuse]
    exact Sm_0 h _ _
  · rcases keeper_cases hS.1 a1 with hb | ⟨b, hb, rfl⟩
    · simp (disch := omega) only [↓mI_e, lit, ofN, bsm, nI_add, pk_mul, pk_sub, nI_e, nI_leE, nI_ltE, nI_mI, mI_nI, mI_lt, nlt_mI, mI_le, nle_mI, nI_addm, sh_b, bI_0, bI_1, bI_bI, ckZ_b, ckZ_n0, ckZ_n1, stIe, stJe, stZ_n0, stZ_n1, rm_nI, dv_nI, if_pos, if_neg, rf0, rf1, rf5, rf6, rf7, rf8, rf9, rf20, rf23, rf24, rf25, rf26, rf29, rf31, rf33, rf34, rf35, rf37, rf38, rf41, rf42, rf43,  f_X11_like, k_X11_like_24, f_X12_like, k_X12_like_49, k_X12_like_55, k_X12_like_60, c_isKeeper_yes hS ha, r_isKeeper_y hS.1 ha, c_isKeeper_no hS hb, r_isKeeper_no hb, c_refuse, r_refuse]
      exact Sm_0 h _ _
    · rcases key_cases hS.1 a2 with hc | ⟨y, hy, rfl⟩
      · simp (disch := omega) only [↓mI_e, lit, ofN, bsm, nI_add, pk_mul, pk_sub, nI_e, nI_leE, nI_ltE, nI_mI, mI_nI, mI_lt, nlt_mI, mI_le, nle_mI, nI_addm, sh_b, bI_0, bI_1, bI_bI, ckZ_b, ckZ_n0, ckZ_n1, stIe, stJe, stZ_n0, stZ_n1, rm_nI, dv_nI, if_pos, if_neg, rf0, rf1, rf5, rf6, rf7, rf8, rf9, rf20, rf23, rf24, rf25, rf26, rf29, rf31, rf33, rf34, rf35, rf37, rf38, rf41, rf42, rf43,  f_X11_like, k_X11_like_24, f_X12_like, k_X12_like_49, k_X12_like_55, k_X12_like_60, c_isKeeper_yes hS ha, r_isKeeper_y hS.1 ha, c_isKeeper_yes hS hb, r_isKeeper_y hS.1 hb, c_isKey_no hS hc, r_isKey_no hc, c_refuse, r_refuse]
        exact Sm_0 h _ _
      · simp (disch := omega) only [↓mI_e, lit, ofN, bsm, nI_add, pk_mul, pk_sub, nI_e, nI_leE, nI_ltE, nI_mI, mI_nI, mI_lt, nlt_mI, mI_le, nle_mI, nI_addm, sh_b, bI_0, bI_1, bI_bI, ckZ_b, ckZ_n0, ckZ_n1, stIe, stJe, stZ_n0, stZ_n1, rm_nI, dv_nI, if_pos, if_neg, rf0, rf1, rf5, rf6, rf7, rf8, rf9, rf20, rf23, rf24, rf25, rf26, rf29, rf31, rf33, rf34, rf35, rf37, rf38, rf41, rf42, rf43,  f_X11_like, k_X11_like_24, f_X12_like, k_X12_like_49, k_X12_like_55, k_X12_like_60, c_isKeeper_yes hS ha, r_isKeeper_y hS.1 ha, c_isKeeper_yes hS hb, r_isKeeper_y hS.1 hb, c_isKey_yes hS hy, r_isKey_y hS.1 hy, c02, c_areLike wM_w hH, f_X12_thingOf, r_areLike, c_whether, r_gives]
        unfold tb
        cases lk (gA τ 1) (30 + 12 * (6 * a + y)) (30 + 12 * (6 * b + y)) 12
        · exact Sm_0 h _ _
        · exact Sm_0 h _ _
