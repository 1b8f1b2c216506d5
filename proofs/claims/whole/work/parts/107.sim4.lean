/-! CALLS THAT CHANGE OTHER THINGS THAN THE WORLD -/
theorem sI_comm (σ : ST) {x k x' k' : Nat} (h : ¬ (x = x' ∧ k = k')) (v u : Int32) : sI (sI σ x k v) x' k' u = sI (sI σ x' k' u) x k v := by
  have e : ∀ y j, gI (sI (sI σ x k v) x' k' u) y j = gI (sI (sI σ x' k' u) x k v) y j := fun y j => by
    rw [gI_sI, gI_sI, gI_sI, gI_sI]
    by_cases a : y = x' ∧ j = k'
    · by_cases b : y = x ∧ j = k
      · exact absurd ⟨b.1.symm.trans a.1, b.2.symm.trans a.2⟩ h
      · rw [if_pos a, if_neg b, if_pos a]
    · by_cases b : y = x ∧ j = k
      · rw [if_neg a, if_pos b, if_pos b]
      · rw [if_neg a, if_neg b, if_neg b, if_neg a]
  have e1 : (sI (sI σ x k v) x' k' u).1 = (sI (sI σ x' k' u) x k v).1 := funext fun y => funext fun j => e y j
  exact Prod.ext e1 rfl
theorem R2_c {σ τ σ1 τ1 : ST} (h : R2 σ τ) (hI : ∀ x k, 102 ≤ x → x < 110 → gI σ1 x k = gI σ x k) (hB : ∀ x, 102 ≤ x → x < 110 → gB σ1 x = gB σ x) (h3 : gA τ1 3 = gA τ 3) (h4 : gA τ1 4 = gA τ 4) (h5 : gB τ1 5 = gB τ 5) : R2 σ1 τ1 := by
  intro t ht
  have h1 := h t ht
  unfold R2t at h1 ⊢
  rw [hI _ _ (by omega) (by omega), hI _ _ (by omega) (by omega), hI _ _ (by omega) (by omega), hB _ (by omega) (by omega), h3, h4, h5]
  exact h1
theorem R3_c {σ τ σ1 τ1 : ST} (h : R3 σ τ) (hI : ∀ k, gI σ1 2 k = gI σ 2 k) (hA : gA σ1 3 = gA σ 3) (h10 : gI τ1 0 10 = gI τ 0 10) (h16 : gI τ1 0 16 = gI τ 0 16) (h17 : gI τ1 0 17 = gI τ 0 17) (h6 : gA τ1 6 = gA τ 6) : R3 σ1 τ1 := by
  unfold R3 at h ⊢
  rw [hI, hI, hI, hA, h10, h16, h17, h6]; exact h
theorem R4_c {σ τ σ1 τ1 : ST} (h : R4 σ τ) (h18 : gI σ1 0 18 = gI σ 0 18) (h19 : gI σ1 0 19 = gI σ 0 19) (h78 : gI σ1 78 1 = gI σ 78 1) (h100 : gA σ1 100 = gA σ 100) (h79 : gA σ1 79 = gA σ 79) (r32 : gI τ1 0 32 = gI τ 0 32) (r28 : gI τ1 0 28 = gI τ 0 28) (r44 : gI τ1 0 44 = gI τ 0 44) (r14 : gA τ1 14 = gA τ 14) (r22 : gA τ1 22 = gA τ 22) : R4 σ1 τ1 := by
  unfold R4 at h ⊢
  rw [h18, h19, h78, h100, h79, r32, r28, r44, r14, r22]; exact h
theorem RM_c {B B2 : Nat} {σ τ σ1 τ1 : ST} (h : RM B σ τ) (hBB : B ≤ B2) (h17 : gI σ1 0 17 = gI σ 0 17) (h46 : gI τ1 0 46 = gI τ 0 46) (hc : ∀ x, 110 ≤ x → x < 194 → (∀ k, gI σ1 x k = gI σ x k) ∧ (∀ k, gJ σ1 x k = gJ σ x k) ∧ gA σ1 x = gA σ x ∧ gB σ1 x = gB σ x) (ha : ∀ k, 4850 ≤ k → k < 19400 → gA τ1 1 k = gA τ 1 k) (hn : gB τ1 2 = gB τ 2) : RM B2 σ1 τ1 := by
  obtain ⟨n, h1, h2, h3, h4⟩ := h
  refine ⟨n, h1, by rw [h17]; exact h2, by rw [h46]; exact h3, fun i hi => ?_⟩
  rw [wv_same (fun x a b => hc x (by omega) (by omega)), hn]
  exact RelW_congr (fun k hk => ha _ (by omega) (by omega)) (fun _ _ => rfl) (RelW_mono hBB (h4 i hi))
/-- the trays' frame -/
theorem Rel_t {i : Nat} {σ τ σ1 τ1 : ST} (h : Rel i σ τ) (h1 : R1 σ1 τ1) (h2 : R2 σ1 τ1) (hσ : Fr I2c A2c σ σ1) (hτ : Fr I2r A2r τ τ1) : Rel (i + 6) σ1 τ1 := by
  obtain ⟨_, _, h3, h4, h5, h6⟩ := h
  have cI : ∀ x k, ¬ I2c x k → gI σ1 x k = gI σ x k := fun x k a => (hσ.1 x k a).1
  have cA : ∀ x, ¬ A2c x → gA σ1 x = gA σ x := fun x a => (hσ.2 x a).1
  have tI : ∀ k, k ≠ 2 → gI τ1 0 k = gI τ 0 k := fun k a => (hτ.1 0 k (fun q => a q.2)).1
  have tA : ∀ x, ¬ A2r x → gA τ1 x = gA τ x := fun x a => (hτ.2 x a).1
  have n1 : ∀ x k, x ≠ 0 → (x < 102 ∨ 110 ≤ x) → ¬ I2c x k := fun x k a b q => by rcases q with q | q <;> omega
  have n2 : ∀ x, (x < 102 ∨ 110 ≤ x) → ¬ A2c x := fun x b q => by have := q.1; have := q.2; omega
  have e1 : gA τ1 1 = gA τ 1 := tA 1 (fun q => by rcases q with q | q | q <;> omega)
  have e2 : gB τ1 2 = gB τ 2 := (hτ.2 2 (fun q => by rcases q with q | q | q <;> omega)).2
  refine ⟨h1, h2, R3_c h3 (fun k => cI 2 k (n1 2 k (by decide) (by omega))) (cA 3 (n2 3 (by omega))) (tI 10 (by decide)) (tI 16 (by decide)) (tI 17 (by decide)) (tA 6 (fun q => by rcases q with q | q | q <;> omega)), R4_c h4 (cI 0 18 (fun q => by rcases q with q | q <;> omega)) (cI 0 19 (fun q => by rcases q with q | q <;> omega)) (cI 78 1 (n1 78 1 (by decide) (by omega))) (cA 100 (n2 100 (by omega))) (cA 79 (n2 79 (by omega))) (tI 32 (by decide)) (tI 28 (by decide)) (tI 44 (by decide)) (tA 14 (fun q => by rcases q with q | q | q <;> omega)) (tA 22 (fun q => by rcases q with q | q | q <;> omega)), ?_, RM_c h6 (by omega) (cI 0 17 (fun q => by rcases q with q | q <;> omega)) (tI 46 (by decide)) (fun x a b => ⟨fun k => cI x k (n1 x k (by omega) (by omega)), fun k => (hσ.1 x k (n1 x k (by omega) (by omega))).2, cA x (n2 x (by omega)), (hσ.2 x (n2 x (by omega))).2⟩) (fun k _ _ => by rw [e1]) e2⟩
  have ew : wv σ1 wM = wv σ wM := wv_same (fun x a b => by
    unfold wM at a b
    exact ⟨fun k => cI x k (n1 x k (by omega) (by omega)), fun k => (hσ.1 x k (n1 x k (by omega) (by omega))).2, cA x (n2 x (by omega)), (hσ.2 x (n2 x (by omega))).2⟩)
  rw [ew, e1, e2]
  exact RelW_mono (by omega) h5
theorem sim_tray' (i : Nat) : SIM_tray (Rel i) (Rel (i + 6)) := by
  intro a0 a1 a2 σ τ h
  obtain ⟨r, σ1, τ1, q1, q2, q3, q4, q5, q6⟩ := sim_tray a0 a1 a2 σ τ h.1 h.2.1
  exact ⟨r, σ1, τ1, q1, q2, Rel_t h q3 q4 q5 q6⟩
theorem tray_cases (a : Int32) : (a < 0 ∨ nI 4 ≤ a) ∨ ∃ t, t < 4 ∧ a = nI t := ticket_cases a
theorem c_isTray_no {a : Int32} (h : a < 0 ∨ nI 4 ≤ a) (σ : ST) : f_X11_isTray 0 a σ = some (nI 0, σ) := by
  rw [c_isTray, if_pos (show a < 0 ∨ 4 ≤ a from h)]; rfl
theorem c_isTray_y {t : Nat} (h : t < 4) (σ : ST) : f_X11_isTray 0 (nI t) σ = some (nI 1, σ) := by
  rw [c_isTray, if_neg (fun q => q.elim (nI_pos (by omega)) (nI_ge h (by decide)))]; rfl
theorem r_isTray_no {a : Int32} (h : a < 0 ∨ nI 4 ≤ a) (τ : ST) : f_X12_isTray a τ = some (nI 0, τ) := by
  rw [r_isTray, if_pos (show a < 0 ∨ 4 ≤ a from h)]; rfl
theorem r_isTray_y {t : Nat} (h : t < 4) (τ : ST) : f_X12_isTray (nI t) τ = some (nI 1, τ) := by
  rw [r_isTray, if_neg (fun q => q.elim (nI_pos (by omega)) (nI_ge h (by decide)))]; rfl
/-- what a place of a tray is, on both sides -/
theorem place_both {σ τ : ST} (h : R2 σ τ) (a b : Int32) : (∃ v, 1 ≤ v ∧ v ≤ 3 ∧ f_X11_placeStatus 0 a b σ = some (nI v, σ) ∧ f_X12_wrongPlace 0 a b τ = some (nI v, τ)) ∨ ∃ t p m s, t < 4 ∧ a = nI t ∧ b = nI p ∧ p < m ∧ m ≤ 60 ∧ s ≤ 3 ∧ f_X11_placeStatus 0 a b σ = some (nI 0, σ) ∧ f_X12_wrongPlace 0 a b τ = some (nI 0, τ) ∧ gI σ (102 + 2 * t) 2 = nI s ∧ gA τ 3 t = nI s ∧ gI σ (102 + 2 * t) 1 = 1 ∧ gI σ (102 + 2 * t) 3 = nI m ∧ gA τ 4 t = nI m ∧ ∀ k, k < m → gB σ (103 + 2 * t) k = gB τ 5 (60 * t + k) := by
  rcases tray_cases a with ha | ⟨t, ht, rfl⟩
  · refine Or.inl ⟨1, by omega, by omega, ?_, ?_⟩
    · simp (disch := omega) only [↓mI_e, lit, ofN, bsm, nI_add, pk_mul, pk_sub, nI_e, nI_leE, nI_ltE, nI_mI, mI_nI, mI_lt, nlt_mI, mI_le, nle_mI, nI_addm, sh_b, bI_0, bI_1, bI_bI, ckZ_b, ckZ_n0, ckZ_n1, stIe, stJe, stZ_n0, stZ_n1, rm_nI, dv_nI, if_true, if_false, if_pos, if_neg, rf0, rf1, rf5, rf6, rf7, rf8, rf9, rf20, rf23, rf24, rf25, rf26, rf29, rf31, rf33, rf34, rf35, rf37, rf38, rf41, rf42, rf43,  f_X11_placeStatus, k_X11_placeStatus_41, k_X11_placeStatus_46, c_isTray_no ha]
    · simp (disch := omega) only [↓mI_e, lit, ofN, bsm, nI_add, pk_mul, pk_sub, nI_e, nI_leE, nI_ltE, nI_mI, mI_nI, mI_lt, nlt_mI, mI_le, nle_mI, nI_addm, sh_b, bI_0, bI_1, bI_bI, ckZ_b, ckZ_n0, ckZ_n1, stIe, stJe, stZ_n0, stZ_n1, rm_nI, dv_nI, if_true, if_false, if_pos, if_neg, rf0, rf1, rf5, rf6, rf7, rf8, rf9, rf20, rf23, rf24, rf25, rf26, rf29, rf31, rf33, rf34, rf35, rf37, rf38, rf41, rf42, rf43,  f_X12_wrongPlace, k_X12_wrongPlace_39, k_X12_wrongPlace_44, r_isTray_no ha]
  · have e1 := c_tray_of ht
    rcases h t ht with ⟨g1, g2⟩ | ⟨g1, m, s, hm, hs, q3, q4, q5, q6, q7⟩
    · have g1 : gI σ (102 + 2 * t) 1 = nI 0 := g1
      have g2 : gA τ 4 t = mI := g2
      refine Or.inl ⟨2, by omega, by omega, ?_, ?_⟩
      · simp (disch := omega) only [↓mI_e, lit, ofN, bsm, nI_add, pk_mul, pk_sub, nI_e, nI_leE, nI_ltE, nI_mI, mI_nI, mI_lt, nlt_mI, mI_le, nle_mI, nI_addm, sh_b, bI_0, bI_1, bI_bI, ckZ_b, ckZ_n0, ckZ_n1, stIe, stJe, stZ_n0, stZ_n1, rm_nI, dv_nI, if_true, if_false, if_pos, if_neg, rf0, rf1, rf5, rf6, rf7, rf8, rf9, rf20, rf23, rf24, rf25, rf26, rf29, rf31, rf33, rf34, rf35, rf37, rf38, rf41, rf42, rf43,  f_X11_placeStatus, k_X11_placeStatus_41, k_X11_placeStatus_46, c_isTray_y ht, e1, g1]
      · simp (disch := omega) only [↓mI_e, lit, ofN, bsm, nI_add, pk_mul, pk_sub, nI_e, nI_leE, nI_ltE, nI_mI, mI_nI, mI_lt, nlt_mI, mI_le, nle_mI, nI_addm, sh_b, bI_0, bI_1, bI_bI, ckZ_b, ckZ_n0, ckZ_n1, stIe, stJe, stZ_n0, stZ_n1, rm_nI, dv_nI, if_true, if_false, if_pos, if_neg, rf0, rf1, rf5, rf6, rf7, rf8, rf9, rf20, rf23, rf24, rf25, rf26, rf29, rf31, rf33, rf34, rf35, rf37, rf38, rf41, rf42, rf43,  f_X12_wrongPlace, k_X12_wrongPlace_39, k_X12_wrongPlace_44, r_isTray_y ht, lr4, g2]
    · have g1' : gI σ (102 + 2 * t) 1 = nI 1 := g1
      rcases pk_ix b (n := m) (by omega) with hb | hb | ⟨p, hp, rfl⟩
      · have hb : b < nI 0 := hb
        refine Or.inl ⟨3, by omega, by omega, ?_, ?_⟩
        · simp (disch := omega) only [↓mI_e, lit, ofN, bsm, nI_add, pk_mul, pk_sub, nI_e, nI_leE, nI_ltE, nI_mI, mI_nI, mI_lt, nlt_mI, mI_le, nle_mI, nI_addm, sh_b, bI_0, bI_1, bI_bI, ckZ_b, ckZ_n0, ckZ_n1, stIe, stJe, stZ_n0, stZ_n1, rm_nI, dv_nI, if_true, if_false, if_pos, if_neg, rf0, rf1, rf5, rf6, rf7, rf8, rf9, rf20, rf23, rf24, rf25, rf26, rf29, rf31, rf33, rf34, rf35, rf37, rf38, rf41, rf42, rf43,  f_X11_placeStatus, k_X11_placeStatus_41, k_X11_placeStatus_46, c_isTray_y ht, e1, g1', hb]
        · simp (disch := omega) only [↓mI_e, lit, ofN, bsm, nI_add, pk_mul, pk_sub, nI_e, nI_leE, nI_ltE, nI_mI, mI_nI, mI_lt, nlt_mI, mI_le, nle_mI, nI_addm, sh_b, bI_0, bI_1, bI_bI, ckZ_b, ckZ_n0, ckZ_n1, stIe, stJe, stZ_n0, stZ_n1, rm_nI, dv_nI, if_true, if_false, if_pos, if_neg, rf0, rf1, rf5, rf6, rf7, rf8, rf9, rf20, rf23, rf24, rf25, rf26, rf29, rf31, rf33, rf34, rf35, rf37, rf38, rf41, rf42, rf43,  f_X12_wrongPlace, k_X12_wrongPlace_39, k_X12_wrongPlace_44, r_isTray_y ht, lr4, q5, hb]
      · have hb3 : ¬ b < nI m := Int32.not_lt.mpr hb
        refine Or.inl ⟨3, by omega, by omega, ?_, ?_⟩
        · simp (disch := omega) only [↓mI_e, lit, ofN, bsm, nI_add, pk_mul, pk_sub, nI_e, nI_leE, nI_ltE, nI_mI, mI_nI, mI_lt, nlt_mI, mI_le, nle_mI, nI_addm, sh_b, bI_0, bI_1, bI_bI, ckZ_b, ckZ_n0, ckZ_n1, stIe, stJe, stZ_n0, stZ_n1, rm_nI, dv_nI, if_true, if_false, if_pos, if_neg, rf0, rf1, rf5, rf6, rf7, rf8, rf9, rf20, rf23, rf24, rf25, rf26, rf29, rf31, rf33, rf34, rf35, rf37, rf38, rf41, rf42, rf43,  f_X11_placeStatus, k_X11_placeStatus_41, k_X11_placeStatus_46, c_isTray_y ht, e1, g1', q3, hb3, ite_self]
        · simp (disch := omega) only [↓mI_e, lit, ofN, bsm, nI_add, pk_mul, pk_sub, nI_e, nI_leE, nI_ltE, nI_mI, mI_nI, mI_lt, nlt_mI, mI_le, nle_mI, nI_addm, sh_b, bI_0, bI_1, bI_bI, ckZ_b, ckZ_n0, ckZ_n1, stIe, stJe, stZ_n0, stZ_n1, rm_nI, dv_nI, if_true, if_false, if_pos, if_neg, rf0, rf1, rf5, rf6, rf7, rf8, rf9, rf20, rf23, rf24, rf25, rf26, rf29, rf31, rf33, rf34, rf35, rf37, rf38, rf41, rf42, rf43,  f_X12_wrongPlace, k_X12_wrongPlace_39, k_X12_wrongPlace_44, r_isTray_y ht, lr4, q5, hb3, ite_self]
      · refine Or.inr ⟨t, p, m, s, ht, rfl, rfl, hp, hm, hs, ?_, ?_, q4, q6, g1, q3, q5, q7⟩
        · simp (disch := omega) only [↓mI_e, lit, ofN, bsm, nI_add, pk_mul, pk_sub, nI_e, nI_leE, nI_ltE, nI_mI, mI_nI, mI_lt, nlt_mI, mI_le, nle_mI, nI_addm, sh_b, bI_0, bI_1, bI_bI, ckZ_b, ckZ_n0, ckZ_n1, stIe, stJe, stZ_n0, stZ_n1, rm_nI, dv_nI, if_true, if_false, if_pos, if_neg, rf0, rf1, rf5, rf6, rf7, rf8, rf9, rf20, rf23, rf24, rf25, rf26, rf29, rf31, rf33, rf34, rf35, rf37, rf38, rf41, rf42, rf43,  f_X11_placeStatus, k_X11_placeStatus_41, k_X11_placeStatus_46, c_isTray_y ht, e1, g1', q3]
        · simp (disch := omega) only [↓mI_e, lit, ofN, bsm, nI_add, pk_mul, pk_sub, nI_e, nI_leE, nI_ltE, nI_mI, mI_nI, mI_lt, nlt_mI, mI_le, nle_mI, nI_addm, sh_b, bI_0, bI_1, bI_bI, ckZ_b, ckZ_n0, ckZ_n1, stIe, stJe, stZ_n0, stZ_n1, rm_nI, dv_nI, if_true, if_false, if_pos, if_neg, rf0, rf1, rf5, rf6, rf7, rf8, rf9, rf20, rf23, rf24, rf25, rf26, rf29, rf31, rf33, rf34, rf35, rf37, rf38, rf41, rf42, rf43,  f_X12_wrongPlace, k_X12_wrongPlace_39, k_X12_wrongPlace_44, r_isTray_y ht, lr4, q5]
theorem tr_l {t : Nat} (ht : t < 4) : LC.2.1 (102 + 2 * t) 0 = 103 + 2 * t ∧ LC.2.2.1 (103 + 2 * t) = 60 := ⟨(tr_at t ht).2.1, (tr_at t ht).2.2.1⟩
theorem sim_read (i : Nat) : SIM_read (Rel i) (Rel (i + 6)) := by
  intro a0 a1 σ τ h
  rcases place_both h.2.1 a0 a1 with ⟨v, hv1, hv3, h1, h2⟩ | ⟨t, p, m, s, ht, rfl, rfl, hp, hm, hs, h1, h2, _, _, _, _, _, q7⟩
  · refine ⟨-1, sI σ 0 14 (nI v), sI τ 0 2 (nI v), ?_, ?_, Rel_q h ((Sq.rf σ).sI _ rfl) ((Sc.rf τ).sI _ rfl) (by rw [gI_sI, gI_sI]; rfl) (fun _ _ => rfl)⟩
    · simp (disch := omega) only [↓mI_e, lit, ofN, bsm, nI_add, pk_mul, pk_sub, nI_e, nI_leE, nI_ltE, nI_mI, mI_nI, mI_lt, nlt_mI, mI_le, nle_mI, nI_addm, sh_b, bI_0, bI_1, bI_bI, ckZ_b, ckZ_n0, ckZ_n1, stIe, stJe, stZ_n0, stZ_n1, rm_nI, dv_nI, if_true, if_false, if_pos, if_neg, rf0, rf1, rf5, rf6, rf7, rf8, rf9, rf20, rf23, rf24, rf25, rf26, rf29, rf31, rf33, rf34, rf35, rf37, rf38, rf41, rf42, rf43,  f_X11_read, h1, c_refuse]
      rfl
    · simp (disch := omega) only [↓mI_e, lit, ofN, bsm, nI_add, pk_mul, pk_sub, nI_e, nI_leE, nI_ltE, nI_mI, mI_nI, mI_lt, nlt_mI, mI_le, nle_mI, nI_addm, sh_b, bI_0, bI_1, bI_bI, ckZ_b, ckZ_n0, ckZ_n1, stIe, stJe, stZ_n0, stZ_n1, rm_nI, dv_nI, if_true, if_false, if_pos, if_neg, rf0, rf1, rf5, rf6, rf7, rf8, rf9, rf20, rf23, rf24, rf25, rf26, rf29, rf31, rf33, rf34, rf35, rf37, rf38, rf41, rf42, rf43,  f_X12_read, k_X12_read_34, h2, gI_sI, and_self]
  · obtain ⟨l1, l2⟩ := tr_l ht
    refine ⟨gB τ 5 (60 * t + p), sI σ 0 14 (nI 0), sI τ 0 2 (nI 0), ?_, ?_, Rel_q h ((Sq.rf σ).sI _ rfl) ((Sc.rf τ).sI _ rfl) (by rw [gI_sI, gI_sI]; rfl) (fun _ _ => rfl)⟩
    · have l3 := lb (Λ := LC) (σ := sI σ 0 14 (nI 0)) (y := 103 + 2 * t) (k := p) 60 l2 (by omega) (by omega)
      simp (disch := omega) only [↓mI_e, lit, ofN, bsm, nI_add, pk_mul, pk_sub, nI_e, nI_leE, nI_ltE, nI_mI, mI_nI, mI_lt, nlt_mI, mI_le, nle_mI, nI_addm, sh_b, bI_0, bI_1, bI_bI, ckZ_b, ckZ_n0, ckZ_n1, stIe, stJe, stZ_n0, stZ_n1, rm_nI, dv_nI, if_true, if_false, if_pos, if_neg, rf0, rf1, rf5, rf6, rf7, rf8, rf9, rf20, rf23, rf24, rf25, rf26, rf29, rf31, rf33, rf34, rf35, rf37, rf38, rf41, rf42, rf43,  f_X11_read, h1, c_tray_of ht, l1, l3, gB_sI, q7 p hp]
    · simp (disch := omega) only [↓mI_e, lit, ofN, bsm, nI_add, pk_mul, pk_sub, nI_e, nI_leE, nI_ltE, nI_mI, mI_nI, mI_lt, nlt_mI, mI_le, nle_mI, nI_addm, sh_b, bI_0, bI_1, bI_bI, ckZ_b, ckZ_n0, ckZ_n1, stIe, stJe, stZ_n0, stZ_n1, rm_nI, dv_nI, if_true, if_false, if_pos, if_neg, rf0, rf1, rf5, rf6, rf7, rf8, rf9, rf20, rf23, rf24, rf25, rf26, rf29, rf31, rf33, rf34, rf35, rf37, rf38, rf41, rf42, rf43,  f_X12_read, k_X12_read_34, h2, gI_sI, and_self, lr5, gB_sI]
theorem sim_write (i : Nat) : SIM_write (Rel i) (Rel (i + 6)) := by
  intro a0 a1 a2 σ τ h
  rcases place_both h.2.1 a0 a1 with ⟨v, hv1, hv3, h1, h2⟩ | ⟨t, p, m, s, ht, rfl, rfl, hp, hm, hs, h1, h2, q4, q6, g1, q3, q5, q7⟩
  · have e : (nI v = nI 0) = False := by rw [nI_e (by omega) (by omega)]; exact eq_false (by omega)
    refine ⟨nI 0, sI σ 0 14 (nI v), sI τ 0 2 (nI v), ?_, ?_, Rel_q h ((Sq.rf σ).sI _ rfl) ((Sc.rf τ).sI _ rfl) (by rw [gI_sI, gI_sI]; rfl) (fun _ _ => rfl)⟩
    · simp (disch := omega) only [↓mI_e, lit, ofN, bsm, nI_add, pk_mul, pk_sub, nI_e, nI_leE, nI_ltE, nI_mI, mI_nI, mI_lt, nlt_mI, mI_le, nle_mI, nI_addm, sh_b, bI_0, bI_1, bI_bI, ckZ_b, ckZ_n0, ckZ_n1, stIe, stJe, stZ_n0, stZ_n1, rm_nI, dv_nI, if_true, if_false, if_pos, if_neg, rf0, rf1, rf5, rf6, rf7, rf8, rf9, rf20, rf23, rf24, rf25, rf26, rf29, rf31, rf33, rf34, rf35, rf37, rf38, rf41, rf42, rf43,  f_X11_write, h1, c_refused]
    · simp (disch := omega) only [↓mI_e, lit, ofN, bsm, nI_add, pk_mul, pk_sub, nI_e, nI_leE, nI_ltE, nI_mI, mI_nI, mI_lt, nlt_mI, mI_le, nle_mI, nI_addm, sh_b, bI_0, bI_1, bI_bI, ckZ_b, ckZ_n0, ckZ_n1, stIe, stJe, stZ_n0, stZ_n1, rm_nI, dv_nI, if_true, if_false, if_pos, if_neg, rf0, rf1, rf5, rf6, rf7, rf8, rf9, rf20, rf23, rf24, rf25, rf26, rf29, rf31, rf33, rf34, rf35, rf37, rf38, rf41, rf42, rf43,  f_X12_write, k_X12_write_34, h2, r_is]
  · obtain ⟨l1, l2⟩ := tr_l ht
    obtain ⟨x, hx⟩ : ∃ x : Int64, x = (if s = 0 then (((a2).toInt32).toInt8.toInt32).toInt64 else if s = 1 then (((a2).toInt32).toInt16.toInt32).toInt64 else if s = 2 then ((a2).toInt32).toInt64 else a2) := ⟨_, rfl⟩
    have ec : f_X9_cut (102 + 2 * t) a2 σ = some (x, σ) := by
      simp (disch := omega) only [↓mI_e, lit, ofN, bsm, nI_add, pk_mul, pk_sub, nI_e, nI_leE, nI_ltE, nI_mI, mI_nI, mI_lt, nlt_mI, mI_le, nle_mI, nI_addm, sh_b, bI_0, bI_1, bI_bI, ckZ_b, ckZ_n0, ckZ_n1, stIe, stJe, stZ_n0, stZ_n1, rm_nI, dv_nI, if_true, if_false, if_pos, if_neg, rf0, rf1, rf5, rf6, rf7, rf8, rf9, rf20, rf23, rf24, rf25, rf26, rf29, rf31, rf33, rf34, rf35, rf37, rf38, rf41, rf42, rf43,  f_X9_cut, q4]
      rw [hx]
      rcases (show s = 0 ∨ s = 1 ∨ s = 2 ∨ s = 3 by omega) with rfl | rfl | rfl | rfl <;> rfl
    have er : f_X12_cut a2 (nI s) τ = some (x, τ) := by
      simp (disch := omega) only [↓mI_e, lit, ofN, bsm, nI_add, pk_mul, pk_sub, nI_e, nI_leE, nI_ltE, nI_mI, mI_nI, mI_lt, nlt_mI, mI_le, nle_mI, nI_addm, sh_b, bI_0, bI_1, bI_bI, ckZ_b, ckZ_n0, ckZ_n1, stIe, stJe, stZ_n0, stZ_n1, rm_nI, dv_nI, if_true, if_false, if_pos, if_neg, rf0, rf1, rf5, rf6, rf7, rf8, rf9, rf20, rf23, rf24, rf25, rf26, rf29, rf31, rf33, rf34, rf35, rf37, rf38, rf41, rf42, rf43,  f_X12_cut, k_X12_cut_35]
      rw [hx]
      rcases (show s = 0 ∨ s = 1 ∨ s = 2 ∨ s = 3 by omega) with rfl | rfl | rfl | rfl <;> rfl
    have l3 := sb (Λ := LC) (σ := σ) (y := 103 + 2 * t) (k := p) (v := x) 60 l2 (by omega) (by omega)
    refine ⟨nI 1, sI (sB σ (103 + 2 * t) (vp_updL (gB σ (103 + 2 * t)) p x)) 0 14 (nI 0), sI (sB τ 5 (vp_updL (gB τ 5) (60 * t + p) x)) 0 2 (nI 0), ?_, ?_, ?_⟩
    · simp (disch := omega) only [↓mI_e, lit, ofN, bsm, nI_add, pk_mul, pk_sub, nI_e, nI_leE, nI_ltE, nI_mI, mI_nI, mI_lt, nlt_mI, mI_le, nle_mI, nI_addm, sh_b, bI_0, bI_1, bI_bI, ckZ_b, ckZ_n0, ckZ_n1, stIe, stJe, stZ_n0, stZ_n1, rm_nI, dv_nI, if_true, if_false, if_pos, if_neg, rf0, rf1, rf5, rf6, rf7, rf8, rf9, rf20, rf23, rf24, rf25, rf26, rf29, rf31, rf33, rf34, rf35, rf37, rf38, rf41, rf42, rf43,  f_X11_write, f_X9_keep, h1, c_tray_of ht, ec, l1, l3, c_allowed]
    · simp (disch := omega) only [↓mI_e, lit, ofN, bsm, nI_add, pk_mul, pk_sub, nI_e, nI_leE, nI_ltE, nI_mI, mI_nI, mI_lt, nlt_mI, mI_le, nle_mI, nI_addm, sh_b, bI_0, bI_1, bI_bI, ckZ_b, ckZ_n0, ckZ_n1, stIe, stJe, stZ_n0, stZ_n1, rm_nI, dv_nI, if_true, if_false, if_pos, if_neg, rf0, rf1, rf5, rf6, rf7, rf8, rf9, rf20, rf23, rf24, rf25, rf26, rf29, rf31, rf33, rf34, rf35, rf37, rf38, rf41, rf42, rf43,  f_X12_write, k_X12_write_34, h2, lr3, q6, er, sr5, r_is]
    · refine Rel_t h ⟨by rw [gI_sI, gI_sI]; rfl, h.1.2.1, h.1.2.2⟩ (fun u hu => ?_) (((Fr.rf σ).sB _ ⟨by omega, by omega⟩).sI _ (Or.inl ⟨rfl, rfl⟩)) (((Fr.rf τ).sB _ (Or.inr (Or.inr rfl))).sI _ ⟨rfl, rfl⟩)
      have h3 := h.2.1 u hu
      unfold R2t at h3 ⊢
      have e1 : ∀ k, gI (sI (sB σ (103 + 2 * t) (vp_updL (gB σ (103 + 2 * t)) p x)) 0 14 (nI 0)) (102 + 2 * u) k = gI σ (102 + 2 * u) k := fun k => by rw [gI_sI, if_neg (by omega)]; rfl
      rw [e1, e1, e1, gA_sI, gA_sI, gA_sB, gA_sB, gB_sI, gB_sI, gB_sB, gB_sB, if_pos rfl]
      rcases h3 with h3 | ⟨b1, m', s', b2, b3, b4, b5, b6, b7, b8⟩
      · exact Or.inl h3
      · refine Or.inr ⟨b1, m', s', b2, b3, b4, b5, b6, b7, fun k hk => ?_⟩
        have h8 := b8 k hk
        unfold vp_updL
        by_cases z : u = t
        · subst z
          rw [if_pos rfl]
          by_cases z2 : k = p
          · subst z2; rw [if_pos rfl, if_pos rfl]
          · rw [if_neg z2, if_neg (by omega)]; exact h8
        · rw [if_neg (by omega), if_neg (by omega)]; exact h8
/-! got -/
theorem Rel_got {i : Nat} {σ τ : ST} (h : Rel i σ τ) {R R' : Nat → Int32} {n : Nat} (hn : n ≤ 180) (hR : ∀ k, k < n → R k = R' k) : Rel i (sI (sA σ 100 R) 0 18 (nI n)) (sI (sA τ 14 R') 0 32 (nI n)) := by
  obtain ⟨h1, h2, h3, h4, h5, h6⟩ := h
  have ew : ∀ w, (w + 28 ≤ 100 ∨ 100 < w) → 0 < w → wv (sI (sA σ 100 R) 0 18 (nI n)) w = wv σ w := fun w hw hp => by rw [wv_sI_out _ (by omega), wv_sA_out _ (by omega)]
  refine ⟨⟨?_, h1.2.1, h1.2.2⟩, R2_c h2 (fun x k a b => by rw [gI_sI, if_neg (by omega)]; rfl) (fun _ _ _ => rfl) rfl rfl rfl, R3_c h3 (fun k => by rw [gI_sI, if_neg (by omega)]; rfl) rfl (by rw [gI_sI, if_neg (by omega)]; rfl) (by rw [gI_sI, if_neg (by omega)]; rfl) (by rw [gI_sI, if_neg (by omega)]; rfl) rfl, ⟨⟨n, hn, by rw [gI_sI, if_pos ⟨rfl, rfl⟩], by rw [gI_sI, if_pos ⟨rfl, rfl⟩], hR⟩, ?_, ?_⟩, ?_, ?_⟩
  · rw [gI_sI, if_neg (by omega), gI_sI, if_neg (by omega)]; exact h1.1
  · rw [gI_sI, if_neg (by omega), gI_sI, if_neg (by omega)]; exact h4.2.1
  · have e1 : gI (sI (sA σ 100 R) 0 18 (nI n)) 78 1 = gI σ 78 1 := by rw [gI_sI, if_neg (by omega)]; rfl
    have e2 : gI (sI (sA τ 14 R') 0 32 (nI n)) 0 44 = gI τ 0 44 := by rw [gI_sI, if_neg (by omega)]; rfl
    rw [e1, e2]; exact h4.2.2
  · rw [ew wM (by unfold wM; omega) (by unfold wM; omega)]; exact h5
  · obtain ⟨m, m1, m2, m3, m4⟩ := h6
    refine ⟨m, m1, by rw [gI_sI, if_neg (by omega)]; exact m2, by rw [gI_sI, if_neg (by omega)]; exact m3, fun j hj => ?_⟩
    rw [ew _ (by omega) (by omega)]
    exact m4 j hj
theorem r_get_loop {y : Nat} {n0 : Nat} (hn0 : n0 ≤ 180) (R0 : Nat → Int32) : ∀ (n k : Nat) (τ : ST), k ≤ n0 → n0 - k < n → gI τ 0 27 = nI n0 → gA τ 14 = (fun j => if j < k then gA τ 10 j else R0 j) → ∃ R, k_X12_get_67 n 0 (nI y) (nI k) τ = k_X12_get_67 1 0 (nI y) (nI n0) (sA τ 14 R) ∧ ∀ j, j < n0 → R j = gA τ 10 j := by
  intro n
  induction n with
  | zero => intros; omega
  | succ n ih =>
    intro k τ hk hn h27 h14
    by_cases e : k = n0
    · subst e
      refine ⟨gA τ 14, ?_, fun j hj => by rw [h14]; simp only []; rw [if_pos hj]⟩
      rw [sA_self, k_X12_get_67, k_X12_get_67]
      simp (disch := omega) only [↓mI_e, lit, ofN, bsm, nI_add, pk_mul, pk_sub, nI_e, nI_leE, nI_ltE, nI_mI, mI_nI, mI_lt, nlt_mI, mI_le, nle_mI, nI_addm, sh_b, bI_0, bI_1, bI_bI, ckZ_b, ckZ_n0, ckZ_n1, stIe, stJe, stZ_n0, stZ_n1, rm_nI, dv_nI, if_true, if_false, if_pos, if_neg, rf0, rf1, rf5, rf6, rf7, rf8, rf9, rf20, rf23, rf24, rf25, rf26, rf29, rf31, rf33, rf34, rf35, rf37, rf38, rf41, rf42, rf43,  h27]
    · rw [k_X12_get_67]
      simp (disch := omega) only [↓mI_e, lit, ofN, bsm, nI_add, pk_mul, pk_sub, nI_e, nI_leE, nI_ltE, nI_mI, mI_nI, mI_lt, nlt_mI, mI_le, nle_mI, nI_addm, sh_b, bI_0, bI_1, bI_bI, ckZ_b, ckZ_n0, ckZ_n1, stIe, stJe, stZ_n0, stZ_n1, rm_nI, dv_nI, if_true, if_false, if_pos, if_neg, rf0, rf1, rf5, rf6, rf7, rf8, rf9, rf20, rf23, rf24, rf25, rf26, rf29, rf31, rf33, rf34, rf35, rf37, rf38, rf41, rf42, rf43,  h27, lr10, sr14]
      obtain ⟨R, q1, q2⟩ := ih (k + 1) (sA τ 14 (upd (gA τ 14) k (gA τ 10 k))) (by omega) (by omega) h27 (by
        rw [gA_sA, if_pos rfl, gA_sA, if_neg (by decide), h14]
        funext j
        rw [upd_at]
        by_cases z : j = k
        · subst z; rw [if_pos rfl, if_pos (by omega)]
        · rw [if_neg z]
          by_cases z2 : j < k
          · rw [if_pos z2, if_pos (by omega)]
          · rw [if_neg z2, if_neg (by omega)])
      exact ⟨R, by rw [q1, sA_sA], q2⟩
theorem DL_congr {p q : Nat → Bool} {n : Nat} {R : Nat → Int32} {fr : Nat} {v u : Nat → Int32} (hp : ∀ d, d < n → p d = q d) (hv : ∀ d, d < n → p d = true → v d = u d) (h : DL p n R fr v) : DL q n R fr u := fun d hd hq => by
  have e : cnt q d = cnt p d := cnt_congr d (fun i hi => (hp i (by omega)).symm)
  rw [e, h d hd (by rw [hp d hd]; exact hq), hv d hd (by rw [hp d hd]; exact hq)]
theorem sum6_congr {f g : Nat → Int32} {a b : Nat} : ∀ n, (∀ k, k < n → f (a + k) = g (b + k)) → sum6 f a n = sum6 g b n
  | 0, _ => rfl
  | n + 1, h => by rw [sum6, sum6, sum6_congr n (fun k hk => h k (by omega)), h n (by omega)]
/-- the bits of a joined cell, for valuesIn -/
def jbits (s : Bool) (J : Nat → Int32) (k : Nat) : Int32 := if k < 6 then (if s then nI 0 else J k) else nI 0
theorem jbits_hi {s : Bool} {B : Nat} {gg : Nat → Nat} {J : Nat → Int32} (hg : ∀ k, k < 6 → gg k ≤ 30) (ht : TI s B gg J) : ∀ k, ∀ j, 30 ≤ j → bt (jbits s J k) j = false := by
  intro k j hj
  unfold jbits
  by_cases z : k < 6
  · rw [if_pos z]
    have h1 := ht k z
    have h2 := hg k z
    cases s
    · simp only [Bool.false_eq_true, if_false] at h1 ⊢
      cases q : bt (J k) j
      · rfl
      · have := h1.2 j q; omega
    · exact bt_n0 j
  · rw [if_neg z]; exact bt_n0 j
theorem jbits_0 {s : Bool} {B : Nat} {gg : Nat → Nat} {J : Nat → Int32} {k : Nat} (hk : k < 6) (hg : gg k = 0) (ht : TI s B gg J) : ∀ j, bt (jbits s J k) j = false := by
  intro j
  unfold jbits
  rw [if_pos hk]
  have h1 := ht k hk
  cases s
  · simp only [Bool.false_eq_true, if_false] at h1 ⊢
    cases q : bt (J k) j
    · rfl
    · have := h1.2 j q; omega
  · exact bt_n0 j
theorem jbits_CR {s : Bool} {σ : ST} {c i : Nat} {J : Nat → Int32} (h : CR s σ c i J) {k : Nat} (hk : k < 6) : gA σ (c + 1) (i * 6 + k) = jbits s J k := by
  unfold jbits
  rw [if_pos hk]
  have h1 := h k hk
  cases s
  · simp only [Bool.false_eq_true, if_false] at h1 ⊢; exact h1.1
  · simp only [if_true] at h1 ⊢; exact h1.1
/-- the values of the twins of J are the same on both sides -/
theorem vals_eq {B : Nat} {s : ST} {g : Nat → Int64} {f : Nat → Int32} (h : RelW B s f g) {y : Nat} (hy : y < 6) {J : Nat → Int32} (ht : TI (sm f y) B (fun k => gv f k y) J) {d : Nat} (hd : d < 180) (hp : std (jbits (sm f y) J) d = true) : gA s 27 (y * 180 + d) = f (vb y (d / 30) (d % 30 + 1)) ∧ vN (f (vb y (d / 30) (d % 30 + 1))) ≤ 1000 := by
  have hk : d / 30 < 6 := by omega
  have h1 := ht (d / 30) hk
  unfold std jbits at hp
  rw [if_pos hk] at hp
  cases hs : sm f y
  · rw [hs] at h1 hp
    simp only [Bool.false_eq_true, if_false] at h1 hp
    have h2 := h1.2 _ hp
    have h3 := h.2.2.2.2.1 y (d / 30) (d % 30) hy hk (by omega)
    rw [show y * 180 + d / 30 * 30 + d % 30 = y * 180 + d by omega] at h3
    exact h3
  · rw [hs] at hp
    simp only [if_true] at hp
    rw [bt_n0] at hp
    exact absurd hp (by decide)
theorem sim_get (i : Nat) (hi : i + 6 ≤ 3072) : SIM_get (Rel i) (Rel (i + 6)) := by
  intro a0 a1 a2 σ τ h
  have hW := h.2.2.2.2.1
  have hS := hW.1
  have hK := hS.1.1
  have hY := hS.1.2.1
  show Sm i _ _
  rcases key_cases hS.1 a0 with hb | ⟨y, hy, rfl⟩
  · simp (disch := omega) only [↓mI_e, lit, ofN, bsm, nI_add, pk_mul, pk_sub, nI_e, nI_leE, nI_ltE, nI_mI, mI_nI, mI_lt, nlt_mI, mI_le, nle_mI, nI_addm, sh_b, bI_0, bI_1, bI_bI, ckZ_b, ckZ_n0, ckZ_n1, stIe, stJe, stZ_n0, stZ_n1, rm_nI, dv_nI, if_true, if_false, if_pos, if_neg, rf0, rf1, rf5, rf6, rf7, rf8, rf9, rf20, rf23, rf24, rf25, rf26, rf29, rf31, rf33, rf34, rf35, rf37, rf38, rf41, rf42, rf43,  f_X11_get, k_X11_get_106, k_X11_get_24, f_X12_get, k_X12_get_28, c_isKey_no hS hb, r_isKey_no hb, c_refuse, r_refuse]
    exact Sm_0 h _ _
  · rcases keeper_cases hS.1 a1 with hb | ⟨a, ha, rfl⟩
    · simp (disch := omega) only [↓mI_e, lit, ofN, bsm, nI_add, pk_mul, pk_sub, nI_e, nI_leE, nI_ltE, nI_mI, mI_nI, mI_lt, nlt_mI, mI_le, nle_mI, nI_addm, sh_b, bI_0, bI_1, bI_bI, ckZ_b, ckZ_n0, ckZ_n1, stIe, stJe, stZ_n0, stZ_n1, rm_nI, dv_nI, if_true, if_false, if_pos, if_neg, rf0, rf1, rf5, rf6, rf7, rf8, rf9, rf20, rf23, rf24, rf25, rf26, rf29, rf31, rf33, rf34, rf35, rf37, rf38, rf41, rf42, rf43,  f_X11_get, k_X11_get_106, k_X11_get_24, f_X12_get, k_X12_get_28, c_isKey_yes hS hy, r_isKey_y hS.1 hy, c_isKeeper_no hS hb, r_isKeeper_no hb, c_refuse, r_refuse]
      exact Sm_0 h _ _
    · have main : ∀ x : Int32, (x = mI ∨ ∃ t, t < 4 ∧ x = nI t) → Sm i ((f_X10_collect wM (nI y) (nI a) x 97 σ).bind fun u9 => if u9.1 = nI 0 then some (mI, sI u9.2 0 14 (nI 7)) else ((f_X10_valuesIn wM 97 (nI 0) (nI y) 100 (nI 0) u9.2).bind fun u11 => (f_X7_isSum (wM + 1) (nI y) (sI u11.2 0 18 u11.1)).bind fun u13 => if u13.1 = nI 0 then some (gI u13.2 0 18, sI u13.2 0 14 (nI 0)) else ((f_X0_sumOf 97 (nI 0) u13.2).bind fun u15 => some (u15.1, sI u15.2 0 14 (nI 0))))) (k_X12_get_34 0 (nI y) (nI a) x τ) := by
        intro x hx
        obtain ⟨gr, G, c1, c2, _⟩ := r_canGet hS.1 hy (a := a) (by omega)
        obtain ⟨τ0, hτ0⟩ : ∃ τ0, τ0 = sI (sA (sA τ 9 gr) 13 G) 0 30 (nI (cnt (rp (gA τ 1) y a) (pm (gA τ 1)))) := ⟨_, rfl⟩
        rw [← hτ0] at c1
        have sc0 : ∀ e, Sc e τ τ0 := fun e => by rw [hτ0]; exact (((Sc.rf τ).sA _ rfl).sA _ rfl).sI _ rfl
        have g0 : gA τ0 1 = gA τ 1 := by rw [hτ0]; rfl
        by_cases hr : RN (gA τ 1) ≤ cnt (rp (gA τ 1) y a) (pm (gA τ 1))
        · obtain ⟨σ1, τ1, J, w1, w2, w3, w4, w5, w6, w7, w8, w9⟩ := W_get (B := 50000 * i) wM_w (Or.inl rfl) (by omega) (τ := τ0) (by rw [g0]; exact hW) (y := y) (a := a) (by rw [g0]; exact hy) (by omega) hx (by rw [g0]; exact hr) (by rw [g0, hτ0]; exact c2)
          rw [g0] at w6 w7 w9
          -- the class: values
          have hh : Hd (gA τ 1) (gA τ1 1) := fun k hk => w9 k (by omega)
          have hgv : ∀ k, k < 6 → gv (gA τ1 1) k y = gv (gA τ 1) k y := fun k hk => gv_c (fun j p q => w9 j (by omega)) hk (by omega)
          have w7' : TI (sm (gA τ1 1) y) (50000 * i) (fun k => gv (gA τ1 1) k y) J := by
            rw [hh.sm (by omega)]; exact TI_congr (fun _ _ => rfl) hgv w7
          have hsm := hh.sm (show y < 6 by omega)
          obtain ⟨R, v1, v2, _⟩ := c_valuesIn wM_w w3.1 (y := y) (by omega) (r := 100) (L := 180) (fr := 0) rfl (by omega) (by omega) (by unfold wM; omega) (jbits_hi (gvl hW (by omega)) w7) (fun k q1 q2 => jbits_0 q2 ((hW.2.2.2.1.2 k y q2 (by omega)).2 (Or.inl (by rw [hh.K] at q1; exact q1))) w7) isC_j (i0 := 0) (by omega) (by decide) (fun k hk => jbits_CR w6 hk)
          -- the reference: values
          obtain ⟨τ2, l1, l2, l3, l4⟩ := r_laysTwins (a := 29100) (y := y) (by omega) (by omega) τ1
          have esh : ∀ d, d < 180 → sm (gA τ 1) y = false → std (jbits (sm (gA τ 1) y) J) d = std (sh (gA τ1 1) 29100) d := fun d hd hs => by
            unfold std sh jbits
            rw [if_pos (by omega), hs, w8 _ (by omega)]; rfl
          have en : twN (sm (gA τ1 1) y) (sh (gA τ1 1) 29100) = cnt (std (jbits (sm (gA τ 1) y) J)) 180 := by
            unfold twN
            rw [hsm]
            cases hs : sm (gA τ 1) y
            · have esh' := fun d hd => esh d hd hs
              rw [hs] at esh'
              exact (cnt_congr 180 esh').symm
            · symm
              refine cnt_tail (m := 0) 180 (by omega) (fun d _ _ => ?_)
              unfold std jbits
              by_cases z : d / 30 < 6
              · rw [if_pos z]; exact bt_n0 _
              · rw [if_neg z]; exact bt_n0 _
          rw [en] at l3
          have hcl := cnt_le (std (jbits (sm (gA τ 1) y) J)) 180
          generalize hn0 : cnt (std (jbits (sm (gA τ 1) y) J)) 180 = n0 at l3 v1 hcl
          obtain ⟨R', r1, r2⟩ := r_get_loop (y := y) (n0 := n0) (by omega) (gA τ2 14) FU 0 τ2 (by omega) (by unfold FU; omega) l3 (by funext j; rw [if_neg (by omega)])
          have hRR : ∀ k, k < n0 → R k = R' k := fun k hk => by
            rw [r2 k hk]
            cases hs : sm (gA τ 1) y
            · have hL := l4 (by rw [hsm]; exact hs)
              have esh' := fun d hd => esh d hd hs
              have d1 : DL (std (sh (gA τ1 1) 29100)) 180 R 0 (fun e => gA τ1 1 (vb y (e / 30) (e % 30 + 1))) := by
                refine DL_congr esh' (fun d hd hp => ?_) v2
                rw [← hsm] at hp
                exact (vals_eq w3 (by omega) w7' hd hp).1
              have hc : cnt (std (sh (gA τ1 1) 29100)) 180 = n0 := by rw [← hn0]; exact (cnt_congr 180 esh').symm
              have := DL_at d1 hL.2.1 k (by rw [hc]; exact hk)
              rw [Nat.zero_add] at this
              exact this
            · exfalso
              have : n0 = 0 := by
                rw [← hn0, hs]
                refine cnt_tail (m := 0) 180 (by omega) (fun d _ _ => ?_)
                unfold std jbits
                by_cases z : d / 30 < 6
                · rw [if_pos z]; exact bt_n0 _
                · rw [if_neg z]; exact bt_n0 _
              omega
          have g2 : gA τ2 1 = gA τ1 1 := l2.2.2.1 1 (by decide) (by decide) (by decide)
          have hp2 : Wp wM σ σ1 τ τ2 := ⟨w4.1, (sc0 _).trans (w4.2.1.trans l2.sc), fun k q1 q2 => by rw [g2, w4.2.2 k q1 q2, g0]⟩
          have hd2 : gI τ2 0 28 = gI τ 0 28 := by rw [l2.1 28 (by decide), w5, hτ0]; rfl
          have hrel := fun v => Rel_got (Rel_W h hp2 hd2 (by rw [g2]; exact RelW_mono (by omega) w3) v) (R := R) (R' := R') (n := n0) (by omega) hRR
          have es1 := c_isSum wM_w (σ := sI (sA σ1 100 R) 0 18 (nI n0)) (f := gA τ1 1) (by rw [wv_sI_out _ (by unfold wM; omega), wv_sA_out _ (by unfold wM; omega)]; exact w3.1) (y := y) (by omega)
          rw [hsm] at es1
          have n10 : (nI 1 = nI 0) = False := eq_false (by decide)
          cases hs : sm (gA τ 1) y
          · rw [hs] at es1
            have e2 : k_X12_get_67 1 0 (nI y) (nI n0) (sA τ2 14 R') = some (nI n0, sI (sI (sA τ2 14 R') 0 32 (nI n0)) 0 2 (nI 0)) := by
              have e3 : gI (sA τ2 14 R') 0 27 = nI n0 := l3
              have e4 : sm (gA (sI (sA τ2 14 R') 0 32 (nI n0)) 1) y = false := by show sm (gA τ2 1) y = false; rw [g2, hsm]; exact hs
              have e5 : gI (sI (sA τ2 14 R') 0 32 (nI n0)) 0 27 = nI n0 := by rw [gI_sI, if_neg (by decide)]; exact l3
              rw [k_X12_get_67]
              simp (disch := omega) only [↓mI_e, lit, ofN, bsm, nI_add, pk_mul, pk_sub, nI_e, nI_leE, nI_ltE, nI_mI, mI_nI, mI_lt, nlt_mI, mI_le, nle_mI, nI_addm, sh_b, bI_0, bI_1, bI_bI, ckZ_b, ckZ_n0, ckZ_n1, stIe, stJe, stZ_n0, stZ_n1, rm_nI, dv_nI, if_true, if_false, if_pos, if_neg, rf0, rf1, rf5, rf6, rf7, rf8, rf9, rf20, rf23, rf24, rf25, rf26, rf29, rf31, rf33, rf34, rf35, rf37, rf38, rf41, rf42, rf43,  e3, r_isSum, e4, k_X12_get_127, e5, r_gives]
            refine ⟨nI n0, sI (sI (sA σ1 100 R) 0 18 (nI n0)) 0 14 (nI 0), sI (sI (sA τ2 14 R') 0 32 (nI n0)) 0 2 (nI 0), ?_, ?_, ?_⟩
            · simp (disch := omega) only [↓mI_e, lit, ofN, bsm, nI_add, pk_mul, pk_sub, nI_e, nI_leE, nI_ltE, nI_mI, mI_nI, mI_lt, nlt_mI, mI_le, nle_mI, nI_addm, sh_b, bI_0, bI_1, bI_bI, ckZ_b, ckZ_n0, ckZ_n1, stIe, stJe, stZ_n0, stZ_n1, rm_nI, dv_nI, if_true, if_false, if_pos, if_neg, rf0, rf1, rf5, rf6, rf7, rf8, rf9, rf20, rf23, rf24, rf25, rf26, rf29, rf31, rf33, rf34, rf35, rf37, rf38, rf41, rf42, rf43,  w1, v1, es1, n10, gI_sI, and_self]
            · have hd1 := decide_eq_true hr
              simp (disch := omega) only [↓mI_e, lit, ofN, bsm, nI_add, pk_mul, pk_sub, nI_e, nI_leE, nI_ltE, nI_mI, mI_nI, mI_lt, nlt_mI, mI_le, nle_mI, nI_addm, sh_b, bI_0, bI_1, bI_bI, ckZ_b, ckZ_n0, ckZ_n1, stIe, stJe, stZ_n0, stZ_n1, rm_nI, dv_nI, if_true, if_false, if_pos, if_neg, rf0, rf1, rf5, rf6, rf7, rf8, rf9, rf20, rf23, rf24, rf25, rf26, rf29, rf31, rf33, rf34, rf35, rf37, rf38, rf41, rf42, rf43,  k_X12_get_34, c1, hd1, w2, l1, bI_t, n10]
              exact r1.trans e2
            · rw [sI_comm _ (by decide), sI_comm (sA τ2 14 R') (by decide), ← sI_sA, ← sI_sA]
              exact hrel (nI 0)
          · rw [hs] at es1
            have e6 : sum6 (gA σ1 (97 + 2)) (0 * 6) 6 = sum6 (gA τ1 1) 29100 6 := sum6_congr 6 (fun k hk => by
              have q := w6 k hk
              rw [hs] at q
              simp only [if_true] at q
              rw [w8 k (by omega)]; exact q.2.1)
            have es2 := c_sumOf isC_j (i := 0) (by omega) (sI (sA σ1 100 R) 0 18 (nI n0))
            have e7 : gA (sI (sA σ1 100 R) 0 18 (nI n0)) (97 + 2) = gA σ1 (97 + 2) := by rw [gA_sI, gA_sA, if_neg (by decide)]
            rw [e7, e6] at es2
            have e2 : k_X12_get_67 1 0 (nI y) (nI n0) (sA τ2 14 R') = some (sum6 (gA τ1 1) 29100 6, sI (sI (sA τ2 14 R') 0 32 (nI n0)) 0 2 (nI 0)) := by
              have e3 : gI (sA τ2 14 R') 0 27 = nI n0 := l3
              have e4 : sm (gA (sI (sA τ2 14 R') 0 32 (nI n0)) 1) y = true := by show sm (gA τ2 1) y = true; rw [g2, hsm]; exact hs
              have e5 := r_sumOf (a := 29100) (by omega) (sI (sA τ2 14 R') 0 32 (nI n0))
              have e8 : gA (sI (sA τ2 14 R') 0 32 (nI n0)) 1 = gA τ1 1 := by rw [← g2]; rfl
              rw [e8] at e5
              rw [k_X12_get_67]
              simp (disch := omega) only [↓mI_e, lit, ofN, bsm, nI_add, pk_mul, pk_sub, nI_e, nI_leE, nI_ltE, nI_mI, mI_nI, mI_lt, nlt_mI, mI_le, nle_mI, nI_addm, sh_b, bI_0, bI_1, bI_bI, ckZ_b, ckZ_n0, ckZ_n1, stIe, stJe, stZ_n0, stZ_n1, rm_nI, dv_nI, if_true, if_false, if_pos, if_neg, rf0, rf1, rf5, rf6, rf7, rf8, rf9, rf20, rf23, rf24, rf25, rf26, rf29, rf31, rf33, rf34, rf35, rf37, rf38, rf41, rf42, rf43,  e3, r_isSum, e4, Bool.true_eq_false, e5, k_X12_get_127, r_gives]
            refine ⟨sum6 (gA τ1 1) 29100 6, sI (sI (sA σ1 100 R) 0 18 (nI n0)) 0 14 (nI 0), sI (sI (sA τ2 14 R') 0 32 (nI n0)) 0 2 (nI 0), ?_, ?_, ?_⟩
            · simp (disch := omega) only [↓mI_e, lit, ofN, bsm, nI_add, pk_mul, pk_sub, nI_e, nI_leE, nI_ltE, nI_mI, mI_nI, mI_lt, nlt_mI, mI_le, nle_mI, nI_addm, sh_b, bI_0, bI_1, bI_bI, ckZ_b, ckZ_n0, ckZ_n1, stIe, stJe, stZ_n0, stZ_n1, rm_nI, dv_nI, if_true, if_false, if_pos, if_neg, rf0, rf1, rf5, rf6, rf7, rf8, rf9, rf20, rf23, rf24, rf25, rf26, rf29, rf31, rf33, rf34, rf35, rf37, rf38, rf41, rf42, rf43,  w1, v1, es1, n10, Bool.true_eq_false, es2]
            · have hd1 := decide_eq_true hr
              simp (disch := omega) only [↓mI_e, lit, ofN, bsm, nI_add, pk_mul, pk_sub, nI_e, nI_leE, nI_ltE, nI_mI, mI_nI, mI_lt, nlt_mI, mI_le, nle_mI, nI_addm, sh_b, bI_0, bI_1, bI_bI, ckZ_b, ckZ_n0, ckZ_n1, stIe, stJe, stZ_n0, stZ_n1, rm_nI, dv_nI, if_true, if_false, if_pos, if_neg, rf0, rf1, rf5, rf6, rf7, rf8, rf9, rf20, rf23, rf24, rf25, rf26, rf29, rf31, rf33, rf34, rf35, rf37, rf38, rf41, rf42, rf43,  k_X12_get_34, c1, hd1, w2, l1, bI_t, n10]
              exact r1.trans e2
            · rw [sI_comm _ (by decide), sI_comm (sA τ2 14 R') (by decide), ← sI_sA, ← sI_sA]
              exact hrel (nI 0)
        · have hno := W_get_no wM_w hW hy (a := a) (by omega) x 97 hr
          simp (disch := omega) only [↓mI_e, lit, ofN, bsm, nI_add, pk_mul, pk_sub, nI_e, nI_leE, nI_ltE, nI_mI, mI_nI, mI_lt, nlt_mI, mI_le, nle_mI, nI_addm, sh_b, bI_0, bI_1, bI_bI, ckZ_b, ckZ_n0, ckZ_n1, stIe, stJe, stZ_n0, stZ_n1, rm_nI, dv_nI, if_true, if_false, if_pos, if_neg, rf0, rf1, rf5, rf6, rf7, rf8, rf9, rf20, rf23, rf24, rf25, rf26, rf29, rf31, rf33, rf34, rf35, rf37, rf38, rf41, rf42, rf43,  hno, k_X12_get_34, c1, hr, decide_false, bI_f, r_refuse]
          exact Sm_1 h (sc0 _) g0 _ _
      rcases tick_cases a2 with rfl | ⟨t, ht, rfl⟩ | ⟨hb1, hb2, hb3⟩
      · have hm := main mI (Or.inl rfl)
        simp (disch := omega) only [↓mI_e, lit, ofN, bsm, nI_add, pk_mul, pk_sub, nI_e, nI_leE, nI_ltE, nI_mI, mI_nI, mI_lt, nlt_mI, mI_le, nle_mI, nI_addm, sh_b, bI_0, bI_1, bI_bI, ckZ_b, ckZ_n0, ckZ_n1, stIe, stJe, stZ_n0, stZ_n1, rm_nI, dv_nI, if_true, if_false, if_pos, if_neg, rf0, rf1, rf5, rf6, rf7, rf8, rf9, rf20, rf23, rf24, rf25, rf26, rf29, rf31, rf33, rf34, rf35, rf37, rf38, rf41, rf42, rf43,  f_X11_get, k_X11_get_24, k_X11_get_106, f_X12_get, k_X12_get_28, c_isKey_yes hS hy, r_isKey_y hS.1 hy, c_isKeeper_yes hS ha, r_isKeeper_y hS.1 ha, c_tick_m, c02, w_0 wM_w, show LC.2.1 0 11 = 97 from rfl, show LC.2.1 0 12 = 100 from rfl, c_refuse, c_answer]
        exact hm
      · have hm := main (nI t) (Or.inr ⟨t, ht, rfl⟩)
        simp (disch := omega) only [↓mI_e, lit, ofN, bsm, nI_add, pk_mul, pk_sub, nI_e, nI_leE, nI_ltE, nI_mI, mI_nI, mI_lt, nlt_mI, mI_le, nle_mI, nI_addm, sh_b, bI_0, bI_1, bI_bI, ckZ_b, ckZ_n0, ckZ_n1, stIe, stJe, stZ_n0, stZ_n1, rm_nI, dv_nI, if_true, if_false, if_pos, if_neg, rf0, rf1, rf5, rf6, rf7, rf8, rf9, rf20, rf23, rf24, rf25, rf26, rf29, rf31, rf33, rf34, rf35, rf37, rf38, rf41, rf42, rf43,  f_X11_get, k_X11_get_24, k_X11_get_106, f_X12_get, k_X12_get_28, c_isKey_yes hS hy, r_isKey_y hS.1 hy, c_isKeeper_yes hS ha, r_isKeeper_y hS.1 ha, c_tick_y ht, r_isTicket_y ht, c02, w_0 wM_w, show LC.2.1 0 11 = 97 from rfl, show LC.2.1 0 12 = 100 from rfl, c_refuse, c_answer]
        exact hm
      · simp (disch := omega) only [↓mI_e, lit, ofN, bsm, nI_add, pk_mul, pk_sub, nI_e, nI_leE, nI_ltE, nI_mI, mI_nI, mI_lt, nlt_mI, mI_le, nle_mI, nI_addm, sh_b, bI_0, bI_1, bI_bI, ckZ_b, ckZ_n0, ckZ_n1, stIe, stJe, stZ_n0, stZ_n1, rm_nI, dv_nI, if_true, if_false, if_pos, if_neg, rf0, rf1, rf5, rf6, rf7, rf8, rf9, rf20, rf23, rf24, rf25, rf26, rf29, rf31, rf33, rf34, rf35, rf37, rf38, rf41, rf42, rf43,  f_X11_get, k_X11_get_24, f_X12_get, k_X12_get_28, c_isKey_yes hS hy, r_isKey_y hS.1 hy, c_isKeeper_yes hS ha, r_isKeeper_y hS.1 ha, c_tick_no hb1, hb2, r_isTicket_no hb3, c_refuse, r_refuse]
        exact Sm_0 h _ _
