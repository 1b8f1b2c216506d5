/-! LIFE: which line is next -/
def LPs (lf L : Nat) (D : Nat → Nat → Nat) (l : Nat) (σ τ : ST) : Prop := ∀ k, k < L → D k 0 = 20 → k < l → l ≤ D k 5 → ∃ r, r ≤ 98 ∧ gA τ 20 k = nI r ∧ gA σ (lf + 2) k = nI (r + 1)
def NE (L : Nat) (D : Nat → Nat → Nat) (l : Nat) : Prop := l < L → D l 0 = 21 → D (D l 5) 0 = 20 → D l 5 + 1 ≠ l
theorem LPs_c {lf L : Nat} {D : Nat → Nat → Nat} {l : Nat} {σ τ σ1 τ1 : ST} (h : LPs lf L D l σ τ) (h1 : gA σ1 (lf + 2) = gA σ (lf + 2)) (h2 : gA τ1 20 = gA τ 20) : LPs lf L D l σ1 τ1 := fun k a b c d => by rw [h1, h2]; exact h k a b c d
theorem LV_loops {w lf : Nat} (hl : isLf w lf) {g : Nat → Int64} {L : Nat} {D : Nat → Nat → Nat} {σ0 τ0 : ST} {B s d : Nat} {σ τ : ST} (h : LV w lf g L D σ0 τ0 B s d σ τ) (F G : Nat → Int32) : LV w lf g L D σ0 τ0 B s d (sA σ (lf + 2) F) (sA τ 20 G) := LV_out hl h (wv_sA_out _ (wv_lf hl (by omega)) _) (by rw [gA_sA, if_neg (by decide)]) h.2.2.1 h.2.2.2.1 (fun j hj => by rw [gA_sA, if_neg (by omega), gA_sA, if_neg (by decide)]; exact h.2.2.2.2.1 j hj) (SqE_sA (Sq.rf σ) (Or.inr rfl) _) (SL.sA 20 _ (Or.inl rfl))
theorem sub0 (x : Int32) : x - nI 0 = x := Int32.sub_zero x
theorem rwd_21 {o : Nat} (h : o ≤ 25) : (nI (rwd o) = nI 21) = (o = 21) := by
  have h1 : ∀ o : Fin 26, (nI (rwd o.1) = nI 21) = (o.1 = 21) := by
    intro o
    apply propext
    revert o
    decide +kernel
  exact h1 ⟨o, by omega⟩
theorem rwd_20 {o : Nat} (h : o ≤ 25) : (nI (rwd o) = nI 20) = (o = 20) := by
  have h1 : ∀ o : Fin 26, (nI (rwd o.1) = nI 20) ↔ (o.1 = 20) := by decide +kernel
  exact propext (h1 ⟨o, by omega⟩)
theorem cw_24 {o : Nat} (h : 7 ≤ o ∧ o ≤ 25) : (nI (cw o) = nI 24) = (o = 21) := by
  have h1 : ∀ o : Fin 26, 7 ≤ o.1 → ((nI (cw o.1) = nI 24) ↔ (o.1 = 21)) := by decide +kernel
  exact propext (h1 ⟨o, by omega⟩ h.1)
theorem cw_23 {o : Nat} (h : 7 ≤ o ∧ o ≤ 25) : (nI (cw o) = nI 23) = (o = 20) := by
  have h1 : ∀ o : Fin 26, 7 ≤ o.1 → ((nI (cw o.1) = nI 23) ↔ (o.1 = 20)) := by decide +kernel
  exact propext (h1 ⟨o, by omega⟩ h.1)
/-- what a line of the days says of ends and beginnings -/
theorem VD_end {f : Nat → Int32} {D : Nat → Nat → Nat} {L : Nat} (h : VD f D L) {l : Nat} (hl : l < L) (e : D l 0 = 21) : D l 5 < l ∧ oO (D (D l 5) 0) = true ∧ D (D l 5) 5 = l := by
  obtain ⟨_, _, _, _, _, _, _, _, _, _, _, h21⟩ := h l hl
  exact h21 e
theorem VD_beg {f : Nat → Int32} {D : Nat → Nat → Nat} {L : Nat} (h : VD f D L) {l : Nat} (hl : l < L) (e : oO (D l 0) = true) : l < D l 5 ∧ D l 5 < L ∧ D (D l 5) 0 = 21 ∧ D (D l 5) 5 = l ∧ ∀ c, l < c → c < D l 5 → oO (D c 0) = true → D c 5 < D l 5 := by
  obtain ⟨_, _, _, _, _, _, _, _, _, _, hO, _⟩ := h l hl
  exact hO e
theorem oO_20 : oO 20 = true := rfl
/-- behind the beginning of a loop that holds something there is no end -/
theorem VD_in {f : Nat → Int32} {D : Nat → Nat → Nat} {L : Nat} (h : VD f D L) {b : Nat} (hb : b < L) (e : oO (D b 0) = true) (hne : D b 5 ≠ b + 1) : D (b + 1) 0 ≠ 21 := by
  intro z
  obtain ⟨q1, q2, q3, q4, q5⟩ := VD_beg h hb e
  obtain ⟨p1, p2, p3⟩ := VD_end h (l := b + 1) (by omega) z
  by_cases c : D (b + 1) 5 = b
  · rw [c] at p3; exact hne p3
  · obtain ⟨r1, r2, r3, r4, r5⟩ := VD_beg h (l := D (b + 1) 5) (by omega) p2
    have := r5 b (by omega) (by rw [p3]; omega) e
    rw [p3] at this
    omega
theorem LPs_up {lf L : Nat} {D : Nat → Nat → Nat} {l : Nat} {σ τ : ST} (h : LPs lf L D l σ τ) (hno : D l 0 ≠ 20) : LPs lf L D (l + 1) σ τ := fun k a b c d => by
  by_cases e : k = l
  · rw [e] at b; exact absurd b hno
  · exact h k a b (by omega) (by omega)
theorem L_ends {w lf : Nat} (hl : isLf w lf) {g : Nat → Int64} {L : Nat} {D : Nat → Nat → Nat} {σ0 τ0 : ST} {B s d : Nat} : ∀ (m l : Nat) (σ τ : ST) (N t nb : Nat), l ≤ L → L - l ≤ m → LV w lf g L D σ0 τ0 B s d σ τ → LPs lf L D l σ τ → NE L D l → m < N → t + m < 100000 → m + 2 < nb → ∃ e l' σ1 τ1, e ≤ m ∧ l' ≤ L ∧ (l' < L → D l' 0 ≠ 21) ∧ LV w lf g L D σ0 τ0 B s d σ1 τ1 ∧ LPs lf L D l' σ1 τ1 ∧ k_X4_run_30 N lf w 97 (w + 8) (nI l) (nI t) σ = k_X4_run_30 (N - e) lf w 97 (w + 8) (nI l') (nI (t + e)) σ1 ∧ k_X12_behindEnds_2 nb 0 (nI l) τ = some (nI l', τ1) := by
  have hw := isLf_w hl
  intro m
  induction m with
  | zero =>
    intro l σ τ N t nb h1 h2 h hP _ _ _ hnb
    have hL60 := h.2.1.2.2.2
    obtain ⟨f7, _⟩ := LV_days h
    obtain ⟨nb1, rfl⟩ : ∃ nb1, nb = nb1 + 1 := ⟨nb - 1, by omega⟩
    refine ⟨0, l, σ, τ, Nat.le_refl _, h1, fun z => by omega, h, hP, rfl, ?_⟩
    have c : L ≤ l := by omega
    rw [k_X12_behindEnds_2]
    simp (disch := omega) only [↓mI_e, lit, ofN, bsm, nI_add, pk_mul, pk_sub, nI_e, nI_leE, nI_ltE, nI_mI, mI_nI, mI_lt, nlt_mI, mI_le, nle_mI, nI_addm, sh_b, bI_0, bI_1, bI_bI, ckZ_b, ckZ_n0, ckZ_n1, stIe, stJe, stZ_n0, stZ_n1, rm_nI, dv_nI, if_true, if_false, if_pos, if_neg, rf0, rf1, rf5, rf6, rf7, rf8, rf9, rf20, rf23, rf24, rf25, rf26, rf29, rf31, rf33, rf34, rf35, rf37, rf38, rf41, rf42, rf43,  lr1, f7, c, k_X12_behindEnds_118]
  | succ m ih =>
    intro l σ τ N t nb h1 h2 h hP hE hN ht hnb
    have hL60 := h.2.1.2.2.2
    obtain ⟨f7, hr⟩ := LV_days h
    have hv := h.2.2.2.2.2.2
    obtain ⟨nb1, rfl⟩ : ∃ nb1, nb = nb1 + 1 := ⟨nb - 1, by omega⟩
    by_cases c : L ≤ l
    · refine ⟨0, l, σ, τ, by omega, h1, fun z => by omega, h, hP, rfl, ?_⟩
      rw [k_X12_behindEnds_2]
      simp (disch := omega) only [↓mI_e, lit, ofN, bsm, nI_add, pk_mul, pk_sub, nI_e, nI_leE, nI_ltE, nI_mI, mI_nI, mI_lt, nlt_mI, mI_le, nle_mI, nI_addm, sh_b, bI_0, bI_1, bI_bI, ckZ_b, ckZ_n0, ckZ_n1, stIe, stJe, stZ_n0, stZ_n1, rm_nI, dv_nI, if_true, if_false, if_pos, if_neg, rf0, rf1, rf5, rf6, rf7, rf8, rf9, rf20, rf23, rf24, rf25, rf26, rf29, rf31, rf33, rf34, rf35, rf37, rf38, rf41, rf42, rf43,  lr1, f7, c, k_X12_behindEnds_118]
    · have hlt : l < L := by omega
      have vo := (hv l hlt).1
      have r0 : gA τ 1 (4480 + 6 * l) = nI (rwd (D l 0)) := (hr l hlt).1
      by_cases e : D l 0 = 21
      · -- an end
        obtain ⟨p1, p2, p3⟩ := VD_end hv hlt e
        have hbL : D l 5 < L := by omega
        have vb' := (hv (D l 5) hbL).1
        obtain ⟨N1, rfl⟩ : ∃ N1, N = N1 + 1 := ⟨N - 1, by omega⟩
        obtain ⟨c0, _, _, _, _, cM⟩ := h.2.1.2.2.1 l hlt
        have c0' : gA σ (w + 9) l = nI 24 := by have z := c0; rw [e] at z; exact z
        have cm : gA σ (w + 14) l = nI (D l 5) := cM (by rw [e]; rfl)
        have cb : gA σ (w + 9) (D l 5) = nI (cw (D (D l 5) 0)) := (h.2.1.2.2.1 (D l 5) hbL).1
        have r0' : gA τ 1 (4480 + 6 * l) = nI 21 := by have z := r0; rw [e] at z; exact z
        have rm : gA τ 1 (4480 + 6 * l + 4) = nI (D l 5) := by
          obtain ⟨_, _, _, _, _, _, _, rM, _⟩ := hr l hlt
          exact rM (by rw [e]; rfl)
        have rb : gA τ 1 (4480 + 6 * D l 5) = nI (rwd (D (D l 5) 0)) := (hr (D l 5) hbL).1
        have e7 : gI σ (w + 8) 7 = nI L := h.2.1.2.1
        have hno20 : D l 0 ≠ 20 := by omega
        have ht1 : ¬ 100000 ≤ t := by omega
        by_cases c20 : D (D l 5) 0 = 20
        · -- of a loop
          obtain ⟨r, hr98, g1, g2⟩ := hP (D l 5) hbL c20 p1 (by rw [p3]; exact Nat.le_refl _)
          have cb' : gA σ (w + 9) (D l 5) = nI 23 := by rw [cb, c20]; rfl
          have rb' : gA τ 1 (4480 + 6 * D l 5) = nI 20 := by rw [rb, c20]; rfl
          have gs : gA (sA σ (lf + 2) (upd (gA σ (lf + 2)) (D l 5) (nI r))) (lf + 2) (D l 5) = nI r := by rw [gA_sA, if_pos rfl, upd_at, if_pos rfl]
          by_cases z0 : r = 0
          · subst z0
            have h3 : LV w lf g L D σ0 τ0 B s d (sA σ (lf + 2) (upd (gA σ (lf + 2)) (D l 5) (nI 0))) (sA τ 20 (upd (gA τ 20) (D l 5) (nI 0))) := LV_loops hl h _ _
            have hP3 : LPs lf L D (l + 1) (sA σ (lf + 2) (upd (gA σ (lf + 2)) (D l 5) (nI 0))) (sA τ 20 (upd (gA τ 20) (D l 5) (nI 0))) := fun k k1 k2 k3 k4 => by
              have hkl : k ≠ l := fun q => hno20 (by rw [← q]; exact k2)
              have hkb : k ≠ D l 5 := fun q => by rw [q, p3] at k4; omega
              rw [gA_sA, if_pos rfl, gA_sA, if_pos rfl, upd_at, upd_at, if_neg hkb, if_neg hkb]
              exact hP k k1 k2 (by omega) (by omega)
            have hE3 : NE L D (l + 1) := fun q1 q2 q3 q4 => by
              obtain ⟨x1, x2, x3⟩ := VD_end hv q1 q2
              have : D (l + 1) 5 = l := by omega
              rw [this] at q3
              exact hno20 q3
            obtain ⟨e', l', σ1, τ1, a1, a2, a3, a4, a5, a6, a7⟩ := ih (l + 1) _ _ N1 (t + 1) nb1 (by omega) (by omega) h3 hP3 hE3 (by omega) (by omega) (by omega)
            refine ⟨e' + 1, l', σ1, τ1, by omega, a2, a3, a4, a5, ?_, ?_⟩
            · rw [show N1 + 1 - (e' + 1) = N1 - e' by omega, show t + (e' + 1) = t + 1 + e' by omega, ← a6, k_X4_run_30]
              simp (disch := omega) only [↓mI_e, lit, ofN, bsm, nI_add, pk_mul, pk_sub, nI_e, nI_leE, nI_ltE, nI_mI, mI_nI, mI_lt, nlt_mI, mI_le, nle_mI, nI_addm, sh_b, bI_0, bI_1, bI_bI, ckZ_b, ckZ_n0, ckZ_n1, stIe, stJe, stZ_n0, stZ_n1, rm_nI, dv_nI, if_true, if_false, if_pos, if_neg, rf0, rf1, rf5, rf6, rf7, rf8, rf9, rf20, rf23, rf24, rf25, rf26, rf29, rf31, rf33, rf34, rf35, rf37, rf38, rf41, rf42, rf43,  ht1, e7, c, wd_0 hw, wd_5 hw, lw9 hw, c0', f_X4_lineBehindEnd, lw14 hw, cm, cb', lf_2 hl, lt2 hl, g2, st2 hl, Nat.add_sub_cancel, gs, k_X4_lineBehindEnd_50, k_X4_run_118]
            · rw [k_X12_behindEnds_2, ← a7]
              simp (disch := omega) only [↓mI_e, lit, ofN, bsm, nI_add, pk_mul, pk_sub, nI_e, nI_leE, nI_ltE, nI_mI, mI_nI, mI_lt, nlt_mI, mI_le, nle_mI, nI_addm, sh_b, bI_0, bI_1, bI_bI, ckZ_b, ckZ_n0, ckZ_n1, stIe, stJe, stZ_n0, stZ_n1, rm_nI, dv_nI, if_true, if_false, if_pos, if_neg, rf0, rf1, rf5, rf6, rf7, rf8, rf9, rf20, rf23, rf24, rf25, rf26, rf29, rf31, rf33, rf34, rf35, rf37, rf38, rf41, rf42, rf43,  lr1, f7, c, r0', rm, rb', lr20, g1, k_X12_behindEnds_78, k_X12_behindEnds_79, k_X12_behindEnds_98, k_X12_behindEnds_114, sr20, sub0]
          · -- once more
            have hne1 : D l 5 + 1 ≠ l := hE hlt e c20
            have hnb1 : D (D l 5 + 1) 0 ≠ 21 := VD_in hv hbL p2 (by rw [p3]; omega)
            obtain ⟨nb2, rfl⟩ : ∃ nb2, nb1 = nb2 + 1 := ⟨nb1 - 1, by omega⟩
            have h3 : LV w lf g L D σ0 τ0 B s d (sA σ (lf + 2) (upd (gA σ (lf + 2)) (D l 5) (nI r))) (sA τ 20 (upd (gA τ 20) (D l 5) (nI (r - 1)))) := LV_loops hl h _ _
            have er : r - 1 + 1 = r := by omega
            have hP3 : LPs lf L D (D l 5 + 1) (sA σ (lf + 2) (upd (gA σ (lf + 2)) (D l 5) (nI r))) (sA τ 20 (upd (gA τ 20) (D l 5) (nI (r - 1)))) := fun k k1 k2 k3 k4 => by
              rw [gA_sA, if_pos rfl, gA_sA, if_pos rfl, upd_at, upd_at]
              by_cases q : k = D l 5
              · rw [if_pos q, if_pos q]
                exact ⟨r - 1, by omega, rfl, by rw [er]⟩
              · rw [if_neg q, if_neg q]
                have h5 := (VD_beg hv k1 (by rw [k2]; rfl)).2.2.2.2 (D l 5) (by omega) (by omega) p2
                exact hP k k1 k2 (by omega) (by rw [p3] at h5; omega)
            obtain ⟨f7', hr'⟩ := LV_days h3
            have rq : gA (sA τ 20 (upd (gA τ 20) (D l 5) (nI (r - 1)))) 1 (4480 + 6 * (D l 5 + 1)) = nI (rwd (D (D l 5 + 1) 0)) := (hr' (D l 5 + 1) (by omega)).1
            have rq21 : (nI (rwd (D (D l 5 + 1) 0)) = nI 21) = False := by rw [rwd_21 (hv (D l 5 + 1) (by omega)).1.2.1]; exact eq_false hnb1
            have cr : ¬ r ≤ 0 := by omega
            have n10 : (nI 1 = nI 0) = False := eq_false (by decide)
            refine ⟨1, D l 5 + 1, _, _, by omega, by omega, fun _ => hnb1, h3, hP3, ?_, ?_⟩
            · rw [show N1 + 1 - 1 = N1 by omega, k_X4_run_30]
              simp (disch := omega) only [↓mI_e, lit, ofN, bsm, nI_add, pk_mul, pk_sub, nI_e, nI_leE, nI_ltE, nI_mI, mI_nI, mI_lt, nlt_mI, mI_le, nle_mI, nI_addm, sh_b, bI_0, bI_1, bI_bI, ckZ_b, ckZ_n0, ckZ_n1, stIe, stJe, stZ_n0, stZ_n1, rm_nI, dv_nI, if_true, if_false, if_pos, if_neg, rf0, rf1, rf5, rf6, rf7, rf8, rf9, rf20, rf23, rf24, rf25, rf26, rf29, rf31, rf33, rf34, rf35, rf37, rf38, rf41, rf42, rf43,  ht1, e7, c, wd_0 hw, wd_5 hw, lw9 hw, c0', f_X4_lineBehindEnd, lw14 hw, cm, cb', lf_2 hl, lt2 hl, g2, st2 hl, Nat.add_sub_cancel, gs, cr, k_X4_lineBehindEnd_50, k_X4_run_118]
            · rw [k_X12_behindEnds_2]
              simp (disch := omega) only [↓mI_e, lit, ofN, bsm, nI_add, pk_mul, pk_sub, nI_e, nI_leE, nI_ltE, nI_mI, mI_nI, mI_lt, nlt_mI, mI_le, nle_mI, nI_addm, sh_b, bI_0, bI_1, bI_bI, ckZ_b, ckZ_n0, ckZ_n1, stIe, stJe, stZ_n0, stZ_n1, rm_nI, dv_nI, if_true, if_false, if_pos, if_neg, rf0, rf1, rf5, rf6, rf7, rf8, rf9, rf20, rf23, rf24, rf25, rf26, rf29, rf31, rf33, rf34, rf35, rf37, rf38, rf41, rf42, rf43,  lr1, f7, c, r0', rm, rb', lr20, g1, cr, k_X12_behindEnds_79, n10, k_X12_behindEnds_98, k_X12_behindEnds_114, sr20]
              rw [k_X12_behindEnds_2]
              have cl : ¬ L ≤ D l 5 + 1 := by omega
              simp (disch := omega) only [↓mI_e, lit, ofN, bsm, nI_add, pk_mul, pk_sub, nI_e, nI_leE, nI_ltE, nI_mI, mI_nI, mI_lt, nlt_mI, mI_le, nle_mI, nI_addm, sh_b, bI_0, bI_1, bI_bI, ckZ_b, ckZ_n0, ckZ_n1, stIe, stJe, stZ_n0, stZ_n1, rm_nI, dv_nI, if_true, if_false, if_pos, if_neg, rf0, rf1, rf5, rf6, rf7, rf8, rf9, rf20, rf23, rf24, rf25, rf26, rf29, rf31, rf33, rf34, rf35, rf37, rf38, rf41, rf42, rf43,  lr1, f7', cl, rq, rq21, k_X12_behindEnds_118]
        · -- of a when
          have cb' : (nI (cw (D (D l 5) 0)) = nI 23) = False := by rw [cw_23 ⟨vb'.1, vb'.2.1⟩]; exact eq_false c20
          have rb' : (nI (rwd (D (D l 5) 0)) = nI 20) = False := by rw [rwd_20 vb'.2.1]; exact eq_false c20
          have eτ : sA τ 20 (upd (gA τ 20) (D l 5) (gA τ 20 (D l 5))) = τ := by rw [upd_self, sA_self]
          have hE3 : NE L D (l + 1) := fun q1 q2 q3 q4 => by
            obtain ⟨x1, x2, x3⟩ := VD_end hv q1 q2
            have : D (l + 1) 5 = l := by omega
            rw [this] at q3
            exact hno20 q3
          obtain ⟨e', l', σ1, τ1, a1, a2, a3, a4, a5, a6, a7⟩ := ih (l + 1) σ τ N1 (t + 1) nb1 (by omega) (by omega) h (LPs_up hP hno20) hE3 (by omega) (by omega) (by omega)
          refine ⟨e' + 1, l', σ1, τ1, by omega, a2, a3, a4, a5, ?_, ?_⟩
          · rw [show N1 + 1 - (e' + 1) = N1 - e' by omega, show t + (e' + 1) = t + 1 + e' by omega, ← a6, k_X4_run_30]
            simp (disch := omega) only [↓mI_e, lit, ofN, bsm, nI_add, pk_mul, pk_sub, nI_e, nI_leE, nI_ltE, nI_mI, mI_nI, mI_lt, nlt_mI, mI_le, nle_mI, nI_addm, sh_b, bI_0, bI_1, bI_bI, ckZ_b, ckZ_n0, ckZ_n1, stIe, stJe, stZ_n0, stZ_n1, rm_nI, dv_nI, if_true, if_false, if_pos, if_neg, rf0, rf1, rf5, rf6, rf7, rf8, rf9, rf20, rf23, rf24, rf25, rf26, rf29, rf31, rf33, rf34, rf35, rf37, rf38, rf41, rf42, rf43,  ht1, e7, c, wd_0 hw, wd_5 hw, lw9 hw, c0', f_X4_lineBehindEnd, lw14 hw, cm, cb, cb', k_X4_run_118]
          · rw [k_X12_behindEnds_2, ← a7]
            simp (disch := omega) only [↓mI_e, lit, ofN, bsm, nI_add, pk_mul, pk_sub, nI_e, nI_leE, nI_ltE, nI_mI, mI_nI, mI_lt, nlt_mI, mI_le, nle_mI, nI_addm, sh_b, bI_0, bI_1, bI_bI, ckZ_b, ckZ_n0, ckZ_n1, stIe, stJe, stZ_n0, stZ_n1, rm_nI, dv_nI, if_true, if_false, if_pos, if_neg, rf0, rf1, rf5, rf6, rf7, rf8, rf9, rf20, rf23, rf24, rf25, rf26, rf29, rf31, rf33, rf34, rf35, rf37, rf38, rf41, rf42, rf43,  lr1, f7, c, r0', rm, rb, rb', k_X12_behindEnds_78, k_X12_behindEnds_79, lr20, k_X12_behindEnds_98, k_X12_behindEnds_114, sr20, sub0, eτ]
      · -- no end
        refine ⟨0, l, σ, τ, by omega, h1, fun _ => e, h, hP, rfl, ?_⟩
        have r21 : (nI (rwd (D l 0)) = nI 21) = False := by rw [rwd_21 vo.2.1]; exact eq_false e
        rw [k_X12_behindEnds_2]
        simp (disch := omega) only [↓mI_e, lit, ofN, bsm, nI_add, pk_mul, pk_sub, nI_e, nI_leE, nI_ltE, nI_mI, mI_nI, mI_lt, nlt_mI, mI_le, nle_mI, nI_addm, sh_b, bI_0, bI_1, bI_bI, ckZ_b, ckZ_n0, ckZ_n1, stIe, stJe, stZ_n0, stZ_n1, rm_nI, dv_nI, if_true, if_false, if_pos, if_neg, rf0, rf1, rf5, rf6, rf7, rf8, rf9, rf20, rf23, rf24, rf25, rf26, rf29, rf31, rf33, rf34, rf35, rf37, rf38, rf41, rf42, rf43,  lr1, f7, c, r0, r21, k_X12_behindEnds_118]
/-- a loop of nothing, in the reference -/
theorem r_empty {L : Nat} {D : Nat → Nat → Nat} {l : Nat} (hl60 : L ≤ 60) (hl : l + 1 < L) (e20 : D l 0 = 20) (e21 : D (l + 1) 0 = 21) (em : D (l + 1) 5 = l) (f : Nat → Int32) (f7 : f 7 = nI L) (hr : RdR f D L) : ∀ (r nb : Nat) (τ : ST), r ≤ 98 → r + 1 < nb → gA τ 1 = f → gA τ 20 l = nI r → k_X12_behindEnds_2 nb 0 (nI (l + 1)) τ = k_X12_behindEnds_2 (nb - (r + 1)) 0 (nI (l + 2)) (sA τ 20 (upd (gA τ 20) l (nI 0))) := by
  have n10 : (nI 1 = nI 0) = False := eq_false (by decide)
  have r0 : f (4480 + 6 * (l + 1)) = nI 21 := by have z := (hr (l + 1) hl).1; rw [e21] at z; exact z
  have rm : f (4480 + 6 * (l + 1) + 4) = nI l := by
    obtain ⟨_, _, _, _, _, _, _, rM, _⟩ := hr (l + 1) hl
    have z := rM (by rw [e21]; rfl)
    rw [em] at z; exact z
  have rb : f (4480 + 6 * l) = nI 20 := by have z := (hr l (by omega)).1; rw [e20] at z; exact z
  intro r
  induction r with
  | zero =>
    intro nb τ _ hnb hg hz
    obtain ⟨nb1, rfl⟩ : ∃ nb1, nb = nb1 + 1 := ⟨nb - 1, by omega⟩
    have g7 : gA τ 1 7 = nI L := by rw [hg]; exact f7
    have g0 : gA τ 1 (4480 + 6 * (l + 1)) = nI 21 := by rw [hg]; exact r0
    have gm : gA τ 1 (4480 + 6 * (l + 1) + 4) = nI l := by rw [hg]; exact rm
    have gb : gA τ 1 (4480 + 6 * l) = nI 20 := by rw [hg]; exact rb
    have cl : ¬ L ≤ l + 1 := by omega
    rw [show nb1 + 1 - (0 + 1) = nb1 by omega, k_X12_behindEnds_2]
    simp (disch := omega) only [↓mI_e, lit, ofN, bsm, nI_add, pk_mul, pk_sub, nI_e, nI_leE, nI_ltE, nI_mI, mI_nI, mI_lt, nlt_mI, mI_le, nle_mI, nI_addm, sh_b, bI_0, bI_1, bI_bI, ckZ_b, ckZ_n0, ckZ_n1, stIe, stJe, stZ_n0, stZ_n1, rm_nI, dv_nI, if_true, if_false, if_pos, if_neg, rf0, rf1, rf5, rf6, rf7, rf8, rf9, rf20, rf23, rf24, rf25, rf26, rf29, rf31, rf33, rf34, rf35, rf37, rf38, rf41, rf42, rf43,  lr1, g7, cl, g0, gm, gb, lr20, hz, k_X12_behindEnds_78, k_X12_behindEnds_79, k_X12_behindEnds_98, k_X12_behindEnds_114, sr20, sub0]
  | succ r ih =>
    intro nb τ hr98 hnb hg hz
    obtain ⟨nb1, rfl⟩ : ∃ nb1, nb = nb1 + 1 := ⟨nb - 1, by omega⟩
    have g7 : gA τ 1 7 = nI L := by rw [hg]; exact f7
    have g0 : gA τ 1 (4480 + 6 * (l + 1)) = nI 21 := by rw [hg]; exact r0
    have gm : gA τ 1 (4480 + 6 * (l + 1) + 4) = nI l := by rw [hg]; exact rm
    have gb : gA τ 1 (4480 + 6 * l) = nI 20 := by rw [hg]; exact rb
    have cl : ¬ L ≤ l + 1 := by omega
    have cr : ¬ r + 1 ≤ 0 := by omega
    have h1 := ih nb1 (sA τ 20 (upd (gA τ 20) l (nI r))) (by omega) (by omega) (by rw [gA_sA, if_neg (by decide)]; exact hg) (by rw [gA_sA, if_pos rfl, upd_at, if_pos rfl])
    have eu : sA (sA τ 20 (upd (gA τ 20) l (nI r))) 20 (upd (gA (sA τ 20 (upd (gA τ 20) l (nI r))) 20) l (nI 0)) = sA τ 20 (upd (gA τ 20) l (nI 0)) := by
      rw [sA_sA, gA_sA, if_pos rfl]
      congr 1
      funext j
      rw [upd_at, upd_at, upd_at]
      split <;> rfl
    rw [eu] at h1
    rw [show nb1 + 1 - (r + 1 + 1) = nb1 - (r + 1) by omega, ← h1, k_X12_behindEnds_2]
    simp (disch := omega) only [↓mI_e, lit, ofN, bsm, nI_add, pk_mul, pk_sub, nI_e, nI_leE, nI_ltE, nI_mI, mI_nI, mI_lt, nlt_mI, mI_le, nle_mI, nI_addm, sh_b, bI_0, bI_1, bI_bI, ckZ_b, ckZ_n0, ckZ_n1, stIe, stJe, stZ_n0, stZ_n1, rm_nI, dv_nI, if_true, if_false, if_pos, if_neg, rf0, rf1, rf5, rf6, rf7, rf8, rf9, rf20, rf23, rf24, rf25, rf26, rf29, rf31, rf33, rf34, rf35, rf37, rf38, rf41, rf42, rf43,  lr1, g7, cl, g0, gm, gb, lr20, hz, cr, k_X12_behindEnds_79, n10, k_X12_behindEnds_98, k_X12_behindEnds_114, sr20, Nat.add_sub_cancel]
