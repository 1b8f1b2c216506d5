/-! LIVE -/
theorem el_out : ∀ x, x < 194 → (100 = x ∨ 102 ≤ x) → scC x = false ∧ EL wM 78 x = false := by decide +kernel
theorem r_live_53 : ∀ (n k : Nat) (τ : ST), k ≤ 6 → 6 - k < n → (∀ j, j < k → gA τ 22 j = gA τ 21 j) → ∃ G, k_X12_live_53 n 0 (nI k) τ = some (gI τ 0 40, sI (sI (sA τ 22 G) 0 44 (nI 1)) 0 2 (nI 0)) ∧ ∀ j, j < 6 → G j = gA τ 21 j := by
  intro n
  induction n with
  | zero => intros; omega
  | succ n ih =>
    intro k τ hk hn hz
    rw [k_X12_live_53]
    by_cases c : 6 ≤ k
    · refine ⟨gA τ 22, ?_, fun j hj => hz j (by omega)⟩
      have e40 : gI (sI τ 0 44 (nI 1)) 0 40 = gI τ 0 40 := by rw [gI_sI, if_neg (by decide)]
      simp (disch := omega) only [↓mI_e, lit, ofN, bsm, nI_add, pk_mul, pk_sub, nI_e, nI_leE, nI_ltE, nI_mI, mI_nI, mI_lt, nlt_mI, mI_le, nle_mI, nI_addm, sh_b, bI_0, bI_1, bI_bI, ckZ_b, ckZ_n0, ckZ_n1, stIe, stJe, stZ_n0, stZ_n1, rm_nI, dv_nI, if_true, if_false, if_pos, if_neg, rf0, rf1, rf5, rf6, rf7, rf8, rf9, rf20, rf23, rf24, rf25, rf26, rf29, rf31, rf33, rf34, rf35, rf37, rf38, rf41, rf42, rf43,  c, r_gives, e40]
      rw [sA_self]
    · obtain ⟨G, g1, g2⟩ := ih (k + 1) (sA τ 22 (upd (gA τ 22) k (gA τ 21 k))) (by omega) (by omega) (fun j hj => by
        rw [gA_sA, if_pos rfl, gA_sA, if_neg (by decide), upd_at]
        split
        · rename_i z; rw [z]
        · exact hz j (by omega))
      rw [sA_sA] at g1
      refine ⟨G, ?_, g2⟩
      simp (disch := omega) only [↓mI_e, lit, ofN, bsm, nI_add, pk_mul, pk_sub, nI_e, nI_leE, nI_ltE, nI_mI, mI_nI, mI_lt, nlt_mI, mI_le, nle_mI, nI_addm, sh_b, bI_0, bI_1, bI_bI, ckZ_b, ckZ_n0, ckZ_n1, stIe, stJe, stZ_n0, stZ_n1, rm_nI, dv_nI, if_true, if_false, if_pos, if_neg, rf0, rf1, rf5, rf6, rf7, rf8, rf9, rf20, rf23, rf24, rf25, rf26, rf29, rf31, rf33, rf34, rf35, rf37, rf38, rf41, rf42, rf43,  c, lr21, sr22]
      exact g1
theorem sim_live (i : Nat) (hi : i + 6 ≤ 3072) : SIM_live (Rel i) (Rel (i + 6)) := by
  intro a0 σ τ h
  have hW := h.2.2.2.2.1
  have hw := wM_w
  have hl : isLf wM 78 := Or.inl ⟨rfl, rfl⟩
  have n10 : (nI 1 = nI 0) = False := eq_false (by decide)
  show Sm i _ _
  rcases num_cases a0 0 9999 (by omega) (by omega) with hb | ⟨sd, _, hsd, rfl⟩
  · have hf := r_isFrom_n (v := a0) (a := 0) (b := 9999) (by omega) (by omega) (by rcases hb with hb | hb; exact Or.inl hb; exact Or.inr (by omega)) τ
    by_cases z : a0 < nI 0
    · simp (disch := omega) only [↓mI_e, lit, ofN, bsm, nI_add, pk_mul, pk_sub, nI_e, nI_leE, nI_ltE, nI_mI, mI_nI, mI_lt, nlt_mI, mI_le, nle_mI, nI_addm, sh_b, bI_0, bI_1, bI_bI, ckZ_b, ckZ_n0, ckZ_n1, stIe, stJe, stZ_n0, stZ_n1, rm_nI, dv_nI, if_true, if_false, if_pos, if_neg, rf0, rf1, rf5, rf6, rf7, rf8, rf9, rf20, rf23, rf24, rf25, rf26, rf29, rf31, rf33, rf34, rf35, rf37, rf38, rf41, rf42, rf43,  f_X11_live, k_X11_live_11, f_X12_live, litL, hf, z, c_refuse, r_refuse]
      exact Sm_0 h _ _
    · have z2 : ¬ a0 ≤ nI 9999 := fun q => by
        rw [Int32.le_iff_toInt_le] at q
        rw [Int32.lt_iff_toInt_lt] at z
        have e1 : (nI 9999).toInt = 9999 := rfl
        have e0 : (nI 0).toInt = 0 := rfl
        omega
      simp (disch := omega) only [↓mI_e, lit, ofN, bsm, nI_add, pk_mul, pk_sub, nI_e, nI_leE, nI_ltE, nI_mI, mI_nI, mI_lt, nlt_mI, mI_le, nle_mI, nI_addm, sh_b, bI_0, bI_1, bI_bI, ckZ_b, ckZ_n0, ckZ_n1, stIe, stJe, stZ_n0, stZ_n1, rm_nI, dv_nI, if_true, if_false, if_pos, if_neg, rf0, rf1, rf5, rf6, rf7, rf8, rf9, rf20, rf23, rf24, rf25, rf26, rf29, rf31, rf33, rf34, rf35, rf37, rf38, rf41, rf42, rf43,  f_X11_live, k_X11_live_11, f_X12_live, litL, hf, z, z2, c_refuse, r_refuse]
      exact Sm_0 h _ _
  · have hf := r_isFrom_y (k := sd) (a := 0) (b := 9999) (by omega) (by omega) (by omega) τ
    by_cases h7 : gA τ 1 7 = mI
    · have h6 : gI σ (wM + 8) 6 = nI 0 := by
        obtain ⟨_, _, _, _, _, _, _, hD, _⟩ := id hW
        rcases hD with ⟨_, z, _⟩ | ⟨L, D, l1, l2, _⟩
        · exact z
        · rw [l2] at h7
          have := nI_mI (a := L) (by omega)
          rw [h7] at this
          exact absurd rfl (of_eq_false this)
      have mm : (mI = mI) = True := eq_true rfl
      simp (disch := omega) only [↓mI_e, lit, ofN, bsm, nI_add, pk_mul, pk_sub, nI_e, nI_leE, nI_ltE, nI_mI, mI_nI, mI_lt, nlt_mI, mI_le, nle_mI, nI_addm, sh_b, bI_0, bI_1, bI_bI, ckZ_b, ckZ_n0, ckZ_n1, stIe, stJe, stZ_n0, stZ_n1, rm_nI, dv_nI, if_true, if_false, if_pos, if_neg, rf0, rf1, rf5, rf6, rf7, rf8, rf9, rf20, rf23, rf24, rf25, rf26, rf29, rf31, rf33, rf34, rf35, rf37, rf38, rf41, rf42, rf43,  f_X11_live, f_X12_live, litL, hf, c02, w_1 hw, h6, lr1, h7, mm, c_refuse, r_refuse]
      exact Sm_0 h _ _
    · have h6 : gI σ (wM + 8) 6 = nI 1 := by
        obtain ⟨_, _, _, _, _, _, _, hD, _⟩ := id hW
        rcases hD with ⟨z, _⟩ | ⟨L, D, _, _, l3, _⟩
        · exact absurd z h7
        · exact l3
      obtain ⟨σ1, τ1, L, D, s, d, a1, a2, a3, a4⟩ := L_live hl (B := 50000 * i) (by omega) hW h7 (sd := sd) (by omega)
      obtain ⟨b1, _, ⟨b3, b3'⟩, _, b5, ⟨b6, b7⟩, _⟩ := a4
      obtain ⟨G, g1, g2⟩ := r_live_53 FU 0 (sI τ1 0 28 (gI τ 0 28)) (by omega) (by unfold FU; omega) (fun j hj => by omega)
      have e40 : gI (sI τ1 0 28 (gI τ 0 28)) 0 40 = nI s := by rw [gI_sI, if_neg (by decide)]; exact b3'
      rw [e40] at g1
      have h7' : (gA τ 1 7 = mI) = False := eq_false h7
      have b3a : gI σ1 78 1 = nI s := b3
      refine ⟨nI s, sI σ1 0 14 (nI 0), sI (sI (sA (sI τ1 0 28 (gI τ 0 28)) 22 G) 0 44 (nI 1)) 0 2 (nI 0), ?_, ?_, ?_⟩
      · simp (disch := omega) only [↓mI_e, lit, ofN, bsm, nI_add, pk_mul, pk_sub, nI_e, nI_leE, nI_ltE, nI_mI, mI_nI, mI_lt, nlt_mI, mI_le, nle_mI, nI_addm, sh_b, bI_0, bI_1, bI_bI, ckZ_b, ckZ_n0, ckZ_n1, stIe, stJe, stZ_n0, stZ_n1, rm_nI, dv_nI, if_true, if_false, if_pos, if_neg, rf0, rf1, rf5, rf6, rf7, rf8, rf9, rf20, rf23, rf24, rf25, rf26, rf29, rf31, rf33, rf34, rf35, rf37, rf38, rf41, rf42, rf43,  f_X11_live, c02, w_1 hw, h6, n10, show LC.2.1 0 7 = 78 from rfl, show LC.2.1 0 11 = 97 from rfl, a1, b3a, c_answer]
      · simp (disch := omega) only [↓mI_e, lit, ofN, bsm, nI_add, pk_mul, pk_sub, nI_e, nI_leE, nI_ltE, nI_mI, mI_nI, mI_lt, nlt_mI, mI_le, nle_mI, nI_addm, sh_b, bI_0, bI_1, bI_bI, ckZ_b, ckZ_n0, ckZ_n1, stIe, stJe, stZ_n0, stZ_n1, rm_nI, dv_nI, if_true, if_false, if_pos, if_neg, rf0, rf1, rf5, rf6, rf7, rf8, rf9, rf20, rf23, rf24, rf25, rf26, rf29, rf31, rf33, rf34, rf35, rf37, rf38, rf41, rf42, rf43,  f_X12_live, litL, hf, n10, lr1, h7', a2]
        exact g1
      · obtain ⟨r1, r2, r3, r4, r5, r6⟩ := h
        have cI : ∀ x, x < 194 → (100 = x ∨ 102 ≤ x) → (∀ k, gI (sI σ1 0 14 (nI 0)) x k = gI σ x k) ∧ (∀ k, gJ (sI σ1 0 14 (nI 0)) x k = gJ σ x k) ∧ gA (sI σ1 0 14 (nI 0)) x = gA σ x ∧ gB (sI σ1 0 14 (nI 0)) x = gB σ x := fun x hx hx2 => by
          obtain ⟨z1, z2⟩ := el_out x hx hx2
          have z3 := b6.2.2 x (by omega) z1 z2
          exact ⟨fun k => by rw [gI_sI, if_neg (by omega)]; exact z3.1 k, z3.2.1, z3.2.2.1, z3.2.2.2⟩
        have c2 := b6.2.2 2 (by decide) rfl rfl
        have c3 := b6.2.2 3 (by decide) rfl rfl
        have tI : ∀ k, scI k = false → [28, 39, 40].contains k = false → k ≠ 44 → k ≠ 2 → gI (sI (sI (sA (sI τ1 0 28 (gI τ 0 28)) 22 G) 0 44 (nI 1)) 0 2 (nI 0)) 0 k = gI τ 0 k := fun k q1 q2 q3 q4 => by
          rw [gI_sI, if_neg (fun z => q4 z.2), gI_sI, if_neg (fun z => q3 z.2), gI_sA, gI_sI, if_neg]
          · exact b7.1 k q1 q2
          · intro z; rw [z.2] at q2; exact absurd q2 (by decide)
        have tA : ∀ x, scA x = false → x ≠ 1 → x ≠ 20 → x ≠ 21 → x ≠ 22 → gA (sI (sI (sA (sI τ1 0 28 (gI τ 0 28)) 22 G) 0 44 (nI 1)) 0 2 (nI 0)) x = gA τ x := fun x q1 q2 q3 q4 q5 => by
          rw [gA_sI, gA_sI, gA_sA, if_neg q5, gA_sI]; exact b7.2.2.1 x q1 q2 q3 q4
        refine ⟨⟨?_, ?_, ?_⟩, R2_c r2 (fun x k q1 q2 => (cI x (by omega) (by omega)).1 k) (fun x q1 q2 => (cI x (by omega) (by omega)).2.2.2) (tA 3 rfl (by decide) (by decide) (by decide) (by decide)) (tA 4 rfl (by decide) (by decide) (by decide) (by decide)) (b7.2.2.2.1 5), R3_c r3 (fun k => by rw [gI_sI, if_neg (by omega)]; exact c2.1 k) c3.2.2.1 (tI 10 rfl rfl (by decide) (by decide)) (tI 16 rfl rfl (by decide) (by decide)) (tI 17 rfl rfl (by decide) (by decide)) (tA 6 rfl (by decide) (by decide) (by decide) (by decide)), ⟨?_, ?_, ?_⟩, ?_, RM_c r6 (by omega) ?_ (tI 46 rfl rfl (by decide) (by decide)) (fun x q1 q2 => cI x q2 (by omega)) (fun k q1 q2 => b7.2.2.2.2 k q1 (by omega)) (b7.2.2.2.1 2)⟩
        · rw [gI_sI, if_pos ⟨rfl, rfl⟩, gI_sI, if_pos ⟨rfl, rfl⟩]
        · show gJ σ1 0 15 = gJ τ1 0 3
          rw [b6.2.1 15 rfl, b7.2.1 3 rfl]; exact r1.2.1
        · show gJ σ1 0 16 = gJ τ1 0 4
          rw [b6.2.1 16 rfl, b7.2.1 4 rfl]; exact r1.2.2
        · obtain ⟨n, n1, n2, n3, n4⟩ := r4.1
          refine ⟨n, n1, ?_, ?_, fun k hk => ?_⟩
          · rw [gI_sI, if_neg (by decide), b6.1 18 rfl]; exact n2
          · rw [tI 32 rfl rfl (by decide) (by decide)]; exact n3
          · rw [(cI 100 (by decide) (Or.inl rfl)).2.2.1, tA 14 rfl (by decide) (by decide) (by decide) (by decide)]; exact n4 k hk
        · have q : gI (sI (sI (sA (sI τ1 0 28 (gI τ 0 28)) 22 G) 0 44 (nI 1)) 0 2 (nI 0)) 0 28 = gI τ 0 28 := by
            rw [gI_sI, if_neg (by decide), gI_sI, if_neg (by decide), gI_sA, gI_sI, if_pos ⟨rfl, rfl⟩]
          rw [q, gI_sI, if_neg (by decide), b6.1 19 rfl]; exact r4.2.1
        · refine Or.inr ⟨s, a3, ?_, ?_, fun k hk => ?_⟩
          · rw [gI_sI, if_neg (by decide)]; exact b3a
          · rw [gI_sI, if_neg (by decide), gI_sI, if_pos ⟨rfl, rfl⟩]
          · rw [gA_sI, gA_sI, gA_sI, gA_sA, if_pos rfl, g2 k hk]
            exact b5 k hk
        · have e2 : gB (sI (sI (sA (sI τ1 0 28 (gI τ 0 28)) 22 G) 0 44 (nI 1)) 0 2 (nI 0)) 2 = gB τ 2 := b7.2.2.2.1 2
          rw [e2, wv_sI_out _ (by unfold wM; omega)]
          exact RelW_mono (by omega) b1
        · rw [gI_sI, if_neg (by decide), b6.1 17 rfl]
