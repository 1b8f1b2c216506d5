/-! SIM of days -/
theorem sim_days (i : Nat) : SIM_days (Rel i) (Rel (i + 6)) := by
  intro a0 σ τ h
  obtain ⟨⟨q, hq, t1, t2, t3⟩, t4, t5⟩ := h.2.2.1
  show Sm i _ _
  have c01 : LC.2.1 0 1 = 2 := rfl
  by_cases hv : a0 < 0 ∨ nI q < a0 ∨ ¬ a0 ≤ nI 300
  · have e1 : f_X11_days 0 a0 σ = some (mI, sI σ 0 14 (nI 1)) := by
      unfold f_X11_days
      rw [c01, t1]
      by_cases z : a0 < 0
      · rw [if_pos z]; rfl
      · rw [if_neg z]
        by_cases z2 : nI q < a0
        · rw [if_pos z2]; rfl
        · rw [if_neg z2, if_neg (show ¬ a0 ≤ 300 from by rcases hv with y | y | y; exact absurd y z; exact absurd y z2; exact y)]; rfl
    have e2 : f_X12_days 0 a0 τ = some (mI, sI τ 0 2 (nI 1)) := by
      unfold f_X12_days
      rw [show (300 : Int32) = nI 300 from rfl, r_begins_no t2 hv, bsm, if_pos (show ((nI 0, τ) : Int32 × ST).1 = 0 from rfl)]
      rfl
    rw [e1, e2]
    exact Sm_0 h _ _
  · have hv1 : ¬ a0 < 0 := fun z => hv (Or.inl z)
    have hv2 : ¬ nI q < a0 := fun z => hv (Or.inr (Or.inl z))
    have hv3 : a0 ≤ nI 300 := by
      by_cases e : a0 ≤ nI 300
      · exact e
      · exact absurd (Or.inr (Or.inr e)) hv
    obtain ⟨n, hn31, rfl⟩ := nn_of hv1
    have hn : n ≤ q := by
      by_cases e : n ≤ q
      · exact e
      · exact absurd ((nI_ltE (a := q) (b := n) (by omega) hn31).mpr (by omega)) hv2
    have hn3 : n ≤ 300 := (nI_leE (a := n) (b := 300) (by omega) (by omega)).mp hv3
    obtain ⟨τa, b1, b2, b3, b4, b5', b6, b7', b8⟩ := r_begins (M := 300) t2 hq hn hn3 (by omega) (fun k hk => (t3 k (by omega)).2)
    obtain ⟨σ0, hσ0⟩ : ∃ σ0, σ0 = clD (opS σ n) := ⟨_, rfl⟩
    obtain ⟨τ0, hτ0⟩ : ∃ τ0, τ0 = sI (sI (sA τa 1 (upd (gA τa 1) 19407 (nI 0))) 0 21 (nI 0)) 0 22 (nI 0) := ⟨_, rfl⟩
    have g1 : ∀ k, k ≠ 19407 → gA τ0 1 k = gA τ 1 k := fun k hk => by
      rw [hτ0, gA_sI, gA_sI, gA_sA, if_pos rfl, upd_at, if_neg hk, b8.2.2.1 1 (by decide)]
    have hTC : TC σ0 (tT τ) n := by
      rw [hσ0]
      exact ⟨rfl, by omega, fun k hk => ⟨by
        show gA σ 3 k = _
        rw [(t3 k (by omega)).1]; exact (nI_vN _).symm, tT_lt τ k⟩⟩
    have hJ0 : JJ (tT τ) n 0 σ0 τa := ⟨hTC, Nat.zero_le _, by rw [hσ0]; rfl, b2, b3, b4⟩
    have hJ : JJ (tT τ) n 0 σ0 τ0 := by
      rw [hτ0]
      exact JJ_t (JJ_t (JJ_tA hJ0 (by decide) _) (by decide) _) (by decide) _
    have e0 : ∀ x, x ≠ 2 → x ≠ 40 → x ≠ 41 → ∀ k, gI σ0 x k = gI σ x k := fun x a b d k => by
      rw [hσ0]
      unfold clD opS
      rw [gI_sI, if_neg (by omega), gI_sI, if_neg (by omega), gI_sI, if_neg (by omega), gI_sI, if_neg (by omega), gI_sI, if_neg (by omega), gI_sI, if_neg (by omega), gI_sI, if_neg (by omega), gI_sI, if_neg (by omega), gI_sI, if_neg (by omega)]
    have hRW := h.2.2.2.2.1
    obtain ⟨hS, _, _, _, _, _, _, _, hNm⟩ := id hRW
    obtain ⟨⟨K, hK⟩, ⟨Y, hY⟩⟩ : (∃ K, K = KN (gA τ 1)) ∧ ∃ Y, Y = YN (gA τ 1) := ⟨⟨_, rfl⟩, ⟨_, rfl⟩⟩
    have f3 : gA τ 1 3 = nI K := by rw [hK]; exact (nI_vN _).symm
    have f4 : gA τ 1 4 = nI Y := by rw [hY]; exact (nI_vN _).symm
    have K6 : K ≤ 6 := by rw [hK]; exact hS.1.1
    have Y6 : Y ≤ 6 := by rw [hY]; exact hS.1.2.1
    have hWS : WS K Y σ0 τ0 := by
      refine ⟨K6, Y6, ?_, ?_, by rw [g1 3 (by decide)]; exact f3, by rw [g1 4 (by decide)]; exact f4, fun j hj => ?_, fun j hj => ?_, fun y hy => ?_, fun y hy => ?_⟩
      · rw [e0 5 (by decide) (by decide) (by decide), ← f3]; exact hS.2.1.1
      · rw [e0 5 (by decide) (by decide) (by decide), ← f4]; exact hS.2.1.2.1
      · have e := hNm.1 j (by rw [← hK]; exact hj)
        rw [Nat.zero_add, hτ0, hσ0]
        show NmR (gB σ 7 j) (gB τa 2 j)
        rw [b8.2.2.2 2]
        exact e
      · have e := (hNm.2 j (by rw [← hY]; exact hj)).1
        rw [hτ0, hσ0]
        show NmR (gB σ 9 j) (gB τa 2 (6 + j))
        rw [b8.2.2.2 2]
        exact e
      · rw [e0 5 (by decide) (by decide) (by decide), g1 _ (by omega)]
        refine (hS.2.2.2.2.1 y).trans ?_
        rw [decide_eq_true (show y < 6 by omega), Bool.true_and]
        rfl
      · rw [g1 _ (by omega)]
        exact (hNm.2 y (by rw [← hY]; exact hy)).2 (by omega)
    have hDI : DInv K Y (gA τ0 1) 0 0 0 (fun _ _ => 0) (fun _ => 0) (gI σ0 41) (nI 0) (gA σ0 42) (gA σ0 43) (gA σ0 44) (gA σ0 45) (gA σ0 46) (gA σ0 47) (gA σ0 48) (gA τ0 1) (gA τ0 8) (nI 0) (nI 0) := by
      refine ⟨⟨by omega, by omega, by omega⟩, ⟨by rw [hσ0]; rfl, by rw [hσ0]; rfl, rfl, ?_, rfl, rfl⟩, fun j hj => by omega, fun i j hi hj => by omega, fun j hj => by omega, fun j hj => by omega, fun j hj => by omega⟩
      rw [hτ0, gA_sI, gA_sI, gA_sA, if_pos rfl, upd_at, if_pos rfl]
    have hDW : DW (tT τ) n σ0 τ0 K Y 0 σ0 τ0 := ⟨0, 0, 0, _, _, _, _, _, _, _, _, _, _, _, _, _, _, _, hDI, hJ, ⟨FrC.rf _, FrR.rf _⟩, ⟨fun _ => rfl, by rw [hσ0]; rfl, rfl, rfl, rfl, rfl, rfl, rfl, rfl⟩, ⟨rfl, rfl, by rw [hτ0]; rfl, by rw [hτ0]; rfl⟩⟩
    obtain ⟨F, hF, hF2⟩ : ∃ F, FU = F ∧ 5000 < F := ⟨FU, rfl, by unfold FU; omega⟩
    obtain ⟨σ1, τ1, l1, l2⟩ := dy_loop hWS n 0 0 F F _ _ hn3 (by omega) (Nat.le_refl _) (by omega) (by omega) hDW
    have eC : f_X3_isTaken 40 (opS σ n) = k_X3_isTaken_14 F 40 (nI 0) σ0 := by
      rw [c_clearD, hF, hσ0]
      rfl
    have eR : f_X12_days 0 (nI n) τ = k_X12_days_77 0 τ1 := by
      unfold f_X12_days
      have b1' : f_X12_begins 0 (nI n) 300 τ = some (nI 1, τa) := b1
      rw [b1', bsm, if_neg (show ¬ ((nI 1, τa) : Int32 × ST).1 = 0 from fun z => absurd (show nI 1 = 0 from z) (by decide))]
      simp only []
      rw [show stA LR τa (LR.2.1 0 0) 19407 0 = some (sA τa 1 (upd (gA τa 1) 19407 (nI 0))) from sA1_st (k := 19407) (by decide) _, bsm, stIe, bsm, stIe, bsm, hF]
      refine Eq.trans ?_ l1
      rw [hτ0]
      rfl
    have eX : f_X11_days 0 (nI n) σ = (f_X3_isTaken 40 (opS σ n)).bind fun u6 => if u6.1 = 0 then ((f_X11_refuse 0 9 u6.2).bind fun u10 => some (u10.1, u10.2)) else ((f_X2_copy 12 41 u6.2).bind fun u8 => (f_X11_answer 0 (gI u8 12 8) u8).bind fun u9 => some (u9.1, u9.2)) := by
      unfold f_X11_days
      rw [if_neg hv1, c01, t1, if_neg hv2, if_pos (show nI n ≤ 300 from hv3), c_open, bsm]
      rfl
    have base0 : ∀ σ', FrCw σ0 σ' → (∀ k, gI σ' 0 k = gI σ 0 k) ∧ (∀ k, gJ σ' 0 k = gJ σ 0 k) ∧ (∀ x, 4 ≤ x → x < 32 ∨ 48 < x → (∀ k, gI σ' x k = gI σ x k) ∧ (∀ k, gJ σ' x k = gJ σ x k) ∧ gA σ' x = gA σ x ∧ gB σ' x = gB σ x) ∧ gI σ' 2 1 = nI 0 := fun σ' hf => by
      refine ⟨fun k => ?_, fun k => ?_, fun x a b => ?_, ?_⟩
      · rw [(hf.1 0 (by decide) (by omega)).1 k]; exact e0 0 (by decide) (by decide) (by decide) k
      · rw [(hf.1 0 (by decide) (by omega)).2.1 k, hσ0]; rfl
      · obtain ⟨w1, w2, w3, w4⟩ := hf.1 x (by omega) b
        exact ⟨fun k => by rw [w1]; exact e0 x (by omega) (by omega) (by omega) k, fun k => by rw [w2, hσ0]; rfl, by rw [w3, hσ0]; rfl, by rw [w4, hσ0]; rfl⟩
      · rw [hf.2, hσ0]; rfl
    have baseR : ∀ τ', FrRw τ0 τ' → gI τ' 0 10 = nI 0 ∧ (∀ k, 23 ≤ k → gI τ' 0 k = gI τ 0 k) ∧ (∀ k, gJ τ' 0 k = gJ τ 0 k) ∧ (∀ x, x ≠ 1 → x ≠ 7 → x ≠ 8 → gA τ' x = gA τ x) ∧ (∀ x, x ≠ 2 → gB τ' x = gB τ x) ∧ (∀ k, k < 19400 → gA τ' 1 k = gA τ 1 k) ∧ ∀ k, k < 48 → gB τ' 2 k = gB τ 2 k := fun τ' hf => by
      have fi : ∀ k, 23 ≤ k → frI k = false := fun k hk => by
        cases e : frI k
        · rfl
        · exfalso
          unfold frI at e
          simp at e
          omega
      refine ⟨?_, fun k hk => ?_, fun k => ?_, fun x a b d => ?_, fun x a => ?_, fun k hk => ?_, fun k hk => ?_⟩
      · rw [hf.1 10 rfl, hτ0]; exact b6
      · rw [hf.1 k (fi k hk), hτ0, gI_sI, if_neg (by omega), gI_sI, if_neg (by omega), gI_sA]
        refine b8.1 k ?_
        cases e : [10, 11, 12, 13, 14, 15, 17, 18, 19].contains k
        · rfl
        · exfalso
          simp at e
          omega
      · rw [hf.2.1, hτ0]; exact b8.2.1 k
      · rw [hf.2.2.1 x a d, hτ0, gA_sI, gA_sI, gA_sA, if_neg a]; exact b8.2.2.1 x b
      · rw [hf.2.2.2.2.1 x a, hτ0]; exact b8.2.2.2 x
      · rw [hf.2.2.2.1 k hk]; exact g1 k (by omega)
      · rw [hf.2.2.2.2.2 k hk, hτ0]
        show gB τa 2 k = _
        rw [b8.2.2.2 2]
    rw [eR, eX, eC]
    rcases l2 with ⟨e1, e18, p', L, C, D, op, I, d, w, y, k, v, o, m, q', f, q8, d21, c22, hI, hM⟩ | ⟨e1, ⟨⟨k, k1, k2, k3, k4⟩, k5, k6, k7⟩⟩
    · obtain ⟨B0, B1, B2, B3⟩ := base0 σ1 hM.2.1.1.1
      obtain ⟨R0, R1, R2, R3, R4, R5, R6⟩ := baseR τ1 hM.2.1.2.1
      obtain ⟨N1, N2, N3⟩ := hI.nums
      obtain ⟨i7, i8, id, i19, i21, i22⟩ := hI.ints
      have hDN := hM.2.2.1
      obtain ⟨σ3, s1, ⟨s6, s7, s8⟩, sI', sJ', sB', sA', sw⟩ := c_copyD (σ := sI σ1 41 6 (nI 1)) (L := L) (C := C) (by omega) (by rw [gI_sI, if_pos ⟨rfl, rfl⟩]) (by rw [gI_sI, if_neg (by decide)]; exact (hDN.1 7).trans i7) (by rw [gI_sI, if_neg (by decide)]; exact (hDN.1 8).trans i8)
      obtain ⟨τ2, hτ2⟩ : ∃ τ2, τ2 = sA τ1 1 (upd (gA τ1 1) 7 (nI L)) := ⟨_, rfl⟩
      obtain ⟨u, v1, v2, v3⟩ := kd103 370 4480 F τ2 (by omega) (by omega)
      have v1' : k_X12_days_103 F 0 4480 τ2 = k_X12_days_132 0 (sA τ2 1 u) := v1
      have hf1 : gA τ1 1 = f := hM.2.2.2.1
      have e18' : gI (sA τ2 1 u) 0 18 = nI 0 := by rw [hτ2]; exact e18
      have e22' : gI (sA τ2 1 u) 0 22 = nI C := by rw [hτ2]; exact hM.2.2.2.2.2.2.trans i22
      have rr : k_X12_days_77 0 τ1 = some (nI C, sI (sI (sA τ2 1 u) 0 16 (nI 0)) 0 2 (nI 0)) := by
        unfold k_X12_days_77
        rw [e18, if_pos (show nI 0 = 0 from rfl), show ldA LR τ1 (LR.2.1 0 0) 19407 = some (nI L) from (ldA1 (τ := τ1) (k := 19407) (by decide)).trans (by rw [hf1, i19]), bsm, show stA LR τ1 (LR.2.1 0 0) 7 (nI L) = some (sA τ1 1 (upd (gA τ1 1) 7 (nI L))) from sA1_st (k := 7) (by decide) _, bsm, ← hτ2, hF, v1', rd132_ok e18', e22']
      have cc : ((some (nI 1, sI σ1 41 6 (nI 1)) : Option (Int32 × ST)).bind fun u6 => if u6.1 = 0 then ((f_X11_refuse 0 9 u6.2).bind fun u10 => some (u10.1, u10.2)) else ((f_X2_copy 12 41 u6.2).bind fun u8 => (f_X11_answer 0 (gI u8 12 8) u8).bind fun u9 => some (u9.1, u9.2))) = some (nI C, sI σ3 0 14 (nI 0)) := by
        rw [bsm, if_neg (show ¬ ((nI 1, sI σ1 41 6 (nI 1)) : Int32 × ST).1 = 0 from fun z => absurd (show nI 1 = 0 from z) (by decide))]
        simp only []
        rw [s1, bsm, s8]
        rfl
      rw [e1, rr, cc]
      have uL : ∀ k, k ≠ 7 → k < 4480 → u k = gA τ 1 k := fun k a b => by
        rw [v3 k (Or.inl b), hτ2, gA_sA, if_pos rfl, upd_at, if_neg a]; exact R5 k (by omega)
      have u7 : u 7 = nI L := by rw [v3 7 (by omega), hτ2, gA_sA, if_pos rfl, upd_at, if_pos rfl]
      have uD : ∀ k, 4480 ≤ k → k < 4850 → u k = f (19400 + k) := fun k a b => by
        rw [v2 k a b, hτ2, gA_sA, if_pos rfl, upd_at, if_neg (by omega), hf1]
      have uH : ∀ k, 4850 ≤ k → k < 19400 → u k = gA τ 1 k := fun k a b => by
        rw [v3 k (Or.inr a), hτ2, gA_sA, if_pos rfl, upd_at, if_neg (by omega)]; exact R5 k b
      have i41 : ∀ x k, x ≠ 41 → gI (sI σ1 41 6 (nI 1)) x k = gI σ1 x k := fun x k hx => by rw [gI_sI, if_neg (fun z => hx z.1)]
      have cI : ∀ x, x ≠ 12 → x ≠ 41 → ∀ k, gI σ3 x k = gI σ1 x k := fun x a b k => (sI' x k a).trans (i41 x k b)
      have ffk : gI σ1 2 2 = nI 0 ∧ gI σ1 2 3 = mI ∧ gI τ1 0 17 = mI := ⟨by rw [hM.2.1.1.2.1, hσ0]; rfl, by rw [hM.2.1.1.2.2, hσ0]; rfl, by rw [hM.2.1.2.2, hτ0]; exact b5'⟩
      refine ⟨nI C, _, _, rfl, rfl, Rel_tx h ?_ ?_ ?_ ?_ ?_ ?_ ?_ ?_ ?_ ?_ ?_ ?_ ?_ ?_ ?_⟩
      · rfl
      · intro k hk
        rw [gI_sI, if_neg (fun z => hk z.2), cI 0 (by decide) (by decide)]; exact B0 k
      · intro k; rw [gJ_sI, sJ']; exact B1 k
      · intro x hx49
        obtain ⟨m1, m2, m3, m4⟩ := B2 x (by omega) (by omega)
        exact ⟨fun k => by rw [gI_sI, if_neg (by omega), cI x (by omega) (by omega), m1], fun k => by rw [gJ_sI, sJ']; exact m2 k, by rw [gA_sI, sA' x (by omega)]; exact m3, by rw [gB_sI, sB' x]; exact m4⟩
      · rw [gI_sI, if_neg (by decide), cI 2 (by decide) (by decide)]; exact B3
      · rw [gI_sI, if_neg (by decide), gI_sI, if_neg (by decide), hτ2]; exact R0
      · rw [gI_sI, if_neg (by decide), cI 2 (by decide) (by decide), ffk.1, gI_sI, if_neg (by decide), gI_sI, if_pos ⟨rfl, rfl⟩]
      · rw [gI_sI, if_neg (by decide), cI 2 (by decide) (by decide), ffk.2.1, gI_sI, if_neg (by decide), gI_sI, if_neg (by decide), hτ2]; exact ffk.2.2.symm
      · intro k hk
        rw [gI_sI, if_neg (by omega), gI_sI, if_neg (by omega), hτ2]; exact R1 k hk
      · intro k; rw [gJ_sI, gJ_sI, hτ2]; exact R2 k
      · intro x a b d
        rw [gA_sI, gA_sI, gA_sA, if_neg a, hτ2, gA_sA, if_neg a]; exact R3 x a b d
      · intro x a
        rw [gB_sI, gB_sI, hτ2]; exact R4 x a
      · intro k hk hk2
        rw [gA_sI, gA_sI, gA_sA, if_pos rfl]; exact uH k hk hk2
      · intro k hk hk2
        rw [gB_sI, gB_sI, hτ2]; exact R6 k hk2
      · have hKu : KN u = K := by unfold KN; rw [uL 3 (by decide) (by omega), hK]; rfl
        have hYu : YN u = Y := by unfold YN; rw [uL 4 (by decide) (by omega), hY]; rfl
        have hW0 : RelW (50000 * (i + 6)) (wv σ wM) (gA τ 1) (gB τ 2) := RelW_mono (by omega) hRW
        refine RelW_congr (f := u) (g := gB τ 2) (fun k hk => by rw [gA_sI, gA_sI, gA_sA, if_pos rfl]) (fun k hk => by rw [gB_sI, gB_sI, hτ2]; exact R6 k (by omega)) ?_
        have wI : ∀ x k, x < 28 → x ≠ 8 → gI (wv (sI σ3 0 14 (nI 0)) wM) x k = gI (wv σ wM) x k := fun x k hx h8 => by
          rw [wv_I _ _ hx, wv_I _ _ hx]
          show gI (sI σ3 0 14 (nI 0)) (4 + x) k = gI σ (4 + x) k
          rw [gI_sI, if_neg (by omega), cI _ (by omega) (by omega)]
          exact (B2 (4 + x) (by omega) (by omega)).1 k
        have wA : ∀ x, x < 28 → ¬ (9 ≤ x ∧ x < 15) → gA (wv (sI σ3 0 14 (nI 0)) wM) x = gA (wv σ wM) x := fun x hx h8 => by
          rw [wv_A _ _ hx, wv_A _ _ hx]
          show gA (sI σ3 0 14 (nI 0)) (4 + x) = gA σ (4 + x)
          rw [gA_sI, sA' _ (by omega)]
          exact (B2 (4 + x) (by omega) (by omega)).2.2.1
        have wB : ∀ x, x < 28 → gB (wv (sI σ3 0 14 (nI 0)) wM) x = gB (wv σ wM) x := fun x hx => by
          rw [wv_B _ _ hx, wv_B _ _ hx]
          show gB (sI σ3 0 14 (nI 0)) (4 + x) = gB σ (4 + x)
          rw [gB_sI, sB']
          exact (B2 (4 + x) (by omega) (by omega)).2.2.2
        have oI : ∀ (s : ST) x k, ¬ x < 28 → gI (wv s wM) x k = 0 := fun s x k hx => if_neg hx
        have oA : ∀ (s : ST) x, ¬ x < 28 → gA (wv s wM) x = fun _ => 0 := fun s x hx => if_neg hx
        have oB : ∀ (s : ST) x, ¬ x < 28 → gB (wv s wM) x = fun _ => 0 := fun s x hx => if_neg hx
        refine RelW_days hW0 uL (fun x k h8 => ?_) (fun x hx => ?_) (fun x => ?_) (dy_RDy hI hKu hYu Y6 (fun y hy => ?_) u7 uD ?_ ?_ (fun j hj => ?_))
        · by_cases hx : x < 28
          · exact wI x k hx h8
          · rw [oI _ x k hx, oI _ x k hx]
        · by_cases hx2 : x < 28
          · exact wA x hx2 hx
          · rw [oA _ x hx2, oA _ x hx2]
        · by_cases hx : x < 28
          · exact wB x hx
          · rw [oB _ x hx, oB _ x hx]
        · rw [uL _ (by omega) (by omega), g1 _ (by omega)]
        · rw [wv_I _ _ (by decide)]
          show gI (sI σ3 0 14 (nI 0)) 12 6 = nI 1
          rw [gI_sI, if_neg (by decide)]; exact s6
        · rw [wv_I _ _ (by decide)]
          show gI (sI σ3 0 14 (nI 0)) 12 7 = nI L
          rw [gI_sI, if_neg (by decide)]; exact s7
        · rw [wv_A _ _ (by decide), wv_A _ _ (by decide), wv_A _ _ (by decide), wv_A _ _ (by decide), wv_A _ _ (by decide), wv_A _ _ (by decide)]
          obtain ⟨w1, w2, w3, w4, w5, w6⟩ := sw j hj
          obtain ⟨d1, d2, d3, d4, d5, d6, d7, d8, d9⟩ := hDN
          refine ⟨?_, ?_, ?_, ?_, ?_, ?_⟩
          · show gA (sI σ3 0 14 (nI 0)) 13 j = _
            rw [gA_sI, w1, gA_sI, d3]
          · show gA (sI σ3 0 14 (nI 0)) 14 j = _
            rw [gA_sI, w2, gA_sI, d4]
          · show gA (sI σ3 0 14 (nI 0)) 15 j = _
            rw [gA_sI, w3, gA_sI, d5]
          · show gA (sI σ3 0 14 (nI 0)) 16 j = _
            rw [gA_sI, w4, gA_sI, d6]
          · show gA (sI σ3 0 14 (nI 0)) 17 j = _
            rw [gA_sI, w5, gA_sI, d7]
          · show gA (sI σ3 0 14 (nI 0)) 18 j = _
            rw [gA_sI, w6, gA_sI, d8]
    · obtain ⟨B0, B1, B2, B3⟩ := base0 σ1 k6
      obtain ⟨R0, R1, R2, R3, R4, R5, R6⟩ := baseR τ1 k7
      have rr : k_X12_days_77 0 τ1 = some (mI, sI (sI τ1 0 16 (nI k)) 0 2 (nI 9)) := by
        unfold k_X12_days_77
        rw [k4, if_neg (fun z => by have := (nI_e (a := k) (b := 0) (by omega) (by omega)).mp z; omega), rd132_no k1 k2 k4]
      rw [e1, rr, bsm, if_pos (show ((nI 0, σ1) : Int32 × ST).1 = 0 from rfl)]
      refine ⟨mI, sI σ1 0 14 (nI 9), _, rfl, rfl, Rel_tx h ?_ ?_ ?_ ?_ ?_ ?_ ?_ ?_ ?_ ?_ ?_ ?_ ?_ ?_ ?_⟩
      · rfl
      · intro k hk
        rw [gI_sI, if_neg (fun z => hk z.2)]; exact B0 k
      · intro k; rw [gJ_sI]; exact B1 k
      · intro x hx49
        obtain ⟨m1, m2, m3, m4⟩ := B2 x (by omega) (by omega)
        exact ⟨fun k => by rw [gI_sI, if_neg (by omega), m1], fun k => by rw [gJ_sI, m2], m3, m4⟩
      · rw [gI_sI, if_neg (by decide)]; exact B3
      · rw [gI_sI, if_neg (by decide), gI_sI, if_neg (by decide)]; exact R0
      · rw [gI_sI, if_neg (by decide), k3, gI_sI, if_neg (by decide), gI_sI, if_pos ⟨rfl, rfl⟩]
      · rw [gI_sI, if_neg (by decide), k5, gI_sI, if_neg (by decide), gI_sI, if_neg (by decide)]
      · intro k hk
        rw [gI_sI, if_neg (by omega), gI_sI, if_neg (by omega)]; exact R1 k hk
      · intro k; rw [gJ_sI, gJ_sI]; exact R2 k
      · intro x a b d; exact R3 x a b d
      · intro x a; exact R4 x a
      · intro k hk hk2; exact R5 k hk2
      · intro k hk hk2; exact R6 k hk2
      · exact RelW_kept h (fun x a b => by
          obtain ⟨m1, m2, m3, m4⟩ := B2 x a (Or.inl b)
          exact ⟨fun k => by rw [gI_sI, if_neg (by omega), m1], fun k => by rw [gJ_sI, m2], m3, m4⟩) (fun k hk => R5 k (by omega)) (fun k hk => R6 k (by omega))
