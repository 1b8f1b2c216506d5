/-! the loop of days -/
theorem dy_loop {t : Nat → Nat} {n K Y : Nat} {σ0 τ0 : ST} (hW : WS K Y σ0 τ0) : ∀ (m p turn N N' : Nat) (σ τ : ST), n ≤ 300 → n - p ≤ m → turn ≤ p → m < N → m + 1 < N' → DW t n σ0 τ0 K Y p σ τ → ∃ σ1 τ1, k_X12_days_38 N' 0 1 τ = k_X12_days_77 0 τ1 ∧ ((k_X3_isTaken_14 N 40 (nI turn) σ = some (nI 1, sI σ1 41 6 (nI 1)) ∧ gI τ1 0 18 = nI 0 ∧ ∃ p' L C D op I d w y k v o m q f q8 d21 c22, DInv K Y (gA τ0 1) L C 0 D op I d w y k v o m q f q8 d21 c22 ∧ MDC t n σ0 τ0 p' I d w y k v o m q f q8 d21 c22 σ1 τ1) ∨ (k_X3_isTaken_14 N 40 (nI turn) σ = some (nI 0, σ1) ∧ FF σ0 τ0 σ1 τ1)) := by
  have ends : ∀ (p turn N1 N2 : Nat) (σ τ : ST), n ≤ 300 → turn ≤ n → tK t n p = 0 → DW t n σ0 τ0 K Y p σ τ → ∃ σ1 τ1, k_X12_days_38 (N2 + 1) 0 1 τ = k_X12_days_77 0 τ1 ∧ ((k_X3_isTaken_14 (N1 + 1) 40 (nI turn) σ = some (nI 1, sI σ1 41 6 (nI 1)) ∧ gI τ1 0 18 = nI 0 ∧ ∃ p' L C D op I d w y k v o m q f q8 d21 c22, DInv K Y (gA τ0 1) L C 0 D op I d w y k v o m q f q8 d21 c22 ∧ MDC t n σ0 τ0 p' I d w y k v o m q f q8 d21 c22 σ1 τ1) ∨ (k_X3_isTaken_14 (N1 + 1) 40 (nI turn) σ = some (nI 0, σ1) ∧ FF σ0 τ0 σ1 τ1)) := fun p turn N1 N2 σ τ hn ht z hw => by
    obtain ⟨L, C, dd, D, op, I, d, w, y, k, v, o, m, q, f, q8, d21, c22, hI, hM⟩ := hw
    obtain ⟨N1', N2', N3'⟩ := hI.nums
    obtain ⟨i7, i8, id, i19, i21, i22⟩ := hI.ints
    obtain ⟨σ1, s1, hC⟩ := hM.step
    have g4 : gI (sI σ1 41 6 (nI 1)) 40 4 = nI dd := by rw [gI_sI, if_neg (by decide)]; exact hC.2.2.1.2.1.trans id
    have g21 : gI τ 0 21 = nI dd := hM.2.2.2.2.2.1.trans i21
    have g18 := hM.1.2.2.2.2.2
    have eZ : stZ σ1 41 6 1 = some (sI σ1 41 6 (nI 1)) := Eq.trans rfl rfl
    have eR : k_X12_days_38 (N2 + 1) 0 1 τ = k_X12_days_57 0 τ := by
      rw [k_X12_days_38, if_neg (show ¬ (1 : Int32) = 0 by decide), hM.1.2.2.2.2.1.1, z, if_pos (show nI 0 = 0 from rfl)]
    have eC : k_X3_isTaken_14 (N1 + 1) 40 (nI turn) σ = if nI dd = 0 then (k_X3_isTaken_64 (sI σ1 41 6 (nI 1))) else ((f_X6_blame 2 2 (sI σ1 41 6 (nI 1))).bind fun u11 => if u11.1 = 0 then (k_X3_isTaken_69 0 u11.2) else (k_X3_isTaken_64 u11.2)) := by
      rw [k_X3_isTaken_14, if_neg (fun q => by have := (nI_ltE (a := 300) (b := turn) (by omega) (by omega)).mp q; omega), show LC.2.1 40 1 = 2 from rfl, s1, bsm, hC.1.2.2.1.1, z, if_pos (show nI (ckd 0) = 0 from rfl), show LC.2.1 40 0 = 41 from rfl, eZ, bsm, g4]
    rw [eR, eC]
    unfold k_X12_days_57
    rw [g18, if_pos (show nI 0 = 0 from rfl), g21]
    by_cases z0 : dd = 0
    · subst z0
      refine ⟨σ1, τ, ?_, Or.inl ⟨?_, g18, p, L, C, D, op, I, d, w, y, k, v, o, m, q, f, q8, d21, c22, hI, hC⟩⟩
      · rw [if_pos (show nI 0 ≤ 0 by decide)]
      · rw [if_pos (show nI 0 = 0 from rfl)]; rfl
    · obtain ⟨σf, τf, b1, b2, b3⟩ := both_fail (k := 2) (JC_sI hC.1 (x := 41) (k := 6) (by decide) (nI 1)) ⟨hC.2.1.1.sI (x := 41) (k := 6) (nI 1) (Or.inr (by decide)), hC.2.1.2⟩ (by omega) (by omega)
      have b1' : f_X6_blame 2 2 (sI σ1 41 6 (nI 1)) = some (nI 0, σf) := b1
      have b2' : f_X12_fails 0 2 τ = some (nI 0, τf) := b2
      refine ⟨σf, τf, ?_, Or.inr ⟨?_, b3⟩⟩
      · rw [if_neg (show ¬ nI dd ≤ 0 from fun q => by have := (nI_leE (a := dd) (b := 0) (by omega) (by omega)).mp q; omega), b2', bsm]
      · rw [if_neg (show ¬ nI dd = 0 from fun q => z0 ((nI_e (a := dd) (b := 0) (by omega) (by omega)).mp q)), b1', bsm]
        rfl
  intro m
  induction m with
  | zero =>
    intro p turn N N' σ τ hn hm ht hN hN' hw
    obtain ⟨N1, rfl⟩ : ∃ N1, N = N1 + 1 := ⟨N - 1, by omega⟩
    obtain ⟨N2, rfl⟩ : ∃ N2, N' = N2 + 1 := ⟨N' - 1, by omega⟩
    have hp : p ≤ n := by
      obtain ⟨L, C, dd, D, op, I, d, w, y, k, v, o, m, q, f, q8, d21, c22, hI, hM⟩ := hw
      exact hM.1.2.1
    have z : tK t n p = 0 := by
      unfold tK
      rw [if_pos (by have := (tF_sp t hp).1; omega)]
    exact ends p turn N1 N2 σ τ hn (by omega) z hw
  | succ m ih =>
    intro p turn N N' σ τ hn hm ht hN hN' hw
    obtain ⟨N1, rfl⟩ : ∃ N1, N = N1 + 1 := ⟨N - 1, by omega⟩
    obtain ⟨N2, rfl⟩ : ∃ N2, N' = N2 + 1 := ⟨N' - 1, by omega⟩
    have hp : p ≤ n := by
      obtain ⟨L, C, dd, D, op, I, d, w, y, k, v, o, m, q, f, q8, d21, c22, hI, hM⟩ := hw
      exact hM.1.2.1
    by_cases z : tK t n p = 0
    · exact ends p turn N1 N2 σ τ hn (by omega) z hw
    · have k0 : (nI (tK t n p) = (0 : Int32)) = (tK t n p = 0) := nI_e (b := 0) (by have := tK_le t n p; omega) (by omega)
      have c0 := ck_e t n p (k := 0) (by omega)
      obtain ⟨L, C, dd, D, op, I, d, w, y, k, v, o, mm, q, f, q8, d21, c22, hI, hM⟩ := hw
      obtain ⟨σ1, s1, hC⟩ := hM.step
      have h8 := CT_8 hC.1.2.2.1
      have hl := tW_le t n p
      have eR : k_X12_days_38 (N2 + 1) 0 1 τ = (f_X12_step 0 τ).bind fun u13 => k_X12_days_38 N2 0 u13.1 u13.2 := by
        rw [k_X12_days_38, if_neg (show ¬ (1 : Int32) = 0 by decide), hM.1.2.2.2.2.1.1, if_neg (by rw [k0]; exact z)]
      have tab : ∀ a : Fin 26, (nI (cW a.1) = (24 : Int32)) ↔ a.1 = 21 := by decide +kernel
      have h24 : (gI σ1 2 8 = 24) ↔ tW t n p = 21 := by
        rw [h8]
        by_cases e : tW t n p = 26
        · rw [if_pos e, e]; decide
        · rw [if_neg e]; exact tab ⟨tW t n p, by omega⟩
      have eC : ∀ (X : Option (Int32 × ST)), (tW t n p = 21 → X = f_X3_takesEnd 40 σ1) → (tW t n p ≠ 21 → X = f_X3_takesStep 40 σ1) → k_X3_isTaken_14 (N1 + 1) 40 (nI turn) σ = X.bind fun u7 => if u7.1 = 0 then (k_X3_isTaken_99 u7.2) else (k_X3_isTaken_14 N1 40 (nI (turn + 1)) u7.2) := fun X x1 x2 => by
        rw [k_X3_isTaken_14, if_neg (fun q => by have := (nI_ltE (a := 300) (b := turn) (by omega) (by omega)).mp q; omega), show LC.2.1 40 1 = 2 from rfl, s1, bsm, hC.1.2.2.1.1, if_neg (show ¬ nI (ckd (tK t n p)) = 0 from fun q => z (by rw [← c0]; exact q))]
        unfold k_X3_isTaken_101
        rw [show nI turn + 1 = nI (turn + 1) from by rw [show (1 : Int32) = nI 1 from rfl, nI_add]]
        by_cases e : tW t n p = 21
        · rw [if_pos (h24.mpr e), x1 e]
        · rw [if_neg (fun q => e (h24.mp q)), x2 e]
      have key : ∃ X, (tW t n p = 21 → X = f_X3_takesEnd 40 σ1) ∧ (tW t n p ≠ 21 → X = f_X3_takesStep 40 σ1) ∧ Out σ0 τ0 (fun σ1 τ1 => ∃ p', p < p' ∧ DW t n σ0 τ0 K Y p' σ1 τ1) X (f_X12_step 0 τ) := by
        by_cases e : tW t n p = 21
        · exact ⟨_, fun _ => rfl, fun q => absurd e q, st_end hI hC e⟩
        · exact ⟨_, fun q => absurd q e, fun _ => rfl, st_step hW hI hC e z (by omega)⟩
      obtain ⟨X, x1, x2, hX⟩ := key
      rw [eR, eC X x1 x2]
      rcases hX with ⟨σ2, τ2, e1, e2, p', hp', hw'⟩ | ⟨σ2, τ2, e1, e2, hf⟩
      · rw [e1, e2, bsm, bsm, if_neg (show ¬ ((nI 1, σ2) : Int32 × ST).1 = 0 from fun z => absurd (show nI 1 = 0 from z) (by decide))]
        exact ih p' (turn + 1) N1 N2 σ2 τ2 hn (by omega) (by omega) (by omega) (by omega) hw'
      · obtain ⟨N3, rfl⟩ : ∃ N3, N2 = N3 + 1 := ⟨N2 - 1, by omega⟩
        refine ⟨σ2, τ2, ?_, Or.inr ⟨?_, hf⟩⟩
        · obtain ⟨k, k1, k2, k3, k4⟩ := hf.1
          rw [e2, bsm]
          show k_X12_days_38 (N3 + 1) 0 (nI 0) τ2 = _
          rw [k_X12_days_38, if_pos (show nI 0 = 0 from rfl)]
          unfold k_X12_days_57
          rw [k4, if_neg (show ¬ nI k = 0 from fun q => by have := (nI_e (a := k) (b := 0) (by omega) (by omega)).mp q; omega)]
        · rw [e1, bsm, if_pos (show ((nI 0, σ2) : Int32 × ST).1 = 0 from rfl)]
          rfl
