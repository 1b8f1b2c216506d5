/-! a text begins -/
theorem sA_same (σ : ST) (x : Nat) : sA σ x (gA σ x) = σ := by
  obtain ⟨a, b, d, e⟩ := σ
  have : va_up d x (d x) = d := by
    funext y
    unfold va_up
    by_cases q : y = x
    · rw [if_pos q, q]
    · rw [if_neg q]
  show (a, b, va_up d x (d x), e) = (a, b, d, e)
  rw [this]
def tT (τ : ST) (k : Nat) : Nat := vN (gA τ 6 k &&& nI 255)
theorem tT_lt (τ : ST) (k : Nat) : tT τ k < 256 := by
  unfold tT
  rw [vN_and, vN_nI (by decide)]
  have := Nat.and_le_right (n := vN (gA τ 6 k)) (m := 255)
  omega
/-- only what begins() may change -/
def Rg (τ τ1 : ST) : Prop := (∀ k, [10, 11, 12, 13, 14, 15, 17, 18, 19].contains k = false → gI τ1 0 k = gI τ 0 k) ∧ (∀ k, gJ τ1 0 k = gJ τ 0 k) ∧ (∀ x, x ≠ 7 → gA τ1 x = gA τ x) ∧ ∀ x, gB τ1 x = gB τ x
theorem r_begins {τ : ST} {n q M : Nat} (h10 : gI τ 0 10 = nI q) (hq : q ≤ 900) (hn : n ≤ q) (hM : n ≤ M) (hM2 : M ≤ 900) (hb : ∀ k, k < n → (gA τ 6 k).toInt8.toInt32 = gA τ 6 k) : ∃ τ1, f_X12_begins 0 (nI n) (nI M) τ = some (nI 1, τ1) ∧ TX τ1 (tT τ) n ∧ RT τ1 (tT τ) n 0 ∧ gI τ1 0 18 = nI 0 ∧ gI τ1 0 17 = mI ∧ gI τ1 0 10 = nI 0 ∧ gI τ1 0 19 = nI 0 ∧ Rg τ τ1 := by
  have loop : ∀ (m j N : Nat) (τ' : ST), j + m = n → m < N → gA τ' 6 = gA τ 6 → ∃ g, k_X12_begins_26 N 0 (nI n) (nI j) τ' = (f_X12_ahead 0 (sI (sI (sI (sI (sI (sA τ' 7 g) 0 10 (nI 0)) 0 18 (nI 0)) 0 17 mI) 0 14 (nI 0)) 0 19 (nI 0))).bind (fun u7 => (ckZ 1).bind fun z => some (z, u7)) ∧ (∀ k, k < j → g k = gA τ' 7 k) ∧ ∀ k, j ≤ k → k < n → g k = gA τ 6 k := by
    intro m
    induction m with
    | zero =>
      intro j N τ' hj hN h6
      obtain ⟨N1, rfl⟩ : ∃ N1, N = N1 + 1 := ⟨N - 1, by omega⟩
      refine ⟨gA τ' 7, ?_, fun _ _ => rfl, fun k a b => by omega⟩
      rw [k_X12_begins_26, if_pos (by rw [nI_leE (by omega) (by omega)]; omega), sA_same]
      rfl
    | succ m ih =>
      intro j N τ' hj hN h6
      obtain ⟨N1, rfl⟩ : ∃ N1, N = N1 + 1 := ⟨N - 1, by omega⟩
      obtain ⟨g, g1, g2, g3⟩ := ih (j + 1) N1 (sA τ' 7 (upd (gA τ' 7) j (gA τ 6 j))) (by omega) (by omega) (by rw [gA_sA, if_neg (by decide)]; exact h6)
      refine ⟨g, ?_, fun k hk => ?_, fun k a b => ?_⟩
      · rw [k_X12_begins_26, if_neg (by rw [nI_leE (by omega) (by omega)]; omega), show LR.2.1 0 8 = 6 from rfl, la 900 rfl (by omega) (by decide), bsm, h6, hb j (by omega), show LR.2.1 0 9 = 7 from rfl, sa 900 rfl (by omega) (by decide), bsm, show nI j + 1 = nI (j + 1) from by rw [show (1 : Int32) = nI 1 from rfl, nI_add], g1, sA_sA]
      · rw [g2 k (by omega), gA_sA, if_pos rfl, upd_at, if_neg (by omega)]
      · by_cases e : k = j
        · rw [e, g2 j (by omega), gA_sA, if_pos rfl, upd_at, if_pos rfl]
        · exact g3 k (by omega) b
  obtain ⟨g, g1, g2, g3⟩ := loop n 0 FU (sI τ 0 11 (nI n)) (by omega) (by unfold FU; omega) rfl
  have g1' : k_X12_begins_26 FU 0 (nI n) 0 (sI τ 0 11 (nI n)) = _ := g1
  obtain ⟨τ', hτ'⟩ : ∃ τ', τ' = sI (sI (sI (sI (sI (sA (sI τ 0 11 (nI n)) 7 g) 0 10 (nI 0)) 0 18 (nI 0)) 0 17 mI) 0 14 (nI 0)) 0 19 (nI 0) := ⟨_, rfl⟩
  rw [← hτ'] at g1'
  have e11 : gI τ' 0 11 = nI n := by rw [hτ']; rfl
  have e14 : gI τ' 0 14 = nI 0 := by rw [hτ']; rfl
  have eA : gA τ' 7 = g := by rw [hτ']; rfl
  have hT : TX τ' (tT τ) n := ⟨e11, by omega, fun k hk => ⟨by rw [eA, g3 k (by omega) hk]; exact (nI_vN _).symm, tT_lt τ k⟩⟩
  obtain ⟨τ1, q1, q2, q3⟩ := r_ahead hT (Nat.zero_le _) e14
  refine ⟨τ1, ?_, q2.TX hT, q3, ?_, ?_, ?_, ?_, fun k hk => ?_, fun k => ?_, fun x hx => ?_, fun x => ?_⟩
  · unfold f_X12_begins
    rw [if_neg (fun z => by have := (nI_ltE (a := n) (b := 0) (by omega) (by omega)).mp z; omega), h10, if_neg (by rw [nI_ltE (by omega) (by omega)]; omega), if_pos (by rw [nI_leE (by omega) (by omega)]; exact hM), stIe, bsm, g1', q1]
    rfl
  · rw [q2.1 0 18 (by decide), hτ']; rfl
  · rw [q2.1 0 17 (by decide), hτ']; rfl
  · rw [q2.1 0 10 (by decide), hτ']; rfl
  · rw [q2.1 0 19 (by decide), hτ']; rfl
  · have n1 : k ≠ 10 ∧ k ≠ 11 ∧ k ≠ 12 ∧ k ≠ 13 ∧ k ≠ 14 ∧ k ≠ 15 ∧ k ≠ 17 ∧ k ≠ 18 ∧ k ≠ 19 := by
      simp only [List.contains_cons, List.contains_nil, Bool.or_eq_false_iff, beq_eq_false_iff_ne] at hk
      omega
    rw [q2.1 0 k (by omega), hτ', gI_sI, if_neg (by omega), gI_sI, if_neg (by omega), gI_sI, if_neg (by omega), gI_sI, if_neg (by omega), gI_sI, if_neg (by omega), gI_sA, gI_sI, if_neg (by omega)]
  · rw [q2.2.1, hτ']; rfl
  · rw [q2.2.2.1, hτ']
    show gA (sA (sI τ 0 11 (nI n)) 7 g) x = _
    rw [gA_sA, if_neg hx]; rfl
  · rw [q2.2.2.2, hτ']; rfl
theorem r_begins_no {τ : ST} {q : Nat} {v : Int32} {M : Nat} (h10 : gI τ 0 10 = nI q) (h : v < 0 ∨ nI q < v ∨ ¬ v ≤ nI M) : f_X12_begins 0 v (nI M) τ = some (nI 0, τ) := by
  unfold f_X12_begins
  rw [h10]
  by_cases h1 : v < 0
  · rw [if_pos h1]; rfl
  · rw [if_neg h1]
    by_cases h2 : nI q < v
    · rw [if_pos h2]; rfl
    · rw [if_neg h2, if_neg (by
        rcases h with z | z | z
        · exact absurd z h1
        · exact absurd z h2
        · exact z)]; rfl
/-! an empty slot -/
def eF (k : Nat) : Int32 := if k = 0 then nI 3 else if k = 1 ∨ k = 2 then nI 1 else if k = 7 ∨ k = 4440 ∨ k = 4448 ∨ k = 4456 ∨ k = 4464 then mI else nI 0
theorem r_empties {sl : Nat} (hs : sl + 4850 ≤ 29600) (τ : ST) : ∃ u, f_X12_empties 0 (nI sl) τ = some (sA τ 1 u) ∧ (∀ k, k < sl ∨ sl + 4850 ≤ k → u k = gA τ 1 k) ∧ ∀ k, k < 4850 → u (sl + k) = eF k := by
  obtain ⟨F', hF', hF2⟩ : ∃ F', FU = F' ∧ 5000 < F' := ⟨FU, rfl, by unfold FU; omega⟩
  obtain ⟨F1, rfl⟩ : ∃ F1, F' = F1 + 1 + 1 + 1 + 1 + 1 := ⟨F' - 5, by omega⟩
  have tail : ∀ τ' : ST, k_X12_empties_63 (F1 + 1 + 1 + 1 + 1 + 1) 0 (nI sl) 0 τ' = some (sA τ' 1 (upd (upd (upd (upd (gA τ' 1) (sl + 4440) mI) (sl + 4440 + 8) mI) (sl + 4440 + 16) mI) (sl + 4440 + 24) mI)) := fun τ' => by
    have st : ∀ (w : ST) (d : Nat), d < 4 → stA LR w (LR.2.1 0 0) ((nI sl + 4440) + (8 * nI d)) (-1) = some (sA w 1 (upd (gA w 1) (sl + 4440 + 8 * d) mI)) := fun w d hd => by
      rw [show (4440 : Int32) = nI 4440 from rfl, show (8 : Int32) = nI 8 from rfl, pk_mul, nI_add, nI_add]
      exact sA1_st (by omega) _
    have st0 := st τ' 0 (by omega)
    rw [k_X12_empties_63, if_neg (by decide)]
    rw [show (0 : Int32) = nI 0 from rfl, st0, bsm, show nI 0 + 1 = nI 1 from rfl, k_X12_empties_63, if_neg (by decide), st _ 1 (by omega), bsm, show nI 1 + 1 = nI 2 from rfl, k_X12_empties_63, if_neg (by decide), st _ 2 (by omega), bsm, show nI 2 + 1 = nI 3 from rfl, k_X12_empties_63, if_neg (by decide), st _ 3 (by omega), bsm, show nI 3 + 1 = nI 4 from rfl, k_X12_empties_63, if_pos (by decide)]
    simp only [gA_sA, if_true, sA_sA]
  have loop : ∀ (m j N : Nat) (τ' : ST), j + m = 4850 → m < N → ∃ u, k_X12_empties_2 N 0 (nI sl) (nI j) τ' = some (sA τ' 1 u) ∧ (∀ k, k < sl ∨ sl + 4850 ≤ k → u k = gA τ' 1 k) ∧ ∀ k, k < 4850 → u (sl + k) = if j ≤ k ∨ k = 0 ∨ k = 1 ∨ k = 2 ∨ k = 7 ∨ k = 4440 ∨ k = 4448 ∨ k = 4456 ∨ k = 4464 then eF k else gA τ' 1 (sl + k) := by
    intro m
    induction m with
    | zero =>
      intro j N τ' hj hN
      obtain ⟨N1, rfl⟩ : ∃ N1, N = N1 + 1 := ⟨N - 1, by omega⟩
      obtain ⟨u, hu⟩ : ∃ u, u = upd (upd (upd (upd (upd (upd (upd (upd (gA τ' 1) (sl + 0) (nI 3)) (sl + 1) (nI 1)) (sl + 2) (nI 1)) (sl + 7) mI) (sl + 4440) mI) (sl + 4440 + 8) mI) (sl + 4440 + 16) mI) (sl + 4440 + 24) mI := ⟨_, rfl⟩
      refine ⟨u, ?_, fun k hk => ?_, fun k hk => ?_⟩
      · rw [k_X12_empties_2, if_pos (show (4850 : Int32) ≤ nI j from (nI_leE (a := 4850) (b := j) (by omega) (by omega)).mpr (by omega)), show (0 : Int32) = nI 0 from rfl, show (1 : Int32) = nI 1 from rfl, show (2 : Int32) = nI 2 from rfl, show (7 : Int32) = nI 7 from rfl, nI_add, nI_add, nI_add, nI_add, sA1_st (by omega), bsm, sA1_st (by omega), bsm, sA1_st (by omega), bsm, sA1_st (by omega), bsm, hF']
        refine (tail _).trans ?_
        rw [hu]
        simp only [gA_sA, if_true, sA_sA]
        rfl
      · rw [hu]
        simp only [upd_at]
        rw [if_neg (by omega), if_neg (by omega), if_neg (by omega), if_neg (by omega), if_neg (by omega), if_neg (by omega), if_neg (by omega), if_neg (by omega)]
      · rw [hu]
        unfold eF
        simp only [upd_at]
        by_cases e0 : k = 0
        · subst e0
          rw [if_neg (by omega), if_neg (by omega), if_neg (by omega), if_neg (by omega), if_neg (by omega), if_neg (by omega), if_neg (by omega), if_pos (by omega), if_pos (by omega), if_pos rfl]
        · by_cases e1 : k = 1
          · subst e1
            rw [if_neg (by omega), if_neg (by omega), if_neg (by omega), if_neg (by omega), if_neg (by omega), if_neg (by omega), if_pos (by omega), if_pos (by omega), if_neg (by omega), if_pos (by omega)]
          · by_cases e2 : k = 2
            · subst e2
              rw [if_neg (by omega), if_neg (by omega), if_neg (by omega), if_neg (by omega), if_neg (by omega), if_pos (by omega), if_pos (by omega), if_neg (by omega), if_pos (by omega)]
            · by_cases e7 : k = 7 ∨ k = 4440 ∨ k = 4448 ∨ k = 4456 ∨ k = 4464
              · rw [if_pos (show j ≤ k ∨ k = 0 ∨ k = 1 ∨ k = 2 ∨ k = 7 ∨ k = 4440 ∨ k = 4448 ∨ k = 4456 ∨ k = 4464 by omega), if_neg e0, if_neg (show ¬ (k = 1 ∨ k = 2) by omega), if_pos e7]
                by_cases q1 : sl + k = sl + 4440 + 24
                · rw [if_pos q1]
                · rw [if_neg q1]
                  by_cases q2 : sl + k = sl + 4440 + 16
                  · rw [if_pos q2]
                  · rw [if_neg q2]
                    by_cases q3 : sl + k = sl + 4440 + 8
                    · rw [if_pos q3]
                    · rw [if_neg q3]
                      by_cases q4 : sl + k = sl + 4440
                      · rw [if_pos q4]
                      · rw [if_neg q4, if_pos (by omega)]
              · rw [if_neg (show ¬ (j ≤ k ∨ k = 0 ∨ k = 1 ∨ k = 2 ∨ k = 7 ∨ k = 4440 ∨ k = 4448 ∨ k = 4456 ∨ k = 4464) by omega), if_neg (by omega), if_neg (by omega), if_neg (by omega), if_neg (by omega), if_neg (by omega), if_neg (by omega), if_neg (by omega), if_neg (by omega)]
    | succ m ih =>
      intro j N τ' hj hN
      obtain ⟨N1, rfl⟩ : ∃ N1, N = N1 + 1 := ⟨N - 1, by omega⟩
      obtain ⟨u, u1, u2, u3⟩ := ih (j + 1) N1 (sA τ' 1 (upd (gA τ' 1) (sl + j) (nI 0))) (by omega) (by omega)
      refine ⟨u, ?_, fun k hk => ?_, fun k hk => ?_⟩
      · rw [k_X12_empties_2, if_neg (fun z => by have := (nI_leE (a := 4850) (b := j) (by omega) (by omega)).mp z; omega), nI_add, sA1_st (by omega), bsm, show nI j + 1 = nI (j + 1) from by rw [show (1 : Int32) = nI 1 from rfl, nI_add]]
        refine u1.trans ?_
        rw [sA_sA]
      · rw [u2 k hk, gA_sA, if_pos rfl, upd_at, if_neg (by omega)]
      · rw [u3 k hk, gA_sA, if_pos rfl, upd_at]
        by_cases e : k = j
        · subst e
          rw [if_pos rfl, if_pos (Or.inl (Nat.le_refl _))]
          by_cases q : k = 0 ∨ k = 1 ∨ k = 2 ∨ k = 7 ∨ k = 4440 ∨ k = 4448 ∨ k = 4456 ∨ k = 4464
          · rw [if_pos (Or.inr q)]
          · rw [if_neg (by omega)]
            unfold eF
            rw [if_neg (by omega), if_neg (by omega), if_neg (by omega)]
        · rw [if_neg (show ¬ sl + k = sl + j by omega)]
          by_cases q : j + 1 ≤ k ∨ k = 0 ∨ k = 1 ∨ k = 2 ∨ k = 7 ∨ k = 4440 ∨ k = 4448 ∨ k = 4456 ∨ k = 4464
          · rw [if_pos q, if_pos (by omega)]
          · rw [if_neg q, if_neg (by omega)]
  obtain ⟨u, u1, u2, u3⟩ := loop 4850 0 (F1 + 1 + 1 + 1 + 1 + 1) τ (by omega) (by omega)
  refine ⟨u, ?_, u2, fun k hk => by rw [u3 k hk, if_pos (Or.inl (Nat.zero_le _))]⟩
  unfold f_X12_empties
  rw [hF']
  exact u1
