/-! the days, once taken -/
def clD (σ : ST) : ST := sI (sI (sI (sI σ 40 4 (nI 0)) 41 6 (nI 0)) 41 7 (nI 0)) 41 8 (nI 0)
theorem c_clearD (σ : ST) : f_X3_isTaken 40 σ = k_X3_isTaken_14 FU 40 0 (clD σ) := by
  have e1 : ∀ w : ST, stI w 40 4 0 = some (sI w 40 4 (nI 0)) := fun w => Eq.trans rfl rfl
  have e2 : ∀ w : ST, f_X2_clear 41 w = some (sI (sI (sI w 41 6 (nI 0)) 41 7 (nI 0)) 41 8 (nI 0)) := fun w => Eq.trans rfl rfl
  unfold f_X3_isTaken
  rw [e1, bsm, show LC.2.1 40 0 = 41 from rfl, e2, bsm]
  unfold clD
  rfl
theorem cpy0 (a b : Nat → Int32) {n j : Nat} (h : j < n) : va_cpy a b 0 0 n j = a j := by
  unfold va_cpy
  rw [if_pos ⟨Nat.zero_le _, by omega⟩, show 0 + (j - 0) = j by omega]
theorem c_copyD {σ : ST} {L C : Nat} (hL : L ≤ 60) (h6 : gI σ 41 6 = nI 1) (h7 : gI σ 41 7 = nI L) (h8 : gI σ 41 8 = nI C) : ∃ σ3, f_X2_copy 12 41 σ = some σ3 ∧ (gI σ3 12 6 = nI 1 ∧ gI σ3 12 7 = nI L ∧ gI σ3 12 8 = nI C) ∧ (∀ x k, x ≠ 12 → gI σ3 x k = gI σ x k) ∧ (∀ x k, gJ σ3 x k = gJ σ x k) ∧ (∀ x, gB σ3 x = gB σ x) ∧ (∀ x, ¬ (13 ≤ x ∧ x < 19) → gA σ3 x = gA σ x) ∧ ∀ j, j < L → gA σ3 13 j = gA σ 42 j ∧ gA σ3 14 j = gA σ 43 j ∧ gA σ3 15 j = gA σ 44 j ∧ gA σ3 16 j = gA σ 45 j ∧ gA σ3 17 j = gA σ 46 j ∧ gA σ3 18 j = gA σ 47 j := by
  have z : ∀ w : ST, stZ w 12 6 (nI 1) = some (sI w 12 6 (nI 1)) := fun w => stZ_n1 _ _ _
  have cc : ∀ (y z : Nat) (w : ST), LC.2.2.1 y = 60 → LC.2.2.1 z = 60 → cpA LC w y 0 z 0 (nI L) = some (sA w z (va_cpy (gA w y) (gA w z) 0 0 L)) := fun y z w a b => cpA_n (a := 0) (b := 0) 60 60 a b (by omega) (by omega) (by decide) (by decide)
  obtain ⟨S, hS⟩ : ∃ S, S = sI (sI (sI σ 12 6 (nI 1)) 12 7 (nI L)) 12 8 (nI C) := ⟨_, rfl⟩
  have s7 : gI S 12 7 = nI L := by rw [hS, gI_sI, if_neg (by decide), gI_sI, if_pos ⟨rfl, rfl⟩]
  have sg : ∀ x, gA S x = gA σ x := fun x => by rw [hS]; rfl
  have g1 : gI (sI σ 12 6 (nI 1)) 41 7 = nI L := by rw [gI_sI, if_neg (by decide)]; exact h7
  have g2 : gI (sI (sI σ 12 6 (nI 1)) 12 7 (nI L)) 41 8 = nI C := by rw [gI_sI, if_neg (by decide), gI_sI, if_neg (by decide)]; exact h8
  obtain ⟨a1, ha1⟩ : ∃ a, a = va_cpy (gA σ 42) (gA σ 13) 0 0 L := ⟨_, rfl⟩
  obtain ⟨a2, ha2⟩ : ∃ a, a = va_cpy (gA σ 43) (gA σ 14) 0 0 L := ⟨_, rfl⟩
  obtain ⟨a3, ha3⟩ : ∃ a, a = va_cpy (gA σ 44) (gA σ 15) 0 0 L := ⟨_, rfl⟩
  obtain ⟨a4, ha4⟩ : ∃ a, a = va_cpy (gA σ 45) (gA σ 16) 0 0 L := ⟨_, rfl⟩
  obtain ⟨a5, ha5⟩ : ∃ a, a = va_cpy (gA σ 46) (gA σ 17) 0 0 L := ⟨_, rfl⟩
  obtain ⟨a6, ha6⟩ : ∃ a, a = va_cpy (gA σ 47) (gA σ 18) 0 0 L := ⟨_, rfl⟩
  have c1 : cpA LC S 42 0 13 0 (nI L) = some (sA S 13 a1) := by rw [cc 42 13 S rfl rfl, sg, sg, ha1]
  have c2 : cpA LC (sA S 13 a1) 43 0 14 0 (nI L) = some (sA (sA S 13 a1) 14 a2) := by rw [cc 43 14 _ rfl rfl, gA_sA, if_neg (by decide), gA_sA, if_neg (by decide), sg, sg, ha2]
  have c3 : cpA LC (sA (sA S 13 a1) 14 a2) 44 0 15 0 (nI L) = some (sA (sA (sA S 13 a1) 14 a2) 15 a3) := by rw [cc 44 15 _ rfl rfl, gA_sA, if_neg (by decide), gA_sA, if_neg (by decide), gA_sA, if_neg (by decide), gA_sA, if_neg (by decide), sg, sg, ha3]
  have c4 : cpA LC (sA (sA (sA S 13 a1) 14 a2) 15 a3) 45 0 16 0 (nI L) = some (sA (sA (sA (sA S 13 a1) 14 a2) 15 a3) 16 a4) := by rw [cc 45 16 _ rfl rfl, gA_sA, if_neg (by decide), gA_sA, if_neg (by decide), gA_sA, if_neg (by decide), gA_sA, if_neg (by decide), gA_sA, if_neg (by decide), gA_sA, if_neg (by decide), sg, sg, ha4]
  have c5 : cpA LC (sA (sA (sA (sA S 13 a1) 14 a2) 15 a3) 16 a4) 46 0 17 0 (nI L) = some (sA (sA (sA (sA (sA S 13 a1) 14 a2) 15 a3) 16 a4) 17 a5) := by rw [cc 46 17 _ rfl rfl, gA_sA, if_neg (by decide), gA_sA, if_neg (by decide), gA_sA, if_neg (by decide), gA_sA, if_neg (by decide), gA_sA, if_neg (by decide), gA_sA, if_neg (by decide), gA_sA, if_neg (by decide), gA_sA, if_neg (by decide), sg, sg, ha5]
  have c6 : cpA LC (sA (sA (sA (sA (sA S 13 a1) 14 a2) 15 a3) 16 a4) 17 a5) 47 0 18 0 (nI L) = some (sA (sA (sA (sA (sA (sA S 13 a1) 14 a2) 15 a3) 16 a4) 17 a5) 18 a6) := by rw [cc 47 18 _ rfl rfl, gA_sA, if_neg (by decide), gA_sA, if_neg (by decide), gA_sA, if_neg (by decide), gA_sA, if_neg (by decide), gA_sA, if_neg (by decide), gA_sA, if_neg (by decide), gA_sA, if_neg (by decide), gA_sA, if_neg (by decide), gA_sA, if_neg (by decide), gA_sA, if_neg (by decide), sg, sg, ha6]
  have gx : ∀ x k, x ≠ 12 → gI S x k = gI σ x k := fun x k hx => by rw [hS, gI_sI, if_neg (fun q => hx q.1), gI_sI, if_neg (fun q => hx q.1), gI_sI, if_neg (fun q => hx q.1)]
  refine ⟨sA (sA (sA (sA (sA (sA S 13 a1) 14 a2) 15 a3) 16 a4) 17 a5) 18 a6, ?_, ⟨?_, s7, ?_⟩, fun x k hx => gx x k hx, fun x k => by rw [hS]; rfl, fun x => by rw [hS]; rfl, fun x hx => ?_, fun j hj => ⟨?_, ?_, ?_, ?_, ?_, ?_⟩⟩
  · unfold f_X2_copy
    rw [h6, z, bsm, g1, stIe, bsm, g2, stIe, bsm, ← hS, show LC.2.1 41 0 = 42 from rfl, show LC.2.1 12 0 = 13 from rfl, show LC.2.1 41 1 = 43 from rfl, show LC.2.1 12 1 = 14 from rfl, show LC.2.1 41 2 = 44 from rfl, show LC.2.1 12 2 = 15 from rfl, show LC.2.1 41 3 = 45 from rfl, show LC.2.1 12 3 = 16 from rfl, show LC.2.1 41 4 = 46 from rfl, show LC.2.1 12 4 = 17 from rfl, show LC.2.1 41 5 = 47 from rfl, show LC.2.1 12 5 = 18 from rfl, s7, c1, bsm, gI_sA, s7, c2, bsm, gI_sA, gI_sA, s7, c3, bsm, gI_sA, gI_sA, gI_sA, s7, c4, bsm, gI_sA, gI_sA, gI_sA, gI_sA, s7, c5, bsm, gI_sA, gI_sA, gI_sA, gI_sA, gI_sA, s7, c6, bsm]
  · show gI S 12 6 = _
    rw [hS, gI_sI, if_neg (by decide), gI_sI, if_neg (by decide), gI_sI, if_pos ⟨rfl, rfl⟩]
  · show gI S 12 8 = _
    rw [hS, gI_sI, if_pos ⟨rfl, rfl⟩]
  · rw [gA_sA, if_neg (by omega), gA_sA, if_neg (by omega), gA_sA, if_neg (by omega), gA_sA, if_neg (by omega), gA_sA, if_neg (by omega), gA_sA, if_neg (by omega)]; exact sg x
  · rw [gA_sA, if_neg (by decide), gA_sA, if_neg (by decide), gA_sA, if_neg (by decide), gA_sA, if_neg (by decide), gA_sA, if_neg (by decide), gA_sA, if_pos rfl, ha1, cpy0 _ _ hj]
  · rw [gA_sA, if_neg (by decide), gA_sA, if_neg (by decide), gA_sA, if_neg (by decide), gA_sA, if_neg (by decide), gA_sA, if_pos rfl, ha2, cpy0 _ _ hj]
  · rw [gA_sA, if_neg (by decide), gA_sA, if_neg (by decide), gA_sA, if_neg (by decide), gA_sA, if_pos rfl, ha3, cpy0 _ _ hj]
  · rw [gA_sA, if_neg (by decide), gA_sA, if_neg (by decide), gA_sA, if_pos rfl, ha4, cpy0 _ _ hj]
  · rw [gA_sA, if_neg (by decide), gA_sA, if_pos rfl, ha5, cpy0 _ _ hj]
  · rw [gA_sA, if_pos rfl, ha6, cpy0 _ _ hj]
theorem kd103 : ∀ (m j N : Nat) (τ : ST), j + m = 4850 → m < N → ∃ u, k_X12_days_103 N 0 (nI j) τ = k_X12_days_132 0 (sA τ 1 u) ∧ (∀ k, j ≤ k → k < 4850 → u k = gA τ 1 (19400 + k)) ∧ ∀ k, k < j ∨ 4850 ≤ k → u k = gA τ 1 k := by
  intro m
  induction m with
  | zero =>
    intro j N τ hj hN
    obtain ⟨N1, rfl⟩ : ∃ N1, N = N1 + 1 := ⟨N - 1, by omega⟩
    refine ⟨gA τ 1, ?_, fun k a b => by omega, fun _ _ => rfl⟩
    rw [k_X12_days_103, if_pos (show (4850 : Int32) ≤ nI j from (nI_leE (a := 4850) (b := j) (by omega) (by omega)).mpr (by omega)), sA_same]
  | succ m ih =>
    intro j N τ hj hN
    obtain ⟨N1, rfl⟩ : ∃ N1, N = N1 + 1 := ⟨N - 1, by omega⟩
    obtain ⟨u, u1, u2, u3⟩ := ih (j + 1) N1 (sA τ 1 (upd (gA τ 1) j (gA τ 1 (19400 + j)))) (by omega) (by omega)
    refine ⟨u, ?_, fun k a b => ?_, fun k a => ?_⟩
    · rw [k_X12_days_103, if_neg (fun z => by have := (nI_leE (a := 4850) (b := j) (by omega) (by omega)).mp z; omega), show (19400 : Int32) + nI j = nI (19400 + j) from nI_add 19400 j, ldA1 (by omega), bsm, sA1_st (by omega), bsm, show nI j + 1 = nI (j + 1) from by rw [show (1 : Int32) = nI 1 from rfl, nI_add], u1, sA_sA]
    · by_cases e : k = j
      · rw [e, u3 j (by omega), gA_sA, if_pos rfl, upd_at, if_pos rfl]
      · rw [u2 k (by omega) b, gA_sA, if_pos rfl, upd_at, if_neg (by omega)]
    · rw [u3 k (by omega), gA_sA, if_pos rfl, upd_at, if_neg (by omega)]
theorem rd132_ok {τ : ST} (h : gI τ 0 18 = nI 0) : k_X12_days_132 0 τ = some (gI τ 0 22, sI (sI τ 0 16 (nI 0)) 0 2 (nI 0)) := by
  unfold k_X12_days_132 f_X12_taken
  have e : gI (sI τ 0 16 (nI 0)) 0 18 = nI 0 := by rw [gI_sI, if_neg (by decide)]; exact h
  rw [h, stIe, bsm, e, if_pos (show nI 0 ≤ 0 by decide)]
  rfl
theorem rd132_no {τ : ST} {k : Nat} (h1 : 1 ≤ k) (h2 : k ≤ 7) (h : gI τ 0 18 = nI k) : k_X12_days_132 0 τ = some (mI, sI (sI τ 0 16 (nI k)) 0 2 (nI 9)) := by
  unfold k_X12_days_132 f_X12_taken
  have e : gI (sI τ 0 16 (nI k)) 0 18 = nI k := by rw [gI_sI, if_neg (by decide)]; exact h
  rw [h, stIe, bsm, e, if_neg (fun q => by have := (nI_leE (a := k) (b := 0) (by omega) (by omega)).mp q; omega)]
  rfl
theorem RelW_days {B : Nat} {s s' : ST} {f f' : Nat → Int32} {g : Nat → Int64} (h : RelW B s f g) (hlow : ∀ k, k ≠ 7 → k < 4480 → f' k = f k) (hi : ∀ x k, x ≠ 8 → gI s' x k = gI s x k) (ha : ∀ x, ¬ (9 ≤ x ∧ x < 15) → gA s' x = gA s x) (hb : ∀ x, gB s' x = gB s x) (hD : RDy s' f') : RelW B s' f' g := by
  obtain ⟨hS, hU, hT, hG, hV, hH, hI, _, hN⟩ := h
  have hh : Hd f f' := fun k hk => hlow k (by omega) (by omega)
  have hY := hS.1.2.1
  have hgv : ∀ k y, k < 6 → y < 6 → gv f k y ≤ gv f' k y := fun k y hk hy => by rw [gv_c (fun j a b => hlow j (by omega) (by omega)) hk hy]; exact Nat.le_refl _
  exact ⟨RS_c hh hS (fun k => hi 1 k (by decide)) (ha 2 (by omega)) (ha 4 (by omega)) (ha 6 (by omega)) (ha 7 (by omega)), RU_c hU (hlow 5 (by omega) (by omega)) (hlow 6 (by omega) (by omega)) (hi 0 9 (by decide)) (hi 0 10 (by decide)), RT_c hh hY hT (fun k a b => hlow k (by omega) (by omega)) hgv (hi 0 11 (by decide)) (ha 23 (by omega)) (ha 24 (by omega)) (ha 25 (by omega)), RG_c hh hG (fun k a b => hlow k (by omega) (by omega)) (ha 26 (by omega)), RV_c hG hV (fun k a b => hlow k (by omega) (by omega)) (fun k a b => hlow k (by omega) (by omega)) (ha 27 (by omega)), RH_c hh hH hgv (fun k a b => hlow k (by omega) (by omega)) (ha 16 (by omega)) (ha 17 (by omega)), RI_c hh hI hgv (fun k a b => hlow k (by omega) (by omega)) (ha 19 (by omega)) (ha 20 (by omega)) (ha 21 (by omega)), hD, RN_c hh hN (hb 3) (hb 5)⟩
theorem oM_or : ∀ o : Fin 26, oM o.1 = true → o.1 = 21 ∨ oO o.1 = true := by decide +kernel
theorem dy_RDy {s : ST} {f' f0 : Nat → Int32} {K Y L C : Nat} {D : Nat → Nat → Nat} {op : Nat → Nat} {I w y k v o m q f q8 : Nat → Int32} {d d21 c22 : Int32} (hI : DInv K Y f0 L C 0 D op I d w y k v o m q f q8 d21 c22) (hK : KN f' = K) (hY : YN f' = Y) (hY6 : Y ≤ 6) (h22 : ∀ y, y < 6 → f' (22 + y) = f0 (22 + y)) (h7 : f' 7 = nI L) (hD : ∀ k, 4480 ≤ k → k < 4850 → f' k = f (19400 + k)) (s6 : gI s 8 6 = nI 1) (s7 : gI s 8 7 = nI L) (sw : ∀ j, j < L → gA s 9 j = w j ∧ gA s 10 j = y j ∧ gA s 11 j = k j ∧ gA s 12 j = v j ∧ gA s 13 j = o j ∧ gA s 14 j = m j) : RDy s f' := by
  obtain ⟨N1, N2, N3⟩ := hI.nums
  have no : ∀ j i, i < 0 → op i ≠ j := fun j i hi => absurd hi (Nat.not_lt_zero _)
  have mate : ∀ j, j < L → oM (D j 0) = true → m j = nI (D j 5) ∧ f (23880 + 6 * j + 4) = nI (D j 5) := fun j hj hm => by
    have hr := (hI.lin j hj).2.2.1
    rcases oM_or ⟨D j 0, by omega⟩ hm with e | e
    · obtain ⟨_, _, _, m4, m5, _⟩ := hI.ens j hj e
      exact ⟨m4, m5⟩
    · obtain ⟨_, _, _, _, _, m6, m7⟩ := hI.mat j hj e (no j)
      exact ⟨m6, m7⟩
  refine Or.inr ⟨L, D, by omega, h7, s6, s7, fun j hj => ?_, fun j hj => ?_, fun j hj => ?_⟩
  · obtain ⟨_, _, l1, l2, l3, l4, l5, l6, l7, l8, l9, l10⟩ := hI.lin j hj
    refine ⟨l1, fun z => by rw [hY]; exact l2 z, fun z => ?_, fun z => ⟨?_, (l4 z).2⟩, fun z => by rw [hK]; exact l5 z, fun z => by rw [hK]; exact l6 z, l7, l8, l9, l10, fun z => ?_, fun z => ?_⟩
    · have hy := l2 (by rcases z with e | e <;> rw [e] <;> rfl)
      unfold sm
      rw [h22 _ (by omega), l3 z]
      decide
    · have hy := l2 (by rw [z]; rfl)
      unfold sm
      rw [h22 _ (by omega), (l4 z).1]
      decide
    · obtain ⟨m1, m2, m3, m4, m5, _⟩ := hI.mat j hj z (no j)
      exact ⟨m1, m2, m3, m4, fun c a b e => (m5 c a b e).1⟩
    · obtain ⟨m1, m2, m3, _⟩ := hI.ens j hj z
      exact ⟨m1, m2, m3⟩
  · obtain ⟨⟨l1, l2, l3, l4, l5⟩, _⟩ := hI.lin j hj
    obtain ⟨w1, w2, w3, w4, w5, w6⟩ := sw j hj
    rw [w1, w2, w3, w4, w5, w6]
    exact ⟨l1, l2, l3, l4, l5, fun z => (mate j hj z).1⟩
  · obtain ⟨_, ⟨l1, l2, l3, l4, l5, l6, l7, l8⟩, _⟩ := hI.lin j hj
    have e : ∀ x, x < 6 → f' (stb j x) = f (23880 + 6 * j + x) := fun x hx => by
      unfold stb
      rw [hD _ (by omega) (by omega), show 19400 + (4480 + 6 * j + x) = 23880 + 6 * j + x by omega]
    rw [e 0 (by omega), e 1 (by omega), e 2 (by omega), e 3 (by omega), e 4 (by omega), e 5 (by omega)]
    exact ⟨l1, l2, l3, l4, l5, l6, l7, fun z => (mate j hj z).2, l8⟩
