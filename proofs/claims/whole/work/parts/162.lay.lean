/-! rows of a shelf that was read -/
def LB (F : Nat → Int32) (σ : ST) : Prop := gI σ 33 6 = nI (KN F) ∧ gI σ 33 7 = nI (YN F) ∧ gI σ 33 9 = nI (NN F) ∧ (∀ j, j < KN F → gA σ 34 j = F (10 + j)) ∧ ∀ j, j < YN F → gA σ 36 j = F (16 + j)
theorem LB.s38 {F : Nat → Int32} {σ : ST} (h : LB F σ) (u : Nat → Int32) : LB F (sA σ 38 u) := ⟨h.1, h.2.1, h.2.2.1, fun j hj => by rw [gA_sA, if_neg (by decide)]; exact h.2.2.2.1 j hj, fun j hj => by rw [gA_sA, if_neg (by decide)]; exact h.2.2.2.2 j hj⟩
theorem LB.s39 {F : Nat → Int32} {σ : ST} (h : LB F σ) (u : Nat → Int32) : LB F (sA σ 39 u) := ⟨h.1, h.2.1, h.2.2.1, fun j hj => by rw [gA_sA, if_neg (by decide)]; exact h.2.2.2.1 j hj, fun j hj => by rw [gA_sA, if_neg (by decide)]; exact h.2.2.2.2 j hj⟩
theorem c_wayF3 {F : Nat → Int32} (hf : WFs F) {σ : ST} (h : LB F σ) {y k : Nat} (hy : y < YN F) (hk : k < KN F) : f_X7_wayFrom 33 (nI y) (F (10 + k)) σ = some (nI (wy F y k), σ) := by
  obtain ⟨w1, w2, _, _, _, w3, w4, _⟩ := hf
  have h1 := w3 k hk
  have h2 := w4 y hy
  have e : gA σ 36 y = nI (ya F y) := by rw [h.2.2.2.2 y hy]; exact eya F y
  unfold f_X7_wayFrom wy
  rw [show LC.2.1 33 2 = 36 from rfl, la 6 rfl (by omega) (by decide), bsm, e, eka F k]
  by_cases c : ka F k < ya F y
  · rw [if_pos (by rw [nI_ltE (by omega) (by omega)]; exact c), bsm, show (1000 : Int32) = nI 1000 from rfl, sub_add (by omega), Nat.mod_eq_of_lt (by omega)]
    rfl
  · rw [if_neg (by rw [nI_ltE (by omega) (by omega)]; exact c), bsm, pk_sub (by omega), show (ka F k + 1000 - ya F y) % 1000 = ka F k - ya F y by omega]
    rfl
theorem cnt_n (P : Nat → Bool) (n : Nat) : cnt P (n + 1) = cnt P n + (if P n = true then 1 else 0) := by
  rw [cnt]
  all_goals (cases P n <;> simp)
theorem c_kA3 {F : Nat → Int32} (hf : WFs F) {σ : ST} (h : LB F σ) {y k : Nat} (hy : y < YN F) (hk : k < KN F) : f_X7_keepersAhead 33 (nI y) (F (10 + k)) σ = some (nI (rk (wy F y) (KN F) k), σ) := by
  have w1 := hf.1
  have hlt := wy_lt F y
  have loop : ∀ (m j N : Nat), j + m = KN F → m < N → k_X7_keepersAhead_13 N 33 (nI y) (nI (wy F y k)) (nI (cnt (fun i => decide (wy F y i < wy F y k)) j)) (nI j) σ = some (nI (rk (wy F y) (KN F) k), σ) := by
    intro m
    induction m with
    | zero =>
      intro j N hj hN
      obtain ⟨N1, rfl⟩ : ∃ N1, N = N1 + 1 := ⟨N - 1, by omega⟩
      rw [k_X7_keepersAhead_13, h.1, if_pos (by rw [nI_leE (by omega) (by omega)]; omega), show j = KN F by omega]
      rfl
    | succ m ih =>
      intro j N hj hN
      obtain ⟨N1, rfl⟩ : ∃ N1, N = N1 + 1 := ⟨N - 1, by omega⟩
      have IH := ih (j + 1) N1 (by omega) (by omega)
      rw [k_X7_keepersAhead_13, h.1, if_neg (by rw [nI_leE (by omega) (by omega)]; omega), show LC.2.1 33 0 = 34 from rfl, la 6 rfl (by omega) (by decide), bsm, h.2.2.2.1 j (by omega), c_wayF3 hf h hy (by omega), bsm]
      unfold k_X7_keepersAhead_41
      rw [cnt_n] at IH
      have l1 := hlt j
      have l2 := hlt k
      by_cases e : wy F y j < wy F y k
      · rw [if_pos (decide_eq_true e)] at IH
        rw [if_neg (show ¬ nI (wy F y k) ≤ ((nI (wy F y j), σ) : Int32 × ST).1 from fun q => by
          have := (nI_leE (a := wy F y k) (b := wy F y j) (by omega) (by omega)).mp q; omega), show nI j + 1 = nI (j + 1) from by rw [show (1 : Int32) = nI 1 from rfl, nI_add], show ∀ x : Nat, nI x + 1 = nI (x + 1) from fun x => by rw [show (1 : Int32) = nI 1 from rfl, nI_add]]
        exact IH
      · rw [if_neg (fun q => e (of_decide_eq_true q))] at IH
        rw [if_pos (show nI (wy F y k) ≤ ((nI (wy F y j), σ) : Int32 × ST).1 from (nI_leE (a := wy F y k) (b := wy F y j) (by omega) (by omega)).mpr (by omega)), show nI j + 1 = nI (j + 1) from by rw [show (1 : Int32) = nI 1 from rfl, nI_add]]
        exact IH
  unfold f_X7_keepersAhead
  rw [c_wayF3 hf h hy hk, bsm]
  exact loop (KN F) 0 FU (by omega) (by unfold FU; omega)
def Lf (σ σ1 : ST) : Prop := (∀ x k, gI σ1 x k = gI σ x k) ∧ (∀ x k, gJ σ1 x k = gJ σ x k) ∧ (∀ x, x ≠ 38 → x ≠ 39 → gA σ1 x = gA σ x) ∧ ∀ x, gB σ1 x = gB σ x
theorem Lf.rf (σ : ST) : Lf σ σ := ⟨fun _ _ => rfl, fun _ _ => rfl, fun _ _ _ => rfl, fun _ => rfl⟩
theorem Lf.trans {σ σ1 σ2 : ST} (h : Lf σ σ1) (h2 : Lf σ1 σ2) : Lf σ σ2 := ⟨fun x k => (h2.1 x k).trans (h.1 x k), fun x k => (h2.2.1 x k).trans (h.2.1 x k), fun x a b => (h2.2.2.1 x a b).trans (h.2.2.1 x a b), fun x => (h2.2.2.2 x).trans (h.2.2.2 x)⟩
theorem Lf.sA {σ σ1 : ST} (h : Lf σ σ1) {x : Nat} (hx : x = 38 ∨ x = 39) (u : Nat → Int32) : Lf σ (sA σ1 x u) := h.trans ⟨fun _ _ => rfl, fun _ _ => rfl, fun y a b => by rw [gA_sA, if_neg (by omega)], fun _ => rfl⟩
def Lo3 (y : Nat) (σ σ1 : ST) : Prop := (∀ z, z ≠ y → gA σ1 39 z = gA σ 39 z) ∧ ∀ a b, b < 6 → a ≠ y → gA σ1 38 (a * 6 + b) = gA σ 38 (a * 6 + b)
theorem lay_in {F : Nat → Int32} (hf : WFs F) {y : Nat} (hy : y < YN F) (rec2 : Nat → Int32 → ST → Option ST) : ∀ (m k N : Nat) (σ : ST), k + m = KN F → m < N → LB F σ → (∀ j, j < k → gA σ 38 (y * 6 + rk (wy F y) (KN F) j) = nI j) → (∀ b, bt (gA σ 39 y) b = decide (b < k ∧ rk (wy F y) (KN F) b < NN F)) → ∃ σ1, k_X7_layRows_19 rec2 N 33 (nI y) (nI k) σ = rec2 33 (nI (y + 1)) σ1 ∧ LB F σ1 ∧ Lf σ σ1 ∧ Lo3 y σ σ1 ∧ (∀ j, j < KN F → gA σ1 38 (y * 6 + rk (wy F y) (KN F) j) = nI j) ∧ ∀ b, bt (gA σ1 39 y) b = isPl F y b := by
  intro m
  have w1 := hf.1
  have w2 := hf.2.1
  have w3 := hf.2.2.1
  induction m with
  | zero =>
    intro k N σ hk hN hB h1 h2
    obtain ⟨N1, rfl⟩ : ∃ N1, N = N1 + 1 := ⟨N - 1, by omega⟩
    have e : k = KN F := by omega
    subst e
    refine ⟨σ, ?_, hB, Lf.rf σ, ⟨fun _ _ => rfl, fun _ _ _ _ => rfl⟩, h1, h2⟩
    rw [k_X7_layRows_19, hB.1, if_pos (by rw [nI_leE (by omega) (by omega)]; exact Nat.le_refl _), show nI y + 1 = nI (y + 1) from by rw [show (1 : Int32) = nI 1 from rfl, nI_add]]
  | succ m ih =>
    intro k N σ hk hN hB h1 h2
    obtain ⟨N1, rfl⟩ : ∃ N1, N = N1 + 1 := ⟨N - 1, by omega⟩
    have hkK : k < KN F := by omega
    have hr := rk_bound (w := wy F y) hkK
    have hdis := wy_dis hf hy
    have a1 : ∀ j, j < k + 1 → upd (gA σ 38) (y * 6 + rk (wy F y) (KN F) k) (nI k) (y * 6 + rk (wy F y) (KN F) j) = nI j := fun j hj => by
      rw [upd_at]
      by_cases e : j = k
      · rw [e, if_pos rfl]
      · rw [if_neg (fun q => e (rk_inj hdis (by omega) hkK (by omega)))]
        exact h1 j (by omega)
    have start : k_X7_layRows_19 rec2 (N1 + 1) 33 (nI y) (nI k) σ = (if nI (NN F) ≤ nI (rk (wy F y) (KN F) k) then k_X7_layRows_71 (k_X7_layRows_19 rec2 N1) 33 (nI y) (nI k) (sA σ 38 (upd (gA σ 38) (y * 6 + rk (wy F y) (KN F) k) (nI k))) else k_X7_layRows_71 (k_X7_layRows_19 rec2 N1) 33 (nI y) (nI k) (sA (sA σ 38 (upd (gA σ 38) (y * 6 + rk (wy F y) (KN F) k) (nI k))) 39 (upd (gA σ 39) y (gA σ 39 y ||| (nI 1 <<< (nI k &&& nI 31)))))) := by
      rw [k_X7_layRows_19, hB.1, if_neg (by rw [nI_leE (by omega) (by omega)]; omega), show LC.2.1 33 0 = 34 from rfl, la 6 rfl (by omega) (by decide), bsm, hB.2.2.2.1 k hkK, c_kA3 hf hB hy hkK, bsm]
      simp only []
      rw [show (6 : Int32) = nI 6 from rfl, pk_mul, nI_add, show LC.2.1 33 4 = 38 from rfl, sa 36 rfl (by omega) (by decide), bsm]
      have e9 : gI (sA σ 38 (upd (gA σ 38) (y * 6 + rk (wy F y) (KN F) k) (nI k))) 33 9 = nI (NN F) := hB.2.2.1
      rw [e9, show LC.2.1 33 5 = 39 from rfl, la 6 rfl (by omega) (by decide), bsm, sa 6 rfl (by omega) (by decide), bsm]
      rfl
    have e71 : ∀ s', k_X7_layRows_71 (k_X7_layRows_19 rec2 N1) 33 (nI y) (nI k) s' = k_X7_layRows_19 rec2 N1 33 (nI y) (nI (k + 1)) s' := fun s' => by
      unfold k_X7_layRows_71
      rw [show nI k + 1 = nI (k + 1) from by rw [show (1 : Int32) = nI 1 from rfl, nI_add]]
    rw [start, e71, e71]
    have lo38 : ∀ a b, b < 6 → a ≠ y → upd (gA σ 38) (y * 6 + rk (wy F y) (KN F) k) (nI k) (a * 6 + b) = gA σ 38 (a * 6 + b) := fun a b hb ha => by rw [upd_at, if_neg (by omega)]
    by_cases c : NN F ≤ rk (wy F y) (KN F) k
    · rw [if_pos (by rw [nI_leE (by omega) (by omega)]; exact c)]
      obtain ⟨σ1, q1, q2, q3, q4, q5⟩ := ih (k + 1) N1 (sA σ 38 (upd (gA σ 38) (y * 6 + rk (wy F y) (KN F) k) (nI k))) (by omega) (by omega) (hB.s38 _) (fun j hj => by rw [gA_sA, if_pos rfl]; exact a1 j hj) (fun b => by
        rw [gA_sA, if_neg (by decide), h2 b]
        refine decide_eq_decide.mpr ⟨fun z => ⟨by omega, z.2⟩, fun z => ⟨?_, z.2⟩⟩
        by_cases e : b = k
        · rw [e] at z; omega
        · omega)
      refine ⟨σ1, q1, q2, ((Lf.rf σ).sA (Or.inl rfl) _).trans q3, ⟨fun z hz => (q4.1 z hz).trans (by rw [gA_sA, if_neg (by decide)]), fun a b hb ha => (q4.2 a b hb ha).trans (by rw [gA_sA, if_pos rfl]; exact lo38 a b hb ha)⟩, q5⟩
    · rw [if_neg (by rw [nI_leE (by omega) (by omega)]; exact c)]
      obtain ⟨σ1, q1, q2, q3, q4, q5⟩ := ih (k + 1) N1 (sA (sA σ 38 (upd (gA σ 38) (y * 6 + rk (wy F y) (KN F) k) (nI k))) 39 (upd (gA σ 39) y (gA σ 39 y ||| (nI 1 <<< (nI k &&& nI 31))))) (by omega) (by omega) ((hB.s38 _).s39 _) (fun j hj => by rw [gA_sA, if_neg (by decide), gA_sA, if_pos rfl]; exact a1 j hj) (fun b => by
        rw [gA_sA, if_pos rfl, upd_at, if_pos rfl, bt_ins _ (by omega), h2 b]
        by_cases e : b = k
        · rw [decide_eq_true e, Bool.or_true]
          exact (decide_eq_true ⟨by omega, by rw [e]; omega⟩).symm
        · rw [decide_eq_false e, Bool.or_false]
          exact decide_eq_decide.mpr ⟨fun z => ⟨by omega, z.2⟩, fun z => ⟨by omega, z.2⟩⟩)
      refine ⟨σ1, q1, q2, (((Lf.rf σ).sA (Or.inl rfl) _).sA (Or.inr rfl) _).trans q3, ⟨fun z hz => (q4.1 z hz).trans (by rw [gA_sA, if_pos rfl, upd_at, if_neg hz]), fun a b hb ha => (q4.2 a b hb ha).trans (by rw [gA_sA, if_neg (by decide), gA_sA, if_pos rfl]; exact lo38 a b hb ha)⟩, q5⟩
theorem c_layRows {F : Nat → Int32} (hf : WFs F) {σ : ST} (hB : LB F σ) : ∃ σ1, f_X7_layRows 33 σ = some σ1 ∧ Lf σ σ1 ∧ ∀ z, z < YN F → (∀ k, bt (gA σ1 39 z) k = isPl F z k) ∧ ∀ m, m < KN F → gA σ1 38 (z * 6 + m) = nI (rw6 F z m) := by
  have w2 := hf.2.1
  have w1 := hf.1
  have loop : ∀ (m y N : Nat) (σ : ST), y + m = YN F → m < N → LB F σ → (∀ z, z < y → (∀ k, bt (gA σ 39 z) k = isPl F z k) ∧ ∀ j, j < KN F → gA σ 38 (z * 6 + rk (wy F z) (KN F) j) = nI j) → ∃ σ1, k_X7_layRows_2 N 33 (nI y) σ = some σ1 ∧ Lf σ σ1 ∧ ∀ z, z < YN F → (∀ k, bt (gA σ1 39 z) k = isPl F z k) ∧ ∀ j, j < KN F → gA σ1 38 (z * 6 + rk (wy F z) (KN F) j) = nI j := by
    intro m
    induction m with
    | zero =>
      intro y N σ hy hN hB hd
      obtain ⟨N1, rfl⟩ : ∃ N1, N = N1 + 1 := ⟨N - 1, by omega⟩
      refine ⟨σ, ?_, Lf.rf σ, fun z hz => hd z (by omega)⟩
      rw [k_X7_layRows_2, hB.2.1, if_pos (by rw [nI_leE (by omega) (by omega)]; omega)]
    | succ m ih =>
      intro y N σ hy hN hB hd
      obtain ⟨N1, rfl⟩ : ∃ N1, N = N1 + 1 := ⟨N - 1, by omega⟩
      obtain ⟨F', hF', hF2⟩ : ∃ F', FU = F' ∧ 5000 < F' := ⟨FU, rfl, by unfold FU; omega⟩
      obtain ⟨σ1, q1, q2, q3, q4, q5, q6⟩ := lay_in hf (show y < YN F by omega) (k_X7_layRows_2 N1) (KN F) 0 F' (sA σ 39 (upd (gA σ 39) y (nI 0))) (by omega) (by omega) (hB.s39 _) (fun j hj => by omega) (fun b => by rw [gA_sA, if_pos rfl, upd_at, if_pos rfl, bt_n0]; exact (decide_eq_false (fun z => by omega)).symm)
      obtain ⟨σ2, p1, p2, p3⟩ := ih (y + 1) N1 σ1 (by omega) (by omega) q2 (fun z hz => by
        by_cases e : z = y
        · rw [e]; exact ⟨q6, q5⟩
        · obtain ⟨d1, d2⟩ := hd z (by omega)
          have n1 := q4.1 z e
          rw [gA_sA, if_pos rfl, upd_at, if_neg e] at n1
          refine ⟨fun k => by rw [n1]; exact d1 k, fun j hj => ?_⟩
          have hb := rk_bound (w := wy F z) hj
          rw [q4.2 z _ (by omega) e, gA_sA, if_neg (by decide)]
          exact d2 j hj)
      refine ⟨σ2, ?_, (((Lf.rf σ).sA (Or.inr rfl) _).trans q3).trans p2, p3⟩
      rw [k_X7_layRows_2, hB.2.1, if_neg (by rw [nI_leE (by omega) (by omega)]; omega), show LC.2.1 33 5 = 39 from rfl, sa 6 rfl (by omega) (by decide), bsm, hF']
      exact q1.trans p1
  obtain ⟨σ1, p1, p2, p3⟩ := loop (YN F) 0 FU σ (by omega) (by unfold FU; omega) hB (fun z hz => by omega)
  refine ⟨σ1, p1, p2, fun z hz => ⟨(p3 z hz).1, fun m hm => ?_⟩⟩
  have hd := wy_dis hf hz
  obtain ⟨r1, r2⟩ := rho_in hd hm
  have := (p3 z hz).2 _ r1
  rw [r2] at this
  exact this
