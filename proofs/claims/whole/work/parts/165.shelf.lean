/-! SIM of shelf -/
theorem Rel_tx {i : Nat} {σ τ σ1 τ1 : ST} (h : Rel i σ τ) (h14 : gI σ1 0 14 = gI τ1 0 2) (c0I : ∀ k, k ≠ 14 → gI σ1 0 k = gI σ 0 k) (c0J : ∀ k, gJ σ1 0 k = gJ σ 0 k) (cx : ∀ x, 49 ≤ x → (∀ k, gI σ1 x k = gI σ x k) ∧ (∀ k, gJ σ1 x k = gJ σ x k) ∧ gA σ1 x = gA σ x ∧ gB σ1 x = gB σ x) (c21 : gI σ1 2 1 = nI 0) (r10 : gI τ1 0 10 = nI 0) (e2 : gI σ1 2 2 = gI τ1 0 16) (e3 : gI σ1 2 3 = gI τ1 0 17) (rI : ∀ k, 23 ≤ k → gI τ1 0 k = gI τ 0 k) (rJ : ∀ k, gJ τ1 0 k = gJ τ 0 k) (rA : ∀ x, x ≠ 1 → x ≠ 7 → x ≠ 8 → gA τ1 x = gA τ x) (rB : ∀ x, x ≠ 2 → gB τ1 x = gB τ x) (rm : ∀ k, 4850 ≤ k → k < 19400 → gA τ1 1 k = gA τ 1 k) (rn : ∀ k, 12 ≤ k → k < 48 → gB τ1 2 k = gB τ 2 k) (hW : RelW (50000 * (i + 6)) (wv σ1 wM) (gA τ1 1) (gB τ1 2)) : Rel (i + 6) σ1 τ1 := by
  obtain ⟨h1, h2, h3, h4, h5, h6⟩ := h
  refine ⟨⟨h14, ?_, ?_⟩, R2_c h2 (fun x k a b => (cx x (by omega)).1 k) (fun x a b => (cx x (by omega)).2.2.2) (rA 3 (by decide) (by decide) (by decide)) (rA 4 (by decide) (by decide) (by decide)) (rB 5 (by decide)), ⟨⟨0, by omega, c21, r10, fun k hk => by omega⟩, e2, e3⟩, R4_c h4 (c0I 18 (by decide)) (c0I 19 (by decide)) ((cx 78 (by omega)).1 1) (cx 100 (by omega)).2.2.1 (cx 79 (by omega)).2.2.1 (rI 32 (by decide)) (rI 28 (by decide)) (rI 44 (by decide)) (rA 14 (by decide) (by decide) (by decide)) (rA 22 (by decide) (by decide) (by decide)), hW, ?_⟩
  · rw [c0J, rJ]; exact h1.2.1
  · rw [c0J, rJ]; exact h1.2.2
  · obtain ⟨n, n1, n2, n3, n4⟩ := h6
    refine ⟨n, n1, by rw [c0I 17 (by decide)]; exact n2, by rw [rI 46 (by decide)]; exact n3, fun j hj => ?_⟩
    rw [wv_same (σ := σ) (σ' := σ1) (fun x a b => cx x (by omega))]
    exact RelW_congr (fun k hk => rm _ (by omega) (by omega)) (fun k hk => rn _ (by omega) (by omega)) (RelW_mono (by omega) (n4 j hj))
theorem RelW_kept {i : Nat} {σ τ σ1 τ1 : ST} (h : Rel i σ τ) (cw : ∀ x, 4 ≤ x → x < 32 → (∀ k, gI σ1 x k = gI σ x k) ∧ (∀ k, gJ σ1 x k = gJ σ x k) ∧ gA σ1 x = gA σ x ∧ gB σ1 x = gB σ x) (rm : ∀ k, k < 4850 → gA τ1 1 k = gA τ 1 k) (rn : ∀ k, k < 12 → gB τ1 2 k = gB τ 2 k) : RelW (50000 * (i + 6)) (wv σ1 wM) (gA τ1 1) (gB τ1 2) := by
  rw [wv_same (σ := σ) (σ' := σ1) (w := wM) (fun x a b => by unfold wM at a b; exact cw x (by omega) (by omega))]
  exact RelW_congr rm rn (RelW_mono (by omega) h.2.2.2.2.1)
def opS (σ : ST) (n : Nat) : ST := sI (sI (sI (sI (sI σ 2 1 (nI 0)) 2 10 (nI n)) 2 11 (nI 0)) 2 2 (nI 0)) 2 3 mI
theorem c_open (σ : ST) (n : Nat) : f_X6_open 2 (nI n) σ = some (opS σ n) := Eq.trans rfl rfl
def clS (σ : ST) : ST := sI (sI (sI (sI (sI (sI (sI σ 33 6 (nI 0)) 33 7 (nI 0)) 33 8 (nI 0)) 33 9 (nI 3)) 33 10 (nI 1)) 33 11 (nI 1)) 32 2 (nI 0)
theorem c_clear33 (σ : ST) : (f_X7_clear 33 σ).bind (fun u10 => (stZ u10 32 2 0).bind fun σ11 => k_X8_isTaken_14 FU 32 0 σ11) = k_X8_isTaken_14 FU 32 0 (clS σ) := by
  have e1 : f_X7_clear 33 σ = some (sI (sI (sI (sI (sI (sI σ 33 6 (nI 0)) 33 7 (nI 0)) 33 8 (nI 0)) 33 9 (nI 3)) 33 10 (nI 1)) 33 11 (nI 1)) := Eq.trans rfl rfl
  have e2 : ∀ w : ST, stZ w 32 2 0 = some (sI w 32 2 (nI 0)) := fun w => Eq.trans rfl rfl
  rw [e1, bsm, e2, bsm]
  unfold clS
  rfl
theorem r132_ok {τ : ST} (h : gI τ 0 18 = nI 0) : k_X12_shelf_132 0 τ = some (gA τ 1 4, sI (sI τ 0 16 (nI 0)) 0 2 (nI 0)) := by
  unfold k_X12_shelf_132 f_X12_taken
  have e : gI (sI τ 0 16 (nI 0)) 0 18 = nI 0 := by rw [gI_sI, if_neg (by decide)]; exact h
  rw [show (4 : Int32) = nI 4 from rfl, ldA1 (by decide), bsm, h, stIe, bsm, e, if_pos (show nI 0 ≤ 0 by decide)]
  rfl
theorem r132_no {τ : ST} {k : Nat} (h1 : 1 ≤ k) (h2 : k ≤ 7) (h : gI τ 0 18 = nI k) : k_X12_shelf_132 0 τ = some (mI, sI (sI τ 0 16 (nI k)) 0 2 (nI 9)) := by
  unfold k_X12_shelf_132 f_X12_taken
  have e : gI (sI τ 0 16 (nI k)) 0 18 = nI k := by rw [gI_sI, if_neg (by decide)]; exact h
  rw [show (4 : Int32) = nI 4 from rfl, ldA1 (by decide), bsm, h, stIe, bsm, e, if_neg (fun q => by have := (nI_leE (a := k) (b := 0) (by omega) (by omega)).mp q; omega)]
  rfl
theorem sB_sB2 (σ : ST) (x : Nat) (u v : Nat → Int64) : sB (sB σ x u) x v = sB σ x v := by
  obtain ⟨a, b, d, e⟩ := σ
  have : va_up (va_up e x u) x v = va_up e x v := by
    funext y
    unfold va_up
    by_cases q : y = x
    · rw [if_pos q, if_pos q]
    · rw [if_neg q, if_neg q, if_neg q]
  show (a, b, d, va_up (va_up e x u) x v) = (a, b, d, va_up e x v)
  rw [this]
theorem sB_same (σ : ST) (x : Nat) : sB σ x (gB σ x) = σ := by
  obtain ⟨a, b, d, e⟩ := σ
  have : va_up e x (e x) = e := by
    funext y
    unfold va_up
    by_cases q : y = x
    · rw [if_pos q, q]
    · rw [if_neg q]
  show (a, b, d, va_up e x (e x)) = (a, b, d, e)
  rw [this]
theorem k74 : ∀ (m j N : Nat) (τ : ST), j + m = 4850 → m < N → ∃ u, k_X12_shelf_74 N 0 (nI j) τ = k_X12_shelf_105 FU 0 0 (sA τ 1 u) ∧ (∀ k, j ≤ k → k < 4850 → u k = gA τ 1 (19400 + k)) ∧ ∀ k, k < j ∨ 4850 ≤ k → u k = gA τ 1 k := by
  intro m
  induction m with
  | zero =>
    intro j N τ hj hN
    obtain ⟨N1, rfl⟩ : ∃ N1, N = N1 + 1 := ⟨N - 1, by omega⟩
    refine ⟨gA τ 1, ?_, fun k a b => by omega, fun _ _ => rfl⟩
    rw [k_X12_shelf_74, if_pos (show (4850 : Int32) ≤ nI j from (nI_leE (a := 4850) (b := j) (by omega) (by omega)).mpr (by omega)), sA_same]
  | succ m ih =>
    intro j N τ hj hN
    obtain ⟨N1, rfl⟩ : ∃ N1, N = N1 + 1 := ⟨N - 1, by omega⟩
    obtain ⟨u, u1, u2, u3⟩ := ih (j + 1) N1 (sA τ 1 (upd (gA τ 1) j (gA τ 1 (19400 + j)))) (by omega) (by omega)
    refine ⟨u, ?_, fun k a b => ?_, fun k a => ?_⟩
    · rw [k_X12_shelf_74, if_neg (fun z => by have := (nI_leE (a := 4850) (b := j) (by omega) (by omega)).mp z; omega), show (19400 : Int32) + nI j = nI (19400 + j) from nI_add 19400 j, ldA1 (by omega), bsm, sA1_st (by omega), bsm, show nI j + 1 = nI (j + 1) from by rw [show (1 : Int32) = nI 1 from rfl, nI_add], u1, sA_sA]
    · by_cases e : k = j
      · rw [e, u3 j (by omega), gA_sA, if_pos rfl, upd_at, if_pos rfl]
      · rw [u2 k (by omega) b, gA_sA, if_pos rfl, upd_at, if_neg (by omega)]
    · rw [u3 k (by omega), gA_sA, if_pos rfl, upd_at, if_neg (by omega)]
theorem ldB2 {τ : ST} {k : Nat} (h : k < 70) : ldB LR τ (LR.2.1 0 1) (nI k) = some (gB τ 2 k) := lb 70 rfl h (by decide)
theorem stB2 {τ : ST} {k : Nat} (h : k < 70) (v : Int64) : stB LR τ (LR.2.1 0 1) (nI k) v = some (sB τ 2 (vp_updL (gB τ 2) k v)) := sb 70 rfl h (by decide)
theorem k105 : ∀ (m j N : Nat) (τ : ST), j + m = 12 → m < N → ∃ u, k_X12_shelf_105 N 0 (nI j) τ = k_X12_shelf_132 0 (sB τ 2 u) ∧ (∀ k, j ≤ k → k < 12 → u k = gB τ 2 (48 + k)) ∧ ∀ k, k < j ∨ 12 ≤ k → u k = gB τ 2 k := by
  intro m
  induction m with
  | zero =>
    intro j N τ hj hN
    obtain ⟨N1, rfl⟩ : ∃ N1, N = N1 + 1 := ⟨N - 1, by omega⟩
    refine ⟨gB τ 2, ?_, fun k a b => by omega, fun _ _ => rfl⟩
    rw [k_X12_shelf_105, if_pos (show (12 : Int32) ≤ nI j from (nI_leE (a := 12) (b := j) (by omega) (by omega)).mpr (by omega)), sB_same]
  | succ m ih =>
    intro j N τ hj hN
    obtain ⟨N1, rfl⟩ : ∃ N1, N = N1 + 1 := ⟨N - 1, by omega⟩
    obtain ⟨u, u1, u2, u3⟩ := ih (j + 1) N1 (sB τ 2 (vp_updL (gB τ 2) j (gB τ 2 (48 + j)))) (by omega) (by omega)
    refine ⟨u, ?_, fun k a b => ?_, fun k a => ?_⟩
    · rw [k_X12_shelf_105, if_neg (fun z => by have := (nI_leE (a := 12) (b := j) (by omega) (by omega)).mp z; omega), show (48 : Int32) + nI j = nI (48 + j) from nI_add 48 j, ldB2 (by omega), bsm, stB2 (by omega), bsm, show nI j + 1 = nI (j + 1) from by rw [show (1 : Int32) = nI 1 from rfl, nI_add], u1, sB_sB2]
    · by_cases e : k = j
      · rw [e, u3 j (by omega), gB_sB, if_pos rfl, updL_at, if_pos rfl]
      · rw [u2 k (by omega) b, gB_sB, if_pos rfl, updL_at, if_neg (by omega)]
    · rw [u3 k (by omega), gB_sB, if_pos rfl, updL_at, if_neg (by omega)]
def F2 (f : Nat → Int32) (v5 : Int32) (k : Nat) : Int32 := if k = 5 then v5 else f (19400 + k)
theorem F2_k (f : Nat → Int32) (v5 : Int32) (j : Nat) : F2 f v5 (10 + j) = f (19410 + j) := by
  unfold F2
  rw [if_neg (by omega)]; exact congrArg f (by omega)
theorem F2_y (f : Nat → Int32) (v5 : Int32) (j : Nat) : F2 f v5 (16 + j) = f (19416 + j) := by
  unfold F2
  rw [if_neg (by omega)]; exact congrArg f (by omega)
theorem F2_e (f : Nat → Int32) (v5 : Int32) {k : Nat} (h : k ≠ 5) : F2 f v5 k = f (19400 + k) := if_neg h
section
variable {i a4 a6 f : Nat → Int32} {c s : Int32} {b5 b7 g : Nat → Int64} {K Y : Nat}
theorem sx_WF (hx : SXx K Y i c a4 a6 b5 b7 f g s) (v5 : Int32) : WFs (F2 f v5) ∧ KN (F2 f v5) = K ∧ YN (F2 f v5) = Y := by
  obtain ⟨⟨x1, x2, x3, x4, x5, x6⟩, ⟨N, R, W, z1, z2, z3⟩, ⟨zc, zs⟩, y1, y2, y3, y4, y5, y6, y7, y8⟩ := hx
  have eK : KN (F2 f v5) = K := by
    unfold KN
    rw [F2_e f v5 (by decide), x5, vN_nI (by omega)]
  have eY : YN (F2 f v5) = Y := by
    unfold YN
    rw [F2_e f v5 (by decide), x6, vN_nI (by omega)]
  have eN : NN (F2 f v5) = N := by
    unfold NN
    rw [F2_e f v5 (by decide), z3.1, vN_nI (by omega)]
  have eR : RN (F2 f v5) = R := by
    unfold RN
    rw [F2_e f v5 (by decide), z3.2.1, vN_nI (by omega)]
  have eW : WN (F2 f v5) = W := by
    unfold WN
    rw [F2_e f v5 (by decide), z3.2.2, vN_nI (by omega)]
  have ek : ∀ j, F2 f v5 (10 + j) = f (19410 + j) := fun j => by rw [F2_e f v5 (by omega)]; congr 1; omega
  have ey : ∀ j, F2 f v5 (16 + j) = f (19416 + j) := fun j => by rw [F2_e f v5 (by omega)]; congr 1; omega
  refine ⟨⟨by omega, by omega, by omega, by omega, by omega, fun j hj => ?_, fun j hj => ?_, fun j l hj hl q => ?_⟩, eK, eY⟩
  · obtain ⟨v, v1, v2⟩ := (y1 j (by omega)).2
    unfold ka
    rw [ek, v2, vN_nI (by omega)]; exact v1
  · obtain ⟨v, v1, v2⟩ := (y3 j (by omega)).2
    unfold ya
    rw [ey, v2, vN_nI (by omega)]; exact v1
  · unfold ka at q
    rw [ek, ek] at q
    exact y2 j l (by omega) (by omega) (vN_inj q)
end
theorem sim_shelf (i : Nat) : SIM_shelf (Rel i) (Rel (i + 6)) := by
  intro a0 σ τ h
  obtain ⟨⟨q, hq, t1, t2, t3⟩, t4, t5⟩ := h.2.2.1
  show Sm i _ _
  have c01 : LC.2.1 0 1 = 2 := rfl
  by_cases hv : a0 < 0 ∨ nI q < a0
  · have e1 : f_X11_shelf 0 a0 σ = some (mI, sI σ 0 14 (nI 1)) := by
      unfold f_X11_shelf
      rw [c01, t1]
      by_cases z : a0 < 0
      · rw [if_pos z]; rfl
      · rw [if_neg z, if_neg (by rcases hv with y | y; exact absurd y z; exact Int32.not_le.mpr y)]; rfl
    have e2 : f_X12_shelf 0 a0 τ = some (mI, sI τ 0 2 (nI 1)) := by
      unfold f_X12_shelf
      rw [show (900 : Int32) = nI 900 from rfl, r_begins_no t2 (by rcases hv with y | y; exact Or.inl y; exact Or.inr (Or.inl y)), bsm, if_pos (show ((nI 0, τ) : Int32 × ST).1 = 0 from rfl)]
      rfl
    rw [e1, e2]
    exact Sm_0 h _ _
  · have hv1 : ¬ a0 < 0 := fun z => hv (Or.inl z)
    obtain ⟨n, hn31, rfl⟩ := nn_of hv1
    have hn : n ≤ q := by
      by_cases e : n ≤ q
      · exact e
      · exact absurd (Or.inr ((nI_ltE (a := q) (b := n) (by omega) hn31).mpr (by omega))) hv
    obtain ⟨τa, b1, b2, b3, b4, b5', b6, b7', b8⟩ := r_begins (M := 900) t2 hq hn (by omega) (by omega) (fun k hk => (t3 k (by omega)).2)
    obtain ⟨u, u1, u2, u3⟩ := r_empties (sl := 19400) (by decide) τa
    have hTC : TC (clS (opS σ n)) (tT τ) n := ⟨rfl, by omega, fun k hk => ⟨by
      show gA σ 3 k = _
      rw [(t3 k (by omega)).1]; exact (nI_vN _).symm, tT_lt τ k⟩⟩
    have hJ : JJ (tT τ) n 0 (clS (opS σ n)) (sA τa 1 u) := ⟨hTC, Nat.zero_le _, rfl, ⟨b2.1, b2.2.1, fun k hk => by rw [gA_sA, if_neg (by decide)]; exact b2.2.2 k hk⟩, b3, b4⟩
    have hu : ∀ k, k < 4850 → gA (sA τa 1 u) 1 (19400 + k) = eF k := fun k hk => by rw [gA_sA, if_pos rfl]; exact u3 k hk
    have e22 : ∀ y, y < 6 → gA (sA τa 1 u) 1 (19422 + y) = nI 0 := fun y hy => by
      have e := hu (22 + y) (by omega)
      rw [show 19400 + (22 + y) = 19422 + y by omega] at e
      rw [e]
      unfold eF
      rw [if_neg (by omega), if_neg (by omega), if_neg (by omega)]
    have hSX : SXx 0 0 (gI (clS (opS σ n)) 33) (nI 0) (gA (clS (opS σ n)) 34) (gA (clS (opS σ n)) 36) (gB (clS (opS σ n)) 35) (gB (clS (opS σ n)) 37) (gA (sA τa 1 u) 1) (gB (sA τa 1 u) 2) (nI 0) := by
      refine ⟨⟨by omega, by omega, rfl, rfl, hu 3 (by omega), hu 4 (by omega)⟩, ⟨3, 1, 1, by omega, ⟨rfl, rfl, rfl⟩, hu 0 (by omega), hu 1 (by omega), hu 2 (by omega)⟩, ⟨rfl, Or.inl rfl⟩, fun j hj => by omega, fun j l hj => by omega, fun j hj => by omega, fun j hj => by omega, fun j hj => by omega, fun y => ?_, ⟨fun y hy => Or.inl (e22 y hy), fun y _ hy2 => e22 y hy2⟩, ⟨fun k k1 k2 k3 => ?_, fun w hw => ?_, hu 7 (by omega)⟩⟩
      · rw [show gI (clS (opS σ n)) 33 8 = nI 0 from rfl, bt_n0]
        refine (decide_eq_false (fun z => ?_)).symm
        have e := hu (22 + y) (by omega)
        rw [show 19400 + (22 + y) = 19422 + y by omega] at e
        rw [e] at z
        unfold eF at z
        rw [if_neg (by omega), if_neg (by omega), if_neg (by omega)] at z
        exact absurd z.2 (by decide)
      · rw [hu k k1]
        have w0 := k3 0 (by omega)
        have w1 := k3 1 (by omega)
        have w2 := k3 2 (by omega)
        have w3 := k3 3 (by omega)
        unfold eF
        rw [if_neg (by omega), if_neg (by omega), if_neg (by omega)]
      · rw [hu _ (by omega)]
        unfold eF
        rw [if_neg (by omega), if_neg (by omega), if_pos (by omega)]
    have hSW : SW (tT τ) n (clS (opS σ n)) (sA τa 1 u) 0 (clS (opS σ n)) (sA τa 1 u) := ⟨0, 0, _, _, _, _, _, _, _, _, _, hSX, hJ, ⟨FrC.rf _, FrR.rf _⟩, ⟨fun _ => rfl, rfl, rfl, rfl, rfl, rfl⟩, ⟨rfl, rfl, b7'⟩⟩
    obtain ⟨F, hF, hF2⟩ : ∃ F, FU = F ∧ 5000 < F := ⟨FU, rfl, by unfold FU; omega⟩
    obtain ⟨σ1, τ1, l1, l2⟩ := st_loop n 0 0 F F _ _ (by omega) (by omega) (Nat.le_refl _) (by omega) (by omega) hSW
    have eC : f_X8_isTaken 32 (opS σ n) = k_X8_isTaken_14 F 32 (nI 0) (clS (opS σ n)) := by
      unfold f_X8_isTaken
      rw [show LC.2.1 32 0 = 33 from rfl]
      refine (c_clear33 (opS σ n)).trans ?_
      rw [hF]
      rfl
    have eR : f_X12_shelf 0 (nI n) τ = k_X12_shelf_45 0 τ1 := by
      unfold f_X12_shelf
      have b1' : f_X12_begins 0 (nI n) 900 τ = some (nI 1, τa) := b1
      have u1' : f_X12_empties 0 19400 τa = some (sA τa 1 u) := u1
      rw [b1', bsm, if_neg (show ¬ ((nI 1, τa) : Int32 × ST).1 = 0 from fun z => absurd (show nI 1 = 0 from z) (by decide))]
      simp only []
      rw [u1', bsm, hF]
      exact l1
    have eX : f_X11_shelf 0 (nI n) σ = (f_X8_isTaken 32 (opS σ n)).bind fun u5 => if u5.1 = 0 then ((f_X11_refuse 0 9 u5.2).bind fun u9 => some (u9.1, u9.2)) else ((f_X10_begin 4 33 u5.2).bind fun u7 => (f_X11_answer 0 (gI u7 5 7) u7).bind fun u8 => some (u8.1, u8.2)) := by
      unfold f_X11_shelf
      rw [if_neg hv1, c01, t1, if_pos (by rw [nI_leE (by omega) (by omega)]; exact hn), c_open, bsm]
      rfl
    have base0 : ∀ σ', FrCw (clS (opS σ n)) σ' → (∀ k, gI σ' 0 k = gI σ 0 k) ∧ (∀ k, gJ σ' 0 k = gJ σ 0 k) ∧ (∀ x, 4 ≤ x → x < 32 ∨ 48 < x → (∀ k, gI σ' x k = gI σ x k) ∧ (∀ k, gJ σ' x k = gJ σ x k) ∧ gA σ' x = gA σ x ∧ gB σ' x = gB σ x) ∧ gI σ' 2 1 = nI 0 := fun σ' hf => by
      have e : ∀ x, x ≠ 2 → x ≠ 32 → x ≠ 33 → ∀ k, gI (clS (opS σ n)) x k = gI σ x k := fun x a b d k => by
        unfold clS opS
        rw [gI_sI, if_neg (by omega), gI_sI, if_neg (by omega), gI_sI, if_neg (by omega), gI_sI, if_neg (by omega), gI_sI, if_neg (by omega), gI_sI, if_neg (by omega), gI_sI, if_neg (by omega), gI_sI, if_neg (by omega), gI_sI, if_neg (by omega), gI_sI, if_neg (by omega), gI_sI, if_neg (by omega), gI_sI, if_neg (by omega)]
      refine ⟨fun k => ?_, fun k => ?_, fun x a b => ?_, ?_⟩
      · rw [(hf.1 0 (by decide) (by omega)).1 k]; exact e 0 (by decide) (by decide) (by decide) k
      · rw [(hf.1 0 (by decide) (by omega)).2.1 k]; rfl
      · obtain ⟨w1, w2, w3, w4⟩ := hf.1 x (by omega) b
        exact ⟨fun k => by rw [w1]; exact e x (by omega) (by omega) (by omega) k, fun k => by rw [w2]; rfl, by rw [w3]; rfl, by rw [w4]; rfl⟩
      · rw [hf.2]; rfl
    have baseR : ∀ τ', FrRw (sA τa 1 u) τ' → gI τ' 0 10 = nI 0 ∧ (∀ k, 23 ≤ k → gI τ' 0 k = gI τ 0 k) ∧ (∀ k, gJ τ' 0 k = gJ τ 0 k) ∧ (∀ x, x ≠ 1 → x ≠ 7 → x ≠ 8 → gA τ' x = gA τ x) ∧ (∀ x, x ≠ 2 → gB τ' x = gB τ x) ∧ (∀ k, k < 19400 → gA τ' 1 k = gA τ 1 k) ∧ ∀ k, k < 48 → gB τ' 2 k = gB τ 2 k := fun τ' hf => by
      have fi : ∀ k, 23 ≤ k → frI k = false := fun k hk => by
        cases e : frI k
        · rfl
        · exfalso
          unfold frI at e
          simp at e
          omega
      refine ⟨?_, fun k hk => ?_, fun k => ?_, fun x a b d => ?_, fun x a => ?_, fun k hk => ?_, fun k hk => ?_⟩
      · rw [hf.1 10 rfl]; exact b6
      · rw [hf.1 k (fi k hk)]
        refine b8.1 k ?_
        cases e : [10, 11, 12, 13, 14, 15, 17, 18, 19].contains k
        · rfl
        · exfalso
          simp at e
          omega
      · rw [hf.2.1]; exact b8.2.1 k
      · rw [hf.2.2.1 x a d, gA_sA, if_neg a]; exact b8.2.2.1 x b
      · rw [hf.2.2.2.2.1 x a]; exact b8.2.2.2 x
      · rw [hf.2.2.2.1 k hk, gA_sA, if_pos rfl, u2 k (Or.inl hk), b8.2.2.1 1 (by decide)]
      · rw [hf.2.2.2.2.2 k hk]
        show gB τa 2 k = _
        rw [b8.2.2.2 2]
    rw [eR, eX, eC]
    rcases l2 with ⟨e1, e18, K, Y, ii, c, a4, a6, b5, b7, f, g, s, hx, hN, hR, hFr⟩ | ⟨e1, ⟨⟨k, k1, k2, k3, k4⟩, k5, k6, k7⟩⟩
    · obtain ⟨x0, x1, x2⟩ := sx_WF hx ((nI 1 <<< (nI K &&& nI 31)) - nI 1)
      obtain ⟨B0, B1, B2, B3⟩ := base0 σ1 hFr.1.1
      obtain ⟨R0, R1, R2, R3, R4, R5, R6⟩ := baseR τ1 hFr.2.1
      have hx' := hx
      obtain ⟨⟨y1, y2, y3, y4, y5, y6⟩, ⟨N, R, W, z1, z2, z3⟩, ⟨zc, zs⟩, w1, w2, w3, w4, w5, w6, w7, w8⟩ := hx'
      have eNN : NN (F2 f ((nI 1 <<< (nI K &&& nI 31)) - nI 1)) = N := by
        unfold NN
        rw [F2_e f _ (by decide), z3.1, vN_nI (by omega)]
      have hLB : LB (F2 f ((nI 1 <<< (nI K &&& nI 31)) - nI 1)) σ1 := ⟨by rw [hN.1, x1]; exact y3, by rw [hN.1, x2]; exact y4, by rw [hN.1, eNN]; exact z2.1, fun j hj => by
        rw [hN.2.2.1, (w1 j (by omega)).1, F2_k], fun j hj => by
        rw [hN.2.2.2.1, (w3 j (by omega)).1, F2_y]⟩
      obtain ⟨σ2, p1, p2, p3⟩ := c_layRows x0 hLB
      obtain ⟨σ3, s1, s2, s3, s4, s5, s6, s7, s8, s9, s10, s11, s12, s13⟩ := c_beginW σ2
      have i33 : ∀ k, gI σ2 33 k = ii k := fun k => by rw [p2.1]; exact hN.1 k
      have cls : k_X8_isTaken_14 F 32 (nI 0) (clS (opS σ n)) = some (nI 1, σ2) := by rw [e1, p1]; rfl
      have eK5 : gI σ3 5 7 = nI Y := by rw [s3.2.1, i33, y4]
      obtain ⟨u74, v1, v2, v3⟩ := k74 4850 0 F (sA τ1 1 (upd (gA τ1 1) 19405 ((nI 1 <<< (nI K &&& nI 31)) - nI 1))) (by omega) (by omega)
      obtain ⟨uB, v4, v5, v6⟩ := k105 12 0 F (sA (sA τ1 1 (upd (gA τ1 1) 19405 ((nI 1 <<< (nI K &&& nI 31)) - nI 1))) 1 u74) (by omega) (by omega)
      have v1' : k_X12_shelf_74 F 0 0 (sA τ1 1 (upd (gA τ1 1) 19405 ((nI 1 <<< (nI K &&& nI 31)) - nI 1))) = k_X12_shelf_105 FU 0 0 (sA (sA τ1 1 (upd (gA τ1 1) 19405 ((nI 1 <<< (nI K &&& nI 31)) - nI 1))) 1 u74) := v1
      have v4' : k_X12_shelf_105 F 0 0 (sA (sA τ1 1 (upd (gA τ1 1) 19405 ((nI 1 <<< (nI K &&& nI 31)) - nI 1))) 1 u74) = k_X12_shelf_132 0 (sB (sA (sA τ1 1 (upd (gA τ1 1) 19405 ((nI 1 <<< (nI K &&& nI 31)) - nI 1))) 1 u74) 2 uB) := v4
      obtain ⟨τ4, hτ4⟩ : ∃ τ4, τ4 = sB (sA (sA τ1 1 (upd (gA τ1 1) 19405 ((nI 1 <<< (nI K &&& nI 31)) - nI 1))) 1 u74) 2 uB := ⟨_, rfl⟩
      rw [← hτ4] at v4'
      have a1 : ∀ k, k < 4850 → gA τ4 1 k = F2 f ((nI 1 <<< (nI K &&& nI 31)) - nI 1) k := fun k hk => by
        rw [hτ4]
        show u74 k = _
        rw [v2 k (by omega) hk, gA_sA, if_pos rfl, upd_at, hR.1]
        unfold F2
        by_cases e : k = 5
        · rw [if_pos (by omega), if_pos e]
        · rw [if_neg (by omega), if_neg e]
      have a2 : ∀ k, 4850 ≤ k → k < 19400 → gA τ4 1 k = gA τ 1 k := fun k hk hk2 => by
        rw [hτ4]
        show u74 k = _
        rw [v3 k (by omega), gA_sA, if_pos rfl, upd_at, if_neg (by omega)]; exact R5 k hk2
      have a3 : ∀ k, k < 12 → gB τ4 2 k = g (48 + k) := fun k hk => by
        rw [hτ4]
        show uB k = _
        rw [v5 k (by omega) hk]
        show gB τ1 2 (48 + k) = _
        rw [hR.2.1]
      have a4' : ∀ k, 12 ≤ k → k < 48 → gB τ4 2 k = gB τ 2 k := fun k hk hk2 => by
        rw [hτ4]
        show uB k = _
        rw [v6 k (by omega)]
        exact R6 k hk2
      have e18' : gI τ4 0 18 = nI 0 := by rw [hτ4]; exact e18
      have i4 : gI τ4 0 = gI τ1 0 := by rw [hτ4]; rfl
      have rr : k_X12_shelf_45 0 τ1 = some (nI Y, sI (sI τ4 0 16 (nI 0)) 0 2 (nI 0)) := by
        unfold k_X12_shelf_45
        rw [e18, if_pos (show nI 0 = 0 from rfl), show ldA LR τ1 (LR.2.1 0 0) 19403 = some (nI K) from (ldA1 (τ := τ1) (k := 19403) (by decide)).trans (by rw [hR.1, y5]), bsm, show stA LR τ1 (LR.2.1 0 0) 19405 ((1 <<< (nI K &&& 31)) - 1) = some (sA τ1 1 (upd (gA τ1 1) 19405 ((nI 1 <<< (nI K &&& nI 31)) - nI 1))) from sA1_st (k := 19405) (by decide) _, bsm, hF, v1', hF, v4', r132_ok e18', a1 4 (by omega), F2_e f _ (by decide), y6]
      have cc : ((some (nI 1, σ2) : Option (Int32 × ST)).bind fun u5 => if u5.1 = 0 then ((f_X11_refuse 0 9 u5.2).bind fun u9 => some (u9.1, u9.2)) else ((f_X10_begin 4 33 u5.2).bind fun u7 => (f_X11_answer 0 (gI u7 5 7) u7).bind fun u8 => some (u8.1, u8.2))) = some (nI Y, sI σ3 0 14 (nI 0)) := by
        rw [bsm, if_neg (show ¬ ((nI 1, σ2) : Int32 × ST).1 = 0 from fun z => absurd (show nI 1 = 0 from z) (by decide))]
        simp only []
        rw [s1, bsm, eK5]
        rfl
      rw [cls, rr, cc]
      have C0 : ∀ x, (x < 4 ∨ 30 < x) → x ≠ 38 → x ≠ 39 → (∀ k, gI σ3 x k = gI σ1 x k) ∧ (∀ k, gJ σ3 x k = gJ σ1 x k) ∧ gA σ3 x = gA σ1 x ∧ gB σ3 x = gB σ1 x := fun x a b d => by
        obtain ⟨n1, n2, n3, n4⟩ := s2 x a
        exact ⟨fun k => (n1 k).trans (p2.1 x k), fun k => (n2 k).trans (p2.2.1 x k), n3.trans (p2.2.2.1 x b d), n4.trans (p2.2.2.2 x)⟩
      have ffk : gI σ1 2 2 = nI 0 ∧ gI σ1 2 3 = mI ∧ gI τ1 0 17 = mI := ⟨by rw [hFr.1.2.1]; rfl, by rw [hFr.1.2.2]; rfl, by rw [hFr.2.2]; exact b5'⟩
      refine ⟨nI Y, _, _, rfl, rfl, Rel_tx h ?_ ?_ ?_ ?_ ?_ ?_ ?_ ?_ ?_ ?_ ?_ ?_ ?_ ?_ ?_⟩
      · rfl
      · intro k hk
        rw [gI_sI, if_neg (fun z => hk z.2), (C0 0 (by omega) (by decide) (by decide)).1 k]; exact B0 k
      · intro k; rw [gJ_sI, (C0 0 (by omega) (by decide) (by decide)).2.1 k]; exact B1 k
      · intro x hx49
        obtain ⟨n1, n2, n3, n4⟩ := C0 x (by omega) (by omega) (by omega)
        obtain ⟨m1, m2, m3, m4⟩ := B2 x (by omega) (by omega)
        exact ⟨fun k => by rw [gI_sI, if_neg (by omega), n1, m1], fun k => by rw [gJ_sI, n2, m2], n3.trans m3, n4.trans m4⟩
      · rw [gI_sI, if_neg (by decide), (C0 2 (by omega) (by decide) (by decide)).1]; exact B3
      · rw [gI_sI, if_neg (by decide), gI_sI, if_neg (by decide), i4]; exact R0
      · rw [gI_sI, if_neg (by decide), (C0 2 (by omega) (by decide) (by decide)).1, ffk.1, gI_sI, if_neg (by decide), gI_sI, if_pos ⟨rfl, rfl⟩]
      · rw [gI_sI, if_neg (by decide), (C0 2 (by omega) (by decide) (by decide)).1, ffk.2.1, gI_sI, if_neg (by decide), gI_sI, if_neg (by decide), i4, ffk.2.2]
      · intro k hk
        rw [gI_sI, if_neg (by omega), gI_sI, if_neg (by omega), i4]; exact R1 k hk
      · intro k; rw [gJ_sI, gJ_sI, hτ4]; exact R2 k
      · intro x a b d
        rw [gA_sI, gA_sI, hτ4, gA_sB, gA_sA, if_neg a, gA_sA, if_neg a]; exact R3 x a b d
      · intro x a
        rw [gB_sI, gB_sI, hτ4, gB_sB, if_neg a]; exact R4 x a
      · intro k hk hk2; exact a2 k hk hk2
      · intro k hk hk2; exact a4' k hk hk2
      · refine RelW_congr (f := F2 f ((nI 1 <<< (nI K &&& nI 31)) - nI 1)) (g := fun k => g (48 + k)) (fun k hk => a1 k hk) (fun k hk => a3 k hk) ?_
        have hTk := h.2.2.2.2.1.2.2.1
        refine RelW_fresh ⟨x0, ⟨?_, ?_, ?_, ?_, ?_⟩, fun j hj => ?_, fun j hj => ?_, fun y => ?_, fun y hy hy2 => ?_, fun y hy k => ?_, fun y hy m hm => ?_⟩ ⟨?_, ?_⟩ s13 ?_ (fun k hk => (s9 k hk).2) s7 s8 (fun k hk => (s9 k hk).1) s6 ⟨fun j hj => ?_, fun j hj => ?_⟩ ⟨fun k k1 k2 k3 => ?_, fun w hw => ?_, ?_⟩
        · show gI σ3 5 6 = _
          rw [s3.1, i33, y3, F2_e f _ (by decide)]; exact y5.symm
        · show gI σ3 5 7 = _
          rw [s3.2.1, i33, y4, F2_e f _ (by decide)]; exact y6.symm
        · show gI σ3 5 9 = _
          rw [s3.2.2.2.1, i33, z2.1, F2_e f _ (by decide)]; exact z3.1.symm
        · show gI σ3 5 10 = _
          rw [s3.2.2.2.2.1, i33, z2.2.1, F2_e f _ (by decide)]; exact z3.2.1.symm
        · show gI σ3 5 11 = _
          rw [s3.2.2.2.2.2, i33, z2.2.2, F2_e f _ (by decide)]; exact z3.2.2.symm
        · show gA σ3 6 j = _
          rw [x1] at hj
          rw [(s4 j (by omega)).1, p2.2.2.1 34 (by decide) (by decide)]; exact hLB.2.2.2.1 j (by omega)
        · show gA σ3 8 j = _
          rw [x2] at hj
          rw [(s4 j (by omega)).2.2.1, p2.2.2.1 36 (by decide) (by decide)]; exact hLB.2.2.2.2 j (by omega)
        · show bt (gI σ3 5 8) y = _
          rw [s3.2.2.1, i33, w6 y]
          unfold sm
          rw [F2_e f _ (by omega), show 19400 + (22 + y) = 19422 + y by omega]
          by_cases e6 : y < 6
          · rw [decide_eq_true e6, Bool.true_and]
            exact decide_eq_decide.mpr ⟨fun z => z.2, fun z => ⟨e6, z⟩⟩
          · rw [decide_eq_false e6, Bool.false_and]
            exact decide_eq_false (fun z => e6 z.1)
        · unfold sm
          rw [x2] at hy
          rw [F2_e f _ (by omega), show 19400 + (22 + y) = 19422 + y by omega, w7.2 y hy hy2]; decide
        · show bt (gA σ3 11 y) k = _
          have hy6 : y < 6 := by omega
          rw [(s4 y hy6).2.2.2.2]; exact (p3 y hy).1 k
        · show gA σ3 10 (y * 6 + m) = _
          rw [s5 _ (by omega)]; exact (p3 y hy).2 m hm
        · show gI σ3 4 9 = _
          rw [s11, i33, y3]; rfl
        · show gI σ3 4 10 = _
          rw [s12, F2_e f _ (by decide)]; exact (w8.1 6 (by omega) (by omega) (fun u hu => by omega)).symm
        · intro w hw k hk
          show gA σ3 27 (w * 6 + k) = _
          rw [s10, p2.2.2.1 27 (by decide) (by decide), (B2 27 (by omega) (by omega)).2.2.1]
          exact (hTk.2 w hw).1 k hk
        · show NmR (gB σ3 7 j) _
          rw [x1] at hj
          rw [(s4 j (by omega)).2.1, p2.2.2.2, hN.2.2.2.2.1]; exact w4 j hj
        · rw [x2] at hj
          refine ⟨?_, fun h6 => ?_⟩
          · show NmR (gB σ3 9 j) (g (48 + (6 + j)))
            rw [(s4 j (by omega)).2.2.2.1, p2.2.2.2, hN.2.2.2.2.2, show 48 + (6 + j) = 54 + j by omega]; exact w5 j hj
          · rw [F2_e f _ (by omega), show 19400 + (22 + j) = 19422 + j by omega]; exact w7.1 j h6
        · rw [F2_e f _ (by omega)]; exact w8.1 k k1 (by omega) k3
        · rw [F2_e f _ (by omega)]; exact w8.2.1 w hw
        · rw [F2_e f _ (by decide)]; exact w8.2.2
    · obtain ⟨B0, B1, B2, B3⟩ := base0 σ1 k6
      obtain ⟨R0, R1, R2, R3, R4, R5, R6⟩ := baseR τ1 k7
      have rr : k_X12_shelf_45 0 τ1 = some (mI, sI (sI τ1 0 16 (nI k)) 0 2 (nI 9)) := by
        unfold k_X12_shelf_45
        rw [k4, if_neg (fun z => by have := (nI_e (a := k) (b := 0) (by omega) (by omega)).mp z; omega), r132_no k1 k2 k4]
      rw [e1, rr, bsm, if_pos (show ((nI 0, σ1) : Int32 × ST).1 = 0 from rfl)]
      refine ⟨mI, sI σ1 0 14 (nI 9), _, rfl, rfl, Rel_tx h ?_ ?_ ?_ ?_ ?_ ?_ ?_ ?_ ?_ ?_ ?_ ?_ ?_ ?_ ?_⟩
      · rfl
      · intro k hk
        rw [gI_sI, if_neg (fun z => hk z.2)]; exact B0 k
      · intro k; rw [gJ_sI]; exact B1 k
      · intro x hx49
        obtain ⟨m1, m2, m3, m4⟩ := B2 x (by omega) (by omega)
        exact ⟨fun k => by rw [gI_sI, if_neg (by omega), m1], fun k => by rw [gJ_sI, m2], m3, m4⟩
      · rw [gI_sI, if_neg (by decide)]; exact B3
      · rw [gI_sI, if_neg (by decide), gI_sI, if_neg (by decide)]; exact R0
      · rw [gI_sI, if_neg (by decide), k3, gI_sI, if_neg (by decide), gI_sI, if_pos ⟨rfl, rfl⟩]
      · rw [gI_sI, if_neg (by decide), k5, gI_sI, if_neg (by decide), gI_sI, if_neg (by decide)]
      · intro k hk
        rw [gI_sI, if_neg (by omega), gI_sI, if_neg (by omega)]; exact R1 k hk
      · intro k; rw [gJ_sI, gJ_sI]; exact R2 k
      · intro x a b d; exact R3 x a b d
      · intro x a; exact R4 x a
      · intro k hk hk2; exact R5 k hk2
      · intro k hk hk2; exact R6 k hk2
      · exact RelW_kept h (fun x a b => by
          obtain ⟨m1, m2, m3, m4⟩ := B2 x a (Or.inl b)
          exact ⟨fun k => by rw [gI_sI, if_neg (by omega), m1], fun k => by rw [gJ_sI, m2], m3, m4⟩) (fun k hk => R5 k (by omega)) (fun k hk => R6 k (by omega))
