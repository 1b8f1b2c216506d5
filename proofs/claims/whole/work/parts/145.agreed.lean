/-! AGREED -/
theorem c_allAlike_2 {w : Nat} (hw : isW w) {σ : ST} {f : Nat → Int32} {B : Nat} (h : RS (wv σ w) f) (hH : RH B (wv σ w) f) : ∀ (n y : Nat), y ≤ YN f → YN f - y < n → (∀ z, z < y → alk f z = true) → k_X10_areAllAlike_2 n w (nI y) σ = some (bI (decide (∀ z, z < YN f → alk f z = true)), σ) := by
  have hY := h.1.2.1
  have n10 : (nI 1 = nI 0) = False := eq_false (by decide)
  have e7 : gI σ (w + 1) 7 = nI (YN f) := h.2.1.2.1.trans (eY f)
  intro n
  induction n with
  | zero => intros; omega
  | succ n ih =>
    intro y hy hn hz
    rw [k_X10_areAllAlike_2]
    by_cases c : YN f ≤ y
    · simp (disch := omega) only [↓mI_e, lit, ofN, bsm, nI_add, pk_mul, pk_sub, nI_e, nI_leE, nI_ltE, nI_mI, mI_nI, mI_lt, nlt_mI, mI_le, nle_mI, nI_addm, sh_b, bI_0, bI_1, bI_bI, ckZ_b, ckZ_n0, ckZ_n1, stIe, stJe, stZ_n0, stZ_n1, rm_nI, dv_nI, if_true, if_false, if_pos, if_neg, rf0, rf1, rf5, rf6, rf7, rf8, rf9, rf20, rf23, rf24, rf25, rf26, rf29, rf31, rf33, rf34, rf35, rf37, rf38, rf41, rf42, rf43,  w_0 hw, e7, c]
      rw [decide_eq_true (fun z hz2 => hz z (by omega))]
      rfl
    · have ha := c_isAlike hw h hH (show y < YN f by omega)
      cases ca : alk f y
      · rw [ca] at ha
        simp (disch := omega) only [↓mI_e, lit, ofN, bsm, nI_add, pk_mul, pk_sub, nI_e, nI_leE, nI_ltE, nI_mI, mI_nI, mI_lt, nlt_mI, mI_le, nle_mI, nI_addm, sh_b, bI_0, bI_1, bI_bI, ckZ_b, ckZ_n0, ckZ_n1, stIe, stJe, stZ_n0, stZ_n1, rm_nI, dv_nI, if_true, if_false, if_pos, if_neg, rf0, rf1, rf5, rf6, rf7, rf8, rf9, rf20, rf23, rf24, rf25, rf26, rf29, rf31, rf33, rf34, rf35, rf37, rf38, rf41, rf42, rf43,  w_0 hw, e7, c, ha, bI_f]
        rw [decide_eq_false (fun q => by rw [q y (by omega)] at ca; exact absurd ca (by decide))]
        rfl
      · rw [ca] at ha
        simp (disch := omega) only [↓mI_e, lit, ofN, bsm, nI_add, pk_mul, pk_sub, nI_e, nI_leE, nI_ltE, nI_mI, mI_nI, mI_lt, nlt_mI, mI_le, nle_mI, nI_addm, sh_b, bI_0, bI_1, bI_bI, ckZ_b, ckZ_n0, ckZ_n1, stIe, stJe, stZ_n0, stZ_n1, rm_nI, dv_nI, if_true, if_false, if_pos, if_neg, rf0, rf1, rf5, rf6, rf7, rf8, rf9, rf20, rf23, rf24, rf25, rf26, rf29, rf31, rf33, rf34, rf35, rf37, rf38, rf41, rf42, rf43,  w_0 hw, e7, c, ha, bI_t, n10]
        refine ih (y + 1) (by omega) (by omega) (fun z hz2 => ?_)
        by_cases e : z = y
        · rw [e]; exact ca
        · exact hz z (by omega)
theorem all_set {f : Nat → Int32} (hY : YN f ≤ 6) {p : Int32} (hp : ∀ k, bt p k = (decide (k < YN f) && alk f k)) : (p = (nI 1 <<< (nI (YN f) &&& nI 31)) - nI 1) = (∀ z, z < YN f → alk f z = true) := by
  have e1 : (nI 1 <<< (nI (YN f) &&& nI 31)) = nI (2 ^ YN f) := pow_of (by omega)
  have hp1 : 1 ≤ 2 ^ YN f := Nat.one_le_two_pow
  have hb : ∀ k, k < 32 → bt (nI (2 ^ YN f - 1)) k = decide (k < YN f) := fun k hk => by rw [bt_nI _ hk, Nat.testBit_two_pow_sub_one]
  rw [e1, pk_sub hp1]
  apply propext
  constructor
  · intro h z hz
    have h1 := hp z
    rw [h, hb z (by omega), decide_eq_true hz, Bool.true_and] at h1
    exact h1.symm
  · intro h
    apply bt_ext
    intro k hk
    rw [hp, hb k hk]
    by_cases z : k < YN f
    · rw [decide_eq_true z, h k z]; rfl
    · rw [decide_eq_false z]; rfl
/-- the slot below the steps is the same; the steps say the same -/
theorem RelW_low {B : Nat} {s : ST} {f f' : Nat → Int32} {g : Nat → Int64} (h : RelW B s f g) (hlow : ∀ k, k < 4480 → f' k = f k) (hr : ∀ (D : Nat → Nat → Nat) L, L ≤ 60 → gI s 8 7 = nI L → VD f D L → RdC s D L → RdR f D L → RdR f' D L) : RelW B s f' g := by
  obtain ⟨hS, hU, hT, hG, hV, hH, hI, hD, hN⟩ := h
  have hh : Hd f f' := fun k hk => hlow k (by omega)
  have hY := hS.1.2.1
  have hgv : ∀ k y, k < 6 → y < 6 → gv f k y ≤ gv f' k y := fun k y hk hy => by rw [gv_c (fun j a b => hlow j (by omega)) hk hy]; exact Nat.le_refl _
  refine ⟨RS_c hh hS (fun _ => rfl) rfl rfl rfl rfl, RU_c hU (hlow 5 (by omega)) (hlow 6 (by omega)) rfl rfl, RT_c hh hY hT (fun k a b => hlow k (by omega)) hgv rfl rfl rfl rfl, RG_c hh hG (fun k a b => hlow k (by omega)) rfl, RV_c hG hV (fun k a b => hlow k (by omega)) (fun k a b => hlow k (by omega)) rfl, RH_c hh hH hgv (fun k a b => hlow k (by omega)) rfl rfl, RI_c hh hI hgv (fun k a b => hlow k (by omega)) rfl rfl rfl, ?_, RN_c hh hN rfl rfl⟩
  rcases hD with ⟨z, z2⟩ | ⟨L, D, l1, l2, l3, l4, l5, l6, l7⟩
  · exact Or.inl ⟨by rw [hlow 7 (by omega)]; exact z, z2⟩
  · exact Or.inr ⟨L, D, l1, by rw [hlow 7 (by omega)]; exact l2, l3, l4, VD_c hh hY l5, l6, hr D L l1 l4 l5 l6 l7⟩
def EA (x : Nat) : Bool := (decide (50 ≤ x) && decide (x < 78)) || (decide (81 ≤ x) && decide (x < 84))
def SLa (τ τ1 : ST) : Prop := (∀ k, scI k = false → [28, 39, 40].contains k = false → gI τ1 0 k = gI τ 0 k) ∧ (∀ k, [28, 39, 40].contains k = false → gJ τ1 0 k = gJ τ 0 k) ∧ (∀ x, scA x = false → x ≠ 1 → x ≠ 20 → x ≠ 21 → gA τ1 x = gA τ x) ∧ (∀ x, gB τ1 x = gB τ x) ∧ ∀ k, 4850 ≤ k → k < 19400 → gA τ1 1 k = gA τ 1 k
theorem SL.a {τ τ1 : ST} (h : SL τ τ1) : SLa τ τ1 := ⟨h.1, h.2.1, h.2.2.1, h.2.2.2.1, fun k a b => h.2.2.2.2 k a (by omega)⟩
theorem SLa.trans {τ τ1 τ2 : ST} (h : SLa τ τ1) (h2 : SLa τ1 τ2) : SLa τ τ2 := ⟨fun k a b => (h2.1 k a b).trans (h.1 k a b), fun k a => (h2.2.1 k a).trans (h.2.1 k a), fun x a b c d => (h2.2.2.1 x a b c d).trans (h.2.2.1 x a b c d), fun x => (h2.2.2.2.1 x).trans (h.2.2.2.1 x), fun k a b => (h2.2.2.2.2 k a b).trans (h.2.2.2.2 k a b)⟩
theorem SLa.s1 {τ : ST} (F : Nat → Int32) (hF : ∀ k, 4850 ≤ k → k < 19400 → F k = gA τ 1 k) : SLa τ (sA τ 1 F) := ⟨fun _ _ _ => rfl, fun _ _ => rfl, fun x _ b _ _ => by rw [gA_sA, if_neg b], fun _ => rfl, fun k a b => by rw [gA_sA, if_pos rfl]; exact hF k a b⟩
def AG (B : Nat) (f : Nat → Int32) (σ0 τ0 σ τ : ST) : Prop := Sq EA [] σ0 σ ∧ (∀ k, k < 4480 → gA τ 1 k = f k ∧ gA τ 1 (24250 + k) = f k) ∧ RelW B (wv σ0 wM) (gA τ 1) (gB τ0 2) ∧ SLa τ0 τ
theorem r_ag_149 (F0 : Nat → Int32) (rec105 : Nat → Int32 → Int32 → Int32 → Int32 → Int32 → ST → Option (Int32 × ST)) (v1 v2 v3 v4 : Int32) (j : Nat) : ∀ (n k : Nat) (τ : ST), k ≤ 4480 → 4480 - k < n → gA τ 1 = (fun i => if i < k then F0 (24250 + i) else F0 i) → k_X12_agreed_149 rec105 n 0 v1 v2 v3 v4 (nI j) (nI k) τ = rec105 0 v1 v2 v3 v4 (nI (j + 1)) (sA τ 1 (fun i => if i < 4480 then F0 (24250 + i) else F0 i)) := by
  intro n
  induction n with
  | zero => intros; omega
  | succ n ih =>
    intro k τ hk hn hg
    rw [k_X12_agreed_149]
    by_cases c : 4480 ≤ k
    · have : k = 4480 := by omega
      subst this
      simp (disch := omega) only [↓mI_e, lit, ofN, bsm, nI_add, pk_mul, pk_sub, nI_e, nI_leE, nI_ltE, nI_mI, mI_nI, mI_lt, nlt_mI, mI_le, nle_mI, nI_addm, sh_b, bI_0, bI_1, bI_bI, ckZ_b, ckZ_n0, ckZ_n1, stIe, stJe, stZ_n0, stZ_n1, rm_nI, dv_nI, if_true, if_false, if_pos, if_neg, rf0, rf1, rf5, rf6, rf7, rf8, rf9, rf20, rf23, rf24, rf25, rf26, rf29, rf31, rf33, rf34, rf35, rf37, rf38, rf41, rf42, rf43, ]
      rw [← hg, sA_self]
    · simp (disch := omega) only [↓mI_e, lit, ofN, bsm, nI_add, pk_mul, pk_sub, nI_e, nI_leE, nI_ltE, nI_mI, mI_nI, mI_lt, nlt_mI, mI_le, nle_mI, nI_addm, sh_b, bI_0, bI_1, bI_bI, ckZ_b, ckZ_n0, ckZ_n1, stIe, stJe, stZ_n0, stZ_n1, rm_nI, dv_nI, if_true, if_false, if_pos, if_neg, rf0, rf1, rf5, rf6, rf7, rf8, rf9, rf20, rf23, rf24, rf25, rf26, rf29, rf31, rf33, rf34, rf35, rf37, rf38, rf41, rf42, rf43,  c, lr1, sr1]
      rw [ih (k + 1) (sA τ 1 (upd (gA τ 1) k (gA τ 1 (24250 + k)))) (by omega) (by omega), sA_sA]
      rw [gA_sA, if_pos rfl, hg]
      funext i
      rw [upd_at]
      by_cases e : i = k
      · subst e
        rw [if_pos rfl]
        simp only []
        rw [if_neg (by omega), if_pos (by omega)]
      · rw [if_neg e]
        by_cases e2 : i < k
        · rw [if_pos e2, if_pos (by omega)]
        · rw [if_neg e2, if_neg (by omega)]
theorem r_ag_67 (F0 : Nat → Int32) (v1 v2 v3 : Int32) : ∀ (n k : Nat) (τ : ST), k ≤ 4480 → 4480 - k < n → gA τ 1 = (fun i => if 24250 ≤ i ∧ i < 24250 + k then F0 (i - 24250) else F0 i) → k_X12_agreed_67 n 0 v1 v2 v3 (nI k) τ = k_X12_agreed_105 FU 0 v1 v2 v3 (nI 0) (nI 0) (sA τ 1 (fun i => if 24250 ≤ i ∧ i < 24250 + 4480 then F0 (i - 24250) else F0 i)) := by
  obtain ⟨F, hF, hF2⟩ : ∃ F, FU = F ∧ 5000 < F := ⟨FU, rfl, by unfold FU; omega⟩
  rw [hF]
  intro n
  induction n with
  | zero => intros; omega
  | succ n ih =>
    intro k τ hk hn hg
    rw [k_X12_agreed_67, hF]
    by_cases c : 4480 ≤ k
    · have : k = 4480 := by omega
      subst this
      simp (disch := omega) only [↓mI_e, lit, ofN, bsm, nI_add, pk_mul, pk_sub, nI_e, nI_leE, nI_ltE, nI_mI, mI_nI, mI_lt, nlt_mI, mI_le, nle_mI, nI_addm, sh_b, bI_0, bI_1, bI_bI, ckZ_b, ckZ_n0, ckZ_n1, stIe, stJe, stZ_n0, stZ_n1, rm_nI, dv_nI, if_true, if_false, if_pos, if_neg, rf0, rf1, rf5, rf6, rf7, rf8, rf9, rf20, rf23, rf24, rf25, rf26, rf29, rf31, rf33, rf34, rf35, rf37, rf38, rf41, rf42, rf43, ]
      rw [← hg, sA_self]
    · simp (disch := omega) only [↓mI_e, lit, ofN, bsm, nI_add, pk_mul, pk_sub, nI_e, nI_leE, nI_ltE, nI_mI, mI_nI, mI_lt, nlt_mI, mI_le, nle_mI, nI_addm, sh_b, bI_0, bI_1, bI_bI, ckZ_b, ckZ_n0, ckZ_n1, stIe, stJe, stZ_n0, stZ_n1, rm_nI, dv_nI, if_true, if_false, if_pos, if_neg, rf0, rf1, rf5, rf6, rf7, rf8, rf9, rf20, rf23, rf24, rf25, rf26, rf29, rf31, rf33, rf34, rf35, rf37, rf38, rf41, rf42, rf43,  c, lr1, sr1]
      rw [ih (k + 1) (sA τ 1 (upd (gA τ 1) (24250 + k) (gA τ 1 k))) (by omega) (by omega), sA_sA]
      rw [gA_sA, if_pos rfl, hg]
      funext i
      rw [upd_at]
      by_cases e : i = 24250 + k
      · subst e
        rw [if_pos rfl]
        simp only []
        rw [if_neg (by omega), if_pos (by omega)]
        exact congrArg F0 (by omega)
      · rw [if_neg e]
        by_cases e2 : 24250 ≤ i ∧ i < 24250 + k
        · rw [if_pos e2, if_pos (by omega)]
        · rw [if_neg e2, if_neg (by omega)]
theorem ea_1 : ∀ x, x < 194 → (inW wK x || (decide (81 ≤ x) && decide (x < 84))) = true → EA x = true := by decide +kernel
theorem wM_EA {σ0 σ : ST} (h : Sq EA [] σ0 σ) : wv σ wM = wv σ0 wM := wv_same (fun x a b => h.2.2 x (by unfold wM at a; omega) (by
      unfold wM at a b
      unfold scC
      rw [decide_eq_false (show ¬ 32 ≤ x by omega), decide_eq_false (show ¬ 50 ≤ x by omega), decide_eq_false (show ¬ 80 ≤ x by omega)]
      simp
      omega) (by
      unfold wM at a b
      unfold EA
      rw [decide_eq_false (show ¬ 50 ≤ x by omega), decide_eq_false (show ¬ 81 ≤ x by omega)]; rfl))
/-- one seed is tried -/
theorem ag_one {B : Nat} (hB : B + 300699 < 2 ^ 31) {f : Nat → Int32} {σ0 τ0 σ τ : ST} (h : AG B f σ0 τ0 σ τ) (h7 : f 7 ≠ mI) {sd : Nat} (hsd : sd < 65536) : ∃ σa σ1 τ1 g9 b p, f_X10_copy wK wM σ = some σa ∧ f_X4_run 81 wK (nI sd) 97 σa = some σ1 ∧ f_X10_areAllAlike wK σ1 = some (bI b, σ1) ∧ f_X12_lives 0 (nI sd) τ = some τ1 ∧ f_X12_alikes 0 τ1 = some (p, sA τ1 9 g9) ∧ (gA τ1 1 4 = nI (YN (gA τ1 1)) ∧ (p = (nI 1 <<< (nI (YN (gA τ1 1)) &&& nI 31)) - nI 1) = (b = true)) ∧ AG B f σ0 τ0 σ1 (sA (sA τ1 9 g9) 1 (fun i => if i < 4480 then gA τ1 1 (24250 + i) else gA τ1 1 i)) := by
  obtain ⟨h1, h2, h3, h4⟩ := h
  have hwM : wv σ wM = wv σ0 wM := wM_EA h1
  have hWσ : RelW B (wv σ wM) (gA τ 1) (gB τ0 2) := by rw [hwM]; exact h3
  obtain ⟨L0, z0, y1, y2, y3, y4⟩ := days_of hWσ
  obtain ⟨σa, c1, c2⟩ := c_copyW wK_w wM_w (Or.inr (by decide)) y1 y2 (show gI σ (wM + 8) 6 = nI z0 from y3) (show gI σ (wM + 8) 7 = nI L0 from y4)
  have hWa : RelW B (wv σa wK) (gA τ 1) (gB τ0 2) := RelW_cp hWσ y1 y4 c2
  have hl : isLf wK 81 := Or.inr ⟨rfl, rfl⟩
  obtain ⟨σ1, τ1, L, D, s, d, a1, a2, a3, a4⟩ := L_live hl hB hWa (by rw [(h2 7 (by omega)).1]; exact h7) hsd
  obtain ⟨f7, hrd⟩ := LV_days a4
  obtain ⟨b1, ⟨b21, b22, b23, b24⟩, _, _, _, ⟨b6, b7⟩, b8⟩ := a4
  have hY := b1.1.1.2.1
  have hal := c_allAlike_2 wK_w b1.1 b1.2.2.2.2.2.1 FU 0 (by omega) (by unfold FU; omega) (fun z hz => by omega)
  obtain ⟨p, g9, p1, p2⟩ := r_alikes_loop b1.1.1 FU 0 (nI 0) τ1 (by omega) (by unfold FU; omega) rfl (fun k => set_0 _ k)
  -- the days of the kept world are those of the world
  have eD : ∀ x, 9 ≤ x → x < 15 → ∀ k, k < L0 → gA (wv σ1 wK) x k = gA (wv σ0 wM) x k := fun x x1 x2 k hk => by
    rw [← hwM, wv_A _ _ (by omega), wv_A _ _ (by omega)]
    have hx : ∀ x : Fin 15, 9 ≤ x.1 → scC (wK + x.1) = false ∧ EL wK 81 (wK + x.1) = false := by decide +kernel
    have hx2 := hx ⟨x, x2⟩ x1
    have z1 := (b6.2.2 (wK + x) (by unfold wK; omega) hx2.1 hx2.2).2.2.1
    rw [z1]
    exact c2.2.2.1 x k (Or.inr ⟨x1, x2, hk⟩)
  have eL : L0 = L := by
    have z1 := (b6.2.2 (wK + 8) (by decide) rfl rfl).1 7
    have z2 : gI σa (wK + 8) 7 = gI σ (wM + 8) 7 := c2.2.1 8 7 (Or.inr (Or.inr ⟨rfl, Or.inr rfl⟩))
    have z3 : gI σ (wM + 8) 7 = nI L0 := y4
    rw [z2, z3, b22] at z1
    rw [nI_e (by omega) (by omega)] at z1
    exact z1.symm
  subst eL
  have hrc : RdC (wv σ0 wM) D L0 := fun k hk => by
    have q := b23 k hk
    rw [eD 9 (by omega) (by omega) k hk, eD 10 (by omega) (by omega) k hk, eD 11 (by omega) (by omega) k hk, eD 12 (by omega) (by omega) k hk, eD 13 (by omega) (by omega) k hk, eD 14 (by omega) (by omega) k hk] at q
    exact q
  have hF : ∀ k, k < 4480 → gA τ1 1 (24250 + k) = f k := fun k hk => by rw [b7.2.2.2.2 _ (by omega) (by omega)]; exact (h2 k hk).2
  have hal' : f_X10_areAllAlike wK σ1 = some (bI (decide (∀ z, z < YN (gA τ1 1) → alk (gA τ1 1) z = true)), σ1) := hal
  refine ⟨σa, σ1, τ1, g9, _, p, c1, a1, hal', a2, p1, ⟨eY _, ?_⟩, ?_, fun k hk => ?_, ?_, ?_⟩
  · rw [all_set hY p2, decide_eq_true_eq]
  · -- the class
    have q1 : Sq EA [] σ σa := by
      refine ⟨fun k _ => (c2.1 0 (by unfold wK; omega)).1 k, fun k _ => (c2.1 0 (by unfold wK; omega)).2.1 k, fun x x1 x2 x3 => c2.1 x ?_⟩
      unfold EA at x3
      rw [Bool.or_eq_false_iff] at x3
      have := x3.1
      unfold wK
      simp only [Bool.and_eq_false_iff, decide_eq_false_iff_not] at this
      omega
    have q2 : Sq EA [] σa σ1 := ⟨b6.1, b6.2.1, fun x x1 x2 x3 => b6.2.2 x x1 x2 (by
      cases z : EL wK 81 x
      · rfl
      · exfalso
        have hx : x < 194 := by
          unfold EL inW wK at z
          simp only [Bool.or_eq_true, Bool.and_eq_true, decide_eq_true_eq] at z
          omega
        have := ea_1 x hx z
        rw [this] at x3
        exact absurd x3 (by decide))⟩
    exact (h1.trans q1).trans q2
  · rw [gA_sA, if_pos rfl]
    rw [if_pos hk, if_neg (by omega), hF k hk]
    exact ⟨rfl, rfl⟩
  · rw [gA_sA, if_pos rfl]
    refine RelW_low h3 (fun k hk => ?_) (fun D' L' l1 l4 l5 l6 l7 => ?_)
    · rw [if_pos hk, hF k hk, (h2 k hk).1]
    · have eL : L' = L0 := by
        have z : nI L' = nI L0 := l4.symm.trans (by rw [← hwM]; exact y4)
        rw [nI_e (by omega) (by omega)] at z
        exact z
      subst eL
      have r1 := RdR_of l5 b8 l6 hrc hrd
      intro k hk
      have r2 := r1 k hk
      unfold stb at r2 ⊢
      simp only []
      rw [if_neg (by omega), if_neg (by omega), if_neg (by omega), if_neg (by omega), if_neg (by omega), if_neg (by omega)]
      exact r2
  · refine (h4.trans b7.a).trans (SLa.trans (τ1 := sA τ1 9 g9) (SL.sc (e := []) ((Sc.rf τ1).sA _ rfl) (fun k _ => by simp) (fun _ _ _ => rfl)).a (SLa.s1 _ (fun k a b => ?_)))
    rw [if_neg (by omega)]
    rfl
