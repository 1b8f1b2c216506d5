/-! LOST: the class's side -/
def Lp (f : Nat → Int32) (y : Nat) (V : Int32) (c : Nat) : Bool := !sm f y && (decide (∃ j, j < KN f ∧ hfq f y c j (KN f) = true) && decide (∀ j, j < KN f → hfq f y c j (KN f) = true → bt V j = true))
theorem z_iff (x : Int32) : x = nI 0 ↔ ∀ k, k < 32 → bt x k = false := ⟨fun e k _ => by rw [e, bt_n0], fun h => bt_ext (fun k hk => by rw [h k hk, bt_n0])⟩
theorem Lp_iff {f : Nat → Int32} {y c : Nat} {V S : Int32} (hK : KN f ≤ 6) (hS : ∀ k, bt S k = (decide (k < KN f) && (!sm f y && hfq f y c k (KN f)))) : Lp f y V c = true ↔ (¬ S = nI 0 ∧ S &&& (V ^^^ mI) = nI 0) := by
  unfold Lp
  rw [Bool.and_eq_true, Bool.and_eq_true, decide_eq_true_eq, decide_eq_true_eq, z_iff, z_iff]
  have hin : ∀ k, bt S k = true ↔ (k < KN f ∧ (!sm f y) = true ∧ hfq f y c k (KN f) = true) := fun k => by
    rw [hS k, Bool.and_eq_true, Bool.and_eq_true, decide_eq_true_eq]
  constructor
  · rintro ⟨h0, ⟨j, h1, h2⟩, h3⟩
    refine ⟨fun q => ?_, fun k hk => ?_⟩
    · have := q j (by omega)
      rw [(hin j).mpr ⟨h1, h0, h2⟩] at this
      exact absurd this (by decide)
    · rw [bt_and, bt_m _ hk]
      cases z : bt S k
      · rfl
      · obtain ⟨q1, _, q2⟩ := (hin k).mp z
        rw [h3 k q1 q2]; rfl
  · rintro ⟨h1, h2⟩
    have ex : ∃ k, k < 32 ∧ bt S k = true := by
      refine Classical.byContradiction (fun q => h1 (fun k hk => ?_))
      cases z : bt S k
      · rfl
      · exact absurd ⟨k, hk, z⟩ q
    obtain ⟨k, hk, hb⟩ := ex
    obtain ⟨q1, q0, q2⟩ := (hin k).mp hb
    refine ⟨q0, ⟨k, q1, q2⟩, fun j hj hq => ?_⟩
    have h3 := h2 j (by omega)
    rw [bt_and, bt_m _ (by omega), (hin j).mpr ⟨hj, q0, hq⟩] at h3
    cases z : bt V j
    · rw [z] at h3; exact absurd h3 (by decide)
    · rfl
def LN (f : Nat → Int32) (V : Int32) (y : Nat) : Nat := sN (fun z => cnt (Lp f z V) 1000) y
theorem LN_le (f : Nat → Int32) (V : Int32) (y : Nat) : LN f V y ≤ 1000 * y := sN_le y (fun z _ => cnt_le _ _)
theorem c_lost_in {f : Nat → Int32} {y b : Nat} {V : Int32} (hb : b ≤ 6000) {σ : ST} (hT : ∀ c, c < 1000 → (Lp f y V c = true ↔ (¬ gA σ 101 c = nI 0 ∧ gA σ 101 c &&& (V ^^^ mI) = nI 0))) (rec18 : Nat → Int32 → Int32 → Int32 → ST → Option (Int32 × ST)) : ∀ (n c : Nat), c ≤ 1000 → 1000 - c < n → k_X11_lost_47 rec18 n 0 V (nI (b + cnt (Lp f y V) c)) (nI y) (nI c) σ = rec18 0 V (nI (b + cnt (Lp f y V) 1000)) (nI (y + 1)) σ := by
  have c13 : LC.2.1 0 13 = 101 := rfl
  intro n
  induction n with
  | zero => intros; omega
  | succ n ih =>
    intro c hc hn
    rw [k_X11_lost_47]
    by_cases e : c = 1000
    · subst e
      simp (disch := omega) only [↓mI_e, lit, ofN, bsm, nI_add, pk_mul, pk_sub, nI_e, nI_leE, nI_ltE, nI_mI, mI_nI, mI_lt, nlt_mI, mI_le, nle_mI, nI_addm, sh_b, bI_0, bI_1, bI_bI, ckZ_b, ckZ_n0, ckZ_n1, stIe, stJe, stZ_n0, stZ_n1, rm_nI, dv_nI, if_true, if_false, if_pos, if_neg, rf0, rf1, rf5, rf6, rf7, rf8, rf9, rf20, rf23, rf24, rf25, rf26, rf29, rf31, rf33, rf34, rf35, rf37, rf38, rf41, rf42, rf43, ]
    · have l1 := la (Λ := LC) (σ := σ) (y := 101) (k := c) 1001 rfl (by omega) (by decide)
      have IH := ih (c + 1) (by omega) (by omega)
      rw [cnt] at IH
      have hq := hT c (by omega)
      by_cases z1 : gA σ 101 c = nI 0
      · have zl : Lp f y V c = false := by
          cases z : Lp f y V c
          · rfl
          · exact absurd z1 (hq.mp z).1
        rw [zl, if_neg (by decide), Nat.add_zero] at IH
        simp (disch := omega) only [↓mI_e, lit, ofN, bsm, nI_add, pk_mul, pk_sub, nI_e, nI_leE, nI_ltE, nI_mI, mI_nI, mI_lt, nlt_mI, mI_le, nle_mI, nI_addm, sh_b, bI_0, bI_1, bI_bI, ckZ_b, ckZ_n0, ckZ_n1, stIe, stJe, stZ_n0, stZ_n1, rm_nI, dv_nI, if_true, if_false, if_pos, if_neg, rf0, rf1, rf5, rf6, rf7, rf8, rf9, rf20, rf23, rf24, rf25, rf26, rf29, rf31, rf33, rf34, rf35, rf37, rf38, rf41, rf42, rf43,  c13, l1, z1, k_X11_lost_82]
        exact IH
      · by_cases z2 : gA σ 101 c &&& (V ^^^ mI) = nI 0
        · rw [hq.mpr ⟨z1, z2⟩, if_pos rfl, ← Nat.add_assoc] at IH
          simp (disch := omega) only [↓mI_e, lit, ofN, bsm, nI_add, pk_mul, pk_sub, nI_e, nI_leE, nI_ltE, nI_mI, mI_nI, mI_lt, nlt_mI, mI_le, nle_mI, nI_addm, sh_b, bI_0, bI_1, bI_bI, ckZ_b, ckZ_n0, ckZ_n1, stIe, stJe, stZ_n0, stZ_n1, rm_nI, dv_nI, if_true, if_false, if_pos, if_neg, rf0, rf1, rf5, rf6, rf7, rf8, rf9, rf20, rf23, rf24, rf25, rf26, rf29, rf31, rf33, rf34, rf35, rf37, rf38, rf41, rf42, rf43,  c13, l1, z1, z2, k_X11_lost_82]
          exact IH
        · have zl : Lp f y V c = false := by
            cases z : Lp f y V c
            · rfl
            · exact absurd (hq.mp z).2 z2
          rw [zl, if_neg (by decide), Nat.add_zero] at IH
          simp (disch := omega) only [↓mI_e, lit, ofN, bsm, nI_add, pk_mul, pk_sub, nI_e, nI_leE, nI_ltE, nI_mI, mI_nI, mI_lt, nlt_mI, mI_le, nle_mI, nI_addm, sh_b, bI_0, bI_1, bI_bI, ckZ_b, ckZ_n0, ckZ_n1, stIe, stJe, stZ_n0, stZ_n1, rm_nI, dv_nI, if_true, if_false, if_pos, if_neg, rf0, rf1, rf5, rf6, rf7, rf8, rf9, rf20, rf23, rf24, rf25, rf26, rf29, rf31, rf33, rf34, rf35, rf37, rf38, rf41, rf42, rf43,  c13, l1, z1, z2, k_X11_lost_82]
          exact IH
theorem c_lost_out {B : Nat} {g : Nat → Int64} {f : Nat → Int32} {V : Int32} : ∀ (n y : Nat) (σ : ST), RelW B (wv σ wM) f g → y ≤ YN f → YN f - y < n → ∃ T, k_X11_lost_18 n 0 V (nI (LN f V y)) (nI y) σ = some (nI (LN f V (YN f)), sI (sA σ 101 T) 0 14 (nI 0)) := by
  have hw := wM_w
  have c13 : LC.2.1 0 13 = 101 := rfl
  obtain ⟨F, hF, hF2⟩ : ∃ F, FU = F ∧ 5000 < F := ⟨FU, rfl, by unfold FU; omega⟩
  intro n
  induction n with
  | zero => intros; omega
  | succ n ih =>
    intro y σ h hy hn
    have hK := h.1.1.1
    have hY := h.1.1.2.1
    have e7 : gI σ (wM + 1) 7 = nI (YN f) := h.1.2.1.2.1.trans (eY f)
    rw [k_X11_lost_18, hF]
    by_cases e : y = YN f
    · subst e
      refine ⟨gA σ 101, ?_⟩
      rw [sA_self]
      simp (disch := omega) only [↓mI_e, lit, ofN, bsm, nI_add, pk_mul, pk_sub, nI_e, nI_leE, nI_ltE, nI_mI, mI_nI, mI_lt, nlt_mI, mI_le, nle_mI, nI_addm, sh_b, bI_0, bI_1, bI_bI, ckZ_b, ckZ_n0, ckZ_n1, stIe, stJe, stZ_n0, stZ_n1, rm_nI, dv_nI, if_true, if_false, if_pos, if_neg, rf0, rf1, rf5, rf6, rf7, rf8, rf9, rf20, rf23, rf24, rf25, rf26, rf29, rf31, rf33, rf34, rf35, rf37, rf38, rf41, rf42, rf43,  c02, w_0 hw, e7, c_answer]
    · obtain ⟨T, q1, q2⟩ := c_hold hw (by unfold wM; omega) h (y := y) (by omega)
      have hl := LN_le f V y
      have q3 := c_lost_in (f := f) (y := y) (b := LN f V y) (V := V) (by omega) (σ := sA σ 101 T) (fun c hc => by
        rw [gA_sA, if_pos rfl]
        exact Lp_iff hK (q2 c (by omega))) (k_X11_lost_18 n) F 0 (by omega) (by omega)
      obtain ⟨T2, q4⟩ := ih (y + 1) (sA σ 101 T) (by rw [wv_sA_out _ (by unfold wM; omega)]; exact h) (by omega) (by omega)
      rw [sA_sA] at q4
      refine ⟨T2, ?_⟩
      simp (disch := omega) only [↓mI_e, lit, ofN, bsm, nI_add, pk_mul, pk_sub, nI_e, nI_leE, nI_ltE, nI_mI, mI_nI, mI_lt, nlt_mI, mI_le, nle_mI, nI_addm, sh_b, bI_0, bI_1, bI_bI, ckZ_b, ckZ_n0, ckZ_n1, stIe, stJe, stZ_n0, stZ_n1, rm_nI, dv_nI, if_true, if_false, if_pos, if_neg, rf0, rf1, rf5, rf6, rf7, rf8, rf9, rf20, rf23, rf24, rf25, rf26, rf29, rf31, rf33, rf34, rf35, rf37, rf38, rf41, rf42, rf43,  c02, c13, w_0 hw, e7, q1]
      exact q3.trans q4
