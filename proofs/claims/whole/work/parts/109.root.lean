/-! ROOT -/
def sN (g : Nat → Nat) : Nat → Nat
  | 0 => 0
  | n + 1 => sN g n + g n
def dS (p : Nat → Bool) (g : Nat → Nat) : Nat → Nat
  | 0 => 0
  | n + 1 => dS p g n + (if p n then g n else 0)
theorem sN_le {g : Nat → Nat} {c : Nat} : ∀ n, (∀ i, i < n → g i ≤ c) → sN g n ≤ c * n
  | 0, _ => Nat.zero_le _
  | n + 1, h => by
    have h1 := sN_le n (fun i hi => h i (by omega))
    have h2 := h n (by omega)
    rw [sN, Nat.mul_succ]; omega
theorem sN_congr {g g2 : Nat → Nat} : ∀ n, (∀ i, i < n → g i = g2 i) → sN g n = sN g2 n
  | 0, _ => rfl
  | n + 1, h => by rw [sN, sN, sN_congr n (fun i hi => h i (by omega)), h n (by omega)]
theorem sN_mul (c : Nat) (g : Nat → Nat) : ∀ n, sN (fun k => c * g k) n = c * sN g n
  | 0 => rfl
  | n + 1 => by rw [sN, sN, sN_mul c g n, Nat.mul_add]
theorem dS_le {p : Nat → Bool} {g : Nat → Nat} {c : Nat} : ∀ n, (∀ i, i < n → p i = true → g i ≤ c) → dS p g n ≤ c * n
  | 0, _ => Nat.zero_le _
  | n + 1, h => by
    have h1 := dS_le n (fun i hi => h i (by omega))
    rw [dS, Nat.mul_succ]
    cases q : p n
    · rw [if_neg (by decide)]; omega
    · rw [if_pos rfl]
      have h2 := h n (by omega) q
      omega
theorem dS_congr {p q : Nat → Bool} {g g2 : Nat → Nat} : ∀ n, (∀ i, i < n → p i = q i) → (∀ i, i < n → p i = true → g i = g2 i) → dS p g n = dS q g2 n
  | 0, _, _ => rfl
  | n + 1, h, h2 => by
    rw [dS, dS, dS_congr n (fun i hi => h i (by omega)) (fun i hi => h2 i (by omega)), ← h n (by omega)]
    cases z : p n
    · rfl
    · rw [if_pos rfl, if_pos rfl, h2 n (by omega) z]
theorem dS_tail {p : Nat → Bool} {g : Nat → Nat} {m : Nat} : ∀ n, m ≤ n → (∀ i, m ≤ i → i < n → p i = false) → dS p g n = dS p g m
  | 0, h, _ => by rw [show m = 0 by omega]
  | n + 1, h, h2 => by
    by_cases e : m = n + 1
    · rw [e]
    · rw [dS, h2 n (by omega) (by omega), dS_tail n (by omega) (fun i a b => h2 i a (by omega))]; rfl
theorem dS_DL {p : Nat → Bool} {R : Nat → Int32} {v : Nat → Int32} (h : Int32 → Nat) : ∀ n, DL p n R 0 v → sN (fun m => h (R m)) (cnt p n) = dS p (fun d => h (v d)) n
  | 0, _ => rfl
  | n + 1, hd => by
    have ih := dS_DL h n (fun d a b => hd d (by omega) b)
    rw [dS, cnt, ← ih]
    cases z : p n
    · rfl
    · have h2 := hd n (by omega) z
      rw [Nat.zero_add] at h2
      rw [if_pos rfl, if_pos rfl, sN, h2]
theorem sum6_N (f : Nat → Int32) (a : Nat) : ∀ n, sum6 f a n = nI (sN (fun k => vN (f (a + k))) n)
  | 0 => rfl
  | n + 1 => by rw [sum6, sN, sum6_N f a n, ← nI_add, nI_vN]
theorem dv_lN {a d : Nat} (ha : a < 2 ^ 31) (hd : d < 2 ^ 31) : lN a / lN d = lN (a / d) := by
  apply Int64.toInt_inj.mp
  have h1 : a / d ≤ a := Nat.div_le_self a d
  rw [Int64.toInt_div, lN_toInt ha, lN_toInt hd, lN_toInt (by omega), Int.tdiv_eq_ediv_of_nonneg (by omega), ← Int.natCast_ediv]
  generalize a / d = q at h1 ⊢
  exact Int.bmod_eq_of_le (by omega) (by omega)
theorem rm_lN {a d : Nat} (ha : a < 2 ^ 31) (h0 : 0 < d) (hd : d < 2 ^ 31) : rmL (lN a) (lN d) = some (lN (a % d)) := by
  have h1 : ¬ lN d = 0 := fun e => by
    have h2 := lN_toInt hd
    rw [e] at h2
    have : (0 : Int64).toInt = 0 := rfl
    omega
  unfold rmL
  rw [if_neg h1, dv_lN ha hd, lN_mul, lN_sub (Nat.div_mul_le_self a d)]
  exact congrArg (fun x => some (lN x)) (by have := Nat.div_add_mod' a d; omega)
/-- the weight of a have -/
def wD (f : Nat → Int32) (y d : Nat) : Nat := 7 + vN (f (vb y (d / 30) (d % 30 + 1)))
def wS (f : Nat → Int32) (a y k : Nat) : Nat := if sm f y then vN (f (tb a y + k)) else 3 * vN (f (tb a y + 6 + k))
def wt (f : Nat → Int32) (a y : Nat) : Nat := sN (wS f a y) 6 + (if sm f y then 0 else dS (std (sh f (tb a y))) (wD f y) 180)
def rtN (f : Nat → Int32) (a : Nat) : Nat → Nat
  | 0 => 0
  | y + 1 => if isPl f y a then (31 * rtN f a y + wt f a y) % 1000003 else rtN f a y
theorem rtN_lt (f : Nat → Int32) (a : Nat) : ∀ y, rtN f a y < 1000003
  | 0 => by rw [rtN]; omega
  | y + 1 => by
    rw [rtN]
    split
    · exact Nat.mod_lt _ (by decide)
    · exact rtN_lt f a y
theorem wS_le {i : Nat} (hi : i ≤ 3072) {s : ST} {f : Nat → Int32} {g : Nat → Int64} (h : RelW (50000 * i) s f g) {a y : Nat} (ha : a < 6) (hy : y < 6) : ∀ k, k < 6 → wS f a y k ≤ 153600000 := by
  intro k hk
  have h1 := (h.2.2.2.2.2.1 a y ha hy).2 k hk
  unfold wS
  cases hs : sm f y
  · rw [hs] at h1
    simp only [Bool.false_eq_true, if_false] at h1 ⊢
    have h2 := gvl h hy k hk
    have h3 : vN (sh f (tb a y) (6 + k)) = vN (f (tb a y + 6 + k)) := by unfold sh; rw [show tb a y + (6 + k) = tb a y + 6 + k by omega]
    omega
  · rw [hs] at h1
    simp only [if_true] at h1 ⊢
    have h3 : vN (sh f (tb a y) k) = vN (f (tb a y + k)) := rfl
    omega
theorem wt_le {i : Nat} (hi : i ≤ 3072) {s : ST} {f : Nat → Int32} {g : Nat → Int64} (h : RelW (50000 * i) s f g) {a y : Nat} (ha : a < 6) (hy : y < 6) : wt f a y ≤ 153600000 * 6 + 1007 * 180 := by
  unfold wt
  have h1 := sN_le 6 (wS_le hi h ha hy)
  cases hs : sm f y
  · rw [if_neg (by decide)]
    have h2 : dS (std (sh f (tb a y))) (wD f y) 180 ≤ 1007 * 180 := dS_le 180 (fun d hd hp => by
      have h4 := vals_eq h hy (h.2.2.2.2.2.1 a y ha hy).2 hd (by
        unfold std jbits
        rw [if_pos (by omega), hs]; exact hp)
      unfold wD
      omega)
    omega
  · rw [if_pos rfl]; omega
/-! the reference's loops -/
theorem r_root_69 {a y ad N V0 : Nat} (hN : N ≤ 180) (rec19 : Nat → Int32 → Int64 → Int32 → ST → Option (Int32 × ST)) (τ : ST) (h27 : gI τ 0 27 = nI N) (hv : ∀ j, j < N → vN (gA τ 10 j) ≤ 1000) : ∀ (n m : Nat), m ≤ N → N - m < n → k_X12_root_69 rec19 n 0 (nI a) (lN (V0 + sN (fun j => 7 + vN (gA τ 10 j)) m)) (nI y) (nI ad) (nI m) τ = k_X12_root_101 rec19 FU 0 (nI a) (lN (V0 + sN (fun j => 7 + vN (gA τ 10 j)) N)) (nI y) (nI ad) (nI 0) τ := by
  obtain ⟨F, hF, hF2⟩ : ∃ F, FU = F ∧ 5000 < F := ⟨FU, rfl, by unfold FU; omega⟩
  rw [hF]
  intro n
  induction n with
  | zero => intros; omega
  | succ n ih =>
    intro m hm hn
    rw [k_X12_root_69, hF]
    by_cases e : m = N
    · subst e
      simp (disch := omega) only [↓mI_e, lit, ofN, bsm, nI_add, pk_mul, pk_sub, nI_e, nI_leE, nI_ltE, nI_mI, mI_nI, mI_lt, nlt_mI, mI_le, nle_mI, nI_addm, sh_b, bI_0, bI_1, bI_bI, ckZ_b, ckZ_n0, ckZ_n1, stIe, stJe, stZ_n0, stZ_n1, rm_nI, dv_nI, if_true, if_false, if_pos, if_neg, rf0, rf1, rf5, rf6, rf7, rf8, rf9, rf20, rf23, rf24, rf25, rf26, rf29, rf31, rf33, rf34, rf35, rf37, rf38, rf41, rf42, rf43,  h27]
    · have h1 := hv m (by omega)
      have e1 : (nI 7 + gA τ 10 m).toInt64 = lN (7 + vN (gA τ 10 m)) := by
        generalize gA τ 10 m = x at h1 ⊢
        rw [← nI_l (by omega), ← nI_add, nI_vN]
      have IH := ih (m + 1) (by omega) (by omega)
      rw [sN, ← Nat.add_assoc] at IH
      simp (disch := omega) only [↓mI_e, lit, ofN, bsm, nI_add, pk_mul, pk_sub, nI_e, nI_leE, nI_ltE, nI_mI, mI_nI, mI_lt, nlt_mI, mI_le, nle_mI, nI_addm, sh_b, bI_0, bI_1, bI_bI, ckZ_b, ckZ_n0, ckZ_n1, stIe, stJe, stZ_n0, stZ_n1, rm_nI, dv_nI, if_true, if_false, if_pos, if_neg, rf0, rf1, rf5, rf6, rf7, rf8, rf9, rf20, rf23, rf24, rf25, rf26, rf29, rf31, rf33, rf34, rf35, rf37, rf38, rf41, rf42, rf43,  h27, lr10, e1, lN_add]
      exact IH
theorem r_root_101 {f : Nat → Int32} {a y V0 : Nat} (ha : a < 6) (hy : y < 6) (rec19 : Nat → Int32 → Int64 → Int32 → ST → Option (Int32 × ST)) (τ : ST) (hf : gA τ 1 = f) (hb : ∀ k, k < 6 → wS f a y k ≤ 153600000) (hV : V0 + sN (wS f a y) 6 < 2 ^ 31) : ∀ (n k : Nat), k ≤ 6 → 6 - k < n → k_X12_root_101 rec19 n 0 (nI a) (lN (V0 + sN (wS f a y) k)) (nI y) (nI (tb a y)) (nI k) τ = rec19 0 (nI a) (lN ((V0 + sN (wS f a y) 6) % 1000003)) (nI (y + 1)) τ := by
  intro n
  induction n with
  | zero => intros; omega
  | succ n ih =>
    intro k hk hn
    rw [k_X12_root_101]
    by_cases e : k = 6
    · subst e
      simp (disch := omega) only [↓mI_e, lit, ofN, bsm, nI_add, pk_mul, pk_sub, nI_e, nI_leE, nI_ltE, nI_mI, mI_nI, mI_lt, nlt_mI, mI_le, nle_mI, nI_addm, sh_b, bI_0, bI_1, bI_bI, ckZ_b, ckZ_n0, ckZ_n1, stIe, stJe, stZ_n0, stZ_n1, rm_nI, dv_nI, if_true, if_false, if_pos, if_neg, rf0, rf1, rf5, rf6, rf7, rf8, rf9, rf20, rf23, rf24, rf25, rf26, rf29, rf31, rf33, rf34, rf35, rf37, rf38, rf41, rf42, rf43,  litL, rm_lN, k_X12_root_162]
    · have IH := ih (k + 1) (by omega) (by omega)
      rw [sN, ← Nat.add_assoc] at IH
      have h1 := hb k (by omega)
      have htb : tb a y < 29000 := by unfold tb; omega
      cases hs : sm f y
      · have e1 : (nI 3 * gA τ 1 (tb a y + 6 + k)).toInt64 = lN (wS f a y k) := by
          unfold wS at h1 ⊢
          rw [hs] at h1 ⊢
          simp only [Bool.false_eq_true, if_false] at h1 ⊢
          rw [hf]
          generalize f (tb a y + 6 + k) = x at h1 ⊢
          rw [← nI_l (by omega), ← pk_mul, nI_vN]
        simp (disch := omega) only [↓mI_e, lit, ofN, bsm, nI_add, pk_mul, pk_sub, nI_e, nI_leE, nI_ltE, nI_mI, mI_nI, mI_lt, nlt_mI, mI_le, nle_mI, nI_addm, sh_b, bI_0, bI_1, bI_bI, ckZ_b, ckZ_n0, ckZ_n1, stIe, stJe, stZ_n0, stZ_n1, rm_nI, dv_nI, if_true, if_false, if_pos, if_neg, rf0, rf1, rf5, rf6, rf7, rf8, rf9, rf20, rf23, rf24, rf25, rf26, rf29, rf31, rf33, rf34, rf35, rf37, rf38, rf41, rf42, rf43,  r_isSum, hf, hs, lr1, e1, k_X12_root_148, lN_add]
        rw [hf] at e1
        rw [e1, lN_add]
        exact IH
      · have e1 : (gA τ 1 (tb a y + k)).toInt64 = lN (wS f a y k) := by
          unfold wS at h1 ⊢
          rw [hs] at h1 ⊢
          simp only [if_true] at h1 ⊢
          rw [hf]
          generalize f (tb a y + k) = x at h1 ⊢
          rw [← nI_l (by omega), nI_vN]
        simp (disch := omega) only [↓mI_e, lit, ofN, bsm, nI_add, pk_mul, pk_sub, nI_e, nI_leE, nI_ltE, nI_mI, mI_nI, mI_lt, nlt_mI, mI_le, nle_mI, nI_addm, sh_b, bI_0, bI_1, bI_bI, ckZ_b, ckZ_n0, ckZ_n1, stIe, stJe, stZ_n0, stZ_n1, rm_nI, dv_nI, if_true, if_false, if_pos, if_neg, rf0, rf1, rf5, rf6, rf7, rf8, rf9, rf20, rf23, rf24, rf25, rf26, rf29, rf31, rf33, rf34, rf35, rf37, rf38, rf41, rf42, rf43,  r_isSum, hf, hs, Bool.true_eq_false, lr1, k_X12_root_148, lN_add]
        rw [hf] at e1
        rw [e1, lN_add]
        exact IH
theorem r_root_19 {i : Nat} (hi : i ≤ 3072) {s : ST} {f : Nat → Int32} {g : Nat → Int64} (h : RelW (50000 * i) s f g) {a : Nat} (ha : a < 6) : ∀ (n y : Nat) (τ : ST), y ≤ YN f → YN f - y < n → gA τ 1 = f → ∃ τ1, k_X12_root_19 n 0 (nI a) (lN (rtN f a y)) (nI y) τ = some (nI (rtN f a (YN f)), sI τ1 0 2 (nI 0)) ∧ Sc [] τ τ1 ∧ gA τ1 1 = f := by
  have hWF := h.1.1
  have hY := hWF.2.1
  have h4 : f 4 = nI (YN f) := (nI_vN _).symm
  obtain ⟨F, hF, hF2⟩ : ∃ F, FU = F ∧ 5000 < F := ⟨FU, rfl, by unfold FU; omega⟩
  intro n
  induction n with
  | zero => intros; omega
  | succ n ih =>
    intro y τ hy hn hf
    rw [k_X12_root_19, hF]
    have h4' : gA τ 1 4 = nI (YN f) := by rw [hf]; exact h4
    by_cases e : y = YN f
    · subst e
      refine ⟨τ, ?_, Sc.rf τ, hf⟩
      simp (disch := omega) only [↓mI_e, lit, ofN, bsm, nI_add, pk_mul, pk_sub, nI_e, nI_leE, nI_ltE, nI_mI, mI_nI, mI_lt, nlt_mI, mI_le, nle_mI, nI_addm, sh_b, bI_0, bI_1, bI_bI, ckZ_b, ckZ_n0, ckZ_n1, stIe, stJe, stZ_n0, stZ_n1, rm_nI, dv_nI, if_true, if_false, if_pos, if_neg, rf0, rf1, rf5, rf6, rf7, rf8, rf9, rf20, rf23, rf24, rf25, rf26, rf29, rf31, rf33, rf34, rf35, rf37, rf38, rf41, rf42, rf43,  lr1, h4', lN_i, r_gives]
    · obtain ⟨gr, c1⟩ := r_isPlace (τ := τ) (y := y) (k := a) (by rw [hf]; exact hWF) (by rw [hf]; omega) (by omega)
      rw [hf] at c1
      have es : rtN f a (y + 1) = if isPl f y a then (31 * rtN f a y + wt f a y) % 1000003 else rtN f a y := rfl
      have hrl := rtN_lt f a y
      cases hp : isPl f y a
      · rw [hp] at es c1
        have es : rtN f a (y + 1) = rtN f a y := es
        obtain ⟨τ1, q1, q2, q3⟩ := ih (y + 1) (sA τ 9 gr) (by omega) (by omega) hf
        rw [es] at q1
        refine ⟨τ1, ?_, ((Sc.rf τ).sA _ rfl).trans q2, q3⟩
        simp (disch := omega) only [↓mI_e, lit, ofN, bsm, nI_add, pk_mul, pk_sub, nI_e, nI_leE, nI_ltE, nI_mI, mI_nI, mI_lt, nlt_mI, mI_le, nle_mI, nI_addm, sh_b, bI_0, bI_1, bI_bI, ckZ_b, ckZ_n0, ckZ_n1, stIe, stJe, stZ_n0, stZ_n1, rm_nI, dv_nI, if_true, if_false, if_pos, if_neg, rf0, rf1, rf5, rf6, rf7, rf8, rf9, rf20, rf23, rf24, rf25, rf26, rf29, rf31, rf33, rf34, rf35, rf37, rf38, rf41, rf42, rf43,  lr1, h4', c1, bI_f, k_X12_root_162]
        exact q1
      · rw [hp] at es c1
        have es : rtN f a (y + 1) = (31 * rtN f a y + wt f a y) % 1000003 := es
        obtain ⟨τ2, l1, l2, l3, l4⟩ := r_laysTwins (a := tb a y) (y := y) (by unfold tb; omega) (by omega) (sA τ 9 gr)
        have l1 : f_X12_laysTwins 0 (nI (30 + 12 * (6 * a + y))) (nI y) (sA τ 9 gr) = some τ2 := l1
        have hf0 : gA (sA τ 9 gr) 1 = f := hf
        rw [hf0] at l3 l4
        have g2 : gA τ2 1 = f := (l2.2.2.1 1 (by decide) (by decide) (by decide)).trans hf0
        have hwl := wt_le hi h ha (show y < 6 by omega)
        have hN : twN (sm f y) (sh f (tb a y)) ≤ 180 := by
          unfold twN
          split
          · omega
          · exact cnt_le _ _
        have hval : ∀ d, d < 180 → sm f y = false → std (sh f (tb a y)) d = true → vN (f (vb y (d / 30) (d % 30 + 1))) ≤ 1000 := fun d hd hs hpd => (vals_eq h (show y < 6 by omega) (h.2.2.2.2.2.1 a y ha (by omega)).2 hd (by
          unfold std jbits
          rw [if_pos (by omega), hs]; exact hpd)).2
        have hv : ∀ j, j < twN (sm f y) (sh f (tb a y)) → vN (gA τ2 10 j) ≤ 1000 := fun j hj => by
          unfold twN at hj
          cases hs : sm f y
          · rw [hs, if_neg (by decide)] at hj
            obtain ⟨d, k1, k2, k3⟩ := cnt_onto 180 j hj
            have k4 := (l4 hs).2.1 d k1 k2
            rw [k3, Nat.zero_add] at k4
            rw [k4]
            exact hval d k1 hs k2
          · rw [hs, if_pos rfl] at hj; omega
        have r1 := r_root_69 (a := a) (y := y) (ad := tb a y) (V0 := 31 * rtN f a y) hN (k_X12_root_19 n) τ2 l3 hv FU 0 (by omega) (by unfold FU; omega)
        have eS : 31 * rtN f a y + sN (fun j => 7 + vN (gA τ2 10 j)) (twN (sm f y) (sh f (tb a y))) + sN (wS f a y) 6 = 31 * rtN f a y + wt f a y := by
          unfold wt twN
          cases hs : sm f y
          · rw [if_neg (by decide), if_neg (by decide)]
            have := dS_DL (fun x => 7 + vN x) 180 (l4 hs).2.1
            rw [this]
            show _ + dS _ (wD f y) 180 + _ = _
            omega
          · rw [if_pos rfl, if_pos rfl, sN]; omega
        have r2 := r_root_101 ha (show y < 6 by omega) (V0 := 31 * rtN f a y + sN (fun j => 7 + vN (gA τ2 10 j)) (twN (sm f y) (sh f (tb a y)))) (k_X12_root_19 n) τ2 g2 (wS_le hi h ha (by omega)) (by rw [eS]; omega) FU 0 (by omega) (by unfold FU; omega)
        rw [eS] at r2
        obtain ⟨τ3, q1, q2, q3⟩ := ih (y + 1) τ2 (by omega) (by omega) g2
        rw [es] at q1
        refine ⟨τ3, ?_, (((Sc.rf τ).sA _ rfl).trans l2.sc).trans q2, q3⟩
        have r3 := (r1.trans r2).trans q1
        rw [hF, sN, Nat.add_zero] at r3
        have n10 : (nI 1 = nI 0) = False := eq_false (by decide)
        simp (disch := omega) only [↓mI_e, lit, ofN, bsm, nI_add, pk_mul, pk_sub, nI_e, nI_leE, nI_ltE, nI_mI, mI_nI, mI_lt, nlt_mI, mI_le, nle_mI, nI_addm, sh_b, bI_0, bI_1, bI_bI, ckZ_b, ckZ_n0, ckZ_n1, stIe, stJe, stZ_n0, stZ_n1, rm_nI, dv_nI, if_true, if_false, if_pos, if_neg, rf0, rf1, rf5, rf6, rf7, rf8, rf9, rf20, rf23, rf24, rf25, rf26, rf29, rf31, rf33, rf34, rf35, rf37, rf38, rf41, rf42, rf43,  lr1, h4', c1, bI_t, n10, f_X12_thingOf, l1, litL, lN_mul]
        exact r3
/-! the class's loops -/
theorem c_weight_in {w : Nat} (hw : isW w) {y k V0 : Nat} (hy : y < 6) (hk : k < 6) {b : Nat → Int32} (hb : ∀ k, ∀ j, 30 ≤ j → bt (b k) j = false) {σ : ST} {D : Nat → Nat} (hD : ∀ d, d < 180 → std b d = true → gA σ (w + 27) (y * 180 + d) = nI (D d) ∧ D d ≤ 1000) (c0 : Int32) (rec38 : Nat → Int32 → Int32 → Int64 → Int32 → ST → Option (Int64 × ST)) : ∀ (n i : Nat), i ≤ 30 → 30 - i < n → k_X10_weightOf_65 rec38 n w c0 (nI y) (lN (V0 + dS (std b) (fun d => 7 + D d) (30 * k + i))) (nI k) (b k) (nI i) σ = rec38 w c0 (nI y) (lN (V0 + dS (std b) (fun d => 7 + D d) (30 * (k + 1)))) (nI (k + 1)) σ := by
  intro n
  induction n with
  | zero => intros; omega
  | succ n ih =>
    intro i hi hn
    rw [k_X10_weightOf_65]
    have last : (∀ j, i ≤ j → j < 30 → bt (b k) j = false) → k_X10_weightOf_122 rec38 w c0 (nI y) (lN (V0 + dS (std b) (fun d => 7 + D d) (30 * k + i))) (nI k) σ = rec38 w c0 (nI y) (lN (V0 + dS (std b) (fun d => 7 + D d) (30 * (k + 1)))) (nI (k + 1)) σ := fun hz => by
      have ec : dS (std b) (fun d => 7 + D d) (30 * (k + 1)) = dS (std b) (fun d => 7 + D d) (30 * k + i) := dS_tail _ (by omega) (fun e h1 h2 => by
        unfold std
        rw [show e / 30 = k by omega]
        exact hz _ (by omega) (by omega))
      rw [ec]
      simp (disch := omega) only [↓mI_e, lit, ofN, bsm, nI_add, pk_mul, pk_sub, nI_e, nI_leE, nI_ltE, nI_mI, mI_nI, mI_lt, nlt_mI, mI_le, nle_mI, nI_addm, sh_b, bI_0, bI_1, bI_bI, ckZ_b, ckZ_n0, ckZ_n1, stIe, stJe, stZ_n0, stZ_n1, rm_nI, dv_nI, if_true, if_false, if_pos, if_neg, rf0, rf1, rf5, rf6, rf7, rf8, rf9, rf20, rf23, rf24, rf25, rf26, rf29, rf31, rf33, rf34, rf35, rf37, rf38, rf41, rf42, rf43,  k_X10_weightOf_122]
    by_cases e : i = 30
    · subst e
      simp (disch := omega) only [↓mI_e, lit, ofN, bsm, nI_add, pk_mul, pk_sub, nI_e, nI_leE, nI_ltE, nI_mI, mI_nI, mI_lt, nlt_mI, mI_le, nle_mI, nI_addm, sh_b, bI_0, bI_1, bI_bI, ckZ_b, ckZ_n0, ckZ_n1, stIe, stJe, stZ_n0, stZ_n1, rm_nI, dv_nI, if_true, if_false, if_pos, if_neg, rf0, rf1, rf5, rf6, rf7, rf8, rf9, rf20, rf23, rf24, rf25, rf26, rf29, rf31, rf33, rf34, rf35, rf37, rf38, rf41, rf42, rf43, ]
      exact last (fun j h1 h2 => by omega)
    · have es : std b (30 * k + i) = bt (b k) i := by
        unfold std
        rw [show (30 * k + i) / 30 = k by omega, show (30 * k + i) % 30 = i by omega]
      have hz := shr_0 (x := b k) (i := i) (by omega) (hb k)
      have IH := ih (i + 1) (by omega) (by omega)
      rw [show 30 * k + (i + 1) = 30 * k + i + 1 by omega, dS, es] at IH
      simp (disch := omega) only [↓mI_e, lit, ofN, bsm, nI_add, pk_mul, pk_sub, nI_e, nI_leE, nI_ltE, nI_mI, mI_nI, mI_lt, nlt_mI, mI_le, nle_mI, nI_addm, sh_b, bI_0, bI_1, bI_bI, ckZ_b, ckZ_n0, ckZ_n1, stIe, stJe, stZ_n0, stZ_n1, rm_nI, dv_nI, if_true, if_false, if_pos, if_neg, rf0, rf1, rf5, rf6, rf7, rf8, rf9, rf20, rf23, rf24, rf25, rf26, rf29, rf31, rf33, rf34, rf35, rf37, rf38, rf41, rf42, rf43,  w_8 hw, k_X10_weightOf_116, lw27 hw]
      by_cases g : b k >>> (nI i &&& nI 31) = nI 0
      · rw [if_pos g]
        exact last (fun j h1 _ => hz.mp g j h1)
      · rw [if_neg g]
        cases cb : bt (b k) i
        · rw [cb] at IH
          simp only [Bool.false_eq_true, if_false, Nat.add_zero] at IH
          simp only [if_true]
          exact IH
        · rw [cb] at IH
          obtain ⟨d1, d2⟩ := hD (30 * k + i) (by omega) (by rw [es]; exact cb)
          have e1 : (nI 7 + gA σ (w + 27) (y * 180 + k * 30 + i)).toInt64 = lN (7 + D (30 * k + i)) := by
            rw [show y * 180 + k * 30 + i = y * 180 + (30 * k + i) by omega, d1, nI_add, nI_l (by omega)]
          simp only [if_true, ← Nat.add_assoc] at IH
          simp only [Bool.true_eq_false, if_false, e1, lN_add]
          simp only [← Nat.add_assoc]
          exact IH
theorem c_weight_out {w : Nat} (hw : isW w) {y K V0 i0 : Nat} (hK : K ≤ 6) (hy : y < 6) (hi0 : i0 < 36) {b : Nat → Int32} (hb : ∀ k, ∀ j, 30 ≤ j → bt (b k) j = false) (hb0 : ∀ k, K ≤ k → k < 6 → ∀ j, bt (b k) j = false) {σ : ST} (hB : ∀ k, k < 6 → gA σ (w + 15 + 1) (i0 * 6 + k) = b k) (e6 : gI σ (w + 1) 6 = nI K) {D : Nat → Nat} (hD : ∀ d, d < 180 → std b d = true → gA σ (w + 27) (y * 180 + d) = nI (D d) ∧ D d ≤ 1000) : ∀ (n k : Nat), k ≤ K → K - k < n → k_X10_weightOf_38 n w (nI i0) (nI y) (lN (V0 + dS (std b) (fun d => 7 + D d) (30 * k))) (nI k) σ = some (lN (V0 + dS (std b) (fun d => 7 + D d) 180), σ) := by
  obtain ⟨F, hF, hF2⟩ : ∃ F, FU = F ∧ 5000 < F := ⟨FU, rfl, by unfold FU; omega⟩
  intro n
  induction n with
  | zero => intros; omega
  | succ n ih =>
    intro k hk hn
    rw [k_X10_weightOf_38, hF]
    by_cases e : k = K
    · subst e
      have ec : dS (std b) (fun d => 7 + D d) 180 = dS (std b) (fun d => 7 + D d) (30 * k) := dS_tail _ (by omega) (fun e h1 h2 => hb0 _ (by omega) (by omega) _)
      rw [ec]
      simp (disch := omega) only [↓mI_e, lit, ofN, bsm, nI_add, pk_mul, pk_sub, nI_e, nI_leE, nI_ltE, nI_mI, mI_nI, mI_lt, nlt_mI, mI_le, nle_mI, nI_addm, sh_b, bI_0, bI_1, bI_bI, ckZ_b, ckZ_n0, ckZ_n1, stIe, stJe, stZ_n0, stZ_n1, rm_nI, dv_nI, if_true, if_false, if_pos, if_neg, rf0, rf1, rf5, rf6, rf7, rf8, rf9, rf20, rf23, rf24, rf25, rf26, rf29, rf31, rf33, rf34, rf35, rf37, rf38, rf41, rf42, rf43,  w_0 hw, e6]
    · have q1 := c_weight_in hw hy (show k < 6 by omega) (V0 := V0) hb hD (nI i0) (k_X10_weightOf_38 n) F 0 (by omega) (by omega)
      rw [Nat.add_zero, ih (k + 1) (by omega) (by omega)] at q1
      have hbo := hB k (by omega)
      simp (disch := omega) only [↓mI_e, lit, ofN, bsm, nI_add, pk_mul, pk_sub, nI_e, nI_leE, nI_ltE, nI_mI, mI_nI, mI_lt, nlt_mI, mI_le, nle_mI, nI_addm, sh_b, bI_0, bI_1, bI_bI, ckZ_b, ckZ_n0, ckZ_n1, stIe, stJe, stZ_n0, stZ_n1, rm_nI, dv_nI, if_true, if_false, if_pos, if_neg, rf0, rf1, rf5, rf6, rf7, rf8, rf9, rf20, rf23, rf24, rf25, rf26, rf29, rf31, rf33, rf34, rf35, rf37, rf38, rf41, rf42, rf43,  w_0 hw, w_2 hw, e6, f_X0_bitsOf, (isC_h hw).1, lc1 (isC_h hw), hbo]
      exact q1
theorem c_weightOf {i : Nat} (hi : i ≤ 3072) {w : Nat} (hw : isW w) {σ : ST} {f : Nat → Int32} {g : Nat → Int64} (h : RelW (50000 * i) (wv σ w) f g) {a y : Nat} (ha : a < 6) (hy : y < 6) : f_X10_weightOf w (nI (a * 6 + y)) (nI y) σ = some (lN (wt f a y), σ) := by
  obtain ⟨d1, d2, d3⟩ := have_dots h ha hy
  have hH := h.2.2.2.2.2.1 a y ha hy
  have hCR := wv_CR (w := w) (by decide) hH.1
  have es := c_sumOf (isC_h hw) (i := a * 6 + y) (by omega) σ
  have e6 : gI σ (w + 1) 6 = nI (KN f) := by
    have := h.1.2.1.1
    rw [wv_I σ w (by decide)] at this
    rw [this]; exact (nI_vN _).symm
  have hK := h.1.1.1
  have hwl := wS_le hi h ha hy
  cases hs : sm f y
  · have hS : sum6 (gA σ (w + 15 + 2)) ((a * 6 + y) * 6) 6 = nI (sN (fun k => vN (f (tb a y + 6 + k))) 6) := by
      rw [sum6_N]
      congr 1
      refine sN_congr 6 (fun k hk => ?_)
      have h1 := hCR k hk
      rw [hs] at h1
      simp only [Bool.false_eq_true, if_false] at h1
      rw [h1.2]
      unfold sh
      rw [show tb a y + (6 + k) = tb a y + 6 + k by omega]
    have hN : sN (wS f a y) 6 = 3 * sN (fun k => vN (f (tb a y + 6 + k))) 6 := by
      rw [← sN_mul]
      refine sN_congr 6 (fun k hk => ?_)
      unfold wS
      rw [hs]; rfl
    have hNl := sN_le 6 hwl
    rw [hS] at es
    have hD : ∀ d, d < 180 → std (jbits (sm f y) (sh f (tb a y))) d = true → gA σ (w + 27) (y * 180 + d) = nI (vN (f (vb y (d / 30) (d % 30 + 1)))) ∧ vN (f (vb y (d / 30) (d % 30 + 1))) ≤ 1000 := fun d hd hp => by
      have := vals_eq h hy hH.2 hd hp
      rw [wv_A σ w (by decide)] at this
      exact ⟨by rw [nI_vN]; exact this.1, this.2⟩
    have q := c_weight_out hw (y := y) (K := KN f) (V0 := 3 * sN (fun k => vN (f (tb a y + 6 + k))) 6) (i0 := a * 6 + y) hK hy (by omega) (jbits_hi (gvl h hy) hH.2) (fun k q1 q2 => jbits_0 q2 ((h.2.2.2.1.2 k y q2 hy).2 (Or.inl q1)) hH.2) d1 e6 hD FU 0 (by omega) (by unfold FU; omega)
    have e2 : dS (std (jbits (sm f y) (sh f (tb a y)))) (fun d => 7 + vN (f (vb y (d / 30) (d % 30 + 1)))) 180 = dS (std (sh f (tb a y))) (wD f y) 180 := dS_congr 180 (d3 hs) (fun _ _ _ => rfl)
    have ew : wt f a y = 3 * sN (fun k => vN (f (tb a y + 6 + k))) 6 + dS (std (sh f (tb a y))) (wD f y) 180 := by
      unfold wt
      rw [hs, hN]; rfl
    rw [e2, ← ew] at q
    have q : k_X10_weightOf_38 FU w (nI (a * 6 + y)) (nI y) (lN (3 * sN (fun k => vN (f (tb a y + 6 + k))) 6)) (nI 0) σ = some (lN (wt f a y), σ) := q
    have hl := nI_l (show sN (fun k => vN (f (tb a y + 6 + k))) 6 < 2 ^ 31 by omega)
    simp (disch := omega) only [↓mI_e, lit, ofN, bsm, nI_add, pk_mul, pk_sub, nI_e, nI_leE, nI_ltE, nI_mI, mI_nI, mI_lt, nlt_mI, mI_le, nle_mI, nI_addm, sh_b, bI_0, bI_1, bI_bI, ckZ_b, ckZ_n0, ckZ_n1, stIe, stJe, stZ_n0, stZ_n1, rm_nI, dv_nI, if_true, if_false, if_pos, if_neg, rf0, rf1, rf5, rf6, rf7, rf8, rf9, rf20, rf23, rf24, rf25, rf26, rf29, rf31, rf33, rf34, rf35, rf37, rf38, rf41, rf42, rf43,  f_X10_weightOf, w_0 hw, w_2 hw, c_isSum hw h.1, hs, es, hl, litL, lN_mul]
    exact q
  · have hS : sum6 (gA σ (w + 15 + 2)) ((a * 6 + y) * 6) 6 = nI (wt f a y) := by
      rw [sum6_N]
      unfold wt
      rw [hs, if_pos rfl, Nat.add_zero]
      congr 1
      refine sN_congr 6 (fun k hk => ?_)
      have h1 := hCR k hk
      rw [hs] at h1
      simp only [if_true] at h1
      rw [h1.2.1]
      unfold wS
      rw [hs]; rfl
    rw [hS] at es
    have hwt := wt_le hi h ha hy
    have hl := nI_l (show wt f a y < 2 ^ 31 by omega)
    simp (disch := omega) only [↓mI_e, lit, ofN, bsm, nI_add, pk_mul, pk_sub, nI_e, nI_leE, nI_ltE, nI_mI, mI_nI, mI_lt, nlt_mI, mI_le, nle_mI, nI_addm, sh_b, bI_0, bI_1, bI_bI, ckZ_b, ckZ_n0, ckZ_n1, stIe, stJe, stZ_n0, stZ_n1, rm_nI, dv_nI, if_true, if_false, if_pos, if_neg, rf0, rf1, rf5, rf6, rf7, rf8, rf9, rf20, rf23, rf24, rf25, rf26, rf29, rf31, rf33, rf34, rf35, rf37, rf38, rf41, rf42, rf43,  f_X10_weightOf, w_0 hw, w_2 hw, c_isSum hw h.1, hs, Bool.true_eq_false, es, hl]
theorem c_root_loop {i : Nat} (hi : i ≤ 3072) {w : Nat} (hw : isW w) {σ : ST} {f : Nat → Int32} {g : Nat → Int64} (h : RelW (50000 * i) (wv σ w) f g) {a : Nat} (ha : a < 6) : ∀ (n y : Nat), y ≤ YN f → YN f - y < n → k_X10_rootOf_5 n w (nI a) (lN (rtN f a y)) (nI y) σ = some (nI (rtN f a (YN f)), σ) := by
  have hY := h.1.1.2.1
  have e7 : gI σ (w + 1) 7 = nI (YN f) := by
    have := h.1.2.1.2.1
    rw [wv_I σ w (by decide)] at this
    rw [this]; exact (nI_vN _).symm
  intro n
  induction n with
  | zero => intros; omega
  | succ n ih =>
    intro y hy hn
    rw [k_X10_rootOf_5]
    by_cases e : y = YN f
    · subst e
      simp (disch := omega) only [↓mI_e, lit, ofN, bsm, nI_add, pk_mul, pk_sub, nI_e, nI_leE, nI_ltE, nI_mI, mI_nI, mI_lt, nlt_mI, mI_le, nle_mI, nI_addm, sh_b, bI_0, bI_1, bI_bI, ckZ_b, ckZ_n0, ckZ_n1, stIe, stJe, stZ_n0, stZ_n1, rm_nI, dv_nI, if_true, if_false, if_pos, if_neg, rf0, rf1, rf5, rf6, rf7, rf8, rf9, rf20, rf23, rf24, rf25, rf26, rf29, rf31, rf33, rf34, rf35, rf37, rf38, rf41, rf42, rf43,  w_0 hw, e7, lN_i]
    · have IH := ih (y + 1) (by omega) (by omega)
      have hp := c_isPlace hw h.1 (y := y) (k := a) (by omega) (by omega)
      have hrl := rtN_lt f a y
      have hwl := wt_le hi h ha (show y < 6 by omega)
      have hcw := c_weightOf hi hw h ha (show y < 6 by omega)
      rw [rtN] at IH
      cases z : isPl f y a
      · rw [z, if_neg (by decide)] at IH
        rw [z] at hp
        simp (disch := omega) only [↓mI_e, lit, ofN, bsm, nI_add, pk_mul, pk_sub, nI_e, nI_leE, nI_ltE, nI_mI, mI_nI, mI_lt, nlt_mI, mI_le, nle_mI, nI_addm, sh_b, bI_0, bI_1, bI_bI, ckZ_b, ckZ_n0, ckZ_n1, stIe, stJe, stZ_n0, stZ_n1, rm_nI, dv_nI, if_true, if_false, if_pos, if_neg, rf0, rf1, rf5, rf6, rf7, rf8, rf9, rf20, rf23, rf24, rf25, rf26, rf29, rf31, rf33, rf34, rf35, rf37, rf38, rf41, rf42, rf43,  w_0 hw, e7, hp, bI_f, k_X10_rootOf_53]
        exact IH
      · rw [z, if_pos rfl] at IH
        rw [z] at hp
        have n10 : (nI 1 = nI 0) = False := eq_false (by decide)
        have e31 : rtN f a y * 31 + wt f a y = 31 * rtN f a y + wt f a y := by omega
        simp (disch := omega) only [↓mI_e, lit, ofN, bsm, nI_add, pk_mul, pk_sub, nI_e, nI_leE, nI_ltE, nI_mI, mI_nI, mI_lt, nlt_mI, mI_le, nle_mI, nI_addm, sh_b, bI_0, bI_1, bI_bI, ckZ_b, ckZ_n0, ckZ_n1, stIe, stJe, stZ_n0, stZ_n1, rm_nI, dv_nI, if_true, if_false, if_pos, if_neg, rf0, rf1, rf5, rf6, rf7, rf8, rf9, rf20, rf23, rf24, rf25, rf26, rf29, rf31, rf33, rf34, rf35, rf37, rf38, rf41, rf42, rf43,  w_0 hw, e7, hp, bI_t, n10, f_X10_cellOf, hcw, litL, lN_mul, lN_add, rm_lN, e31, k_X10_rootOf_53]
        exact IH
theorem sim_root (i : Nat) (hi : i + 6 ≤ 3072) : SIM_root (Rel i) (Rel (i + 6)) := by
  intro a0 σ τ h
  have hW := h.2.2.2.2.1
  have hS := hW.1
  have hK := hS.1.1
  show Sm i _ _
  rcases keeper_cases hS.1 a0 with hb | ⟨a, ha, rfl⟩
  · simp (disch := omega) only [↓mI_e, lit, ofN, bsm, nI_add, pk_mul, pk_sub, nI_e, nI_leE, nI_ltE, nI_mI, mI_nI, mI_lt, nlt_mI, mI_le, nle_mI, nI_addm, sh_b, bI_0, bI_1, bI_bI, ckZ_b, ckZ_n0, ckZ_n1, stIe, stJe, stZ_n0, stZ_n1, rm_nI, dv_nI, if_true, if_false, if_pos, if_neg, rf0, rf1, rf5, rf6, rf7, rf8, rf9, rf20, rf23, rf24, rf25, rf26, rf29, rf31, rf33, rf34, rf35, rf37, rf38, rf41, rf42, rf43,  f_X11_root, k_X11_root_28, f_X12_root, c_isKeeper_no hS hb, r_isKeeper_no hb, c_refuse, r_refuse]
    exact Sm_0 h _ _
  · obtain ⟨τ1, q1, q2, q3⟩ := r_root_19 (by omega) hW (a := a) (by omega) FU 0 τ (by omega) (by unfold FU; have := hS.1.2.1; omega) rfl
    have c1 := c_root_loop (by omega) wM_w hW (a := a) (by omega) FU 0 (by omega) (by unfold FU; have := hS.1.2.1; omega)
    have c1 : f_X10_rootOf wM (nI a) σ = _ := c1
    have q1 : k_X12_root_19 FU 0 (nI a) (lN 0) (nI 0) τ = _ := q1
    simp (disch := omega) only [↓mI_e, lit, ofN, bsm, nI_add, pk_mul, pk_sub, nI_e, nI_leE, nI_ltE, nI_mI, mI_nI, mI_lt, nlt_mI, mI_le, nle_mI, nI_addm, sh_b, bI_0, bI_1, bI_bI, ckZ_b, ckZ_n0, ckZ_n1, stIe, stJe, stZ_n0, stZ_n1, rm_nI, dv_nI, if_true, if_false, if_pos, if_neg, rf0, rf1, rf5, rf6, rf7, rf8, rf9, rf20, rf23, rf24, rf25, rf26, rf29, rf31, rf33, rf34, rf35, rf37, rf38, rf41, rf42, rf43,  f_X11_root, k_X11_root_28, f_X12_root, c_isKeeper_yes hS ha, r_isKeeper_y hS.1 ha, c02, c1, c_answer, litL, q1]
    exact Sm_1 h (q2.mono (fun _ _ => rfl)) q3 _ _
