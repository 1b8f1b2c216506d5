/-! LOST: the reference's side -/
theorem and11 : nI 1 &&& nI 1 = nI 1 := by decide
theorem and01 : nI 0 &&& nI 1 = nI 0 := by decide
theorem r_lost_39 {f : Nat → Int32} {y : Nat} (hy : y < 6) (V v2 : Int32) (rec26 : Nat → Int32 → Int32 → Int32 → ST → Option (Int32 × ST)) : ∀ (n c : Nat) (τ : ST), c ≤ 1001 → 1001 - c < n → gA τ 1 = f → (∀ j, j < c → gA τ 18 j = bI (decide (j = 1000) || sm f y)) → ∃ R, k_X12_lost_39 rec26 n 0 V v2 (nI y) (nI c) τ = k_X12_lost_84 rec26 FU 0 V v2 (nI y) (nI 0) (sA τ 18 R) ∧ ∀ j, j ≤ 1000 → R j = bI (decide (j = 1000) || sm f y) := by
  obtain ⟨F, hF, hF2⟩ : ∃ F, FU = F ∧ 5000 < F := ⟨FU, rfl, by unfold FU; omega⟩
  rw [hF]
  intro n
  induction n with
  | zero => intros; omega
  | succ n ih =>
    intro c τ hc hn hf h
    rw [k_X12_lost_39, hF]
    by_cases e : c = 1001
    · subst e
      refine ⟨gA τ 18, ?_, fun j hj => h j (by omega)⟩
      rw [sA_self]
      simp (disch := omega) only [↓mI_e, lit, ofN, bsm, nI_add, pk_mul, pk_sub, nI_e, nI_leE, nI_ltE, nI_mI, mI_nI, mI_lt, nlt_mI, mI_le, nle_mI, nI_addm, sh_b, bI_0, bI_1, bI_bI, ckZ_b, ckZ_n0, ckZ_n1, stIe, stJe, stZ_n0, stZ_n1, rm_nI, dv_nI, if_true, if_false, if_pos, if_neg, rf0, rf1, rf5, rf6, rf7, rf8, rf9, rf20, rf23, rf24, rf25, rf26, rf29, rf31, rf33, rf34, rf35, rf37, rf38, rf41, rf42, rf43, ]
    · have step : ∀ x : Int32, x = bI (decide (c = 1000) || sm f y) → ∃ R, k_X12_lost_39 rec26 n 0 V v2 (nI y) (nI (c + 1)) (sA τ 18 (upd (gA τ 18) c x)) = k_X12_lost_84 rec26 F 0 V v2 (nI y) (nI 0) (sA τ 18 R) ∧ ∀ j, j ≤ 1000 → R j = bI (decide (j = 1000) || sm f y) := fun x hx => by
        obtain ⟨R, q1, q2⟩ := ih (c + 1) (sA τ 18 (upd (gA τ 18) c x)) (by omega) (by omega) hf (fun j hj => by
          rw [gA_sA, if_pos rfl, upd_at]
          by_cases z : j = c
          · rw [if_pos z, z]; exact hx
          · rw [if_neg z]; exact h j (by omega))
        rw [sA_sA] at q1
        exact ⟨R, q1, q2⟩
      by_cases z : c = 1000
      · have hx := step (nI 1) (by rw [decide_eq_true z, Bool.true_or, bI_t])
        subst z
        simp (disch := omega) only [↓mI_e, lit, ofN, bsm, nI_add, pk_mul, pk_sub, nI_e, nI_leE, nI_ltE, nI_mI, mI_nI, mI_lt, nlt_mI, mI_le, nle_mI, nI_addm, sh_b, bI_0, bI_1, bI_bI, ckZ_b, ckZ_n0, ckZ_n1, stIe, stJe, stZ_n0, stZ_n1, rm_nI, dv_nI, if_true, if_false, if_pos, if_neg, rf0, rf1, rf5, rf6, rf7, rf8, rf9, rf20, rf23, rf24, rf25, rf26, rf29, rf31, rf33, rf34, rf35, rf37, rf38, rf41, rf42, rf43,  k_X12_lost_69, k_X12_lost_74, and11, sr18]
        exact hx
      · cases hs : sm f y
        · rw [hs] at step
          have hx := step (nI 0) (by rw [decide_eq_false z]; rfl)
          simp (disch := omega) only [↓mI_e, lit, ofN, bsm, nI_add, pk_mul, pk_sub, nI_e, nI_leE, nI_ltE, nI_mI, mI_nI, mI_lt, nlt_mI, mI_le, nle_mI, nI_addm, sh_b, bI_0, bI_1, bI_bI, ckZ_b, ckZ_n0, ckZ_n1, stIe, stJe, stZ_n0, stZ_n1, rm_nI, dv_nI, if_true, if_false, if_pos, if_neg, rf0, rf1, rf5, rf6, rf7, rf8, rf9, rf20, rf23, rf24, rf25, rf26, rf29, rf31, rf33, rf34, rf35, rf37, rf38, rf41, rf42, rf43,  r_isSum, hf, hs, k_X12_lost_69, k_X12_lost_74, and01, sr18]
          exact hx
        · rw [hs] at step
          have hx := step (nI 1) (by rw [Bool.or_true, bI_t])
          simp (disch := omega) only [↓mI_e, lit, ofN, bsm, nI_add, pk_mul, pk_sub, nI_e, nI_leE, nI_ltE, nI_mI, mI_nI, mI_lt, nlt_mI, mI_le, nle_mI, nI_addm, sh_b, bI_0, bI_1, bI_bI, ckZ_b, ckZ_n0, ckZ_n1, stIe, stJe, stZ_n0, stZ_n1, rm_nI, dv_nI, if_true, if_false, if_pos, if_neg, rf0, rf1, rf5, rf6, rf7, rf8, rf9, rf20, rf23, rf24, rf25, rf26, rf29, rf31, rf33, rf34, rf35, rf37, rf38, rf41, rf42, rf43,  r_isSum, hf, hs, Bool.true_eq_false, k_X12_lost_69, k_X12_lost_74, and11, sr18]
          exact hx
def Sn (f : Nat → Int32) (y : Nat) (τ : ST) (s : Nat → Bool) : Prop := gA τ 1 = f ∧ (∀ c, c ≤ 1000 → gA τ 18 c = bI (s c)) ∧ s 1000 = true ∧ (sm f y = true → ∀ c, c ≤ 1000 → s c = true)
def Vi (f : Nat → Int32) (y : Nat) (s : Nat → Bool) (k c : Nat) : Prop := ∀ k' i, k' < 6 → 1 ≤ i → i ≤ gv f k' y → (k' < k ∨ (k' = k ∧ i < c)) → s (vN (f (vb y k' i))) = true
theorem cnt_put {p q : Nat → Bool} {u : Nat} {b : Bool} (hp : p u = false) (hq : q u = b) (he : ∀ x, x ≠ u → q x = p x) : ∀ n, u < n → cnt q n = cnt p n + (if b then 1 else 0)
  | 0, h => by omega
  | n + 1, h => by
    rw [cnt, cnt]
    by_cases z : n = u
    · subst z
      rw [hp, hq, cnt_congr n (fun i hi => he i (by omega))]
      rfl
    · rw [cnt_put hp hq he n (by omega), he n z]
      omega
def adu (s : Nat → Bool) (u x : Nat) : Bool := s x || decide (x = u)
theorem adu_u (s : Nat → Bool) (u : Nat) : adu s u u = true := by unfold adu; rw [decide_eq_true rfl, Bool.or_true]
theorem adu_t {s : Nat → Bool} {u x : Nat} (h : s x = true) : adu s u x = true := by unfold adu; rw [h, Bool.true_or]
theorem adu_n {s : Nat → Bool} {u x : Nat} (h : x ≠ u) : adu s u x = s x := by unfold adu; rw [decide_eq_false h, Bool.or_false]
def s0s (f : Nat → Int32) (y c : Nat) : Bool := decide (c = 1000) || sm f y
def sL (f : Nat → Int32) (y : Nat) (V : Int32) (s : Nat → Bool) (x : Nat) : Bool := s x && Lp f y V x
theorem r_lost_94 {B : Nat} {s0 : ST} {g : Nat → Int64} {f : Nat → Int32} (h : RelW B s0 f g) {y k b : Nat} (hy : y < 6) (hk : k < 6) (hb : b ≤ 6000) {V : Int32} (rec84 : Nat → Int32 → Int32 → Int32 → Int32 → ST → Option (Int32 × ST)) : ∀ (n c : Nat) (τ : ST) (s : Nat → Bool), 1 ≤ c → c ≤ gv f k y + 1 → gv f k y + 1 - c < n → Sn f y τ s → Vi f y s k c → ∃ τ1 s1, k_X12_lost_94 rec84 n 0 V (nI (b + cnt (sL f y V s) 1000)) (nI y) (nI k) (nI c) τ = rec84 0 V (nI (b + cnt (sL f y V s1) 1000)) (nI y) (nI (k + 1)) τ1 ∧ Sn f y τ1 s1 ∧ Vi f y s1 (k + 1) 1 ∧ Sc [2] τ τ1 := by
  have hK := h.1.1.1
  have hg := gvl h hy k hk
  intro n
  induction n with
  | zero => intros; omega
  | succ n ih =>
    intro c τ s hc1 hc hn hS hV
    obtain ⟨hf, h18, hs1, hs2⟩ := id hS
    have eg : gA τ 1 (4400 + 6 * k + y) = nI (gv f k y) := by rw [hf]; exact (nI_vN _).symm
    rw [k_X12_lost_94]
    by_cases e : c = gv f k y + 1
    · refine ⟨τ, s, ?_, hS, fun k' i a1 a2 a3 a4 => hV k' i a1 a2 a3 (by
        rcases (show k' < k ∨ k' = k by omega) with q | q
        · exact Or.inl q
        · subst q; exact Or.inr ⟨rfl, by omega⟩), Sc.rf τ⟩
      simp (disch := omega) only [↓mI_e, lit, ofN, bsm, nI_add, pk_mul, pk_sub, nI_e, nI_leE, nI_ltE, nI_mI, mI_nI, mI_lt, nlt_mI, mI_le, nle_mI, nI_addm, sh_b, bI_0, bI_1, bI_bI, ckZ_b, ckZ_n0, ckZ_n1, stIe, stJe, stZ_n0, stZ_n1, rm_nI, dv_nI, if_true, if_false, if_pos, if_neg, rf0, rf1, rf5, rf6, rf7, rf8, rf9, rf20, rf23, rf24, rf25, rf26, rf29, rf31, rf33, rf34, rf35, rf37, rf38, rf41, rf42, rf43,  lr1, eg]
    · obtain ⟨u, hu⟩ : ∃ u, u = vN (f (vb y k c)) := ⟨_, rfl⟩
      have hul : u ≤ 1000 := by
        have h3 := h.2.2.2.2.1 y k (c - 1) hy hk (by omega)
        rw [show c - 1 + 1 = c by omega] at h3
        rw [hu]; exact h3.2
      have ev : gA τ 1 (3280 + 31 * (6 * y + k) + c) = nI u := by
        rw [hf, hu, nI_vN]; rfl
      have l18 := h18 u hul
      have hcl := cnt_le (sL f y V s) 1000
      cases zs : s u
      · have hu2 : u < 1000 := by
          by_cases z : u = 1000
          · rw [z, hs1] at zs; exact absurd zs (by decide)
          · omega
        have hsm : sm f y = false := by
          cases z : sm f y
          · rfl
          · rw [hs2 z u hul] at zs; exact absurd zs (by decide)
        rw [zs] at l18
        obtain ⟨S, τ1, r1, r2, r3⟩ := r_hold_5 (f := f) (v := u) hK hy hsm FU 0 (nI 0) (sA τ 18 (upd (gA τ 18) u (nI 1))) (by omega) (by unfold FU; omega) hf (set_0 _)
        have r1 : f_X12_holdersOf 0 (nI y) (nI u) (sA τ 18 (upd (gA τ 18) u (nI 1))) = some (S, τ1) := r1
        have hSn : Sn f y τ1 (adu s u) := by
          refine ⟨L3_1 r3 hf, fun x hx => ?_, adu_t hs1, fun q x hx => adu_t (hs2 q x hx)⟩
          rw [r3.2.2.1 18 (by decide) (by decide) (by decide), gA_sA, if_pos rfl, upd_at]
          by_cases z : x = u
          · rw [if_pos z, z, adu_u, bI_t]
          · rw [if_neg z, adu_n z]; exact h18 x hx
        have hVi : Vi f y (adu s u) k (c + 1) := fun k' i a1 a2 a3 a4 => by
          by_cases z : k' = k ∧ i = c
          · rw [z.1, z.2, ← hu, adu_u]
          · exact adu_t (hV k' i a1 a2 a3 (by omega))
        have hLi := Lp_iff (V := V) hK (fun k => by rw [r2 k, hsm, Bool.not_false, Bool.true_and] : ∀ k, bt S k = (decide (k < KN f) && (!sm f y && hfq f y u k (KN f))))
        have hcnt : cnt (sL f y V (adu s u)) 1000 = cnt (sL f y V s) 1000 + (if Lp f y V u then 1 else 0) := cnt_put (u := u) (by unfold sL; rw [zs]; rfl) (by unfold sL; rw [adu_u, Bool.true_and]) (fun x hx => by unfold sL; rw [adu_n hx]) 1000 hu2
        obtain ⟨τ2, s2, q1, q2, q3, q4⟩ := ih (c + 1) τ1 (adu s u) (by omega) (by omega) (by omega) hSn hVi
        rw [hcnt] at q1
        refine ⟨τ2, s2, ?_, q2, q3, (((Sc.rf τ).sA _ rfl).trans r3.sc).trans q4⟩
        by_cases z1 : S = nI 0
        · have zl : Lp f y V u = false := by
            cases z : Lp f y V u
            · rfl
            · exact absurd z1 (hLi.mp z).1
          rw [zl, if_neg (by decide), Nat.add_zero] at q1
          simp (disch := omega) only [↓mI_e, lit, ofN, bsm, nI_add, pk_mul, pk_sub, nI_e, nI_leE, nI_ltE, nI_mI, mI_nI, mI_lt, nlt_mI, mI_le, nle_mI, nI_addm, sh_b, bI_0, bI_1, bI_bI, ckZ_b, ckZ_n0, ckZ_n1, stIe, stJe, stZ_n0, stZ_n1, rm_nI, dv_nI, if_true, if_false, if_pos, if_neg, rf0, rf1, rf5, rf6, rf7, rf8, rf9, rf20, rf23, rf24, rf25, rf26, rf29, rf31, rf33, rf34, rf35, rf37, rf38, rf41, rf42, rf43,  lr1, eg, f_X12_valueOf, ev, lr18, l18, bI_f, and11, sr18, r1, z1, k_X12_lost_175, k_X12_lost_176, k_X12_lost_178, Nat.add_zero]
          exact q1
        · by_cases z2 : S &&& (V ^^^ mI) = nI 0
          · rw [hLi.mpr ⟨z1, z2⟩, if_pos rfl, ← Nat.add_assoc] at q1
            simp (disch := omega) only [↓mI_e, lit, ofN, bsm, nI_add, pk_mul, pk_sub, nI_e, nI_leE, nI_ltE, nI_mI, mI_nI, mI_lt, nlt_mI, mI_le, nle_mI, nI_addm, sh_b, bI_0, bI_1, bI_bI, ckZ_b, ckZ_n0, ckZ_n1, stIe, stJe, stZ_n0, stZ_n1, rm_nI, dv_nI, if_true, if_false, if_pos, if_neg, rf0, rf1, rf5, rf6, rf7, rf8, rf9, rf20, rf23, rf24, rf25, rf26, rf29, rf31, rf33, rf34, rf35, rf37, rf38, rf41, rf42, rf43,  lr1, eg, f_X12_valueOf, ev, lr18, l18, bI_f, and11, sr18, r1, z1, z2, k_X12_lost_176, k_X12_lost_178]
            exact q1
          · have zl : Lp f y V u = false := by
              cases z : Lp f y V u
              · rfl
              · exact absurd (hLi.mp z).2 z2
            rw [zl, if_neg (by decide), Nat.add_zero] at q1
            simp (disch := omega) only [↓mI_e, lit, ofN, bsm, nI_add, pk_mul, pk_sub, nI_e, nI_leE, nI_ltE, nI_mI, mI_nI, mI_lt, nlt_mI, mI_le, nle_mI, nI_addm, sh_b, bI_0, bI_1, bI_bI, ckZ_b, ckZ_n0, ckZ_n1, stIe, stJe, stZ_n0, stZ_n1, rm_nI, dv_nI, if_true, if_false, if_pos, if_neg, rf0, rf1, rf5, rf6, rf7, rf8, rf9, rf20, rf23, rf24, rf25, rf26, rf29, rf31, rf33, rf34, rf35, rf37, rf38, rf41, rf42, rf43,  lr1, eg, f_X12_valueOf, ev, lr18, l18, bI_f, and11, sr18, r1, z1, z2, k_X12_lost_175, k_X12_lost_176, k_X12_lost_178, Nat.add_zero]
            exact q1
      · rw [zs] at l18
        have n10 : (nI 1 = nI 0) = False := eq_false (by decide)
        obtain ⟨τ2, s2, q1, q2, q3, q4⟩ := ih (c + 1) τ s (by omega) (by omega) (by omega) hS (fun k' i a1 a2 a3 a4 => by
          by_cases z : k' = k ∧ i = c
          · rw [z.1, z.2, ← hu]; exact zs
          · exact hV k' i a1 a2 a3 (by omega))
        refine ⟨τ2, s2, ?_, q2, q3, q4⟩
        simp (disch := omega) only [↓mI_e, lit, ofN, bsm, nI_add, pk_mul, pk_sub, nI_e, nI_leE, nI_ltE, nI_mI, mI_nI, mI_lt, nlt_mI, mI_le, nle_mI, nI_addm, sh_b, bI_0, bI_1, bI_bI, ckZ_b, ckZ_n0, ckZ_n1, stIe, stJe, stZ_n0, stZ_n1, rm_nI, dv_nI, if_true, if_false, if_pos, if_neg, rf0, rf1, rf5, rf6, rf7, rf8, rf9, rf20, rf23, rf24, rf25, rf26, rf29, rf31, rf33, rf34, rf35, rf37, rf38, rf41, rf42, rf43,  lr1, eg, f_X12_valueOf, ev, lr18, l18, bI_t, n10, k_X12_lost_178]
        exact q1
theorem r_lost_84 {B : Nat} {s0 : ST} {g : Nat → Int64} {f : Nat → Int32} (h : RelW B s0 f g) {y b : Nat} (hy : y < 6) (hb : b ≤ 6000) {V : Int32} (rec26 : Nat → Int32 → Int32 → Int32 → ST → Option (Int32 × ST)) : ∀ (n k : Nat) (τ : ST) (s : Nat → Bool), k ≤ 6 → 6 - k < n → Sn f y τ s → Vi f y s k 1 → ∃ τ1 s1, k_X12_lost_84 rec26 n 0 V (nI (b + cnt (sL f y V s) 1000)) (nI y) (nI k) τ = rec26 0 V (nI (b + cnt (sL f y V s1) 1000)) (nI (y + 1)) τ1 ∧ Sn f y τ1 s1 ∧ Vi f y s1 6 1 ∧ Sc [2] τ τ1 := by
  obtain ⟨F, hF, hF2⟩ : ∃ F, FU = F ∧ 5000 < F := ⟨FU, rfl, by unfold FU; omega⟩
  intro n
  induction n with
  | zero => intros; omega
  | succ n ih =>
    intro k τ s hk hn hS hV
    rw [k_X12_lost_84, hF]
    by_cases e : k = 6
    · subst e
      refine ⟨τ, s, ?_, hS, hV, Sc.rf τ⟩
      simp (disch := omega) only [↓mI_e, lit, ofN, bsm, nI_add, pk_mul, pk_sub, nI_e, nI_leE, nI_ltE, nI_mI, mI_nI, mI_lt, nlt_mI, mI_le, nle_mI, nI_addm, sh_b, bI_0, bI_1, bI_bI, ckZ_b, ckZ_n0, ckZ_n1, stIe, stJe, stZ_n0, stZ_n1, rm_nI, dv_nI, if_true, if_false, if_pos, if_neg, rf0, rf1, rf5, rf6, rf7, rf8, rf9, rf20, rf23, rf24, rf25, rf26, rf29, rf31, rf33, rf34, rf35, rf37, rf38, rf41, rf42, rf43, ]
    · have hg := gvl h hy k (by omega)
      obtain ⟨τ1, s1, q1, q2, q3, q4⟩ := r_lost_94 h hy (show k < 6 by omega) hb (k_X12_lost_84 rec26 n) F 1 τ s (by omega) (by omega) (by omega) hS hV
      obtain ⟨τ2, s2, q5, q6, q7, q8⟩ := ih (k + 1) τ1 s1 (by omega) (by omega) q2 q3
      refine ⟨τ2, s2, ?_, q6, q7, q4.trans q8⟩
      simp (disch := omega) only [↓mI_e, lit, ofN, bsm, nI_add, pk_mul, pk_sub, nI_e, nI_leE, nI_ltE, nI_mI, mI_nI, mI_lt, nlt_mI, mI_le, nle_mI, nI_addm, sh_b, bI_0, bI_1, bI_bI, ckZ_b, ckZ_n0, ckZ_n1, stIe, stJe, stZ_n0, stZ_n1, rm_nI, dv_nI, if_true, if_false, if_pos, if_neg, rf0, rf1, rf5, rf6, rf7, rf8, rf9, rf20, rf23, rf24, rf25, rf26, rf29, rf31, rf33, rf34, rf35, rf37, rf38, rf41, rf42, rf43, ]
      exact q1.trans q5
theorem lost_all {B : Nat} {s0 : ST} {g : Nat → Int64} {f : Nat → Int32} (h : RelW B s0 f g) {y : Nat} (hy : y < 6) {V : Int32} {s : Nat → Bool} (hV : Vi f y s 6 1) : cnt (sL f y V s) 1000 = cnt (Lp f y V) 1000 := by
  have hK := h.1.1.1
  refine cnt_congr 1000 (fun x hx => ?_)
  unfold sL
  cases z : Lp f y V x
  · rw [Bool.and_false]
  · rw [Bool.and_true]
    unfold Lp at z
    rw [Bool.and_eq_true, Bool.and_eq_true, decide_eq_true_eq] at z
    obtain ⟨z0, ⟨j, z1, z2⟩, _⟩ := z
    have hs : sm f y = false := by revert z0; cases sm f y <;> simp
    have fin : ∀ J : Nat → Int32, TI (sm f y) B (fun k => gv f k y) J → (∃ d, d < 180 ∧ (std J d = true ∧ f (vb y (d / 30) (d % 30 + 1)) = nI x)) → s x = true := fun J ht ⟨d, d1, d2, d3⟩ => by
      have h1 := thing_hi h hy (show d / 30 < 6 by omega) hs ht d2
      have h2 := hV (d / 30) (d % 30 + 1) (by omega) (by omega) (by omega) (Or.inl (by omega))
      rw [d3, vN_nI (by omega)] at h2
      exact h2
    unfold hfq at z2
    rw [Bool.or_eq_true, decide_eq_true_eq] at z2
    rcases z2 with z2 | ⟨r, r1, r2, r3⟩
    · exact fin _ (h.2.2.2.2.2.1 j y (by omega) hy).2 ((hsD_iff _ _ _ _).mp z2)
    · exact fin _ (((h.2.2.2.2.2.2.1 j r (by omega) (by omega)).2 y hy).2.1) ((hsD_iff _ _ _ _).mp r3)
theorem r_lost_26 {B : Nat} {s0 : ST} {g : Nat → Int64} {f : Nat → Int32} (h : RelW B s0 f g) {V : Int32} : ∀ (n y : Nat) (τ : ST), y ≤ YN f → YN f - y < n → gA τ 1 = f → ∃ τ1, k_X12_lost_26 n 0 V (nI (LN f V y)) (nI y) τ = some (nI (LN f V (YN f)), sI τ1 0 2 (nI 0)) ∧ gA τ1 1 = f ∧ Sc [2] τ τ1 := by
  have hY := h.1.1.2.1
  have hK := h.1.1.1
  obtain ⟨F, hF, hF2⟩ : ∃ F, FU = F ∧ 5000 < F := ⟨FU, rfl, by unfold FU; omega⟩
  intro n
  induction n with
  | zero => intros; omega
  | succ n ih =>
    intro y τ hy hn hf
    have e4 : gA τ 1 4 = nI (YN f) := by rw [hf]; exact eY f
    rw [k_X12_lost_26, hF]
    by_cases e : y = YN f
    · subst e
      refine ⟨τ, ?_, hf, Sc.rf τ⟩
      simp (disch := omega) only [↓mI_e, lit, ofN, bsm, nI_add, pk_mul, pk_sub, nI_e, nI_leE, nI_ltE, nI_mI, mI_nI, mI_lt, nlt_mI, mI_le, nle_mI, nI_addm, sh_b, bI_0, bI_1, bI_bI, ckZ_b, ckZ_n0, ckZ_n1, stIe, stJe, stZ_n0, stZ_n1, rm_nI, dv_nI, if_true, if_false, if_pos, if_neg, rf0, rf1, rf5, rf6, rf7, rf8, rf9, rf20, rf23, rf24, rf25, rf26, rf29, rf31, rf33, rf34, rf35, rf37, rf38, rf41, rf42, rf43,  lr1, e4, r_gives]
    · have hl := LN_le f V y
      obtain ⟨R, q1, q2⟩ := r_lost_39 (f := f) (y := y) (by omega) V (nI (LN f V y)) (k_X12_lost_26 n) FU 0 τ (by omega) (by unfold FU; omega) hf (fun j hj => by omega)
      have hz : cnt (sL f y V (s0s f y)) 1000 = 0 := by
        refine cnt_tail (m := 0) 1000 (by omega) (fun x _ hx => ?_)
        unfold sL s0s
        rw [decide_eq_false (show ¬ x = 1000 by omega), Bool.false_or]
        unfold Lp
        cases sm f y <;> rfl
      obtain ⟨τ1, s1, p1, p2, p3, p4⟩ := r_lost_84 h (show y < 6 by omega) (b := LN f V y) (by omega) (V := V) (k_X12_lost_26 n) FU 0 (sA τ 18 R) (s0s f y) (by omega) (by unfold FU; omega) ⟨hf, fun c hc => by rw [gA_sA, if_pos rfl]; exact q2 c hc, rfl, fun q c _ => by unfold s0s; rw [q, Bool.or_true]⟩ (fun k' i a1 a2 a3 a4 => by omega)
      rw [hz, Nat.add_zero, lost_all h (by omega) p3] at p1
      obtain ⟨τ2, r1, r2, r3⟩ := ih (y + 1) τ1 (by omega) (by omega) p2.1
      have r0 := (q1.trans p1).trans r1
      rw [hF] at r0
      refine ⟨τ2, ?_, r2, (((Sc.rf τ).sA _ rfl).trans p4).trans r3⟩
      simp (disch := omega) only [↓mI_e, lit, ofN, bsm, nI_add, pk_mul, pk_sub, nI_e, nI_leE, nI_ltE, nI_mI, mI_nI, mI_lt, nlt_mI, mI_le, nle_mI, nI_addm, sh_b, bI_0, bI_1, bI_bI, ckZ_b, ckZ_n0, ckZ_n1, stIe, stJe, stZ_n0, stZ_n1, rm_nI, dv_nI, if_true, if_false, if_pos, if_neg, rf0, rf1, rf5, rf6, rf7, rf8, rf9, rf20, rf23, rf24, rf25, rf26, rf29, rf31, rf33, rf34, rf35, rf37, rf38, rf41, rf42, rf43,  lr1, e4]
      exact r0
theorem sim_lost (i : Nat) : SIM_lost (Rel i) (Rel (i + 6)) := by
  intro a0 σ τ h
  have hW := h.2.2.2.2.1
  have hS := hW.1
  have hK := hS.1.1
  have hY := hS.1.2.1
  have e3 : gA τ 1 3 = nI (KN (gA τ 1)) := eK _
  have hks := c_isKeeperSet hS a0
  show Sm i _ _
  by_cases z1 : a0 < nI 0
  · rw [decide_eq_false (fun q => q.1 z1), bI_f] at hks
    simp (disch := omega) only [↓mI_e, lit, ofN, bsm, nI_add, pk_mul, pk_sub, nI_e, nI_leE, nI_ltE, nI_mI, mI_nI, mI_lt, nlt_mI, mI_le, nle_mI, nI_addm, sh_b, bI_0, bI_1, bI_bI, ckZ_b, ckZ_n0, ckZ_n1, stIe, stJe, stZ_n0, stZ_n1, rm_nI, dv_nI, if_true, if_false, if_pos, if_neg, rf0, rf1, rf5, rf6, rf7, rf8, rf9, rf20, rf23, rf24, rf25, rf26, rf29, rf31, rf33, rf34, rf35, rf37, rf38, rf41, rf42, rf43,  f_X11_lost, hks, f_X12_lost, k_X12_lost_16, z1, c_refuse, r_refuse]
    exact Sm_0 h _ _
  · by_cases z2 : a0 < nI 1 <<< (nI (KN (gA τ 1)) &&& nI 31)
    · rw [decide_eq_true ⟨z1, z2⟩, bI_t] at hks
      obtain ⟨T, q1⟩ := c_lost_out (V := a0) FU 0 σ hW (by omega) (by unfold FU; omega)
      obtain ⟨τ1, r1, r2, r3⟩ := r_lost_26 hW (V := a0) FU 0 τ (by omega) (by unfold FU; omega) rfl
      have q1 : k_X11_lost_18 FU 0 a0 (nI 0) (nI 0) σ = _ := q1
      have r1 : k_X12_lost_26 FU 0 a0 (nI 0) (nI 0) τ = _ := r1
      have n10 : (nI 1 = nI 0) = False := eq_false (by decide)
      simp (disch := omega) only [↓mI_e, lit, ofN, bsm, nI_add, pk_mul, pk_sub, nI_e, nI_leE, nI_ltE, nI_mI, mI_nI, mI_lt, nlt_mI, mI_le, nle_mI, nI_addm, sh_b, bI_0, bI_1, bI_bI, ckZ_b, ckZ_n0, ckZ_n1, stIe, stJe, stZ_n0, stZ_n1, rm_nI, dv_nI, if_true, if_false, if_pos, if_neg, rf0, rf1, rf5, rf6, rf7, rf8, rf9, rf20, rf23, rf24, rf25, rf26, rf29, rf31, rf33, rf34, rf35, rf37, rf38, rf41, rf42, rf43,  f_X11_lost, hks, n10, f_X12_lost, z1, lr1, e3, z2, q1, r1]
      exact Sm_q h ((Sq.rf σ).sA _ rfl) r3 (fun k _ => by rw [r2]) _ _
    · rw [decide_eq_false (fun q => z2 q.2), bI_f] at hks
      simp (disch := omega) only [↓mI_e, lit, ofN, bsm, nI_add, pk_mul, pk_sub, nI_e, nI_leE, nI_ltE, nI_mI, mI_nI, mI_lt, nlt_mI, mI_le, nle_mI, nI_addm, sh_b, bI_0, bI_1, bI_bI, ckZ_b, ckZ_n0, ckZ_n1, stIe, stJe, stZ_n0, stZ_n1, rm_nI, dv_nI, if_true, if_false, if_pos, if_neg, rf0, rf1, rf5, rf6, rf7, rf8, rf9, rf20, rf23, rf24, rf25, rf26, rf29, rf31, rf33, rf34, rf35, rf37, rf38, rf41, rf42, rf43,  f_X11_lost, hks, f_X12_lost, k_X12_lost_16, z1, lr1, e3, z2, c_refuse, r_refuse]
      exact Sm_0 h _ _
