/-! BURY: the reference's dots -/
theorem cnt_inj {p : Nat → Bool} {a b : Nat} (ha : p a = true) (hb : p b = true) (h : cnt p a = cnt p b) : a = b := by
  rcases Nat.lt_trichotomy a b with z | z | z
  · have := cnt_lt2 z ha; omega
  · exact z
  · have := cnt_lt2 z hb; omega
def ded (f : Nat → Int32) (y d : Nat) : Bool := decide (f (vb y (d / 30) (d % 30 + 1)) = nI 1000)
def dB (f : Nat → Int32) (ad y m d : Nat) : Bool := std (sh f ad) d && (ded f y d && decide (cnt (std (sh f ad)) d < m))
/-- the thing at ad with its first m dots buried -/
def Bu (f : Nat → Int32) (ad y m : Nat) (t : Nat → Int32) : Prop := (∀ k, k < 6 → t (6 + k) = f (ad + (6 + k))) ∧ ∀ k, k < 6 → ∀ j, bt (t k) j = (bt (f (ad + k)) j && !(decide (j < 30) && dB f ad y m (30 * k + j)))
theorem dB_s {f : Nat → Int32} {ad y m d : Nat} (hp : std (sh f ad) d = true) (hc : cnt (std (sh f ad)) d = m) (e : Nat) : dB f ad y (m + 1) e = (dB f ad y m e || (decide (e = d) && ded f y d)) := by
  unfold dB
  cases z : std (sh f ad) e
  · rw [Bool.false_and, Bool.false_and, Bool.false_or]
    by_cases q : e = d
    · rw [q, hp] at z; exact absurd z (by decide)
    · rw [decide_eq_false q, Bool.false_and]
  · by_cases q : e = d
    · subst q
      rw [hc, decide_eq_true (show m < m + 1 by omega), decide_eq_false (show ¬ m < m by omega), decide_eq_true rfl]
      cases ded f y e <;> rfl
    · have hne : cnt (std (sh f ad)) e ≠ m := fun q2 => q (cnt_inj z hp (by rw [hc]; exact q2))
      rw [decide_eq_false q, Bool.false_and, Bool.or_false]
      by_cases q3 : cnt (std (sh f ad)) e < m
      · rw [decide_eq_true q3, decide_eq_true (show cnt (std (sh f ad)) e < m + 1 by omega)]
      · rw [decide_eq_false q3, decide_eq_false (show ¬ cnt (std (sh f ad)) e < m + 1 by omega)]
theorem r_bury_91 {f : Nat → Int32} {ad y : Nat} (had : 30 ≤ ad) (had2 : ad + 12 ≤ 3280) (hy : y < 6) (v3 : Nat) (rec58 : Nat → Int32 → Int32 → Int32 → ST → Option (Int32 × ST)) : ∀ (n m : Nat) (τ : ST) (t : Nat → Int32), m ≤ cnt (std (sh f ad)) 180 → cnt (std (sh f ad)) 180 - m < n → LT f ad y 180 τ → gA τ 1 = put12 f ad t → Bu f ad y m t → ∃ t', k_X12_bury_91 rec58 n 0 (nI y) (nI (cnt (dB f ad y m) 180)) (nI v3) (nI ad) (nI m) τ = rec58 0 (nI y) (nI (cnt (dB f ad y (cnt (std (sh f ad)) 180)) 180)) (nI (v3 + 1)) (sA τ 1 (put12 f ad t')) ∧ Bu f ad y (cnt (std (sh f ad)) 180) t' := by
  have hcl := cnt_le (std (sh f ad)) 180
  intro n
  induction n with
  | zero => intros; omega
  | succ n ih =>
    intro m τ t hm hn hL hf hB
    obtain ⟨l1, l2, l3, l4⟩ := id hL
    rw [k_X12_bury_91]
    by_cases e : m = cnt (std (sh f ad)) 180
    · refine ⟨t, ?_, by rw [← e]; exact hB⟩
      rw [← hf, sA_self, ← e]
      rw [← e] at l1
      simp (disch := omega) only [↓mI_e, lit, ofN, bsm, nI_add, pk_mul, pk_sub, nI_e, nI_leE, nI_ltE, nI_mI, mI_nI, mI_lt, nlt_mI, mI_le, nle_mI, nI_addm, sh_b, bI_0, bI_1, bI_bI, ckZ_b, ckZ_n0, ckZ_n1, stIe, stJe, stZ_n0, stZ_n1, rm_nI, dv_nI, if_true, if_false, if_pos, if_neg, rf0, rf1, rf5, rf6, rf7, rf8, rf9, rf20, rf23, rf24, rf25, rf26, rf29, rf31, rf33, rf34, rf35, rf37, rf38, rf41, rf42, rf43,  l1]
    · obtain ⟨d, d1, d2, d3⟩ := cnt_onto 180 m (show m < cnt (std (sh f ad)) 180 by omega)
      have k1 := l2 d d1 d2
      have k2 := l3 d d1 d2
      have k3 := l4 d d1 d2
      rw [d3, Nat.zero_add] at k1 k2 k3
      have hs := dB_s (y := y) d2 d3
      have hcb := cnt_le (dB f ad y m) 180
      by_cases z : f (vb y (d / 30) (d % 30 + 1)) = nI 1000
      · have zd : ded f y d = true := decide_eq_true z
        have hcn : cnt (dB f ad y (m + 1)) 180 = cnt (dB f ad y m) 180 + 1 := cnt_put (b := true) (u := d) (by unfold dB; rw [d3, decide_eq_false (show ¬ m < m by omega), Bool.and_false, Bool.and_false]) (by rw [hs d, zd, decide_eq_true rfl]; simp) (fun x hx => by rw [hs x, decide_eq_false hx]; simp) 180 d1
        have eb : gA τ 1 (ad + d / 30) = t (d / 30) := by rw [hf, p12_in _ _ _ (by omega)]
        have ef : upd (gA τ 1) (ad + d / 30) (t (d / 30) &&& ((nI 1 <<< (nI (d % 30) &&& nI 31)) ^^^ mI)) = put12 f ad (upd t (d / 30) (t (d / 30) &&& ((nI 1 <<< (nI (d % 30) &&& nI 31)) ^^^ mI))) := by
          funext j
          rw [upd_at, hf]
          unfold put12
          by_cases z1 : ad ≤ j ∧ j < ad + 12
          · rw [if_pos z1, if_pos z1, upd_at]
            by_cases z2 : j = ad + d / 30
            · rw [if_pos z2, if_pos (by omega)]
            · rw [if_neg z2, if_neg (by omega)]
          · rw [if_neg z1, if_neg z1, if_neg (by omega)]
        obtain ⟨t', q1, q2⟩ := ih (m + 1) (sA τ 1 (put12 f ad (upd t (d / 30) (t (d / 30) &&& ((nI 1 <<< (nI (d % 30) &&& nI 31)) ^^^ mI))))) (upd t (d / 30) (t (d / 30) &&& ((nI 1 <<< (nI (d % 30) &&& nI 31)) ^^^ mI))) (by omega) (by omega) hL (by rw [gA_sA, if_pos rfl]) (by
          refine ⟨fun k hk => by rw [upd_at, if_neg (by omega)]; exact hB.1 k hk, fun k hk j => ?_⟩
          rw [upd_at]
          by_cases z1 : k = d / 30
          · subst z1
            rw [if_pos rfl, bt_del _ (by omega), hB.2 _ hk j]
            by_cases z2 : j < 30
            · rw [decide_eq_true z2, Bool.true_and, Bool.true_and, hs, zd, Bool.and_true]
              by_cases z3 : j = d % 30
              · rw [decide_eq_true z3, decide_eq_true (show 30 * (d / 30) + j = d by omega)]; simp
              · rw [decide_eq_false z3, decide_eq_false (show ¬ 30 * (d / 30) + j = d by omega)]; simp
            · rw [decide_eq_false z2, decide_eq_false (show ¬ j = d % 30 by omega)]; simp
          · rw [if_neg z1, hB.2 k hk j]
            by_cases z2 : j < 30
            · rw [hs, decide_eq_false (show ¬ 30 * k + j = d by omega)]; simp
            · rw [decide_eq_false z2]; simp)
        rw [sA_sA, hcn] at q1
        refine ⟨t', ?_, q2⟩
        have ek : d % 30 + 1 - 1 = d % 30 := by omega
        simp (disch := omega) only [↓mI_e, lit, ofN, bsm, nI_add, pk_mul, pk_sub, nI_e, nI_leE, nI_ltE, nI_mI, mI_nI, mI_lt, nlt_mI, mI_le, nle_mI, nI_addm, sh_b, bI_0, bI_1, bI_bI, ckZ_b, ckZ_n0, ckZ_n1, stIe, stJe, stZ_n0, stZ_n1, rm_nI, dv_nI, if_true, if_false, if_pos, if_neg, rf0, rf1, rf5, rf6, rf7, rf8, rf9, rf20, rf23, rf24, rf25, rf26, rf29, rf31, rf33, rf34, rf35, rf37, rf38, rf41, rf42, rf43,  l1, lr10, k1, z, lr11, k2, lr1, eb, lr12, k3, ek, sr1, ef, k_X12_bury_150]
        exact q1
      · have zd : ded f y d = false := decide_eq_false z
        have hsame : ∀ x, dB f ad y (m + 1) x = dB f ad y m x := fun x => by rw [hs x, zd, Bool.and_false, Bool.or_false]
        have hcn : cnt (dB f ad y (m + 1)) 180 = cnt (dB f ad y m) 180 := cnt_congr 180 (fun x _ => hsame x)
        obtain ⟨t', q1, q2⟩ := ih (m + 1) τ t (by omega) (by omega) hL hf ⟨hB.1, fun k hk j => by rw [hsame]; exact hB.2 k hk j⟩
        rw [hcn] at q1
        refine ⟨t', ?_, q2⟩
        simp (disch := omega) only [↓mI_e, lit, ofN, bsm, nI_add, pk_mul, pk_sub, nI_e, nI_leE, nI_ltE, nI_mI, mI_nI, mI_lt, nlt_mI, mI_le, nle_mI, nI_addm, sh_b, bI_0, bI_1, bI_bI, ckZ_b, ckZ_n0, ckZ_n1, stIe, stJe, stZ_n0, stZ_n1, rm_nI, dv_nI, if_true, if_false, if_pos, if_neg, rf0, rf1, rf5, rf6, rf7, rf8, rf9, rf20, rf23, rf24, rf25, rf26, rf29, rf31, rf33, rf34, rf35, rf37, rf38, rf41, rf42, rf43,  l1, lr10, k1, z, k_X12_bury_150]
        exact q1
