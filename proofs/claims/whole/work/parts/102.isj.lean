/-! THE JOIN OF A SET -/
theorem bt_upT {c : Nat} (hc : c ≤ 30) {i : Nat} (hi : i < 32) : bt (upT (nI c)) i = decide (i < c) := by
  have e : upT (nI c) = nI (2 ^ c - 1) := by
    unfold upT
    rw [show (nI 1 <<< (nI c &&& nI 31)) = nI (2 ^ c) from pow_of (by omega), pk_sub Nat.one_le_two_pow]
  rw [e, bt_nI _ hi, Nat.testBit_two_pow_sub_one]
/-- r is the join of what the keepers of S have -/
def IsJ (s : Bool) (S : Nat → Prop) (th : Nat → Nat → Int32) (r : Nat → Int32) : Prop := ∀ k, k < 6 → if s then ((∀ m, vN (r k) ≤ m ↔ ∀ p, S p → vN (th p k) ≤ m) ∧ r (6 + k) = nI 0) else ((∀ m, vN (r (6 + k)) ≤ m ↔ ∀ p, S p → vN (th p (6 + k)) ≤ m) ∧ ∀ i, i < 32 → (bt (r k) i = true ↔ ((∃ p, S p ∧ bt (th p k) i = true) ∧ ∀ q, S q → bt (th q k) i = true ∨ vN (th q (6 + k)) ≤ i)))
theorem IsJ_uniq {s : Bool} {S : Nat → Prop} {th : Nat → Nat → Int32} {r r' : Nat → Int32} (h : IsJ s S th r) (h' : IsJ s S th r') : ∀ k, k < 12 → r k = r' k := by
  have le2 : ∀ a b : Nat, (∀ m, a ≤ m ↔ b ≤ m) → a = b := fun a b q => Nat.le_antisymm ((q b).mpr (Nat.le_refl _)) ((q a).mp (Nat.le_refl _))
  intro k hk
  by_cases g : k < 6
  · have h1 := h k g
    have h2 := h' k g
    cases s
    · simp only [Bool.false_eq_true, if_false] at h1 h2
      apply bt_ext
      intro i hi
      have q := (h1.2 i hi).trans (h2.2 i hi).symm
      cases q1 : bt (r k) i <;> cases q2 : bt (r' k) i <;> simp_all
    · simp only [if_true] at h1 h2
      exact vN_inj (le2 _ _ (fun m => (h1.1 m).trans (h2.1 m).symm))
  · obtain ⟨j, rfl⟩ : ∃ j, k = 6 + j := ⟨k - 6, by omega⟩
    have h1 := h j (by omega)
    have h2 := h' j (by omega)
    cases s
    · simp only [Bool.false_eq_true, if_false] at h1 h2
      exact vN_inj (le2 _ _ (fun m => (h1.1 m).trans (h2.1 m).symm))
    · simp only [if_true] at h1 h2
      rw [h1.2, h2.2]
theorem IsJ_congr {s : Bool} {S : Nat → Prop} {th : Nat → Nat → Int32} {r r' : Nat → Int32} (h : IsJ s S th r) (e : ∀ k, k < 12 → r' k = r k) : IsJ s S th r' := by
  intro k hk
  have h1 := h k hk
  rw [e k (by omega), e (6 + k) (by omega)]; exact h1
theorem IsJ_set {s : Bool} {S S' : Nat → Prop} {th : Nat → Nat → Int32} {r : Nat → Int32} (h : IsJ s S th r) (e : ∀ p, S' p ↔ S p) : IsJ s S' th r := by
  have : S' = S := funext fun p => propext (e p)
  rw [this]; exact h
theorem IsJ_0 (s : Bool) (th : Nat → Nat → Int32) {r : Nat → Int32} (h : ∀ k, k < 12 → r k = nI 0) : IsJ s (fun _ => False) th r := by
  intro k hk
  rw [h k (by omega), h (6 + k) (by omega)]
  have e : vN (nI 0) = 0 := rfl
  cases s
  · simp only [Bool.false_eq_true, if_false, e]
    refine ⟨fun m => ⟨fun _ p q => q.elim, fun _ => Nat.zero_le _⟩, fun i hi => ?_⟩
    rw [bt_n0]
    exact ⟨fun q => absurd q (by decide), fun q => by obtain ⟨⟨p, z, _⟩, _⟩ := q; exact z.elim⟩
  · simp only [if_true, e]
    exact ⟨fun m => ⟨fun _ p q => q.elim, fun _ => Nat.zero_le _⟩, trivial⟩
theorem IsJ_1 {s : Bool} {B : Nat} {g : Nat → Nat} {th : Nat → Nat → Int32} {p : Nat} (ht : TI s B g (th p)) : IsJ s (fun q => q = p) th (th p) := by
  intro k hk
  have h1 := ht k hk
  cases s
  · simp only [Bool.false_eq_true, if_false] at h1 ⊢
    refine ⟨fun m => ⟨fun q p' z => by rw [z]; exact q, fun q => q p rfl⟩, fun i hi => ⟨fun q => ⟨⟨p, rfl, q⟩, fun q' z => Or.inl (by rw [z]; exact q)⟩, fun q => ?_⟩⟩
    obtain ⟨⟨p', z, q1⟩, _⟩ := q
    rw [z] at q1; exact q1
  · simp only [if_true] at h1 ⊢
    exact ⟨fun m => ⟨fun q p' z => by rw [z]; exact q, fun q => q p rfl⟩, h1.2⟩
theorem IsJ_join {s : Bool} {B : Nat} {g : Nat → Nat} (hB : B < 2 ^ 31) (hg : ∀ k, k < 6 → g k ≤ 30) {S1 S2 : Nat → Prop} {th : Nat → Nat → Int32} {r1 r2 : Nat → Int32} (h1 : IsJ s S1 th r1) (h2 : IsJ s S2 th r2) (t1 : TI s B g r1) (t2 : TI s B g r2) : IsJ s (fun p => S1 p ∨ S2 p) th (jT s r1 r2) := by
  intro k hk
  have a1 := h1 k hk
  have a2 := h2 k hk
  have b1 := t1 k hk
  have b2 := t2 k hk
  have hg := hg k hk
  rw [jT_lo s r1 r2 hk, jT_hi]
  cases s
  · simp only [Bool.false_eq_true, if_false] at a1 a2 b1 b2 ⊢
    obtain ⟨c1, d1⟩ := a1
    obtain ⟨c2, d2⟩ := a2
    refine ⟨fun m => ?_, fun i hi => ?_⟩
    · rw [vN_mx (by omega) (by omega)]
      constructor
      · intro q p z
        rcases z with z | z
        · exact (c1 m).mp (by omega) p z
        · exact (c2 m).mp (by omega) p z
      · intro q
        have q1 := (c1 m).mpr (fun p z => q p (Or.inl z))
        have q2 := (c2 m).mpr (fun p z => q p (Or.inr z))
        omega
    · have e1 : bt (upT (r1 (6 + k))) i = decide (i < vN (r1 (6 + k))) := by rw [← nI_vN (r1 (6 + k)), bt_upT (by omega) hi, nI_vN]
      have e2 : bt (upT (r2 (6 + k))) i = decide (i < vN (r2 (6 + k))) := by rw [← nI_vN (r2 (6 + k)), bt_upT (by omega) hi, nI_vN]
      unfold jb
      rw [bt_or, bt_or, bt_and, bt_and, bt_and, bt_m _ hi, bt_m _ hi, e1, e2]
      have f1 := d1 i hi
      have f2 := d2 i hi
      have m1 := c1 i
      have m2 := c2 i
      constructor
      · intro q
        have q' : (bt (r1 k) i = true ∧ bt (r2 k) i = true) ∨ (bt (r1 k) i = true ∧ vN (r2 (6 + k)) ≤ i) ∨ (bt (r2 k) i = true ∧ vN (r1 (6 + k)) ≤ i) := by
          by_cases w1 : i < vN (r1 (6 + k)) <;> by_cases w2 : i < vN (r2 (6 + k)) <;> cases u1 : bt (r1 k) i <;> cases u2 : bt (r2 k) i <;> simp [w1, w2, u1, u2] at q ⊢ <;> omega
        rcases q' with ⟨z1, z2⟩ | ⟨z1, z2⟩ | ⟨z1, z2⟩
        · obtain ⟨⟨p, p1, p2⟩, all1⟩ := f1.mp z1
          obtain ⟨_, all2⟩ := f2.mp z2
          exact ⟨⟨p, Or.inl p1, p2⟩, fun x hx => hx.elim (all1 x) (all2 x)⟩
        · obtain ⟨⟨p, p1, p2⟩, all1⟩ := f1.mp z1
          exact ⟨⟨p, Or.inl p1, p2⟩, fun x hx => hx.elim (all1 x) (fun hx => Or.inr (m2.mp z2 x hx))⟩
        · obtain ⟨⟨p, p1, p2⟩, all2⟩ := f2.mp z1
          exact ⟨⟨p, Or.inr p1, p2⟩, fun x hx => hx.elim (fun hx => Or.inr (m1.mp z2 x hx)) (all2 x)⟩
      · intro q
        obtain ⟨⟨p, p1, p2⟩, all⟩ := q
        have ex1 : (∃ p, S1 p ∧ bt (th p k) i = true) → bt (r1 k) i = true := fun z => f1.mpr ⟨z, fun x hx => all x (Or.inl hx)⟩
        have ex2 : (∃ p, S2 p ∧ bt (th p k) i = true) → bt (r2 k) i = true := fun z => f2.mpr ⟨z, fun x hx => all x (Or.inr hx)⟩
        have no1 : ¬ (∃ p, S1 p ∧ bt (th p k) i = true) → vN (r1 (6 + k)) ≤ i := fun z => m1.mpr (fun x hx => (all x (Or.inl hx)).resolve_left (fun q => z ⟨x, hx, q⟩))
        have no2 : ¬ (∃ p, S2 p ∧ bt (th p k) i = true) → vN (r2 (6 + k)) ≤ i := fun z => m2.mpr (fun x hx => (all x (Or.inr hx)).resolve_left (fun q => z ⟨x, hx, q⟩))
        by_cases w1 : ∃ p, S1 p ∧ bt (th p k) i = true
        · rw [ex1 w1]
          by_cases w2 : ∃ p, S2 p ∧ bt (th p k) i = true
          · rw [ex2 w2]; simp
          · have := no2 w2
            rw [decide_eq_false (show ¬ i < vN (r2 (6 + k)) by omega)]; simp
        · have hn := no1 w1
          have w2 : ∃ p, S2 p ∧ bt (th p k) i = true := by
            rcases p1 with z | z
            · exact absurd ⟨p, z, p2⟩ w1
            · exact ⟨p, z, p2⟩
          rw [ex2 w2, decide_eq_false (show ¬ i < vN (r1 (6 + k)) by omega)]; simp
  · simp only [if_true] at a1 a2 b1 b2 ⊢
    refine ⟨fun m => ?_, a1.2⟩
    rw [vN_mx (by omega) (by omega)]
    constructor
    · intro q p z
      rcases z with z | z
      · exact (a1.1 m).mp (by omega) p z
      · exact (a2.1 m).mp (by omega) p z
    · intro q
      have q1 := (a1.1 m).mpr (fun p z => q p (Or.inl z))
      have q2 := (a2.1 m).mpr (fun p z => q p (Or.inr z))
      omega
/-- what the keepers have at a key -/
def thS (f : Nat → Int32) (y p : Nat) : Nat → Int32 := sh f (tb p y)
/-! the class: joinSet -/
theorem c_joinSet_loop {w : Nat} (hw : isW w) {B : Nat} (hB : B < 2 ^ 31) {g : Nat → Int64} {f : Nat → Int32} {y : Nat} (hy : y < 6) {S : Int32} {c L i : Nat} (hc : isC c L) (hi : i * 6 + 6 ≤ L) (hcw : c + 3 ≤ w ∨ w + 28 ≤ c) : ∀ (n k : Nat) (σ : ST) (r : Nat → Int32), k ≤ KN f → KN f - k < n → RelW B (wv σ w) f g → CR (sm f y) σ c i r → TI (sm f y) B (fun k => gv f k y) r → IsJ (sm f y) (fun p => p < k ∧ bt S p = true) (thS f y) r → ∃ r' F G, k_X10_joinSet_9 n w S (nI y) c (nI i) (nI k) σ = some (sA (sA σ (c + 1) F) (c + 2) G) ∧ CR (sm f y) (sA (sA σ (c + 1) F) (c + 2) G) c i r' ∧ TI (sm f y) B (fun k => gv f k y) r' ∧ IsJ (sm f y) (fun p => p < KN f ∧ bt S p = true) (thS f y) r' ∧ (∀ j, ¬ (i * 6 ≤ j ∧ j < i * 6 + 6) → F j = gA σ (c + 1) j ∧ G j = gA σ (c + 2) j) := by
  intro n
  induction n with
  | zero => intros; omega
  | succ n ih =>
    intro k σ r hk hn h hcr ht hj
    have hK := h.1.1.1
    have e6 : gI σ (w + 1) 6 = nI (KN f) := h.1.2.1.1.trans (eK f)
    rw [k_X10_joinSet_9]
    by_cases e : k = KN f
    · subst e
      simp (disch := omega) only [↓mI_e, lit, ofN, bsm, nI_add, pk_mul, pk_sub, nI_e, nI_leE, nI_ltE, nI_mI, mI_nI, mI_lt, nlt_mI, mI_le, nle_mI, nI_addm, sh_b, bI_0, bI_1, bI_bI, ckZ_b, ckZ_n0, ckZ_n1, stIe, stJe, stZ_n0, stZ_n1, rm_nI, dv_nI, if_true, if_false, if_pos, if_neg, rf0, rf1, rf5, rf6, rf7, rf8, rf9, rf20, rf23, rf24, rf25, rf26, rf29, rf31, rf33, rf34, rf35, rf37, rf38, rf41, rf42, rf43,  w_0 hw, w_1 hw, w_2 hw, w_3 hw, w_4 hw, w_5 hw, w_6 hw, w_7 hw, w_8 hw, ws_0 hw, ws_1 hw, ws_2 hw, ws_3 hw, ws_4 hw, ws_5 hw, wd_0 hw, wd_1 hw, wd_2 hw, wd_3 hw, wd_4 hw, wd_5 hw, wh_0 hw, wh_1 hw, wq_0 hw, wq_1 hw, wt_0 hw, wt_1 hw, lw2 hw, lw4 hw, lw6 hw, lw7 hw, lw9 hw, lw10 hw, lw11 hw, lw12 hw, lw13 hw, lw14 hw, lw16 hw, lw17 hw, lw19 hw, lw20 hw, lw21 hw, lw23 hw, lw24 hw, lw25 hw, lw26 hw, lw27 hw, lw3 hw, lw5 hw, sw2 hw, sw4 hw, sw6 hw, sw7 hw, sw9 hw, sw10 hw, sw11 hw, sw12 hw, sw13 hw, sw14 hw, sw16 hw, sw17 hw, sw19 hw, sw20 hw, sw21 hw, sw23 hw, sw24 hw, sw25 hw, sw26 hw, sw27 hw, e6]
      have es : sA (sA σ (c + 1) (gA σ (c + 1))) (c + 2) (gA σ (c + 2)) = σ := by rw [sA_self, sA_self]
      exact ⟨r, gA σ (c + 1), gA σ (c + 2), by rw [es], by rw [es]; exact hcr, ht, hj, fun _ _ => ⟨rfl, rfl⟩⟩
    · simp (disch := omega) only [↓mI_e, lit, ofN, bsm, nI_add, pk_mul, pk_sub, nI_e, nI_leE, nI_ltE, nI_mI, mI_nI, mI_lt, nlt_mI, mI_le, nle_mI, nI_addm, sh_b, bI_0, bI_1, bI_bI, ckZ_b, ckZ_n0, ckZ_n1, stIe, stJe, stZ_n0, stZ_n1, rm_nI, dv_nI, if_true, if_false, if_pos, if_neg, rf0, rf1, rf5, rf6, rf7, rf8, rf9, rf20, rf23, rf24, rf25, rf26, rf29, rf31, rf33, rf34, rf35, rf37, rf38, rf41, rf42, rf43,  w_0 hw, w_1 hw, w_2 hw, w_3 hw, w_4 hw, w_5 hw, w_6 hw, w_7 hw, w_8 hw, ws_0 hw, ws_1 hw, ws_2 hw, ws_3 hw, ws_4 hw, ws_5 hw, wd_0 hw, wd_1 hw, wd_2 hw, wd_3 hw, wd_4 hw, wd_5 hw, wh_0 hw, wh_1 hw, wq_0 hw, wq_1 hw, wt_0 hw, wt_1 hw, lw2 hw, lw4 hw, lw6 hw, lw7 hw, lw9 hw, lw10 hw, lw11 hw, lw12 hw, lw13 hw, lw14 hw, lw16 hw, lw17 hw, lw19 hw, lw20 hw, lw21 hw, lw23 hw, lw24 hw, lw25 hw, lw26 hw, lw27 hw, lw3 hw, lw5 hw, sw2 hw, sw4 hw, sw6 hw, sw7 hw, sw9 hw, sw10 hw, sw11 hw, sw12 hw, sw13 hw, sw14 hw, sw16 hw, sw17 hw, sw19 hw, sw20 hw, sw21 hw, sw23 hw, sw24 hw, sw25 hw, sw26 hw, sw27 hw, e6, k_X10_joinSet_46]
      cases cb : bt S k
      · simp only [if_true]
        refine ih (k + 1) σ r (by omega) (by omega) h hcr ht (IsJ_set hj (fun p => ⟨fun z => ⟨?_, z.2⟩, fun z => ⟨by omega, z.2⟩⟩))
        by_cases q : p = k
        · subst q; rw [cb] at z; exact absurd z.2 (by decide)
        · omega
      · simp only [Bool.true_eq_false, if_false]
        obtain ⟨c2, t2⟩ := h.2.2.2.2.2.1 k y (by omega) hy
        have c2' := wv_CR (c := 15) (by decide) c2
        have hjn := c_join hc (isC_h hw) (i := i) (j := k * 6 + y) hi (by omega) (by omega) σ (CR_hb (gvl h hy) hcr c2' ht t2)
        have e1 : nI (k * 6 + y) = nI (k * 6 + y) := rfl
        simp (disch := omega) only [↓mI_e, lit, ofN, bsm, nI_add, pk_mul, pk_sub, nI_e, nI_leE, nI_ltE, nI_mI, mI_nI, mI_lt, nlt_mI, mI_le, nle_mI, nI_addm, sh_b, bI_0, bI_1, bI_bI, ckZ_b, ckZ_n0, ckZ_n1, stIe, stJe, stZ_n0, stZ_n1, rm_nI, dv_nI, if_true, if_false, if_pos, if_neg, rf0, rf1, rf5, rf6, rf7, rf8, rf9, rf20, rf23, rf24, rf25, rf26, rf29, rf31, rf33, rf34, rf35, rf37, rf38, rf41, rf42, rf43,  f_X10_cellOf, hjn]
        have hR1 : RelW B (wv (sA (sA σ (c + 1) (jF σ c i (w + 15) (k * 6 + y) 6)) (c + 2) (jG σ c i (w + 15) (k * 6 + y) 6)) w) f g := by
          rw [wv_sA_out _ (by omega), wv_sA_out _ (by omega)]; exact h
        have hJ1 : IsJ (sm f y) (fun p => p < k + 1 ∧ bt S p = true) (thS f y) (jT (sm f y) r (thS f y k)) := by
          refine IsJ_set (IsJ_join hB (gvl h hy) hj (IsJ_1 (th := thS f y) (p := k) t2) ht t2) (fun p => ⟨fun z => ?_, fun z => ?_⟩)
          · by_cases q : p = k
            · exact Or.inr q
            · exact Or.inl ⟨by omega, z.2⟩
          · rcases z with z | z
            · exact ⟨by omega, z.2⟩
            · rw [z]; exact ⟨by omega, cb⟩
        obtain ⟨r', F, G, q1, q2, q3, q4, q5⟩ := ih (k + 1) _ (jT (sm f y) r (thS f y k)) (by omega) (by omega) hR1 (CR_join hcr c2') (TI_join hB (gvl h hy) ht t2) hJ1
        · have ee : sA (sA (sA (sA σ (c + 1) (jF σ c i (w + 15) (k * 6 + y) 6)) (c + 2) (jG σ c i (w + 15) (k * 6 + y) 6)) (c + 1) F) (c + 2) G = sA (sA σ (c + 1) F) (c + 2) G := by
            rw [sA_comm _ (show c + 2 ≠ c + 1 by omega), sA_sA, sA_sA]
          rw [ee] at q1 q2
          refine ⟨r', F, G, q1, q2, q3, q4, fun j hj' => ?_⟩
          have h5 := q5 j hj'
          rw [gA_sA, if_neg (by omega), gA_sA, if_pos rfl, gA_sA, if_pos rfl] at h5
          have o1 : jF σ c i (w + 15) (k * 6 + y) 6 j = gA σ (c + 1) j := by unfold jF; rw [if_neg hj']
          have o2 : jG σ c i (w + 15) (k * 6 + y) 6 j = gA σ (c + 2) j := by unfold jG; rw [if_neg hj']
          rw [o1, o2] at h5
          exact h5
theorem c_joinSet {w : Nat} (hw : isW w) {B : Nat} (hB : B < 2 ^ 31) {g : Nat → Int64} {f : Nat → Int32} {y : Nat} (hy : y < 6) (S : Int32) {c L i : Nat} (hc : isC c L) (hi : i * 6 + 6 ≤ L) (hcw : c + 3 ≤ w ∨ w + 28 ≤ c) {σ : ST} (h : RelW B (wv σ w) f g) : ∃ r' F G, f_X10_joinSet w S (nI y) c (nI i) σ = some (sA (sA σ (c + 1) F) (c + 2) G) ∧ CR (sm f y) (sA (sA σ (c + 1) F) (c + 2) G) c i r' ∧ TI (sm f y) B (fun k => gv f k y) r' ∧ IsJ (sm f y) (fun p => p < KN f ∧ bt S p = true) (thS f y) r' ∧ (∀ j, ¬ (i * 6 ≤ j ∧ j < i * 6 + 6) → F j = gA σ (c + 1) j ∧ G j = gA σ (c + 2) j) := by
  have hK := h.1.1.1
  have he := c_empty hc hi σ
  have z1 : ∀ k, k < 6 → fillF (gA σ (c + 1)) (i * 6) (i * 6 + 6) (nI 0) (i * 6 + k) = nI 0 := fun k hk => if_pos (by omega)
  have z2 : ∀ k, k < 6 → fillF (gA σ (c + 2)) (i * 6) (i * 6 + 6) (nI 0) (i * 6 + k) = nI 0 := fun k hk => if_pos (by omega)
  have hcr : CR (sm f y) (sA (sA σ (c + 1) (fillF (gA σ (c + 1)) (i * 6) (i * 6 + 6) (nI 0))) (c + 2) (fillF (gA σ (c + 2)) (i * 6) (i * 6 + 6) (nI 0))) c i (fun _ => nI 0) := by
    intro k hk
    have e1 : gA (sA (sA σ (c + 1) (fillF (gA σ (c + 1)) (i * 6) (i * 6 + 6) (nI 0))) (c + 2) (fillF (gA σ (c + 2)) (i * 6) (i * 6 + 6) (nI 0))) (c + 1) (i * 6 + k) = nI 0 := by rw [gA_sA, if_neg (by omega), gA_sA, if_pos rfl]; exact z1 k hk
    have e2 : gA (sA (sA σ (c + 1) (fillF (gA σ (c + 1)) (i * 6) (i * 6 + 6) (nI 0))) (c + 2) (fillF (gA σ (c + 2)) (i * 6) (i * 6 + 6) (nI 0))) (c + 2) (i * 6 + k) = nI 0 := by rw [gA_sA, if_pos rfl]; exact z2 k hk
    rw [e1, e2]
    cases sm f y
    · exact ⟨rfl, rfl⟩
    · exact ⟨rfl, rfl, rfl⟩
  obtain ⟨r', F, G, q1, q2, q3, q4, q5⟩ := c_joinSet_loop hw hB hy (S := S) hc hi hcw FU 0 _ (fun _ => nI 0) (by omega) (by unfold FU; omega) (by rw [wv_sA_out _ (by omega), wv_sA_out _ (by omega)]; exact h) hcr (TI_0 _ _ _ (fun _ _ => rfl)) (IsJ_set (IsJ_0 _ (thS f y) (fun _ _ => rfl)) (fun p => ⟨fun z => by omega, fun z => z.elim⟩))
  have ee : sA (sA (sA (sA σ (c + 1) (fillF (gA σ (c + 1)) (i * 6) (i * 6 + 6) (nI 0))) (c + 2) (fillF (gA σ (c + 2)) (i * 6) (i * 6 + 6) (nI 0))) (c + 1) F) (c + 2) G = sA (sA σ (c + 1) F) (c + 2) G := by
    rw [sA_comm _ (show c + 2 ≠ c + 1 by omega), sA_sA, sA_sA]
  rw [ee] at q1 q2
  refine ⟨r', F, G, ?_, q2, q3, q4, fun j hj' => ?_⟩
  · unfold f_X10_joinSet
    rw [he, b_some]
    exact q1
  · have h5 := q5 j hj'
    rw [gA_sA, if_neg (by omega), gA_sA, if_pos rfl, gA_sA, if_pos rfl] at h5
    have o1 : fillF (gA σ (c + 1)) (i * 6) (i * 6 + 6) (nI 0) j = gA σ (c + 1) j := if_neg hj'
    have o2 : fillF (gA σ (c + 2)) (i * 6) (i * 6 + 6) (nI 0) j = gA σ (c + 2) j := if_neg hj'
    rw [o1, o2] at h5
    exact h5
