/-! DOTS in their order -/
def std (b : Nat → Int32) (d : Nat) : Bool := bt (b (d / 30)) (d % 30)
theorem cnt_onto {p : Nat → Bool} : ∀ n m, m < cnt p n → ∃ d, d < n ∧ p d = true ∧ cnt p d = m
  | 0, m, h => by simp [cnt] at h
  | n + 1, m, h => by
    rw [cnt] at h
    by_cases g : m < cnt p n
    · obtain ⟨d, h1, h2⟩ := cnt_onto n m g
      exact ⟨d, by omega, h2⟩
    · cases c : p n
      · rw [c] at h; simp at h; omega
      · rw [c] at h; simp at h
        exact ⟨n, by omega, c, by omega⟩
theorem cnt_mono2 {p : Nat → Bool} {m n : Nat} (h : m ≤ n) : cnt p m ≤ cnt p n := by
  obtain ⟨k, rfl⟩ : ∃ k, n = m + k := ⟨n - m, by omega⟩
  rw [cnt_add]; omega
theorem cnt_lt2 {p : Nat → Bool} {d n : Nat} (h : d < n) (hp : p d = true) : cnt p d < cnt p n := by
  have := cnt_mono2 (p := p) (show d + 1 ≤ n by omega)
  rw [cnt, hp] at this
  simp at this
  omega
/-- a row in which the dots' numbers stand in order -/
def DL (p : Nat → Bool) (n : Nat) (R : Nat → Int32) (fr : Nat) (v : Nat → Int32) : Prop := ∀ d, d < n → p d = true → R (fr + cnt p d) = v d
theorem DL_at {p : Nat → Bool} {n : Nat} {R R' : Nat → Int32} {fr fr' : Nat} {v : Nat → Int32} (h : DL p n R fr v) (h' : DL p n R' fr' v) : ∀ m, m < cnt p n → R (fr + m) = R' (fr' + m) := by
  intro m hm
  obtain ⟨d, h1, h2, h3⟩ := cnt_onto n m hm
  rw [← h3, h d h1 h2, h' d h1 h2]
/-- only the rows of twins have changed -/
def L3 (τ τ1 : ST) : Prop := (∀ k, k ≠ 27 → gI τ1 0 k = gI τ 0 k) ∧ (∀ k, gJ τ1 0 k = gJ τ 0 k) ∧ (∀ x, x ≠ 10 → x ≠ 11 → x ≠ 12 → gA τ1 x = gA τ x) ∧ ∀ x, gB τ1 x = gB τ x
theorem L3.rf (τ : ST) : L3 τ τ := ⟨fun _ _ => rfl, fun _ => rfl, fun _ _ _ _ => rfl, fun _ => rfl⟩
theorem L3.trans {τ τ1 τ2 : ST} (h : L3 τ τ1) (h2 : L3 τ1 τ2) : L3 τ τ2 := ⟨fun k a => (h2.1 k a).trans (h.1 k a), fun k => (h2.2.1 k).trans (h.2.1 k), fun x a b c => (h2.2.2.1 x a b c).trans (h.2.2.1 x a b c), fun x => (h2.2.2.2 x).trans (h.2.2.2 x)⟩
theorem L3.sI {τ τ1 : ST} (h : L3 τ τ1) (v : Int32) : L3 τ (sI τ1 0 27 v) := h.trans ⟨fun j hj => by rw [gI_sI, if_neg (fun z => hj z.2)], fun _ => rfl, fun _ _ _ _ => rfl, fun _ => rfl⟩
theorem L3.sA {τ τ1 : ST} (h : L3 τ τ1) {x : Nat} (F : Nat → Int32) (hx : x = 10 ∨ x = 11 ∨ x = 12) : L3 τ (sA τ1 x F) := h.trans ⟨fun _ _ => rfl, fun _ => rfl, fun z a b c => by rw [gA_sA, if_neg (by omega)], fun _ => rfl⟩
theorem L3.sc {e : List Nat} {τ τ1 : ST} (h : L3 τ τ1) : Sc e τ τ1 := ⟨fun k a _ => h.1 k (fun q => by subst q; exact absurd a (by decide)), fun k _ => h.2.1 k, fun x a _ => h.2.2.1 x (fun q => by subst q; exact absurd a (by decide)) (fun q => by subst q; exact absurd a (by decide)) (fun q => by subst q; exact absurd a (by decide)), h.2.2.2⟩
/-- the state of laying twins: the dots below d are laid -/
def LT (f : Nat → Int32) (a y d : Nat) (τ : ST) : Prop := gI τ 0 27 = nI (cnt (std (sh f a)) d) ∧ DL (std (sh f a)) d (gA τ 10) 0 (fun e => f (vb y (e / 30) (e % 30 + 1))) ∧ DL (std (sh f a)) d (gA τ 11) 0 (fun e => nI (e / 30)) ∧ DL (std (sh f a)) d (gA τ 12) 0 (fun e => nI (e % 30 + 1))
theorem LT_skip {f : Nat → Int32} {a y d : Nat} {τ : ST} (h : LT f a y d τ) (hd : std (sh f a) d = false) : LT f a y (d + 1) τ := by
  obtain ⟨h1, h2, h3, h4⟩ := h
  have e : cnt (std (sh f a)) (d + 1) = cnt (std (sh f a)) d := by rw [cnt, hd]; simp
  have ex : ∀ (R v : Nat → Int32), DL (std (sh f a)) d R 0 v → DL (std (sh f a)) (d + 1) R 0 v := fun R v hq x hx hp => by
    by_cases g : x = d
    · subst g; rw [hd] at hp; exact absurd hp (by decide)
    · exact hq x (by omega) hp
  exact ⟨by rw [e]; exact h1, ex _ _ h2, ex _ _ h3, ex _ _ h4⟩
theorem r_laysTwins_in {f : Nat → Int32} {a y k : Nat} (ha : a + 12 ≤ 29600) (hy : y < 6) (hk : k < 6) (rec7 : Nat → Int32 → Int32 → Int32 → ST → Option ST) : ∀ (n c : Nat) (τ : ST), 1 ≤ c → c ≤ 31 → 31 - c < n → gA τ 1 = f → LT f a y (30 * k + (c - 1)) τ → ∃ τ1, k_X12_laysTwins_24 rec7 n 0 (nI a) (nI y) (nI k) (nI c) τ = rec7 0 (nI a) (nI y) (nI (k + 1)) τ1 ∧ LT f a y (30 * (k + 1)) τ1 ∧ L3 τ τ1 := by
  intro n
  induction n with
  | zero => intros; omega
  | succ n ih =>
    intro c τ h1 hc hn hg hL
    rw [k_X12_laysTwins_24]
    by_cases e : c = 31
    · subst e
      simp (disch := omega) only [↓mI_e, lit, ofN, bsm, nI_add, pk_mul, pk_sub, nI_e, nI_leE, nI_ltE, nI_mI, mI_nI, mI_lt, nlt_mI, mI_le, nle_mI, nI_addm, sh_b, bI_0, bI_1, bI_bI, ckZ_b, ckZ_n0, ckZ_n1, stIe, stJe, stZ_n0, stZ_n1, rm_nI, dv_nI, if_true, if_false, if_pos, if_neg, rf0, rf1, rf5, rf6, rf7, rf8, rf9, rf20, rf23, rf24, rf25, rf26, rf29, rf31, rf33, rf34, rf35, rf37, rf38, rf41, rf42, rf43, ]
      exact ⟨τ, rfl, hL, L3.rf τ⟩
    · have e1 : gA τ 1 (a + k) = f (a + k) := by rw [hg]
      have es : std (sh f a) (30 * k + (c - 1)) = bt (f (a + k)) (c - 1) := by
        unfold std sh
        rw [show (30 * k + (c - 1)) / 30 = k by omega, show (30 * k + (c - 1)) % 30 = c - 1 by omega]
      have hcl := cnt_le (std (sh f a)) (30 * k + (c - 1))
      have ev : gA τ 1 (3280 + 31 * (6 * y + k) + c) = f (vb y k c) := by rw [hg]; rfl
      have hL1 := hL.1
      simp (disch := omega) only [↓mI_e, lit, ofN, bsm, nI_add, pk_mul, pk_sub, nI_e, nI_leE, nI_ltE, nI_mI, mI_nI, mI_lt, nlt_mI, mI_le, nle_mI, nI_addm, sh_b, bI_0, bI_1, bI_bI, ckZ_b, ckZ_n0, ckZ_n1, stIe, stJe, stZ_n0, stZ_n1, rm_nI, dv_nI, if_true, if_false, if_pos, if_neg, rf0, rf1, rf5, rf6, rf7, rf8, rf9, rf20, rf23, rf24, rf25, rf26, rf29, rf31, rf33, rf34, rf35, rf37, rf38, rf41, rf42, rf43,  lr1, e1, k_X12_laysTwins_100, f_X12_valueOf, ev, hL1, sr10, sr11, sr12, gA_sA, gI_sA, gI_sI]
      cases cb : bt (f (a + k)) (c - 1)
      · simp only [if_true]
        refine ih (c + 1) τ (by omega) (by omega) (by omega) hg ?_
        rw [show 30 * k + (c + 1 - 1) = 30 * k + (c - 1) + 1 by omega]
        exact LT_skip hL (es.trans cb)
      · simp only [Bool.true_eq_false, if_false]
        rw [cb] at es
        generalize hm : cnt (std (sh f a)) (30 * k + (c - 1)) = m at hcl hL1
        obtain ⟨τ1, q1, q2, q3⟩ := ih (c + 1) (sI (sA (sA (sA τ 10 (upd (gA τ 10) m (f (vb y k c)))) 11 (upd (gA τ 11) m (nI k))) 12 (upd (gA τ 12) m (nI c))) 0 27 (nI (m + 1))) (by omega) (by omega) (by omega) hg (by
          rw [show 30 * k + (c + 1 - 1) = 30 * k + (c - 1) + 1 by omega]
          have ec : cnt (std (sh f a)) (30 * k + (c - 1) + 1) = m + 1 := by rw [cnt, es, hm]; simp
          have ex : ∀ (R v : Nat → Int32) (x : Int32), x = v (30 * k + (c - 1)) → DL (std (sh f a)) (30 * k + (c - 1)) R 0 v → DL (std (sh f a)) (30 * k + (c - 1) + 1) (upd R m x) 0 v := fun R v x hx hq d hd hp => by
            rw [upd_at]
            by_cases g : d = 30 * k + (c - 1)
            · subst g; rw [hm, if_pos (by omega), hx]
            · have hlt := cnt_lt2 (p := std (sh f a)) (d := d) (n := 30 * k + (c - 1)) (by omega) hp
              rw [if_neg (by omega)]
              exact hq d (by omega) hp
          refine ⟨by rw [gI_sI, if_pos ⟨rfl, rfl⟩, ec], ?_, ?_, ?_⟩
          · exact ex (gA τ 10) _ _ (by rw [show (30 * k + (c - 1)) / 30 = k by omega, show (30 * k + (c - 1)) % 30 + 1 = c by omega]) hL.2.1
          · exact ex (gA τ 11) _ _ (by rw [show (30 * k + (c - 1)) / 30 = k by omega]) hL.2.2.1
          · exact ex (gA τ 12) _ _ (by rw [show (30 * k + (c - 1)) % 30 + 1 = c by omega]) hL.2.2.2)
        exact ⟨τ1, q1, q2, ((((L3.rf τ).sA _ (Or.inl rfl)).sA _ (Or.inr (Or.inl rfl))).sA _ (Or.inr (Or.inr rfl))).sI _ |>.trans q3⟩
theorem r_laysTwins_out {f : Nat → Int32} {a y : Nat} (ha : a + 12 ≤ 29600) (hy : y < 6) (hs : sm f y = false) : ∀ (n k : Nat) (τ : ST), k ≤ 6 → 6 - k < n → gA τ 1 = f → LT f a y (30 * k) τ → ∃ τ1, k_X12_laysTwins_7 n 0 (nI a) (nI y) (nI k) τ = some τ1 ∧ LT f a y 180 τ1 ∧ L3 τ τ1 := by
  obtain ⟨F, hF, hF2⟩ : ∃ F, FU = F ∧ 5000 < F := ⟨FU, rfl, by unfold FU; omega⟩
  intro n
  induction n with
  | zero => intros; omega
  | succ n ih =>
    intro k τ hk hn hg hL
    rw [k_X12_laysTwins_7, hF]
    by_cases e : k = 6
    · subst e
      simp (disch := omega) only [↓mI_e, lit, ofN, bsm, nI_add, pk_mul, pk_sub, nI_e, nI_leE, nI_ltE, nI_mI, mI_nI, mI_lt, nlt_mI, mI_le, nle_mI, nI_addm, sh_b, bI_0, bI_1, bI_bI, ckZ_b, ckZ_n0, ckZ_n1, stIe, stJe, stZ_n0, stZ_n1, rm_nI, dv_nI, if_true, if_false, if_pos, if_neg, rf0, rf1, rf5, rf6, rf7, rf8, rf9, rf20, rf23, rf24, rf25, rf26, rf29, rf31, rf33, rf34, rf35, rf37, rf38, rf41, rf42, rf43,  k_X12_laysTwins_112]
      exact ⟨τ, rfl, hL, L3.rf τ⟩
    · have e1 : sm (gA τ 1) y = false := by rw [hg]; exact hs
      obtain ⟨τ1, q1, q2, q3⟩ := r_laysTwins_in ha hy (k := k) (by omega) (k_X12_laysTwins_7 n) F 1 τ (by omega) (by omega) (by omega) hg hL
      obtain ⟨τ2, q4, q5, q6⟩ := ih (k + 1) τ1 (by omega) (by omega) (by rw [q3.2.2.1 1 (by decide) (by decide) (by decide)]; exact hg) q2
      simp (disch := omega) only [↓mI_e, lit, ofN, bsm, nI_add, pk_mul, pk_sub, nI_e, nI_leE, nI_ltE, nI_mI, mI_nI, mI_lt, nlt_mI, mI_le, nle_mI, nI_addm, sh_b, bI_0, bI_1, bI_bI, ckZ_b, ckZ_n0, ckZ_n1, stIe, stJe, stZ_n0, stZ_n1, rm_nI, dv_nI, if_true, if_false, if_pos, if_neg, rf0, rf1, rf5, rf6, rf7, rf8, rf9, rf20, rf23, rf24, rf25, rf26, rf29, rf31, rf33, rf34, rf35, rf37, rf38, rf41, rf42, rf43,  r_isSum, e1, q1, q4]
      exact ⟨τ2, rfl, q5, q3.trans q6⟩
/-- how many twins -/
def twN (s : Bool) (t : Nat → Int32) : Nat := if s then 0 else cnt (std t) 180
theorem r_laysTwins {a y : Nat} (ha : a + 12 ≤ 29600) (hy : y < 6) (τ : ST) : ∃ τ1, f_X12_laysTwins 0 (nI a) (nI y) τ = some τ1 ∧ L3 τ τ1 ∧ gI τ1 0 27 = nI (twN (sm (gA τ 1) y) (sh (gA τ 1) a)) ∧ (sm (gA τ 1) y = false → LT (gA τ 1) a y 180 τ1) := by
  cases hs : sm (gA τ 1) y
  · have h0 : LT (gA τ 1) a y (30 * 0) (sI τ 0 27 (nI 0)) := ⟨by rw [gI_sI]; rfl, fun d hd => by omega, fun d hd => by omega, fun d hd => by omega⟩
    obtain ⟨τ1, q1, q2, q3⟩ := r_laysTwins_out ha hy hs FU 0 (sI τ 0 27 (nI 0)) (by omega) (by unfold FU; omega) rfl h0
    refine ⟨τ1, q1, ((L3.rf τ).sI _).trans q3, ?_, fun _ => q2⟩
    rw [q2.1]; rfl
  · refine ⟨sI τ 0 27 (nI 0), ?_, (L3.rf τ).sI _, by rw [gI_sI]; rfl, fun z => absurd z (by decide)⟩
    simp (disch := omega) only [↓mI_e, lit, ofN, bsm, nI_add, pk_mul, pk_sub, nI_e, nI_leE, nI_ltE, nI_mI, mI_nI, mI_lt, nlt_mI, mI_le, nle_mI, nI_addm, sh_b, bI_0, bI_1, bI_bI, ckZ_b, ckZ_n0, ckZ_n1, stIe, stJe, stZ_n0, stZ_n1, rm_nI, dv_nI, if_true, if_false, if_pos, if_neg, rf0, rf1, rf5, rf6, rf7, rf8, rf9, rf20, rf23, rf24, rf25, rf26, rf29, rf31, rf33, rf34, rf35, rf37, rf38, rf41, rf42, rf43,  f_X12_laysTwins]
    rw [show FU = 999999 + 1 from rfl, k_X12_laysTwins_7]
    have e1 : sm (gA (sI τ 0 27 (nI 0)) 1) y = true := hs
    simp (disch := omega) only [↓mI_e, lit, ofN, bsm, nI_add, pk_mul, pk_sub, nI_e, nI_leE, nI_ltE, nI_mI, mI_nI, mI_lt, nlt_mI, mI_le, nle_mI, nI_addm, sh_b, bI_0, bI_1, bI_bI, ckZ_b, ckZ_n0, ckZ_n1, stIe, stJe, stZ_n0, stZ_n1, rm_nI, dv_nI, if_true, if_false, if_pos, if_neg, rf0, rf1, rf5, rf6, rf7, rf8, rf9, rf20, rf23, rf24, rf25, rf26, rf29, rf31, rf33, rf34, rf35, rf37, rf38, rf41, rf42, rf43,  r_isSum, e1, Bool.true_eq_false, k_X12_laysTwins_112]
/-! the class: valuesIn -/
theorem shr_0 {x : Int32} {i : Nat} (hi : i < 31) (hx : ∀ j, 30 ≤ j → bt x j = false) : (x >>> (nI i &&& nI 31) = nI 0) ↔ ∀ j, i ≤ j → bt x j = false := by
  have hb : ∀ j, j < 32 → bt (x >>> (nI i &&& nI 31)) j = bt x (i + j) := fun j hj => by
    rw [show (nI i &&& nI 31) = nI i from and31 (by omega)]
    unfold bt
    rw [Int32.toBitVec_shiftRight, BitVec.sshiftRight', smod32 (by omega), BitVec.getLsbD_sshiftRight]
    by_cases q : i + j < 32
    · simp [hj, q]
    · have h1 : x.toBitVec.msb = false := by
        have := hx 31 (by omega)
        unfold bt at this
        rw [BitVec.msb_eq_getLsbD_last]; exact this
      have h2 : x.toBitVec.getLsbD (i + j) = false := BitVec.getLsbD_of_ge _ _ (by omega)
      simp [q, h1, h2]
  constructor
  · intro h j hj
    by_cases q : j < 32
    · have h1 := hb (j - i) (by omega)
      rw [h, bt_n0, show i + (j - i) = j by omega] at h1
      exact h1.symm
    · exact bt_big x (by omega)
  · intro h
    apply bt_ext
    intro j hj
    rw [hb j hj, bt_n0]
    exact h _ (by omega)
/-- what valuesIn needs of the cells, and keeps -/
theorem c_valuesIn_in {w : Nat} (hw : isW w) {K y : Nat} (hK : K ≤ 6) (hy : y < 6) {r L fr of : Nat} (hL : LC.2.2.1 r = L) (hLl : L < 100000) (hfr : fr + 180 ≤ L) (hof : of < K) (hrw : r < w ∨ w + 28 ≤ r) {b : Nat → Int32} (hb : ∀ k, ∀ j, 30 ≤ j → bt (b k) j = false) (V : Nat → Int32) (c : Nat) (i1 : Int32) (rec6 : Nat → Nat → Int32 → Int32 → Nat → Int32 → Int32 → Int32 → ST → Option (Int32 × ST)) (R0 : Nat → Int32) : ∀ (n i : Nat) (σ : ST), i ≤ 30 → 30 - i < n → gA σ (w + 27) = V → DL (std b) (30 * of + i) (gA σ r) fr (fun e => V (y * 180 + e)) → (∀ j, j < fr ∨ fr + 180 ≤ j → gA σ r j = R0 j) → ∃ R, k_X10_valuesIn_30 rec6 n w c i1 (nI y) r (nI fr) (nI (cnt (std b) (30 * of + i))) (nI of) (b of) (nI i) σ = rec6 w c i1 (nI y) r (nI fr) (nI (cnt (std b) (30 * (of + 1)))) (nI (of + 1)) (sA σ r R) ∧ DL (std b) (30 * (of + 1)) R fr (fun e => V (y * 180 + e)) ∧ ∀ j, j < fr ∨ fr + 180 ≤ j → R j = R0 j := by
  intro n
  induction n with
  | zero => intros; omega
  | succ n ih =>
    intro i σ hi hn hV hD hR
    rw [k_X10_valuesIn_30]
    have hcl := cnt_le (std b) (30 * of + i)
    have last : (∀ j, i ≤ j → j < 30 → bt (b of) j = false) → ∃ R, k_X10_valuesIn_91 rec6 w c i1 (nI y) r (nI fr) (nI (cnt (std b) (30 * of + i))) (nI of) σ = rec6 w c i1 (nI y) r (nI fr) (nI (cnt (std b) (30 * (of + 1)))) (nI (of + 1)) (sA σ r R) ∧ DL (std b) (30 * (of + 1)) R fr (fun e => V (y * 180 + e)) ∧ ∀ j, j < fr ∨ fr + 180 ≤ j → R j = R0 j := by
      intro hz
      have ez : ∀ e, 30 * of + i ≤ e → e < 30 * (of + 1) → std b e = false := fun e h1 h2 => by
        unfold std
        rw [show e / 30 = of by omega]
        exact hz _ (by omega) (by omega)
      have ec : cnt (std b) (30 * (of + 1)) = cnt (std b) (30 * of + i) := cnt_tail _ (by omega) ez
      refine ⟨gA σ r, ?_, fun d hd hp => ?_, hR⟩
      · rw [sA_self, ec]
        simp (disch := omega) only [↓mI_e, lit, ofN, bsm, nI_add, pk_mul, pk_sub, nI_e, nI_leE, nI_ltE, nI_mI, mI_nI, mI_lt, nlt_mI, mI_le, nle_mI, nI_addm, sh_b, bI_0, bI_1, bI_bI, ckZ_b, ckZ_n0, ckZ_n1, stIe, stJe, stZ_n0, stZ_n1, rm_nI, dv_nI, if_true, if_false, if_pos, if_neg, rf0, rf1, rf5, rf6, rf7, rf8, rf9, rf20, rf23, rf24, rf25, rf26, rf29, rf31, rf33, rf34, rf35, rf37, rf38, rf41, rf42, rf43,  k_X10_valuesIn_91]
      · by_cases g : d < 30 * of + i
        · exact hD d g hp
        · rw [ez d (by omega) hd] at hp; exact absurd hp (by decide)
    by_cases e : i = 30
    · subst e
      simp (disch := omega) only [↓mI_e, lit, ofN, bsm, nI_add, pk_mul, pk_sub, nI_e, nI_leE, nI_ltE, nI_mI, mI_nI, mI_lt, nlt_mI, mI_le, nle_mI, nI_addm, sh_b, bI_0, bI_1, bI_bI, ckZ_b, ckZ_n0, ckZ_n1, stIe, stJe, stZ_n0, stZ_n1, rm_nI, dv_nI, if_true, if_false, if_pos, if_neg, rf0, rf1, rf5, rf6, rf7, rf8, rf9, rf20, rf23, rf24, rf25, rf26, rf29, rf31, rf33, rf34, rf35, rf37, rf38, rf41, rf42, rf43, ]
      exact last (fun j h1 h2 => by omega)
    · have es : std b (30 * of + i) = bt (b of) i := by
        unfold std
        rw [show (30 * of + i) / 30 = of by omega, show (30 * of + i) % 30 = i by omega]
      have hz := shr_0 (x := b of) (i := i) (by omega) (hb of)
      have IH := ih (i + 1)
      have ec : cnt (std b) (30 * of + (i + 1)) = cnt (std b) (30 * of + i) + (if bt (b of) i then 1 else 0) := by
        rw [show 30 * of + (i + 1) = 30 * of + i + 1 by omega, cnt, es]
      rw [ec] at IH
      have lV : ldA LC σ (w + 27) (nI (y * 180 + of * 30 + i)) = some (V (y * 180 + (30 * of + i))) := by
        rw [lw27 hw (by omega), hV, show y * 180 + of * 30 + i = y * 180 + (30 * of + i) by omega]
      have sr := sa (Λ := LC) (σ := σ) (y := r) (k := fr + cnt (std b) (30 * of + i)) (v := V (y * 180 + (30 * of + i))) L hL (by omega) (by omega)
      simp (disch := omega) only [↓mI_e, lit, ofN, bsm, nI_add, pk_mul, pk_sub, nI_e, nI_leE, nI_ltE, nI_mI, mI_nI, mI_lt, nlt_mI, mI_le, nle_mI, nI_addm, sh_b, bI_0, bI_1, bI_bI, ckZ_b, ckZ_n0, ckZ_n1, stIe, stJe, stZ_n0, stZ_n1, rm_nI, dv_nI, if_true, if_false, if_pos, if_neg, rf0, rf1, rf5, rf6, rf7, rf8, rf9, rf20, rf23, rf24, rf25, rf26, rf29, rf31, rf33, rf34, rf35, rf37, rf38, rf41, rf42, rf43,  w_8 hw, k_X10_valuesIn_85, lV, sr]
      by_cases g : b of >>> (nI i &&& nI 31) = nI 0
      · rw [if_pos g]
        exact last (fun j h1 _ => hz.mp g j h1)
      · rw [if_neg g]
        cases cb : bt (b of) i
        · rw [cb] at IH
          simp only [Bool.false_eq_true, if_false, Nat.add_zero] at IH
          simp only [if_true]
          refine IH σ (by omega) (by omega) hV (fun d hd hp => ?_) hR
          by_cases q : d = 30 * of + i
          · subst q; rw [es, cb] at hp; exact absurd hp (by decide)
          · exact hD d (by omega) hp
        · rw [cb] at IH
          simp only [if_true] at IH
          simp only [Bool.true_eq_false, if_false]
          obtain ⟨R, q1, q2, q3⟩ := IH (sA σ r (upd (gA σ r) (fr + cnt (std b) (30 * of + i)) (V (y * 180 + (30 * of + i))))) (by omega) (by omega) (by rw [gA_sA, if_neg (by omega)]; exact hV) (fun d hd hp => by
            rw [gA_sA, if_pos rfl, upd_at]
            by_cases q : d = 30 * of + i
            · subst q; rw [if_pos rfl]
            · have hlt := cnt_lt2 (p := std b) (d := d) (n := 30 * of + i) (by omega) hp
              rw [if_neg (by omega)]
              exact hD d (by omega) hp) (fun j hj => by
            rw [gA_sA, if_pos rfl, upd_at, if_neg (by omega)]; exact hR j hj)
          exact ⟨R, by rw [q1, sA_sA], q2, q3⟩
theorem c_valuesIn_out {w : Nat} (hw : isW w) {K y : Nat} (hK : K ≤ 6) (hy : y < 6) {r L fr : Nat} (hL : LC.2.2.1 r = L) (hLl : L < 100000) (hfr : fr + 180 ≤ L) (hrw : r < w ∨ w + 28 ≤ r) {b : Nat → Int32} (hb : ∀ k, ∀ j, 30 ≤ j → bt (b k) j = false) (hb0 : ∀ k, K ≤ k → k < 6 → ∀ j, bt (b k) j = false) {c M i0 : Nat} (hc : isC c M) (hi0 : i0 * 6 + 6 ≤ M) (hrc : r ≠ c + 1) (V : Nat → Int32) (R0 : Nat → Int32) : ∀ (n of : Nat) (σ : ST), of ≤ K → K - of < n → gI σ (w + 1) 6 = nI K → gA σ (w + 27) = V → (∀ k, k < 6 → gA σ (c + 1) (i0 * 6 + k) = b k) → DL (std b) (30 * of) (gA σ r) fr (fun e => V (y * 180 + e)) → (∀ j, j < fr ∨ fr + 180 ≤ j → gA σ r j = R0 j) → ∃ R, k_X10_valuesIn_6 n w c (nI i0) (nI y) r (nI fr) (nI (cnt (std b) (30 * of))) (nI of) σ = some (nI (cnt (std b) 180), sA σ r R) ∧ DL (std b) 180 R fr (fun e => V (y * 180 + e)) ∧ ∀ j, j < fr ∨ fr + 180 ≤ j → R j = R0 j := by
  have hM := hc.2.2.2.2
  obtain ⟨F, hF, hF2⟩ : ∃ F, FU = F ∧ 5000 < F := ⟨FU, rfl, by unfold FU; omega⟩
  intro n
  induction n with
  | zero => intros; omega
  | succ n ih =>
    intro of σ ho hn e6 hV hB hD hR
    rw [k_X10_valuesIn_6, hF]
    by_cases e : of = K
    · subst e
      have ez : ∀ e, 30 * of ≤ e → e < 180 → std b e = false := fun e h1 h2 => hb0 _ (by omega) (by omega) _
      have ec : cnt (std b) 180 = cnt (std b) (30 * of) := cnt_tail _ (by omega) ez
      simp (disch := omega) only [↓mI_e, lit, ofN, bsm, nI_add, pk_mul, pk_sub, nI_e, nI_leE, nI_ltE, nI_mI, mI_nI, mI_lt, nlt_mI, mI_le, nle_mI, nI_addm, sh_b, bI_0, bI_1, bI_bI, ckZ_b, ckZ_n0, ckZ_n1, stIe, stJe, stZ_n0, stZ_n1, rm_nI, dv_nI, if_true, if_false, if_pos, if_neg, rf0, rf1, rf5, rf6, rf7, rf8, rf9, rf20, rf23, rf24, rf25, rf26, rf29, rf31, rf33, rf34, rf35, rf37, rf38, rf41, rf42, rf43,  w_0 hw, w_1 hw, w_2 hw, w_3 hw, w_4 hw, w_5 hw, w_6 hw, w_7 hw, w_8 hw, ws_0 hw, ws_1 hw, ws_2 hw, ws_3 hw, ws_4 hw, ws_5 hw, wd_0 hw, wd_1 hw, wd_2 hw, wd_3 hw, wd_4 hw, wd_5 hw, wh_0 hw, wh_1 hw, wq_0 hw, wq_1 hw, wt_0 hw, wt_1 hw, lw2 hw, lw4 hw, lw6 hw, lw7 hw, lw9 hw, lw10 hw, lw11 hw, lw12 hw, lw13 hw, lw14 hw, lw16 hw, lw17 hw, lw19 hw, lw20 hw, lw21 hw, lw23 hw, lw24 hw, lw25 hw, lw26 hw, lw27 hw, lw3 hw, lw5 hw, sw2 hw, sw4 hw, sw6 hw, sw7 hw, sw9 hw, sw10 hw, sw11 hw, sw12 hw, sw13 hw, sw14 hw, sw16 hw, sw17 hw, sw19 hw, sw20 hw, sw21 hw, sw23 hw, sw24 hw, sw25 hw, sw26 hw, sw27 hw, e6]
      refine ⟨gA σ r, by rw [sA_self, ec], fun d hd hp => ?_, hR⟩
      by_cases g : d < 30 * of
      · exact hD d g hp
      · rw [ez d (by omega) hd] at hp; exact absurd hp (by decide)
    · have hcl := cnt_le (std b) (30 * of)
      have hbo := hB of (by omega)
      obtain ⟨R, q1, q2, q3⟩ := c_valuesIn_in hw hK hy hL hLl hfr (of := of) (by omega) hrw hb V c (nI i0) (k_X10_valuesIn_6 n) R0 F 0 σ (by omega) (by omega) hV hD hR
      obtain ⟨R', q4, q5, q6⟩ := ih (of + 1) (sA σ r R) (by omega) (by omega) e6 (by rw [gA_sA, if_neg (by omega)]; exact hV) (fun k hk => by rw [gA_sA, if_neg (fun z => hrc z.symm)]; exact hB k hk) (by rw [gA_sA, if_pos rfl]; exact q2) (by rw [gA_sA, if_pos rfl]; exact q3)
      rw [Nat.add_zero] at q1
      simp (disch := omega) only [↓mI_e, lit, ofN, bsm, nI_add, pk_mul, pk_sub, nI_e, nI_leE, nI_ltE, nI_mI, mI_nI, mI_lt, nlt_mI, mI_le, nle_mI, nI_addm, sh_b, bI_0, bI_1, bI_bI, ckZ_b, ckZ_n0, ckZ_n1, stIe, stJe, stZ_n0, stZ_n1, rm_nI, dv_nI, if_true, if_false, if_pos, if_neg, rf0, rf1, rf5, rf6, rf7, rf8, rf9, rf20, rf23, rf24, rf25, rf26, rf29, rf31, rf33, rf34, rf35, rf37, rf38, rf41, rf42, rf43,  w_0 hw, w_1 hw, w_2 hw, w_3 hw, w_4 hw, w_5 hw, w_6 hw, w_7 hw, w_8 hw, ws_0 hw, ws_1 hw, ws_2 hw, ws_3 hw, ws_4 hw, ws_5 hw, wd_0 hw, wd_1 hw, wd_2 hw, wd_3 hw, wd_4 hw, wd_5 hw, wh_0 hw, wh_1 hw, wq_0 hw, wq_1 hw, wt_0 hw, wt_1 hw, lw2 hw, lw4 hw, lw6 hw, lw7 hw, lw9 hw, lw10 hw, lw11 hw, lw12 hw, lw13 hw, lw14 hw, lw16 hw, lw17 hw, lw19 hw, lw20 hw, lw21 hw, lw23 hw, lw24 hw, lw25 hw, lw26 hw, lw27 hw, lw3 hw, lw5 hw, sw2 hw, sw4 hw, sw6 hw, sw7 hw, sw9 hw, sw10 hw, sw11 hw, sw12 hw, sw13 hw, sw14 hw, sw16 hw, sw17 hw, sw19 hw, sw20 hw, sw21 hw, sw23 hw, sw24 hw, sw25 hw, sw26 hw, sw27 hw, e6, f_X0_bitsOf, hc.1, lc1 hc, hbo, q1, q4, sA_sA]
      exact ⟨R', rfl, q5, q6⟩
theorem c_valuesIn {w : Nat} (hw : isW w) {σ : ST} {f : Nat → Int32} (h : RS (wv σ w) f) {y : Nat} (hy : y < 6) {r L fr : Nat} (hL : LC.2.2.1 r = L) (hLl : L < 100000) (hfr : fr + 180 ≤ L) (hrw : r < w ∨ w + 28 ≤ r) {b : Nat → Int32} (hb : ∀ k, ∀ j, 30 ≤ j → bt (b k) j = false) (hb0 : ∀ k, KN f ≤ k → k < 6 → ∀ j, bt (b k) j = false) {c M i0 : Nat} (hc : isC c M) (hi0 : i0 * 6 + 6 ≤ M) (hrc : r ≠ c + 1) (hB : ∀ k, k < 6 → gA σ (c + 1) (i0 * 6 + k) = b k) : ∃ R, f_X10_valuesIn w c (nI i0) (nI y) r (nI fr) σ = some (nI (cnt (std b) 180), sA σ r R) ∧ DL (std b) 180 R fr (fun e => gA σ (w + 27) (y * 180 + e)) ∧ ∀ j, j < fr ∨ fr + 180 ≤ j → R j = gA σ r j := by
  have hK := h.1.1
  have e6 : gI σ (w + 1) 6 = nI (KN f) := h.2.1.1.trans (eK f)
  have h1 := c_valuesIn_out hw hK hy hL hLl hfr hrw hb hb0 hc hi0 hrc (gA σ (w + 27)) (gA σ r) FU 0 σ (by omega) (by unfold FU; omega) e6 rfl hB (fun d hd => by omega) (fun _ _ => rfl)
  exact h1
