/-! NIGHTS: the reference -/
def lv (l k : Nat) : Nat := 29200 + 72 * l + 12 * k
def LvR (B : Nat) (f : Nat → Int32) (y : Nat) (T : Nat → Int32) (l : Nat) (F : Nat → Int32) : Prop := ∀ k, k < KN f → TI (sm f y) B (fun k => gv f k y) (sh F (lv l k)) ∧ IsJ (sm f y) (SM f (T k)) (thS f y) (sh F (lv l k))
theorem LvR_c {B : Nat} {f : Nat → Int32} {y : Nat} {T : Nat → Int32} {l : Nat} {F F' : Nat → Int32} (hK : KN f ≤ 6) (h : LvR B f y T l F) (e : ∀ j, 29200 + 72 * l ≤ j → j < 29200 + 72 * (l + 1) → F' j = F j) : LvR B f y T l F' := by
  intro k hk
  have h1 := h k hk
  have e1 : ∀ i, i < 12 → sh F' (lv l k) i = sh F (lv l k) i := fun i hi => by unfold sh lv; exact e _ (by omega) (by omega)
  exact ⟨TI_congr e1 (fun _ _ => rfl) h1.1, IsJ_congr h1.2 e1⟩
theorem lk_eqJ {B : Nat} {f : Nat → Int32} {y : Nat} {T : Nat → Int32} {l : Nat} {F : Nat → Int32} (h : LvR B f y T l F) {a b : Nat} (ha : a < KN f) (hb : b < KN f) : lk F (lv l a) (lv l b) 12 = true ↔ eqJ f y (T a) (T b) := by
  have h1 := jn_eq (h a ha).2
  have h2 := jn_eq (h b hb).2
  unfold lk eqJ jS
  rw [decide_eq_true_eq]
  constructor
  · intro z k hk
    rw [h1 k hk, h2 k hk]; exact z k hk
  · intro z k hk
    have := z k hk
    rw [h1 k hk, h2 k hk] at this
    exact this
theorem r_al_15 {B : Nat} {f : Nat → Int32} {y : Nat} {T : Nat → Int32} {l : Nat} (hl : l ≤ 4) (hK : KN f ≤ 6) {P : Int32} (hP : ∀ k, bt P k = isPl f y k) {τ : ST} (h3 : gA τ 1 3 = nI (KN f)) (h : LvR B f y T l (gA τ 1)) : ∀ (n k : Nat) (o : Int32) (b : Bool), k ≤ KN f → KN f - k < n → ((o = mI ∧ b = true ∧ ∀ q, q < k → isPl f y q = false) ∨ ∃ p, p < k ∧ isPl f y p = true ∧ o = nI p ∧ (b = true ↔ ∀ q, q < k → isPl f y q = true → eqJ f y (T p) (T q))) → ∃ c, k_X12_isAlikeOn_15 n 0 (nI l) P o (bI b) (nI k) τ = some (bI c, τ) ∧ (c = true ↔ alT f y T) := by
  have n10 : (nI 1 = nI 0) = False := eq_false (by decide)
  intro n
  induction n with
  | zero => intros; omega
  | succ n ih =>
    intro k o b hk hn hi
    rw [k_X12_isAlikeOn_15]
    by_cases c : KN f ≤ k
    · have : k = KN f := by omega
      subst this
      refine ⟨b, ?_, ?_⟩
      · simp (disch := omega) only [↓mI_e, lit, ofN, bsm, nI_add, pk_mul, pk_sub, nI_e, nI_leE, nI_ltE, nI_mI, mI_nI, mI_lt, nlt_mI, mI_le, nle_mI, nI_addm, sh_b, bI_0, bI_1, bI_bI, ckZ_b, ckZ_n0, ckZ_n1, stIe, stJe, stZ_n0, stZ_n1, rm_nI, dv_nI, if_true, if_false, if_pos, if_neg, rf0, rf1, rf5, rf6, rf7, rf8, rf9, rf20, rf23, rf24, rf25, rf26, rf29, rf31, rf33, rf34, rf35, rf37, rf38, rf41, rf42, rf43,  lr1, h3]
      · rcases hi with ⟨_, h1, h2⟩ | ⟨p, p1, p2, _, p4⟩
        · exact ⟨fun _ p q hp => by rw [h2 p (pl_lt hp)] at hp; exact absurd hp (by decide), fun _ => h1⟩
        · rw [p4]
          constructor
          · intro z a b ha hb k hk
            rw [← z a (pl_lt ha) ha k hk, z b (pl_lt hb) hb k hk]
          · intro z q _ hq; exact z p q p2 hq
    · have eb := hP k
      cases cp : isPl f y k
      · rw [cp] at eb
        obtain ⟨r, r1, r2⟩ := ih (k + 1) o b (by omega) (by omega) (by
          rcases hi with ⟨h1, h2, h4⟩ | ⟨p, p1, p2, p3, p4⟩
          · refine Or.inl ⟨h1, h2, fun q hq => ?_⟩
            by_cases e : q = k
            · rw [e]; exact cp
            · exact h4 q (by omega)
          · refine Or.inr ⟨p, by omega, p2, p3, p4.trans ⟨fun z q hq hq2 => ?_, fun z q hq => z q (by omega)⟩⟩
            by_cases e : q = k
            · rw [e, cp] at hq2; exact absurd hq2 (by decide)
            · exact z q (by omega) hq2)
        refine ⟨r, ?_, r2⟩
        simp (disch := omega) only [↓mI_e, lit, ofN, bsm, nI_add, pk_mul, pk_sub, nI_e, nI_leE, nI_ltE, nI_mI, mI_nI, mI_lt, nlt_mI, mI_le, nle_mI, nI_addm, sh_b, bI_0, bI_1, bI_bI, ckZ_b, ckZ_n0, ckZ_n1, stIe, stJe, stZ_n0, stZ_n1, rm_nI, dv_nI, if_true, if_false, if_pos, if_neg, rf0, rf1, rf5, rf6, rf7, rf8, rf9, rf20, rf23, rf24, rf25, rf26, rf29, rf31, rf33, rf34, rf35, rf37, rf38, rf41, rf42, rf43,  lr1, h3, c, eb, k_X12_isAlikeOn_95]
        exact r1
      · rw [cp] at eb
        have go : ∀ p, p ≤ k → isPl f y p = true → (b = true ↔ ∀ q, q < k → isPl f y q = true → eqJ f y (T p) (T q)) → ∃ c, k_X12_isAlikeOn_48 (k_X12_isAlikeOn_15 n) 0 (nI l) P (nI p) (bI b) (nI k) τ = some (bI c, τ) ∧ (c = true ↔ alT f y T) := fun p hp hpl hb => by
          have hlk := r_areLike (a := lv l p) (b := lv l k) (by unfold lv; omega) (by unfold lv; omega) τ
          have hle := lk_eqJ h (a := p) (b := k) (by omega) (by omega)
          have e1 : 29200 + 72 * l + 12 * p = lv l p := rfl
          have e2 : 29200 + 72 * l + 12 * k = lv l k := rfl
          have nx : ∀ d : Bool, (d = true ↔ ∀ q, q < k + 1 → isPl f y q = true → eqJ f y (T p) (T q)) → ∃ c, k_X12_isAlikeOn_15 n 0 (nI l) P (nI p) (bI d) (nI (k + 1)) τ = some (bI c, τ) ∧ (c = true ↔ alT f y T) := fun d hd => ih (k + 1) (nI p) d (by omega) (by omega) (Or.inr ⟨p, by omega, hpl, rfl, hd⟩)
          cases b
          · have h5 := nx false ⟨fun z => absurd z (by decide), fun z => hb.mpr (fun q hq => z q (by omega))⟩
            rw [bI_f] at h5
            simp (disch := omega) only [↓mI_e, lit, ofN, bsm, nI_add, pk_mul, pk_sub, nI_e, nI_leE, nI_ltE, nI_mI, mI_nI, mI_lt, nlt_mI, mI_le, nle_mI, nI_addm, sh_b, bI_0, bI_1, bI_bI, ckZ_b, ckZ_n0, ckZ_n1, stIe, stJe, stZ_n0, stZ_n1, rm_nI, dv_nI, if_true, if_false, if_pos, if_neg, rf0, rf1, rf5, rf6, rf7, rf8, rf9, rf20, rf23, rf24, rf25, rf26, rf29, rf31, rf33, rf34, rf35, rf37, rf38, rf41, rf42, rf43,  k_X12_isAlikeOn_48, bI_f, k_X12_isAlikeOn_92, k_X12_isAlikeOn_93, k_X12_isAlikeOn_95]
            exact h5
          · cases cl : lk (gA τ 1) (lv l p) (lv l k) 12
            · rw [cl] at hlk
              have h5 := nx false ⟨fun z => absurd z (by decide), fun z => absurd (hle.mpr (z k (by omega) cp)) (by rw [cl]; decide)⟩
              rw [bI_f] at h5
              simp (disch := omega) only [↓mI_e, lit, ofN, bsm, nI_add, pk_mul, pk_sub, nI_e, nI_leE, nI_ltE, nI_mI, mI_nI, mI_lt, nlt_mI, mI_le, nle_mI, nI_addm, sh_b, bI_0, bI_1, bI_bI, ckZ_b, ckZ_n0, ckZ_n1, stIe, stJe, stZ_n0, stZ_n1, rm_nI, dv_nI, if_true, if_false, if_pos, if_neg, rf0, rf1, rf5, rf6, rf7, rf8, rf9, rf20, rf23, rf24, rf25, rf26, rf29, rf31, rf33, rf34, rf35, rf37, rf38, rf41, rf42, rf43,  k_X12_isAlikeOn_48, bI_t, n10, e1, e2, hlk, bI_f, k_X12_isAlikeOn_92, k_X12_isAlikeOn_93, k_X12_isAlikeOn_95]
              exact h5
            · rw [cl] at hlk
              have h5 := nx true ⟨fun _ q hq hq2 => by
                by_cases e : q = k
                · rw [e]; exact hle.mp cl
                · exact hb.mp rfl q (by omega) hq2, fun _ => rfl⟩
              rw [bI_t] at h5
              simp (disch := omega) only [↓mI_e, lit, ofN, bsm, nI_add, pk_mul, pk_sub, nI_e, nI_leE, nI_ltE, nI_mI, mI_nI, mI_lt, nlt_mI, mI_le, nle_mI, nI_addm, sh_b, bI_0, bI_1, bI_bI, ckZ_b, ckZ_n0, ckZ_n1, stIe, stJe, stZ_n0, stZ_n1, rm_nI, dv_nI, if_true, if_false, if_pos, if_neg, rf0, rf1, rf5, rf6, rf7, rf8, rf9, rf20, rf23, rf24, rf25, rf26, rf29, rf31, rf33, rf34, rf35, rf37, rf38, rf41, rf42, rf43,  k_X12_isAlikeOn_48, bI_t, n10, e1, e2, hlk, k_X12_isAlikeOn_93, k_X12_isAlikeOn_95]
              exact h5
        rcases hi with ⟨h1, h2, h4⟩ | ⟨p, p1, p2, p3, p4⟩
        · have h5 := go k (Nat.le_refl _) cp ⟨fun _ q hq hq2 => by rw [h4 q hq] at hq2; exact absurd hq2 (by decide), fun _ => h2⟩
          have mm : (mI = mI) = True := eq_true rfl
          simp (disch := omega) only [↓mI_e, lit, ofN, bsm, nI_add, pk_mul, pk_sub, nI_e, nI_leE, nI_ltE, nI_mI, mI_nI, mI_lt, nlt_mI, mI_le, nle_mI, nI_addm, sh_b, bI_0, bI_1, bI_bI, ckZ_b, ckZ_n0, ckZ_n1, stIe, stJe, stZ_n0, stZ_n1, rm_nI, dv_nI, if_true, if_false, if_pos, if_neg, rf0, rf1, rf5, rf6, rf7, rf8, rf9, rf20, rf23, rf24, rf25, rf26, rf29, rf31, rf33, rf34, rf35, rf37, rf38, rf41, rf42, rf43,  lr1, h3, c, eb, Bool.true_eq_false, h1, mm]
          exact h5
        · have h5 := go p (by omega) p2 p4
          simp (disch := omega) only [↓mI_e, lit, ofN, bsm, nI_add, pk_mul, pk_sub, nI_e, nI_leE, nI_ltE, nI_mI, mI_nI, mI_lt, nlt_mI, mI_le, nle_mI, nI_addm, sh_b, bI_0, bI_1, bI_bI, ckZ_b, ckZ_n0, ckZ_n1, stIe, stJe, stZ_n0, stZ_n1, rm_nI, dv_nI, if_true, if_false, if_pos, if_neg, rf0, rf1, rf5, rf6, rf7, rf8, rf9, rf20, rf23, rf24, rf25, rf26, rf29, rf31, rf33, rf34, rf35, rf37, rf38, rf41, rf42, rf43,  lr1, h3, c, eb, Bool.true_eq_false, p3]
          exact h5
/-- nothing below the levels has changed -/
def Lo (f : Nat → Int32) (F : Nat → Int32) : Prop := ∀ j, j < 29200 → F j = f j
theorem Lo.hd {f F : Nat → Int32} (h : Lo f F) : Hd f F := fun k hk => h k (by omega)
theorem r_alikeOn {B : Nat} {f : Nat → Int32} (hWf : WFs f) {y : Nat} (hy : y < YN f) {T : Nat → Int32} {l : Nat} (hl : l ≤ 4) {τ : ST} (hlo : Lo f (gA τ 1)) (h : LvR B f y T l (gA τ 1)) : ∃ c g, f_X12_isAlikeOn 0 (nI l) (nI y) τ = some (bI c, sA τ 9 g) ∧ (c = true ↔ alT f y T) := by
  have hK := hWf.1
  have hY := hWf.2.1
  have hh := hlo.hd
  obtain ⟨p, g9, p1, p2, _⟩ := r_placesOf (τ := τ) (y := y) (hh.wf hWf) (by rw [hh.Y]; exact hy)
  have hP : ∀ k, bt p k = isPl f y k := fun k => by rw [p2, hh.pl hK (by omega)]
  obtain ⟨c, c1, c2⟩ := r_al_15 hl hK hP (τ := sA τ 9 g9) (by show gA τ 1 3 = _; rw [hlo 3 (by omega)]; exact eK f) h FU 0 mI true (by omega) (by unfold FU; omega) (Or.inl ⟨rfl, rfl, fun q hq => by omega⟩)
  refine ⟨c, g9, ?_, c2⟩
  simp (disch := omega) only [↓mI_e, lit, ofN, bsm, nI_add, pk_mul, pk_sub, nI_e, nI_leE, nI_ltE, nI_mI, mI_nI, mI_lt, nlt_mI, mI_le, nle_mI, nI_addm, sh_b, bI_0, bI_1, bI_bI, ckZ_b, ckZ_n0, ckZ_n1, stIe, stJe, stZ_n0, stZ_n1, rm_nI, dv_nI, if_true, if_false, if_pos, if_neg, rf0, rf1, rf5, rf6, rf7, rf8, rf9, rf20, rf23, rf24, rf25, rf26, rf29, rf31, rf33, rf34, rf35, rf37, rf38, rf41, rf42, rf43,  f_X12_isAlikeOn, p1]
  exact c1
/-! one level copied -/
def cpV (F0 : Nat → Int32) (b k : Nat) : Nat → Int32 := fun j => if b + 72 ≤ j ∧ j < b + 72 + k then F0 (j - 72) else F0 j
theorem r_dn_66 {l y M : Nat} (hl : l ≤ 3) (F0 : Nat → Int32) (rec20 : Nat → Int32 → Int32 → Int32 → ST → Option (Int32 × ST)) : ∀ (n k : Nat) (τ : ST), k ≤ 72 → 72 - k < n → gA τ 1 = cpV F0 (29200 + 72 * l) k → k_X12_doNights_66 rec20 n 0 (nI y) (nI M) (nI l) (nI (29200 + 72 * l)) (nI k) τ = k_X12_doNights_66 rec20 1 0 (nI y) (nI M) (nI l) (nI (29200 + 72 * l)) (nI 72) (sA τ 1 (cpV F0 (29200 + 72 * l) 72)) := by
  intro n
  induction n with
  | zero => intros; omega
  | succ n ih =>
    intro k τ hk hn hg
    by_cases c : 72 ≤ k
    · have : k = 72 := by omega
      subst this
      rw [← hg, sA_self]
      rw [k_X12_doNights_66, k_X12_doNights_66]
      simp (disch := omega) only [↓mI_e, lit, ofN, bsm, nI_add, pk_mul, pk_sub, nI_e, nI_leE, nI_ltE, nI_mI, mI_nI, mI_lt, nlt_mI, mI_le, nle_mI, nI_addm, sh_b, bI_0, bI_1, bI_bI, ckZ_b, ckZ_n0, ckZ_n1, stIe, stJe, stZ_n0, stZ_n1, rm_nI, dv_nI, if_true, if_false, if_pos, if_neg, rf0, rf1, rf5, rf6, rf7, rf8, rf9, rf20, rf23, rf24, rf25, rf26, rf29, rf31, rf33, rf34, rf35, rf37, rf38, rf41, rf42, rf43, ]
    · rw [k_X12_doNights_66]
      simp (disch := omega) only [↓mI_e, lit, ofN, bsm, nI_add, pk_mul, pk_sub, nI_e, nI_leE, nI_ltE, nI_mI, mI_nI, mI_lt, nlt_mI, mI_le, nle_mI, nI_addm, sh_b, bI_0, bI_1, bI_bI, ckZ_b, ckZ_n0, ckZ_n1, stIe, stJe, stZ_n0, stZ_n1, rm_nI, dv_nI, if_true, if_false, if_pos, if_neg, rf0, rf1, rf5, rf6, rf7, rf8, rf9, rf20, rf23, rf24, rf25, rf26, rf29, rf31, rf33, rf34, rf35, rf37, rf38, rf41, rf42, rf43,  c, lr1, sr1]
      have e1 : upd (gA τ 1) (29200 + 72 * l + 72 + k) (gA τ 1 (29200 + 72 * l + k)) = cpV F0 (29200 + 72 * l) (k + 1) := by
        rw [hg]
        funext j
        unfold cpV
        rw [upd_at]
        by_cases e : j = 29200 + 72 * l + 72 + k
        · subst e
          rw [if_pos rfl, if_neg (by omega), if_pos (by omega)]
          exact congrArg F0 (by omega)
        · rw [if_neg e]
          by_cases e2 : 29200 + 72 * l + 72 ≤ j ∧ j < 29200 + 72 * l + 72 + k
          · rw [if_pos e2, if_pos (by omega)]
          · rw [if_neg e2, if_neg (by omega)]
      rw [e1, ih (k + 1) (sA τ 1 (cpV F0 (29200 + 72 * l) (k + 1))) (by omega) (by omega) (by rw [gA_sA, if_pos rfl]), sA_sA]
/-- a night on the next level -/
theorem LvR_night {B : Nat} (hB : B < 2 ^ 31) {f : Nat → Int32} {y : Nat} (hg : ∀ k, k < 6 → gv f k y ≤ 30) (hK : KN f ≤ 6) {T : Nat → Int32} {l a b : Nat} {F0 : Nat → Int32} (h : LvR B f y T l F0) (ha : a < KN f) (hb : b < KN f) (hab : a ≠ b) {F1 F2 F3 : Nat → Int32} (e1 : F1 = cpV F0 (29200 + 72 * l) 72) (e2 : F2 = put12 F1 (lv (l + 1) a) (jT (sm f y) (sh F1 (lv (l + 1) a)) (sh F1 (lv (l + 1) b)))) (e3 : F3 = put12 F2 (lv (l + 1) b) (sh F2 (lv (l + 1) a))) : LvR B f y (nt T a b) (l + 1) F3 ∧ ∀ j, j < 29200 + 72 * (l + 1) → F3 j = F0 j := by
  have f1 : ∀ k i, k < 6 → i < 12 → F1 (lv (l + 1) k + i) = F0 (lv l k + i) := fun k i hk hi => by
    rw [e1]
    unfold cpV lv
    rw [if_pos (by omega)]
    exact congrArg F0 (by omega)
  have hj : ∀ i, i < 12 → jT (sm f y) (sh F1 (lv (l + 1) a)) (sh F1 (lv (l + 1) b)) i = jT (sm f y) (sh F0 (lv l a)) (sh F0 (lv l b)) i := fun i hi => jT_congr (fun k hk => f1 a k (by omega) hk) (fun k hk => f1 b k (by omega) hk) hi
  obtain ⟨ta, ja⟩ := h a ha
  obtain ⟨tb', jb'⟩ := h b hb
  have tj := TI_join hB hg ta tb'
  have jj := IsJ_set (S' := SM f (T a ||| T b)) (IsJ_join hB hg ja jb' ta tb') (fun p => by
    unfold SM
    rw [bt_or, Bool.or_eq_true]
    constructor
    · intro ⟨z1, z2⟩
      rcases z2 with z2 | z2
      · exact Or.inl ⟨z1, z2⟩
      · exact Or.inr ⟨z1, z2⟩
    · intro z
      rcases z with z | z
      · exact ⟨z.1, Or.inl z.2⟩
      · exact ⟨z.1, Or.inr z.2⟩)
  have f2a : ∀ i, i < 12 → F2 (lv (l + 1) a + i) = jT (sm f y) (sh F0 (lv l a)) (sh F0 (lv l b)) i := fun i hi => by rw [e2, put12_in hi, hj i hi]
  refine ⟨fun k hk => ?_, fun j hj2 => ?_⟩
  · have go : ∀ t : Nat → Int32, (∀ i, i < 12 → sh F3 (lv (l + 1) k) i = t i) → TI (sm f y) B (fun k => gv f k y) t ∧ IsJ (sm f y) (SM f (nt T a b k)) (thS f y) t → TI (sm f y) B (fun k => gv f k y) (sh F3 (lv (l + 1) k)) ∧ IsJ (sm f y) (SM f (nt T a b k)) (thS f y) (sh F3 (lv (l + 1) k)) := fun t ht hh => ⟨TI_congr ht (fun _ _ => rfl) hh.1, IsJ_congr hh.2 ht⟩
    by_cases kb : k = b
    · subst kb
      refine go (jT (sm f y) (sh F0 (lv l a)) (sh F0 (lv l k))) (fun i hi => ?_) ⟨tj, ?_⟩
      · unfold sh
        rw [e3, put12_in hi]
        exact f2a i hi
      · unfold nt; rw [if_pos (Or.inr rfl)]; exact jj
    · by_cases ka' : k = a
      · subst ka'
        refine go (jT (sm f y) (sh F0 (lv l k)) (sh F0 (lv l b))) (fun i hi => ?_) ⟨tj, ?_⟩
        · unfold sh
          rw [e3, put12_out (by unfold lv; omega)]
          exact f2a i hi
        · unfold nt; rw [if_pos (Or.inl rfl)]; exact jj
      · refine go (sh F0 (lv l k)) (fun i hi => ?_) ?_
        · unfold sh
          rw [e3, put12_out (by unfold lv; omega), e2, put12_out (by unfold lv; omega)]
          exact f1 k i (by omega) hi
        · unfold nt; rw [if_neg (fun z => by rcases z with z | z <;> contradiction)]; exact h k hk
  · rw [e3, put12_out (by unfold lv; omega), e2, put12_out (by unfold lv; omega), e1]
    unfold cpV
    rw [if_neg (by omega)]
/-! the search -/
def trv (t : Nat) : Int32 := if t = 0 then mI else nI (t - 1)
theorem trv_1 (t : Nat) : trv t + nI 1 = nI t := by
  unfold trv
  by_cases h : t = 0
  · rw [if_pos h, h]; rfl
  · rw [if_neg h, nI_add]; exact congrArg nI (by omega)
theorem trv_s (t : Nat) : trv (t + 1) = nI t := by unfold trv; rw [if_neg (by omega)]; rfl
def cst : Nat → Nat
  | 0 => 0
  | n + 1 => 15 * (1 + cst n) + 1
/-- pairs that lie ready -/
def PrR (f : Nat → Int32) (y np : Nat) (pa pb : Nat → Nat) : Prop := np ≤ 15 ∧ (∀ j, j < np → pa j < pb j ∧ pb j < KN f ∧ prN f y (pa j) (pb j) = true) ∧ ∀ a b, a < b → b < KN f → prN f y a b = true → ∃ j, j < np ∧ pa j = a ∧ pb j = b
def NB (f : Nat → Int32) (np : Nat) (pa pb : Nat → Nat) (τ0 τ : ST) : Prop := Lo f (gA τ 1) ∧ gI τ 0 36 = nI np ∧ (∀ j, j < np → gA τ 15 j = nI (pa j) ∧ gA τ 16 j = nI (pb j)) ∧ Sc [] τ0 τ
theorem ExN_pr {f : Nat → Int32} {y np : Nat} {pa pb : Nat → Nat} (h : PrR f y np pa pb) (n : Nat) (T : Nat → Int32) : ExN f y (n + 1) T ↔ ∃ j, 0 ≤ j ∧ j < np ∧ ExN f y n (nt T (pa j) (pb j)) := by
  constructor
  · intro ⟨a, b, h1, h2, h3, h4⟩
    obtain ⟨j, j1, j2, j3⟩ := h.2.2 a b h1 h2 h3
    exact ⟨j, Nat.zero_le _, j1, by rw [j2, j3]; exact h4⟩
  · intro ⟨j, _, j1, j2⟩
    obtain ⟨q1, q2, q3⟩ := h.2.1 j j1
    exact ⟨pa j, pb j, q1, q2, q3, j2⟩
theorem r_dn_one {B : Nat} (hB : B < 2 ^ 31) {f : Nat → Int32} (hWf : WFs f) {y M np : Nat} (hy : y < YN f) (hg : ∀ k, k < 6 → gv f k y ≤ 30) (hM : M ≤ 4) {pa pb : Nat → Nat} (hpr : PrR f y np pa pb) {τ0 τ : ST} {l t : Nat} (hl : l + 1 ≤ M) (ht : t < np) {T : Nat → Int32} (hnb : NB f np pa pb τ0 τ) (hlv : LvR B f y T l (gA τ 1)) (h17 : gA τ 17 l = trv t) (N1 : Nat) : ∃ F3, LvR B f y (nt T (pa t) (pb t)) (l + 1) F3 ∧ (∀ j, j < 29200 + 72 * (l + 1) → F3 j = gA τ 1 j) ∧ k_X12_doNights_20 (N1 + 1) 0 (nI y) (nI M) (nI l) τ = if l + 1 = M then ((f_X12_isAlikeOn 0 (nI M) (nI y) (sA (sA τ 17 (upd (gA τ 17) l (nI t))) 1 F3)).bind fun u10 => if u10.1 = nI 0 then k_X12_doNights_20 N1 0 (nI y) (nI M) (nI l) u10.2 else some (nI 1, u10.2)) else k_X12_doNights_20 N1 0 (nI y) (nI M) (nI (l + 1)) (sA (sA (sA τ 17 (upd (gA τ 17) l (nI t))) 1 F3) 17 (upd (upd (gA τ 17) l (nI t)) (l + 1) mI)) := by
  have hK := hWf.1
  have hY := hWf.2.1
  have hnp := hpr.1
  obtain ⟨q1, q2, q3⟩ := hpr.2.1 t ht
  obtain ⟨h15, h16⟩ := hnb.2.2.1 t ht
  have e36 : gI (sA τ 17 (upd (gA τ 17) l (nI t))) 0 36 = nI np := hnb.2.1
  have e17 : gA (sA τ 17 (upd (gA τ 17) l (nI t))) 17 l = nI t := by rw [gA_sA, if_pos rfl, upd_at, if_pos rfl]
  have hne : ¬ t = np := by omega
  obtain ⟨F, hF, hF2⟩ : ∃ F, FU = F ∧ 5000 < F := ⟨FU, rfl, by unfold FU; omega⟩
  have h66 := r_dn_66 (y := y) (M := M) (show l ≤ 3 by omega) (gA τ 1) (k_X12_doNights_20 N1) FU 0 (sA τ 17 (upd (gA τ 17) l (nI t))) (by omega) (by unfold FU; omega) (by
    rw [gA_sA, if_neg (by decide)]
    funext j
    unfold cpV
    rw [if_neg (by omega)])
  obtain ⟨τa, hτa⟩ : ∃ τa, τa = sA (sA τ 17 (upd (gA τ 17) l (nI t))) 1 (cpV (gA τ 1) (29200 + 72 * l) 72) := ⟨_, rfl⟩
  rw [← hτa, hF] at h66
  have g1 : gA τa 1 = cpV (gA τ 1) (29200 + 72 * l) 72 := by rw [hτa, gA_sA, if_pos rfl]
  have g17 : gA τa 17 = upd (gA τ 17) l (nI t) := by rw [hτa, gA_sA, if_neg (by decide), gA_sA, if_pos rfl]
  have g17l : gA τa 17 l = nI t := by rw [g17, upd_at, if_pos rfl]
  have g15 : gA τa 15 t = nI (pa t) := by rw [hτa, gA_sA, if_neg (by decide), gA_sA, if_neg (by decide)]; exact h15
  have g16 : gA τa 16 t = nI (pb t) := by rw [hτa, gA_sA, if_neg (by decide), gA_sA, if_neg (by decide)]; exact h16
  have lo1 : ∀ j, j < 29200 → gA τa 1 j = f j := fun j hj => by
    rw [g1]
    unfold cpV
    rw [if_neg (by omega)]
    exact hnb.1 j hj
  have es : sm (gA τa 1) y = sm f y := by unfold sm; rw [lo1 _ (by omega)]
  have hjn := r_joins (to := lv (l + 1) (pa t)) (fr := lv (l + 1) (pb t)) (y := y) (by unfold lv; omega) (by unfold lv; omega) (by unfold lv; omega) (by unfold lv; omega) (by omega) (by unfold lv; omega) τa
  rw [es] at hjn
  obtain ⟨F2, hF2⟩ : ∃ F2, F2 = put12 (gA τa 1) (lv (l + 1) (pa t)) (jT (sm f y) (sh (gA τa 1) (lv (l + 1) (pa t))) (sh (gA τa 1) (lv (l + 1) (pb t)))) := ⟨_, rfl⟩
  rw [← hF2] at hjn
  have hcp := r_copy (to := lv (l + 1) (pb t)) (fr := lv (l + 1) (pa t)) (by unfold lv; omega) (by unfold lv; omega) (by unfold lv; omega) (sA τa 1 F2)
  rw [gA_sA, if_pos rfl, sA_sA] at hcp
  obtain ⟨F3, hF3⟩ : ∃ F3, F3 = put12 F2 (lv (l + 1) (pb t)) (sh F2 (lv (l + 1) (pa t))) := ⟨_, rfl⟩
  rw [← hF3] at hcp
  obtain ⟨z1, z2⟩ := LvR_night hB hg hK hlv (show pa t < KN f by omega) q2 (by omega) g1 hF2 hF3
  refine ⟨F3, z1, z2, ?_⟩
  have ea : 29200 + 72 * l + 72 + 12 * pa t = lv (l + 1) (pa t) := by unfold lv; omega
  have eb : 29200 + 72 * l + 72 + 12 * pb t = lv (l + 1) (pb t) := by unfold lv; omega
  have ef : sA τa 1 F3 = sA (sA τ 17 (upd (gA τ 17) l (nI t))) 1 F3 := by rw [hτa, sA_sA]
  have g17' : gA (sA (sA τ 17 (upd (gA τ 17) l (nI t))) 1 F3) 17 = upd (gA τ 17) l (nI t) := by rw [gA_sA, if_neg (by decide), gA_sA, if_pos rfl]
  rw [k_X12_doNights_20, hF]
  simp (disch := omega) only [↓mI_e, lit, ofN, bsm, nI_add, pk_mul, pk_sub, nI_e, nI_leE, nI_ltE, nI_mI, mI_nI, mI_lt, nlt_mI, mI_le, nle_mI, nI_addm, sh_b, bI_0, bI_1, bI_bI, ckZ_b, ckZ_n0, ckZ_n1, stIe, stJe, stZ_n0, stZ_n1, rm_nI, dv_nI, if_true, if_false, if_pos, if_neg, rf0, rf1, rf5, rf6, rf7, rf8, rf9, rf20, rf23, rf24, rf25, rf26, rf29, rf31, rf33, rf34, rf35, rf37, rf38, rf41, rf42, rf43,  lr17, h17, trv_1, sr17, e17, e36, hne]
  rw [h66, k_X12_doNights_66]
  by_cases cM : l + 1 = M
  · rw [if_pos cM]
    simp (disch := omega) only [↓mI_e, lit, ofN, bsm, nI_add, pk_mul, pk_sub, nI_e, nI_leE, nI_ltE, nI_mI, mI_nI, mI_lt, nlt_mI, mI_le, nle_mI, nI_addm, sh_b, bI_0, bI_1, bI_bI, ckZ_b, ckZ_n0, ckZ_n1, stIe, stJe, stZ_n0, stZ_n1, rm_nI, dv_nI, if_true, if_false, if_pos, if_neg, rf0, rf1, rf5, rf6, rf7, rf8, rf9, rf20, rf23, rf24, rf25, rf26, rf29, rf31, rf33, rf34, rf35, rf37, rf38, rf41, rf42, rf43,  lr17, g17l, lr15, lr16, g15, g16, ea, eb, hjn, hcp, ef]
  · rw [if_neg cM]
    simp (disch := omega) only [↓mI_e, lit, ofN, bsm, nI_add, pk_mul, pk_sub, nI_e, nI_leE, nI_ltE, nI_mI, mI_nI, mI_lt, nlt_mI, mI_le, nle_mI, nI_addm, sh_b, bI_0, bI_1, bI_bI, ckZ_b, ckZ_n0, ckZ_n1, stIe, stJe, stZ_n0, stZ_n1, rm_nI, dv_nI, if_true, if_false, if_pos, if_neg, rf0, rf1, rf5, rf6, rf7, rf8, rf9, rf20, rf23, rf24, rf25, rf26, rf29, rf31, rf33, rf34, rf35, rf37, rf38, rf41, rf42, rf43,  lr17, g17l, lr15, lr16, g15, g16, ea, eb, hjn, hcp, ef, cM, sr17, g17']
theorem r_dfs {B : Nat} (hB : B < 2 ^ 31) {f : Nat → Int32} (hWf : WFs f) {y M np : Nat} (hy : y < YN f) (hg : ∀ k, k < 6 → gv f k y ≤ 30) (hM : M ≤ 4) {pa pb : Nat → Nat} (hpr : PrR f y np pa pb) (τ0 : ST) : ∀ (n l : Nat), l + (n + 1) = M → ∀ (d t : Nat), t + d = np → ∀ (T : Nat → Int32) (τ : ST), NB f np pa pb τ0 τ → LvR B f y T l (gA τ 1) → gA τ 17 l = trv t → ∀ N, d * (1 + cst n) + 1 < N → ((∃ j, t ≤ j ∧ j < np ∧ ExN f y n (nt T (pa j) (pb j))) ∧ ∃ τ1, k_X12_doNights_20 N 0 (nI y) (nI M) (nI l) τ = some (nI 1, τ1) ∧ NB f np pa pb τ0 τ1) ∨ ((¬ ∃ j, t ≤ j ∧ j < np ∧ ExN f y n (nt T (pa j) (pb j))) ∧ ∃ τ1 N', N ≤ N' + (d * (1 + cst n) + 1) ∧ k_X12_doNights_20 N 0 (nI y) (nI M) (nI l) τ = k_X12_doNights_20 N' 0 (nI y) (nI M) (nI l + mI) τ1 ∧ NB f np pa pb τ0 τ1 ∧ (∀ j, j < 29200 + 72 * (l + 1) → gA τ1 1 j = gA τ 1 j) ∧ ∀ i, i < l → gA τ1 17 i = gA τ 17 i) := by
  have hK := hWf.1
  have hY := hWf.2.1
  have hnp := hpr.1
  have n10 : (nI 1 = nI 0) = False := eq_false (by decide)
  -- at the end of the pairs
  have endd : ∀ (n l t : Nat) (T : Nat → Int32) (τ : ST) (N c : Nat), l + 1 ≤ M → t = np → NB f np pa pb τ0 τ → gA τ 17 l = trv t → 0 * c + 1 < N → ((¬ ∃ j, t ≤ j ∧ j < np ∧ ExN f y n (nt T (pa j) (pb j))) ∧ ∃ τ1 N', N ≤ N' + (0 * c + 1) ∧ k_X12_doNights_20 N 0 (nI y) (nI M) (nI l) τ = k_X12_doNights_20 N' 0 (nI y) (nI M) (nI l + mI) τ1 ∧ NB f np pa pb τ0 τ1 ∧ (∀ j, j < 29200 + 72 * (l + 1) → gA τ1 1 j = gA τ 1 j) ∧ ∀ i, i < l → gA τ1 17 i = gA τ 17 i) := by
    intro n l t T τ N c hl et hnb h17 hN
    refine ⟨fun ⟨j, j1, j2, _⟩ => by omega, sA τ 17 (upd (gA τ 17) l (nI t)), N - 1, by omega, ?_, ⟨hnb.1, hnb.2.1, hnb.2.2.1, hnb.2.2.2.sA _ rfl⟩, fun j _ => rfl, fun i hi => by rw [gA_sA, if_pos rfl, upd_at, if_neg (by omega)]⟩
    obtain ⟨N1, rfl⟩ : ∃ N1, N = N1 + 1 := ⟨N - 1, by omega⟩
    have e36 : gI (sA τ 17 (upd (gA τ 17) l (nI t))) 0 36 = nI t := by rw [et]; exact hnb.2.1
    have e17 : gA (sA τ 17 (upd (gA τ 17) l (nI t))) 17 l = nI t := by rw [gA_sA, if_pos rfl, upd_at, if_pos rfl]
    have hl0 : ¬ nI l < nI 0 := by rw [nI_ltE (by omega) (by omega)]; omega
    have el : nI l + (-1 : Int32) = nI l + mI := rfl
    rw [k_X12_doNights_20, el]
    generalize nI l + mI = q
    simp (disch := omega) only [↓mI_e, lit, ofN, bsm, nI_add, pk_mul, pk_sub, nI_e, nI_leE, nI_ltE, nI_mI, mI_nI, mI_lt, nlt_mI, mI_le, nle_mI, nI_addm, sh_b, bI_0, bI_1, bI_bI, ckZ_b, ckZ_n0, ckZ_n1, stIe, stJe, stZ_n0, stZ_n1, rm_nI, dv_nI, if_true, if_false, if_pos, if_neg, rf0, rf1, rf5, rf6, rf7, rf8, rf9, rf20, rf23, rf24, rf25, rf26, rf29, rf31, rf33, rf34, rf35, rf37, rf38, rf41, rf42, rf43,  lr17, h17, trv_1, sr17, e17, e36, Nat.add_sub_cancel, hl0]
  -- one more pair is of no use
  have nxt : ∀ (n t : Nat) (T : Nat → Int32), ¬ ExN f y n (nt T (pa t) (pb t)) → ((∃ j, t + 1 ≤ j ∧ j < np ∧ ExN f y n (nt T (pa j) (pb j))) ↔ ∃ j, t ≤ j ∧ j < np ∧ ExN f y n (nt T (pa j) (pb j))) := by
    intro n t T hno
    constructor
    · intro ⟨j, j1, j2, j3⟩; exact ⟨j, by omega, j2, j3⟩
    · intro ⟨j, j1, j2, j3⟩
      by_cases e : j = t
      · rw [e] at j3; exact absurd j3 hno
      · exact ⟨j, by omega, j2, j3⟩
  intro n
  induction n with
  | zero =>
    intro l hl d
    induction d with
    | zero =>
      intro t ht T τ hnb hlv h17 N hN
      exact Or.inr (endd 0 l t T τ N (1 + cst 0) (by omega) (by omega) hnb h17 hN)
    | succ d ihd =>
      intro t ht T τ hnb hlv h17 N hN
      rw [Nat.succ_mul] at hN ⊢
      obtain ⟨N1, rfl⟩ : ∃ N1, N = N1 + 1 := ⟨N - 1, by omega⟩
      obtain ⟨F3, z1, z2, z3⟩ := r_dn_one hB hWf hy hg hM hpr (show l + 1 ≤ M by omega) (show t < np by omega) hnb hlv h17 N1
      rw [if_pos (show l + 1 = M by omega)] at z3
      obtain ⟨τb, hτb⟩ : ∃ τb, τb = sA (sA τ 17 (upd (gA τ 17) l (nI t))) 1 F3 := ⟨_, rfl⟩
      rw [← hτb] at z3
      have gb : gA τb 1 = F3 := by rw [hτb, gA_sA, if_pos rfl]
      have lob : Lo f (gA τb 1) := fun j hj => by rw [gb, z2 j (by omega)]; exact hnb.1 j hj
      obtain ⟨c, g9, c1, c2⟩ := r_alikeOn hWf hy (l := M) hM (τ := τb) lob (by rw [gb, ← show l + 1 = M by omega]; exact z1)
      have nbb : NB f np pa pb τ0 (sA τb 9 g9) := by
        refine ⟨lob, by rw [hτb]; exact hnb.2.1, fun j hj => ?_, ?_⟩
        · rw [hτb]; exact hnb.2.2.1 j hj
        · rw [hτb]; exact ((hnb.2.2.2.sA _ rfl).sA _ rfl).sA _ rfl
      rw [c1, bsm] at z3
      have c2' : c = true ↔ ExN f y 0 (nt T (pa t) (pb t)) := c2
      cases c
      · have hno : ¬ ExN f y 0 (nt T (pa t) (pb t)) := fun z => absurd (c2'.mpr z) (by decide)
        rw [if_pos (show bI false = nI 0 from rfl)] at z3
        have h1 := ihd (t + 1) (by omega) T (sA τb 9 g9) nbb (LvR_c hK hlv (fun j j1 j2 => by show gA τb 1 j = _; rw [gb]; exact z2 j j2)) (by
          show gA τb 17 l = _
          rw [hτb, gA_sA, if_neg (by decide), gA_sA, if_pos rfl, upd_at, if_pos rfl, trv_s]) N1 (by omega)
        rw [nxt 0 t T hno] at h1
        rw [z3]
        rcases h1 with ⟨h2, h3⟩ | ⟨h2, τ1, N', h3, h4, h5, h6, h7⟩
        · exact Or.inl ⟨h2, h3⟩
        · refine Or.inr ⟨h2, τ1, N', by omega, h4, h5, fun j hj => ?_, fun i hi => ?_⟩
          · rw [h6 j hj]; show gA τb 1 j = _; rw [gb]; exact z2 j hj
          · rw [h7 i hi]
            show gA τb 17 i = _
            rw [hτb, gA_sA, if_neg (by decide), gA_sA, if_pos rfl, upd_at, if_neg (by omega)]
      · rw [if_neg (show ¬ bI true = nI 0 by decide)] at z3
        exact Or.inl ⟨⟨t, Nat.le_refl _, by omega, c2'.mp rfl⟩, _, z3, nbb⟩
  | succ n ihn =>
    intro l hl d
    induction d with
    | zero =>
      intro t ht T τ hnb hlv h17 N hN
      exact Or.inr (endd (n + 1) l t T τ N (1 + cst (n + 1)) (by omega) (by omega) hnb h17 hN)
    | succ d ihd =>
      intro t ht T τ hnb hlv h17 N hN
      rw [Nat.succ_mul] at hN ⊢
      obtain ⟨N1, rfl⟩ : ∃ N1, N = N1 + 1 := ⟨N - 1, by omega⟩
      obtain ⟨F3, z1, z2, z3⟩ := r_dn_one hB hWf hy hg hM hpr (show l + 1 ≤ M by omega) (show t < np by omega) hnb hlv h17 N1
      rw [if_neg (show ¬ l + 1 = M by omega)] at z3
      obtain ⟨τb, hτb⟩ : ∃ τb, τb = sA (sA (sA τ 17 (upd (gA τ 17) l (nI t))) 1 F3) 17 (upd (upd (gA τ 17) l (nI t)) (l + 1) mI) := ⟨_, rfl⟩
      rw [← hτb] at z3
      have gb : gA τb 1 = F3 := by rw [hτb, gA_sA, if_neg (by decide), gA_sA, if_pos rfl]
      have gb17 : gA τb 17 = upd (upd (gA τ 17) l (nI t)) (l + 1) mI := by rw [hτb, gA_sA, if_pos rfl]
      have nbb : NB f np pa pb τ0 τb := by
        refine ⟨fun j hj => by rw [gb, z2 j (by omega)]; exact hnb.1 j hj, by rw [hτb]; exact hnb.2.1, fun j hj => ?_, ?_⟩
        · rw [hτb]; exact hnb.2.2.1 j hj
        · rw [hτb]; exact ((hnb.2.2.2.sA _ rfl).sA _ rfl).sA _ rfl
      have hc : np * (1 + cst n) + 1 ≤ cst (n + 1) := by
        have : np * (1 + cst n) ≤ 15 * (1 + cst n) := Nat.mul_le_mul_right _ hnp
        rw [cst]; omega
      have h0 := ihn (l + 1) (by omega) np 0 (by omega) (nt T (pa t) (pb t)) τb nbb (by rw [gb]; exact z1) (by rw [gb17, upd_at, if_pos rfl]; rfl) N1 (by omega)
      rw [← ExN_pr hpr n] at h0
      rw [z3]
      rcases h0 with ⟨h2, h3⟩ | ⟨hno, τ1, N', h3, h4, h5, h6, h7⟩
      · exact Or.inl ⟨⟨t, Nat.le_refl _, by omega, h2⟩, h3⟩
      · have el : nI (l + 1) + mI = nI l := by rw [nI_addm (by omega)]; rfl
        rw [el] at h4
        have h1 := ihd (t + 1) (by omega) T τ1 h5 (LvR_c hK hlv (fun j j1 j2 => by rw [h6 j (by omega), gb]; exact z2 j j2)) (by
          rw [h7 l (by omega), gb17, upd_at, if_neg (by omega), upd_at, if_pos rfl, trv_s]) N' (by omega)
        rw [nxt (n + 1) t T hno] at h1
        rw [h4]
        rcases h1 with ⟨h2, h8⟩ | ⟨h2, τ2, N2, g3, g4, g5, g6, g7⟩
        · exact Or.inl ⟨h2, h8⟩
        · refine Or.inr ⟨h2, τ2, N2, by omega, g4, g5, fun j hj => ?_, fun i hi => ?_⟩
          · rw [g6 j hj, h6 j (by omega), gb]; exact z2 j hj
          · rw [g7 i hi, h7 i (by omega), gb17, upd_at, if_neg (by omega), upd_at, if_neg (by omega)]
