/-! GET, done -/
theorem rp_up {f : Nat → Int32} {y a : Nat} (h : bt (f 5) a = false) (m : Nat) : rp f y a m = false := by
  unfold rp rch; rw [h]; simp
theorem r_canGet {y a : Nat} {τ : ST} (hf : WFs (gA τ 1)) (hy : y < YN (gA τ 1)) (ha : a < 6) : ∃ gr G, f_X12_canGet 0 (nI y) (nI a) τ = some (bI (decide (RN (gA τ 1) ≤ cnt (rp (gA τ 1) y a) (pm (gA τ 1)))), sI (sA (sA τ 9 gr) 13 G) 0 30 (nI (cnt (rp (gA τ 1) y a) (pm (gA τ 1))))) ∧ DL (rp (gA τ 1) y a) (pm (gA τ 1)) G 0 (fun i => nI (rw6 (gA τ 1) y i)) ∧ ∀ m, m < KN (gA τ 1) → gr m = nI (rw6 (gA τ 1) y m) := by
  have hK := hf.1
  have hR := hf.2.2.2.1
  have hN := hf.2.2.1
  have hpk := pm_le (f := gA τ 1)
  obtain ⟨gr, h1, h2⟩ := r_laysRow hf hy
  obtain ⟨G, h3, h4⟩ := r_finds_loop hf hy ha FU 0 (sI (sA τ 9 gr) 0 30 (nI 0)) (by omega) (by unfold FU; omega) rfl (fun i hi => by rw [gA_sI, gA_sA, if_pos rfl]; exact h2 i hi) (by rw [gI_sI]; rfl) (fun d hd => by omega)
  have hcl := cnt_le (rp (gA τ 1) y a) (pm (gA τ 1))
  rw [sI_sA, sI_sI] at h3
  refine ⟨gr, G, ?_, h4, h2⟩
  have e1 : gA (sI (sA (sA τ 9 gr) 13 G) 0 30 (nI (cnt (rp (gA τ 1) y a) (pm (gA τ 1))))) 1 = gA τ 1 := rfl
  simp (disch := omega) only [↓mI_e, lit, ofN, bsm, nI_add, pk_mul, pk_sub, nI_e, nI_leE, nI_ltE, nI_mI, mI_nI, mI_lt, nlt_mI, mI_le, nle_mI, nI_addm, sh_b, bI_0, bI_1, bI_bI, ckZ_b, ckZ_n0, ckZ_n1, stIe, stJe, stZ_n0, stZ_n1, rm_nI, dv_nI, if_true, if_false, if_pos, if_neg, rf0, rf1, rf5, rf6, rf7, rf8, rf9, rf20, rf23, rf24, rf25, rf26, rf29, rf31, rf33, rf34, rf35, rf37, rf38, rf41, rf42, rf43,  f_X12_canGet, k_X12_canGet_31, k_X12_canGet_32, f_X12_findsPlaces, h1, h3, r_isUp, lr1, e1, eR (gA τ 1), gI_sI, and_self]
  cases c : bt (gA τ 1 5) a
  · have ez : cnt (rp (gA τ 1) y a) (pm (gA τ 1)) = 0 := by
      rw [cnt_tail (m := 0) _ (by omega) (fun i _ _ => rp_up c i)]; rfl
    rw [ez, decide_eq_false (by omega)]
    rfl
  · simp only [Bool.true_eq_false, if_false]
    by_cases g : cnt (rp (gA τ 1) y a) (pm (gA τ 1)) < RN (gA τ 1)
    · rw [if_pos g, decide_eq_false (by omega)]; rfl
    · rw [if_neg g, decide_eq_true (by omega)]; rfl
/-- the i-th that is asked -/
def aq (f : Nat → Int32) (y a i : Nat) : Nat := ((List.range (pm f)).find? (fun m => rp f y a m && (cnt (rp f y a) m == i))).getD 0
def ap (f : Nat → Int32) (y a i : Nat) : Nat := rw6 f y (aq f y a i)
theorem aq_in {f : Nat → Int32} {y a i : Nat} (h : i < cnt (rp f y a) (pm f)) : aq f y a i < pm f ∧ rp f y a (aq f y a i) = true ∧ cnt (rp f y a) (aq f y a i) = i := by
  unfold aq
  cases q : (List.range (pm f)).find? (fun m => rp f y a m && (cnt (rp f y a) m == i)) with
  | none =>
    rw [List.find?_eq_none] at q
    obtain ⟨d, d1, d2, d3⟩ := cnt_onto _ _ h
    have := q d (List.mem_range.mpr d1)
    rw [d2, d3] at this
    simp at this
  | some m =>
    have h1 := List.find?_some q
    have h2 := List.mem_range.mp (List.mem_of_find?_eq_some q)
    simp at h1
    exact ⟨h2, h1.1, h1.2⟩
theorem ap_lt {f : Nat → Int32} (hf : WFs f) {y a i : Nat} (hy : y < YN f) (h : i < cnt (rp f y a) (pm f)) : ap f y a i < KN f := rw6_lt hf hy (Nat.lt_of_lt_of_le (aq_in h).1 pm_le)
theorem ap_inj {f : Nat → Int32} (hf : WFs f) {y a i j : Nat} (hy : y < YN f) (hi : i < cnt (rp f y a) (pm f)) (hj : j < cnt (rp f y a) (pm f)) (h : ap f y a i = ap f y a j) : i = j := by
  have h1 := aq_in hi
  have h2 := aq_in hj
  have hpk := pm_le (f := f)
  have := rho_inj (wy_dis hf hy) (show aq f y a i < KN f by omega) (show aq f y a j < KN f by omega) h
  rw [← h1.2.2, ← h2.2.2, this]
theorem ask_ap {f : Nat → Int32} (hf : WFs f) {y a p : Nat} (hy : y < YN f) (h : RN f ≤ cnt (rp f y a) (pm f)) : ask f y a p = decide (∃ i, i < RN f ∧ ap f y a i = p) := by
  unfold ask
  refine decide_eq_decide.mpr ⟨fun ⟨m, z1, z2, z3, z4⟩ => ⟨cnt (rp f y a) m, z4, ?_⟩, fun ⟨i, z1, z2⟩ => ?_⟩
  · have h1 := aq_in (f := f) (y := y) (a := a) (i := cnt (rp f y a) m) (by omega)
    have hmp : m < pm f := by
      by_cases g : m < pm f
      · exact g
      · rw [rp_pm hf hy z1 (by omega)] at z3; exact absurd z3 (by decide)
    have : aq f y a (cnt (rp f y a) m) = m := by
      rcases Nat.lt_trichotomy (aq f y a (cnt (rp f y a) m)) m with g | g | g
      · have := cnt_lt2 (p := rp f y a) g h1.2.1; omega
      · exact g
      · have := cnt_lt2 (p := rp f y a) g z3; omega
    unfold ap
    rw [this]; exact z2
  · have h1 := aq_in (f := f) (y := y) (a := a) (i := i) (by omega)
    have hpk := pm_le (f := f)
    exact ⟨aq f y a i, by omega, z2, h1.2.1, by omega⟩
/-- things of some keepers at a key become J -/
def cpS (f : Nat → Int32) (y : Nat) (S : Nat → Bool) (J : Nat → Int32) : Nat → Int32 := fun j => if 30 ≤ j ∧ j < 462 ∧ (j - 30) / 12 % 6 = y ∧ S ((j - 30) / 72) = true then J ((j - 30) % 12) else f j
theorem cpS_step {f : Nat → Int32} {y p : Nat} (hy : y < 6) (hp : p < 6) {S S' : Nat → Bool} {J : Nat → Int32} (hS : ∀ q, S' q = (S q || decide (q = p))) {t : Nat → Int32} (ht : ∀ k, k < 12 → t k = J k) : put12 (cpS f y S J) (tb p y) t = cpS f y S' J := by
  funext j
  unfold put12 cpS
  by_cases g : tb p y ≤ j ∧ j < tb p y + 12
  · have e1 : (j - 30) / 12 % 6 = y := by unfold tb at g; omega
    have e2 : (j - 30) / 72 = p := by unfold tb at g; omega
    have e3 : j - tb p y = (j - 30) % 12 := by unfold tb at *; omega
    have e4 : 30 ≤ j ∧ j < 462 := by unfold tb at g; omega
    rw [if_pos g, if_pos ⟨e4.1, e4.2, e1, by rw [e2, hS, decide_eq_true rfl]; simp⟩, e3]
    exact ht _ (Nat.mod_lt _ (by decide))
  · rw [if_neg g]
    by_cases g2 : 30 ≤ j ∧ j < 462 ∧ (j - 30) / 12 % 6 = y ∧ S ((j - 30) / 72) = true
    · rw [if_pos g2, if_pos ⟨g2.1, g2.2.1, g2.2.2.1, by rw [hS, g2.2.2.2]; rfl⟩]
    · rw [if_neg g2, if_neg]
      intro z
      have h4 := z.2.2.2
      rw [hS] at h4
      cases q : S ((j - 30) / 72)
      · rw [q] at h4
        have h5 : (j - 30) / 72 = p := by simpa using h4
        refine g ?_
        have := z.2.2.1
        unfold tb
        omega
      · exact g2 ⟨z.1, z.2.1, z.2.2.1, q⟩
theorem cpS_0 (f : Nat → Int32) (y : Nat) {S : Nat → Bool} (hS : ∀ q, S q = false) (J : Nat → Int32) : cpS f y S J = f := by
  funext j; unfold cpS; rw [if_neg (fun z => by rw [hS] at z; exact absurd z.2.2.2 (by decide))]
theorem cpS_out {f : Nat → Int32} {y : Nat} {S : Nat → Bool} {J : Nat → Int32} {j : Nat} (h : j < 30 ∨ 462 ≤ j) : cpS f y S J j = f j := if_neg (fun z => by omega)
theorem cpS_congr {f : Nat → Int32} {y : Nat} {S S' : Nat → Bool} {J J' : Nat → Int32} (hS : ∀ q, q < 6 → S q = S' q) (hJ : ∀ k, k < 12 → J k = J' k) : cpS f y S J = cpS f y S' J' := by
  funext j
  unfold cpS
  by_cases g : 30 ≤ j ∧ j < 462 ∧ (j - 30) / 12 % 6 = y ∧ S ((j - 30) / 72) = true
  · rw [if_pos g, if_pos ⟨g.1, g.2.1, g.2.2.1, by rw [← hS _ (by omega)]; exact g.2.2.2⟩]
    exact hJ _ (Nat.mod_lt _ (by decide))
  · rw [if_neg g, if_neg (fun z => g ⟨z.1, z.2.1, z.2.2.1, by rw [hS _ (by omega)]; exact z.2.2.2⟩)]
theorem cpS_h (f : Nat → Int32) (y : Nat) (S : Nat → Bool) (J : Nat → Int32) : Hd5 f (cpS f y S J) := ⟨fun k hk => cpS_out (by omega), cpS_out (by omega), cpS_out (by omega)⟩
/-! the class -/
theorem W_copyJ {w : Nat} (hw : isW w) {B : Nat} {σ : ST} {f : Nat → Int32} {g : Nat → Int64} (h : RelW B (wv σ w) f g) {p y : Nat} (hp : p < 6) (hy : y < 6) {c L i : Nat} (hc : isC c L) (hi : i * 6 + 6 ≤ L) (hcw : c + 3 ≤ w ∨ w + 28 ≤ c) {J : Nat → Int32} (hJ : CR (sm f y) σ c i J) (ht : TI (sm f y) B (fun k => gv f k y) J) : ∃ σ1, f_X0_copyCell (w + 15) (nI (p * 6 + y)) c (nI i) σ = some σ1 ∧ RelW B (wv σ1 w) (put12 f (tb p y) J) g ∧ Sq (inW w) [] σ σ1 ∧ ∀ x, x < w ∨ w + 28 ≤ x → gA σ1 x = gA σ x := by
  have e1 := c_copyCell (isC_h hw) hc (i := p * 6 + y) (j := i) (by omega) hi (by omega) σ
  refine ⟨_, e1, ?_, ?_, fun x hx => ?_⟩
  · rw [show w + 15 + 1 = w + 16 by omega, show w + 15 + 2 = w + 17 by omega, wv_sA _ _ (by decide), wv_sA _ _ (by decide)]
    refine RelW_have h hp hy ?_ ?_ ht
    · refine ⟨fun _ _ => rfl, fun x h1 h2 => by rw [gA_sA, if_neg h2, gA_sA, if_neg h1], fun _ => rfl, fun j hj => ⟨?_, ?_⟩⟩
      · rw [gA_sA, if_neg (by decide), gA_sA, if_pos rfl, cF_at, if_neg hj]; rfl
      · rw [gA_sA, if_pos rfl, cF_at, if_neg hj]; rfl
    · intro k hk
      have h1 := hJ k hk
      have a1 : cF σ (w + 16) (p * 6 + y) (c + 1) i ((p * 6 + y) * 6 + k) = gA σ (c + 1) (i * 6 + k) := by rw [cF_at, if_pos (by omega), show (p * 6 + y) * 6 + k - (p * 6 + y) * 6 = k by omega]
      have a2 : cF σ (w + 17) (p * 6 + y) (c + 2) i ((p * 6 + y) * 6 + k) = gA σ (c + 2) (i * 6 + k) := by rw [cF_at, if_pos (by omega), show (p * 6 + y) * 6 + k - (p * 6 + y) * 6 = k by omega]
      show if sm f y then (cF σ (w + 16) _ _ _ _ = _ ∧ cF σ (w + 17) _ _ _ _ = _ ∧ _) else (cF σ (w + 16) _ _ _ _ = _ ∧ cF σ (w + 17) _ _ _ _ = _)
      rw [a1, a2]; exact h1
  · rw [show w + 15 + 1 = w + 16 by omega, show w + 15 + 2 = w + 17 by omega]
    exact SqW_sA hw (SqW_sA hw (Sq.rf σ) (by decide) _) (by decide) _
  · rw [gA_sA, if_neg (by omega), gA_sA, if_neg (by omega)]
theorem gv_h {f f' : Nat → Int32} (h : ∀ k, 4400 ≤ k → k < 4436 → f' k = f k) {y : Nat} (hy : y < 6) {s : Bool} {B : Nat} {t : Nat → Int32} (ht : TI s B (fun k => gv f k y) t) : TI s B (fun k => gv f' k y) t := TI_congr (fun _ _ => rfl) (fun k hk => gv_c h hk hy) ht
theorem CR_sI {s : Bool} {σ : ST} {c i : Nat} {t : Nat → Int32} (h : CR s σ c i t) {x k : Nat} {v : Int32} : CR s (sI σ x k v) c i t := h
/-- the ticket's part of the slot -/
def tkF (f : Nat → Int32) (t y : Nat) (J : Nat → Int32) : Nat → Int32 := fun j => if j = 4440 + 8 * t then nI y else if 4440 + 8 * t + 1 ≤ j ∧ j < 4440 + 8 * t + 7 then J (6 + (j - (4440 + 8 * t + 1))) else f j
theorem RelW_tick {B : Nat} {s : ST} {f : Nat → Int32} {g : Nat → Int64} (h : RelW B s f g) {t y : Nat} (ht : t < 4) (hy : y < YN f) (hs : sm f y = false) {J : Nat → Int32} (hJ : TI false B (fun k => gv f k y) J) {F : Nat → Int32} (hF1 : ∀ k, k < 6 → F (t * 6 + k) = J (6 + k)) (hF2 : ∀ j, ¬ (t * 6 ≤ j ∧ j < t * 6 + 6) → F j = gA s 24 j) : RelW B (sI (sA (sA s 24 F) 25 (upd (gA s 25) t (nI y))) 0 11 (gI s 0 11 ||| (nI 1 <<< (nI t &&& nI 31)))) (tkF f t y J) g := by
  obtain ⟨hS, hU, hT, hG, hV, hH, hI, hD, hN⟩ := h
  have hY := hS.1.2.1
  have e : ∀ k, (k < 4440 ∨ 4472 ≤ k) → tkF f t y J k = f k := fun k hk => by unfold tkF; rw [if_neg (by omega), if_neg (by omega)]
  have hf : Hd f (tkF f t y J) := fun k hk => e k (by omega)
  have hgv : ∀ k y', k < 6 → y' < 6 → gv (tkF f t y J) k y' = gv f k y' := fun k y' hk hy' => gv_c (fun j a b => e j (by omega)) hk hy'
  have hg : ∀ k y', k < 6 → y' < 6 → gv f k y' ≤ gv (tkF f t y J) k y' := fun k y' hk hy' => by rw [hgv k y' hk hy']; exact Nat.le_refl _
  have o1 : ∀ x k, ¬ (x = 0 ∧ k = 11) → gI (sI (sA (sA s 24 F) 25 (upd (gA s 25) t (nI y))) 0 11 (gI s 0 11 ||| (nI 1 <<< (nI t &&& nI 31)))) x k = gI s x k := fun x k hk => by rw [gI_sI, if_neg hk]; rfl
  have o2 : ∀ x, x ≠ 24 → x ≠ 25 → gA (sI (sA (sA s 24 F) 25 (upd (gA s 25) t (nI y))) 0 11 (gI s 0 11 ||| (nI 1 <<< (nI t &&& nI 31)))) x = gA s x := fun x h1 h2 => by rw [gA_sI, gA_sA, if_neg h2, gA_sA, if_neg h1]
  refine ⟨RS_c hf hS (fun k => o1 1 k (by omega)) (o2 2 (by decide) (by decide)) (o2 4 (by decide) (by decide)) (o2 6 (by decide) (by decide)) (o2 7 (by decide) (by decide)), RU_c hU (e 5 (by omega)) (e 6 (by omega)) (o1 0 9 (by omega)) (o1 0 10 (by omega)), ⟨?_, ?_⟩, RG_c hf hG (fun k a b => e k (by omega)) (o2 26 (by decide) (by decide)), RV_c hG hV (fun k a b => e k (by omega)) (fun k a b => e k (by omega)) (o2 27 (by decide) (by decide)), RH_c hf hH hg (fun k a b => e k (by omega)) (o2 16 (by decide) (by decide)) (o2 17 (by decide) (by decide)), RI_c hf hI hg (fun k a b => e k (by omega)) (o2 19 (by decide) (by decide)) (o2 20 (by decide) (by decide)) (o2 21 (by decide) (by decide)), RD_c hf hY hD (e 7 (by omega)) (fun k a b => e k (by omega)) (o1 8 6 (by omega)) (o1 8 7 (by omega)) (fun x a b => o2 x (by omega) (by omega)), RN_c hf hN rfl rfl⟩
  · intro k
    rw [gI_sI, if_pos ⟨rfl, rfl⟩, bt_ins _ (by omega), hT.1 k]
    by_cases z : k = t
    · subst z
      have : tkF f k y J (4440 + 8 * k) = nI y := by unfold tkF; rw [if_pos rfl]
      rw [this, decide_eq_true (show k = k from rfl), Bool.or_true]
      symm
      exact decide_eq_true ⟨ht, fun q => by rw [nI_mI (by omega)] at q; exact q⟩
    · rw [decide_eq_false z, Bool.or_false]
      refine decide_eq_decide.mpr ⟨fun q => ⟨q.1, ?_⟩, fun q => ⟨q.1, ?_⟩⟩
      · have : tkF f t y J (4440 + 8 * k) = f (4440 + 8 * k) := by unfold tkF; rw [if_neg (by omega), if_neg (by omega)]
        rw [this]; exact q.2
      · have : tkF f t y J (4440 + 8 * k) = f (4440 + 8 * k) := by unfold tkF; rw [if_neg (by omega), if_neg (by omega)]
        rw [← this]; exact q.2
  · intro t' ht'
    refine ⟨fun k hk => by rw [o2 23 (by decide) (by decide)]; exact (hT.2 t' ht').1 k hk, fun hne => ?_⟩
    have a24 : gA (sI (sA (sA s 24 F) 25 (upd (gA s 25) t (nI y))) 0 11 (gI s 0 11 ||| (nI 1 <<< (nI t &&& nI 31)))) 24 = F := rfl
    have a25 : gA (sI (sA (sA s 24 F) 25 (upd (gA s 25) t (nI y))) 0 11 (gI s 0 11 ||| (nI 1 <<< (nI t &&& nI 31)))) 25 = upd (gA s 25) t (nI y) := rfl
    rw [a24, a25]
    by_cases z : t' = t
    · subst z
      refine ⟨y, by rw [hf.Y]; exact hy, by rw [hf.sm (by omega)]; exact hs, by unfold tkF; rw [if_pos rfl], by rw [upd_at, if_pos rfl], fun k hk => ?_⟩
      have e1 : tkF f t' y J (4440 + 8 * t' + 1 + k) = J (6 + k) := by
        unfold tkF
        rw [if_neg (by omega), if_pos (by omega), show 4440 + 8 * t' + 1 + k - (4440 + 8 * t' + 1) = k by omega]
      rw [e1, hgv k y hk (by omega)]
      have hj := hJ k hk
      simp only [Bool.false_eq_true, if_false] at hj
      exact ⟨hF1 k hk, hj.1⟩
    · have e0 : ∀ k, k < 7 → tkF f t y J (4440 + 8 * t' + k) = f (4440 + 8 * t' + k) := fun k hk => by unfold tkF; rw [if_neg (by omega), if_neg (by omega)]
      have e1 := e0 0 (by omega)
      rw [Nat.add_zero] at e1
      rw [e1] at hne
      obtain ⟨y', b1, b2, b3, b4, b5⟩ := (hT.2 t' ht').2 hne
      refine ⟨y', by rw [hf.Y]; exact b1, by rw [hf.sm (by omega)]; exact b2, by rw [e1]; exact b3, by rw [upd_at, if_neg z]; exact b4, fun k hk => ?_⟩
      rw [hgv k y' hk (by omega), show 4440 + 8 * t' + 1 + k = 4440 + 8 * t' + (1 + k) by omega, e0 (1 + k) (by omega), hF2 _ (by omega), ← show 4440 + 8 * t' + 1 + k = 4440 + 8 * t' + (1 + k) by omega]
      exact b5 k hk
