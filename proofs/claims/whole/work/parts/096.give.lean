/-! GIVING OUT -/
def Hd5 (f f' : Nat → Int32) : Prop := Hd f f' ∧ f' 5 = f 5 ∧ f' 6 = f 6
theorem Hd5.rf (f : Nat → Int32) : Hd5 f f := ⟨fun _ _ => rfl, rfl, rfl⟩
theorem Hd5.rch {f f' : Nat → Int32} (h : Hd5 f f') (a b : Nat) : rch f' a b = rch f a b := by unfold _root_.Jvm.Pilot.CTwinShelfLaw_law_r2387_1855c5.rch; rw [h.2.1, h.2.2]
theorem Hd5.trans {f f' f2 : Nat → Int32} (h : Hd5 f f') (h2 : Hd5 f' f2) : Hd5 f f2 := ⟨fun k hk => (h2.1 k hk).trans (h.1 k hk), h2.2.1.trans h.2.1, h2.2.2.trans h.2.2⟩
theorem put12_congr {f : Nat → Int32} {to : Nat} {t t' : Nat → Int32} (h : ∀ k, k < 12 → t k = t' k) : put12 f to t = put12 f to t' := by
  funext j
  unfold put12
  by_cases g : to ≤ j ∧ j < to + 12
  · rw [if_pos g, if_pos g]; exact h _ (by omega)
  · rw [if_neg g, if_neg g]
theorem hop_congr {f : Nat → Int32} {h : Nat} {t t' : Nat → Int32} {v : Int32} (hh : ∀ k, k < 12 → t k = t' k) : hop f h t v = hop f h t' v := by unfold hop; rw [put12_congr hh]
theorem Hd5_put12 {f : Nat → Int32} {to : Nat} (h : 28 ≤ to) (t : Nat → Int32) : Hd5 f (put12 f to t) := ⟨fun k hk => put12_out (by omega), put12_out (by omega), put12_out (by omega)⟩
theorem Hd5_hop {f : Nat → Int32} {to : Nat} (h : 28 ≤ to) (t : Nat → Int32) (v : Int32) : Hd5 f (hop f to t v) := ⟨fun k hk => hop_out (by omega), hop_out (by omega), hop_out (by omega)⟩
/-- the next watcher that is reached -/
def nw (f : Nat → Int32) (y a : Nat) : Nat → Nat → Nat
  | 0, _ => KN f
  | n + 1, i => if KN f ≤ i then KN f else if rch f a (rw6 f y i) then i else nw f y a n (i + 1)
theorem nw_le (f : Nat → Int32) (y a : Nat) : ∀ n i, nw f y a n i ≤ KN f
  | 0, _ => Nat.le_refl _
  | n + 1, i => by
    rw [nw]
    by_cases g : KN f ≤ i
    · rw [if_pos g]; exact Nat.le_refl _
    · rw [if_neg g]
      split
      · omega
      · exact nw_le f y a n (i + 1)
def jop (f : Nat → Int32) (y a p : Nat) (g : Nat → Int32) : Nat → Int32 := put12 g (tb p y) (jT (sm f y) (sh g (tb p y)) (sh g (tb a y)))
def hopx (f : Nat → Int32) (y a q p : Nat) (g : Nat → Int32) : Nat → Int32 := hop g (hb q p y) (if g (hb q p y) = nI 1 then jT (sm f y) (sh g (hb q p y + 1)) (sh g (tb a y)) else sh g (tb a y)) (nI 1)
theorem tb_lt {p y : Nat} (hp : p < 6) (hy : y < 6) : 30 ≤ tb p y ∧ tb p y + 12 ≤ 462 := by unfold tb; omega
theorem hb_lt {p q y : Nat} (hp : p < 6) (hq : q < 6) (hy : y < 6) : 470 ≤ hb p q y ∧ hb p q y + 13 ≤ 3278 := by unfold hb; omega
theorem hop_jop (f : Nat → Int32) {y a p q p2 : Nat} (hy : y < 6) (ha : a < 6) (hp : p < 6) (hq : q < 6) (hp2 : p2 < 6) (hne : p ≠ a) (g : Nat → Int32) : hopx f y a q p2 (jop f y a p g) = jop f y a p (hopx f y a q p2 g) := by
  have t1 := tb_lt hp hy
  have t2 := tb_lt ha hy
  have t3 := hb_lt hq hp2 hy
  have hd : tb p y + 12 ≤ tb a y ∨ tb a y + 12 ≤ tb p y := by unfold tb; omega
  have e1 : jop f y a p g (hb q p2 y) = g (hb q p2 y) := put12_out (by omega)
  have e2 : sh (jop f y a p g) (hb q p2 y + 1) = sh g (hb q p2 y + 1) := by funext k; unfold sh; exact put12_out (by omega)
  have e3 : ∀ k, k < 12 → sh (jop f y a p g) (tb a y) k = sh g (tb a y) k := fun k hk => by unfold sh; exact put12_out (by omega)
  have e4 : ∀ t v k, k < 12 → sh (hop g (hb q p2 y) t v) (tb p y) k = sh g (tb p y) k := fun t v k hk => by unfold sh; exact hop_out (by omega)
  have e5 : ∀ t v k, k < 12 → sh (hop g (hb q p2 y) t v) (tb a y) k = sh g (tb a y) k := fun t v k hk => by unfold sh; exact hop_out (by omega)
  unfold hopx
  rw [e1, e2]
  have l1 : hop (jop f y a p g) (hb q p2 y) (if g (hb q p2 y) = nI 1 then jT (sm f y) (sh g (hb q p2 y + 1)) (sh (jop f y a p g) (tb a y)) else sh (jop f y a p g) (tb a y)) (nI 1) = hop (jop f y a p g) (hb q p2 y) (if g (hb q p2 y) = nI 1 then jT (sm f y) (sh g (hb q p2 y + 1)) (sh g (tb a y)) else sh g (tb a y)) (nI 1) := by
    refine hop_congr (fun k hk => ?_)
    split
    · exact jT_congr (fun _ _ => rfl) e3 hk
    · exact e3 k hk
  rw [l1]
  generalize (if g (hb q p2 y) = nI 1 then jT (sm f y) (sh g (hb q p2 y + 1)) (sh g (tb a y)) else sh g (tb a y)) = t
  have l2 : jop f y a p (hop g (hb q p2 y) t (nI 1)) = put12 (hop g (hb q p2 y) t (nI 1)) (tb p y) (jT (sm f y) (sh g (tb p y)) (sh g (tb a y))) := put12_congr (fun k hk => jT_congr (e4 _ _) (e5 _ _) hk)
  rw [l2]
  unfold jop
  generalize jT (sm f y) (sh g (tb p y)) (sh g (tb a y)) = u
  funext j
  by_cases g1 : tb p y ≤ j ∧ j < tb p y + 12
  · rw [hop_out (by omega)]
    unfold put12
    rw [if_pos g1, if_pos g1]
  · rw [put12_out (f := hop g (hb q p2 y) t (nI 1)) (by omega)]
    unfold hop
    rw [upd_at, upd_at]
    by_cases g2 : j = hb q p2 y
    · rw [if_pos g2, if_pos g2]
    · rw [if_neg g2, if_neg g2]
      by_cases g3 : hb q p2 y + 1 ≤ j ∧ j < hb q p2 y + 1 + 12
      · unfold put12
        rw [if_pos g3, if_pos g3]
      · rw [put12_out (by omega), put12_out (by omega), put12_out (by omega)]
/-- the reference's way: first all joins .. -/
def gO (f : Nat → Int32) (y a : Nat) : Nat → (Nat → Int32) × Nat
  | 0 => (f, 1)
  | k + 1 => if rw6 f y k ≠ a ∧ rch f a (rw6 f y k) = true then (jop f y a (rw6 f y k) (gO f y a k).1, (gO f y a k).2 + 1) else gO f y a k
/-- .. then the hints -/
def gH (f : Nat → Int32) (y a : Nat) (G : Nat → Int32) (C : Nat) : Nat → (Nat → Int32) × Nat × Nat
  | 0 => (G, pm f, C)
  | k + 1 => if rw6 f y k ≠ a ∧ rch f a (rw6 f y k) = false then (if nw f y a 7 (gH f y a G C k).2.1 < KN f then (hopx f y a (rw6 f y (nw f y a 7 (gH f y a G C k).2.1)) (rw6 f y k) (gH f y a G C k).1, nw f y a 7 (gH f y a G C k).2.1 + 1, (gH f y a G C k).2.2 + 1) else ((gH f y a G C k).1, KN f, (gH f y a G C k).2.2)) else gH f y a G C k
theorem gH_jop {f : Nat → Int32} (hf : WFs f) {y a p : Nat} (hy : y < YN f) (ha : a < 6) (hp : p < 6) (hne : p ≠ a) (G : Nat → Int32) (C : Nat) : ∀ k, k ≤ KN f → gH f y a (jop f y a p G) (C + 1) k = (jop f y a p (gH f y a G C k).1, (gH f y a G C k).2.1, (gH f y a G C k).2.2 + 1)
  | 0, _ => rfl
  | k + 1, hk => by
    have ih := gH_jop hf hy ha hp hne G C k (by omega)
    have hK := hf.1
    have hY := hf.2.1
    rw [gH, gH, ih]
    simp only []
    have r1 := rw6_lt hf hy (m := k) (by omega)
    by_cases g : rw6 f y k ≠ a ∧ rch f a (rw6 f y k) = false
    · rw [if_pos g, if_pos g]
      by_cases g2 : nw f y a 7 (gH f y a G C k).2.1 < KN f
      · rw [if_pos g2, if_pos g2]
        have r2 := rw6_lt hf hy (m := nw f y a 7 (gH f y a G C k).2.1) g2
        rw [hop_jop f (by omega) ha hp (by omega) (by omega) hne]
      · rw [if_neg g2, if_neg g2]
    · rw [if_neg g, if_neg g]
/-- the class's way: place by place -/
def gS (f : Nat → Int32) (y a k : Nat) : (Nat → Int32) × Nat × Nat := gH f y a (gO f y a k).1 (gO f y a k).2 k
theorem gS_s {f : Nat → Int32} (hf : WFs f) {y a : Nat} (hy : y < YN f) (ha : a < 6) {k : Nat} (hk : k < KN f) : gS f y a (k + 1) = if rw6 f y k = a then gS f y a k else if rch f a (rw6 f y k) then (jop f y a (rw6 f y k) (gS f y a k).1, (gS f y a k).2.1, (gS f y a k).2.2 + 1) else if nw f y a 7 (gS f y a k).2.1 < KN f then (hopx f y a (rw6 f y (nw f y a 7 (gS f y a k).2.1)) (rw6 f y k) (gS f y a k).1, nw f y a 7 (gS f y a k).2.1 + 1, (gS f y a k).2.2 + 1) else ((gS f y a k).1, KN f, (gS f y a k).2.2) := by
  have r1 := rw6_lt hf hy hk
  have hK := hf.1
  by_cases g : rw6 f y k = a
  · rw [if_pos g]
    unfold gS
    rw [gO, if_neg (fun z => z.1 g), gH, if_neg (fun z => z.1 g)]
  · rw [if_neg g]
    cases c : rch f a (rw6 f y k)
    · simp only [Bool.false_eq_true, if_false]
      unfold gS
      rw [gO, if_neg (fun z => by rw [c] at z; exact absurd z.2 (by decide)), gH, if_pos ⟨g, c⟩]
    · simp only [if_true]
      unfold gS
      rw [gO, if_pos ⟨g, c⟩, gH, if_neg (fun z => by rw [c] at z; exact absurd z.2 (by decide))]
      exact gH_jop hf hy ha (by omega) g _ _ k (by omega)
theorem gO_c (f : Nat → Int32) (y a : Nat) : ∀ k, (gO f y a k).2 ≤ k + 1
  | 0 => Nat.le_refl _
  | k + 1 => by
    have := gO_c f y a k
    rw [gO]
    split
    · show (gO f y a k).2 + 1 ≤ _
      omega
    · omega
theorem gH_c (f : Nat → Int32) (y a : Nat) (G : Nat → Int32) (C : Nat) : ∀ k, (gH f y a G C k).2.1 ≤ KN f ∧ (gH f y a G C k).2.2 ≤ C + k
  | 0 => ⟨pm_le, Nat.le_refl _⟩
  | k + 1 => by
    have h := gH_c f y a G C k
    rw [gH]
    split
    · split
      · simp only []; omega
      · simp only []; omega
    · omega
theorem gS_c (f : Nat → Int32) (y a k : Nat) : (gS f y a k).2.1 ≤ KN f ∧ (gS f y a k).2.2 ≤ 2 * k + 1 := by
  have h1 := gO_c f y a k
  have h2 := gH_c f y a (gO f y a k).1 (gO f y a k).2 k
  unfold gS
  omega
theorem gS_h {f : Nat → Int32} (hf : WFs f) {y a : Nat} (hy : y < YN f) (ha : a < 6) : ∀ k, k ≤ KN f → Hd5 f (gS f y a k).1
  | 0, _ => Hd5.rf f
  | k + 1, hk => by
    have ih := gS_h hf hy ha k (by omega)
    have r1 := rw6_lt hf hy (m := k) (by omega)
    have hK := hf.1
    have hY := hf.2.1
    have t1 := tb_lt (p := rw6 f y k) (y := y) (by omega) (by omega)
    rw [gS_s hf hy ha (by omega)]
    by_cases g : rw6 f y k = a
    · rw [if_pos g]; exact ih
    · rw [if_neg g]
      cases c : rch f a (rw6 f y k)
      · simp only [Bool.false_eq_true, if_false]
        by_cases g2 : nw f y a 7 (gS f y a k).2.1 < KN f
        · rw [if_pos g2]
          have r2 := rw6_lt hf hy g2
          have t2 := hb_lt (p := rw6 f y (nw f y a 7 (gS f y a k).2.1)) (q := rw6 f y k) (y := y) (by omega) (by omega) (by omega)
          exact ih.trans (Hd5_hop (by omega) _ _)
        · rw [if_neg g2]; exact ih
      · simp only [if_true]
        exact ih.trans (Hd5_put12 (by omega) _)
/-! the class -/
theorem jb_0 (b : Int32) (s : Int32) : jb (nI 0) b (nI 0) s = b := by
  apply bt_ext
  intro k hk
  have e : upT (nI 0) = nI 0 := by decide
  unfold jb
  rw [bt_or, bt_or, bt_and, bt_and, bt_and, bt_m _ hk, bt_m _ hk, e, bt_n0]
  cases bt b k <;> simp
theorem mx_0 {b : Int32} (h : vN b < 2 ^ 31) : mx (nI 0) b = b := by
  unfold mx
  have e := (nI_vN b).symm
  rw [if_pos (by rw [e]; exact nI_le (by omega) h)]
theorem jT_zero {s : Bool} {B : Nat} {g : Nat → Nat} {t u : Nat → Int32} (hB : B < 2 ^ 31) (hg : ∀ k, k < 6 → g k ≤ 30) (h0 : ∀ k, k < 12 → t k = nI 0) (hu : TI s B g u) : ∀ k, k < 12 → jT s t u k = u k := by
  intro k hk
  by_cases q : k < 6
  · have h1 := hu k q
    have h2 := hg k q
    rw [jT_lo s t u q, h0 k hk, h0 (6 + k) (by omega)]
    cases s
    · simp only [Bool.false_eq_true, if_false] at h1 ⊢; exact jb_0 _ _
    · simp only [if_true] at h1 ⊢; exact mx_0 (by omega)
  · obtain ⟨j, rfl⟩ : ∃ j, k = 6 + j := ⟨k - 6, by omega⟩
    have h1 := hu j (by omega)
    have h2 := hg j (by omega)
    rw [jT_hi, h0 _ hk]
    cases s
    · simp only [Bool.false_eq_true, if_false] at h1 ⊢; exact mx_0 (by omega)
    · simp only [if_true] at h1 ⊢; exact h1.2.symm
theorem CR_sA {s : Bool} {σ : ST} {c i : Nat} {t : Nat → Int32} (h : CR s σ c i t) {x : Nat} (F : Nat → Int32) (h1 : x ≠ c + 1) (h2 : x ≠ c + 2) : CR s (sA σ x F) c i t := by
  intro k hk
  have e1 : gA (sA σ x F) (c + 1) = gA σ (c + 1) := by rw [gA_sA, if_neg (fun z => h1 z.symm)]
  have e2 : gA (sA σ x F) (c + 2) = gA σ (c + 2) := by rw [gA_sA, if_neg (fun z => h2 z.symm)]
  rw [e1, e2]
  exact h k hk
theorem W_hint {w : Nat} (hw : isW w) {B : Nat} (hB : B < 2 ^ 31) {σ : ST} {f : Nat → Int32} {g : Nat → Int64} (h : RelW B (wv σ w) f g) {q p y a : Nat} (hq : q < KN f) (hp : p < KN f) (hy : y < YN f) (ha : a < 6) : ∃ σ1, f_X10_takeHint w (nI q) (nI p) (nI y) (nI (a * 6 + y)) σ = some σ1 ∧ RelW B (wv σ1 w) (hopx f y a q p f) g ∧ Sq (inW w) [] σ σ1 := by
  have hK := h.1.1.1
  have hY := h.1.1.2.1
  have hI := (h.2.2.2.2.2.2.1 q p (by omega) (by omega))
  obtain ⟨c1, t1, z1⟩ := hI.2 y (by omega)
  obtain ⟨c2, t2⟩ := h.2.2.2.2.2.1 a y ha (by omega)
  have c1' := wv_CR (c := 18) (by decide) c1
  have c2' := wv_CR (c := 15) (by decide) c2
  obtain ⟨F, hF⟩ : ∃ F, F = upd (gA σ (w + 21)) (q * 6 + p) (gA σ (w + 21) (q * 6 + p) ||| (nI 1 <<< (nI y &&& nI 31))) := ⟨_, rfl⟩
  have c3 : CR (sm f y) (sA σ (w + 21) F) (w + 18) ((q * 6 + p) * 6 + y) (sh f (hb q p y + 1)) := CR_sA c1' F (by omega) (by omega)
  have c4 : CR (sm f y) (sA σ (w + 21) F) (w + 15) (a * 6 + y) (sh f (tb a y)) := CR_sA c2' F (by omega) (by omega)
  have hj := c_join (isC_i hw) (isC_h hw) (i := (q * 6 + p) * 6 + y) (j := a * 6 + y) (by omega) (by omega) (by omega) (sA σ (w + 21) F) (CR_hb (gvl h (by omega)) c3 c4 t1 t2)
  have cj := CR_join c3 c4
  have tj := TI_join hB (gvl h (by omega)) t1 t2
  refine ⟨(sA (sA (sA σ (w + 21) F) (w + 18 + 1) (jF (sA σ (w + 21) F) (w + 18) ((q * 6 + p) * 6 + y) (w + 15) (a * 6 + y) 6)) (w + 18 + 2) (jG (sA σ (w + 21) F) (w + 18) ((q * 6 + p) * 6 + y) (w + 15) (a * 6 + y) 6)), ?_, ?_, ?_⟩
  · simp (disch := omega) only [↓mI_e, lit, ofN, bsm, nI_add, pk_mul, pk_sub, nI_e, nI_leE, nI_ltE, nI_mI, mI_nI, mI_lt, nlt_mI, mI_le, nle_mI, nI_addm, sh_b, bI_0, bI_1, bI_bI, ckZ_b, ckZ_n0, ckZ_n1, stIe, stJe, stZ_n0, stZ_n1, rm_nI, dv_nI, if_true, if_false, if_pos, if_neg, rf0, rf1, rf5, rf6, rf7, rf8, rf9, rf20, rf23, rf24, rf25, rf26, rf29, rf31, rf33, rf34, rf35, rf37, rf38, rf41, rf42, rf43,  f_X10_takeHint, w_0 hw, w_1 hw, w_2 hw, w_3 hw, w_4 hw, w_5 hw, w_6 hw, w_7 hw, w_8 hw, ws_0 hw, ws_1 hw, ws_2 hw, ws_3 hw, ws_4 hw, ws_5 hw, wd_0 hw, wd_1 hw, wd_2 hw, wd_3 hw, wd_4 hw, wd_5 hw, wh_0 hw, wh_1 hw, wq_0 hw, wq_1 hw, wt_0 hw, wt_1 hw, lw2 hw, lw4 hw, lw6 hw, lw7 hw, lw9 hw, lw10 hw, lw11 hw, lw12 hw, lw13 hw, lw14 hw, lw16 hw, lw17 hw, lw19 hw, lw20 hw, lw21 hw, lw23 hw, lw24 hw, lw25 hw, lw26 hw, lw27 hw, lw3 hw, lw5 hw, sw2 hw, sw4 hw, sw6 hw, sw7 hw, sw9 hw, sw10 hw, sw11 hw, sw12 hw, sw13 hw, sw14 hw, sw16 hw, sw17 hw, sw19 hw, sw20 hw, sw21 hw, sw23 hw, sw24 hw, sw25 hw, sw26 hw, sw27 hw, ← hF, hj]
  · have e : wv (sA (sA (sA σ (w + 21) F) (w + 18 + 1) (jF (sA σ (w + 21) F) (w + 18) ((q * 6 + p) * 6 + y) (w + 15) (a * 6 + y) 6)) (w + 18 + 2) (jG (sA σ (w + 21) F) (w + 18) ((q * 6 + p) * 6 + y) (w + 15) (a * 6 + y) 6)) w = sA (sA (sA (wv σ w) 21 F) 19 (jF (sA σ (w + 21) F) (w + 18) ((q * 6 + p) * 6 + y) (w + 15) (a * 6 + y) 6)) 20 (jG (sA σ (w + 21) F) (w + 18) ((q * 6 + p) * 6 + y) (w + 15) (a * 6 + y) 6) := by
      rw [show w + 18 + 1 = w + 19 by omega, show w + 18 + 2 = w + 20 by omega, wv_sA _ _ (by decide), wv_sA _ _ (by decide), wv_sA _ _ (by decide)]
    have cj' := wv_CR2 (w := w) (c := 18) (by decide) cj
    rw [e] at cj' ⊢
    have e21 : gA (sA (sA (sA (wv σ w) 21 F) 19 (jF (sA σ (w + 21) F) (w + 18) ((q * 6 + p) * 6 + y) (w + 15) (a * 6 + y) 6)) 20 (jG (sA σ (w + 21) F) (w + 18) ((q * 6 + p) * 6 + y) (w + 15) (a * 6 + y) 6)) 21 = F := rfl
    have ho : onlyI (wv σ w) (sA (sA (sA (wv σ w) 21 F) 19 (jF (sA σ (w + 21) F) (w + 18) ((q * 6 + p) * 6 + y) (w + 15) (a * 6 + y) 6)) 20 (jG (sA σ (w + 21) F) (w + 18) ((q * 6 + p) * 6 + y) (w + 15) (a * 6 + y) 6)) q p y := by
      refine ⟨fun _ _ => rfl, fun x h1 h2 h3 => by rw [gA_sA, if_neg h2, gA_sA, if_neg h1, gA_sA, if_neg h3], fun _ => rfl, fun k hk => ⟨?_, ?_⟩, fun k hk => ?_, fun k hk => ?_⟩
      · rw [gA_sA, if_neg (by decide), gA_sA, if_pos rfl]
        unfold jF
        rw [if_neg hk, gA_sA, if_neg (by omega)]; rfl
      · rw [gA_sA, if_pos rfl]
        unfold jG
        rw [if_neg hk, gA_sA, if_neg (by omega)]; rfl
      · rw [e21, hF, upd_at, if_neg hk]; rfl
      · rw [e21, hF, upd_at, if_pos rfl, bt_ins _ (by omega), decide_eq_false hk]; simp; rfl
    have hr := RelW_hint h (p := q) (q := p) (y := y) (by omega) (by omega) (by omega) ho cj' tj (v := nI 1) (by rw [e21, hF, upd_at, if_pos rfl, bt_ins _ (by omega)]; simp) (Or.inr ⟨rfl, hq, hp, hy⟩)
    have eq : hop f (hb q p y) (jT (sm f y) (sh f (hb q p y + 1)) (sh f (tb a y))) (nI 1) = hopx f y a q p f := by
      unfold hopx
      refine hop_congr (fun k hk => ?_)
      by_cases z : f (hb q p y) = nI 1
      · rw [if_pos z]
      · rw [if_neg z]
        rcases z1 with z1 | z1
        · exact jT_zero hB (gvl h (by omega)) z1.2 t2 k hk
        · exact absurd z1.1 z
    rw [← eq]; exact hr
  · rw [show w + 18 + 1 = w + 19 by omega, show w + 18 + 2 = w + 20 by omega]
    exact SqW_sA hw (SqW_sA hw (SqW_sA hw (Sq.rf σ) (by decide) _) (by decide) _) (by decide) _
theorem c_nextWatcher {w : Nat} (hw : isW w) {σ : ST} {f : Nat → Int32} (h : RS (wv σ w) f) (hU : RU (wv σ w) f) {y a : Nat} (hy : y < YN f) (ha : a < 6) : ∀ (n m i : Nat), i ≤ KN f → KN f - i < n → KN f - i < m → k_X10_nextWatcher_3 n w (nI y) (nI a) (nI i) σ = some (nI (nw f y a m i), σ) := by
  have hK := h.1.1
  have e6 : gI σ (w + 1) 6 = nI (KN f) := h.2.1.1.trans (eK f)
  intro n
  induction n with
  | zero => intros; omega
  | succ n ih =>
    intro m i hi hn hm
    obtain ⟨m, rfl⟩ : ∃ k, m = k + 1 := ⟨m - 1, by omega⟩
    rw [k_X10_nextWatcher_3, nw]
    by_cases e : i = KN f
    · subst e
      simp (disch := omega) only [↓mI_e, lit, ofN, bsm, nI_add, pk_mul, pk_sub, nI_e, nI_leE, nI_ltE, nI_mI, mI_nI, mI_lt, nlt_mI, mI_le, nle_mI, nI_addm, sh_b, bI_0, bI_1, bI_bI, ckZ_b, ckZ_n0, ckZ_n1, stIe, stJe, stZ_n0, stZ_n1, rm_nI, dv_nI, if_true, if_false, if_pos, if_neg, rf0, rf1, rf5, rf6, rf7, rf8, rf9, rf20, rf23, rf24, rf25, rf26, rf29, rf31, rf33, rf34, rf35, rf37, rf38, rf41, rf42, rf43,  w_0 hw, w_1 hw, w_2 hw, w_3 hw, w_4 hw, w_5 hw, w_6 hw, w_7 hw, w_8 hw, ws_0 hw, ws_1 hw, ws_2 hw, ws_3 hw, ws_4 hw, ws_5 hw, wd_0 hw, wd_1 hw, wd_2 hw, wd_3 hw, wd_4 hw, wd_5 hw, wh_0 hw, wh_1 hw, wq_0 hw, wq_1 hw, wt_0 hw, wt_1 hw, lw2 hw, lw4 hw, lw6 hw, lw7 hw, lw9 hw, lw10 hw, lw11 hw, lw12 hw, lw13 hw, lw14 hw, lw16 hw, lw17 hw, lw19 hw, lw20 hw, lw21 hw, lw23 hw, lw24 hw, lw25 hw, lw26 hw, lw27 hw, lw3 hw, lw5 hw, sw2 hw, sw4 hw, sw6 hw, sw7 hw, sw9 hw, sw10 hw, sw11 hw, sw12 hw, sw13 hw, sw14 hw, sw16 hw, sw17 hw, sw19 hw, sw20 hw, sw21 hw, sw23 hw, sw24 hw, sw25 hw, sw26 hw, sw27 hw, e6]
    · have r1 := rw6_lt h.1 hy (m := i) (by omega)
      simp (disch := omega) only [↓mI_e, lit, ofN, bsm, nI_add, pk_mul, pk_sub, nI_e, nI_leE, nI_ltE, nI_mI, mI_nI, mI_lt, nlt_mI, mI_le, nle_mI, nI_addm, sh_b, bI_0, bI_1, bI_bI, ckZ_b, ckZ_n0, ckZ_n1, stIe, stJe, stZ_n0, stZ_n1, rm_nI, dv_nI, if_true, if_false, if_pos, if_neg, rf0, rf1, rf5, rf6, rf7, rf8, rf9, rf20, rf23, rf24, rf25, rf26, rf29, rf31, rf33, rf34, rf35, rf37, rf38, rf41, rf42, rf43,  w_0 hw, w_1 hw, w_2 hw, w_3 hw, w_4 hw, w_5 hw, w_6 hw, w_7 hw, w_8 hw, ws_0 hw, ws_1 hw, ws_2 hw, ws_3 hw, ws_4 hw, ws_5 hw, wd_0 hw, wd_1 hw, wd_2 hw, wd_3 hw, wd_4 hw, wd_5 hw, wh_0 hw, wh_1 hw, wq_0 hw, wq_1 hw, wt_0 hw, wt_1 hw, lw2 hw, lw4 hw, lw6 hw, lw7 hw, lw9 hw, lw10 hw, lw11 hw, lw12 hw, lw13 hw, lw14 hw, lw16 hw, lw17 hw, lw19 hw, lw20 hw, lw21 hw, lw23 hw, lw24 hw, lw25 hw, lw26 hw, lw27 hw, lw3 hw, lw5 hw, sw2 hw, sw4 hw, sw6 hw, sw7 hw, sw9 hw, sw10 hw, sw11 hw, sw12 hw, sw13 hw, sw14 hw, sw16 hw, sw17 hw, sw19 hw, sw20 hw, sw21 hw, sw23 hw, sw24 hw, sw25 hw, sw26 hw, sw27 hw, e6, c_keeperAlong hw h hy, c_reaches hU]
      cases c : rch f a (rw6 f y i)
      · simp only [if_true, Bool.false_eq_true, if_false]
        exact ih m (i + 1) (by omega) (by omega) (by omega)
      · simp only [if_true, Bool.true_eq_false, if_false]
theorem c_giveOut_loop {w : Nat} (hw : isW w) {B : Nat} (hB : B < 2 ^ 31) {f : Nat → Int32} {g : Nat → Int64} (hf : WFs f) {y a : Nat} (hy : y < YN f) (ha : a < KN f) : ∀ (n k : Nat) (σ : ST), k ≤ pm f → pm f - k < n → RelW B (wv σ w) (gS f y a k).1 g → ∃ σ1, k_X10_giveOut_35 n w (nI y) (nI a) (nI (a * 6 + y)) (nI (pm f)) (nI (gS f y a k).2.1) (nI (gS f y a k).2.2) (nI k) σ = some (nI (gS f y a (pm f)).2.2, σ1) ∧ RelW B (wv σ1 w) (gS f y a (pm f)).1 g ∧ Sq (inW w) [] σ σ1 := by
  have hK := hf.1
  have hY := hf.2.1
  have hpk := pm_le (f := f)
  intro n
  induction n with
  | zero => intros; omega
  | succ n ih =>
    intro k σ hk hn hR
    rw [k_X10_giveOut_35]
    by_cases e : k = pm f
    · subst e
      simp (disch := omega) only [↓mI_e, lit, ofN, bsm, nI_add, pk_mul, pk_sub, nI_e, nI_leE, nI_ltE, nI_mI, mI_nI, mI_lt, nlt_mI, mI_le, nle_mI, nI_addm, sh_b, bI_0, bI_1, bI_bI, ckZ_b, ckZ_n0, ckZ_n1, stIe, stJe, stZ_n0, stZ_n1, rm_nI, dv_nI, if_true, if_false, if_pos, if_neg, rf0, rf1, rf5, rf6, rf7, rf8, rf9, rf20, rf23, rf24, rf25, rf26, rf29, rf31, rf33, rf34, rf35, rf37, rf38, rf41, rf42, rf43, ]
      exact ⟨σ, rfl, hR, Sq.rf σ⟩
    · have hh := gS_h hf hy (a := a) (by omega) k (by omega)
      have hc := gS_c f y a k
      have hs := gS_s hf hy (a := a) (by omega) (k := k) (by omega)
      have r1 := rw6_lt hf hy (m := k) (by omega)
      have hS := hR.1
      have hU := hR.2.1
      have hyg : y < YN (gS f y a k).1 := by rw [hh.1.Y]; exact hy
      have ek : f_X7_keeperAlong (w + 1) (nI y) (nI k) σ = some (nI (rw6 f y k), σ) := by
        rw [c_keeperAlong hw hS hyg (by rw [hh.1.K]; omega), hh.1.rw6 hK (by omega)]
      have er : f_X10_reaches w (nI a) (nI (rw6 f y k)) σ = some (bI (rch f a (rw6 f y k)), σ) := by
        rw [c_reaches hU (by omega) (by omega), hh.rch]
      simp (disch := omega) only [↓mI_e, lit, ofN, bsm, nI_add, pk_mul, pk_sub, nI_e, nI_leE, nI_ltE, nI_mI, mI_nI, mI_lt, nlt_mI, mI_le, nle_mI, nI_addm, sh_b, bI_0, bI_1, bI_bI, ckZ_b, ckZ_n0, ckZ_n1, stIe, stJe, stZ_n0, stZ_n1, rm_nI, dv_nI, if_true, if_false, if_pos, if_neg, rf0, rf1, rf5, rf6, rf7, rf8, rf9, rf20, rf23, rf24, rf25, rf26, rf29, rf31, rf33, rf34, rf35, rf37, rf38, rf41, rf42, rf43,  w_0 hw, w_1 hw, w_2 hw, w_3 hw, w_4 hw, w_5 hw, w_6 hw, w_7 hw, w_8 hw, ws_0 hw, ws_1 hw, ws_2 hw, ws_3 hw, ws_4 hw, ws_5 hw, wd_0 hw, wd_1 hw, wd_2 hw, wd_3 hw, wd_4 hw, wd_5 hw, wh_0 hw, wh_1 hw, wq_0 hw, wq_1 hw, wt_0 hw, wt_1 hw, lw2 hw, lw4 hw, lw6 hw, lw7 hw, lw9 hw, lw10 hw, lw11 hw, lw12 hw, lw13 hw, lw14 hw, lw16 hw, lw17 hw, lw19 hw, lw20 hw, lw21 hw, lw23 hw, lw24 hw, lw25 hw, lw26 hw, lw27 hw, lw3 hw, lw5 hw, sw2 hw, sw4 hw, sw6 hw, sw7 hw, sw9 hw, sw10 hw, sw11 hw, sw12 hw, sw13 hw, sw14 hw, sw16 hw, sw17 hw, sw19 hw, sw20 hw, sw21 hw, sw23 hw, sw24 hw, sw25 hw, sw26 hw, sw27 hw, ek, er, k_X10_giveOut_94, k_X10_giveOut_146]
      have IH := ih (k + 1)
      rw [hs] at IH
      by_cases g1 : rw6 f y k = a
      · rw [if_pos g1] at IH
        simp only [g1, if_true]
        exact IH σ (by omega) (by omega) hR
      · rw [if_neg g1] at IH
        simp only [if_neg g1]
        cases c : rch f a (rw6 f y k)
        · rw [c] at IH
          simp only [Bool.false_eq_true, if_false] at IH
          simp only [if_true]
          have en : f_X10_nextWatcher w (nI y) (nI a) (nI (gS f y a k).2.1) σ = some (nI (nw f y a 7 (gS f y a k).2.1), σ) := by
            have h1 := c_nextWatcher hw hS hU hyg (a := a) (by omega) FU 7 (gS f y a k).2.1 (by rw [hh.1.K]; omega) (by rw [hh.1.K]; unfold FU; omega) (by rw [hh.1.K]; omega)
            have h2 : ∀ n i, nw (gS f y a k).1 y a n i = nw f y a n i := by
              intro n
              induction n with
              | zero => intro i; rw [nw, nw, hh.1.K]
              | succ n ih2 => intro i; rw [nw, nw, hh.1.K, hh.1.rw6 hK (by omega), hh.rch, ih2]
            rw [h2] at h1
            exact h1
          have e6 : gI σ (w + 1) 6 = nI (KN f) := hS.2.1.1.trans (by rw [eK (gS f y a k).1, hh.1.K])
          have hnl := nw_le f y a 7 (gS f y a k).2.1
          simp (disch := omega) only [↓mI_e, lit, ofN, bsm, nI_add, pk_mul, pk_sub, nI_e, nI_leE, nI_ltE, nI_mI, mI_nI, mI_lt, nlt_mI, mI_le, nle_mI, nI_addm, sh_b, bI_0, bI_1, bI_bI, ckZ_b, ckZ_n0, ckZ_n1, stIe, stJe, stZ_n0, stZ_n1, rm_nI, dv_nI, if_true, if_false, if_pos, if_neg, rf0, rf1, rf5, rf6, rf7, rf8, rf9, rf20, rf23, rf24, rf25, rf26, rf29, rf31, rf33, rf34, rf35, rf37, rf38, rf41, rf42, rf43,  en, e6]
          by_cases g2 : nw f y a 7 (gS f y a k).2.1 < KN f
          · rw [if_pos g2] at IH
            simp only [if_neg (show ¬ KN f ≤ nw f y a 7 (gS f y a k).2.1 by omega)]
            have r2 := rw6_lt hf hy g2
            obtain ⟨σ1, h1, h2, h3⟩ := W_hint hw hB hR (q := rw6 f y (nw f y a 7 (gS f y a k).2.1)) (p := rw6 f y k) (y := y) (a := a) (by rw [hh.1.K]; omega) (by rw [hh.1.K]; omega) hyg (by omega)
            have ek2 : f_X7_keeperAlong (w + 1) (nI y) (nI (nw f y a 7 (gS f y a k).2.1)) σ = some (nI (rw6 f y (nw f y a 7 (gS f y a k).2.1)), σ) := by
              rw [c_keeperAlong hw hS hyg (by rw [hh.1.K]; omega), hh.1.rw6 hK (by omega)]
            rw [ek2, b_some, h1, b_some]
            have eh : hopx (gS f y a k).1 y a (rw6 f y (nw f y a 7 (gS f y a k).2.1)) (rw6 f y k) (gS f y a k).1 = hopx f y a (rw6 f y (nw f y a 7 (gS f y a k).2.1)) (rw6 f y k) (gS f y a k).1 := by
              unfold hopx; rw [hh.1.sm (by omega)]
            rw [eh] at h2
            obtain ⟨σ2, h4, h5, h6⟩ := IH σ1 (by omega) (by omega) h2
            exact ⟨σ2, h4, h5, h3.trans h6⟩
          · rw [if_neg g2] at IH
            have e7 : nw f y a 7 (gS f y a k).2.1 = KN f := by omega
            rw [e7]
            simp only [if_pos (Nat.le_refl _)]
            exact IH σ (by omega) (by omega) hR
        · rw [c] at IH
          simp only [if_true] at IH
          simp only [Bool.true_eq_false, if_false]
          obtain ⟨c2, t2⟩ := hR.2.2.2.2.2.1 a y (by omega) (by omega)
          obtain ⟨σ1, h1, h2, h3, _⟩ := W_joinH hw hB hR (p := rw6 f y k) (y := y) (by omega) (by omega) (isC_h hw) (j := a * 6 + y) (by omega) (Or.inl ⟨rfl, by omega⟩) (wv_CR (c := 15) (by decide) c2) t2
          simp (disch := omega) only [↓mI_e, lit, ofN, bsm, nI_add, pk_mul, pk_sub, nI_e, nI_leE, nI_ltE, nI_mI, mI_nI, mI_lt, nlt_mI, mI_le, nle_mI, nI_addm, sh_b, bI_0, bI_1, bI_bI, ckZ_b, ckZ_n0, ckZ_n1, stIe, stJe, stZ_n0, stZ_n1, rm_nI, dv_nI, if_true, if_false, if_pos, if_neg, rf0, rf1, rf5, rf6, rf7, rf8, rf9, rf20, rf23, rf24, rf25, rf26, rf29, rf31, rf33, rf34, rf35, rf37, rf38, rf41, rf42, rf43,  f_X10_cellOf, h1]
          have ej : put12 (gS f y a k).1 (tb (rw6 f y k) y) (jT (sm (gS f y a k).1 y) (sh (gS f y a k).1 (tb (rw6 f y k) y)) (sh (gS f y a k).1 (tb a y))) = jop f y a (rw6 f y k) (gS f y a k).1 := by
            unfold jop; rw [hh.1.sm (by omega)]
          rw [ej] at h2
          obtain ⟨σ2, h4, h5, h6⟩ := IH σ1 (by omega) (by omega) h2
          exact ⟨σ2, h4, h5, h3.trans h6⟩
theorem c_giveOut {w : Nat} (hw : isW w) {B : Nat} (hB : B < 2 ^ 31) {σ : ST} {f : Nat → Int32} {g : Nat → Int64} (h : RelW B (wv σ w) f g) {y a : Nat} (hy : y < YN f) (ha : a < KN f) : ∃ σ1, f_X10_giveOut w (nI y) (nI a) σ = some (nI (gS f y a (pm f)).2.2, σ1) ∧ RelW B (wv σ1 w) (gS f y a (pm f)).1 g ∧ Sq (inW w) [] σ σ1 := by
  have hK := h.1.1.1
  have hpk := pm_le (f := f)
  have e := c_pm h.1
  simp (disch := omega) only [↓mI_e, lit, ofN, bsm, nI_add, pk_mul, pk_sub, nI_e, nI_leE, nI_ltE, nI_mI, mI_nI, mI_lt, nlt_mI, mI_le, nle_mI, nI_addm, sh_b, bI_0, bI_1, bI_bI, ckZ_b, ckZ_n0, ckZ_n1, stIe, stJe, stZ_n0, stZ_n1, rm_nI, dv_nI, if_true, if_false, if_pos, if_neg, rf0, rf1, rf5, rf6, rf7, rf8, rf9, rf20, rf23, rf24, rf25, rf26, rf29, rf31, rf33, rf34, rf35, rf37, rf38, rf41, rf42, rf43,  f_X10_giveOut, f_X10_cellOf, w_0 hw, e]
  exact c_giveOut_loop hw hB h.1.1 hy ha FU 0 σ (by omega) (by unfold FU; omega) h
/-! the reference -/
theorem r_watch {f : Nat → Int32} (hf : WFs f) {y a : Nat} (hy : y < YN f) (ha : a < 6) {τ : ST} {G : Nat → Int32} (hg : gA τ 1 = G) (hh : Hd5 f G) (hr : ∀ m, m < KN f → gA τ 9 m = nI (rw6 f y m)) (rec87 : Nat → Int32 → Int32 → Int32 → Int32 → Int32 → Int32 → ST → Option (Int32 × ST)) (x1 x2 x3 x4 : Int32) : ∀ (n m i : Nat), i ≤ KN f → KN f - i < n → KN f - i < m → k_X12_givesOut_124 rec87 n 0 (nI y) (nI a) x1 (nI i) x2 x3 x4 τ = k_X12_givesOut_156 rec87 0 (nI y) (nI a) x1 (nI (nw f y a m i)) x2 x3 x4 τ := by
  have hK := hf.1
  have e3 : gA τ 1 3 = nI (KN f) := by rw [hg, hh.1 3 (by omega)]; exact eK f
  intro n
  induction n with
  | zero => intros; omega
  | succ n ih =>
    intro m i hi hn hm
    obtain ⟨m, rfl⟩ : ∃ k, m = k + 1 := ⟨m - 1, by omega⟩
    rw [k_X12_givesOut_124, nw]
    by_cases e : i = KN f
    · subst e
      simp (disch := omega) only [↓mI_e, lit, ofN, bsm, nI_add, pk_mul, pk_sub, nI_e, nI_leE, nI_ltE, nI_mI, mI_nI, mI_lt, nlt_mI, mI_le, nle_mI, nI_addm, sh_b, bI_0, bI_1, bI_bI, ckZ_b, ckZ_n0, ckZ_n1, stIe, stJe, stZ_n0, stZ_n1, rm_nI, dv_nI, if_true, if_false, if_pos, if_neg, rf0, rf1, rf5, rf6, rf7, rf8, rf9, rf20, rf23, rf24, rf25, rf26, rf29, rf31, rf33, rf34, rf35, rf37, rf38, rf41, rf42, rf43,  lr1, e3]
    · have r1 := rw6_lt hf hy (m := i) (by omega)
      have ri := hr i (by omega)
      simp (disch := omega) only [↓mI_e, lit, ofN, bsm, nI_add, pk_mul, pk_sub, nI_e, nI_leE, nI_ltE, nI_mI, mI_nI, mI_lt, nlt_mI, mI_le, nle_mI, nI_addm, sh_b, bI_0, bI_1, bI_bI, ckZ_b, ckZ_n0, ckZ_n1, stIe, stJe, stZ_n0, stZ_n1, rm_nI, dv_nI, if_true, if_false, if_pos, if_neg, rf0, rf1, rf5, rf6, rf7, rf8, rf9, rf20, rf23, rf24, rf25, rf26, rf29, rf31, rf33, rf34, rf35, rf37, rf38, rf41, rf42, rf43,  lr1, lr9, e3, ri, r_doReach, hg, hh.rch]
      cases c : rch f a (rw6 f y i)
      · simp only [if_true, Bool.false_eq_true, if_false]
        exact ih m (i + 1) (by omega) (by omega) (by omega)
      · simp only [if_true, Bool.true_eq_false, if_false]
theorem gO_h {f : Nat → Int32} (hf : WFs f) {y a : Nat} (hy : y < YN f) (ha : a < 6) : ∀ k, k ≤ KN f → Hd5 f (gO f y a k).1
  | 0, _ => Hd5.rf f
  | k + 1, hk => by
    have ih := gO_h hf hy ha k (by omega)
    have r1 := rw6_lt hf hy (m := k) (by omega)
    have hK := hf.1
    have hY := hf.2.1
    have t1 := tb_lt (p := rw6 f y k) (y := y) (by omega) (by omega)
    rw [gO]
    split
    · exact ih.trans (Hd5_put12 (by omega) _)
    · exact ih
theorem gH_h {f : Nat → Int32} (hf : WFs f) {y a : Nat} (hy : y < YN f) (ha : a < 6) {G : Nat → Int32} {C : Nat} (h0 : Hd5 f G) : ∀ k, k ≤ KN f → Hd5 f (gH f y a G C k).1
  | 0, _ => h0
  | k + 1, hk => by
    have ih := gH_h hf hy ha (C := C) h0 k (by omega)
    have r1 := rw6_lt hf hy (m := k) (by omega)
    have hK := hf.1
    have hY := hf.2.1
    rw [gH]
    split
    · split
      · rename_i g2
        have r2 := rw6_lt hf hy g2
        have t2 := hb_lt (p := rw6 f y (nw f y a 7 (gH f y a G C k).2.1)) (q := rw6 f y k) (y := y) (by omega) (by omega) (by omega)
        exact ih.trans (Hd5_hop (by omega) _ _)
      · exact ih
    · exact ih
theorem r_gives1 {f : Nat → Int32} (hf : WFs f) {y a : Nat} (hy : y < YN f) (ha : a < KN f) : ∀ (n k : Nat) (τ : ST), k ≤ pm f → pm f - k < n → gA τ 1 = (gO f y a k).1 → (∀ m, m < KN f → gA τ 9 m = nI (rw6 f y m)) → k_X12_givesOut_24 n 0 (nI y) (nI a) (nI (gO f y a k).2) (nI (pm f)) (nI (tb a y)) (nI k) τ = k_X12_givesOut_87 FU 0 (nI y) (nI a) (nI (gO f y a (pm f)).2) (nI (pm f)) (nI (tb a y)) (nI 0) (sA τ 1 (gO f y a (pm f)).1) := by
  have hK := hf.1
  have hY := hf.2.1
  have hpk := pm_le (f := f)
  have t1 := tb_lt (p := a) (y := y) (by omega) (by omega)
  obtain ⟨F, hF, hF2⟩ : ∃ F, FU = F ∧ 5000 < F := ⟨FU, rfl, by unfold FU; omega⟩
  rw [hF]
  intro n
  induction n with
  | zero => intros; omega
  | succ n ih =>
    intro k τ hk hn hg hr
    have hh := gO_h hf hy (a := a) (by omega) k (by omega)
    rw [k_X12_givesOut_24, r_placeMany (by rw [hg]; exact hh.1.wf hf), hg, hh.1.pm, hF]
    by_cases e : k = pm f
    · subst e
      simp (disch := omega) only [↓mI_e, lit, ofN, bsm, nI_add, pk_mul, pk_sub, nI_e, nI_leE, nI_ltE, nI_mI, mI_nI, mI_lt, nlt_mI, mI_le, nle_mI, nI_addm, sh_b, bI_0, bI_1, bI_bI, ckZ_b, ckZ_n0, ckZ_n1, stIe, stJe, stZ_n0, stZ_n1, rm_nI, dv_nI, if_true, if_false, if_pos, if_neg, rf0, rf1, rf5, rf6, rf7, rf8, rf9, rf20, rf23, rf24, rf25, rf26, rf29, rf31, rf33, rf34, rf35, rf37, rf38, rf41, rf42, rf43, ]
      rw [← hg, sA_self]
    · have r1 := rw6_lt hf hy (m := k) (by omega)
      have t2 := tb_lt (p := rw6 f y k) (y := y) (by omega) (by omega)
      have ri := hr k (by omega)
      have et : 30 + 12 * (6 * rw6 f y k + y) = tb (rw6 f y k) y := rfl
      simp (disch := omega) only [↓mI_e, lit, ofN, bsm, nI_add, pk_mul, pk_sub, nI_e, nI_leE, nI_ltE, nI_mI, mI_nI, mI_lt, nlt_mI, mI_le, nle_mI, nI_addm, sh_b, bI_0, bI_1, bI_bI, ckZ_b, ckZ_n0, ckZ_n1, stIe, stJe, stZ_n0, stZ_n1, rm_nI, dv_nI, if_true, if_false, if_pos, if_neg, rf0, rf1, rf5, rf6, rf7, rf8, rf9, rf20, rf23, rf24, rf25, rf26, rf29, rf31, rf33, rf34, rf35, rf37, rf38, rf41, rf42, rf43,  lr9, ri, r_doReach, hg, hh.rch, f_X12_thingOf, et, k_X12_givesOut_78]
      have IH := ih (k + 1)
      rw [gO] at IH
      by_cases g1 : rw6 f y k = a
      · rw [if_neg (fun z => z.1 g1)] at IH
        simp only [g1, if_true]
        exact IH τ (by omega) (by omega) hg hr
      · simp only [if_neg g1]
        cases c : rch f a (rw6 f y k)
        · rw [if_neg (fun z => by rw [c] at z; exact absurd z.2 (by decide))] at IH
          simp only [if_true]
          exact IH τ (by omega) (by omega) hg hr
        · rw [if_pos ⟨g1, c⟩] at IH
          simp only [Bool.true_eq_false, if_false]
          have hne : tb (rw6 f y k) y + 12 ≤ tb a y ∨ tb a y + 12 ≤ tb (rw6 f y k) y := by unfold tb; omega
          rw [r_joins (by omega) (by omega) (by omega) (by omega) (by omega) hne, b_some, hg, hh.1.sm (by omega)]
          have hgo := IH (sA τ 1 (put12 (gO f y a k).1 (tb (rw6 f y k) y) (jT (sm f y) (sh (gO f y a k).1 (tb (rw6 f y k) y)) (sh (gO f y a k).1 (tb a y))))) (by omega) (by omega) (by rw [gA_sA, if_pos rfl]; rfl) (fun m hm => by rw [gA_sA, if_neg (by decide)]; exact hr m hm)
          rw [sA_sA] at hgo
          simp (disch := omega) only [↓mI_e, lit, ofN, bsm, nI_add, pk_mul, pk_sub, nI_e, nI_leE, nI_ltE, nI_mI, mI_nI, mI_lt, nlt_mI, mI_le, nle_mI, nI_addm, sh_b, bI_0, bI_1, bI_bI, ckZ_b, ckZ_n0, ckZ_n1, stIe, stJe, stZ_n0, stZ_n1, rm_nI, dv_nI, if_true, if_false, if_pos, if_neg, rf0, rf1, rf5, rf6, rf7, rf8, rf9, rf20, rf23, rf24, rf25, rf26, rf29, rf31, rf33, rf34, rf35, rf37, rf38, rf41, rf42, rf43,  hgo]
theorem gH_stop {f : Nat → Int32} {y a : Nat} {G : Nat → Int32} {C k : Nat} (h : (gH f y a G C k).2.1 = KN f) : ∀ j, gH f y a G C (k + j) = gH f y a G C k
  | 0 => rfl
  | j + 1 => by
    have ih := gH_stop h j
    show gH f y a G C ((k + j) + 1) = _
    rw [gH, ih, h]
    have e : nw f y a 7 (KN f) = KN f := by rw [nw, if_pos (Nat.le_refl _)]
    rw [e]
    split
    · rw [if_neg (by omega), ← h]
    · rfl
theorem r_gives2 {f : Nat → Int32} (hf : WFs f) {y a : Nat} (hy : y < YN f) (ha : a < KN f) {G : Nat → Int32} {C : Nat} (h0 : Hd5 f G) (hC : C ≤ 100) : ∀ (n k : Nat) (τ : ST), k ≤ pm f → pm f - k < n → gA τ 1 = (gH f y a G C k).1 → (∀ m, m < KN f → gA τ 9 m = nI (rw6 f y m)) → k_X12_givesOut_87 n 0 (nI y) (nI a) (nI (gH f y a G C k).2.2) (nI (gH f y a G C k).2.1) (nI (tb a y)) (nI k) τ = some (nI (gH f y a G C (pm f)).2.2, sI (sA τ 1 (gH f y a G C (pm f)).1) 0 28 (nI (if (gH f y a G C (pm f)).2.2 < WN f then 0 else 1))) := by
  have hK := hf.1
  have hY := hf.2.1
  have hpk := pm_le (f := f)
  have hW := hf.2.2.2.2.1
  have hN := hf.2.2.1
  have t1 := tb_lt (p := a) (y := y) (by omega) (by omega)
  obtain ⟨F, hF, hF2⟩ : ∃ F, FU = F ∧ 5000 < F := ⟨FU, rfl, by unfold FU; omega⟩
  intro n
  induction n with
  | zero => intros; omega
  | succ n ih =>
    intro k τ hk hn hg hr
    have hh := gH_h hf hy (a := a) (by omega) h0 (C := C) k (by omega)
    have hc := gH_c f y a G C k
    have fin : ∀ (τ' : ST), gA τ' 1 = (gH f y a G C (pm f)).1 → k_X12_givesOut_241 0 (nI (gH f y a G C (pm f)).2.2) τ' = some (nI (gH f y a G C (pm f)).2.2, sI τ' 0 28 (nI (if (gH f y a G C (pm f)).2.2 < WN f then 0 else 1))) := by
      intro τ' h1
      have hh2 := gH_h hf hy (a := a) (by omega) h0 (C := C) (pm f) (by omega)
      have hc2 := gH_c f y a G C (pm f)
      have e2 : gA τ' 1 2 = nI (WN f) := by rw [h1, hh2.1 2 (by omega)]; exact eW f
      simp (disch := omega) only [↓mI_e, lit, ofN, bsm, nI_add, pk_mul, pk_sub, nI_e, nI_leE, nI_ltE, nI_mI, mI_nI, mI_lt, nlt_mI, mI_le, nle_mI, nI_addm, sh_b, bI_0, bI_1, bI_bI, ckZ_b, ckZ_n0, ckZ_n1, stIe, stJe, stZ_n0, stZ_n1, rm_nI, dv_nI, if_true, if_false, if_pos, if_neg, rf0, rf1, rf5, rf6, rf7, rf8, rf9, rf20, rf23, rf24, rf25, rf26, rf29, rf31, rf33, rf34, rf35, rf37, rf38, rf41, rf42, rf43,  k_X12_givesOut_241, k_X12_givesOut_257, lr1, e2]
      split <;> rfl
    rw [k_X12_givesOut_87, r_placeMany (by rw [hg]; exact hh.1.wf hf), hg, hh.1.pm, hF]
    by_cases e : k = pm f
    · subst e
      have h1 := fin τ hg
      simp (disch := omega) only [↓mI_e, lit, ofN, bsm, nI_add, pk_mul, pk_sub, nI_e, nI_leE, nI_ltE, nI_mI, mI_nI, mI_lt, nlt_mI, mI_le, nle_mI, nI_addm, sh_b, bI_0, bI_1, bI_bI, ckZ_b, ckZ_n0, ckZ_n1, stIe, stJe, stZ_n0, stZ_n1, rm_nI, dv_nI, if_true, if_false, if_pos, if_neg, rf0, rf1, rf5, rf6, rf7, rf8, rf9, rf20, rf23, rf24, rf25, rf26, rf29, rf31, rf33, rf34, rf35, rf37, rf38, rf41, rf42, rf43,  h1]
      rw [show sA τ 1 (gH f y a G C (pm f)).1 = τ by rw [← hg, sA_self]]
    · have r1 := rw6_lt hf hy (m := k) (by omega)
      have ri := hr k (by omega)
      simp (disch := omega) only [↓mI_e, lit, ofN, bsm, nI_add, pk_mul, pk_sub, nI_e, nI_leE, nI_ltE, nI_mI, mI_nI, mI_lt, nlt_mI, mI_le, nle_mI, nI_addm, sh_b, bI_0, bI_1, bI_bI, ckZ_b, ckZ_n0, ckZ_n1, stIe, stJe, stZ_n0, stZ_n1, rm_nI, dv_nI, if_true, if_false, if_pos, if_neg, rf0, rf1, rf5, rf6, rf7, rf8, rf9, rf20, rf23, rf24, rf25, rf26, rf29, rf31, rf33, rf34, rf35, rf37, rf38, rf41, rf42, rf43,  lr9, ri, r_doReach, hg, hh.rch, k_X12_givesOut_235]
      have IH := ih (k + 1)
      rw [gH] at IH
      by_cases g1 : rw6 f y k = a
      · rw [if_neg (fun z => z.1 g1)] at IH
        simp only [g1, if_true]
        exact IH τ (by omega) (by omega) hg hr
      · simp only [if_neg g1]
        cases c : rch f a (rw6 f y k)
        · rw [if_pos ⟨g1, c⟩] at IH
          simp only [if_true]
          rw [r_watch hf hy (by omega) hg hh hr _ _ _ _ _ F 7 _ hc.1 (by omega) (by omega)]
          have hnl := nw_le f y a 7 (gH f y a G C k).2.1
          have e3 : gA τ 1 3 = nI (KN f) := by rw [hg, hh.1 3 (by omega)]; exact eK f
          unfold k_X12_givesOut_156
          by_cases g2 : nw f y a 7 (gH f y a G C k).2.1 < KN f
          · rw [if_pos g2] at IH
            have r2 := rw6_lt hf hy g2
            have t2 := hb_lt (p := rw6 f y (nw f y a 7 (gH f y a G C k).2.1)) (q := rw6 f y k) (y := y) (by omega) (by omega) (by omega)
            have ri2 := hr _ g2
            have et : 470 + 13 * ((6 * rw6 f y (nw f y a 7 (gH f y a G C k).2.1) + rw6 f y k) * 6 + y) = hb (rw6 f y (nw f y a 7 (gH f y a G C k).2.1)) (rw6 f y k) y := rfl
            simp (disch := omega) only [↓mI_e, lit, ofN, bsm, nI_add, pk_mul, pk_sub, nI_e, nI_leE, nI_ltE, nI_mI, mI_nI, mI_lt, nlt_mI, mI_le, nle_mI, nI_addm, sh_b, bI_0, bI_1, bI_bI, ckZ_b, ckZ_n0, ckZ_n1, stIe, stJe, stZ_n0, stZ_n1, rm_nI, dv_nI, if_true, if_false, if_pos, if_neg, rf0, rf1, rf5, rf6, rf7, rf8, rf9, rf20, rf23, rf24, rf25, rf26, rf29, rf31, rf33, rf34, rf35, rf37, rf38, rf41, rf42, rf43,  lr1, e3, lr9, ri2, f_X12_hintOf, et, hg]
            have go : ∀ t, t = (if (gH f y a G C k).1 (hb (rw6 f y (nw f y a 7 (gH f y a G C k).2.1)) (rw6 f y k) y) = nI 1 then jT (sm f y) (sh (gH f y a G C k).1 (hb (rw6 f y (nw f y a 7 (gH f y a G C k).2.1)) (rw6 f y k) y + 1)) (sh (gH f y a G C k).1 (tb a y)) else sh (gH f y a G C k).1 (tb a y)) → k_X12_givesOut_221 (k_X12_givesOut_87 n) 0 (nI y) (nI a) (nI (gH f y a G C k).2.2) (nI (nw f y a 7 (gH f y a G C k).2.1)) (nI (tb a y)) (nI k) (nI (hb (rw6 f y (nw f y a 7 (gH f y a G C k).2.1)) (rw6 f y k) y)) (sA τ 1 (put12 (gH f y a G C k).1 (hb (rw6 f y (nw f y a 7 (gH f y a G C k).2.1)) (rw6 f y k) y + 1) t)) = some (nI (gH f y a G C (pm f)).2.2, sI (sA τ 1 (gH f y a G C (pm f)).1) 0 28 (nI (if (gH f y a G C (pm f)).2.2 < WN f then 0 else 1))) := by
              intro t ht
              have hgo := IH (sA τ 1 (hopx f y a (rw6 f y (nw f y a 7 (gH f y a G C k).2.1)) (rw6 f y k) (gH f y a G C k).1)) (by omega) (by omega) (by rw [gA_sA, if_pos rfl]) (fun m hm => by rw [gA_sA, if_neg (by decide)]; exact hr m hm)
              rw [sA_sA] at hgo
              simp (disch := omega) only [↓mI_e, lit, ofN, bsm, nI_add, pk_mul, pk_sub, nI_e, nI_leE, nI_ltE, nI_mI, mI_nI, mI_lt, nlt_mI, mI_le, nle_mI, nI_addm, sh_b, bI_0, bI_1, bI_bI, ckZ_b, ckZ_n0, ckZ_n1, stIe, stJe, stZ_n0, stZ_n1, rm_nI, dv_nI, if_true, if_false, if_pos, if_neg, rf0, rf1, rf5, rf6, rf7, rf8, rf9, rf20, rf23, rf24, rf25, rf26, rf29, rf31, rf33, rf34, rf35, rf37, rf38, rf41, rf42, rf43,  k_X12_givesOut_221, k_X12_givesOut_235, sr1, gA_sA, sA_sA]
              rw [← hgo, ht]
              rfl
            by_cases z : (gH f y a G C k).1 (hb (rw6 f y (nw f y a 7 (gH f y a G C k).2.1)) (rw6 f y k) y) = nI 1
            · simp only [z, if_true]
              rw [r_joins (by omega) (by omega) (by omega) (by omega) (by omega) (by omega), b_some, hg, hh.1.sm (by omega)]
              exact go _ (by rw [if_pos z])
            · simp only [z, if_false]
              rw [r_copy (by omega) (by omega) (by omega), b_some, hg]
              exact go _ (by rw [if_neg z])
          · rw [if_neg g2] at IH
            have e7 : nw f y a 7 (gH f y a G C k).2.1 = KN f := by omega
            have hst : (gH f y a G C (k + 1)).2.1 = KN f := by rw [gH, if_pos ⟨g1, c⟩, if_neg g2]
            have hst2 := gH_stop hst (pm f - (k + 1))
            rw [show k + 1 + (pm f - (k + 1)) = pm f by omega] at hst2
            have hst3 : gH f y a G C (k + 1) = ((gH f y a G C k).1, KN f, (gH f y a G C k).2.2) := by rw [gH, if_pos ⟨g1, c⟩, if_neg g2]
            rw [hst3] at hst2
            have h1 := fin τ (by rw [hst2]; exact hg)
            rw [hst2] at h1 ⊢
            simp only [] at h1 ⊢
            simp (disch := omega) only [↓mI_e, lit, ofN, bsm, nI_add, pk_mul, pk_sub, nI_e, nI_leE, nI_ltE, nI_mI, mI_nI, mI_lt, nlt_mI, mI_le, nle_mI, nI_addm, sh_b, bI_0, bI_1, bI_bI, ckZ_b, ckZ_n0, ckZ_n1, stIe, stJe, stZ_n0, stZ_n1, rm_nI, dv_nI, if_true, if_false, if_pos, if_neg, rf0, rf1, rf5, rf6, rf7, rf8, rf9, rf20, rf23, rf24, rf25, rf26, rf29, rf31, rf33, rf34, rf35, rf37, rf38, rf41, rf42, rf43,  lr1, e3, e7, h1]
            rw [← hg, sA_self]
        · rw [if_neg (fun z => by rw [c] at z; exact absurd z.2 (by decide))] at IH
          simp only [Bool.true_eq_false, if_false]
          exact IH τ (by omega) (by omega) hg hr
theorem r_givesOut {τ : ST} (hf : WFs (gA τ 1)) {y a : Nat} (hy : y < YN (gA τ 1)) (ha : a < KN (gA τ 1)) : ∃ gr, f_X12_givesOut 0 (nI y) (nI a) τ = some (nI (gS (gA τ 1) y a (pm (gA τ 1))).2.2, sI (sA (sA τ 9 gr) 1 (gS (gA τ 1) y a (pm (gA τ 1))).1) 0 28 (nI (if (gS (gA τ 1) y a (pm (gA τ 1))).2.2 < WN (gA τ 1) then 0 else 1))) := by
  have hK := hf.1
  have hpk := pm_le (f := gA τ 1)
  obtain ⟨gr, h1, h2⟩ := r_laysRow hf hy
  have hcj := gO_c (gA τ 1) y a (pm (gA τ 1))
  have hgr : ∀ m, m < KN (gA τ 1) → gA (sA τ 9 gr) 9 m = nI (rw6 (gA τ 1) y m) := fun m hm => by rw [gA_sA, if_pos rfl]; exact h2 m hm
  have hm := r_placeMany (τ := sA τ 9 gr) hf
  have hh := gO_h hf hy (a := a) (by omega) (pm (gA τ 1)) (by omega)
  have h3 := r_gives1 hf hy ha FU 0 (sA τ 9 gr) (by omega) (by unfold FU; omega) rfl hgr
  have h4 := r_gives2 hf hy ha (C := (gO (gA τ 1) y a (pm (gA τ 1))).2) hh (by omega) FU 0 (sA (sA τ 9 gr) 1 (gO (gA τ 1) y a (pm (gA τ 1))).1) (by omega) (by unfold FU; omega) rfl hgr
  refine ⟨gr, ?_⟩
  unfold f_X12_givesOut
  rw [h1, b_some, hm, b_some]
  refine Eq.trans (Eq.trans ?_ h3) (Eq.trans h4 ?_)
  · simp (disch := omega) only [↓mI_e, lit, ofN, bsm, nI_add, pk_mul, pk_sub, nI_e, nI_leE, nI_ltE, nI_mI, mI_nI, mI_lt, nlt_mI, mI_le, nle_mI, nI_addm, sh_b, bI_0, bI_1, bI_bI, ckZ_b, ckZ_n0, ckZ_n1, stIe, stJe, stZ_n0, stZ_n1, rm_nI, dv_nI, if_true, if_false, if_pos, if_neg, rf0, rf1, rf5, rf6, rf7, rf8, rf9, rf20, rf23, rf24, rf25, rf26, rf29, rf31, rf33, rf34, rf35, rf37, rf38, rf41, rf42, rf43,  f_X12_thingOf]
    rfl
  · rw [sA_sA]; rfl
/-- giving out changes things and hints alone -/
theorem gS_reg {f : Nat → Int32} (hf : WFs f) {y a : Nat} (hy : y < YN f) (ha : a < 6) : ∀ k, k ≤ KN f → ∀ j, (3278 ≤ j ∨ j < 30) → (gS f y a k).1 j = f j
  | 0, _, _, _ => rfl
  | k + 1, hk, j, hj => by
    have ih := gS_reg hf hy ha k (by omega) j hj
    have r1 := rw6_lt hf hy (m := k) (by omega)
    have hK := hf.1
    have hY := hf.2.1
    have t1 := tb_lt (p := rw6 f y k) (y := y) (by omega) (by omega)
    rw [gS_s hf hy ha (by omega)]
    by_cases g : rw6 f y k = a
    · rw [if_pos g]; exact ih
    · rw [if_neg g]
      cases c : rch f a (rw6 f y k)
      · simp only [Bool.false_eq_true, if_false]
        by_cases g2 : nw f y a 7 (gS f y a k).2.1 < KN f
        · rw [if_pos g2]
          have r2 := rw6_lt hf hy g2
          have t2 := hb_lt (p := rw6 f y (nw f y a 7 (gS f y a k).2.1)) (q := rw6 f y k) (y := y) (by omega) (by omega) (by omega)
          show hopx f y a _ _ _ j = _
          unfold hopx
          rw [hop_out (by omega)]; exact ih
        · rw [if_neg g2]; exact ih
      · simp only [if_true]
        show jop f y a _ _ j = _
        unfold jop
        rw [put12_out (by omega)]; exact ih
