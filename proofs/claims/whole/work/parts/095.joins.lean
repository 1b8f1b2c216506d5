/-! JOINS, seen from both sides -/
theorem jT_lo (s : Bool) (t u : Nat → Int32) {k : Nat} (hk : k < 6) : jT s t u k = if s then mx (t k) (u k) else jb (t k) (u k) (t (6 + k)) (u (6 + k)) := by
  unfold jT; cases s <;> simp [hk]
theorem jT_hi (s : Bool) (t u : Nat → Int32) (k : Nat) : jT s t u (6 + k) = if s then t (6 + k) else mx (t (6 + k)) (u (6 + k)) := by
  unfold jT; rw [if_neg (show ¬ 6 + k < 6 by omega), if_neg (show ¬ 6 + k < 6 by omega)]
theorem jT_congr {s : Bool} {t t' u u' : Nat → Int32} (h1 : ∀ k, k < 12 → t' k = t k) (h2 : ∀ k, k < 12 → u' k = u k) {k : Nat} (hk : k < 12) : jT s t' u' k = jT s t u k := by
  unfold jT
  by_cases g : k < 6
  · simp only [if_pos g]; rw [h1 k hk, h2 k hk, h1 (6 + k) (by omega), h2 (6 + k) (by omega)]
  · simp only [if_neg g]; rw [h1 k hk, h2 k hk]
theorem CR_join {s : Bool} {σ : ST} {c i d j : Nat} {t u : Nat → Int32} (h1 : CR s σ c i t) (h2 : CR s σ d j u) : CR s (sA (sA σ (c + 1) (jF σ c i d j 6)) (c + 2) (jG σ c i d j 6)) c i (jT s t u) := by
  intro k hk
  have a1 := h1 k hk
  have a2 := h2 k hk
  have e1 : gA (sA (sA σ (c + 1) (jF σ c i d j 6)) (c + 2) (jG σ c i d j 6)) (c + 1) (i * 6 + k) = jb (gA σ (c + 1) (i * 6 + k)) (gA σ (d + 1) (j * 6 + k)) (gA σ (c + 2) (i * 6 + k)) (gA σ (d + 2) (j * 6 + k)) := by
    rw [gA_sA, if_neg (by omega), gA_sA, if_pos rfl]
    unfold jF
    rw [if_pos (by omega), show i * 6 + k - i * 6 = k by omega]
  have e2 : gA (sA (sA σ (c + 1) (jF σ c i d j 6)) (c + 2) (jG σ c i d j 6)) (c + 2) (i * 6 + k) = mx (gA σ (c + 2) (i * 6 + k)) (gA σ (d + 2) (j * 6 + k)) := by
    rw [gA_sA, if_pos rfl]
    unfold jG
    rw [if_pos (by omega), show i * 6 + k - i * 6 = k by omega]
  rw [e1, e2, jT_lo s t u hk, jT_hi]
  cases s
  · simp only [Bool.false_eq_true, if_false] at a1 a2 ⊢
    rw [a1.1, a1.2, a2.1, a2.2]; exact ⟨rfl, rfl⟩
  · simp only [if_true] at a1 a2 ⊢
    rw [a1.1, a2.1, a1.2.1, a2.2.1, jb_same]
    exact ⟨rfl, rfl, a1.2.2⟩
theorem vN_mx {a b : Int32} (ha : vN a < 2 ^ 31) (hb : vN b < 2 ^ 31) : vN (mx a b) = max (vN a) (vN b) := by
  have e1 := (nI_vN a).symm
  have e2 := (nI_vN b).symm
  unfold mx
  by_cases g : a ≤ b
  · rw [if_pos g]
    rw [e1, e2] at g
    have := (nI_leI ha hb).mp g
    omega
  · rw [if_neg g]
    rw [e1, e2] at g
    have : ¬ vN a ≤ vN b := fun z => g ((nI_leI ha hb).mpr z)
    omega
theorem TI_join {s : Bool} {B : Nat} {g : Nat → Nat} {t u : Nat → Int32} (hB : B < 2 ^ 31) (hg : ∀ k, k < 6 → g k ≤ 30) (h1 : TI s B g t) (h2 : TI s B g u) : TI s B g (jT s t u) := by
  intro k hk
  have a1 := h1 k hk
  have a2 := h2 k hk
  have hg := hg k hk
  rw [jT_lo s t u hk, jT_hi]
  cases s
  · simp only [Bool.false_eq_true, if_false] at a1 a2 ⊢
    rw [vN_mx (by omega) (by omega)]
    refine ⟨by omega, fun i hi => ?_⟩
    have : bt (t k) i = true ∨ bt (u k) i = true := by
      unfold jb at hi
      rw [bt_or, bt_or, bt_and, bt_and, bt_and] at hi
      cases q1 : bt (t k) i
      · cases q2 : bt (u k) i
        · rw [q1, q2] at hi; simp at hi
        · exact Or.inr rfl
      · exact Or.inl rfl
    rcases this with z | z
    · have := a1.2 i z; omega
    · have := a2.2 i z; omega
  · simp only [if_true] at a1 a2 ⊢
    rw [vN_mx (by omega) (by omega)]
    exact ⟨by omega, a1.2⟩
theorem CR_hb {s : Bool} {B : Nat} {g : Nat → Nat} {σ : ST} {c i d j : Nat} {t u : Nat → Int32} (hg : ∀ k, k < 6 → g k ≤ 30) (h1 : CR s σ c i t) (h2 : CR s σ d j u) (t1 : TI s B g t) (t2 : TI s B g u) : ∀ k, k < 6 → gA σ (c + 1) (i * 6 + k) = gA σ (d + 1) (j * 6 + k) ∨ ∃ a b, a ≤ 30 ∧ b ≤ 30 ∧ gA σ (c + 2) (i * 6 + k) = nI a ∧ gA σ (d + 2) (j * 6 + k) = nI b := by
  intro k hk
  have a1 := h1 k hk
  have a2 := h2 k hk
  have b1 := t1 k hk
  have b2 := t2 k hk
  have hg := hg k hk
  cases s
  · simp only [Bool.false_eq_true, if_false] at a1 a2 b1 b2
    exact Or.inr ⟨vN (t (6 + k)), vN (u (6 + k)), by omega, by omega, by rw [a1.2, nI_vN], by rw [a2.2, nI_vN]⟩
  · simp only [if_true] at a1 a2
    exact Or.inl (by rw [a1.1, a2.1])
/-- the worlds alike but for have -/
def onlyH (s s' : ST) (c : Nat) : Prop := (∀ x k, gI s' x k = gI s x k) ∧ (∀ x, x ≠ 16 → x ≠ 17 → gA s' x = gA s x) ∧ (∀ x, gB s' x = gB s x) ∧ ∀ j, ¬ (c * 6 ≤ j ∧ j < c * 6 + 6) → gA s' 16 j = gA s 16 j ∧ gA s' 17 j = gA s 17 j
theorem put12_out {f : Nat → Int32} {to : Nat} {t : Nat → Int32} {k : Nat} (h : k < to ∨ to + 12 ≤ k) : put12 f to t k = f k := if_neg (by omega)
theorem put12_in {f : Nat → Int32} {to : Nat} {t : Nat → Int32} {k : Nat} (hk : k < 12) : put12 f to t (to + k) = t k := by
  unfold put12; rw [if_pos (by omega), show to + k - to = k by omega]
theorem RelW_have {B : Nat} {s s' : ST} {f : Nat → Int32} {g : Nat → Int64} (h : RelW B s f g) {p y : Nat} (hp : p < 6) (hy : y < 6) (ho : onlyH s s' (p * 6 + y)) {t : Nat → Int32} (hc : CR (sm f y) s' 15 (p * 6 + y) t) (ht : TI (sm f y) B (fun k => gv f k y) t) : RelW B s' (put12 f (tb p y) t) g := by
  obtain ⟨hS, hU, hT, hG, hV, hH, hI, hD, hN⟩ := h
  obtain ⟨o1, o2, o3, o4⟩ := ho
  have htb : 30 ≤ tb p y ∧ tb p y + 12 ≤ 462 := by unfold tb; omega
  have e : ∀ k, k < 30 ∨ 462 ≤ k → put12 f (tb p y) t k = f k := fun k hk => put12_out (by omega)
  have hf : Hd f (put12 f (tb p y) t) := fun k hk => e k (by omega)
  have hY := hS.1.2.1
  have hgv : ∀ k y', k < 6 → y' < 6 → gv (put12 f (tb p y) t) k y' = gv f k y' := fun k y' hk hy' => gv_c (fun j a b => e j (by omega)) hk hy'
  have hg : ∀ k y', k < 6 → y' < 6 → gv f k y' ≤ gv (put12 f (tb p y) t) k y' := fun k y' hk hy' => by rw [hgv k y' hk hy']; exact Nat.le_refl _
  refine ⟨RS_c hf hS (o1 1) (o2 2 (by decide) (by decide)) (o2 4 (by decide) (by decide)) (o2 6 (by decide) (by decide)) (o2 7 (by decide) (by decide)), RU_c hU (e 5 (by omega)) (e 6 (by omega)) (o1 0 9) (o1 0 10), RT_c hf hY hT (fun k a b => e k (by omega)) hg (o1 0 11) (o2 23 (by decide) (by decide)) (o2 24 (by decide) (by decide)) (o2 25 (by decide) (by decide)), RG_c hf hG (fun k a b => e k (by omega)) (o2 26 (by decide) (by decide)), RV_c hG hV (fun k a b => e k (by omega)) (fun k a b => e k (by omega)) (o2 27 (by decide) (by decide)), ?_, RI_c hf hI hg (fun k a b => e k (by omega)) (o2 19 (by decide) (by decide)) (o2 20 (by decide) (by decide)) (o2 21 (by decide) (by decide)), RD_c hf hY hD (e 7 (by omega)) (fun k a b => e k (by omega)) (o1 8 6) (o1 8 7) (fun x a b => o2 x (by omega) (by omega)), RN_c hf hN (o3 3) (o3 5)⟩
  intro p' y' hp' hy'
  rw [hf.sm hy']
  by_cases q : p' = p ∧ y' = y
  · obtain ⟨rfl, rfl⟩ := q
    have e1 : ∀ k, k < 12 → sh (put12 f (tb p' y') t) (tb p' y') k = t k := fun k hk => put12_in hk
    exact ⟨CR_congr e1 hc, TI_congr e1 (fun k hk => hgv k y' hk hy') ht⟩
  · have hne : tb p' y' + 12 ≤ tb p y ∨ tb p y + 12 ≤ tb p' y' := by unfold tb; omega
    have e1 : ∀ k, k < 12 → sh (put12 f (tb p y) t) (tb p' y') k = sh f (tb p' y') k := fun k hk => by unfold sh; exact put12_out (by omega)
    refine ⟨CR_congr e1 (fun k hk => ?_), TI_congr e1 (fun k hk => hgv k y' hk hy') (hH p' y' hp' hy').2⟩
    have h1 := (hH p' y' hp' hy').1 k hk
    have h2 := o4 ((p' * 6 + y') * 6 + k) (by omega)
    show if sm f y' then (gA s' 16 _ = _ ∧ gA s' 17 _ = _ ∧ _) else (gA s' 16 _ = _ ∧ gA s' 17 _ = _)
    rw [h2.1, h2.2]; exact h1
theorem gvl {B : Nat} {s : ST} {f : Nat → Int32} {g : Nat → Int64} (h : RelW B s f g) {y : Nat} (hy : y < 6) : ∀ k, k < 6 → gv f k y ≤ 30 := fun k hk => (h.2.2.2.1.2 k y hk hy).1
theorem onlyH_join {σ : ST} {w c d j : Nat} : onlyH (wv σ w) (wv (sA (sA σ (w + 15 + 1) (jF σ (w + 15) c d j 6)) (w + 15 + 2) (jG σ (w + 15) c d j 6)) w) c := by
  have e : wv (sA (sA σ (w + 15 + 1) (jF σ (w + 15) c d j 6)) (w + 15 + 2) (jG σ (w + 15) c d j 6)) w = sA (sA (wv σ w) 16 (jF σ (w + 15) c d j 6)) 17 (jG σ (w + 15) c d j 6) := by
    rw [show w + 15 + 1 = w + 16 by omega, show w + 15 + 2 = w + 17 by omega, wv_sA _ _ (by decide), wv_sA _ _ (by decide)]
  rw [e]
  refine ⟨fun _ _ => rfl, fun x h1 h2 => by rw [gA_sA, if_neg h2, gA_sA, if_neg h1], fun _ => rfl, fun k hk => ⟨?_, ?_⟩⟩
  · rw [gA_sA, if_neg (by decide), gA_sA, if_pos rfl]
    unfold jF
    rw [if_neg hk]; rfl
  · rw [gA_sA, if_pos rfl]
    unfold jG
    rw [if_neg hk]; rfl
theorem wv_CR2 {s : Bool} {σ : ST} {w c i : Nat} {t : Nat → Int32} (hc : c + 2 < 28) (h : CR s σ (w + c) i t) : CR s (wv σ w) c i t := by
  intro k hk
  have := h k hk
  rw [wv_A _ _ (by omega), wv_A _ _ (by omega)]
  exact this
/-- a join into what a keeper has -/
theorem W_joinH {w : Nat} (hw : isW w) {B : Nat} (hB : B < 2 ^ 31) {σ : ST} {f : Nat → Int32} {g : Nat → Int64} (h : RelW B (wv σ w) f g) {p y : Nat} (hp : p < 6) (hy : y < 6) {d M j : Nat} (hd : isC d M) (hj : j * 6 + 6 ≤ M) (hcd : (w + 15 = d ∧ p * 6 + y ≠ j) ∨ w + 15 + 3 ≤ d ∨ d + 3 ≤ w + 15) {u : Nat → Int32} (hu : CR (sm f y) σ d j u) (ht : TI (sm f y) B (fun k => gv f k y) u) : ∃ σ1, f_X0_join (w + 15) (nI (p * 6 + y)) d (nI j) σ = some σ1 ∧ RelW B (wv σ1 w) (put12 f (tb p y) (jT (sm f y) (sh f (tb p y)) u)) g ∧ Sq (inW w) [] σ σ1 ∧ ∀ x, x ≠ w + 16 → x ≠ w + 17 → gA σ1 x = gA σ x := by
  obtain ⟨c1, t1⟩ := h.2.2.2.2.2.1 p y hp hy
  have c1' := wv_CR (c := 15) (by decide) c1
  have hj1 := c_join (isC_h hw) hd (i := p * 6 + y) (j := j) (by omega) hj hcd σ (CR_hb (gvl h hy) c1' hu t1 ht)
  refine ⟨_, hj1, ?_, ?_, fun x h1 h2 => ?_⟩
  · exact RelW_have h hp hy onlyH_join (wv_CR2 (by decide) (CR_join c1' hu)) (TI_join hB (gvl h hy) t1 ht)
  · rw [show w + 15 + 1 = w + 16 by omega, show w + 15 + 2 = w + 17 by omega]
    exact SqW_sA hw (SqW_sA hw (Sq.rf σ) (by decide) _) (by decide) _
  · rw [gA_sA, if_neg (by omega), gA_sA, if_neg (by omega)]
/-! hints -/
def hop (f : Nat → Int32) (h : Nat) (t : Nat → Int32) (v : Int32) : Nat → Int32 := upd (put12 f (h + 1) t) h v
theorem hop_out {f : Nat → Int32} {h : Nat} {t : Nat → Int32} {v : Int32} {k : Nat} (hk : k < h ∨ h + 13 ≤ k) : hop f h t v k = f k := by
  unfold hop; rw [upd_at, if_neg (by omega), put12_out (by omega)]
theorem hop_0 {f : Nat → Int32} {h : Nat} {t : Nat → Int32} {v : Int32} : hop f h t v h = v := by unfold hop; rw [upd_at, if_pos rfl]
theorem hop_in {f : Nat → Int32} {h : Nat} {t : Nat → Int32} {v : Int32} {k : Nat} (hk : k < 12) : hop f h t v (h + 1 + k) = t k := by
  unfold hop; rw [upd_at, if_neg (by omega), put12_in hk]
def onlyI (s s' : ST) (p q y : Nat) : Prop := (∀ x k, gI s' x k = gI s x k) ∧ (∀ x, x ≠ 19 → x ≠ 20 → x ≠ 21 → gA s' x = gA s x) ∧ (∀ x, gB s' x = gB s x) ∧ (∀ j, ¬ (((p * 6 + q) * 6 + y) * 6 ≤ j ∧ j < ((p * 6 + q) * 6 + y) * 6 + 6) → gA s' 19 j = gA s 19 j ∧ gA s' 20 j = gA s 20 j) ∧ (∀ j, j ≠ p * 6 + q → gA s' 21 j = gA s 21 j) ∧ ∀ k, k ≠ y → bt (gA s' 21 (p * 6 + q)) k = bt (gA s 21 (p * 6 + q)) k
theorem RelW_hint {B : Nat} {s s' : ST} {f : Nat → Int32} {g : Nat → Int64} (h : RelW B s f g) {p q y : Nat} (hp : p < 6) (hq : q < 6) (hy : y < 6) (ho : onlyI s s' p q y) {t : Nat → Int32} (hc : CR (sm f y) s' 18 ((p * 6 + q) * 6 + y) t) (ht : TI (sm f y) B (fun k => gv f k y) t) {v : Int32} (hb1 : bt (gA s' 21 (p * 6 + q)) y = decide (v = nI 1)) (hv : (v = nI 0 ∧ ∀ k, k < 12 → t k = nI 0) ∨ (v = nI 1 ∧ p < KN f ∧ q < KN f ∧ y < YN f)) : RelW B s' (hop f (hb p q y) t v) g := by
  obtain ⟨hS, hU, hT, hG, hV, hH, hI, hD, hN⟩ := h
  obtain ⟨o1, o2, o3, o4, o5, o6⟩ := ho
  have hhb : 470 ≤ hb p q y ∧ hb p q y + 13 ≤ 3278 := by unfold hb; omega
  have e : ∀ k, k < 470 ∨ 3278 ≤ k → hop f (hb p q y) t v k = f k := fun k hk => hop_out (by omega)
  have hf : Hd f (hop f (hb p q y) t v) := fun k hk => e k (by omega)
  have hY := hS.1.2.1
  have hgv : ∀ k y', k < 6 → y' < 6 → gv (hop f (hb p q y) t v) k y' = gv f k y' := fun k y' hk hy' => gv_c (fun j a b => e j (by omega)) hk hy'
  have hg : ∀ k y', k < 6 → y' < 6 → gv f k y' ≤ gv (hop f (hb p q y) t v) k y' := fun k y' hk hy' => by rw [hgv k y' hk hy']; exact Nat.le_refl _
  refine ⟨RS_c hf hS (o1 1) (o2 2 (by decide) (by decide) (by decide)) (o2 4 (by decide) (by decide) (by decide)) (o2 6 (by decide) (by decide) (by decide)) (o2 7 (by decide) (by decide) (by decide)), RU_c hU (e 5 (by omega)) (e 6 (by omega)) (o1 0 9) (o1 0 10), RT_c hf hY hT (fun k a b => e k (by omega)) hg (o1 0 11) (o2 23 (by decide) (by decide) (by decide)) (o2 24 (by decide) (by decide) (by decide)) (o2 25 (by decide) (by decide) (by decide)), RG_c hf hG (fun k a b => e k (by omega)) (o2 26 (by decide) (by decide) (by decide)), RV_c hG hV (fun k a b => e k (by omega)) (fun k a b => e k (by omega)) (o2 27 (by decide) (by decide) (by decide)), RH_c hf hH hg (fun k a b => e k (by omega)) (o2 16 (by decide) (by decide) (by decide)) (o2 17 (by decide) (by decide) (by decide)), ?_, RD_c hf hY hD (e 7 (by omega)) (fun k a b => e k (by omega)) (o1 8 6) (o1 8 7) (fun x a b => o2 x (by omega) (by omega) (by omega)), RN_c hf hN (o3 3) (o3 5)⟩
  intro p' q' hp' hq'
  have h0 := hI p' q' hp' hq'
  refine ⟨fun y' => ?_, fun y' hy' => ?_⟩
  · by_cases z : p' = p ∧ q' = q
    · obtain ⟨rfl, rfl⟩ := z
      by_cases z2 : y' = y
      · subst z2
        rw [hb1, hop_0]
        exact decide_eq_decide.mpr ⟨fun a => ⟨hy, a⟩, fun a => a.2⟩
      · rw [o6 y' z2, h0.1 y']
        refine decide_eq_decide.mpr ⟨fun a => ⟨a.1, ?_⟩, fun a => ⟨a.1, ?_⟩⟩
        · rw [hop_out (by unfold hb; omega)]; exact a.2
        · have := a.2; rw [hop_out (by unfold hb; omega)] at this; exact this
    · rw [o5 _ (by omega), h0.1 y']
      refine decide_eq_decide.mpr ⟨fun a => ⟨a.1, ?_⟩, fun a => ⟨a.1, ?_⟩⟩
      · rw [hop_out (by have := a.1; unfold hb; omega)]; exact a.2
      · have := a.2; rw [hop_out (by have := a.1; unfold hb; omega)] at this; exact this
  · rw [hf.sm hy', hf.K, hf.Y]
    by_cases z : p' = p ∧ q' = q ∧ y' = y
    · obtain ⟨rfl, rfl, rfl⟩ := z
      have e1 : ∀ k, k < 12 → sh (hop f (hb p' q' y') t v) (hb p' q' y' + 1) k = t k := fun k hk => hop_in hk
      refine ⟨CR_congr e1 hc, TI_congr e1 (fun k hk => hgv k y' hk hy') ht, ?_⟩
      rw [hop_0]
      rcases hv with z | z
      · exact Or.inl ⟨z.1, fun k hk => by rw [hop_in hk]; exact z.2 k hk⟩
      · exact Or.inr z
    · obtain ⟨a1, a2, a3⟩ := h0.2 y' hy'
      have hne : hb p' q' y' + 13 ≤ hb p q y ∨ hb p q y + 13 ≤ hb p' q' y' := by unfold hb; omega
      have e1 : ∀ k, k < 12 → sh (hop f (hb p q y) t v) (hb p' q' y' + 1) k = sh f (hb p' q' y' + 1) k := fun k hk => by unfold sh; exact hop_out (by omega)
      refine ⟨CR_congr e1 (fun k hk => ?_), TI_congr e1 (fun k hk => hgv k y' hk hy') a2, ?_⟩
      · have h1 := a1 k hk
        have h2 := o4 (((p' * 6 + q') * 6 + y') * 6 + k) (by omega)
        show if sm f y' then (gA s' 19 _ = _ ∧ gA s' 20 _ = _ ∧ _) else (gA s' 19 _ = _ ∧ gA s' 20 _ = _)
        rw [h2.1, h2.2]; exact h1
      · rw [hop_out (by omega)]
        rcases a3 with z | z
        · exact Or.inl ⟨z.1, fun k hk => by rw [hop_out (by omega)]; exact z.2 k hk⟩
        · exact Or.inr z
