/-! WIPE -/
def zr (f : Nat → Int32) (lo hi : Nat) : Nat → Int32 := fun j => if lo ≤ j ∧ j < hi then nI 0 else f j
theorem zr_out {f : Nat → Int32} {lo hi j : Nat} (h : j < lo ∨ hi ≤ j) : zr f lo hi j = f j := if_neg (by omega)
theorem zr_in {f : Nat → Int32} {lo hi j : Nat} (h : lo ≤ j) (h2 : j < hi) : zr f lo hi j = nI 0 := if_pos ⟨h, h2⟩
theorem fill_add (f : Nat → Int32) {a b c : Nat} (h : a ≤ b) (h2 : b ≤ c) (v : Int32) : fillF (fillF f a b v) b c v = fillF f a c v := by
  funext k
  unfold fillF
  by_cases g1 : b ≤ k ∧ k < c
  · rw [if_pos g1, if_pos (by omega)]
  · rw [if_neg g1]
    by_cases g2 : a ≤ k ∧ k < b
    · rw [if_pos g2, if_pos (by omega)]
    · rw [if_neg g2, if_neg (by omega)]
theorem RelW_zero {B : Nat} {s : ST} {f : Nat → Int32} {g : Nat → Int64} (h : RelW B s f g) {p y : Nat} (hp : p < 6) (hy : y < 6) (hY : YN f ≤ y) : ∀ k, k < 12 → f (tb p y + k) = nI 0 := by
  have hs := h.1.2.2.2.2.2.1 y hY hy
  have ti := (h.2.2.2.2.2.1 p y hp hy).2
  rw [hs] at ti
  have hg := fun k hk => (h.2.2.2.1.2 k y hk hy).2 (Or.inr hY)
  have hc : ∀ k, k < 6 → f (tb p y + (6 + k)) = nI 0 := fun k hk => by
    have h1 := ti k hk
    simp only [Bool.false_eq_true, if_false] at h1
    have h2 := hg k hk
    have h3 : vN (f (tb p y + (6 + k))) = 0 := by have := h1.1; unfold sh at this; omega
    exact vN_inj (by rw [h3]; rfl)
  intro k hk
  by_cases q : k < 6
  · have h1 := ti k q
    simp only [Bool.false_eq_true, if_false] at h1
    apply bt_ext
    intro i hi
    rw [bt_n0]
    cases z : bt (f (tb p y + k)) i
    · rfl
    · have h2 := h1.2 i z
      have h3 := hc k q
      unfold sh at h2
      rw [h3, vN_nI (by decide)] at h2
      omega
  · have := hc (k - 6) (by omega)
    rw [show 6 + (k - 6) = k by omega] at this
    exact this
theorem TI_0 (s : Bool) (B : Nat) (g : Nat → Nat) {t : Nat → Int32} (h : ∀ k, k < 12 → t k = nI 0) : TI s B g t := by
  intro k hk
  rw [h k (by omega), h (6 + k) (by omega)]
  have e : vN (nI 0) = 0 := rfl
  cases s
  · simp only [Bool.false_eq_true, if_false, e]
    exact ⟨Nat.zero_le _, fun i hi => by rw [bt_n0] at hi; exact absurd hi (by decide)⟩
  · simp only [if_true, e]
    exact ⟨Nat.zero_le _, trivial⟩
/-- a cell of have is emptied -/
theorem W_emptyH {w : Nat} (hw : isW w) {B : Nat} {σ : ST} {f : Nat → Int32} {g : Nat → Int64} (h : RelW B (wv σ w) f g) {p y : Nat} (hp : p < 6) (hy : y < 6) : ∃ σ1, f_X0_empty (w + 15) (nI (p * 6 + y)) σ = some σ1 ∧ RelW B (wv σ1 w) (zr f (tb p y) (tb p (y + 1))) g ∧ Sq (inW w) [] σ σ1 := by
  have e1 := c_empty (isC_h hw) (i := p * 6 + y) (by omega) σ
  refine ⟨_, e1, ?_, ?_⟩
  · rw [show w + 15 + 1 = w + 16 by omega, show w + 15 + 2 = w + 17 by omega, wv_sA _ _ (by decide), wv_sA _ _ (by decide)]
    have ez : zr f (tb p y) (tb p (y + 1)) = put12 f (tb p y) (fun _ => nI 0) := by
      funext j
      unfold zr put12
      have : tb p (y + 1) = tb p y + 12 := by unfold tb; omega
      rw [this]
    rw [ez]
    refine RelW_have h hp hy ?_ ?_ (TI_0 _ _ _ (fun _ _ => rfl))
    · refine ⟨fun _ _ => rfl, fun x h1 h2 => by rw [gA_sA, if_neg h2, gA_sA, if_neg h1], fun _ => rfl, fun j hj => ⟨?_, ?_⟩⟩
      · rw [gA_sA, if_neg (by decide), gA_sA, if_pos rfl]
        unfold fillF
        rw [if_neg hj]; rfl
      · rw [gA_sA, if_pos rfl]
        unfold fillF
        rw [if_neg hj]; rfl
    · intro k hk
      have a1 : fillF (gA σ (w + 16)) ((p * 6 + y) * 6) ((p * 6 + y) * 6 + 6) (nI 0) ((p * 6 + y) * 6 + k) = nI 0 := if_pos (by omega)
      have a2 : fillF (gA σ (w + 17)) ((p * 6 + y) * 6) ((p * 6 + y) * 6 + 6) (nI 0) ((p * 6 + y) * 6 + k) = nI 0 := if_pos (by omega)
      show if sm f y then (fillF (gA σ (w + 16)) _ _ _ _ = _ ∧ fillF (gA σ (w + 17)) _ _ _ _ = _ ∧ _) else (fillF (gA σ (w + 16)) _ _ _ _ = _ ∧ fillF (gA σ (w + 17)) _ _ _ _ = _)
      rw [a1, a2]
      cases sm f y
      · exact ⟨rfl, rfl⟩
      · exact ⟨rfl, rfl, rfl⟩
  · rw [show w + 15 + 1 = w + 16 by omega, show w + 15 + 2 = w + 17 by omega]
    exact SqW_sA hw (SqW_sA hw (Sq.rf σ) (by decide) _) (by decide) _
/-! hints of a couple are dropped -/
theorem RelW_drop {B : Nat} {s s' : ST} {f : Nat → Int32} {g : Nat → Int64} (h : RelW B s f g) {p q : Nat} (hp : p < 6) (hq : q < 6) (o1 : ∀ x k, gI s' x k = gI s x k) (o2 : ∀ x, x ≠ 19 → x ≠ 20 → x ≠ 21 → gA s' x = gA s x) (o3 : ∀ x, gB s' x = gB s x) (o19 : gA s' 19 = fillF (gA s 19) (((p * 6 + q) * 6) * 6) (((p * 6 + q) * 6 + YN f) * 6) (nI 0)) (o20 : gA s' 20 = fillF (gA s 20) (((p * 6 + q) * 6) * 6) (((p * 6 + q) * 6 + YN f) * 6) (nI 0)) (o21 : gA s' 21 = upd (gA s 21) (p * 6 + q) (nI 0)) : RelW B s' (zr f (hb p q 0) (hb p q 6)) g := by
  obtain ⟨hS, hU, hT, hG, hV, hH, hI, hD, hN⟩ := h
  have hhb : 470 ≤ hb p q 0 ∧ hb p q 6 ≤ 3278 := by unfold hb; omega
  have e : ∀ k, k < 470 ∨ 3278 ≤ k → zr f (hb p q 0) (hb p q 6) k = f k := fun k hk => zr_out (by omega)
  have hf : Hd f (zr f (hb p q 0) (hb p q 6)) := fun k hk => e k (by omega)
  have hY := hS.1.2.1
  have hgv : ∀ k y', k < 6 → y' < 6 → gv (zr f (hb p q 0) (hb p q 6)) k y' = gv f k y' := fun k y' hk hy' => gv_c (fun j a b => e j (by omega)) hk hy'
  have hg : ∀ k y', k < 6 → y' < 6 → gv f k y' ≤ gv (zr f (hb p q 0) (hb p q 6)) k y' := fun k y' hk hy' => by rw [hgv k y' hk hy']; exact Nat.le_refl _
  refine ⟨RS_c hf hS (o1 1) (o2 2 (by decide) (by decide) (by decide)) (o2 4 (by decide) (by decide) (by decide)) (o2 6 (by decide) (by decide) (by decide)) (o2 7 (by decide) (by decide) (by decide)), RU_c hU (e 5 (by omega)) (e 6 (by omega)) (o1 0 9) (o1 0 10), RT_c hf hY hT (fun k a b => e k (by omega)) hg (o1 0 11) (o2 23 (by decide) (by decide) (by decide)) (o2 24 (by decide) (by decide) (by decide)) (o2 25 (by decide) (by decide) (by decide)), RG_c hf hG (fun k a b => e k (by omega)) (o2 26 (by decide) (by decide) (by decide)), RV_c hG hV (fun k a b => e k (by omega)) (fun k a b => e k (by omega)) (o2 27 (by decide) (by decide) (by decide)), RH_c hf hH hg (fun k a b => e k (by omega)) (o2 16 (by decide) (by decide) (by decide)) (o2 17 (by decide) (by decide) (by decide)), ?_, RD_c hf hY hD (e 7 (by omega)) (fun k a b => e k (by omega)) (o1 8 6) (o1 8 7) (fun x a b => o2 x (by omega) (by omega) (by omega)), RN_c hf hN (o3 3) (o3 5)⟩
  intro p' q' hp' hq'
  have h0 := hI p' q' hp' hq'
  by_cases z : p' = p ∧ q' = q
  · obtain ⟨rfl, rfl⟩ := z
    have ez : ∀ y' k, y' < 6 → k < 13 → zr f (hb p' q' 0) (hb p' q' 6) (hb p' q' y' + k) = nI 0 := fun y' k hy' hk => zr_in (by unfold hb; omega) (by unfold hb; omega)
    refine ⟨fun y' => ?_, fun y' hy' => ?_⟩
    · rw [o21, upd_at, if_pos rfl, bt_n0]
      symm
      apply decide_eq_false
      intro a
      have := ez y' 0 a.1 (by omega)
      rw [Nat.add_zero] at this
      rw [this] at a
      exact absurd a.2 (by decide)
    · rw [hf.sm hy']
      have e1 : ∀ k, k < 12 → sh (zr f (hb p' q' 0) (hb p' q' 6)) (hb p' q' y' + 1) k = nI 0 := fun k hk => by unfold sh; rw [show hb p' q' y' + 1 + k = hb p' q' y' + (1 + k) by omega]; exact ez y' _ hy' (by omega)
      refine ⟨?_, TI_0 _ _ _ e1, Or.inl ⟨by have := ez y' 0 hy' (by omega); exact this, e1⟩⟩
      have c0 : gA s' 19 = gA s' 19 := rfl
      intro k hk
      have hcell : gA s' 19 (((p' * 6 + q') * 6 + y') * 6 + k) = nI 0 ∧ gA s' 20 (((p' * 6 + q') * 6 + y') * 6 + k) = nI 0 := by
        rw [o19, o20]
        unfold fillF
        by_cases z : y' < YN f
        · rw [if_pos (by omega), if_pos (by omega)]; exact ⟨rfl, rfl⟩
        · rw [if_neg (by omega), if_neg (by omega)]
          rcases (h0.2 y' hy').2.2 with z1 | z1
          · have h1 := (h0.2 y' hy').1 k hk
            have u1 : sh f (hb p' q' y' + 1) k = nI 0 := z1.2 k (by omega)
            have u2 : sh f (hb p' q' y' + 1) (6 + k) = nI 0 := z1.2 (6 + k) (by omega)
            rw [u1, u2] at h1
            cases hs : sm f y'
            · rw [hs] at h1; exact h1
            · rw [hs] at h1; exact ⟨h1.1, h1.2.1⟩
          · omega
      show if sm f y' then (gA s' 19 _ = _ ∧ gA s' 20 _ = _ ∧ _) else (gA s' 19 _ = _ ∧ gA s' 20 _ = _)
      rw [e1 k (by omega), e1 (6 + k) (by omega), hcell.1, hcell.2]
      cases sm f y'
      · exact ⟨rfl, rfl⟩
      · exact ⟨rfl, rfl, rfl⟩
  · have hne : ∀ y', y' < 6 → hb p' q' y' + 13 ≤ hb p q 0 ∨ hb p q 6 ≤ hb p' q' y' := fun y' hy' => by unfold hb; omega
    refine ⟨fun y' => ?_, fun y' hy' => ?_⟩
    · rw [o21, upd_at, if_neg (by omega), h0.1 y']
      refine decide_eq_decide.mpr ⟨fun a => ⟨a.1, ?_⟩, fun a => ⟨a.1, ?_⟩⟩
      · rw [zr_out (by have := hne y' a.1; omega)]; exact a.2
      · have h2 := a.2; rw [zr_out (by have := hne y' a.1; omega)] at h2; exact h2
    · rw [hf.sm hy', hf.K, hf.Y]
      obtain ⟨a1, a2, a3⟩ := h0.2 y' hy'
      have hn := hne y' hy'
      have e1 : ∀ k, k < 12 → sh (zr f (hb p q 0) (hb p q 6)) (hb p' q' y' + 1) k = sh f (hb p' q' y' + 1) k := fun k hk => by unfold sh; exact zr_out (by omega)
      refine ⟨CR_congr e1 (fun k hk => ?_), TI_congr e1 (fun k hk => hgv k y' hk hy') a2, ?_⟩
      · have h1 := a1 k hk
        have b1 : gA s' 19 (((p' * 6 + q') * 6 + y') * 6 + k) = gA s 19 (((p' * 6 + q') * 6 + y') * 6 + k) := by rw [o19]; exact if_neg (by omega)
        have b2 : gA s' 20 (((p' * 6 + q') * 6 + y') * 6 + k) = gA s 20 (((p' * 6 + q') * 6 + y') * 6 + k) := by rw [o20]; exact if_neg (by omega)
        show if sm f y' then (gA s' 19 _ = _ ∧ gA s' 20 _ = _ ∧ _) else (gA s' 19 _ = _ ∧ gA s' 20 _ = _)
        rw [b1, b2]; exact h1
      · rw [zr_out (by omega)]
        rcases a3 with z1 | z1
        · exact Or.inl ⟨z1.1, fun k hk => by rw [zr_out (by omega)]; exact z1.2 k hk⟩
        · exact Or.inr z1
theorem hb_split {p q j : Nat} (h : hb p q 0 ≤ j) (h2 : j < hb p q 6) : ∃ y k, y < 6 ∧ k < 13 ∧ j = hb p q y + k := by
  have h1 : hb p q 6 = hb p q 0 + 78 := by unfold hb; omega
  refine ⟨(j - hb p q 0) / 13, (j - hb p q 0) % 13, by omega, Nat.mod_lt _ (by decide), ?_⟩
  have h3 : ∀ y, hb p q y = hb p q 0 + 13 * y := fun y => by unfold hb; omega
  rw [h3]; omega
theorem hb_split2 {a j : Nat} (h : hb a 0 0 ≤ j) (h2 : j < hb a 0 0 + 468) : ∃ q y k, q < 6 ∧ y < 6 ∧ k < 13 ∧ j = hb a q y + k := by
  refine ⟨(j - hb a 0 0) / 78, (j - hb a 0 0) % 78 / 13, (j - hb a 0 0) % 13, by omega, by omega, Nat.mod_lt _ (by decide), ?_⟩
  have h3 : ∀ q y, hb a q y = hb a 0 0 + 78 * q + 13 * y := fun q y => by unfold hb; omega
  rw [h3]; omega
theorem tb_split {a j : Nat} (h : tb a 0 ≤ j) (h2 : j < tb a 0 + 72) : ∃ y k, y < 6 ∧ k < 12 ∧ j = tb a y + k := by
  refine ⟨(j - tb a 0) / 12, (j - tb a 0) % 12, by omega, Nat.mod_lt _ (by decide), ?_⟩
  have h3 : ∀ y, tb a y = tb a 0 + 12 * y := fun y => by unfold tb; omega
  rw [h3]; omega
theorem c_dropHints_loop {w : Nat} (hw : isW w) {Y c : Nat} (hY : Y ≤ 6) (hc : c < 36) (σ : ST) (e7 : gI σ (w + 1) 7 = nI Y) : ∀ (n k : Nat) (σ' : ST), k ≤ Y → Y - k < n → σ' = sA (sA σ (w + 19) (fillF (gA σ (w + 19)) (c * 6 * 6) ((c * 6 + k) * 6) (nI 0))) (w + 20) (fillF (gA σ (w + 20)) (c * 6 * 6) ((c * 6 + k) * 6) (nI 0)) → k_X10_dropHints_12 n w (nI c) (nI k) σ' = some (sA (sA (sA σ (w + 19) (fillF (gA σ (w + 19)) (c * 6 * 6) ((c * 6 + Y) * 6) (nI 0))) (w + 20) (fillF (gA σ (w + 20)) (c * 6 * 6) ((c * 6 + Y) * 6) (nI 0))) (w + 21) (upd (gA σ (w + 21)) c (nI 0))) := by
  intro n
  induction n with
  | zero => intros; omega
  | succ n ih =>
    intro k σ' hk hn hs
    rw [k_X10_dropHints_12]
    have e7' : gI σ' (w + 1) 7 = nI Y := by rw [hs]; exact e7
    by_cases e : k = Y
    · subst e
      have e21 : gA σ' (w + 21) = gA σ (w + 21) := by rw [hs, gA_sA, if_neg (by omega), gA_sA, if_neg (by omega)]
      simp (disch := omega) only [↓mI_e, lit, ofN, bsm, nI_add, pk_mul, pk_sub, nI_e, nI_leE, nI_ltE, nI_mI, mI_nI, mI_lt, nlt_mI, mI_le, nle_mI, nI_addm, sh_b, bI_0, bI_1, bI_bI, ckZ_b, ckZ_n0, ckZ_n1, stIe, stJe, stZ_n0, stZ_n1, rm_nI, dv_nI, if_true, if_false, if_pos, if_neg, rf0, rf1, rf5, rf6, rf7, rf8, rf9, rf20, rf23, rf24, rf25, rf26, rf29, rf31, rf33, rf34, rf35, rf37, rf38, rf41, rf42, rf43,  w_0 hw, w_1 hw, w_2 hw, w_3 hw, w_4 hw, w_5 hw, w_6 hw, w_7 hw, w_8 hw, ws_0 hw, ws_1 hw, ws_2 hw, ws_3 hw, ws_4 hw, ws_5 hw, wd_0 hw, wd_1 hw, wd_2 hw, wd_3 hw, wd_4 hw, wd_5 hw, wh_0 hw, wh_1 hw, wq_0 hw, wq_1 hw, wt_0 hw, wt_1 hw, lw2 hw, lw4 hw, lw6 hw, lw7 hw, lw9 hw, lw10 hw, lw11 hw, lw12 hw, lw13 hw, lw14 hw, lw16 hw, lw17 hw, lw19 hw, lw20 hw, lw21 hw, lw23 hw, lw24 hw, lw25 hw, lw26 hw, lw27 hw, lw3 hw, lw5 hw, sw2 hw, sw4 hw, sw6 hw, sw7 hw, sw9 hw, sw10 hw, sw11 hw, sw12 hw, sw13 hw, sw14 hw, sw16 hw, sw17 hw, sw19 hw, sw20 hw, sw21 hw, sw23 hw, sw24 hw, sw25 hw, sw26 hw, sw27 hw, e7', e21]
      rw [hs]
    · have he := c_empty (isC_i hw) (i := c * 6 + k) (by omega) σ'
      simp (disch := omega) only [↓mI_e, lit, ofN, bsm, nI_add, pk_mul, pk_sub, nI_e, nI_leE, nI_ltE, nI_mI, mI_nI, mI_lt, nlt_mI, mI_le, nle_mI, nI_addm, sh_b, bI_0, bI_1, bI_bI, ckZ_b, ckZ_n0, ckZ_n1, stIe, stJe, stZ_n0, stZ_n1, rm_nI, dv_nI, if_true, if_false, if_pos, if_neg, rf0, rf1, rf5, rf6, rf7, rf8, rf9, rf20, rf23, rf24, rf25, rf26, rf29, rf31, rf33, rf34, rf35, rf37, rf38, rf41, rf42, rf43,  w_0 hw, w_1 hw, w_2 hw, w_3 hw, w_4 hw, w_5 hw, w_6 hw, w_7 hw, w_8 hw, ws_0 hw, ws_1 hw, ws_2 hw, ws_3 hw, ws_4 hw, ws_5 hw, wd_0 hw, wd_1 hw, wd_2 hw, wd_3 hw, wd_4 hw, wd_5 hw, wh_0 hw, wh_1 hw, wq_0 hw, wq_1 hw, wt_0 hw, wt_1 hw, lw2 hw, lw4 hw, lw6 hw, lw7 hw, lw9 hw, lw10 hw, lw11 hw, lw12 hw, lw13 hw, lw14 hw, lw16 hw, lw17 hw, lw19 hw, lw20 hw, lw21 hw, lw23 hw, lw24 hw, lw25 hw, lw26 hw, lw27 hw, lw3 hw, lw5 hw, sw2 hw, sw4 hw, sw6 hw, sw7 hw, sw9 hw, sw10 hw, sw11 hw, sw12 hw, sw13 hw, sw14 hw, sw16 hw, sw17 hw, sw19 hw, sw20 hw, sw21 hw, sw23 hw, sw24 hw, sw25 hw, sw26 hw, sw27 hw, e7', he]
      refine ih (k + 1) _ (by omega) (by omega) ?_
      rw [show w + 18 + 1 = w + 19 by omega, show w + 18 + 2 = w + 20 by omega]
      have a1 : gA σ' (w + 19) = fillF (gA σ (w + 19)) (c * 6 * 6) ((c * 6 + k) * 6) (nI 0) := by rw [hs, gA_sA, if_neg (by omega), gA_sA, if_pos rfl]
      have a2 : gA σ' (w + 20) = fillF (gA σ (w + 20)) (c * 6 * 6) ((c * 6 + k) * 6) (nI 0) := by rw [hs, gA_sA, if_pos rfl]
      rw [a1, a2, show (c * 6 + k) * 6 + 6 = (c * 6 + (k + 1)) * 6 by omega, fill_add _ (by omega) (by omega), fill_add _ (by omega) (by omega), hs]
      rw [sA_comm _ (show w + 20 ≠ w + 19 by omega), sA_sA, sA_sA]
theorem W_drop {w : Nat} (hw : isW w) {B : Nat} {σ : ST} {f : Nat → Int32} {g : Nat → Int64} (h : RelW B (wv σ w) f g) {p q : Nat} (hp : p < 6) (hq : q < 6) : ∃ σ1, f_X10_dropHints w (nI (p * 6 + q)) σ = some σ1 ∧ RelW B (wv σ1 w) (zr f (hb p q 0) (hb p q 6)) g ∧ Sq (inW w) [] σ σ1 := by
  have hY := h.1.1.2.1
  have e7 : gI σ (w + 1) 7 = nI (YN f) := h.1.2.1.2.1.trans (eY f)
  by_cases z : gA σ (w + 21) (p * 6 + q) = nI 0
  · refine ⟨σ, ?_, ?_, Sq.rf σ⟩
    · simp (disch := omega) only [↓mI_e, lit, ofN, bsm, nI_add, pk_mul, pk_sub, nI_e, nI_leE, nI_ltE, nI_mI, mI_nI, mI_lt, nlt_mI, mI_le, nle_mI, nI_addm, sh_b, bI_0, bI_1, bI_bI, ckZ_b, ckZ_n0, ckZ_n1, stIe, stJe, stZ_n0, stZ_n1, rm_nI, dv_nI, if_true, if_false, if_pos, if_neg, rf0, rf1, rf5, rf6, rf7, rf8, rf9, rf20, rf23, rf24, rf25, rf26, rf29, rf31, rf33, rf34, rf35, rf37, rf38, rf41, rf42, rf43,  f_X10_dropHints, w_0 hw, w_1 hw, w_2 hw, w_3 hw, w_4 hw, w_5 hw, w_6 hw, w_7 hw, w_8 hw, ws_0 hw, ws_1 hw, ws_2 hw, ws_3 hw, ws_4 hw, ws_5 hw, wd_0 hw, wd_1 hw, wd_2 hw, wd_3 hw, wd_4 hw, wd_5 hw, wh_0 hw, wh_1 hw, wq_0 hw, wq_1 hw, wt_0 hw, wt_1 hw, lw2 hw, lw4 hw, lw6 hw, lw7 hw, lw9 hw, lw10 hw, lw11 hw, lw12 hw, lw13 hw, lw14 hw, lw16 hw, lw17 hw, lw19 hw, lw20 hw, lw21 hw, lw23 hw, lw24 hw, lw25 hw, lw26 hw, lw27 hw, lw3 hw, lw5 hw, sw2 hw, sw4 hw, sw6 hw, sw7 hw, sw9 hw, sw10 hw, sw11 hw, sw12 hw, sw13 hw, sw14 hw, sw16 hw, sw17 hw, sw19 hw, sw20 hw, sw21 hw, sw23 hw, sw24 hw, sw25 hw, sw26 hw, sw27 hw, z]
    · refine RelW_congr (fun j hj => ?_) (fun _ _ => rfl) h
      by_cases r : hb p q 0 ≤ j ∧ j < hb p q 6
      · rw [zr_in r.1 r.2]
        obtain ⟨y, k, hy, hk, rfl⟩ := hb_split r.1 r.2
        have hI := h.2.2.2.2.2.2.1 p q hp hq
        have hb0 : bt (gA σ (w + 21) (p * 6 + q)) y = decide (y < 6 ∧ f (hb p q y) = nI 1) := hI.1 y
        rw [z, bt_n0] at hb0
        have hz := of_decide_eq_false hb0.symm
        rcases (hI.2 y hy).2.2 with z1 | z1
        · by_cases k0 : k = 0
          · subst k0; rw [Nat.add_zero]; exact z1.1.symm
          · have := z1.2 (k - 1) (by omega)
            rw [show hb p q y + 1 + (k - 1) = hb p q y + k by omega] at this
            exact this.symm
        · exact absurd ⟨hy, z1.1⟩ hz
      · rw [zr_out (by omega)]
  · have hl := c_dropHints_loop hw hY (c := p * 6 + q) (by omega) σ e7 FU 0 σ (by omega) (by unfold FU; omega) (by
      rw [fillF_done _ (by omega), fillF_done _ (by omega), sA_self, sA_self])
    refine ⟨(sA (sA (sA σ (w + 19) (fillF (gA σ (w + 19)) ((p * 6 + q) * 6 * 6) (((p * 6 + q) * 6 + YN f) * 6) (nI 0))) (w + 20) (fillF (gA σ (w + 20)) ((p * 6 + q) * 6 * 6) (((p * 6 + q) * 6 + YN f) * 6) (nI 0))) (w + 21) (upd (gA σ (w + 21)) (p * 6 + q) (nI 0))), ?_, ?_, ?_⟩
    · unfold f_X10_dropHints
      rw [w_4 hw, lw21 hw (by omega), b_some, if_neg (show ¬ gA σ (w + 21) (p * 6 + q) = 0 from z)]
      exact hl
    · rw [wv_sA _ _ (by decide), wv_sA _ _ (by decide), wv_sA _ _ (by decide)]
      exact RelW_drop h hp hq (fun _ _ => rfl) (fun x h1 h2 h3 => by rw [gA_sA, if_neg h3, gA_sA, if_neg h2, gA_sA, if_neg h1]) (fun _ => rfl) rfl rfl rfl
    · exact SqW_sA hw (SqW_sA hw (SqW_sA hw (Sq.rf σ) (by decide) _) (by decide) _) (by decide) _
/-! wipe -/
theorem c_wipe2 {w : Nat} (hw : isW w) {B : Nat} {g : Nat → Int64} {a : Nat} (ha : a < 6) : ∀ (n q : Nat) (σ : ST) (f : Nat → Int32), q ≤ KN f → KN f - q < n → RelW B (wv σ w) f g → ∃ σ1, k_X10_wipeAll_33 n w (nI a) (nI q) σ = some σ1 ∧ RelW B (wv σ1 w) (zr f (hb a q 0) (hb a (KN f) 0)) g ∧ Sq (inW w) [] σ σ1 := by
  intro n
  induction n with
  | zero => intros; omega
  | succ n ih =>
    intro q σ f hq hn h
    have hK := h.1.1.1
    have e6 : gI σ (w + 1) 6 = nI (KN f) := h.1.2.1.1.trans (eK f)
    rw [k_X10_wipeAll_33]
    by_cases e : q = KN f
    · subst e
      simp (disch := omega) only [↓mI_e, lit, ofN, bsm, nI_add, pk_mul, pk_sub, nI_e, nI_leE, nI_ltE, nI_mI, mI_nI, mI_lt, nlt_mI, mI_le, nle_mI, nI_addm, sh_b, bI_0, bI_1, bI_bI, ckZ_b, ckZ_n0, ckZ_n1, stIe, stJe, stZ_n0, stZ_n1, rm_nI, dv_nI, if_true, if_false, if_pos, if_neg, rf0, rf1, rf5, rf6, rf7, rf8, rf9, rf20, rf23, rf24, rf25, rf26, rf29, rf31, rf33, rf34, rf35, rf37, rf38, rf41, rf42, rf43,  w_0 hw, w_1 hw, w_2 hw, w_3 hw, w_4 hw, w_5 hw, w_6 hw, w_7 hw, w_8 hw, ws_0 hw, ws_1 hw, ws_2 hw, ws_3 hw, ws_4 hw, ws_5 hw, wd_0 hw, wd_1 hw, wd_2 hw, wd_3 hw, wd_4 hw, wd_5 hw, wh_0 hw, wh_1 hw, wq_0 hw, wq_1 hw, wt_0 hw, wt_1 hw, lw2 hw, lw4 hw, lw6 hw, lw7 hw, lw9 hw, lw10 hw, lw11 hw, lw12 hw, lw13 hw, lw14 hw, lw16 hw, lw17 hw, lw19 hw, lw20 hw, lw21 hw, lw23 hw, lw24 hw, lw25 hw, lw26 hw, lw27 hw, lw3 hw, lw5 hw, sw2 hw, sw4 hw, sw6 hw, sw7 hw, sw9 hw, sw10 hw, sw11 hw, sw12 hw, sw13 hw, sw14 hw, sw16 hw, sw17 hw, sw19 hw, sw20 hw, sw21 hw, sw23 hw, sw24 hw, sw25 hw, sw26 hw, sw27 hw, e6]
      refine ⟨σ, rfl, ?_, Sq.rf σ⟩
      rw [show zr f (hb a (KN f) 0) (hb a (KN f) 0) = f from by funext j; exact zr_out (by omega)]
      exact h
    · obtain ⟨σ1, h1, h2, h3⟩ := W_drop hw h (p := a) (q := q) ha (by omega)
      simp (disch := omega) only [↓mI_e, lit, ofN, bsm, nI_add, pk_mul, pk_sub, nI_e, nI_leE, nI_ltE, nI_mI, mI_nI, mI_lt, nlt_mI, mI_le, nle_mI, nI_addm, sh_b, bI_0, bI_1, bI_bI, ckZ_b, ckZ_n0, ckZ_n1, stIe, stJe, stZ_n0, stZ_n1, rm_nI, dv_nI, if_true, if_false, if_pos, if_neg, rf0, rf1, rf5, rf6, rf7, rf8, rf9, rf20, rf23, rf24, rf25, rf26, rf29, rf31, rf33, rf34, rf35, rf37, rf38, rf41, rf42, rf43,  w_0 hw, w_1 hw, w_2 hw, w_3 hw, w_4 hw, w_5 hw, w_6 hw, w_7 hw, w_8 hw, ws_0 hw, ws_1 hw, ws_2 hw, ws_3 hw, ws_4 hw, ws_5 hw, wd_0 hw, wd_1 hw, wd_2 hw, wd_3 hw, wd_4 hw, wd_5 hw, wh_0 hw, wh_1 hw, wq_0 hw, wq_1 hw, wt_0 hw, wt_1 hw, lw2 hw, lw4 hw, lw6 hw, lw7 hw, lw9 hw, lw10 hw, lw11 hw, lw12 hw, lw13 hw, lw14 hw, lw16 hw, lw17 hw, lw19 hw, lw20 hw, lw21 hw, lw23 hw, lw24 hw, lw25 hw, lw26 hw, lw27 hw, lw3 hw, lw5 hw, sw2 hw, sw4 hw, sw6 hw, sw7 hw, sw9 hw, sw10 hw, sw11 hw, sw12 hw, sw13 hw, sw14 hw, sw16 hw, sw17 hw, sw19 hw, sw20 hw, sw21 hw, sw23 hw, sw24 hw, sw25 hw, sw26 hw, sw27 hw, e6, h1]
      have hK2 : KN (zr f (hb a q 0) (hb a q 6)) = KN f := by unfold KN; rw [zr_out (by unfold hb; omega)]
      obtain ⟨σ2, h4, h5, h6⟩ := ih (q + 1) σ1 _ (by omega) (by omega) h2
      refine ⟨σ2, h4, ?_, h3.trans h6⟩
      rw [hK2] at h5
      have e9 : zr (zr f (hb a q 0) (hb a q 6)) (hb a (q + 1) 0) (hb a (KN f) 0) = zr f (hb a q 0) (hb a (KN f) 0) := by
        funext j
        have e8 : hb a (q + 1) 0 = hb a q 6 := by unfold hb; omega
        have e7 : hb a q 6 ≤ hb a (KN f) 0 := by unfold hb; omega
        have e5 : hb a q 0 ≤ hb a q 6 := by unfold hb; omega
        rw [e8]
        unfold zr
        by_cases g1 : hb a q 6 ≤ j ∧ j < hb a (KN f) 0
        · rw [if_pos g1, if_pos (by omega)]
        · rw [if_neg g1]
          by_cases g2 : hb a q 0 ≤ j ∧ j < hb a q 6
          · rw [if_pos g2, if_pos (by omega)]
          · rw [if_neg g2, if_neg (by omega)]
      rw [e9] at h5
      exact h5
theorem c_wipe1 {w : Nat} (hw : isW w) {B : Nat} {g : Nat → Int64} {a : Nat} (ha : a < 6) : ∀ (n k : Nat) (σ : ST) (f : Nat → Int32), k ≤ YN f → YN f - k < n → RelW B (wv σ w) f g → ∃ σ1, k_X10_wipeAll_2 n w (nI a) (nI k) σ = k_X10_wipeAll_33 FU w (nI a) (nI 0) σ1 ∧ RelW B (wv σ1 w) (zr f (tb a k) (tb a (YN f))) g ∧ Sq (inW w) [] σ σ1 := by
  obtain ⟨F, hF, hF2⟩ : ∃ F, FU = F ∧ 5000 < F := ⟨FU, rfl, by unfold FU; omega⟩
  rw [hF]
  intro n
  induction n with
  | zero => intros; omega
  | succ n ih =>
    intro k σ f hk hn h
    have hY := h.1.1.2.1
    have e7 : gI σ (w + 1) 7 = nI (YN f) := h.1.2.1.2.1.trans (eY f)
    rw [k_X10_wipeAll_2, hF]
    by_cases e : k = YN f
    · subst e
      simp (disch := omega) only [↓mI_e, lit, ofN, bsm, nI_add, pk_mul, pk_sub, nI_e, nI_leE, nI_ltE, nI_mI, mI_nI, mI_lt, nlt_mI, mI_le, nle_mI, nI_addm, sh_b, bI_0, bI_1, bI_bI, ckZ_b, ckZ_n0, ckZ_n1, stIe, stJe, stZ_n0, stZ_n1, rm_nI, dv_nI, if_true, if_false, if_pos, if_neg, rf0, rf1, rf5, rf6, rf7, rf8, rf9, rf20, rf23, rf24, rf25, rf26, rf29, rf31, rf33, rf34, rf35, rf37, rf38, rf41, rf42, rf43,  w_0 hw, w_1 hw, w_2 hw, w_3 hw, w_4 hw, w_5 hw, w_6 hw, w_7 hw, w_8 hw, ws_0 hw, ws_1 hw, ws_2 hw, ws_3 hw, ws_4 hw, ws_5 hw, wd_0 hw, wd_1 hw, wd_2 hw, wd_3 hw, wd_4 hw, wd_5 hw, wh_0 hw, wh_1 hw, wq_0 hw, wq_1 hw, wt_0 hw, wt_1 hw, lw2 hw, lw4 hw, lw6 hw, lw7 hw, lw9 hw, lw10 hw, lw11 hw, lw12 hw, lw13 hw, lw14 hw, lw16 hw, lw17 hw, lw19 hw, lw20 hw, lw21 hw, lw23 hw, lw24 hw, lw25 hw, lw26 hw, lw27 hw, lw3 hw, lw5 hw, sw2 hw, sw4 hw, sw6 hw, sw7 hw, sw9 hw, sw10 hw, sw11 hw, sw12 hw, sw13 hw, sw14 hw, sw16 hw, sw17 hw, sw19 hw, sw20 hw, sw21 hw, sw23 hw, sw24 hw, sw25 hw, sw26 hw, sw27 hw, e7]
      refine ⟨σ, rfl, ?_, Sq.rf σ⟩
      rw [show zr f (tb a (YN f)) (tb a (YN f)) = f from by funext j; exact zr_out (by omega)]
      exact h
    · obtain ⟨σ1, h1, h2, h3⟩ := W_emptyH hw h (p := a) (y := k) ha (by omega)
      simp (disch := omega) only [↓mI_e, lit, ofN, bsm, nI_add, pk_mul, pk_sub, nI_e, nI_leE, nI_ltE, nI_mI, mI_nI, mI_lt, nlt_mI, mI_le, nle_mI, nI_addm, sh_b, bI_0, bI_1, bI_bI, ckZ_b, ckZ_n0, ckZ_n1, stIe, stJe, stZ_n0, stZ_n1, rm_nI, dv_nI, if_true, if_false, if_pos, if_neg, rf0, rf1, rf5, rf6, rf7, rf8, rf9, rf20, rf23, rf24, rf25, rf26, rf29, rf31, rf33, rf34, rf35, rf37, rf38, rf41, rf42, rf43,  w_0 hw, w_1 hw, w_2 hw, w_3 hw, w_4 hw, w_5 hw, w_6 hw, w_7 hw, w_8 hw, ws_0 hw, ws_1 hw, ws_2 hw, ws_3 hw, ws_4 hw, ws_5 hw, wd_0 hw, wd_1 hw, wd_2 hw, wd_3 hw, wd_4 hw, wd_5 hw, wh_0 hw, wh_1 hw, wq_0 hw, wq_1 hw, wt_0 hw, wt_1 hw, lw2 hw, lw4 hw, lw6 hw, lw7 hw, lw9 hw, lw10 hw, lw11 hw, lw12 hw, lw13 hw, lw14 hw, lw16 hw, lw17 hw, lw19 hw, lw20 hw, lw21 hw, lw23 hw, lw24 hw, lw25 hw, lw26 hw, lw27 hw, lw3 hw, lw5 hw, sw2 hw, sw4 hw, sw6 hw, sw7 hw, sw9 hw, sw10 hw, sw11 hw, sw12 hw, sw13 hw, sw14 hw, sw16 hw, sw17 hw, sw19 hw, sw20 hw, sw21 hw, sw23 hw, sw24 hw, sw25 hw, sw26 hw, sw27 hw, e7, f_X10_cellOf, h1]
      have hY2 : YN (zr f (tb a k) (tb a (k + 1))) = YN f := by unfold YN; rw [zr_out (by unfold tb; omega)]
      obtain ⟨σ2, h4, h5, h6⟩ := ih (k + 1) σ1 _ (by omega) (by omega) h2
      refine ⟨σ2, h4, ?_, h3.trans h6⟩
      rw [hY2] at h5
      have e9 : zr (zr f (tb a k) (tb a (k + 1))) (tb a (k + 1)) (tb a (YN f)) = zr f (tb a k) (tb a (YN f)) := by
        funext j
        have e7 : tb a (k + 1) ≤ tb a (YN f) := by unfold tb; omega
        have e5 : tb a k ≤ tb a (k + 1) := by unfold tb; omega
        unfold zr
        by_cases g1 : tb a (k + 1) ≤ j ∧ j < tb a (YN f)
        · rw [if_pos g1, if_pos (by omega)]
        · rw [if_neg g1]
          by_cases g2 : tb a k ≤ j ∧ j < tb a (k + 1)
          · rw [if_pos g2, if_pos (by omega)]
          · rw [if_neg g2, if_neg (by omega)]
      rw [e9] at h5
      exact h5
theorem r_wipe2 {a : Nat} (ha : a < 6) : ∀ (n k : Nat) (τ : ST), k ≤ 468 → 468 - k < n → k_X12_wipes_30 n 0 (nI a) (nI k) τ = some (sA τ 1 (zr (gA τ 1) (hb a 0 0 + k) (hb a 0 0 + 468))) := by
  intro n
  induction n with
  | zero => intros; omega
  | succ n ih =>
    intro k τ hk hn
    rw [k_X12_wipes_30]
    have hl : hb a 0 0 + 468 ≤ 3278 := by unfold hb; omega
    have et : 470 + 13 * ((6 * a + 0) * 6 + 0) = hb a 0 0 := rfl
    by_cases e : k = 468
    · subst e
      simp (disch := omega) only [↓mI_e, lit, ofN, bsm, nI_add, pk_mul, pk_sub, nI_e, nI_leE, nI_ltE, nI_mI, mI_nI, mI_lt, nlt_mI, mI_le, nle_mI, nI_addm, sh_b, bI_0, bI_1, bI_bI, ckZ_b, ckZ_n0, ckZ_n1, stIe, stJe, stZ_n0, stZ_n1, rm_nI, dv_nI, if_true, if_false, if_pos, if_neg, rf0, rf1, rf5, rf6, rf7, rf8, rf9, rf20, rf23, rf24, rf25, rf26, rf29, rf31, rf33, rf34, rf35, rf37, rf38, rf41, rf42, rf43, ]
      rw [show zr (gA τ 1) (hb a 0 0 + 468) (hb a 0 0 + 468) = gA τ 1 from by funext j; exact zr_out (by omega), sA_self]
    · simp (disch := omega) only [↓mI_e, lit, ofN, bsm, nI_add, pk_mul, pk_sub, nI_e, nI_leE, nI_ltE, nI_mI, mI_nI, mI_lt, nlt_mI, mI_le, nle_mI, nI_addm, sh_b, bI_0, bI_1, bI_bI, ckZ_b, ckZ_n0, ckZ_n1, stIe, stJe, stZ_n0, stZ_n1, rm_nI, dv_nI, if_true, if_false, if_pos, if_neg, rf0, rf1, rf5, rf6, rf7, rf8, rf9, rf20, rf23, rf24, rf25, rf26, rf29, rf31, rf33, rf34, rf35, rf37, rf38, rf41, rf42, rf43,  f_X12_hintOf, et, sr1]
      rw [ih (k + 1) _ (by omega) (by omega), sA_sA, gA_sA, if_pos rfl]
      congr 2
      funext j
      unfold zr
      rw [upd_at]
      by_cases g1 : hb a 0 0 + (k + 1) ≤ j ∧ j < hb a 0 0 + 468
      · rw [if_pos g1, if_pos (by omega)]
      · rw [if_neg g1]
        by_cases g2 : j = hb a 0 0 + k
        · rw [if_pos g2, if_pos (by omega)]
        · rw [if_neg g2, if_neg (by omega)]
theorem r_wipe1 {a : Nat} (ha : a < 6) : ∀ (n k : Nat) (τ : ST), k ≤ 72 → 72 - k < n → k_X12_wipes_2 n 0 (nI a) (nI k) τ = some (sA τ 1 (zr (zr (gA τ 1) (tb a 0 + k) (tb a 0 + 72)) (hb a 0 0) (hb a 0 0 + 468))) := by
  obtain ⟨F, hF, hF2⟩ : ∃ F, FU = F ∧ 5000 < F := ⟨FU, rfl, by unfold FU; omega⟩
  intro n
  induction n with
  | zero => intros; omega
  | succ n ih =>
    intro k τ hk hn
    rw [k_X12_wipes_2, hF]
    have hl : tb a 0 + 72 ≤ 462 := by unfold tb; omega
    have et : 30 + 12 * (6 * a + 0) = tb a 0 := rfl
    by_cases e : k = 72
    · subst e
      have h2 := r_wipe2 ha F 0 τ (by omega) (by omega)
      rw [Nat.add_zero] at h2
      simp (disch := omega) only [↓mI_e, lit, ofN, bsm, nI_add, pk_mul, pk_sub, nI_e, nI_leE, nI_ltE, nI_mI, mI_nI, mI_lt, nlt_mI, mI_le, nle_mI, nI_addm, sh_b, bI_0, bI_1, bI_bI, ckZ_b, ckZ_n0, ckZ_n1, stIe, stJe, stZ_n0, stZ_n1, rm_nI, dv_nI, if_true, if_false, if_pos, if_neg, rf0, rf1, rf5, rf6, rf7, rf8, rf9, rf20, rf23, rf24, rf25, rf26, rf29, rf31, rf33, rf34, rf35, rf37, rf38, rf41, rf42, rf43,  h2]
      rw [show zr (gA τ 1) (tb a 0 + 72) (tb a 0 + 72) = gA τ 1 from by funext j; exact zr_out (by omega)]
    · simp (disch := omega) only [↓mI_e, lit, ofN, bsm, nI_add, pk_mul, pk_sub, nI_e, nI_leE, nI_ltE, nI_mI, mI_nI, mI_lt, nlt_mI, mI_le, nle_mI, nI_addm, sh_b, bI_0, bI_1, bI_bI, ckZ_b, ckZ_n0, ckZ_n1, stIe, stJe, stZ_n0, stZ_n1, rm_nI, dv_nI, if_true, if_false, if_pos, if_neg, rf0, rf1, rf5, rf6, rf7, rf8, rf9, rf20, rf23, rf24, rf25, rf26, rf29, rf31, rf33, rf34, rf35, rf37, rf38, rf41, rf42, rf43,  f_X12_thingOf, et, sr1]
      rw [ih (k + 1) _ (by omega) (by omega), sA_sA, gA_sA, if_pos rfl]
      congr 3
      funext j
      unfold zr
      rw [upd_at]
      by_cases g1 : tb a 0 + (k + 1) ≤ j ∧ j < tb a 0 + 72
      · rw [if_pos g1, if_pos (by omega)]
      · rw [if_neg g1]
        by_cases g2 : j = tb a 0 + k
        · rw [if_pos g2, if_pos (by omega)]
        · rw [if_neg g2, if_neg (by omega)]
theorem W_wipe {w : Nat} (hw : isW w) {B : Nat} {σ τ : ST} {g : Nat → Int64} (h : RelW B (wv σ w) (gA τ 1) g) {a : Nat} (ha : a < 6) : ∃ σ1 τ1, f_X10_wipeAll w (nI a) σ = some σ1 ∧ f_X12_wipes 0 (nI a) τ = some τ1 ∧ RelW B (wv σ1 w) (gA τ1 1) g ∧ Wp w σ σ1 τ τ1 ∧ gI τ1 0 28 = gI τ 0 28 := by
  have hK := h.1.1.1
  have hY := h.1.1.2.1
  obtain ⟨σ1, h1, h2, h3⟩ := c_wipe1 hw ha FU 0 σ (gA τ 1) (by omega) (by unfold FU; omega) h
  have hK2 : KN (zr (gA τ 1) (tb a 0) (tb a (YN (gA τ 1)))) = KN (gA τ 1) := by unfold KN; rw [zr_out (by unfold tb; omega)]
  obtain ⟨σ2, h4, h5, h6⟩ := c_wipe2 hw ha FU 0 σ1 _ (by omega) (by unfold FU; omega) h2
  have hr := r_wipe1 ha FU 0 τ (by omega) (by unfold FU; omega)
  rw [Nat.add_zero] at hr
  refine ⟨σ2, sA τ 1 (zr (zr (gA τ 1) (tb a 0) (tb a 0 + 72)) (hb a 0 0) (hb a 0 0 + 468)), ?_, hr, ?_, ⟨h3.trans h6, (Sc.rf τ).sA _ rfl, fun k b1 b2 => ?_⟩, rfl⟩
  · unfold f_X10_wipeAll
    rw [show (0 : Int32) = nI 0 from rfl, h1, h4]
  · rw [hK2] at h5
    refine RelW_congr (fun j hj => ?_) (fun _ _ => rfl) h5
    rw [gA_sA, if_pos rfl]
    have t1 : tb a 0 + 72 ≤ 462 := by unfold tb; omega
    have t2 : 470 ≤ hb a 0 0 ∧ hb a 0 0 + 468 ≤ 3278 := by unfold hb; omega
    have t3 : hb a (KN (gA τ 1)) 0 = hb a 0 0 + 78 * KN (gA τ 1) := by unfold hb; omega
    have t4 : tb a (YN (gA τ 1)) = tb a 0 + 12 * YN (gA τ 1) := by unfold tb; omega
    unfold zr
    rw [t3, t4]
    by_cases g1 : hb a 0 0 ≤ j ∧ j < hb a 0 0 + 468
    · rw [if_pos g1]
      by_cases g2 : hb a 0 0 ≤ j ∧ j < hb a 0 0 + 78 * KN (gA τ 1)
      · rw [if_pos g2]
      · rw [if_neg g2, if_neg (by omega)]
        -- hints for keepers that are not there
        obtain ⟨q, y, k, hq, hy, hk, rfl⟩ := hb_split2 g1.1 g1.2
        have hqK : KN (gA τ 1) ≤ q := by
          have : hb a q y = hb a 0 0 + 78 * q + 13 * y := by unfold hb; omega
          omega
        rcases ((h.2.2.2.2.2.2.1 a q ha hq).2 y hy).2.2 with z1 | z1
        · by_cases k0 : k = 0
          · subst k0; rw [Nat.add_zero]; exact z1.1.symm
          · have := z1.2 (k - 1) (by omega)
            rw [show hb a q y + 1 + (k - 1) = hb a q y + k by omega] at this
            exact this.symm
        · omega
    · rw [if_neg g1, if_neg (show ¬ (hb a 0 0 ≤ j ∧ j < hb a 0 0 + 78 * KN (gA τ 1)) by omega)]
      by_cases g3 : tb a 0 ≤ j ∧ j < tb a 0 + 72
      · rw [if_pos g3]
        by_cases g4 : tb a 0 ≤ j ∧ j < tb a 0 + 12 * YN (gA τ 1)
        · rw [if_pos g4]
        · rw [if_neg g4]
          obtain ⟨y, k, hy, hk, rfl⟩ := tb_split g3.1 g3.2
          have : tb a y = tb a 0 + 12 * y := by unfold tb; omega
          exact (RelW_zero h ha hy (by omega) k hk).symm
      · rw [if_neg g3, if_neg (by omega)]
  · have t1 : tb a 0 + 72 ≤ 462 := by unfold tb; omega
    have t2 : hb a 0 0 + 468 ≤ 3278 := by unfold hb; omega
    rw [gA_sA, if_pos rfl, zr_out (by omega), zr_out (by omega)]
theorem sim_wipe (i : Nat) : SIM_wipe (Rel i) (Rel (i + 6)) := by
  intro a0 σ τ h
  have hW := h.2.2.2.2.1
  have hS := hW.1
  have hK := hS.1.1
  show Sm i _ _
  rcases keeper_cases hS.1 a0 with hb | ⟨a, ha, rfl⟩
  · simp (disch := omega) only [↓mI_e, lit, ofN, bsm, nI_add, pk_mul, pk_sub, nI_e, nI_leE, nI_ltE, nI_mI, mI_nI, mI_lt, nlt_mI, mI_le, nle_mI, nI_addm, sh_b, bI_0, bI_1, bI_bI, ckZ_b, ckZ_n0, ckZ_n1, stIe, stJe, stZ_n0, stZ_n1, rm_nI, dv_nI, if_true, if_false, if_pos, if_neg, rf0, rf1, rf5, rf6, rf7, rf8, rf9, rf20, rf23, rf24, rf25, rf26, rf29, rf31, rf33, rf34, rf35, rf37, rf38, rf41, rf42, rf43,  f_X11_wipe, f_X12_wipe, c_isKeeper_no hS hb, r_isKeeper_no hb, c_refused, r_is]
    exact Sm_0 h _ _
  · obtain ⟨σ1, τ1, h1, h2, h3, h4, h5⟩ := W_wipe wM_w hW (a := a) (by omega)
    simp (disch := omega) only [↓mI_e, lit, ofN, bsm, nI_add, pk_mul, pk_sub, nI_e, nI_leE, nI_ltE, nI_mI, mI_nI, mI_lt, nlt_mI, mI_le, nle_mI, nI_addm, sh_b, bI_0, bI_1, bI_bI, ckZ_b, ckZ_n0, ckZ_n1, stIe, stJe, stZ_n0, stZ_n1, rm_nI, dv_nI, if_true, if_false, if_pos, if_neg, rf0, rf1, rf5, rf6, rf7, rf8, rf9, rf20, rf23, rf24, rf25, rf26, rf29, rf31, rf33, rf34, rf35, rf37, rf38, rf41, rf42, rf43,  f_X11_wipe, f_X12_wipe, c_isKeeper_yes hS ha, r_isKeeper_y hS.1 ha, c02, h1, h2, c_allowed, r_is]
    exact Sm_W h h4 h5 (RelW_mono (by omega) h3) _ _
