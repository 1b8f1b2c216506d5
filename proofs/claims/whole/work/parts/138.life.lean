/-! LIFE: what is kept while days are lived -/
def isLf (w lf : Nat) : Prop := (w = wM ∧ lf = 78) ∨ (w = wK ∧ lf = 81)
theorem isLf_w {w lf : Nat} (h : isLf w lf) : isW w := by rcases h with ⟨rfl, _⟩ | ⟨rfl, _⟩; exact wM_w; exact wK_w
theorem isLf_2 {w lf : Nat} (h : isLf w lf) : w = wM ∨ w = wK := by rcases h with ⟨rfl, _⟩ | ⟨rfl, _⟩; exact Or.inl rfl; exact Or.inr rfl
theorem lf_0 {w lf : Nat} (h : isLf w lf) : LC.2.1 lf 0 = lf + 1 := by rcases h with ⟨rfl, rfl⟩ | ⟨rfl, rfl⟩ <;> rfl
theorem lf_2 {w lf : Nat} (h : isLf w lf) : LC.2.1 lf 2 = lf + 2 := by rcases h with ⟨rfl, rfl⟩ | ⟨rfl, rfl⟩ <;> rfl
theorem lf_n1 {w lf : Nat} (h : isLf w lf) : LC.2.2.1 (lf + 1) = 6 := by rcases h with ⟨rfl, rfl⟩ | ⟨rfl, rfl⟩ <;> rfl
theorem lf_n2 {w lf : Nat} (h : isLf w lf) : LC.2.2.1 (lf + 2) = 60 := by rcases h with ⟨rfl, rfl⟩ | ⟨rfl, rfl⟩ <;> rfl
theorem lt1 {w lf : Nat} (hl : isLf w lf) {σ : ST} {k : Nat} (h : k < 6) : ldA LC σ (lf + 1) (nI k) = some (gA σ (lf + 1) k) := la 6 (lf_n1 hl) h (by decide)
theorem st1 {w lf : Nat} (hl : isLf w lf) {σ : ST} {k : Nat} {v : Int32} (h : k < 6) : stA LC σ (lf + 1) (nI k) v = some (sA σ (lf + 1) (upd (gA σ (lf + 1)) k v)) := sa 6 (lf_n1 hl) h (by decide)
theorem lt2 {w lf : Nat} (hl : isLf w lf) {σ : ST} {k : Nat} (h : k < 60) : ldA LC σ (lf + 2) (nI k) = some (gA σ (lf + 2) k) := la 60 (lf_n2 hl) h (by decide)
theorem st2 {w lf : Nat} (hl : isLf w lf) {σ : ST} {k : Nat} {v : Int32} (h : k < 60) : stA LC σ (lf + 2) (nI k) v = some (sA σ (lf + 2) (upd (gA σ (lf + 2)) k v)) := sa 60 (lf_n2 hl) h (by decide)
/-- cells that a world's own calls leave as they are -/
def kpC (w lf x : Nat) : Bool := (decide (w + 1 ≤ x) && decide (x < w + 15)) || (decide (lf ≤ x) && decide (x < lf + 3))
theorem kp_C {w lf : Nat} (h : isLf w lf) {x : Nat} (hx : kpC w lf x = true) : x ≠ 0 ∧ scC x = false ∧ inW w x = false := by
  have h1 : x < 194 := by
    unfold kpC at hx
    simp only [Bool.or_eq_true, Bool.and_eq_true, decide_eq_true_eq] at hx
    rcases h with ⟨rfl, rfl⟩ | ⟨rfl, rfl⟩
    · unfold wM at hx; omega
    · unfold wK at hx; omega
  have h2 : ∀ x, x < 194 → (kpC wM 78 x = true → x ≠ 0 ∧ scC x = false ∧ inW wM x = false) ∧ (kpC wK 81 x = true → x ≠ 0 ∧ scC x = false ∧ inW wK x = false) := by decide +kernel
  rcases h with ⟨rfl, rfl⟩ | ⟨rfl, rfl⟩
  · exact (h2 x h1).1 hx
  · exact (h2 x h1).2 hx
def KL (w lf : Nat) (σ σ1 τ τ1 : ST) : Prop := (∀ x, kpC w lf x = true → (∀ k, gI σ1 x k = gI σ x k) ∧ gA σ1 x = gA σ x) ∧ gI τ1 0 40 = gI τ 0 40 ∧ gI τ1 0 39 = gI τ 0 39 ∧ gA τ1 20 = gA τ 20 ∧ gA τ1 21 = gA τ 21
theorem Wp_L {w lf : Nat} (h : isLf w lf) {σ σ1 τ τ1 : ST} (hp : Wp w σ σ1 τ τ1) : KL w lf σ σ1 τ τ1 := by
  refine ⟨fun x hx => ?_, hp.2.1.1 40 rfl rfl, hp.2.1.1 39 rfl rfl, hp.2.1.2.2.1 20 rfl (by decide), hp.2.1.2.2.1 21 rfl (by decide)⟩
  obtain ⟨h1, h2, h3⟩ := kp_C h hx
  have h4 := hp.1.2.2 x h1 h2 h3
  exact ⟨h4.1, h4.2.2.1⟩
/-- what a whole life may change -/
def EL (w lf x : Nat) : Bool := inW w x || (decide (lf ≤ x) && decide (x < lf + 3))
def SL (τ τ1 : ST) : Prop := (∀ k, scI k = false → [28, 39, 40].contains k = false → gI τ1 0 k = gI τ 0 k) ∧ (∀ k, [28, 39, 40].contains k = false → gJ τ1 0 k = gJ τ 0 k) ∧ (∀ x, scA x = false → x ≠ 1 → x ≠ 20 → x ≠ 21 → gA τ1 x = gA τ x) ∧ (∀ x, gB τ1 x = gB τ x) ∧ ∀ k, 4850 ≤ k → k < 29100 → gA τ1 1 k = gA τ 1 k
theorem SL.rf (τ : ST) : SL τ τ := ⟨fun _ _ _ => rfl, fun _ _ => rfl, fun _ _ _ _ _ => rfl, fun _ => rfl, fun _ _ _ => rfl⟩
theorem SL.trans {τ τ1 τ2 : ST} (h : SL τ τ1) (h2 : SL τ1 τ2) : SL τ τ2 := ⟨fun k a b => (h2.1 k a b).trans (h.1 k a b), fun k a => (h2.2.1 k a).trans (h.2.1 k a), fun x a b c d => (h2.2.2.1 x a b c d).trans (h.2.2.1 x a b c d), fun x => (h2.2.2.2.1 x).trans (h.2.2.2.1 x), fun k a b => (h2.2.2.2.2 k a b).trans (h.2.2.2.2 k a b)⟩
theorem SL.sc {e : List Nat} {τ τ1 : ST} (h : Sc e τ τ1) (he : ∀ k, [28, 39, 40].contains k = false → e.contains k = false) (h1 : ∀ k, 4850 ≤ k → k < 29100 → gA τ1 1 k = gA τ 1 k) : SL τ τ1 := ⟨fun k a b => h.1 k a (he k b), fun k a => h.2.1 k (he k a), fun x a b _ _ => h.2.2.1 x a b, h.2.2.2, h1⟩
theorem SL.sA {τ : ST} (x : Nat) (f : Nat → Int32) (hx : x = 20 ∨ x = 21) : SL τ (sA τ x f) := ⟨fun _ _ _ => rfl, fun _ _ => rfl, fun z _ _ c d => by rw [gA_sA, if_neg (by omega)], fun _ => rfl, fun k _ _ => by rw [gA_sA, if_neg (by omega)]⟩
theorem SL.sI {τ : ST} (k : Nat) (v : Int32) (hk : k = 28 ∨ k = 39 ∨ k = 40) : SL τ (sI τ 0 k v) := ⟨fun j _ b => by
    rw [gI_sI, if_neg]
    intro z
    rw [z.2] at b
    rcases hk with rfl | rfl | rfl <;> exact absurd b (by decide), fun _ _ => rfl, fun _ _ _ _ _ => rfl, fun _ => rfl, fun _ _ _ => rfl⟩
theorem Wp_S {w : Nat} {σ σ1 τ τ1 : ST} (hp : Wp w σ σ1 τ τ1) : SL τ τ1 := SL.sc hp.2.1 (fun k hk => by simp at hk ⊢; exact hk.1) hp.2.2
theorem Sq_E {w lf : Nat} {σ σ1 : ST} {e : List Nat} (h : Sq (inW w) e σ σ1) : Sq (EL w lf) e σ σ1 := ⟨h.1, h.2.1, fun x a b c => h.2.2 x a b (by unfold EL at c; rw [Bool.or_eq_false_iff] at c; exact c.1)⟩
theorem EL_lf {w lf x : Nat} (h1 : lf ≤ x) (h2 : x < lf + 3) : EL w lf x = true := by unfold EL; rw [decide_eq_true h1, decide_eq_true h2]; simp
theorem isLf_p {w lf : Nat} (h : isLf w lf) : 78 ≤ lf ∧ lf ≤ 81 := by rcases h with ⟨_, rfl⟩ | ⟨_, rfl⟩ <;> omega
theorem SqE_sI {w lf : Nat} (hl : isLf w lf) {σ σ1 : ST} {e : List Nat} (h : Sq (EL w lf) e σ σ1) (k : Nat) (v : Int32) : Sq (EL w lf) e σ (sI σ1 lf k v) := h.sI v (by rw [if_neg (by have := isLf_p hl; omega), EL_lf (Nat.le_refl _) (by omega)]; simp)
theorem SqE_sA {w lf : Nat} {σ σ1 : ST} {e : List Nat} (h : Sq (EL w lf) e σ σ1) {x : Nat} (hx : x = 1 ∨ x = 2) (f : Nat → Int32) : Sq (EL w lf) e σ (sA σ1 (lf + x) f) := h.sA f (by rw [EL_lf (by omega) (by omega)]; simp)
/-- both live: s steps are done, d was drawn latest -/
def LV (w lf : Nat) (g : Nat → Int64) (L : Nat) (D : Nat → Nat → Nat) (σ0 τ0 : ST) (B s d : Nat) (σ τ : ST) : Prop := RelW B (wv σ w) (gA τ 1) g ∧ (gI σ (w + 8) 6 = nI 1 ∧ gI σ (w + 8) 7 = nI L ∧ RdC (wv σ w) D L ∧ L ≤ 60) ∧ (gI σ lf 1 = nI s ∧ gI τ 0 40 = nI s) ∧ (gI σ lf 3 = nI d ∧ gI τ 0 39 = nI d ∧ d < 65536) ∧ (∀ k, k < 6 → gA σ (lf + 1) k = gA τ 21 k) ∧ (Sq (EL w lf) [] σ0 σ ∧ SL τ0 τ) ∧ VD (gA τ 1) D L
theorem cw_inj {a b : Nat} (ha : 7 ≤ a ∧ a ≤ 25) (hb : 7 ≤ b ∧ b ≤ 25) (h : nI (cw a) = nI (cw b)) : a = b := by
  have h1 : ∀ a b : Fin 26, 7 ≤ a.1 → 7 ≤ b.1 → nI (cw a.1) = nI (cw b.1) → a = b := by decide +kernel
  exact congrArg Fin.val (h1 ⟨a, by omega⟩ ⟨b, by omega⟩ ha.1 hb.1 h)
theorem RdR_of {s : ST} {f f' : Nat → Int32} {D D' : Nat → Nat → Nat} {L : Nat} (hv : VD f D L) (hv' : VD f' D' L) (hc : RdC s D L) (hc' : RdC s D' L) (hr : RdR f' D' L) : RdR f' D L := by
  intro k hk
  obtain ⟨a0, a1, a2, a3, a4, a5⟩ := hc k hk
  obtain ⟨b0, b1, b2, b3, b4, b5⟩ := hc' k hk
  have e0 : D' k 0 = D k 0 := cw_inj ⟨(hv' k hk).1.1, (hv' k hk).1.2.1⟩ ⟨(hv k hk).1.1, (hv k hk).1.2.1⟩ (b0.symm.trans a0)
  obtain ⟨r0, r1, r2, r3, r4, r5, r6, r7, r8⟩ := hr k hk
  rw [e0] at b1 b2 b3 b4 b5 r0 r1 r2 r3 r4 r5 r6 r7 r8
  have oP_of : ∀ o, ([11, 12, 13, 17].contains o = true → oP o = true) ∧ ([14, 18, 20].contains o = true → oV o = true) ∧ ([7, 8, 9, 10, 24, 25].contains o = true → oP o = true) ∧ (o = 17 → oQ o = true) ∧ ([7, 9, 25].contains o = true → oV o = true) ∧ (o = 25 → oQ o = true) := fun o => by
    unfold oP oV oQ
    simp only [List.contains_eq_mem, List.mem_cons, List.not_mem_nil, or_false, decide_eq_true_eq]
    refine ⟨?_, ?_, ?_, ?_, ?_, ?_⟩ <;> omega
  obtain ⟨p1, p2, p3, p4, p5, p6⟩ := oP_of (D k 0)
  exact ⟨r0, fun h => (r1 h).trans ((b1 h).symm.trans (a1 h)), fun h => (r2 h).trans ((b2 (p1 h)).symm.trans (a2 (p1 h))), fun h => (r3 h).trans ((b3 (p2 h)).symm.trans (a3 (p2 h))), fun h => (r4 h).trans ((b2 (p3 h)).symm.trans (a2 (p3 h))), fun h => (r5 h).trans ((b4 (p4 h)).symm.trans (a4 (p4 h))), fun h => (r6 h).trans ((b3 (p5 h)).symm.trans (a3 (p5 h))), fun h => (r7 h).trans ((b5 h).symm.trans (a5 h)), fun h => (r8 h).trans ((b4 (p6 h)).symm.trans (a4 (p6 h)))⟩
theorem LV_days {w lf : Nat} {g : Nat → Int64} {L : Nat} {D : Nat → Nat → Nat} {σ0 τ0 : ST} {B s d : Nat} {σ τ : ST} (h : LV w lf g L D σ0 τ0 B s d σ τ) : gA τ 1 7 = nI L ∧ RdR (gA τ 1) D L := by
  obtain ⟨hW, ⟨d6, d7, dC, hL⟩, _, _, _, _, hv⟩ := h
  obtain ⟨_, _, _, _, _, _, _, hD, _⟩ := hW
  rcases hD with ⟨_, z, _⟩ | ⟨L', D', l1, l2, l3, l4, l5, l6, l7⟩
  · exfalso
    have : nI 1 = nI 0 := d6.symm.trans z
    exact absurd this (by decide)
  · have e : L' = L := by
      have z : nI L' = nI L := l4.symm.trans d7
      rw [nI_e (by omega) (by omega)] at z
      exact z
    subst e
    exact ⟨l2, RdR_of hv l5 dC l6 l7⟩
/-- a call on the world alone -/
theorem LV_keep {w lf : Nat} (hl : isLf w lf) {g : Nat → Int64} {L : Nat} {D : Nat → Nat → Nat} {σ0 τ0 : ST} {B B' s d : Nat} {σ τ σ1 τ1 : ST} (h : LV w lf g L D σ0 τ0 B s d σ τ) (hp : Wp w σ σ1 τ τ1) (hW : RelW B' (wv σ1 w) (gA τ1 1) g) : LV w lf g L D σ0 τ0 B' s d σ1 τ1 ∧ gA σ1 (lf + 2) = gA σ (lf + 2) ∧ gA τ1 20 = gA τ 20 := by
  obtain ⟨hW0, ⟨d6, d7, dC, hL⟩, ⟨s1, s2⟩, ⟨q1, q2, q3⟩, ht, ⟨f1, f2⟩, hv⟩ := h
  obtain ⟨k1, k2, k3, k4, k5⟩ := Wp_L hl hp
  have kw : ∀ x, 1 ≤ x → x < 15 → (∀ k, gI σ1 (w + x) k = gI σ (w + x) k) ∧ gA σ1 (w + x) = gA σ (w + x) := fun x h1 h2 => k1 _ (by unfold kpC; rw [decide_eq_true (show w + 1 ≤ w + x by omega), decide_eq_true (show w + x < w + 15 by omega)]; rfl)
  have kl : ∀ x, x < 3 → (∀ k, gI σ1 (lf + x) k = gI σ (lf + x) k) ∧ gA σ1 (lf + x) = gA σ (lf + x) := fun x h2 => k1 _ (by unfold kpC; rw [decide_eq_true (show lf ≤ lf + x by omega), decide_eq_true (show lf + x < lf + 3 by omega)]; simp)
  refine ⟨⟨hW, ⟨by rw [(kw 8 (by omega) (by omega)).1]; exact d6, by rw [(kw 8 (by omega) (by omega)).1]; exact d7, ?_, hL⟩, ⟨by rw [show gI σ1 lf 1 = gI σ lf 1 from (kl 0 (by omega)).1 1]; exact s1, by rw [k2]; exact s2⟩, ⟨by rw [show gI σ1 lf 3 = gI σ lf 3 from (kl 0 (by omega)).1 3]; exact q1, by rw [k3]; exact q2, q3⟩, ?_, ⟨f1.trans (Sq_E hp.1), f2.trans (Wp_S hp)⟩, ?_⟩, (kl 2 (by omega)).2, k4⟩
  · intro k hk
    have h1 := dC k hk
    have e : ∀ x, 9 ≤ x → x < 15 → gA (wv σ1 w) x = gA (wv σ w) x := fun x h1 h2 => by
      rw [wv_A _ _ (by omega), wv_A _ _ (by omega)]; exact (kw x (by omega) h2).2
    rw [e 9 (by omega) (by omega), e 10 (by omega) (by omega), e 11 (by omega) (by omega), e 12 (by omega) (by omega), e 13 (by omega) (by omega), e 14 (by omega) (by omega)]
    exact h1
  · intro k hk
    rw [(kl 1 (by omega)).2, k5]; exact ht k hk
  · -- the shelf is the same
    have eI : ∀ k, gI (wv σ1 w) 1 k = gI (wv σ w) 1 k := fun k => (kw 1 (by omega) (by omega)).1 k
    have r1 := hW.1.2.1
    have r0 := hW0.1.2.1
    have eK' : KN (gA τ1 1) = KN (gA τ 1) := by unfold KN; rw [← r1.1, ← r0.1, eI]
    have eY' : YN (gA τ1 1) = YN (gA τ 1) := by unfold YN; rw [← r1.2.1, ← r0.2.1, eI]
    have es : ∀ y, y < 6 → sm (gA τ1 1) y = sm (gA τ 1) y := fun y hy => by
      have h1 := hW.1.2.2.2.2.1 y
      have h0 := hW0.1.2.2.2.2.1 y
      rw [eI, h0, decide_eq_true hy, Bool.true_and, Bool.true_and] at h1
      exact h1.symm
    have hY := hW0.1.1.2.1
    intro k hk
    obtain ⟨a1, a2, a3, a4, a5⟩ := hv k hk
    rw [eY', eK']
    refine ⟨a1, a2, fun e => ?_, fun e => ?_, a5⟩
    · have hy := a2 (by rcases e with e | e <;> rw [e] <;> rfl)
      rw [es _ (by omega)]; exact a3 e
    · have hy := a2 (by rw [e]; rfl)
      rw [es _ (by omega)]; exact a4 e
theorem wv_lf {w lf : Nat} (hl : isLf w lf) {x : Nat} (hx : x < 3) : lf + x < w ∨ w + 28 ≤ lf + x := by rcases hl with ⟨rfl, rfl⟩ | ⟨rfl, rfl⟩ <;> (first | (unfold wM; omega) | (unfold wK; omega))
theorem w_lf {w lf : Nat} (hl : isLf w lf) {x : Nat} (hx : x < 28) : ∀ z, z < 3 → w + x ≠ lf + z := fun z hz => by rcases hl with ⟨rfl, rfl⟩ | ⟨rfl, rfl⟩ <;> (first | (unfold wM; omega) | (unfold wK; omega))
/-- the tallies, the loops, steps and draws: no world -/
theorem LV_out {w lf : Nat} (hl : isLf w lf) {g : Nat → Int64} {L : Nat} {D : Nat → Nat → Nat} {σ0 τ0 : ST} {B s d s' d' : Nat} {σ τ σ1 τ1 : ST} (h : LV w lf g L D σ0 τ0 B s d σ τ) (hw : wv σ1 w = wv σ w) (hg : gA τ1 1 = gA τ 1) (h1 : gI σ1 lf 1 = nI s' ∧ gI τ1 0 40 = nI s') (h2 : gI σ1 lf 3 = nI d' ∧ gI τ1 0 39 = nI d' ∧ d' < 65536) (h3 : ∀ k, k < 6 → gA σ1 (lf + 1) k = gA τ1 21 k) (h4 : Sq (EL w lf) [] σ σ1) (h5 : SL τ τ1) : LV w lf g L D σ0 τ0 B s' d' σ1 τ1 := by
  obtain ⟨hW0, ⟨d6, d7, dC, hL⟩, _, _, _, ⟨f1, f2⟩, hv⟩ := h
  have e8 : ∀ k, gI σ1 (w + 8) k = gI σ (w + 8) k := fun k => by
    have := congrArg (fun z => gI z 8 k) hw
    exact this
  refine ⟨by rw [hw, hg]; exact hW0, ⟨by rw [e8]; exact d6, by rw [e8]; exact d7, by rw [hw]; exact dC, hL⟩, h1, h2, h3, ⟨f1.trans h4, f2.trans h5⟩, by rw [hg]; exact hv⟩
theorem LV_tally {w lf : Nat} (hl : isLf w lf) {g : Nat → Int64} {L : Nat} {D : Nat → Nat → Nat} {σ0 τ0 : ST} {B s d : Nat} {σ τ : ST} (h : LV w lf g L D σ0 τ0 B s d σ τ) (k : Nat) (v : Int32) : LV w lf g L D σ0 τ0 B s d (sA σ (lf + 1) (upd (gA σ (lf + 1)) k v)) (sA τ 21 (upd (gA τ 21) k v)) := by
  refine LV_out hl h (wv_sA_out _ (wv_lf hl (by omega)) _) (by rw [gA_sA, if_neg (by decide)]) h.2.2.1 h.2.2.2.1 (fun j hj => ?_) (SqE_sA (Sq.rf σ) (Or.inl rfl) _) (SL.sA 21 _ (Or.inr rfl))
  rw [gA_sA, if_pos rfl, gA_sA, if_pos rfl, upd_at, upd_at, h.2.2.2.2.1 j hj]
