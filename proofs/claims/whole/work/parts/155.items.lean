/-! items: what both sides take, or both blame -/
def FrCw (σ0 σ : ST) : Prop := (∀ x, x ≠ 2 → (x < 32 ∨ 48 < x) → (∀ k, gI σ x k = gI σ0 x k) ∧ (∀ k, gJ σ x k = gJ σ0 x k) ∧ gA σ x = gA σ0 x ∧ gB σ x = gB σ0 x) ∧ gI σ 2 1 = gI σ0 2 1
def FrC (σ0 σ : ST) : Prop := FrCw σ0 σ ∧ gI σ 2 2 = gI σ0 2 2 ∧ gI σ 2 3 = gI σ0 2 3
theorem FrCw.trans {σ0 σ1 σ2 : ST} (h : FrCw σ0 σ1) (h2 : FrCw σ1 σ2) : FrCw σ0 σ2 := ⟨fun x a b => ⟨fun k => ((h2.1 x a b).1 k).trans ((h.1 x a b).1 k), fun k => ((h2.1 x a b).2.1 k).trans ((h.1 x a b).2.1 k), (h2.1 x a b).2.2.1.trans (h.1 x a b).2.2.1, (h2.1 x a b).2.2.2.trans (h.1 x a b).2.2.2⟩, h2.2.trans h.2⟩
theorem FrCw.sI {σ0 σ : ST} (h : FrCw σ0 σ) {x k : Nat} (v : Int32) (hx : (x = 2 ∧ k ≠ 1) ∨ (32 ≤ x ∧ x ≤ 48)) : FrCw σ0 (sI σ x k v) := h.trans ⟨fun y a b => ⟨fun j => by rw [gI_sI, if_neg (by omega)], fun _ => rfl, rfl, rfl⟩, by rw [gI_sI, if_neg (by omega)]⟩
theorem FrC.rf (σ : ST) : FrC σ σ := ⟨⟨fun _ _ _ => ⟨fun _ => rfl, fun _ => rfl, rfl, rfl⟩, rfl⟩, rfl, rfl⟩
theorem FrC.trans {σ0 σ1 σ2 : ST} (h : FrC σ0 σ1) (h2 : FrC σ1 σ2) : FrC σ0 σ2 := ⟨h.1.trans h2.1, h2.2.1.trans h.2.1, h2.2.2.trans h.2.2⟩
theorem FrC.rd {σ0 σ σ1 : ST} (h : FrC σ0 σ) {l : List Nat} (h2 : Rd l σ σ1) (hl : (l.contains 1 || (l.contains 2 || l.contains 3)) = false) : FrC σ0 σ1 := by
  have hl2 : l.contains 1 = false ∧ l.contains 2 = false ∧ l.contains 3 = false := by
    simpa only [Bool.or_eq_false_iff] using hl
  exact h.trans ⟨⟨fun x a _ => ⟨fun k => h2.1 x k (fun z => a z.1), fun k => h2.2.1 x k (fun z => a z.1), h2.2.2.1 x, h2.2.2.2 x⟩, h2.1 2 1 (fun z => by rw [hl2.1] at z; exact absurd z.2 (by decide))⟩, h2.1 2 2 (fun z => by rw [hl2.2.1] at z; exact absurd z.2 (by decide)), h2.1 2 3 (fun z => by rw [hl2.2.2] at z; exact absurd z.2 (by decide))⟩
theorem FrC.sI {σ0 σ : ST} (h : FrC σ0 σ) {x k : Nat} (v : Int32) (hx : (x = 2 ∧ k ≠ 1 ∧ k ≠ 2 ∧ k ≠ 3) ∨ (32 ≤ x ∧ x ≤ 48)) : FrC σ0 (sI σ x k v) := ⟨h.1.sI v (by omega), by rw [gI_sI, if_neg (by omega)]; exact h.2.1, by rw [gI_sI, if_neg (by omega)]; exact h.2.2⟩
theorem FrC.sA {σ0 σ : ST} (h : FrC σ0 σ) {x : Nat} (f : Nat → Int32) (hx : 32 ≤ x ∧ x ≤ 48) : FrC σ0 (sA σ x f) := h.trans ⟨⟨fun y a b => ⟨fun _ => rfl, fun _ => rfl, by rw [gA_sA, if_neg (by omega)], rfl⟩, rfl⟩, rfl, rfl⟩
theorem FrC.sB {σ0 σ : ST} (h : FrC σ0 σ) {x : Nat} (f : Nat → Int64) (hx : 32 ≤ x ∧ x ≤ 48) : FrC σ0 (sB σ x f) := h.trans ⟨⟨fun y a b => ⟨fun _ => rfl, fun _ => rfl, rfl, by rw [gB_sB, if_neg (by omega)]⟩, rfl⟩, rfl, rfl⟩
def frI (k : Nat) : Bool := [11, 12, 13, 14, 15, 17, 18, 19, 21, 22].contains k
def FrRw (τ0 τ : ST) : Prop := (∀ k, frI k = false → gI τ 0 k = gI τ0 0 k) ∧ (∀ k, gJ τ 0 k = gJ τ0 0 k) ∧ (∀ x, x ≠ 1 → x ≠ 8 → gA τ x = gA τ0 x) ∧ (∀ k, k < 19400 → gA τ 1 k = gA τ0 1 k) ∧ (∀ x, x ≠ 2 → gB τ x = gB τ0 x) ∧ ∀ k, k < 48 → gB τ 2 k = gB τ0 2 k
def FrR (τ0 τ : ST) : Prop := FrRw τ0 τ ∧ gI τ 0 17 = gI τ0 0 17
theorem FrR.rf (τ : ST) : FrR τ τ := ⟨⟨fun _ _ => rfl, fun _ => rfl, fun _ _ _ => rfl, fun _ _ => rfl, fun _ _ => rfl, fun _ _ => rfl⟩, rfl⟩
theorem FrRw.trans {τ0 τ1 τ2 : ST} (h : FrRw τ0 τ1) (h2 : FrRw τ1 τ2) : FrRw τ0 τ2 := ⟨fun k a => (h2.1 k a).trans (h.1 k a), fun k => (h2.2.1 k).trans (h.2.1 k), fun x a b => (h2.2.2.1 x a b).trans (h.2.2.1 x a b), fun k a => (h2.2.2.2.1 k a).trans (h.2.2.2.1 k a), fun x a => (h2.2.2.2.2.1 x a).trans (h.2.2.2.2.1 x a), fun k a => (h2.2.2.2.2.2 k a).trans (h.2.2.2.2.2 k a)⟩
theorem FrR.trans {τ0 τ1 τ2 : ST} (h : FrR τ0 τ1) (h2 : FrR τ1 τ2) : FrR τ0 τ2 := ⟨h.1.trans h2.1, h2.2.trans h.2⟩
theorem FrR.ra {τ0 τ τ1 : ST} (h : FrR τ0 τ) (h2 : Ra τ τ1) : FrR τ0 τ1 := h.trans ⟨⟨fun k a => h2.1 0 k (fun z => by rcases z.2 with e | e | e | e <;> (rw [e] at a; exact absurd a (by decide))), fun k => h2.2.1 0 k, fun x _ _ => h2.2.2.1 x, fun k _ => by rw [h2.2.2.1], fun x _ => h2.2.2.2 x, fun k _ => by rw [h2.2.2.2]⟩, h2.1 0 17 (by decide)⟩
theorem FrRw.sI {τ0 τ : ST} (h : FrRw τ0 τ) {k : Nat} (v : Int32) (hk : frI k = true) : FrRw τ0 (sI τ 0 k v) := h.trans ⟨fun j a => by
  rw [gI_sI, if_neg (fun z => by rw [z.2, hk] at a; exact absurd a (by decide))], fun _ => rfl, fun _ _ _ => rfl, fun _ _ => rfl, fun _ _ => rfl, fun _ _ => rfl⟩
theorem FrR.sI {τ0 τ : ST} (h : FrR τ0 τ) {k : Nat} (v : Int32) (hk : (frI k && !(k == 17)) = true) : FrR τ0 (sI τ 0 k v) := by
  have hk2 : frI k = true ∧ k ≠ 17 := by
    simpa using hk
  exact ⟨h.1.sI v hk2.1, by rw [gI_sI, if_neg (fun z => hk2.2 z.2.symm)]; exact h.2⟩
theorem FrR.sA1 {τ0 τ : ST} (h : FrR τ0 τ) {k : Nat} (v : Int32) (hk : 19400 ≤ k) : FrR τ0 (sA τ 1 (upd (gA τ 1) k v)) := h.trans ⟨⟨fun _ _ => rfl, fun _ => rfl, fun x a _ => by rw [gA_sA, if_neg a], fun j hj => by rw [gA_sA, if_pos rfl, upd_at, if_neg (by omega)], fun _ _ => rfl, fun _ _ => rfl⟩, rfl⟩
theorem FrR.sA8 {τ0 τ : ST} (h : FrR τ0 τ) (f : Nat → Int32) : FrR τ0 (sA τ 8 f) := h.trans ⟨⟨fun _ _ => rfl, fun _ => rfl, fun x _ a => by rw [gA_sA, if_neg a], fun j hj => by rw [gA_sA, if_neg (by decide)], fun _ _ => rfl, fun _ _ => rfl⟩, rfl⟩
theorem updL_at (f : Nat → Int64) (k : Nat) (v : Int64) (j : Nat) : vp_updL f k v j = if j = k then v else f j := rfl
theorem FrR.sB2 {τ0 τ : ST} (h : FrR τ0 τ) {k : Nat} (v : Int64) (hk : 48 ≤ k) : FrR τ0 (sB τ 2 (vp_updL (gB τ 2) k v)) := h.trans ⟨⟨fun _ _ => rfl, fun _ => rfl, fun _ _ _ => rfl, fun _ _ => rfl, fun x a => by rw [gB_sB, if_neg a], fun j hj => by rw [gB_sB, if_pos rfl, updL_at, if_neg (by omega)]⟩, rfl⟩
/-! both -/
def JC (t : Nat → Nat) (n p : Nat) (σ τ : ST) : Prop := TC σ t n ∧ p ≤ n ∧ CT σ t n p ∧ TX τ t n ∧ RT τ t n p ∧ gI τ 0 18 = nI 0
def JJ (t : Nat → Nat) (n p : Nat) (σ τ : ST) : Prop := TC σ t n ∧ p ≤ n ∧ gI σ 2 11 = nI p ∧ TX τ t n ∧ RT τ t n p ∧ gI τ 0 18 = nI 0
def Fr2 (σ0 τ0 σ τ : ST) : Prop := FrC σ0 σ ∧ FrR τ0 τ
def FF (σ0 τ0 σ τ : ST) : Prop := (∃ k, 1 ≤ k ∧ k ≤ 7 ∧ gI σ 2 2 = nI k ∧ gI τ 0 18 = nI k) ∧ gI σ 2 3 = gI τ 0 17 ∧ FrCw σ0 σ ∧ FrRw τ0 τ
def Out (σ0 τ0 : ST) (Q : ST → ST → Prop) (x y : Option (Int32 × ST)) : Prop := (∃ σ1 τ1, x = some (nI 1, σ1) ∧ y = some (nI 1, τ1) ∧ Q σ1 τ1) ∨ (∃ σ1 τ1, x = some (nI 0, σ1) ∧ y = some (nI 0, τ1) ∧ FF σ0 τ0 σ1 τ1)
theorem Out.bind {σ0 τ0 : ST} {Q Q' : ST → ST → Prop} {x y : Option (Int32 × ST)} {F G f g : Int32 × ST → Option (Int32 × ST)} (h : Out σ0 τ0 Q x y) (hF : ∀ σ, F (nI 0, σ) = some (nI 0, σ)) (hG : ∀ σ, G (nI 0, σ) = some (nI 0, σ)) (hk : ∀ σ τ, Q σ τ → Out σ0 τ0 Q' (f (nI 1, σ)) (g (nI 1, τ))) : Out σ0 τ0 Q' (x.bind fun u => if u.1 = 0 then F u else f u) (y.bind fun u => if u.1 = 0 then G u else g u) := by
  rcases h with ⟨σ1, τ1, a, b, c⟩ | ⟨σ1, τ1, a, b, c⟩
  · rw [a, b, bsm, bsm, if_neg (show ¬ ((nI 1, σ1) : Int32 × ST).1 = 0 from fun z => absurd (show nI 1 = 0 from z) (by decide)), if_neg (show ¬ ((nI 1, τ1) : Int32 × ST).1 = 0 from fun z => absurd (show nI 1 = 0 from z) (by decide))]
    exact hk σ1 τ1 c
  · rw [a, b, bsm, bsm, if_pos (show ((nI 0, σ1) : Int32 × ST).1 = 0 from rfl), if_pos (show ((nI 0, τ1) : Int32 × ST).1 = 0 from rfl), hF, hG]
    exact Or.inr ⟨σ1, τ1, rfl, rfl, c⟩
theorem Out.mono {σ0 τ0 : ST} {Q Q' : ST → ST → Prop} {x y : Option (Int32 × ST)} (h : Out σ0 τ0 Q x y) (hk : ∀ σ τ, Q σ τ → Q' σ τ) : Out σ0 τ0 Q' x y := by
  rcases h with ⟨σ1, τ1, a, b, c⟩ | ⟨σ1, τ1, a, b, c⟩
  · exact Or.inl ⟨σ1, τ1, a, b, hk _ _ c⟩
  · exact Or.inr ⟨σ1, τ1, a, b, c⟩
/-- a check of a boolean changes nothing -/
theorem Out.ckL {σ0 τ0 : ST} {Q : ST → ST → Prop} {x y : Option (Int32 × ST)} (h : Out σ0 τ0 Q x y) : Out σ0 τ0 Q (x.bind fun u => (ckZ u.1).bind fun z => some (z, u.2)) y := by
  rcases h with ⟨σ1, τ1, a, b, c⟩ | ⟨σ1, τ1, a, b, c⟩
  · exact Or.inl ⟨σ1, τ1, by rw [a]; rfl, b, c⟩
  · exact Or.inr ⟨σ1, τ1, by rw [a]; rfl, b, c⟩
theorem Out.ckR {σ0 τ0 : ST} {Q : ST → ST → Prop} {x y : Option (Int32 × ST)} (h : Out σ0 τ0 Q x y) : Out σ0 τ0 Q x (y.bind fun u => (ckZ u.1).bind fun z => some (z, u.2)) := by
  rcases h with ⟨σ1, τ1, a, b, c⟩ | ⟨σ1, τ1, a, b, c⟩
  · exact Or.inl ⟨σ1, τ1, a, by rw [b]; rfl, c⟩
  · exact Or.inr ⟨σ1, τ1, a, by rw [b]; rfl, c⟩
theorem tK_le (t : Nat → Nat) (n p : Nat) : tK t n p ≤ 4 := by unfold tK; split <;> (try split) <;> (try split) <;> (try split) <;> omega
theorem ckd_tab : ∀ a b : Fin 5, ckd a.1 = ckd b.1 → a = b := by decide
theorem ckd_le : ∀ a : Fin 5, ckd a.1 < 5 := by decide
theorem ck_e (t : Nat → Nat) (n p : Nat) {k : Nat} (hk : k ≤ 4) : (nI (ckd (tK t n p)) = nI (ckd k)) = (tK t n p = k) := by
  have h1 := ckd_le ⟨tK t n p, by have := tK_le t n p; omega⟩
  have h2 := ckd_le ⟨k, by omega⟩
  rw [nI_e (by simp only [] at h1; omega) (by simp only [] at h2; omega)]
  exact propext ⟨fun z => by have := ckd_tab ⟨tK t n p, by have := tK_le t n p; omega⟩ ⟨k, by omega⟩ z; exact Fin.mk.inj this, fun z => by rw [z]⟩
def blK (t : Nat → Nat) (n p k : Nat) : Nat := if tK t n p = 1 then 1 else k
theorem c_blame {σ : ST} {t : Nat → Nat} {n p : Nat} (h : CT σ t n p) (k : Nat) : f_X6_blame 2 (nI k) σ = some (nI 0, sI (sI σ 2 2 (nI (blK t n p k))) 2 3 (nI (tF t n p))) := by
  have e : ∀ v, gI (sI σ 2 2 v) 2 5 = nI (tF t n p) := fun v => by rw [gI_sI, if_neg (by decide)]; exact h.2.1
  have hk : ∀ v, k_X6_blame_14 2 2 v σ = some (nI 0, sI (sI σ 2 2 v) 2 3 (nI (tF t n p))) := fun v => by
    unfold k_X6_blame_14
    rw [stIe, bsm, e, stIe, bsm]; rfl
  have c4 := ck_e t n p (k := 1) (by omega)
  unfold f_X6_blame blK
  rw [h.1]
  by_cases c : tK t n p = 1
  · rw [if_pos (show nI (ckd (tK t n p)) = 4 by rw [c]; rfl), if_pos c, hk]; rfl
  · rw [if_neg (show ¬ nI (ckd (tK t n p)) = 4 from fun z => c (by rw [← c4]; exact z)), if_neg c, hk]
theorem r_fails {τ : ST} {t : Nat → Nat} {n p : Nat} (h : RT τ t n p) (h18 : gI τ 0 18 = nI 0) (k : Nat) : f_X12_fails 0 (nI k) τ = some (nI 0, sI (sI τ 0 18 (nI (blK t n p k))) 0 17 (nI (tF t n p))) := by
  have e : ∀ v, gI (sI τ 0 18 v) 0 13 = nI (tF t n p) := fun v => by rw [gI_sI, if_neg (by decide)]; exact h.2.1
  have hk : ∀ v, k_X12_fails_21 0 0 v τ = some (nI 0, sI (sI τ 0 18 v) 0 17 (nI (tF t n p))) := fun v => by
    unfold k_X12_fails_21
    rw [stIe, bsm, e, stIe, bsm]; rfl
  have k1 : (nI (tK t n p) = (1 : Int32)) = (tK t n p = 1) := nI_e (b := 1) (by have := tK_le t n p; omega) (by omega)
  unfold f_X12_fails blK
  rw [h18, if_pos (show nI 0 = 0 from rfl), h.1]
  by_cases c : tK t n p = 1
  · rw [if_pos (by rw [k1]; exact c), if_pos c, hk]; rfl
  · rw [if_neg (by rw [k1]; exact c), if_neg c, hk]
theorem both_fail {t : Nat → Nat} {n p : Nat} {σ0 τ0 σ τ : ST} (hJ : JC t n p σ τ) (hF : Fr2 σ0 τ0 σ τ) {k : Nat} (h1 : 1 ≤ k) (h2 : k ≤ 7) : ∃ σ1 τ1, f_X6_blame 2 (nI k) σ = some (nI 0, σ1) ∧ f_X12_fails 0 (nI k) τ = some (nI 0, τ1) ∧ FF σ0 τ0 σ1 τ1 := by
  refine ⟨_, _, c_blame hJ.2.2.1 k, r_fails hJ.2.2.2.2.1 hJ.2.2.2.2.2 k, ⟨blK t n p k, by unfold blK; split <;> omega, by unfold blK; split <;> omega, ?_, ?_⟩, ?_, (hF.1.1.sI _ (by decide)).sI _ (by decide), (hF.2.1.sI _ rfl).sI _ rfl⟩
  · rw [gI_sI, if_neg (by decide), gI_sI, if_pos ⟨rfl, rfl⟩]
  · rw [gI_sI, if_neg (by decide), gI_sI, if_pos ⟨rfl, rfl⟩]
  · rw [gI_sI, if_pos ⟨rfl, rfl⟩, gI_sI, if_pos ⟨rfl, rfl⟩]
/-- the reference goes on -/
theorem go_on {t : Nat → Nat} {n p : Nat} {σ τ τ' : ST} (hJ : JC t n p σ τ) (hT : TX τ' t n) (h14 : gI τ' 0 14 = gI τ 0 14) (h18 : gI τ' 0 18 = gI τ 0 18) : ∃ τ1, f_X12_ahead 0 τ' = some τ1 ∧ Ra τ' τ1 ∧ JJ t n (tE t n p) σ τ1 := by
  obtain ⟨a, b, c, d, e, f⟩ := hJ
  have hs := tE_sp t b
  obtain ⟨τ1, q1, q2, q3⟩ := r_ahead hT hs.2.1 (by rw [h14]; exact e.2.2.1)
  exact ⟨τ1, q1, q2, a, hs.2.1, c.2.2.1, q2.TX hT, q3, by rw [q2.1 0 18 (by decide), h18]; exact f⟩
theorem it_word {t : Nat → Nat} {n p : Nat} {σ0 τ0 σ τ : ST} (hJ : JC t n p σ τ) (hF : Fr2 σ0 τ0 σ τ) {k : Nat} (hk : k < 26) : Out σ0 τ0 (fun σ1 τ1 => σ1 = σ ∧ JJ t n (tE t n p) σ τ1 ∧ Ra τ τ1 ∧ tW t n p = k) (f_X6_isOwnWord 2 (nI (cW k)) σ) (f_X12_wantWord 0 14 (nI k) τ) := by
  have h8 := CT_8 hJ.2.2.1
  have hin := r_in hJ.2.2.2.1 hJ.2.1 hJ.2.2.2.2.1
  have hl := tW_le t n p
  have hc := cW_lt ⟨k, hk⟩
  unfold f_X6_isOwnWord f_X12_wantWord
  rw [h8, hin, bsm]
  by_cases c : tW t n p = k
  · obtain ⟨τ1, q1, q2, q3⟩ := go_on hJ hJ.2.2.2.1 rfl rfl
    refine Or.inl ⟨σ, τ1, ?_, ?_, rfl, q3, q2, c⟩
    · rw [c, if_neg (show ¬ k = 26 by omega), if_pos rfl]; rfl
    · rw [c]
      simp only [if_neg (show ¬ k = 26 by omega), if_true]
      rw [q1]; rfl
  · obtain ⟨σ1, τ1, q1, q2, q3⟩ := both_fail hJ hF (k := 2) (by omega) (by omega)
    have q1' : f_X6_blame 2 2 σ = some (nI 0, σ1) := q1
    have q2' : f_X12_fails 0 2 τ = some (nI 0, τ1) := q2
    refine Or.inr ⟨σ1, τ1, ?_, ?_, q3⟩
    · rw [if_neg ?_, q1']; rfl
      by_cases c6 : tW t n p = 26
      · rw [if_pos c6, mI_nI (by simp only [] at hc; omega)]; exact id
      · rw [if_neg c6]
        have hc2 := cW_lt ⟨tW t n p, by omega⟩
        rw [nI_e (by simp only [] at hc2; omega) (by simp only [] at hc; omega)]
        exact fun z => c (Fin.mk.inj (cW_inj ⟨tW t n p, by omega⟩ ⟨k, hk⟩ z))
    · simp only []
      rw [if_neg ?_, q2']; rfl
      by_cases c6 : tW t n p = 26
      · rw [if_pos c6, mI_nI (by omega)]; exact id
      · rw [if_neg c6, nI_e (by omega) (by omega)]; exact c
theorem it_sign {t : Nat → Nat} {n p : Nat} {σ0 τ0 σ τ : ST} (hJ : JC t n p σ τ) (hF : Fr2 σ0 τ0 σ τ) {c : Nat} (hc : c < 256) : Out σ0 τ0 (fun σ1 τ1 => σ1 = σ ∧ JJ t n (tE t n p) σ τ1 ∧ Ra τ τ1) (f_X6_isSign 2 (nI c) σ) (f_X12_wantSign 0 (nI c) τ) := by
  obtain ⟨σ1, τ1, q1, q2, q3⟩ := both_fail hJ hF (k := 2) (by omega) (by omega)
  have q1' : f_X6_blame 2 2 σ = some (nI 0, σ1) := q1
  have q2' : f_X12_fails 0 2 τ = some (nI 0, τ1) := q2
  have k4 : (nI (tK t n p) = (4 : Int32)) = (tK t n p = 4) := nI_e (b := 4) (by have := tK_le t n p; omega) (by omega)
  have c4 := ck_e t n p (k := 4) (by omega)
  have w16 : k_X6_isSign_16 2 σ = some (nI 0, σ1) := by unfold k_X6_isSign_16; rw [q1']; rfl
  unfold f_X6_isSign f_X12_wantSign f_X12_isSign
  rw [hJ.2.2.1.1, hJ.2.2.2.2.1.1]
  by_cases z : tK t n p = 4
  · have h7 := hJ.2.2.1.2.2.2.2.1 z
    have h15 := hJ.2.2.2.2.1.2.2.2.2 z
    have hl : t (tF t n p) < 256 := by
      refine (hJ.1.2.2 _ ?_).2
      have := tF_sp t hJ.2.1
      by_cases e : n ≤ tF t n p
      · unfold tK at z; rw [if_pos e] at z; exact absurd z (by decide)
      · omega
    rw [if_pos (show nI (ckd (tK t n p)) = 3 by rw [z]; rfl), if_pos (show nI (tK t n p) = 4 by rw [k4]; exact z), h7, h15]
    by_cases e : t (tF t n p) = c
    · obtain ⟨τ2, r1, r2, r3⟩ := go_on hJ hJ.2.2.2.1 rfl rfl
      refine Or.inl ⟨σ, τ2, ?_, ?_, rfl, r3, r2⟩
      · rw [e, if_pos rfl]; rfl
      · rw [e, if_pos rfl]
        show (f_X12_ahead 0 τ).bind _ = _
        rw [r1]; rfl
    · refine Or.inr ⟨σ1, τ1, ?_, ?_, q3⟩
      · rw [if_neg (by rw [nI_e (by omega) (by omega)]; exact e)]; exact w16
      · rw [if_neg (by rw [nI_e (by omega) (by omega)]; exact e)]
        show (f_X12_fails 0 2 τ).bind _ = _
        rw [q2']; rfl
  · refine Or.inr ⟨σ1, τ1, ?_, ?_, q3⟩
    · rw [if_neg (show ¬ nI (ckd (tK t n p)) = 3 from fun y => z (by rw [← c4]; exact y))]; exact w16
    · rw [if_neg (by rw [k4]; exact z)]
      show (f_X12_fails 0 2 τ).bind _ = _
      rw [q2']; rfl
def tV (t : Nat → Nat) (n p : Nat) : Nat := dgN t (tF t n p) (tM t n p)
theorem tV_lt {t : Nat → Nat} {n p : Nat} (hp : p ≤ n) (h : tK t n p = 3) : tV t n p < 10000 := by
  have hq := tF_sp t hp
  unfold tV tM tE
  unfold tK at h
  generalize tF t n p = q at *
  by_cases c : n ≤ q
  · rw [if_pos c] at h; exact absurd h (by decide)
  · rw [if_neg c] at h ⊢
    by_cases c1 : pLe (t q) = true
    · rw [if_pos c1] at h; exact absurd h (by decide)
    · rw [if_neg c1] at h ⊢
      by_cases c2 : pDi (t q) = true
      · rw [if_pos c2] at h ⊢
        by_cases c3 : edn pDi t n q - q ≤ 4
        · have he := edn_spec pDi t hq.2
          have := dgN_le (t := t) (q := q) (edn pDi t n q - q) (fun j hj => he.2.2.1 _ (by omega) (by omega))
          have h2 : (10 : Nat) ^ (edn pDi t n q - q) ≤ 10 ^ 4 := Nat.pow_le_pow_right (by omega) c3
          omega
        · rw [if_neg c3] at h; exact absurd h (by decide)
      · rw [if_neg c2] at h
        split at h <;> exact absurd h (by decide)
theorem sA1_st {τ : ST} {k : Nat} (h : k < 29600) (v : Int32) : stA LR τ (LR.2.1 0 0) (nI k) v = some (sA τ 1 (upd (gA τ 1) k v)) := sa 29600 rfl h (by decide)
theorem ldA1 {τ : ST} {k : Nat} (h : k < 29600) : ldA LR τ (LR.2.1 0 0) (nI k) = some (gA τ 1 k) := la 29600 rfl h (by decide)
theorem it_num {t : Nat → Nat} {n p : Nat} {σ0 τ0 σ τ : ST} (hJ : JC t n p σ τ) (hF : Fr2 σ0 τ0 σ τ) {to a b : Nat} (hto : to < 29600) (ha : a < 10000) (hb : b < 10000) : Out σ0 τ0 (fun σ1 τ1 => σ1 = σ ∧ ∃ v, v = tV t n p ∧ a ≤ v ∧ v ≤ b ∧ gI σ 2 6 = nI v ∧ tK t n p = 3 ∧ JJ t n (tE t n p) σ τ1 ∧ Ra (sA τ 1 (upd (gA τ 1) to (nI v))) τ1) (f_X6_isNumberFrom 2 (nI a) (nI b) σ) (f_X12_number 0 (nI to) (nI a) (nI b) τ) := by
  have k3 : (nI (tK t n p) = (3 : Int32)) = (tK t n p = 3) := nI_e (b := 3) (by have := tK_le t n p; omega) (by omega)
  have c3 := ck_e t n p (k := 3) (by omega)
  by_cases z : tK t n p = 3
  · have h6 := hJ.2.2.1.2.2.2.1 z
    have h15 := hJ.2.2.2.2.1.2.2.2.1 z
    have hl := tV_lt hJ.2.1 z
    obtain ⟨σ1, τ1, q1, q2, q3⟩ := both_fail hJ hF (k := 4) (by omega) (by omega)
    have q1' : f_X6_blame 2 4 σ = some (nI 0, σ1) := q1
    have q2' : f_X12_fails 0 4 τ = some (nI 0, τ1) := q2
    have w1 : k_X6_isNumberFrom_30 2 σ = some (nI 0, σ1) := by unfold k_X6_isNumberFrom_30; rw [q1']; rfl
    have w2 : k_X12_number_30 0 τ = some (nI 0, τ1) := by unfold k_X12_number_30; rw [q2']; rfl
    have A : f_X6_isNumberFrom 2 (nI a) (nI b) σ = if tV t n p < a then some (nI 0, σ1) else if tV t n p ≤ b then some (nI 1, σ) else some (nI 0, σ1) := by
      unfold f_X6_isNumberFrom
      rw [hJ.2.2.1.1, if_pos (show nI (ckd (tK t n p)) = 2 by rw [z]; rfl), h6]
      show (if nI (tV t n p) < nI a then _ else if nI (tV t n p) ≤ nI b then _ else _) = _
      simp only [nI_ltE (show tV t n p < 2 ^ 31 by omega) (show a < 2 ^ 31 by omega), nI_leE (show tV t n p < 2 ^ 31 by omega) (show b < 2 ^ 31 by omega), w1]
      rfl
    have B : f_X12_number 0 (nI to) (nI a) (nI b) τ = if tV t n p < a then some (nI 0, τ1) else if tV t n p ≤ b then (f_X12_ahead 0 (sA τ 1 (upd (gA τ 1) to (nI (tV t n p))))).bind (fun u6 => (ckZ 1).bind fun z => some (z, u6)) else some (nI 0, τ1) := by
      unfold f_X12_number
      rw [hJ.2.2.2.2.1.1, if_pos (show nI (tK t n p) = 3 by rw [k3]; exact z), h15]
      show (if nI (tV t n p) < nI a then _ else if nI (tV t n p) ≤ nI b then ((stA LR τ (LR.2.1 0 0) (nI to) (nI (tV t n p))).bind _) else _) = _
      rw [sA1_st hto, bsm]
      simp only [nI_ltE (show tV t n p < 2 ^ 31 by omega) (show a < 2 ^ 31 by omega), nI_leE (show tV t n p < 2 ^ 31 by omega) (show b < 2 ^ 31 by omega), w2]
    rw [A, B]
    by_cases e1 : tV t n p < a
    · rw [if_pos e1, if_pos e1]
      exact Or.inr ⟨σ1, τ1, rfl, rfl, q3⟩
    · rw [if_neg e1, if_neg e1]
      by_cases e2 : tV t n p ≤ b
      · rw [if_pos e2, if_pos e2]
        obtain ⟨τ2, r1, r2, r3⟩ := go_on (τ' := sA τ 1 (upd (gA τ 1) to (nI (tV t n p)))) hJ ⟨hJ.2.2.2.1.1, hJ.2.2.2.1.2.1, fun k hk => by rw [gA_sA, if_neg (by decide)]; exact hJ.2.2.2.1.2.2 k hk⟩ rfl rfl
        refine Or.inl ⟨σ, τ2, rfl, ?_, rfl, _, rfl, by omega, e2, h6, z, r3, r2⟩
        rw [r1]; rfl
      · rw [if_neg e2, if_neg e2]
        exact Or.inr ⟨σ1, τ1, rfl, rfl, q3⟩
  · obtain ⟨σ1, τ1, q1, q2, q3⟩ := both_fail hJ hF (k := 2) (by omega) (by omega)
    have q1' : f_X6_blame 2 2 σ = some (nI 0, σ1) := q1
    have q2' : f_X12_fails 0 2 τ = some (nI 0, τ1) := q2
    refine Or.inr ⟨σ1, τ1, ?_, ?_, q3⟩
    · unfold f_X6_isNumberFrom
      rw [hJ.2.2.1.1, if_neg (show ¬ nI (ckd (tK t n p)) = 2 from fun y => z (by rw [← c3]; exact y)), q1']; rfl
    · unfold f_X12_number
      rw [hJ.2.2.2.2.1.1, if_neg (show ¬ nI (tK t n p) = 3 by rw [k3]; exact z), q2']; rfl
