/-! shelf parts -/
theorem tk_64 (σ : ST) : f_X8_takesItem 32 (nI 64) σ = ((f_X6_isOwnWord 2 (nI (cW 5)) σ)).bind fun u => (ckZ u.1).bind fun z => some (z, u.2) := by
  unfold f_X8_takesItem
  rw [if_pos (show nI 64 = 64 from rfl)]
  try rfl
theorem tk_75 (σ : ST) : f_X8_takesItem 32 (nI 75) σ = ((f_X8_takesKeeperAt 32 σ)).bind fun u => (ckZ u.1).bind fun z => some (z, u.2) := by
  unfold f_X8_takesItem
  rw [if_neg (show ¬ nI 75 = 64 by decide), if_pos (show nI 75 = 75 from rfl)]
  try rfl
theorem tk_82 (σ : ST) : f_X8_takesItem 32 (nI 82) σ = ((f_X6_isNumberFrom 2 (nI 1) (gI (sI σ 33 10 (gI σ 2 6)) 33 9) (sI σ 33 10 (gI σ 2 6)))).bind fun u => (ckZ u.1).bind fun z => some (z, u.2) := by
  unfold f_X8_takesItem
  rw [if_neg (show ¬ nI 82 = 64 by decide), if_neg (show ¬ nI 82 = 75 by decide), if_pos (show nI 82 = 82 from rfl)]
  try rfl
theorem tk_87 (σ : ST) : f_X8_takesItem 32 (nI 87) σ = ((f_X6_isNumberFrom 2 (nI 1) (gI (sI σ 33 11 (gI σ 2 6)) 33 9) (sI σ 33 11 (gI σ 2 6)))).bind fun u => (ckZ u.1).bind fun z => some (z, u.2) := by
  unfold f_X8_takesItem
  rw [if_neg (show ¬ nI 87 = 64 by decide), if_neg (show ¬ nI 87 = 75 by decide), if_neg (show ¬ nI 87 = 82 by decide), if_pos (show nI 87 = 87 from rfl)]
  try rfl
theorem tk_89 (σ : ST) : f_X8_takesItem 32 (nI 89) σ = ((f_X8_takesKeyAt 32 σ)).bind fun u => (ckZ u.1).bind fun z => some (z, u.2) := by
  unfold f_X8_takesItem
  rw [if_neg (show ¬ nI 89 = 64 by decide), if_neg (show ¬ nI 89 = 75 by decide), if_neg (show ¬ nI 89 = 82 by decide), if_neg (show ¬ nI 89 = 87 by decide), if_pos (show nI 89 = 89 from rfl)]
  try rfl
theorem tk_107 (σ : ST) : f_X8_takesItem 32 (nI 107) σ = (((stB LC σ 35 (gI σ 33 6) (gJ σ 2 9)).bind fun σ14 => f_X8_isNewName 32 σ14)).bind fun u => (ckZ u.1).bind fun z => some (z, u.2) := by
  unfold f_X8_takesItem
  rw [if_neg (show ¬ nI 107 = 64 by decide), if_neg (show ¬ nI 107 = 75 by decide), if_neg (show ¬ nI 107 = 82 by decide), if_neg (show ¬ nI 107 = 87 by decide), if_neg (show ¬ nI 107 = 89 by decide), if_pos (show nI 107 = 107 from rfl), show LC.2.1 (LC.2.1 32 0) 1 = 35 from rfl, show LC.2.1 32 0 = 33 from rfl, show LC.2.1 32 1 = 2 from rfl]
  cases stB LC σ 35 (gI σ 33 6) (gJ σ 2 9) <;> rfl
theorem tk_110 (σ : ST) : f_X8_takesItem 32 (nI 110) σ = ((f_X8_takesCopies 32 σ)).bind fun u => (ckZ u.1).bind fun z => some (z, u.2) := by
  unfold f_X8_takesItem
  rw [if_neg (show ¬ nI 110 = 64 by decide), if_neg (show ¬ nI 110 = 75 by decide), if_neg (show ¬ nI 110 = 82 by decide), if_neg (show ¬ nI 110 = 87 by decide), if_neg (show ¬ nI 110 = 89 by decide), if_neg (show ¬ nI 110 = 107 by decide), if_pos (show nI 110 = 110 from rfl)]
  try rfl
theorem tk_114 (σ : ST) : f_X8_takesItem 32 (nI 114) σ = ((f_X6_isOwnWord 2 (nI (cW 3)) σ)).bind fun u => (ckZ u.1).bind fun z => some (z, u.2) := by
  unfold f_X8_takesItem
  rw [if_neg (show ¬ nI 114 = 64 by decide), if_neg (show ¬ nI 114 = 75 by decide), if_neg (show ¬ nI 114 = 82 by decide), if_neg (show ¬ nI 114 = 87 by decide), if_neg (show ¬ nI 114 = 89 by decide), if_neg (show ¬ nI 114 = 107 by decide), if_neg (show ¬ nI 114 = 110 by decide), if_pos (show nI 114 = 114 from rfl)]
  try rfl
theorem tk_119 (σ : ST) : f_X8_takesItem 32 (nI 119) σ = ((f_X6_isOwnWord 2 (nI (cW 4)) σ)).bind fun u => (ckZ u.1).bind fun z => some (z, u.2) := by
  unfold f_X8_takesItem
  rw [if_neg (show ¬ nI 119 = 64 by decide), if_neg (show ¬ nI 119 = 75 by decide), if_neg (show ¬ nI 119 = 82 by decide), if_neg (show ¬ nI 119 = 87 by decide), if_neg (show ¬ nI 119 = 89 by decide), if_neg (show ¬ nI 119 = 107 by decide), if_neg (show ¬ nI 119 = 110 by decide), if_neg (show ¬ nI 119 = 114 by decide), if_pos (show nI 119 = 119 from rfl)]
  try rfl
theorem tk_121 (σ : ST) : f_X8_takesItem 32 (nI 121) σ = (((stB LC σ 37 (gI σ 33 7) (gJ σ 2 9)).bind fun σ23 => f_X8_isNewName 32 σ23)).bind fun u => (ckZ u.1).bind fun z => some (z, u.2) := by
  unfold f_X8_takesItem
  rw [if_neg (show ¬ nI 121 = 64 by decide), if_neg (show ¬ nI 121 = 75 by decide), if_neg (show ¬ nI 121 = 82 by decide), if_neg (show ¬ nI 121 = 87 by decide), if_neg (show ¬ nI 121 = 89 by decide), if_neg (show ¬ nI 121 = 107 by decide), if_neg (show ¬ nI 121 = 110 by decide), if_neg (show ¬ nI 121 = 114 by decide), if_neg (show ¬ nI 121 = 119 by decide), if_pos (show nI 121 = 121 from rfl), show LC.2.1 (LC.2.1 32 0) 3 = 37 from rfl, show LC.2.1 32 0 = 33 from rfl, show LC.2.1 32 1 = 2 from rfl]
  cases stB LC σ 37 (gI σ 33 7) (gJ σ 2 9) <;> rfl
theorem tk_59 (σ : ST) : f_X8_takesItem 32 (nI 59) σ = ((f_X6_isSign 2 (nI 59) σ)).bind fun u => (ckZ u.1).bind fun z => some (z, u.2) := by
  unfold f_X8_takesItem
  rw [if_neg (show ¬ nI 59 = 64 by decide), if_neg (show ¬ nI 59 = 75 by decide), if_neg (show ¬ nI 59 = 82 by decide), if_neg (show ¬ nI 59 = 87 by decide), if_neg (show ¬ nI 59 = 89 by decide), if_neg (show ¬ nI 59 = 107 by decide), if_neg (show ¬ nI 59 = 110 by decide), if_neg (show ¬ nI 59 = 114 by decide), if_neg (show ¬ nI 59 = 119 by decide), if_neg (show ¬ nI 59 = 121 by decide)]
  try rfl
theorem tk_46 (σ : ST) : f_X8_takesItem 32 (nI 46) σ = ((f_X6_isSign 2 (nI 59) σ)).bind fun u => (ckZ u.1).bind fun z => some (z, u.2) := by
  unfold f_X8_takesItem
  rw [if_neg (show ¬ nI 46 = 64 by decide), if_neg (show ¬ nI 46 = 75 by decide), if_neg (show ¬ nI 46 = 82 by decide), if_neg (show ¬ nI 46 = 87 by decide), if_neg (show ¬ nI 46 = 89 by decide), if_neg (show ¬ nI 46 = 107 by decide), if_neg (show ¬ nI 46 = 110 by decide), if_neg (show ¬ nI 46 = 114 by decide), if_neg (show ¬ nI 46 = 119 by decide), if_neg (show ¬ nI 46 = 121 by decide)]
  try rfl
theorem ch_11 : chN 11 0 = 110 ∧ chN 11 1 = 114 ∧ chN 11 2 = 82 ∧ chN 11 3 = 119 ∧ chN 11 4 = 87 ∧ chN 11 5 = 59 ∧ lenS.getD 11 0 = 6 := by decide +kernel
theorem ch_12 : chN 12 0 = 107 ∧ chN 12 1 = 64 ∧ chN 12 2 = 75 ∧ chN 12 3 = 59 ∧ lenS.getD 12 0 = 4 := by decide +kernel
theorem ch_13 : chN 13 0 = 121 ∧ chN 13 1 = 64 ∧ chN 13 2 = 89 ∧ chN 13 3 = 46 ∧ lenS.getD 13 0 = 4 := by decide +kernel
theorem ti_step {l i N L c : Nat} {σ σ1 : ST} (hl : l < 15) (hL : lenS.getD l 0 = L) (hi : i < L) (hL2 : L < 134) (hs : f_X6_step 2 σ = some σ1) (hc : chN l i = c) (h46 : c ≠ 46) (hc2 : c < 128) : k_X8_takesItems_2 (N + 1) 32 l (nI i) σ = (f_X8_takesItem 32 (nI c) σ1).bind fun u2 => if u2.1 = 0 then ((ckZ 0).bind fun z => some (z, u2.2)) else (k_X8_takesItems_2 N 32 l (nI (i + 1)) u2.2) := by
  rw [k_X8_takesItems_2, c_length hl, bsm, hL]
  simp only []
  rw [if_neg (by rw [nI_leE (by omega) (by omega)]; omega), show LC.2.1 32 1 = 2 from rfl, hs, bsm, c_charAt hl (by omega) (by omega), bsm, hc]
  simp only []
  rw [if_neg (show ¬ nI c = 46 from fun z => h46 ((nI_e (a := c) (b := 46) (by omega) (by omega)).mp z))]
  unfold k_X8_takesItems_69
  rw [c_charAt hl (by omega) (by omega), bsm, hc]
  simp only []
  rw [show nI i + 1 = nI (i + 1) from by rw [show (1 : Int32) = nI 1 from rfl, nI_add]]
theorem ti_end {l N L : Nat} {σ : ST} (hl : l < 15) (hL : lenS.getD l 0 = L) (hL2 : L < 134) : k_X8_takesItems_2 (N + 1) 32 l (nI L) σ = some (nI 1, σ) := by
  rw [k_X8_takesItems_2, c_length hl, bsm, hL]
  simp only []
  rw [if_pos (by rw [nI_leE (by omega) (by omega)]; exact Nat.le_refl _)]
  rfl
/-! what a text has told so far -/
def SN (i : Nat → Int32) (c : Int32) (a4 a6 : Nat → Int32) (b5 b7 : Nat → Int64) (σ : ST) : Prop := (∀ k, gI σ 33 k = i k) ∧ gI σ 32 2 = c ∧ gA σ 34 = a4 ∧ gA σ 36 = a6 ∧ gB σ 35 = b5 ∧ gB σ 37 = b7
def RNs (f : Nat → Int32) (g : Nat → Int64) (s : Int32) (τ : ST) : Prop := gA τ 1 = f ∧ gB τ 2 = g ∧ gI τ 0 19 = s
theorem SN.rd {i : Nat → Int32} {c : Int32} {a4 a6 : Nat → Int32} {b5 b7 : Nat → Int64} {σ σ1 : ST} {l : List Nat} (h : SN i c a4 a6 b5 b7 σ) (hr : Rd l σ σ1) : SN i c a4 a6 b5 b7 σ1 := ⟨fun k => by rw [hr.1 33 k (by omega)]; exact h.1 k, by rw [hr.1 32 2 (by omega)]; exact h.2.1, by rw [hr.2.2.1]; exact h.2.2.1, by rw [hr.2.2.1]; exact h.2.2.2.1, by rw [hr.2.2.2]; exact h.2.2.2.2.1, by rw [hr.2.2.2]; exact h.2.2.2.2.2⟩
theorem SN.i33 {i : Nat → Int32} {c : Int32} {a4 a6 : Nat → Int32} {b5 b7 : Nat → Int64} {σ : ST} (h : SN i c a4 a6 b5 b7 σ) (k : Nat) (v : Int32) : SN (upd i k v) c a4 a6 b5 b7 (sI σ 33 k v) := ⟨fun j => by
  rw [gI_sI, upd_at]
  by_cases e : j = k
  · rw [if_pos ⟨rfl, e⟩, if_pos e]
  · rw [if_neg (fun z => e z.2), if_neg e]; exact h.1 j, by rw [gI_sI, if_neg (by omega)]; exact h.2.1, h.2.2⟩
theorem SN.i32 {i : Nat → Int32} {c : Int32} {a4 a6 : Nat → Int32} {b5 b7 : Nat → Int64} {σ : ST} (h : SN i c a4 a6 b5 b7 σ) (v : Int32) : SN i v a4 a6 b5 b7 (sI σ 32 2 v) := ⟨fun j => by rw [gI_sI, if_neg (by omega)]; exact h.1 j, by rw [gI_sI, if_pos ⟨rfl, rfl⟩], h.2.2⟩
theorem RNs.ra {f : Nat → Int32} {g : Nat → Int64} {s : Int32} {τ τ1 : ST} (h : RNs f g s τ) (hr : Ra τ τ1) : RNs f g s τ1 := ⟨by rw [hr.2.2.1]; exact h.1, by rw [hr.2.2.2]; exact h.2.1, by rw [hr.1 0 19 (by decide)]; exact h.2.2⟩
theorem RNs.sA {f : Nat → Int32} {g : Nat → Int64} {s : Int32} {τ : ST} (h : RNs f g s τ) (k : Nat) (v : Int32) : RNs (upd f k v) g s (sA τ 1 (upd (gA τ 1) k v)) := ⟨by rw [gA_sA, if_pos rfl, h.1], h.2⟩
theorem JC_sI {t : Nat → Nat} {n p : Nat} {σ τ : ST} (h : JC t n p σ τ) {x k : Nat} (hx : x ≠ 2) (v : Int32) : JC t n p (sI σ x k v) τ := by
  have e : ∀ j, gI (sI σ x k v) 2 j = gI σ 2 j := fun j => by rw [gI_sI, if_neg (fun z => hx z.1.symm)]
  obtain ⟨a, b, c, d⟩ := h
  refine ⟨⟨by rw [e]; exact a.1, a.2⟩, b, ?_, d⟩
  unfold CT at c ⊢
  simp only [e, gJ_sI]
  exact c
theorem JC_sA {t : Nat → Nat} {n p : Nat} {σ τ : ST} (h : JC t n p σ τ) {x : Nat} (hx : x ≠ 3) (f : Nat → Int32) : JC t n p (sA σ x f) τ := by
  obtain ⟨a, b, c, d⟩ := h
  exact ⟨⟨a.1, a.2.1, fun k hk => by rw [gA_sA, if_neg (fun z => hx z.symm)]; exact a.2.2 k hk⟩, b, c, d⟩
theorem JC_sB {t : Nat → Nat} {n p : Nat} {σ τ : ST} (h : JC t n p σ τ) {x : Nat} (f : Nat → Int64) : JC t n p (sB σ x f) τ := h
def M (t : Nat → Nat) (n : Nat) (σ0 τ0 : ST) (p : Nat) (i : Nat → Int32) (c : Int32) (a4 a6 : Nat → Int32) (b5 b7 : Nat → Int64) (f : Nat → Int32) (g : Nat → Int64) (s : Int32) (σ τ : ST) : Prop := JJ t n p σ τ ∧ Fr2 σ0 τ0 σ τ ∧ SN i c a4 a6 b5 b7 σ ∧ RNs f g s τ
def MC (t : Nat → Nat) (n : Nat) (σ0 τ0 : ST) (p : Nat) (i : Nat → Int32) (c : Int32) (a4 a6 : Nat → Int32) (b5 b7 : Nat → Int64) (f : Nat → Int32) (g : Nat → Int64) (s : Int32) (σ τ : ST) : Prop := JC t n p σ τ ∧ Fr2 σ0 τ0 σ τ ∧ SN i c a4 a6 b5 b7 σ ∧ RNs f g s τ
theorem le_tE {t : Nat → Nat} {n p : Nat} (h : p ≤ n) : p ≤ tE t n p := Nat.le_trans (tF_sp t h).1 (tE_sp t h).1
section
variable {t : Nat → Nat} {n p : Nat} {σ0 τ0 σ τ : ST} {i a4 a6 f : Nat → Int32} {c s : Int32} {b5 b7 g : Nat → Int64}
theorem JJ.step (h : JJ t n p σ τ) : ∃ σ1, f_X6_step 2 σ = some σ1 ∧ Rd [4, 5, 6, 7, 8, 11] σ σ1 ∧ JC t n p σ1 τ := by
  obtain ⟨a1, a2, a3⟩ := h
  obtain ⟨σ1, s1, s2, s3⟩ := c_step a1 a2 a3.1
  exact ⟨σ1, s1, s2, s2.TC rfl a1, a2, s3, a3.2⟩
theorem M.step (h : M t n σ0 τ0 p i c a4 a6 b5 b7 f g s σ τ) : ∃ σ1, f_X6_step 2 σ = some σ1 ∧ MC t n σ0 τ0 p i c a4 a6 b5 b7 f g s σ1 τ := by
  obtain ⟨σ1, s1, s2, s3⟩ := h.1.step
  exact ⟨σ1, s1, s3, ⟨h.2.1.1.rd s2 rfl, h.2.1.2⟩, h.2.2.1.rd s2, h.2.2.2⟩
theorem MC.word (h : MC t n σ0 τ0 p i c a4 a6 b5 b7 f g s σ τ) {k : Nat} (hk : k < 26) : Out σ0 τ0 (fun σ1 τ1 => M t n σ0 τ0 (tE t n p) i c a4 a6 b5 b7 f g s σ1 τ1) (f_X6_isOwnWord 2 (nI (cW k)) σ) (f_X12_wantWord 0 14 (nI k) τ) :=
  (it_word h.1 h.2.1 hk).mono (fun σ1 τ1 q => by
    obtain ⟨q1, q2, q3, q4⟩ := q
    rw [q1]
    exact ⟨q2, ⟨h.2.1.1, h.2.1.2.ra q3⟩, h.2.2.1, h.2.2.2.ra q3⟩)
theorem MC.sign (h : MC t n σ0 τ0 p i c a4 a6 b5 b7 f g s σ τ) : Out σ0 τ0 (fun σ1 τ1 => M t n σ0 τ0 (tE t n p) i c a4 a6 b5 b7 f g s σ1 τ1) (f_X6_isSign 2 (nI 59) σ) (f_X12_wantSign 0 (nI 59) τ) :=
  (it_sign h.1 h.2.1 (by decide)).mono (fun σ1 τ1 q => by
    obtain ⟨q1, q2, q3⟩ := q
    rw [q1]
    exact ⟨q2, ⟨h.2.1.1, h.2.1.2.ra q3⟩, h.2.2.1, h.2.2.2.ra q3⟩)
theorem MC.num (h : MC t n σ0 τ0 p i c a4 a6 b5 b7 f g s σ τ) {to a b : Nat} (h1 : 19400 ≤ to) (hto : to < 29600) (ha : a < 10000) (hb : b < 10000) : Out σ0 τ0 (fun σ1 τ1 => σ1 = σ ∧ ∃ v, a ≤ v ∧ v ≤ b ∧ gI σ 2 6 = nI v ∧ tK t n p = 3 ∧ v = tV t n p ∧ M t n σ0 τ0 (tE t n p) i c a4 a6 b5 b7 (upd f to (nI v)) g s σ1 τ1) (f_X6_isNumberFrom 2 (nI a) (nI b) σ) (f_X12_number 0 (nI to) (nI a) (nI b) τ) :=
  (it_num h.1 h.2.1 hto ha hb).mono (fun σ1 τ1 q => by
    obtain ⟨q1, v, qv, q2, q3, q4, q5, q6, q7⟩ := q
    refine ⟨q1, v, q2, q3, q4, q5, qv, ?_⟩
    rw [q1]
    exact ⟨q6, ⟨h.2.1.1, (h.2.1.2.sA1 _ h1).ra q7⟩, h.2.2.1, (h.2.2.2.sA to _).ra q7⟩)
theorem MC.i33 (h : MC t n σ0 τ0 p i c a4 a6 b5 b7 f g s σ τ) (k : Nat) (v : Int32) : MC t n σ0 τ0 p (upd i k v) c a4 a6 b5 b7 f g s (sI σ 33 k v) τ := ⟨JC_sI h.1 (by decide) v, ⟨h.2.1.1.sI v (Or.inr (by decide)), h.2.1.2⟩, h.2.2.1.i33 k v, h.2.2.2⟩
theorem MC.i32 (h : MC t n σ0 τ0 p i c a4 a6 b5 b7 f g s σ τ) (v : Int32) : MC t n σ0 τ0 p i v a4 a6 b5 b7 f g s (sI σ 32 2 v) τ := ⟨JC_sI h.1 (by decide) v, ⟨h.2.1.1.sI v (by decide), h.2.1.2⟩, h.2.2.1.i32 v, h.2.2.2⟩
/-- the reference passes a word that was looked at -/
theorem MC.pass (h : MC t n σ0 τ0 p i c a4 a6 b5 b7 f g s σ τ) : ∃ τ1, f_X12_ahead 0 τ = some τ1 ∧ M t n σ0 τ0 (tE t n p) i c a4 a6 b5 b7 f g s σ τ1 := by
  obtain ⟨τ1, q1, q2, q3⟩ := go_on h.1 h.1.2.2.2.1 rfl rfl
  exact ⟨τ1, q1, q3, ⟨h.2.1.1, h.2.1.2.ra q2⟩, h.2.2.1, h.2.2.2.ra q2⟩
end
theorem bind_if {c : Prop} [Decidable c] {α β : Type} (a b : Option α) (h : α → Option β) : (if c then a else b).bind h = if c then a.bind h else b.bind h := by split <;> rfl
