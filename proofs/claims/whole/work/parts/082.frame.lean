/-- since σ nothing has changed but the fields I and the rows A -/
def Fr (I : Nat → Nat → Prop) (A : Nat → Prop) (σ σ1 : ST) : Prop := (∀ x k, ¬ I x k → gI σ1 x k = gI σ x k ∧ gJ σ1 x k = gJ σ x k) ∧ ∀ x, ¬ A x → gA σ1 x = gA σ x ∧ gB σ1 x = gB σ x
theorem Fr.rf {I : Nat → Nat → Prop} {A : Nat → Prop} (σ : ST) : Fr I A σ σ := ⟨fun _ _ _ => ⟨rfl, rfl⟩, fun _ _ => ⟨rfl, rfl⟩⟩
theorem Fr.trans {I : Nat → Nat → Prop} {A : Nat → Prop} {σ σ1 σ2 : ST} (h : Fr I A σ σ1) (h2 : Fr I A σ1 σ2) : Fr I A σ σ2 := ⟨fun x k hx => ⟨((h2.1 x k hx).1).trans (h.1 x k hx).1, ((h2.1 x k hx).2).trans (h.1 x k hx).2⟩, fun x hx => ⟨((h2.2 x hx).1).trans (h.2 x hx).1, ((h2.2 x hx).2).trans (h.2 x hx).2⟩⟩
theorem Fr.sI {I : Nat → Nat → Prop} {A : Nat → Prop} {σ σ1 : ST} (h : Fr I A σ σ1) {x k : Nat} (v : Int32) (hx : I x k) : Fr I A σ (sI σ1 x k v) := h.trans ⟨fun y j hy => ⟨by rw [gI_sI, if_neg (fun e => hy (by rw [e.1, e.2]; exact hx))], rfl⟩, fun _ _ => ⟨rfl, rfl⟩⟩
theorem Fr.sJ {I : Nat → Nat → Prop} {A : Nat → Prop} {σ σ1 : ST} (h : Fr I A σ σ1) {x k : Nat} (v : Int64) (hx : I x k) : Fr I A σ (sJ σ1 x k v) := h.trans ⟨fun y j hy => ⟨rfl, by rw [gJ_sJ, if_neg (fun e => hy (by rw [e.1, e.2]; exact hx))]⟩, fun _ _ => ⟨rfl, rfl⟩⟩
theorem Fr.sA {I : Nat → Nat → Prop} {A : Nat → Prop} {σ σ1 : ST} (h : Fr I A σ σ1) {x : Nat} (f : Nat → Int32) (hx : A x) : Fr I A σ (sA σ1 x f) := h.trans ⟨fun _ _ _ => ⟨rfl, rfl⟩, fun y hy => ⟨by rw [gA_sA, if_neg (fun e => hy (by rw [e]; exact hx))], rfl⟩⟩
theorem Fr.sB {I : Nat → Nat → Prop} {A : Nat → Prop} {σ σ1 : ST} (h : Fr I A σ σ1) {x : Nat} (f : Nat → Int64) (hx : A x) : Fr I A σ (sB σ1 x f) := h.trans ⟨fun _ _ _ => ⟨rfl, rfl⟩, fun y hy => ⟨rfl, by rw [gB_sB, if_neg (fun e => hy (by rw [e]; exact hx))]⟩⟩
theorem Fr.mono {I I2 : Nat → Nat → Prop} {A A2 : Nat → Prop} {σ σ1 : ST} (h : Fr I A σ σ1) (hI : ∀ x k, I x k → I2 x k) (hA : ∀ x, A x → A2 x) : Fr I2 A2 σ σ1 := ⟨fun x k hx => h.1 x k (fun z => hx (hI x k z)), fun x hx => h.2 x (fun z => hx (hA x z))⟩
/-- status, top, bottom -/
def R1 (σ τ : ST) : Prop := gI σ 0 14 = gI τ 0 2 ∧ gJ σ 0 15 = gJ τ 0 3 ∧ gJ σ 0 16 = gJ τ 0 4
/-- one tray -/
def R2t (σ τ : ST) (t : Nat) : Prop := (gI σ (102 + 2 * t) 1 = 0 ∧ gA τ 4 t = -1) ∨ (gI σ (102 + 2 * t) 1 = 1 ∧ ∃ m s : Nat, m ≤ 60 ∧ s ≤ 3 ∧ gI σ (102 + 2 * t) 3 = nI m ∧ gI σ (102 + 2 * t) 2 = nI s ∧ gA τ 4 t = nI m ∧ gA τ 3 t = nI s ∧ ∀ k, k < m → gB σ (103 + 2 * t) k = gB τ 5 (60 * t + k))
def R2 (σ τ : ST) : Prop := ∀ t, t < 4 → R2t σ τ t
/-- what the tray calls may change -/
def I2c : Nat → Nat → Prop := fun x k => (x = 0 ∧ k = 14) ∨ (102 ≤ x ∧ x < 110)
def A2c : Nat → Prop := fun x => 102 ≤ x ∧ x < 110
def I2r : Nat → Nat → Prop := fun x k => x = 0 ∧ k = 2
def A2r : Nat → Prop := fun x => x = 3 ∨ x = 4 ∨ x = 5
theorem fr_0 (σ : ST) (v : Int32) : Fr I2c A2c σ (sI σ 0 14 v) := (Fr.rf σ).sI v (Or.inl ⟨rfl, rfl⟩)
theorem fr_0r (τ : ST) (v : Int32) : Fr I2r A2r τ (sI τ 0 2 v) := (Fr.rf τ).sI v ⟨rfl, rfl⟩
theorem R1_set {σ τ : ST} (h : R1 σ τ) (v : Int32) : R1 (sI σ 0 14 v) (sI τ 0 2 v) := ⟨by rw [gI_sI, gI_sI]; rfl, h.2.1, h.2.2⟩
theorem R2_set {σ τ : ST} (h : R2 σ τ) (v w : Int32) : R2 (sI σ 0 14 v) (sI τ 0 2 w) := by
  intro t ht
  have h1 := h t ht
  unfold R2t at h1 ⊢
  simp only [gI_sI, gA_sI, gB_sI, show ∀ k, ¬ (102 + 2 * t = 0 ∧ k = 14) from fun k e => by omega]
  simpa using h1
set_option maxHeartbeats 1000000 in
theorem sim_tray (a0 a1 a2 : Int32) (σ τ : ST) (h1 : R1 σ τ) (h2 : R2 σ τ) : ∃ (r : Int32) (σ1 τ1 : ST), f_X11_tray 0 a0 a1 a2 σ = some (r, σ1) ∧ f_X12_tray 0 a0 a1 a2 τ = some (r, τ1) ∧ R1 σ1 τ1 ∧ R2 σ1 τ1 ∧ Fr I2c A2c σ σ1 ∧ Fr I2r A2r τ τ1 := by
  have no : ∀ σ' τ' : ST, k_X11_tray_27 0 σ' = some (0, sI σ' 0 14 1) ∧ k_X12_tray_26 0 τ' = some (0, sI τ' 0 2 1) := fun σ' τ' => ⟨rfl, by unfold k_X12_tray_26; rw [r_is]; rfl⟩
  have bad : ∃ (r : Int32) (σ1 τ1 : ST), some ((0 : Int32), sI σ 0 14 1) = some (r, σ1) ∧ some ((0 : Int32), sI τ 0 2 1) = some (r, τ1) ∧ R1 σ1 τ1 ∧ R2 σ1 τ1 ∧ Fr I2c A2c σ σ1 ∧ Fr I2r A2r τ τ1 := ⟨0, _, _, rfl, rfl, R1_set h1 1, R2_set h2 1 1, fr_0 σ 1, fr_0r τ 1⟩
  unfold f_X11_tray f_X12_tray
  rw [c_isTray, r_isTray, b_some, b_some]
  simp only [(no σ τ).1, (no σ τ).2]
  by_cases g0 : a0 < 0 ∨ 4 ≤ a0
  · simp only [if_pos g0, if_true]; exact bad
  · simp only [if_neg g0, show ¬ ((1 : Int32) = 0) from by decide, if_false]
    by_cases g1 : a1 < 0
    · simp only [if_pos g1]; exact bad
    · simp only [if_neg g1]
      by_cases g2 : 3 < a1
      · simp only [if_pos g2]; exact bad
      · simp only [if_neg g2]
        by_cases g3 : a2 < 0
        · simp only [if_pos g3]; exact bad
        · simp only [if_neg g3]
          by_cases g4 : a2 ≤ 60
          · simp only [if_pos g4]
            obtain ⟨t, ht, rfl⟩ := int_to (M := 3) (n := 3) rfl (fun q => g0 (Or.inl q)) (by rcases Int32.le_total 4 a0 with q | q; exact absurd (Or.inr q) g0; exact Int32.not_lt.mp (fun z => g0 (Or.inr (by have h5 := Int32.lt_iff_toInt_lt.mp z; rw [Int32.le_iff_toInt_le]; have : (3 : Int32).toInt = 3 := rfl; have : (4 : Int32).toInt = 4 := rfl; omega))))
            obtain ⟨sv, hs, rfl⟩ := int_to (M := 3) (n := 3) rfl g1 (Int32.not_lt.mp g2)
            obtain ⟨mv, hm, rfl⟩ := int_to (M := 60) (n := 60) rfl g3 g4
            have ht4 : t < 4 := by omega
            rw [c_tray_of ht4, b_some, c_begin ht4, b_some, c_allowed, b_some]
            rw [show LR.2.1 0 5 = 3 from rfl, show LR.2.1 0 6 = 4 from rfl, stA_nI (by exact ht4) (by decide), b_some, stA_nI (by exact ht4) (by decide), b_some]
            have hlp := fun τ' => r_tray_loop ht4 hm FU 0 τ' (Nat.zero_le _) (by unfold FU; omega)
            rw [nI_0] at hlp
            rw [hlp]
            refine ⟨1, _, _, rfl, rfl, ?_, ?_, ?_, ?_⟩
            · exact ⟨by rw [gI_sI, gI_sI]; rfl, h1.2.1, h1.2.2⟩
            · intro u hu
              have h3 := h2 u hu
              unfold R2t at h3 ⊢
              simp only [gI_sI, gI_sB, gB_sB, gB_sI, gA_sI, gA_sB, gA_sA, gB_sA]
              by_cases e : u = t
              · subst e
                refine Or.inr ⟨by simp, mv, sv, hm, hs, by simp, by simp, ?_, ?_, fun k hk => ?_⟩
                · simp [upd]
                · simp [upd]
                · rw [if_pos rfl, if_pos trivial]
                  unfold fillG
                  rw [if_pos (show 0 ≤ k ∧ k < 60 by omega)]
                  exact (if_pos (show 60 * u + 0 ≤ 60 * u + k ∧ 60 * u + k < 60 * u + mv by omega)).symm
              · have e1 : ¬ (102 + 2 * u = 102 + 2 * t) := by omega
                have e2 : ¬ (103 + 2 * u = 103 + 2 * t) := by omega
                have e3 : ¬ (102 + 2 * u = 0) := by omega
                simp only [e1, e2, e3, false_and, if_false, if_true, show (3 : Nat) = 4 ↔ False from by decide, show (4 : Nat) = 3 ↔ False from by decide]
                rcases h3 with h3 | ⟨g5, m5, s5, q1, q2, q3, q4, q5, q6, q7⟩
                · exact Or.inl ⟨h3.1, by simp only [upd, if_neg e]; exact h3.2⟩
                · exact Or.inr ⟨g5, m5, s5, q1, q2, q3, q4, by simp only [upd, if_neg e]; exact q5, by simp only [upd, if_neg e]; exact q6, fun k hk => by rw [if_neg (by omega)]; exact q7 k hk⟩
            · exact (((((Fr.rf σ).sI _ (Or.inr ⟨by omega, by omega⟩)).sI _ (Or.inr ⟨by omega, by omega⟩)).sI _ (Or.inr ⟨by omega, by omega⟩)).sB _ ⟨by omega, by omega⟩).sI _ (Or.inl ⟨rfl, rfl⟩)
            · exact ((((Fr.rf τ).sA _ (Or.inl rfl)).sA _ (Or.inr (Or.inl rfl))).sB _ (Or.inr (Or.inr rfl))).sI _ ⟨rfl, rfl⟩
          · simp only [if_neg g4]; exact bad
