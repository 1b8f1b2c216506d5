/-! may a step begin -/
def vaW (a : Nat) : Bool := decide (7 ≤ a ∧ a ≤ 22 ∧ a ≠ 21)
def opW (a : Nat) : Bool := decide (a = 19 ∨ a = 20)
theorem may_tab : ∀ a : Fin 26, (vaW a.1 = true → (¬ nI (cW a.1) < (7 : Int32)) ∧ ((nI (cW a.1) ≤ (19 : Int32)) ∨ (nI (cW a.1) = (23 : Int32)) ∨ (nI (cW a.1) = (25 : Int32)))) ∧ (vaW a.1 = false → a.1 ≠ 21 → ((nI (cW a.1) < (7 : Int32)) ∨ ¬ (nI (cW a.1) ≤ (19 : Int32))) ∧ ¬ nI (cW a.1) = (23 : Int32) ∧ ¬ nI (cW a.1) = (25 : Int32)) ∧ ((opW a.1 = true) ↔ (nI (cW a.1) = (19 : Int32) ∨ nI (cW a.1) = (23 : Int32))) := by decide +kernel
theorem c_holds {a : Nat} (ha : a < 26) (σ : ST) : f_X3_holdsOthers (nI (cW a)) σ = some (bI (opW a), σ) := by
  have h := (may_tab ⟨a, ha⟩).2.2
  simp only [] at h
  unfold f_X3_holdsOthers
  by_cases e1 : nI (cW a) = (19 : Int32)
  · rw [if_pos e1, h.mpr (Or.inl e1)]; rfl
  · rw [if_neg e1]
    by_cases e2 : nI (cW a) = (23 : Int32)
    · rw [if_pos e2, h.mpr (Or.inr e2)]; rfl
    · rw [if_neg e2]
      cases q : opW a
      · rfl
      · rcases h.mp q with z | z
        · exact absurd z e1
        · exact absurd z e2
theorem c_may_ok {a C dd : Nat} (ha : a < 26) (hv : vaW a = true) {σ : ST} (h8 : gI σ 41 8 = nI C) (h4 : gI σ 40 4 = nI dd) (hC : C < 30) (hd : opW a = true → dd < 3) (hd3 : dd ≤ 3) : f_X3_mayBegin 40 (nI (cW a)) σ = some (nI 1, σ) := by
  obtain ⟨t1, _, _⟩ := may_tab ⟨a, ha⟩
  simp only [] at t1
  obtain ⟨b1, b2⟩ := t1 hv
  have e33 : k_X3_mayBegin_33 40 (nI (cW a)) σ = some (nI 1, σ) := by
    unfold k_X3_mayBegin_33
    rw [show LC.2.1 40 0 = 41 from rfl, h8, if_pos (show nI C < 30 from (nI_ltE (a := C) (b := 30) (by omega) (by omega)).mpr hC), c_holds ha, bsm]
    cases q : opW a
    · rfl
    · rw [if_neg (show ¬ ((bI true, σ) : Int32 × ST).1 = 0 from fun z => absurd (show bI true = 0 from z) (by decide))]
      simp only []
      rw [h4, if_pos (show nI dd < 3 from (nI_ltE (a := dd) (b := 3) (by omega) (by omega)).mpr (hd q))]
      rfl
  unfold f_X3_mayBegin k_X3_mayBegin_12
  rw [if_neg b1]
  by_cases c : nI (cW a) ≤ (19 : Int32)
  · rw [if_pos c]; exact e33
  · rw [if_neg c]
    rcases b2 with z | z | z
    · exact absurd z c
    · rw [if_pos z]; exact e33
    · by_cases z2 : nI (cW a) = (23 : Int32)
      · rw [if_pos z2]; exact e33
      · rw [if_neg z2, if_pos z]; exact e33
