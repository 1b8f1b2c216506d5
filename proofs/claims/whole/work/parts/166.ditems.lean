/-! items of days -/
theorem it_keeper {t : Nat → Nat} {n p : Nat} {σ0 τ0 σ τ : ST} (hJ : JC t n p σ τ) (hF : Fr2 σ0 τ0 σ τ) {K to : Nat} (hK : K ≤ 6) (h1 : 19400 ≤ to) (hto : to < 29600) (f3 : gA τ 1 3 = nI K) (hn : ∀ j, j < K → NmR (gB σ 7 j) (gB τ 2 (0 + j))) : Out σ0 τ0 (fun σ1 τ1 => σ1 = σ ∧ ∃ r, r < K ∧ (isNm t n p = true ∧ fR (fun j => decide (gB σ 7 j = gJ σ 2 9)) K = nI r) ∧ JJ t n (tE t n p) σ τ1 ∧ Ra (sA τ 1 (upd (gA τ 1) to (nI r))) τ1) (f_X3_isKeeperName 40 (fR (fun j => decide (gB σ 7 j = gJ σ 2 9)) K) σ) (f_X12_keeperTo 0 (nI to) τ) := by
  have h9 := CT_9 hJ.2.2.1
  have hp := hJ.2.1
  have rn := r_isName hJ.2.2.2.1 hp hJ.2.2.2.2.1
  have cin := c_isName hJ.2.2.1 hp
  unfold f_X3_isKeeperName f_X12_keeperTo
  rw [show LC.2.1 40 1 = 2 from rfl]
  by_cases hN : isNm t n p = true
  · rw [if_pos hN] at h9 cin
    rw [hN] at rn
    obtain ⟨l1, l2, l3'⟩ := nm_ok hp hN
    have e1 : fR (fun j => decide (gB σ 7 j = gJ σ 2 9)) K = fR (fun j => decide (gB τ 2 (0 + j) = Int64.ofNat (n256 (nmL t n p)))) K := fR_congr (fun j hj => by
      rw [h9]
      exact decide_eq_decide.mpr (nm_eq (hn j hj) l1 l2 l3'))
    have r1 : f_X12_findHere 0 0 (nI K) τ = some (fR (fun j => decide (gB τ 2 (0 + j) = Int64.ofNat (n256 (nmL t n p)))) K, τ) := r_findHere (b := 0) hJ.2.2.2.1 hp hJ.2.2.2.2.1 hN (by omega)
    rw [← e1] at r1
    have d3 : ldA LR τ (LR.2.1 0 0) 3 = some (nI K) := (ldA1 (τ := τ) (k := 3) (by decide)).trans (by rw [f3])
    rw [cin, bsm, if_neg (show ¬ ((nI 1, σ) : Int32 × ST).1 = 0 from fun z => absurd (show nI 1 = 0 from z) (by decide)), rn, bsm, if_neg (show ¬ ((bI true, τ) : Int32 × ST).1 = 0 from fun z => absurd (show bI true = 0 from z) (by decide))]
    simp only []
    rw [d3, bsm, r1, bsm]
    simp only []
    rw [sA1_st hto, bsm, ldA1 hto, bsm, gA_sA, if_pos rfl, upd_at, if_pos rfl]
    rcases fR_cs (fun j => decide (gB σ 7 j = gJ σ 2 9)) K with ⟨w, _⟩ | ⟨r, w1, w, _⟩
    · rw [w, if_pos (show mI = -1 from rfl), if_pos (show mI = -1 from rfl)]
      obtain ⟨σf, τf, b1, b2, b3⟩ := both_fail (JC_tA hJ (x := 1) (by decide) (upd (gA τ 1) to mI)) (show Fr2 σ0 τ0 σ _ from ⟨hF.1, hF.2.sA1 _ h1⟩) (k := 3) (by omega) (by omega)
      have b1' : f_X6_blame 2 3 σ = some (nI 0, σf) := b1
      have b2' : f_X12_fails 0 3 (sA τ 1 (upd (gA τ 1) to mI)) = some (nI 0, τf) := b2
      rw [b1', b2']
      exact Or.inr ⟨σf, τf, rfl, rfl, b3⟩
    · have nm : ¬ nI r = -1 := fun z => by
        have z2 : nI r = mI := z
        rw [nI_mI (by omega)] at z2; exact z2
      rw [w, if_neg nm, if_neg nm]
      obtain ⟨τ2, g1, g2, g3⟩ := go_on (τ' := sA τ 1 (upd (gA τ 1) to (nI r))) hJ ⟨hJ.2.2.2.1.1, hJ.2.2.2.1.2.1, fun k hk => by rw [gA_sA, if_neg (by decide)]; exact hJ.2.2.2.1.2.2 k hk⟩ rfl rfl
      rw [g1, bsm]
      exact Or.inl ⟨σ, τ2, rfl, rfl, rfl, r, w1, ⟨hN, rfl⟩, g3, g2⟩
  · rw [if_neg hN] at cin
    have hN2 : isNm t n p = false := by cases q : isNm t n p <;> simp_all
    rw [hN2] at rn
    obtain ⟨σf, τf, b1, b2, b3⟩ := both_fail hJ hF (k := 2) (by omega) (by omega)
    have b2' : f_X12_fails 0 2 τ = some (nI 0, τf) := b2
    have eσ : (nI 0, sI (sI σ 2 2 (nI (blK t n p 2))) 2 3 (nI (tF t n p))) = ((nI 0, σf) : Int32 × ST) := Option.some.inj ((c_blame hJ.2.2.1 2).symm.trans b1)
    rw [eσ] at cin
    rw [cin, bsm, if_pos (show ((nI 0, σf) : Int32 × ST).1 = 0 from rfl), rn, bsm, if_pos (show ((bI false, τ) : Int32 × ST).1 = 0 from rfl)]
    simp only []
    rw [b2']
    exact Or.inr ⟨σf, τf, rfl, rfl, b3⟩
theorem it_key {t : Nat → Nat} {n p : Nat} {σ0 τ0 σ τ : ST} (hJ : JC t n p σ τ) (hF : Fr2 σ0 τ0 σ τ) {K to : Nat} (hK : K ≤ 6) (h1 : 19400 ≤ to) (hto : to < 29600) (f3 : gA τ 1 4 = nI K) (hn : ∀ j, j < K → NmR (gB σ 9 j) (gB τ 2 (6 + j))) : Out σ0 τ0 (fun σ1 τ1 => σ1 = σ ∧ ∃ r, r < K ∧ (isNm t n p = true ∧ fR (fun j => decide (gB σ 9 j = gJ σ 2 9)) K = nI r) ∧ JJ t n (tE t n p) σ τ1 ∧ Ra (sA τ 1 (upd (gA τ 1) to (nI r))) τ1) (f_X3_isKeyName 40 (fR (fun j => decide (gB σ 9 j = gJ σ 2 9)) K) σ) (f_X12_keyTo 0 (nI to) τ) := by
  have h9 := CT_9 hJ.2.2.1
  have hp := hJ.2.1
  have rn := r_isName hJ.2.2.2.1 hp hJ.2.2.2.2.1
  have cin := c_isName hJ.2.2.1 hp
  unfold f_X3_isKeyName f_X12_keyTo
  rw [show LC.2.1 40 1 = 2 from rfl]
  by_cases hN : isNm t n p = true
  · rw [if_pos hN] at h9 cin
    rw [hN] at rn
    obtain ⟨l1, l2, l3'⟩ := nm_ok hp hN
    have e1 : fR (fun j => decide (gB σ 9 j = gJ σ 2 9)) K = fR (fun j => decide (gB τ 2 (6 + j) = Int64.ofNat (n256 (nmL t n p)))) K := fR_congr (fun j hj => by
      rw [h9]
      exact decide_eq_decide.mpr (nm_eq (hn j hj) l1 l2 l3'))
    have r1 : f_X12_findHere 0 6 (nI K) τ = some (fR (fun j => decide (gB τ 2 (6 + j) = Int64.ofNat (n256 (nmL t n p)))) K, τ) := r_findHere (b := 6) hJ.2.2.2.1 hp hJ.2.2.2.2.1 hN (by omega)
    rw [← e1] at r1
    have d3 : ldA LR τ (LR.2.1 0 0) 4 = some (nI K) := (ldA1 (τ := τ) (k := 4) (by decide)).trans (by rw [f3])
    rw [cin, bsm, if_neg (show ¬ ((nI 1, σ) : Int32 × ST).1 = 0 from fun z => absurd (show nI 1 = 0 from z) (by decide)), rn, bsm, if_neg (show ¬ ((bI true, τ) : Int32 × ST).1 = 0 from fun z => absurd (show bI true = 0 from z) (by decide))]
    simp only []
    rw [d3, bsm, r1, bsm]
    simp only []
    rw [sA1_st hto, bsm, ldA1 hto, bsm, gA_sA, if_pos rfl, upd_at, if_pos rfl]
    rcases fR_cs (fun j => decide (gB σ 9 j = gJ σ 2 9)) K with ⟨w, _⟩ | ⟨r, w1, w, _⟩
    · rw [w, if_pos (show mI = -1 from rfl), if_pos (show mI = -1 from rfl)]
      obtain ⟨σf, τf, b1, b2, b3⟩ := both_fail (JC_tA hJ (x := 1) (by decide) (upd (gA τ 1) to mI)) (show Fr2 σ0 τ0 σ _ from ⟨hF.1, hF.2.sA1 _ h1⟩) (k := 3) (by omega) (by omega)
      have b1' : f_X6_blame 2 3 σ = some (nI 0, σf) := b1
      have b2' : f_X12_fails 0 3 (sA τ 1 (upd (gA τ 1) to mI)) = some (nI 0, τf) := b2
      rw [b1', b2']
      exact Or.inr ⟨σf, τf, rfl, rfl, b3⟩
    · have nm : ¬ nI r = -1 := fun z => by
        have z2 : nI r = mI := z
        rw [nI_mI (by omega)] at z2; exact z2
      rw [w, if_neg nm, if_neg nm]
      obtain ⟨τ2, g1, g2, g3⟩ := go_on (τ' := sA τ 1 (upd (gA τ 1) to (nI r))) hJ ⟨hJ.2.2.2.1.1, hJ.2.2.2.1.2.1, fun k hk => by rw [gA_sA, if_neg (by decide)]; exact hJ.2.2.2.1.2.2 k hk⟩ rfl rfl
      rw [g1, bsm]
      exact Or.inl ⟨σ, τ2, rfl, rfl, rfl, r, w1, ⟨hN, rfl⟩, g3, g2⟩
  · rw [if_neg hN] at cin
    have hN2 : isNm t n p = false := by cases q : isNm t n p <;> simp_all
    rw [hN2] at rn
    obtain ⟨σf, τf, b1, b2, b3⟩ := both_fail hJ hF (k := 2) (by omega) (by omega)
    have b2' : f_X12_fails 0 2 τ = some (nI 0, τf) := b2
    have eσ : (nI 0, sI (sI σ 2 2 (nI (blK t n p 2))) 2 3 (nI (tF t n p))) = ((nI 0, σf) : Int32 × ST) := Option.some.inj ((c_blame hJ.2.2.1 2).symm.trans b1)
    rw [eσ] at cin
    rw [cin, bsm, if_pos (show ((nI 0, σf) : Int32 × ST).1 = 0 from rfl), rn, bsm, if_pos (show ((bI false, τ) : Int32 × ST).1 = 0 from rfl)]
    simp only []
    rw [b2']
    exact Or.inr ⟨σf, τf, rfl, rfl, b3⟩
/-! what the days' text has told so far -/
def DN (I : Nat → Int32) (d : Int32) (w y k v o m q : Nat → Int32) (σ : ST) : Prop := (∀ j, gI σ 41 j = I j) ∧ gI σ 40 4 = d ∧ gA σ 42 = w ∧ gA σ 43 = y ∧ gA σ 44 = k ∧ gA σ 45 = v ∧ gA σ 46 = o ∧ gA σ 47 = m ∧ gA σ 48 = q
def RDs (f q8 : Nat → Int32) (d21 c22 : Int32) (τ : ST) : Prop := gA τ 1 = f ∧ gA τ 8 = q8 ∧ gI τ 0 21 = d21 ∧ gI τ 0 22 = c22
/-- the shelf that the days are for -/
def WS (K Y : Nat) (σ0 τ0 : ST) : Prop := K ≤ 6 ∧ Y ≤ 6 ∧ gI σ0 5 6 = nI K ∧ gI σ0 5 7 = nI Y ∧ gA τ0 1 3 = nI K ∧ gA τ0 1 4 = nI Y ∧ (∀ j, j < K → NmR (gB σ0 7 j) (gB τ0 2 (0 + j))) ∧ (∀ j, j < Y → NmR (gB σ0 9 j) (gB τ0 2 (6 + j))) ∧ (∀ y, y < Y → bt (gI σ0 5 8) y = decide (gA τ0 1 (22 + y) = nI 1)) ∧ ∀ y, y < Y → gA τ0 1 (22 + y) = nI 0 ∨ gA τ0 1 (22 + y) = nI 1
section
variable {t : Nat → Nat} {n p : Nat} {σ0 τ0 σ τ σ1 τ1 : ST} {I w y k v o m q f q8 : Nat → Int32} {d d21 c22 : Int32} {K Y l : Nat}
theorem DN.rd {ls : List Nat} (h : DN I d w y k v o m q σ) (hr : Rd ls σ σ1) : DN I d w y k v o m q σ1 := by
  obtain ⟨h1, h2, h3, h4, h5, h6, h7, h8, h9⟩ := h
  exact ⟨fun j => by rw [hr.1 41 j (by omega)]; exact h1 j, by rw [hr.1 40 4 (by omega)]; exact h2, by rw [hr.2.2.1]; exact h3, by rw [hr.2.2.1]; exact h4, by rw [hr.2.2.1]; exact h5, by rw [hr.2.2.1]; exact h6, by rw [hr.2.2.1]; exact h7, by rw [hr.2.2.1]; exact h8, by rw [hr.2.2.1]; exact h9⟩
theorem RDs.ra (h : RDs f q8 d21 c22 τ) (hr : Ra τ τ1) : RDs f q8 d21 c22 τ1 := ⟨by rw [hr.2.2.1]; exact h.1, by rw [hr.2.2.1]; exact h.2.1, by rw [hr.1 0 21 (by decide)]; exact h.2.2.1, by rw [hr.1 0 22 (by decide)]; exact h.2.2.2⟩
theorem RDs.sA (h : RDs f q8 d21 c22 τ) (j : Nat) (x : Int32) : RDs (upd f j x) q8 d21 c22 (sA τ 1 (upd (gA τ 1) j x)) := ⟨by rw [gA_sA, if_pos rfl, h.1], by rw [gA_sA, if_neg (by decide)]; exact h.2.1, h.2.2⟩
theorem DN.a42 (h : DN I d w y k v o m q σ) (j : Nat) (x : Int32) : DN I d (upd w j x) y k v o m q (sA σ 42 (upd (gA σ 42) j x)) := ⟨h.1, h.2.1, by rw [gA_sA, if_pos rfl, h.2.2.1], by rw [gA_sA, if_neg (by decide)]; exact h.2.2.2.1, by rw [gA_sA, if_neg (by decide)]; exact h.2.2.2.2.1, by rw [gA_sA, if_neg (by decide)]; exact h.2.2.2.2.2.1, by rw [gA_sA, if_neg (by decide)]; exact h.2.2.2.2.2.2.1, by rw [gA_sA, if_neg (by decide)]; exact h.2.2.2.2.2.2.2.1, by rw [gA_sA, if_neg (by decide)]; exact h.2.2.2.2.2.2.2.2⟩
theorem DN.a43 (h : DN I d w y k v o m q σ) (j : Nat) (x : Int32) : DN I d w (upd y j x) k v o m q (sA σ 43 (upd (gA σ 43) j x)) := ⟨h.1, h.2.1, by rw [gA_sA, if_neg (by decide)]; exact h.2.2.1, by rw [gA_sA, if_pos rfl, h.2.2.2.1], by rw [gA_sA, if_neg (by decide)]; exact h.2.2.2.2.1, by rw [gA_sA, if_neg (by decide)]; exact h.2.2.2.2.2.1, by rw [gA_sA, if_neg (by decide)]; exact h.2.2.2.2.2.2.1, by rw [gA_sA, if_neg (by decide)]; exact h.2.2.2.2.2.2.2.1, by rw [gA_sA, if_neg (by decide)]; exact h.2.2.2.2.2.2.2.2⟩
theorem DN.a44 (h : DN I d w y k v o m q σ) (j : Nat) (x : Int32) : DN I d w y (upd k j x) v o m q (sA σ 44 (upd (gA σ 44) j x)) := ⟨h.1, h.2.1, by rw [gA_sA, if_neg (by decide)]; exact h.2.2.1, by rw [gA_sA, if_neg (by decide)]; exact h.2.2.2.1, by rw [gA_sA, if_pos rfl, h.2.2.2.2.1], by rw [gA_sA, if_neg (by decide)]; exact h.2.2.2.2.2.1, by rw [gA_sA, if_neg (by decide)]; exact h.2.2.2.2.2.2.1, by rw [gA_sA, if_neg (by decide)]; exact h.2.2.2.2.2.2.2.1, by rw [gA_sA, if_neg (by decide)]; exact h.2.2.2.2.2.2.2.2⟩
theorem DN.a45 (h : DN I d w y k v o m q σ) (j : Nat) (x : Int32) : DN I d w y k (upd v j x) o m q (sA σ 45 (upd (gA σ 45) j x)) := ⟨h.1, h.2.1, by rw [gA_sA, if_neg (by decide)]; exact h.2.2.1, by rw [gA_sA, if_neg (by decide)]; exact h.2.2.2.1, by rw [gA_sA, if_neg (by decide)]; exact h.2.2.2.2.1, by rw [gA_sA, if_pos rfl, h.2.2.2.2.2.1], by rw [gA_sA, if_neg (by decide)]; exact h.2.2.2.2.2.2.1, by rw [gA_sA, if_neg (by decide)]; exact h.2.2.2.2.2.2.2.1, by rw [gA_sA, if_neg (by decide)]; exact h.2.2.2.2.2.2.2.2⟩
theorem DN.a46 (h : DN I d w y k v o m q σ) (j : Nat) (x : Int32) : DN I d w y k v (upd o j x) m q (sA σ 46 (upd (gA σ 46) j x)) := ⟨h.1, h.2.1, by rw [gA_sA, if_neg (by decide)]; exact h.2.2.1, by rw [gA_sA, if_neg (by decide)]; exact h.2.2.2.1, by rw [gA_sA, if_neg (by decide)]; exact h.2.2.2.2.1, by rw [gA_sA, if_neg (by decide)]; exact h.2.2.2.2.2.1, by rw [gA_sA, if_pos rfl, h.2.2.2.2.2.2.1], by rw [gA_sA, if_neg (by decide)]; exact h.2.2.2.2.2.2.2.1, by rw [gA_sA, if_neg (by decide)]; exact h.2.2.2.2.2.2.2.2⟩
theorem DN.a47 (h : DN I d w y k v o m q σ) (j : Nat) (x : Int32) : DN I d w y k v o (upd m j x) q (sA σ 47 (upd (gA σ 47) j x)) := ⟨h.1, h.2.1, by rw [gA_sA, if_neg (by decide)]; exact h.2.2.1, by rw [gA_sA, if_neg (by decide)]; exact h.2.2.2.1, by rw [gA_sA, if_neg (by decide)]; exact h.2.2.2.2.1, by rw [gA_sA, if_neg (by decide)]; exact h.2.2.2.2.2.1, by rw [gA_sA, if_neg (by decide)]; exact h.2.2.2.2.2.2.1, by rw [gA_sA, if_pos rfl, h.2.2.2.2.2.2.2.1], by rw [gA_sA, if_neg (by decide)]; exact h.2.2.2.2.2.2.2.2⟩
theorem DN.a48 (h : DN I d w y k v o m q σ) (j : Nat) (x : Int32) : DN I d w y k v o m (upd q j x) (sA σ 48 (upd (gA σ 48) j x)) := ⟨h.1, h.2.1, by rw [gA_sA, if_neg (by decide)]; exact h.2.2.1, by rw [gA_sA, if_neg (by decide)]; exact h.2.2.2.1, by rw [gA_sA, if_neg (by decide)]; exact h.2.2.2.2.1, by rw [gA_sA, if_neg (by decide)]; exact h.2.2.2.2.2.1, by rw [gA_sA, if_neg (by decide)]; exact h.2.2.2.2.2.2.1, by rw [gA_sA, if_neg (by decide)]; exact h.2.2.2.2.2.2.2.1, by rw [gA_sA, if_pos rfl, h.2.2.2.2.2.2.2.2]⟩
theorem DN.i41 (h : DN I d w y k v o m q σ) (j : Nat) (x : Int32) : DN (upd I j x) d w y k v o m q (sI σ 41 j x) := ⟨fun a => by
  rw [gI_sI, upd_at]
  by_cases e : a = j
  · rw [if_pos ⟨rfl, e⟩, if_pos e]
  · rw [if_neg (fun z => e z.2), if_neg e]; exact h.1 a, by rw [gI_sI, if_neg (by omega)]; exact h.2.1, h.2.2⟩
theorem DN.i40 (h : DN I d w y k v o m q σ) (x : Int32) : DN I x w y k v o m q (sI σ 40 4 x) := ⟨fun a => by rw [gI_sI, if_neg (by omega)]; exact h.1 a, by rw [gI_sI, if_pos ⟨rfl, rfl⟩], h.2.2⟩
def MD (t : Nat → Nat) (n : Nat) (σ0 τ0 : ST) (p : Nat) (I : Nat → Int32) (d : Int32) (w y k v o m q f q8 : Nat → Int32) (d21 c22 : Int32) (σ τ : ST) : Prop := JJ t n p σ τ ∧ Fr2 σ0 τ0 σ τ ∧ DN I d w y k v o m q σ ∧ RDs f q8 d21 c22 τ
def MDC (t : Nat → Nat) (n : Nat) (σ0 τ0 : ST) (p : Nat) (I : Nat → Int32) (d : Int32) (w y k v o m q f q8 : Nat → Int32) (d21 c22 : Int32) (σ τ : ST) : Prop := JC t n p σ τ ∧ Fr2 σ0 τ0 σ τ ∧ DN I d w y k v o m q σ ∧ RDs f q8 d21 c22 τ
theorem MD.step (h : MD t n σ0 τ0 p I d w y k v o m q f q8 d21 c22 σ τ) : ∃ σ1, f_X6_step 2 σ = some σ1 ∧ MDC t n σ0 τ0 p I d w y k v o m q f q8 d21 c22 σ1 τ := by
  obtain ⟨σ1, s1, s2, s3⟩ := h.1.step
  exact ⟨σ1, s1, s3, ⟨h.2.1.1.rd s2 rfl, h.2.1.2⟩, h.2.2.1.rd s2, h.2.2.2⟩
theorem MDC.pass (h : MDC t n σ0 τ0 p I d w y k v o m q f q8 d21 c22 σ τ) : ∃ τ1, f_X12_ahead 0 τ = some τ1 ∧ MD t n σ0 τ0 (tE t n p) I d w y k v o m q f q8 d21 c22 σ τ1 := by
  obtain ⟨τ1, q1, q2, q3⟩ := go_on h.1 h.1.2.2.2.1 rfl rfl
  exact ⟨τ1, q1, q3, ⟨h.2.1.1, h.2.1.2.ra q2⟩, h.2.2.1, h.2.2.2.ra q2⟩
theorem MDC.word (h : MDC t n σ0 τ0 p I d w y k v o m q f q8 d21 c22 σ τ) {a : Nat} (ha : a < 26) : Out σ0 τ0 (fun σ1 τ1 => MD t n σ0 τ0 (tE t n p) I d w y k v o m q f q8 d21 c22 σ1 τ1) (f_X6_isOwnWord 2 (nI (cW a)) σ) (f_X12_wantWord 0 14 (nI a) τ) :=
  (it_word h.1 h.2.1 ha).mono (fun σ1 τ1 z => by
    obtain ⟨q1, q2, q3, q4⟩ := z
    rw [q1]
    exact ⟨q2, ⟨h.2.1.1, h.2.1.2.ra q3⟩, h.2.2.1, h.2.2.2.ra q3⟩)
theorem MDC.sign (h : MDC t n σ0 τ0 p I d w y k v o m q f q8 d21 c22 σ τ) : Out σ0 τ0 (fun σ1 τ1 => MD t n σ0 τ0 (tE t n p) I d w y k v o m q f q8 d21 c22 σ1 τ1) (f_X6_isSign 2 (nI 59) σ) (f_X12_wantSign 0 (nI 59) τ) :=
  (it_sign h.1 h.2.1 (by decide)).mono (fun σ1 τ1 z => by
    obtain ⟨q1, q2, q3⟩ := z
    rw [q1]
    exact ⟨q2, ⟨h.2.1.1, h.2.1.2.ra q3⟩, h.2.2.1, h.2.2.2.ra q3⟩)
theorem WS_n (hW : WS K Y σ0 τ0) (hF : Fr2 σ0 τ0 σ τ) : gI σ 5 6 = nI K ∧ gI σ 5 7 = nI Y ∧ gA τ 1 3 = nI K ∧ gA τ 1 4 = nI Y ∧ (∀ j, j < K → NmR (gB σ 7 j) (gB τ 2 (0 + j))) ∧ ∀ j, j < Y → NmR (gB σ 9 j) (gB τ 2 (6 + j)) := by
  obtain ⟨w1, w2, w3, w4, w5, w6, w7, w8, _⟩ := hW
  have c5 := hF.1.1.1 5 (by decide) (by omega)
  have c7 := hF.1.1.1 7 (by decide) (by omega)
  have c9 := hF.1.1.1 9 (by decide) (by omega)
  refine ⟨by rw [c5.1]; exact w3, by rw [c5.1]; exact w4, by rw [hF.2.1.2.2.2.1 3 (by decide)]; exact w5, by rw [hF.2.1.2.2.2.1 4 (by decide)]; exact w6, fun j hj => ?_, fun j hj => ?_⟩
  · rw [c7.2.2.2, hF.2.1.2.2.2.2.2 _ (by omega)]; exact w7 j hj
  · rw [c9.2.2.2, hF.2.1.2.2.2.2.2 _ (by omega)]; exact w8 j hj
theorem MDC.tp (hW : WS K Y σ0 τ0) (h : MDC t n σ0 τ0 p I d w y k v o m q f q8 d21 c22 σ τ) (hl : l < 60) {to : Nat} (h1 : 19400 ≤ to) (hto : to < 29600) : Out σ0 τ0 (fun σ1 τ1 => ∃ r, r < K ∧ (isNm t n p = true ∧ fR (fun j => decide (gB σ 7 j = gJ σ 2 9)) K = nI r) ∧ MD t n σ0 τ0 (tE t n p) I d w y (upd k l (nI r)) v o m q (upd f to (nI r)) q8 d21 c22 σ1 τ1) ((f_X7_keeperNamed 5 (gJ σ 2 9) σ).bind fun u => (stA LC u.2 44 (nI l) u.1).bind fun σ8 => (ldA LC σ8 44 (nI l)).bind fun a9 => f_X3_isKeeperName 40 a9 σ8) (f_X12_keeperTo 0 (nI to) τ) := by
  obtain ⟨n1, n2, n3, n4, n5, n6⟩ := WS_n hW h.2.1
  have e1 : f_X7_keeperNamed 5 (gJ σ 2 9) σ = some (fR (fun j => decide (gB σ 7 j = gJ σ 2 9)) K, σ) := c_keeperNamed (x := 5) (y := 7) (gJ σ 2 9) rfl rfl n1 hW.1
  rw [e1, bsm]
  simp only []
  rw [sa 60 rfl hl (by decide), bsm, la 60 rfl hl (by decide), bsm, gA_sA, if_pos rfl, upd_at, if_pos rfl]
  refine (it_keeper (σ := sA σ 44 (upd (gA σ 44) l (fR (fun j => decide (gB σ 7 j = gJ σ 2 9)) K))) (JC_sA h.1 (by decide) _) ⟨h.2.1.1.sA _ (by decide), h.2.1.2⟩ hW.1 h1 hto n3 n5).mono (fun σ1 τ1 z => ?_)
  obtain ⟨z1, r, z2, z3, z4, z5⟩ := z
  have z3' : fR (fun j => decide (gB σ 7 j = gJ σ 2 9)) K = nI r := z3.2
  refine ⟨r, z2, ⟨z3.1, z3'⟩, ?_⟩
  rw [z1]
  rw [z3'] at z4 ⊢
  exact ⟨z4, ⟨h.2.1.1.sA _ (by decide), (h.2.1.2.sA1 _ h1).ra z5⟩, h.2.2.1.a44 l (nI r), (h.2.2.2.sA to _).ra z5⟩
theorem MDC.to (hW : WS K Y σ0 τ0) (h : MDC t n σ0 τ0 p I d w y k v o m q f q8 d21 c22 σ τ) (hl : l < 60) {to : Nat} (h1 : 19400 ≤ to) (hto : to < 29600) : Out σ0 τ0 (fun σ1 τ1 => ∃ r, r < K ∧ (isNm t n p = true ∧ fR (fun j => decide (gB σ 7 j = gJ σ 2 9)) K = nI r) ∧ MD t n σ0 τ0 (tE t n p) I d w y k v (upd o l (nI r)) m q (upd f to (nI r)) q8 d21 c22 σ1 τ1) ((f_X7_keeperNamed 5 (gJ σ 2 9) σ).bind fun u => (stA LC u.2 46 (nI l) u.1).bind fun σ8 => (ldA LC σ8 46 (nI l)).bind fun a9 => f_X3_isKeeperName 40 a9 σ8) (f_X12_keeperTo 0 (nI to) τ) := by
  obtain ⟨n1, n2, n3, n4, n5, n6⟩ := WS_n hW h.2.1
  have e1 : f_X7_keeperNamed 5 (gJ σ 2 9) σ = some (fR (fun j => decide (gB σ 7 j = gJ σ 2 9)) K, σ) := c_keeperNamed (x := 5) (y := 7) (gJ σ 2 9) rfl rfl n1 hW.1
  rw [e1, bsm]
  simp only []
  rw [sa 60 rfl hl (by decide), bsm, la 60 rfl hl (by decide), bsm, gA_sA, if_pos rfl, upd_at, if_pos rfl]
  refine (it_keeper (σ := sA σ 46 (upd (gA σ 46) l (fR (fun j => decide (gB σ 7 j = gJ σ 2 9)) K))) (JC_sA h.1 (by decide) _) ⟨h.2.1.1.sA _ (by decide), h.2.1.2⟩ hW.1 h1 hto n3 n5).mono (fun σ1 τ1 z => ?_)
  obtain ⟨z1, r, z2, z3, z4, z5⟩ := z
  have z3' : fR (fun j => decide (gB σ 7 j = gJ σ 2 9)) K = nI r := z3.2
  refine ⟨r, z2, ⟨z3.1, z3'⟩, ?_⟩
  rw [z1]
  rw [z3'] at z4 ⊢
  exact ⟨z4, ⟨h.2.1.1.sA _ (by decide), (h.2.1.2.sA1 _ h1).ra z5⟩, h.2.2.1.a46 l (nI r), (h.2.2.2.sA to _).ra z5⟩
theorem MDC.tk (hW : WS K Y σ0 τ0) (h : MDC t n σ0 τ0 p I d w y k v o m q f q8 d21 c22 σ τ) (hl : l < 60) {to : Nat} (h1 : 19400 ≤ to) (hto : to < 29600) : Out σ0 τ0 (fun σ1 τ1 => ∃ r, r < Y ∧ (isNm t n p = true ∧ fR (fun j => decide (gB σ 9 j = gJ σ 2 9)) Y = nI r) ∧ MD t n σ0 τ0 (tE t n p) I d w (upd y l (nI r)) k v o m q (upd f to (nI r)) q8 d21 c22 σ1 τ1) ((f_X7_keyNamed 5 (gJ σ 2 9) σ).bind fun u => (stA LC u.2 43 (nI l) u.1).bind fun σ8 => (ldA LC σ8 43 (nI l)).bind fun a9 => f_X3_isKeyName 40 a9 σ8) (f_X12_keyTo 0 (nI to) τ) := by
  obtain ⟨n1, n2, n3, n4, n5, n6⟩ := WS_n hW h.2.1
  have e1 : f_X7_keyNamed 5 (gJ σ 2 9) σ = some (fR (fun j => decide (gB σ 9 j = gJ σ 2 9)) Y, σ) := c_keyNamed (x := 5) (y := 9) (gJ σ 2 9) rfl rfl n2 hW.2.1
  rw [e1, bsm]
  simp only []
  rw [sa 60 rfl hl (by decide), bsm, la 60 rfl hl (by decide), bsm, gA_sA, if_pos rfl, upd_at, if_pos rfl]
  refine (it_key (σ := sA σ 43 (upd (gA σ 43) l (fR (fun j => decide (gB σ 9 j = gJ σ 2 9)) Y))) (JC_sA h.1 (by decide) _) ⟨h.2.1.1.sA _ (by decide), h.2.1.2⟩ hW.2.1 h1 hto n4 n6).mono (fun σ1 τ1 z => ?_)
  obtain ⟨z1, r, z2, z3, z4, z5⟩ := z
  have z3' : fR (fun j => decide (gB σ 9 j = gJ σ 2 9)) Y = nI r := z3.2
  refine ⟨r, z2, ⟨z3.1, z3'⟩, ?_⟩
  rw [z1]
  rw [z3'] at z4 ⊢
  exact ⟨z4, ⟨h.2.1.1.sA _ (by decide), (h.2.1.2.sA1 _ h1).ra z5⟩, h.2.2.1.a43 l (nI r), (h.2.2.2.sA to _).ra z5⟩
theorem MDC.num (h : MDC t n σ0 τ0 p I d w y k v o m q f q8 d21 c22 σ τ) (hl : l < 60) {to a b : Nat} (h1 : 19400 ≤ to) (hto : to < 29600) (ha : a < 10000) (hb : b < 10000) : Out σ0 τ0 (fun σ1 τ1 => ∃ r, a ≤ r ∧ r ≤ b ∧ MD t n σ0 τ0 (tE t n p) I d w y k (upd v l (nI r)) o m q (upd f to (nI r)) q8 d21 c22 σ1 τ1) (f_X6_isNumberFrom 2 (nI a) (nI b) (sA σ 45 (upd (gA σ 45) l (gI σ 2 6)))) (f_X12_number 0 (nI to) (nI a) (nI b) τ) :=
  (it_num (σ := sA σ 45 (upd (gA σ 45) l (gI σ 2 6))) (JC_sA h.1 (by decide) _) ⟨h.2.1.1.sA _ (by decide), h.2.1.2⟩ hto ha hb).mono (fun σ1 τ1 z => by
    obtain ⟨z1, r, z2, z3, z4, z5, z6, z7, z8⟩ := z
    refine ⟨r, z3, z4, ?_⟩
    have z5' : gI σ 2 6 = nI r := z5
    rw [z1]
    rw [z5'] at z7 ⊢
    exact ⟨z7, ⟨h.2.1.1.sA _ (by decide), (h.2.1.2.sA1 _ h1).ra z8⟩, h.2.2.1.a45 l (nI r), (h.2.2.2.sA to _).ra z8⟩)
end
