/-! the orders of days -/
theorem ch_d : chN 0 0 = 118 ∧ chN 0 1 = 64 ∧ chN 0 2 = 112 ∧ chN 0 3 = 110 ∧ chN 1 0 = 118 ∧ chN 1 1 = 64 ∧ chN 1 2 = 112 ∧ chN 2 0 = 115 ∧ chN 2 1 = 64 ∧ chN 2 2 = 112 ∧ chN 2 3 = 110 ∧ chN 3 0 = 107 ∧ chN 3 1 = 64 ∧ chN 3 2 = 112 ∧ chN 4 0 = 112 ∧ chN 5 0 = 112 ∧ chN 5 1 = 111 ∧ chN 6 0 = 110 ∧ chN 7 0 = 107 ∧ chN 8 0 = 107 ∧ chN 8 1 = 64 ∧ chN 8 2 = 112 ∧ chN 8 3 = 99 ∧ chN 8 4 = 110 := by decide +kernel
theorem ch_l : lenS.getD 0 0 = 5 ∧ lenS.getD 1 0 = 4 ∧ lenS.getD 2 0 = 5 ∧ lenS.getD 3 0 = 4 ∧ lenS.getD 4 0 = 2 ∧ lenS.getD 5 0 = 3 ∧ lenS.getD 6 0 = 2 ∧ lenS.getD 7 0 = 2 ∧ lenS.getD 8 0 = 6 ∧ lenS.getD 9 0 = 1 := by decide +kernel
theorem ch_s : chN 0 4 = 59 ∧ chN 1 3 = 59 ∧ chN 2 4 = 59 ∧ chN 3 3 = 59 ∧ chN 4 1 = 59 ∧ chN 5 2 = 59 ∧ chN 6 1 = 59 ∧ chN 7 1 = 59 ∧ chN 8 5 = 59 ∧ chN 9 0 = 59 := by decide +kernel
def Chg (L : Nat) (w y k v o f w' y' k' v' o' f' : Nat → Int32) : Prop := (∀ j, j ≠ L → w' j = w j ∧ y' j = y j ∧ k' j = k j ∧ v' j = v j ∧ o' j = o j) ∧ ∀ x, ¬ (23880 + 6 * L ≤ x ∧ x < 23886 + 6 * L) → f' x = f x
/-- one line, as both have it -/
def LOKd (K Y : Nat) (f0 : Nat → Int32) (L : Nat) (w y k v o f : Nat → Int32) (D : Nat → Nat) : Prop := (w L = nI (cw (D 0)) ∧ (oY (D 0) = true → y L = nI (D 1)) ∧ (oP (D 0) = true → k L = nI (D 2)) ∧ (oV (D 0) = true → v L = nI (D 3)) ∧ (oQ (D 0) = true → o L = nI (D 4))) ∧ (f (23880 + 6 * L) = nI (rwd (D 0)) ∧ (oY (D 0) = true → f (23880 + 6 * L + 1) = nI (D 1)) ∧ ([11, 12, 13, 17].contains (D 0) = true → f (23880 + 6 * L + 1) = nI (D 2)) ∧ ([14, 18, 20].contains (D 0) = true → f (23880 + 6 * L + 1) = nI (D 3)) ∧ ([7, 8, 9, 10, 24, 25].contains (D 0) = true → f (23880 + 6 * L + 2) = nI (D 2)) ∧ (D 0 = 17 → f (23880 + 6 * L + 2) = nI (D 4)) ∧ ([7, 9, 25].contains (D 0) = true → f (23880 + 6 * L + 3) = nI (D 3)) ∧ (D 0 = 25 → f (23880 + 6 * L + 5) = nI (D 4))) ∧ (7 ≤ D 0 ∧ D 0 ≤ 25 ∧ D 0 ≠ 19) ∧ (oY (D 0) = true → D 1 < Y) ∧ (D 0 = 7 ∨ D 0 = 8 → f0 (22 + D 1) = nI 0) ∧ (D 0 = 9 → f0 (22 + D 1) = nI 1 ∧ 1 ≤ D 3) ∧ (oP (D 0) = true → D 2 < K) ∧ (D 0 = 17 → D 4 < K) ∧ (oV (D 0) = true → D 3 ≤ 999) ∧ (D 0 = 18 → D 3 ≤ 16) ∧ (D 0 = 20 → 1 ≤ D 3 ∧ D 3 ≤ 99) ∧ (D 0 = 25 → D 4 = 60 ∨ D 4 = 61 ∨ D 4 = 62)
/-- the line with its order and what it has -/
def rowD (a b c d e : Nat) (i : Nat) : Nat := if i = 0 then a else if i = 1 then b else if i = 2 then c else if i = 3 then d else if i = 4 then e else 0
section
variable {t : Nat → Nat} {n p : Nat} {σ0 τ0 σ τ σ1 τ1 : ST} {I w y k v o m q f q8 : Nat → Int32} {d d21 c22 : Int32} {K Y L : Nat} {Q : ST → ST → Prop} {G : Int32 × ST → Option (Int32 × ST)}
/-- what must be shown of the sign behind the items -/
def TailOK (t : Nat → Nat) (n p : Nat) (σ0 τ0 : ST) (I : Nat → Int32) (d : Int32) (w y k v o m q f q8 : Nat → Int32) (d21 c22 : Int32) (K Y L : Nat) (od : Nat → Prop) (Q : ST → ST → Prop) (G : Int32 × ST → Option (Int32 × ST)) : Prop := ∀ (lit i N : Nat), lit < 15 → lenS.getD lit 0 = i + 1 → i + 1 < 134 → chN lit i = 59 → ∀ (p' : Nat) (w' y' k' v' o' f' : Nat → Int32) (D : Nat → Nat) (σ1 τ1 : ST), p ≤ p' → od (D 0) → LOKd K Y (gA τ0 1) L w' y' k' v' o' f' D → Chg L w y k v o f w' y' k' v' o' f' → MD t n σ0 τ0 p' I d w' y' k' v' o' m q f' q8 d21 c22 σ1 τ1 → Out σ0 τ0 Q (k_X3_takesItems_2 (N + 1 + 1) 40 (nI L) lit (nI i) σ1) (G (nI 1, τ1))
theorem ka_m (hT : TX τ t n) (hp : p ≤ n) (h : RT τ t n p) (v1 : Int32) : f_X12_keyAt 0 v1 (-1) τ = k_X12_keyAt_51 0 v1 τ := by
  unfold f_X12_keyAt
  rw [r_isName hT hp h, bsm]
  cases isNm t n p
  · rw [if_pos (show ((bI false, τ) : Int32 × ST).1 = 0 from rfl)]
  · rw [if_neg (show ¬ ((bI true, τ) : Int32 × ST).1 = 0 from fun z => absurd (show bI true = 0 from z) (by decide)), if_pos rfl]
theorem k51_e (r : Nat) (τ : ST) : k_X12_keyAt_51 0 (nI r) τ = (f_X12_keyTo 0 (nI (r + 1)) τ).bind fun u1 => if u1.1 = 0 then (k_X12_keyAt_85 u1.2) else ((f_X12_wantWord 0 14 (nI 5) u1.2).bind fun u3 => if u3.1 = 0 then (k_X12_keyAt_85 u3.2) else ((f_X12_keeperTo 0 (nI (r + 2)) u3.2).bind fun u5 => if u5.1 = 0 then (k_X12_keyAt_85 u5.2) else (k_X12_keyAt_86 1 u5.2))) := by
  unfold k_X12_keyAt_51
  rw [show nI r + 1 = nI (r + 1) from by rw [show (1 : Int32) = nI 1 from rfl, nI_add], show nI r + 2 = nI (r + 2) from by rw [show (2 : Int32) = nI 2 from rfl, nI_add]]
  rfl
theorem nn3 (r : Nat) : nI r + 3 = nI (r + 3) := by rw [show (3 : Int32) = nI 3 from rfl, nI_add]
theorem nn2 (r : Nat) : nI r + 2 = nI (r + 2) := by rw [show (2 : Int32) = nI 2 from rfl, nI_add]
theorem nn1 (r : Nat) : nI r + 1 = nI (r + 1) := by rw [show (1 : Int32) = nI 1 from rfl, nI_add]
theorem ord_15 (hW : WS K Y σ0 τ0) (hL : L < 60) (hM : MD t n σ0 τ0 p I d w y k v o m q f q8 d21 c22 σ τ) (hw : w L = nI 15) (hf : f (23880 + 6 * L) = nI 15) (hG : TailOK t n p σ0 τ0 I d w y k v o m q f q8 d21 c22 K Y L (fun z => z = 15) Q G) : Out σ0 τ0 Q (f_X3_takesItems 40 (nI L) 9 σ) ((f_X12_order 0 (nI 15) (nI (23880 + 6 * L)) τ).bind fun u12 => if u12.1 = 0 then ((ckZ 0).bind fun z => some (z, u12.2)) else G u12) := by
  obtain ⟨e00, e01, e02, e03, e10, e11, e12, e20, e21, e22, e23, e30, e31, e32, e40, e50, e51, e60, e70, e80, e81, e82, e83, e84⟩ := ch_d
  obtain ⟨l0, l1, l2, l3', l4, l5, l6, l7, l8, l9⟩ := ch_l
  obtain ⟨g0, g1, g2, g3, g4, g5, g6, g7, g8, g9⟩ := ch_s
  obtain ⟨F, hF, hF2⟩ : ∃ F, FU = F ∧ 5000 < F := ⟨FU, rfl, by unfold FU; omega⟩
  obtain ⟨F', hF'⟩ : ∃ F', F = F' + 1 + 1 + 1 + 1 + 1 + 1 + 1 := ⟨F - 7, by omega⟩
  unfold f_X3_takesItems
  rw [hF, hF']
  show Out σ0 τ0 Q (k_X3_takesItems_2 _ 40 (nI L) 9 (nI 0) σ) _
  unfold f_X12_order
  rw [if_neg (show ¬ nI 15 = 7 by decide), if_neg (show ¬ nI 15 = 8 by decide), if_neg (show ¬ nI 15 = 9 by decide), if_neg (show ¬ nI 15 = 10 by decide), if_neg (show ¬ nI 15 = 11 by decide), if_neg (show ¬ nI 15 = 12 by decide), if_neg (show ¬ nI 15 = 13 by decide), if_neg (show ¬ nI 15 = 14 by decide), if_pos (show nI 15 = 15 from rfl)]
  show Out σ0 τ0 Q _ (G (nI 1, τ))
  exact hG 9 0 _ (by decide) l9 (by decide) g9 _ _ _ _ _ _ _ (rowD 15 0 0 0 0) _ _ (Nat.le_refl _) rfl (by
    refine ⟨⟨hw, fun z => absurd (show oY 15 = true from z) (by decide), fun z => absurd (show oP 15 = true from z) (by decide), fun z => absurd (show oV 15 = true from z) (by decide), fun z => absurd (show oQ 15 = true from z) (by decide)⟩, ⟨hf, fun z => absurd (show oY 15 = true from z) (by decide), fun z => absurd (show [11, 12, 13, 17].contains 15 = true from z) (by decide), fun z => absurd (show [14, 18, 20].contains 15 = true from z) (by decide), fun z => absurd (show [7, 8, 9, 10, 24, 25].contains 15 = true from z) (by decide), fun z => absurd (show 15 = 17 from z) (by decide), fun z => absurd (show [7, 9, 25].contains 15 = true from z) (by decide), fun z => absurd (show 15 = 25 from z) (by decide)⟩, (show 7 ≤ 15 ∧ 15 ≤ 25 ∧ 15 ≠ 19 by decide), fun z => absurd (show oY 15 = true from z) (by decide), fun z => absurd (show (15 = 7 ∨ 15 = 8) from z) (by decide), fun z => absurd (show 15 = 9 from z) (by decide), fun z => absurd (show oP 15 = true from z) (by decide), fun z => absurd (show 15 = 17 from z) (by decide), fun z => absurd (show oV 15 = true from z) (by decide), fun z => absurd (show 15 = 18 from z) (by decide), fun z => absurd (show 15 = 20 from z) (by decide), fun z => absurd (show 15 = 25 from z) (by decide)⟩) ⟨fun j hj => ⟨rfl, rfl, rfl, rfl, rfl⟩, fun x hx => rfl⟩ hM
theorem ord_16 (hW : WS K Y σ0 τ0) (hL : L < 60) (hM : MD t n σ0 τ0 p I d w y k v o m q f q8 d21 c22 σ τ) (hw : w L = nI 16) (hf : f (23880 + 6 * L) = nI 16) (hG : TailOK t n p σ0 τ0 I d w y k v o m q f q8 d21 c22 K Y L (fun z => z = 16) Q G) : Out σ0 τ0 Q (f_X3_takesItems 40 (nI L) 9 σ) ((f_X12_order 0 (nI 16) (nI (23880 + 6 * L)) τ).bind fun u12 => if u12.1 = 0 then ((ckZ 0).bind fun z => some (z, u12.2)) else G u12) := by
  obtain ⟨e00, e01, e02, e03, e10, e11, e12, e20, e21, e22, e23, e30, e31, e32, e40, e50, e51, e60, e70, e80, e81, e82, e83, e84⟩ := ch_d
  obtain ⟨l0, l1, l2, l3', l4, l5, l6, l7, l8, l9⟩ := ch_l
  obtain ⟨g0, g1, g2, g3, g4, g5, g6, g7, g8, g9⟩ := ch_s
  obtain ⟨F, hF, hF2⟩ : ∃ F, FU = F ∧ 5000 < F := ⟨FU, rfl, by unfold FU; omega⟩
  obtain ⟨F', hF'⟩ : ∃ F', F = F' + 1 + 1 + 1 + 1 + 1 + 1 + 1 := ⟨F - 7, by omega⟩
  unfold f_X3_takesItems
  rw [hF, hF']
  show Out σ0 τ0 Q (k_X3_takesItems_2 _ 40 (nI L) 9 (nI 0) σ) _
  unfold f_X12_order
  rw [if_neg (show ¬ nI 16 = 7 by decide), if_neg (show ¬ nI 16 = 8 by decide), if_neg (show ¬ nI 16 = 9 by decide), if_neg (show ¬ nI 16 = 10 by decide), if_neg (show ¬ nI 16 = 11 by decide), if_neg (show ¬ nI 16 = 12 by decide), if_neg (show ¬ nI 16 = 13 by decide), if_neg (show ¬ nI 16 = 14 by decide), if_neg (show ¬ nI 16 = 15 by decide), if_pos (show nI 16 = 16 from rfl)]
  show Out σ0 τ0 Q _ (G (nI 1, τ))
  exact hG 9 0 _ (by decide) l9 (by decide) g9 _ _ _ _ _ _ _ (rowD 16 0 0 0 0) _ _ (Nat.le_refl _) rfl (by
    refine ⟨⟨hw, fun z => absurd (show oY 16 = true from z) (by decide), fun z => absurd (show oP 16 = true from z) (by decide), fun z => absurd (show oV 16 = true from z) (by decide), fun z => absurd (show oQ 16 = true from z) (by decide)⟩, ⟨hf, fun z => absurd (show oY 16 = true from z) (by decide), fun z => absurd (show [11, 12, 13, 17].contains 16 = true from z) (by decide), fun z => absurd (show [14, 18, 20].contains 16 = true from z) (by decide), fun z => absurd (show [7, 8, 9, 10, 24, 25].contains 16 = true from z) (by decide), fun z => absurd (show 16 = 17 from z) (by decide), fun z => absurd (show [7, 9, 25].contains 16 = true from z) (by decide), fun z => absurd (show 16 = 25 from z) (by decide)⟩, (show 7 ≤ 16 ∧ 16 ≤ 25 ∧ 16 ≠ 19 by decide), fun z => absurd (show oY 16 = true from z) (by decide), fun z => absurd (show (16 = 7 ∨ 16 = 8) from z) (by decide), fun z => absurd (show 16 = 9 from z) (by decide), fun z => absurd (show oP 16 = true from z) (by decide), fun z => absurd (show 16 = 17 from z) (by decide), fun z => absurd (show oV 16 = true from z) (by decide), fun z => absurd (show 16 = 18 from z) (by decide), fun z => absurd (show 16 = 20 from z) (by decide), fun z => absurd (show 16 = 25 from z) (by decide)⟩) ⟨fun j hj => ⟨rfl, rfl, rfl, rfl, rfl⟩, fun x hx => rfl⟩ hM
theorem ord_22 (hW : WS K Y σ0 τ0) (hL : L < 60) (hM : MD t n σ0 τ0 p I d w y k v o m q f q8 d21 c22 σ τ) (hw : w L = nI 25) (hf : f (23880 + 6 * L) = nI 22) (hG : TailOK t n p σ0 τ0 I d w y k v o m q f q8 d21 c22 K Y L (fun z => z = 22) Q G) : Out σ0 τ0 Q (f_X3_takesItems 40 (nI L) 9 σ) ((f_X12_order 0 (nI 22) (nI (23880 + 6 * L)) τ).bind fun u12 => if u12.1 = 0 then ((ckZ 0).bind fun z => some (z, u12.2)) else G u12) := by
  obtain ⟨e00, e01, e02, e03, e10, e11, e12, e20, e21, e22, e23, e30, e31, e32, e40, e50, e51, e60, e70, e80, e81, e82, e83, e84⟩ := ch_d
  obtain ⟨l0, l1, l2, l3', l4, l5, l6, l7, l8, l9⟩ := ch_l
  obtain ⟨g0, g1, g2, g3, g4, g5, g6, g7, g8, g9⟩ := ch_s
  obtain ⟨F, hF, hF2⟩ : ∃ F, FU = F ∧ 5000 < F := ⟨FU, rfl, by unfold FU; omega⟩
  obtain ⟨F', hF'⟩ : ∃ F', F = F' + 1 + 1 + 1 + 1 + 1 + 1 + 1 := ⟨F - 7, by omega⟩
  unfold f_X3_takesItems
  rw [hF, hF']
  show Out σ0 τ0 Q (k_X3_takesItems_2 _ 40 (nI L) 9 (nI 0) σ) _
  unfold f_X12_order
  rw [if_neg (show ¬ nI 22 = 7 by decide), if_neg (show ¬ nI 22 = 8 by decide), if_neg (show ¬ nI 22 = 9 by decide), if_neg (show ¬ nI 22 = 10 by decide), if_neg (show ¬ nI 22 = 11 by decide), if_neg (show ¬ nI 22 = 12 by decide), if_neg (show ¬ nI 22 = 13 by decide), if_neg (show ¬ nI 22 = 14 by decide), if_neg (show ¬ nI 22 = 15 by decide), if_neg (show ¬ nI 22 = 16 by decide), if_neg (show ¬ nI 22 = 17 by decide), if_neg (show ¬ nI 22 = 18 by decide), if_neg (show ¬ nI 22 = 19 by decide), if_neg (show ¬ nI 22 = 20 by decide)]
  show Out σ0 τ0 Q _ (G (nI 1, τ))
  exact hG 9 0 _ (by decide) l9 (by decide) g9 _ _ _ _ _ _ _ (rowD 22 0 0 0 0) _ _ (Nat.le_refl _) rfl (by
    refine ⟨⟨hw, fun z => absurd (show oY 22 = true from z) (by decide), fun z => absurd (show oP 22 = true from z) (by decide), fun z => absurd (show oV 22 = true from z) (by decide), fun z => absurd (show oQ 22 = true from z) (by decide)⟩, ⟨hf, fun z => absurd (show oY 22 = true from z) (by decide), fun z => absurd (show [11, 12, 13, 17].contains 22 = true from z) (by decide), fun z => absurd (show [14, 18, 20].contains 22 = true from z) (by decide), fun z => absurd (show [7, 8, 9, 10, 24, 25].contains 22 = true from z) (by decide), fun z => absurd (show 22 = 17 from z) (by decide), fun z => absurd (show [7, 9, 25].contains 22 = true from z) (by decide), fun z => absurd (show 22 = 25 from z) (by decide)⟩, (show 7 ≤ 22 ∧ 22 ≤ 25 ∧ 22 ≠ 19 by decide), fun z => absurd (show oY 22 = true from z) (by decide), fun z => absurd (show (22 = 7 ∨ 22 = 8) from z) (by decide), fun z => absurd (show 22 = 9 from z) (by decide), fun z => absurd (show oP 22 = true from z) (by decide), fun z => absurd (show 22 = 17 from z) (by decide), fun z => absurd (show oV 22 = true from z) (by decide), fun z => absurd (show 22 = 18 from z) (by decide), fun z => absurd (show 22 = 20 from z) (by decide), fun z => absurd (show 22 = 25 from z) (by decide)⟩) ⟨fun j hj => ⟨rfl, rfl, rfl, rfl, rfl⟩, fun x hx => rfl⟩ hM
theorem ord_11 (hW : WS K Y σ0 τ0) (hL : L < 60) (hM : MD t n σ0 τ0 p I d w y k v o m q f q8 d21 c22 σ τ) (hw : w L = nI 11) (hf : f (23880 + 6 * L) = nI 11) (hG : TailOK t n p σ0 τ0 I d w y k v o m q f q8 d21 c22 K Y L (fun z => z = 11) Q G) : Out σ0 τ0 Q (f_X3_takesItems 40 (nI L) 4 σ) ((f_X12_order 0 (nI 11) (nI (23880 + 6 * L)) τ).bind fun u12 => if u12.1 = 0 then ((ckZ 0).bind fun z => some (z, u12.2)) else G u12) := by
  obtain ⟨e00, e01, e02, e03, e10, e11, e12, e20, e21, e22, e23, e30, e31, e32, e40, e50, e51, e60, e70, e80, e81, e82, e83, e84⟩ := ch_d
  obtain ⟨l0, l1, l2, l3', l4, l5, l6, l7, l8, l9⟩ := ch_l
  obtain ⟨g0, g1, g2, g3, g4, g5, g6, g7, g8, g9⟩ := ch_s
  obtain ⟨F, hF, hF2⟩ : ∃ F, FU = F ∧ 5000 < F := ⟨FU, rfl, by unfold FU; omega⟩
  obtain ⟨F', hF'⟩ : ∃ F', F = F' + 1 + 1 + 1 + 1 + 1 + 1 + 1 := ⟨F - 7, by omega⟩
  unfold f_X3_takesItems
  rw [hF, hF']
  show Out σ0 τ0 Q (k_X3_takesItems_2 _ 40 (nI L) 4 (nI 0) σ) _
  unfold f_X12_order
  rw [if_neg (show ¬ nI 11 = 7 by decide), if_neg (show ¬ nI 11 = 8 by decide), if_neg (show ¬ nI 11 = 9 by decide), if_neg (show ¬ nI 11 = 10 by decide), if_pos (show nI 11 = 11 from rfl)]
  unfold k_X12_order_144
  rw [nn1]
  obtain ⟨s1, s1_, hs1⟩ := hM.step
  rw [ts_step (by decide) l4 (by decide) (by decide) s1_ e40, td_112]
  refine Out.bind (Out.ckL (Out.ckR (MDC.tp hW hs1 hL (to := 23880 + 6 * L + 1) (by omega) (by omega)))) (fun _ => rfl) (fun _ => rfl) ?_
  intro σ2 τ2 hq
  obtain ⟨r, r1, _, hM2⟩ := hq
  exact hG 4 1 _ (by decide) l4 (by decide) g4 _ _ _ _ _ _ _ (rowD 11 0 r 0 0) _ _ (le_tE hM.1.2.1) rfl (by
    refine ⟨⟨hw, fun z => absurd (show oY 11 = true from z) (by decide), fun z => by rw [upd_at, if_pos rfl]; rfl, fun z => absurd (show oV 11 = true from z) (by decide), fun z => absurd (show oQ 11 = true from z) (by decide)⟩, ⟨by rw [upd_at, if_neg (by omega)]; exact hf, fun z => absurd (show oY 11 = true from z) (by decide), fun z => by rw [upd_at, if_pos rfl]; rfl, fun z => absurd (show [14, 18, 20].contains 11 = true from z) (by decide), fun z => absurd (show [7, 8, 9, 10, 24, 25].contains 11 = true from z) (by decide), fun z => absurd (show 11 = 17 from z) (by decide), fun z => absurd (show [7, 9, 25].contains 11 = true from z) (by decide), fun z => absurd (show 11 = 25 from z) (by decide)⟩, (show 7 ≤ 11 ∧ 11 ≤ 25 ∧ 11 ≠ 19 by decide), fun z => absurd (show oY 11 = true from z) (by decide), fun z => absurd (show (11 = 7 ∨ 11 = 8) from z) (by decide), fun z => absurd (show 11 = 9 from z) (by decide), fun z => r1, fun z => absurd (show 11 = 17 from z) (by decide), fun z => absurd (show oV 11 = true from z) (by decide), fun z => absurd (show 11 = 18 from z) (by decide), fun z => absurd (show 11 = 20 from z) (by decide), fun z => absurd (show 11 = 25 from z) (by decide)⟩) ⟨fun j hj => ⟨rfl, rfl, by rw [upd_at, if_neg hj], rfl, rfl⟩, fun x hx => by rw [upd_at, if_neg (by omega)]⟩ hM2
theorem ord_12 (hW : WS K Y σ0 τ0) (hL : L < 60) (hM : MD t n σ0 τ0 p I d w y k v o m q f q8 d21 c22 σ τ) (hw : w L = nI 12) (hf : f (23880 + 6 * L) = nI 12) (hG : TailOK t n p σ0 τ0 I d w y k v o m q f q8 d21 c22 K Y L (fun z => z = 12) Q G) : Out σ0 τ0 Q (f_X3_takesItems 40 (nI L) 4 σ) ((f_X12_order 0 (nI 12) (nI (23880 + 6 * L)) τ).bind fun u12 => if u12.1 = 0 then ((ckZ 0).bind fun z => some (z, u12.2)) else G u12) := by
  obtain ⟨e00, e01, e02, e03, e10, e11, e12, e20, e21, e22, e23, e30, e31, e32, e40, e50, e51, e60, e70, e80, e81, e82, e83, e84⟩ := ch_d
  obtain ⟨l0, l1, l2, l3', l4, l5, l6, l7, l8, l9⟩ := ch_l
  obtain ⟨g0, g1, g2, g3, g4, g5, g6, g7, g8, g9⟩ := ch_s
  obtain ⟨F, hF, hF2⟩ : ∃ F, FU = F ∧ 5000 < F := ⟨FU, rfl, by unfold FU; omega⟩
  obtain ⟨F', hF'⟩ : ∃ F', F = F' + 1 + 1 + 1 + 1 + 1 + 1 + 1 := ⟨F - 7, by omega⟩
  unfold f_X3_takesItems
  rw [hF, hF']
  show Out σ0 τ0 Q (k_X3_takesItems_2 _ 40 (nI L) 4 (nI 0) σ) _
  unfold f_X12_order
  rw [if_neg (show ¬ nI 12 = 7 by decide), if_neg (show ¬ nI 12 = 8 by decide), if_neg (show ¬ nI 12 = 9 by decide), if_neg (show ¬ nI 12 = 10 by decide), if_neg (show ¬ nI 12 = 11 by decide), if_pos (show nI 12 = 12 from rfl)]
  unfold k_X12_order_144
  rw [nn1]
  obtain ⟨s1, s1_, hs1⟩ := hM.step
  rw [ts_step (by decide) l4 (by decide) (by decide) s1_ e40, td_112]
  refine Out.bind (Out.ckL (Out.ckR (MDC.tp hW hs1 hL (to := 23880 + 6 * L + 1) (by omega) (by omega)))) (fun _ => rfl) (fun _ => rfl) ?_
  intro σ2 τ2 hq
  obtain ⟨r, r1, _, hM2⟩ := hq
  exact hG 4 1 _ (by decide) l4 (by decide) g4 _ _ _ _ _ _ _ (rowD 12 0 r 0 0) _ _ (le_tE hM.1.2.1) rfl (by
    refine ⟨⟨hw, fun z => absurd (show oY 12 = true from z) (by decide), fun z => by rw [upd_at, if_pos rfl]; rfl, fun z => absurd (show oV 12 = true from z) (by decide), fun z => absurd (show oQ 12 = true from z) (by decide)⟩, ⟨by rw [upd_at, if_neg (by omega)]; exact hf, fun z => absurd (show oY 12 = true from z) (by decide), fun z => by rw [upd_at, if_pos rfl]; rfl, fun z => absurd (show [14, 18, 20].contains 12 = true from z) (by decide), fun z => absurd (show [7, 8, 9, 10, 24, 25].contains 12 = true from z) (by decide), fun z => absurd (show 12 = 17 from z) (by decide), fun z => absurd (show [7, 9, 25].contains 12 = true from z) (by decide), fun z => absurd (show 12 = 25 from z) (by decide)⟩, (show 7 ≤ 12 ∧ 12 ≤ 25 ∧ 12 ≠ 19 by decide), fun z => absurd (show oY 12 = true from z) (by decide), fun z => absurd (show (12 = 7 ∨ 12 = 8) from z) (by decide), fun z => absurd (show 12 = 9 from z) (by decide), fun z => r1, fun z => absurd (show 12 = 17 from z) (by decide), fun z => absurd (show oV 12 = true from z) (by decide), fun z => absurd (show 12 = 18 from z) (by decide), fun z => absurd (show 12 = 20 from z) (by decide), fun z => absurd (show 12 = 25 from z) (by decide)⟩) ⟨fun j hj => ⟨rfl, rfl, by rw [upd_at, if_neg hj], rfl, rfl⟩, fun x hx => by rw [upd_at, if_neg (by omega)]⟩ hM2
theorem ord_13 (hW : WS K Y σ0 τ0) (hL : L < 60) (hM : MD t n σ0 τ0 p I d w y k v o m q f q8 d21 c22 σ τ) (hw : w L = nI 13) (hf : f (23880 + 6 * L) = nI 13) (hG : TailOK t n p σ0 τ0 I d w y k v o m q f q8 d21 c22 K Y L (fun z => z = 13) Q G) : Out σ0 τ0 Q (f_X3_takesItems 40 (nI L) 4 σ) ((f_X12_order 0 (nI 13) (nI (23880 + 6 * L)) τ).bind fun u12 => if u12.1 = 0 then ((ckZ 0).bind fun z => some (z, u12.2)) else G u12) := by
  obtain ⟨e00, e01, e02, e03, e10, e11, e12, e20, e21, e22, e23, e30, e31, e32, e40, e50, e51, e60, e70, e80, e81, e82, e83, e84⟩ := ch_d
  obtain ⟨l0, l1, l2, l3', l4, l5, l6, l7, l8, l9⟩ := ch_l
  obtain ⟨g0, g1, g2, g3, g4, g5, g6, g7, g8, g9⟩ := ch_s
  obtain ⟨F, hF, hF2⟩ : ∃ F, FU = F ∧ 5000 < F := ⟨FU, rfl, by unfold FU; omega⟩
  obtain ⟨F', hF'⟩ : ∃ F', F = F' + 1 + 1 + 1 + 1 + 1 + 1 + 1 := ⟨F - 7, by omega⟩
  unfold f_X3_takesItems
  rw [hF, hF']
  show Out σ0 τ0 Q (k_X3_takesItems_2 _ 40 (nI L) 4 (nI 0) σ) _
  unfold f_X12_order
  rw [if_neg (show ¬ nI 13 = 7 by decide), if_neg (show ¬ nI 13 = 8 by decide), if_neg (show ¬ nI 13 = 9 by decide), if_neg (show ¬ nI 13 = 10 by decide), if_neg (show ¬ nI 13 = 11 by decide), if_neg (show ¬ nI 13 = 12 by decide), if_pos (show nI 13 = 13 from rfl)]
  unfold k_X12_order_144
  rw [nn1]
  obtain ⟨s1, s1_, hs1⟩ := hM.step
  rw [ts_step (by decide) l4 (by decide) (by decide) s1_ e40, td_112]
  refine Out.bind (Out.ckL (Out.ckR (MDC.tp hW hs1 hL (to := 23880 + 6 * L + 1) (by omega) (by omega)))) (fun _ => rfl) (fun _ => rfl) ?_
  intro σ2 τ2 hq
  obtain ⟨r, r1, _, hM2⟩ := hq
  exact hG 4 1 _ (by decide) l4 (by decide) g4 _ _ _ _ _ _ _ (rowD 13 0 r 0 0) _ _ (le_tE hM.1.2.1) rfl (by
    refine ⟨⟨hw, fun z => absurd (show oY 13 = true from z) (by decide), fun z => by rw [upd_at, if_pos rfl]; rfl, fun z => absurd (show oV 13 = true from z) (by decide), fun z => absurd (show oQ 13 = true from z) (by decide)⟩, ⟨by rw [upd_at, if_neg (by omega)]; exact hf, fun z => absurd (show oY 13 = true from z) (by decide), fun z => by rw [upd_at, if_pos rfl]; rfl, fun z => absurd (show [14, 18, 20].contains 13 = true from z) (by decide), fun z => absurd (show [7, 8, 9, 10, 24, 25].contains 13 = true from z) (by decide), fun z => absurd (show 13 = 17 from z) (by decide), fun z => absurd (show [7, 9, 25].contains 13 = true from z) (by decide), fun z => absurd (show 13 = 25 from z) (by decide)⟩, (show 7 ≤ 13 ∧ 13 ≤ 25 ∧ 13 ≠ 19 by decide), fun z => absurd (show oY 13 = true from z) (by decide), fun z => absurd (show (13 = 7 ∨ 13 = 8) from z) (by decide), fun z => absurd (show 13 = 9 from z) (by decide), fun z => r1, fun z => absurd (show 13 = 17 from z) (by decide), fun z => absurd (show oV 13 = true from z) (by decide), fun z => absurd (show 13 = 18 from z) (by decide), fun z => absurd (show 13 = 20 from z) (by decide), fun z => absurd (show 13 = 25 from z) (by decide)⟩) ⟨fun j hj => ⟨rfl, rfl, by rw [upd_at, if_neg hj], rfl, rfl⟩, fun x hx => by rw [upd_at, if_neg (by omega)]⟩ hM2
theorem ord_18 (hW : WS K Y σ0 τ0) (hL : L < 60) (hM : MD t n σ0 τ0 p I d w y k v o m q f q8 d21 c22 σ τ) (hw : w L = nI 18) (hf : f (23880 + 6 * L) = nI 18) (hG : TailOK t n p σ0 τ0 I d w y k v o m q f q8 d21 c22 K Y L (fun z => z = 18) Q G) : Out σ0 τ0 Q (f_X3_takesItems 40 (nI L) 6 σ) ((f_X12_order 0 (nI 18) (nI (23880 + 6 * L)) τ).bind fun u12 => if u12.1 = 0 then ((ckZ 0).bind fun z => some (z, u12.2)) else G u12) := by
  obtain ⟨e00, e01, e02, e03, e10, e11, e12, e20, e21, e22, e23, e30, e31, e32, e40, e50, e51, e60, e70, e80, e81, e82, e83, e84⟩ := ch_d
  obtain ⟨l0, l1, l2, l3', l4, l5, l6, l7, l8, l9⟩ := ch_l
  obtain ⟨g0, g1, g2, g3, g4, g5, g6, g7, g8, g9⟩ := ch_s
  obtain ⟨F, hF, hF2⟩ : ∃ F, FU = F ∧ 5000 < F := ⟨FU, rfl, by unfold FU; omega⟩
  obtain ⟨F', hF'⟩ : ∃ F', F = F' + 1 + 1 + 1 + 1 + 1 + 1 + 1 := ⟨F - 7, by omega⟩
  unfold f_X3_takesItems
  rw [hF, hF']
  show Out σ0 τ0 Q (k_X3_takesItems_2 _ 40 (nI L) 6 (nI 0) σ) _
  unfold f_X12_order
  rw [if_neg (show ¬ nI 18 = 7 by decide), if_neg (show ¬ nI 18 = 8 by decide), if_neg (show ¬ nI 18 = 9 by decide), if_neg (show ¬ nI 18 = 10 by decide), if_neg (show ¬ nI 18 = 11 by decide), if_neg (show ¬ nI 18 = 12 by decide), if_neg (show ¬ nI 18 = 13 by decide), if_neg (show ¬ nI 18 = 14 by decide), if_neg (show ¬ nI 18 = 15 by decide), if_neg (show ¬ nI 18 = 16 by decide), if_neg (show ¬ nI 18 = 17 by decide), if_pos (show nI 18 = 18 from rfl), nn1]
  obtain ⟨s1, s1_, hs1⟩ := hM.step
  rw [ts_step (by decide) l6 (by decide) (by decide) s1_ e60, td_110 (a := 0) (b := 16) hL (by rw [hs1.2.2.1.2.2.1]; exact hw) (fun s => Eq.trans rfl rfl) (fun s => Eq.trans rfl rfl)]
  refine Out.bind (Out.ckL (Out.ckR (hs1.num hL (to := 23880 + 6 * L + 1) (a := 0) (b := 16) (by omega) (by omega) (by omega) (by omega)))) (fun _ => rfl) (fun _ => rfl) ?_
  intro σ2 τ2 hq
  obtain ⟨r, r1, r2, hM2⟩ := hq
  exact hG 6 1 _ (by decide) l6 (by decide) g6 _ _ _ _ _ _ _ (rowD 18 0 0 r 0) _ _ (le_tE hM.1.2.1) rfl (by
    refine ⟨⟨hw, fun z => absurd (show oY 18 = true from z) (by decide), fun z => absurd (show oP 18 = true from z) (by decide), fun z => by rw [upd_at, if_pos rfl]; rfl, fun z => absurd (show oQ 18 = true from z) (by decide)⟩, ⟨by rw [upd_at, if_neg (by omega)]; exact hf, fun z => absurd (show oY 18 = true from z) (by decide), fun z => absurd (show [11, 12, 13, 17].contains 18 = true from z) (by decide), fun z => by rw [upd_at, if_pos rfl]; rfl, fun z => absurd (show [7, 8, 9, 10, 24, 25].contains 18 = true from z) (by decide), fun z => absurd (show 18 = 17 from z) (by decide), fun z => absurd (show [7, 9, 25].contains 18 = true from z) (by decide), fun z => absurd (show 18 = 25 from z) (by decide)⟩, (show 7 ≤ 18 ∧ 18 ≤ 25 ∧ 18 ≠ 19 by decide), fun z => absurd (show oY 18 = true from z) (by decide), fun z => absurd (show (18 = 7 ∨ 18 = 8) from z) (by decide), fun z => absurd (show 18 = 9 from z) (by decide), fun z => absurd (show oP 18 = true from z) (by decide), fun z => absurd (show 18 = 17 from z) (by decide), fun z => (show r ≤ 999 by omega), fun z => r2, fun z => absurd (show 18 = 20 from z) (by decide), fun z => absurd (show 18 = 25 from z) (by decide)⟩) ⟨fun j hj => ⟨rfl, rfl, rfl, by rw [upd_at, if_neg hj], rfl⟩, fun x hx => by rw [upd_at, if_neg (by omega)]⟩ hM2
theorem ord_20 (hW : WS K Y σ0 τ0) (hL : L < 60) (hM : MD t n σ0 τ0 p I d w y k v o m q f q8 d21 c22 σ τ) (hw : w L = nI 23) (hf : f (23880 + 6 * L) = nI 20) (hG : TailOK t n p σ0 τ0 I d w y k v o m q f q8 d21 c22 K Y L (fun z => z = 20) Q G) : Out σ0 τ0 Q (f_X3_takesItems 40 (nI L) 6 σ) ((f_X12_order 0 (nI 20) (nI (23880 + 6 * L)) τ).bind fun u12 => if u12.1 = 0 then ((ckZ 0).bind fun z => some (z, u12.2)) else G u12) := by
  obtain ⟨e00, e01, e02, e03, e10, e11, e12, e20, e21, e22, e23, e30, e31, e32, e40, e50, e51, e60, e70, e80, e81, e82, e83, e84⟩ := ch_d
  obtain ⟨l0, l1, l2, l3', l4, l5, l6, l7, l8, l9⟩ := ch_l
  obtain ⟨g0, g1, g2, g3, g4, g5, g6, g7, g8, g9⟩ := ch_s
  obtain ⟨F, hF, hF2⟩ : ∃ F, FU = F ∧ 5000 < F := ⟨FU, rfl, by unfold FU; omega⟩
  obtain ⟨F', hF'⟩ : ∃ F', F = F' + 1 + 1 + 1 + 1 + 1 + 1 + 1 := ⟨F - 7, by omega⟩
  unfold f_X3_takesItems
  rw [hF, hF']
  show Out σ0 τ0 Q (k_X3_takesItems_2 _ 40 (nI L) 6 (nI 0) σ) _
  unfold f_X12_order
  rw [if_neg (show ¬ nI 20 = 7 by decide), if_neg (show ¬ nI 20 = 8 by decide), if_neg (show ¬ nI 20 = 9 by decide), if_neg (show ¬ nI 20 = 10 by decide), if_neg (show ¬ nI 20 = 11 by decide), if_neg (show ¬ nI 20 = 12 by decide), if_neg (show ¬ nI 20 = 13 by decide), if_neg (show ¬ nI 20 = 14 by decide), if_neg (show ¬ nI 20 = 15 by decide), if_neg (show ¬ nI 20 = 16 by decide), if_neg (show ¬ nI 20 = 17 by decide), if_neg (show ¬ nI 20 = 18 by decide), if_neg (show ¬ nI 20 = 19 by decide), if_pos (show nI 20 = 20 from rfl), nn1]
  obtain ⟨s1, s1_, hs1⟩ := hM.step
  rw [ts_step (by decide) l6 (by decide) (by decide) s1_ e60, td_110 (a := 1) (b := 99) hL (by rw [hs1.2.2.1.2.2.1]; exact hw) (fun s => Eq.trans rfl rfl) (fun s => Eq.trans rfl rfl)]
  refine Out.bind (Out.ckL (Out.ckR (hs1.num hL (to := 23880 + 6 * L + 1) (a := 1) (b := 99) (by omega) (by omega) (by omega) (by omega)))) (fun _ => rfl) (fun _ => rfl) ?_
  intro σ2 τ2 hq
  obtain ⟨r, r1, r2, hM2⟩ := hq
  exact hG 6 1 _ (by decide) l6 (by decide) g6 _ _ _ _ _ _ _ (rowD 20 0 0 r 0) _ _ (le_tE hM.1.2.1) rfl (by
    refine ⟨⟨hw, fun z => absurd (show oY 20 = true from z) (by decide), fun z => absurd (show oP 20 = true from z) (by decide), fun z => by rw [upd_at, if_pos rfl]; rfl, fun z => absurd (show oQ 20 = true from z) (by decide)⟩, ⟨by rw [upd_at, if_neg (by omega)]; exact hf, fun z => absurd (show oY 20 = true from z) (by decide), fun z => absurd (show [11, 12, 13, 17].contains 20 = true from z) (by decide), fun z => by rw [upd_at, if_pos rfl]; rfl, fun z => absurd (show [7, 8, 9, 10, 24, 25].contains 20 = true from z) (by decide), fun z => absurd (show 20 = 17 from z) (by decide), fun z => absurd (show [7, 9, 25].contains 20 = true from z) (by decide), fun z => absurd (show 20 = 25 from z) (by decide)⟩, (show 7 ≤ 20 ∧ 20 ≤ 25 ∧ 20 ≠ 19 by decide), fun z => absurd (show oY 20 = true from z) (by decide), fun z => absurd (show (20 = 7 ∨ 20 = 8) from z) (by decide), fun z => absurd (show 20 = 9 from z) (by decide), fun z => absurd (show oP 20 = true from z) (by decide), fun z => absurd (show 20 = 17 from z) (by decide), fun z => (show r ≤ 999 by omega), fun z => absurd (show 20 = 18 from z) (by decide), fun z => ⟨r1, r2⟩, fun z => absurd (show 20 = 25 from z) (by decide)⟩) ⟨fun j hj => ⟨rfl, rfl, rfl, by rw [upd_at, if_neg hj], rfl⟩, fun x hx => by rw [upd_at, if_neg (by omega)]⟩ hM2
theorem ord_17 (hW : WS K Y σ0 τ0) (hL : L < 60) (hM : MD t n σ0 τ0 p I d w y k v o m q f q8 d21 c22 σ τ) (hw : w L = nI 17) (hf : f (23880 + 6 * L) = nI 17) (hG : TailOK t n p σ0 τ0 I d w y k v o m q f q8 d21 c22 K Y L (fun z => z = 17) Q G) : Out σ0 τ0 Q (f_X3_takesItems 40 (nI L) 5 σ) ((f_X12_order 0 (nI 17) (nI (23880 + 6 * L)) τ).bind fun u12 => if u12.1 = 0 then ((ckZ 0).bind fun z => some (z, u12.2)) else G u12) := by
  obtain ⟨e00, e01, e02, e03, e10, e11, e12, e20, e21, e22, e23, e30, e31, e32, e40, e50, e51, e60, e70, e80, e81, e82, e83, e84⟩ := ch_d
  obtain ⟨l0, l1, l2, l3', l4, l5, l6, l7, l8, l9⟩ := ch_l
  obtain ⟨g0, g1, g2, g3, g4, g5, g6, g7, g8, g9⟩ := ch_s
  obtain ⟨F, hF, hF2⟩ : ∃ F, FU = F ∧ 5000 < F := ⟨FU, rfl, by unfold FU; omega⟩
  obtain ⟨F', hF'⟩ : ∃ F', F = F' + 1 + 1 + 1 + 1 + 1 + 1 + 1 := ⟨F - 7, by omega⟩
  unfold f_X3_takesItems
  rw [hF, hF']
  show Out σ0 τ0 Q (k_X3_takesItems_2 _ 40 (nI L) 5 (nI 0) σ) _
  unfold f_X12_order
  rw [if_neg (show ¬ nI 17 = 7 by decide), if_neg (show ¬ nI 17 = 8 by decide), if_neg (show ¬ nI 17 = 9 by decide), if_neg (show ¬ nI 17 = 10 by decide), if_neg (show ¬ nI 17 = 11 by decide), if_neg (show ¬ nI 17 = 12 by decide), if_neg (show ¬ nI 17 = 13 by decide), if_neg (show ¬ nI 17 = 14 by decide), if_neg (show ¬ nI 17 = 15 by decide), if_neg (show ¬ nI 17 = 16 by decide), if_pos (show nI 17 = 17 from rfl), nn1, nn2]
  simp only [Option.bind_assoc, bind_if]
  obtain ⟨s1, s1_, hs1⟩ := hM.step
  rw [ts_step (by decide) l5 (by decide) (by decide) s1_ e50, td_112]
  refine Out.bind (Out.ckL (MDC.tp hW hs1 hL (to := 23880 + 6 * L + 1) (by omega) (by omega))) (fun _ => rfl) (fun _ => rfl) ?_
  intro σ2 τ2 hq
  obtain ⟨r, r1, _, hM2⟩ := hq
  dsimp only
  obtain ⟨s3, s3_, hs3⟩ := hM2.step
  rw [ts_step (by decide) l5 (by decide) (by decide) s3_ e51, td_111]
  refine Out.bind (Out.ckL (MDC.to hW hs3 hL (to := 23880 + 6 * L + 2) (by omega) (by omega))) (fun _ => rfl) (fun _ => rfl) ?_
  intro σ4 τ4 hq
  obtain ⟨r', r1', _, hM4⟩ := hq
  show Out σ0 τ0 Q _ (G (nI 1, τ4))
  exact hG 5 2 _ (by decide) l5 (by decide) g5 _ _ _ _ _ _ _ (rowD 17 0 r 0 r') _ _ (Nat.le_trans (le_tE hM.1.2.1) (le_tE hM2.1.2.1)) rfl (by
    refine ⟨⟨hw, fun z => absurd (show oY 17 = true from z) (by decide), fun z => by rw [upd_at, if_pos rfl]; rfl, fun z => absurd (show oV 17 = true from z) (by decide), fun z => by rw [upd_at, if_pos rfl]; rfl⟩, ⟨by rw [upd_at, if_neg (by omega), upd_at, if_neg (by omega)]; exact hf, fun z => absurd (show oY 17 = true from z) (by decide), fun z => by rw [upd_at, if_neg (by omega), upd_at, if_pos rfl]; rfl, fun z => absurd (show [14, 18, 20].contains 17 = true from z) (by decide), fun z => absurd (show [7, 8, 9, 10, 24, 25].contains 17 = true from z) (by decide), fun z => by rw [upd_at, if_pos rfl]; rfl, fun z => absurd (show [7, 9, 25].contains 17 = true from z) (by decide), fun z => absurd (show 17 = 25 from z) (by decide)⟩, (show 7 ≤ 17 ∧ 17 ≤ 25 ∧ 17 ≠ 19 by decide), fun z => absurd (show oY 17 = true from z) (by decide), fun z => absurd (show (17 = 7 ∨ 17 = 8) from z) (by decide), fun z => absurd (show 17 = 9 from z) (by decide), fun z => r1, fun z => r1', fun z => absurd (show oV 17 = true from z) (by decide), fun z => absurd (show 17 = 18 from z) (by decide), fun z => absurd (show 17 = 20 from z) (by decide), fun z => absurd (show 17 = 25 from z) (by decide)⟩) ⟨fun j hj => ⟨rfl, rfl, by rw [upd_at, if_neg hj], rfl, by rw [upd_at, if_neg hj]⟩, fun x hx => by rw [upd_at, if_neg (by omega), upd_at, if_neg (by omega)]⟩ hM4
theorem ord_7 (hW : WS K Y σ0 τ0) (hL : L < 60) (hM : MD t n σ0 τ0 p I d w y k v o m q f q8 d21 c22 σ τ) (hw : w L = nI 7) (hf : f (23880 + 6 * L) = nI 7) (hG : TailOK t n p σ0 τ0 I d w y k v o m q f q8 d21 c22 K Y L (fun z => z = 7) Q G) : Out σ0 τ0 Q (f_X3_takesItems 40 (nI L) 0 σ) ((f_X12_order 0 (nI 7) (nI (23880 + 6 * L)) τ).bind fun u12 => if u12.1 = 0 then ((ckZ 0).bind fun z => some (z, u12.2)) else G u12) := by
  obtain ⟨e00, e01, e02, e03, e10, e11, e12, e20, e21, e22, e23, e30, e31, e32, e40, e50, e51, e60, e70, e80, e81, e82, e83, e84⟩ := ch_d
  obtain ⟨l0, l1, l2, l3', l4, l5, l6, l7, l8, l9⟩ := ch_l
  obtain ⟨g0, g1, g2, g3, g4, g5, g6, g7, g8, g9⟩ := ch_s
  obtain ⟨F, hF, hF2⟩ : ∃ F, FU = F ∧ 5000 < F := ⟨FU, rfl, by unfold FU; omega⟩
  obtain ⟨F', hF'⟩ : ∃ F', F = F' + 1 + 1 + 1 + 1 + 1 + 1 + 1 := ⟨F - 7, by omega⟩
  unfold f_X3_takesItems
  rw [hF, hF']
  show Out σ0 τ0 Q (k_X3_takesItems_2 _ 40 (nI L) 0 (nI 0) σ) _
  unfold f_X12_order
  rw [if_pos (show nI 7 = 7 from rfl)]
  obtain ⟨s1, s1_, hs1⟩ := hM.step
  rcases MDC.tv hW hs1 hL false (r := 23880 + 6 * L) (by omega) (by omega) with ⟨σf, τf, x1, x2, x3⟩ | ⟨x1, x2⟩
  · have x1' := x1
    have x2' : f_X12_keyAt 0 (nI (23880 + 6 * L)) 0 τ = some (nI 0, τf) := x2
    rw [ts_step (by decide) l0 (by decide) (by decide) s1_ e00, td_118]
    refine Or.inr ⟨σf, τf, ?_, ?_, x3⟩
    · refine (congrArg (fun z => Option.bind z _) x1').trans ?_
      rfl
    · rw [x2']; rfl
  have x1' : f_X12_keyAt 0 (nI (23880 + 6 * L)) 0 τ = k_X12_keyAt_51 0 (nI (23880 + 6 * L)) τ := x1
  rw [x1', k51_e]
  simp only [Option.bind_assoc, bind_if]
  rw [ts_step (by decide) l0 (by decide) (by decide) s1_ e00, td_118]
  refine Out.bind x2 (fun _ => rfl) (fun _ => rfl) ?_
  intro σ2 τ2 hq
  obtain ⟨j, j1, jb, hM2⟩ := hq
  dsimp only
  obtain ⟨s3, s3_, hs3⟩ := hM2.step
  rw [ts_step (by decide) l0 (by decide) (by decide) s3_ e01, td_64]
  refine Out.bind (Out.ckL (hs3.word (a := 5) (by decide))) (fun _ => rfl) (fun _ => rfl) ?_
  intro σ4 τ4 hM4
  dsimp only
  obtain ⟨s5, s5_, hs5⟩ := hM4.step
  rw [ts_step (by decide) l0 (by decide) (by decide) s5_ e02, td_112]
  refine Out.bind (Out.ckL (MDC.tp hW hs5 hL (to := 23880 + 6 * L + 2) (by omega) (by omega))) (fun _ => rfl) (fun _ => rfl) ?_
  intro σ6 τ6 hq
  obtain ⟨r, r1, _, hM6⟩ := hq
  dsimp only
  rw [nn3]
  obtain ⟨s7, s7_, hs7⟩ := hM6.step
  rw [ts_step (by decide) l0 (by decide) (by decide) s7_ e03, td_110 (a := 0) (b := 999) hL (by rw [hs7.2.2.1.2.2.1]; exact hw) (fun s => Eq.trans rfl rfl) (fun s => Eq.trans rfl rfl)]
  show Out σ0 τ0 Q _ ((f_X12_number 0 (nI (23880 + 6 * L + 3)) (nI 0) (nI 999) τ6).bind _)
  refine Out.bind (Out.ckL (hs7.num hL (to := 23880 + 6 * L + 3) (a := 0) (b := 999) (by omega) (by omega) (by omega) (by omega))) (fun _ => rfl) (fun _ => rfl) ?_
  intro σ8 τ8 hq
  obtain ⟨v3, v1, v2, hM8⟩ := hq
  show Out σ0 τ0 Q _ (G (nI 1, τ8))
  exact hG 0 4 _ (by decide) l0 (by decide) g0 _ _ _ _ _ _ _ (rowD 7 j r v3 0) _ _ (Nat.le_trans (le_tE hM.1.2.1) (Nat.le_trans (le_tE hM2.1.2.1) (Nat.le_trans (le_tE hM4.1.2.1) (le_tE hM6.1.2.1)))) rfl (by
    refine ⟨⟨hw, fun z => by rw [upd_at, if_pos rfl]; rfl, fun z => by rw [upd_at, if_pos rfl]; rfl, fun z => by rw [upd_at, if_pos rfl]; rfl, fun z => absurd (show oQ 7 = true from z) (by decide)⟩, ⟨by rw [upd_at, if_neg (by omega), upd_at, if_neg (by omega), upd_at, if_neg (by omega)]; exact hf, fun z => by rw [upd_at, if_neg (by omega), upd_at, if_neg (by omega), upd_at, if_pos rfl]; rfl, fun z => absurd (show [11, 12, 13, 17].contains 7 = true from z) (by decide), fun z => absurd (show [14, 18, 20].contains 7 = true from z) (by decide), fun z => by rw [upd_at, if_neg (by omega), upd_at, if_pos rfl]; rfl, fun z => absurd (show 7 = 17 from z) (by decide), fun z => by rw [upd_at, if_pos rfl]; rfl, fun z => absurd (show 7 = 25 from z) (by decide)⟩, (show 7 ≤ 7 ∧ 7 ≤ 25 ∧ 7 ≠ 19 by decide), fun z => j1, fun z => jb, fun z => absurd (show 7 = 9 from z) (by decide), fun z => r1, fun z => absurd (show 7 = 17 from z) (by decide), fun z => (show v3 ≤ 999 by omega), fun z => absurd (show 7 = 18 from z) (by decide), fun z => absurd (show 7 = 20 from z) (by decide), fun z => absurd (show 7 = 25 from z) (by decide)⟩) ⟨fun j hj => ⟨rfl, by rw [upd_at, if_neg hj], by rw [upd_at, if_neg hj], by rw [upd_at, if_neg hj], rfl⟩, fun x hx => by rw [upd_at, if_neg (by omega), upd_at, if_neg (by omega), upd_at, if_neg (by omega)]⟩ hM8
theorem ord_9 (hW : WS K Y σ0 τ0) (hL : L < 60) (hM : MD t n σ0 τ0 p I d w y k v o m q f q8 d21 c22 σ τ) (hw : w L = nI 9) (hf : f (23880 + 6 * L) = nI 9) (hG : TailOK t n p σ0 τ0 I d w y k v o m q f q8 d21 c22 K Y L (fun z => z = 9) Q G) : Out σ0 τ0 Q (f_X3_takesItems 40 (nI L) 2 σ) ((f_X12_order 0 (nI 9) (nI (23880 + 6 * L)) τ).bind fun u12 => if u12.1 = 0 then ((ckZ 0).bind fun z => some (z, u12.2)) else G u12) := by
  obtain ⟨e00, e01, e02, e03, e10, e11, e12, e20, e21, e22, e23, e30, e31, e32, e40, e50, e51, e60, e70, e80, e81, e82, e83, e84⟩ := ch_d
  obtain ⟨l0, l1, l2, l3', l4, l5, l6, l7, l8, l9⟩ := ch_l
  obtain ⟨g0, g1, g2, g3, g4, g5, g6, g7, g8, g9⟩ := ch_s
  obtain ⟨F, hF, hF2⟩ : ∃ F, FU = F ∧ 5000 < F := ⟨FU, rfl, by unfold FU; omega⟩
  obtain ⟨F', hF'⟩ : ∃ F', F = F' + 1 + 1 + 1 + 1 + 1 + 1 + 1 := ⟨F - 7, by omega⟩
  unfold f_X3_takesItems
  rw [hF, hF']
  show Out σ0 τ0 Q (k_X3_takesItems_2 _ 40 (nI L) 2 (nI 0) σ) _
  unfold f_X12_order
  rw [if_neg (show ¬ nI 9 = 7 by decide), if_neg (show ¬ nI 9 = 8 by decide), if_pos (show nI 9 = 9 from rfl)]
  obtain ⟨s1, s1_, hs1⟩ := hM.step
  rcases MDC.tv hW hs1 hL true (r := 23880 + 6 * L) (by omega) (by omega) with ⟨σf, τf, x1, x2, x3⟩ | ⟨x1, x2⟩
  · have x1' := x1
    have x2' : f_X12_keyAt 0 (nI (23880 + 6 * L)) 1 τ = some (nI 0, τf) := x2
    rw [ts_step (by decide) l2 (by decide) (by decide) s1_ e20, td_115]
    refine Or.inr ⟨σf, τf, ?_, ?_, x3⟩
    · refine (congrArg (fun z => Option.bind z _) x1').trans ?_
      rfl
    · rw [x2']; rfl
  have x1' : f_X12_keyAt 0 (nI (23880 + 6 * L)) 1 τ = k_X12_keyAt_51 0 (nI (23880 + 6 * L)) τ := x1
  rw [x1', k51_e]
  simp only [Option.bind_assoc, bind_if]
  rw [ts_step (by decide) l2 (by decide) (by decide) s1_ e20, td_115]
  refine Out.bind x2 (fun _ => rfl) (fun _ => rfl) ?_
  intro σ2 τ2 hq
  obtain ⟨j, j1, jb, hM2⟩ := hq
  dsimp only
  obtain ⟨s3, s3_, hs3⟩ := hM2.step
  rw [ts_step (by decide) l2 (by decide) (by decide) s3_ e21, td_64]
  refine Out.bind (Out.ckL (hs3.word (a := 5) (by decide))) (fun _ => rfl) (fun _ => rfl) ?_
  intro σ4 τ4 hM4
  dsimp only
  obtain ⟨s5, s5_, hs5⟩ := hM4.step
  rw [ts_step (by decide) l2 (by decide) (by decide) s5_ e22, td_112]
  refine Out.bind (Out.ckL (MDC.tp hW hs5 hL (to := 23880 + 6 * L + 2) (by omega) (by omega))) (fun _ => rfl) (fun _ => rfl) ?_
  intro σ6 τ6 hq
  obtain ⟨r, r1, _, hM6⟩ := hq
  dsimp only
  rw [nn3]
  obtain ⟨s7, s7_, hs7⟩ := hM6.step
  rw [ts_step (by decide) l2 (by decide) (by decide) s7_ e23, td_110 (a := 1) (b := 999) hL (by rw [hs7.2.2.1.2.2.1]; exact hw) (fun s => Eq.trans rfl rfl) (fun s => Eq.trans rfl rfl)]
  show Out σ0 τ0 Q _ ((f_X12_number 0 (nI (23880 + 6 * L + 3)) (nI 1) (nI 999) τ6).bind _)
  refine Out.bind (Out.ckL (hs7.num hL (to := 23880 + 6 * L + 3) (a := 1) (b := 999) (by omega) (by omega) (by omega) (by omega))) (fun _ => rfl) (fun _ => rfl) ?_
  intro σ8 τ8 hq
  obtain ⟨v3, v1, v2, hM8⟩ := hq
  show Out σ0 τ0 Q _ (G (nI 1, τ8))
  exact hG 2 4 _ (by decide) l2 (by decide) g2 _ _ _ _ _ _ _ (rowD 9 j r v3 0) _ _ (Nat.le_trans (le_tE hM.1.2.1) (Nat.le_trans (le_tE hM2.1.2.1) (Nat.le_trans (le_tE hM4.1.2.1) (le_tE hM6.1.2.1)))) rfl (by
    refine ⟨⟨hw, fun z => by rw [upd_at, if_pos rfl]; rfl, fun z => by rw [upd_at, if_pos rfl]; rfl, fun z => by rw [upd_at, if_pos rfl]; rfl, fun z => absurd (show oQ 9 = true from z) (by decide)⟩, ⟨by rw [upd_at, if_neg (by omega), upd_at, if_neg (by omega), upd_at, if_neg (by omega)]; exact hf, fun z => by rw [upd_at, if_neg (by omega), upd_at, if_neg (by omega), upd_at, if_pos rfl]; rfl, fun z => absurd (show [11, 12, 13, 17].contains 9 = true from z) (by decide), fun z => absurd (show [14, 18, 20].contains 9 = true from z) (by decide), fun z => by rw [upd_at, if_neg (by omega), upd_at, if_pos rfl]; rfl, fun z => absurd (show 9 = 17 from z) (by decide), fun z => by rw [upd_at, if_pos rfl]; rfl, fun z => absurd (show 9 = 25 from z) (by decide)⟩, (show 7 ≤ 9 ∧ 9 ≤ 25 ∧ 9 ≠ 19 by decide), fun z => j1, fun z => absurd (show (9 = 7 ∨ 9 = 8) from z) (by decide), fun z => ⟨jb, v1⟩, fun z => r1, fun z => absurd (show 9 = 17 from z) (by decide), fun z => (show v3 ≤ 999 by omega), fun z => absurd (show 9 = 18 from z) (by decide), fun z => absurd (show 9 = 20 from z) (by decide), fun z => absurd (show 9 = 25 from z) (by decide)⟩) ⟨fun j hj => ⟨rfl, by rw [upd_at, if_neg hj], by rw [upd_at, if_neg hj], by rw [upd_at, if_neg hj], rfl⟩, fun x hx => by rw [upd_at, if_neg (by omega), upd_at, if_neg (by omega), upd_at, if_neg (by omega)]⟩ hM8
theorem ord_8 (hW : WS K Y σ0 τ0) (hL : L < 60) (hM : MD t n σ0 τ0 p I d w y k v o m q f q8 d21 c22 σ τ) (hw : w L = nI 8) (hf : f (23880 + 6 * L) = nI 8) (hG : TailOK t n p σ0 τ0 I d w y k v o m q f q8 d21 c22 K Y L (fun z => z = 8) Q G) : Out σ0 τ0 Q (f_X3_takesItems 40 (nI L) 1 σ) ((f_X12_order 0 (nI 8) (nI (23880 + 6 * L)) τ).bind fun u12 => if u12.1 = 0 then ((ckZ 0).bind fun z => some (z, u12.2)) else G u12) := by
  obtain ⟨e00, e01, e02, e03, e10, e11, e12, e20, e21, e22, e23, e30, e31, e32, e40, e50, e51, e60, e70, e80, e81, e82, e83, e84⟩ := ch_d
  obtain ⟨l0, l1, l2, l3', l4, l5, l6, l7, l8, l9⟩ := ch_l
  obtain ⟨g0, g1, g2, g3, g4, g5, g6, g7, g8, g9⟩ := ch_s
  obtain ⟨F, hF, hF2⟩ : ∃ F, FU = F ∧ 5000 < F := ⟨FU, rfl, by unfold FU; omega⟩
  obtain ⟨F', hF'⟩ : ∃ F', F = F' + 1 + 1 + 1 + 1 + 1 + 1 + 1 := ⟨F - 7, by omega⟩
  unfold f_X3_takesItems
  rw [hF, hF']
  show Out σ0 τ0 Q (k_X3_takesItems_2 _ 40 (nI L) 1 (nI 0) σ) _
  unfold f_X12_order
  rw [if_neg (show ¬ nI 8 = 7 by decide), if_pos (show nI 8 = 8 from rfl)]
  obtain ⟨s1, s1_, hs1⟩ := hM.step
  rcases MDC.tv hW hs1 hL false (r := 23880 + 6 * L) (by omega) (by omega) with ⟨σf, τf, x1, x2, x3⟩ | ⟨x1, x2⟩
  · have x1' := x1
    have x2' : f_X12_keyAt 0 (nI (23880 + 6 * L)) 0 τ = some (nI 0, τf) := x2
    rw [ts_step (by decide) l1 (by decide) (by decide) s1_ e10, td_118]
    refine Or.inr ⟨σf, τf, ?_, ?_, x3⟩
    · refine (congrArg (fun z => Option.bind z _) x1').trans ?_
      rfl
    · rw [x2']; rfl
  have x1' : f_X12_keyAt 0 (nI (23880 + 6 * L)) 0 τ = k_X12_keyAt_51 0 (nI (23880 + 6 * L)) τ := x1
  rw [x1', k51_e]
  simp only [Option.bind_assoc, bind_if]
  rw [ts_step (by decide) l1 (by decide) (by decide) s1_ e10, td_118]
  refine Out.bind x2 (fun _ => rfl) (fun _ => rfl) ?_
  intro σ2 τ2 hq
  obtain ⟨j, j1, jb, hM2⟩ := hq
  dsimp only
  obtain ⟨s3, s3_, hs3⟩ := hM2.step
  rw [ts_step (by decide) l1 (by decide) (by decide) s3_ e11, td_64]
  refine Out.bind (Out.ckL (hs3.word (a := 5) (by decide))) (fun _ => rfl) (fun _ => rfl) ?_
  intro σ4 τ4 hM4
  dsimp only
  obtain ⟨s5, s5_, hs5⟩ := hM4.step
  rw [ts_step (by decide) l1 (by decide) (by decide) s5_ e12, td_112]
  refine Out.bind (Out.ckL (MDC.tp hW hs5 hL (to := 23880 + 6 * L + 2) (by omega) (by omega))) (fun _ => rfl) (fun _ => rfl) ?_
  intro σ6 τ6 hq
  obtain ⟨r, r1, _, hM6⟩ := hq
  show Out σ0 τ0 Q _ (G (nI 1, τ6))
  exact hG 1 3 _ (by decide) l1 (by decide) g1 _ _ _ _ _ _ _ (rowD 8 j r 0 0) _ _ (Nat.le_trans (le_tE hM.1.2.1) (Nat.le_trans (le_tE hM2.1.2.1) (le_tE hM4.1.2.1))) rfl (by
    refine ⟨⟨hw, fun z => by rw [upd_at, if_pos rfl]; rfl, fun z => by rw [upd_at, if_pos rfl]; rfl, fun z => absurd (show oV 8 = true from z) (by decide), fun z => absurd (show oQ 8 = true from z) (by decide)⟩, ⟨by rw [upd_at, if_neg (by omega), upd_at, if_neg (by omega)]; exact hf, fun z => by rw [upd_at, if_neg (by omega), upd_at, if_pos rfl]; rfl, fun z => absurd (show [11, 12, 13, 17].contains 8 = true from z) (by decide), fun z => absurd (show [14, 18, 20].contains 8 = true from z) (by decide), fun z => by rw [upd_at, if_pos rfl]; rfl, fun z => absurd (show 8 = 17 from z) (by decide), fun z => absurd (show [7, 9, 25].contains 8 = true from z) (by decide), fun z => absurd (show 8 = 25 from z) (by decide)⟩, (show 7 ≤ 8 ∧ 8 ≤ 25 ∧ 8 ≠ 19 by decide), fun z => j1, fun z => jb, fun z => absurd (show 8 = 9 from z) (by decide), fun z => r1, fun z => absurd (show 8 = 17 from z) (by decide), fun z => absurd (show oV 8 = true from z) (by decide), fun z => absurd (show 8 = 18 from z) (by decide), fun z => absurd (show 8 = 20 from z) (by decide), fun z => absurd (show 8 = 25 from z) (by decide)⟩) ⟨fun j hj => ⟨rfl, by rw [upd_at, if_neg hj], by rw [upd_at, if_neg hj], rfl, rfl⟩, fun x hx => by rw [upd_at, if_neg (by omega), upd_at, if_neg (by omega)]⟩ hM6
theorem ord_10 (hW : WS K Y σ0 τ0) (hL : L < 60) (hM : MD t n σ0 τ0 p I d w y k v o m q f q8 d21 c22 σ τ) (hw : w L = nI 10) (hf : f (23880 + 6 * L) = nI 10) (hG : TailOK t n p σ0 τ0 I d w y k v o m q f q8 d21 c22 K Y L (fun z => z = 10) Q G) : Out σ0 τ0 Q (f_X3_takesItems 40 (nI L) 3 σ) ((f_X12_order 0 (nI 10) (nI (23880 + 6 * L)) τ).bind fun u12 => if u12.1 = 0 then ((ckZ 0).bind fun z => some (z, u12.2)) else G u12) := by
  obtain ⟨e00, e01, e02, e03, e10, e11, e12, e20, e21, e22, e23, e30, e31, e32, e40, e50, e51, e60, e70, e80, e81, e82, e83, e84⟩ := ch_d
  obtain ⟨l0, l1, l2, l3', l4, l5, l6, l7, l8, l9⟩ := ch_l
  obtain ⟨g0, g1, g2, g3, g4, g5, g6, g7, g8, g9⟩ := ch_s
  obtain ⟨F, hF, hF2⟩ : ∃ F, FU = F ∧ 5000 < F := ⟨FU, rfl, by unfold FU; omega⟩
  obtain ⟨F', hF'⟩ : ∃ F', F = F' + 1 + 1 + 1 + 1 + 1 + 1 + 1 := ⟨F - 7, by omega⟩
  unfold f_X3_takesItems
  rw [hF, hF']
  show Out σ0 τ0 Q (k_X3_takesItems_2 _ 40 (nI L) 3 (nI 0) σ) _
  unfold f_X12_order
  rw [if_neg (show ¬ nI 10 = 7 by decide), if_neg (show ¬ nI 10 = 8 by decide), if_neg (show ¬ nI 10 = 9 by decide), if_pos (show nI 10 = 10 from rfl)]
  rw [ka_m hM.1.2.2.2.1 hM.1.2.1 hM.1.2.2.2.2.1, k51_e]
  simp only [Option.bind_assoc, bind_if]
  obtain ⟨s1, s1_, hs1⟩ := hM.step
  rw [ts_step (by decide) l3' (by decide) (by decide) s1_ e30, td_107]
  refine Out.bind (Out.ckL (MDC.tk hW hs1 hL (to := 23880 + 6 * L + 1) (by omega) (by omega))) (fun _ => rfl) (fun _ => rfl) ?_
  intro σ2 τ2 hq
  obtain ⟨j, j1, _, hM2⟩ := hq
  dsimp only
  obtain ⟨s3, s3_, hs3⟩ := hM2.step
  rw [ts_step (by decide) l3' (by decide) (by decide) s3_ e31, td_64]
  refine Out.bind (Out.ckL (hs3.word (a := 5) (by decide))) (fun _ => rfl) (fun _ => rfl) ?_
  intro σ4 τ4 hM4
  dsimp only
  obtain ⟨s5, s5_, hs5⟩ := hM4.step
  rw [ts_step (by decide) l3' (by decide) (by decide) s5_ e32, td_112]
  refine Out.bind (Out.ckL (MDC.tp hW hs5 hL (to := 23880 + 6 * L + 2) (by omega) (by omega))) (fun _ => rfl) (fun _ => rfl) ?_
  intro σ6 τ6 hq
  obtain ⟨r, r1, _, hM6⟩ := hq
  show Out σ0 τ0 Q _ (G (nI 1, τ6))
  exact hG 3 3 _ (by decide) l3' (by decide) g3 _ _ _ _ _ _ _ (rowD 10 j r 0 0) _ _ (Nat.le_trans (le_tE hM.1.2.1) (Nat.le_trans (le_tE hM2.1.2.1) (le_tE hM4.1.2.1))) rfl (by
    refine ⟨⟨hw, fun z => by rw [upd_at, if_pos rfl]; rfl, fun z => by rw [upd_at, if_pos rfl]; rfl, fun z => absurd (show oV 10 = true from z) (by decide), fun z => absurd (show oQ 10 = true from z) (by decide)⟩, ⟨by rw [upd_at, if_neg (by omega), upd_at, if_neg (by omega)]; exact hf, fun z => by rw [upd_at, if_neg (by omega), upd_at, if_pos rfl]; rfl, fun z => absurd (show [11, 12, 13, 17].contains 10 = true from z) (by decide), fun z => absurd (show [14, 18, 20].contains 10 = true from z) (by decide), fun z => by rw [upd_at, if_pos rfl]; rfl, fun z => absurd (show 10 = 17 from z) (by decide), fun z => absurd (show [7, 9, 25].contains 10 = true from z) (by decide), fun z => absurd (show 10 = 25 from z) (by decide)⟩, (show 7 ≤ 10 ∧ 10 ≤ 25 ∧ 10 ≠ 19 by decide), fun z => j1, fun z => absurd (show (10 = 7 ∨ 10 = 8) from z) (by decide), fun z => absurd (show 10 = 9 from z) (by decide), fun z => r1, fun z => absurd (show 10 = 17 from z) (by decide), fun z => absurd (show oV 10 = true from z) (by decide), fun z => absurd (show 10 = 18 from z) (by decide), fun z => absurd (show 10 = 20 from z) (by decide), fun z => absurd (show 10 = 25 from z) (by decide)⟩) ⟨fun j hj => ⟨rfl, by rw [upd_at, if_neg hj], by rw [upd_at, if_neg hj], rfl, rfl⟩, fun x hx => by rw [upd_at, if_neg (by omega), upd_at, if_neg (by omega)]⟩ hM6
end
