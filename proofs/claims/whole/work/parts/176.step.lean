/-! one step of days -/
section
variable {t : Nat → Nat} {n p : Nat} {σ0 τ0 σ τ : ST} {I w y k v o m q f q8 : Nat → Int32} {d d21 c22 : Int32} {K Y L C dd : Nat} {D : Nat → Nat → Nat} {op : Nat → Nat} {Q : ST → ST → Prop} {G : Int32 × ST → Option (Int32 × ST)}
theorem e64_g {c lit : Nat} (hL : L < 60) (hM : MD t n σ0 τ0 p I d w y k v o m q f q8 d21 c22 σ τ) (hw : w L = nI c) (h14 : ¬ nI c = 14) (h19 : ¬ nI c = 19) (hi : f_X3_itemsOf (nI c) σ = some (lit, σ)) (hl : lit < 15) : k_X3_takesStep_64 40 (nI c) (nI L) σ = (f_X3_takesItems 40 (nI L) lit σ).bind fun u3 => (ckZ u3.1).bind fun z => some (z, u3.2) := by
  unfold k_X3_takesStep_64 k_X3_takesStep_127
  rw [if_neg h14, if_neg h19, show LC.2.1 40 0 = 41 from rfl, show LC.2.1 41 0 = 42 from rfl, la 60 rfl hL (by decide), bsm, hM.2.2.1.2.2.1, hw, hi, bsm]
  simp only []
  rw [if_pos hl]
theorem oa_7 (hW : WS K Y σ0 τ0) (hL : L < 60) (hM : MD t n σ0 τ0 p I d w y k v o m q f q8 d21 c22 σ τ) (hw : w L = nI (cW 7)) (hf : f (23880 + 6 * L) = nI 7) (hn : n ≤ 900) (hG : TailS t n p σ0 τ0 I d w y k v o m q f q8 d21 c22 K Y L (fun z => oO z = opW 7 ∧ z ≠ 21) Q G) : Out σ0 τ0 Q (k_X3_takesStep_64 40 (nI (cW 7)) (nI L) σ) ((f_X12_order 0 (nI 7) (nI (23880 + 6 * L)) τ).bind fun u12 => if u12.1 = 0 then ((ckZ 0).bind fun z => some (z, u12.2)) else G u12) := by
  show Out σ0 τ0 Q (k_X3_takesStep_64 40 (nI 7) (nI L) σ) _
  rw [e64_g (c := 7) (lit := 0) hL hM hw (by decide) (by decide) (Eq.trans rfl rfl) (by decide)]
  exact Out.ckL (ord_7 hW hL hM hw hf (hG.mono (Nat.le_refl _) (fun z hz => by
    have hz : z = 7 := hz
    subst hz; exact ⟨rfl, by decide⟩) (fun _ _ => rfl) (fun _ _ => rfl)).ok)
theorem oa_8 (hW : WS K Y σ0 τ0) (hL : L < 60) (hM : MD t n σ0 τ0 p I d w y k v o m q f q8 d21 c22 σ τ) (hw : w L = nI (cW 8)) (hf : f (23880 + 6 * L) = nI 8) (hn : n ≤ 900) (hG : TailS t n p σ0 τ0 I d w y k v o m q f q8 d21 c22 K Y L (fun z => oO z = opW 8 ∧ z ≠ 21) Q G) : Out σ0 τ0 Q (k_X3_takesStep_64 40 (nI (cW 8)) (nI L) σ) ((f_X12_order 0 (nI 8) (nI (23880 + 6 * L)) τ).bind fun u12 => if u12.1 = 0 then ((ckZ 0).bind fun z => some (z, u12.2)) else G u12) := by
  show Out σ0 τ0 Q (k_X3_takesStep_64 40 (nI 8) (nI L) σ) _
  rw [e64_g (c := 8) (lit := 1) hL hM hw (by decide) (by decide) (Eq.trans rfl rfl) (by decide)]
  exact Out.ckL (ord_8 hW hL hM hw hf (hG.mono (Nat.le_refl _) (fun z hz => by
    have hz : z = 8 := hz
    subst hz; exact ⟨rfl, by decide⟩) (fun _ _ => rfl) (fun _ _ => rfl)).ok)
theorem oa_9 (hW : WS K Y σ0 τ0) (hL : L < 60) (hM : MD t n σ0 τ0 p I d w y k v o m q f q8 d21 c22 σ τ) (hw : w L = nI (cW 9)) (hf : f (23880 + 6 * L) = nI 9) (hn : n ≤ 900) (hG : TailS t n p σ0 τ0 I d w y k v o m q f q8 d21 c22 K Y L (fun z => oO z = opW 9 ∧ z ≠ 21) Q G) : Out σ0 τ0 Q (k_X3_takesStep_64 40 (nI (cW 9)) (nI L) σ) ((f_X12_order 0 (nI 9) (nI (23880 + 6 * L)) τ).bind fun u12 => if u12.1 = 0 then ((ckZ 0).bind fun z => some (z, u12.2)) else G u12) := by
  show Out σ0 τ0 Q (k_X3_takesStep_64 40 (nI 9) (nI L) σ) _
  rw [e64_g (c := 9) (lit := 2) hL hM hw (by decide) (by decide) (Eq.trans rfl rfl) (by decide)]
  exact Out.ckL (ord_9 hW hL hM hw hf (hG.mono (Nat.le_refl _) (fun z hz => by
    have hz : z = 9 := hz
    subst hz; exact ⟨rfl, by decide⟩) (fun _ _ => rfl) (fun _ _ => rfl)).ok)
theorem oa_10 (hW : WS K Y σ0 τ0) (hL : L < 60) (hM : MD t n σ0 τ0 p I d w y k v o m q f q8 d21 c22 σ τ) (hw : w L = nI (cW 10)) (hf : f (23880 + 6 * L) = nI 10) (hn : n ≤ 900) (hG : TailS t n p σ0 τ0 I d w y k v o m q f q8 d21 c22 K Y L (fun z => oO z = opW 10 ∧ z ≠ 21) Q G) : Out σ0 τ0 Q (k_X3_takesStep_64 40 (nI (cW 10)) (nI L) σ) ((f_X12_order 0 (nI 10) (nI (23880 + 6 * L)) τ).bind fun u12 => if u12.1 = 0 then ((ckZ 0).bind fun z => some (z, u12.2)) else G u12) := by
  show Out σ0 τ0 Q (k_X3_takesStep_64 40 (nI 10) (nI L) σ) _
  rw [e64_g (c := 10) (lit := 3) hL hM hw (by decide) (by decide) (Eq.trans rfl rfl) (by decide)]
  exact Out.ckL (ord_10 hW hL hM hw hf (hG.mono (Nat.le_refl _) (fun z hz => by
    have hz : z = 10 := hz
    subst hz; exact ⟨rfl, by decide⟩) (fun _ _ => rfl) (fun _ _ => rfl)).ok)
theorem oa_11 (hW : WS K Y σ0 τ0) (hL : L < 60) (hM : MD t n σ0 τ0 p I d w y k v o m q f q8 d21 c22 σ τ) (hw : w L = nI (cW 11)) (hf : f (23880 + 6 * L) = nI 11) (hn : n ≤ 900) (hG : TailS t n p σ0 τ0 I d w y k v o m q f q8 d21 c22 K Y L (fun z => oO z = opW 11 ∧ z ≠ 21) Q G) : Out σ0 τ0 Q (k_X3_takesStep_64 40 (nI (cW 11)) (nI L) σ) ((f_X12_order 0 (nI 11) (nI (23880 + 6 * L)) τ).bind fun u12 => if u12.1 = 0 then ((ckZ 0).bind fun z => some (z, u12.2)) else G u12) := by
  show Out σ0 τ0 Q (k_X3_takesStep_64 40 (nI 11) (nI L) σ) _
  rw [e64_g (c := 11) (lit := 4) hL hM hw (by decide) (by decide) (Eq.trans rfl rfl) (by decide)]
  exact Out.ckL (ord_11 hW hL hM hw hf (hG.mono (Nat.le_refl _) (fun z hz => by
    have hz : z = 11 := hz
    subst hz; exact ⟨rfl, by decide⟩) (fun _ _ => rfl) (fun _ _ => rfl)).ok)
theorem oa_12 (hW : WS K Y σ0 τ0) (hL : L < 60) (hM : MD t n σ0 τ0 p I d w y k v o m q f q8 d21 c22 σ τ) (hw : w L = nI (cW 12)) (hf : f (23880 + 6 * L) = nI 12) (hn : n ≤ 900) (hG : TailS t n p σ0 τ0 I d w y k v o m q f q8 d21 c22 K Y L (fun z => oO z = opW 12 ∧ z ≠ 21) Q G) : Out σ0 τ0 Q (k_X3_takesStep_64 40 (nI (cW 12)) (nI L) σ) ((f_X12_order 0 (nI 12) (nI (23880 + 6 * L)) τ).bind fun u12 => if u12.1 = 0 then ((ckZ 0).bind fun z => some (z, u12.2)) else G u12) := by
  show Out σ0 τ0 Q (k_X3_takesStep_64 40 (nI 12) (nI L) σ) _
  rw [e64_g (c := 12) (lit := 4) hL hM hw (by decide) (by decide) (Eq.trans rfl rfl) (by decide)]
  exact Out.ckL (ord_12 hW hL hM hw hf (hG.mono (Nat.le_refl _) (fun z hz => by
    have hz : z = 12 := hz
    subst hz; exact ⟨rfl, by decide⟩) (fun _ _ => rfl) (fun _ _ => rfl)).ok)
theorem oa_13 (hW : WS K Y σ0 τ0) (hL : L < 60) (hM : MD t n σ0 τ0 p I d w y k v o m q f q8 d21 c22 σ τ) (hw : w L = nI (cW 13)) (hf : f (23880 + 6 * L) = nI 13) (hn : n ≤ 900) (hG : TailS t n p σ0 τ0 I d w y k v o m q f q8 d21 c22 K Y L (fun z => oO z = opW 13 ∧ z ≠ 21) Q G) : Out σ0 τ0 Q (k_X3_takesStep_64 40 (nI (cW 13)) (nI L) σ) ((f_X12_order 0 (nI 13) (nI (23880 + 6 * L)) τ).bind fun u12 => if u12.1 = 0 then ((ckZ 0).bind fun z => some (z, u12.2)) else G u12) := by
  show Out σ0 τ0 Q (k_X3_takesStep_64 40 (nI 13) (nI L) σ) _
  rw [e64_g (c := 13) (lit := 4) hL hM hw (by decide) (by decide) (Eq.trans rfl rfl) (by decide)]
  exact Out.ckL (ord_13 hW hL hM hw hf (hG.mono (Nat.le_refl _) (fun z hz => by
    have hz : z = 13 := hz
    subst hz; exact ⟨rfl, by decide⟩) (fun _ _ => rfl) (fun _ _ => rfl)).ok)
theorem oa_14 (hW : WS K Y σ0 τ0) (hL : L < 60) (hM : MD t n σ0 τ0 p I d w y k v o m q f q8 d21 c22 σ τ) (hw : w L = nI (cW 14)) (hf : f (23880 + 6 * L) = nI 14) (hn : n ≤ 900) (hG : TailS t n p σ0 τ0 I d w y k v o m q f q8 d21 c22 K Y L (fun z => oO z = opW 14 ∧ z ≠ 21) Q G) : Out σ0 τ0 Q (k_X3_takesStep_64 40 (nI (cW 14)) (nI L) σ) ((f_X12_order 0 (nI 14) (nI (23880 + 6 * L)) τ).bind fun u12 => if u12.1 = 0 then ((ckZ 0).bind fun z => some (z, u12.2)) else G u12) := by
  show Out σ0 τ0 Q (k_X3_takesStep_64 40 (nI 14) (nI L) σ) _
  unfold k_X3_takesStep_64
  rw [if_pos (show nI 14 = 14 from rfl)]
  exact Out.ckL (ord_14 hW hL hM hw hf hn (hG.mono (Nat.le_refl _) (fun z hz => by
    have hz : z = 14 := hz
    subst hz; exact ⟨rfl, by decide⟩) (fun _ _ => rfl) (fun _ _ => rfl)))
theorem oa_15 (hW : WS K Y σ0 τ0) (hL : L < 60) (hM : MD t n σ0 τ0 p I d w y k v o m q f q8 d21 c22 σ τ) (hw : w L = nI (cW 15)) (hf : f (23880 + 6 * L) = nI 15) (hn : n ≤ 900) (hG : TailS t n p σ0 τ0 I d w y k v o m q f q8 d21 c22 K Y L (fun z => oO z = opW 15 ∧ z ≠ 21) Q G) : Out σ0 τ0 Q (k_X3_takesStep_64 40 (nI (cW 15)) (nI L) σ) ((f_X12_order 0 (nI 15) (nI (23880 + 6 * L)) τ).bind fun u12 => if u12.1 = 0 then ((ckZ 0).bind fun z => some (z, u12.2)) else G u12) := by
  show Out σ0 τ0 Q (k_X3_takesStep_64 40 (nI 15) (nI L) σ) _
  rw [e64_g (c := 15) (lit := 9) hL hM hw (by decide) (by decide) (Eq.trans rfl rfl) (by decide)]
  exact Out.ckL (ord_15 hW hL hM hw hf (hG.mono (Nat.le_refl _) (fun z hz => by
    have hz : z = 15 := hz
    subst hz; exact ⟨rfl, by decide⟩) (fun _ _ => rfl) (fun _ _ => rfl)).ok)
theorem oa_16 (hW : WS K Y σ0 τ0) (hL : L < 60) (hM : MD t n σ0 τ0 p I d w y k v o m q f q8 d21 c22 σ τ) (hw : w L = nI (cW 16)) (hf : f (23880 + 6 * L) = nI 16) (hn : n ≤ 900) (hG : TailS t n p σ0 τ0 I d w y k v o m q f q8 d21 c22 K Y L (fun z => oO z = opW 16 ∧ z ≠ 21) Q G) : Out σ0 τ0 Q (k_X3_takesStep_64 40 (nI (cW 16)) (nI L) σ) ((f_X12_order 0 (nI 16) (nI (23880 + 6 * L)) τ).bind fun u12 => if u12.1 = 0 then ((ckZ 0).bind fun z => some (z, u12.2)) else G u12) := by
  show Out σ0 τ0 Q (k_X3_takesStep_64 40 (nI 16) (nI L) σ) _
  rw [e64_g (c := 16) (lit := 9) hL hM hw (by decide) (by decide) (Eq.trans rfl rfl) (by decide)]
  exact Out.ckL (ord_16 hW hL hM hw hf (hG.mono (Nat.le_refl _) (fun z hz => by
    have hz : z = 16 := hz
    subst hz; exact ⟨rfl, by decide⟩) (fun _ _ => rfl) (fun _ _ => rfl)).ok)
theorem oa_17 (hW : WS K Y σ0 τ0) (hL : L < 60) (hM : MD t n σ0 τ0 p I d w y k v o m q f q8 d21 c22 σ τ) (hw : w L = nI (cW 17)) (hf : f (23880 + 6 * L) = nI 17) (hn : n ≤ 900) (hG : TailS t n p σ0 τ0 I d w y k v o m q f q8 d21 c22 K Y L (fun z => oO z = opW 17 ∧ z ≠ 21) Q G) : Out σ0 τ0 Q (k_X3_takesStep_64 40 (nI (cW 17)) (nI L) σ) ((f_X12_order 0 (nI 17) (nI (23880 + 6 * L)) τ).bind fun u12 => if u12.1 = 0 then ((ckZ 0).bind fun z => some (z, u12.2)) else G u12) := by
  show Out σ0 τ0 Q (k_X3_takesStep_64 40 (nI 17) (nI L) σ) _
  rw [e64_g (c := 17) (lit := 5) hL hM hw (by decide) (by decide) (Eq.trans rfl rfl) (by decide)]
  exact Out.ckL (ord_17 hW hL hM hw hf (hG.mono (Nat.le_refl _) (fun z hz => by
    have hz : z = 17 := hz
    subst hz; exact ⟨rfl, by decide⟩) (fun _ _ => rfl) (fun _ _ => rfl)).ok)
theorem oa_18 (hW : WS K Y σ0 τ0) (hL : L < 60) (hM : MD t n σ0 τ0 p I d w y k v o m q f q8 d21 c22 σ τ) (hw : w L = nI (cW 18)) (hf : f (23880 + 6 * L) = nI 18) (hn : n ≤ 900) (hG : TailS t n p σ0 τ0 I d w y k v o m q f q8 d21 c22 K Y L (fun z => oO z = opW 18 ∧ z ≠ 21) Q G) : Out σ0 τ0 Q (k_X3_takesStep_64 40 (nI (cW 18)) (nI L) σ) ((f_X12_order 0 (nI 18) (nI (23880 + 6 * L)) τ).bind fun u12 => if u12.1 = 0 then ((ckZ 0).bind fun z => some (z, u12.2)) else G u12) := by
  show Out σ0 τ0 Q (k_X3_takesStep_64 40 (nI 18) (nI L) σ) _
  rw [e64_g (c := 18) (lit := 6) hL hM hw (by decide) (by decide) (Eq.trans rfl rfl) (by decide)]
  exact Out.ckL (ord_18 hW hL hM hw hf (hG.mono (Nat.le_refl _) (fun z hz => by
    have hz : z = 18 := hz
    subst hz; exact ⟨rfl, by decide⟩) (fun _ _ => rfl) (fun _ _ => rfl)).ok)
theorem oa_19 (hW : WS K Y σ0 τ0) (hL : L < 60) (hM : MD t n σ0 τ0 p I d w y k v o m q f q8 d21 c22 σ τ) (hw : w L = nI (cW 19)) (hf : f (23880 + 6 * L) = nI 19) (hn : n ≤ 900) (hG : TailS t n p σ0 τ0 I d w y k v o m q f q8 d21 c22 K Y L (fun z => oO z = opW 19 ∧ z ≠ 21) Q G) : Out σ0 τ0 Q (k_X3_takesStep_64 40 (nI (cW 19)) (nI L) σ) ((f_X12_order 0 (nI 19) (nI (23880 + 6 * L)) τ).bind fun u12 => if u12.1 = 0 then ((ckZ 0).bind fun z => some (z, u12.2)) else G u12) := by
  show Out σ0 τ0 Q (k_X3_takesStep_64 40 (nI 19) (nI L) σ) _
  unfold k_X3_takesStep_64
  rw [if_neg (show ¬ nI 19 = 14 by decide), if_pos (show nI 19 = 19 from rfl)]
  exact ord_19 hW hL hM (hG.mono (Nat.le_refl _) (fun z hz => by
    have hz : z = 23 ∨ z = 24 ∨ z = 25 := hz
    rcases hz with hz | hz | hz <;> (subst hz; exact ⟨rfl, by decide⟩)) (fun _ _ => rfl) (fun _ _ => rfl))
theorem oa_20 (hW : WS K Y σ0 τ0) (hL : L < 60) (hM : MD t n σ0 τ0 p I d w y k v o m q f q8 d21 c22 σ τ) (hw : w L = nI (cW 20)) (hf : f (23880 + 6 * L) = nI 20) (hn : n ≤ 900) (hG : TailS t n p σ0 τ0 I d w y k v o m q f q8 d21 c22 K Y L (fun z => oO z = opW 20 ∧ z ≠ 21) Q G) : Out σ0 τ0 Q (k_X3_takesStep_64 40 (nI (cW 20)) (nI L) σ) ((f_X12_order 0 (nI 20) (nI (23880 + 6 * L)) τ).bind fun u12 => if u12.1 = 0 then ((ckZ 0).bind fun z => some (z, u12.2)) else G u12) := by
  show Out σ0 τ0 Q (k_X3_takesStep_64 40 (nI 23) (nI L) σ) _
  rw [e64_g (c := 23) (lit := 6) hL hM hw (by decide) (by decide) (Eq.trans rfl rfl) (by decide)]
  exact Out.ckL (ord_20 hW hL hM hw hf (hG.mono (Nat.le_refl _) (fun z hz => by
    have hz : z = 20 := hz
    subst hz; exact ⟨rfl, by decide⟩) (fun _ _ => rfl) (fun _ _ => rfl)).ok)
theorem oa_22 (hW : WS K Y σ0 τ0) (hL : L < 60) (hM : MD t n σ0 τ0 p I d w y k v o m q f q8 d21 c22 σ τ) (hw : w L = nI (cW 22)) (hf : f (23880 + 6 * L) = nI 22) (hn : n ≤ 900) (hG : TailS t n p σ0 τ0 I d w y k v o m q f q8 d21 c22 K Y L (fun z => oO z = opW 22 ∧ z ≠ 21) Q G) : Out σ0 τ0 Q (k_X3_takesStep_64 40 (nI (cW 22)) (nI L) σ) ((f_X12_order 0 (nI 22) (nI (23880 + 6 * L)) τ).bind fun u12 => if u12.1 = 0 then ((ckZ 0).bind fun z => some (z, u12.2)) else G u12) := by
  show Out σ0 τ0 Q (k_X3_takesStep_64 40 (nI 25) (nI L) σ) _
  rw [e64_g (c := 25) (lit := 9) hL hM hw (by decide) (by decide) (Eq.trans rfl rfl) (by decide)]
  exact Out.ckL (ord_22 hW hL hM hw hf (hG.mono (Nat.le_refl _) (fun z hz => by
    have hz : z = 22 := hz
    subst hz; exact ⟨rfl, by decide⟩) (fun _ _ => rfl) (fun _ _ => rfl)).ok)
theorem ord_all {a : Nat} (hv : vaW a = true) (hW : WS K Y σ0 τ0) (hL : L < 60) (hM : MD t n σ0 τ0 p I d w y k v o m q f q8 d21 c22 σ τ) (hw : w L = nI (cW a)) (hf : f (23880 + 6 * L) = nI a) (hn : n ≤ 900) (hG : TailS t n p σ0 τ0 I d w y k v o m q f q8 d21 c22 K Y L (fun z => oO z = opW a ∧ z ≠ 21) Q G) : Out σ0 τ0 Q (k_X3_takesStep_64 40 (nI (cW a)) (nI L) σ) ((f_X12_order 0 (nI a) (nI (23880 + 6 * L)) τ).bind fun u12 => if u12.1 = 0 then ((ckZ 0).bind fun z => some (z, u12.2)) else G u12) := by
  have hv2 : 7 ≤ a ∧ a ≤ 22 ∧ a ≠ 21 := by
    unfold vaW at hv
    exact of_decide_eq_true hv
  have hc : a = 7 ∨ a = 8 ∨ a = 9 ∨ a = 10 ∨ a = 11 ∨ a = 12 ∨ a = 13 ∨ a = 14 ∨ a = 15 ∨ a = 16 ∨ a = 17 ∨ a = 18 ∨ a = 19 ∨ a = 20 ∨ a = 22 := by omega
  rcases hc with e | e | e | e | e | e | e | e | e | e | e | e | e | e | e
  · subst e; exact oa_7 hW hL hM hw hf hn hG
  · subst e; exact oa_8 hW hL hM hw hf hn hG
  · subst e; exact oa_9 hW hL hM hw hf hn hG
  · subst e; exact oa_10 hW hL hM hw hf hn hG
  · subst e; exact oa_11 hW hL hM hw hf hn hG
  · subst e; exact oa_12 hW hL hM hw hf hn hG
  · subst e; exact oa_13 hW hL hM hw hf hn hG
  · subst e; exact oa_14 hW hL hM hw hf hn hG
  · subst e; exact oa_15 hW hL hM hw hf hn hG
  · subst e; exact oa_16 hW hL hM hw hf hn hG
  · subst e; exact oa_17 hW hL hM hw hf hn hG
  · subst e; exact oa_18 hW hL hM hw hf hn hG
  · subst e; exact oa_19 hW hL hM hw hf hn hG
  · subst e; exact oa_20 hW hL hM hw hf hn hG
  · subst e; exact oa_22 hW hL hM hw hf hn hG
theorem st_tab : ∀ a : Fin 26, (vaW a.1 = true → (¬ nI a.1 < (7 : Int32)) ∧ (¬ (22 : Int32) < nI a.1) ∧ (¬ nI a.1 = (21 : Int32)) ∧ (opW a.1 = true ↔ (nI a.1 = (19 : Int32) ∨ nI a.1 = (20 : Int32)))) ∧ (vaW a.1 = false → a.1 ≠ 21 → (¬ nI a.1 = (19 : Int32)) ∧ (¬ nI a.1 = (20 : Int32)) ∧ ((nI a.1 < (7 : Int32)) ∨ (22 : Int32) < nI a.1)) := by decide +kernel
theorem c_may_2 {x : Int32} {σ σf : ST} (h : (x < 7 ∨ ¬ x ≤ 19) ∧ ¬ x = 23 ∧ ¬ x = 25) (hb : f_X6_blame 2 2 σ = some (nI 0, σf)) : f_X3_mayBegin 40 x σ = some (nI 0, σf) := by
  have e : k_X3_mayBegin_12 40 x σ = some (nI 0, σf) := by
    unfold k_X3_mayBegin_12
    rw [if_neg h.2.1, if_neg h.2.2, show LC.2.1 40 1 = 2 from rfl, hb]
    rfl
  unfold f_X3_mayBegin
  by_cases z : x < 7
  · rw [if_pos z]; exact e
  · rw [if_neg z, if_neg (h.1.resolve_left z)]; exact e
theorem c_may_x {a : Nat} (ha : a < 26) (hv : vaW a = true) {σ : ST} {r : Int32 × ST} (h : k_X3_mayBegin_33 40 (nI (cW a)) σ = some r) : f_X3_mayBegin 40 (nI (cW a)) σ = some r := by
  obtain ⟨t1, _, _⟩ := may_tab ⟨a, ha⟩
  simp only [] at t1
  obtain ⟨b1, b2⟩ := t1 hv
  unfold f_X3_mayBegin k_X3_mayBegin_12
  rw [if_neg b1]
  by_cases c : nI (cW a) ≤ (19 : Int32)
  · rw [if_pos c]; exact h
  · rw [if_neg c]
    rcases b2 with z | z | z
    · exact absurd z c
    · rw [if_pos z]; exact h
    · by_cases z2 : nI (cW a) = (23 : Int32)
      · rw [if_pos z2]; exact h
      · rw [if_neg z2, if_pos z]; exact h
theorem r_75 {a : Nat} (ha : a < 26) (hv : vaW a = true) {τ : ST} (hin : f_X12_inWords 0 14 τ = some (nI a, τ)) (d7 : ldA LR τ (LR.2.1 0 0) 19407 = some (nI L)) : f_X12_step 0 τ = k_X12_step_75 0 (nI a) (nI L) (nI (23880 + 6 * L)) (bI (opW a)) τ := by
  obtain ⟨t1, t2⟩ := st_tab ⟨a, ha⟩
  simp only [] at t1
  obtain ⟨b1, b2, b3, b4⟩ := t1 hv
  have e42 : ∀ s : Int32, k_X12_step_42 0 (nI a) (nI L) (nI (23880 + 6 * L)) s τ = k_X12_step_75 0 (nI a) (nI L) (nI (23880 + 6 * L)) s τ := fun s => by
    unfold k_X12_step_42
    rw [if_neg b1, if_neg b2, if_neg b3]
  unfold f_X12_step k_X12_step_37
  rw [hin, bsm]
  simp only []
  rw [d7, bsm, show (6 : Int32) * nI L = nI (6 * L) from pk_mul 6 L, show (23880 : Int32) + nI (6 * L) = nI (23880 + 6 * L) from nI_add 23880 (6 * L), e42, e42]
  by_cases z1 : nI a = (19 : Int32)
  · rw [if_pos z1, b4.mpr (Or.inl z1)]; rfl
  · rw [if_neg z1]
    by_cases z2 : nI a = (20 : Int32)
    · rw [if_pos z2, b4.mpr (Or.inr z2)]; rfl
    · rw [if_neg z2]
      cases q : opW a
      · rfl
      · rcases b4.mp q with z | z
        · exact absurd z z1
        · exact absurd z z2
theorem st_step (hW : WS K Y σ0 τ0) (hI : DInv K Y (gA τ0 1) L C dd D op I d w y k v o m q f q8 d21 c22) (h : MDC t n σ0 τ0 p I d w y k v o m q f q8 d21 c22 σ τ) (hw : tW t n p ≠ 21) (h0 : tK t n p ≠ 0) (hn : n ≤ 900) : Out σ0 τ0 (fun σ1 τ1 => ∃ p', p < p' ∧ DW t n σ0 τ0 K Y p' σ1 τ1) (f_X3_takesStep 40 σ) (f_X12_step 0 τ) := by
  obtain ⟨N1, N2, N3⟩ := hI.nums
  obtain ⟨i7, i8, id, i19, i21, i22⟩ := hI.ints
  have hin := r_in h.1.2.2.2.1 h.1.2.1 h.1.2.2.2.2.1
  have h8 := CT_8 h.1.2.2.1
  have hlt := tE_gt h.1.2.1 h0
  have hl := tW_le t n p
  have d7 : ldA LR τ (LR.2.1 0 0) 19407 = some (nI L) := (ldA1 (τ := τ) (k := 19407) (by decide)).trans (by rw [h.2.2.2.1, i19])
  have g4 : gI σ 40 4 = nI dd := h.2.2.1.2.1.trans id
  have g418 : gI σ 41 8 = nI C := (h.2.2.1.1 8).trans i8
  have g417 : gI σ 41 7 = nI L := (h.2.2.1.1 7).trans i7
  have g21 : gI τ 0 21 = nI dd := h.2.2.2.2.2.1.trans i21
  have g22 : gI τ 0 22 = nI C := h.2.2.2.2.2.2.trans i22
  have fin : ∀ k, 1 ≤ k → k ≤ 7 → ∃ σf τf, f_X6_blame 2 (nI k) σ = some (nI 0, σf) ∧ f_X12_fails 0 (nI k) τ = some (nI 0, τf) ∧ FF σ0 τ0 σf τf := fun k k1 k2 => both_fail h.1 h.2.1 k1 k2
  have cfail : ∀ {x : Int32} {σf : ST}, gI σ 2 8 = x → f_X3_mayBegin 40 x σ = some (nI 0, σf) → f_X3_takesStep 40 σ = some (nI 0, σf) := fun e1 e2 => by
    unfold f_X3_takesStep
    rw [show LC.2.1 40 1 = 2 from rfl, e1, e2, bsm]
    rfl
  generalize ha : tW t n p = a at *
  by_cases a26 : a = 26
  · obtain ⟨σf, τf, b1, b2, b3⟩ := fin 2 (by omega) (by omega)
    have b2' : f_X12_fails 0 2 τ = some (nI 0, τf) := b2
    rw [if_pos a26] at h8 hin
    refine Or.inr ⟨σf, τf, cfail h8 (c_may_2 ⟨Or.inl (by decide), by decide, by decide⟩ b1), ?_, b3⟩
    unfold f_X12_step
    rw [hin, bsm]
    simp only []
    rw [d7, bsm, if_neg (show ¬ mI = 19 by decide), if_neg (show ¬ mI = 20 by decide)]
    unfold k_X12_step_42 k_X12_step_69
    rw [if_pos (show mI < 7 by decide), b2']
    rfl
  have a25 : a < 26 := by omega
  rw [if_neg a26] at h8 hin
  cases hv : vaW a
  · obtain ⟨σf, τf, b1, b2, b3⟩ := fin 2 (by omega) (by omega)
    have b2' : f_X12_fails 0 2 τ = some (nI 0, τf) := b2
    have t2 := (st_tab ⟨a, a25⟩).2
    have t3 := (may_tab ⟨a, a25⟩).2.1
    simp only [] at t2 t3
    obtain ⟨c1, c2, c3⟩ := t2 hv hw
    obtain ⟨f1, f2, f3⟩ := t3 hv hw
    refine Or.inr ⟨σf, τf, cfail h8 (c_may_2 ⟨f1, f2, f3⟩ b1), ?_, b3⟩
    unfold f_X12_step
    rw [hin, bsm]
    simp only []
    rw [d7, bsm, if_neg c1, if_neg c2]
    unfold k_X12_step_42 k_X12_step_69
    rcases c3 with c3 | c3
    · rw [if_pos c3, b2']; rfl
    · by_cases c4 : nI a < 7
      · rw [if_pos c4, b2']; rfl
      · rw [if_neg c4, if_pos c3, b2']; rfl
  have t1 := (st_tab ⟨a, a25⟩).1
  simp only [] at t1
  obtain ⟨_, _, n21, _⟩ := t1 hv
  rw [r_75 a25 hv hin d7]
  unfold k_X12_step_75
  rw [if_neg n21, g22]
  by_cases c30 : C = 30
  · obtain ⟨σf, τf, b1, b2, b3⟩ := fin 6 (by omega) (by omega)
    have b1' : f_X6_blame 2 6 σ = some (nI 0, σf) := b1
    have b2' : f_X12_fails 0 6 τ = some (nI 0, τf) := b2
    rw [if_pos (by rw [c30]; rfl), b2']
    refine Or.inr ⟨σf, τf, cfail h8 (c_may_x a25 hv ?_), rfl, b3⟩
    unfold k_X3_mayBegin_33
    rw [show LC.2.1 40 0 = 41 from rfl, g418, c30, if_neg (show ¬ nI 30 < 30 by decide), show LC.2.1 40 1 = 2 from rfl, b1']
    rfl
  have hC : C < 30 := by omega
  have hL : L < 60 := by omega
  rw [if_neg (show ¬ nI C = 30 from fun z => c30 ((nI_e (a := C) (b := 30) (by omega) (by omega)).mp z))]
  unfold k_X12_step_97
  have eC : (opW a = true → dd < 3) → f_X3_takesStep 40 σ = if bI (opW a) = 0 then (k_X3_takesStep_64 40 (nI (cW a)) (nI L) (nlS L (nI (cW a)) (sI σ 41 8 (nI (C + 1))))) else ((stA LC (nlS L (nI (cW a)) (sI σ 41 8 (nI (C + 1)))) 48 (gI (nlS L (nI (cW a)) (sI σ 41 8 (nI (C + 1)))) 40 4) (nI L)).bind fun σ18 => (stI σ18 40 4 ((gI σ18 40 4) + 1)).bind fun σ19 => k_X3_takesStep_64 40 (nI (cW a)) (nI L) σ19) := fun hd => by
    unfold f_X3_takesStep
    rw [show LC.2.1 40 1 = 2 from rfl, h8, c_may_ok a25 hv g418 g4 hC hd N2, bsm, if_neg (show ¬ ((nI 1, σ) : Int32 × ST).1 = 0 from fun z => absurd (show nI 1 = 0 from z) (by decide))]
    simp only []
    rw [show LC.2.1 40 0 = 41 from rfl, g418, show nI C + 1 = nI (C + 1) from by rw [show (1 : Int32) = nI 1 from rfl, nI_add], stIe, bsm, c_newLine hL (nI (cW a)) (sI σ 41 8 (nI (C + 1))) (by rw [gI_sI, if_neg (by decide)]; exact g417), bsm]
    simp only []
    rw [c_holds a25, bsm]
    rfl
  obtain ⟨σb, hσb⟩ : ∃ σb, σb = nlS L (nI (cW a)) (sI σ 41 8 (nI (C + 1))) := ⟨_, rfl⟩
  rw [← hσb] at eC
  have b4 : gI σb 40 4 = nI dd := by rw [hσb]; exact g4
  have hJb : JC t n p σb τ := by
    rw [hσb]
    exact JC_sI (JC_sA (JC_sA (JC_sI h.1 (by decide) _) (by decide) _) (by decide) _) (by decide) _
  have hFb : FrC σ0 σb := by
    rw [hσb]
    exact (((h.2.1.1.sI _ (Or.inr (by decide))).sA _ (by decide)).sA _ (by decide)).sI _ (Or.inr (by decide))
  have hDb : DN (upd (upd I 8 (nI (C + 1))) 7 (nI (L + 1))) d (upd w L (nI (cW a))) y k v o (upd m L (nI L)) q σb := by
    rw [hσb]
    exact (((h.2.2.1.i41 8 (nI (C + 1))).a42 L (nI (cW a))).a47 L (nI L)).i41 7 (nI (L + 1))
  have pa := pf_at f hL (nI a)
  have pa1 := pf_at (gA τ 1) hL (nI a)
  have hRp : FrR τ0 (sA (sI τ 0 22 (nI (C + 1))) 1 (pf (gA τ 1) L (nI a))) := by
    refine (h.2.1.2.sI (k := 22) _ rfl).trans ⟨⟨fun _ _ => rfl, fun _ => rfl, fun x a _ => by rw [gA_sA, if_neg a], fun j hj => ?_, fun _ _ => rfl, fun _ _ => rfl⟩, rfl⟩
    rw [gA_sA, if_pos rfl, pa1.2.2.2 j (by omega) (by omega)]
    rfl
  have hDp : RDs (pf f L (nI a)) q8 d21 (nI (C + 1)) (sA (sI τ 0 22 (nI (C + 1))) 1 (pf (gA τ 1) L (nI a))) := ⟨by rw [gA_sA, if_pos rfl, h.2.2.2.1], by rw [gA_sA, if_neg (by decide)]; exact h.2.2.2.2.1, h.2.2.2.2.2.1, rfl⟩
  have e117 : ∀ v4 : Int32, k_X12_step_117 0 (nI a) (nI L) (nI (23880 + 6 * L)) v4 τ = (f_X12_ahead 0 (sA (sI τ 0 22 (nI (C + 1))) 1 (pf (gA τ 1) L (nI a)))).bind fun u11 => (f_X12_order 0 (nI a) (nI (23880 + 6 * L)) u11).bind fun u12 => if u12.1 = 0 then ((ckZ 0).bind fun z => some (z, u12.2)) else (if v4 = 0 then (k_X12_step_222 0 (nI a) (nI L) (nI (23880 + 6 * L)) u12.2) else ((stA LR u12.2 (LR.2.1 0 20) (gI u12.2 0 21) (nI L)).bind fun σ15 => (stI σ15 0 21 ((gI σ15 0 21) + 1)).bind fun σ16 => k_X12_step_222 0 (nI a) (nI L) (nI (23880 + 6 * L)) σ16)) := fun v4 => by
    unfold k_X12_step_117
    rw [if_neg n21, g22]
    exact r_133 (C := C) (s2 := 1) hL (nI a) v4 τ (by rw [h.2.2.2.1, i19])
  cases ho : opW a
  · rw [if_pos (show bI false = 0 from rfl), e117]
    rw [eC (fun z => absurd (ho.symm.trans z) (by decide)), ho, if_pos (show bI false = 0 from rfl)]
    have hMC : MDC t n σ0 τ0 p (upd (upd I 8 (nI (C + 1))) 7 (nI (L + 1))) d (upd w L (nI (cW a))) y k v o (upd m L (nI L)) q (pf f L (nI a)) q8 d21 (nI (C + 1)) σb (sA (sI τ 0 22 (nI (C + 1))) 1 (pf (gA τ 1) L (nI a))) := ⟨JC_tA (JC_t hJb (by decide) _) (by decide) _, ⟨hFb, hRp⟩, hDb, hDp⟩
    obtain ⟨τb, pb, hMb⟩ := hMC.pass
    rw [pb, bsm]
    have hT := tail_n (a := a) (p := tE t n p) (p0 := p) (t := t) (n := n) (σ0 := σ0) hI hC hL n21 hlt
    exact ord_all hv hW hL hMb (by rw [upd_at, if_pos rfl]) pa.1 hn (hT.mono (Nat.le_refl _) (fun z hz => by rw [ho] at hz; exact hz) (fun _ _ => rfl) (fun _ _ => rfl))
  · rw [if_neg (show ¬ bI true = 0 by decide), g21]
    by_cases d3 : dd = 3
    · obtain ⟨σf, τf, b1, b2, b3⟩ := fin 7 (by omega) (by omega)
      have b1' : f_X6_blame 2 7 σ = some (nI 0, σf) := b1
      have b2' : f_X12_fails 0 7 τ = some (nI 0, τf) := b2
      rw [if_pos (by rw [d3]; rfl), b2']
      refine Or.inr ⟨σf, τf, cfail h8 (c_may_x a25 hv ?_), rfl, b3⟩
      unfold k_X3_mayBegin_33
      rw [show LC.2.1 40 0 = 41 from rfl, g418, if_pos (show nI C < 30 from (nI_ltE (a := C) (b := 30) (by omega) (by omega)).mpr hC), c_holds a25, bsm, ho, if_neg (show ¬ ((bI true, σ) : Int32 × ST).1 = 0 from fun z => absurd (show bI true = 0 from z) (by decide))]
      simp only []
      rw [g4, d3, if_neg (show ¬ nI 3 < 3 by decide), show LC.2.1 40 1 = 2 from rfl, b1']
      rfl
    have hdd : dd < 3 := by omega
    rw [if_neg (show ¬ nI dd = 3 from fun z => d3 ((nI_e (a := dd) (b := 3) (by omega) (by omega)).mp z)), e117]
    have st : stA LC σb 48 (nI dd) (nI L) = some (sA σb 48 (upd (gA σb 48) dd (nI L))) := sa 3 rfl hdd (by decide)
    have b4' : gI (sA σb 48 (upd (gA σb 48) dd (nI L))) 40 4 = nI dd := b4
    rw [eC (fun _ => hdd), ho, if_neg (show ¬ bI true = 0 by decide), b4, st, bsm, b4', stIe, bsm, show nI dd + 1 = nI (dd + 1) from by rw [show (1 : Int32) = nI 1 from rfl, nI_add]]
    have hMC : MDC t n σ0 τ0 p (upd (upd I 8 (nI (C + 1))) 7 (nI (L + 1))) (nI (dd + 1)) (upd w L (nI (cW a))) y k v o (upd m L (nI L)) (upd q dd (nI L)) (pf f L (nI a)) q8 d21 (nI (C + 1)) (sI (sA σb 48 (upd (gA σb 48) dd (nI L))) 40 4 (nI (dd + 1))) (sA (sI τ 0 22 (nI (C + 1))) 1 (pf (gA τ 1) L (nI a))) := ⟨JC_tA (JC_t (JC_sI (JC_sA hJb (by decide) _) (by decide) _) (by decide) _) (by decide) _, ⟨(hFb.sA _ (by decide)).sI _ (Or.inr (by decide)), hRp⟩, (hDb.a48 dd (nI L)).i40 (nI (dd + 1)), hDp⟩
    obtain ⟨τb, pb, hMb⟩ := hMC.pass
    rw [pb, bsm]
    have hT := tail_o (a := a) (p := tE t n p) (p0 := p) (t := t) (n := n) (σ0 := σ0) hI hC hL hdd n21 hlt
    exact ord_all hv hW hL hMb (by rw [upd_at, if_pos rfl]) pa.1 hn (hT.mono (Nat.le_refl _) (fun z hz => by rw [ho] at hz; exact hz) (fun _ _ => rfl) (fun _ _ => rfl))
end
