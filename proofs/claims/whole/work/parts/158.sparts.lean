/-! the parts of a shelf's text -/
theorem JC_t {t : Nat → Nat} {n p : Nat} {σ τ : ST} (h : JC t n p σ τ) {k : Nat} (hk : k ≠ 11 ∧ k ≠ 12 ∧ k ≠ 13 ∧ k ≠ 14 ∧ k ≠ 15 ∧ k ≠ 18) (v : Int32) : JC t n p σ (sI τ 0 k v) := by
  have e : ∀ j, j ≠ k → gI (sI τ 0 k v) 0 j = gI τ 0 j := fun j hj => by rw [gI_sI, if_neg (fun z => hj z.2)]
  obtain ⟨a, b, c, d, r, q⟩ := h
  refine ⟨a, b, c, ⟨by rw [e 11 (by omega)]; exact d.1, d.2⟩, ?_, by rw [e 18 (by omega)]; exact q⟩
  unfold RT at r ⊢
  rw [e 12 (by omega), e 13 (by omega), e 14 (by omega), e 15 (by omega)]
  exact r
theorem JC_tA {t : Nat → Nat} {n p : Nat} {σ τ : ST} (h : JC t n p σ τ) {x : Nat} (hx : x ≠ 7) (u : Nat → Int32) : JC t n p σ (sA τ x u) := by
  obtain ⟨a, b, c, d, r⟩ := h
  exact ⟨a, b, c, ⟨d.1, d.2.1, fun k hk => by rw [gA_sA, if_neg (fun z => hx z.symm)]; exact d.2.2 k hk⟩, r⟩
theorem JJ_tA {t : Nat → Nat} {n p : Nat} {σ τ : ST} (h : JJ t n p σ τ) {x : Nat} (hx : x ≠ 7) (u : Nat → Int32) : JJ t n p σ (sA τ x u) := by
  obtain ⟨a, b, c, d, r⟩ := h
  exact ⟨a, b, c, ⟨d.1, d.2.1, fun k hk => by rw [gA_sA, if_neg (fun z => hx z.symm)]; exact d.2.2 k hk⟩, r⟩
theorem JJ_sI {t : Nat → Nat} {n p : Nat} {σ τ : ST} (h : JJ t n p σ τ) {x k : Nat} (hx : x ≠ 2) (v : Int32) : JJ t n p (sI σ x k v) τ := by
  have e : ∀ j, gI (sI σ x k v) 2 j = gI σ 2 j := fun j => by rw [gI_sI, if_neg (fun z => hx z.1.symm)]
  obtain ⟨a, b, c, d⟩ := h
  exact ⟨⟨by rw [e]; exact a.1, a.2⟩, b, by rw [e]; exact c, d⟩
section
variable {t : Nat → Nat} {n p : Nat} {σ0 τ0 σ τ : ST} {i a4 a6 f : Nat → Int32} {c s : Int32} {b5 b7 g : Nat → Int64}
theorem MC.numS (h : MC t n σ0 τ0 p i c a4 a6 b5 b7 f g s σ τ) (k : Nat) {to a b : Nat} (h1 : 19400 ≤ to) (hto : to < 29600) (ha : a < 10000) (hb : b < 10000) : Out σ0 τ0 (fun σ1 τ1 => ∃ v, a ≤ v ∧ v ≤ b ∧ M t n σ0 τ0 (tE t n p) (upd i k (nI v)) c a4 a6 b5 b7 (upd f to (nI v)) g s σ1 τ1) (f_X6_isNumberFrom 2 (nI a) (nI b) (sI σ 33 k (gI σ 2 6))) (f_X12_number 0 (nI to) (nI a) (nI b) τ) :=
  ((h.i33 k (gI σ 2 6)).num h1 hto ha hb).mono (fun σ1 τ1 q => by
    obtain ⟨q1, v, q2, q3, q4, q5, q6, q7⟩ := q
    have e : gI σ 2 6 = nI v := by rw [gI_sI, if_neg (by omega)] at q4; exact q4
    rw [e] at q7
    exact ⟨v, q2, q3, q7⟩)
theorem tc_110 (σ : ST) : f_X8_takesCopies 32 σ = (f_X6_isNumberFrom 2 (nI 1) (nI 6) (sI (sI σ 32 2 (nI 1)) 33 9 (gI (sI σ 32 2 (nI 1)) 2 6))).bind fun u => (ckZ u.1).bind fun z => some (z, u.2) := Eq.trans rfl rfl
theorem r62_1 (τ : ST) : k_X12_shelfPart_62 0 1 τ = (f_X12_wantSign 0 (nI 59) τ).bind fun u2 => if u2.1 = 0 then (k_X12_shelfPart_79 u2.2) else (k_X12_shelfPart_80 1 u2.2) := by
  unfold k_X12_shelfPart_62
  rw [if_neg (show ¬ (1 : Int32) = 0 by decide)]
  rfl
theorem sp_places (h : MC t n σ0 τ0 p i c a4 a6 b5 b7 f g s σ τ) (hs : s = nI 0) : Out σ0 τ0 (fun σ1 τ1 => ∃ N R W p', 1 ≤ N ∧ N ≤ 6 ∧ 1 ≤ R ∧ R ≤ N ∧ 1 ≤ W ∧ W ≤ N ∧ tE t n p ≤ p' ∧ M t n σ0 τ0 p' (upd (upd (upd i 9 (nI N)) 10 (nI R)) 11 (nI W)) (nI 1) a4 a6 b5 b7 (upd (upd (upd f 19400 (nI N)) 19401 (nI R)) 19402 (nI W)) g (nI 1) σ1 τ1) (f_X8_takesItems 32 11 σ) ((f_X12_placesPart 0 τ).bind fun u6 => k_X12_shelfPart_62 0 u6.1 u6.2) := by
  obtain ⟨c0, c1, c2, c3, c4, c5, cL⟩ := ch_11
  obtain ⟨F, hF, hF2⟩ : ∃ F, FU = F ∧ 5000 < F := ⟨FU, rfl, by unfold FU; omega⟩
  obtain ⟨F', hF'⟩ : ∃ F', F = F' + 1 + 1 + 1 + 1 + 1 + 1 + 1 := ⟨F - 7, by omega⟩
  have h' : MC t n σ0 τ0 p i c a4 a6 b5 b7 f g (nI 1) σ (sI τ 0 19 (nI 1)) := ⟨JC_t h.1 (by decide) _, ⟨h.2.1.1, h.2.1.2.sI _ rfl⟩, h.2.2.1, ⟨h.2.2.2.1, h.2.2.2.2.1, by rw [gI_sI, if_pos ⟨rfl, rfl⟩]⟩⟩
  obtain ⟨τ1, q1, hM1⟩ := h'.pass
  have q1' : f_X12_ahead 0 (sI τ 0 19 1) = some τ1 := q1
  unfold f_X12_placesPart f_X8_takesItems
  rw [h.2.2.2.2.2, hs, if_neg (show ¬ nI 0 = 1 by decide), stIe, bsm, q1', bsm, hF, hF']
  simp only [Option.bind_assoc, bind_if]
  show Out σ0 τ0 _ (k_X8_takesItems_2 _ 32 11 (nI 0) σ) _
  obtain ⟨σ2, s2, hC2⟩ := hM1.step
  rw [ti_step (by decide) cL (by decide) (by decide) s2 c0 (by decide) (by decide), tk_110, tc_110]
  refine Out.bind (Out.ckL (Out.ckL ((hC2.i32 (nI 1)).numS 9 (to := 19400) (a := 1) (b := 6) (by decide) (by decide) (by decide) (by decide)))) (fun _ => rfl) (fun _ => rfl) ?_
  intro σ3 τ3 hq
  obtain ⟨N, n1, n2, hM3⟩ := hq
  dsimp only
  obtain ⟨σ4, s4, hC4⟩ := hM3.step
  rw [ti_step (by decide) cL (by decide) (by decide) s4 c1 (by decide) (by decide), tk_114]
  refine Out.bind (Out.ckL (hC4.word (k := 3) (by decide))) (fun _ => rfl) (fun _ => rfl) ?_
  intro σ5 τ5 hM5
  dsimp only
  obtain ⟨σ6, s6, hC6⟩ := hM5.step
  have eN : ldA LR τ5 (LR.2.1 0 0) 19400 = some (nI N) := by
    refine (ldA1 (τ := τ5) (k := 19400) (by decide)).trans ?_
    rw [hM5.2.2.2.1]; rfl
  have eC : ∀ v, gI (sI σ6 33 10 v) 33 9 = nI N := fun v => by rw [gI_sI, if_neg (by decide), hC6.2.2.1.1]; rfl
  rw [ti_step (by decide) cL (by decide) (by decide) s6 c2 (by decide) (by decide), tk_82, eN, bsm, eC]
  refine Out.bind (Out.ckL (hC6.numS 10 (to := 19401) (a := 1) (b := N) (by decide) (by decide) (by decide) (by omega))) (fun _ => rfl) (fun _ => rfl) ?_
  intro σ7 τ7 hq
  obtain ⟨R, r1, r2, hM7⟩ := hq
  dsimp only
  obtain ⟨σ8, s8, hC8⟩ := hM7.step
  rw [ti_step (by decide) cL (by decide) (by decide) s8 c3 (by decide) (by decide), tk_119]
  refine Out.bind (Out.ckL (hC8.word (k := 4) (by decide))) (fun _ => rfl) (fun _ => rfl) ?_
  intro σ9 τ9 hM9
  dsimp only
  obtain ⟨σ10, s10, hC10⟩ := hM9.step
  have eN2 : ldA LR τ9 (LR.2.1 0 0) 19400 = some (nI N) := by
    refine (ldA1 (τ := τ9) (k := 19400) (by decide)).trans ?_
    rw [hM9.2.2.2.1]; rfl
  have eC2 : ∀ v, gI (sI σ10 33 11 v) 33 9 = nI N := fun v => by rw [gI_sI, if_neg (by decide), hC10.2.2.1.1]; rfl
  rw [ti_step (by decide) cL (by decide) (by decide) s10 c4 (by decide) (by decide), tk_87, eN2, bsm, eC2]
  refine Out.bind (Out.ckL (hC10.numS 11 (to := 19402) (a := 1) (b := N) (by decide) (by decide) (by decide) (by omega))) (fun _ => rfl) (fun _ => rfl) ?_
  intro σ11 τ11 hq
  obtain ⟨W, w1, w2, hM11⟩ := hq
  dsimp only
  obtain ⟨σ12, s12, hC12⟩ := hM11.step
  rw [ti_step (by decide) cL (by decide) (by decide) s12 c5 (by decide) (by decide), tk_59]
  show Out σ0 τ0 _ _ (k_X12_shelfPart_62 0 1 τ11)
  rw [r62_1]
  refine Out.bind (Out.ckL hC12.sign) (fun _ => rfl) (fun _ => rfl) ?_
  intro σ13 τ13 hM13
  refine Or.inl ⟨σ13, τ13, ti_end (by decide) cL (by decide), rfl, N, R, W, _, n1, n2, r1, r2, w1, w2, ?_, hM13⟩
  have b1 := hM1.1.2.1
  have b2 := hM3.1.2.1
  have b3 := hM5.1.2.1
  have b4 := hM7.1.2.1
  have b5 := hM9.1.2.1
  have b6 := hM11.1.2.1
  exact Nat.le_trans (le_tE b1) (Nat.le_trans (le_tE b2) (Nat.le_trans (le_tE b3) (Nat.le_trans (le_tE b4) (Nat.le_trans (le_tE b5) (le_tE b6)))))
/-- a new name -/
def aNN (v1 : Int32) (u2 : ST) : Option (Int32 × ST) := (f_X12_isName 0 14 u2).bind fun u3 =>
  if u3.1 = 0 then ((f_X12_fails 0 2 u3.2).bind fun u14 =>
  (ckZ u14.1).bind fun z => some (z, u14.2)) else ((ldA LR u3.2 (LR.2.1 0 0) 19403).bind fun a5 =>
  (f_X12_findHere 0 48 a5 u3.2).bind fun u6 =>
  if u6.1 = (-1) then ((ldA LR u6.2 (LR.2.1 0 0) 19404).bind fun a8 =>
  (f_X12_findHere 0 54 a8 u6.2).bind fun u9 =>
  if u9.1 = (-1) then ((f_X12_nameHere 0 u9.2).bind fun u11 =>
  (stB LR u11.2 (LR.2.1 0 1) (48 + v1) u11.1).bind fun σ12 =>
  (f_X12_ahead 0 σ12).bind fun u13 =>
  (ckZ 1).bind fun z => some (z, u13)) else (k_X12_aNewName_55 0 u9.2)) else (k_X12_aNewName_55 0 u6.2))
theorem aNN_e (v1 : Int32) (τ : ST) : f_X12_aNewName 0 v1 τ = (f_X12_ahead 0 τ).bind (aNN v1) := Eq.trans rfl rfl
theorem MC.newName (h : MC t n σ0 τ0 p i c a4 a6 b5 b7 f g s σ τ) {K Y o : Nat} (hK : K ≤ 6) (hY : Y ≤ 6) (i6 : i 6 = nI K) (i7 : i 7 = nI Y) (f3 : f 19403 = nI K) (f4 : f 19404 = nI Y) (ho : o < 12) (hn : ∀ j, j < K → NmR (b5 j) (g (48 + j))) (hm : ∀ j, j < Y → NmR (b7 j) (g (54 + j))) : Out σ0 τ0 (fun σ1 τ1 => σ1 = σ ∧ ∃ y, NmR (gJ σ 2 9) y ∧ M t n σ0 τ0 (tE t n p) i c a4 a6 b5 b7 f (vp_updL g (48 + o) y) s σ τ1) (f_X8_isNewName 32 σ) (aNN (nI o) τ) := by
  obtain ⟨hJ, hF, hS, hR⟩ := h
  have h9 := CT_9 hJ.2.2.1
  have hp := hJ.2.1
  have k1 : f_X7_keeperNamed 33 (gJ σ 2 9) σ = some (fR (fun j => decide (b5 j = gJ σ 2 9)) K, σ) := by
    have := c_keeperNamed (x := 33) (y := 35) (K := K) (σ := σ) (gJ σ 2 9) rfl rfl (by rw [hS.1]; exact i6) hK
    rw [hS.2.2.2.2.1] at this; exact this
  have k2 : f_X7_keyNamed 33 (gJ σ 2 9) σ = some (fR (fun j => decide (b7 j = gJ σ 2 9)) Y, σ) := by
    have := c_keyNamed (x := 33) (y := 37) (K := Y) (σ := σ) (gJ σ 2 9) rfl rfl (by rw [hS.1]; exact i7) hY
    rw [hS.2.2.2.2.2] at this; exact this
  have cn : f_X8_isNewName 32 σ = if fR (fun j => decide (b5 j = gJ σ 2 9)) K = mI ∧ fR (fun j => decide (b7 j = gJ σ 2 9)) Y = mI then k_X8_isNewName_41 32 1 σ else k_X8_isNewName_41 32 0 σ := by
    unfold f_X8_isNewName
    rw [show LC.2.1 32 0 = 33 from rfl, show LC.2.1 32 1 = 2 from rfl, k1, bsm]
    by_cases z1 : fR (fun j => decide (b5 j = gJ σ 2 9)) K = mI
    · rw [if_pos (show ((fR (fun j => decide (b5 j = gJ σ 2 9)) K, σ) : Int32 × ST).1 = -1 from z1)]
      simp only []
      rw [k2, bsm]
      by_cases z2 : fR (fun j => decide (b7 j = gJ σ 2 9)) Y = mI
      · rw [if_pos (show ((fR (fun j => decide (b7 j = gJ σ 2 9)) Y, σ) : Int32 × ST).1 = -1 from z2), if_pos ⟨z1, z2⟩]
      · rw [if_neg (show ¬ ((fR (fun j => decide (b7 j = gJ σ 2 9)) Y, σ) : Int32 × ST).1 = -1 from z2), if_neg (fun z => z2 z.2)]; rfl
    · rw [if_neg (show ¬ ((fR (fun j => decide (b5 j = gJ σ 2 9)) K, σ) : Int32 × ST).1 = -1 from z1), if_neg (fun z => z1 z.1)]; rfl
  have rn := r_isName hJ.2.2.2.1 hp hJ.2.2.2.2.1
  have cin := c_isName hJ.2.2.1 hp
  by_cases hN : isNm t n p = true
  · rw [if_pos hN] at h9 cin
    rw [hN] at rn
    obtain ⟨l1, l2, l3'⟩ := nm_ok hp hN
    have w41 : ∀ v, k_X8_isNewName_41 32 v σ = if v = 0 then ((f_X6_blame 2 3 σ).bind fun u4 => if u4.1 = 0 then (k_X8_isNewName_71 u4.2) else (k_X8_isNewName_67 u4.2)) else some (nI 1, σ) := fun v => by
      unfold k_X8_isNewName_41
      rw [show LC.2.1 32 1 = 2 from rfl, cin, bsm, if_neg (show ¬ ((nI 1, σ) : Int32 × ST).1 = 0 from fun z => absurd (show nI 1 = 0 from z) (by decide))]
      rfl
    have e1 : fR (fun j => decide (b5 j = gJ σ 2 9)) K = fR (fun j => decide (gB τ 2 (48 + j) = Int64.ofNat (n256 (nmL t n p)))) K := fR_congr (fun j hj => by
      rw [hR.2.1, h9]
      exact decide_eq_decide.mpr (nm_eq (hn j hj) l1 l2 l3'))
    have e2 : fR (fun j => decide (b7 j = gJ σ 2 9)) Y = fR (fun j => decide (gB τ 2 (54 + j) = Int64.ofNat (n256 (nmL t n p)))) Y := fR_congr (fun j hj => by
      rw [hR.2.1, h9]
      exact decide_eq_decide.mpr (nm_eq (hm j hj) l1 l2 l3'))
    have r1 : f_X12_findHere 0 48 (nI K) τ = some (fR (fun j => decide (gB τ 2 (48 + j) = Int64.ofNat (n256 (nmL t n p)))) K, τ) := r_findHere (b := 48) hJ.2.2.2.1 hp hJ.2.2.2.2.1 hN (by omega)
    have r2 : f_X12_findHere 0 54 (nI Y) τ = some (fR (fun j => decide (gB τ 2 (54 + j) = Int64.ofNat (n256 (nmL t n p)))) Y, τ) := r_findHere (b := 54) hJ.2.2.2.1 hp hJ.2.2.2.2.1 hN (by omega)
    rw [← e1] at r1
    rw [← e2] at r2
    have d3 : ldA LR τ (LR.2.1 0 0) 19403 = some (nI K) := (ldA1 (τ := τ) (k := 19403) (by decide)).trans (by rw [hR.1, f3])
    have d4 : ldA LR τ (LR.2.1 0 0) 19404 = some (nI Y) := (ldA1 (τ := τ) (k := 19404) (by decide)).trans (by rw [hR.1, f4])
    obtain ⟨σf, τf, b1, b2, b3⟩ := both_fail hJ hF (k := 3) (by omega) (by omega)
    have b1' : f_X6_blame 2 3 σ = some (nI 0, σf) := b1
    have b2' : f_X12_fails 0 3 τ = some (nI 0, τf) := b2
    have w55 : k_X12_aNewName_55 0 τ = some (nI 0, τf) := by unfold k_X12_aNewName_55; rw [b2']; rfl
    unfold aNN
    rw [cn, w41, w41, rn, bsm, if_neg (show ¬ ((bI true, τ) : Int32 × ST).1 = 0 from fun z => absurd (show bI true = 0 from z) (by decide))]
    simp only []
    rw [d3, bsm, r1, bsm]
    by_cases z1 : fR (fun j => decide (b5 j = gJ σ 2 9)) K = mI
    · rw [if_pos (show ((fR (fun j => decide (b5 j = gJ σ 2 9)) K, τ) : Int32 × ST).1 = -1 from z1)]
      simp only []
      rw [d4, bsm, r2, bsm]
      by_cases z2 : fR (fun j => decide (b7 j = gJ σ 2 9)) Y = mI
      · rw [if_pos (show ((fR (fun j => decide (b7 j = gJ σ 2 9)) Y, τ) : Int32 × ST).1 = -1 from z2), if_pos ⟨z1, z2⟩, if_neg (show ¬ (1 : Int32) = 0 by decide)]
        simp only []
        have sto : stB LR τ (LR.2.1 0 1) (48 + nI o) (Int64.ofNat (n256 (nmL t n p))) = some (sB τ 2 (vp_updL (gB τ 2) (48 + o) (Int64.ofNat (n256 (nmL t n p))))) := by
          rw [show (48 : Int32) + nI o = nI (48 + o) from nI_add 48 o]
          exact sb 70 rfl (by omega) (by decide)
        rw [r_nameHere hJ.2.2.2.1 hp hJ.2.2.2.2.1 hN, bsm]
        simp only []
        rw [sto, bsm]
        obtain ⟨τ2, g1, g2, g3⟩ := go_on (τ' := sB τ 2 (vp_updL (gB τ 2) (48 + o) (Int64.ofNat (n256 (nmL t n p))))) hJ hJ.2.2.2.1 rfl rfl
        rw [g1, bsm]
        refine Or.inl ⟨σ, τ2, rfl, rfl, rfl, Int64.ofNat (n256 (nmL t n p)), ⟨nmL t n p, l1, l2, l3', h9, rfl⟩, g3, ⟨hF.1, (hF.2.sB2 _ (by omega)).ra g2⟩, hS, (show RNs f (vp_updL g (48 + o) (Int64.ofNat (n256 (nmL t n p)))) s (sB τ 2 (vp_updL (gB τ 2) (48 + o) (Int64.ofNat (n256 (nmL t n p))))) from ⟨hR.1, by rw [gB_sB, if_pos rfl, hR.2.1], hR.2.2⟩).ra g2⟩
      · rw [if_neg (show ¬ ((fR (fun j => decide (b7 j = gJ σ 2 9)) Y, τ) : Int32 × ST).1 = -1 from z2), if_neg (fun z => z2 z.2), if_pos trivial, b1']
        exact Or.inr ⟨σf, τf, rfl, w55, b3⟩
    · rw [if_neg (show ¬ ((fR (fun j => decide (b5 j = gJ σ 2 9)) K, τ) : Int32 × ST).1 = -1 from z1), if_neg (fun z => z1 z.1), if_pos trivial, b1']
      exact Or.inr ⟨σf, τf, rfl, w55, b3⟩
  · rw [if_neg hN] at cin
    have hN2 : isNm t n p = false := by cases q : isNm t n p <;> simp_all
    rw [hN2] at rn
    obtain ⟨σf, τf, b1, b2, b3⟩ := both_fail hJ hF (k := 2) (by omega) (by omega)
    have b2' : f_X12_fails 0 2 τ = some (nI 0, τf) := b2
    have eσ : (nI 0, sI (sI σ 2 2 (nI (blK t n p 2))) 2 3 (nI (tF t n p))) = ((nI 0, σf) : Int32 × ST) := Option.some.inj ((c_blame hJ.2.2.1 2).symm.trans b1)
    rw [eσ] at cin
    have w41 : ∀ v, k_X8_isNewName_41 32 v σ = some (nI 0, σf) := fun v => by
      unfold k_X8_isNewName_41
      rw [show LC.2.1 32 1 = 2 from rfl, cin, bsm, if_pos (show ((nI 0, σf) : Int32 × ST).1 = 0 from rfl)]
      rfl
    refine Or.inr ⟨σf, τf, ?_, ?_, b3⟩
    · rw [cn, w41, w41]; split <;> rfl
    · unfold aNN
      rw [rn, bsm, if_pos (show ((bI false, τ) : Int32 × ST).1 = 0 from rfl)]
      simp only []
      rw [b2']; rfl
end
