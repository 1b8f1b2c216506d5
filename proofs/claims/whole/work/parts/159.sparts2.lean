/-! keeper, key -/
section
variable {t : Nat → Nat} {n p : Nat} {σ0 τ0 σ τ : ST} {i a4 a6 f : Nat → Int32} {c s : Int32} {b5 b7 g : Nat → Int64}
theorem c_isTakenAt {K v : Nat} {σ : ST} (h6 : gI σ 33 6 = nI K) (hK : K ≤ 6) (w : Int32) : f_X7_isTakenAt 33 w σ = some (bI (decide (fR (fun j => decide (gA σ 34 j = w)) K ≠ mI)), σ) := by
  have loop : ∀ (m j N : Nat), j + m = K → m < N → (∀ l, l < j → decide (gA σ 34 l = w) = false) → k_X7_isTakenAt_2 N 33 w (nI j) σ = some (bI (decide (fR (fun j => decide (gA σ 34 j = w)) K ≠ mI)), σ) := by
    intro m
    induction m with
    | zero =>
      intro j N hj hN hb
      obtain ⟨N1, rfl⟩ : ∃ N1, N = N1 + 1 := ⟨N - 1, by omega⟩
      rw [k_X7_isTakenAt_2, h6, if_pos (by rw [nI_leE (by omega) (by omega)]; omega), fR_no (fun l hl => hb l (by omega)), decide_eq_false (fun z => z rfl)]
      rfl
    | succ m ih =>
      intro j N hj hN hb
      obtain ⟨N1, rfl⟩ : ∃ N1, N = N1 + 1 := ⟨N - 1, by omega⟩
      rw [k_X7_isTakenAt_2, h6, if_neg (by rw [nI_leE (by omega) (by omega)]; omega), show LC.2.1 33 0 = 34 from rfl, la 6 rfl (by omega) (by decide), bsm]
      by_cases e : gA σ 34 j = w
      · have e9 : decide (nI j ≠ mI) = true := decide_eq_true (fun z => by rw [nI_mI (by omega)] at z; exact z)
        rw [if_pos e, fR_at (i := j) (by omega) hb (decide_eq_true e), e9]
        rfl
      · rw [if_neg e, show nI j + 1 = nI (j + 1) from by rw [show (1 : Int32) = nI 1 from rfl, nI_add]]
        exact ih (j + 1) N1 (by omega) (by omega) (fun l hl => by
          by_cases q : l = j
          · rw [q]; exact decide_eq_false e
          · exact hb l (by omega))
  exact loop K 0 FU (by omega) (by unfold FU; omega) (fun j hj => by omega)
theorem r_ak_62 {K : Nat} {τ : ST} (hK : K ≤ 6) : ∀ (m j N : Nat), j + m = K → m < N → (∀ l, l < j → decide (gA τ 1 (19410 + l) = gI τ 0 15) = false) → k_X12_aKeeper_62 N 0 (nI K) (nI j) τ = if fR (fun j => decide (gA τ 1 (19410 + j) = gI τ 0 15)) K = mI then k_X12_aKeeper_96 0 (nI K) τ else ((f_X12_fails 0 5 τ).bind fun u8 => (ckZ u8.1).bind fun z => some (z, u8.2)) := by
  intro m
  induction m with
  | zero =>
    intro j N hj hN hb
    obtain ⟨N1, rfl⟩ : ∃ N1, N = N1 + 1 := ⟨N - 1, by omega⟩
    rw [k_X12_aKeeper_62, if_pos (by rw [nI_leE (by omega) (by omega)]; omega), fR_no (fun l hl => hb l (by omega)), if_pos rfl]
  | succ m ih =>
    intro j N hj hN hb
    obtain ⟨N1, rfl⟩ : ∃ N1, N = N1 + 1 := ⟨N - 1, by omega⟩
    rw [k_X12_aKeeper_62, if_neg (by rw [nI_leE (by omega) (by omega)]; omega), show (19410 : Int32) + nI j = nI (19410 + j) from nI_add 19410 j, ldA1 (by omega), bsm]
    by_cases e : gA τ 1 (19410 + j) = gI τ 0 15
    · rw [if_pos e, fR_at (i := j) (by omega) hb (decide_eq_true e), if_neg (fun z => by rw [nI_mI (by omega)] at z; exact z)]
    · rw [if_neg e, show nI j + 1 = nI (j + 1) from by rw [show (1 : Int32) = nI 1 from rfl, nI_add]]
      exact ih (j + 1) N1 (by omega) (by omega) (fun l hl => by
        by_cases q : l = j
        · rw [q]; exact decide_eq_false e
        · exact hb l (by omega))
theorem SN.a34 (h : SN i c a4 a6 b5 b7 σ) (k : Nat) (v : Int32) : SN i c (upd a4 k v) a6 b5 b7 (sA σ 34 (upd (gA σ 34) k v)) := ⟨h.1, h.2.1, by rw [gA_sA, if_pos rfl, h.2.2.1], by rw [gA_sA, if_neg (by decide)]; exact h.2.2.2.1, h.2.2.2.2⟩
theorem SN.a36 (h : SN i c a4 a6 b5 b7 σ) (k : Nat) (v : Int32) : SN i c a4 (upd a6 k v) b5 b7 (sA σ 36 (upd (gA σ 36) k v)) := ⟨h.1, h.2.1, by rw [gA_sA, if_neg (by decide)]; exact h.2.2.1, by rw [gA_sA, if_pos rfl, h.2.2.2.1], h.2.2.2.2⟩
theorem SN.b35 (h : SN i c a4 a6 b5 b7 σ) (k : Nat) (v : Int64) : SN i c a4 a6 (vp_updL b5 k v) b7 (sB σ 35 (vp_updL (gB σ 35) k v)) := ⟨h.1, h.2.1, h.2.2.1, h.2.2.2.1, by rw [gB_sB, if_pos rfl, h.2.2.2.2.1], by rw [gB_sB, if_neg (by decide)]; exact h.2.2.2.2.2⟩
theorem SN.b37 (h : SN i c a4 a6 b5 b7 σ) (k : Nat) (v : Int64) : SN i c a4 a6 b5 (vp_updL b7 k v) (sB σ 37 (vp_updL (gB σ 37) k v)) := ⟨h.1, h.2.1, h.2.2.1, h.2.2.2.1, by rw [gB_sB, if_neg (by decide)]; exact h.2.2.2.2.1, by rw [gB_sB, if_pos rfl, h.2.2.2.2.2]⟩
theorem JJ_sA {t : Nat → Nat} {n p : Nat} {σ τ : ST} (h : JJ t n p σ τ) {x : Nat} (hx : x ≠ 3) (u : Nat → Int32) : JJ t n p (sA σ x u) τ := by
  obtain ⟨a, b, d⟩ := h
  exact ⟨⟨a.1, a.2.1, fun k hk => by rw [gA_sA, if_neg (fun z => hx z.symm)]; exact a.2.2 k hk⟩, b, d⟩
/-- the reference's place of a keeper -/
def aKat (v1 : Int32) (u : ST) : Option (Int32 × ST) := if (gI u 0 12) = 3 then (if 999 < (gI u 0 15) then (k_X12_aKeeper_96 0 v1 u) else (k_X12_aKeeper_62 FU 0 v1 0 u)) else (k_X12_aKeeper_96 0 v1 u)
theorem MC.keeperAt (h : MC t n σ0 τ0 p i c a4 a6 b5 b7 f g s σ τ) {K : Nat} (hK : K < 6) (i6 : i 6 = nI K) (f3 : f 19403 = nI K) (hr : ∀ j, j < K → a4 j = f (19410 + j)) : Out σ0 τ0 (fun σ1 τ1 => ∃ v, v < 1000 ∧ (∀ j, j < K → f (19410 + j) ≠ nI v) ∧ M t n σ0 τ0 (tE t n p) (upd i 6 (nI (K + 1))) c (upd a4 K (nI v)) a6 b5 b7 (upd (upd f (19410 + K) (nI v)) 19403 (nI (K + 1))) g s σ1 τ1) (f_X8_takesKeeperAt 32 σ) (aKat (nI K) τ) := by
  obtain ⟨hJ, hF, hS, hR⟩ := h
  have h96 : ∀ τ', k_X12_aKeeper_96 0 (nI K) τ' = (f_X12_number 0 (nI (19410 + K)) (nI 0) (nI 999) τ').bind fun u1 => if u1.1 = 0 then ((ckZ 0).bind fun z => some (z, u1.2)) else ((ldA LR u1.2 (LR.2.1 0 0) 19403).bind fun a3 => (stA LR u1.2 (LR.2.1 0 0) 19403 (a3 + 1)).bind fun σ4 => (ckZ 1).bind fun z => some (z, σ4)) := fun τ' => by
    unfold k_X12_aKeeper_96
    rw [show (19410 : Int32) + nI K = nI (19410 + K) from nI_add 19410 K]
    rfl
  have hnum := MC.num ⟨hJ, hF, hS, hR⟩ (to := 19410 + K) (a := 0) (b := 999) (by omega) (by omega) (by omega) (by omega)
  have k3 : (nI (tK t n p) = (3 : Int32)) = (tK t n p = 3) := nI_e (b := 3) (by have := tK_le t n p; omega) (by omega)
  have c6 : gI σ 33 6 = nI K := by rw [hS.1]; exact i6
  unfold f_X8_takesKeeperAt
  rw [show LC.2.1 32 0 = 33 from rfl, show LC.2.1 32 1 = 2 from rfl]
  show Out σ0 τ0 _ ((f_X6_isNumberFrom 2 (nI 0) (nI 999) σ).bind _) _
  by_cases z : tK t n p = 3 ∧ tV t n p ≤ 999
  · have h6 : gI σ 2 6 = nI (tV t n p) := hJ.2.2.1.2.2.2.1 z.1
    have h15 : gI τ 0 15 = nI (tV t n p) := hJ.2.2.2.2.1.2.2.2.1 z.1
    have eQ : fR (fun j => decide (gA σ 34 j = nI (tV t n p))) K = fR (fun j => decide (gA τ 1 (19410 + j) = gI τ 0 15)) K := fR_congr (fun j hj => by rw [hS.2.2.1, hR.1, h15, hr j hj])
    have r62 := r_ak_62 (τ := τ) (K := K) (by omega) K 0 FU (by omega) (by unfold FU; omega) (fun l hl => by omega)
    have ra : aKat (nI K) τ = if fR (fun j => decide (gA τ 1 (19410 + j) = gI τ 0 15)) K = mI then k_X12_aKeeper_96 0 (nI K) τ else ((f_X12_fails 0 5 τ).bind fun u8 => (ckZ u8.1).bind fun z => some (z, u8.2)) := by
      unfold aKat
      rw [hJ.2.2.2.2.1.1, if_pos (by rw [k3]; exact z.1), if_neg ?_]
      · exact r62
      · rw [h15]
        intro q
        have := (nI_ltE (a := 999) (b := tV t n p) (by omega) (by omega)).mp q
        omega
    have ct := c_isTakenAt (v := 0) c6 (by omega) (nI (tV t n p))
    have cnum : f_X6_isNumberFrom 2 (nI 0) (nI 999) σ = some (nI 1, σ) := by
      rcases hnum with ⟨σ1, τ1, a1, a2, a3, _⟩ | ⟨σ1, τ1, a1, a2, a3⟩
      · rw [a1, a3]
      · exfalso
        have : f_X6_isNumberFrom 2 (nI 0) (nI 999) σ = some (nI 1, σ) := by
          unfold f_X6_isNumberFrom
          rw [hJ.2.2.1.1, if_pos (show nI (ckd (tK t n p)) = 2 by rw [z.1]; rfl), h6, if_neg (by rw [nI_ltE (by omega) (by omega)]; omega), if_pos (by rw [nI_leE (by omega) (by omega)]; exact z.2)]
          rfl
        rw [this] at a1
        have := (Prod.mk.inj (Option.some.inj a1)).1
        exact absurd this (by decide)
    rw [cnum, bsm, if_neg (show ¬ ((nI 1, σ) : Int32 × ST).1 = 0 from fun z => absurd (show nI 1 = 0 from z) (by decide)), ra]
    simp only []
    rw [h6, ct, bsm, ← eQ]
    by_cases e : fR (fun j => decide (gA σ 34 j = nI (tV t n p))) K = mI
    · rw [decide_eq_false (fun q => q e), if_pos (show ((bI false, σ) : Int32 × ST).1 = 0 from rfl), if_pos e, h96]
      simp only []
      rw [c6, show LC.2.1 33 0 = 34 from rfl, h6, sa 6 rfl (by omega) (by decide), bsm]
      have c6' : gI (sA σ 34 (upd (gA σ 34) K (nI (tV t n p)))) 33 6 = nI K := c6
      rw [c6', stIe, bsm, show nI K + 1 = nI (K + 1) from by rw [show (1 : Int32) = nI 1 from rfl, nI_add]]
      rcases hnum with ⟨σ1, τ1, a1, a2, a3, v, v1, v2, v3, v4, v5, hM⟩ | ⟨σ1, τ1, a1, a2, a3⟩
      · rw [a3] at hM
        refine Or.inl ⟨_, sA τ1 1 (upd (gA τ1 1) 19403 (nI (K + 1))), rfl, ?_, v, by omega, ?_, ?_⟩
        · rw [a2, bsm, if_neg (show ¬ ((nI 1, τ1) : Int32 × ST).1 = 0 from fun z => absurd (show nI 1 = 0 from z) (by decide))]
          simp only []
          rw [show (19403 : Int32) = nI 19403 from rfl, ldA1 (by decide), bsm, hM.2.2.2.1, upd_at, if_neg (by omega), f3, sA1_st (by decide), bsm, show nI K + 1 = nI (K + 1) from by rw [show (1 : Int32) = nI 1 from rfl, nI_add], hM.2.2.2.1]
          rfl
        · intro j hj q
          rcases fR_cs (fun j => decide (gA σ 34 j = nI (tV t n p))) K with ⟨_, w⟩ | ⟨l, w1, w2, _⟩
          · have := of_decide_eq_false (w j hj)
            exact this (by rw [hS.2.2.1, hr j hj, q, v5])
          · rw [w2] at e; rw [nI_mI (by omega)] at e; exact e
        · rw [v5] at hM ⊢
          exact ⟨JJ_tA (JJ_sI (JJ_sA hM.1 (by decide) _) (by decide) _) (by decide) _, ⟨(hM.2.1.1.sA _ (by decide)).sI _ (Or.inr (by decide)), hM.2.1.2.sA1 _ (by decide)⟩, (hS.a34 K _).i33 6 _, hM.2.2.2.sA 19403 _⟩
      · rw [cnum] at a1
        have := (Prod.mk.inj (Option.some.inj a1)).1
        exact absurd this (by decide)
    · rw [decide_eq_true e, if_neg (show ¬ ((bI true, σ) : Int32 × ST).1 = 0 from fun z => absurd (show bI true = 0 from z) (by decide)), if_neg e]
      obtain ⟨σf, τf, b1, b2, b3⟩ := both_fail hJ hF (k := 5) (by omega) (by omega)
      have b1' : f_X6_blame 2 5 σ = some (nI 0, σf) := b1
      have b2' : f_X12_fails 0 5 τ = some (nI 0, τf) := b2
      simp only []
      rw [b1', b2']
      exact Or.inr ⟨σf, τf, rfl, rfl, b3⟩
  · have ra : aKat (nI K) τ = k_X12_aKeeper_96 0 (nI K) τ := by
      unfold aKat
      rw [hJ.2.2.2.2.1.1]
      by_cases z3 : tK t n p = 3
      · have h15 : gI τ 0 15 = nI (tV t n p) := hJ.2.2.2.2.1.2.2.2.1 z3
        have hl := tV_lt hJ.2.1 z3
        rw [if_pos (by rw [k3]; exact z3), h15, if_pos (show (999 : Int32) < nI (tV t n p) from (nI_ltE (a := 999) (b := tV t n p) (by omega) (by omega)).mpr (by
          by_cases q : tV t n p ≤ 999
          · exact absurd ⟨z3, q⟩ z
          · omega))]
      · rw [if_neg (by rw [k3]; exact z3)]
    rw [ra, h96]
    rcases hnum with ⟨σ1, τ1, a1, a2, a3, v, v1, v2, v3, v4, v5, hM⟩ | ⟨σ1, τ1, a1, a2, a3⟩
    · exact absurd ⟨v4, by rw [← v5]; exact v2⟩ z
    · rw [a1, a2]
      exact Or.inr ⟨σ1, τ1, rfl, rfl, a3⟩
theorem ak_e (τ : ST) {K : Nat} (h : gA τ 1 19403 = nI K) (hK : K < 6) : f_X12_aKeeper 0 τ = (f_X12_aNewName 0 (nI K) τ).bind fun u11 => if u11.1 = 0 then (k_X12_aKeeper_40 u11.2) else ((f_X12_wantWord 0 14 5 u11.2).bind fun u13 => if u13.1 = 0 then (k_X12_aKeeper_40 u13.2) else aKat (nI K) u13.2) := by
  unfold f_X12_aKeeper
  rw [show ldA LR τ (LR.2.1 0 0) 19403 = some (nI K) from (ldA1 (τ := τ) (k := 19403) (by decide)).trans (by rw [h]), bsm, if_neg (fun q => by
    have := (nI_e (a := K) (b := 6) (by omega) (by omega)).mp q
    omega)]
  rfl
theorem sp_keeper (h : MC t n σ0 τ0 p i c a4 a6 b5 b7 f g s σ τ) {K Y : Nat} (hK : K < 6) (hY : Y ≤ 6) (i6 : i 6 = nI K) (i7 : i 7 = nI Y) (f3 : f 19403 = nI K) (f4 : f 19404 = nI Y) (hn : ∀ j, j < K → NmR (b5 j) (g (48 + j))) (hm : ∀ j, j < Y → NmR (b7 j) (g (54 + j))) (hr : ∀ j, j < K → a4 j = f (19410 + j)) : Out σ0 τ0 (fun σ1 τ1 => ∃ x y v p', NmR x y ∧ v < 1000 ∧ (∀ j, j < K → f (19410 + j) ≠ nI v) ∧ tE t n p ≤ p' ∧ M t n σ0 τ0 p' (upd i 6 (nI (K + 1))) c (upd a4 K (nI v)) a6 (vp_updL b5 K x) b7 (upd (upd f (19410 + K) (nI v)) 19403 (nI (K + 1))) (vp_updL g (48 + K) y) s σ1 τ1) (f_X8_takesItems 32 12 σ) ((f_X12_aKeeper 0 τ).bind fun u6 => k_X12_shelfPart_62 0 u6.1 u6.2) := by
  obtain ⟨c0, c1, c2, c3, cL⟩ := ch_12
  obtain ⟨F, hF, hF2⟩ : ∃ F, FU = F ∧ 5000 < F := ⟨FU, rfl, by unfold FU; omega⟩
  obtain ⟨F', hF'⟩ : ∃ F', F = F' + 1 + 1 + 1 + 1 + 1 := ⟨F - 5, by omega⟩
  obtain ⟨τ1, q1, hM1⟩ := h.pass
  rw [ak_e τ (by rw [h.2.2.2.1]; exact f3) hK, aNN_e, q1, bsm]
  unfold f_X8_takesItems
  rw [hF, hF']
  simp only [Option.bind_assoc, bind_if]
  show Out σ0 τ0 _ (k_X8_takesItems_2 _ 32 12 (nI 0) σ) _
  obtain ⟨σ2, s2, hC2⟩ := hM1.step
  have d6 : gI σ2 33 6 = nI K := by rw [hC2.2.2.1.1]; exact i6
  have hC3 : MC t n σ0 τ0 (tE t n p) i c a4 a6 (vp_updL b5 K (gJ σ2 2 9)) b7 f g s (sB σ2 35 (vp_updL (gB σ2 35) K (gJ σ2 2 9))) τ1 := ⟨JC_sB hC2.1 _, ⟨hC2.2.1.1.sB _ (by decide), hC2.2.1.2⟩, hC2.2.2.1.b35 K _, hC2.2.2.2⟩
  rw [ti_step (by decide) cL (by decide) (by decide) s2 c0 (by decide) (by decide), tk_107, d6, sb 6 rfl hK (by decide), bsm]
  refine Out.bind (Out.ckL (hC3.newName (o := K) (by omega) hY i6 i7 f3 f4 (by omega) (fun j hj => by rw [updL_at, if_neg (by omega)]; exact hn j hj) hm)) (fun _ => rfl) (fun _ => rfl) ?_
  intro σ3 τ3 hq
  obtain ⟨eσ, y, hy, hM3⟩ := hq
  rw [← eσ] at hM3
  dsimp only
  obtain ⟨σ4, s4, hC4⟩ := hM3.step
  rw [ti_step (by decide) cL (by decide) (by decide) s4 c1 (by decide) (by decide), tk_64]
  refine Out.bind (Out.ckL (hC4.word (k := 5) (by decide))) (fun _ => rfl) (fun _ => rfl) ?_
  intro σ5 τ5 hM5
  dsimp only
  obtain ⟨σ6, s6, hC6⟩ := hM5.step
  rw [ti_step (by decide) cL (by decide) (by decide) s6 c2 (by decide) (by decide), tk_75]
  have hka := Out.ckL (hC6.keeperAt hK i6 f3 hr)
  rw [show (aKat (nI K) τ5).bind (fun u6 => k_X12_shelfPart_62 0 u6.1 u6.2) = (aKat (nI K) τ5).bind (fun u6 => if u6.1 = 0 then (k_X12_shelfPart_79 u6.2) else ((f_X12_wantSign 0 59 u6.2).bind fun u2 => if u2.1 = 0 then (k_X12_shelfPart_79 u2.2) else (k_X12_shelfPart_80 1 u2.2))) from rfl]
  refine Out.bind hka (fun _ => rfl) (fun _ => rfl) ?_
  intro σ7 τ7 hq
  obtain ⟨v, v1, v2, hM7⟩ := hq
  dsimp only
  obtain ⟨σ8, s8, hC8⟩ := hM7.step
  rw [ti_step (by decide) cL (by decide) (by decide) s8 c3 (by decide) (by decide), tk_59]
  refine Out.bind (Out.ckL hC8.sign) (fun _ => rfl) (fun _ => rfl) ?_
  intro σ9 τ9 hM9
  refine Or.inl ⟨σ9, τ9, ti_end (by decide) cL (by decide), rfl, _, y, v, _, hy, v1, v2, ?_, hM9⟩
  exact Nat.le_trans (le_tE hM1.1.2.1) (Nat.le_trans (le_tE hM3.1.2.1) (Nat.le_trans (le_tE hM5.1.2.1) (le_tE hM7.1.2.1)))
end
