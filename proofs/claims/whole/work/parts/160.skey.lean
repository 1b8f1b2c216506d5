/-! a key -/
section
variable {t : Nat → Nat} {n p : Nat} {σ0 τ0 σ τ : ST} {i a4 a6 f : Nat → Int32} {c s : Int32} {b5 b7 g : Nat → Int64}
def aKsum (v3 : Int32) (u9 : ST) : Option (Int32 × ST) := (f_X12_inWords 0 14 u9).bind fun u11 => if u11.1 = 6 then ((stA LR u11.2 (LR.2.1 0 0) (19422 + v3) 1).bind fun σ13 => (f_X12_ahead 0 σ13).bind fun u14 => k_X12_aKey_87 0 u14) else (k_X12_aKey_87 0 u11.2)
theorem ay_e (τ : ST) {Y : Nat} (h : gA τ 1 19404 = nI Y) (hY : Y < 6) : f_X12_aKey 0 τ = (f_X12_aNewName 0 (nI (6 + Y)) τ).bind fun u5 => if u5.1 = 0 then (k_X12_aKey_59 u5.2) else ((f_X12_wantWord 0 14 5 u5.2).bind fun u7 => if u7.1 = 0 then (k_X12_aKey_59 u7.2) else ((f_X12_number 0 (nI (19416 + Y)) (nI 0) (nI 999) u7.2).bind fun u9 => if u9.1 = 0 then (k_X12_aKey_59 u9.2) else aKsum (nI Y) u9.2)) := by
  unfold f_X12_aKey
  rw [show ldA LR τ (LR.2.1 0 0) 19404 = some (nI Y) from (ldA1 (τ := τ) (k := 19404) (by decide)).trans (by rw [h]), bsm, if_neg (fun q => by
    have := (nI_e (a := Y) (b := 6) (by omega) (by omega)).mp q
    omega), show (6 : Int32) + nI Y = nI (6 + Y) from nI_add 6 Y, show (19416 : Int32) + nI Y = nI (19416 + Y) from nI_add 19416 Y]
  rfl
theorem tky (σ : ST) {Y : Nat} (h7 : gI σ 33 7 = nI Y) (hY : Y < 6) : f_X8_takesKeyAt 32 σ = (f_X6_isNumberFrom 2 (nI 0) (nI 999) (sI (sA σ 36 (upd (gA σ 36) Y (gI σ 2 6))) 33 7 (nI (Y + 1)))).bind fun u => (ckZ u.1).bind fun z => some (z, u.2) := by
  unfold f_X8_takesKeyAt
  rw [show LC.2.1 32 0 = 33 from rfl, show LC.2.1 32 1 = 2 from rfl, show LC.2.1 33 2 = 36 from rfl, h7, sa 6 rfl hY (by decide), bsm]
  have h7' : gI (sA σ 36 (upd (gA σ 36) Y (gI σ 2 6))) 33 7 = nI Y := h7
  rw [h7', stIe, bsm, show nI Y + 1 = nI (Y + 1) from by rw [show (1 : Int32) = nI 1 from rfl, nI_add]]
  rfl
theorem ti_46 {N : Nat} {σ σ1 : ST} (hs : f_X6_step 2 σ = some σ1) : k_X8_takesItems_2 (N + 1) 32 13 (nI 3) σ = if (gI σ1 2 8) = 6 then ((stI σ1 33 8 ((gI σ1 33 8) ||| (1 <<< (((gI σ1 33 7) - 1) &&& 31)))).bind fun σ10 => (f_X6_step 2 σ10).bind fun u11 => k_X8_takesItems_69 (k_X8_takesItems_2 N) 32 13 (nI 3) u11) else (k_X8_takesItems_69 (k_X8_takesItems_2 N) 32 13 (nI 3) σ1) := by
  obtain ⟨c0, c1, c2, c3, cL⟩ := ch_13
  rw [k_X8_takesItems_2, c_length (by decide), bsm, cL]
  simp only []
  rw [if_neg (by rw [nI_leE (by omega) (by omega)]; omega), show LC.2.1 32 1 = 2 from rfl, hs, bsm, c_charAt (by decide) (by decide) (by rw [cL]; decide), bsm, c3]
  simp only []
  rw [if_pos (show nI 46 = 46 from rfl)]
  rfl
theorem key_tail (h : MC t n σ0 τ0 p i c a4 a6 b5 b7 f g s σ τ) {Y N : Nat} (hY : Y < 6) (f4 : f 19404 = nI Y) : Out σ0 τ0 (fun σ1 τ1 => M t n σ0 τ0 (tE t n p) i c a4 a6 b5 b7 (upd f 19404 (nI (Y + 1))) g s σ1 τ1) (k_X8_takesItems_69 (k_X8_takesItems_2 (N + 1)) 32 13 (nI 3) σ) ((k_X12_aKey_87 0 τ).bind fun u6 => k_X12_shelfPart_62 0 u6.1 u6.2) := by
  obtain ⟨c0, c1, c2, c3, cL⟩ := ch_13
  have h' : MC t n σ0 τ0 p i c a4 a6 b5 b7 (upd f 19404 (nI (Y + 1))) g s σ (sA τ 1 (upd (gA τ 1) 19404 (nI (Y + 1)))) := ⟨JC_tA h.1 (by decide) _, ⟨h.2.1.1, h.2.1.2.sA1 _ (by decide)⟩, h.2.2.1, h.2.2.2.sA 19404 _⟩
  have e : (k_X12_aKey_87 0 τ).bind (fun u6 => k_X12_shelfPart_62 0 u6.1 u6.2) = k_X12_shelfPart_62 0 1 (sA τ 1 (upd (gA τ 1) 19404 (nI (Y + 1)))) := by
    unfold k_X12_aKey_87
    rw [show (19404 : Int32) = nI 19404 from rfl, ldA1 (by decide), bsm, h.2.2.2.1, f4, sA1_st (by decide), bsm, show nI Y + 1 = nI (Y + 1) from by rw [show (1 : Int32) = nI 1 from rfl, nI_add], h.2.2.2.1]
    rfl
  rw [e, r62_1]
  unfold k_X8_takesItems_69
  rw [c_charAt (by decide) (by decide) (by rw [cL]; decide), bsm, c3]
  simp only []
  rw [tk_46]
  refine Out.bind (Out.ckL h'.sign) (fun _ => rfl) (fun _ => rfl) ?_
  intro σ1 τ1 hM
  exact Or.inl ⟨σ1, τ1, ti_end (l := 13) (L := 4) (by decide) cL (by decide), rfl, hM⟩
theorem sp_key (h : MC t n σ0 τ0 p i c a4 a6 b5 b7 f g s σ τ) {K Y : Nat} (hK : K ≤ 6) (hY : Y < 6) (i6 : i 6 = nI K) (i7 : i 7 = nI Y) (f3 : f 19403 = nI K) (f4 : f 19404 = nI Y) (hn : ∀ j, j < K → NmR (b5 j) (g (48 + j))) (hm : ∀ j, j < Y → NmR (b7 j) (g (54 + j))) : Out σ0 τ0 (fun σ1 τ1 => ∃ x y v p' i' f', NmR x y ∧ v < 1000 ∧ tE t n p ≤ p' ∧ ((i' = upd i 7 (nI (Y + 1)) ∧ f' = upd f (19416 + Y) (nI v)) ∨ (i' = upd (upd i 7 (nI (Y + 1))) 8 (i 8 ||| (nI 1 <<< (nI Y &&& nI 31))) ∧ f' = upd (upd f (19416 + Y) (nI v)) (19422 + Y) (nI 1))) ∧ M t n σ0 τ0 p' i' c a4 (upd a6 Y (nI v)) b5 (vp_updL b7 Y x) (upd f' 19404 (nI (Y + 1))) (vp_updL g (48 + (6 + Y)) y) s σ1 τ1) (f_X8_takesItems 32 13 σ) ((f_X12_aKey 0 τ).bind fun u6 => k_X12_shelfPart_62 0 u6.1 u6.2) := by
  obtain ⟨c0, c1, c2, c3, cL⟩ := ch_13
  obtain ⟨F, hF, hF2⟩ : ∃ F, FU = F ∧ 5000 < F := ⟨FU, rfl, by unfold FU; omega⟩
  obtain ⟨F', hF'⟩ : ∃ F', F = F' + 1 + 1 + 1 + 1 + 1 := ⟨F - 5, by omega⟩
  obtain ⟨τ1, q1, hM1⟩ := h.pass
  rw [ay_e τ (by rw [h.2.2.2.1]; exact f4) hY, aNN_e, q1, bsm]
  unfold f_X8_takesItems
  rw [hF, hF']
  simp only [Option.bind_assoc, bind_if]
  show Out σ0 τ0 _ (k_X8_takesItems_2 _ 32 13 (nI 0) σ) _
  obtain ⟨σ2, s2, hC2⟩ := hM1.step
  have d7 : gI σ2 33 7 = nI Y := by rw [hC2.2.2.1.1]; exact i7
  have hC3 : MC t n σ0 τ0 (tE t n p) i c a4 a6 b5 (vp_updL b7 Y (gJ σ2 2 9)) f g s (sB σ2 37 (vp_updL (gB σ2 37) Y (gJ σ2 2 9))) τ1 := ⟨JC_sB hC2.1 _, ⟨hC2.2.1.1.sB _ (by decide), hC2.2.1.2⟩, hC2.2.2.1.b37 Y _, hC2.2.2.2⟩
  rw [ti_step (by decide) cL (by decide) (by decide) s2 c0 (by decide) (by decide), tk_121, d7, sb 6 rfl hY (by decide), bsm]
  refine Out.bind (Out.ckL (hC3.newName (o := 6 + Y) hK (by omega) i6 i7 f3 f4 (by omega) hn (fun j hj => by rw [updL_at, if_neg (by omega)]; exact hm j hj))) (fun _ => rfl) (fun _ => rfl) ?_
  intro σ3 τ3 hq
  obtain ⟨eσ, y, hy, hM3⟩ := hq
  rw [← eσ] at hM3
  dsimp only
  obtain ⟨σ4, s4, hC4⟩ := hM3.step
  rw [ti_step (by decide) cL (by decide) (by decide) s4 c1 (by decide) (by decide), tk_64]
  refine Out.bind (Out.ckL (hC4.word (k := 5) (by decide))) (fun _ => rfl) (fun _ => rfl) ?_
  intro σ5 τ5 hM5
  dsimp only
  obtain ⟨σ6, s6, hC6⟩ := hM5.step
  have e7 : gI σ6 33 7 = nI Y := by rw [hC6.2.2.1.1]; exact i7
  rw [ti_step (by decide) cL (by decide) (by decide) s6 c2 (by decide) (by decide), tk_89, tky σ6 e7 hY]
  have hC6' : MC t n σ0 τ0 (tE t n (tE t n (tE t n p))) (upd i 7 (nI (Y + 1))) c a4 (upd a6 Y (gI σ6 2 6)) b5 (vp_updL b7 Y (gJ σ2 2 9)) f (vp_updL g (48 + (6 + Y)) y) s (sI (sA σ6 36 (upd (gA σ6 36) Y (gI σ6 2 6))) 33 7 (nI (Y + 1))) τ5 := ⟨JC_sI (JC_sA hC6.1 (by decide) _) (by decide) _, ⟨(hC6.2.1.1.sA _ (by decide)).sI _ (Or.inr (by decide)), hC6.2.1.2⟩, (hC6.2.2.1.a36 Y _).i33 7 _, hC6.2.2.2⟩
  refine Out.bind (Out.ckL (Out.ckL (hC6'.num (to := 19416 + Y) (a := 0) (b := 999) (by omega) (by omega) (by omega) (by omega)))) (fun _ => rfl) (fun _ => rfl) ?_
  intro σ7 τ7 hq
  obtain ⟨_, v, v1, v2, v3, v4, v5, hM7⟩ := hq
  have ev : gI σ6 2 6 = nI v := by
    rw [gI_sI, if_neg (by omega)] at v3; exact v3
  rw [ev] at hM7
  dsimp only
  obtain ⟨σ8, s8, hC8⟩ := hM7.step
  show Out σ0 τ0 _ (k_X8_takesItems_2 _ 32 13 (nI 3) σ7) _
  rw [ti_46 s8, CT_8 hC8.1.2.2.1]
  have hl := tW_le t n (tE t n (tE t n (tE t n (tE t n p))))
  have g4 : (upd f (19416 + Y) (nI v)) 19404 = nI Y := by rw [upd_at, if_neg (by omega)]; exact f4
  unfold aKsum
  rw [r_in hM7.1.2.2.2.1 hM7.1.2.1 hM7.1.2.2.2.2.1, bsm]
  have le7 : tE t n p ≤ tE t n (tE t n (tE t n (tE t n p))) := Nat.le_trans (le_tE hM1.1.2.1) (Nat.le_trans (le_tE hM3.1.2.1) (le_tE hM5.1.2.1))
  generalize hp7 : tE t n (tE t n (tE t n (tE t n p))) = p7 at *
  by_cases z : tW t n p7 = 6
  · rw [z]
    simp only [if_neg (show ¬ (6 : Nat) = 26 by decide)]
    rw [if_pos (show nI (cW 6) = 6 from rfl), if_pos (show nI 6 = 6 from rfl), hC8.2.2.1.1, hC8.2.2.1.1]
    rw [show (upd i 7 (nI (Y + 1))) 8 = i 8 from rfl, show (upd i 7 (nI (Y + 1))) 7 = nI (Y + 1) from rfl, show nI (Y + 1) - 1 = nI Y from by rw [show (1 : Int32) = nI 1 from rfl, pk_sub (by omega)]; rfl, stIe, bsm, show (19422 : Int32) + nI Y = nI (19422 + Y) from nI_add 19422 Y, sA1_st (by omega), bsm]
    have hC9 : MC t n σ0 τ0 p7 (upd (upd i 7 (nI (Y + 1))) 8 (i 8 ||| (nI 1 <<< (nI Y &&& nI 31)))) c a4 (upd a6 Y (nI v)) b5 (vp_updL b7 Y (gJ σ2 2 9)) (upd (upd f (19416 + Y) (nI v)) (19422 + Y) (nI 1)) (vp_updL g (48 + (6 + Y)) y) s (sI σ8 33 8 (i 8 ||| (nI 1 <<< (nI Y &&& nI 31)))) (sA τ7 1 (upd (gA τ7 1) (19422 + Y) (nI 1))) := ⟨JC_tA (JC_sI hC8.1 (by decide) _) (by decide) _, ⟨hC8.2.1.1.sI _ (Or.inr (by decide)), hC8.2.1.2.sA1 _ (by omega)⟩, hC8.2.2.1.i33 8 _, hC8.2.2.2.sA (19422 + Y) _⟩
    obtain ⟨τ9, q9, hM9⟩ := hC9.pass
    have q9' : f_X12_ahead 0 (sA τ7 1 (upd (gA τ7 1) (19422 + Y) 1)) = some τ9 := q9
    rw [q9', bsm]
    obtain ⟨σ10, s10, hC10⟩ := hM9.step
    have s10' : f_X6_step 2 (sI σ8 33 8 (i 8 ||| 1 <<< (nI Y &&& 31))) = some σ10 := s10
    rw [s10', bsm]
    refine (key_tail hC10 (Y := Y) hY (by rw [upd_at, if_neg (by omega)]; exact g4)).mono (fun σ1 τ1 hM => ?_)
    exact ⟨_, y, v, _, _, _, hy, by omega, Nat.le_trans le7 (Nat.le_trans (le_tE hM7.1.2.1) (le_tE hM9.1.2.1)), Or.inr ⟨rfl, rfl⟩, hM⟩
  · have z1 : ¬ (if tW t n p7 = 26 then mI else nI (cW (tW t n p7))) = 6 := by
      by_cases z6 : tW t n p7 = 26
      · rw [if_pos z6]; decide
      · rw [if_neg z6]
        intro q
        have hc2 : cW (tW t n p7) < 26 := cW_lt ⟨tW t n p7, by omega⟩
        have q2 := (nI_e (a := cW (tW t n p7)) (b := 6) (by omega) (by omega)).mp q
        exact z (Fin.mk.inj (cW_inj ⟨tW t n p7, by omega⟩ ⟨6, by decide⟩ q2))
    have z2 : ¬ (if tW t n p7 = 26 then mI else nI (tW t n p7)) = 6 := by
      by_cases z6 : tW t n p7 = 26
      · rw [if_pos z6]; decide
      · rw [if_neg z6]
        intro q
        exact z ((nI_e (a := tW t n p7) (b := 6) (by omega) (by omega)).mp q)
    rw [if_neg z1]
    simp only []
    rw [if_neg z2]
    refine (key_tail hC8 (Y := Y) hY g4).mono (fun σ1 τ1 hM => ?_)
    exact ⟨_, y, v, _, _, _, hy, by omega, Nat.le_trans le7 (le_tE hM7.1.2.1), Or.inl ⟨rfl, rfl⟩, hM⟩
end
