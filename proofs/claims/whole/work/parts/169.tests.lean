/-! the tests of a when -/
section
variable {t : Nat → Nat} {n p : Nat} {σ0 τ0 σ τ σ1 τ1 : ST} {I w y k v o m q f q8 : Nat → Int32} {d d21 c22 : Int32} {K Y L : Nat} {Q : ST → ST → Prop} {G : Int32 × ST → Option (Int32 × ST)}
theorem ord_23 (hW : WS K Y σ0 τ0) (hL : L < 60) (hM : MD t n σ0 τ0 p I d w y k v o m q f q8 d21 c22 σ τ) (hw : w L = nI 20) (hf : f (23880 + 6 * L) = nI 1923) (hG : TailOK t n p σ0 τ0 I d w y k v o m q f q8 d21 c22 K Y L (fun z => z = 23) Q G) : Out σ0 τ0 Q (f_X3_takesItems 40 (nI L) 7 σ) (((f_X12_keyTo 0 (nI (23880 + 6 * L + 1)) τ).bind fun u18 => (ckZ u18.1).bind fun z => some (z, u18.2)).bind fun u12 => if u12.1 = 0 then ((ckZ 0).bind fun z => some (z, u12.2)) else G u12) := by
  obtain ⟨e00, e01, e02, e03, e10, e11, e12, e20, e21, e22, e23, e30, e31, e32, e40, e50, e51, e60, e70, e80, e81, e82, e83, e84⟩ := ch_d
  obtain ⟨l0, l1, l2, l3', l4, l5, l6, l7, l8, l9⟩ := ch_l
  obtain ⟨g0, g1, g2, g3, g4, g5, g6, g7, g8, g9⟩ := ch_s
  obtain ⟨F, hF, hF2⟩ : ∃ F, FU = F ∧ 5000 < F := ⟨FU, rfl, by unfold FU; omega⟩
  obtain ⟨F', hF'⟩ : ∃ F', F = F' + 1 + 1 + 1 + 1 + 1 + 1 + 1 := ⟨F - 7, by omega⟩
  unfold f_X3_takesItems
  rw [hF, hF']
  show Out σ0 τ0 Q (k_X3_takesItems_2 _ 40 (nI L) 7 (nI 0) σ) _
  obtain ⟨s1, s1_, hs1⟩ := hM.step
  rw [ts_step (by decide) l7 (by decide) (by decide) s1_ e70, td_107]
  refine Out.bind (Out.ckL (Out.ckR (MDC.tk hW hs1 hL (to := 23880 + 6 * L + 1) (by omega) (by omega)))) (fun _ => rfl) (fun _ => rfl) ?_
  intro σ2 τ2 hq
  obtain ⟨r, r1, _, hM2⟩ := hq
  exact hG 7 1 _ (by decide) l7 (by decide) g7 _ _ _ _ _ _ _ (rowD 23 r 0 0 0) _ _ (le_tE hM.1.2.1) rfl (by
    refine ⟨⟨hw, fun z => by rw [upd_at, if_pos rfl]; rfl, fun z => absurd (show oP 23 = true from z) (by decide), fun z => absurd (show oV 23 = true from z) (by decide), fun z => absurd (show oQ 23 = true from z) (by decide)⟩, ⟨by rw [upd_at, if_neg (by omega)]; exact hf, fun z => by rw [upd_at, if_pos rfl]; rfl, fun z => absurd (show [11, 12, 13, 17].contains 23 = true from z) (by decide), fun z => absurd (show [14, 18, 20].contains 23 = true from z) (by decide), fun z => absurd (show [7, 8, 9, 10, 24, 25].contains 23 = true from z) (by decide), fun z => absurd (show 23 = 17 from z) (by decide), fun z => absurd (show [7, 9, 25].contains 23 = true from z) (by decide), fun z => absurd (show 23 = 25 from z) (by decide)⟩, (show 7 ≤ 23 ∧ 23 ≤ 25 ∧ 23 ≠ 19 by decide), fun z => r1, fun z => absurd (show (23 = 7 ∨ 23 = 8) from z) (by decide), fun z => absurd (show 23 = 9 from z) (by decide), fun z => absurd (show oP 23 = true from z) (by decide), fun z => absurd (show 23 = 17 from z) (by decide), fun z => absurd (show oV 23 = true from z) (by decide), fun z => absurd (show 23 = 18 from z) (by decide), fun z => absurd (show 23 = 20 from z) (by decide), fun z => absurd (show 23 = 25 from z) (by decide)⟩) ⟨fun j hj => ⟨rfl, by rw [upd_at, if_neg hj], rfl, rfl, rfl⟩, fun x hx => by rw [upd_at, if_neg (by omega)]⟩ hM2
theorem ord_24 (hW : WS K Y σ0 τ0) (hL : L < 60) (hM : MD t n σ0 τ0 p I d w y k v o m q f q8 d21 c22 σ τ) (hw : w L = nI 21) (hf : f (23880 + 6 * L) = nI 1924) (hG : TailOK t n p σ0 τ0 I d w y k v o m q f q8 d21 c22 K Y L (fun z => z = 24) Q G) : Out σ0 τ0 Q (f_X3_takesItems 40 (nI L) 4 σ) (((f_X12_keeperTo 0 (nI (23880 + 6 * L + 2)) τ).bind fun u17 => (ckZ u17.1).bind fun z => some (z, u17.2)).bind fun u12 => if u12.1 = 0 then ((ckZ 0).bind fun z => some (z, u12.2)) else G u12) := by
  obtain ⟨e00, e01, e02, e03, e10, e11, e12, e20, e21, e22, e23, e30, e31, e32, e40, e50, e51, e60, e70, e80, e81, e82, e83, e84⟩ := ch_d
  obtain ⟨l0, l1, l2, l3', l4, l5, l6, l7, l8, l9⟩ := ch_l
  obtain ⟨g0, g1, g2, g3, g4, g5, g6, g7, g8, g9⟩ := ch_s
  obtain ⟨F, hF, hF2⟩ : ∃ F, FU = F ∧ 5000 < F := ⟨FU, rfl, by unfold FU; omega⟩
  obtain ⟨F', hF'⟩ : ∃ F', F = F' + 1 + 1 + 1 + 1 + 1 + 1 + 1 := ⟨F - 7, by omega⟩
  unfold f_X3_takesItems
  rw [hF, hF']
  show Out σ0 τ0 Q (k_X3_takesItems_2 _ 40 (nI L) 4 (nI 0) σ) _
  obtain ⟨s1, s1_, hs1⟩ := hM.step
  rw [ts_step (by decide) l4 (by decide) (by decide) s1_ e40, td_112]
  refine Out.bind (Out.ckL (Out.ckR (MDC.tp hW hs1 hL (to := 23880 + 6 * L + 2) (by omega) (by omega)))) (fun _ => rfl) (fun _ => rfl) ?_
  intro σ2 τ2 hq
  obtain ⟨r, r1, _, hM2⟩ := hq
  exact hG 4 1 _ (by decide) l4 (by decide) g4 _ _ _ _ _ _ _ (rowD 24 0 r 0 0) _ _ (le_tE hM.1.2.1) rfl (by
    refine ⟨⟨hw, fun z => absurd (show oY 24 = true from z) (by decide), fun z => by rw [upd_at, if_pos rfl]; rfl, fun z => absurd (show oV 24 = true from z) (by decide), fun z => absurd (show oQ 24 = true from z) (by decide)⟩, ⟨by rw [upd_at, if_neg (by omega)]; exact hf, fun z => absurd (show oY 24 = true from z) (by decide), fun z => absurd (show [11, 12, 13, 17].contains 24 = true from z) (by decide), fun z => absurd (show [14, 18, 20].contains 24 = true from z) (by decide), fun z => by rw [upd_at, if_pos rfl]; rfl, fun z => absurd (show 24 = 17 from z) (by decide), fun z => absurd (show [7, 9, 25].contains 24 = true from z) (by decide), fun z => absurd (show 24 = 25 from z) (by decide)⟩, (show 7 ≤ 24 ∧ 24 ≤ 25 ∧ 24 ≠ 19 by decide), fun z => absurd (show oY 24 = true from z) (by decide), fun z => absurd (show (24 = 7 ∨ 24 = 8) from z) (by decide), fun z => absurd (show 24 = 9 from z) (by decide), fun z => r1, fun z => absurd (show 24 = 17 from z) (by decide), fun z => absurd (show oV 24 = true from z) (by decide), fun z => absurd (show 24 = 18 from z) (by decide), fun z => absurd (show 24 = 20 from z) (by decide), fun z => absurd (show 24 = 25 from z) (by decide)⟩) ⟨fun j hj => ⟨rfl, rfl, by rw [upd_at, if_neg hj], rfl, rfl⟩, fun x hx => by rw [upd_at, if_neg (by omega)]⟩ hM2
theorem ord_25 (hW : WS K Y σ0 τ0) (hL : L < 60) (hM : MD t n σ0 τ0 p I d w y k v o m q f q8 d21 c22 σ τ) (hw : w L = nI 22) (hf : f (23880 + 6 * L) = nI 1925) (hG : TailOK t n p σ0 τ0 I d w y k v o m q f q8 d21 c22 K Y L (fun z => z = 25) Q G) : Out σ0 τ0 Q (f_X3_takesItems 40 (nI L) 8 σ) (((f_X12_keyAt 0 (nI (23880 + 6 * L)) (-1) τ).bind fun u8 => if u8.1 = 0 then ((ckZ 0).bind fun z => some (z, u8.2)) else tcmp (nI (23880 + 6 * L)) u8.2).bind fun u12 => if u12.1 = 0 then ((ckZ 0).bind fun z => some (z, u12.2)) else G u12) := by
  obtain ⟨e00, e01, e02, e03, e10, e11, e12, e20, e21, e22, e23, e30, e31, e32, e40, e50, e51, e60, e70, e80, e81, e82, e83, e84⟩ := ch_d
  obtain ⟨l0, l1, l2, l3', l4, l5, l6, l7, l8, l9⟩ := ch_l
  obtain ⟨g0, g1, g2, g3, g4, g5, g6, g7, g8, g9⟩ := ch_s
  obtain ⟨F, hF, hF2⟩ : ∃ F, FU = F ∧ 5000 < F := ⟨FU, rfl, by unfold FU; omega⟩
  obtain ⟨F', hF'⟩ : ∃ F', F = F' + 1 + 1 + 1 + 1 + 1 + 1 + 1 := ⟨F - 7, by omega⟩
  unfold f_X3_takesItems
  rw [hF, hF']
  show Out σ0 τ0 Q (k_X3_takesItems_2 _ 40 (nI L) 8 (nI 0) σ) _
  rw [ka_m hM.1.2.2.2.1 hM.1.2.1 hM.1.2.2.2.2.1, k51_e]
  simp only [Option.bind_assoc, bind_if]
  obtain ⟨s1, s1_, hs1⟩ := hM.step
  rw [ts_step (by decide) l8 (by decide) (by decide) s1_ e80, td_107]
  refine Out.bind (Out.ckL (MDC.tk hW hs1 hL (to := 23880 + 6 * L + 1) (by omega) (by omega))) (fun _ => rfl) (fun _ => rfl) ?_
  intro σ2 τ2 hq
  obtain ⟨j, j1, _, hM2⟩ := hq
  dsimp only
  obtain ⟨s3, s3_, hs3⟩ := hM2.step
  rw [ts_step (by decide) l8 (by decide) (by decide) s3_ e81, td_64]
  refine Out.bind (Out.ckL (hs3.word (a := 5) (by decide))) (fun _ => rfl) (fun _ => rfl) ?_
  intro σ4 τ4 hM4
  dsimp only
  obtain ⟨s5, s5_, hs5⟩ := hM4.step
  rw [ts_step (by decide) l8 (by decide) (by decide) s5_ e82, td_112]
  refine Out.bind (Out.ckL (MDC.tp hW hs5 hL (to := 23880 + 6 * L + 2) (by omega) (by omega))) (fun _ => rfl) (fun _ => rfl) ?_
  intro σ6 τ6 hq
  obtain ⟨r, r1, _, hM6⟩ := hq
  show Out σ0 τ0 Q _ ((tcmp (nI (23880 + 6 * L)) τ6).bind fun u12 => if u12.1 = 0 then ((ckZ 0).bind fun z => some (z, u12.2)) else G u12)
  dsimp only
  obtain ⟨s7, s7_, hs7⟩ := hM6.step
  rw [ts_step (by decide) l8 (by decide) (by decide) s7_ e83, td_99]
  rcases MDC.tc hs7 hL (nI (23880 + 6 * L)) with ⟨σf, τf, x1, x2, x3⟩ | ⟨c, c1, c2, c3, c4⟩
  · rw [x1, x2]
    exact Or.inr ⟨σf, τf, rfl, rfl, x3⟩
  rw [c3, c4]
  have st5 : stA LR τ6 (LR.2.1 0 0) (nI (23880 + 6 * L) + 5) (gI τ6 0 15) = some (sA τ6 1 (upd (gA τ6 1) (23880 + 6 * L + 5) (nI c))) := by
    rw [show nI (23880 + 6 * L) + 5 = nI (23880 + 6 * L + 5) from by rw [show (5 : Int32) = nI 5 from rfl, nI_add], c2]
    exact sA1_st (by omega) _
  have hC8 : MDC t n σ0 τ0 (tE t n (tE t n (tE t n p))) I d w (upd y L (nI j)) (upd k L (nI r)) v (upd o L (nI c)) m q (upd (upd (upd f (23880 + 6 * L + 1) (nI j)) (23880 + 6 * L + 2) (nI r)) (23880 + 6 * L + 5) (nI c)) q8 d21 c22 (sA s7 46 (upd (gA s7 46) L (nI c))) (sA τ6 1 (upd (gA τ6 1) (23880 + 6 * L + 5) (nI c))) := ⟨JC_tA (JC_sA hs7.1 (by decide) _) (by decide) _, ⟨hs7.2.1.1.sA _ (by decide), hs7.2.1.2.sA1 _ (by omega)⟩, hs7.2.2.1.a46 L (nI c), hs7.2.2.2.sA _ _⟩
  obtain ⟨τ8, p8, hM8⟩ := hC8.pass
  have e118 : k_X12_test_118 0 (nI (23880 + 6 * L)) τ6 = (f_X12_number 0 (nI (23880 + 6 * L + 3)) (nI 0) (nI 99) τ8).bind fun u3 => (ckZ u3.1).bind fun z => some (z, u3.2) := by
    unfold k_X12_test_118
    rw [st5, bsm, p8, bsm, nn3]
    rfl
  rw [e118]
  show Out σ0 τ0 Q (k_X3_takesItems_2 (F' + 1 + 1 + 1) 40 (nI L) 8 (nI 4) (sA s7 46 (upd (gA s7 46) L (nI c)))) _
  obtain ⟨s9, s9_, hs9⟩ := hM8.step
  rw [ts_step (by decide) l8 (by decide) (by decide) s9_ e84, td_110 (a := 0) (b := 99) hL (by rw [hs9.2.2.1.2.2.1]; exact hw) (fun s => Eq.trans rfl rfl) (fun s => Eq.trans rfl rfl)]
  refine Out.bind (Out.ckL (Out.ckR (hs9.num hL (to := 23880 + 6 * L + 3) (a := 0) (b := 99) (by omega) (by omega) (by omega) (by omega)))) (fun _ => rfl) (fun _ => rfl) ?_
  intro σ10 τ10 hq
  obtain ⟨v3, v1, v2, hM10⟩ := hq
  exact hG 8 5 _ (by decide) l8 (by decide) g8 _ _ _ _ _ _ _ (rowD 25 j r v3 c) _ _ (Nat.le_trans (le_tE hM.1.2.1) (Nat.le_trans (le_tE hM2.1.2.1) (Nat.le_trans (le_tE hM4.1.2.1) (Nat.le_trans (le_tE hM6.1.2.1) (le_tE hM8.1.2.1))))) rfl (by
    refine ⟨⟨hw, fun z => by rw [upd_at, if_pos rfl]; rfl, fun z => by rw [upd_at, if_pos rfl]; rfl, fun z => by rw [upd_at, if_pos rfl]; rfl, fun z => by rw [upd_at, if_pos rfl]; rfl⟩, ⟨by rw [upd_at, if_neg (by omega), upd_at, if_neg (by omega), upd_at, if_neg (by omega), upd_at, if_neg (by omega)]; exact hf, fun z => by rw [upd_at, if_neg (by omega), upd_at, if_neg (by omega), upd_at, if_neg (by omega), upd_at, if_pos rfl]; rfl, fun z => absurd (show [11, 12, 13, 17].contains 25 = true from z) (by decide), fun z => absurd (show [14, 18, 20].contains 25 = true from z) (by decide), fun z => by rw [upd_at, if_neg (by omega), upd_at, if_neg (by omega), upd_at, if_pos rfl]; rfl, fun z => absurd (show 25 = 17 from z) (by decide), fun z => by rw [upd_at, if_pos rfl]; rfl, fun z => by rw [upd_at, if_neg (by omega), upd_at, if_pos rfl]; rfl⟩, (show 7 ≤ 25 ∧ 25 ≤ 25 ∧ 25 ≠ 19 by decide), fun z => j1, fun z => absurd (show (25 = 7 ∨ 25 = 8) from z) (by decide), fun z => absurd (show 25 = 9 from z) (by decide), fun z => r1, fun z => absurd (show 25 = 17 from z) (by decide), fun z => (show v3 ≤ 999 by omega), fun z => absurd (show 25 = 18 from z) (by decide), fun z => absurd (show 25 = 20 from z) (by decide), fun z => (show c = 60 ∨ c = 61 ∨ c = 62 from c1)⟩) ⟨fun j hj => ⟨rfl, by rw [upd_at, if_neg hj], by rw [upd_at, if_neg hj], by rw [upd_at, if_neg hj], by rw [upd_at, if_neg hj]⟩, fun x hx => by rw [upd_at, if_neg (by omega), upd_at, if_neg (by omega), upd_at, if_neg (by omega), upd_at, if_neg (by omega)]⟩ hM10
/-- what must be shown of the sign itself -/
def TailS (t : Nat → Nat) (n p : Nat) (σ0 τ0 : ST) (I : Nat → Int32) (d : Int32) (w y k v o m q f q8 : Nat → Int32) (d21 c22 : Int32) (K Y L : Nat) (od : Nat → Prop) (Q : ST → ST → Prop) (G : Int32 × ST → Option (Int32 × ST)) : Prop := ∀ (p' : Nat) (w' y' k' v' o' f' : Nat → Int32) (D : Nat → Nat) (σ1 τ1 : ST), p ≤ p' → od (D 0) → LOKd K Y (gA τ0 1) L w' y' k' v' o' f' D → Chg L w y k v o f w' y' k' v' o' f' → MDC t n σ0 τ0 p' I d w' y' k' v' o' m q f' q8 d21 c22 σ1 τ1 → Out σ0 τ0 Q (f_X6_isSign 2 (nI 59) σ1) (G (nI 1, τ1))
theorem TailS.ok {od : Nat → Prop} (h : TailS t n p σ0 τ0 I d w y k v o m q f q8 d21 c22 K Y L od Q G) : TailOK t n p σ0 τ0 I d w y k v o m q f q8 d21 c22 K Y L od Q G := by
  intro lit i N h1 h2 h3 h4 p' w' y' k' v' o' f' D σ1 τ1 a1 a2 a3 a4 hM
  obtain ⟨s1, s1_, hs1⟩ := hM.step
  rw [ts_step h1 h2 (by omega) h3 s1_ h4, td_59]
  rcases h p' w' y' k' v' o' f' D s1 τ1 a1 a2 a3 a4 hs1 with ⟨σ2, τ2, x1, x2, x3⟩ | ⟨σ2, τ2, x1, x2, x3⟩
  · refine Or.inl ⟨σ2, τ2, ?_, x2, x3⟩
    rw [x1]
    exact ts_end h1 h2 h3
  · refine Or.inr ⟨σ2, τ2, ?_, x2, x3⟩
    rw [x1]
    rfl
theorem TailS.mono {od od2 : Nat → Prop} (h : TailS t n p σ0 τ0 I d w y k v o m q f q8 d21 c22 K Y L od Q G) {p2 : Nat} {w2 f2 : Nat → Int32} (hp : p ≤ p2) (ho : ∀ z, od2 z → od z) (hw : ∀ j, j ≠ L → w2 j = w j) (hf : ∀ x, ¬ (23880 + 6 * L ≤ x ∧ x < 23886 + 6 * L) → f2 x = f x) : TailS t n p2 σ0 τ0 I d w2 y k v o m q f2 q8 d21 c22 K Y L od2 Q G := by
  intro p' w' y' k' v' o' f' D σ1 τ1 a1 a2 a3 a4 hM
  refine h p' w' y' k' v' o' f' D σ1 τ1 (by omega) (ho _ a2) a3 ⟨fun j hj => ?_, fun x hx => ?_⟩ hM
  · have := a4.1 j hj
    rw [hw j hj] at this
    exact this
  · rw [a4.2 x hx, hf x hx]
theorem ckZ_2 (x : Option (Int32 × ST)) : (x.bind fun u => (ckZ u.1).bind fun z => some (z, u.2)).bind (fun u => (ckZ u.1).bind fun z => some (z, u.2)) = x.bind fun u => (ckZ u.1).bind fun z => some (z, u.2) := by
  cases x with
  | none => rfl
  | some u =>
    rw [bsm]
    show ((ckZ u.1).bind fun z => some (z, u.2)).bind _ = _
    unfold ckZ
    split
    · rw [bsm, bsm]
      simp only []
      split
      · rfl
      · rename_i h1 h2; exact absurd h1 h2
    · rfl
theorem k118_ck (a : Int32) (s : ST) : (k_X12_test_118 0 a s).bind (fun u => (ckZ u.1).bind fun z => some (z, u.2)) = k_X12_test_118 0 a s := by
  unfold k_X12_test_118
  cases stA LR s (LR.2.1 0 0) (a + 5) (gI s 0 15) with
  | none => rfl
  | some s1 =>
    rw [bsm]
    cases f_X12_ahead 0 s1 with
    | none => rfl
    | some s2 =>
      rw [bsm]
      exact ckZ_2 _
theorem tcmp_ck (a : Int32) (s : ST) : (tcmp a s).bind (fun u => (ckZ u.1).bind fun z => some (z, u.2)) = tcmp a s := by
  unfold tcmp
  rw [Option.bind_assoc]
  congr 1
  funext u10
  by_cases e : u10.1 = 0
  · simp only [if_pos e]; rw [Option.bind_assoc]
    congr 1
    funext u12
    by_cases e2 : u12.1 = 0
    · simp only [if_pos e2]; rw [Option.bind_assoc]
      congr 1
      funext u14
      by_cases e3 : u14.1 = 0
      · simp only [if_pos e3]; exact ckZ_2 _
      · simp only [if_neg e3]; exact k118_ck _ _
    · simp only [if_neg e2]; exact k118_ck _ _
  · simp only [if_neg e]; exact k118_ck _ _
theorem kt_ck (a : Int32) (s : ST) : ((f_X12_keyAt 0 a (-1) s).bind fun u8 => if u8.1 = 0 then ((ckZ 0).bind fun z => some (z, u8.2)) else tcmp a u8.2).bind (fun u => (ckZ u.1).bind fun z => some (z, u.2)) = (f_X12_keyAt 0 a (-1) s).bind fun u8 => if u8.1 = 0 then ((ckZ 0).bind fun z => some (z, u8.2)) else tcmp a u8.2 := by
  rw [Option.bind_assoc]
  congr 1
  funext u8
  by_cases e : u8.1 = 0
  · simp only [if_pos e]; rfl
  · simp only [if_neg e]; exact tcmp_ck _ _
theorem ord_19 (hW : WS K Y σ0 τ0) (hL : L < 60) (hM : MD t n σ0 τ0 p I d w y k v o m q f q8 d21 c22 σ τ) (hG : TailS t n p σ0 τ0 I d w y k v o m q f q8 d21 c22 K Y L (fun z => z = 23 ∨ z = 24 ∨ z = 25) Q G) : Out σ0 τ0 Q ((f_X6_step 2 σ).bind fun u6 => (f_X3_isTest (gI u6 2 8) u6).bind fun u7 => if u7.1 = 0 then ((f_X6_blame 2 2 u7.2).bind fun u10 => (ckZ u10.1).bind fun z => some (z, u10.2)) else ((stA LC u7.2 42 (nI L) (gI u7.2 2 8)).bind fun σ9 => k_X3_takesStep_127 40 (nI L) σ9)) ((f_X12_order 0 (nI 19) (nI (23880 + 6 * L)) τ).bind fun u12 => if u12.1 = 0 then ((ckZ 0).bind fun z => some (z, u12.2)) else G u12) := by
  obtain ⟨s1, s1_, hs1⟩ := hM.step
  have h8 := CT_8 hs1.1.2.2.1
  have hin := r_in hs1.1.2.2.2.1 hs1.1.2.1 hs1.1.2.2.2.2.1
  have hl := tW_le t n p
  have ord : f_X12_order 0 (nI 19) (nI (23880 + 6 * L)) τ = (f_X12_test 0 (nI (23880 + 6 * L)) τ).bind fun u31 => (ckZ u31.1).bind fun z => some (z, u31.2) := by
    unfold f_X12_order
    rw [if_neg (show ¬ nI 19 = 7 by decide), if_neg (show ¬ nI 19 = 8 by decide), if_neg (show ¬ nI 19 = 9 by decide), if_neg (show ¬ nI 19 = 10 by decide), if_neg (show ¬ nI 19 = 11 by decide), if_neg (show ¬ nI 19 = 12 by decide), if_neg (show ¬ nI 19 = 13 by decide), if_neg (show ¬ nI 19 = 14 by decide), if_neg (show ¬ nI 19 = 15 by decide), if_neg (show ¬ nI 19 = 16 by decide), if_neg (show ¬ nI 19 = 17 by decide), if_neg (show ¬ nI 19 = 18 by decide), if_pos (show nI 19 = 19 from rfl)]
  rw [ord, s1_, bsm]
  unfold f_X12_test
  rw [hin, bsm, h8]
  by_cases w23 : tW t n p = 23
  · rw [w23, if_pos (show ((if (23 : Nat) = 26 then mI else nI 23, τ) : Int32 × ST).1 = 23 from rfl)]
    simp only [if_neg (show ¬ (23 : Nat) = 26 by decide)]
    have it : ∀ s : ST, f_X3_isTest (nI (cW 23)) s = some (nI 1, s) := fun s => Eq.trans rfl rfl
    have hC : MDC t n σ0 τ0 p I d (upd w L (nI 20)) y k v o m q (upd f (23880 + 6 * L) (nI 1923)) q8 d21 c22 (sA s1 42 (upd (gA s1 42) L (nI 20))) (sA τ 1 (upd (gA τ 1) (23880 + 6 * L) (nI 1923))) := ⟨JC_tA (JC_sA hs1.1 (by decide) _) (by decide) _, ⟨hs1.2.1.1.sA _ (by decide), hs1.2.1.2.sA1 _ (by omega)⟩, hs1.2.2.1.a42 L _, hs1.2.2.2.sA _ _⟩
    obtain ⟨τ2, p2, hM2⟩ := hC.pass
    have e127 : k_X3_takesStep_127 40 (nI L) (sA s1 42 (upd (gA s1 42) L (nI 20))) = (f_X3_takesItems 40 (nI L) 7 (sA s1 42 (upd (gA s1 42) L (nI 20)))).bind fun u3 => (ckZ u3.1).bind fun z => some (z, u3.2) := by
      unfold k_X3_takesStep_127
      rw [show LC.2.1 40 0 = 41 from rfl, show LC.2.1 41 0 = 42 from rfl, la 60 rfl hL (by decide), bsm, gA_sA, if_pos rfl, upd_at, if_pos rfl, show f_X3_itemsOf (nI 20) (sA s1 42 (upd (gA s1 42) L (nI 20))) = some (7, sA s1 42 (upd (gA s1 42) L (nI 20))) from Eq.trans rfl rfl, bsm]
      rfl
    have st : stA LC s1 42 (nI L) (gI s1 2 8) = some (sA s1 42 (upd (gA s1 42) L (nI 20))) := by
      rw [h8, w23, if_neg (by decide)]
      exact sa 60 rfl hL (by decide)
    have sr : stA LR τ (LR.2.1 0 0) (nI (23880 + 6 * L)) (1900 + nI 23) = some (sA τ 1 (upd (gA τ 1) (23880 + 6 * L) (nI 1923))) := sA1_st (by omega) _
    rw [it, bsm, if_neg (show ¬ ((nI 1, s1) : Int32 × ST).1 = 0 from fun z => absurd (show nI 1 = 0 from z) (by decide))]
    simp only []
    rw [st, bsm, e127]
    unfold k_X12_test_31
    rw [sr, bsm, p2, bsm, if_pos (show nI 23 = 23 from rfl), nn1]
    refine Out.ckL ?_
    have hT := (hG.mono (od2 := fun z => z = 23) (w2 := upd w L (nI 20)) (f2 := upd f (23880 + 6 * L) (nI 1923)) (le_tE (t := t) hM.1.2.1) (fun z hz => by omega) (fun j hj => by rw [upd_at, if_neg hj]) (fun x hx => by rw [upd_at, if_neg (by omega)])).ok
    have hfin := ord_23 hW hL hM2 (by rw [upd_at, if_pos rfl]) (by rw [upd_at, if_pos rfl]) hT
    rw [ckZ_2]
    exact hfin
  by_cases w24 : tW t n p = 24
  · rw [w24, if_neg (show ¬ ((if (24 : Nat) = 26 then mI else nI 24, τ) : Int32 × ST).1 = 23 from fun z => absurd (show nI 24 = 23 from z) (by decide)), if_pos (show ((if (24 : Nat) = 26 then mI else nI 24, τ) : Int32 × ST).1 = 24 from rfl)]
    simp only [if_neg (show ¬ (24 : Nat) = 26 by decide)]
    have it : ∀ s : ST, f_X3_isTest (nI (cW 24)) s = some (nI 1, s) := fun s => Eq.trans rfl rfl
    have hC : MDC t n σ0 τ0 p I d (upd w L (nI 21)) y k v o m q (upd f (23880 + 6 * L) (nI 1924)) q8 d21 c22 (sA s1 42 (upd (gA s1 42) L (nI 21))) (sA τ 1 (upd (gA τ 1) (23880 + 6 * L) (nI 1924))) := ⟨JC_tA (JC_sA hs1.1 (by decide) _) (by decide) _, ⟨hs1.2.1.1.sA _ (by decide), hs1.2.1.2.sA1 _ (by omega)⟩, hs1.2.2.1.a42 L _, hs1.2.2.2.sA _ _⟩
    obtain ⟨τ2, p2, hM2⟩ := hC.pass
    have e127 : k_X3_takesStep_127 40 (nI L) (sA s1 42 (upd (gA s1 42) L (nI 21))) = (f_X3_takesItems 40 (nI L) 4 (sA s1 42 (upd (gA s1 42) L (nI 21)))).bind fun u3 => (ckZ u3.1).bind fun z => some (z, u3.2) := by
      unfold k_X3_takesStep_127
      rw [show LC.2.1 40 0 = 41 from rfl, show LC.2.1 41 0 = 42 from rfl, la 60 rfl hL (by decide), bsm, gA_sA, if_pos rfl, upd_at, if_pos rfl, show f_X3_itemsOf (nI 21) (sA s1 42 (upd (gA s1 42) L (nI 21))) = some (4, sA s1 42 (upd (gA s1 42) L (nI 21))) from Eq.trans rfl rfl, bsm]
      rfl
    have st : stA LC s1 42 (nI L) (gI s1 2 8) = some (sA s1 42 (upd (gA s1 42) L (nI 21))) := by
      rw [h8, w24, if_neg (by decide)]
      exact sa 60 rfl hL (by decide)
    have sr : stA LR τ (LR.2.1 0 0) (nI (23880 + 6 * L)) (1900 + nI 24) = some (sA τ 1 (upd (gA τ 1) (23880 + 6 * L) (nI 1924))) := sA1_st (by omega) _
    rw [it, bsm, if_neg (show ¬ ((nI 1, s1) : Int32 × ST).1 = 0 from fun z => absurd (show nI 1 = 0 from z) (by decide))]
    simp only []
    rw [st, bsm, e127]
    unfold k_X12_test_31
    rw [sr, bsm, p2, bsm, if_neg (show ¬ nI 24 = 23 by decide), if_pos (show nI 24 = 24 from rfl), nn2]
    refine Out.ckL ?_
    have hT := (hG.mono (od2 := fun z => z = 24) (w2 := upd w L (nI 21)) (f2 := upd f (23880 + 6 * L) (nI 1924)) (le_tE (t := t) hM.1.2.1) (fun z hz => by omega) (fun j hj => by rw [upd_at, if_neg hj]) (fun x hx => by rw [upd_at, if_neg (by omega)])).ok
    have hfin := ord_24 hW hL hM2 (by rw [upd_at, if_pos rfl]) (by rw [upd_at, if_pos rfl]) hT
    rw [ckZ_2]
    exact hfin
  by_cases w25 : tW t n p = 25
  · rw [w25, if_neg (show ¬ ((if (25 : Nat) = 26 then mI else nI 25, τ) : Int32 × ST).1 = 23 from fun z => absurd (show nI 25 = 23 from z) (by decide)), if_neg (show ¬ ((if (25 : Nat) = 26 then mI else nI 25, τ) : Int32 × ST).1 = 24 from fun z => absurd (show nI 25 = 24 from z) (by decide)), if_pos (show ((if (25 : Nat) = 26 then mI else nI 25, τ) : Int32 × ST).1 = 25 from rfl)]
    simp only [if_neg (show ¬ (25 : Nat) = 26 by decide)]
    have it : ∀ s : ST, f_X3_isTest (nI (cW 25)) s = some (nI 1, s) := fun s => Eq.trans rfl rfl
    have hC : MDC t n σ0 τ0 p I d (upd w L (nI 22)) y k v o m q (upd f (23880 + 6 * L) (nI 1925)) q8 d21 c22 (sA s1 42 (upd (gA s1 42) L (nI 22))) (sA τ 1 (upd (gA τ 1) (23880 + 6 * L) (nI 1925))) := ⟨JC_tA (JC_sA hs1.1 (by decide) _) (by decide) _, ⟨hs1.2.1.1.sA _ (by decide), hs1.2.1.2.sA1 _ (by omega)⟩, hs1.2.2.1.a42 L _, hs1.2.2.2.sA _ _⟩
    obtain ⟨τ2, p2, hM2⟩ := hC.pass
    have e127 : k_X3_takesStep_127 40 (nI L) (sA s1 42 (upd (gA s1 42) L (nI 22))) = (f_X3_takesItems 40 (nI L) 8 (sA s1 42 (upd (gA s1 42) L (nI 22)))).bind fun u3 => (ckZ u3.1).bind fun z => some (z, u3.2) := by
      unfold k_X3_takesStep_127
      rw [show LC.2.1 40 0 = 41 from rfl, show LC.2.1 41 0 = 42 from rfl, la 60 rfl hL (by decide), bsm, gA_sA, if_pos rfl, upd_at, if_pos rfl, show f_X3_itemsOf (nI 22) (sA s1 42 (upd (gA s1 42) L (nI 22))) = some (8, sA s1 42 (upd (gA s1 42) L (nI 22))) from Eq.trans rfl rfl, bsm]
      rfl
    have st : stA LC s1 42 (nI L) (gI s1 2 8) = some (sA s1 42 (upd (gA s1 42) L (nI 22))) := by
      rw [h8, w25, if_neg (by decide)]
      exact sa 60 rfl hL (by decide)
    have sr : stA LR τ (LR.2.1 0 0) (nI (23880 + 6 * L)) (1900 + nI 25) = some (sA τ 1 (upd (gA τ 1) (23880 + 6 * L) (nI 1925))) := sA1_st (by omega) _
    rw [it, bsm, if_neg (show ¬ ((nI 1, s1) : Int32 × ST).1 = 0 from fun z => absurd (show nI 1 = 0 from z) (by decide))]
    simp only []
    rw [st, bsm, e127]
    unfold k_X12_test_31
    rw [sr, bsm, p2, bsm, if_neg (show ¬ nI 25 = 23 by decide), if_neg (show ¬ nI 25 = 24 by decide)]
    refine Out.ckL ?_
    have hT := (hG.mono (od2 := fun z => z = 25) (w2 := upd w L (nI 22)) (f2 := upd f (23880 + 6 * L) (nI 1925)) (le_tE (t := t) hM.1.2.1) (fun z hz => by omega) (fun j hj => by rw [upd_at, if_neg hj]) (fun x hx => by rw [upd_at, if_neg (by omega)])).ok
    have hfin := ord_25 hW hL hM2 (by rw [upd_at, if_pos rfl]) (by rw [upd_at, if_pos rfl]) hT
    refine Eq.mp (congrArg (fun z => Out σ0 τ0 Q (f_X3_takesItems 40 (nI L) 8 (sA s1 42 (upd (gA s1 42) L (nI 22)))) (Option.bind z (fun u12 => if u12.1 = 0 then ((ckZ 0).bind fun z => some (z, u12.2)) else G u12))) (kt_ck (nI (23880 + 6 * L)) τ2).symm) hfin
  have ne : ∀ a, a < 26 → a ≠ tW t n p → ¬ (if tW t n p = 26 then mI else nI (tW t n p)) = nI a := fun a ha hne z => by
    by_cases z6 : tW t n p = 26
    · rw [if_pos z6, mI_nI (by omega)] at z; exact z
    · rw [if_neg z6, nI_e (by omega) (by omega)] at z; omega
  have ne2 : ∀ a, a < 26 → a ≠ tW t n p → ¬ (if tW t n p = 26 then mI else nI (cW (tW t n p))) = nI (cW a) := fun a ha hne z => by
    have hc : cW a < 26 := cW_lt ⟨a, ha⟩
    by_cases z6 : tW t n p = 26
    · rw [if_pos z6, mI_nI (by omega)] at z; exact z
    · have hc2 : cW (tW t n p) < 26 := cW_lt ⟨tW t n p, by omega⟩
      rw [if_neg z6, nI_e (by omega) (by omega)] at z
      exact hne (Fin.mk.inj (cW_inj ⟨a, ha⟩ ⟨tW t n p, by omega⟩ z.symm))
  obtain ⟨σf, τf, b1, b2, b3⟩ := both_fail hs1.1 hs1.2.1 (k := 2) (by omega) (by omega)
  have b1' : f_X6_blame 2 2 s1 = some (nI 0, σf) := b1
  have b2' : f_X12_fails 0 2 τ = some (nI 0, τf) := b2
  refine Or.inr ⟨σf, τf, ?_, ?_, b3⟩
  · unfold f_X3_isTest
    rw [if_neg (show ¬ (if tW t n p = 26 then mI else nI (cW (tW t n p))) = 20 from ne2 23 (by decide) (fun z => w23 z.symm)), if_neg (show ¬ (if tW t n p = 26 then mI else nI (cW (tW t n p))) = 21 from ne2 24 (by decide) (fun z => w24 z.symm)), if_neg (show ¬ (if tW t n p = 26 then mI else nI (cW (tW t n p))) = 22 from ne2 25 (by decide) (fun z => w25 z.symm))]
    show (f_X6_blame 2 2 s1).bind _ = _
    rw [b1']; rfl
  · simp only []
    rw [if_neg (show ¬ (if tW t n p = 26 then mI else nI (tW t n p)) = 23 from ne 23 (by decide) (fun z => w23 z.symm)), if_neg (show ¬ (if tW t n p = 26 then mI else nI (tW t n p)) = 24 from ne 24 (by decide) (fun z => w24 z.symm)), if_neg (show ¬ (if tW t n p = 26 then mI else nI (tW t n p)) = 25 from ne 25 (by decide) (fun z => w25 z.symm)), b2']
    rfl
end
