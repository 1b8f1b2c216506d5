/-! items of days, by their letters -/
theorem td_64 (l : Int32) (σ : ST) : f_X3_takesItem 40 l (nI 64) σ = (f_X6_isOwnWord 2 (nI (cW 5)) σ).bind fun u => (ckZ u.1).bind fun z => some (z, u.2) := by
  unfold f_X3_takesItem
  rw [if_pos (show nI 64 = 64 from rfl)]
  try rfl
theorem td_59 (l : Int32) (σ : ST) : f_X3_takesItem 40 l (nI 59) σ = (f_X6_isSign 2 (nI 59) σ).bind fun u => (ckZ u.1).bind fun z => some (z, u.2) := by
  unfold f_X3_takesItem
  rw [if_neg (show ¬ nI 59 = 64 by decide), if_neg (show ¬ nI 59 = 99 by decide), if_neg (show ¬ nI 59 = 107 by decide), if_neg (show ¬ nI 59 = 110 by decide), if_neg (show ¬ nI 59 = 111 by decide), if_neg (show ¬ nI 59 = 112 by decide), if_neg (show ¬ nI 59 = 115 by decide), if_neg (show ¬ nI 59 = 118 by decide)]
  try rfl
theorem td_107 (l : Int32) (σ : ST) : f_X3_takesItem 40 l (nI 107) σ = ((f_X7_keyNamed 5 (gJ σ 2 9) σ).bind fun u => (stA LC u.2 43 l u.1).bind fun σ8 => (ldA LC σ8 43 l).bind fun a9 => f_X3_isKeyName 40 a9 σ8).bind fun u => (ckZ u.1).bind fun z => some (z, u.2) := by
  unfold f_X3_takesItem
  rw [if_neg (show ¬ nI 107 = 64 by decide), if_neg (show ¬ nI 107 = 99 by decide), if_pos (show nI 107 = 107 from rfl), show LC.2.1 40 0 = 41 from rfl, show LC.2.1 40 1 = 2 from rfl, show LC.2.1 40 2 = 5 from rfl, show LC.2.1 41 1 = 43 from rfl, Option.bind_assoc]
  congr 1
  funext u
  rw [Option.bind_assoc]
  congr 1
  funext u2
  rw [Option.bind_assoc]
theorem td_111 (l : Int32) (σ : ST) : f_X3_takesItem 40 l (nI 111) σ = ((f_X7_keeperNamed 5 (gJ σ 2 9) σ).bind fun u => (stA LC u.2 46 l u.1).bind fun σ8 => (ldA LC σ8 46 l).bind fun a9 => f_X3_isKeeperName 40 a9 σ8).bind fun u => (ckZ u.1).bind fun z => some (z, u.2) := by
  unfold f_X3_takesItem
  rw [if_neg (show ¬ nI 111 = 64 by decide), if_neg (show ¬ nI 111 = 99 by decide), if_neg (show ¬ nI 111 = 107 by decide), if_neg (show ¬ nI 111 = 110 by decide), if_pos (show nI 111 = 111 from rfl), show LC.2.1 40 0 = 41 from rfl, show LC.2.1 40 1 = 2 from rfl, show LC.2.1 40 2 = 5 from rfl, show LC.2.1 41 4 = 46 from rfl, Option.bind_assoc]
  congr 1
  funext u
  rw [Option.bind_assoc]
  congr 1
  funext u2
  rw [Option.bind_assoc]
theorem td_112 (l : Int32) (σ : ST) : f_X3_takesItem 40 l (nI 112) σ = ((f_X7_keeperNamed 5 (gJ σ 2 9) σ).bind fun u => (stA LC u.2 44 l u.1).bind fun σ8 => (ldA LC σ8 44 l).bind fun a9 => f_X3_isKeeperName 40 a9 σ8).bind fun u => (ckZ u.1).bind fun z => some (z, u.2) := by
  unfold f_X3_takesItem
  rw [if_neg (show ¬ nI 112 = 64 by decide), if_neg (show ¬ nI 112 = 99 by decide), if_neg (show ¬ nI 112 = 107 by decide), if_neg (show ¬ nI 112 = 110 by decide), if_neg (show ¬ nI 112 = 111 by decide), if_pos (show nI 112 = 112 from rfl), show LC.2.1 40 0 = 41 from rfl, show LC.2.1 40 1 = 2 from rfl, show LC.2.1 40 2 = 5 from rfl, show LC.2.1 41 2 = 44 from rfl, Option.bind_assoc]
  congr 1
  funext u
  rw [Option.bind_assoc]
  congr 1
  funext u2
  rw [Option.bind_assoc]
theorem td_99 (l : Int32) (σ : ST) : f_X3_takesItem 40 l (nI 99) σ = ((stA LC σ 46 l (gI σ 2 7)).bind fun σ4 => f_X3_isCompares 40 σ4).bind fun u => (ckZ u.1).bind fun z => some (z, u.2) := by
  unfold f_X3_takesItem
  rw [if_neg (show ¬ nI 99 = 64 by decide), if_pos (show nI 99 = 99 from rfl), show LC.2.1 40 0 = 41 from rfl, show LC.2.1 40 1 = 2 from rfl, show LC.2.1 41 4 = 46 from rfl, Option.bind_assoc]
theorem td_110 {l x a b : Nat} {σ : ST} (hl : l < 60) (hw : gA σ 42 l = nI x) (h1 : ∀ s, f_X3_leastFor (nI x) s = some (nI a, s)) (h2 : ∀ s, f_X3_mostFor (nI x) s = some (nI b, s)) : f_X3_takesItem 40 (nI l) (nI 110) σ = (f_X6_isNumberFrom 2 (nI a) (nI b) (sA σ 45 (upd (gA σ 45) l (gI σ 2 6)))).bind fun u => (ckZ u.1).bind fun z => some (z, u.2) := by
  have hw' : gA (sA σ 45 (upd (gA σ 45) l (gI σ 2 6))) 42 l = nI x := by rw [gA_sA, if_neg (by decide)]; exact hw
  unfold f_X3_takesItem
  rw [if_neg (show ¬ nI 110 = 64 by decide), if_neg (show ¬ nI 110 = 99 by decide), if_neg (show ¬ nI 110 = 107 by decide), if_pos (show nI 110 = 110 from rfl), show LC.2.1 40 0 = 41 from rfl, show LC.2.1 40 1 = 2 from rfl, show LC.2.1 41 3 = 45 from rfl, show LC.2.1 41 0 = 42 from rfl, sa 60 rfl hl (by decide), bsm, la 60 rfl hl (by decide), bsm, hw', h1, bsm]
  simp only []
  rw [la 60 rfl hl (by decide), bsm, hw', h2, bsm]
theorem td_115 (l : Int32) (σ : ST) : f_X3_takesItem 40 l (nI 115) σ = ((f_X7_keyNamed 5 (gJ σ 2 9) σ).bind fun u => (stA LC u.2 43 l u.1).bind fun σ8 => (ldA LC σ8 43 l).bind fun a9 => f_X3_isKeyName 40 a9 σ8).bind fun u32 => if u32.1 = 0 then (some (nI 0, u32.2)) else ((ldA LC u32.2 43 l).bind fun a34 => (f_X3_isSumOrNot 40 a34 (nI 1) u32.2).bind fun u35 => if u35.1 = 0 then (some (nI 0, u35.2)) else (some (nI 1, u35.2))) := by
  unfold f_X3_takesItem
  rw [if_neg (show ¬ nI 115 = 64 by decide), if_neg (show ¬ nI 115 = 99 by decide), if_neg (show ¬ nI 115 = 107 by decide), if_neg (show ¬ nI 115 = 110 by decide), if_neg (show ¬ nI 115 = 111 by decide), if_neg (show ¬ nI 115 = 112 by decide), if_pos (show nI 115 = 115 from rfl), show LC.2.1 40 0 = 41 from rfl, show LC.2.1 40 1 = 2 from rfl, show LC.2.1 40 2 = 5 from rfl, show LC.2.1 41 1 = 43 from rfl, Option.bind_assoc]
  congr 1
  funext u
  rw [Option.bind_assoc]
  congr 1
  funext u2
  rw [Option.bind_assoc]
  rfl
theorem td_118 (l : Int32) (σ : ST) : f_X3_takesItem 40 l (nI 118) σ = ((f_X7_keyNamed 5 (gJ σ 2 9) σ).bind fun u => (stA LC u.2 43 l u.1).bind fun σ8 => (ldA LC σ8 43 l).bind fun a9 => f_X3_isKeyName 40 a9 σ8).bind fun u32 => if u32.1 = 0 then (some (nI 0, u32.2)) else ((ldA LC u32.2 43 l).bind fun a34 => (f_X3_isSumOrNot 40 a34 (nI 0) u32.2).bind fun u35 => if u35.1 = 0 then (some (nI 0, u35.2)) else (some (nI 1, u35.2))) := by
  unfold f_X3_takesItem
  rw [if_neg (show ¬ nI 118 = 64 by decide), if_neg (show ¬ nI 118 = 99 by decide), if_neg (show ¬ nI 118 = 107 by decide), if_neg (show ¬ nI 118 = 110 by decide), if_neg (show ¬ nI 118 = 111 by decide), if_neg (show ¬ nI 118 = 112 by decide), if_neg (show ¬ nI 118 = 115 by decide), if_pos (show nI 118 = 118 from rfl), show LC.2.1 40 0 = 41 from rfl, show LC.2.1 40 1 = 2 from rfl, show LC.2.1 40 2 = 5 from rfl, show LC.2.1 41 1 = 43 from rfl, Option.bind_assoc]
  congr 1
  funext u
  rw [Option.bind_assoc]
  congr 1
  funext u2
  rw [Option.bind_assoc]
  rfl
theorem ts_step {l i N L c j : Nat} {σ σ1 : ST} (hl : l < 15) (hL : lenS.getD l 0 = L) (hi : i < L) (hL2 : L < 134) (hs : f_X6_step 2 σ = some σ1) (hc : chN l i = c) : k_X3_takesItems_2 (N + 1) 40 (nI j) l (nI i) σ = (f_X3_takesItem 40 (nI j) (nI c) σ1).bind fun u5 => if u5.1 = 0 then ((ckZ 0).bind fun z => some (z, u5.2)) else (k_X3_takesItems_2 N 40 (nI j) l (nI (i + 1)) u5.2) := by
  rw [k_X3_takesItems_2, c_length hl, bsm, hL]
  simp only []
  rw [if_neg (by rw [nI_leE (by omega) (by omega)]; omega), show LC.2.1 40 1 = 2 from rfl, hs, bsm, c_charAt hl (by omega) (by omega), bsm, hc]
  simp only []
  rw [show nI i + 1 = nI (i + 1) from by rw [show (1 : Int32) = nI 1 from rfl, nI_add]]
theorem ts_end {l N L j : Nat} {σ : ST} (hl : l < 15) (hL : lenS.getD l 0 = L) (hL2 : L < 134) : k_X3_takesItems_2 (N + 1) 40 (nI j) l (nI L) σ = some (nI 1, σ) := by
  rw [k_X3_takesItems_2, c_length hl, bsm, hL]
  simp only []
  rw [if_pos (by rw [nI_leE (by omega) (by omega)]; exact Nat.le_refl _)]
  rfl
theorem c_isSum5 {j : Nat} (hj : j < 32) (σ : ST) : f_X7_isSum 5 (nI j) σ = some (bI (bt (gI σ 5 8) j), σ) := by
  have n10 : (nI 1 = nI 0) = False := eq_false (by decide)
  cases e : bt (gI σ 5 8) j
  · simp (disch := omega) only [↓mI_e, lit, ofN, bsm, nI_add, pk_mul, pk_sub, nI_e, nI_leE, nI_ltE, nI_mI, mI_nI, mI_lt, nlt_mI, mI_le, nle_mI, nI_addm, sh_b, bI_0, bI_1, bI_bI, ckZ_b, ckZ_n0, ckZ_n1, stIe, stJe, stZ_n0, stZ_n1, rm_nI, dv_nI, if_true, if_false, if_pos, if_neg, rf0, rf1, rf5, rf6, rf7, rf8, rf9, rf20, rf23, rf24, rf25, rf26, rf29, rf31, rf33, rf34, rf35, rf37, rf38, rf41, rf42, rf43,  f_X7_isSum, k_X7_isSum_16, e, bI_f]
  · simp (disch := omega) only [↓mI_e, lit, ofN, bsm, nI_add, pk_mul, pk_sub, nI_e, nI_leE, nI_ltE, nI_mI, mI_nI, mI_lt, nlt_mI, mI_le, nle_mI, nI_addm, sh_b, bI_0, bI_1, bI_bI, ckZ_b, ckZ_n0, ckZ_n1, stIe, stJe, stZ_n0, stZ_n1, rm_nI, dv_nI, if_true, if_false, if_pos, if_neg, rf0, rf1, rf5, rf6, rf7, rf8, rf9, rf20, rf23, rf24, rf25, rf26, rf29, rf31, rf33, rf34, rf35, rf37, rf38, rf41, rf42, rf43,  f_X7_isSum, k_X7_isSum_16, e, bI_t, n10]
section
variable {t : Nat → Nat} {n p : Nat} {σ0 τ0 σ τ σ1 τ1 : ST} {I w y k v o m q f q8 : Nat → Int32} {d d21 c22 : Int32} {K Y l : Nat}
/-- a key that must be a sum, or none -/
theorem MDC.tv (hW : WS K Y σ0 τ0) (h : MDC t n σ0 τ0 p I d w y k v o m q f q8 d21 c22 σ τ) (hl : l < 60) (b : Bool) {r : Nat} (h1 : 19400 ≤ r) (hto : r + 6 < 29600) : (∃ σf τf, (((f_X7_keyNamed 5 (gJ σ 2 9) σ).bind fun u => (stA LC u.2 43 (nI l) u.1).bind fun σ8 => (ldA LC σ8 43 (nI l)).bind fun a9 => f_X3_isKeyName 40 a9 σ8).bind fun u32 => if u32.1 = 0 then (some (nI 0, u32.2)) else ((ldA LC u32.2 43 (nI l)).bind fun a34 => (f_X3_isSumOrNot 40 a34 (bI b) u32.2).bind fun u35 => if u35.1 = 0 then (some (nI 0, u35.2)) else (some (nI 1, u35.2)))) = some (nI 0, σf) ∧ f_X12_keyAt 0 (nI r) (bI b) τ = some (nI 0, τf) ∧ FF σ0 τ0 σf τf) ∨ (f_X12_keyAt 0 (nI r) (bI b) τ = k_X12_keyAt_51 0 (nI r) τ ∧ Out σ0 τ0 (fun σ1 τ1 => ∃ j, j < Y ∧ gA τ0 1 (22 + j) = bI b ∧ MD t n σ0 τ0 (tE t n p) I d w (upd y l (nI j)) k v o m q (upd f (r + 1) (nI j)) q8 d21 c22 σ1 τ1) (((f_X7_keyNamed 5 (gJ σ 2 9) σ).bind fun u => (stA LC u.2 43 (nI l) u.1).bind fun σ8 => (ldA LC σ8 43 (nI l)).bind fun a9 => f_X3_isKeyName 40 a9 σ8).bind fun u32 => if u32.1 = 0 then (some (nI 0, u32.2)) else ((ldA LC u32.2 43 (nI l)).bind fun a34 => (f_X3_isSumOrNot 40 a34 (bI b) u32.2).bind fun u35 => if u35.1 = 0 then (some (nI 0, u35.2)) else (some (nI 1, u35.2)))) (f_X12_keyTo 0 (nI (r + 1)) τ)) := by
  obtain ⟨n1, n2, n3, n4, n5, n6⟩ := WS_n hW h.2.1
  have hp := h.1.2.1
  have c5 : ∀ s', Fr2 σ0 τ0 s' τ → gI s' 5 8 = gI σ0 5 8 := fun s' hs => (hs.1.1.1 5 (by decide) (by omega)).1 8
  have f22 : ∀ j, j < 6 → gA τ 1 (22 + j) = gA τ0 1 (22 + j) := fun j hj => h.2.1.2.1.2.2.2.1 _ (by omega)
  have mt : ∀ j, j < Y → ((bt (gI σ0 5 8) j = b) ↔ gA τ0 1 (22 + j) = bI b) := fun j hj => by
    rw [hW.2.2.2.2.2.2.2.2.1 j hj]
    rcases hW.2.2.2.2.2.2.2.2.2 j hj with z | z <;> rw [z] <;> cases b <;> decide
  have rn := r_isName h.1.2.2.2.1 hp h.1.2.2.2.2.1
  have d4 : ldA LR τ (LR.2.1 0 0) 4 = some (nI Y) := (ldA1 (τ := τ) (k := 4) (by decide)).trans (by rw [n4])
  have bm : ¬ bI b = -1 := by cases b <;> decide
  have e1 : f_X7_keyNamed 5 (gJ σ 2 9) σ = some (fR (fun j => decide (gB σ 9 j = gJ σ 2 9)) Y, σ) := c_keyNamed (x := 5) (y := 9) (gJ σ 2 9) rfl rfl n2 hW.2.1
  by_cases bad : isNm t n p = true ∧ ∃ j, j < Y ∧ fR (fun j => decide (gB σ 9 j = gJ σ 2 9)) Y = nI j ∧ ¬ gA τ0 1 (22 + j) = bI b
  · obtain ⟨hN, j, hj, hR, hb⟩ := bad
    have hj6 : j < 6 := by have := hW.2.1; omega
    have h9 := CT_9 h.1.2.2.1
    rw [if_pos hN] at h9
    obtain ⟨l1, l2, l3'⟩ := nm_ok hp hN
    have e2 : fR (fun j => decide (gB σ 9 j = gJ σ 2 9)) Y = fR (fun j => decide (gB τ 2 (6 + j) = Int64.ofNat (n256 (nmL t n p)))) Y := fR_congr (fun j hj => by
      rw [h9]
      exact decide_eq_decide.mpr (nm_eq (n6 j hj) l1 l2 l3'))
    have r1 : f_X12_findHere 0 6 (nI Y) τ = some (fR (fun j => decide (gB τ 2 (6 + j) = Int64.ofNat (n256 (nmL t n p)))) Y, τ) := r_findHere (b := 6) h.1.2.2.2.1 hp h.1.2.2.2.2.1 hN (by have := hW.2.1; omega)
    rw [← e2, hR] at r1
    have hJ' : JC t n p (sA σ 43 (upd (gA σ 43) l (nI j))) τ := JC_sA h.1 (by decide) _
    have hF' : Fr2 σ0 τ0 (sA σ 43 (upd (gA σ 43) l (nI j))) τ := ⟨h.2.1.1.sA _ (by decide), h.2.1.2⟩
    obtain ⟨σf, τf, b1, b2, b3⟩ := both_fail hJ' hF' (k := 5) (by omega) (by omega)
    have b1' : f_X6_blame 2 5 (sA σ 43 (upd (gA σ 43) l (nI j))) = some (nI 0, σf) := b1
    have b2' : f_X12_fails 0 5 τ = some (nI 0, τf) := b2
    have cin := c_isName hJ'.2.2.1 hp
    rw [if_pos hN] at cin
    have nm : ¬ nI j = -1 := fun z => by
      have z2 : nI j = mI := z
      rw [nI_mI (by omega)] at z2; exact z2
    have ik : f_X3_isKeyName 40 (nI j) (sA σ 43 (upd (gA σ 43) l (nI j))) = some (nI 1, sA σ 43 (upd (gA σ 43) l (nI j))) := by
      unfold f_X3_isKeyName
      rw [show LC.2.1 40 1 = 2 from rfl, cin, bsm, if_neg (show ¬ ((nI 1, sA σ 43 (upd (gA σ 43) l (nI j))) : Int32 × ST).1 = 0 from fun z => absurd (show nI 1 = 0 from z) (by decide)), if_neg nm]
      rfl
    refine Or.inl ⟨σf, τf, ?_, ?_, b3⟩
    · rw [e1, bsm, hR]
      simp only []
      rw [sa 60 rfl hl (by decide), bsm, la 60 rfl hl (by decide), bsm, gA_sA, if_pos rfl, upd_at, if_pos rfl, ik, bsm, if_neg (show ¬ ((nI 1, sA σ 43 (upd (gA σ 43) l (nI j))) : Int32 × ST).1 = 0 from fun z => absurd (show nI 1 = 0 from z) (by decide))]
      simp only []
      rw [la 60 rfl hl (by decide), bsm, gA_sA, if_pos rfl, upd_at, if_pos rfl]
      unfold f_X3_isSumOrNot
      rw [show LC.2.1 40 2 = 5 from rfl, show LC.2.1 40 1 = 2 from rfl, c_isSum5 (by omega), bsm, c5 _ hF', if_neg (show ¬ ((bI (bt (gI σ0 5 8) j), sA σ 43 (upd (gA σ 43) l (nI j))) : Int32 × ST).1 = bI b from fun z => hb ((mt j hj).mp (by have z2 : bI (bt (gI σ0 5 8) j) = bI b := z; rw [bI_bI] at z2; exact z2)))]
      simp only []
      rw [b1']
      rfl
    · unfold f_X12_keyAt
      rw [rn, hN, bsm, if_neg (show ¬ ((bI true, τ) : Int32 × ST).1 = 0 from fun z => absurd (show bI true = 0 from z) (by decide)), if_neg bm]
      simp only []
      rw [d4, bsm, r1, bsm]
      simp only []
      rw [if_neg nm, show (22 : Int32) + nI j = nI (22 + j) from nI_add 22 j, ldA1 (by omega), bsm, f22 j hj6, if_neg hb, b2']
      rfl
  · refine Or.inr ⟨?_, ?_⟩
    · unfold f_X12_keyAt
      rw [rn, bsm]
      by_cases hN : isNm t n p = true
      · have h9 := CT_9 h.1.2.2.1
        rw [if_pos hN] at h9
        obtain ⟨l1, l2, l3'⟩ := nm_ok hp hN
        have e2 : fR (fun j => decide (gB σ 9 j = gJ σ 2 9)) Y = fR (fun j => decide (gB τ 2 (6 + j) = Int64.ofNat (n256 (nmL t n p)))) Y := fR_congr (fun j hj => by
          rw [h9]
          exact decide_eq_decide.mpr (nm_eq (n6 j hj) l1 l2 l3'))
        have r1 : f_X12_findHere 0 6 (nI Y) τ = some (fR (fun j => decide (gB τ 2 (6 + j) = Int64.ofNat (n256 (nmL t n p)))) Y, τ) := r_findHere (b := 6) h.1.2.2.2.1 hp h.1.2.2.2.2.1 hN (by have := hW.2.1; omega)
        rw [← e2] at r1
        rw [hN, if_neg (show ¬ ((bI true, τ) : Int32 × ST).1 = 0 from fun z => absurd (show bI true = 0 from z) (by decide)), if_neg bm]
        simp only []
        rw [d4, bsm, r1, bsm]
        simp only []
        rcases fR_cs (fun j => decide (gB σ 9 j = gJ σ 2 9)) Y with ⟨z, _⟩ | ⟨j, z1, z, _⟩
        · rw [z, if_pos (show mI = -1 from rfl)]
        · have hj6 : j < 6 := by have := hW.2.1; omega
          rw [z, if_neg (fun z => by
            have z2 : nI j = mI := z
            rw [nI_mI (by omega)] at z2; exact z2), show (22 : Int32) + nI j = nI (22 + j) from nI_add 22 j, ldA1 (by omega), bsm, f22 j hj6, if_pos ?_]
          by_cases e : gA τ0 1 (22 + j) = bI b
          · exact e
          · exact absurd ⟨hN, j, z1, z, e⟩ bad
      · have hN2 : isNm t n p = false := by cases q : isNm t n p <;> simp_all
        rw [hN2, if_pos (show ((bI false, τ) : Int32 × ST).1 = 0 from rfl)]
    · rcases MDC.tk hW h hl (to := r + 1) (by omega) (by omega) with ⟨σ2, τ2, a1, a2, j, j1, j2, j3⟩ | ⟨σ2, τ2, a1, a2, a3⟩
      · have hm : gA τ0 1 (22 + j) = bI b := by
          by_cases e : gA τ0 1 (22 + j) = bI b
          · exact e
          · exact absurd ⟨j2.1, j, j1, j2.2, e⟩ bad
        refine Or.inl ⟨σ2, τ2, ?_, a2, j, j1, hm, j3⟩
        rw [a1, bsm, if_neg (show ¬ ((nI 1, σ2) : Int32 × ST).1 = 0 from fun z => absurd (show nI 1 = 0 from z) (by decide))]
        simp only []
        rw [la 60 rfl hl (by decide), bsm, j3.2.2.1.2.2.2.1, upd_at, if_pos rfl]
        unfold f_X3_isSumOrNot
        have hj6 : j < 6 := by have := hW.2.1; omega
        rw [show LC.2.1 40 2 = 5 from rfl, c_isSum5 (by omega), bsm, (j3.2.1.1.1.1 5 (by decide) (by omega)).1 8, if_pos (show ((bI (bt (gI σ0 5 8) j), σ2) : Int32 × ST).1 = bI b from by show bI (bt (gI σ0 5 8) j) = bI b; rw [(mt j j1).mpr hm])]
        rfl
      · refine Or.inr ⟨σ2, τ2, ?_, a2, a3⟩
        rw [a1, bsm, if_pos (show ((nI 0, σ2) : Int32 × ST).1 = 0 from rfl)]
/-- a sign that compares -/
def tcmp (v1 : Int32) (u8 : ST) : Option (Int32 × ST) := (f_X12_isSign 0 60 u8).bind fun u10 =>
  if u10.1 = 0 then ((f_X12_isSign 0 62 u10.2).bind fun u12 =>
  if u12.1 = 0 then ((f_X12_isSign 0 61 u12.2).bind fun u14 =>
  if u14.1 = 0 then ((f_X12_fails 0 2 u14.2).bind fun u16 =>
  (ckZ u16.1).bind fun z => some (z, u16.2)) else (k_X12_test_118 0 v1 u14.2)) else (k_X12_test_118 0 v1 u12.2)) else (k_X12_test_118 0 v1 u10.2)
theorem MDC.tc (h : MDC t n σ0 τ0 p I d w y k v o m q f q8 d21 c22 σ τ) (hl : l < 60) (v1 : Int32) : (∃ σf τf, ((stA LC σ 46 (nI l) (gI σ 2 7)).bind fun σ4 => f_X3_isCompares 40 σ4) = some (nI 0, σf) ∧ tcmp v1 τ = some (nI 0, τf) ∧ FF σ0 τ0 σf τf) ∨ (∃ c, (c = 60 ∨ c = 61 ∨ c = 62) ∧ gI τ 0 15 = nI c ∧ ((stA LC σ 46 (nI l) (gI σ 2 7)).bind fun σ4 => f_X3_isCompares 40 σ4) = some (nI 1, sA σ 46 (upd (gA σ 46) l (nI c))) ∧ tcmp v1 τ = k_X12_test_118 0 v1 τ) := by
  have k4 : (nI (tK t n p) = (4 : Int32)) = (tK t n p = 4) := nI_e (b := 4) (by have := tK_le t n p; omega) (by omega)
  have c4 := ck_e t n p (k := 4) (by omega)
  have hJ' : JC t n p (sA σ 46 (upd (gA σ 46) l (gI σ 2 7))) τ := JC_sA h.1 (by decide) _
  have hF' : Fr2 σ0 τ0 (sA σ 46 (upd (gA σ 46) l (gI σ 2 7))) τ := ⟨h.2.1.1.sA _ (by decide), h.2.1.2⟩
  obtain ⟨σf, τf, b1, b2, b3⟩ := both_fail hJ' hF' (k := 2) (by omega) (by omega)
  have b1' : f_X6_blame 2 2 (sA σ 46 (upd (gA σ 46) l (gI σ 2 7))) = some (nI 0, σf) := b1
  have b2' : f_X12_fails 0 2 τ = some (nI 0, τf) := b2
  have w23 : k_X3_isCompares_23 40 (sA σ 46 (upd (gA σ 46) l (gI σ 2 7))) = some (nI 0, σf) := by
    unfold k_X3_isCompares_23
    rw [show LC.2.1 40 1 = 2 from rfl, b1']; rfl
  have sg : ∀ a : Nat, a < 256 → f_X12_isSign 0 (nI a) τ = some (bI (decide (tK t n p = 4 ∧ t (tF t n p) = a)), τ) := fun a ha => by
    unfold f_X12_isSign
    rw [h.1.2.2.2.2.1.1]
    by_cases z : tK t n p = 4
    · have hl : t (tF t n p) < 256 := by
        refine (h.1.1.2.2 _ ?_).2
        have := tF_sp t h.1.2.1
        by_cases e : n ≤ tF t n p
        · unfold tK at z; rw [if_pos e] at z; exact absurd z (by decide)
        · omega
      rw [if_pos (by rw [k4]; exact z), h.1.2.2.2.2.1.2.2.2.2 z]
      by_cases e : t (tF t n p) = a
      · rw [if_pos (by rw [e]), decide_eq_true ⟨z, e⟩]; rfl
      · rw [if_neg (by rw [nI_e (by omega) (by omega)]; exact e), decide_eq_false (fun y => e y.2)]; rfl
    · rw [if_neg (by rw [k4]; exact z), decide_eq_false (fun y => z y.1)]; rfl
  have s60 : f_X12_isSign 0 60 τ = _ := sg 60 (by omega)
  have s61 : f_X12_isSign 0 61 τ = _ := sg 61 (by omega)
  have s62 : f_X12_isSign 0 62 τ = _ := sg 62 (by omega)
  have B0 : ∀ {α : Type} (s' : ST) (X Y : α), (if ((bI false, s') : Int32 × ST).1 = 0 then X else Y) = X := fun s' X Y => if_pos rfl
  have B1 : ∀ {α : Type} (s' : ST) (X Y : α), (if ((bI true, s') : Int32 × ST).1 = 0 then X else Y) = Y := fun s' X Y => if_neg (fun z => absurd (show bI true = 0 from z) (by decide))
  rw [sa 60 rfl hl (by decide), bsm]
  unfold f_X3_isCompares tcmp
  rw [show LC.2.1 40 1 = 2 from rfl, hJ'.2.2.1.1, s60, bsm]
  by_cases z : tK t n p = 4
  · have h7 : gI σ 2 7 = nI (t (tF t n p)) := h.1.2.2.1.2.2.2.2.1 z
    have h7' : gI (sA σ 46 (upd (gA σ 46) l (gI σ 2 7))) 2 7 = nI (t (tF t n p)) := h7
    have h15 := h.1.2.2.2.2.1.2.2.2.2 z
    have hsg : t (tF t n p) = 59 ∨ t (tF t n p) = 60 ∨ t (tF t n p) = 62 ∨ t (tF t n p) = 61 := by
      have z' := z
      unfold tK at z'
      split at z'
      · exact absurd z' (by decide)
      · split at z'
        · exact absurd z' (by decide)
        · split at z'
          · split at z' <;> exact absurd z' (by decide)
          · split at z'
            · rename_i hs; exact of_decide_eq_true hs
            · exact absurd z' (by decide)
    rw [if_pos (show nI (ckd (tK t n p)) = 3 by rw [z]; rfl), h7']
    by_cases e59 : t (tF t n p) = 59
    · rw [if_pos (show nI (t (tF t n p)) = 59 by rw [e59]; rfl), decide_eq_false (fun y => by have := y.2; omega), B0]
      simp only []
      rw [s62, bsm, decide_eq_false (fun y => by have := y.2; omega), B0]
      simp only []
      rw [s61, bsm, decide_eq_false (fun y => by have := y.2; omega), B0]
      simp only []
      rw [b2']
      exact Or.inl ⟨σf, τf, w23, rfl, b3⟩
    · rw [if_neg (show ¬ nI (t (tF t n p)) = 59 from fun y => e59 ((nI_e (a := t (tF t n p)) (b := 59) (by omega) (by omega)).mp y))]
      refine Or.inr ⟨t (tF t n p), by omega, h15, ?_, ?_⟩
      · rw [h7]; rfl
      · by_cases e60 : t (tF t n p) = 60
        · rw [decide_eq_true ⟨z, e60⟩, B1]
        · rw [decide_eq_false (fun y => e60 y.2), B0]
          simp only []
          rw [s62, bsm]
          by_cases e62 : t (tF t n p) = 62
          · rw [decide_eq_true ⟨z, e62⟩, B1]
          · rw [decide_eq_false (fun y => e62 y.2), B0]
            simp only []
            rw [s61, bsm, decide_eq_true ⟨z, by omega⟩, B1]
  · rw [if_neg (show ¬ nI (ckd (tK t n p)) = 3 from fun y => z (by rw [← c4]; exact y)), decide_eq_false (fun y => z y.1), B0]
    simp only []
    rw [s62, bsm, decide_eq_false (fun y => z y.1), B0]
    simp only []
    rw [s61, bsm, decide_eq_false (fun y => z y.1), B0]
    simp only []
    rw [b2']
    exact Or.inl ⟨σf, τf, w23, rfl, b3⟩
end
