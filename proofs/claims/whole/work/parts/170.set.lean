/-! the names of a part -/
section
variable {t : Nat → Nat} {n p : Nat} {σ0 τ0 σ τ σ1 τ1 : ST} {I w y k v o m q f q8 : Nat → Int32} {d d21 c22 : Int32} {K Y L : Nat} {Q : ST → ST → Prop} {G : Int32 × ST → Option (Int32 × ST)}
def SetI (K c : Nat) (S : Int32) : Prop := (∀ b, bt S b = true → b < K) ∧ cnt (bt S) K = c
theorem set_name (hW : WS K Y σ0 τ0) (h : MDC t n σ0 τ0 p I d w y k v o m q f q8 d21 c22 σ τ) (hL : L < 60) (hN : isNm t n p = true) {S : Int32} {c : Nat} (hS : f (23880 + 6 * L + 1) = S) (hI : SetI K c S) (hc : c ≤ 6) (rec4 : Nat → Int32 → Int32 → Int32 → ST → Option (Int32 × ST)) (N : Nat) : (∃ σf τf, k_X3_takesSet_52 rec4 40 (nI L) S (nI c) σ = some (nI 0, σf) ∧ k_X12_some_24 (N + 1) 0 (nI (23880 + 6 * L)) τ = some (nI 0, τf) ∧ FF σ0 τ0 σf τf) ∨ (∃ S' τ1, SetI K (c + 1) S' ∧ c + 1 ≤ 6 ∧ k_X3_takesSet_52 rec4 40 (nI L) S (nI c) σ = rec4 40 (nI L) S' (nI (c + 1)) σ ∧ k_X12_some_24 (N + 1) 0 (nI (23880 + 6 * L)) τ = k_X12_some_24 N 0 (nI (23880 + 6 * L)) τ1 ∧ MD t n σ0 τ0 (tE t n p) I d w y k v o m q (upd f (23880 + 6 * L + 1) S') q8 d21 c22 σ τ1) := by
  obtain ⟨n1, n2, n3, n4, n5, n6⟩ := WS_n hW h.2.1
  have hp := h.1.2.1
  have hK := hW.1
  have e1 : f_X7_keeperNamed 5 (gJ σ 2 9) σ = some (fR (fun j => decide (gB σ 7 j = gJ σ 2 9)) K, σ) := c_keeperNamed (x := 5) (y := 7) (gJ σ 2 9) rfl rfl n1 hW.1
  have h9 := CT_9 h.1.2.2.1
  have rn := r_isName h.1.2.2.2.1 hp h.1.2.2.2.2.1
  have cin := c_isName h.1.2.2.1 hp
  rw [if_pos hN] at h9 cin
  rw [hN] at rn
  obtain ⟨l1, l2, l3'⟩ := nm_ok hp hN
  have e2 : fR (fun j => decide (gB σ 7 j = gJ σ 2 9)) K = fR (fun j => decide (gB τ 2 (0 + j) = Int64.ofNat (n256 (nmL t n p)))) K := fR_congr (fun j hj => by
    rw [h9]
    exact decide_eq_decide.mpr (nm_eq (n5 j hj) l1 l2 l3'))
  have r1 : f_X12_findHere 0 0 (nI K) τ = some (fR (fun j => decide (gB τ 2 (0 + j) = Int64.ofNat (n256 (nmL t n p)))) K, τ) := r_findHere (b := 0) h.1.2.2.2.1 hp h.1.2.2.2.2.1 hN (by omega)
  rw [← e2] at r1
  have d3 : ldA LR τ (LR.2.1 0 0) 3 = some (nI K) := (ldA1 (τ := τ) (k := 3) (by decide)).trans (by rw [n3])
  have dS : ldA LR τ (LR.2.1 0 0) (nI (23880 + 6 * L) + 1) = some S := by
    rw [nn1]
    refine (ldA1 (by omega)).trans ?_
    rw [h.2.2.2.1, hS]
  have c52 : k_X3_takesSet_52 rec4 40 (nI L) S (nI c) σ = (f_X3_isKeeperName 40 (fR (fun j => decide (gB σ 7 j = gJ σ 2 9)) K) σ).bind fun u2 => if u2.1 = 0 then ((ckZ 0).bind fun z => some (z, u2.2)) else (if ((S >>> ((fR (fun j => decide (gB σ 7 j = gJ σ 2 9)) K) &&& 31)) &&& 1) = 0 then (rec4 40 (nI L) (S ||| (1 <<< ((fR (fun j => decide (gB σ 7 j = gJ σ 2 9)) K) &&& 31))) (nI c + 1) u2.2) else ((f_X6_blame 2 5 u2.2).bind fun u5 => (ckZ u5.1).bind fun z => some (z, u5.2))) := by
    unfold k_X3_takesSet_52
    rw [show LC.2.1 40 2 = 5 from rfl, show LC.2.1 40 1 = 2 from rfl, e1, bsm]
  have c24 : k_X12_some_24 (N + 1) 0 (nI (23880 + 6 * L)) τ = if fR (fun j => decide (gB σ 7 j = gJ σ 2 9)) K = -1 then ((f_X12_fails 0 3 τ).bind fun u12 => (ckZ u12.1).bind fun z => some (z, u12.2)) else (if ((S >>> ((fR (fun j => decide (gB σ 7 j = gJ σ 2 9)) K) &&& 31)) &&& 1) = 1 then ((f_X12_fails 0 5 τ).bind fun u11 => (ckZ u11.1).bind fun z => some (z, u11.2)) else ((stA LR τ (LR.2.1 0 0) (nI (23880 + 6 * L) + 1) (S ||| (1 <<< ((fR (fun j => decide (gB σ 7 j = gJ σ 2 9)) K) &&& 31)))).bind fun σ9 => (f_X12_ahead 0 σ9).bind fun u10 => k_X12_some_24 N 0 (nI (23880 + 6 * L)) u10)) := by
    rw [k_X12_some_24, rn, bsm, if_neg (show ¬ ((bI true, τ) : Int32 × ST).1 = 0 from fun z => absurd (show bI true = 0 from z) (by decide))]
    simp only []
    rw [d3, bsm, r1, bsm]
    simp only []
    rw [dS, bsm, bsm]
  rcases fR_cs (fun j => decide (gB σ 7 j = gJ σ 2 9)) K with ⟨z, _⟩ | ⟨j, j1, z, _⟩
  · obtain ⟨σf, τf, b1, b2, b3⟩ := both_fail h.1 h.2.1 (k := 3) (by omega) (by omega)
    have b1' : f_X6_blame 2 3 σ = some (nI 0, σf) := b1
    have b2' : f_X12_fails 0 3 τ = some (nI 0, τf) := b2
    refine Or.inl ⟨σf, τf, ?_, ?_, b3⟩
    · rw [c52, z]
      unfold f_X3_isKeeperName
      rw [show LC.2.1 40 1 = 2 from rfl, cin, bsm, if_neg (show ¬ ((nI 1, σ) : Int32 × ST).1 = 0 from fun z => absurd (show nI 1 = 0 from z) (by decide)), if_pos (show mI = -1 from rfl)]
      simp only []
      rw [b1']; rfl
    · rw [c24, z, if_pos (show mI = -1 from rfl), b2']; rfl
  · have nm : ¬ nI j = -1 := fun z => by
      have z2 : nI j = mI := z
      rw [nI_mI (by omega)] at z2; exact z2
    have ik : f_X3_isKeeperName 40 (nI j) σ = some (nI 1, σ) := by
      unfold f_X3_isKeeperName
      rw [show LC.2.1 40 1 = 2 from rfl, cin, bsm, if_neg (show ¬ ((nI 1, σ) : Int32 × ST).1 = 0 from fun z => absurd (show nI 1 = 0 from z) (by decide)), if_neg nm]
      rfl
    have hb : (S >>> (nI j &&& 31)) &&& 1 = bI (bt S j) := sh_b S (by omega)
    rw [c52, c24, z, ik, bsm, if_neg (show ¬ ((nI 1, σ) : Int32 × ST).1 = 0 from fun z => absurd (show nI 1 = 0 from z) (by decide)), if_neg nm, hb]
    simp only []
    cases eb : bt S j
    · rw [if_pos (show bI false = 0 from rfl), if_neg (show ¬ bI false = 1 by decide)]
      have hC : MDC t n σ0 τ0 p I d w y k v o m q (upd f (23880 + 6 * L + 1) (S ||| (nI 1 <<< (nI j &&& nI 31)))) q8 d21 c22 σ (sA τ 1 (upd (gA τ 1) (23880 + 6 * L + 1) (S ||| (nI 1 <<< (nI j &&& nI 31))))) := ⟨JC_tA h.1 (by decide) _, ⟨h.2.1.1, h.2.1.2.sA1 _ (by omega)⟩, h.2.2.1, h.2.2.2.sA _ _⟩
      obtain ⟨τ2, p2, hM2⟩ := hC.pass
      have hcnt : cnt (bt (S ||| (nI 1 <<< (nI j &&& nI 31)))) K = cnt (bt S) K + 1 := by
        rw [cnt_rem (q := bt (S ||| (nI 1 <<< (nI j &&& nI 31)))) (j := j) (by rw [bt_ins _ (by omega), decide_eq_true rfl, Bool.or_true]) K j1]
        congr 1
        refine cnt_congr K (fun a ha => ?_)
        rw [bt_ins _ (by omega)]
        by_cases e : a = j
        · rw [e, eb, decide_eq_true rfl]; rfl
        · rw [decide_eq_false e, Bool.or_false]; simp
      have hle := cnt_le (bt (S ||| (nI 1 <<< (nI j &&& nI 31)))) K
      refine Or.inr ⟨S ||| (nI 1 <<< (nI j &&& nI 31)), τ2, ⟨fun b hb => ?_, by rw [hcnt, hI.2]⟩, by have := hI.2; omega, ?_, ?_, hM2⟩
      · rw [bt_ins _ (by omega)] at hb
        rcases Bool.or_eq_true _ _ ▸ hb with x | x
        · exact hI.1 b x
        · have := of_decide_eq_true x; omega
      · rw [show nI c + 1 = nI (c + 1) from by rw [show (1 : Int32) = nI 1 from rfl, nI_add]]
        rfl
      · rw [nn1]
        have st : stA LR τ (LR.2.1 0 0) (nI (23880 + 6 * L + 1)) (S ||| 1 <<< (nI j &&& 31)) = some (sA τ 1 (upd (gA τ 1) (23880 + 6 * L + 1) (S ||| (nI 1 <<< (nI j &&& nI 31))))) := sA1_st (by omega) _
        rw [st, bsm, p2, bsm]
    · rw [if_neg (show ¬ bI true = 0 by decide), if_pos (show bI true = 1 from rfl)]
      obtain ⟨σf, τf, b1, b2, b3⟩ := both_fail h.1 h.2.1 (k := 5) (by omega) (by omega)
      have b1' : f_X6_blame 2 5 σ = some (nI 0, σf) := b1
      have b2' : f_X12_fails 0 5 τ = some (nI 0, τf) := b2
      rw [b1', b2']
      exact Or.inl ⟨σf, τf, rfl, rfl, b3⟩
theorem set_lt {c : Nat} {S : Int32} (hK : K ≤ 6) (h : SetI K c S) : vN S < 64 := by
  refine Nat.lt_pow_two_of_testBit (n := 6) (vN S) (fun i hi => ?_)
  cases e : (vN S).testBit i
  · rfl
  · have := h.1 i e; omega
theorem set_nz {c : Nat} {S : Int32} (h : SetI K c S) (hc : 1 ≤ c) : ¬ S = 0 := fun z => by
  have h2 := h.2
  rw [z] at h2
  have : cnt (bt (0 : Int32)) K = 0 := by
    have e : ∀ a, cnt (bt (0 : Int32)) a = 0 := fun a => by
      induction a with
      | zero => rfl
      | succ a ih => rw [cnt_sf (show bt (0 : Int32) a = false from bt_n0 a), ih]
    exact e K
  omega
theorem c_sign_no {t : Nat → Nat} {n p : Nat} {σ : ST} (h : CT σ t n p) (z : tK t n p ≠ 4) (c : Int32) : f_X6_isSign 2 c σ = some (nI 0, sI (sI σ 2 2 (nI (blK t n p 2))) 2 3 (nI (tF t n p))) := by
  have c4 := ck_e t n p (k := 4) (by omega)
  have b1 : f_X6_blame 2 2 σ = some (nI 0, sI (sI σ 2 2 (nI (blK t n p 2))) 2 3 (nI (tF t n p))) := c_blame h 2
  unfold f_X6_isSign
  rw [h.1, if_neg (show ¬ nI (ckd (tK t n p)) = 3 from fun y => z (by rw [← c4]; exact y))]
  unfold k_X6_isSign_16
  rw [b1]; rfl
theorem set_base (hW : WS K Y σ0 τ0) (hL : L < 60) (hG : TailS t n p σ0 τ0 I d w y k v o m q f q8 d21 c22 K Y L (fun z => z = 14) Q G) (hw : w L = nI 14) (hf : f (23880 + 6 * L) = nI 14) {c : Nat} {S : Int32} {p2 N1 N2 : Nat} {f2 : Nat → Int32} (hp : p ≤ p2) (hc1 : 1 ≤ c) (hc6 : c ≤ 6) (hS : SetI K c S) (hfS : f2 (23880 + 6 * L + 1) = S) (hff : ∀ x, x ≠ 23880 + 6 * L + 1 → f2 x = f x) (hM : MD t n σ0 τ0 p2 I d w y k v o m q f2 q8 d21 c22 σ τ) (hN : isNm t n p2 = false) : Out σ0 τ0 Q (k_X3_takesSet_4 (N1 + 1) 40 (nI L) S (nI c) σ) (((k_X12_some_24 (N2 + 1) 0 (nI (23880 + 6 * L)) τ).bind fun u => (ckZ u.1).bind fun z => some (z, u.2)).bind fun u12 => if u12.1 = 0 then ((ckZ 0).bind fun z => some (z, u12.2)) else G u12) := by
  obtain ⟨s1, s1_, hs1⟩ := hM.step
  have hK := hW.1
  have hv := set_lt hK hS
  have rn := r_isName hM.1.2.2.2.1 hM.1.2.1 hM.1.2.2.2.2.1
  rw [hN] at rn
  have eR : ((k_X12_some_24 (N2 + 1) 0 (nI (23880 + 6 * L)) τ).bind fun u => (ckZ u.1).bind fun z => some (z, u.2)).bind (fun u12 => if u12.1 = 0 then ((ckZ 0).bind fun z => some (z, u12.2)) else G u12) = G (nI 1, τ) := by
    rw [k_X12_some_24, rn, bsm, if_pos (show ((bI false, τ) : Int32 × ST).1 = 0 from rfl)]
    rfl
  have hC : MDC t n σ0 τ0 p2 I d w y k (upd v L S) o m q f2 q8 d21 c22 (sA s1 45 (upd (gA s1 45) L S)) τ := ⟨JC_sA hs1.1 (by decide) _, ⟨hs1.2.1.1.sA _ (by decide), hs1.2.1.2⟩, hs1.2.2.1.a45 L S, hs1.2.2.2⟩
  have hg := hG p2 w y k (upd v L S) o f2 (rowD 14 0 0 (vN S) 0) _ τ hp rfl (by
    refine ⟨⟨hw, fun z => absurd (show oY 14 = true from z) (by decide), fun z => absurd (show oP 14 = true from z) (by decide), fun z => by rw [upd_at, if_pos rfl]; exact (nI_vN S).symm, fun z => absurd (show oQ 14 = true from z) (by decide)⟩, ⟨by rw [hff _ (by omega)]; exact hf, fun z => absurd (show oY 14 = true from z) (by decide), fun z => absurd (show [11, 12, 13, 17].contains 14 = true from z) (by decide), fun z => by rw [hfS]; exact (nI_vN S).symm, fun z => absurd (show [7, 8, 9, 10, 24, 25].contains 14 = true from z) (by decide), fun z => absurd (show 14 = 17 from z) (by decide), fun z => absurd (show [7, 9, 25].contains 14 = true from z) (by decide), fun z => absurd (show 14 = 25 from z) (by decide)⟩, (show 7 ≤ 14 ∧ 14 ≤ 25 ∧ 14 ≠ 19 by decide), fun z => absurd (show oY 14 = true from z) (by decide), fun z => absurd (show (14 = 7 ∨ 14 = 8) from z) (by decide), fun z => absurd (show 14 = 9 from z) (by decide), fun z => absurd (show oP 14 = true from z) (by decide), fun z => absurd (show 14 = 17 from z) (by decide), fun z => (show vN S ≤ 999 by omega), fun z => absurd (show 14 = 18 from z) (by decide), fun z => absurd (show 14 = 20 from z) (by decide), fun z => absurd (show 14 = 25 from z) (by decide)⟩) ⟨fun j hj => ⟨rfl, rfl, rfl, by rw [upd_at, if_neg hj], rfl⟩, fun x hx => hff x (by omega)⟩ hC
  have c4 := ck_e t n p2 (k := 4) (by omega)
  rw [eR, k_X3_takesSet_4, if_neg (fun z => by have := (nI_ltE (a := 6) (b := c) (by omega) (by omega)).mp z; omega), show LC.2.1 40 1 = 2 from rfl, s1_, bsm, if_neg (set_nz hS hc1), hs1.1.2.2.1.1]
  by_cases z : tK t n p2 = 4
  · rw [if_pos (show nI (ckd (tK t n p2)) = 3 by rw [z]; rfl), show LC.2.1 40 0 = 41 from rfl, show LC.2.1 41 3 = 45 from rfl, sa 60 rfl hL (by decide), bsm]
    exact Out.ckL hg
  · rw [if_neg (show ¬ nI (ckd (tK t n p2)) = 3 from fun y => z (by rw [← c4]; exact y))]
    have cin := c_isName hs1.1.2.2.1 hs1.1.2.1
    rw [if_neg (by rw [hN]; decide)] at cin
    obtain ⟨n1, _⟩ := WS_n hW hs1.2.1
    have e1 : f_X7_keeperNamed 5 (gJ s1 2 9) s1 = some (fR (fun j => decide (gB s1 7 j = gJ s1 2 9)) K, s1) := c_keeperNamed (x := 5) (y := 7) (gJ s1 2 9) rfl rfl n1 hW.1
    have e52 : k_X3_takesSet_52 (k_X3_takesSet_4 N1) 40 (nI L) S (nI c) s1 = some (nI 0, sI (sI s1 2 2 (nI (blK t n p2 2))) 2 3 (nI (tF t n p2))) := by
      unfold k_X3_takesSet_52
      rw [show LC.2.1 40 2 = 5 from rfl, show LC.2.1 40 1 = 2 from rfl, e1, bsm]
      unfold f_X3_isKeeperName
      rw [show LC.2.1 40 1 = 2 from rfl, cin, bsm, if_pos (show ((nI 0, sI (sI s1 2 2 (nI (blK t n p2 2))) 2 3 (nI (tF t n p2))) : Int32 × ST).1 = 0 from rfl)]
      rfl
    have sn := c_sign_no hC.1.2.2.1 z (nI 59)
    rcases hg with ⟨σ2, τ2, x1, x2, x3⟩ | ⟨σ2, τ2, x1, x2, ⟨⟨a, a1, a2, a3, a4⟩, a5, a6, a7⟩⟩
    · rw [sn] at x1
      exact absurd (Prod.mk.inj (Option.some.inj x1)).1 (by decide)
    · rw [sn] at x1
      have e2 := (Prod.mk.inj (Option.some.inj x1)).2
      refine Or.inr ⟨_, τ2, e52, x2, ⟨a, a1, a2, ?_, a4⟩, ?_, (hs1.2.1.1.1.sI _ (by decide)).sI _ (by decide), a7⟩
      · rw [← e2] at a3
        rw [gI_sI, if_neg (by decide), gI_sI, if_pos ⟨rfl, rfl⟩] at a3 ⊢
        exact a3
      · rw [← e2] at a5
        rw [gI_sI, if_pos ⟨rfl, rfl⟩] at a5 ⊢
        exact a5
theorem set_loop (hW : WS K Y σ0 τ0) (hL : L < 60) (hG : TailS t n p σ0 τ0 I d w y k v o m q f q8 d21 c22 K Y L (fun z => z = 14) Q G) (hw : w L = nI 14) (hf : f (23880 + 6 * L) = nI 14) : ∀ (mm c : Nat) (S : Int32) (p2 N N' : Nat) (σ τ : ST) (f2 : Nat → Int32), n - p2 ≤ mm → p ≤ p2 → mm < N → mm < N' → 1 ≤ c → c ≤ 6 → SetI K c S → f2 (23880 + 6 * L + 1) = S → (∀ x, x ≠ 23880 + 6 * L + 1 → f2 x = f x) → MD t n σ0 τ0 p2 I d w y k v o m q f2 q8 d21 c22 σ τ → Out σ0 τ0 Q (k_X3_takesSet_4 N 40 (nI L) S (nI c) σ) (((k_X12_some_24 N' 0 (nI (23880 + 6 * L)) τ).bind fun u => (ckZ u.1).bind fun z => some (z, u.2)).bind fun u12 => if u12.1 = 0 then ((ckZ 0).bind fun z => some (z, u12.2)) else G u12) := by
  intro mm
  induction mm with
  | zero =>
    intro c S p2 N N' σ τ f2 hm hp hN hN' hc1 hc6 hS hfS hff hM
    obtain ⟨N1, rfl⟩ : ∃ N1, N = N1 + 1 := ⟨N - 1, by omega⟩
    obtain ⟨N2, rfl⟩ : ∃ N2, N' = N2 + 1 := ⟨N' - 1, by omega⟩
    refine set_base hW hL hG hw hf hp hc1 hc6 hS hfS hff hM ?_
    have z : tK t n p2 = 0 := by
      unfold tK
      rw [if_pos (by have := (tF_sp t hM.1.2.1).1; omega)]
    unfold isNm
    exact decide_eq_false (fun y => by have := y.1; omega)
  | succ mm ih =>
    intro c S p2 N N' σ τ f2 hm hp hN hN' hc1 hc6 hS hfS hff hM
    obtain ⟨N1, rfl⟩ : ∃ N1, N = N1 + 1 := ⟨N - 1, by omega⟩
    obtain ⟨N2, rfl⟩ : ∃ N2, N' = N2 + 1 := ⟨N' - 1, by omega⟩
    cases hN : isNm t n p2
    · exact set_base hW hL hG hw hf hp hc1 hc6 hS hfS hff hM hN
    · obtain ⟨s1, s1_, hs1⟩ := hM.step
      have k2 := (of_decide_eq_true hN).1
      have c4 := ck_e t n p2 (k := 4) (by omega)
      have hlt := tE_gt hM.1.2.1 (show tK t n p2 ≠ 0 by omega)
      rw [k_X3_takesSet_4, if_neg (fun z => by have := (nI_ltE (a := 6) (b := c) (by omega) (by omega)).mp z; omega), show LC.2.1 40 1 = 2 from rfl, s1_, bsm, if_neg (set_nz hS hc1), hs1.1.2.2.1.1, if_neg (show ¬ nI (ckd (tK t n p2)) = 3 from fun y => absurd (show tK t n p2 = 4 by rw [← c4]; exact y) (by omega))]
      rcases set_name hW hs1 hL hN hfS hS hc6 (k_X3_takesSet_4 N1) N2 with ⟨σf, τf, x1, x2, x3⟩ | ⟨S', τ2, x1, x2, x3, x4, hM2⟩
      · rw [x1, x2]
        exact Or.inr ⟨σf, τf, rfl, rfl, x3⟩
      · rw [x3, x4]
        exact ih (c + 1) S' (tE t n p2) N1 N2 s1 τ2 _ (by omega) (by omega) (by omega) (by omega) (by omega) x2 x1 (by rw [upd_at, if_pos rfl]) (fun x hx => by rw [upd_at, if_neg hx]; exact hff x hx) hM2
theorem ord_14 (hW : WS K Y σ0 τ0) (hL : L < 60) (hM : MD t n σ0 τ0 p I d w y k v o m q f q8 d21 c22 σ τ) (hw : w L = nI 14) (hf : f (23880 + 6 * L) = nI 14) (hn : n ≤ 900) (hG : TailS t n p σ0 τ0 I d w y k v o m q f q8 d21 c22 K Y L (fun z => z = 14) Q G) : Out σ0 τ0 Q (f_X3_takesSet 40 (nI L) σ) ((f_X12_order 0 (nI 14) (nI (23880 + 6 * L)) τ).bind fun u12 => if u12.1 = 0 then ((ckZ 0).bind fun z => some (z, u12.2)) else G u12) := by
  obtain ⟨F, hF, hF2⟩ : ∃ F, FU = F ∧ 5000 < F := ⟨FU, rfl, by unfold FU; omega⟩
  obtain ⟨F', hF'⟩ : ∃ F', F = F' + 1 := ⟨F - 1, by omega⟩
  obtain ⟨s1, s1_, hs1⟩ := hM.step
  have hC : MDC t n σ0 τ0 p I d w y k v o m q (upd f (23880 + 6 * L + 1) (nI 0)) q8 d21 c22 s1 (sA τ 1 (upd (gA τ 1) (23880 + 6 * L + 1) (nI 0))) := ⟨JC_tA hs1.1 (by decide) _, ⟨hs1.2.1.1, hs1.2.1.2.sA1 _ (by omega)⟩, hs1.2.2.1, hs1.2.2.2.sA _ _⟩
  have st : stA LR τ (LR.2.1 0 0) (nI (23880 + 6 * L + 1)) 0 = some (sA τ 1 (upd (gA τ 1) (23880 + 6 * L + 1) (nI 0))) := sA1_st (by omega) _
  have rn := r_isName hC.1.2.2.2.1 hC.1.2.1 hC.1.2.2.2.2.1
  have ord : f_X12_order 0 (nI 14) (nI (23880 + 6 * L)) τ = (f_X12_some 0 (nI (23880 + 6 * L)) τ).bind fun u20 => (ckZ u20.1).bind fun z => some (z, u20.2) := by
    unfold f_X12_order
    rw [if_neg (show ¬ nI 14 = 7 by decide), if_neg (show ¬ nI 14 = 8 by decide), if_neg (show ¬ nI 14 = 9 by decide), if_neg (show ¬ nI 14 = 10 by decide), if_neg (show ¬ nI 14 = 11 by decide), if_neg (show ¬ nI 14 = 12 by decide), if_neg (show ¬ nI 14 = 13 by decide), if_pos (show nI 14 = 14 from rfl)]
  have eC : f_X3_takesSet 40 (nI L) σ = k_X3_takesSet_52 (k_X3_takesSet_4 F') 40 (nI L) 0 0 s1 := by
    unfold f_X3_takesSet
    rw [hF, hF', k_X3_takesSet_4, if_neg (show ¬ (6 : Int32) < 0 by decide), show LC.2.1 40 1 = 2 from rfl, s1_, bsm, if_pos rfl]
  rw [ord, eC]
  unfold f_X12_some
  rw [nn1, st, bsm, rn, bsm, hF, hF']
  cases hN : isNm t n p
  · rw [if_pos (show ((bI false, sA τ 1 (upd (gA τ 1) (23880 + 6 * L + 1) (nI 0))) : Int32 × ST).1 = 0 from rfl)]
    obtain ⟨σf, τf, b1, b2, b3⟩ := both_fail hC.1 hC.2.1 (k := 2) (by omega) (by omega)
    have b2' : f_X12_fails 0 2 (sA τ 1 (upd (gA τ 1) (23880 + 6 * L + 1) (nI 0))) = some (nI 0, τf) := b2
    have cin := c_isName hs1.1.2.2.1 hs1.1.2.1
    rw [if_neg (by rw [hN]; decide)] at cin
    have eσ : (nI 0, sI (sI s1 2 2 (nI (blK t n p 2))) 2 3 (nI (tF t n p))) = ((nI 0, σf) : Int32 × ST) := Option.some.inj ((c_blame hC.1.2.2.1 2).symm.trans b1)
    rw [eσ] at cin
    obtain ⟨n1, _⟩ := WS_n hW hs1.2.1
    have e1 : f_X7_keeperNamed 5 (gJ s1 2 9) s1 = some (fR (fun j => decide (gB s1 7 j = gJ s1 2 9)) K, s1) := c_keeperNamed (x := 5) (y := 7) (gJ s1 2 9) rfl rfl n1 hW.1
    refine Or.inr ⟨σf, τf, ?_, ?_, b3⟩
    · unfold k_X3_takesSet_52
      rw [show LC.2.1 40 2 = 5 from rfl, show LC.2.1 40 1 = 2 from rfl, e1, bsm]
      unfold f_X3_isKeeperName
      rw [show LC.2.1 40 1 = 2 from rfl, cin, bsm, if_pos (show ((nI 0, σf) : Int32 × ST).1 = 0 from rfl)]
      rfl
    · simp only []
      rw [b2']; rfl
  · rw [if_neg (show ¬ ((bI true, sA τ 1 (upd (gA τ 1) (23880 + 6 * L + 1) (nI 0))) : Int32 × ST).1 = 0 from fun z => absurd (show bI true = 0 from z) (by decide))]
    simp only []
    have k2 := (of_decide_eq_true hN).1
    have hlt := tE_gt hM.1.2.1 (show tK t n p ≠ 0 by omega)
    have h0 : SetI K 0 (nI 0) := ⟨fun b hb => by rw [bt_n0] at hb; exact absurd hb (by decide), by
      have e : ∀ a, cnt (bt (nI 0)) a = 0 := fun a => by
        induction a with
        | zero => rfl
        | succ a ih => rw [cnt_sf (bt_n0 a), ih]
      exact e K⟩
    rcases set_name hW hC hL hN (S := nI 0) (c := 0) (by rw [upd_at, if_pos rfl]) h0 (by omega) (k_X3_takesSet_4 F') F' with ⟨σf, τf, x1, x2, x3⟩ | ⟨S', τ2, x1, x2, x3, x4, hM2⟩
    · have x1' : k_X3_takesSet_52 (k_X3_takesSet_4 F') 40 (nI L) 0 0 s1 = some (nI 0, σf) := x1
      rw [x1', x2]
      exact Or.inr ⟨σf, τf, rfl, rfl, x3⟩
    · have x3' : k_X3_takesSet_52 (k_X3_takesSet_4 F') 40 (nI L) 0 0 s1 = k_X3_takesSet_4 F' 40 (nI L) S' (nI (0 + 1)) s1 := x3
      rw [x3', x4]
      exact set_loop hW hL hG hw hf n 1 S' (tE t n p) F' F' s1 τ2 _ (by omega) (by omega) (by omega) (by omega) (by omega) (by omega) x1 (by rw [upd_at, if_pos rfl]) (fun x hx => by rw [upd_at, if_neg hx, upd_at, if_neg hx]) hM2
end
