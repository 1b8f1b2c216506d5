/-! FRACTIONS -/
def frN : Nat → Nat → Nat → Nat × Nat
  | 0, t, b => (t, b)
  | d + 1, t, b => if d + 1 ≤ 1 then (t, b) else if t % (d + 1) = 0 ∧ b % (d + 1) = 0 then frN d (t / (d + 1)) (b / (d + 1)) else frN d t b
theorem fr_all : ∀ b a : Fin 21, a.1 ≤ b.1 → 1 ≤ b.1 → frN b.1 a.1 b.1 = (a.1 / Nat.gcd a.1 b.1, b.1 / Nat.gcd a.1 b.1) := by decide +kernel
theorem dvl {a d : Nat} (ha : a < 2 ^ 31) (h0 : 0 < d) (hd : d < 2 ^ 31) : dvL (lN a) (lN d) = some (lN (a / d)) := by
  have h1 : ¬ lN d = 0 := fun e => by
    have h2 := lN_toInt hd
    rw [e] at h2
    have : (0 : Int64).toInt = 0 := rfl
    omega
  unfold dvL
  rw [if_neg h1, dv_lN ha hd]
theorem lg0 {b : Nat} (h : b < 2 ^ 31) : (lg_cmp (lN b) (lN 0) = nI 0) = (b = 0) := by
  apply propext
  refine Iff.trans (lg_cmp_eq _ _) ⟨fun e => ?_, fun e => by rw [e]⟩
  have h1 := lN_toInt h
  rw [e] at h1
  have : (lN 0).toInt = 0 := rfl
  omega
theorem c_frac_14 : ∀ (n d t b : Nat) (σ : ST), d < n → d ≤ 20 → t < 2 ^ 31 → b < 2 ^ 31 → gJ σ 0 15 = lN t → gJ σ 0 16 = lN b → ∃ σ1, k_X11_setFraction_14 n 0 (nI d) σ = some σ1 ∧ gJ σ1 0 15 = lN (frN d t b).1 ∧ gJ σ1 0 16 = lN (frN d t b).2 ∧ Sq noE [15, 16] σ σ1 := by
  intro n
  induction n with
  | zero => intros; omega
  | succ n ih =>
    intro d t b σ hd hd2 ht hb h15 h16
    rw [k_X11_setFraction_14]
    by_cases c : d ≤ 1
    · refine ⟨σ, by simp (disch := omega) only [↓mI_e, lit, ofN, bsm, nI_add, pk_mul, pk_sub, nI_e, nI_leE, nI_ltE, nI_mI, mI_nI, mI_lt, nlt_mI, mI_le, nle_mI, nI_addm, sh_b, bI_0, bI_1, bI_bI, ckZ_b, ckZ_n0, ckZ_n1, stIe, stJe, stZ_n0, stZ_n1, rm_nI, dv_nI, if_true, if_false, if_pos, if_neg, rf0, rf1, rf5, rf6, rf7, rf8, rf9, rf20, rf23, rf24, rf25, rf26, rf29, rf31, rf33, rf34, rf35, rf37, rf38, rf41, rf42, rf43,  c], ?_, ?_, Sq.rf σ⟩
      · have : d = 0 ∨ d = 1 := by omega
        rcases this with rfl | rfl <;> exact h15
      · have : d = 0 ∨ d = 1 := by omega
        rcases this with rfl | rfl <;> exact h16
    · obtain ⟨e, rfl⟩ : ∃ e, d = e + 1 := ⟨d - 1, by omega⟩
      have m1 : t % (e + 1) < e + 1 := Nat.mod_lt _ (by omega)
      have m2 : b % (e + 1) < e + 1 := Nat.mod_lt _ (by omega)
      have ee : e + 1 - 1 = e := by omega
      rw [frN, if_neg c]
      by_cases c1 : t % (e + 1) = 0
      · by_cases c2 : b % (e + 1) = 0
        · rw [if_pos (c := t % (e + 1) = 0 ∧ b % (e + 1) = 0) ⟨c1, c2⟩]
          have q1 : t / (e + 1) ≤ t := Nat.div_le_self _ _
          have q2 : b / (e + 1) ≤ b := Nat.div_le_self _ _
          have h16' : gJ (sJ σ 0 15 (lN (t / (e + 1)))) 0 16 = lN b := by rw [gJ_sJ, if_neg (by decide)]; exact h16
          obtain ⟨σ1, g1, g2, g3, g4⟩ := ih e (t / (e + 1)) (b / (e + 1)) (sJ (sJ σ 0 15 (lN (t / (e + 1)))) 0 16 (lN (b / (e + 1)))) (by omega) (by omega) (by omega) (by omega) (by rw [gJ_sJ, if_neg (by decide), gJ_sJ, if_pos ⟨rfl, rfl⟩]) (by rw [gJ_sJ, if_pos ⟨rfl, rfl⟩])
          refine ⟨σ1, ?_, g2, g3, (((Sq.rf σ).sJ _ rfl).sJ _ rfl).trans g4⟩
          simp (disch := omega) only [↓mI_e, lit, ofN, bsm, nI_add, pk_mul, pk_sub, nI_e, nI_leE, nI_ltE, nI_mI, mI_nI, mI_lt, nlt_mI, mI_le, nle_mI, nI_addm, sh_b, bI_0, bI_1, bI_bI, ckZ_b, ckZ_n0, ckZ_n1, stIe, stJe, stZ_n0, stZ_n1, rm_nI, dv_nI, if_true, if_false, if_pos, if_neg, rf0, rf1, rf5, rf6, rf7, rf8, rf9, rf20, rf23, rf24, rf25, rf26, rf29, rf31, rf33, rf34, rf35, rf37, rf38, rf41, rf42, rf43,  c, h15, h16, nI_l, rm_lN, litL, lg0, c1, c2, dvl, h16', k_X11_setFraction_65, ee]
          exact g1
        · rw [if_neg (c := t % (e + 1) = 0 ∧ b % (e + 1) = 0) (fun z => c2 z.2)]
          obtain ⟨σ1, g1, g2, g3, g4⟩ := ih e t b σ (by omega) (by omega) ht hb h15 h16
          refine ⟨σ1, ?_, g2, g3, g4⟩
          simp (disch := omega) only [↓mI_e, lit, ofN, bsm, nI_add, pk_mul, pk_sub, nI_e, nI_leE, nI_ltE, nI_mI, mI_nI, mI_lt, nlt_mI, mI_le, nle_mI, nI_addm, sh_b, bI_0, bI_1, bI_bI, ckZ_b, ckZ_n0, ckZ_n1, stIe, stJe, stZ_n0, stZ_n1, rm_nI, dv_nI, if_true, if_false, if_pos, if_neg, rf0, rf1, rf5, rf6, rf7, rf8, rf9, rf20, rf23, rf24, rf25, rf26, rf29, rf31, rf33, rf34, rf35, rf37, rf38, rf41, rf42, rf43,  c, h15, h16, nI_l, rm_lN, litL, lg0, c1, c2, k_X11_setFraction_65, ee]
          exact g1
      · rw [if_neg (c := t % (e + 1) = 0 ∧ b % (e + 1) = 0) (fun z => c1 z.1)]
        obtain ⟨σ1, g1, g2, g3, g4⟩ := ih e t b σ (by omega) (by omega) ht hb h15 h16
        refine ⟨σ1, ?_, g2, g3, g4⟩
        simp (disch := omega) only [↓mI_e, lit, ofN, bsm, nI_add, pk_mul, pk_sub, nI_e, nI_leE, nI_ltE, nI_mI, mI_nI, mI_lt, nlt_mI, mI_le, nle_mI, nI_addm, sh_b, bI_0, bI_1, bI_bI, ckZ_b, ckZ_n0, ckZ_n1, stIe, stJe, stZ_n0, stZ_n1, rm_nI, dv_nI, if_true, if_false, if_pos, if_neg, rf0, rf1, rf5, rf6, rf7, rf8, rf9, rf20, rf23, rf24, rf25, rf26, rf29, rf31, rf33, rf34, rf35, rf37, rf38, rf41, rf42, rf43,  c, h15, h16, nI_l, rm_lN, litL, lg0, c1, k_X11_setFraction_65, ee]
        exact g1
theorem c_frac {a b : Nat} (hab : a ≤ b) (h1 : 1 ≤ b) (hb : b ≤ 20) (σ : ST) : ∃ σ1, f_X11_setFraction 0 (nI a) (nI b) σ = some σ1 ∧ gJ σ1 0 15 = lN (a / Nat.gcd a b) ∧ gJ σ1 0 16 = lN (b / Nat.gcd a b) ∧ Sq noE [15, 16] σ σ1 := by
  obtain ⟨σ1, g1, g2, g3, g4⟩ := c_frac_14 FU b a b (sJ (sJ σ 0 15 (lN a)) 0 16 (lN b)) (by unfold FU; omega) hb (by omega) (by omega) (by rw [gJ_sJ, if_neg (by decide), gJ_sJ, if_pos ⟨rfl, rfl⟩]) (by rw [gJ_sJ, if_pos ⟨rfl, rfl⟩])
  have hf := fr_all ⟨b, by omega⟩ ⟨a, by omega⟩ hab h1
  simp only [] at hf
  rw [hf] at g2 g3
  refine ⟨σ1, ?_, g2, g3, (((Sq.rf σ).sJ _ rfl).sJ _ rfl).trans g4⟩
  simp (disch := omega) only [↓mI_e, lit, ofN, bsm, nI_add, pk_mul, pk_sub, nI_e, nI_leE, nI_ltE, nI_mI, mI_nI, mI_lt, nlt_mI, mI_le, nle_mI, nI_addm, sh_b, bI_0, bI_1, bI_bI, ckZ_b, ckZ_n0, ckZ_n1, stIe, stJe, stZ_n0, stZ_n1, rm_nI, dv_nI, if_true, if_false, if_pos, if_neg, rf0, rf1, rf5, rf6, rf7, rf8, rf9, rf20, rf23, rf24, rf25, rf26, rf29, rf31, rf33, rf34, rf35, rf37, rf38, rf41, rf42, rf43,  f_X11_setFraction, nI_l]
  exact g1
theorem r_tells_6 {n0 d0 : Nat} (hn0 : n0 < 2 ^ 31) (hd0 : d0 < 2 ^ 31) (τ : ST) : ∀ (n a b : Nat), b < n → a < 2 ^ 31 → b < 2 ^ 31 → 0 < Nat.gcd a b → Nat.gcd a b < 2 ^ 31 → k_X12_tellsBy_6 n 0 (lN n0) (lN d0) (lN a) (lN b) τ = some (nI 1, sI (sJ (sJ τ 0 3 (lN (n0 / Nat.gcd a b))) 0 4 (lN (d0 / Nat.gcd a b))) 0 2 (nI 0)) := by
  intro n
  induction n with
  | zero => intros; omega
  | succ n ih =>
    intro a b hb ha hb2 hg hg2
    rw [k_X12_tellsBy_6]
    by_cases c : b = 0
    · subst c
      rw [Nat.gcd_zero_right] at hg hg2 ⊢
      have e1 : (nI 0 = nI 0) := rfl
      simp (disch := omega) only [↓mI_e, lit, ofN, bsm, nI_add, pk_mul, pk_sub, nI_e, nI_leE, nI_ltE, nI_mI, mI_nI, mI_lt, nlt_mI, mI_le, nle_mI, nI_addm, sh_b, bI_0, bI_1, bI_bI, ckZ_b, ckZ_n0, ckZ_n1, stIe, stJe, stZ_n0, stZ_n1, rm_nI, dv_nI, if_true, if_false, if_pos, if_neg, rf0, rf1, rf5, rf6, rf7, rf8, rf9, rf20, rf23, rf24, rf25, rf26, rf29, rf31, rf33, rf34, rf35, rf37, rf38, rf41, rf42, rf43,  litL, lg0, dvl, r_is]
    · have m1 : a % b < b := Nat.mod_lt _ (by omega)
      have eg : Nat.gcd b (a % b) = Nat.gcd a b := by rw [Nat.gcd_comm a b, Nat.gcd_rec b a, Nat.gcd_comm]
      have h1 := ih b (a % b) (by omega) hb2 (by omega) (by rw [eg]; exact hg) (by rw [eg]; exact hg2)
      rw [eg] at h1
      simp (disch := omega) only [↓mI_e, lit, ofN, bsm, nI_add, pk_mul, pk_sub, nI_e, nI_leE, nI_ltE, nI_mI, mI_nI, mI_lt, nlt_mI, mI_le, nle_mI, nI_addm, sh_b, bI_0, bI_1, bI_bI, ckZ_b, ckZ_n0, ckZ_n1, stIe, stJe, stZ_n0, stZ_n1, rm_nI, dv_nI, if_true, if_false, if_pos, if_neg, rf0, rf1, rf5, rf6, rf7, rf8, rf9, rf20, rf23, rf24, rf25, rf26, rf29, rf31, rf33, rf34, rf35, rf37, rf38, rf41, rf42, rf43,  litL, lg0, c, rm_lN]
      exact h1
theorem r_tells {a b : Nat} (hab : a ≤ b) (h1 : 1 ≤ b) (hb : b ≤ 20) (τ : ST) : f_X12_tellsBy 0 (lN a) (lN b) τ = some (nI 1, sI (sJ (sJ τ 0 3 (lN (a / Nat.gcd a b))) 0 4 (lN (b / Nat.gcd a b))) 0 2 (nI 0)) := by
  have hg : Nat.gcd a b ≤ b := Nat.gcd_le_right a h1
  exact r_tells_6 (by omega) (by omega) τ FU a b (by unfold FU; omega) (by omega) (by omega) (Nat.gcd_pos_of_pos_right a h1) (by omega)
theorem Sm_frac {i : Nat} {σ τ σ1 τ0 : ST} (h : Rel i σ τ) (hσ : Sq noE [15, 16] σ σ1) (hτ : Sc [] τ τ0) (hm : ∀ k, k < 19400 → gA τ0 1 k = gA τ 1 k) {t b : Int64} (h15 : gJ σ1 0 15 = t) (h16 : gJ σ1 0 16 = b) : Sm i (some (nI 1, sI σ1 0 14 (nI 0))) (some (nI 1, sI (sJ (sJ τ0 0 3 t) 0 4 b) 0 2 (nI 0))) := by
  have a1 : Sq noE [14, 15, 16] σ (sI σ1 0 14 (nI 0)) := (hσ.mono (fun k hk => by simp at hk ⊢; exact hk.2)).sI _ rfl
  have a2 : Sc [2, 3, 4] τ (sI (sJ (sJ τ0 0 3 t) 0 4 b) 0 2 (nI 0)) := (((hτ.mono (fun k hk => by simp)).sJ _ rfl).sJ _ rfl).sI _ rfl
  have e1 : wv (sI σ1 0 14 (nI 0)) wM = wv σ wM := wv_Sq a1
  refine ⟨nI 1, _, _, rfl, rfl, Rel_w h (a1.toW.mono (fun k hk => by simp at hk ⊢; exact ⟨hk.1, hk.2.1, hk.2.2.1⟩)) (a2.mono (fun k hk => by simp at hk ⊢; exact ⟨hk.1, hk.2.1, hk.2.2.1⟩)) ⟨?_, ?_, ?_⟩ ?_ (fun k _ hk => hm k hk) ?_⟩
  · rw [gI_sI, gI_sI, if_pos ⟨rfl, rfl⟩, if_pos ⟨rfl, rfl⟩]
  · rw [gJ_sI, gJ_sI, gJ_sJ, if_neg (by decide), gJ_sJ, if_pos ⟨rfl, rfl⟩]; exact h15
  · rw [gJ_sI, gJ_sI, gJ_sJ, if_pos ⟨rfl, rfl⟩]; exact h16
  · rw [a1.1 19 rfl, a2.1 28 rfl rfl]; exact h.2.2.2.1.2.1
  · rw [e1]
    exact RelW_congr (fun k hk => hm k (by omega)) (fun _ _ => rfl) (RelW_mono (by omega) h.2.2.2.2.1)
/-! ANSWERS, ODDS -/
theorem cnt_all : ∀ n, cnt (fun _ => true) n = n
  | 0 => rfl
  | n + 1 => by rw [cnt, cnt_all n]; rfl
theorem pc_full : ∀ R : Fin 7, p8 (2 ^ R.1 - 1) = R.1 := by decide
theorem pR_pos {R A : Nat} (hR : R ≤ 6) (hA : A ≤ 6) : 0 < cnt (pR R) (2 ^ A) ↔ R ≤ A := by
  constructor
  · intro h
    obtain ⟨m, m1, m2, _⟩ := cnt_onto _ _ h
    have h2 : pcN m = R := of_decide_eq_true m2
    have := pcN_le m A m1
    omega
  · intro h
    have h1 : 2 ^ R ≤ 2 ^ A := Nat.pow_le_pow_right (by decide) h
    have h2 : 2 ^ R ≤ 64 := Nat.pow_le_pow_right (n := 2) (by decide) hR
    have h3 : 0 < 2 ^ R := Nat.two_pow_pos R
    have h4 : pR R (2 ^ R - 1) = true := by
      refine decide_eq_true ?_
      rw [pcN_8 (by omega)]
      exact pc_full ⟨R, by omega⟩
    exact Nat.lt_of_le_of_lt (Nat.zero_le _) (cnt_lt2 (show 2 ^ R - 1 < 2 ^ A by omega) h4)
theorem asked_ap {f : Nat → Int32} {y a : Nat} {G : Nat → Int32} (h : DL (rp f y a) (pm f) G 0 (fun i => nI (rw6 f y i))) : ∀ i, i < cnt (rp f y a) (pm f) → G i = nI (ap f y a i) := fun i hi => by
  have h1 := aq_in hi
  have h2 := h _ h1.1 h1.2.1
  rw [h1.2.2, Nat.zero_add] at h2
  exact h2
theorem sim_answers (i : Nat) (hi : i + 6 ≤ 3072) : SIM_answers (Rel i) (Rel (i + 6)) := by
  intro a0 a1 σ τ h
  have hW := h.2.2.2.2.1
  obtain ⟨hS, hU, _⟩ := id hW
  have hK := hS.1.1
  have hY := hS.1.2.1
  have hR := hS.1.2.2.2.1
  have hN := hS.1.2.2.1
  have hw := wM_w
  have n10 : (nI 1 = nI 0) = False := eq_false (by decide)
  show Sm i _ _
  rcases key_cases hS.1 a0 with hb | ⟨y, hy, rfl⟩
  · simp (disch := omega) only [↓mI_e, lit, ofN, bsm, nI_add, pk_mul, pk_sub, nI_e, nI_leE, nI_ltE, nI_mI, mI_nI, mI_lt, nlt_mI, mI_le, nle_mI, nI_addm, sh_b, bI_0, bI_1, bI_bI, ckZ_b, ckZ_n0, ckZ_n1, stIe, stJe, stZ_n0, stZ_n1, rm_nI, dv_nI, if_true, if_false, if_pos, if_neg, rf0, rf1, rf5, rf6, rf7, rf8, rf9, rf20, rf23, rf24, rf25, rf26, rf29, rf31, rf33, rf34, rf35, rf37, rf38, rf41, rf42, rf43,  f_X11_answers, k_X11_answers_16, f_X12_answers, k_X12_answers_16, k_X12_answers_51, c_isKey_no hS hb, r_isKey_no hb, c_refuse, r_refuse]
    exact Sm_0 h _ _
  · rcases keeper_cases hS.1 a1 with hb | ⟨a, ha, rfl⟩
    · simp (disch := omega) only [↓mI_e, lit, ofN, bsm, nI_add, pk_mul, pk_sub, nI_e, nI_leE, nI_ltE, nI_mI, mI_nI, mI_lt, nlt_mI, mI_le, nle_mI, nI_addm, sh_b, bI_0, bI_1, bI_bI, ckZ_b, ckZ_n0, ckZ_n1, stIe, stJe, stZ_n0, stZ_n1, rm_nI, dv_nI, if_true, if_false, if_pos, if_neg, rf0, rf1, rf5, rf6, rf7, rf8, rf9, rf20, rf23, rf24, rf25, rf26, rf29, rf31, rf33, rf34, rf35, rf37, rf38, rf41, rf42, rf43,  f_X11_answers, k_X11_answers_16, f_X12_answers, k_X12_answers_16, k_X12_answers_51, c_isKey_yes hS hy, r_isKey_y hS.1 hy, c_isKeeper_no hS hb, r_isKeeper_no hb, c_refuse, r_refuse]
      exact Sm_0 h _ _
    · obtain ⟨P, σ1, hP, f1, f2⟩ := c_fill (B := 50000 * i) (by omega) hW hy (a := a) (by omega)
      obtain ⟨hL, hrow⟩ := CHi_rows hS.1 f2
      have hmany := pick_cnt hS.1 hy (a := a) hP hrow (fun _ => true)
      have hunl := pick_unlike hS.1 hy (a := a) hP hrow
      rw [cnt_all] at hmany
      have hmany' : cnt (pC P (RN (gA τ 1))) 64 = cnt (pR (RN (gA τ 1))) (2 ^ cnt (rp (gA τ 1) y a) (pm (gA τ 1))) := hmany.trans (cnt_congr _ (fun i _ => Bool.and_true _))
      have hcl := cnt_le (rp (gA τ 1) y a) (pm (gA τ 1))
      have hpm := pm_le (f := gA τ 1)
      have hpos := pR_pos (R := RN (gA τ 1)) (A := cnt (rp (gA τ 1) y a) (pm (gA τ 1))) (by omega) (by omega)
      obtain ⟨gr, G, c1, c2, _⟩ := r_canGet hS.1 hy (a := a) (by omega)
      obtain ⟨τ0, hτ0⟩ : ∃ τ0, τ0 = sI (sA (sA τ 9 gr) 13 G) 0 30 (nI (cnt (rp (gA τ 1) y a) (pm (gA τ 1)))) := ⟨_, rfl⟩
      rw [← hτ0] at c1
      have sc0 : ∀ e, Sc e τ τ0 := fun e => by rw [hτ0]; exact (((Sc.rf τ).sA _ rfl).sA _ rfl).sI _ rfl
      have g0 : gA τ0 1 = gA τ 1 := by rw [hτ0]; rfl
      have g13 : gA τ0 13 = G := by rw [hτ0]; rfl
      have g30 : gI τ0 0 30 = nI (cnt (rp (gA τ 1) y a) (pm (gA τ 1))) := by rw [hτ0, gI_sI, if_pos ⟨rfl, rfl⟩]
      by_cases hr : RN (gA τ 1) ≤ cnt (rp (gA τ 1) y a) (pm (gA τ 1))
      · have hd := decide_eq_true hr
        have hd2 : decide (0 < cnt (pC P (RN (gA τ 1))) 64) = true := decide_eq_true (by rw [hmany']; exact hpos.mpr hr)
        obtain ⟨τ1, r1, ⟨J, r2⟩, _, _, r5⟩ := r_choices (B := 50000 * i) (by omega) hW hy rfl (by omega) (asked_ap c2) (nI 1) mI (τ := τ0) ⟨sh (gA τ 1) 29100, by rw [put12_self]; exact g0⟩ g30 g13
        rw [if_neg (by decide), if_pos rfl] at r1
        have hu := c_unlike hL
        rw [hunl] at hu
        have hu' : f_X1_unlikeRows 84 σ1 = some (nI (cnt (fst1 (pR (RN (gA τ 1))) (rwR (gA τ 1) y a)) (2 ^ cnt (rp (gA τ 1) y a) (pm (gA τ 1)))), σ1) := hu
        simp (disch := omega) only [↓mI_e, lit, ofN, bsm, nI_add, pk_mul, pk_sub, nI_e, nI_leE, nI_ltE, nI_mI, mI_nI, mI_lt, nlt_mI, mI_le, nle_mI, nI_addm, sh_b, bI_0, bI_1, bI_bI, ckZ_b, ckZ_n0, ckZ_n1, stIe, stJe, stZ_n0, stZ_n1, rm_nI, dv_nI, if_true, if_false, if_pos, if_neg, rf0, rf1, rf5, rf6, rf7, rf8, rf9, rf20, rf23, rf24, rf25, rf26, rf29, rf31, rf33, rf34, rf35, rf37, rf38, rf41, rf42, rf43,  f_X11_answers, k_X11_answers_16, f_X12_answers, k_X12_answers_16, k_X12_answers_51, c_isKey_yes hS hy, r_isKey_y hS.1 hy, c_isKeeper_yes hS ha, r_isKeeper_y hS.1 ha, c02, ch_0, f1, hd2, c1, hd, bI_t, n10, hu', r1, c_answer, r_gives]
        exact Sm_q h (f2.1.mono (fun k hk => by simp)) ((sc0 _).trans (r5.mono (fun k hk => by simp))) (fun k hk => by rw [r2, put12_out (by omega)]) _ _
      · have hd := decide_eq_false hr
        have hd2 : decide (0 < cnt (pC P (RN (gA τ 1))) 64) = false := decide_eq_false (by rw [hmany']; exact fun z => hr (hpos.mp z))
        simp (disch := omega) only [↓mI_e, lit, ofN, bsm, nI_add, pk_mul, pk_sub, nI_e, nI_leE, nI_ltE, nI_mI, mI_nI, mI_lt, nlt_mI, mI_le, nle_mI, nI_addm, sh_b, bI_0, bI_1, bI_bI, ckZ_b, ckZ_n0, ckZ_n1, stIe, stJe, stZ_n0, stZ_n1, rm_nI, dv_nI, if_true, if_false, if_pos, if_neg, rf0, rf1, rf5, rf6, rf7, rf8, rf9, rf20, rf23, rf24, rf25, rf26, rf29, rf31, rf33, rf34, rf35, rf37, rf38, rf41, rf42, rf43,  f_X11_answers, k_X11_answers_16, f_X12_answers, k_X12_answers_16, k_X12_answers_51, c_isKey_yes hS hy, r_isKey_y hS.1 hy, c_isKeeper_yes hS ha, r_isKeeper_y hS.1 ha, c02, ch_0, f1, hd2, c1, hd, bI_f, c_refuse, r_refuse]
        exact Sm_q h (f2.1.mono (fun k hk => by simp)) (sc0 _) (fun k hk => by rw [g0]) _ _
theorem sim_odds (i : Nat) (hi : i + 6 ≤ 3072) : SIM_odds (Rel i) (Rel (i + 6)) := by
  intro a0 a1 a2 σ τ h
  have hW := h.2.2.2.2.1
  obtain ⟨hS, hU, _⟩ := id hW
  have hK := hS.1.1
  have hY := hS.1.2.1
  have hR := hS.1.2.2.2.1
  have hN := hS.1.2.2.1
  have hw := wM_w
  have n10 : (nI 1 = nI 0) = False := eq_false (by decide)
  have n70 : (nI 7 = nI 0) = False := eq_false (by decide)
  show Sm i _ _
  rcases key_cases hS.1 a0 with hb | ⟨y, hy, rfl⟩
  · simp (disch := omega) only [↓mI_e, lit, ofN, bsm, nI_add, pk_mul, pk_sub, nI_e, nI_leE, nI_ltE, nI_mI, mI_nI, mI_lt, nlt_mI, mI_le, nle_mI, nI_addm, sh_b, bI_0, bI_1, bI_bI, ckZ_b, ckZ_n0, ckZ_n1, stIe, stJe, stZ_n0, stZ_n1, rm_nI, dv_nI, if_true, if_false, if_pos, if_neg, rf0, rf1, rf5, rf6, rf7, rf8, rf9, rf20, rf23, rf24, rf25, rf26, rf29, rf31, rf33, rf34, rf35, rf37, rf38, rf41, rf42, rf43,  f_X11_odds, k_X11_odds_27, k_X11_odds_63, f_X12_odds, k_X12_odds_28, k_X12_odds_51, c_isKey_no hS hb, r_isKey_no hb, c_refused, r_is]
    exact Sm_0 h _ _
  · rcases keeper_cases hS.1 a1 with hb | ⟨a, ha, rfl⟩
    · simp (disch := omega) only [↓mI_e, lit, ofN, bsm, nI_add, pk_mul, pk_sub, nI_e, nI_leE, nI_ltE, nI_mI, mI_nI, mI_lt, nlt_mI, mI_le, nle_mI, nI_addm, sh_b, bI_0, bI_1, bI_bI, ckZ_b, ckZ_n0, ckZ_n1, stIe, stJe, stZ_n0, stZ_n1, rm_nI, dv_nI, if_true, if_false, if_pos, if_neg, rf0, rf1, rf5, rf6, rf7, rf8, rf9, rf20, rf23, rf24, rf25, rf26, rf29, rf31, rf33, rf34, rf35, rf37, rf38, rf41, rf42, rf43,  f_X11_odds, k_X11_odds_27, k_X11_odds_63, f_X12_odds, k_X12_odds_28, k_X12_odds_51, c_isKey_yes hS hy, r_isKey_y hS.1 hy, c_isKeeper_no hS hb, r_isKeeper_no hb, c_refused, r_is]
      exact Sm_0 h _ _
    · rcases num_cases a2 0 1000 (by omega) (by omega) with hb | ⟨v, _, hv, rfl⟩
      · have hf := r_isFrom_n (v := a2) (a := 0) (b := 1000) (by omega) (by omega) (by rcases hb with hb | hb; exact Or.inl hb; exact Or.inr (by omega)) τ
        by_cases z : a2 < nI 0
        · simp (disch := omega) only [↓mI_e, lit, ofN, bsm, nI_add, pk_mul, pk_sub, nI_e, nI_leE, nI_ltE, nI_mI, mI_nI, mI_lt, nlt_mI, mI_le, nle_mI, nI_addm, sh_b, bI_0, bI_1, bI_bI, ckZ_b, ckZ_n0, ckZ_n1, stIe, stJe, stZ_n0, stZ_n1, rm_nI, dv_nI, if_true, if_false, if_pos, if_neg, rf0, rf1, rf5, rf6, rf7, rf8, rf9, rf20, rf23, rf24, rf25, rf26, rf29, rf31, rf33, rf34, rf35, rf37, rf38, rf41, rf42, rf43,  f_X11_odds, k_X11_odds_27, k_X11_odds_63, f_X12_odds, k_X12_odds_28, k_X12_odds_51, c_isKey_yes hS hy, r_isKey_y hS.1 hy, c_isKeeper_yes hS ha, r_isKeeper_y hS.1 ha, litL, hf, z, c_refused, r_is]
          exact Sm_0 h _ _
        · have z2 : ¬ a2 ≤ nI 1000 := fun q => by
            rw [Int32.le_iff_toInt_le] at q
            rw [Int32.lt_iff_toInt_lt] at z
            have e1 : (nI 1000).toInt = 1000 := rfl
            have e0 : (nI 0).toInt = 0 := rfl
            omega
          simp (disch := omega) only [↓mI_e, lit, ofN, bsm, nI_add, pk_mul, pk_sub, nI_e, nI_leE, nI_ltE, nI_mI, mI_nI, mI_lt, nlt_mI, mI_le, nle_mI, nI_addm, sh_b, bI_0, bI_1, bI_bI, ckZ_b, ckZ_n0, ckZ_n1, stIe, stJe, stZ_n0, stZ_n1, rm_nI, dv_nI, if_true, if_false, if_pos, if_neg, rf0, rf1, rf5, rf6, rf7, rf8, rf9, rf20, rf23, rf24, rf25, rf26, rf29, rf31, rf33, rf34, rf35, rf37, rf38, rf41, rf42, rf43,  f_X11_odds, k_X11_odds_27, k_X11_odds_63, f_X12_odds, k_X12_odds_28, k_X12_odds_51, c_isKey_yes hS hy, r_isKey_y hS.1 hy, c_isKeeper_yes hS ha, r_isKeeper_y hS.1 ha, litL, hf, z, z2, c_refused, r_is]
          exact Sm_0 h _ _
      · have hf := r_isFrom_y (k := v) (a := 0) (b := 1000) (by omega) (by omega) (by omega) τ
        cases hs : sm (gA τ 1) y
        · obtain ⟨P, σ1, hP, f1, f2⟩ := c_fill (B := 50000 * i) (by omega) hW hy (a := a) (by omega)
          obtain ⟨hL, hrow⟩ := CHi_rows hS.1 f2
          have hmany := pick_cnt hS.1 hy (a := a) hP hrow (fun _ => true)
          have hwith := pick_cnt hS.1 hy (a := a) hP hrow (hasV (nI v))
          rw [cnt_all] at hmany
          have hmany' : cnt (pC P (RN (gA τ 1))) 64 = cnt (pR (RN (gA τ 1))) (2 ^ cnt (rp (gA τ 1) y a) (pm (gA τ 1))) := hmany.trans (cnt_congr _ (fun i _ => Bool.and_true _))
          have hwith' : cnt (fun i => hasV (nI v) (rcC σ1 i)) (cnt (pC P (RN (gA τ 1))) 64) = cnt (wqR (gA τ 1) y a (nI v)) (2 ^ cnt (rp (gA τ 1) y a) (pm (gA τ 1))) := hwith.trans (cnt_congr _ (fun i _ => by unfold wqR rwR; rw [hs]; rfl))
          have hwm := cnt_le (fun i => hasV (nI v) (rcC σ1 i)) (cnt (pC P (RN (gA τ 1))) 64)
          have hcl := cnt_le (rp (gA τ 1) y a) (pm (gA τ 1))
          have hpm := pm_le (f := gA τ 1)
          have hpos := pR_pos (R := RN (gA τ 1)) (A := cnt (rp (gA τ 1) y a) (pm (gA τ 1))) (by omega) (by omega)
          obtain ⟨gr, G, c1, c2, _⟩ := r_canGet hS.1 hy (a := a) (by omega)
          obtain ⟨τ0, hτ0⟩ : ∃ τ0, τ0 = sI (sA (sA τ 9 gr) 13 G) 0 30 (nI (cnt (rp (gA τ 1) y a) (pm (gA τ 1)))) := ⟨_, rfl⟩
          rw [← hτ0] at c1
          have sc0 : ∀ e, Sc e τ τ0 := fun e => by rw [hτ0]; exact (((Sc.rf τ).sA _ rfl).sA _ rfl).sI _ rfl
          have g0 : gA τ0 1 = gA τ 1 := by rw [hτ0]; rfl
          have g13 : gA τ0 13 = G := by rw [hτ0]; rfl
          have g30 : gI τ0 0 30 = nI (cnt (rp (gA τ 1) y a) (pm (gA τ 1))) := by rw [hτ0, gI_sI, if_pos ⟨rfl, rfl⟩]
          have es := c_isSum hw hS (y := y) (by omega)
          have es' := r_isSum (y := y) (by omega) τ
          rw [hs] at es es'
          by_cases hr : RN (gA τ 1) ≤ cnt (rp (gA τ 1) y a) (pm (gA τ 1))
          · have hd := decide_eq_true hr
            have hp0 := hpos.mpr hr
            have hd2 : decide (0 < cnt (pC P (RN (gA τ 1))) 64) = true := decide_eq_true (by rw [hmany']; exact hp0)
            obtain ⟨τ1, r1, r2, r3, r4, r5⟩ := r_choices (B := 50000 * i) (by omega) hW hy rfl (by omega) (asked_ap c2) (nI 2) (nI v) (τ := τ0) ⟨sh (gA τ 1) 29100, by rw [put12_self]; exact g0⟩ g30 g13
            rw [if_neg (by decide), if_neg (by decide)] at r1
            obtain ⟨τ2, s1, ⟨J, s2⟩, _, _, s5⟩ := r_choices (B := 50000 * i) (by omega) hW hy rfl (by omega) (asked_ap c2) (nI 0) (nI v) (τ := τ1) r2 r3 r4
            rw [if_pos rfl] at s1
            have hu := c_with hL (nI v)
            rw [hwith'] at hu
            have h3 := hL.2.1
            have h20 := hL.1
            rw [hwith'] at hwm
            rw [hmany'] at h3 h20 hwm
            obtain ⟨σ2, k1, k2, k3, k4⟩ := c_frac hwm hp0 h20 σ1
            have k5 := r_tells hwm hp0 h20 τ2
            have hf' : f_X12_isFrom (lN v) (lN 0) (lN 1000) τ = some (nI 1, τ) := by rw [← nI_l (by omega)]; exact hf
            simp (disch := omega) only [↓mI_e, lit, ofN, bsm, nI_add, pk_mul, pk_sub, nI_e, nI_leE, nI_ltE, nI_mI, mI_nI, mI_lt, nlt_mI, mI_le, nle_mI, nI_addm, sh_b, bI_0, bI_1, bI_bI, ckZ_b, ckZ_n0, ckZ_n1, stIe, stJe, stZ_n0, stZ_n1, rm_nI, dv_nI, if_true, if_false, if_pos, if_neg, rf0, rf1, rf5, rf6, rf7, rf8, rf9, rf20, rf23, rf24, rf25, rf26, rf29, rf31, rf33, rf34, rf35, rf37, rf38, rf41, rf42, rf43,  f_X11_odds, k_X11_odds_27, k_X11_odds_63, f_X12_odds, k_X12_odds_28, k_X12_odds_51, c_isKey_yes hS hy, r_isKey_y hS.1 hy, c_isKeeper_yes hS ha, r_isKeeper_y hS.1 ha, litL, hf', c02, w_0 hw, ch_0, es, es', f1, hd2, c1, hd, bI_t, bI_f, n10, hu, h3, k1, r1, s1, nI_l, k5, c_allowed]
            exact Sm_frac h ((f2.1.mono (fun k hk => by simp)).trans k4) ((sc0 _).trans (r5.trans s5)) (fun k hk => by rw [s2, put12_out (by omega)]) k2 k3
          · have hd := decide_eq_false hr
            have hd2 : decide (0 < cnt (pC P (RN (gA τ 1))) 64) = false := decide_eq_false (by rw [hmany']; exact fun z => hr (hpos.mp z))
            simp (disch := omega) only [↓mI_e, lit, ofN, bsm, nI_add, pk_mul, pk_sub, nI_e, nI_leE, nI_ltE, nI_mI, mI_nI, mI_lt, nlt_mI, mI_le, nle_mI, nI_addm, sh_b, bI_0, bI_1, bI_bI, ckZ_b, ckZ_n0, ckZ_n1, stIe, stJe, stZ_n0, stZ_n1, rm_nI, dv_nI, if_true, if_false, if_pos, if_neg, rf0, rf1, rf5, rf6, rf7, rf8, rf9, rf20, rf23, rf24, rf25, rf26, rf29, rf31, rf33, rf34, rf35, rf37, rf38, rf41, rf42, rf43,  f_X11_odds, k_X11_odds_27, k_X11_odds_63, f_X12_odds, k_X12_odds_28, k_X12_odds_51, c_isKey_yes hS hy, r_isKey_y hS.1 hy, c_isKeeper_yes hS ha, r_isKeeper_y hS.1 ha, litL, hf, c02, w_0 hw, ch_0, es, es', f1, hd2, c1, hd, bI_f, c_refused, r_is, n70]
            exact Sm_q h (f2.1.mono (fun k hk => by simp)) (sc0 _) (fun k hk => by rw [g0]) _ _
        · have es := c_isSum hw hS (y := y) (by omega)
          have es' := r_isSum (y := y) (by omega) τ
          rw [hs] at es es'
          simp (disch := omega) only [↓mI_e, lit, ofN, bsm, nI_add, pk_mul, pk_sub, nI_e, nI_leE, nI_ltE, nI_mI, mI_nI, mI_lt, nlt_mI, mI_le, nle_mI, nI_addm, sh_b, bI_0, bI_1, bI_bI, ckZ_b, ckZ_n0, ckZ_n1, stIe, stJe, stZ_n0, stZ_n1, rm_nI, dv_nI, if_true, if_false, if_pos, if_neg, rf0, rf1, rf5, rf6, rf7, rf8, rf9, rf20, rf23, rf24, rf25, rf26, rf29, rf31, rf33, rf34, rf35, rf37, rf38, rf41, rf42, rf43,  f_X11_odds, k_X11_odds_27, k_X11_odds_63, f_X12_odds, k_X12_odds_28, k_X12_odds_51, c_isKey_yes hS hy, r_isKey_y hS.1 hy, c_isKeeper_yes hS ha, r_isKeeper_y hS.1 ha, litL, hf, c02, w_0 hw, es, es', bI_t, n10, c_refused, r_is, n70]
          exact Sm_0 h _ _
