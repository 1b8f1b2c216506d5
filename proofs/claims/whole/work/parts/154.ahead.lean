/-! ahead() whole; own words; names -/
def RT (τ : ST) (t : Nat → Nat) (n p : Nat) : Prop := gI τ 0 12 = nI (tK t n p) ∧ gI τ 0 13 = nI (tF t n p) ∧ gI τ 0 14 = nI (tE t n p) ∧ (tK t n p = 3 → gI τ 0 15 = nI (dgN t (tF t n p) (tM t n p))) ∧ (tK t n p = 4 → gI τ 0 15 = nI (t (tF t n p)))
/-- behind the blanks -/
def k00 (τ : ST) : Option ST := (stI τ 0 13 (gI τ 0 14)).bind fun σ20 =>
  (f_X12_byteAt 0 (gI σ20 0 14) σ20).bind fun u21 =>
  (stI u21.2 0 15 u21.1).bind fun σ22 =>
  if u21.1 = (-1) then ((stI σ22 0 12 0).bind fun σ34 =>
  k_X12_ahead_251 σ34) else ((f_X12_isSmall u21.1 σ22).bind fun u24 =>
  if u24.1 = 0 then ((f_X12_isDigit u21.1 u24.2).bind fun u26 =>
  if u26.1 = 0 then ((stI u26.2 0 14 ((gI u26.2 0 14) + 1)).bind fun σ28 =>
  if u21.1 = 59 then (k_X12_ahead_243 0 σ28) else (if u21.1 = 60 then (k_X12_ahead_243 0 σ28) else (if u21.1 = 62 then (k_X12_ahead_243 0 σ28) else (if u21.1 = 61 then (k_X12_ahead_243 0 σ28) else (k_X12_ahead_248 0 1 σ28))))) else ((stI u26.2 0 15 0).bind fun σ33 =>
  k_X12_ahead_128 FU 0 σ33)) else (k_X12_ahead_81 FU 0 u24.2))
theorem r_ah_0 {t : Nat → Nat} {n : Nat} : ∀ (m p N : Nat) (τ : ST), TX τ t n → p ≤ n → n - p ≤ m → m < N → gI τ 0 14 = nI p → k_X12_ahead_0 N 0 τ = k00 (sI τ 0 14 (nI (edn pBl t n p))) := by
  intro m
  induction m with
  | zero =>
    intro p N τ hT hp hm hN h14
    obtain ⟨N1, rfl⟩ : ∃ N1, N = N1 + 1 := ⟨N - 1, by omega⟩
    have hn := hT.2.1
    have e : p = n := by omega
    subst e
    have hb := r_byteEnd hT (Nat.le_refl _) (by omega)
    rw [edn_at (Nat.le_refl _) (fun z => by omega), ← h14, sI_self, k_X12_ahead_0, h14, hb, bsm, if_neg (show ¬ ((mI, τ) : Int32 × ST).1 = 32 from fun z => absurd (show mI = 32 from z) (by decide))]
    simp only []
    rw [h14, hb, bsm, if_neg (show ¬ ((mI, τ) : Int32 × ST).1 = 10 from fun z => absurd (show mI = 10 from z) (by decide))]
    rfl
  | succ m ih =>
    intro p N τ hT hp hm hN h14
    obtain ⟨N1, rfl⟩ : ∃ N1, N = N1 + 1 := ⟨N - 1, by omega⟩
    have hn := hT.2.1
    by_cases c : n ≤ p
    · have e : p = n := by omega
      subst e
      have hb := r_byteEnd hT (Nat.le_refl _) (by omega)
      rw [edn_at (Nat.le_refl _) (fun z => by omega), ← h14, sI_self, k_X12_ahead_0, h14, hb, bsm, if_neg (show ¬ ((mI, τ) : Int32 × ST).1 = 32 from fun z => absurd (show mI = 32 from z) (by decide))]
      simp only []
      rw [h14, hb, bsm, if_neg (show ¬ ((mI, τ) : Int32 × ST).1 = 10 from fun z => absurd (show mI = 10 from z) (by decide))]
      rfl
    · have hb := r_byteAt hT (show p < n by omega)
      have ht := (hT.2.2 p (by omega)).2
      have q32 : (nI (t p) = (32 : Int32)) = (t p = 32) := nI_e (b := 32) (by omega) (by omega)
      have q10 : (nI (t p) = (10 : Int32)) = (t p = 10) := nI_e (b := 10) (by omega) (by omega)
      by_cases b : t p = 10 ∨ t p = 32
      · rw [edn_s (show p < n by omega) (show pBl (t p) = true from decide_eq_true b)]
        have := ih (p + 1) N1 (sI τ 0 14 (nI (p + 1))) (((Ra.rf τ).sI _ (by omega)).TX hT) (by omega) (by omega) (by omega) (by rw [gI_sI, if_pos ⟨rfl, rfl⟩])
        rw [sI_sI] at this
        have e26 : k_X12_ahead_26 (k_X12_ahead_0 N1) 0 τ = k_X12_ahead_0 N1 0 (sI τ 0 14 (nI (p + 1))) := by
          simp (disch := omega) only [↓mI_e, lit, ofN, bsm, nI_add, pk_mul, pk_sub, nI_e, nI_leE, nI_ltE, nI_mI, mI_nI, mI_lt, nlt_mI, mI_le, nle_mI, nI_addm, sh_b, bI_0, bI_1, bI_bI, ckZ_b, ckZ_n0, ckZ_n1, stIe, stJe, stZ_n0, stZ_n1, rm_nI, dv_nI, if_true, if_false, if_pos, if_neg, rf0, rf1, rf5, rf6, rf7, rf8, rf9, rf20, rf23, rf24, rf25, rf26, rf29, rf31, rf33, rf34, rf35, rf37, rf38, rf41, rf42, rf43,  k_X12_ahead_26, h14]
        rw [← this, ← e26, k_X12_ahead_0, h14, hb, bsm]
        by_cases b2 : t p = 32
        · rw [if_pos (show ((nI (t p), τ) : Int32 × ST).1 = 32 by show nI (t p) = 32; rw [q32]; exact b2)]
        · rw [if_neg (show ¬ ((nI (t p), τ) : Int32 × ST).1 = 32 by show ¬ nI (t p) = 32; rw [q32]; exact b2)]
          simp only []
          rw [h14, hb, bsm, if_pos (show ((nI (t p), τ) : Int32 × ST).1 = 10 by show nI (t p) = 10; rw [q10]; omega)]
      · have b1 : ¬ t p = 10 := fun z => b (Or.inl z)
        have b2 : ¬ t p = 32 := fun z => b (Or.inr z)
        rw [edn_at (by omega) (fun _ => decide_eq_false b), ← h14, sI_self, k_X12_ahead_0, h14, hb, bsm, if_neg (show ¬ ((nI (t p), τ) : Int32 × ST).1 = 32 by show ¬ nI (t p) = 32; rw [q32]; exact b2)]
        simp only []
        rw [h14, hb, bsm, if_neg (show ¬ ((nI (t p), τ) : Int32 × ST).1 = 10 by show ¬ nI (t p) = 10; rw [q10]; exact b1)]
        rfl
theorem r_ahead {t : Nat → Nat} {n p : Nat} {τ : ST} (hT : TX τ t n) (hp : p ≤ n) (h14 : gI τ 0 14 = nI p) : ∃ τ1, f_X12_ahead 0 τ = some τ1 ∧ Ra τ τ1 ∧ RT τ1 t n p := by
  have hn := hT.2.1
  have h1 : f_X12_ahead 0 τ = k00 (sI τ 0 14 (nI (tF t n p))) := r_ah_0 n p FU τ hT hp (by omega) (by unfold FU; omega) h14
  have hq := tF_sp t hp
  rw [h1]
  unfold RT tM tK tE
  generalize tF t n p = q at *
  have e14 : gI (sI τ 0 14 (nI q)) 0 14 = nI q := by rw [gI_sI, if_pos ⟨rfl, rfl⟩]
  unfold k00
  rw [e14, stIe, bsm]
  obtain ⟨τa, hτa⟩ : ∃ τa, τa = sI (sI τ 0 14 (nI q)) 0 13 (nI q) := ⟨_, rfl⟩
  rw [← hτa]
  have ha : Ra τ τa := by rw [hτa]; exact ((Ra.rf τ).sI _ (by omega)).sI _ (by omega)
  have hTa := ha.TX hT
  have a13 : gI τa 0 13 = nI q := by rw [hτa, gI_sI, if_pos ⟨rfl, rfl⟩]
  have a14 : gI τa 0 14 = nI q := by rw [hτa, gI_sI, if_neg (by decide), gI_sI, if_pos ⟨rfl, rfl⟩]
  rw [a14]
  by_cases c : n ≤ q
  · have e : q = n := by omega
    subst e
    rw [r_byteEnd hTa (Nat.le_refl _) (by omega), bsm]
    simp only [if_pos (Nat.le_refl q)]
    rw [stIe, bsm, if_pos (show mI = -1 from rfl), stIe, bsm]
    refine ⟨_, rfl, (ha.sI _ (by omega)).sI _ (by omega), by rw [gI_sI, if_pos ⟨rfl, rfl⟩]; rfl, ?_, ?_, fun z => absurd z (by decide), fun z => absurd z (by decide)⟩
    · rw [gI_sI, if_neg (by decide), gI_sI, if_neg (by decide)]; exact a13
    · rw [gI_sI, if_neg (by decide), gI_sI, if_neg (by decide)]; exact a14
  · have cl : q < n := by omega
    have ht := (hTa.2.2 q cl).2
    rw [r_byteAt hTa cl, bsm]
    simp only [if_neg c]
    rw [stIe, bsm, if_neg (show ¬ nI (t q) = -1 from fun z => by
      have : nI (t q) = mI := z
      rw [nI_mI (by omega)] at this; exact this)]
    have hb : Ra τ (sI τa 0 15 (nI (t q))) := ha.sI _ (by omega)
    have b13 : gI (sI τa 0 15 (nI (t q))) 0 13 = nI q := by rw [gI_sI, if_neg (by decide)]; exact a13
    have b14 : gI (sI τa 0 15 (nI (t q))) 0 14 = nI q := by rw [gI_sI, if_neg (by decide)]; exact a14
    have b15 : gI (sI τa 0 15 (nI (t q))) 0 15 = nI (t q) := by rw [gI_sI, if_pos ⟨rfl, rfl⟩]
    generalize sI τa 0 15 (nI (t q)) = τb at *
    rw [r_isSmall ht, bsm]
    cases b1 : pLe (t q)
    · rw [if_pos (show ((bI false, τb) : Int32 × ST).1 = 0 from rfl)]
      simp only [Bool.false_eq_true, if_false]
      rw [r_isDig ht, bsm]
      cases b2 : pDi (t q)
      · rw [if_pos (show ((bI false, τb) : Int32 × ST).1 = 0 from rfl)]
        simp only [Bool.false_eq_true, if_false]
        rw [b14, stIe, bsm, show nI q + 1 = nI (q + 1) from by rw [show (1 : Int32) = nI 1 from rfl, nI_add]]
        have q59 : (nI (t q) = (59 : Int32)) = (t q = 59) := nI_e (b := 59) (by omega) (by omega)
        have q60 : (nI (t q) = (60 : Int32)) = (t q = 60) := nI_e (b := 60) (by omega) (by omega)
        have q62 : (nI (t q) = (62 : Int32)) = (t q = 62) := nI_e (b := 62) (by omega) (by omega)
        have q61 : (nI (t q) = (61 : Int32)) = (t q = 61) := nI_e (b := 61) (by omega) (by omega)
        have yes : k_X12_ahead_243 0 (sI τb 0 14 (nI (q + 1))) = some (sI (sI τb 0 14 (nI (q + 1))) 0 12 (nI 4)) := Eq.trans rfl rfl
        have no : k_X12_ahead_248 0 1 (sI τb 0 14 (nI (q + 1))) = some (sI (sI τb 0 14 (nI (q + 1))) 0 12 (nI 1)) := Eq.trans rfl rfl
        refine ⟨sI (sI τb 0 14 (nI (q + 1))) 0 12 (nI (if isSg (t q) = true then 4 else 1)), ?_, (hb.sI _ (by omega)).sI _ (by omega), by rw [gI_sI, if_pos ⟨rfl, rfl⟩], ?_, ?_, ?_, ?_⟩
        · rw [yes, no]
          unfold isSg
          by_cases c1 : t q = 59
          · rw [if_pos (by rw [q59]; exact c1), if_pos (decide_eq_true (Or.inl c1))]
          · rw [if_neg (by rw [q59]; exact c1)]
            by_cases c2 : t q = 60
            · rw [if_pos (by rw [q60]; exact c2), if_pos (decide_eq_true (Or.inr (Or.inl c2)))]
            · rw [if_neg (by rw [q60]; exact c2)]
              by_cases c3 : t q = 62
              · rw [if_pos (by rw [q62]; exact c3), if_pos (decide_eq_true (Or.inr (Or.inr (Or.inl c3))))]
              · rw [if_neg (by rw [q62]; exact c3)]
                by_cases c4 : t q = 61
                · rw [if_pos (by rw [q61]; exact c4), if_pos (decide_eq_true (Or.inr (Or.inr (Or.inr c4))))]
                · rw [if_neg (by rw [q61]; exact c4), if_neg (fun z => by have := of_decide_eq_true z; omega)]
        · rw [gI_sI, if_neg (by decide), gI_sI, if_neg (by decide)]; exact b13
        · rw [gI_sI, if_neg (by decide), gI_sI, if_pos ⟨rfl, rfl⟩]
        · intro z; split at z <;> exact absurd z (by decide)
        · intro _; rw [gI_sI, if_neg (by decide), gI_sI, if_neg (by decide)]; exact b15
      · rw [if_neg (show ¬ ((bI true, τb) : Int32 × ST).1 = 0 from fun z => absurd (show bI true = 0 from z) (by decide))]
        simp only [if_true]
        rw [stIe, bsm]
        obtain ⟨τ1, d1, d2, d3, d4, d5, d6⟩ := r_ah_128 (q := q) n q FU (sI τb 0 15 (nI 0)) ((Ra.sI (Ra.rf τb) _ (by omega)).TX (hb.TX hT)) (Nat.le_refl _) (by omega) (by omega) (by unfold FU; omega) (by rw [gI_sI, if_neg (by decide)]; exact b13) (by rw [gI_sI, if_neg (by decide)]; exact b14) (fun j a1 a2 => by omega) (fun _ => by rw [gI_sI, if_pos ⟨rfl, rfl⟩, Nat.sub_self]; rfl)
        refine ⟨τ1, d1, (hb.sI _ (by omega)).trans d2, d5, d3, d4, fun z => d6 ?_, fun z => ?_⟩
        · by_cases c4 : edn pDi t n q - q ≤ 4
          · exact c4
          · rw [if_neg c4] at z; exact absurd z (by decide)
        · split at z <;> exact absurd z (by decide)
    · rw [if_neg (show ¬ ((bI true, τb) : Int32 × ST).1 = 0 from fun z => absurd (show bI true = 0 from z) (by decide))]
      simp only [if_true]
      refine ⟨_, r_ah_81 n q FU τb (hb.TX hT) (by omega) (by omega) (by unfold FU; omega) b14, (hb.sI _ (by omega)).sI _ (by omega), by rw [gI_sI, if_pos ⟨rfl, rfl⟩], ?_, ?_, fun z => absurd z (by decide), fun z => absurd z (by decide)⟩
      · rw [gI_sI, if_neg (by decide), gI_sI, if_neg (by decide)]; exact b13
      · rw [gI_sI, if_neg (by decide), gI_sI, if_pos ⟨rfl, rfl⟩]
/-! the own word of a token, by the reference's numbers; 26 none -/
def tW (t : Nat → Nat) (n p : Nat) : Nat := if tK t n p = 2 then (wdN t (tF t n p) (tM t n p)).getD 26 else 26
def cW (k : Nat) : Nat := [0, 3, 5, 1, 2, 4, 6, 7, 8, 9, 10, 11, 12, 13, 14, 15, 16, 17, 18, 19, 23, 24, 25, 20, 21, 22].getD k 0
theorem cW_tab : ∀ k : Fin 26, cW (pmW k.1) = k.1 := by decide +kernel
theorem cW_inj : ∀ a b : Fin 26, cW a.1 = cW b.1 → a = b := by decide +kernel
theorem cW_lt : ∀ a : Fin 26, cW a.1 < 26 := by decide +kernel
theorem wdN_some {t : Nat → Nat} {q m k : Nat} (hk : k < 26) (h : mtR (fun j => t (q + j)) m k = true) : wdN t q m = some k := by
  unfold wdN
  cases e : (List.range 26).find? (fun i => mtR (fun j => t (q + j)) m i) with
  | none => exact absurd h (List.find?_eq_none.mp e k (List.mem_range.mpr hk))
  | some j =>
    have h1 := List.find?_some e
    have h2 := List.mem_range.mp (List.mem_of_find?_eq_some e)
    rw [mtR_1 h2 hk h1 h]
theorem wdN_none {t : Nat → Nat} {q m : Nat} (h : ∀ k, k < 26 → mtR (fun j => t (q + j)) m k = false) : wdN t q m = none := by
  unfold wdN
  refine List.find?_eq_none.mpr (fun k hk z => ?_)
  rw [h k (List.mem_range.mp hk)] at z
  exact absurd z (by decide)
theorem tW_le (t : Nat → Nat) (n p : Nat) : tW t n p ≤ 26 := by
  unfold tW
  by_cases c : tK t n p = 2
  · rw [if_pos c]
    cases e : wdN t (tF t n p) (tM t n p) with
    | none => exact Nat.le_refl _
    | some j =>
      have h2 := List.mem_range.mp (List.mem_of_find?_eq_some e)
      show j ≤ 26
      omega
  · rw [if_neg c]; exact Nat.le_refl _
theorem own_c {t : Nat → Nat} {q m : Nat} {r : Int32} (h : OwC t q m r) : r = (if (wdN t q m).getD 26 = 26 then mI else nI (cW ((wdN t q m).getD 26))) := by
  rcases h with ⟨k, hk, h1, h2⟩ | ⟨h1, h2⟩
  · have hp : pmW k < 26 := (pm_tab ⟨k, hk⟩).1
    rw [wdN_some hp (by rw [mtW_R hk]; exact h1)]
    show r = if pmW k = 26 then mI else nI (cW (pmW k))
    rw [if_neg (by omega), cW_tab ⟨k, hk⟩]; exact h2
  · rw [wdN_none (fun k hk => ?_)]
    · exact h2
    · obtain ⟨i, hi⟩ := pm_onto ⟨k, hk⟩
      have hi' : pmW i.1 = k := hi
      rw [← hi', mtW_R i.2]; exact h1 i.1 i.2
theorem CT_8 {σ : ST} {t : Nat → Nat} {n p : Nat} (h : CT σ t n p) : gI σ 2 8 = if tW t n p = 26 then mI else nI (cW (tW t n p)) := by
  have h6 := h.2.2.2.2.2.1
  unfold tW
  by_cases c : tK t n p = 2
  · rw [if_pos c] at h6 ⊢
    exact own_c h6
  · rw [if_neg c] at h6 ⊢
    rw [if_pos rfl]; exact h6
theorem r_in {τ : ST} {t : Nat → Nat} {n p : Nat} (hT : TX τ t n) (hp : p ≤ n) (h : RT τ t n p) : f_X12_inWords 0 14 τ = some (if tW t n p = 26 then mI else nI (tW t n p), τ) := by
  have hn := hT.2.1
  have hs := tE_sp t hp
  have k12 : (nI (tK t n p) = (2 : Int32)) = (tK t n p = 2) := nI_e (b := 2) (by unfold tK; split <;> (try split) <;> (try split) <;> (try split) <;> omega) (by omega)
  unfold f_X12_inWords
  rw [h.1]
  unfold tW
  by_cases c : tK t n p = 2
  · rw [if_pos (by rw [k12]; exact c), if_pos c]
    obtain ⟨r, r1, r2⟩ := r_find (q := tF t n p) (m := tM t n p) hT (by unfold tM; omega) h.2.1 (by rw [h.2.2.1]; unfold tM; congr 1; omega) 26 0 FU rfl (by unfold FU; omega) (by decide)
    have r1' : k_X12_inWords_14 FU 0 14 0 1 τ = some (r, τ) := r1
    rw [r1']
    rcases r2 with ⟨k, _, hk, h1, h2⟩ | ⟨h1, h2⟩
    · rw [wdN_some hk h1, h2]
      show _ = some (if k = 26 then mI else nI k, τ)
      rw [if_neg (by omega)]
    · rw [wdN_none (fun k hk => h1 k (by omega) hk), h2]
      rfl
  · rw [if_neg (by rw [k12]; exact c), if_neg c, if_pos rfl]
    rfl
/-! letters as numbers -/
def lts (t : Nat → Nat) (q m : Nat) : List Nat := (List.range m).map (fun j => t (q + j))
theorem lt32 (t : Nat → Nat) (q : Nat) : ∀ m, ltN 32 (fun c => c - 96) t q m = n32 (lts t q m)
  | 0 => rfl
  | m + 1 => by
    rw [ltN, lt32 t q m]
    unfold lts n32
    rw [List.range_succ, List.map_append, List.foldl_append]
    rfl
theorem lt256 (t : Nat → Nat) (q : Nat) : ∀ m, ltN 256 (fun c => c) t q m = n256 (lts t q m)
  | 0 => rfl
  | m + 1 => by
    rw [ltN, lt256 t q m]
    unfold lts n256
    rw [List.range_succ, List.map_append, List.foldl_append]
    rfl
theorem n32_r (l : List Nat) : n32 l = l.reverse.foldr (fun c v => v * 32 + (c - 96)) 0 := by
  unfold n32; rw [List.foldr_reverse]
theorem n256_r (l : List Nat) : n256 l = l.reverse.foldr (fun c v => v * 256 + c) 0 := by
  unfold n256; rw [List.foldr_reverse]
theorem f32_inj : ∀ l l' : List Nat, (∀ c, c ∈ l → 97 ≤ c ∧ c ≤ 122) → (∀ c, c ∈ l' → 97 ≤ c ∧ c ≤ 122) → l.foldr (fun c v => v * 32 + (c - 96)) 0 = l'.foldr (fun c v => v * 32 + (c - 96)) 0 → l = l'
  | [], [], _, _, _ => rfl
  | [], c :: r, _, h2, h => by
    have := h2 c (by simp)
    simp only [List.foldr_cons, List.foldr_nil] at h
    omega
  | c :: r, [], h1, _, h => by
    have := h1 c (by simp)
    simp only [List.foldr_cons, List.foldr_nil] at h
    omega
  | c :: r, c' :: r', h1, h2, h => by
    have a1 := h1 c (by simp)
    have a2 := h2 c' (by simp)
    simp only [List.foldr_cons] at h
    have := f32_inj r r' (fun x hx => h1 x (by simp [hx])) (fun x hx => h2 x (by simp [hx])) (by omega)
    rw [this] at h ⊢
    congr 1
    omega
theorem f256_inj : ∀ l l' : List Nat, (∀ c, c ∈ l → 97 ≤ c ∧ c ≤ 122) → (∀ c, c ∈ l' → 97 ≤ c ∧ c ≤ 122) → l.foldr (fun c v => v * 256 + c) 0 = l'.foldr (fun c v => v * 256 + c) 0 → l = l'
  | [], [], _, _, _ => rfl
  | [], c :: r, _, h2, h => by
    have := h2 c (by simp)
    simp only [List.foldr_cons, List.foldr_nil] at h
    omega
  | c :: r, [], h1, _, h => by
    have := h1 c (by simp)
    simp only [List.foldr_cons, List.foldr_nil] at h
    omega
  | c :: r, c' :: r', h1, h2, h => by
    have a1 := h1 c (by simp)
    have a2 := h2 c' (by simp)
    simp only [List.foldr_cons] at h
    have := f256_inj r r' (fun x hx => h1 x (by simp [hx])) (fun x hx => h2 x (by simp [hx])) (by omega)
    rw [this] at h ⊢
    congr 1
    omega
theorem f256_lt : ∀ l : List Nat, (∀ c, c ∈ l → 97 ≤ c ∧ c ≤ 122) → l.foldr (fun c v => v * 256 + c) 0 < 256 ^ l.length
  | [], _ => by simp
  | c :: r, h => by
    have := f256_lt r (fun x hx => h x (by simp [hx]))
    have a := h c (by simp)
    simp only [List.foldr_cons, List.length_cons, Nat.pow_succ]
    omega
theorem f32_lt : ∀ l : List Nat, (∀ c, c ∈ l → 97 ≤ c ∧ c ≤ 122) → l.foldr (fun c v => v * 32 + (c - 96)) 0 < 32 ^ l.length
  | [], _ => by simp
  | c :: r, h => by
    have := f32_lt r (fun x hx => h x (by simp [hx]))
    have a := h c (by simp)
    simp only [List.foldr_cons, List.length_cons, Nat.pow_succ]
    omega
theorem oN64 {a b : Nat} (ha : a < 2 ^ 64) (hb : b < 2 ^ 64) (h : Int64.ofNat a = Int64.ofNat b) : a = b := by
  have := congrArg (fun x : Int64 => x.toBitVec.toNat) h
  have h1 : ∀ n, (Int64.ofNat n).toBitVec.toNat = n % 2 ^ 64 := fun n => rfl
  simp only [h1] at this
  omega
theorem nm_eq {a b : Int64} {l : List Nat} (h : NmR a b) (h1 : 1 ≤ l.length) (h2 : l.length ≤ 8) (hl : ∀ c, c ∈ l → 97 ≤ c ∧ c ≤ 122) : (a = Int64.ofNat (n32 l)) ↔ (b = Int64.ofNat (n256 l)) := by
  obtain ⟨l', k1, k2, k3, k4, k5⟩ := h
  have r1 : ∀ c, c ∈ l.reverse → 97 ≤ c ∧ c ≤ 122 := fun c hc => hl c (List.mem_reverse.mp hc)
  have r2 : ∀ c, c ∈ l'.reverse → 97 ≤ c ∧ c ≤ 122 := fun c hc => k3 c (List.mem_reverse.mp hc)
  have p1 : (32 : Nat) ^ l.reverse.length ≤ 32 ^ 8 := Nat.pow_le_pow_right (by omega) (by rw [List.length_reverse]; exact h2)
  have p2 : (32 : Nat) ^ l'.reverse.length ≤ 32 ^ 8 := Nat.pow_le_pow_right (by omega) (by rw [List.length_reverse]; exact k2)
  have p3 : (256 : Nat) ^ l.reverse.length ≤ 256 ^ 8 := Nat.pow_le_pow_right (by omega) (by rw [List.length_reverse]; exact h2)
  have p4 : (256 : Nat) ^ l'.reverse.length ≤ 256 ^ 8 := Nat.pow_le_pow_right (by omega) (by rw [List.length_reverse]; exact k2)
  have e1 := f32_lt _ r1
  have e2 := f32_lt _ r2
  have e3 := f256_lt _ r1
  have e4 := f256_lt _ r2
  rw [k4, k5, n32_r, n32_r, n256_r, n256_r]
  constructor
  · intro z
    have := f32_inj _ _ r2 r1 (oN64 (by omega) (by omega) z)
    rw [this]
  · intro z
    have := f256_inj _ _ r2 r1 (oN64 (by omega) (by omega) z)
    rw [this]
theorem lg_eq {x y : Int64} : (lg_cmp x y = 0) = (x = y) := by
  unfold lg_cmp
  apply propext
  by_cases h : x > y
  · rw [if_pos h]
    have h2 := Int64.lt_iff_toInt_lt.mp h
    constructor
    · intro q; exact absurd q (by decide)
    · intro q; rw [q] at h2; omega
  · rw [if_neg h]
    by_cases h3 : x = y
    · rw [if_pos h3]; exact ⟨fun _ => h3, fun _ => rfl⟩
    · rw [if_neg h3]
      exact ⟨fun q => absurd q (by decide), fun q => absurd q h3⟩
