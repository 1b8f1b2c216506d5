/-! a token, and the class behind step() -/
def tF (t : Nat → Nat) (n p : Nat) : Nat := edn pBl t n p
def isSg (c : Nat) : Bool := decide (c = 59 ∨ c = 60 ∨ c = 62 ∨ c = 61)
/-- its kind, as the reference counts: 0 the end, 1 none, 2 a word, 3 a number, 4 a sign -/
def tK (t : Nat → Nat) (n p : Nat) : Nat := if n ≤ tF t n p then 0 else if pLe (t (tF t n p)) = true then 2 else if pDi (t (tF t n p)) = true then (if edn pDi t n (tF t n p) - tF t n p ≤ 4 then 3 else 1) else if isSg (t (tF t n p)) = true then 4 else 1
def tE (t : Nat → Nat) (n p : Nat) : Nat := if n ≤ tF t n p then n else if pLe (t (tF t n p)) = true then edn pLe t n (tF t n p) else if pDi (t (tF t n p)) = true then edn pDi t n (tF t n p) else tF t n p + 1
def tM (t : Nat → Nat) (n p : Nat) : Nat := tE t n p - tF t n p
def ckd (k : Nat) : Nat := [0, 4, 1, 2, 3].getD k 0
def CT (σ : ST) (t : Nat → Nat) (n p : Nat) : Prop := gI σ 2 4 = nI (ckd (tK t n p)) ∧ gI σ 2 5 = nI (tF t n p) ∧ gI σ 2 11 = nI (tE t n p) ∧ (tK t n p = 3 → gI σ 2 6 = nI (dgN t (tF t n p) (tM t n p))) ∧ (tK t n p = 4 → gI σ 2 7 = nI (t (tF t n p))) ∧ (if tK t n p = 2 then OwC t (tF t n p) (tM t n p) (gI σ 2 8) else gI σ 2 8 = mI) ∧ gJ σ 2 9 = (if tK t n p = 2 ∧ gI σ 2 8 = mI ∧ tM t n p ≤ 8 then lN (ltN 32 (fun c => c - 96) t (tF t n p) (tM t n p)) else -1)
theorem tF_sp (t : Nat → Nat) {n p : Nat} (h : p ≤ n) : p ≤ tF t n p ∧ tF t n p ≤ n := ⟨(edn_spec pBl t h).1, (edn_spec pBl t h).2.1⟩
theorem tE_sp (t : Nat → Nat) {n p : Nat} (h : p ≤ n) : tF t n p ≤ tE t n p ∧ tE t n p ≤ n ∧ (tF t n p < n → tF t n p < tE t n p) := by
  have h1 := tF_sp t h
  unfold tE
  by_cases c : n ≤ tF t n p
  · rw [if_pos c]; omega
  · rw [if_neg c]
    by_cases c1 : pLe (t (tF t n p)) = true
    · rw [if_pos c1, edn_s (by omega) c1]
      have := edn_spec pLe t (show tF t n p + 1 ≤ n by omega)
      exact ⟨by have := this.1; omega, this.2.1, fun _ => by have := this.1; omega⟩
    · rw [if_neg c1]
      by_cases c2 : pDi (t (tF t n p)) = true
      · rw [if_pos c2, edn_s (by omega) c2]
        have := edn_spec pDi t (show tF t n p + 1 ≤ n by omega)
        exact ⟨by have := this.1; omega, this.2.1, fun _ => by have := this.1; omega⟩
      · rw [if_neg c2]; omega
theorem c_step {t : Nat → Nat} {n p : Nat} {σ : ST} (hT : TC σ t n) (hp : p ≤ n) (h11 : gI σ 2 11 = nI p) : ∃ σ1, f_X6_step 2 σ = some σ1 ∧ Rd [4, 5, 6, 7, 8, 11] σ σ1 ∧ CT σ1 t n p := by
  have hn := hT.2.1
  obtain ⟨_, _, h1⟩ := c_step_0 n p FU σ hT hp (by omega) (by unfold FU; omega) h11
  have hq := tF_sp t hp
  have h1' : f_X6_step 2 σ = k_X6_step_52 2 (sI σ 2 11 (nI (tF t n p))) := h1
  rw [h1']
  unfold CT tM tK tE
  generalize tF t n p = q at *
  have e11 : gI (sI σ 2 11 (nI q)) 2 11 = nI q := by rw [gI_sI, if_pos ⟨rfl, rfl⟩]
  rw [s52 e11]
  obtain ⟨σa, hσa⟩ : ∃ σa, σa = sJ (sI (sI (sI σ 2 11 (nI q)) 2 5 (nI q)) 2 8 mI) 2 9 (-1) := ⟨_, rfl⟩
  rw [← hσa]
  have ha : Rd [4, 5, 6, 7, 8, 11] σ σa := by rw [hσa]; exact ((((Rd.rf _ σ).sI _ rfl).sI _ rfl).sI _ rfl).sJ _
  have hTa := ha.TC rfl hT
  have a5 : gI σa 2 5 = nI q := by rw [hσa, gI_sJ, gI_sI, if_neg (by decide), gI_sI, if_pos ⟨rfl, rfl⟩]
  have a11 : gI σa 2 11 = nI q := by rw [hσa, gI_sJ, gI_sI, if_neg (by decide), gI_sI, if_neg (by decide), gI_sI, if_pos ⟨rfl, rfl⟩]
  have a8 : gI σa 2 8 = mI := by rw [hσa, gI_sJ, gI_sI, if_pos ⟨rfl, rfl⟩]
  have a9 : gJ σa 2 9 = -1 := by rw [hσa, gJ_sJ, if_pos ⟨rfl, rfl⟩]
  by_cases c : n ≤ q
  · have e : q = n := by omega
    subst e
    refine ⟨sI σa 2 4 (nI 0), k52_end a11 hTa.1 hn (by omega) (Nat.le_refl _), ha.sI _ rfl, ?_⟩
    simp only [if_pos (Nat.le_refl q)]
    refine ⟨by rw [gI_sI, if_pos ⟨rfl, rfl⟩]; rfl, by rw [gI_sI, if_neg (by decide)]; exact a5, by rw [gI_sI, if_neg (by decide)]; exact a11, fun z => absurd z (by decide), fun z => absurd z (by decide), ?_, ?_⟩
    · rw [if_neg (by decide), gI_sI, if_neg (by decide)]; exact a8
    · rw [if_neg (fun z => absurd z.1 (by decide))]; exact a9
  · have cl : q < n := by omega
    simp only [if_neg c]
    cases b1 : pLe (t q)
    · simp only [Bool.false_eq_true, if_false]
      cases b2 : pDi (t q)
      · simp only [Bool.false_eq_true, if_false]
        refine ⟨_, k52_sg hTa a11 cl b1 b2, ((ha.sI _ rfl).sI _ rfl).sI _ rfl, ?_⟩
        have fin : ∀ k : Nat, gI (sI (sI (sI σa 2 7 (nI (t q))) 2 4 (nI k)) 2 11 (nI (q + 1))) 2 4 = nI k ∧ gI (sI (sI (sI σa 2 7 (nI (t q))) 2 4 (nI k)) 2 11 (nI (q + 1))) 2 5 = nI q ∧ gI (sI (sI (sI σa 2 7 (nI (t q))) 2 4 (nI k)) 2 11 (nI (q + 1))) 2 11 = nI (q + 1) ∧ gI (sI (sI (sI σa 2 7 (nI (t q))) 2 4 (nI k)) 2 11 (nI (q + 1))) 2 7 = nI (t q) ∧ gI (sI (sI (sI σa 2 7 (nI (t q))) 2 4 (nI k)) 2 11 (nI (q + 1))) 2 8 = mI ∧ gJ (sI (sI (sI σa 2 7 (nI (t q))) 2 4 (nI k)) 2 11 (nI (q + 1))) 2 9 = -1 := fun k => ⟨by rw [gI_sI, if_neg (by decide), gI_sI, if_pos ⟨rfl, rfl⟩], by rw [gI_sI, if_neg (by decide), gI_sI, if_neg (by decide), gI_sI, if_neg (by decide)]; exact a5, by rw [gI_sI, if_pos ⟨rfl, rfl⟩], by rw [gI_sI, if_neg (by decide), gI_sI, if_neg (by decide), gI_sI, if_pos ⟨rfl, rfl⟩], by rw [gI_sI, if_neg (by decide), gI_sI, if_neg (by decide), gI_sI, if_neg (by decide)]; exact a8, a9⟩
        cases b3 : isSg (t q)
        · rw [if_neg (of_decide_eq_false b3)]
          simp only [Bool.false_eq_true, if_false]
          obtain ⟨f2, f3, f4, f5, f6, f7⟩ := fin 4
          refine ⟨f2, f3, f4, fun z => absurd z (by decide), fun z => absurd z (by decide), ?_, ?_⟩
          · rw [if_neg (by decide)]; exact f6
          · rw [if_neg (fun z => absurd z.1 (by decide))]; exact f7
        · rw [if_pos (of_decide_eq_true b3)]
          simp only [if_true]
          obtain ⟨f2, f3, f4, f5, f6, f7⟩ := fin 3
          refine ⟨f2, f3, f4, fun z => absurd z (by decide), fun _ => f5, ?_, ?_⟩
          · rw [if_neg (by decide)]; exact f6
          · rw [if_neg (fun z => absurd z.1 (by decide))]; exact f7
      · simp only [if_true]
        obtain ⟨σ1, d1, d2, d3, d4, d5, d6⟩ := c_num_10 (q := q) n q FU (sI (sI σa 2 4 (nI 2)) 2 6 (nI 0)) (TC_sI (TC_sI hTa (by decide) _) (by decide) _) (Nat.le_refl _) (by omega) (by omega) (by unfold FU; omega) (by rw [gI_sI, if_neg (by decide), gI_sI, if_neg (by decide)]; exact a5) (by rw [gI_sI, if_neg (by decide), gI_sI, if_neg (by decide)]; exact a11) (fun _ => ⟨by rw [gI_sI, if_neg (by decide), gI_sI, if_pos ⟨rfl, rfl⟩], by rw [gI_sI, if_pos ⟨rfl, rfl⟩, Nat.sub_self]; rfl⟩) (fun z => by omega)
        have k5 : gI σ1 2 5 = nI q := by rw [d2.1 2 5 (by decide), gI_sI, if_neg (by decide), gI_sI, if_neg (by decide)]; exact a5
        have k8 : gI σ1 2 8 = mI := by rw [d2.1 2 8 (by decide), gI_sI, if_neg (by decide), gI_sI, if_neg (by decide)]; exact a8
        have k9 : gJ σ1 2 9 = -1 := by rw [d6, gJ_sI, gJ_sI]; exact a9
        refine ⟨σ1, (k52_di hTa a11 cl b1 b2).trans d1, (((ha.sI _ rfl).sI _ rfl)).trans (d2.mono (fun k hk => by simp at hk ⊢; omega)), ?_⟩
        by_cases c4 : edn pDi t n q - q ≤ 4
        · rw [if_pos c4]
          obtain ⟨d4a, d4b⟩ := d4 c4
          refine ⟨d4a, k5, d3, fun _ => d4b, fun z => absurd z (by decide), ?_, ?_⟩
          · rw [if_neg (by decide)]; exact k8
          · rw [if_neg (fun z => absurd z.1 (by decide))]; exact k9
        · rw [if_neg c4]
          refine ⟨d5 (by omega), k5, d3, fun z => absurd z (by decide), fun z => absurd z (by decide), ?_, ?_⟩
          · rw [if_neg (by decide)]; exact k8
          · rw [if_neg (fun z => absurd z.1 (by decide))]; exact k9
    · simp only [if_true]
      obtain ⟨σ1, r, d1, d2, d3, d4, d5, d6, d7⟩ := c_stepWord hTa cl a5 a11 a9
      refine ⟨σ1, (k52_go hTa a11 cl b1).trans d1, ha.trans (d2.mono (fun k hk => by simp at hk ⊢; omega)), d3, ?_, d4, fun z => absurd z (by decide), fun z => absurd z (by decide), ?_, ?_⟩
      · rw [d2.1 2 5 (by decide)]; exact a5
      · rw [d5]; exact d6
      · rw [d7, d5]
        by_cases z : r = mI ∧ edn pLe t n q - q ≤ 8
        · rw [if_pos z, if_pos ⟨trivial, z⟩]
        · rw [if_neg z, if_neg (fun y => z y.2)]
/-! the reference's ahead() -/
def Ra (τ τ1 : ST) : Prop := (∀ x k, ¬ (x = 0 ∧ (k = 12 ∨ k = 13 ∨ k = 14 ∨ k = 15)) → gI τ1 x k = gI τ x k) ∧ (∀ x k, gJ τ1 x k = gJ τ x k) ∧ (∀ x, gA τ1 x = gA τ x) ∧ ∀ x, gB τ1 x = gB τ x
theorem Ra.rf (τ : ST) : Ra τ τ := ⟨fun _ _ _ => rfl, fun _ _ => rfl, fun _ => rfl, fun _ => rfl⟩
theorem Ra.trans {τ τ1 τ2 : ST} (h : Ra τ τ1) (h2 : Ra τ1 τ2) : Ra τ τ2 := ⟨fun x k a => (h2.1 x k a).trans (h.1 x k a), fun x k => (h2.2.1 x k).trans (h.2.1 x k), fun x => (h2.2.2.1 x).trans (h.2.2.1 x), fun x => (h2.2.2.2 x).trans (h.2.2.2 x)⟩
theorem Ra.sI {τ τ1 : ST} (h : Ra τ τ1) {k : Nat} (v : Int32) (hk : k = 12 ∨ k = 13 ∨ k = 14 ∨ k = 15) : Ra τ (sI τ1 0 k v) := h.trans ⟨fun x j a => by
  rw [gI_sI, if_neg (fun z => a ⟨z.1, by rw [z.2]; exact hk⟩)], fun _ _ => rfl, fun _ => rfl, fun _ => rfl⟩
theorem Ra.TX {τ τ1 : ST} (h : Ra τ τ1) {t : Nat → Nat} {n : Nat} (hT : TX τ t n) : TX τ1 t n := ⟨by rw [h.1 0 11 (by decide)]; exact hT.1, hT.2.1, fun k hk => by rw [h.2.2.1]; exact hT.2.2 k hk⟩
theorem r_isSmall {c : Nat} (hc : c < 256) (σ : ST) : f_X12_isSmall (nI c) σ = some (bI (pLe c), σ) := by
  unfold pLe
  by_cases h1 : c < 97
  · rw [decide_eq_false (by omega)]
    simp (disch := omega) only [↓mI_e, lit, ofN, bsm, nI_add, pk_mul, pk_sub, nI_e, nI_leE, nI_ltE, nI_mI, mI_nI, mI_lt, nlt_mI, mI_le, nle_mI, nI_addm, sh_b, bI_0, bI_1, bI_bI, ckZ_b, ckZ_n0, ckZ_n1, stIe, stJe, stZ_n0, stZ_n1, rm_nI, dv_nI, if_true, if_false, if_pos, if_neg, rf0, rf1, rf5, rf6, rf7, rf8, rf9, rf20, rf23, rf24, rf25, rf26, rf29, rf31, rf33, rf34, rf35, rf37, rf38, rf41, rf42, rf43,  f_X12_isSmall, k_X12_isSmall_16, k_X12_isSmall_17, h1, bI_f]
  · by_cases h2 : 122 < c
    · rw [decide_eq_false (by omega)]
      simp (disch := omega) only [↓mI_e, lit, ofN, bsm, nI_add, pk_mul, pk_sub, nI_e, nI_leE, nI_ltE, nI_mI, mI_nI, mI_lt, nlt_mI, mI_le, nle_mI, nI_addm, sh_b, bI_0, bI_1, bI_bI, ckZ_b, ckZ_n0, ckZ_n1, stIe, stJe, stZ_n0, stZ_n1, rm_nI, dv_nI, if_true, if_false, if_pos, if_neg, rf0, rf1, rf5, rf6, rf7, rf8, rf9, rf20, rf23, rf24, rf25, rf26, rf29, rf31, rf33, rf34, rf35, rf37, rf38, rf41, rf42, rf43,  f_X12_isSmall, k_X12_isSmall_16, k_X12_isSmall_17, h1, h2, bI_f]
    · rw [decide_eq_true (by omega)]
      simp (disch := omega) only [↓mI_e, lit, ofN, bsm, nI_add, pk_mul, pk_sub, nI_e, nI_leE, nI_ltE, nI_mI, mI_nI, mI_lt, nlt_mI, mI_le, nle_mI, nI_addm, sh_b, bI_0, bI_1, bI_bI, ckZ_b, ckZ_n0, ckZ_n1, stIe, stJe, stZ_n0, stZ_n1, rm_nI, dv_nI, if_true, if_false, if_pos, if_neg, rf0, rf1, rf5, rf6, rf7, rf8, rf9, rf20, rf23, rf24, rf25, rf26, rf29, rf31, rf33, rf34, rf35, rf37, rf38, rf41, rf42, rf43,  f_X12_isSmall, k_X12_isSmall_16, k_X12_isSmall_17, h1, h2, bI_t]
theorem r_isDig {c : Nat} (hc : c < 256) (σ : ST) : f_X12_isDigit (nI c) σ = some (bI (pDi c), σ) := by
  unfold pDi
  by_cases h1 : c < 48
  · rw [decide_eq_false (by omega)]
    simp (disch := omega) only [↓mI_e, lit, ofN, bsm, nI_add, pk_mul, pk_sub, nI_e, nI_leE, nI_ltE, nI_mI, mI_nI, mI_lt, nlt_mI, mI_le, nle_mI, nI_addm, sh_b, bI_0, bI_1, bI_bI, ckZ_b, ckZ_n0, ckZ_n1, stIe, stJe, stZ_n0, stZ_n1, rm_nI, dv_nI, if_true, if_false, if_pos, if_neg, rf0, rf1, rf5, rf6, rf7, rf8, rf9, rf20, rf23, rf24, rf25, rf26, rf29, rf31, rf33, rf34, rf35, rf37, rf38, rf41, rf42, rf43,  f_X12_isDigit, k_X12_isDigit_16, k_X12_isDigit_17, h1, bI_f]
  · by_cases h2 : 57 < c
    · rw [decide_eq_false (by omega)]
      simp (disch := omega) only [↓mI_e, lit, ofN, bsm, nI_add, pk_mul, pk_sub, nI_e, nI_leE, nI_ltE, nI_mI, mI_nI, mI_lt, nlt_mI, mI_le, nle_mI, nI_addm, sh_b, bI_0, bI_1, bI_bI, ckZ_b, ckZ_n0, ckZ_n1, stIe, stJe, stZ_n0, stZ_n1, rm_nI, dv_nI, if_true, if_false, if_pos, if_neg, rf0, rf1, rf5, rf6, rf7, rf8, rf9, rf20, rf23, rf24, rf25, rf26, rf29, rf31, rf33, rf34, rf35, rf37, rf38, rf41, rf42, rf43,  f_X12_isDigit, k_X12_isDigit_16, k_X12_isDigit_17, h1, h2, bI_f]
    · rw [decide_eq_true (by omega)]
      simp (disch := omega) only [↓mI_e, lit, ofN, bsm, nI_add, pk_mul, pk_sub, nI_e, nI_leE, nI_ltE, nI_mI, mI_nI, mI_lt, nlt_mI, mI_le, nle_mI, nI_addm, sh_b, bI_0, bI_1, bI_bI, ckZ_b, ckZ_n0, ckZ_n1, stIe, stJe, stZ_n0, stZ_n1, rm_nI, dv_nI, if_true, if_false, if_pos, if_neg, rf0, rf1, rf5, rf6, rf7, rf8, rf9, rf20, rf23, rf24, rf25, rf26, rf29, rf31, rf33, rf34, rf35, rf37, rf38, rf41, rf42, rf43,  f_X12_isDigit, k_X12_isDigit_16, k_X12_isDigit_17, h1, h2, bI_t]
theorem r_isSmall_m (σ : ST) : f_X12_isSmall mI σ = some (nI 0, σ) := by simp (disch := omega) only [↓mI_e, lit, ofN, bsm, nI_add, pk_mul, pk_sub, nI_e, nI_leE, nI_ltE, nI_mI, mI_nI, mI_lt, nlt_mI, mI_le, nle_mI, nI_addm, sh_b, bI_0, bI_1, bI_bI, ckZ_b, ckZ_n0, ckZ_n1, stIe, stJe, stZ_n0, stZ_n1, rm_nI, dv_nI, if_true, if_false, if_pos, if_neg, rf0, rf1, rf5, rf6, rf7, rf8, rf9, rf20, rf23, rf24, rf25, rf26, rf29, rf31, rf33, rf34, rf35, rf37, rf38, rf41, rf42, rf43,  f_X12_isSmall, k_X12_isSmall_16, k_X12_isSmall_17]
theorem r_isDig_m (σ : ST) : f_X12_isDigit mI σ = some (nI 0, σ) := by simp (disch := omega) only [↓mI_e, lit, ofN, bsm, nI_add, pk_mul, pk_sub, nI_e, nI_leE, nI_ltE, nI_mI, mI_nI, mI_lt, nlt_mI, mI_le, nle_mI, nI_addm, sh_b, bI_0, bI_1, bI_bI, ckZ_b, ckZ_n0, ckZ_n1, stIe, stJe, stZ_n0, stZ_n1, rm_nI, dv_nI, if_true, if_false, if_pos, if_neg, rf0, rf1, rf5, rf6, rf7, rf8, rf9, rf20, rf23, rf24, rf25, rf26, rf29, rf31, rf33, rf34, rf35, rf37, rf38, rf41, rf42, rf43,  f_X12_isDigit, k_X12_isDigit_16, k_X12_isDigit_17]
theorem r_ah_81 {t : Nat → Nat} {n : Nat} : ∀ (m p N : Nat) (τ : ST), TX τ t n → p ≤ n → n - p ≤ m → m < N → gI τ 0 14 = nI p → k_X12_ahead_81 N 0 τ = some (sI (sI τ 0 14 (nI (edn pLe t n p))) 0 12 (nI 2)) := by
  intro m
  induction m with
  | zero =>
    intro p N τ hT hp hm hN h14
    obtain ⟨N1, rfl⟩ : ∃ N1, N = N1 + 1 := ⟨N - 1, by omega⟩
    have hn := hT.2.1
    have e : p = n := by omega
    subst e
    rw [edn_at (Nat.le_refl _) (fun z => by omega), ← h14, sI_self, k_X12_ahead_81]
    have hb := r_byteEnd hT (Nat.le_refl _) (by omega)
    simp (disch := omega) only [↓mI_e, lit, ofN, bsm, nI_add, pk_mul, pk_sub, nI_e, nI_leE, nI_ltE, nI_mI, mI_nI, mI_lt, nlt_mI, mI_le, nle_mI, nI_addm, sh_b, bI_0, bI_1, bI_bI, ckZ_b, ckZ_n0, ckZ_n1, stIe, stJe, stZ_n0, stZ_n1, rm_nI, dv_nI, if_true, if_false, if_pos, if_neg, rf0, rf1, rf5, rf6, rf7, rf8, rf9, rf20, rf23, rf24, rf25, rf26, rf29, rf31, rf33, rf34, rf35, rf37, rf38, rf41, rf42, rf43,  h14, hb, r_isSmall_m, k_X12_ahead_251]
  | succ m ih =>
    intro p N τ hT hp hm hN h14
    obtain ⟨N1, rfl⟩ : ∃ N1, N = N1 + 1 := ⟨N - 1, by omega⟩
    have hn := hT.2.1
    by_cases c : n ≤ p
    · have e : p = n := by omega
      subst e
      rw [edn_at (Nat.le_refl _) (fun z => by omega), ← h14, sI_self, k_X12_ahead_81]
      have hb := r_byteEnd hT (Nat.le_refl _) (by omega)
      simp (disch := omega) only [↓mI_e, lit, ofN, bsm, nI_add, pk_mul, pk_sub, nI_e, nI_leE, nI_ltE, nI_mI, mI_nI, mI_lt, nlt_mI, mI_le, nle_mI, nI_addm, sh_b, bI_0, bI_1, bI_bI, ckZ_b, ckZ_n0, ckZ_n1, stIe, stJe, stZ_n0, stZ_n1, rm_nI, dv_nI, if_true, if_false, if_pos, if_neg, rf0, rf1, rf5, rf6, rf7, rf8, rf9, rf20, rf23, rf24, rf25, rf26, rf29, rf31, rf33, rf34, rf35, rf37, rf38, rf41, rf42, rf43,  h14, hb, r_isSmall_m, k_X12_ahead_251]
    · have hb := r_byteAt hT (show p < n by omega)
      have hs := r_isSmall (hT.2.2 p (by omega)).2 τ
      have n10 : (nI 1 = nI 0) = False := eq_false (by decide)
      cases b : pLe (t p)
      · rw [b] at hs
        rw [edn_at (by omega) (fun _ => b), ← h14, sI_self, k_X12_ahead_81]
        simp (disch := omega) only [↓mI_e, lit, ofN, bsm, nI_add, pk_mul, pk_sub, nI_e, nI_leE, nI_ltE, nI_mI, mI_nI, mI_lt, nlt_mI, mI_le, nle_mI, nI_addm, sh_b, bI_0, bI_1, bI_bI, ckZ_b, ckZ_n0, ckZ_n1, stIe, stJe, stZ_n0, stZ_n1, rm_nI, dv_nI, if_true, if_false, if_pos, if_neg, rf0, rf1, rf5, rf6, rf7, rf8, rf9, rf20, rf23, rf24, rf25, rf26, rf29, rf31, rf33, rf34, rf35, rf37, rf38, rf41, rf42, rf43,  h14, hb, hs, bI_f, k_X12_ahead_251]
      · rw [b] at hs
        rw [edn_s (show p < n by omega) b]
        have := ih (p + 1) N1 (sI τ 0 14 (nI (p + 1))) (((Ra.rf τ).sI _ (by omega)).TX hT) (by omega) (by omega) (by omega) (by rw [gI_sI, if_pos ⟨rfl, rfl⟩])
        rw [sI_sI] at this
        rw [k_X12_ahead_81]
        simp (disch := omega) only [↓mI_e, lit, ofN, bsm, nI_add, pk_mul, pk_sub, nI_e, nI_leE, nI_ltE, nI_mI, mI_nI, mI_lt, nlt_mI, mI_le, nle_mI, nI_addm, sh_b, bI_0, bI_1, bI_bI, ckZ_b, ckZ_n0, ckZ_n1, stIe, stJe, stZ_n0, stZ_n1, rm_nI, dv_nI, if_true, if_false, if_pos, if_neg, rf0, rf1, rf5, rf6, rf7, rf8, rf9, rf20, rf23, rf24, rf25, rf26, rf29, rf31, rf33, rf34, rf35, rf37, rf38, rf41, rf42, rf43,  h14, hb, hs, bI_t, n10]
        exact this
theorem dgN_le {t : Nat → Nat} {q : Nat} : ∀ m, (∀ j, j < m → pDi (t (q + j)) = true) → dgN t q m < 10 ^ m
  | 0, _ => by simp [dgN]
  | m + 1, h => by
    have := dgN_le m (fun j hj => h j (by omega))
    have h2 := of_decide_eq_true (h m (by omega))
    rw [dgN, Nat.pow_succ]
    omega
theorem r_ah_128 {t : Nat → Nat} {n q : Nat} : ∀ (m p N : Nat) (τ : ST), TX τ t n → q ≤ p → p ≤ n → n - p ≤ m → m < N → gI τ 0 13 = nI q → gI τ 0 14 = nI p → (∀ j, q ≤ j → j < p → pDi (t j) = true) → (p - q ≤ 4 → gI τ 0 15 = nI (dgN t q (p - q))) → ∃ τ1, k_X12_ahead_128 N 0 τ = some τ1 ∧ Ra τ τ1 ∧ gI τ1 0 13 = nI q ∧ gI τ1 0 14 = nI (edn pDi t n p) ∧ gI τ1 0 12 = nI (if edn pDi t n p - q ≤ 4 then 3 else 1) ∧ (edn pDi t n p - q ≤ 4 → gI τ1 0 15 = nI (dgN t q (edn pDi t n p - q))) := by
  intro m
  have stop : ∀ (p N : Nat) (τ : ST), TX τ t n → q ≤ p → p ≤ n → gI τ 0 13 = nI q → gI τ 0 14 = nI p → (p - q ≤ 4 → gI τ 0 15 = nI (dgN t q (p - q))) → ∃ τ1, (if ((gI τ 0 14) - (gI τ 0 13)) ≤ 4 then (k_X12_ahead_202 0 3 τ) else (k_X12_ahead_202 0 1 τ)) = some τ1 ∧ Ra τ τ1 ∧ gI τ1 0 13 = nI q ∧ gI τ1 0 14 = nI p ∧ gI τ1 0 12 = nI (if p - q ≤ 4 then 3 else 1) ∧ (p - q ≤ 4 → gI τ1 0 15 = nI (dgN t q (p - q))) := by
    intro p N τ hT hq hp h13 h14 h15
    have hn := hT.2.1
    refine ⟨sI τ 0 12 (nI (if p - q ≤ 4 then 3 else 1)), ?_, (Ra.rf τ).sI _ (by omega), by rw [gI_sI, if_neg (by decide)]; exact h13, by rw [gI_sI, if_neg (by decide)]; exact h14, by rw [gI_sI, if_pos ⟨rfl, rfl⟩], fun z => by rw [gI_sI, if_neg (by decide)]; exact h15 z⟩
    by_cases c : p - q ≤ 4
    · simp (disch := omega) only [↓mI_e, lit, ofN, bsm, nI_add, pk_mul, pk_sub, nI_e, nI_leE, nI_ltE, nI_mI, mI_nI, mI_lt, nlt_mI, mI_le, nle_mI, nI_addm, sh_b, bI_0, bI_1, bI_bI, ckZ_b, ckZ_n0, ckZ_n1, stIe, stJe, stZ_n0, stZ_n1, rm_nI, dv_nI, if_true, if_false, if_pos, if_neg, rf0, rf1, rf5, rf6, rf7, rf8, rf9, rf20, rf23, rf24, rf25, rf26, rf29, rf31, rf33, rf34, rf35, rf37, rf38, rf41, rf42, rf43,  h13, h14, c, k_X12_ahead_202, k_X12_ahead_251]
    · simp (disch := omega) only [↓mI_e, lit, ofN, bsm, nI_add, pk_mul, pk_sub, nI_e, nI_leE, nI_ltE, nI_mI, mI_nI, mI_lt, nlt_mI, mI_le, nle_mI, nI_addm, sh_b, bI_0, bI_1, bI_bI, ckZ_b, ckZ_n0, ckZ_n1, stIe, stJe, stZ_n0, stZ_n1, rm_nI, dv_nI, if_true, if_false, if_pos, if_neg, rf0, rf1, rf5, rf6, rf7, rf8, rf9, rf20, rf23, rf24, rf25, rf26, rf29, rf31, rf33, rf34, rf35, rf37, rf38, rf41, rf42, rf43,  h13, h14, c, k_X12_ahead_202, k_X12_ahead_251]
  induction m with
  | zero =>
    intro p N τ hT hq hp hm hN h13 h14 hd h15
    obtain ⟨N1, rfl⟩ : ∃ N1, N = N1 + 1 := ⟨N - 1, by omega⟩
    have hn := hT.2.1
    have e : p = n := by omega
    subst e
    rw [edn_at (Nat.le_refl _) (fun z => by omega), k_X12_ahead_128]
    have hb := r_byteEnd hT (Nat.le_refl _) (by omega)
    rw [h14, hb, bsm, r_isDig_m, bsm, if_pos (show ((nI 0, τ) : Int32 × ST).1 = 0 from rfl)]
    exact stop p 0 τ hT hq hp h13 h14 h15
  | succ m ih =>
    intro p N τ hT hq hp hm hN h13 h14 hd h15
    obtain ⟨N1, rfl⟩ : ∃ N1, N = N1 + 1 := ⟨N - 1, by omega⟩
    have hn := hT.2.1
    by_cases c : n ≤ p
    · have e : p = n := by omega
      subst e
      rw [edn_at (Nat.le_refl _) (fun z => by omega), k_X12_ahead_128]
      have hb := r_byteEnd hT (Nat.le_refl _) (by omega)
      rw [h14, hb, bsm, r_isDig_m, bsm, if_pos (show ((nI 0, τ) : Int32 × ST).1 = 0 from rfl)]
      exact stop p 0 τ hT hq hp h13 h14 h15
    · have hb := r_byteAt hT (show p < n by omega)
      have ht := (hT.2.2 p (by omega)).2
      have hs := r_isDig ht τ
      cases b : pDi (t p)
      · rw [b] at hs
        rw [edn_at (by omega) (fun _ => b), k_X12_ahead_128]
        rw [h14, hb, bsm, hs, bsm, if_pos (show ((bI false, τ) : Int32 × ST).1 = 0 from rfl)]
        exact stop p 0 τ hT hq hp h13 h14 h15
      · rw [b] at hs
        have hb2 := of_decide_eq_true b
        rw [edn_s (show p < n by omega) b]
        have hd2 : ∀ j, q ≤ j → j < p + 1 → pDi (t j) = true := fun j a1 a2 => by
          by_cases e : j = p
          · rw [e]; exact b
          · exact hd j a1 (by omega)
        obtain ⟨v, hv, hv2⟩ : ∃ v, v = (if (((10 * (gI τ 0 15)) + nI (t p)) - 48) < 100000 then (((10 * (gI τ 0 15)) + nI (t p)) - 48) else 100000) ∧ (p + 1 - q ≤ 4 → v = nI (dgN t q (p + 1 - q))) := by
          refine ⟨_, rfl, fun z => ?_⟩
          have hl := dgN_le (t := t) (q := q) (p - q) (fun j hj => hd _ (by omega) (by omega))
          have hl2 : (10 : Nat) ^ (p - q) ≤ 10 ^ 3 := Nat.pow_le_pow_right (by omega) (by omega)
          have es : p + 1 - q = p - q + 1 := by omega
          have ed1 : dgN t q (p + 1 - q) = dgN t q (p - q) * 10 + (t p - 48) := by rw [es, dgN, show q + (p - q) = p by omega]
          rw [h15 (by omega), ed1]
          have e3 : (10 : Int32) * nI (dgN t q (p - q)) + nI (t p) - 48 = nI (dgN t q (p - q) * 10 + (t p - 48)) := by
            rw [show (10 : Int32) = nI 10 from rfl, show (48 : Int32) = nI 48 from rfl, pk_mul, nI_add, pk_sub (by omega)]
            congr 1
            omega
          rw [e3, if_pos]
          rw [show (100000 : Int32) = nI 100000 from rfl, nI_ltE (by omega) (by omega)]
          omega
        have e14 : gI (sI τ 0 15 v) 0 14 = nI p := by rw [gI_sI, if_neg (by decide)]; exact h14
        obtain ⟨τ1, a1, a2, a3⟩ := ih (p + 1) N1 (sI (sI τ 0 15 v) 0 14 (nI (p + 1))) ((((Ra.rf τ).sI _ (by omega)).sI _ (by omega)).TX hT) (by omega) (by omega) (by omega) (by omega) (by rw [gI_sI, if_neg (by decide), gI_sI, if_neg (by decide)]; exact h13) (by rw [gI_sI, if_pos ⟨rfl, rfl⟩]) hd2 (fun z => by rw [gI_sI, if_neg (by decide), gI_sI, if_pos ⟨rfl, rfl⟩]; exact hv2 z)
        refine ⟨τ1, ?_, (((Ra.rf τ).sI _ (by omega)).sI _ (by omega)).trans a2, a3⟩
        rw [k_X12_ahead_128, h14, hb, bsm, hs, bsm, if_neg (show ¬ ((bI true, τ) : Int32 × ST).1 = 0 from fun z => absurd (show bI true = 0 from z) (by decide))]
        simp only []
        rw [h14, hb, bsm]
        simp only []
        rw [← hv, stIe, bsm, e14, stIe, bsm, show nI p + 1 = nI (p + 1) from by rw [show (1 : Int32) = nI 1 from rfl, nI_add]]
        exact a1
