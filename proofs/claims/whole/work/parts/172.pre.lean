/-! the reference's new line -/
def c147 (v1 v2 v3 v4 : Int32) (σ : ST) : Option (Int32 × ST) := (ldA LR σ (LR.2.1 0 0) 19407).bind fun a9 =>
  (stA LR σ (LR.2.1 0 0) 19407 (a9 + 1)).bind fun σ10 =>
  (f_X12_ahead 0 σ10).bind fun u11 =>
  (f_X12_order 0 v1 v3 u11).bind fun u12 =>
  if u12.1 = 0 then ((ckZ 0).bind fun z => some (z, u12.2)) else (if v4 = 0 then (k_X12_step_222 0 v1 v2 v3 u12.2) else ((stA LR u12.2 (LR.2.1 0 20) (gI u12.2 0 21) v2).bind fun σ15 =>
  (stI σ15 0 21 ((gI σ15 0 21) + 1)).bind fun σ16 =>
  k_X12_step_222 0 v1 v2 v3 σ16))
/-- the numbers of the new line, before its items are read -/
def pf (f : Nat → Int32) (L : Nat) (a : Int32) : Nat → Int32 := upd (upd (upd (upd (upd (upd (upd f (23880 + 6 * L) a) (23880 + 6 * L + 1) (nI 0)) (23880 + 6 * L + 2) (nI 0)) (23880 + 6 * L + 3) (nI 0)) (23880 + 6 * L + 4) (nI 0)) (23880 + 6 * L + 5) (nI 0)) 19407 (nI (L + 1))
theorem r_133 {L C s2 : Nat} (hL : L < 60) (a v4 : Int32) (τ : ST) (h7 : gA τ 1 19407 = nI L) : k_X12_step_133 0 a (nI L) (nI (23880 + 6 * L)) v4 0 (nI C) (nI s2) τ = (f_X12_ahead 0 (sA (sI τ 0 22 (nI (C + s2))) 1 (pf (gA τ 1) L a))).bind fun u11 =>
  (f_X12_order 0 a (nI (23880 + 6 * L)) u11).bind fun u12 =>
  if u12.1 = 0 then ((ckZ 0).bind fun z => some (z, u12.2)) else (if v4 = 0 then (k_X12_step_222 0 a (nI L) (nI (23880 + 6 * L)) u12.2) else ((stA LR u12.2 (LR.2.1 0 20) (gI u12.2 0 21) (nI L)).bind fun σ15 =>
  (stI σ15 0 21 ((gI σ15 0 21) + 1)).bind fun σ16 =>
  k_X12_step_222 0 a (nI L) (nI (23880 + 6 * L)) σ16)) := by
  obtain ⟨F, hF, hF2⟩ : ∃ F, FU = F ∧ 5000 < F := ⟨FU, rfl, by unfold FU; omega⟩
  obtain ⟨F', hF'⟩ : ∃ F', F = F' + 1 + 1 + 1 + 1 + 1 + 1 := ⟨F - 6, by omega⟩
  have go : ∀ (N i : Nat) (s : ST), i < 6 → 1 ≤ i → k_X12_step_147 (N + 1) 0 a (nI L) (nI (23880 + 6 * L)) v4 (nI i) s = k_X12_step_147 N 0 a (nI L) (nI (23880 + 6 * L)) v4 (nI (i + 1)) (sA s 1 (upd (gA s 1) (23880 + 6 * L + i) (nI 0))) := fun N i s hi hi1 => by
    rw [k_X12_step_147, if_neg (fun z => by have := (nI_leE (a := 6) (b := i) (by omega) (by omega)).mp z; omega), nI_add, show stA LR s (LR.2.1 0 0) (nI (23880 + 6 * L + i)) 0 = some (sA s 1 (upd (gA s 1) (23880 + 6 * L + i) (nI 0))) from sA1_st (by omega) _, bsm, show nI i + 1 = nI (i + 1) from by rw [show (1 : Int32) = nI 1 from rfl, nI_add]]
  have last : ∀ (N : Nat) (s : ST), k_X12_step_147 (N + 1) 0 a (nI L) (nI (23880 + 6 * L)) v4 (nI 6) s = c147 a (nI L) (nI (23880 + 6 * L)) v4 s := fun N s => by
    rw [k_X12_step_147, if_pos (show (6 : Int32) ≤ nI 6 by decide)]
    rfl
  unfold k_X12_step_133
  rw [stIe, bsm, nI_add, sA1_st (by omega), bsm, hF, hF']
  show k_X12_step_147 _ 0 a (nI L) (nI (23880 + 6 * L)) v4 (nI 1) _ = _
  rw [go _ 1 _ (by omega) (by omega), go _ 2 _ (by omega) (by omega), go _ 3 _ (by omega) (by omega), go _ 4 _ (by omega) (by omega), go _ 5 _ (by omega) (by omega), last]
  unfold c147
  simp only [gA_sA, if_true, sA_sA, gA_sI]
  rw [show (19407 : Int32) = nI 19407 from rfl, ldA1 (by decide), bsm, gA_sA, if_pos rfl, upd_at, if_neg (by omega), upd_at, if_neg (by omega), upd_at, if_neg (by omega), upd_at, if_neg (by omega), upd_at, if_neg (by omega), upd_at, if_neg (by omega), h7, show nI L + 1 = nI (L + 1) from by rw [show (1 : Int32) = nI 1 from rfl, nI_add], sA1_st (by decide), bsm, gA_sA, if_pos rfl, sA_sA]
  rfl
theorem pf_at (f : Nat → Int32) {L : Nat} (hL : L < 60) (a : Int32) : pf f L a (23880 + 6 * L) = a ∧ (∀ x, 1 ≤ x → x ≤ 5 → pf f L a (23880 + 6 * L + x) = nI 0) ∧ pf f L a 19407 = nI (L + 1) ∧ ∀ x, x ≠ 19407 → ¬ (23880 + 6 * L ≤ x ∧ x < 23886 + 6 * L) → pf f L a x = f x := by
  unfold pf
  refine ⟨?_, fun x h1 h2 => ?_, by rw [upd_at, if_pos rfl], fun x h1 h2 => ?_⟩
  · rw [upd_at, if_neg (by omega), upd_at, if_neg (by omega), upd_at, if_neg (by omega), upd_at, if_neg (by omega), upd_at, if_neg (by omega), upd_at, if_neg (by omega), upd_at, if_pos rfl]
  · rw [upd_at, if_neg (by omega)]
    simp only [upd_at]
    by_cases e5 : x = 5
    · rw [if_pos (by omega)]
    · rw [if_neg (by omega)]
      by_cases e4 : x = 4
      · rw [if_pos (by omega)]
      · rw [if_neg (by omega)]
        by_cases e3 : x = 3
        · rw [if_pos (by omega)]
        · rw [if_neg (by omega)]
          by_cases e2 : x = 2
          · rw [if_pos (by omega)]
          · rw [if_neg (by omega), if_pos (by omega)]
  · rw [upd_at, if_neg h1, upd_at, if_neg (by omega), upd_at, if_neg (by omega), upd_at, if_neg (by omega), upd_at, if_neg (by omega), upd_at, if_neg (by omega), upd_at, if_neg (by omega)]
/-- the class's new line -/
def nlS (L : Nat) (x : Int32) (σ : ST) : ST := sI (sA (sA σ 42 (upd (gA σ 42) L x)) 47 (upd (gA σ 47) L (nI L))) 41 7 (nI (L + 1))
theorem c_newLine {L : Nat} (hL : L < 60) (x : Int32) (σ : ST) (h7 : gI σ 41 7 = nI L) : f_X3_newLine 40 x σ = some (nI L, nlS L x σ) := by
  unfold f_X3_newLine
  rw [show LC.2.1 40 0 = 41 from rfl, show LC.2.1 41 0 = 42 from rfl, show LC.2.1 41 5 = 47 from rfl, h7, sa 60 rfl hL (by decide), bsm, sa 60 rfl hL (by decide), bsm]
  have e : gI (sA (sA σ 42 (upd (gA σ 42) L x)) 47 (upd (gA (sA σ 42 (upd (gA σ 42) L x)) 47) L (nI L))) 41 7 = nI L := h7
  rw [e, stIe, bsm, show nI L + 1 = nI (L + 1) from by rw [show (1 : Int32) = nI 1 from rfl, nI_add], gA_sA, if_neg (by decide)]
  rfl
