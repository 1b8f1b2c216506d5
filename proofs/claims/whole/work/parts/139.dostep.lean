/-! LIFE: one step is done -/
theorem LV_mono {w lf : Nat} {g : Nat → Int64} {L : Nat} {D : Nat → Nat → Nat} {σ0 τ0 : ST} {B B' s d : Nat} {σ τ : ST} (hB : B ≤ B') (h : LV w lf g L D σ0 τ0 B s d σ τ) : LV w lf g L D σ0 τ0 B' s d σ τ := ⟨RelW_mono hB h.1, h.2⟩
theorem Wp_9 {w : Nat} {σ τ : ST} (g9 : Nat → Int32) : Wp w σ σ τ (sA τ 9 g9) := ⟨Sq.rf σ, (Sc.rf τ).sA _ rfl, fun _ _ _ => rfl⟩
def OKs (w lf : Nat) (g : Nat → Int64) (L : Nat) (D : Nat → Nat → Nat) (σ0 τ0 : ST) (B s : Nat) (σ τ σ1 τ1 : ST) : Prop := (∃ d', LV w lf g L D σ0 τ0 (B + 999) s d' σ1 τ1) ∧ gA σ1 (lf + 2) = gA σ (lf + 2) ∧ gA τ1 20 = gA τ 20
/-- a world's call, and a tally -/
theorem OK_tally {w lf : Nat} (hl : isLf w lf) {g : Nat → Int64} {L : Nat} {D : Nat → Nat → Nat} {σ0 τ0 : ST} {B B' s d : Nat} {σ τ σa τa : ST} (h : LV w lf g L D σ0 τ0 B s d σ τ) (hp : Wp w σ σa τ τa) (hW : RelW B' (wv σa w) (gA τa 1) g) (hB : B' ≤ B + 999) (k : Nat) (v : Int32) : OKs w lf g L D σ0 τ0 B s σ τ (sA σa (lf + 1) (upd (gA σa (lf + 1)) k v)) (sA τa 21 (upd (gA τa 21) k v)) := by
  obtain ⟨h1, h2, h3⟩ := LV_keep hl h hp hW
  refine ⟨⟨d, LV_tally hl (LV_mono hB h1) k v⟩, ?_, ?_⟩
  · rw [gA_sA, if_neg (by omega)]; exact h2
  · rw [gA_sA, if_neg (by decide)]; exact h3
theorem OK_world {w lf : Nat} (hl : isLf w lf) {g : Nat → Int64} {L : Nat} {D : Nat → Nat → Nat} {σ0 τ0 : ST} {B B' s d : Nat} {σ τ σa τa : ST} (h : LV w lf g L D σ0 τ0 B s d σ τ) (hp : Wp w σ σa τ τa) (hW : RelW B' (wv σa w) (gA τa 1) g) (hB : B' ≤ B + 999) : OKs w lf g L D σ0 τ0 B s σ τ σa τa := by
  obtain ⟨h1, h2, h3⟩ := LV_keep hl h hp hW
  exact ⟨⟨d, LV_mono hB h1⟩, h2, h3⟩
theorem tally_eq {w lf : Nat} (hl : isLf w lf) {g : Nat → Int64} {L : Nat} {D : Nat → Nat → Nat} {σ0 τ0 : ST} {B B' s d : Nat} {σ τ σa τa : ST} (h : LV w lf g L D σ0 τ0 B s d σ τ) (hp : Wp w σ σa τ τa) (hW : RelW B' (wv σa w) (gA τa 1) g) {k : Nat} (hk : k < 6) : gA σa (lf + 1) k = gA τa 21 k := (LV_keep hl h hp hW).1.2.2.2.2.1 k hk
theorem c_ticketFor {w : Nat} (hw : isW w) {B : Nat} {σ : ST} {f : Nat → Int32} {g : Nat → Int64} (hW : RelW B (wv σ w) f g) {y : Nat} (hy : y < YN f) : ∃ k, f_X4_ticketFor w (nI y) σ = some (k, σ) ∧ tkIn f k ∧ ((k = nI 0 ∧ f 4440 = nI y) ∨ (k = mI ∧ (f 4440 = nI y) = False)) := by
  have hY := hW.1.1.2.1
  have n10 : (nI 1 = nI 0) = False := eq_false (by decide)
  have hh := c_hasTicket hW.2.2.1 (t := 0) (by omega)
  by_cases g1 : f 4440 = mI
  · have e1 : decide (f (4440 + 8 * 0) ≠ mI) = false := decide_eq_false (fun z => z g1)
    rw [e1] at hh
    refine ⟨mI, ?_, Or.inl rfl, Or.inr ⟨rfl, by rw [g1]; exact mI_nI (by omega)⟩⟩
    simp (disch := omega) only [↓mI_e, lit, ofN, bsm, nI_add, pk_mul, pk_sub, nI_e, nI_leE, nI_ltE, nI_mI, mI_nI, mI_lt, nlt_mI, mI_le, nle_mI, nI_addm, sh_b, bI_0, bI_1, bI_bI, ckZ_b, ckZ_n0, ckZ_n1, stIe, stJe, stZ_n0, stZ_n1, rm_nI, dv_nI, if_true, if_false, if_pos, if_neg, rf0, rf1, rf5, rf6, rf7, rf8, rf9, rf20, rf23, rf24, rf25, rf26, rf29, rf31, rf33, rf34, rf35, rf37, rf38, rf41, rf42, rf43,  f_X4_ticketFor, k_X4_ticketFor_22, k_X4_ticketFor_23, hh, bI_f]
  · have e1 : decide (f (4440 + 8 * 0) ≠ mI) = true := decide_eq_true g1
    rw [e1] at hh
    obtain ⟨y0, z1, z2, z3, z4, z5⟩ := (hW.2.2.1.2 0 (by omega)).2 g1
    have z3' : f 4440 = nI y0 := z3
    have z4' : gA σ (w + 25) 0 = nI y0 := z4
    by_cases e : y0 = y
    · refine ⟨nI 0, ?_, Or.inr ⟨0, by omega, rfl, g1⟩, Or.inl ⟨rfl, by rw [z3', e]⟩⟩
      simp (disch := omega) only [↓mI_e, lit, ofN, bsm, nI_add, pk_mul, pk_sub, nI_e, nI_leE, nI_ltE, nI_mI, mI_nI, mI_lt, nlt_mI, mI_le, nle_mI, nI_addm, sh_b, bI_0, bI_1, bI_bI, ckZ_b, ckZ_n0, ckZ_n1, stIe, stJe, stZ_n0, stZ_n1, rm_nI, dv_nI, if_true, if_false, if_pos, if_neg, rf0, rf1, rf5, rf6, rf7, rf8, rf9, rf20, rf23, rf24, rf25, rf26, rf29, rf31, rf33, rf34, rf35, rf37, rf38, rf41, rf42, rf43,  f_X4_ticketFor, k_X4_ticketFor_23, hh, bI_t, n10, w_6 hw, lw25 hw, z4', e]
    · refine ⟨mI, ?_, Or.inl rfl, Or.inr ⟨rfl, by rw [z3', nI_e (by omega) (by omega)]; exact eq_false e⟩⟩
      simp (disch := omega) only [↓mI_e, lit, ofN, bsm, nI_add, pk_mul, pk_sub, nI_e, nI_leE, nI_ltE, nI_mI, mI_nI, mI_lt, nlt_mI, mI_le, nle_mI, nI_addm, sh_b, bI_0, bI_1, bI_bI, ckZ_b, ckZ_n0, ckZ_n1, stIe, stJe, stZ_n0, stZ_n1, rm_nI, dv_nI, if_true, if_false, if_pos, if_neg, rf0, rf1, rf5, rf6, rf7, rf8, rf9, rf20, rf23, rf24, rf25, rf26, rf29, rf31, rf33, rf34, rf35, rf37, rf38, rf41, rf42, rf43,  f_X4_ticketFor, k_X4_ticketFor_22, k_X4_ticketFor_23, hh, bI_t, n10, w_6 hw, lw25 hw, z4', e]
/-- told, counted by both -/
theorem L_count {w lf : Nat} (hl : isLf w lf) {g : Nat → Int64} {L : Nat} {D : Nat → Nat → Nat} {σ0 τ0 : ST} {B B' s d m : Nat} {σ τ σa τa : ST} (h : LV w lf g L D σ0 τ0 B s d σ τ) (hp : Wp w σ σa τ τa) (hW : RelW B' (wv σa w) (gA τa 1) g) (hB : B' ≤ B + 999) (h28 : gI τa 0 28 = nI (if m < WN (gA τa 1) then 0 else 1)) (hm : m ≤ 100) : ∃ σ1 τ1, f_X4_countTold lf w (nI m) σa = some σ1 ∧ f_X12_counts 0 (nI m) τa = some τ1 ∧ OKs w lf g L D σ0 τ0 B s σ τ σ1 τ1 := by
  have hw := isLf_w hl
  have e11 : gI σa (w + 1) 11 = nI (WN (gA τa 1)) := hW.1.2.1.2.2.2.2.trans (eW _)
  have hWN := hW.1.1.2.2.2.2.1
  have hN := hW.1.1.2.2.1
  have n10 : (nI 0 = nI 1) = False := eq_false (by decide)
  by_cases c : m < WN (gA τa 1)
  · rw [if_pos c] at h28
    have te := tally_eq hl h hp hW (k := 2) (by omega)
    refine ⟨_, _, ?_, ?_, OK_tally hl h hp hW hB 2 (gA τa 21 2 + nI 1)⟩
    · simp (disch := omega) only [↓mI_e, lit, ofN, bsm, nI_add, pk_mul, pk_sub, nI_e, nI_leE, nI_ltE, nI_mI, mI_nI, mI_lt, nlt_mI, mI_le, nle_mI, nI_addm, sh_b, bI_0, bI_1, bI_bI, ckZ_b, ckZ_n0, ckZ_n1, stIe, stJe, stZ_n0, stZ_n1, rm_nI, dv_nI, if_true, if_false, if_pos, if_neg, rf0, rf1, rf5, rf6, rf7, rf8, rf9, rf20, rf23, rf24, rf25, rf26, rf29, rf31, rf33, rf34, rf35, rf37, rf38, rf41, rf42, rf43,  f_X4_countTold, k_X4_countTold_38, k_X4_countTold_43, w_0 hw, lf_0 hl, e11, c, lt1 hl, st1 hl, te]
    · by_cases z : m ≤ 0
      · simp (disch := omega) only [↓mI_e, lit, ofN, bsm, nI_add, pk_mul, pk_sub, nI_e, nI_leE, nI_ltE, nI_mI, mI_nI, mI_lt, nlt_mI, mI_le, nle_mI, nI_addm, sh_b, bI_0, bI_1, bI_bI, ckZ_b, ckZ_n0, ckZ_n1, stIe, stJe, stZ_n0, stZ_n1, rm_nI, dv_nI, if_true, if_false, if_pos, if_neg, rf0, rf1, rf5, rf6, rf7, rf8, rf9, rf20, rf23, rf24, rf25, rf26, rf29, rf31, rf33, rf34, rf35, rf37, rf38, rf41, rf42, rf43,  f_X12_counts, k_X12_counts_20, k_X12_counts_21, z, lr21, sr21]
      · simp (disch := omega) only [↓mI_e, lit, ofN, bsm, nI_add, pk_mul, pk_sub, nI_e, nI_leE, nI_ltE, nI_mI, mI_nI, mI_lt, nlt_mI, mI_le, nle_mI, nI_addm, sh_b, bI_0, bI_1, bI_bI, ckZ_b, ckZ_n0, ckZ_n1, stIe, stJe, stZ_n0, stZ_n1, rm_nI, dv_nI, if_true, if_false, if_pos, if_neg, rf0, rf1, rf5, rf6, rf7, rf8, rf9, rf20, rf23, rf24, rf25, rf26, rf29, rf31, rf33, rf34, rf35, rf37, rf38, rf41, rf42, rf43,  f_X12_counts, k_X12_counts_20, k_X12_counts_21, z, h28, n10, lr21, sr21]
  · rw [if_neg c] at h28
    have te := tally_eq hl h hp hW (k := 1) (by omega)
    refine ⟨_, _, ?_, ?_, OK_tally hl h hp hW hB 1 (gA τa 21 1 + nI 1)⟩
    · simp (disch := omega) only [↓mI_e, lit, ofN, bsm, nI_add, pk_mul, pk_sub, nI_e, nI_leE, nI_ltE, nI_mI, mI_nI, mI_lt, nlt_mI, mI_le, nle_mI, nI_addm, sh_b, bI_0, bI_1, bI_bI, ckZ_b, ckZ_n0, ckZ_n1, stIe, stJe, stZ_n0, stZ_n1, rm_nI, dv_nI, if_true, if_false, if_pos, if_neg, rf0, rf1, rf5, rf6, rf7, rf8, rf9, rf20, rf23, rf24, rf25, rf26, rf29, rf31, rf33, rf34, rf35, rf37, rf38, rf41, rf42, rf43,  f_X4_countTold, k_X4_countTold_38, k_X4_countTold_43, w_0 hw, lf_0 hl, e11, c, lt1 hl, st1 hl, te]
    · have z : ¬ m ≤ 0 := by omega
      simp (disch := omega) only [↓mI_e, lit, ofN, bsm, nI_add, pk_mul, pk_sub, nI_e, nI_leE, nI_ltE, nI_mI, mI_nI, mI_lt, nlt_mI, mI_le, nle_mI, nI_addm, sh_b, bI_0, bI_1, bI_bI, ckZ_b, ckZ_n0, ckZ_n1, stIe, stJe, stZ_n0, stZ_n1, rm_nI, dv_nI, if_true, if_false, if_pos, if_neg, rf0, rf1, rf5, rf6, rf7, rf8, rf9, rf20, rf23, rf24, rf25, rf26, rf29, rf31, rf33, rf34, rf35, rf37, rf38, rf41, rf42, rf43,  f_X12_counts, k_X12_counts_20, k_X12_counts_21, z, h28, lr21, sr21]
theorem L_put {w lf : Nat} (hl : isLf w lf) {g : Nat → Int64} {L : Nat} {D : Nat → Nat → Nat} {σ0 τ0 : ST} {B s d : Nat} (hB : B < 2 ^ 31) {σ τ : ST} (h : LV w lf g L D σ0 τ0 B s d σ τ) {y a v r : Nat} (hy : y < YN (gA τ 1)) (ha : a < KN (gA τ 1)) (hv : v ≤ 1000) (hr : r + 3 < 29600) (hr0 : (gA τ 1 r = nI 8 ∧ v = 1000) ∨ (gA τ 1 r = nI 7 ∧ gA τ 1 (r + 3) = nI v)) : ∃ k x σa σ1 τ1, f_X4_ticketFor w (nI y) σ = some (k, σ) ∧ f_X10_putValue w (nI y) (nI a) (nI v) k σ = some (x, σa) ∧ f_X4_countTold lf w x σa = some σ1 ∧ k_X12_does_88 0 (nI r) (nI y) (nI a) τ = some τ1 ∧ OKs w lf g L D σ0 τ0 B s σ τ σ1 τ1 := by
  have hw := isLf_w hl
  have hW := h.1
  have hK := hW.1.1.1
  have hY := hW.1.1.2.1
  have hgl := gvl hW (y := y) (by omega) a (by omega)
  obtain ⟨k, t1, t2, t3⟩ := c_ticketFor hw hW hy
  have e88 : k_X12_does_88 0 (nI r) (nI y) (nI a) τ = k_X12_does_105 0 (nI r) (nI y) (nI a) k τ := by
    rcases t3 with ⟨q1, q2⟩ | ⟨q1, q2⟩
    · subst q1
      simp (disch := omega) only [↓mI_e, lit, ofN, bsm, nI_add, pk_mul, pk_sub, nI_e, nI_leE, nI_ltE, nI_mI, mI_nI, mI_lt, nlt_mI, mI_le, nle_mI, nI_addm, sh_b, bI_0, bI_1, bI_bI, ckZ_b, ckZ_n0, ckZ_n1, stIe, stJe, stZ_n0, stZ_n1, rm_nI, dv_nI, if_true, if_false, if_pos, if_neg, rf0, rf1, rf5, rf6, rf7, rf8, rf9, rf20, rf23, rf24, rf25, rf26, rf29, rf31, rf33, rf34, rf35, rf37, rf38, rf41, rf42, rf43,  k_X12_does_88, lr1, q2]
    · subst q1
      simp (disch := omega) only [↓mI_e, lit, ofN, bsm, nI_add, pk_mul, pk_sub, nI_e, nI_leE, nI_ltE, nI_mI, mI_nI, mI_lt, nlt_mI, mI_le, nle_mI, nI_addm, sh_b, bI_0, bI_1, bI_bI, ckZ_b, ckZ_n0, ckZ_n1, stIe, stJe, stZ_n0, stZ_n1, rm_nI, dv_nI, if_true, if_false, if_pos, if_neg, rf0, rf1, rf5, rf6, rf7, rf8, rf9, rf20, rf23, rf24, rf25, rf26, rf29, rf31, rf33, rf34, rf35, rf37, rf38, rf41, rf42, rf43,  k_X12_does_88, lr1, q2]
  obtain ⟨gr, x, r1, r2⟩ := r_wrongPut hW.1.1 hy (by omega) hgl t2
  have e0 : gA (sA τ 9 gr) 1 = gA τ 1 := rfl
  have n87 : (nI 7 = nI 8) = False := eq_false (by decide)
  rcases r2 with ⟨rfl, hok⟩ | ⟨rfl, hok⟩
  · obtain ⟨σa, τa, m, p1, p2, p3, p4, p5, p6, p7⟩ := W_put hw hB (τ := sA τ 9 gr) hW hy ha hv hok
    have hp : Wp w σ σa τ τa := (Wp_9 gr).trans p4
    have p5' : gI τa 0 28 = nI (if m < WN (gA τa 1) then 0 else 1) := by rw [p7]; exact p5
    obtain ⟨σ1, τ1, c1, c2, c3⟩ := L_count hl h hp p3 (by omega) p5' p6
    refine ⟨k, nI m, σa, σ1, τ1, t1, p1, c1, ?_, c3⟩
    rw [e88]
    rcases hr0 with ⟨q1, q2⟩ | ⟨q1, q2⟩
    · subst q2
      simp (disch := omega) only [↓mI_e, lit, ofN, bsm, nI_add, pk_mul, pk_sub, nI_e, nI_leE, nI_ltE, nI_mI, mI_nI, mI_lt, nlt_mI, mI_le, nle_mI, nI_addm, sh_b, bI_0, bI_1, bI_bI, ckZ_b, ckZ_n0, ckZ_n1, stIe, stJe, stZ_n0, stZ_n1, rm_nI, dv_nI, if_true, if_false, if_pos, if_neg, rf0, rf1, rf5, rf6, rf7, rf8, rf9, rf20, rf23, rf24, rf25, rf26, rf29, rf31, rf33, rf34, rf35, rf37, rf38, rf41, rf42, rf43,  k_X12_does_105, r1, lr1, e0, q1, k_X12_does_160, p2, c2, k_X12_does_437]
    · simp (disch := omega) only [↓mI_e, lit, ofN, bsm, nI_add, pk_mul, pk_sub, nI_e, nI_leE, nI_ltE, nI_mI, mI_nI, mI_lt, nlt_mI, mI_le, nle_mI, nI_addm, sh_b, bI_0, bI_1, bI_bI, ckZ_b, ckZ_n0, ckZ_n1, stIe, stJe, stZ_n0, stZ_n1, rm_nI, dv_nI, if_true, if_false, if_pos, if_neg, rf0, rf1, rf5, rf6, rf7, rf8, rf9, rf20, rf23, rf24, rf25, rf26, rf29, rf31, rf33, rf34, rf35, rf37, rf38, rf41, rf42, rf43,  k_X12_does_105, r1, lr1, e0, q1, n87, q2, k_X12_does_160, p2, c2, k_X12_does_437]
  · have hno := W_put_no hw hW hy ha (nI v) t2 hok
    have te := h.2.2.2.2.1 0 (by omega)
    have e21 : gA (sA τ 9 gr) 21 = gA τ 21 := rfl
    have hok2 := OK_tally hl h (Wp_9 (σ := σ) (τ := τ) gr) (B' := B) (σa := σ) (τa := sA τ 9 gr) hW (by omega) 0 (gA τ 21 0 + nI 1)
    rw [e21] at hok2
    refine ⟨k, mI, σ, _, _, t1, hno, ?_, ?_, hok2⟩
    · have mm : (mI = mI) = True := eq_true rfl
      simp (disch := omega) only [↓mI_e, lit, ofN, bsm, nI_add, pk_mul, pk_sub, nI_e, nI_leE, nI_ltE, nI_mI, mI_nI, mI_lt, nlt_mI, mI_le, nle_mI, nI_addm, sh_b, bI_0, bI_1, bI_bI, ckZ_b, ckZ_n0, ckZ_n1, stIe, stJe, stZ_n0, stZ_n1, rm_nI, dv_nI, if_true, if_false, if_pos, if_neg, rf0, rf1, rf5, rf6, rf7, rf8, rf9, rf20, rf23, rf24, rf25, rf26, rf29, rf31, rf33, rf34, rf35, rf37, rf38, rf41, rf42, rf43,  f_X4_countTold, mm, k_X4_countTold_43, lf_0 hl, lt1 hl, st1 hl, te]
    · rw [e88]
      simp (disch := omega) only [↓mI_e, lit, ofN, bsm, nI_add, pk_mul, pk_sub, nI_e, nI_leE, nI_ltE, nI_mI, mI_nI, mI_lt, nlt_mI, mI_le, nle_mI, nI_addm, sh_b, bI_0, bI_1, bI_bI, ckZ_b, ckZ_n0, ckZ_n1, stIe, stJe, stZ_n0, stZ_n1, rm_nI, dv_nI, if_true, if_false, if_pos, if_neg, rf0, rf1, rf5, rf6, rf7, rf8, rf9, rf20, rf23, rf24, rf25, rf26, rf29, rf31, rf33, rf34, rf35, rf37, rf38, rf41, rf42, rf43,  k_X12_does_105, r1, lr21, sr21, e21, k_X12_does_437]
theorem L_add {w lf : Nat} (hl : isLf w lf) {g : Nat → Int64} {L : Nat} {D : Nat → Nat → Nat} {σ0 τ0 : ST} {B s d : Nat} (hB : B + 999 < 2 ^ 31) {σ τ : ST} (h : LV w lf g L D σ0 τ0 B s d σ τ) {y a n : Nat} (hy : y < YN (gA τ 1)) (ha : a < KN (gA τ 1)) (hn : n ≤ 999) (hs : sm (gA τ 1) y = true) : ∃ x σa σ1 gr b, f_X10_addPart w (nI y) (nI a) (nI n) σ = some (x, σa) ∧ f_X4_countTold lf w x σa = some σ1 ∧ f_X12_canTake 0 (nI y) (nI a) τ = some (bI b, sA τ 9 gr) ∧ (b = true → ∃ x' τa τ1, f_X12_adds 0 (nI y) (nI a) (nI n) (sA τ 9 gr) = some (x', τa) ∧ f_X12_counts 0 x' τa = some τ1 ∧ OKs w lf g L D σ0 τ0 B s σ τ σ1 τ1) ∧ (b = false → OKs w lf g L D σ0 τ0 B s σ τ σ1 (sA (sA τ 9 gr) 21 (upd (gA τ 21) 0 (gA τ 21 0 + nI 1)))) := by
  have hw := isLf_w hl
  have hW := h.1
  have hK := hW.1.1.1
  have hY := hW.1.1.2.1
  obtain ⟨gr, rc⟩ := r_canTake hW.1.1 hy (a := a) (by omega)
  cases hb : (isPl (gA τ 1) y a && bt (gA τ 1 5) a)
  · rw [hb] at rc
    have hno := W_add_no hw hW hy ha (nI n) (fun z => by rw [hb] at z; exact absurd z.2 (by decide))
    have te := h.2.2.2.2.1 0 (by omega)
    have e21 : gA (sA τ 9 gr) 21 = gA τ 21 := rfl
    have hok2 := OK_tally hl h (Wp_9 (σ := σ) (τ := τ) gr) (B' := B) (σa := σ) (τa := sA τ 9 gr) hW (by omega) 0 (gA τ 21 0 + nI 1)
    rw [e21] at hok2
    refine ⟨mI, σ, _, gr, false, hno, ?_, rc, fun z => absurd z (by decide), fun _ => hok2⟩
    have mm : (mI = mI) = True := eq_true rfl
    simp (disch := omega) only [↓mI_e, lit, ofN, bsm, nI_add, pk_mul, pk_sub, nI_e, nI_leE, nI_ltE, nI_mI, mI_nI, mI_lt, nlt_mI, mI_le, nle_mI, nI_addm, sh_b, bI_0, bI_1, bI_bI, ckZ_b, ckZ_n0, ckZ_n1, stIe, stJe, stZ_n0, stZ_n1, rm_nI, dv_nI, if_true, if_false, if_pos, if_neg, rf0, rf1, rf5, rf6, rf7, rf8, rf9, rf20, rf23, rf24, rf25, rf26, rf29, rf31, rf33, rf34, rf35, rf37, rf38, rf41, rf42, rf43,  f_X4_countTold, mm, k_X4_countTold_43, lf_0 hl, lt1 hl, st1 hl, te]
  · rw [hb] at rc
    have hc2 : isPl (gA τ 1) y a = true ∧ bt (gA τ 1 5) a = true := by simpa using hb
    obtain ⟨σa, τa, m, p1, p2, p3, p4, p5, p6, p7⟩ := W_add hw hB (τ := sA τ 9 gr) hW hy ha hn hs hc2
    have hp : Wp w σ σa τ τa := (Wp_9 gr).trans p4
    have p5' : gI τa 0 28 = nI (if m < WN (gA τa 1) then 0 else 1) := by rw [p7]; exact p5
    obtain ⟨σ1, τ1, c1, c2, c3⟩ := L_count hl h hp p3 (Nat.le_refl _) p5' p6
    exact ⟨nI m, σa, σ1, gr, true, p1, c1, rc, fun _ => ⟨nI m, τa, τ1, p2, c2, c3⟩, fun z => absurd z (by decide)⟩
