/-! behind the items of a line -/
section
variable {t : Nat → Nat} {n p p0 : Nat} {σ0 τ0 σ τ : ST} {I w y k v o m q f q8 : Nat → Int32} {d d21 c22 : Int32} {K Y L C dd : Nat} {D : Nat → Nat → Nat} {op : Nat → Nat}
theorem k222_n {a : Int32} (ha : ¬ a = 21) (L r : Int32) (τ : ST) : k_X12_step_222 0 a L r τ = (f_X12_wantSign 0 (nI 59) τ).bind fun u1 => (ckZ u1.1).bind fun z => some (z, u1.2) := by
  unfold k_X12_step_222
  rw [if_neg ha]
  rfl
theorem tail_n (hI : DInv K Y (gA τ0 1) L C dd D op I d w y k v o m q f q8 d21 c22) (hC : C < 30) (hL : L < 60) {a : Nat} (ha : ¬ nI a = 21) (hp : p0 < p) : TailS t n p σ0 τ0 (upd (upd I 8 (nI (C + 1))) 7 (nI (L + 1))) d (upd w L (nI (cW a))) y k v o (upd m L (nI L)) q (pf f L (nI a)) q8 d21 (nI (C + 1)) K Y L (fun z => oO z = false ∧ z ≠ 21) (fun σ1 τ1 => ∃ p', p0 < p' ∧ DW t n σ0 τ0 K Y p' σ1 τ1) (fun u12 => if (0 : Int32) = 0 then (k_X12_step_222 0 (nI a) (nI L) (nI (23880 + 6 * L)) u12.2) else ((stA LR u12.2 (LR.2.1 0 20) (gI u12.2 0 21) (nI L)).bind fun σ15 => (stI σ15 0 21 ((gI σ15 0 21) + 1)).bind fun σ16 => k_X12_step_222 0 (nI a) (nI L) (nI (23880 + 6 * L)) σ16)) := by
  intro p' w2 y2 k2 v2 o2 f2 R σ1 τ1 a1 a2 a3 a4 hC2
  obtain ⟨i7, i8, id, i19, i21, i22⟩ := hI.ints
  have pa := pf_at f hL (nI a)
  show Out σ0 τ0 _ _ (if (0 : Int32) = 0 then (k_X12_step_222 0 (nI a) (nI L) (nI (23880 + 6 * L)) τ1) else _)
  rw [if_pos rfl, k222_n ha]
  refine Out.ckR (hC2.sign.mono (fun σ2 τ2 hM => ?_))
  have hl := hI.line (I' := upd (upd I 8 (nI (C + 1))) 7 (nI (L + 1))) (w' := w2) (y' := y2) (k' := k2) (v' := v2) (o' := o2) (m' := upd m L (nI L)) (q' := q) (f' := f2) (q8' := q8) (d' := d) (d21' := d21) (c22' := nI (C + 1)) (R := R) hC false a2.1 (fun z => absurd z (by decide)) a3 a2.2 (fun j hj => by
    obtain ⟨c1, c2, c3, c4, c5⟩ := a4.1 j hj
    exact ⟨by rw [c1, upd_at, if_neg hj], c2, c3, c4, c5⟩) (fun j hj => by rw [upd_at, if_neg hj]) (fun x h1 h2 => by rw [a4.2 x (by omega), pa.2.2.2 x (by omega) (by omega)]) (by rw [a4.2 19407 (by omega)]; exact pa.2.2.1) ⟨rfl, rfl⟩ rfl id i21 (fun j hj => ⟨rfl, rfl⟩) (fun z => absurd z (by decide))
  exact ⟨_, Nat.lt_of_lt_of_le hp (Nat.le_trans a1 (le_tE hC2.1.2.1)), _, _, _, _, _, _, _, _, _, _, _, _, _, _, _, _, _, _, hl, hM⟩
theorem tail_o (hI : DInv K Y (gA τ0 1) L C dd D op I d w y k v o m q f q8 d21 c22) (hC : C < 30) (hL : L < 60) (hdd : dd < 3) {a : Nat} (ha : ¬ nI a = 21) (hp : p0 < p) : TailS t n p σ0 τ0 (upd (upd I 8 (nI (C + 1))) 7 (nI (L + 1))) (nI (dd + 1)) (upd w L (nI (cW a))) y k v o (upd m L (nI L)) (upd q dd (nI L)) (pf f L (nI a)) q8 d21 (nI (C + 1)) K Y L (fun z => oO z = true ∧ z ≠ 21) (fun σ1 τ1 => ∃ p', p0 < p' ∧ DW t n σ0 τ0 K Y p' σ1 τ1) (fun u12 => if (1 : Int32) = 0 then (k_X12_step_222 0 (nI a) (nI L) (nI (23880 + 6 * L)) u12.2) else ((stA LR u12.2 (LR.2.1 0 20) (gI u12.2 0 21) (nI L)).bind fun σ15 => (stI σ15 0 21 ((gI σ15 0 21) + 1)).bind fun σ16 => k_X12_step_222 0 (nI a) (nI L) (nI (23880 + 6 * L)) σ16)) := by
  intro p' w2 y2 k2 v2 o2 f2 R σ1 τ1 a1 a2 a3 a4 hC2
  obtain ⟨i7, i8, id, i19, i21, i22⟩ := hI.ints
  have pa := pf_at f hL (nI a)
  have g21 : gI τ1 0 21 = nI dd := hC2.2.2.2.2.2.1.trans i21
  have st : stA LR τ1 (LR.2.1 0 20) (nI dd) (nI L) = some (sA τ1 8 (upd (gA τ1 8) dd (nI L))) := sa 3 rfl hdd (by decide)
  have g21' : gI (sA τ1 8 (upd (gA τ1 8) dd (nI L))) 0 21 = nI dd := g21
  show Out σ0 τ0 _ _ (if (1 : Int32) = 0 then (k_X12_step_222 0 (nI a) (nI L) (nI (23880 + 6 * L)) τ1) else ((stA LR τ1 (LR.2.1 0 20) (gI τ1 0 21) (nI L)).bind fun σ15 => (stI σ15 0 21 ((gI σ15 0 21) + 1)).bind fun σ16 => k_X12_step_222 0 (nI a) (nI L) (nI (23880 + 6 * L)) σ16))
  rw [if_neg (show ¬ (1 : Int32) = 0 by decide), g21, st, bsm, g21', stIe, bsm, show nI dd + 1 = nI (dd + 1) from by rw [show (1 : Int32) = nI 1 from rfl, nI_add], k222_n ha]
  have hC3 : MDC t n σ0 τ0 p' (upd (upd I 8 (nI (C + 1))) 7 (nI (L + 1))) (nI (dd + 1)) w2 y2 k2 v2 o2 (upd m L (nI L)) (upd q dd (nI L)) f2 (upd q8 dd (nI L)) (nI (dd + 1)) (nI (C + 1)) σ1 (sI (sA τ1 8 (upd (gA τ1 8) dd (nI L))) 0 21 (nI (dd + 1))) := ⟨JC_t (JC_tA hC2.1 (by decide) _) (by decide) _, ⟨hC2.2.1.1, (hC2.2.1.2.sA8 _).sI (k := 21) _ rfl⟩, hC2.2.2.1, ⟨by rw [gA_sI, gA_sA, if_neg (by decide)]; exact hC2.2.2.2.1, by rw [gA_sI, gA_sA, if_pos rfl, hC2.2.2.2.2.1], by rw [gI_sI, if_pos ⟨rfl, rfl⟩], by rw [gI_sI, if_neg (by decide)]; exact hC2.2.2.2.2.2.2⟩⟩
  refine Out.ckR (hC3.sign.mono (fun σ2 τ2 hM => ?_))
  have hl := hI.line (I' := upd (upd I 8 (nI (C + 1))) 7 (nI (L + 1))) (w' := w2) (y' := y2) (k' := k2) (v' := v2) (o' := o2) (m' := upd m L (nI L)) (q' := upd q dd (nI L)) (f' := f2) (q8' := upd q8 dd (nI L)) (d' := nI (dd + 1)) (d21' := nI (dd + 1)) (c22' := nI (C + 1)) (R := R) hC true a2.1 (fun _ => hdd) a3 a2.2 (fun j hj => by
    obtain ⟨c1, c2, c3, c4, c5⟩ := a4.1 j hj
    exact ⟨by rw [c1, upd_at, if_neg hj], c2, c3, c4, c5⟩) (fun j hj => by rw [upd_at, if_neg hj]) (fun x h1 h2 => by rw [a4.2 x (by omega), pa.2.2.2 x (by omega) (by omega)]) (by rw [a4.2 19407 (by omega)]; exact pa.2.2.1) ⟨rfl, rfl⟩ rfl rfl rfl (fun j hj => ⟨by rw [upd_at, if_neg (by omega)], by rw [upd_at, if_neg (by omega)]⟩) (fun _ => ⟨by rw [upd_at, if_pos rfl], by rw [upd_at, if_pos rfl]⟩)
  exact ⟨_, Nat.lt_of_lt_of_le hp (Nat.le_trans a1 (le_tE hC2.1.2.1)), _, _, _, _, _, _, _, _, _, _, _, _, _, _, _, _, _, _, hl, hM⟩
end
