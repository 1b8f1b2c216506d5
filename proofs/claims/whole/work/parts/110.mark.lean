/-! MARK AND BACK -/
def Cq (w v : Nat) (σ σ1 : ST) (I A B : Nat → Nat → Prop) : Prop := (∀ x, (x < w ∨ w + 28 ≤ x) → (∀ k, gI σ1 x k = gI σ x k) ∧ (∀ k, gJ σ1 x k = gJ σ x k) ∧ gA σ1 x = gA σ x ∧ gB σ1 x = gB σ x) ∧ (∀ x k, I x k → gI σ1 (w + x) k = gI σ (v + x) k) ∧ (∀ x k, A x k → gA σ1 (w + x) k = gA σ (v + x) k) ∧ ∀ x k, B x k → gB σ1 (w + x) k = gB σ (v + x) k
def noP : Nat → Nat → Prop := fun _ _ => False
theorem Cq.rf (w v : Nat) (σ : ST) : Cq w v σ σ noP noP noP := ⟨fun _ _ => ⟨fun _ => rfl, fun _ => rfl, rfl, rfl⟩, fun _ _ q => q.elim, fun _ _ q => q.elim, fun _ _ q => q.elim⟩
theorem Cq.mono {w v : Nat} {σ σ1 : ST} {I A B I2 A2 B2 : Nat → Nat → Prop} (h : Cq w v σ σ1 I A B) (hI : ∀ x k, I2 x k → I x k) (hA : ∀ x k, A2 x k → A x k) (hB : ∀ x k, B2 x k → B x k) : Cq w v σ σ1 I2 A2 B2 := ⟨h.1, fun x k q => h.2.1 x k (hI x k q), fun x k q => h.2.2.1 x k (hA x k q), fun x k q => h.2.2.2 x k (hB x k q)⟩
theorem Cq.wI {w v : Nat} {σ σ1 : ST} {I A B : Nat → Nat → Prop} (h : Cq w v σ σ1 I A B) {x : Nat} (hx : x < 28) {k : Nat} {val : Int32} (e : val = gI σ (v + x) k) : Cq w v σ (sI σ1 (w + x) k val) (fun y j => I y j ∨ (y = x ∧ j = k)) A B := by
  refine ⟨fun y hy => ⟨fun j => ?_, (h.1 y hy).2.1, (h.1 y hy).2.2.1, (h.1 y hy).2.2.2⟩, fun y j q => ?_, h.2.2.1, h.2.2.2⟩
  · rw [gI_sI, if_neg (by omega)]; exact (h.1 y hy).1 j
  · rw [gI_sI]
    by_cases z : y = x ∧ j = k
    · rw [if_pos ⟨by omega, z.2⟩, z.1, z.2]; exact e
    · rw [if_neg (by omega)]
      exact h.2.1 y j (q.resolve_right z)
theorem Cq.cI {w v : Nat} (hd : w + 28 ≤ v ∨ v + 28 ≤ w) {σ σ1 : ST} {I A B : Nat → Nat → Prop} (h : Cq w v σ σ1 I A B) {x : Nat} (hx : x < 28) (k : Nat) : Cq w v σ (sI σ1 (w + x) k (gI σ1 (v + x) k)) (fun y j => I y j ∨ (y = x ∧ j = k)) A B := h.wI hx ((h.1 (v + x) (by omega)).1 k)
theorem Cq.cA {w v : Nat} (hd : w + 28 ≤ v ∨ v + 28 ≤ w) {σ σ1 : ST} {I A B : Nat → Nat → Prop} (h : Cq w v σ σ1 I A B) {x : Nat} (hx : x < 28) (n : Nat) : Cq w v σ (sA σ1 (w + x) (va_cpy (gA σ1 (v + x)) (gA σ1 (w + x)) 0 0 n)) I (fun y j => A y j ∨ (y = x ∧ j < n)) B := by
  have e := (h.1 (v + x) (by omega)).2.2.1
  refine ⟨fun y hy => ⟨(h.1 y hy).1, (h.1 y hy).2.1, ?_, (h.1 y hy).2.2.2⟩, h.2.1, fun y j q => ?_, h.2.2.2⟩
  · rw [gA_sA, if_neg (by omega)]; exact (h.1 y hy).2.2.1
  · rw [gA_sA]
    by_cases z : y = x
    · subst z
      rw [if_pos rfl]
      unfold va_cpy
      by_cases z2 : 0 ≤ j ∧ j < 0 + n
      · rw [if_pos z2, e, show 0 + (j - 0) = j by omega]
      · rw [if_neg z2]
        exact h.2.2.1 y j (q.resolve_right (fun q2 => z2 (by omega)))
    · rw [if_neg (by omega)]
      exact h.2.2.1 y j (q.resolve_right (fun q2 => z q2.1))
theorem Cq.cB {w v : Nat} (hd : w + 28 ≤ v ∨ v + 28 ≤ w) {σ σ1 : ST} {I A B : Nat → Nat → Prop} (h : Cq w v σ σ1 I A B) {x : Nat} (hx : x < 28) (n : Nat) : Cq w v σ (sB σ1 (w + x) (va_cpy (gB σ1 (v + x)) (gB σ1 (w + x)) 0 0 n)) I A (fun y j => B y j ∨ (y = x ∧ j < n)) := by
  have e := (h.1 (v + x) (by omega)).2.2.2
  refine ⟨fun y hy => ⟨(h.1 y hy).1, (h.1 y hy).2.1, (h.1 y hy).2.2.1, ?_⟩, h.2.1, h.2.2.1, fun y j q => ?_⟩
  · rw [gB_sB, if_neg (by omega)]; exact (h.1 y hy).2.2.2
  · rw [gB_sB]
    by_cases z : y = x
    · subst z
      rw [if_pos rfl]
      unfold va_cpy
      by_cases z2 : 0 ≤ j ∧ j < 0 + n
      · rw [if_pos z2, e, show 0 + (j - 0) = j by omega]
      · rw [if_neg z2]
        exact h.2.2.2 y j (q.resolve_right (fun q2 => z2 (by omega)))
    · rw [if_neg (by omega)]
      exact h.2.2.2 y j (q.resolve_right (fun q2 => z q2.1))
def I7 : Nat → Nat → Prop := fun x k => x = 1 ∧ 6 ≤ k ∧ k ≤ 11
def A7 : Nat → Nat → Prop := fun x k => ((x = 2 ∨ x = 4 ∨ x = 7) ∧ k < 6) ∨ (x = 6 ∧ k < 36)
def B7 : Nat → Nat → Prop := fun x k => (x = 3 ∨ x = 5) ∧ k < 6
theorem c_copy7 {w v : Nat} (hw : isW w) (hv : isW v) (hd : w + 28 ≤ v ∨ v + 28 ≤ w) (σ : ST) : ∃ σ1, f_X7_copy (w + 1) (v + 1) σ = some σ1 ∧ Cq w v σ σ1 I7 A7 B7 := by
  simp (disch := omega) only [↓mI_e, lit, ofN, bsm, nI_add, pk_mul, pk_sub, nI_e, nI_leE, nI_ltE, nI_mI, mI_nI, mI_lt, nlt_mI, mI_le, nle_mI, nI_addm, sh_b, bI_0, bI_1, bI_bI, ckZ_b, ckZ_n0, ckZ_n1, stIe, stJe, stZ_n0, stZ_n1, rm_nI, dv_nI, if_true, if_false, if_pos, if_neg, rf0, rf1, rf5, rf6, rf7, rf8, rf9, rf20, rf23, rf24, rf25, rf26, rf29, rf31, rf33, rf34, rf35, rf37, rf38, rf41, rf42, rf43,  f_X7_copy, ws_0 hw, ws_1 hw, ws_2 hw, ws_3 hw, ws_4 hw, ws_5 hw, ws_0 hv, ws_1 hv, ws_2 hv, ws_3 hv, ws_4 hv, ws_5 hv, wl_6 hw, cpA_n 6 6 (wl_2 hv) (wl_2 hw), cpB_n 6 6 (wl_3 hv) (wl_3 hw), cpA_n 6 6 (wl_4 hv) (wl_4 hw), cpB_n 6 6 (wl_5 hv) (wl_5 hw), cpA_n 36 36 (wl_6 hv) (wl_6 hw), cpA_n 6 6 (wl_7 hv) (wl_7 hw)]
  refine ⟨_, rfl, Cq.mono ((((((((((((((Cq.rf w v σ).cI hd (x := 1) (by decide) 6).cI hd (x := 1) (by decide) 7).cI hd (x := 1) (by decide) 8).cI hd (x := 1) (by decide) 9).cI hd (x := 1) (by decide) 10).cI hd (x := 1) (by decide) 11).cA hd (x := 2) (by decide) 6).cB hd (x := 3) (by decide) 6).cA hd (x := 4) (by decide) 6).cB hd (x := 5) (by decide) 6).cA hd (x := 6) (by decide) 36).cA hd (x := 7) (by decide) 6)) ?_ ?_ ?_⟩
  · intro x k q; unfold I7 at q; omega
  · intro x k q; unfold A7 at q; omega
  · intro x k q; unfold B7 at q; omega
theorem Cq.cA' {w v : Nat} (hd : w + 28 ≤ v ∨ v + 28 ≤ w) {σ σ1 : ST} {I A B : Nat → Nat → Prop} (h : Cq w v σ σ1 I A B) {x : Nat} (hx : x < 28) (n : Nat) : Cq w v σ (sA σ1 (w + x) (va_cpy (gA σ1 (v + x)) (gA σ1 (w + x)) 0 0 n)) I (fun y j => A y j ∨ (y = x ∧ j < n)) B := h.cA hd hx n
theorem c_copy2 {w v : Nat} (hw : isW w) (hv : isW v) (hd : w + 28 ≤ v ∨ v + 28 ≤ w) {σ σ1 : ST} {L z : Nat} (hL : L ≤ 60) (hz : z ≤ 1) (h6 : gI σ (v + 8) 6 = nI z) (h7 : gI σ (v + 8) 7 = nI L) {I A B : Nat → Nat → Prop} (h : Cq w v σ σ1 I A B) : ∃ σ2, f_X2_copy (w + 8) (v + 8) σ1 = some σ2 ∧ Cq w v σ σ2 (fun y j => I y j ∨ (y = 8 ∧ (j = 6 ∨ j = 7))) (fun y j => A y j ∨ (9 ≤ y ∧ y < 15 ∧ j < L)) B := by
  have e6 : gI σ1 (v + 8) 6 = nI z := ((h.1 (v + 8) (by omega)).1 6).trans h6
  have ez : stZ σ1 (w + 8) 6 (nI z) = some (sI σ1 (w + 8) 6 (nI z)) := by
    rcases (show z = 0 ∨ z = 1 by omega) with rfl | rfl
    · exact stZ_n0 _ _ _
    · exact stZ_n1 _ _ _
  have e7 : gI (sI σ1 (w + 8) 6 (nI z)) (v + 8) 7 = nI L := by rw [gI_sI, if_neg (by omega)]; exact ((h.1 (v + 8) (by omega)).1 7).trans h7
  have e8 : ∀ u, gI (sI (sI (sI σ1 (w + 8) 6 (nI z)) (w + 8) 7 (nI L)) (w + 8) 8 u) (w + 8) 7 = nI L := fun u => by rw [gI_sI, if_neg (by omega), gI_sI, if_pos ⟨rfl, rfl⟩]
  simp (disch := omega) only [↓mI_e, lit, ofN, bsm, nI_add, pk_mul, pk_sub, nI_e, nI_leE, nI_ltE, nI_mI, mI_nI, mI_lt, nlt_mI, mI_le, nle_mI, nI_addm, sh_b, bI_0, bI_1, bI_bI, ckZ_b, ckZ_n0, ckZ_n1, stIe, stJe, stZ_n0, stZ_n1, rm_nI, dv_nI, if_true, if_false, if_pos, if_neg, rf0, rf1, rf5, rf6, rf7, rf8, rf9, rf20, rf23, rf24, rf25, rf26, rf29, rf31, rf33, rf34, rf35, rf37, rf38, rf41, rf42, rf43,  f_X2_copy, wd_0 hw, wd_1 hw, wd_2 hw, wd_3 hw, wd_4 hw, wd_5 hw, wd_0 hv, wd_1 hv, wd_2 hv, wd_3 hv, wd_4 hv, wd_5 hv, e6, ez, e7, e8, gI_sA, cpA_n 60 60 (wl_9 hv) (wl_9 hw), cpA_n 60 60 (wl_10 hv) (wl_10 hw), cpA_n 60 60 (wl_11 hv) (wl_11 hw), cpA_n 60 60 (wl_12 hv) (wl_12 hw), cpA_n 60 60 (wl_13 hv) (wl_13 hw), cpA_n 60 60 (wl_14 hv) (wl_14 hw)]
  refine ⟨_, rfl, Cq.mono ((((((((((h.wI (x := 8) (k := 6) (by decide) h6.symm).wI (x := 8) (k := 7) (by decide) h7.symm).cI hd (x := 8) (by decide) 8).cA hd (x := 9) (by decide) L).cA hd (x := 10) (by decide) L).cA hd (x := 11) (by decide) L).cA hd (x := 12) (by decide) L).cA hd (x := 13) (by decide) L).cA hd (x := 14) (by decide) L)) ?_ ?_ ?_⟩
  · intro x k q
    rcases q with q | q
    · exact Or.inl (Or.inl (Or.inl q))
    · rcases q with ⟨rfl, rfl | rfl⟩
      · exact Or.inl (Or.inl (Or.inr ⟨rfl, rfl⟩))
      · exact Or.inl (Or.inr ⟨rfl, rfl⟩)
  · intro x k q
    rcases q with q | ⟨q1, q2, q3⟩
    · exact Or.inl (Or.inl (Or.inl (Or.inl (Or.inl (Or.inl q)))))
    · rcases (show x = 9 ∨ x = 10 ∨ x = 11 ∨ x = 12 ∨ x = 13 ∨ x = 14 by omega) with rfl | rfl | rfl | rfl | rfl | rfl
      · exact Or.inl (Or.inl (Or.inl (Or.inl (Or.inl (Or.inr ⟨rfl, q3⟩)))))
      · exact Or.inl (Or.inl (Or.inl (Or.inl (Or.inr ⟨rfl, q3⟩))))
      · exact Or.inl (Or.inl (Or.inl (Or.inr ⟨rfl, q3⟩)))
      · exact Or.inl (Or.inl (Or.inr ⟨rfl, q3⟩))
      · exact Or.inl (Or.inr ⟨rfl, q3⟩)
      · exact Or.inr ⟨rfl, q3⟩
  · intro x k q; exact q
def wln (x : Nat) : Nat := if x = 2 ∨ x = 4 ∨ x = 7 then 6 else if x = 6 ∨ x = 21 ∨ x = 26 then 36 else if x = 16 ∨ x = 17 then 216 else if x = 19 ∨ x = 20 then 1296 else if x = 23 ∨ x = 24 then 24 else if x = 25 then 4 else if x = 27 then 1080 else 0
def IW : Nat → Nat → Prop := fun x k => (x = 1 ∧ 6 ≤ k ∧ k ≤ 11) ∨ (x = 0 ∧ 9 ≤ k ∧ k ≤ 11) ∨ (x = 8 ∧ (k = 6 ∨ k = 7))
def AW (L : Nat) : Nat → Nat → Prop := fun x k => k < wln x ∨ (9 ≤ x ∧ x < 15 ∧ k < L)
theorem c_copyW {w v : Nat} (hw : isW w) (hv : isW v) (hd : w + 28 ≤ v ∨ v + 28 ≤ w) {σ : ST} {L z : Nat} (hL : L ≤ 60) (hz : z ≤ 1) (h6 : gI σ (v + 8) 6 = nI z) (h7 : gI σ (v + 8) 7 = nI L) : ∃ σ1, f_X10_copy w v σ = some σ1 ∧ Cq w v σ σ1 IW (AW L) B7 := by
  obtain ⟨σ1, p1, p2⟩ := c_copy7 hw hv hd σ
  obtain ⟨σ2, p3, p4⟩ := c_copy2 hw hv hd hL hz h6 h7 p2
  simp (disch := omega) only [↓mI_e, lit, ofN, bsm, nI_add, pk_mul, pk_sub, nI_e, nI_leE, nI_ltE, nI_mI, mI_nI, mI_lt, nlt_mI, mI_le, nle_mI, nI_addm, sh_b, bI_0, bI_1, bI_bI, ckZ_b, ckZ_n0, ckZ_n1, stIe, stJe, stZ_n0, stZ_n1, rm_nI, dv_nI, if_true, if_false, if_pos, if_neg, rf0, rf1, rf5, rf6, rf7, rf8, rf9, rf20, rf23, rf24, rf25, rf26, rf29, rf31, rf33, rf34, rf35, rf37, rf38, rf41, rf42, rf43,  f_X10_copy, f_X0_copyAll, w_0 hw, w_1 hw, w_2 hw, w_3 hw, w_4 hw, w_5 hw, w_6 hw, w_7 hw, w_8 hw, w_0 hv, w_1 hv, w_2 hv, w_3 hv, w_4 hv, w_5 hv, w_6 hv, w_7 hv, w_8 hv, wh_0 hw, wh_1 hw, wq_0 hw, wq_1 hw, wt_0 hw, wt_1 hw, wh_0 hv, wh_1 hv, wq_0 hv, wq_1 hv, wt_0 hv, wt_1 hv, p1, p3, wl_16 hw, wl_17 hw, wl_19 hw, wl_20 hw, wl_21 hw, wl_23 hw, wl_24 hw, wl_26 hw, wl_27 hw, cpA_n 216 216 (wl_16 hv) (wl_16 hw), cpA_n 216 216 (wl_17 hv) (wl_17 hw), cpA_n 1296 1296 (wl_19 hv) (wl_19 hw), cpA_n 1296 1296 (wl_20 hv) (wl_20 hw), cpA_n 36 36 (wl_21 hv) (wl_21 hw), cpA_n 24 24 (wl_23 hv) (wl_23 hw), cpA_n 24 24 (wl_24 hv) (wl_24 hw), cpA_n 4 4 (wl_25 hv) (wl_25 hw), cpA_n 36 36 (wl_26 hv) (wl_26 hw), cpA_n 1080 1080 (wl_27 hv) (wl_27 hw)]
  refine ⟨_, rfl, Cq.mono (((((((((((((p4.cA hd (x := 16) (by decide) 216).cA hd (x := 17) (by decide) 216).cA hd (x := 19) (by decide) 1296).cA hd (x := 20) (by decide) 1296).cA hd (x := 21) (by decide) 36).cA hd (x := 23) (by decide) 24).cA hd (x := 24) (by decide) 24).cA hd (x := 25) (by decide) 4).cA hd (x := 26) (by decide) 36).cA hd (x := 27) (by decide) 1080).cI hd (x := 0) (by decide) 9).cI hd (x := 0) (by decide) 10).cI hd (x := 0) (by decide) 11) ?_ ?_ ?_⟩
  · intro x k q; unfold IW at q; unfold I7; omega
  · intro x k q
    unfold AW wln at q
    rcases q with q | q
    · split at q
      · next hx =>
        have h7 : A7 x k := Or.inl ⟨hx, q⟩
        iterate 11 apply Or.inl
        exact h7
      · split at q
        · next hx =>
          rcases hx with rfl | rfl | rfl
          · have h7 : A7 6 k := Or.inr ⟨rfl, q⟩
            iterate 11 apply Or.inl
            exact h7
          · iterate 5 apply Or.inl
            exact Or.inr ⟨rfl, q⟩
          · iterate 1 apply Or.inl
            exact Or.inr ⟨rfl, q⟩
        · split at q
          · next hx =>
            rcases hx with rfl | rfl
            · iterate 9 apply Or.inl
              exact Or.inr ⟨rfl, q⟩
            · iterate 8 apply Or.inl
              exact Or.inr ⟨rfl, q⟩
          · split at q
            · next hx =>
              rcases hx with rfl | rfl
              · iterate 7 apply Or.inl
                exact Or.inr ⟨rfl, q⟩
              · iterate 6 apply Or.inl
                exact Or.inr ⟨rfl, q⟩
            · split at q
              · next hx =>
                rcases hx with rfl | rfl
                · iterate 4 apply Or.inl
                  exact Or.inr ⟨rfl, q⟩
                · iterate 3 apply Or.inl
                  exact Or.inr ⟨rfl, q⟩
              · split at q
                · next hx =>
                  subst hx
                  iterate 2 apply Or.inl
                  exact Or.inr ⟨rfl, q⟩
                · split at q
                  · next hx =>
                    subst hx
                    exact Or.inr ⟨rfl, q⟩
                  · exact absurd q (Nat.not_lt_zero _)
    · iterate 10 apply Or.inl
      exact Or.inr q
  · intro x k q; exact q
/-- RelW speaks of no more than the copied fields -/
theorem RelW_ag {B : Nat} {s s' : ST} {f : Nat → Int32} {g : Nat → Int64} (h : RelW B s f g) (hI : ∀ x k, IW x k → gI s' x k = gI s x k) (hA : ∀ L, gI s 8 7 = nI L → L ≤ 60 → ∀ x k, AW L x k → gA s' x k = gA s x k) (hB : ∀ x k, B7 x k → gB s' x k = gB s x k) : RelW B s' f g := by
  obtain ⟨hS, hU, hT, hG, hV, hH, hQ, hD, hN⟩ := h
  obtain ⟨s0, s1, s2, s3, s4, s5, s6, s7⟩ := hS
  have hK := s0.1
  have hY := s0.2.1
  obtain ⟨L, hL, h7⟩ : ∃ L, L ≤ 60 ∧ gI s 8 7 = nI L := by
    rcases hD with ⟨_, _, q⟩ | ⟨L, D, q1, _, _, q2, _⟩
    · exact ⟨0, by omega, q⟩
    · exact ⟨L, q1, q2⟩
  have a := hA L h7 hL
  have i1 : ∀ k, 6 ≤ k → k ≤ 11 → gI s' 1 k = gI s 1 k := fun k p q => hI 1 k (Or.inl ⟨rfl, p, q⟩)
  have i0 : ∀ k, 9 ≤ k → k ≤ 11 → gI s' 0 k = gI s 0 k := fun k p q => hI 0 k (Or.inr (Or.inl ⟨rfl, p, q⟩))
  have aw : ∀ x n, wln x = n → ∀ k, k < n → gA s' x k = gA s x k := fun x n e k hk => a x k (Or.inl (by rw [e]; exact hk))
  have ad : ∀ x k, 9 ≤ x → x < 15 → k < L → gA s' x k = gA s x k := fun x k p q r => a x k (Or.inr ⟨p, q, r⟩)
  have b3 : ∀ k, k < 6 → gB s' 3 k = gB s 3 k := fun k hk => hB 3 k ⟨Or.inl rfl, hk⟩
  have b5 : ∀ k, k < 6 → gB s' 5 k = gB s 5 k := fun k hk => hB 5 k ⟨Or.inr rfl, hk⟩
  refine ⟨⟨s0, ?_, ?_, ?_, ?_, s5, ?_, ?_⟩, ?_, ⟨?_, ?_⟩, ⟨?_, hG.2⟩, ?_, ?_, ?_, ?_, ?_, ?_⟩
  · rw [i1 6 (by omega) (by omega), i1 7 (by omega) (by omega), i1 9 (by omega) (by omega), i1 10 (by omega) (by omega), i1 11 (by omega) (by omega)]; exact s1
  · intro i hi; rw [aw 2 6 rfl i (by omega)]; exact s2 i hi
  · intro i hi; rw [aw 4 6 rfl i (by omega)]; exact s3 i hi
  · intro y; rw [i1 8 (by omega) (by omega)]; exact s4 y
  · intro y hy k; rw [aw 7 6 rfl y (by omega)]; exact s6 y hy k
  · intro y hy m hm; rw [aw 6 36 rfl (y * 6 + m) (by omega)]; exact s7 y hy m hm
  · unfold RU; rw [i0 9 (by omega) (by omega), i0 10 (by omega) (by omega)]; exact hU
  · intro k; rw [i0 11 (by omega) (by omega)]; exact hT.1 k
  · intro t ht
    obtain ⟨t1, t2⟩ := hT.2 t ht
    refine ⟨fun k hk => by rw [aw 23 24 rfl (t * 6 + k) (by omega)]; exact t1 k hk, fun q => ?_⟩
    obtain ⟨y, y1, y2, y3, y4, y5⟩ := t2 q
    exact ⟨y, y1, y2, y3, by rw [aw 25 4 rfl t ht]; exact y4, fun k hk => by rw [aw 24 24 rfl (t * 6 + k) (by omega)]; exact y5 k hk⟩
  · intro c hc; rw [aw 26 36 rfl c hc]; exact hG.1 c hc
  · intro y k i hy hk hi
    have hg := (hG.2 k y hk hy).1
    rw [aw 27 1080 rfl (y * 180 + k * 30 + i) (by omega)]; exact hV y k i hy hk hi
  · intro p y hp hy
    refine ⟨fun k hk => ?_, (hH p y hp hy).2⟩
    rw [show (15 : Nat) + 1 = 16 from rfl, show (15 : Nat) + 2 = 17 from rfl, aw 16 216 rfl ((p * 6 + y) * 6 + k) (by omega), aw 17 216 rfl ((p * 6 + y) * 6 + k) (by omega)]
    exact (hH p y hp hy).1 k hk
  · intro p q hp hq
    obtain ⟨q1, q2⟩ := hQ p q hp hq
    refine ⟨fun y => by rw [aw 21 36 rfl (p * 6 + q) (by omega)]; exact q1 y, fun y hy => ⟨fun k hk => ?_, (q2 y hy).2⟩⟩
    rw [show (18 : Nat) + 1 = 19 from rfl, show (18 : Nat) + 2 = 20 from rfl, aw 19 1296 rfl (((p * 6 + q) * 6 + y) * 6 + k) (by omega), aw 20 1296 rfl (((p * 6 + q) * 6 + y) * 6 + k) (by omega)]
    exact (q2 y hy).1 k hk
  · have j6 := hI 8 6 (Or.inr (Or.inr ⟨rfl, Or.inl rfl⟩))
    have j7 := hI 8 7 (Or.inr (Or.inr ⟨rfl, Or.inr rfl⟩))
    rcases hD with ⟨d1, d2, d3⟩ | ⟨L', D, d1, d2, d3, d4, d5, d6, d7⟩
    · exact Or.inl ⟨d1, by rw [j6]; exact d2, by rw [j7]; exact d3⟩
    · have eL : L' = L := (nI_eq (by omega) (by omega)).mp (d4.symm.trans h7)
      subst eL
      refine Or.inr ⟨L', D, d1, d2, by rw [j6]; exact d3, by rw [j7]; exact d4, d5, fun k hk => ?_, d7⟩
      rw [ad 9 k (by omega) (by omega) hk, ad 10 k (by omega) (by omega) hk, ad 11 k (by omega) (by omega) hk, ad 12 k (by omega) (by omega) hk, ad 13 k (by omega) (by omega) hk, ad 14 k (by omega) (by omega) hk]
      exact d6 k hk
  · exact fun i hi => by rw [b3 i (by omega)]; exact hN.1 i hi
  · exact fun i hi => by rw [b5 i (by omega)]; exact hN.2 i hi
/-! the reference's copy -/
def cpR (f : Nat → Int32) (a b n : Nat) : Nat → Int32 := fun j => if b ≤ j ∧ j < b + n then f (a + (j - b)) else f j
def cpL (f : Nat → Int64) (a b n : Nat) : Nat → Int64 := fun j => if b ≤ j ∧ j < b + n then f (a + (j - b)) else f j
theorem cpR_s {f : Nat → Int32} {a b n : Nat} : upd (cpR f a b n) (b + n) (f (a + n)) = cpR f a b (n + 1) := by
  funext j
  rw [upd_at]
  unfold cpR
  by_cases z : j = b + n
  · rw [if_pos z, if_pos (by omega), show a + (j - b) = a + n by omega]
  · rw [if_neg z]
    by_cases z2 : b ≤ j ∧ j < b + n
    · rw [if_pos z2, if_pos (by omega)]
    · rw [if_neg z2, if_neg (by omega)]
theorem cpL_s {f : Nat → Int64} {a b n : Nat} : vp_updL (cpL f a b n) (b + n) (f (a + n)) = cpL f a b (n + 1) := by
  funext j
  unfold vp_updL cpL
  by_cases z : j = b + n
  · rw [if_pos z, if_pos (by omega), show a + (j - b) = a + n by omega]
  · rw [if_neg z]
    by_cases z2 : b ≤ j ∧ j < b + n
    · rw [if_pos z2, if_pos (by omega)]
    · rw [if_neg z2, if_neg (by omega)]
theorem r_copies_41 {a b : Nat} (ha : a ≤ 3) (hb : b ≤ 3) (hab : a ≠ b) (g : Nat → Int64) : ∀ (n k : Nat) (τ : ST), k ≤ 12 → 12 - k < n → gB τ 2 = cpL g (12 * a) (12 * b) k → k_X12_copies_41 n 0 (nI a) (nI b) (nI k) τ = some (sB τ 2 (cpL g (12 * a) (12 * b) 12)) := by
  intro n
  induction n with
  | zero => intros; omega
  | succ n ih =>
    intro k τ hk hn h2
    rw [k_X12_copies_41]
    by_cases e : k = 12
    · subst e
      rw [← h2, sB_self]
      simp (disch := omega) only [↓mI_e, lit, ofN, bsm, nI_add, pk_mul, pk_sub, nI_e, nI_leE, nI_ltE, nI_mI, mI_nI, mI_lt, nlt_mI, mI_le, nle_mI, nI_addm, sh_b, bI_0, bI_1, bI_bI, ckZ_b, ckZ_n0, ckZ_n1, stIe, stJe, stZ_n0, stZ_n1, rm_nI, dv_nI, if_true, if_false, if_pos, if_neg, rf0, rf1, rf5, rf6, rf7, rf8, rf9, rf20, rf23, rf24, rf25, rf26, rf29, rf31, rf33, rf34, rf35, rf37, rf38, rf41, rf42, rf43, ]
    · have e1 : cpL g (12 * a) (12 * b) k (12 * a + k) = g (12 * a + k) := if_neg (by omega)
      have IH := ih (k + 1) (sB τ 2 (vp_updL (gB τ 2) (12 * b + k) (gB τ 2 (12 * a + k)))) (by omega) (by omega) (by rw [gB_sB, if_pos rfl, h2, e1, cpL_s])
      rw [sB_sB] at IH
      simp (disch := omega) only [↓mI_e, lit, ofN, bsm, nI_add, pk_mul, pk_sub, nI_e, nI_leE, nI_ltE, nI_mI, mI_nI, mI_lt, nlt_mI, mI_le, nle_mI, nI_addm, sh_b, bI_0, bI_1, bI_bI, ckZ_b, ckZ_n0, ckZ_n1, stIe, stJe, stZ_n0, stZ_n1, rm_nI, dv_nI, if_true, if_false, if_pos, if_neg, rf0, rf1, rf5, rf6, rf7, rf8, rf9, rf20, rf23, rf24, rf25, rf26, rf29, rf31, rf33, rf34, rf35, rf37, rf38, rf41, rf42, rf43,  lr2, sr2]
      exact IH
theorem r_copies_2 {a b : Nat} (ha : a ≤ 3) (hb : b ≤ 3) (hab : a ≠ b) (f : Nat → Int32) : ∀ (n k : Nat) (τ : ST), k ≤ 4850 → 4850 - k < n → gA τ 1 = cpR f (4850 * a) (4850 * b) k → k_X12_copies_2 n 0 (nI a) (nI b) (nI k) τ = some (sB (sA τ 1 (cpR f (4850 * a) (4850 * b) 4850)) 2 (cpL (gB τ 2) (12 * a) (12 * b) 12)) := by
  obtain ⟨F, hF, hF2⟩ : ∃ F, FU = F ∧ 5000 < F := ⟨FU, rfl, by unfold FU; omega⟩
  intro n
  induction n with
  | zero => intros; omega
  | succ n ih =>
    intro k τ hk hn h1
    rw [k_X12_copies_2, hF]
    by_cases e : k = 4850
    · subst e
      rw [← h1, sA_self]
      have h0 := r_copies_41 ha hb hab (gB τ 2) F 0 τ (by omega) (by omega) (by funext j; unfold cpL; rw [if_neg (by omega)])
      simp (disch := omega) only [↓mI_e, lit, ofN, bsm, nI_add, pk_mul, pk_sub, nI_e, nI_leE, nI_ltE, nI_mI, mI_nI, mI_lt, nlt_mI, mI_le, nle_mI, nI_addm, sh_b, bI_0, bI_1, bI_bI, ckZ_b, ckZ_n0, ckZ_n1, stIe, stJe, stZ_n0, stZ_n1, rm_nI, dv_nI, if_true, if_false, if_pos, if_neg, rf0, rf1, rf5, rf6, rf7, rf8, rf9, rf20, rf23, rf24, rf25, rf26, rf29, rf31, rf33, rf34, rf35, rf37, rf38, rf41, rf42, rf43, ]
      exact h0
    · have e1 : cpR f (4850 * a) (4850 * b) k (4850 * a + k) = f (4850 * a + k) := if_neg (by omega)
      have IH := ih (k + 1) (sA τ 1 (upd (gA τ 1) (4850 * b + k) (gA τ 1 (4850 * a + k)))) (by omega) (by omega) (by rw [gA_sA, if_pos rfl, h1, e1, cpR_s])
      rw [sA_sA] at IH
      simp (disch := omega) only [↓mI_e, lit, ofN, bsm, nI_add, pk_mul, pk_sub, nI_e, nI_leE, nI_ltE, nI_mI, mI_nI, mI_lt, nlt_mI, mI_le, nle_mI, nI_addm, sh_b, bI_0, bI_1, bI_bI, ckZ_b, ckZ_n0, ckZ_n1, stIe, stJe, stZ_n0, stZ_n1, rm_nI, dv_nI, if_true, if_false, if_pos, if_neg, rf0, rf1, rf5, rf6, rf7, rf8, rf9, rf20, rf23, rf24, rf25, rf26, rf29, rf31, rf33, rf34, rf35, rf37, rf38, rf41, rf42, rf43,  lr1, sr1]
      exact IH
theorem r_copies {a b : Nat} (ha : a ≤ 3) (hb : b ≤ 3) (hab : a ≠ b) (τ : ST) : f_X12_copies 0 (nI a) (nI b) τ = some (sB (sA τ 1 (cpR (gA τ 1) (4850 * a) (4850 * b) 4850)) 2 (cpL (gB τ 2) (12 * a) (12 * b) 12)) := by
  obtain ⟨F, hF, hF2⟩ : ∃ F, FU = F ∧ 5000 < F := ⟨FU, rfl, by unfold FU; omega⟩
  rw [f_X12_copies, hF]
  exact r_copies_2 ha hb hab (gA τ 1) F 0 τ (by omega) (by omega) (by funext j; unfold cpR; rw [if_neg (by omega)])
theorem days_of {B : Nat} {s : ST} {f : Nat → Int32} {g : Nat → Int64} (h : RelW B s f g) : ∃ L z, L ≤ 60 ∧ z ≤ 1 ∧ gI s 8 6 = nI z ∧ gI s 8 7 = nI L := by
  rcases h.2.2.2.2.2.2.2.1 with ⟨_, q1, q2⟩ | ⟨L, D, q1, _, q2, q3, _⟩
  · exact ⟨0, 0, by omega, by omega, q1, q2⟩
  · exact ⟨L, 1, q1, by omega, q2, q3⟩
theorem wv_gI {σ : ST} {w x k : Nat} (hx : x < 28) : gI σ (w + x) k = gI (wv σ w) x k := (wv_I σ w hx k).symm
/-- a copied world -/
theorem RelW_cp {w v : Nat} {σ σ1 : ST} {B L : Nat} {f : Nat → Int32} {g : Nat → Int64} (h : RelW B (wv σ v) f g) (hL : L ≤ 60) (h7 : gI (wv σ v) 8 7 = nI L) (hc : Cq w v σ σ1 IW (AW L) B7) : RelW B (wv σ1 w) f g := by
  have hx0 : ∀ x k, IW x k → x < 28 := fun x k q => by unfold IW at q; omega
  have hx1 : ∀ x k, AW L x k → x < 28 := fun x k q => by
    rcases Nat.lt_or_ge x 28 with z | z
    · exact z
    · exfalso
      unfold AW wln at q
      rw [if_neg (by omega), if_neg (by omega), if_neg (by omega), if_neg (by omega), if_neg (by omega), if_neg (by omega), if_neg (by omega)] at q
      omega
  have hx2 : ∀ x k, B7 x k → x < 28 := fun x k q => by unfold B7 at q; omega
  refine RelW_ag h (fun x k q => ?_) (fun L' q1 q2 x k q => ?_) (fun x k q => ?_)
  · rw [wv_I _ _ (hx0 x k q), wv_I _ _ (hx0 x k q)]; exact hc.2.1 x k q
  · have eL : L' = L := (nI_eq (by omega) (by omega)).mp (q1.symm.trans h7)
    subst eL
    rw [wv_A _ _ (hx1 x k q), wv_A _ _ (hx1 x k q)]; exact hc.2.2.1 x k q
  · rw [wv_B _ _ (hx2 x k q), wv_B _ _ (hx2 x k q)]; exact hc.2.2.2 x k q
theorem mk_w {n : Nat} (hn : n < 3) : isW (110 + 28 * n) := by
  unfold isW
  omega
theorem mk_l {n : Nat} (hn : n < 3) : ldR LC 10 (LC.2.1 0 5) (nI n) = some (110 + 28 * n) := by
  rcases (show n = 0 ∨ n = 1 ∨ n = 2 by omega) with rfl | rfl | rfl <;> rfl
theorem sim_mark (i : Nat) : SIM_mark (Rel i) (Rel (i + 6)) := by
  intro σ τ h
  obtain ⟨h1, h2, h3, h4, h5, n, m0, m1, m2, m3⟩ := id h
  show Sm i _ _
  by_cases z : n = 3
  · subst z
    simp (disch := omega) only [↓mI_e, lit, ofN, bsm, nI_add, pk_mul, pk_sub, nI_e, nI_leE, nI_ltE, nI_mI, mI_nI, mI_lt, nlt_mI, mI_le, nle_mI, nI_addm, sh_b, bI_0, bI_1, bI_bI, ckZ_b, ckZ_n0, ckZ_n1, stIe, stJe, stZ_n0, stZ_n1, rm_nI, dv_nI, if_true, if_false, if_pos, if_neg, rf0, rf1, rf5, rf6, rf7, rf8, rf9, rf20, rf23, rf24, rf25, rf26, rf29, rf31, rf33, rf34, rf35, rf37, rf38, rf41, rf42, rf43,  f_X11_mark, f_X12_mark, m1, m2, c_refuse, r_refuse]
    exact Sm_0 h _ _
  · have hn : n < 3 := by omega
    obtain ⟨L, zz, hL, hz, d6, d7⟩ := days_of h5
    obtain ⟨σ1, c1, c2⟩ := c_copyW (mk_w hn) wM_w (by unfold wM; omega) (σ := σ) hL hz (by rw [wv_gI (by decide)]; exact d6) (by rw [wv_gI (by decide)]; exact d7)
    have hw := RelW_cp h5 hL d7 c2
    have o : ∀ x, (x < 110 + 28 * n ∨ 110 + 28 * n + 28 ≤ x) → (∀ k, gI σ1 x k = gI σ x k) ∧ (∀ k, gJ σ1 x k = gJ σ x k) ∧ gA σ1 x = gA σ x ∧ gB σ1 x = gB σ x := c2.1
    have e17 : gI σ1 0 17 = nI n := ((o 0 (by omega)).1 17).trans m1
    have r1 := r_copies (a := 0) (b := n + 1) (by omega) (by omega) (by omega) (sI τ 0 46 (nI (n + 1)))
    have eA : gA (sI τ 0 46 (nI (n + 1))) 1 = gA τ 1 := rfl
    have eB : gB (sI τ 0 46 (nI (n + 1))) 2 = gB τ 2 := rfl
    rw [eA, eB] at r1
    have n3 : ¬ (n = 3) := z
    refine ⟨nI (n + 1), sI (sI σ1 0 17 (nI (n + 1))) 0 14 (nI 0), sI (sB (sA (sI τ 0 46 (nI (n + 1))) 1 (cpR (gA τ 1) (4850 * 0) (4850 * (n + 1)) 4850)) 2 (cpL (gB τ 2) (12 * 0) (12 * (n + 1)) 12)) 0 2 (nI 0), ?_, ?_, ?_⟩
    · simp (disch := omega) only [↓mI_e, lit, ofN, bsm, nI_add, pk_mul, pk_sub, nI_e, nI_leE, nI_ltE, nI_mI, mI_nI, mI_lt, nlt_mI, mI_le, nle_mI, nI_addm, sh_b, bI_0, bI_1, bI_bI, ckZ_b, ckZ_n0, ckZ_n1, stIe, stJe, stZ_n0, stZ_n1, rm_nI, dv_nI, if_true, if_false, if_pos, if_neg, rf0, rf1, rf5, rf6, rf7, rf8, rf9, rf20, rf23, rf24, rf25, rf26, rf29, rf31, rf33, rf34, rf35, rf37, rf38, rf41, rf42, rf43,  f_X11_mark, m1, mk_l hn, c02, c1, e17, c_answer, gI_sI, and_self]
    · simp (disch := omega) only [↓mI_e, lit, ofN, bsm, nI_add, pk_mul, pk_sub, nI_e, nI_leE, nI_ltE, nI_mI, mI_nI, mI_lt, nlt_mI, mI_le, nle_mI, nI_addm, sh_b, bI_0, bI_1, bI_bI, ckZ_b, ckZ_n0, ckZ_n1, stIe, stJe, stZ_n0, stZ_n1, rm_nI, dv_nI, if_true, if_false, if_pos, if_neg, rf0, rf1, rf5, rf6, rf7, rf8, rf9, rf20, rf23, rf24, rf25, rf26, rf29, rf31, rf33, rf34, rf35, rf37, rf38, rf41, rf42, rf43,  f_X12_mark, m2, gI_sI, and_self, r1, gI_sB, gI_sA, r_gives]
    · have cI : ∀ x k, x < 110 → ¬ (x = 0 ∧ (k = 17 ∨ k = 14)) → gI (sI (sI σ1 0 17 (nI (n + 1))) 0 14 (nI 0)) x k = gI σ x k := fun x k a b => by
        rw [gI_sI, if_neg (fun q => b ⟨q.1, Or.inr q.2⟩), gI_sI, if_neg (fun q => b ⟨q.1, Or.inl q.2⟩)]; exact (o x (by omega)).1 k
      have tI : ∀ k, k ≠ 46 → k ≠ 2 → gI (sI (sB (sA (sI τ 0 46 (nI (n + 1))) 1 (cpR (gA τ 1) (4850 * 0) (4850 * (n + 1)) 4850)) 2 (cpL (gB τ 2) (12 * 0) (12 * (n + 1)) 12)) 0 2 (nI 0)) 0 k = gI τ 0 k := fun k a b => by
        rw [gI_sI, if_neg (fun q => b q.2)]
        show gI (sI τ 0 46 (nI (n + 1))) 0 k = gI τ 0 k
        rw [gI_sI, if_neg (fun q => a q.2)]
      have wI : ∀ w, (0 < w ∧ w + 28 ≤ 110 + 28 * n) → wv (sI (sI σ1 0 17 (nI (n + 1))) 0 14 (nI 0)) w = wv σ w := fun w hw' => wv_same (fun x a b => ⟨fun k => by rw [gI_sI, if_neg (by omega), gI_sI, if_neg (by omega)]; exact (o x (by omega)).1 k, (o x (by omega)).2.1, (o x (by omega)).2.2.1, (o x (by omega)).2.2.2⟩)
      refine ⟨⟨?_, (o 0 (by omega)).2.1 15 |>.trans h1.2.1, (o 0 (by omega)).2.1 16 |>.trans h1.2.2⟩, R2_c h2 (fun x k a b => cI x k (by omega) (by omega)) (fun x a b => (o x (by omega)).2.2.2) rfl rfl rfl, R3_c h3 (fun k => cI 2 k (by decide) (by omega)) (o 3 (by omega)).2.2.1 (tI 10 (by decide) (by decide)) (tI 16 (by decide) (by decide)) (tI 17 (by decide) (by decide)) rfl, R4_c h4 (cI 0 18 (by decide) (by omega)) (cI 0 19 (by decide) (by omega)) (cI 78 1 (by decide) (by omega)) (o 100 (by omega)).2.2.1 (o 79 (by omega)).2.2.1 (tI 32 (by decide) (by decide)) (tI 28 (by decide) (by decide)) (tI 44 (by decide) (by decide)) rfl rfl, ?_, n + 1, by omega, ?_, ?_, ?_⟩
      · rw [gI_sI, gI_sI]; rfl
      · rw [wI wM (by unfold wM; omega)]
        refine RelW_mono (by omega) (RelW_congr (fun k hk => ?_) (fun k hk => ?_) h5)
        · show cpR (gA τ 1) (4850 * 0) (4850 * (n + 1)) 4850 k = gA τ 1 k
          exact if_neg (by omega)
        · show cpL (gB τ 2) (12 * 0) (12 * (n + 1)) 12 k = gB τ 2 k
          exact if_neg (by omega)
      · rw [gI_sI, if_neg (by omega), gI_sI, if_pos ⟨rfl, rfl⟩]
      · rw [gI_sI, if_neg (by omega)]
        show gI (sI τ 0 46 (nI (n + 1))) 0 46 = nI (n + 1)
        rw [gI_sI, if_pos ⟨rfl, rfl⟩]
      · intro j hj
        by_cases zj : j = n
        · subst zj
          have ew : wv (sI (sI σ1 0 17 (nI (j + 1))) 0 14 (nI 0)) (110 + 28 * j) = wv σ1 (110 + 28 * j) := wv_same (fun x a b => ⟨fun k => by rw [gI_sI, if_neg (by omega), gI_sI, if_neg (by omega)], fun _ => rfl, rfl, rfl⟩)
          rw [ew]
          refine RelW_mono (by omega) (RelW_congr (fun k hk => ?_) (fun k hk => ?_) hw)
          · show cpR (gA τ 1) (4850 * 0) (4850 * (j + 1)) 4850 (4850 * (j + 1) + k) = gA τ 1 k
            unfold cpR
            rw [if_pos (by omega), show 4850 * 0 + (4850 * (j + 1) + k - 4850 * (j + 1)) = k by omega]
          · show cpL (gB τ 2) (12 * 0) (12 * (j + 1)) 12 (12 * (j + 1) + k) = gB τ 2 k
            unfold cpL
            rw [if_pos (by omega), show 12 * 0 + (12 * (j + 1) + k - 12 * (j + 1)) = k by omega]
        · rw [wI _ (by omega)]
          refine RelW_mono (by omega) (RelW_congr (fun k hk => ?_) (fun k hk => ?_) (m3 j (by omega)))
          · show cpR (gA τ 1) (4850 * 0) (4850 * (n + 1)) 4850 (4850 * (j + 1) + k) = gA τ 1 (4850 * (j + 1) + k)
            exact if_neg (by omega)
          · show cpL (gB τ 2) (12 * 0) (12 * (n + 1)) 12 (12 * (j + 1) + k) = gB τ 2 (12 * (j + 1) + k)
            exact if_neg (by omega)
theorem sim_back (i : Nat) : SIM_back (Rel i) (Rel (i + 6)) := by
  intro σ τ h
  obtain ⟨h1, h2, h3, h4, h5, n', m0, m1, m2, m3⟩ := id h
  show Sm i _ _
  by_cases z : n' = 0
  · subst z
    simp (disch := omega) only [↓mI_e, lit, ofN, bsm, nI_add, pk_mul, pk_sub, nI_e, nI_leE, nI_ltE, nI_mI, mI_nI, mI_lt, nlt_mI, mI_le, nle_mI, nI_addm, sh_b, bI_0, bI_1, bI_bI, ckZ_b, ckZ_n0, ckZ_n1, stIe, stJe, stZ_n0, stZ_n1, rm_nI, dv_nI, if_true, if_false, if_pos, if_neg, rf0, rf1, rf5, rf6, rf7, rf8, rf9, rf20, rf23, rf24, rf25, rf26, rf29, rf31, rf33, rf34, rf35, rf37, rf38, rf41, rf42, rf43,  f_X11_back, f_X12_back, m1, m2, c_refuse, r_refuse]
    exact Sm_0 h _ _
  · obtain ⟨n, rfl⟩ : ∃ n, n' = n + 1 := ⟨n' - 1, by omega⟩
    have hn : n < 3 := by omega
    have hwn := m3 n (by omega)
    obtain ⟨L, zz, hL, hz, d6, d7⟩ := days_of hwn
    have ew : wv (sI σ 0 17 (nI n)) (110 + 28 * n) = wv σ (110 + 28 * n) := wv_same (fun x a b => ⟨fun k => by rw [gI_sI, if_neg (by omega)], fun _ => rfl, rfl, rfl⟩)
    obtain ⟨σ1, c1, c2⟩ := c_copyW wM_w (mk_w hn) (by unfold wM; omega) (σ := sI σ 0 17 (nI n)) hL hz (by rw [wv_gI (by decide), ew]; exact d6) (by rw [wv_gI (by decide), ew]; exact d7)
    have hw := RelW_cp (by rw [ew]; exact hwn) hL (by rw [ew]; exact d7) c2
    have o : ∀ x, (x < wM ∨ wM + 28 ≤ x) → (∀ k, gI σ1 x k = gI (sI σ 0 17 (nI n)) x k) ∧ (∀ k, gJ σ1 x k = gJ σ x k) ∧ gA σ1 x = gA σ x ∧ gB σ1 x = gB σ x := c2.1
    unfold wM at o
    have e17 : gI σ1 0 17 = nI n := ((o 0 (by omega)).1 17).trans (by rw [gI_sI, if_pos ⟨rfl, rfl⟩])
    have r1 := r_copies (a := n + 1) (b := 0) (by omega) (by omega) (by omega) τ
    refine ⟨nI n, sI σ1 0 14 (nI 0), sI (sI (sB (sA τ 1 (cpR (gA τ 1) (4850 * (n + 1)) (4850 * 0) 4850)) 2 (cpL (gB τ 2) (12 * (n + 1)) (12 * 0) 12)) 0 46 (nI n)) 0 2 (nI 0), ?_, ?_, ?_⟩
    · simp (disch := omega) only [↓mI_e, lit, ofN, bsm, nI_add, pk_mul, pk_sub, nI_e, nI_leE, nI_ltE, nI_mI, mI_nI, mI_lt, nlt_mI, mI_le, nle_mI, nI_addm, sh_b, bI_0, bI_1, bI_bI, ckZ_b, ckZ_n0, ckZ_n1, stIe, stJe, stZ_n0, stZ_n1, rm_nI, dv_nI, if_true, if_false, if_pos, if_neg, rf0, rf1, rf5, rf6, rf7, rf8, rf9, rf20, rf23, rf24, rf25, rf26, rf29, rf31, rf33, rf34, rf35, rf37, rf38, rf41, rf42, rf43,  f_X11_back, m1, Nat.add_sub_cancel, gI_sI, and_self, mk_l hn, c02, c1, e17, c_answer]
    · simp (disch := omega) only [↓mI_e, lit, ofN, bsm, nI_add, pk_mul, pk_sub, nI_e, nI_leE, nI_ltE, nI_mI, mI_nI, mI_lt, nlt_mI, mI_le, nle_mI, nI_addm, sh_b, bI_0, bI_1, bI_bI, ckZ_b, ckZ_n0, ckZ_n1, stIe, stJe, stZ_n0, stZ_n1, rm_nI, dv_nI, if_true, if_false, if_pos, if_neg, rf0, rf1, rf5, rf6, rf7, rf8, rf9, rf20, rf23, rf24, rf25, rf26, rf29, rf31, rf33, rf34, rf35, rf37, rf38, rf41, rf42, rf43,  f_X12_back, m2, r1, gI_sB, gI_sA, m2, Nat.add_sub_cancel, gI_sI, and_self, r_gives]
    · have cI : ∀ x k, (x < 4 ∨ 32 ≤ x) → ¬ (x = 0 ∧ (k = 17 ∨ k = 14)) → gI (sI σ1 0 14 (nI 0)) x k = gI σ x k := fun x k a b => by
        rw [gI_sI, if_neg (fun q => b ⟨q.1, Or.inr q.2⟩), (o x (by omega)).1 k, gI_sI, if_neg (fun q => b ⟨q.1, Or.inl q.2⟩)]
      have tI : ∀ k, k ≠ 46 → k ≠ 2 → gI (sI (sI (sB (sA τ 1 (cpR (gA τ 1) (4850 * (n + 1)) (4850 * 0) 4850)) 2 (cpL (gB τ 2) (12 * (n + 1)) (12 * 0) 12)) 0 46 (nI n)) 0 2 (nI 0)) 0 k = gI τ 0 k := fun k a b => by
        rw [gI_sI, if_neg (fun q => b q.2), gI_sI, if_neg (fun q => a q.2)]; rfl
      have wI : ∀ w, 32 ≤ w → wv (sI σ1 0 14 (nI 0)) w = wv σ w := fun w hw' => wv_same (fun x a b => ⟨fun k => cI x k (by omega) (by omega), (o x (by omega)).2.1, (o x (by omega)).2.2.1, (o x (by omega)).2.2.2⟩)
      refine ⟨⟨?_, (o 0 (by omega)).2.1 15 |>.trans h1.2.1, (o 0 (by omega)).2.1 16 |>.trans h1.2.2⟩, R2_c h2 (fun x k a b => cI x k (by omega) (by omega)) (fun x a b => (o x (by omega)).2.2.2) rfl rfl rfl, R3_c h3 (fun k => cI 2 k (by omega) (by omega)) (o 3 (by omega)).2.2.1 (tI 10 (by decide) (by decide)) (tI 16 (by decide) (by decide)) (tI 17 (by decide) (by decide)) rfl, R4_c h4 (cI 0 18 (by omega) (by omega)) (cI 0 19 (by omega) (by omega)) (cI 78 1 (by omega) (by omega)) (o 100 (by omega)).2.2.1 (o 79 (by omega)).2.2.1 (tI 32 (by decide) (by decide)) (tI 28 (by decide) (by decide)) (tI 44 (by decide) (by decide)) rfl rfl, ?_, n, by omega, ?_, ?_, ?_⟩
      · rw [gI_sI, gI_sI]; rfl
      · have ew2 : wv (sI σ1 0 14 (nI 0)) wM = wv σ1 wM := wv_same (fun x a b => by
          unfold wM at a
          exact ⟨fun k => by rw [gI_sI, if_neg (by omega)], fun _ => rfl, rfl, rfl⟩)
        rw [ew2]
        refine RelW_mono (by omega) (RelW_congr (fun k hk => ?_) (fun k hk => ?_) hw)
        · show cpR (gA τ 1) (4850 * (n + 1)) (4850 * 0) 4850 k = gA τ 1 (4850 * (n + 1) + k)
          unfold cpR
          rw [if_pos (by omega), show k - 4850 * 0 = k by omega]
        · show cpL (gB τ 2) (12 * (n + 1)) (12 * 0) 12 k = gB τ 2 (12 * (n + 1) + k)
          unfold cpL
          rw [if_pos (by omega), show k - 12 * 0 = k by omega]
      · rw [gI_sI, if_neg (by omega)]; exact e17
      · rw [gI_sI, if_neg (by omega), gI_sI, if_pos ⟨rfl, rfl⟩]
      · intro j hj
        rw [wI _ (by omega)]
        refine RelW_mono (by omega) (RelW_congr (fun k hk => ?_) (fun k hk => ?_) (m3 j (by omega)))
        · show cpR (gA τ 1) (4850 * (n + 1)) (4850 * 0) 4850 (4850 * (j + 1) + k) = gA τ 1 (4850 * (j + 1) + k)
          exact if_neg (by omega)
        · show cpL (gB τ 2) (12 * (n + 1)) (12 * 0) 12 (12 * (j + 1) + k) = gB τ 2 (12 * (j + 1) + k)
          exact if_neg (by omega)
