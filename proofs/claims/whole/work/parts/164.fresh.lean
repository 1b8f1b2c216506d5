/-! a world with a new shelf -/
theorem c_fillA {x L : Nat} (hL : LC.2.2.1 x = L) (hl : L < 5000) (σ : ST) : ∃ T, f_J7_fill_53178 x 0 σ = some (sA σ x T) ∧ ∀ j, j < L → T j = nI 0 := by
  have loop : ∀ (m k N : Nat) (σ : ST), k + m = L → m < N → (∀ j, j < k → gA σ x j = nI 0) → ∃ T, k_J7_fill_53178_5 N x (nI 0) (nI k) (nI L) σ = some (sA σ x T) ∧ ∀ j, j < L → T j = nI 0 := by
    intro m
    induction m with
    | zero =>
      intro k N σ hk hN h0
      obtain ⟨N1, rfl⟩ : ∃ N1, N = N1 + 1 := ⟨N - 1, by omega⟩
      refine ⟨gA σ x, ?_, fun j hj => h0 j (by omega)⟩
      rw [k_J7_fill_53178_5, if_pos (by rw [nI_leE (by omega) (by omega)]; omega), sA_same]
    | succ m ih =>
      intro k N σ hk hN h0
      obtain ⟨N1, rfl⟩ : ∃ N1, N = N1 + 1 := ⟨N - 1, by omega⟩
      obtain ⟨T, t1, t2⟩ := ih (k + 1) N1 (sA σ x (upd (gA σ x) k (nI 0))) (by omega) (by omega) (fun j hj => by
        rw [gA_sA, if_pos rfl, upd_at]
        by_cases e : j = k
        · rw [if_pos e]
        · rw [if_neg e]; exact h0 j (by omega))
      refine ⟨T, ?_, t2⟩
      rw [k_J7_fill_53178_5, if_neg (by rw [nI_leE (by omega) (by omega)]; omega), sa L hL (by omega) (by omega), bsm, show nI k + 1 = nI (k + 1) from by rw [show (1 : Int32) = nI 1 from rfl, nI_add], t1, sA_sA]
  obtain ⟨F', hF', hF2⟩ : ∃ F', FU = F' ∧ 5000 < F' := ⟨FU, rfl, by unfold FU; omega⟩
  unfold f_J7_fill_53178
  rw [hL, hF']
  exact loop L 0 F' σ (by omega) (by omega) (fun j hj => by omega)
/-- only some cells from a to b -/
def Fx (a b : Nat) (σ σ1 : ST) : Prop := ∀ x, (x < a ∨ b < x) → (∀ k, gI σ1 x k = gI σ x k) ∧ (∀ k, gJ σ1 x k = gJ σ x k) ∧ gA σ1 x = gA σ x ∧ gB σ1 x = gB σ x
theorem Fx.rf (a b : Nat) (σ : ST) : Fx a b σ σ := fun _ _ => ⟨fun _ => rfl, fun _ => rfl, rfl, rfl⟩
theorem Fx.trans {a b : Nat} {σ σ1 σ2 : ST} (h : Fx a b σ σ1) (h2 : Fx a b σ1 σ2) : Fx a b σ σ2 := fun x hx => ⟨fun k => ((h2 x hx).1 k).trans ((h x hx).1 k), fun k => ((h2 x hx).2.1 k).trans ((h x hx).2.1 k), (h2 x hx).2.2.1.trans (h x hx).2.2.1, (h2 x hx).2.2.2.trans (h x hx).2.2.2⟩
theorem Fx.sI {a b : Nat} {σ σ1 : ST} (h : Fx a b σ σ1) {x k : Nat} (hx : a ≤ x ∧ x ≤ b) (v : Int32) : Fx a b σ (sI σ1 x k v) := h.trans (fun y hy => ⟨fun j => by rw [gI_sI, if_neg (by omega)], fun _ => rfl, rfl, rfl⟩)
theorem Fx.sA {a b : Nat} {σ σ1 : ST} (h : Fx a b σ σ1) {x : Nat} (hx : a ≤ x ∧ x ≤ b) (u : Nat → Int32) : Fx a b σ (sA σ1 x u) := h.trans (fun y hy => ⟨fun _ => rfl, fun _ => rfl, by rw [gA_sA, if_neg (by omega)], rfl⟩)
theorem Fx.sB {a b : Nat} {σ σ1 : ST} (h : Fx a b σ σ1) {x : Nat} (hx : a ≤ x ∧ x ≤ b) (u : Nat → Int64) : Fx a b σ (sB σ1 x u) := h.trans (fun y hy => ⟨fun _ => rfl, fun _ => rfl, rfl, by rw [gB_sB, if_neg (by omega)]⟩)
theorem va_in {α : Type} (f g : Nat → α) {n k : Nat} (h : k < n) : va_cpy f g 0 0 n k = f k := by
  show (if 0 ≤ k ∧ k < 0 + n then f (0 + (k - 0)) else g k) = f k
  rw [if_pos (by omega)]
  congr 1
  omega
theorem c_copy533 (σ : ST) : ∃ σ1, f_X7_copy 5 33 σ = some σ1 ∧ Fx 5 11 σ σ1 ∧ (gI σ1 5 6 = gI σ 33 6 ∧ gI σ1 5 7 = gI σ 33 7 ∧ gI σ1 5 8 = gI σ 33 8 ∧ gI σ1 5 9 = gI σ 33 9 ∧ gI σ1 5 10 = gI σ 33 10 ∧ gI σ1 5 11 = gI σ 33 11) ∧ (∀ k, k < 6 → gA σ1 6 k = gA σ 34 k ∧ gB σ1 7 k = gB σ 35 k ∧ gA σ1 8 k = gA σ 36 k ∧ gB σ1 9 k = gB σ 37 k ∧ gA σ1 11 k = gA σ 39 k) ∧ ∀ k, k < 36 → gA σ1 10 k = gA σ 38 k := by
  obtain ⟨σi, hσi⟩ : ∃ σi, σi = sI (sI (sI (sI (sI (sI σ 5 6 (gI σ 33 6)) 5 7 (gI σ 33 7)) 5 8 (gI σ 33 8)) 5 9 (gI σ 33 9)) 5 10 (gI σ 33 10)) 5 11 (gI σ 33 11) := ⟨_, rfl⟩
  have eA : ∀ x, gA σi x = gA σ x := fun x => by rw [hσi]; rfl
  have eB : ∀ x, gB σi x = gB σ x := fun x => by rw [hσi]; rfl
  have fI : Fx 5 11 σ σi := by
    rw [hσi]
    exact ((((((Fx.rf 5 11 σ).sI (by omega) _).sI (by omega) _).sI (by omega) _).sI (by omega) _).sI (by omega) _).sI (by omega) _
  have e1 : f_X7_copy 5 33 σ = some (sA (sA (sB (sA (sB (sA σi 6 (va_cpy (gA σi 34) (gA σi 6) 0 0 6)) 7 (va_cpy (gB σi 35) (gB σi 7) 0 0 6)) 8 (va_cpy (gA σi 36) (gA σi 8) 0 0 6)) 9 (va_cpy (gB σi 37) (gB σi 9) 0 0 6)) 10 (va_cpy (gA σi 38) (gA σi 10) 0 0 36)) 11 (va_cpy (gA σi 39) (gA σi 11) 0 0 6)) := by
    have c1 : ∀ w, cpA LC w (LC.2.1 33 0) 0 (LC.2.1 5 0) 0 6 = some (sA w 6 (va_cpy (gA w 34) (gA w 6) 0 0 6)) := fun w => cpA_n (y := 34) (z := 6) (a := 0) (b := 0) (n := 6) 6 6 rfl rfl (by decide) (by decide) (by decide) (by decide)
    have c2 : ∀ w, cpB LC w (LC.2.1 33 1) 0 (LC.2.1 5 1) 0 6 = some (sB w 7 (va_cpy (gB w 35) (gB w 7) 0 0 6)) := fun w => cpB_n (y := 35) (z := 7) (a := 0) (b := 0) (n := 6) 6 6 rfl rfl (by decide) (by decide) (by decide) (by decide)
    have c3 : ∀ w, cpA LC w (LC.2.1 33 2) 0 (LC.2.1 5 2) 0 6 = some (sA w 8 (va_cpy (gA w 36) (gA w 8) 0 0 6)) := fun w => cpA_n (y := 36) (z := 8) (a := 0) (b := 0) (n := 6) 6 6 rfl rfl (by decide) (by decide) (by decide) (by decide)
    have c4 : ∀ w, cpB LC w (LC.2.1 33 3) 0 (LC.2.1 5 3) 0 6 = some (sB w 9 (va_cpy (gB w 37) (gB w 9) 0 0 6)) := fun w => cpB_n (y := 37) (z := 9) (a := 0) (b := 0) (n := 6) 6 6 rfl rfl (by decide) (by decide) (by decide) (by decide)
    have c5 : ∀ w, cpA LC w (LC.2.1 33 4) 0 (LC.2.1 5 4) 0 (Int32.ofNat (LC.2.2.1 (LC.2.1 5 4))) = some (sA w 10 (va_cpy (gA w 38) (gA w 10) 0 0 36)) := fun w => cpA_n (y := 38) (z := 10) (a := 0) (b := 0) (n := 36) 36 36 rfl rfl (by decide) (by decide) (by decide) (by decide)
    have c6 : ∀ w, cpA LC w (LC.2.1 33 5) 0 (LC.2.1 5 5) 0 6 = some (sA w 11 (va_cpy (gA w 39) (gA w 11) 0 0 6)) := fun w => cpA_n (y := 39) (z := 11) (a := 0) (b := 0) (n := 6) 6 6 rfl rfl (by decide) (by decide) (by decide) (by decide)
    unfold f_X7_copy
    simp only [stIe, bsm, c1, c2, c3, c4, c5, c6]
    rw [hσi]
    rfl
  refine ⟨_, e1, ?_, ?_, ?_, ?_⟩
  · exact (((((fI.sA (by omega) _).sB (by omega) _).sA (by omega) _).sB (by omega) _).sA (by omega) _).sA (by omega) _
  · rw [hσi]; exact ⟨rfl, rfl, rfl, rfl, rfl, rfl⟩
  · intro k hk
    have a1 : va_cpy (gA σi 34) (gA σi 6) 0 0 6 k = gA σ 34 k := by rw [va_in _ _ hk, eA]
    have a2 : va_cpy (gB σi 35) (gB σi 7) 0 0 6 k = gB σ 35 k := by rw [va_in _ _ hk, eB]
    have a3 : va_cpy (gA σi 36) (gA σi 8) 0 0 6 k = gA σ 36 k := by rw [va_in _ _ hk, eA]
    have a4 : va_cpy (gB σi 37) (gB σi 9) 0 0 6 k = gB σ 37 k := by rw [va_in _ _ hk, eB]
    have a5 : va_cpy (gA σi 39) (gA σi 11) 0 0 6 k = gA σ 39 k := by rw [va_in _ _ hk, eA]
    exact ⟨a1, a2, a3, a4, a5⟩
  · intro k hk
    have a1 : va_cpy (gA σi 38) (gA σi 10) 0 0 36 k = gA σ 38 k := by rw [va_in _ _ hk, eA]
    exact a1
theorem c_beginW (σ : ST) : ∃ σ1, f_X10_begin 4 33 σ = some σ1 ∧ Fx 4 30 σ σ1 ∧ (gI σ1 5 6 = gI σ 33 6 ∧ gI σ1 5 7 = gI σ 33 7 ∧ gI σ1 5 8 = gI σ 33 8 ∧ gI σ1 5 9 = gI σ 33 9 ∧ gI σ1 5 10 = gI σ 33 10 ∧ gI σ1 5 11 = gI σ 33 11) ∧ (∀ k, k < 6 → gA σ1 6 k = gA σ 34 k ∧ gB σ1 7 k = gB σ 35 k ∧ gA σ1 8 k = gA σ 36 k ∧ gB σ1 9 k = gB σ 37 k ∧ gA σ1 11 k = gA σ 39 k) ∧ (∀ k, k < 36 → gA σ1 10 k = gA σ 38 k) ∧ (gI σ1 12 6 = nI 0 ∧ gI σ1 12 7 = nI 0) ∧ (∀ k, k < 216 → gA σ1 20 k = nI 0 ∧ gA σ1 21 k = nI 0) ∧ (∀ k, k < 1296 → gA σ1 23 k = nI 0 ∧ gA σ1 24 k = nI 0) ∧ (∀ k, k < 36 → gA σ1 25 k = nI 0 ∧ gA σ1 30 k = nI 0) ∧ gA σ1 27 = gA σ 27 ∧ gI σ1 4 9 = (nI 1 <<< (gI σ 33 6 &&& nI 31)) - nI 1 ∧ gI σ1 4 10 = nI 0 ∧ gI σ1 4 11 = nI 0 := by
  obtain ⟨σ1, q1, q2, q3, q4, q5⟩ := c_copy533 σ
  obtain ⟨σ2, hσ2⟩ : ∃ σ2, σ2 = sI (sI (sI σ1 12 6 (nI 0)) 12 7 (nI 0)) 12 8 (nI 0) := ⟨_, rfl⟩
  have e2 : f_X2_clear 12 σ1 = some σ2 := by rw [hσ2]; exact Eq.trans rfl rfl
  obtain ⟨T1, t1, t1'⟩ := c_fillA (x := 20) (L := 216) rfl (by decide) σ2
  obtain ⟨T2, t2, t2'⟩ := c_fillA (x := 21) (L := 216) rfl (by decide) (sA σ2 20 T1)
  obtain ⟨T3, t3, t3'⟩ := c_fillA (x := 23) (L := 1296) rfl (by decide) (sA (sA σ2 20 T1) 21 T2)
  obtain ⟨T4, t4, t4'⟩ := c_fillA (x := 24) (L := 1296) rfl (by decide) (sA (sA (sA σ2 20 T1) 21 T2) 23 T3)
  obtain ⟨T5, t5, t5'⟩ := c_fillA (x := 25) (L := 36) rfl (by decide) (sA (sA (sA (sA σ2 20 T1) 21 T2) 23 T3) 24 T4)
  obtain ⟨T6, t6, t6'⟩ := c_fillA (x := 30) (L := 36) rfl (by decide) (sA (sA (sA (sA (sA σ2 20 T1) 21 T2) 23 T3) 24 T4) 25 T5)
  obtain ⟨σ3, hσ3⟩ : ∃ σ3, σ3 = sA (sA (sA (sA (sA (sA σ2 20 T1) 21 T2) 23 T3) 24 T4) 25 T5) 30 T6 := ⟨_, rfl⟩
  rw [← hσ3] at t6
  have e3 : f_X0_emptyAll 19 σ2 = some (sA (sA σ2 20 T1) 21 T2) := by
    unfold f_X0_emptyAll
    rw [show LC.2.1 19 0 = 20 from rfl, show LC.2.1 19 1 = 21 from rfl, t1, bsm, t2, bsm]
  have e4 : f_X0_emptyAll 22 (sA (sA σ2 20 T1) 21 T2) = some (sA (sA (sA (sA σ2 20 T1) 21 T2) 23 T3) 24 T4) := by
    unfold f_X0_emptyAll
    rw [show LC.2.1 22 0 = 23 from rfl, show LC.2.1 22 1 = 24 from rfl, t3, bsm, t4, bsm]
  have k6 : gI σ3 5 6 = gI σ 33 6 := by rw [hσ3, hσ2]; exact q3.1
  refine ⟨sI (sI (sI σ3 4 9 ((nI 1 <<< (gI σ 33 6 &&& nI 31)) - nI 1)) 4 10 (nI 0)) 4 11 (nI 0), ?_, ?_, ?_, ?_, ?_, ?_, ?_, ?_, ?_, ?_, rfl, rfl, rfl⟩
  · unfold f_X10_begin
    rw [show LC.2.1 4 0 = 5 from rfl, show LC.2.1 4 1 = 12 from rfl, show LC.2.1 4 2 = 19 from rfl, show LC.2.1 4 3 = 22 from rfl, show LC.2.1 4 4 = 25 from rfl, show LC.2.1 4 7 = 30 from rfl, q1, bsm, e2, bsm, e3, bsm, e4, bsm, t5, bsm, t6, bsm]
    unfold f_X7_keeperSet
    rw [bsm, k6]
    rfl
  · refine Fx.sI (Fx.sI (Fx.sI ?_ (by omega) _) (by omega) _) (by omega) _
    have w : Fx 4 30 σ σ1 := fun x hx => q2 x (by omega)
    rw [hσ3, hσ2]
    exact ((((((((w.sI (by omega) _).sI (by omega) _).sI (by omega) _).sA (by omega) _).sA (by omega) _).sA (by omega) _).sA (by omega) _).sA (by omega) _).sA (by omega) _
  · rw [hσ3, hσ2]; exact q3
  · rw [hσ3, hσ2]; exact q4
  · rw [hσ3, hσ2]; exact q5
  · rw [hσ3, hσ2]; exact ⟨rfl, rfl⟩
  · rw [hσ3]; exact fun k hk => ⟨t1' k hk, t2' k hk⟩
  · rw [hσ3]; exact fun k hk => ⟨t3' k hk, t4' k hk⟩
  · rw [hσ3]; exact fun k hk => ⟨t5' k hk, t6' k hk⟩
  · rw [hσ3, hσ2]; exact (q2 27 (by omega)).2.2.1
def Rs0 (f : Nat → Int32) : Prop := (∀ k, k < 4850 → (k = 6 ∨ 28 ≤ k) → (∀ u, u < 4 → k ≠ 4440 + 8 * u) → f k = nI 0) ∧ (∀ u, u < 4 → f (4440 + 8 * u) = mI) ∧ f 7 = mI
theorem RelW_fresh {B : Nat} {s : ST} {f : Nat → Int32} {g : Nat → Int64} (hS : RS s f) (hU : RU s f) (h11 : gI s 0 11 = nI 0) (hT : ∀ u, u < 4 → ∀ k, k < 6 → gA s 23 (u * 6 + k) = nI 0) (h26 : ∀ c, c < 36 → gA s 26 c = nI 0) (hH : ∀ k, k < 216 → gA s 16 k = nI 0 ∧ gA s 17 k = nI 0) (hI : ∀ k, k < 1296 → gA s 19 k = nI 0 ∧ gA s 20 k = nI 0) (h21 : ∀ k, k < 36 → gA s 21 k = nI 0) (hd : gI s 8 6 = nI 0 ∧ gI s 8 7 = nI 0) (hN : RNm s f g) (hf : Rs0 f) : RelW B s f g := by
  obtain ⟨f0, f1, f7⟩ := hf
  have g0 : ∀ k y, k < 6 → y < 6 → gv f k y = 0 := fun k y hk hy => by
    unfold gv
    rw [f0 _ (by omega) (by omega) (fun u hu => by omega), vN_nI (by decide)]
  have v0 : vN (nI 0) = 0 := vN_nI (by decide)
  have t0 : ∀ p y, p < 6 → y < 6 → ∀ k, k < 12 → sh f (tb p y) k = nI 0 := fun p y hp hy k hk => by
    show f (tb p y + k) = nI 0
    unfold tb
    exact f0 _ (by omega) (by omega) (fun u hu => by omega)
  have b0 : ∀ p q y, p < 6 → q < 6 → y < 6 → ∀ k, k < 13 → f (hb p q y + k) = nI 0 := fun p q y hp hq hy k hk => by
    unfold hb
    exact f0 _ (by omega) (by omega) (fun u hu => by omega)
  refine ⟨hS, hU, ⟨fun k => ?_, fun u hu => ⟨hT u hu, fun z => absurd (f1 u hu) z⟩⟩, ⟨fun c hc => ?_, fun k y hk hy => ⟨by rw [g0 k y hk hy]; omega, fun _ => g0 k y hk hy⟩⟩, fun y k i hy hk hi => ?_, fun p y hp hy => ⟨fun k hk => ?_, fun k hk => ?_⟩, fun p q hp hq => ⟨fun y => ?_, fun y hy => ⟨fun k hk => ?_, fun k hk => ?_, Or.inl ⟨?_, fun k hk => ?_⟩⟩⟩, Or.inl ⟨f7, hd⟩, hN⟩
  · rw [h11, bt_n0]
    exact (decide_eq_false (fun z => z.2 (f1 k z.1))).symm
  · rw [h26 c hc, f0 _ (by omega) (by omega) (fun u hu => by omega)]
  · rw [g0 k y hk hy] at hi; omega
  · have e1 := hH ((p * 6 + y) * 6 + k) (by omega)
    have e2 := t0 p y hp hy k (by omega)
    have e3 := t0 p y hp hy (6 + k) (by omega)
    cases sm f y
    · exact ⟨e1.1.trans e2.symm, e1.2.trans e3.symm⟩
    · exact ⟨e1.1, e1.2.trans e2.symm, e3⟩
  · have e2 := t0 p y hp hy k (by omega)
    have e3 := t0 p y hp hy (6 + k) (by omega)
    cases sm f y
    · refine ⟨by rw [e3, v0]; omega, fun i hi => ?_⟩
      rw [e2, bt_n0] at hi; exact absurd hi (by decide)
    · exact ⟨by rw [e2, v0]; omega, e3⟩
  · rw [h21 _ (by omega), bt_n0]
    refine (decide_eq_false (fun z => ?_)).symm
    have := b0 p q y hp hq z.1 0 (by omega)
    rw [Nat.add_zero] at this
    rw [this] at z
    exact absurd z.2 (by decide)
  · have e1 := hI (((p * 6 + q) * 6 + y) * 6 + k) (by omega)
    have e2 : sh f (hb p q y + 1) k = nI 0 := by
      show f (hb p q y + 1 + k) = nI 0
      rw [Nat.add_assoc]; exact b0 p q y hp hq hy (1 + k) (by omega)
    have e3 : sh f (hb p q y + 1) (6 + k) = nI 0 := by
      show f (hb p q y + 1 + (6 + k)) = nI 0
      rw [Nat.add_assoc]; exact b0 p q y hp hq hy (1 + (6 + k)) (by omega)
    cases sm f y
    · exact ⟨e1.1.trans e2.symm, e1.2.trans e3.symm⟩
    · exact ⟨e1.1, e1.2.trans e2.symm, e3⟩
  · have e2 : sh f (hb p q y + 1) k = nI 0 := by
      show f (hb p q y + 1 + k) = nI 0
      rw [Nat.add_assoc]; exact b0 p q y hp hq hy (1 + k) (by omega)
    have e3 : sh f (hb p q y + 1) (6 + k) = nI 0 := by
      show f (hb p q y + 1 + (6 + k)) = nI 0
      rw [Nat.add_assoc]; exact b0 p q y hp hq hy (1 + (6 + k)) (by omega)
    cases sm f y
    · refine ⟨by rw [e3, v0]; omega, fun i hi => ?_⟩
      rw [e2, bt_n0] at hi; exact absurd hi (by decide)
    · exact ⟨by rw [e2, v0]; omega, e3⟩
  · exact b0 p q y hp hq hy 0 (by omega)
  · rw [Nat.add_assoc]; exact b0 p q y hp hq hy (1 + k) (by omega)
