theorem Sm0_pl {f : Nat → Int32} (hWF : WFs f) {y p : Nat} : Sm0 f y (pm f) p = isPl f y p := by
  unfold Sm0 isPl
  refine decide_eq_decide.mpr ⟨fun ⟨h1, h2⟩ => ⟨h1, ?_⟩, fun ⟨h1, h2⟩ => ⟨h1, ?_⟩⟩
  · unfold pm at h2
    by_cases z : KN f ≤ NN f
    · rw [if_pos z] at h2; omega
    · rw [if_neg z] at h2; exact h2
  · have h3 := rk_bound (w := wy f y) h1
    unfold pm
    by_cases z : KN f ≤ NN f
    · rw [if_pos z]; exact h3
    · rw [if_neg z]; exact h2
theorem tb_sep {p q y z j : Nat} (hy : y < 6) (hz : z < 6) (hne : z ≠ y) (h1 : tb p z ≤ j) (h2 : j < tb p z + 12) : ¬ (tb q y ≤ j ∧ j < tb q y + 12) := by
  unfold tb at h1 h2 ⊢
  omega
theorem RelW_bury {B : Nat} {s : ST} {f f1 : Nat → Int32} {g : Nat → Int64} (h : RelW B s f g) {y : Nat} (hy : y < YN f) (hs : sm f y = false) (hF : BF f f1 y (pm f)) {Gs : Nat → Int32} (hGs : ∀ k, k < 6 → ∀ j, bt (Gs k) j = (decide (j < gv f k y) && grv f y k j)) : RelW B (sA s 16 (clK f y Gs (gA s 16) (KN f))) f1 g := by
  have out : ∀ j, (j < 30 ∨ 462 ≤ j) → f1 j = f j := fun j hj => hF.1 j (fun p hp => by have := h.1.1.2.1; unfold tb; omega)
  obtain ⟨hS, hU, hT, hG, hV, hH, hI, hD, hN⟩ := id h
  have hK := hS.1.1
  have hY := hS.1.2.1
  have hd : Hd f f1 := fun k hk => out k (by omega)
  have hgv : ∀ k y, k < 6 → y < 6 → gv f1 k y = gv f k y := fun k y a b => by unfold gv; rw [out _ (by omega)]
  refine ⟨RS_c hd hS (fun _ => rfl) rfl rfl rfl rfl, RU_c hU (out 5 (by omega)) (out 6 (by omega)) rfl rfl, RT_c hd hY hT (fun k a b => out k (by omega)) (fun k y a b => by rw [hgv k y a b]; exact Nat.le_refl _) rfl rfl rfl rfl, RG_c hd hG (fun k a b => out k (by omega)) rfl, RV_c hG hV (fun k a b => out k (by omega)) (fun k a b => out k (by omega)) rfl, ?_, RI_c hd hI (fun k y a b => by rw [hgv k y a b]; exact Nat.le_refl _) (fun k a b => out k (by omega)) rfl rfl rfl, RD_c hd hY hD (out 7 (by omega)) (fun k a b => out k (by omega)) rfl rfl (fun x a b => by rw [gA_sA, if_neg (by omega)]), RN_c hd hN rfl rfl⟩
  intro p z hp hz
  obtain ⟨c1, t1⟩ := hH p z hp hz
  have e16 : gA (sA s 16 (clK f y Gs (gA s 16) (KN f))) 16 = clK f y Gs (gA s 16) (KN f) := by rw [gA_sA, if_pos rfl]
  have e17 : gA (sA s 16 (clK f y Gs (gA s 16) (KN f))) 17 = gA s 17 := by rw [gA_sA, if_neg (by decide)]
  rw [hd.sm hz]
  by_cases zz : z = y ∧ isPl f y p = true
  · obtain ⟨rfl, hpl⟩ := zz
    have hb := (hF.2 p hp).2 (by rw [Sm0_pl hS.1]; exact hpl)
    have hpK : p < KN f := (of_decide_eq_true hpl).1
    rw [hs] at c1 t1 ⊢
    have hi : ∀ k, k < 6 → f1 (tb p z + (6 + k)) = f (tb p z + (6 + k)) := hb.1
    have lo : ∀ k, k < 6 → f1 (tb p z + k) = f (tb p z + k) &&& (Gs k ^^^ mI) := fun k hk => bt_ext (fun j hj => by
      have h1 := hb.2 k hk j
      have h1 : bt (f1 (tb p z + k)) j = _ := h1
      rw [h1, bt_and, bt_m _ hj, hGs k hk j]
      cases q : bt (f (tb p z + k)) j
      · rfl
      · have h3 := thing_hi h (show z < 6 by omega) hk hs (by rw [hs]; exact t1) (show bt (sh f (tb p z) k) j = true from q)
        rw [decide_eq_true h3.1, decide_eq_true (show j < 30 by omega), Bool.true_and, Bool.true_and, Bool.true_and, Bool.true_and, dB_all (show 30 * k + j < 180 by omega)]
        unfold sd std ded grv sh
        rw [show (30 * k + j) / 30 = k by omega, show (30 * k + j) % 30 = j by omega, q, Bool.true_and])
    refine ⟨fun k hk => ?_, fun k hk => ?_⟩
    · have c := c1 k hk
      simp only [Bool.false_eq_true, if_false] at c ⊢
      refine ⟨?_, ?_⟩
      · show gA (sA s 16 _) 16 _ = f1 (tb p z + k)
        rw [e16, clK_at f z (by omega) Gs _ (KN f) hK p k z hk (by omega), lo k hk]
        have c0 : gA s 16 ((p * 6 + z) * 6 + k) = f (tb p z + k) := c.1
        by_cases q : k < KN f
        · rw [if_pos ⟨hpK, hpl, q, rfl⟩, c0]
        · rw [if_neg (fun q2 => q q2.2.2.1), c0]
          have hG0 := (hG.2 k z hk (by omega)).2 (Or.inl (by omega))
          refine bt_ext (fun j hj => ?_)
          rw [bt_and, bt_m _ hj, hGs k hk j, hG0, decide_eq_false (by omega), Bool.false_and, Bool.not_false, Bool.and_true]
      · show gA (sA s 16 _) 17 _ = f1 (tb p z + (6 + k))
        rw [e17, hi k hk]; exact c.2
    · have t := t1 k hk
      simp only [Bool.false_eq_true, if_false] at t ⊢
      show vN (f1 (tb p z + (6 + k))) ≤ gv f1 k z ∧ ∀ i, bt (f1 (tb p z + k)) i = true → i < vN (f1 (tb p z + (6 + k)))
      rw [hi k hk, hgv k z hk (by omega), lo k hk]
      exact ⟨t.1, fun i hi2 => t.2 i (by rw [bt_and, Bool.and_eq_true] at hi2; exact hi2.1)⟩
  · have same : ∀ k, k < 12 → f1 (tb p z + k) = f (tb p z + k) := fun k hk => by
      by_cases q : z = y
      · subst q
        refine (hF.2 p hp).1 ?_ k hk
        rw [Sm0_pl hS.1]
        cases q2 : isPl f z p
        · rfl
        · exact absurd ⟨rfl, q2⟩ zz
      · exact hF.1 _ (fun p' _ => tb_sep (p := p) (by omega) hz q (by omega) (by omega))
    refine ⟨CR_congr (t := sh f (tb p z)) same ?_, TI_congr same (fun k hk => hgv k z hk hz) t1⟩
    intro k hk
    have c := c1 k hk
    have ecl : clK f y Gs (gA s 16) (KN f) ((p * 6 + z) * 6 + k) = gA s 16 ((p * 6 + z) * 6 + k) := by
      rw [clK_at f y (by omega) Gs _ (KN f) hK p k z hk hz]
      exact if_neg (fun q => zz ⟨q.2.2.2, q.2.1⟩)
    rw [show (15 : Nat) + 1 = 16 from rfl, show (15 : Nat) + 2 = 17 from rfl, e16, e17, ecl]
    exact c
