/-! BURY: the reference's places -/
def Sm0 (f : Nat → Int32) (y m p : Nat) : Bool := decide (p < KN f ∧ rk (wy f y) (KN f) p < m)
def BF (f f' : Nat → Int32) (y m : Nat) : Prop := (∀ j, (∀ p, p < 6 → ¬ (tb p y ≤ j ∧ j < tb p y + 12)) → f' j = f j) ∧ ∀ p, p < 6 → (Sm0 f y m p = false → ∀ k, k < 12 → f' (tb p y + k) = f (tb p y + k)) ∧ (Sm0 f y m p = true → Bu f (tb p y) y (cnt (std (sh f (tb p y))) 180) (sh f' (tb p y)))
def cA (f : Nat → Int32) (y : Nat) : Nat → Nat
  | 0 => 0
  | m + 1 => cnt (sd f (tb (rw6 f y m) y) y) 180
theorem Sm0_s {f : Nat → Int32} (hf : WFs f) {y m p : Nat} (hy : y < YN f) (hm : m < KN f) (hne : p ≠ rw6 f y m) : Sm0 f y (m + 1) p = Sm0 f y m p := by
  unfold Sm0
  refine decide_eq_decide.mpr ⟨fun ⟨h1, h2⟩ => ⟨h1, ?_⟩, fun ⟨h1, h2⟩ => ⟨h1, by omega⟩⟩
  have hr := rho_in (wy_dis hf hy) hm
  by_cases z : rk (wy f y) (KN f) p = m
  · exact absurd (rk_inj (wy_dis hf hy) h1 hr.1 (z.trans hr.2.symm)) hne
  · omega
theorem Sm0_at {f : Nat → Int32} (hf : WFs f) {y m : Nat} (hy : y < YN f) (hm : m < KN f) : Sm0 f y m (rw6 f y m) = false ∧ Sm0 f y (m + 1) (rw6 f y m) = true := by
  have hr := rho_in (wy_dis hf hy) hm
  have e : rk (wy f y) (KN f) (rw6 f y m) = m := hr.2
  have e2 : rw6 f y m < KN f := hr.1
  exact ⟨decide_eq_false (fun q => by omega), decide_eq_true ⟨e2, by omega⟩⟩
theorem Bu_congr {f f' : Nat → Int32} {ad y : Nat} {t : Nat → Int32} (h : ∀ k, k < 12 → f' (ad + k) = f (ad + k)) (hv : ∀ d, d < 180 → f' (vb y (d / 30) (d % 30 + 1)) = f (vb y (d / 30) (d % 30 + 1))) (hB : Bu f' ad y (cnt (std (sh f' ad)) 180) t) : Bu f ad y (cnt (std (sh f ad)) 180) t := by
  refine ⟨fun k hk => by rw [hB.1 k hk, h _ (by omega)], fun k hk j => ?_⟩
  rw [hB.2 k hk j, h k (by omega)]
  by_cases z : j < 30
  · rw [dB_all (show 30 * k + j < 180 by omega), dB_all (show 30 * k + j < 180 by omega)]
    have e : sd f' ad y (30 * k + j) = sd f ad y (30 * k + j) := by
      unfold sd std sh ded
      rw [h _ (by omega), hv _ (by omega)]
    rw [e]
  · rw [decide_eq_false z, Bool.false_and, Bool.false_and]
