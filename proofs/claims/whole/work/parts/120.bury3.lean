/-! BURY: one count -/
def sd (f : Nat → Int32) (ad y d : Nat) : Bool := std (sh f ad) d && ded f y d
theorem dB_all {f : Nat → Int32} {ad y d : Nat} (hd : d < 180) : dB f ad y (cnt (std (sh f ad)) 180) d = sd f ad y d := by
  unfold dB sd
  cases z : std (sh f ad) d
  · rw [Bool.false_and, Bool.false_and]
  · rw [decide_eq_true (cnt_lt2 hd z), Bool.and_true]
theorem cnB_cnt {f : Nat → Int32} {y p0 : Nat} {Gs R : Nat → Int32} (hGs : ∀ k, k < 6 → ∀ j, bt (Gs k) j = (decide (j < gv f k y) && grv f y k j)) (hR : ∀ k, k < 6 → R ((p0 * 6 + y) * 6 + k) = f (tb p0 y + k)) (hb : ∀ k, k < 6 → ∀ j, bt (f (tb p0 y + k)) j = true → j < gv f k y ∧ gv f k y ≤ 30) : ∀ n, n ≤ 6 → cnB y Gs R p0 n = cnt (sd f (tb p0 y) y) (30 * n)
  | 0, _ => rfl
  | n + 1, hn => by
    rw [cnB, cnB_cnt hGs hR hb n (by omega), show 30 * (n + 1) = 30 * n + 30 by omega, cnt_add]
    congr 1
    rw [pc_bt_m _ (m := 30) (by omega) (fun i hi => by
      rw [bt_and, hR n (by omega)]
      cases z : bt (f (tb p0 y + n)) i
      · rfl
      · have := hb n (by omega) i z; omega)]
    refine cnt_congr 30 (fun i hi => ?_)
    rw [bt_and, hR n (by omega), hGs n (by omega) i]
    unfold sd std ded grv sh
    rw [show (30 * n + i) / 30 = n by omega, show (30 * n + i) % 30 = i by omega]
    cases z : bt (f (tb p0 y + n)) i
    · rfl
    · rw [decide_eq_true (hb n (by omega) i z).1, Bool.true_and]
theorem sd_like {f : Nat → Int32} {a b y : Nat} (h : ∀ k, k < 12 → f (a + k) = f (b + k)) : ∀ d, d < 180 → sd f a y d = sd f b y d := fun d hd => by
  unfold sd std sh
  rw [h (d / 30) (by omega)]
