/-! how many bits: Integer.bitCount and the reference's loop -/
def pcN (n : Nat) : Nat := if h : n = 0 then 0 else n % 2 + pcN (n / 2)
termination_by n
decreasing_by omega
theorem pcN_0 : pcN 0 = 0 := by rw [pcN]; simp
theorem pcN_s (n : Nat) : pcN n = n % 2 + pcN (n / 2) := by
  by_cases h : n = 0
  · subst h; simp [pcN_0]
  · rw [pcN]; simp [h]
theorem pcN_low : ∀ n, n ≠ 0 → pcN n = pcN (n &&& (n - 1)) + 1 := by
  intro n
  induction n using Nat.strongRecOn with
  | ind n ih =>
    intro h
    by_cases o : n % 2 = 1
    · have e : n &&& (n - 1) = 2 * (n / 2) := by
        have h1 : (n &&& (n - 1)) / 2 = n / 2 &&& (n - 1) / 2 := Nat.and_div_two_pow (n := 1)
        have h2 : (n &&& (n - 1)) % 2 = (n % 2) &&& ((n - 1) % 2) := Nat.and_mod_two_pow (n := 1)
        rw [show (n - 1) / 2 = n / 2 by omega, Nat.and_self] at h1
        rw [show (n - 1) % 2 = 0 by omega, Nat.and_zero] at h2
        omega
      rw [e, pcN_s n, pcN_s (2 * (n / 2))]
      rw [show 2 * (n / 2) % 2 = 0 by omega, show 2 * (n / 2) / 2 = n / 2 by omega]
      omega
    · have e : n &&& (n - 1) = 2 * (n / 2 &&& (n / 2 - 1)) := by
        have h1 : (n &&& (n - 1)) / 2 = n / 2 &&& (n - 1) / 2 := Nat.and_div_two_pow (n := 1)
        have h2 : (n &&& (n - 1)) % 2 = (n % 2) &&& ((n - 1) % 2) := Nat.and_mod_two_pow (n := 1)
        rw [show (n - 1) / 2 = n / 2 - 1 by omega] at h1
        rw [show n % 2 = 0 by omega, Nat.zero_and] at h2
        omega
      rw [e, pcN_s n, pcN_s (2 * (n / 2 &&& (n / 2 - 1)))]
      rw [show 2 * (n / 2 &&& (n / 2 - 1)) % 2 = 0 by omega, show 2 * (n / 2 &&& (n / 2 - 1)) / 2 = (n / 2 &&& (n / 2 - 1)) by omega]
      rw [ih (n / 2) (by omega) (by omega)]
      omega
theorem pcN_cat {a : Nat} (b : Nat) (h : a < 256) : pcN (a + 256 * b) = pcN a + pcN b := by
  have go : ∀ k a b, a < 2 ^ k → pcN (a + 2 ^ k * b) = pcN a + pcN b := by
    intro k
    induction k with
    | zero => intro a b h; have : a = 0 := by omega
              subst this; simp [pcN_0]
    | succ k ih =>
      intro a b h
      rw [pcN_s, pcN_s a]
      have e1 : (a + 2 ^ (k + 1) * b) % 2 = a % 2 := by rw [Nat.pow_succ, Nat.mul_comm (2 ^ k) 2, Nat.mul_assoc]; omega
      have e2 : (a + 2 ^ (k + 1) * b) / 2 = a / 2 + 2 ^ k * b := by rw [Nat.pow_succ, Nat.mul_comm (2 ^ k) 2, Nat.mul_assoc]; omega
      rw [e1, e2, ih (a / 2) b (by rw [Nat.pow_succ] at h; omega)]
      omega
  exact go 8 a b h
theorem pcN_le (n k : Nat) (h : n < 2 ^ k) : pcN n ≤ k := by
  induction k generalizing n with
  | zero => have : n = 0 := by omega
            subst this; simp [pcN_0]
  | succ k ih => rw [pcN_s]; have := ih (n / 2) (by rw [Nat.pow_succ] at h; omega); omega
def vN (x : Int32) : Nat := x.toBitVec.toNat
theorem vN_lt (x : Int32) : vN x < 4294967296 := x.toBitVec.isLt
theorem vN_and (x y : Int32) : vN (x &&& y) = vN x &&& vN y := by unfold vN; rw [Int32.toBitVec_and, BitVec.toNat_and]
theorem vN_add (x y : Int32) : vN (x + y) = (vN x + vN y) % 4294967296 := by unfold vN; rw [Int32.toBitVec_add, BitVec.toNat_add]
theorem vN_sub (x y : Int32) : vN (x - y) = (4294967296 - vN y + vN x) % 4294967296 := by unfold vN; rw [Int32.toBitVec_sub, BitVec.toNat_sub]
theorem vN_nI {n : Nat} (h : n < 4294967296) : vN (nI n) = n := by unfold vN; rw [nI_bv, BitVec.toNat_ofNat]; exact Nat.mod_eq_of_lt h
theorem vN_inj {x y : Int32} (h : vN x = vN y) : x = y := Int32.toBitVec_inj.mp (BitVec.eq_of_toNat_eq h)
theorem nI_vN (x : Int32) : nI (vN x) = x := vN_inj (vN_nI (vN_lt x))
theorem vN_ush (x : Int32) (s : Int32) (k : Nat) (h : ((s.toUInt32 &&& Int32.toUInt32 31).toBitVec % 32#32).toNat = k) : vN ((x.toUInt32 >>> (s.toUInt32 &&& Int32.toUInt32 31)).toInt32) = vN x / 2 ^ k := by
  show ((x.toUInt32 >>> (s.toUInt32 &&& Int32.toUInt32 31)).toBitVec).toNat = _
  rw [UInt32.toBitVec_shiftRight]
  show (x.toBitVec >>> ((s.toUInt32 &&& Int32.toUInt32 31).toBitVec % 32#32)).toNat = _
  rw [BitVec.ushiftRight_eq', BitVec.toNat_ushiftRight, Nat.shiftRight_eq_div_pow, h]; rfl
theorem vN_ush1 (x : Int32) : vN ((x.toUInt32 >>> ((1 : Int32).toUInt32 &&& Int32.toUInt32 31)).toInt32) = vN x / 2 := vN_ush x 1 1 (by decide)
theorem vN_ush2 (x : Int32) : vN ((x.toUInt32 >>> ((2 : Int32).toUInt32 &&& Int32.toUInt32 31)).toInt32) = vN x / 4 := vN_ush x 2 2 (by decide)
theorem vN_ush4 (x : Int32) : vN ((x.toUInt32 >>> ((4 : Int32).toUInt32 &&& Int32.toUInt32 31)).toInt32) = vN x / 16 := vN_ush x 4 4 (by decide)
theorem vN_ush8 (x : Int32) : vN ((x.toUInt32 >>> ((8 : Int32).toUInt32 &&& Int32.toUInt32 31)).toInt32) = vN x / 256 := vN_ush x 8 8 (by decide)
theorem vN_ush16 (x : Int32) : vN ((x.toUInt32 >>> ((16 : Int32).toUInt32 &&& Int32.toUInt32 31)).toInt32) = vN x / 65536 := vN_ush x 16 16 (by decide)
theorem and_cat {a m : Nat} (b k : Nat) (ha : a < 256) (hm : m < 256) : (a + 256 * b) &&& (m + 256 * k) = (a &&& m) + 256 * (b &&& k) := by
  have h1 : ((a + 256 * b) &&& (m + 256 * k)) / 256 = (a + 256 * b) / 256 &&& (m + 256 * k) / 256 := Nat.and_div_two_pow (n := 8)
  have h2 : ((a + 256 * b) &&& (m + 256 * k)) % 256 = ((a + 256 * b) % 256) &&& ((m + 256 * k) % 256) := Nat.and_mod_two_pow (n := 8)
  rw [show (a + 256 * b) / 256 = b by omega, show (m + 256 * k) / 256 = k by omega] at h1
  rw [show (a + 256 * b) % 256 = a by omega, show (m + 256 * k) % 256 = m by omega] at h2
  omega
theorem and_cat4 {a b c d : Nat} (m : Nat) (ha : a < 256) (hb : b < 256) (hc : c < 256) (hm : m < 256) : (a + 256 * (b + 256 * (c + 256 * d))) &&& (m + 256 * (m + 256 * (m + 256 * m))) = (a &&& m) + 256 * ((b &&& m) + 256 * ((c &&& m) + 256 * (d &&& m))) := by
  rw [and_cat _ _ ha hm, and_cat _ _ hb hm, and_cat _ _ hc hm]
def q1 (b : Nat) : Nat := b - ((b / 2) &&& 85)
def q2 (b : Nat) : Nat := (q1 b &&& 51) + ((q1 b / 4) &&& 51)
set_option maxRecDepth 20000 in
theorem by1 : ∀ b : Fin 256, ((b.1 / 2) &&& 85) ≤ b.1 ∧ (b.1 / 2 + 128) &&& 85 = (b.1 / 2) &&& 85 ∧ q1 b.1 < 256 := by decide
set_option maxRecDepth 20000 in
theorem by2 : ∀ b : Fin 256, (q1 b.1 / 4 + 64) &&& 51 = (q1 b.1 / 4) &&& 51 ∧ (q1 b.1 / 4 + 128) &&& 51 = (q1 b.1 / 4) &&& 51 ∧ (q1 b.1 / 4 + 192) &&& 51 = (q1 b.1 / 4) &&& 51 ∧ q2 b.1 % 16 ≤ 4 ∧ q2 b.1 / 16 ≤ 4 ∧ (q1 b.1 &&& 51) ≤ 51 ∧ ((q1 b.1 / 4) &&& 51) ≤ 51 := by decide
def p8 (b : Nat) : Nat := b % 2 + (b / 2 % 2 + (b / 4 % 2 + (b / 8 % 2 + (b / 16 % 2 + (b / 32 % 2 + (b / 64 % 2 + b / 128 % 2))))))
set_option maxRecDepth 20000 in
theorem by3 : ∀ b : Fin 256, q2 b.1 % 16 + q2 b.1 / 16 = p8 b.1 := by decide
theorem pcN_8 {b : Nat} (h : b < 256) : pcN b = p8 b := by
  unfold p8
  rw [pcN_s, pcN_s (b / 2), pcN_s (b / 2 / 2), pcN_s (b / 2 / 2 / 2), pcN_s (b / 2 / 2 / 2 / 2), pcN_s (b / 2 / 2 / 2 / 2 / 2), pcN_s (b / 2 / 2 / 2 / 2 / 2 / 2), pcN_s (b / 2 / 2 / 2 / 2 / 2 / 2 / 2), show b / 2 / 2 / 2 / 2 / 2 / 2 / 2 / 2 = 0 by omega, pcN_0]
  omega
theorem and15 : ∀ s t : Fin 9, (s.1 + 16 * t.1) &&& 15 = s.1 := by decide

theorem swar {n : Nat} (hn : n < 4294967296) : ∃ b0 b1 b2 b3 : Nat, b0 < 256 ∧ b1 < 256 ∧ b2 < 256 ∧ b3 < 256 ∧ n = b0 + 256 * (b1 + 256 * (b2 + 256 * b3)) := ⟨n % 256, n / 256 % 256, n / 65536 % 256, n / 16777216, by omega, by omega, by omega, by omega, by omega⟩
theorem bt1 {b c : Nat} (hb : b < 256) (hc : c < 2) : (b / 2 + 128 * c) &&& 85 = (b / 2) &&& 85 := by
  have := (by1 ⟨b, hb⟩).2.1
  rcases (show c = 0 ∨ c = 1 by omega) with rfl | rfl
  · simp
  · exact this
theorem bt2 {b c : Nat} (hb : b < 256) (hc : c < 4) : (q1 b / 4 + 64 * c) &&& 51 = (q1 b / 4) &&& 51 := by
  have := by2 ⟨b, hb⟩
  rcases (show c = 0 ∨ c = 1 ∨ c = 2 ∨ c = 3 by omega) with rfl | rfl | rfl | rfl
  · simp
  · exact this.1
  · exact this.2.1
  · exact this.2.2.1
theorem bt3 {b c : Nat} (hb : b < 256) (hc : c ≤ 4) : (q2 b + q2 b / 16 + 16 * c) &&& 15 = p8 b := by
  have h := by2 ⟨b, hb⟩
  have h3 := by3 ⟨b, hb⟩
  simp only at h h3
  have e : q2 b + q2 b / 16 + 16 * c = (q2 b % 16 + q2 b / 16) + 16 * (q2 b / 16 + c) := by omega
  rw [e, and15 ⟨q2 b % 16 + q2 b / 16, by omega⟩ ⟨q2 b / 16 + c, by omega⟩]
  exact h3
theorem bitCount_eq (x : Int32) (σ : ST) : f_J6_bitCount_0f7a4 x σ = some (nI (pcN (vN x)), σ) := by
  unfold f_J6_bitCount_0f7a4
  congr 2
  obtain ⟨b0, b1, b2, b3, h0, h1, h2, h3, hx⟩ := swar (vN_lt x)
  have L0 := by1 ⟨b0, h0⟩; have L1 := by1 ⟨b1, h1⟩; have L2 := by1 ⟨b2, h2⟩; have L3 := by1 ⟨b3, h3⟩
  have M0 := by2 ⟨b0, h0⟩; have M1 := by2 ⟨b1, h1⟩; have M2 := by2 ⟨b2, h2⟩; have M3 := by2 ⟨b3, h3⟩
  simp only at L0 L1 L2 L3 M0 M1 M2 M3
  have P0 := by3 ⟨b0, h0⟩; have P1 := by3 ⟨b1, h1⟩; have P2 := by3 ⟨b2, h2⟩; have P3 := by3 ⟨b3, h3⟩
  simp only at P0 P1 P2 P3
  generalize ey1 : x - (((x.toUInt32 >>> ((1 : Int32).toUInt32 &&& Int32.toUInt32 31)).toInt32) &&& 1431655765) = y1
  have e1 : vN y1 = q1 b0 + 256 * (q1 b1 + 256 * (q1 b2 + 256 * q1 b3)) := by
    rw [← ey1, vN_sub, vN_and, vN_ush1]
    rw [show vN (1431655765 : Int32) = 85 + 256 * (85 + 256 * (85 + 256 * 85)) from by decide]
    rw [hx, show (b0 + 256 * (b1 + 256 * (b2 + 256 * b3))) / 2 = (b0 / 2 + 128 * (b1 % 2)) + 256 * ((b1 / 2 + 128 * (b2 % 2)) + 256 * ((b2 / 2 + 128 * (b3 % 2)) + 256 * (b3 / 2))) by omega]
    rw [and_cat4 85 (by omega) (by omega) (by omega) (by omega), bt1 h0 (by omega), bt1 h1 (by omega), bt1 h2 (by omega)]
    unfold q1
    omega
  generalize ey2 : (y1 &&& 858993459) + (((y1.toUInt32 >>> ((2 : Int32).toUInt32 &&& Int32.toUInt32 31)).toInt32) &&& 858993459) = y2
  have e2 : vN y2 = q2 b0 + 256 * (q2 b1 + 256 * (q2 b2 + 256 * q2 b3)) := by
    rw [← ey2, vN_add, vN_and, vN_and, vN_ush2, show vN (858993459 : Int32) = 51 + 256 * (51 + 256 * (51 + 256 * 51)) from by decide, e1]
    rw [and_cat4 51 L0.2.2 L1.2.2 L2.2.2 (by omega)]
    rw [show (q1 b0 + 256 * (q1 b1 + 256 * (q1 b2 + 256 * q1 b3))) / 4 = (q1 b0 / 4 + 64 * (q1 b1 % 4)) + 256 * ((q1 b1 / 4 + 64 * (q1 b2 % 4)) + 256 * ((q1 b2 / 4 + 64 * (q1 b3 % 4)) + 256 * (q1 b3 / 4))) by omega]
    rw [and_cat4 51 (by omega) (by omega) (by omega) (by omega), bt2 h0 (by omega), bt2 h1 (by omega), bt2 h2 (by omega)]
    unfold q2
    omega
  generalize ey3 : (y2 + ((y2.toUInt32 >>> ((4 : Int32).toUInt32 &&& Int32.toUInt32 31)).toInt32)) &&& 252645135 = y3
  have e3 : vN y3 = p8 b0 + 256 * (p8 b1 + 256 * (p8 b2 + 256 * p8 b3)) := by
    rw [← ey3, vN_and, vN_add, vN_ush4, show vN (252645135 : Int32) = 15 + 256 * (15 + 256 * (15 + 256 * 15)) from by decide, e2]
    rw [show (q2 b0 + 256 * (q2 b1 + 256 * (q2 b2 + 256 * q2 b3)) + (q2 b0 + 256 * (q2 b1 + 256 * (q2 b2 + 256 * q2 b3))) / 16) % 4294967296 = (q2 b0 + q2 b0 / 16 + 16 * (q2 b1 % 16)) + 256 * ((q2 b1 + q2 b1 / 16 + 16 * (q2 b2 % 16)) + 256 * ((q2 b2 + q2 b2 / 16 + 16 * (q2 b3 % 16)) + 256 * (q2 b3 + q2 b3 / 16 + 16 * 0))) by omega]
    rw [and_cat4 15 (by omega) (by omega) (by omega) (by omega), bt3 h0 (by omega), bt3 h1 (by omega), bt3 h2 (by omega), bt3 h3 (by omega)]
  generalize ey4 : y3 + ((y3.toUInt32 >>> ((8 : Int32).toUInt32 &&& Int32.toUInt32 31)).toInt32) = y4
  have e4 : vN y4 = (p8 b0 + p8 b1) + 256 * ((p8 b1 + p8 b2) + 256 * ((p8 b2 + p8 b3) + 256 * p8 b3)) := by
    rw [← ey4, vN_add, vN_ush8, e3]
    omega
  apply vN_inj
  have hp : pcN (vN x) = p8 b0 + p8 b1 + p8 b2 + p8 b3 := by
    rw [hx, pcN_cat _ h0, pcN_cat _ h1, pcN_cat _ h2, pcN_8 h0, pcN_8 h1, pcN_8 h2, pcN_8 h3]; omega
  have g0 : p8 b0 ≤ 8 := by omega
  have g1 : p8 b1 ≤ 8 := by omega
  have g2 : p8 b2 ≤ 8 := by omega
  have g3 : p8 b3 ≤ 8 := by omega
  clear M0 M1 M2 M3 L0 L1 L2 L3 P0 P1 P2 P3 e1 e2 e3 hx
  rw [vN_and, vN_add, vN_ush16, show vN (63 : Int32) = 2 ^ 6 - 1 from by decide, Nat.and_two_pow_sub_one_eq_mod, e4, hp, vN_nI (by omega)]
  generalize p8 b0 = a0 at *
  generalize p8 b1 = a1 at *
  generalize p8 b2 = a2 at *
  generalize p8 b3 = a3 at *
  rw [show (a0 + a1 + 256 * (a1 + a2 + 256 * (a2 + a3 + 256 * a3))) / 65536 = a2 + a3 + 256 * a3 by omega]
  rw [show (a0 + a1 + 256 * (a1 + a2 + 256 * (a2 + a3 + 256 * a3)) + (a2 + a3 + 256 * a3)) % 4294967296 = (a0 + a1 + a2 + a3) + 64 * (4 * ((a1 + a2 + a3) + 256 * (a2 + a3 + 256 * a3))) by omega]
  rw [Nat.add_mul_mod_self_left]
  exact Nat.mod_eq_of_lt (by omega)
/-- the reference's loop -/
theorem r_bits_loop : ∀ (m : Nat) (x : Int32) (n : Nat) (τ : ST), pcN (vN x) < m → k_X12_bits_4 m (nI n) x τ = some (nI (n + pcN (vN x)), τ) := by
  intro m
  induction m with
  | zero => intro x n τ h; omega
  | succ m ih =>
    intro x n τ h
    rw [k_X12_bits_4]
    by_cases e : x = 0
    · subst e
      rw [if_pos rfl, show vN 0 = 0 from rfl, pcN_0]; rfl
    · rw [if_neg e]
      have h0 : vN x ≠ 0 := fun z => e (vN_inj (z.trans rfl))
      have e1 : vN (x - 1) = vN x - 1 := by
        rw [vN_sub, show vN (1 : Int32) = 1 from rfl]; have := vN_lt x; omega
      have hl := pcN_low (vN x) h0
      have e2 : vN (x &&& (x - 1)) = vN x &&& (vN x - 1) := by rw [vN_and, e1]
      rw [nI_1, ih _ _ _ (by rw [e2]; omega), e2, hl]
      congr 3; omega
theorem r_bits (x : Int32) (τ : ST) : f_X12_bits x τ = some (nI (pcN (vN x)), τ) := by
  unfold f_X12_bits
  rw [← nI_0, r_bits_loop FU x 0 τ (by have := pcN_le (vN x) 32 (vN_lt x); unfold FU; omega)]
  simp
