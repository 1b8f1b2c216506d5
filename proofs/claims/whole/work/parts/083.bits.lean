/-! BITS of ints -/
def bt (x : Int32) (k : Nat) : Bool := x.toBitVec.getLsbD k
theorem bt_ext {x y : Int32} (h : ∀ k, k < 32 → bt x k = bt y k) : x = y := Int32.toBitVec_inj.mp (BitVec.eq_of_getLsbD_eq fun i hi => h i hi)
theorem bt_and (x y : Int32) (k : Nat) : bt (x &&& y) k = (bt x k && bt y k) := by unfold bt; rw [Int32.toBitVec_and, BitVec.getLsbD_and]
theorem bt_or (x y : Int32) (k : Nat) : bt (x ||| y) k = (bt x k || bt y k) := by unfold bt; rw [Int32.toBitVec_or, BitVec.getLsbD_or]
theorem bt_not (x : Int32) {k : Nat} (hk : k < 32) : bt (x ^^^ (-1)) k = !bt x k := by
  unfold bt; rw [Int32.toBitVec_xor, BitVec.getLsbD_xor]
  have : (-1 : Int32).toBitVec = BitVec.allOnes 32 := by decide
  rw [this, BitVec.getLsbD_allOnes]; simp [hk]
theorem bt_0 (k : Nat) : bt 0 k = false := by unfold bt; exact BitVec.getLsbD_zero
theorem bt_big (x : Int32) {k : Nat} (hk : 32 ≤ k) : bt x k = false := BitVec.getLsbD_of_ge _ _ hk
theorem nI_bv (n : Nat) : (nI n).toBitVec = BitVec.ofNat 32 n := rfl
theorem bt_nI (n : Nat) {k : Nat} (hk : k < 32) : bt (nI n) k = n.testBit k := by
  unfold bt; rw [nI_bv, BitVec.getLsbD_ofNat]; simp [hk]
theorem and31 {k : Nat} (h : k < 32) : nI k &&& 31 = nI k := by
  have : ∀ j : Fin 32, nI j.1 &&& 31 = nI j.1 := by decide
  exact this ⟨k, h⟩
theorem smod32 {k : Nat} (h : k < 32) : ((nI k).toBitVec.smod 32).toNat = k := by
  have : ∀ j : Fin 32, ((nI j.1).toBitVec.smod 32).toNat = j.1 := by decide
  exact this ⟨k, h⟩
theorem bt_1 (k : Nat) : bt 1 k = decide (k = 0) := by
  unfold bt; rw [show (1 : Int32).toBitVec = 1#32 from rfl]; simp
theorem shr1 (x : Int32) {k : Nat} (hk : k < 32) : (x >>> (nI k &&& 31)) &&& 1 = if bt x k then 1 else 0 := by
  rw [and31 hk]
  apply bt_ext
  intro j hj
  rw [bt_and, bt_1]
  by_cases h : j = 0
  · subst h
    have e : bt (x >>> nI k) 0 = bt x k := by
      unfold bt
      rw [Int32.toBitVec_shiftRight, BitVec.sshiftRight', smod32 hk, BitVec.getLsbD_sshiftRight]
      simp [hk]
    rw [e]
    cases bt x k <;> simp [bt_0, bt_1]
  · cases bt x k <;> simp [h, bt_0, bt_1]
theorem bt_shl {k j : Nat} (hk : k < 32) (hj : j < 32) : bt (1 <<< (nI k &&& 31)) j = decide (j = k) := by
  rw [and31 hk]
  have : ∀ (a b : Fin 32), bt (1 <<< nI a.1) b.1 = decide (b.1 = a.1) := by decide
  exact this ⟨k, hk⟩ ⟨j, hj⟩
theorem pow_of {k : Nat} (hk : k < 31) : (1 : Int32) <<< (nI k &&& 31) = nI (2 ^ k) := by
  have : ∀ (a : Fin 31), (1 : Int32) <<< (nI a.1 &&& 31) = nI (2 ^ a.1) := by decide
  exact this ⟨k, hk⟩
