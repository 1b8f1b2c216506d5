/-! names: is it one, and whose -/
def isNm (t : Nat → Nat) (n p : Nat) : Bool := decide (tK t n p = 2 ∧ tM t n p ≤ 8 ∧ tW t n p = 26)
def nmL (t : Nat → Nat) (n p : Nat) : List Nat := lts t (tF t n p) (tM t n p)
theorem word_tok {t : Nat → Nat} {n p : Nat} (hp : p ≤ n) (h : tK t n p = 2) : tF t n p < tE t n p ∧ tE t n p ≤ n ∧ ∀ j, tF t n p ≤ j → j < tE t n p → pLe (t j) = true := by
  have hq := tF_sp t hp
  have hs := tE_sp t hp
  have hlt : tF t n p < n := by
    by_cases c : n ≤ tF t n p
    · unfold tK at h; rw [if_pos c] at h; exact absurd h (by decide)
    · omega
  refine ⟨hs.2.2 hlt, hs.2.1, ?_⟩
  have hL : pLe (t (tF t n p)) = true := by
    by_cases c1 : pLe (t (tF t n p)) = true
    · exact c1
    · unfold tK at h
      rw [if_neg (by omega), if_neg c1] at h
      split at h
      · split at h <;> exact absurd h (by decide)
      · split at h <;> exact absurd h (by decide)
  unfold tE
  rw [if_neg (by omega), if_pos hL]
  exact (edn_spec pLe t hq.2).2.2.1
theorem nm_ok {t : Nat → Nat} {n p : Nat} (hp : p ≤ n) (h : isNm t n p = true) : 1 ≤ (nmL t n p).length ∧ (nmL t n p).length ≤ 8 ∧ ∀ c, c ∈ nmL t n p → 97 ≤ c ∧ c ≤ 122 := by
  obtain ⟨h1, h2, h3⟩ := of_decide_eq_true h
  obtain ⟨w1, w2, w3⟩ := word_tok hp h1
  have hl : (nmL t n p).length = tM t n p := by unfold nmL lts; rw [List.length_map, List.length_range]
  refine ⟨by rw [hl]; unfold tM; omega, by rw [hl]; exact h2, fun c hc => ?_⟩
  unfold nmL lts at hc
  obtain ⟨j, j1, j2⟩ := List.mem_map.mp hc
  have j3 := List.mem_range.mp j1
  unfold tM at j3
  rw [← j2]
  exact of_decide_eq_true (w3 _ (by omega) (by omega))
theorem n32_lt {l : List Nat} (h2 : l.length ≤ 8) (hl : ∀ c, c ∈ l → 97 ≤ c ∧ c ≤ 122) : n32 l < 2 ^ 40 := by
  rw [n32_r]
  have r1 : ∀ c, c ∈ l.reverse → 97 ≤ c ∧ c ≤ 122 := fun c hc => hl c (List.mem_reverse.mp hc)
  have p1 : (32 : Nat) ^ l.reverse.length ≤ 32 ^ 8 := Nat.pow_le_pow_right (by omega) (by rw [List.length_reverse]; exact h2)
  have e1 := f32_lt _ r1
  omega
theorem CT_9 {σ : ST} {t : Nat → Nat} {n p : Nat} (h : CT σ t n p) : gJ σ 2 9 = if isNm t n p = true then Int64.ofNat (n32 (nmL t n p)) else -1 := by
  have h8 := CT_8 h
  have h9 := h.2.2.2.2.2.2
  have hl := tW_le t n p
  rw [h9]
  have key : (tK t n p = 2 ∧ gI σ 2 8 = mI ∧ tM t n p ≤ 8) ↔ isNm t n p = true := by
    unfold isNm
    rw [decide_eq_true_iff, h8]
    by_cases c : tW t n p = 26
    · rw [if_pos c]
      exact ⟨fun z => ⟨z.1, z.2.2, c⟩, fun z => ⟨z.1, rfl, z.2.1⟩⟩
    · rw [if_neg c]
      have hc2 : cW (tW t n p) < 26 := cW_lt ⟨tW t n p, by omega⟩
      exact ⟨fun z => by have := z.2.1; rw [nI_mI (by omega)] at this; exact this.elim, fun z => absurd z.2.2 c⟩
  by_cases c : isNm t n p = true
  · rw [if_pos (key.mpr c), if_pos c, lt32]; rfl
  · rw [if_neg (fun z => c (key.mp z)), if_neg c]
theorem c_isName {σ : ST} {t : Nat → Nat} {n p : Nat} (h : CT σ t n p) (hp : p ≤ n) : f_X6_isName 2 σ = if isNm t n p = true then some (nI 1, σ) else some (nI 0, sI (sI σ 2 2 (nI (blK t n p 2))) 2 3 (nI (tF t n p))) := by
  have h9 := CT_9 h
  have hb : f_X6_blame 2 2 σ = some (nI 0, sI (sI σ 2 2 (nI (blK t n p 2))) 2 3 (nI (tF t n p))) := c_blame h 2
  unfold f_X6_isName
  simp only [lg_eq]
  rw [h9]
  by_cases c : isNm t n p = true
  · obtain ⟨a1, a2, a3⟩ := nm_ok hp c
    have hl := n32_lt a2 a3
    rw [if_pos c, if_pos c, if_neg ?_]
    · rfl
    · intro z
      have z2 : Int64.ofNat (n32 (nmL t n p)) = Int64.ofNat (2 ^ 64 - 1) := z
      have := oN64 (by omega) (by omega) z2
      omega
  · rw [if_neg c, if_neg c, if_pos rfl, hb]; rfl
theorem r_isName {τ : ST} {t : Nat → Nat} {n p : Nat} (hT : TX τ t n) (hp : p ≤ n) (h : RT τ t n p) : f_X12_isName 0 14 τ = some (bI (isNm t n p), τ) := by
  have hin := r_in hT hp h
  have hn := hT.2.1
  have hs := tE_sp t hp
  have hl := tW_le t n p
  have k2 : (nI (tK t n p) = (2 : Int32)) = (tK t n p = 2) := nI_e (b := 2) (by have := tK_le t n p; omega) (by omega)
  unfold f_X12_isName isNm
  rw [h.1, h.2.1, h.2.2.1, hin, bsm]
  by_cases c1 : tK t n p = 2
  · rw [if_pos (by rw [k2]; exact c1), pk_sub (by omega)]
    have k8 : ((8 : Int32) < nI (tE t n p - tF t n p)) = (8 < tE t n p - tF t n p) := nI_ltE (a := 8) (by omega) (by omega)
    by_cases c2 : 8 < tE t n p - tF t n p
    · rw [if_pos (by rw [k8]; exact c2), decide_eq_false (fun z => by have := z.2.1; unfold tM at this; omega)]; rfl
    · rw [if_neg (by rw [k8]; exact c2)]
      by_cases c3 : tW t n p = 26
      · rw [decide_eq_true ⟨c1, by unfold tM; omega, c3⟩]
        simp only [if_pos c3]
        rw [if_pos (show mI = -1 from rfl)]; rfl
      · rw [decide_eq_false (fun z => c3 z.2.2)]
        simp only [if_neg c3]
        rw [if_neg (fun z => by have z2 : nI (tW t n p) = mI := z; rw [nI_mI (by omega)] at z2; exact z2)]; rfl
  · rw [if_neg (by rw [k2]; exact c1), decide_eq_false (fun z => c1 z.1)]; rfl
theorem or64 {a c : Nat} (ha : a < 2 ^ 56) (hc : c < 256) : ((Int64.ofNat a) <<< ((8 : Int32).toInt64 &&& 63)) ||| Int64.ofNat c = Int64.ofNat (a * 256 + c) := by
  apply Int64.toBitVec_inj.mp
  apply BitVec.eq_of_toNat_eq
  have h8 : ((8 : Int32).toInt64 &&& 63) = 8 := by decide
  rw [h8]
  have e1 : ((Int64.ofNat a <<< (8 : Int64)) ||| Int64.ofNat c).toBitVec = ((BitVec.ofNat 64 a) <<< 8) ||| BitVec.ofNat 64 c := rfl
  have e2 : (Int64.ofNat (a * 256 + c)).toBitVec = BitVec.ofNat 64 (a * 256 + c) := rfl
  rw [e1, e2, BitVec.toNat_or, BitVec.toNat_shiftLeft, BitVec.toNat_ofNat, BitVec.toNat_ofNat, BitVec.toNat_ofNat, Nat.mod_eq_of_lt (show a < 2 ^ 64 by omega), Nat.mod_eq_of_lt (show c < 2 ^ 64 by omega), Nat.mod_eq_of_lt (show a * 256 + c < 2 ^ 64 by omega), Nat.mod_eq_of_lt (show a <<< 8 < 2 ^ 64 by rw [Nat.shiftLeft_eq]; omega), ← Nat.shiftLeft_add_eq_or_of_lt (show c < 2 ^ 8 by omega), Nat.shiftLeft_eq]
theorem lt256_lt {t : Nat → Nat} {q : Nat} : ∀ m, (∀ j, j < m → t (q + j) < 256) → ltN 256 (fun c => c) t q m < 256 ^ m
  | 0, _ => by simp [ltN]
  | m + 1, h => by
    have := lt256_lt m (fun j hj => h j (by omega))
    have h2 := h m (by omega)
    rw [ltN, Nat.pow_succ]
    omega
theorem r_nameHere {τ : ST} {t : Nat → Nat} {n p : Nat} (hT : TX τ t n) (hp : p ≤ n) (h : RT τ t n p) (hN : isNm t n p = true) : f_X12_nameHere 0 τ = some (Int64.ofNat (n256 (nmL t n p)), τ) := by
  obtain ⟨h1, h2, h3⟩ := of_decide_eq_true hN
  obtain ⟨w1, w2, w3⟩ := word_tok hp h1
  have hn := hT.2.1
  have loop : ∀ (m j N : Nat), j + m = tM t n p → m < N → k_X12_nameHere_7 N 0 (Int64.ofNat (ltN 256 (fun c => c) t (tF t n p) j)) (nI (tF t n p + j)) τ = some (Int64.ofNat (ltN 256 (fun c => c) t (tF t n p) (tM t n p)), τ) := by
    intro m
    induction m with
    | zero =>
      intro j N hj hN
      obtain ⟨N1, rfl⟩ : ∃ N1, N = N1 + 1 := ⟨N - 1, by omega⟩
      have e : tF t n p + j = tE t n p := by unfold tM at hj; omega
      rw [k_X12_nameHere_7, h.2.2.1, e, if_pos (by rw [nI_leE (by omega) (by omega)]; exact Nat.le_refl _), show j = tM t n p by omega]
    | succ m ih =>
      intro j N hj hN
      obtain ⟨N1, rfl⟩ : ∃ N1, N = N1 + 1 := ⟨N - 1, by omega⟩
      have hl : tF t n p + j < tE t n p := by unfold tM at hj; omega
      have hb : (256 : Nat) ^ j ≤ 256 ^ 7 := Nat.pow_le_pow_right (by omega) (by omega)
      have hv := lt256_lt (t := t) (q := tF t n p) j (fun i hi => (hT.2.2 _ (by omega)).2)
      have ht := (hT.2.2 (tF t n p + j) (by omega)).2
      have IH := ih (j + 1) N1 (by omega) (by omega)
      rw [k_X12_nameHere_7, h.2.2.1, if_neg (by rw [nI_leE (by omega) (by omega)]; omega), r_byteAt hT (by omega), bsm]
      simp only []
      rw [nI_l (by omega), show lN (t (tF t n p + j)) = Int64.ofNat (t (tF t n p + j)) from rfl, or64 (by omega) ht, show nI (tF t n p + j) + 1 = nI (tF t n p + (j + 1)) from by rw [show (1 : Int32) = nI 1 from rfl, nI_add]; rfl]
      exact IH
  unfold f_X12_nameHere
  rw [h.2.1]
  have := loop (tM t n p) 0 FU (by omega) (by unfold FU; omega)
  rw [lt256 t (tF t n p) (tM t n p)] at this
  exact this
/-! the first of some -/
def fR (P : Nat → Bool) (n : Nat) : Int32 := if edn (fun i => !(P i)) id n 0 < n then nI (edn (fun i => !(P i)) id n 0) else mI
theorem fR_no {P : Nat → Bool} {n : Nat} (h : ∀ j, j < n → P j = false) : fR P n = mI := by
  unfold fR
  rw [Ed_uniq (edn_spec _ id (Nat.zero_le n)) (show Ed (fun i => !(P i)) id n 0 n from ⟨Nat.zero_le _, Nat.le_refl _, fun j _ b => by simp [h j b], fun z => by omega⟩), if_neg (by omega)]
theorem fR_at {P : Nat → Bool} {n i : Nat} (hi : i < n) (h : ∀ j, j < i → P j = false) (hp : P i = true) : fR P n = nI i := by
  unfold fR
  rw [Ed_uniq (edn_spec _ id (Nat.zero_le n)) (show Ed (fun i => !(P i)) id n 0 i from ⟨Nat.zero_le _, by omega, fun j _ b => by simp [h j b], fun z => by simp [hp]⟩), if_pos hi]
theorem fR_cs (P : Nat → Bool) (n : Nat) : (fR P n = mI ∧ ∀ j, j < n → P j = false) ∨ ∃ i, i < n ∧ fR P n = nI i ∧ P i = true ∧ ∀ j, j < i → P j = false := by
  obtain ⟨a1, a2, a3, a4⟩ := edn_spec (fun i => !(P i)) id (Nat.zero_le n)
  by_cases c : edn (fun i => !(P i)) id n 0 < n
  · refine Or.inr ⟨_, c, by unfold fR; rw [if_pos c], ?_, fun j hj => ?_⟩
    · have := a4 c; simpa using this
    · have := a3 j (by omega) hj; simpa using this
  · refine Or.inl ⟨by unfold fR; rw [if_neg c], fun j hj => ?_⟩
    have := a3 j (by omega) (by omega); simpa using this
theorem fR_congr {P Q : Nat → Bool} {n : Nat} (h : ∀ i, i < n → P i = Q i) : fR P n = fR Q n := by
  rcases fR_cs Q n with ⟨a, b⟩ | ⟨i, a, b, c, d⟩
  · rw [a, fR_no (fun j hj => by rw [h j hj]; exact b j hj)]
  · rw [b, fR_at a (fun j hj => by rw [h j (by omega)]; exact d j hj) (by rw [h i a]; exact c)]
theorem c_keeperNamed {x y K : Nat} {σ : ST} (v : Int64) (hx : LC.2.1 x 1 = y) (hy : LC.2.2.1 y = 6) (h6 : gI σ x 6 = nI K) (hK : K ≤ 6) : f_X7_keeperNamed x v σ = some (fR (fun i => decide (gB σ y i = v)) K, σ) := by
  have loop : ∀ (m i N : Nat), i + m = K → m < N → (∀ j, j < i → decide (gB σ y j = v) = false) → k_X7_keeperNamed_2 N x v (nI i) σ = some (fR (fun i => decide (gB σ y i = v)) K, σ) := by
    intro m
    induction m with
    | zero =>
      intro i N hi hN hb
      obtain ⟨N1, rfl⟩ : ∃ N1, N = N1 + 1 := ⟨N - 1, by omega⟩
      rw [k_X7_keeperNamed_2, h6, if_pos (by rw [nI_leE (by omega) (by omega)]; omega), fR_no (fun j hj => hb j (by omega))]
      rfl
    | succ m ih =>
      intro i N hi hN hb
      obtain ⟨N1, rfl⟩ : ∃ N1, N = N1 + 1 := ⟨N - 1, by omega⟩
      rw [k_X7_keeperNamed_2, h6, if_neg (by rw [nI_leE (by omega) (by omega)]; omega), hx, lb 6 hy (by omega) (by decide), bsm]
      simp only [lg_eq]
      by_cases c : gB σ y i = v
      · rw [if_pos c, fR_at (i := i) (by omega) hb (decide_eq_true c)]
      · rw [if_neg c, show nI i + 1 = nI (i + 1) from by rw [show (1 : Int32) = nI 1 from rfl, nI_add]]
        exact ih (i + 1) N1 (by omega) (by omega) (fun j hj => by
          by_cases e : j = i
          · rw [e]; exact decide_eq_false c
          · exact hb j (by omega))
  exact loop K 0 FU (by omega) (by unfold FU; omega) (fun j hj => by omega)
theorem c_keyNamed {x y K : Nat} {σ : ST} (v : Int64) (hx : LC.2.1 x 3 = y) (hy : LC.2.2.1 y = 6) (h6 : gI σ x 7 = nI K) (hK : K ≤ 6) : f_X7_keyNamed x v σ = some (fR (fun i => decide (gB σ y i = v)) K, σ) := by
  have loop : ∀ (m i N : Nat), i + m = K → m < N → (∀ j, j < i → decide (gB σ y j = v) = false) → k_X7_keyNamed_2 N x v (nI i) σ = some (fR (fun i => decide (gB σ y i = v)) K, σ) := by
    intro m
    induction m with
    | zero =>
      intro i N hi hN hb
      obtain ⟨N1, rfl⟩ : ∃ N1, N = N1 + 1 := ⟨N - 1, by omega⟩
      rw [k_X7_keyNamed_2, h6, if_pos (by rw [nI_leE (by omega) (by omega)]; omega), fR_no (fun j hj => hb j (by omega))]
      rfl
    | succ m ih =>
      intro i N hi hN hb
      obtain ⟨N1, rfl⟩ : ∃ N1, N = N1 + 1 := ⟨N - 1, by omega⟩
      rw [k_X7_keyNamed_2, h6, if_neg (by rw [nI_leE (by omega) (by omega)]; omega), hx, lb 6 hy (by omega) (by decide), bsm]
      simp only [lg_eq]
      by_cases c : gB σ y i = v
      · rw [if_pos c, fR_at (i := i) (by omega) hb (decide_eq_true c)]
      · rw [if_neg c, show nI i + 1 = nI (i + 1) from by rw [show (1 : Int32) = nI 1 from rfl, nI_add]]
        exact ih (i + 1) N1 (by omega) (by omega) (fun j hj => by
          by_cases e : j = i
          · rw [e]; exact decide_eq_false c
          · exact hb j (by omega))
  exact loop K 0 FU (by omega) (by unfold FU; omega) (fun j hj => by omega)
theorem r_findHere {τ : ST} {t : Nat → Nat} {n p : Nat} (hT : TX τ t n) (hp : p ≤ n) (h : RT τ t n p) (hN : isNm t n p = true) {b K : Nat} (hb : b + K ≤ 70) : f_X12_findHere 0 (nI b) (nI K) τ = some (fR (fun i => decide (gB τ 2 (b + i) = Int64.ofNat (n256 (nmL t n p)))) K, τ) := by
  have hh := r_nameHere hT hp h hN
  have loop : ∀ (m i N : Nat), i + m = K → m < N → (∀ j, j < i → decide (gB τ 2 (b + j) = Int64.ofNat (n256 (nmL t n p))) = false) → k_X12_findHere_2 N 0 (nI b) (nI K) (nI i) τ = some (fR (fun i => decide (gB τ 2 (b + i) = Int64.ofNat (n256 (nmL t n p)))) K, τ) := by
    intro m
    induction m with
    | zero =>
      intro i N hi hN hb2
      obtain ⟨N1, rfl⟩ : ∃ N1, N = N1 + 1 := ⟨N - 1, by omega⟩
      rw [k_X12_findHere_2, if_pos (by rw [nI_leE (by omega) (by omega)]; omega), fR_no (fun j hj => hb2 j (by omega))]
      rfl
    | succ m ih =>
      intro i N hi hN hb2
      obtain ⟨N1, rfl⟩ : ∃ N1, N = N1 + 1 := ⟨N - 1, by omega⟩
      rw [k_X12_findHere_2, if_neg (by rw [nI_leE (by omega) (by omega)]; omega), nI_add, show LR.2.1 0 1 = 2 from rfl, lb 70 rfl (by omega) (by decide), bsm, hh, bsm]
      simp only [lg_eq]
      by_cases c : gB τ 2 (b + i) = Int64.ofNat (n256 (nmL t n p))
      · rw [if_pos c, fR_at (i := i) (by omega) hb2 (decide_eq_true c)]
      · rw [if_neg c, show nI i + 1 = nI (i + 1) from by rw [show (1 : Int32) = nI 1 from rfl, nI_add]]
        exact ih (i + 1) N1 (by omega) (by omega) (fun j hj => by
          by_cases e : j = i
          · rw [e]; exact decide_eq_false c
          · exact hb2 j (by omega))
  exact loop K 0 FU (by omega) (by unfold FU; omega) (fun j hj => by omega)
