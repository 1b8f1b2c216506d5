/-! masks of the class (over keepers), and of the reference (over those asked) -/
theorem ap_onto {f : Nat → Int32} (hf : WFs f) {y a p : Nat} (hy : y < YN f) (h : (isPl f y p && rch f a p) = true) : ∃ i, i < cnt (rp f y a) (pm f) ∧ ap f y a i = p := by
  simp only [Bool.and_eq_true] at h
  obtain ⟨m, h1, h2, h3⟩ := pl_rk hf hy h.1
  have hr : rp f y a m = true := by unfold rp; rw [h3, h.1, h.2]; rfl
  have hi : cnt (rp f y a) m < cnt (rp f y a) (pm f) := cnt_lt2 h1 hr
  have q := aq_in hi
  refine ⟨_, hi, ?_⟩
  have e : aq f y a (cnt (rp f y a) m) = m := cnt_inj q.2.1 hr q.2.2
  unfold ap
  rw [e]; exact h3
theorem ap_pl {f : Nat → Int32} {y a i : Nat} (h : i < cnt (rp f y a) (pm f)) : (isPl f y (ap f y a i) && rch f a (ap f y a i)) = true := (aq_in h).2.1
def pC (P R m : Nat) : Bool := decide (m &&& P = m) && decide (pcN m = R)
def pR (R m : Nat) : Bool := decide (pcN m = R)
def SC (f : Nat → Int32) (m p : Nat) : Prop := p < KN f ∧ bt (nI m) p = true
def SR (f : Nat → Int32) (y a m p : Nat) : Prop := ∃ i, i < cnt (rp f y a) (pm f) ∧ m.testBit i = true ∧ ap f y a i = p
theorem pC_sub {P R m : Nat} (h : pC P R m = true) {k : Nat} (hk : m.testBit k = true) : P.testBit k = true := by
  unfold pC at h
  simp only [Bool.and_eq_true, decide_eq_true_eq] at h
  rw [← h.1, Nat.testBit_and, Bool.and_eq_true] at hk
  exact hk.2
theorem pC_R {P R m : Nat} (h : pC P R m = true) : pcN m = R := by
  unfold pC at h
  simp only [Bool.and_eq_true, decide_eq_true_eq] at h
  exact h.2
theorem SC_SR {f : Nat → Int32} (hf : WFs f) {y a : Nat} (hy : y < YN f) {P R m m' : Nat} (hP : ∀ k, P.testBit k = (isPl f y k && rch f a k)) (hm : pC P R m = true) (hb : ∀ i, i < cnt (rp f y a) (pm f) → m'.testBit i = m.testBit (ap f y a i)) (p : Nat) : SC f m p ↔ SR f y a m' p := by
  have hK := hf.1
  constructor
  · rintro ⟨h1, h2⟩
    rw [bt_nI m (by omega)] at h2
    have h3 := pC_sub hm h2
    rw [hP] at h3
    obtain ⟨i, h4, h5⟩ := ap_onto hf hy h3
    exact ⟨i, h4, by rw [hb i h4, h5]; exact h2, h5⟩
  · rintro ⟨i, h1, h2, h3⟩
    have h4 := ap_lt hf hy h1
    refine ⟨by omega, ?_⟩
    rw [bt_nI m (by omega), ← h3, ← hb i h1]; exact h2
theorem mask_R {f : Nat → Int32} (hf : WFs f) {y a : Nat} (hy : y < YN f) {P R m : Nat} (hP : ∀ k, P.testBit k = (isPl f y k && rch f a k)) (hm : pC P R m = true) (hl : m < 64) : ∃ m', m' < 2 ^ (cnt (rp f y a) (pm f)) ∧ pR R m' = true ∧ ∀ i, i < cnt (rp f y a) (pm f) → m'.testBit i = m.testBit (ap f y a i) := by
  have hK := hf.1
  generalize hA : cnt (rp f y a) (pm f) = A
  have hb : ∀ i, i < A → (ofB (fun i => m.testBit (ap f y a i)) A).testBit i = m.testBit (ap f y a i) := fun i hi => by rw [ofB_bit, decide_eq_true hi]; rfl
  refine ⟨ofB (fun i => m.testBit (ap f y a i)) A, ofB_lt _ A, decide_eq_true ?_, hb⟩
  rw [← pC_R hm, pcN_cnt A _ (ofB_lt _ A), pcN_cnt 6 m hl]
  obtain ⟨ai, hai⟩ := Classical.axiomOfChoice (show ∀ p, ∃ i, (isPl f y p && rch f a p) = true → i < A ∧ ap f y a i = p from fun p => by
    by_cases g : (isPl f y p && rch f a p) = true
    · obtain ⟨i, h1, h2⟩ := ap_onto hf hy g
      exact ⟨i, fun _ => ⟨by omega, h2⟩⟩
    · exact ⟨0, fun z => absurd z g⟩)
  have hin : ∀ p, m.testBit p = true → ai p < A ∧ ap f y a (ai p) = p := fun p hp => hai p (by rw [← hP]; exact pC_sub hm hp)
  refine Nat.le_antisymm (cnt_inj_le (φ := ap f y a) A (fun i hi hp => ?_) (fun i j hi hj _ _ e => ap_inj hf hy (by omega) (by omega) e)) (cnt_inj_le (φ := ai) 6 (fun p _ hp => ?_) (fun p q _ _ hp hq e => ?_))
  · have h1 := ap_lt hf hy (show i < cnt (rp f y a) (pm f) by omega)
    rw [hb i hi] at hp
    exact ⟨by omega, hp⟩
  · obtain ⟨h1, h2⟩ := hin p hp
    exact ⟨h1, by rw [hb _ h1, h2]; exact hp⟩
  · rw [← (hin p hp).2, ← (hin q hq).2, e]
theorem mask_C {f : Nat → Int32} (hf : WFs f) {y a : Nat} (hy : y < YN f) {P R m' : Nat} (hP : ∀ k, P.testBit k = (isPl f y k && rch f a k)) (hm : pR R m' = true) (hl : m' < 2 ^ (cnt (rp f y a) (pm f))) : ∃ m, m < 64 ∧ pC P R m = true ∧ ∀ i, i < cnt (rp f y a) (pm f) → m'.testBit i = m.testBit (ap f y a i) := by
  have hK := hf.1
  generalize hA : cnt (rp f y a) (pm f) = A at hl ⊢
  have hb : ∀ p, (ofB (fun p => decide (∃ i, i < A ∧ (m'.testBit i = true ∧ ap f y a i = p))) 6).testBit p = (decide (p < 6) && decide (∃ i, i < A ∧ (m'.testBit i = true ∧ ap f y a i = p))) := fun p => ofB_bit _ p 6
  generalize hM : ofB (fun p => decide (∃ i, i < A ∧ (m'.testBit i = true ∧ ap f y a i = p))) 6 = m at hb
  have hlt : m < 64 := by rw [← hM]; exact ofB_lt _ 6
  have hsub : ∀ p, m.testBit p = true → ∃ i, i < A ∧ (m'.testBit i = true ∧ ap f y a i = p) := fun p hp => by
    rw [hb p, Bool.and_eq_true] at hp
    exact of_decide_eq_true hp.2
  have hbit : ∀ i, i < A → m'.testBit i = m.testBit (ap f y a i) := fun i hi => by
    have h1 := ap_lt hf hy (show i < cnt (rp f y a) (pm f) by omega)
    rw [hb, decide_eq_true (show ap f y a i < 6 by omega), Bool.true_and]
    cases c : m'.testBit i
    · symm
      refine decide_eq_false (fun ⟨j, j1, j2, j3⟩ => ?_)
      have := ap_inj hf hy (show j < cnt (rp f y a) (pm f) by omega) (show i < cnt (rp f y a) (pm f) by omega) j3
      rw [this, c] at j2
      exact absurd j2 (by decide)
    · exact (decide_eq_true ⟨i, hi, c, rfl⟩).symm
  refine ⟨m, hlt, ?_, hbit⟩
  unfold pC
  rw [Bool.and_eq_true]
  refine ⟨decide_eq_true ?_, decide_eq_true ?_⟩
  · apply Nat.eq_of_testBit_eq
    intro k
    rw [Nat.testBit_and]
    cases c : m.testBit k
    · rfl
    · obtain ⟨i, i1, i2, i3⟩ := hsub k c
      have := ap_pl (show i < cnt (rp f y a) (pm f) by omega)
      rw [i3] at this
      rw [hP, this]; rfl
  · have hpc := of_decide_eq_true hm
    rw [← hpc, pcN_cnt A m' hl, pcN_cnt 6 m hlt]
    obtain ⟨ai, hai⟩ := Classical.axiomOfChoice (show ∀ p, ∃ i, m.testBit p = true → i < A ∧ (m'.testBit i = true ∧ ap f y a i = p) from fun p => by
      by_cases g : m.testBit p = true
      · obtain ⟨i, h1⟩ := hsub p g
        exact ⟨i, fun _ => h1⟩
      · exact ⟨0, fun z => absurd z g⟩)
    refine Nat.le_antisymm (cnt_inj_le (φ := ai) 6 (fun p _ hp => ⟨(hai p hp).1, (hai p hp).2.1⟩) (fun p q _ _ hp hq e => ?_)) (cnt_inj_le (φ := ap f y a) A (fun i hi hp => ?_) (fun i j hi hj _ _ e => ap_inj hf hy (by omega) (by omega) e))
    · rw [← (hai p hp).2.2, ← (hai q hq).2.2, e]
    · have h1 := ap_lt hf hy (show i < cnt (rp f y a) (pm f) by omega)
      rw [hbit i hi] at hp
      exact ⟨by omega, hp⟩
theorem mask_eq {f : Nat → Int32} (hf : WFs f) {y a : Nat} (hy : y < YN f) {P R m1 m2 : Nat} (hP : ∀ k, P.testBit k = (isPl f y k && rch f a k)) (h1 : pC P R m1 = true) (h2 : pC P R m2 = true) (h : ∀ i, i < cnt (rp f y a) (pm f) → m1.testBit (ap f y a i) = m2.testBit (ap f y a i)) : m1 = m2 := by
  apply Nat.eq_of_testBit_eq
  intro k
  cases c : P.testBit k
  · cases c1 : m1.testBit k
    · cases c2 : m2.testBit k
      · rfl
      · rw [pC_sub h2 c2] at c; exact absurd c (by decide)
    · rw [pC_sub h1 c1] at c; exact absurd c (by decide)
  · rw [hP] at c
    obtain ⟨i, i1, i2⟩ := ap_onto hf hy c
    have := h i i1
    rw [i2] at this; exact this
/-- what both count of rows is the same -/
theorem pick_cnt {f : Nat → Int32} (hf : WFs f) {y a : Nat} (hy : y < YN f) {P R : Nat} (hP : ∀ k, P.testBit k = (isPl f y k && rch f a k)) {rc : Nat → Nat × (Nat → Int32)} (hr : ∀ m, m < 64 → pC P R m = true → rc (cnt (pC P R) m) = rowS f y (SC f m)) (Q : Nat × (Nat → Int32) → Bool) : cnt (fun i => Q (rc i)) (cnt (pC P R) 64) = cnt (fun m => pR R m && Q (rowS f y (SR f y a m))) (2 ^ (cnt (rp f y a) (pm f))) := by
  obtain ⟨Φ, hΦ⟩ := Classical.axiomOfChoice (show ∀ i, ∃ w : Nat × Nat, i < cnt (pC P R) 64 → (w.1 < 64 ∧ pC P R w.1 = true ∧ cnt (pC P R) w.1 = i) ∧ w.2 < 2 ^ (cnt (rp f y a) (pm f)) ∧ pR R w.2 = true ∧ ∀ k, k < cnt (rp f y a) (pm f) → w.2.testBit k = w.1.testBit (ap f y a k) from fun i => by
    by_cases g : i < cnt (pC P R) 64
    · obtain ⟨m, m1, m2, m3⟩ := cnt_onto _ _ g
      obtain ⟨m', q⟩ := mask_R hf hy hP m2 m1
      exact ⟨(m, m'), fun _ => ⟨⟨m1, m2, m3⟩, q⟩⟩
    · exact ⟨(0, 0), fun z => absurd z g⟩)
  obtain ⟨Ψ, hΨ⟩ := Classical.axiomOfChoice (show ∀ m', ∃ m, m' < 2 ^ (cnt (rp f y a) (pm f)) → pR R m' = true → m < 64 ∧ pC P R m = true ∧ ∀ k, k < cnt (rp f y a) (pm f) → m'.testBit k = m.testBit (ap f y a k) from fun m' => by
    by_cases g : m' < 2 ^ (cnt (rp f y a) (pm f)) ∧ pR R m' = true
    · obtain ⟨m, q⟩ := mask_C hf hy hP g.2 g.1
      exact ⟨m, fun _ _ => q⟩
    · exact ⟨0, fun z1 z2 => absurd ⟨z1, z2⟩ g⟩)
  refine Nat.le_antisymm (cnt_inj_le (φ := fun i => (Φ i).2) _ (fun i hi hq => ?_) (fun i j hi hj _ _ e => ?_)) (cnt_inj_le (φ := fun m' => cnt (pC P R) (Ψ m')) _ (fun m' hm hq => ?_) (fun m1 m2 h1 h2 q1 q2 e => ?_))
  · obtain ⟨⟨a1, a2, a3⟩, a4, a5, a6⟩ := hΦ i hi
    refine ⟨a4, ?_⟩
    rw [a5, ← rowS_set (SC_SR hf hy hP a2 a6), ← hr _ a1 a2, a3, Bool.true_and]; exact hq
  · obtain ⟨⟨a1, a2, a3⟩, a4, a5, a6⟩ := hΦ i hi
    obtain ⟨⟨b1, b2, b3⟩, b4, b5, b6⟩ := hΦ j hj
    have : (Φ i).1 = (Φ j).1 := mask_eq hf hy hP a2 b2 (fun k hk => by rw [← a6 k hk, ← b6 k hk]; exact congrArg (fun z => Nat.testBit z k) e)
    rw [← a3, ← b3, this]
  · rw [Bool.and_eq_true] at hq
    obtain ⟨a1, a2, a3⟩ := hΨ m' hm hq.1
    refine ⟨cnt_lt2 a1 a2, ?_⟩
    show Q (rc (cnt (pC P R) (Ψ m'))) = true
    rw [hr _ a1 a2, rowS_set (SC_SR hf hy hP a2 a3)]; exact hq.2
  · rw [Bool.and_eq_true] at q1 q2
    obtain ⟨a1, a2, a3⟩ := hΨ m1 h1 q1.1
    obtain ⟨b1, b2, b3⟩ := hΨ m2 h2 q2.1
    have e2 : Ψ m1 = Ψ m2 := cnt_inj a2 b2 e
    exact bit_ext h1 h2 (fun k hk => by rw [a3 k hk, b3 k hk, e2])
theorem pick_unlike {f : Nat → Int32} (hf : WFs f) {y a : Nat} (hy : y < YN f) {P R : Nat} (hP : ∀ k, P.testBit k = (isPl f y k && rch f a k)) {rc : Nat → Nat × (Nat → Int32)} (hr : ∀ m, m < 64 → pC P R m = true → rc (cnt (pC P R) m) = rowS f y (SC f m)) : cnt (fst1 (fun _ => true) rc) (cnt (pC P R) 64) = cnt (fst1 (pR R) (fun m => rowS f y (SR f y a m))) (2 ^ (cnt (rp f y a) (pm f))) := by
  refine Nat.le_antisymm (fst1_le (fun i hi _ => ?_)) (fst1_le (fun m' hm hq => ?_))
  · obtain ⟨m, m1, m2, m3⟩ := cnt_onto _ _ hi
    obtain ⟨m', q1, q2, q3⟩ := mask_R hf hy hP m2 m1
    exact ⟨m', q1, q2, by rw [← rowS_set (SC_SR hf hy hP m2 q3), ← hr _ m1 m2, m3]⟩
  · obtain ⟨m, q1, q2, q3⟩ := mask_C hf hy hP hq hm
    exact ⟨cnt (pC P R) m, cnt_lt2 q1 q2, rfl, by rw [hr _ q1 q2, rowS_set (SC_SR hf hy hP q2 q3)]⟩
