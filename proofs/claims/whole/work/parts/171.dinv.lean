/-! lines, steps, and what is open -/
def DInv (K Y : Nat) (f0 : Nat → Int32) (L C dd : Nat) (D : Nat → Nat → Nat) (op : Nat → Nat) (I : Nat → Int32) (d : Int32) (w y k v o m q f q8 : Nat → Int32) (d21 c22 : Int32) : Prop := (C ≤ 30 ∧ dd ≤ 3 ∧ L + dd ≤ 2 * C) ∧ (I 7 = nI L ∧ I 8 = nI C ∧ d = nI dd ∧ f 19407 = nI L ∧ d21 = nI dd ∧ c22 = nI C) ∧ (∀ j, j < dd → q j = nI (op j) ∧ q8 j = nI (op j) ∧ op j < L ∧ oO (D (op j) 0) = true) ∧ (∀ i j, i < j → j < dd → op i < op j) ∧ (∀ j, j < L → LOKd K Y f0 j w y k v o f (D j)) ∧ (∀ j, j < L → oO (D j 0) = true → (∀ i, i < dd → op i ≠ j) → j < D j 5 ∧ D j 5 < L ∧ D (D j 5) 0 = 21 ∧ D (D j 5) 5 = j ∧ (∀ c, j < c → c < D j 5 → oO (D c 0) = true → D c 5 < D j 5 ∧ ∀ i, i < dd → op i ≠ c) ∧ m j = nI (D j 5) ∧ f (23880 + 6 * j + 4) = nI (D j 5)) ∧ (∀ j, j < L → D j 0 = 21 → D j 5 < j ∧ oO (D (D j 5) 0) = true ∧ D (D j 5) 5 = j ∧ m j = nI (D j 5) ∧ f (23880 + 6 * j + 4) = nI (D j 5) ∧ ∀ i, i < dd → op i ≠ D j 5)
theorem DInv.nums {K Y : Nat} {f0 : Nat → Int32} {L C dd : Nat} {D : Nat → Nat → Nat} {op : Nat → Nat} {I : Nat → Int32} {d : Int32} {w y k v o m q f q8 : Nat → Int32} {d21 c22 : Int32} (h : DInv K Y f0 L C dd D op I d w y k v o m q f q8 d21 c22) : C ≤ 30 ∧ dd ≤ 3 ∧ L + dd ≤ 2 * C := h.1
theorem DInv.ints {K Y : Nat} {f0 : Nat → Int32} {L C dd : Nat} {D : Nat → Nat → Nat} {op : Nat → Nat} {I : Nat → Int32} {d : Int32} {w y k v o m q f q8 : Nat → Int32} {d21 c22 : Int32} (h : DInv K Y f0 L C dd D op I d w y k v o m q f q8 d21 c22) : I 7 = nI L ∧ I 8 = nI C ∧ d = nI dd ∧ f 19407 = nI L ∧ d21 = nI dd ∧ c22 = nI C := h.2.1
theorem DInv.opn {K Y : Nat} {f0 : Nat → Int32} {L C dd : Nat} {D : Nat → Nat → Nat} {op : Nat → Nat} {I : Nat → Int32} {d : Int32} {w y k v o m q f q8 : Nat → Int32} {d21 c22 : Int32} (h : DInv K Y f0 L C dd D op I d w y k v o m q f q8 d21 c22) : ∀ j, j < dd → q j = nI (op j) ∧ q8 j = nI (op j) ∧ op j < L ∧ oO (D (op j) 0) = true := h.2.2.1
theorem DInv.inc {K Y : Nat} {f0 : Nat → Int32} {L C dd : Nat} {D : Nat → Nat → Nat} {op : Nat → Nat} {I : Nat → Int32} {d : Int32} {w y k v o m q f q8 : Nat → Int32} {d21 c22 : Int32} (h : DInv K Y f0 L C dd D op I d w y k v o m q f q8 d21 c22) : ∀ i j, i < j → j < dd → op i < op j := h.2.2.2.1
theorem DInv.lin {K Y : Nat} {f0 : Nat → Int32} {L C dd : Nat} {D : Nat → Nat → Nat} {op : Nat → Nat} {I : Nat → Int32} {d : Int32} {w y k v o m q f q8 : Nat → Int32} {d21 c22 : Int32} (h : DInv K Y f0 L C dd D op I d w y k v o m q f q8 d21 c22) : ∀ j, j < L → LOKd K Y f0 j w y k v o f (D j) := h.2.2.2.2.1
theorem DInv.mat {K Y : Nat} {f0 : Nat → Int32} {L C dd : Nat} {D : Nat → Nat → Nat} {op : Nat → Nat} {I : Nat → Int32} {d : Int32} {w y k v o m q f q8 : Nat → Int32} {d21 c22 : Int32} (h : DInv K Y f0 L C dd D op I d w y k v o m q f q8 d21 c22) : ∀ j, j < L → oO (D j 0) = true → (∀ i, i < dd → op i ≠ j) → j < D j 5 ∧ D j 5 < L ∧ D (D j 5) 0 = 21 ∧ D (D j 5) 5 = j ∧ (∀ c, j < c → c < D j 5 → oO (D c 0) = true → D c 5 < D j 5 ∧ ∀ i, i < dd → op i ≠ c) ∧ m j = nI (D j 5) ∧ f (23880 + 6 * j + 4) = nI (D j 5) := h.2.2.2.2.2.1
theorem DInv.ens {K Y : Nat} {f0 : Nat → Int32} {L C dd : Nat} {D : Nat → Nat → Nat} {op : Nat → Nat} {I : Nat → Int32} {d : Int32} {w y k v o m q f q8 : Nat → Int32} {d21 c22 : Int32} (h : DInv K Y f0 L C dd D op I d w y k v o m q f q8 d21 c22) : ∀ j, j < L → D j 0 = 21 → D j 5 < j ∧ oO (D (D j 5) 0) = true ∧ D (D j 5) 5 = j ∧ m j = nI (D j 5) ∧ f (23880 + 6 * j + 4) = nI (D j 5) ∧ ∀ i, i < dd → op i ≠ D j 5 := h.2.2.2.2.2.2
theorem LOKd_c {K Y : Nat} {f0 : Nat → Int32} {j : Nat} {w y k v o f w' y' k' v' o' f' : Nat → Int32} {D D' : Nat → Nat} (h : LOKd K Y f0 j w y k v o f D) (hw : w' j = w j) (hy : y' j = y j) (hk : k' j = k j) (hv : v' j = v j) (ho : o' j = o j) (hf : ∀ x, x ≠ 4 → x < 6 → f' (23880 + 6 * j + x) = f (23880 + 6 * j + x)) (hD : ∀ i, i ≠ 5 → D' i = D i) : LOKd K Y f0 j w' y' k' v' o' f' D' := by
  have e0 := hf 0 (by omega) (by omega)
  rw [Nat.add_zero] at e0
  unfold LOKd at h ⊢
  rw [hw, hy, hk, hv, ho, e0, hf 1 (by omega) (by omega), hf 2 (by omega) (by omega), hf 3 (by omega) (by omega), hf 5 (by omega) (by omega), hD 0 (by omega), hD 1 (by omega), hD 2 (by omega), hD 3 (by omega), hD 4 (by omega)]
  exact h
section
variable {K Y : Nat} {f0 : Nat → Int32} {L C dd : Nat} {D : Nat → Nat → Nat} {op : Nat → Nat} {I : Nat → Int32} {d : Int32} {w y k v o m q f q8 : Nat → Int32} {d21 c22 : Int32}
theorem DInv.line (h : DInv K Y f0 L C dd D op I d w y k v o m q f q8 d21 c22) (hC : C < 30) {I' w' y' k' v' o' m' q' f' q8' : Nat → Int32} {d' d21' c22' : Int32} {R : Nat → Nat} (b : Bool) (hb : oO (R 0) = b) (hdd : b = true → dd < 3) (hR : LOKd K Y f0 L w' y' k' v' o' f' R) (hR21 : R 0 ≠ 21) (hch : ∀ j, j ≠ L → w' j = w j ∧ y' j = y j ∧ k' j = k j ∧ v' j = v j ∧ o' j = o j) (hm : ∀ j, j ≠ L → m' j = m j) (hf : ∀ x, 23880 ≤ x → x < 23880 + 6 * L → f' x = f x) (h7 : f' 19407 = nI (L + 1)) (hI : I' 7 = nI (L + 1) ∧ I' 8 = nI (C + 1)) (hc : c22' = nI (C + 1)) (hd : d' = nI (if b = true then dd + 1 else dd)) (hd2 : d21' = nI (if b = true then dd + 1 else dd)) (hq : ∀ j, j < dd → q' j = q j ∧ q8' j = q8 j) (hqb : b = true → q' dd = nI L ∧ q8' dd = nI L) : DInv K Y f0 (L + 1) (C + 1) (if b = true then dd + 1 else dd) (fun j => if j = L then R else D j) (fun j => if j = dd then L else op j) I' d' w' y' k' v' o' m' q' f' q8' d21' c22' := by
  have nums := h.nums
  have DL : ∀ j, j ≠ L → (fun j => if j = L then R else D j) j = D j := fun j hj => if_neg hj
  have DLL : (fun j => if j = L then R else D j) L = R := if_pos rfl
  have hdd' : (if b = true then dd + 1 else dd) ≤ dd + 1 := by split <;> omega
  have opold : ∀ j, j < L → (∀ i, i < (if b = true then dd + 1 else dd) → (if i = dd then L else op i) ≠ j) → ∀ i, i < dd → op i ≠ j := fun j hj hh i hi => by
    have := hh i (by split <;> omega)
    rw [if_neg (by omega)] at this
    exact this
  have opnew : ∀ j, j < L → (∀ i, i < dd → op i ≠ j) → ∀ i, i < (if b = true then dd + 1 else dd) → (if i = dd then L else op i) ≠ j := fun j hj hh i hi => by
    by_cases e : i = dd
    · rw [if_pos e]; omega
    · rw [if_neg e]; exact hh i (by omega)
  refine ⟨⟨by omega, ?_, ?_⟩, ⟨hI.1, hI.2, hd, h7, hd2, hc⟩, fun j hj => ?_, fun a j ha hj => ?_, fun j hj => ?_, fun j hj ho hp => ?_, fun j hj h21 => ?_⟩
  · cases b
    · simp; omega
    · have := hdd rfl; simp; omega
  · cases b
    · simp; omega
    · have := hdd rfl; simp; omega
  · by_cases e : j = dd
    · have hbt : b = true := by
        cases b
        · simp at hj; omega
        · rfl
      simp only [if_pos e]
      rw [e]
      refine ⟨(hqb hbt).1, (hqb hbt).2, by omega, ?_⟩
      simp only [if_true]
      rw [hb, hbt]
    · have hj2 : j < dd := by omega
      obtain ⟨a1, a2, a3, a4⟩ := h.opn j hj2
      simp only [if_neg e]
      refine ⟨(hq j hj2).1.trans a1, (hq j hj2).2.trans a2, by omega, ?_⟩
      rw [if_neg (by omega)]; exact a4
  · show (if a = dd then L else op a) < (if j = dd then L else op j)
    by_cases e : j = dd
    · rw [if_pos e, if_neg (by omega)]
      exact (h.opn a (by omega)).2.2.1
    · rw [if_neg e, if_neg (by omega)]
      exact h.inc a j ha (by omega)
  · by_cases e : j = L
    · rw [e, DLL]; exact hR
    · rw [DL j e]
      obtain ⟨c1, c2, c3, c4, c5⟩ := hch j e
      exact LOKd_c (h.lin j (by omega)) c1 c2 c3 c4 c5 (fun x _ hx => hf _ (by omega) (by omega)) (fun _ _ => rfl)
  · by_cases e : j = L
    · exfalso
      rw [e, DLL, hb] at ho
      have this : (if dd = dd then L else op dd) ≠ j := hp dd (by rw [if_pos ho]; omega)
      rw [if_pos rfl] at this
      exact this e.symm
    · rw [DL j e] at ho ⊢
      obtain ⟨m1, m2, m3, m4, m5, m6, m7⟩ := h.mat j (by omega) ho (opold j (by omega) hp)
      rw [DL (D j 5) (by omega)]
      refine ⟨m1, by omega, m3, m4, fun c c1 c2 c3 => ?_, (hm j e).trans m6, (hf _ (by omega) (by omega)).trans m7⟩
      rw [DL c (by omega)] at c3 ⊢
      obtain ⟨n1, n2⟩ := m5 c c1 c2 c3
      exact ⟨n1, opnew c (by omega) n2⟩
  · by_cases e : j = L
    · rw [e, DLL] at h21; exact absurd h21 hR21
    · rw [DL j e] at h21 ⊢
      obtain ⟨m1, m2, m3, m4, m5, m6⟩ := h.ens j (by omega) h21
      rw [DL (D j 5) (by omega)]
      exact ⟨m1, m2, m3, (hm j e).trans m4, (hf _ (by omega) (by omega)).trans m5, opnew _ (by omega) m6⟩
theorem DInv.ends (h : DInv K Y f0 L C dd D op I d w y k v o m q f q8 d21 c22) (hd0 : 1 ≤ dd) {I' w' y' k' v' o' m' q' f' q8' : Nat → Int32} {d' d21' c22' : Int32} {R : Nat → Nat} (hR0 : R 0 = 21) (hR5 : R 5 = op (dd - 1)) (hR : LOKd K Y f0 L w' y' k' v' o' f' R) (hch : ∀ j, j ≠ L → w' j = w j ∧ y' j = y j ∧ k' j = k j ∧ v' j = v j ∧ o' j = o j) (hm : ∀ j, j ≠ L → j ≠ op (dd - 1) → m' j = m j) (hmL : m' L = nI (op (dd - 1)) ∧ m' (op (dd - 1)) = nI L) (hf : ∀ x, 23880 ≤ x → x < 23880 + 6 * L → x ≠ 23880 + 6 * op (dd - 1) + 4 → f' x = f x) (hfL : f' (23880 + 6 * L + 4) = nI (op (dd - 1)) ∧ f' (23880 + 6 * op (dd - 1) + 4) = nI L) (h7 : f' 19407 = nI (L + 1)) (hI : I' 7 = nI (L + 1) ∧ I' 8 = nI C) (hc : c22' = nI C) (hd : d' = nI (dd - 1)) (hd2 : d21' = nI (dd - 1)) (hq : ∀ j, j < dd - 1 → q' j = q j ∧ q8' j = q8 j) : DInv K Y f0 (L + 1) C (dd - 1) (fun j => if j = L then R else if j = op (dd - 1) then (fun i => if i = 5 then L else D j i) else D j) op I' d' w' y' k' v' o' m' q' f' q8' d21' c22' := by
  have nums := h.nums
  obtain ⟨u1, u2, u3, u4⟩ := h.opn (dd - 1) (by omega)
  generalize ho : op (dd - 1) = O at *
  have DL : ∀ j, j ≠ L → j ≠ O → (fun j => if j = L then R else if j = O then (fun i => if i = 5 then L else D j i) else D j) j = D j := fun j hj hj2 => by simp only [if_neg hj, if_neg hj2]
  have DLL : (fun j => if j = L then R else if j = O then (fun i => if i = 5 then L else D j i) else D j) L = R := if_pos rfl
  have DO : (fun j => if j = L then R else if j = O then (fun i => if i = 5 then L else D j i) else D j) O = (fun i => if i = 5 then L else D O i) := by simp only [if_neg (show O ≠ L by omega), if_true]
  have D0 : ∀ j, j ≠ L → (fun j => if j = L then R else if j = O then (fun i => if i = 5 then L else D j i) else D j) j 0 = D j 0 := fun j hj => by
    by_cases e : j = O
    · rw [e, DO]; rfl
    · rw [DL j hj e]
  have top : ∀ i, i < dd - 1 → op i < O := fun i hi => by
    have := h.inc i (dd - 1) hi (by omega)
    omega
  refine ⟨⟨by omega, by omega, by omega⟩, ⟨hI.1, hI.2, hd, h7, hd2, hc⟩, fun j hj => ?_, fun a j ha hj => h.inc a j ha (by omega), fun j hj => ?_, fun j hj hoo hp => ?_, fun j hj h21 => ?_⟩
  · obtain ⟨a1, a2, a3, a4⟩ := h.opn j (by omega)
    exact ⟨(hq j hj).1.trans a1, (hq j hj).2.trans a2, by omega, by rw [D0 _ (by omega)]; exact a4⟩
  · by_cases e : j = L
    · rw [e, DLL]; exact hR
    · obtain ⟨c1, c2, c3, c4, c5⟩ := hch j e
      by_cases e2 : j = O
      · rw [e2, DO]
        rw [e2] at c1 c2 c3 c4 c5
        exact LOKd_c (h.lin O (by omega)) c1 c2 c3 c4 c5 (fun x hx4 hx => hf _ (by omega) (by omega) (by omega)) (fun i hi => if_neg hi)
      · rw [DL j e e2]
        exact LOKd_c (h.lin j (by omega)) c1 c2 c3 c4 c5 (fun x hx4 hx => hf _ (by omega) (by omega) (by omega)) (fun _ _ => rfl)
  · by_cases e : j = L
    · exfalso
      rw [e, DLL, hR0] at hoo; exact absurd hoo (by decide)
    · rw [D0 j e] at hoo
      by_cases e2 : j = O
      · rw [e2, DO]
        simp only [if_true]
        refine ⟨by omega, by omega, hR0, hR5, fun c c1 c2 c3 => ?_, hmL.2, hfL.2⟩
        have cL : c ≠ L := by omega
        have cO : c ≠ O := by omega
        rw [if_neg cL, if_neg cO] at c3 ⊢
        have cp : ∀ i, i < dd → op i ≠ c := fun i hi => by
          by_cases ei : i = dd - 1
          · rw [ei, ho]; omega
          · have := top i (by omega); omega
        obtain ⟨n1, n2, _⟩ := h.mat c (by omega) c3 cp
        exact ⟨n2, fun i hi => cp i (by omega)⟩
      · have hp2 : ∀ i, i < dd → op i ≠ j := fun i hi => by
          by_cases ei : i = dd - 1
          · rw [ei, ho]; exact fun z => e2 z.symm
          · exact hp i (by omega)
        obtain ⟨m1, m2, m3, m4, m5, m6, m7⟩ := h.mat j (by omega) hoo hp2
        have nO : D j 5 ≠ O := fun z => by
          rw [z] at m3; rw [m3] at u4; exact absurd u4 (by decide)
        rw [DL j e e2, DL (D j 5) (by omega) nO]
        refine ⟨m1, by omega, m3, m4, fun c c1 c2 c3 => ?_, (hm j e e2).trans m6, (hf _ (by omega) (by omega) (by omega)).trans m7⟩
        rw [D0 c (by omega)] at c3
        obtain ⟨n1, n2⟩ := m5 c c1 c2 c3
        have cO : c ≠ O := fun z => n2 (dd - 1) (by omega) (by rw [ho]; exact z.symm)
        rw [DL c (by omega) cO]
        exact ⟨n1, fun i hi => n2 i (by omega)⟩
  · by_cases e : j = L
    · rw [e, DLL, hR5]
      refine ⟨by omega, ?_, ?_, hmL.1, hfL.1, fun i hi => ?_⟩
      · rw [DO]; exact u4
      · rw [DO]; rfl
      · have := top i hi; omega
    · rw [D0 j e] at h21
      obtain ⟨m1, m2, m3, m4, m5, m6⟩ := h.ens j (by omega) h21
      have e2 : j ≠ O := fun z => by rw [z] at h21; rw [h21] at u4; exact absurd u4 (by decide)
      have nO : D j 5 ≠ O := fun z => m6 (dd - 1) (by omega) (by rw [ho]; exact z.symm)
      rw [DL j e e2, DL (D j 5) (by omega) nO]
      exact ⟨m1, m2, m3, (hm j e e2).trans m4, (hf _ (by omega) (by omega) (by omega)).trans m5, fun i hi => m6 i (by omega)⟩
end
