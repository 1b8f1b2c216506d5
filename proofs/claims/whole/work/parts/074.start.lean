set_option maxRecDepth 100000 in
set_option maxHeartbeats 8000000 in
/-- THE LAW, from its entry, over a Rel that every call keeps -/
theorem whole_of {Rel : Nat → ST → ST → Prop} (S : ∀ i, i + 6 ≤ 3072 → SIM (Rel i) (Rel (i + 6))) {τ0 : ST} (hτ : f_X12_empties 0 0 s0R = some τ0) (hR0 : Rel 0 s0C τ0) {p : Program} {e : Env} {s : State} {m : MethodId} {below : List Frame} {meth : Method} {c : Code} (l : Launch) {b L : Nat} {xs : Nat → Int32} (hL : L ≤ 3072) (C0 : lw_At p s m meth c b L xs) : W p l e room_1 s m #[Value.ref b] below meth c s.heap [] 0 0 (lw_Z below #[Value.ref b] s) (entryFrame m ([Value.ref b] : List Value).toArray 4) := by
  obtain ⟨hx, hb, hr, hml, hown, hts0, hX, hbl, hlocks, hgv⟩ := id C0
  have hts : ∀ w ∈ wsL_law, w.before #[Value.ref b] s = true := fun w h => hts0 w (wsL_in w h)
  obtain ⟨c0, i0, k0⟩ := u_known (C := RX0) (T := TX0) (N := 2) (n := 2) hts inlX0 (hts _ (rL3 _ (List.mem_of_getElem? (i := 0) rfl)))
  obtain ⟨c1, i1, k1⟩ := u_known (C := RX1) (T := TX1) (N := 4) (n := 4) hts inlX1 (hts _ (rL2 _ (List.mem_of_getElem? (i := 16) rfl)))
  obtain ⟨c2, i2, k2⟩ := u_known (C := RX2) (T := TX2) (N := 9) (n := 9) hts inlX2 (hts _ (rL4 _ (List.mem_of_getElem? (i := 14) rfl)))
  obtain ⟨c3, i3, k3⟩ := u_known (C := RX3) (T := TX3) (N := 5) (n := 5) hts inlX3 (hts _ (rL2 _ (List.mem_of_getElem? (i := 4) rfl)))
  obtain ⟨c4, i4, k4⟩ := u_known (C := RX4) (T := TX4) (N := 4) (n := 4) hts inlX4 (hts _ (rL2 _ (List.mem_of_getElem? (i := 11) rfl)))
  obtain ⟨c5, i5, k5⟩ := u_known (C := RX5) (T := TX5) (N := 6) (n := 6) hts inlX5 (hts _ (rL2 _ (List.mem_of_getElem? (i := 20) rfl)))
  obtain ⟨c6, i6, k6⟩ := u_known (C := RX6) (T := TX6) (N := 12) (n := 12) hts inlX6 (hts _ (rL1 _ (List.mem_of_getElem? (i := 16) rfl)))
  obtain ⟨c7, i7, k7⟩ := u_known (C := RX7) (T := TX7) (N := 12) (n := 12) hts inlX7 (hts _ (rL4 _ (List.mem_of_getElem? (i := 10) rfl)))
  obtain ⟨c8, i8, k8⟩ := u_known (C := RX8) (T := TX8) (N := 3) (n := 3) hts inlX8 (hts _ (rL2 _ (List.mem_of_getElem? (i := 0) rfl)))
  obtain ⟨c9, i9, k9⟩ := u_known (C := RX9) (T := TX9) (N := 4) (n := 4) hts inlX9 (hts _ (rL3 _ (List.mem_of_getElem? (i := 12) rfl)))
  obtain ⟨c10, i10, k10⟩ := u_known (C := RX10) (T := TX10) (N := 12) (n := 12) hts inlX10 (hts _ (rL1 _ (List.mem_of_getElem? (i := 20) rfl)))
  obtain ⟨c11, i11, k11⟩ := u_known (C := RX11) (T := TX11) (N := 20) (n := 20) hts inlX11 (hts _ (rL1 _ (List.mem_of_getElem? (i := 1) rfl)))
  obtain ⟨c12, i12, k12⟩ := u_known (C := RX12) (T := TX12) (N := 47) (n := 47) hts inlX12 (hts _ (rL1 _ (List.mem_of_getElem? (i := 4) rfl)))
  obtain ⟨dC, dI, hKc⟩ : ∃ (dC : Nat → ClassId) (dI : Nat → Nat → Nat), ∀ (k : Nat) (q : vw_C), vwCl[k]? = some q → u_Kn s q.1 q.2.1 q.2.2 (dC k) (dI k) := by
    refine ⟨fun k => [c0, c1, c2, c3, c4, c5, c6, c7, c8, c9, c10, c11, c12].getD k c0, fun k => [i0, i1, i2, i3, i4, i5, i6, i7, i8, i9, i10, i11, i12].getD k i0, ?_⟩
    intro k q hq
    match k, hq with
    | 0, hq => cases hq; exact k0
    | 1, hq => cases hq; exact k1
    | 2, hq => cases hq; exact k2
    | 3, hq => cases hq; exact k3
    | 4, hq => cases hq; exact k4
    | 5, hq => cases hq; exact k5
    | 6, hq => cases hq; exact k6
    | 7, hq => cases hq; exact k7
    | 8, hq => cases hq; exact k8
    | 9, hq => cases hq; exact k9
    | 10, hq => cases hq; exact k10
    | 11, hq => cases hq; exact k11
    | 12, hq => cases hq; exact k12
    | k + 13, hq => simp [vwCl] at hq
  obtain ⟨a0, ka0, cm0, f0, g0, e0⟩ := Cond.arrayClass_spec (hts (.arrayClass .int) (rL3 _ (List.mem_of_getElem? (i := 3) rfl)))
  obtain ⟨a1, ka1, cm1, f1, g1, e1⟩ := Cond.arrayClass_spec (hts (.arrayClass .long) (rL5 _ (List.mem_of_getElem? (i := 8) rfl)))
  obtain ⟨a2, ka2, cm2, f2, g2, e2⟩ := Cond.arrayClass_spec (hts (.arrayClass .byte) (rL9 _ (List.mem_of_getElem? (i := 6) rfl)))
  obtain ⟨a3, ka3, cm3, f3, g3, e3⟩ := Cond.arrayClass_spec (hts (.arrayClass .boolean) (rL8 _ (List.mem_of_getElem? (i := 5) rfl)))
  obtain ⟨cm4, a4, ka4, f4, _, g4, e4, n4⟩ := Cond.arrayOver_spec (hts0 _ tb_ao.1)
  obtain ⟨cm5, a5, ka5, f5, _, g5, e5, n5⟩ := Cond.arrayOver_spec (hts0 _ tb_ao.2)
  obtain ⟨adK, adV, hSX⟩ := sx_start hgv hts0
  obtain ⟨cy, hcy0, hcyK, hcyV⟩ : ∃ cy : Nat → ClassId, (cy 0 = a0 ∧ cy 1 = a1 ∧ cy 2 = a2 ∧ cy 3 = a3 ∧ cy 4 = a4 ∧ cy 5 = a5) ∧ (∀ i, i < 15 → cy (100 + i) = adK i) ∧ (∀ i, i < 15 → cy (200 + i) = adV i) := by
    refine ⟨fun k => if k < 100 then [a0, a1, a2, a3, a4, a5].getD k a0 else if k < 200 then adK (k - 100) else adV (k - 200), ⟨rfl, rfl, rfl, rfl, rfl, rfl⟩, fun i hi => ?_, fun i hi => ?_⟩
    · show (if 100 + i < 100 then _ else if 100 + i < 200 then adK (100 + i - 100) else _) = _
      rw [if_neg (by omega), if_pos (by omega), Nat.add_sub_cancel_left]
    · show (if 200 + i < 100 then _ else if 200 + i < 200 then _ else adV (200 + i - 200)) = _
      rw [if_neg (by omega), if_neg (by omega), Nat.add_sub_cancel_left]
  obtain ⟨y0, y1, y2, y3, y4, y5⟩ := hcy0
  have hK : va_K (dC, dI) vwCl (tysP cy) s := by
    refine ⟨hKc, fun k q hq => ?_⟩
    match k, hq with
    | 0, hq => cases hq; rw [y0]; exact ⟨fun n z => ⟨fun k h => (by cases h), ka0, g0, cm0, e0⟩, f0⟩
    | 1, hq => cases hq; rw [y1]; exact ⟨fun n z => ⟨fun k h => (by cases h), ka1, g1, cm1, e1⟩, f1⟩
    | 2, hq => cases hq; rw [y2]; exact ⟨fun n z => ⟨fun k h => (by cases h), ka2, g2, cm2, e2⟩, f2⟩
    | 3, hq => cases hq; rw [y3]; exact ⟨fun n z => ⟨fun k h => (by cases h), ka3, g3, cm3, e3⟩, f3⟩
    | 4, hq => cases hq; rw [y4]; exact ⟨fun n z => ⟨fun k h => (by cases h), ka4, g4, cm4, e4⟩, ka4, cm4, g4, e4, f4, n4⟩
    | 5, hq => cases hq; rw [y5]; exact ⟨fun n z => ⟨fun k h => (by cases h), ka5, g5, cm5, e5⟩, ka5, cm5, g5, e5, f5, n5⟩
    | k + 6, hq => simp [tysP] at hq
  have hNX : NX s := ⟨fun w hw => by
    have h1 := hts0 w (tb_nx w hw)
    simp only [nxS, List.mem_cons, List.not_mem_nil, or_false] at hw
    rcases hw with rfl | rfl | rfl | rfl | rfl | rfl | rfl | rfl | rfl | rfl <;> exact va_Nw.of rfl h1, va_AO.of (hts0 _ tb_ao.1), va_AO.of (hts0 _ tb_ao.2)⟩
  have EZ : CZ p m c cL_law 4 s #[Value.ref b] RL (dC, dI) cy := ⟨⟨hx, hb, hml, hown, hts⟩, hK, hNX⟩
  have hl := lv_entry ([.ref b]) (n := 4) (Nat.le_of_ble_eq_true rfl)
  rw [lg_entry_eq]
  generalize (lg_sl ([.ref b]) ++ List.replicate (4 - (lg_sl ([.ref b])).length) Slot.unset).toArray = ls at hl ⊢
  have hl : lv_has ls 4 [(0, .ref b)] := hl
  obtain ⟨z, hz⟩ : ∃ z, s.heap.size = z := ⟨_, rfl⟩
  have hw : ZH (dC, dI) [] z 217 z s s.heap [] := ⟨fun k q h => by simp at h, ⟨fun i j p q h => by simp at h, fun k q h => by simp at h⟩, va_S.rf, hz⟩
  refine z_new (κ := 11) (C := RX11) (T := TX11) (N := 20) (fs := [.null, .null, .null, .null, .null, .null, .null, .null, .null, .null, .null, .null, .null, .null, .int 0, .long 0, .long 0, .int 0, .int 0, .int 0]) EZ hw rfl rfl inlX11 tyX11_ok (rL1 _ (List.mem_of_getElem? (i := 0) rfl)) (rL1 _ (List.mem_of_getElem? (i := 1) rfl)) (rL1 _ (List.mem_of_getElem? (i := 2) rfl)) (by decide +kernel) ⟨by omega, by omega⟩ (Nat.le_of_ble_eq_true rfl) (Nat.le_of_ble_eq_true rfl) dL_law_0 (fun H hw => ?_)
  refine lv_dup hx hb dL_law_3 rfl ?_
  have cb1 : CallB room_1 s #[Value.ref b] RL 9 yX11_init cX11_init 2 none (wU yX11_init cX11_init 2 none) (rmZ 3 193 30923) 193 30923 0 := ⟨rfl, rfl, Nat.le_of_ble_eq_true rfl, Nat.le_of_ble_eq_true rfl, wU_pay hts (rL1 _ (List.mem_of_getElem? (i := 9) rfl)), List.mem_cons_self, hts _ (rL1 _ (List.mem_of_getElem? (i := 9) rfl)), hts _ (rL1 _ (List.mem_of_getElem? (i := 2) rfl)), ⟨by decide, by decide⟩, fun sig h => (by have h2 : (parseMethodDescriptor yX11_init.desc).map (fun d => d.parameters.length) = some 0 := (by decide +kernel); rw [h] at h2; exact (Option.some.inj h2).symm), hts _ (rL1 _ (List.mem_of_getElem? (i := 7) rfl))⟩
  have hr1 := va_runI (p := p) (l := l) (e := e) (R := room_1) (below := below) (meth := meth) (H := H) (locs := []) (cells := 0 + 1) (slots := 0 + 20) (As := []) (rest := [.ref z]) (g := F0 m (3 + 1) ls [.ref z, .ref z]) EZ.1 (zc_X11_init (l := l) (D := (dC, dI)) (cy := cy) (a := z)) ⟨cb1, rfl, hts _ (rL1 _ (List.mem_of_getElem? (i := 8) rfl))⟩ (z_pre (pre := []) EZ hw) rfl rfl hl.1 rfl (lv_room (Nat.le_of_ble_eq_true rfl)) dL_law_4 ⟨Nat.le_of_ble_eq_true rfl, Nat.le_of_ble_eq_true rfl⟩
  intro T1 hT1 X1
  obtain ⟨v1, st1, t1, T2, L1, q0, X2, hL1, q1, q2, ⟨hv1, hP1, hsz1, hF1⟩, go1⟩ := hr1 T1 hT1 X1
  cases hv1
  have hF1 : H.size ≤ t1.heap.size ∧ ∀ q : Nat, q < H.size → ¬ zA z 194 q → t1.heap[q]? = H[q]? := by rw [← q0]; exact hF1
  have hH2 : T2.heap = t1.heap := q1
  have hS1 : va_S (fun q : Nat => s.heap.size ≤ q) s.heap T2.heap ([] ++ L1) := ⟨by rw [q1]; exact Nat.le_trans hw.2.2.1.1 hF1.1, fun q h1 h2 => by
      rw [q1, hF1.2 q (Nat.lt_of_lt_of_le h1 hw.2.2.1.1) (fun h => h2 (by have := h.1; omega))]
      exact hw.2.2.1.2.1 q h1 (fun h => h2 (by have := h.1; omega)), fun q hq => by
      rcases List.mem_append.mp hq with h | h
      · cases h
      · have := (hL1 q h).1; show s.heap.size ≤ q.base; omega⟩
  have hPc : va_P (dC, dI) vwCl (wsP cy LC z s0C) T2.heap := by rw [q1]; exact hP1
  have hsz2 : T2.heap.size = z + 194 := by rw [q1]; exact hsz1
  refine (fun K => by
    obtain ⟨t, a1, b1⟩ := K T2 rfl X2
    exact ⟨t, go1 t a1, b1⟩ : W p l e room_1 s m #[Value.ref b] below meth c T2.heap ([] ++ L1) (0 + 1 + 193) (0 + 20 + 30923) (lw_Z below #[Value.ref b] s) (F0 m 7 ls [.ref z]) → _) ?_
  refine lv_astore_n (lv' := [(1, .ref z), (0, .ref b)]) hx hb dL_law_7 rfl hl (by decide) rfl (fun ls hl => ?_)
  generalize ([] ++ L1 : List Loc) = locs at hS1 ⊢
  clear X1 X2 go1 hr1
  generalize T2.heap = H2 at hS1 hPc hsz2 ⊢
  have hw2 : ZH (dC, dI) [] (z + 194) 23 (z + 194) s H2 locs ∨ True := Or.inr trivial
  refine law_newM (κ := 12) (C := RX12) (T := TX12) (N := 47) (fs := [.null, .null, .int 0, .long 0, .long 0, .null, .null, .null, .null, .null, .int 0, .int 0, .int 0, .int 0, .int 0, .int 0, .int 0, .int 0, .int 0, .int 0, .null, .int 0, .int 0, .null, .null, .null, .null, .int 0, .int 0, .null, .int 0, .null, .int 0, .null, .null, .null, .int 0, .null, .null, .int 0, .int 0, .null, .null, .null, .int 0, .int 0, .int 0]) EZ hsz2 hS1 hPc (by omega) rfl rfl inlX12 tyX12_ok (rL1 _ (List.mem_of_getElem? (i := 3) rfl)) (rL1 _ (List.mem_of_getElem? (i := 4) rfl)) (rL1 _ (List.mem_of_getElem? (i := 5) rfl)) (by decide +kernel) (Nat.le_of_ble_eq_true rfl) (Nat.le_of_ble_eq_true rfl) dL_law_8 (fun H3 hPc hM hsz3 hS3 => ?_)
  refine lv_dup hx hb dL_law_11 rfl ?_
  have cb2 : CallB room_1 s #[Value.ref b] RL 12 yX12_init cX12_init 1 none (wU yX12_init cX12_init 1 none) (rmZ 2 22 37281) 22 37281 0 := ⟨rfl, rfl, Nat.le_of_ble_eq_true rfl, Nat.le_of_ble_eq_true rfl, wU_pay hts (rL8 _ (List.mem_of_getElem? (i := 22) rfl)), List.mem_cons_self, hts _ (rL8 _ (List.mem_of_getElem? (i := 22) rfl)), hts _ (rL1 _ (List.mem_of_getElem? (i := 5) rfl)), ⟨by decide, by decide⟩, fun sig h => (by have h2 : (parseMethodDescriptor yX12_init.desc).map (fun d => d.parameters.length) = some 0 := (by decide +kernel); rw [h] at h2; exact (Option.some.inj h2).symm), hts _ (rL8 _ (List.mem_of_getElem? (i := 20) rfl))⟩
  have hX1 : SX cy LC z s := hSX cy LC z (by omega) hcyK hcyV
  have hX2 : SX cy LR (z + 194) s := hSX cy LR (z + 194) (by omega) hcyK hcyV
  refine law_initM (b1 := z) (b2 := z + 194) (τ := τ0) (rest := [.ref (z + 194)]) EZ (zc_X12_init hτ) ⟨cb2, rfl, hts _ (rL8 _ (List.mem_of_getElem? (i := 21) rfl))⟩ hPc hM hsz3 hS3 ⟨by omega, by omega⟩ hX1 hX2 hl.1 rfl (Nat.le_of_ble_eq_true rfl) ⟨Nat.le_of_ble_eq_true rfl, Nat.le_of_ble_eq_true rfl⟩ dL_law_12 (fun H4 locs4 hw4 => ?_)
  refine lv_astore_n (lv' := [(2, .ref (z + 194)), (1, .ref z), (0, .ref b)]) hx hb dL_law_15 rfl hl (by decide) rfl (fun ls hl => ?_)
  refine lv_iconst (v := 0) hx hb dL_law_16 (by decide) ?_
  refine lv_istore_n (lv' := [(3, .int 0), (2, .ref (z + 194)), (1, .ref z), (0, .ref b)]) hx hb dL_law_17 rfl hl (by decide) rfl (fun ls hl => ?_)
  exact law_loop S ⟨EZ.1, hK⟩ hr hlocks ⟨Nat.le_of_ble_eq_true rfl, Nat.le_of_ble_eq_true rfl⟩ hX hbl hL (L + 1) 0 0 s0C τ0 H4 locs4 ls (by omega) (by omega) nI_0.symm hR0 hw4 (lv_sub hl [3, 2, 1, 0] rfl)
