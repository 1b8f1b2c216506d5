def k_X0_upTo_16 (s0 : Int32) (σ : ST) : Option (Int32 × ST) :=
  some (s0, σ)
set_option maxRecDepth 20000 in
set_option maxHeartbeats 1000000 in
theorem w_X0_upTo_16 {p : Program} {l : Launch} {e : Env} {s : State} {m : MethodId} {args : Array Value} {below : List Frame} {meth : Method} {c : Code} {D : va_G} {cy : Nat → ClassId} {b : Nat} (E : CX p m c cX0_upTo 1 s args RX0 D cy LC) (hr : meth.sig.returnType = some .int) (hlk : meth.locks = false) {r : Int32 × ST} {s0 : Int32} {σ : ST} {H : Heap} {locs : List Loc} {ls : Array Slot} (hm : k_X0_upTo_16 s0 σ = some r) (hw : PH D cy LC b σ s H locs) (hl : lv_has ls 1 []) : W p l e (rmD 0) s m args below meth c H locs 0 0 (MQ below (QcP D cy LC b (some (.int r.1)) r.2) args s 0 0 (inP LC b)) (F0 m 16 ls [.int s0]) := by
  have hx := E.1.1
  have hb := E.1.2.1
  unfold k_X0_upTo_16 at hm
  exact q_iret E hr hlk hw hm dX0_upTo_16
def f_X0_upTo (v0 : Int32) (σ : ST) : Option (Int32 × ST) :=
  if v0 < 30 then (k_X0_upTo_16 ((1 <<< (v0 &&& 31)) - 1) σ) else (k_X0_upTo_16 1073741823 σ)
set_option maxRecDepth 20000 in
set_option maxHeartbeats 1000000 in
theorem w_X0_upTo_0 {p : Program} {l : Launch} {e : Env} {s : State} {m : MethodId} {args : Array Value} {below : List Frame} {meth : Method} {c : Code} {D : va_G} {cy : Nat → ClassId} {b : Nat} (E : CX p m c cX0_upTo 1 s args RX0 D cy LC) (hr : meth.sig.returnType = some .int) (hlk : meth.locks = false) {r : Int32 × ST} {v0 : Int32} {σ : ST} {H : Heap} {locs : List Loc} {ls : Array Slot} (hm : f_X0_upTo v0 σ = some r) (hw : PH D cy LC b σ s H locs) (hl : lv_has ls 1 [(0, .int v0)]) : W p l e (rmD 0) s m args below meth c H locs 0 0 (MQ below (QcP D cy LC b (some (.int r.1)) r.2) args s 0 0 (inP LC b)) (F0 m 0 ls []) := by
  have hx := E.1.1
  have hb := E.1.2.1
  unfold f_X0_upTo at hm
  refine lv_iload_n hx hb dX0_upTo_0 rfl (lv_at hl 0 rfl) ?_
  refine lv_bipush (v := 30) hx hb dX0_upTo_1 (by decide) ?_
  refine lv_icmp_lt (tgt := 11) hx hb dX0_upTo_3 (by decide) (fun c1 => ?_) (fun c1 => ?_)
  · have hm := o_t c1 hm
    refine lv_iconst (v := 1) hx hb dX0_upTo_11 (by decide) ?_
    refine lv_iload_n hx hb dX0_upTo_12 rfl (lv_at hl 0 rfl) ?_
    refine lv_ishl hx hb dX0_upTo_13 ?_
    refine lv_iconst (v := 1) hx hb dX0_upTo_14 (by decide) ?_
    refine lv_isub hx hb dX0_upTo_15 ?_
    exact w_X0_upTo_16 E hr hlk hm  hw (lv_sub hl [] rfl)
  · have hm := o_f c1 hm
    refine lv_ldc hx hb E.1.2.2.2.1 (E.1.2.2.2.2 _ (rL40 _ (List.mem_of_getElem? (i := 16) rfl))) dX0_upTo_6 ?_
    refine lv_goto (tgt := 16) hx hb dX0_upTo_8 (by decide) ?_
    exact w_X0_upTo_16 E hr hlk hm  hw (lv_sub hl [] rfl)
theorem c_X0_upTo {l : Launch} {D : va_G} {cy : Nat → ClassId} {b : Nat} {v0 : Int32} {σ : ST} {r : Int32 × ST} (hm : f_X0_upTo v0 σ = some r) : Met l yX0_upTo (wU yX0_upTo cX0_upTo 1 (some .int)) (rmD 0) (PcP D cy LC b [.int v0] σ) (QcP D cy LC b (some (.int r.1)) r.2) 0 0 (inP LC b) :=
  q_met (lv := [(0, .int v0)]) LC_ok (by decide) (Nat.le_of_ble_eq_true rfl) rfl (fun _ _ _ _ _ _ _ _ _ E hr hlk hw hl => w_X0_upTo_0 E hr hlk hm hw hl)

def f_X0_copyAll (v0 : Nat) (v1 : Nat) (σ : ST) : Option (ST) :=
  (cpA LC σ (LC.2.1 v1 0) 0 (LC.2.1 v0 0) 0 (Int32.ofNat (LC.2.2.1 (LC.2.1 v0 0)))).bind fun σ1 =>
  (cpA LC σ1 (LC.2.1 v1 1) 0 (LC.2.1 v0 1) 0 (Int32.ofNat (LC.2.2.1 (LC.2.1 v0 1)))).bind fun σ2 =>
  some σ2
set_option maxRecDepth 20000 in
set_option maxHeartbeats 1000000 in
theorem w_X0_copyAll_0 {p : Program} {l : Launch} {e : Env} {s : State} {m : MethodId} {args : Array Value} {below : List Frame} {meth : Method} {c : Code} {D : va_G} {cy : Nat → ClassId} {b : Nat} (E : CX p m c cX0_copyAll 2 s args RX0 D cy LC) (hr : meth.sig.returnType = none) (hlk : meth.locks = false) {r : ST} {v0 : Nat} {v1 : Nat} {σ : ST} {H : Heap} {locs : List Loc} {ls : Array Slot} (hm : f_X0_copyAll v0 v1 σ = some r) (hv0 : LC.1 v0 = 0) (hv1 : LC.1 v1 = 0) (hw : PH D cy LC b σ s H locs) (hl : lv_has ls 2 [(0, .ref (b + v0)), (1, .ref (b + v1))]) : W p l e (rmD 1) s m args below meth c H locs 0 0 (MQ below (QcP D cy LC b none r) args s 0 0 (inP LC b)) (F0 m 0 ls []) := by
  have hx := E.1.1
  have hb := E.1.2.1
  unfold f_X0_copyAll at hm
  refine lv_aload_n hx hb dX0_copyAll_0 rfl (lv_at hl 1 rfl) ?_
  refine q_geta E hw fw_X0_9 rfl hv1 dX0_copyAll_1 ?_
  refine lv_iconst (v := 0) hx hb dX0_copyAll_4 (by decide) ?_
  refine lv_aload_n hx hb dX0_copyAll_5 rfl (lv_at hl 0 rfl) ?_
  refine q_geta E hw fw_X0_9 rfl hv0 dX0_copyAll_6 ?_
  refine lv_iconst (v := 0) hx hb dX0_copyAll_9 (by decide) ?_
  refine lv_aload_n hx hb dX0_copyAll_10 rfl (lv_at hl 0 rfl) ?_
  refine q_geta E hw fw_X0_9 rfl hv0 dX0_copyAll_11 ?_
  refine q_alenI E hw (tC_0_0 hv0) dX0_copyAll_14 ?_
  refine q_cpi E hw hm (rL47 _ (List.mem_of_getElem? (i := 0) rfl)) w_arraycopy hl.1 (tC_0_0 hv1) (tC_0_0 hv0) (by decide) (by decide) dX0_copyAll_15 (fun σ1 H locs hm hw => ?_)
  refine lv_aload_n hx hb dX0_copyAll_18 rfl (lv_at hl 1 rfl) ?_
  refine q_geta E hw fw_X0_15 rfl hv1 dX0_copyAll_19 ?_
  refine lv_iconst (v := 0) hx hb dX0_copyAll_22 (by decide) ?_
  refine lv_aload_n hx hb dX0_copyAll_23 rfl (lv_at hl 0 rfl) ?_
  refine q_geta E hw fw_X0_15 rfl hv0 dX0_copyAll_24 ?_
  refine lv_iconst (v := 0) hx hb dX0_copyAll_27 (by decide) ?_
  refine lv_aload_n hx hb dX0_copyAll_28 rfl (lv_at hl 0 rfl) ?_
  refine q_geta E hw fw_X0_15 rfl hv0 dX0_copyAll_29 ?_
  refine q_alenI E hw (tC_0_1 hv0) dX0_copyAll_32 ?_
  refine q_cpi E hw hm (rL47 _ (List.mem_of_getElem? (i := 0) rfl)) w_arraycopy hl.1 (tC_0_1 hv1) (tC_0_1 hv0) (by decide) (by decide) dX0_copyAll_33 (fun σ2 H locs hm hw => ?_)
  exact q_vret E hr hlk hw hm dX0_copyAll_36
theorem c_X0_copyAll {l : Launch} {D : va_G} {cy : Nat → ClassId} {b : Nat} {v0 : Nat} {v1 : Nat} {σ : ST} {r : ST} (hm : f_X0_copyAll v0 v1 σ = some r) (hv0 : LC.1 v0 = 0) (hv1 : LC.1 v1 = 0) : Met l yX0_copyAll (wU yX0_copyAll cX0_copyAll 2 (none)) (rmD 1) (PcP D cy LC b [.ref (b + v0), .ref (b + v1)] σ) (QcP D cy LC b none r) 0 0 (inP LC b) :=
  q_met (lv := [(0, .ref (b + v0)), (1, .ref (b + v1))]) LC_ok (by decide) (Nat.le_of_ble_eq_true rfl) rfl (fun _ _ _ _ _ _ _ _ _ E hr hlk hw hl => w_X0_copyAll_0 E hr hlk hm hv0 hv1 hw hl)

def k_J7_fill_53178_5 : Nat → Nat → Int32 → Int32 → Int32 → ST → Option (ST)
  | 0, _, _, _, _, _ => none
  | n + 1, v0, v1, v2, v3, σ => if v3 ≤ v2 then (some σ) else ((stA LC σ v0 v2 v1).bind fun σ2 =>
  k_J7_fill_53178_5 n v0 v1 (v2 + 1) v3 σ2)
set_option maxRecDepth 20000 in
set_option maxHeartbeats 1000000 in
theorem w_J7_fill_53178_5 {p : Program} {l : Launch} {e : Env} {s : State} {m : MethodId} {args : Array Value} {below : List Frame} {meth : Method} {c : Code} {D : va_G} {cy : Nat → ClassId} {b : Nat} (E : CX p m c cJ7_fill_53178 4 s args RJ7 D cy LC) (hr : meth.sig.returnType = none) (hlk : meth.locks = false) {r : ST} : ∀ (n : Nat) (v0 : Nat) (v1 : Int32) (v2 : Int32) (v3 : Int32) (σ : ST) (H : Heap) (locs : List Loc) (ls : Array Slot), k_J7_fill_53178_5 n v0 v1 v2 v3 σ = some r → LC.1 v0 = 13 → PH D cy LC b σ s H locs → lv_has ls 4 [(0, .ref (b + v0)), (1, .int v1), (2, .int v2), (3, .int v3)] → W p l e (rmD 0) s m args below meth c H locs 0 0 (MQ below (QcP D cy LC b none r) args s 0 0 (inP LC b)) (F0 m 5 ls []) := by
  have hx := E.1.1
  have hb := E.1.2.1
  intro n
  induction n with
  | zero =>
    intro v0 v1 v2 v3 σ H locs ls hm
    cases hm
  | succ n ih =>
    intro v0 v1 v2 v3 σ H locs ls hm hv0 hw hl
    rw [k_J7_fill_53178_5] at hm
    refine lv_iload_n hx hb dJ7_fill_53178_5 rfl (lv_at hl 2 rfl) ?_
    refine lv_iload_n hx hb dJ7_fill_53178_6 rfl (lv_at hl 3 rfl) ?_
    refine lv_icmp_ge (tgt := 20) hx hb dJ7_fill_53178_7 (by decide) (fun c1 => ?_) (fun c1 => ?_)
    · have hm := o_t c1 hm
      exact q_vret E hr hlk hw hm dJ7_fill_53178_20
    · have hm := o_f c1 hm
      refine lv_aload_n hx hb dJ7_fill_53178_10 rfl (lv_at hl 0 rfl) ?_
      refine lv_iload_n hx hb dJ7_fill_53178_11 rfl (lv_at hl 2 rfl) ?_
      refine lv_iload_n hx hb dJ7_fill_53178_12 rfl (lv_at hl 1 rfl) ?_
      refine q_iast E hw hv0 hm dJ7_fill_53178_13 (fun σ2 H locs hm hw => ?_)
      refine lv_iinc (v := v2 + 1) (lv' := [(2, .int (v2 + 1)), (0, .ref (b + v0)), (1, .int v1), (3, .int v3)]) hx hb dJ7_fill_53178_14 hl (k := 2) rfl rfl (by decide) rfl (fun ls hl => ?_)
      refine lv_goto (tgt := 5) hx hb dJ7_fill_53178_17 (by decide) ?_
      exact ih _ _ _ _ _ _ _ _ hm hv0 hw (lv_sub hl [1, 2, 0, 3] rfl)
def f_J7_fill_53178 (v0 : Nat) (v1 : Int32) (σ : ST) : Option (ST) :=
  k_J7_fill_53178_5 FU v0 v1 0 (Int32.ofNat (LC.2.2.1 v0)) σ
set_option maxRecDepth 20000 in
set_option maxHeartbeats 1000000 in
theorem w_J7_fill_53178_0 {p : Program} {l : Launch} {e : Env} {s : State} {m : MethodId} {args : Array Value} {below : List Frame} {meth : Method} {c : Code} {D : va_G} {cy : Nat → ClassId} {b : Nat} (E : CX p m c cJ7_fill_53178 4 s args RJ7 D cy LC) (hr : meth.sig.returnType = none) (hlk : meth.locks = false) {r : ST} {v0 : Nat} {v1 : Int32} {σ : ST} {H : Heap} {locs : List Loc} {ls : Array Slot} (hm : f_J7_fill_53178 v0 v1 σ = some r) (hv0 : LC.1 v0 = 13) (hw : PH D cy LC b σ s H locs) (hl : lv_has ls 4 [(0, .ref (b + v0)), (1, .int v1)]) : W p l e (rmD 0) s m args below meth c H locs 0 0 (MQ below (QcP D cy LC b none r) args s 0 0 (inP LC b)) (F0 m 0 ls []) := by
  have hx := E.1.1
  have hb := E.1.2.1
  unfold f_J7_fill_53178 at hm
  refine lv_iconst (v := 0) hx hb dJ7_fill_53178_0 (by decide) ?_
  refine lv_istore_n (lv' := [(2, .int 0), (0, .ref (b + v0)), (1, .int v1)]) hx hb dJ7_fill_53178_1 rfl hl (by decide) rfl (fun ls hl => ?_)
  refine lv_aload_n hx hb dJ7_fill_53178_2 rfl (lv_at hl 1 rfl) ?_
  refine q_alenI E hw hv0 dJ7_fill_53178_3 ?_
  refine lv_istore_n (lv' := [(3, .int (Int32.ofNat (LC.2.2.1 v0))), (2, .int 0), (0, .ref (b + v0)), (1, .int v1)]) hx hb dJ7_fill_53178_4 rfl hl (by decide) rfl (fun ls hl => ?_)
  exact w_J7_fill_53178_5 E hr hlk _ _ _ _ _ _ _ _ _ hm hv0 hw (lv_sub hl [2, 3, 1, 0] rfl)
theorem c_J7_fill_53178 {l : Launch} {D : va_G} {cy : Nat → ClassId} {b : Nat} {v0 : Nat} {v1 : Int32} {σ : ST} {r : ST} (hm : f_J7_fill_53178 v0 v1 σ = some r) (hv0 : LC.1 v0 = 13) : Met l yJ7_fill_53178 (wU yJ7_fill_53178 cJ7_fill_53178 4 (none)) (rmD 0) (PcP D cy LC b [.ref (b + v0), .int v1] σ) (QcP D cy LC b none r) 0 0 (inP LC b) :=
  q_met (lv := [(0, .ref (b + v0)), (1, .int v1)]) LC_ok (by decide) (Nat.le_of_ble_eq_true rfl) rfl (fun _ _ _ _ _ _ _ _ _ E hr hlk hw hl => w_J7_fill_53178_0 E hr hlk hm hv0 hw hl)

def f_X0_emptyAll (v0 : Nat) (σ : ST) : Option (ST) :=
  (f_J7_fill_53178 (LC.2.1 v0 0) 0 σ).bind fun u1 =>
  (f_J7_fill_53178 (LC.2.1 v0 1) 0 u1).bind fun u2 =>
  some u2
set_option maxRecDepth 20000 in
set_option maxHeartbeats 1000000 in
theorem w_X0_emptyAll_0 {p : Program} {l : Launch} {e : Env} {s : State} {m : MethodId} {args : Array Value} {below : List Frame} {meth : Method} {c : Code} {D : va_G} {cy : Nat → ClassId} {b : Nat} (E : CX p m c cX0_emptyAll 1 s args RX0 D cy LC) (hr : meth.sig.returnType = none) (hlk : meth.locks = false) {r : ST} {v0 : Nat} {σ : ST} {H : Heap} {locs : List Loc} {ls : Array Slot} (hm : f_X0_emptyAll v0 σ = some r) (hv0 : LC.1 v0 = 0) (hw : PH D cy LC b σ s H locs) (hl : lv_has ls 1 [(0, .ref (b + v0))]) : W p l e (rmD 1) s m args below meth c H locs 0 0 (MQ below (QcP D cy LC b none r) args s 0 0 (inP LC b)) (F0 m 0 ls []) := by
  have hx := E.1.1
  have hb := E.1.2.1
  unfold f_X0_emptyAll at hm
  refine lv_aload_n hx hb dX0_emptyAll_0 rfl (lv_at hl 0 rfl) ?_
  refine q_geta E hw fw_X0_9 rfl hv0 dX0_emptyAll_1 ?_
  refine lv_iconst (v := 0) hx hb dX0_emptyAll_4 (by decide) ?_
  refine q_cSv [] E hw hm ms_X0_25 (fun u hu => c_J7_fill_53178 hu (tC_0_0 hv0)) rfl rfl hl.1 (Nat.le_of_ble_eq_true rfl) ⟨Nat.le_of_ble_eq_true rfl, Nat.le_of_ble_eq_true rfl⟩ dX0_emptyAll_5 (fun u1 H locs hm hw => ?_)
  refine lv_aload_n hx hb dX0_emptyAll_8 rfl (lv_at hl 0 rfl) ?_
  refine q_geta E hw fw_X0_15 rfl hv0 dX0_emptyAll_9 ?_
  refine lv_iconst (v := 0) hx hb dX0_emptyAll_12 (by decide) ?_
  refine q_cSv [] E hw hm ms_X0_25 (fun u hu => c_J7_fill_53178 hu (tC_0_1 hv0)) rfl rfl hl.1 (Nat.le_of_ble_eq_true rfl) ⟨Nat.le_of_ble_eq_true rfl, Nat.le_of_ble_eq_true rfl⟩ dX0_emptyAll_13 (fun u2 H locs hm hw => ?_)
  exact q_vret E hr hlk hw hm dX0_emptyAll_16
theorem c_X0_emptyAll {l : Launch} {D : va_G} {cy : Nat → ClassId} {b : Nat} {v0 : Nat} {σ : ST} {r : ST} (hm : f_X0_emptyAll v0 σ = some r) (hv0 : LC.1 v0 = 0) : Met l yX0_emptyAll (wU yX0_emptyAll cX0_emptyAll 1 (none)) (rmD 1) (PcP D cy LC b [.ref (b + v0)] σ) (QcP D cy LC b none r) 0 0 (inP LC b) :=
  q_met (lv := [(0, .ref (b + v0))]) LC_ok (by decide) (Nat.le_of_ble_eq_true rfl) rfl (fun _ _ _ _ _ _ _ _ _ E hr hlk hw hl => w_X0_emptyAll_0 E hr hlk hm hv0 hw hl)

def f_J7_rangeCheck_23922 (v0 : Int32) (v1 : Int32) (v2 : Int32) (σ : ST) : Option (ST) :=
  if v1 ≤ v2 then (if 0 ≤ v1 then (if v2 ≤ v0 then (some σ) else (none)) else (none)) else (none)
set_option maxRecDepth 20000 in
set_option maxHeartbeats 1000000 in
theorem w_J7_rangeCheck_23922_0 {p : Program} {l : Launch} {e : Env} {s : State} {m : MethodId} {args : Array Value} {below : List Frame} {meth : Method} {c : Code} {D : va_G} {cy : Nat → ClassId} {b : Nat} (E : CX p m c cJ7_rangeCheck_23922 3 s args RJ7 D cy LC) (hr : meth.sig.returnType = none) (hlk : meth.locks = false) {r : ST} {v0 : Int32} {v1 : Int32} {v2 : Int32} {σ : ST} {H : Heap} {locs : List Loc} {ls : Array Slot} (hm : f_J7_rangeCheck_23922 v0 v1 v2 σ = some r) (hw : PH D cy LC b σ s H locs) (hl : lv_has ls 3 [(0, .int v0), (1, .int v1), (2, .int v2)]) : W p l e (rmD 0) s m args below meth c H locs 0 0 (MQ below (QcP D cy LC b none r) args s 0 0 (inP LC b)) (F0 m 0 ls []) := by
  have hx := E.1.1
  have hb := E.1.2.1
  unfold f_J7_rangeCheck_23922 at hm
  refine lv_iload_n hx hb dJ7_rangeCheck_23922_0 rfl (lv_at hl 1 rfl) ?_
  refine lv_iload_n hx hb dJ7_rangeCheck_23922_1 rfl (lv_at hl 2 rfl) ?_
  refine lv_icmp_le (tgt := 46) hx hb dJ7_rangeCheck_23922_2 (by decide) (fun c1 => ?_) (fun c1 => ?_)
  · have hm := o_t c1 hm
    refine lv_iload_n hx hb dJ7_rangeCheck_23922_46 rfl (lv_at hl 1 rfl) ?_
    refine lv_if_ge (tgt := 59) hx hb dJ7_rangeCheck_23922_47 (by decide) (fun c2 => ?_) (fun c2 => ?_)
    · have hm := o_t c2 hm
      refine lv_iload_n hx hb dJ7_rangeCheck_23922_59 rfl (lv_at hl 2 rfl) ?_
      refine lv_iload_n hx hb dJ7_rangeCheck_23922_60 rfl (lv_at hl 0 rfl) ?_
      refine lv_icmp_le (tgt := 73) hx hb dJ7_rangeCheck_23922_61 (by decide) (fun c3 => ?_) (fun c3 => ?_)
      · have hm := o_t c3 hm
        exact q_vret E hr hlk hw hm dJ7_rangeCheck_23922_73
      · have hm := o_f c3 hm
        cases hm
    · have hm := o_f c2 hm
      cases hm
  · have hm := o_f c1 hm
    cases hm
theorem c_J7_rangeCheck_23922 {l : Launch} {D : va_G} {cy : Nat → ClassId} {b : Nat} {v0 : Int32} {v1 : Int32} {v2 : Int32} {σ : ST} {r : ST} (hm : f_J7_rangeCheck_23922 v0 v1 v2 σ = some r) : Met l yJ7_rangeCheck_23922 (wU yJ7_rangeCheck_23922 cJ7_rangeCheck_23922 3 (none)) (rmD 0) (PcP D cy LC b [.int v0, .int v1, .int v2] σ) (QcP D cy LC b none r) 0 0 (inP LC b) :=
  q_met (lv := [(0, .int v0), (1, .int v1), (2, .int v2)]) LC_ok (by decide) (Nat.le_of_ble_eq_true rfl) rfl (fun _ _ _ _ _ _ _ _ _ E hr hlk hw hl => w_J7_rangeCheck_23922_0 E hr hlk hm hw hl)

def k_J7_fill_fda19_10 : Nat → Nat → Int32 → Int32 → Int32 → ST → Option (ST)
  | 0, _, _, _, _, _ => none
  | n + 1, v0, v2, v3, v4, σ => if v2 ≤ v4 then (some σ) else ((stA LC σ v0 v4 v3).bind fun σ2 =>
  k_J7_fill_fda19_10 n v0 v2 v3 (v4 + 1) σ2)
set_option maxRecDepth 20000 in
set_option maxHeartbeats 1000000 in
theorem w_J7_fill_fda19_10 {p : Program} {l : Launch} {e : Env} {s : State} {m : MethodId} {args : Array Value} {below : List Frame} {meth : Method} {c : Code} {D : va_G} {cy : Nat → ClassId} {b : Nat} (E : CX p m c cJ7_fill_fda19 5 s args RJ7 D cy LC) (hr : meth.sig.returnType = none) (hlk : meth.locks = false) {r : ST} : ∀ (n : Nat) (v0 : Nat) (v2 : Int32) (v3 : Int32) (v4 : Int32) (σ : ST) (H : Heap) (locs : List Loc) (ls : Array Slot), k_J7_fill_fda19_10 n v0 v2 v3 v4 σ = some r → LC.1 v0 = 13 → PH D cy LC b σ s H locs → lv_has ls 5 [(0, .ref (b + v0)), (2, .int v2), (3, .int v3), (4, .int v4)] → W p l e (rmD 1) s m args below meth c H locs 0 0 (MQ below (QcP D cy LC b none r) args s 0 0 (inP LC b)) (F0 m 10 ls []) := by
  have hx := E.1.1
  have hb := E.1.2.1
  intro n
  induction n with
  | zero =>
    intro v0 v2 v3 v4 σ H locs ls hm
    cases hm
  | succ n ih =>
    intro v0 v2 v3 v4 σ H locs ls hm hv0 hw hl
    rw [k_J7_fill_fda19_10] at hm
    refine lv_iload hx hb dJ7_fill_fda19_10 (lv_at hl 3 rfl) ?_
    refine lv_iload_n hx hb dJ7_fill_fda19_12 rfl (lv_at hl 1 rfl) ?_
    refine lv_icmp_ge (tgt := 27) hx hb dJ7_fill_fda19_13 (by decide) (fun c1 => ?_) (fun c1 => ?_)
    · have hm := o_t c1 hm
      exact q_vret E hr hlk hw hm dJ7_fill_fda19_27
    · have hm := o_f c1 hm
      refine lv_aload_n hx hb dJ7_fill_fda19_16 rfl (lv_at hl 0 rfl) ?_
      refine lv_iload hx hb dJ7_fill_fda19_17 (lv_at hl 3 rfl) ?_
      refine lv_iload_n hx hb dJ7_fill_fda19_19 rfl (lv_at hl 2 rfl) ?_
      refine q_iast E hw hv0 hm dJ7_fill_fda19_20 (fun σ2 H locs hm hw => ?_)
      refine lv_iinc (v := v4 + 1) (lv' := [(4, .int (v4 + 1)), (0, .ref (b + v0)), (2, .int v2), (3, .int v3)]) hx hb dJ7_fill_fda19_21 hl (k := 3) rfl rfl (by decide) rfl (fun ls hl => ?_)
      refine lv_goto (tgt := 10) hx hb dJ7_fill_fda19_24 (by decide) ?_
      exact ih _ _ _ _ _ _ _ _ hm hv0 hw (lv_sub hl [1, 2, 3, 0] rfl)
def f_J7_fill_fda19 (v0 : Nat) (v1 : Int32) (v2 : Int32) (v3 : Int32) (σ : ST) : Option (ST) :=
  (f_J7_rangeCheck_23922 (Int32.ofNat (LC.2.2.1 v0)) v1 v2 σ).bind fun u3 =>
  k_J7_fill_fda19_10 FU v0 v2 v3 v1 u3
set_option maxRecDepth 20000 in
set_option maxHeartbeats 1000000 in
theorem w_J7_fill_fda19_0 {p : Program} {l : Launch} {e : Env} {s : State} {m : MethodId} {args : Array Value} {below : List Frame} {meth : Method} {c : Code} {D : va_G} {cy : Nat → ClassId} {b : Nat} (E : CX p m c cJ7_fill_fda19 5 s args RJ7 D cy LC) (hr : meth.sig.returnType = none) (hlk : meth.locks = false) {r : ST} {v0 : Nat} {v1 : Int32} {v2 : Int32} {v3 : Int32} {σ : ST} {H : Heap} {locs : List Loc} {ls : Array Slot} (hm : f_J7_fill_fda19 v0 v1 v2 v3 σ = some r) (hv0 : LC.1 v0 = 13) (hw : PH D cy LC b σ s H locs) (hl : lv_has ls 5 [(0, .ref (b + v0)), (1, .int v1), (2, .int v2), (3, .int v3)]) : W p l e (rmD 1) s m args below meth c H locs 0 0 (MQ below (QcP D cy LC b none r) args s 0 0 (inP LC b)) (F0 m 0 ls []) := by
  have hx := E.1.1
  have hb := E.1.2.1
  unfold f_J7_fill_fda19 at hm
  refine lv_aload_n hx hb dJ7_fill_fda19_0 rfl (lv_at hl 0 rfl) ?_
  refine q_alenI E hw hv0 dJ7_fill_fda19_1 ?_
  refine lv_iload_n hx hb dJ7_fill_fda19_2 rfl (lv_at hl 1 rfl) ?_
  refine lv_iload_n hx hb dJ7_fill_fda19_3 rfl (lv_at hl 2 rfl) ?_
  refine q_cSv [] E hw hm ms_J7_13 (fun u hu => c_J7_rangeCheck_23922 hu ) rfl rfl hl.1 (Nat.le_of_ble_eq_true rfl) ⟨Nat.le_of_ble_eq_true rfl, Nat.le_of_ble_eq_true rfl⟩ dJ7_fill_fda19_4 (fun u3 H locs hm hw => ?_)
  refine lv_iload_n hx hb dJ7_fill_fda19_7 rfl (lv_at hl 1 rfl) ?_
  refine lv_istore (lv' := [(4, .int v1), (0, .ref (b + v0)), (1, .int v1), (2, .int v2), (3, .int v3)]) hx hb dJ7_fill_fda19_8 hl (by decide) rfl (fun ls hl => ?_)
  exact w_J7_fill_fda19_10 E hr hlk _ _ _ _ _ _ _ _ _ hm hv0 hw (lv_sub hl [1, 3, 4, 0] rfl)
theorem c_J7_fill_fda19 {l : Launch} {D : va_G} {cy : Nat → ClassId} {b : Nat} {v0 : Nat} {v1 : Int32} {v2 : Int32} {v3 : Int32} {σ : ST} {r : ST} (hm : f_J7_fill_fda19 v0 v1 v2 v3 σ = some r) (hv0 : LC.1 v0 = 13) : Met l yJ7_fill_fda19 (wU yJ7_fill_fda19 cJ7_fill_fda19 5 (none)) (rmD 1) (PcP D cy LC b [.ref (b + v0), .int v1, .int v2, .int v3] σ) (QcP D cy LC b none r) 0 0 (inP LC b) :=
  q_met (lv := [(0, .ref (b + v0)), (1, .int v1), (2, .int v2), (3, .int v3)]) LC_ok (by decide) (Nat.le_of_ble_eq_true rfl) rfl (fun _ _ _ _ _ _ _ _ _ E hr hlk hw hl => w_J7_fill_fda19_0 E hr hlk hm hv0 hw hl)

def f_X0_empty (v0 : Nat) (v1 : Int32) (σ : ST) : Option (ST) :=
  (f_J7_fill_fda19 (LC.2.1 v0 0) (v1 * 6) ((v1 * 6) + 6) 0 σ).bind fun u1 =>
  (f_J7_fill_fda19 (LC.2.1 v0 1) (v1 * 6) ((v1 * 6) + 6) 0 u1).bind fun u2 =>
  some u2
set_option maxRecDepth 20000 in
set_option maxHeartbeats 1000000 in
theorem w_X0_empty_0 {p : Program} {l : Launch} {e : Env} {s : State} {m : MethodId} {args : Array Value} {below : List Frame} {meth : Method} {c : Code} {D : va_G} {cy : Nat → ClassId} {b : Nat} (E : CX p m c cX0_empty 3 s args RX0 D cy LC) (hr : meth.sig.returnType = none) (hlk : meth.locks = false) {r : ST} {v0 : Nat} {v1 : Int32} {σ : ST} {H : Heap} {locs : List Loc} {ls : Array Slot} (hm : f_X0_empty v0 v1 σ = some r) (hv0 : LC.1 v0 = 0) (hw : PH D cy LC b σ s H locs) (hl : lv_has ls 3 [(0, .ref (b + v0)), (1, .int v1)]) : W p l e (rmD 2) s m args below meth c H locs 0 0 (MQ below (QcP D cy LC b none r) args s 0 0 (inP LC b)) (F0 m 0 ls []) := by
  have hx := E.1.1
  have hb := E.1.2.1
  unfold f_X0_empty at hm
  refine lv_iload_n hx hb dX0_empty_0 rfl (lv_at hl 1 rfl) ?_
  refine lv_bipush (v := 6) hx hb dX0_empty_1 (by decide) ?_
  refine lv_imul hx hb dX0_empty_3 ?_
  refine lv_istore_n (lv' := [(2, .int (v1 * 6)), (0, .ref (b + v0)), (1, .int v1)]) hx hb dX0_empty_4 rfl hl (by decide) rfl (fun ls hl => ?_)
  refine lv_aload_n hx hb dX0_empty_5 rfl (lv_at hl 1 rfl) ?_
  refine q_geta E hw fw_X0_9 rfl hv0 dX0_empty_6 ?_
  refine lv_iload_n hx hb dX0_empty_9 rfl (lv_at hl 0 rfl) ?_
  refine lv_iload_n hx hb dX0_empty_10 rfl (lv_at hl 0 rfl) ?_
  refine lv_bipush (v := 6) hx hb dX0_empty_11 (by decide) ?_
  refine lv_iadd hx hb dX0_empty_13 ?_
  refine lv_iconst (v := 0) hx hb dX0_empty_14 (by decide) ?_
  refine q_cSv [] E hw hm ms_X0_31 (fun u hu => c_J7_fill_fda19 hu (tC_0_0 hv0)) rfl rfl hl.1 (Nat.le_of_ble_eq_true rfl) ⟨Nat.le_of_ble_eq_true rfl, Nat.le_of_ble_eq_true rfl⟩ dX0_empty_15 (fun u1 H locs hm hw => ?_)
  refine lv_aload_n hx hb dX0_empty_18 rfl (lv_at hl 1 rfl) ?_
  refine q_geta E hw fw_X0_15 rfl hv0 dX0_empty_19 ?_
  refine lv_iload_n hx hb dX0_empty_22 rfl (lv_at hl 0 rfl) ?_
  refine lv_iload_n hx hb dX0_empty_23 rfl (lv_at hl 0 rfl) ?_
  refine lv_bipush (v := 6) hx hb dX0_empty_24 (by decide) ?_
  refine lv_iadd hx hb dX0_empty_26 ?_
  refine lv_iconst (v := 0) hx hb dX0_empty_27 (by decide) ?_
  refine q_cSv [] E hw hm ms_X0_31 (fun u hu => c_J7_fill_fda19 hu (tC_0_1 hv0)) rfl rfl hl.1 (Nat.le_of_ble_eq_true rfl) ⟨Nat.le_of_ble_eq_true rfl, Nat.le_of_ble_eq_true rfl⟩ dX0_empty_28 (fun u2 H locs hm hw => ?_)
  exact q_vret E hr hlk hw hm dX0_empty_31
theorem c_X0_empty {l : Launch} {D : va_G} {cy : Nat → ClassId} {b : Nat} {v0 : Nat} {v1 : Int32} {σ : ST} {r : ST} (hm : f_X0_empty v0 v1 σ = some r) (hv0 : LC.1 v0 = 0) : Met l yX0_empty (wU yX0_empty cX0_empty 3 (none)) (rmD 2) (PcP D cy LC b [.ref (b + v0), .int v1] σ) (QcP D cy LC b none r) 0 0 (inP LC b) :=
  q_met (lv := [(0, .ref (b + v0)), (1, .int v1)]) LC_ok (by decide) (Nat.le_of_ble_eq_true rfl) rfl (fun _ _ _ _ _ _ _ _ _ E hr hlk hw hl => w_X0_empty_0 E hr hlk hm hv0 hw hl)

def f_X0_copyCell (v0 : Nat) (v1 : Int32) (v2 : Nat) (v3 : Int32) (σ : ST) : Option (ST) :=
  (cpA LC σ (LC.2.1 v2 0) (v3 * 6) (LC.2.1 v0 0) (v1 * 6) 6).bind fun σ1 =>
  (cpA LC σ1 (LC.2.1 v2 1) (v3 * 6) (LC.2.1 v0 1) (v1 * 6) 6).bind fun σ2 =>
  some σ2
set_option maxRecDepth 20000 in
set_option maxHeartbeats 1000000 in
theorem w_X0_copyCell_0 {p : Program} {l : Launch} {e : Env} {s : State} {m : MethodId} {args : Array Value} {below : List Frame} {meth : Method} {c : Code} {D : va_G} {cy : Nat → ClassId} {b : Nat} (E : CX p m c cX0_copyCell 6 s args RX0 D cy LC) (hr : meth.sig.returnType = none) (hlk : meth.locks = false) {r : ST} {v0 : Nat} {v1 : Int32} {v2 : Nat} {v3 : Int32} {σ : ST} {H : Heap} {locs : List Loc} {ls : Array Slot} (hm : f_X0_copyCell v0 v1 v2 v3 σ = some r) (hv0 : LC.1 v0 = 0) (hv2 : LC.1 v2 = 0) (hw : PH D cy LC b σ s H locs) (hl : lv_has ls 6 [(0, .ref (b + v0)), (1, .int v1), (2, .ref (b + v2)), (3, .int v3)]) : W p l e (rmD 1) s m args below meth c H locs 0 0 (MQ below (QcP D cy LC b none r) args s 0 0 (inP LC b)) (F0 m 0 ls []) := by
  have hx := E.1.1
  have hb := E.1.2.1
  unfold f_X0_copyCell at hm
  refine lv_iload_n hx hb dX0_copyCell_0 rfl (lv_at hl 1 rfl) ?_
  refine lv_bipush (v := 6) hx hb dX0_copyCell_1 (by decide) ?_
  refine lv_imul hx hb dX0_copyCell_3 ?_
  refine lv_istore (lv' := [(4, .int (v1 * 6)), (0, .ref (b + v0)), (1, .int v1), (2, .ref (b + v2)), (3, .int v3)]) hx hb dX0_copyCell_4 hl (by decide) rfl (fun ls hl => ?_)
  refine lv_iload_n hx hb dX0_copyCell_6 rfl (lv_at hl 4 rfl) ?_
  refine lv_bipush (v := 6) hx hb dX0_copyCell_7 (by decide) ?_
  refine lv_imul hx hb dX0_copyCell_9 ?_
  refine lv_istore (lv' := [(5, .int (v3 * 6)), (4, .int (v1 * 6)), (0, .ref (b + v0)), (1, .int v1), (2, .ref (b + v2)), (3, .int v3)]) hx hb dX0_copyCell_10 hl (by decide) rfl (fun ls hl => ?_)
  refine lv_aload_n hx hb dX0_copyCell_12 rfl (lv_at hl 4 rfl) ?_
  refine q_geta E hw fw_X0_9 rfl hv2 dX0_copyCell_13 ?_
  refine lv_iload hx hb dX0_copyCell_16 (lv_at hl 0 rfl) ?_
  refine lv_aload_n hx hb dX0_copyCell_18 rfl (lv_at hl 2 rfl) ?_
  refine q_geta E hw fw_X0_9 rfl hv0 dX0_copyCell_19 ?_
  refine lv_iload hx hb dX0_copyCell_22 (lv_at hl 1 rfl) ?_
  refine lv_bipush (v := 6) hx hb dX0_copyCell_24 (by decide) ?_
  refine q_cpi E hw hm (rL47 _ (List.mem_of_getElem? (i := 0) rfl)) w_arraycopy hl.1 (tC_0_0 hv2) (tC_0_0 hv0) (by decide) (by decide) dX0_copyCell_26 (fun σ1 H locs hm hw => ?_)
  refine lv_aload_n hx hb dX0_copyCell_29 rfl (lv_at hl 4 rfl) ?_
  refine q_geta E hw fw_X0_15 rfl hv2 dX0_copyCell_30 ?_
  refine lv_iload hx hb dX0_copyCell_33 (lv_at hl 0 rfl) ?_
  refine lv_aload_n hx hb dX0_copyCell_35 rfl (lv_at hl 2 rfl) ?_
  refine q_geta E hw fw_X0_15 rfl hv0 dX0_copyCell_36 ?_
  refine lv_iload hx hb dX0_copyCell_39 (lv_at hl 1 rfl) ?_
  refine lv_bipush (v := 6) hx hb dX0_copyCell_41 (by decide) ?_
  refine q_cpi E hw hm (rL47 _ (List.mem_of_getElem? (i := 0) rfl)) w_arraycopy hl.1 (tC_0_1 hv2) (tC_0_1 hv0) (by decide) (by decide) dX0_copyCell_43 (fun σ2 H locs hm hw => ?_)
  exact q_vret E hr hlk hw hm dX0_copyCell_46
theorem c_X0_copyCell {l : Launch} {D : va_G} {cy : Nat → ClassId} {b : Nat} {v0 : Nat} {v1 : Int32} {v2 : Nat} {v3 : Int32} {σ : ST} {r : ST} (hm : f_X0_copyCell v0 v1 v2 v3 σ = some r) (hv0 : LC.1 v0 = 0) (hv2 : LC.1 v2 = 0) : Met l yX0_copyCell (wU yX0_copyCell cX0_copyCell 6 (none)) (rmD 1) (PcP D cy LC b [.ref (b + v0), .int v1, .ref (b + v2), .int v3] σ) (QcP D cy LC b none r) 0 0 (inP LC b) :=
  q_met (lv := [(0, .ref (b + v0)), (1, .int v1), (2, .ref (b + v2)), (3, .int v3)]) LC_ok (by decide) (Nat.le_of_ble_eq_true rfl) rfl (fun _ _ _ _ _ _ _ _ _ E hr hlk hw hl => w_X0_copyCell_0 E hr hlk hm hv0 hv2 hw hl)

def f_X0_copyCounts (v0 : Nat) (v1 : Int32) (v2 : Nat) (v3 : Int32) (σ : ST) : Option (ST) :=
  (cpA LC σ (LC.2.1 v2 1) (v3 * 6) (LC.2.1 v0 1) (v1 * 6) 6).bind fun σ1 =>
  some σ1
set_option maxRecDepth 20000 in
set_option maxHeartbeats 1000000 in
theorem w_X0_copyCounts_0 {p : Program} {l : Launch} {e : Env} {s : State} {m : MethodId} {args : Array Value} {below : List Frame} {meth : Method} {c : Code} {D : va_G} {cy : Nat → ClassId} {b : Nat} (E : CX p m c cX0_copyCounts 4 s args RX0 D cy LC) (hr : meth.sig.returnType = none) (hlk : meth.locks = false) {r : ST} {v0 : Nat} {v1 : Int32} {v2 : Nat} {v3 : Int32} {σ : ST} {H : Heap} {locs : List Loc} {ls : Array Slot} (hm : f_X0_copyCounts v0 v1 v2 v3 σ = some r) (hv0 : LC.1 v0 = 0) (hv2 : LC.1 v2 = 0) (hw : PH D cy LC b σ s H locs) (hl : lv_has ls 4 [(0, .ref (b + v0)), (1, .int v1), (2, .ref (b + v2)), (3, .int v3)]) : W p l e (rmD 1) s m args below meth c H locs 0 0 (MQ below (QcP D cy LC b none r) args s 0 0 (inP LC b)) (F0 m 0 ls []) := by
  have hx := E.1.1
  have hb := E.1.2.1
  unfold f_X0_copyCounts at hm
  refine lv_aload_n hx hb dX0_copyCounts_0 rfl (lv_at hl 2 rfl) ?_
  refine q_geta E hw fw_X0_15 rfl hv2 dX0_copyCounts_1 ?_
  refine lv_iload_n hx hb dX0_copyCounts_4 rfl (lv_at hl 3 rfl) ?_
  refine lv_bipush (v := 6) hx hb dX0_copyCounts_5 (by decide) ?_
  refine lv_imul hx hb dX0_copyCounts_7 ?_
  refine lv_aload_n hx hb dX0_copyCounts_8 rfl (lv_at hl 0 rfl) ?_
  refine q_geta E hw fw_X0_15 rfl hv0 dX0_copyCounts_9 ?_
  refine lv_iload_n hx hb dX0_copyCounts_12 rfl (lv_at hl 1 rfl) ?_
  refine lv_bipush (v := 6) hx hb dX0_copyCounts_13 (by decide) ?_
  refine lv_imul hx hb dX0_copyCounts_15 ?_
  refine lv_bipush (v := 6) hx hb dX0_copyCounts_16 (by decide) ?_
  refine q_cpi E hw hm (rL47 _ (List.mem_of_getElem? (i := 0) rfl)) w_arraycopy hl.1 (tC_0_1 hv2) (tC_0_1 hv0) (by decide) (by decide) dX0_copyCounts_18 (fun σ1 H locs hm hw => ?_)
  exact q_vret E hr hlk hw hm dX0_copyCounts_21
theorem c_X0_copyCounts {l : Launch} {D : va_G} {cy : Nat → ClassId} {b : Nat} {v0 : Nat} {v1 : Int32} {v2 : Nat} {v3 : Int32} {σ : ST} {r : ST} (hm : f_X0_copyCounts v0 v1 v2 v3 σ = some r) (hv0 : LC.1 v0 = 0) (hv2 : LC.1 v2 = 0) : Met l yX0_copyCounts (wU yX0_copyCounts cX0_copyCounts 4 (none)) (rmD 1) (PcP D cy LC b [.ref (b + v0), .int v1, .ref (b + v2), .int v3] σ) (QcP D cy LC b none r) 0 0 (inP LC b) :=
  q_met (lv := [(0, .ref (b + v0)), (1, .int v1), (2, .ref (b + v2)), (3, .int v3)]) LC_ok (by decide) (Nat.le_of_ble_eq_true rfl) rfl (fun _ _ _ _ _ _ _ _ _ E hr hlk hw hl => w_X0_copyCounts_0 E hr hlk hm hv0 hv2 hw hl)

def k_X0_join_133 (rec15 : Nat → Nat → Int32 → Int32 → Int32 → ST → Option (ST)) (v0 : Nat) (v2 : Nat) (v4 : Int32) (v5 : Int32) (v6 : Int32) (σ : ST) : Option (ST) :=
  rec15 v0 v2 v4 v5 (v6 + 1) σ
set_option maxRecDepth 20000 in
set_option maxHeartbeats 1000000 in
theorem w_X0_join_133 {p : Program} {l : Launch} {e : Env} {s : State} {m : MethodId} {args : Array Value} {below : List Frame} {meth : Method} {c : Code} {D : va_G} {cy : Nat → ClassId} {b : Nat} (E : CX p m c cX0_join 11 s args RX0 D cy LC) (hr : meth.sig.returnType = none) (hlk : meth.locks = false) {r : ST} {rec15 : Nat → Nat → Int32 → Int32 → Int32 → ST → Option (ST)} (hrec15 : ∀ (v0 : Nat) (v2 : Nat) (v4 : Int32) (v5 : Int32) (v6 : Int32) (σ : ST) (H : Heap) (locs : List Loc) (ls : Array Slot), rec15 v0 v2 v4 v5 v6 σ = some r → LC.1 v0 = 0 → LC.1 v2 = 0 → PH D cy LC b σ s H locs → lv_has ls 11 [(0, .ref (b + v0)), (2, .ref (b + v2)), (4, .int v4), (5, .int v5), (6, .int v6)] → W p l e (rmD 1) s m args below meth c H locs 0 0 (MQ below (QcP D cy LC b none r) args s 0 0 (inP LC b)) (F0 m 15 ls [])) {v0 : Nat} {v2 : Nat} {v4 : Int32} {v5 : Int32} {v6 : Int32} {σ : ST} {H : Heap} {locs : List Loc} {ls : Array Slot} (hm : k_X0_join_133 rec15 v0 v2 v4 v5 v6 σ = some r) (hv0 : LC.1 v0 = 0) (hv2 : LC.1 v2 = 0) (hw : PH D cy LC b σ s H locs) (hl : lv_has ls 11 [(0, .ref (b + v0)), (2, .ref (b + v2)), (4, .int v4), (5, .int v5), (6, .int v6)]) : W p l e (rmD 1) s m args below meth c H locs 0 0 (MQ below (QcP D cy LC b none r) args s 0 0 (inP LC b)) (F0 m 133 ls []) := by
  have hx := E.1.1
  have hb := E.1.2.1
  unfold k_X0_join_133 at hm
  refine lv_iinc (v := v6 + 1) (lv' := [(6, .int (v6 + 1)), (0, .ref (b + v0)), (2, .ref (b + v2)), (4, .int v4), (5, .int v5)]) hx hb dX0_join_133 hl (k := 4) rfl rfl (by decide) rfl (fun ls hl => ?_)
  refine lv_goto (tgt := 15) hx hb dX0_join_136 (by decide) ?_
  exact hrec15 _ _ _ _ _ _ _ _ _ hm hv0 hv2 hw (lv_sub hl [1, 2, 3, 4, 0] rfl)
def k_X0_join_114 (rec15 : Nat → Nat → Int32 → Int32 → Int32 → ST → Option (ST)) (v0 : Nat) (v2 : Nat) (v4 : Int32) (v5 : Int32) (v6 : Int32) (v9 : Int32) (v10 : Int32) (σ : ST) : Option (ST) :=
  if v10 ≤ v9 then (k_X0_join_133 rec15 v0 v2 v4 v5 v6 σ) else ((stA LC σ (LC.2.1 v0 1) (v4 + v6) v10).bind fun σ2 =>
  k_X0_join_133 rec15 v0 v2 v4 v5 v6 σ2)
set_option maxRecDepth 20000 in
set_option maxHeartbeats 1000000 in
theorem w_X0_join_114 {p : Program} {l : Launch} {e : Env} {s : State} {m : MethodId} {args : Array Value} {below : List Frame} {meth : Method} {c : Code} {D : va_G} {cy : Nat → ClassId} {b : Nat} (E : CX p m c cX0_join 11 s args RX0 D cy LC) (hr : meth.sig.returnType = none) (hlk : meth.locks = false) {r : ST} {rec15 : Nat → Nat → Int32 → Int32 → Int32 → ST → Option (ST)} (hrec15 : ∀ (v0 : Nat) (v2 : Nat) (v4 : Int32) (v5 : Int32) (v6 : Int32) (σ : ST) (H : Heap) (locs : List Loc) (ls : Array Slot), rec15 v0 v2 v4 v5 v6 σ = some r → LC.1 v0 = 0 → LC.1 v2 = 0 → PH D cy LC b σ s H locs → lv_has ls 11 [(0, .ref (b + v0)), (2, .ref (b + v2)), (4, .int v4), (5, .int v5), (6, .int v6)] → W p l e (rmD 1) s m args below meth c H locs 0 0 (MQ below (QcP D cy LC b none r) args s 0 0 (inP LC b)) (F0 m 15 ls [])) {v0 : Nat} {v2 : Nat} {v4 : Int32} {v5 : Int32} {v6 : Int32} {v9 : Int32} {v10 : Int32} {σ : ST} {H : Heap} {locs : List Loc} {ls : Array Slot} (hm : k_X0_join_114 rec15 v0 v2 v4 v5 v6 v9 v10 σ = some r) (hv0 : LC.1 v0 = 0) (hv2 : LC.1 v2 = 0) (hw : PH D cy LC b σ s H locs) (hl : lv_has ls 11 [(0, .ref (b + v0)), (2, .ref (b + v2)), (4, .int v4), (5, .int v5), (6, .int v6), (9, .int v9), (10, .int v10)]) : W p l e (rmD 1) s m args below meth c H locs 0 0 (MQ below (QcP D cy LC b none r) args s 0 0 (inP LC b)) (F0 m 114 ls []) := by
  have hx := E.1.1
  have hb := E.1.2.1
  unfold k_X0_join_114 at hm
  refine lv_iload hx hb dX0_join_114 (lv_at hl 6 rfl) ?_
  refine lv_iload hx hb dX0_join_116 (lv_at hl 5 rfl) ?_
  refine lv_icmp_le (tgt := 133) hx hb dX0_join_118 (by decide) (fun c1 => ?_) (fun c1 => ?_)
  · have hm := o_t c1 hm
    exact w_X0_join_133 E hr hlk hrec15 hm hv0 hv2 hw (lv_sub hl [0, 1, 2, 3, 4] rfl)
  · have hm := o_f c1 hm
    refine lv_aload_n hx hb dX0_join_121 rfl (lv_at hl 0 rfl) ?_
    refine q_geta E hw fw_X0_15 rfl hv0 dX0_join_122 ?_
    refine lv_iload hx hb dX0_join_125 (lv_at hl 2 rfl) ?_
    refine lv_iload hx hb dX0_join_127 (lv_at hl 4 rfl) ?_
    refine lv_iadd hx hb dX0_join_129 ?_
    refine lv_iload hx hb dX0_join_130 (lv_at hl 6 rfl) ?_
    refine q_iast E hw (tC_0_1 hv0) hm dX0_join_132 (fun σ2 H locs hm hw => ?_)
    exact w_X0_join_133 E hr hlk hrec15 hm hv0 hv2 hw (lv_sub hl [0, 1, 2, 3, 4] rfl)
def k_X0_join_15 : Nat → Nat → Nat → Int32 → Int32 → Int32 → ST → Option (ST)
  | 0, _, _, _, _, _, _ => none
  | n + 1, v0, v2, v4, v5, v6, σ => if 6 ≤ v6 then (some σ) else ((ldA LC σ (LC.2.1 v0 0) (v4 + v6)).bind fun a4 =>
  (ldA LC σ (LC.2.1 v2 0) (v5 + v6)).bind fun a5 =>
  (ldA LC σ (LC.2.1 v0 1) (v4 + v6)).bind fun a6 =>
  (ldA LC σ (LC.2.1 v2 1) (v5 + v6)).bind fun a7 =>
  if a4 = a5 then (k_X0_join_114 (k_X0_join_15 n) v0 v2 v4 v5 v6 a6 a7 σ) else ((f_X0_upTo a7 σ).bind fun u9 =>
  (f_X0_upTo a6 u9.2).bind fun u10 =>
  (stA LC u10.2 (LC.2.1 v0 0) (v4 + v6) (((a4 &&& a5) ||| (a4 &&& (u9.1 ^^^ (-1)))) ||| (a5 &&& (u10.1 ^^^ (-1))))).bind fun σ11 =>
  k_X0_join_114 (k_X0_join_15 n) v0 v2 v4 v5 v6 a6 a7 σ11))
set_option maxRecDepth 20000 in
set_option maxHeartbeats 1000000 in
theorem w_X0_join_15 {p : Program} {l : Launch} {e : Env} {s : State} {m : MethodId} {args : Array Value} {below : List Frame} {meth : Method} {c : Code} {D : va_G} {cy : Nat → ClassId} {b : Nat} (E : CX p m c cX0_join 11 s args RX0 D cy LC) (hr : meth.sig.returnType = none) (hlk : meth.locks = false) {r : ST} : ∀ (n : Nat) (v0 : Nat) (v2 : Nat) (v4 : Int32) (v5 : Int32) (v6 : Int32) (σ : ST) (H : Heap) (locs : List Loc) (ls : Array Slot), k_X0_join_15 n v0 v2 v4 v5 v6 σ = some r → LC.1 v0 = 0 → LC.1 v2 = 0 → PH D cy LC b σ s H locs → lv_has ls 11 [(0, .ref (b + v0)), (2, .ref (b + v2)), (4, .int v4), (5, .int v5), (6, .int v6)] → W p l e (rmD 1) s m args below meth c H locs 0 0 (MQ below (QcP D cy LC b none r) args s 0 0 (inP LC b)) (F0 m 15 ls []) := by
  have hx := E.1.1
  have hb := E.1.2.1
  intro n
  induction n with
  | zero =>
    intro v0 v2 v4 v5 v6 σ H locs ls hm
    cases hm
  | succ n ih =>
    intro v0 v2 v4 v5 v6 σ H locs ls hm hv0 hv2 hw hl
    rw [k_X0_join_15] at hm
    refine lv_iload hx hb dX0_join_15 (lv_at hl 4 rfl) ?_
    refine lv_bipush (v := 6) hx hb dX0_join_17 (by decide) ?_
    refine lv_icmp_ge (tgt := 139) hx hb dX0_join_19 (by decide) (fun c3 => ?_) (fun c3 => ?_)
    · have hm := o_t c3 hm
      exact q_vret E hr hlk hw hm dX0_join_139
    · have hm := o_f c3 hm
      refine lv_aload_n hx hb dX0_join_22 rfl (lv_at hl 0 rfl) ?_
      refine q_geta E hw fw_X0_9 rfl hv0 dX0_join_23 ?_
      refine lv_iload hx hb dX0_join_26 (lv_at hl 2 rfl) ?_
      refine lv_iload hx hb dX0_join_28 (lv_at hl 4 rfl) ?_
      refine lv_iadd hx hb dX0_join_30 ?_
      refine q_iald E hw (tC_0_0 hv0) hm dX0_join_31 (fun a4 hm => ?_)
      refine lv_istore (lv' := [(7, .int a4), (0, .ref (b + v0)), (2, .ref (b + v2)), (4, .int v4), (5, .int v5), (6, .int v6)]) hx hb dX0_join_32 hl (by decide) rfl (fun ls hl => ?_)
      refine lv_aload_n hx hb dX0_join_34 rfl (lv_at hl 2 rfl) ?_
      refine q_geta E hw fw_X0_9 rfl hv2 dX0_join_35 ?_
      refine lv_iload hx hb dX0_join_38 (lv_at hl 4 rfl) ?_
      refine lv_iload hx hb dX0_join_40 (lv_at hl 5 rfl) ?_
      refine lv_iadd hx hb dX0_join_42 ?_
      refine q_iald E hw (tC_0_0 hv2) hm dX0_join_43 (fun a5 hm => ?_)
      refine lv_istore (lv' := [(8, .int a5), (7, .int a4), (0, .ref (b + v0)), (2, .ref (b + v2)), (4, .int v4), (5, .int v5), (6, .int v6)]) hx hb dX0_join_44 hl (by decide) rfl (fun ls hl => ?_)
      refine lv_aload_n hx hb dX0_join_46 rfl (lv_at hl 2 rfl) ?_
      refine q_geta E hw fw_X0_15 rfl hv0 dX0_join_47 ?_
      refine lv_iload hx hb dX0_join_50 (lv_at hl 4 rfl) ?_
      refine lv_iload hx hb dX0_join_52 (lv_at hl 6 rfl) ?_
      refine lv_iadd hx hb dX0_join_54 ?_
      refine q_iald E hw (tC_0_1 hv0) hm dX0_join_55 (fun a6 hm => ?_)
      refine lv_istore (lv' := [(9, .int a6), (8, .int a5), (7, .int a4), (0, .ref (b + v0)), (2, .ref (b + v2)), (4, .int v4), (5, .int v5), (6, .int v6)]) hx hb dX0_join_56 hl (by decide) rfl (fun ls hl => ?_)
      refine lv_aload_n hx hb dX0_join_58 rfl (lv_at hl 4 rfl) ?_
      refine q_geta E hw fw_X0_15 rfl hv2 dX0_join_59 ?_
      refine lv_iload hx hb dX0_join_62 (lv_at hl 6 rfl) ?_
      refine lv_iload hx hb dX0_join_64 (lv_at hl 7 rfl) ?_
      refine lv_iadd hx hb dX0_join_66 ?_
      refine q_iald E hw (tC_0_1 hv2) hm dX0_join_67 (fun a7 hm => ?_)
      refine lv_istore (lv' := [(10, .int a7), (9, .int a6), (8, .int a5), (7, .int a4), (0, .ref (b + v0)), (2, .ref (b + v2)), (4, .int v4), (5, .int v5), (6, .int v6)]) hx hb dX0_join_68 hl (by decide) rfl (fun ls hl => ?_)
      refine lv_iload hx hb dX0_join_70 (lv_at hl 3 rfl) ?_
      refine lv_iload hx hb dX0_join_72 (lv_at hl 2 rfl) ?_
      refine lv_icmp_eq (tgt := 114) hx hb dX0_join_74 (by decide) (fun c8 => ?_) (fun c8 => ?_)
      · have hm := o_t c8 hm
        exact w_X0_join_114 E hr hlk ih hm hv0 hv2 hw (lv_sub hl [4, 5, 6, 7, 8, 1, 0] rfl)
      · have hm := o_f c8 hm
        refine lv_aload_n hx hb dX0_join_77 rfl (lv_at hl 4 rfl) ?_
        refine q_geta E hw fw_X0_9 rfl hv0 dX0_join_78 ?_
        refine lv_iload hx hb dX0_join_81 (lv_at hl 6 rfl) ?_
        refine lv_iload hx hb dX0_join_83 (lv_at hl 8 rfl) ?_
        refine lv_iadd hx hb dX0_join_85 ?_
        refine lv_iload hx hb dX0_join_86 (lv_at hl 3 rfl) ?_
        refine lv_iload hx hb dX0_join_88 (lv_at hl 2 rfl) ?_
        refine lv_iand hx hb dX0_join_90 ?_
        refine lv_iload hx hb dX0_join_91 (lv_at hl 3 rfl) ?_
        refine lv_iload hx hb dX0_join_93 (lv_at hl 0 rfl) ?_
        refine q_cSi [.int a4, .int (a4 &&& a5), .int (v4 + v6), .ref (b + (LC.2.1 v0 0))] E hw hm ms_X0_34 (fun u hu => c_X0_upTo hu ) rfl rfl hl.1 (Nat.le_of_ble_eq_true rfl) ⟨Nat.le_of_ble_eq_true rfl, Nat.le_of_ble_eq_true rfl⟩ dX0_join_95 (fun u9 H locs hm hw => ?_)
        refine lv_iconst (v := (-1)) hx hb dX0_join_98 (by decide) ?_
        refine lv_ixor hx hb dX0_join_99 ?_
        refine lv_iand hx hb dX0_join_100 ?_
        refine lv_ior hx hb dX0_join_101 ?_
        refine lv_iload hx hb dX0_join_102 (lv_at hl 2 rfl) ?_
        refine lv_iload hx hb dX0_join_104 (lv_at hl 1 rfl) ?_
        refine q_cSi [.int a5, .int ((a4 &&& a5) ||| (a4 &&& (u9.1 ^^^ (-1)))), .int (v4 + v6), .ref (b + (LC.2.1 v0 0))] E hw hm ms_X0_34 (fun u hu => c_X0_upTo hu ) rfl rfl hl.1 (Nat.le_of_ble_eq_true rfl) ⟨Nat.le_of_ble_eq_true rfl, Nat.le_of_ble_eq_true rfl⟩ dX0_join_106 (fun u10 H locs hm hw => ?_)
        refine lv_iconst (v := (-1)) hx hb dX0_join_109 (by decide) ?_
        refine lv_ixor hx hb dX0_join_110 ?_
        refine lv_iand hx hb dX0_join_111 ?_
        refine lv_ior hx hb dX0_join_112 ?_
        refine q_iast E hw (tC_0_0 hv0) hm dX0_join_113 (fun σ11 H locs hm hw => ?_)
        exact w_X0_join_114 E hr hlk ih hm hv0 hv2 hw (lv_sub hl [4, 5, 6, 7, 8, 1, 0] rfl)
def f_X0_join (v0 : Nat) (v1 : Int32) (v2 : Nat) (v3 : Int32) (σ : ST) : Option (ST) :=
  k_X0_join_15 FU v0 v2 (v1 * 6) (v3 * 6) 0 σ
set_option maxRecDepth 20000 in
set_option maxHeartbeats 1000000 in
theorem w_X0_join_0 {p : Program} {l : Launch} {e : Env} {s : State} {m : MethodId} {args : Array Value} {below : List Frame} {meth : Method} {c : Code} {D : va_G} {cy : Nat → ClassId} {b : Nat} (E : CX p m c cX0_join 11 s args RX0 D cy LC) (hr : meth.sig.returnType = none) (hlk : meth.locks = false) {r : ST} {v0 : Nat} {v1 : Int32} {v2 : Nat} {v3 : Int32} {σ : ST} {H : Heap} {locs : List Loc} {ls : Array Slot} (hm : f_X0_join v0 v1 v2 v3 σ = some r) (hv0 : LC.1 v0 = 0) (hv2 : LC.1 v2 = 0) (hw : PH D cy LC b σ s H locs) (hl : lv_has ls 11 [(0, .ref (b + v0)), (1, .int v1), (2, .ref (b + v2)), (3, .int v3)]) : W p l e (rmD 1) s m args below meth c H locs 0 0 (MQ below (QcP D cy LC b none r) args s 0 0 (inP LC b)) (F0 m 0 ls []) := by
  have hx := E.1.1
  have hb := E.1.2.1
  unfold f_X0_join at hm
  refine lv_iload_n hx hb dX0_join_0 rfl (lv_at hl 1 rfl) ?_
  refine lv_bipush (v := 6) hx hb dX0_join_1 (by decide) ?_
  refine lv_imul hx hb dX0_join_3 ?_
  refine lv_istore (lv' := [(4, .int (v1 * 6)), (0, .ref (b + v0)), (1, .int v1), (2, .ref (b + v2)), (3, .int v3)]) hx hb dX0_join_4 hl (by decide) rfl (fun ls hl => ?_)
  refine lv_iload_n hx hb dX0_join_6 rfl (lv_at hl 4 rfl) ?_
  refine lv_bipush (v := 6) hx hb dX0_join_7 (by decide) ?_
  refine lv_imul hx hb dX0_join_9 ?_
  refine lv_istore (lv' := [(5, .int (v3 * 6)), (4, .int (v1 * 6)), (0, .ref (b + v0)), (1, .int v1), (2, .ref (b + v2)), (3, .int v3)]) hx hb dX0_join_10 hl (by decide) rfl (fun ls hl => ?_)
  refine lv_iconst (v := 0) hx hb dX0_join_12 (by decide) ?_
  refine lv_istore (lv' := [(6, .int 0), (5, .int (v3 * 6)), (4, .int (v1 * 6)), (0, .ref (b + v0)), (1, .int v1), (2, .ref (b + v2)), (3, .int v3)]) hx hb dX0_join_13 hl (by decide) rfl (fun ls hl => ?_)
  exact w_X0_join_15 E hr hlk _ _ _ _ _ _ _ _ _ _ hm hv0 hv2 hw (lv_sub hl [3, 5, 2, 1, 0] rfl)
theorem c_X0_join {l : Launch} {D : va_G} {cy : Nat → ClassId} {b : Nat} {v0 : Nat} {v1 : Int32} {v2 : Nat} {v3 : Int32} {σ : ST} {r : ST} (hm : f_X0_join v0 v1 v2 v3 σ = some r) (hv0 : LC.1 v0 = 0) (hv2 : LC.1 v2 = 0) : Met l yX0_join (wU yX0_join cX0_join 11 (none)) (rmD 1) (PcP D cy LC b [.ref (b + v0), .int v1, .ref (b + v2), .int v3] σ) (QcP D cy LC b none r) 0 0 (inP LC b) :=
  q_met (lv := [(0, .ref (b + v0)), (1, .int v1), (2, .ref (b + v2)), (3, .int v3)]) LC_ok (by decide) (Nat.le_of_ble_eq_true rfl) rfl (fun _ _ _ _ _ _ _ _ _ E hr hlk hw hl => w_X0_join_0 E hr hlk hm hv0 hv2 hw hl)

def k_X0_isSame_68 (σ : ST) : Option (Int32 × ST) :=
  (ckZ 0).bind fun z => some (z, σ)
set_option maxRecDepth 20000 in
set_option maxHeartbeats 1000000 in
theorem w_X0_isSame_68 {p : Program} {l : Launch} {e : Env} {s : State} {m : MethodId} {args : Array Value} {below : List Frame} {meth : Method} {c : Code} {D : va_G} {cy : Nat → ClassId} {b : Nat} (E : CX p m c cX0_isSame 7 s args RX0 D cy LC) (hr : meth.sig.returnType = some .boolean) (hlk : meth.locks = false) {r : Int32 × ST} {σ : ST} {H : Heap} {locs : List Loc} {ls : Array Slot} (hm : k_X0_isSame_68  σ = some r) (hw : PH D cy LC b σ s H locs) (hl : lv_has ls 7 []) : W p l e (rmD 0) s m args below meth c H locs 0 0 (MQ below (QcP D cy LC b (some (.int r.1)) r.2) args s 0 0 (inP LC b)) (F0 m 68 ls []) := by
  have hx := E.1.1
  have hb := E.1.2.1
  unfold k_X0_isSame_68 at hm
  refine lv_iconst (v := 0) hx hb dX0_isSame_68 (by decide) ?_
  exact q_zret E hr hlk hw hm dX0_isSame_69
def k_X0_isSame_15 : Nat → Nat → Nat → Int32 → Int32 → Int32 → ST → Option (Int32 × ST)
  | 0, _, _, _, _, _, _ => none
  | n + 1, v0, v2, v4, v5, v6, σ => if 6 ≤ v6 then ((ckZ 1).bind fun z => some (z, σ)) else ((ldA LC σ (LC.2.1 v0 0) (v4 + v6)).bind fun a2 =>
  (ldA LC σ (LC.2.1 v2 0) (v5 + v6)).bind fun a3 =>
  if a2 = a3 then ((ldA LC σ (LC.2.1 v0 1) (v4 + v6)).bind fun a5 =>
  (ldA LC σ (LC.2.1 v2 1) (v5 + v6)).bind fun a6 =>
  if a5 = a6 then (k_X0_isSame_15 n v0 v2 v4 v5 (v6 + 1) σ) else (k_X0_isSame_68 σ)) else (k_X0_isSame_68 σ))
set_option maxRecDepth 20000 in
set_option maxHeartbeats 1000000 in
theorem w_X0_isSame_15 {p : Program} {l : Launch} {e : Env} {s : State} {m : MethodId} {args : Array Value} {below : List Frame} {meth : Method} {c : Code} {D : va_G} {cy : Nat → ClassId} {b : Nat} (E : CX p m c cX0_isSame 7 s args RX0 D cy LC) (hr : meth.sig.returnType = some .boolean) (hlk : meth.locks = false) {r : Int32 × ST} : ∀ (n : Nat) (v0 : Nat) (v2 : Nat) (v4 : Int32) (v5 : Int32) (v6 : Int32) (σ : ST) (H : Heap) (locs : List Loc) (ls : Array Slot), k_X0_isSame_15 n v0 v2 v4 v5 v6 σ = some r → LC.1 v0 = 0 → LC.1 v2 = 0 → PH D cy LC b σ s H locs → lv_has ls 7 [(0, .ref (b + v0)), (2, .ref (b + v2)), (4, .int v4), (5, .int v5), (6, .int v6)] → W p l e (rmD 0) s m args below meth c H locs 0 0 (MQ below (QcP D cy LC b (some (.int r.1)) r.2) args s 0 0 (inP LC b)) (F0 m 15 ls []) := by
  have hx := E.1.1
  have hb := E.1.2.1
  intro n
  induction n with
  | zero =>
    intro v0 v2 v4 v5 v6 σ H locs ls hm
    cases hm
  | succ n ih =>
    intro v0 v2 v4 v5 v6 σ H locs ls hm hv0 hv2 hw hl
    rw [k_X0_isSame_15] at hm
    refine lv_iload hx hb dX0_isSame_15 (lv_at hl 4 rfl) ?_
    refine lv_bipush (v := 6) hx hb dX0_isSame_17 (by decide) ?_
    refine lv_icmp_ge (tgt := 76) hx hb dX0_isSame_19 (by decide) (fun c1 => ?_) (fun c1 => ?_)
    · have hm := o_t c1 hm
      refine lv_iconst (v := 1) hx hb dX0_isSame_76 (by decide) ?_
      exact q_zret E hr hlk hw hm dX0_isSame_77
    · have hm := o_f c1 hm
      refine lv_aload_n hx hb dX0_isSame_22 rfl (lv_at hl 0 rfl) ?_
      refine q_geta E hw fw_X0_9 rfl hv0 dX0_isSame_23 ?_
      refine lv_iload hx hb dX0_isSame_26 (lv_at hl 2 rfl) ?_
      refine lv_iload hx hb dX0_isSame_28 (lv_at hl 4 rfl) ?_
      refine lv_iadd hx hb dX0_isSame_30 ?_
      refine q_iald E hw (tC_0_0 hv0) hm dX0_isSame_31 (fun a2 hm => ?_)
      refine lv_aload_n hx hb dX0_isSame_32 rfl (lv_at hl 1 rfl) ?_
      refine q_geta E hw fw_X0_9 rfl hv2 dX0_isSame_33 ?_
      refine lv_iload hx hb dX0_isSame_36 (lv_at hl 3 rfl) ?_
      refine lv_iload hx hb dX0_isSame_38 (lv_at hl 4 rfl) ?_
      refine lv_iadd hx hb dX0_isSame_40 ?_
      refine q_iald E hw (tC_0_0 hv2) hm dX0_isSame_41 (fun a3 hm => ?_)
      refine lv_icmp_ne (tgt := 68) hx hb dX0_isSame_42 (by decide) (fun c4 => ?_) (fun c4 => ?_)
      · have hm := o_f c4 hm
        exact w_X0_isSame_68 E hr hlk hm  hw (lv_sub hl [] rfl)
      · have hm := o_t c4 hm
        refine lv_aload_n hx hb dX0_isSame_45 rfl (lv_at hl 0 rfl) ?_
        refine q_geta E hw fw_X0_15 rfl hv0 dX0_isSame_46 ?_
        refine lv_iload hx hb dX0_isSame_49 (lv_at hl 2 rfl) ?_
        refine lv_iload hx hb dX0_isSame_51 (lv_at hl 4 rfl) ?_
        refine lv_iadd hx hb dX0_isSame_53 ?_
        refine q_iald E hw (tC_0_1 hv0) hm dX0_isSame_54 (fun a5 hm => ?_)
        refine lv_aload_n hx hb dX0_isSame_55 rfl (lv_at hl 1 rfl) ?_
        refine q_geta E hw fw_X0_15 rfl hv2 dX0_isSame_56 ?_
        refine lv_iload hx hb dX0_isSame_59 (lv_at hl 3 rfl) ?_
        refine lv_iload hx hb dX0_isSame_61 (lv_at hl 4 rfl) ?_
        refine lv_iadd hx hb dX0_isSame_63 ?_
        refine q_iald E hw (tC_0_1 hv2) hm dX0_isSame_64 (fun a6 hm => ?_)
        refine lv_icmp_eq (tgt := 70) hx hb dX0_isSame_65 (by decide) (fun c7 => ?_) (fun c7 => ?_)
        · have hm := o_t c7 hm
          refine lv_iinc (v := v6 + 1) (lv' := [(6, .int (v6 + 1)), (0, .ref (b + v0)), (2, .ref (b + v2)), (4, .int v4), (5, .int v5)]) hx hb dX0_isSame_70 hl (k := 4) rfl rfl (by decide) rfl (fun ls hl => ?_)
          refine lv_goto (tgt := 15) hx hb dX0_isSame_73 (by decide) ?_
          exact ih _ _ _ _ _ _ _ _ _ hm hv0 hv2 hw (lv_sub hl [1, 2, 3, 4, 0] rfl)
        · have hm := o_f c7 hm
          exact w_X0_isSame_68 E hr hlk hm  hw (lv_sub hl [] rfl)
def f_X0_isSame (v0 : Nat) (v1 : Int32) (v2 : Nat) (v3 : Int32) (σ : ST) : Option (Int32 × ST) :=
  k_X0_isSame_15 FU v0 v2 (v1 * 6) (v3 * 6) 0 σ
set_option maxRecDepth 20000 in
set_option maxHeartbeats 1000000 in
theorem w_X0_isSame_0 {p : Program} {l : Launch} {e : Env} {s : State} {m : MethodId} {args : Array Value} {below : List Frame} {meth : Method} {c : Code} {D : va_G} {cy : Nat → ClassId} {b : Nat} (E : CX p m c cX0_isSame 7 s args RX0 D cy LC) (hr : meth.sig.returnType = some .boolean) (hlk : meth.locks = false) {r : Int32 × ST} {v0 : Nat} {v1 : Int32} {v2 : Nat} {v3 : Int32} {σ : ST} {H : Heap} {locs : List Loc} {ls : Array Slot} (hm : f_X0_isSame v0 v1 v2 v3 σ = some r) (hv0 : LC.1 v0 = 0) (hv2 : LC.1 v2 = 0) (hw : PH D cy LC b σ s H locs) (hl : lv_has ls 7 [(0, .ref (b + v0)), (1, .int v1), (2, .ref (b + v2)), (3, .int v3)]) : W p l e (rmD 0) s m args below meth c H locs 0 0 (MQ below (QcP D cy LC b (some (.int r.1)) r.2) args s 0 0 (inP LC b)) (F0 m 0 ls []) := by
  have hx := E.1.1
  have hb := E.1.2.1
  unfold f_X0_isSame at hm
  refine lv_iload_n hx hb dX0_isSame_0 rfl (lv_at hl 1 rfl) ?_
  refine lv_bipush (v := 6) hx hb dX0_isSame_1 (by decide) ?_
  refine lv_imul hx hb dX0_isSame_3 ?_
  refine lv_istore (lv' := [(4, .int (v1 * 6)), (0, .ref (b + v0)), (1, .int v1), (2, .ref (b + v2)), (3, .int v3)]) hx hb dX0_isSame_4 hl (by decide) rfl (fun ls hl => ?_)
  refine lv_iload_n hx hb dX0_isSame_6 rfl (lv_at hl 4 rfl) ?_
  refine lv_bipush (v := 6) hx hb dX0_isSame_7 (by decide) ?_
  refine lv_imul hx hb dX0_isSame_9 ?_
  refine lv_istore (lv' := [(5, .int (v3 * 6)), (4, .int (v1 * 6)), (0, .ref (b + v0)), (1, .int v1), (2, .ref (b + v2)), (3, .int v3)]) hx hb dX0_isSame_10 hl (by decide) rfl (fun ls hl => ?_)
  refine lv_iconst (v := 0) hx hb dX0_isSame_12 (by decide) ?_
  refine lv_istore (lv' := [(6, .int 0), (5, .int (v3 * 6)), (4, .int (v1 * 6)), (0, .ref (b + v0)), (1, .int v1), (2, .ref (b + v2)), (3, .int v3)]) hx hb dX0_isSame_13 hl (by decide) rfl (fun ls hl => ?_)
  exact w_X0_isSame_15 E hr hlk _ _ _ _ _ _ _ _ _ _ hm hv0 hv2 hw (lv_sub hl [3, 5, 2, 1, 0] rfl)
theorem c_X0_isSame {l : Launch} {D : va_G} {cy : Nat → ClassId} {b : Nat} {v0 : Nat} {v1 : Int32} {v2 : Nat} {v3 : Int32} {σ : ST} {r : Int32 × ST} (hm : f_X0_isSame v0 v1 v2 v3 σ = some r) (hv0 : LC.1 v0 = 0) (hv2 : LC.1 v2 = 0) : Met l yX0_isSame (wU yX0_isSame cX0_isSame 7 (some .boolean)) (rmD 0) (PcP D cy LC b [.ref (b + v0), .int v1, .ref (b + v2), .int v3] σ) (QcP D cy LC b (some (.int r.1)) r.2) 0 0 (inP LC b) :=
  q_met (lv := [(0, .ref (b + v0)), (1, .int v1), (2, .ref (b + v2)), (3, .int v3)]) LC_ok (by decide) (Nat.le_of_ble_eq_true rfl) rfl (fun _ _ _ _ _ _ _ _ _ E hr hlk hw hl => w_X0_isSame_0 E hr hlk hm hv0 hv2 hw hl)

def f_X0_give (v0 : Nat) (v1 : Int32) (v2 : Int32) (v3 : Int32) (σ : ST) : Option (ST) :=
  (ldA LC σ (LC.2.1 v0 0) ((v1 * 6) + v2)).bind fun a1 =>
  (stA LC σ (LC.2.1 v0 0) ((v1 * 6) + v2) (a1 ||| (1 <<< ((v3 - 1) &&& 31)))).bind fun σ2 =>
  (stA LC σ2 (LC.2.1 v0 1) ((v1 * 6) + v2) v3).bind fun σ3 =>
  some σ3
set_option maxRecDepth 20000 in
set_option maxHeartbeats 1000000 in
theorem w_X0_give_0 {p : Program} {l : Launch} {e : Env} {s : State} {m : MethodId} {args : Array Value} {below : List Frame} {meth : Method} {c : Code} {D : va_G} {cy : Nat → ClassId} {b : Nat} (E : CX p m c cX0_give 5 s args RX0 D cy LC) (hr : meth.sig.returnType = none) (hlk : meth.locks = false) {r : ST} {v0 : Nat} {v1 : Int32} {v2 : Int32} {v3 : Int32} {σ : ST} {H : Heap} {locs : List Loc} {ls : Array Slot} (hm : f_X0_give v0 v1 v2 v3 σ = some r) (hv0 : LC.1 v0 = 0) (hw : PH D cy LC b σ s H locs) (hl : lv_has ls 5 [(0, .ref (b + v0)), (1, .int v1), (2, .int v2), (3, .int v3)]) : W p l e (rmD 0) s m args below meth c H locs 0 0 (MQ below (QcP D cy LC b none r) args s 0 0 (inP LC b)) (F0 m 0 ls []) := by
  have hx := E.1.1
  have hb := E.1.2.1
  unfold f_X0_give at hm
  refine lv_iload_n hx hb dX0_give_0 rfl (lv_at hl 1 rfl) ?_
  refine lv_bipush (v := 6) hx hb dX0_give_1 (by decide) ?_
  refine lv_imul hx hb dX0_give_3 ?_
  refine lv_iload_n hx hb dX0_give_4 rfl (lv_at hl 2 rfl) ?_
  refine lv_iadd hx hb dX0_give_5 ?_
  refine lv_istore (lv' := [(4, .int ((v1 * 6) + v2)), (0, .ref (b + v0)), (1, .int v1), (2, .int v2), (3, .int v3)]) hx hb dX0_give_6 hl (by decide) rfl (fun ls hl => ?_)
  refine lv_aload_n hx hb dX0_give_8 rfl (lv_at hl 1 rfl) ?_
  refine q_geta E hw fw_X0_9 rfl hv0 dX0_give_9 ?_
  refine lv_iload hx hb dX0_give_12 (lv_at hl 0 rfl) ?_
  refine lv_dup2_11 hx hb dX0_give_14 rfl rfl ?_
  refine q_iald E hw (tC_0_0 hv0) hm dX0_give_15 (fun a1 hm => ?_)
  refine lv_iconst (v := 1) hx hb dX0_give_16 (by decide) ?_
  refine lv_iload_n hx hb dX0_give_17 rfl (lv_at hl 4 rfl) ?_
  refine lv_iconst (v := 1) hx hb dX0_give_18 (by decide) ?_
  refine lv_isub hx hb dX0_give_19 ?_
  refine lv_ishl hx hb dX0_give_20 ?_
  refine lv_ior hx hb dX0_give_21 ?_
  refine q_iast E hw (tC_0_0 hv0) hm dX0_give_22 (fun σ2 H locs hm hw => ?_)
  refine lv_aload_n hx hb dX0_give_23 rfl (lv_at hl 1 rfl) ?_
  refine q_geta E hw fw_X0_15 rfl hv0 dX0_give_24 ?_
  refine lv_iload hx hb dX0_give_27 (lv_at hl 0 rfl) ?_
  refine lv_iload_n hx hb dX0_give_29 rfl (lv_at hl 4 rfl) ?_
  refine q_iast E hw (tC_0_1 hv0) hm dX0_give_30 (fun σ3 H locs hm hw => ?_)
  exact q_vret E hr hlk hw hm dX0_give_31
theorem c_X0_give {l : Launch} {D : va_G} {cy : Nat → ClassId} {b : Nat} {v0 : Nat} {v1 : Int32} {v2 : Int32} {v3 : Int32} {σ : ST} {r : ST} (hm : f_X0_give v0 v1 v2 v3 σ = some r) (hv0 : LC.1 v0 = 0) : Met l yX0_give (wU yX0_give cX0_give 5 (none)) (rmD 0) (PcP D cy LC b [.ref (b + v0), .int v1, .int v2, .int v3] σ) (QcP D cy LC b none r) 0 0 (inP LC b) :=
  q_met (lv := [(0, .ref (b + v0)), (1, .int v1), (2, .int v2), (3, .int v3)]) LC_ok (by decide) (Nat.le_of_ble_eq_true rfl) rfl (fun _ _ _ _ _ _ _ _ _ E hr hlk hw hl => w_X0_give_0 E hr hlk hm hv0 hw hl)

def f_X0_bitsOf (v0 : Nat) (v1 : Int32) (v2 : Int32) (σ : ST) : Option (Int32 × ST) :=
  (ldA LC σ (LC.2.1 v0 0) ((v1 * 6) + v2)).bind fun a1 =>
  some (a1, σ)
set_option maxRecDepth 20000 in
set_option maxHeartbeats 1000000 in
theorem w_X0_bitsOf_0 {p : Program} {l : Launch} {e : Env} {s : State} {m : MethodId} {args : Array Value} {below : List Frame} {meth : Method} {c : Code} {D : va_G} {cy : Nat → ClassId} {b : Nat} (E : CX p m c cX0_bitsOf 3 s args RX0 D cy LC) (hr : meth.sig.returnType = some .int) (hlk : meth.locks = false) {r : Int32 × ST} {v0 : Nat} {v1 : Int32} {v2 : Int32} {σ : ST} {H : Heap} {locs : List Loc} {ls : Array Slot} (hm : f_X0_bitsOf v0 v1 v2 σ = some r) (hv0 : LC.1 v0 = 0) (hw : PH D cy LC b σ s H locs) (hl : lv_has ls 3 [(0, .ref (b + v0)), (1, .int v1), (2, .int v2)]) : W p l e (rmD 0) s m args below meth c H locs 0 0 (MQ below (QcP D cy LC b (some (.int r.1)) r.2) args s 0 0 (inP LC b)) (F0 m 0 ls []) := by
  have hx := E.1.1
  have hb := E.1.2.1
  unfold f_X0_bitsOf at hm
  refine lv_aload_n hx hb dX0_bitsOf_0 rfl (lv_at hl 0 rfl) ?_
  refine q_geta E hw fw_X0_9 rfl hv0 dX0_bitsOf_1 ?_
  refine lv_iload_n hx hb dX0_bitsOf_4 rfl (lv_at hl 1 rfl) ?_
  refine lv_bipush (v := 6) hx hb dX0_bitsOf_5 (by decide) ?_
  refine lv_imul hx hb dX0_bitsOf_7 ?_
  refine lv_iload_n hx hb dX0_bitsOf_8 rfl (lv_at hl 2 rfl) ?_
  refine lv_iadd hx hb dX0_bitsOf_9 ?_
  refine q_iald E hw (tC_0_0 hv0) hm dX0_bitsOf_10 (fun a1 hm => ?_)
  exact q_iret E hr hlk hw hm dX0_bitsOf_11
theorem c_X0_bitsOf {l : Launch} {D : va_G} {cy : Nat → ClassId} {b : Nat} {v0 : Nat} {v1 : Int32} {v2 : Int32} {σ : ST} {r : Int32 × ST} (hm : f_X0_bitsOf v0 v1 v2 σ = some r) (hv0 : LC.1 v0 = 0) : Met l yX0_bitsOf (wU yX0_bitsOf cX0_bitsOf 3 (some .int)) (rmD 0) (PcP D cy LC b [.ref (b + v0), .int v1, .int v2] σ) (QcP D cy LC b (some (.int r.1)) r.2) 0 0 (inP LC b) :=
  q_met (lv := [(0, .ref (b + v0)), (1, .int v1), (2, .int v2)]) LC_ok (by decide) (Nat.le_of_ble_eq_true rfl) rfl (fun _ _ _ _ _ _ _ _ _ E hr hlk hw hl => w_X0_bitsOf_0 E hr hlk hm hv0 hw hl)

def f_X0_seenOf (v0 : Nat) (v1 : Int32) (v2 : Int32) (σ : ST) : Option (Int32 × ST) :=
  (ldA LC σ (LC.2.1 v0 1) ((v1 * 6) + v2)).bind fun a1 =>
  some (a1, σ)
set_option maxRecDepth 20000 in
set_option maxHeartbeats 1000000 in
theorem w_X0_seenOf_0 {p : Program} {l : Launch} {e : Env} {s : State} {m : MethodId} {args : Array Value} {below : List Frame} {meth : Method} {c : Code} {D : va_G} {cy : Nat → ClassId} {b : Nat} (E : CX p m c cX0_seenOf 3 s args RX0 D cy LC) (hr : meth.sig.returnType = some .int) (hlk : meth.locks = false) {r : Int32 × ST} {v0 : Nat} {v1 : Int32} {v2 : Int32} {σ : ST} {H : Heap} {locs : List Loc} {ls : Array Slot} (hm : f_X0_seenOf v0 v1 v2 σ = some r) (hv0 : LC.1 v0 = 0) (hw : PH D cy LC b σ s H locs) (hl : lv_has ls 3 [(0, .ref (b + v0)), (1, .int v1), (2, .int v2)]) : W p l e (rmD 0) s m args below meth c H locs 0 0 (MQ below (QcP D cy LC b (some (.int r.1)) r.2) args s 0 0 (inP LC b)) (F0 m 0 ls []) := by
  have hx := E.1.1
  have hb := E.1.2.1
  unfold f_X0_seenOf at hm
  refine lv_aload_n hx hb dX0_seenOf_0 rfl (lv_at hl 0 rfl) ?_
  refine q_geta E hw fw_X0_15 rfl hv0 dX0_seenOf_1 ?_
  refine lv_iload_n hx hb dX0_seenOf_4 rfl (lv_at hl 1 rfl) ?_
  refine lv_bipush (v := 6) hx hb dX0_seenOf_5 (by decide) ?_
  refine lv_imul hx hb dX0_seenOf_7 ?_
  refine lv_iload_n hx hb dX0_seenOf_8 rfl (lv_at hl 2 rfl) ?_
  refine lv_iadd hx hb dX0_seenOf_9 ?_
  refine q_iald E hw (tC_0_1 hv0) hm dX0_seenOf_10 (fun a1 hm => ?_)
  exact q_iret E hr hlk hw hm dX0_seenOf_11
theorem c_X0_seenOf {l : Launch} {D : va_G} {cy : Nat → ClassId} {b : Nat} {v0 : Nat} {v1 : Int32} {v2 : Int32} {σ : ST} {r : Int32 × ST} (hm : f_X0_seenOf v0 v1 v2 σ = some r) (hv0 : LC.1 v0 = 0) : Met l yX0_seenOf (wU yX0_seenOf cX0_seenOf 3 (some .int)) (rmD 0) (PcP D cy LC b [.ref (b + v0), .int v1, .int v2] σ) (QcP D cy LC b (some (.int r.1)) r.2) 0 0 (inP LC b) :=
  q_met (lv := [(0, .ref (b + v0)), (1, .int v1), (2, .int v2)]) LC_ok (by decide) (Nat.le_of_ble_eq_true rfl) rfl (fun _ _ _ _ _ _ _ _ _ E hr hlk hw hl => w_X0_seenOf_0 E hr hlk hm hv0 hw hl)

def f_J6_bitCount_0f7a4 (v0 : Int32) (σ : ST) : Option (Int32 × ST) :=
  some ((((((((v0 - (((v0.toUInt32 >>> ((1 : Int32).toUInt32 &&& Int32.toUInt32 31)).toInt32) &&& 1431655765)) &&& 858993459) + ((((v0 - (((v0.toUInt32 >>> ((1 : Int32).toUInt32 &&& Int32.toUInt32 31)).toInt32) &&& 1431655765)).toUInt32 >>> ((2 : Int32).toUInt32 &&& Int32.toUInt32 31)).toInt32) &&& 858993459)) + (((((v0 - (((v0.toUInt32 >>> ((1 : Int32).toUInt32 &&& Int32.toUInt32 31)).toInt32) &&& 1431655765)) &&& 858993459) + ((((v0 - (((v0.toUInt32 >>> ((1 : Int32).toUInt32 &&& Int32.toUInt32 31)).toInt32) &&& 1431655765)).toUInt32 >>> ((2 : Int32).toUInt32 &&& Int32.toUInt32 31)).toInt32) &&& 858993459)).toUInt32 >>> ((4 : Int32).toUInt32 &&& Int32.toUInt32 31)).toInt32)) &&& 252645135) + (((((((v0 - (((v0.toUInt32 >>> ((1 : Int32).toUInt32 &&& Int32.toUInt32 31)).toInt32) &&& 1431655765)) &&& 858993459) + ((((v0 - (((v0.toUInt32 >>> ((1 : Int32).toUInt32 &&& Int32.toUInt32 31)).toInt32) &&& 1431655765)).toUInt32 >>> ((2 : Int32).toUInt32 &&& Int32.toUInt32 31)).toInt32) &&& 858993459)) + (((((v0 - (((v0.toUInt32 >>> ((1 : Int32).toUInt32 &&& Int32.toUInt32 31)).toInt32) &&& 1431655765)) &&& 858993459) + ((((v0 - (((v0.toUInt32 >>> ((1 : Int32).toUInt32 &&& Int32.toUInt32 31)).toInt32) &&& 1431655765)).toUInt32 >>> ((2 : Int32).toUInt32 &&& Int32.toUInt32 31)).toInt32) &&& 858993459)).toUInt32 >>> ((4 : Int32).toUInt32 &&& Int32.toUInt32 31)).toInt32)) &&& 252645135).toUInt32 >>> ((8 : Int32).toUInt32 &&& Int32.toUInt32 31)).toInt32)) + ((((((((v0 - (((v0.toUInt32 >>> ((1 : Int32).toUInt32 &&& Int32.toUInt32 31)).toInt32) &&& 1431655765)) &&& 858993459) + ((((v0 - (((v0.toUInt32 >>> ((1 : Int32).toUInt32 &&& Int32.toUInt32 31)).toInt32) &&& 1431655765)).toUInt32 >>> ((2 : Int32).toUInt32 &&& Int32.toUInt32 31)).toInt32) &&& 858993459)) + (((((v0 - (((v0.toUInt32 >>> ((1 : Int32).toUInt32 &&& Int32.toUInt32 31)).toInt32) &&& 1431655765)) &&& 858993459) + ((((v0 - (((v0.toUInt32 >>> ((1 : Int32).toUInt32 &&& Int32.toUInt32 31)).toInt32) &&& 1431655765)).toUInt32 >>> ((2 : Int32).toUInt32 &&& Int32.toUInt32 31)).toInt32) &&& 858993459)).toUInt32 >>> ((4 : Int32).toUInt32 &&& Int32.toUInt32 31)).toInt32)) &&& 252645135) + (((((((v0 - (((v0.toUInt32 >>> ((1 : Int32).toUInt32 &&& Int32.toUInt32 31)).toInt32) &&& 1431655765)) &&& 858993459) + ((((v0 - (((v0.toUInt32 >>> ((1 : Int32).toUInt32 &&& Int32.toUInt32 31)).toInt32) &&& 1431655765)).toUInt32 >>> ((2 : Int32).toUInt32 &&& Int32.toUInt32 31)).toInt32) &&& 858993459)) + (((((v0 - (((v0.toUInt32 >>> ((1 : Int32).toUInt32 &&& Int32.toUInt32 31)).toInt32) &&& 1431655765)) &&& 858993459) + ((((v0 - (((v0.toUInt32 >>> ((1 : Int32).toUInt32 &&& Int32.toUInt32 31)).toInt32) &&& 1431655765)).toUInt32 >>> ((2 : Int32).toUInt32 &&& Int32.toUInt32 31)).toInt32) &&& 858993459)).toUInt32 >>> ((4 : Int32).toUInt32 &&& Int32.toUInt32 31)).toInt32)) &&& 252645135).toUInt32 >>> ((8 : Int32).toUInt32 &&& Int32.toUInt32 31)).toInt32)).toUInt32 >>> ((16 : Int32).toUInt32 &&& Int32.toUInt32 31)).toInt32)) &&& 63, σ)
set_option maxRecDepth 20000 in
set_option maxHeartbeats 1000000 in
theorem w_J6_bitCount_0f7a4_0 {p : Program} {l : Launch} {e : Env} {s : State} {m : MethodId} {args : Array Value} {below : List Frame} {meth : Method} {c : Code} {D : va_G} {cy : Nat → ClassId} {b : Nat} (E : CX p m c cJ6_bitCount_0f7a4 1 s args RJ6 D cy LC) (hr : meth.sig.returnType = some .int) (hlk : meth.locks = false) {r : Int32 × ST} {v0 : Int32} {σ : ST} {H : Heap} {locs : List Loc} {ls : Array Slot} (hm : f_J6_bitCount_0f7a4 v0 σ = some r) (hw : PH D cy LC b σ s H locs) (hl : lv_has ls 1 [(0, .int v0)]) : W p l e (rmD 0) s m args below meth c H locs 0 0 (MQ below (QcP D cy LC b (some (.int r.1)) r.2) args s 0 0 (inP LC b)) (F0 m 0 ls []) := by
  have hx := E.1.1
  have hb := E.1.2.1
  unfold f_J6_bitCount_0f7a4 at hm
  refine lv_iload_n hx hb dJ6_bitCount_0f7a4_0 rfl (lv_at hl 0 rfl) ?_
  refine lv_iload_n hx hb dJ6_bitCount_0f7a4_1 rfl (lv_at hl 0 rfl) ?_
  refine lv_iconst (v := 1) hx hb dJ6_bitCount_0f7a4_2 (by decide) ?_
  refine lv_iushr hx hb dJ6_bitCount_0f7a4_3 rfl ?_
  refine lv_ldcw hx hb E.1.2.2.2.1 (E.1.2.2.2.2 _ (rL46 _ (List.mem_of_getElem? (i := 3) rfl))) dJ6_bitCount_0f7a4_4 ?_
  refine lv_iand hx hb dJ6_bitCount_0f7a4_7 ?_
  refine lv_isub hx hb dJ6_bitCount_0f7a4_8 ?_
  refine lv_istore_n (lv' := [(0, .int (v0 - (((v0.toUInt32 >>> ((1 : Int32).toUInt32 &&& Int32.toUInt32 31)).toInt32) &&& 1431655765)))]) hx hb dJ6_bitCount_0f7a4_9 rfl hl (by decide) rfl (fun ls hl => ?_)
  refine lv_iload_n hx hb dJ6_bitCount_0f7a4_10 rfl (lv_at hl 0 rfl) ?_
  refine lv_ldcw hx hb E.1.2.2.2.1 (E.1.2.2.2.2 _ (rL46 _ (List.mem_of_getElem? (i := 4) rfl))) dJ6_bitCount_0f7a4_11 ?_
  refine lv_iand hx hb dJ6_bitCount_0f7a4_14 ?_
  refine lv_iload_n hx hb dJ6_bitCount_0f7a4_15 rfl (lv_at hl 0 rfl) ?_
  refine lv_iconst (v := 2) hx hb dJ6_bitCount_0f7a4_16 (by decide) ?_
  refine lv_iushr hx hb dJ6_bitCount_0f7a4_17 rfl ?_
  refine lv_ldcw hx hb E.1.2.2.2.1 (E.1.2.2.2.2 _ (rL46 _ (List.mem_of_getElem? (i := 4) rfl))) dJ6_bitCount_0f7a4_18 ?_
  refine lv_iand hx hb dJ6_bitCount_0f7a4_21 ?_
  refine lv_iadd hx hb dJ6_bitCount_0f7a4_22 ?_
  refine lv_istore_n (lv' := [(0, .int (((v0 - (((v0.toUInt32 >>> ((1 : Int32).toUInt32 &&& Int32.toUInt32 31)).toInt32) &&& 1431655765)) &&& 858993459) + ((((v0 - (((v0.toUInt32 >>> ((1 : Int32).toUInt32 &&& Int32.toUInt32 31)).toInt32) &&& 1431655765)).toUInt32 >>> ((2 : Int32).toUInt32 &&& Int32.toUInt32 31)).toInt32) &&& 858993459)))]) hx hb dJ6_bitCount_0f7a4_23 rfl hl (by decide) rfl (fun ls hl => ?_)
  refine lv_iload_n hx hb dJ6_bitCount_0f7a4_24 rfl (lv_at hl 0 rfl) ?_
  refine lv_iload_n hx hb dJ6_bitCount_0f7a4_25 rfl (lv_at hl 0 rfl) ?_
  refine lv_iconst (v := 4) hx hb dJ6_bitCount_0f7a4_26 (by decide) ?_
  refine lv_iushr hx hb dJ6_bitCount_0f7a4_27 rfl ?_
  refine lv_iadd hx hb dJ6_bitCount_0f7a4_28 ?_
  refine lv_ldcw hx hb E.1.2.2.2.1 (E.1.2.2.2.2 _ (rL46 _ (List.mem_of_getElem? (i := 5) rfl))) dJ6_bitCount_0f7a4_29 ?_
  refine lv_iand hx hb dJ6_bitCount_0f7a4_32 ?_
  refine lv_istore_n (lv' := [(0, .int (((((v0 - (((v0.toUInt32 >>> ((1 : Int32).toUInt32 &&& Int32.toUInt32 31)).toInt32) &&& 1431655765)) &&& 858993459) + ((((v0 - (((v0.toUInt32 >>> ((1 : Int32).toUInt32 &&& Int32.toUInt32 31)).toInt32) &&& 1431655765)).toUInt32 >>> ((2 : Int32).toUInt32 &&& Int32.toUInt32 31)).toInt32) &&& 858993459)) + (((((v0 - (((v0.toUInt32 >>> ((1 : Int32).toUInt32 &&& Int32.toUInt32 31)).toInt32) &&& 1431655765)) &&& 858993459) + ((((v0 - (((v0.toUInt32 >>> ((1 : Int32).toUInt32 &&& Int32.toUInt32 31)).toInt32) &&& 1431655765)).toUInt32 >>> ((2 : Int32).toUInt32 &&& Int32.toUInt32 31)).toInt32) &&& 858993459)).toUInt32 >>> ((4 : Int32).toUInt32 &&& Int32.toUInt32 31)).toInt32)) &&& 252645135))]) hx hb dJ6_bitCount_0f7a4_33 rfl hl (by decide) rfl (fun ls hl => ?_)
  refine lv_iload_n hx hb dJ6_bitCount_0f7a4_34 rfl (lv_at hl 0 rfl) ?_
  refine lv_iload_n hx hb dJ6_bitCount_0f7a4_35 rfl (lv_at hl 0 rfl) ?_
  refine lv_bipush (v := 8) hx hb dJ6_bitCount_0f7a4_36 (by decide) ?_
  refine lv_iushr hx hb dJ6_bitCount_0f7a4_38 rfl ?_
  refine lv_iadd hx hb dJ6_bitCount_0f7a4_39 ?_
  refine lv_istore_n (lv' := [(0, .int ((((((v0 - (((v0.toUInt32 >>> ((1 : Int32).toUInt32 &&& Int32.toUInt32 31)).toInt32) &&& 1431655765)) &&& 858993459) + ((((v0 - (((v0.toUInt32 >>> ((1 : Int32).toUInt32 &&& Int32.toUInt32 31)).toInt32) &&& 1431655765)).toUInt32 >>> ((2 : Int32).toUInt32 &&& Int32.toUInt32 31)).toInt32) &&& 858993459)) + (((((v0 - (((v0.toUInt32 >>> ((1 : Int32).toUInt32 &&& Int32.toUInt32 31)).toInt32) &&& 1431655765)) &&& 858993459) + ((((v0 - (((v0.toUInt32 >>> ((1 : Int32).toUInt32 &&& Int32.toUInt32 31)).toInt32) &&& 1431655765)).toUInt32 >>> ((2 : Int32).toUInt32 &&& Int32.toUInt32 31)).toInt32) &&& 858993459)).toUInt32 >>> ((4 : Int32).toUInt32 &&& Int32.toUInt32 31)).toInt32)) &&& 252645135) + (((((((v0 - (((v0.toUInt32 >>> ((1 : Int32).toUInt32 &&& Int32.toUInt32 31)).toInt32) &&& 1431655765)) &&& 858993459) + ((((v0 - (((v0.toUInt32 >>> ((1 : Int32).toUInt32 &&& Int32.toUInt32 31)).toInt32) &&& 1431655765)).toUInt32 >>> ((2 : Int32).toUInt32 &&& Int32.toUInt32 31)).toInt32) &&& 858993459)) + (((((v0 - (((v0.toUInt32 >>> ((1 : Int32).toUInt32 &&& Int32.toUInt32 31)).toInt32) &&& 1431655765)) &&& 858993459) + ((((v0 - (((v0.toUInt32 >>> ((1 : Int32).toUInt32 &&& Int32.toUInt32 31)).toInt32) &&& 1431655765)).toUInt32 >>> ((2 : Int32).toUInt32 &&& Int32.toUInt32 31)).toInt32) &&& 858993459)).toUInt32 >>> ((4 : Int32).toUInt32 &&& Int32.toUInt32 31)).toInt32)) &&& 252645135).toUInt32 >>> ((8 : Int32).toUInt32 &&& Int32.toUInt32 31)).toInt32)))]) hx hb dJ6_bitCount_0f7a4_40 rfl hl (by decide) rfl (fun ls hl => ?_)
  refine lv_iload_n hx hb dJ6_bitCount_0f7a4_41 rfl (lv_at hl 0 rfl) ?_
  refine lv_iload_n hx hb dJ6_bitCount_0f7a4_42 rfl (lv_at hl 0 rfl) ?_
  refine lv_bipush (v := 16) hx hb dJ6_bitCount_0f7a4_43 (by decide) ?_
  refine lv_iushr hx hb dJ6_bitCount_0f7a4_45 rfl ?_
  refine lv_iadd hx hb dJ6_bitCount_0f7a4_46 ?_
  refine lv_istore_n (lv' := [(0, .int (((((((v0 - (((v0.toUInt32 >>> ((1 : Int32).toUInt32 &&& Int32.toUInt32 31)).toInt32) &&& 1431655765)) &&& 858993459) + ((((v0 - (((v0.toUInt32 >>> ((1 : Int32).toUInt32 &&& Int32.toUInt32 31)).toInt32) &&& 1431655765)).toUInt32 >>> ((2 : Int32).toUInt32 &&& Int32.toUInt32 31)).toInt32) &&& 858993459)) + (((((v0 - (((v0.toUInt32 >>> ((1 : Int32).toUInt32 &&& Int32.toUInt32 31)).toInt32) &&& 1431655765)) &&& 858993459) + ((((v0 - (((v0.toUInt32 >>> ((1 : Int32).toUInt32 &&& Int32.toUInt32 31)).toInt32) &&& 1431655765)).toUInt32 >>> ((2 : Int32).toUInt32 &&& Int32.toUInt32 31)).toInt32) &&& 858993459)).toUInt32 >>> ((4 : Int32).toUInt32 &&& Int32.toUInt32 31)).toInt32)) &&& 252645135) + (((((((v0 - (((v0.toUInt32 >>> ((1 : Int32).toUInt32 &&& Int32.toUInt32 31)).toInt32) &&& 1431655765)) &&& 858993459) + ((((v0 - (((v0.toUInt32 >>> ((1 : Int32).toUInt32 &&& Int32.toUInt32 31)).toInt32) &&& 1431655765)).toUInt32 >>> ((2 : Int32).toUInt32 &&& Int32.toUInt32 31)).toInt32) &&& 858993459)) + (((((v0 - (((v0.toUInt32 >>> ((1 : Int32).toUInt32 &&& Int32.toUInt32 31)).toInt32) &&& 1431655765)) &&& 858993459) + ((((v0 - (((v0.toUInt32 >>> ((1 : Int32).toUInt32 &&& Int32.toUInt32 31)).toInt32) &&& 1431655765)).toUInt32 >>> ((2 : Int32).toUInt32 &&& Int32.toUInt32 31)).toInt32) &&& 858993459)).toUInt32 >>> ((4 : Int32).toUInt32 &&& Int32.toUInt32 31)).toInt32)) &&& 252645135).toUInt32 >>> ((8 : Int32).toUInt32 &&& Int32.toUInt32 31)).toInt32)) + ((((((((v0 - (((v0.toUInt32 >>> ((1 : Int32).toUInt32 &&& Int32.toUInt32 31)).toInt32) &&& 1431655765)) &&& 858993459) + ((((v0 - (((v0.toUInt32 >>> ((1 : Int32).toUInt32 &&& Int32.toUInt32 31)).toInt32) &&& 1431655765)).toUInt32 >>> ((2 : Int32).toUInt32 &&& Int32.toUInt32 31)).toInt32) &&& 858993459)) + (((((v0 - (((v0.toUInt32 >>> ((1 : Int32).toUInt32 &&& Int32.toUInt32 31)).toInt32) &&& 1431655765)) &&& 858993459) + ((((v0 - (((v0.toUInt32 >>> ((1 : Int32).toUInt32 &&& Int32.toUInt32 31)).toInt32) &&& 1431655765)).toUInt32 >>> ((2 : Int32).toUInt32 &&& Int32.toUInt32 31)).toInt32) &&& 858993459)).toUInt32 >>> ((4 : Int32).toUInt32 &&& Int32.toUInt32 31)).toInt32)) &&& 252645135) + (((((((v0 - (((v0.toUInt32 >>> ((1 : Int32).toUInt32 &&& Int32.toUInt32 31)).toInt32) &&& 1431655765)) &&& 858993459) + ((((v0 - (((v0.toUInt32 >>> ((1 : Int32).toUInt32 &&& Int32.toUInt32 31)).toInt32) &&& 1431655765)).toUInt32 >>> ((2 : Int32).toUInt32 &&& Int32.toUInt32 31)).toInt32) &&& 858993459)) + (((((v0 - (((v0.toUInt32 >>> ((1 : Int32).toUInt32 &&& Int32.toUInt32 31)).toInt32) &&& 1431655765)) &&& 858993459) + ((((v0 - (((v0.toUInt32 >>> ((1 : Int32).toUInt32 &&& Int32.toUInt32 31)).toInt32) &&& 1431655765)).toUInt32 >>> ((2 : Int32).toUInt32 &&& Int32.toUInt32 31)).toInt32) &&& 858993459)).toUInt32 >>> ((4 : Int32).toUInt32 &&& Int32.toUInt32 31)).toInt32)) &&& 252645135).toUInt32 >>> ((8 : Int32).toUInt32 &&& Int32.toUInt32 31)).toInt32)).toUInt32 >>> ((16 : Int32).toUInt32 &&& Int32.toUInt32 31)).toInt32)))]) hx hb dJ6_bitCount_0f7a4_47 rfl hl (by decide) rfl (fun ls hl => ?_)
  refine lv_iload_n hx hb dJ6_bitCount_0f7a4_48 rfl (lv_at hl 0 rfl) ?_
  refine lv_bipush (v := 63) hx hb dJ6_bitCount_0f7a4_49 (by decide) ?_
  refine lv_iand hx hb dJ6_bitCount_0f7a4_51 ?_
  exact q_iret E hr hlk hw hm dJ6_bitCount_0f7a4_52
theorem c_J6_bitCount_0f7a4 {l : Launch} {D : va_G} {cy : Nat → ClassId} {b : Nat} {v0 : Int32} {σ : ST} {r : Int32 × ST} (hm : f_J6_bitCount_0f7a4 v0 σ = some r) : Met l yJ6_bitCount_0f7a4 (wU yJ6_bitCount_0f7a4 cJ6_bitCount_0f7a4 1 (some .int)) (rmD 0) (PcP D cy LC b [.int v0] σ) (QcP D cy LC b (some (.int r.1)) r.2) 0 0 (inP LC b) :=
  q_met (lv := [(0, .int v0)]) LC_ok (by decide) (Nat.le_of_ble_eq_true rfl) rfl (fun _ _ _ _ _ _ _ _ _ E hr hlk hw hl => w_J6_bitCount_0f7a4_0 E hr hlk hm hw hl)

def k_X0_twinCount_4 : Nat → Nat → Int32 → Int32 → Int32 → ST → Option (Int32 × ST)
  | 0, _, _, _, _, _ => none
  | n + 1, v0, v1, v2, v3, σ => if 6 ≤ v3 then (some (v2, σ)) else ((f_X0_bitsOf v0 v1 v3 σ).bind fun u2 =>
  (f_J6_bitCount_0f7a4 u2.1 u2.2).bind fun u3 =>
  k_X0_twinCount_4 n v0 v1 (v2 + u3.1) (v3 + 1) u3.2)
set_option maxRecDepth 20000 in
set_option maxHeartbeats 1000000 in
theorem w_X0_twinCount_4 {p : Program} {l : Launch} {e : Env} {s : State} {m : MethodId} {args : Array Value} {below : List Frame} {meth : Method} {c : Code} {D : va_G} {cy : Nat → ClassId} {b : Nat} (E : CX p m c cX0_twinCount 4 s args RX0 D cy LC) (hr : meth.sig.returnType = some .int) (hlk : meth.locks = false) {r : Int32 × ST} : ∀ (n : Nat) (v0 : Nat) (v1 : Int32) (v2 : Int32) (v3 : Int32) (σ : ST) (H : Heap) (locs : List Loc) (ls : Array Slot), k_X0_twinCount_4 n v0 v1 v2 v3 σ = some r → LC.1 v0 = 0 → PH D cy LC b σ s H locs → lv_has ls 4 [(0, .ref (b + v0)), (1, .int v1), (2, .int v2), (3, .int v3)] → W p l e (rmD 1) s m args below meth c H locs 0 0 (MQ below (QcP D cy LC b (some (.int r.1)) r.2) args s 0 0 (inP LC b)) (F0 m 4 ls []) := by
  have hx := E.1.1
  have hb := E.1.2.1
  intro n
  induction n with
  | zero =>
    intro v0 v1 v2 v3 σ H locs ls hm
    cases hm
  | succ n ih =>
    intro v0 v1 v2 v3 σ H locs ls hm hv0 hw hl
    rw [k_X0_twinCount_4] at hm
    refine lv_iload_n hx hb dX0_twinCount_4 rfl (lv_at hl 3 rfl) ?_
    refine lv_bipush (v := 6) hx hb dX0_twinCount_5 (by decide) ?_
    refine lv_icmp_ge (tgt := 28) hx hb dX0_twinCount_7 (by decide) (fun c1 => ?_) (fun c1 => ?_)
    · have hm := o_t c1 hm
      refine lv_iload_n hx hb dX0_twinCount_28 rfl (lv_at hl 2 rfl) ?_
      exact q_iret E hr hlk hw hm dX0_twinCount_29
    · have hm := o_f c1 hm
      refine lv_iload_n hx hb dX0_twinCount_10 rfl (lv_at hl 2 rfl) ?_
      refine lv_aload_n hx hb dX0_twinCount_11 rfl (lv_at hl 0 rfl) ?_
      refine lv_iload_n hx hb dX0_twinCount_12 rfl (lv_at hl 1 rfl) ?_
      refine lv_iload_n hx hb dX0_twinCount_13 rfl (lv_at hl 3 rfl) ?_
      refine q_cVi (κ := 0) (C := RX0) (T := TX0) (N := 2) [.int v2] E hw hm mw_X0_38 (fun u hu => c_X0_bitsOf hu hv0) rfl (by decide) hv0 rfl rfl hl.1 (Nat.le_of_ble_eq_true rfl) ⟨Nat.le_of_ble_eq_true rfl, Nat.le_of_ble_eq_true rfl⟩ dX0_twinCount_14 (fun u2 H locs hm hw => ?_)
      refine q_cSi [.int v2] E hw hm ms_X0_42 (fun u hu => c_J6_bitCount_0f7a4 hu ) rfl rfl hl.1 (Nat.le_of_ble_eq_true rfl) ⟨Nat.le_of_ble_eq_true rfl, Nat.le_of_ble_eq_true rfl⟩ dX0_twinCount_17 (fun u3 H locs hm hw => ?_)
      refine lv_iadd hx hb dX0_twinCount_20 ?_
      refine lv_istore_n (lv' := [(2, .int (v2 + u3.1)), (0, .ref (b + v0)), (1, .int v1), (3, .int v3)]) hx hb dX0_twinCount_21 rfl hl (by decide) rfl (fun ls hl => ?_)
      refine lv_iinc (v := v3 + 1) (lv' := [(3, .int (v3 + 1)), (2, .int (v2 + u3.1)), (0, .ref (b + v0)), (1, .int v1)]) hx hb dX0_twinCount_22 hl (k := 3) rfl rfl (by decide) rfl (fun ls hl => ?_)
      refine lv_goto (tgt := 4) hx hb dX0_twinCount_25 (by decide) ?_
      exact ih _ _ _ _ _ _ _ _ hm hv0 hw (lv_sub hl [2, 3, 1, 0] rfl)
def f_X0_twinCount (v0 : Nat) (v1 : Int32) (σ : ST) : Option (Int32 × ST) :=
  k_X0_twinCount_4 FU v0 v1 0 0 σ
set_option maxRecDepth 20000 in
set_option maxHeartbeats 1000000 in
theorem w_X0_twinCount_0 {p : Program} {l : Launch} {e : Env} {s : State} {m : MethodId} {args : Array Value} {below : List Frame} {meth : Method} {c : Code} {D : va_G} {cy : Nat → ClassId} {b : Nat} (E : CX p m c cX0_twinCount 4 s args RX0 D cy LC) (hr : meth.sig.returnType = some .int) (hlk : meth.locks = false) {r : Int32 × ST} {v0 : Nat} {v1 : Int32} {σ : ST} {H : Heap} {locs : List Loc} {ls : Array Slot} (hm : f_X0_twinCount v0 v1 σ = some r) (hv0 : LC.1 v0 = 0) (hw : PH D cy LC b σ s H locs) (hl : lv_has ls 4 [(0, .ref (b + v0)), (1, .int v1)]) : W p l e (rmD 1) s m args below meth c H locs 0 0 (MQ below (QcP D cy LC b (some (.int r.1)) r.2) args s 0 0 (inP LC b)) (F0 m 0 ls []) := by
  have hx := E.1.1
  have hb := E.1.2.1
  unfold f_X0_twinCount at hm
  refine lv_iconst (v := 0) hx hb dX0_twinCount_0 (by decide) ?_
  refine lv_istore_n (lv' := [(2, .int 0), (0, .ref (b + v0)), (1, .int v1)]) hx hb dX0_twinCount_1 rfl hl (by decide) rfl (fun ls hl => ?_)
  refine lv_iconst (v := 0) hx hb dX0_twinCount_2 (by decide) ?_
  refine lv_istore_n (lv' := [(3, .int 0), (2, .int 0), (0, .ref (b + v0)), (1, .int v1)]) hx hb dX0_twinCount_3 rfl hl (by decide) rfl (fun ls hl => ?_)
  exact w_X0_twinCount_4 E hr hlk _ _ _ _ _ _ _ _ _ hm hv0 hw (lv_sub hl [2, 3, 1, 0] rfl)
theorem c_X0_twinCount {l : Launch} {D : va_G} {cy : Nat → ClassId} {b : Nat} {v0 : Nat} {v1 : Int32} {σ : ST} {r : Int32 × ST} (hm : f_X0_twinCount v0 v1 σ = some r) (hv0 : LC.1 v0 = 0) : Met l yX0_twinCount (wU yX0_twinCount cX0_twinCount 4 (some .int)) (rmD 1) (PcP D cy LC b [.ref (b + v0), .int v1] σ) (QcP D cy LC b (some (.int r.1)) r.2) 0 0 (inP LC b) :=
  q_met (lv := [(0, .ref (b + v0)), (1, .int v1)]) LC_ok (by decide) (Nat.le_of_ble_eq_true rfl) rfl (fun _ _ _ _ _ _ _ _ _ E hr hlk hw hl => w_X0_twinCount_0 E hr hlk hm hv0 hw hl)

def k_X0_dotAt_54 (σ : ST) : Option (Int32 × ST) :=
  some ((-1), σ)
set_option maxRecDepth 20000 in
set_option maxHeartbeats 1000000 in
theorem w_X0_dotAt_54 {p : Program} {l : Launch} {e : Env} {s : State} {m : MethodId} {args : Array Value} {below : List Frame} {meth : Method} {c : Code} {D : va_G} {cy : Nat → ClassId} {b : Nat} (E : CX p m c cX0_dotAt 5 s args RX0 D cy LC) (hr : meth.sig.returnType = some .int) (hlk : meth.locks = false) {r : Int32 × ST} {σ : ST} {H : Heap} {locs : List Loc} {ls : Array Slot} (hm : k_X0_dotAt_54  σ = some r) (hw : PH D cy LC b σ s H locs) (hl : lv_has ls 5 []) : W p l e (rmD 1) s m args below meth c H locs 0 0 (MQ below (QcP D cy LC b (some (.int r.1)) r.2) args s 0 0 (inP LC b)) (F0 m 54 ls []) := by
  have hx := E.1.1
  have hb := E.1.2.1
  unfold k_X0_dotAt_54 at hm
  refine lv_iconst (v := (-1)) hx hb dX0_dotAt_54 (by decide) ?_
  exact q_iret E hr hlk hw hm dX0_dotAt_55
def k_X0_dotAt_48 (rec5 : Nat → Int32 → Int32 → Int32 → ST → Option (Int32 × ST)) (v0 : Nat) (v1 : Int32) (v3 : Int32) (v4 : Int32) (σ : ST) : Option (Int32 × ST) :=
  rec5 v0 v1 v3 (v4 + 1) σ
set_option maxRecDepth 20000 in
set_option maxHeartbeats 1000000 in
theorem w_X0_dotAt_48 {p : Program} {l : Launch} {e : Env} {s : State} {m : MethodId} {args : Array Value} {below : List Frame} {meth : Method} {c : Code} {D : va_G} {cy : Nat → ClassId} {b : Nat} (E : CX p m c cX0_dotAt 5 s args RX0 D cy LC) (hr : meth.sig.returnType = some .int) (hlk : meth.locks = false) {r : Int32 × ST} {rec5 : Nat → Int32 → Int32 → Int32 → ST → Option (Int32 × ST)} (hrec5 : ∀ (v0 : Nat) (v1 : Int32) (v3 : Int32) (v4 : Int32) (σ : ST) (H : Heap) (locs : List Loc) (ls : Array Slot), rec5 v0 v1 v3 v4 σ = some r → LC.1 v0 = 0 → PH D cy LC b σ s H locs → lv_has ls 5 [(0, .ref (b + v0)), (1, .int v1), (3, .int v3), (4, .int v4)] → W p l e (rmD 1) s m args below meth c H locs 0 0 (MQ below (QcP D cy LC b (some (.int r.1)) r.2) args s 0 0 (inP LC b)) (F0 m 5 ls [])) {v0 : Nat} {v1 : Int32} {v3 : Int32} {v4 : Int32} {σ : ST} {H : Heap} {locs : List Loc} {ls : Array Slot} (hm : k_X0_dotAt_48 rec5 v0 v1 v3 v4 σ = some r) (hv0 : LC.1 v0 = 0) (hw : PH D cy LC b σ s H locs) (hl : lv_has ls 5 [(0, .ref (b + v0)), (1, .int v1), (3, .int v3), (4, .int v4)]) : W p l e (rmD 1) s m args below meth c H locs 0 0 (MQ below (QcP D cy LC b (some (.int r.1)) r.2) args s 0 0 (inP LC b)) (F0 m 48 ls []) := by
  have hx := E.1.1
  have hb := E.1.2.1
  unfold k_X0_dotAt_48 at hm
  refine lv_iinc (v := v4 + 1) (lv' := [(4, .int (v4 + 1)), (0, .ref (b + v0)), (1, .int v1), (3, .int v3)]) hx hb dX0_dotAt_48 hl (k := 3) rfl rfl (by decide) rfl (fun ls hl => ?_)
  refine lv_goto (tgt := 5) hx hb dX0_dotAt_51 (by decide) ?_
  exact hrec5 _ _ _ _ _ _ _ _ hm hv0 hw (lv_sub hl [1, 2, 3, 0] rfl)
def k_X0_dotAt_5 : Nat → Nat → Int32 → Int32 → Int32 → ST → Option (Int32 × ST)
  | 0, _, _, _, _, _ => none
  | n + 1, v0, v1, v3, v4, σ => if 180 ≤ v4 then (k_X0_dotAt_54 σ) else (if v3 < 0 then (k_X0_dotAt_54 σ) else ((dvI v4 30).bind fun q3 =>
  (f_X0_bitsOf v0 v1 q3 σ).bind fun u4 =>
  (rmI v4 30).bind fun q5 =>
  if ((u4.1 >>> (q5 &&& 31)) &&& 1) = 0 then (k_X0_dotAt_48 (k_X0_dotAt_5 n) v0 v1 v3 v4 u4.2) else (if v3 = 0 then (some (v4, u4.2)) else (k_X0_dotAt_48 (k_X0_dotAt_5 n) v0 v1 (v3 + (-1)) v4 u4.2))))
set_option maxRecDepth 20000 in
set_option maxHeartbeats 1000000 in
theorem w_X0_dotAt_5 {p : Program} {l : Launch} {e : Env} {s : State} {m : MethodId} {args : Array Value} {below : List Frame} {meth : Method} {c : Code} {D : va_G} {cy : Nat → ClassId} {b : Nat} (E : CX p m c cX0_dotAt 5 s args RX0 D cy LC) (hr : meth.sig.returnType = some .int) (hlk : meth.locks = false) {r : Int32 × ST} : ∀ (n : Nat) (v0 : Nat) (v1 : Int32) (v3 : Int32) (v4 : Int32) (σ : ST) (H : Heap) (locs : List Loc) (ls : Array Slot), k_X0_dotAt_5 n v0 v1 v3 v4 σ = some r → LC.1 v0 = 0 → PH D cy LC b σ s H locs → lv_has ls 5 [(0, .ref (b + v0)), (1, .int v1), (3, .int v3), (4, .int v4)] → W p l e (rmD 1) s m args below meth c H locs 0 0 (MQ below (QcP D cy LC b (some (.int r.1)) r.2) args s 0 0 (inP LC b)) (F0 m 5 ls []) := by
  have hx := E.1.1
  have hb := E.1.2.1
  intro n
  induction n with
  | zero =>
    intro v0 v1 v3 v4 σ H locs ls hm
    cases hm
  | succ n ih =>
    intro v0 v1 v3 v4 σ H locs ls hm hv0 hw hl
    rw [k_X0_dotAt_5] at hm
    refine lv_iload hx hb dX0_dotAt_5 (lv_at hl 3 rfl) ?_
    refine lv_sipush (v := 180) hx hb dX0_dotAt_7 (by decide) ?_
    refine lv_icmp_ge (tgt := 54) hx hb dX0_dotAt_10 (by decide) (fun c1 => ?_) (fun c1 => ?_)
    · have hm := o_t c1 hm
      exact w_X0_dotAt_54 E hr hlk hm  hw (lv_sub hl [] rfl)
    · have hm := o_f c1 hm
      refine lv_iload_n hx hb dX0_dotAt_13 rfl (lv_at hl 2 rfl) ?_
      refine lv_if_lt (tgt := 54) hx hb dX0_dotAt_14 (by decide) (fun c2 => ?_) (fun c2 => ?_)
      · have hm := o_t c2 hm
        exact w_X0_dotAt_54 E hr hlk hm  hw (lv_sub hl [] rfl)
      · have hm := o_f c2 hm
        refine lv_aload_n hx hb dX0_dotAt_17 rfl (lv_at hl 0 rfl) ?_
        refine lv_iload_n hx hb dX0_dotAt_18 rfl (lv_at hl 1 rfl) ?_
        refine lv_iload hx hb dX0_dotAt_19 (lv_at hl 3 rfl) ?_
        refine lv_bipush (v := 30) hx hb dX0_dotAt_21 (by decide) ?_
        refine q_idiv E hm dX0_dotAt_23 (fun q3 hm => ?_)
        refine q_cVi (κ := 0) (C := RX0) (T := TX0) (N := 2) [] E hw hm mw_X0_38 (fun u hu => c_X0_bitsOf hu hv0) rfl (by decide) hv0 rfl rfl hl.1 (Nat.le_of_ble_eq_true rfl) ⟨Nat.le_of_ble_eq_true rfl, Nat.le_of_ble_eq_true rfl⟩ dX0_dotAt_24 (fun u4 H locs hm hw => ?_)
        refine lv_iload hx hb dX0_dotAt_27 (lv_at hl 3 rfl) ?_
        refine lv_bipush (v := 30) hx hb dX0_dotAt_29 (by decide) ?_
        refine q_irem E hm dX0_dotAt_31 (fun q5 hm => ?_)
        refine lv_ishr hx hb dX0_dotAt_32 ?_
        refine lv_iconst (v := 1) hx hb dX0_dotAt_33 (by decide) ?_
        refine lv_iand hx hb dX0_dotAt_34 ?_
        refine lv_if_eq (tgt := 48) hx hb dX0_dotAt_35 (by decide) (fun c6 => ?_) (fun c6 => ?_)
        · have hm := o_t c6 hm
          exact w_X0_dotAt_48 E hr hlk ih hm hv0 hw (lv_sub hl [0, 1, 2, 3] rfl)
        · have hm := o_f c6 hm
          refine lv_iload_n hx hb dX0_dotAt_38 rfl (lv_at hl 2 rfl) ?_
          refine lv_if_ne (tgt := 45) hx hb dX0_dotAt_39 (by decide) (fun c7 => ?_) (fun c7 => ?_)
          · have hm := o_f c7 hm
            refine lv_iinc (v := v3 + (-1)) (lv' := [(3, .int (v3 + (-1))), (0, .ref (b + v0)), (1, .int v1), (4, .int v4)]) hx hb dX0_dotAt_45 hl (k := 2) rfl rfl (by decide) rfl (fun ls hl => ?_)
            exact w_X0_dotAt_48 E hr hlk ih hm hv0 hw (lv_sub hl [1, 2, 0, 3] rfl)
          · have hm := o_t c7 hm
            refine lv_iload hx hb dX0_dotAt_42 (lv_at hl 3 rfl) ?_
            exact q_iret E hr hlk hw hm dX0_dotAt_44
def f_X0_dotAt (v0 : Nat) (v1 : Int32) (v2 : Int32) (σ : ST) : Option (Int32 × ST) :=
  k_X0_dotAt_5 FU v0 v1 v2 0 σ
set_option maxRecDepth 20000 in
set_option maxHeartbeats 1000000 in
theorem w_X0_dotAt_0 {p : Program} {l : Launch} {e : Env} {s : State} {m : MethodId} {args : Array Value} {below : List Frame} {meth : Method} {c : Code} {D : va_G} {cy : Nat → ClassId} {b : Nat} (E : CX p m c cX0_dotAt 5 s args RX0 D cy LC) (hr : meth.sig.returnType = some .int) (hlk : meth.locks = false) {r : Int32 × ST} {v0 : Nat} {v1 : Int32} {v2 : Int32} {σ : ST} {H : Heap} {locs : List Loc} {ls : Array Slot} (hm : f_X0_dotAt v0 v1 v2 σ = some r) (hv0 : LC.1 v0 = 0) (hw : PH D cy LC b σ s H locs) (hl : lv_has ls 5 [(0, .ref (b + v0)), (1, .int v1), (2, .int v2)]) : W p l e (rmD 1) s m args below meth c H locs 0 0 (MQ below (QcP D cy LC b (some (.int r.1)) r.2) args s 0 0 (inP LC b)) (F0 m 0 ls []) := by
  have hx := E.1.1
  have hb := E.1.2.1
  unfold f_X0_dotAt at hm
  refine lv_iload_n hx hb dX0_dotAt_0 rfl (lv_at hl 2 rfl) ?_
  refine lv_istore_n (lv' := [(3, .int v2), (0, .ref (b + v0)), (1, .int v1), (2, .int v2)]) hx hb dX0_dotAt_1 rfl hl (by decide) rfl (fun ls hl => ?_)
  refine lv_iconst (v := 0) hx hb dX0_dotAt_2 (by decide) ?_
  refine lv_istore (lv' := [(4, .int 0), (3, .int v2), (0, .ref (b + v0)), (1, .int v1), (2, .int v2)]) hx hb dX0_dotAt_3 hl (by decide) rfl (fun ls hl => ?_)
  exact w_X0_dotAt_5 E hr hlk _ _ _ _ _ _ _ _ _ hm hv0 hw (lv_sub hl [2, 3, 1, 0] rfl)
theorem c_X0_dotAt {l : Launch} {D : va_G} {cy : Nat → ClassId} {b : Nat} {v0 : Nat} {v1 : Int32} {v2 : Int32} {σ : ST} {r : Int32 × ST} (hm : f_X0_dotAt v0 v1 v2 σ = some r) (hv0 : LC.1 v0 = 0) : Met l yX0_dotAt (wU yX0_dotAt cX0_dotAt 5 (some .int)) (rmD 1) (PcP D cy LC b [.ref (b + v0), .int v1, .int v2] σ) (QcP D cy LC b (some (.int r.1)) r.2) 0 0 (inP LC b) :=
  q_met (lv := [(0, .ref (b + v0)), (1, .int v1), (2, .int v2)]) LC_ok (by decide) (Nat.le_of_ble_eq_true rfl) rfl (fun _ _ _ _ _ _ _ _ _ E hr hlk hw hl => w_X0_dotAt_0 E hr hlk hm hv0 hw hl)

def k_X0_sumOf_4 : Nat → Nat → Int32 → Int32 → Int32 → ST → Option (Int32 × ST)
  | 0, _, _, _, _, _ => none
  | n + 1, v0, v1, v2, v3, σ => if 6 ≤ v3 then (some (v2, σ)) else ((f_X0_seenOf v0 v1 v3 σ).bind fun u2 =>
  k_X0_sumOf_4 n v0 v1 (v2 + u2.1) (v3 + 1) u2.2)
set_option maxRecDepth 20000 in
set_option maxHeartbeats 1000000 in
theorem w_X0_sumOf_4 {p : Program} {l : Launch} {e : Env} {s : State} {m : MethodId} {args : Array Value} {below : List Frame} {meth : Method} {c : Code} {D : va_G} {cy : Nat → ClassId} {b : Nat} (E : CX p m c cX0_sumOf 4 s args RX0 D cy LC) (hr : meth.sig.returnType = some .int) (hlk : meth.locks = false) {r : Int32 × ST} : ∀ (n : Nat) (v0 : Nat) (v1 : Int32) (v2 : Int32) (v3 : Int32) (σ : ST) (H : Heap) (locs : List Loc) (ls : Array Slot), k_X0_sumOf_4 n v0 v1 v2 v3 σ = some r → LC.1 v0 = 0 → PH D cy LC b σ s H locs → lv_has ls 4 [(0, .ref (b + v0)), (1, .int v1), (2, .int v2), (3, .int v3)] → W p l e (rmD 1) s m args below meth c H locs 0 0 (MQ below (QcP D cy LC b (some (.int r.1)) r.2) args s 0 0 (inP LC b)) (F0 m 4 ls []) := by
  have hx := E.1.1
  have hb := E.1.2.1
  intro n
  induction n with
  | zero =>
    intro v0 v1 v2 v3 σ H locs ls hm
    cases hm
  | succ n ih =>
    intro v0 v1 v2 v3 σ H locs ls hm hv0 hw hl
    rw [k_X0_sumOf_4] at hm
    refine lv_iload_n hx hb dX0_sumOf_4 rfl (lv_at hl 3 rfl) ?_
    refine lv_bipush (v := 6) hx hb dX0_sumOf_5 (by decide) ?_
    refine lv_icmp_ge (tgt := 25) hx hb dX0_sumOf_7 (by decide) (fun c1 => ?_) (fun c1 => ?_)
    · have hm := o_t c1 hm
      refine lv_iload_n hx hb dX0_sumOf_25 rfl (lv_at hl 2 rfl) ?_
      exact q_iret E hr hlk hw hm dX0_sumOf_26
    · have hm := o_f c1 hm
      refine lv_iload_n hx hb dX0_sumOf_10 rfl (lv_at hl 2 rfl) ?_
      refine lv_aload_n hx hb dX0_sumOf_11 rfl (lv_at hl 0 rfl) ?_
      refine lv_iload_n hx hb dX0_sumOf_12 rfl (lv_at hl 1 rfl) ?_
      refine lv_iload_n hx hb dX0_sumOf_13 rfl (lv_at hl 3 rfl) ?_
      refine q_cVi (κ := 0) (C := RX0) (T := TX0) (N := 2) [.int v2] E hw hm mw_X0_47 (fun u hu => c_X0_seenOf hu hv0) rfl (by decide) hv0 rfl rfl hl.1 (Nat.le_of_ble_eq_true rfl) ⟨Nat.le_of_ble_eq_true rfl, Nat.le_of_ble_eq_true rfl⟩ dX0_sumOf_14 (fun u2 H locs hm hw => ?_)
      refine lv_iadd hx hb dX0_sumOf_17 ?_
      refine lv_istore_n (lv' := [(2, .int (v2 + u2.1)), (0, .ref (b + v0)), (1, .int v1), (3, .int v3)]) hx hb dX0_sumOf_18 rfl hl (by decide) rfl (fun ls hl => ?_)
      refine lv_iinc (v := v3 + 1) (lv' := [(3, .int (v3 + 1)), (2, .int (v2 + u2.1)), (0, .ref (b + v0)), (1, .int v1)]) hx hb dX0_sumOf_19 hl (k := 3) rfl rfl (by decide) rfl (fun ls hl => ?_)
      refine lv_goto (tgt := 4) hx hb dX0_sumOf_22 (by decide) ?_
      exact ih _ _ _ _ _ _ _ _ hm hv0 hw (lv_sub hl [2, 3, 1, 0] rfl)
def f_X0_sumOf (v0 : Nat) (v1 : Int32) (σ : ST) : Option (Int32 × ST) :=
  k_X0_sumOf_4 FU v0 v1 0 0 σ
set_option maxRecDepth 20000 in
set_option maxHeartbeats 1000000 in
theorem w_X0_sumOf_0 {p : Program} {l : Launch} {e : Env} {s : State} {m : MethodId} {args : Array Value} {below : List Frame} {meth : Method} {c : Code} {D : va_G} {cy : Nat → ClassId} {b : Nat} (E : CX p m c cX0_sumOf 4 s args RX0 D cy LC) (hr : meth.sig.returnType = some .int) (hlk : meth.locks = false) {r : Int32 × ST} {v0 : Nat} {v1 : Int32} {σ : ST} {H : Heap} {locs : List Loc} {ls : Array Slot} (hm : f_X0_sumOf v0 v1 σ = some r) (hv0 : LC.1 v0 = 0) (hw : PH D cy LC b σ s H locs) (hl : lv_has ls 4 [(0, .ref (b + v0)), (1, .int v1)]) : W p l e (rmD 1) s m args below meth c H locs 0 0 (MQ below (QcP D cy LC b (some (.int r.1)) r.2) args s 0 0 (inP LC b)) (F0 m 0 ls []) := by
  have hx := E.1.1
  have hb := E.1.2.1
  unfold f_X0_sumOf at hm
  refine lv_iconst (v := 0) hx hb dX0_sumOf_0 (by decide) ?_
  refine lv_istore_n (lv' := [(2, .int 0), (0, .ref (b + v0)), (1, .int v1)]) hx hb dX0_sumOf_1 rfl hl (by decide) rfl (fun ls hl => ?_)
  refine lv_iconst (v := 0) hx hb dX0_sumOf_2 (by decide) ?_
  refine lv_istore_n (lv' := [(3, .int 0), (2, .int 0), (0, .ref (b + v0)), (1, .int v1)]) hx hb dX0_sumOf_3 rfl hl (by decide) rfl (fun ls hl => ?_)
  exact w_X0_sumOf_4 E hr hlk _ _ _ _ _ _ _ _ _ hm hv0 hw (lv_sub hl [2, 3, 1, 0] rfl)
theorem c_X0_sumOf {l : Launch} {D : va_G} {cy : Nat → ClassId} {b : Nat} {v0 : Nat} {v1 : Int32} {σ : ST} {r : Int32 × ST} (hm : f_X0_sumOf v0 v1 σ = some r) (hv0 : LC.1 v0 = 0) : Met l yX0_sumOf (wU yX0_sumOf cX0_sumOf 4 (some .int)) (rmD 1) (PcP D cy LC b [.ref (b + v0), .int v1] σ) (QcP D cy LC b (some (.int r.1)) r.2) 0 0 (inP LC b) :=
  q_met (lv := [(0, .ref (b + v0)), (1, .int v1)]) LC_ok (by decide) (Nat.le_of_ble_eq_true rfl) rfl (fun _ _ _ _ _ _ _ _ _ E hr hlk hw hl => w_X0_sumOf_0 E hr hlk hm hv0 hw hl)

def k_X7_isPlace_18 (s0 : Int32) (σ : ST) : Option (Int32 × ST) :=
  (ckZ s0).bind fun z => some (z, σ)
set_option maxRecDepth 20000 in
set_option maxHeartbeats 1000000 in
theorem w_X7_isPlace_18 {p : Program} {l : Launch} {e : Env} {s : State} {m : MethodId} {args : Array Value} {below : List Frame} {meth : Method} {c : Code} {D : va_G} {cy : Nat → ClassId} {b : Nat} (E : CX p m c cX7_isPlace 3 s args RX7 D cy LC) (hr : meth.sig.returnType = some .boolean) (hlk : meth.locks = false) {r : Int32 × ST} {s0 : Int32} {σ : ST} {H : Heap} {locs : List Loc} {ls : Array Slot} (hm : k_X7_isPlace_18 s0 σ = some r) (hw : PH D cy LC b σ s H locs) (hl : lv_has ls 3 []) : W p l e (rmD 0) s m args below meth c H locs 0 0 (MQ below (QcP D cy LC b (some (.int r.1)) r.2) args s 0 0 (inP LC b)) (F0 m 18 ls [.int s0]) := by
  have hx := E.1.1
  have hb := E.1.2.1
  unfold k_X7_isPlace_18 at hm
  exact q_zret E hr hlk hw hm dX7_isPlace_18
def f_X7_isPlace (v0 : Nat) (v1 : Int32) (v2 : Int32) (σ : ST) : Option (Int32 × ST) :=
  (ldA LC σ (LC.2.1 v0 5) v1).bind fun a1 =>
  if ((a1 >>> (v2 &&& 31)) &&& 1) = 0 then (k_X7_isPlace_18 0 σ) else (k_X7_isPlace_18 1 σ)
set_option maxRecDepth 20000 in
set_option maxHeartbeats 1000000 in
theorem w_X7_isPlace_0 {p : Program} {l : Launch} {e : Env} {s : State} {m : MethodId} {args : Array Value} {below : List Frame} {meth : Method} {c : Code} {D : va_G} {cy : Nat → ClassId} {b : Nat} (E : CX p m c cX7_isPlace 3 s args RX7 D cy LC) (hr : meth.sig.returnType = some .boolean) (hlk : meth.locks = false) {r : Int32 × ST} {v0 : Nat} {v1 : Int32} {v2 : Int32} {σ : ST} {H : Heap} {locs : List Loc} {ls : Array Slot} (hm : f_X7_isPlace v0 v1 v2 σ = some r) (hv0 : LC.1 v0 = 7) (hw : PH D cy LC b σ s H locs) (hl : lv_has ls 3 [(0, .ref (b + v0)), (1, .int v1), (2, .int v2)]) : W p l e (rmD 0) s m args below meth c H locs 0 0 (MQ below (QcP D cy LC b (some (.int r.1)) r.2) args s 0 0 (inP LC b)) (F0 m 0 ls []) := by
  have hx := E.1.1
  have hb := E.1.2.1
  unfold f_X7_isPlace at hm
  refine lv_aload_n hx hb dX7_isPlace_0 rfl (lv_at hl 0 rfl) ?_
  refine q_geta E hw fw_X7_28 rfl hv0 dX7_isPlace_1 ?_
  refine lv_iload_n hx hb dX7_isPlace_4 rfl (lv_at hl 1 rfl) ?_
  refine q_iald E hw (tC_7_5 hv0) hm dX7_isPlace_5 (fun a1 hm => ?_)
  refine lv_iload_n hx hb dX7_isPlace_6 rfl (lv_at hl 2 rfl) ?_
  refine lv_ishr hx hb dX7_isPlace_7 ?_
  refine lv_iconst (v := 1) hx hb dX7_isPlace_8 (by decide) ?_
  refine lv_iand hx hb dX7_isPlace_9 ?_
  refine lv_if_eq (tgt := 17) hx hb dX7_isPlace_10 (by decide) (fun c2 => ?_) (fun c2 => ?_)
  · have hm := o_t c2 hm
    refine lv_iconst (v := 0) hx hb dX7_isPlace_17 (by decide) ?_
    exact w_X7_isPlace_18 E hr hlk hm  hw (lv_sub hl [] rfl)
  · have hm := o_f c2 hm
    refine lv_iconst (v := 1) hx hb dX7_isPlace_13 (by decide) ?_
    refine lv_goto (tgt := 18) hx hb dX7_isPlace_14 (by decide) ?_
    exact w_X7_isPlace_18 E hr hlk hm  hw (lv_sub hl [] rfl)
theorem c_X7_isPlace {l : Launch} {D : va_G} {cy : Nat → ClassId} {b : Nat} {v0 : Nat} {v1 : Int32} {v2 : Int32} {σ : ST} {r : Int32 × ST} (hm : f_X7_isPlace v0 v1 v2 σ = some r) (hv0 : LC.1 v0 = 7) : Met l yX7_isPlace (wU yX7_isPlace cX7_isPlace 3 (some .boolean)) (rmD 0) (PcP D cy LC b [.ref (b + v0), .int v1, .int v2] σ) (QcP D cy LC b (some (.int r.1)) r.2) 0 0 (inP LC b) :=
  q_met (lv := [(0, .ref (b + v0)), (1, .int v1), (2, .int v2)]) LC_ok (by decide) (Nat.le_of_ble_eq_true rfl) rfl (fun _ _ _ _ _ _ _ _ _ E hr hlk hw hl => w_X7_isPlace_0 E hr hlk hm hv0 hw hl)

def k_X7_isSum_16 (s0 : Int32) (σ : ST) : Option (Int32 × ST) :=
  (ckZ s0).bind fun z => some (z, σ)
set_option maxRecDepth 20000 in
set_option maxHeartbeats 1000000 in
theorem w_X7_isSum_16 {p : Program} {l : Launch} {e : Env} {s : State} {m : MethodId} {args : Array Value} {below : List Frame} {meth : Method} {c : Code} {D : va_G} {cy : Nat → ClassId} {b : Nat} (E : CX p m c cX7_isSum 2 s args RX7 D cy LC) (hr : meth.sig.returnType = some .boolean) (hlk : meth.locks = false) {r : Int32 × ST} {s0 : Int32} {σ : ST} {H : Heap} {locs : List Loc} {ls : Array Slot} (hm : k_X7_isSum_16 s0 σ = some r) (hw : PH D cy LC b σ s H locs) (hl : lv_has ls 2 []) : W p l e (rmD 0) s m args below meth c H locs 0 0 (MQ below (QcP D cy LC b (some (.int r.1)) r.2) args s 0 0 (inP LC b)) (F0 m 16 ls [.int s0]) := by
  have hx := E.1.1
  have hb := E.1.2.1
  unfold k_X7_isSum_16 at hm
  exact q_zret E hr hlk hw hm dX7_isSum_16
def f_X7_isSum (v0 : Nat) (v1 : Int32) (σ : ST) : Option (Int32 × ST) :=
  if (((gI σ v0 8) >>> (v1 &&& 31)) &&& 1) = 0 then (k_X7_isSum_16 0 σ) else (k_X7_isSum_16 1 σ)
set_option maxRecDepth 20000 in
set_option maxHeartbeats 1000000 in
theorem w_X7_isSum_0 {p : Program} {l : Launch} {e : Env} {s : State} {m : MethodId} {args : Array Value} {below : List Frame} {meth : Method} {c : Code} {D : va_G} {cy : Nat → ClassId} {b : Nat} (E : CX p m c cX7_isSum 2 s args RX7 D cy LC) (hr : meth.sig.returnType = some .boolean) (hlk : meth.locks = false) {r : Int32 × ST} {v0 : Nat} {v1 : Int32} {σ : ST} {H : Heap} {locs : List Loc} {ls : Array Slot} (hm : f_X7_isSum v0 v1 σ = some r) (hv0 : LC.1 v0 = 7) (hw : PH D cy LC b σ s H locs) (hl : lv_has ls 2 [(0, .ref (b + v0)), (1, .int v1)]) : W p l e (rmD 0) s m args below meth c H locs 0 0 (MQ below (QcP D cy LC b (some (.int r.1)) r.2) args s 0 0 (inP LC b)) (F0 m 0 ls []) := by
  have hx := E.1.1
  have hb := E.1.2.1
  unfold f_X7_isSum at hm
  refine lv_aload_n hx hb dX7_isSum_0 rfl (lv_at hl 0 rfl) ?_
  refine q_geti E hw fw_X7_38 rfl hv0 dX7_isSum_1 ?_
  refine lv_iload_n hx hb dX7_isSum_4 rfl (lv_at hl 1 rfl) ?_
  refine lv_ishr hx hb dX7_isSum_5 ?_
  refine lv_iconst (v := 1) hx hb dX7_isSum_6 (by decide) ?_
  refine lv_iand hx hb dX7_isSum_7 ?_
  refine lv_if_eq (tgt := 15) hx hb dX7_isSum_8 (by decide) (fun c1 => ?_) (fun c1 => ?_)
  · have hm := o_t c1 hm
    refine lv_iconst (v := 0) hx hb dX7_isSum_15 (by decide) ?_
    exact w_X7_isSum_16 E hr hlk hm  hw (lv_sub hl [] rfl)
  · have hm := o_f c1 hm
    refine lv_iconst (v := 1) hx hb dX7_isSum_11 (by decide) ?_
    refine lv_goto (tgt := 16) hx hb dX7_isSum_12 (by decide) ?_
    exact w_X7_isSum_16 E hr hlk hm  hw (lv_sub hl [] rfl)
theorem c_X7_isSum {l : Launch} {D : va_G} {cy : Nat → ClassId} {b : Nat} {v0 : Nat} {v1 : Int32} {σ : ST} {r : Int32 × ST} (hm : f_X7_isSum v0 v1 σ = some r) (hv0 : LC.1 v0 = 7) : Met l yX7_isSum (wU yX7_isSum cX7_isSum 2 (some .boolean)) (rmD 0) (PcP D cy LC b [.ref (b + v0), .int v1] σ) (QcP D cy LC b (some (.int r.1)) r.2) 0 0 (inP LC b) :=
  q_met (lv := [(0, .ref (b + v0)), (1, .int v1)]) LC_ok (by decide) (Nat.le_of_ble_eq_true rfl) rfl (fun _ _ _ _ _ _ _ _ _ E hr hlk hw hl => w_X7_isSum_0 E hr hlk hm hv0 hw hl)

def f_X2_clear (v0 : Nat) (σ : ST) : Option (ST) :=
  (stZ σ v0 6 0).bind fun σ1 =>
  (stI σ1 v0 7 0).bind fun σ2 =>
  (stI σ2 v0 8 0).bind fun σ3 =>
  some σ3
set_option maxRecDepth 20000 in
set_option maxHeartbeats 1000000 in
theorem w_X2_clear_0 {p : Program} {l : Launch} {e : Env} {s : State} {m : MethodId} {args : Array Value} {below : List Frame} {meth : Method} {c : Code} {D : va_G} {cy : Nat → ClassId} {b : Nat} (E : CX p m c cX2_clear 1 s args RX2 D cy LC) (hr : meth.sig.returnType = none) (hlk : meth.locks = false) {r : ST} {v0 : Nat} {σ : ST} {H : Heap} {locs : List Loc} {ls : Array Slot} (hm : f_X2_clear v0 σ = some r) (hv0 : LC.1 v0 = 2) (hw : PH D cy LC b σ s H locs) (hl : lv_has ls 1 [(0, .ref (b + v0))]) : W p l e (rmD 0) s m args below meth c H locs 0 0 (MQ below (QcP D cy LC b none r) args s 0 0 (inP LC b)) (F0 m 0 ls []) := by
  have hx := E.1.1
  have hb := E.1.2.1
  unfold f_X2_clear at hm
  refine lv_aload_n hx hb dX2_clear_0 rfl (lv_at hl 0 rfl) ?_
  refine lv_iconst (v := 0) hx hb dX2_clear_1 (by decide) ?_
  refine q_pz E hw hm fw_X2_28 rfl rfl hv0 dX2_clear_2 (fun σ1 H locs hm hw => ?_)
  refine lv_aload_n hx hb dX2_clear_5 rfl (lv_at hl 0 rfl) ?_
  refine lv_iconst (v := 0) hx hb dX2_clear_6 (by decide) ?_
  refine q_pi E hw hm fw_X2_32 rfl rfl hv0 dX2_clear_7 (fun σ2 H locs hm hw => ?_)
  refine lv_aload_n hx hb dX2_clear_10 rfl (lv_at hl 0 rfl) ?_
  refine lv_iconst (v := 0) hx hb dX2_clear_11 (by decide) ?_
  refine q_pi E hw hm fw_X2_36 rfl rfl hv0 dX2_clear_12 (fun σ3 H locs hm hw => ?_)
  exact q_vret E hr hlk hw hm dX2_clear_15
theorem c_X2_clear {l : Launch} {D : va_G} {cy : Nat → ClassId} {b : Nat} {v0 : Nat} {σ : ST} {r : ST} (hm : f_X2_clear v0 σ = some r) (hv0 : LC.1 v0 = 2) : Met l yX2_clear (wU yX2_clear cX2_clear 1 (none)) (rmD 0) (PcP D cy LC b [.ref (b + v0)] σ) (QcP D cy LC b none r) 0 0 (inP LC b) :=
  q_met (lv := [(0, .ref (b + v0))]) LC_ok (by decide) (Nat.le_of_ble_eq_true rfl) rfl (fun _ _ _ _ _ _ _ _ _ E hr hlk hw hl => w_X2_clear_0 E hr hlk hm hv0 hw hl)

def f_X2_copy (v0 : Nat) (v1 : Nat) (σ : ST) : Option (ST) :=
  (stZ σ v0 6 (gI σ v1 6)).bind fun σ1 =>
  (stI σ1 v0 7 (gI σ1 v1 7)).bind fun σ2 =>
  (stI σ2 v0 8 (gI σ2 v1 8)).bind fun σ3 =>
  (cpA LC σ3 (LC.2.1 v1 0) 0 (LC.2.1 v0 0) 0 (gI σ3 v0 7)).bind fun σ4 =>
  (cpA LC σ4 (LC.2.1 v1 1) 0 (LC.2.1 v0 1) 0 (gI σ4 v0 7)).bind fun σ5 =>
  (cpA LC σ5 (LC.2.1 v1 2) 0 (LC.2.1 v0 2) 0 (gI σ5 v0 7)).bind fun σ6 =>
  (cpA LC σ6 (LC.2.1 v1 3) 0 (LC.2.1 v0 3) 0 (gI σ6 v0 7)).bind fun σ7 =>
  (cpA LC σ7 (LC.2.1 v1 4) 0 (LC.2.1 v0 4) 0 (gI σ7 v0 7)).bind fun σ8 =>
  (cpA LC σ8 (LC.2.1 v1 5) 0 (LC.2.1 v0 5) 0 (gI σ8 v0 7)).bind fun σ9 =>
  some σ9
set_option maxRecDepth 20000 in
set_option maxHeartbeats 1000000 in
theorem w_X2_copy_0 {p : Program} {l : Launch} {e : Env} {s : State} {m : MethodId} {args : Array Value} {below : List Frame} {meth : Method} {c : Code} {D : va_G} {cy : Nat → ClassId} {b : Nat} (E : CX p m c cX2_copy 2 s args RX2 D cy LC) (hr : meth.sig.returnType = none) (hlk : meth.locks = false) {r : ST} {v0 : Nat} {v1 : Nat} {σ : ST} {H : Heap} {locs : List Loc} {ls : Array Slot} (hm : f_X2_copy v0 v1 σ = some r) (hv0 : LC.1 v0 = 2) (hv1 : LC.1 v1 = 2) (hw : PH D cy LC b σ s H locs) (hl : lv_has ls 2 [(0, .ref (b + v0)), (1, .ref (b + v1))]) : W p l e (rmD 1) s m args below meth c H locs 0 0 (MQ below (QcP D cy LC b none r) args s 0 0 (inP LC b)) (F0 m 0 ls []) := by
  have hx := E.1.1
  have hb := E.1.2.1
  unfold f_X2_copy at hm
  refine lv_aload_n hx hb dX2_copy_0 rfl (lv_at hl 0 rfl) ?_
  refine lv_aload_n hx hb dX2_copy_1 rfl (lv_at hl 1 rfl) ?_
  refine q_geti E hw fw_X2_28 rfl hv1 dX2_copy_2 ?_
  refine q_pz E hw hm fw_X2_28 rfl rfl hv0 dX2_copy_5 (fun σ1 H locs hm hw => ?_)
  refine lv_aload_n hx hb dX2_copy_8 rfl (lv_at hl 0 rfl) ?_
  refine lv_aload_n hx hb dX2_copy_9 rfl (lv_at hl 1 rfl) ?_
  refine q_geti E hw fw_X2_32 rfl hv1 dX2_copy_10 ?_
  refine q_pi E hw hm fw_X2_32 rfl rfl hv0 dX2_copy_13 (fun σ2 H locs hm hw => ?_)
  refine lv_aload_n hx hb dX2_copy_16 rfl (lv_at hl 0 rfl) ?_
  refine lv_aload_n hx hb dX2_copy_17 rfl (lv_at hl 1 rfl) ?_
  refine q_geti E hw fw_X2_36 rfl hv1 dX2_copy_18 ?_
  refine q_pi E hw hm fw_X2_36 rfl rfl hv0 dX2_copy_21 (fun σ3 H locs hm hw => ?_)
  refine lv_aload_n hx hb dX2_copy_24 rfl (lv_at hl 1 rfl) ?_
  refine q_geta E hw fw_X2_9 rfl hv1 dX2_copy_25 ?_
  refine lv_iconst (v := 0) hx hb dX2_copy_28 (by decide) ?_
  refine lv_aload_n hx hb dX2_copy_29 rfl (lv_at hl 0 rfl) ?_
  refine q_geta E hw fw_X2_9 rfl hv0 dX2_copy_30 ?_
  refine lv_iconst (v := 0) hx hb dX2_copy_33 (by decide) ?_
  refine lv_aload_n hx hb dX2_copy_34 rfl (lv_at hl 0 rfl) ?_
  refine q_geti E hw fw_X2_32 rfl hv0 dX2_copy_35 ?_
  refine q_cpi E hw hm (rL33 _ (List.mem_of_getElem? (i := 8) rfl)) w_arraycopy hl.1 (tC_2_0 hv1) (tC_2_0 hv0) (by decide) (by decide) dX2_copy_38 (fun σ4 H locs hm hw => ?_)
  refine lv_aload_n hx hb dX2_copy_41 rfl (lv_at hl 1 rfl) ?_
  refine q_geta E hw fw_X2_13 rfl hv1 dX2_copy_42 ?_
  refine lv_iconst (v := 0) hx hb dX2_copy_45 (by decide) ?_
  refine lv_aload_n hx hb dX2_copy_46 rfl (lv_at hl 0 rfl) ?_
  refine q_geta E hw fw_X2_13 rfl hv0 dX2_copy_47 ?_
  refine lv_iconst (v := 0) hx hb dX2_copy_50 (by decide) ?_
  refine lv_aload_n hx hb dX2_copy_51 rfl (lv_at hl 0 rfl) ?_
  refine q_geti E hw fw_X2_32 rfl hv0 dX2_copy_52 ?_
  refine q_cpi E hw hm (rL33 _ (List.mem_of_getElem? (i := 8) rfl)) w_arraycopy hl.1 (tC_2_1 hv1) (tC_2_1 hv0) (by decide) (by decide) dX2_copy_55 (fun σ5 H locs hm hw => ?_)
  refine lv_aload_n hx hb dX2_copy_58 rfl (lv_at hl 1 rfl) ?_
  refine q_geta E hw fw_X2_16 rfl hv1 dX2_copy_59 ?_
  refine lv_iconst (v := 0) hx hb dX2_copy_62 (by decide) ?_
  refine lv_aload_n hx hb dX2_copy_63 rfl (lv_at hl 0 rfl) ?_
  refine q_geta E hw fw_X2_16 rfl hv0 dX2_copy_64 ?_
  refine lv_iconst (v := 0) hx hb dX2_copy_67 (by decide) ?_
  refine lv_aload_n hx hb dX2_copy_68 rfl (lv_at hl 0 rfl) ?_
  refine q_geti E hw fw_X2_32 rfl hv0 dX2_copy_69 ?_
  refine q_cpi E hw hm (rL33 _ (List.mem_of_getElem? (i := 8) rfl)) w_arraycopy hl.1 (tC_2_2 hv1) (tC_2_2 hv0) (by decide) (by decide) dX2_copy_72 (fun σ6 H locs hm hw => ?_)
  refine lv_aload_n hx hb dX2_copy_75 rfl (lv_at hl 1 rfl) ?_
  refine q_geta E hw fw_X2_19 rfl hv1 dX2_copy_76 ?_
  refine lv_iconst (v := 0) hx hb dX2_copy_79 (by decide) ?_
  refine lv_aload_n hx hb dX2_copy_80 rfl (lv_at hl 0 rfl) ?_
  refine q_geta E hw fw_X2_19 rfl hv0 dX2_copy_81 ?_
  refine lv_iconst (v := 0) hx hb dX2_copy_84 (by decide) ?_
  refine lv_aload_n hx hb dX2_copy_85 rfl (lv_at hl 0 rfl) ?_
  refine q_geti E hw fw_X2_32 rfl hv0 dX2_copy_86 ?_
  refine q_cpi E hw hm (rL33 _ (List.mem_of_getElem? (i := 8) rfl)) w_arraycopy hl.1 (tC_2_3 hv1) (tC_2_3 hv0) (by decide) (by decide) dX2_copy_89 (fun σ7 H locs hm hw => ?_)
  refine lv_aload_n hx hb dX2_copy_92 rfl (lv_at hl 1 rfl) ?_
  refine q_geta E hw fw_X2_22 rfl hv1 dX2_copy_93 ?_
  refine lv_iconst (v := 0) hx hb dX2_copy_96 (by decide) ?_
  refine lv_aload_n hx hb dX2_copy_97 rfl (lv_at hl 0 rfl) ?_
  refine q_geta E hw fw_X2_22 rfl hv0 dX2_copy_98 ?_
  refine lv_iconst (v := 0) hx hb dX2_copy_101 (by decide) ?_
  refine lv_aload_n hx hb dX2_copy_102 rfl (lv_at hl 0 rfl) ?_
  refine q_geti E hw fw_X2_32 rfl hv0 dX2_copy_103 ?_
  refine q_cpi E hw hm (rL33 _ (List.mem_of_getElem? (i := 8) rfl)) w_arraycopy hl.1 (tC_2_4 hv1) (tC_2_4 hv0) (by decide) (by decide) dX2_copy_106 (fun σ8 H locs hm hw => ?_)
  refine lv_aload_n hx hb dX2_copy_109 rfl (lv_at hl 1 rfl) ?_
  refine q_geta E hw fw_X2_25 rfl hv1 dX2_copy_110 ?_
  refine lv_iconst (v := 0) hx hb dX2_copy_113 (by decide) ?_
  refine lv_aload_n hx hb dX2_copy_114 rfl (lv_at hl 0 rfl) ?_
  refine q_geta E hw fw_X2_25 rfl hv0 dX2_copy_115 ?_
  refine lv_iconst (v := 0) hx hb dX2_copy_118 (by decide) ?_
  refine lv_aload_n hx hb dX2_copy_119 rfl (lv_at hl 0 rfl) ?_
  refine q_geti E hw fw_X2_32 rfl hv0 dX2_copy_120 ?_
  refine q_cpi E hw hm (rL33 _ (List.mem_of_getElem? (i := 8) rfl)) w_arraycopy hl.1 (tC_2_5 hv1) (tC_2_5 hv0) (by decide) (by decide) dX2_copy_123 (fun σ9 H locs hm hw => ?_)
  exact q_vret E hr hlk hw hm dX2_copy_126
theorem c_X2_copy {l : Launch} {D : va_G} {cy : Nat → ClassId} {b : Nat} {v0 : Nat} {v1 : Nat} {σ : ST} {r : ST} (hm : f_X2_copy v0 v1 σ = some r) (hv0 : LC.1 v0 = 2) (hv1 : LC.1 v1 = 2) : Met l yX2_copy (wU yX2_copy cX2_copy 2 (none)) (rmD 1) (PcP D cy LC b [.ref (b + v0), .ref (b + v1)] σ) (QcP D cy LC b none r) 0 0 (inP LC b) :=
  q_met (lv := [(0, .ref (b + v0)), (1, .ref (b + v1))]) LC_ok (by decide) (Nat.le_of_ble_eq_true rfl) rfl (fun _ _ _ _ _ _ _ _ _ E hr hlk hw hl => w_X2_copy_0 E hr hlk hm hv0 hv1 hw hl)

def k_J0_isLatin1_aae02_18 (s0 : Int32) (σ : ST) : Option (Int32 × ST) :=
  (ckZ s0).bind fun z => some (z, σ)
set_option maxRecDepth 20000 in
set_option maxHeartbeats 1000000 in
theorem w_J0_isLatin1_aae02_18 {p : Program} {l : Launch} {e : Env} {s : State} {m : MethodId} {args : Array Value} {below : List Frame} {meth : Method} {c : Code} {D : va_G} {cy : Nat → ClassId} {b : Nat} (E : CX p m c cJ0_isLatin1_aae02 1 s args RJ0 D cy LC) (hr : meth.sig.returnType = some .boolean) (hlk : meth.locks = false) {r : Int32 × ST} {s0 : Int32} {σ : ST} {H : Heap} {locs : List Loc} {ls : Array Slot} (hm : k_J0_isLatin1_aae02_18 s0 σ = some r) (hw : PH D cy LC b σ s H locs) (hl : lv_has ls 1 []) : W p l e (rmD 0) s m args below meth c H locs 0 0 (MQ below (QcP D cy LC b (some (.int r.1)) r.2) args s 0 0 (inP LC b)) (F0 m 18 ls [.int s0]) := by
  have hx := E.1.1
  have hb := E.1.2.1
  unfold k_J0_isLatin1_aae02_18 at hm
  exact q_zret E hr hlk hw hm dJ0_isLatin1_aae02_18
def k_J0_isLatin1_aae02_17 (σ : ST) : Option (Int32 × ST) :=
  k_J0_isLatin1_aae02_18 0 σ
set_option maxRecDepth 20000 in
set_option maxHeartbeats 1000000 in
theorem w_J0_isLatin1_aae02_17 {p : Program} {l : Launch} {e : Env} {s : State} {m : MethodId} {args : Array Value} {below : List Frame} {meth : Method} {c : Code} {D : va_G} {cy : Nat → ClassId} {b : Nat} (E : CX p m c cJ0_isLatin1_aae02 1 s args RJ0 D cy LC) (hr : meth.sig.returnType = some .boolean) (hlk : meth.locks = false) {r : Int32 × ST} {σ : ST} {H : Heap} {locs : List Loc} {ls : Array Slot} (hm : k_J0_isLatin1_aae02_17  σ = some r) (hw : PH D cy LC b σ s H locs) (hl : lv_has ls 1 []) : W p l e (rmD 0) s m args below meth c H locs 0 0 (MQ below (QcP D cy LC b (some (.int r.1)) r.2) args s 0 0 (inP LC b)) (F0 m 17 ls []) := by
  have hx := E.1.1
  have hb := E.1.2.1
  unfold k_J0_isLatin1_aae02_17 at hm
  refine lv_iconst (v := 0) hx hb dJ0_isLatin1_aae02_17 (by decide) ?_
  exact w_J0_isLatin1_aae02_18 E hr hlk hm  hw (lv_sub hl [] rfl)
def f_J0_isLatin1_aae02 (v0 : Nat) (σ : ST) : Option (Int32 × ST) :=
  if (1 : Int32) = 0 then (k_J0_isLatin1_aae02_17 σ) else (if (0 : Int32) = 0 then (k_J0_isLatin1_aae02_18 1 σ) else (k_J0_isLatin1_aae02_17 σ))
set_option maxRecDepth 20000 in
set_option maxHeartbeats 1000000 in
theorem w_J0_isLatin1_aae02_0 {p : Program} {l : Launch} {e : Env} {s : State} {m : MethodId} {args : Array Value} {below : List Frame} {meth : Method} {c : Code} {D : va_G} {cy : Nat → ClassId} {b : Nat} (E : CX p m c cJ0_isLatin1_aae02 1 s args RJ0 D cy LC) (hr : meth.sig.returnType = some .boolean) (hlk : meth.locks = false) {r : Int32 × ST} {v0 : Nat} {σ : ST} {H : Heap} {locs : List Loc} {ls : Array Slot} (hm : f_J0_isLatin1_aae02 v0 σ = some r) (hv0 : v0 < 15) (hw : PH D cy LC b σ s H locs) (hl : lv_has ls 1 [(0, .ref (cy (100 + v0)))]) : W p l e (rmD 0) s m args below meth c H locs 0 0 (MQ below (QcP D cy LC b (some (.int r.1)) r.2) args s 0 0 (inP LC b)) (F0 m 0 ls []) := by
  have hx := E.1.1
  have hb := E.1.2.1
  unfold f_J0_isLatin1_aae02 at hm
  refine q_cmps E hw (rL17 _ (List.mem_of_getElem? (i := 20) rfl)) dJ0_isLatin1_aae02_0 ?_
  refine lv_if_eq (tgt := 17) hx hb dJ0_isLatin1_aae02_3 (by decide) (fun c1 => ?_) (fun c1 => ?_)
  · have hm := o_t c1 hm
    exact w_J0_isLatin1_aae02_17 E hr hlk hm  hw (lv_sub hl [] rfl)
  · have hm := o_f c1 hm
    refine lv_aload_n hx hb dJ0_isLatin1_aae02_6 rfl (lv_at hl 0 rfl) ?_
    refine q_getC E hw hv0 (rL17 _ (List.mem_of_getElem? (i := 21) rfl)) dJ0_isLatin1_aae02_7 ?_
    refine lv_if_ne (tgt := 17) hx hb dJ0_isLatin1_aae02_10 (by decide) (fun c2 => ?_) (fun c2 => ?_)
    · have hm := o_f c2 hm
      exact w_J0_isLatin1_aae02_17 E hr hlk hm  hw (lv_sub hl [] rfl)
    · have hm := o_t c2 hm
      refine lv_iconst (v := 1) hx hb dJ0_isLatin1_aae02_13 (by decide) ?_
      refine lv_goto (tgt := 18) hx hb dJ0_isLatin1_aae02_14 (by decide) ?_
      exact w_J0_isLatin1_aae02_18 E hr hlk hm  hw (lv_sub hl [] rfl)
theorem c_J0_isLatin1_aae02 {l : Launch} {D : va_G} {cy : Nat → ClassId} {b : Nat} {v0 : Nat} {σ : ST} {r : Int32 × ST} (hm : f_J0_isLatin1_aae02 v0 σ = some r) (hv0 : v0 < 15) : Met l yJ0_isLatin1_aae02 (wU yJ0_isLatin1_aae02 cJ0_isLatin1_aae02 1 (some .boolean)) (rmD 0) (PcP D cy LC b [.ref (cy (100 + v0))] σ) (QcP D cy LC b (some (.int r.1)) r.2) 0 0 (inP LC b) :=
  q_met (lv := [(0, .ref (cy (100 + v0)))]) LC_ok (by decide) (Nat.le_of_ble_eq_true rfl) rfl (fun _ _ _ _ _ _ _ _ _ E hr hlk hw hl => w_J0_isLatin1_aae02_0 E hr hlk hm hv0 hw hl)

def k_J0_isLatin1_aae02r_18 (s0 : Int32) (σ : ST) : Option (Int32 × ST) :=
  (ckZ s0).bind fun z => some (z, σ)
set_option maxRecDepth 20000 in
set_option maxHeartbeats 1000000 in
theorem w_J0_isLatin1_aae02r_18 {p : Program} {l : Launch} {e : Env} {s : State} {m : MethodId} {args : Array Value} {below : List Frame} {meth : Method} {c : Code} {D : va_G} {cy : Nat → ClassId} {b : Nat} (E : CX p m c cJ0_isLatin1_aae02 1 s args RJ0 D cy LR) (hr : meth.sig.returnType = some .boolean) (hlk : meth.locks = false) {r : Int32 × ST} {s0 : Int32} {σ : ST} {H : Heap} {locs : List Loc} {ls : Array Slot} (hm : k_J0_isLatin1_aae02r_18 s0 σ = some r) (hw : PH D cy LR b σ s H locs) (hl : lv_has ls 1 []) : W p l e (rmD 0) s m args below meth c H locs 0 0 (MQ below (QcP D cy LR b (some (.int r.1)) r.2) args s 0 0 (inP LR b)) (F0 m 18 ls [.int s0]) := by
  have hx := E.1.1
  have hb := E.1.2.1
  unfold k_J0_isLatin1_aae02r_18 at hm
  exact q_zret E hr hlk hw hm dJ0_isLatin1_aae02_18
def k_J0_isLatin1_aae02r_17 (σ : ST) : Option (Int32 × ST) :=
  k_J0_isLatin1_aae02r_18 0 σ
set_option maxRecDepth 20000 in
set_option maxHeartbeats 1000000 in
theorem w_J0_isLatin1_aae02r_17 {p : Program} {l : Launch} {e : Env} {s : State} {m : MethodId} {args : Array Value} {below : List Frame} {meth : Method} {c : Code} {D : va_G} {cy : Nat → ClassId} {b : Nat} (E : CX p m c cJ0_isLatin1_aae02 1 s args RJ0 D cy LR) (hr : meth.sig.returnType = some .boolean) (hlk : meth.locks = false) {r : Int32 × ST} {σ : ST} {H : Heap} {locs : List Loc} {ls : Array Slot} (hm : k_J0_isLatin1_aae02r_17  σ = some r) (hw : PH D cy LR b σ s H locs) (hl : lv_has ls 1 []) : W p l e (rmD 0) s m args below meth c H locs 0 0 (MQ below (QcP D cy LR b (some (.int r.1)) r.2) args s 0 0 (inP LR b)) (F0 m 17 ls []) := by
  have hx := E.1.1
  have hb := E.1.2.1
  unfold k_J0_isLatin1_aae02r_17 at hm
  refine lv_iconst (v := 0) hx hb dJ0_isLatin1_aae02_17 (by decide) ?_
  exact w_J0_isLatin1_aae02r_18 E hr hlk hm  hw (lv_sub hl [] rfl)
def f_J0_isLatin1_aae02r (v0 : Nat) (σ : ST) : Option (Int32 × ST) :=
  if (1 : Int32) = 0 then (k_J0_isLatin1_aae02r_17 σ) else (if (0 : Int32) = 0 then (k_J0_isLatin1_aae02r_18 1 σ) else (k_J0_isLatin1_aae02r_17 σ))
set_option maxRecDepth 20000 in
set_option maxHeartbeats 1000000 in
theorem w_J0_isLatin1_aae02r_0 {p : Program} {l : Launch} {e : Env} {s : State} {m : MethodId} {args : Array Value} {below : List Frame} {meth : Method} {c : Code} {D : va_G} {cy : Nat → ClassId} {b : Nat} (E : CX p m c cJ0_isLatin1_aae02 1 s args RJ0 D cy LR) (hr : meth.sig.returnType = some .boolean) (hlk : meth.locks = false) {r : Int32 × ST} {v0 : Nat} {σ : ST} {H : Heap} {locs : List Loc} {ls : Array Slot} (hm : f_J0_isLatin1_aae02r v0 σ = some r) (hv0 : v0 < 15) (hw : PH D cy LR b σ s H locs) (hl : lv_has ls 1 [(0, .ref (cy (100 + v0)))]) : W p l e (rmD 0) s m args below meth c H locs 0 0 (MQ below (QcP D cy LR b (some (.int r.1)) r.2) args s 0 0 (inP LR b)) (F0 m 0 ls []) := by
  have hx := E.1.1
  have hb := E.1.2.1
  unfold f_J0_isLatin1_aae02r at hm
  refine q_cmps E hw (rL17 _ (List.mem_of_getElem? (i := 20) rfl)) dJ0_isLatin1_aae02_0 ?_
  refine lv_if_eq (tgt := 17) hx hb dJ0_isLatin1_aae02_3 (by decide) (fun c1 => ?_) (fun c1 => ?_)
  · have hm := o_t c1 hm
    exact w_J0_isLatin1_aae02r_17 E hr hlk hm  hw (lv_sub hl [] rfl)
  · have hm := o_f c1 hm
    refine lv_aload_n hx hb dJ0_isLatin1_aae02_6 rfl (lv_at hl 0 rfl) ?_
    refine q_getC E hw hv0 (rL17 _ (List.mem_of_getElem? (i := 21) rfl)) dJ0_isLatin1_aae02_7 ?_
    refine lv_if_ne (tgt := 17) hx hb dJ0_isLatin1_aae02_10 (by decide) (fun c2 => ?_) (fun c2 => ?_)
    · have hm := o_f c2 hm
      exact w_J0_isLatin1_aae02r_17 E hr hlk hm  hw (lv_sub hl [] rfl)
    · have hm := o_t c2 hm
      refine lv_iconst (v := 1) hx hb dJ0_isLatin1_aae02_13 (by decide) ?_
      refine lv_goto (tgt := 18) hx hb dJ0_isLatin1_aae02_14 (by decide) ?_
      exact w_J0_isLatin1_aae02r_18 E hr hlk hm  hw (lv_sub hl [] rfl)
theorem c_J0_isLatin1_aae02r {l : Launch} {D : va_G} {cy : Nat → ClassId} {b : Nat} {v0 : Nat} {σ : ST} {r : Int32 × ST} (hm : f_J0_isLatin1_aae02r v0 σ = some r) (hv0 : v0 < 15) : Met l yJ0_isLatin1_aae02 (wU yJ0_isLatin1_aae02 cJ0_isLatin1_aae02 1 (some .boolean)) (rmD 0) (PcP D cy LR b [.ref (cy (100 + v0))] σ) (QcP D cy LR b (some (.int r.1)) r.2) 0 0 (inP LR b) :=
  q_met (lv := [(0, .ref (cy (100 + v0)))]) LR_ok (by decide) (Nat.le_of_ble_eq_true rfl) rfl (fun _ _ _ _ _ _ _ _ _ E hr hlk hw hl => w_J0_isLatin1_aae02r_0 E hr hlk hm hv0 hw hl)

def f_J3_checkIndex_8e157 (v0 : Int32) (v1 : Int32) (σ : ST) : Option (Int32 × ST) :=
  if v0 < 0 then (none) else (if v0 < v1 then (some (v0, σ)) else (none))
set_option maxRecDepth 20000 in
set_option maxHeartbeats 1000000 in
theorem w_J3_checkIndex_8e157_0 {p : Program} {l : Launch} {e : Env} {s : State} {m : MethodId} {args : Array Value} {below : List Frame} {meth : Method} {c : Code} {D : va_G} {cy : Nat → ClassId} {b : Nat} (E : CX p m c cJ3_checkIndex_8e157 3 s args RJ3 D cy LC) (hr : meth.sig.returnType = some .int) (hlk : meth.locks = false) {r : Int32 × ST} {v0 : Int32} {v1 : Int32} {v2 : Option Nat} {σ : ST} {H : Heap} {locs : List Loc} {ls : Array Slot} (hm : f_J3_checkIndex_8e157 v0 v1 σ = some r) (hw : PH D cy LC b σ s H locs) (hl : lv_has ls 3 [(0, .int v0), (1, .int v1), (2, va_rf v2)]) : W p l e (rmD 0) s m args below meth c H locs 0 0 (MQ below (QcP D cy LC b (some (.int r.1)) r.2) args s 0 0 (inP LC b)) (F0 m 0 ls []) := by
  have hx := E.1.1
  have hb := E.1.2.1
  unfold f_J3_checkIndex_8e157 at hm
  refine lv_iload_n hx hb dJ3_checkIndex_8e157_0 rfl (lv_at hl 0 rfl) ?_
  refine lv_if_lt (tgt := 9) hx hb dJ3_checkIndex_8e157_1 (by decide) (fun c1 => ?_) (fun c1 => ?_)
  · have hm := o_t c1 hm
    cases hm
  · have hm := o_f c1 hm
    refine lv_iload_n hx hb dJ3_checkIndex_8e157_4 rfl (lv_at hl 0 rfl) ?_
    refine lv_iload_n hx hb dJ3_checkIndex_8e157_5 rfl (lv_at hl 1 rfl) ?_
    refine lv_icmp_lt (tgt := 16) hx hb dJ3_checkIndex_8e157_6 (by decide) (fun c2 => ?_) (fun c2 => ?_)
    · have hm := o_t c2 hm
      refine lv_iload_n hx hb dJ3_checkIndex_8e157_16 rfl (lv_at hl 0 rfl) ?_
      exact q_iret E hr hlk hw hm dJ3_checkIndex_8e157_17
    · have hm := o_f c2 hm
      cases hm
theorem c_J3_checkIndex_8e157 {l : Launch} {D : va_G} {cy : Nat → ClassId} {b : Nat} {v0 : Int32} {v1 : Int32} {v2 : Option Nat} {σ : ST} {r : Int32 × ST} (hm : f_J3_checkIndex_8e157 v0 v1 σ = some r) : Met l yJ3_checkIndex_8e157 (wU yJ3_checkIndex_8e157 cJ3_checkIndex_8e157 3 (some .int)) (rmD 0) (PcP D cy LC b [.int v0, .int v1, va_rf v2] σ) (QcP D cy LC b (some (.int r.1)) r.2) 0 0 (inP LC b) :=
  q_met (lv := [(0, .int v0), (1, .int v1), (2, va_rf v2)]) LC_ok (by decide) (by cases v2 <;> exact Nat.le_of_ble_eq_true rfl) (by cases v2 <;> rfl) (fun _ _ _ _ _ _ _ _ _ E hr hlk hw hl => w_J3_checkIndex_8e157_0 E hr hlk hm hw hl)

def f_J3_checkIndex_8e157r (v0 : Int32) (v1 : Int32) (σ : ST) : Option (Int32 × ST) :=
  if v0 < 0 then (none) else (if v0 < v1 then (some (v0, σ)) else (none))
set_option maxRecDepth 20000 in
set_option maxHeartbeats 1000000 in
theorem w_J3_checkIndex_8e157r_0 {p : Program} {l : Launch} {e : Env} {s : State} {m : MethodId} {args : Array Value} {below : List Frame} {meth : Method} {c : Code} {D : va_G} {cy : Nat → ClassId} {b : Nat} (E : CX p m c cJ3_checkIndex_8e157 3 s args RJ3 D cy LR) (hr : meth.sig.returnType = some .int) (hlk : meth.locks = false) {r : Int32 × ST} {v0 : Int32} {v1 : Int32} {v2 : Option Nat} {σ : ST} {H : Heap} {locs : List Loc} {ls : Array Slot} (hm : f_J3_checkIndex_8e157r v0 v1 σ = some r) (hw : PH D cy LR b σ s H locs) (hl : lv_has ls 3 [(0, .int v0), (1, .int v1), (2, va_rf v2)]) : W p l e (rmD 0) s m args below meth c H locs 0 0 (MQ below (QcP D cy LR b (some (.int r.1)) r.2) args s 0 0 (inP LR b)) (F0 m 0 ls []) := by
  have hx := E.1.1
  have hb := E.1.2.1
  unfold f_J3_checkIndex_8e157r at hm
  refine lv_iload_n hx hb dJ3_checkIndex_8e157_0 rfl (lv_at hl 0 rfl) ?_
  refine lv_if_lt (tgt := 9) hx hb dJ3_checkIndex_8e157_1 (by decide) (fun c1 => ?_) (fun c1 => ?_)
  · have hm := o_t c1 hm
    cases hm
  · have hm := o_f c1 hm
    refine lv_iload_n hx hb dJ3_checkIndex_8e157_4 rfl (lv_at hl 0 rfl) ?_
    refine lv_iload_n hx hb dJ3_checkIndex_8e157_5 rfl (lv_at hl 1 rfl) ?_
    refine lv_icmp_lt (tgt := 16) hx hb dJ3_checkIndex_8e157_6 (by decide) (fun c2 => ?_) (fun c2 => ?_)
    · have hm := o_t c2 hm
      refine lv_iload_n hx hb dJ3_checkIndex_8e157_16 rfl (lv_at hl 0 rfl) ?_
      exact q_iret E hr hlk hw hm dJ3_checkIndex_8e157_17
    · have hm := o_f c2 hm
      cases hm
theorem c_J3_checkIndex_8e157r {l : Launch} {D : va_G} {cy : Nat → ClassId} {b : Nat} {v0 : Int32} {v1 : Int32} {v2 : Option Nat} {σ : ST} {r : Int32 × ST} (hm : f_J3_checkIndex_8e157r v0 v1 σ = some r) : Met l yJ3_checkIndex_8e157 (wU yJ3_checkIndex_8e157 cJ3_checkIndex_8e157 3 (some .int)) (rmD 0) (PcP D cy LR b [.int v0, .int v1, va_rf v2] σ) (QcP D cy LR b (some (.int r.1)) r.2) 0 0 (inP LR b) :=
  q_met (lv := [(0, .int v0), (1, .int v1), (2, va_rf v2)]) LR_ok (by decide) (by cases v2 <;> exact Nat.le_of_ble_eq_true rfl) (by cases v2 <;> rfl) (fun _ _ _ _ _ _ _ _ _ E hr hlk hw hl => w_J3_checkIndex_8e157r_0 E hr hlk hm hw hl)

def f_J0_checkIndex_df160 (v0 : Int32) (v1 : Int32) (σ : ST) : Option (ST) :=
  (f_J3_checkIndex_8e157 v0 v1 σ).bind fun u2 =>
  some u2.2
set_option maxRecDepth 20000 in
set_option maxHeartbeats 1000000 in
theorem w_J0_checkIndex_df160_0 {p : Program} {l : Launch} {e : Env} {s : State} {m : MethodId} {args : Array Value} {below : List Frame} {meth : Method} {c : Code} {D : va_G} {cy : Nat → ClassId} {b : Nat} (E : CX p m c cJ0_checkIndex_df160 2 s args RJ0 D cy LC) (hr : meth.sig.returnType = none) (hlk : meth.locks = false) {r : ST} {v0 : Int32} {v1 : Int32} {σ : ST} {H : Heap} {locs : List Loc} {ls : Array Slot} (hm : f_J0_checkIndex_df160 v0 v1 σ = some r) (hw : PH D cy LC b σ s H locs) (hl : lv_has ls 2 [(0, .int v0), (1, .int v1)]) : W p l e (rmD 1) s m args below meth c H locs 0 0 (MQ below (QcP D cy LC b none r) args s 0 0 (inP LC b)) (F0 m 0 ls []) := by
  have hx := E.1.1
  have hb := E.1.2.1
  unfold f_J0_checkIndex_df160 at hm
  refine lv_iload_n hx hb dJ0_checkIndex_df160_0 rfl (lv_at hl 0 rfl) ?_
  refine lv_iload_n hx hb dJ0_checkIndex_df160_1 rfl (lv_at hl 1 rfl) ?_
  refine q_sio E hw (rL18 _ (List.mem_of_getElem? (i := 13) rfl)) dJ0_checkIndex_df160_2 (fun o1 => ?_)
  refine q_cSi [] E hw hm ms_J0_1059 (fun u hu => c_J3_checkIndex_8e157 hu ) rfl rfl hl.1 (Nat.le_of_ble_eq_true rfl) ⟨Nat.le_of_ble_eq_true rfl, Nat.le_of_ble_eq_true rfl⟩ dJ0_checkIndex_df160_5 (fun u2 H locs hm hw => ?_)
  refine lv_pop hx hb dJ0_checkIndex_df160_8 rfl ?_
  exact q_vret E hr hlk hw hm dJ0_checkIndex_df160_9
theorem c_J0_checkIndex_df160 {l : Launch} {D : va_G} {cy : Nat → ClassId} {b : Nat} {v0 : Int32} {v1 : Int32} {σ : ST} {r : ST} (hm : f_J0_checkIndex_df160 v0 v1 σ = some r) : Met l yJ0_checkIndex_df160 (wU yJ0_checkIndex_df160 cJ0_checkIndex_df160 2 (none)) (rmD 1) (PcP D cy LC b [.int v0, .int v1] σ) (QcP D cy LC b none r) 0 0 (inP LC b) :=
  q_met (lv := [(0, .int v0), (1, .int v1)]) LC_ok (by decide) (Nat.le_of_ble_eq_true rfl) rfl (fun _ _ _ _ _ _ _ _ _ E hr hlk hw hl => w_J0_checkIndex_df160_0 E hr hlk hm hw hl)

def f_J0_checkIndex_df160r (v0 : Int32) (v1 : Int32) (σ : ST) : Option (ST) :=
  (f_J3_checkIndex_8e157r v0 v1 σ).bind fun u2 =>
  some u2.2
set_option maxRecDepth 20000 in
set_option maxHeartbeats 1000000 in
theorem w_J0_checkIndex_df160r_0 {p : Program} {l : Launch} {e : Env} {s : State} {m : MethodId} {args : Array Value} {below : List Frame} {meth : Method} {c : Code} {D : va_G} {cy : Nat → ClassId} {b : Nat} (E : CX p m c cJ0_checkIndex_df160 2 s args RJ0 D cy LR) (hr : meth.sig.returnType = none) (hlk : meth.locks = false) {r : ST} {v0 : Int32} {v1 : Int32} {σ : ST} {H : Heap} {locs : List Loc} {ls : Array Slot} (hm : f_J0_checkIndex_df160r v0 v1 σ = some r) (hw : PH D cy LR b σ s H locs) (hl : lv_has ls 2 [(0, .int v0), (1, .int v1)]) : W p l e (rmD 1) s m args below meth c H locs 0 0 (MQ below (QcP D cy LR b none r) args s 0 0 (inP LR b)) (F0 m 0 ls []) := by
  have hx := E.1.1
  have hb := E.1.2.1
  unfold f_J0_checkIndex_df160r at hm
  refine lv_iload_n hx hb dJ0_checkIndex_df160_0 rfl (lv_at hl 0 rfl) ?_
  refine lv_iload_n hx hb dJ0_checkIndex_df160_1 rfl (lv_at hl 1 rfl) ?_
  refine q_sio E hw (rL18 _ (List.mem_of_getElem? (i := 13) rfl)) dJ0_checkIndex_df160_2 (fun o1 => ?_)
  refine q_cSi [] E hw hm ms_J0_1059 (fun u hu => c_J3_checkIndex_8e157r hu ) rfl rfl hl.1 (Nat.le_of_ble_eq_true rfl) ⟨Nat.le_of_ble_eq_true rfl, Nat.le_of_ble_eq_true rfl⟩ dJ0_checkIndex_df160_5 (fun u2 H locs hm hw => ?_)
  refine lv_pop hx hb dJ0_checkIndex_df160_8 rfl ?_
  exact q_vret E hr hlk hw hm dJ0_checkIndex_df160_9
theorem c_J0_checkIndex_df160r {l : Launch} {D : va_G} {cy : Nat → ClassId} {b : Nat} {v0 : Int32} {v1 : Int32} {σ : ST} {r : ST} (hm : f_J0_checkIndex_df160r v0 v1 σ = some r) : Met l yJ0_checkIndex_df160 (wU yJ0_checkIndex_df160 cJ0_checkIndex_df160 2 (none)) (rmD 1) (PcP D cy LR b [.int v0, .int v1] σ) (QcP D cy LR b none r) 0 0 (inP LR b) :=
  q_met (lv := [(0, .int v0), (1, .int v1)]) LR_ok (by decide) (Nat.le_of_ble_eq_true rfl) rfl (fun _ _ _ _ _ _ _ _ _ E hr hlk hw hl => w_J0_checkIndex_df160r_0 E hr hlk hm hw hl)

def f_J1_charAt_3b067 (v0 : Nat) (v1 : Int32) (σ : ST) : Option (Int32 × ST) :=
  (f_J0_checkIndex_df160 v1 (Int32.ofNat (lenS.getD v0 0)) σ).bind fun u1 =>
  (ldS v0 v1).bind fun a2 =>
  (ckN .char (((a2 &&& 255).toUInt32 % 65536).toInt32)).bind fun z => some (z, u1)
set_option maxRecDepth 20000 in
set_option maxHeartbeats 1000000 in
theorem w_J1_charAt_3b067_0 {p : Program} {l : Launch} {e : Env} {s : State} {m : MethodId} {args : Array Value} {below : List Frame} {meth : Method} {c : Code} {D : va_G} {cy : Nat → ClassId} {b : Nat} (E : CX p m c cJ1_charAt_3b067 2 s args RJ1 D cy LC) (hr : meth.sig.returnType = some .char) (hlk : meth.locks = false) {r : Int32 × ST} {v0 : Nat} {v1 : Int32} {σ : ST} {H : Heap} {locs : List Loc} {ls : Array Slot} (hm : f_J1_charAt_3b067 v0 v1 σ = some r) (hv0 : v0 < 15) (hw : PH D cy LC b σ s H locs) (hl : lv_has ls 2 [(0, .ref (cy (200 + v0))), (1, .int v1)]) : W p l e (rmD 2) s m args below meth c H locs 0 0 (MQ below (QcP D cy LC b (some (.int r.1)) r.2) args s 0 0 (inP LC b)) (F0 m 0 ls []) := by
  have hx := E.1.1
  have hb := E.1.2.1
  unfold f_J1_charAt_3b067 at hm
  refine lv_iload_n hx hb dJ1_charAt_3b067_0 rfl (lv_at hl 1 rfl) ?_
  refine lv_aload_n hx hb dJ1_charAt_3b067_1 rfl (lv_at hl 0 rfl) ?_
  refine q_slen E hw hv0 dJ1_charAt_3b067_2 ?_
  refine q_cSv [] E hw hm ms_J1_9 (fun u hu => c_J0_checkIndex_df160 hu ) rfl rfl hl.1 (Nat.le_of_ble_eq_true rfl) ⟨Nat.le_of_ble_eq_true rfl, Nat.le_of_ble_eq_true rfl⟩ dJ1_charAt_3b067_3 (fun u1 H locs hm hw => ?_)
  refine lv_aload_n hx hb dJ1_charAt_3b067_6 rfl (lv_at hl 0 rfl) ?_
  refine lv_iload_n hx hb dJ1_charAt_3b067_7 rfl (lv_at hl 1 rfl) ?_
  refine q_sald E hw hv0 hm dJ1_charAt_3b067_8 (fun a2 hm => ?_)
  refine lv_sipush (v := 255) hx hb dJ1_charAt_3b067_9 (by decide) ?_
  refine lv_iand hx hb dJ1_charAt_3b067_12 ?_
  refine lv_i2c hx hb dJ1_charAt_3b067_13 rfl ?_
  exact q_nret E hr hlk hw hm dJ1_charAt_3b067_14
theorem c_J1_charAt_3b067 {l : Launch} {D : va_G} {cy : Nat → ClassId} {b : Nat} {v0 : Nat} {v1 : Int32} {σ : ST} {r : Int32 × ST} (hm : f_J1_charAt_3b067 v0 v1 σ = some r) (hv0 : v0 < 15) : Met l yJ1_charAt_3b067 (wU yJ1_charAt_3b067 cJ1_charAt_3b067 2 (some .char)) (rmD 2) (PcP D cy LC b [.ref (cy (200 + v0)), .int v1] σ) (QcP D cy LC b (some (.int r.1)) r.2) 0 0 (inP LC b) :=
  q_met (lv := [(0, .ref (cy (200 + v0))), (1, .int v1)]) LC_ok (by decide) (Nat.le_of_ble_eq_true rfl) rfl (fun _ _ _ _ _ _ _ _ _ E hr hlk hw hl => w_J1_charAt_3b067_0 E hr hlk hm hv0 hw hl)

def f_J1_charAt_3b067r (v0 : Nat) (v1 : Int32) (σ : ST) : Option (Int32 × ST) :=
  (f_J0_checkIndex_df160r v1 (Int32.ofNat (lenS.getD v0 0)) σ).bind fun u1 =>
  (ldS v0 v1).bind fun a2 =>
  (ckN .char (((a2 &&& 255).toUInt32 % 65536).toInt32)).bind fun z => some (z, u1)
set_option maxRecDepth 20000 in
set_option maxHeartbeats 1000000 in
theorem w_J1_charAt_3b067r_0 {p : Program} {l : Launch} {e : Env} {s : State} {m : MethodId} {args : Array Value} {below : List Frame} {meth : Method} {c : Code} {D : va_G} {cy : Nat → ClassId} {b : Nat} (E : CX p m c cJ1_charAt_3b067 2 s args RJ1 D cy LR) (hr : meth.sig.returnType = some .char) (hlk : meth.locks = false) {r : Int32 × ST} {v0 : Nat} {v1 : Int32} {σ : ST} {H : Heap} {locs : List Loc} {ls : Array Slot} (hm : f_J1_charAt_3b067r v0 v1 σ = some r) (hv0 : v0 < 15) (hw : PH D cy LR b σ s H locs) (hl : lv_has ls 2 [(0, .ref (cy (200 + v0))), (1, .int v1)]) : W p l e (rmD 2) s m args below meth c H locs 0 0 (MQ below (QcP D cy LR b (some (.int r.1)) r.2) args s 0 0 (inP LR b)) (F0 m 0 ls []) := by
  have hx := E.1.1
  have hb := E.1.2.1
  unfold f_J1_charAt_3b067r at hm
  refine lv_iload_n hx hb dJ1_charAt_3b067_0 rfl (lv_at hl 1 rfl) ?_
  refine lv_aload_n hx hb dJ1_charAt_3b067_1 rfl (lv_at hl 0 rfl) ?_
  refine q_slen E hw hv0 dJ1_charAt_3b067_2 ?_
  refine q_cSv [] E hw hm ms_J1_9 (fun u hu => c_J0_checkIndex_df160r hu ) rfl rfl hl.1 (Nat.le_of_ble_eq_true rfl) ⟨Nat.le_of_ble_eq_true rfl, Nat.le_of_ble_eq_true rfl⟩ dJ1_charAt_3b067_3 (fun u1 H locs hm hw => ?_)
  refine lv_aload_n hx hb dJ1_charAt_3b067_6 rfl (lv_at hl 0 rfl) ?_
  refine lv_iload_n hx hb dJ1_charAt_3b067_7 rfl (lv_at hl 1 rfl) ?_
  refine q_sald E hw hv0 hm dJ1_charAt_3b067_8 (fun a2 hm => ?_)
  refine lv_sipush (v := 255) hx hb dJ1_charAt_3b067_9 (by decide) ?_
  refine lv_iand hx hb dJ1_charAt_3b067_12 ?_
  refine lv_i2c hx hb dJ1_charAt_3b067_13 rfl ?_
  exact q_nret E hr hlk hw hm dJ1_charAt_3b067_14
theorem c_J1_charAt_3b067r {l : Launch} {D : va_G} {cy : Nat → ClassId} {b : Nat} {v0 : Nat} {v1 : Int32} {σ : ST} {r : Int32 × ST} (hm : f_J1_charAt_3b067r v0 v1 σ = some r) (hv0 : v0 < 15) : Met l yJ1_charAt_3b067 (wU yJ1_charAt_3b067 cJ1_charAt_3b067 2 (some .char)) (rmD 2) (PcP D cy LR b [.ref (cy (200 + v0)), .int v1] σ) (QcP D cy LR b (some (.int r.1)) r.2) 0 0 (inP LR b) :=
  q_met (lv := [(0, .ref (cy (200 + v0))), (1, .int v1)]) LR_ok (by decide) (Nat.le_of_ble_eq_true rfl) rfl (fun _ _ _ _ _ _ _ _ _ E hr hlk hw hl => w_J1_charAt_3b067r_0 E hr hlk hm hv0 hw hl)

def f_J0_charAt_5068e (v0 : Nat) (v1 : Int32) (σ : ST) : Option (Int32 × ST) :=
  (f_J0_isLatin1_aae02 v0 σ).bind fun u1 =>
  if u1.1 = 0 then (none) else ((f_J1_charAt_3b067 v0 v1 u1.2).bind fun u3 =>
  (ckN .char u3.1).bind fun z => some (z, u3.2))
set_option maxRecDepth 20000 in
set_option maxHeartbeats 1000000 in
theorem w_J0_charAt_5068e_0 {p : Program} {l : Launch} {e : Env} {s : State} {m : MethodId} {args : Array Value} {below : List Frame} {meth : Method} {c : Code} {D : va_G} {cy : Nat → ClassId} {b : Nat} (E : CX p m c cJ0_charAt_5068e 2 s args RJ0 D cy LC) (hr : meth.sig.returnType = some .char) (hlk : meth.locks = false) {r : Int32 × ST} {v0 : Nat} {v1 : Int32} {σ : ST} {H : Heap} {locs : List Loc} {ls : Array Slot} (hm : f_J0_charAt_5068e v0 v1 σ = some r) (hv0 : v0 < 15) (hw : PH D cy LC b σ s H locs) (hl : lv_has ls 2 [(0, .ref (cy (100 + v0))), (1, .int v1)]) : W p l e (rmD 3) s m args below meth c H locs 0 0 (MQ below (QcP D cy LC b (some (.int r.1)) r.2) args s 0 0 (inP LC b)) (F0 m 0 ls []) := by
  have hx := E.1.1
  have hb := E.1.2.1
  unfold f_J0_charAt_5068e at hm
  refine lv_aload_n hx hb dJ0_charAt_5068e_0 rfl (lv_at hl 0 rfl) ?_
  refine q_cTi [] E hw hm mw_J0_492 (fun u hu => c_J0_isLatin1_aae02 hu hv0) hv0 rfl rfl hl.1 (Nat.le_of_ble_eq_true rfl) ⟨Nat.le_of_ble_eq_true rfl, Nat.le_of_ble_eq_true rfl⟩ dJ0_charAt_5068e_1 (fun u1 H locs hm hw => ?_)
  refine lv_if_eq (tgt := 16) hx hb dJ0_charAt_5068e_4 (by decide) (fun c2 => ?_) (fun c2 => ?_)
  · have hm := o_t c2 hm
    cases hm
  · have hm := o_f c2 hm
    refine lv_aload_n hx hb dJ0_charAt_5068e_7 rfl (lv_at hl 0 rfl) ?_
    refine q_getV E hw hv0 (rL17 _ (List.mem_of_getElem? (i := 15) rfl)) dJ0_charAt_5068e_8 ?_
    refine lv_iload_n hx hb dJ0_charAt_5068e_11 rfl (lv_at hl 1 rfl) ?_
    refine q_cSi [] E hw hm ms_J0_495 (fun u hu => c_J1_charAt_3b067 hu hv0) rfl rfl hl.1 (Nat.le_of_ble_eq_true rfl) ⟨Nat.le_of_ble_eq_true rfl, Nat.le_of_ble_eq_true rfl⟩ dJ0_charAt_5068e_12 (fun u3 H locs hm hw => ?_)
    exact q_nret E hr hlk hw hm dJ0_charAt_5068e_15
theorem c_J0_charAt_5068e {l : Launch} {D : va_G} {cy : Nat → ClassId} {b : Nat} {v0 : Nat} {v1 : Int32} {σ : ST} {r : Int32 × ST} (hm : f_J0_charAt_5068e v0 v1 σ = some r) (hv0 : v0 < 15) : Met l yJ0_charAt_5068e (wU yJ0_charAt_5068e cJ0_charAt_5068e 2 (some .char)) (rmD 3) (PcP D cy LC b [.ref (cy (100 + v0)), .int v1] σ) (QcP D cy LC b (some (.int r.1)) r.2) 0 0 (inP LC b) :=
  q_met (lv := [(0, .ref (cy (100 + v0))), (1, .int v1)]) LC_ok (by decide) (Nat.le_of_ble_eq_true rfl) rfl (fun _ _ _ _ _ _ _ _ _ E hr hlk hw hl => w_J0_charAt_5068e_0 E hr hlk hm hv0 hw hl)

def f_J0_charAt_5068er (v0 : Nat) (v1 : Int32) (σ : ST) : Option (Int32 × ST) :=
  (f_J0_isLatin1_aae02r v0 σ).bind fun u1 =>
  if u1.1 = 0 then (none) else ((f_J1_charAt_3b067r v0 v1 u1.2).bind fun u3 =>
  (ckN .char u3.1).bind fun z => some (z, u3.2))
set_option maxRecDepth 20000 in
set_option maxHeartbeats 1000000 in
theorem w_J0_charAt_5068er_0 {p : Program} {l : Launch} {e : Env} {s : State} {m : MethodId} {args : Array Value} {below : List Frame} {meth : Method} {c : Code} {D : va_G} {cy : Nat → ClassId} {b : Nat} (E : CX p m c cJ0_charAt_5068e 2 s args RJ0 D cy LR) (hr : meth.sig.returnType = some .char) (hlk : meth.locks = false) {r : Int32 × ST} {v0 : Nat} {v1 : Int32} {σ : ST} {H : Heap} {locs : List Loc} {ls : Array Slot} (hm : f_J0_charAt_5068er v0 v1 σ = some r) (hv0 : v0 < 15) (hw : PH D cy LR b σ s H locs) (hl : lv_has ls 2 [(0, .ref (cy (100 + v0))), (1, .int v1)]) : W p l e (rmD 3) s m args below meth c H locs 0 0 (MQ below (QcP D cy LR b (some (.int r.1)) r.2) args s 0 0 (inP LR b)) (F0 m 0 ls []) := by
  have hx := E.1.1
  have hb := E.1.2.1
  unfold f_J0_charAt_5068er at hm
  refine lv_aload_n hx hb dJ0_charAt_5068e_0 rfl (lv_at hl 0 rfl) ?_
  refine q_cTi [] E hw hm mw_J0_492 (fun u hu => c_J0_isLatin1_aae02r hu hv0) hv0 rfl rfl hl.1 (Nat.le_of_ble_eq_true rfl) ⟨Nat.le_of_ble_eq_true rfl, Nat.le_of_ble_eq_true rfl⟩ dJ0_charAt_5068e_1 (fun u1 H locs hm hw => ?_)
  refine lv_if_eq (tgt := 16) hx hb dJ0_charAt_5068e_4 (by decide) (fun c2 => ?_) (fun c2 => ?_)
  · have hm := o_t c2 hm
    cases hm
  · have hm := o_f c2 hm
    refine lv_aload_n hx hb dJ0_charAt_5068e_7 rfl (lv_at hl 0 rfl) ?_
    refine q_getV E hw hv0 (rL17 _ (List.mem_of_getElem? (i := 15) rfl)) dJ0_charAt_5068e_8 ?_
    refine lv_iload_n hx hb dJ0_charAt_5068e_11 rfl (lv_at hl 1 rfl) ?_
    refine q_cSi [] E hw hm ms_J0_495 (fun u hu => c_J1_charAt_3b067r hu hv0) rfl rfl hl.1 (Nat.le_of_ble_eq_true rfl) ⟨Nat.le_of_ble_eq_true rfl, Nat.le_of_ble_eq_true rfl⟩ dJ0_charAt_5068e_12 (fun u3 H locs hm hw => ?_)
    exact q_nret E hr hlk hw hm dJ0_charAt_5068e_15
theorem c_J0_charAt_5068er {l : Launch} {D : va_G} {cy : Nat → ClassId} {b : Nat} {v0 : Nat} {v1 : Int32} {σ : ST} {r : Int32 × ST} (hm : f_J0_charAt_5068er v0 v1 σ = some r) (hv0 : v0 < 15) : Met l yJ0_charAt_5068e (wU yJ0_charAt_5068e cJ0_charAt_5068e 2 (some .char)) (rmD 3) (PcP D cy LR b [.ref (cy (100 + v0)), .int v1] σ) (QcP D cy LR b (some (.int r.1)) r.2) 0 0 (inP LR b) :=
  q_met (lv := [(0, .ref (cy (100 + v0))), (1, .int v1)]) LR_ok (by decide) (Nat.le_of_ble_eq_true rfl) rfl (fun _ _ _ _ _ _ _ _ _ E hr hlk hw hl => w_J0_charAt_5068er_0 E hr hlk hm hv0 hw hl)

def k_J0_coder_7d493_14 (s0 : Int32) (σ : ST) : Option (Int32 × ST) :=
  (ckN .byte s0).bind fun z => some (z, σ)
set_option maxRecDepth 20000 in
set_option maxHeartbeats 1000000 in
theorem w_J0_coder_7d493_14 {p : Program} {l : Launch} {e : Env} {s : State} {m : MethodId} {args : Array Value} {below : List Frame} {meth : Method} {c : Code} {D : va_G} {cy : Nat → ClassId} {b : Nat} (E : CX p m c cJ0_coder_7d493 1 s args RJ0 D cy LC) (hr : meth.sig.returnType = some .byte) (hlk : meth.locks = false) {r : Int32 × ST} {s0 : Int32} {σ : ST} {H : Heap} {locs : List Loc} {ls : Array Slot} (hm : k_J0_coder_7d493_14 s0 σ = some r) (hw : PH D cy LC b σ s H locs) (hl : lv_has ls 1 []) : W p l e (rmD 0) s m args below meth c H locs 0 0 (MQ below (QcP D cy LC b (some (.int r.1)) r.2) args s 0 0 (inP LC b)) (F0 m 14 ls [.int s0]) := by
  have hx := E.1.1
  have hb := E.1.2.1
  unfold k_J0_coder_7d493_14 at hm
  exact q_nret E hr hlk hw hm dJ0_coder_7d493_14
def f_J0_coder_7d493 (v0 : Nat) (σ : ST) : Option (Int32 × ST) :=
  if (1 : Int32) = 0 then (k_J0_coder_7d493_14 1 σ) else (k_J0_coder_7d493_14 (0 : Int32) σ)
set_option maxRecDepth 20000 in
set_option maxHeartbeats 1000000 in
theorem w_J0_coder_7d493_0 {p : Program} {l : Launch} {e : Env} {s : State} {m : MethodId} {args : Array Value} {below : List Frame} {meth : Method} {c : Code} {D : va_G} {cy : Nat → ClassId} {b : Nat} (E : CX p m c cJ0_coder_7d493 1 s args RJ0 D cy LC) (hr : meth.sig.returnType = some .byte) (hlk : meth.locks = false) {r : Int32 × ST} {v0 : Nat} {σ : ST} {H : Heap} {locs : List Loc} {ls : Array Slot} (hm : f_J0_coder_7d493 v0 σ = some r) (hv0 : v0 < 15) (hw : PH D cy LC b σ s H locs) (hl : lv_has ls 1 [(0, .ref (cy (100 + v0)))]) : W p l e (rmD 0) s m args below meth c H locs 0 0 (MQ below (QcP D cy LC b (some (.int r.1)) r.2) args s 0 0 (inP LC b)) (F0 m 0 ls []) := by
  have hx := E.1.1
  have hb := E.1.2.1
  unfold f_J0_coder_7d493 at hm
  refine q_cmps E hw (rL17 _ (List.mem_of_getElem? (i := 20) rfl)) dJ0_coder_7d493_0 ?_
  refine lv_if_eq (tgt := 13) hx hb dJ0_coder_7d493_3 (by decide) (fun c1 => ?_) (fun c1 => ?_)
  · have hm := o_t c1 hm
    refine lv_iconst (v := 1) hx hb dJ0_coder_7d493_13 (by decide) ?_
    exact w_J0_coder_7d493_14 E hr hlk hm  hw (lv_sub hl [] rfl)
  · have hm := o_f c1 hm
    refine lv_aload_n hx hb dJ0_coder_7d493_6 rfl (lv_at hl 0 rfl) ?_
    refine q_getC E hw hv0 (rL17 _ (List.mem_of_getElem? (i := 21) rfl)) dJ0_coder_7d493_7 ?_
    refine lv_goto (tgt := 14) hx hb dJ0_coder_7d493_10 (by decide) ?_
    exact w_J0_coder_7d493_14 E hr hlk hm  hw (lv_sub hl [] rfl)
theorem c_J0_coder_7d493 {l : Launch} {D : va_G} {cy : Nat → ClassId} {b : Nat} {v0 : Nat} {σ : ST} {r : Int32 × ST} (hm : f_J0_coder_7d493 v0 σ = some r) (hv0 : v0 < 15) : Met l yJ0_coder_7d493 (wU yJ0_coder_7d493 cJ0_coder_7d493 1 (some .byte)) (rmD 0) (PcP D cy LC b [.ref (cy (100 + v0))] σ) (QcP D cy LC b (some (.int r.1)) r.2) 0 0 (inP LC b) :=
  q_met (lv := [(0, .ref (cy (100 + v0)))]) LC_ok (by decide) (Nat.le_of_ble_eq_true rfl) rfl (fun _ _ _ _ _ _ _ _ _ E hr hlk hw hl => w_J0_coder_7d493_0 E hr hlk hm hv0 hw hl)

def k_J0_coder_7d493r_14 (s0 : Int32) (σ : ST) : Option (Int32 × ST) :=
  (ckN .byte s0).bind fun z => some (z, σ)
set_option maxRecDepth 20000 in
set_option maxHeartbeats 1000000 in
theorem w_J0_coder_7d493r_14 {p : Program} {l : Launch} {e : Env} {s : State} {m : MethodId} {args : Array Value} {below : List Frame} {meth : Method} {c : Code} {D : va_G} {cy : Nat → ClassId} {b : Nat} (E : CX p m c cJ0_coder_7d493 1 s args RJ0 D cy LR) (hr : meth.sig.returnType = some .byte) (hlk : meth.locks = false) {r : Int32 × ST} {s0 : Int32} {σ : ST} {H : Heap} {locs : List Loc} {ls : Array Slot} (hm : k_J0_coder_7d493r_14 s0 σ = some r) (hw : PH D cy LR b σ s H locs) (hl : lv_has ls 1 []) : W p l e (rmD 0) s m args below meth c H locs 0 0 (MQ below (QcP D cy LR b (some (.int r.1)) r.2) args s 0 0 (inP LR b)) (F0 m 14 ls [.int s0]) := by
  have hx := E.1.1
  have hb := E.1.2.1
  unfold k_J0_coder_7d493r_14 at hm
  exact q_nret E hr hlk hw hm dJ0_coder_7d493_14
def f_J0_coder_7d493r (v0 : Nat) (σ : ST) : Option (Int32 × ST) :=
  if (1 : Int32) = 0 then (k_J0_coder_7d493r_14 1 σ) else (k_J0_coder_7d493r_14 (0 : Int32) σ)
set_option maxRecDepth 20000 in
set_option maxHeartbeats 1000000 in
theorem w_J0_coder_7d493r_0 {p : Program} {l : Launch} {e : Env} {s : State} {m : MethodId} {args : Array Value} {below : List Frame} {meth : Method} {c : Code} {D : va_G} {cy : Nat → ClassId} {b : Nat} (E : CX p m c cJ0_coder_7d493 1 s args RJ0 D cy LR) (hr : meth.sig.returnType = some .byte) (hlk : meth.locks = false) {r : Int32 × ST} {v0 : Nat} {σ : ST} {H : Heap} {locs : List Loc} {ls : Array Slot} (hm : f_J0_coder_7d493r v0 σ = some r) (hv0 : v0 < 15) (hw : PH D cy LR b σ s H locs) (hl : lv_has ls 1 [(0, .ref (cy (100 + v0)))]) : W p l e (rmD 0) s m args below meth c H locs 0 0 (MQ below (QcP D cy LR b (some (.int r.1)) r.2) args s 0 0 (inP LR b)) (F0 m 0 ls []) := by
  have hx := E.1.1
  have hb := E.1.2.1
  unfold f_J0_coder_7d493r at hm
  refine q_cmps E hw (rL17 _ (List.mem_of_getElem? (i := 20) rfl)) dJ0_coder_7d493_0 ?_
  refine lv_if_eq (tgt := 13) hx hb dJ0_coder_7d493_3 (by decide) (fun c1 => ?_) (fun c1 => ?_)
  · have hm := o_t c1 hm
    refine lv_iconst (v := 1) hx hb dJ0_coder_7d493_13 (by decide) ?_
    exact w_J0_coder_7d493r_14 E hr hlk hm  hw (lv_sub hl [] rfl)
  · have hm := o_f c1 hm
    refine lv_aload_n hx hb dJ0_coder_7d493_6 rfl (lv_at hl 0 rfl) ?_
    refine q_getC E hw hv0 (rL17 _ (List.mem_of_getElem? (i := 21) rfl)) dJ0_coder_7d493_7 ?_
    refine lv_goto (tgt := 14) hx hb dJ0_coder_7d493_10 (by decide) ?_
    exact w_J0_coder_7d493r_14 E hr hlk hm  hw (lv_sub hl [] rfl)
theorem c_J0_coder_7d493r {l : Launch} {D : va_G} {cy : Nat → ClassId} {b : Nat} {v0 : Nat} {σ : ST} {r : Int32 × ST} (hm : f_J0_coder_7d493r v0 σ = some r) (hv0 : v0 < 15) : Met l yJ0_coder_7d493 (wU yJ0_coder_7d493 cJ0_coder_7d493 1 (some .byte)) (rmD 0) (PcP D cy LR b [.ref (cy (100 + v0))] σ) (QcP D cy LR b (some (.int r.1)) r.2) 0 0 (inP LR b) :=
  q_met (lv := [(0, .ref (cy (100 + v0)))]) LR_ok (by decide) (Nat.le_of_ble_eq_true rfl) rfl (fun _ _ _ _ _ _ _ _ _ E hr hlk hw hl => w_J0_coder_7d493r_0 E hr hlk hm hv0 hw hl)

def f_J0_length_8abf5 (v0 : Nat) (σ : ST) : Option (Int32 × ST) :=
  (f_J0_coder_7d493 v0 σ).bind fun u1 =>
  some ((Int32.ofNat (lenS.getD v0 0)) >>> (u1.1 &&& 31), u1.2)
set_option maxRecDepth 20000 in
set_option maxHeartbeats 1000000 in
theorem w_J0_length_8abf5_0 {p : Program} {l : Launch} {e : Env} {s : State} {m : MethodId} {args : Array Value} {below : List Frame} {meth : Method} {c : Code} {D : va_G} {cy : Nat → ClassId} {b : Nat} (E : CX p m c cJ0_length_8abf5 1 s args RJ0 D cy LC) (hr : meth.sig.returnType = some .int) (hlk : meth.locks = false) {r : Int32 × ST} {v0 : Nat} {σ : ST} {H : Heap} {locs : List Loc} {ls : Array Slot} (hm : f_J0_length_8abf5 v0 σ = some r) (hv0 : v0 < 15) (hw : PH D cy LC b σ s H locs) (hl : lv_has ls 1 [(0, .ref (cy (100 + v0)))]) : W p l e (rmD 1) s m args below meth c H locs 0 0 (MQ below (QcP D cy LC b (some (.int r.1)) r.2) args s 0 0 (inP LC b)) (F0 m 0 ls []) := by
  have hx := E.1.1
  have hb := E.1.2.1
  unfold f_J0_length_8abf5 at hm
  refine lv_aload_n hx hb dJ0_length_8abf5_0 rfl (lv_at hl 0 rfl) ?_
  refine q_getV E hw hv0 (rL17 _ (List.mem_of_getElem? (i := 15) rfl)) dJ0_length_8abf5_1 ?_
  refine q_slen E hw hv0 dJ0_length_8abf5_4 ?_
  refine lv_aload_n hx hb dJ0_length_8abf5_5 rfl (lv_at hl 0 rfl) ?_
  refine q_cTi [.int (Int32.ofNat (lenS.getD v0 0))] E hw hm mw_J0_335 (fun u hu => c_J0_coder_7d493 hu hv0) hv0 rfl rfl hl.1 (Nat.le_of_ble_eq_true rfl) ⟨Nat.le_of_ble_eq_true rfl, Nat.le_of_ble_eq_true rfl⟩ dJ0_length_8abf5_6 (fun u1 H locs hm hw => ?_)
  refine lv_ishr hx hb dJ0_length_8abf5_9 ?_
  exact q_iret E hr hlk hw hm dJ0_length_8abf5_10
theorem c_J0_length_8abf5 {l : Launch} {D : va_G} {cy : Nat → ClassId} {b : Nat} {v0 : Nat} {σ : ST} {r : Int32 × ST} (hm : f_J0_length_8abf5 v0 σ = some r) (hv0 : v0 < 15) : Met l yJ0_length_8abf5 (wU yJ0_length_8abf5 cJ0_length_8abf5 1 (some .int)) (rmD 1) (PcP D cy LC b [.ref (cy (100 + v0))] σ) (QcP D cy LC b (some (.int r.1)) r.2) 0 0 (inP LC b) :=
  q_met (lv := [(0, .ref (cy (100 + v0)))]) LC_ok (by decide) (Nat.le_of_ble_eq_true rfl) rfl (fun _ _ _ _ _ _ _ _ _ E hr hlk hw hl => w_J0_length_8abf5_0 E hr hlk hm hv0 hw hl)

def f_J0_length_8abf5r (v0 : Nat) (σ : ST) : Option (Int32 × ST) :=
  (f_J0_coder_7d493r v0 σ).bind fun u1 =>
  some ((Int32.ofNat (lenS.getD v0 0)) >>> (u1.1 &&& 31), u1.2)
set_option maxRecDepth 20000 in
set_option maxHeartbeats 1000000 in
theorem w_J0_length_8abf5r_0 {p : Program} {l : Launch} {e : Env} {s : State} {m : MethodId} {args : Array Value} {below : List Frame} {meth : Method} {c : Code} {D : va_G} {cy : Nat → ClassId} {b : Nat} (E : CX p m c cJ0_length_8abf5 1 s args RJ0 D cy LR) (hr : meth.sig.returnType = some .int) (hlk : meth.locks = false) {r : Int32 × ST} {v0 : Nat} {σ : ST} {H : Heap} {locs : List Loc} {ls : Array Slot} (hm : f_J0_length_8abf5r v0 σ = some r) (hv0 : v0 < 15) (hw : PH D cy LR b σ s H locs) (hl : lv_has ls 1 [(0, .ref (cy (100 + v0)))]) : W p l e (rmD 1) s m args below meth c H locs 0 0 (MQ below (QcP D cy LR b (some (.int r.1)) r.2) args s 0 0 (inP LR b)) (F0 m 0 ls []) := by
  have hx := E.1.1
  have hb := E.1.2.1
  unfold f_J0_length_8abf5r at hm
  refine lv_aload_n hx hb dJ0_length_8abf5_0 rfl (lv_at hl 0 rfl) ?_
  refine q_getV E hw hv0 (rL17 _ (List.mem_of_getElem? (i := 15) rfl)) dJ0_length_8abf5_1 ?_
  refine q_slen E hw hv0 dJ0_length_8abf5_4 ?_
  refine lv_aload_n hx hb dJ0_length_8abf5_5 rfl (lv_at hl 0 rfl) ?_
  refine q_cTi [.int (Int32.ofNat (lenS.getD v0 0))] E hw hm mw_J0_335 (fun u hu => c_J0_coder_7d493r hu hv0) hv0 rfl rfl hl.1 (Nat.le_of_ble_eq_true rfl) ⟨Nat.le_of_ble_eq_true rfl, Nat.le_of_ble_eq_true rfl⟩ dJ0_length_8abf5_6 (fun u1 H locs hm hw => ?_)
  refine lv_ishr hx hb dJ0_length_8abf5_9 ?_
  exact q_iret E hr hlk hw hm dJ0_length_8abf5_10
theorem c_J0_length_8abf5r {l : Launch} {D : va_G} {cy : Nat → ClassId} {b : Nat} {v0 : Nat} {σ : ST} {r : Int32 × ST} (hm : f_J0_length_8abf5r v0 σ = some r) (hv0 : v0 < 15) : Met l yJ0_length_8abf5 (wU yJ0_length_8abf5 cJ0_length_8abf5 1 (some .int)) (rmD 1) (PcP D cy LR b [.ref (cy (100 + v0))] σ) (QcP D cy LR b (some (.int r.1)) r.2) 0 0 (inP LR b) :=
  q_met (lv := [(0, .ref (cy (100 + v0)))]) LR_ok (by decide) (Nat.le_of_ble_eq_true rfl) rfl (fun _ _ _ _ _ _ _ _ _ E hr hlk hw hl => w_J0_length_8abf5r_0 E hr hlk hm hv0 hw hl)

def k_X7_keeperNamed_2 : Nat → Nat → Int64 → Int32 → ST → Option (Int32 × ST)
  | 0, _, _, _, _ => none
  | n + 1, v0, v1, v3, σ => if (gI σ v0 6) ≤ v3 then (some ((-1), σ)) else ((ldB LC σ (LC.2.1 v0 1) v3).bind fun a2 =>
  if (lg_cmp a2 v1) = 0 then (some (v3, σ)) else (k_X7_keeperNamed_2 n v0 v1 (v3 + 1) σ))
set_option maxRecDepth 20000 in
set_option maxHeartbeats 1000000 in
theorem w_X7_keeperNamed_2 {p : Program} {l : Launch} {e : Env} {s : State} {m : MethodId} {args : Array Value} {below : List Frame} {meth : Method} {c : Code} {D : va_G} {cy : Nat → ClassId} {b : Nat} (E : CX p m c cX7_keeperNamed 4 s args RX7 D cy LC) (hr : meth.sig.returnType = some .int) (hlk : meth.locks = false) {r : Int32 × ST} : ∀ (n : Nat) (v0 : Nat) (v1 : Int64) (v3 : Int32) (σ : ST) (H : Heap) (locs : List Loc) (ls : Array Slot), k_X7_keeperNamed_2 n v0 v1 v3 σ = some r → LC.1 v0 = 7 → PH D cy LC b σ s H locs → lv_has ls 4 [(0, .ref (b + v0)), (1, .long v1), (3, .int v3)] → W p l e (rmD 0) s m args below meth c H locs 0 0 (MQ below (QcP D cy LC b (some (.int r.1)) r.2) args s 0 0 (inP LC b)) (F0 m 2 ls []) := by
  have hx := E.1.1
  have hb := E.1.2.1
  intro n
  induction n with
  | zero =>
    intro v0 v1 v3 σ H locs ls hm
    cases hm
  | succ n ih =>
    intro v0 v1 v3 σ H locs ls hm hv0 hw hl
    rw [k_X7_keeperNamed_2] at hm
    refine lv_iload_n hx hb dX7_keeperNamed_2 rfl (lv_at hl 2 rfl) ?_
    refine lv_aload_n hx hb dX7_keeperNamed_3 rfl (lv_at hl 0 rfl) ?_
    refine q_geti E hw fw_X7_31 rfl hv0 dX7_keeperNamed_4 ?_
    refine lv_icmp_ge (tgt := 29) hx hb dX7_keeperNamed_7 (by decide) (fun c1 => ?_) (fun c1 => ?_)
    · have hm := o_t c1 hm
      refine lv_iconst (v := (-1)) hx hb dX7_keeperNamed_29 (by decide) ?_
      exact q_iret E hr hlk hw hm dX7_keeperNamed_30
    · have hm := o_f c1 hm
      refine lv_aload_n hx hb dX7_keeperNamed_10 rfl (lv_at hl 0 rfl) ?_
      refine q_geta E hw fw_X7_15 rfl hv0 dX7_keeperNamed_11 ?_
      refine lv_iload_n hx hb dX7_keeperNamed_14 rfl (lv_at hl 2 rfl) ?_
      refine q_lald E hw (tC_7_1 hv0) hm dX7_keeperNamed_15 (fun a2 hm => ?_)
      refine lv_lload_n hx hb dX7_keeperNamed_16 rfl (lv_at hl 1 rfl) ?_
      refine W.lcmp hx hb dX7_keeperNamed_17 ?_
      refine lv_if_ne (tgt := 23) hx hb dX7_keeperNamed_18 (by decide) (fun c3 => ?_) (fun c3 => ?_)
      · have hm := o_f c3 hm
        refine lv_iinc (v := v3 + 1) (lv' := [(3, .int (v3 + 1)), (0, .ref (b + v0)), (1, .long v1)]) hx hb dX7_keeperNamed_23 hl (k := 2) rfl rfl (by decide) rfl (fun ls hl => ?_)
        refine lv_goto (tgt := 2) hx hb dX7_keeperNamed_26 (by decide) ?_
        exact ih _ _ _ _ _ _ _ hm hv0 hw (lv_sub hl [1, 2, 0] rfl)
      · have hm := o_t c3 hm
        refine lv_iload_n hx hb dX7_keeperNamed_21 rfl (lv_at hl 2 rfl) ?_
        exact q_iret E hr hlk hw hm dX7_keeperNamed_22
def f_X7_keeperNamed (v0 : Nat) (v1 : Int64) (σ : ST) : Option (Int32 × ST) :=
  k_X7_keeperNamed_2 FU v0 v1 0 σ
set_option maxRecDepth 20000 in
set_option maxHeartbeats 1000000 in
theorem w_X7_keeperNamed_0 {p : Program} {l : Launch} {e : Env} {s : State} {m : MethodId} {args : Array Value} {below : List Frame} {meth : Method} {c : Code} {D : va_G} {cy : Nat → ClassId} {b : Nat} (E : CX p m c cX7_keeperNamed 4 s args RX7 D cy LC) (hr : meth.sig.returnType = some .int) (hlk : meth.locks = false) {r : Int32 × ST} {v0 : Nat} {v1 : Int64} {σ : ST} {H : Heap} {locs : List Loc} {ls : Array Slot} (hm : f_X7_keeperNamed v0 v1 σ = some r) (hv0 : LC.1 v0 = 7) (hw : PH D cy LC b σ s H locs) (hl : lv_has ls 4 [(0, .ref (b + v0)), (1, .long v1)]) : W p l e (rmD 0) s m args below meth c H locs 0 0 (MQ below (QcP D cy LC b (some (.int r.1)) r.2) args s 0 0 (inP LC b)) (F0 m 0 ls []) := by
  have hx := E.1.1
  have hb := E.1.2.1
  unfold f_X7_keeperNamed at hm
  refine lv_iconst (v := 0) hx hb dX7_keeperNamed_0 (by decide) ?_
  refine lv_istore_n (lv' := [(3, .int 0), (0, .ref (b + v0)), (1, .long v1)]) hx hb dX7_keeperNamed_1 rfl hl (by decide) rfl (fun ls hl => ?_)
  exact w_X7_keeperNamed_2 E hr hlk _ _ _ _ _ _ _ _ hm hv0 hw (lv_sub hl [1, 2, 0] rfl)
theorem c_X7_keeperNamed {l : Launch} {D : va_G} {cy : Nat → ClassId} {b : Nat} {v0 : Nat} {v1 : Int64} {σ : ST} {r : Int32 × ST} (hm : f_X7_keeperNamed v0 v1 σ = some r) (hv0 : LC.1 v0 = 7) : Met l yX7_keeperNamed (wU yX7_keeperNamed cX7_keeperNamed 4 (some .int)) (rmD 0) (PcP D cy LC b [.ref (b + v0), .long v1] σ) (QcP D cy LC b (some (.int r.1)) r.2) 0 0 (inP LC b) :=
  q_met (lv := [(0, .ref (b + v0)), (1, .long v1)]) LC_ok (by decide) (Nat.le_of_ble_eq_true rfl) rfl (fun _ _ _ _ _ _ _ _ _ E hr hlk hw hl => w_X7_keeperNamed_0 E hr hlk hm hv0 hw hl)

def k_X7_keyNamed_2 : Nat → Nat → Int64 → Int32 → ST → Option (Int32 × ST)
  | 0, _, _, _, _ => none
  | n + 1, v0, v1, v3, σ => if (gI σ v0 7) ≤ v3 then (some ((-1), σ)) else ((ldB LC σ (LC.2.1 v0 3) v3).bind fun a2 =>
  if (lg_cmp a2 v1) = 0 then (some (v3, σ)) else (k_X7_keyNamed_2 n v0 v1 (v3 + 1) σ))
set_option maxRecDepth 20000 in
set_option maxHeartbeats 1000000 in
theorem w_X7_keyNamed_2 {p : Program} {l : Launch} {e : Env} {s : State} {m : MethodId} {args : Array Value} {below : List Frame} {meth : Method} {c : Code} {D : va_G} {cy : Nat → ClassId} {b : Nat} (E : CX p m c cX7_keyNamed 4 s args RX7 D cy LC) (hr : meth.sig.returnType = some .int) (hlk : meth.locks = false) {r : Int32 × ST} : ∀ (n : Nat) (v0 : Nat) (v1 : Int64) (v3 : Int32) (σ : ST) (H : Heap) (locs : List Loc) (ls : Array Slot), k_X7_keyNamed_2 n v0 v1 v3 σ = some r → LC.1 v0 = 7 → PH D cy LC b σ s H locs → lv_has ls 4 [(0, .ref (b + v0)), (1, .long v1), (3, .int v3)] → W p l e (rmD 0) s m args below meth c H locs 0 0 (MQ below (QcP D cy LC b (some (.int r.1)) r.2) args s 0 0 (inP LC b)) (F0 m 2 ls []) := by
  have hx := E.1.1
  have hb := E.1.2.1
  intro n
  induction n with
  | zero =>
    intro v0 v1 v3 σ H locs ls hm
    cases hm
  | succ n ih =>
    intro v0 v1 v3 σ H locs ls hm hv0 hw hl
    rw [k_X7_keyNamed_2] at hm
    refine lv_iload_n hx hb dX7_keyNamed_2 rfl (lv_at hl 2 rfl) ?_
    refine lv_aload_n hx hb dX7_keyNamed_3 rfl (lv_at hl 0 rfl) ?_
    refine q_geti E hw fw_X7_35 rfl hv0 dX7_keyNamed_4 ?_
    refine lv_icmp_ge (tgt := 29) hx hb dX7_keyNamed_7 (by decide) (fun c1 => ?_) (fun c1 => ?_)
    · have hm := o_t c1 hm
      refine lv_iconst (v := (-1)) hx hb dX7_keyNamed_29 (by decide) ?_
      exact q_iret E hr hlk hw hm dX7_keyNamed_30
    · have hm := o_f c1 hm
      refine lv_aload_n hx hb dX7_keyNamed_10 rfl (lv_at hl 0 rfl) ?_
      refine q_geta E hw fw_X7_22 rfl hv0 dX7_keyNamed_11 ?_
      refine lv_iload_n hx hb dX7_keyNamed_14 rfl (lv_at hl 2 rfl) ?_
      refine q_lald E hw (tC_7_3 hv0) hm dX7_keyNamed_15 (fun a2 hm => ?_)
      refine lv_lload_n hx hb dX7_keyNamed_16 rfl (lv_at hl 1 rfl) ?_
      refine W.lcmp hx hb dX7_keyNamed_17 ?_
      refine lv_if_ne (tgt := 23) hx hb dX7_keyNamed_18 (by decide) (fun c3 => ?_) (fun c3 => ?_)
      · have hm := o_f c3 hm
        refine lv_iinc (v := v3 + 1) (lv' := [(3, .int (v3 + 1)), (0, .ref (b + v0)), (1, .long v1)]) hx hb dX7_keyNamed_23 hl (k := 2) rfl rfl (by decide) rfl (fun ls hl => ?_)
        refine lv_goto (tgt := 2) hx hb dX7_keyNamed_26 (by decide) ?_
        exact ih _ _ _ _ _ _ _ hm hv0 hw (lv_sub hl [1, 2, 0] rfl)
      · have hm := o_t c3 hm
        refine lv_iload_n hx hb dX7_keyNamed_21 rfl (lv_at hl 2 rfl) ?_
        exact q_iret E hr hlk hw hm dX7_keyNamed_22
def f_X7_keyNamed (v0 : Nat) (v1 : Int64) (σ : ST) : Option (Int32 × ST) :=
  k_X7_keyNamed_2 FU v0 v1 0 σ
set_option maxRecDepth 20000 in
set_option maxHeartbeats 1000000 in
theorem w_X7_keyNamed_0 {p : Program} {l : Launch} {e : Env} {s : State} {m : MethodId} {args : Array Value} {below : List Frame} {meth : Method} {c : Code} {D : va_G} {cy : Nat → ClassId} {b : Nat} (E : CX p m c cX7_keyNamed 4 s args RX7 D cy LC) (hr : meth.sig.returnType = some .int) (hlk : meth.locks = false) {r : Int32 × ST} {v0 : Nat} {v1 : Int64} {σ : ST} {H : Heap} {locs : List Loc} {ls : Array Slot} (hm : f_X7_keyNamed v0 v1 σ = some r) (hv0 : LC.1 v0 = 7) (hw : PH D cy LC b σ s H locs) (hl : lv_has ls 4 [(0, .ref (b + v0)), (1, .long v1)]) : W p l e (rmD 0) s m args below meth c H locs 0 0 (MQ below (QcP D cy LC b (some (.int r.1)) r.2) args s 0 0 (inP LC b)) (F0 m 0 ls []) := by
  have hx := E.1.1
  have hb := E.1.2.1
  unfold f_X7_keyNamed at hm
  refine lv_iconst (v := 0) hx hb dX7_keyNamed_0 (by decide) ?_
  refine lv_istore_n (lv' := [(3, .int 0), (0, .ref (b + v0)), (1, .long v1)]) hx hb dX7_keyNamed_1 rfl hl (by decide) rfl (fun ls hl => ?_)
  exact w_X7_keyNamed_2 E hr hlk _ _ _ _ _ _ _ _ hm hv0 hw (lv_sub hl [1, 2, 0] rfl)
theorem c_X7_keyNamed {l : Launch} {D : va_G} {cy : Nat → ClassId} {b : Nat} {v0 : Nat} {v1 : Int64} {σ : ST} {r : Int32 × ST} (hm : f_X7_keyNamed v0 v1 σ = some r) (hv0 : LC.1 v0 = 7) : Met l yX7_keyNamed (wU yX7_keyNamed cX7_keyNamed 4 (some .int)) (rmD 0) (PcP D cy LC b [.ref (b + v0), .long v1] σ) (QcP D cy LC b (some (.int r.1)) r.2) 0 0 (inP LC b) :=
  q_met (lv := [(0, .ref (b + v0)), (1, .long v1)]) LC_ok (by decide) (Nat.le_of_ble_eq_true rfl) rfl (fun _ _ _ _ _ _ _ _ _ E hr hlk hw hl => w_X7_keyNamed_0 E hr hlk hm hv0 hw hl)

def f_X7_keeperAlong (v0 : Nat) (v1 : Int32) (v2 : Int32) (σ : ST) : Option (Int32 × ST) :=
  (ldA LC σ (LC.2.1 v0 4) ((v1 * 6) + v2)).bind fun a1 =>
  some (a1, σ)
set_option maxRecDepth 20000 in
set_option maxHeartbeats 1000000 in
theorem w_X7_keeperAlong_0 {p : Program} {l : Launch} {e : Env} {s : State} {m : MethodId} {args : Array Value} {below : List Frame} {meth : Method} {c : Code} {D : va_G} {cy : Nat → ClassId} {b : Nat} (E : CX p m c cX7_keeperAlong 3 s args RX7 D cy LC) (hr : meth.sig.returnType = some .int) (hlk : meth.locks = false) {r : Int32 × ST} {v0 : Nat} {v1 : Int32} {v2 : Int32} {σ : ST} {H : Heap} {locs : List Loc} {ls : Array Slot} (hm : f_X7_keeperAlong v0 v1 v2 σ = some r) (hv0 : LC.1 v0 = 7) (hw : PH D cy LC b σ s H locs) (hl : lv_has ls 3 [(0, .ref (b + v0)), (1, .int v1), (2, .int v2)]) : W p l e (rmD 0) s m args below meth c H locs 0 0 (MQ below (QcP D cy LC b (some (.int r.1)) r.2) args s 0 0 (inP LC b)) (F0 m 0 ls []) := by
  have hx := E.1.1
  have hb := E.1.2.1
  unfold f_X7_keeperAlong at hm
  refine lv_aload_n hx hb dX7_keeperAlong_0 rfl (lv_at hl 0 rfl) ?_
  refine q_geta E hw fw_X7_25 rfl hv0 dX7_keeperAlong_1 ?_
  refine lv_iload_n hx hb dX7_keeperAlong_4 rfl (lv_at hl 1 rfl) ?_
  refine lv_bipush (v := 6) hx hb dX7_keeperAlong_5 (by decide) ?_
  refine lv_imul hx hb dX7_keeperAlong_7 ?_
  refine lv_iload_n hx hb dX7_keeperAlong_8 rfl (lv_at hl 2 rfl) ?_
  refine lv_iadd hx hb dX7_keeperAlong_9 ?_
  refine q_iald E hw (tC_7_4 hv0) hm dX7_keeperAlong_10 (fun a1 hm => ?_)
  exact q_iret E hr hlk hw hm dX7_keeperAlong_11
theorem c_X7_keeperAlong {l : Launch} {D : va_G} {cy : Nat → ClassId} {b : Nat} {v0 : Nat} {v1 : Int32} {v2 : Int32} {σ : ST} {r : Int32 × ST} (hm : f_X7_keeperAlong v0 v1 v2 σ = some r) (hv0 : LC.1 v0 = 7) : Met l yX7_keeperAlong (wU yX7_keeperAlong cX7_keeperAlong 3 (some .int)) (rmD 0) (PcP D cy LC b [.ref (b + v0), .int v1, .int v2] σ) (QcP D cy LC b (some (.int r.1)) r.2) 0 0 (inP LC b) :=
  q_met (lv := [(0, .ref (b + v0)), (1, .int v1), (2, .int v2)]) LC_ok (by decide) (Nat.le_of_ble_eq_true rfl) rfl (fun _ _ _ _ _ _ _ _ _ E hr hlk hw hl => w_X7_keeperAlong_0 E hr hlk hm hv0 hw hl)

def k_X7_areBothPlaces_23 (s0 : Int32) (σ : ST) : Option (Int32 × ST) :=
  (ckZ s0).bind fun z => some (z, σ)
set_option maxRecDepth 20000 in
set_option maxHeartbeats 1000000 in
theorem w_X7_areBothPlaces_23 {p : Program} {l : Launch} {e : Env} {s : State} {m : MethodId} {args : Array Value} {below : List Frame} {meth : Method} {c : Code} {D : va_G} {cy : Nat → ClassId} {b : Nat} (E : CX p m c cX7_areBothPlaces 4 s args RX7 D cy LC) (hr : meth.sig.returnType = some .boolean) (hlk : meth.locks = false) {r : Int32 × ST} {s0 : Int32} {σ : ST} {H : Heap} {locs : List Loc} {ls : Array Slot} (hm : k_X7_areBothPlaces_23 s0 σ = some r) (hw : PH D cy LC b σ s H locs) (hl : lv_has ls 4 []) : W p l e (rmD 1) s m args below meth c H locs 0 0 (MQ below (QcP D cy LC b (some (.int r.1)) r.2) args s 0 0 (inP LC b)) (F0 m 23 ls [.int s0]) := by
  have hx := E.1.1
  have hb := E.1.2.1
  unfold k_X7_areBothPlaces_23 at hm
  exact q_zret E hr hlk hw hm dX7_areBothPlaces_23
def k_X7_areBothPlaces_22 (σ : ST) : Option (Int32 × ST) :=
  k_X7_areBothPlaces_23 0 σ
set_option maxRecDepth 20000 in
set_option maxHeartbeats 1000000 in
theorem w_X7_areBothPlaces_22 {p : Program} {l : Launch} {e : Env} {s : State} {m : MethodId} {args : Array Value} {below : List Frame} {meth : Method} {c : Code} {D : va_G} {cy : Nat → ClassId} {b : Nat} (E : CX p m c cX7_areBothPlaces 4 s args RX7 D cy LC) (hr : meth.sig.returnType = some .boolean) (hlk : meth.locks = false) {r : Int32 × ST} {σ : ST} {H : Heap} {locs : List Loc} {ls : Array Slot} (hm : k_X7_areBothPlaces_22  σ = some r) (hw : PH D cy LC b σ s H locs) (hl : lv_has ls 4 []) : W p l e (rmD 1) s m args below meth c H locs 0 0 (MQ below (QcP D cy LC b (some (.int r.1)) r.2) args s 0 0 (inP LC b)) (F0 m 22 ls []) := by
  have hx := E.1.1
  have hb := E.1.2.1
  unfold k_X7_areBothPlaces_22 at hm
  refine lv_iconst (v := 0) hx hb dX7_areBothPlaces_22 (by decide) ?_
  exact w_X7_areBothPlaces_23 E hr hlk hm  hw (lv_sub hl [] rfl)
def f_X7_areBothPlaces (v0 : Nat) (v1 : Int32) (v2 : Int32) (v3 : Int32) (σ : ST) : Option (Int32 × ST) :=
  (f_X7_isPlace v0 v1 v2 σ).bind fun u1 =>
  if u1.1 = 0 then (k_X7_areBothPlaces_22 u1.2) else ((f_X7_isPlace v0 v1 v3 u1.2).bind fun u3 =>
  if u3.1 = 0 then (k_X7_areBothPlaces_22 u3.2) else (k_X7_areBothPlaces_23 1 u3.2))
set_option maxRecDepth 20000 in
set_option maxHeartbeats 1000000 in
theorem w_X7_areBothPlaces_0 {p : Program} {l : Launch} {e : Env} {s : State} {m : MethodId} {args : Array Value} {below : List Frame} {meth : Method} {c : Code} {D : va_G} {cy : Nat → ClassId} {b : Nat} (E : CX p m c cX7_areBothPlaces 4 s args RX7 D cy LC) (hr : meth.sig.returnType = some .boolean) (hlk : meth.locks = false) {r : Int32 × ST} {v0 : Nat} {v1 : Int32} {v2 : Int32} {v3 : Int32} {σ : ST} {H : Heap} {locs : List Loc} {ls : Array Slot} (hm : f_X7_areBothPlaces v0 v1 v2 v3 σ = some r) (hv0 : LC.1 v0 = 7) (hw : PH D cy LC b σ s H locs) (hl : lv_has ls 4 [(0, .ref (b + v0)), (1, .int v1), (2, .int v2), (3, .int v3)]) : W p l e (rmD 1) s m args below meth c H locs 0 0 (MQ below (QcP D cy LC b (some (.int r.1)) r.2) args s 0 0 (inP LC b)) (F0 m 0 ls []) := by
  have hx := E.1.1
  have hb := E.1.2.1
  unfold f_X7_areBothPlaces at hm
  refine lv_aload_n hx hb dX7_areBothPlaces_0 rfl (lv_at hl 0 rfl) ?_
  refine lv_iload_n hx hb dX7_areBothPlaces_1 rfl (lv_at hl 1 rfl) ?_
  refine lv_iload_n hx hb dX7_areBothPlaces_2 rfl (lv_at hl 2 rfl) ?_
  refine q_cVi (κ := 7) (C := RX7) (T := TX7) (N := 12) [] E hw hm mw_X7_63 (fun u hu => c_X7_isPlace hu hv0) rfl (by decide) hv0 rfl rfl hl.1 (Nat.le_of_ble_eq_true rfl) ⟨Nat.le_of_ble_eq_true rfl, Nat.le_of_ble_eq_true rfl⟩ dX7_areBothPlaces_3 (fun u1 H locs hm hw => ?_)
  refine lv_if_eq (tgt := 22) hx hb dX7_areBothPlaces_6 (by decide) (fun c2 => ?_) (fun c2 => ?_)
  · have hm := o_t c2 hm
    exact w_X7_areBothPlaces_22 E hr hlk hm  hw (lv_sub hl [] rfl)
  · have hm := o_f c2 hm
    refine lv_aload_n hx hb dX7_areBothPlaces_9 rfl (lv_at hl 0 rfl) ?_
    refine lv_iload_n hx hb dX7_areBothPlaces_10 rfl (lv_at hl 1 rfl) ?_
    refine lv_iload_n hx hb dX7_areBothPlaces_11 rfl (lv_at hl 3 rfl) ?_
    refine q_cVi (κ := 7) (C := RX7) (T := TX7) (N := 12) [] E hw hm mw_X7_63 (fun u hu => c_X7_isPlace hu hv0) rfl (by decide) hv0 rfl rfl hl.1 (Nat.le_of_ble_eq_true rfl) ⟨Nat.le_of_ble_eq_true rfl, Nat.le_of_ble_eq_true rfl⟩ dX7_areBothPlaces_12 (fun u3 H locs hm hw => ?_)
    refine lv_if_eq (tgt := 22) hx hb dX7_areBothPlaces_15 (by decide) (fun c4 => ?_) (fun c4 => ?_)
    · have hm := o_t c4 hm
      exact w_X7_areBothPlaces_22 E hr hlk hm  hw (lv_sub hl [] rfl)
    · have hm := o_f c4 hm
      refine lv_iconst (v := 1) hx hb dX7_areBothPlaces_18 (by decide) ?_
      refine lv_goto (tgt := 23) hx hb dX7_areBothPlaces_19 (by decide) ?_
      exact w_X7_areBothPlaces_23 E hr hlk hm  hw (lv_sub hl [] rfl)
theorem c_X7_areBothPlaces {l : Launch} {D : va_G} {cy : Nat → ClassId} {b : Nat} {v0 : Nat} {v1 : Int32} {v2 : Int32} {v3 : Int32} {σ : ST} {r : Int32 × ST} (hm : f_X7_areBothPlaces v0 v1 v2 v3 σ = some r) (hv0 : LC.1 v0 = 7) : Met l yX7_areBothPlaces (wU yX7_areBothPlaces cX7_areBothPlaces 4 (some .boolean)) (rmD 1) (PcP D cy LC b [.ref (b + v0), .int v1, .int v2, .int v3] σ) (QcP D cy LC b (some (.int r.1)) r.2) 0 0 (inP LC b) :=
  q_met (lv := [(0, .ref (b + v0)), (1, .int v1), (2, .int v2), (3, .int v3)]) LC_ok (by decide) (Nat.le_of_ble_eq_true rfl) rfl (fun _ _ _ _ _ _ _ _ _ E hr hlk hw hl => w_X7_areBothPlaces_0 E hr hlk hm hv0 hw hl)

def f_X7_clear (v0 : Nat) (σ : ST) : Option (ST) :=
  (stI σ v0 6 0).bind fun σ1 =>
  (stI σ1 v0 7 0).bind fun σ2 =>
  (stI σ2 v0 8 0).bind fun σ3 =>
  (stI σ3 v0 9 3).bind fun σ4 =>
  (stI σ4 v0 10 1).bind fun σ5 =>
  (stI σ5 v0 11 1).bind fun σ6 =>
  some σ6
set_option maxRecDepth 20000 in
set_option maxHeartbeats 1000000 in
theorem w_X7_clear_0 {p : Program} {l : Launch} {e : Env} {s : State} {m : MethodId} {args : Array Value} {below : List Frame} {meth : Method} {c : Code} {D : va_G} {cy : Nat → ClassId} {b : Nat} (E : CX p m c cX7_clear 1 s args RX7 D cy LC) (hr : meth.sig.returnType = none) (hlk : meth.locks = false) {r : ST} {v0 : Nat} {σ : ST} {H : Heap} {locs : List Loc} {ls : Array Slot} (hm : f_X7_clear v0 σ = some r) (hv0 : LC.1 v0 = 7) (hw : PH D cy LC b σ s H locs) (hl : lv_has ls 1 [(0, .ref (b + v0))]) : W p l e (rmD 0) s m args below meth c H locs 0 0 (MQ below (QcP D cy LC b none r) args s 0 0 (inP LC b)) (F0 m 0 ls []) := by
  have hx := E.1.1
  have hb := E.1.2.1
  unfold f_X7_clear at hm
  refine lv_aload_n hx hb dX7_clear_0 rfl (lv_at hl 0 rfl) ?_
  refine lv_iconst (v := 0) hx hb dX7_clear_1 (by decide) ?_
  refine q_pi E hw hm fw_X7_31 rfl rfl hv0 dX7_clear_2 (fun σ1 H locs hm hw => ?_)
  refine lv_aload_n hx hb dX7_clear_5 rfl (lv_at hl 0 rfl) ?_
  refine lv_iconst (v := 0) hx hb dX7_clear_6 (by decide) ?_
  refine q_pi E hw hm fw_X7_35 rfl rfl hv0 dX7_clear_7 (fun σ2 H locs hm hw => ?_)
  refine lv_aload_n hx hb dX7_clear_10 rfl (lv_at hl 0 rfl) ?_
  refine lv_iconst (v := 0) hx hb dX7_clear_11 (by decide) ?_
  refine q_pi E hw hm fw_X7_38 rfl rfl hv0 dX7_clear_12 (fun σ3 H locs hm hw => ?_)
  refine lv_aload_n hx hb dX7_clear_15 rfl (lv_at hl 0 rfl) ?_
  refine lv_iconst (v := 3) hx hb dX7_clear_16 (by decide) ?_
  refine q_pi E hw hm fw_X7_41 rfl rfl hv0 dX7_clear_17 (fun σ4 H locs hm hw => ?_)
  refine lv_aload_n hx hb dX7_clear_20 rfl (lv_at hl 0 rfl) ?_
  refine lv_iconst (v := 1) hx hb dX7_clear_21 (by decide) ?_
  refine q_pi E hw hm fw_X7_44 rfl rfl hv0 dX7_clear_22 (fun σ5 H locs hm hw => ?_)
  refine lv_aload_n hx hb dX7_clear_25 rfl (lv_at hl 0 rfl) ?_
  refine lv_iconst (v := 1) hx hb dX7_clear_26 (by decide) ?_
  refine q_pi E hw hm fw_X7_47 rfl rfl hv0 dX7_clear_27 (fun σ6 H locs hm hw => ?_)
  exact q_vret E hr hlk hw hm dX7_clear_30
theorem c_X7_clear {l : Launch} {D : va_G} {cy : Nat → ClassId} {b : Nat} {v0 : Nat} {σ : ST} {r : ST} (hm : f_X7_clear v0 σ = some r) (hv0 : LC.1 v0 = 7) : Met l yX7_clear (wU yX7_clear cX7_clear 1 (none)) (rmD 0) (PcP D cy LC b [.ref (b + v0)] σ) (QcP D cy LC b none r) 0 0 (inP LC b) :=
  q_met (lv := [(0, .ref (b + v0))]) LC_ok (by decide) (Nat.le_of_ble_eq_true rfl) rfl (fun _ _ _ _ _ _ _ _ _ E hr hlk hw hl => w_X7_clear_0 E hr hlk hm hv0 hw hl)

def f_X7_copy (v0 : Nat) (v1 : Nat) (σ : ST) : Option (ST) :=
  (stI σ v0 6 (gI σ v1 6)).bind fun σ1 =>
  (stI σ1 v0 7 (gI σ1 v1 7)).bind fun σ2 =>
  (stI σ2 v0 8 (gI σ2 v1 8)).bind fun σ3 =>
  (stI σ3 v0 9 (gI σ3 v1 9)).bind fun σ4 =>
  (stI σ4 v0 10 (gI σ4 v1 10)).bind fun σ5 =>
  (stI σ5 v0 11 (gI σ5 v1 11)).bind fun σ6 =>
  (cpA LC σ6 (LC.2.1 v1 0) 0 (LC.2.1 v0 0) 0 6).bind fun σ7 =>
  (cpB LC σ7 (LC.2.1 v1 1) 0 (LC.2.1 v0 1) 0 6).bind fun σ8 =>
  (cpA LC σ8 (LC.2.1 v1 2) 0 (LC.2.1 v0 2) 0 6).bind fun σ9 =>
  (cpB LC σ9 (LC.2.1 v1 3) 0 (LC.2.1 v0 3) 0 6).bind fun σ10 =>
  (cpA LC σ10 (LC.2.1 v1 4) 0 (LC.2.1 v0 4) 0 (Int32.ofNat (LC.2.2.1 (LC.2.1 v0 4)))).bind fun σ11 =>
  (cpA LC σ11 (LC.2.1 v1 5) 0 (LC.2.1 v0 5) 0 6).bind fun σ12 =>
  some σ12
set_option maxRecDepth 20000 in
set_option maxHeartbeats 1000000 in
theorem w_X7_copy_0 {p : Program} {l : Launch} {e : Env} {s : State} {m : MethodId} {args : Array Value} {below : List Frame} {meth : Method} {c : Code} {D : va_G} {cy : Nat → ClassId} {b : Nat} (E : CX p m c cX7_copy 2 s args RX7 D cy LC) (hr : meth.sig.returnType = none) (hlk : meth.locks = false) {r : ST} {v0 : Nat} {v1 : Nat} {σ : ST} {H : Heap} {locs : List Loc} {ls : Array Slot} (hm : f_X7_copy v0 v1 σ = some r) (hv0 : LC.1 v0 = 7) (hv1 : LC.1 v1 = 7) (hw : PH D cy LC b σ s H locs) (hl : lv_has ls 2 [(0, .ref (b + v0)), (1, .ref (b + v1))]) : W p l e (rmD 1) s m args below meth c H locs 0 0 (MQ below (QcP D cy LC b none r) args s 0 0 (inP LC b)) (F0 m 0 ls []) := by
  have hx := E.1.1
  have hb := E.1.2.1
  unfold f_X7_copy at hm
  refine lv_aload_n hx hb dX7_copy_0 rfl (lv_at hl 0 rfl) ?_
  refine lv_aload_n hx hb dX7_copy_1 rfl (lv_at hl 1 rfl) ?_
  refine q_geti E hw fw_X7_31 rfl hv1 dX7_copy_2 ?_
  refine q_pi E hw hm fw_X7_31 rfl rfl hv0 dX7_copy_5 (fun σ1 H locs hm hw => ?_)
  refine lv_aload_n hx hb dX7_copy_8 rfl (lv_at hl 0 rfl) ?_
  refine lv_aload_n hx hb dX7_copy_9 rfl (lv_at hl 1 rfl) ?_
  refine q_geti E hw fw_X7_35 rfl hv1 dX7_copy_10 ?_
  refine q_pi E hw hm fw_X7_35 rfl rfl hv0 dX7_copy_13 (fun σ2 H locs hm hw => ?_)
  refine lv_aload_n hx hb dX7_copy_16 rfl (lv_at hl 0 rfl) ?_
  refine lv_aload_n hx hb dX7_copy_17 rfl (lv_at hl 1 rfl) ?_
  refine q_geti E hw fw_X7_38 rfl hv1 dX7_copy_18 ?_
  refine q_pi E hw hm fw_X7_38 rfl rfl hv0 dX7_copy_21 (fun σ3 H locs hm hw => ?_)
  refine lv_aload_n hx hb dX7_copy_24 rfl (lv_at hl 0 rfl) ?_
  refine lv_aload_n hx hb dX7_copy_25 rfl (lv_at hl 1 rfl) ?_
  refine q_geti E hw fw_X7_41 rfl hv1 dX7_copy_26 ?_
  refine q_pi E hw hm fw_X7_41 rfl rfl hv0 dX7_copy_29 (fun σ4 H locs hm hw => ?_)
  refine lv_aload_n hx hb dX7_copy_32 rfl (lv_at hl 0 rfl) ?_
  refine lv_aload_n hx hb dX7_copy_33 rfl (lv_at hl 1 rfl) ?_
  refine q_geti E hw fw_X7_44 rfl hv1 dX7_copy_34 ?_
  refine q_pi E hw hm fw_X7_44 rfl rfl hv0 dX7_copy_37 (fun σ5 H locs hm hw => ?_)
  refine lv_aload_n hx hb dX7_copy_40 rfl (lv_at hl 0 rfl) ?_
  refine lv_aload_n hx hb dX7_copy_41 rfl (lv_at hl 1 rfl) ?_
  refine q_geti E hw fw_X7_47 rfl hv1 dX7_copy_42 ?_
  refine q_pi E hw hm fw_X7_47 rfl rfl hv0 dX7_copy_45 (fun σ6 H locs hm hw => ?_)
  refine lv_aload_n hx hb dX7_copy_48 rfl (lv_at hl 1 rfl) ?_
  refine q_geta E hw fw_X7_9 rfl hv1 dX7_copy_49 ?_
  refine lv_iconst (v := 0) hx hb dX7_copy_52 (by decide) ?_
  refine lv_aload_n hx hb dX7_copy_53 rfl (lv_at hl 0 rfl) ?_
  refine q_geta E hw fw_X7_9 rfl hv0 dX7_copy_54 ?_
  refine lv_iconst (v := 0) hx hb dX7_copy_57 (by decide) ?_
  refine lv_bipush (v := 6) hx hb dX7_copy_58 (by decide) ?_
  refine q_cpi E hw hm (rL23 _ (List.mem_of_getElem? (i := 20) rfl)) w_arraycopy hl.1 (tC_7_0 hv1) (tC_7_0 hv0) (by decide) (by decide) dX7_copy_60 (fun σ7 H locs hm hw => ?_)
  refine lv_aload_n hx hb dX7_copy_63 rfl (lv_at hl 1 rfl) ?_
  refine q_geta E hw fw_X7_15 rfl hv1 dX7_copy_64 ?_
  refine lv_iconst (v := 0) hx hb dX7_copy_67 (by decide) ?_
  refine lv_aload_n hx hb dX7_copy_68 rfl (lv_at hl 0 rfl) ?_
  refine q_geta E hw fw_X7_15 rfl hv0 dX7_copy_69 ?_
  refine lv_iconst (v := 0) hx hb dX7_copy_72 (by decide) ?_
  refine lv_bipush (v := 6) hx hb dX7_copy_73 (by decide) ?_
  refine q_cpl E hw hm (rL23 _ (List.mem_of_getElem? (i := 20) rfl)) w_arraycopy hl.1 (tC_7_1 hv1) (tC_7_1 hv0) (by decide) (by decide) dX7_copy_75 (fun σ8 H locs hm hw => ?_)
  refine lv_aload_n hx hb dX7_copy_78 rfl (lv_at hl 1 rfl) ?_
  refine q_geta E hw fw_X7_19 rfl hv1 dX7_copy_79 ?_
  refine lv_iconst (v := 0) hx hb dX7_copy_82 (by decide) ?_
  refine lv_aload_n hx hb dX7_copy_83 rfl (lv_at hl 0 rfl) ?_
  refine q_geta E hw fw_X7_19 rfl hv0 dX7_copy_84 ?_
  refine lv_iconst (v := 0) hx hb dX7_copy_87 (by decide) ?_
  refine lv_bipush (v := 6) hx hb dX7_copy_88 (by decide) ?_
  refine q_cpi E hw hm (rL23 _ (List.mem_of_getElem? (i := 20) rfl)) w_arraycopy hl.1 (tC_7_2 hv1) (tC_7_2 hv0) (by decide) (by decide) dX7_copy_90 (fun σ9 H locs hm hw => ?_)
  refine lv_aload_n hx hb dX7_copy_93 rfl (lv_at hl 1 rfl) ?_
  refine q_geta E hw fw_X7_22 rfl hv1 dX7_copy_94 ?_
  refine lv_iconst (v := 0) hx hb dX7_copy_97 (by decide) ?_
  refine lv_aload_n hx hb dX7_copy_98 rfl (lv_at hl 0 rfl) ?_
  refine q_geta E hw fw_X7_22 rfl hv0 dX7_copy_99 ?_
  refine lv_iconst (v := 0) hx hb dX7_copy_102 (by decide) ?_
  refine lv_bipush (v := 6) hx hb dX7_copy_103 (by decide) ?_
  refine q_cpl E hw hm (rL23 _ (List.mem_of_getElem? (i := 20) rfl)) w_arraycopy hl.1 (tC_7_3 hv1) (tC_7_3 hv0) (by decide) (by decide) dX7_copy_105 (fun σ10 H locs hm hw => ?_)
  refine lv_aload_n hx hb dX7_copy_108 rfl (lv_at hl 1 rfl) ?_
  refine q_geta E hw fw_X7_25 rfl hv1 dX7_copy_109 ?_
  refine lv_iconst (v := 0) hx hb dX7_copy_112 (by decide) ?_
  refine lv_aload_n hx hb dX7_copy_113 rfl (lv_at hl 0 rfl) ?_
  refine q_geta E hw fw_X7_25 rfl hv0 dX7_copy_114 ?_
  refine lv_iconst (v := 0) hx hb dX7_copy_117 (by decide) ?_
  refine lv_aload_n hx hb dX7_copy_118 rfl (lv_at hl 0 rfl) ?_
  refine q_geta E hw fw_X7_25 rfl hv0 dX7_copy_119 ?_
  refine q_alenI E hw (tC_7_4 hv0) dX7_copy_122 ?_
  refine q_cpi E hw hm (rL23 _ (List.mem_of_getElem? (i := 20) rfl)) w_arraycopy hl.1 (tC_7_4 hv1) (tC_7_4 hv0) (by decide) (by decide) dX7_copy_123 (fun σ11 H locs hm hw => ?_)
  refine lv_aload_n hx hb dX7_copy_126 rfl (lv_at hl 1 rfl) ?_
  refine q_geta E hw fw_X7_28 rfl hv1 dX7_copy_127 ?_
  refine lv_iconst (v := 0) hx hb dX7_copy_130 (by decide) ?_
  refine lv_aload_n hx hb dX7_copy_131 rfl (lv_at hl 0 rfl) ?_
  refine q_geta E hw fw_X7_28 rfl hv0 dX7_copy_132 ?_
  refine lv_iconst (v := 0) hx hb dX7_copy_135 (by decide) ?_
  refine lv_bipush (v := 6) hx hb dX7_copy_136 (by decide) ?_
  refine q_cpi E hw hm (rL23 _ (List.mem_of_getElem? (i := 20) rfl)) w_arraycopy hl.1 (tC_7_5 hv1) (tC_7_5 hv0) (by decide) (by decide) dX7_copy_138 (fun σ12 H locs hm hw => ?_)
  exact q_vret E hr hlk hw hm dX7_copy_141
theorem c_X7_copy {l : Launch} {D : va_G} {cy : Nat → ClassId} {b : Nat} {v0 : Nat} {v1 : Nat} {σ : ST} {r : ST} (hm : f_X7_copy v0 v1 σ = some r) (hv0 : LC.1 v0 = 7) (hv1 : LC.1 v1 = 7) : Met l yX7_copy (wU yX7_copy cX7_copy 2 (none)) (rmD 1) (PcP D cy LC b [.ref (b + v0), .ref (b + v1)] σ) (QcP D cy LC b none r) 0 0 (inP LC b) :=
  q_met (lv := [(0, .ref (b + v0)), (1, .ref (b + v1))]) LC_ok (by decide) (Nat.le_of_ble_eq_true rfl) rfl (fun _ _ _ _ _ _ _ _ _ E hr hlk hw hl => w_X7_copy_0 E hr hlk hm hv0 hv1 hw hl)

def k_X7_wayFrom_33 (s0 : Int32) (σ : ST) : Option (Int32 × ST) :=
  some (s0, σ)
set_option maxRecDepth 20000 in
set_option maxHeartbeats 1000000 in
theorem w_X7_wayFrom_33 {p : Program} {l : Launch} {e : Env} {s : State} {m : MethodId} {args : Array Value} {below : List Frame} {meth : Method} {c : Code} {D : va_G} {cy : Nat → ClassId} {b : Nat} (E : CX p m c cX7_wayFrom 3 s args RX7 D cy LC) (hr : meth.sig.returnType = some .int) (hlk : meth.locks = false) {r : Int32 × ST} {s0 : Int32} {σ : ST} {H : Heap} {locs : List Loc} {ls : Array Slot} (hm : k_X7_wayFrom_33 s0 σ = some r) (hw : PH D cy LC b σ s H locs) (hl : lv_has ls 3 []) : W p l e (rmD 0) s m args below meth c H locs 0 0 (MQ below (QcP D cy LC b (some (.int r.1)) r.2) args s 0 0 (inP LC b)) (F0 m 33 ls [.int s0]) := by
  have hx := E.1.1
  have hb := E.1.2.1
  unfold k_X7_wayFrom_33 at hm
  exact q_iret E hr hlk hw hm dX7_wayFrom_33
def f_X7_wayFrom (v0 : Nat) (v1 : Int32) (v2 : Int32) (σ : ST) : Option (Int32 × ST) :=
  (ldA LC σ (LC.2.1 v0 2) v1).bind fun a1 =>
  if v2 < a1 then ((ldA LC σ (LC.2.1 v0 2) v1).bind fun a3 =>
  k_X7_wayFrom_33 ((v2 - a3) + 1000) σ) else ((ldA LC σ (LC.2.1 v0 2) v1).bind fun a4 =>
  k_X7_wayFrom_33 (v2 - a4) σ)
set_option maxRecDepth 20000 in
set_option maxHeartbeats 1000000 in
theorem w_X7_wayFrom_0 {p : Program} {l : Launch} {e : Env} {s : State} {m : MethodId} {args : Array Value} {below : List Frame} {meth : Method} {c : Code} {D : va_G} {cy : Nat → ClassId} {b : Nat} (E : CX p m c cX7_wayFrom 3 s args RX7 D cy LC) (hr : meth.sig.returnType = some .int) (hlk : meth.locks = false) {r : Int32 × ST} {v0 : Nat} {v1 : Int32} {v2 : Int32} {σ : ST} {H : Heap} {locs : List Loc} {ls : Array Slot} (hm : f_X7_wayFrom v0 v1 v2 σ = some r) (hv0 : LC.1 v0 = 7) (hw : PH D cy LC b σ s H locs) (hl : lv_has ls 3 [(0, .ref (b + v0)), (1, .int v1), (2, .int v2)]) : W p l e (rmD 0) s m args below meth c H locs 0 0 (MQ below (QcP D cy LC b (some (.int r.1)) r.2) args s 0 0 (inP LC b)) (F0 m 0 ls []) := by
  have hx := E.1.1
  have hb := E.1.2.1
  unfold f_X7_wayFrom at hm
  refine lv_iload_n hx hb dX7_wayFrom_0 rfl (lv_at hl 2 rfl) ?_
  refine lv_aload_n hx hb dX7_wayFrom_1 rfl (lv_at hl 0 rfl) ?_
  refine q_geta E hw fw_X7_19 rfl hv0 dX7_wayFrom_2 ?_
  refine lv_iload_n hx hb dX7_wayFrom_5 rfl (lv_at hl 1 rfl) ?_
  refine q_iald E hw (tC_7_2 hv0) hm dX7_wayFrom_6 (fun a1 hm => ?_)
  refine lv_icmp_lt (tgt := 21) hx hb dX7_wayFrom_7 (by decide) (fun c2 => ?_) (fun c2 => ?_)
  · have hm := o_t c2 hm
    refine lv_iload_n hx hb dX7_wayFrom_21 rfl (lv_at hl 2 rfl) ?_
    refine lv_aload_n hx hb dX7_wayFrom_22 rfl (lv_at hl 0 rfl) ?_
    refine q_geta E hw fw_X7_19 rfl hv0 dX7_wayFrom_23 ?_
    refine lv_iload_n hx hb dX7_wayFrom_26 rfl (lv_at hl 1 rfl) ?_
    refine q_iald E hw (tC_7_2 hv0) hm dX7_wayFrom_27 (fun a3 hm => ?_)
    refine lv_isub hx hb dX7_wayFrom_28 ?_
    refine lv_sipush (v := 1000) hx hb dX7_wayFrom_29 (by decide) ?_
    refine lv_iadd hx hb dX7_wayFrom_32 ?_
    exact w_X7_wayFrom_33 E hr hlk hm  hw (lv_sub hl [] rfl)
  · have hm := o_f c2 hm
    refine lv_iload_n hx hb dX7_wayFrom_10 rfl (lv_at hl 2 rfl) ?_
    refine lv_aload_n hx hb dX7_wayFrom_11 rfl (lv_at hl 0 rfl) ?_
    refine q_geta E hw fw_X7_19 rfl hv0 dX7_wayFrom_12 ?_
    refine lv_iload_n hx hb dX7_wayFrom_15 rfl (lv_at hl 1 rfl) ?_
    refine q_iald E hw (tC_7_2 hv0) hm dX7_wayFrom_16 (fun a4 hm => ?_)
    refine lv_isub hx hb dX7_wayFrom_17 ?_
    refine lv_goto (tgt := 33) hx hb dX7_wayFrom_18 (by decide) ?_
    exact w_X7_wayFrom_33 E hr hlk hm  hw (lv_sub hl [] rfl)
theorem c_X7_wayFrom {l : Launch} {D : va_G} {cy : Nat → ClassId} {b : Nat} {v0 : Nat} {v1 : Int32} {v2 : Int32} {σ : ST} {r : Int32 × ST} (hm : f_X7_wayFrom v0 v1 v2 σ = some r) (hv0 : LC.1 v0 = 7) : Met l yX7_wayFrom (wU yX7_wayFrom cX7_wayFrom 3 (some .int)) (rmD 0) (PcP D cy LC b [.ref (b + v0), .int v1, .int v2] σ) (QcP D cy LC b (some (.int r.1)) r.2) 0 0 (inP LC b) :=
  q_met (lv := [(0, .ref (b + v0)), (1, .int v1), (2, .int v2)]) LC_ok (by decide) (Nat.le_of_ble_eq_true rfl) rfl (fun _ _ _ _ _ _ _ _ _ E hr hlk hw hl => w_X7_wayFrom_0 E hr hlk hm hv0 hw hl)

def k_X7_keepersAhead_41 (rec13 : Nat → Int32 → Int32 → Int32 → Int32 → ST → Option (Int32 × ST)) (v0 : Nat) (v1 : Int32) (v3 : Int32) (v4 : Int32) (v5 : Int32) (σ : ST) : Option (Int32 × ST) :=
  rec13 v0 v1 v3 v4 (v5 + 1) σ
set_option maxRecDepth 20000 in
set_option maxHeartbeats 1000000 in
theorem w_X7_keepersAhead_41 {p : Program} {l : Launch} {e : Env} {s : State} {m : MethodId} {args : Array Value} {below : List Frame} {meth : Method} {c : Code} {D : va_G} {cy : Nat → ClassId} {b : Nat} (E : CX p m c cX7_keepersAhead 6 s args RX7 D cy LC) (hr : meth.sig.returnType = some .int) (hlk : meth.locks = false) {r : Int32 × ST} {rec13 : Nat → Int32 → Int32 → Int32 → Int32 → ST → Option (Int32 × ST)} (hrec13 : ∀ (v0 : Nat) (v1 : Int32) (v3 : Int32) (v4 : Int32) (v5 : Int32) (σ : ST) (H : Heap) (locs : List Loc) (ls : Array Slot), rec13 v0 v1 v3 v4 v5 σ = some r → LC.1 v0 = 7 → PH D cy LC b σ s H locs → lv_has ls 6 [(0, .ref (b + v0)), (1, .int v1), (3, .int v3), (4, .int v4), (5, .int v5)] → W p l e (rmD 1) s m args below meth c H locs 0 0 (MQ below (QcP D cy LC b (some (.int r.1)) r.2) args s 0 0 (inP LC b)) (F0 m 13 ls [])) {v0 : Nat} {v1 : Int32} {v3 : Int32} {v4 : Int32} {v5 : Int32} {σ : ST} {H : Heap} {locs : List Loc} {ls : Array Slot} (hm : k_X7_keepersAhead_41 rec13 v0 v1 v3 v4 v5 σ = some r) (hv0 : LC.1 v0 = 7) (hw : PH D cy LC b σ s H locs) (hl : lv_has ls 6 [(0, .ref (b + v0)), (1, .int v1), (3, .int v3), (4, .int v4), (5, .int v5)]) : W p l e (rmD 1) s m args below meth c H locs 0 0 (MQ below (QcP D cy LC b (some (.int r.1)) r.2) args s 0 0 (inP LC b)) (F0 m 41 ls []) := by
  have hx := E.1.1
  have hb := E.1.2.1
  unfold k_X7_keepersAhead_41 at hm
  refine lv_iinc (v := v5 + 1) (lv' := [(5, .int (v5 + 1)), (0, .ref (b + v0)), (1, .int v1), (3, .int v3), (4, .int v4)]) hx hb dX7_keepersAhead_41 hl (k := 4) rfl rfl (by decide) rfl (fun ls hl => ?_)
  refine lv_goto (tgt := 13) hx hb dX7_keepersAhead_44 (by decide) ?_
  exact hrec13 _ _ _ _ _ _ _ _ _ hm hv0 hw (lv_sub hl [1, 2, 3, 4, 0] rfl)
def k_X7_keepersAhead_13 : Nat → Nat → Int32 → Int32 → Int32 → Int32 → ST → Option (Int32 × ST)
  | 0, _, _, _, _, _, _ => none
  | n + 1, v0, v1, v3, v4, v5, σ => if (gI σ v0 6) ≤ v5 then (some (v4, σ)) else ((ldA LC σ (LC.2.1 v0 0) v5).bind fun a2 =>
  (f_X7_wayFrom v0 v1 a2 σ).bind fun u3 =>
  if v3 ≤ u3.1 then (k_X7_keepersAhead_41 (k_X7_keepersAhead_13 n) v0 v1 v3 v4 v5 u3.2) else (k_X7_keepersAhead_41 (k_X7_keepersAhead_13 n) v0 v1 v3 (v4 + 1) v5 u3.2))
set_option maxRecDepth 20000 in
set_option maxHeartbeats 1000000 in
theorem w_X7_keepersAhead_13 {p : Program} {l : Launch} {e : Env} {s : State} {m : MethodId} {args : Array Value} {below : List Frame} {meth : Method} {c : Code} {D : va_G} {cy : Nat → ClassId} {b : Nat} (E : CX p m c cX7_keepersAhead 6 s args RX7 D cy LC) (hr : meth.sig.returnType = some .int) (hlk : meth.locks = false) {r : Int32 × ST} : ∀ (n : Nat) (v0 : Nat) (v1 : Int32) (v3 : Int32) (v4 : Int32) (v5 : Int32) (σ : ST) (H : Heap) (locs : List Loc) (ls : Array Slot), k_X7_keepersAhead_13 n v0 v1 v3 v4 v5 σ = some r → LC.1 v0 = 7 → PH D cy LC b σ s H locs → lv_has ls 6 [(0, .ref (b + v0)), (1, .int v1), (3, .int v3), (4, .int v4), (5, .int v5)] → W p l e (rmD 1) s m args below meth c H locs 0 0 (MQ below (QcP D cy LC b (some (.int r.1)) r.2) args s 0 0 (inP LC b)) (F0 m 13 ls []) := by
  have hx := E.1.1
  have hb := E.1.2.1
  intro n
  induction n with
  | zero =>
    intro v0 v1 v3 v4 v5 σ H locs ls hm
    cases hm
  | succ n ih =>
    intro v0 v1 v3 v4 v5 σ H locs ls hm hv0 hw hl
    rw [k_X7_keepersAhead_13] at hm
    refine lv_iload hx hb dX7_keepersAhead_13 (lv_at hl 4 rfl) ?_
    refine lv_aload_n hx hb dX7_keepersAhead_15 rfl (lv_at hl 0 rfl) ?_
    refine q_geti E hw fw_X7_31 rfl hv0 dX7_keepersAhead_16 ?_
    refine lv_icmp_ge (tgt := 47) hx hb dX7_keepersAhead_19 (by decide) (fun c1 => ?_) (fun c1 => ?_)
    · have hm := o_t c1 hm
      refine lv_iload hx hb dX7_keepersAhead_47 (lv_at hl 3 rfl) ?_
      exact q_iret E hr hlk hw hm dX7_keepersAhead_49
    · have hm := o_f c1 hm
      refine lv_aload_n hx hb dX7_keepersAhead_22 rfl (lv_at hl 0 rfl) ?_
      refine lv_iload_n hx hb dX7_keepersAhead_23 rfl (lv_at hl 1 rfl) ?_
      refine lv_aload_n hx hb dX7_keepersAhead_24 rfl (lv_at hl 0 rfl) ?_
      refine q_geta E hw fw_X7_9 rfl hv0 dX7_keepersAhead_25 ?_
      refine lv_iload hx hb dX7_keepersAhead_28 (lv_at hl 4 rfl) ?_
      refine q_iald E hw (tC_7_0 hv0) hm dX7_keepersAhead_30 (fun a2 hm => ?_)
      refine q_cVi (κ := 7) (C := RX7) (T := TX7) (N := 12) [] E hw hm mw_X7_60 (fun u hu => c_X7_wayFrom hu hv0) rfl (by decide) hv0 rfl rfl hl.1 (Nat.le_of_ble_eq_true rfl) ⟨Nat.le_of_ble_eq_true rfl, Nat.le_of_ble_eq_true rfl⟩ dX7_keepersAhead_31 (fun u3 H locs hm hw => ?_)
      refine lv_iload_n hx hb dX7_keepersAhead_34 rfl (lv_at hl 2 rfl) ?_
      refine lv_icmp_ge (tgt := 41) hx hb dX7_keepersAhead_35 (by decide) (fun c4 => ?_) (fun c4 => ?_)
      · have hm := o_t c4 hm
        exact w_X7_keepersAhead_41 E hr hlk ih hm hv0 hw (lv_sub hl [0, 1, 2, 3, 4] rfl)
      · have hm := o_f c4 hm
        refine lv_iinc (v := v4 + 1) (lv' := [(4, .int (v4 + 1)), (0, .ref (b + v0)), (1, .int v1), (3, .int v3), (5, .int v5)]) hx hb dX7_keepersAhead_38 hl (k := 3) rfl rfl (by decide) rfl (fun ls hl => ?_)
        exact w_X7_keepersAhead_41 E hr hlk ih hm hv0 hw (lv_sub hl [1, 2, 3, 0, 4] rfl)
def f_X7_keepersAhead (v0 : Nat) (v1 : Int32) (v2 : Int32) (σ : ST) : Option (Int32 × ST) :=
  (f_X7_wayFrom v0 v1 v2 σ).bind fun u5 =>
  k_X7_keepersAhead_13 FU v0 v1 u5.1 0 0 u5.2
set_option maxRecDepth 20000 in
set_option maxHeartbeats 1000000 in
theorem w_X7_keepersAhead_0 {p : Program} {l : Launch} {e : Env} {s : State} {m : MethodId} {args : Array Value} {below : List Frame} {meth : Method} {c : Code} {D : va_G} {cy : Nat → ClassId} {b : Nat} (E : CX p m c cX7_keepersAhead 6 s args RX7 D cy LC) (hr : meth.sig.returnType = some .int) (hlk : meth.locks = false) {r : Int32 × ST} {v0 : Nat} {v1 : Int32} {v2 : Int32} {σ : ST} {H : Heap} {locs : List Loc} {ls : Array Slot} (hm : f_X7_keepersAhead v0 v1 v2 σ = some r) (hv0 : LC.1 v0 = 7) (hw : PH D cy LC b σ s H locs) (hl : lv_has ls 6 [(0, .ref (b + v0)), (1, .int v1), (2, .int v2)]) : W p l e (rmD 1) s m args below meth c H locs 0 0 (MQ below (QcP D cy LC b (some (.int r.1)) r.2) args s 0 0 (inP LC b)) (F0 m 0 ls []) := by
  have hx := E.1.1
  have hb := E.1.2.1
  unfold f_X7_keepersAhead at hm
  refine lv_aload_n hx hb dX7_keepersAhead_0 rfl (lv_at hl 0 rfl) ?_
  refine lv_iload_n hx hb dX7_keepersAhead_1 rfl (lv_at hl 1 rfl) ?_
  refine lv_iload_n hx hb dX7_keepersAhead_2 rfl (lv_at hl 2 rfl) ?_
  refine q_cVi (κ := 7) (C := RX7) (T := TX7) (N := 12) [] E hw hm mw_X7_60 (fun u hu => c_X7_wayFrom hu hv0) rfl (by decide) hv0 rfl rfl hl.1 (Nat.le_of_ble_eq_true rfl) ⟨Nat.le_of_ble_eq_true rfl, Nat.le_of_ble_eq_true rfl⟩ dX7_keepersAhead_3 (fun u5 H locs hm hw => ?_)
  refine lv_istore_n (lv' := [(3, .int u5.1), (0, .ref (b + v0)), (1, .int v1), (2, .int v2)]) hx hb dX7_keepersAhead_6 rfl hl (by decide) rfl (fun ls hl => ?_)
  refine lv_iconst (v := 0) hx hb dX7_keepersAhead_7 (by decide) ?_
  refine lv_istore (lv' := [(4, .int 0), (3, .int u5.1), (0, .ref (b + v0)), (1, .int v1), (2, .int v2)]) hx hb dX7_keepersAhead_8 hl (by decide) rfl (fun ls hl => ?_)
  refine lv_iconst (v := 0) hx hb dX7_keepersAhead_10 (by decide) ?_
  refine lv_istore (lv' := [(5, .int 0), (4, .int 0), (3, .int u5.1), (0, .ref (b + v0)), (1, .int v1), (2, .int v2)]) hx hb dX7_keepersAhead_11 hl (by decide) rfl (fun ls hl => ?_)
  exact w_X7_keepersAhead_13 E hr hlk _ _ _ _ _ _ _ _ _ _ hm hv0 hw (lv_sub hl [3, 4, 2, 1, 0] rfl)
theorem c_X7_keepersAhead {l : Launch} {D : va_G} {cy : Nat → ClassId} {b : Nat} {v0 : Nat} {v1 : Int32} {v2 : Int32} {σ : ST} {r : Int32 × ST} (hm : f_X7_keepersAhead v0 v1 v2 σ = some r) (hv0 : LC.1 v0 = 7) : Met l yX7_keepersAhead (wU yX7_keepersAhead cX7_keepersAhead 6 (some .int)) (rmD 1) (PcP D cy LC b [.ref (b + v0), .int v1, .int v2] σ) (QcP D cy LC b (some (.int r.1)) r.2) 0 0 (inP LC b) :=
  q_met (lv := [(0, .ref (b + v0)), (1, .int v1), (2, .int v2)]) LC_ok (by decide) (Nat.le_of_ble_eq_true rfl) rfl (fun _ _ _ _ _ _ _ _ _ E hr hlk hw hl => w_X7_keepersAhead_0 E hr hlk hm hv0 hw hl)

def k_X7_layRows_71 (rec19 : Nat → Int32 → Int32 → ST → Option (ST)) (v0 : Nat) (v1 : Int32) (v2 : Int32) (σ : ST) : Option (ST) :=
  rec19 v0 v1 (v2 + 1) σ
set_option maxRecDepth 20000 in
set_option maxHeartbeats 1000000 in
theorem w_X7_layRows_71 {p : Program} {l : Launch} {e : Env} {s : State} {m : MethodId} {args : Array Value} {below : List Frame} {meth : Method} {c : Code} {D : va_G} {cy : Nat → ClassId} {b : Nat} (E : CX p m c cX7_layRows 4 s args RX7 D cy LC) (hr : meth.sig.returnType = none) (hlk : meth.locks = false) {r : ST} {rec19 : Nat → Int32 → Int32 → ST → Option (ST)} (hrec19 : ∀ (v0 : Nat) (v1 : Int32) (v2 : Int32) (σ : ST) (H : Heap) (locs : List Loc) (ls : Array Slot), rec19 v0 v1 v2 σ = some r → LC.1 v0 = 7 → PH D cy LC b σ s H locs → lv_has ls 4 [(0, .ref (b + v0)), (1, .int v1), (2, .int v2)] → W p l e (rmD 2) s m args below meth c H locs 0 0 (MQ below (QcP D cy LC b none r) args s 0 0 (inP LC b)) (F0 m 19 ls [])) {v0 : Nat} {v1 : Int32} {v2 : Int32} {σ : ST} {H : Heap} {locs : List Loc} {ls : Array Slot} (hm : k_X7_layRows_71 rec19 v0 v1 v2 σ = some r) (hv0 : LC.1 v0 = 7) (hw : PH D cy LC b σ s H locs) (hl : lv_has ls 4 [(0, .ref (b + v0)), (1, .int v1), (2, .int v2)]) : W p l e (rmD 2) s m args below meth c H locs 0 0 (MQ below (QcP D cy LC b none r) args s 0 0 (inP LC b)) (F0 m 71 ls []) := by
  have hx := E.1.1
  have hb := E.1.2.1
  unfold k_X7_layRows_71 at hm
  refine lv_iinc (v := v2 + 1) (lv' := [(2, .int (v2 + 1)), (0, .ref (b + v0)), (1, .int v1)]) hx hb dX7_layRows_71 hl (k := 2) rfl rfl (by decide) rfl (fun ls hl => ?_)
  refine lv_goto (tgt := 19) hx hb dX7_layRows_74 (by decide) ?_
  exact hrec19 _ _ _ _ _ _ _ hm hv0 hw (lv_sub hl [1, 2, 0] rfl)
def k_X7_layRows_19 (rec2 : Nat → Int32 → ST → Option (ST)) : Nat → Nat → Int32 → Int32 → ST → Option (ST)
  | 0, _, _, _, _ => none
  | n + 1, v0, v1, v2, σ => if (gI σ v0 6) ≤ v2 then (rec2 v0 (v1 + 1) σ) else ((ldA LC σ (LC.2.1 v0 0) v2).bind fun a2 =>
  (f_X7_keepersAhead v0 v1 a2 σ).bind fun u3 =>
  (stA LC u3.2 (LC.2.1 v0 4) ((v1 * 6) + u3.1) v2).bind fun σ4 =>
  if (gI σ4 v0 9) ≤ u3.1 then (k_X7_layRows_71 (k_X7_layRows_19 rec2 n) v0 v1 v2 σ4) else ((ldA LC σ4 (LC.2.1 v0 5) v1).bind fun a6 =>
  (stA LC σ4 (LC.2.1 v0 5) v1 (a6 ||| (1 <<< (v2 &&& 31)))).bind fun σ7 =>
  k_X7_layRows_71 (k_X7_layRows_19 rec2 n) v0 v1 v2 σ7))
set_option maxRecDepth 20000 in
set_option maxHeartbeats 1000000 in
theorem w_X7_layRows_19 {p : Program} {l : Launch} {e : Env} {s : State} {m : MethodId} {args : Array Value} {below : List Frame} {meth : Method} {c : Code} {D : va_G} {cy : Nat → ClassId} {b : Nat} (E : CX p m c cX7_layRows 4 s args RX7 D cy LC) (hr : meth.sig.returnType = none) (hlk : meth.locks = false) {r : ST} {rec2 : Nat → Int32 → ST → Option (ST)} (hrec2 : ∀ (v0 : Nat) (v1 : Int32) (σ : ST) (H : Heap) (locs : List Loc) (ls : Array Slot), rec2 v0 v1 σ = some r → LC.1 v0 = 7 → PH D cy LC b σ s H locs → lv_has ls 4 [(0, .ref (b + v0)), (1, .int v1)] → W p l e (rmD 2) s m args below meth c H locs 0 0 (MQ below (QcP D cy LC b none r) args s 0 0 (inP LC b)) (F0 m 2 ls [])) : ∀ (n : Nat) (v0 : Nat) (v1 : Int32) (v2 : Int32) (σ : ST) (H : Heap) (locs : List Loc) (ls : Array Slot), k_X7_layRows_19 rec2 n v0 v1 v2 σ = some r → LC.1 v0 = 7 → PH D cy LC b σ s H locs → lv_has ls 4 [(0, .ref (b + v0)), (1, .int v1), (2, .int v2)] → W p l e (rmD 2) s m args below meth c H locs 0 0 (MQ below (QcP D cy LC b none r) args s 0 0 (inP LC b)) (F0 m 19 ls []) := by
  have hx := E.1.1
  have hb := E.1.2.1
  intro n
  induction n with
  | zero =>
    intro v0 v1 v2 σ H locs ls hm
    cases hm
  | succ n ih =>
    intro v0 v1 v2 σ H locs ls hm hv0 hw hl
    rw [k_X7_layRows_19] at hm
    refine lv_iload_n hx hb dX7_layRows_19 rfl (lv_at hl 2 rfl) ?_
    refine lv_aload_n hx hb dX7_layRows_20 rfl (lv_at hl 0 rfl) ?_
    refine q_geti E hw fw_X7_31 rfl hv0 dX7_layRows_21 ?_
    refine lv_icmp_ge (tgt := 77) hx hb dX7_layRows_24 (by decide) (fun c1 => ?_) (fun c1 => ?_)
    · have hm := o_t c1 hm
      refine lv_iinc (v := v1 + 1) (lv' := [(1, .int (v1 + 1)), (0, .ref (b + v0)), (2, .int v2)]) hx hb dX7_layRows_77 hl (k := 1) rfl rfl (by decide) rfl (fun ls hl => ?_)
      refine lv_goto (tgt := 2) hx hb dX7_layRows_80 (by decide) ?_
      exact hrec2 _ _ _ _ _ _ hm hv0 hw (lv_sub hl [1, 0] rfl)
    · have hm := o_f c1 hm
      refine lv_aload_n hx hb dX7_layRows_27 rfl (lv_at hl 0 rfl) ?_
      refine lv_iload_n hx hb dX7_layRows_28 rfl (lv_at hl 1 rfl) ?_
      refine lv_aload_n hx hb dX7_layRows_29 rfl (lv_at hl 0 rfl) ?_
      refine q_geta E hw fw_X7_9 rfl hv0 dX7_layRows_30 ?_
      refine lv_iload_n hx hb dX7_layRows_33 rfl (lv_at hl 2 rfl) ?_
      refine q_iald E hw (tC_7_0 hv0) hm dX7_layRows_34 (fun a2 hm => ?_)
      refine q_cVi (κ := 7) (C := RX7) (T := TX7) (N := 12) [] E hw hm mw_X7_56 (fun u hu => c_X7_keepersAhead hu hv0) rfl (by decide) hv0 rfl rfl hl.1 (Nat.le_of_ble_eq_true rfl) ⟨Nat.le_of_ble_eq_true rfl, Nat.le_of_ble_eq_true rfl⟩ dX7_layRows_35 (fun u3 H locs hm hw => ?_)
      refine lv_istore_n (lv' := [(3, .int u3.1), (0, .ref (b + v0)), (1, .int v1), (2, .int v2)]) hx hb dX7_layRows_38 rfl hl (by decide) rfl (fun ls hl => ?_)
      refine lv_aload_n hx hb dX7_layRows_39 rfl (lv_at hl 1 rfl) ?_
      refine q_geta E hw fw_X7_25 rfl hv0 dX7_layRows_40 ?_
      refine lv_iload_n hx hb dX7_layRows_43 rfl (lv_at hl 2 rfl) ?_
      refine lv_bipush (v := 6) hx hb dX7_layRows_44 (by decide) ?_
      refine lv_imul hx hb dX7_layRows_46 ?_
      refine lv_iload_n hx hb dX7_layRows_47 rfl (lv_at hl 0 rfl) ?_
      refine lv_iadd hx hb dX7_layRows_48 ?_
      refine lv_iload_n hx hb dX7_layRows_49 rfl (lv_at hl 3 rfl) ?_
      refine q_iast E hw (tC_7_4 hv0) hm dX7_layRows_50 (fun σ4 H locs hm hw => ?_)
      refine lv_iload_n hx hb dX7_layRows_51 rfl (lv_at hl 0 rfl) ?_
      refine lv_aload_n hx hb dX7_layRows_52 rfl (lv_at hl 1 rfl) ?_
      refine q_geti E hw fw_X7_41 rfl hv0 dX7_layRows_53 ?_
      refine lv_icmp_ge (tgt := 71) hx hb dX7_layRows_56 (by decide) (fun c5 => ?_) (fun c5 => ?_)
      · have hm := o_t c5 hm
        exact w_X7_layRows_71 E hr hlk ih hm hv0 hw (lv_sub hl [1, 2, 3] rfl)
      · have hm := o_f c5 hm
        refine lv_aload_n hx hb dX7_layRows_59 rfl (lv_at hl 1 rfl) ?_
        refine q_geta E hw fw_X7_28 rfl hv0 dX7_layRows_60 ?_
        refine lv_iload_n hx hb dX7_layRows_63 rfl (lv_at hl 2 rfl) ?_
        refine lv_dup2_11 hx hb dX7_layRows_64 rfl rfl ?_
        refine q_iald E hw (tC_7_5 hv0) hm dX7_layRows_65 (fun a6 hm => ?_)
        refine lv_iconst (v := 1) hx hb dX7_layRows_66 (by decide) ?_
        refine lv_iload_n hx hb dX7_layRows_67 rfl (lv_at hl 3 rfl) ?_
        refine lv_ishl hx hb dX7_layRows_68 ?_
        refine lv_ior hx hb dX7_layRows_69 ?_
        refine q_iast E hw (tC_7_5 hv0) hm dX7_layRows_70 (fun σ7 H locs hm hw => ?_)
        exact w_X7_layRows_71 E hr hlk ih hm hv0 hw (lv_sub hl [1, 2, 3] rfl)
def k_X7_layRows_2 : Nat → Nat → Int32 → ST → Option (ST)
  | 0, _, _, _ => none
  | n + 1, v0, v1, σ => if (gI σ v0 7) ≤ v1 then (some σ) else ((stA LC σ (LC.2.1 v0 5) v1 0).bind fun σ9 =>
  k_X7_layRows_19 (k_X7_layRows_2 n) FU v0 v1 0 σ9)
set_option maxRecDepth 20000 in
set_option maxHeartbeats 1000000 in
theorem w_X7_layRows_2 {p : Program} {l : Launch} {e : Env} {s : State} {m : MethodId} {args : Array Value} {below : List Frame} {meth : Method} {c : Code} {D : va_G} {cy : Nat → ClassId} {b : Nat} (E : CX p m c cX7_layRows 4 s args RX7 D cy LC) (hr : meth.sig.returnType = none) (hlk : meth.locks = false) {r : ST} : ∀ (n : Nat) (v0 : Nat) (v1 : Int32) (σ : ST) (H : Heap) (locs : List Loc) (ls : Array Slot), k_X7_layRows_2 n v0 v1 σ = some r → LC.1 v0 = 7 → PH D cy LC b σ s H locs → lv_has ls 4 [(0, .ref (b + v0)), (1, .int v1)] → W p l e (rmD 2) s m args below meth c H locs 0 0 (MQ below (QcP D cy LC b none r) args s 0 0 (inP LC b)) (F0 m 2 ls []) := by
  have hx := E.1.1
  have hb := E.1.2.1
  intro n
  induction n with
  | zero =>
    intro v0 v1 σ H locs ls hm
    cases hm
  | succ n ih =>
    intro v0 v1 σ H locs ls hm hv0 hw hl
    rw [k_X7_layRows_2] at hm
    refine lv_iload_n hx hb dX7_layRows_2 rfl (lv_at hl 1 rfl) ?_
    refine lv_aload_n hx hb dX7_layRows_3 rfl (lv_at hl 0 rfl) ?_
    refine q_geti E hw fw_X7_35 rfl hv0 dX7_layRows_4 ?_
    refine lv_icmp_ge (tgt := 83) hx hb dX7_layRows_7 (by decide) (fun c8 => ?_) (fun c8 => ?_)
    · have hm := o_t c8 hm
      exact q_vret E hr hlk hw hm dX7_layRows_83
    · have hm := o_f c8 hm
      refine lv_aload_n hx hb dX7_layRows_10 rfl (lv_at hl 0 rfl) ?_
      refine q_geta E hw fw_X7_28 rfl hv0 dX7_layRows_11 ?_
      refine lv_iload_n hx hb dX7_layRows_14 rfl (lv_at hl 1 rfl) ?_
      refine lv_iconst (v := 0) hx hb dX7_layRows_15 (by decide) ?_
      refine q_iast E hw (tC_7_5 hv0) hm dX7_layRows_16 (fun σ9 H locs hm hw => ?_)
      refine lv_iconst (v := 0) hx hb dX7_layRows_17 (by decide) ?_
      refine lv_istore_n (lv' := [(2, .int 0), (0, .ref (b + v0)), (1, .int v1)]) hx hb dX7_layRows_18 rfl hl (by decide) rfl (fun ls hl => ?_)
      exact w_X7_layRows_19 E hr hlk ih _ _ _ _ _ _ _ _ hm hv0 hw (lv_sub hl [1, 2, 0] rfl)
def f_X7_layRows (v0 : Nat) (σ : ST) : Option (ST) :=
  k_X7_layRows_2 FU v0 0 σ
set_option maxRecDepth 20000 in
set_option maxHeartbeats 1000000 in
theorem w_X7_layRows_0 {p : Program} {l : Launch} {e : Env} {s : State} {m : MethodId} {args : Array Value} {below : List Frame} {meth : Method} {c : Code} {D : va_G} {cy : Nat → ClassId} {b : Nat} (E : CX p m c cX7_layRows 4 s args RX7 D cy LC) (hr : meth.sig.returnType = none) (hlk : meth.locks = false) {r : ST} {v0 : Nat} {σ : ST} {H : Heap} {locs : List Loc} {ls : Array Slot} (hm : f_X7_layRows v0 σ = some r) (hv0 : LC.1 v0 = 7) (hw : PH D cy LC b σ s H locs) (hl : lv_has ls 4 [(0, .ref (b + v0))]) : W p l e (rmD 2) s m args below meth c H locs 0 0 (MQ below (QcP D cy LC b none r) args s 0 0 (inP LC b)) (F0 m 0 ls []) := by
  have hx := E.1.1
  have hb := E.1.2.1
  unfold f_X7_layRows at hm
  refine lv_iconst (v := 0) hx hb dX7_layRows_0 (by decide) ?_
  refine lv_istore_n (lv' := [(1, .int 0), (0, .ref (b + v0))]) hx hb dX7_layRows_1 rfl hl (by decide) rfl (fun ls hl => ?_)
  exact w_X7_layRows_2 E hr hlk _ _ _ _ _ _ _ hm hv0 hw (lv_sub hl [1, 0] rfl)
theorem c_X7_layRows {l : Launch} {D : va_G} {cy : Nat → ClassId} {b : Nat} {v0 : Nat} {σ : ST} {r : ST} (hm : f_X7_layRows v0 σ = some r) (hv0 : LC.1 v0 = 7) : Met l yX7_layRows (wU yX7_layRows cX7_layRows 4 (none)) (rmD 2) (PcP D cy LC b [.ref (b + v0)] σ) (QcP D cy LC b none r) 0 0 (inP LC b) :=
  q_met (lv := [(0, .ref (b + v0))]) LC_ok (by decide) (Nat.le_of_ble_eq_true rfl) rfl (fun _ _ _ _ _ _ _ _ _ E hr hlk hw hl => w_X7_layRows_0 E hr hlk hm hv0 hw hl)

def f_X7_keeperSet (v0 : Nat) (σ : ST) : Option (Int32 × ST) :=
  some ((1 <<< ((gI σ v0 6) &&& 31)) - 1, σ)
set_option maxRecDepth 20000 in
set_option maxHeartbeats 1000000 in
theorem w_X7_keeperSet_0 {p : Program} {l : Launch} {e : Env} {s : State} {m : MethodId} {args : Array Value} {below : List Frame} {meth : Method} {c : Code} {D : va_G} {cy : Nat → ClassId} {b : Nat} (E : CX p m c cX7_keeperSet 1 s args RX7 D cy LC) (hr : meth.sig.returnType = some .int) (hlk : meth.locks = false) {r : Int32 × ST} {v0 : Nat} {σ : ST} {H : Heap} {locs : List Loc} {ls : Array Slot} (hm : f_X7_keeperSet v0 σ = some r) (hv0 : LC.1 v0 = 7) (hw : PH D cy LC b σ s H locs) (hl : lv_has ls 1 [(0, .ref (b + v0))]) : W p l e (rmD 0) s m args below meth c H locs 0 0 (MQ below (QcP D cy LC b (some (.int r.1)) r.2) args s 0 0 (inP LC b)) (F0 m 0 ls []) := by
  have hx := E.1.1
  have hb := E.1.2.1
  unfold f_X7_keeperSet at hm
  refine lv_iconst (v := 1) hx hb dX7_keeperSet_0 (by decide) ?_
  refine lv_aload_n hx hb dX7_keeperSet_1 rfl (lv_at hl 0 rfl) ?_
  refine q_geti E hw fw_X7_31 rfl hv0 dX7_keeperSet_2 ?_
  refine lv_ishl hx hb dX7_keeperSet_5 ?_
  refine lv_iconst (v := 1) hx hb dX7_keeperSet_6 (by decide) ?_
  refine lv_isub hx hb dX7_keeperSet_7 ?_
  exact q_iret E hr hlk hw hm dX7_keeperSet_8
theorem c_X7_keeperSet {l : Launch} {D : va_G} {cy : Nat → ClassId} {b : Nat} {v0 : Nat} {σ : ST} {r : Int32 × ST} (hm : f_X7_keeperSet v0 σ = some r) (hv0 : LC.1 v0 = 7) : Met l yX7_keeperSet (wU yX7_keeperSet cX7_keeperSet 1 (some .int)) (rmD 0) (PcP D cy LC b [.ref (b + v0)] σ) (QcP D cy LC b (some (.int r.1)) r.2) 0 0 (inP LC b) :=
  q_met (lv := [(0, .ref (b + v0))]) LC_ok (by decide) (Nat.le_of_ble_eq_true rfl) rfl (fun _ _ _ _ _ _ _ _ _ E hr hlk hw hl => w_X7_keeperSet_0 E hr hlk hm hv0 hw hl)

def k_X7_isTakenAt_2 : Nat → Nat → Int32 → Int32 → ST → Option (Int32 × ST)
  | 0, _, _, _, _ => none
  | n + 1, v0, v1, v2, σ => if (gI σ v0 6) ≤ v2 then ((ckZ 0).bind fun z => some (z, σ)) else ((ldA LC σ (LC.2.1 v0 0) v2).bind fun a2 =>
  if a2 = v1 then ((ckZ 1).bind fun z => some (z, σ)) else (k_X7_isTakenAt_2 n v0 v1 (v2 + 1) σ))
set_option maxRecDepth 20000 in
set_option maxHeartbeats 1000000 in
theorem w_X7_isTakenAt_2 {p : Program} {l : Launch} {e : Env} {s : State} {m : MethodId} {args : Array Value} {below : List Frame} {meth : Method} {c : Code} {D : va_G} {cy : Nat → ClassId} {b : Nat} (E : CX p m c cX7_isTakenAt 3 s args RX7 D cy LC) (hr : meth.sig.returnType = some .boolean) (hlk : meth.locks = false) {r : Int32 × ST} : ∀ (n : Nat) (v0 : Nat) (v1 : Int32) (v2 : Int32) (σ : ST) (H : Heap) (locs : List Loc) (ls : Array Slot), k_X7_isTakenAt_2 n v0 v1 v2 σ = some r → LC.1 v0 = 7 → PH D cy LC b σ s H locs → lv_has ls 3 [(0, .ref (b + v0)), (1, .int v1), (2, .int v2)] → W p l e (rmD 0) s m args below meth c H locs 0 0 (MQ below (QcP D cy LC b (some (.int r.1)) r.2) args s 0 0 (inP LC b)) (F0 m 2 ls []) := by
  have hx := E.1.1
  have hb := E.1.2.1
  intro n
  induction n with
  | zero =>
    intro v0 v1 v2 σ H locs ls hm
    cases hm
  | succ n ih =>
    intro v0 v1 v2 σ H locs ls hm hv0 hw hl
    rw [k_X7_isTakenAt_2] at hm
    refine lv_iload_n hx hb dX7_isTakenAt_2 rfl (lv_at hl 2 rfl) ?_
    refine lv_aload_n hx hb dX7_isTakenAt_3 rfl (lv_at hl 0 rfl) ?_
    refine q_geti E hw fw_X7_31 rfl hv0 dX7_isTakenAt_4 ?_
    refine lv_icmp_ge (tgt := 28) hx hb dX7_isTakenAt_7 (by decide) (fun c1 => ?_) (fun c1 => ?_)
    · have hm := o_t c1 hm
      refine lv_iconst (v := 0) hx hb dX7_isTakenAt_28 (by decide) ?_
      exact q_zret E hr hlk hw hm dX7_isTakenAt_29
    · have hm := o_f c1 hm
      refine lv_aload_n hx hb dX7_isTakenAt_10 rfl (lv_at hl 0 rfl) ?_
      refine q_geta E hw fw_X7_9 rfl hv0 dX7_isTakenAt_11 ?_
      refine lv_iload_n hx hb dX7_isTakenAt_14 rfl (lv_at hl 2 rfl) ?_
      refine q_iald E hw (tC_7_0 hv0) hm dX7_isTakenAt_15 (fun a2 hm => ?_)
      refine lv_iload_n hx hb dX7_isTakenAt_16 rfl (lv_at hl 1 rfl) ?_
      refine lv_icmp_ne (tgt := 22) hx hb dX7_isTakenAt_17 (by decide) (fun c3 => ?_) (fun c3 => ?_)
      · have hm := o_f c3 hm
        refine lv_iinc (v := v2 + 1) (lv' := [(2, .int (v2 + 1)), (0, .ref (b + v0)), (1, .int v1)]) hx hb dX7_isTakenAt_22 hl (k := 2) rfl rfl (by decide) rfl (fun ls hl => ?_)
        refine lv_goto (tgt := 2) hx hb dX7_isTakenAt_25 (by decide) ?_
        exact ih _ _ _ _ _ _ _ hm hv0 hw (lv_sub hl [1, 2, 0] rfl)
      · have hm := o_t c3 hm
        refine lv_iconst (v := 1) hx hb dX7_isTakenAt_20 (by decide) ?_
        exact q_zret E hr hlk hw hm dX7_isTakenAt_21
def f_X7_isTakenAt (v0 : Nat) (v1 : Int32) (σ : ST) : Option (Int32 × ST) :=
  k_X7_isTakenAt_2 FU v0 v1 0 σ
set_option maxRecDepth 20000 in
set_option maxHeartbeats 1000000 in
theorem w_X7_isTakenAt_0 {p : Program} {l : Launch} {e : Env} {s : State} {m : MethodId} {args : Array Value} {below : List Frame} {meth : Method} {c : Code} {D : va_G} {cy : Nat → ClassId} {b : Nat} (E : CX p m c cX7_isTakenAt 3 s args RX7 D cy LC) (hr : meth.sig.returnType = some .boolean) (hlk : meth.locks = false) {r : Int32 × ST} {v0 : Nat} {v1 : Int32} {σ : ST} {H : Heap} {locs : List Loc} {ls : Array Slot} (hm : f_X7_isTakenAt v0 v1 σ = some r) (hv0 : LC.1 v0 = 7) (hw : PH D cy LC b σ s H locs) (hl : lv_has ls 3 [(0, .ref (b + v0)), (1, .int v1)]) : W p l e (rmD 0) s m args below meth c H locs 0 0 (MQ below (QcP D cy LC b (some (.int r.1)) r.2) args s 0 0 (inP LC b)) (F0 m 0 ls []) := by
  have hx := E.1.1
  have hb := E.1.2.1
  unfold f_X7_isTakenAt at hm
  refine lv_iconst (v := 0) hx hb dX7_isTakenAt_0 (by decide) ?_
  refine lv_istore_n (lv' := [(2, .int 0), (0, .ref (b + v0)), (1, .int v1)]) hx hb dX7_isTakenAt_1 rfl hl (by decide) rfl (fun ls hl => ?_)
  exact w_X7_isTakenAt_2 E hr hlk _ _ _ _ _ _ _ _ hm hv0 hw (lv_sub hl [1, 2, 0] rfl)
theorem c_X7_isTakenAt {l : Launch} {D : va_G} {cy : Nat → ClassId} {b : Nat} {v0 : Nat} {v1 : Int32} {σ : ST} {r : Int32 × ST} (hm : f_X7_isTakenAt v0 v1 σ = some r) (hv0 : LC.1 v0 = 7) : Met l yX7_isTakenAt (wU yX7_isTakenAt cX7_isTakenAt 3 (some .boolean)) (rmD 0) (PcP D cy LC b [.ref (b + v0), .int v1] σ) (QcP D cy LC b (some (.int r.1)) r.2) 0 0 (inP LC b) :=
  q_met (lv := [(0, .ref (b + v0)), (1, .int v1)]) LC_ok (by decide) (Nat.le_of_ble_eq_true rfl) rfl (fun _ _ _ _ _ _ _ _ _ E hr hlk hw hl => w_X7_isTakenAt_0 E hr hlk hm hv0 hw hl)

def k_J7_fill_d0a16_6 : Nat → Nat → Int64 → Int32 → Int32 → ST → Option (ST)
  | 0, _, _, _, _, _ => none
  | n + 1, v0, v1, v3, v4, σ => if v4 ≤ v3 then (some σ) else ((stB LC σ v0 v3 v1).bind fun σ2 =>
  k_J7_fill_d0a16_6 n v0 v1 (v3 + 1) v4 σ2)
set_option maxRecDepth 20000 in
set_option maxHeartbeats 1000000 in
theorem w_J7_fill_d0a16_6 {p : Program} {l : Launch} {e : Env} {s : State} {m : MethodId} {args : Array Value} {below : List Frame} {meth : Method} {c : Code} {D : va_G} {cy : Nat → ClassId} {b : Nat} (E : CX p m c cJ7_fill_d0a16 5 s args RJ7 D cy LC) (hr : meth.sig.returnType = none) (hlk : meth.locks = false) {r : ST} : ∀ (n : Nat) (v0 : Nat) (v1 : Int64) (v3 : Int32) (v4 : Int32) (σ : ST) (H : Heap) (locs : List Loc) (ls : Array Slot), k_J7_fill_d0a16_6 n v0 v1 v3 v4 σ = some r → LC.1 v0 = 14 → PH D cy LC b σ s H locs → lv_has ls 5 [(0, .ref (b + v0)), (1, .long v1), (3, .int v3), (4, .int v4)] → W p l e (rmD 0) s m args below meth c H locs 0 0 (MQ below (QcP D cy LC b none r) args s 0 0 (inP LC b)) (F0 m 6 ls []) := by
  have hx := E.1.1
  have hb := E.1.2.1
  intro n
  induction n with
  | zero =>
    intro v0 v1 v3 v4 σ H locs ls hm
    cases hm
  | succ n ih =>
    intro v0 v1 v3 v4 σ H locs ls hm hv0 hw hl
    rw [k_J7_fill_d0a16_6] at hm
    refine lv_iload_n hx hb dJ7_fill_d0a16_6 rfl (lv_at hl 2 rfl) ?_
    refine lv_iload hx hb dJ7_fill_d0a16_7 (lv_at hl 3 rfl) ?_
    refine lv_icmp_ge (tgt := 22) hx hb dJ7_fill_d0a16_9 (by decide) (fun c1 => ?_) (fun c1 => ?_)
    · have hm := o_t c1 hm
      exact q_vret E hr hlk hw hm dJ7_fill_d0a16_22
    · have hm := o_f c1 hm
      refine lv_aload_n hx hb dJ7_fill_d0a16_12 rfl (lv_at hl 0 rfl) ?_
      refine lv_iload_n hx hb dJ7_fill_d0a16_13 rfl (lv_at hl 2 rfl) ?_
      refine lv_lload_n hx hb dJ7_fill_d0a16_14 rfl (lv_at hl 1 rfl) ?_
      refine q_last E hw hv0 hm dJ7_fill_d0a16_15 (fun σ2 H locs hm hw => ?_)
      refine lv_iinc (v := v3 + 1) (lv' := [(3, .int (v3 + 1)), (0, .ref (b + v0)), (1, .long v1), (4, .int v4)]) hx hb dJ7_fill_d0a16_16 hl (k := 2) rfl rfl (by decide) rfl (fun ls hl => ?_)
      refine lv_goto (tgt := 6) hx hb dJ7_fill_d0a16_19 (by decide) ?_
      exact ih _ _ _ _ _ _ _ _ hm hv0 hw (lv_sub hl [1, 2, 0, 3] rfl)
def f_J7_fill_d0a16 (v0 : Nat) (v1 : Int64) (σ : ST) : Option (ST) :=
  k_J7_fill_d0a16_6 FU v0 v1 0 (Int32.ofNat (LC.2.2.1 v0)) σ
set_option maxRecDepth 20000 in
set_option maxHeartbeats 1000000 in
theorem w_J7_fill_d0a16_0 {p : Program} {l : Launch} {e : Env} {s : State} {m : MethodId} {args : Array Value} {below : List Frame} {meth : Method} {c : Code} {D : va_G} {cy : Nat → ClassId} {b : Nat} (E : CX p m c cJ7_fill_d0a16 5 s args RJ7 D cy LC) (hr : meth.sig.returnType = none) (hlk : meth.locks = false) {r : ST} {v0 : Nat} {v1 : Int64} {σ : ST} {H : Heap} {locs : List Loc} {ls : Array Slot} (hm : f_J7_fill_d0a16 v0 v1 σ = some r) (hv0 : LC.1 v0 = 14) (hw : PH D cy LC b σ s H locs) (hl : lv_has ls 5 [(0, .ref (b + v0)), (1, .long v1)]) : W p l e (rmD 0) s m args below meth c H locs 0 0 (MQ below (QcP D cy LC b none r) args s 0 0 (inP LC b)) (F0 m 0 ls []) := by
  have hx := E.1.1
  have hb := E.1.2.1
  unfold f_J7_fill_d0a16 at hm
  refine lv_iconst (v := 0) hx hb dJ7_fill_d0a16_0 (by decide) ?_
  refine lv_istore_n (lv' := [(3, .int 0), (0, .ref (b + v0)), (1, .long v1)]) hx hb dJ7_fill_d0a16_1 rfl hl (by decide) rfl (fun ls hl => ?_)
  refine lv_aload_n hx hb dJ7_fill_d0a16_2 rfl (lv_at hl 1 rfl) ?_
  refine q_alenL E hw hv0 dJ7_fill_d0a16_3 ?_
  refine lv_istore (lv' := [(4, .int (Int32.ofNat (LC.2.2.1 v0))), (3, .int 0), (0, .ref (b + v0)), (1, .long v1)]) hx hb dJ7_fill_d0a16_4 hl (by decide) rfl (fun ls hl => ?_)
  exact w_J7_fill_d0a16_6 E hr hlk _ _ _ _ _ _ _ _ _ hm hv0 hw (lv_sub hl [2, 3, 1, 0] rfl)
theorem c_J7_fill_d0a16 {l : Launch} {D : va_G} {cy : Nat → ClassId} {b : Nat} {v0 : Nat} {v1 : Int64} {σ : ST} {r : ST} (hm : f_J7_fill_d0a16 v0 v1 σ = some r) (hv0 : LC.1 v0 = 14) : Met l yJ7_fill_d0a16 (wU yJ7_fill_d0a16 cJ7_fill_d0a16 5 (none)) (rmD 0) (PcP D cy LC b [.ref (b + v0), .long v1] σ) (QcP D cy LC b none r) 0 0 (inP LC b) :=
  q_met (lv := [(0, .ref (b + v0)), (1, .long v1)]) LC_ok (by decide) (Nat.le_of_ble_eq_true rfl) rfl (fun _ _ _ _ _ _ _ _ _ E hr hlk hw hl => w_J7_fill_d0a16_0 E hr hlk hm hv0 hw hl)

def f_X9_begin (v0 : Nat) (v1 : Int32) (v2 : Int32) (σ : ST) : Option (ST) :=
  (stZ σ v0 1 1).bind fun σ1 =>
  (stI σ1 v0 2 v1).bind fun σ2 =>
  (stI σ2 v0 3 v2).bind fun σ3 =>
  (f_J7_fill_d0a16 (LC.2.1 v0 0) 0 σ3).bind fun u4 =>
  some u4
set_option maxRecDepth 20000 in
set_option maxHeartbeats 1000000 in
theorem w_X9_begin_0 {p : Program} {l : Launch} {e : Env} {s : State} {m : MethodId} {args : Array Value} {below : List Frame} {meth : Method} {c : Code} {D : va_G} {cy : Nat → ClassId} {b : Nat} (E : CX p m c cX9_begin 3 s args RX9 D cy LC) (hr : meth.sig.returnType = none) (hlk : meth.locks = false) {r : ST} {v0 : Nat} {v1 : Int32} {v2 : Int32} {σ : ST} {H : Heap} {locs : List Loc} {ls : Array Slot} (hm : f_X9_begin v0 v1 v2 σ = some r) (hv0 : LC.1 v0 = 9) (hw : PH D cy LC b σ s H locs) (hl : lv_has ls 3 [(0, .ref (b + v0)), (1, .int v1), (2, .int v2)]) : W p l e (rmD 1) s m args below meth c H locs 0 0 (MQ below (QcP D cy LC b none r) args s 0 0 (inP LC b)) (F0 m 0 ls []) := by
  have hx := E.1.1
  have hb := E.1.2.1
  unfold f_X9_begin at hm
  refine lv_aload_n hx hb dX9_begin_0 rfl (lv_at hl 0 rfl) ?_
  refine lv_iconst (v := 1) hx hb dX9_begin_1 (by decide) ?_
  refine q_pz E hw hm fw_X9_15 rfl rfl hv0 dX9_begin_2 (fun σ1 H locs hm hw => ?_)
  refine lv_aload_n hx hb dX9_begin_5 rfl (lv_at hl 0 rfl) ?_
  refine lv_iload_n hx hb dX9_begin_6 rfl (lv_at hl 1 rfl) ?_
  refine q_pi E hw hm fw_X9_19 rfl rfl hv0 dX9_begin_7 (fun σ2 H locs hm hw => ?_)
  refine lv_aload_n hx hb dX9_begin_10 rfl (lv_at hl 0 rfl) ?_
  refine lv_iload_n hx hb dX9_begin_11 rfl (lv_at hl 2 rfl) ?_
  refine q_pi E hw hm fw_X9_23 rfl rfl hv0 dX9_begin_12 (fun σ3 H locs hm hw => ?_)
  refine lv_aload_n hx hb dX9_begin_15 rfl (lv_at hl 0 rfl) ?_
  refine q_geta E hw fw_X9_9 rfl hv0 dX9_begin_16 ?_
  refine lv_lconst (v := 0) hx hb dX9_begin_19 (by decide) ?_
  refine q_cSv [] E hw hm ms_X9_26 (fun u hu => c_J7_fill_d0a16 hu (tC_9_0 hv0)) rfl rfl hl.1 (Nat.le_of_ble_eq_true rfl) ⟨Nat.le_of_ble_eq_true rfl, Nat.le_of_ble_eq_true rfl⟩ dX9_begin_20 (fun u4 H locs hm hw => ?_)
  exact q_vret E hr hlk hw hm dX9_begin_23
theorem c_X9_begin {l : Launch} {D : va_G} {cy : Nat → ClassId} {b : Nat} {v0 : Nat} {v1 : Int32} {v2 : Int32} {σ : ST} {r : ST} (hm : f_X9_begin v0 v1 v2 σ = some r) (hv0 : LC.1 v0 = 9) : Met l yX9_begin (wU yX9_begin cX9_begin 3 (none)) (rmD 1) (PcP D cy LC b [.ref (b + v0), .int v1, .int v2] σ) (QcP D cy LC b none r) 0 0 (inP LC b) :=
  q_met (lv := [(0, .ref (b + v0)), (1, .int v1), (2, .int v2)]) LC_ok (by decide) (Nat.le_of_ble_eq_true rfl) rfl (fun _ _ _ _ _ _ _ _ _ E hr hlk hw hl => w_X9_begin_0 E hr hlk hm hv0 hw hl)

def f_X9_cut (v0 : Nat) (v1 : Int64) (σ : ST) : Option (Int64 × ST) :=
  if (gI σ v0 2) = 0 then (some ((((v1).toInt32).toInt8.toInt32).toInt64, σ)) else if (gI σ v0 2) = 1 then (some ((((v1).toInt32).toInt16.toInt32).toInt64, σ)) else if (gI σ v0 2) = 2 then (some (((v1).toInt32).toInt64, σ)) else (some (v1, σ))
set_option maxRecDepth 20000 in
set_option maxHeartbeats 1000000 in
theorem w_X9_cut_0 {p : Program} {l : Launch} {e : Env} {s : State} {m : MethodId} {args : Array Value} {below : List Frame} {meth : Method} {c : Code} {D : va_G} {cy : Nat → ClassId} {b : Nat} (E : CX p m c cX9_cut 3 s args RX9 D cy LC) (hr : meth.sig.returnType = some .long) (hlk : meth.locks = false) {r : Int64 × ST} {v0 : Nat} {v1 : Int64} {σ : ST} {H : Heap} {locs : List Loc} {ls : Array Slot} (hm : f_X9_cut v0 v1 σ = some r) (hv0 : LC.1 v0 = 9) (hw : PH D cy LC b σ s H locs) (hl : lv_has ls 3 [(0, .ref (b + v0)), (1, .long v1)]) : W p l e (rmD 0) s m args below meth c H locs 0 0 (MQ below (QcP D cy LC b (some (.long r.1)) r.2) args s 0 0 (inP LC b)) (F0 m 0 ls []) := by
  have hx := E.1.1
  have hb := E.1.2.1
  unfold f_X9_cut at hm
  refine lv_aload_n hx hb dX9_cut_0 rfl (lv_at hl 0 rfl) ?_
  refine q_geti E hw fw_X9_19 rfl hv0 dX9_cut_1 ?_
  by_cases c1 : (gI σ v0 2) = 0
  · refine q_tsw E 0 32 c1 dX9_cut_4 (by decide) (by decide) rfl (by decide) ?_
    have hm := o_t c1 hm
    refine lv_lload_n hx hb dX9_cut_32 rfl (lv_at hl 1 rfl) ?_
    refine lv_l2i hx hb dX9_cut_33 rfl ?_
    refine lv_i2b hx hb dX9_cut_34 rfl ?_
    refine lv_i2l hx hb dX9_cut_35 rfl ?_
    exact q_lret E hr hlk hw hm dX9_cut_36
  have hm := o_f c1 hm
  by_cases c2 : (gI σ v0 2) = 1
  · refine q_tsw E 1 37 c2 dX9_cut_4 (by decide) (by decide) rfl (by decide) ?_
    have hm := o_t c2 hm
    refine lv_lload_n hx hb dX9_cut_37 rfl (lv_at hl 1 rfl) ?_
    refine lv_l2i hx hb dX9_cut_38 rfl ?_
    refine lv_i2s hx hb dX9_cut_39 rfl ?_
    refine lv_i2l hx hb dX9_cut_40 rfl ?_
    exact q_lret E hr hlk hw hm dX9_cut_41
  have hm := o_f c2 hm
  by_cases c3 : (gI σ v0 2) = 2
  · refine q_tsw E 2 42 c3 dX9_cut_4 (by decide) (by decide) rfl (by decide) ?_
    have hm := o_t c3 hm
    refine lv_lload_n hx hb dX9_cut_42 rfl (lv_at hl 1 rfl) ?_
    refine lv_l2i hx hb dX9_cut_43 rfl ?_
    refine lv_i2l hx hb dX9_cut_44 rfl ?_
    exact q_lret E hr hlk hw hm dX9_cut_45
  have hm := o_f c3 hm
  have tc1 := lv_neT (a := 0) c1 (by decide)
  have tc2 := lv_neT (a := 1) c2 (by decide)
  have tc3 := lv_neT (a := 2) c3 (by decide)
  refine lv_tableOut (tgt := 46) hx hb dX9_cut_4 (by omega) (by decide) ?_
  refine lv_lload_n hx hb dX9_cut_46 rfl (lv_at hl 1 rfl) ?_
  exact q_lret E hr hlk hw hm dX9_cut_47
theorem c_X9_cut {l : Launch} {D : va_G} {cy : Nat → ClassId} {b : Nat} {v0 : Nat} {v1 : Int64} {σ : ST} {r : Int64 × ST} (hm : f_X9_cut v0 v1 σ = some r) (hv0 : LC.1 v0 = 9) : Met l yX9_cut (wU yX9_cut cX9_cut 3 (some .long)) (rmD 0) (PcP D cy LC b [.ref (b + v0), .long v1] σ) (QcP D cy LC b (some (.long r.1)) r.2) 0 0 (inP LC b) :=
  q_met (lv := [(0, .ref (b + v0)), (1, .long v1)]) LC_ok (by decide) (Nat.le_of_ble_eq_true rfl) rfl (fun _ _ _ _ _ _ _ _ _ E hr hlk hw hl => w_X9_cut_0 E hr hlk hm hv0 hw hl)

def f_X9_keep (v0 : Nat) (v1 : Int32) (v2 : Int64) (σ : ST) : Option (ST) :=
  (f_X9_cut v0 v2 σ).bind fun u1 =>
  (stB LC u1.2 (LC.2.1 v0 0) v1 u1.1).bind fun σ2 =>
  some σ2
set_option maxRecDepth 20000 in
set_option maxHeartbeats 1000000 in
theorem w_X9_keep_0 {p : Program} {l : Launch} {e : Env} {s : State} {m : MethodId} {args : Array Value} {below : List Frame} {meth : Method} {c : Code} {D : va_G} {cy : Nat → ClassId} {b : Nat} (E : CX p m c cX9_keep 4 s args RX9 D cy LC) (hr : meth.sig.returnType = none) (hlk : meth.locks = false) {r : ST} {v0 : Nat} {v1 : Int32} {v2 : Int64} {σ : ST} {H : Heap} {locs : List Loc} {ls : Array Slot} (hm : f_X9_keep v0 v1 v2 σ = some r) (hv0 : LC.1 v0 = 9) (hw : PH D cy LC b σ s H locs) (hl : lv_has ls 4 [(0, .ref (b + v0)), (1, .int v1), (2, .long v2)]) : W p l e (rmD 1) s m args below meth c H locs 0 0 (MQ below (QcP D cy LC b none r) args s 0 0 (inP LC b)) (F0 m 0 ls []) := by
  have hx := E.1.1
  have hb := E.1.2.1
  unfold f_X9_keep at hm
  refine lv_aload_n hx hb dX9_keep_0 rfl (lv_at hl 0 rfl) ?_
  refine q_geta E hw fw_X9_9 rfl hv0 dX9_keep_1 ?_
  refine lv_iload_n hx hb dX9_keep_4 rfl (lv_at hl 1 rfl) ?_
  refine lv_aload_n hx hb dX9_keep_5 rfl (lv_at hl 0 rfl) ?_
  refine lv_lload_n hx hb dX9_keep_6 rfl (lv_at hl 2 rfl) ?_
  refine q_cVl (κ := 9) (C := RX9) (T := TX9) (N := 4) [.int v1, .ref (b + (LC.2.1 v0 0))] E hw hm mw_X9_32 (fun u hu => c_X9_cut hu hv0) rfl (by decide) hv0 rfl rfl hl.1 (Nat.le_of_ble_eq_true rfl) ⟨Nat.le_of_ble_eq_true rfl, Nat.le_of_ble_eq_true rfl⟩ dX9_keep_7 (fun u1 H locs hm hw => ?_)
  refine q_last E hw (tC_9_0 hv0) hm dX9_keep_10 (fun σ2 H locs hm hw => ?_)
  exact q_vret E hr hlk hw hm dX9_keep_11
theorem c_X9_keep {l : Launch} {D : va_G} {cy : Nat → ClassId} {b : Nat} {v0 : Nat} {v1 : Int32} {v2 : Int64} {σ : ST} {r : ST} (hm : f_X9_keep v0 v1 v2 σ = some r) (hv0 : LC.1 v0 = 9) : Met l yX9_keep (wU yX9_keep cX9_keep 4 (none)) (rmD 1) (PcP D cy LC b [.ref (b + v0), .int v1, .long v2] σ) (QcP D cy LC b none r) 0 0 (inP LC b) :=
  q_met (lv := [(0, .ref (b + v0)), (1, .int v1), (2, .long v2)]) LC_ok (by decide) (Nat.le_of_ble_eq_true rfl) rfl (fun _ _ _ _ _ _ _ _ _ E hr hlk hw hl => w_X9_keep_0 E hr hlk hm hv0 hw hl)
