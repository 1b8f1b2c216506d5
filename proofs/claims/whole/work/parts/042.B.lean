def f_X10_cellOf (v0 : Int32) (v1 : Int32) (σ : ST) : Option (Int32 × ST) :=
  some ((v0 * 6) + v1, σ)
set_option maxRecDepth 20000 in
set_option maxHeartbeats 1000000 in
theorem w_X10_cellOf_0 {p : Program} {l : Launch} {e : Env} {s : State} {m : MethodId} {args : Array Value} {below : List Frame} {meth : Method} {c : Code} {D : va_G} {cy : Nat → ClassId} {b : Nat} (E : CX p m c cX10_cellOf 2 s args RX10 D cy LC) (hr : meth.sig.returnType = some .int) (hlk : meth.locks = false) {r : Int32 × ST} {v0 : Int32} {v1 : Int32} {σ : ST} {H : Heap} {locs : List Loc} {ls : Array Slot} (hm : f_X10_cellOf v0 v1 σ = some r) (hw : PH D cy LC b σ s H locs) (hl : lv_has ls 2 [(0, .int v0), (1, .int v1)]) : W p l e (rmD 0) s m args below meth c H locs 0 0 (MQ below (QcP D cy LC b (some (.int r.1)) r.2) args s 0 0 (inP LC b)) (F0 m 0 ls []) := by
  have hx := E.1.1
  have hb := E.1.2.1
  unfold f_X10_cellOf at hm
  refine lv_iload_n hx hb dX10_cellOf_0 rfl (lv_at hl 0 rfl) ?_
  refine lv_bipush (v := 6) hx hb dX10_cellOf_1 (by decide) ?_
  refine lv_imul hx hb dX10_cellOf_3 ?_
  refine lv_iload_n hx hb dX10_cellOf_4 rfl (lv_at hl 1 rfl) ?_
  refine lv_iadd hx hb dX10_cellOf_5 ?_
  exact q_iret E hr hlk hw hm dX10_cellOf_6
theorem c_X10_cellOf {l : Launch} {D : va_G} {cy : Nat → ClassId} {b : Nat} {v0 : Int32} {v1 : Int32} {σ : ST} {r : Int32 × ST} (hm : f_X10_cellOf v0 v1 σ = some r) : Met l yX10_cellOf (wU yX10_cellOf cX10_cellOf 2 (some .int)) (rmD 0) (PcP D cy LC b [.int v0, .int v1] σ) (QcP D cy LC b (some (.int r.1)) r.2) 0 0 (inP LC b) :=
  q_met (lv := [(0, .int v0), (1, .int v1)]) LC_ok (by decide) (Nat.le_of_ble_eq_true rfl) rfl (fun _ _ _ _ _ _ _ _ _ E hr hlk hw hl => w_X10_cellOf_0 E hr hlk hm hw hl)

def k_X10_joinSet_46 (rec9 : Nat → Int32 → Int32 → Nat → Int32 → Int32 → ST → Option (ST)) (v0 : Nat) (v1 : Int32) (v2 : Int32) (v3 : Nat) (v4 : Int32) (v5 : Int32) (σ : ST) : Option (ST) :=
  rec9 v0 v1 v2 v3 v4 (v5 + 1) σ
set_option maxRecDepth 20000 in
set_option maxHeartbeats 1000000 in
theorem w_X10_joinSet_46 {p : Program} {l : Launch} {e : Env} {s : State} {m : MethodId} {args : Array Value} {below : List Frame} {meth : Method} {c : Code} {D : va_G} {cy : Nat → ClassId} {b : Nat} (E : CX p m c cX10_joinSet 6 s args RX10 D cy LC) (hr : meth.sig.returnType = none) (hlk : meth.locks = false) {r : ST} {rec9 : Nat → Int32 → Int32 → Nat → Int32 → Int32 → ST → Option (ST)} (hrec9 : ∀ (v0 : Nat) (v1 : Int32) (v2 : Int32) (v3 : Nat) (v4 : Int32) (v5 : Int32) (σ : ST) (H : Heap) (locs : List Loc) (ls : Array Slot), rec9 v0 v1 v2 v3 v4 v5 σ = some r → LC.1 v0 = 10 → LC.1 v3 = 0 → PH D cy LC b σ s H locs → lv_has ls 6 [(0, .ref (b + v0)), (1, .int v1), (2, .int v2), (3, .ref (b + v3)), (4, .int v4), (5, .int v5)] → W p l e (rmD 3) s m args below meth c H locs 0 0 (MQ below (QcP D cy LC b none r) args s 0 0 (inP LC b)) (F0 m 9 ls [])) {v0 : Nat} {v1 : Int32} {v2 : Int32} {v3 : Nat} {v4 : Int32} {v5 : Int32} {σ : ST} {H : Heap} {locs : List Loc} {ls : Array Slot} (hm : k_X10_joinSet_46 rec9 v0 v1 v2 v3 v4 v5 σ = some r) (hv0 : LC.1 v0 = 10) (hv3 : LC.1 v3 = 0) (hw : PH D cy LC b σ s H locs) (hl : lv_has ls 6 [(0, .ref (b + v0)), (1, .int v1), (2, .int v2), (3, .ref (b + v3)), (4, .int v4), (5, .int v5)]) : W p l e (rmD 3) s m args below meth c H locs 0 0 (MQ below (QcP D cy LC b none r) args s 0 0 (inP LC b)) (F0 m 46 ls []) := by
  have hx := E.1.1
  have hb := E.1.2.1
  unfold k_X10_joinSet_46 at hm
  refine lv_iinc (v := v5 + 1) (lv' := [(5, .int (v5 + 1)), (0, .ref (b + v0)), (1, .int v1), (2, .int v2), (3, .ref (b + v3)), (4, .int v4)]) hx hb dX10_joinSet_46 hl (k := 5) rfl rfl (by decide) rfl (fun ls hl => ?_)
  refine lv_goto (tgt := 9) hx hb dX10_joinSet_49 (by decide) ?_
  exact hrec9 _ _ _ _ _ _ _ _ _ _ hm hv0 hv3 hw (lv_sub hl [1, 2, 3, 4, 5, 0] rfl)
def k_X10_joinSet_9 : Nat → Nat → Int32 → Int32 → Nat → Int32 → Int32 → ST → Option (ST)
  | 0, _, _, _, _, _, _, _ => none
  | n + 1, v0, v1, v2, v3, v4, v5, σ => if (gI σ (LC.2.1 v0 0) 6) ≤ v5 then (some σ) else (if ((v1 >>> (v5 &&& 31)) &&& 1) = 0 then (k_X10_joinSet_46 (k_X10_joinSet_9 n) v0 v1 v2 v3 v4 v5 σ) else ((f_X10_cellOf v5 v2 σ).bind fun u3 =>
  (f_X0_join v3 v4 (LC.2.1 v0 2) u3.1 u3.2).bind fun u4 =>
  k_X10_joinSet_46 (k_X10_joinSet_9 n) v0 v1 v2 v3 v4 v5 u4))
set_option maxRecDepth 20000 in
set_option maxHeartbeats 1000000 in
theorem w_X10_joinSet_9 {p : Program} {l : Launch} {e : Env} {s : State} {m : MethodId} {args : Array Value} {below : List Frame} {meth : Method} {c : Code} {D : va_G} {cy : Nat → ClassId} {b : Nat} (E : CX p m c cX10_joinSet 6 s args RX10 D cy LC) (hr : meth.sig.returnType = none) (hlk : meth.locks = false) {r : ST} : ∀ (n : Nat) (v0 : Nat) (v1 : Int32) (v2 : Int32) (v3 : Nat) (v4 : Int32) (v5 : Int32) (σ : ST) (H : Heap) (locs : List Loc) (ls : Array Slot), k_X10_joinSet_9 n v0 v1 v2 v3 v4 v5 σ = some r → LC.1 v0 = 10 → LC.1 v3 = 0 → PH D cy LC b σ s H locs → lv_has ls 6 [(0, .ref (b + v0)), (1, .int v1), (2, .int v2), (3, .ref (b + v3)), (4, .int v4), (5, .int v5)] → W p l e (rmD 3) s m args below meth c H locs 0 0 (MQ below (QcP D cy LC b none r) args s 0 0 (inP LC b)) (F0 m 9 ls []) := by
  have hx := E.1.1
  have hb := E.1.2.1
  intro n
  induction n with
  | zero =>
    intro v0 v1 v2 v3 v4 v5 σ H locs ls hm
    cases hm
  | succ n ih =>
    intro v0 v1 v2 v3 v4 v5 σ H locs ls hm hv0 hv3 hw hl
    rw [k_X10_joinSet_9] at hm
    refine lv_iload hx hb dX10_joinSet_9 (lv_at hl 5 rfl) ?_
    refine lv_aload_n hx hb dX10_joinSet_11 rfl (lv_at hl 0 rfl) ?_
    refine q_geta E hw fw_X10_12 rfl hv0 dX10_joinSet_12 ?_
    refine q_geti E hw fw_X10_131 rfl (tC_10_0 hv0) dX10_joinSet_15 ?_
    refine lv_icmp_ge (tgt := 52) hx hb dX10_joinSet_18 (by decide) (fun c1 => ?_) (fun c1 => ?_)
    · have hm := o_t c1 hm
      exact q_vret E hr hlk hw hm dX10_joinSet_52
    · have hm := o_f c1 hm
      refine lv_iload_n hx hb dX10_joinSet_21 rfl (lv_at hl 1 rfl) ?_
      refine lv_iload hx hb dX10_joinSet_22 (lv_at hl 5 rfl) ?_
      refine lv_ishr hx hb dX10_joinSet_24 ?_
      refine lv_iconst (v := 1) hx hb dX10_joinSet_25 (by decide) ?_
      refine lv_iand hx hb dX10_joinSet_26 ?_
      refine lv_if_eq (tgt := 46) hx hb dX10_joinSet_27 (by decide) (fun c2 => ?_) (fun c2 => ?_)
      · have hm := o_t c2 hm
        exact w_X10_joinSet_46 E hr hlk ih hm hv0 hv3 hw (lv_sub hl [0, 1, 2, 3, 4, 5] rfl)
      · have hm := o_f c2 hm
        refine lv_aload_n hx hb dX10_joinSet_30 rfl (lv_at hl 3 rfl) ?_
        refine lv_iload hx hb dX10_joinSet_31 (lv_at hl 4 rfl) ?_
        refine lv_aload_n hx hb dX10_joinSet_33 rfl (lv_at hl 0 rfl) ?_
        refine q_geta E hw fw_X10_30 rfl hv0 dX10_joinSet_34 ?_
        refine lv_iload hx hb dX10_joinSet_37 (lv_at hl 5 rfl) ?_
        refine lv_iload_n hx hb dX10_joinSet_39 rfl (lv_at hl 2 rfl) ?_
        refine q_cSi [.ref (b + (LC.2.1 v0 2)), .int v4, .ref (b + v3)] E hw hm ms_X10_100 (fun u hu => c_X10_cellOf hu ) rfl rfl hl.1 (Nat.le_of_ble_eq_true rfl) ⟨Nat.le_of_ble_eq_true rfl, Nat.le_of_ble_eq_true rfl⟩ dX10_joinSet_40 (fun u3 H locs hm hw => ?_)
        refine q_cVv (κ := 0) (C := RX0) (T := TX0) (N := 2) [] E hw hm mw_X10_111 (fun u hu => c_X0_join hu hv3 (tC_10_2 hv0)) rfl (by decide) hv3 rfl rfl hl.1 (Nat.le_of_ble_eq_true rfl) ⟨Nat.le_of_ble_eq_true rfl, Nat.le_of_ble_eq_true rfl⟩ dX10_joinSet_43 (fun u4 H locs hm hw => ?_)
        exact w_X10_joinSet_46 E hr hlk ih hm hv0 hv3 hw (lv_sub hl [0, 1, 2, 3, 4, 5] rfl)
def f_X10_joinSet (v0 : Nat) (v1 : Int32) (v2 : Int32) (v3 : Nat) (v4 : Int32) (σ : ST) : Option (ST) :=
  (f_X0_empty v3 v4 σ).bind fun u5 =>
  k_X10_joinSet_9 FU v0 v1 v2 v3 v4 0 u5
set_option maxRecDepth 20000 in
set_option maxHeartbeats 1000000 in
theorem w_X10_joinSet_0 {p : Program} {l : Launch} {e : Env} {s : State} {m : MethodId} {args : Array Value} {below : List Frame} {meth : Method} {c : Code} {D : va_G} {cy : Nat → ClassId} {b : Nat} (E : CX p m c cX10_joinSet 6 s args RX10 D cy LC) (hr : meth.sig.returnType = none) (hlk : meth.locks = false) {r : ST} {v0 : Nat} {v1 : Int32} {v2 : Int32} {v3 : Nat} {v4 : Int32} {σ : ST} {H : Heap} {locs : List Loc} {ls : Array Slot} (hm : f_X10_joinSet v0 v1 v2 v3 v4 σ = some r) (hv0 : LC.1 v0 = 10) (hv3 : LC.1 v3 = 0) (hw : PH D cy LC b σ s H locs) (hl : lv_has ls 6 [(0, .ref (b + v0)), (1, .int v1), (2, .int v2), (3, .ref (b + v3)), (4, .int v4)]) : W p l e (rmD 3) s m args below meth c H locs 0 0 (MQ below (QcP D cy LC b none r) args s 0 0 (inP LC b)) (F0 m 0 ls []) := by
  have hx := E.1.1
  have hb := E.1.2.1
  unfold f_X10_joinSet at hm
  refine lv_aload_n hx hb dX10_joinSet_0 rfl (lv_at hl 3 rfl) ?_
  refine lv_iload hx hb dX10_joinSet_1 (lv_at hl 4 rfl) ?_
  refine q_cVv (κ := 0) (C := RX0) (T := TX0) (N := 2) [] E hw hm mw_X10_156 (fun u hu => c_X0_empty hu hv3) rfl (by decide) hv3 rfl rfl hl.1 (Nat.le_of_ble_eq_true rfl) ⟨Nat.le_of_ble_eq_true rfl, Nat.le_of_ble_eq_true rfl⟩ dX10_joinSet_3 (fun u5 H locs hm hw => ?_)
  refine lv_iconst (v := 0) hx hb dX10_joinSet_6 (by decide) ?_
  refine lv_istore (lv' := [(5, .int 0), (0, .ref (b + v0)), (1, .int v1), (2, .int v2), (3, .ref (b + v3)), (4, .int v4)]) hx hb dX10_joinSet_7 hl (by decide) rfl (fun ls hl => ?_)
  exact w_X10_joinSet_9 E hr hlk _ _ _ _ _ _ _ _ _ _ _ hm hv0 hv3 hw (lv_sub hl [1, 2, 3, 4, 5, 0] rfl)
theorem c_X10_joinSet {l : Launch} {D : va_G} {cy : Nat → ClassId} {b : Nat} {v0 : Nat} {v1 : Int32} {v2 : Int32} {v3 : Nat} {v4 : Int32} {σ : ST} {r : ST} (hm : f_X10_joinSet v0 v1 v2 v3 v4 σ = some r) (hv0 : LC.1 v0 = 10) (hv3 : LC.1 v3 = 0) : Met l yX10_joinSet (wU yX10_joinSet cX10_joinSet 6 (none)) (rmD 3) (PcP D cy LC b [.ref (b + v0), .int v1, .int v2, .ref (b + v3), .int v4] σ) (QcP D cy LC b none r) 0 0 (inP LC b) :=
  q_met (lv := [(0, .ref (b + v0)), (1, .int v1), (2, .int v2), (3, .ref (b + v3)), (4, .int v4)]) LC_ok (by decide) (Nat.le_of_ble_eq_true rfl) rfl (fun _ _ _ _ _ _ _ _ _ E hr hlk hw hl => w_X10_joinSet_0 E hr hlk hm hv0 hv3 hw hl)

def k_X10_isUp_16 (s0 : Int32) (σ : ST) : Option (Int32 × ST) :=
  (ckZ s0).bind fun z => some (z, σ)
set_option maxRecDepth 20000 in
set_option maxHeartbeats 1000000 in
theorem w_X10_isUp_16 {p : Program} {l : Launch} {e : Env} {s : State} {m : MethodId} {args : Array Value} {below : List Frame} {meth : Method} {c : Code} {D : va_G} {cy : Nat → ClassId} {b : Nat} (E : CX p m c cX10_isUp 2 s args RX10 D cy LC) (hr : meth.sig.returnType = some .boolean) (hlk : meth.locks = false) {r : Int32 × ST} {s0 : Int32} {σ : ST} {H : Heap} {locs : List Loc} {ls : Array Slot} (hm : k_X10_isUp_16 s0 σ = some r) (hw : PH D cy LC b σ s H locs) (hl : lv_has ls 2 []) : W p l e (rmD 0) s m args below meth c H locs 0 0 (MQ below (QcP D cy LC b (some (.int r.1)) r.2) args s 0 0 (inP LC b)) (F0 m 16 ls [.int s0]) := by
  have hx := E.1.1
  have hb := E.1.2.1
  unfold k_X10_isUp_16 at hm
  exact q_zret E hr hlk hw hm dX10_isUp_16
def f_X10_isUp (v0 : Nat) (v1 : Int32) (σ : ST) : Option (Int32 × ST) :=
  if (((gI σ v0 9) >>> (v1 &&& 31)) &&& 1) = 0 then (k_X10_isUp_16 0 σ) else (k_X10_isUp_16 1 σ)
set_option maxRecDepth 20000 in
set_option maxHeartbeats 1000000 in
theorem w_X10_isUp_0 {p : Program} {l : Launch} {e : Env} {s : State} {m : MethodId} {args : Array Value} {below : List Frame} {meth : Method} {c : Code} {D : va_G} {cy : Nat → ClassId} {b : Nat} (E : CX p m c cX10_isUp 2 s args RX10 D cy LC) (hr : meth.sig.returnType = some .boolean) (hlk : meth.locks = false) {r : Int32 × ST} {v0 : Nat} {v1 : Int32} {σ : ST} {H : Heap} {locs : List Loc} {ls : Array Slot} (hm : f_X10_isUp v0 v1 σ = some r) (hv0 : LC.1 v0 = 10) (hw : PH D cy LC b σ s H locs) (hl : lv_has ls 2 [(0, .ref (b + v0)), (1, .int v1)]) : W p l e (rmD 0) s m args below meth c H locs 0 0 (MQ below (QcP D cy LC b (some (.int r.1)) r.2) args s 0 0 (inP LC b)) (F0 m 0 ls []) := by
  have hx := E.1.1
  have hb := E.1.2.1
  unfold f_X10_isUp at hm
  refine lv_aload_n hx hb dX10_isUp_0 rfl (lv_at hl 0 rfl) ?_
  refine q_geti E hw fw_X10_53 rfl hv0 dX10_isUp_1 ?_
  refine lv_iload_n hx hb dX10_isUp_4 rfl (lv_at hl 1 rfl) ?_
  refine lv_ishr hx hb dX10_isUp_5 ?_
  refine lv_iconst (v := 1) hx hb dX10_isUp_6 (by decide) ?_
  refine lv_iand hx hb dX10_isUp_7 ?_
  refine lv_if_eq (tgt := 15) hx hb dX10_isUp_8 (by decide) (fun c1 => ?_) (fun c1 => ?_)
  · have hm := o_t c1 hm
    refine lv_iconst (v := 0) hx hb dX10_isUp_15 (by decide) ?_
    exact w_X10_isUp_16 E hr hlk hm  hw (lv_sub hl [] rfl)
  · have hm := o_f c1 hm
    refine lv_iconst (v := 1) hx hb dX10_isUp_11 (by decide) ?_
    refine lv_goto (tgt := 16) hx hb dX10_isUp_12 (by decide) ?_
    exact w_X10_isUp_16 E hr hlk hm  hw (lv_sub hl [] rfl)
theorem c_X10_isUp {l : Launch} {D : va_G} {cy : Nat → ClassId} {b : Nat} {v0 : Nat} {v1 : Int32} {σ : ST} {r : Int32 × ST} (hm : f_X10_isUp v0 v1 σ = some r) (hv0 : LC.1 v0 = 10) : Met l yX10_isUp (wU yX10_isUp cX10_isUp 2 (some .boolean)) (rmD 0) (PcP D cy LC b [.ref (b + v0), .int v1] σ) (QcP D cy LC b (some (.int r.1)) r.2) 0 0 (inP LC b) :=
  q_met (lv := [(0, .ref (b + v0)), (1, .int v1)]) LC_ok (by decide) (Nat.le_of_ble_eq_true rfl) rfl (fun _ _ _ _ _ _ _ _ _ E hr hlk hw hl => w_X10_isUp_0 E hr hlk hm hv0 hw hl)

def k_X10_reaches_40 (s0 : Int32) (σ : ST) : Option (Int32 × ST) :=
  (ckZ s0).bind fun z => some (z, σ)
set_option maxRecDepth 20000 in
set_option maxHeartbeats 1000000 in
theorem w_X10_reaches_40 {p : Program} {l : Launch} {e : Env} {s : State} {m : MethodId} {args : Array Value} {below : List Frame} {meth : Method} {c : Code} {D : va_G} {cy : Nat → ClassId} {b : Nat} (E : CX p m c cX10_reaches 3 s args RX10 D cy LC) (hr : meth.sig.returnType = some .boolean) (hlk : meth.locks = false) {r : Int32 × ST} {s0 : Int32} {σ : ST} {H : Heap} {locs : List Loc} {ls : Array Slot} (hm : k_X10_reaches_40 s0 σ = some r) (hw : PH D cy LC b σ s H locs) (hl : lv_has ls 3 []) : W p l e (rmD 1) s m args below meth c H locs 0 0 (MQ below (QcP D cy LC b (some (.int r.1)) r.2) args s 0 0 (inP LC b)) (F0 m 40 ls [.int s0]) := by
  have hx := E.1.1
  have hb := E.1.2.1
  unfold k_X10_reaches_40 at hm
  exact q_zret E hr hlk hw hm dX10_reaches_40
def k_X10_reaches_39 (σ : ST) : Option (Int32 × ST) :=
  k_X10_reaches_40 0 σ
set_option maxRecDepth 20000 in
set_option maxHeartbeats 1000000 in
theorem w_X10_reaches_39 {p : Program} {l : Launch} {e : Env} {s : State} {m : MethodId} {args : Array Value} {below : List Frame} {meth : Method} {c : Code} {D : va_G} {cy : Nat → ClassId} {b : Nat} (E : CX p m c cX10_reaches 3 s args RX10 D cy LC) (hr : meth.sig.returnType = some .boolean) (hlk : meth.locks = false) {r : Int32 × ST} {σ : ST} {H : Heap} {locs : List Loc} {ls : Array Slot} (hm : k_X10_reaches_39  σ = some r) (hw : PH D cy LC b σ s H locs) (hl : lv_has ls 3 []) : W p l e (rmD 1) s m args below meth c H locs 0 0 (MQ below (QcP D cy LC b (some (.int r.1)) r.2) args s 0 0 (inP LC b)) (F0 m 39 ls []) := by
  have hx := E.1.1
  have hb := E.1.2.1
  unfold k_X10_reaches_39 at hm
  refine lv_iconst (v := 0) hx hb dX10_reaches_39 (by decide) ?_
  exact w_X10_reaches_40 E hr hlk hm  hw (lv_sub hl [] rfl)
def f_X10_reaches (v0 : Nat) (v1 : Int32) (v2 : Int32) (σ : ST) : Option (Int32 × ST) :=
  (f_X10_isUp v0 v1 σ).bind fun u1 =>
  if u1.1 = 0 then (k_X10_reaches_39 u1.2) else ((f_X10_isUp v0 v2 u1.2).bind fun u3 =>
  if u3.1 = 0 then (k_X10_reaches_39 u3.2) else (if (((gI u3.2 v0 10) >>> (v1 &&& 31)) &&& 1) = (((gI u3.2 v0 10) >>> (v2 &&& 31)) &&& 1) then (k_X10_reaches_40 1 u3.2) else (k_X10_reaches_39 u3.2)))
set_option maxRecDepth 20000 in
set_option maxHeartbeats 1000000 in
theorem w_X10_reaches_0 {p : Program} {l : Launch} {e : Env} {s : State} {m : MethodId} {args : Array Value} {below : List Frame} {meth : Method} {c : Code} {D : va_G} {cy : Nat → ClassId} {b : Nat} (E : CX p m c cX10_reaches 3 s args RX10 D cy LC) (hr : meth.sig.returnType = some .boolean) (hlk : meth.locks = false) {r : Int32 × ST} {v0 : Nat} {v1 : Int32} {v2 : Int32} {σ : ST} {H : Heap} {locs : List Loc} {ls : Array Slot} (hm : f_X10_reaches v0 v1 v2 σ = some r) (hv0 : LC.1 v0 = 10) (hw : PH D cy LC b σ s H locs) (hl : lv_has ls 3 [(0, .ref (b + v0)), (1, .int v1), (2, .int v2)]) : W p l e (rmD 1) s m args below meth c H locs 0 0 (MQ below (QcP D cy LC b (some (.int r.1)) r.2) args s 0 0 (inP LC b)) (F0 m 0 ls []) := by
  have hx := E.1.1
  have hb := E.1.2.1
  unfold f_X10_reaches at hm
  refine lv_aload_n hx hb dX10_reaches_0 rfl (lv_at hl 0 rfl) ?_
  refine lv_iload_n hx hb dX10_reaches_1 rfl (lv_at hl 1 rfl) ?_
  refine q_cVi (κ := 10) (C := RX10) (T := TX10) (N := 12) [] E hw hm mw_X10_96 (fun u hu => c_X10_isUp hu hv0) rfl (by decide) hv0 rfl rfl hl.1 (Nat.le_of_ble_eq_true rfl) ⟨Nat.le_of_ble_eq_true rfl, Nat.le_of_ble_eq_true rfl⟩ dX10_reaches_2 (fun u1 H locs hm hw => ?_)
  refine lv_if_eq (tgt := 39) hx hb dX10_reaches_5 (by decide) (fun c2 => ?_) (fun c2 => ?_)
  · have hm := o_t c2 hm
    exact w_X10_reaches_39 E hr hlk hm  hw (lv_sub hl [] rfl)
  · have hm := o_f c2 hm
    refine lv_aload_n hx hb dX10_reaches_8 rfl (lv_at hl 0 rfl) ?_
    refine lv_iload_n hx hb dX10_reaches_9 rfl (lv_at hl 2 rfl) ?_
    refine q_cVi (κ := 10) (C := RX10) (T := TX10) (N := 12) [] E hw hm mw_X10_96 (fun u hu => c_X10_isUp hu hv0) rfl (by decide) hv0 rfl rfl hl.1 (Nat.le_of_ble_eq_true rfl) ⟨Nat.le_of_ble_eq_true rfl, Nat.le_of_ble_eq_true rfl⟩ dX10_reaches_10 (fun u3 H locs hm hw => ?_)
    refine lv_if_eq (tgt := 39) hx hb dX10_reaches_13 (by decide) (fun c4 => ?_) (fun c4 => ?_)
    · have hm := o_t c4 hm
      exact w_X10_reaches_39 E hr hlk hm  hw (lv_sub hl [] rfl)
    · have hm := o_f c4 hm
      refine lv_aload_n hx hb dX10_reaches_16 rfl (lv_at hl 0 rfl) ?_
      refine q_geti E hw fw_X10_57 rfl hv0 dX10_reaches_17 ?_
      refine lv_iload_n hx hb dX10_reaches_20 rfl (lv_at hl 1 rfl) ?_
      refine lv_ishr hx hb dX10_reaches_21 ?_
      refine lv_iconst (v := 1) hx hb dX10_reaches_22 (by decide) ?_
      refine lv_iand hx hb dX10_reaches_23 ?_
      refine lv_aload_n hx hb dX10_reaches_24 rfl (lv_at hl 0 rfl) ?_
      refine q_geti E hw fw_X10_57 rfl hv0 dX10_reaches_25 ?_
      refine lv_iload_n hx hb dX10_reaches_28 rfl (lv_at hl 2 rfl) ?_
      refine lv_ishr hx hb dX10_reaches_29 ?_
      refine lv_iconst (v := 1) hx hb dX10_reaches_30 (by decide) ?_
      refine lv_iand hx hb dX10_reaches_31 ?_
      refine lv_icmp_ne (tgt := 39) hx hb dX10_reaches_32 (by decide) (fun c5 => ?_) (fun c5 => ?_)
      · have hm := o_f c5 hm
        exact w_X10_reaches_39 E hr hlk hm  hw (lv_sub hl [] rfl)
      · have hm := o_t c5 hm
        refine lv_iconst (v := 1) hx hb dX10_reaches_35 (by decide) ?_
        refine lv_goto (tgt := 40) hx hb dX10_reaches_36 (by decide) ?_
        exact w_X10_reaches_40 E hr hlk hm  hw (lv_sub hl [] rfl)
theorem c_X10_reaches {l : Launch} {D : va_G} {cy : Nat → ClassId} {b : Nat} {v0 : Nat} {v1 : Int32} {v2 : Int32} {σ : ST} {r : Int32 × ST} (hm : f_X10_reaches v0 v1 v2 σ = some r) (hv0 : LC.1 v0 = 10) : Met l yX10_reaches (wU yX10_reaches cX10_reaches 3 (some .boolean)) (rmD 1) (PcP D cy LC b [.ref (b + v0), .int v1, .int v2] σ) (QcP D cy LC b (some (.int r.1)) r.2) 0 0 (inP LC b) :=
  q_met (lv := [(0, .ref (b + v0)), (1, .int v1), (2, .int v2)]) LC_ok (by decide) (Nat.le_of_ble_eq_true rfl) rfl (fun _ _ _ _ _ _ _ _ _ E hr hlk hw hl => w_X10_reaches_0 E hr hlk hm hv0 hw hl)

def k_X10_placesReached_47 (rec5 : Nat → Int32 → Int32 → Int32 → Int32 → ST → Option (Int32 × ST)) (v0 : Nat) (v1 : Int32) (v2 : Int32) (v3 : Int32) (v4 : Int32) (σ : ST) : Option (Int32 × ST) :=
  rec5 v0 v1 v2 v3 (v4 + 1) σ
set_option maxRecDepth 20000 in
set_option maxHeartbeats 1000000 in
theorem w_X10_placesReached_47 {p : Program} {l : Launch} {e : Env} {s : State} {m : MethodId} {args : Array Value} {below : List Frame} {meth : Method} {c : Code} {D : va_G} {cy : Nat → ClassId} {b : Nat} (E : CX p m c cX10_placesReached 5 s args RX10 D cy LC) (hr : meth.sig.returnType = some .int) (hlk : meth.locks = false) {r : Int32 × ST} {rec5 : Nat → Int32 → Int32 → Int32 → Int32 → ST → Option (Int32 × ST)} (hrec5 : ∀ (v0 : Nat) (v1 : Int32) (v2 : Int32) (v3 : Int32) (v4 : Int32) (σ : ST) (H : Heap) (locs : List Loc) (ls : Array Slot), rec5 v0 v1 v2 v3 v4 σ = some r → LC.1 v0 = 10 → PH D cy LC b σ s H locs → lv_has ls 5 [(0, .ref (b + v0)), (1, .int v1), (2, .int v2), (3, .int v3), (4, .int v4)] → W p l e (rmD 2) s m args below meth c H locs 0 0 (MQ below (QcP D cy LC b (some (.int r.1)) r.2) args s 0 0 (inP LC b)) (F0 m 5 ls [])) {v0 : Nat} {v1 : Int32} {v2 : Int32} {v3 : Int32} {v4 : Int32} {σ : ST} {H : Heap} {locs : List Loc} {ls : Array Slot} (hm : k_X10_placesReached_47 rec5 v0 v1 v2 v3 v4 σ = some r) (hv0 : LC.1 v0 = 10) (hw : PH D cy LC b σ s H locs) (hl : lv_has ls 5 [(0, .ref (b + v0)), (1, .int v1), (2, .int v2), (3, .int v3), (4, .int v4)]) : W p l e (rmD 2) s m args below meth c H locs 0 0 (MQ below (QcP D cy LC b (some (.int r.1)) r.2) args s 0 0 (inP LC b)) (F0 m 47 ls []) := by
  have hx := E.1.1
  have hb := E.1.2.1
  unfold k_X10_placesReached_47 at hm
  refine lv_iinc (v := v4 + 1) (lv' := [(4, .int (v4 + 1)), (0, .ref (b + v0)), (1, .int v1), (2, .int v2), (3, .int v3)]) hx hb dX10_placesReached_47 hl (k := 4) rfl rfl (by decide) rfl (fun ls hl => ?_)
  refine lv_goto (tgt := 5) hx hb dX10_placesReached_50 (by decide) ?_
  exact hrec5 _ _ _ _ _ _ _ _ _ hm hv0 hw (lv_sub hl [1, 2, 3, 4, 0] rfl)
def k_X10_placesReached_5 : Nat → Nat → Int32 → Int32 → Int32 → Int32 → ST → Option (Int32 × ST)
  | 0, _, _, _, _, _, _ => none
  | n + 1, v0, v1, v2, v3, v4, σ => if (gI σ (LC.2.1 v0 0) 6) ≤ v4 then (some (v3, σ)) else ((f_X7_isPlace (LC.2.1 v0 0) v1 v4 σ).bind fun u2 =>
  if u2.1 = 0 then (k_X10_placesReached_47 (k_X10_placesReached_5 n) v0 v1 v2 v3 v4 u2.2) else ((f_X10_reaches v0 v2 v4 u2.2).bind fun u4 =>
  if u4.1 = 0 then (k_X10_placesReached_47 (k_X10_placesReached_5 n) v0 v1 v2 v3 v4 u4.2) else (k_X10_placesReached_47 (k_X10_placesReached_5 n) v0 v1 v2 (v3 ||| (1 <<< (v4 &&& 31))) v4 u4.2)))
set_option maxRecDepth 20000 in
set_option maxHeartbeats 1000000 in
theorem w_X10_placesReached_5 {p : Program} {l : Launch} {e : Env} {s : State} {m : MethodId} {args : Array Value} {below : List Frame} {meth : Method} {c : Code} {D : va_G} {cy : Nat → ClassId} {b : Nat} (E : CX p m c cX10_placesReached 5 s args RX10 D cy LC) (hr : meth.sig.returnType = some .int) (hlk : meth.locks = false) {r : Int32 × ST} : ∀ (n : Nat) (v0 : Nat) (v1 : Int32) (v2 : Int32) (v3 : Int32) (v4 : Int32) (σ : ST) (H : Heap) (locs : List Loc) (ls : Array Slot), k_X10_placesReached_5 n v0 v1 v2 v3 v4 σ = some r → LC.1 v0 = 10 → PH D cy LC b σ s H locs → lv_has ls 5 [(0, .ref (b + v0)), (1, .int v1), (2, .int v2), (3, .int v3), (4, .int v4)] → W p l e (rmD 2) s m args below meth c H locs 0 0 (MQ below (QcP D cy LC b (some (.int r.1)) r.2) args s 0 0 (inP LC b)) (F0 m 5 ls []) := by
  have hx := E.1.1
  have hb := E.1.2.1
  intro n
  induction n with
  | zero =>
    intro v0 v1 v2 v3 v4 σ H locs ls hm
    cases hm
  | succ n ih =>
    intro v0 v1 v2 v3 v4 σ H locs ls hm hv0 hw hl
    rw [k_X10_placesReached_5] at hm
    refine lv_iload hx hb dX10_placesReached_5 (lv_at hl 4 rfl) ?_
    refine lv_aload_n hx hb dX10_placesReached_7 rfl (lv_at hl 0 rfl) ?_
    refine q_geta E hw fw_X10_12 rfl hv0 dX10_placesReached_8 ?_
    refine q_geti E hw fw_X10_131 rfl (tC_10_0 hv0) dX10_placesReached_11 ?_
    refine lv_icmp_ge (tgt := 53) hx hb dX10_placesReached_14 (by decide) (fun c1 => ?_) (fun c1 => ?_)
    · have hm := o_t c1 hm
      refine lv_iload_n hx hb dX10_placesReached_53 rfl (lv_at hl 3 rfl) ?_
      exact q_iret E hr hlk hw hm dX10_placesReached_54
    · have hm := o_f c1 hm
      refine lv_aload_n hx hb dX10_placesReached_17 rfl (lv_at hl 0 rfl) ?_
      refine q_geta E hw fw_X10_12 rfl hv0 dX10_placesReached_18 ?_
      refine lv_iload_n hx hb dX10_placesReached_21 rfl (lv_at hl 1 rfl) ?_
      refine lv_iload hx hb dX10_placesReached_22 (lv_at hl 4 rfl) ?_
      refine q_cVi (κ := 7) (C := RX7) (T := TX7) (N := 12) [] E hw hm mw_X10_125 (fun u hu => c_X7_isPlace hu (tC_10_0 hv0)) rfl (by decide) (tC_10_0 hv0) rfl rfl hl.1 (Nat.le_of_ble_eq_true rfl) ⟨Nat.le_of_ble_eq_true rfl, Nat.le_of_ble_eq_true rfl⟩ dX10_placesReached_24 (fun u2 H locs hm hw => ?_)
      refine lv_if_eq (tgt := 47) hx hb dX10_placesReached_27 (by decide) (fun c3 => ?_) (fun c3 => ?_)
      · have hm := o_t c3 hm
        exact w_X10_placesReached_47 E hr hlk ih hm hv0 hw (lv_sub hl [0, 1, 2, 3, 4] rfl)
      · have hm := o_f c3 hm
        refine lv_aload_n hx hb dX10_placesReached_30 rfl (lv_at hl 0 rfl) ?_
        refine lv_iload_n hx hb dX10_placesReached_31 rfl (lv_at hl 2 rfl) ?_
        refine lv_iload hx hb dX10_placesReached_32 (lv_at hl 4 rfl) ?_
        refine q_cVi (κ := 10) (C := RX10) (T := TX10) (N := 12) [] E hw hm mw_X10_142 (fun u hu => c_X10_reaches hu hv0) rfl (by decide) hv0 rfl rfl hl.1 (Nat.le_of_ble_eq_true rfl) ⟨Nat.le_of_ble_eq_true rfl, Nat.le_of_ble_eq_true rfl⟩ dX10_placesReached_34 (fun u4 H locs hm hw => ?_)
        refine lv_if_eq (tgt := 47) hx hb dX10_placesReached_37 (by decide) (fun c5 => ?_) (fun c5 => ?_)
        · have hm := o_t c5 hm
          exact w_X10_placesReached_47 E hr hlk ih hm hv0 hw (lv_sub hl [0, 1, 2, 3, 4] rfl)
        · have hm := o_f c5 hm
          refine lv_iload_n hx hb dX10_placesReached_40 rfl (lv_at hl 3 rfl) ?_
          refine lv_iconst (v := 1) hx hb dX10_placesReached_41 (by decide) ?_
          refine lv_iload hx hb dX10_placesReached_42 (lv_at hl 4 rfl) ?_
          refine lv_ishl hx hb dX10_placesReached_44 ?_
          refine lv_ior hx hb dX10_placesReached_45 ?_
          refine lv_istore_n (lv' := [(3, .int (v3 ||| (1 <<< (v4 &&& 31)))), (0, .ref (b + v0)), (1, .int v1), (2, .int v2), (4, .int v4)]) hx hb dX10_placesReached_46 rfl hl (by decide) rfl (fun ls hl => ?_)
          exact w_X10_placesReached_47 E hr hlk ih hm hv0 hw (lv_sub hl [1, 2, 3, 0, 4] rfl)
def f_X10_placesReached (v0 : Nat) (v1 : Int32) (v2 : Int32) (σ : ST) : Option (Int32 × ST) :=
  k_X10_placesReached_5 FU v0 v1 v2 0 0 σ
set_option maxRecDepth 20000 in
set_option maxHeartbeats 1000000 in
theorem w_X10_placesReached_0 {p : Program} {l : Launch} {e : Env} {s : State} {m : MethodId} {args : Array Value} {below : List Frame} {meth : Method} {c : Code} {D : va_G} {cy : Nat → ClassId} {b : Nat} (E : CX p m c cX10_placesReached 5 s args RX10 D cy LC) (hr : meth.sig.returnType = some .int) (hlk : meth.locks = false) {r : Int32 × ST} {v0 : Nat} {v1 : Int32} {v2 : Int32} {σ : ST} {H : Heap} {locs : List Loc} {ls : Array Slot} (hm : f_X10_placesReached v0 v1 v2 σ = some r) (hv0 : LC.1 v0 = 10) (hw : PH D cy LC b σ s H locs) (hl : lv_has ls 5 [(0, .ref (b + v0)), (1, .int v1), (2, .int v2)]) : W p l e (rmD 2) s m args below meth c H locs 0 0 (MQ below (QcP D cy LC b (some (.int r.1)) r.2) args s 0 0 (inP LC b)) (F0 m 0 ls []) := by
  have hx := E.1.1
  have hb := E.1.2.1
  unfold f_X10_placesReached at hm
  refine lv_iconst (v := 0) hx hb dX10_placesReached_0 (by decide) ?_
  refine lv_istore_n (lv' := [(3, .int 0), (0, .ref (b + v0)), (1, .int v1), (2, .int v2)]) hx hb dX10_placesReached_1 rfl hl (by decide) rfl (fun ls hl => ?_)
  refine lv_iconst (v := 0) hx hb dX10_placesReached_2 (by decide) ?_
  refine lv_istore (lv' := [(4, .int 0), (3, .int 0), (0, .ref (b + v0)), (1, .int v1), (2, .int v2)]) hx hb dX10_placesReached_3 hl (by decide) rfl (fun ls hl => ?_)
  exact w_X10_placesReached_5 E hr hlk _ _ _ _ _ _ _ _ _ _ hm hv0 hw (lv_sub hl [2, 3, 4, 1, 0] rfl)
theorem c_X10_placesReached {l : Launch} {D : va_G} {cy : Nat → ClassId} {b : Nat} {v0 : Nat} {v1 : Int32} {v2 : Int32} {σ : ST} {r : Int32 × ST} (hm : f_X10_placesReached v0 v1 v2 σ = some r) (hv0 : LC.1 v0 = 10) : Met l yX10_placesReached (wU yX10_placesReached cX10_placesReached 5 (some .int)) (rmD 2) (PcP D cy LC b [.ref (b + v0), .int v1, .int v2] σ) (QcP D cy LC b (some (.int r.1)) r.2) 0 0 (inP LC b) :=
  q_met (lv := [(0, .ref (b + v0)), (1, .int v1), (2, .int v2)]) LC_ok (by decide) (Nat.le_of_ble_eq_true rfl) rfl (fun _ _ _ _ _ _ _ _ _ E hr hlk hw hl => w_X10_placesReached_0 E hr hlk hm hv0 hw hl)

def k_X10_valuesIn_91 (rec6 : Nat → Nat → Int32 → Int32 → Nat → Int32 → Int32 → Int32 → ST → Option (Int32 × ST)) (v0 : Nat) (v1 : Nat) (v2 : Int32) (v3 : Int32) (v4 : Nat) (v5 : Int32) (v6 : Int32) (v7 : Int32) (σ : ST) : Option (Int32 × ST) :=
  rec6 v0 v1 v2 v3 v4 v5 v6 (v7 + 1) σ
set_option maxRecDepth 20000 in
set_option maxHeartbeats 1000000 in
theorem w_X10_valuesIn_91 {p : Program} {l : Launch} {e : Env} {s : State} {m : MethodId} {args : Array Value} {below : List Frame} {meth : Method} {c : Code} {D : va_G} {cy : Nat → ClassId} {b : Nat} (E : CX p m c cX10_valuesIn 10 s args RX10 D cy LC) (hr : meth.sig.returnType = some .int) (hlk : meth.locks = false) {r : Int32 × ST} {rec6 : Nat → Nat → Int32 → Int32 → Nat → Int32 → Int32 → Int32 → ST → Option (Int32 × ST)} (hrec6 : ∀ (v0 : Nat) (v1 : Nat) (v2 : Int32) (v3 : Int32) (v4 : Nat) (v5 : Int32) (v6 : Int32) (v7 : Int32) (σ : ST) (H : Heap) (locs : List Loc) (ls : Array Slot), rec6 v0 v1 v2 v3 v4 v5 v6 v7 σ = some r → LC.1 v0 = 10 → LC.1 v1 = 0 → LC.1 v4 = 13 → PH D cy LC b σ s H locs → lv_has ls 10 [(0, .ref (b + v0)), (1, .ref (b + v1)), (2, .int v2), (3, .int v3), (4, .ref (b + v4)), (5, .int v5), (6, .int v6), (7, .int v7)] → W p l e (rmD 1) s m args below meth c H locs 0 0 (MQ below (QcP D cy LC b (some (.int r.1)) r.2) args s 0 0 (inP LC b)) (F0 m 6 ls [])) {v0 : Nat} {v1 : Nat} {v2 : Int32} {v3 : Int32} {v4 : Nat} {v5 : Int32} {v6 : Int32} {v7 : Int32} {σ : ST} {H : Heap} {locs : List Loc} {ls : Array Slot} (hm : k_X10_valuesIn_91 rec6 v0 v1 v2 v3 v4 v5 v6 v7 σ = some r) (hv0 : LC.1 v0 = 10) (hv1 : LC.1 v1 = 0) (hv4 : LC.1 v4 = 13) (hw : PH D cy LC b σ s H locs) (hl : lv_has ls 10 [(0, .ref (b + v0)), (1, .ref (b + v1)), (2, .int v2), (3, .int v3), (4, .ref (b + v4)), (5, .int v5), (6, .int v6), (7, .int v7)]) : W p l e (rmD 1) s m args below meth c H locs 0 0 (MQ below (QcP D cy LC b (some (.int r.1)) r.2) args s 0 0 (inP LC b)) (F0 m 91 ls []) := by
  have hx := E.1.1
  have hb := E.1.2.1
  unfold k_X10_valuesIn_91 at hm
  refine lv_iinc (v := v7 + 1) (lv' := [(7, .int (v7 + 1)), (0, .ref (b + v0)), (1, .ref (b + v1)), (2, .int v2), (3, .int v3), (4, .ref (b + v4)), (5, .int v5), (6, .int v6)]) hx hb dX10_valuesIn_91 hl (k := 7) rfl rfl (by decide) rfl (fun ls hl => ?_)
  refine lv_goto (tgt := 6) hx hb dX10_valuesIn_94 (by decide) ?_
  exact hrec6 _ _ _ _ _ _ _ _ _ _ _ _ hm hv0 hv1 hv4 hw (lv_sub hl [1, 2, 3, 4, 5, 6, 7, 0] rfl)
def k_X10_valuesIn_85 (rec30 : Nat → Nat → Int32 → Int32 → Nat → Int32 → Int32 → Int32 → Int32 → Int32 → ST → Option (Int32 × ST)) (v0 : Nat) (v1 : Nat) (v2 : Int32) (v3 : Int32) (v4 : Nat) (v5 : Int32) (v6 : Int32) (v7 : Int32) (v8 : Int32) (v9 : Int32) (σ : ST) : Option (Int32 × ST) :=
  rec30 v0 v1 v2 v3 v4 v5 v6 v7 v8 (v9 + 1) σ
set_option maxRecDepth 20000 in
set_option maxHeartbeats 1000000 in
theorem w_X10_valuesIn_85 {p : Program} {l : Launch} {e : Env} {s : State} {m : MethodId} {args : Array Value} {below : List Frame} {meth : Method} {c : Code} {D : va_G} {cy : Nat → ClassId} {b : Nat} (E : CX p m c cX10_valuesIn 10 s args RX10 D cy LC) (hr : meth.sig.returnType = some .int) (hlk : meth.locks = false) {r : Int32 × ST} {rec30 : Nat → Nat → Int32 → Int32 → Nat → Int32 → Int32 → Int32 → Int32 → Int32 → ST → Option (Int32 × ST)} (hrec30 : ∀ (v0 : Nat) (v1 : Nat) (v2 : Int32) (v3 : Int32) (v4 : Nat) (v5 : Int32) (v6 : Int32) (v7 : Int32) (v8 : Int32) (v9 : Int32) (σ : ST) (H : Heap) (locs : List Loc) (ls : Array Slot), rec30 v0 v1 v2 v3 v4 v5 v6 v7 v8 v9 σ = some r → LC.1 v0 = 10 → LC.1 v1 = 0 → LC.1 v4 = 13 → PH D cy LC b σ s H locs → lv_has ls 10 [(0, .ref (b + v0)), (1, .ref (b + v1)), (2, .int v2), (3, .int v3), (4, .ref (b + v4)), (5, .int v5), (6, .int v6), (7, .int v7), (8, .int v8), (9, .int v9)] → W p l e (rmD 1) s m args below meth c H locs 0 0 (MQ below (QcP D cy LC b (some (.int r.1)) r.2) args s 0 0 (inP LC b)) (F0 m 30 ls [])) {v0 : Nat} {v1 : Nat} {v2 : Int32} {v3 : Int32} {v4 : Nat} {v5 : Int32} {v6 : Int32} {v7 : Int32} {v8 : Int32} {v9 : Int32} {σ : ST} {H : Heap} {locs : List Loc} {ls : Array Slot} (hm : k_X10_valuesIn_85 rec30 v0 v1 v2 v3 v4 v5 v6 v7 v8 v9 σ = some r) (hv0 : LC.1 v0 = 10) (hv1 : LC.1 v1 = 0) (hv4 : LC.1 v4 = 13) (hw : PH D cy LC b σ s H locs) (hl : lv_has ls 10 [(0, .ref (b + v0)), (1, .ref (b + v1)), (2, .int v2), (3, .int v3), (4, .ref (b + v4)), (5, .int v5), (6, .int v6), (7, .int v7), (8, .int v8), (9, .int v9)]) : W p l e (rmD 1) s m args below meth c H locs 0 0 (MQ below (QcP D cy LC b (some (.int r.1)) r.2) args s 0 0 (inP LC b)) (F0 m 85 ls []) := by
  have hx := E.1.1
  have hb := E.1.2.1
  unfold k_X10_valuesIn_85 at hm
  refine lv_iinc (v := v9 + 1) (lv' := [(9, .int (v9 + 1)), (0, .ref (b + v0)), (1, .ref (b + v1)), (2, .int v2), (3, .int v3), (4, .ref (b + v4)), (5, .int v5), (6, .int v6), (7, .int v7), (8, .int v8)]) hx hb dX10_valuesIn_85 hl (k := 9) rfl rfl (by decide) rfl (fun ls hl => ?_)
  refine lv_goto (tgt := 30) hx hb dX10_valuesIn_88 (by decide) ?_
  exact hrec30 _ _ _ _ _ _ _ _ _ _ _ _ _ _ hm hv0 hv1 hv4 hw (lv_sub hl [1, 2, 3, 4, 5, 6, 7, 8, 9, 0] rfl)
def k_X10_valuesIn_30 (rec6 : Nat → Nat → Int32 → Int32 → Nat → Int32 → Int32 → Int32 → ST → Option (Int32 × ST)) : Nat → Nat → Nat → Int32 → Int32 → Nat → Int32 → Int32 → Int32 → Int32 → Int32 → ST → Option (Int32 × ST)
  | 0, _, _, _, _, _, _, _, _, _, _, _ => none
  | n + 1, v0, v1, v2, v3, v4, v5, v6, v7, v8, v9, σ => if 30 ≤ v9 then (k_X10_valuesIn_91 rec6 v0 v1 v2 v3 v4 v5 v6 v7 σ) else (if (v8 >>> (v9 &&& 31)) = 0 then (k_X10_valuesIn_91 rec6 v0 v1 v2 v3 v4 v5 v6 v7 σ) else (if ((v8 >>> (v9 &&& 31)) &&& 1) = 0 then (k_X10_valuesIn_85 (k_X10_valuesIn_30 rec6 n) v0 v1 v2 v3 v4 v5 v6 v7 v8 v9 σ) else ((ldA LC σ (LC.2.1 v0 8) (((v3 * 180) + (v7 * 30)) + v9)).bind fun a4 =>
  (stA LC σ v4 (v5 + v6) a4).bind fun σ5 =>
  k_X10_valuesIn_85 (k_X10_valuesIn_30 rec6 n) v0 v1 v2 v3 v4 v5 (v6 + 1) v7 v8 v9 σ5)))
set_option maxRecDepth 20000 in
set_option maxHeartbeats 1000000 in
theorem w_X10_valuesIn_30 {p : Program} {l : Launch} {e : Env} {s : State} {m : MethodId} {args : Array Value} {below : List Frame} {meth : Method} {c : Code} {D : va_G} {cy : Nat → ClassId} {b : Nat} (E : CX p m c cX10_valuesIn 10 s args RX10 D cy LC) (hr : meth.sig.returnType = some .int) (hlk : meth.locks = false) {r : Int32 × ST} {rec6 : Nat → Nat → Int32 → Int32 → Nat → Int32 → Int32 → Int32 → ST → Option (Int32 × ST)} (hrec6 : ∀ (v0 : Nat) (v1 : Nat) (v2 : Int32) (v3 : Int32) (v4 : Nat) (v5 : Int32) (v6 : Int32) (v7 : Int32) (σ : ST) (H : Heap) (locs : List Loc) (ls : Array Slot), rec6 v0 v1 v2 v3 v4 v5 v6 v7 σ = some r → LC.1 v0 = 10 → LC.1 v1 = 0 → LC.1 v4 = 13 → PH D cy LC b σ s H locs → lv_has ls 10 [(0, .ref (b + v0)), (1, .ref (b + v1)), (2, .int v2), (3, .int v3), (4, .ref (b + v4)), (5, .int v5), (6, .int v6), (7, .int v7)] → W p l e (rmD 1) s m args below meth c H locs 0 0 (MQ below (QcP D cy LC b (some (.int r.1)) r.2) args s 0 0 (inP LC b)) (F0 m 6 ls [])) : ∀ (n : Nat) (v0 : Nat) (v1 : Nat) (v2 : Int32) (v3 : Int32) (v4 : Nat) (v5 : Int32) (v6 : Int32) (v7 : Int32) (v8 : Int32) (v9 : Int32) (σ : ST) (H : Heap) (locs : List Loc) (ls : Array Slot), k_X10_valuesIn_30 rec6 n v0 v1 v2 v3 v4 v5 v6 v7 v8 v9 σ = some r → LC.1 v0 = 10 → LC.1 v1 = 0 → LC.1 v4 = 13 → PH D cy LC b σ s H locs → lv_has ls 10 [(0, .ref (b + v0)), (1, .ref (b + v1)), (2, .int v2), (3, .int v3), (4, .ref (b + v4)), (5, .int v5), (6, .int v6), (7, .int v7), (8, .int v8), (9, .int v9)] → W p l e (rmD 1) s m args below meth c H locs 0 0 (MQ below (QcP D cy LC b (some (.int r.1)) r.2) args s 0 0 (inP LC b)) (F0 m 30 ls []) := by
  have hx := E.1.1
  have hb := E.1.2.1
  intro n
  induction n with
  | zero =>
    intro v0 v1 v2 v3 v4 v5 v6 v7 v8 v9 σ H locs ls hm
    cases hm
  | succ n ih =>
    intro v0 v1 v2 v3 v4 v5 v6 v7 v8 v9 σ H locs ls hm hv0 hv1 hv4 hw hl
    rw [k_X10_valuesIn_30] at hm
    refine lv_iload hx hb dX10_valuesIn_30 (lv_at hl 9 rfl) ?_
    refine lv_bipush (v := 30) hx hb dX10_valuesIn_32 (by decide) ?_
    refine lv_icmp_ge (tgt := 91) hx hb dX10_valuesIn_34 (by decide) (fun c1 => ?_) (fun c1 => ?_)
    · have hm := o_t c1 hm
      exact w_X10_valuesIn_91 E hr hlk hrec6 hm hv0 hv1 hv4 hw (lv_sub hl [0, 1, 2, 3, 4, 5, 6, 7] rfl)
    · have hm := o_f c1 hm
      refine lv_iload hx hb dX10_valuesIn_37 (lv_at hl 8 rfl) ?_
      refine lv_iload hx hb dX10_valuesIn_39 (lv_at hl 9 rfl) ?_
      refine lv_ishr hx hb dX10_valuesIn_41 ?_
      refine lv_if_eq (tgt := 91) hx hb dX10_valuesIn_42 (by decide) (fun c2 => ?_) (fun c2 => ?_)
      · have hm := o_t c2 hm
        exact w_X10_valuesIn_91 E hr hlk hrec6 hm hv0 hv1 hv4 hw (lv_sub hl [0, 1, 2, 3, 4, 5, 6, 7] rfl)
      · have hm := o_f c2 hm
        refine lv_iload hx hb dX10_valuesIn_45 (lv_at hl 8 rfl) ?_
        refine lv_iload hx hb dX10_valuesIn_47 (lv_at hl 9 rfl) ?_
        refine lv_ishr hx hb dX10_valuesIn_49 ?_
        refine lv_iconst (v := 1) hx hb dX10_valuesIn_50 (by decide) ?_
        refine lv_iand hx hb dX10_valuesIn_51 ?_
        refine lv_if_eq (tgt := 85) hx hb dX10_valuesIn_52 (by decide) (fun c3 => ?_) (fun c3 => ?_)
        · have hm := o_t c3 hm
          exact w_X10_valuesIn_85 E hr hlk ih hm hv0 hv1 hv4 hw (lv_sub hl [0, 1, 2, 3, 4, 5, 6, 7, 8, 9] rfl)
        · have hm := o_f c3 hm
          refine lv_aload hx hb dX10_valuesIn_55 (lv_at hl 4 rfl) ?_
          refine lv_iload hx hb dX10_valuesIn_57 (lv_at hl 5 rfl) ?_
          refine lv_iload hx hb dX10_valuesIn_59 (lv_at hl 6 rfl) ?_
          refine lv_iadd hx hb dX10_valuesIn_61 ?_
          refine lv_aload_n hx hb dX10_valuesIn_62 rfl (lv_at hl 0 rfl) ?_
          refine q_geta E hw fw_X10_50 rfl hv0 dX10_valuesIn_63 ?_
          refine lv_iload_n hx hb dX10_valuesIn_66 rfl (lv_at hl 3 rfl) ?_
          refine lv_sipush (v := 180) hx hb dX10_valuesIn_67 (by decide) ?_
          refine lv_imul hx hb dX10_valuesIn_70 ?_
          refine lv_iload hx hb dX10_valuesIn_71 (lv_at hl 7 rfl) ?_
          refine lv_bipush (v := 30) hx hb dX10_valuesIn_73 (by decide) ?_
          refine lv_imul hx hb dX10_valuesIn_75 ?_
          refine lv_iadd hx hb dX10_valuesIn_76 ?_
          refine lv_iload hx hb dX10_valuesIn_77 (lv_at hl 9 rfl) ?_
          refine lv_iadd hx hb dX10_valuesIn_79 ?_
          refine q_iald E hw (tC_10_8 hv0) hm dX10_valuesIn_80 (fun a4 hm => ?_)
          refine q_iast E hw hv4 hm dX10_valuesIn_81 (fun σ5 H locs hm hw => ?_)
          refine lv_iinc (v := v6 + 1) (lv' := [(6, .int (v6 + 1)), (0, .ref (b + v0)), (1, .ref (b + v1)), (2, .int v2), (3, .int v3), (4, .ref (b + v4)), (5, .int v5), (7, .int v7), (8, .int v8), (9, .int v9)]) hx hb dX10_valuesIn_82 hl (k := 6) rfl rfl (by decide) rfl (fun ls hl => ?_)
          exact w_X10_valuesIn_85 E hr hlk ih hm hv0 hv1 hv4 hw (lv_sub hl [1, 2, 3, 4, 5, 6, 0, 7, 8, 9] rfl)
def k_X10_valuesIn_6 : Nat → Nat → Nat → Int32 → Int32 → Nat → Int32 → Int32 → Int32 → ST → Option (Int32 × ST)
  | 0, _, _, _, _, _, _, _, _, _ => none
  | n + 1, v0, v1, v2, v3, v4, v5, v6, v7, σ => if (gI σ (LC.2.1 v0 0) 6) ≤ v7 then (some (v6, σ)) else ((f_X0_bitsOf v1 v2 v7 σ).bind fun u7 =>
  k_X10_valuesIn_30 (k_X10_valuesIn_6 n) FU v0 v1 v2 v3 v4 v5 v6 v7 u7.1 0 u7.2)
set_option maxRecDepth 20000 in
set_option maxHeartbeats 1000000 in
theorem w_X10_valuesIn_6 {p : Program} {l : Launch} {e : Env} {s : State} {m : MethodId} {args : Array Value} {below : List Frame} {meth : Method} {c : Code} {D : va_G} {cy : Nat → ClassId} {b : Nat} (E : CX p m c cX10_valuesIn 10 s args RX10 D cy LC) (hr : meth.sig.returnType = some .int) (hlk : meth.locks = false) {r : Int32 × ST} : ∀ (n : Nat) (v0 : Nat) (v1 : Nat) (v2 : Int32) (v3 : Int32) (v4 : Nat) (v5 : Int32) (v6 : Int32) (v7 : Int32) (σ : ST) (H : Heap) (locs : List Loc) (ls : Array Slot), k_X10_valuesIn_6 n v0 v1 v2 v3 v4 v5 v6 v7 σ = some r → LC.1 v0 = 10 → LC.1 v1 = 0 → LC.1 v4 = 13 → PH D cy LC b σ s H locs → lv_has ls 10 [(0, .ref (b + v0)), (1, .ref (b + v1)), (2, .int v2), (3, .int v3), (4, .ref (b + v4)), (5, .int v5), (6, .int v6), (7, .int v7)] → W p l e (rmD 1) s m args below meth c H locs 0 0 (MQ below (QcP D cy LC b (some (.int r.1)) r.2) args s 0 0 (inP LC b)) (F0 m 6 ls []) := by
  have hx := E.1.1
  have hb := E.1.2.1
  intro n
  induction n with
  | zero =>
    intro v0 v1 v2 v3 v4 v5 v6 v7 σ H locs ls hm
    cases hm
  | succ n ih =>
    intro v0 v1 v2 v3 v4 v5 v6 v7 σ H locs ls hm hv0 hv1 hv4 hw hl
    rw [k_X10_valuesIn_6] at hm
    refine lv_iload hx hb dX10_valuesIn_6 (lv_at hl 7 rfl) ?_
    refine lv_aload_n hx hb dX10_valuesIn_8 rfl (lv_at hl 0 rfl) ?_
    refine q_geta E hw fw_X10_12 rfl hv0 dX10_valuesIn_9 ?_
    refine q_geti E hw fw_X10_131 rfl (tC_10_0 hv0) dX10_valuesIn_12 ?_
    refine lv_icmp_ge (tgt := 97) hx hb dX10_valuesIn_15 (by decide) (fun c6 => ?_) (fun c6 => ?_)
    · have hm := o_t c6 hm
      refine lv_iload hx hb dX10_valuesIn_97 (lv_at hl 6 rfl) ?_
      exact q_iret E hr hlk hw hm dX10_valuesIn_99
    · have hm := o_f c6 hm
      refine lv_aload_n hx hb dX10_valuesIn_18 rfl (lv_at hl 1 rfl) ?_
      refine lv_iload_n hx hb dX10_valuesIn_19 rfl (lv_at hl 2 rfl) ?_
      refine lv_iload hx hb dX10_valuesIn_20 (lv_at hl 7 rfl) ?_
      refine q_cVi (κ := 0) (C := RX0) (T := TX0) (N := 2) [] E hw hm mw_X10_207 (fun u hu => c_X0_bitsOf hu hv1) rfl (by decide) hv1 rfl rfl hl.1 (Nat.le_of_ble_eq_true rfl) ⟨Nat.le_of_ble_eq_true rfl, Nat.le_of_ble_eq_true rfl⟩ dX10_valuesIn_22 (fun u7 H locs hm hw => ?_)
      refine lv_istore (lv' := [(8, .int u7.1), (0, .ref (b + v0)), (1, .ref (b + v1)), (2, .int v2), (3, .int v3), (4, .ref (b + v4)), (5, .int v5), (6, .int v6), (7, .int v7)]) hx hb dX10_valuesIn_25 hl (by decide) rfl (fun ls hl => ?_)
      refine lv_iconst (v := 0) hx hb dX10_valuesIn_27 (by decide) ?_
      refine lv_istore (lv' := [(9, .int 0), (8, .int u7.1), (0, .ref (b + v0)), (1, .ref (b + v1)), (2, .int v2), (3, .int v3), (4, .ref (b + v4)), (5, .int v5), (6, .int v6), (7, .int v7)]) hx hb dX10_valuesIn_28 hl (by decide) rfl (fun ls hl => ?_)
      exact w_X10_valuesIn_30 E hr hlk ih _ _ _ _ _ _ _ _ _ _ _ _ _ _ _ hm hv0 hv1 hv4 hw (lv_sub hl [2, 3, 4, 5, 6, 7, 8, 9, 1, 0] rfl)
def f_X10_valuesIn (v0 : Nat) (v1 : Nat) (v2 : Int32) (v3 : Int32) (v4 : Nat) (v5 : Int32) (σ : ST) : Option (Int32 × ST) :=
  k_X10_valuesIn_6 FU v0 v1 v2 v3 v4 v5 0 0 σ
set_option maxRecDepth 20000 in
set_option maxHeartbeats 1000000 in
theorem w_X10_valuesIn_0 {p : Program} {l : Launch} {e : Env} {s : State} {m : MethodId} {args : Array Value} {below : List Frame} {meth : Method} {c : Code} {D : va_G} {cy : Nat → ClassId} {b : Nat} (E : CX p m c cX10_valuesIn 10 s args RX10 D cy LC) (hr : meth.sig.returnType = some .int) (hlk : meth.locks = false) {r : Int32 × ST} {v0 : Nat} {v1 : Nat} {v2 : Int32} {v3 : Int32} {v4 : Nat} {v5 : Int32} {σ : ST} {H : Heap} {locs : List Loc} {ls : Array Slot} (hm : f_X10_valuesIn v0 v1 v2 v3 v4 v5 σ = some r) (hv0 : LC.1 v0 = 10) (hv1 : LC.1 v1 = 0) (hv4 : LC.1 v4 = 13) (hw : PH D cy LC b σ s H locs) (hl : lv_has ls 10 [(0, .ref (b + v0)), (1, .ref (b + v1)), (2, .int v2), (3, .int v3), (4, .ref (b + v4)), (5, .int v5)]) : W p l e (rmD 1) s m args below meth c H locs 0 0 (MQ below (QcP D cy LC b (some (.int r.1)) r.2) args s 0 0 (inP LC b)) (F0 m 0 ls []) := by
  have hx := E.1.1
  have hb := E.1.2.1
  unfold f_X10_valuesIn at hm
  refine lv_iconst (v := 0) hx hb dX10_valuesIn_0 (by decide) ?_
  refine lv_istore (lv' := [(6, .int 0), (0, .ref (b + v0)), (1, .ref (b + v1)), (2, .int v2), (3, .int v3), (4, .ref (b + v4)), (5, .int v5)]) hx hb dX10_valuesIn_1 hl (by decide) rfl (fun ls hl => ?_)
  refine lv_iconst (v := 0) hx hb dX10_valuesIn_3 (by decide) ?_
  refine lv_istore (lv' := [(7, .int 0), (6, .int 0), (0, .ref (b + v0)), (1, .ref (b + v1)), (2, .int v2), (3, .int v3), (4, .ref (b + v4)), (5, .int v5)]) hx hb dX10_valuesIn_4 hl (by decide) rfl (fun ls hl => ?_)
  exact w_X10_valuesIn_6 E hr hlk _ _ _ _ _ _ _ _ _ _ _ _ _ hm hv0 hv1 hv4 hw (lv_sub hl [2, 3, 4, 5, 6, 7, 1, 0] rfl)
theorem c_X10_valuesIn {l : Launch} {D : va_G} {cy : Nat → ClassId} {b : Nat} {v0 : Nat} {v1 : Nat} {v2 : Int32} {v3 : Int32} {v4 : Nat} {v5 : Int32} {σ : ST} {r : Int32 × ST} (hm : f_X10_valuesIn v0 v1 v2 v3 v4 v5 σ = some r) (hv0 : LC.1 v0 = 10) (hv1 : LC.1 v1 = 0) (hv4 : LC.1 v4 = 13) : Met l yX10_valuesIn (wU yX10_valuesIn cX10_valuesIn 10 (some .int)) (rmD 1) (PcP D cy LC b [.ref (b + v0), .ref (b + v1), .int v2, .int v3, .ref (b + v4), .int v5] σ) (QcP D cy LC b (some (.int r.1)) r.2) 0 0 (inP LC b) :=
  q_met (lv := [(0, .ref (b + v0)), (1, .ref (b + v1)), (2, .int v2), (3, .int v3), (4, .ref (b + v4)), (5, .int v5)]) LC_ok (by decide) (Nat.le_of_ble_eq_true rfl) rfl (fun _ _ _ _ _ _ _ _ _ E hr hlk hw hl => w_X10_valuesIn_0 E hr hlk hm hv0 hv1 hv4 hw hl)

def k_X10_canTake_25 (s0 : Int32) (σ : ST) : Option (Int32 × ST) :=
  (ckZ s0).bind fun z => some (z, σ)
set_option maxRecDepth 20000 in
set_option maxHeartbeats 1000000 in
theorem w_X10_canTake_25 {p : Program} {l : Launch} {e : Env} {s : State} {m : MethodId} {args : Array Value} {below : List Frame} {meth : Method} {c : Code} {D : va_G} {cy : Nat → ClassId} {b : Nat} (E : CX p m c cX10_canTake 3 s args RX10 D cy LC) (hr : meth.sig.returnType = some .boolean) (hlk : meth.locks = false) {r : Int32 × ST} {s0 : Int32} {σ : ST} {H : Heap} {locs : List Loc} {ls : Array Slot} (hm : k_X10_canTake_25 s0 σ = some r) (hw : PH D cy LC b σ s H locs) (hl : lv_has ls 3 []) : W p l e (rmD 1) s m args below meth c H locs 0 0 (MQ below (QcP D cy LC b (some (.int r.1)) r.2) args s 0 0 (inP LC b)) (F0 m 25 ls [.int s0]) := by
  have hx := E.1.1
  have hb := E.1.2.1
  unfold k_X10_canTake_25 at hm
  exact q_zret E hr hlk hw hm dX10_canTake_25
def k_X10_canTake_24 (σ : ST) : Option (Int32 × ST) :=
  k_X10_canTake_25 0 σ
set_option maxRecDepth 20000 in
set_option maxHeartbeats 1000000 in
theorem w_X10_canTake_24 {p : Program} {l : Launch} {e : Env} {s : State} {m : MethodId} {args : Array Value} {below : List Frame} {meth : Method} {c : Code} {D : va_G} {cy : Nat → ClassId} {b : Nat} (E : CX p m c cX10_canTake 3 s args RX10 D cy LC) (hr : meth.sig.returnType = some .boolean) (hlk : meth.locks = false) {r : Int32 × ST} {σ : ST} {H : Heap} {locs : List Loc} {ls : Array Slot} (hm : k_X10_canTake_24  σ = some r) (hw : PH D cy LC b σ s H locs) (hl : lv_has ls 3 []) : W p l e (rmD 1) s m args below meth c H locs 0 0 (MQ below (QcP D cy LC b (some (.int r.1)) r.2) args s 0 0 (inP LC b)) (F0 m 24 ls []) := by
  have hx := E.1.1
  have hb := E.1.2.1
  unfold k_X10_canTake_24 at hm
  refine lv_iconst (v := 0) hx hb dX10_canTake_24 (by decide) ?_
  exact w_X10_canTake_25 E hr hlk hm  hw (lv_sub hl [] rfl)
def f_X10_canTake (v0 : Nat) (v1 : Int32) (v2 : Int32) (σ : ST) : Option (Int32 × ST) :=
  (f_X7_isPlace (LC.2.1 v0 0) v1 v2 σ).bind fun u1 =>
  if u1.1 = 0 then (k_X10_canTake_24 u1.2) else ((f_X10_isUp v0 v2 u1.2).bind fun u3 =>
  if u3.1 = 0 then (k_X10_canTake_24 u3.2) else (k_X10_canTake_25 1 u3.2))
set_option maxRecDepth 20000 in
set_option maxHeartbeats 1000000 in
theorem w_X10_canTake_0 {p : Program} {l : Launch} {e : Env} {s : State} {m : MethodId} {args : Array Value} {below : List Frame} {meth : Method} {c : Code} {D : va_G} {cy : Nat → ClassId} {b : Nat} (E : CX p m c cX10_canTake 3 s args RX10 D cy LC) (hr : meth.sig.returnType = some .boolean) (hlk : meth.locks = false) {r : Int32 × ST} {v0 : Nat} {v1 : Int32} {v2 : Int32} {σ : ST} {H : Heap} {locs : List Loc} {ls : Array Slot} (hm : f_X10_canTake v0 v1 v2 σ = some r) (hv0 : LC.1 v0 = 10) (hw : PH D cy LC b σ s H locs) (hl : lv_has ls 3 [(0, .ref (b + v0)), (1, .int v1), (2, .int v2)]) : W p l e (rmD 1) s m args below meth c H locs 0 0 (MQ below (QcP D cy LC b (some (.int r.1)) r.2) args s 0 0 (inP LC b)) (F0 m 0 ls []) := by
  have hx := E.1.1
  have hb := E.1.2.1
  unfold f_X10_canTake at hm
  refine lv_aload_n hx hb dX10_canTake_0 rfl (lv_at hl 0 rfl) ?_
  refine q_geta E hw fw_X10_12 rfl hv0 dX10_canTake_1 ?_
  refine lv_iload_n hx hb dX10_canTake_4 rfl (lv_at hl 1 rfl) ?_
  refine lv_iload_n hx hb dX10_canTake_5 rfl (lv_at hl 2 rfl) ?_
  refine q_cVi (κ := 7) (C := RX7) (T := TX7) (N := 12) [] E hw hm mw_X10_125 (fun u hu => c_X7_isPlace hu (tC_10_0 hv0)) rfl (by decide) (tC_10_0 hv0) rfl rfl hl.1 (Nat.le_of_ble_eq_true rfl) ⟨Nat.le_of_ble_eq_true rfl, Nat.le_of_ble_eq_true rfl⟩ dX10_canTake_6 (fun u1 H locs hm hw => ?_)
  refine lv_if_eq (tgt := 24) hx hb dX10_canTake_9 (by decide) (fun c2 => ?_) (fun c2 => ?_)
  · have hm := o_t c2 hm
    exact w_X10_canTake_24 E hr hlk hm  hw (lv_sub hl [] rfl)
  · have hm := o_f c2 hm
    refine lv_aload_n hx hb dX10_canTake_12 rfl (lv_at hl 0 rfl) ?_
    refine lv_iload_n hx hb dX10_canTake_13 rfl (lv_at hl 2 rfl) ?_
    refine q_cVi (κ := 10) (C := RX10) (T := TX10) (N := 12) [] E hw hm mw_X10_96 (fun u hu => c_X10_isUp hu hv0) rfl (by decide) hv0 rfl rfl hl.1 (Nat.le_of_ble_eq_true rfl) ⟨Nat.le_of_ble_eq_true rfl, Nat.le_of_ble_eq_true rfl⟩ dX10_canTake_14 (fun u3 H locs hm hw => ?_)
    refine lv_if_eq (tgt := 24) hx hb dX10_canTake_17 (by decide) (fun c4 => ?_) (fun c4 => ?_)
    · have hm := o_t c4 hm
      exact w_X10_canTake_24 E hr hlk hm  hw (lv_sub hl [] rfl)
    · have hm := o_f c4 hm
      refine lv_iconst (v := 1) hx hb dX10_canTake_20 (by decide) ?_
      refine lv_goto (tgt := 25) hx hb dX10_canTake_21 (by decide) ?_
      exact w_X10_canTake_25 E hr hlk hm  hw (lv_sub hl [] rfl)
theorem c_X10_canTake {l : Launch} {D : va_G} {cy : Nat → ClassId} {b : Nat} {v0 : Nat} {v1 : Int32} {v2 : Int32} {σ : ST} {r : Int32 × ST} (hm : f_X10_canTake v0 v1 v2 σ = some r) (hv0 : LC.1 v0 = 10) : Met l yX10_canTake (wU yX10_canTake cX10_canTake 3 (some .boolean)) (rmD 1) (PcP D cy LC b [.ref (b + v0), .int v1, .int v2] σ) (QcP D cy LC b (some (.int r.1)) r.2) 0 0 (inP LC b) :=
  q_met (lv := [(0, .ref (b + v0)), (1, .int v1), (2, .int v2)]) LC_ok (by decide) (Nat.le_of_ble_eq_true rfl) rfl (fun _ _ _ _ _ _ _ _ _ E hr hlk hw hl => w_X10_canTake_0 E hr hlk hm hv0 hw hl)

def k_X10_nextWatcher_3 : Nat → Nat → Int32 → Int32 → Int32 → ST → Option (Int32 × ST)
  | 0, _, _, _, _, _ => none
  | n + 1, v0, v1, v2, v4, σ => if (gI σ (LC.2.1 v0 0) 6) ≤ v4 then (some (gI σ (LC.2.1 v0 0) 6, σ)) else ((f_X7_keeperAlong (LC.2.1 v0 0) v1 v4 σ).bind fun u2 =>
  (f_X10_reaches v0 v2 u2.1 u2.2).bind fun u3 =>
  if u3.1 = 0 then (k_X10_nextWatcher_3 n v0 v1 v2 (v4 + 1) u3.2) else (some (v4, u3.2)))
set_option maxRecDepth 20000 in
set_option maxHeartbeats 1000000 in
theorem w_X10_nextWatcher_3 {p : Program} {l : Launch} {e : Env} {s : State} {m : MethodId} {args : Array Value} {below : List Frame} {meth : Method} {c : Code} {D : va_G} {cy : Nat → ClassId} {b : Nat} (E : CX p m c cX10_nextWatcher 5 s args RX10 D cy LC) (hr : meth.sig.returnType = some .int) (hlk : meth.locks = false) {r : Int32 × ST} : ∀ (n : Nat) (v0 : Nat) (v1 : Int32) (v2 : Int32) (v4 : Int32) (σ : ST) (H : Heap) (locs : List Loc) (ls : Array Slot), k_X10_nextWatcher_3 n v0 v1 v2 v4 σ = some r → LC.1 v0 = 10 → PH D cy LC b σ s H locs → lv_has ls 5 [(0, .ref (b + v0)), (1, .int v1), (2, .int v2), (4, .int v4)] → W p l e (rmD 2) s m args below meth c H locs 0 0 (MQ below (QcP D cy LC b (some (.int r.1)) r.2) args s 0 0 (inP LC b)) (F0 m 3 ls []) := by
  have hx := E.1.1
  have hb := E.1.2.1
  intro n
  induction n with
  | zero =>
    intro v0 v1 v2 v4 σ H locs ls hm
    cases hm
  | succ n ih =>
    intro v0 v1 v2 v4 σ H locs ls hm hv0 hw hl
    rw [k_X10_nextWatcher_3] at hm
    refine lv_iload hx hb dX10_nextWatcher_3 (lv_at hl 3 rfl) ?_
    refine lv_aload_n hx hb dX10_nextWatcher_5 rfl (lv_at hl 0 rfl) ?_
    refine q_geta E hw fw_X10_12 rfl hv0 dX10_nextWatcher_6 ?_
    refine q_geti E hw fw_X10_131 rfl (tC_10_0 hv0) dX10_nextWatcher_9 ?_
    refine lv_icmp_ge (tgt := 42) hx hb dX10_nextWatcher_12 (by decide) (fun c1 => ?_) (fun c1 => ?_)
    · have hm := o_t c1 hm
      refine lv_aload_n hx hb dX10_nextWatcher_42 rfl (lv_at hl 0 rfl) ?_
      refine q_geta E hw fw_X10_12 rfl hv0 dX10_nextWatcher_43 ?_
      refine q_geti E hw fw_X10_131 rfl (tC_10_0 hv0) dX10_nextWatcher_46 ?_
      exact q_iret E hr hlk hw hm dX10_nextWatcher_49
    · have hm := o_f c1 hm
      refine lv_aload_n hx hb dX10_nextWatcher_15 rfl (lv_at hl 0 rfl) ?_
      refine lv_iload_n hx hb dX10_nextWatcher_16 rfl (lv_at hl 2 rfl) ?_
      refine lv_aload_n hx hb dX10_nextWatcher_17 rfl (lv_at hl 0 rfl) ?_
      refine q_geta E hw fw_X10_12 rfl hv0 dX10_nextWatcher_18 ?_
      refine lv_iload_n hx hb dX10_nextWatcher_21 rfl (lv_at hl 1 rfl) ?_
      refine lv_iload hx hb dX10_nextWatcher_22 (lv_at hl 3 rfl) ?_
      refine q_cVi (κ := 7) (C := RX7) (T := TX7) (N := 12) [.int v2, .ref (b + v0)] E hw hm mw_X10_139 (fun u hu => c_X7_keeperAlong hu (tC_10_0 hv0)) rfl (by decide) (tC_10_0 hv0) rfl rfl hl.1 (Nat.le_of_ble_eq_true rfl) ⟨Nat.le_of_ble_eq_true rfl, Nat.le_of_ble_eq_true rfl⟩ dX10_nextWatcher_24 (fun u2 H locs hm hw => ?_)
      refine q_cVi (κ := 10) (C := RX10) (T := TX10) (N := 12) [] E hw hm mw_X10_142 (fun u hu => c_X10_reaches hu hv0) rfl (by decide) hv0 rfl rfl hl.1 (Nat.le_of_ble_eq_true rfl) ⟨Nat.le_of_ble_eq_true rfl, Nat.le_of_ble_eq_true rfl⟩ dX10_nextWatcher_27 (fun u3 H locs hm hw => ?_)
      refine lv_if_eq (tgt := 36) hx hb dX10_nextWatcher_30 (by decide) (fun c4 => ?_) (fun c4 => ?_)
      · have hm := o_t c4 hm
        refine lv_iinc (v := v4 + 1) (lv' := [(4, .int (v4 + 1)), (0, .ref (b + v0)), (1, .int v1), (2, .int v2)]) hx hb dX10_nextWatcher_36 hl (k := 3) rfl rfl (by decide) rfl (fun ls hl => ?_)
        refine lv_goto (tgt := 3) hx hb dX10_nextWatcher_39 (by decide) ?_
        exact ih _ _ _ _ _ _ _ _ hm hv0 hw (lv_sub hl [1, 2, 3, 0] rfl)
      · have hm := o_f c4 hm
        refine lv_iload hx hb dX10_nextWatcher_33 (lv_at hl 3 rfl) ?_
        exact q_iret E hr hlk hw hm dX10_nextWatcher_35
def f_X10_nextWatcher (v0 : Nat) (v1 : Int32) (v2 : Int32) (v3 : Int32) (σ : ST) : Option (Int32 × ST) :=
  k_X10_nextWatcher_3 FU v0 v1 v2 v3 σ
set_option maxRecDepth 20000 in
set_option maxHeartbeats 1000000 in
theorem w_X10_nextWatcher_0 {p : Program} {l : Launch} {e : Env} {s : State} {m : MethodId} {args : Array Value} {below : List Frame} {meth : Method} {c : Code} {D : va_G} {cy : Nat → ClassId} {b : Nat} (E : CX p m c cX10_nextWatcher 5 s args RX10 D cy LC) (hr : meth.sig.returnType = some .int) (hlk : meth.locks = false) {r : Int32 × ST} {v0 : Nat} {v1 : Int32} {v2 : Int32} {v3 : Int32} {σ : ST} {H : Heap} {locs : List Loc} {ls : Array Slot} (hm : f_X10_nextWatcher v0 v1 v2 v3 σ = some r) (hv0 : LC.1 v0 = 10) (hw : PH D cy LC b σ s H locs) (hl : lv_has ls 5 [(0, .ref (b + v0)), (1, .int v1), (2, .int v2), (3, .int v3)]) : W p l e (rmD 2) s m args below meth c H locs 0 0 (MQ below (QcP D cy LC b (some (.int r.1)) r.2) args s 0 0 (inP LC b)) (F0 m 0 ls []) := by
  have hx := E.1.1
  have hb := E.1.2.1
  unfold f_X10_nextWatcher at hm
  refine lv_iload_n hx hb dX10_nextWatcher_0 rfl (lv_at hl 3 rfl) ?_
  refine lv_istore (lv' := [(4, .int v3), (0, .ref (b + v0)), (1, .int v1), (2, .int v2), (3, .int v3)]) hx hb dX10_nextWatcher_1 hl (by decide) rfl (fun ls hl => ?_)
  exact w_X10_nextWatcher_3 E hr hlk _ _ _ _ _ _ _ _ _ hm hv0 hw (lv_sub hl [1, 2, 3, 0] rfl)
theorem c_X10_nextWatcher {l : Launch} {D : va_G} {cy : Nat → ClassId} {b : Nat} {v0 : Nat} {v1 : Int32} {v2 : Int32} {v3 : Int32} {σ : ST} {r : Int32 × ST} (hm : f_X10_nextWatcher v0 v1 v2 v3 σ = some r) (hv0 : LC.1 v0 = 10) : Met l yX10_nextWatcher (wU yX10_nextWatcher cX10_nextWatcher 5 (some .int)) (rmD 2) (PcP D cy LC b [.ref (b + v0), .int v1, .int v2, .int v3] σ) (QcP D cy LC b (some (.int r.1)) r.2) 0 0 (inP LC b) :=
  q_met (lv := [(0, .ref (b + v0)), (1, .int v1), (2, .int v2), (3, .int v3)]) LC_ok (by decide) (Nat.le_of_ble_eq_true rfl) rfl (fun _ _ _ _ _ _ _ _ _ E hr hlk hw hl => w_X10_nextWatcher_0 E hr hlk hm hv0 hw hl)

def f_X10_takeHint (v0 : Nat) (v1 : Int32) (v2 : Int32) (v3 : Int32) (v4 : Int32) (σ : ST) : Option (ST) :=
  (ldA LC σ (LC.2.1 v0 4) ((v1 * 6) + v2)).bind fun a1 =>
  (stA LC σ (LC.2.1 v0 4) ((v1 * 6) + v2) (a1 ||| (1 <<< (v3 &&& 31)))).bind fun σ2 =>
  (f_X0_join (LC.2.1 v0 3) ((((v1 * 6) + v2) * 6) + v3) (LC.2.1 v0 2) v4 σ2).bind fun u3 =>
  some u3
set_option maxRecDepth 20000 in
set_option maxHeartbeats 1000000 in
theorem w_X10_takeHint_0 {p : Program} {l : Launch} {e : Env} {s : State} {m : MethodId} {args : Array Value} {below : List Frame} {meth : Method} {c : Code} {D : va_G} {cy : Nat → ClassId} {b : Nat} (E : CX p m c cX10_takeHint 6 s args RX10 D cy LC) (hr : meth.sig.returnType = none) (hlk : meth.locks = false) {r : ST} {v0 : Nat} {v1 : Int32} {v2 : Int32} {v3 : Int32} {v4 : Int32} {σ : ST} {H : Heap} {locs : List Loc} {ls : Array Slot} (hm : f_X10_takeHint v0 v1 v2 v3 v4 σ = some r) (hv0 : LC.1 v0 = 10) (hw : PH D cy LC b σ s H locs) (hl : lv_has ls 6 [(0, .ref (b + v0)), (1, .int v1), (2, .int v2), (3, .int v3), (4, .int v4)]) : W p l e (rmD 2) s m args below meth c H locs 0 0 (MQ below (QcP D cy LC b none r) args s 0 0 (inP LC b)) (F0 m 0 ls []) := by
  have hx := E.1.1
  have hb := E.1.2.1
  unfold f_X10_takeHint at hm
  refine lv_iload_n hx hb dX10_takeHint_0 rfl (lv_at hl 1 rfl) ?_
  refine lv_bipush (v := 6) hx hb dX10_takeHint_1 (by decide) ?_
  refine lv_imul hx hb dX10_takeHint_3 ?_
  refine lv_iload_n hx hb dX10_takeHint_4 rfl (lv_at hl 2 rfl) ?_
  refine lv_iadd hx hb dX10_takeHint_5 ?_
  refine lv_istore (lv' := [(5, .int ((v1 * 6) + v2)), (0, .ref (b + v0)), (1, .int v1), (2, .int v2), (3, .int v3), (4, .int v4)]) hx hb dX10_takeHint_6 hl (by decide) rfl (fun ls hl => ?_)
  refine lv_aload_n hx hb dX10_takeHint_8 rfl (lv_at hl 1 rfl) ?_
  refine q_geta E hw fw_X10_37 rfl hv0 dX10_takeHint_9 ?_
  refine lv_iload hx hb dX10_takeHint_12 (lv_at hl 0 rfl) ?_
  refine lv_dup2_11 hx hb dX10_takeHint_14 rfl rfl ?_
  refine q_iald E hw (tC_10_4 hv0) hm dX10_takeHint_15 (fun a1 hm => ?_)
  refine lv_iconst (v := 1) hx hb dX10_takeHint_16 (by decide) ?_
  refine lv_iload_n hx hb dX10_takeHint_17 rfl (lv_at hl 4 rfl) ?_
  refine lv_ishl hx hb dX10_takeHint_18 ?_
  refine lv_ior hx hb dX10_takeHint_19 ?_
  refine q_iast E hw (tC_10_4 hv0) hm dX10_takeHint_20 (fun σ2 H locs hm hw => ?_)
  refine lv_aload_n hx hb dX10_takeHint_21 rfl (lv_at hl 1 rfl) ?_
  refine q_geta E hw fw_X10_34 rfl hv0 dX10_takeHint_22 ?_
  refine lv_iload hx hb dX10_takeHint_25 (lv_at hl 0 rfl) ?_
  refine lv_bipush (v := 6) hx hb dX10_takeHint_27 (by decide) ?_
  refine lv_imul hx hb dX10_takeHint_29 ?_
  refine lv_iload_n hx hb dX10_takeHint_30 rfl (lv_at hl 4 rfl) ?_
  refine lv_iadd hx hb dX10_takeHint_31 ?_
  refine lv_aload_n hx hb dX10_takeHint_32 rfl (lv_at hl 1 rfl) ?_
  refine q_geta E hw fw_X10_30 rfl hv0 dX10_takeHint_33 ?_
  refine lv_iload hx hb dX10_takeHint_36 (lv_at hl 5 rfl) ?_
  refine q_cVv (κ := 0) (C := RX0) (T := TX0) (N := 2) [] E hw hm mw_X10_111 (fun u hu => c_X0_join hu (tC_10_3 hv0) (tC_10_2 hv0)) rfl (by decide) (tC_10_3 hv0) rfl rfl hl.1 (Nat.le_of_ble_eq_true rfl) ⟨Nat.le_of_ble_eq_true rfl, Nat.le_of_ble_eq_true rfl⟩ dX10_takeHint_38 (fun u3 H locs hm hw => ?_)
  exact q_vret E hr hlk hw hm dX10_takeHint_41
theorem c_X10_takeHint {l : Launch} {D : va_G} {cy : Nat → ClassId} {b : Nat} {v0 : Nat} {v1 : Int32} {v2 : Int32} {v3 : Int32} {v4 : Int32} {σ : ST} {r : ST} (hm : f_X10_takeHint v0 v1 v2 v3 v4 σ = some r) (hv0 : LC.1 v0 = 10) : Met l yX10_takeHint (wU yX10_takeHint cX10_takeHint 6 (none)) (rmD 2) (PcP D cy LC b [.ref (b + v0), .int v1, .int v2, .int v3, .int v4] σ) (QcP D cy LC b none r) 0 0 (inP LC b) :=
  q_met (lv := [(0, .ref (b + v0)), (1, .int v1), (2, .int v2), (3, .int v3), (4, .int v4)]) LC_ok (by decide) (Nat.le_of_ble_eq_true rfl) rfl (fun _ _ _ _ _ _ _ _ _ E hr hlk hw hl => w_X10_takeHint_0 E hr hlk hm hv0 hw hl)

def k_X10_giveOut_146 (rec35 : Nat → Int32 → Int32 → Int32 → Int32 → Int32 → Int32 → Int32 → ST → Option (Int32 × ST)) (v0 : Nat) (v1 : Int32) (v2 : Int32) (v3 : Int32) (v4 : Int32) (v5 : Int32) (v6 : Int32) (v7 : Int32) (σ : ST) : Option (Int32 × ST) :=
  rec35 v0 v1 v2 v3 v4 v5 v6 (v7 + 1) σ
set_option maxRecDepth 20000 in
set_option maxHeartbeats 1000000 in
theorem w_X10_giveOut_146 {p : Program} {l : Launch} {e : Env} {s : State} {m : MethodId} {args : Array Value} {below : List Frame} {meth : Method} {c : Code} {D : va_G} {cy : Nat → ClassId} {b : Nat} (E : CX p m c cX10_giveOut 9 s args RX10 D cy LC) (hr : meth.sig.returnType = some .int) (hlk : meth.locks = false) {r : Int32 × ST} {rec35 : Nat → Int32 → Int32 → Int32 → Int32 → Int32 → Int32 → Int32 → ST → Option (Int32 × ST)} (hrec35 : ∀ (v0 : Nat) (v1 : Int32) (v2 : Int32) (v3 : Int32) (v4 : Int32) (v5 : Int32) (v6 : Int32) (v7 : Int32) (σ : ST) (H : Heap) (locs : List Loc) (ls : Array Slot), rec35 v0 v1 v2 v3 v4 v5 v6 v7 σ = some r → LC.1 v0 = 10 → PH D cy LC b σ s H locs → lv_has ls 9 [(0, .ref (b + v0)), (1, .int v1), (2, .int v2), (3, .int v3), (4, .int v4), (5, .int v5), (6, .int v6), (7, .int v7)] → W p l e (rmD 3) s m args below meth c H locs 0 0 (MQ below (QcP D cy LC b (some (.int r.1)) r.2) args s 0 0 (inP LC b)) (F0 m 35 ls [])) {v0 : Nat} {v1 : Int32} {v2 : Int32} {v3 : Int32} {v4 : Int32} {v5 : Int32} {v6 : Int32} {v7 : Int32} {σ : ST} {H : Heap} {locs : List Loc} {ls : Array Slot} (hm : k_X10_giveOut_146 rec35 v0 v1 v2 v3 v4 v5 v6 v7 σ = some r) (hv0 : LC.1 v0 = 10) (hw : PH D cy LC b σ s H locs) (hl : lv_has ls 9 [(0, .ref (b + v0)), (1, .int v1), (2, .int v2), (3, .int v3), (4, .int v4), (5, .int v5), (6, .int v6), (7, .int v7)]) : W p l e (rmD 3) s m args below meth c H locs 0 0 (MQ below (QcP D cy LC b (some (.int r.1)) r.2) args s 0 0 (inP LC b)) (F0 m 146 ls []) := by
  have hx := E.1.1
  have hb := E.1.2.1
  unfold k_X10_giveOut_146 at hm
  refine lv_iinc (v := v7 + 1) (lv' := [(7, .int (v7 + 1)), (0, .ref (b + v0)), (1, .int v1), (2, .int v2), (3, .int v3), (4, .int v4), (5, .int v5), (6, .int v6)]) hx hb dX10_giveOut_146 hl (k := 7) rfl rfl (by decide) rfl (fun ls hl => ?_)
  refine lv_goto (tgt := 35) hx hb dX10_giveOut_149 (by decide) ?_
  exact hrec35 _ _ _ _ _ _ _ _ _ _ _ _ hm hv0 hw (lv_sub hl [1, 2, 3, 4, 5, 6, 7, 0] rfl)
def k_X10_giveOut_94 (rec35 : Nat → Int32 → Int32 → Int32 → Int32 → Int32 → Int32 → Int32 → ST → Option (Int32 × ST)) (v0 : Nat) (v1 : Int32) (v2 : Int32) (v3 : Int32) (v4 : Int32) (v5 : Int32) (v6 : Int32) (v7 : Int32) (v8 : Int32) (σ : ST) : Option (Int32 × ST) :=
  if v8 = v2 then (k_X10_giveOut_146 rec35 v0 v1 v2 v3 v4 v5 v6 v7 σ) else ((f_X10_nextWatcher v0 v1 v2 v5 σ).bind fun u2 =>
  if (gI u2.2 (LC.2.1 v0 0) 6) ≤ u2.1 then (k_X10_giveOut_146 rec35 v0 v1 v2 v3 v4 u2.1 v6 v7 u2.2) else ((f_X7_keeperAlong (LC.2.1 v0 0) v1 u2.1 u2.2).bind fun u4 =>
  (f_X10_takeHint v0 u4.1 v8 v1 v3 u4.2).bind fun u5 =>
  k_X10_giveOut_146 rec35 v0 v1 v2 v3 v4 (u2.1 + 1) (v6 + 1) v7 u5))
set_option maxRecDepth 20000 in
set_option maxHeartbeats 1000000 in
theorem w_X10_giveOut_94 {p : Program} {l : Launch} {e : Env} {s : State} {m : MethodId} {args : Array Value} {below : List Frame} {meth : Method} {c : Code} {D : va_G} {cy : Nat → ClassId} {b : Nat} (E : CX p m c cX10_giveOut 9 s args RX10 D cy LC) (hr : meth.sig.returnType = some .int) (hlk : meth.locks = false) {r : Int32 × ST} {rec35 : Nat → Int32 → Int32 → Int32 → Int32 → Int32 → Int32 → Int32 → ST → Option (Int32 × ST)} (hrec35 : ∀ (v0 : Nat) (v1 : Int32) (v2 : Int32) (v3 : Int32) (v4 : Int32) (v5 : Int32) (v6 : Int32) (v7 : Int32) (σ : ST) (H : Heap) (locs : List Loc) (ls : Array Slot), rec35 v0 v1 v2 v3 v4 v5 v6 v7 σ = some r → LC.1 v0 = 10 → PH D cy LC b σ s H locs → lv_has ls 9 [(0, .ref (b + v0)), (1, .int v1), (2, .int v2), (3, .int v3), (4, .int v4), (5, .int v5), (6, .int v6), (7, .int v7)] → W p l e (rmD 3) s m args below meth c H locs 0 0 (MQ below (QcP D cy LC b (some (.int r.1)) r.2) args s 0 0 (inP LC b)) (F0 m 35 ls [])) {v0 : Nat} {v1 : Int32} {v2 : Int32} {v3 : Int32} {v4 : Int32} {v5 : Int32} {v6 : Int32} {v7 : Int32} {v8 : Int32} {σ : ST} {H : Heap} {locs : List Loc} {ls : Array Slot} (hm : k_X10_giveOut_94 rec35 v0 v1 v2 v3 v4 v5 v6 v7 v8 σ = some r) (hv0 : LC.1 v0 = 10) (hw : PH D cy LC b σ s H locs) (hl : lv_has ls 9 [(0, .ref (b + v0)), (1, .int v1), (2, .int v2), (3, .int v3), (4, .int v4), (5, .int v5), (6, .int v6), (7, .int v7), (8, .int v8)]) : W p l e (rmD 3) s m args below meth c H locs 0 0 (MQ below (QcP D cy LC b (some (.int r.1)) r.2) args s 0 0 (inP LC b)) (F0 m 94 ls []) := by
  have hx := E.1.1
  have hb := E.1.2.1
  unfold k_X10_giveOut_94 at hm
  refine lv_iload hx hb dX10_giveOut_94 (lv_at hl 8 rfl) ?_
  refine lv_iload_n hx hb dX10_giveOut_96 rfl (lv_at hl 2 rfl) ?_
  refine lv_icmp_eq (tgt := 146) hx hb dX10_giveOut_97 (by decide) (fun c1 => ?_) (fun c1 => ?_)
  · have hm := o_t c1 hm
    exact w_X10_giveOut_146 E hr hlk hrec35 hm hv0 hw (lv_sub hl [0, 1, 2, 3, 4, 5, 6, 7] rfl)
  · have hm := o_f c1 hm
    refine lv_aload_n hx hb dX10_giveOut_100 rfl (lv_at hl 0 rfl) ?_
    refine lv_iload_n hx hb dX10_giveOut_101 rfl (lv_at hl 1 rfl) ?_
    refine lv_iload_n hx hb dX10_giveOut_102 rfl (lv_at hl 2 rfl) ?_
    refine lv_iload hx hb dX10_giveOut_103 (lv_at hl 5 rfl) ?_
    refine q_cVi (κ := 10) (C := RX10) (T := TX10) (N := 12) [] E hw hm mw_X10_145 (fun u hu => c_X10_nextWatcher hu hv0) rfl (by decide) hv0 rfl rfl hl.1 (Nat.le_of_ble_eq_true rfl) ⟨Nat.le_of_ble_eq_true rfl, Nat.le_of_ble_eq_true rfl⟩ dX10_giveOut_105 (fun u2 H locs hm hw => ?_)
    refine lv_istore (lv' := [(5, .int u2.1), (0, .ref (b + v0)), (1, .int v1), (2, .int v2), (3, .int v3), (4, .int v4), (6, .int v6), (7, .int v7), (8, .int v8)]) hx hb dX10_giveOut_108 hl (by decide) rfl (fun ls hl => ?_)
    refine lv_iload hx hb dX10_giveOut_110 (lv_at hl 0 rfl) ?_
    refine lv_aload_n hx hb dX10_giveOut_112 rfl (lv_at hl 1 rfl) ?_
    refine q_geta E hw fw_X10_12 rfl hv0 dX10_giveOut_113 ?_
    refine q_geti E hw fw_X10_131 rfl (tC_10_0 hv0) dX10_giveOut_116 ?_
    refine lv_icmp_ge (tgt := 146) hx hb dX10_giveOut_119 (by decide) (fun c3 => ?_) (fun c3 => ?_)
    · have hm := o_t c3 hm
      exact w_X10_giveOut_146 E hr hlk hrec35 hm hv0 hw (lv_sub hl [1, 2, 3, 4, 5, 0, 6, 7] rfl)
    · have hm := o_f c3 hm
      refine lv_aload_n hx hb dX10_giveOut_122 rfl (lv_at hl 1 rfl) ?_
      refine lv_aload_n hx hb dX10_giveOut_123 rfl (lv_at hl 1 rfl) ?_
      refine q_geta E hw fw_X10_12 rfl hv0 dX10_giveOut_124 ?_
      refine lv_iload_n hx hb dX10_giveOut_127 rfl (lv_at hl 2 rfl) ?_
      refine lv_iload hx hb dX10_giveOut_128 (lv_at hl 0 rfl) ?_
      refine q_cVi (κ := 7) (C := RX7) (T := TX7) (N := 12) [.ref (b + v0)] E hw hm mw_X10_139 (fun u hu => c_X7_keeperAlong hu (tC_10_0 hv0)) rfl (by decide) (tC_10_0 hv0) rfl rfl hl.1 (Nat.le_of_ble_eq_true rfl) ⟨Nat.le_of_ble_eq_true rfl, Nat.le_of_ble_eq_true rfl⟩ dX10_giveOut_130 (fun u4 H locs hm hw => ?_)
      refine lv_iload hx hb dX10_giveOut_133 (lv_at hl 8 rfl) ?_
      refine lv_iload_n hx hb dX10_giveOut_135 rfl (lv_at hl 2 rfl) ?_
      refine lv_iload_n hx hb dX10_giveOut_136 rfl (lv_at hl 4 rfl) ?_
      refine q_cVv (κ := 10) (C := RX10) (T := TX10) (N := 12) [] E hw hm mw_X10_149 (fun u hu => c_X10_takeHint hu hv0) rfl (by decide) hv0 rfl rfl hl.1 (Nat.le_of_ble_eq_true rfl) ⟨Nat.le_of_ble_eq_true rfl, Nat.le_of_ble_eq_true rfl⟩ dX10_giveOut_137 (fun u5 H locs hm hw => ?_)
      refine lv_iinc (v := v6 + 1) (lv' := [(6, .int (v6 + 1)), (5, .int u2.1), (0, .ref (b + v0)), (1, .int v1), (2, .int v2), (3, .int v3), (4, .int v4), (7, .int v7), (8, .int v8)]) hx hb dX10_giveOut_140 hl (k := 6) rfl rfl (by decide) rfl (fun ls hl => ?_)
      refine lv_iinc (v := u2.1 + 1) (lv' := [(5, .int (u2.1 + 1)), (6, .int (v6 + 1)), (0, .ref (b + v0)), (1, .int v1), (2, .int v2), (3, .int v3), (4, .int v4), (7, .int v7), (8, .int v8)]) hx hb dX10_giveOut_143 hl (k := 1) rfl rfl (by decide) rfl (fun ls hl => ?_)
      exact w_X10_giveOut_146 E hr hlk hrec35 hm hv0 hw (lv_sub hl [2, 3, 4, 5, 6, 0, 1, 7] rfl)
def k_X10_giveOut_35 : Nat → Nat → Int32 → Int32 → Int32 → Int32 → Int32 → Int32 → Int32 → ST → Option (Int32 × ST)
  | 0, _, _, _, _, _, _, _, _, _ => none
  | n + 1, v0, v1, v2, v3, v4, v5, v6, v7, σ => if v4 ≤ v7 then (some (v6, σ)) else ((f_X7_keeperAlong (LC.2.1 v0 0) v1 v7 σ).bind fun u7 =>
  if u7.1 = v2 then (k_X10_giveOut_94 (k_X10_giveOut_35 n) v0 v1 v2 v3 v4 v5 v6 v7 u7.1 u7.2) else ((f_X10_reaches v0 v2 u7.1 u7.2).bind fun u9 =>
  if u9.1 = 0 then (k_X10_giveOut_94 (k_X10_giveOut_35 n) v0 v1 v2 v3 v4 v5 v6 v7 u7.1 u9.2) else ((f_X10_cellOf u7.1 v1 u9.2).bind fun u11 =>
  (f_X0_join (LC.2.1 v0 2) u11.1 (LC.2.1 v0 2) v3 u11.2).bind fun u12 =>
  k_X10_giveOut_146 (k_X10_giveOut_35 n) v0 v1 v2 v3 v4 v5 (v6 + 1) v7 u12)))
set_option maxRecDepth 20000 in
set_option maxHeartbeats 1000000 in
theorem w_X10_giveOut_35 {p : Program} {l : Launch} {e : Env} {s : State} {m : MethodId} {args : Array Value} {below : List Frame} {meth : Method} {c : Code} {D : va_G} {cy : Nat → ClassId} {b : Nat} (E : CX p m c cX10_giveOut 9 s args RX10 D cy LC) (hr : meth.sig.returnType = some .int) (hlk : meth.locks = false) {r : Int32 × ST} : ∀ (n : Nat) (v0 : Nat) (v1 : Int32) (v2 : Int32) (v3 : Int32) (v4 : Int32) (v5 : Int32) (v6 : Int32) (v7 : Int32) (σ : ST) (H : Heap) (locs : List Loc) (ls : Array Slot), k_X10_giveOut_35 n v0 v1 v2 v3 v4 v5 v6 v7 σ = some r → LC.1 v0 = 10 → PH D cy LC b σ s H locs → lv_has ls 9 [(0, .ref (b + v0)), (1, .int v1), (2, .int v2), (3, .int v3), (4, .int v4), (5, .int v5), (6, .int v6), (7, .int v7)] → W p l e (rmD 3) s m args below meth c H locs 0 0 (MQ below (QcP D cy LC b (some (.int r.1)) r.2) args s 0 0 (inP LC b)) (F0 m 35 ls []) := by
  have hx := E.1.1
  have hb := E.1.2.1
  intro n
  induction n with
  | zero =>
    intro v0 v1 v2 v3 v4 v5 v6 v7 σ H locs ls hm
    cases hm
  | succ n ih =>
    intro v0 v1 v2 v3 v4 v5 v6 v7 σ H locs ls hm hv0 hw hl
    rw [k_X10_giveOut_35] at hm
    refine lv_iload hx hb dX10_giveOut_35 (lv_at hl 7 rfl) ?_
    refine lv_iload hx hb dX10_giveOut_37 (lv_at hl 4 rfl) ?_
    refine lv_icmp_ge (tgt := 152) hx hb dX10_giveOut_39 (by decide) (fun c6 => ?_) (fun c6 => ?_)
    · have hm := o_t c6 hm
      refine lv_iload hx hb dX10_giveOut_152 (lv_at hl 6 rfl) ?_
      exact q_iret E hr hlk hw hm dX10_giveOut_154
    · have hm := o_f c6 hm
      refine lv_aload_n hx hb dX10_giveOut_42 rfl (lv_at hl 0 rfl) ?_
      refine q_geta E hw fw_X10_12 rfl hv0 dX10_giveOut_43 ?_
      refine lv_iload_n hx hb dX10_giveOut_46 rfl (lv_at hl 1 rfl) ?_
      refine lv_iload hx hb dX10_giveOut_47 (lv_at hl 7 rfl) ?_
      refine q_cVi (κ := 7) (C := RX7) (T := TX7) (N := 12) [] E hw hm mw_X10_139 (fun u hu => c_X7_keeperAlong hu (tC_10_0 hv0)) rfl (by decide) (tC_10_0 hv0) rfl rfl hl.1 (Nat.le_of_ble_eq_true rfl) ⟨Nat.le_of_ble_eq_true rfl, Nat.le_of_ble_eq_true rfl⟩ dX10_giveOut_49 (fun u7 H locs hm hw => ?_)
      refine lv_istore (lv' := [(8, .int u7.1), (0, .ref (b + v0)), (1, .int v1), (2, .int v2), (3, .int v3), (4, .int v4), (5, .int v5), (6, .int v6), (7, .int v7)]) hx hb dX10_giveOut_52 hl (by decide) rfl (fun ls hl => ?_)
      refine lv_iload hx hb dX10_giveOut_54 (lv_at hl 0 rfl) ?_
      refine lv_iload_n hx hb dX10_giveOut_56 rfl (lv_at hl 3 rfl) ?_
      refine lv_icmp_eq (tgt := 94) hx hb dX10_giveOut_57 (by decide) (fun c8 => ?_) (fun c8 => ?_)
      · have hm := o_t c8 hm
        exact w_X10_giveOut_94 E hr hlk ih hm hv0 hw (lv_sub hl [1, 2, 3, 4, 5, 6, 7, 8, 0] rfl)
      · have hm := o_f c8 hm
        refine lv_aload_n hx hb dX10_giveOut_60 rfl (lv_at hl 1 rfl) ?_
        refine lv_iload_n hx hb dX10_giveOut_61 rfl (lv_at hl 3 rfl) ?_
        refine lv_iload hx hb dX10_giveOut_62 (lv_at hl 0 rfl) ?_
        refine q_cVi (κ := 10) (C := RX10) (T := TX10) (N := 12) [] E hw hm mw_X10_142 (fun u hu => c_X10_reaches hu hv0) rfl (by decide) hv0 rfl rfl hl.1 (Nat.le_of_ble_eq_true rfl) ⟨Nat.le_of_ble_eq_true rfl, Nat.le_of_ble_eq_true rfl⟩ dX10_giveOut_64 (fun u9 H locs hm hw => ?_)
        refine lv_if_eq (tgt := 94) hx hb dX10_giveOut_67 (by decide) (fun c10 => ?_) (fun c10 => ?_)
        · have hm := o_t c10 hm
          exact w_X10_giveOut_94 E hr hlk ih hm hv0 hw (lv_sub hl [1, 2, 3, 4, 5, 6, 7, 8, 0] rfl)
        · have hm := o_f c10 hm
          refine lv_aload_n hx hb dX10_giveOut_70 rfl (lv_at hl 1 rfl) ?_
          refine q_geta E hw fw_X10_30 rfl hv0 dX10_giveOut_71 ?_
          refine lv_iload hx hb dX10_giveOut_74 (lv_at hl 0 rfl) ?_
          refine lv_iload_n hx hb dX10_giveOut_76 rfl (lv_at hl 2 rfl) ?_
          refine q_cSi [.ref (b + (LC.2.1 v0 2))] E hw hm ms_X10_100 (fun u hu => c_X10_cellOf hu ) rfl rfl hl.1 (Nat.le_of_ble_eq_true rfl) ⟨Nat.le_of_ble_eq_true rfl, Nat.le_of_ble_eq_true rfl⟩ dX10_giveOut_77 (fun u11 H locs hm hw => ?_)
          refine lv_aload_n hx hb dX10_giveOut_80 rfl (lv_at hl 1 rfl) ?_
          refine q_geta E hw fw_X10_30 rfl hv0 dX10_giveOut_81 ?_
          refine lv_iload_n hx hb dX10_giveOut_84 rfl (lv_at hl 4 rfl) ?_
          refine q_cVv (κ := 0) (C := RX0) (T := TX0) (N := 2) [] E hw hm mw_X10_111 (fun u hu => c_X0_join hu (tC_10_2 hv0) (tC_10_2 hv0)) rfl (by decide) (tC_10_2 hv0) rfl rfl hl.1 (Nat.le_of_ble_eq_true rfl) ⟨Nat.le_of_ble_eq_true rfl, Nat.le_of_ble_eq_true rfl⟩ dX10_giveOut_85 (fun u12 H locs hm hw => ?_)
          refine lv_iinc (v := v6 + 1) (lv' := [(6, .int (v6 + 1)), (8, .int u7.1), (0, .ref (b + v0)), (1, .int v1), (2, .int v2), (3, .int v3), (4, .int v4), (5, .int v5), (7, .int v7)]) hx hb dX10_giveOut_88 hl (k := 7) rfl rfl (by decide) rfl (fun ls hl => ?_)
          refine lv_goto (tgt := 146) hx hb dX10_giveOut_91 (by decide) ?_
          exact w_X10_giveOut_146 E hr hlk ih hm hv0 hw (lv_sub hl [2, 3, 4, 5, 6, 7, 0, 8] rfl)
def f_X10_giveOut (v0 : Nat) (v1 : Int32) (v2 : Int32) (σ : ST) : Option (Int32 × ST) :=
  (f_X10_cellOf v2 v1 σ).bind fun u13 =>
  k_X10_giveOut_35 FU v0 v1 v2 u13.1 (if (gI u13.2 (LC.2.1 v0 0) 6) < (gI u13.2 (LC.2.1 v0 0) 9) then (gI u13.2 (LC.2.1 v0 0) 6) else (gI u13.2 (LC.2.1 v0 0) 9)) (if (gI u13.2 (LC.2.1 v0 0) 6) < (gI u13.2 (LC.2.1 v0 0) 9) then (gI u13.2 (LC.2.1 v0 0) 6) else (gI u13.2 (LC.2.1 v0 0) 9)) 1 0 u13.2
set_option maxRecDepth 20000 in
set_option maxHeartbeats 1000000 in
theorem w_X10_giveOut_0 {p : Program} {l : Launch} {e : Env} {s : State} {m : MethodId} {args : Array Value} {below : List Frame} {meth : Method} {c : Code} {D : va_G} {cy : Nat → ClassId} {b : Nat} (E : CX p m c cX10_giveOut 9 s args RX10 D cy LC) (hr : meth.sig.returnType = some .int) (hlk : meth.locks = false) {r : Int32 × ST} {v0 : Nat} {v1 : Int32} {v2 : Int32} {σ : ST} {H : Heap} {locs : List Loc} {ls : Array Slot} (hm : f_X10_giveOut v0 v1 v2 σ = some r) (hv0 : LC.1 v0 = 10) (hw : PH D cy LC b σ s H locs) (hl : lv_has ls 9 [(0, .ref (b + v0)), (1, .int v1), (2, .int v2)]) : W p l e (rmD 3) s m args below meth c H locs 0 0 (MQ below (QcP D cy LC b (some (.int r.1)) r.2) args s 0 0 (inP LC b)) (F0 m 0 ls []) := by
  have hx := E.1.1
  have hb := E.1.2.1
  unfold f_X10_giveOut at hm
  refine lv_iload_n hx hb dX10_giveOut_0 rfl (lv_at hl 2 rfl) ?_
  refine lv_iload_n hx hb dX10_giveOut_1 rfl (lv_at hl 1 rfl) ?_
  refine q_cSi [] E hw hm ms_X10_100 (fun u hu => c_X10_cellOf hu ) rfl rfl hl.1 (Nat.le_of_ble_eq_true rfl) ⟨Nat.le_of_ble_eq_true rfl, Nat.le_of_ble_eq_true rfl⟩ dX10_giveOut_2 (fun u13 H locs hm hw => ?_)
  refine lv_istore_n (lv' := [(3, .int u13.1), (0, .ref (b + v0)), (1, .int v1), (2, .int v2)]) hx hb dX10_giveOut_5 rfl hl (by decide) rfl (fun ls hl => ?_)
  refine lv_aload_n hx hb dX10_giveOut_6 rfl (lv_at hl 1 rfl) ?_
  refine q_geta E hw fw_X10_12 rfl hv0 dX10_giveOut_7 ?_
  refine q_geti E hw fw_X10_128 rfl (tC_10_0 hv0) dX10_giveOut_10 ?_
  refine lv_aload_n hx hb dX10_giveOut_13 rfl (lv_at hl 1 rfl) ?_
  refine q_geta E hw fw_X10_12 rfl hv0 dX10_giveOut_14 ?_
  refine q_geti E hw fw_X10_131 rfl (tC_10_0 hv0) dX10_giveOut_17 ?_
  refine va_mmin hx hb (E.1.2.2.1.trans hl.1.symm) E.1.2.2.2.1 (E.1.2.2.2.2 _ (rL41 _ (List.mem_of_getElem? (i := 3) rfl))) (E.1.2.2.2.2 _ (rL25 _ (List.mem_of_getElem? (i := 14) rfl))) (E.1.2.2.2.2 _ (rL25 _ (List.mem_of_getElem? (i := 15) rfl))) (E.1.2.2.2.2 _ (rL25 _ (List.mem_of_getElem? (i := 16) rfl))) (Nat.le_of_ble_eq_true rfl) (Nat.le_of_ble_eq_true rfl) (Nat.zero_le _) (Nat.zero_le _) dX10_giveOut_20 ?_
  refine lv_istore (lv' := [(4, .int (if (gI u13.2 (LC.2.1 v0 0) 6) < (gI u13.2 (LC.2.1 v0 0) 9) then (gI u13.2 (LC.2.1 v0 0) 6) else (gI u13.2 (LC.2.1 v0 0) 9))), (3, .int u13.1), (0, .ref (b + v0)), (1, .int v1), (2, .int v2)]) hx hb dX10_giveOut_23 hl (by decide) rfl (fun ls hl => ?_)
  refine lv_iload hx hb dX10_giveOut_25 (lv_at hl 0 rfl) ?_
  refine lv_istore (lv' := [(5, .int (if (gI u13.2 (LC.2.1 v0 0) 6) < (gI u13.2 (LC.2.1 v0 0) 9) then (gI u13.2 (LC.2.1 v0 0) 6) else (gI u13.2 (LC.2.1 v0 0) 9))), (4, .int (if (gI u13.2 (LC.2.1 v0 0) 6) < (gI u13.2 (LC.2.1 v0 0) 9) then (gI u13.2 (LC.2.1 v0 0) 6) else (gI u13.2 (LC.2.1 v0 0) 9))), (3, .int u13.1), (0, .ref (b + v0)), (1, .int v1), (2, .int v2)]) hx hb dX10_giveOut_27 hl (by decide) rfl (fun ls hl => ?_)
  refine lv_iconst (v := 1) hx hb dX10_giveOut_29 (by decide) ?_
  refine lv_istore (lv' := [(6, .int 1), (5, .int (if (gI u13.2 (LC.2.1 v0 0) 6) < (gI u13.2 (LC.2.1 v0 0) 9) then (gI u13.2 (LC.2.1 v0 0) 6) else (gI u13.2 (LC.2.1 v0 0) 9))), (4, .int (if (gI u13.2 (LC.2.1 v0 0) 6) < (gI u13.2 (LC.2.1 v0 0) 9) then (gI u13.2 (LC.2.1 v0 0) 6) else (gI u13.2 (LC.2.1 v0 0) 9))), (3, .int u13.1), (0, .ref (b + v0)), (1, .int v1), (2, .int v2)]) hx hb dX10_giveOut_30 hl (by decide) rfl (fun ls hl => ?_)
  refine lv_iconst (v := 0) hx hb dX10_giveOut_32 (by decide) ?_
  refine lv_istore (lv' := [(7, .int 0), (6, .int 1), (5, .int (if (gI u13.2 (LC.2.1 v0 0) 6) < (gI u13.2 (LC.2.1 v0 0) 9) then (gI u13.2 (LC.2.1 v0 0) 6) else (gI u13.2 (LC.2.1 v0 0) 9))), (4, .int (if (gI u13.2 (LC.2.1 v0 0) 6) < (gI u13.2 (LC.2.1 v0 0) 9) then (gI u13.2 (LC.2.1 v0 0) 6) else (gI u13.2 (LC.2.1 v0 0) 9))), (3, .int u13.1), (0, .ref (b + v0)), (1, .int v1), (2, .int v2)]) hx hb dX10_giveOut_33 hl (by decide) rfl (fun ls hl => ?_)
  exact w_X10_giveOut_35 E hr hlk _ _ _ _ _ _ _ _ _ _ _ _ _ hm hv0 hw (lv_sub hl [5, 6, 7, 4, 3, 2, 1, 0] rfl)
theorem c_X10_giveOut {l : Launch} {D : va_G} {cy : Nat → ClassId} {b : Nat} {v0 : Nat} {v1 : Int32} {v2 : Int32} {σ : ST} {r : Int32 × ST} (hm : f_X10_giveOut v0 v1 v2 σ = some r) (hv0 : LC.1 v0 = 10) : Met l yX10_giveOut (wU yX10_giveOut cX10_giveOut 9 (some .int)) (rmD 3) (PcP D cy LC b [.ref (b + v0), .int v1, .int v2] σ) (QcP D cy LC b (some (.int r.1)) r.2) 0 0 (inP LC b) :=
  q_met (lv := [(0, .ref (b + v0)), (1, .int v1), (2, .int v2)]) LC_ok (by decide) (Nat.le_of_ble_eq_true rfl) rfl (fun _ _ _ _ _ _ _ _ _ E hr hlk hw hl => w_X10_giveOut_0 E hr hlk hm hv0 hw hl)

def k_X10_addPart_20 (σ : ST) : Option (Int32 × ST) :=
  some ((-1), σ)
set_option maxRecDepth 20000 in
set_option maxHeartbeats 1000000 in
theorem w_X10_addPart_20 {p : Program} {l : Launch} {e : Env} {s : State} {m : MethodId} {args : Array Value} {below : List Frame} {meth : Method} {c : Code} {D : va_G} {cy : Nat → ClassId} {b : Nat} (E : CX p m c cX10_addPart 4 s args RX10 D cy LC) (hr : meth.sig.returnType = some .int) (hlk : meth.locks = false) {r : Int32 × ST} {σ : ST} {H : Heap} {locs : List Loc} {ls : Array Slot} (hm : k_X10_addPart_20  σ = some r) (hw : PH D cy LC b σ s H locs) (hl : lv_has ls 4 []) : W p l e (rmD 4) s m args below meth c H locs 0 0 (MQ below (QcP D cy LC b (some (.int r.1)) r.2) args s 0 0 (inP LC b)) (F0 m 20 ls []) := by
  have hx := E.1.1
  have hb := E.1.2.1
  unfold k_X10_addPart_20 at hm
  refine lv_iconst (v := (-1)) hx hb dX10_addPart_20 (by decide) ?_
  exact q_iret E hr hlk hw hm dX10_addPart_21
def f_X10_addPart (v0 : Nat) (v1 : Int32) (v2 : Int32) (v3 : Int32) (σ : ST) : Option (Int32 × ST) :=
  (f_X7_isSum (LC.2.1 v0 0) v1 σ).bind fun u1 =>
  if u1.1 = 0 then (k_X10_addPart_20 u1.2) else ((f_X10_canTake v0 v1 v2 u1.2).bind fun u3 =>
  if u3.1 = 0 then (k_X10_addPart_20 u3.2) else ((f_X10_cellOf v2 v1 u3.2).bind fun u5 =>
  (ldA LC u5.2 (LC.2.1 (LC.2.1 v0 2) 1) ((u5.1 * 6) + v2)).bind fun a6 =>
  (stA LC u5.2 (LC.2.1 (LC.2.1 v0 2) 1) ((u5.1 * 6) + v2) (a6 + v3)).bind fun σ7 =>
  (f_X10_giveOut v0 v1 v2 σ7).bind fun u8 =>
  some (u8.1, u8.2)))
set_option maxRecDepth 20000 in
set_option maxHeartbeats 1000000 in
theorem w_X10_addPart_0 {p : Program} {l : Launch} {e : Env} {s : State} {m : MethodId} {args : Array Value} {below : List Frame} {meth : Method} {c : Code} {D : va_G} {cy : Nat → ClassId} {b : Nat} (E : CX p m c cX10_addPart 4 s args RX10 D cy LC) (hr : meth.sig.returnType = some .int) (hlk : meth.locks = false) {r : Int32 × ST} {v0 : Nat} {v1 : Int32} {v2 : Int32} {v3 : Int32} {σ : ST} {H : Heap} {locs : List Loc} {ls : Array Slot} (hm : f_X10_addPart v0 v1 v2 v3 σ = some r) (hv0 : LC.1 v0 = 10) (hw : PH D cy LC b σ s H locs) (hl : lv_has ls 4 [(0, .ref (b + v0)), (1, .int v1), (2, .int v2), (3, .int v3)]) : W p l e (rmD 4) s m args below meth c H locs 0 0 (MQ below (QcP D cy LC b (some (.int r.1)) r.2) args s 0 0 (inP LC b)) (F0 m 0 ls []) := by
  have hx := E.1.1
  have hb := E.1.2.1
  unfold f_X10_addPart at hm
  refine lv_aload_n hx hb dX10_addPart_0 rfl (lv_at hl 0 rfl) ?_
  refine q_geta E hw fw_X10_12 rfl hv0 dX10_addPart_1 ?_
  refine lv_iload_n hx hb dX10_addPart_4 rfl (lv_at hl 1 rfl) ?_
  refine q_cVi (κ := 7) (C := RX7) (T := TX7) (N := 12) [] E hw hm mw_X10_104 (fun u hu => c_X7_isSum hu (tC_10_0 hv0)) rfl (by decide) (tC_10_0 hv0) rfl rfl hl.1 (Nat.le_of_ble_eq_true rfl) ⟨Nat.le_of_ble_eq_true rfl, Nat.le_of_ble_eq_true rfl⟩ dX10_addPart_5 (fun u1 H locs hm hw => ?_)
  refine lv_if_eq (tgt := 20) hx hb dX10_addPart_8 (by decide) (fun c2 => ?_) (fun c2 => ?_)
  · have hm := o_t c2 hm
    exact w_X10_addPart_20 E hr hlk hm  hw (lv_sub hl [] rfl)
  · have hm := o_f c2 hm
    refine lv_aload_n hx hb dX10_addPart_11 rfl (lv_at hl 0 rfl) ?_
    refine lv_iload_n hx hb dX10_addPart_12 rfl (lv_at hl 1 rfl) ?_
    refine lv_iload_n hx hb dX10_addPart_13 rfl (lv_at hl 2 rfl) ?_
    refine q_cVi (κ := 10) (C := RX10) (T := TX10) (N := 12) [] E hw hm mw_X10_107 (fun u hu => c_X10_canTake hu hv0) rfl (by decide) hv0 rfl rfl hl.1 (Nat.le_of_ble_eq_true rfl) ⟨Nat.le_of_ble_eq_true rfl, Nat.le_of_ble_eq_true rfl⟩ dX10_addPart_14 (fun u3 H locs hm hw => ?_)
    refine lv_if_ne (tgt := 22) hx hb dX10_addPart_17 (by decide) (fun c4 => ?_) (fun c4 => ?_)
    · have hm := o_f c4 hm
      refine lv_aload_n hx hb dX10_addPart_22 rfl (lv_at hl 0 rfl) ?_
      refine q_geta E hw fw_X10_30 rfl hv0 dX10_addPart_23 ?_
      refine q_geta E hw fw_X10_122 rfl (tC_10_2 hv0) dX10_addPart_26 ?_
      refine lv_iload_n hx hb dX10_addPart_29 rfl (lv_at hl 2 rfl) ?_
      refine lv_iload_n hx hb dX10_addPart_30 rfl (lv_at hl 1 rfl) ?_
      refine q_cSi [.ref (b + (LC.2.1 (LC.2.1 v0 2) 1))] E hw hm ms_X10_100 (fun u hu => c_X10_cellOf hu ) rfl rfl hl.1 (Nat.le_of_ble_eq_true rfl) ⟨Nat.le_of_ble_eq_true rfl, Nat.le_of_ble_eq_true rfl⟩ dX10_addPart_31 (fun u5 H locs hm hw => ?_)
      refine lv_bipush (v := 6) hx hb dX10_addPart_34 (by decide) ?_
      refine lv_imul hx hb dX10_addPart_36 ?_
      refine lv_iload_n hx hb dX10_addPart_37 rfl (lv_at hl 2 rfl) ?_
      refine lv_iadd hx hb dX10_addPart_38 ?_
      refine lv_dup2_11 hx hb dX10_addPart_39 rfl rfl ?_
      refine q_iald E hw (tC_0_1 (tC_10_2 hv0)) hm dX10_addPart_40 (fun a6 hm => ?_)
      refine lv_iload_n hx hb dX10_addPart_41 rfl (lv_at hl 3 rfl) ?_
      refine lv_iadd hx hb dX10_addPart_42 ?_
      refine q_iast E hw (tC_0_1 (tC_10_2 hv0)) hm dX10_addPart_43 (fun σ7 H locs hm hw => ?_)
      refine lv_aload_n hx hb dX10_addPart_44 rfl (lv_at hl 0 rfl) ?_
      refine lv_iload_n hx hb dX10_addPart_45 rfl (lv_at hl 1 rfl) ?_
      refine lv_iload_n hx hb dX10_addPart_46 rfl (lv_at hl 2 rfl) ?_
      refine q_cVi (κ := 10) (C := RX10) (T := TX10) (N := 12) [] E hw hm mw_X10_119 (fun u hu => c_X10_giveOut hu hv0) rfl (by decide) hv0 rfl rfl hl.1 (Nat.le_of_ble_eq_true rfl) ⟨Nat.le_of_ble_eq_true rfl, Nat.le_of_ble_eq_true rfl⟩ dX10_addPart_47 (fun u8 H locs hm hw => ?_)
      exact q_iret E hr hlk hw hm dX10_addPart_50
    · have hm := o_t c4 hm
      exact w_X10_addPart_20 E hr hlk hm  hw (lv_sub hl [] rfl)
theorem c_X10_addPart {l : Launch} {D : va_G} {cy : Nat → ClassId} {b : Nat} {v0 : Nat} {v1 : Int32} {v2 : Int32} {v3 : Int32} {σ : ST} {r : Int32 × ST} (hm : f_X10_addPart v0 v1 v2 v3 σ = some r) (hv0 : LC.1 v0 = 10) : Met l yX10_addPart (wU yX10_addPart cX10_addPart 4 (some .int)) (rmD 4) (PcP D cy LC b [.ref (b + v0), .int v1, .int v2, .int v3] σ) (QcP D cy LC b (some (.int r.1)) r.2) 0 0 (inP LC b) :=
  q_met (lv := [(0, .ref (b + v0)), (1, .int v1), (2, .int v2), (3, .int v3)]) LC_ok (by decide) (Nat.le_of_ble_eq_true rfl) rfl (fun _ _ _ _ _ _ _ _ _ E hr hlk hw hl => w_X10_addPart_0 E hr hlk hm hv0 hw hl)

def k_X10_firstReached_92 (v4 : Int32) (σ : ST) : Option (Int32 × ST) :=
  some (v4, σ)
set_option maxRecDepth 20000 in
set_option maxHeartbeats 1000000 in
theorem w_X10_firstReached_92 {p : Program} {l : Launch} {e : Env} {s : State} {m : MethodId} {args : Array Value} {below : List Frame} {meth : Method} {c : Code} {D : va_G} {cy : Nat → ClassId} {b : Nat} (E : CX p m c cX10_firstReached 8 s args RX10 D cy LC) (hr : meth.sig.returnType = some .int) (hlk : meth.locks = false) {r : Int32 × ST} {v4 : Int32} {σ : ST} {H : Heap} {locs : List Loc} {ls : Array Slot} (hm : k_X10_firstReached_92 v4 σ = some r) (hw : PH D cy LC b σ s H locs) (hl : lv_has ls 8 [(4, .int v4)]) : W p l e (rmD 3) s m args below meth c H locs 0 0 (MQ below (QcP D cy LC b (some (.int r.1)) r.2) args s 0 0 (inP LC b)) (F0 m 92 ls []) := by
  have hx := E.1.1
  have hb := E.1.2.1
  unfold k_X10_firstReached_92 at hm
  refine lv_iload hx hb dX10_firstReached_92 (lv_at hl 0 rfl) ?_
  exact q_iret E hr hlk hw hm dX10_firstReached_94
def k_X10_firstReached_86 (rec38 : Nat → Int32 → Int32 → Int32 → Int32 → Int32 → ST → Option (Int32 × ST)) (v0 : Nat) (v1 : Int32) (v3 : Int32) (v4 : Int32) (v5 : Int32) (v6 : Int32) (σ : ST) : Option (Int32 × ST) :=
  rec38 v0 v1 v3 v4 v5 (v6 + 1) σ
set_option maxRecDepth 20000 in
set_option maxHeartbeats 1000000 in
theorem w_X10_firstReached_86 {p : Program} {l : Launch} {e : Env} {s : State} {m : MethodId} {args : Array Value} {below : List Frame} {meth : Method} {c : Code} {D : va_G} {cy : Nat → ClassId} {b : Nat} (E : CX p m c cX10_firstReached 8 s args RX10 D cy LC) (hr : meth.sig.returnType = some .int) (hlk : meth.locks = false) {r : Int32 × ST} {rec38 : Nat → Int32 → Int32 → Int32 → Int32 → Int32 → ST → Option (Int32 × ST)} (hrec38 : ∀ (v0 : Nat) (v1 : Int32) (v3 : Int32) (v4 : Int32) (v5 : Int32) (v6 : Int32) (σ : ST) (H : Heap) (locs : List Loc) (ls : Array Slot), rec38 v0 v1 v3 v4 v5 v6 σ = some r → LC.1 v0 = 10 → PH D cy LC b σ s H locs → lv_has ls 8 [(0, .ref (b + v0)), (1, .int v1), (3, .int v3), (4, .int v4), (5, .int v5), (6, .int v6)] → W p l e (rmD 3) s m args below meth c H locs 0 0 (MQ below (QcP D cy LC b (some (.int r.1)) r.2) args s 0 0 (inP LC b)) (F0 m 38 ls [])) {v0 : Nat} {v1 : Int32} {v3 : Int32} {v4 : Int32} {v5 : Int32} {v6 : Int32} {σ : ST} {H : Heap} {locs : List Loc} {ls : Array Slot} (hm : k_X10_firstReached_86 rec38 v0 v1 v3 v4 v5 v6 σ = some r) (hv0 : LC.1 v0 = 10) (hw : PH D cy LC b σ s H locs) (hl : lv_has ls 8 [(0, .ref (b + v0)), (1, .int v1), (3, .int v3), (4, .int v4), (5, .int v5), (6, .int v6)]) : W p l e (rmD 3) s m args below meth c H locs 0 0 (MQ below (QcP D cy LC b (some (.int r.1)) r.2) args s 0 0 (inP LC b)) (F0 m 86 ls []) := by
  have hx := E.1.1
  have hb := E.1.2.1
  unfold k_X10_firstReached_86 at hm
  refine lv_iinc (v := v6 + 1) (lv' := [(6, .int (v6 + 1)), (0, .ref (b + v0)), (1, .int v1), (3, .int v3), (4, .int v4), (5, .int v5)]) hx hb dX10_firstReached_86 hl (k := 5) rfl rfl (by decide) rfl (fun ls hl => ?_)
  refine lv_goto (tgt := 38) hx hb dX10_firstReached_89 (by decide) ?_
  exact hrec38 _ _ _ _ _ _ _ _ _ _ hm hv0 hw (lv_sub hl [1, 2, 3, 4, 5, 0] rfl)
def k_X10_firstReached_38 : Nat → Nat → Int32 → Int32 → Int32 → Int32 → Int32 → ST → Option (Int32 × ST)
  | 0, _, _, _, _, _, _, _ => none
  | n + 1, v0, v1, v3, v4, v5, v6, σ => if (gI σ (LC.2.1 v0 0) 6) ≤ v6 then (k_X10_firstReached_92 v4 σ) else (if v5 ≤ 0 then (k_X10_firstReached_92 v4 σ) else ((f_X7_keeperAlong (LC.2.1 v0 0) v1 v6 σ).bind fun u3 =>
  if (v3 &&& (1 <<< (u3.1 &&& 31))) = 0 then (k_X10_firstReached_86 (k_X10_firstReached_38 n) v0 v1 v3 v4 v5 v6 u3.2) else (k_X10_firstReached_86 (k_X10_firstReached_38 n) v0 v1 v3 (v4 ||| (1 <<< (u3.1 &&& 31))) (v5 + (-1)) v6 u3.2)))
set_option maxRecDepth 20000 in
set_option maxHeartbeats 1000000 in
theorem w_X10_firstReached_38 {p : Program} {l : Launch} {e : Env} {s : State} {m : MethodId} {args : Array Value} {below : List Frame} {meth : Method} {c : Code} {D : va_G} {cy : Nat → ClassId} {b : Nat} (E : CX p m c cX10_firstReached 8 s args RX10 D cy LC) (hr : meth.sig.returnType = some .int) (hlk : meth.locks = false) {r : Int32 × ST} : ∀ (n : Nat) (v0 : Nat) (v1 : Int32) (v3 : Int32) (v4 : Int32) (v5 : Int32) (v6 : Int32) (σ : ST) (H : Heap) (locs : List Loc) (ls : Array Slot), k_X10_firstReached_38 n v0 v1 v3 v4 v5 v6 σ = some r → LC.1 v0 = 10 → PH D cy LC b σ s H locs → lv_has ls 8 [(0, .ref (b + v0)), (1, .int v1), (3, .int v3), (4, .int v4), (5, .int v5), (6, .int v6)] → W p l e (rmD 3) s m args below meth c H locs 0 0 (MQ below (QcP D cy LC b (some (.int r.1)) r.2) args s 0 0 (inP LC b)) (F0 m 38 ls []) := by
  have hx := E.1.1
  have hb := E.1.2.1
  intro n
  induction n with
  | zero =>
    intro v0 v1 v3 v4 v5 v6 σ H locs ls hm
    cases hm
  | succ n ih =>
    intro v0 v1 v3 v4 v5 v6 σ H locs ls hm hv0 hw hl
    rw [k_X10_firstReached_38] at hm
    refine lv_iload hx hb dX10_firstReached_38 (lv_at hl 5 rfl) ?_
    refine lv_aload_n hx hb dX10_firstReached_40 rfl (lv_at hl 0 rfl) ?_
    refine q_geta E hw fw_X10_12 rfl hv0 dX10_firstReached_41 ?_
    refine q_geti E hw fw_X10_131 rfl (tC_10_0 hv0) dX10_firstReached_44 ?_
    refine lv_icmp_ge (tgt := 92) hx hb dX10_firstReached_47 (by decide) (fun c1 => ?_) (fun c1 => ?_)
    · have hm := o_t c1 hm
      exact w_X10_firstReached_92 E hr hlk hm  hw (lv_sub hl [3] rfl)
    · have hm := o_f c1 hm
      refine lv_iload hx hb dX10_firstReached_50 (lv_at hl 4 rfl) ?_
      refine lv_if_le (tgt := 92) hx hb dX10_firstReached_52 (by decide) (fun c2 => ?_) (fun c2 => ?_)
      · have hm := o_t c2 hm
        exact w_X10_firstReached_92 E hr hlk hm  hw (lv_sub hl [3] rfl)
      · have hm := o_f c2 hm
        refine lv_iconst (v := 1) hx hb dX10_firstReached_55 (by decide) ?_
        refine lv_aload_n hx hb dX10_firstReached_56 rfl (lv_at hl 0 rfl) ?_
        refine q_geta E hw fw_X10_12 rfl hv0 dX10_firstReached_57 ?_
        refine lv_iload_n hx hb dX10_firstReached_60 rfl (lv_at hl 1 rfl) ?_
        refine lv_iload hx hb dX10_firstReached_61 (lv_at hl 5 rfl) ?_
        refine q_cVi (κ := 7) (C := RX7) (T := TX7) (N := 12) [.int 1] E hw hm mw_X10_139 (fun u hu => c_X7_keeperAlong hu (tC_10_0 hv0)) rfl (by decide) (tC_10_0 hv0) rfl rfl hl.1 (Nat.le_of_ble_eq_true rfl) ⟨Nat.le_of_ble_eq_true rfl, Nat.le_of_ble_eq_true rfl⟩ dX10_firstReached_63 (fun u3 H locs hm hw => ?_)
        refine lv_ishl hx hb dX10_firstReached_66 ?_
        refine lv_istore (lv' := [(7, .int (1 <<< (u3.1 &&& 31))), (0, .ref (b + v0)), (1, .int v1), (3, .int v3), (4, .int v4), (5, .int v5), (6, .int v6)]) hx hb dX10_firstReached_67 hl (by decide) rfl (fun ls hl => ?_)
        refine lv_iload_n hx hb dX10_firstReached_69 rfl (lv_at hl 3 rfl) ?_
        refine lv_iload hx hb dX10_firstReached_70 (lv_at hl 0 rfl) ?_
        refine lv_iand hx hb dX10_firstReached_72 ?_
        refine lv_if_eq (tgt := 86) hx hb dX10_firstReached_73 (by decide) (fun c4 => ?_) (fun c4 => ?_)
        · have hm := o_t c4 hm
          exact w_X10_firstReached_86 E hr hlk ih hm hv0 hw (lv_sub hl [1, 2, 3, 4, 5, 6] rfl)
        · have hm := o_f c4 hm
          refine lv_iload hx hb dX10_firstReached_76 (lv_at hl 4 rfl) ?_
          refine lv_iload hx hb dX10_firstReached_78 (lv_at hl 0 rfl) ?_
          refine lv_ior hx hb dX10_firstReached_80 ?_
          refine lv_istore (lv' := [(4, .int (v4 ||| (1 <<< (u3.1 &&& 31)))), (7, .int (1 <<< (u3.1 &&& 31))), (0, .ref (b + v0)), (1, .int v1), (3, .int v3), (5, .int v5), (6, .int v6)]) hx hb dX10_firstReached_81 hl (by decide) rfl (fun ls hl => ?_)
          refine lv_iinc (v := v5 + (-1)) (lv' := [(5, .int (v5 + (-1))), (4, .int (v4 ||| (1 <<< (u3.1 &&& 31)))), (7, .int (1 <<< (u3.1 &&& 31))), (0, .ref (b + v0)), (1, .int v1), (3, .int v3), (6, .int v6)]) hx hb dX10_firstReached_83 hl (k := 5) rfl rfl (by decide) rfl (fun ls hl => ?_)
          exact w_X10_firstReached_86 E hr hlk ih hm hv0 hw (lv_sub hl [3, 4, 5, 1, 0, 6] rfl)
def f_X10_firstReached (v0 : Nat) (v1 : Int32) (v2 : Int32) (σ : ST) : Option (Int32 × ST) :=
  (f_X10_placesReached v0 v1 v2 σ).bind fun u5 =>
  (f_J6_bitCount_0f7a4 u5.1 u5.2).bind fun u6 =>
  if (gI u6.2 (LC.2.1 v0 0) 10) ≤ u6.1 then (k_X10_firstReached_38 FU v0 v1 u5.1 0 (gI u6.2 (LC.2.1 v0 0) 10) 0 u6.2) else (some (0, u6.2))
set_option maxRecDepth 20000 in
set_option maxHeartbeats 1000000 in
theorem w_X10_firstReached_0 {p : Program} {l : Launch} {e : Env} {s : State} {m : MethodId} {args : Array Value} {below : List Frame} {meth : Method} {c : Code} {D : va_G} {cy : Nat → ClassId} {b : Nat} (E : CX p m c cX10_firstReached 8 s args RX10 D cy LC) (hr : meth.sig.returnType = some .int) (hlk : meth.locks = false) {r : Int32 × ST} {v0 : Nat} {v1 : Int32} {v2 : Int32} {σ : ST} {H : Heap} {locs : List Loc} {ls : Array Slot} (hm : f_X10_firstReached v0 v1 v2 σ = some r) (hv0 : LC.1 v0 = 10) (hw : PH D cy LC b σ s H locs) (hl : lv_has ls 8 [(0, .ref (b + v0)), (1, .int v1), (2, .int v2)]) : W p l e (rmD 3) s m args below meth c H locs 0 0 (MQ below (QcP D cy LC b (some (.int r.1)) r.2) args s 0 0 (inP LC b)) (F0 m 0 ls []) := by
  have hx := E.1.1
  have hb := E.1.2.1
  unfold f_X10_firstReached at hm
  refine lv_aload_n hx hb dX10_firstReached_0 rfl (lv_at hl 0 rfl) ?_
  refine lv_iload_n hx hb dX10_firstReached_1 rfl (lv_at hl 1 rfl) ?_
  refine lv_iload_n hx hb dX10_firstReached_2 rfl (lv_at hl 2 rfl) ?_
  refine q_cVi (κ := 10) (C := RX10) (T := TX10) (N := 12) [] E hw hm mw_X10_184 (fun u hu => c_X10_placesReached hu hv0) rfl (by decide) hv0 rfl rfl hl.1 (Nat.le_of_ble_eq_true rfl) ⟨Nat.le_of_ble_eq_true rfl, Nat.le_of_ble_eq_true rfl⟩ dX10_firstReached_3 (fun u5 H locs hm hw => ?_)
  refine lv_istore_n (lv' := [(3, .int u5.1), (0, .ref (b + v0)), (1, .int v1), (2, .int v2)]) hx hb dX10_firstReached_6 rfl hl (by decide) rfl (fun ls hl => ?_)
  refine lv_iload_n hx hb dX10_firstReached_7 rfl (lv_at hl 0 rfl) ?_
  refine q_cSi [] E hw hm ms_X10_159 (fun u hu => c_J6_bitCount_0f7a4 hu ) rfl rfl hl.1 (Nat.le_of_ble_eq_true rfl) ⟨Nat.le_of_ble_eq_true rfl, Nat.le_of_ble_eq_true rfl⟩ dX10_firstReached_8 (fun u6 H locs hm hw => ?_)
  refine lv_aload_n hx hb dX10_firstReached_11 rfl (lv_at hl 1 rfl) ?_
  refine q_geta E hw fw_X10_12 rfl hv0 dX10_firstReached_12 ?_
  refine q_geti E hw fw_X10_187 rfl (tC_10_0 hv0) dX10_firstReached_15 ?_
  refine lv_icmp_ge (tgt := 23) hx hb dX10_firstReached_18 (by decide) (fun c7 => ?_) (fun c7 => ?_)
  · have hm := o_t c7 hm
    refine lv_iconst (v := 0) hx hb dX10_firstReached_23 (by decide) ?_
    refine lv_istore (lv' := [(4, .int 0), (3, .int u5.1), (0, .ref (b + v0)), (1, .int v1), (2, .int v2)]) hx hb dX10_firstReached_24 hl (by decide) rfl (fun ls hl => ?_)
    refine lv_aload_n hx hb dX10_firstReached_26 rfl (lv_at hl 2 rfl) ?_
    refine q_geta E hw fw_X10_12 rfl hv0 dX10_firstReached_27 ?_
    refine q_geti E hw fw_X10_187 rfl (tC_10_0 hv0) dX10_firstReached_30 ?_
    refine lv_istore (lv' := [(5, .int (gI u6.2 (LC.2.1 v0 0) 10)), (4, .int 0), (3, .int u5.1), (0, .ref (b + v0)), (1, .int v1), (2, .int v2)]) hx hb dX10_firstReached_33 hl (by decide) rfl (fun ls hl => ?_)
    refine lv_iconst (v := 0) hx hb dX10_firstReached_35 (by decide) ?_
    refine lv_istore (lv' := [(6, .int 0), (5, .int (gI u6.2 (LC.2.1 v0 0) 10)), (4, .int 0), (3, .int u5.1), (0, .ref (b + v0)), (1, .int v1), (2, .int v2)]) hx hb dX10_firstReached_36 hl (by decide) rfl (fun ls hl => ?_)
    exact w_X10_firstReached_38 E hr hlk _ _ _ _ _ _ _ _ _ _ _ hm hv0 hw (lv_sub hl [4, 5, 3, 2, 1, 0] rfl)
  · have hm := o_f c7 hm
    refine lv_iconst (v := 0) hx hb dX10_firstReached_21 (by decide) ?_
    exact q_iret E hr hlk hw hm dX10_firstReached_22
theorem c_X10_firstReached {l : Launch} {D : va_G} {cy : Nat → ClassId} {b : Nat} {v0 : Nat} {v1 : Int32} {v2 : Int32} {σ : ST} {r : Int32 × ST} (hm : f_X10_firstReached v0 v1 v2 σ = some r) (hv0 : LC.1 v0 = 10) : Met l yX10_firstReached (wU yX10_firstReached cX10_firstReached 8 (some .int)) (rmD 3) (PcP D cy LC b [.ref (b + v0), .int v1, .int v2] σ) (QcP D cy LC b (some (.int r.1)) r.2) 0 0 (inP LC b) :=
  q_met (lv := [(0, .ref (b + v0)), (1, .int v1), (2, .int v2)]) LC_ok (by decide) (Nat.le_of_ble_eq_true rfl) rfl (fun _ _ _ _ _ _ _ _ _ E hr hlk hw hl => w_X10_firstReached_0 E hr hlk hm hv0 hw hl)

def k_X10_collect_118 (σ : ST) : Option (Int32 × ST) :=
  (ckZ 1).bind fun z => some (z, σ)
set_option maxRecDepth 20000 in
set_option maxHeartbeats 1000000 in
theorem w_X10_collect_118 {p : Program} {l : Launch} {e : Env} {s : State} {m : MethodId} {args : Array Value} {below : List Frame} {meth : Method} {c : Code} {D : va_G} {cy : Nat → ClassId} {b : Nat} (E : CX p m c cX10_collect 7 s args RX10 D cy LC) (hr : meth.sig.returnType = some .boolean) (hlk : meth.locks = false) {r : Int32 × ST} {σ : ST} {H : Heap} {locs : List Loc} {ls : Array Slot} (hm : k_X10_collect_118  σ = some r) (hw : PH D cy LC b σ s H locs) (hl : lv_has ls 7 []) : W p l e (rmD 4) s m args below meth c H locs 0 0 (MQ below (QcP D cy LC b (some (.int r.1)) r.2) args s 0 0 (inP LC b)) (F0 m 118 ls []) := by
  have hx := E.1.1
  have hb := E.1.2.1
  unfold k_X10_collect_118 at hm
  refine lv_iconst (v := 1) hx hb dX10_collect_118 (by decide) ?_
  exact q_zret E hr hlk hw hm dX10_collect_119
def k_X10_collect_66 (rec28 : Nat → Int32 → Int32 → Nat → Int32 → Int32 → ST → Option (Int32 × ST)) (v0 : Nat) (v1 : Int32) (v3 : Int32) (v4 : Nat) (v5 : Int32) (v6 : Int32) (σ : ST) : Option (Int32 × ST) :=
  rec28 v0 v1 v3 v4 v5 (v6 + 1) σ
set_option maxRecDepth 20000 in
set_option maxHeartbeats 1000000 in
theorem w_X10_collect_66 {p : Program} {l : Launch} {e : Env} {s : State} {m : MethodId} {args : Array Value} {below : List Frame} {meth : Method} {c : Code} {D : va_G} {cy : Nat → ClassId} {b : Nat} (E : CX p m c cX10_collect 7 s args RX10 D cy LC) (hr : meth.sig.returnType = some .boolean) (hlk : meth.locks = false) {r : Int32 × ST} {rec28 : Nat → Int32 → Int32 → Nat → Int32 → Int32 → ST → Option (Int32 × ST)} (hrec28 : ∀ (v0 : Nat) (v1 : Int32) (v3 : Int32) (v4 : Nat) (v5 : Int32) (v6 : Int32) (σ : ST) (H : Heap) (locs : List Loc) (ls : Array Slot), rec28 v0 v1 v3 v4 v5 v6 σ = some r → LC.1 v0 = 10 → LC.1 v4 = 0 → PH D cy LC b σ s H locs → lv_has ls 7 [(0, .ref (b + v0)), (1, .int v1), (3, .int v3), (4, .ref (b + v4)), (5, .int v5), (6, .int v6)] → W p l e (rmD 4) s m args below meth c H locs 0 0 (MQ below (QcP D cy LC b (some (.int r.1)) r.2) args s 0 0 (inP LC b)) (F0 m 28 ls [])) {v0 : Nat} {v1 : Int32} {v3 : Int32} {v4 : Nat} {v5 : Int32} {v6 : Int32} {σ : ST} {H : Heap} {locs : List Loc} {ls : Array Slot} (hm : k_X10_collect_66 rec28 v0 v1 v3 v4 v5 v6 σ = some r) (hv0 : LC.1 v0 = 10) (hv4 : LC.1 v4 = 0) (hw : PH D cy LC b σ s H locs) (hl : lv_has ls 7 [(0, .ref (b + v0)), (1, .int v1), (3, .int v3), (4, .ref (b + v4)), (5, .int v5), (6, .int v6)]) : W p l e (rmD 4) s m args below meth c H locs 0 0 (MQ below (QcP D cy LC b (some (.int r.1)) r.2) args s 0 0 (inP LC b)) (F0 m 66 ls []) := by
  have hx := E.1.1
  have hb := E.1.2.1
  unfold k_X10_collect_66 at hm
  refine lv_iinc (v := v6 + 1) (lv' := [(6, .int (v6 + 1)), (0, .ref (b + v0)), (1, .int v1), (3, .int v3), (4, .ref (b + v4)), (5, .int v5)]) hx hb dX10_collect_66 hl (k := 5) rfl rfl (by decide) rfl (fun ls hl => ?_)
  refine lv_goto (tgt := 28) hx hb dX10_collect_69 (by decide) ?_
  exact hrec28 _ _ _ _ _ _ _ _ _ _ hm hv0 hv4 hw (lv_sub hl [1, 2, 3, 4, 5, 0] rfl)
def k_X10_collect_28 : Nat → Nat → Int32 → Int32 → Nat → Int32 → Int32 → ST → Option (Int32 × ST)
  | 0, _, _, _, _, _, _, _ => none
  | n + 1, v0, v1, v3, v4, v5, v6, σ => if (gI σ (LC.2.1 v0 0) 6) ≤ v6 then (if v3 = (-1) then (k_X10_collect_118 σ) else ((f_X7_isSum (LC.2.1 v0 0) v1 σ).bind fun u3 =>
  if u3.1 = 0 then ((f_X0_copyCounts (LC.2.1 v0 5) v3 v4 0 u3.2).bind fun u5 =>
  (stA LC u5 (LC.2.1 v0 6) v3 v1).bind fun σ6 =>
  (stI σ6 v0 11 ((gI σ6 v0 11) ||| (1 <<< (v3 &&& 31)))).bind fun σ7 =>
  k_X10_collect_118 σ7) else (k_X10_collect_118 u3.2))) else (if ((v5 >>> (v6 &&& 31)) &&& 1) = 0 then (k_X10_collect_66 (k_X10_collect_28 n) v0 v1 v3 v4 v5 v6 σ) else ((f_X10_cellOf v6 v1 σ).bind fun u9 =>
  (f_X0_copyCell (LC.2.1 v0 2) u9.1 v4 0 u9.2).bind fun u10 =>
  k_X10_collect_66 (k_X10_collect_28 n) v0 v1 v3 v4 v5 v6 u10))
set_option maxRecDepth 20000 in
set_option maxHeartbeats 1000000 in
theorem w_X10_collect_28 {p : Program} {l : Launch} {e : Env} {s : State} {m : MethodId} {args : Array Value} {below : List Frame} {meth : Method} {c : Code} {D : va_G} {cy : Nat → ClassId} {b : Nat} (E : CX p m c cX10_collect 7 s args RX10 D cy LC) (hr : meth.sig.returnType = some .boolean) (hlk : meth.locks = false) {r : Int32 × ST} : ∀ (n : Nat) (v0 : Nat) (v1 : Int32) (v3 : Int32) (v4 : Nat) (v5 : Int32) (v6 : Int32) (σ : ST) (H : Heap) (locs : List Loc) (ls : Array Slot), k_X10_collect_28 n v0 v1 v3 v4 v5 v6 σ = some r → LC.1 v0 = 10 → LC.1 v4 = 0 → PH D cy LC b σ s H locs → lv_has ls 7 [(0, .ref (b + v0)), (1, .int v1), (3, .int v3), (4, .ref (b + v4)), (5, .int v5), (6, .int v6)] → W p l e (rmD 4) s m args below meth c H locs 0 0 (MQ below (QcP D cy LC b (some (.int r.1)) r.2) args s 0 0 (inP LC b)) (F0 m 28 ls []) := by
  have hx := E.1.1
  have hb := E.1.2.1
  intro n
  induction n with
  | zero =>
    intro v0 v1 v3 v4 v5 v6 σ H locs ls hm
    cases hm
  | succ n ih =>
    intro v0 v1 v3 v4 v5 v6 σ H locs ls hm hv0 hv4 hw hl
    rw [k_X10_collect_28] at hm
    refine lv_iload hx hb dX10_collect_28 (lv_at hl 5 rfl) ?_
    refine lv_aload_n hx hb dX10_collect_30 rfl (lv_at hl 0 rfl) ?_
    refine q_geta E hw fw_X10_12 rfl hv0 dX10_collect_31 ?_
    refine q_geti E hw fw_X10_131 rfl (tC_10_0 hv0) dX10_collect_34 ?_
    refine lv_icmp_ge (tgt := 72) hx hb dX10_collect_37 (by decide) (fun c1 => ?_) (fun c1 => ?_)
    · have hm := o_t c1 hm
      refine lv_iload_n hx hb dX10_collect_72 rfl (lv_at hl 2 rfl) ?_
      refine lv_iconst (v := (-1)) hx hb dX10_collect_73 (by decide) ?_
      refine lv_icmp_eq (tgt := 118) hx hb dX10_collect_74 (by decide) (fun c2 => ?_) (fun c2 => ?_)
      · have hm := o_t c2 hm
        exact w_X10_collect_118 E hr hlk hm  hw (lv_sub hl [] rfl)
      · have hm := o_f c2 hm
        refine lv_aload_n hx hb dX10_collect_77 rfl (lv_at hl 0 rfl) ?_
        refine q_geta E hw fw_X10_12 rfl hv0 dX10_collect_78 ?_
        refine lv_iload_n hx hb dX10_collect_81 rfl (lv_at hl 1 rfl) ?_
        refine q_cVi (κ := 7) (C := RX7) (T := TX7) (N := 12) [] E hw hm mw_X10_104 (fun u hu => c_X7_isSum hu (tC_10_0 hv0)) rfl (by decide) (tC_10_0 hv0) rfl rfl hl.1 (Nat.le_of_ble_eq_true rfl) ⟨Nat.le_of_ble_eq_true rfl, Nat.le_of_ble_eq_true rfl⟩ dX10_collect_82 (fun u3 H locs hm hw => ?_)
        refine lv_if_ne (tgt := 118) hx hb dX10_collect_85 (by decide) (fun c4 => ?_) (fun c4 => ?_)
        · have hm := o_f c4 hm
          exact w_X10_collect_118 E hr hlk hm  hw (lv_sub hl [] rfl)
        · have hm := o_t c4 hm
          refine lv_aload_n hx hb dX10_collect_88 rfl (lv_at hl 0 rfl) ?_
          refine q_geta E hw fw_X10_41 rfl hv0 dX10_collect_89 ?_
          refine lv_iload_n hx hb dX10_collect_92 rfl (lv_at hl 2 rfl) ?_
          refine lv_aload hx hb dX10_collect_93 (lv_at hl 3 rfl) ?_
          refine lv_iconst (v := 0) hx hb dX10_collect_95 (by decide) ?_
          refine q_cVv (κ := 0) (C := RX0) (T := TX0) (N := 2) [] E hw hm mw_X10_181 (fun u hu => c_X0_copyCounts hu (tC_10_5 hv0) hv4) rfl (by decide) (tC_10_5 hv0) rfl rfl hl.1 (Nat.le_of_ble_eq_true rfl) ⟨Nat.le_of_ble_eq_true rfl, Nat.le_of_ble_eq_true rfl⟩ dX10_collect_96 (fun u5 H locs hm hw => ?_)
          refine lv_aload_n hx hb dX10_collect_99 rfl (lv_at hl 0 rfl) ?_
          refine q_geta E hw fw_X10_44 rfl hv0 dX10_collect_100 ?_
          refine lv_iload_n hx hb dX10_collect_103 rfl (lv_at hl 2 rfl) ?_
          refine lv_iload_n hx hb dX10_collect_104 rfl (lv_at hl 1 rfl) ?_
          refine q_iast E hw (tC_10_6 hv0) hm dX10_collect_105 (fun σ6 H locs hm hw => ?_)
          refine lv_aload_n hx hb dX10_collect_106 rfl (lv_at hl 0 rfl) ?_
          refine lv_dup hx hb dX10_collect_107 rfl ?_
          refine q_geti E hw fw_X10_60 rfl hv0 dX10_collect_108 ?_
          refine lv_iconst (v := 1) hx hb dX10_collect_111 (by decide) ?_
          refine lv_iload_n hx hb dX10_collect_112 rfl (lv_at hl 2 rfl) ?_
          refine lv_ishl hx hb dX10_collect_113 ?_
          refine lv_ior hx hb dX10_collect_114 ?_
          refine q_pi E hw hm fw_X10_60 rfl rfl hv0 dX10_collect_115 (fun σ7 H locs hm hw => ?_)
          exact w_X10_collect_118 E hr hlk hm  hw (lv_sub hl [] rfl)
    · have hm := o_f c1 hm
      refine lv_iload hx hb dX10_collect_40 (lv_at hl 4 rfl) ?_
      refine lv_iload hx hb dX10_collect_42 (lv_at hl 5 rfl) ?_
      refine lv_ishr hx hb dX10_collect_44 ?_
      refine lv_iconst (v := 1) hx hb dX10_collect_45 (by decide) ?_
      refine lv_iand hx hb dX10_collect_46 ?_
      refine lv_if_eq (tgt := 66) hx hb dX10_collect_47 (by decide) (fun c8 => ?_) (fun c8 => ?_)
      · have hm := o_t c8 hm
        exact w_X10_collect_66 E hr hlk ih hm hv0 hv4 hw (lv_sub hl [0, 1, 2, 3, 4, 5] rfl)
      · have hm := o_f c8 hm
        refine lv_aload_n hx hb dX10_collect_50 rfl (lv_at hl 0 rfl) ?_
        refine q_geta E hw fw_X10_30 rfl hv0 dX10_collect_51 ?_
        refine lv_iload hx hb dX10_collect_54 (lv_at hl 5 rfl) ?_
        refine lv_iload_n hx hb dX10_collect_56 rfl (lv_at hl 1 rfl) ?_
        refine q_cSi [.ref (b + (LC.2.1 v0 2))] E hw hm ms_X10_100 (fun u hu => c_X10_cellOf hu ) rfl rfl hl.1 (Nat.le_of_ble_eq_true rfl) ⟨Nat.le_of_ble_eq_true rfl, Nat.le_of_ble_eq_true rfl⟩ dX10_collect_57 (fun u9 H locs hm hw => ?_)
        refine lv_aload hx hb dX10_collect_60 (lv_at hl 3 rfl) ?_
        refine lv_iconst (v := 0) hx hb dX10_collect_62 (by decide) ?_
        refine q_cVv (κ := 0) (C := RX0) (T := TX0) (N := 2) [] E hw hm mw_X10_178 (fun u hu => c_X0_copyCell hu (tC_10_2 hv0) hv4) rfl (by decide) (tC_10_2 hv0) rfl rfl hl.1 (Nat.le_of_ble_eq_true rfl) ⟨Nat.le_of_ble_eq_true rfl, Nat.le_of_ble_eq_true rfl⟩ dX10_collect_63 (fun u10 H locs hm hw => ?_)
        exact w_X10_collect_66 E hr hlk ih hm hv0 hv4 hw (lv_sub hl [0, 1, 2, 3, 4, 5] rfl)
def f_X10_collect (v0 : Nat) (v1 : Int32) (v2 : Int32) (v3 : Int32) (v4 : Nat) (σ : ST) : Option (Int32 × ST) :=
  (f_X10_firstReached v0 v1 v2 σ).bind fun u11 =>
  if u11.1 = 0 then ((ckZ 0).bind fun z => some (z, u11.2)) else ((f_X10_joinSet v0 u11.1 v1 v4 0 u11.2).bind fun u13 =>
  k_X10_collect_28 FU v0 v1 v3 v4 u11.1 0 u13)
set_option maxRecDepth 20000 in
set_option maxHeartbeats 1000000 in
theorem w_X10_collect_0 {p : Program} {l : Launch} {e : Env} {s : State} {m : MethodId} {args : Array Value} {below : List Frame} {meth : Method} {c : Code} {D : va_G} {cy : Nat → ClassId} {b : Nat} (E : CX p m c cX10_collect 7 s args RX10 D cy LC) (hr : meth.sig.returnType = some .boolean) (hlk : meth.locks = false) {r : Int32 × ST} {v0 : Nat} {v1 : Int32} {v2 : Int32} {v3 : Int32} {v4 : Nat} {σ : ST} {H : Heap} {locs : List Loc} {ls : Array Slot} (hm : f_X10_collect v0 v1 v2 v3 v4 σ = some r) (hv0 : LC.1 v0 = 10) (hv4 : LC.1 v4 = 0) (hw : PH D cy LC b σ s H locs) (hl : lv_has ls 7 [(0, .ref (b + v0)), (1, .int v1), (2, .int v2), (3, .int v3), (4, .ref (b + v4))]) : W p l e (rmD 4) s m args below meth c H locs 0 0 (MQ below (QcP D cy LC b (some (.int r.1)) r.2) args s 0 0 (inP LC b)) (F0 m 0 ls []) := by
  have hx := E.1.1
  have hb := E.1.2.1
  unfold f_X10_collect at hm
  refine lv_aload_n hx hb dX10_collect_0 rfl (lv_at hl 0 rfl) ?_
  refine lv_iload_n hx hb dX10_collect_1 rfl (lv_at hl 1 rfl) ?_
  refine lv_iload_n hx hb dX10_collect_2 rfl (lv_at hl 2 rfl) ?_
  refine q_cVi (κ := 10) (C := RX10) (T := TX10) (N := 12) [] E hw hm mw_X10_171 (fun u hu => c_X10_firstReached hu hv0) rfl (by decide) hv0 rfl rfl hl.1 (Nat.le_of_ble_eq_true rfl) ⟨Nat.le_of_ble_eq_true rfl, Nat.le_of_ble_eq_true rfl⟩ dX10_collect_3 (fun u11 H locs hm hw => ?_)
  refine lv_istore (lv' := [(5, .int u11.1), (0, .ref (b + v0)), (1, .int v1), (2, .int v2), (3, .int v3), (4, .ref (b + v4))]) hx hb dX10_collect_6 hl (by decide) rfl (fun ls hl => ?_)
  refine lv_iload hx hb dX10_collect_8 (lv_at hl 0 rfl) ?_
  refine lv_if_ne (tgt := 15) hx hb dX10_collect_10 (by decide) (fun c12 => ?_) (fun c12 => ?_)
  · have hm := o_f c12 hm
    refine lv_aload_n hx hb dX10_collect_15 rfl (lv_at hl 1 rfl) ?_
    refine lv_iload hx hb dX10_collect_16 (lv_at hl 0 rfl) ?_
    refine lv_iload_n hx hb dX10_collect_18 rfl (lv_at hl 2 rfl) ?_
    refine lv_aload hx hb dX10_collect_19 (lv_at hl 5 rfl) ?_
    refine lv_iconst (v := 0) hx hb dX10_collect_21 (by decide) ?_
    refine q_cVv (κ := 10) (C := RX10) (T := TX10) (N := 12) [] E hw hm mw_X10_174 (fun u hu => c_X10_joinSet hu hv0 hv4) rfl (by decide) hv0 rfl rfl hl.1 (Nat.le_of_ble_eq_true rfl) ⟨Nat.le_of_ble_eq_true rfl, Nat.le_of_ble_eq_true rfl⟩ dX10_collect_22 (fun u13 H locs hm hw => ?_)
    refine lv_iconst (v := 0) hx hb dX10_collect_25 (by decide) ?_
    refine lv_istore (lv' := [(6, .int 0), (5, .int u11.1), (0, .ref (b + v0)), (1, .int v1), (2, .int v2), (3, .int v3), (4, .ref (b + v4))]) hx hb dX10_collect_26 hl (by decide) rfl (fun ls hl => ?_)
    exact w_X10_collect_28 E hr hlk _ _ _ _ _ _ _ _ _ _ _ hm hv0 hv4 hw (lv_sub hl [2, 3, 5, 6, 1, 0] rfl)
  · have hm := o_t c12 hm
    refine lv_iconst (v := 0) hx hb dX10_collect_13 (by decide) ?_
    exact q_zret E hr hlk hw hm dX10_collect_14
theorem c_X10_collect {l : Launch} {D : va_G} {cy : Nat → ClassId} {b : Nat} {v0 : Nat} {v1 : Int32} {v2 : Int32} {v3 : Int32} {v4 : Nat} {σ : ST} {r : Int32 × ST} (hm : f_X10_collect v0 v1 v2 v3 v4 σ = some r) (hv0 : LC.1 v0 = 10) (hv4 : LC.1 v4 = 0) : Met l yX10_collect (wU yX10_collect cX10_collect 7 (some .boolean)) (rmD 4) (PcP D cy LC b [.ref (b + v0), .int v1, .int v2, .int v3, .ref (b + v4)] σ) (QcP D cy LC b (some (.int r.1)) r.2) 0 0 (inP LC b) :=
  q_met (lv := [(0, .ref (b + v0)), (1, .int v1), (2, .int v2), (3, .int v3), (4, .ref (b + v4))]) LC_ok (by decide) (Nat.le_of_ble_eq_true rfl) rfl (fun _ _ _ _ _ _ _ _ _ E hr hlk hw hl => w_X10_collect_0 E hr hlk hm hv0 hv4 hw hl)

def f_X10_areLike (v0 : Nat) (v1 : Int32) (v2 : Int32) (v3 : Int32) (σ : ST) : Option (Int32 × ST) :=
  (f_X10_cellOf v1 v3 σ).bind fun u1 =>
  (f_X10_cellOf v2 v3 u1.2).bind fun u2 =>
  (f_X0_isSame (LC.2.1 v0 2) u1.1 (LC.2.1 v0 2) u2.1 u2.2).bind fun u3 =>
  (ckZ u3.1).bind fun z => some (z, u3.2)
set_option maxRecDepth 20000 in
set_option maxHeartbeats 1000000 in
theorem w_X10_areLike_0 {p : Program} {l : Launch} {e : Env} {s : State} {m : MethodId} {args : Array Value} {below : List Frame} {meth : Method} {c : Code} {D : va_G} {cy : Nat → ClassId} {b : Nat} (E : CX p m c cX10_areLike 4 s args RX10 D cy LC) (hr : meth.sig.returnType = some .boolean) (hlk : meth.locks = false) {r : Int32 × ST} {v0 : Nat} {v1 : Int32} {v2 : Int32} {v3 : Int32} {σ : ST} {H : Heap} {locs : List Loc} {ls : Array Slot} (hm : f_X10_areLike v0 v1 v2 v3 σ = some r) (hv0 : LC.1 v0 = 10) (hw : PH D cy LC b σ s H locs) (hl : lv_has ls 4 [(0, .ref (b + v0)), (1, .int v1), (2, .int v2), (3, .int v3)]) : W p l e (rmD 1) s m args below meth c H locs 0 0 (MQ below (QcP D cy LC b (some (.int r.1)) r.2) args s 0 0 (inP LC b)) (F0 m 0 ls []) := by
  have hx := E.1.1
  have hb := E.1.2.1
  unfold f_X10_areLike at hm
  refine lv_aload_n hx hb dX10_areLike_0 rfl (lv_at hl 0 rfl) ?_
  refine q_geta E hw fw_X10_30 rfl hv0 dX10_areLike_1 ?_
  refine lv_iload_n hx hb dX10_areLike_4 rfl (lv_at hl 1 rfl) ?_
  refine lv_iload_n hx hb dX10_areLike_5 rfl (lv_at hl 3 rfl) ?_
  refine q_cSi [.ref (b + (LC.2.1 v0 2))] E hw hm ms_X10_100 (fun u hu => c_X10_cellOf hu ) rfl rfl hl.1 (Nat.le_of_ble_eq_true rfl) ⟨Nat.le_of_ble_eq_true rfl, Nat.le_of_ble_eq_true rfl⟩ dX10_areLike_6 (fun u1 H locs hm hw => ?_)
  refine lv_aload_n hx hb dX10_areLike_9 rfl (lv_at hl 0 rfl) ?_
  refine q_geta E hw fw_X10_30 rfl hv0 dX10_areLike_10 ?_
  refine lv_iload_n hx hb dX10_areLike_13 rfl (lv_at hl 2 rfl) ?_
  refine lv_iload_n hx hb dX10_areLike_14 rfl (lv_at hl 3 rfl) ?_
  refine q_cSi [.ref (b + (LC.2.1 v0 2)), .int u1.1, .ref (b + (LC.2.1 v0 2))] E hw hm ms_X10_100 (fun u hu => c_X10_cellOf hu ) rfl rfl hl.1 (Nat.le_of_ble_eq_true rfl) ⟨Nat.le_of_ble_eq_true rfl, Nat.le_of_ble_eq_true rfl⟩ dX10_areLike_15 (fun u2 H locs hm hw => ?_)
  refine q_cVi (κ := 0) (C := RX0) (T := TX0) (N := 2) [] E hw hm mw_X10_197 (fun u hu => c_X0_isSame hu (tC_10_2 hv0) (tC_10_2 hv0)) rfl (by decide) (tC_10_2 hv0) rfl rfl hl.1 (Nat.le_of_ble_eq_true rfl) ⟨Nat.le_of_ble_eq_true rfl, Nat.le_of_ble_eq_true rfl⟩ dX10_areLike_18 (fun u3 H locs hm hw => ?_)
  exact q_zret E hr hlk hw hm dX10_areLike_21
theorem c_X10_areLike {l : Launch} {D : va_G} {cy : Nat → ClassId} {b : Nat} {v0 : Nat} {v1 : Int32} {v2 : Int32} {v3 : Int32} {σ : ST} {r : Int32 × ST} (hm : f_X10_areLike v0 v1 v2 v3 σ = some r) (hv0 : LC.1 v0 = 10) : Met l yX10_areLike (wU yX10_areLike cX10_areLike 4 (some .boolean)) (rmD 1) (PcP D cy LC b [.ref (b + v0), .int v1, .int v2, .int v3] σ) (QcP D cy LC b (some (.int r.1)) r.2) 0 0 (inP LC b) :=
  q_met (lv := [(0, .ref (b + v0)), (1, .int v1), (2, .int v2), (3, .int v3)]) LC_ok (by decide) (Nat.le_of_ble_eq_true rfl) rfl (fun _ _ _ _ _ _ _ _ _ E hr hlk hw hl => w_X10_areLike_0 E hr hlk hm hv0 hw hl)

def k_X10_compare_107 (rec21 : Nat → Int32 → Int32 → Int32 → Int32 → ST → Option (Int32 × ST)) (v0 : Nat) (v1 : Int32) (v2 : Int32) (v3 : Int32) (v4 : Int32) (σ : ST) : Option (Int32 × ST) :=
  rec21 v0 v1 v2 v3 (v4 + 1) σ
set_option maxRecDepth 20000 in
set_option maxHeartbeats 1000000 in
theorem w_X10_compare_107 {p : Program} {l : Launch} {e : Env} {s : State} {m : MethodId} {args : Array Value} {below : List Frame} {meth : Method} {c : Code} {D : va_G} {cy : Nat → ClassId} {b : Nat} (E : CX p m c cX10_compare 5 s args RX10 D cy LC) (hr : meth.sig.returnType = some .int) (hlk : meth.locks = false) {r : Int32 × ST} {rec21 : Nat → Int32 → Int32 → Int32 → Int32 → ST → Option (Int32 × ST)} (hrec21 : ∀ (v0 : Nat) (v1 : Int32) (v2 : Int32) (v3 : Int32) (v4 : Int32) (σ : ST) (H : Heap) (locs : List Loc) (ls : Array Slot), rec21 v0 v1 v2 v3 v4 σ = some r → LC.1 v0 = 10 → PH D cy LC b σ s H locs → lv_has ls 5 [(0, .ref (b + v0)), (1, .int v1), (2, .int v2), (3, .int v3), (4, .int v4)] → W p l e (rmD 2) s m args below meth c H locs 0 0 (MQ below (QcP D cy LC b (some (.int r.1)) r.2) args s 0 0 (inP LC b)) (F0 m 21 ls [])) {v0 : Nat} {v1 : Int32} {v2 : Int32} {v3 : Int32} {v4 : Int32} {σ : ST} {H : Heap} {locs : List Loc} {ls : Array Slot} (hm : k_X10_compare_107 rec21 v0 v1 v2 v3 v4 σ = some r) (hv0 : LC.1 v0 = 10) (hw : PH D cy LC b σ s H locs) (hl : lv_has ls 5 [(0, .ref (b + v0)), (1, .int v1), (2, .int v2), (3, .int v3), (4, .int v4)]) : W p l e (rmD 2) s m args below meth c H locs 0 0 (MQ below (QcP D cy LC b (some (.int r.1)) r.2) args s 0 0 (inP LC b)) (F0 m 107 ls []) := by
  have hx := E.1.1
  have hb := E.1.2.1
  unfold k_X10_compare_107 at hm
  refine lv_iinc (v := v4 + 1) (lv' := [(4, .int (v4 + 1)), (0, .ref (b + v0)), (1, .int v1), (2, .int v2), (3, .int v3)]) hx hb dX10_compare_107 hl (k := 4) rfl rfl (by decide) rfl (fun ls hl => ?_)
  refine lv_goto (tgt := 21) hx hb dX10_compare_110 (by decide) ?_
  exact hrec21 _ _ _ _ _ _ _ _ _ hm hv0 hw (lv_sub hl [1, 2, 3, 4, 0] rfl)
def k_X10_compare_21 : Nat → Nat → Int32 → Int32 → Int32 → Int32 → ST → Option (Int32 × ST)
  | 0, _, _, _, _, _, _ => none
  | n + 1, v0, v1, v2, v3, v4, σ => if (gI σ (LC.2.1 v0 0) 7) ≤ v4 then (some (v3, σ)) else ((f_X7_areBothPlaces (LC.2.1 v0 0) v4 v1 v2 σ).bind fun u2 =>
  if u2.1 = 0 then (k_X10_compare_107 (k_X10_compare_21 n) v0 v1 v2 v3 v4 u2.2) else ((f_X10_areLike v0 v1 v2 v4 u2.2).bind fun u4 =>
  if u4.1 = 0 then ((f_X10_cellOf v1 v4 u4.2).bind fun u6 =>
  (f_X10_cellOf v2 v4 u6.2).bind fun u7 =>
  (f_X0_join (LC.2.1 v0 2) u6.1 (LC.2.1 v0 2) u7.1 u7.2).bind fun u8 =>
  (f_X10_cellOf v2 v4 u8).bind fun u9 =>
  (f_X10_cellOf v1 v4 u9.2).bind fun u10 =>
  (f_X0_copyCell (LC.2.1 v0 2) u9.1 (LC.2.1 v0 2) u10.1 u10.2).bind fun u11 =>
  k_X10_compare_107 (k_X10_compare_21 n) v0 v1 v2 (v3 + 1) v4 u11) else (k_X10_compare_107 (k_X10_compare_21 n) v0 v1 v2 v3 v4 u4.2)))
set_option maxRecDepth 20000 in
set_option maxHeartbeats 1000000 in
theorem w_X10_compare_21 {p : Program} {l : Launch} {e : Env} {s : State} {m : MethodId} {args : Array Value} {below : List Frame} {meth : Method} {c : Code} {D : va_G} {cy : Nat → ClassId} {b : Nat} (E : CX p m c cX10_compare 5 s args RX10 D cy LC) (hr : meth.sig.returnType = some .int) (hlk : meth.locks = false) {r : Int32 × ST} : ∀ (n : Nat) (v0 : Nat) (v1 : Int32) (v2 : Int32) (v3 : Int32) (v4 : Int32) (σ : ST) (H : Heap) (locs : List Loc) (ls : Array Slot), k_X10_compare_21 n v0 v1 v2 v3 v4 σ = some r → LC.1 v0 = 10 → PH D cy LC b σ s H locs → lv_has ls 5 [(0, .ref (b + v0)), (1, .int v1), (2, .int v2), (3, .int v3), (4, .int v4)] → W p l e (rmD 2) s m args below meth c H locs 0 0 (MQ below (QcP D cy LC b (some (.int r.1)) r.2) args s 0 0 (inP LC b)) (F0 m 21 ls []) := by
  have hx := E.1.1
  have hb := E.1.2.1
  intro n
  induction n with
  | zero =>
    intro v0 v1 v2 v3 v4 σ H locs ls hm
    cases hm
  | succ n ih =>
    intro v0 v1 v2 v3 v4 σ H locs ls hm hv0 hw hl
    rw [k_X10_compare_21] at hm
    refine lv_iload hx hb dX10_compare_21 (lv_at hl 4 rfl) ?_
    refine lv_aload_n hx hb dX10_compare_23 rfl (lv_at hl 0 rfl) ?_
    refine q_geta E hw fw_X10_12 rfl hv0 dX10_compare_24 ?_
    refine q_geti E hw fw_X10_153 rfl (tC_10_0 hv0) dX10_compare_27 ?_
    refine lv_icmp_ge (tgt := 113) hx hb dX10_compare_30 (by decide) (fun c1 => ?_) (fun c1 => ?_)
    · have hm := o_t c1 hm
      refine lv_iload_n hx hb dX10_compare_113 rfl (lv_at hl 3 rfl) ?_
      exact q_iret E hr hlk hw hm dX10_compare_114
    · have hm := o_f c1 hm
      refine lv_aload_n hx hb dX10_compare_33 rfl (lv_at hl 0 rfl) ?_
      refine q_geta E hw fw_X10_12 rfl hv0 dX10_compare_34 ?_
      refine lv_iload hx hb dX10_compare_37 (lv_at hl 4 rfl) ?_
      refine lv_iload_n hx hb dX10_compare_39 rfl (lv_at hl 1 rfl) ?_
      refine lv_iload_n hx hb dX10_compare_40 rfl (lv_at hl 2 rfl) ?_
      refine q_cVi (κ := 7) (C := RX7) (T := TX7) (N := 12) [] E hw hm mw_X10_190 (fun u hu => c_X7_areBothPlaces hu (tC_10_0 hv0)) rfl (by decide) (tC_10_0 hv0) rfl rfl hl.1 (Nat.le_of_ble_eq_true rfl) ⟨Nat.le_of_ble_eq_true rfl, Nat.le_of_ble_eq_true rfl⟩ dX10_compare_41 (fun u2 H locs hm hw => ?_)
      refine lv_if_eq (tgt := 107) hx hb dX10_compare_44 (by decide) (fun c3 => ?_) (fun c3 => ?_)
      · have hm := o_t c3 hm
        exact w_X10_compare_107 E hr hlk ih hm hv0 hw (lv_sub hl [0, 1, 2, 3, 4] rfl)
      · have hm := o_f c3 hm
        refine lv_aload_n hx hb dX10_compare_47 rfl (lv_at hl 0 rfl) ?_
        refine lv_iload_n hx hb dX10_compare_48 rfl (lv_at hl 1 rfl) ?_
        refine lv_iload_n hx hb dX10_compare_49 rfl (lv_at hl 2 rfl) ?_
        refine lv_iload hx hb dX10_compare_50 (lv_at hl 4 rfl) ?_
        refine q_cVi (κ := 10) (C := RX10) (T := TX10) (N := 12) [] E hw hm mw_X10_194 (fun u hu => c_X10_areLike hu hv0) rfl (by decide) hv0 rfl rfl hl.1 (Nat.le_of_ble_eq_true rfl) ⟨Nat.le_of_ble_eq_true rfl, Nat.le_of_ble_eq_true rfl⟩ dX10_compare_52 (fun u4 H locs hm hw => ?_)
        refine lv_if_ne (tgt := 107) hx hb dX10_compare_55 (by decide) (fun c5 => ?_) (fun c5 => ?_)
        · have hm := o_f c5 hm
          exact w_X10_compare_107 E hr hlk ih hm hv0 hw (lv_sub hl [0, 1, 2, 3, 4] rfl)
        · have hm := o_t c5 hm
          refine lv_aload_n hx hb dX10_compare_58 rfl (lv_at hl 0 rfl) ?_
          refine q_geta E hw fw_X10_30 rfl hv0 dX10_compare_59 ?_
          refine lv_iload_n hx hb dX10_compare_62 rfl (lv_at hl 1 rfl) ?_
          refine lv_iload hx hb dX10_compare_63 (lv_at hl 4 rfl) ?_
          refine q_cSi [.ref (b + (LC.2.1 v0 2))] E hw hm ms_X10_100 (fun u hu => c_X10_cellOf hu ) rfl rfl hl.1 (Nat.le_of_ble_eq_true rfl) ⟨Nat.le_of_ble_eq_true rfl, Nat.le_of_ble_eq_true rfl⟩ dX10_compare_65 (fun u6 H locs hm hw => ?_)
          refine lv_aload_n hx hb dX10_compare_68 rfl (lv_at hl 0 rfl) ?_
          refine q_geta E hw fw_X10_30 rfl hv0 dX10_compare_69 ?_
          refine lv_iload_n hx hb dX10_compare_72 rfl (lv_at hl 2 rfl) ?_
          refine lv_iload hx hb dX10_compare_73 (lv_at hl 4 rfl) ?_
          refine q_cSi [.ref (b + (LC.2.1 v0 2)), .int u6.1, .ref (b + (LC.2.1 v0 2))] E hw hm ms_X10_100 (fun u hu => c_X10_cellOf hu ) rfl rfl hl.1 (Nat.le_of_ble_eq_true rfl) ⟨Nat.le_of_ble_eq_true rfl, Nat.le_of_ble_eq_true rfl⟩ dX10_compare_75 (fun u7 H locs hm hw => ?_)
          refine q_cVv (κ := 0) (C := RX0) (T := TX0) (N := 2) [] E hw hm mw_X10_111 (fun u hu => c_X0_join hu (tC_10_2 hv0) (tC_10_2 hv0)) rfl (by decide) (tC_10_2 hv0) rfl rfl hl.1 (Nat.le_of_ble_eq_true rfl) ⟨Nat.le_of_ble_eq_true rfl, Nat.le_of_ble_eq_true rfl⟩ dX10_compare_78 (fun u8 H locs hm hw => ?_)
          refine lv_aload_n hx hb dX10_compare_81 rfl (lv_at hl 0 rfl) ?_
          refine q_geta E hw fw_X10_30 rfl hv0 dX10_compare_82 ?_
          refine lv_iload_n hx hb dX10_compare_85 rfl (lv_at hl 2 rfl) ?_
          refine lv_iload hx hb dX10_compare_86 (lv_at hl 4 rfl) ?_
          refine q_cSi [.ref (b + (LC.2.1 v0 2))] E hw hm ms_X10_100 (fun u hu => c_X10_cellOf hu ) rfl rfl hl.1 (Nat.le_of_ble_eq_true rfl) ⟨Nat.le_of_ble_eq_true rfl, Nat.le_of_ble_eq_true rfl⟩ dX10_compare_88 (fun u9 H locs hm hw => ?_)
          refine lv_aload_n hx hb dX10_compare_91 rfl (lv_at hl 0 rfl) ?_
          refine q_geta E hw fw_X10_30 rfl hv0 dX10_compare_92 ?_
          refine lv_iload_n hx hb dX10_compare_95 rfl (lv_at hl 1 rfl) ?_
          refine lv_iload hx hb dX10_compare_96 (lv_at hl 4 rfl) ?_
          refine q_cSi [.ref (b + (LC.2.1 v0 2)), .int u9.1, .ref (b + (LC.2.1 v0 2))] E hw hm ms_X10_100 (fun u hu => c_X10_cellOf hu ) rfl rfl hl.1 (Nat.le_of_ble_eq_true rfl) ⟨Nat.le_of_ble_eq_true rfl, Nat.le_of_ble_eq_true rfl⟩ dX10_compare_98 (fun u10 H locs hm hw => ?_)
          refine q_cVv (κ := 0) (C := RX0) (T := TX0) (N := 2) [] E hw hm mw_X10_178 (fun u hu => c_X0_copyCell hu (tC_10_2 hv0) (tC_10_2 hv0)) rfl (by decide) (tC_10_2 hv0) rfl rfl hl.1 (Nat.le_of_ble_eq_true rfl) ⟨Nat.le_of_ble_eq_true rfl, Nat.le_of_ble_eq_true rfl⟩ dX10_compare_101 (fun u11 H locs hm hw => ?_)
          refine lv_iinc (v := v3 + 1) (lv' := [(3, .int (v3 + 1)), (0, .ref (b + v0)), (1, .int v1), (2, .int v2), (4, .int v4)]) hx hb dX10_compare_104 hl (k := 3) rfl rfl (by decide) rfl (fun ls hl => ?_)
          exact w_X10_compare_107 E hr hlk ih hm hv0 hw (lv_sub hl [1, 2, 3, 0, 4] rfl)
def k_X10_compare_14 (σ : ST) : Option (Int32 × ST) :=
  some ((-1), σ)
set_option maxRecDepth 20000 in
set_option maxHeartbeats 1000000 in
theorem w_X10_compare_14 {p : Program} {l : Launch} {e : Env} {s : State} {m : MethodId} {args : Array Value} {below : List Frame} {meth : Method} {c : Code} {D : va_G} {cy : Nat → ClassId} {b : Nat} (E : CX p m c cX10_compare 5 s args RX10 D cy LC) (hr : meth.sig.returnType = some .int) (hlk : meth.locks = false) {r : Int32 × ST} {σ : ST} {H : Heap} {locs : List Loc} {ls : Array Slot} (hm : k_X10_compare_14  σ = some r) (hw : PH D cy LC b σ s H locs) (hl : lv_has ls 5 []) : W p l e (rmD 2) s m args below meth c H locs 0 0 (MQ below (QcP D cy LC b (some (.int r.1)) r.2) args s 0 0 (inP LC b)) (F0 m 14 ls []) := by
  have hx := E.1.1
  have hb := E.1.2.1
  unfold k_X10_compare_14 at hm
  refine lv_iconst (v := (-1)) hx hb dX10_compare_14 (by decide) ?_
  exact q_iret E hr hlk hw hm dX10_compare_15
def f_X10_compare (v0 : Nat) (v1 : Int32) (v2 : Int32) (σ : ST) : Option (Int32 × ST) :=
  if v1 = v2 then (k_X10_compare_14 σ) else ((f_X10_reaches v0 v1 v2 σ).bind fun u13 =>
  if u13.1 = 0 then (k_X10_compare_14 u13.2) else (k_X10_compare_21 FU v0 v1 v2 0 0 u13.2))
set_option maxRecDepth 20000 in
set_option maxHeartbeats 1000000 in
theorem w_X10_compare_0 {p : Program} {l : Launch} {e : Env} {s : State} {m : MethodId} {args : Array Value} {below : List Frame} {meth : Method} {c : Code} {D : va_G} {cy : Nat → ClassId} {b : Nat} (E : CX p m c cX10_compare 5 s args RX10 D cy LC) (hr : meth.sig.returnType = some .int) (hlk : meth.locks = false) {r : Int32 × ST} {v0 : Nat} {v1 : Int32} {v2 : Int32} {σ : ST} {H : Heap} {locs : List Loc} {ls : Array Slot} (hm : f_X10_compare v0 v1 v2 σ = some r) (hv0 : LC.1 v0 = 10) (hw : PH D cy LC b σ s H locs) (hl : lv_has ls 5 [(0, .ref (b + v0)), (1, .int v1), (2, .int v2)]) : W p l e (rmD 2) s m args below meth c H locs 0 0 (MQ below (QcP D cy LC b (some (.int r.1)) r.2) args s 0 0 (inP LC b)) (F0 m 0 ls []) := by
  have hx := E.1.1
  have hb := E.1.2.1
  unfold f_X10_compare at hm
  refine lv_iload_n hx hb dX10_compare_0 rfl (lv_at hl 1 rfl) ?_
  refine lv_iload_n hx hb dX10_compare_1 rfl (lv_at hl 2 rfl) ?_
  refine lv_icmp_eq (tgt := 14) hx hb dX10_compare_2 (by decide) (fun c12 => ?_) (fun c12 => ?_)
  · have hm := o_t c12 hm
    exact w_X10_compare_14 E hr hlk hm  hw (lv_sub hl [] rfl)
  · have hm := o_f c12 hm
    refine lv_aload_n hx hb dX10_compare_5 rfl (lv_at hl 0 rfl) ?_
    refine lv_iload_n hx hb dX10_compare_6 rfl (lv_at hl 1 rfl) ?_
    refine lv_iload_n hx hb dX10_compare_7 rfl (lv_at hl 2 rfl) ?_
    refine q_cVi (κ := 10) (C := RX10) (T := TX10) (N := 12) [] E hw hm mw_X10_142 (fun u hu => c_X10_reaches hu hv0) rfl (by decide) hv0 rfl rfl hl.1 (Nat.le_of_ble_eq_true rfl) ⟨Nat.le_of_ble_eq_true rfl, Nat.le_of_ble_eq_true rfl⟩ dX10_compare_8 (fun u13 H locs hm hw => ?_)
    refine lv_if_ne (tgt := 16) hx hb dX10_compare_11 (by decide) (fun c14 => ?_) (fun c14 => ?_)
    · have hm := o_f c14 hm
      refine lv_iconst (v := 0) hx hb dX10_compare_16 (by decide) ?_
      refine lv_istore_n (lv' := [(3, .int 0), (0, .ref (b + v0)), (1, .int v1), (2, .int v2)]) hx hb dX10_compare_17 rfl hl (by decide) rfl (fun ls hl => ?_)
      refine lv_iconst (v := 0) hx hb dX10_compare_18 (by decide) ?_
      refine lv_istore (lv' := [(4, .int 0), (3, .int 0), (0, .ref (b + v0)), (1, .int v1), (2, .int v2)]) hx hb dX10_compare_19 hl (by decide) rfl (fun ls hl => ?_)
      exact w_X10_compare_21 E hr hlk _ _ _ _ _ _ _ _ _ _ hm hv0 hw (lv_sub hl [2, 3, 4, 1, 0] rfl)
    · have hm := o_t c14 hm
      exact w_X10_compare_14 E hr hlk hm  hw (lv_sub hl [] rfl)
theorem c_X10_compare {l : Launch} {D : va_G} {cy : Nat → ClassId} {b : Nat} {v0 : Nat} {v1 : Int32} {v2 : Int32} {σ : ST} {r : Int32 × ST} (hm : f_X10_compare v0 v1 v2 σ = some r) (hv0 : LC.1 v0 = 10) : Met l yX10_compare (wU yX10_compare cX10_compare 5 (some .int)) (rmD 2) (PcP D cy LC b [.ref (b + v0), .int v1, .int v2] σ) (QcP D cy LC b (some (.int r.1)) r.2) 0 0 (inP LC b) :=
  q_met (lv := [(0, .ref (b + v0)), (1, .int v1), (2, .int v2)]) LC_ok (by decide) (Nat.le_of_ble_eq_true rfl) rfl (fun _ _ _ _ _ _ _ _ _ E hr hlk hw hl => w_X10_compare_0 E hr hlk hm hv0 hw hl)

def k_X10_dropHints_12 : Nat → Nat → Int32 → Int32 → ST → Option (ST)
  | 0, _, _, _, _ => none
  | n + 1, v0, v1, v2, σ => if (gI σ (LC.2.1 v0 0) 7) ≤ v2 then ((stA LC σ (LC.2.1 v0 4) v1 0).bind fun σ2 =>
  some σ2) else ((f_X0_empty (LC.2.1 v0 3) ((v1 * 6) + v2) σ).bind fun u3 =>
  k_X10_dropHints_12 n v0 v1 (v2 + 1) u3)
set_option maxRecDepth 20000 in
set_option maxHeartbeats 1000000 in
theorem w_X10_dropHints_12 {p : Program} {l : Launch} {e : Env} {s : State} {m : MethodId} {args : Array Value} {below : List Frame} {meth : Method} {c : Code} {D : va_G} {cy : Nat → ClassId} {b : Nat} (E : CX p m c cX10_dropHints 3 s args RX10 D cy LC) (hr : meth.sig.returnType = none) (hlk : meth.locks = false) {r : ST} : ∀ (n : Nat) (v0 : Nat) (v1 : Int32) (v2 : Int32) (σ : ST) (H : Heap) (locs : List Loc) (ls : Array Slot), k_X10_dropHints_12 n v0 v1 v2 σ = some r → LC.1 v0 = 10 → PH D cy LC b σ s H locs → lv_has ls 3 [(0, .ref (b + v0)), (1, .int v1), (2, .int v2)] → W p l e (rmD 3) s m args below meth c H locs 0 0 (MQ below (QcP D cy LC b none r) args s 0 0 (inP LC b)) (F0 m 12 ls []) := by
  have hx := E.1.1
  have hb := E.1.2.1
  intro n
  induction n with
  | zero =>
    intro v0 v1 v2 σ H locs ls hm
    cases hm
  | succ n ih =>
    intro v0 v1 v2 σ H locs ls hm hv0 hw hl
    rw [k_X10_dropHints_12] at hm
    refine lv_iload_n hx hb dX10_dropHints_12 rfl (lv_at hl 2 rfl) ?_
    refine lv_aload_n hx hb dX10_dropHints_13 rfl (lv_at hl 0 rfl) ?_
    refine q_geta E hw fw_X10_12 rfl hv0 dX10_dropHints_14 ?_
    refine q_geti E hw fw_X10_153 rfl (tC_10_0 hv0) dX10_dropHints_17 ?_
    refine lv_icmp_ge (tgt := 42) hx hb dX10_dropHints_20 (by decide) (fun c1 => ?_) (fun c1 => ?_)
    · have hm := o_t c1 hm
      refine lv_aload_n hx hb dX10_dropHints_42 rfl (lv_at hl 0 rfl) ?_
      refine q_geta E hw fw_X10_37 rfl hv0 dX10_dropHints_43 ?_
      refine lv_iload_n hx hb dX10_dropHints_46 rfl (lv_at hl 1 rfl) ?_
      refine lv_iconst (v := 0) hx hb dX10_dropHints_47 (by decide) ?_
      refine q_iast E hw (tC_10_4 hv0) hm dX10_dropHints_48 (fun σ2 H locs hm hw => ?_)
      exact q_vret E hr hlk hw hm dX10_dropHints_49
    · have hm := o_f c1 hm
      refine lv_aload_n hx hb dX10_dropHints_23 rfl (lv_at hl 0 rfl) ?_
      refine q_geta E hw fw_X10_34 rfl hv0 dX10_dropHints_24 ?_
      refine lv_iload_n hx hb dX10_dropHints_27 rfl (lv_at hl 1 rfl) ?_
      refine lv_bipush (v := 6) hx hb dX10_dropHints_28 (by decide) ?_
      refine lv_imul hx hb dX10_dropHints_30 ?_
      refine lv_iload_n hx hb dX10_dropHints_31 rfl (lv_at hl 2 rfl) ?_
      refine lv_iadd hx hb dX10_dropHints_32 ?_
      refine q_cVv (κ := 0) (C := RX0) (T := TX0) (N := 2) [] E hw hm mw_X10_156 (fun u hu => c_X0_empty hu (tC_10_3 hv0)) rfl (by decide) (tC_10_3 hv0) rfl rfl hl.1 (Nat.le_of_ble_eq_true rfl) ⟨Nat.le_of_ble_eq_true rfl, Nat.le_of_ble_eq_true rfl⟩ dX10_dropHints_33 (fun u3 H locs hm hw => ?_)
      refine lv_iinc (v := v2 + 1) (lv' := [(2, .int (v2 + 1)), (0, .ref (b + v0)), (1, .int v1)]) hx hb dX10_dropHints_36 hl (k := 2) rfl rfl (by decide) rfl (fun ls hl => ?_)
      refine lv_goto (tgt := 12) hx hb dX10_dropHints_39 (by decide) ?_
      exact ih _ _ _ _ _ _ _ hm hv0 hw (lv_sub hl [1, 2, 0] rfl)
def f_X10_dropHints (v0 : Nat) (v1 : Int32) (σ : ST) : Option (ST) :=
  (ldA LC σ (LC.2.1 v0 4) v1).bind fun a4 =>
  if a4 = 0 then (some σ) else (k_X10_dropHints_12 FU v0 v1 0 σ)
set_option maxRecDepth 20000 in
set_option maxHeartbeats 1000000 in
theorem w_X10_dropHints_0 {p : Program} {l : Launch} {e : Env} {s : State} {m : MethodId} {args : Array Value} {below : List Frame} {meth : Method} {c : Code} {D : va_G} {cy : Nat → ClassId} {b : Nat} (E : CX p m c cX10_dropHints 3 s args RX10 D cy LC) (hr : meth.sig.returnType = none) (hlk : meth.locks = false) {r : ST} {v0 : Nat} {v1 : Int32} {σ : ST} {H : Heap} {locs : List Loc} {ls : Array Slot} (hm : f_X10_dropHints v0 v1 σ = some r) (hv0 : LC.1 v0 = 10) (hw : PH D cy LC b σ s H locs) (hl : lv_has ls 3 [(0, .ref (b + v0)), (1, .int v1)]) : W p l e (rmD 3) s m args below meth c H locs 0 0 (MQ below (QcP D cy LC b none r) args s 0 0 (inP LC b)) (F0 m 0 ls []) := by
  have hx := E.1.1
  have hb := E.1.2.1
  unfold f_X10_dropHints at hm
  refine lv_aload_n hx hb dX10_dropHints_0 rfl (lv_at hl 0 rfl) ?_
  refine q_geta E hw fw_X10_37 rfl hv0 dX10_dropHints_1 ?_
  refine lv_iload_n hx hb dX10_dropHints_4 rfl (lv_at hl 1 rfl) ?_
  refine q_iald E hw (tC_10_4 hv0) hm dX10_dropHints_5 (fun a4 hm => ?_)
  refine lv_if_ne (tgt := 10) hx hb dX10_dropHints_6 (by decide) (fun c5 => ?_) (fun c5 => ?_)
  · have hm := o_f c5 hm
    refine lv_iconst (v := 0) hx hb dX10_dropHints_10 (by decide) ?_
    refine lv_istore_n (lv' := [(2, .int 0), (0, .ref (b + v0)), (1, .int v1)]) hx hb dX10_dropHints_11 rfl hl (by decide) rfl (fun ls hl => ?_)
    exact w_X10_dropHints_12 E hr hlk _ _ _ _ _ _ _ _ hm hv0 hw (lv_sub hl [1, 2, 0] rfl)
  · have hm := o_t c5 hm
    exact q_vret E hr hlk hw hm dX10_dropHints_9
theorem c_X10_dropHints {l : Launch} {D : va_G} {cy : Nat → ClassId} {b : Nat} {v0 : Nat} {v1 : Int32} {σ : ST} {r : ST} (hm : f_X10_dropHints v0 v1 σ = some r) (hv0 : LC.1 v0 = 10) : Met l yX10_dropHints (wU yX10_dropHints cX10_dropHints 3 (none)) (rmD 3) (PcP D cy LC b [.ref (b + v0), .int v1] σ) (QcP D cy LC b none r) 0 0 (inP LC b) :=
  q_met (lv := [(0, .ref (b + v0)), (1, .int v1)]) LC_ok (by decide) (Nat.le_of_ble_eq_true rfl) rfl (fun _ _ _ _ _ _ _ _ _ E hr hlk hw hl => w_X10_dropHints_0 E hr hlk hm hv0 hw hl)

def k_X10_handTo_55 (rec10 : Nat → Int32 → Int32 → Int32 → Int32 → ST → Option (Int32 × ST)) (v0 : Nat) (v1 : Int32) (v2 : Int32) (v3 : Int32) (v4 : Int32) (σ : ST) : Option (Int32 × ST) :=
  rec10 v0 v1 v2 v3 (v4 + 1) σ
set_option maxRecDepth 20000 in
set_option maxHeartbeats 1000000 in
theorem w_X10_handTo_55 {p : Program} {l : Launch} {e : Env} {s : State} {m : MethodId} {args : Array Value} {below : List Frame} {meth : Method} {c : Code} {D : va_G} {cy : Nat → ClassId} {b : Nat} (E : CX p m c cX10_handTo 5 s args RX10 D cy LC) (hr : meth.sig.returnType = some .int) (hlk : meth.locks = false) {r : Int32 × ST} {rec10 : Nat → Int32 → Int32 → Int32 → Int32 → ST → Option (Int32 × ST)} (hrec10 : ∀ (v0 : Nat) (v1 : Int32) (v2 : Int32) (v3 : Int32) (v4 : Int32) (σ : ST) (H : Heap) (locs : List Loc) (ls : Array Slot), rec10 v0 v1 v2 v3 v4 σ = some r → LC.1 v0 = 10 → PH D cy LC b σ s H locs → lv_has ls 5 [(0, .ref (b + v0)), (1, .int v1), (2, .int v2), (3, .int v3), (4, .int v4)] → W p l e (rmD 4) s m args below meth c H locs 0 0 (MQ below (QcP D cy LC b (some (.int r.1)) r.2) args s 0 0 (inP LC b)) (F0 m 10 ls [])) {v0 : Nat} {v1 : Int32} {v2 : Int32} {v3 : Int32} {v4 : Int32} {σ : ST} {H : Heap} {locs : List Loc} {ls : Array Slot} (hm : k_X10_handTo_55 rec10 v0 v1 v2 v3 v4 σ = some r) (hv0 : LC.1 v0 = 10) (hw : PH D cy LC b σ s H locs) (hl : lv_has ls 5 [(0, .ref (b + v0)), (1, .int v1), (2, .int v2), (3, .int v3), (4, .int v4)]) : W p l e (rmD 4) s m args below meth c H locs 0 0 (MQ below (QcP D cy LC b (some (.int r.1)) r.2) args s 0 0 (inP LC b)) (F0 m 55 ls []) := by
  have hx := E.1.1
  have hb := E.1.2.1
  unfold k_X10_handTo_55 at hm
  refine lv_iinc (v := v4 + 1) (lv' := [(4, .int (v4 + 1)), (0, .ref (b + v0)), (1, .int v1), (2, .int v2), (3, .int v3)]) hx hb dX10_handTo_55 hl (k := 4) rfl rfl (by decide) rfl (fun ls hl => ?_)
  refine lv_goto (tgt := 10) hx hb dX10_handTo_58 (by decide) ?_
  exact hrec10 _ _ _ _ _ _ _ _ _ hm hv0 hw (lv_sub hl [1, 2, 3, 4, 0] rfl)
def k_X10_handTo_10 : Nat → Nat → Int32 → Int32 → Int32 → Int32 → ST → Option (Int32 × ST)
  | 0, _, _, _, _, _, _ => none
  | n + 1, v0, v1, v2, v3, v4, σ => if (gI σ (LC.2.1 v0 0) 7) ≤ v4 then ((f_X10_dropHints v0 v1 σ).bind fun u2 =>
  (f_J6_bitCount_0f7a4 v3 u2).bind fun u3 =>
  some (u3.1, u3.2)) else (if ((v3 >>> (v4 &&& 31)) &&& 1) = 0 then (k_X10_handTo_55 (k_X10_handTo_10 n) v0 v1 v2 v3 v4 σ) else ((f_X10_cellOf v2 v4 σ).bind fun u5 =>
  (f_X0_join (LC.2.1 v0 2) u5.1 (LC.2.1 v0 3) ((v1 * 6) + v4) u5.2).bind fun u6 =>
  k_X10_handTo_55 (k_X10_handTo_10 n) v0 v1 v2 v3 v4 u6))
set_option maxRecDepth 20000 in
set_option maxHeartbeats 1000000 in
theorem w_X10_handTo_10 {p : Program} {l : Launch} {e : Env} {s : State} {m : MethodId} {args : Array Value} {below : List Frame} {meth : Method} {c : Code} {D : va_G} {cy : Nat → ClassId} {b : Nat} (E : CX p m c cX10_handTo 5 s args RX10 D cy LC) (hr : meth.sig.returnType = some .int) (hlk : meth.locks = false) {r : Int32 × ST} : ∀ (n : Nat) (v0 : Nat) (v1 : Int32) (v2 : Int32) (v3 : Int32) (v4 : Int32) (σ : ST) (H : Heap) (locs : List Loc) (ls : Array Slot), k_X10_handTo_10 n v0 v1 v2 v3 v4 σ = some r → LC.1 v0 = 10 → PH D cy LC b σ s H locs → lv_has ls 5 [(0, .ref (b + v0)), (1, .int v1), (2, .int v2), (3, .int v3), (4, .int v4)] → W p l e (rmD 4) s m args below meth c H locs 0 0 (MQ below (QcP D cy LC b (some (.int r.1)) r.2) args s 0 0 (inP LC b)) (F0 m 10 ls []) := by
  have hx := E.1.1
  have hb := E.1.2.1
  intro n
  induction n with
  | zero =>
    intro v0 v1 v2 v3 v4 σ H locs ls hm
    cases hm
  | succ n ih =>
    intro v0 v1 v2 v3 v4 σ H locs ls hm hv0 hw hl
    rw [k_X10_handTo_10] at hm
    refine lv_iload hx hb dX10_handTo_10 (lv_at hl 4 rfl) ?_
    refine lv_aload_n hx hb dX10_handTo_12 rfl (lv_at hl 0 rfl) ?_
    refine q_geta E hw fw_X10_12 rfl hv0 dX10_handTo_13 ?_
    refine q_geti E hw fw_X10_153 rfl (tC_10_0 hv0) dX10_handTo_16 ?_
    refine lv_icmp_ge (tgt := 61) hx hb dX10_handTo_19 (by decide) (fun c1 => ?_) (fun c1 => ?_)
    · have hm := o_t c1 hm
      refine lv_aload_n hx hb dX10_handTo_61 rfl (lv_at hl 0 rfl) ?_
      refine lv_iload_n hx hb dX10_handTo_62 rfl (lv_at hl 1 rfl) ?_
      refine q_cVv (κ := 10) (C := RX10) (T := TX10) (N := 12) [] E hw hm mw_X10_165 (fun u hu => c_X10_dropHints hu hv0) rfl (by decide) hv0 rfl rfl hl.1 (Nat.le_of_ble_eq_true rfl) ⟨Nat.le_of_ble_eq_true rfl, Nat.le_of_ble_eq_true rfl⟩ dX10_handTo_63 (fun u2 H locs hm hw => ?_)
      refine lv_iload_n hx hb dX10_handTo_66 rfl (lv_at hl 3 rfl) ?_
      refine q_cSi [] E hw hm ms_X10_159 (fun u hu => c_J6_bitCount_0f7a4 hu ) rfl rfl hl.1 (Nat.le_of_ble_eq_true rfl) ⟨Nat.le_of_ble_eq_true rfl, Nat.le_of_ble_eq_true rfl⟩ dX10_handTo_67 (fun u3 H locs hm hw => ?_)
      exact q_iret E hr hlk hw hm dX10_handTo_70
    · have hm := o_f c1 hm
      refine lv_iload_n hx hb dX10_handTo_22 rfl (lv_at hl 3 rfl) ?_
      refine lv_iload hx hb dX10_handTo_23 (lv_at hl 4 rfl) ?_
      refine lv_ishr hx hb dX10_handTo_25 ?_
      refine lv_iconst (v := 1) hx hb dX10_handTo_26 (by decide) ?_
      refine lv_iand hx hb dX10_handTo_27 ?_
      refine lv_if_eq (tgt := 55) hx hb dX10_handTo_28 (by decide) (fun c4 => ?_) (fun c4 => ?_)
      · have hm := o_t c4 hm
        exact w_X10_handTo_55 E hr hlk ih hm hv0 hw (lv_sub hl [0, 1, 2, 3, 4] rfl)
      · have hm := o_f c4 hm
        refine lv_aload_n hx hb dX10_handTo_31 rfl (lv_at hl 0 rfl) ?_
        refine q_geta E hw fw_X10_30 rfl hv0 dX10_handTo_32 ?_
        refine lv_iload_n hx hb dX10_handTo_35 rfl (lv_at hl 2 rfl) ?_
        refine lv_iload hx hb dX10_handTo_36 (lv_at hl 4 rfl) ?_
        refine q_cSi [.ref (b + (LC.2.1 v0 2))] E hw hm ms_X10_100 (fun u hu => c_X10_cellOf hu ) rfl rfl hl.1 (Nat.le_of_ble_eq_true rfl) ⟨Nat.le_of_ble_eq_true rfl, Nat.le_of_ble_eq_true rfl⟩ dX10_handTo_38 (fun u5 H locs hm hw => ?_)
        refine lv_aload_n hx hb dX10_handTo_41 rfl (lv_at hl 0 rfl) ?_
        refine q_geta E hw fw_X10_34 rfl hv0 dX10_handTo_42 ?_
        refine lv_iload_n hx hb dX10_handTo_45 rfl (lv_at hl 1 rfl) ?_
        refine lv_bipush (v := 6) hx hb dX10_handTo_46 (by decide) ?_
        refine lv_imul hx hb dX10_handTo_48 ?_
        refine lv_iload hx hb dX10_handTo_49 (lv_at hl 4 rfl) ?_
        refine lv_iadd hx hb dX10_handTo_51 ?_
        refine q_cVv (κ := 0) (C := RX0) (T := TX0) (N := 2) [] E hw hm mw_X10_111 (fun u hu => c_X0_join hu (tC_10_2 hv0) (tC_10_3 hv0)) rfl (by decide) (tC_10_2 hv0) rfl rfl hl.1 (Nat.le_of_ble_eq_true rfl) ⟨Nat.le_of_ble_eq_true rfl, Nat.le_of_ble_eq_true rfl⟩ dX10_handTo_52 (fun u6 H locs hm hw => ?_)
        exact w_X10_handTo_55 E hr hlk ih hm hv0 hw (lv_sub hl [0, 1, 2, 3, 4] rfl)
def f_X10_handTo (v0 : Nat) (v1 : Int32) (v2 : Int32) (σ : ST) : Option (Int32 × ST) :=
  (ldA LC σ (LC.2.1 v0 4) v1).bind fun a7 =>
  k_X10_handTo_10 FU v0 v1 v2 a7 0 σ
set_option maxRecDepth 20000 in
set_option maxHeartbeats 1000000 in
theorem w_X10_handTo_0 {p : Program} {l : Launch} {e : Env} {s : State} {m : MethodId} {args : Array Value} {below : List Frame} {meth : Method} {c : Code} {D : va_G} {cy : Nat → ClassId} {b : Nat} (E : CX p m c cX10_handTo 5 s args RX10 D cy LC) (hr : meth.sig.returnType = some .int) (hlk : meth.locks = false) {r : Int32 × ST} {v0 : Nat} {v1 : Int32} {v2 : Int32} {σ : ST} {H : Heap} {locs : List Loc} {ls : Array Slot} (hm : f_X10_handTo v0 v1 v2 σ = some r) (hv0 : LC.1 v0 = 10) (hw : PH D cy LC b σ s H locs) (hl : lv_has ls 5 [(0, .ref (b + v0)), (1, .int v1), (2, .int v2)]) : W p l e (rmD 4) s m args below meth c H locs 0 0 (MQ below (QcP D cy LC b (some (.int r.1)) r.2) args s 0 0 (inP LC b)) (F0 m 0 ls []) := by
  have hx := E.1.1
  have hb := E.1.2.1
  unfold f_X10_handTo at hm
  refine lv_aload_n hx hb dX10_handTo_0 rfl (lv_at hl 0 rfl) ?_
  refine q_geta E hw fw_X10_37 rfl hv0 dX10_handTo_1 ?_
  refine lv_iload_n hx hb dX10_handTo_4 rfl (lv_at hl 1 rfl) ?_
  refine q_iald E hw (tC_10_4 hv0) hm dX10_handTo_5 (fun a7 hm => ?_)
  refine lv_istore_n (lv' := [(3, .int a7), (0, .ref (b + v0)), (1, .int v1), (2, .int v2)]) hx hb dX10_handTo_6 rfl hl (by decide) rfl (fun ls hl => ?_)
  refine lv_iconst (v := 0) hx hb dX10_handTo_7 (by decide) ?_
  refine lv_istore (lv' := [(4, .int 0), (3, .int a7), (0, .ref (b + v0)), (1, .int v1), (2, .int v2)]) hx hb dX10_handTo_8 hl (by decide) rfl (fun ls hl => ?_)
  exact w_X10_handTo_10 E hr hlk _ _ _ _ _ _ _ _ _ _ hm hv0 hw (lv_sub hl [2, 3, 4, 1, 0] rfl)
theorem c_X10_handTo {l : Launch} {D : va_G} {cy : Nat → ClassId} {b : Nat} {v0 : Nat} {v1 : Int32} {v2 : Int32} {σ : ST} {r : Int32 × ST} (hm : f_X10_handTo v0 v1 v2 σ = some r) (hv0 : LC.1 v0 = 10) : Met l yX10_handTo (wU yX10_handTo cX10_handTo 5 (some .int)) (rmD 4) (PcP D cy LC b [.ref (b + v0), .int v1, .int v2] σ) (QcP D cy LC b (some (.int r.1)) r.2) 0 0 (inP LC b) :=
  q_met (lv := [(0, .ref (b + v0)), (1, .int v1), (2, .int v2)]) LC_ok (by decide) (Nat.le_of_ble_eq_true rfl) rfl (fun _ _ _ _ _ _ _ _ _ E hr hlk hw hl => w_X10_handTo_0 E hr hlk hm hv0 hw hl)

def k_X10_handOn_51 (rec17 : Nat → Int32 → Int32 → Int32 → ST → Option (Int32 × ST)) (v0 : Nat) (v1 : Int32) (v2 : Int32) (v3 : Int32) (σ : ST) : Option (Int32 × ST) :=
  rec17 v0 v1 v2 (v3 + 1) σ
set_option maxRecDepth 20000 in
set_option maxHeartbeats 1000000 in
theorem w_X10_handOn_51 {p : Program} {l : Launch} {e : Env} {s : State} {m : MethodId} {args : Array Value} {below : List Frame} {meth : Method} {c : Code} {D : va_G} {cy : Nat → ClassId} {b : Nat} (E : CX p m c cX10_handOn 4 s args RX10 D cy LC) (hr : meth.sig.returnType = some .int) (hlk : meth.locks = false) {r : Int32 × ST} {rec17 : Nat → Int32 → Int32 → Int32 → ST → Option (Int32 × ST)} (hrec17 : ∀ (v0 : Nat) (v1 : Int32) (v2 : Int32) (v3 : Int32) (σ : ST) (H : Heap) (locs : List Loc) (ls : Array Slot), rec17 v0 v1 v2 v3 σ = some r → LC.1 v0 = 10 → PH D cy LC b σ s H locs → lv_has ls 4 [(0, .ref (b + v0)), (1, .int v1), (2, .int v2), (3, .int v3)] → W p l e (rmD 5) s m args below meth c H locs 0 0 (MQ below (QcP D cy LC b (some (.int r.1)) r.2) args s 0 0 (inP LC b)) (F0 m 17 ls [])) {v0 : Nat} {v1 : Int32} {v2 : Int32} {v3 : Int32} {σ : ST} {H : Heap} {locs : List Loc} {ls : Array Slot} (hm : k_X10_handOn_51 rec17 v0 v1 v2 v3 σ = some r) (hv0 : LC.1 v0 = 10) (hw : PH D cy LC b σ s H locs) (hl : lv_has ls 4 [(0, .ref (b + v0)), (1, .int v1), (2, .int v2), (3, .int v3)]) : W p l e (rmD 5) s m args below meth c H locs 0 0 (MQ below (QcP D cy LC b (some (.int r.1)) r.2) args s 0 0 (inP LC b)) (F0 m 51 ls []) := by
  have hx := E.1.1
  have hb := E.1.2.1
  unfold k_X10_handOn_51 at hm
  refine lv_iinc (v := v3 + 1) (lv' := [(3, .int (v3 + 1)), (0, .ref (b + v0)), (1, .int v1), (2, .int v2)]) hx hb dX10_handOn_51 hl (k := 3) rfl rfl (by decide) rfl (fun ls hl => ?_)
  refine lv_goto (tgt := 17) hx hb dX10_handOn_54 (by decide) ?_
  exact hrec17 _ _ _ _ _ _ _ _ hm hv0 hw (lv_sub hl [1, 2, 3, 0] rfl)
def k_X10_handOn_17 (rec4 : Nat → Int32 → Int32 → ST → Option (Int32 × ST)) : Nat → Nat → Int32 → Int32 → Int32 → ST → Option (Int32 × ST)
  | 0, _, _, _, _, _ => none
  | n + 1, v0, v1, v2, v3, σ => if (gI σ (LC.2.1 v0 0) 6) ≤ v3 then (rec4 v0 v1 (v2 + 1) σ) else ((f_X10_reaches v0 v2 v3 σ).bind fun u2 =>
  if u2.1 = 0 then (k_X10_handOn_51 (k_X10_handOn_17 rec4 n) v0 v1 v2 v3 u2.2) else ((f_X10_handTo v0 ((v2 * 6) + v3) v3 u2.2).bind fun u4 =>
  k_X10_handOn_51 (k_X10_handOn_17 rec4 n) v0 (v1 + u4.1) v2 v3 u4.2))
set_option maxRecDepth 20000 in
set_option maxHeartbeats 1000000 in
theorem w_X10_handOn_17 {p : Program} {l : Launch} {e : Env} {s : State} {m : MethodId} {args : Array Value} {below : List Frame} {meth : Method} {c : Code} {D : va_G} {cy : Nat → ClassId} {b : Nat} (E : CX p m c cX10_handOn 4 s args RX10 D cy LC) (hr : meth.sig.returnType = some .int) (hlk : meth.locks = false) {r : Int32 × ST} {rec4 : Nat → Int32 → Int32 → ST → Option (Int32 × ST)} (hrec4 : ∀ (v0 : Nat) (v1 : Int32) (v2 : Int32) (σ : ST) (H : Heap) (locs : List Loc) (ls : Array Slot), rec4 v0 v1 v2 σ = some r → LC.1 v0 = 10 → PH D cy LC b σ s H locs → lv_has ls 4 [(0, .ref (b + v0)), (1, .int v1), (2, .int v2)] → W p l e (rmD 5) s m args below meth c H locs 0 0 (MQ below (QcP D cy LC b (some (.int r.1)) r.2) args s 0 0 (inP LC b)) (F0 m 4 ls [])) : ∀ (n : Nat) (v0 : Nat) (v1 : Int32) (v2 : Int32) (v3 : Int32) (σ : ST) (H : Heap) (locs : List Loc) (ls : Array Slot), k_X10_handOn_17 rec4 n v0 v1 v2 v3 σ = some r → LC.1 v0 = 10 → PH D cy LC b σ s H locs → lv_has ls 4 [(0, .ref (b + v0)), (1, .int v1), (2, .int v2), (3, .int v3)] → W p l e (rmD 5) s m args below meth c H locs 0 0 (MQ below (QcP D cy LC b (some (.int r.1)) r.2) args s 0 0 (inP LC b)) (F0 m 17 ls []) := by
  have hx := E.1.1
  have hb := E.1.2.1
  intro n
  induction n with
  | zero =>
    intro v0 v1 v2 v3 σ H locs ls hm
    cases hm
  | succ n ih =>
    intro v0 v1 v2 v3 σ H locs ls hm hv0 hw hl
    rw [k_X10_handOn_17] at hm
    refine lv_iload_n hx hb dX10_handOn_17 rfl (lv_at hl 3 rfl) ?_
    refine lv_aload_n hx hb dX10_handOn_18 rfl (lv_at hl 0 rfl) ?_
    refine q_geta E hw fw_X10_12 rfl hv0 dX10_handOn_19 ?_
    refine q_geti E hw fw_X10_131 rfl (tC_10_0 hv0) dX10_handOn_22 ?_
    refine lv_icmp_ge (tgt := 57) hx hb dX10_handOn_25 (by decide) (fun c1 => ?_) (fun c1 => ?_)
    · have hm := o_t c1 hm
      refine lv_iinc (v := v2 + 1) (lv' := [(2, .int (v2 + 1)), (0, .ref (b + v0)), (1, .int v1), (3, .int v3)]) hx hb dX10_handOn_57 hl (k := 2) rfl rfl (by decide) rfl (fun ls hl => ?_)
      refine lv_goto (tgt := 4) hx hb dX10_handOn_60 (by decide) ?_
      exact hrec4 _ _ _ _ _ _ _ hm hv0 hw (lv_sub hl [1, 2, 0] rfl)
    · have hm := o_f c1 hm
      refine lv_aload_n hx hb dX10_handOn_28 rfl (lv_at hl 0 rfl) ?_
      refine lv_iload_n hx hb dX10_handOn_29 rfl (lv_at hl 2 rfl) ?_
      refine lv_iload_n hx hb dX10_handOn_30 rfl (lv_at hl 3 rfl) ?_
      refine q_cVi (κ := 10) (C := RX10) (T := TX10) (N := 12) [] E hw hm mw_X10_142 (fun u hu => c_X10_reaches hu hv0) rfl (by decide) hv0 rfl rfl hl.1 (Nat.le_of_ble_eq_true rfl) ⟨Nat.le_of_ble_eq_true rfl, Nat.le_of_ble_eq_true rfl⟩ dX10_handOn_31 (fun u2 H locs hm hw => ?_)
      refine lv_if_eq (tgt := 51) hx hb dX10_handOn_34 (by decide) (fun c3 => ?_) (fun c3 => ?_)
      · have hm := o_t c3 hm
        exact w_X10_handOn_51 E hr hlk ih hm hv0 hw (lv_sub hl [0, 1, 2, 3] rfl)
      · have hm := o_f c3 hm
        refine lv_iload_n hx hb dX10_handOn_37 rfl (lv_at hl 1 rfl) ?_
        refine lv_aload_n hx hb dX10_handOn_38 rfl (lv_at hl 0 rfl) ?_
        refine lv_iload_n hx hb dX10_handOn_39 rfl (lv_at hl 2 rfl) ?_
        refine lv_bipush (v := 6) hx hb dX10_handOn_40 (by decide) ?_
        refine lv_imul hx hb dX10_handOn_42 ?_
        refine lv_iload_n hx hb dX10_handOn_43 rfl (lv_at hl 3 rfl) ?_
        refine lv_iadd hx hb dX10_handOn_44 ?_
        refine lv_iload_n hx hb dX10_handOn_45 rfl (lv_at hl 3 rfl) ?_
        refine q_cVi (κ := 10) (C := RX10) (T := TX10) (N := 12) [.int v1] E hw hm mw_X10_168 (fun u hu => c_X10_handTo hu hv0) rfl (by decide) hv0 rfl rfl hl.1 (Nat.le_of_ble_eq_true rfl) ⟨Nat.le_of_ble_eq_true rfl, Nat.le_of_ble_eq_true rfl⟩ dX10_handOn_46 (fun u4 H locs hm hw => ?_)
        refine lv_iadd hx hb dX10_handOn_49 ?_
        refine lv_istore_n (lv' := [(1, .int (v1 + u4.1)), (0, .ref (b + v0)), (2, .int v2), (3, .int v3)]) hx hb dX10_handOn_50 rfl hl (by decide) rfl (fun ls hl => ?_)
        exact w_X10_handOn_51 E hr hlk ih hm hv0 hw (lv_sub hl [1, 0, 2, 3] rfl)
def k_X10_handOn_4 : Nat → Nat → Int32 → Int32 → ST → Option (Int32 × ST)
  | 0, _, _, _, _ => none
  | n + 1, v0, v1, v2, σ => if (gI σ (LC.2.1 v0 0) 6) ≤ v2 then (some (v1, σ)) else (k_X10_handOn_17 (k_X10_handOn_4 n) FU v0 v1 v2 0 σ)
set_option maxRecDepth 20000 in
set_option maxHeartbeats 1000000 in
theorem w_X10_handOn_4 {p : Program} {l : Launch} {e : Env} {s : State} {m : MethodId} {args : Array Value} {below : List Frame} {meth : Method} {c : Code} {D : va_G} {cy : Nat → ClassId} {b : Nat} (E : CX p m c cX10_handOn 4 s args RX10 D cy LC) (hr : meth.sig.returnType = some .int) (hlk : meth.locks = false) {r : Int32 × ST} : ∀ (n : Nat) (v0 : Nat) (v1 : Int32) (v2 : Int32) (σ : ST) (H : Heap) (locs : List Loc) (ls : Array Slot), k_X10_handOn_4 n v0 v1 v2 σ = some r → LC.1 v0 = 10 → PH D cy LC b σ s H locs → lv_has ls 4 [(0, .ref (b + v0)), (1, .int v1), (2, .int v2)] → W p l e (rmD 5) s m args below meth c H locs 0 0 (MQ below (QcP D cy LC b (some (.int r.1)) r.2) args s 0 0 (inP LC b)) (F0 m 4 ls []) := by
  have hx := E.1.1
  have hb := E.1.2.1
  intro n
  induction n with
  | zero =>
    intro v0 v1 v2 σ H locs ls hm
    cases hm
  | succ n ih =>
    intro v0 v1 v2 σ H locs ls hm hv0 hw hl
    rw [k_X10_handOn_4] at hm
    refine lv_iload_n hx hb dX10_handOn_4 rfl (lv_at hl 2 rfl) ?_
    refine lv_aload_n hx hb dX10_handOn_5 rfl (lv_at hl 0 rfl) ?_
    refine q_geta E hw fw_X10_12 rfl hv0 dX10_handOn_6 ?_
    refine q_geti E hw fw_X10_131 rfl (tC_10_0 hv0) dX10_handOn_9 ?_
    refine lv_icmp_ge (tgt := 63) hx hb dX10_handOn_12 (by decide) (fun c5 => ?_) (fun c5 => ?_)
    · have hm := o_t c5 hm
      refine lv_iload_n hx hb dX10_handOn_63 rfl (lv_at hl 1 rfl) ?_
      exact q_iret E hr hlk hw hm dX10_handOn_64
    · have hm := o_f c5 hm
      refine lv_iconst (v := 0) hx hb dX10_handOn_15 (by decide) ?_
      refine lv_istore_n (lv' := [(3, .int 0), (0, .ref (b + v0)), (1, .int v1), (2, .int v2)]) hx hb dX10_handOn_16 rfl hl (by decide) rfl (fun ls hl => ?_)
      exact w_X10_handOn_17 E hr hlk ih _ _ _ _ _ _ _ _ _ hm hv0 hw (lv_sub hl [1, 2, 3, 0] rfl)
def f_X10_handOn (v0 : Nat) (σ : ST) : Option (Int32 × ST) :=
  k_X10_handOn_4 FU v0 0 0 σ
set_option maxRecDepth 20000 in
set_option maxHeartbeats 1000000 in
theorem w_X10_handOn_0 {p : Program} {l : Launch} {e : Env} {s : State} {m : MethodId} {args : Array Value} {below : List Frame} {meth : Method} {c : Code} {D : va_G} {cy : Nat → ClassId} {b : Nat} (E : CX p m c cX10_handOn 4 s args RX10 D cy LC) (hr : meth.sig.returnType = some .int) (hlk : meth.locks = false) {r : Int32 × ST} {v0 : Nat} {σ : ST} {H : Heap} {locs : List Loc} {ls : Array Slot} (hm : f_X10_handOn v0 σ = some r) (hv0 : LC.1 v0 = 10) (hw : PH D cy LC b σ s H locs) (hl : lv_has ls 4 [(0, .ref (b + v0))]) : W p l e (rmD 5) s m args below meth c H locs 0 0 (MQ below (QcP D cy LC b (some (.int r.1)) r.2) args s 0 0 (inP LC b)) (F0 m 0 ls []) := by
  have hx := E.1.1
  have hb := E.1.2.1
  unfold f_X10_handOn at hm
  refine lv_iconst (v := 0) hx hb dX10_handOn_0 (by decide) ?_
  refine lv_istore_n (lv' := [(1, .int 0), (0, .ref (b + v0))]) hx hb dX10_handOn_1 rfl hl (by decide) rfl (fun ls hl => ?_)
  refine lv_iconst (v := 0) hx hb dX10_handOn_2 (by decide) ?_
  refine lv_istore_n (lv' := [(2, .int 0), (1, .int 0), (0, .ref (b + v0))]) hx hb dX10_handOn_3 rfl hl (by decide) rfl (fun ls hl => ?_)
  exact w_X10_handOn_4 E hr hlk _ _ _ _ _ _ _ _ hm hv0 hw (lv_sub hl [2, 1, 0] rfl)
theorem c_X10_handOn {l : Launch} {D : va_G} {cy : Nat → ClassId} {b : Nat} {v0 : Nat} {σ : ST} {r : Int32 × ST} (hm : f_X10_handOn v0 σ = some r) (hv0 : LC.1 v0 = 10) : Met l yX10_handOn (wU yX10_handOn cX10_handOn 4 (some .int)) (rmD 5) (PcP D cy LC b [.ref (b + v0)] σ) (QcP D cy LC b (some (.int r.1)) r.2) 0 0 (inP LC b) :=
  q_met (lv := [(0, .ref (b + v0))]) LC_ok (by decide) (Nat.le_of_ble_eq_true rfl) rfl (fun _ _ _ _ _ _ _ _ _ E hr hlk hw hl => w_X10_handOn_0 E hr hlk hm hv0 hw hl)

def k_X10_putValue_91 (v0 : Nat) (v1 : Int32) (v2 : Int32) (v3 : Int32) (v5 : Int32) (σ : ST) : Option (Int32 × ST) :=
  (ldA LC σ (LC.2.1 v0 7) v5).bind fun a1 =>
  (stA LC σ (LC.2.1 v0 7) v5 (a1 + 1)).bind fun σ2 =>
  (ldA LC σ2 (LC.2.1 v0 7) v5).bind fun a3 =>
  (stA LC σ2 (LC.2.1 v0 8) ((((v1 * 180) + (v2 * 30)) + a3) - 1) v3).bind fun σ4 =>
  (ldA LC σ4 (LC.2.1 v0 7) v5).bind fun a5 =>
  (f_X0_give (LC.2.1 v0 2) v5 v2 a5 σ4).bind fun u6 =>
  (f_X10_giveOut v0 v1 v2 u6).bind fun u7 =>
  some (u7.1, u7.2)
set_option maxRecDepth 20000 in
set_option maxHeartbeats 1000000 in
theorem w_X10_putValue_91 {p : Program} {l : Launch} {e : Env} {s : State} {m : MethodId} {args : Array Value} {below : List Frame} {meth : Method} {c : Code} {D : va_G} {cy : Nat → ClassId} {b : Nat} (E : CX p m c cX10_putValue 7 s args RX10 D cy LC) (hr : meth.sig.returnType = some .int) (hlk : meth.locks = false) {r : Int32 × ST} {v0 : Nat} {v1 : Int32} {v2 : Int32} {v3 : Int32} {v5 : Int32} {σ : ST} {H : Heap} {locs : List Loc} {ls : Array Slot} (hm : k_X10_putValue_91 v0 v1 v2 v3 v5 σ = some r) (hv0 : LC.1 v0 = 10) (hw : PH D cy LC b σ s H locs) (hl : lv_has ls 7 [(0, .ref (b + v0)), (1, .int v1), (2, .int v2), (3, .int v3), (5, .int v5)]) : W p l e (rmD 4) s m args below meth c H locs 0 0 (MQ below (QcP D cy LC b (some (.int r.1)) r.2) args s 0 0 (inP LC b)) (F0 m 91 ls []) := by
  have hx := E.1.1
  have hb := E.1.2.1
  unfold k_X10_putValue_91 at hm
  refine lv_aload_n hx hb dX10_putValue_91 rfl (lv_at hl 0 rfl) ?_
  refine q_geta E hw fw_X10_47 rfl hv0 dX10_putValue_92 ?_
  refine lv_iload hx hb dX10_putValue_95 (lv_at hl 4 rfl) ?_
  refine lv_dup2_11 hx hb dX10_putValue_97 rfl rfl ?_
  refine q_iald E hw (tC_10_7 hv0) hm dX10_putValue_98 (fun a1 hm => ?_)
  refine lv_iconst (v := 1) hx hb dX10_putValue_99 (by decide) ?_
  refine lv_iadd hx hb dX10_putValue_100 ?_
  refine q_iast E hw (tC_10_7 hv0) hm dX10_putValue_101 (fun σ2 H locs hm hw => ?_)
  refine lv_aload_n hx hb dX10_putValue_102 rfl (lv_at hl 0 rfl) ?_
  refine q_geta E hw fw_X10_50 rfl hv0 dX10_putValue_103 ?_
  refine lv_iload_n hx hb dX10_putValue_106 rfl (lv_at hl 1 rfl) ?_
  refine lv_sipush (v := 180) hx hb dX10_putValue_107 (by decide) ?_
  refine lv_imul hx hb dX10_putValue_110 ?_
  refine lv_iload_n hx hb dX10_putValue_111 rfl (lv_at hl 2 rfl) ?_
  refine lv_bipush (v := 30) hx hb dX10_putValue_112 (by decide) ?_
  refine lv_imul hx hb dX10_putValue_114 ?_
  refine lv_iadd hx hb dX10_putValue_115 ?_
  refine lv_aload_n hx hb dX10_putValue_116 rfl (lv_at hl 0 rfl) ?_
  refine q_geta E hw fw_X10_47 rfl hv0 dX10_putValue_117 ?_
  refine lv_iload hx hb dX10_putValue_120 (lv_at hl 4 rfl) ?_
  refine q_iald E hw (tC_10_7 hv0) hm dX10_putValue_122 (fun a3 hm => ?_)
  refine lv_iadd hx hb dX10_putValue_123 ?_
  refine lv_iconst (v := 1) hx hb dX10_putValue_124 (by decide) ?_
  refine lv_isub hx hb dX10_putValue_125 ?_
  refine lv_iload_n hx hb dX10_putValue_126 rfl (lv_at hl 3 rfl) ?_
  refine q_iast E hw (tC_10_8 hv0) hm dX10_putValue_127 (fun σ4 H locs hm hw => ?_)
  refine lv_aload_n hx hb dX10_putValue_128 rfl (lv_at hl 0 rfl) ?_
  refine q_geta E hw fw_X10_30 rfl hv0 dX10_putValue_129 ?_
  refine lv_iload hx hb dX10_putValue_132 (lv_at hl 4 rfl) ?_
  refine lv_iload_n hx hb dX10_putValue_134 rfl (lv_at hl 2 rfl) ?_
  refine lv_aload_n hx hb dX10_putValue_135 rfl (lv_at hl 0 rfl) ?_
  refine q_geta E hw fw_X10_47 rfl hv0 dX10_putValue_136 ?_
  refine lv_iload hx hb dX10_putValue_139 (lv_at hl 4 rfl) ?_
  refine q_iald E hw (tC_10_7 hv0) hm dX10_putValue_141 (fun a5 hm => ?_)
  refine q_cVv (κ := 0) (C := RX0) (T := TX0) (N := 2) [] E hw hm mw_X10_115 (fun u hu => c_X0_give hu (tC_10_2 hv0)) rfl (by decide) (tC_10_2 hv0) rfl rfl hl.1 (Nat.le_of_ble_eq_true rfl) ⟨Nat.le_of_ble_eq_true rfl, Nat.le_of_ble_eq_true rfl⟩ dX10_putValue_142 (fun u6 H locs hm hw => ?_)
  refine lv_aload_n hx hb dX10_putValue_145 rfl (lv_at hl 0 rfl) ?_
  refine lv_iload_n hx hb dX10_putValue_146 rfl (lv_at hl 1 rfl) ?_
  refine lv_iload_n hx hb dX10_putValue_147 rfl (lv_at hl 2 rfl) ?_
  refine q_cVi (κ := 10) (C := RX10) (T := TX10) (N := 12) [] E hw hm mw_X10_119 (fun u hu => c_X10_giveOut hu hv0) rfl (by decide) hv0 rfl rfl hl.1 (Nat.le_of_ble_eq_true rfl) ⟨Nat.le_of_ble_eq_true rfl, Nat.le_of_ble_eq_true rfl⟩ dX10_putValue_148 (fun u7 H locs hm hw => ?_)
  exact q_iret E hr hlk hw hm dX10_putValue_151
def k_X10_putValue_68 (σ : ST) : Option (Int32 × ST) :=
  some ((-1), σ)
set_option maxRecDepth 20000 in
set_option maxHeartbeats 1000000 in
theorem w_X10_putValue_68 {p : Program} {l : Launch} {e : Env} {s : State} {m : MethodId} {args : Array Value} {below : List Frame} {meth : Method} {c : Code} {D : va_G} {cy : Nat → ClassId} {b : Nat} (E : CX p m c cX10_putValue 7 s args RX10 D cy LC) (hr : meth.sig.returnType = some .int) (hlk : meth.locks = false) {r : Int32 × ST} {σ : ST} {H : Heap} {locs : List Loc} {ls : Array Slot} (hm : k_X10_putValue_68  σ = some r) (hw : PH D cy LC b σ s H locs) (hl : lv_has ls 7 []) : W p l e (rmD 4) s m args below meth c H locs 0 0 (MQ below (QcP D cy LC b (some (.int r.1)) r.2) args s 0 0 (inP LC b)) (F0 m 68 ls []) := by
  have hx := E.1.1
  have hb := E.1.2.1
  unfold k_X10_putValue_68 at hm
  refine lv_iconst (v := (-1)) hx hb dX10_putValue_68 (by decide) ?_
  exact q_iret E hr hlk hw hm dX10_putValue_69
def k_X10_putValue_29 (v0 : Nat) (v1 : Int32) (v2 : Int32) (v3 : Int32) (v4 : Int32) (v5 : Int32) (s0 : Int32) (σ : ST) : Option (Int32 × ST) :=
  (f_X7_isSum (LC.2.1 v0 0) v1 σ).bind fun u8 =>
  if u8.1 = 0 then (if s0 = 0 then ((f_X10_canTake v0 v1 v2 u8.2).bind fun u11 =>
  if u11.1 = 0 then (k_X10_putValue_68 u11.2) else ((ldA LC u11.2 (LC.2.1 v0 7) v5).bind fun a13 =>
  if a13 < 30 then (if v4 = (-1) then (k_X10_putValue_91 v0 v1 v2 v3 v5 u11.2) else ((f_X0_join (LC.2.1 v0 2) v5 (LC.2.1 v0 5) v4 u11.2).bind fun u16 =>
  k_X10_putValue_91 v0 v1 v2 v3 v5 u16)) else (k_X10_putValue_68 u11.2))) else (k_X10_putValue_68 u8.2)) else (k_X10_putValue_68 u8.2)
set_option maxRecDepth 20000 in
set_option maxHeartbeats 1000000 in
theorem w_X10_putValue_29 {p : Program} {l : Launch} {e : Env} {s : State} {m : MethodId} {args : Array Value} {below : List Frame} {meth : Method} {c : Code} {D : va_G} {cy : Nat → ClassId} {b : Nat} (E : CX p m c cX10_putValue 7 s args RX10 D cy LC) (hr : meth.sig.returnType = some .int) (hlk : meth.locks = false) {r : Int32 × ST} {v0 : Nat} {v1 : Int32} {v2 : Int32} {v3 : Int32} {v4 : Int32} {v5 : Int32} {s0 : Int32} {σ : ST} {H : Heap} {locs : List Loc} {ls : Array Slot} (hm : k_X10_putValue_29 v0 v1 v2 v3 v4 v5 s0 σ = some r) (hv0 : LC.1 v0 = 10) (hw : PH D cy LC b σ s H locs) (hl : lv_has ls 7 [(0, .ref (b + v0)), (1, .int v1), (2, .int v2), (3, .int v3), (4, .int v4), (5, .int v5)]) : W p l e (rmD 4) s m args below meth c H locs 0 0 (MQ below (QcP D cy LC b (some (.int r.1)) r.2) args s 0 0 (inP LC b)) (F0 m 29 ls [.int s0]) := by
  have hx := E.1.1
  have hb := E.1.2.1
  unfold k_X10_putValue_29 at hm
  refine lv_istore (lv' := [(6, .int s0), (0, .ref (b + v0)), (1, .int v1), (2, .int v2), (3, .int v3), (4, .int v4), (5, .int v5)]) hx hb dX10_putValue_29 hl (by decide) rfl (fun ls hl => ?_)
  refine lv_aload_n hx hb dX10_putValue_31 rfl (lv_at hl 1 rfl) ?_
  refine q_geta E hw fw_X10_12 rfl hv0 dX10_putValue_32 ?_
  refine lv_iload_n hx hb dX10_putValue_35 rfl (lv_at hl 2 rfl) ?_
  refine q_cVi (κ := 7) (C := RX7) (T := TX7) (N := 12) [] E hw hm mw_X10_104 (fun u hu => c_X7_isSum hu (tC_10_0 hv0)) rfl (by decide) (tC_10_0 hv0) rfl rfl hl.1 (Nat.le_of_ble_eq_true rfl) ⟨Nat.le_of_ble_eq_true rfl, Nat.le_of_ble_eq_true rfl⟩ dX10_putValue_36 (fun u8 H locs hm hw => ?_)
  refine lv_if_ne (tgt := 68) hx hb dX10_putValue_39 (by decide) (fun c9 => ?_) (fun c9 => ?_)
  · have hm := o_f c9 hm
    exact w_X10_putValue_68 E hr hlk hm  hw (lv_sub hl [] rfl)
  · have hm := o_t c9 hm
    refine lv_iload hx hb dX10_putValue_42 (lv_at hl 0 rfl) ?_
    refine lv_if_ne (tgt := 68) hx hb dX10_putValue_44 (by decide) (fun c10 => ?_) (fun c10 => ?_)
    · have hm := o_f c10 hm
      exact w_X10_putValue_68 E hr hlk hm  hw (lv_sub hl [] rfl)
    · have hm := o_t c10 hm
      refine lv_aload_n hx hb dX10_putValue_47 rfl (lv_at hl 1 rfl) ?_
      refine lv_iload_n hx hb dX10_putValue_48 rfl (lv_at hl 2 rfl) ?_
      refine lv_iload_n hx hb dX10_putValue_49 rfl (lv_at hl 3 rfl) ?_
      refine q_cVi (κ := 10) (C := RX10) (T := TX10) (N := 12) [] E hw hm mw_X10_107 (fun u hu => c_X10_canTake hu hv0) rfl (by decide) hv0 rfl rfl hl.1 (Nat.le_of_ble_eq_true rfl) ⟨Nat.le_of_ble_eq_true rfl, Nat.le_of_ble_eq_true rfl⟩ dX10_putValue_50 (fun u11 H locs hm hw => ?_)
      refine lv_if_eq (tgt := 68) hx hb dX10_putValue_53 (by decide) (fun c12 => ?_) (fun c12 => ?_)
      · have hm := o_t c12 hm
        exact w_X10_putValue_68 E hr hlk hm  hw (lv_sub hl [] rfl)
      · have hm := o_f c12 hm
        refine lv_aload_n hx hb dX10_putValue_56 rfl (lv_at hl 1 rfl) ?_
        refine q_geta E hw fw_X10_47 rfl hv0 dX10_putValue_57 ?_
        refine lv_iload hx hb dX10_putValue_60 (lv_at hl 6 rfl) ?_
        refine q_iald E hw (tC_10_7 hv0) hm dX10_putValue_62 (fun a13 hm => ?_)
        refine lv_bipush (v := 30) hx hb dX10_putValue_63 (by decide) ?_
        refine lv_icmp_lt (tgt := 70) hx hb dX10_putValue_65 (by decide) (fun c14 => ?_) (fun c14 => ?_)
        · have hm := o_t c14 hm
          refine lv_iload hx hb dX10_putValue_70 (lv_at hl 5 rfl) ?_
          refine lv_iconst (v := (-1)) hx hb dX10_putValue_72 (by decide) ?_
          refine lv_icmp_eq (tgt := 91) hx hb dX10_putValue_73 (by decide) (fun c15 => ?_) (fun c15 => ?_)
          · have hm := o_t c15 hm
            exact w_X10_putValue_91 E hr hlk hm hv0 hw (lv_sub hl [1, 2, 3, 4, 6] rfl)
          · have hm := o_f c15 hm
            refine lv_aload_n hx hb dX10_putValue_76 rfl (lv_at hl 1 rfl) ?_
            refine q_geta E hw fw_X10_30 rfl hv0 dX10_putValue_77 ?_
            refine lv_iload hx hb dX10_putValue_80 (lv_at hl 6 rfl) ?_
            refine lv_aload_n hx hb dX10_putValue_82 rfl (lv_at hl 1 rfl) ?_
            refine q_geta E hw fw_X10_41 rfl hv0 dX10_putValue_83 ?_
            refine lv_iload hx hb dX10_putValue_86 (lv_at hl 5 rfl) ?_
            refine q_cVv (κ := 0) (C := RX0) (T := TX0) (N := 2) [] E hw hm mw_X10_111 (fun u hu => c_X0_join hu (tC_10_2 hv0) (tC_10_5 hv0)) rfl (by decide) (tC_10_2 hv0) rfl rfl hl.1 (Nat.le_of_ble_eq_true rfl) ⟨Nat.le_of_ble_eq_true rfl, Nat.le_of_ble_eq_true rfl⟩ dX10_putValue_88 (fun u16 H locs hm hw => ?_)
            exact w_X10_putValue_91 E hr hlk hm hv0 hw (lv_sub hl [1, 2, 3, 4, 6] rfl)
        · have hm := o_f c14 hm
          exact w_X10_putValue_68 E hr hlk hm  hw (lv_sub hl [] rfl)
def k_X10_putValue_28 (v0 : Nat) (v1 : Int32) (v2 : Int32) (v3 : Int32) (v4 : Int32) (v5 : Int32) (σ : ST) : Option (Int32 × ST) :=
  k_X10_putValue_29 v0 v1 v2 v3 v4 v5 0 σ
set_option maxRecDepth 20000 in
set_option maxHeartbeats 1000000 in
theorem w_X10_putValue_28 {p : Program} {l : Launch} {e : Env} {s : State} {m : MethodId} {args : Array Value} {below : List Frame} {meth : Method} {c : Code} {D : va_G} {cy : Nat → ClassId} {b : Nat} (E : CX p m c cX10_putValue 7 s args RX10 D cy LC) (hr : meth.sig.returnType = some .int) (hlk : meth.locks = false) {r : Int32 × ST} {v0 : Nat} {v1 : Int32} {v2 : Int32} {v3 : Int32} {v4 : Int32} {v5 : Int32} {σ : ST} {H : Heap} {locs : List Loc} {ls : Array Slot} (hm : k_X10_putValue_28 v0 v1 v2 v3 v4 v5 σ = some r) (hv0 : LC.1 v0 = 10) (hw : PH D cy LC b σ s H locs) (hl : lv_has ls 7 [(0, .ref (b + v0)), (1, .int v1), (2, .int v2), (3, .int v3), (4, .int v4), (5, .int v5)]) : W p l e (rmD 4) s m args below meth c H locs 0 0 (MQ below (QcP D cy LC b (some (.int r.1)) r.2) args s 0 0 (inP LC b)) (F0 m 28 ls []) := by
  have hx := E.1.1
  have hb := E.1.2.1
  unfold k_X10_putValue_28 at hm
  refine lv_iconst (v := 0) hx hb dX10_putValue_28 (by decide) ?_
  exact w_X10_putValue_29 E hr hlk hm hv0 hw (lv_sub hl [0, 1, 2, 3, 4, 5] rfl)
def f_X10_putValue (v0 : Nat) (v1 : Int32) (v2 : Int32) (v3 : Int32) (v4 : Int32) (σ : ST) : Option (Int32 × ST) :=
  (f_X10_cellOf v2 v1 σ).bind fun u17 =>
  if v4 = (-1) then (k_X10_putValue_28 v0 v1 v2 v3 v4 u17.1 u17.2) else ((ldA LC u17.2 (LC.2.1 v0 6) v4).bind fun a19 =>
  if a19 = v1 then (k_X10_putValue_28 v0 v1 v2 v3 v4 u17.1 u17.2) else (k_X10_putValue_29 v0 v1 v2 v3 v4 u17.1 1 u17.2))
set_option maxRecDepth 20000 in
set_option maxHeartbeats 1000000 in
theorem w_X10_putValue_0 {p : Program} {l : Launch} {e : Env} {s : State} {m : MethodId} {args : Array Value} {below : List Frame} {meth : Method} {c : Code} {D : va_G} {cy : Nat → ClassId} {b : Nat} (E : CX p m c cX10_putValue 7 s args RX10 D cy LC) (hr : meth.sig.returnType = some .int) (hlk : meth.locks = false) {r : Int32 × ST} {v0 : Nat} {v1 : Int32} {v2 : Int32} {v3 : Int32} {v4 : Int32} {σ : ST} {H : Heap} {locs : List Loc} {ls : Array Slot} (hm : f_X10_putValue v0 v1 v2 v3 v4 σ = some r) (hv0 : LC.1 v0 = 10) (hw : PH D cy LC b σ s H locs) (hl : lv_has ls 7 [(0, .ref (b + v0)), (1, .int v1), (2, .int v2), (3, .int v3), (4, .int v4)]) : W p l e (rmD 4) s m args below meth c H locs 0 0 (MQ below (QcP D cy LC b (some (.int r.1)) r.2) args s 0 0 (inP LC b)) (F0 m 0 ls []) := by
  have hx := E.1.1
  have hb := E.1.2.1
  unfold f_X10_putValue at hm
  refine lv_iload_n hx hb dX10_putValue_0 rfl (lv_at hl 2 rfl) ?_
  refine lv_iload_n hx hb dX10_putValue_1 rfl (lv_at hl 1 rfl) ?_
  refine q_cSi [] E hw hm ms_X10_100 (fun u hu => c_X10_cellOf hu ) rfl rfl hl.1 (Nat.le_of_ble_eq_true rfl) ⟨Nat.le_of_ble_eq_true rfl, Nat.le_of_ble_eq_true rfl⟩ dX10_putValue_2 (fun u17 H locs hm hw => ?_)
  refine lv_istore (lv' := [(5, .int u17.1), (0, .ref (b + v0)), (1, .int v1), (2, .int v2), (3, .int v3), (4, .int v4)]) hx hb dX10_putValue_5 hl (by decide) rfl (fun ls hl => ?_)
  refine lv_iload hx hb dX10_putValue_7 (lv_at hl 5 rfl) ?_
  refine lv_iconst (v := (-1)) hx hb dX10_putValue_9 (by decide) ?_
  refine lv_icmp_eq (tgt := 28) hx hb dX10_putValue_10 (by decide) (fun c18 => ?_) (fun c18 => ?_)
  · have hm := o_t c18 hm
    exact w_X10_putValue_28 E hr hlk hm hv0 hw (lv_sub hl [1, 2, 3, 4, 5, 0] rfl)
  · have hm := o_f c18 hm
    refine lv_aload_n hx hb dX10_putValue_13 rfl (lv_at hl 1 rfl) ?_
    refine q_geta E hw fw_X10_44 rfl hv0 dX10_putValue_14 ?_
    refine lv_iload hx hb dX10_putValue_17 (lv_at hl 5 rfl) ?_
    refine q_iald E hw (tC_10_6 hv0) hm dX10_putValue_19 (fun a19 hm => ?_)
    refine lv_iload_n hx hb dX10_putValue_20 rfl (lv_at hl 2 rfl) ?_
    refine lv_icmp_eq (tgt := 28) hx hb dX10_putValue_21 (by decide) (fun c20 => ?_) (fun c20 => ?_)
    · have hm := o_t c20 hm
      exact w_X10_putValue_28 E hr hlk hm hv0 hw (lv_sub hl [1, 2, 3, 4, 5, 0] rfl)
    · have hm := o_f c20 hm
      refine lv_iconst (v := 1) hx hb dX10_putValue_24 (by decide) ?_
      refine lv_goto (tgt := 29) hx hb dX10_putValue_25 (by decide) ?_
      exact w_X10_putValue_29 E hr hlk hm hv0 hw (lv_sub hl [1, 2, 3, 4, 5, 0] rfl)
theorem c_X10_putValue {l : Launch} {D : va_G} {cy : Nat → ClassId} {b : Nat} {v0 : Nat} {v1 : Int32} {v2 : Int32} {v3 : Int32} {v4 : Int32} {σ : ST} {r : Int32 × ST} (hm : f_X10_putValue v0 v1 v2 v3 v4 σ = some r) (hv0 : LC.1 v0 = 10) : Met l yX10_putValue (wU yX10_putValue cX10_putValue 7 (some .int)) (rmD 4) (PcP D cy LC b [.ref (b + v0), .int v1, .int v2, .int v3, .int v4] σ) (QcP D cy LC b (some (.int r.1)) r.2) 0 0 (inP LC b) :=
  q_met (lv := [(0, .ref (b + v0)), (1, .int v1), (2, .int v2), (3, .int v3), (4, .int v4)]) LC_ok (by decide) (Nat.le_of_ble_eq_true rfl) rfl (fun _ _ _ _ _ _ _ _ _ E hr hlk hw hl => w_X10_putValue_0 E hr hlk hm hv0 hw hl)

def k_X10_setUp_26 (s0 : Nat) (s1 : Int32) (σ : ST) : Option (ST) :=
  (stI σ s0 9 s1).bind fun σ1 =>
  some σ1
set_option maxRecDepth 20000 in
set_option maxHeartbeats 1000000 in
theorem w_X10_setUp_26 {p : Program} {l : Launch} {e : Env} {s : State} {m : MethodId} {args : Array Value} {below : List Frame} {meth : Method} {c : Code} {D : va_G} {cy : Nat → ClassId} {b : Nat} (E : CX p m c cX10_setUp 3 s args RX10 D cy LC) (hr : meth.sig.returnType = none) (hlk : meth.locks = false) {r : ST} {s0 : Nat} {s1 : Int32} {σ : ST} {H : Heap} {locs : List Loc} {ls : Array Slot} (hm : k_X10_setUp_26 s0 s1 σ = some r) (hs0 : LC.1 s0 = 10) (hw : PH D cy LC b σ s H locs) (hl : lv_has ls 3 []) : W p l e (rmD 0) s m args below meth c H locs 0 0 (MQ below (QcP D cy LC b none r) args s 0 0 (inP LC b)) (F0 m 26 ls [.int s1, .ref (b + s0)]) := by
  have hx := E.1.1
  have hb := E.1.2.1
  unfold k_X10_setUp_26 at hm
  refine q_pi E hw hm fw_X10_53 rfl rfl hs0 dX10_setUp_26 (fun σ1 H locs hm hw => ?_)
  exact q_vret E hr hlk hw hm dX10_setUp_29
def f_X10_setUp (v0 : Nat) (v1 : Int32) (v2 : Int32) (σ : ST) : Option (ST) :=
  if v2 = 0 then (k_X10_setUp_26 v0 ((gI σ v0 9) &&& ((1 <<< (v1 &&& 31)) ^^^ (-1))) σ) else (k_X10_setUp_26 v0 ((gI σ v0 9) ||| (1 <<< (v1 &&& 31))) σ)
set_option maxRecDepth 20000 in
set_option maxHeartbeats 1000000 in
theorem w_X10_setUp_0 {p : Program} {l : Launch} {e : Env} {s : State} {m : MethodId} {args : Array Value} {below : List Frame} {meth : Method} {c : Code} {D : va_G} {cy : Nat → ClassId} {b : Nat} (E : CX p m c cX10_setUp 3 s args RX10 D cy LC) (hr : meth.sig.returnType = none) (hlk : meth.locks = false) {r : ST} {v0 : Nat} {v1 : Int32} {v2 : Int32} {σ : ST} {H : Heap} {locs : List Loc} {ls : Array Slot} (hm : f_X10_setUp v0 v1 v2 σ = some r) (hv0 : LC.1 v0 = 10) (hw : PH D cy LC b σ s H locs) (hl : lv_has ls 3 [(0, .ref (b + v0)), (1, .int v1), (2, .int v2)]) : W p l e (rmD 0) s m args below meth c H locs 0 0 (MQ below (QcP D cy LC b none r) args s 0 0 (inP LC b)) (F0 m 0 ls []) := by
  have hx := E.1.1
  have hb := E.1.2.1
  unfold f_X10_setUp at hm
  refine lv_aload_n hx hb dX10_setUp_0 rfl (lv_at hl 0 rfl) ?_
  refine lv_iload_n hx hb dX10_setUp_1 rfl (lv_at hl 2 rfl) ?_
  refine lv_if_eq (tgt := 16) hx hb dX10_setUp_2 (by decide) (fun c2 => ?_) (fun c2 => ?_)
  · have hm := o_t c2 hm
    refine lv_aload_n hx hb dX10_setUp_16 rfl (lv_at hl 0 rfl) ?_
    refine q_geti E hw fw_X10_53 rfl hv0 dX10_setUp_17 ?_
    refine lv_iconst (v := 1) hx hb dX10_setUp_20 (by decide) ?_
    refine lv_iload_n hx hb dX10_setUp_21 rfl (lv_at hl 1 rfl) ?_
    refine lv_ishl hx hb dX10_setUp_22 ?_
    refine lv_iconst (v := (-1)) hx hb dX10_setUp_23 (by decide) ?_
    refine lv_ixor hx hb dX10_setUp_24 ?_
    refine lv_iand hx hb dX10_setUp_25 ?_
    exact w_X10_setUp_26 E hr hlk hm hv0 hw (lv_sub hl [] rfl)
  · have hm := o_f c2 hm
    refine lv_aload_n hx hb dX10_setUp_5 rfl (lv_at hl 0 rfl) ?_
    refine q_geti E hw fw_X10_53 rfl hv0 dX10_setUp_6 ?_
    refine lv_iconst (v := 1) hx hb dX10_setUp_9 (by decide) ?_
    refine lv_iload_n hx hb dX10_setUp_10 rfl (lv_at hl 1 rfl) ?_
    refine lv_ishl hx hb dX10_setUp_11 ?_
    refine lv_ior hx hb dX10_setUp_12 ?_
    refine lv_goto (tgt := 26) hx hb dX10_setUp_13 (by decide) ?_
    exact w_X10_setUp_26 E hr hlk hm hv0 hw (lv_sub hl [] rfl)
theorem c_X10_setUp {l : Launch} {D : va_G} {cy : Nat → ClassId} {b : Nat} {v0 : Nat} {v1 : Int32} {v2 : Int32} {σ : ST} {r : ST} (hm : f_X10_setUp v0 v1 v2 σ = some r) (hv0 : LC.1 v0 = 10) : Met l yX10_setUp (wU yX10_setUp cX10_setUp 3 (none)) (rmD 0) (PcP D cy LC b [.ref (b + v0), .int v1, .int v2] σ) (QcP D cy LC b none r) 0 0 (inP LC b) :=
  q_met (lv := [(0, .ref (b + v0)), (1, .int v1), (2, .int v2)]) LC_ok (by decide) (Nat.le_of_ble_eq_true rfl) rfl (fun _ _ _ _ _ _ _ _ _ E hr hlk hw hl => w_X10_setUp_0 E hr hlk hm hv0 hw hl)

def k_X10_wipeAll_33 : Nat → Nat → Int32 → Int32 → ST → Option (ST)
  | 0, _, _, _, _ => none
  | n + 1, v0, v1, v2, σ => if (gI σ (LC.2.1 v0 0) 6) ≤ v2 then (some σ) else ((f_X10_dropHints v0 ((v1 * 6) + v2) σ).bind fun u2 =>
  k_X10_wipeAll_33 n v0 v1 (v2 + 1) u2)
set_option maxRecDepth 20000 in
set_option maxHeartbeats 1000000 in
theorem w_X10_wipeAll_33 {p : Program} {l : Launch} {e : Env} {s : State} {m : MethodId} {args : Array Value} {below : List Frame} {meth : Method} {c : Code} {D : va_G} {cy : Nat → ClassId} {b : Nat} (E : CX p m c cX10_wipeAll 3 s args RX10 D cy LC) (hr : meth.sig.returnType = none) (hlk : meth.locks = false) {r : ST} : ∀ (n : Nat) (v0 : Nat) (v1 : Int32) (v2 : Int32) (σ : ST) (H : Heap) (locs : List Loc) (ls : Array Slot), k_X10_wipeAll_33 n v0 v1 v2 σ = some r → LC.1 v0 = 10 → PH D cy LC b σ s H locs → lv_has ls 3 [(0, .ref (b + v0)), (1, .int v1), (2, .int v2)] → W p l e (rmD 4) s m args below meth c H locs 0 0 (MQ below (QcP D cy LC b none r) args s 0 0 (inP LC b)) (F0 m 33 ls []) := by
  have hx := E.1.1
  have hb := E.1.2.1
  intro n
  induction n with
  | zero =>
    intro v0 v1 v2 σ H locs ls hm
    cases hm
  | succ n ih =>
    intro v0 v1 v2 σ H locs ls hm hv0 hw hl
    rw [k_X10_wipeAll_33] at hm
    refine lv_iload_n hx hb dX10_wipeAll_33 rfl (lv_at hl 2 rfl) ?_
    refine lv_aload_n hx hb dX10_wipeAll_34 rfl (lv_at hl 0 rfl) ?_
    refine q_geta E hw fw_X10_12 rfl hv0 dX10_wipeAll_35 ?_
    refine q_geti E hw fw_X10_131 rfl (tC_10_0 hv0) dX10_wipeAll_38 ?_
    refine lv_icmp_ge (tgt := 60) hx hb dX10_wipeAll_41 (by decide) (fun c1 => ?_) (fun c1 => ?_)
    · have hm := o_t c1 hm
      exact q_vret E hr hlk hw hm dX10_wipeAll_60
    · have hm := o_f c1 hm
      refine lv_aload_n hx hb dX10_wipeAll_44 rfl (lv_at hl 0 rfl) ?_
      refine lv_iload_n hx hb dX10_wipeAll_45 rfl (lv_at hl 1 rfl) ?_
      refine lv_bipush (v := 6) hx hb dX10_wipeAll_46 (by decide) ?_
      refine lv_imul hx hb dX10_wipeAll_48 ?_
      refine lv_iload_n hx hb dX10_wipeAll_49 rfl (lv_at hl 2 rfl) ?_
      refine lv_iadd hx hb dX10_wipeAll_50 ?_
      refine q_cVv (κ := 10) (C := RX10) (T := TX10) (N := 12) [] E hw hm mw_X10_165 (fun u hu => c_X10_dropHints hu hv0) rfl (by decide) hv0 rfl rfl hl.1 (Nat.le_of_ble_eq_true rfl) ⟨Nat.le_of_ble_eq_true rfl, Nat.le_of_ble_eq_true rfl⟩ dX10_wipeAll_51 (fun u2 H locs hm hw => ?_)
      refine lv_iinc (v := v2 + 1) (lv' := [(2, .int (v2 + 1)), (0, .ref (b + v0)), (1, .int v1)]) hx hb dX10_wipeAll_54 hl (k := 2) rfl rfl (by decide) rfl (fun ls hl => ?_)
      refine lv_goto (tgt := 33) hx hb dX10_wipeAll_57 (by decide) ?_
      exact ih _ _ _ _ _ _ _ hm hv0 hw (lv_sub hl [1, 2, 0] rfl)
def k_X10_wipeAll_2 : Nat → Nat → Int32 → Int32 → ST → Option (ST)
  | 0, _, _, _, _ => none
  | n + 1, v0, v1, v2, σ => if (gI σ (LC.2.1 v0 0) 7) ≤ v2 then (k_X10_wipeAll_33 FU v0 v1 0 σ) else ((f_X10_cellOf v1 v2 σ).bind fun u4 =>
  (f_X0_empty (LC.2.1 v0 2) u4.1 u4.2).bind fun u5 =>
  k_X10_wipeAll_2 n v0 v1 (v2 + 1) u5)
set_option maxRecDepth 20000 in
set_option maxHeartbeats 1000000 in
theorem w_X10_wipeAll_2 {p : Program} {l : Launch} {e : Env} {s : State} {m : MethodId} {args : Array Value} {below : List Frame} {meth : Method} {c : Code} {D : va_G} {cy : Nat → ClassId} {b : Nat} (E : CX p m c cX10_wipeAll 3 s args RX10 D cy LC) (hr : meth.sig.returnType = none) (hlk : meth.locks = false) {r : ST} : ∀ (n : Nat) (v0 : Nat) (v1 : Int32) (v2 : Int32) (σ : ST) (H : Heap) (locs : List Loc) (ls : Array Slot), k_X10_wipeAll_2 n v0 v1 v2 σ = some r → LC.1 v0 = 10 → PH D cy LC b σ s H locs → lv_has ls 3 [(0, .ref (b + v0)), (1, .int v1), (2, .int v2)] → W p l e (rmD 4) s m args below meth c H locs 0 0 (MQ below (QcP D cy LC b none r) args s 0 0 (inP LC b)) (F0 m 2 ls []) := by
  have hx := E.1.1
  have hb := E.1.2.1
  intro n
  induction n with
  | zero =>
    intro v0 v1 v2 σ H locs ls hm
    cases hm
  | succ n ih =>
    intro v0 v1 v2 σ H locs ls hm hv0 hw hl
    rw [k_X10_wipeAll_2] at hm
    refine lv_iload_n hx hb dX10_wipeAll_2 rfl (lv_at hl 2 rfl) ?_
    refine lv_aload_n hx hb dX10_wipeAll_3 rfl (lv_at hl 0 rfl) ?_
    refine q_geta E hw fw_X10_12 rfl hv0 dX10_wipeAll_4 ?_
    refine q_geti E hw fw_X10_153 rfl (tC_10_0 hv0) dX10_wipeAll_7 ?_
    refine lv_icmp_ge (tgt := 31) hx hb dX10_wipeAll_10 (by decide) (fun c3 => ?_) (fun c3 => ?_)
    · have hm := o_t c3 hm
      refine lv_iconst (v := 0) hx hb dX10_wipeAll_31 (by decide) ?_
      refine lv_istore_n (lv' := [(2, .int 0), (0, .ref (b + v0)), (1, .int v1)]) hx hb dX10_wipeAll_32 rfl hl (by decide) rfl (fun ls hl => ?_)
      exact w_X10_wipeAll_33 E hr hlk _ _ _ _ _ _ _ _ hm hv0 hw (lv_sub hl [1, 2, 0] rfl)
    · have hm := o_f c3 hm
      refine lv_aload_n hx hb dX10_wipeAll_13 rfl (lv_at hl 0 rfl) ?_
      refine q_geta E hw fw_X10_30 rfl hv0 dX10_wipeAll_14 ?_
      refine lv_iload_n hx hb dX10_wipeAll_17 rfl (lv_at hl 1 rfl) ?_
      refine lv_iload_n hx hb dX10_wipeAll_18 rfl (lv_at hl 2 rfl) ?_
      refine q_cSi [.ref (b + (LC.2.1 v0 2))] E hw hm ms_X10_100 (fun u hu => c_X10_cellOf hu ) rfl rfl hl.1 (Nat.le_of_ble_eq_true rfl) ⟨Nat.le_of_ble_eq_true rfl, Nat.le_of_ble_eq_true rfl⟩ dX10_wipeAll_19 (fun u4 H locs hm hw => ?_)
      refine q_cVv (κ := 0) (C := RX0) (T := TX0) (N := 2) [] E hw hm mw_X10_156 (fun u hu => c_X0_empty hu (tC_10_2 hv0)) rfl (by decide) (tC_10_2 hv0) rfl rfl hl.1 (Nat.le_of_ble_eq_true rfl) ⟨Nat.le_of_ble_eq_true rfl, Nat.le_of_ble_eq_true rfl⟩ dX10_wipeAll_22 (fun u5 H locs hm hw => ?_)
      refine lv_iinc (v := v2 + 1) (lv' := [(2, .int (v2 + 1)), (0, .ref (b + v0)), (1, .int v1)]) hx hb dX10_wipeAll_25 hl (k := 2) rfl rfl (by decide) rfl (fun ls hl => ?_)
      refine lv_goto (tgt := 2) hx hb dX10_wipeAll_28 (by decide) ?_
      exact ih _ _ _ _ _ _ _ hm hv0 hw (lv_sub hl [1, 2, 0] rfl)
def f_X10_wipeAll (v0 : Nat) (v1 : Int32) (σ : ST) : Option (ST) :=
  k_X10_wipeAll_2 FU v0 v1 0 σ
set_option maxRecDepth 20000 in
set_option maxHeartbeats 1000000 in
theorem w_X10_wipeAll_0 {p : Program} {l : Launch} {e : Env} {s : State} {m : MethodId} {args : Array Value} {below : List Frame} {meth : Method} {c : Code} {D : va_G} {cy : Nat → ClassId} {b : Nat} (E : CX p m c cX10_wipeAll 3 s args RX10 D cy LC) (hr : meth.sig.returnType = none) (hlk : meth.locks = false) {r : ST} {v0 : Nat} {v1 : Int32} {σ : ST} {H : Heap} {locs : List Loc} {ls : Array Slot} (hm : f_X10_wipeAll v0 v1 σ = some r) (hv0 : LC.1 v0 = 10) (hw : PH D cy LC b σ s H locs) (hl : lv_has ls 3 [(0, .ref (b + v0)), (1, .int v1)]) : W p l e (rmD 4) s m args below meth c H locs 0 0 (MQ below (QcP D cy LC b none r) args s 0 0 (inP LC b)) (F0 m 0 ls []) := by
  have hx := E.1.1
  have hb := E.1.2.1
  unfold f_X10_wipeAll at hm
  refine lv_iconst (v := 0) hx hb dX10_wipeAll_0 (by decide) ?_
  refine lv_istore_n (lv' := [(2, .int 0), (0, .ref (b + v0)), (1, .int v1)]) hx hb dX10_wipeAll_1 rfl hl (by decide) rfl (fun ls hl => ?_)
  exact w_X10_wipeAll_2 E hr hlk _ _ _ _ _ _ _ _ hm hv0 hw (lv_sub hl [1, 2, 0] rfl)
theorem c_X10_wipeAll {l : Launch} {D : va_G} {cy : Nat → ClassId} {b : Nat} {v0 : Nat} {v1 : Int32} {σ : ST} {r : ST} (hm : f_X10_wipeAll v0 v1 σ = some r) (hv0 : LC.1 v0 = 10) : Met l yX10_wipeAll (wU yX10_wipeAll cX10_wipeAll 3 (none)) (rmD 4) (PcP D cy LC b [.ref (b + v0), .int v1] σ) (QcP D cy LC b none r) 0 0 (inP LC b) :=
  q_met (lv := [(0, .ref (b + v0)), (1, .int v1)]) LC_ok (by decide) (Nat.le_of_ble_eq_true rfl) rfl (fun _ _ _ _ _ _ _ _ _ E hr hlk hw hl => w_X10_wipeAll_0 E hr hlk hm hv0 hw hl)

def k_X10_hasTicket_16 (s0 : Int32) (σ : ST) : Option (Int32 × ST) :=
  (ckZ s0).bind fun z => some (z, σ)
set_option maxRecDepth 20000 in
set_option maxHeartbeats 1000000 in
theorem w_X10_hasTicket_16 {p : Program} {l : Launch} {e : Env} {s : State} {m : MethodId} {args : Array Value} {below : List Frame} {meth : Method} {c : Code} {D : va_G} {cy : Nat → ClassId} {b : Nat} (E : CX p m c cX10_hasTicket 2 s args RX10 D cy LC) (hr : meth.sig.returnType = some .boolean) (hlk : meth.locks = false) {r : Int32 × ST} {s0 : Int32} {σ : ST} {H : Heap} {locs : List Loc} {ls : Array Slot} (hm : k_X10_hasTicket_16 s0 σ = some r) (hw : PH D cy LC b σ s H locs) (hl : lv_has ls 2 []) : W p l e (rmD 0) s m args below meth c H locs 0 0 (MQ below (QcP D cy LC b (some (.int r.1)) r.2) args s 0 0 (inP LC b)) (F0 m 16 ls [.int s0]) := by
  have hx := E.1.1
  have hb := E.1.2.1
  unfold k_X10_hasTicket_16 at hm
  exact q_zret E hr hlk hw hm dX10_hasTicket_16
def f_X10_hasTicket (v0 : Nat) (v1 : Int32) (σ : ST) : Option (Int32 × ST) :=
  if (((gI σ v0 11) >>> (v1 &&& 31)) &&& 1) = 0 then (k_X10_hasTicket_16 0 σ) else (k_X10_hasTicket_16 1 σ)
set_option maxRecDepth 20000 in
set_option maxHeartbeats 1000000 in
theorem w_X10_hasTicket_0 {p : Program} {l : Launch} {e : Env} {s : State} {m : MethodId} {args : Array Value} {below : List Frame} {meth : Method} {c : Code} {D : va_G} {cy : Nat → ClassId} {b : Nat} (E : CX p m c cX10_hasTicket 2 s args RX10 D cy LC) (hr : meth.sig.returnType = some .boolean) (hlk : meth.locks = false) {r : Int32 × ST} {v0 : Nat} {v1 : Int32} {σ : ST} {H : Heap} {locs : List Loc} {ls : Array Slot} (hm : f_X10_hasTicket v0 v1 σ = some r) (hv0 : LC.1 v0 = 10) (hw : PH D cy LC b σ s H locs) (hl : lv_has ls 2 [(0, .ref (b + v0)), (1, .int v1)]) : W p l e (rmD 0) s m args below meth c H locs 0 0 (MQ below (QcP D cy LC b (some (.int r.1)) r.2) args s 0 0 (inP LC b)) (F0 m 0 ls []) := by
  have hx := E.1.1
  have hb := E.1.2.1
  unfold f_X10_hasTicket at hm
  refine lv_aload_n hx hb dX10_hasTicket_0 rfl (lv_at hl 0 rfl) ?_
  refine q_geti E hw fw_X10_60 rfl hv0 dX10_hasTicket_1 ?_
  refine lv_iload_n hx hb dX10_hasTicket_4 rfl (lv_at hl 1 rfl) ?_
  refine lv_ishr hx hb dX10_hasTicket_5 ?_
  refine lv_iconst (v := 1) hx hb dX10_hasTicket_6 (by decide) ?_
  refine lv_iand hx hb dX10_hasTicket_7 ?_
  refine lv_if_eq (tgt := 15) hx hb dX10_hasTicket_8 (by decide) (fun c1 => ?_) (fun c1 => ?_)
  · have hm := o_t c1 hm
    refine lv_iconst (v := 0) hx hb dX10_hasTicket_15 (by decide) ?_
    exact w_X10_hasTicket_16 E hr hlk hm  hw (lv_sub hl [] rfl)
  · have hm := o_f c1 hm
    refine lv_iconst (v := 1) hx hb dX10_hasTicket_11 (by decide) ?_
    refine lv_goto (tgt := 16) hx hb dX10_hasTicket_12 (by decide) ?_
    exact w_X10_hasTicket_16 E hr hlk hm  hw (lv_sub hl [] rfl)
theorem c_X10_hasTicket {l : Launch} {D : va_G} {cy : Nat → ClassId} {b : Nat} {v0 : Nat} {v1 : Int32} {σ : ST} {r : Int32 × ST} (hm : f_X10_hasTicket v0 v1 σ = some r) (hv0 : LC.1 v0 = 10) : Met l yX10_hasTicket (wU yX10_hasTicket cX10_hasTicket 2 (some .boolean)) (rmD 0) (PcP D cy LC b [.ref (b + v0), .int v1] σ) (QcP D cy LC b (some (.int r.1)) r.2) 0 0 (inP LC b) :=
  q_met (lv := [(0, .ref (b + v0)), (1, .int v1)]) LC_ok (by decide) (Nat.le_of_ble_eq_true rfl) rfl (fun _ _ _ _ _ _ _ _ _ E hr hlk hw hl => w_X10_hasTicket_0 E hr hlk hm hv0 hw hl)

def k_X10_isAlike_20 : Nat → Nat → Int32 → Int32 → Int32 → ST → Option (Int32 × ST)
  | 0, _, _, _, _, _ => none
  | n + 1, v0, v1, v2, v3, σ => if v2 ≤ v3 then ((ckZ 1).bind fun z => some (z, σ)) else ((f_X7_keeperAlong (LC.2.1 v0 0) v1 0 σ).bind fun u2 =>
  (f_X7_keeperAlong (LC.2.1 v0 0) v1 v3 u2.2).bind fun u3 =>
  (f_X10_areLike v0 u2.1 u3.1 v1 u3.2).bind fun u4 =>
  if u4.1 = 0 then ((ckZ 0).bind fun z => some (z, u4.2)) else (k_X10_isAlike_20 n v0 v1 v2 (v3 + 1) u4.2))
set_option maxRecDepth 20000 in
set_option maxHeartbeats 1000000 in
theorem w_X10_isAlike_20 {p : Program} {l : Launch} {e : Env} {s : State} {m : MethodId} {args : Array Value} {below : List Frame} {meth : Method} {c : Code} {D : va_G} {cy : Nat → ClassId} {b : Nat} (E : CX p m c cX10_isAlike 4 s args RX10 D cy LC) (hr : meth.sig.returnType = some .boolean) (hlk : meth.locks = false) {r : Int32 × ST} : ∀ (n : Nat) (v0 : Nat) (v1 : Int32) (v2 : Int32) (v3 : Int32) (σ : ST) (H : Heap) (locs : List Loc) (ls : Array Slot), k_X10_isAlike_20 n v0 v1 v2 v3 σ = some r → LC.1 v0 = 10 → PH D cy LC b σ s H locs → lv_has ls 4 [(0, .ref (b + v0)), (1, .int v1), (2, .int v2), (3, .int v3)] → W p l e (rmD 2) s m args below meth c H locs 0 0 (MQ below (QcP D cy LC b (some (.int r.1)) r.2) args s 0 0 (inP LC b)) (F0 m 20 ls []) := by
  have hx := E.1.1
  have hb := E.1.2.1
  intro n
  induction n with
  | zero =>
    intro v0 v1 v2 v3 σ H locs ls hm
    cases hm
  | succ n ih =>
    intro v0 v1 v2 v3 σ H locs ls hm hv0 hw hl
    rw [k_X10_isAlike_20] at hm
    refine lv_iload_n hx hb dX10_isAlike_20 rfl (lv_at hl 3 rfl) ?_
    refine lv_iload_n hx hb dX10_isAlike_21 rfl (lv_at hl 2 rfl) ?_
    refine lv_icmp_ge (tgt := 59) hx hb dX10_isAlike_22 (by decide) (fun c1 => ?_) (fun c1 => ?_)
    · have hm := o_t c1 hm
      refine lv_iconst (v := 1) hx hb dX10_isAlike_59 (by decide) ?_
      exact q_zret E hr hlk hw hm dX10_isAlike_60
    · have hm := o_f c1 hm
      refine lv_aload_n hx hb dX10_isAlike_25 rfl (lv_at hl 0 rfl) ?_
      refine lv_aload_n hx hb dX10_isAlike_26 rfl (lv_at hl 0 rfl) ?_
      refine q_geta E hw fw_X10_12 rfl hv0 dX10_isAlike_27 ?_
      refine lv_iload_n hx hb dX10_isAlike_30 rfl (lv_at hl 1 rfl) ?_
      refine lv_iconst (v := 0) hx hb dX10_isAlike_31 (by decide) ?_
      refine q_cVi (κ := 7) (C := RX7) (T := TX7) (N := 12) [.ref (b + v0)] E hw hm mw_X10_139 (fun u hu => c_X7_keeperAlong hu (tC_10_0 hv0)) rfl (by decide) (tC_10_0 hv0) rfl rfl hl.1 (Nat.le_of_ble_eq_true rfl) ⟨Nat.le_of_ble_eq_true rfl, Nat.le_of_ble_eq_true rfl⟩ dX10_isAlike_32 (fun u2 H locs hm hw => ?_)
      refine lv_aload_n hx hb dX10_isAlike_35 rfl (lv_at hl 0 rfl) ?_
      refine q_geta E hw fw_X10_12 rfl hv0 dX10_isAlike_36 ?_
      refine lv_iload_n hx hb dX10_isAlike_39 rfl (lv_at hl 1 rfl) ?_
      refine lv_iload_n hx hb dX10_isAlike_40 rfl (lv_at hl 3 rfl) ?_
      refine q_cVi (κ := 7) (C := RX7) (T := TX7) (N := 12) [.int u2.1, .ref (b + v0)] E hw hm mw_X10_139 (fun u hu => c_X7_keeperAlong hu (tC_10_0 hv0)) rfl (by decide) (tC_10_0 hv0) rfl rfl hl.1 (Nat.le_of_ble_eq_true rfl) ⟨Nat.le_of_ble_eq_true rfl, Nat.le_of_ble_eq_true rfl⟩ dX10_isAlike_41 (fun u3 H locs hm hw => ?_)
      refine lv_iload_n hx hb dX10_isAlike_44 rfl (lv_at hl 1 rfl) ?_
      refine q_cVi (κ := 10) (C := RX10) (T := TX10) (N := 12) [] E hw hm mw_X10_194 (fun u hu => c_X10_areLike hu hv0) rfl (by decide) hv0 rfl rfl hl.1 (Nat.le_of_ble_eq_true rfl) ⟨Nat.le_of_ble_eq_true rfl, Nat.le_of_ble_eq_true rfl⟩ dX10_isAlike_45 (fun u4 H locs hm hw => ?_)
      refine lv_if_ne (tgt := 53) hx hb dX10_isAlike_48 (by decide) (fun c5 => ?_) (fun c5 => ?_)
      · have hm := o_f c5 hm
        refine lv_iinc (v := v3 + 1) (lv' := [(3, .int (v3 + 1)), (0, .ref (b + v0)), (1, .int v1), (2, .int v2)]) hx hb dX10_isAlike_53 hl (k := 3) rfl rfl (by decide) rfl (fun ls hl => ?_)
        refine lv_goto (tgt := 20) hx hb dX10_isAlike_56 (by decide) ?_
        exact ih _ _ _ _ _ _ _ _ hm hv0 hw (lv_sub hl [1, 2, 3, 0] rfl)
      · have hm := o_t c5 hm
        refine lv_iconst (v := 0) hx hb dX10_isAlike_51 (by decide) ?_
        exact q_zret E hr hlk hw hm dX10_isAlike_52
def f_X10_isAlike (v0 : Nat) (v1 : Int32) (σ : ST) : Option (Int32 × ST) :=
  k_X10_isAlike_20 FU v0 v1 (if (gI σ (LC.2.1 v0 0) 6) < (gI σ (LC.2.1 v0 0) 9) then (gI σ (LC.2.1 v0 0) 6) else (gI σ (LC.2.1 v0 0) 9)) 1 σ
set_option maxRecDepth 20000 in
set_option maxHeartbeats 1000000 in
theorem w_X10_isAlike_0 {p : Program} {l : Launch} {e : Env} {s : State} {m : MethodId} {args : Array Value} {below : List Frame} {meth : Method} {c : Code} {D : va_G} {cy : Nat → ClassId} {b : Nat} (E : CX p m c cX10_isAlike 4 s args RX10 D cy LC) (hr : meth.sig.returnType = some .boolean) (hlk : meth.locks = false) {r : Int32 × ST} {v0 : Nat} {v1 : Int32} {σ : ST} {H : Heap} {locs : List Loc} {ls : Array Slot} (hm : f_X10_isAlike v0 v1 σ = some r) (hv0 : LC.1 v0 = 10) (hw : PH D cy LC b σ s H locs) (hl : lv_has ls 4 [(0, .ref (b + v0)), (1, .int v1)]) : W p l e (rmD 2) s m args below meth c H locs 0 0 (MQ below (QcP D cy LC b (some (.int r.1)) r.2) args s 0 0 (inP LC b)) (F0 m 0 ls []) := by
  have hx := E.1.1
  have hb := E.1.2.1
  unfold f_X10_isAlike at hm
  refine lv_aload_n hx hb dX10_isAlike_0 rfl (lv_at hl 0 rfl) ?_
  refine q_geta E hw fw_X10_12 rfl hv0 dX10_isAlike_1 ?_
  refine q_geti E hw fw_X10_128 rfl (tC_10_0 hv0) dX10_isAlike_4 ?_
  refine lv_aload_n hx hb dX10_isAlike_7 rfl (lv_at hl 0 rfl) ?_
  refine q_geta E hw fw_X10_12 rfl hv0 dX10_isAlike_8 ?_
  refine q_geti E hw fw_X10_131 rfl (tC_10_0 hv0) dX10_isAlike_11 ?_
  refine va_mmin hx hb (E.1.2.2.1.trans hl.1.symm) E.1.2.2.2.1 (E.1.2.2.2.2 _ (rL41 _ (List.mem_of_getElem? (i := 3) rfl))) (E.1.2.2.2.2 _ (rL25 _ (List.mem_of_getElem? (i := 14) rfl))) (E.1.2.2.2.2 _ (rL25 _ (List.mem_of_getElem? (i := 15) rfl))) (E.1.2.2.2.2 _ (rL25 _ (List.mem_of_getElem? (i := 16) rfl))) (Nat.le_of_ble_eq_true rfl) (Nat.le_of_ble_eq_true rfl) (Nat.zero_le _) (Nat.zero_le _) dX10_isAlike_14 ?_
  refine lv_istore_n (lv' := [(2, .int (if (gI σ (LC.2.1 v0 0) 6) < (gI σ (LC.2.1 v0 0) 9) then (gI σ (LC.2.1 v0 0) 6) else (gI σ (LC.2.1 v0 0) 9))), (0, .ref (b + v0)), (1, .int v1)]) hx hb dX10_isAlike_17 rfl hl (by decide) rfl (fun ls hl => ?_)
  refine lv_iconst (v := 1) hx hb dX10_isAlike_18 (by decide) ?_
  refine lv_istore_n (lv' := [(3, .int 1), (2, .int (if (gI σ (LC.2.1 v0 0) 6) < (gI σ (LC.2.1 v0 0) 9) then (gI σ (LC.2.1 v0 0) 6) else (gI σ (LC.2.1 v0 0) 9))), (0, .ref (b + v0)), (1, .int v1)]) hx hb dX10_isAlike_19 rfl hl (by decide) rfl (fun ls hl => ?_)
  exact w_X10_isAlike_20 E hr hlk _ _ _ _ _ _ _ _ _ hm hv0 hw (lv_sub hl [2, 3, 1, 0] rfl)
theorem c_X10_isAlike {l : Launch} {D : va_G} {cy : Nat → ClassId} {b : Nat} {v0 : Nat} {v1 : Int32} {σ : ST} {r : Int32 × ST} (hm : f_X10_isAlike v0 v1 σ = some r) (hv0 : LC.1 v0 = 10) : Met l yX10_isAlike (wU yX10_isAlike cX10_isAlike 4 (some .boolean)) (rmD 2) (PcP D cy LC b [.ref (b + v0), .int v1] σ) (QcP D cy LC b (some (.int r.1)) r.2) 0 0 (inP LC b) :=
  q_met (lv := [(0, .ref (b + v0)), (1, .int v1)]) LC_ok (by decide) (Nat.le_of_ble_eq_true rfl) rfl (fun _ _ _ _ _ _ _ _ _ E hr hlk hw hl => w_X10_isAlike_0 E hr hlk hm hv0 hw hl)

def f_X10_copy (v0 : Nat) (v1 : Nat) (σ : ST) : Option (ST) :=
  (f_X7_copy (LC.2.1 v0 0) (LC.2.1 v1 0) σ).bind fun u1 =>
  (f_X2_copy (LC.2.1 v0 1) (LC.2.1 v1 1) u1).bind fun u2 =>
  (f_X0_copyAll (LC.2.1 v0 2) (LC.2.1 v1 2) u2).bind fun u3 =>
  (f_X0_copyAll (LC.2.1 v0 3) (LC.2.1 v1 3) u3).bind fun u4 =>
  (cpA LC u4 (LC.2.1 v1 4) 0 (LC.2.1 v0 4) 0 (Int32.ofNat (LC.2.2.1 (LC.2.1 v0 4)))).bind fun σ5 =>
  (f_X0_copyAll (LC.2.1 v0 5) (LC.2.1 v1 5) σ5).bind fun u6 =>
  (cpA LC u6 (LC.2.1 v1 6) 0 (LC.2.1 v0 6) 0 4).bind fun σ7 =>
  (cpA LC σ7 (LC.2.1 v1 7) 0 (LC.2.1 v0 7) 0 (Int32.ofNat (LC.2.2.1 (LC.2.1 v0 7)))).bind fun σ8 =>
  (cpA LC σ8 (LC.2.1 v1 8) 0 (LC.2.1 v0 8) 0 (Int32.ofNat (LC.2.2.1 (LC.2.1 v0 8)))).bind fun σ9 =>
  (stI σ9 v0 9 (gI σ9 v1 9)).bind fun σ10 =>
  (stI σ10 v0 10 (gI σ10 v1 10)).bind fun σ11 =>
  (stI σ11 v0 11 (gI σ11 v1 11)).bind fun σ12 =>
  some σ12
set_option maxRecDepth 20000 in
set_option maxHeartbeats 1000000 in
theorem w_X10_copy_0 {p : Program} {l : Launch} {e : Env} {s : State} {m : MethodId} {args : Array Value} {below : List Frame} {meth : Method} {c : Code} {D : va_G} {cy : Nat → ClassId} {b : Nat} (E : CX p m c cX10_copy 2 s args RX10 D cy LC) (hr : meth.sig.returnType = none) (hlk : meth.locks = false) {r : ST} {v0 : Nat} {v1 : Nat} {σ : ST} {H : Heap} {locs : List Loc} {ls : Array Slot} (hm : f_X10_copy v0 v1 σ = some r) (hv0 : LC.1 v0 = 10) (hv1 : LC.1 v1 = 10) (hw : PH D cy LC b σ s H locs) (hl : lv_has ls 2 [(0, .ref (b + v0)), (1, .ref (b + v1))]) : W p l e (rmD 2) s m args below meth c H locs 0 0 (MQ below (QcP D cy LC b none r) args s 0 0 (inP LC b)) (F0 m 0 ls []) := by
  have hx := E.1.1
  have hb := E.1.2.1
  unfold f_X10_copy at hm
  refine lv_aload_n hx hb dX10_copy_0 rfl (lv_at hl 0 rfl) ?_
  refine q_geta E hw fw_X10_12 rfl hv0 dX10_copy_1 ?_
  refine lv_aload_n hx hb dX10_copy_4 rfl (lv_at hl 1 rfl) ?_
  refine q_geta E hw fw_X10_12 rfl hv1 dX10_copy_5 ?_
  refine q_cVv (κ := 7) (C := RX7) (T := TX7) (N := 12) [] E hw hm mw_X10_63 (fun u hu => c_X7_copy hu (tC_10_0 hv0) (tC_10_0 hv1)) rfl (by decide) (tC_10_0 hv0) rfl rfl hl.1 (Nat.le_of_ble_eq_true rfl) ⟨Nat.le_of_ble_eq_true rfl, Nat.le_of_ble_eq_true rfl⟩ dX10_copy_8 (fun u1 H locs hm hw => ?_)
  refine lv_aload_n hx hb dX10_copy_11 rfl (lv_at hl 0 rfl) ?_
  refine q_geta E hw fw_X10_21 rfl hv0 dX10_copy_12 ?_
  refine lv_aload_n hx hb dX10_copy_15 rfl (lv_at hl 1 rfl) ?_
  refine q_geta E hw fw_X10_21 rfl hv1 dX10_copy_16 ?_
  refine q_cVv (κ := 2) (C := RX2) (T := TX2) (N := 9) [] E hw hm mw_X10_67 (fun u hu => c_X2_copy hu (tC_10_1 hv0) (tC_10_1 hv1)) rfl (by decide) (tC_10_1 hv0) rfl rfl hl.1 (Nat.le_of_ble_eq_true rfl) ⟨Nat.le_of_ble_eq_true rfl, Nat.le_of_ble_eq_true rfl⟩ dX10_copy_19 (fun u2 H locs hm hw => ?_)
  refine lv_aload_n hx hb dX10_copy_22 rfl (lv_at hl 0 rfl) ?_
  refine q_geta E hw fw_X10_30 rfl hv0 dX10_copy_23 ?_
  refine lv_aload_n hx hb dX10_copy_26 rfl (lv_at hl 1 rfl) ?_
  refine q_geta E hw fw_X10_30 rfl hv1 dX10_copy_27 ?_
  refine q_cVv (κ := 0) (C := RX0) (T := TX0) (N := 2) [] E hw hm mw_X10_70 (fun u hu => c_X0_copyAll hu (tC_10_2 hv0) (tC_10_2 hv1)) rfl (by decide) (tC_10_2 hv0) rfl rfl hl.1 (Nat.le_of_ble_eq_true rfl) ⟨Nat.le_of_ble_eq_true rfl, Nat.le_of_ble_eq_true rfl⟩ dX10_copy_30 (fun u3 H locs hm hw => ?_)
  refine lv_aload_n hx hb dX10_copy_33 rfl (lv_at hl 0 rfl) ?_
  refine q_geta E hw fw_X10_34 rfl hv0 dX10_copy_34 ?_
  refine lv_aload_n hx hb dX10_copy_37 rfl (lv_at hl 1 rfl) ?_
  refine q_geta E hw fw_X10_34 rfl hv1 dX10_copy_38 ?_
  refine q_cVv (κ := 0) (C := RX0) (T := TX0) (N := 2) [] E hw hm mw_X10_70 (fun u hu => c_X0_copyAll hu (tC_10_3 hv0) (tC_10_3 hv1)) rfl (by decide) (tC_10_3 hv0) rfl rfl hl.1 (Nat.le_of_ble_eq_true rfl) ⟨Nat.le_of_ble_eq_true rfl, Nat.le_of_ble_eq_true rfl⟩ dX10_copy_41 (fun u4 H locs hm hw => ?_)
  refine lv_aload_n hx hb dX10_copy_44 rfl (lv_at hl 1 rfl) ?_
  refine q_geta E hw fw_X10_37 rfl hv1 dX10_copy_45 ?_
  refine lv_iconst (v := 0) hx hb dX10_copy_48 (by decide) ?_
  refine lv_aload_n hx hb dX10_copy_49 rfl (lv_at hl 0 rfl) ?_
  refine q_geta E hw fw_X10_37 rfl hv0 dX10_copy_50 ?_
  refine lv_iconst (v := 0) hx hb dX10_copy_53 (by decide) ?_
  refine lv_aload_n hx hb dX10_copy_54 rfl (lv_at hl 0 rfl) ?_
  refine q_geta E hw fw_X10_37 rfl hv0 dX10_copy_55 ?_
  refine q_alenI E hw (tC_10_4 hv0) dX10_copy_58 ?_
  refine q_cpi E hw hm (rL74 _ (List.mem_of_getElem? (i := 11) rfl)) w_arraycopy hl.1 (tC_10_4 hv1) (tC_10_4 hv0) (by decide) (by decide) dX10_copy_59 (fun σ5 H locs hm hw => ?_)
  refine lv_aload_n hx hb dX10_copy_62 rfl (lv_at hl 0 rfl) ?_
  refine q_geta E hw fw_X10_41 rfl hv0 dX10_copy_63 ?_
  refine lv_aload_n hx hb dX10_copy_66 rfl (lv_at hl 1 rfl) ?_
  refine q_geta E hw fw_X10_41 rfl hv1 dX10_copy_67 ?_
  refine q_cVv (κ := 0) (C := RX0) (T := TX0) (N := 2) [] E hw hm mw_X10_70 (fun u hu => c_X0_copyAll hu (tC_10_5 hv0) (tC_10_5 hv1)) rfl (by decide) (tC_10_5 hv0) rfl rfl hl.1 (Nat.le_of_ble_eq_true rfl) ⟨Nat.le_of_ble_eq_true rfl, Nat.le_of_ble_eq_true rfl⟩ dX10_copy_70 (fun u6 H locs hm hw => ?_)
  refine lv_aload_n hx hb dX10_copy_73 rfl (lv_at hl 1 rfl) ?_
  refine q_geta E hw fw_X10_44 rfl hv1 dX10_copy_74 ?_
  refine lv_iconst (v := 0) hx hb dX10_copy_77 (by decide) ?_
  refine lv_aload_n hx hb dX10_copy_78 rfl (lv_at hl 0 rfl) ?_
  refine q_geta E hw fw_X10_44 rfl hv0 dX10_copy_79 ?_
  refine lv_iconst (v := 0) hx hb dX10_copy_82 (by decide) ?_
  refine lv_iconst (v := 4) hx hb dX10_copy_83 (by decide) ?_
  refine q_cpi E hw hm (rL74 _ (List.mem_of_getElem? (i := 11) rfl)) w_arraycopy hl.1 (tC_10_6 hv1) (tC_10_6 hv0) (by decide) (by decide) dX10_copy_84 (fun σ7 H locs hm hw => ?_)
  refine lv_aload_n hx hb dX10_copy_87 rfl (lv_at hl 1 rfl) ?_
  refine q_geta E hw fw_X10_47 rfl hv1 dX10_copy_88 ?_
  refine lv_iconst (v := 0) hx hb dX10_copy_91 (by decide) ?_
  refine lv_aload_n hx hb dX10_copy_92 rfl (lv_at hl 0 rfl) ?_
  refine q_geta E hw fw_X10_47 rfl hv0 dX10_copy_93 ?_
  refine lv_iconst (v := 0) hx hb dX10_copy_96 (by decide) ?_
  refine lv_aload_n hx hb dX10_copy_97 rfl (lv_at hl 0 rfl) ?_
  refine q_geta E hw fw_X10_47 rfl hv0 dX10_copy_98 ?_
  refine q_alenI E hw (tC_10_7 hv0) dX10_copy_101 ?_
  refine q_cpi E hw hm (rL74 _ (List.mem_of_getElem? (i := 11) rfl)) w_arraycopy hl.1 (tC_10_7 hv1) (tC_10_7 hv0) (by decide) (by decide) dX10_copy_102 (fun σ8 H locs hm hw => ?_)
  refine lv_aload_n hx hb dX10_copy_105 rfl (lv_at hl 1 rfl) ?_
  refine q_geta E hw fw_X10_50 rfl hv1 dX10_copy_106 ?_
  refine lv_iconst (v := 0) hx hb dX10_copy_109 (by decide) ?_
  refine lv_aload_n hx hb dX10_copy_110 rfl (lv_at hl 0 rfl) ?_
  refine q_geta E hw fw_X10_50 rfl hv0 dX10_copy_111 ?_
  refine lv_iconst (v := 0) hx hb dX10_copy_114 (by decide) ?_
  refine lv_aload_n hx hb dX10_copy_115 rfl (lv_at hl 0 rfl) ?_
  refine q_geta E hw fw_X10_50 rfl hv0 dX10_copy_116 ?_
  refine q_alenI E hw (tC_10_8 hv0) dX10_copy_119 ?_
  refine q_cpi E hw hm (rL74 _ (List.mem_of_getElem? (i := 11) rfl)) w_arraycopy hl.1 (tC_10_8 hv1) (tC_10_8 hv0) (by decide) (by decide) dX10_copy_120 (fun σ9 H locs hm hw => ?_)
  refine lv_aload_n hx hb dX10_copy_123 rfl (lv_at hl 0 rfl) ?_
  refine lv_aload_n hx hb dX10_copy_124 rfl (lv_at hl 1 rfl) ?_
  refine q_geti E hw fw_X10_53 rfl hv1 dX10_copy_125 ?_
  refine q_pi E hw hm fw_X10_53 rfl rfl hv0 dX10_copy_128 (fun σ10 H locs hm hw => ?_)
  refine lv_aload_n hx hb dX10_copy_131 rfl (lv_at hl 0 rfl) ?_
  refine lv_aload_n hx hb dX10_copy_132 rfl (lv_at hl 1 rfl) ?_
  refine q_geti E hw fw_X10_57 rfl hv1 dX10_copy_133 ?_
  refine q_pi E hw hm fw_X10_57 rfl rfl hv0 dX10_copy_136 (fun σ11 H locs hm hw => ?_)
  refine lv_aload_n hx hb dX10_copy_139 rfl (lv_at hl 0 rfl) ?_
  refine lv_aload_n hx hb dX10_copy_140 rfl (lv_at hl 1 rfl) ?_
  refine q_geti E hw fw_X10_60 rfl hv1 dX10_copy_141 ?_
  refine q_pi E hw hm fw_X10_60 rfl rfl hv0 dX10_copy_144 (fun σ12 H locs hm hw => ?_)
  exact q_vret E hr hlk hw hm dX10_copy_147
theorem c_X10_copy {l : Launch} {D : va_G} {cy : Nat → ClassId} {b : Nat} {v0 : Nat} {v1 : Nat} {σ : ST} {r : ST} (hm : f_X10_copy v0 v1 σ = some r) (hv0 : LC.1 v0 = 10) (hv1 : LC.1 v1 = 10) : Met l yX10_copy (wU yX10_copy cX10_copy 2 (none)) (rmD 2) (PcP D cy LC b [.ref (b + v0), .ref (b + v1)] σ) (QcP D cy LC b none r) 0 0 (inP LC b) :=
  q_met (lv := [(0, .ref (b + v0)), (1, .ref (b + v1))]) LC_ok (by decide) (Nat.le_of_ble_eq_true rfl) rfl (fun _ _ _ _ _ _ _ _ _ E hr hlk hw hl => w_X10_copy_0 E hr hlk hm hv0 hv1 hw hl)

def f_X10_begin (v0 : Nat) (v1 : Nat) (σ : ST) : Option (ST) :=
  (f_X7_copy (LC.2.1 v0 0) v1 σ).bind fun u1 =>
  (f_X2_clear (LC.2.1 v0 1) u1).bind fun u2 =>
  (f_X0_emptyAll (LC.2.1 v0 2) u2).bind fun u3 =>
  (f_X0_emptyAll (LC.2.1 v0 3) u3).bind fun u4 =>
  (f_J7_fill_53178 (LC.2.1 v0 4) 0 u4).bind fun u5 =>
  (f_J7_fill_53178 (LC.2.1 v0 7) 0 u5).bind fun u6 =>
  (f_X7_keeperSet (LC.2.1 v0 0) u6).bind fun u7 =>
  (stI u7.2 v0 9 u7.1).bind fun σ8 =>
  (stI σ8 v0 10 0).bind fun σ9 =>
  (stI σ9 v0 11 0).bind fun σ10 =>
  some σ10
set_option maxRecDepth 20000 in
set_option maxHeartbeats 1000000 in
theorem w_X10_begin_0 {p : Program} {l : Launch} {e : Env} {s : State} {m : MethodId} {args : Array Value} {below : List Frame} {meth : Method} {c : Code} {D : va_G} {cy : Nat → ClassId} {b : Nat} (E : CX p m c cX10_begin 2 s args RX10 D cy LC) (hr : meth.sig.returnType = none) (hlk : meth.locks = false) {r : ST} {v0 : Nat} {v1 : Nat} {σ : ST} {H : Heap} {locs : List Loc} {ls : Array Slot} (hm : f_X10_begin v0 v1 σ = some r) (hv0 : LC.1 v0 = 10) (hv1 : LC.1 v1 = 7) (hw : PH D cy LC b σ s H locs) (hl : lv_has ls 2 [(0, .ref (b + v0)), (1, .ref (b + v1))]) : W p l e (rmD 2) s m args below meth c H locs 0 0 (MQ below (QcP D cy LC b none r) args s 0 0 (inP LC b)) (F0 m 0 ls []) := by
  have hx := E.1.1
  have hb := E.1.2.1
  unfold f_X10_begin at hm
  refine lv_aload_n hx hb dX10_begin_0 rfl (lv_at hl 0 rfl) ?_
  refine q_geta E hw fw_X10_12 rfl hv0 dX10_begin_1 ?_
  refine lv_aload_n hx hb dX10_begin_4 rfl (lv_at hl 1 rfl) ?_
  refine q_cVv (κ := 7) (C := RX7) (T := TX7) (N := 12) [] E hw hm mw_X10_63 (fun u hu => c_X7_copy hu (tC_10_0 hv0) hv1) rfl (by decide) (tC_10_0 hv0) rfl rfl hl.1 (Nat.le_of_ble_eq_true rfl) ⟨Nat.le_of_ble_eq_true rfl, Nat.le_of_ble_eq_true rfl⟩ dX10_begin_5 (fun u1 H locs hm hw => ?_)
  refine lv_aload_n hx hb dX10_begin_8 rfl (lv_at hl 0 rfl) ?_
  refine q_geta E hw fw_X10_21 rfl hv0 dX10_begin_9 ?_
  refine q_cVv (κ := 2) (C := RX2) (T := TX2) (N := 9) [] E hw hm mw_X10_80 (fun u hu => c_X2_clear hu (tC_10_1 hv0)) rfl (by decide) (tC_10_1 hv0) rfl rfl hl.1 (Nat.le_of_ble_eq_true rfl) ⟨Nat.le_of_ble_eq_true rfl, Nat.le_of_ble_eq_true rfl⟩ dX10_begin_12 (fun u2 H locs hm hw => ?_)
  refine lv_aload_n hx hb dX10_begin_15 rfl (lv_at hl 0 rfl) ?_
  refine q_geta E hw fw_X10_30 rfl hv0 dX10_begin_16 ?_
  refine q_cVv (κ := 0) (C := RX0) (T := TX0) (N := 2) [] E hw hm mw_X10_83 (fun u hu => c_X0_emptyAll hu (tC_10_2 hv0)) rfl (by decide) (tC_10_2 hv0) rfl rfl hl.1 (Nat.le_of_ble_eq_true rfl) ⟨Nat.le_of_ble_eq_true rfl, Nat.le_of_ble_eq_true rfl⟩ dX10_begin_19 (fun u3 H locs hm hw => ?_)
  refine lv_aload_n hx hb dX10_begin_22 rfl (lv_at hl 0 rfl) ?_
  refine q_geta E hw fw_X10_34 rfl hv0 dX10_begin_23 ?_
  refine q_cVv (κ := 0) (C := RX0) (T := TX0) (N := 2) [] E hw hm mw_X10_83 (fun u hu => c_X0_emptyAll hu (tC_10_3 hv0)) rfl (by decide) (tC_10_3 hv0) rfl rfl hl.1 (Nat.le_of_ble_eq_true rfl) ⟨Nat.le_of_ble_eq_true rfl, Nat.le_of_ble_eq_true rfl⟩ dX10_begin_26 (fun u4 H locs hm hw => ?_)
  refine lv_aload_n hx hb dX10_begin_29 rfl (lv_at hl 0 rfl) ?_
  refine q_geta E hw fw_X10_37 rfl hv0 dX10_begin_30 ?_
  refine lv_iconst (v := 0) hx hb dX10_begin_33 (by decide) ?_
  refine q_cSv [] E hw hm ms_X10_86 (fun u hu => c_J7_fill_53178 hu (tC_10_4 hv0)) rfl rfl hl.1 (Nat.le_of_ble_eq_true rfl) ⟨Nat.le_of_ble_eq_true rfl, Nat.le_of_ble_eq_true rfl⟩ dX10_begin_34 (fun u5 H locs hm hw => ?_)
  refine lv_aload_n hx hb dX10_begin_37 rfl (lv_at hl 0 rfl) ?_
  refine q_geta E hw fw_X10_47 rfl hv0 dX10_begin_38 ?_
  refine lv_iconst (v := 0) hx hb dX10_begin_41 (by decide) ?_
  refine q_cSv [] E hw hm ms_X10_86 (fun u hu => c_J7_fill_53178 hu (tC_10_7 hv0)) rfl rfl hl.1 (Nat.le_of_ble_eq_true rfl) ⟨Nat.le_of_ble_eq_true rfl, Nat.le_of_ble_eq_true rfl⟩ dX10_begin_42 (fun u6 H locs hm hw => ?_)
  refine lv_aload_n hx hb dX10_begin_45 rfl (lv_at hl 0 rfl) ?_
  refine lv_aload_n hx hb dX10_begin_46 rfl (lv_at hl 0 rfl) ?_
  refine q_geta E hw fw_X10_12 rfl hv0 dX10_begin_47 ?_
  refine q_cVi (κ := 7) (C := RX7) (T := TX7) (N := 12) [.ref (b + v0)] E hw hm mw_X10_92 (fun u hu => c_X7_keeperSet hu (tC_10_0 hv0)) rfl (by decide) (tC_10_0 hv0) rfl rfl hl.1 (Nat.le_of_ble_eq_true rfl) ⟨Nat.le_of_ble_eq_true rfl, Nat.le_of_ble_eq_true rfl⟩ dX10_begin_50 (fun u7 H locs hm hw => ?_)
  refine q_pi E hw hm fw_X10_53 rfl rfl hv0 dX10_begin_53 (fun σ8 H locs hm hw => ?_)
  refine lv_aload_n hx hb dX10_begin_56 rfl (lv_at hl 0 rfl) ?_
  refine lv_iconst (v := 0) hx hb dX10_begin_57 (by decide) ?_
  refine q_pi E hw hm fw_X10_57 rfl rfl hv0 dX10_begin_58 (fun σ9 H locs hm hw => ?_)
  refine lv_aload_n hx hb dX10_begin_61 rfl (lv_at hl 0 rfl) ?_
  refine lv_iconst (v := 0) hx hb dX10_begin_62 (by decide) ?_
  refine q_pi E hw hm fw_X10_60 rfl rfl hv0 dX10_begin_63 (fun σ10 H locs hm hw => ?_)
  exact q_vret E hr hlk hw hm dX10_begin_66
theorem c_X10_begin {l : Launch} {D : va_G} {cy : Nat → ClassId} {b : Nat} {v0 : Nat} {v1 : Nat} {σ : ST} {r : ST} (hm : f_X10_begin v0 v1 σ = some r) (hv0 : LC.1 v0 = 10) (hv1 : LC.1 v1 = 7) : Met l yX10_begin (wU yX10_begin cX10_begin 2 (none)) (rmD 2) (PcP D cy LC b [.ref (b + v0), .ref (b + v1)] σ) (QcP D cy LC b none r) 0 0 (inP LC b) :=
  q_met (lv := [(0, .ref (b + v0)), (1, .ref (b + v1))]) LC_ok (by decide) (Nat.le_of_ble_eq_true rfl) rfl (fun _ _ _ _ _ _ _ _ _ E hr hlk hw hl => w_X10_begin_0 E hr hlk hm hv0 hv1 hw hl)

def k_X10_areUp_16 (s0 : Int32) (σ : ST) : Option (Int32 × ST) :=
  (ckZ s0).bind fun z => some (z, σ)
set_option maxRecDepth 20000 in
set_option maxHeartbeats 1000000 in
theorem w_X10_areUp_16 {p : Program} {l : Launch} {e : Env} {s : State} {m : MethodId} {args : Array Value} {below : List Frame} {meth : Method} {c : Code} {D : va_G} {cy : Nat → ClassId} {b : Nat} (E : CX p m c cX10_areUp 2 s args RX10 D cy LC) (hr : meth.sig.returnType = some .boolean) (hlk : meth.locks = false) {r : Int32 × ST} {s0 : Int32} {σ : ST} {H : Heap} {locs : List Loc} {ls : Array Slot} (hm : k_X10_areUp_16 s0 σ = some r) (hw : PH D cy LC b σ s H locs) (hl : lv_has ls 2 []) : W p l e (rmD 0) s m args below meth c H locs 0 0 (MQ below (QcP D cy LC b (some (.int r.1)) r.2) args s 0 0 (inP LC b)) (F0 m 16 ls [.int s0]) := by
  have hx := E.1.1
  have hb := E.1.2.1
  unfold k_X10_areUp_16 at hm
  exact q_zret E hr hlk hw hm dX10_areUp_16
def f_X10_areUp (v0 : Nat) (v1 : Int32) (σ : ST) : Option (Int32 × ST) :=
  if (v1 &&& ((gI σ v0 9) ^^^ (-1))) = 0 then (k_X10_areUp_16 1 σ) else (k_X10_areUp_16 0 σ)
set_option maxRecDepth 20000 in
set_option maxHeartbeats 1000000 in
theorem w_X10_areUp_0 {p : Program} {l : Launch} {e : Env} {s : State} {m : MethodId} {args : Array Value} {below : List Frame} {meth : Method} {c : Code} {D : va_G} {cy : Nat → ClassId} {b : Nat} (E : CX p m c cX10_areUp 2 s args RX10 D cy LC) (hr : meth.sig.returnType = some .boolean) (hlk : meth.locks = false) {r : Int32 × ST} {v0 : Nat} {v1 : Int32} {σ : ST} {H : Heap} {locs : List Loc} {ls : Array Slot} (hm : f_X10_areUp v0 v1 σ = some r) (hv0 : LC.1 v0 = 10) (hw : PH D cy LC b σ s H locs) (hl : lv_has ls 2 [(0, .ref (b + v0)), (1, .int v1)]) : W p l e (rmD 0) s m args below meth c H locs 0 0 (MQ below (QcP D cy LC b (some (.int r.1)) r.2) args s 0 0 (inP LC b)) (F0 m 0 ls []) := by
  have hx := E.1.1
  have hb := E.1.2.1
  unfold f_X10_areUp at hm
  refine lv_iload_n hx hb dX10_areUp_0 rfl (lv_at hl 1 rfl) ?_
  refine lv_aload_n hx hb dX10_areUp_1 rfl (lv_at hl 0 rfl) ?_
  refine q_geti E hw fw_X10_53 rfl hv0 dX10_areUp_2 ?_
  refine lv_iconst (v := (-1)) hx hb dX10_areUp_5 (by decide) ?_
  refine lv_ixor hx hb dX10_areUp_6 ?_
  refine lv_iand hx hb dX10_areUp_7 ?_
  refine lv_if_ne (tgt := 15) hx hb dX10_areUp_8 (by decide) (fun c1 => ?_) (fun c1 => ?_)
  · have hm := o_f c1 hm
    refine lv_iconst (v := 0) hx hb dX10_areUp_15 (by decide) ?_
    exact w_X10_areUp_16 E hr hlk hm  hw (lv_sub hl [] rfl)
  · have hm := o_t c1 hm
    refine lv_iconst (v := 1) hx hb dX10_areUp_11 (by decide) ?_
    refine lv_goto (tgt := 16) hx hb dX10_areUp_12 (by decide) ?_
    exact w_X10_areUp_16 E hr hlk hm  hw (lv_sub hl [] rfl)
theorem c_X10_areUp {l : Launch} {D : va_G} {cy : Nat → ClassId} {b : Nat} {v0 : Nat} {v1 : Int32} {σ : ST} {r : Int32 × ST} (hm : f_X10_areUp v0 v1 σ = some r) (hv0 : LC.1 v0 = 10) : Met l yX10_areUp (wU yX10_areUp cX10_areUp 2 (some .boolean)) (rmD 0) (PcP D cy LC b [.ref (b + v0), .int v1] σ) (QcP D cy LC b (some (.int r.1)) r.2) 0 0 (inP LC b) :=
  q_met (lv := [(0, .ref (b + v0)), (1, .int v1)]) LC_ok (by decide) (Nat.le_of_ble_eq_true rfl) rfl (fun _ _ _ _ _ _ _ _ _ E hr hlk hw hl => w_X10_areUp_0 E hr hlk hm hv0 hw hl)

def k_X10_hintCount_4 : Nat → Nat → Int32 → Int32 → Int32 → ST → Option (Int32 × ST)
  | 0, _, _, _, _, _ => none
  | n + 1, v0, v1, v2, v3, σ => if (gI σ (LC.2.1 v0 0) 6) ≤ v3 then (some (v2, σ)) else ((ldA LC σ (LC.2.1 v0 4) ((v1 * 6) + v3)).bind fun a2 =>
  (f_J6_bitCount_0f7a4 a2 σ).bind fun u3 =>
  k_X10_hintCount_4 n v0 v1 (v2 + u3.1) (v3 + 1) u3.2)
set_option maxRecDepth 20000 in
set_option maxHeartbeats 1000000 in
theorem w_X10_hintCount_4 {p : Program} {l : Launch} {e : Env} {s : State} {m : MethodId} {args : Array Value} {below : List Frame} {meth : Method} {c : Code} {D : va_G} {cy : Nat → ClassId} {b : Nat} (E : CX p m c cX10_hintCount 4 s args RX10 D cy LC) (hr : meth.sig.returnType = some .int) (hlk : meth.locks = false) {r : Int32 × ST} : ∀ (n : Nat) (v0 : Nat) (v1 : Int32) (v2 : Int32) (v3 : Int32) (σ : ST) (H : Heap) (locs : List Loc) (ls : Array Slot), k_X10_hintCount_4 n v0 v1 v2 v3 σ = some r → LC.1 v0 = 10 → PH D cy LC b σ s H locs → lv_has ls 4 [(0, .ref (b + v0)), (1, .int v1), (2, .int v2), (3, .int v3)] → W p l e (rmD 1) s m args below meth c H locs 0 0 (MQ below (QcP D cy LC b (some (.int r.1)) r.2) args s 0 0 (inP LC b)) (F0 m 4 ls []) := by
  have hx := E.1.1
  have hb := E.1.2.1
  intro n
  induction n with
  | zero =>
    intro v0 v1 v2 v3 σ H locs ls hm
    cases hm
  | succ n ih =>
    intro v0 v1 v2 v3 σ H locs ls hm hv0 hw hl
    rw [k_X10_hintCount_4] at hm
    refine lv_iload_n hx hb dX10_hintCount_4 rfl (lv_at hl 3 rfl) ?_
    refine lv_aload_n hx hb dX10_hintCount_5 rfl (lv_at hl 0 rfl) ?_
    refine q_geta E hw fw_X10_12 rfl hv0 dX10_hintCount_6 ?_
    refine q_geti E hw fw_X10_131 rfl (tC_10_0 hv0) dX10_hintCount_9 ?_
    refine lv_icmp_ge (tgt := 38) hx hb dX10_hintCount_12 (by decide) (fun c1 => ?_) (fun c1 => ?_)
    · have hm := o_t c1 hm
      refine lv_iload_n hx hb dX10_hintCount_38 rfl (lv_at hl 2 rfl) ?_
      exact q_iret E hr hlk hw hm dX10_hintCount_39
    · have hm := o_f c1 hm
      refine lv_iload_n hx hb dX10_hintCount_15 rfl (lv_at hl 2 rfl) ?_
      refine lv_aload_n hx hb dX10_hintCount_16 rfl (lv_at hl 0 rfl) ?_
      refine q_geta E hw fw_X10_37 rfl hv0 dX10_hintCount_17 ?_
      refine lv_iload_n hx hb dX10_hintCount_20 rfl (lv_at hl 1 rfl) ?_
      refine lv_bipush (v := 6) hx hb dX10_hintCount_21 (by decide) ?_
      refine lv_imul hx hb dX10_hintCount_23 ?_
      refine lv_iload_n hx hb dX10_hintCount_24 rfl (lv_at hl 3 rfl) ?_
      refine lv_iadd hx hb dX10_hintCount_25 ?_
      refine q_iald E hw (tC_10_4 hv0) hm dX10_hintCount_26 (fun a2 hm => ?_)
      refine q_cSi [.int v2] E hw hm ms_X10_159 (fun u hu => c_J6_bitCount_0f7a4 hu ) rfl rfl hl.1 (Nat.le_of_ble_eq_true rfl) ⟨Nat.le_of_ble_eq_true rfl, Nat.le_of_ble_eq_true rfl⟩ dX10_hintCount_27 (fun u3 H locs hm hw => ?_)
      refine lv_iadd hx hb dX10_hintCount_30 ?_
      refine lv_istore_n (lv' := [(2, .int (v2 + u3.1)), (0, .ref (b + v0)), (1, .int v1), (3, .int v3)]) hx hb dX10_hintCount_31 rfl hl (by decide) rfl (fun ls hl => ?_)
      refine lv_iinc (v := v3 + 1) (lv' := [(3, .int (v3 + 1)), (2, .int (v2 + u3.1)), (0, .ref (b + v0)), (1, .int v1)]) hx hb dX10_hintCount_32 hl (k := 3) rfl rfl (by decide) rfl (fun ls hl => ?_)
      refine lv_goto (tgt := 4) hx hb dX10_hintCount_35 (by decide) ?_
      exact ih _ _ _ _ _ _ _ _ hm hv0 hw (lv_sub hl [2, 3, 1, 0] rfl)
def f_X10_hintCount (v0 : Nat) (v1 : Int32) (σ : ST) : Option (Int32 × ST) :=
  k_X10_hintCount_4 FU v0 v1 0 0 σ
set_option maxRecDepth 20000 in
set_option maxHeartbeats 1000000 in
theorem w_X10_hintCount_0 {p : Program} {l : Launch} {e : Env} {s : State} {m : MethodId} {args : Array Value} {below : List Frame} {meth : Method} {c : Code} {D : va_G} {cy : Nat → ClassId} {b : Nat} (E : CX p m c cX10_hintCount 4 s args RX10 D cy LC) (hr : meth.sig.returnType = some .int) (hlk : meth.locks = false) {r : Int32 × ST} {v0 : Nat} {v1 : Int32} {σ : ST} {H : Heap} {locs : List Loc} {ls : Array Slot} (hm : f_X10_hintCount v0 v1 σ = some r) (hv0 : LC.1 v0 = 10) (hw : PH D cy LC b σ s H locs) (hl : lv_has ls 4 [(0, .ref (b + v0)), (1, .int v1)]) : W p l e (rmD 1) s m args below meth c H locs 0 0 (MQ below (QcP D cy LC b (some (.int r.1)) r.2) args s 0 0 (inP LC b)) (F0 m 0 ls []) := by
  have hx := E.1.1
  have hb := E.1.2.1
  unfold f_X10_hintCount at hm
  refine lv_iconst (v := 0) hx hb dX10_hintCount_0 (by decide) ?_
  refine lv_istore_n (lv' := [(2, .int 0), (0, .ref (b + v0)), (1, .int v1)]) hx hb dX10_hintCount_1 rfl hl (by decide) rfl (fun ls hl => ?_)
  refine lv_iconst (v := 0) hx hb dX10_hintCount_2 (by decide) ?_
  refine lv_istore_n (lv' := [(3, .int 0), (2, .int 0), (0, .ref (b + v0)), (1, .int v1)]) hx hb dX10_hintCount_3 rfl hl (by decide) rfl (fun ls hl => ?_)
  exact w_X10_hintCount_4 E hr hlk _ _ _ _ _ _ _ _ _ hm hv0 hw (lv_sub hl [2, 3, 1, 0] rfl)
theorem c_X10_hintCount {l : Launch} {D : va_G} {cy : Nat → ClassId} {b : Nat} {v0 : Nat} {v1 : Int32} {σ : ST} {r : Int32 × ST} (hm : f_X10_hintCount v0 v1 σ = some r) (hv0 : LC.1 v0 = 10) : Met l yX10_hintCount (wU yX10_hintCount cX10_hintCount 4 (some .int)) (rmD 1) (PcP D cy LC b [.ref (b + v0), .int v1] σ) (QcP D cy LC b (some (.int r.1)) r.2) 0 0 (inP LC b) :=
  q_met (lv := [(0, .ref (b + v0)), (1, .int v1)]) LC_ok (by decide) (Nat.le_of_ble_eq_true rfl) rfl (fun _ _ _ _ _ _ _ _ _ E hr hlk hw hl => w_X10_hintCount_0 E hr hlk hm hv0 hw hl)

def k_X10_areAllAlike_2 : Nat → Nat → Int32 → ST → Option (Int32 × ST)
  | 0, _, _, _ => none
  | n + 1, v0, v1, σ => if (gI σ (LC.2.1 v0 0) 7) ≤ v1 then ((ckZ 1).bind fun z => some (z, σ)) else ((f_X10_isAlike v0 v1 σ).bind fun u2 =>
  if u2.1 = 0 then ((ckZ 0).bind fun z => some (z, u2.2)) else (k_X10_areAllAlike_2 n v0 (v1 + 1) u2.2))
set_option maxRecDepth 20000 in
set_option maxHeartbeats 1000000 in
theorem w_X10_areAllAlike_2 {p : Program} {l : Launch} {e : Env} {s : State} {m : MethodId} {args : Array Value} {below : List Frame} {meth : Method} {c : Code} {D : va_G} {cy : Nat → ClassId} {b : Nat} (E : CX p m c cX10_areAllAlike 2 s args RX10 D cy LC) (hr : meth.sig.returnType = some .boolean) (hlk : meth.locks = false) {r : Int32 × ST} : ∀ (n : Nat) (v0 : Nat) (v1 : Int32) (σ : ST) (H : Heap) (locs : List Loc) (ls : Array Slot), k_X10_areAllAlike_2 n v0 v1 σ = some r → LC.1 v0 = 10 → PH D cy LC b σ s H locs → lv_has ls 2 [(0, .ref (b + v0)), (1, .int v1)] → W p l e (rmD 3) s m args below meth c H locs 0 0 (MQ below (QcP D cy LC b (some (.int r.1)) r.2) args s 0 0 (inP LC b)) (F0 m 2 ls []) := by
  have hx := E.1.1
  have hb := E.1.2.1
  intro n
  induction n with
  | zero =>
    intro v0 v1 σ H locs ls hm
    cases hm
  | succ n ih =>
    intro v0 v1 σ H locs ls hm hv0 hw hl
    rw [k_X10_areAllAlike_2] at hm
    refine lv_iload_n hx hb dX10_areAllAlike_2 rfl (lv_at hl 1 rfl) ?_
    refine lv_aload_n hx hb dX10_areAllAlike_3 rfl (lv_at hl 0 rfl) ?_
    refine q_geta E hw fw_X10_12 rfl hv0 dX10_areAllAlike_4 ?_
    refine q_geti E hw fw_X10_153 rfl (tC_10_0 hv0) dX10_areAllAlike_7 ?_
    refine lv_icmp_ge (tgt := 29) hx hb dX10_areAllAlike_10 (by decide) (fun c1 => ?_) (fun c1 => ?_)
    · have hm := o_t c1 hm
      refine lv_iconst (v := 1) hx hb dX10_areAllAlike_29 (by decide) ?_
      exact q_zret E hr hlk hw hm dX10_areAllAlike_30
    · have hm := o_f c1 hm
      refine lv_aload_n hx hb dX10_areAllAlike_13 rfl (lv_at hl 0 rfl) ?_
      refine lv_iload_n hx hb dX10_areAllAlike_14 rfl (lv_at hl 1 rfl) ?_
      refine q_cVi (κ := 10) (C := RX10) (T := TX10) (N := 12) [] E hw hm mw_X10_201 (fun u hu => c_X10_isAlike hu hv0) rfl (by decide) hv0 rfl rfl hl.1 (Nat.le_of_ble_eq_true rfl) ⟨Nat.le_of_ble_eq_true rfl, Nat.le_of_ble_eq_true rfl⟩ dX10_areAllAlike_15 (fun u2 H locs hm hw => ?_)
      refine lv_if_ne (tgt := 23) hx hb dX10_areAllAlike_18 (by decide) (fun c3 => ?_) (fun c3 => ?_)
      · have hm := o_f c3 hm
        refine lv_iinc (v := v1 + 1) (lv' := [(1, .int (v1 + 1)), (0, .ref (b + v0))]) hx hb dX10_areAllAlike_23 hl (k := 1) rfl rfl (by decide) rfl (fun ls hl => ?_)
        refine lv_goto (tgt := 2) hx hb dX10_areAllAlike_26 (by decide) ?_
        exact ih _ _ _ _ _ _ hm hv0 hw (lv_sub hl [1, 0] rfl)
      · have hm := o_t c3 hm
        refine lv_iconst (v := 0) hx hb dX10_areAllAlike_21 (by decide) ?_
        exact q_zret E hr hlk hw hm dX10_areAllAlike_22
def f_X10_areAllAlike (v0 : Nat) (σ : ST) : Option (Int32 × ST) :=
  k_X10_areAllAlike_2 FU v0 0 σ
set_option maxRecDepth 20000 in
set_option maxHeartbeats 1000000 in
theorem w_X10_areAllAlike_0 {p : Program} {l : Launch} {e : Env} {s : State} {m : MethodId} {args : Array Value} {below : List Frame} {meth : Method} {c : Code} {D : va_G} {cy : Nat → ClassId} {b : Nat} (E : CX p m c cX10_areAllAlike 2 s args RX10 D cy LC) (hr : meth.sig.returnType = some .boolean) (hlk : meth.locks = false) {r : Int32 × ST} {v0 : Nat} {σ : ST} {H : Heap} {locs : List Loc} {ls : Array Slot} (hm : f_X10_areAllAlike v0 σ = some r) (hv0 : LC.1 v0 = 10) (hw : PH D cy LC b σ s H locs) (hl : lv_has ls 2 [(0, .ref (b + v0))]) : W p l e (rmD 3) s m args below meth c H locs 0 0 (MQ below (QcP D cy LC b (some (.int r.1)) r.2) args s 0 0 (inP LC b)) (F0 m 0 ls []) := by
  have hx := E.1.1
  have hb := E.1.2.1
  unfold f_X10_areAllAlike at hm
  refine lv_iconst (v := 0) hx hb dX10_areAllAlike_0 (by decide) ?_
  refine lv_istore_n (lv' := [(1, .int 0), (0, .ref (b + v0))]) hx hb dX10_areAllAlike_1 rfl hl (by decide) rfl (fun ls hl => ?_)
  exact w_X10_areAllAlike_2 E hr hlk _ _ _ _ _ _ _ hm hv0 hw (lv_sub hl [1, 0] rfl)
theorem c_X10_areAllAlike {l : Launch} {D : va_G} {cy : Nat → ClassId} {b : Nat} {v0 : Nat} {σ : ST} {r : Int32 × ST} (hm : f_X10_areAllAlike v0 σ = some r) (hv0 : LC.1 v0 = 10) : Met l yX10_areAllAlike (wU yX10_areAllAlike cX10_areAllAlike 2 (some .boolean)) (rmD 3) (PcP D cy LC b [.ref (b + v0)] σ) (QcP D cy LC b (some (.int r.1)) r.2) 0 0 (inP LC b) :=
  q_met (lv := [(0, .ref (b + v0))]) LC_ok (by decide) (Nat.le_of_ble_eq_true rfl) rfl (fun _ _ _ _ _ _ _ _ _ E hr hlk hw hl => w_X10_areAllAlike_0 E hr hlk hm hv0 hw hl)

def k_X10_gravesGivenBy_51 (rec5 : Nat → Int32 → Int32 → Int32 → Int32 → ST → Option (Int32 × ST)) (v0 : Nat) (v1 : Int32) (v2 : Int32) (v3 : Int32) (v4 : Int32) (σ : ST) : Option (Int32 × ST) :=
  rec5 v0 v1 v2 v3 (v4 + 1) σ
set_option maxRecDepth 20000 in
set_option maxHeartbeats 1000000 in
theorem w_X10_gravesGivenBy_51 {p : Program} {l : Launch} {e : Env} {s : State} {m : MethodId} {args : Array Value} {below : List Frame} {meth : Method} {c : Code} {D : va_G} {cy : Nat → ClassId} {b : Nat} (E : CX p m c cX10_gravesGivenBy 5 s args RX10 D cy LC) (hr : meth.sig.returnType = some .int) (hlk : meth.locks = false) {r : Int32 × ST} {rec5 : Nat → Int32 → Int32 → Int32 → Int32 → ST → Option (Int32 × ST)} (hrec5 : ∀ (v0 : Nat) (v1 : Int32) (v2 : Int32) (v3 : Int32) (v4 : Int32) (σ : ST) (H : Heap) (locs : List Loc) (ls : Array Slot), rec5 v0 v1 v2 v3 v4 σ = some r → LC.1 v0 = 10 → PH D cy LC b σ s H locs → lv_has ls 5 [(0, .ref (b + v0)), (1, .int v1), (2, .int v2), (3, .int v3), (4, .int v4)] → W p l e (rmD 1) s m args below meth c H locs 0 0 (MQ below (QcP D cy LC b (some (.int r.1)) r.2) args s 0 0 (inP LC b)) (F0 m 5 ls [])) {v0 : Nat} {v1 : Int32} {v2 : Int32} {v3 : Int32} {v4 : Int32} {σ : ST} {H : Heap} {locs : List Loc} {ls : Array Slot} (hm : k_X10_gravesGivenBy_51 rec5 v0 v1 v2 v3 v4 σ = some r) (hv0 : LC.1 v0 = 10) (hw : PH D cy LC b σ s H locs) (hl : lv_has ls 5 [(0, .ref (b + v0)), (1, .int v1), (2, .int v2), (3, .int v3), (4, .int v4)]) : W p l e (rmD 1) s m args below meth c H locs 0 0 (MQ below (QcP D cy LC b (some (.int r.1)) r.2) args s 0 0 (inP LC b)) (F0 m 51 ls []) := by
  have hx := E.1.1
  have hb := E.1.2.1
  unfold k_X10_gravesGivenBy_51 at hm
  refine lv_iinc (v := v4 + 1) (lv' := [(4, .int (v4 + 1)), (0, .ref (b + v0)), (1, .int v1), (2, .int v2), (3, .int v3)]) hx hb dX10_gravesGivenBy_51 hl (k := 4) rfl rfl (by decide) rfl (fun ls hl => ?_)
  refine lv_goto (tgt := 5) hx hb dX10_gravesGivenBy_54 (by decide) ?_
  exact hrec5 _ _ _ _ _ _ _ _ _ hm hv0 hw (lv_sub hl [1, 2, 3, 4, 0] rfl)
def k_X10_gravesGivenBy_5 : Nat → Nat → Int32 → Int32 → Int32 → Int32 → ST → Option (Int32 × ST)
  | 0, _, _, _, _, _, _ => none
  | n + 1, v0, v1, v2, v3, v4, σ => (f_X10_cellOf v1 v2 σ).bind fun u1 =>
  (ldA LC u1.2 (LC.2.1 v0 7) u1.1).bind fun a2 =>
  if a2 ≤ v4 then (some (v3, u1.2)) else ((ldA LC u1.2 (LC.2.1 v0 8) (((v2 * 180) + (v1 * 30)) + v4)).bind fun a4 =>
  if a4 = 1000 then (k_X10_gravesGivenBy_51 (k_X10_gravesGivenBy_5 n) v0 v1 v2 (v3 ||| (1 <<< (v4 &&& 31))) v4 u1.2) else (k_X10_gravesGivenBy_51 (k_X10_gravesGivenBy_5 n) v0 v1 v2 v3 v4 u1.2))
set_option maxRecDepth 20000 in
set_option maxHeartbeats 1000000 in
theorem w_X10_gravesGivenBy_5 {p : Program} {l : Launch} {e : Env} {s : State} {m : MethodId} {args : Array Value} {below : List Frame} {meth : Method} {c : Code} {D : va_G} {cy : Nat → ClassId} {b : Nat} (E : CX p m c cX10_gravesGivenBy 5 s args RX10 D cy LC) (hr : meth.sig.returnType = some .int) (hlk : meth.locks = false) {r : Int32 × ST} : ∀ (n : Nat) (v0 : Nat) (v1 : Int32) (v2 : Int32) (v3 : Int32) (v4 : Int32) (σ : ST) (H : Heap) (locs : List Loc) (ls : Array Slot), k_X10_gravesGivenBy_5 n v0 v1 v2 v3 v4 σ = some r → LC.1 v0 = 10 → PH D cy LC b σ s H locs → lv_has ls 5 [(0, .ref (b + v0)), (1, .int v1), (2, .int v2), (3, .int v3), (4, .int v4)] → W p l e (rmD 1) s m args below meth c H locs 0 0 (MQ below (QcP D cy LC b (some (.int r.1)) r.2) args s 0 0 (inP LC b)) (F0 m 5 ls []) := by
  have hx := E.1.1
  have hb := E.1.2.1
  intro n
  induction n with
  | zero =>
    intro v0 v1 v2 v3 v4 σ H locs ls hm
    cases hm
  | succ n ih =>
    intro v0 v1 v2 v3 v4 σ H locs ls hm hv0 hw hl
    rw [k_X10_gravesGivenBy_5] at hm
    refine lv_iload hx hb dX10_gravesGivenBy_5 (lv_at hl 4 rfl) ?_
    refine lv_aload_n hx hb dX10_gravesGivenBy_7 rfl (lv_at hl 0 rfl) ?_
    refine q_geta E hw fw_X10_47 rfl hv0 dX10_gravesGivenBy_8 ?_
    refine lv_iload_n hx hb dX10_gravesGivenBy_11 rfl (lv_at hl 1 rfl) ?_
    refine lv_iload_n hx hb dX10_gravesGivenBy_12 rfl (lv_at hl 2 rfl) ?_
    refine q_cSi [.ref (b + (LC.2.1 v0 7)), .int v4] E hw hm ms_X10_100 (fun u hu => c_X10_cellOf hu ) rfl rfl hl.1 (Nat.le_of_ble_eq_true rfl) ⟨Nat.le_of_ble_eq_true rfl, Nat.le_of_ble_eq_true rfl⟩ dX10_gravesGivenBy_13 (fun u1 H locs hm hw => ?_)
    refine q_iald E hw (tC_10_7 hv0) hm dX10_gravesGivenBy_16 (fun a2 hm => ?_)
    refine lv_icmp_ge (tgt := 57) hx hb dX10_gravesGivenBy_17 (by decide) (fun c3 => ?_) (fun c3 => ?_)
    · have hm := o_t c3 hm
      refine lv_iload_n hx hb dX10_gravesGivenBy_57 rfl (lv_at hl 3 rfl) ?_
      exact q_iret E hr hlk hw hm dX10_gravesGivenBy_58
    · have hm := o_f c3 hm
      refine lv_aload_n hx hb dX10_gravesGivenBy_20 rfl (lv_at hl 0 rfl) ?_
      refine q_geta E hw fw_X10_50 rfl hv0 dX10_gravesGivenBy_21 ?_
      refine lv_iload_n hx hb dX10_gravesGivenBy_24 rfl (lv_at hl 2 rfl) ?_
      refine lv_sipush (v := 180) hx hb dX10_gravesGivenBy_25 (by decide) ?_
      refine lv_imul hx hb dX10_gravesGivenBy_28 ?_
      refine lv_iload_n hx hb dX10_gravesGivenBy_29 rfl (lv_at hl 1 rfl) ?_
      refine lv_bipush (v := 30) hx hb dX10_gravesGivenBy_30 (by decide) ?_
      refine lv_imul hx hb dX10_gravesGivenBy_32 ?_
      refine lv_iadd hx hb dX10_gravesGivenBy_33 ?_
      refine lv_iload hx hb dX10_gravesGivenBy_34 (lv_at hl 4 rfl) ?_
      refine lv_iadd hx hb dX10_gravesGivenBy_36 ?_
      refine q_iald E hw (tC_10_8 hv0) hm dX10_gravesGivenBy_37 (fun a4 hm => ?_)
      refine lv_sipush (v := 1000) hx hb dX10_gravesGivenBy_38 (by decide) ?_
      refine lv_icmp_ne (tgt := 51) hx hb dX10_gravesGivenBy_41 (by decide) (fun c5 => ?_) (fun c5 => ?_)
      · have hm := o_f c5 hm
        exact w_X10_gravesGivenBy_51 E hr hlk ih hm hv0 hw (lv_sub hl [0, 1, 2, 3, 4] rfl)
      · have hm := o_t c5 hm
        refine lv_iload_n hx hb dX10_gravesGivenBy_44 rfl (lv_at hl 3 rfl) ?_
        refine lv_iconst (v := 1) hx hb dX10_gravesGivenBy_45 (by decide) ?_
        refine lv_iload hx hb dX10_gravesGivenBy_46 (lv_at hl 4 rfl) ?_
        refine lv_ishl hx hb dX10_gravesGivenBy_48 ?_
        refine lv_ior hx hb dX10_gravesGivenBy_49 ?_
        refine lv_istore_n (lv' := [(3, .int (v3 ||| (1 <<< (v4 &&& 31)))), (0, .ref (b + v0)), (1, .int v1), (2, .int v2), (4, .int v4)]) hx hb dX10_gravesGivenBy_50 rfl hl (by decide) rfl (fun ls hl => ?_)
        exact w_X10_gravesGivenBy_51 E hr hlk ih hm hv0 hw (lv_sub hl [1, 2, 3, 0, 4] rfl)
def f_X10_gravesGivenBy (v0 : Nat) (v1 : Int32) (v2 : Int32) (σ : ST) : Option (Int32 × ST) :=
  k_X10_gravesGivenBy_5 FU v0 v1 v2 0 0 σ
set_option maxRecDepth 20000 in
set_option maxHeartbeats 1000000 in
theorem w_X10_gravesGivenBy_0 {p : Program} {l : Launch} {e : Env} {s : State} {m : MethodId} {args : Array Value} {below : List Frame} {meth : Method} {c : Code} {D : va_G} {cy : Nat → ClassId} {b : Nat} (E : CX p m c cX10_gravesGivenBy 5 s args RX10 D cy LC) (hr : meth.sig.returnType = some .int) (hlk : meth.locks = false) {r : Int32 × ST} {v0 : Nat} {v1 : Int32} {v2 : Int32} {σ : ST} {H : Heap} {locs : List Loc} {ls : Array Slot} (hm : f_X10_gravesGivenBy v0 v1 v2 σ = some r) (hv0 : LC.1 v0 = 10) (hw : PH D cy LC b σ s H locs) (hl : lv_has ls 5 [(0, .ref (b + v0)), (1, .int v1), (2, .int v2)]) : W p l e (rmD 1) s m args below meth c H locs 0 0 (MQ below (QcP D cy LC b (some (.int r.1)) r.2) args s 0 0 (inP LC b)) (F0 m 0 ls []) := by
  have hx := E.1.1
  have hb := E.1.2.1
  unfold f_X10_gravesGivenBy at hm
  refine lv_iconst (v := 0) hx hb dX10_gravesGivenBy_0 (by decide) ?_
  refine lv_istore_n (lv' := [(3, .int 0), (0, .ref (b + v0)), (1, .int v1), (2, .int v2)]) hx hb dX10_gravesGivenBy_1 rfl hl (by decide) rfl (fun ls hl => ?_)
  refine lv_iconst (v := 0) hx hb dX10_gravesGivenBy_2 (by decide) ?_
  refine lv_istore (lv' := [(4, .int 0), (3, .int 0), (0, .ref (b + v0)), (1, .int v1), (2, .int v2)]) hx hb dX10_gravesGivenBy_3 hl (by decide) rfl (fun ls hl => ?_)
  exact w_X10_gravesGivenBy_5 E hr hlk _ _ _ _ _ _ _ _ _ _ hm hv0 hw (lv_sub hl [2, 3, 4, 1, 0] rfl)
theorem c_X10_gravesGivenBy {l : Launch} {D : va_G} {cy : Nat → ClassId} {b : Nat} {v0 : Nat} {v1 : Int32} {v2 : Int32} {σ : ST} {r : Int32 × ST} (hm : f_X10_gravesGivenBy v0 v1 v2 σ = some r) (hv0 : LC.1 v0 = 10) : Met l yX10_gravesGivenBy (wU yX10_gravesGivenBy cX10_gravesGivenBy 5 (some .int)) (rmD 1) (PcP D cy LC b [.ref (b + v0), .int v1, .int v2] σ) (QcP D cy LC b (some (.int r.1)) r.2) 0 0 (inP LC b) :=
  q_met (lv := [(0, .ref (b + v0)), (1, .int v1), (2, .int v2)]) LC_ok (by decide) (Nat.le_of_ble_eq_true rfl) rfl (fun _ _ _ _ _ _ _ _ _ E hr hlk hw hl => w_X10_gravesGivenBy_0 E hr hlk hm hv0 hw hl)

def k_X10_buryGraves_107 (rec56 : Nat → Int32 → Int32 → Int32 → Int32 → Int32 → ST → Option (Int32 × ST)) (v0 : Nat) (v1 : Int32) (v2 : Int32) (v3 : Int32) (v4 : Int32) (v5 : Int32) (σ : ST) : Option (Int32 × ST) :=
  rec56 v0 v1 v2 v3 v4 (v5 + 1) σ
set_option maxRecDepth 20000 in
set_option maxHeartbeats 1000000 in
theorem w_X10_buryGraves_107 {p : Program} {l : Launch} {e : Env} {s : State} {m : MethodId} {args : Array Value} {below : List Frame} {meth : Method} {c : Code} {D : va_G} {cy : Nat → ClassId} {b : Nat} (E : CX p m c cX10_buryGraves 6 s args RX10 D cy LC) (hr : meth.sig.returnType = some .int) (hlk : meth.locks = false) {r : Int32 × ST} {rec56 : Nat → Int32 → Int32 → Int32 → Int32 → Int32 → ST → Option (Int32 × ST)} (hrec56 : ∀ (v0 : Nat) (v1 : Int32) (v2 : Int32) (v3 : Int32) (v4 : Int32) (v5 : Int32) (σ : ST) (H : Heap) (locs : List Loc) (ls : Array Slot), rec56 v0 v1 v2 v3 v4 v5 σ = some r → LC.1 v0 = 10 → PH D cy LC b σ s H locs → lv_has ls 6 [(0, .ref (b + v0)), (1, .int v1), (2, .int v2), (3, .int v3), (4, .int v4), (5, .int v5)] → W p l e (rmD 2) s m args below meth c H locs 0 0 (MQ below (QcP D cy LC b (some (.int r.1)) r.2) args s 0 0 (inP LC b)) (F0 m 56 ls [])) {v0 : Nat} {v1 : Int32} {v2 : Int32} {v3 : Int32} {v4 : Int32} {v5 : Int32} {σ : ST} {H : Heap} {locs : List Loc} {ls : Array Slot} (hm : k_X10_buryGraves_107 rec56 v0 v1 v2 v3 v4 v5 σ = some r) (hv0 : LC.1 v0 = 10) (hw : PH D cy LC b σ s H locs) (hl : lv_has ls 6 [(0, .ref (b + v0)), (1, .int v1), (2, .int v2), (3, .int v3), (4, .int v4), (5, .int v5)]) : W p l e (rmD 2) s m args below meth c H locs 0 0 (MQ below (QcP D cy LC b (some (.int r.1)) r.2) args s 0 0 (inP LC b)) (F0 m 107 ls []) := by
  have hx := E.1.1
  have hb := E.1.2.1
  unfold k_X10_buryGraves_107 at hm
  refine lv_iinc (v := v5 + 1) (lv' := [(5, .int (v5 + 1)), (0, .ref (b + v0)), (1, .int v1), (2, .int v2), (3, .int v3), (4, .int v4)]) hx hb dX10_buryGraves_107 hl (k := 5) rfl rfl (by decide) rfl (fun ls hl => ?_)
  refine lv_goto (tgt := 56) hx hb dX10_buryGraves_110 (by decide) ?_
  exact hrec56 _ _ _ _ _ _ _ _ _ _ hm hv0 hw (lv_sub hl [1, 2, 3, 4, 5, 0] rfl)
def k_X10_buryGraves_56 (rec4 : Nat → Int32 → Int32 → Int32 → ST → Option (Int32 × ST)) : Nat → Nat → Int32 → Int32 → Int32 → Int32 → Int32 → ST → Option (Int32 × ST)
  | 0, _, _, _, _, _, _, _ => none
  | n + 1, v0, v1, v2, v3, v4, v5, σ => if (gI σ (LC.2.1 v0 0) 6) ≤ v5 then (rec4 v0 v1 v2 (v3 + 1) σ) else ((f_X7_isPlace (LC.2.1 v0 0) v1 v5 σ).bind fun u2 =>
  if u2.1 = 0 then (k_X10_buryGraves_107 (k_X10_buryGraves_56 rec4 n) v0 v1 v2 v3 v4 v5 u2.2) else ((f_X10_cellOf v5 v1 u2.2).bind fun u4 =>
  (ldA LC u4.2 (LC.2.1 (LC.2.1 v0 2) 0) ((u4.1 * 6) + v3)).bind fun a5 =>
  (stA LC u4.2 (LC.2.1 (LC.2.1 v0 2) 0) ((u4.1 * 6) + v3) (a5 &&& (v4 ^^^ (-1)))).bind fun σ6 =>
  k_X10_buryGraves_107 (k_X10_buryGraves_56 rec4 n) v0 v1 v2 v3 v4 v5 σ6))
set_option maxRecDepth 20000 in
set_option maxHeartbeats 1000000 in
theorem w_X10_buryGraves_56 {p : Program} {l : Launch} {e : Env} {s : State} {m : MethodId} {args : Array Value} {below : List Frame} {meth : Method} {c : Code} {D : va_G} {cy : Nat → ClassId} {b : Nat} (E : CX p m c cX10_buryGraves 6 s args RX10 D cy LC) (hr : meth.sig.returnType = some .int) (hlk : meth.locks = false) {r : Int32 × ST} {rec4 : Nat → Int32 → Int32 → Int32 → ST → Option (Int32 × ST)} (hrec4 : ∀ (v0 : Nat) (v1 : Int32) (v2 : Int32) (v3 : Int32) (σ : ST) (H : Heap) (locs : List Loc) (ls : Array Slot), rec4 v0 v1 v2 v3 σ = some r → LC.1 v0 = 10 → PH D cy LC b σ s H locs → lv_has ls 6 [(0, .ref (b + v0)), (1, .int v1), (2, .int v2), (3, .int v3)] → W p l e (rmD 2) s m args below meth c H locs 0 0 (MQ below (QcP D cy LC b (some (.int r.1)) r.2) args s 0 0 (inP LC b)) (F0 m 4 ls [])) : ∀ (n : Nat) (v0 : Nat) (v1 : Int32) (v2 : Int32) (v3 : Int32) (v4 : Int32) (v5 : Int32) (σ : ST) (H : Heap) (locs : List Loc) (ls : Array Slot), k_X10_buryGraves_56 rec4 n v0 v1 v2 v3 v4 v5 σ = some r → LC.1 v0 = 10 → PH D cy LC b σ s H locs → lv_has ls 6 [(0, .ref (b + v0)), (1, .int v1), (2, .int v2), (3, .int v3), (4, .int v4), (5, .int v5)] → W p l e (rmD 2) s m args below meth c H locs 0 0 (MQ below (QcP D cy LC b (some (.int r.1)) r.2) args s 0 0 (inP LC b)) (F0 m 56 ls []) := by
  have hx := E.1.1
  have hb := E.1.2.1
  intro n
  induction n with
  | zero =>
    intro v0 v1 v2 v3 v4 v5 σ H locs ls hm
    cases hm
  | succ n ih =>
    intro v0 v1 v2 v3 v4 v5 σ H locs ls hm hv0 hw hl
    rw [k_X10_buryGraves_56] at hm
    refine lv_iload hx hb dX10_buryGraves_56 (lv_at hl 5 rfl) ?_
    refine lv_aload_n hx hb dX10_buryGraves_58 rfl (lv_at hl 0 rfl) ?_
    refine q_geta E hw fw_X10_12 rfl hv0 dX10_buryGraves_59 ?_
    refine q_geti E hw fw_X10_131 rfl (tC_10_0 hv0) dX10_buryGraves_62 ?_
    refine lv_icmp_ge (tgt := 113) hx hb dX10_buryGraves_65 (by decide) (fun c1 => ?_) (fun c1 => ?_)
    · have hm := o_t c1 hm
      refine lv_iinc (v := v3 + 1) (lv' := [(3, .int (v3 + 1)), (0, .ref (b + v0)), (1, .int v1), (2, .int v2), (4, .int v4), (5, .int v5)]) hx hb dX10_buryGraves_113 hl (k := 3) rfl rfl (by decide) rfl (fun ls hl => ?_)
      refine lv_goto (tgt := 4) hx hb dX10_buryGraves_116 (by decide) ?_
      exact hrec4 _ _ _ _ _ _ _ _ hm hv0 hw (lv_sub hl [1, 2, 3, 0] rfl)
    · have hm := o_f c1 hm
      refine lv_aload_n hx hb dX10_buryGraves_68 rfl (lv_at hl 0 rfl) ?_
      refine q_geta E hw fw_X10_12 rfl hv0 dX10_buryGraves_69 ?_
      refine lv_iload_n hx hb dX10_buryGraves_72 rfl (lv_at hl 1 rfl) ?_
      refine lv_iload hx hb dX10_buryGraves_73 (lv_at hl 5 rfl) ?_
      refine q_cVi (κ := 7) (C := RX7) (T := TX7) (N := 12) [] E hw hm mw_X10_125 (fun u hu => c_X7_isPlace hu (tC_10_0 hv0)) rfl (by decide) (tC_10_0 hv0) rfl rfl hl.1 (Nat.le_of_ble_eq_true rfl) ⟨Nat.le_of_ble_eq_true rfl, Nat.le_of_ble_eq_true rfl⟩ dX10_buryGraves_75 (fun u2 H locs hm hw => ?_)
      refine lv_if_eq (tgt := 107) hx hb dX10_buryGraves_78 (by decide) (fun c3 => ?_) (fun c3 => ?_)
      · have hm := o_t c3 hm
        exact w_X10_buryGraves_107 E hr hlk ih hm hv0 hw (lv_sub hl [0, 1, 2, 3, 4, 5] rfl)
      · have hm := o_f c3 hm
        refine lv_aload_n hx hb dX10_buryGraves_81 rfl (lv_at hl 0 rfl) ?_
        refine q_geta E hw fw_X10_30 rfl hv0 dX10_buryGraves_82 ?_
        refine q_geta E hw fw_X10_210 rfl (tC_10_2 hv0) dX10_buryGraves_85 ?_
        refine lv_iload hx hb dX10_buryGraves_88 (lv_at hl 5 rfl) ?_
        refine lv_iload_n hx hb dX10_buryGraves_90 rfl (lv_at hl 1 rfl) ?_
        refine q_cSi [.ref (b + (LC.2.1 (LC.2.1 v0 2) 0))] E hw hm ms_X10_100 (fun u hu => c_X10_cellOf hu ) rfl rfl hl.1 (Nat.le_of_ble_eq_true rfl) ⟨Nat.le_of_ble_eq_true rfl, Nat.le_of_ble_eq_true rfl⟩ dX10_buryGraves_91 (fun u4 H locs hm hw => ?_)
        refine lv_bipush (v := 6) hx hb dX10_buryGraves_94 (by decide) ?_
        refine lv_imul hx hb dX10_buryGraves_96 ?_
        refine lv_iload_n hx hb dX10_buryGraves_97 rfl (lv_at hl 3 rfl) ?_
        refine lv_iadd hx hb dX10_buryGraves_98 ?_
        refine lv_dup2_11 hx hb dX10_buryGraves_99 rfl rfl ?_
        refine q_iald E hw (tC_0_0 (tC_10_2 hv0)) hm dX10_buryGraves_100 (fun a5 hm => ?_)
        refine lv_iload hx hb dX10_buryGraves_101 (lv_at hl 4 rfl) ?_
        refine lv_iconst (v := (-1)) hx hb dX10_buryGraves_103 (by decide) ?_
        refine lv_ixor hx hb dX10_buryGraves_104 ?_
        refine lv_iand hx hb dX10_buryGraves_105 ?_
        refine q_iast E hw (tC_0_0 (tC_10_2 hv0)) hm dX10_buryGraves_106 (fun σ6 H locs hm hw => ?_)
        exact w_X10_buryGraves_107 E hr hlk ih hm hv0 hw (lv_sub hl [0, 1, 2, 3, 4, 5] rfl)
def k_X10_buryGraves_4 : Nat → Nat → Int32 → Int32 → Int32 → ST → Option (Int32 × ST)
  | 0, _, _, _, _, _ => none
  | n + 1, v0, v1, v2, v3, σ => if (gI σ (LC.2.1 v0 0) 6) ≤ v3 then (some (v2, σ)) else ((f_X10_gravesGivenBy v0 v3 v1 σ).bind fun u8 =>
  (f_X7_keeperAlong (LC.2.1 v0 0) v1 0 u8.2).bind fun u9 =>
  (f_X10_cellOf u9.1 v1 u9.2).bind fun u10 =>
  (f_X0_bitsOf (LC.2.1 v0 2) u10.1 v3 u10.2).bind fun u11 =>
  (f_J6_bitCount_0f7a4 (u11.1 &&& u8.1) u11.2).bind fun u12 =>
  k_X10_buryGraves_56 (k_X10_buryGraves_4 n) FU v0 v1 (v2 + u12.1) v3 u8.1 0 u12.2)
set_option maxRecDepth 20000 in
set_option maxHeartbeats 1000000 in
theorem w_X10_buryGraves_4 {p : Program} {l : Launch} {e : Env} {s : State} {m : MethodId} {args : Array Value} {below : List Frame} {meth : Method} {c : Code} {D : va_G} {cy : Nat → ClassId} {b : Nat} (E : CX p m c cX10_buryGraves 6 s args RX10 D cy LC) (hr : meth.sig.returnType = some .int) (hlk : meth.locks = false) {r : Int32 × ST} : ∀ (n : Nat) (v0 : Nat) (v1 : Int32) (v2 : Int32) (v3 : Int32) (σ : ST) (H : Heap) (locs : List Loc) (ls : Array Slot), k_X10_buryGraves_4 n v0 v1 v2 v3 σ = some r → LC.1 v0 = 10 → PH D cy LC b σ s H locs → lv_has ls 6 [(0, .ref (b + v0)), (1, .int v1), (2, .int v2), (3, .int v3)] → W p l e (rmD 2) s m args below meth c H locs 0 0 (MQ below (QcP D cy LC b (some (.int r.1)) r.2) args s 0 0 (inP LC b)) (F0 m 4 ls []) := by
  have hx := E.1.1
  have hb := E.1.2.1
  intro n
  induction n with
  | zero =>
    intro v0 v1 v2 v3 σ H locs ls hm
    cases hm
  | succ n ih =>
    intro v0 v1 v2 v3 σ H locs ls hm hv0 hw hl
    rw [k_X10_buryGraves_4] at hm
    refine lv_iload_n hx hb dX10_buryGraves_4 rfl (lv_at hl 3 rfl) ?_
    refine lv_aload_n hx hb dX10_buryGraves_5 rfl (lv_at hl 0 rfl) ?_
    refine q_geta E hw fw_X10_12 rfl hv0 dX10_buryGraves_6 ?_
    refine q_geti E hw fw_X10_131 rfl (tC_10_0 hv0) dX10_buryGraves_9 ?_
    refine lv_icmp_ge (tgt := 119) hx hb dX10_buryGraves_12 (by decide) (fun c7 => ?_) (fun c7 => ?_)
    · have hm := o_t c7 hm
      refine lv_iload_n hx hb dX10_buryGraves_119 rfl (lv_at hl 2 rfl) ?_
      exact q_iret E hr hlk hw hm dX10_buryGraves_120
    · have hm := o_f c7 hm
      refine lv_aload_n hx hb dX10_buryGraves_15 rfl (lv_at hl 0 rfl) ?_
      refine lv_iload_n hx hb dX10_buryGraves_16 rfl (lv_at hl 3 rfl) ?_
      refine lv_iload_n hx hb dX10_buryGraves_17 rfl (lv_at hl 1 rfl) ?_
      refine q_cVi (κ := 10) (C := RX10) (T := TX10) (N := 12) [] E hw hm mw_X10_204 (fun u hu => c_X10_gravesGivenBy hu hv0) rfl (by decide) hv0 rfl rfl hl.1 (Nat.le_of_ble_eq_true rfl) ⟨Nat.le_of_ble_eq_true rfl, Nat.le_of_ble_eq_true rfl⟩ dX10_buryGraves_18 (fun u8 H locs hm hw => ?_)
      refine lv_istore (lv' := [(4, .int u8.1), (0, .ref (b + v0)), (1, .int v1), (2, .int v2), (3, .int v3)]) hx hb dX10_buryGraves_21 hl (by decide) rfl (fun ls hl => ?_)
      refine lv_iload_n hx hb dX10_buryGraves_23 rfl (lv_at hl 3 rfl) ?_
      refine lv_aload_n hx hb dX10_buryGraves_24 rfl (lv_at hl 1 rfl) ?_
      refine q_geta E hw fw_X10_30 rfl hv0 dX10_buryGraves_25 ?_
      refine lv_aload_n hx hb dX10_buryGraves_28 rfl (lv_at hl 1 rfl) ?_
      refine q_geta E hw fw_X10_12 rfl hv0 dX10_buryGraves_29 ?_
      refine lv_iload_n hx hb dX10_buryGraves_32 rfl (lv_at hl 2 rfl) ?_
      refine lv_iconst (v := 0) hx hb dX10_buryGraves_33 (by decide) ?_
      refine q_cVi (κ := 7) (C := RX7) (T := TX7) (N := 12) [.ref (b + (LC.2.1 v0 2)), .int v2] E hw hm mw_X10_139 (fun u hu => c_X7_keeperAlong hu (tC_10_0 hv0)) rfl (by decide) (tC_10_0 hv0) rfl rfl hl.1 (Nat.le_of_ble_eq_true rfl) ⟨Nat.le_of_ble_eq_true rfl, Nat.le_of_ble_eq_true rfl⟩ dX10_buryGraves_34 (fun u9 H locs hm hw => ?_)
      refine lv_iload_n hx hb dX10_buryGraves_37 rfl (lv_at hl 2 rfl) ?_
      refine q_cSi [.ref (b + (LC.2.1 v0 2)), .int v2] E hw hm ms_X10_100 (fun u hu => c_X10_cellOf hu ) rfl rfl hl.1 (Nat.le_of_ble_eq_true rfl) ⟨Nat.le_of_ble_eq_true rfl, Nat.le_of_ble_eq_true rfl⟩ dX10_buryGraves_38 (fun u10 H locs hm hw => ?_)
      refine lv_iload_n hx hb dX10_buryGraves_41 rfl (lv_at hl 4 rfl) ?_
      refine q_cVi (κ := 0) (C := RX0) (T := TX0) (N := 2) [.int v2] E hw hm mw_X10_207 (fun u hu => c_X0_bitsOf hu (tC_10_2 hv0)) rfl (by decide) (tC_10_2 hv0) rfl rfl hl.1 (Nat.le_of_ble_eq_true rfl) ⟨Nat.le_of_ble_eq_true rfl, Nat.le_of_ble_eq_true rfl⟩ dX10_buryGraves_42 (fun u11 H locs hm hw => ?_)
      refine lv_iload hx hb dX10_buryGraves_45 (lv_at hl 0 rfl) ?_
      refine lv_iand hx hb dX10_buryGraves_47 ?_
      refine q_cSi [.int v2] E hw hm ms_X10_159 (fun u hu => c_J6_bitCount_0f7a4 hu ) rfl rfl hl.1 (Nat.le_of_ble_eq_true rfl) ⟨Nat.le_of_ble_eq_true rfl, Nat.le_of_ble_eq_true rfl⟩ dX10_buryGraves_48 (fun u12 H locs hm hw => ?_)
      refine lv_iadd hx hb dX10_buryGraves_51 ?_
      refine lv_istore_n (lv' := [(2, .int (v2 + u12.1)), (4, .int u8.1), (0, .ref (b + v0)), (1, .int v1), (3, .int v3)]) hx hb dX10_buryGraves_52 rfl hl (by decide) rfl (fun ls hl => ?_)
      refine lv_iconst (v := 0) hx hb dX10_buryGraves_53 (by decide) ?_
      refine lv_istore (lv' := [(5, .int 0), (2, .int (v2 + u12.1)), (4, .int u8.1), (0, .ref (b + v0)), (1, .int v1), (3, .int v3)]) hx hb dX10_buryGraves_54 hl (by decide) rfl (fun ls hl => ?_)
      exact w_X10_buryGraves_56 E hr hlk ih _ _ _ _ _ _ _ _ _ _ _ hm hv0 hw (lv_sub hl [3, 4, 1, 5, 2, 0] rfl)
def f_X10_buryGraves (v0 : Nat) (v1 : Int32) (σ : ST) : Option (Int32 × ST) :=
  k_X10_buryGraves_4 FU v0 v1 0 0 σ
set_option maxRecDepth 20000 in
set_option maxHeartbeats 1000000 in
theorem w_X10_buryGraves_0 {p : Program} {l : Launch} {e : Env} {s : State} {m : MethodId} {args : Array Value} {below : List Frame} {meth : Method} {c : Code} {D : va_G} {cy : Nat → ClassId} {b : Nat} (E : CX p m c cX10_buryGraves 6 s args RX10 D cy LC) (hr : meth.sig.returnType = some .int) (hlk : meth.locks = false) {r : Int32 × ST} {v0 : Nat} {v1 : Int32} {σ : ST} {H : Heap} {locs : List Loc} {ls : Array Slot} (hm : f_X10_buryGraves v0 v1 σ = some r) (hv0 : LC.1 v0 = 10) (hw : PH D cy LC b σ s H locs) (hl : lv_has ls 6 [(0, .ref (b + v0)), (1, .int v1)]) : W p l e (rmD 2) s m args below meth c H locs 0 0 (MQ below (QcP D cy LC b (some (.int r.1)) r.2) args s 0 0 (inP LC b)) (F0 m 0 ls []) := by
  have hx := E.1.1
  have hb := E.1.2.1
  unfold f_X10_buryGraves at hm
  refine lv_iconst (v := 0) hx hb dX10_buryGraves_0 (by decide) ?_
  refine lv_istore_n (lv' := [(2, .int 0), (0, .ref (b + v0)), (1, .int v1)]) hx hb dX10_buryGraves_1 rfl hl (by decide) rfl (fun ls hl => ?_)
  refine lv_iconst (v := 0) hx hb dX10_buryGraves_2 (by decide) ?_
  refine lv_istore_n (lv' := [(3, .int 0), (2, .int 0), (0, .ref (b + v0)), (1, .int v1)]) hx hb dX10_buryGraves_3 rfl hl (by decide) rfl (fun ls hl => ?_)
  exact w_X10_buryGraves_4 E hr hlk _ _ _ _ _ _ _ _ _ hm hv0 hw (lv_sub hl [2, 3, 1, 0] rfl)
theorem c_X10_buryGraves {l : Launch} {D : va_G} {cy : Nat → ClassId} {b : Nat} {v0 : Nat} {v1 : Int32} {σ : ST} {r : Int32 × ST} (hm : f_X10_buryGraves v0 v1 σ = some r) (hv0 : LC.1 v0 = 10) : Met l yX10_buryGraves (wU yX10_buryGraves cX10_buryGraves 6 (some .int)) (rmD 2) (PcP D cy LC b [.ref (b + v0), .int v1] σ) (QcP D cy LC b (some (.int r.1)) r.2) 0 0 (inP LC b) :=
  q_met (lv := [(0, .ref (b + v0)), (1, .int v1)]) LC_ok (by decide) (Nat.le_of_ble_eq_true rfl) rfl (fun _ _ _ _ _ _ _ _ _ E hr hlk hw hl => w_X10_buryGraves_0 E hr hlk hm hv0 hw hl)

def k_X10_weightOf_122 (rec38 : Nat → Int32 → Int32 → Int64 → Int32 → ST → Option (Int64 × ST)) (v0 : Nat) (v1 : Int32) (v2 : Int32) (v3 : Int64) (v5 : Int32) (σ : ST) : Option (Int64 × ST) :=
  rec38 v0 v1 v2 v3 (v5 + 1) σ
set_option maxRecDepth 20000 in
set_option maxHeartbeats 1000000 in
theorem w_X10_weightOf_122 {p : Program} {l : Launch} {e : Env} {s : State} {m : MethodId} {args : Array Value} {below : List Frame} {meth : Method} {c : Code} {D : va_G} {cy : Nat → ClassId} {b : Nat} (E : CX p m c cX10_weightOf 8 s args RX10 D cy LC) (hr : meth.sig.returnType = some .long) (hlk : meth.locks = false) {r : Int64 × ST} {rec38 : Nat → Int32 → Int32 → Int64 → Int32 → ST → Option (Int64 × ST)} (hrec38 : ∀ (v0 : Nat) (v1 : Int32) (v2 : Int32) (v3 : Int64) (v5 : Int32) (σ : ST) (H : Heap) (locs : List Loc) (ls : Array Slot), rec38 v0 v1 v2 v3 v5 σ = some r → LC.1 v0 = 10 → PH D cy LC b σ s H locs → lv_has ls 8 [(0, .ref (b + v0)), (1, .int v1), (2, .int v2), (3, .long v3), (5, .int v5)] → W p l e (rmD 2) s m args below meth c H locs 0 0 (MQ below (QcP D cy LC b (some (.long r.1)) r.2) args s 0 0 (inP LC b)) (F0 m 38 ls [])) {v0 : Nat} {v1 : Int32} {v2 : Int32} {v3 : Int64} {v5 : Int32} {σ : ST} {H : Heap} {locs : List Loc} {ls : Array Slot} (hm : k_X10_weightOf_122 rec38 v0 v1 v2 v3 v5 σ = some r) (hv0 : LC.1 v0 = 10) (hw : PH D cy LC b σ s H locs) (hl : lv_has ls 8 [(0, .ref (b + v0)), (1, .int v1), (2, .int v2), (3, .long v3), (5, .int v5)]) : W p l e (rmD 2) s m args below meth c H locs 0 0 (MQ below (QcP D cy LC b (some (.long r.1)) r.2) args s 0 0 (inP LC b)) (F0 m 122 ls []) := by
  have hx := E.1.1
  have hb := E.1.2.1
  unfold k_X10_weightOf_122 at hm
  refine lv_iinc (v := v5 + 1) (lv' := [(5, .int (v5 + 1)), (0, .ref (b + v0)), (1, .int v1), (2, .int v2), (3, .long v3)]) hx hb dX10_weightOf_122 hl (k := 4) rfl rfl (by decide) rfl (fun ls hl => ?_)
  refine lv_goto (tgt := 38) hx hb dX10_weightOf_125 (by decide) ?_
  exact hrec38 _ _ _ _ _ _ _ _ _ hm hv0 hw (lv_sub hl [1, 2, 3, 4, 0] rfl)
def k_X10_weightOf_116 (rec65 : Nat → Int32 → Int32 → Int64 → Int32 → Int32 → Int32 → ST → Option (Int64 × ST)) (v0 : Nat) (v1 : Int32) (v2 : Int32) (v3 : Int64) (v5 : Int32) (v6 : Int32) (v7 : Int32) (σ : ST) : Option (Int64 × ST) :=
  rec65 v0 v1 v2 v3 v5 v6 (v7 + 1) σ
set_option maxRecDepth 20000 in
set_option maxHeartbeats 1000000 in
theorem w_X10_weightOf_116 {p : Program} {l : Launch} {e : Env} {s : State} {m : MethodId} {args : Array Value} {below : List Frame} {meth : Method} {c : Code} {D : va_G} {cy : Nat → ClassId} {b : Nat} (E : CX p m c cX10_weightOf 8 s args RX10 D cy LC) (hr : meth.sig.returnType = some .long) (hlk : meth.locks = false) {r : Int64 × ST} {rec65 : Nat → Int32 → Int32 → Int64 → Int32 → Int32 → Int32 → ST → Option (Int64 × ST)} (hrec65 : ∀ (v0 : Nat) (v1 : Int32) (v2 : Int32) (v3 : Int64) (v5 : Int32) (v6 : Int32) (v7 : Int32) (σ : ST) (H : Heap) (locs : List Loc) (ls : Array Slot), rec65 v0 v1 v2 v3 v5 v6 v7 σ = some r → LC.1 v0 = 10 → PH D cy LC b σ s H locs → lv_has ls 8 [(0, .ref (b + v0)), (1, .int v1), (2, .int v2), (3, .long v3), (5, .int v5), (6, .int v6), (7, .int v7)] → W p l e (rmD 2) s m args below meth c H locs 0 0 (MQ below (QcP D cy LC b (some (.long r.1)) r.2) args s 0 0 (inP LC b)) (F0 m 65 ls [])) {v0 : Nat} {v1 : Int32} {v2 : Int32} {v3 : Int64} {v5 : Int32} {v6 : Int32} {v7 : Int32} {σ : ST} {H : Heap} {locs : List Loc} {ls : Array Slot} (hm : k_X10_weightOf_116 rec65 v0 v1 v2 v3 v5 v6 v7 σ = some r) (hv0 : LC.1 v0 = 10) (hw : PH D cy LC b σ s H locs) (hl : lv_has ls 8 [(0, .ref (b + v0)), (1, .int v1), (2, .int v2), (3, .long v3), (5, .int v5), (6, .int v6), (7, .int v7)]) : W p l e (rmD 2) s m args below meth c H locs 0 0 (MQ below (QcP D cy LC b (some (.long r.1)) r.2) args s 0 0 (inP LC b)) (F0 m 116 ls []) := by
  have hx := E.1.1
  have hb := E.1.2.1
  unfold k_X10_weightOf_116 at hm
  refine lv_iinc (v := v7 + 1) (lv' := [(7, .int (v7 + 1)), (0, .ref (b + v0)), (1, .int v1), (2, .int v2), (3, .long v3), (5, .int v5), (6, .int v6)]) hx hb dX10_weightOf_116 hl (k := 6) rfl rfl (by decide) rfl (fun ls hl => ?_)
  refine lv_goto (tgt := 65) hx hb dX10_weightOf_119 (by decide) ?_
  exact hrec65 _ _ _ _ _ _ _ _ _ _ _ hm hv0 hw (lv_sub hl [1, 2, 3, 4, 5, 6, 0] rfl)
def k_X10_weightOf_65 (rec38 : Nat → Int32 → Int32 → Int64 → Int32 → ST → Option (Int64 × ST)) : Nat → Nat → Int32 → Int32 → Int64 → Int32 → Int32 → Int32 → ST → Option (Int64 × ST)
  | 0, _, _, _, _, _, _, _, _ => none
  | n + 1, v0, v1, v2, v3, v5, v6, v7, σ => if 30 ≤ v7 then (k_X10_weightOf_122 rec38 v0 v1 v2 v3 v5 σ) else (if (v6 >>> (v7 &&& 31)) = 0 then (k_X10_weightOf_122 rec38 v0 v1 v2 v3 v5 σ) else (if ((v6 >>> (v7 &&& 31)) &&& 1) = 0 then (k_X10_weightOf_116 (k_X10_weightOf_65 rec38 n) v0 v1 v2 v3 v5 v6 v7 σ) else ((ldA LC σ (LC.2.1 v0 8) (((v2 * 180) + (v5 * 30)) + v7)).bind fun a4 =>
  k_X10_weightOf_116 (k_X10_weightOf_65 rec38 n) v0 v1 v2 (v3 + ((7 + a4).toInt64)) v5 v6 v7 σ)))
set_option maxRecDepth 20000 in
set_option maxHeartbeats 1000000 in
theorem w_X10_weightOf_65 {p : Program} {l : Launch} {e : Env} {s : State} {m : MethodId} {args : Array Value} {below : List Frame} {meth : Method} {c : Code} {D : va_G} {cy : Nat → ClassId} {b : Nat} (E : CX p m c cX10_weightOf 8 s args RX10 D cy LC) (hr : meth.sig.returnType = some .long) (hlk : meth.locks = false) {r : Int64 × ST} {rec38 : Nat → Int32 → Int32 → Int64 → Int32 → ST → Option (Int64 × ST)} (hrec38 : ∀ (v0 : Nat) (v1 : Int32) (v2 : Int32) (v3 : Int64) (v5 : Int32) (σ : ST) (H : Heap) (locs : List Loc) (ls : Array Slot), rec38 v0 v1 v2 v3 v5 σ = some r → LC.1 v0 = 10 → PH D cy LC b σ s H locs → lv_has ls 8 [(0, .ref (b + v0)), (1, .int v1), (2, .int v2), (3, .long v3), (5, .int v5)] → W p l e (rmD 2) s m args below meth c H locs 0 0 (MQ below (QcP D cy LC b (some (.long r.1)) r.2) args s 0 0 (inP LC b)) (F0 m 38 ls [])) : ∀ (n : Nat) (v0 : Nat) (v1 : Int32) (v2 : Int32) (v3 : Int64) (v5 : Int32) (v6 : Int32) (v7 : Int32) (σ : ST) (H : Heap) (locs : List Loc) (ls : Array Slot), k_X10_weightOf_65 rec38 n v0 v1 v2 v3 v5 v6 v7 σ = some r → LC.1 v0 = 10 → PH D cy LC b σ s H locs → lv_has ls 8 [(0, .ref (b + v0)), (1, .int v1), (2, .int v2), (3, .long v3), (5, .int v5), (6, .int v6), (7, .int v7)] → W p l e (rmD 2) s m args below meth c H locs 0 0 (MQ below (QcP D cy LC b (some (.long r.1)) r.2) args s 0 0 (inP LC b)) (F0 m 65 ls []) := by
  have hx := E.1.1
  have hb := E.1.2.1
  intro n
  induction n with
  | zero =>
    intro v0 v1 v2 v3 v5 v6 v7 σ H locs ls hm
    cases hm
  | succ n ih =>
    intro v0 v1 v2 v3 v5 v6 v7 σ H locs ls hm hv0 hw hl
    rw [k_X10_weightOf_65] at hm
    refine lv_iload hx hb dX10_weightOf_65 (lv_at hl 6 rfl) ?_
    refine lv_bipush (v := 30) hx hb dX10_weightOf_67 (by decide) ?_
    refine lv_icmp_ge (tgt := 122) hx hb dX10_weightOf_69 (by decide) (fun c1 => ?_) (fun c1 => ?_)
    · have hm := o_t c1 hm
      exact w_X10_weightOf_122 E hr hlk hrec38 hm hv0 hw (lv_sub hl [0, 1, 2, 3, 4] rfl)
    · have hm := o_f c1 hm
      refine lv_iload hx hb dX10_weightOf_72 (lv_at hl 5 rfl) ?_
      refine lv_iload hx hb dX10_weightOf_74 (lv_at hl 6 rfl) ?_
      refine lv_ishr hx hb dX10_weightOf_76 ?_
      refine lv_if_eq (tgt := 122) hx hb dX10_weightOf_77 (by decide) (fun c2 => ?_) (fun c2 => ?_)
      · have hm := o_t c2 hm
        exact w_X10_weightOf_122 E hr hlk hrec38 hm hv0 hw (lv_sub hl [0, 1, 2, 3, 4] rfl)
      · have hm := o_f c2 hm
        refine lv_iload hx hb dX10_weightOf_80 (lv_at hl 5 rfl) ?_
        refine lv_iload hx hb dX10_weightOf_82 (lv_at hl 6 rfl) ?_
        refine lv_ishr hx hb dX10_weightOf_84 ?_
        refine lv_iconst (v := 1) hx hb dX10_weightOf_85 (by decide) ?_
        refine lv_iand hx hb dX10_weightOf_86 ?_
        refine lv_if_eq (tgt := 116) hx hb dX10_weightOf_87 (by decide) (fun c3 => ?_) (fun c3 => ?_)
        · have hm := o_t c3 hm
          exact w_X10_weightOf_116 E hr hlk ih hm hv0 hw (lv_sub hl [0, 1, 2, 3, 4, 5, 6] rfl)
        · have hm := o_f c3 hm
          refine lv_lload_n hx hb dX10_weightOf_90 rfl (lv_at hl 3 rfl) ?_
          refine lv_bipush (v := 7) hx hb dX10_weightOf_91 (by decide) ?_
          refine lv_aload_n hx hb dX10_weightOf_93 rfl (lv_at hl 0 rfl) ?_
          refine q_geta E hw fw_X10_50 rfl hv0 dX10_weightOf_94 ?_
          refine lv_iload_n hx hb dX10_weightOf_97 rfl (lv_at hl 2 rfl) ?_
          refine lv_sipush (v := 180) hx hb dX10_weightOf_98 (by decide) ?_
          refine lv_imul hx hb dX10_weightOf_101 ?_
          refine lv_iload hx hb dX10_weightOf_102 (lv_at hl 4 rfl) ?_
          refine lv_bipush (v := 30) hx hb dX10_weightOf_104 (by decide) ?_
          refine lv_imul hx hb dX10_weightOf_106 ?_
          refine lv_iadd hx hb dX10_weightOf_107 ?_
          refine lv_iload hx hb dX10_weightOf_108 (lv_at hl 6 rfl) ?_
          refine lv_iadd hx hb dX10_weightOf_110 ?_
          refine q_iald E hw (tC_10_8 hv0) hm dX10_weightOf_111 (fun a4 hm => ?_)
          refine lv_iadd hx hb dX10_weightOf_112 ?_
          refine lv_i2l hx hb dX10_weightOf_113 rfl ?_
          refine lv_ladd hx hb dX10_weightOf_114 ?_
          refine lv_lstore_n (lv' := [(3, .long (v3 + ((7 + a4).toInt64))), (0, .ref (b + v0)), (1, .int v1), (2, .int v2), (5, .int v5), (6, .int v6), (7, .int v7)]) hx hb dX10_weightOf_115 rfl hl (by decide) rfl (fun ls hl => ?_)
          exact w_X10_weightOf_116 E hr hlk ih hm hv0 hw (lv_sub hl [1, 2, 3, 0, 4, 5, 6] rfl)
def k_X10_weightOf_38 : Nat → Nat → Int32 → Int32 → Int64 → Int32 → ST → Option (Int64 × ST)
  | 0, _, _, _, _, _, _ => none
  | n + 1, v0, v1, v2, v3, v5, σ => if (gI σ (LC.2.1 v0 0) 6) ≤ v5 then (some (v3, σ)) else ((f_X0_bitsOf (LC.2.1 v0 2) v1 v5 σ).bind fun u6 =>
  k_X10_weightOf_65 (k_X10_weightOf_38 n) FU v0 v1 v2 v3 v5 u6.1 0 u6.2)
set_option maxRecDepth 20000 in
set_option maxHeartbeats 1000000 in
theorem w_X10_weightOf_38 {p : Program} {l : Launch} {e : Env} {s : State} {m : MethodId} {args : Array Value} {below : List Frame} {meth : Method} {c : Code} {D : va_G} {cy : Nat → ClassId} {b : Nat} (E : CX p m c cX10_weightOf 8 s args RX10 D cy LC) (hr : meth.sig.returnType = some .long) (hlk : meth.locks = false) {r : Int64 × ST} : ∀ (n : Nat) (v0 : Nat) (v1 : Int32) (v2 : Int32) (v3 : Int64) (v5 : Int32) (σ : ST) (H : Heap) (locs : List Loc) (ls : Array Slot), k_X10_weightOf_38 n v0 v1 v2 v3 v5 σ = some r → LC.1 v0 = 10 → PH D cy LC b σ s H locs → lv_has ls 8 [(0, .ref (b + v0)), (1, .int v1), (2, .int v2), (3, .long v3), (5, .int v5)] → W p l e (rmD 2) s m args below meth c H locs 0 0 (MQ below (QcP D cy LC b (some (.long r.1)) r.2) args s 0 0 (inP LC b)) (F0 m 38 ls []) := by
  have hx := E.1.1
  have hb := E.1.2.1
  intro n
  induction n with
  | zero =>
    intro v0 v1 v2 v3 v5 σ H locs ls hm
    cases hm
  | succ n ih =>
    intro v0 v1 v2 v3 v5 σ H locs ls hm hv0 hw hl
    rw [k_X10_weightOf_38] at hm
    refine lv_iload hx hb dX10_weightOf_38 (lv_at hl 4 rfl) ?_
    refine lv_aload_n hx hb dX10_weightOf_40 rfl (lv_at hl 0 rfl) ?_
    refine q_geta E hw fw_X10_12 rfl hv0 dX10_weightOf_41 ?_
    refine q_geti E hw fw_X10_131 rfl (tC_10_0 hv0) dX10_weightOf_44 ?_
    refine lv_icmp_ge (tgt := 128) hx hb dX10_weightOf_47 (by decide) (fun c5 => ?_) (fun c5 => ?_)
    · have hm := o_t c5 hm
      refine lv_lload_n hx hb dX10_weightOf_128 rfl (lv_at hl 3 rfl) ?_
      exact q_lret E hr hlk hw hm dX10_weightOf_129
    · have hm := o_f c5 hm
      refine lv_aload_n hx hb dX10_weightOf_50 rfl (lv_at hl 0 rfl) ?_
      refine q_geta E hw fw_X10_30 rfl hv0 dX10_weightOf_51 ?_
      refine lv_iload_n hx hb dX10_weightOf_54 rfl (lv_at hl 1 rfl) ?_
      refine lv_iload hx hb dX10_weightOf_55 (lv_at hl 4 rfl) ?_
      refine q_cVi (κ := 0) (C := RX0) (T := TX0) (N := 2) [] E hw hm mw_X10_207 (fun u hu => c_X0_bitsOf hu (tC_10_2 hv0)) rfl (by decide) (tC_10_2 hv0) rfl rfl hl.1 (Nat.le_of_ble_eq_true rfl) ⟨Nat.le_of_ble_eq_true rfl, Nat.le_of_ble_eq_true rfl⟩ dX10_weightOf_57 (fun u6 H locs hm hw => ?_)
      refine lv_istore (lv' := [(6, .int u6.1), (0, .ref (b + v0)), (1, .int v1), (2, .int v2), (3, .long v3), (5, .int v5)]) hx hb dX10_weightOf_60 hl (by decide) rfl (fun ls hl => ?_)
      refine lv_iconst (v := 0) hx hb dX10_weightOf_62 (by decide) ?_
      refine lv_istore (lv' := [(7, .int 0), (6, .int u6.1), (0, .ref (b + v0)), (1, .int v1), (2, .int v2), (3, .long v3), (5, .int v5)]) hx hb dX10_weightOf_63 hl (by decide) rfl (fun ls hl => ?_)
      exact w_X10_weightOf_65 E hr hlk ih _ _ _ _ _ _ _ _ _ _ _ _ hm hv0 hw (lv_sub hl [2, 3, 4, 5, 6, 1, 0] rfl)
def f_X10_weightOf (v0 : Nat) (v1 : Int32) (v2 : Int32) (σ : ST) : Option (Int64 × ST) :=
  (f_X7_isSum (LC.2.1 v0 0) v2 σ).bind fun u7 =>
  if u7.1 = 0 then ((f_X0_sumOf (LC.2.1 v0 2) v1 u7.2).bind fun u9 =>
  k_X10_weightOf_38 FU v0 v1 v2 (3 * ((u9.1).toInt64)) 0 u9.2) else ((f_X0_sumOf (LC.2.1 v0 2) v1 u7.2).bind fun u10 =>
  some ((u10.1).toInt64, u10.2))
set_option maxRecDepth 20000 in
set_option maxHeartbeats 1000000 in
theorem w_X10_weightOf_0 {p : Program} {l : Launch} {e : Env} {s : State} {m : MethodId} {args : Array Value} {below : List Frame} {meth : Method} {c : Code} {D : va_G} {cy : Nat → ClassId} {b : Nat} (E : CX p m c cX10_weightOf 8 s args RX10 D cy LC) (hr : meth.sig.returnType = some .long) (hlk : meth.locks = false) {r : Int64 × ST} {v0 : Nat} {v1 : Int32} {v2 : Int32} {σ : ST} {H : Heap} {locs : List Loc} {ls : Array Slot} (hm : f_X10_weightOf v0 v1 v2 σ = some r) (hv0 : LC.1 v0 = 10) (hw : PH D cy LC b σ s H locs) (hl : lv_has ls 8 [(0, .ref (b + v0)), (1, .int v1), (2, .int v2)]) : W p l e (rmD 2) s m args below meth c H locs 0 0 (MQ below (QcP D cy LC b (some (.long r.1)) r.2) args s 0 0 (inP LC b)) (F0 m 0 ls []) := by
  have hx := E.1.1
  have hb := E.1.2.1
  unfold f_X10_weightOf at hm
  refine lv_aload_n hx hb dX10_weightOf_0 rfl (lv_at hl 0 rfl) ?_
  refine q_geta E hw fw_X10_12 rfl hv0 dX10_weightOf_1 ?_
  refine lv_iload_n hx hb dX10_weightOf_4 rfl (lv_at hl 2 rfl) ?_
  refine q_cVi (κ := 7) (C := RX7) (T := TX7) (N := 12) [] E hw hm mw_X10_104 (fun u hu => c_X7_isSum hu (tC_10_0 hv0)) rfl (by decide) (tC_10_0 hv0) rfl rfl hl.1 (Nat.le_of_ble_eq_true rfl) ⟨Nat.le_of_ble_eq_true rfl, Nat.le_of_ble_eq_true rfl⟩ dX10_weightOf_5 (fun u7 H locs hm hw => ?_)
  refine lv_if_eq (tgt := 21) hx hb dX10_weightOf_8 (by decide) (fun c8 => ?_) (fun c8 => ?_)
  · have hm := o_t c8 hm
    refine lv_ldc2 hx hb E.1.2.2.2.1 (E.1.2.2.2.2 _ (rL60 _ (List.mem_of_getElem? (i := 8) rfl))) dX10_weightOf_21 ?_
    refine lv_aload_n hx hb dX10_weightOf_24 rfl (lv_at hl 0 rfl) ?_
    refine q_geta E hw fw_X10_30 rfl hv0 dX10_weightOf_25 ?_
    refine lv_iload_n hx hb dX10_weightOf_28 rfl (lv_at hl 1 rfl) ?_
    refine q_cVi (κ := 0) (C := RX0) (T := TX0) (N := 2) [.long 3] E hw hm mw_X10_221 (fun u hu => c_X0_sumOf hu (tC_10_2 hv0)) rfl (by decide) (tC_10_2 hv0) rfl rfl hl.1 (Nat.le_of_ble_eq_true rfl) ⟨Nat.le_of_ble_eq_true rfl, Nat.le_of_ble_eq_true rfl⟩ dX10_weightOf_29 (fun u9 H locs hm hw => ?_)
    refine lv_i2l hx hb dX10_weightOf_32 rfl ?_
    refine lv_lmul hx hb dX10_weightOf_33 ?_
    refine lv_lstore_n (lv' := [(3, .long (3 * ((u9.1).toInt64))), (0, .ref (b + v0)), (1, .int v1), (2, .int v2)]) hx hb dX10_weightOf_34 rfl hl (by decide) rfl (fun ls hl => ?_)
    refine lv_iconst (v := 0) hx hb dX10_weightOf_35 (by decide) ?_
    refine lv_istore (lv' := [(5, .int 0), (3, .long (3 * ((u9.1).toInt64))), (0, .ref (b + v0)), (1, .int v1), (2, .int v2)]) hx hb dX10_weightOf_36 hl (by decide) rfl (fun ls hl => ?_)
    exact w_X10_weightOf_38 E hr hlk _ _ _ _ _ _ _ _ _ _ hm hv0 hw (lv_sub hl [2, 3, 4, 1, 0] rfl)
  · have hm := o_f c8 hm
    refine lv_aload_n hx hb dX10_weightOf_11 rfl (lv_at hl 0 rfl) ?_
    refine q_geta E hw fw_X10_30 rfl hv0 dX10_weightOf_12 ?_
    refine lv_iload_n hx hb dX10_weightOf_15 rfl (lv_at hl 1 rfl) ?_
    refine q_cVi (κ := 0) (C := RX0) (T := TX0) (N := 2) [] E hw hm mw_X10_221 (fun u hu => c_X0_sumOf hu (tC_10_2 hv0)) rfl (by decide) (tC_10_2 hv0) rfl rfl hl.1 (Nat.le_of_ble_eq_true rfl) ⟨Nat.le_of_ble_eq_true rfl, Nat.le_of_ble_eq_true rfl⟩ dX10_weightOf_16 (fun u10 H locs hm hw => ?_)
    refine lv_i2l hx hb dX10_weightOf_19 rfl ?_
    exact q_lret E hr hlk hw hm dX10_weightOf_20
theorem c_X10_weightOf {l : Launch} {D : va_G} {cy : Nat → ClassId} {b : Nat} {v0 : Nat} {v1 : Int32} {v2 : Int32} {σ : ST} {r : Int64 × ST} (hm : f_X10_weightOf v0 v1 v2 σ = some r) (hv0 : LC.1 v0 = 10) : Met l yX10_weightOf (wU yX10_weightOf cX10_weightOf 8 (some .long)) (rmD 2) (PcP D cy LC b [.ref (b + v0), .int v1, .int v2] σ) (QcP D cy LC b (some (.long r.1)) r.2) 0 0 (inP LC b) :=
  q_met (lv := [(0, .ref (b + v0)), (1, .int v1), (2, .int v2)]) LC_ok (by decide) (Nat.le_of_ble_eq_true rfl) rfl (fun _ _ _ _ _ _ _ _ _ E hr hlk hw hl => w_X10_weightOf_0 E hr hlk hm hv0 hw hl)

def k_X10_rootOf_53 (rec5 : Nat → Int32 → Int64 → Int32 → ST → Option (Int32 × ST)) (v0 : Nat) (v1 : Int32) (v2 : Int64) (v4 : Int32) (σ : ST) : Option (Int32 × ST) :=
  rec5 v0 v1 v2 (v4 + 1) σ
set_option maxRecDepth 20000 in
set_option maxHeartbeats 1000000 in
theorem w_X10_rootOf_53 {p : Program} {l : Launch} {e : Env} {s : State} {m : MethodId} {args : Array Value} {below : List Frame} {meth : Method} {c : Code} {D : va_G} {cy : Nat → ClassId} {b : Nat} (E : CX p m c cX10_rootOf 5 s args RX10 D cy LC) (hr : meth.sig.returnType = some .int) (hlk : meth.locks = false) {r : Int32 × ST} {rec5 : Nat → Int32 → Int64 → Int32 → ST → Option (Int32 × ST)} (hrec5 : ∀ (v0 : Nat) (v1 : Int32) (v2 : Int64) (v4 : Int32) (σ : ST) (H : Heap) (locs : List Loc) (ls : Array Slot), rec5 v0 v1 v2 v4 σ = some r → LC.1 v0 = 10 → PH D cy LC b σ s H locs → lv_has ls 5 [(0, .ref (b + v0)), (1, .int v1), (2, .long v2), (4, .int v4)] → W p l e (rmD 3) s m args below meth c H locs 0 0 (MQ below (QcP D cy LC b (some (.int r.1)) r.2) args s 0 0 (inP LC b)) (F0 m 5 ls [])) {v0 : Nat} {v1 : Int32} {v2 : Int64} {v4 : Int32} {σ : ST} {H : Heap} {locs : List Loc} {ls : Array Slot} (hm : k_X10_rootOf_53 rec5 v0 v1 v2 v4 σ = some r) (hv0 : LC.1 v0 = 10) (hw : PH D cy LC b σ s H locs) (hl : lv_has ls 5 [(0, .ref (b + v0)), (1, .int v1), (2, .long v2), (4, .int v4)]) : W p l e (rmD 3) s m args below meth c H locs 0 0 (MQ below (QcP D cy LC b (some (.int r.1)) r.2) args s 0 0 (inP LC b)) (F0 m 53 ls []) := by
  have hx := E.1.1
  have hb := E.1.2.1
  unfold k_X10_rootOf_53 at hm
  refine lv_iinc (v := v4 + 1) (lv' := [(4, .int (v4 + 1)), (0, .ref (b + v0)), (1, .int v1), (2, .long v2)]) hx hb dX10_rootOf_53 hl (k := 3) rfl rfl (by decide) rfl (fun ls hl => ?_)
  refine lv_goto (tgt := 5) hx hb dX10_rootOf_56 (by decide) ?_
  exact hrec5 _ _ _ _ _ _ _ _ hm hv0 hw (lv_sub hl [1, 2, 3, 0] rfl)
def k_X10_rootOf_5 : Nat → Nat → Int32 → Int64 → Int32 → ST → Option (Int32 × ST)
  | 0, _, _, _, _, _ => none
  | n + 1, v0, v1, v2, v4, σ => if (gI σ (LC.2.1 v0 0) 7) ≤ v4 then (some ((v2).toInt32, σ)) else ((f_X7_isPlace (LC.2.1 v0 0) v4 v1 σ).bind fun u2 =>
  if u2.1 = 0 then (k_X10_rootOf_53 (k_X10_rootOf_5 n) v0 v1 v2 v4 u2.2) else ((f_X10_cellOf v1 v4 u2.2).bind fun u4 =>
  (f_X10_weightOf v0 u4.1 v4 u4.2).bind fun u5 =>
  (rmL ((v2 * 31) + u5.1) 1000003).bind fun q6 =>
  k_X10_rootOf_53 (k_X10_rootOf_5 n) v0 v1 q6 v4 u5.2))
set_option maxRecDepth 20000 in
set_option maxHeartbeats 1000000 in
theorem w_X10_rootOf_5 {p : Program} {l : Launch} {e : Env} {s : State} {m : MethodId} {args : Array Value} {below : List Frame} {meth : Method} {c : Code} {D : va_G} {cy : Nat → ClassId} {b : Nat} (E : CX p m c cX10_rootOf 5 s args RX10 D cy LC) (hr : meth.sig.returnType = some .int) (hlk : meth.locks = false) {r : Int32 × ST} : ∀ (n : Nat) (v0 : Nat) (v1 : Int32) (v2 : Int64) (v4 : Int32) (σ : ST) (H : Heap) (locs : List Loc) (ls : Array Slot), k_X10_rootOf_5 n v0 v1 v2 v4 σ = some r → LC.1 v0 = 10 → PH D cy LC b σ s H locs → lv_has ls 5 [(0, .ref (b + v0)), (1, .int v1), (2, .long v2), (4, .int v4)] → W p l e (rmD 3) s m args below meth c H locs 0 0 (MQ below (QcP D cy LC b (some (.int r.1)) r.2) args s 0 0 (inP LC b)) (F0 m 5 ls []) := by
  have hx := E.1.1
  have hb := E.1.2.1
  intro n
  induction n with
  | zero =>
    intro v0 v1 v2 v4 σ H locs ls hm
    cases hm
  | succ n ih =>
    intro v0 v1 v2 v4 σ H locs ls hm hv0 hw hl
    rw [k_X10_rootOf_5] at hm
    refine lv_iload hx hb dX10_rootOf_5 (lv_at hl 3 rfl) ?_
    refine lv_aload_n hx hb dX10_rootOf_7 rfl (lv_at hl 0 rfl) ?_
    refine q_geta E hw fw_X10_12 rfl hv0 dX10_rootOf_8 ?_
    refine q_geti E hw fw_X10_153 rfl (tC_10_0 hv0) dX10_rootOf_11 ?_
    refine lv_icmp_ge (tgt := 59) hx hb dX10_rootOf_14 (by decide) (fun c1 => ?_) (fun c1 => ?_)
    · have hm := o_t c1 hm
      refine lv_lload_n hx hb dX10_rootOf_59 rfl (lv_at hl 2 rfl) ?_
      refine lv_l2i hx hb dX10_rootOf_60 rfl ?_
      exact q_iret E hr hlk hw hm dX10_rootOf_61
    · have hm := o_f c1 hm
      refine lv_aload_n hx hb dX10_rootOf_17 rfl (lv_at hl 0 rfl) ?_
      refine q_geta E hw fw_X10_12 rfl hv0 dX10_rootOf_18 ?_
      refine lv_iload hx hb dX10_rootOf_21 (lv_at hl 3 rfl) ?_
      refine lv_iload_n hx hb dX10_rootOf_23 rfl (lv_at hl 1 rfl) ?_
      refine q_cVi (κ := 7) (C := RX7) (T := TX7) (N := 12) [] E hw hm mw_X10_125 (fun u hu => c_X7_isPlace hu (tC_10_0 hv0)) rfl (by decide) (tC_10_0 hv0) rfl rfl hl.1 (Nat.le_of_ble_eq_true rfl) ⟨Nat.le_of_ble_eq_true rfl, Nat.le_of_ble_eq_true rfl⟩ dX10_rootOf_24 (fun u2 H locs hm hw => ?_)
      refine lv_if_eq (tgt := 53) hx hb dX10_rootOf_27 (by decide) (fun c3 => ?_) (fun c3 => ?_)
      · have hm := o_t c3 hm
        exact w_X10_rootOf_53 E hr hlk ih hm hv0 hw (lv_sub hl [0, 1, 2, 3] rfl)
      · have hm := o_f c3 hm
        refine lv_lload_n hx hb dX10_rootOf_30 rfl (lv_at hl 2 rfl) ?_
        refine lv_ldc2 hx hb E.1.2.2.2.1 (E.1.2.2.2.2 _ (rL60 _ (List.mem_of_getElem? (i := 2) rfl))) dX10_rootOf_31 ?_
        refine lv_lmul hx hb dX10_rootOf_34 ?_
        refine lv_aload_n hx hb dX10_rootOf_35 rfl (lv_at hl 0 rfl) ?_
        refine lv_iload_n hx hb dX10_rootOf_36 rfl (lv_at hl 1 rfl) ?_
        refine lv_iload hx hb dX10_rootOf_37 (lv_at hl 3 rfl) ?_
        refine q_cSi [.ref (b + v0), .long (v2 * 31)] E hw hm ms_X10_100 (fun u hu => c_X10_cellOf hu ) rfl rfl hl.1 (Nat.le_of_ble_eq_true rfl) ⟨Nat.le_of_ble_eq_true rfl, Nat.le_of_ble_eq_true rfl⟩ dX10_rootOf_39 (fun u4 H locs hm hw => ?_)
        refine lv_iload hx hb dX10_rootOf_42 (lv_at hl 3 rfl) ?_
        refine q_cVl (κ := 10) (C := RX10) (T := TX10) (N := 12) [.long (v2 * 31)] E hw hm mw_X10_215 (fun u hu => c_X10_weightOf hu hv0) rfl (by decide) hv0 rfl rfl hl.1 (Nat.le_of_ble_eq_true rfl) ⟨Nat.le_of_ble_eq_true rfl, Nat.le_of_ble_eq_true rfl⟩ dX10_rootOf_44 (fun u5 H locs hm hw => ?_)
        refine lv_ladd hx hb dX10_rootOf_47 ?_
        refine lv_ldc2 hx hb E.1.2.2.2.1 (E.1.2.2.2.2 _ (rL60 _ (List.mem_of_getElem? (i := 3) rfl))) dX10_rootOf_48 ?_
        refine q_lrem E hm dX10_rootOf_51 (fun q6 hm => ?_)
        refine lv_lstore_n (lv' := [(2, .long q6), (0, .ref (b + v0)), (1, .int v1), (4, .int v4)]) hx hb dX10_rootOf_52 rfl hl (by decide) rfl (fun ls hl => ?_)
        exact w_X10_rootOf_53 E hr hlk ih hm hv0 hw (lv_sub hl [1, 2, 0, 3] rfl)
def f_X10_rootOf (v0 : Nat) (v1 : Int32) (σ : ST) : Option (Int32 × ST) :=
  k_X10_rootOf_5 FU v0 v1 0 0 σ
set_option maxRecDepth 20000 in
set_option maxHeartbeats 1000000 in
theorem w_X10_rootOf_0 {p : Program} {l : Launch} {e : Env} {s : State} {m : MethodId} {args : Array Value} {below : List Frame} {meth : Method} {c : Code} {D : va_G} {cy : Nat → ClassId} {b : Nat} (E : CX p m c cX10_rootOf 5 s args RX10 D cy LC) (hr : meth.sig.returnType = some .int) (hlk : meth.locks = false) {r : Int32 × ST} {v0 : Nat} {v1 : Int32} {σ : ST} {H : Heap} {locs : List Loc} {ls : Array Slot} (hm : f_X10_rootOf v0 v1 σ = some r) (hv0 : LC.1 v0 = 10) (hw : PH D cy LC b σ s H locs) (hl : lv_has ls 5 [(0, .ref (b + v0)), (1, .int v1)]) : W p l e (rmD 3) s m args below meth c H locs 0 0 (MQ below (QcP D cy LC b (some (.int r.1)) r.2) args s 0 0 (inP LC b)) (F0 m 0 ls []) := by
  have hx := E.1.1
  have hb := E.1.2.1
  unfold f_X10_rootOf at hm
  refine lv_lconst (v := 0) hx hb dX10_rootOf_0 (by decide) ?_
  refine lv_lstore_n (lv' := [(2, .long 0), (0, .ref (b + v0)), (1, .int v1)]) hx hb dX10_rootOf_1 rfl hl (by decide) rfl (fun ls hl => ?_)
  refine lv_iconst (v := 0) hx hb dX10_rootOf_2 (by decide) ?_
  refine lv_istore (lv' := [(4, .int 0), (2, .long 0), (0, .ref (b + v0)), (1, .int v1)]) hx hb dX10_rootOf_3 hl (by decide) rfl (fun ls hl => ?_)
  exact w_X10_rootOf_5 E hr hlk _ _ _ _ _ _ _ _ _ hm hv0 hw (lv_sub hl [2, 3, 1, 0] rfl)
theorem c_X10_rootOf {l : Launch} {D : va_G} {cy : Nat → ClassId} {b : Nat} {v0 : Nat} {v1 : Int32} {σ : ST} {r : Int32 × ST} (hm : f_X10_rootOf v0 v1 σ = some r) (hv0 : LC.1 v0 = 10) : Met l yX10_rootOf (wU yX10_rootOf cX10_rootOf 5 (some .int)) (rmD 3) (PcP D cy LC b [.ref (b + v0), .int v1] σ) (QcP D cy LC b (some (.int r.1)) r.2) 0 0 (inP LC b) :=
  q_met (lv := [(0, .ref (b + v0)), (1, .int v1)]) LC_ok (by decide) (Nat.le_of_ble_eq_true rfl) rfl (fun _ _ _ _ _ _ _ _ _ E hr hlk hw hl => w_X10_rootOf_0 E hr hlk hm hv0 hw hl)

def k_X10_bitsHeld_18 : Nat → Nat → Int32 → Int32 → Int32 → Int32 → Int32 → ST → Option (Int32 × ST)
  | 0, _, _, _, _, _, _, _ => none
  | n + 1, v0, v1, v2, v3, v4, v5, σ => if (gI σ (LC.2.1 v0 0) 6) ≤ v5 then (some (v4, σ)) else ((f_X0_bitsOf (LC.2.1 v0 3) ((((v1 * 6) + v5) * 6) + v2) v3 σ).bind fun u2 =>
  k_X10_bitsHeld_18 n v0 v1 v2 v3 (v4 ||| u2.1) (v5 + 1) u2.2)
set_option maxRecDepth 20000 in
set_option maxHeartbeats 1000000 in
theorem w_X10_bitsHeld_18 {p : Program} {l : Launch} {e : Env} {s : State} {m : MethodId} {args : Array Value} {below : List Frame} {meth : Method} {c : Code} {D : va_G} {cy : Nat → ClassId} {b : Nat} (E : CX p m c cX10_bitsHeld 6 s args RX10 D cy LC) (hr : meth.sig.returnType = some .int) (hlk : meth.locks = false) {r : Int32 × ST} : ∀ (n : Nat) (v0 : Nat) (v1 : Int32) (v2 : Int32) (v3 : Int32) (v4 : Int32) (v5 : Int32) (σ : ST) (H : Heap) (locs : List Loc) (ls : Array Slot), k_X10_bitsHeld_18 n v0 v1 v2 v3 v4 v5 σ = some r → LC.1 v0 = 10 → PH D cy LC b σ s H locs → lv_has ls 6 [(0, .ref (b + v0)), (1, .int v1), (2, .int v2), (3, .int v3), (4, .int v4), (5, .int v5)] → W p l e (rmD 1) s m args below meth c H locs 0 0 (MQ below (QcP D cy LC b (some (.int r.1)) r.2) args s 0 0 (inP LC b)) (F0 m 18 ls []) := by
  have hx := E.1.1
  have hb := E.1.2.1
  intro n
  induction n with
  | zero =>
    intro v0 v1 v2 v3 v4 v5 σ H locs ls hm
    cases hm
  | succ n ih =>
    intro v0 v1 v2 v3 v4 v5 σ H locs ls hm hv0 hw hl
    rw [k_X10_bitsHeld_18] at hm
    refine lv_iload hx hb dX10_bitsHeld_18 (lv_at hl 5 rfl) ?_
    refine lv_aload_n hx hb dX10_bitsHeld_20 rfl (lv_at hl 0 rfl) ?_
    refine q_geta E hw fw_X10_12 rfl hv0 dX10_bitsHeld_21 ?_
    refine q_geti E hw fw_X10_131 rfl (tC_10_0 hv0) dX10_bitsHeld_24 ?_
    refine lv_icmp_ge (tgt := 61) hx hb dX10_bitsHeld_27 (by decide) (fun c1 => ?_) (fun c1 => ?_)
    · have hm := o_t c1 hm
      refine lv_iload hx hb dX10_bitsHeld_61 (lv_at hl 4 rfl) ?_
      exact q_iret E hr hlk hw hm dX10_bitsHeld_63
    · have hm := o_f c1 hm
      refine lv_iload hx hb dX10_bitsHeld_30 (lv_at hl 4 rfl) ?_
      refine lv_aload_n hx hb dX10_bitsHeld_32 rfl (lv_at hl 0 rfl) ?_
      refine q_geta E hw fw_X10_34 rfl hv0 dX10_bitsHeld_33 ?_
      refine lv_iload_n hx hb dX10_bitsHeld_36 rfl (lv_at hl 1 rfl) ?_
      refine lv_bipush (v := 6) hx hb dX10_bitsHeld_37 (by decide) ?_
      refine lv_imul hx hb dX10_bitsHeld_39 ?_
      refine lv_iload hx hb dX10_bitsHeld_40 (lv_at hl 5 rfl) ?_
      refine lv_iadd hx hb dX10_bitsHeld_42 ?_
      refine lv_bipush (v := 6) hx hb dX10_bitsHeld_43 (by decide) ?_
      refine lv_imul hx hb dX10_bitsHeld_45 ?_
      refine lv_iload_n hx hb dX10_bitsHeld_46 rfl (lv_at hl 2 rfl) ?_
      refine lv_iadd hx hb dX10_bitsHeld_47 ?_
      refine lv_iload_n hx hb dX10_bitsHeld_48 rfl (lv_at hl 3 rfl) ?_
      refine q_cVi (κ := 0) (C := RX0) (T := TX0) (N := 2) [.int v4] E hw hm mw_X10_207 (fun u hu => c_X0_bitsOf hu (tC_10_3 hv0)) rfl (by decide) (tC_10_3 hv0) rfl rfl hl.1 (Nat.le_of_ble_eq_true rfl) ⟨Nat.le_of_ble_eq_true rfl, Nat.le_of_ble_eq_true rfl⟩ dX10_bitsHeld_49 (fun u2 H locs hm hw => ?_)
      refine lv_ior hx hb dX10_bitsHeld_52 ?_
      refine lv_istore (lv' := [(4, .int (v4 ||| u2.1)), (0, .ref (b + v0)), (1, .int v1), (2, .int v2), (3, .int v3), (5, .int v5)]) hx hb dX10_bitsHeld_53 hl (by decide) rfl (fun ls hl => ?_)
      refine lv_iinc (v := v5 + 1) (lv' := [(5, .int (v5 + 1)), (4, .int (v4 ||| u2.1)), (0, .ref (b + v0)), (1, .int v1), (2, .int v2), (3, .int v3)]) hx hb dX10_bitsHeld_55 hl (k := 5) rfl rfl (by decide) rfl (fun ls hl => ?_)
      refine lv_goto (tgt := 18) hx hb dX10_bitsHeld_58 (by decide) ?_
      exact ih _ _ _ _ _ _ _ _ _ _ hm hv0 hw (lv_sub hl [2, 3, 4, 5, 1, 0] rfl)
def f_X10_bitsHeld (v0 : Nat) (v1 : Int32) (v2 : Int32) (v3 : Int32) (σ : ST) : Option (Int32 × ST) :=
  (f_X10_cellOf v1 v2 σ).bind fun u3 =>
  (f_X0_bitsOf (LC.2.1 v0 2) u3.1 v3 u3.2).bind fun u4 =>
  k_X10_bitsHeld_18 FU v0 v1 v2 v3 u4.1 0 u4.2
set_option maxRecDepth 20000 in
set_option maxHeartbeats 1000000 in
theorem w_X10_bitsHeld_0 {p : Program} {l : Launch} {e : Env} {s : State} {m : MethodId} {args : Array Value} {below : List Frame} {meth : Method} {c : Code} {D : va_G} {cy : Nat → ClassId} {b : Nat} (E : CX p m c cX10_bitsHeld 6 s args RX10 D cy LC) (hr : meth.sig.returnType = some .int) (hlk : meth.locks = false) {r : Int32 × ST} {v0 : Nat} {v1 : Int32} {v2 : Int32} {v3 : Int32} {σ : ST} {H : Heap} {locs : List Loc} {ls : Array Slot} (hm : f_X10_bitsHeld v0 v1 v2 v3 σ = some r) (hv0 : LC.1 v0 = 10) (hw : PH D cy LC b σ s H locs) (hl : lv_has ls 6 [(0, .ref (b + v0)), (1, .int v1), (2, .int v2), (3, .int v3)]) : W p l e (rmD 1) s m args below meth c H locs 0 0 (MQ below (QcP D cy LC b (some (.int r.1)) r.2) args s 0 0 (inP LC b)) (F0 m 0 ls []) := by
  have hx := E.1.1
  have hb := E.1.2.1
  unfold f_X10_bitsHeld at hm
  refine lv_aload_n hx hb dX10_bitsHeld_0 rfl (lv_at hl 0 rfl) ?_
  refine q_geta E hw fw_X10_30 rfl hv0 dX10_bitsHeld_1 ?_
  refine lv_iload_n hx hb dX10_bitsHeld_4 rfl (lv_at hl 1 rfl) ?_
  refine lv_iload_n hx hb dX10_bitsHeld_5 rfl (lv_at hl 2 rfl) ?_
  refine q_cSi [.ref (b + (LC.2.1 v0 2))] E hw hm ms_X10_100 (fun u hu => c_X10_cellOf hu ) rfl rfl hl.1 (Nat.le_of_ble_eq_true rfl) ⟨Nat.le_of_ble_eq_true rfl, Nat.le_of_ble_eq_true rfl⟩ dX10_bitsHeld_6 (fun u3 H locs hm hw => ?_)
  refine lv_iload_n hx hb dX10_bitsHeld_9 rfl (lv_at hl 3 rfl) ?_
  refine q_cVi (κ := 0) (C := RX0) (T := TX0) (N := 2) [] E hw hm mw_X10_207 (fun u hu => c_X0_bitsOf hu (tC_10_2 hv0)) rfl (by decide) (tC_10_2 hv0) rfl rfl hl.1 (Nat.le_of_ble_eq_true rfl) ⟨Nat.le_of_ble_eq_true rfl, Nat.le_of_ble_eq_true rfl⟩ dX10_bitsHeld_10 (fun u4 H locs hm hw => ?_)
  refine lv_istore (lv' := [(4, .int u4.1), (0, .ref (b + v0)), (1, .int v1), (2, .int v2), (3, .int v3)]) hx hb dX10_bitsHeld_13 hl (by decide) rfl (fun ls hl => ?_)
  refine lv_iconst (v := 0) hx hb dX10_bitsHeld_15 (by decide) ?_
  refine lv_istore (lv' := [(5, .int 0), (4, .int u4.1), (0, .ref (b + v0)), (1, .int v1), (2, .int v2), (3, .int v3)]) hx hb dX10_bitsHeld_16 hl (by decide) rfl (fun ls hl => ?_)
  exact w_X10_bitsHeld_18 E hr hlk _ _ _ _ _ _ _ _ _ _ _ hm hv0 hw (lv_sub hl [2, 3, 4, 5, 1, 0] rfl)
theorem c_X10_bitsHeld {l : Launch} {D : va_G} {cy : Nat → ClassId} {b : Nat} {v0 : Nat} {v1 : Int32} {v2 : Int32} {v3 : Int32} {σ : ST} {r : Int32 × ST} (hm : f_X10_bitsHeld v0 v1 v2 v3 σ = some r) (hv0 : LC.1 v0 = 10) : Met l yX10_bitsHeld (wU yX10_bitsHeld cX10_bitsHeld 6 (some .int)) (rmD 1) (PcP D cy LC b [.ref (b + v0), .int v1, .int v2, .int v3] σ) (QcP D cy LC b (some (.int r.1)) r.2) 0 0 (inP LC b) :=
  q_met (lv := [(0, .ref (b + v0)), (1, .int v1), (2, .int v2), (3, .int v3)]) LC_ok (by decide) (Nat.le_of_ble_eq_true rfl) rfl (fun _ _ _ _ _ _ _ _ _ E hr hlk hw hl => w_X10_bitsHeld_0 E hr hlk hm hv0 hw hl)

def k_X10_noteHolders_104 (rec21 : Nat → Int32 → Nat → Int32 → Int32 → ST → Option (ST)) (v0 : Nat) (v1 : Int32) (v2 : Nat) (v3 : Int32) (v4 : Int32) (σ : ST) : Option (ST) :=
  rec21 v0 v1 v2 v3 (v4 + 1) σ
set_option maxRecDepth 20000 in
set_option maxHeartbeats 1000000 in
theorem w_X10_noteHolders_104 {p : Program} {l : Launch} {e : Env} {s : State} {m : MethodId} {args : Array Value} {below : List Frame} {meth : Method} {c : Code} {D : va_G} {cy : Nat → ClassId} {b : Nat} (E : CX p m c cX10_noteHolders 7 s args RX10 D cy LC) (hr : meth.sig.returnType = none) (hlk : meth.locks = false) {r : ST} {rec21 : Nat → Int32 → Nat → Int32 → Int32 → ST → Option (ST)} (hrec21 : ∀ (v0 : Nat) (v1 : Int32) (v2 : Nat) (v3 : Int32) (v4 : Int32) (σ : ST) (H : Heap) (locs : List Loc) (ls : Array Slot), rec21 v0 v1 v2 v3 v4 σ = some r → LC.1 v0 = 10 → LC.1 v2 = 13 → PH D cy LC b σ s H locs → lv_has ls 7 [(0, .ref (b + v0)), (1, .int v1), (2, .ref (b + v2)), (3, .int v3), (4, .int v4)] → W p l e (rmD 2) s m args below meth c H locs 0 0 (MQ below (QcP D cy LC b none r) args s 0 0 (inP LC b)) (F0 m 21 ls [])) {v0 : Nat} {v1 : Int32} {v2 : Nat} {v3 : Int32} {v4 : Int32} {σ : ST} {H : Heap} {locs : List Loc} {ls : Array Slot} (hm : k_X10_noteHolders_104 rec21 v0 v1 v2 v3 v4 σ = some r) (hv0 : LC.1 v0 = 10) (hv2 : LC.1 v2 = 13) (hw : PH D cy LC b σ s H locs) (hl : lv_has ls 7 [(0, .ref (b + v0)), (1, .int v1), (2, .ref (b + v2)), (3, .int v3), (4, .int v4)]) : W p l e (rmD 2) s m args below meth c H locs 0 0 (MQ below (QcP D cy LC b none r) args s 0 0 (inP LC b)) (F0 m 104 ls []) := by
  have hx := E.1.1
  have hb := E.1.2.1
  unfold k_X10_noteHolders_104 at hm
  refine lv_iinc (v := v4 + 1) (lv' := [(4, .int (v4 + 1)), (0, .ref (b + v0)), (1, .int v1), (2, .ref (b + v2)), (3, .int v3)]) hx hb dX10_noteHolders_104 hl (k := 4) rfl rfl (by decide) rfl (fun ls hl => ?_)
  refine lv_goto (tgt := 21) hx hb dX10_noteHolders_107 (by decide) ?_
  exact hrec21 _ _ _ _ _ _ _ _ _ hm hv0 hv2 hw (lv_sub hl [1, 2, 3, 4, 0] rfl)
def k_X10_noteHolders_98 (rec46 : Nat → Int32 → Nat → Int32 → Int32 → Int32 → Int32 → ST → Option (ST)) (v0 : Nat) (v1 : Int32) (v2 : Nat) (v3 : Int32) (v4 : Int32) (v5 : Int32) (v6 : Int32) (σ : ST) : Option (ST) :=
  rec46 v0 v1 v2 v3 v4 v5 (v6 + 1) σ
set_option maxRecDepth 20000 in
set_option maxHeartbeats 1000000 in
theorem w_X10_noteHolders_98 {p : Program} {l : Launch} {e : Env} {s : State} {m : MethodId} {args : Array Value} {below : List Frame} {meth : Method} {c : Code} {D : va_G} {cy : Nat → ClassId} {b : Nat} (E : CX p m c cX10_noteHolders 7 s args RX10 D cy LC) (hr : meth.sig.returnType = none) (hlk : meth.locks = false) {r : ST} {rec46 : Nat → Int32 → Nat → Int32 → Int32 → Int32 → Int32 → ST → Option (ST)} (hrec46 : ∀ (v0 : Nat) (v1 : Int32) (v2 : Nat) (v3 : Int32) (v4 : Int32) (v5 : Int32) (v6 : Int32) (σ : ST) (H : Heap) (locs : List Loc) (ls : Array Slot), rec46 v0 v1 v2 v3 v4 v5 v6 σ = some r → LC.1 v0 = 10 → LC.1 v2 = 13 → PH D cy LC b σ s H locs → lv_has ls 7 [(0, .ref (b + v0)), (1, .int v1), (2, .ref (b + v2)), (3, .int v3), (4, .int v4), (5, .int v5), (6, .int v6)] → W p l e (rmD 2) s m args below meth c H locs 0 0 (MQ below (QcP D cy LC b none r) args s 0 0 (inP LC b)) (F0 m 46 ls [])) {v0 : Nat} {v1 : Int32} {v2 : Nat} {v3 : Int32} {v4 : Int32} {v5 : Int32} {v6 : Int32} {σ : ST} {H : Heap} {locs : List Loc} {ls : Array Slot} (hm : k_X10_noteHolders_98 rec46 v0 v1 v2 v3 v4 v5 v6 σ = some r) (hv0 : LC.1 v0 = 10) (hv2 : LC.1 v2 = 13) (hw : PH D cy LC b σ s H locs) (hl : lv_has ls 7 [(0, .ref (b + v0)), (1, .int v1), (2, .ref (b + v2)), (3, .int v3), (4, .int v4), (5, .int v5), (6, .int v6)]) : W p l e (rmD 2) s m args below meth c H locs 0 0 (MQ below (QcP D cy LC b none r) args s 0 0 (inP LC b)) (F0 m 98 ls []) := by
  have hx := E.1.1
  have hb := E.1.2.1
  unfold k_X10_noteHolders_98 at hm
  refine lv_iinc (v := v6 + 1) (lv' := [(6, .int (v6 + 1)), (0, .ref (b + v0)), (1, .int v1), (2, .ref (b + v2)), (3, .int v3), (4, .int v4), (5, .int v5)]) hx hb dX10_noteHolders_98 hl (k := 6) rfl rfl (by decide) rfl (fun ls hl => ?_)
  refine lv_goto (tgt := 46) hx hb dX10_noteHolders_101 (by decide) ?_
  exact hrec46 _ _ _ _ _ _ _ _ _ _ _ hm hv0 hv2 hw (lv_sub hl [1, 2, 3, 4, 5, 6, 0] rfl)
def k_X10_noteHolders_46 (rec21 : Nat → Int32 → Nat → Int32 → Int32 → ST → Option (ST)) : Nat → Nat → Int32 → Nat → Int32 → Int32 → Int32 → Int32 → ST → Option (ST)
  | 0, _, _, _, _, _, _, _, _ => none
  | n + 1, v0, v1, v2, v3, v4, v5, v6, σ => if 30 ≤ v6 then (k_X10_noteHolders_104 rec21 v0 v1 v2 v3 v4 σ) else (if (v5 >>> (v6 &&& 31)) = 0 then (k_X10_noteHolders_104 rec21 v0 v1 v2 v3 v4 σ) else (if ((v5 >>> (v6 &&& 31)) &&& 1) = 0 then (k_X10_noteHolders_98 (k_X10_noteHolders_46 rec21 n) v0 v1 v2 v3 v4 v5 v6 σ) else ((ldA LC σ (LC.2.1 v0 8) (((v1 * 180) + (v4 * 30)) + v6)).bind fun a4 =>
  (ldA LC σ v2 a4).bind fun a5 =>
  (stA LC σ v2 a4 (a5 ||| (1 <<< (v3 &&& 31)))).bind fun σ6 =>
  k_X10_noteHolders_98 (k_X10_noteHolders_46 rec21 n) v0 v1 v2 v3 v4 v5 v6 σ6)))
set_option maxRecDepth 20000 in
set_option maxHeartbeats 1000000 in
theorem w_X10_noteHolders_46 {p : Program} {l : Launch} {e : Env} {s : State} {m : MethodId} {args : Array Value} {below : List Frame} {meth : Method} {c : Code} {D : va_G} {cy : Nat → ClassId} {b : Nat} (E : CX p m c cX10_noteHolders 7 s args RX10 D cy LC) (hr : meth.sig.returnType = none) (hlk : meth.locks = false) {r : ST} {rec21 : Nat → Int32 → Nat → Int32 → Int32 → ST → Option (ST)} (hrec21 : ∀ (v0 : Nat) (v1 : Int32) (v2 : Nat) (v3 : Int32) (v4 : Int32) (σ : ST) (H : Heap) (locs : List Loc) (ls : Array Slot), rec21 v0 v1 v2 v3 v4 σ = some r → LC.1 v0 = 10 → LC.1 v2 = 13 → PH D cy LC b σ s H locs → lv_has ls 7 [(0, .ref (b + v0)), (1, .int v1), (2, .ref (b + v2)), (3, .int v3), (4, .int v4)] → W p l e (rmD 2) s m args below meth c H locs 0 0 (MQ below (QcP D cy LC b none r) args s 0 0 (inP LC b)) (F0 m 21 ls [])) : ∀ (n : Nat) (v0 : Nat) (v1 : Int32) (v2 : Nat) (v3 : Int32) (v4 : Int32) (v5 : Int32) (v6 : Int32) (σ : ST) (H : Heap) (locs : List Loc) (ls : Array Slot), k_X10_noteHolders_46 rec21 n v0 v1 v2 v3 v4 v5 v6 σ = some r → LC.1 v0 = 10 → LC.1 v2 = 13 → PH D cy LC b σ s H locs → lv_has ls 7 [(0, .ref (b + v0)), (1, .int v1), (2, .ref (b + v2)), (3, .int v3), (4, .int v4), (5, .int v5), (6, .int v6)] → W p l e (rmD 2) s m args below meth c H locs 0 0 (MQ below (QcP D cy LC b none r) args s 0 0 (inP LC b)) (F0 m 46 ls []) := by
  have hx := E.1.1
  have hb := E.1.2.1
  intro n
  induction n with
  | zero =>
    intro v0 v1 v2 v3 v4 v5 v6 σ H locs ls hm
    cases hm
  | succ n ih =>
    intro v0 v1 v2 v3 v4 v5 v6 σ H locs ls hm hv0 hv2 hw hl
    rw [k_X10_noteHolders_46] at hm
    refine lv_iload hx hb dX10_noteHolders_46 (lv_at hl 6 rfl) ?_
    refine lv_bipush (v := 30) hx hb dX10_noteHolders_48 (by decide) ?_
    refine lv_icmp_ge (tgt := 104) hx hb dX10_noteHolders_50 (by decide) (fun c1 => ?_) (fun c1 => ?_)
    · have hm := o_t c1 hm
      exact w_X10_noteHolders_104 E hr hlk hrec21 hm hv0 hv2 hw (lv_sub hl [0, 1, 2, 3, 4] rfl)
    · have hm := o_f c1 hm
      refine lv_iload hx hb dX10_noteHolders_53 (lv_at hl 5 rfl) ?_
      refine lv_iload hx hb dX10_noteHolders_55 (lv_at hl 6 rfl) ?_
      refine lv_ishr hx hb dX10_noteHolders_57 ?_
      refine lv_if_eq (tgt := 104) hx hb dX10_noteHolders_58 (by decide) (fun c2 => ?_) (fun c2 => ?_)
      · have hm := o_t c2 hm
        exact w_X10_noteHolders_104 E hr hlk hrec21 hm hv0 hv2 hw (lv_sub hl [0, 1, 2, 3, 4] rfl)
      · have hm := o_f c2 hm
        refine lv_iload hx hb dX10_noteHolders_61 (lv_at hl 5 rfl) ?_
        refine lv_iload hx hb dX10_noteHolders_63 (lv_at hl 6 rfl) ?_
        refine lv_ishr hx hb dX10_noteHolders_65 ?_
        refine lv_iconst (v := 1) hx hb dX10_noteHolders_66 (by decide) ?_
        refine lv_iand hx hb dX10_noteHolders_67 ?_
        refine lv_if_eq (tgt := 98) hx hb dX10_noteHolders_68 (by decide) (fun c3 => ?_) (fun c3 => ?_)
        · have hm := o_t c3 hm
          exact w_X10_noteHolders_98 E hr hlk ih hm hv0 hv2 hw (lv_sub hl [0, 1, 2, 3, 4, 5, 6] rfl)
        · have hm := o_f c3 hm
          refine lv_aload_n hx hb dX10_noteHolders_71 rfl (lv_at hl 2 rfl) ?_
          refine lv_aload_n hx hb dX10_noteHolders_72 rfl (lv_at hl 0 rfl) ?_
          refine q_geta E hw fw_X10_50 rfl hv0 dX10_noteHolders_73 ?_
          refine lv_iload_n hx hb dX10_noteHolders_76 rfl (lv_at hl 1 rfl) ?_
          refine lv_sipush (v := 180) hx hb dX10_noteHolders_77 (by decide) ?_
          refine lv_imul hx hb dX10_noteHolders_80 ?_
          refine lv_iload hx hb dX10_noteHolders_81 (lv_at hl 4 rfl) ?_
          refine lv_bipush (v := 30) hx hb dX10_noteHolders_83 (by decide) ?_
          refine lv_imul hx hb dX10_noteHolders_85 ?_
          refine lv_iadd hx hb dX10_noteHolders_86 ?_
          refine lv_iload hx hb dX10_noteHolders_87 (lv_at hl 6 rfl) ?_
          refine lv_iadd hx hb dX10_noteHolders_89 ?_
          refine q_iald E hw (tC_10_8 hv0) hm dX10_noteHolders_90 (fun a4 hm => ?_)
          refine lv_dup2_11 hx hb dX10_noteHolders_91 rfl rfl ?_
          refine q_iald E hw hv2 hm dX10_noteHolders_92 (fun a5 hm => ?_)
          refine lv_iconst (v := 1) hx hb dX10_noteHolders_93 (by decide) ?_
          refine lv_iload_n hx hb dX10_noteHolders_94 rfl (lv_at hl 3 rfl) ?_
          refine lv_ishl hx hb dX10_noteHolders_95 ?_
          refine lv_ior hx hb dX10_noteHolders_96 ?_
          refine q_iast E hw hv2 hm dX10_noteHolders_97 (fun σ6 H locs hm hw => ?_)
          exact w_X10_noteHolders_98 E hr hlk ih hm hv0 hv2 hw (lv_sub hl [0, 1, 2, 3, 4, 5, 6] rfl)
def k_X10_noteHolders_21 (rec7 : Nat → Int32 → Nat → Int32 → ST → Option (ST)) : Nat → Nat → Int32 → Nat → Int32 → Int32 → ST → Option (ST)
  | 0, _, _, _, _, _, _ => none
  | n + 1, v0, v1, v2, v3, v4, σ => if (gI σ (LC.2.1 v0 0) 6) ≤ v4 then (rec7 v0 v1 v2 (v3 + 1) σ) else ((f_X10_bitsHeld v0 v3 v1 v4 σ).bind fun u8 =>
  k_X10_noteHolders_46 (k_X10_noteHolders_21 rec7 n) FU v0 v1 v2 v3 v4 u8.1 0 u8.2)
set_option maxRecDepth 20000 in
set_option maxHeartbeats 1000000 in
theorem w_X10_noteHolders_21 {p : Program} {l : Launch} {e : Env} {s : State} {m : MethodId} {args : Array Value} {below : List Frame} {meth : Method} {c : Code} {D : va_G} {cy : Nat → ClassId} {b : Nat} (E : CX p m c cX10_noteHolders 7 s args RX10 D cy LC) (hr : meth.sig.returnType = none) (hlk : meth.locks = false) {r : ST} {rec7 : Nat → Int32 → Nat → Int32 → ST → Option (ST)} (hrec7 : ∀ (v0 : Nat) (v1 : Int32) (v2 : Nat) (v3 : Int32) (σ : ST) (H : Heap) (locs : List Loc) (ls : Array Slot), rec7 v0 v1 v2 v3 σ = some r → LC.1 v0 = 10 → LC.1 v2 = 13 → PH D cy LC b σ s H locs → lv_has ls 7 [(0, .ref (b + v0)), (1, .int v1), (2, .ref (b + v2)), (3, .int v3)] → W p l e (rmD 2) s m args below meth c H locs 0 0 (MQ below (QcP D cy LC b none r) args s 0 0 (inP LC b)) (F0 m 7 ls [])) : ∀ (n : Nat) (v0 : Nat) (v1 : Int32) (v2 : Nat) (v3 : Int32) (v4 : Int32) (σ : ST) (H : Heap) (locs : List Loc) (ls : Array Slot), k_X10_noteHolders_21 rec7 n v0 v1 v2 v3 v4 σ = some r → LC.1 v0 = 10 → LC.1 v2 = 13 → PH D cy LC b σ s H locs → lv_has ls 7 [(0, .ref (b + v0)), (1, .int v1), (2, .ref (b + v2)), (3, .int v3), (4, .int v4)] → W p l e (rmD 2) s m args below meth c H locs 0 0 (MQ below (QcP D cy LC b none r) args s 0 0 (inP LC b)) (F0 m 21 ls []) := by
  have hx := E.1.1
  have hb := E.1.2.1
  intro n
  induction n with
  | zero =>
    intro v0 v1 v2 v3 v4 σ H locs ls hm
    cases hm
  | succ n ih =>
    intro v0 v1 v2 v3 v4 σ H locs ls hm hv0 hv2 hw hl
    rw [k_X10_noteHolders_21] at hm
    refine lv_iload hx hb dX10_noteHolders_21 (lv_at hl 4 rfl) ?_
    refine lv_aload_n hx hb dX10_noteHolders_23 rfl (lv_at hl 0 rfl) ?_
    refine q_geta E hw fw_X10_12 rfl hv0 dX10_noteHolders_24 ?_
    refine q_geti E hw fw_X10_131 rfl (tC_10_0 hv0) dX10_noteHolders_27 ?_
    refine lv_icmp_ge (tgt := 110) hx hb dX10_noteHolders_30 (by decide) (fun c7 => ?_) (fun c7 => ?_)
    · have hm := o_t c7 hm
      refine lv_iinc (v := v3 + 1) (lv' := [(3, .int (v3 + 1)), (0, .ref (b + v0)), (1, .int v1), (2, .ref (b + v2)), (4, .int v4)]) hx hb dX10_noteHolders_110 hl (k := 3) rfl rfl (by decide) rfl (fun ls hl => ?_)
      refine lv_goto (tgt := 7) hx hb dX10_noteHolders_113 (by decide) ?_
      exact hrec7 _ _ _ _ _ _ _ _ hm hv0 hv2 hw (lv_sub hl [1, 2, 3, 0] rfl)
    · have hm := o_f c7 hm
      refine lv_aload_n hx hb dX10_noteHolders_33 rfl (lv_at hl 0 rfl) ?_
      refine lv_iload_n hx hb dX10_noteHolders_34 rfl (lv_at hl 3 rfl) ?_
      refine lv_iload_n hx hb dX10_noteHolders_35 rfl (lv_at hl 1 rfl) ?_
      refine lv_iload hx hb dX10_noteHolders_36 (lv_at hl 4 rfl) ?_
      refine q_cVi (κ := 10) (C := RX10) (T := TX10) (N := 12) [] E hw hm mw_X10_226 (fun u hu => c_X10_bitsHeld hu hv0) rfl (by decide) hv0 rfl rfl hl.1 (Nat.le_of_ble_eq_true rfl) ⟨Nat.le_of_ble_eq_true rfl, Nat.le_of_ble_eq_true rfl⟩ dX10_noteHolders_38 (fun u8 H locs hm hw => ?_)
      refine lv_istore (lv' := [(5, .int u8.1), (0, .ref (b + v0)), (1, .int v1), (2, .ref (b + v2)), (3, .int v3), (4, .int v4)]) hx hb dX10_noteHolders_41 hl (by decide) rfl (fun ls hl => ?_)
      refine lv_iconst (v := 0) hx hb dX10_noteHolders_43 (by decide) ?_
      refine lv_istore (lv' := [(6, .int 0), (5, .int u8.1), (0, .ref (b + v0)), (1, .int v1), (2, .ref (b + v2)), (3, .int v3), (4, .int v4)]) hx hb dX10_noteHolders_44 hl (by decide) rfl (fun ls hl => ?_)
      exact w_X10_noteHolders_46 E hr hlk ih _ _ _ _ _ _ _ _ _ _ _ _ hm hv0 hv2 hw (lv_sub hl [2, 3, 4, 5, 6, 1, 0] rfl)
def k_X10_noteHolders_7 : Nat → Nat → Int32 → Nat → Int32 → ST → Option (ST)
  | 0, _, _, _, _, _ => none
  | n + 1, v0, v1, v2, v3, σ => if (gI σ (LC.2.1 v0 0) 6) ≤ v3 then (some σ) else (k_X10_noteHolders_21 (k_X10_noteHolders_7 n) FU v0 v1 v2 v3 0 σ)
set_option maxRecDepth 20000 in
set_option maxHeartbeats 1000000 in
theorem w_X10_noteHolders_7 {p : Program} {l : Launch} {e : Env} {s : State} {m : MethodId} {args : Array Value} {below : List Frame} {meth : Method} {c : Code} {D : va_G} {cy : Nat → ClassId} {b : Nat} (E : CX p m c cX10_noteHolders 7 s args RX10 D cy LC) (hr : meth.sig.returnType = none) (hlk : meth.locks = false) {r : ST} : ∀ (n : Nat) (v0 : Nat) (v1 : Int32) (v2 : Nat) (v3 : Int32) (σ : ST) (H : Heap) (locs : List Loc) (ls : Array Slot), k_X10_noteHolders_7 n v0 v1 v2 v3 σ = some r → LC.1 v0 = 10 → LC.1 v2 = 13 → PH D cy LC b σ s H locs → lv_has ls 7 [(0, .ref (b + v0)), (1, .int v1), (2, .ref (b + v2)), (3, .int v3)] → W p l e (rmD 2) s m args below meth c H locs 0 0 (MQ below (QcP D cy LC b none r) args s 0 0 (inP LC b)) (F0 m 7 ls []) := by
  have hx := E.1.1
  have hb := E.1.2.1
  intro n
  induction n with
  | zero =>
    intro v0 v1 v2 v3 σ H locs ls hm
    cases hm
  | succ n ih =>
    intro v0 v1 v2 v3 σ H locs ls hm hv0 hv2 hw hl
    rw [k_X10_noteHolders_7] at hm
    refine lv_iload_n hx hb dX10_noteHolders_7 rfl (lv_at hl 3 rfl) ?_
    refine lv_aload_n hx hb dX10_noteHolders_8 rfl (lv_at hl 0 rfl) ?_
    refine q_geta E hw fw_X10_12 rfl hv0 dX10_noteHolders_9 ?_
    refine q_geti E hw fw_X10_131 rfl (tC_10_0 hv0) dX10_noteHolders_12 ?_
    refine lv_icmp_ge (tgt := 116) hx hb dX10_noteHolders_15 (by decide) (fun c9 => ?_) (fun c9 => ?_)
    · have hm := o_t c9 hm
      exact q_vret E hr hlk hw hm dX10_noteHolders_116
    · have hm := o_f c9 hm
      refine lv_iconst (v := 0) hx hb dX10_noteHolders_18 (by decide) ?_
      refine lv_istore (lv' := [(4, .int 0), (0, .ref (b + v0)), (1, .int v1), (2, .ref (b + v2)), (3, .int v3)]) hx hb dX10_noteHolders_19 hl (by decide) rfl (fun ls hl => ?_)
      exact w_X10_noteHolders_21 E hr hlk ih _ _ _ _ _ _ _ _ _ _ hm hv0 hv2 hw (lv_sub hl [1, 2, 3, 4, 0] rfl)
def f_X10_noteHolders (v0 : Nat) (v1 : Int32) (v2 : Nat) (σ : ST) : Option (ST) :=
  (f_J7_fill_53178 v2 0 σ).bind fun u10 =>
  k_X10_noteHolders_7 FU v0 v1 v2 0 u10
set_option maxRecDepth 20000 in
set_option maxHeartbeats 1000000 in
theorem w_X10_noteHolders_0 {p : Program} {l : Launch} {e : Env} {s : State} {m : MethodId} {args : Array Value} {below : List Frame} {meth : Method} {c : Code} {D : va_G} {cy : Nat → ClassId} {b : Nat} (E : CX p m c cX10_noteHolders 7 s args RX10 D cy LC) (hr : meth.sig.returnType = none) (hlk : meth.locks = false) {r : ST} {v0 : Nat} {v1 : Int32} {v2 : Nat} {σ : ST} {H : Heap} {locs : List Loc} {ls : Array Slot} (hm : f_X10_noteHolders v0 v1 v2 σ = some r) (hv0 : LC.1 v0 = 10) (hv2 : LC.1 v2 = 13) (hw : PH D cy LC b σ s H locs) (hl : lv_has ls 7 [(0, .ref (b + v0)), (1, .int v1), (2, .ref (b + v2))]) : W p l e (rmD 2) s m args below meth c H locs 0 0 (MQ below (QcP D cy LC b none r) args s 0 0 (inP LC b)) (F0 m 0 ls []) := by
  have hx := E.1.1
  have hb := E.1.2.1
  unfold f_X10_noteHolders at hm
  refine lv_aload_n hx hb dX10_noteHolders_0 rfl (lv_at hl 2 rfl) ?_
  refine lv_iconst (v := 0) hx hb dX10_noteHolders_1 (by decide) ?_
  refine q_cSv [] E hw hm ms_X10_86 (fun u hu => c_J7_fill_53178 hu hv2) rfl rfl hl.1 (Nat.le_of_ble_eq_true rfl) ⟨Nat.le_of_ble_eq_true rfl, Nat.le_of_ble_eq_true rfl⟩ dX10_noteHolders_2 (fun u10 H locs hm hw => ?_)
  refine lv_iconst (v := 0) hx hb dX10_noteHolders_5 (by decide) ?_
  refine lv_istore_n (lv' := [(3, .int 0), (0, .ref (b + v0)), (1, .int v1), (2, .ref (b + v2))]) hx hb dX10_noteHolders_6 rfl hl (by decide) rfl (fun ls hl => ?_)
  exact w_X10_noteHolders_7 E hr hlk _ _ _ _ _ _ _ _ _ hm hv0 hv2 hw (lv_sub hl [1, 2, 3, 0] rfl)
theorem c_X10_noteHolders {l : Launch} {D : va_G} {cy : Nat → ClassId} {b : Nat} {v0 : Nat} {v1 : Int32} {v2 : Nat} {σ : ST} {r : ST} (hm : f_X10_noteHolders v0 v1 v2 σ = some r) (hv0 : LC.1 v0 = 10) (hv2 : LC.1 v2 = 13) : Met l yX10_noteHolders (wU yX10_noteHolders cX10_noteHolders 7 (none)) (rmD 2) (PcP D cy LC b [.ref (b + v0), .int v1, .ref (b + v2)] σ) (QcP D cy LC b none r) 0 0 (inP LC b) :=
  q_met (lv := [(0, .ref (b + v0)), (1, .int v1), (2, .ref (b + v2))]) LC_ok (by decide) (Nat.le_of_ble_eq_true rfl) rfl (fun _ _ _ _ _ _ _ _ _ E hr hlk hw hl => w_X10_noteHolders_0 E hr hlk hm hv0 hv2 hw hl)
