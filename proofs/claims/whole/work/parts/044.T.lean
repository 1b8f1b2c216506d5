def f_X3_newLine (v0 : Nat) (v1 : Int32) (σ : ST) : Option (Int32 × ST) :=
  (stA LC σ (LC.2.1 (LC.2.1 v0 0) 0) (gI σ (LC.2.1 v0 0) 7) v1).bind fun σ1 =>
  (stA LC σ1 (LC.2.1 (LC.2.1 v0 0) 5) (gI σ (LC.2.1 v0 0) 7) (gI σ (LC.2.1 v0 0) 7)).bind fun σ2 =>
  (stI σ2 (LC.2.1 v0 0) 7 ((gI σ2 (LC.2.1 v0 0) 7) + 1)).bind fun σ3 =>
  some (gI σ (LC.2.1 v0 0) 7, σ3)
set_option maxRecDepth 20000 in
set_option maxHeartbeats 1000000 in
theorem w_X3_newLine_0 {p : Program} {l : Launch} {e : Env} {s : State} {m : MethodId} {args : Array Value} {below : List Frame} {meth : Method} {c : Code} {D : va_G} {cy : Nat → ClassId} {b : Nat} (E : CX p m c cX3_newLine 3 s args RX3 D cy LC) (hr : meth.sig.returnType = some .int) (hlk : meth.locks = false) {r : Int32 × ST} {v0 : Nat} {v1 : Int32} {σ : ST} {H : Heap} {locs : List Loc} {ls : Array Slot} (hm : f_X3_newLine v0 v1 σ = some r) (hv0 : LC.1 v0 = 3) (hw : PH D cy LC b σ s H locs) (hl : lv_has ls 3 [(0, .ref (b + v0)), (1, .int v1)]) : W p l e (rmD 0) s m args below meth c H locs 0 0 (MQ below (QcP D cy LC b (some (.int r.1)) r.2) args s 0 0 (inP LC b)) (F0 m 0 ls []) := by
  have hx := E.1.1
  have hb := E.1.2.1
  unfold f_X3_newLine at hm
  refine lv_aload_n hx hb dX3_newLine_0 rfl (lv_at hl 0 rfl) ?_
  refine q_geta E hw fw_X3_12 rfl hv0 dX3_newLine_1 ?_
  refine q_geti E hw fw_X3_99 rfl (tC_3_0 hv0) dX3_newLine_4 ?_
  refine lv_istore_n (lv' := [(2, .int (gI σ (LC.2.1 v0 0) 7)), (0, .ref (b + v0)), (1, .int v1)]) hx hb dX3_newLine_7 rfl hl (by decide) rfl (fun ls hl => ?_)
  refine lv_aload_n hx hb dX3_newLine_8 rfl (lv_at hl 1 rfl) ?_
  refine q_geta E hw fw_X3_12 rfl hv0 dX3_newLine_9 ?_
  refine q_geta E hw fw_X3_88 rfl (tC_3_0 hv0) dX3_newLine_12 ?_
  refine lv_iload_n hx hb dX3_newLine_15 rfl (lv_at hl 0 rfl) ?_
  refine lv_iload_n hx hb dX3_newLine_16 rfl (lv_at hl 2 rfl) ?_
  refine q_iast E hw (tC_2_0 (tC_3_0 hv0)) hm dX3_newLine_17 (fun σ1 H locs hm hw => ?_)
  refine lv_aload_n hx hb dX3_newLine_18 rfl (lv_at hl 1 rfl) ?_
  refine q_geta E hw fw_X3_12 rfl hv0 dX3_newLine_19 ?_
  refine q_geta E hw fw_X3_67 rfl (tC_3_0 hv0) dX3_newLine_22 ?_
  refine lv_iload_n hx hb dX3_newLine_25 rfl (lv_at hl 0 rfl) ?_
  refine lv_iload_n hx hb dX3_newLine_26 rfl (lv_at hl 0 rfl) ?_
  refine q_iast E hw (tC_2_5 (tC_3_0 hv0)) hm dX3_newLine_27 (fun σ2 H locs hm hw => ?_)
  refine lv_aload_n hx hb dX3_newLine_28 rfl (lv_at hl 1 rfl) ?_
  refine q_geta E hw fw_X3_12 rfl hv0 dX3_newLine_29 ?_
  refine lv_dup hx hb dX3_newLine_32 rfl ?_
  refine q_geti E hw fw_X3_99 rfl (tC_3_0 hv0) dX3_newLine_33 ?_
  refine lv_iconst (v := 1) hx hb dX3_newLine_36 (by decide) ?_
  refine lv_iadd hx hb dX3_newLine_37 ?_
  refine q_pi E hw hm fw_X3_99 rfl rfl (tC_3_0 hv0) dX3_newLine_38 (fun σ3 H locs hm hw => ?_)
  refine lv_iload_n hx hb dX3_newLine_41 rfl (lv_at hl 0 rfl) ?_
  exact q_iret E hr hlk hw hm dX3_newLine_42
theorem c_X3_newLine {l : Launch} {D : va_G} {cy : Nat → ClassId} {b : Nat} {v0 : Nat} {v1 : Int32} {σ : ST} {r : Int32 × ST} (hm : f_X3_newLine v0 v1 σ = some r) (hv0 : LC.1 v0 = 3) : Met l yX3_newLine (wU yX3_newLine cX3_newLine 3 (some .int)) (rmD 0) (PcP D cy LC b [.ref (b + v0), .int v1] σ) (QcP D cy LC b (some (.int r.1)) r.2) 0 0 (inP LC b) :=
  q_met (lv := [(0, .ref (b + v0)), (1, .int v1)]) LC_ok (by decide) (Nat.le_of_ble_eq_true rfl) rfl (fun _ _ _ _ _ _ _ _ _ E hr hlk hw hl => w_X3_newLine_0 E hr hlk hm hv0 hw hl)

def f_X3_takesEnd (v0 : Nat) (σ : ST) : Option (Int32 × ST) :=
  if 0 < (gI σ v0 4) then ((stI σ v0 4 ((gI σ v0 4) - 1)).bind fun σ2 =>
  (f_X3_newLine v0 24 σ2).bind fun u3 =>
  (ldA LC u3.2 (LC.2.1 v0 3) (gI u3.2 v0 4)).bind fun a4 =>
  (stA LC u3.2 (LC.2.1 (LC.2.1 v0 0) 5) u3.1 a4).bind fun σ5 =>
  (ldA LC σ5 (LC.2.1 v0 3) (gI σ5 v0 4)).bind fun a6 =>
  (stA LC σ5 (LC.2.1 (LC.2.1 v0 0) 5) a6 u3.1).bind fun σ7 =>
  (f_X6_step (LC.2.1 v0 1) σ7).bind fun u8 =>
  (f_X6_isSign (LC.2.1 v0 1) 59 u8).bind fun u9 =>
  (ckZ u9.1).bind fun z => some (z, u9.2)) else ((f_X6_blame (LC.2.1 v0 1) 2 σ).bind fun u10 =>
  (ckZ u10.1).bind fun z => some (z, u10.2))
set_option maxRecDepth 20000 in
set_option maxHeartbeats 1000000 in
theorem w_X3_takesEnd_0 {p : Program} {l : Launch} {e : Env} {s : State} {m : MethodId} {args : Array Value} {below : List Frame} {meth : Method} {c : Code} {D : va_G} {cy : Nat → ClassId} {b : Nat} (E : CX p m c cX3_takesEnd 2 s args RX3 D cy LC) (hr : meth.sig.returnType = some .boolean) (hlk : meth.locks = false) {r : Int32 × ST} {v0 : Nat} {σ : ST} {H : Heap} {locs : List Loc} {ls : Array Slot} (hm : f_X3_takesEnd v0 σ = some r) (hv0 : LC.1 v0 = 3) (hw : PH D cy LC b σ s H locs) (hl : lv_has ls 2 [(0, .ref (b + v0))]) : W p l e (rmD 7) s m args below meth c H locs 0 0 (MQ below (QcP D cy LC b (some (.int r.1)) r.2) args s 0 0 (inP LC b)) (F0 m 0 ls []) := by
  have hx := E.1.1
  have hb := E.1.2.1
  unfold f_X3_takesEnd at hm
  refine lv_aload_n hx hb dX3_takesEnd_0 rfl (lv_at hl 0 rfl) ?_
  refine q_geti E hw fw_X3_22 rfl hv0 dX3_takesEnd_1 ?_
  refine lv_if_gt (tgt := 16) hx hb dX3_takesEnd_4 (by decide) (fun c1 => ?_) (fun c1 => ?_)
  · have hm := o_t c1 hm
    refine lv_aload_n hx hb dX3_takesEnd_16 rfl (lv_at hl 0 rfl) ?_
    refine lv_dup hx hb dX3_takesEnd_17 rfl ?_
    refine q_geti E hw fw_X3_22 rfl hv0 dX3_takesEnd_18 ?_
    refine lv_iconst (v := 1) hx hb dX3_takesEnd_21 (by decide) ?_
    refine lv_isub hx hb dX3_takesEnd_22 ?_
    refine q_pi E hw hm fw_X3_22 rfl rfl hv0 dX3_takesEnd_23 (fun σ2 H locs hm hw => ?_)
    refine lv_aload_n hx hb dX3_takesEnd_26 rfl (lv_at hl 0 rfl) ?_
    refine lv_bipush (v := 24) hx hb dX3_takesEnd_27 (by decide) ?_
    refine q_cVi (κ := 3) (C := RX3) (T := TX3) (N := 5) [] E hw hm mw_X3_63 (fun u hu => c_X3_newLine hu hv0) rfl (by decide) hv0 rfl rfl hl.1 (Nat.le_of_ble_eq_true rfl) ⟨Nat.le_of_ble_eq_true rfl, Nat.le_of_ble_eq_true rfl⟩ dX3_takesEnd_29 (fun u3 H locs hm hw => ?_)
    refine lv_istore_n (lv' := [(1, .int u3.1), (0, .ref (b + v0))]) hx hb dX3_takesEnd_32 rfl hl (by decide) rfl (fun ls hl => ?_)
    refine lv_aload_n hx hb dX3_takesEnd_33 rfl (lv_at hl 1 rfl) ?_
    refine q_geta E hw fw_X3_12 rfl hv0 dX3_takesEnd_34 ?_
    refine q_geta E hw fw_X3_67 rfl (tC_3_0 hv0) dX3_takesEnd_37 ?_
    refine lv_iload_n hx hb dX3_takesEnd_40 rfl (lv_at hl 0 rfl) ?_
    refine lv_aload_n hx hb dX3_takesEnd_41 rfl (lv_at hl 1 rfl) ?_
    refine q_geta E hw fw_X3_18 rfl hv0 dX3_takesEnd_42 ?_
    refine lv_aload_n hx hb dX3_takesEnd_45 rfl (lv_at hl 1 rfl) ?_
    refine q_geti E hw fw_X3_22 rfl hv0 dX3_takesEnd_46 ?_
    refine q_iald E hw (tC_3_3 hv0) hm dX3_takesEnd_49 (fun a4 hm => ?_)
    refine q_iast E hw (tC_2_5 (tC_3_0 hv0)) hm dX3_takesEnd_50 (fun σ5 H locs hm hw => ?_)
    refine lv_aload_n hx hb dX3_takesEnd_51 rfl (lv_at hl 1 rfl) ?_
    refine q_geta E hw fw_X3_12 rfl hv0 dX3_takesEnd_52 ?_
    refine q_geta E hw fw_X3_67 rfl (tC_3_0 hv0) dX3_takesEnd_55 ?_
    refine lv_aload_n hx hb dX3_takesEnd_58 rfl (lv_at hl 1 rfl) ?_
    refine q_geta E hw fw_X3_18 rfl hv0 dX3_takesEnd_59 ?_
    refine lv_aload_n hx hb dX3_takesEnd_62 rfl (lv_at hl 1 rfl) ?_
    refine q_geti E hw fw_X3_22 rfl hv0 dX3_takesEnd_63 ?_
    refine q_iald E hw (tC_3_3 hv0) hm dX3_takesEnd_66 (fun a6 hm => ?_)
    refine lv_iload_n hx hb dX3_takesEnd_67 rfl (lv_at hl 0 rfl) ?_
    refine q_iast E hw (tC_2_5 (tC_3_0 hv0)) hm dX3_takesEnd_68 (fun σ7 H locs hm hw => ?_)
    refine lv_aload_n hx hb dX3_takesEnd_69 rfl (lv_at hl 1 rfl) ?_
    refine q_geta E hw fw_X3_26 rfl hv0 dX3_takesEnd_70 ?_
    refine q_cVv (κ := 6) (C := RX6) (T := TX6) (N := 12) [] E hw hm mw_X3_37 (fun u hu => c_X6_step hu (tC_3_1 hv0)) rfl (by decide) (tC_3_1 hv0) rfl rfl hl.1 (Nat.le_of_ble_eq_true rfl) ⟨Nat.le_of_ble_eq_true rfl, Nat.le_of_ble_eq_true rfl⟩ dX3_takesEnd_73 (fun u8 H locs hm hw => ?_)
    refine lv_aload_n hx hb dX3_takesEnd_76 rfl (lv_at hl 1 rfl) ?_
    refine q_geta E hw fw_X3_26 rfl hv0 dX3_takesEnd_77 ?_
    refine lv_bipush (v := 59) hx hb dX3_takesEnd_80 (by decide) ?_
    refine q_cVi (κ := 6) (C := RX6) (T := TX6) (N := 12) [] E hw hm mw_X3_70 (fun u hu => c_X6_isSign hu (tC_3_1 hv0)) rfl (by decide) (tC_3_1 hv0) rfl rfl hl.1 (Nat.le_of_ble_eq_true rfl) ⟨Nat.le_of_ble_eq_true rfl, Nat.le_of_ble_eq_true rfl⟩ dX3_takesEnd_82 (fun u9 H locs hm hw => ?_)
    exact q_zret E hr hlk hw hm dX3_takesEnd_85
  · have hm := o_f c1 hm
    refine lv_aload_n hx hb dX3_takesEnd_7 rfl (lv_at hl 0 rfl) ?_
    refine q_geta E hw fw_X3_26 rfl hv0 dX3_takesEnd_8 ?_
    refine lv_iconst (v := 2) hx hb dX3_takesEnd_11 (by decide) ?_
    refine q_cVi (κ := 6) (C := RX6) (T := TX6) (N := 12) [] E hw hm mw_X3_49 (fun u hu => c_X6_blame hu (tC_3_1 hv0)) rfl (by decide) (tC_3_1 hv0) rfl rfl hl.1 (Nat.le_of_ble_eq_true rfl) ⟨Nat.le_of_ble_eq_true rfl, Nat.le_of_ble_eq_true rfl⟩ dX3_takesEnd_12 (fun u10 H locs hm hw => ?_)
    exact q_zret E hr hlk hw hm dX3_takesEnd_15
theorem c_X3_takesEnd {l : Launch} {D : va_G} {cy : Nat → ClassId} {b : Nat} {v0 : Nat} {σ : ST} {r : Int32 × ST} (hm : f_X3_takesEnd v0 σ = some r) (hv0 : LC.1 v0 = 3) : Met l yX3_takesEnd (wU yX3_takesEnd cX3_takesEnd 2 (some .boolean)) (rmD 7) (PcP D cy LC b [.ref (b + v0)] σ) (QcP D cy LC b (some (.int r.1)) r.2) 0 0 (inP LC b) :=
  q_met (lv := [(0, .ref (b + v0))]) LC_ok (by decide) (Nat.le_of_ble_eq_true rfl) rfl (fun _ _ _ _ _ _ _ _ _ E hr hlk hw hl => w_X3_takesEnd_0 E hr hlk hm hv0 hw hl)

def k_X3_holdsOthers_17 (s0 : Int32) (σ : ST) : Option (Int32 × ST) :=
  (ckZ s0).bind fun z => some (z, σ)
set_option maxRecDepth 20000 in
set_option maxHeartbeats 1000000 in
theorem w_X3_holdsOthers_17 {p : Program} {l : Launch} {e : Env} {s : State} {m : MethodId} {args : Array Value} {below : List Frame} {meth : Method} {c : Code} {D : va_G} {cy : Nat → ClassId} {b : Nat} (E : CX p m c cX3_holdsOthers 1 s args RX3 D cy LC) (hr : meth.sig.returnType = some .boolean) (hlk : meth.locks = false) {r : Int32 × ST} {s0 : Int32} {σ : ST} {H : Heap} {locs : List Loc} {ls : Array Slot} (hm : k_X3_holdsOthers_17 s0 σ = some r) (hw : PH D cy LC b σ s H locs) (hl : lv_has ls 1 []) : W p l e (rmD 0) s m args below meth c H locs 0 0 (MQ below (QcP D cy LC b (some (.int r.1)) r.2) args s 0 0 (inP LC b)) (F0 m 17 ls [.int s0]) := by
  have hx := E.1.1
  have hb := E.1.2.1
  unfold k_X3_holdsOthers_17 at hm
  exact q_zret E hr hlk hw hm dX3_holdsOthers_17
def k_X3_holdsOthers_12 (σ : ST) : Option (Int32 × ST) :=
  k_X3_holdsOthers_17 1 σ
set_option maxRecDepth 20000 in
set_option maxHeartbeats 1000000 in
theorem w_X3_holdsOthers_12 {p : Program} {l : Launch} {e : Env} {s : State} {m : MethodId} {args : Array Value} {below : List Frame} {meth : Method} {c : Code} {D : va_G} {cy : Nat → ClassId} {b : Nat} (E : CX p m c cX3_holdsOthers 1 s args RX3 D cy LC) (hr : meth.sig.returnType = some .boolean) (hlk : meth.locks = false) {r : Int32 × ST} {σ : ST} {H : Heap} {locs : List Loc} {ls : Array Slot} (hm : k_X3_holdsOthers_12  σ = some r) (hw : PH D cy LC b σ s H locs) (hl : lv_has ls 1 []) : W p l e (rmD 0) s m args below meth c H locs 0 0 (MQ below (QcP D cy LC b (some (.int r.1)) r.2) args s 0 0 (inP LC b)) (F0 m 12 ls []) := by
  have hx := E.1.1
  have hb := E.1.2.1
  unfold k_X3_holdsOthers_12 at hm
  refine lv_iconst (v := 1) hx hb dX3_holdsOthers_12 (by decide) ?_
  refine lv_goto (tgt := 17) hx hb dX3_holdsOthers_13 (by decide) ?_
  exact w_X3_holdsOthers_17 E hr hlk hm  hw (lv_sub hl [] rfl)
def f_X3_holdsOthers (v0 : Int32) (σ : ST) : Option (Int32 × ST) :=
  if v0 = 19 then (k_X3_holdsOthers_12 σ) else (if v0 = 23 then (k_X3_holdsOthers_12 σ) else (k_X3_holdsOthers_17 0 σ))
set_option maxRecDepth 20000 in
set_option maxHeartbeats 1000000 in
theorem w_X3_holdsOthers_0 {p : Program} {l : Launch} {e : Env} {s : State} {m : MethodId} {args : Array Value} {below : List Frame} {meth : Method} {c : Code} {D : va_G} {cy : Nat → ClassId} {b : Nat} (E : CX p m c cX3_holdsOthers 1 s args RX3 D cy LC) (hr : meth.sig.returnType = some .boolean) (hlk : meth.locks = false) {r : Int32 × ST} {v0 : Int32} {σ : ST} {H : Heap} {locs : List Loc} {ls : Array Slot} (hm : f_X3_holdsOthers v0 σ = some r) (hw : PH D cy LC b σ s H locs) (hl : lv_has ls 1 [(0, .int v0)]) : W p l e (rmD 0) s m args below meth c H locs 0 0 (MQ below (QcP D cy LC b (some (.int r.1)) r.2) args s 0 0 (inP LC b)) (F0 m 0 ls []) := by
  have hx := E.1.1
  have hb := E.1.2.1
  unfold f_X3_holdsOthers at hm
  refine lv_iload_n hx hb dX3_holdsOthers_0 rfl (lv_at hl 0 rfl) ?_
  refine lv_bipush (v := 19) hx hb dX3_holdsOthers_1 (by decide) ?_
  refine lv_icmp_eq (tgt := 12) hx hb dX3_holdsOthers_3 (by decide) (fun c1 => ?_) (fun c1 => ?_)
  · have hm := o_t c1 hm
    exact w_X3_holdsOthers_12 E hr hlk hm  hw (lv_sub hl [] rfl)
  · have hm := o_f c1 hm
    refine lv_iload_n hx hb dX3_holdsOthers_6 rfl (lv_at hl 0 rfl) ?_
    refine lv_bipush (v := 23) hx hb dX3_holdsOthers_7 (by decide) ?_
    refine lv_icmp_ne (tgt := 16) hx hb dX3_holdsOthers_9 (by decide) (fun c2 => ?_) (fun c2 => ?_)
    · have hm := o_f c2 hm
      refine lv_iconst (v := 0) hx hb dX3_holdsOthers_16 (by decide) ?_
      exact w_X3_holdsOthers_17 E hr hlk hm  hw (lv_sub hl [] rfl)
    · have hm := o_t c2 hm
      exact w_X3_holdsOthers_12 E hr hlk hm  hw (lv_sub hl [] rfl)
theorem c_X3_holdsOthers {l : Launch} {D : va_G} {cy : Nat → ClassId} {b : Nat} {v0 : Int32} {σ : ST} {r : Int32 × ST} (hm : f_X3_holdsOthers v0 σ = some r) : Met l yX3_holdsOthers (wU yX3_holdsOthers cX3_holdsOthers 1 (some .boolean)) (rmD 0) (PcP D cy LC b [.int v0] σ) (QcP D cy LC b (some (.int r.1)) r.2) 0 0 (inP LC b) :=
  q_met (lv := [(0, .int v0)]) LC_ok (by decide) (Nat.le_of_ble_eq_true rfl) rfl (fun _ _ _ _ _ _ _ _ _ E hr hlk hw hl => w_X3_holdsOthers_0 E hr hlk hm hw hl)

def k_X3_isTest_23 (s0 : Int32) (σ : ST) : Option (Int32 × ST) :=
  (ckZ s0).bind fun z => some (z, σ)
set_option maxRecDepth 20000 in
set_option maxHeartbeats 1000000 in
theorem w_X3_isTest_23 {p : Program} {l : Launch} {e : Env} {s : State} {m : MethodId} {args : Array Value} {below : List Frame} {meth : Method} {c : Code} {D : va_G} {cy : Nat → ClassId} {b : Nat} (E : CX p m c cX3_isTest 1 s args RX3 D cy LC) (hr : meth.sig.returnType = some .boolean) (hlk : meth.locks = false) {r : Int32 × ST} {s0 : Int32} {σ : ST} {H : Heap} {locs : List Loc} {ls : Array Slot} (hm : k_X3_isTest_23 s0 σ = some r) (hw : PH D cy LC b σ s H locs) (hl : lv_has ls 1 []) : W p l e (rmD 0) s m args below meth c H locs 0 0 (MQ below (QcP D cy LC b (some (.int r.1)) r.2) args s 0 0 (inP LC b)) (F0 m 23 ls [.int s0]) := by
  have hx := E.1.1
  have hb := E.1.2.1
  unfold k_X3_isTest_23 at hm
  exact q_zret E hr hlk hw hm dX3_isTest_23
def k_X3_isTest_18 (σ : ST) : Option (Int32 × ST) :=
  k_X3_isTest_23 1 σ
set_option maxRecDepth 20000 in
set_option maxHeartbeats 1000000 in
theorem w_X3_isTest_18 {p : Program} {l : Launch} {e : Env} {s : State} {m : MethodId} {args : Array Value} {below : List Frame} {meth : Method} {c : Code} {D : va_G} {cy : Nat → ClassId} {b : Nat} (E : CX p m c cX3_isTest 1 s args RX3 D cy LC) (hr : meth.sig.returnType = some .boolean) (hlk : meth.locks = false) {r : Int32 × ST} {σ : ST} {H : Heap} {locs : List Loc} {ls : Array Slot} (hm : k_X3_isTest_18  σ = some r) (hw : PH D cy LC b σ s H locs) (hl : lv_has ls 1 []) : W p l e (rmD 0) s m args below meth c H locs 0 0 (MQ below (QcP D cy LC b (some (.int r.1)) r.2) args s 0 0 (inP LC b)) (F0 m 18 ls []) := by
  have hx := E.1.1
  have hb := E.1.2.1
  unfold k_X3_isTest_18 at hm
  refine lv_iconst (v := 1) hx hb dX3_isTest_18 (by decide) ?_
  refine lv_goto (tgt := 23) hx hb dX3_isTest_19 (by decide) ?_
  exact w_X3_isTest_23 E hr hlk hm  hw (lv_sub hl [] rfl)
def f_X3_isTest (v0 : Int32) (σ : ST) : Option (Int32 × ST) :=
  if v0 = 20 then (k_X3_isTest_18 σ) else (if v0 = 21 then (k_X3_isTest_18 σ) else (if v0 = 22 then (k_X3_isTest_18 σ) else (k_X3_isTest_23 0 σ)))
set_option maxRecDepth 20000 in
set_option maxHeartbeats 1000000 in
theorem w_X3_isTest_0 {p : Program} {l : Launch} {e : Env} {s : State} {m : MethodId} {args : Array Value} {below : List Frame} {meth : Method} {c : Code} {D : va_G} {cy : Nat → ClassId} {b : Nat} (E : CX p m c cX3_isTest 1 s args RX3 D cy LC) (hr : meth.sig.returnType = some .boolean) (hlk : meth.locks = false) {r : Int32 × ST} {v0 : Int32} {σ : ST} {H : Heap} {locs : List Loc} {ls : Array Slot} (hm : f_X3_isTest v0 σ = some r) (hw : PH D cy LC b σ s H locs) (hl : lv_has ls 1 [(0, .int v0)]) : W p l e (rmD 0) s m args below meth c H locs 0 0 (MQ below (QcP D cy LC b (some (.int r.1)) r.2) args s 0 0 (inP LC b)) (F0 m 0 ls []) := by
  have hx := E.1.1
  have hb := E.1.2.1
  unfold f_X3_isTest at hm
  refine lv_iload_n hx hb dX3_isTest_0 rfl (lv_at hl 0 rfl) ?_
  refine lv_bipush (v := 20) hx hb dX3_isTest_1 (by decide) ?_
  refine lv_icmp_eq (tgt := 18) hx hb dX3_isTest_3 (by decide) (fun c1 => ?_) (fun c1 => ?_)
  · have hm := o_t c1 hm
    exact w_X3_isTest_18 E hr hlk hm  hw (lv_sub hl [] rfl)
  · have hm := o_f c1 hm
    refine lv_iload_n hx hb dX3_isTest_6 rfl (lv_at hl 0 rfl) ?_
    refine lv_bipush (v := 21) hx hb dX3_isTest_7 (by decide) ?_
    refine lv_icmp_eq (tgt := 18) hx hb dX3_isTest_9 (by decide) (fun c2 => ?_) (fun c2 => ?_)
    · have hm := o_t c2 hm
      exact w_X3_isTest_18 E hr hlk hm  hw (lv_sub hl [] rfl)
    · have hm := o_f c2 hm
      refine lv_iload_n hx hb dX3_isTest_12 rfl (lv_at hl 0 rfl) ?_
      refine lv_bipush (v := 22) hx hb dX3_isTest_13 (by decide) ?_
      refine lv_icmp_ne (tgt := 22) hx hb dX3_isTest_15 (by decide) (fun c3 => ?_) (fun c3 => ?_)
      · have hm := o_f c3 hm
        refine lv_iconst (v := 0) hx hb dX3_isTest_22 (by decide) ?_
        exact w_X3_isTest_23 E hr hlk hm  hw (lv_sub hl [] rfl)
      · have hm := o_t c3 hm
        exact w_X3_isTest_18 E hr hlk hm  hw (lv_sub hl [] rfl)
theorem c_X3_isTest {l : Launch} {D : va_G} {cy : Nat → ClassId} {b : Nat} {v0 : Int32} {σ : ST} {r : Int32 × ST} (hm : f_X3_isTest v0 σ = some r) : Met l yX3_isTest (wU yX3_isTest cX3_isTest 1 (some .boolean)) (rmD 0) (PcP D cy LC b [.int v0] σ) (QcP D cy LC b (some (.int r.1)) r.2) 0 0 (inP LC b) :=
  q_met (lv := [(0, .int v0)]) LC_ok (by decide) (Nat.le_of_ble_eq_true rfl) rfl (fun _ _ _ _ _ _ _ _ _ E hr hlk hw hl => w_X3_isTest_0 E hr hlk hm hw hl)

def k_X3_itemsOf_111 (σ : ST) : Option (Nat × ST) :=
  some (9, σ)
set_option maxRecDepth 20000 in
set_option maxHeartbeats 1000000 in
theorem w_X3_itemsOf_111 {p : Program} {l : Launch} {e : Env} {s : State} {m : MethodId} {args : Array Value} {below : List Frame} {meth : Method} {c : Code} {D : va_G} {cy : Nat → ClassId} {b : Nat} (E : CX p m c cX3_itemsOf 1 s args RX3 D cy LC) (hr : meth.sig.returnType = some (.object "java/lang/String")) (hlk : meth.locks = false) {r : Nat × ST} {σ : ST} {H : Heap} {locs : List Loc} {ls : Array Slot} (hm : k_X3_itemsOf_111  σ = some r) (hw : PH D cy LC b σ s H locs) (hl : lv_has ls 1 []) : W p l e (rmD 0) s m args below meth c H locs 0 0 (MQ below (QcP D cy LC b (some (.ref (cy (100 + r.1)))) r.2) args s 0 0 (inP LC b)) (F0 m 111 ls []) := by
  have hx := E.1.1
  have hb := E.1.2.1
  unfold k_X3_itemsOf_111 at hm
  refine q_ldcS (tx := ";") (i := 9) E hw (List.mem_of_getElem? (i := 9) rfl) dX3_itemsOf_111 ?_
  exact q_sret E hr hlk hw hm dX3_itemsOf_113
def k_X3_itemsOf_102 (σ : ST) : Option (Nat × ST) :=
  some (6, σ)
set_option maxRecDepth 20000 in
set_option maxHeartbeats 1000000 in
theorem w_X3_itemsOf_102 {p : Program} {l : Launch} {e : Env} {s : State} {m : MethodId} {args : Array Value} {below : List Frame} {meth : Method} {c : Code} {D : va_G} {cy : Nat → ClassId} {b : Nat} (E : CX p m c cX3_itemsOf 1 s args RX3 D cy LC) (hr : meth.sig.returnType = some (.object "java/lang/String")) (hlk : meth.locks = false) {r : Nat × ST} {σ : ST} {H : Heap} {locs : List Loc} {ls : Array Slot} (hm : k_X3_itemsOf_102  σ = some r) (hw : PH D cy LC b σ s H locs) (hl : lv_has ls 1 []) : W p l e (rmD 0) s m args below meth c H locs 0 0 (MQ below (QcP D cy LC b (some (.ref (cy (100 + r.1)))) r.2) args s 0 0 (inP LC b)) (F0 m 102 ls []) := by
  have hx := E.1.1
  have hb := E.1.2.1
  unfold k_X3_itemsOf_102 at hm
  refine q_ldcS (tx := "n;") (i := 6) E hw (List.mem_of_getElem? (i := 6) rfl) dX3_itemsOf_102 ?_
  exact q_sret E hr hlk hw hm dX3_itemsOf_104
def k_X3_itemsOf_96 (σ : ST) : Option (Nat × ST) :=
  some (4, σ)
set_option maxRecDepth 20000 in
set_option maxHeartbeats 1000000 in
theorem w_X3_itemsOf_96 {p : Program} {l : Launch} {e : Env} {s : State} {m : MethodId} {args : Array Value} {below : List Frame} {meth : Method} {c : Code} {D : va_G} {cy : Nat → ClassId} {b : Nat} (E : CX p m c cX3_itemsOf 1 s args RX3 D cy LC) (hr : meth.sig.returnType = some (.object "java/lang/String")) (hlk : meth.locks = false) {r : Nat × ST} {σ : ST} {H : Heap} {locs : List Loc} {ls : Array Slot} (hm : k_X3_itemsOf_96  σ = some r) (hw : PH D cy LC b σ s H locs) (hl : lv_has ls 1 []) : W p l e (rmD 0) s m args below meth c H locs 0 0 (MQ below (QcP D cy LC b (some (.ref (cy (100 + r.1)))) r.2) args s 0 0 (inP LC b)) (F0 m 96 ls []) := by
  have hx := E.1.1
  have hb := E.1.2.1
  unfold k_X3_itemsOf_96 at hm
  refine q_ldcS (tx := "p;") (i := 4) E hw (List.mem_of_getElem? (i := 4) rfl) dX3_itemsOf_96 ?_
  exact q_sret E hr hlk hw hm dX3_itemsOf_98
def f_X3_itemsOf (v0 : Int32) (σ : ST) : Option (Nat × ST) :=
  if v0 = 7 then (some (0, σ)) else if v0 = 8 then (some (1, σ)) else if v0 = 9 then (some (2, σ)) else if v0 = 10 then (some (3, σ)) else if v0 = 11 then (k_X3_itemsOf_96 σ) else if v0 = 12 then (k_X3_itemsOf_96 σ) else if v0 = 13 then (k_X3_itemsOf_96 σ) else if v0 = 14 then (k_X3_itemsOf_111 σ) else if v0 = 15 then (k_X3_itemsOf_111 σ) else if v0 = 16 then (k_X3_itemsOf_111 σ) else if v0 = 17 then (some (5, σ)) else if v0 = 18 then (k_X3_itemsOf_102 σ) else if v0 = 19 then (k_X3_itemsOf_111 σ) else if v0 = 20 then (some (7, σ)) else if v0 = 21 then (k_X3_itemsOf_96 σ) else if v0 = 22 then (some (8, σ)) else if v0 = 23 then (k_X3_itemsOf_102 σ) else (k_X3_itemsOf_111 σ)
set_option maxRecDepth 20000 in
set_option maxHeartbeats 1000000 in
theorem w_X3_itemsOf_0 {p : Program} {l : Launch} {e : Env} {s : State} {m : MethodId} {args : Array Value} {below : List Frame} {meth : Method} {c : Code} {D : va_G} {cy : Nat → ClassId} {b : Nat} (E : CX p m c cX3_itemsOf 1 s args RX3 D cy LC) (hr : meth.sig.returnType = some (.object "java/lang/String")) (hlk : meth.locks = false) {r : Nat × ST} {v0 : Int32} {σ : ST} {H : Heap} {locs : List Loc} {ls : Array Slot} (hm : f_X3_itemsOf v0 σ = some r) (hw : PH D cy LC b σ s H locs) (hl : lv_has ls 1 [(0, .int v0)]) : W p l e (rmD 0) s m args below meth c H locs 0 0 (MQ below (QcP D cy LC b (some (.ref (cy (100 + r.1)))) r.2) args s 0 0 (inP LC b)) (F0 m 0 ls []) := by
  have hx := E.1.1
  have hb := E.1.2.1
  unfold f_X3_itemsOf at hm
  refine lv_iload_n hx hb dX3_itemsOf_0 rfl (lv_at hl 0 rfl) ?_
  by_cases c1 : v0 = 7
  · refine q_tsw E 7 84 c1 dX3_itemsOf_1 (by decide) (by decide) rfl (by decide) ?_
    have hm := o_t c1 hm
    refine q_ldcS (tx := "v@pn;") (i := 0) E hw (List.mem_of_getElem? (i := 0) rfl) dX3_itemsOf_84 ?_
    exact q_sret E hr hlk hw hm dX3_itemsOf_86
  have hm := o_f c1 hm
  by_cases c2 : v0 = 8
  · refine q_tsw E 8 87 c2 dX3_itemsOf_1 (by decide) (by decide) rfl (by decide) ?_
    have hm := o_t c2 hm
    refine q_ldcS (tx := "v@p;") (i := 1) E hw (List.mem_of_getElem? (i := 1) rfl) dX3_itemsOf_87 ?_
    exact q_sret E hr hlk hw hm dX3_itemsOf_89
  have hm := o_f c2 hm
  by_cases c3 : v0 = 9
  · refine q_tsw E 9 90 c3 dX3_itemsOf_1 (by decide) (by decide) rfl (by decide) ?_
    have hm := o_t c3 hm
    refine q_ldcS (tx := "s@pn;") (i := 2) E hw (List.mem_of_getElem? (i := 2) rfl) dX3_itemsOf_90 ?_
    exact q_sret E hr hlk hw hm dX3_itemsOf_92
  have hm := o_f c3 hm
  by_cases c4 : v0 = 10
  · refine q_tsw E 10 93 c4 dX3_itemsOf_1 (by decide) (by decide) rfl (by decide) ?_
    have hm := o_t c4 hm
    refine q_ldcS (tx := "k@p;") (i := 3) E hw (List.mem_of_getElem? (i := 3) rfl) dX3_itemsOf_93 ?_
    exact q_sret E hr hlk hw hm dX3_itemsOf_95
  have hm := o_f c4 hm
  by_cases c5 : v0 = 11
  · refine q_tsw E 11 96 c5 dX3_itemsOf_1 (by decide) (by decide) rfl (by decide) ?_
    have hm := o_t c5 hm
    exact w_X3_itemsOf_96 E hr hlk hm  hw (lv_sub hl [] rfl)
  have hm := o_f c5 hm
  by_cases c6 : v0 = 12
  · refine q_tsw E 12 96 c6 dX3_itemsOf_1 (by decide) (by decide) rfl (by decide) ?_
    have hm := o_t c6 hm
    exact w_X3_itemsOf_96 E hr hlk hm  hw (lv_sub hl [] rfl)
  have hm := o_f c6 hm
  by_cases c7 : v0 = 13
  · refine q_tsw E 13 96 c7 dX3_itemsOf_1 (by decide) (by decide) rfl (by decide) ?_
    have hm := o_t c7 hm
    exact w_X3_itemsOf_96 E hr hlk hm  hw (lv_sub hl [] rfl)
  have hm := o_f c7 hm
  by_cases c8 : v0 = 14
  · refine q_tsw E 14 111 c8 dX3_itemsOf_1 (by decide) (by decide) rfl (by decide) ?_
    have hm := o_t c8 hm
    exact w_X3_itemsOf_111 E hr hlk hm  hw (lv_sub hl [] rfl)
  have hm := o_f c8 hm
  by_cases c9 : v0 = 15
  · refine q_tsw E 15 111 c9 dX3_itemsOf_1 (by decide) (by decide) rfl (by decide) ?_
    have hm := o_t c9 hm
    exact w_X3_itemsOf_111 E hr hlk hm  hw (lv_sub hl [] rfl)
  have hm := o_f c9 hm
  by_cases c10 : v0 = 16
  · refine q_tsw E 16 111 c10 dX3_itemsOf_1 (by decide) (by decide) rfl (by decide) ?_
    have hm := o_t c10 hm
    exact w_X3_itemsOf_111 E hr hlk hm  hw (lv_sub hl [] rfl)
  have hm := o_f c10 hm
  by_cases c11 : v0 = 17
  · refine q_tsw E 17 99 c11 dX3_itemsOf_1 (by decide) (by decide) rfl (by decide) ?_
    have hm := o_t c11 hm
    refine q_ldcS (tx := "po;") (i := 5) E hw (List.mem_of_getElem? (i := 5) rfl) dX3_itemsOf_99 ?_
    exact q_sret E hr hlk hw hm dX3_itemsOf_101
  have hm := o_f c11 hm
  by_cases c12 : v0 = 18
  · refine q_tsw E 18 102 c12 dX3_itemsOf_1 (by decide) (by decide) rfl (by decide) ?_
    have hm := o_t c12 hm
    exact w_X3_itemsOf_102 E hr hlk hm  hw (lv_sub hl [] rfl)
  have hm := o_f c12 hm
  by_cases c13 : v0 = 19
  · refine q_tsw E 19 111 c13 dX3_itemsOf_1 (by decide) (by decide) rfl (by decide) ?_
    have hm := o_t c13 hm
    exact w_X3_itemsOf_111 E hr hlk hm  hw (lv_sub hl [] rfl)
  have hm := o_f c13 hm
  by_cases c14 : v0 = 20
  · refine q_tsw E 20 105 c14 dX3_itemsOf_1 (by decide) (by decide) rfl (by decide) ?_
    have hm := o_t c14 hm
    refine q_ldcS (tx := "k;") (i := 7) E hw (List.mem_of_getElem? (i := 7) rfl) dX3_itemsOf_105 ?_
    exact q_sret E hr hlk hw hm dX3_itemsOf_107
  have hm := o_f c14 hm
  by_cases c15 : v0 = 21
  · refine q_tsw E 21 96 c15 dX3_itemsOf_1 (by decide) (by decide) rfl (by decide) ?_
    have hm := o_t c15 hm
    exact w_X3_itemsOf_96 E hr hlk hm  hw (lv_sub hl [] rfl)
  have hm := o_f c15 hm
  by_cases c16 : v0 = 22
  · refine q_tsw E 22 108 c16 dX3_itemsOf_1 (by decide) (by decide) rfl (by decide) ?_
    have hm := o_t c16 hm
    refine q_ldcS (tx := "k@pcn;") (i := 8) E hw (List.mem_of_getElem? (i := 8) rfl) dX3_itemsOf_108 ?_
    exact q_sret E hr hlk hw hm dX3_itemsOf_110
  have hm := o_f c16 hm
  by_cases c17 : v0 = 23
  · refine q_tsw E 23 102 c17 dX3_itemsOf_1 (by decide) (by decide) rfl (by decide) ?_
    have hm := o_t c17 hm
    exact w_X3_itemsOf_102 E hr hlk hm  hw (lv_sub hl [] rfl)
  have hm := o_f c17 hm
  have tc1 := lv_neT (a := 7) c1 (by decide)
  have tc2 := lv_neT (a := 8) c2 (by decide)
  have tc3 := lv_neT (a := 9) c3 (by decide)
  have tc4 := lv_neT (a := 10) c4 (by decide)
  have tc5 := lv_neT (a := 11) c5 (by decide)
  have tc6 := lv_neT (a := 12) c6 (by decide)
  have tc7 := lv_neT (a := 13) c7 (by decide)
  have tc8 := lv_neT (a := 14) c8 (by decide)
  have tc9 := lv_neT (a := 15) c9 (by decide)
  have tc10 := lv_neT (a := 16) c10 (by decide)
  have tc11 := lv_neT (a := 17) c11 (by decide)
  have tc12 := lv_neT (a := 18) c12 (by decide)
  have tc13 := lv_neT (a := 19) c13 (by decide)
  have tc14 := lv_neT (a := 20) c14 (by decide)
  have tc15 := lv_neT (a := 21) c15 (by decide)
  have tc16 := lv_neT (a := 22) c16 (by decide)
  have tc17 := lv_neT (a := 23) c17 (by decide)
  refine lv_tableOut (tgt := 111) hx hb dX3_itemsOf_1 (by omega) (by decide) ?_
  exact w_X3_itemsOf_111 E hr hlk hm  hw (lv_sub hl [] rfl)
theorem c_X3_itemsOf {l : Launch} {D : va_G} {cy : Nat → ClassId} {b : Nat} {v0 : Int32} {σ : ST} {r : Nat × ST} (hm : f_X3_itemsOf v0 σ = some r) : Met l yX3_itemsOf (wU yX3_itemsOf cX3_itemsOf 1 (some (.object "java/lang/String"))) (rmD 0) (PcP D cy LC b [.int v0] σ) (QcP D cy LC b (some (.ref (cy (100 + r.1)))) r.2) 0 0 (inP LC b) :=
  q_met (lv := [(0, .int v0)]) LC_ok (by decide) (Nat.le_of_ble_eq_true rfl) rfl (fun _ _ _ _ _ _ _ _ _ E hr hlk hw hl => w_X3_itemsOf_0 E hr hlk hm hw hl)

def k_X3_mayBegin_87 (s0 : Int32) (σ : ST) : Option (Int32 × ST) :=
  (ckZ s0).bind fun z => some (z, σ)
set_option maxRecDepth 20000 in
set_option maxHeartbeats 1000000 in
theorem w_X3_mayBegin_87 {p : Program} {l : Launch} {e : Env} {s : State} {m : MethodId} {args : Array Value} {below : List Frame} {meth : Method} {c : Code} {D : va_G} {cy : Nat → ClassId} {b : Nat} (E : CX p m c cX3_mayBegin 2 s args RX3 D cy LC) (hr : meth.sig.returnType = some .boolean) (hlk : meth.locks = false) {r : Int32 × ST} {s0 : Int32} {σ : ST} {H : Heap} {locs : List Loc} {ls : Array Slot} (hm : k_X3_mayBegin_87 s0 σ = some r) (hw : PH D cy LC b σ s H locs) (hl : lv_has ls 2 []) : W p l e (rmD 1) s m args below meth c H locs 0 0 (MQ below (QcP D cy LC b (some (.int r.1)) r.2) args s 0 0 (inP LC b)) (F0 m 87 ls [.int s0]) := by
  have hx := E.1.1
  have hb := E.1.2.1
  unfold k_X3_mayBegin_87 at hm
  exact q_zret E hr hlk hw hm dX3_mayBegin_87
def k_X3_mayBegin_82 (σ : ST) : Option (Int32 × ST) :=
  k_X3_mayBegin_87 1 σ
set_option maxRecDepth 20000 in
set_option maxHeartbeats 1000000 in
theorem w_X3_mayBegin_82 {p : Program} {l : Launch} {e : Env} {s : State} {m : MethodId} {args : Array Value} {below : List Frame} {meth : Method} {c : Code} {D : va_G} {cy : Nat → ClassId} {b : Nat} (E : CX p m c cX3_mayBegin 2 s args RX3 D cy LC) (hr : meth.sig.returnType = some .boolean) (hlk : meth.locks = false) {r : Int32 × ST} {σ : ST} {H : Heap} {locs : List Loc} {ls : Array Slot} (hm : k_X3_mayBegin_82  σ = some r) (hw : PH D cy LC b σ s H locs) (hl : lv_has ls 2 []) : W p l e (rmD 1) s m args below meth c H locs 0 0 (MQ below (QcP D cy LC b (some (.int r.1)) r.2) args s 0 0 (inP LC b)) (F0 m 82 ls []) := by
  have hx := E.1.1
  have hb := E.1.2.1
  unfold k_X3_mayBegin_82 at hm
  refine lv_iconst (v := 1) hx hb dX3_mayBegin_82 (by decide) ?_
  refine lv_goto (tgt := 87) hx hb dX3_mayBegin_83 (by decide) ?_
  exact w_X3_mayBegin_87 E hr hlk hm  hw (lv_sub hl [] rfl)
def k_X3_mayBegin_33 (v0 : Nat) (v1 : Int32) (σ : ST) : Option (Int32 × ST) :=
  if (gI σ (LC.2.1 v0 0) 8) < 30 then ((f_X3_holdsOthers v1 σ).bind fun u2 =>
  if u2.1 = 0 then (k_X3_mayBegin_82 u2.2) else (if (gI u2.2 v0 4) < 3 then (k_X3_mayBegin_82 u2.2) else ((f_X6_blame (LC.2.1 v0 1) 7 u2.2).bind fun u5 =>
  if u5.1 = 0 then (k_X3_mayBegin_87 0 u5.2) else (k_X3_mayBegin_82 u5.2)))) else ((f_X6_blame (LC.2.1 v0 1) 6 σ).bind fun u7 =>
  (ckZ u7.1).bind fun z => some (z, u7.2))
set_option maxRecDepth 20000 in
set_option maxHeartbeats 1000000 in
theorem w_X3_mayBegin_33 {p : Program} {l : Launch} {e : Env} {s : State} {m : MethodId} {args : Array Value} {below : List Frame} {meth : Method} {c : Code} {D : va_G} {cy : Nat → ClassId} {b : Nat} (E : CX p m c cX3_mayBegin 2 s args RX3 D cy LC) (hr : meth.sig.returnType = some .boolean) (hlk : meth.locks = false) {r : Int32 × ST} {v0 : Nat} {v1 : Int32} {σ : ST} {H : Heap} {locs : List Loc} {ls : Array Slot} (hm : k_X3_mayBegin_33 v0 v1 σ = some r) (hv0 : LC.1 v0 = 3) (hw : PH D cy LC b σ s H locs) (hl : lv_has ls 2 [(0, .ref (b + v0)), (1, .int v1)]) : W p l e (rmD 1) s m args below meth c H locs 0 0 (MQ below (QcP D cy LC b (some (.int r.1)) r.2) args s 0 0 (inP LC b)) (F0 m 33 ls []) := by
  have hx := E.1.1
  have hb := E.1.2.1
  unfold k_X3_mayBegin_33 at hm
  refine lv_aload_n hx hb dX3_mayBegin_33 rfl (lv_at hl 0 rfl) ?_
  refine q_geta E hw fw_X3_12 rfl hv0 dX3_mayBegin_34 ?_
  refine q_geti E hw fw_X3_76 rfl (tC_3_0 hv0) dX3_mayBegin_37 ?_
  refine lv_bipush (v := 30) hx hb dX3_mayBegin_40 (by decide) ?_
  refine lv_icmp_lt (tgt := 55) hx hb dX3_mayBegin_42 (by decide) (fun c1 => ?_) (fun c1 => ?_)
  · have hm := o_t c1 hm
    refine lv_iload_n hx hb dX3_mayBegin_55 rfl (lv_at hl 1 rfl) ?_
    refine q_cSi [] E hw hm ms_X3_79 (fun u hu => c_X3_holdsOthers hu ) rfl rfl hl.1 (Nat.le_of_ble_eq_true rfl) ⟨Nat.le_of_ble_eq_true rfl, Nat.le_of_ble_eq_true rfl⟩ dX3_mayBegin_56 (fun u2 H locs hm hw => ?_)
    refine lv_if_eq (tgt := 82) hx hb dX3_mayBegin_59 (by decide) (fun c3 => ?_) (fun c3 => ?_)
    · have hm := o_t c3 hm
      exact w_X3_mayBegin_82 E hr hlk hm  hw (lv_sub hl [] rfl)
    · have hm := o_f c3 hm
      refine lv_aload_n hx hb dX3_mayBegin_62 rfl (lv_at hl 0 rfl) ?_
      refine q_geti E hw fw_X3_22 rfl hv0 dX3_mayBegin_63 ?_
      refine lv_iconst (v := 3) hx hb dX3_mayBegin_66 (by decide) ?_
      refine lv_icmp_lt (tgt := 82) hx hb dX3_mayBegin_67 (by decide) (fun c4 => ?_) (fun c4 => ?_)
      · have hm := o_t c4 hm
        exact w_X3_mayBegin_82 E hr hlk hm  hw (lv_sub hl [] rfl)
      · have hm := o_f c4 hm
        refine lv_aload_n hx hb dX3_mayBegin_70 rfl (lv_at hl 0 rfl) ?_
        refine q_geta E hw fw_X3_26 rfl hv0 dX3_mayBegin_71 ?_
        refine lv_bipush (v := 7) hx hb dX3_mayBegin_74 (by decide) ?_
        refine q_cVi (κ := 6) (C := RX6) (T := TX6) (N := 12) [] E hw hm mw_X3_49 (fun u hu => c_X6_blame hu (tC_3_1 hv0)) rfl (by decide) (tC_3_1 hv0) rfl rfl hl.1 (Nat.le_of_ble_eq_true rfl) ⟨Nat.le_of_ble_eq_true rfl, Nat.le_of_ble_eq_true rfl⟩ dX3_mayBegin_76 (fun u5 H locs hm hw => ?_)
        refine lv_if_eq (tgt := 86) hx hb dX3_mayBegin_79 (by decide) (fun c6 => ?_) (fun c6 => ?_)
        · have hm := o_t c6 hm
          refine lv_iconst (v := 0) hx hb dX3_mayBegin_86 (by decide) ?_
          exact w_X3_mayBegin_87 E hr hlk hm  hw (lv_sub hl [] rfl)
        · have hm := o_f c6 hm
          exact w_X3_mayBegin_82 E hr hlk hm  hw (lv_sub hl [] rfl)
  · have hm := o_f c1 hm
    refine lv_aload_n hx hb dX3_mayBegin_45 rfl (lv_at hl 0 rfl) ?_
    refine q_geta E hw fw_X3_26 rfl hv0 dX3_mayBegin_46 ?_
    refine lv_bipush (v := 6) hx hb dX3_mayBegin_49 (by decide) ?_
    refine q_cVi (κ := 6) (C := RX6) (T := TX6) (N := 12) [] E hw hm mw_X3_49 (fun u hu => c_X6_blame hu (tC_3_1 hv0)) rfl (by decide) (tC_3_1 hv0) rfl rfl hl.1 (Nat.le_of_ble_eq_true rfl) ⟨Nat.le_of_ble_eq_true rfl, Nat.le_of_ble_eq_true rfl⟩ dX3_mayBegin_51 (fun u7 H locs hm hw => ?_)
    exact q_zret E hr hlk hw hm dX3_mayBegin_54
def k_X3_mayBegin_12 (v0 : Nat) (v1 : Int32) (σ : ST) : Option (Int32 × ST) :=
  if v1 = 23 then (k_X3_mayBegin_33 v0 v1 σ) else (if v1 = 25 then (k_X3_mayBegin_33 v0 v1 σ) else ((f_X6_blame (LC.2.1 v0 1) 2 σ).bind fun u10 =>
  (ckZ u10.1).bind fun z => some (z, u10.2)))
set_option maxRecDepth 20000 in
set_option maxHeartbeats 1000000 in
theorem w_X3_mayBegin_12 {p : Program} {l : Launch} {e : Env} {s : State} {m : MethodId} {args : Array Value} {below : List Frame} {meth : Method} {c : Code} {D : va_G} {cy : Nat → ClassId} {b : Nat} (E : CX p m c cX3_mayBegin 2 s args RX3 D cy LC) (hr : meth.sig.returnType = some .boolean) (hlk : meth.locks = false) {r : Int32 × ST} {v0 : Nat} {v1 : Int32} {σ : ST} {H : Heap} {locs : List Loc} {ls : Array Slot} (hm : k_X3_mayBegin_12 v0 v1 σ = some r) (hv0 : LC.1 v0 = 3) (hw : PH D cy LC b σ s H locs) (hl : lv_has ls 2 [(0, .ref (b + v0)), (1, .int v1)]) : W p l e (rmD 1) s m args below meth c H locs 0 0 (MQ below (QcP D cy LC b (some (.int r.1)) r.2) args s 0 0 (inP LC b)) (F0 m 12 ls []) := by
  have hx := E.1.1
  have hb := E.1.2.1
  unfold k_X3_mayBegin_12 at hm
  refine lv_iload_n hx hb dX3_mayBegin_12 rfl (lv_at hl 1 rfl) ?_
  refine lv_bipush (v := 23) hx hb dX3_mayBegin_13 (by decide) ?_
  refine lv_icmp_eq (tgt := 33) hx hb dX3_mayBegin_15 (by decide) (fun c8 => ?_) (fun c8 => ?_)
  · have hm := o_t c8 hm
    exact w_X3_mayBegin_33 E hr hlk hm hv0 hw (lv_sub hl [0, 1] rfl)
  · have hm := o_f c8 hm
    refine lv_iload_n hx hb dX3_mayBegin_18 rfl (lv_at hl 1 rfl) ?_
    refine lv_bipush (v := 25) hx hb dX3_mayBegin_19 (by decide) ?_
    refine lv_icmp_eq (tgt := 33) hx hb dX3_mayBegin_21 (by decide) (fun c9 => ?_) (fun c9 => ?_)
    · have hm := o_t c9 hm
      exact w_X3_mayBegin_33 E hr hlk hm hv0 hw (lv_sub hl [0, 1] rfl)
    · have hm := o_f c9 hm
      refine lv_aload_n hx hb dX3_mayBegin_24 rfl (lv_at hl 0 rfl) ?_
      refine q_geta E hw fw_X3_26 rfl hv0 dX3_mayBegin_25 ?_
      refine lv_iconst (v := 2) hx hb dX3_mayBegin_28 (by decide) ?_
      refine q_cVi (κ := 6) (C := RX6) (T := TX6) (N := 12) [] E hw hm mw_X3_49 (fun u hu => c_X6_blame hu (tC_3_1 hv0)) rfl (by decide) (tC_3_1 hv0) rfl rfl hl.1 (Nat.le_of_ble_eq_true rfl) ⟨Nat.le_of_ble_eq_true rfl, Nat.le_of_ble_eq_true rfl⟩ dX3_mayBegin_29 (fun u10 H locs hm hw => ?_)
      exact q_zret E hr hlk hw hm dX3_mayBegin_32
def f_X3_mayBegin (v0 : Nat) (v1 : Int32) (σ : ST) : Option (Int32 × ST) :=
  if v1 < 7 then (k_X3_mayBegin_12 v0 v1 σ) else (if v1 ≤ 19 then (k_X3_mayBegin_33 v0 v1 σ) else (k_X3_mayBegin_12 v0 v1 σ))
set_option maxRecDepth 20000 in
set_option maxHeartbeats 1000000 in
theorem w_X3_mayBegin_0 {p : Program} {l : Launch} {e : Env} {s : State} {m : MethodId} {args : Array Value} {below : List Frame} {meth : Method} {c : Code} {D : va_G} {cy : Nat → ClassId} {b : Nat} (E : CX p m c cX3_mayBegin 2 s args RX3 D cy LC) (hr : meth.sig.returnType = some .boolean) (hlk : meth.locks = false) {r : Int32 × ST} {v0 : Nat} {v1 : Int32} {σ : ST} {H : Heap} {locs : List Loc} {ls : Array Slot} (hm : f_X3_mayBegin v0 v1 σ = some r) (hv0 : LC.1 v0 = 3) (hw : PH D cy LC b σ s H locs) (hl : lv_has ls 2 [(0, .ref (b + v0)), (1, .int v1)]) : W p l e (rmD 1) s m args below meth c H locs 0 0 (MQ below (QcP D cy LC b (some (.int r.1)) r.2) args s 0 0 (inP LC b)) (F0 m 0 ls []) := by
  have hx := E.1.1
  have hb := E.1.2.1
  unfold f_X3_mayBegin at hm
  refine lv_iload_n hx hb dX3_mayBegin_0 rfl (lv_at hl 1 rfl) ?_
  refine lv_bipush (v := 7) hx hb dX3_mayBegin_1 (by decide) ?_
  refine lv_icmp_lt (tgt := 12) hx hb dX3_mayBegin_3 (by decide) (fun c11 => ?_) (fun c11 => ?_)
  · have hm := o_t c11 hm
    exact w_X3_mayBegin_12 E hr hlk hm hv0 hw (lv_sub hl [0, 1] rfl)
  · have hm := o_f c11 hm
    refine lv_iload_n hx hb dX3_mayBegin_6 rfl (lv_at hl 1 rfl) ?_
    refine lv_bipush (v := 19) hx hb dX3_mayBegin_7 (by decide) ?_
    refine lv_icmp_le (tgt := 33) hx hb dX3_mayBegin_9 (by decide) (fun c12 => ?_) (fun c12 => ?_)
    · have hm := o_t c12 hm
      exact w_X3_mayBegin_33 E hr hlk hm hv0 hw (lv_sub hl [0, 1] rfl)
    · have hm := o_f c12 hm
      exact w_X3_mayBegin_12 E hr hlk hm hv0 hw (lv_sub hl [0, 1] rfl)
theorem c_X3_mayBegin {l : Launch} {D : va_G} {cy : Nat → ClassId} {b : Nat} {v0 : Nat} {v1 : Int32} {σ : ST} {r : Int32 × ST} (hm : f_X3_mayBegin v0 v1 σ = some r) (hv0 : LC.1 v0 = 3) : Met l yX3_mayBegin (wU yX3_mayBegin cX3_mayBegin 2 (some .boolean)) (rmD 1) (PcP D cy LC b [.ref (b + v0), .int v1] σ) (QcP D cy LC b (some (.int r.1)) r.2) 0 0 (inP LC b) :=
  q_met (lv := [(0, .ref (b + v0)), (1, .int v1)]) LC_ok (by decide) (Nat.le_of_ble_eq_true rfl) rfl (fun _ _ _ _ _ _ _ _ _ E hr hlk hw hl => w_X3_mayBegin_0 E hr hlk hm hv0 hw hl)

def k_X3_isCompares_39 (s0 : Int32) (σ : ST) : Option (Int32 × ST) :=
  (ckZ s0).bind fun z => some (z, σ)
set_option maxRecDepth 20000 in
set_option maxHeartbeats 1000000 in
theorem w_X3_isCompares_39 {p : Program} {l : Launch} {e : Env} {s : State} {m : MethodId} {args : Array Value} {below : List Frame} {meth : Method} {c : Code} {D : va_G} {cy : Nat → ClassId} {b : Nat} (E : CX p m c cX3_isCompares 1 s args RX3 D cy LC) (hr : meth.sig.returnType = some .boolean) (hlk : meth.locks = false) {r : Int32 × ST} {s0 : Int32} {σ : ST} {H : Heap} {locs : List Loc} {ls : Array Slot} (hm : k_X3_isCompares_39 s0 σ = some r) (hw : PH D cy LC b σ s H locs) (hl : lv_has ls 1 []) : W p l e (rmD 1) s m args below meth c H locs 0 0 (MQ below (QcP D cy LC b (some (.int r.1)) r.2) args s 0 0 (inP LC b)) (F0 m 39 ls [.int s0]) := by
  have hx := E.1.1
  have hb := E.1.2.1
  unfold k_X3_isCompares_39 at hm
  exact q_zret E hr hlk hw hm dX3_isCompares_39
def k_X3_isCompares_34 (σ : ST) : Option (Int32 × ST) :=
  k_X3_isCompares_39 1 σ
set_option maxRecDepth 20000 in
set_option maxHeartbeats 1000000 in
theorem w_X3_isCompares_34 {p : Program} {l : Launch} {e : Env} {s : State} {m : MethodId} {args : Array Value} {below : List Frame} {meth : Method} {c : Code} {D : va_G} {cy : Nat → ClassId} {b : Nat} (E : CX p m c cX3_isCompares 1 s args RX3 D cy LC) (hr : meth.sig.returnType = some .boolean) (hlk : meth.locks = false) {r : Int32 × ST} {σ : ST} {H : Heap} {locs : List Loc} {ls : Array Slot} (hm : k_X3_isCompares_34  σ = some r) (hw : PH D cy LC b σ s H locs) (hl : lv_has ls 1 []) : W p l e (rmD 1) s m args below meth c H locs 0 0 (MQ below (QcP D cy LC b (some (.int r.1)) r.2) args s 0 0 (inP LC b)) (F0 m 34 ls []) := by
  have hx := E.1.1
  have hb := E.1.2.1
  unfold k_X3_isCompares_34 at hm
  refine lv_iconst (v := 1) hx hb dX3_isCompares_34 (by decide) ?_
  refine lv_goto (tgt := 39) hx hb dX3_isCompares_35 (by decide) ?_
  exact w_X3_isCompares_39 E hr hlk hm  hw (lv_sub hl [] rfl)
def k_X3_isCompares_23 (v0 : Nat) (σ : ST) : Option (Int32 × ST) :=
  (f_X6_blame (LC.2.1 v0 1) 2 σ).bind fun u1 =>
  if u1.1 = 0 then (k_X3_isCompares_39 0 u1.2) else (k_X3_isCompares_34 u1.2)
set_option maxRecDepth 20000 in
set_option maxHeartbeats 1000000 in
theorem w_X3_isCompares_23 {p : Program} {l : Launch} {e : Env} {s : State} {m : MethodId} {args : Array Value} {below : List Frame} {meth : Method} {c : Code} {D : va_G} {cy : Nat → ClassId} {b : Nat} (E : CX p m c cX3_isCompares 1 s args RX3 D cy LC) (hr : meth.sig.returnType = some .boolean) (hlk : meth.locks = false) {r : Int32 × ST} {v0 : Nat} {σ : ST} {H : Heap} {locs : List Loc} {ls : Array Slot} (hm : k_X3_isCompares_23 v0 σ = some r) (hv0 : LC.1 v0 = 3) (hw : PH D cy LC b σ s H locs) (hl : lv_has ls 1 [(0, .ref (b + v0))]) : W p l e (rmD 1) s m args below meth c H locs 0 0 (MQ below (QcP D cy LC b (some (.int r.1)) r.2) args s 0 0 (inP LC b)) (F0 m 23 ls []) := by
  have hx := E.1.1
  have hb := E.1.2.1
  unfold k_X3_isCompares_23 at hm
  refine lv_aload_n hx hb dX3_isCompares_23 rfl (lv_at hl 0 rfl) ?_
  refine q_geta E hw fw_X3_26 rfl hv0 dX3_isCompares_24 ?_
  refine lv_iconst (v := 2) hx hb dX3_isCompares_27 (by decide) ?_
  refine q_cVi (κ := 6) (C := RX6) (T := TX6) (N := 12) [] E hw hm mw_X3_49 (fun u hu => c_X6_blame hu (tC_3_1 hv0)) rfl (by decide) (tC_3_1 hv0) rfl rfl hl.1 (Nat.le_of_ble_eq_true rfl) ⟨Nat.le_of_ble_eq_true rfl, Nat.le_of_ble_eq_true rfl⟩ dX3_isCompares_28 (fun u1 H locs hm hw => ?_)
  refine lv_if_eq (tgt := 38) hx hb dX3_isCompares_31 (by decide) (fun c2 => ?_) (fun c2 => ?_)
  · have hm := o_t c2 hm
    refine lv_iconst (v := 0) hx hb dX3_isCompares_38 (by decide) ?_
    exact w_X3_isCompares_39 E hr hlk hm  hw (lv_sub hl [] rfl)
  · have hm := o_f c2 hm
    exact w_X3_isCompares_34 E hr hlk hm  hw (lv_sub hl [] rfl)
def f_X3_isCompares (v0 : Nat) (σ : ST) : Option (Int32 × ST) :=
  if (gI σ (LC.2.1 v0 1) 4) = 3 then (if (gI σ (LC.2.1 v0 1) 7) = 59 then (k_X3_isCompares_23 v0 σ) else (k_X3_isCompares_34 σ)) else (k_X3_isCompares_23 v0 σ)
set_option maxRecDepth 20000 in
set_option maxHeartbeats 1000000 in
theorem w_X3_isCompares_0 {p : Program} {l : Launch} {e : Env} {s : State} {m : MethodId} {args : Array Value} {below : List Frame} {meth : Method} {c : Code} {D : va_G} {cy : Nat → ClassId} {b : Nat} (E : CX p m c cX3_isCompares 1 s args RX3 D cy LC) (hr : meth.sig.returnType = some .boolean) (hlk : meth.locks = false) {r : Int32 × ST} {v0 : Nat} {σ : ST} {H : Heap} {locs : List Loc} {ls : Array Slot} (hm : f_X3_isCompares v0 σ = some r) (hv0 : LC.1 v0 = 3) (hw : PH D cy LC b σ s H locs) (hl : lv_has ls 1 [(0, .ref (b + v0))]) : W p l e (rmD 1) s m args below meth c H locs 0 0 (MQ below (QcP D cy LC b (some (.int r.1)) r.2) args s 0 0 (inP LC b)) (F0 m 0 ls []) := by
  have hx := E.1.1
  have hb := E.1.2.1
  unfold f_X3_isCompares at hm
  refine lv_aload_n hx hb dX3_isCompares_0 rfl (lv_at hl 0 rfl) ?_
  refine q_geta E hw fw_X3_26 rfl hv0 dX3_isCompares_1 ?_
  refine q_geti E hw fw_X3_42 rfl (tC_3_1 hv0) dX3_isCompares_4 ?_
  refine lv_iconst (v := 3) hx hb dX3_isCompares_7 (by decide) ?_
  refine lv_icmp_ne (tgt := 23) hx hb dX3_isCompares_8 (by decide) (fun c3 => ?_) (fun c3 => ?_)
  · have hm := o_f c3 hm
    exact w_X3_isCompares_23 E hr hlk hm hv0 hw (lv_sub hl [0] rfl)
  · have hm := o_t c3 hm
    refine lv_aload_n hx hb dX3_isCompares_11 rfl (lv_at hl 0 rfl) ?_
    refine q_geta E hw fw_X3_26 rfl hv0 dX3_isCompares_12 ?_
    refine q_geti E hw fw_X3_185 rfl (tC_3_1 hv0) dX3_isCompares_15 ?_
    refine lv_bipush (v := 59) hx hb dX3_isCompares_18 (by decide) ?_
    refine lv_icmp_ne (tgt := 34) hx hb dX3_isCompares_20 (by decide) (fun c4 => ?_) (fun c4 => ?_)
    · have hm := o_f c4 hm
      exact w_X3_isCompares_34 E hr hlk hm  hw (lv_sub hl [] rfl)
    · have hm := o_t c4 hm
      exact w_X3_isCompares_23 E hr hlk hm hv0 hw (lv_sub hl [0] rfl)
theorem c_X3_isCompares {l : Launch} {D : va_G} {cy : Nat → ClassId} {b : Nat} {v0 : Nat} {σ : ST} {r : Int32 × ST} (hm : f_X3_isCompares v0 σ = some r) (hv0 : LC.1 v0 = 3) : Met l yX3_isCompares (wU yX3_isCompares cX3_isCompares 1 (some .boolean)) (rmD 1) (PcP D cy LC b [.ref (b + v0)] σ) (QcP D cy LC b (some (.int r.1)) r.2) 0 0 (inP LC b) :=
  q_met (lv := [(0, .ref (b + v0))]) LC_ok (by decide) (Nat.le_of_ble_eq_true rfl) rfl (fun _ _ _ _ _ _ _ _ _ E hr hlk hw hl => w_X3_isCompares_0 E hr hlk hm hv0 hw hl)

def k_X3_isKeeperName_31 (s0 : Int32) (σ : ST) : Option (Int32 × ST) :=
  (ckZ s0).bind fun z => some (z, σ)
set_option maxRecDepth 20000 in
set_option maxHeartbeats 1000000 in
theorem w_X3_isKeeperName_31 {p : Program} {l : Launch} {e : Env} {s : State} {m : MethodId} {args : Array Value} {below : List Frame} {meth : Method} {c : Code} {D : va_G} {cy : Nat → ClassId} {b : Nat} (E : CX p m c cX3_isKeeperName 2 s args RX3 D cy LC) (hr : meth.sig.returnType = some .boolean) (hlk : meth.locks = false) {r : Int32 × ST} {s0 : Int32} {σ : ST} {H : Heap} {locs : List Loc} {ls : Array Slot} (hm : k_X3_isKeeperName_31 s0 σ = some r) (hw : PH D cy LC b σ s H locs) (hl : lv_has ls 2 []) : W p l e (rmD 2) s m args below meth c H locs 0 0 (MQ below (QcP D cy LC b (some (.int r.1)) r.2) args s 0 0 (inP LC b)) (F0 m 31 ls [.int s0]) := by
  have hx := E.1.1
  have hb := E.1.2.1
  unfold k_X3_isKeeperName_31 at hm
  exact q_zret E hr hlk hw hm dX3_isKeeperName_31
def k_X3_isKeeperName_30 (σ : ST) : Option (Int32 × ST) :=
  k_X3_isKeeperName_31 0 σ
set_option maxRecDepth 20000 in
set_option maxHeartbeats 1000000 in
theorem w_X3_isKeeperName_30 {p : Program} {l : Launch} {e : Env} {s : State} {m : MethodId} {args : Array Value} {below : List Frame} {meth : Method} {c : Code} {D : va_G} {cy : Nat → ClassId} {b : Nat} (E : CX p m c cX3_isKeeperName 2 s args RX3 D cy LC) (hr : meth.sig.returnType = some .boolean) (hlk : meth.locks = false) {r : Int32 × ST} {σ : ST} {H : Heap} {locs : List Loc} {ls : Array Slot} (hm : k_X3_isKeeperName_30  σ = some r) (hw : PH D cy LC b σ s H locs) (hl : lv_has ls 2 []) : W p l e (rmD 2) s m args below meth c H locs 0 0 (MQ below (QcP D cy LC b (some (.int r.1)) r.2) args s 0 0 (inP LC b)) (F0 m 30 ls []) := by
  have hx := E.1.1
  have hb := E.1.2.1
  unfold k_X3_isKeeperName_30 at hm
  refine lv_iconst (v := 0) hx hb dX3_isKeeperName_30 (by decide) ?_
  exact w_X3_isKeeperName_31 E hr hlk hm  hw (lv_sub hl [] rfl)
def k_X3_isKeeperName_26 (σ : ST) : Option (Int32 × ST) :=
  k_X3_isKeeperName_31 1 σ
set_option maxRecDepth 20000 in
set_option maxHeartbeats 1000000 in
theorem w_X3_isKeeperName_26 {p : Program} {l : Launch} {e : Env} {s : State} {m : MethodId} {args : Array Value} {below : List Frame} {meth : Method} {c : Code} {D : va_G} {cy : Nat → ClassId} {b : Nat} (E : CX p m c cX3_isKeeperName 2 s args RX3 D cy LC) (hr : meth.sig.returnType = some .boolean) (hlk : meth.locks = false) {r : Int32 × ST} {σ : ST} {H : Heap} {locs : List Loc} {ls : Array Slot} (hm : k_X3_isKeeperName_26  σ = some r) (hw : PH D cy LC b σ s H locs) (hl : lv_has ls 2 []) : W p l e (rmD 2) s m args below meth c H locs 0 0 (MQ below (QcP D cy LC b (some (.int r.1)) r.2) args s 0 0 (inP LC b)) (F0 m 26 ls []) := by
  have hx := E.1.1
  have hb := E.1.2.1
  unfold k_X3_isKeeperName_26 at hm
  refine lv_iconst (v := 1) hx hb dX3_isKeeperName_26 (by decide) ?_
  refine lv_goto (tgt := 31) hx hb dX3_isKeeperName_27 (by decide) ?_
  exact w_X3_isKeeperName_31 E hr hlk hm  hw (lv_sub hl [] rfl)
def f_X3_isKeeperName (v0 : Nat) (v1 : Int32) (σ : ST) : Option (Int32 × ST) :=
  (f_X6_isName (LC.2.1 v0 1) σ).bind fun u1 =>
  if u1.1 = 0 then (k_X3_isKeeperName_30 u1.2) else (if v1 = (-1) then ((f_X6_blame (LC.2.1 v0 1) 3 u1.2).bind fun u4 =>
  if u4.1 = 0 then (k_X3_isKeeperName_30 u4.2) else (k_X3_isKeeperName_26 u4.2)) else (k_X3_isKeeperName_26 u1.2))
set_option maxRecDepth 20000 in
set_option maxHeartbeats 1000000 in
theorem w_X3_isKeeperName_0 {p : Program} {l : Launch} {e : Env} {s : State} {m : MethodId} {args : Array Value} {below : List Frame} {meth : Method} {c : Code} {D : va_G} {cy : Nat → ClassId} {b : Nat} (E : CX p m c cX3_isKeeperName 2 s args RX3 D cy LC) (hr : meth.sig.returnType = some .boolean) (hlk : meth.locks = false) {r : Int32 × ST} {v0 : Nat} {v1 : Int32} {σ : ST} {H : Heap} {locs : List Loc} {ls : Array Slot} (hm : f_X3_isKeeperName v0 v1 σ = some r) (hv0 : LC.1 v0 = 3) (hw : PH D cy LC b σ s H locs) (hl : lv_has ls 2 [(0, .ref (b + v0)), (1, .int v1)]) : W p l e (rmD 2) s m args below meth c H locs 0 0 (MQ below (QcP D cy LC b (some (.int r.1)) r.2) args s 0 0 (inP LC b)) (F0 m 0 ls []) := by
  have hx := E.1.1
  have hb := E.1.2.1
  unfold f_X3_isKeeperName at hm
  refine lv_aload_n hx hb dX3_isKeeperName_0 rfl (lv_at hl 0 rfl) ?_
  refine q_geta E hw fw_X3_26 rfl hv0 dX3_isKeeperName_1 ?_
  refine q_cVi (κ := 6) (C := RX6) (T := TX6) (N := 12) [] E hw hm mw_X3_191 (fun u hu => c_X6_isName hu (tC_3_1 hv0)) rfl (by decide) (tC_3_1 hv0) rfl rfl hl.1 (Nat.le_of_ble_eq_true rfl) ⟨Nat.le_of_ble_eq_true rfl, Nat.le_of_ble_eq_true rfl⟩ dX3_isKeeperName_4 (fun u1 H locs hm hw => ?_)
  refine lv_if_eq (tgt := 30) hx hb dX3_isKeeperName_7 (by decide) (fun c2 => ?_) (fun c2 => ?_)
  · have hm := o_t c2 hm
    exact w_X3_isKeeperName_30 E hr hlk hm  hw (lv_sub hl [] rfl)
  · have hm := o_f c2 hm
    refine lv_iload_n hx hb dX3_isKeeperName_10 rfl (lv_at hl 1 rfl) ?_
    refine lv_iconst (v := (-1)) hx hb dX3_isKeeperName_11 (by decide) ?_
    refine lv_icmp_ne (tgt := 26) hx hb dX3_isKeeperName_12 (by decide) (fun c3 => ?_) (fun c3 => ?_)
    · have hm := o_f c3 hm
      exact w_X3_isKeeperName_26 E hr hlk hm  hw (lv_sub hl [] rfl)
    · have hm := o_t c3 hm
      refine lv_aload_n hx hb dX3_isKeeperName_15 rfl (lv_at hl 0 rfl) ?_
      refine q_geta E hw fw_X3_26 rfl hv0 dX3_isKeeperName_16 ?_
      refine lv_iconst (v := 3) hx hb dX3_isKeeperName_19 (by decide) ?_
      refine q_cVi (κ := 6) (C := RX6) (T := TX6) (N := 12) [] E hw hm mw_X3_49 (fun u hu => c_X6_blame hu (tC_3_1 hv0)) rfl (by decide) (tC_3_1 hv0) rfl rfl hl.1 (Nat.le_of_ble_eq_true rfl) ⟨Nat.le_of_ble_eq_true rfl, Nat.le_of_ble_eq_true rfl⟩ dX3_isKeeperName_20 (fun u4 H locs hm hw => ?_)
      refine lv_if_eq (tgt := 30) hx hb dX3_isKeeperName_23 (by decide) (fun c5 => ?_) (fun c5 => ?_)
      · have hm := o_t c5 hm
        exact w_X3_isKeeperName_30 E hr hlk hm  hw (lv_sub hl [] rfl)
      · have hm := o_f c5 hm
        exact w_X3_isKeeperName_26 E hr hlk hm  hw (lv_sub hl [] rfl)
theorem c_X3_isKeeperName {l : Launch} {D : va_G} {cy : Nat → ClassId} {b : Nat} {v0 : Nat} {v1 : Int32} {σ : ST} {r : Int32 × ST} (hm : f_X3_isKeeperName v0 v1 σ = some r) (hv0 : LC.1 v0 = 3) : Met l yX3_isKeeperName (wU yX3_isKeeperName cX3_isKeeperName 2 (some .boolean)) (rmD 2) (PcP D cy LC b [.ref (b + v0), .int v1] σ) (QcP D cy LC b (some (.int r.1)) r.2) 0 0 (inP LC b) :=
  q_met (lv := [(0, .ref (b + v0)), (1, .int v1)]) LC_ok (by decide) (Nat.le_of_ble_eq_true rfl) rfl (fun _ _ _ _ _ _ _ _ _ E hr hlk hw hl => w_X3_isKeeperName_0 E hr hlk hm hv0 hw hl)

def k_X3_isKeyName_31 (s0 : Int32) (σ : ST) : Option (Int32 × ST) :=
  (ckZ s0).bind fun z => some (z, σ)
set_option maxRecDepth 20000 in
set_option maxHeartbeats 1000000 in
theorem w_X3_isKeyName_31 {p : Program} {l : Launch} {e : Env} {s : State} {m : MethodId} {args : Array Value} {below : List Frame} {meth : Method} {c : Code} {D : va_G} {cy : Nat → ClassId} {b : Nat} (E : CX p m c cX3_isKeyName 2 s args RX3 D cy LC) (hr : meth.sig.returnType = some .boolean) (hlk : meth.locks = false) {r : Int32 × ST} {s0 : Int32} {σ : ST} {H : Heap} {locs : List Loc} {ls : Array Slot} (hm : k_X3_isKeyName_31 s0 σ = some r) (hw : PH D cy LC b σ s H locs) (hl : lv_has ls 2 []) : W p l e (rmD 2) s m args below meth c H locs 0 0 (MQ below (QcP D cy LC b (some (.int r.1)) r.2) args s 0 0 (inP LC b)) (F0 m 31 ls [.int s0]) := by
  have hx := E.1.1
  have hb := E.1.2.1
  unfold k_X3_isKeyName_31 at hm
  exact q_zret E hr hlk hw hm dX3_isKeyName_31
def k_X3_isKeyName_30 (σ : ST) : Option (Int32 × ST) :=
  k_X3_isKeyName_31 0 σ
set_option maxRecDepth 20000 in
set_option maxHeartbeats 1000000 in
theorem w_X3_isKeyName_30 {p : Program} {l : Launch} {e : Env} {s : State} {m : MethodId} {args : Array Value} {below : List Frame} {meth : Method} {c : Code} {D : va_G} {cy : Nat → ClassId} {b : Nat} (E : CX p m c cX3_isKeyName 2 s args RX3 D cy LC) (hr : meth.sig.returnType = some .boolean) (hlk : meth.locks = false) {r : Int32 × ST} {σ : ST} {H : Heap} {locs : List Loc} {ls : Array Slot} (hm : k_X3_isKeyName_30  σ = some r) (hw : PH D cy LC b σ s H locs) (hl : lv_has ls 2 []) : W p l e (rmD 2) s m args below meth c H locs 0 0 (MQ below (QcP D cy LC b (some (.int r.1)) r.2) args s 0 0 (inP LC b)) (F0 m 30 ls []) := by
  have hx := E.1.1
  have hb := E.1.2.1
  unfold k_X3_isKeyName_30 at hm
  refine lv_iconst (v := 0) hx hb dX3_isKeyName_30 (by decide) ?_
  exact w_X3_isKeyName_31 E hr hlk hm  hw (lv_sub hl [] rfl)
def k_X3_isKeyName_26 (σ : ST) : Option (Int32 × ST) :=
  k_X3_isKeyName_31 1 σ
set_option maxRecDepth 20000 in
set_option maxHeartbeats 1000000 in
theorem w_X3_isKeyName_26 {p : Program} {l : Launch} {e : Env} {s : State} {m : MethodId} {args : Array Value} {below : List Frame} {meth : Method} {c : Code} {D : va_G} {cy : Nat → ClassId} {b : Nat} (E : CX p m c cX3_isKeyName 2 s args RX3 D cy LC) (hr : meth.sig.returnType = some .boolean) (hlk : meth.locks = false) {r : Int32 × ST} {σ : ST} {H : Heap} {locs : List Loc} {ls : Array Slot} (hm : k_X3_isKeyName_26  σ = some r) (hw : PH D cy LC b σ s H locs) (hl : lv_has ls 2 []) : W p l e (rmD 2) s m args below meth c H locs 0 0 (MQ below (QcP D cy LC b (some (.int r.1)) r.2) args s 0 0 (inP LC b)) (F0 m 26 ls []) := by
  have hx := E.1.1
  have hb := E.1.2.1
  unfold k_X3_isKeyName_26 at hm
  refine lv_iconst (v := 1) hx hb dX3_isKeyName_26 (by decide) ?_
  refine lv_goto (tgt := 31) hx hb dX3_isKeyName_27 (by decide) ?_
  exact w_X3_isKeyName_31 E hr hlk hm  hw (lv_sub hl [] rfl)
def f_X3_isKeyName (v0 : Nat) (v1 : Int32) (σ : ST) : Option (Int32 × ST) :=
  (f_X6_isName (LC.2.1 v0 1) σ).bind fun u1 =>
  if u1.1 = 0 then (k_X3_isKeyName_30 u1.2) else (if v1 = (-1) then ((f_X6_blame (LC.2.1 v0 1) 3 u1.2).bind fun u4 =>
  if u4.1 = 0 then (k_X3_isKeyName_30 u4.2) else (k_X3_isKeyName_26 u4.2)) else (k_X3_isKeyName_26 u1.2))
set_option maxRecDepth 20000 in
set_option maxHeartbeats 1000000 in
theorem w_X3_isKeyName_0 {p : Program} {l : Launch} {e : Env} {s : State} {m : MethodId} {args : Array Value} {below : List Frame} {meth : Method} {c : Code} {D : va_G} {cy : Nat → ClassId} {b : Nat} (E : CX p m c cX3_isKeyName 2 s args RX3 D cy LC) (hr : meth.sig.returnType = some .boolean) (hlk : meth.locks = false) {r : Int32 × ST} {v0 : Nat} {v1 : Int32} {σ : ST} {H : Heap} {locs : List Loc} {ls : Array Slot} (hm : f_X3_isKeyName v0 v1 σ = some r) (hv0 : LC.1 v0 = 3) (hw : PH D cy LC b σ s H locs) (hl : lv_has ls 2 [(0, .ref (b + v0)), (1, .int v1)]) : W p l e (rmD 2) s m args below meth c H locs 0 0 (MQ below (QcP D cy LC b (some (.int r.1)) r.2) args s 0 0 (inP LC b)) (F0 m 0 ls []) := by
  have hx := E.1.1
  have hb := E.1.2.1
  unfold f_X3_isKeyName at hm
  refine lv_aload_n hx hb dX3_isKeyName_0 rfl (lv_at hl 0 rfl) ?_
  refine q_geta E hw fw_X3_26 rfl hv0 dX3_isKeyName_1 ?_
  refine q_cVi (κ := 6) (C := RX6) (T := TX6) (N := 12) [] E hw hm mw_X3_191 (fun u hu => c_X6_isName hu (tC_3_1 hv0)) rfl (by decide) (tC_3_1 hv0) rfl rfl hl.1 (Nat.le_of_ble_eq_true rfl) ⟨Nat.le_of_ble_eq_true rfl, Nat.le_of_ble_eq_true rfl⟩ dX3_isKeyName_4 (fun u1 H locs hm hw => ?_)
  refine lv_if_eq (tgt := 30) hx hb dX3_isKeyName_7 (by decide) (fun c2 => ?_) (fun c2 => ?_)
  · have hm := o_t c2 hm
    exact w_X3_isKeyName_30 E hr hlk hm  hw (lv_sub hl [] rfl)
  · have hm := o_f c2 hm
    refine lv_iload_n hx hb dX3_isKeyName_10 rfl (lv_at hl 1 rfl) ?_
    refine lv_iconst (v := (-1)) hx hb dX3_isKeyName_11 (by decide) ?_
    refine lv_icmp_ne (tgt := 26) hx hb dX3_isKeyName_12 (by decide) (fun c3 => ?_) (fun c3 => ?_)
    · have hm := o_f c3 hm
      exact w_X3_isKeyName_26 E hr hlk hm  hw (lv_sub hl [] rfl)
    · have hm := o_t c3 hm
      refine lv_aload_n hx hb dX3_isKeyName_15 rfl (lv_at hl 0 rfl) ?_
      refine q_geta E hw fw_X3_26 rfl hv0 dX3_isKeyName_16 ?_
      refine lv_iconst (v := 3) hx hb dX3_isKeyName_19 (by decide) ?_
      refine q_cVi (κ := 6) (C := RX6) (T := TX6) (N := 12) [] E hw hm mw_X3_49 (fun u hu => c_X6_blame hu (tC_3_1 hv0)) rfl (by decide) (tC_3_1 hv0) rfl rfl hl.1 (Nat.le_of_ble_eq_true rfl) ⟨Nat.le_of_ble_eq_true rfl, Nat.le_of_ble_eq_true rfl⟩ dX3_isKeyName_20 (fun u4 H locs hm hw => ?_)
      refine lv_if_eq (tgt := 30) hx hb dX3_isKeyName_23 (by decide) (fun c5 => ?_) (fun c5 => ?_)
      · have hm := o_t c5 hm
        exact w_X3_isKeyName_30 E hr hlk hm  hw (lv_sub hl [] rfl)
      · have hm := o_f c5 hm
        exact w_X3_isKeyName_26 E hr hlk hm  hw (lv_sub hl [] rfl)
theorem c_X3_isKeyName {l : Launch} {D : va_G} {cy : Nat → ClassId} {b : Nat} {v0 : Nat} {v1 : Int32} {σ : ST} {r : Int32 × ST} (hm : f_X3_isKeyName v0 v1 σ = some r) (hv0 : LC.1 v0 = 3) : Met l yX3_isKeyName (wU yX3_isKeyName cX3_isKeyName 2 (some .boolean)) (rmD 2) (PcP D cy LC b [.ref (b + v0), .int v1] σ) (QcP D cy LC b (some (.int r.1)) r.2) 0 0 (inP LC b) :=
  q_met (lv := [(0, .ref (b + v0)), (1, .int v1)]) LC_ok (by decide) (Nat.le_of_ble_eq_true rfl) rfl (fun _ _ _ _ _ _ _ _ _ E hr hlk hw hl => w_X3_isKeyName_0 E hr hlk hm hv0 hw hl)

def k_X3_isSumOrNot_28 (s0 : Int32) (σ : ST) : Option (Int32 × ST) :=
  (ckZ s0).bind fun z => some (z, σ)
set_option maxRecDepth 20000 in
set_option maxHeartbeats 1000000 in
theorem w_X3_isSumOrNot_28 {p : Program} {l : Launch} {e : Env} {s : State} {m : MethodId} {args : Array Value} {below : List Frame} {meth : Method} {c : Code} {D : va_G} {cy : Nat → ClassId} {b : Nat} (E : CX p m c cX3_isSumOrNot 3 s args RX3 D cy LC) (hr : meth.sig.returnType = some .boolean) (hlk : meth.locks = false) {r : Int32 × ST} {s0 : Int32} {σ : ST} {H : Heap} {locs : List Loc} {ls : Array Slot} (hm : k_X3_isSumOrNot_28 s0 σ = some r) (hw : PH D cy LC b σ s H locs) (hl : lv_has ls 3 []) : W p l e (rmD 1) s m args below meth c H locs 0 0 (MQ below (QcP D cy LC b (some (.int r.1)) r.2) args s 0 0 (inP LC b)) (F0 m 28 ls [.int s0]) := by
  have hx := E.1.1
  have hb := E.1.2.1
  unfold k_X3_isSumOrNot_28 at hm
  exact q_zret E hr hlk hw hm dX3_isSumOrNot_28
def k_X3_isSumOrNot_23 (σ : ST) : Option (Int32 × ST) :=
  k_X3_isSumOrNot_28 1 σ
set_option maxRecDepth 20000 in
set_option maxHeartbeats 1000000 in
theorem w_X3_isSumOrNot_23 {p : Program} {l : Launch} {e : Env} {s : State} {m : MethodId} {args : Array Value} {below : List Frame} {meth : Method} {c : Code} {D : va_G} {cy : Nat → ClassId} {b : Nat} (E : CX p m c cX3_isSumOrNot 3 s args RX3 D cy LC) (hr : meth.sig.returnType = some .boolean) (hlk : meth.locks = false) {r : Int32 × ST} {σ : ST} {H : Heap} {locs : List Loc} {ls : Array Slot} (hm : k_X3_isSumOrNot_23  σ = some r) (hw : PH D cy LC b σ s H locs) (hl : lv_has ls 3 []) : W p l e (rmD 1) s m args below meth c H locs 0 0 (MQ below (QcP D cy LC b (some (.int r.1)) r.2) args s 0 0 (inP LC b)) (F0 m 23 ls []) := by
  have hx := E.1.1
  have hb := E.1.2.1
  unfold k_X3_isSumOrNot_23 at hm
  refine lv_iconst (v := 1) hx hb dX3_isSumOrNot_23 (by decide) ?_
  refine lv_goto (tgt := 28) hx hb dX3_isSumOrNot_24 (by decide) ?_
  exact w_X3_isSumOrNot_28 E hr hlk hm  hw (lv_sub hl [] rfl)
def f_X3_isSumOrNot (v0 : Nat) (v1 : Int32) (v2 : Int32) (σ : ST) : Option (Int32 × ST) :=
  (f_X7_isSum (LC.2.1 v0 2) v1 σ).bind fun u1 =>
  if u1.1 = v2 then (k_X3_isSumOrNot_23 u1.2) else ((f_X6_blame (LC.2.1 v0 1) 5 u1.2).bind fun u3 =>
  if u3.1 = 0 then (k_X3_isSumOrNot_28 0 u3.2) else (k_X3_isSumOrNot_23 u3.2))
set_option maxRecDepth 20000 in
set_option maxHeartbeats 1000000 in
theorem w_X3_isSumOrNot_0 {p : Program} {l : Launch} {e : Env} {s : State} {m : MethodId} {args : Array Value} {below : List Frame} {meth : Method} {c : Code} {D : va_G} {cy : Nat → ClassId} {b : Nat} (E : CX p m c cX3_isSumOrNot 3 s args RX3 D cy LC) (hr : meth.sig.returnType = some .boolean) (hlk : meth.locks = false) {r : Int32 × ST} {v0 : Nat} {v1 : Int32} {v2 : Int32} {σ : ST} {H : Heap} {locs : List Loc} {ls : Array Slot} (hm : f_X3_isSumOrNot v0 v1 v2 σ = some r) (hv0 : LC.1 v0 = 3) (hw : PH D cy LC b σ s H locs) (hl : lv_has ls 3 [(0, .ref (b + v0)), (1, .int v1), (2, .int v2)]) : W p l e (rmD 1) s m args below meth c H locs 0 0 (MQ below (QcP D cy LC b (some (.int r.1)) r.2) args s 0 0 (inP LC b)) (F0 m 0 ls []) := by
  have hx := E.1.1
  have hb := E.1.2.1
  unfold f_X3_isSumOrNot at hm
  refine lv_aload_n hx hb dX3_isSumOrNot_0 rfl (lv_at hl 0 rfl) ?_
  refine q_geta E hw fw_X3_30 rfl hv0 dX3_isSumOrNot_1 ?_
  refine lv_iload_n hx hb dX3_isSumOrNot_4 rfl (lv_at hl 1 rfl) ?_
  refine q_cVi (κ := 7) (C := RX7) (T := TX7) (N := 12) [] E hw hm mw_X3_194 (fun u hu => c_X7_isSum hu (tC_3_2 hv0)) rfl (by decide) (tC_3_2 hv0) rfl rfl hl.1 (Nat.le_of_ble_eq_true rfl) ⟨Nat.le_of_ble_eq_true rfl, Nat.le_of_ble_eq_true rfl⟩ dX3_isSumOrNot_5 (fun u1 H locs hm hw => ?_)
  refine lv_iload_n hx hb dX3_isSumOrNot_8 rfl (lv_at hl 2 rfl) ?_
  refine lv_icmp_eq (tgt := 23) hx hb dX3_isSumOrNot_9 (by decide) (fun c2 => ?_) (fun c2 => ?_)
  · have hm := o_t c2 hm
    exact w_X3_isSumOrNot_23 E hr hlk hm  hw (lv_sub hl [] rfl)
  · have hm := o_f c2 hm
    refine lv_aload_n hx hb dX3_isSumOrNot_12 rfl (lv_at hl 0 rfl) ?_
    refine q_geta E hw fw_X3_26 rfl hv0 dX3_isSumOrNot_13 ?_
    refine lv_iconst (v := 5) hx hb dX3_isSumOrNot_16 (by decide) ?_
    refine q_cVi (κ := 6) (C := RX6) (T := TX6) (N := 12) [] E hw hm mw_X3_49 (fun u hu => c_X6_blame hu (tC_3_1 hv0)) rfl (by decide) (tC_3_1 hv0) rfl rfl hl.1 (Nat.le_of_ble_eq_true rfl) ⟨Nat.le_of_ble_eq_true rfl, Nat.le_of_ble_eq_true rfl⟩ dX3_isSumOrNot_17 (fun u3 H locs hm hw => ?_)
    refine lv_if_eq (tgt := 27) hx hb dX3_isSumOrNot_20 (by decide) (fun c4 => ?_) (fun c4 => ?_)
    · have hm := o_t c4 hm
      refine lv_iconst (v := 0) hx hb dX3_isSumOrNot_27 (by decide) ?_
      exact w_X3_isSumOrNot_28 E hr hlk hm  hw (lv_sub hl [] rfl)
    · have hm := o_f c4 hm
      exact w_X3_isSumOrNot_23 E hr hlk hm  hw (lv_sub hl [] rfl)
theorem c_X3_isSumOrNot {l : Launch} {D : va_G} {cy : Nat → ClassId} {b : Nat} {v0 : Nat} {v1 : Int32} {v2 : Int32} {σ : ST} {r : Int32 × ST} (hm : f_X3_isSumOrNot v0 v1 v2 σ = some r) (hv0 : LC.1 v0 = 3) : Met l yX3_isSumOrNot (wU yX3_isSumOrNot cX3_isSumOrNot 3 (some .boolean)) (rmD 1) (PcP D cy LC b [.ref (b + v0), .int v1, .int v2] σ) (QcP D cy LC b (some (.int r.1)) r.2) 0 0 (inP LC b) :=
  q_met (lv := [(0, .ref (b + v0)), (1, .int v1), (2, .int v2)]) LC_ok (by decide) (Nat.le_of_ble_eq_true rfl) rfl (fun _ _ _ _ _ _ _ _ _ E hr hlk hw hl => w_X3_isSumOrNot_0 E hr hlk hm hv0 hw hl)

def k_X3_leastFor_17 (s0 : Int32) (σ : ST) : Option (Int32 × ST) :=
  some (s0, σ)
set_option maxRecDepth 20000 in
set_option maxHeartbeats 1000000 in
theorem w_X3_leastFor_17 {p : Program} {l : Launch} {e : Env} {s : State} {m : MethodId} {args : Array Value} {below : List Frame} {meth : Method} {c : Code} {D : va_G} {cy : Nat → ClassId} {b : Nat} (E : CX p m c cX3_leastFor 1 s args RX3 D cy LC) (hr : meth.sig.returnType = some .int) (hlk : meth.locks = false) {r : Int32 × ST} {s0 : Int32} {σ : ST} {H : Heap} {locs : List Loc} {ls : Array Slot} (hm : k_X3_leastFor_17 s0 σ = some r) (hw : PH D cy LC b σ s H locs) (hl : lv_has ls 1 []) : W p l e (rmD 0) s m args below meth c H locs 0 0 (MQ below (QcP D cy LC b (some (.int r.1)) r.2) args s 0 0 (inP LC b)) (F0 m 17 ls [.int s0]) := by
  have hx := E.1.1
  have hb := E.1.2.1
  unfold k_X3_leastFor_17 at hm
  exact q_iret E hr hlk hw hm dX3_leastFor_17
def k_X3_leastFor_12 (σ : ST) : Option (Int32 × ST) :=
  k_X3_leastFor_17 1 σ
set_option maxRecDepth 20000 in
set_option maxHeartbeats 1000000 in
theorem w_X3_leastFor_12 {p : Program} {l : Launch} {e : Env} {s : State} {m : MethodId} {args : Array Value} {below : List Frame} {meth : Method} {c : Code} {D : va_G} {cy : Nat → ClassId} {b : Nat} (E : CX p m c cX3_leastFor 1 s args RX3 D cy LC) (hr : meth.sig.returnType = some .int) (hlk : meth.locks = false) {r : Int32 × ST} {σ : ST} {H : Heap} {locs : List Loc} {ls : Array Slot} (hm : k_X3_leastFor_12  σ = some r) (hw : PH D cy LC b σ s H locs) (hl : lv_has ls 1 []) : W p l e (rmD 0) s m args below meth c H locs 0 0 (MQ below (QcP D cy LC b (some (.int r.1)) r.2) args s 0 0 (inP LC b)) (F0 m 12 ls []) := by
  have hx := E.1.1
  have hb := E.1.2.1
  unfold k_X3_leastFor_12 at hm
  refine lv_iconst (v := 1) hx hb dX3_leastFor_12 (by decide) ?_
  refine lv_goto (tgt := 17) hx hb dX3_leastFor_13 (by decide) ?_
  exact w_X3_leastFor_17 E hr hlk hm  hw (lv_sub hl [] rfl)
def f_X3_leastFor (v0 : Int32) (σ : ST) : Option (Int32 × ST) :=
  if v0 = 9 then (k_X3_leastFor_12 σ) else (if v0 = 23 then (k_X3_leastFor_12 σ) else (k_X3_leastFor_17 0 σ))
set_option maxRecDepth 20000 in
set_option maxHeartbeats 1000000 in
theorem w_X3_leastFor_0 {p : Program} {l : Launch} {e : Env} {s : State} {m : MethodId} {args : Array Value} {below : List Frame} {meth : Method} {c : Code} {D : va_G} {cy : Nat → ClassId} {b : Nat} (E : CX p m c cX3_leastFor 1 s args RX3 D cy LC) (hr : meth.sig.returnType = some .int) (hlk : meth.locks = false) {r : Int32 × ST} {v0 : Int32} {σ : ST} {H : Heap} {locs : List Loc} {ls : Array Slot} (hm : f_X3_leastFor v0 σ = some r) (hw : PH D cy LC b σ s H locs) (hl : lv_has ls 1 [(0, .int v0)]) : W p l e (rmD 0) s m args below meth c H locs 0 0 (MQ below (QcP D cy LC b (some (.int r.1)) r.2) args s 0 0 (inP LC b)) (F0 m 0 ls []) := by
  have hx := E.1.1
  have hb := E.1.2.1
  unfold f_X3_leastFor at hm
  refine lv_iload_n hx hb dX3_leastFor_0 rfl (lv_at hl 0 rfl) ?_
  refine lv_bipush (v := 9) hx hb dX3_leastFor_1 (by decide) ?_
  refine lv_icmp_eq (tgt := 12) hx hb dX3_leastFor_3 (by decide) (fun c1 => ?_) (fun c1 => ?_)
  · have hm := o_t c1 hm
    exact w_X3_leastFor_12 E hr hlk hm  hw (lv_sub hl [] rfl)
  · have hm := o_f c1 hm
    refine lv_iload_n hx hb dX3_leastFor_6 rfl (lv_at hl 0 rfl) ?_
    refine lv_bipush (v := 23) hx hb dX3_leastFor_7 (by decide) ?_
    refine lv_icmp_ne (tgt := 16) hx hb dX3_leastFor_9 (by decide) (fun c2 => ?_) (fun c2 => ?_)
    · have hm := o_f c2 hm
      refine lv_iconst (v := 0) hx hb dX3_leastFor_16 (by decide) ?_
      exact w_X3_leastFor_17 E hr hlk hm  hw (lv_sub hl [] rfl)
    · have hm := o_t c2 hm
      exact w_X3_leastFor_12 E hr hlk hm  hw (lv_sub hl [] rfl)
theorem c_X3_leastFor {l : Launch} {D : va_G} {cy : Nat → ClassId} {b : Nat} {v0 : Int32} {σ : ST} {r : Int32 × ST} (hm : f_X3_leastFor v0 σ = some r) : Met l yX3_leastFor (wU yX3_leastFor cX3_leastFor 1 (some .int)) (rmD 0) (PcP D cy LC b [.int v0] σ) (QcP D cy LC b (some (.int r.1)) r.2) 0 0 (inP LC b) :=
  q_met (lv := [(0, .int v0)]) LC_ok (by decide) (Nat.le_of_ble_eq_true rfl) rfl (fun _ _ _ _ _ _ _ _ _ E hr hlk hw hl => w_X3_leastFor_0 E hr hlk hm hw hl)

def k_X3_mostFor_29 (s0 : Int32) (σ : ST) : Option (Int32 × ST) :=
  some (s0, σ)
set_option maxRecDepth 20000 in
set_option maxHeartbeats 1000000 in
theorem w_X3_mostFor_29 {p : Program} {l : Launch} {e : Env} {s : State} {m : MethodId} {args : Array Value} {below : List Frame} {meth : Method} {c : Code} {D : va_G} {cy : Nat → ClassId} {b : Nat} (E : CX p m c cX3_mostFor 1 s args RX3 D cy LC) (hr : meth.sig.returnType = some .int) (hlk : meth.locks = false) {r : Int32 × ST} {s0 : Int32} {σ : ST} {H : Heap} {locs : List Loc} {ls : Array Slot} (hm : k_X3_mostFor_29 s0 σ = some r) (hw : PH D cy LC b σ s H locs) (hl : lv_has ls 1 []) : W p l e (rmD 0) s m args below meth c H locs 0 0 (MQ below (QcP D cy LC b (some (.int r.1)) r.2) args s 0 0 (inP LC b)) (F0 m 29 ls [.int s0]) := by
  have hx := E.1.1
  have hb := E.1.2.1
  unfold k_X3_mostFor_29 at hm
  exact q_iret E hr hlk hw hm dX3_mostFor_29
def k_X3_mostFor_21 (σ : ST) : Option (Int32 × ST) :=
  k_X3_mostFor_29 99 σ
set_option maxRecDepth 20000 in
set_option maxHeartbeats 1000000 in
theorem w_X3_mostFor_21 {p : Program} {l : Launch} {e : Env} {s : State} {m : MethodId} {args : Array Value} {below : List Frame} {meth : Method} {c : Code} {D : va_G} {cy : Nat → ClassId} {b : Nat} (E : CX p m c cX3_mostFor 1 s args RX3 D cy LC) (hr : meth.sig.returnType = some .int) (hlk : meth.locks = false) {r : Int32 × ST} {σ : ST} {H : Heap} {locs : List Loc} {ls : Array Slot} (hm : k_X3_mostFor_21  σ = some r) (hw : PH D cy LC b σ s H locs) (hl : lv_has ls 1 []) : W p l e (rmD 0) s m args below meth c H locs 0 0 (MQ below (QcP D cy LC b (some (.int r.1)) r.2) args s 0 0 (inP LC b)) (F0 m 21 ls []) := by
  have hx := E.1.1
  have hb := E.1.2.1
  unfold k_X3_mostFor_21 at hm
  refine lv_bipush (v := 99) hx hb dX3_mostFor_21 (by decide) ?_
  refine lv_goto (tgt := 29) hx hb dX3_mostFor_23 (by decide) ?_
  exact w_X3_mostFor_29 E hr hlk hm  hw (lv_sub hl [] rfl)
def f_X3_mostFor (v0 : Int32) (σ : ST) : Option (Int32 × ST) :=
  if v0 = 18 then (some (16, σ)) else (if v0 = 23 then (k_X3_mostFor_21 σ) else (if v0 = 22 then (k_X3_mostFor_21 σ) else (k_X3_mostFor_29 999 σ)))
set_option maxRecDepth 20000 in
set_option maxHeartbeats 1000000 in
theorem w_X3_mostFor_0 {p : Program} {l : Launch} {e : Env} {s : State} {m : MethodId} {args : Array Value} {below : List Frame} {meth : Method} {c : Code} {D : va_G} {cy : Nat → ClassId} {b : Nat} (E : CX p m c cX3_mostFor 1 s args RX3 D cy LC) (hr : meth.sig.returnType = some .int) (hlk : meth.locks = false) {r : Int32 × ST} {v0 : Int32} {σ : ST} {H : Heap} {locs : List Loc} {ls : Array Slot} (hm : f_X3_mostFor v0 σ = some r) (hw : PH D cy LC b σ s H locs) (hl : lv_has ls 1 [(0, .int v0)]) : W p l e (rmD 0) s m args below meth c H locs 0 0 (MQ below (QcP D cy LC b (some (.int r.1)) r.2) args s 0 0 (inP LC b)) (F0 m 0 ls []) := by
  have hx := E.1.1
  have hb := E.1.2.1
  unfold f_X3_mostFor at hm
  refine lv_iload_n hx hb dX3_mostFor_0 rfl (lv_at hl 0 rfl) ?_
  refine lv_bipush (v := 18) hx hb dX3_mostFor_1 (by decide) ?_
  refine lv_icmp_ne (tgt := 9) hx hb dX3_mostFor_3 (by decide) (fun c1 => ?_) (fun c1 => ?_)
  · have hm := o_f c1 hm
    refine lv_iload_n hx hb dX3_mostFor_9 rfl (lv_at hl 0 rfl) ?_
    refine lv_bipush (v := 23) hx hb dX3_mostFor_10 (by decide) ?_
    refine lv_icmp_eq (tgt := 21) hx hb dX3_mostFor_12 (by decide) (fun c2 => ?_) (fun c2 => ?_)
    · have hm := o_t c2 hm
      exact w_X3_mostFor_21 E hr hlk hm  hw (lv_sub hl [] rfl)
    · have hm := o_f c2 hm
      refine lv_iload_n hx hb dX3_mostFor_15 rfl (lv_at hl 0 rfl) ?_
      refine lv_bipush (v := 22) hx hb dX3_mostFor_16 (by decide) ?_
      refine lv_icmp_ne (tgt := 26) hx hb dX3_mostFor_18 (by decide) (fun c3 => ?_) (fun c3 => ?_)
      · have hm := o_f c3 hm
        refine lv_sipush (v := 999) hx hb dX3_mostFor_26 (by decide) ?_
        exact w_X3_mostFor_29 E hr hlk hm  hw (lv_sub hl [] rfl)
      · have hm := o_t c3 hm
        exact w_X3_mostFor_21 E hr hlk hm  hw (lv_sub hl [] rfl)
  · have hm := o_t c1 hm
    refine lv_bipush (v := 16) hx hb dX3_mostFor_6 (by decide) ?_
    exact q_iret E hr hlk hw hm dX3_mostFor_8
theorem c_X3_mostFor {l : Launch} {D : va_G} {cy : Nat → ClassId} {b : Nat} {v0 : Int32} {σ : ST} {r : Int32 × ST} (hm : f_X3_mostFor v0 σ = some r) : Met l yX3_mostFor (wU yX3_mostFor cX3_mostFor 1 (some .int)) (rmD 0) (PcP D cy LC b [.int v0] σ) (QcP D cy LC b (some (.int r.1)) r.2) 0 0 (inP LC b) :=
  q_met (lv := [(0, .int v0)]) LC_ok (by decide) (Nat.le_of_ble_eq_true rfl) rfl (fun _ _ _ _ _ _ _ _ _ E hr hlk hw hl => w_X3_mostFor_0 E hr hlk hm hw hl)

def k_X3_takesItem_199 (s0 : Int32) (σ : ST) : Option (Int32 × ST) :=
  (ckZ s0).bind fun z => some (z, σ)
set_option maxRecDepth 20000 in
set_option maxHeartbeats 1000000 in
theorem w_X3_takesItem_199 {p : Program} {l : Launch} {e : Env} {s : State} {m : MethodId} {args : Array Value} {below : List Frame} {meth : Method} {c : Code} {D : va_G} {cy : Nat → ClassId} {b : Nat} (E : CX p m c cX3_takesItem 3 s args RX3 D cy LC) (hr : meth.sig.returnType = some .boolean) (hlk : meth.locks = false) {r : Int32 × ST} {s0 : Int32} {σ : ST} {H : Heap} {locs : List Loc} {ls : Array Slot} (hm : k_X3_takesItem_199 s0 σ = some r) (hw : PH D cy LC b σ s H locs) (hl : lv_has ls 3 []) : W p l e (rmD 3) s m args below meth c H locs 0 0 (MQ below (QcP D cy LC b (some (.int r.1)) r.2) args s 0 0 (inP LC b)) (F0 m 199 ls [.int s0]) := by
  have hx := E.1.1
  have hb := E.1.2.1
  unfold k_X3_takesItem_199 at hm
  exact q_zret E hr hlk hw hm dX3_takesItem_199
def k_X3_takesItem_198 (σ : ST) : Option (Int32 × ST) :=
  k_X3_takesItem_199 0 σ
set_option maxRecDepth 20000 in
set_option maxHeartbeats 1000000 in
theorem w_X3_takesItem_198 {p : Program} {l : Launch} {e : Env} {s : State} {m : MethodId} {args : Array Value} {below : List Frame} {meth : Method} {c : Code} {D : va_G} {cy : Nat → ClassId} {b : Nat} (E : CX p m c cX3_takesItem 3 s args RX3 D cy LC) (hr : meth.sig.returnType = some .boolean) (hlk : meth.locks = false) {r : Int32 × ST} {σ : ST} {H : Heap} {locs : List Loc} {ls : Array Slot} (hm : k_X3_takesItem_198  σ = some r) (hw : PH D cy LC b σ s H locs) (hl : lv_has ls 3 []) : W p l e (rmD 3) s m args below meth c H locs 0 0 (MQ below (QcP D cy LC b (some (.int r.1)) r.2) args s 0 0 (inP LC b)) (F0 m 198 ls []) := by
  have hx := E.1.1
  have hb := E.1.2.1
  unfold k_X3_takesItem_198 at hm
  refine lv_iconst (v := 0) hx hb dX3_takesItem_198 (by decide) ?_
  exact w_X3_takesItem_199 E hr hlk hm  hw (lv_sub hl [] rfl)
def k_X3_takesItem_137 (s0 : Int32) (σ : ST) : Option (Int32 × ST) :=
  (ckZ s0).bind fun z => some (z, σ)
set_option maxRecDepth 20000 in
set_option maxHeartbeats 1000000 in
theorem w_X3_takesItem_137 {p : Program} {l : Launch} {e : Env} {s : State} {m : MethodId} {args : Array Value} {below : List Frame} {meth : Method} {c : Code} {D : va_G} {cy : Nat → ClassId} {b : Nat} (E : CX p m c cX3_takesItem 3 s args RX3 D cy LC) (hr : meth.sig.returnType = some .boolean) (hlk : meth.locks = false) {r : Int32 × ST} {s0 : Int32} {σ : ST} {H : Heap} {locs : List Loc} {ls : Array Slot} (hm : k_X3_takesItem_137 s0 σ = some r) (hw : PH D cy LC b σ s H locs) (hl : lv_has ls 3 []) : W p l e (rmD 3) s m args below meth c H locs 0 0 (MQ below (QcP D cy LC b (some (.int r.1)) r.2) args s 0 0 (inP LC b)) (F0 m 137 ls [.int s0]) := by
  have hx := E.1.1
  have hb := E.1.2.1
  unfold k_X3_takesItem_137 at hm
  exact q_zret E hr hlk hw hm dX3_takesItem_137
def k_X3_takesItem_136 (σ : ST) : Option (Int32 × ST) :=
  k_X3_takesItem_137 0 σ
set_option maxRecDepth 20000 in
set_option maxHeartbeats 1000000 in
theorem w_X3_takesItem_136 {p : Program} {l : Launch} {e : Env} {s : State} {m : MethodId} {args : Array Value} {below : List Frame} {meth : Method} {c : Code} {D : va_G} {cy : Nat → ClassId} {b : Nat} (E : CX p m c cX3_takesItem 3 s args RX3 D cy LC) (hr : meth.sig.returnType = some .boolean) (hlk : meth.locks = false) {r : Int32 × ST} {σ : ST} {H : Heap} {locs : List Loc} {ls : Array Slot} (hm : k_X3_takesItem_136  σ = some r) (hw : PH D cy LC b σ s H locs) (hl : lv_has ls 3 []) : W p l e (rmD 3) s m args below meth c H locs 0 0 (MQ below (QcP D cy LC b (some (.int r.1)) r.2) args s 0 0 (inP LC b)) (F0 m 136 ls []) := by
  have hx := E.1.1
  have hb := E.1.2.1
  unfold k_X3_takesItem_136 at hm
  refine lv_iconst (v := 0) hx hb dX3_takesItem_136 (by decide) ?_
  exact w_X3_takesItem_137 E hr hlk hm  hw (lv_sub hl [] rfl)
def f_X3_takesItem (v0 : Nat) (v1 : Int32) (v2 : Int32) (σ : ST) : Option (Int32 × ST) :=
  if v2 = 64 then ((f_X6_isOwnWord (LC.2.1 v0 1) 4 σ).bind fun u2 =>
  (ckZ u2.1).bind fun z => some (z, u2.2)) else if v2 = 99 then ((stA LC σ (LC.2.1 (LC.2.1 v0 0) 4) v1 (gI σ (LC.2.1 v0 1) 7)).bind fun σ4 =>
  (f_X3_isCompares v0 σ4).bind fun u5 =>
  (ckZ u5.1).bind fun z => some (z, u5.2)) else if v2 = 107 then ((f_X7_keyNamed (LC.2.1 v0 2) (gJ σ (LC.2.1 v0 1) 9) σ).bind fun u7 =>
  (stA LC u7.2 (LC.2.1 (LC.2.1 v0 0) 1) v1 u7.1).bind fun σ8 =>
  (ldA LC σ8 (LC.2.1 (LC.2.1 v0 0) 1) v1).bind fun a9 =>
  (f_X3_isKeyName v0 a9 σ8).bind fun u10 =>
  (ckZ u10.1).bind fun z => some (z, u10.2)) else if v2 = 110 then ((stA LC σ (LC.2.1 (LC.2.1 v0 0) 3) v1 (gI σ (LC.2.1 v0 1) 6)).bind fun σ12 =>
  (ldA LC σ12 (LC.2.1 (LC.2.1 v0 0) 0) v1).bind fun a13 =>
  (f_X3_leastFor a13 σ12).bind fun u14 =>
  (ldA LC u14.2 (LC.2.1 (LC.2.1 v0 0) 0) v1).bind fun a15 =>
  (f_X3_mostFor a15 u14.2).bind fun u16 =>
  (f_X6_isNumberFrom (LC.2.1 v0 1) u14.1 u16.1 u16.2).bind fun u17 =>
  (ckZ u17.1).bind fun z => some (z, u17.2)) else if v2 = 111 then ((f_X7_keeperNamed (LC.2.1 v0 2) (gJ σ (LC.2.1 v0 1) 9) σ).bind fun u19 =>
  (stA LC u19.2 (LC.2.1 (LC.2.1 v0 0) 4) v1 u19.1).bind fun σ20 =>
  (ldA LC σ20 (LC.2.1 (LC.2.1 v0 0) 4) v1).bind fun a21 =>
  (f_X3_isKeeperName v0 a21 σ20).bind fun u22 =>
  (ckZ u22.1).bind fun z => some (z, u22.2)) else if v2 = 112 then ((f_X7_keeperNamed (LC.2.1 v0 2) (gJ σ (LC.2.1 v0 1) 9) σ).bind fun u24 =>
  (stA LC u24.2 (LC.2.1 (LC.2.1 v0 0) 2) v1 u24.1).bind fun σ25 =>
  (ldA LC σ25 (LC.2.1 (LC.2.1 v0 0) 2) v1).bind fun a26 =>
  (f_X3_isKeeperName v0 a26 σ25).bind fun u27 =>
  (ckZ u27.1).bind fun z => some (z, u27.2)) else if v2 = 115 then ((f_X7_keyNamed (LC.2.1 v0 2) (gJ σ (LC.2.1 v0 1) 9) σ).bind fun u29 =>
  (stA LC u29.2 (LC.2.1 (LC.2.1 v0 0) 1) v1 u29.1).bind fun σ30 =>
  (ldA LC σ30 (LC.2.1 (LC.2.1 v0 0) 1) v1).bind fun a31 =>
  (f_X3_isKeyName v0 a31 σ30).bind fun u32 =>
  if u32.1 = 0 then (k_X3_takesItem_198 u32.2) else ((ldA LC u32.2 (LC.2.1 (LC.2.1 v0 0) 1) v1).bind fun a34 =>
  (f_X3_isSumOrNot v0 a34 1 u32.2).bind fun u35 =>
  if u35.1 = 0 then (k_X3_takesItem_198 u35.2) else (k_X3_takesItem_199 1 u35.2))) else if v2 = 118 then ((f_X7_keyNamed (LC.2.1 v0 2) (gJ σ (LC.2.1 v0 1) 9) σ).bind fun u38 =>
  (stA LC u38.2 (LC.2.1 (LC.2.1 v0 0) 1) v1 u38.1).bind fun σ39 =>
  (ldA LC σ39 (LC.2.1 (LC.2.1 v0 0) 1) v1).bind fun a40 =>
  (f_X3_isKeyName v0 a40 σ39).bind fun u41 =>
  if u41.1 = 0 then (k_X3_takesItem_136 u41.2) else ((ldA LC u41.2 (LC.2.1 (LC.2.1 v0 0) 1) v1).bind fun a43 =>
  (f_X3_isSumOrNot v0 a43 0 u41.2).bind fun u44 =>
  if u44.1 = 0 then (k_X3_takesItem_136 u44.2) else (k_X3_takesItem_137 1 u44.2))) else ((f_X6_isSign (LC.2.1 v0 1) 59 σ).bind fun u46 =>
  (ckZ u46.1).bind fun z => some (z, u46.2))
set_option maxRecDepth 20000 in
set_option maxHeartbeats 1000000 in
theorem w_X3_takesItem_0 {p : Program} {l : Launch} {e : Env} {s : State} {m : MethodId} {args : Array Value} {below : List Frame} {meth : Method} {c : Code} {D : va_G} {cy : Nat → ClassId} {b : Nat} (E : CX p m c cX3_takesItem 3 s args RX3 D cy LC) (hr : meth.sig.returnType = some .boolean) (hlk : meth.locks = false) {r : Int32 × ST} {v0 : Nat} {v1 : Int32} {v2 : Int32} {σ : ST} {H : Heap} {locs : List Loc} {ls : Array Slot} (hm : f_X3_takesItem v0 v1 v2 σ = some r) (hv0 : LC.1 v0 = 3) (hw : PH D cy LC b σ s H locs) (hl : lv_has ls 3 [(0, .ref (b + v0)), (1, .int v1), (2, .int v2)]) : W p l e (rmD 3) s m args below meth c H locs 0 0 (MQ below (QcP D cy LC b (some (.int r.1)) r.2) args s 0 0 (inP LC b)) (F0 m 0 ls []) := by
  have hx := E.1.1
  have hb := E.1.2.1
  unfold f_X3_takesItem at hm
  refine lv_iload_n hx hb dX3_takesItem_0 rfl (lv_at hl 2 rfl) ?_
  by_cases c1 : v2 = 64
  · refine q_lsw (off := 236) E 64 237 c1 dX3_takesItem_1 (by decide) (by decide) (by decide) ?_
    have hm := o_t c1 hm
    refine lv_aload_n hx hb dX3_takesItem_237 rfl (lv_at hl 0 rfl) ?_
    refine q_geta E hw fw_X3_26 rfl hv0 dX3_takesItem_238 ?_
    refine lv_iconst (v := 4) hx hb dX3_takesItem_241 (by decide) ?_
    refine q_cVi (κ := 6) (C := RX6) (T := TX6) (N := 12) [] E hw hm mw_X3_156 (fun u hu => c_X6_isOwnWord hu (tC_3_1 hv0)) rfl (by decide) (tC_3_1 hv0) rfl rfl hl.1 (Nat.le_of_ble_eq_true rfl) ⟨Nat.le_of_ble_eq_true rfl, Nat.le_of_ble_eq_true rfl⟩ dX3_takesItem_242 (fun u2 H locs hm hw => ?_)
    exact q_zret E hr hlk hw hm dX3_takesItem_245
  have hm := o_f c1 hm
  by_cases c3 : v2 = 99
  · refine q_lsw (off := 367) E 99 368 c3 dX3_takesItem_1 (by decide) (by decide) (by decide) ?_
    have hm := o_t c3 hm
    refine lv_aload_n hx hb dX3_takesItem_368 rfl (lv_at hl 0 rfl) ?_
    refine q_geta E hw fw_X3_12 rfl hv0 dX3_takesItem_369 ?_
    refine q_geta E hw fw_X3_168 rfl (tC_3_0 hv0) dX3_takesItem_372 ?_
    refine lv_iload_n hx hb dX3_takesItem_375 rfl (lv_at hl 1 rfl) ?_
    refine lv_aload_n hx hb dX3_takesItem_376 rfl (lv_at hl 0 rfl) ?_
    refine q_geta E hw fw_X3_26 rfl hv0 dX3_takesItem_377 ?_
    refine q_geti E hw fw_X3_185 rfl (tC_3_1 hv0) dX3_takesItem_380 ?_
    refine q_iast E hw (tC_2_4 (tC_3_0 hv0)) hm dX3_takesItem_383 (fun σ4 H locs hm hw => ?_)
    refine lv_aload_n hx hb dX3_takesItem_384 rfl (lv_at hl 0 rfl) ?_
    refine q_cVi (κ := 3) (C := RX3) (T := TX3) (N := 5) [] E hw hm mw_X3_188 (fun u hu => c_X3_isCompares hu hv0) rfl (by decide) hv0 rfl rfl hl.1 (Nat.le_of_ble_eq_true rfl) ⟨Nat.le_of_ble_eq_true rfl, Nat.le_of_ble_eq_true rfl⟩ dX3_takesItem_385 (fun u5 H locs hm hw => ?_)
    exact q_zret E hr hlk hw hm dX3_takesItem_388
  have hm := o_f c3 hm
  by_cases c6 : v2 = 107
  · refine q_lsw (off := 199) E 107 200 c6 dX3_takesItem_1 (by decide) (by decide) (by decide) ?_
    have hm := o_t c6 hm
    refine lv_aload_n hx hb dX3_takesItem_200 rfl (lv_at hl 0 rfl) ?_
    refine q_geta E hw fw_X3_12 rfl hv0 dX3_takesItem_201 ?_
    refine q_geta E hw fw_X3_136 rfl (tC_3_0 hv0) dX3_takesItem_204 ?_
    refine lv_iload_n hx hb dX3_takesItem_207 rfl (lv_at hl 1 rfl) ?_
    refine lv_aload_n hx hb dX3_takesItem_208 rfl (lv_at hl 0 rfl) ?_
    refine q_geta E hw fw_X3_30 rfl hv0 dX3_takesItem_209 ?_
    refine lv_aload_n hx hb dX3_takesItem_212 rfl (lv_at hl 0 rfl) ?_
    refine q_geta E hw fw_X3_26 rfl hv0 dX3_takesItem_213 ?_
    refine q_getl E hw fw_X3_139 rfl (tC_3_1 hv0) dX3_takesItem_216 ?_
    refine q_cVi (κ := 7) (C := RX7) (T := TX7) (N := 12) [.int v1, .ref (b + (LC.2.1 (LC.2.1 v0 0) 1))] E hw hm mw_X3_143 (fun u hu => c_X7_keyNamed hu (tC_3_2 hv0)) rfl (by decide) (tC_3_2 hv0) rfl rfl hl.1 (Nat.le_of_ble_eq_true rfl) ⟨Nat.le_of_ble_eq_true rfl, Nat.le_of_ble_eq_true rfl⟩ dX3_takesItem_219 (fun u7 H locs hm hw => ?_)
    refine q_iast E hw (tC_2_1 (tC_3_0 hv0)) hm dX3_takesItem_222 (fun σ8 H locs hm hw => ?_)
    refine lv_aload_n hx hb dX3_takesItem_223 rfl (lv_at hl 0 rfl) ?_
    refine lv_aload_n hx hb dX3_takesItem_224 rfl (lv_at hl 0 rfl) ?_
    refine q_geta E hw fw_X3_12 rfl hv0 dX3_takesItem_225 ?_
    refine q_geta E hw fw_X3_136 rfl (tC_3_0 hv0) dX3_takesItem_228 ?_
    refine lv_iload_n hx hb dX3_takesItem_231 rfl (lv_at hl 1 rfl) ?_
    refine q_iald E hw (tC_2_1 (tC_3_0 hv0)) hm dX3_takesItem_232 (fun a9 hm => ?_)
    refine q_cVi (κ := 3) (C := RX3) (T := TX3) (N := 5) [] E hw hm mw_X3_149 (fun u hu => c_X3_isKeyName hu hv0) rfl (by decide) hv0 rfl rfl hl.1 (Nat.le_of_ble_eq_true rfl) ⟨Nat.le_of_ble_eq_true rfl, Nat.le_of_ble_eq_true rfl⟩ dX3_takesItem_233 (fun u10 H locs hm hw => ?_)
    exact q_zret E hr hlk hw hm dX3_takesItem_236
  have hm := o_f c6 hm
  by_cases c11 : v2 = 110
  · refine q_lsw (off := 319) E 110 320 c11 dX3_takesItem_1 (by decide) (by decide) (by decide) ?_
    have hm := o_t c11 hm
    refine lv_aload_n hx hb dX3_takesItem_320 rfl (lv_at hl 0 rfl) ?_
    refine q_geta E hw fw_X3_12 rfl hv0 dX3_takesItem_321 ?_
    refine q_geta E hw fw_X3_171 rfl (tC_3_0 hv0) dX3_takesItem_324 ?_
    refine lv_iload_n hx hb dX3_takesItem_327 rfl (lv_at hl 1 rfl) ?_
    refine lv_aload_n hx hb dX3_takesItem_328 rfl (lv_at hl 0 rfl) ?_
    refine q_geta E hw fw_X3_26 rfl hv0 dX3_takesItem_329 ?_
    refine q_geti E hw fw_X3_174 rfl (tC_3_1 hv0) dX3_takesItem_332 ?_
    refine q_iast E hw (tC_2_3 (tC_3_0 hv0)) hm dX3_takesItem_335 (fun σ12 H locs hm hw => ?_)
    refine lv_aload_n hx hb dX3_takesItem_336 rfl (lv_at hl 0 rfl) ?_
    refine q_geta E hw fw_X3_26 rfl hv0 dX3_takesItem_337 ?_
    refine lv_aload_n hx hb dX3_takesItem_340 rfl (lv_at hl 0 rfl) ?_
    refine q_geta E hw fw_X3_12 rfl hv0 dX3_takesItem_341 ?_
    refine q_geta E hw fw_X3_88 rfl (tC_3_0 hv0) dX3_takesItem_344 ?_
    refine lv_iload_n hx hb dX3_takesItem_347 rfl (lv_at hl 1 rfl) ?_
    refine q_iald E hw (tC_2_0 (tC_3_0 hv0)) hm dX3_takesItem_348 (fun a13 hm => ?_)
    refine q_cSi [.ref (b + (LC.2.1 v0 1))] E hw hm ms_X3_176 (fun u hu => c_X3_leastFor hu ) rfl rfl hl.1 (Nat.le_of_ble_eq_true rfl) ⟨Nat.le_of_ble_eq_true rfl, Nat.le_of_ble_eq_true rfl⟩ dX3_takesItem_349 (fun u14 H locs hm hw => ?_)
    refine lv_aload_n hx hb dX3_takesItem_352 rfl (lv_at hl 0 rfl) ?_
    refine q_geta E hw fw_X3_12 rfl hv0 dX3_takesItem_353 ?_
    refine q_geta E hw fw_X3_88 rfl (tC_3_0 hv0) dX3_takesItem_356 ?_
    refine lv_iload_n hx hb dX3_takesItem_359 rfl (lv_at hl 1 rfl) ?_
    refine q_iald E hw (tC_2_0 (tC_3_0 hv0)) hm dX3_takesItem_360 (fun a15 hm => ?_)
    refine q_cSi [.int u14.1, .ref (b + (LC.2.1 v0 1))] E hw hm ms_X3_179 (fun u hu => c_X3_mostFor hu ) rfl rfl hl.1 (Nat.le_of_ble_eq_true rfl) ⟨Nat.le_of_ble_eq_true rfl, Nat.le_of_ble_eq_true rfl⟩ dX3_takesItem_361 (fun u16 H locs hm hw => ?_)
    refine q_cVi (κ := 6) (C := RX6) (T := TX6) (N := 12) [] E hw hm mw_X3_182 (fun u hu => c_X6_isNumberFrom hu (tC_3_1 hv0)) rfl (by decide) (tC_3_1 hv0) rfl rfl hl.1 (Nat.le_of_ble_eq_true rfl) ⟨Nat.le_of_ble_eq_true rfl, Nat.le_of_ble_eq_true rfl⟩ dX3_takesItem_364 (fun u17 H locs hm hw => ?_)
    exact q_zret E hr hlk hw hm dX3_takesItem_367
  have hm := o_f c11 hm
  by_cases c18 : v2 = 111
  · refine q_lsw (off := 282) E 111 283 c18 dX3_takesItem_1 (by decide) (by decide) (by decide) ?_
    have hm := o_t c18 hm
    refine lv_aload_n hx hb dX3_takesItem_283 rfl (lv_at hl 0 rfl) ?_
    refine q_geta E hw fw_X3_12 rfl hv0 dX3_takesItem_284 ?_
    refine q_geta E hw fw_X3_168 rfl (tC_3_0 hv0) dX3_takesItem_287 ?_
    refine lv_iload_n hx hb dX3_takesItem_290 rfl (lv_at hl 1 rfl) ?_
    refine lv_aload_n hx hb dX3_takesItem_291 rfl (lv_at hl 0 rfl) ?_
    refine q_geta E hw fw_X3_30 rfl hv0 dX3_takesItem_292 ?_
    refine lv_aload_n hx hb dX3_takesItem_295 rfl (lv_at hl 0 rfl) ?_
    refine q_geta E hw fw_X3_26 rfl hv0 dX3_takesItem_296 ?_
    refine q_getl E hw fw_X3_139 rfl (tC_3_1 hv0) dX3_takesItem_299 ?_
    refine q_cVi (κ := 7) (C := RX7) (T := TX7) (N := 12) [.int v1, .ref (b + (LC.2.1 (LC.2.1 v0 0) 4))] E hw hm mw_X3_162 (fun u hu => c_X7_keeperNamed hu (tC_3_2 hv0)) rfl (by decide) (tC_3_2 hv0) rfl rfl hl.1 (Nat.le_of_ble_eq_true rfl) ⟨Nat.le_of_ble_eq_true rfl, Nat.le_of_ble_eq_true rfl⟩ dX3_takesItem_302 (fun u19 H locs hm hw => ?_)
    refine q_iast E hw (tC_2_4 (tC_3_0 hv0)) hm dX3_takesItem_305 (fun σ20 H locs hm hw => ?_)
    refine lv_aload_n hx hb dX3_takesItem_306 rfl (lv_at hl 0 rfl) ?_
    refine lv_aload_n hx hb dX3_takesItem_307 rfl (lv_at hl 0 rfl) ?_
    refine q_geta E hw fw_X3_12 rfl hv0 dX3_takesItem_308 ?_
    refine q_geta E hw fw_X3_168 rfl (tC_3_0 hv0) dX3_takesItem_311 ?_
    refine lv_iload_n hx hb dX3_takesItem_314 rfl (lv_at hl 1 rfl) ?_
    refine q_iald E hw (tC_2_4 (tC_3_0 hv0)) hm dX3_takesItem_315 (fun a21 hm => ?_)
    refine q_cVi (κ := 3) (C := RX3) (T := TX3) (N := 5) [] E hw hm mw_X3_165 (fun u hu => c_X3_isKeeperName hu hv0) rfl (by decide) hv0 rfl rfl hl.1 (Nat.le_of_ble_eq_true rfl) ⟨Nat.le_of_ble_eq_true rfl, Nat.le_of_ble_eq_true rfl⟩ dX3_takesItem_316 (fun u22 H locs hm hw => ?_)
    exact q_zret E hr hlk hw hm dX3_takesItem_319
  have hm := o_f c18 hm
  by_cases c23 : v2 = 112
  · refine q_lsw (off := 245) E 112 246 c23 dX3_takesItem_1 (by decide) (by decide) (by decide) ?_
    have hm := o_t c23 hm
    refine lv_aload_n hx hb dX3_takesItem_246 rfl (lv_at hl 0 rfl) ?_
    refine q_geta E hw fw_X3_12 rfl hv0 dX3_takesItem_247 ?_
    refine q_geta E hw fw_X3_159 rfl (tC_3_0 hv0) dX3_takesItem_250 ?_
    refine lv_iload_n hx hb dX3_takesItem_253 rfl (lv_at hl 1 rfl) ?_
    refine lv_aload_n hx hb dX3_takesItem_254 rfl (lv_at hl 0 rfl) ?_
    refine q_geta E hw fw_X3_30 rfl hv0 dX3_takesItem_255 ?_
    refine lv_aload_n hx hb dX3_takesItem_258 rfl (lv_at hl 0 rfl) ?_
    refine q_geta E hw fw_X3_26 rfl hv0 dX3_takesItem_259 ?_
    refine q_getl E hw fw_X3_139 rfl (tC_3_1 hv0) dX3_takesItem_262 ?_
    refine q_cVi (κ := 7) (C := RX7) (T := TX7) (N := 12) [.int v1, .ref (b + (LC.2.1 (LC.2.1 v0 0) 2))] E hw hm mw_X3_162 (fun u hu => c_X7_keeperNamed hu (tC_3_2 hv0)) rfl (by decide) (tC_3_2 hv0) rfl rfl hl.1 (Nat.le_of_ble_eq_true rfl) ⟨Nat.le_of_ble_eq_true rfl, Nat.le_of_ble_eq_true rfl⟩ dX3_takesItem_265 (fun u24 H locs hm hw => ?_)
    refine q_iast E hw (tC_2_2 (tC_3_0 hv0)) hm dX3_takesItem_268 (fun σ25 H locs hm hw => ?_)
    refine lv_aload_n hx hb dX3_takesItem_269 rfl (lv_at hl 0 rfl) ?_
    refine lv_aload_n hx hb dX3_takesItem_270 rfl (lv_at hl 0 rfl) ?_
    refine q_geta E hw fw_X3_12 rfl hv0 dX3_takesItem_271 ?_
    refine q_geta E hw fw_X3_159 rfl (tC_3_0 hv0) dX3_takesItem_274 ?_
    refine lv_iload_n hx hb dX3_takesItem_277 rfl (lv_at hl 1 rfl) ?_
    refine q_iald E hw (tC_2_2 (tC_3_0 hv0)) hm dX3_takesItem_278 (fun a26 hm => ?_)
    refine q_cVi (κ := 3) (C := RX3) (T := TX3) (N := 5) [] E hw hm mw_X3_165 (fun u hu => c_X3_isKeeperName hu hv0) rfl (by decide) hv0 rfl rfl hl.1 (Nat.le_of_ble_eq_true rfl) ⟨Nat.le_of_ble_eq_true rfl, Nat.le_of_ble_eq_true rfl⟩ dX3_takesItem_279 (fun u27 H locs hm hw => ?_)
    exact q_zret E hr hlk hw hm dX3_takesItem_282
  have hm := o_f c23 hm
  by_cases c28 : v2 = 115
  · refine q_lsw (off := 137) E 115 138 c28 dX3_takesItem_1 (by decide) (by decide) (by decide) ?_
    have hm := o_t c28 hm
    refine lv_aload_n hx hb dX3_takesItem_138 rfl (lv_at hl 0 rfl) ?_
    refine q_geta E hw fw_X3_12 rfl hv0 dX3_takesItem_139 ?_
    refine q_geta E hw fw_X3_136 rfl (tC_3_0 hv0) dX3_takesItem_142 ?_
    refine lv_iload_n hx hb dX3_takesItem_145 rfl (lv_at hl 1 rfl) ?_
    refine lv_aload_n hx hb dX3_takesItem_146 rfl (lv_at hl 0 rfl) ?_
    refine q_geta E hw fw_X3_30 rfl hv0 dX3_takesItem_147 ?_
    refine lv_aload_n hx hb dX3_takesItem_150 rfl (lv_at hl 0 rfl) ?_
    refine q_geta E hw fw_X3_26 rfl hv0 dX3_takesItem_151 ?_
    refine q_getl E hw fw_X3_139 rfl (tC_3_1 hv0) dX3_takesItem_154 ?_
    refine q_cVi (κ := 7) (C := RX7) (T := TX7) (N := 12) [.int v1, .ref (b + (LC.2.1 (LC.2.1 v0 0) 1))] E hw hm mw_X3_143 (fun u hu => c_X7_keyNamed hu (tC_3_2 hv0)) rfl (by decide) (tC_3_2 hv0) rfl rfl hl.1 (Nat.le_of_ble_eq_true rfl) ⟨Nat.le_of_ble_eq_true rfl, Nat.le_of_ble_eq_true rfl⟩ dX3_takesItem_157 (fun u29 H locs hm hw => ?_)
    refine q_iast E hw (tC_2_1 (tC_3_0 hv0)) hm dX3_takesItem_160 (fun σ30 H locs hm hw => ?_)
    refine lv_aload_n hx hb dX3_takesItem_161 rfl (lv_at hl 0 rfl) ?_
    refine lv_aload_n hx hb dX3_takesItem_162 rfl (lv_at hl 0 rfl) ?_
    refine q_geta E hw fw_X3_12 rfl hv0 dX3_takesItem_163 ?_
    refine q_geta E hw fw_X3_136 rfl (tC_3_0 hv0) dX3_takesItem_166 ?_
    refine lv_iload_n hx hb dX3_takesItem_169 rfl (lv_at hl 1 rfl) ?_
    refine q_iald E hw (tC_2_1 (tC_3_0 hv0)) hm dX3_takesItem_170 (fun a31 hm => ?_)
    refine q_cVi (κ := 3) (C := RX3) (T := TX3) (N := 5) [] E hw hm mw_X3_149 (fun u hu => c_X3_isKeyName hu hv0) rfl (by decide) hv0 rfl rfl hl.1 (Nat.le_of_ble_eq_true rfl) ⟨Nat.le_of_ble_eq_true rfl, Nat.le_of_ble_eq_true rfl⟩ dX3_takesItem_171 (fun u32 H locs hm hw => ?_)
    refine lv_if_eq (tgt := 198) hx hb dX3_takesItem_174 (by decide) (fun c33 => ?_) (fun c33 => ?_)
    · have hm := o_t c33 hm
      exact w_X3_takesItem_198 E hr hlk hm  hw (lv_sub hl [] rfl)
    · have hm := o_f c33 hm
      refine lv_aload_n hx hb dX3_takesItem_177 rfl (lv_at hl 0 rfl) ?_
      refine lv_aload_n hx hb dX3_takesItem_178 rfl (lv_at hl 0 rfl) ?_
      refine q_geta E hw fw_X3_12 rfl hv0 dX3_takesItem_179 ?_
      refine q_geta E hw fw_X3_136 rfl (tC_3_0 hv0) dX3_takesItem_182 ?_
      refine lv_iload_n hx hb dX3_takesItem_185 rfl (lv_at hl 1 rfl) ?_
      refine q_iald E hw (tC_2_1 (tC_3_0 hv0)) hm dX3_takesItem_186 (fun a34 hm => ?_)
      refine lv_iconst (v := 1) hx hb dX3_takesItem_187 (by decide) ?_
      refine q_cVi (κ := 3) (C := RX3) (T := TX3) (N := 5) [] E hw hm mw_X3_152 (fun u hu => c_X3_isSumOrNot hu hv0) rfl (by decide) hv0 rfl rfl hl.1 (Nat.le_of_ble_eq_true rfl) ⟨Nat.le_of_ble_eq_true rfl, Nat.le_of_ble_eq_true rfl⟩ dX3_takesItem_188 (fun u35 H locs hm hw => ?_)
      refine lv_if_eq (tgt := 198) hx hb dX3_takesItem_191 (by decide) (fun c36 => ?_) (fun c36 => ?_)
      · have hm := o_t c36 hm
        exact w_X3_takesItem_198 E hr hlk hm  hw (lv_sub hl [] rfl)
      · have hm := o_f c36 hm
        refine lv_iconst (v := 1) hx hb dX3_takesItem_194 (by decide) ?_
        refine lv_goto (tgt := 199) hx hb dX3_takesItem_195 (by decide) ?_
        exact w_X3_takesItem_199 E hr hlk hm  hw (lv_sub hl [] rfl)
  have hm := o_f c28 hm
  by_cases c37 : v2 = 118
  · refine q_lsw (off := 75) E 118 76 c37 dX3_takesItem_1 (by decide) (by decide) (by decide) ?_
    have hm := o_t c37 hm
    refine lv_aload_n hx hb dX3_takesItem_76 rfl (lv_at hl 0 rfl) ?_
    refine q_geta E hw fw_X3_12 rfl hv0 dX3_takesItem_77 ?_
    refine q_geta E hw fw_X3_136 rfl (tC_3_0 hv0) dX3_takesItem_80 ?_
    refine lv_iload_n hx hb dX3_takesItem_83 rfl (lv_at hl 1 rfl) ?_
    refine lv_aload_n hx hb dX3_takesItem_84 rfl (lv_at hl 0 rfl) ?_
    refine q_geta E hw fw_X3_30 rfl hv0 dX3_takesItem_85 ?_
    refine lv_aload_n hx hb dX3_takesItem_88 rfl (lv_at hl 0 rfl) ?_
    refine q_geta E hw fw_X3_26 rfl hv0 dX3_takesItem_89 ?_
    refine q_getl E hw fw_X3_139 rfl (tC_3_1 hv0) dX3_takesItem_92 ?_
    refine q_cVi (κ := 7) (C := RX7) (T := TX7) (N := 12) [.int v1, .ref (b + (LC.2.1 (LC.2.1 v0 0) 1))] E hw hm mw_X3_143 (fun u hu => c_X7_keyNamed hu (tC_3_2 hv0)) rfl (by decide) (tC_3_2 hv0) rfl rfl hl.1 (Nat.le_of_ble_eq_true rfl) ⟨Nat.le_of_ble_eq_true rfl, Nat.le_of_ble_eq_true rfl⟩ dX3_takesItem_95 (fun u38 H locs hm hw => ?_)
    refine q_iast E hw (tC_2_1 (tC_3_0 hv0)) hm dX3_takesItem_98 (fun σ39 H locs hm hw => ?_)
    refine lv_aload_n hx hb dX3_takesItem_99 rfl (lv_at hl 0 rfl) ?_
    refine lv_aload_n hx hb dX3_takesItem_100 rfl (lv_at hl 0 rfl) ?_
    refine q_geta E hw fw_X3_12 rfl hv0 dX3_takesItem_101 ?_
    refine q_geta E hw fw_X3_136 rfl (tC_3_0 hv0) dX3_takesItem_104 ?_
    refine lv_iload_n hx hb dX3_takesItem_107 rfl (lv_at hl 1 rfl) ?_
    refine q_iald E hw (tC_2_1 (tC_3_0 hv0)) hm dX3_takesItem_108 (fun a40 hm => ?_)
    refine q_cVi (κ := 3) (C := RX3) (T := TX3) (N := 5) [] E hw hm mw_X3_149 (fun u hu => c_X3_isKeyName hu hv0) rfl (by decide) hv0 rfl rfl hl.1 (Nat.le_of_ble_eq_true rfl) ⟨Nat.le_of_ble_eq_true rfl, Nat.le_of_ble_eq_true rfl⟩ dX3_takesItem_109 (fun u41 H locs hm hw => ?_)
    refine lv_if_eq (tgt := 136) hx hb dX3_takesItem_112 (by decide) (fun c42 => ?_) (fun c42 => ?_)
    · have hm := o_t c42 hm
      exact w_X3_takesItem_136 E hr hlk hm  hw (lv_sub hl [] rfl)
    · have hm := o_f c42 hm
      refine lv_aload_n hx hb dX3_takesItem_115 rfl (lv_at hl 0 rfl) ?_
      refine lv_aload_n hx hb dX3_takesItem_116 rfl (lv_at hl 0 rfl) ?_
      refine q_geta E hw fw_X3_12 rfl hv0 dX3_takesItem_117 ?_
      refine q_geta E hw fw_X3_136 rfl (tC_3_0 hv0) dX3_takesItem_120 ?_
      refine lv_iload_n hx hb dX3_takesItem_123 rfl (lv_at hl 1 rfl) ?_
      refine q_iald E hw (tC_2_1 (tC_3_0 hv0)) hm dX3_takesItem_124 (fun a43 hm => ?_)
      refine lv_iconst (v := 0) hx hb dX3_takesItem_125 (by decide) ?_
      refine q_cVi (κ := 3) (C := RX3) (T := TX3) (N := 5) [] E hw hm mw_X3_152 (fun u hu => c_X3_isSumOrNot hu hv0) rfl (by decide) hv0 rfl rfl hl.1 (Nat.le_of_ble_eq_true rfl) ⟨Nat.le_of_ble_eq_true rfl, Nat.le_of_ble_eq_true rfl⟩ dX3_takesItem_126 (fun u44 H locs hm hw => ?_)
      refine lv_if_eq (tgt := 136) hx hb dX3_takesItem_129 (by decide) (fun c45 => ?_) (fun c45 => ?_)
      · have hm := o_t c45 hm
        exact w_X3_takesItem_136 E hr hlk hm  hw (lv_sub hl [] rfl)
      · have hm := o_f c45 hm
        refine lv_iconst (v := 1) hx hb dX3_takesItem_132 (by decide) ?_
        refine lv_goto (tgt := 137) hx hb dX3_takesItem_133 (by decide) ?_
        exact w_X3_takesItem_137 E hr hlk hm  hw (lv_sub hl [] rfl)
  have hm := o_f c37 hm
  refine lv_lookup (off := 388) (tgt := 389) hx hb dX3_takesItem_1 (by decide) (by rw [lv_osw c1 (by decide), lv_osw c3 (by decide), lv_osw c6 (by decide), lv_osw c11 (by decide), lv_osw c18 (by decide), lv_osw c23 (by decide), lv_osw c28 (by decide), lv_osw c37 (by decide)]; rfl) (by decide) ?_
  refine lv_aload_n hx hb dX3_takesItem_389 rfl (lv_at hl 0 rfl) ?_
  refine q_geta E hw fw_X3_26 rfl hv0 dX3_takesItem_390 ?_
  refine lv_bipush (v := 59) hx hb dX3_takesItem_393 (by decide) ?_
  refine q_cVi (κ := 6) (C := RX6) (T := TX6) (N := 12) [] E hw hm mw_X3_70 (fun u hu => c_X6_isSign hu (tC_3_1 hv0)) rfl (by decide) (tC_3_1 hv0) rfl rfl hl.1 (Nat.le_of_ble_eq_true rfl) ⟨Nat.le_of_ble_eq_true rfl, Nat.le_of_ble_eq_true rfl⟩ dX3_takesItem_395 (fun u46 H locs hm hw => ?_)
  exact q_zret E hr hlk hw hm dX3_takesItem_398
theorem c_X3_takesItem {l : Launch} {D : va_G} {cy : Nat → ClassId} {b : Nat} {v0 : Nat} {v1 : Int32} {v2 : Int32} {σ : ST} {r : Int32 × ST} (hm : f_X3_takesItem v0 v1 v2 σ = some r) (hv0 : LC.1 v0 = 3) : Met l yX3_takesItem (wU yX3_takesItem cX3_takesItem 3 (some .boolean)) (rmD 3) (PcP D cy LC b [.ref (b + v0), .int v1, .int v2] σ) (QcP D cy LC b (some (.int r.1)) r.2) 0 0 (inP LC b) :=
  q_met (lv := [(0, .ref (b + v0)), (1, .int v1), (2, .int v2)]) LC_ok (by decide) (Nat.le_of_ble_eq_true rfl) rfl (fun _ _ _ _ _ _ _ _ _ E hr hlk hw hl => w_X3_takesItem_0 E hr hlk hm hv0 hw hl)

def k_X3_takesItems_2 : Nat → Nat → Int32 → Nat → Int32 → ST → Option (Int32 × ST)
  | 0, _, _, _, _, _ => none
  | n + 1, v0, v1, v2, v3, σ => (f_J0_length_8abf5 v2 σ).bind fun u1 =>
  if u1.1 ≤ v3 then ((ckZ 1).bind fun z => some (z, u1.2)) else ((f_X6_step (LC.2.1 v0 1) u1.2).bind fun u3 =>
  (f_J0_charAt_5068e v2 v3 u3).bind fun u4 =>
  (f_X3_takesItem v0 v1 u4.1 u4.2).bind fun u5 =>
  if u5.1 = 0 then ((ckZ 0).bind fun z => some (z, u5.2)) else (k_X3_takesItems_2 n v0 v1 v2 (v3 + 1) u5.2))
set_option maxRecDepth 20000 in
set_option maxHeartbeats 1000000 in
theorem w_X3_takesItems_2 {p : Program} {l : Launch} {e : Env} {s : State} {m : MethodId} {args : Array Value} {below : List Frame} {meth : Method} {c : Code} {D : va_G} {cy : Nat → ClassId} {b : Nat} (E : CX p m c cX3_takesItems 4 s args RX3 D cy LC) (hr : meth.sig.returnType = some .boolean) (hlk : meth.locks = false) {r : Int32 × ST} : ∀ (n : Nat) (v0 : Nat) (v1 : Int32) (v2 : Nat) (v3 : Int32) (σ : ST) (H : Heap) (locs : List Loc) (ls : Array Slot), k_X3_takesItems_2 n v0 v1 v2 v3 σ = some r → LC.1 v0 = 3 → v2 < 15 → PH D cy LC b σ s H locs → lv_has ls 4 [(0, .ref (b + v0)), (1, .int v1), (2, .ref (cy (100 + v2))), (3, .int v3)] → W p l e (rmD 7) s m args below meth c H locs 0 0 (MQ below (QcP D cy LC b (some (.int r.1)) r.2) args s 0 0 (inP LC b)) (F0 m 2 ls []) := by
  have hx := E.1.1
  have hb := E.1.2.1
  intro n
  induction n with
  | zero =>
    intro v0 v1 v2 v3 σ H locs ls hm
    cases hm
  | succ n ih =>
    intro v0 v1 v2 v3 σ H locs ls hm hv0 hv2 hw hl
    rw [k_X3_takesItems_2] at hm
    refine lv_iload_n hx hb dX3_takesItems_2 rfl (lv_at hl 3 rfl) ?_
    refine lv_aload_n hx hb dX3_takesItems_3 rfl (lv_at hl 2 rfl) ?_
    refine q_cTi [.int v3] E hw hm mw_X3_122 (fun u hu => c_J0_length_8abf5 hu hv2) hv2 rfl rfl hl.1 (Nat.le_of_ble_eq_true rfl) ⟨Nat.le_of_ble_eq_true rfl, Nat.le_of_ble_eq_true rfl⟩ dX3_takesItems_4 (fun u1 H locs hm hw => ?_)
    refine lv_icmp_ge (tgt := 38) hx hb dX3_takesItems_7 (by decide) (fun c2 => ?_) (fun c2 => ?_)
    · have hm := o_t c2 hm
      refine lv_iconst (v := 1) hx hb dX3_takesItems_38 (by decide) ?_
      exact q_zret E hr hlk hw hm dX3_takesItems_39
    · have hm := o_f c2 hm
      refine lv_aload_n hx hb dX3_takesItems_10 rfl (lv_at hl 0 rfl) ?_
      refine q_geta E hw fw_X3_26 rfl hv0 dX3_takesItems_11 ?_
      refine q_cVv (κ := 6) (C := RX6) (T := TX6) (N := 12) [] E hw hm mw_X3_37 (fun u hu => c_X6_step hu (tC_3_1 hv0)) rfl (by decide) (tC_3_1 hv0) rfl rfl hl.1 (Nat.le_of_ble_eq_true rfl) ⟨Nat.le_of_ble_eq_true rfl, Nat.le_of_ble_eq_true rfl⟩ dX3_takesItems_14 (fun u3 H locs hm hw => ?_)
      refine lv_aload_n hx hb dX3_takesItems_17 rfl (lv_at hl 0 rfl) ?_
      refine lv_iload_n hx hb dX3_takesItems_18 rfl (lv_at hl 1 rfl) ?_
      refine lv_aload_n hx hb dX3_takesItems_19 rfl (lv_at hl 2 rfl) ?_
      refine lv_iload_n hx hb dX3_takesItems_20 rfl (lv_at hl 3 rfl) ?_
      refine q_cTi [.int v1, .ref (b + v0)] E hw hm mw_X3_128 (fun u hu => c_J0_charAt_5068e hu hv2) hv2 rfl rfl hl.1 (Nat.le_of_ble_eq_true rfl) ⟨Nat.le_of_ble_eq_true rfl, Nat.le_of_ble_eq_true rfl⟩ dX3_takesItems_21 (fun u4 H locs hm hw => ?_)
      refine q_cVi (κ := 3) (C := RX3) (T := TX3) (N := 5) [] E hw hm mw_X3_132 (fun u hu => c_X3_takesItem hu hv0) rfl (by decide) hv0 rfl rfl hl.1 (Nat.le_of_ble_eq_true rfl) ⟨Nat.le_of_ble_eq_true rfl, Nat.le_of_ble_eq_true rfl⟩ dX3_takesItems_24 (fun u5 H locs hm hw => ?_)
      refine lv_if_ne (tgt := 32) hx hb dX3_takesItems_27 (by decide) (fun c6 => ?_) (fun c6 => ?_)
      · have hm := o_f c6 hm
        refine lv_iinc (v := v3 + 1) (lv' := [(3, .int (v3 + 1)), (0, .ref (b + v0)), (1, .int v1), (2, .ref (cy (100 + v2)))]) hx hb dX3_takesItems_32 hl (k := 3) rfl rfl (by decide) rfl (fun ls hl => ?_)
        refine lv_goto (tgt := 2) hx hb dX3_takesItems_35 (by decide) ?_
        exact ih _ _ _ _ _ _ _ _ hm hv0 hv2 hw (lv_sub hl [1, 2, 3, 0] rfl)
      · have hm := o_t c6 hm
        refine lv_iconst (v := 0) hx hb dX3_takesItems_30 (by decide) ?_
        exact q_zret E hr hlk hw hm dX3_takesItems_31
def f_X3_takesItems (v0 : Nat) (v1 : Int32) (v2 : Nat) (σ : ST) : Option (Int32 × ST) :=
  k_X3_takesItems_2 FU v0 v1 v2 0 σ
set_option maxRecDepth 20000 in
set_option maxHeartbeats 1000000 in
theorem w_X3_takesItems_0 {p : Program} {l : Launch} {e : Env} {s : State} {m : MethodId} {args : Array Value} {below : List Frame} {meth : Method} {c : Code} {D : va_G} {cy : Nat → ClassId} {b : Nat} (E : CX p m c cX3_takesItems 4 s args RX3 D cy LC) (hr : meth.sig.returnType = some .boolean) (hlk : meth.locks = false) {r : Int32 × ST} {v0 : Nat} {v1 : Int32} {v2 : Nat} {σ : ST} {H : Heap} {locs : List Loc} {ls : Array Slot} (hm : f_X3_takesItems v0 v1 v2 σ = some r) (hv0 : LC.1 v0 = 3) (hv2 : v2 < 15) (hw : PH D cy LC b σ s H locs) (hl : lv_has ls 4 [(0, .ref (b + v0)), (1, .int v1), (2, .ref (cy (100 + v2)))]) : W p l e (rmD 7) s m args below meth c H locs 0 0 (MQ below (QcP D cy LC b (some (.int r.1)) r.2) args s 0 0 (inP LC b)) (F0 m 0 ls []) := by
  have hx := E.1.1
  have hb := E.1.2.1
  unfold f_X3_takesItems at hm
  refine lv_iconst (v := 0) hx hb dX3_takesItems_0 (by decide) ?_
  refine lv_istore_n (lv' := [(3, .int 0), (0, .ref (b + v0)), (1, .int v1), (2, .ref (cy (100 + v2)))]) hx hb dX3_takesItems_1 rfl hl (by decide) rfl (fun ls hl => ?_)
  exact w_X3_takesItems_2 E hr hlk _ _ _ _ _ _ _ _ _ hm hv0 hv2 hw (lv_sub hl [1, 2, 3, 0] rfl)
theorem c_X3_takesItems {l : Launch} {D : va_G} {cy : Nat → ClassId} {b : Nat} {v0 : Nat} {v1 : Int32} {v2 : Nat} {σ : ST} {r : Int32 × ST} (hm : f_X3_takesItems v0 v1 v2 σ = some r) (hv0 : LC.1 v0 = 3) (hv2 : v2 < 15) : Met l yX3_takesItems (wU yX3_takesItems cX3_takesItems 4 (some .boolean)) (rmD 7) (PcP D cy LC b [.ref (b + v0), .int v1, .ref (cy (100 + v2))] σ) (QcP D cy LC b (some (.int r.1)) r.2) 0 0 (inP LC b) :=
  q_met (lv := [(0, .ref (b + v0)), (1, .int v1), (2, .ref (cy (100 + v2)))]) LC_ok (by decide) (Nat.le_of_ble_eq_true rfl) rfl (fun _ _ _ _ _ _ _ _ _ E hr hlk hw hl => w_X3_takesItems_0 E hr hlk hm hv0 hv2 hw hl)

def k_X3_takesSet_52 (rec4 : Nat → Int32 → Int32 → Int32 → ST → Option (Int32 × ST)) (v0 : Nat) (v1 : Int32) (v2 : Int32) (v3 : Int32) (σ : ST) : Option (Int32 × ST) :=
  (f_X7_keeperNamed (LC.2.1 v0 2) (gJ σ (LC.2.1 v0 1) 9) σ).bind fun u1 =>
  (f_X3_isKeeperName v0 u1.1 u1.2).bind fun u2 =>
  if u2.1 = 0 then ((ckZ 0).bind fun z => some (z, u2.2)) else (if ((v2 >>> (u1.1 &&& 31)) &&& 1) = 0 then (rec4 v0 v1 (v2 ||| (1 <<< (u1.1 &&& 31))) (v3 + 1) u2.2) else ((f_X6_blame (LC.2.1 v0 1) 5 u2.2).bind fun u5 =>
  (ckZ u5.1).bind fun z => some (z, u5.2)))
set_option maxRecDepth 20000 in
set_option maxHeartbeats 1000000 in
theorem w_X3_takesSet_52 {p : Program} {l : Launch} {e : Env} {s : State} {m : MethodId} {args : Array Value} {below : List Frame} {meth : Method} {c : Code} {D : va_G} {cy : Nat → ClassId} {b : Nat} (E : CX p m c cX3_takesSet 5 s args RX3 D cy LC) (hr : meth.sig.returnType = some .boolean) (hlk : meth.locks = false) {r : Int32 × ST} {rec4 : Nat → Int32 → Int32 → Int32 → ST → Option (Int32 × ST)} (hrec4 : ∀ (v0 : Nat) (v1 : Int32) (v2 : Int32) (v3 : Int32) (σ : ST) (H : Heap) (locs : List Loc) (ls : Array Slot), rec4 v0 v1 v2 v3 σ = some r → LC.1 v0 = 3 → PH D cy LC b σ s H locs → lv_has ls 5 [(0, .ref (b + v0)), (1, .int v1), (2, .int v2), (3, .int v3)] → W p l e (rmD 7) s m args below meth c H locs 0 0 (MQ below (QcP D cy LC b (some (.int r.1)) r.2) args s 0 0 (inP LC b)) (F0 m 4 ls [])) {v0 : Nat} {v1 : Int32} {v2 : Int32} {v3 : Int32} {σ : ST} {H : Heap} {locs : List Loc} {ls : Array Slot} (hm : k_X3_takesSet_52 rec4 v0 v1 v2 v3 σ = some r) (hv0 : LC.1 v0 = 3) (hw : PH D cy LC b σ s H locs) (hl : lv_has ls 5 [(0, .ref (b + v0)), (1, .int v1), (2, .int v2), (3, .int v3)]) : W p l e (rmD 7) s m args below meth c H locs 0 0 (MQ below (QcP D cy LC b (some (.int r.1)) r.2) args s 0 0 (inP LC b)) (F0 m 52 ls []) := by
  have hx := E.1.1
  have hb := E.1.2.1
  unfold k_X3_takesSet_52 at hm
  refine lv_aload_n hx hb dX3_takesSet_52 rfl (lv_at hl 0 rfl) ?_
  refine q_geta E hw fw_X3_30 rfl hv0 dX3_takesSet_53 ?_
  refine lv_aload_n hx hb dX3_takesSet_56 rfl (lv_at hl 0 rfl) ?_
  refine q_geta E hw fw_X3_26 rfl hv0 dX3_takesSet_57 ?_
  refine q_getl E hw fw_X3_139 rfl (tC_3_1 hv0) dX3_takesSet_60 ?_
  refine q_cVi (κ := 7) (C := RX7) (T := TX7) (N := 12) [] E hw hm mw_X3_162 (fun u hu => c_X7_keeperNamed hu (tC_3_2 hv0)) rfl (by decide) (tC_3_2 hv0) rfl rfl hl.1 (Nat.le_of_ble_eq_true rfl) ⟨Nat.le_of_ble_eq_true rfl, Nat.le_of_ble_eq_true rfl⟩ dX3_takesSet_63 (fun u1 H locs hm hw => ?_)
  refine lv_istore (lv' := [(4, .int u1.1), (0, .ref (b + v0)), (1, .int v1), (2, .int v2), (3, .int v3)]) hx hb dX3_takesSet_66 hl (by decide) rfl (fun ls hl => ?_)
  refine lv_aload_n hx hb dX3_takesSet_68 rfl (lv_at hl 1 rfl) ?_
  refine lv_iload hx hb dX3_takesSet_69 (lv_at hl 0 rfl) ?_
  refine q_cVi (κ := 3) (C := RX3) (T := TX3) (N := 5) [] E hw hm mw_X3_165 (fun u hu => c_X3_isKeeperName hu hv0) rfl (by decide) hv0 rfl rfl hl.1 (Nat.le_of_ble_eq_true rfl) ⟨Nat.le_of_ble_eq_true rfl, Nat.le_of_ble_eq_true rfl⟩ dX3_takesSet_71 (fun u2 H locs hm hw => ?_)
  refine lv_if_ne (tgt := 79) hx hb dX3_takesSet_74 (by decide) (fun c3 => ?_) (fun c3 => ?_)
  · have hm := o_f c3 hm
    refine lv_iload_n hx hb dX3_takesSet_79 rfl (lv_at hl 3 rfl) ?_
    refine lv_iload hx hb dX3_takesSet_80 (lv_at hl 0 rfl) ?_
    refine lv_ishr hx hb dX3_takesSet_82 ?_
    refine lv_iconst (v := 1) hx hb dX3_takesSet_83 (by decide) ?_
    refine lv_iand hx hb dX3_takesSet_84 ?_
    refine lv_if_eq (tgt := 97) hx hb dX3_takesSet_85 (by decide) (fun c4 => ?_) (fun c4 => ?_)
    · have hm := o_t c4 hm
      refine lv_iload_n hx hb dX3_takesSet_97 rfl (lv_at hl 3 rfl) ?_
      refine lv_iconst (v := 1) hx hb dX3_takesSet_98 (by decide) ?_
      refine lv_iload hx hb dX3_takesSet_99 (lv_at hl 0 rfl) ?_
      refine lv_ishl hx hb dX3_takesSet_101 ?_
      refine lv_ior hx hb dX3_takesSet_102 ?_
      refine lv_istore_n (lv' := [(2, .int (v2 ||| (1 <<< (u1.1 &&& 31)))), (4, .int u1.1), (0, .ref (b + v0)), (1, .int v1), (3, .int v3)]) hx hb dX3_takesSet_103 rfl hl (by decide) rfl (fun ls hl => ?_)
      refine lv_iinc (v := v3 + 1) (lv' := [(3, .int (v3 + 1)), (2, .int (v2 ||| (1 <<< (u1.1 &&& 31)))), (4, .int u1.1), (0, .ref (b + v0)), (1, .int v1)]) hx hb dX3_takesSet_104 hl (k := 4) rfl rfl (by decide) rfl (fun ls hl => ?_)
      refine lv_goto (tgt := 4) hx hb dX3_takesSet_107 (by decide) ?_
      exact hrec4 _ _ _ _ _ _ _ _ hm hv0 hw (lv_sub hl [3, 4, 1, 0] rfl)
    · have hm := o_f c4 hm
      refine lv_aload_n hx hb dX3_takesSet_88 rfl (lv_at hl 1 rfl) ?_
      refine q_geta E hw fw_X3_26 rfl hv0 dX3_takesSet_89 ?_
      refine lv_iconst (v := 5) hx hb dX3_takesSet_92 (by decide) ?_
      refine q_cVi (κ := 6) (C := RX6) (T := TX6) (N := 12) [] E hw hm mw_X3_49 (fun u hu => c_X6_blame hu (tC_3_1 hv0)) rfl (by decide) (tC_3_1 hv0) rfl rfl hl.1 (Nat.le_of_ble_eq_true rfl) ⟨Nat.le_of_ble_eq_true rfl, Nat.le_of_ble_eq_true rfl⟩ dX3_takesSet_93 (fun u5 H locs hm hw => ?_)
      exact q_zret E hr hlk hw hm dX3_takesSet_96
  · have hm := o_t c3 hm
    refine lv_iconst (v := 0) hx hb dX3_takesSet_77 (by decide) ?_
    exact q_zret E hr hlk hw hm dX3_takesSet_78
def k_X3_takesSet_4 : Nat → Nat → Int32 → Int32 → Int32 → ST → Option (Int32 × ST)
  | 0, _, _, _, _, _ => none
  | n + 1, v0, v1, v2, v3, σ => if 6 < v3 then ((ckZ 0).bind fun z => some (z, σ)) else ((f_X6_step (LC.2.1 v0 1) σ).bind fun u7 =>
  if v2 = 0 then (k_X3_takesSet_52 (k_X3_takesSet_4 n) v0 v1 v2 v3 u7) else (if (gI u7 (LC.2.1 v0 1) 4) = 3 then ((stA LC u7 (LC.2.1 (LC.2.1 v0 0) 3) v1 v2).bind fun σ10 =>
  (f_X6_isSign (LC.2.1 v0 1) 59 σ10).bind fun u11 =>
  (ckZ u11.1).bind fun z => some (z, u11.2)) else (k_X3_takesSet_52 (k_X3_takesSet_4 n) v0 v1 v2 v3 u7)))
set_option maxRecDepth 20000 in
set_option maxHeartbeats 1000000 in
theorem w_X3_takesSet_4 {p : Program} {l : Launch} {e : Env} {s : State} {m : MethodId} {args : Array Value} {below : List Frame} {meth : Method} {c : Code} {D : va_G} {cy : Nat → ClassId} {b : Nat} (E : CX p m c cX3_takesSet 5 s args RX3 D cy LC) (hr : meth.sig.returnType = some .boolean) (hlk : meth.locks = false) {r : Int32 × ST} : ∀ (n : Nat) (v0 : Nat) (v1 : Int32) (v2 : Int32) (v3 : Int32) (σ : ST) (H : Heap) (locs : List Loc) (ls : Array Slot), k_X3_takesSet_4 n v0 v1 v2 v3 σ = some r → LC.1 v0 = 3 → PH D cy LC b σ s H locs → lv_has ls 5 [(0, .ref (b + v0)), (1, .int v1), (2, .int v2), (3, .int v3)] → W p l e (rmD 7) s m args below meth c H locs 0 0 (MQ below (QcP D cy LC b (some (.int r.1)) r.2) args s 0 0 (inP LC b)) (F0 m 4 ls []) := by
  have hx := E.1.1
  have hb := E.1.2.1
  intro n
  induction n with
  | zero =>
    intro v0 v1 v2 v3 σ H locs ls hm
    cases hm
  | succ n ih =>
    intro v0 v1 v2 v3 σ H locs ls hm hv0 hw hl
    rw [k_X3_takesSet_4] at hm
    refine lv_iload_n hx hb dX3_takesSet_4 rfl (lv_at hl 3 rfl) ?_
    refine lv_bipush (v := 6) hx hb dX3_takesSet_5 (by decide) ?_
    refine lv_icmp_gt (tgt := 110) hx hb dX3_takesSet_7 (by decide) (fun c6 => ?_) (fun c6 => ?_)
    · have hm := o_t c6 hm
      refine lv_iconst (v := 0) hx hb dX3_takesSet_110 (by decide) ?_
      exact q_zret E hr hlk hw hm dX3_takesSet_111
    · have hm := o_f c6 hm
      refine lv_aload_n hx hb dX3_takesSet_10 rfl (lv_at hl 0 rfl) ?_
      refine q_geta E hw fw_X3_26 rfl hv0 dX3_takesSet_11 ?_
      refine q_cVv (κ := 6) (C := RX6) (T := TX6) (N := 12) [] E hw hm mw_X3_37 (fun u hu => c_X6_step hu (tC_3_1 hv0)) rfl (by decide) (tC_3_1 hv0) rfl rfl hl.1 (Nat.le_of_ble_eq_true rfl) ⟨Nat.le_of_ble_eq_true rfl, Nat.le_of_ble_eq_true rfl⟩ dX3_takesSet_14 (fun u7 H locs hm hw => ?_)
      refine lv_iload_n hx hb dX3_takesSet_17 rfl (lv_at hl 2 rfl) ?_
      refine lv_if_eq (tgt := 52) hx hb dX3_takesSet_18 (by decide) (fun c8 => ?_) (fun c8 => ?_)
      · have hm := o_t c8 hm
        exact w_X3_takesSet_52 E hr hlk ih hm hv0 hw (lv_sub hl [0, 1, 2, 3] rfl)
      · have hm := o_f c8 hm
        refine lv_aload_n hx hb dX3_takesSet_21 rfl (lv_at hl 0 rfl) ?_
        refine q_geta E hw fw_X3_26 rfl hv0 dX3_takesSet_22 ?_
        refine q_geti E hw fw_X3_42 rfl (tC_3_1 hv0) dX3_takesSet_25 ?_
        refine lv_iconst (v := 3) hx hb dX3_takesSet_28 (by decide) ?_
        refine lv_icmp_ne (tgt := 52) hx hb dX3_takesSet_29 (by decide) (fun c9 => ?_) (fun c9 => ?_)
        · have hm := o_f c9 hm
          exact w_X3_takesSet_52 E hr hlk ih hm hv0 hw (lv_sub hl [0, 1, 2, 3] rfl)
        · have hm := o_t c9 hm
          refine lv_aload_n hx hb dX3_takesSet_32 rfl (lv_at hl 0 rfl) ?_
          refine q_geta E hw fw_X3_12 rfl hv0 dX3_takesSet_33 ?_
          refine q_geta E hw fw_X3_171 rfl (tC_3_0 hv0) dX3_takesSet_36 ?_
          refine lv_iload_n hx hb dX3_takesSet_39 rfl (lv_at hl 1 rfl) ?_
          refine lv_iload_n hx hb dX3_takesSet_40 rfl (lv_at hl 2 rfl) ?_
          refine q_iast E hw (tC_2_3 (tC_3_0 hv0)) hm dX3_takesSet_41 (fun σ10 H locs hm hw => ?_)
          refine lv_aload_n hx hb dX3_takesSet_42 rfl (lv_at hl 0 rfl) ?_
          refine q_geta E hw fw_X3_26 rfl hv0 dX3_takesSet_43 ?_
          refine lv_bipush (v := 59) hx hb dX3_takesSet_46 (by decide) ?_
          refine q_cVi (κ := 6) (C := RX6) (T := TX6) (N := 12) [] E hw hm mw_X3_70 (fun u hu => c_X6_isSign hu (tC_3_1 hv0)) rfl (by decide) (tC_3_1 hv0) rfl rfl hl.1 (Nat.le_of_ble_eq_true rfl) ⟨Nat.le_of_ble_eq_true rfl, Nat.le_of_ble_eq_true rfl⟩ dX3_takesSet_48 (fun u11 H locs hm hw => ?_)
          exact q_zret E hr hlk hw hm dX3_takesSet_51
def f_X3_takesSet (v0 : Nat) (v1 : Int32) (σ : ST) : Option (Int32 × ST) :=
  k_X3_takesSet_4 FU v0 v1 0 0 σ
set_option maxRecDepth 20000 in
set_option maxHeartbeats 1000000 in
theorem w_X3_takesSet_0 {p : Program} {l : Launch} {e : Env} {s : State} {m : MethodId} {args : Array Value} {below : List Frame} {meth : Method} {c : Code} {D : va_G} {cy : Nat → ClassId} {b : Nat} (E : CX p m c cX3_takesSet 5 s args RX3 D cy LC) (hr : meth.sig.returnType = some .boolean) (hlk : meth.locks = false) {r : Int32 × ST} {v0 : Nat} {v1 : Int32} {σ : ST} {H : Heap} {locs : List Loc} {ls : Array Slot} (hm : f_X3_takesSet v0 v1 σ = some r) (hv0 : LC.1 v0 = 3) (hw : PH D cy LC b σ s H locs) (hl : lv_has ls 5 [(0, .ref (b + v0)), (1, .int v1)]) : W p l e (rmD 7) s m args below meth c H locs 0 0 (MQ below (QcP D cy LC b (some (.int r.1)) r.2) args s 0 0 (inP LC b)) (F0 m 0 ls []) := by
  have hx := E.1.1
  have hb := E.1.2.1
  unfold f_X3_takesSet at hm
  refine lv_iconst (v := 0) hx hb dX3_takesSet_0 (by decide) ?_
  refine lv_istore_n (lv' := [(2, .int 0), (0, .ref (b + v0)), (1, .int v1)]) hx hb dX3_takesSet_1 rfl hl (by decide) rfl (fun ls hl => ?_)
  refine lv_iconst (v := 0) hx hb dX3_takesSet_2 (by decide) ?_
  refine lv_istore_n (lv' := [(3, .int 0), (2, .int 0), (0, .ref (b + v0)), (1, .int v1)]) hx hb dX3_takesSet_3 rfl hl (by decide) rfl (fun ls hl => ?_)
  exact w_X3_takesSet_4 E hr hlk _ _ _ _ _ _ _ _ _ hm hv0 hw (lv_sub hl [2, 3, 1, 0] rfl)
theorem c_X3_takesSet {l : Launch} {D : va_G} {cy : Nat → ClassId} {b : Nat} {v0 : Nat} {v1 : Int32} {σ : ST} {r : Int32 × ST} (hm : f_X3_takesSet v0 v1 σ = some r) (hv0 : LC.1 v0 = 3) : Met l yX3_takesSet (wU yX3_takesSet cX3_takesSet 5 (some .boolean)) (rmD 7) (PcP D cy LC b [.ref (b + v0), .int v1] σ) (QcP D cy LC b (some (.int r.1)) r.2) 0 0 (inP LC b) :=
  q_met (lv := [(0, .ref (b + v0)), (1, .int v1)]) LC_ok (by decide) (Nat.le_of_ble_eq_true rfl) rfl (fun _ _ _ _ _ _ _ _ _ E hr hlk hw hl => w_X3_takesSet_0 E hr hlk hm hv0 hw hl)

def k_X3_takesStep_127 (v0 : Nat) (v2 : Int32) (σ : ST) : Option (Int32 × ST) :=
  (ldA LC σ (LC.2.1 (LC.2.1 v0 0) 0) v2).bind fun a1 =>
  (f_X3_itemsOf a1 σ).bind fun u2 =>
  if u2.1 < 15 then ((f_X3_takesItems v0 v2 u2.1 u2.2).bind fun u3 =>
  (ckZ u3.1).bind fun z => some (z, u3.2)) else none
set_option maxRecDepth 20000 in
set_option maxHeartbeats 1000000 in
theorem w_X3_takesStep_127 {p : Program} {l : Launch} {e : Env} {s : State} {m : MethodId} {args : Array Value} {below : List Frame} {meth : Method} {c : Code} {D : va_G} {cy : Nat → ClassId} {b : Nat} (E : CX p m c cX3_takesStep 3 s args RX3 D cy LC) (hr : meth.sig.returnType = some .boolean) (hlk : meth.locks = false) {r : Int32 × ST} {v0 : Nat} {v2 : Int32} {σ : ST} {H : Heap} {locs : List Loc} {ls : Array Slot} (hm : k_X3_takesStep_127 v0 v2 σ = some r) (hv0 : LC.1 v0 = 3) (hw : PH D cy LC b σ s H locs) (hl : lv_has ls 3 [(0, .ref (b + v0)), (2, .int v2)]) : W p l e (rmD 8) s m args below meth c H locs 0 0 (MQ below (QcP D cy LC b (some (.int r.1)) r.2) args s 0 0 (inP LC b)) (F0 m 127 ls []) := by
  have hx := E.1.1
  have hb := E.1.2.1
  unfold k_X3_takesStep_127 at hm
  refine lv_aload_n hx hb dX3_takesStep_127 rfl (lv_at hl 0 rfl) ?_
  refine lv_iload_n hx hb dX3_takesStep_128 rfl (lv_at hl 1 rfl) ?_
  refine lv_aload_n hx hb dX3_takesStep_129 rfl (lv_at hl 0 rfl) ?_
  refine q_geta E hw fw_X3_12 rfl hv0 dX3_takesStep_130 ?_
  refine q_geta E hw fw_X3_88 rfl (tC_3_0 hv0) dX3_takesStep_133 ?_
  refine lv_iload_n hx hb dX3_takesStep_136 rfl (lv_at hl 1 rfl) ?_
  refine q_iald E hw (tC_2_0 (tC_3_0 hv0)) hm dX3_takesStep_137 (fun a1 hm => ?_)
  refine q_cSs [.int v2, .ref (b + v0)] E hw hm ms_X3_91 (fun u hu => c_X3_itemsOf hu ) rfl rfl hl.1 (Nat.le_of_ble_eq_true rfl) ⟨Nat.le_of_ble_eq_true rfl, Nat.le_of_ble_eq_true rfl⟩ dX3_takesStep_138 (fun u2 H locs hm hw => ?_)
  obtain ⟨hsu2, hm⟩ := o_ps hm
  refine q_cVi (κ := 3) (C := RX3) (T := TX3) (N := 5) [] E hw hm mw_X3_95 (fun u hu => c_X3_takesItems hu hv0 hsu2) rfl (by decide) hv0 rfl rfl hl.1 (Nat.le_of_ble_eq_true rfl) ⟨Nat.le_of_ble_eq_true rfl, Nat.le_of_ble_eq_true rfl⟩ dX3_takesStep_141 (fun u3 H locs hm hw => ?_)
  exact q_zret E hr hlk hw hm dX3_takesStep_144
def k_X3_takesStep_64 (v0 : Nat) (v1 : Int32) (v2 : Int32) (σ : ST) : Option (Int32 × ST) :=
  if v1 = 14 then ((f_X3_takesSet v0 v2 σ).bind fun u11 =>
  (ckZ u11.1).bind fun z => some (z, u11.2)) else (if v1 = 19 then ((f_X6_step (LC.2.1 v0 1) σ).bind fun u6 =>
  (f_X3_isTest (gI u6 (LC.2.1 v0 1) 8) u6).bind fun u7 =>
  if u7.1 = 0 then ((f_X6_blame (LC.2.1 v0 1) 2 u7.2).bind fun u10 =>
  (ckZ u10.1).bind fun z => some (z, u10.2)) else ((stA LC u7.2 (LC.2.1 (LC.2.1 v0 0) 0) v2 (gI u7.2 (LC.2.1 v0 1) 8)).bind fun σ9 =>
  k_X3_takesStep_127 v0 v2 σ9)) else (k_X3_takesStep_127 v0 v2 σ))
set_option maxRecDepth 20000 in
set_option maxHeartbeats 1000000 in
theorem w_X3_takesStep_64 {p : Program} {l : Launch} {e : Env} {s : State} {m : MethodId} {args : Array Value} {below : List Frame} {meth : Method} {c : Code} {D : va_G} {cy : Nat → ClassId} {b : Nat} (E : CX p m c cX3_takesStep 3 s args RX3 D cy LC) (hr : meth.sig.returnType = some .boolean) (hlk : meth.locks = false) {r : Int32 × ST} {v0 : Nat} {v1 : Int32} {v2 : Int32} {σ : ST} {H : Heap} {locs : List Loc} {ls : Array Slot} (hm : k_X3_takesStep_64 v0 v1 v2 σ = some r) (hv0 : LC.1 v0 = 3) (hw : PH D cy LC b σ s H locs) (hl : lv_has ls 3 [(0, .ref (b + v0)), (1, .int v1), (2, .int v2)]) : W p l e (rmD 8) s m args below meth c H locs 0 0 (MQ below (QcP D cy LC b (some (.int r.1)) r.2) args s 0 0 (inP LC b)) (F0 m 64 ls []) := by
  have hx := E.1.1
  have hb := E.1.2.1
  unfold k_X3_takesStep_64 at hm
  refine lv_iload_n hx hb dX3_takesStep_64 rfl (lv_at hl 1 rfl) ?_
  refine lv_bipush (v := 14) hx hb dX3_takesStep_65 (by decide) ?_
  refine lv_icmp_ne (tgt := 76) hx hb dX3_takesStep_67 (by decide) (fun c4 => ?_) (fun c4 => ?_)
  · have hm := o_f c4 hm
    refine lv_iload_n hx hb dX3_takesStep_76 rfl (lv_at hl 1 rfl) ?_
    refine lv_bipush (v := 19) hx hb dX3_takesStep_77 (by decide) ?_
    refine lv_icmp_ne (tgt := 127) hx hb dX3_takesStep_79 (by decide) (fun c5 => ?_) (fun c5 => ?_)
    · have hm := o_f c5 hm
      exact w_X3_takesStep_127 E hr hlk hm hv0 hw (lv_sub hl [0, 2] rfl)
    · have hm := o_t c5 hm
      refine lv_aload_n hx hb dX3_takesStep_82 rfl (lv_at hl 0 rfl) ?_
      refine q_geta E hw fw_X3_26 rfl hv0 dX3_takesStep_83 ?_
      refine q_cVv (κ := 6) (C := RX6) (T := TX6) (N := 12) [] E hw hm mw_X3_37 (fun u hu => c_X6_step hu (tC_3_1 hv0)) rfl (by decide) (tC_3_1 hv0) rfl rfl hl.1 (Nat.le_of_ble_eq_true rfl) ⟨Nat.le_of_ble_eq_true rfl, Nat.le_of_ble_eq_true rfl⟩ dX3_takesStep_86 (fun u6 H locs hm hw => ?_)
      refine lv_aload_n hx hb dX3_takesStep_89 rfl (lv_at hl 0 rfl) ?_
      refine q_geta E hw fw_X3_26 rfl hv0 dX3_takesStep_90 ?_
      refine q_geti E hw fw_X3_53 rfl (tC_3_1 hv0) dX3_takesStep_93 ?_
      refine q_cSi [] E hw hm ms_X3_85 (fun u hu => c_X3_isTest hu ) rfl rfl hl.1 (Nat.le_of_ble_eq_true rfl) ⟨Nat.le_of_ble_eq_true rfl, Nat.le_of_ble_eq_true rfl⟩ dX3_takesStep_96 (fun u7 H locs hm hw => ?_)
      refine lv_if_ne (tgt := 111) hx hb dX3_takesStep_99 (by decide) (fun c8 => ?_) (fun c8 => ?_)
      · have hm := o_f c8 hm
        refine lv_aload_n hx hb dX3_takesStep_111 rfl (lv_at hl 0 rfl) ?_
        refine q_geta E hw fw_X3_12 rfl hv0 dX3_takesStep_112 ?_
        refine q_geta E hw fw_X3_88 rfl (tC_3_0 hv0) dX3_takesStep_115 ?_
        refine lv_iload_n hx hb dX3_takesStep_118 rfl (lv_at hl 2 rfl) ?_
        refine lv_aload_n hx hb dX3_takesStep_119 rfl (lv_at hl 0 rfl) ?_
        refine q_geta E hw fw_X3_26 rfl hv0 dX3_takesStep_120 ?_
        refine q_geti E hw fw_X3_53 rfl (tC_3_1 hv0) dX3_takesStep_123 ?_
        refine q_iast E hw (tC_2_0 (tC_3_0 hv0)) hm dX3_takesStep_126 (fun σ9 H locs hm hw => ?_)
        exact w_X3_takesStep_127 E hr hlk hm hv0 hw (lv_sub hl [0, 2] rfl)
      · have hm := o_t c8 hm
        refine lv_aload_n hx hb dX3_takesStep_102 rfl (lv_at hl 0 rfl) ?_
        refine q_geta E hw fw_X3_26 rfl hv0 dX3_takesStep_103 ?_
        refine lv_iconst (v := 2) hx hb dX3_takesStep_106 (by decide) ?_
        refine q_cVi (κ := 6) (C := RX6) (T := TX6) (N := 12) [] E hw hm mw_X3_49 (fun u hu => c_X6_blame hu (tC_3_1 hv0)) rfl (by decide) (tC_3_1 hv0) rfl rfl hl.1 (Nat.le_of_ble_eq_true rfl) ⟨Nat.le_of_ble_eq_true rfl, Nat.le_of_ble_eq_true rfl⟩ dX3_takesStep_107 (fun u10 H locs hm hw => ?_)
        exact q_zret E hr hlk hw hm dX3_takesStep_110
  · have hm := o_t c4 hm
    refine lv_aload_n hx hb dX3_takesStep_70 rfl (lv_at hl 0 rfl) ?_
    refine lv_iload_n hx hb dX3_takesStep_71 rfl (lv_at hl 2 rfl) ?_
    refine q_cVi (κ := 3) (C := RX3) (T := TX3) (N := 5) [] E hw hm mw_X3_82 (fun u hu => c_X3_takesSet hu hv0) rfl (by decide) hv0 rfl rfl hl.1 (Nat.le_of_ble_eq_true rfl) ⟨Nat.le_of_ble_eq_true rfl, Nat.le_of_ble_eq_true rfl⟩ dX3_takesStep_72 (fun u11 H locs hm hw => ?_)
    exact q_zret E hr hlk hw hm dX3_takesStep_75
def f_X3_takesStep (v0 : Nat) (σ : ST) : Option (Int32 × ST) :=
  (f_X3_mayBegin v0 (gI σ (LC.2.1 v0 1) 8) σ).bind fun u12 =>
  if u12.1 = 0 then ((ckZ 0).bind fun z => some (z, u12.2)) else ((stI u12.2 (LC.2.1 v0 0) 8 ((gI u12.2 (LC.2.1 v0 0) 8) + 1)).bind fun σ14 =>
  (f_X3_newLine v0 (gI σ (LC.2.1 v0 1) 8) σ14).bind fun u15 =>
  (f_X3_holdsOthers (gI σ (LC.2.1 v0 1) 8) u15.2).bind fun u16 =>
  if u16.1 = 0 then (k_X3_takesStep_64 v0 (gI σ (LC.2.1 v0 1) 8) u15.1 u16.2) else ((stA LC u16.2 (LC.2.1 v0 3) (gI u16.2 v0 4) u15.1).bind fun σ18 =>
  (stI σ18 v0 4 ((gI σ18 v0 4) + 1)).bind fun σ19 =>
  k_X3_takesStep_64 v0 (gI σ (LC.2.1 v0 1) 8) u15.1 σ19))
set_option maxRecDepth 20000 in
set_option maxHeartbeats 1000000 in
theorem w_X3_takesStep_0 {p : Program} {l : Launch} {e : Env} {s : State} {m : MethodId} {args : Array Value} {below : List Frame} {meth : Method} {c : Code} {D : va_G} {cy : Nat → ClassId} {b : Nat} (E : CX p m c cX3_takesStep 3 s args RX3 D cy LC) (hr : meth.sig.returnType = some .boolean) (hlk : meth.locks = false) {r : Int32 × ST} {v0 : Nat} {σ : ST} {H : Heap} {locs : List Loc} {ls : Array Slot} (hm : f_X3_takesStep v0 σ = some r) (hv0 : LC.1 v0 = 3) (hw : PH D cy LC b σ s H locs) (hl : lv_has ls 3 [(0, .ref (b + v0))]) : W p l e (rmD 8) s m args below meth c H locs 0 0 (MQ below (QcP D cy LC b (some (.int r.1)) r.2) args s 0 0 (inP LC b)) (F0 m 0 ls []) := by
  have hx := E.1.1
  have hb := E.1.2.1
  unfold f_X3_takesStep at hm
  refine lv_aload_n hx hb dX3_takesStep_0 rfl (lv_at hl 0 rfl) ?_
  refine q_geta E hw fw_X3_26 rfl hv0 dX3_takesStep_1 ?_
  refine q_geti E hw fw_X3_53 rfl (tC_3_1 hv0) dX3_takesStep_4 ?_
  refine lv_istore_n (lv' := [(1, .int (gI σ (LC.2.1 v0 1) 8)), (0, .ref (b + v0))]) hx hb dX3_takesStep_7 rfl hl (by decide) rfl (fun ls hl => ?_)
  refine lv_aload_n hx hb dX3_takesStep_8 rfl (lv_at hl 1 rfl) ?_
  refine lv_iload_n hx hb dX3_takesStep_9 rfl (lv_at hl 0 rfl) ?_
  refine q_cVi (κ := 3) (C := RX3) (T := TX3) (N := 5) [] E hw hm mw_X3_73 (fun u hu => c_X3_mayBegin hu hv0) rfl (by decide) hv0 rfl rfl hl.1 (Nat.le_of_ble_eq_true rfl) ⟨Nat.le_of_ble_eq_true rfl, Nat.le_of_ble_eq_true rfl⟩ dX3_takesStep_10 (fun u12 H locs hm hw => ?_)
  refine lv_if_ne (tgt := 18) hx hb dX3_takesStep_13 (by decide) (fun c13 => ?_) (fun c13 => ?_)
  · have hm := o_f c13 hm
    refine lv_aload_n hx hb dX3_takesStep_18 rfl (lv_at hl 1 rfl) ?_
    refine q_geta E hw fw_X3_12 rfl hv0 dX3_takesStep_19 ?_
    refine lv_dup hx hb dX3_takesStep_22 rfl ?_
    refine q_geti E hw fw_X3_76 rfl (tC_3_0 hv0) dX3_takesStep_23 ?_
    refine lv_iconst (v := 1) hx hb dX3_takesStep_26 (by decide) ?_
    refine lv_iadd hx hb dX3_takesStep_27 ?_
    refine q_pi E hw hm fw_X3_76 rfl rfl (tC_3_0 hv0) dX3_takesStep_28 (fun σ14 H locs hm hw => ?_)
    refine lv_aload_n hx hb dX3_takesStep_31 rfl (lv_at hl 1 rfl) ?_
    refine lv_iload_n hx hb dX3_takesStep_32 rfl (lv_at hl 0 rfl) ?_
    refine q_cVi (κ := 3) (C := RX3) (T := TX3) (N := 5) [] E hw hm mw_X3_63 (fun u hu => c_X3_newLine hu hv0) rfl (by decide) hv0 rfl rfl hl.1 (Nat.le_of_ble_eq_true rfl) ⟨Nat.le_of_ble_eq_true rfl, Nat.le_of_ble_eq_true rfl⟩ dX3_takesStep_33 (fun u15 H locs hm hw => ?_)
    refine lv_istore_n (lv' := [(2, .int u15.1), (1, .int (gI σ (LC.2.1 v0 1) 8)), (0, .ref (b + v0))]) hx hb dX3_takesStep_36 rfl hl (by decide) rfl (fun ls hl => ?_)
    refine lv_iload_n hx hb dX3_takesStep_37 rfl (lv_at hl 1 rfl) ?_
    refine q_cSi [] E hw hm ms_X3_79 (fun u hu => c_X3_holdsOthers hu ) rfl rfl hl.1 (Nat.le_of_ble_eq_true rfl) ⟨Nat.le_of_ble_eq_true rfl, Nat.le_of_ble_eq_true rfl⟩ dX3_takesStep_38 (fun u16 H locs hm hw => ?_)
    refine lv_if_eq (tgt := 64) hx hb dX3_takesStep_41 (by decide) (fun c17 => ?_) (fun c17 => ?_)
    · have hm := o_t c17 hm
      exact w_X3_takesStep_64 E hr hlk hm hv0 hw (lv_sub hl [2, 1, 0] rfl)
    · have hm := o_f c17 hm
      refine lv_aload_n hx hb dX3_takesStep_44 rfl (lv_at hl 2 rfl) ?_
      refine q_geta E hw fw_X3_18 rfl hv0 dX3_takesStep_45 ?_
      refine lv_aload_n hx hb dX3_takesStep_48 rfl (lv_at hl 2 rfl) ?_
      refine q_geti E hw fw_X3_22 rfl hv0 dX3_takesStep_49 ?_
      refine lv_iload_n hx hb dX3_takesStep_52 rfl (lv_at hl 0 rfl) ?_
      refine q_iast E hw (tC_3_3 hv0) hm dX3_takesStep_53 (fun σ18 H locs hm hw => ?_)
      refine lv_aload_n hx hb dX3_takesStep_54 rfl (lv_at hl 2 rfl) ?_
      refine lv_dup hx hb dX3_takesStep_55 rfl ?_
      refine q_geti E hw fw_X3_22 rfl hv0 dX3_takesStep_56 ?_
      refine lv_iconst (v := 1) hx hb dX3_takesStep_59 (by decide) ?_
      refine lv_iadd hx hb dX3_takesStep_60 ?_
      refine q_pi E hw hm fw_X3_22 rfl rfl hv0 dX3_takesStep_61 (fun σ19 H locs hm hw => ?_)
      exact w_X3_takesStep_64 E hr hlk hm hv0 hw (lv_sub hl [2, 1, 0] rfl)
  · have hm := o_t c13 hm
    refine lv_iconst (v := 0) hx hb dX3_takesStep_16 (by decide) ?_
    exact q_zret E hr hlk hw hm dX3_takesStep_17
theorem c_X3_takesStep {l : Launch} {D : va_G} {cy : Nat → ClassId} {b : Nat} {v0 : Nat} {σ : ST} {r : Int32 × ST} (hm : f_X3_takesStep v0 σ = some r) (hv0 : LC.1 v0 = 3) : Met l yX3_takesStep (wU yX3_takesStep cX3_takesStep 3 (some .boolean)) (rmD 8) (PcP D cy LC b [.ref (b + v0)] σ) (QcP D cy LC b (some (.int r.1)) r.2) 0 0 (inP LC b) :=
  q_met (lv := [(0, .ref (b + v0))]) LC_ok (by decide) (Nat.le_of_ble_eq_true rfl) rfl (fun _ _ _ _ _ _ _ _ _ E hr hlk hw hl => w_X3_takesStep_0 E hr hlk hm hv0 hw hl)

def k_X3_isTaken_101 (rec14 : Nat → Int32 → ST → Option (Int32 × ST)) (v0 : Nat) (v1 : Int32) (σ : ST) : Option (Int32 × ST) :=
  rec14 v0 (v1 + 1) σ
set_option maxRecDepth 20000 in
set_option maxHeartbeats 1000000 in
theorem w_X3_isTaken_101 {p : Program} {l : Launch} {e : Env} {s : State} {m : MethodId} {args : Array Value} {below : List Frame} {meth : Method} {c : Code} {D : va_G} {cy : Nat → ClassId} {b : Nat} (E : CX p m c cX3_isTaken 2 s args RX3 D cy LC) (hr : meth.sig.returnType = some .boolean) (hlk : meth.locks = false) {r : Int32 × ST} {rec14 : Nat → Int32 → ST → Option (Int32 × ST)} (hrec14 : ∀ (v0 : Nat) (v1 : Int32) (σ : ST) (H : Heap) (locs : List Loc) (ls : Array Slot), rec14 v0 v1 σ = some r → LC.1 v0 = 3 → PH D cy LC b σ s H locs → lv_has ls 2 [(0, .ref (b + v0)), (1, .int v1)] → W p l e (rmD 9) s m args below meth c H locs 0 0 (MQ below (QcP D cy LC b (some (.int r.1)) r.2) args s 0 0 (inP LC b)) (F0 m 14 ls [])) {v0 : Nat} {v1 : Int32} {σ : ST} {H : Heap} {locs : List Loc} {ls : Array Slot} (hm : k_X3_isTaken_101 rec14 v0 v1 σ = some r) (hv0 : LC.1 v0 = 3) (hw : PH D cy LC b σ s H locs) (hl : lv_has ls 2 [(0, .ref (b + v0)), (1, .int v1)]) : W p l e (rmD 9) s m args below meth c H locs 0 0 (MQ below (QcP D cy LC b (some (.int r.1)) r.2) args s 0 0 (inP LC b)) (F0 m 101 ls []) := by
  have hx := E.1.1
  have hb := E.1.2.1
  unfold k_X3_isTaken_101 at hm
  refine lv_iinc (v := v1 + 1) (lv' := [(1, .int (v1 + 1)), (0, .ref (b + v0))]) hx hb dX3_isTaken_101 hl (k := 1) rfl rfl (by decide) rfl (fun ls hl => ?_)
  refine lv_goto (tgt := 14) hx hb dX3_isTaken_104 (by decide) ?_
  exact hrec14 _ _ _ _ _ _ hm hv0 hw (lv_sub hl [1, 0] rfl)
def k_X3_isTaken_99 (σ : ST) : Option (Int32 × ST) :=
  (ckZ 0).bind fun z => some (z, σ)
set_option maxRecDepth 20000 in
set_option maxHeartbeats 1000000 in
theorem w_X3_isTaken_99 {p : Program} {l : Launch} {e : Env} {s : State} {m : MethodId} {args : Array Value} {below : List Frame} {meth : Method} {c : Code} {D : va_G} {cy : Nat → ClassId} {b : Nat} (E : CX p m c cX3_isTaken 2 s args RX3 D cy LC) (hr : meth.sig.returnType = some .boolean) (hlk : meth.locks = false) {r : Int32 × ST} {σ : ST} {H : Heap} {locs : List Loc} {ls : Array Slot} (hm : k_X3_isTaken_99  σ = some r) (hw : PH D cy LC b σ s H locs) (hl : lv_has ls 2 []) : W p l e (rmD 9) s m args below meth c H locs 0 0 (MQ below (QcP D cy LC b (some (.int r.1)) r.2) args s 0 0 (inP LC b)) (F0 m 99 ls []) := by
  have hx := E.1.1
  have hb := E.1.2.1
  unfold k_X3_isTaken_99 at hm
  refine lv_iconst (v := 0) hx hb dX3_isTaken_99 (by decide) ?_
  exact q_zret E hr hlk hw hm dX3_isTaken_100
def k_X3_isTaken_69 (s0 : Int32) (σ : ST) : Option (Int32 × ST) :=
  (ckZ s0).bind fun z => some (z, σ)
set_option maxRecDepth 20000 in
set_option maxHeartbeats 1000000 in
theorem w_X3_isTaken_69 {p : Program} {l : Launch} {e : Env} {s : State} {m : MethodId} {args : Array Value} {below : List Frame} {meth : Method} {c : Code} {D : va_G} {cy : Nat → ClassId} {b : Nat} (E : CX p m c cX3_isTaken 2 s args RX3 D cy LC) (hr : meth.sig.returnType = some .boolean) (hlk : meth.locks = false) {r : Int32 × ST} {s0 : Int32} {σ : ST} {H : Heap} {locs : List Loc} {ls : Array Slot} (hm : k_X3_isTaken_69 s0 σ = some r) (hw : PH D cy LC b σ s H locs) (hl : lv_has ls 2 []) : W p l e (rmD 9) s m args below meth c H locs 0 0 (MQ below (QcP D cy LC b (some (.int r.1)) r.2) args s 0 0 (inP LC b)) (F0 m 69 ls [.int s0]) := by
  have hx := E.1.1
  have hb := E.1.2.1
  unfold k_X3_isTaken_69 at hm
  exact q_zret E hr hlk hw hm dX3_isTaken_69
def k_X3_isTaken_64 (σ : ST) : Option (Int32 × ST) :=
  k_X3_isTaken_69 1 σ
set_option maxRecDepth 20000 in
set_option maxHeartbeats 1000000 in
theorem w_X3_isTaken_64 {p : Program} {l : Launch} {e : Env} {s : State} {m : MethodId} {args : Array Value} {below : List Frame} {meth : Method} {c : Code} {D : va_G} {cy : Nat → ClassId} {b : Nat} (E : CX p m c cX3_isTaken 2 s args RX3 D cy LC) (hr : meth.sig.returnType = some .boolean) (hlk : meth.locks = false) {r : Int32 × ST} {σ : ST} {H : Heap} {locs : List Loc} {ls : Array Slot} (hm : k_X3_isTaken_64  σ = some r) (hw : PH D cy LC b σ s H locs) (hl : lv_has ls 2 []) : W p l e (rmD 9) s m args below meth c H locs 0 0 (MQ below (QcP D cy LC b (some (.int r.1)) r.2) args s 0 0 (inP LC b)) (F0 m 64 ls []) := by
  have hx := E.1.1
  have hb := E.1.2.1
  unfold k_X3_isTaken_64 at hm
  refine lv_iconst (v := 1) hx hb dX3_isTaken_64 (by decide) ?_
  refine lv_goto (tgt := 69) hx hb dX3_isTaken_65 (by decide) ?_
  exact w_X3_isTaken_69 E hr hlk hm  hw (lv_sub hl [] rfl)
def k_X3_isTaken_14 : Nat → Nat → Int32 → ST → Option (Int32 × ST)
  | 0, _, _, _ => none
  | n + 1, v0, v1, σ => if 300 < v1 then ((ckZ 0).bind fun z => some (z, σ)) else ((f_X6_step (LC.2.1 v0 1) σ).bind fun u2 =>
  if (gI u2 (LC.2.1 v0 1) 4) = 0 then ((stZ u2 (LC.2.1 v0 0) 6 1).bind fun σ9 =>
  if (gI σ9 v0 4) = 0 then (k_X3_isTaken_64 σ9) else ((f_X6_blame (LC.2.1 v0 1) 2 σ9).bind fun u11 =>
  if u11.1 = 0 then (k_X3_isTaken_69 0 u11.2) else (k_X3_isTaken_64 u11.2))) else (if (gI u2 (LC.2.1 v0 1) 8) = 24 then ((f_X3_takesEnd v0 u2).bind fun u7 =>
  if u7.1 = 0 then (k_X3_isTaken_99 u7.2) else (k_X3_isTaken_101 (k_X3_isTaken_14 n) v0 v1 u7.2)) else ((f_X3_takesStep v0 u2).bind fun u5 =>
  if u5.1 = 0 then (k_X3_isTaken_99 u5.2) else (k_X3_isTaken_101 (k_X3_isTaken_14 n) v0 v1 u5.2))))
set_option maxRecDepth 20000 in
set_option maxHeartbeats 1000000 in
theorem w_X3_isTaken_14 {p : Program} {l : Launch} {e : Env} {s : State} {m : MethodId} {args : Array Value} {below : List Frame} {meth : Method} {c : Code} {D : va_G} {cy : Nat → ClassId} {b : Nat} (E : CX p m c cX3_isTaken 2 s args RX3 D cy LC) (hr : meth.sig.returnType = some .boolean) (hlk : meth.locks = false) {r : Int32 × ST} : ∀ (n : Nat) (v0 : Nat) (v1 : Int32) (σ : ST) (H : Heap) (locs : List Loc) (ls : Array Slot), k_X3_isTaken_14 n v0 v1 σ = some r → LC.1 v0 = 3 → PH D cy LC b σ s H locs → lv_has ls 2 [(0, .ref (b + v0)), (1, .int v1)] → W p l e (rmD 9) s m args below meth c H locs 0 0 (MQ below (QcP D cy LC b (some (.int r.1)) r.2) args s 0 0 (inP LC b)) (F0 m 14 ls []) := by
  have hx := E.1.1
  have hb := E.1.2.1
  intro n
  induction n with
  | zero =>
    intro v0 v1 σ H locs ls hm
    cases hm
  | succ n ih =>
    intro v0 v1 σ H locs ls hm hv0 hw hl
    rw [k_X3_isTaken_14] at hm
    refine lv_iload_n hx hb dX3_isTaken_14 rfl (lv_at hl 1 rfl) ?_
    refine lv_sipush (v := 300) hx hb dX3_isTaken_15 (by decide) ?_
    refine lv_icmp_gt (tgt := 107) hx hb dX3_isTaken_18 (by decide) (fun c1 => ?_) (fun c1 => ?_)
    · have hm := o_t c1 hm
      refine lv_iconst (v := 0) hx hb dX3_isTaken_107 (by decide) ?_
      exact q_zret E hr hlk hw hm dX3_isTaken_108
    · have hm := o_f c1 hm
      refine lv_aload_n hx hb dX3_isTaken_21 rfl (lv_at hl 0 rfl) ?_
      refine q_geta E hw fw_X3_26 rfl hv0 dX3_isTaken_22 ?_
      refine q_cVv (κ := 6) (C := RX6) (T := TX6) (N := 12) [] E hw hm mw_X3_37 (fun u hu => c_X6_step hu (tC_3_1 hv0)) rfl (by decide) (tC_3_1 hv0) rfl rfl hl.1 (Nat.le_of_ble_eq_true rfl) ⟨Nat.le_of_ble_eq_true rfl, Nat.le_of_ble_eq_true rfl⟩ dX3_isTaken_25 (fun u2 H locs hm hw => ?_)
      refine lv_aload_n hx hb dX3_isTaken_28 rfl (lv_at hl 0 rfl) ?_
      refine q_geta E hw fw_X3_26 rfl hv0 dX3_isTaken_29 ?_
      refine q_geti E hw fw_X3_42 rfl (tC_3_1 hv0) dX3_isTaken_32 ?_
      refine lv_if_ne (tgt := 70) hx hb dX3_isTaken_35 (by decide) (fun c3 => ?_) (fun c3 => ?_)
      · have hm := o_f c3 hm
        refine lv_aload_n hx hb dX3_isTaken_70 rfl (lv_at hl 0 rfl) ?_
        refine q_geta E hw fw_X3_26 rfl hv0 dX3_isTaken_71 ?_
        refine q_geti E hw fw_X3_53 rfl (tC_3_1 hv0) dX3_isTaken_74 ?_
        refine lv_bipush (v := 24) hx hb dX3_isTaken_77 (by decide) ?_
        refine lv_icmp_ne (tgt := 92) hx hb dX3_isTaken_79 (by decide) (fun c4 => ?_) (fun c4 => ?_)
        · have hm := o_f c4 hm
          refine lv_aload_n hx hb dX3_isTaken_92 rfl (lv_at hl 0 rfl) ?_
          refine q_cVi (κ := 3) (C := RX3) (T := TX3) (N := 5) [] E hw hm mw_X3_60 (fun u hu => c_X3_takesStep hu hv0) rfl (by decide) hv0 rfl rfl hl.1 (Nat.le_of_ble_eq_true rfl) ⟨Nat.le_of_ble_eq_true rfl, Nat.le_of_ble_eq_true rfl⟩ dX3_isTaken_93 (fun u5 H locs hm hw => ?_)
          refine lv_if_ne (tgt := 101) hx hb dX3_isTaken_96 (by decide) (fun c6 => ?_) (fun c6 => ?_)
          · have hm := o_f c6 hm
            exact w_X3_isTaken_101 E hr hlk ih hm hv0 hw (lv_sub hl [0, 1] rfl)
          · have hm := o_t c6 hm
            exact w_X3_isTaken_99 E hr hlk hm  hw (lv_sub hl [] rfl)
        · have hm := o_t c4 hm
          refine lv_aload_n hx hb dX3_isTaken_82 rfl (lv_at hl 0 rfl) ?_
          refine q_cVi (κ := 3) (C := RX3) (T := TX3) (N := 5) [] E hw hm mw_X3_56 (fun u hu => c_X3_takesEnd hu hv0) rfl (by decide) hv0 rfl rfl hl.1 (Nat.le_of_ble_eq_true rfl) ⟨Nat.le_of_ble_eq_true rfl, Nat.le_of_ble_eq_true rfl⟩ dX3_isTaken_83 (fun u7 H locs hm hw => ?_)
          refine lv_if_ne (tgt := 101) hx hb dX3_isTaken_86 (by decide) (fun c8 => ?_) (fun c8 => ?_)
          · have hm := o_f c8 hm
            exact w_X3_isTaken_101 E hr hlk ih hm hv0 hw (lv_sub hl [0, 1] rfl)
          · have hm := o_t c8 hm
            refine lv_goto (tgt := 99) hx hb dX3_isTaken_89 (by decide) ?_
            exact w_X3_isTaken_99 E hr hlk hm  hw (lv_sub hl [] rfl)
      · have hm := o_t c3 hm
        refine lv_aload_n hx hb dX3_isTaken_38 rfl (lv_at hl 0 rfl) ?_
        refine q_geta E hw fw_X3_12 rfl hv0 dX3_isTaken_39 ?_
        refine lv_iconst (v := 1) hx hb dX3_isTaken_42 (by decide) ?_
        refine q_pz E hw hm fw_X3_45 rfl rfl (tC_3_0 hv0) dX3_isTaken_43 (fun σ9 H locs hm hw => ?_)
        refine lv_aload_n hx hb dX3_isTaken_46 rfl (lv_at hl 0 rfl) ?_
        refine q_geti E hw fw_X3_22 rfl hv0 dX3_isTaken_47 ?_
        refine lv_if_eq (tgt := 64) hx hb dX3_isTaken_50 (by decide) (fun c10 => ?_) (fun c10 => ?_)
        · have hm := o_t c10 hm
          exact w_X3_isTaken_64 E hr hlk hm  hw (lv_sub hl [] rfl)
        · have hm := o_f c10 hm
          refine lv_aload_n hx hb dX3_isTaken_53 rfl (lv_at hl 0 rfl) ?_
          refine q_geta E hw fw_X3_26 rfl hv0 dX3_isTaken_54 ?_
          refine lv_iconst (v := 2) hx hb dX3_isTaken_57 (by decide) ?_
          refine q_cVi (κ := 6) (C := RX6) (T := TX6) (N := 12) [] E hw hm mw_X3_49 (fun u hu => c_X6_blame hu (tC_3_1 hv0)) rfl (by decide) (tC_3_1 hv0) rfl rfl hl.1 (Nat.le_of_ble_eq_true rfl) ⟨Nat.le_of_ble_eq_true rfl, Nat.le_of_ble_eq_true rfl⟩ dX3_isTaken_58 (fun u11 H locs hm hw => ?_)
          refine lv_if_eq (tgt := 68) hx hb dX3_isTaken_61 (by decide) (fun c12 => ?_) (fun c12 => ?_)
          · have hm := o_t c12 hm
            refine lv_iconst (v := 0) hx hb dX3_isTaken_68 (by decide) ?_
            exact w_X3_isTaken_69 E hr hlk hm  hw (lv_sub hl [] rfl)
          · have hm := o_f c12 hm
            exact w_X3_isTaken_64 E hr hlk hm  hw (lv_sub hl [] rfl)
def f_X3_isTaken (v0 : Nat) (σ : ST) : Option (Int32 × ST) :=
  (stI σ v0 4 0).bind fun σ13 =>
  (f_X2_clear (LC.2.1 v0 0) σ13).bind fun u14 =>
  k_X3_isTaken_14 FU v0 0 u14
set_option maxRecDepth 20000 in
set_option maxHeartbeats 1000000 in
theorem w_X3_isTaken_0 {p : Program} {l : Launch} {e : Env} {s : State} {m : MethodId} {args : Array Value} {below : List Frame} {meth : Method} {c : Code} {D : va_G} {cy : Nat → ClassId} {b : Nat} (E : CX p m c cX3_isTaken 2 s args RX3 D cy LC) (hr : meth.sig.returnType = some .boolean) (hlk : meth.locks = false) {r : Int32 × ST} {v0 : Nat} {σ : ST} {H : Heap} {locs : List Loc} {ls : Array Slot} (hm : f_X3_isTaken v0 σ = some r) (hv0 : LC.1 v0 = 3) (hw : PH D cy LC b σ s H locs) (hl : lv_has ls 2 [(0, .ref (b + v0))]) : W p l e (rmD 9) s m args below meth c H locs 0 0 (MQ below (QcP D cy LC b (some (.int r.1)) r.2) args s 0 0 (inP LC b)) (F0 m 0 ls []) := by
  have hx := E.1.1
  have hb := E.1.2.1
  unfold f_X3_isTaken at hm
  refine lv_aload_n hx hb dX3_isTaken_0 rfl (lv_at hl 0 rfl) ?_
  refine lv_iconst (v := 0) hx hb dX3_isTaken_1 (by decide) ?_
  refine q_pi E hw hm fw_X3_22 rfl rfl hv0 dX3_isTaken_2 (fun σ13 H locs hm hw => ?_)
  refine lv_aload_n hx hb dX3_isTaken_5 rfl (lv_at hl 0 rfl) ?_
  refine q_geta E hw fw_X3_12 rfl hv0 dX3_isTaken_6 ?_
  refine q_cVv (κ := 2) (C := RX2) (T := TX2) (N := 9) [] E hw hm mw_X3_34 (fun u hu => c_X2_clear hu (tC_3_0 hv0)) rfl (by decide) (tC_3_0 hv0) rfl rfl hl.1 (Nat.le_of_ble_eq_true rfl) ⟨Nat.le_of_ble_eq_true rfl, Nat.le_of_ble_eq_true rfl⟩ dX3_isTaken_9 (fun u14 H locs hm hw => ?_)
  refine lv_iconst (v := 0) hx hb dX3_isTaken_12 (by decide) ?_
  refine lv_istore_n (lv' := [(1, .int 0), (0, .ref (b + v0))]) hx hb dX3_isTaken_13 rfl hl (by decide) rfl (fun ls hl => ?_)
  exact w_X3_isTaken_14 E hr hlk _ _ _ _ _ _ _ hm hv0 hw (lv_sub hl [1, 0] rfl)
theorem c_X3_isTaken {l : Launch} {D : va_G} {cy : Nat → ClassId} {b : Nat} {v0 : Nat} {σ : ST} {r : Int32 × ST} (hm : f_X3_isTaken v0 σ = some r) (hv0 : LC.1 v0 = 3) : Met l yX3_isTaken (wU yX3_isTaken cX3_isTaken 2 (some .boolean)) (rmD 9) (PcP D cy LC b [.ref (b + v0)] σ) (QcP D cy LC b (some (.int r.1)) r.2) 0 0 (inP LC b) :=
  q_met (lv := [(0, .ref (b + v0))]) LC_ok (by decide) (Nat.le_of_ble_eq_true rfl) rfl (fun _ _ _ _ _ _ _ _ _ E hr hlk hw hl => w_X3_isTaken_0 E hr hlk hm hv0 hw hl)

def k_X8_itemsOf_19 (s0 : Nat) (σ : ST) : Option (Nat × ST) :=
  some (s0, σ)
set_option maxRecDepth 20000 in
set_option maxHeartbeats 1000000 in
theorem w_X8_itemsOf_19 {p : Program} {l : Launch} {e : Env} {s : State} {m : MethodId} {args : Array Value} {below : List Frame} {meth : Method} {c : Code} {D : va_G} {cy : Nat → ClassId} {b : Nat} (E : CX p m c cX8_itemsOf 1 s args RX8 D cy LC) (hr : meth.sig.returnType = some (.object "java/lang/String")) (hlk : meth.locks = false) {r : Nat × ST} {s0 : Nat} {σ : ST} {H : Heap} {locs : List Loc} {ls : Array Slot} (hm : k_X8_itemsOf_19 s0 σ = some r) (hs0 : s0 < 15) (hw : PH D cy LC b σ s H locs) (hl : lv_has ls 1 []) : W p l e (rmD 0) s m args below meth c H locs 0 0 (MQ below (QcP D cy LC b (some (.ref (cy (100 + r.1)))) r.2) args s 0 0 (inP LC b)) (F0 m 19 ls [.ref (cy (100 + s0))]) := by
  have hx := E.1.1
  have hb := E.1.2.1
  unfold k_X8_itemsOf_19 at hm
  exact q_sret E hr hlk hw hm dX8_itemsOf_19
def f_X8_itemsOf (v0 : Int32) (σ : ST) : Option (Nat × ST) :=
  if v0 = 0 then (some (11, σ)) else (if v0 = 3 then (k_X8_itemsOf_19 12 σ) else (k_X8_itemsOf_19 13 σ))
set_option maxRecDepth 20000 in
set_option maxHeartbeats 1000000 in
theorem w_X8_itemsOf_0 {p : Program} {l : Launch} {e : Env} {s : State} {m : MethodId} {args : Array Value} {below : List Frame} {meth : Method} {c : Code} {D : va_G} {cy : Nat → ClassId} {b : Nat} (E : CX p m c cX8_itemsOf 1 s args RX8 D cy LC) (hr : meth.sig.returnType = some (.object "java/lang/String")) (hlk : meth.locks = false) {r : Nat × ST} {v0 : Int32} {σ : ST} {H : Heap} {locs : List Loc} {ls : Array Slot} (hm : f_X8_itemsOf v0 σ = some r) (hw : PH D cy LC b σ s H locs) (hl : lv_has ls 1 [(0, .int v0)]) : W p l e (rmD 0) s m args below meth c H locs 0 0 (MQ below (QcP D cy LC b (some (.ref (cy (100 + r.1)))) r.2) args s 0 0 (inP LC b)) (F0 m 0 ls []) := by
  have hx := E.1.1
  have hb := E.1.2.1
  unfold f_X8_itemsOf at hm
  refine lv_iload_n hx hb dX8_itemsOf_0 rfl (lv_at hl 0 rfl) ?_
  refine lv_if_ne (tgt := 7) hx hb dX8_itemsOf_1 (by decide) (fun c1 => ?_) (fun c1 => ?_)
  · have hm := o_f c1 hm
    refine lv_iload_n hx hb dX8_itemsOf_7 rfl (lv_at hl 0 rfl) ?_
    refine lv_iconst (v := 3) hx hb dX8_itemsOf_8 (by decide) ?_
    refine lv_icmp_ne (tgt := 17) hx hb dX8_itemsOf_9 (by decide) (fun c2 => ?_) (fun c2 => ?_)
    · have hm := o_f c2 hm
      refine q_ldcS (tx := "y@Y.") (i := 13) E hw (List.mem_of_getElem? (i := 13) rfl) dX8_itemsOf_17 ?_
      exact w_X8_itemsOf_19 E hr hlk hm (by decide) hw (lv_sub hl [] rfl)
    · have hm := o_t c2 hm
      refine q_ldcS (tx := "k@K;") (i := 12) E hw (List.mem_of_getElem? (i := 12) rfl) dX8_itemsOf_12 ?_
      refine lv_goto (tgt := 19) hx hb dX8_itemsOf_14 (by decide) ?_
      exact w_X8_itemsOf_19 E hr hlk hm (by decide) hw (lv_sub hl [] rfl)
  · have hm := o_t c1 hm
    refine q_ldcS (tx := "nrRwW;") (i := 11) E hw (List.mem_of_getElem? (i := 11) rfl) dX8_itemsOf_4 ?_
    exact q_sret E hr hlk hw hm dX8_itemsOf_6
theorem c_X8_itemsOf {l : Launch} {D : va_G} {cy : Nat → ClassId} {b : Nat} {v0 : Int32} {σ : ST} {r : Nat × ST} (hm : f_X8_itemsOf v0 σ = some r) : Met l yX8_itemsOf (wU yX8_itemsOf cX8_itemsOf 1 (some (.object "java/lang/String"))) (rmD 0) (PcP D cy LC b [.int v0] σ) (QcP D cy LC b (some (.ref (cy (100 + r.1)))) r.2) 0 0 (inP LC b) :=
  q_met (lv := [(0, .int v0)]) LC_ok (by decide) (Nat.le_of_ble_eq_true rfl) rfl (fun _ _ _ _ _ _ _ _ _ E hr hlk hw hl => w_X8_itemsOf_0 E hr hlk hm hw hl)

def k_X8_mayBegin_119 (s0 : Int32) (σ : ST) : Option (Int32 × ST) :=
  (ckZ s0).bind fun z => some (z, σ)
set_option maxRecDepth 20000 in
set_option maxHeartbeats 1000000 in
theorem w_X8_mayBegin_119 {p : Program} {l : Launch} {e : Env} {s : State} {m : MethodId} {args : Array Value} {below : List Frame} {meth : Method} {c : Code} {D : va_G} {cy : Nat → ClassId} {b : Nat} (E : CX p m c cX8_mayBegin 2 s args RX8 D cy LC) (hr : meth.sig.returnType = some .boolean) (hlk : meth.locks = false) {r : Int32 × ST} {s0 : Int32} {σ : ST} {H : Heap} {locs : List Loc} {ls : Array Slot} (hm : k_X8_mayBegin_119 s0 σ = some r) (hw : PH D cy LC b σ s H locs) (hl : lv_has ls 2 []) : W p l e (rmD 1) s m args below meth c H locs 0 0 (MQ below (QcP D cy LC b (some (.int r.1)) r.2) args s 0 0 (inP LC b)) (F0 m 119 ls [.int s0]) := by
  have hx := E.1.1
  have hb := E.1.2.1
  unfold k_X8_mayBegin_119 at hm
  exact q_zret E hr hlk hw hm dX8_mayBegin_119
def k_X8_mayBegin_114 (σ : ST) : Option (Int32 × ST) :=
  k_X8_mayBegin_119 1 σ
set_option maxRecDepth 20000 in
set_option maxHeartbeats 1000000 in
theorem w_X8_mayBegin_114 {p : Program} {l : Launch} {e : Env} {s : State} {m : MethodId} {args : Array Value} {below : List Frame} {meth : Method} {c : Code} {D : va_G} {cy : Nat → ClassId} {b : Nat} (E : CX p m c cX8_mayBegin 2 s args RX8 D cy LC) (hr : meth.sig.returnType = some .boolean) (hlk : meth.locks = false) {r : Int32 × ST} {σ : ST} {H : Heap} {locs : List Loc} {ls : Array Slot} (hm : k_X8_mayBegin_114  σ = some r) (hw : PH D cy LC b σ s H locs) (hl : lv_has ls 2 []) : W p l e (rmD 1) s m args below meth c H locs 0 0 (MQ below (QcP D cy LC b (some (.int r.1)) r.2) args s 0 0 (inP LC b)) (F0 m 114 ls []) := by
  have hx := E.1.1
  have hb := E.1.2.1
  unfold k_X8_mayBegin_114 at hm
  refine lv_iconst (v := 1) hx hb dX8_mayBegin_114 (by decide) ?_
  refine lv_goto (tgt := 119) hx hb dX8_mayBegin_115 (by decide) ?_
  exact w_X8_mayBegin_119 E hr hlk hm  hw (lv_sub hl [] rfl)
def k_X8_mayBegin_89 (s0 : Int32) (σ : ST) : Option (Int32 × ST) :=
  (ckZ s0).bind fun z => some (z, σ)
set_option maxRecDepth 20000 in
set_option maxHeartbeats 1000000 in
theorem w_X8_mayBegin_89 {p : Program} {l : Launch} {e : Env} {s : State} {m : MethodId} {args : Array Value} {below : List Frame} {meth : Method} {c : Code} {D : va_G} {cy : Nat → ClassId} {b : Nat} (E : CX p m c cX8_mayBegin 2 s args RX8 D cy LC) (hr : meth.sig.returnType = some .boolean) (hlk : meth.locks = false) {r : Int32 × ST} {s0 : Int32} {σ : ST} {H : Heap} {locs : List Loc} {ls : Array Slot} (hm : k_X8_mayBegin_89 s0 σ = some r) (hw : PH D cy LC b σ s H locs) (hl : lv_has ls 2 []) : W p l e (rmD 1) s m args below meth c H locs 0 0 (MQ below (QcP D cy LC b (some (.int r.1)) r.2) args s 0 0 (inP LC b)) (F0 m 89 ls [.int s0]) := by
  have hx := E.1.1
  have hb := E.1.2.1
  unfold k_X8_mayBegin_89 at hm
  exact q_zret E hr hlk hw hm dX8_mayBegin_89
def k_X8_mayBegin_84 (σ : ST) : Option (Int32 × ST) :=
  k_X8_mayBegin_89 1 σ
set_option maxRecDepth 20000 in
set_option maxHeartbeats 1000000 in
theorem w_X8_mayBegin_84 {p : Program} {l : Launch} {e : Env} {s : State} {m : MethodId} {args : Array Value} {below : List Frame} {meth : Method} {c : Code} {D : va_G} {cy : Nat → ClassId} {b : Nat} (E : CX p m c cX8_mayBegin 2 s args RX8 D cy LC) (hr : meth.sig.returnType = some .boolean) (hlk : meth.locks = false) {r : Int32 × ST} {σ : ST} {H : Heap} {locs : List Loc} {ls : Array Slot} (hm : k_X8_mayBegin_84  σ = some r) (hw : PH D cy LC b σ s H locs) (hl : lv_has ls 2 []) : W p l e (rmD 1) s m args below meth c H locs 0 0 (MQ below (QcP D cy LC b (some (.int r.1)) r.2) args s 0 0 (inP LC b)) (F0 m 84 ls []) := by
  have hx := E.1.1
  have hb := E.1.2.1
  unfold k_X8_mayBegin_84 at hm
  refine lv_iconst (v := 1) hx hb dX8_mayBegin_84 (by decide) ?_
  refine lv_goto (tgt := 89) hx hb dX8_mayBegin_85 (by decide) ?_
  exact w_X8_mayBegin_89 E hr hlk hm  hw (lv_sub hl [] rfl)
def k_X8_mayBegin_59 (s0 : Int32) (σ : ST) : Option (Int32 × ST) :=
  (ckZ s0).bind fun z => some (z, σ)
set_option maxRecDepth 20000 in
set_option maxHeartbeats 1000000 in
theorem w_X8_mayBegin_59 {p : Program} {l : Launch} {e : Env} {s : State} {m : MethodId} {args : Array Value} {below : List Frame} {meth : Method} {c : Code} {D : va_G} {cy : Nat → ClassId} {b : Nat} (E : CX p m c cX8_mayBegin 2 s args RX8 D cy LC) (hr : meth.sig.returnType = some .boolean) (hlk : meth.locks = false) {r : Int32 × ST} {s0 : Int32} {σ : ST} {H : Heap} {locs : List Loc} {ls : Array Slot} (hm : k_X8_mayBegin_59 s0 σ = some r) (hw : PH D cy LC b σ s H locs) (hl : lv_has ls 2 []) : W p l e (rmD 1) s m args below meth c H locs 0 0 (MQ below (QcP D cy LC b (some (.int r.1)) r.2) args s 0 0 (inP LC b)) (F0 m 59 ls [.int s0]) := by
  have hx := E.1.1
  have hb := E.1.2.1
  unfold k_X8_mayBegin_59 at hm
  exact q_zret E hr hlk hw hm dX8_mayBegin_59
def k_X8_mayBegin_54 (σ : ST) : Option (Int32 × ST) :=
  k_X8_mayBegin_59 1 σ
set_option maxRecDepth 20000 in
set_option maxHeartbeats 1000000 in
theorem w_X8_mayBegin_54 {p : Program} {l : Launch} {e : Env} {s : State} {m : MethodId} {args : Array Value} {below : List Frame} {meth : Method} {c : Code} {D : va_G} {cy : Nat → ClassId} {b : Nat} (E : CX p m c cX8_mayBegin 2 s args RX8 D cy LC) (hr : meth.sig.returnType = some .boolean) (hlk : meth.locks = false) {r : Int32 × ST} {σ : ST} {H : Heap} {locs : List Loc} {ls : Array Slot} (hm : k_X8_mayBegin_54  σ = some r) (hw : PH D cy LC b σ s H locs) (hl : lv_has ls 2 []) : W p l e (rmD 1) s m args below meth c H locs 0 0 (MQ below (QcP D cy LC b (some (.int r.1)) r.2) args s 0 0 (inP LC b)) (F0 m 54 ls []) := by
  have hx := E.1.1
  have hb := E.1.2.1
  unfold k_X8_mayBegin_54 at hm
  refine lv_iconst (v := 1) hx hb dX8_mayBegin_54 (by decide) ?_
  refine lv_goto (tgt := 59) hx hb dX8_mayBegin_55 (by decide) ?_
  exact w_X8_mayBegin_59 E hr hlk hm  hw (lv_sub hl [] rfl)
def f_X8_mayBegin (v0 : Nat) (v1 : Int32) (σ : ST) : Option (Int32 × ST) :=
  if v1 = 0 then (if (gI σ v0 2) = 0 then (k_X8_mayBegin_54 σ) else ((f_X6_blame (LC.2.1 v0 1) 5 σ).bind fun u3 =>
  if u3.1 = 0 then (k_X8_mayBegin_59 0 u3.2) else (k_X8_mayBegin_54 u3.2))) else if v1 = 3 then (if (gI σ (LC.2.1 v0 0) 6) < 6 then (k_X8_mayBegin_84 σ) else ((f_X6_blame (LC.2.1 v0 1) 6 σ).bind fun u7 =>
  if u7.1 = 0 then (k_X8_mayBegin_89 0 u7.2) else (k_X8_mayBegin_84 u7.2))) else if v1 = 5 then (if (gI σ (LC.2.1 v0 0) 7) < 6 then (k_X8_mayBegin_114 σ) else ((f_X6_blame (LC.2.1 v0 1) 6 σ).bind fun u11 =>
  if u11.1 = 0 then (k_X8_mayBegin_119 0 u11.2) else (k_X8_mayBegin_114 u11.2))) else ((f_X6_blame (LC.2.1 v0 1) 2 σ).bind fun u13 =>
  (ckZ u13.1).bind fun z => some (z, u13.2))
set_option maxRecDepth 20000 in
set_option maxHeartbeats 1000000 in
theorem w_X8_mayBegin_0 {p : Program} {l : Launch} {e : Env} {s : State} {m : MethodId} {args : Array Value} {below : List Frame} {meth : Method} {c : Code} {D : va_G} {cy : Nat → ClassId} {b : Nat} (E : CX p m c cX8_mayBegin 2 s args RX8 D cy LC) (hr : meth.sig.returnType = some .boolean) (hlk : meth.locks = false) {r : Int32 × ST} {v0 : Nat} {v1 : Int32} {σ : ST} {H : Heap} {locs : List Loc} {ls : Array Slot} (hm : f_X8_mayBegin v0 v1 σ = some r) (hv0 : LC.1 v0 = 8) (hw : PH D cy LC b σ s H locs) (hl : lv_has ls 2 [(0, .ref (b + v0)), (1, .int v1)]) : W p l e (rmD 1) s m args below meth c H locs 0 0 (MQ below (QcP D cy LC b (some (.int r.1)) r.2) args s 0 0 (inP LC b)) (F0 m 0 ls []) := by
  have hx := E.1.1
  have hb := E.1.2.1
  unfold f_X8_mayBegin at hm
  refine lv_iload_n hx hb dX8_mayBegin_0 rfl (lv_at hl 1 rfl) ?_
  by_cases c1 : v1 = 0
  · refine q_lsw (off := 35) E 0 36 c1 dX8_mayBegin_1 (by decide) (by decide) (by decide) ?_
    have hm := o_t c1 hm
    refine lv_aload_n hx hb dX8_mayBegin_36 rfl (lv_at hl 0 rfl) ?_
    refine q_geti E hw fw_X8_18 rfl hv0 dX8_mayBegin_37 ?_
    refine lv_if_eq (tgt := 54) hx hb dX8_mayBegin_40 (by decide) (fun c2 => ?_) (fun c2 => ?_)
    · have hm := o_t c2 hm
      exact w_X8_mayBegin_54 E hr hlk hm  hw (lv_sub hl [] rfl)
    · have hm := o_f c2 hm
      refine lv_aload_n hx hb dX8_mayBegin_43 rfl (lv_at hl 0 rfl) ?_
      refine q_geta E hw fw_X8_22 rfl hv0 dX8_mayBegin_44 ?_
      refine lv_iconst (v := 5) hx hb dX8_mayBegin_47 (by decide) ?_
      refine q_cVi (κ := 6) (C := RX6) (T := TX6) (N := 12) [] E hw hm mw_X8_56 (fun u hu => c_X6_blame hu (tC_8_1 hv0)) rfl (by decide) (tC_8_1 hv0) rfl rfl hl.1 (Nat.le_of_ble_eq_true rfl) ⟨Nat.le_of_ble_eq_true rfl, Nat.le_of_ble_eq_true rfl⟩ dX8_mayBegin_48 (fun u3 H locs hm hw => ?_)
      refine lv_if_eq (tgt := 58) hx hb dX8_mayBegin_51 (by decide) (fun c4 => ?_) (fun c4 => ?_)
      · have hm := o_t c4 hm
        refine lv_iconst (v := 0) hx hb dX8_mayBegin_58 (by decide) ?_
        exact w_X8_mayBegin_59 E hr hlk hm  hw (lv_sub hl [] rfl)
      · have hm := o_f c4 hm
        exact w_X8_mayBegin_54 E hr hlk hm  hw (lv_sub hl [] rfl)
  have hm := o_f c1 hm
  by_cases c5 : v1 = 3
  · refine q_lsw (off := 59) E 3 60 c5 dX8_mayBegin_1 (by decide) (by decide) (by decide) ?_
    have hm := o_t c5 hm
    refine lv_aload_n hx hb dX8_mayBegin_60 rfl (lv_at hl 0 rfl) ?_
    refine q_geta E hw fw_X8_12 rfl hv0 dX8_mayBegin_61 ?_
    refine q_geti E hw fw_X8_59 rfl (tC_8_0 hv0) dX8_mayBegin_64 ?_
    refine lv_bipush (v := 6) hx hb dX8_mayBegin_67 (by decide) ?_
    refine lv_icmp_lt (tgt := 84) hx hb dX8_mayBegin_69 (by decide) (fun c6 => ?_) (fun c6 => ?_)
    · have hm := o_t c6 hm
      exact w_X8_mayBegin_84 E hr hlk hm  hw (lv_sub hl [] rfl)
    · have hm := o_f c6 hm
      refine lv_aload_n hx hb dX8_mayBegin_72 rfl (lv_at hl 0 rfl) ?_
      refine q_geta E hw fw_X8_22 rfl hv0 dX8_mayBegin_73 ?_
      refine lv_bipush (v := 6) hx hb dX8_mayBegin_76 (by decide) ?_
      refine q_cVi (κ := 6) (C := RX6) (T := TX6) (N := 12) [] E hw hm mw_X8_56 (fun u hu => c_X6_blame hu (tC_8_1 hv0)) rfl (by decide) (tC_8_1 hv0) rfl rfl hl.1 (Nat.le_of_ble_eq_true rfl) ⟨Nat.le_of_ble_eq_true rfl, Nat.le_of_ble_eq_true rfl⟩ dX8_mayBegin_78 (fun u7 H locs hm hw => ?_)
      refine lv_if_eq (tgt := 88) hx hb dX8_mayBegin_81 (by decide) (fun c8 => ?_) (fun c8 => ?_)
      · have hm := o_t c8 hm
        refine lv_iconst (v := 0) hx hb dX8_mayBegin_88 (by decide) ?_
        exact w_X8_mayBegin_89 E hr hlk hm  hw (lv_sub hl [] rfl)
      · have hm := o_f c8 hm
        exact w_X8_mayBegin_84 E hr hlk hm  hw (lv_sub hl [] rfl)
  have hm := o_f c5 hm
  by_cases c9 : v1 = 5
  · refine q_lsw (off := 89) E 5 90 c9 dX8_mayBegin_1 (by decide) (by decide) (by decide) ?_
    have hm := o_t c9 hm
    refine lv_aload_n hx hb dX8_mayBegin_90 rfl (lv_at hl 0 rfl) ?_
    refine q_geta E hw fw_X8_12 rfl hv0 dX8_mayBegin_91 ?_
    refine q_geti E hw fw_X8_62 rfl (tC_8_0 hv0) dX8_mayBegin_94 ?_
    refine lv_bipush (v := 6) hx hb dX8_mayBegin_97 (by decide) ?_
    refine lv_icmp_lt (tgt := 114) hx hb dX8_mayBegin_99 (by decide) (fun c10 => ?_) (fun c10 => ?_)
    · have hm := o_t c10 hm
      exact w_X8_mayBegin_114 E hr hlk hm  hw (lv_sub hl [] rfl)
    · have hm := o_f c10 hm
      refine lv_aload_n hx hb dX8_mayBegin_102 rfl (lv_at hl 0 rfl) ?_
      refine q_geta E hw fw_X8_22 rfl hv0 dX8_mayBegin_103 ?_
      refine lv_bipush (v := 6) hx hb dX8_mayBegin_106 (by decide) ?_
      refine q_cVi (κ := 6) (C := RX6) (T := TX6) (N := 12) [] E hw hm mw_X8_56 (fun u hu => c_X6_blame hu (tC_8_1 hv0)) rfl (by decide) (tC_8_1 hv0) rfl rfl hl.1 (Nat.le_of_ble_eq_true rfl) ⟨Nat.le_of_ble_eq_true rfl, Nat.le_of_ble_eq_true rfl⟩ dX8_mayBegin_108 (fun u11 H locs hm hw => ?_)
      refine lv_if_eq (tgt := 118) hx hb dX8_mayBegin_111 (by decide) (fun c12 => ?_) (fun c12 => ?_)
      · have hm := o_t c12 hm
        refine lv_iconst (v := 0) hx hb dX8_mayBegin_118 (by decide) ?_
        exact w_X8_mayBegin_119 E hr hlk hm  hw (lv_sub hl [] rfl)
      · have hm := o_f c12 hm
        exact w_X8_mayBegin_114 E hr hlk hm  hw (lv_sub hl [] rfl)
  have hm := o_f c9 hm
  refine lv_lookup (off := 119) (tgt := 120) hx hb dX8_mayBegin_1 (by decide) (by rw [lv_osw c1 (by decide), lv_osw c5 (by decide), lv_osw c9 (by decide)]; rfl) (by decide) ?_
  refine lv_aload_n hx hb dX8_mayBegin_120 rfl (lv_at hl 0 rfl) ?_
  refine q_geta E hw fw_X8_22 rfl hv0 dX8_mayBegin_121 ?_
  refine lv_iconst (v := 2) hx hb dX8_mayBegin_124 (by decide) ?_
  refine q_cVi (κ := 6) (C := RX6) (T := TX6) (N := 12) [] E hw hm mw_X8_56 (fun u hu => c_X6_blame hu (tC_8_1 hv0)) rfl (by decide) (tC_8_1 hv0) rfl rfl hl.1 (Nat.le_of_ble_eq_true rfl) ⟨Nat.le_of_ble_eq_true rfl, Nat.le_of_ble_eq_true rfl⟩ dX8_mayBegin_125 (fun u13 H locs hm hw => ?_)
  exact q_zret E hr hlk hw hm dX8_mayBegin_128
theorem c_X8_mayBegin {l : Launch} {D : va_G} {cy : Nat → ClassId} {b : Nat} {v0 : Nat} {v1 : Int32} {σ : ST} {r : Int32 × ST} (hm : f_X8_mayBegin v0 v1 σ = some r) (hv0 : LC.1 v0 = 8) : Met l yX8_mayBegin (wU yX8_mayBegin cX8_mayBegin 2 (some .boolean)) (rmD 1) (PcP D cy LC b [.ref (b + v0), .int v1] σ) (QcP D cy LC b (some (.int r.1)) r.2) 0 0 (inP LC b) :=
  q_met (lv := [(0, .ref (b + v0)), (1, .int v1)]) LC_ok (by decide) (Nat.le_of_ble_eq_true rfl) rfl (fun _ _ _ _ _ _ _ _ _ E hr hlk hw hl => w_X8_mayBegin_0 E hr hlk hm hv0 hw hl)

def k_X8_isNewName_72 (s0 : Int32) (σ : ST) : Option (Int32 × ST) :=
  (ckZ s0).bind fun z => some (z, σ)
set_option maxRecDepth 20000 in
set_option maxHeartbeats 1000000 in
theorem w_X8_isNewName_72 {p : Program} {l : Launch} {e : Env} {s : State} {m : MethodId} {args : Array Value} {below : List Frame} {meth : Method} {c : Code} {D : va_G} {cy : Nat → ClassId} {b : Nat} (E : CX p m c cX8_isNewName 2 s args RX8 D cy LC) (hr : meth.sig.returnType = some .boolean) (hlk : meth.locks = false) {r : Int32 × ST} {s0 : Int32} {σ : ST} {H : Heap} {locs : List Loc} {ls : Array Slot} (hm : k_X8_isNewName_72 s0 σ = some r) (hw : PH D cy LC b σ s H locs) (hl : lv_has ls 2 []) : W p l e (rmD 2) s m args below meth c H locs 0 0 (MQ below (QcP D cy LC b (some (.int r.1)) r.2) args s 0 0 (inP LC b)) (F0 m 72 ls [.int s0]) := by
  have hx := E.1.1
  have hb := E.1.2.1
  unfold k_X8_isNewName_72 at hm
  exact q_zret E hr hlk hw hm dX8_isNewName_72
def k_X8_isNewName_71 (σ : ST) : Option (Int32 × ST) :=
  k_X8_isNewName_72 0 σ
set_option maxRecDepth 20000 in
set_option maxHeartbeats 1000000 in
theorem w_X8_isNewName_71 {p : Program} {l : Launch} {e : Env} {s : State} {m : MethodId} {args : Array Value} {below : List Frame} {meth : Method} {c : Code} {D : va_G} {cy : Nat → ClassId} {b : Nat} (E : CX p m c cX8_isNewName 2 s args RX8 D cy LC) (hr : meth.sig.returnType = some .boolean) (hlk : meth.locks = false) {r : Int32 × ST} {σ : ST} {H : Heap} {locs : List Loc} {ls : Array Slot} (hm : k_X8_isNewName_71  σ = some r) (hw : PH D cy LC b σ s H locs) (hl : lv_has ls 2 []) : W p l e (rmD 2) s m args below meth c H locs 0 0 (MQ below (QcP D cy LC b (some (.int r.1)) r.2) args s 0 0 (inP LC b)) (F0 m 71 ls []) := by
  have hx := E.1.1
  have hb := E.1.2.1
  unfold k_X8_isNewName_71 at hm
  refine lv_iconst (v := 0) hx hb dX8_isNewName_71 (by decide) ?_
  exact w_X8_isNewName_72 E hr hlk hm  hw (lv_sub hl [] rfl)
def k_X8_isNewName_67 (σ : ST) : Option (Int32 × ST) :=
  k_X8_isNewName_72 1 σ
set_option maxRecDepth 20000 in
set_option maxHeartbeats 1000000 in
theorem w_X8_isNewName_67 {p : Program} {l : Launch} {e : Env} {s : State} {m : MethodId} {args : Array Value} {below : List Frame} {meth : Method} {c : Code} {D : va_G} {cy : Nat → ClassId} {b : Nat} (E : CX p m c cX8_isNewName 2 s args RX8 D cy LC) (hr : meth.sig.returnType = some .boolean) (hlk : meth.locks = false) {r : Int32 × ST} {σ : ST} {H : Heap} {locs : List Loc} {ls : Array Slot} (hm : k_X8_isNewName_67  σ = some r) (hw : PH D cy LC b σ s H locs) (hl : lv_has ls 2 []) : W p l e (rmD 2) s m args below meth c H locs 0 0 (MQ below (QcP D cy LC b (some (.int r.1)) r.2) args s 0 0 (inP LC b)) (F0 m 67 ls []) := by
  have hx := E.1.1
  have hb := E.1.2.1
  unfold k_X8_isNewName_67 at hm
  refine lv_iconst (v := 1) hx hb dX8_isNewName_67 (by decide) ?_
  refine lv_goto (tgt := 72) hx hb dX8_isNewName_68 (by decide) ?_
  exact w_X8_isNewName_72 E hr hlk hm  hw (lv_sub hl [] rfl)
def k_X8_isNewName_41 (v0 : Nat) (s0 : Int32) (σ : ST) : Option (Int32 × ST) :=
  (f_X6_isName (LC.2.1 v0 1) σ).bind fun u1 =>
  if u1.1 = 0 then (k_X8_isNewName_71 u1.2) else (if s0 = 0 then ((f_X6_blame (LC.2.1 v0 1) 3 u1.2).bind fun u4 =>
  if u4.1 = 0 then (k_X8_isNewName_71 u4.2) else (k_X8_isNewName_67 u4.2)) else (k_X8_isNewName_67 u1.2))
set_option maxRecDepth 20000 in
set_option maxHeartbeats 1000000 in
theorem w_X8_isNewName_41 {p : Program} {l : Launch} {e : Env} {s : State} {m : MethodId} {args : Array Value} {below : List Frame} {meth : Method} {c : Code} {D : va_G} {cy : Nat → ClassId} {b : Nat} (E : CX p m c cX8_isNewName 2 s args RX8 D cy LC) (hr : meth.sig.returnType = some .boolean) (hlk : meth.locks = false) {r : Int32 × ST} {v0 : Nat} {s0 : Int32} {σ : ST} {H : Heap} {locs : List Loc} {ls : Array Slot} (hm : k_X8_isNewName_41 v0 s0 σ = some r) (hv0 : LC.1 v0 = 8) (hw : PH D cy LC b σ s H locs) (hl : lv_has ls 2 [(0, .ref (b + v0))]) : W p l e (rmD 2) s m args below meth c H locs 0 0 (MQ below (QcP D cy LC b (some (.int r.1)) r.2) args s 0 0 (inP LC b)) (F0 m 41 ls [.int s0]) := by
  have hx := E.1.1
  have hb := E.1.2.1
  unfold k_X8_isNewName_41 at hm
  refine lv_istore_n (lv' := [(1, .int s0), (0, .ref (b + v0))]) hx hb dX8_isNewName_41 rfl hl (by decide) rfl (fun ls hl => ?_)
  refine lv_aload_n hx hb dX8_isNewName_42 rfl (lv_at hl 1 rfl) ?_
  refine q_geta E hw fw_X8_22 rfl hv0 dX8_isNewName_43 ?_
  refine q_cVi (κ := 6) (C := RX6) (T := TX6) (N := 12) [] E hw hm mw_X8_140 (fun u hu => c_X6_isName hu (tC_8_1 hv0)) rfl (by decide) (tC_8_1 hv0) rfl rfl hl.1 (Nat.le_of_ble_eq_true rfl) ⟨Nat.le_of_ble_eq_true rfl, Nat.le_of_ble_eq_true rfl⟩ dX8_isNewName_46 (fun u1 H locs hm hw => ?_)
  refine lv_if_eq (tgt := 71) hx hb dX8_isNewName_49 (by decide) (fun c2 => ?_) (fun c2 => ?_)
  · have hm := o_t c2 hm
    exact w_X8_isNewName_71 E hr hlk hm  hw (lv_sub hl [] rfl)
  · have hm := o_f c2 hm
    refine lv_iload_n hx hb dX8_isNewName_52 rfl (lv_at hl 0 rfl) ?_
    refine lv_if_ne (tgt := 67) hx hb dX8_isNewName_53 (by decide) (fun c3 => ?_) (fun c3 => ?_)
    · have hm := o_f c3 hm
      exact w_X8_isNewName_67 E hr hlk hm  hw (lv_sub hl [] rfl)
    · have hm := o_t c3 hm
      refine lv_aload_n hx hb dX8_isNewName_56 rfl (lv_at hl 1 rfl) ?_
      refine q_geta E hw fw_X8_22 rfl hv0 dX8_isNewName_57 ?_
      refine lv_iconst (v := 3) hx hb dX8_isNewName_60 (by decide) ?_
      refine q_cVi (κ := 6) (C := RX6) (T := TX6) (N := 12) [] E hw hm mw_X8_56 (fun u hu => c_X6_blame hu (tC_8_1 hv0)) rfl (by decide) (tC_8_1 hv0) rfl rfl hl.1 (Nat.le_of_ble_eq_true rfl) ⟨Nat.le_of_ble_eq_true rfl, Nat.le_of_ble_eq_true rfl⟩ dX8_isNewName_61 (fun u4 H locs hm hw => ?_)
      refine lv_if_eq (tgt := 71) hx hb dX8_isNewName_64 (by decide) (fun c5 => ?_) (fun c5 => ?_)
      · have hm := o_t c5 hm
        exact w_X8_isNewName_71 E hr hlk hm  hw (lv_sub hl [] rfl)
      · have hm := o_f c5 hm
        exact w_X8_isNewName_67 E hr hlk hm  hw (lv_sub hl [] rfl)
def k_X8_isNewName_40 (v0 : Nat) (σ : ST) : Option (Int32 × ST) :=
  k_X8_isNewName_41 v0 0 σ
set_option maxRecDepth 20000 in
set_option maxHeartbeats 1000000 in
theorem w_X8_isNewName_40 {p : Program} {l : Launch} {e : Env} {s : State} {m : MethodId} {args : Array Value} {below : List Frame} {meth : Method} {c : Code} {D : va_G} {cy : Nat → ClassId} {b : Nat} (E : CX p m c cX8_isNewName 2 s args RX8 D cy LC) (hr : meth.sig.returnType = some .boolean) (hlk : meth.locks = false) {r : Int32 × ST} {v0 : Nat} {σ : ST} {H : Heap} {locs : List Loc} {ls : Array Slot} (hm : k_X8_isNewName_40 v0 σ = some r) (hv0 : LC.1 v0 = 8) (hw : PH D cy LC b σ s H locs) (hl : lv_has ls 2 [(0, .ref (b + v0))]) : W p l e (rmD 2) s m args below meth c H locs 0 0 (MQ below (QcP D cy LC b (some (.int r.1)) r.2) args s 0 0 (inP LC b)) (F0 m 40 ls []) := by
  have hx := E.1.1
  have hb := E.1.2.1
  unfold k_X8_isNewName_40 at hm
  refine lv_iconst (v := 0) hx hb dX8_isNewName_40 (by decide) ?_
  exact w_X8_isNewName_41 E hr hlk hm hv0 hw (lv_sub hl [0] rfl)
def f_X8_isNewName (v0 : Nat) (σ : ST) : Option (Int32 × ST) :=
  (f_X7_keeperNamed (LC.2.1 v0 0) (gJ σ (LC.2.1 v0 1) 9) σ).bind fun u6 =>
  if u6.1 = (-1) then ((f_X7_keyNamed (LC.2.1 v0 0) (gJ u6.2 (LC.2.1 v0 1) 9) u6.2).bind fun u8 =>
  if u8.1 = (-1) then (k_X8_isNewName_41 v0 1 u8.2) else (k_X8_isNewName_40 v0 u8.2)) else (k_X8_isNewName_40 v0 u6.2)
set_option maxRecDepth 20000 in
set_option maxHeartbeats 1000000 in
theorem w_X8_isNewName_0 {p : Program} {l : Launch} {e : Env} {s : State} {m : MethodId} {args : Array Value} {below : List Frame} {meth : Method} {c : Code} {D : va_G} {cy : Nat → ClassId} {b : Nat} (E : CX p m c cX8_isNewName 2 s args RX8 D cy LC) (hr : meth.sig.returnType = some .boolean) (hlk : meth.locks = false) {r : Int32 × ST} {v0 : Nat} {σ : ST} {H : Heap} {locs : List Loc} {ls : Array Slot} (hm : f_X8_isNewName v0 σ = some r) (hv0 : LC.1 v0 = 8) (hw : PH D cy LC b σ s H locs) (hl : lv_has ls 2 [(0, .ref (b + v0))]) : W p l e (rmD 2) s m args below meth c H locs 0 0 (MQ below (QcP D cy LC b (some (.int r.1)) r.2) args s 0 0 (inP LC b)) (F0 m 0 ls []) := by
  have hx := E.1.1
  have hb := E.1.2.1
  unfold f_X8_isNewName at hm
  refine lv_aload_n hx hb dX8_isNewName_0 rfl (lv_at hl 0 rfl) ?_
  refine q_geta E hw fw_X8_12 rfl hv0 dX8_isNewName_1 ?_
  refine lv_aload_n hx hb dX8_isNewName_4 rfl (lv_at hl 0 rfl) ?_
  refine q_geta E hw fw_X8_22 rfl hv0 dX8_isNewName_5 ?_
  refine q_getl E hw fw_X8_114 rfl (tC_8_1 hv0) dX8_isNewName_8 ?_
  refine q_cVi (κ := 7) (C := RX7) (T := TX7) (N := 12) [] E hw hm mw_X8_133 (fun u hu => c_X7_keeperNamed hu (tC_8_0 hv0)) rfl (by decide) (tC_8_0 hv0) rfl rfl hl.1 (Nat.le_of_ble_eq_true rfl) ⟨Nat.le_of_ble_eq_true rfl, Nat.le_of_ble_eq_true rfl⟩ dX8_isNewName_11 (fun u6 H locs hm hw => ?_)
  refine lv_iconst (v := (-1)) hx hb dX8_isNewName_14 (by decide) ?_
  refine lv_icmp_ne (tgt := 40) hx hb dX8_isNewName_15 (by decide) (fun c7 => ?_) (fun c7 => ?_)
  · have hm := o_f c7 hm
    exact w_X8_isNewName_40 E hr hlk hm hv0 hw (lv_sub hl [0] rfl)
  · have hm := o_t c7 hm
    refine lv_aload_n hx hb dX8_isNewName_18 rfl (lv_at hl 0 rfl) ?_
    refine q_geta E hw fw_X8_12 rfl hv0 dX8_isNewName_19 ?_
    refine lv_aload_n hx hb dX8_isNewName_22 rfl (lv_at hl 0 rfl) ?_
    refine q_geta E hw fw_X8_22 rfl hv0 dX8_isNewName_23 ?_
    refine q_getl E hw fw_X8_114 rfl (tC_8_1 hv0) dX8_isNewName_26 ?_
    refine q_cVi (κ := 7) (C := RX7) (T := TX7) (N := 12) [] E hw hm mw_X8_137 (fun u hu => c_X7_keyNamed hu (tC_8_0 hv0)) rfl (by decide) (tC_8_0 hv0) rfl rfl hl.1 (Nat.le_of_ble_eq_true rfl) ⟨Nat.le_of_ble_eq_true rfl, Nat.le_of_ble_eq_true rfl⟩ dX8_isNewName_29 (fun u8 H locs hm hw => ?_)
    refine lv_iconst (v := (-1)) hx hb dX8_isNewName_32 (by decide) ?_
    refine lv_icmp_ne (tgt := 40) hx hb dX8_isNewName_33 (by decide) (fun c9 => ?_) (fun c9 => ?_)
    · have hm := o_f c9 hm
      exact w_X8_isNewName_40 E hr hlk hm hv0 hw (lv_sub hl [0] rfl)
    · have hm := o_t c9 hm
      refine lv_iconst (v := 1) hx hb dX8_isNewName_36 (by decide) ?_
      refine lv_goto (tgt := 41) hx hb dX8_isNewName_37 (by decide) ?_
      exact w_X8_isNewName_41 E hr hlk hm hv0 hw (lv_sub hl [0] rfl)
theorem c_X8_isNewName {l : Launch} {D : va_G} {cy : Nat → ClassId} {b : Nat} {v0 : Nat} {σ : ST} {r : Int32 × ST} (hm : f_X8_isNewName v0 σ = some r) (hv0 : LC.1 v0 = 8) : Met l yX8_isNewName (wU yX8_isNewName cX8_isNewName 2 (some .boolean)) (rmD 2) (PcP D cy LC b [.ref (b + v0)] σ) (QcP D cy LC b (some (.int r.1)) r.2) 0 0 (inP LC b) :=
  q_met (lv := [(0, .ref (b + v0))]) LC_ok (by decide) (Nat.le_of_ble_eq_true rfl) rfl (fun _ _ _ _ _ _ _ _ _ E hr hlk hw hl => w_X8_isNewName_0 E hr hlk hm hv0 hw hl)

def f_X8_takesCopies (v0 : Nat) (σ : ST) : Option (Int32 × ST) :=
  (stZ σ v0 2 1).bind fun σ1 =>
  (stI σ1 (LC.2.1 v0 0) 9 (gI σ1 (LC.2.1 v0 1) 6)).bind fun σ2 =>
  (f_X6_isNumberFrom (LC.2.1 v0 1) 1 6 σ2).bind fun u3 =>
  (ckZ u3.1).bind fun z => some (z, u3.2)
set_option maxRecDepth 20000 in
set_option maxHeartbeats 1000000 in
theorem w_X8_takesCopies_0 {p : Program} {l : Launch} {e : Env} {s : State} {m : MethodId} {args : Array Value} {below : List Frame} {meth : Method} {c : Code} {D : va_G} {cy : Nat → ClassId} {b : Nat} (E : CX p m c cX8_takesCopies 1 s args RX8 D cy LC) (hr : meth.sig.returnType = some .boolean) (hlk : meth.locks = false) {r : Int32 × ST} {v0 : Nat} {σ : ST} {H : Heap} {locs : List Loc} {ls : Array Slot} (hm : f_X8_takesCopies v0 σ = some r) (hv0 : LC.1 v0 = 8) (hw : PH D cy LC b σ s H locs) (hl : lv_has ls 1 [(0, .ref (b + v0))]) : W p l e (rmD 2) s m args below meth c H locs 0 0 (MQ below (QcP D cy LC b (some (.int r.1)) r.2) args s 0 0 (inP LC b)) (F0 m 0 ls []) := by
  have hx := E.1.1
  have hb := E.1.2.1
  unfold f_X8_takesCopies at hm
  refine lv_aload_n hx hb dX8_takesCopies_0 rfl (lv_at hl 0 rfl) ?_
  refine lv_iconst (v := 1) hx hb dX8_takesCopies_1 (by decide) ?_
  refine q_pz E hw hm fw_X8_18 rfl rfl hv0 dX8_takesCopies_2 (fun σ1 H locs hm hw => ?_)
  refine lv_aload_n hx hb dX8_takesCopies_5 rfl (lv_at hl 0 rfl) ?_
  refine q_geta E hw fw_X8_12 rfl hv0 dX8_takesCopies_6 ?_
  refine lv_aload_n hx hb dX8_takesCopies_9 rfl (lv_at hl 0 rfl) ?_
  refine q_geta E hw fw_X8_22 rfl hv0 dX8_takesCopies_10 ?_
  refine q_geti E hw fw_X8_94 rfl (tC_8_1 hv0) dX8_takesCopies_13 ?_
  refine q_pi E hw hm fw_X8_100 rfl rfl (tC_8_0 hv0) dX8_takesCopies_16 (fun σ2 H locs hm hw => ?_)
  refine lv_aload_n hx hb dX8_takesCopies_19 rfl (lv_at hl 0 rfl) ?_
  refine q_geta E hw fw_X8_22 rfl hv0 dX8_takesCopies_20 ?_
  refine lv_iconst (v := 1) hx hb dX8_takesCopies_23 (by decide) ?_
  refine lv_bipush (v := 6) hx hb dX8_takesCopies_24 (by decide) ?_
  refine q_cVi (κ := 6) (C := RX6) (T := TX6) (N := 12) [] E hw hm mw_X8_103 (fun u hu => c_X6_isNumberFrom hu (tC_8_1 hv0)) rfl (by decide) (tC_8_1 hv0) rfl rfl hl.1 (Nat.le_of_ble_eq_true rfl) ⟨Nat.le_of_ble_eq_true rfl, Nat.le_of_ble_eq_true rfl⟩ dX8_takesCopies_26 (fun u3 H locs hm hw => ?_)
  exact q_zret E hr hlk hw hm dX8_takesCopies_29
theorem c_X8_takesCopies {l : Launch} {D : va_G} {cy : Nat → ClassId} {b : Nat} {v0 : Nat} {σ : ST} {r : Int32 × ST} (hm : f_X8_takesCopies v0 σ = some r) (hv0 : LC.1 v0 = 8) : Met l yX8_takesCopies (wU yX8_takesCopies cX8_takesCopies 1 (some .boolean)) (rmD 2) (PcP D cy LC b [.ref (b + v0)] σ) (QcP D cy LC b (some (.int r.1)) r.2) 0 0 (inP LC b) :=
  q_met (lv := [(0, .ref (b + v0))]) LC_ok (by decide) (Nat.le_of_ble_eq_true rfl) rfl (fun _ _ _ _ _ _ _ _ _ E hr hlk hw hl => w_X8_takesCopies_0 E hr hlk hm hv0 hw hl)

def f_X8_takesKeeperAt (v0 : Nat) (σ : ST) : Option (Int32 × ST) :=
  (f_X6_isNumberFrom (LC.2.1 v0 1) 0 999 σ).bind fun u1 =>
  if u1.1 = 0 then ((ckZ 0).bind fun z => some (z, u1.2)) else ((f_X7_isTakenAt (LC.2.1 v0 0) (gI u1.2 (LC.2.1 v0 1) 6) u1.2).bind fun u3 =>
  if u3.1 = 0 then ((stA LC u3.2 (LC.2.1 (LC.2.1 v0 0) 0) (gI u3.2 (LC.2.1 v0 0) 6) (gI u3.2 (LC.2.1 v0 1) 6)).bind fun σ5 =>
  (stI σ5 (LC.2.1 v0 0) 6 ((gI σ5 (LC.2.1 v0 0) 6) + 1)).bind fun σ6 =>
  (ckZ 1).bind fun z => some (z, σ6)) else ((f_X6_blame (LC.2.1 v0 1) 5 u3.2).bind fun u7 =>
  (ckZ u7.1).bind fun z => some (z, u7.2)))
set_option maxRecDepth 20000 in
set_option maxHeartbeats 1000000 in
theorem w_X8_takesKeeperAt_0 {p : Program} {l : Launch} {e : Env} {s : State} {m : MethodId} {args : Array Value} {below : List Frame} {meth : Method} {c : Code} {D : va_G} {cy : Nat → ClassId} {b : Nat} (E : CX p m c cX8_takesKeeperAt 1 s args RX8 D cy LC) (hr : meth.sig.returnType = some .boolean) (hlk : meth.locks = false) {r : Int32 × ST} {v0 : Nat} {σ : ST} {H : Heap} {locs : List Loc} {ls : Array Slot} (hm : f_X8_takesKeeperAt v0 σ = some r) (hv0 : LC.1 v0 = 8) (hw : PH D cy LC b σ s H locs) (hl : lv_has ls 1 [(0, .ref (b + v0))]) : W p l e (rmD 2) s m args below meth c H locs 0 0 (MQ below (QcP D cy LC b (some (.int r.1)) r.2) args s 0 0 (inP LC b)) (F0 m 0 ls []) := by
  have hx := E.1.1
  have hb := E.1.2.1
  unfold f_X8_takesKeeperAt at hm
  refine lv_aload_n hx hb dX8_takesKeeperAt_0 rfl (lv_at hl 0 rfl) ?_
  refine q_geta E hw fw_X8_22 rfl hv0 dX8_takesKeeperAt_1 ?_
  refine lv_iconst (v := 0) hx hb dX8_takesKeeperAt_4 (by decide) ?_
  refine lv_sipush (v := 999) hx hb dX8_takesKeeperAt_5 (by decide) ?_
  refine q_cVi (κ := 6) (C := RX6) (T := TX6) (N := 12) [] E hw hm mw_X8_103 (fun u hu => c_X6_isNumberFrom hu (tC_8_1 hv0)) rfl (by decide) (tC_8_1 hv0) rfl rfl hl.1 (Nat.le_of_ble_eq_true rfl) ⟨Nat.le_of_ble_eq_true rfl, Nat.le_of_ble_eq_true rfl⟩ dX8_takesKeeperAt_8 (fun u1 H locs hm hw => ?_)
  refine lv_if_ne (tgt := 16) hx hb dX8_takesKeeperAt_11 (by decide) (fun c2 => ?_) (fun c2 => ?_)
  · have hm := o_f c2 hm
    refine lv_aload_n hx hb dX8_takesKeeperAt_16 rfl (lv_at hl 0 rfl) ?_
    refine q_geta E hw fw_X8_12 rfl hv0 dX8_takesKeeperAt_17 ?_
    refine lv_aload_n hx hb dX8_takesKeeperAt_20 rfl (lv_at hl 0 rfl) ?_
    refine q_geta E hw fw_X8_22 rfl hv0 dX8_takesKeeperAt_21 ?_
    refine q_geti E hw fw_X8_94 rfl (tC_8_1 hv0) dX8_takesKeeperAt_24 ?_
    refine q_cVi (κ := 7) (C := RX7) (T := TX7) (N := 12) [] E hw hm mw_X8_143 (fun u hu => c_X7_isTakenAt hu (tC_8_0 hv0)) rfl (by decide) (tC_8_0 hv0) rfl rfl hl.1 (Nat.le_of_ble_eq_true rfl) ⟨Nat.le_of_ble_eq_true rfl, Nat.le_of_ble_eq_true rfl⟩ dX8_takesKeeperAt_27 (fun u3 H locs hm hw => ?_)
    refine lv_if_eq (tgt := 42) hx hb dX8_takesKeeperAt_30 (by decide) (fun c4 => ?_) (fun c4 => ?_)
    · have hm := o_t c4 hm
      refine lv_aload_n hx hb dX8_takesKeeperAt_42 rfl (lv_at hl 0 rfl) ?_
      refine q_geta E hw fw_X8_12 rfl hv0 dX8_takesKeeperAt_43 ?_
      refine q_geta E hw fw_X8_146 rfl (tC_8_0 hv0) dX8_takesKeeperAt_46 ?_
      refine lv_aload_n hx hb dX8_takesKeeperAt_49 rfl (lv_at hl 0 rfl) ?_
      refine q_geta E hw fw_X8_12 rfl hv0 dX8_takesKeeperAt_50 ?_
      refine q_geti E hw fw_X8_59 rfl (tC_8_0 hv0) dX8_takesKeeperAt_53 ?_
      refine lv_aload_n hx hb dX8_takesKeeperAt_56 rfl (lv_at hl 0 rfl) ?_
      refine q_geta E hw fw_X8_22 rfl hv0 dX8_takesKeeperAt_57 ?_
      refine q_geti E hw fw_X8_94 rfl (tC_8_1 hv0) dX8_takesKeeperAt_60 ?_
      refine q_iast E hw (tC_7_0 (tC_8_0 hv0)) hm dX8_takesKeeperAt_63 (fun σ5 H locs hm hw => ?_)
      refine lv_aload_n hx hb dX8_takesKeeperAt_64 rfl (lv_at hl 0 rfl) ?_
      refine q_geta E hw fw_X8_12 rfl hv0 dX8_takesKeeperAt_65 ?_
      refine lv_dup hx hb dX8_takesKeeperAt_68 rfl ?_
      refine q_geti E hw fw_X8_59 rfl (tC_8_0 hv0) dX8_takesKeeperAt_69 ?_
      refine lv_iconst (v := 1) hx hb dX8_takesKeeperAt_72 (by decide) ?_
      refine lv_iadd hx hb dX8_takesKeeperAt_73 ?_
      refine q_pi E hw hm fw_X8_59 rfl rfl (tC_8_0 hv0) dX8_takesKeeperAt_74 (fun σ6 H locs hm hw => ?_)
      refine lv_iconst (v := 1) hx hb dX8_takesKeeperAt_77 (by decide) ?_
      exact q_zret E hr hlk hw hm dX8_takesKeeperAt_78
    · have hm := o_f c4 hm
      refine lv_aload_n hx hb dX8_takesKeeperAt_33 rfl (lv_at hl 0 rfl) ?_
      refine q_geta E hw fw_X8_22 rfl hv0 dX8_takesKeeperAt_34 ?_
      refine lv_iconst (v := 5) hx hb dX8_takesKeeperAt_37 (by decide) ?_
      refine q_cVi (κ := 6) (C := RX6) (T := TX6) (N := 12) [] E hw hm mw_X8_56 (fun u hu => c_X6_blame hu (tC_8_1 hv0)) rfl (by decide) (tC_8_1 hv0) rfl rfl hl.1 (Nat.le_of_ble_eq_true rfl) ⟨Nat.le_of_ble_eq_true rfl, Nat.le_of_ble_eq_true rfl⟩ dX8_takesKeeperAt_38 (fun u7 H locs hm hw => ?_)
      exact q_zret E hr hlk hw hm dX8_takesKeeperAt_41
  · have hm := o_t c2 hm
    refine lv_iconst (v := 0) hx hb dX8_takesKeeperAt_14 (by decide) ?_
    exact q_zret E hr hlk hw hm dX8_takesKeeperAt_15
theorem c_X8_takesKeeperAt {l : Launch} {D : va_G} {cy : Nat → ClassId} {b : Nat} {v0 : Nat} {σ : ST} {r : Int32 × ST} (hm : f_X8_takesKeeperAt v0 σ = some r) (hv0 : LC.1 v0 = 8) : Met l yX8_takesKeeperAt (wU yX8_takesKeeperAt cX8_takesKeeperAt 1 (some .boolean)) (rmD 2) (PcP D cy LC b [.ref (b + v0)] σ) (QcP D cy LC b (some (.int r.1)) r.2) 0 0 (inP LC b) :=
  q_met (lv := [(0, .ref (b + v0))]) LC_ok (by decide) (Nat.le_of_ble_eq_true rfl) rfl (fun _ _ _ _ _ _ _ _ _ E hr hlk hw hl => w_X8_takesKeeperAt_0 E hr hlk hm hv0 hw hl)

def f_X8_takesKeyAt (v0 : Nat) (σ : ST) : Option (Int32 × ST) :=
  (stA LC σ (LC.2.1 (LC.2.1 v0 0) 2) (gI σ (LC.2.1 v0 0) 7) (gI σ (LC.2.1 v0 1) 6)).bind fun σ1 =>
  (stI σ1 (LC.2.1 v0 0) 7 ((gI σ1 (LC.2.1 v0 0) 7) + 1)).bind fun σ2 =>
  (f_X6_isNumberFrom (LC.2.1 v0 1) 0 999 σ2).bind fun u3 =>
  (ckZ u3.1).bind fun z => some (z, u3.2)
set_option maxRecDepth 20000 in
set_option maxHeartbeats 1000000 in
theorem w_X8_takesKeyAt_0 {p : Program} {l : Launch} {e : Env} {s : State} {m : MethodId} {args : Array Value} {below : List Frame} {meth : Method} {c : Code} {D : va_G} {cy : Nat → ClassId} {b : Nat} (E : CX p m c cX8_takesKeyAt 1 s args RX8 D cy LC) (hr : meth.sig.returnType = some .boolean) (hlk : meth.locks = false) {r : Int32 × ST} {v0 : Nat} {σ : ST} {H : Heap} {locs : List Loc} {ls : Array Slot} (hm : f_X8_takesKeyAt v0 σ = some r) (hv0 : LC.1 v0 = 8) (hw : PH D cy LC b σ s H locs) (hl : lv_has ls 1 [(0, .ref (b + v0))]) : W p l e (rmD 2) s m args below meth c H locs 0 0 (MQ below (QcP D cy LC b (some (.int r.1)) r.2) args s 0 0 (inP LC b)) (F0 m 0 ls []) := by
  have hx := E.1.1
  have hb := E.1.2.1
  unfold f_X8_takesKeyAt at hm
  refine lv_aload_n hx hb dX8_takesKeyAt_0 rfl (lv_at hl 0 rfl) ?_
  refine q_geta E hw fw_X8_12 rfl hv0 dX8_takesKeyAt_1 ?_
  refine q_geta E hw fw_X8_150 rfl (tC_8_0 hv0) dX8_takesKeyAt_4 ?_
  refine lv_aload_n hx hb dX8_takesKeyAt_7 rfl (lv_at hl 0 rfl) ?_
  refine q_geta E hw fw_X8_12 rfl hv0 dX8_takesKeyAt_8 ?_
  refine q_geti E hw fw_X8_62 rfl (tC_8_0 hv0) dX8_takesKeyAt_11 ?_
  refine lv_aload_n hx hb dX8_takesKeyAt_14 rfl (lv_at hl 0 rfl) ?_
  refine q_geta E hw fw_X8_22 rfl hv0 dX8_takesKeyAt_15 ?_
  refine q_geti E hw fw_X8_94 rfl (tC_8_1 hv0) dX8_takesKeyAt_18 ?_
  refine q_iast E hw (tC_7_2 (tC_8_0 hv0)) hm dX8_takesKeyAt_21 (fun σ1 H locs hm hw => ?_)
  refine lv_aload_n hx hb dX8_takesKeyAt_22 rfl (lv_at hl 0 rfl) ?_
  refine q_geta E hw fw_X8_12 rfl hv0 dX8_takesKeyAt_23 ?_
  refine lv_dup hx hb dX8_takesKeyAt_26 rfl ?_
  refine q_geti E hw fw_X8_62 rfl (tC_8_0 hv0) dX8_takesKeyAt_27 ?_
  refine lv_iconst (v := 1) hx hb dX8_takesKeyAt_30 (by decide) ?_
  refine lv_iadd hx hb dX8_takesKeyAt_31 ?_
  refine q_pi E hw hm fw_X8_62 rfl rfl (tC_8_0 hv0) dX8_takesKeyAt_32 (fun σ2 H locs hm hw => ?_)
  refine lv_aload_n hx hb dX8_takesKeyAt_35 rfl (lv_at hl 0 rfl) ?_
  refine q_geta E hw fw_X8_22 rfl hv0 dX8_takesKeyAt_36 ?_
  refine lv_iconst (v := 0) hx hb dX8_takesKeyAt_39 (by decide) ?_
  refine lv_sipush (v := 999) hx hb dX8_takesKeyAt_40 (by decide) ?_
  refine q_cVi (κ := 6) (C := RX6) (T := TX6) (N := 12) [] E hw hm mw_X8_103 (fun u hu => c_X6_isNumberFrom hu (tC_8_1 hv0)) rfl (by decide) (tC_8_1 hv0) rfl rfl hl.1 (Nat.le_of_ble_eq_true rfl) ⟨Nat.le_of_ble_eq_true rfl, Nat.le_of_ble_eq_true rfl⟩ dX8_takesKeyAt_43 (fun u3 H locs hm hw => ?_)
  exact q_zret E hr hlk hw hm dX8_takesKeyAt_46
theorem c_X8_takesKeyAt {l : Launch} {D : va_G} {cy : Nat → ClassId} {b : Nat} {v0 : Nat} {σ : ST} {r : Int32 × ST} (hm : f_X8_takesKeyAt v0 σ = some r) (hv0 : LC.1 v0 = 8) : Met l yX8_takesKeyAt (wU yX8_takesKeyAt cX8_takesKeyAt 1 (some .boolean)) (rmD 2) (PcP D cy LC b [.ref (b + v0)] σ) (QcP D cy LC b (some (.int r.1)) r.2) 0 0 (inP LC b) :=
  q_met (lv := [(0, .ref (b + v0))]) LC_ok (by decide) (Nat.le_of_ble_eq_true rfl) rfl (fun _ _ _ _ _ _ _ _ _ E hr hlk hw hl => w_X8_takesKeyAt_0 E hr hlk hm hv0 hw hl)

def f_X8_takesItem (v0 : Nat) (v1 : Int32) (σ : ST) : Option (Int32 × ST) :=
  if v1 = 64 then ((f_X6_isOwnWord (LC.2.1 v0 1) 4 σ).bind fun u2 =>
  (ckZ u2.1).bind fun z => some (z, u2.2)) else if v1 = 75 then ((f_X8_takesKeeperAt v0 σ).bind fun u4 =>
  (ckZ u4.1).bind fun z => some (z, u4.2)) else if v1 = 82 then ((stI σ (LC.2.1 v0 0) 10 (gI σ (LC.2.1 v0 1) 6)).bind fun σ6 =>
  (f_X6_isNumberFrom (LC.2.1 v0 1) 1 (gI σ6 (LC.2.1 v0 0) 9) σ6).bind fun u7 =>
  (ckZ u7.1).bind fun z => some (z, u7.2)) else if v1 = 87 then ((stI σ (LC.2.1 v0 0) 11 (gI σ (LC.2.1 v0 1) 6)).bind fun σ9 =>
  (f_X6_isNumberFrom (LC.2.1 v0 1) 1 (gI σ9 (LC.2.1 v0 0) 9) σ9).bind fun u10 =>
  (ckZ u10.1).bind fun z => some (z, u10.2)) else if v1 = 89 then ((f_X8_takesKeyAt v0 σ).bind fun u12 =>
  (ckZ u12.1).bind fun z => some (z, u12.2)) else if v1 = 107 then ((stB LC σ (LC.2.1 (LC.2.1 v0 0) 1) (gI σ (LC.2.1 v0 0) 6) (gJ σ (LC.2.1 v0 1) 9)).bind fun σ14 =>
  (f_X8_isNewName v0 σ14).bind fun u15 =>
  (ckZ u15.1).bind fun z => some (z, u15.2)) else if v1 = 110 then ((f_X8_takesCopies v0 σ).bind fun u17 =>
  (ckZ u17.1).bind fun z => some (z, u17.2)) else if v1 = 114 then ((f_X6_isOwnWord (LC.2.1 v0 1) 1 σ).bind fun u19 =>
  (ckZ u19.1).bind fun z => some (z, u19.2)) else if v1 = 119 then ((f_X6_isOwnWord (LC.2.1 v0 1) 2 σ).bind fun u21 =>
  (ckZ u21.1).bind fun z => some (z, u21.2)) else if v1 = 121 then ((stB LC σ (LC.2.1 (LC.2.1 v0 0) 3) (gI σ (LC.2.1 v0 0) 7) (gJ σ (LC.2.1 v0 1) 9)).bind fun σ23 =>
  (f_X8_isNewName v0 σ23).bind fun u24 =>
  (ckZ u24.1).bind fun z => some (z, u24.2)) else ((f_X6_isSign (LC.2.1 v0 1) 59 σ).bind fun u25 =>
  (ckZ u25.1).bind fun z => some (z, u25.2))
set_option maxRecDepth 20000 in
set_option maxHeartbeats 1000000 in
theorem w_X8_takesItem_0 {p : Program} {l : Launch} {e : Env} {s : State} {m : MethodId} {args : Array Value} {below : List Frame} {meth : Method} {c : Code} {D : va_G} {cy : Nat → ClassId} {b : Nat} (E : CX p m c cX8_takesItem 2 s args RX8 D cy LC) (hr : meth.sig.returnType = some .boolean) (hlk : meth.locks = false) {r : Int32 × ST} {v0 : Nat} {v1 : Int32} {σ : ST} {H : Heap} {locs : List Loc} {ls : Array Slot} (hm : f_X8_takesItem v0 v1 σ = some r) (hv0 : LC.1 v0 = 8) (hw : PH D cy LC b σ s H locs) (hl : lv_has ls 2 [(0, .ref (b + v0)), (1, .int v1)]) : W p l e (rmD 3) s m args below meth c H locs 0 0 (MQ below (QcP D cy LC b (some (.int r.1)) r.2) args s 0 0 (inP LC b)) (F0 m 0 ls []) := by
  have hx := E.1.1
  have hb := E.1.2.1
  unfold f_X8_takesItem at hm
  refine lv_iload_n hx hb dX8_takesItem_0 rfl (lv_at hl 1 rfl) ?_
  by_cases c1 : v1 = 64
  · refine q_lsw (off := 174) E 64 175 c1 dX8_takesItem_1 (by decide) (by decide) (by decide) ?_
    have hm := o_t c1 hm
    refine lv_aload_n hx hb dX8_takesItem_175 rfl (lv_at hl 0 rfl) ?_
    refine q_geta E hw fw_X8_22 rfl hv0 dX8_takesItem_176 ?_
    refine lv_iconst (v := 4) hx hb dX8_takesItem_179 (by decide) ?_
    refine q_cVi (κ := 6) (C := RX6) (T := TX6) (N := 12) [] E hw hm mw_X8_91 (fun u hu => c_X6_isOwnWord hu (tC_8_1 hv0)) rfl (by decide) (tC_8_1 hv0) rfl rfl hl.1 (Nat.le_of_ble_eq_true rfl) ⟨Nat.le_of_ble_eq_true rfl, Nat.le_of_ble_eq_true rfl⟩ dX8_takesItem_180 (fun u2 H locs hm hw => ?_)
    exact q_zret E hr hlk hw hm dX8_takesItem_183
  have hm := o_f c1 hm
  by_cases c3 : v1 = 75
  · refine q_lsw (off := 210) E 75 211 c3 dX8_takesItem_1 (by decide) (by decide) (by decide) ?_
    have hm := o_t c3 hm
    refine lv_aload_n hx hb dX8_takesItem_211 rfl (lv_at hl 0 rfl) ?_
    refine q_cVi (κ := 8) (C := RX8) (T := TX8) (N := 3) [] E hw hm mw_X8_121 (fun u hu => c_X8_takesKeeperAt hu hv0) rfl (by decide) hv0 rfl rfl hl.1 (Nat.le_of_ble_eq_true rfl) ⟨Nat.le_of_ble_eq_true rfl, Nat.le_of_ble_eq_true rfl⟩ dX8_takesItem_212 (fun u4 H locs hm hw => ?_)
    exact q_zret E hr hlk hw hm dX8_takesItem_215
  have hm := o_f c3 hm
  by_cases c5 : v1 = 82
  · refine q_lsw (off := 105) E 82 106 c5 dX8_takesItem_1 (by decide) (by decide) (by decide) ?_
    have hm := o_t c5 hm
    refine lv_aload_n hx hb dX8_takesItem_106 rfl (lv_at hl 0 rfl) ?_
    refine q_geta E hw fw_X8_12 rfl hv0 dX8_takesItem_107 ?_
    refine lv_aload_n hx hb dX8_takesItem_110 rfl (lv_at hl 0 rfl) ?_
    refine q_geta E hw fw_X8_22 rfl hv0 dX8_takesItem_111 ?_
    refine q_geti E hw fw_X8_94 rfl (tC_8_1 hv0) dX8_takesItem_114 ?_
    refine q_pi E hw hm fw_X8_97 rfl rfl (tC_8_0 hv0) dX8_takesItem_117 (fun σ6 H locs hm hw => ?_)
    refine lv_aload_n hx hb dX8_takesItem_120 rfl (lv_at hl 0 rfl) ?_
    refine q_geta E hw fw_X8_22 rfl hv0 dX8_takesItem_121 ?_
    refine lv_iconst (v := 1) hx hb dX8_takesItem_124 (by decide) ?_
    refine lv_aload_n hx hb dX8_takesItem_125 rfl (lv_at hl 0 rfl) ?_
    refine q_geta E hw fw_X8_12 rfl hv0 dX8_takesItem_126 ?_
    refine q_geti E hw fw_X8_100 rfl (tC_8_0 hv0) dX8_takesItem_129 ?_
    refine q_cVi (κ := 6) (C := RX6) (T := TX6) (N := 12) [] E hw hm mw_X8_103 (fun u hu => c_X6_isNumberFrom hu (tC_8_1 hv0)) rfl (by decide) (tC_8_1 hv0) rfl rfl hl.1 (Nat.le_of_ble_eq_true rfl) ⟨Nat.le_of_ble_eq_true rfl, Nat.le_of_ble_eq_true rfl⟩ dX8_takesItem_132 (fun u7 H locs hm hw => ?_)
    exact q_zret E hr hlk hw hm dX8_takesItem_135
  have hm := o_f c5 hm
  by_cases c8 : v1 = 87
  · refine q_lsw (off := 144) E 87 145 c8 dX8_takesItem_1 (by decide) (by decide) (by decide) ?_
    have hm := o_t c8 hm
    refine lv_aload_n hx hb dX8_takesItem_145 rfl (lv_at hl 0 rfl) ?_
    refine q_geta E hw fw_X8_12 rfl hv0 dX8_takesItem_146 ?_
    refine lv_aload_n hx hb dX8_takesItem_149 rfl (lv_at hl 0 rfl) ?_
    refine q_geta E hw fw_X8_22 rfl hv0 dX8_takesItem_150 ?_
    refine q_geti E hw fw_X8_94 rfl (tC_8_1 hv0) dX8_takesItem_153 ?_
    refine q_pi E hw hm fw_X8_107 rfl rfl (tC_8_0 hv0) dX8_takesItem_156 (fun σ9 H locs hm hw => ?_)
    refine lv_aload_n hx hb dX8_takesItem_159 rfl (lv_at hl 0 rfl) ?_
    refine q_geta E hw fw_X8_22 rfl hv0 dX8_takesItem_160 ?_
    refine lv_iconst (v := 1) hx hb dX8_takesItem_163 (by decide) ?_
    refine lv_aload_n hx hb dX8_takesItem_164 rfl (lv_at hl 0 rfl) ?_
    refine q_geta E hw fw_X8_12 rfl hv0 dX8_takesItem_165 ?_
    refine q_geti E hw fw_X8_100 rfl (tC_8_0 hv0) dX8_takesItem_168 ?_
    refine q_cVi (κ := 6) (C := RX6) (T := TX6) (N := 12) [] E hw hm mw_X8_103 (fun u hu => c_X6_isNumberFrom hu (tC_8_1 hv0)) rfl (by decide) (tC_8_1 hv0) rfl rfl hl.1 (Nat.le_of_ble_eq_true rfl) ⟨Nat.le_of_ble_eq_true rfl, Nat.le_of_ble_eq_true rfl⟩ dX8_takesItem_171 (fun u10 H locs hm hw => ?_)
    exact q_zret E hr hlk hw hm dX8_takesItem_174
  have hm := o_f c8 hm
  by_cases c11 : v1 = 89
  · refine q_lsw (off := 242) E 89 243 c11 dX8_takesItem_1 (by decide) (by decide) (by decide) ?_
    have hm := o_t c11 hm
    refine lv_aload_n hx hb dX8_takesItem_243 rfl (lv_at hl 0 rfl) ?_
    refine q_cVi (κ := 8) (C := RX8) (T := TX8) (N := 3) [] E hw hm mw_X8_127 (fun u hu => c_X8_takesKeyAt hu hv0) rfl (by decide) hv0 rfl rfl hl.1 (Nat.le_of_ble_eq_true rfl) ⟨Nat.le_of_ble_eq_true rfl, Nat.le_of_ble_eq_true rfl⟩ dX8_takesItem_244 (fun u12 H locs hm hw => ?_)
    exact q_zret E hr hlk hw hm dX8_takesItem_247
  have hm := o_f c11 hm
  by_cases c13 : v1 = 107
  · refine q_lsw (off := 183) E 107 184 c13 dX8_takesItem_1 (by decide) (by decide) (by decide) ?_
    have hm := o_t c13 hm
    refine lv_aload_n hx hb dX8_takesItem_184 rfl (lv_at hl 0 rfl) ?_
    refine q_geta E hw fw_X8_12 rfl hv0 dX8_takesItem_185 ?_
    refine q_geta E hw fw_X8_110 rfl (tC_8_0 hv0) dX8_takesItem_188 ?_
    refine lv_aload_n hx hb dX8_takesItem_191 rfl (lv_at hl 0 rfl) ?_
    refine q_geta E hw fw_X8_12 rfl hv0 dX8_takesItem_192 ?_
    refine q_geti E hw fw_X8_59 rfl (tC_8_0 hv0) dX8_takesItem_195 ?_
    refine lv_aload_n hx hb dX8_takesItem_198 rfl (lv_at hl 0 rfl) ?_
    refine q_geta E hw fw_X8_22 rfl hv0 dX8_takesItem_199 ?_
    refine q_getl E hw fw_X8_114 rfl (tC_8_1 hv0) dX8_takesItem_202 ?_
    refine q_last E hw (tC_7_1 (tC_8_0 hv0)) hm dX8_takesItem_205 (fun σ14 H locs hm hw => ?_)
    refine lv_aload_n hx hb dX8_takesItem_206 rfl (lv_at hl 0 rfl) ?_
    refine q_cVi (κ := 8) (C := RX8) (T := TX8) (N := 3) [] E hw hm mw_X8_118 (fun u hu => c_X8_isNewName hu hv0) rfl (by decide) hv0 rfl rfl hl.1 (Nat.le_of_ble_eq_true rfl) ⟨Nat.le_of_ble_eq_true rfl, Nat.le_of_ble_eq_true rfl⟩ dX8_takesItem_207 (fun u15 H locs hm hw => ?_)
    exact q_zret E hr hlk hw hm dX8_takesItem_210
  have hm := o_f c13 hm
  by_cases c16 : v1 = 110
  · refine q_lsw (off := 91) E 110 92 c16 dX8_takesItem_1 (by decide) (by decide) (by decide) ?_
    have hm := o_t c16 hm
    refine lv_aload_n hx hb dX8_takesItem_92 rfl (lv_at hl 0 rfl) ?_
    refine q_cVi (κ := 8) (C := RX8) (T := TX8) (N := 3) [] E hw hm mw_X8_87 (fun u hu => c_X8_takesCopies hu hv0) rfl (by decide) hv0 rfl rfl hl.1 (Nat.le_of_ble_eq_true rfl) ⟨Nat.le_of_ble_eq_true rfl, Nat.le_of_ble_eq_true rfl⟩ dX8_takesItem_93 (fun u17 H locs hm hw => ?_)
    exact q_zret E hr hlk hw hm dX8_takesItem_96
  have hm := o_f c16 hm
  by_cases c18 : v1 = 114
  · refine q_lsw (off := 96) E 114 97 c18 dX8_takesItem_1 (by decide) (by decide) (by decide) ?_
    have hm := o_t c18 hm
    refine lv_aload_n hx hb dX8_takesItem_97 rfl (lv_at hl 0 rfl) ?_
    refine q_geta E hw fw_X8_22 rfl hv0 dX8_takesItem_98 ?_
    refine lv_iconst (v := 1) hx hb dX8_takesItem_101 (by decide) ?_
    refine q_cVi (κ := 6) (C := RX6) (T := TX6) (N := 12) [] E hw hm mw_X8_91 (fun u hu => c_X6_isOwnWord hu (tC_8_1 hv0)) rfl (by decide) (tC_8_1 hv0) rfl rfl hl.1 (Nat.le_of_ble_eq_true rfl) ⟨Nat.le_of_ble_eq_true rfl, Nat.le_of_ble_eq_true rfl⟩ dX8_takesItem_102 (fun u19 H locs hm hw => ?_)
    exact q_zret E hr hlk hw hm dX8_takesItem_105
  have hm := o_f c18 hm
  by_cases c20 : v1 = 119
  · refine q_lsw (off := 135) E 119 136 c20 dX8_takesItem_1 (by decide) (by decide) (by decide) ?_
    have hm := o_t c20 hm
    refine lv_aload_n hx hb dX8_takesItem_136 rfl (lv_at hl 0 rfl) ?_
    refine q_geta E hw fw_X8_22 rfl hv0 dX8_takesItem_137 ?_
    refine lv_iconst (v := 2) hx hb dX8_takesItem_140 (by decide) ?_
    refine q_cVi (κ := 6) (C := RX6) (T := TX6) (N := 12) [] E hw hm mw_X8_91 (fun u hu => c_X6_isOwnWord hu (tC_8_1 hv0)) rfl (by decide) (tC_8_1 hv0) rfl rfl hl.1 (Nat.le_of_ble_eq_true rfl) ⟨Nat.le_of_ble_eq_true rfl, Nat.le_of_ble_eq_true rfl⟩ dX8_takesItem_141 (fun u21 H locs hm hw => ?_)
    exact q_zret E hr hlk hw hm dX8_takesItem_144
  have hm := o_f c20 hm
  by_cases c22 : v1 = 121
  · refine q_lsw (off := 215) E 121 216 c22 dX8_takesItem_1 (by decide) (by decide) (by decide) ?_
    have hm := o_t c22 hm
    refine lv_aload_n hx hb dX8_takesItem_216 rfl (lv_at hl 0 rfl) ?_
    refine q_geta E hw fw_X8_12 rfl hv0 dX8_takesItem_217 ?_
    refine q_geta E hw fw_X8_124 rfl (tC_8_0 hv0) dX8_takesItem_220 ?_
    refine lv_aload_n hx hb dX8_takesItem_223 rfl (lv_at hl 0 rfl) ?_
    refine q_geta E hw fw_X8_12 rfl hv0 dX8_takesItem_224 ?_
    refine q_geti E hw fw_X8_62 rfl (tC_8_0 hv0) dX8_takesItem_227 ?_
    refine lv_aload_n hx hb dX8_takesItem_230 rfl (lv_at hl 0 rfl) ?_
    refine q_geta E hw fw_X8_22 rfl hv0 dX8_takesItem_231 ?_
    refine q_getl E hw fw_X8_114 rfl (tC_8_1 hv0) dX8_takesItem_234 ?_
    refine q_last E hw (tC_7_3 (tC_8_0 hv0)) hm dX8_takesItem_237 (fun σ23 H locs hm hw => ?_)
    refine lv_aload_n hx hb dX8_takesItem_238 rfl (lv_at hl 0 rfl) ?_
    refine q_cVi (κ := 8) (C := RX8) (T := TX8) (N := 3) [] E hw hm mw_X8_118 (fun u hu => c_X8_isNewName hu hv0) rfl (by decide) hv0 rfl rfl hl.1 (Nat.le_of_ble_eq_true rfl) ⟨Nat.le_of_ble_eq_true rfl, Nat.le_of_ble_eq_true rfl⟩ dX8_takesItem_239 (fun u24 H locs hm hw => ?_)
    exact q_zret E hr hlk hw hm dX8_takesItem_242
  have hm := o_f c22 hm
  refine lv_lookup (off := 247) (tgt := 248) hx hb dX8_takesItem_1 (by decide) (by rw [lv_osw c1 (by decide), lv_osw c3 (by decide), lv_osw c5 (by decide), lv_osw c8 (by decide), lv_osw c11 (by decide), lv_osw c13 (by decide), lv_osw c16 (by decide), lv_osw c18 (by decide), lv_osw c20 (by decide), lv_osw c22 (by decide)]; rfl) (by decide) ?_
  refine lv_aload_n hx hb dX8_takesItem_248 rfl (lv_at hl 0 rfl) ?_
  refine q_geta E hw fw_X8_22 rfl hv0 dX8_takesItem_249 ?_
  refine lv_bipush (v := 59) hx hb dX8_takesItem_252 (by decide) ?_
  refine q_cVi (κ := 6) (C := RX6) (T := TX6) (N := 12) [] E hw hm mw_X8_130 (fun u hu => c_X6_isSign hu (tC_8_1 hv0)) rfl (by decide) (tC_8_1 hv0) rfl rfl hl.1 (Nat.le_of_ble_eq_true rfl) ⟨Nat.le_of_ble_eq_true rfl, Nat.le_of_ble_eq_true rfl⟩ dX8_takesItem_254 (fun u25 H locs hm hw => ?_)
  exact q_zret E hr hlk hw hm dX8_takesItem_257
theorem c_X8_takesItem {l : Launch} {D : va_G} {cy : Nat → ClassId} {b : Nat} {v0 : Nat} {v1 : Int32} {σ : ST} {r : Int32 × ST} (hm : f_X8_takesItem v0 v1 σ = some r) (hv0 : LC.1 v0 = 8) : Met l yX8_takesItem (wU yX8_takesItem cX8_takesItem 2 (some .boolean)) (rmD 3) (PcP D cy LC b [.ref (b + v0), .int v1] σ) (QcP D cy LC b (some (.int r.1)) r.2) 0 0 (inP LC b) :=
  q_met (lv := [(0, .ref (b + v0)), (1, .int v1)]) LC_ok (by decide) (Nat.le_of_ble_eq_true rfl) rfl (fun _ _ _ _ _ _ _ _ _ E hr hlk hw hl => w_X8_takesItem_0 E hr hlk hm hv0 hw hl)

def k_X8_takesItems_69 (rec2 : Nat → Nat → Int32 → ST → Option (Int32 × ST)) (v0 : Nat) (v1 : Nat) (v2 : Int32) (σ : ST) : Option (Int32 × ST) :=
  (f_J0_charAt_5068e v1 v2 σ).bind fun u1 =>
  (f_X8_takesItem v0 u1.1 u1.2).bind fun u2 =>
  if u2.1 = 0 then ((ckZ 0).bind fun z => some (z, u2.2)) else (rec2 v0 v1 (v2 + 1) u2.2)
set_option maxRecDepth 20000 in
set_option maxHeartbeats 1000000 in
theorem w_X8_takesItems_69 {p : Program} {l : Launch} {e : Env} {s : State} {m : MethodId} {args : Array Value} {below : List Frame} {meth : Method} {c : Code} {D : va_G} {cy : Nat → ClassId} {b : Nat} (E : CX p m c cX8_takesItems 3 s args RX8 D cy LC) (hr : meth.sig.returnType = some .boolean) (hlk : meth.locks = false) {r : Int32 × ST} {rec2 : Nat → Nat → Int32 → ST → Option (Int32 × ST)} (hrec2 : ∀ (v0 : Nat) (v1 : Nat) (v2 : Int32) (σ : ST) (H : Heap) (locs : List Loc) (ls : Array Slot), rec2 v0 v1 v2 σ = some r → LC.1 v0 = 8 → v1 < 15 → PH D cy LC b σ s H locs → lv_has ls 3 [(0, .ref (b + v0)), (1, .ref (cy (100 + v1))), (2, .int v2)] → W p l e (rmD 7) s m args below meth c H locs 0 0 (MQ below (QcP D cy LC b (some (.int r.1)) r.2) args s 0 0 (inP LC b)) (F0 m 2 ls [])) {v0 : Nat} {v1 : Nat} {v2 : Int32} {σ : ST} {H : Heap} {locs : List Loc} {ls : Array Slot} (hm : k_X8_takesItems_69 rec2 v0 v1 v2 σ = some r) (hv0 : LC.1 v0 = 8) (hv1 : v1 < 15) (hw : PH D cy LC b σ s H locs) (hl : lv_has ls 3 [(0, .ref (b + v0)), (1, .ref (cy (100 + v1))), (2, .int v2)]) : W p l e (rmD 7) s m args below meth c H locs 0 0 (MQ below (QcP D cy LC b (some (.int r.1)) r.2) args s 0 0 (inP LC b)) (F0 m 69 ls []) := by
  have hx := E.1.1
  have hb := E.1.2.1
  unfold k_X8_takesItems_69 at hm
  refine lv_aload_n hx hb dX8_takesItems_69 rfl (lv_at hl 0 rfl) ?_
  refine lv_aload_n hx hb dX8_takesItems_70 rfl (lv_at hl 1 rfl) ?_
  refine lv_iload_n hx hb dX8_takesItems_71 rfl (lv_at hl 2 rfl) ?_
  refine q_cTi [.ref (b + v0)] E hw hm mw_X8_77 (fun u hu => c_J0_charAt_5068e hu hv1) hv1 rfl rfl hl.1 (Nat.le_of_ble_eq_true rfl) ⟨Nat.le_of_ble_eq_true rfl, Nat.le_of_ble_eq_true rfl⟩ dX8_takesItems_72 (fun u1 H locs hm hw => ?_)
  refine q_cVi (κ := 8) (C := RX8) (T := TX8) (N := 3) [] E hw hm mw_X8_84 (fun u hu => c_X8_takesItem hu hv0) rfl (by decide) hv0 rfl rfl hl.1 (Nat.le_of_ble_eq_true rfl) ⟨Nat.le_of_ble_eq_true rfl, Nat.le_of_ble_eq_true rfl⟩ dX8_takesItems_75 (fun u2 H locs hm hw => ?_)
  refine lv_if_ne (tgt := 83) hx hb dX8_takesItems_78 (by decide) (fun c3 => ?_) (fun c3 => ?_)
  · have hm := o_f c3 hm
    refine lv_iinc (v := v2 + 1) (lv' := [(2, .int (v2 + 1)), (0, .ref (b + v0)), (1, .ref (cy (100 + v1)))]) hx hb dX8_takesItems_83 hl (k := 2) rfl rfl (by decide) rfl (fun ls hl => ?_)
    refine lv_goto (tgt := 2) hx hb dX8_takesItems_86 (by decide) ?_
    exact hrec2 _ _ _ _ _ _ _ hm hv0 hv1 hw (lv_sub hl [1, 2, 0] rfl)
  · have hm := o_t c3 hm
    refine lv_iconst (v := 0) hx hb dX8_takesItems_81 (by decide) ?_
    exact q_zret E hr hlk hw hm dX8_takesItems_82
def k_X8_takesItems_2 : Nat → Nat → Nat → Int32 → ST → Option (Int32 × ST)
  | 0, _, _, _, _ => none
  | n + 1, v0, v1, v2, σ => (f_J0_length_8abf5 v1 σ).bind fun u4 =>
  if u4.1 ≤ v2 then ((ckZ 1).bind fun z => some (z, u4.2)) else ((f_X6_step (LC.2.1 v0 1) u4.2).bind fun u6 =>
  (f_J0_charAt_5068e v1 v2 u6).bind fun u7 =>
  if u7.1 = 46 then (if (gI u7.2 (LC.2.1 v0 1) 8) = 6 then ((stI u7.2 (LC.2.1 v0 0) 8 ((gI u7.2 (LC.2.1 v0 0) 8) ||| (1 <<< (((gI u7.2 (LC.2.1 v0 0) 7) - 1) &&& 31)))).bind fun σ10 =>
  (f_X6_step (LC.2.1 v0 1) σ10).bind fun u11 =>
  k_X8_takesItems_69 (k_X8_takesItems_2 n) v0 v1 v2 u11) else (k_X8_takesItems_69 (k_X8_takesItems_2 n) v0 v1 v2 u7.2)) else (k_X8_takesItems_69 (k_X8_takesItems_2 n) v0 v1 v2 u7.2))
set_option maxRecDepth 20000 in
set_option maxHeartbeats 1000000 in
theorem w_X8_takesItems_2 {p : Program} {l : Launch} {e : Env} {s : State} {m : MethodId} {args : Array Value} {below : List Frame} {meth : Method} {c : Code} {D : va_G} {cy : Nat → ClassId} {b : Nat} (E : CX p m c cX8_takesItems 3 s args RX8 D cy LC) (hr : meth.sig.returnType = some .boolean) (hlk : meth.locks = false) {r : Int32 × ST} : ∀ (n : Nat) (v0 : Nat) (v1 : Nat) (v2 : Int32) (σ : ST) (H : Heap) (locs : List Loc) (ls : Array Slot), k_X8_takesItems_2 n v0 v1 v2 σ = some r → LC.1 v0 = 8 → v1 < 15 → PH D cy LC b σ s H locs → lv_has ls 3 [(0, .ref (b + v0)), (1, .ref (cy (100 + v1))), (2, .int v2)] → W p l e (rmD 7) s m args below meth c H locs 0 0 (MQ below (QcP D cy LC b (some (.int r.1)) r.2) args s 0 0 (inP LC b)) (F0 m 2 ls []) := by
  have hx := E.1.1
  have hb := E.1.2.1
  intro n
  induction n with
  | zero =>
    intro v0 v1 v2 σ H locs ls hm
    cases hm
  | succ n ih =>
    intro v0 v1 v2 σ H locs ls hm hv0 hv1 hw hl
    rw [k_X8_takesItems_2] at hm
    refine lv_iload_n hx hb dX8_takesItems_2 rfl (lv_at hl 2 rfl) ?_
    refine lv_aload_n hx hb dX8_takesItems_3 rfl (lv_at hl 1 rfl) ?_
    refine q_cTi [.int v2] E hw hm mw_X8_71 (fun u hu => c_J0_length_8abf5 hu hv1) hv1 rfl rfl hl.1 (Nat.le_of_ble_eq_true rfl) ⟨Nat.le_of_ble_eq_true rfl, Nat.le_of_ble_eq_true rfl⟩ dX8_takesItems_4 (fun u4 H locs hm hw => ?_)
    refine lv_icmp_ge (tgt := 89) hx hb dX8_takesItems_7 (by decide) (fun c5 => ?_) (fun c5 => ?_)
    · have hm := o_t c5 hm
      refine lv_iconst (v := 1) hx hb dX8_takesItems_89 (by decide) ?_
      exact q_zret E hr hlk hw hm dX8_takesItems_90
    · have hm := o_f c5 hm
      refine lv_aload_n hx hb dX8_takesItems_10 rfl (lv_at hl 0 rfl) ?_
      refine q_geta E hw fw_X8_22 rfl hv0 dX8_takesItems_11 ?_
      refine q_cVv (κ := 6) (C := RX6) (T := TX6) (N := 12) [] E hw hm mw_X8_29 (fun u hu => c_X6_step hu (tC_8_1 hv0)) rfl (by decide) (tC_8_1 hv0) rfl rfl hl.1 (Nat.le_of_ble_eq_true rfl) ⟨Nat.le_of_ble_eq_true rfl, Nat.le_of_ble_eq_true rfl⟩ dX8_takesItems_14 (fun u6 H locs hm hw => ?_)
      refine lv_aload_n hx hb dX8_takesItems_17 rfl (lv_at hl 1 rfl) ?_
      refine lv_iload_n hx hb dX8_takesItems_18 rfl (lv_at hl 2 rfl) ?_
      refine q_cTi [] E hw hm mw_X8_77 (fun u hu => c_J0_charAt_5068e hu hv1) hv1 rfl rfl hl.1 (Nat.le_of_ble_eq_true rfl) ⟨Nat.le_of_ble_eq_true rfl, Nat.le_of_ble_eq_true rfl⟩ dX8_takesItems_19 (fun u7 H locs hm hw => ?_)
      refine lv_bipush (v := 46) hx hb dX8_takesItems_22 (by decide) ?_
      refine lv_icmp_ne (tgt := 69) hx hb dX8_takesItems_24 (by decide) (fun c8 => ?_) (fun c8 => ?_)
      · have hm := o_f c8 hm
        exact w_X8_takesItems_69 E hr hlk ih hm hv0 hv1 hw (lv_sub hl [0, 1, 2] rfl)
      · have hm := o_t c8 hm
        refine lv_aload_n hx hb dX8_takesItems_27 rfl (lv_at hl 0 rfl) ?_
        refine q_geta E hw fw_X8_22 rfl hv0 dX8_takesItems_28 ?_
        refine q_geti E hw fw_X8_41 rfl (tC_8_1 hv0) dX8_takesItems_31 ?_
        refine lv_bipush (v := 6) hx hb dX8_takesItems_34 (by decide) ?_
        refine lv_icmp_ne (tgt := 69) hx hb dX8_takesItems_36 (by decide) (fun c9 => ?_) (fun c9 => ?_)
        · have hm := o_f c9 hm
          exact w_X8_takesItems_69 E hr hlk ih hm hv0 hv1 hw (lv_sub hl [0, 1, 2] rfl)
        · have hm := o_t c9 hm
          refine lv_aload_n hx hb dX8_takesItems_39 rfl (lv_at hl 0 rfl) ?_
          refine q_geta E hw fw_X8_12 rfl hv0 dX8_takesItems_40 ?_
          refine lv_dup hx hb dX8_takesItems_43 rfl ?_
          refine q_geti E hw fw_X8_81 rfl (tC_8_0 hv0) dX8_takesItems_44 ?_
          refine lv_iconst (v := 1) hx hb dX8_takesItems_47 (by decide) ?_
          refine lv_aload_n hx hb dX8_takesItems_48 rfl (lv_at hl 0 rfl) ?_
          refine q_geta E hw fw_X8_12 rfl hv0 dX8_takesItems_49 ?_
          refine q_geti E hw fw_X8_62 rfl (tC_8_0 hv0) dX8_takesItems_52 ?_
          refine lv_iconst (v := 1) hx hb dX8_takesItems_55 (by decide) ?_
          refine lv_isub hx hb dX8_takesItems_56 ?_
          refine lv_ishl hx hb dX8_takesItems_57 ?_
          refine lv_ior hx hb dX8_takesItems_58 ?_
          refine q_pi E hw hm fw_X8_81 rfl rfl (tC_8_0 hv0) dX8_takesItems_59 (fun σ10 H locs hm hw => ?_)
          refine lv_aload_n hx hb dX8_takesItems_62 rfl (lv_at hl 0 rfl) ?_
          refine q_geta E hw fw_X8_22 rfl hv0 dX8_takesItems_63 ?_
          refine q_cVv (κ := 6) (C := RX6) (T := TX6) (N := 12) [] E hw hm mw_X8_29 (fun u hu => c_X6_step hu (tC_8_1 hv0)) rfl (by decide) (tC_8_1 hv0) rfl rfl hl.1 (Nat.le_of_ble_eq_true rfl) ⟨Nat.le_of_ble_eq_true rfl, Nat.le_of_ble_eq_true rfl⟩ dX8_takesItems_66 (fun u11 H locs hm hw => ?_)
          exact w_X8_takesItems_69 E hr hlk ih hm hv0 hv1 hw (lv_sub hl [0, 1, 2] rfl)
def f_X8_takesItems (v0 : Nat) (v1 : Nat) (σ : ST) : Option (Int32 × ST) :=
  k_X8_takesItems_2 FU v0 v1 0 σ
set_option maxRecDepth 20000 in
set_option maxHeartbeats 1000000 in
theorem w_X8_takesItems_0 {p : Program} {l : Launch} {e : Env} {s : State} {m : MethodId} {args : Array Value} {below : List Frame} {meth : Method} {c : Code} {D : va_G} {cy : Nat → ClassId} {b : Nat} (E : CX p m c cX8_takesItems 3 s args RX8 D cy LC) (hr : meth.sig.returnType = some .boolean) (hlk : meth.locks = false) {r : Int32 × ST} {v0 : Nat} {v1 : Nat} {σ : ST} {H : Heap} {locs : List Loc} {ls : Array Slot} (hm : f_X8_takesItems v0 v1 σ = some r) (hv0 : LC.1 v0 = 8) (hv1 : v1 < 15) (hw : PH D cy LC b σ s H locs) (hl : lv_has ls 3 [(0, .ref (b + v0)), (1, .ref (cy (100 + v1)))]) : W p l e (rmD 7) s m args below meth c H locs 0 0 (MQ below (QcP D cy LC b (some (.int r.1)) r.2) args s 0 0 (inP LC b)) (F0 m 0 ls []) := by
  have hx := E.1.1
  have hb := E.1.2.1
  unfold f_X8_takesItems at hm
  refine lv_iconst (v := 0) hx hb dX8_takesItems_0 (by decide) ?_
  refine lv_istore_n (lv' := [(2, .int 0), (0, .ref (b + v0)), (1, .ref (cy (100 + v1)))]) hx hb dX8_takesItems_1 rfl hl (by decide) rfl (fun ls hl => ?_)
  exact w_X8_takesItems_2 E hr hlk _ _ _ _ _ _ _ _ hm hv0 hv1 hw (lv_sub hl [1, 2, 0] rfl)
theorem c_X8_takesItems {l : Launch} {D : va_G} {cy : Nat → ClassId} {b : Nat} {v0 : Nat} {v1 : Nat} {σ : ST} {r : Int32 × ST} (hm : f_X8_takesItems v0 v1 σ = some r) (hv0 : LC.1 v0 = 8) (hv1 : v1 < 15) : Met l yX8_takesItems (wU yX8_takesItems cX8_takesItems 3 (some .boolean)) (rmD 7) (PcP D cy LC b [.ref (b + v0), .ref (cy (100 + v1))] σ) (QcP D cy LC b (some (.int r.1)) r.2) 0 0 (inP LC b) :=
  q_met (lv := [(0, .ref (b + v0)), (1, .ref (cy (100 + v1)))]) LC_ok (by decide) (Nat.le_of_ble_eq_true rfl) rfl (fun _ _ _ _ _ _ _ _ _ E hr hlk hw hl => w_X8_takesItems_0 E hr hlk hm hv0 hv1 hw hl)

def k_X8_isTaken_78 (σ : ST) : Option (Int32 × ST) :=
  (ckZ 0).bind fun z => some (z, σ)
set_option maxRecDepth 20000 in
set_option maxHeartbeats 1000000 in
theorem w_X8_isTaken_78 {p : Program} {l : Launch} {e : Env} {s : State} {m : MethodId} {args : Array Value} {below : List Frame} {meth : Method} {c : Code} {D : va_G} {cy : Nat → ClassId} {b : Nat} (E : CX p m c cX8_isTaken 2 s args RX8 D cy LC) (hr : meth.sig.returnType = some .boolean) (hlk : meth.locks = false) {r : Int32 × ST} {σ : ST} {H : Heap} {locs : List Loc} {ls : Array Slot} (hm : k_X8_isTaken_78  σ = some r) (hw : PH D cy LC b σ s H locs) (hl : lv_has ls 2 []) : W p l e (rmD 8) s m args below meth c H locs 0 0 (MQ below (QcP D cy LC b (some (.int r.1)) r.2) args s 0 0 (inP LC b)) (F0 m 78 ls []) := by
  have hx := E.1.1
  have hb := E.1.2.1
  unfold k_X8_isTaken_78 at hm
  refine lv_iconst (v := 0) hx hb dX8_isTaken_78 (by decide) ?_
  exact q_zret E hr hlk hw hm dX8_isTaken_79
def k_X8_isTaken_14 : Nat → Nat → Int32 → ST → Option (Int32 × ST)
  | 0, _, _, _ => none
  | n + 1, v0, v1, σ => if 900 < v1 then ((ckZ 0).bind fun z => some (z, σ)) else ((f_X6_step (LC.2.1 v0 1) σ).bind fun u2 =>
  if (gI u2 (LC.2.1 v0 1) 4) = 0 then ((f_X7_layRows (LC.2.1 v0 0) u2).bind fun u9 =>
  (ckZ 1).bind fun z => some (z, u9)) else ((f_X8_mayBegin v0 (gI u2 (LC.2.1 v0 1) 8) u2).bind fun u4 =>
  if u4.1 = 0 then (k_X8_isTaken_78 u4.2) else ((f_X8_itemsOf (gI u4.2 (LC.2.1 v0 1) 8) u4.2).bind fun u6 =>
  if u6.1 < 15 then ((f_X8_takesItems v0 u6.1 u6.2).bind fun u7 =>
  if u7.1 = 0 then (k_X8_isTaken_78 u7.2) else (k_X8_isTaken_14 n v0 (v1 + 1) u7.2)) else none)))
set_option maxRecDepth 20000 in
set_option maxHeartbeats 1000000 in
theorem w_X8_isTaken_14 {p : Program} {l : Launch} {e : Env} {s : State} {m : MethodId} {args : Array Value} {below : List Frame} {meth : Method} {c : Code} {D : va_G} {cy : Nat → ClassId} {b : Nat} (E : CX p m c cX8_isTaken 2 s args RX8 D cy LC) (hr : meth.sig.returnType = some .boolean) (hlk : meth.locks = false) {r : Int32 × ST} : ∀ (n : Nat) (v0 : Nat) (v1 : Int32) (σ : ST) (H : Heap) (locs : List Loc) (ls : Array Slot), k_X8_isTaken_14 n v0 v1 σ = some r → LC.1 v0 = 8 → PH D cy LC b σ s H locs → lv_has ls 2 [(0, .ref (b + v0)), (1, .int v1)] → W p l e (rmD 8) s m args below meth c H locs 0 0 (MQ below (QcP D cy LC b (some (.int r.1)) r.2) args s 0 0 (inP LC b)) (F0 m 14 ls []) := by
  have hx := E.1.1
  have hb := E.1.2.1
  intro n
  induction n with
  | zero =>
    intro v0 v1 σ H locs ls hm
    cases hm
  | succ n ih =>
    intro v0 v1 σ H locs ls hm hv0 hw hl
    rw [k_X8_isTaken_14] at hm
    refine lv_iload_n hx hb dX8_isTaken_14 rfl (lv_at hl 1 rfl) ?_
    refine lv_sipush (v := 900) hx hb dX8_isTaken_15 (by decide) ?_
    refine lv_icmp_gt (tgt := 86) hx hb dX8_isTaken_18 (by decide) (fun c1 => ?_) (fun c1 => ?_)
    · have hm := o_t c1 hm
      refine lv_iconst (v := 0) hx hb dX8_isTaken_86 (by decide) ?_
      exact q_zret E hr hlk hw hm dX8_isTaken_87
    · have hm := o_f c1 hm
      refine lv_aload_n hx hb dX8_isTaken_21 rfl (lv_at hl 0 rfl) ?_
      refine q_geta E hw fw_X8_22 rfl hv0 dX8_isTaken_22 ?_
      refine q_cVv (κ := 6) (C := RX6) (T := TX6) (N := 12) [] E hw hm mw_X8_29 (fun u hu => c_X6_step hu (tC_8_1 hv0)) rfl (by decide) (tC_8_1 hv0) rfl rfl hl.1 (Nat.le_of_ble_eq_true rfl) ⟨Nat.le_of_ble_eq_true rfl, Nat.le_of_ble_eq_true rfl⟩ dX8_isTaken_25 (fun u2 H locs hm hw => ?_)
      refine lv_aload_n hx hb dX8_isTaken_28 rfl (lv_at hl 0 rfl) ?_
      refine q_geta E hw fw_X8_22 rfl hv0 dX8_isTaken_29 ?_
      refine q_geti E hw fw_X8_34 rfl (tC_8_1 hv0) dX8_isTaken_32 ?_
      refine lv_if_ne (tgt := 47) hx hb dX8_isTaken_35 (by decide) (fun c3 => ?_) (fun c3 => ?_)
      · have hm := o_f c3 hm
        refine lv_aload_n hx hb dX8_isTaken_47 rfl (lv_at hl 0 rfl) ?_
        refine lv_aload_n hx hb dX8_isTaken_48 rfl (lv_at hl 0 rfl) ?_
        refine q_geta E hw fw_X8_22 rfl hv0 dX8_isTaken_49 ?_
        refine q_geti E hw fw_X8_41 rfl (tC_8_1 hv0) dX8_isTaken_52 ?_
        refine q_cVi (κ := 8) (C := RX8) (T := TX8) (N := 3) [] E hw hm mw_X8_44 (fun u hu => c_X8_mayBegin hu hv0) rfl (by decide) hv0 rfl rfl hl.1 (Nat.le_of_ble_eq_true rfl) ⟨Nat.le_of_ble_eq_true rfl, Nat.le_of_ble_eq_true rfl⟩ dX8_isTaken_55 (fun u4 H locs hm hw => ?_)
        refine lv_if_eq (tgt := 78) hx hb dX8_isTaken_58 (by decide) (fun c5 => ?_) (fun c5 => ?_)
        · have hm := o_t c5 hm
          exact w_X8_isTaken_78 E hr hlk hm  hw (lv_sub hl [] rfl)
        · have hm := o_f c5 hm
          refine lv_aload_n hx hb dX8_isTaken_61 rfl (lv_at hl 0 rfl) ?_
          refine lv_aload_n hx hb dX8_isTaken_62 rfl (lv_at hl 0 rfl) ?_
          refine q_geta E hw fw_X8_22 rfl hv0 dX8_isTaken_63 ?_
          refine q_geti E hw fw_X8_41 rfl (tC_8_1 hv0) dX8_isTaken_66 ?_
          refine q_cSs [.ref (b + v0)] E hw hm ms_X8_48 (fun u hu => c_X8_itemsOf hu ) rfl rfl hl.1 (Nat.le_of_ble_eq_true rfl) ⟨Nat.le_of_ble_eq_true rfl, Nat.le_of_ble_eq_true rfl⟩ dX8_isTaken_69 (fun u6 H locs hm hw => ?_)
          obtain ⟨hsu6, hm⟩ := o_ps hm
          refine q_cVi (κ := 8) (C := RX8) (T := TX8) (N := 3) [] E hw hm mw_X8_52 (fun u hu => c_X8_takesItems hu hv0 hsu6) rfl (by decide) hv0 rfl rfl hl.1 (Nat.le_of_ble_eq_true rfl) ⟨Nat.le_of_ble_eq_true rfl, Nat.le_of_ble_eq_true rfl⟩ dX8_isTaken_72 (fun u7 H locs hm hw => ?_)
          refine lv_if_ne (tgt := 80) hx hb dX8_isTaken_75 (by decide) (fun c8 => ?_) (fun c8 => ?_)
          · have hm := o_f c8 hm
            refine lv_iinc (v := v1 + 1) (lv' := [(1, .int (v1 + 1)), (0, .ref (b + v0))]) hx hb dX8_isTaken_80 hl (k := 1) rfl rfl (by decide) rfl (fun ls hl => ?_)
            refine lv_goto (tgt := 14) hx hb dX8_isTaken_83 (by decide) ?_
            exact ih _ _ _ _ _ _ hm hv0 hw (lv_sub hl [1, 0] rfl)
          · have hm := o_t c8 hm
            exact w_X8_isTaken_78 E hr hlk hm  hw (lv_sub hl [] rfl)
      · have hm := o_t c3 hm
        refine lv_aload_n hx hb dX8_isTaken_38 rfl (lv_at hl 0 rfl) ?_
        refine q_geta E hw fw_X8_12 rfl hv0 dX8_isTaken_39 ?_
        refine q_cVv (κ := 7) (C := RX7) (T := TX7) (N := 12) [] E hw hm mw_X8_38 (fun u hu => c_X7_layRows hu (tC_8_0 hv0)) rfl (by decide) (tC_8_0 hv0) rfl rfl hl.1 (Nat.le_of_ble_eq_true rfl) ⟨Nat.le_of_ble_eq_true rfl, Nat.le_of_ble_eq_true rfl⟩ dX8_isTaken_42 (fun u9 H locs hm hw => ?_)
        refine lv_iconst (v := 1) hx hb dX8_isTaken_45 (by decide) ?_
        exact q_zret E hr hlk hw hm dX8_isTaken_46
def f_X8_isTaken (v0 : Nat) (σ : ST) : Option (Int32 × ST) :=
  (f_X7_clear (LC.2.1 v0 0) σ).bind fun u10 =>
  (stZ u10 v0 2 0).bind fun σ11 =>
  k_X8_isTaken_14 FU v0 0 σ11
set_option maxRecDepth 20000 in
set_option maxHeartbeats 1000000 in
theorem w_X8_isTaken_0 {p : Program} {l : Launch} {e : Env} {s : State} {m : MethodId} {args : Array Value} {below : List Frame} {meth : Method} {c : Code} {D : va_G} {cy : Nat → ClassId} {b : Nat} (E : CX p m c cX8_isTaken 2 s args RX8 D cy LC) (hr : meth.sig.returnType = some .boolean) (hlk : meth.locks = false) {r : Int32 × ST} {v0 : Nat} {σ : ST} {H : Heap} {locs : List Loc} {ls : Array Slot} (hm : f_X8_isTaken v0 σ = some r) (hv0 : LC.1 v0 = 8) (hw : PH D cy LC b σ s H locs) (hl : lv_has ls 2 [(0, .ref (b + v0))]) : W p l e (rmD 8) s m args below meth c H locs 0 0 (MQ below (QcP D cy LC b (some (.int r.1)) r.2) args s 0 0 (inP LC b)) (F0 m 0 ls []) := by
  have hx := E.1.1
  have hb := E.1.2.1
  unfold f_X8_isTaken at hm
  refine lv_aload_n hx hb dX8_isTaken_0 rfl (lv_at hl 0 rfl) ?_
  refine q_geta E hw fw_X8_12 rfl hv0 dX8_isTaken_1 ?_
  refine q_cVv (κ := 7) (C := RX7) (T := TX7) (N := 12) [] E hw hm mw_X8_26 (fun u hu => c_X7_clear hu (tC_8_0 hv0)) rfl (by decide) (tC_8_0 hv0) rfl rfl hl.1 (Nat.le_of_ble_eq_true rfl) ⟨Nat.le_of_ble_eq_true rfl, Nat.le_of_ble_eq_true rfl⟩ dX8_isTaken_4 (fun u10 H locs hm hw => ?_)
  refine lv_aload_n hx hb dX8_isTaken_7 rfl (lv_at hl 0 rfl) ?_
  refine lv_iconst (v := 0) hx hb dX8_isTaken_8 (by decide) ?_
  refine q_pz E hw hm fw_X8_18 rfl rfl hv0 dX8_isTaken_9 (fun σ11 H locs hm hw => ?_)
  refine lv_iconst (v := 0) hx hb dX8_isTaken_12 (by decide) ?_
  refine lv_istore_n (lv' := [(1, .int 0), (0, .ref (b + v0))]) hx hb dX8_isTaken_13 rfl hl (by decide) rfl (fun ls hl => ?_)
  exact w_X8_isTaken_14 E hr hlk _ _ _ _ _ _ _ hm hv0 hw (lv_sub hl [1, 0] rfl)
theorem c_X8_isTaken {l : Launch} {D : va_G} {cy : Nat → ClassId} {b : Nat} {v0 : Nat} {σ : ST} {r : Int32 × ST} (hm : f_X8_isTaken v0 σ = some r) (hv0 : LC.1 v0 = 8) : Met l yX8_isTaken (wU yX8_isTaken cX8_isTaken 2 (some .boolean)) (rmD 8) (PcP D cy LC b [.ref (b + v0)] σ) (QcP D cy LC b (some (.int r.1)) r.2) 0 0 (inP LC b) :=
  q_met (lv := [(0, .ref (b + v0))]) LC_ok (by decide) (Nat.le_of_ble_eq_true rfl) rfl (fun _ _ _ _ _ _ _ _ _ E hr hlk hw hl => w_X8_isTaken_0 E hr hlk hm hv0 hw hl)
