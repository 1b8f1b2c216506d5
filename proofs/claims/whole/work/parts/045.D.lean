def f_X11_status (v0 : Nat) (σ : ST) : Option (Int32 × ST) :=
  some (gI σ v0 14, σ)
set_option maxRecDepth 20000 in
set_option maxHeartbeats 1000000 in
theorem w_X11_status_0 {p : Program} {l : Launch} {e : Env} {s : State} {m : MethodId} {args : Array Value} {below : List Frame} {meth : Method} {c : Code} {D : va_G} {cy : Nat → ClassId} {b : Nat} (E : CX p m c cX11_status 1 s args RX11 D cy LC) (hr : meth.sig.returnType = some .int) (hlk : meth.locks = false) {r : Int32 × ST} {v0 : Nat} {σ : ST} {H : Heap} {locs : List Loc} {ls : Array Slot} (hm : f_X11_status v0 σ = some r) (hv0 : LC.1 v0 = 11) (hw : PH D cy LC b σ s H locs) (hl : lv_has ls 1 [(0, .ref (b + v0))]) : W p l e (rmD 0) s m args below meth c H locs 0 0 (MQ below (QcP D cy LC b (some (.int r.1)) r.2) args s 0 0 (inP LC b)) (F0 m 0 ls []) := by
  have hx := E.1.1
  have hb := E.1.2.1
  unfold f_X11_status at hm
  refine lv_aload_n hx hb dX11_status_0 rfl (lv_at hl 0 rfl) ?_
  refine q_geti E hw fw_X11_98 rfl hv0 dX11_status_1 ?_
  exact q_iret E hr hlk hw hm dX11_status_4
theorem c_X11_status {l : Launch} {D : va_G} {cy : Nat → ClassId} {b : Nat} {v0 : Nat} {σ : ST} {r : Int32 × ST} (hm : f_X11_status v0 σ = some r) (hv0 : LC.1 v0 = 11) : Met l yX11_status (wU yX11_status cX11_status 1 (some .int)) (rmD 0) (PcP D cy LC b [.ref (b + v0)] σ) (QcP D cy LC b (some (.int r.1)) r.2) 0 0 (inP LC b) :=
  q_met (lv := [(0, .ref (b + v0))]) LC_ok (by decide) (Nat.le_of_ble_eq_true rfl) rfl (fun _ _ _ _ _ _ _ _ _ E hr hlk hw hl => w_X11_status_0 E hr hlk hm hv0 hw hl)

def f_X11_top (v0 : Nat) (σ : ST) : Option (Int64 × ST) :=
  some (gJ σ v0 15, σ)
set_option maxRecDepth 20000 in
set_option maxHeartbeats 1000000 in
theorem w_X11_top_0 {p : Program} {l : Launch} {e : Env} {s : State} {m : MethodId} {args : Array Value} {below : List Frame} {meth : Method} {c : Code} {D : va_G} {cy : Nat → ClassId} {b : Nat} (E : CX p m c cX11_top 1 s args RX11 D cy LC) (hr : meth.sig.returnType = some .long) (hlk : meth.locks = false) {r : Int64 × ST} {v0 : Nat} {σ : ST} {H : Heap} {locs : List Loc} {ls : Array Slot} (hm : f_X11_top v0 σ = some r) (hv0 : LC.1 v0 = 11) (hw : PH D cy LC b σ s H locs) (hl : lv_has ls 1 [(0, .ref (b + v0))]) : W p l e (rmD 0) s m args below meth c H locs 0 0 (MQ below (QcP D cy LC b (some (.long r.1)) r.2) args s 0 0 (inP LC b)) (F0 m 0 ls []) := by
  have hx := E.1.1
  have hb := E.1.2.1
  unfold f_X11_top at hm
  refine lv_aload_n hx hb dX11_top_0 rfl (lv_at hl 0 rfl) ?_
  refine q_getl E hw fw_X11_102 rfl hv0 dX11_top_1 ?_
  exact q_lret E hr hlk hw hm dX11_top_4
theorem c_X11_top {l : Launch} {D : va_G} {cy : Nat → ClassId} {b : Nat} {v0 : Nat} {σ : ST} {r : Int64 × ST} (hm : f_X11_top v0 σ = some r) (hv0 : LC.1 v0 = 11) : Met l yX11_top (wU yX11_top cX11_top 1 (some .long)) (rmD 0) (PcP D cy LC b [.ref (b + v0)] σ) (QcP D cy LC b (some (.long r.1)) r.2) 0 0 (inP LC b) :=
  q_met (lv := [(0, .ref (b + v0))]) LC_ok (by decide) (Nat.le_of_ble_eq_true rfl) rfl (fun _ _ _ _ _ _ _ _ _ E hr hlk hw hl => w_X11_top_0 E hr hlk hm hv0 hw hl)

def f_X11_bottom (v0 : Nat) (σ : ST) : Option (Int64 × ST) :=
  some (gJ σ v0 16, σ)
set_option maxRecDepth 20000 in
set_option maxHeartbeats 1000000 in
theorem w_X11_bottom_0 {p : Program} {l : Launch} {e : Env} {s : State} {m : MethodId} {args : Array Value} {below : List Frame} {meth : Method} {c : Code} {D : va_G} {cy : Nat → ClassId} {b : Nat} (E : CX p m c cX11_bottom 1 s args RX11 D cy LC) (hr : meth.sig.returnType = some .long) (hlk : meth.locks = false) {r : Int64 × ST} {v0 : Nat} {σ : ST} {H : Heap} {locs : List Loc} {ls : Array Slot} (hm : f_X11_bottom v0 σ = some r) (hv0 : LC.1 v0 = 11) (hw : PH D cy LC b σ s H locs) (hl : lv_has ls 1 [(0, .ref (b + v0))]) : W p l e (rmD 0) s m args below meth c H locs 0 0 (MQ below (QcP D cy LC b (some (.long r.1)) r.2) args s 0 0 (inP LC b)) (F0 m 0 ls []) := by
  have hx := E.1.1
  have hb := E.1.2.1
  unfold f_X11_bottom at hm
  refine lv_aload_n hx hb dX11_bottom_0 rfl (lv_at hl 0 rfl) ?_
  refine q_getl E hw fw_X11_106 rfl hv0 dX11_bottom_1 ?_
  exact q_lret E hr hlk hw hm dX11_bottom_4
theorem c_X11_bottom {l : Launch} {D : va_G} {cy : Nat → ClassId} {b : Nat} {v0 : Nat} {σ : ST} {r : Int64 × ST} (hm : f_X11_bottom v0 σ = some r) (hv0 : LC.1 v0 = 11) : Met l yX11_bottom (wU yX11_bottom cX11_bottom 1 (some .long)) (rmD 0) (PcP D cy LC b [.ref (b + v0)] σ) (QcP D cy LC b (some (.long r.1)) r.2) 0 0 (inP LC b) :=
  q_met (lv := [(0, .ref (b + v0))]) LC_ok (by decide) (Nat.le_of_ble_eq_true rfl) rfl (fun _ _ _ _ _ _ _ _ _ E hr hlk hw hl => w_X11_bottom_0 E hr hlk hm hv0 hw hl)

def f_X11_allowed (v0 : Nat) (σ : ST) : Option (Int32 × ST) :=
  (stI σ v0 14 0).bind fun σ1 =>
  (ckZ 1).bind fun z => some (z, σ1)
set_option maxRecDepth 20000 in
set_option maxHeartbeats 1000000 in
theorem w_X11_allowed_0 {p : Program} {l : Launch} {e : Env} {s : State} {m : MethodId} {args : Array Value} {below : List Frame} {meth : Method} {c : Code} {D : va_G} {cy : Nat → ClassId} {b : Nat} (E : CX p m c cX11_allowed 1 s args RX11 D cy LC) (hr : meth.sig.returnType = some .boolean) (hlk : meth.locks = false) {r : Int32 × ST} {v0 : Nat} {σ : ST} {H : Heap} {locs : List Loc} {ls : Array Slot} (hm : f_X11_allowed v0 σ = some r) (hv0 : LC.1 v0 = 11) (hw : PH D cy LC b σ s H locs) (hl : lv_has ls 1 [(0, .ref (b + v0))]) : W p l e (rmD 0) s m args below meth c H locs 0 0 (MQ below (QcP D cy LC b (some (.int r.1)) r.2) args s 0 0 (inP LC b)) (F0 m 0 ls []) := by
  have hx := E.1.1
  have hb := E.1.2.1
  unfold f_X11_allowed at hm
  refine lv_aload_n hx hb dX11_allowed_0 rfl (lv_at hl 0 rfl) ?_
  refine lv_iconst (v := 0) hx hb dX11_allowed_1 (by decide) ?_
  refine q_pi E hw hm fw_X11_98 rfl rfl hv0 dX11_allowed_2 (fun σ1 H locs hm hw => ?_)
  refine lv_iconst (v := 1) hx hb dX11_allowed_5 (by decide) ?_
  exact q_zret E hr hlk hw hm dX11_allowed_6
theorem c_X11_allowed {l : Launch} {D : va_G} {cy : Nat → ClassId} {b : Nat} {v0 : Nat} {σ : ST} {r : Int32 × ST} (hm : f_X11_allowed v0 σ = some r) (hv0 : LC.1 v0 = 11) : Met l yX11_allowed (wU yX11_allowed cX11_allowed 1 (some .boolean)) (rmD 0) (PcP D cy LC b [.ref (b + v0)] σ) (QcP D cy LC b (some (.int r.1)) r.2) 0 0 (inP LC b) :=
  q_met (lv := [(0, .ref (b + v0))]) LC_ok (by decide) (Nat.le_of_ble_eq_true rfl) rfl (fun _ _ _ _ _ _ _ _ _ E hr hlk hw hl => w_X11_allowed_0 E hr hlk hm hv0 hw hl)

def k_X11_isTray_14 (s0 : Int32) (σ : ST) : Option (Int32 × ST) :=
  (ckZ s0).bind fun z => some (z, σ)
set_option maxRecDepth 20000 in
set_option maxHeartbeats 1000000 in
theorem w_X11_isTray_14 {p : Program} {l : Launch} {e : Env} {s : State} {m : MethodId} {args : Array Value} {below : List Frame} {meth : Method} {c : Code} {D : va_G} {cy : Nat → ClassId} {b : Nat} (E : CX p m c cX11_isTray 2 s args RX11 D cy LC) (hr : meth.sig.returnType = some .boolean) (hlk : meth.locks = false) {r : Int32 × ST} {s0 : Int32} {σ : ST} {H : Heap} {locs : List Loc} {ls : Array Slot} (hm : k_X11_isTray_14 s0 σ = some r) (hw : PH D cy LC b σ s H locs) (hl : lv_has ls 2 []) : W p l e (rmD 0) s m args below meth c H locs 0 0 (MQ below (QcP D cy LC b (some (.int r.1)) r.2) args s 0 0 (inP LC b)) (F0 m 14 ls [.int s0]) := by
  have hx := E.1.1
  have hb := E.1.2.1
  unfold k_X11_isTray_14 at hm
  exact q_zret E hr hlk hw hm dX11_isTray_14
def k_X11_isTray_13 (σ : ST) : Option (Int32 × ST) :=
  k_X11_isTray_14 0 σ
set_option maxRecDepth 20000 in
set_option maxHeartbeats 1000000 in
theorem w_X11_isTray_13 {p : Program} {l : Launch} {e : Env} {s : State} {m : MethodId} {args : Array Value} {below : List Frame} {meth : Method} {c : Code} {D : va_G} {cy : Nat → ClassId} {b : Nat} (E : CX p m c cX11_isTray 2 s args RX11 D cy LC) (hr : meth.sig.returnType = some .boolean) (hlk : meth.locks = false) {r : Int32 × ST} {σ : ST} {H : Heap} {locs : List Loc} {ls : Array Slot} (hm : k_X11_isTray_13  σ = some r) (hw : PH D cy LC b σ s H locs) (hl : lv_has ls 2 []) : W p l e (rmD 0) s m args below meth c H locs 0 0 (MQ below (QcP D cy LC b (some (.int r.1)) r.2) args s 0 0 (inP LC b)) (F0 m 13 ls []) := by
  have hx := E.1.1
  have hb := E.1.2.1
  unfold k_X11_isTray_13 at hm
  refine lv_iconst (v := 0) hx hb dX11_isTray_13 (by decide) ?_
  exact w_X11_isTray_14 E hr hlk hm  hw (lv_sub hl [] rfl)
def f_X11_isTray (v0 : Nat) (v1 : Int32) (σ : ST) : Option (Int32 × ST) :=
  if v1 < 0 then (k_X11_isTray_13 σ) else (if 4 ≤ v1 then (k_X11_isTray_13 σ) else (k_X11_isTray_14 1 σ))
set_option maxRecDepth 20000 in
set_option maxHeartbeats 1000000 in
theorem w_X11_isTray_0 {p : Program} {l : Launch} {e : Env} {s : State} {m : MethodId} {args : Array Value} {below : List Frame} {meth : Method} {c : Code} {D : va_G} {cy : Nat → ClassId} {b : Nat} (E : CX p m c cX11_isTray 2 s args RX11 D cy LC) (hr : meth.sig.returnType = some .boolean) (hlk : meth.locks = false) {r : Int32 × ST} {v0 : Nat} {v1 : Int32} {σ : ST} {H : Heap} {locs : List Loc} {ls : Array Slot} (hm : f_X11_isTray v0 v1 σ = some r) (hv0 : LC.1 v0 = 11) (hw : PH D cy LC b σ s H locs) (hl : lv_has ls 2 [(0, .ref (b + v0)), (1, .int v1)]) : W p l e (rmD 0) s m args below meth c H locs 0 0 (MQ below (QcP D cy LC b (some (.int r.1)) r.2) args s 0 0 (inP LC b)) (F0 m 0 ls []) := by
  have hx := E.1.1
  have hb := E.1.2.1
  unfold f_X11_isTray at hm
  refine lv_iload_n hx hb dX11_isTray_0 rfl (lv_at hl 1 rfl) ?_
  refine lv_if_lt (tgt := 13) hx hb dX11_isTray_1 (by decide) (fun c1 => ?_) (fun c1 => ?_)
  · have hm := o_t c1 hm
    exact w_X11_isTray_13 E hr hlk hm  hw (lv_sub hl [] rfl)
  · have hm := o_f c1 hm
    refine lv_iload_n hx hb dX11_isTray_4 rfl (lv_at hl 1 rfl) ?_
    refine lv_iconst (v := 4) hx hb dX11_isTray_5 (by decide) ?_
    refine lv_icmp_ge (tgt := 13) hx hb dX11_isTray_6 (by decide) (fun c2 => ?_) (fun c2 => ?_)
    · have hm := o_t c2 hm
      exact w_X11_isTray_13 E hr hlk hm  hw (lv_sub hl [] rfl)
    · have hm := o_f c2 hm
      refine lv_iconst (v := 1) hx hb dX11_isTray_9 (by decide) ?_
      refine lv_goto (tgt := 14) hx hb dX11_isTray_10 (by decide) ?_
      exact w_X11_isTray_14 E hr hlk hm  hw (lv_sub hl [] rfl)
theorem c_X11_isTray {l : Launch} {D : va_G} {cy : Nat → ClassId} {b : Nat} {v0 : Nat} {v1 : Int32} {σ : ST} {r : Int32 × ST} (hm : f_X11_isTray v0 v1 σ = some r) (hv0 : LC.1 v0 = 11) : Met l yX11_isTray (wU yX11_isTray cX11_isTray 2 (some .boolean)) (rmD 0) (PcP D cy LC b [.ref (b + v0), .int v1] σ) (QcP D cy LC b (some (.int r.1)) r.2) 0 0 (inP LC b) :=
  q_met (lv := [(0, .ref (b + v0)), (1, .int v1)]) LC_ok (by decide) (Nat.le_of_ble_eq_true rfl) rfl (fun _ _ _ _ _ _ _ _ _ E hr hlk hw hl => w_X11_isTray_0 E hr hlk hm hv0 hw hl)

def f_X11_refused (v0 : Nat) (v1 : Int32) (σ : ST) : Option (Int32 × ST) :=
  (stI σ v0 14 v1).bind fun σ1 =>
  (ckZ 0).bind fun z => some (z, σ1)
set_option maxRecDepth 20000 in
set_option maxHeartbeats 1000000 in
theorem w_X11_refused_0 {p : Program} {l : Launch} {e : Env} {s : State} {m : MethodId} {args : Array Value} {below : List Frame} {meth : Method} {c : Code} {D : va_G} {cy : Nat → ClassId} {b : Nat} (E : CX p m c cX11_refused 2 s args RX11 D cy LC) (hr : meth.sig.returnType = some .boolean) (hlk : meth.locks = false) {r : Int32 × ST} {v0 : Nat} {v1 : Int32} {σ : ST} {H : Heap} {locs : List Loc} {ls : Array Slot} (hm : f_X11_refused v0 v1 σ = some r) (hv0 : LC.1 v0 = 11) (hw : PH D cy LC b σ s H locs) (hl : lv_has ls 2 [(0, .ref (b + v0)), (1, .int v1)]) : W p l e (rmD 0) s m args below meth c H locs 0 0 (MQ below (QcP D cy LC b (some (.int r.1)) r.2) args s 0 0 (inP LC b)) (F0 m 0 ls []) := by
  have hx := E.1.1
  have hb := E.1.2.1
  unfold f_X11_refused at hm
  refine lv_aload_n hx hb dX11_refused_0 rfl (lv_at hl 0 rfl) ?_
  refine lv_iload_n hx hb dX11_refused_1 rfl (lv_at hl 1 rfl) ?_
  refine q_pi E hw hm fw_X11_98 rfl rfl hv0 dX11_refused_2 (fun σ1 H locs hm hw => ?_)
  refine lv_iconst (v := 0) hx hb dX11_refused_5 (by decide) ?_
  exact q_zret E hr hlk hw hm dX11_refused_6
theorem c_X11_refused {l : Launch} {D : va_G} {cy : Nat → ClassId} {b : Nat} {v0 : Nat} {v1 : Int32} {σ : ST} {r : Int32 × ST} (hm : f_X11_refused v0 v1 σ = some r) (hv0 : LC.1 v0 = 11) : Met l yX11_refused (wU yX11_refused cX11_refused 2 (some .boolean)) (rmD 0) (PcP D cy LC b [.ref (b + v0), .int v1] σ) (QcP D cy LC b (some (.int r.1)) r.2) 0 0 (inP LC b) :=
  q_met (lv := [(0, .ref (b + v0)), (1, .int v1)]) LC_ok (by decide) (Nat.le_of_ble_eq_true rfl) rfl (fun _ _ _ _ _ _ _ _ _ E hr hlk hw hl => w_X11_refused_0 E hr hlk hm hv0 hw hl)

def k_X11_tray_27 (v0 : Nat) (σ : ST) : Option (Int32 × ST) :=
  (f_X11_refused v0 1 σ).bind fun u1 =>
  (ckZ u1.1).bind fun z => some (z, u1.2)
set_option maxRecDepth 20000 in
set_option maxHeartbeats 1000000 in
theorem w_X11_tray_27 {p : Program} {l : Launch} {e : Env} {s : State} {m : MethodId} {args : Array Value} {below : List Frame} {meth : Method} {c : Code} {D : va_G} {cy : Nat → ClassId} {b : Nat} (E : CX p m c cX11_tray 4 s args RX11 D cy LC) (hr : meth.sig.returnType = some .boolean) (hlk : meth.locks = false) {r : Int32 × ST} {v0 : Nat} {σ : ST} {H : Heap} {locs : List Loc} {ls : Array Slot} (hm : k_X11_tray_27 v0 σ = some r) (hv0 : LC.1 v0 = 11) (hw : PH D cy LC b σ s H locs) (hl : lv_has ls 4 [(0, .ref (b + v0))]) : W p l e (rmD 2) s m args below meth c H locs 0 0 (MQ below (QcP D cy LC b (some (.int r.1)) r.2) args s 0 0 (inP LC b)) (F0 m 27 ls []) := by
  have hx := E.1.1
  have hb := E.1.2.1
  unfold k_X11_tray_27 at hm
  refine lv_aload_n hx hb dX11_tray_27 rfl (lv_at hl 0 rfl) ?_
  refine lv_iconst (v := 1) hx hb dX11_tray_28 (by decide) ?_
  refine q_cVi (κ := 11) (C := RX11) (T := TX11) (N := 20) [] E hw hm mw_X11_123 (fun u hu => c_X11_refused hu hv0) rfl (by decide) hv0 rfl rfl hl.1 (Nat.le_of_ble_eq_true rfl) ⟨Nat.le_of_ble_eq_true rfl, Nat.le_of_ble_eq_true rfl⟩ dX11_tray_29 (fun u1 H locs hm hw => ?_)
  exact q_zret E hr hlk hw hm dX11_tray_32
def f_X11_tray (v0 : Nat) (v1 : Int32) (v2 : Int32) (v3 : Int32) (σ : ST) : Option (Int32 × ST) :=
  (f_X11_isTray v0 v1 σ).bind fun u2 =>
  if u2.1 = 0 then (k_X11_tray_27 v0 u2.2) else (if v2 < 0 then (k_X11_tray_27 v0 u2.2) else (if 3 < v2 then (k_X11_tray_27 v0 u2.2) else (if v3 < 0 then (k_X11_tray_27 v0 u2.2) else (if v3 ≤ 60 then ((ldR LC 9 (LC.2.1 v0 0) v1).bind fun x8 =>
  (f_X9_begin x8 v2 v3 u2.2).bind fun u9 =>
  (f_X11_allowed v0 u9).bind fun u10 =>
  (ckZ u10.1).bind fun z => some (z, u10.2)) else (k_X11_tray_27 v0 u2.2)))))
set_option maxRecDepth 20000 in
set_option maxHeartbeats 1000000 in
theorem w_X11_tray_0 {p : Program} {l : Launch} {e : Env} {s : State} {m : MethodId} {args : Array Value} {below : List Frame} {meth : Method} {c : Code} {D : va_G} {cy : Nat → ClassId} {b : Nat} (E : CX p m c cX11_tray 4 s args RX11 D cy LC) (hr : meth.sig.returnType = some .boolean) (hlk : meth.locks = false) {r : Int32 × ST} {v0 : Nat} {v1 : Int32} {v2 : Int32} {v3 : Int32} {σ : ST} {H : Heap} {locs : List Loc} {ls : Array Slot} (hm : f_X11_tray v0 v1 v2 v3 σ = some r) (hv0 : LC.1 v0 = 11) (hw : PH D cy LC b σ s H locs) (hl : lv_has ls 4 [(0, .ref (b + v0)), (1, .int v1), (2, .int v2), (3, .int v3)]) : W p l e (rmD 2) s m args below meth c H locs 0 0 (MQ below (QcP D cy LC b (some (.int r.1)) r.2) args s 0 0 (inP LC b)) (F0 m 0 ls []) := by
  have hx := E.1.1
  have hb := E.1.2.1
  unfold f_X11_tray at hm
  refine lv_aload_n hx hb dX11_tray_0 rfl (lv_at hl 0 rfl) ?_
  refine lv_iload_n hx hb dX11_tray_1 rfl (lv_at hl 1 rfl) ?_
  refine q_cVi (κ := 11) (C := RX11) (T := TX11) (N := 20) [] E hw hm mw_X11_119 (fun u hu => c_X11_isTray hu hv0) rfl (by decide) hv0 rfl rfl hl.1 (Nat.le_of_ble_eq_true rfl) ⟨Nat.le_of_ble_eq_true rfl, Nat.le_of_ble_eq_true rfl⟩ dX11_tray_2 (fun u2 H locs hm hw => ?_)
  refine lv_if_eq (tgt := 27) hx hb dX11_tray_5 (by decide) (fun c3 => ?_) (fun c3 => ?_)
  · have hm := o_t c3 hm
    exact w_X11_tray_27 E hr hlk hm hv0 hw (lv_sub hl [0] rfl)
  · have hm := o_f c3 hm
    refine lv_iload_n hx hb dX11_tray_8 rfl (lv_at hl 2 rfl) ?_
    refine lv_if_lt (tgt := 27) hx hb dX11_tray_9 (by decide) (fun c4 => ?_) (fun c4 => ?_)
    · have hm := o_t c4 hm
      exact w_X11_tray_27 E hr hlk hm hv0 hw (lv_sub hl [0] rfl)
    · have hm := o_f c4 hm
      refine lv_iload_n hx hb dX11_tray_12 rfl (lv_at hl 2 rfl) ?_
      refine lv_iconst (v := 3) hx hb dX11_tray_13 (by decide) ?_
      refine lv_icmp_gt (tgt := 27) hx hb dX11_tray_14 (by decide) (fun c5 => ?_) (fun c5 => ?_)
      · have hm := o_t c5 hm
        exact w_X11_tray_27 E hr hlk hm hv0 hw (lv_sub hl [0] rfl)
      · have hm := o_f c5 hm
        refine lv_iload_n hx hb dX11_tray_17 rfl (lv_at hl 3 rfl) ?_
        refine lv_if_lt (tgt := 27) hx hb dX11_tray_18 (by decide) (fun c6 => ?_) (fun c6 => ?_)
        · have hm := o_t c6 hm
          exact w_X11_tray_27 E hr hlk hm hv0 hw (lv_sub hl [0] rfl)
        · have hm := o_f c6 hm
          refine lv_iload_n hx hb dX11_tray_21 rfl (lv_at hl 3 rfl) ?_
          refine lv_bipush (v := 60) hx hb dX11_tray_22 (by decide) ?_
          refine lv_icmp_le (tgt := 33) hx hb dX11_tray_24 (by decide) (fun c7 => ?_) (fun c7 => ?_)
          · have hm := o_t c7 hm
            refine lv_aload_n hx hb dX11_tray_33 rfl (lv_at hl 0 rfl) ?_
            refine q_geta E hw fw_X11_11 rfl hv0 dX11_tray_34 ?_
            refine lv_iload_n hx hb dX11_tray_37 rfl (lv_at hl 1 rfl) ?_
            refine q_aald9 E hw (tC_11_0 hv0) hm dX11_tray_38 (fun x8 hx8 hm => ?_)
            refine lv_iload_n hx hb dX11_tray_39 rfl (lv_at hl 2 rfl) ?_
            refine lv_iload_n hx hb dX11_tray_40 rfl (lv_at hl 3 rfl) ?_
            refine q_cVv (κ := 9) (C := RX9) (T := TX9) (N := 4) [] E hw hm mw_X11_126 (fun u hu => c_X9_begin hu hx8) rfl (by decide) hx8 rfl rfl hl.1 (Nat.le_of_ble_eq_true rfl) ⟨Nat.le_of_ble_eq_true rfl, Nat.le_of_ble_eq_true rfl⟩ dX11_tray_41 (fun u9 H locs hm hw => ?_)
            refine lv_aload_n hx hb dX11_tray_44 rfl (lv_at hl 0 rfl) ?_
            refine q_cVi (κ := 11) (C := RX11) (T := TX11) (N := 20) [] E hw hm mw_X11_130 (fun u hu => c_X11_allowed hu hv0) rfl (by decide) hv0 rfl rfl hl.1 (Nat.le_of_ble_eq_true rfl) ⟨Nat.le_of_ble_eq_true rfl, Nat.le_of_ble_eq_true rfl⟩ dX11_tray_45 (fun u10 H locs hm hw => ?_)
            exact q_zret E hr hlk hw hm dX11_tray_48
          · have hm := o_f c7 hm
            exact w_X11_tray_27 E hr hlk hm hv0 hw (lv_sub hl [0] rfl)
theorem c_X11_tray {l : Launch} {D : va_G} {cy : Nat → ClassId} {b : Nat} {v0 : Nat} {v1 : Int32} {v2 : Int32} {v3 : Int32} {σ : ST} {r : Int32 × ST} (hm : f_X11_tray v0 v1 v2 v3 σ = some r) (hv0 : LC.1 v0 = 11) : Met l yX11_tray (wU yX11_tray cX11_tray 4 (some .boolean)) (rmD 2) (PcP D cy LC b [.ref (b + v0), .int v1, .int v2, .int v3] σ) (QcP D cy LC b (some (.int r.1)) r.2) 0 0 (inP LC b) :=
  q_met (lv := [(0, .ref (b + v0)), (1, .int v1), (2, .int v2), (3, .int v3)]) LC_ok (by decide) (Nat.le_of_ble_eq_true rfl) rfl (fun _ _ _ _ _ _ _ _ _ E hr hlk hw hl => w_X11_tray_0 E hr hlk hm hv0 hw hl)

def k_X11_placeStatus_46 (s0 : Int32) (σ : ST) : Option (Int32 × ST) :=
  some (s0, σ)
set_option maxRecDepth 20000 in
set_option maxHeartbeats 1000000 in
theorem w_X11_placeStatus_46 {p : Program} {l : Launch} {e : Env} {s : State} {m : MethodId} {args : Array Value} {below : List Frame} {meth : Method} {c : Code} {D : va_G} {cy : Nat → ClassId} {b : Nat} (E : CX p m c cX11_placeStatus 3 s args RX11 D cy LC) (hr : meth.sig.returnType = some .int) (hlk : meth.locks = false) {r : Int32 × ST} {s0 : Int32} {σ : ST} {H : Heap} {locs : List Loc} {ls : Array Slot} (hm : k_X11_placeStatus_46 s0 σ = some r) (hw : PH D cy LC b σ s H locs) (hl : lv_has ls 3 []) : W p l e (rmD 1) s m args below meth c H locs 0 0 (MQ below (QcP D cy LC b (some (.int r.1)) r.2) args s 0 0 (inP LC b)) (F0 m 46 ls [.int s0]) := by
  have hx := E.1.1
  have hb := E.1.2.1
  unfold k_X11_placeStatus_46 at hm
  exact q_iret E hr hlk hw hm dX11_placeStatus_46
def k_X11_placeStatus_41 (σ : ST) : Option (Int32 × ST) :=
  k_X11_placeStatus_46 3 σ
set_option maxRecDepth 20000 in
set_option maxHeartbeats 1000000 in
theorem w_X11_placeStatus_41 {p : Program} {l : Launch} {e : Env} {s : State} {m : MethodId} {args : Array Value} {below : List Frame} {meth : Method} {c : Code} {D : va_G} {cy : Nat → ClassId} {b : Nat} (E : CX p m c cX11_placeStatus 3 s args RX11 D cy LC) (hr : meth.sig.returnType = some .int) (hlk : meth.locks = false) {r : Int32 × ST} {σ : ST} {H : Heap} {locs : List Loc} {ls : Array Slot} (hm : k_X11_placeStatus_41  σ = some r) (hw : PH D cy LC b σ s H locs) (hl : lv_has ls 3 []) : W p l e (rmD 1) s m args below meth c H locs 0 0 (MQ below (QcP D cy LC b (some (.int r.1)) r.2) args s 0 0 (inP LC b)) (F0 m 41 ls []) := by
  have hx := E.1.1
  have hb := E.1.2.1
  unfold k_X11_placeStatus_41 at hm
  refine lv_iconst (v := 3) hx hb dX11_placeStatus_41 (by decide) ?_
  refine lv_goto (tgt := 46) hx hb dX11_placeStatus_42 (by decide) ?_
  exact w_X11_placeStatus_46 E hr hlk hm  hw (lv_sub hl [] rfl)
def f_X11_placeStatus (v0 : Nat) (v1 : Int32) (v2 : Int32) (σ : ST) : Option (Int32 × ST) :=
  (f_X11_isTray v0 v1 σ).bind fun u1 =>
  if u1.1 = 0 then (some (1, u1.2)) else ((ldR LC 9 (LC.2.1 v0 0) v1).bind fun x3 =>
  if (gI u1.2 x3 1) = 0 then (some (2, u1.2)) else (if v2 < 0 then (k_X11_placeStatus_41 u1.2) else ((ldR LC 9 (LC.2.1 v0 0) v1).bind fun x6 =>
  if v2 < (gI u1.2 x6 3) then (k_X11_placeStatus_46 0 u1.2) else (k_X11_placeStatus_41 u1.2))))
set_option maxRecDepth 20000 in
set_option maxHeartbeats 1000000 in
theorem w_X11_placeStatus_0 {p : Program} {l : Launch} {e : Env} {s : State} {m : MethodId} {args : Array Value} {below : List Frame} {meth : Method} {c : Code} {D : va_G} {cy : Nat → ClassId} {b : Nat} (E : CX p m c cX11_placeStatus 3 s args RX11 D cy LC) (hr : meth.sig.returnType = some .int) (hlk : meth.locks = false) {r : Int32 × ST} {v0 : Nat} {v1 : Int32} {v2 : Int32} {σ : ST} {H : Heap} {locs : List Loc} {ls : Array Slot} (hm : f_X11_placeStatus v0 v1 v2 σ = some r) (hv0 : LC.1 v0 = 11) (hw : PH D cy LC b σ s H locs) (hl : lv_has ls 3 [(0, .ref (b + v0)), (1, .int v1), (2, .int v2)]) : W p l e (rmD 1) s m args below meth c H locs 0 0 (MQ below (QcP D cy LC b (some (.int r.1)) r.2) args s 0 0 (inP LC b)) (F0 m 0 ls []) := by
  have hx := E.1.1
  have hb := E.1.2.1
  unfold f_X11_placeStatus at hm
  refine lv_aload_n hx hb dX11_placeStatus_0 rfl (lv_at hl 0 rfl) ?_
  refine lv_iload_n hx hb dX11_placeStatus_1 rfl (lv_at hl 1 rfl) ?_
  refine q_cVi (κ := 11) (C := RX11) (T := TX11) (N := 20) [] E hw hm mw_X11_119 (fun u hu => c_X11_isTray hu hv0) rfl (by decide) hv0 rfl rfl hl.1 (Nat.le_of_ble_eq_true rfl) ⟨Nat.le_of_ble_eq_true rfl, Nat.le_of_ble_eq_true rfl⟩ dX11_placeStatus_2 (fun u1 H locs hm hw => ?_)
  refine lv_if_ne (tgt := 10) hx hb dX11_placeStatus_5 (by decide) (fun c2 => ?_) (fun c2 => ?_)
  · have hm := o_f c2 hm
    refine lv_aload_n hx hb dX11_placeStatus_10 rfl (lv_at hl 0 rfl) ?_
    refine q_geta E hw fw_X11_11 rfl hv0 dX11_placeStatus_11 ?_
    refine lv_iload_n hx hb dX11_placeStatus_14 rfl (lv_at hl 1 rfl) ?_
    refine q_aald9 E hw (tC_11_0 hv0) hm dX11_placeStatus_15 (fun x3 hx3 hm => ?_)
    refine q_geti E hw fw_X11_150 rfl hx3 dX11_placeStatus_16 ?_
    refine lv_if_ne (tgt := 24) hx hb dX11_placeStatus_19 (by decide) (fun c4 => ?_) (fun c4 => ?_)
    · have hm := o_f c4 hm
      refine lv_iload_n hx hb dX11_placeStatus_24 rfl (lv_at hl 2 rfl) ?_
      refine lv_if_lt (tgt := 41) hx hb dX11_placeStatus_25 (by decide) (fun c5 => ?_) (fun c5 => ?_)
      · have hm := o_t c5 hm
        exact w_X11_placeStatus_41 E hr hlk hm  hw (lv_sub hl [] rfl)
      · have hm := o_f c5 hm
        refine lv_iload_n hx hb dX11_placeStatus_28 rfl (lv_at hl 2 rfl) ?_
        refine lv_aload_n hx hb dX11_placeStatus_29 rfl (lv_at hl 0 rfl) ?_
        refine q_geta E hw fw_X11_11 rfl hv0 dX11_placeStatus_30 ?_
        refine lv_iload_n hx hb dX11_placeStatus_33 rfl (lv_at hl 1 rfl) ?_
        refine q_aald9 E hw (tC_11_0 hv0) hm dX11_placeStatus_34 (fun x6 hx6 hm => ?_)
        refine q_geti E hw fw_X11_157 rfl hx6 dX11_placeStatus_35 ?_
        refine lv_icmp_lt (tgt := 45) hx hb dX11_placeStatus_38 (by decide) (fun c7 => ?_) (fun c7 => ?_)
        · have hm := o_t c7 hm
          refine lv_iconst (v := 0) hx hb dX11_placeStatus_45 (by decide) ?_
          exact w_X11_placeStatus_46 E hr hlk hm  hw (lv_sub hl [] rfl)
        · have hm := o_f c7 hm
          exact w_X11_placeStatus_41 E hr hlk hm  hw (lv_sub hl [] rfl)
    · have hm := o_t c4 hm
      refine lv_iconst (v := 2) hx hb dX11_placeStatus_22 (by decide) ?_
      exact q_iret E hr hlk hw hm dX11_placeStatus_23
  · have hm := o_t c2 hm
    refine lv_iconst (v := 1) hx hb dX11_placeStatus_8 (by decide) ?_
    exact q_iret E hr hlk hw hm dX11_placeStatus_9
theorem c_X11_placeStatus {l : Launch} {D : va_G} {cy : Nat → ClassId} {b : Nat} {v0 : Nat} {v1 : Int32} {v2 : Int32} {σ : ST} {r : Int32 × ST} (hm : f_X11_placeStatus v0 v1 v2 σ = some r) (hv0 : LC.1 v0 = 11) : Met l yX11_placeStatus (wU yX11_placeStatus cX11_placeStatus 3 (some .int)) (rmD 1) (PcP D cy LC b [.ref (b + v0), .int v1, .int v2] σ) (QcP D cy LC b (some (.int r.1)) r.2) 0 0 (inP LC b) :=
  q_met (lv := [(0, .ref (b + v0)), (1, .int v1), (2, .int v2)]) LC_ok (by decide) (Nat.le_of_ble_eq_true rfl) rfl (fun _ _ _ _ _ _ _ _ _ E hr hlk hw hl => w_X11_placeStatus_0 E hr hlk hm hv0 hw hl)

def f_X11_write (v0 : Nat) (v1 : Int32) (v2 : Int32) (v3 : Int64) (σ : ST) : Option (Int32 × ST) :=
  (f_X11_placeStatus v0 v1 v2 σ).bind fun u1 =>
  if u1.1 = 0 then ((ldR LC 9 (LC.2.1 v0 0) v1).bind fun x3 =>
  (f_X9_keep x3 v2 v3 u1.2).bind fun u4 =>
  (f_X11_allowed v0 u4).bind fun u5 =>
  (ckZ u5.1).bind fun z => some (z, u5.2)) else ((f_X11_refused v0 u1.1 u1.2).bind fun u6 =>
  (ckZ u6.1).bind fun z => some (z, u6.2))
set_option maxRecDepth 20000 in
set_option maxHeartbeats 1000000 in
theorem w_X11_write_0 {p : Program} {l : Launch} {e : Env} {s : State} {m : MethodId} {args : Array Value} {below : List Frame} {meth : Method} {c : Code} {D : va_G} {cy : Nat → ClassId} {b : Nat} (E : CX p m c cX11_write 6 s args RX11 D cy LC) (hr : meth.sig.returnType = some .boolean) (hlk : meth.locks = false) {r : Int32 × ST} {v0 : Nat} {v1 : Int32} {v2 : Int32} {v3 : Int64} {σ : ST} {H : Heap} {locs : List Loc} {ls : Array Slot} (hm : f_X11_write v0 v1 v2 v3 σ = some r) (hv0 : LC.1 v0 = 11) (hw : PH D cy LC b σ s H locs) (hl : lv_has ls 6 [(0, .ref (b + v0)), (1, .int v1), (2, .int v2), (3, .long v3)]) : W p l e (rmD 2) s m args below meth c H locs 0 0 (MQ below (QcP D cy LC b (some (.int r.1)) r.2) args s 0 0 (inP LC b)) (F0 m 0 ls []) := by
  have hx := E.1.1
  have hb := E.1.2.1
  unfold f_X11_write at hm
  refine lv_aload_n hx hb dX11_write_0 rfl (lv_at hl 0 rfl) ?_
  refine lv_iload_n hx hb dX11_write_1 rfl (lv_at hl 1 rfl) ?_
  refine lv_iload_n hx hb dX11_write_2 rfl (lv_at hl 2 rfl) ?_
  refine q_cVi (κ := 11) (C := RX11) (T := TX11) (N := 20) [] E hw hm mw_X11_134 (fun u hu => c_X11_placeStatus hu hv0) rfl (by decide) hv0 rfl rfl hl.1 (Nat.le_of_ble_eq_true rfl) ⟨Nat.le_of_ble_eq_true rfl, Nat.le_of_ble_eq_true rfl⟩ dX11_write_3 (fun u1 H locs hm hw => ?_)
  refine lv_istore (lv' := [(5, .int u1.1), (0, .ref (b + v0)), (1, .int v1), (2, .int v2), (3, .long v3)]) hx hb dX11_write_6 hl (by decide) rfl (fun ls hl => ?_)
  refine lv_iload hx hb dX11_write_8 (lv_at hl 0 rfl) ?_
  refine lv_if_eq (tgt := 20) hx hb dX11_write_10 (by decide) (fun c2 => ?_) (fun c2 => ?_)
  · have hm := o_t c2 hm
    refine lv_aload_n hx hb dX11_write_20 rfl (lv_at hl 1 rfl) ?_
    refine q_geta E hw fw_X11_11 rfl hv0 dX11_write_21 ?_
    refine lv_iload_n hx hb dX11_write_24 rfl (lv_at hl 2 rfl) ?_
    refine q_aald9 E hw (tC_11_0 hv0) hm dX11_write_25 (fun x3 hx3 hm => ?_)
    refine lv_iload_n hx hb dX11_write_26 rfl (lv_at hl 3 rfl) ?_
    refine lv_lload_n hx hb dX11_write_27 rfl (lv_at hl 4 rfl) ?_
    refine q_cVv (κ := 9) (C := RX9) (T := TX9) (N := 4) [] E hw hm mw_X11_138 (fun u hu => c_X9_keep hu hx3) rfl (by decide) hx3 rfl rfl hl.1 (Nat.le_of_ble_eq_true rfl) ⟨Nat.le_of_ble_eq_true rfl, Nat.le_of_ble_eq_true rfl⟩ dX11_write_28 (fun u4 H locs hm hw => ?_)
    refine lv_aload_n hx hb dX11_write_31 rfl (lv_at hl 1 rfl) ?_
    refine q_cVi (κ := 11) (C := RX11) (T := TX11) (N := 20) [] E hw hm mw_X11_130 (fun u hu => c_X11_allowed hu hv0) rfl (by decide) hv0 rfl rfl hl.1 (Nat.le_of_ble_eq_true rfl) ⟨Nat.le_of_ble_eq_true rfl, Nat.le_of_ble_eq_true rfl⟩ dX11_write_32 (fun u5 H locs hm hw => ?_)
    exact q_zret E hr hlk hw hm dX11_write_35
  · have hm := o_f c2 hm
    refine lv_aload_n hx hb dX11_write_13 rfl (lv_at hl 1 rfl) ?_
    refine lv_iload hx hb dX11_write_14 (lv_at hl 0 rfl) ?_
    refine q_cVi (κ := 11) (C := RX11) (T := TX11) (N := 20) [] E hw hm mw_X11_123 (fun u hu => c_X11_refused hu hv0) rfl (by decide) hv0 rfl rfl hl.1 (Nat.le_of_ble_eq_true rfl) ⟨Nat.le_of_ble_eq_true rfl, Nat.le_of_ble_eq_true rfl⟩ dX11_write_16 (fun u6 H locs hm hw => ?_)
    exact q_zret E hr hlk hw hm dX11_write_19
theorem c_X11_write {l : Launch} {D : va_G} {cy : Nat → ClassId} {b : Nat} {v0 : Nat} {v1 : Int32} {v2 : Int32} {v3 : Int64} {σ : ST} {r : Int32 × ST} (hm : f_X11_write v0 v1 v2 v3 σ = some r) (hv0 : LC.1 v0 = 11) : Met l yX11_write (wU yX11_write cX11_write 6 (some .boolean)) (rmD 2) (PcP D cy LC b [.ref (b + v0), .int v1, .int v2, .long v3] σ) (QcP D cy LC b (some (.int r.1)) r.2) 0 0 (inP LC b) :=
  q_met (lv := [(0, .ref (b + v0)), (1, .int v1), (2, .int v2), (3, .long v3)]) LC_ok (by decide) (Nat.le_of_ble_eq_true rfl) rfl (fun _ _ _ _ _ _ _ _ _ E hr hlk hw hl => w_X11_write_0 E hr hlk hm hv0 hw hl)

def f_X11_refuse (v0 : Nat) (v1 : Int32) (σ : ST) : Option (Int32 × ST) :=
  (stI σ v0 14 v1).bind fun σ1 =>
  some ((-1), σ1)
set_option maxRecDepth 20000 in
set_option maxHeartbeats 1000000 in
theorem w_X11_refuse_0 {p : Program} {l : Launch} {e : Env} {s : State} {m : MethodId} {args : Array Value} {below : List Frame} {meth : Method} {c : Code} {D : va_G} {cy : Nat → ClassId} {b : Nat} (E : CX p m c cX11_refuse 2 s args RX11 D cy LC) (hr : meth.sig.returnType = some .int) (hlk : meth.locks = false) {r : Int32 × ST} {v0 : Nat} {v1 : Int32} {σ : ST} {H : Heap} {locs : List Loc} {ls : Array Slot} (hm : f_X11_refuse v0 v1 σ = some r) (hv0 : LC.1 v0 = 11) (hw : PH D cy LC b σ s H locs) (hl : lv_has ls 2 [(0, .ref (b + v0)), (1, .int v1)]) : W p l e (rmD 0) s m args below meth c H locs 0 0 (MQ below (QcP D cy LC b (some (.int r.1)) r.2) args s 0 0 (inP LC b)) (F0 m 0 ls []) := by
  have hx := E.1.1
  have hb := E.1.2.1
  unfold f_X11_refuse at hm
  refine lv_aload_n hx hb dX11_refuse_0 rfl (lv_at hl 0 rfl) ?_
  refine lv_iload_n hx hb dX11_refuse_1 rfl (lv_at hl 1 rfl) ?_
  refine q_pi E hw hm fw_X11_98 rfl rfl hv0 dX11_refuse_2 (fun σ1 H locs hm hw => ?_)
  refine lv_iconst (v := (-1)) hx hb dX11_refuse_5 (by decide) ?_
  exact q_iret E hr hlk hw hm dX11_refuse_6
theorem c_X11_refuse {l : Launch} {D : va_G} {cy : Nat → ClassId} {b : Nat} {v0 : Nat} {v1 : Int32} {σ : ST} {r : Int32 × ST} (hm : f_X11_refuse v0 v1 σ = some r) (hv0 : LC.1 v0 = 11) : Met l yX11_refuse (wU yX11_refuse cX11_refuse 2 (some .int)) (rmD 0) (PcP D cy LC b [.ref (b + v0), .int v1] σ) (QcP D cy LC b (some (.int r.1)) r.2) 0 0 (inP LC b) :=
  q_met (lv := [(0, .ref (b + v0)), (1, .int v1)]) LC_ok (by decide) (Nat.le_of_ble_eq_true rfl) rfl (fun _ _ _ _ _ _ _ _ _ E hr hlk hw hl => w_X11_refuse_0 E hr hlk hm hv0 hw hl)

def f_X11_read (v0 : Nat) (v1 : Int32) (v2 : Int32) (σ : ST) : Option (Int64 × ST) :=
  (f_X11_placeStatus v0 v1 v2 σ).bind fun u1 =>
  if u1.1 = 0 then ((stI u1.2 v0 14 0).bind fun σ3 =>
  (ldR LC 9 (LC.2.1 v0 0) v1).bind fun x4 =>
  (ldB LC σ3 (LC.2.1 x4 0) v2).bind fun a5 =>
  some (a5, σ3)) else ((f_X11_refuse v0 u1.1 u1.2).bind fun u6 =>
  some ((u6.1).toInt64, u6.2))
set_option maxRecDepth 20000 in
set_option maxHeartbeats 1000000 in
theorem w_X11_read_0 {p : Program} {l : Launch} {e : Env} {s : State} {m : MethodId} {args : Array Value} {below : List Frame} {meth : Method} {c : Code} {D : va_G} {cy : Nat → ClassId} {b : Nat} (E : CX p m c cX11_read 4 s args RX11 D cy LC) (hr : meth.sig.returnType = some .long) (hlk : meth.locks = false) {r : Int64 × ST} {v0 : Nat} {v1 : Int32} {v2 : Int32} {σ : ST} {H : Heap} {locs : List Loc} {ls : Array Slot} (hm : f_X11_read v0 v1 v2 σ = some r) (hv0 : LC.1 v0 = 11) (hw : PH D cy LC b σ s H locs) (hl : lv_has ls 4 [(0, .ref (b + v0)), (1, .int v1), (2, .int v2)]) : W p l e (rmD 2) s m args below meth c H locs 0 0 (MQ below (QcP D cy LC b (some (.long r.1)) r.2) args s 0 0 (inP LC b)) (F0 m 0 ls []) := by
  have hx := E.1.1
  have hb := E.1.2.1
  unfold f_X11_read at hm
  refine lv_aload_n hx hb dX11_read_0 rfl (lv_at hl 0 rfl) ?_
  refine lv_iload_n hx hb dX11_read_1 rfl (lv_at hl 1 rfl) ?_
  refine lv_iload_n hx hb dX11_read_2 rfl (lv_at hl 2 rfl) ?_
  refine q_cVi (κ := 11) (C := RX11) (T := TX11) (N := 20) [] E hw hm mw_X11_134 (fun u hu => c_X11_placeStatus hu hv0) rfl (by decide) hv0 rfl rfl hl.1 (Nat.le_of_ble_eq_true rfl) ⟨Nat.le_of_ble_eq_true rfl, Nat.le_of_ble_eq_true rfl⟩ dX11_read_3 (fun u1 H locs hm hw => ?_)
  refine lv_istore_n (lv' := [(3, .int u1.1), (0, .ref (b + v0)), (1, .int v1), (2, .int v2)]) hx hb dX11_read_6 rfl hl (by decide) rfl (fun ls hl => ?_)
  refine lv_iload_n hx hb dX11_read_7 rfl (lv_at hl 0 rfl) ?_
  refine lv_if_eq (tgt := 18) hx hb dX11_read_8 (by decide) (fun c2 => ?_) (fun c2 => ?_)
  · have hm := o_t c2 hm
    refine lv_aload_n hx hb dX11_read_18 rfl (lv_at hl 1 rfl) ?_
    refine lv_iconst (v := 0) hx hb dX11_read_19 (by decide) ?_
    refine q_pi E hw hm fw_X11_98 rfl rfl hv0 dX11_read_20 (fun σ3 H locs hm hw => ?_)
    refine lv_aload_n hx hb dX11_read_23 rfl (lv_at hl 1 rfl) ?_
    refine q_geta E hw fw_X11_11 rfl hv0 dX11_read_24 ?_
    refine lv_iload_n hx hb dX11_read_27 rfl (lv_at hl 2 rfl) ?_
    refine q_aald9 E hw (tC_11_0 hv0) hm dX11_read_28 (fun x4 hx4 hm => ?_)
    refine q_geta E hw fw_X11_146 rfl hx4 dX11_read_29 ?_
    refine lv_iload_n hx hb dX11_read_32 rfl (lv_at hl 3 rfl) ?_
    refine q_lald E hw (tC_9_0 hx4) hm dX11_read_33 (fun a5 hm => ?_)
    exact q_lret E hr hlk hw hm dX11_read_34
  · have hm := o_f c2 hm
    refine lv_aload_n hx hb dX11_read_11 rfl (lv_at hl 1 rfl) ?_
    refine lv_iload_n hx hb dX11_read_12 rfl (lv_at hl 0 rfl) ?_
    refine q_cVi (κ := 11) (C := RX11) (T := TX11) (N := 20) [] E hw hm mw_X11_142 (fun u hu => c_X11_refuse hu hv0) rfl (by decide) hv0 rfl rfl hl.1 (Nat.le_of_ble_eq_true rfl) ⟨Nat.le_of_ble_eq_true rfl, Nat.le_of_ble_eq_true rfl⟩ dX11_read_13 (fun u6 H locs hm hw => ?_)
    refine lv_i2l hx hb dX11_read_16 rfl ?_
    exact q_lret E hr hlk hw hm dX11_read_17
theorem c_X11_read {l : Launch} {D : va_G} {cy : Nat → ClassId} {b : Nat} {v0 : Nat} {v1 : Int32} {v2 : Int32} {σ : ST} {r : Int64 × ST} (hm : f_X11_read v0 v1 v2 σ = some r) (hv0 : LC.1 v0 = 11) : Met l yX11_read (wU yX11_read cX11_read 4 (some .long)) (rmD 2) (PcP D cy LC b [.ref (b + v0), .int v1, .int v2] σ) (QcP D cy LC b (some (.long r.1)) r.2) 0 0 (inP LC b) :=
  q_met (lv := [(0, .ref (b + v0)), (1, .int v1), (2, .int v2)]) LC_ok (by decide) (Nat.le_of_ble_eq_true rfl) rfl (fun _ _ _ _ _ _ _ _ _ E hr hlk hw hl => w_X11_read_0 E hr hlk hm hv0 hw hl)

def k_X11_pour_119 (v0 : Nat) (σ : ST) : Option (Int32 × ST) :=
  (f_X11_refused v0 3 σ).bind fun u1 =>
  (ckZ u1.1).bind fun z => some (z, u1.2)
set_option maxRecDepth 20000 in
set_option maxHeartbeats 1000000 in
theorem w_X11_pour_119 {p : Program} {l : Launch} {e : Env} {s : State} {m : MethodId} {args : Array Value} {below : List Frame} {meth : Method} {c : Code} {D : va_G} {cy : Nat → ClassId} {b : Nat} (E : CX p m c cX11_pour 8 s args RX11 D cy LC) (hr : meth.sig.returnType = some .boolean) (hlk : meth.locks = false) {r : Int32 × ST} {v0 : Nat} {σ : ST} {H : Heap} {locs : List Loc} {ls : Array Slot} (hm : k_X11_pour_119 v0 σ = some r) (hv0 : LC.1 v0 = 11) (hw : PH D cy LC b σ s H locs) (hl : lv_has ls 8 [(0, .ref (b + v0))]) : W p l e (rmD 1) s m args below meth c H locs 0 0 (MQ below (QcP D cy LC b (some (.int r.1)) r.2) args s 0 0 (inP LC b)) (F0 m 119 ls []) := by
  have hx := E.1.1
  have hb := E.1.2.1
  unfold k_X11_pour_119 at hm
  refine lv_aload_n hx hb dX11_pour_119 rfl (lv_at hl 0 rfl) ?_
  refine lv_iconst (v := 3) hx hb dX11_pour_120 (by decide) ?_
  refine q_cVi (κ := 11) (C := RX11) (T := TX11) (N := 20) [] E hw hm mw_X11_123 (fun u hu => c_X11_refused hu hv0) rfl (by decide) hv0 rfl rfl hl.1 (Nat.le_of_ble_eq_true rfl) ⟨Nat.le_of_ble_eq_true rfl, Nat.le_of_ble_eq_true rfl⟩ dX11_pour_121 (fun u1 H locs hm hw => ?_)
  exact q_zret E hr hlk hw hm dX11_pour_124
def k_X11_pour_68 (v0 : Nat) (σ : ST) : Option (Int32 × ST) :=
  (f_X11_refused v0 2 σ).bind fun u2 =>
  (ckZ u2.1).bind fun z => some (z, u2.2)
set_option maxRecDepth 20000 in
set_option maxHeartbeats 1000000 in
theorem w_X11_pour_68 {p : Program} {l : Launch} {e : Env} {s : State} {m : MethodId} {args : Array Value} {below : List Frame} {meth : Method} {c : Code} {D : va_G} {cy : Nat → ClassId} {b : Nat} (E : CX p m c cX11_pour 8 s args RX11 D cy LC) (hr : meth.sig.returnType = some .boolean) (hlk : meth.locks = false) {r : Int32 × ST} {v0 : Nat} {σ : ST} {H : Heap} {locs : List Loc} {ls : Array Slot} (hm : k_X11_pour_68 v0 σ = some r) (hv0 : LC.1 v0 = 11) (hw : PH D cy LC b σ s H locs) (hl : lv_has ls 8 [(0, .ref (b + v0))]) : W p l e (rmD 1) s m args below meth c H locs 0 0 (MQ below (QcP D cy LC b (some (.int r.1)) r.2) args s 0 0 (inP LC b)) (F0 m 68 ls []) := by
  have hx := E.1.1
  have hb := E.1.2.1
  unfold k_X11_pour_68 at hm
  refine lv_aload_n hx hb dX11_pour_68 rfl (lv_at hl 0 rfl) ?_
  refine lv_iconst (v := 2) hx hb dX11_pour_69 (by decide) ?_
  refine q_cVi (κ := 11) (C := RX11) (T := TX11) (N := 20) [] E hw hm mw_X11_123 (fun u hu => c_X11_refused hu hv0) rfl (by decide) hv0 rfl rfl hl.1 (Nat.le_of_ble_eq_true rfl) ⟨Nat.le_of_ble_eq_true rfl, Nat.le_of_ble_eq_true rfl⟩ dX11_pour_70 (fun u2 H locs hm hw => ?_)
  exact q_zret E hr hlk hw hm dX11_pour_73
def k_X11_pour_30 (v0 : Nat) (σ : ST) : Option (Int32 × ST) :=
  (f_X11_refused v0 1 σ).bind fun u3 =>
  (ckZ u3.1).bind fun z => some (z, u3.2)
set_option maxRecDepth 20000 in
set_option maxHeartbeats 1000000 in
theorem w_X11_pour_30 {p : Program} {l : Launch} {e : Env} {s : State} {m : MethodId} {args : Array Value} {below : List Frame} {meth : Method} {c : Code} {D : va_G} {cy : Nat → ClassId} {b : Nat} (E : CX p m c cX11_pour 8 s args RX11 D cy LC) (hr : meth.sig.returnType = some .boolean) (hlk : meth.locks = false) {r : Int32 × ST} {v0 : Nat} {σ : ST} {H : Heap} {locs : List Loc} {ls : Array Slot} (hm : k_X11_pour_30 v0 σ = some r) (hv0 : LC.1 v0 = 11) (hw : PH D cy LC b σ s H locs) (hl : lv_has ls 8 [(0, .ref (b + v0))]) : W p l e (rmD 1) s m args below meth c H locs 0 0 (MQ below (QcP D cy LC b (some (.int r.1)) r.2) args s 0 0 (inP LC b)) (F0 m 30 ls []) := by
  have hx := E.1.1
  have hb := E.1.2.1
  unfold k_X11_pour_30 at hm
  refine lv_aload_n hx hb dX11_pour_30 rfl (lv_at hl 0 rfl) ?_
  refine lv_iconst (v := 1) hx hb dX11_pour_31 (by decide) ?_
  refine q_cVi (κ := 11) (C := RX11) (T := TX11) (N := 20) [] E hw hm mw_X11_123 (fun u hu => c_X11_refused hu hv0) rfl (by decide) hv0 rfl rfl hl.1 (Nat.le_of_ble_eq_true rfl) ⟨Nat.le_of_ble_eq_true rfl, Nat.le_of_ble_eq_true rfl⟩ dX11_pour_32 (fun u3 H locs hm hw => ?_)
  exact q_zret E hr hlk hw hm dX11_pour_35
def f_X11_pour (v0 : Nat) (v1 : Int32) (v2 : Int32) (v3 : Int32) (v4 : Int32) (v5 : Int32) (σ : ST) : Option (Int32 × ST) :=
  (f_X11_isTray v0 v1 σ).bind fun u4 =>
  if u4.1 = 0 then (k_X11_pour_30 v0 u4.2) else ((f_X11_isTray v0 v3 u4.2).bind fun u6 =>
  if u6.1 = 0 then (k_X11_pour_30 v0 u6.2) else (if v2 < 0 then (k_X11_pour_30 v0 u6.2) else (if v4 < 0 then (k_X11_pour_30 v0 u6.2) else (if 0 ≤ v5 then ((ldR LC 9 (LC.2.1 v0 0) v1).bind fun x11 =>
  (ldR LC 9 (LC.2.1 v0 0) v3).bind fun x12 =>
  if (gI u6.2 x11 1) = 0 then (k_X11_pour_68 v0 u6.2) else (if (gI u6.2 x12 1) = 0 then (k_X11_pour_68 v0 u6.2) else (if (gI u6.2 x11 2) = (gI u6.2 x12 2) then (if ((gI u6.2 x11 3) - v2) < v5 then (k_X11_pour_119 v0 u6.2) else (if v5 ≤ ((gI u6.2 x12 3) - v4) then ((cpB LC u6.2 (LC.2.1 x11 0) v2 (LC.2.1 x12 0) v4 v5).bind fun σ18 =>
  (f_X11_allowed v0 σ18).bind fun u19 =>
  (ckZ u19.1).bind fun z => some (z, u19.2)) else (k_X11_pour_119 v0 u6.2))) else ((f_X11_refused v0 8 u6.2).bind fun u20 =>
  (ckZ u20.1).bind fun z => some (z, u20.2))))) else (k_X11_pour_30 v0 u6.2)))))
set_option maxRecDepth 20000 in
set_option maxHeartbeats 1000000 in
theorem w_X11_pour_0 {p : Program} {l : Launch} {e : Env} {s : State} {m : MethodId} {args : Array Value} {below : List Frame} {meth : Method} {c : Code} {D : va_G} {cy : Nat → ClassId} {b : Nat} (E : CX p m c cX11_pour 8 s args RX11 D cy LC) (hr : meth.sig.returnType = some .boolean) (hlk : meth.locks = false) {r : Int32 × ST} {v0 : Nat} {v1 : Int32} {v2 : Int32} {v3 : Int32} {v4 : Int32} {v5 : Int32} {σ : ST} {H : Heap} {locs : List Loc} {ls : Array Slot} (hm : f_X11_pour v0 v1 v2 v3 v4 v5 σ = some r) (hv0 : LC.1 v0 = 11) (hw : PH D cy LC b σ s H locs) (hl : lv_has ls 8 [(0, .ref (b + v0)), (1, .int v1), (2, .int v2), (3, .int v3), (4, .int v4), (5, .int v5)]) : W p l e (rmD 1) s m args below meth c H locs 0 0 (MQ below (QcP D cy LC b (some (.int r.1)) r.2) args s 0 0 (inP LC b)) (F0 m 0 ls []) := by
  have hx := E.1.1
  have hb := E.1.2.1
  unfold f_X11_pour at hm
  refine lv_aload_n hx hb dX11_pour_0 rfl (lv_at hl 0 rfl) ?_
  refine lv_iload_n hx hb dX11_pour_1 rfl (lv_at hl 1 rfl) ?_
  refine q_cVi (κ := 11) (C := RX11) (T := TX11) (N := 20) [] E hw hm mw_X11_119 (fun u hu => c_X11_isTray hu hv0) rfl (by decide) hv0 rfl rfl hl.1 (Nat.le_of_ble_eq_true rfl) ⟨Nat.le_of_ble_eq_true rfl, Nat.le_of_ble_eq_true rfl⟩ dX11_pour_2 (fun u4 H locs hm hw => ?_)
  refine lv_if_eq (tgt := 30) hx hb dX11_pour_5 (by decide) (fun c5 => ?_) (fun c5 => ?_)
  · have hm := o_t c5 hm
    exact w_X11_pour_30 E hr hlk hm hv0 hw (lv_sub hl [0] rfl)
  · have hm := o_f c5 hm
    refine lv_aload_n hx hb dX11_pour_8 rfl (lv_at hl 0 rfl) ?_
    refine lv_iload_n hx hb dX11_pour_9 rfl (lv_at hl 3 rfl) ?_
    refine q_cVi (κ := 11) (C := RX11) (T := TX11) (N := 20) [] E hw hm mw_X11_119 (fun u hu => c_X11_isTray hu hv0) rfl (by decide) hv0 rfl rfl hl.1 (Nat.le_of_ble_eq_true rfl) ⟨Nat.le_of_ble_eq_true rfl, Nat.le_of_ble_eq_true rfl⟩ dX11_pour_10 (fun u6 H locs hm hw => ?_)
    refine lv_if_eq (tgt := 30) hx hb dX11_pour_13 (by decide) (fun c7 => ?_) (fun c7 => ?_)
    · have hm := o_t c7 hm
      exact w_X11_pour_30 E hr hlk hm hv0 hw (lv_sub hl [0] rfl)
    · have hm := o_f c7 hm
      refine lv_iload_n hx hb dX11_pour_16 rfl (lv_at hl 2 rfl) ?_
      refine lv_if_lt (tgt := 30) hx hb dX11_pour_17 (by decide) (fun c8 => ?_) (fun c8 => ?_)
      · have hm := o_t c8 hm
        exact w_X11_pour_30 E hr hlk hm hv0 hw (lv_sub hl [0] rfl)
      · have hm := o_f c8 hm
        refine lv_iload hx hb dX11_pour_20 (lv_at hl 4 rfl) ?_
        refine lv_if_lt (tgt := 30) hx hb dX11_pour_22 (by decide) (fun c9 => ?_) (fun c9 => ?_)
        · have hm := o_t c9 hm
          exact w_X11_pour_30 E hr hlk hm hv0 hw (lv_sub hl [0] rfl)
        · have hm := o_f c9 hm
          refine lv_iload hx hb dX11_pour_25 (lv_at hl 5 rfl) ?_
          refine lv_if_ge (tgt := 36) hx hb dX11_pour_27 (by decide) (fun c10 => ?_) (fun c10 => ?_)
          · have hm := o_t c10 hm
            refine lv_aload_n hx hb dX11_pour_36 rfl (lv_at hl 0 rfl) ?_
            refine q_geta E hw fw_X11_11 rfl hv0 dX11_pour_37 ?_
            refine lv_iload_n hx hb dX11_pour_40 rfl (lv_at hl 1 rfl) ?_
            refine q_aald9 E hw (tC_11_0 hv0) hm dX11_pour_41 (fun x11 hx11 hm => ?_)
            refine lv_astore (lv' := [(6, .ref (b + x11)), (0, .ref (b + v0)), (1, .int v1), (2, .int v2), (3, .int v3), (4, .int v4), (5, .int v5)]) hx hb dX11_pour_42 hl (by decide) rfl (fun ls hl => ?_)
            refine lv_aload_n hx hb dX11_pour_44 rfl (lv_at hl 1 rfl) ?_
            refine q_geta E hw fw_X11_11 rfl hv0 dX11_pour_45 ?_
            refine lv_iload_n hx hb dX11_pour_48 rfl (lv_at hl 4 rfl) ?_
            refine q_aald9 E hw (tC_11_0 hv0) hm dX11_pour_49 (fun x12 hx12 hm => ?_)
            refine lv_astore (lv' := [(7, .ref (b + x12)), (6, .ref (b + x11)), (0, .ref (b + v0)), (1, .int v1), (2, .int v2), (3, .int v3), (4, .int v4), (5, .int v5)]) hx hb dX11_pour_50 hl (by decide) rfl (fun ls hl => ?_)
            refine lv_aload hx hb dX11_pour_52 (lv_at hl 1 rfl) ?_
            refine q_geti E hw fw_X11_150 rfl hx11 dX11_pour_54 ?_
            refine lv_if_eq (tgt := 68) hx hb dX11_pour_57 (by decide) (fun c13 => ?_) (fun c13 => ?_)
            · have hm := o_t c13 hm
              exact w_X11_pour_68 E hr hlk hm hv0 hw (lv_sub hl [2] rfl)
            · have hm := o_f c13 hm
              refine lv_aload hx hb dX11_pour_60 (lv_at hl 0 rfl) ?_
              refine q_geti E hw fw_X11_150 rfl hx12 dX11_pour_62 ?_
              refine lv_if_ne (tgt := 74) hx hb dX11_pour_65 (by decide) (fun c14 => ?_) (fun c14 => ?_)
              · have hm := o_f c14 hm
                refine lv_aload hx hb dX11_pour_74 (lv_at hl 1 rfl) ?_
                refine q_geti E hw fw_X11_154 rfl hx11 dX11_pour_76 ?_
                refine lv_aload hx hb dX11_pour_79 (lv_at hl 0 rfl) ?_
                refine q_geti E hw fw_X11_154 rfl hx12 dX11_pour_81 ?_
                refine lv_icmp_eq (tgt := 94) hx hb dX11_pour_84 (by decide) (fun c15 => ?_) (fun c15 => ?_)
                · have hm := o_t c15 hm
                  refine lv_iload hx hb dX11_pour_94 (lv_at hl 7 rfl) ?_
                  refine lv_aload hx hb dX11_pour_96 (lv_at hl 1 rfl) ?_
                  refine q_geti E hw fw_X11_157 rfl hx11 dX11_pour_98 ?_
                  refine lv_iload_n hx hb dX11_pour_101 rfl (lv_at hl 4 rfl) ?_
                  refine lv_isub hx hb dX11_pour_102 ?_
                  refine lv_icmp_gt (tgt := 119) hx hb dX11_pour_103 (by decide) (fun c16 => ?_) (fun c16 => ?_)
                  · have hm := o_t c16 hm
                    exact w_X11_pour_119 E hr hlk hm hv0 hw (lv_sub hl [2] rfl)
                  · have hm := o_f c16 hm
                    refine lv_iload hx hb dX11_pour_106 (lv_at hl 7 rfl) ?_
                    refine lv_aload hx hb dX11_pour_108 (lv_at hl 0 rfl) ?_
                    refine q_geti E hw fw_X11_157 rfl hx12 dX11_pour_110 ?_
                    refine lv_iload hx hb dX11_pour_113 (lv_at hl 6 rfl) ?_
                    refine lv_isub hx hb dX11_pour_115 ?_
                    refine lv_icmp_le (tgt := 125) hx hb dX11_pour_116 (by decide) (fun c17 => ?_) (fun c17 => ?_)
                    · have hm := o_t c17 hm
                      refine lv_aload hx hb dX11_pour_125 (lv_at hl 1 rfl) ?_
                      refine q_geta E hw fw_X11_146 rfl hx11 dX11_pour_127 ?_
                      refine lv_iload_n hx hb dX11_pour_130 rfl (lv_at hl 4 rfl) ?_
                      refine lv_aload hx hb dX11_pour_131 (lv_at hl 0 rfl) ?_
                      refine q_geta E hw fw_X11_146 rfl hx12 dX11_pour_133 ?_
                      refine lv_iload hx hb dX11_pour_136 (lv_at hl 6 rfl) ?_
                      refine lv_iload hx hb dX11_pour_138 (lv_at hl 7 rfl) ?_
                      refine q_cpl E hw hm (rL14 _ (List.mem_of_getElem? (i := 20) rfl)) w_arraycopy hl.1 (tC_9_0 hx11) (tC_9_0 hx12) (by decide) (by decide) dX11_pour_140 (fun σ18 H locs hm hw => ?_)
                      refine lv_aload_n hx hb dX11_pour_143 rfl (lv_at hl 2 rfl) ?_
                      refine q_cVi (κ := 11) (C := RX11) (T := TX11) (N := 20) [] E hw hm mw_X11_130 (fun u hu => c_X11_allowed hu hv0) rfl (by decide) hv0 rfl rfl hl.1 (Nat.le_of_ble_eq_true rfl) ⟨Nat.le_of_ble_eq_true rfl, Nat.le_of_ble_eq_true rfl⟩ dX11_pour_144 (fun u19 H locs hm hw => ?_)
                      exact q_zret E hr hlk hw hm dX11_pour_147
                    · have hm := o_f c17 hm
                      exact w_X11_pour_119 E hr hlk hm hv0 hw (lv_sub hl [2] rfl)
                · have hm := o_f c15 hm
                  refine lv_aload_n hx hb dX11_pour_87 rfl (lv_at hl 2 rfl) ?_
                  refine lv_bipush (v := 8) hx hb dX11_pour_88 (by decide) ?_
                  refine q_cVi (κ := 11) (C := RX11) (T := TX11) (N := 20) [] E hw hm mw_X11_123 (fun u hu => c_X11_refused hu hv0) rfl (by decide) hv0 rfl rfl hl.1 (Nat.le_of_ble_eq_true rfl) ⟨Nat.le_of_ble_eq_true rfl, Nat.le_of_ble_eq_true rfl⟩ dX11_pour_90 (fun u20 H locs hm hw => ?_)
                  exact q_zret E hr hlk hw hm dX11_pour_93
              · have hm := o_t c14 hm
                exact w_X11_pour_68 E hr hlk hm hv0 hw (lv_sub hl [2] rfl)
          · have hm := o_f c10 hm
            exact w_X11_pour_30 E hr hlk hm hv0 hw (lv_sub hl [0] rfl)
theorem c_X11_pour {l : Launch} {D : va_G} {cy : Nat → ClassId} {b : Nat} {v0 : Nat} {v1 : Int32} {v2 : Int32} {v3 : Int32} {v4 : Int32} {v5 : Int32} {σ : ST} {r : Int32 × ST} (hm : f_X11_pour v0 v1 v2 v3 v4 v5 σ = some r) (hv0 : LC.1 v0 = 11) : Met l yX11_pour (wU yX11_pour cX11_pour 8 (some .boolean)) (rmD 1) (PcP D cy LC b [.ref (b + v0), .int v1, .int v2, .int v3, .int v4, .int v5] σ) (QcP D cy LC b (some (.int r.1)) r.2) 0 0 (inP LC b) :=
  q_met (lv := [(0, .ref (b + v0)), (1, .int v1), (2, .int v2), (3, .int v3), (4, .int v4), (5, .int v5)]) LC_ok (by decide) (Nat.le_of_ble_eq_true rfl) rfl (fun _ _ _ _ _ _ _ _ _ E hr hlk hw hl => w_X11_pour_0 E hr hlk hm hv0 hw hl)

def f_X11_feed (v0 : Nat) (v1 : Int32) (v2 : Int32) (v3 : Int32) (v4 : Int32) (v5 : Int32) (σ : ST) : Option (Int32 × ST) :=
  if (gI σ (LC.2.1 v0 1) 1) ≤ 880 then ((f_X6_take (LC.2.1 v0 1) v1 σ).bind fun u2 =>
  (f_X6_take (LC.2.1 v0 1) v2 u2).bind fun u3 =>
  (f_X6_take (LC.2.1 v0 1) v3 u3).bind fun u4 =>
  (f_X6_take (LC.2.1 v0 1) v4 u4).bind fun u5 =>
  (f_X6_take (LC.2.1 v0 1) v5 u5).bind fun u6 =>
  some (gI u6 (LC.2.1 v0 1) 1, u6)) else (some ((-1), σ))
set_option maxRecDepth 20000 in
set_option maxHeartbeats 1000000 in
theorem w_X11_feed_0 {p : Program} {l : Launch} {e : Env} {s : State} {m : MethodId} {args : Array Value} {below : List Frame} {meth : Method} {c : Code} {D : va_G} {cy : Nat → ClassId} {b : Nat} (E : CX p m c cX11_feed 6 s args RX11 D cy LC) (hr : meth.sig.returnType = some .int) (hlk : meth.locks = false) {r : Int32 × ST} {v0 : Nat} {v1 : Int32} {v2 : Int32} {v3 : Int32} {v4 : Int32} {v5 : Int32} {σ : ST} {H : Heap} {locs : List Loc} {ls : Array Slot} (hm : f_X11_feed v0 v1 v2 v3 v4 v5 σ = some r) (hv0 : LC.1 v0 = 11) (hw : PH D cy LC b σ s H locs) (hl : lv_has ls 6 [(0, .ref (b + v0)), (1, .int v1), (2, .int v2), (3, .int v3), (4, .int v4), (5, .int v5)]) : W p l e (rmD 1) s m args below meth c H locs 0 0 (MQ below (QcP D cy LC b (some (.int r.1)) r.2) args s 0 0 (inP LC b)) (F0 m 0 ls []) := by
  have hx := E.1.1
  have hb := E.1.2.1
  unfold f_X11_feed at hm
  refine lv_aload_n hx hb dX11_feed_0 rfl (lv_at hl 0 rfl) ?_
  refine q_geta E hw fw_X11_18 rfl hv0 dX11_feed_1 ?_
  refine q_geti E hw fw_X11_166 rfl (tC_11_1 hv0) dX11_feed_4 ?_
  refine lv_sipush (v := 880) hx hb dX11_feed_7 (by decide) ?_
  refine lv_icmp_le (tgt := 15) hx hb dX11_feed_10 (by decide) (fun c1 => ?_) (fun c1 => ?_)
  · have hm := o_t c1 hm
    refine lv_aload_n hx hb dX11_feed_15 rfl (lv_at hl 0 rfl) ?_
    refine q_geta E hw fw_X11_18 rfl hv0 dX11_feed_16 ?_
    refine lv_iload_n hx hb dX11_feed_19 rfl (lv_at hl 1 rfl) ?_
    refine q_cVv (κ := 6) (C := RX6) (T := TX6) (N := 12) [] E hw hm mw_X11_169 (fun u hu => c_X6_take hu (tC_11_1 hv0)) rfl (by decide) (tC_11_1 hv0) rfl rfl hl.1 (Nat.le_of_ble_eq_true rfl) ⟨Nat.le_of_ble_eq_true rfl, Nat.le_of_ble_eq_true rfl⟩ dX11_feed_20 (fun u2 H locs hm hw => ?_)
    refine lv_aload_n hx hb dX11_feed_23 rfl (lv_at hl 0 rfl) ?_
    refine q_geta E hw fw_X11_18 rfl hv0 dX11_feed_24 ?_
    refine lv_iload_n hx hb dX11_feed_27 rfl (lv_at hl 2 rfl) ?_
    refine q_cVv (κ := 6) (C := RX6) (T := TX6) (N := 12) [] E hw hm mw_X11_169 (fun u hu => c_X6_take hu (tC_11_1 hv0)) rfl (by decide) (tC_11_1 hv0) rfl rfl hl.1 (Nat.le_of_ble_eq_true rfl) ⟨Nat.le_of_ble_eq_true rfl, Nat.le_of_ble_eq_true rfl⟩ dX11_feed_28 (fun u3 H locs hm hw => ?_)
    refine lv_aload_n hx hb dX11_feed_31 rfl (lv_at hl 0 rfl) ?_
    refine q_geta E hw fw_X11_18 rfl hv0 dX11_feed_32 ?_
    refine lv_iload_n hx hb dX11_feed_35 rfl (lv_at hl 3 rfl) ?_
    refine q_cVv (κ := 6) (C := RX6) (T := TX6) (N := 12) [] E hw hm mw_X11_169 (fun u hu => c_X6_take hu (tC_11_1 hv0)) rfl (by decide) (tC_11_1 hv0) rfl rfl hl.1 (Nat.le_of_ble_eq_true rfl) ⟨Nat.le_of_ble_eq_true rfl, Nat.le_of_ble_eq_true rfl⟩ dX11_feed_36 (fun u4 H locs hm hw => ?_)
    refine lv_aload_n hx hb dX11_feed_39 rfl (lv_at hl 0 rfl) ?_
    refine q_geta E hw fw_X11_18 rfl hv0 dX11_feed_40 ?_
    refine lv_iload hx hb dX11_feed_43 (lv_at hl 4 rfl) ?_
    refine q_cVv (κ := 6) (C := RX6) (T := TX6) (N := 12) [] E hw hm mw_X11_169 (fun u hu => c_X6_take hu (tC_11_1 hv0)) rfl (by decide) (tC_11_1 hv0) rfl rfl hl.1 (Nat.le_of_ble_eq_true rfl) ⟨Nat.le_of_ble_eq_true rfl, Nat.le_of_ble_eq_true rfl⟩ dX11_feed_45 (fun u5 H locs hm hw => ?_)
    refine lv_aload_n hx hb dX11_feed_48 rfl (lv_at hl 0 rfl) ?_
    refine q_geta E hw fw_X11_18 rfl hv0 dX11_feed_49 ?_
    refine lv_iload hx hb dX11_feed_52 (lv_at hl 5 rfl) ?_
    refine q_cVv (κ := 6) (C := RX6) (T := TX6) (N := 12) [] E hw hm mw_X11_169 (fun u hu => c_X6_take hu (tC_11_1 hv0)) rfl (by decide) (tC_11_1 hv0) rfl rfl hl.1 (Nat.le_of_ble_eq_true rfl) ⟨Nat.le_of_ble_eq_true rfl, Nat.le_of_ble_eq_true rfl⟩ dX11_feed_54 (fun u6 H locs hm hw => ?_)
    refine lv_aload_n hx hb dX11_feed_57 rfl (lv_at hl 0 rfl) ?_
    refine q_geta E hw fw_X11_18 rfl hv0 dX11_feed_58 ?_
    refine q_geti E hw fw_X11_166 rfl (tC_11_1 hv0) dX11_feed_61 ?_
    exact q_iret E hr hlk hw hm dX11_feed_64
  · have hm := o_f c1 hm
    refine lv_iconst (v := (-1)) hx hb dX11_feed_13 (by decide) ?_
    exact q_iret E hr hlk hw hm dX11_feed_14
theorem c_X11_feed {l : Launch} {D : va_G} {cy : Nat → ClassId} {b : Nat} {v0 : Nat} {v1 : Int32} {v2 : Int32} {v3 : Int32} {v4 : Int32} {v5 : Int32} {σ : ST} {r : Int32 × ST} (hm : f_X11_feed v0 v1 v2 v3 v4 v5 σ = some r) (hv0 : LC.1 v0 = 11) : Met l yX11_feed (wU yX11_feed cX11_feed 6 (some .int)) (rmD 1) (PcP D cy LC b [.ref (b + v0), .int v1, .int v2, .int v3, .int v4, .int v5] σ) (QcP D cy LC b (some (.int r.1)) r.2) 0 0 (inP LC b) :=
  q_met (lv := [(0, .ref (b + v0)), (1, .int v1), (2, .int v2), (3, .int v3), (4, .int v4), (5, .int v5)]) LC_ok (by decide) (Nat.le_of_ble_eq_true rfl) rfl (fun _ _ _ _ _ _ _ _ _ E hr hlk hw hl => w_X11_feed_0 E hr hlk hm hv0 hw hl)

def f_X11_answer (v0 : Nat) (v1 : Int32) (σ : ST) : Option (Int32 × ST) :=
  (stI σ v0 14 0).bind fun σ1 =>
  some (v1, σ1)
set_option maxRecDepth 20000 in
set_option maxHeartbeats 1000000 in
theorem w_X11_answer_0 {p : Program} {l : Launch} {e : Env} {s : State} {m : MethodId} {args : Array Value} {below : List Frame} {meth : Method} {c : Code} {D : va_G} {cy : Nat → ClassId} {b : Nat} (E : CX p m c cX11_answer 2 s args RX11 D cy LC) (hr : meth.sig.returnType = some .int) (hlk : meth.locks = false) {r : Int32 × ST} {v0 : Nat} {v1 : Int32} {σ : ST} {H : Heap} {locs : List Loc} {ls : Array Slot} (hm : f_X11_answer v0 v1 σ = some r) (hv0 : LC.1 v0 = 11) (hw : PH D cy LC b σ s H locs) (hl : lv_has ls 2 [(0, .ref (b + v0)), (1, .int v1)]) : W p l e (rmD 0) s m args below meth c H locs 0 0 (MQ below (QcP D cy LC b (some (.int r.1)) r.2) args s 0 0 (inP LC b)) (F0 m 0 ls []) := by
  have hx := E.1.1
  have hb := E.1.2.1
  unfold f_X11_answer at hm
  refine lv_aload_n hx hb dX11_answer_0 rfl (lv_at hl 0 rfl) ?_
  refine lv_iconst (v := 0) hx hb dX11_answer_1 (by decide) ?_
  refine q_pi E hw hm fw_X11_98 rfl rfl hv0 dX11_answer_2 (fun σ1 H locs hm hw => ?_)
  refine lv_iload_n hx hb dX11_answer_5 rfl (lv_at hl 1 rfl) ?_
  exact q_iret E hr hlk hw hm dX11_answer_6
theorem c_X11_answer {l : Launch} {D : va_G} {cy : Nat → ClassId} {b : Nat} {v0 : Nat} {v1 : Int32} {σ : ST} {r : Int32 × ST} (hm : f_X11_answer v0 v1 σ = some r) (hv0 : LC.1 v0 = 11) : Met l yX11_answer (wU yX11_answer cX11_answer 2 (some .int)) (rmD 0) (PcP D cy LC b [.ref (b + v0), .int v1] σ) (QcP D cy LC b (some (.int r.1)) r.2) 0 0 (inP LC b) :=
  q_met (lv := [(0, .ref (b + v0)), (1, .int v1)]) LC_ok (by decide) (Nat.le_of_ble_eq_true rfl) rfl (fun _ _ _ _ _ _ _ _ _ E hr hlk hw hl => w_X11_answer_0 E hr hlk hm hv0 hw hl)

def k_X11_shelf_15 (v0 : Nat) (σ : ST) : Option (Int32 × ST) :=
  (f_X11_refuse v0 1 σ).bind fun u1 =>
  some (u1.1, u1.2)
set_option maxRecDepth 20000 in
set_option maxHeartbeats 1000000 in
theorem w_X11_shelf_15 {p : Program} {l : Launch} {e : Env} {s : State} {m : MethodId} {args : Array Value} {below : List Frame} {meth : Method} {c : Code} {D : va_G} {cy : Nat → ClassId} {b : Nat} (E : CX p m c cX11_shelf 2 s args RX11 D cy LC) (hr : meth.sig.returnType = some .int) (hlk : meth.locks = false) {r : Int32 × ST} {v0 : Nat} {σ : ST} {H : Heap} {locs : List Loc} {ls : Array Slot} (hm : k_X11_shelf_15 v0 σ = some r) (hv0 : LC.1 v0 = 11) (hw : PH D cy LC b σ s H locs) (hl : lv_has ls 2 [(0, .ref (b + v0))]) : W p l e (rmD 9) s m args below meth c H locs 0 0 (MQ below (QcP D cy LC b (some (.int r.1)) r.2) args s 0 0 (inP LC b)) (F0 m 15 ls []) := by
  have hx := E.1.1
  have hb := E.1.2.1
  unfold k_X11_shelf_15 at hm
  refine lv_aload_n hx hb dX11_shelf_15 rfl (lv_at hl 0 rfl) ?_
  refine lv_iconst (v := 1) hx hb dX11_shelf_16 (by decide) ?_
  refine q_cVi (κ := 11) (C := RX11) (T := TX11) (N := 20) [] E hw hm mw_X11_142 (fun u hu => c_X11_refuse hu hv0) rfl (by decide) hv0 rfl rfl hl.1 (Nat.le_of_ble_eq_true rfl) ⟨Nat.le_of_ble_eq_true rfl, Nat.le_of_ble_eq_true rfl⟩ dX11_shelf_17 (fun u1 H locs hm hw => ?_)
  exact q_iret E hr hlk hw hm dX11_shelf_20
def f_X11_shelf (v0 : Nat) (v1 : Int32) (σ : ST) : Option (Int32 × ST) :=
  if v1 < 0 then (k_X11_shelf_15 v0 σ) else (if v1 ≤ (gI σ (LC.2.1 v0 1) 1) then ((f_X6_open (LC.2.1 v0 1) v1 σ).bind fun u4 =>
  (f_X8_isTaken (LC.2.1 v0 3) u4).bind fun u5 =>
  if u5.1 = 0 then ((f_X11_refuse v0 9 u5.2).bind fun u9 =>
  some (u9.1, u9.2)) else ((f_X10_begin (LC.2.1 v0 2) (LC.2.1 (LC.2.1 v0 3) 0) u5.2).bind fun u7 =>
  (f_X11_answer v0 (gI u7 (LC.2.1 (LC.2.1 v0 2) 0) 7) u7).bind fun u8 =>
  some (u8.1, u8.2))) else (k_X11_shelf_15 v0 σ))
set_option maxRecDepth 20000 in
set_option maxHeartbeats 1000000 in
theorem w_X11_shelf_0 {p : Program} {l : Launch} {e : Env} {s : State} {m : MethodId} {args : Array Value} {below : List Frame} {meth : Method} {c : Code} {D : va_G} {cy : Nat → ClassId} {b : Nat} (E : CX p m c cX11_shelf 2 s args RX11 D cy LC) (hr : meth.sig.returnType = some .int) (hlk : meth.locks = false) {r : Int32 × ST} {v0 : Nat} {v1 : Int32} {σ : ST} {H : Heap} {locs : List Loc} {ls : Array Slot} (hm : f_X11_shelf v0 v1 σ = some r) (hv0 : LC.1 v0 = 11) (hw : PH D cy LC b σ s H locs) (hl : lv_has ls 2 [(0, .ref (b + v0)), (1, .int v1)]) : W p l e (rmD 9) s m args below meth c H locs 0 0 (MQ below (QcP D cy LC b (some (.int r.1)) r.2) args s 0 0 (inP LC b)) (F0 m 0 ls []) := by
  have hx := E.1.1
  have hb := E.1.2.1
  unfold f_X11_shelf at hm
  refine lv_iload_n hx hb dX11_shelf_0 rfl (lv_at hl 1 rfl) ?_
  refine lv_if_lt (tgt := 15) hx hb dX11_shelf_1 (by decide) (fun c2 => ?_) (fun c2 => ?_)
  · have hm := o_t c2 hm
    exact w_X11_shelf_15 E hr hlk hm hv0 hw (lv_sub hl [0] rfl)
  · have hm := o_f c2 hm
    refine lv_iload_n hx hb dX11_shelf_4 rfl (lv_at hl 1 rfl) ?_
    refine lv_aload_n hx hb dX11_shelf_5 rfl (lv_at hl 0 rfl) ?_
    refine q_geta E hw fw_X11_18 rfl hv0 dX11_shelf_6 ?_
    refine q_geti E hw fw_X11_166 rfl (tC_11_1 hv0) dX11_shelf_9 ?_
    refine lv_icmp_le (tgt := 21) hx hb dX11_shelf_12 (by decide) (fun c3 => ?_) (fun c3 => ?_)
    · have hm := o_t c3 hm
      refine lv_aload_n hx hb dX11_shelf_21 rfl (lv_at hl 0 rfl) ?_
      refine q_geta E hw fw_X11_18 rfl hv0 dX11_shelf_22 ?_
      refine lv_iload_n hx hb dX11_shelf_25 rfl (lv_at hl 1 rfl) ?_
      refine q_cVv (κ := 6) (C := RX6) (T := TX6) (N := 12) [] E hw hm mw_X11_172 (fun u hu => c_X6_open hu (tC_11_1 hv0)) rfl (by decide) (tC_11_1 hv0) rfl rfl hl.1 (Nat.le_of_ble_eq_true rfl) ⟨Nat.le_of_ble_eq_true rfl, Nat.le_of_ble_eq_true rfl⟩ dX11_shelf_26 (fun u4 H locs hm hw => ?_)
      refine lv_aload_n hx hb dX11_shelf_29 rfl (lv_at hl 0 rfl) ?_
      refine q_geta E hw fw_X11_34 rfl hv0 dX11_shelf_30 ?_
      refine q_cVi (κ := 8) (C := RX8) (T := TX8) (N := 3) [] E hw hm mw_X11_175 (fun u hu => c_X8_isTaken hu (tC_11_3 hv0)) rfl (by decide) (tC_11_3 hv0) rfl rfl hl.1 (Nat.le_of_ble_eq_true rfl) ⟨Nat.le_of_ble_eq_true rfl, Nat.le_of_ble_eq_true rfl⟩ dX11_shelf_33 (fun u5 H locs hm hw => ?_)
      refine lv_if_ne (tgt := 46) hx hb dX11_shelf_36 (by decide) (fun c6 => ?_) (fun c6 => ?_)
      · have hm := o_f c6 hm
        refine lv_aload_n hx hb dX11_shelf_46 rfl (lv_at hl 0 rfl) ?_
        refine q_geta E hw fw_X11_25 rfl hv0 dX11_shelf_47 ?_
        refine lv_aload_n hx hb dX11_shelf_50 rfl (lv_at hl 0 rfl) ?_
        refine q_geta E hw fw_X11_34 rfl hv0 dX11_shelf_51 ?_
        refine q_geta E hw fw_X11_178 rfl (tC_11_3 hv0) dX11_shelf_54 ?_
        refine q_cVv (κ := 10) (C := RX10) (T := TX10) (N := 12) [] E hw hm mw_X11_179 (fun u hu => c_X10_begin hu (tC_11_2 hv0) (tC_8_0 (tC_11_3 hv0))) rfl (by decide) (tC_11_2 hv0) rfl rfl hl.1 (Nat.le_of_ble_eq_true rfl) ⟨Nat.le_of_ble_eq_true rfl, Nat.le_of_ble_eq_true rfl⟩ dX11_shelf_57 (fun u7 H locs hm hw => ?_)
        refine lv_aload_n hx hb dX11_shelf_60 rfl (lv_at hl 0 rfl) ?_
        refine lv_aload_n hx hb dX11_shelf_61 rfl (lv_at hl 0 rfl) ?_
        refine q_geta E hw fw_X11_25 rfl hv0 dX11_shelf_62 ?_
        refine q_geta E hw fw_X11_40 rfl (tC_11_2 hv0) dX11_shelf_65 ?_
        refine q_geti E hw fw_X11_182 rfl (tC_10_0 (tC_11_2 hv0)) dX11_shelf_68 ?_
        refine q_cVi (κ := 11) (C := RX11) (T := TX11) (N := 20) [] E hw hm mw_X11_187 (fun u hu => c_X11_answer hu hv0) rfl (by decide) hv0 rfl rfl hl.1 (Nat.le_of_ble_eq_true rfl) ⟨Nat.le_of_ble_eq_true rfl, Nat.le_of_ble_eq_true rfl⟩ dX11_shelf_71 (fun u8 H locs hm hw => ?_)
        exact q_iret E hr hlk hw hm dX11_shelf_74
      · have hm := o_t c6 hm
        refine lv_aload_n hx hb dX11_shelf_39 rfl (lv_at hl 0 rfl) ?_
        refine lv_bipush (v := 9) hx hb dX11_shelf_40 (by decide) ?_
        refine q_cVi (κ := 11) (C := RX11) (T := TX11) (N := 20) [] E hw hm mw_X11_142 (fun u hu => c_X11_refuse hu hv0) rfl (by decide) hv0 rfl rfl hl.1 (Nat.le_of_ble_eq_true rfl) ⟨Nat.le_of_ble_eq_true rfl, Nat.le_of_ble_eq_true rfl⟩ dX11_shelf_42 (fun u9 H locs hm hw => ?_)
        exact q_iret E hr hlk hw hm dX11_shelf_45
    · have hm := o_f c3 hm
      exact w_X11_shelf_15 E hr hlk hm hv0 hw (lv_sub hl [0] rfl)
theorem c_X11_shelf {l : Launch} {D : va_G} {cy : Nat → ClassId} {b : Nat} {v0 : Nat} {v1 : Int32} {σ : ST} {r : Int32 × ST} (hm : f_X11_shelf v0 v1 σ = some r) (hv0 : LC.1 v0 = 11) : Met l yX11_shelf (wU yX11_shelf cX11_shelf 2 (some .int)) (rmD 9) (PcP D cy LC b [.ref (b + v0), .int v1] σ) (QcP D cy LC b (some (.int r.1)) r.2) 0 0 (inP LC b) :=
  q_met (lv := [(0, .ref (b + v0)), (1, .int v1)]) LC_ok (by decide) (Nat.le_of_ble_eq_true rfl) rfl (fun _ _ _ _ _ _ _ _ _ E hr hlk hw hl => w_X11_shelf_0 E hr hlk hm hv0 hw hl)

def k_X11_days_22 (v0 : Nat) (σ : ST) : Option (Int32 × ST) :=
  (f_X11_refuse v0 1 σ).bind fun u1 =>
  some (u1.1, u1.2)
set_option maxRecDepth 20000 in
set_option maxHeartbeats 1000000 in
theorem w_X11_days_22 {p : Program} {l : Launch} {e : Env} {s : State} {m : MethodId} {args : Array Value} {below : List Frame} {meth : Method} {c : Code} {D : va_G} {cy : Nat → ClassId} {b : Nat} (E : CX p m c cX11_days 2 s args RX11 D cy LC) (hr : meth.sig.returnType = some .int) (hlk : meth.locks = false) {r : Int32 × ST} {v0 : Nat} {σ : ST} {H : Heap} {locs : List Loc} {ls : Array Slot} (hm : k_X11_days_22 v0 σ = some r) (hv0 : LC.1 v0 = 11) (hw : PH D cy LC b σ s H locs) (hl : lv_has ls 2 [(0, .ref (b + v0))]) : W p l e (rmD 10) s m args below meth c H locs 0 0 (MQ below (QcP D cy LC b (some (.int r.1)) r.2) args s 0 0 (inP LC b)) (F0 m 22 ls []) := by
  have hx := E.1.1
  have hb := E.1.2.1
  unfold k_X11_days_22 at hm
  refine lv_aload_n hx hb dX11_days_22 rfl (lv_at hl 0 rfl) ?_
  refine lv_iconst (v := 1) hx hb dX11_days_23 (by decide) ?_
  refine q_cVi (κ := 11) (C := RX11) (T := TX11) (N := 20) [] E hw hm mw_X11_142 (fun u hu => c_X11_refuse hu hv0) rfl (by decide) hv0 rfl rfl hl.1 (Nat.le_of_ble_eq_true rfl) ⟨Nat.le_of_ble_eq_true rfl, Nat.le_of_ble_eq_true rfl⟩ dX11_days_24 (fun u1 H locs hm hw => ?_)
  exact q_iret E hr hlk hw hm dX11_days_27
def f_X11_days (v0 : Nat) (v1 : Int32) (σ : ST) : Option (Int32 × ST) :=
  if v1 < 0 then (k_X11_days_22 v0 σ) else (if (gI σ (LC.2.1 v0 1) 1) < v1 then (k_X11_days_22 v0 σ) else (if v1 ≤ 300 then ((f_X6_open (LC.2.1 v0 1) v1 σ).bind fun u5 =>
  (f_X3_isTaken (LC.2.1 v0 4) u5).bind fun u6 =>
  if u6.1 = 0 then ((f_X11_refuse v0 9 u6.2).bind fun u10 =>
  some (u10.1, u10.2)) else ((f_X2_copy (LC.2.1 (LC.2.1 v0 2) 1) (LC.2.1 (LC.2.1 v0 4) 0) u6.2).bind fun u8 =>
  (f_X11_answer v0 (gI u8 (LC.2.1 (LC.2.1 v0 2) 1) 8) u8).bind fun u9 =>
  some (u9.1, u9.2))) else (k_X11_days_22 v0 σ)))
set_option maxRecDepth 20000 in
set_option maxHeartbeats 1000000 in
theorem w_X11_days_0 {p : Program} {l : Launch} {e : Env} {s : State} {m : MethodId} {args : Array Value} {below : List Frame} {meth : Method} {c : Code} {D : va_G} {cy : Nat → ClassId} {b : Nat} (E : CX p m c cX11_days 2 s args RX11 D cy LC) (hr : meth.sig.returnType = some .int) (hlk : meth.locks = false) {r : Int32 × ST} {v0 : Nat} {v1 : Int32} {σ : ST} {H : Heap} {locs : List Loc} {ls : Array Slot} (hm : f_X11_days v0 v1 σ = some r) (hv0 : LC.1 v0 = 11) (hw : PH D cy LC b σ s H locs) (hl : lv_has ls 2 [(0, .ref (b + v0)), (1, .int v1)]) : W p l e (rmD 10) s m args below meth c H locs 0 0 (MQ below (QcP D cy LC b (some (.int r.1)) r.2) args s 0 0 (inP LC b)) (F0 m 0 ls []) := by
  have hx := E.1.1
  have hb := E.1.2.1
  unfold f_X11_days at hm
  refine lv_iload_n hx hb dX11_days_0 rfl (lv_at hl 1 rfl) ?_
  refine lv_if_lt (tgt := 22) hx hb dX11_days_1 (by decide) (fun c2 => ?_) (fun c2 => ?_)
  · have hm := o_t c2 hm
    exact w_X11_days_22 E hr hlk hm hv0 hw (lv_sub hl [0] rfl)
  · have hm := o_f c2 hm
    refine lv_iload_n hx hb dX11_days_4 rfl (lv_at hl 1 rfl) ?_
    refine lv_aload_n hx hb dX11_days_5 rfl (lv_at hl 0 rfl) ?_
    refine q_geta E hw fw_X11_18 rfl hv0 dX11_days_6 ?_
    refine q_geti E hw fw_X11_166 rfl (tC_11_1 hv0) dX11_days_9 ?_
    refine lv_icmp_gt (tgt := 22) hx hb dX11_days_12 (by decide) (fun c3 => ?_) (fun c3 => ?_)
    · have hm := o_t c3 hm
      exact w_X11_days_22 E hr hlk hm hv0 hw (lv_sub hl [0] rfl)
    · have hm := o_f c3 hm
      refine lv_iload_n hx hb dX11_days_15 rfl (lv_at hl 1 rfl) ?_
      refine lv_sipush (v := 300) hx hb dX11_days_16 (by decide) ?_
      refine lv_icmp_le (tgt := 28) hx hb dX11_days_19 (by decide) (fun c4 => ?_) (fun c4 => ?_)
      · have hm := o_t c4 hm
        refine lv_aload_n hx hb dX11_days_28 rfl (lv_at hl 0 rfl) ?_
        refine q_geta E hw fw_X11_18 rfl hv0 dX11_days_29 ?_
        refine lv_iload_n hx hb dX11_days_32 rfl (lv_at hl 1 rfl) ?_
        refine q_cVv (κ := 6) (C := RX6) (T := TX6) (N := 12) [] E hw hm mw_X11_172 (fun u hu => c_X6_open hu (tC_11_1 hv0)) rfl (by decide) (tC_11_1 hv0) rfl rfl hl.1 (Nat.le_of_ble_eq_true rfl) ⟨Nat.le_of_ble_eq_true rfl, Nat.le_of_ble_eq_true rfl⟩ dX11_days_33 (fun u5 H locs hm hw => ?_)
        refine lv_aload_n hx hb dX11_days_36 rfl (lv_at hl 0 rfl) ?_
        refine q_geta E hw fw_X11_47 rfl hv0 dX11_days_37 ?_
        refine q_cVi (κ := 3) (C := RX3) (T := TX3) (N := 5) [] E hw hm mw_X11_190 (fun u hu => c_X3_isTaken hu (tC_11_4 hv0)) rfl (by decide) (tC_11_4 hv0) rfl rfl hl.1 (Nat.le_of_ble_eq_true rfl) ⟨Nat.le_of_ble_eq_true rfl, Nat.le_of_ble_eq_true rfl⟩ dX11_days_40 (fun u6 H locs hm hw => ?_)
        refine lv_if_ne (tgt := 53) hx hb dX11_days_43 (by decide) (fun c7 => ?_) (fun c7 => ?_)
        · have hm := o_f c7 hm
          refine lv_aload_n hx hb dX11_days_53 rfl (lv_at hl 0 rfl) ?_
          refine q_geta E hw fw_X11_25 rfl hv0 dX11_days_54 ?_
          refine q_geta E hw fw_X11_191 rfl (tC_11_2 hv0) dX11_days_57 ?_
          refine lv_aload_n hx hb dX11_days_60 rfl (lv_at hl 0 rfl) ?_
          refine q_geta E hw fw_X11_47 rfl hv0 dX11_days_61 ?_
          refine q_geta E hw fw_X11_195 rfl (tC_11_4 hv0) dX11_days_64 ?_
          refine q_cVv (κ := 2) (C := RX2) (T := TX2) (N := 9) [] E hw hm mw_X11_196 (fun u hu => c_X2_copy hu (tC_10_1 (tC_11_2 hv0)) (tC_3_0 (tC_11_4 hv0))) rfl (by decide) (tC_10_1 (tC_11_2 hv0)) rfl rfl hl.1 (Nat.le_of_ble_eq_true rfl) ⟨Nat.le_of_ble_eq_true rfl, Nat.le_of_ble_eq_true rfl⟩ dX11_days_67 (fun u8 H locs hm hw => ?_)
          refine lv_aload_n hx hb dX11_days_70 rfl (lv_at hl 0 rfl) ?_
          refine lv_aload_n hx hb dX11_days_71 rfl (lv_at hl 0 rfl) ?_
          refine q_geta E hw fw_X11_25 rfl hv0 dX11_days_72 ?_
          refine q_geta E hw fw_X11_191 rfl (tC_11_2 hv0) dX11_days_75 ?_
          refine q_geti E hw fw_X11_202 rfl (tC_10_1 (tC_11_2 hv0)) dX11_days_78 ?_
          refine q_cVi (κ := 11) (C := RX11) (T := TX11) (N := 20) [] E hw hm mw_X11_187 (fun u hu => c_X11_answer hu hv0) rfl (by decide) hv0 rfl rfl hl.1 (Nat.le_of_ble_eq_true rfl) ⟨Nat.le_of_ble_eq_true rfl, Nat.le_of_ble_eq_true rfl⟩ dX11_days_81 (fun u9 H locs hm hw => ?_)
          exact q_iret E hr hlk hw hm dX11_days_84
        · have hm := o_t c7 hm
          refine lv_aload_n hx hb dX11_days_46 rfl (lv_at hl 0 rfl) ?_
          refine lv_bipush (v := 9) hx hb dX11_days_47 (by decide) ?_
          refine q_cVi (κ := 11) (C := RX11) (T := TX11) (N := 20) [] E hw hm mw_X11_142 (fun u hu => c_X11_refuse hu hv0) rfl (by decide) hv0 rfl rfl hl.1 (Nat.le_of_ble_eq_true rfl) ⟨Nat.le_of_ble_eq_true rfl, Nat.le_of_ble_eq_true rfl⟩ dX11_days_49 (fun u10 H locs hm hw => ?_)
          exact q_iret E hr hlk hw hm dX11_days_52
      · have hm := o_f c4 hm
        exact w_X11_days_22 E hr hlk hm hv0 hw (lv_sub hl [0] rfl)
theorem c_X11_days {l : Launch} {D : va_G} {cy : Nat → ClassId} {b : Nat} {v0 : Nat} {v1 : Int32} {σ : ST} {r : Int32 × ST} (hm : f_X11_days v0 v1 σ = some r) (hv0 : LC.1 v0 = 11) : Met l yX11_days (wU yX11_days cX11_days 2 (some .int)) (rmD 10) (PcP D cy LC b [.ref (b + v0), .int v1] σ) (QcP D cy LC b (some (.int r.1)) r.2) 0 0 (inP LC b) :=
  q_met (lv := [(0, .ref (b + v0)), (1, .int v1)]) LC_ok (by decide) (Nat.le_of_ble_eq_true rfl) rfl (fun _ _ _ _ _ _ _ _ _ E hr hlk hw hl => w_X11_days_0 E hr hlk hm hv0 hw hl)

def k_X11_fault_28 (s0 : Int32) (σ : ST) : Option (Int32 × ST) :=
  some (s0, σ)
set_option maxRecDepth 20000 in
set_option maxHeartbeats 1000000 in
theorem w_X11_fault_28 {p : Program} {l : Launch} {e : Env} {s : State} {m : MethodId} {args : Array Value} {below : List Frame} {meth : Method} {c : Code} {D : va_G} {cy : Nat → ClassId} {b : Nat} (E : CX p m c cX11_fault 2 s args RX11 D cy LC) (hr : meth.sig.returnType = some .int) (hlk : meth.locks = false) {r : Int32 × ST} {s0 : Int32} {σ : ST} {H : Heap} {locs : List Loc} {ls : Array Slot} (hm : k_X11_fault_28 s0 σ = some r) (hw : PH D cy LC b σ s H locs) (hl : lv_has ls 2 []) : W p l e (rmD 0) s m args below meth c H locs 0 0 (MQ below (QcP D cy LC b (some (.int r.1)) r.2) args s 0 0 (inP LC b)) (F0 m 28 ls [.int s0]) := by
  have hx := E.1.1
  have hb := E.1.2.1
  unfold k_X11_fault_28 at hm
  exact q_iret E hr hlk hw hm dX11_fault_28
def f_X11_fault (v0 : Nat) (v1 : Int32) (σ : ST) : Option (Int32 × ST) :=
  if v1 = 0 then (some (gI σ (LC.2.1 v0 1) 2, σ)) else (if v1 = 1 then (k_X11_fault_28 (gI σ (LC.2.1 v0 1) 3) σ) else (k_X11_fault_28 (-1) σ))
set_option maxRecDepth 20000 in
set_option maxHeartbeats 1000000 in
theorem w_X11_fault_0 {p : Program} {l : Launch} {e : Env} {s : State} {m : MethodId} {args : Array Value} {below : List Frame} {meth : Method} {c : Code} {D : va_G} {cy : Nat → ClassId} {b : Nat} (E : CX p m c cX11_fault 2 s args RX11 D cy LC) (hr : meth.sig.returnType = some .int) (hlk : meth.locks = false) {r : Int32 × ST} {v0 : Nat} {v1 : Int32} {σ : ST} {H : Heap} {locs : List Loc} {ls : Array Slot} (hm : f_X11_fault v0 v1 σ = some r) (hv0 : LC.1 v0 = 11) (hw : PH D cy LC b σ s H locs) (hl : lv_has ls 2 [(0, .ref (b + v0)), (1, .int v1)]) : W p l e (rmD 0) s m args below meth c H locs 0 0 (MQ below (QcP D cy LC b (some (.int r.1)) r.2) args s 0 0 (inP LC b)) (F0 m 0 ls []) := by
  have hx := E.1.1
  have hb := E.1.2.1
  unfold f_X11_fault at hm
  refine lv_iload_n hx hb dX11_fault_0 rfl (lv_at hl 1 rfl) ?_
  refine lv_if_ne (tgt := 12) hx hb dX11_fault_1 (by decide) (fun c1 => ?_) (fun c1 => ?_)
  · have hm := o_f c1 hm
    refine lv_iload_n hx hb dX11_fault_12 rfl (lv_at hl 1 rfl) ?_
    refine lv_iconst (v := 1) hx hb dX11_fault_13 (by decide) ?_
    refine lv_icmp_ne (tgt := 27) hx hb dX11_fault_14 (by decide) (fun c2 => ?_) (fun c2 => ?_)
    · have hm := o_f c2 hm
      refine lv_iconst (v := (-1)) hx hb dX11_fault_27 (by decide) ?_
      exact w_X11_fault_28 E hr hlk hm  hw (lv_sub hl [] rfl)
    · have hm := o_t c2 hm
      refine lv_aload_n hx hb dX11_fault_17 rfl (lv_at hl 0 rfl) ?_
      refine q_geta E hw fw_X11_18 rfl hv0 dX11_fault_18 ?_
      refine q_geti E hw fw_X11_208 rfl (tC_11_1 hv0) dX11_fault_21 ?_
      refine lv_goto (tgt := 28) hx hb dX11_fault_24 (by decide) ?_
      exact w_X11_fault_28 E hr hlk hm  hw (lv_sub hl [] rfl)
  · have hm := o_t c1 hm
    refine lv_aload_n hx hb dX11_fault_4 rfl (lv_at hl 0 rfl) ?_
    refine q_geta E hw fw_X11_18 rfl hv0 dX11_fault_5 ?_
    refine q_geti E hw fw_X11_205 rfl (tC_11_1 hv0) dX11_fault_8 ?_
    exact q_iret E hr hlk hw hm dX11_fault_11
theorem c_X11_fault {l : Launch} {D : va_G} {cy : Nat → ClassId} {b : Nat} {v0 : Nat} {v1 : Int32} {σ : ST} {r : Int32 × ST} (hm : f_X11_fault v0 v1 σ = some r) (hv0 : LC.1 v0 = 11) : Met l yX11_fault (wU yX11_fault cX11_fault 2 (some .int)) (rmD 0) (PcP D cy LC b [.ref (b + v0), .int v1] σ) (QcP D cy LC b (some (.int r.1)) r.2) 0 0 (inP LC b) :=
  q_met (lv := [(0, .ref (b + v0)), (1, .int v1)]) LC_ok (by decide) (Nat.le_of_ble_eq_true rfl) rfl (fun _ _ _ _ _ _ _ _ _ E hr hlk hw hl => w_X11_fault_0 E hr hlk hm hv0 hw hl)

def f_X11_told (v0 : Nat) (v1 : Int32) (σ : ST) : Option (Int32 × ST) :=
  if v1 = 0 then ((f_X11_answer v0 (gI σ (LC.2.1 (LC.2.1 v0 2) 0) 9) σ).bind fun u2 =>
  some (u2.1, u2.2)) else if v1 = 1 then ((f_X11_answer v0 (gI σ (LC.2.1 (LC.2.1 v0 2) 0) 10) σ).bind fun u4 =>
  some (u4.1, u4.2)) else if v1 = 2 then ((f_X11_answer v0 (gI σ (LC.2.1 (LC.2.1 v0 2) 0) 11) σ).bind fun u6 =>
  some (u6.1, u6.2)) else if v1 = 3 then ((f_X11_answer v0 (gI σ (LC.2.1 (LC.2.1 v0 2) 0) 6) σ).bind fun u8 =>
  some (u8.1, u8.2)) else if v1 = 4 then ((f_X11_answer v0 (gI σ (LC.2.1 (LC.2.1 v0 2) 0) 7) σ).bind fun u10 =>
  some (u10.1, u10.2)) else if v1 = 5 then ((f_X11_answer v0 (gI σ (LC.2.1 v0 2) 9) σ).bind fun u12 =>
  some (u12.1, u12.2)) else if v1 = 6 then ((f_X11_answer v0 (gI σ (LC.2.1 v0 2) 10) σ).bind fun u14 =>
  some (u14.1, u14.2)) else if v1 = 7 then ((f_X11_answer v0 (gI σ (LC.2.1 v0 2) 11) σ).bind fun u16 =>
  some (u16.1, u16.2)) else ((f_X11_refuse v0 1 σ).bind fun u17 =>
  some (u17.1, u17.2))
set_option maxRecDepth 20000 in
set_option maxHeartbeats 1000000 in
theorem w_X11_told_0 {p : Program} {l : Launch} {e : Env} {s : State} {m : MethodId} {args : Array Value} {below : List Frame} {meth : Method} {c : Code} {D : va_G} {cy : Nat → ClassId} {b : Nat} (E : CX p m c cX11_told 2 s args RX11 D cy LC) (hr : meth.sig.returnType = some .int) (hlk : meth.locks = false) {r : Int32 × ST} {v0 : Nat} {v1 : Int32} {σ : ST} {H : Heap} {locs : List Loc} {ls : Array Slot} (hm : f_X11_told v0 v1 σ = some r) (hv0 : LC.1 v0 = 11) (hw : PH D cy LC b σ s H locs) (hl : lv_has ls 2 [(0, .ref (b + v0)), (1, .int v1)]) : W p l e (rmD 1) s m args below meth c H locs 0 0 (MQ below (QcP D cy LC b (some (.int r.1)) r.2) args s 0 0 (inP LC b)) (F0 m 0 ls []) := by
  have hx := E.1.1
  have hb := E.1.2.1
  unfold f_X11_told at hm
  refine lv_iload_n hx hb dX11_told_0 rfl (lv_at hl 1 rfl) ?_
  by_cases c1 : v1 = 0
  · refine q_tsw E 0 48 c1 dX11_told_1 (by decide) (by decide) rfl (by decide) ?_
    have hm := o_t c1 hm
    refine lv_aload_n hx hb dX11_told_48 rfl (lv_at hl 0 rfl) ?_
    refine lv_aload_n hx hb dX11_told_49 rfl (lv_at hl 0 rfl) ?_
    refine q_geta E hw fw_X11_25 rfl hv0 dX11_told_50 ?_
    refine q_geta E hw fw_X11_40 rfl (tC_11_2 hv0) dX11_told_53 ?_
    refine q_geti E hw fw_X11_211 rfl (tC_10_0 (tC_11_2 hv0)) dX11_told_56 ?_
    refine q_cVi (κ := 11) (C := RX11) (T := TX11) (N := 20) [] E hw hm mw_X11_187 (fun u hu => c_X11_answer hu hv0) rfl (by decide) hv0 rfl rfl hl.1 (Nat.le_of_ble_eq_true rfl) ⟨Nat.le_of_ble_eq_true rfl, Nat.le_of_ble_eq_true rfl⟩ dX11_told_59 (fun u2 H locs hm hw => ?_)
    exact q_iret E hr hlk hw hm dX11_told_62
  have hm := o_f c1 hm
  by_cases c3 : v1 = 1
  · refine q_tsw E 1 63 c3 dX11_told_1 (by decide) (by decide) rfl (by decide) ?_
    have hm := o_t c3 hm
    refine lv_aload_n hx hb dX11_told_63 rfl (lv_at hl 0 rfl) ?_
    refine lv_aload_n hx hb dX11_told_64 rfl (lv_at hl 0 rfl) ?_
    refine q_geta E hw fw_X11_25 rfl hv0 dX11_told_65 ?_
    refine q_geta E hw fw_X11_40 rfl (tC_11_2 hv0) dX11_told_68 ?_
    refine q_geti E hw fw_X11_214 rfl (tC_10_0 (tC_11_2 hv0)) dX11_told_71 ?_
    refine q_cVi (κ := 11) (C := RX11) (T := TX11) (N := 20) [] E hw hm mw_X11_187 (fun u hu => c_X11_answer hu hv0) rfl (by decide) hv0 rfl rfl hl.1 (Nat.le_of_ble_eq_true rfl) ⟨Nat.le_of_ble_eq_true rfl, Nat.le_of_ble_eq_true rfl⟩ dX11_told_74 (fun u4 H locs hm hw => ?_)
    exact q_iret E hr hlk hw hm dX11_told_77
  have hm := o_f c3 hm
  by_cases c5 : v1 = 2
  · refine q_tsw E 2 78 c5 dX11_told_1 (by decide) (by decide) rfl (by decide) ?_
    have hm := o_t c5 hm
    refine lv_aload_n hx hb dX11_told_78 rfl (lv_at hl 0 rfl) ?_
    refine lv_aload_n hx hb dX11_told_79 rfl (lv_at hl 0 rfl) ?_
    refine q_geta E hw fw_X11_25 rfl hv0 dX11_told_80 ?_
    refine q_geta E hw fw_X11_40 rfl (tC_11_2 hv0) dX11_told_83 ?_
    refine q_geti E hw fw_X11_217 rfl (tC_10_0 (tC_11_2 hv0)) dX11_told_86 ?_
    refine q_cVi (κ := 11) (C := RX11) (T := TX11) (N := 20) [] E hw hm mw_X11_187 (fun u hu => c_X11_answer hu hv0) rfl (by decide) hv0 rfl rfl hl.1 (Nat.le_of_ble_eq_true rfl) ⟨Nat.le_of_ble_eq_true rfl, Nat.le_of_ble_eq_true rfl⟩ dX11_told_89 (fun u6 H locs hm hw => ?_)
    exact q_iret E hr hlk hw hm dX11_told_92
  have hm := o_f c5 hm
  by_cases c7 : v1 = 3
  · refine q_tsw E 3 93 c7 dX11_told_1 (by decide) (by decide) rfl (by decide) ?_
    have hm := o_t c7 hm
    refine lv_aload_n hx hb dX11_told_93 rfl (lv_at hl 0 rfl) ?_
    refine lv_aload_n hx hb dX11_told_94 rfl (lv_at hl 0 rfl) ?_
    refine q_geta E hw fw_X11_25 rfl hv0 dX11_told_95 ?_
    refine q_geta E hw fw_X11_40 rfl (tC_11_2 hv0) dX11_told_98 ?_
    refine q_geti E hw fw_X11_220 rfl (tC_10_0 (tC_11_2 hv0)) dX11_told_101 ?_
    refine q_cVi (κ := 11) (C := RX11) (T := TX11) (N := 20) [] E hw hm mw_X11_187 (fun u hu => c_X11_answer hu hv0) rfl (by decide) hv0 rfl rfl hl.1 (Nat.le_of_ble_eq_true rfl) ⟨Nat.le_of_ble_eq_true rfl, Nat.le_of_ble_eq_true rfl⟩ dX11_told_104 (fun u8 H locs hm hw => ?_)
    exact q_iret E hr hlk hw hm dX11_told_107
  have hm := o_f c7 hm
  by_cases c9 : v1 = 4
  · refine q_tsw E 4 108 c9 dX11_told_1 (by decide) (by decide) rfl (by decide) ?_
    have hm := o_t c9 hm
    refine lv_aload_n hx hb dX11_told_108 rfl (lv_at hl 0 rfl) ?_
    refine lv_aload_n hx hb dX11_told_109 rfl (lv_at hl 0 rfl) ?_
    refine q_geta E hw fw_X11_25 rfl hv0 dX11_told_110 ?_
    refine q_geta E hw fw_X11_40 rfl (tC_11_2 hv0) dX11_told_113 ?_
    refine q_geti E hw fw_X11_182 rfl (tC_10_0 (tC_11_2 hv0)) dX11_told_116 ?_
    refine q_cVi (κ := 11) (C := RX11) (T := TX11) (N := 20) [] E hw hm mw_X11_187 (fun u hu => c_X11_answer hu hv0) rfl (by decide) hv0 rfl rfl hl.1 (Nat.le_of_ble_eq_true rfl) ⟨Nat.le_of_ble_eq_true rfl, Nat.le_of_ble_eq_true rfl⟩ dX11_told_119 (fun u10 H locs hm hw => ?_)
    exact q_iret E hr hlk hw hm dX11_told_122
  have hm := o_f c9 hm
  by_cases c11 : v1 = 5
  · refine q_tsw E 5 123 c11 dX11_told_1 (by decide) (by decide) rfl (by decide) ?_
    have hm := o_t c11 hm
    refine lv_aload_n hx hb dX11_told_123 rfl (lv_at hl 0 rfl) ?_
    refine lv_aload_n hx hb dX11_told_124 rfl (lv_at hl 0 rfl) ?_
    refine q_geta E hw fw_X11_25 rfl hv0 dX11_told_125 ?_
    refine q_geti E hw fw_X11_223 rfl (tC_11_2 hv0) dX11_told_128 ?_
    refine q_cVi (κ := 11) (C := RX11) (T := TX11) (N := 20) [] E hw hm mw_X11_187 (fun u hu => c_X11_answer hu hv0) rfl (by decide) hv0 rfl rfl hl.1 (Nat.le_of_ble_eq_true rfl) ⟨Nat.le_of_ble_eq_true rfl, Nat.le_of_ble_eq_true rfl⟩ dX11_told_131 (fun u12 H locs hm hw => ?_)
    exact q_iret E hr hlk hw hm dX11_told_134
  have hm := o_f c11 hm
  by_cases c13 : v1 = 6
  · refine q_tsw E 6 135 c13 dX11_told_1 (by decide) (by decide) rfl (by decide) ?_
    have hm := o_t c13 hm
    refine lv_aload_n hx hb dX11_told_135 rfl (lv_at hl 0 rfl) ?_
    refine lv_aload_n hx hb dX11_told_136 rfl (lv_at hl 0 rfl) ?_
    refine q_geta E hw fw_X11_25 rfl hv0 dX11_told_137 ?_
    refine q_geti E hw fw_X11_226 rfl (tC_11_2 hv0) dX11_told_140 ?_
    refine q_cVi (κ := 11) (C := RX11) (T := TX11) (N := 20) [] E hw hm mw_X11_187 (fun u hu => c_X11_answer hu hv0) rfl (by decide) hv0 rfl rfl hl.1 (Nat.le_of_ble_eq_true rfl) ⟨Nat.le_of_ble_eq_true rfl, Nat.le_of_ble_eq_true rfl⟩ dX11_told_143 (fun u14 H locs hm hw => ?_)
    exact q_iret E hr hlk hw hm dX11_told_146
  have hm := o_f c13 hm
  by_cases c15 : v1 = 7
  · refine q_tsw E 7 147 c15 dX11_told_1 (by decide) (by decide) rfl (by decide) ?_
    have hm := o_t c15 hm
    refine lv_aload_n hx hb dX11_told_147 rfl (lv_at hl 0 rfl) ?_
    refine lv_aload_n hx hb dX11_told_148 rfl (lv_at hl 0 rfl) ?_
    refine q_geta E hw fw_X11_25 rfl hv0 dX11_told_149 ?_
    refine q_geti E hw fw_X11_229 rfl (tC_11_2 hv0) dX11_told_152 ?_
    refine q_cVi (κ := 11) (C := RX11) (T := TX11) (N := 20) [] E hw hm mw_X11_187 (fun u hu => c_X11_answer hu hv0) rfl (by decide) hv0 rfl rfl hl.1 (Nat.le_of_ble_eq_true rfl) ⟨Nat.le_of_ble_eq_true rfl, Nat.le_of_ble_eq_true rfl⟩ dX11_told_155 (fun u16 H locs hm hw => ?_)
    exact q_iret E hr hlk hw hm dX11_told_158
  have hm := o_f c15 hm
  have tc1 := lv_neT (a := 0) c1 (by decide)
  have tc3 := lv_neT (a := 1) c3 (by decide)
  have tc5 := lv_neT (a := 2) c5 (by decide)
  have tc7 := lv_neT (a := 3) c7 (by decide)
  have tc9 := lv_neT (a := 4) c9 (by decide)
  have tc11 := lv_neT (a := 5) c11 (by decide)
  have tc13 := lv_neT (a := 6) c13 (by decide)
  have tc15 := lv_neT (a := 7) c15 (by decide)
  refine lv_tableOut (tgt := 159) hx hb dX11_told_1 (by omega) (by decide) ?_
  refine lv_aload_n hx hb dX11_told_159 rfl (lv_at hl 0 rfl) ?_
  refine lv_iconst (v := 1) hx hb dX11_told_160 (by decide) ?_
  refine q_cVi (κ := 11) (C := RX11) (T := TX11) (N := 20) [] E hw hm mw_X11_142 (fun u hu => c_X11_refuse hu hv0) rfl (by decide) hv0 rfl rfl hl.1 (Nat.le_of_ble_eq_true rfl) ⟨Nat.le_of_ble_eq_true rfl, Nat.le_of_ble_eq_true rfl⟩ dX11_told_161 (fun u17 H locs hm hw => ?_)
  exact q_iret E hr hlk hw hm dX11_told_164
theorem c_X11_told {l : Launch} {D : va_G} {cy : Nat → ClassId} {b : Nat} {v0 : Nat} {v1 : Int32} {σ : ST} {r : Int32 × ST} (hm : f_X11_told v0 v1 σ = some r) (hv0 : LC.1 v0 = 11) : Met l yX11_told (wU yX11_told cX11_told 2 (some .int)) (rmD 1) (PcP D cy LC b [.ref (b + v0), .int v1] σ) (QcP D cy LC b (some (.int r.1)) r.2) 0 0 (inP LC b) :=
  q_met (lv := [(0, .ref (b + v0)), (1, .int v1)]) LC_ok (by decide) (Nat.le_of_ble_eq_true rfl) rfl (fun _ _ _ _ _ _ _ _ _ E hr hlk hw hl => w_X11_told_0 E hr hlk hm hv0 hw hl)

def k_X11_isKey_23 (s0 : Int32) (σ : ST) : Option (Int32 × ST) :=
  (ckZ s0).bind fun z => some (z, σ)
set_option maxRecDepth 20000 in
set_option maxHeartbeats 1000000 in
theorem w_X11_isKey_23 {p : Program} {l : Launch} {e : Env} {s : State} {m : MethodId} {args : Array Value} {below : List Frame} {meth : Method} {c : Code} {D : va_G} {cy : Nat → ClassId} {b : Nat} (E : CX p m c cX11_isKey 2 s args RX11 D cy LC) (hr : meth.sig.returnType = some .boolean) (hlk : meth.locks = false) {r : Int32 × ST} {s0 : Int32} {σ : ST} {H : Heap} {locs : List Loc} {ls : Array Slot} (hm : k_X11_isKey_23 s0 σ = some r) (hw : PH D cy LC b σ s H locs) (hl : lv_has ls 2 []) : W p l e (rmD 0) s m args below meth c H locs 0 0 (MQ below (QcP D cy LC b (some (.int r.1)) r.2) args s 0 0 (inP LC b)) (F0 m 23 ls [.int s0]) := by
  have hx := E.1.1
  have hb := E.1.2.1
  unfold k_X11_isKey_23 at hm
  exact q_zret E hr hlk hw hm dX11_isKey_23
def k_X11_isKey_22 (σ : ST) : Option (Int32 × ST) :=
  k_X11_isKey_23 0 σ
set_option maxRecDepth 20000 in
set_option maxHeartbeats 1000000 in
theorem w_X11_isKey_22 {p : Program} {l : Launch} {e : Env} {s : State} {m : MethodId} {args : Array Value} {below : List Frame} {meth : Method} {c : Code} {D : va_G} {cy : Nat → ClassId} {b : Nat} (E : CX p m c cX11_isKey 2 s args RX11 D cy LC) (hr : meth.sig.returnType = some .boolean) (hlk : meth.locks = false) {r : Int32 × ST} {σ : ST} {H : Heap} {locs : List Loc} {ls : Array Slot} (hm : k_X11_isKey_22  σ = some r) (hw : PH D cy LC b σ s H locs) (hl : lv_has ls 2 []) : W p l e (rmD 0) s m args below meth c H locs 0 0 (MQ below (QcP D cy LC b (some (.int r.1)) r.2) args s 0 0 (inP LC b)) (F0 m 22 ls []) := by
  have hx := E.1.1
  have hb := E.1.2.1
  unfold k_X11_isKey_22 at hm
  refine lv_iconst (v := 0) hx hb dX11_isKey_22 (by decide) ?_
  exact w_X11_isKey_23 E hr hlk hm  hw (lv_sub hl [] rfl)
def f_X11_isKey (v0 : Nat) (v1 : Int32) (σ : ST) : Option (Int32 × ST) :=
  if v1 < 0 then (k_X11_isKey_22 σ) else (if (gI σ (LC.2.1 (LC.2.1 v0 2) 0) 7) ≤ v1 then (k_X11_isKey_22 σ) else (k_X11_isKey_23 1 σ))
set_option maxRecDepth 20000 in
set_option maxHeartbeats 1000000 in
theorem w_X11_isKey_0 {p : Program} {l : Launch} {e : Env} {s : State} {m : MethodId} {args : Array Value} {below : List Frame} {meth : Method} {c : Code} {D : va_G} {cy : Nat → ClassId} {b : Nat} (E : CX p m c cX11_isKey 2 s args RX11 D cy LC) (hr : meth.sig.returnType = some .boolean) (hlk : meth.locks = false) {r : Int32 × ST} {v0 : Nat} {v1 : Int32} {σ : ST} {H : Heap} {locs : List Loc} {ls : Array Slot} (hm : f_X11_isKey v0 v1 σ = some r) (hv0 : LC.1 v0 = 11) (hw : PH D cy LC b σ s H locs) (hl : lv_has ls 2 [(0, .ref (b + v0)), (1, .int v1)]) : W p l e (rmD 0) s m args below meth c H locs 0 0 (MQ below (QcP D cy LC b (some (.int r.1)) r.2) args s 0 0 (inP LC b)) (F0 m 0 ls []) := by
  have hx := E.1.1
  have hb := E.1.2.1
  unfold f_X11_isKey at hm
  refine lv_iload_n hx hb dX11_isKey_0 rfl (lv_at hl 1 rfl) ?_
  refine lv_if_lt (tgt := 22) hx hb dX11_isKey_1 (by decide) (fun c1 => ?_) (fun c1 => ?_)
  · have hm := o_t c1 hm
    exact w_X11_isKey_22 E hr hlk hm  hw (lv_sub hl [] rfl)
  · have hm := o_f c1 hm
    refine lv_iload_n hx hb dX11_isKey_4 rfl (lv_at hl 1 rfl) ?_
    refine lv_aload_n hx hb dX11_isKey_5 rfl (lv_at hl 0 rfl) ?_
    refine q_geta E hw fw_X11_25 rfl hv0 dX11_isKey_6 ?_
    refine q_geta E hw fw_X11_40 rfl (tC_11_2 hv0) dX11_isKey_9 ?_
    refine q_geti E hw fw_X11_182 rfl (tC_10_0 (tC_11_2 hv0)) dX11_isKey_12 ?_
    refine lv_icmp_ge (tgt := 22) hx hb dX11_isKey_15 (by decide) (fun c2 => ?_) (fun c2 => ?_)
    · have hm := o_t c2 hm
      exact w_X11_isKey_22 E hr hlk hm  hw (lv_sub hl [] rfl)
    · have hm := o_f c2 hm
      refine lv_iconst (v := 1) hx hb dX11_isKey_18 (by decide) ?_
      refine lv_goto (tgt := 23) hx hb dX11_isKey_19 (by decide) ?_
      exact w_X11_isKey_23 E hr hlk hm  hw (lv_sub hl [] rfl)
theorem c_X11_isKey {l : Launch} {D : va_G} {cy : Nat → ClassId} {b : Nat} {v0 : Nat} {v1 : Int32} {σ : ST} {r : Int32 × ST} (hm : f_X11_isKey v0 v1 σ = some r) (hv0 : LC.1 v0 = 11) : Met l yX11_isKey (wU yX11_isKey cX11_isKey 2 (some .boolean)) (rmD 0) (PcP D cy LC b [.ref (b + v0), .int v1] σ) (QcP D cy LC b (some (.int r.1)) r.2) 0 0 (inP LC b) :=
  q_met (lv := [(0, .ref (b + v0)), (1, .int v1)]) LC_ok (by decide) (Nat.le_of_ble_eq_true rfl) rfl (fun _ _ _ _ _ _ _ _ _ E hr hlk hw hl => w_X11_isKey_0 E hr hlk hm hv0 hw hl)

def k_X11_row_32 (v0 : Nat) (σ : ST) : Option (Int32 × ST) :=
  (f_X11_refuse v0 6 σ).bind fun u1 =>
  some (u1.1, u1.2)
set_option maxRecDepth 20000 in
set_option maxHeartbeats 1000000 in
theorem w_X11_row_32 {p : Program} {l : Launch} {e : Env} {s : State} {m : MethodId} {args : Array Value} {below : List Frame} {meth : Method} {c : Code} {D : va_G} {cy : Nat → ClassId} {b : Nat} (E : CX p m c cX11_row 3 s args RX11 D cy LC) (hr : meth.sig.returnType = some .int) (hlk : meth.locks = false) {r : Int32 × ST} {v0 : Nat} {σ : ST} {H : Heap} {locs : List Loc} {ls : Array Slot} (hm : k_X11_row_32 v0 σ = some r) (hv0 : LC.1 v0 = 11) (hw : PH D cy LC b σ s H locs) (hl : lv_has ls 3 [(0, .ref (b + v0))]) : W p l e (rmD 1) s m args below meth c H locs 0 0 (MQ below (QcP D cy LC b (some (.int r.1)) r.2) args s 0 0 (inP LC b)) (F0 m 32 ls []) := by
  have hx := E.1.1
  have hb := E.1.2.1
  unfold k_X11_row_32 at hm
  refine lv_aload_n hx hb dX11_row_32 rfl (lv_at hl 0 rfl) ?_
  refine lv_bipush (v := 6) hx hb dX11_row_33 (by decide) ?_
  refine q_cVi (κ := 11) (C := RX11) (T := TX11) (N := 20) [] E hw hm mw_X11_142 (fun u hu => c_X11_refuse hu hv0) rfl (by decide) hv0 rfl rfl hl.1 (Nat.le_of_ble_eq_true rfl) ⟨Nat.le_of_ble_eq_true rfl, Nat.le_of_ble_eq_true rfl⟩ dX11_row_35 (fun u1 H locs hm hw => ?_)
  exact q_iret E hr hlk hw hm dX11_row_38
def f_X11_row (v0 : Nat) (v1 : Int32) (v2 : Int32) (σ : ST) : Option (Int32 × ST) :=
  (f_X11_isKey v0 v1 σ).bind fun u2 =>
  if u2.1 = 0 then ((f_X11_refuse v0 1 u2.2).bind fun u8 =>
  some (u8.1, u8.2)) else (if v2 < 0 then (k_X11_row_32 v0 u2.2) else (if v2 < (gI u2.2 (LC.2.1 (LC.2.1 v0 2) 0) 6) then ((f_X7_keeperAlong (LC.2.1 (LC.2.1 v0 2) 0) v1 v2 u2.2).bind fun u6 =>
  (f_X11_answer v0 u6.1 u6.2).bind fun u7 =>
  some (u7.1, u7.2)) else (k_X11_row_32 v0 u2.2)))
set_option maxRecDepth 20000 in
set_option maxHeartbeats 1000000 in
theorem w_X11_row_0 {p : Program} {l : Launch} {e : Env} {s : State} {m : MethodId} {args : Array Value} {below : List Frame} {meth : Method} {c : Code} {D : va_G} {cy : Nat → ClassId} {b : Nat} (E : CX p m c cX11_row 3 s args RX11 D cy LC) (hr : meth.sig.returnType = some .int) (hlk : meth.locks = false) {r : Int32 × ST} {v0 : Nat} {v1 : Int32} {v2 : Int32} {σ : ST} {H : Heap} {locs : List Loc} {ls : Array Slot} (hm : f_X11_row v0 v1 v2 σ = some r) (hv0 : LC.1 v0 = 11) (hw : PH D cy LC b σ s H locs) (hl : lv_has ls 3 [(0, .ref (b + v0)), (1, .int v1), (2, .int v2)]) : W p l e (rmD 1) s m args below meth c H locs 0 0 (MQ below (QcP D cy LC b (some (.int r.1)) r.2) args s 0 0 (inP LC b)) (F0 m 0 ls []) := by
  have hx := E.1.1
  have hb := E.1.2.1
  unfold f_X11_row at hm
  refine lv_aload_n hx hb dX11_row_0 rfl (lv_at hl 0 rfl) ?_
  refine lv_iload_n hx hb dX11_row_1 rfl (lv_at hl 1 rfl) ?_
  refine q_cVi (κ := 11) (C := RX11) (T := TX11) (N := 20) [] E hw hm mw_X11_232 (fun u hu => c_X11_isKey hu hv0) rfl (by decide) hv0 rfl rfl hl.1 (Nat.le_of_ble_eq_true rfl) ⟨Nat.le_of_ble_eq_true rfl, Nat.le_of_ble_eq_true rfl⟩ dX11_row_2 (fun u2 H locs hm hw => ?_)
  refine lv_if_ne (tgt := 14) hx hb dX11_row_5 (by decide) (fun c3 => ?_) (fun c3 => ?_)
  · have hm := o_f c3 hm
    refine lv_iload_n hx hb dX11_row_14 rfl (lv_at hl 2 rfl) ?_
    refine lv_if_lt (tgt := 32) hx hb dX11_row_15 (by decide) (fun c4 => ?_) (fun c4 => ?_)
    · have hm := o_t c4 hm
      exact w_X11_row_32 E hr hlk hm hv0 hw (lv_sub hl [0] rfl)
    · have hm := o_f c4 hm
      refine lv_iload_n hx hb dX11_row_18 rfl (lv_at hl 2 rfl) ?_
      refine lv_aload_n hx hb dX11_row_19 rfl (lv_at hl 0 rfl) ?_
      refine q_geta E hw fw_X11_25 rfl hv0 dX11_row_20 ?_
      refine q_geta E hw fw_X11_40 rfl (tC_11_2 hv0) dX11_row_23 ?_
      refine q_geti E hw fw_X11_220 rfl (tC_10_0 (tC_11_2 hv0)) dX11_row_26 ?_
      refine lv_icmp_lt (tgt := 39) hx hb dX11_row_29 (by decide) (fun c5 => ?_) (fun c5 => ?_)
      · have hm := o_t c5 hm
        refine lv_aload_n hx hb dX11_row_39 rfl (lv_at hl 0 rfl) ?_
        refine lv_aload_n hx hb dX11_row_40 rfl (lv_at hl 0 rfl) ?_
        refine q_geta E hw fw_X11_25 rfl hv0 dX11_row_41 ?_
        refine q_geta E hw fw_X11_40 rfl (tC_11_2 hv0) dX11_row_44 ?_
        refine lv_iload_n hx hb dX11_row_47 rfl (lv_at hl 1 rfl) ?_
        refine lv_iload_n hx hb dX11_row_48 rfl (lv_at hl 2 rfl) ?_
        refine q_cVi (κ := 7) (C := RX7) (T := TX7) (N := 12) [.ref (b + v0)] E hw hm mw_X11_235 (fun u hu => c_X7_keeperAlong hu (tC_10_0 (tC_11_2 hv0))) rfl (by decide) (tC_10_0 (tC_11_2 hv0)) rfl rfl hl.1 (Nat.le_of_ble_eq_true rfl) ⟨Nat.le_of_ble_eq_true rfl, Nat.le_of_ble_eq_true rfl⟩ dX11_row_49 (fun u6 H locs hm hw => ?_)
        refine q_cVi (κ := 11) (C := RX11) (T := TX11) (N := 20) [] E hw hm mw_X11_187 (fun u hu => c_X11_answer hu hv0) rfl (by decide) hv0 rfl rfl hl.1 (Nat.le_of_ble_eq_true rfl) ⟨Nat.le_of_ble_eq_true rfl, Nat.le_of_ble_eq_true rfl⟩ dX11_row_52 (fun u7 H locs hm hw => ?_)
        exact q_iret E hr hlk hw hm dX11_row_55
      · have hm := o_f c5 hm
        exact w_X11_row_32 E hr hlk hm hv0 hw (lv_sub hl [0] rfl)
  · have hm := o_t c3 hm
    refine lv_aload_n hx hb dX11_row_8 rfl (lv_at hl 0 rfl) ?_
    refine lv_iconst (v := 1) hx hb dX11_row_9 (by decide) ?_
    refine q_cVi (κ := 11) (C := RX11) (T := TX11) (N := 20) [] E hw hm mw_X11_142 (fun u hu => c_X11_refuse hu hv0) rfl (by decide) hv0 rfl rfl hl.1 (Nat.le_of_ble_eq_true rfl) ⟨Nat.le_of_ble_eq_true rfl, Nat.le_of_ble_eq_true rfl⟩ dX11_row_10 (fun u8 H locs hm hw => ?_)
    exact q_iret E hr hlk hw hm dX11_row_13
theorem c_X11_row {l : Launch} {D : va_G} {cy : Nat → ClassId} {b : Nat} {v0 : Nat} {v1 : Int32} {v2 : Int32} {σ : ST} {r : Int32 × ST} (hm : f_X11_row v0 v1 v2 σ = some r) (hv0 : LC.1 v0 = 11) : Met l yX11_row (wU yX11_row cX11_row 3 (some .int)) (rmD 1) (PcP D cy LC b [.ref (b + v0), .int v1, .int v2] σ) (QcP D cy LC b (some (.int r.1)) r.2) 0 0 (inP LC b) :=
  q_met (lv := [(0, .ref (b + v0)), (1, .int v1), (2, .int v2)]) LC_ok (by decide) (Nat.le_of_ble_eq_true rfl) rfl (fun _ _ _ _ _ _ _ _ _ E hr hlk hw hl => w_X11_row_0 E hr hlk hm hv0 hw hl)

def k_X11_places_32 (s0 : Int32) (σ : ST) : Option (Int32 × ST) :=
  some (s0, σ)
set_option maxRecDepth 20000 in
set_option maxHeartbeats 1000000 in
theorem w_X11_places_32 {p : Program} {l : Launch} {e : Env} {s : State} {m : MethodId} {args : Array Value} {below : List Frame} {meth : Method} {c : Code} {D : va_G} {cy : Nat → ClassId} {b : Nat} (E : CX p m c cX11_places 2 s args RX11 D cy LC) (hr : meth.sig.returnType = some .int) (hlk : meth.locks = false) {r : Int32 × ST} {s0 : Int32} {σ : ST} {H : Heap} {locs : List Loc} {ls : Array Slot} (hm : k_X11_places_32 s0 σ = some r) (hw : PH D cy LC b σ s H locs) (hl : lv_has ls 2 []) : W p l e (rmD 1) s m args below meth c H locs 0 0 (MQ below (QcP D cy LC b (some (.int r.1)) r.2) args s 0 0 (inP LC b)) (F0 m 32 ls [.int s0]) := by
  have hx := E.1.1
  have hb := E.1.2.1
  unfold k_X11_places_32 at hm
  exact q_iret E hr hlk hw hm dX11_places_32
def f_X11_places (v0 : Nat) (v1 : Int32) (σ : ST) : Option (Int32 × ST) :=
  (f_X11_isKey v0 v1 σ).bind fun u1 =>
  if u1.1 = 0 then ((f_X11_refuse v0 1 u1.2).bind fun u3 =>
  k_X11_places_32 u3.1 u3.2) else ((ldA LC u1.2 (LC.2.1 (LC.2.1 (LC.2.1 v0 2) 0) 5) v1).bind fun a4 =>
  (f_X11_answer v0 a4 u1.2).bind fun u5 =>
  k_X11_places_32 u5.1 u5.2)
set_option maxRecDepth 20000 in
set_option maxHeartbeats 1000000 in
theorem w_X11_places_0 {p : Program} {l : Launch} {e : Env} {s : State} {m : MethodId} {args : Array Value} {below : List Frame} {meth : Method} {c : Code} {D : va_G} {cy : Nat → ClassId} {b : Nat} (E : CX p m c cX11_places 2 s args RX11 D cy LC) (hr : meth.sig.returnType = some .int) (hlk : meth.locks = false) {r : Int32 × ST} {v0 : Nat} {v1 : Int32} {σ : ST} {H : Heap} {locs : List Loc} {ls : Array Slot} (hm : f_X11_places v0 v1 σ = some r) (hv0 : LC.1 v0 = 11) (hw : PH D cy LC b σ s H locs) (hl : lv_has ls 2 [(0, .ref (b + v0)), (1, .int v1)]) : W p l e (rmD 1) s m args below meth c H locs 0 0 (MQ below (QcP D cy LC b (some (.int r.1)) r.2) args s 0 0 (inP LC b)) (F0 m 0 ls []) := by
  have hx := E.1.1
  have hb := E.1.2.1
  unfold f_X11_places at hm
  refine lv_aload_n hx hb dX11_places_0 rfl (lv_at hl 0 rfl) ?_
  refine lv_iload_n hx hb dX11_places_1 rfl (lv_at hl 1 rfl) ?_
  refine q_cVi (κ := 11) (C := RX11) (T := TX11) (N := 20) [] E hw hm mw_X11_232 (fun u hu => c_X11_isKey hu hv0) rfl (by decide) hv0 rfl rfl hl.1 (Nat.le_of_ble_eq_true rfl) ⟨Nat.le_of_ble_eq_true rfl, Nat.le_of_ble_eq_true rfl⟩ dX11_places_2 (fun u1 H locs hm hw => ?_)
  refine lv_if_eq (tgt := 27) hx hb dX11_places_5 (by decide) (fun c2 => ?_) (fun c2 => ?_)
  · have hm := o_t c2 hm
    refine lv_aload_n hx hb dX11_places_27 rfl (lv_at hl 0 rfl) ?_
    refine lv_iconst (v := 1) hx hb dX11_places_28 (by decide) ?_
    refine q_cVi (κ := 11) (C := RX11) (T := TX11) (N := 20) [] E hw hm mw_X11_142 (fun u hu => c_X11_refuse hu hv0) rfl (by decide) hv0 rfl rfl hl.1 (Nat.le_of_ble_eq_true rfl) ⟨Nat.le_of_ble_eq_true rfl, Nat.le_of_ble_eq_true rfl⟩ dX11_places_29 (fun u3 H locs hm hw => ?_)
    exact w_X11_places_32 E hr hlk hm  hw (lv_sub hl [] rfl)
  · have hm := o_f c2 hm
    refine lv_aload_n hx hb dX11_places_8 rfl (lv_at hl 0 rfl) ?_
    refine lv_aload_n hx hb dX11_places_9 rfl (lv_at hl 0 rfl) ?_
    refine q_geta E hw fw_X11_25 rfl hv0 dX11_places_10 ?_
    refine q_geta E hw fw_X11_40 rfl (tC_11_2 hv0) dX11_places_13 ?_
    refine q_geta E hw fw_X11_238 rfl (tC_10_0 (tC_11_2 hv0)) dX11_places_16 ?_
    refine lv_iload_n hx hb dX11_places_19 rfl (lv_at hl 1 rfl) ?_
    refine q_iald E hw (tC_7_5 (tC_10_0 (tC_11_2 hv0))) hm dX11_places_20 (fun a4 hm => ?_)
    refine q_cVi (κ := 11) (C := RX11) (T := TX11) (N := 20) [] E hw hm mw_X11_187 (fun u hu => c_X11_answer hu hv0) rfl (by decide) hv0 rfl rfl hl.1 (Nat.le_of_ble_eq_true rfl) ⟨Nat.le_of_ble_eq_true rfl, Nat.le_of_ble_eq_true rfl⟩ dX11_places_21 (fun u5 H locs hm hw => ?_)
    refine lv_goto (tgt := 32) hx hb dX11_places_24 (by decide) ?_
    exact w_X11_places_32 E hr hlk hm  hw (lv_sub hl [] rfl)
theorem c_X11_places {l : Launch} {D : va_G} {cy : Nat → ClassId} {b : Nat} {v0 : Nat} {v1 : Int32} {σ : ST} {r : Int32 × ST} (hm : f_X11_places v0 v1 σ = some r) (hv0 : LC.1 v0 = 11) : Met l yX11_places (wU yX11_places cX11_places 2 (some .int)) (rmD 1) (PcP D cy LC b [.ref (b + v0), .int v1] σ) (QcP D cy LC b (some (.int r.1)) r.2) 0 0 (inP LC b) :=
  q_met (lv := [(0, .ref (b + v0)), (1, .int v1)]) LC_ok (by decide) (Nat.le_of_ble_eq_true rfl) rfl (fun _ _ _ _ _ _ _ _ _ E hr hlk hw hl => w_X11_places_0 E hr hlk hm hv0 hw hl)

def k_X11_answerWhether_10 (s0 : Nat) (s1 : Int32) (σ : ST) : Option (Int32 × ST) :=
  (f_X11_answer s0 s1 σ).bind fun u1 =>
  some (u1.1, u1.2)
set_option maxRecDepth 20000 in
set_option maxHeartbeats 1000000 in
theorem w_X11_answerWhether_10 {p : Program} {l : Launch} {e : Env} {s : State} {m : MethodId} {args : Array Value} {below : List Frame} {meth : Method} {c : Code} {D : va_G} {cy : Nat → ClassId} {b : Nat} (E : CX p m c cX11_answerWhether 2 s args RX11 D cy LC) (hr : meth.sig.returnType = some .int) (hlk : meth.locks = false) {r : Int32 × ST} {s0 : Nat} {s1 : Int32} {σ : ST} {H : Heap} {locs : List Loc} {ls : Array Slot} (hm : k_X11_answerWhether_10 s0 s1 σ = some r) (hs0 : LC.1 s0 = 11) (hw : PH D cy LC b σ s H locs) (hl : lv_has ls 2 []) : W p l e (rmD 1) s m args below meth c H locs 0 0 (MQ below (QcP D cy LC b (some (.int r.1)) r.2) args s 0 0 (inP LC b)) (F0 m 10 ls [.int s1, .ref (b + s0)]) := by
  have hx := E.1.1
  have hb := E.1.2.1
  unfold k_X11_answerWhether_10 at hm
  refine q_cVi (κ := 11) (C := RX11) (T := TX11) (N := 20) [] E hw hm mw_X11_187 (fun u hu => c_X11_answer hu hs0) rfl (by decide) hs0 rfl rfl hl.1 (Nat.le_of_ble_eq_true rfl) ⟨Nat.le_of_ble_eq_true rfl, Nat.le_of_ble_eq_true rfl⟩ dX11_answerWhether_10 (fun u1 H locs hm hw => ?_)
  exact q_iret E hr hlk hw hm dX11_answerWhether_13
def f_X11_answerWhether (v0 : Nat) (v1 : Int32) (σ : ST) : Option (Int32 × ST) :=
  if v1 = 0 then (k_X11_answerWhether_10 v0 0 σ) else (k_X11_answerWhether_10 v0 1 σ)
set_option maxRecDepth 20000 in
set_option maxHeartbeats 1000000 in
theorem w_X11_answerWhether_0 {p : Program} {l : Launch} {e : Env} {s : State} {m : MethodId} {args : Array Value} {below : List Frame} {meth : Method} {c : Code} {D : va_G} {cy : Nat → ClassId} {b : Nat} (E : CX p m c cX11_answerWhether 2 s args RX11 D cy LC) (hr : meth.sig.returnType = some .int) (hlk : meth.locks = false) {r : Int32 × ST} {v0 : Nat} {v1 : Int32} {σ : ST} {H : Heap} {locs : List Loc} {ls : Array Slot} (hm : f_X11_answerWhether v0 v1 σ = some r) (hv0 : LC.1 v0 = 11) (hw : PH D cy LC b σ s H locs) (hl : lv_has ls 2 [(0, .ref (b + v0)), (1, .int v1)]) : W p l e (rmD 1) s m args below meth c H locs 0 0 (MQ below (QcP D cy LC b (some (.int r.1)) r.2) args s 0 0 (inP LC b)) (F0 m 0 ls []) := by
  have hx := E.1.1
  have hb := E.1.2.1
  unfold f_X11_answerWhether at hm
  refine lv_aload_n hx hb dX11_answerWhether_0 rfl (lv_at hl 0 rfl) ?_
  refine lv_iload_n hx hb dX11_answerWhether_1 rfl (lv_at hl 1 rfl) ?_
  refine lv_if_eq (tgt := 9) hx hb dX11_answerWhether_2 (by decide) (fun c2 => ?_) (fun c2 => ?_)
  · have hm := o_t c2 hm
    refine lv_iconst (v := 0) hx hb dX11_answerWhether_9 (by decide) ?_
    exact w_X11_answerWhether_10 E hr hlk hm hv0 hw (lv_sub hl [] rfl)
  · have hm := o_f c2 hm
    refine lv_iconst (v := 1) hx hb dX11_answerWhether_5 (by decide) ?_
    refine lv_goto (tgt := 10) hx hb dX11_answerWhether_6 (by decide) ?_
    exact w_X11_answerWhether_10 E hr hlk hm hv0 hw (lv_sub hl [] rfl)
theorem c_X11_answerWhether {l : Launch} {D : va_G} {cy : Nat → ClassId} {b : Nat} {v0 : Nat} {v1 : Int32} {σ : ST} {r : Int32 × ST} (hm : f_X11_answerWhether v0 v1 σ = some r) (hv0 : LC.1 v0 = 11) : Met l yX11_answerWhether (wU yX11_answerWhether cX11_answerWhether 2 (some .int)) (rmD 1) (PcP D cy LC b [.ref (b + v0), .int v1] σ) (QcP D cy LC b (some (.int r.1)) r.2) 0 0 (inP LC b) :=
  q_met (lv := [(0, .ref (b + v0)), (1, .int v1)]) LC_ok (by decide) (Nat.le_of_ble_eq_true rfl) rfl (fun _ _ _ _ _ _ _ _ _ E hr hlk hw hl => w_X11_answerWhether_0 E hr hlk hm hv0 hw hl)

def k_X11_isKeeper_23 (s0 : Int32) (σ : ST) : Option (Int32 × ST) :=
  (ckZ s0).bind fun z => some (z, σ)
set_option maxRecDepth 20000 in
set_option maxHeartbeats 1000000 in
theorem w_X11_isKeeper_23 {p : Program} {l : Launch} {e : Env} {s : State} {m : MethodId} {args : Array Value} {below : List Frame} {meth : Method} {c : Code} {D : va_G} {cy : Nat → ClassId} {b : Nat} (E : CX p m c cX11_isKeeper 2 s args RX11 D cy LC) (hr : meth.sig.returnType = some .boolean) (hlk : meth.locks = false) {r : Int32 × ST} {s0 : Int32} {σ : ST} {H : Heap} {locs : List Loc} {ls : Array Slot} (hm : k_X11_isKeeper_23 s0 σ = some r) (hw : PH D cy LC b σ s H locs) (hl : lv_has ls 2 []) : W p l e (rmD 0) s m args below meth c H locs 0 0 (MQ below (QcP D cy LC b (some (.int r.1)) r.2) args s 0 0 (inP LC b)) (F0 m 23 ls [.int s0]) := by
  have hx := E.1.1
  have hb := E.1.2.1
  unfold k_X11_isKeeper_23 at hm
  exact q_zret E hr hlk hw hm dX11_isKeeper_23
def k_X11_isKeeper_22 (σ : ST) : Option (Int32 × ST) :=
  k_X11_isKeeper_23 0 σ
set_option maxRecDepth 20000 in
set_option maxHeartbeats 1000000 in
theorem w_X11_isKeeper_22 {p : Program} {l : Launch} {e : Env} {s : State} {m : MethodId} {args : Array Value} {below : List Frame} {meth : Method} {c : Code} {D : va_G} {cy : Nat → ClassId} {b : Nat} (E : CX p m c cX11_isKeeper 2 s args RX11 D cy LC) (hr : meth.sig.returnType = some .boolean) (hlk : meth.locks = false) {r : Int32 × ST} {σ : ST} {H : Heap} {locs : List Loc} {ls : Array Slot} (hm : k_X11_isKeeper_22  σ = some r) (hw : PH D cy LC b σ s H locs) (hl : lv_has ls 2 []) : W p l e (rmD 0) s m args below meth c H locs 0 0 (MQ below (QcP D cy LC b (some (.int r.1)) r.2) args s 0 0 (inP LC b)) (F0 m 22 ls []) := by
  have hx := E.1.1
  have hb := E.1.2.1
  unfold k_X11_isKeeper_22 at hm
  refine lv_iconst (v := 0) hx hb dX11_isKeeper_22 (by decide) ?_
  exact w_X11_isKeeper_23 E hr hlk hm  hw (lv_sub hl [] rfl)
def f_X11_isKeeper (v0 : Nat) (v1 : Int32) (σ : ST) : Option (Int32 × ST) :=
  if v1 < 0 then (k_X11_isKeeper_22 σ) else (if (gI σ (LC.2.1 (LC.2.1 v0 2) 0) 6) ≤ v1 then (k_X11_isKeeper_22 σ) else (k_X11_isKeeper_23 1 σ))
set_option maxRecDepth 20000 in
set_option maxHeartbeats 1000000 in
theorem w_X11_isKeeper_0 {p : Program} {l : Launch} {e : Env} {s : State} {m : MethodId} {args : Array Value} {below : List Frame} {meth : Method} {c : Code} {D : va_G} {cy : Nat → ClassId} {b : Nat} (E : CX p m c cX11_isKeeper 2 s args RX11 D cy LC) (hr : meth.sig.returnType = some .boolean) (hlk : meth.locks = false) {r : Int32 × ST} {v0 : Nat} {v1 : Int32} {σ : ST} {H : Heap} {locs : List Loc} {ls : Array Slot} (hm : f_X11_isKeeper v0 v1 σ = some r) (hv0 : LC.1 v0 = 11) (hw : PH D cy LC b σ s H locs) (hl : lv_has ls 2 [(0, .ref (b + v0)), (1, .int v1)]) : W p l e (rmD 0) s m args below meth c H locs 0 0 (MQ below (QcP D cy LC b (some (.int r.1)) r.2) args s 0 0 (inP LC b)) (F0 m 0 ls []) := by
  have hx := E.1.1
  have hb := E.1.2.1
  unfold f_X11_isKeeper at hm
  refine lv_iload_n hx hb dX11_isKeeper_0 rfl (lv_at hl 1 rfl) ?_
  refine lv_if_lt (tgt := 22) hx hb dX11_isKeeper_1 (by decide) (fun c1 => ?_) (fun c1 => ?_)
  · have hm := o_t c1 hm
    exact w_X11_isKeeper_22 E hr hlk hm  hw (lv_sub hl [] rfl)
  · have hm := o_f c1 hm
    refine lv_iload_n hx hb dX11_isKeeper_4 rfl (lv_at hl 1 rfl) ?_
    refine lv_aload_n hx hb dX11_isKeeper_5 rfl (lv_at hl 0 rfl) ?_
    refine q_geta E hw fw_X11_25 rfl hv0 dX11_isKeeper_6 ?_
    refine q_geta E hw fw_X11_40 rfl (tC_11_2 hv0) dX11_isKeeper_9 ?_
    refine q_geti E hw fw_X11_220 rfl (tC_10_0 (tC_11_2 hv0)) dX11_isKeeper_12 ?_
    refine lv_icmp_ge (tgt := 22) hx hb dX11_isKeeper_15 (by decide) (fun c2 => ?_) (fun c2 => ?_)
    · have hm := o_t c2 hm
      exact w_X11_isKeeper_22 E hr hlk hm  hw (lv_sub hl [] rfl)
    · have hm := o_f c2 hm
      refine lv_iconst (v := 1) hx hb dX11_isKeeper_18 (by decide) ?_
      refine lv_goto (tgt := 23) hx hb dX11_isKeeper_19 (by decide) ?_
      exact w_X11_isKeeper_23 E hr hlk hm  hw (lv_sub hl [] rfl)
theorem c_X11_isKeeper {l : Launch} {D : va_G} {cy : Nat → ClassId} {b : Nat} {v0 : Nat} {v1 : Int32} {σ : ST} {r : Int32 × ST} (hm : f_X11_isKeeper v0 v1 σ = some r) (hv0 : LC.1 v0 = 11) : Met l yX11_isKeeper (wU yX11_isKeeper cX11_isKeeper 2 (some .boolean)) (rmD 0) (PcP D cy LC b [.ref (b + v0), .int v1] σ) (QcP D cy LC b (some (.int r.1)) r.2) 0 0 (inP LC b) :=
  q_met (lv := [(0, .ref (b + v0)), (1, .int v1)]) LC_ok (by decide) (Nat.le_of_ble_eq_true rfl) rfl (fun _ _ _ _ _ _ _ _ _ E hr hlk hw hl => w_X11_isKeeper_0 E hr hlk hm hv0 hw hl)

def k_X11_reach_16 (v0 : Nat) (σ : ST) : Option (Int32 × ST) :=
  (f_X11_refuse v0 1 σ).bind fun u1 =>
  some (u1.1, u1.2)
set_option maxRecDepth 20000 in
set_option maxHeartbeats 1000000 in
theorem w_X11_reach_16 {p : Program} {l : Launch} {e : Env} {s : State} {m : MethodId} {args : Array Value} {below : List Frame} {meth : Method} {c : Code} {D : va_G} {cy : Nat → ClassId} {b : Nat} (E : CX p m c cX11_reach 3 s args RX11 D cy LC) (hr : meth.sig.returnType = some .int) (hlk : meth.locks = false) {r : Int32 × ST} {v0 : Nat} {σ : ST} {H : Heap} {locs : List Loc} {ls : Array Slot} (hm : k_X11_reach_16 v0 σ = some r) (hv0 : LC.1 v0 = 11) (hw : PH D cy LC b σ s H locs) (hl : lv_has ls 3 [(0, .ref (b + v0))]) : W p l e (rmD 2) s m args below meth c H locs 0 0 (MQ below (QcP D cy LC b (some (.int r.1)) r.2) args s 0 0 (inP LC b)) (F0 m 16 ls []) := by
  have hx := E.1.1
  have hb := E.1.2.1
  unfold k_X11_reach_16 at hm
  refine lv_aload_n hx hb dX11_reach_16 rfl (lv_at hl 0 rfl) ?_
  refine lv_iconst (v := 1) hx hb dX11_reach_17 (by decide) ?_
  refine q_cVi (κ := 11) (C := RX11) (T := TX11) (N := 20) [] E hw hm mw_X11_142 (fun u hu => c_X11_refuse hu hv0) rfl (by decide) hv0 rfl rfl hl.1 (Nat.le_of_ble_eq_true rfl) ⟨Nat.le_of_ble_eq_true rfl, Nat.le_of_ble_eq_true rfl⟩ dX11_reach_18 (fun u1 H locs hm hw => ?_)
  exact q_iret E hr hlk hw hm dX11_reach_21
def f_X11_reach (v0 : Nat) (v1 : Int32) (v2 : Int32) (σ : ST) : Option (Int32 × ST) :=
  (f_X11_isKeeper v0 v1 σ).bind fun u2 =>
  if u2.1 = 0 then (k_X11_reach_16 v0 u2.2) else ((f_X11_isKeeper v0 v2 u2.2).bind fun u4 =>
  if u4.1 = 0 then (k_X11_reach_16 v0 u4.2) else ((f_X10_reaches (LC.2.1 v0 2) v1 v2 u4.2).bind fun u6 =>
  (f_X11_answerWhether v0 u6.1 u6.2).bind fun u7 =>
  some (u7.1, u7.2)))
set_option maxRecDepth 20000 in
set_option maxHeartbeats 1000000 in
theorem w_X11_reach_0 {p : Program} {l : Launch} {e : Env} {s : State} {m : MethodId} {args : Array Value} {below : List Frame} {meth : Method} {c : Code} {D : va_G} {cy : Nat → ClassId} {b : Nat} (E : CX p m c cX11_reach 3 s args RX11 D cy LC) (hr : meth.sig.returnType = some .int) (hlk : meth.locks = false) {r : Int32 × ST} {v0 : Nat} {v1 : Int32} {v2 : Int32} {σ : ST} {H : Heap} {locs : List Loc} {ls : Array Slot} (hm : f_X11_reach v0 v1 v2 σ = some r) (hv0 : LC.1 v0 = 11) (hw : PH D cy LC b σ s H locs) (hl : lv_has ls 3 [(0, .ref (b + v0)), (1, .int v1), (2, .int v2)]) : W p l e (rmD 2) s m args below meth c H locs 0 0 (MQ below (QcP D cy LC b (some (.int r.1)) r.2) args s 0 0 (inP LC b)) (F0 m 0 ls []) := by
  have hx := E.1.1
  have hb := E.1.2.1
  unfold f_X11_reach at hm
  refine lv_aload_n hx hb dX11_reach_0 rfl (lv_at hl 0 rfl) ?_
  refine lv_iload_n hx hb dX11_reach_1 rfl (lv_at hl 1 rfl) ?_
  refine q_cVi (κ := 11) (C := RX11) (T := TX11) (N := 20) [] E hw hm mw_X11_241 (fun u hu => c_X11_isKeeper hu hv0) rfl (by decide) hv0 rfl rfl hl.1 (Nat.le_of_ble_eq_true rfl) ⟨Nat.le_of_ble_eq_true rfl, Nat.le_of_ble_eq_true rfl⟩ dX11_reach_2 (fun u2 H locs hm hw => ?_)
  refine lv_if_eq (tgt := 16) hx hb dX11_reach_5 (by decide) (fun c3 => ?_) (fun c3 => ?_)
  · have hm := o_t c3 hm
    exact w_X11_reach_16 E hr hlk hm hv0 hw (lv_sub hl [0] rfl)
  · have hm := o_f c3 hm
    refine lv_aload_n hx hb dX11_reach_8 rfl (lv_at hl 0 rfl) ?_
    refine lv_iload_n hx hb dX11_reach_9 rfl (lv_at hl 2 rfl) ?_
    refine q_cVi (κ := 11) (C := RX11) (T := TX11) (N := 20) [] E hw hm mw_X11_241 (fun u hu => c_X11_isKeeper hu hv0) rfl (by decide) hv0 rfl rfl hl.1 (Nat.le_of_ble_eq_true rfl) ⟨Nat.le_of_ble_eq_true rfl, Nat.le_of_ble_eq_true rfl⟩ dX11_reach_10 (fun u4 H locs hm hw => ?_)
    refine lv_if_ne (tgt := 22) hx hb dX11_reach_13 (by decide) (fun c5 => ?_) (fun c5 => ?_)
    · have hm := o_f c5 hm
      refine lv_aload_n hx hb dX11_reach_22 rfl (lv_at hl 0 rfl) ?_
      refine lv_aload_n hx hb dX11_reach_23 rfl (lv_at hl 0 rfl) ?_
      refine q_geta E hw fw_X11_25 rfl hv0 dX11_reach_24 ?_
      refine lv_iload_n hx hb dX11_reach_27 rfl (lv_at hl 1 rfl) ?_
      refine lv_iload_n hx hb dX11_reach_28 rfl (lv_at hl 2 rfl) ?_
      refine q_cVi (κ := 10) (C := RX10) (T := TX10) (N := 12) [.ref (b + v0)] E hw hm mw_X11_244 (fun u hu => c_X10_reaches hu (tC_11_2 hv0)) rfl (by decide) (tC_11_2 hv0) rfl rfl hl.1 (Nat.le_of_ble_eq_true rfl) ⟨Nat.le_of_ble_eq_true rfl, Nat.le_of_ble_eq_true rfl⟩ dX11_reach_29 (fun u6 H locs hm hw => ?_)
      refine q_cVi (κ := 11) (C := RX11) (T := TX11) (N := 20) [] E hw hm mw_X11_248 (fun u hu => c_X11_answerWhether hu hv0) rfl (by decide) hv0 rfl rfl hl.1 (Nat.le_of_ble_eq_true rfl) ⟨Nat.le_of_ble_eq_true rfl, Nat.le_of_ble_eq_true rfl⟩ dX11_reach_32 (fun u7 H locs hm hw => ?_)
      exact q_iret E hr hlk hw hm dX11_reach_35
    · have hm := o_t c5 hm
      exact w_X11_reach_16 E hr hlk hm hv0 hw (lv_sub hl [0] rfl)
theorem c_X11_reach {l : Launch} {D : va_G} {cy : Nat → ClassId} {b : Nat} {v0 : Nat} {v1 : Int32} {v2 : Int32} {σ : ST} {r : Int32 × ST} (hm : f_X11_reach v0 v1 v2 σ = some r) (hv0 : LC.1 v0 = 11) : Met l yX11_reach (wU yX11_reach cX11_reach 3 (some .int)) (rmD 2) (PcP D cy LC b [.ref (b + v0), .int v1, .int v2] σ) (QcP D cy LC b (some (.int r.1)) r.2) 0 0 (inP LC b) :=
  q_met (lv := [(0, .ref (b + v0)), (1, .int v1), (2, .int v2)]) LC_ok (by decide) (Nat.le_of_ble_eq_true rfl) rfl (fun _ _ _ _ _ _ _ _ _ E hr hlk hw hl => w_X11_reach_0 E hr hlk hm hv0 hw hl)

def k_X11_isTicketOrNone_15 (s0 : Int32) (σ : ST) : Option (Int32 × ST) :=
  (ckZ s0).bind fun z => some (z, σ)
set_option maxRecDepth 20000 in
set_option maxHeartbeats 1000000 in
theorem w_X11_isTicketOrNone_15 {p : Program} {l : Launch} {e : Env} {s : State} {m : MethodId} {args : Array Value} {below : List Frame} {meth : Method} {c : Code} {D : va_G} {cy : Nat → ClassId} {b : Nat} (E : CX p m c cX11_isTicketOrNone 2 s args RX11 D cy LC) (hr : meth.sig.returnType = some .boolean) (hlk : meth.locks = false) {r : Int32 × ST} {s0 : Int32} {σ : ST} {H : Heap} {locs : List Loc} {ls : Array Slot} (hm : k_X11_isTicketOrNone_15 s0 σ = some r) (hw : PH D cy LC b σ s H locs) (hl : lv_has ls 2 []) : W p l e (rmD 0) s m args below meth c H locs 0 0 (MQ below (QcP D cy LC b (some (.int r.1)) r.2) args s 0 0 (inP LC b)) (F0 m 15 ls [.int s0]) := by
  have hx := E.1.1
  have hb := E.1.2.1
  unfold k_X11_isTicketOrNone_15 at hm
  exact q_zret E hr hlk hw hm dX11_isTicketOrNone_15
def k_X11_isTicketOrNone_14 (σ : ST) : Option (Int32 × ST) :=
  k_X11_isTicketOrNone_15 0 σ
set_option maxRecDepth 20000 in
set_option maxHeartbeats 1000000 in
theorem w_X11_isTicketOrNone_14 {p : Program} {l : Launch} {e : Env} {s : State} {m : MethodId} {args : Array Value} {below : List Frame} {meth : Method} {c : Code} {D : va_G} {cy : Nat → ClassId} {b : Nat} (E : CX p m c cX11_isTicketOrNone 2 s args RX11 D cy LC) (hr : meth.sig.returnType = some .boolean) (hlk : meth.locks = false) {r : Int32 × ST} {σ : ST} {H : Heap} {locs : List Loc} {ls : Array Slot} (hm : k_X11_isTicketOrNone_14  σ = some r) (hw : PH D cy LC b σ s H locs) (hl : lv_has ls 2 []) : W p l e (rmD 0) s m args below meth c H locs 0 0 (MQ below (QcP D cy LC b (some (.int r.1)) r.2) args s 0 0 (inP LC b)) (F0 m 14 ls []) := by
  have hx := E.1.1
  have hb := E.1.2.1
  unfold k_X11_isTicketOrNone_14 at hm
  refine lv_iconst (v := 0) hx hb dX11_isTicketOrNone_14 (by decide) ?_
  exact w_X11_isTicketOrNone_15 E hr hlk hm  hw (lv_sub hl [] rfl)
def f_X11_isTicketOrNone (v0 : Nat) (v1 : Int32) (σ : ST) : Option (Int32 × ST) :=
  if v1 < (-1) then (k_X11_isTicketOrNone_14 σ) else (if 4 ≤ v1 then (k_X11_isTicketOrNone_14 σ) else (k_X11_isTicketOrNone_15 1 σ))
set_option maxRecDepth 20000 in
set_option maxHeartbeats 1000000 in
theorem w_X11_isTicketOrNone_0 {p : Program} {l : Launch} {e : Env} {s : State} {m : MethodId} {args : Array Value} {below : List Frame} {meth : Method} {c : Code} {D : va_G} {cy : Nat → ClassId} {b : Nat} (E : CX p m c cX11_isTicketOrNone 2 s args RX11 D cy LC) (hr : meth.sig.returnType = some .boolean) (hlk : meth.locks = false) {r : Int32 × ST} {v0 : Nat} {v1 : Int32} {σ : ST} {H : Heap} {locs : List Loc} {ls : Array Slot} (hm : f_X11_isTicketOrNone v0 v1 σ = some r) (hv0 : LC.1 v0 = 11) (hw : PH D cy LC b σ s H locs) (hl : lv_has ls 2 [(0, .ref (b + v0)), (1, .int v1)]) : W p l e (rmD 0) s m args below meth c H locs 0 0 (MQ below (QcP D cy LC b (some (.int r.1)) r.2) args s 0 0 (inP LC b)) (F0 m 0 ls []) := by
  have hx := E.1.1
  have hb := E.1.2.1
  unfold f_X11_isTicketOrNone at hm
  refine lv_iload_n hx hb dX11_isTicketOrNone_0 rfl (lv_at hl 1 rfl) ?_
  refine lv_iconst (v := (-1)) hx hb dX11_isTicketOrNone_1 (by decide) ?_
  refine lv_icmp_lt (tgt := 14) hx hb dX11_isTicketOrNone_2 (by decide) (fun c1 => ?_) (fun c1 => ?_)
  · have hm := o_t c1 hm
    exact w_X11_isTicketOrNone_14 E hr hlk hm  hw (lv_sub hl [] rfl)
  · have hm := o_f c1 hm
    refine lv_iload_n hx hb dX11_isTicketOrNone_5 rfl (lv_at hl 1 rfl) ?_
    refine lv_iconst (v := 4) hx hb dX11_isTicketOrNone_6 (by decide) ?_
    refine lv_icmp_ge (tgt := 14) hx hb dX11_isTicketOrNone_7 (by decide) (fun c2 => ?_) (fun c2 => ?_)
    · have hm := o_t c2 hm
      exact w_X11_isTicketOrNone_14 E hr hlk hm  hw (lv_sub hl [] rfl)
    · have hm := o_f c2 hm
      refine lv_iconst (v := 1) hx hb dX11_isTicketOrNone_10 (by decide) ?_
      refine lv_goto (tgt := 15) hx hb dX11_isTicketOrNone_11 (by decide) ?_
      exact w_X11_isTicketOrNone_15 E hr hlk hm  hw (lv_sub hl [] rfl)
theorem c_X11_isTicketOrNone {l : Launch} {D : va_G} {cy : Nat → ClassId} {b : Nat} {v0 : Nat} {v1 : Int32} {σ : ST} {r : Int32 × ST} (hm : f_X11_isTicketOrNone v0 v1 σ = some r) (hv0 : LC.1 v0 = 11) : Met l yX11_isTicketOrNone (wU yX11_isTicketOrNone cX11_isTicketOrNone 2 (some .boolean)) (rmD 0) (PcP D cy LC b [.ref (b + v0), .int v1] σ) (QcP D cy LC b (some (.int r.1)) r.2) 0 0 (inP LC b) :=
  q_met (lv := [(0, .ref (b + v0)), (1, .int v1)]) LC_ok (by decide) (Nat.le_of_ble_eq_true rfl) rfl (fun _ _ _ _ _ _ _ _ _ E hr hlk hw hl => w_X11_isTicketOrNone_0 E hr hlk hm hv0 hw hl)

def k_X11_answerTold_32 (v0 : Nat) (v1 : Int32) (s0 : Nat) (s1 : Int32) (σ : ST) : Option (Int32 × ST) :=
  (stI σ s0 19 s1).bind fun σ1 =>
  (f_X11_answer v0 v1 σ1).bind fun u2 =>
  some (u2.1, u2.2)
set_option maxRecDepth 20000 in
set_option maxHeartbeats 1000000 in
theorem w_X11_answerTold_32 {p : Program} {l : Launch} {e : Env} {s : State} {m : MethodId} {args : Array Value} {below : List Frame} {meth : Method} {c : Code} {D : va_G} {cy : Nat → ClassId} {b : Nat} (E : CX p m c cX11_answerTold 2 s args RX11 D cy LC) (hr : meth.sig.returnType = some .int) (hlk : meth.locks = false) {r : Int32 × ST} {v0 : Nat} {v1 : Int32} {s0 : Nat} {s1 : Int32} {σ : ST} {H : Heap} {locs : List Loc} {ls : Array Slot} (hm : k_X11_answerTold_32 v0 v1 s0 s1 σ = some r) (hv0 : LC.1 v0 = 11) (hs0 : LC.1 s0 = 11) (hw : PH D cy LC b σ s H locs) (hl : lv_has ls 2 [(0, .ref (b + v0)), (1, .int v1)]) : W p l e (rmD 1) s m args below meth c H locs 0 0 (MQ below (QcP D cy LC b (some (.int r.1)) r.2) args s 0 0 (inP LC b)) (F0 m 32 ls [.int s1, .ref (b + s0)]) := by
  have hx := E.1.1
  have hb := E.1.2.1
  unfold k_X11_answerTold_32 at hm
  refine q_pi E hw hm fw_X11_115 rfl rfl hs0 dX11_answerTold_32 (fun σ1 H locs hm hw => ?_)
  refine lv_aload_n hx hb dX11_answerTold_35 rfl (lv_at hl 0 rfl) ?_
  refine lv_iload_n hx hb dX11_answerTold_36 rfl (lv_at hl 1 rfl) ?_
  refine q_cVi (κ := 11) (C := RX11) (T := TX11) (N := 20) [] E hw hm mw_X11_187 (fun u hu => c_X11_answer hu hv0) rfl (by decide) hv0 rfl rfl hl.1 (Nat.le_of_ble_eq_true rfl) ⟨Nat.le_of_ble_eq_true rfl, Nat.le_of_ble_eq_true rfl⟩ dX11_answerTold_37 (fun u2 H locs hm hw => ?_)
  exact q_iret E hr hlk hw hm dX11_answerTold_40
def f_X11_answerTold (v0 : Nat) (v1 : Int32) (σ : ST) : Option (Int32 × ST) :=
  if v1 = (-1) then ((f_X11_refuse v0 7 σ).bind fun u5 =>
  some (u5.1, u5.2)) else (if v1 < (gI σ (LC.2.1 (LC.2.1 v0 2) 0) 11) then (k_X11_answerTold_32 v0 v1 v0 0 σ) else (k_X11_answerTold_32 v0 v1 v0 1 σ))
set_option maxRecDepth 20000 in
set_option maxHeartbeats 1000000 in
theorem w_X11_answerTold_0 {p : Program} {l : Launch} {e : Env} {s : State} {m : MethodId} {args : Array Value} {below : List Frame} {meth : Method} {c : Code} {D : va_G} {cy : Nat → ClassId} {b : Nat} (E : CX p m c cX11_answerTold 2 s args RX11 D cy LC) (hr : meth.sig.returnType = some .int) (hlk : meth.locks = false) {r : Int32 × ST} {v0 : Nat} {v1 : Int32} {σ : ST} {H : Heap} {locs : List Loc} {ls : Array Slot} (hm : f_X11_answerTold v0 v1 σ = some r) (hv0 : LC.1 v0 = 11) (hw : PH D cy LC b σ s H locs) (hl : lv_has ls 2 [(0, .ref (b + v0)), (1, .int v1)]) : W p l e (rmD 1) s m args below meth c H locs 0 0 (MQ below (QcP D cy LC b (some (.int r.1)) r.2) args s 0 0 (inP LC b)) (F0 m 0 ls []) := by
  have hx := E.1.1
  have hb := E.1.2.1
  unfold f_X11_answerTold at hm
  refine lv_iload_n hx hb dX11_answerTold_0 rfl (lv_at hl 1 rfl) ?_
  refine lv_iconst (v := (-1)) hx hb dX11_answerTold_1 (by decide) ?_
  refine lv_icmp_ne (tgt := 12) hx hb dX11_answerTold_2 (by decide) (fun c3 => ?_) (fun c3 => ?_)
  · have hm := o_f c3 hm
    refine lv_aload_n hx hb dX11_answerTold_12 rfl (lv_at hl 0 rfl) ?_
    refine lv_iload_n hx hb dX11_answerTold_13 rfl (lv_at hl 1 rfl) ?_
    refine lv_aload_n hx hb dX11_answerTold_14 rfl (lv_at hl 0 rfl) ?_
    refine q_geta E hw fw_X11_25 rfl hv0 dX11_answerTold_15 ?_
    refine q_geta E hw fw_X11_40 rfl (tC_11_2 hv0) dX11_answerTold_18 ?_
    refine q_geti E hw fw_X11_217 rfl (tC_10_0 (tC_11_2 hv0)) dX11_answerTold_21 ?_
    refine lv_icmp_lt (tgt := 31) hx hb dX11_answerTold_24 (by decide) (fun c4 => ?_) (fun c4 => ?_)
    · have hm := o_t c4 hm
      refine lv_iconst (v := 0) hx hb dX11_answerTold_31 (by decide) ?_
      exact w_X11_answerTold_32 E hr hlk hm hv0 hv0 hw (lv_sub hl [0, 1] rfl)
    · have hm := o_f c4 hm
      refine lv_iconst (v := 1) hx hb dX11_answerTold_27 (by decide) ?_
      refine lv_goto (tgt := 32) hx hb dX11_answerTold_28 (by decide) ?_
      exact w_X11_answerTold_32 E hr hlk hm hv0 hv0 hw (lv_sub hl [0, 1] rfl)
  · have hm := o_t c3 hm
    refine lv_aload_n hx hb dX11_answerTold_5 rfl (lv_at hl 0 rfl) ?_
    refine lv_bipush (v := 7) hx hb dX11_answerTold_6 (by decide) ?_
    refine q_cVi (κ := 11) (C := RX11) (T := TX11) (N := 20) [] E hw hm mw_X11_142 (fun u hu => c_X11_refuse hu hv0) rfl (by decide) hv0 rfl rfl hl.1 (Nat.le_of_ble_eq_true rfl) ⟨Nat.le_of_ble_eq_true rfl, Nat.le_of_ble_eq_true rfl⟩ dX11_answerTold_8 (fun u5 H locs hm hw => ?_)
    exact q_iret E hr hlk hw hm dX11_answerTold_11
theorem c_X11_answerTold {l : Launch} {D : va_G} {cy : Nat → ClassId} {b : Nat} {v0 : Nat} {v1 : Int32} {σ : ST} {r : Int32 × ST} (hm : f_X11_answerTold v0 v1 σ = some r) (hv0 : LC.1 v0 = 11) : Met l yX11_answerTold (wU yX11_answerTold cX11_answerTold 2 (some .int)) (rmD 1) (PcP D cy LC b [.ref (b + v0), .int v1] σ) (QcP D cy LC b (some (.int r.1)) r.2) 0 0 (inP LC b) :=
  q_met (lv := [(0, .ref (b + v0)), (1, .int v1)]) LC_ok (by decide) (Nat.le_of_ble_eq_true rfl) rfl (fun _ _ _ _ _ _ _ _ _ E hr hlk hw hl => w_X11_answerTold_0 E hr hlk hm hv0 hw hl)

def k_X11_putOrStrike_25 (v0 : Nat) (v1 : Int32) (v2 : Int32) (v3 : Int32) (v4 : Int32) (σ : ST) : Option (Int32 × ST) :=
  (f_X10_putValue (LC.2.1 v0 2) v1 v2 v3 v4 σ).bind fun u1 =>
  (f_X11_answerTold v0 u1.1 u1.2).bind fun u2 =>
  some (u2.1, u2.2)
set_option maxRecDepth 20000 in
set_option maxHeartbeats 1000000 in
theorem w_X11_putOrStrike_25 {p : Program} {l : Launch} {e : Env} {s : State} {m : MethodId} {args : Array Value} {below : List Frame} {meth : Method} {c : Code} {D : va_G} {cy : Nat → ClassId} {b : Nat} (E : CX p m c cX11_putOrStrike 5 s args RX11 D cy LC) (hr : meth.sig.returnType = some .int) (hlk : meth.locks = false) {r : Int32 × ST} {v0 : Nat} {v1 : Int32} {v2 : Int32} {v3 : Int32} {v4 : Int32} {σ : ST} {H : Heap} {locs : List Loc} {ls : Array Slot} (hm : k_X11_putOrStrike_25 v0 v1 v2 v3 v4 σ = some r) (hv0 : LC.1 v0 = 11) (hw : PH D cy LC b σ s H locs) (hl : lv_has ls 5 [(0, .ref (b + v0)), (1, .int v1), (2, .int v2), (3, .int v3), (4, .int v4)]) : W p l e (rmD 5) s m args below meth c H locs 0 0 (MQ below (QcP D cy LC b (some (.int r.1)) r.2) args s 0 0 (inP LC b)) (F0 m 25 ls []) := by
  have hx := E.1.1
  have hb := E.1.2.1
  unfold k_X11_putOrStrike_25 at hm
  refine lv_aload_n hx hb dX11_putOrStrike_25 rfl (lv_at hl 0 rfl) ?_
  refine lv_aload_n hx hb dX11_putOrStrike_26 rfl (lv_at hl 0 rfl) ?_
  refine q_geta E hw fw_X11_25 rfl hv0 dX11_putOrStrike_27 ?_
  refine lv_iload_n hx hb dX11_putOrStrike_30 rfl (lv_at hl 1 rfl) ?_
  refine lv_iload_n hx hb dX11_putOrStrike_31 rfl (lv_at hl 2 rfl) ?_
  refine lv_iload_n hx hb dX11_putOrStrike_32 rfl (lv_at hl 3 rfl) ?_
  refine lv_iload hx hb dX11_putOrStrike_33 (lv_at hl 4 rfl) ?_
  refine q_cVi (κ := 10) (C := RX10) (T := TX10) (N := 12) [.ref (b + v0)] E hw hm mw_X11_414 (fun u hu => c_X10_putValue hu (tC_11_2 hv0)) rfl (by decide) (tC_11_2 hv0) rfl rfl hl.1 (Nat.le_of_ble_eq_true rfl) ⟨Nat.le_of_ble_eq_true rfl, Nat.le_of_ble_eq_true rfl⟩ dX11_putOrStrike_35 (fun u1 H locs hm hw => ?_)
  refine q_cVi (κ := 11) (C := RX11) (T := TX11) (N := 20) [] E hw hm mw_X11_263 (fun u hu => c_X11_answerTold hu hv0) rfl (by decide) hv0 rfl rfl hl.1 (Nat.le_of_ble_eq_true rfl) ⟨Nat.le_of_ble_eq_true rfl, Nat.le_of_ble_eq_true rfl⟩ dX11_putOrStrike_38 (fun u2 H locs hm hw => ?_)
  exact q_iret E hr hlk hw hm dX11_putOrStrike_41
def f_X11_putOrStrike (v0 : Nat) (v1 : Int32) (v2 : Int32) (v3 : Int32) (v4 : Int32) (σ : ST) : Option (Int32 × ST) :=
  if v4 = (-1) then (k_X11_putOrStrike_25 v0 v1 v2 v3 v4 σ) else ((f_X10_hasTicket (LC.2.1 v0 2) v4 σ).bind fun u4 =>
  if u4.1 = 0 then ((f_X11_refuse v0 6 u4.2).bind fun u6 =>
  some (u6.1, u6.2)) else (k_X11_putOrStrike_25 v0 v1 v2 v3 v4 u4.2))
set_option maxRecDepth 20000 in
set_option maxHeartbeats 1000000 in
theorem w_X11_putOrStrike_0 {p : Program} {l : Launch} {e : Env} {s : State} {m : MethodId} {args : Array Value} {below : List Frame} {meth : Method} {c : Code} {D : va_G} {cy : Nat → ClassId} {b : Nat} (E : CX p m c cX11_putOrStrike 5 s args RX11 D cy LC) (hr : meth.sig.returnType = some .int) (hlk : meth.locks = false) {r : Int32 × ST} {v0 : Nat} {v1 : Int32} {v2 : Int32} {v3 : Int32} {v4 : Int32} {σ : ST} {H : Heap} {locs : List Loc} {ls : Array Slot} (hm : f_X11_putOrStrike v0 v1 v2 v3 v4 σ = some r) (hv0 : LC.1 v0 = 11) (hw : PH D cy LC b σ s H locs) (hl : lv_has ls 5 [(0, .ref (b + v0)), (1, .int v1), (2, .int v2), (3, .int v3), (4, .int v4)]) : W p l e (rmD 5) s m args below meth c H locs 0 0 (MQ below (QcP D cy LC b (some (.int r.1)) r.2) args s 0 0 (inP LC b)) (F0 m 0 ls []) := by
  have hx := E.1.1
  have hb := E.1.2.1
  unfold f_X11_putOrStrike at hm
  refine lv_iload hx hb dX11_putOrStrike_0 (lv_at hl 4 rfl) ?_
  refine lv_iconst (v := (-1)) hx hb dX11_putOrStrike_2 (by decide) ?_
  refine lv_icmp_eq (tgt := 25) hx hb dX11_putOrStrike_3 (by decide) (fun c3 => ?_) (fun c3 => ?_)
  · have hm := o_t c3 hm
    exact w_X11_putOrStrike_25 E hr hlk hm hv0 hw (lv_sub hl [0, 1, 2, 3, 4] rfl)
  · have hm := o_f c3 hm
    refine lv_aload_n hx hb dX11_putOrStrike_6 rfl (lv_at hl 0 rfl) ?_
    refine q_geta E hw fw_X11_25 rfl hv0 dX11_putOrStrike_7 ?_
    refine lv_iload hx hb dX11_putOrStrike_10 (lv_at hl 4 rfl) ?_
    refine q_cVi (κ := 10) (C := RX10) (T := TX10) (N := 12) [] E hw hm mw_X11_327 (fun u hu => c_X10_hasTicket hu (tC_11_2 hv0)) rfl (by decide) (tC_11_2 hv0) rfl rfl hl.1 (Nat.le_of_ble_eq_true rfl) ⟨Nat.le_of_ble_eq_true rfl, Nat.le_of_ble_eq_true rfl⟩ dX11_putOrStrike_12 (fun u4 H locs hm hw => ?_)
    refine lv_if_ne (tgt := 25) hx hb dX11_putOrStrike_15 (by decide) (fun c5 => ?_) (fun c5 => ?_)
    · have hm := o_f c5 hm
      exact w_X11_putOrStrike_25 E hr hlk hm hv0 hw (lv_sub hl [0, 1, 2, 3, 4] rfl)
    · have hm := o_t c5 hm
      refine lv_aload_n hx hb dX11_putOrStrike_18 rfl (lv_at hl 0 rfl) ?_
      refine lv_bipush (v := 6) hx hb dX11_putOrStrike_19 (by decide) ?_
      refine q_cVi (κ := 11) (C := RX11) (T := TX11) (N := 20) [] E hw hm mw_X11_142 (fun u hu => c_X11_refuse hu hv0) rfl (by decide) hv0 rfl rfl hl.1 (Nat.le_of_ble_eq_true rfl) ⟨Nat.le_of_ble_eq_true rfl, Nat.le_of_ble_eq_true rfl⟩ dX11_putOrStrike_21 (fun u6 H locs hm hw => ?_)
      exact q_iret E hr hlk hw hm dX11_putOrStrike_24
theorem c_X11_putOrStrike {l : Launch} {D : va_G} {cy : Nat → ClassId} {b : Nat} {v0 : Nat} {v1 : Int32} {v2 : Int32} {v3 : Int32} {v4 : Int32} {σ : ST} {r : Int32 × ST} (hm : f_X11_putOrStrike v0 v1 v2 v3 v4 σ = some r) (hv0 : LC.1 v0 = 11) : Met l yX11_putOrStrike (wU yX11_putOrStrike cX11_putOrStrike 5 (some .int)) (rmD 5) (PcP D cy LC b [.ref (b + v0), .int v1, .int v2, .int v3, .int v4] σ) (QcP D cy LC b (some (.int r.1)) r.2) 0 0 (inP LC b) :=
  q_met (lv := [(0, .ref (b + v0)), (1, .int v1), (2, .int v2), (3, .int v3), (4, .int v4)]) LC_ok (by decide) (Nat.le_of_ble_eq_true rfl) rfl (fun _ _ _ _ _ _ _ _ _ E hr hlk hw hl => w_X11_putOrStrike_0 E hr hlk hm hv0 hw hl)

def k_X11_put_36 (v0 : Nat) (σ : ST) : Option (Int32 × ST) :=
  (f_X11_refuse v0 1 σ).bind fun u1 =>
  some (u1.1, u1.2)
set_option maxRecDepth 20000 in
set_option maxHeartbeats 1000000 in
theorem w_X11_put_36 {p : Program} {l : Launch} {e : Env} {s : State} {m : MethodId} {args : Array Value} {below : List Frame} {meth : Method} {c : Code} {D : va_G} {cy : Nat → ClassId} {b : Nat} (E : CX p m c cX11_put 5 s args RX11 D cy LC) (hr : meth.sig.returnType = some .int) (hlk : meth.locks = false) {r : Int32 × ST} {v0 : Nat} {σ : ST} {H : Heap} {locs : List Loc} {ls : Array Slot} (hm : k_X11_put_36 v0 σ = some r) (hv0 : LC.1 v0 = 11) (hw : PH D cy LC b σ s H locs) (hl : lv_has ls 5 [(0, .ref (b + v0))]) : W p l e (rmD 6) s m args below meth c H locs 0 0 (MQ below (QcP D cy LC b (some (.int r.1)) r.2) args s 0 0 (inP LC b)) (F0 m 36 ls []) := by
  have hx := E.1.1
  have hb := E.1.2.1
  unfold k_X11_put_36 at hm
  refine lv_aload_n hx hb dX11_put_36 rfl (lv_at hl 0 rfl) ?_
  refine lv_iconst (v := 1) hx hb dX11_put_37 (by decide) ?_
  refine q_cVi (κ := 11) (C := RX11) (T := TX11) (N := 20) [] E hw hm mw_X11_142 (fun u hu => c_X11_refuse hu hv0) rfl (by decide) hv0 rfl rfl hl.1 (Nat.le_of_ble_eq_true rfl) ⟨Nat.le_of_ble_eq_true rfl, Nat.le_of_ble_eq_true rfl⟩ dX11_put_38 (fun u1 H locs hm hw => ?_)
  exact q_iret E hr hlk hw hm dX11_put_41
def f_X11_put (v0 : Nat) (v1 : Int32) (v2 : Int32) (v3 : Int32) (v4 : Int32) (σ : ST) : Option (Int32 × ST) :=
  (f_X11_isKey v0 v1 σ).bind fun u2 =>
  if u2.1 = 0 then (k_X11_put_36 v0 u2.2) else ((f_X11_isKeeper v0 v2 u2.2).bind fun u4 =>
  if u4.1 = 0 then (k_X11_put_36 v0 u4.2) else (if v3 < 0 then (k_X11_put_36 v0 u4.2) else (if 999 < v3 then (k_X11_put_36 v0 u4.2) else ((f_X11_isTicketOrNone v0 v4 u4.2).bind fun u8 =>
  if u8.1 = 0 then (k_X11_put_36 v0 u8.2) else ((f_X11_putOrStrike v0 v1 v2 v3 v4 u8.2).bind fun u10 =>
  some (u10.1, u10.2))))))
set_option maxRecDepth 20000 in
set_option maxHeartbeats 1000000 in
theorem w_X11_put_0 {p : Program} {l : Launch} {e : Env} {s : State} {m : MethodId} {args : Array Value} {below : List Frame} {meth : Method} {c : Code} {D : va_G} {cy : Nat → ClassId} {b : Nat} (E : CX p m c cX11_put 5 s args RX11 D cy LC) (hr : meth.sig.returnType = some .int) (hlk : meth.locks = false) {r : Int32 × ST} {v0 : Nat} {v1 : Int32} {v2 : Int32} {v3 : Int32} {v4 : Int32} {σ : ST} {H : Heap} {locs : List Loc} {ls : Array Slot} (hm : f_X11_put v0 v1 v2 v3 v4 σ = some r) (hv0 : LC.1 v0 = 11) (hw : PH D cy LC b σ s H locs) (hl : lv_has ls 5 [(0, .ref (b + v0)), (1, .int v1), (2, .int v2), (3, .int v3), (4, .int v4)]) : W p l e (rmD 6) s m args below meth c H locs 0 0 (MQ below (QcP D cy LC b (some (.int r.1)) r.2) args s 0 0 (inP LC b)) (F0 m 0 ls []) := by
  have hx := E.1.1
  have hb := E.1.2.1
  unfold f_X11_put at hm
  refine lv_aload_n hx hb dX11_put_0 rfl (lv_at hl 0 rfl) ?_
  refine lv_iload_n hx hb dX11_put_1 rfl (lv_at hl 1 rfl) ?_
  refine q_cVi (κ := 11) (C := RX11) (T := TX11) (N := 20) [] E hw hm mw_X11_232 (fun u hu => c_X11_isKey hu hv0) rfl (by decide) hv0 rfl rfl hl.1 (Nat.le_of_ble_eq_true rfl) ⟨Nat.le_of_ble_eq_true rfl, Nat.le_of_ble_eq_true rfl⟩ dX11_put_2 (fun u2 H locs hm hw => ?_)
  refine lv_if_eq (tgt := 36) hx hb dX11_put_5 (by decide) (fun c3 => ?_) (fun c3 => ?_)
  · have hm := o_t c3 hm
    exact w_X11_put_36 E hr hlk hm hv0 hw (lv_sub hl [0] rfl)
  · have hm := o_f c3 hm
    refine lv_aload_n hx hb dX11_put_8 rfl (lv_at hl 0 rfl) ?_
    refine lv_iload_n hx hb dX11_put_9 rfl (lv_at hl 2 rfl) ?_
    refine q_cVi (κ := 11) (C := RX11) (T := TX11) (N := 20) [] E hw hm mw_X11_241 (fun u hu => c_X11_isKeeper hu hv0) rfl (by decide) hv0 rfl rfl hl.1 (Nat.le_of_ble_eq_true rfl) ⟨Nat.le_of_ble_eq_true rfl, Nat.le_of_ble_eq_true rfl⟩ dX11_put_10 (fun u4 H locs hm hw => ?_)
    refine lv_if_eq (tgt := 36) hx hb dX11_put_13 (by decide) (fun c5 => ?_) (fun c5 => ?_)
    · have hm := o_t c5 hm
      exact w_X11_put_36 E hr hlk hm hv0 hw (lv_sub hl [0] rfl)
    · have hm := o_f c5 hm
      refine lv_iload_n hx hb dX11_put_16 rfl (lv_at hl 3 rfl) ?_
      refine lv_if_lt (tgt := 36) hx hb dX11_put_17 (by decide) (fun c6 => ?_) (fun c6 => ?_)
      · have hm := o_t c6 hm
        exact w_X11_put_36 E hr hlk hm hv0 hw (lv_sub hl [0] rfl)
      · have hm := o_f c6 hm
        refine lv_iload_n hx hb dX11_put_20 rfl (lv_at hl 3 rfl) ?_
        refine lv_sipush (v := 999) hx hb dX11_put_21 (by decide) ?_
        refine lv_icmp_gt (tgt := 36) hx hb dX11_put_24 (by decide) (fun c7 => ?_) (fun c7 => ?_)
        · have hm := o_t c7 hm
          exact w_X11_put_36 E hr hlk hm hv0 hw (lv_sub hl [0] rfl)
        · have hm := o_f c7 hm
          refine lv_aload_n hx hb dX11_put_27 rfl (lv_at hl 0 rfl) ?_
          refine lv_iload hx hb dX11_put_28 (lv_at hl 4 rfl) ?_
          refine q_cVi (κ := 11) (C := RX11) (T := TX11) (N := 20) [] E hw hm mw_X11_252 (fun u hu => c_X11_isTicketOrNone hu hv0) rfl (by decide) hv0 rfl rfl hl.1 (Nat.le_of_ble_eq_true rfl) ⟨Nat.le_of_ble_eq_true rfl, Nat.le_of_ble_eq_true rfl⟩ dX11_put_30 (fun u8 H locs hm hw => ?_)
          refine lv_if_ne (tgt := 42) hx hb dX11_put_33 (by decide) (fun c9 => ?_) (fun c9 => ?_)
          · have hm := o_f c9 hm
            refine lv_aload_n hx hb dX11_put_42 rfl (lv_at hl 0 rfl) ?_
            refine lv_iload_n hx hb dX11_put_43 rfl (lv_at hl 1 rfl) ?_
            refine lv_iload_n hx hb dX11_put_44 rfl (lv_at hl 2 rfl) ?_
            refine lv_iload_n hx hb dX11_put_45 rfl (lv_at hl 3 rfl) ?_
            refine lv_iload hx hb dX11_put_46 (lv_at hl 4 rfl) ?_
            refine q_cVi (κ := 11) (C := RX11) (T := TX11) (N := 20) [] E hw hm mw_X11_255 (fun u hu => c_X11_putOrStrike hu hv0) rfl (by decide) hv0 rfl rfl hl.1 (Nat.le_of_ble_eq_true rfl) ⟨Nat.le_of_ble_eq_true rfl, Nat.le_of_ble_eq_true rfl⟩ dX11_put_48 (fun u10 H locs hm hw => ?_)
            exact q_iret E hr hlk hw hm dX11_put_51
          · have hm := o_t c9 hm
            exact w_X11_put_36 E hr hlk hm hv0 hw (lv_sub hl [0] rfl)
theorem c_X11_put {l : Launch} {D : va_G} {cy : Nat → ClassId} {b : Nat} {v0 : Nat} {v1 : Int32} {v2 : Int32} {v3 : Int32} {v4 : Int32} {σ : ST} {r : Int32 × ST} (hm : f_X11_put v0 v1 v2 v3 v4 σ = some r) (hv0 : LC.1 v0 = 11) : Met l yX11_put (wU yX11_put cX11_put 5 (some .int)) (rmD 6) (PcP D cy LC b [.ref (b + v0), .int v1, .int v2, .int v3, .int v4] σ) (QcP D cy LC b (some (.int r.1)) r.2) 0 0 (inP LC b) :=
  q_met (lv := [(0, .ref (b + v0)), (1, .int v1), (2, .int v2), (3, .int v3), (4, .int v4)]) LC_ok (by decide) (Nat.le_of_ble_eq_true rfl) rfl (fun _ _ _ _ _ _ _ _ _ E hr hlk hw hl => w_X11_put_0 E hr hlk hm hv0 hw hl)

def k_X11_strike_24 (v0 : Nat) (σ : ST) : Option (Int32 × ST) :=
  (f_X11_refuse v0 1 σ).bind fun u1 =>
  some (u1.1, u1.2)
set_option maxRecDepth 20000 in
set_option maxHeartbeats 1000000 in
theorem w_X11_strike_24 {p : Program} {l : Launch} {e : Env} {s : State} {m : MethodId} {args : Array Value} {below : List Frame} {meth : Method} {c : Code} {D : va_G} {cy : Nat → ClassId} {b : Nat} (E : CX p m c cX11_strike 4 s args RX11 D cy LC) (hr : meth.sig.returnType = some .int) (hlk : meth.locks = false) {r : Int32 × ST} {v0 : Nat} {σ : ST} {H : Heap} {locs : List Loc} {ls : Array Slot} (hm : k_X11_strike_24 v0 σ = some r) (hv0 : LC.1 v0 = 11) (hw : PH D cy LC b σ s H locs) (hl : lv_has ls 4 [(0, .ref (b + v0))]) : W p l e (rmD 6) s m args below meth c H locs 0 0 (MQ below (QcP D cy LC b (some (.int r.1)) r.2) args s 0 0 (inP LC b)) (F0 m 24 ls []) := by
  have hx := E.1.1
  have hb := E.1.2.1
  unfold k_X11_strike_24 at hm
  refine lv_aload_n hx hb dX11_strike_24 rfl (lv_at hl 0 rfl) ?_
  refine lv_iconst (v := 1) hx hb dX11_strike_25 (by decide) ?_
  refine q_cVi (κ := 11) (C := RX11) (T := TX11) (N := 20) [] E hw hm mw_X11_142 (fun u hu => c_X11_refuse hu hv0) rfl (by decide) hv0 rfl rfl hl.1 (Nat.le_of_ble_eq_true rfl) ⟨Nat.le_of_ble_eq_true rfl, Nat.le_of_ble_eq_true rfl⟩ dX11_strike_26 (fun u1 H locs hm hw => ?_)
  exact q_iret E hr hlk hw hm dX11_strike_29
def f_X11_strike (v0 : Nat) (v1 : Int32) (v2 : Int32) (v3 : Int32) (σ : ST) : Option (Int32 × ST) :=
  (f_X11_isKey v0 v1 σ).bind fun u2 =>
  if u2.1 = 0 then (k_X11_strike_24 v0 u2.2) else ((f_X11_isKeeper v0 v2 u2.2).bind fun u4 =>
  if u4.1 = 0 then (k_X11_strike_24 v0 u4.2) else ((f_X11_isTicketOrNone v0 v3 u4.2).bind fun u6 =>
  if u6.1 = 0 then (k_X11_strike_24 v0 u6.2) else ((f_X11_putOrStrike v0 v1 v2 1000 v3 u6.2).bind fun u8 =>
  some (u8.1, u8.2))))
set_option maxRecDepth 20000 in
set_option maxHeartbeats 1000000 in
theorem w_X11_strike_0 {p : Program} {l : Launch} {e : Env} {s : State} {m : MethodId} {args : Array Value} {below : List Frame} {meth : Method} {c : Code} {D : va_G} {cy : Nat → ClassId} {b : Nat} (E : CX p m c cX11_strike 4 s args RX11 D cy LC) (hr : meth.sig.returnType = some .int) (hlk : meth.locks = false) {r : Int32 × ST} {v0 : Nat} {v1 : Int32} {v2 : Int32} {v3 : Int32} {σ : ST} {H : Heap} {locs : List Loc} {ls : Array Slot} (hm : f_X11_strike v0 v1 v2 v3 σ = some r) (hv0 : LC.1 v0 = 11) (hw : PH D cy LC b σ s H locs) (hl : lv_has ls 4 [(0, .ref (b + v0)), (1, .int v1), (2, .int v2), (3, .int v3)]) : W p l e (rmD 6) s m args below meth c H locs 0 0 (MQ below (QcP D cy LC b (some (.int r.1)) r.2) args s 0 0 (inP LC b)) (F0 m 0 ls []) := by
  have hx := E.1.1
  have hb := E.1.2.1
  unfold f_X11_strike at hm
  refine lv_aload_n hx hb dX11_strike_0 rfl (lv_at hl 0 rfl) ?_
  refine lv_iload_n hx hb dX11_strike_1 rfl (lv_at hl 1 rfl) ?_
  refine q_cVi (κ := 11) (C := RX11) (T := TX11) (N := 20) [] E hw hm mw_X11_232 (fun u hu => c_X11_isKey hu hv0) rfl (by decide) hv0 rfl rfl hl.1 (Nat.le_of_ble_eq_true rfl) ⟨Nat.le_of_ble_eq_true rfl, Nat.le_of_ble_eq_true rfl⟩ dX11_strike_2 (fun u2 H locs hm hw => ?_)
  refine lv_if_eq (tgt := 24) hx hb dX11_strike_5 (by decide) (fun c3 => ?_) (fun c3 => ?_)
  · have hm := o_t c3 hm
    exact w_X11_strike_24 E hr hlk hm hv0 hw (lv_sub hl [0] rfl)
  · have hm := o_f c3 hm
    refine lv_aload_n hx hb dX11_strike_8 rfl (lv_at hl 0 rfl) ?_
    refine lv_iload_n hx hb dX11_strike_9 rfl (lv_at hl 2 rfl) ?_
    refine q_cVi (κ := 11) (C := RX11) (T := TX11) (N := 20) [] E hw hm mw_X11_241 (fun u hu => c_X11_isKeeper hu hv0) rfl (by decide) hv0 rfl rfl hl.1 (Nat.le_of_ble_eq_true rfl) ⟨Nat.le_of_ble_eq_true rfl, Nat.le_of_ble_eq_true rfl⟩ dX11_strike_10 (fun u4 H locs hm hw => ?_)
    refine lv_if_eq (tgt := 24) hx hb dX11_strike_13 (by decide) (fun c5 => ?_) (fun c5 => ?_)
    · have hm := o_t c5 hm
      exact w_X11_strike_24 E hr hlk hm hv0 hw (lv_sub hl [0] rfl)
    · have hm := o_f c5 hm
      refine lv_aload_n hx hb dX11_strike_16 rfl (lv_at hl 0 rfl) ?_
      refine lv_iload_n hx hb dX11_strike_17 rfl (lv_at hl 3 rfl) ?_
      refine q_cVi (κ := 11) (C := RX11) (T := TX11) (N := 20) [] E hw hm mw_X11_252 (fun u hu => c_X11_isTicketOrNone hu hv0) rfl (by decide) hv0 rfl rfl hl.1 (Nat.le_of_ble_eq_true rfl) ⟨Nat.le_of_ble_eq_true rfl, Nat.le_of_ble_eq_true rfl⟩ dX11_strike_18 (fun u6 H locs hm hw => ?_)
      refine lv_if_ne (tgt := 30) hx hb dX11_strike_21 (by decide) (fun c7 => ?_) (fun c7 => ?_)
      · have hm := o_f c7 hm
        refine lv_aload_n hx hb dX11_strike_30 rfl (lv_at hl 0 rfl) ?_
        refine lv_iload_n hx hb dX11_strike_31 rfl (lv_at hl 1 rfl) ?_
        refine lv_iload_n hx hb dX11_strike_32 rfl (lv_at hl 2 rfl) ?_
        refine lv_sipush (v := 1000) hx hb dX11_strike_33 (by decide) ?_
        refine lv_iload_n hx hb dX11_strike_36 rfl (lv_at hl 3 rfl) ?_
        refine q_cVi (κ := 11) (C := RX11) (T := TX11) (N := 20) [] E hw hm mw_X11_255 (fun u hu => c_X11_putOrStrike hu hv0) rfl (by decide) hv0 rfl rfl hl.1 (Nat.le_of_ble_eq_true rfl) ⟨Nat.le_of_ble_eq_true rfl, Nat.le_of_ble_eq_true rfl⟩ dX11_strike_37 (fun u8 H locs hm hw => ?_)
        exact q_iret E hr hlk hw hm dX11_strike_40
      · have hm := o_t c7 hm
        exact w_X11_strike_24 E hr hlk hm hv0 hw (lv_sub hl [0] rfl)
theorem c_X11_strike {l : Launch} {D : va_G} {cy : Nat → ClassId} {b : Nat} {v0 : Nat} {v1 : Int32} {v2 : Int32} {v3 : Int32} {σ : ST} {r : Int32 × ST} (hm : f_X11_strike v0 v1 v2 v3 σ = some r) (hv0 : LC.1 v0 = 11) : Met l yX11_strike (wU yX11_strike cX11_strike 4 (some .int)) (rmD 6) (PcP D cy LC b [.ref (b + v0), .int v1, .int v2, .int v3] σ) (QcP D cy LC b (some (.int r.1)) r.2) 0 0 (inP LC b) :=
  q_met (lv := [(0, .ref (b + v0)), (1, .int v1), (2, .int v2), (3, .int v3)]) LC_ok (by decide) (Nat.le_of_ble_eq_true rfl) rfl (fun _ _ _ _ _ _ _ _ _ E hr hlk hw hl => w_X11_strike_0 E hr hlk hm hv0 hw hl)

def k_X11_add_28 (v0 : Nat) (σ : ST) : Option (Int32 × ST) :=
  (f_X11_refuse v0 1 σ).bind fun u1 =>
  some (u1.1, u1.2)
set_option maxRecDepth 20000 in
set_option maxHeartbeats 1000000 in
theorem w_X11_add_28 {p : Program} {l : Launch} {e : Env} {s : State} {m : MethodId} {args : Array Value} {below : List Frame} {meth : Method} {c : Code} {D : va_G} {cy : Nat → ClassId} {b : Nat} (E : CX p m c cX11_add 4 s args RX11 D cy LC) (hr : meth.sig.returnType = some .int) (hlk : meth.locks = false) {r : Int32 × ST} {v0 : Nat} {σ : ST} {H : Heap} {locs : List Loc} {ls : Array Slot} (hm : k_X11_add_28 v0 σ = some r) (hv0 : LC.1 v0 = 11) (hw : PH D cy LC b σ s H locs) (hl : lv_has ls 4 [(0, .ref (b + v0))]) : W p l e (rmD 5) s m args below meth c H locs 0 0 (MQ below (QcP D cy LC b (some (.int r.1)) r.2) args s 0 0 (inP LC b)) (F0 m 28 ls []) := by
  have hx := E.1.1
  have hb := E.1.2.1
  unfold k_X11_add_28 at hm
  refine lv_aload_n hx hb dX11_add_28 rfl (lv_at hl 0 rfl) ?_
  refine lv_iconst (v := 1) hx hb dX11_add_29 (by decide) ?_
  refine q_cVi (κ := 11) (C := RX11) (T := TX11) (N := 20) [] E hw hm mw_X11_142 (fun u hu => c_X11_refuse hu hv0) rfl (by decide) hv0 rfl rfl hl.1 (Nat.le_of_ble_eq_true rfl) ⟨Nat.le_of_ble_eq_true rfl, Nat.le_of_ble_eq_true rfl⟩ dX11_add_30 (fun u1 H locs hm hw => ?_)
  exact q_iret E hr hlk hw hm dX11_add_33
def f_X11_add (v0 : Nat) (v1 : Int32) (v2 : Int32) (v3 : Int32) (σ : ST) : Option (Int32 × ST) :=
  (f_X11_isKey v0 v1 σ).bind fun u2 =>
  if u2.1 = 0 then (k_X11_add_28 v0 u2.2) else ((f_X11_isKeeper v0 v2 u2.2).bind fun u4 =>
  if u4.1 = 0 then (k_X11_add_28 v0 u4.2) else (if v3 < 1 then (k_X11_add_28 v0 u4.2) else (if v3 ≤ 999 then ((f_X10_addPart (LC.2.1 v0 2) v1 v2 v3 u4.2).bind fun u8 =>
  (f_X11_answerTold v0 u8.1 u8.2).bind fun u9 =>
  some (u9.1, u9.2)) else (k_X11_add_28 v0 u4.2))))
set_option maxRecDepth 20000 in
set_option maxHeartbeats 1000000 in
theorem w_X11_add_0 {p : Program} {l : Launch} {e : Env} {s : State} {m : MethodId} {args : Array Value} {below : List Frame} {meth : Method} {c : Code} {D : va_G} {cy : Nat → ClassId} {b : Nat} (E : CX p m c cX11_add 4 s args RX11 D cy LC) (hr : meth.sig.returnType = some .int) (hlk : meth.locks = false) {r : Int32 × ST} {v0 : Nat} {v1 : Int32} {v2 : Int32} {v3 : Int32} {σ : ST} {H : Heap} {locs : List Loc} {ls : Array Slot} (hm : f_X11_add v0 v1 v2 v3 σ = some r) (hv0 : LC.1 v0 = 11) (hw : PH D cy LC b σ s H locs) (hl : lv_has ls 4 [(0, .ref (b + v0)), (1, .int v1), (2, .int v2), (3, .int v3)]) : W p l e (rmD 5) s m args below meth c H locs 0 0 (MQ below (QcP D cy LC b (some (.int r.1)) r.2) args s 0 0 (inP LC b)) (F0 m 0 ls []) := by
  have hx := E.1.1
  have hb := E.1.2.1
  unfold f_X11_add at hm
  refine lv_aload_n hx hb dX11_add_0 rfl (lv_at hl 0 rfl) ?_
  refine lv_iload_n hx hb dX11_add_1 rfl (lv_at hl 1 rfl) ?_
  refine q_cVi (κ := 11) (C := RX11) (T := TX11) (N := 20) [] E hw hm mw_X11_232 (fun u hu => c_X11_isKey hu hv0) rfl (by decide) hv0 rfl rfl hl.1 (Nat.le_of_ble_eq_true rfl) ⟨Nat.le_of_ble_eq_true rfl, Nat.le_of_ble_eq_true rfl⟩ dX11_add_2 (fun u2 H locs hm hw => ?_)
  refine lv_if_eq (tgt := 28) hx hb dX11_add_5 (by decide) (fun c3 => ?_) (fun c3 => ?_)
  · have hm := o_t c3 hm
    exact w_X11_add_28 E hr hlk hm hv0 hw (lv_sub hl [0] rfl)
  · have hm := o_f c3 hm
    refine lv_aload_n hx hb dX11_add_8 rfl (lv_at hl 0 rfl) ?_
    refine lv_iload_n hx hb dX11_add_9 rfl (lv_at hl 2 rfl) ?_
    refine q_cVi (κ := 11) (C := RX11) (T := TX11) (N := 20) [] E hw hm mw_X11_241 (fun u hu => c_X11_isKeeper hu hv0) rfl (by decide) hv0 rfl rfl hl.1 (Nat.le_of_ble_eq_true rfl) ⟨Nat.le_of_ble_eq_true rfl, Nat.le_of_ble_eq_true rfl⟩ dX11_add_10 (fun u4 H locs hm hw => ?_)
    refine lv_if_eq (tgt := 28) hx hb dX11_add_13 (by decide) (fun c5 => ?_) (fun c5 => ?_)
    · have hm := o_t c5 hm
      exact w_X11_add_28 E hr hlk hm hv0 hw (lv_sub hl [0] rfl)
    · have hm := o_f c5 hm
      refine lv_iload_n hx hb dX11_add_16 rfl (lv_at hl 3 rfl) ?_
      refine lv_iconst (v := 1) hx hb dX11_add_17 (by decide) ?_
      refine lv_icmp_lt (tgt := 28) hx hb dX11_add_18 (by decide) (fun c6 => ?_) (fun c6 => ?_)
      · have hm := o_t c6 hm
        exact w_X11_add_28 E hr hlk hm hv0 hw (lv_sub hl [0] rfl)
      · have hm := o_f c6 hm
        refine lv_iload_n hx hb dX11_add_21 rfl (lv_at hl 3 rfl) ?_
        refine lv_sipush (v := 999) hx hb dX11_add_22 (by decide) ?_
        refine lv_icmp_le (tgt := 34) hx hb dX11_add_25 (by decide) (fun c7 => ?_) (fun c7 => ?_)
        · have hm := o_t c7 hm
          refine lv_aload_n hx hb dX11_add_34 rfl (lv_at hl 0 rfl) ?_
          refine lv_aload_n hx hb dX11_add_35 rfl (lv_at hl 0 rfl) ?_
          refine q_geta E hw fw_X11_25 rfl hv0 dX11_add_36 ?_
          refine lv_iload_n hx hb dX11_add_39 rfl (lv_at hl 1 rfl) ?_
          refine lv_iload_n hx hb dX11_add_40 rfl (lv_at hl 2 rfl) ?_
          refine lv_iload_n hx hb dX11_add_41 rfl (lv_at hl 3 rfl) ?_
          refine q_cVi (κ := 10) (C := RX10) (T := TX10) (N := 12) [.ref (b + v0)] E hw hm mw_X11_259 (fun u hu => c_X10_addPart hu (tC_11_2 hv0)) rfl (by decide) (tC_11_2 hv0) rfl rfl hl.1 (Nat.le_of_ble_eq_true rfl) ⟨Nat.le_of_ble_eq_true rfl, Nat.le_of_ble_eq_true rfl⟩ dX11_add_42 (fun u8 H locs hm hw => ?_)
          refine q_cVi (κ := 11) (C := RX11) (T := TX11) (N := 20) [] E hw hm mw_X11_263 (fun u hu => c_X11_answerTold hu hv0) rfl (by decide) hv0 rfl rfl hl.1 (Nat.le_of_ble_eq_true rfl) ⟨Nat.le_of_ble_eq_true rfl, Nat.le_of_ble_eq_true rfl⟩ dX11_add_45 (fun u9 H locs hm hw => ?_)
          exact q_iret E hr hlk hw hm dX11_add_48
        · have hm := o_f c7 hm
          exact w_X11_add_28 E hr hlk hm hv0 hw (lv_sub hl [0] rfl)
theorem c_X11_add {l : Launch} {D : va_G} {cy : Nat → ClassId} {b : Nat} {v0 : Nat} {v1 : Int32} {v2 : Int32} {v3 : Int32} {σ : ST} {r : Int32 × ST} (hm : f_X11_add v0 v1 v2 v3 σ = some r) (hv0 : LC.1 v0 = 11) : Met l yX11_add (wU yX11_add cX11_add 4 (some .int)) (rmD 5) (PcP D cy LC b [.ref (b + v0), .int v1, .int v2, .int v3] σ) (QcP D cy LC b (some (.int r.1)) r.2) 0 0 (inP LC b) :=
  q_met (lv := [(0, .ref (b + v0)), (1, .int v1), (2, .int v2), (3, .int v3)]) LC_ok (by decide) (Nat.le_of_ble_eq_true rfl) rfl (fun _ _ _ _ _ _ _ _ _ E hr hlk hw hl => w_X11_add_0 E hr hlk hm hv0 hw hl)

def k_X11_get_106 (s0 : Nat) (s1 : Int32) (σ : ST) : Option (Int32 × ST) :=
  (f_X11_answer s0 s1 σ).bind fun u1 =>
  some (u1.1, u1.2)
set_option maxRecDepth 20000 in
set_option maxHeartbeats 1000000 in
theorem w_X11_get_106 {p : Program} {l : Launch} {e : Env} {s : State} {m : MethodId} {args : Array Value} {below : List Frame} {meth : Method} {c : Code} {D : va_G} {cy : Nat → ClassId} {b : Nat} (E : CX p m c cX11_get 4 s args RX11 D cy LC) (hr : meth.sig.returnType = some .int) (hlk : meth.locks = false) {r : Int32 × ST} {s0 : Nat} {s1 : Int32} {σ : ST} {H : Heap} {locs : List Loc} {ls : Array Slot} (hm : k_X11_get_106 s0 s1 σ = some r) (hs0 : LC.1 s0 = 11) (hw : PH D cy LC b σ s H locs) (hl : lv_has ls 4 []) : W p l e (rmD 5) s m args below meth c H locs 0 0 (MQ below (QcP D cy LC b (some (.int r.1)) r.2) args s 0 0 (inP LC b)) (F0 m 106 ls [.int s1, .ref (b + s0)]) := by
  have hx := E.1.1
  have hb := E.1.2.1
  unfold k_X11_get_106 at hm
  refine q_cVi (κ := 11) (C := RX11) (T := TX11) (N := 20) [] E hw hm mw_X11_187 (fun u hu => c_X11_answer hu hs0) rfl (by decide) hs0 rfl rfl hl.1 (Nat.le_of_ble_eq_true rfl) ⟨Nat.le_of_ble_eq_true rfl, Nat.le_of_ble_eq_true rfl⟩ dX11_get_106 (fun u1 H locs hm hw => ?_)
  exact q_iret E hr hlk hw hm dX11_get_109
def k_X11_get_24 (v0 : Nat) (σ : ST) : Option (Int32 × ST) :=
  (f_X11_refuse v0 1 σ).bind fun u2 =>
  some (u2.1, u2.2)
set_option maxRecDepth 20000 in
set_option maxHeartbeats 1000000 in
theorem w_X11_get_24 {p : Program} {l : Launch} {e : Env} {s : State} {m : MethodId} {args : Array Value} {below : List Frame} {meth : Method} {c : Code} {D : va_G} {cy : Nat → ClassId} {b : Nat} (E : CX p m c cX11_get 4 s args RX11 D cy LC) (hr : meth.sig.returnType = some .int) (hlk : meth.locks = false) {r : Int32 × ST} {v0 : Nat} {σ : ST} {H : Heap} {locs : List Loc} {ls : Array Slot} (hm : k_X11_get_24 v0 σ = some r) (hv0 : LC.1 v0 = 11) (hw : PH D cy LC b σ s H locs) (hl : lv_has ls 4 [(0, .ref (b + v0))]) : W p l e (rmD 5) s m args below meth c H locs 0 0 (MQ below (QcP D cy LC b (some (.int r.1)) r.2) args s 0 0 (inP LC b)) (F0 m 24 ls []) := by
  have hx := E.1.1
  have hb := E.1.2.1
  unfold k_X11_get_24 at hm
  refine lv_aload_n hx hb dX11_get_24 rfl (lv_at hl 0 rfl) ?_
  refine lv_iconst (v := 1) hx hb dX11_get_25 (by decide) ?_
  refine q_cVi (κ := 11) (C := RX11) (T := TX11) (N := 20) [] E hw hm mw_X11_142 (fun u hu => c_X11_refuse hu hv0) rfl (by decide) hv0 rfl rfl hl.1 (Nat.le_of_ble_eq_true rfl) ⟨Nat.le_of_ble_eq_true rfl, Nat.le_of_ble_eq_true rfl⟩ dX11_get_26 (fun u2 H locs hm hw => ?_)
  exact q_iret E hr hlk hw hm dX11_get_29
def f_X11_get (v0 : Nat) (v1 : Int32) (v2 : Int32) (v3 : Int32) (σ : ST) : Option (Int32 × ST) :=
  (f_X11_isKey v0 v1 σ).bind fun u3 =>
  if u3.1 = 0 then (k_X11_get_24 v0 u3.2) else ((f_X11_isKeeper v0 v2 u3.2).bind fun u5 =>
  if u5.1 = 0 then (k_X11_get_24 v0 u5.2) else ((f_X11_isTicketOrNone v0 v3 u5.2).bind fun u7 =>
  if u7.1 = 0 then (k_X11_get_24 v0 u7.2) else ((f_X10_collect (LC.2.1 v0 2) v1 v2 v3 (LC.2.1 v0 11) u7.2).bind fun u9 =>
  if u9.1 = 0 then ((f_X11_refuse v0 7 u9.2).bind fun u16 =>
  some (u16.1, u16.2)) else ((f_X10_valuesIn (LC.2.1 v0 2) (LC.2.1 v0 11) 0 v1 (LC.2.1 v0 12) 0 u9.2).bind fun u11 =>
  (stI u11.2 v0 18 u11.1).bind fun σ12 =>
  (f_X7_isSum (LC.2.1 (LC.2.1 v0 2) 0) v1 σ12).bind fun u13 =>
  if u13.1 = 0 then (k_X11_get_106 v0 (gI u13.2 v0 18) u13.2) else ((f_X0_sumOf (LC.2.1 v0 11) 0 u13.2).bind fun u15 =>
  k_X11_get_106 v0 u15.1 u15.2)))))
set_option maxRecDepth 20000 in
set_option maxHeartbeats 1000000 in
theorem w_X11_get_0 {p : Program} {l : Launch} {e : Env} {s : State} {m : MethodId} {args : Array Value} {below : List Frame} {meth : Method} {c : Code} {D : va_G} {cy : Nat → ClassId} {b : Nat} (E : CX p m c cX11_get 4 s args RX11 D cy LC) (hr : meth.sig.returnType = some .int) (hlk : meth.locks = false) {r : Int32 × ST} {v0 : Nat} {v1 : Int32} {v2 : Int32} {v3 : Int32} {σ : ST} {H : Heap} {locs : List Loc} {ls : Array Slot} (hm : f_X11_get v0 v1 v2 v3 σ = some r) (hv0 : LC.1 v0 = 11) (hw : PH D cy LC b σ s H locs) (hl : lv_has ls 4 [(0, .ref (b + v0)), (1, .int v1), (2, .int v2), (3, .int v3)]) : W p l e (rmD 5) s m args below meth c H locs 0 0 (MQ below (QcP D cy LC b (some (.int r.1)) r.2) args s 0 0 (inP LC b)) (F0 m 0 ls []) := by
  have hx := E.1.1
  have hb := E.1.2.1
  unfold f_X11_get at hm
  refine lv_aload_n hx hb dX11_get_0 rfl (lv_at hl 0 rfl) ?_
  refine lv_iload_n hx hb dX11_get_1 rfl (lv_at hl 1 rfl) ?_
  refine q_cVi (κ := 11) (C := RX11) (T := TX11) (N := 20) [] E hw hm mw_X11_232 (fun u hu => c_X11_isKey hu hv0) rfl (by decide) hv0 rfl rfl hl.1 (Nat.le_of_ble_eq_true rfl) ⟨Nat.le_of_ble_eq_true rfl, Nat.le_of_ble_eq_true rfl⟩ dX11_get_2 (fun u3 H locs hm hw => ?_)
  refine lv_if_eq (tgt := 24) hx hb dX11_get_5 (by decide) (fun c4 => ?_) (fun c4 => ?_)
  · have hm := o_t c4 hm
    exact w_X11_get_24 E hr hlk hm hv0 hw (lv_sub hl [0] rfl)
  · have hm := o_f c4 hm
    refine lv_aload_n hx hb dX11_get_8 rfl (lv_at hl 0 rfl) ?_
    refine lv_iload_n hx hb dX11_get_9 rfl (lv_at hl 2 rfl) ?_
    refine q_cVi (κ := 11) (C := RX11) (T := TX11) (N := 20) [] E hw hm mw_X11_241 (fun u hu => c_X11_isKeeper hu hv0) rfl (by decide) hv0 rfl rfl hl.1 (Nat.le_of_ble_eq_true rfl) ⟨Nat.le_of_ble_eq_true rfl, Nat.le_of_ble_eq_true rfl⟩ dX11_get_10 (fun u5 H locs hm hw => ?_)
    refine lv_if_eq (tgt := 24) hx hb dX11_get_13 (by decide) (fun c6 => ?_) (fun c6 => ?_)
    · have hm := o_t c6 hm
      exact w_X11_get_24 E hr hlk hm hv0 hw (lv_sub hl [0] rfl)
    · have hm := o_f c6 hm
      refine lv_aload_n hx hb dX11_get_16 rfl (lv_at hl 0 rfl) ?_
      refine lv_iload_n hx hb dX11_get_17 rfl (lv_at hl 3 rfl) ?_
      refine q_cVi (κ := 11) (C := RX11) (T := TX11) (N := 20) [] E hw hm mw_X11_252 (fun u hu => c_X11_isTicketOrNone hu hv0) rfl (by decide) hv0 rfl rfl hl.1 (Nat.le_of_ble_eq_true rfl) ⟨Nat.le_of_ble_eq_true rfl, Nat.le_of_ble_eq_true rfl⟩ dX11_get_18 (fun u7 H locs hm hw => ?_)
      refine lv_if_ne (tgt := 30) hx hb dX11_get_21 (by decide) (fun c8 => ?_) (fun c8 => ?_)
      · have hm := o_f c8 hm
        refine lv_aload_n hx hb dX11_get_30 rfl (lv_at hl 0 rfl) ?_
        refine q_geta E hw fw_X11_25 rfl hv0 dX11_get_31 ?_
        refine lv_iload_n hx hb dX11_get_34 rfl (lv_at hl 1 rfl) ?_
        refine lv_iload_n hx hb dX11_get_35 rfl (lv_at hl 2 rfl) ?_
        refine lv_iload_n hx hb dX11_get_36 rfl (lv_at hl 3 rfl) ?_
        refine lv_aload_n hx hb dX11_get_37 rfl (lv_at hl 0 rfl) ?_
        refine q_geta E hw fw_X11_87 rfl hv0 dX11_get_38 ?_
        refine q_cVi (κ := 10) (C := RX10) (T := TX10) (N := 12) [] E hw hm mw_X11_266 (fun u hu => c_X10_collect hu (tC_11_2 hv0) (tC_11_11 hv0)) rfl (by decide) (tC_11_2 hv0) rfl rfl hl.1 (Nat.le_of_ble_eq_true rfl) ⟨Nat.le_of_ble_eq_true rfl, Nat.le_of_ble_eq_true rfl⟩ dX11_get_41 (fun u9 H locs hm hw => ?_)
        refine lv_if_ne (tgt := 54) hx hb dX11_get_44 (by decide) (fun c10 => ?_) (fun c10 => ?_)
        · have hm := o_f c10 hm
          refine lv_aload_n hx hb dX11_get_54 rfl (lv_at hl 0 rfl) ?_
          refine lv_aload_n hx hb dX11_get_55 rfl (lv_at hl 0 rfl) ?_
          refine q_geta E hw fw_X11_25 rfl hv0 dX11_get_56 ?_
          refine lv_aload_n hx hb dX11_get_59 rfl (lv_at hl 0 rfl) ?_
          refine q_geta E hw fw_X11_87 rfl hv0 dX11_get_60 ?_
          refine lv_iconst (v := 0) hx hb dX11_get_63 (by decide) ?_
          refine lv_iload_n hx hb dX11_get_64 rfl (lv_at hl 1 rfl) ?_
          refine lv_aload_n hx hb dX11_get_65 rfl (lv_at hl 0 rfl) ?_
          refine q_geta E hw fw_X11_91 rfl hv0 dX11_get_66 ?_
          refine lv_iconst (v := 0) hx hb dX11_get_69 (by decide) ?_
          refine q_cVi (κ := 10) (C := RX10) (T := TX10) (N := 12) [.ref (b + v0)] E hw hm mw_X11_270 (fun u hu => c_X10_valuesIn hu (tC_11_2 hv0) (tC_11_11 hv0) (tC_11_12 hv0)) rfl (by decide) (tC_11_2 hv0) rfl rfl hl.1 (Nat.le_of_ble_eq_true rfl) ⟨Nat.le_of_ble_eq_true rfl, Nat.le_of_ble_eq_true rfl⟩ dX11_get_70 (fun u11 H locs hm hw => ?_)
          refine q_pi E hw hm fw_X11_112 rfl rfl hv0 dX11_get_73 (fun σ12 H locs hm hw => ?_)
          refine lv_aload_n hx hb dX11_get_76 rfl (lv_at hl 0 rfl) ?_
          refine lv_aload_n hx hb dX11_get_77 rfl (lv_at hl 0 rfl) ?_
          refine q_geta E hw fw_X11_25 rfl hv0 dX11_get_78 ?_
          refine q_geta E hw fw_X11_40 rfl (tC_11_2 hv0) dX11_get_81 ?_
          refine lv_iload_n hx hb dX11_get_84 rfl (lv_at hl 1 rfl) ?_
          refine q_cVi (κ := 7) (C := RX7) (T := TX7) (N := 12) [.ref (b + v0)] E hw hm mw_X11_274 (fun u hu => c_X7_isSum hu (tC_10_0 (tC_11_2 hv0))) rfl (by decide) (tC_10_0 (tC_11_2 hv0)) rfl rfl hl.1 (Nat.le_of_ble_eq_true rfl) ⟨Nat.le_of_ble_eq_true rfl, Nat.le_of_ble_eq_true rfl⟩ dX11_get_85 (fun u13 H locs hm hw => ?_)
          refine lv_if_eq (tgt := 102) hx hb dX11_get_88 (by decide) (fun c14 => ?_) (fun c14 => ?_)
          · have hm := o_t c14 hm
            refine lv_aload_n hx hb dX11_get_102 rfl (lv_at hl 0 rfl) ?_
            refine q_geti E hw fw_X11_112 rfl hv0 dX11_get_103 ?_
            exact w_X11_get_106 E hr hlk hm hv0 hw (lv_sub hl [] rfl)
          · have hm := o_f c14 hm
            refine lv_aload_n hx hb dX11_get_91 rfl (lv_at hl 0 rfl) ?_
            refine q_geta E hw fw_X11_87 rfl hv0 dX11_get_92 ?_
            refine lv_iconst (v := 0) hx hb dX11_get_95 (by decide) ?_
            refine q_cVi (κ := 0) (C := RX0) (T := TX0) (N := 2) [.ref (b + v0)] E hw hm mw_X11_277 (fun u hu => c_X0_sumOf hu (tC_11_11 hv0)) rfl (by decide) (tC_11_11 hv0) rfl rfl hl.1 (Nat.le_of_ble_eq_true rfl) ⟨Nat.le_of_ble_eq_true rfl, Nat.le_of_ble_eq_true rfl⟩ dX11_get_96 (fun u15 H locs hm hw => ?_)
            refine lv_goto (tgt := 106) hx hb dX11_get_99 (by decide) ?_
            exact w_X11_get_106 E hr hlk hm hv0 hw (lv_sub hl [] rfl)
        · have hm := o_t c10 hm
          refine lv_aload_n hx hb dX11_get_47 rfl (lv_at hl 0 rfl) ?_
          refine lv_bipush (v := 7) hx hb dX11_get_48 (by decide) ?_
          refine q_cVi (κ := 11) (C := RX11) (T := TX11) (N := 20) [] E hw hm mw_X11_142 (fun u hu => c_X11_refuse hu hv0) rfl (by decide) hv0 rfl rfl hl.1 (Nat.le_of_ble_eq_true rfl) ⟨Nat.le_of_ble_eq_true rfl, Nat.le_of_ble_eq_true rfl⟩ dX11_get_50 (fun u16 H locs hm hw => ?_)
          exact q_iret E hr hlk hw hm dX11_get_53
      · have hm := o_t c8 hm
        exact w_X11_get_24 E hr hlk hm hv0 hw (lv_sub hl [0] rfl)
theorem c_X11_get {l : Launch} {D : va_G} {cy : Nat → ClassId} {b : Nat} {v0 : Nat} {v1 : Int32} {v2 : Int32} {v3 : Int32} {σ : ST} {r : Int32 × ST} (hm : f_X11_get v0 v1 v2 v3 σ = some r) (hv0 : LC.1 v0 = 11) : Met l yX11_get (wU yX11_get cX11_get 4 (some .int)) (rmD 5) (PcP D cy LC b [.ref (b + v0), .int v1, .int v2, .int v3] σ) (QcP D cy LC b (some (.int r.1)) r.2) 0 0 (inP LC b) :=
  q_met (lv := [(0, .ref (b + v0)), (1, .int v1), (2, .int v2), (3, .int v3)]) LC_ok (by decide) (Nat.le_of_ble_eq_true rfl) rfl (fun _ _ _ _ _ _ _ _ _ E hr hlk hw hl => w_X11_get_0 E hr hlk hm hv0 hw hl)

def k_X11_got_31 (s0 : Int32) (σ : ST) : Option (Int32 × ST) :=
  some (s0, σ)
set_option maxRecDepth 20000 in
set_option maxHeartbeats 1000000 in
theorem w_X11_got_31 {p : Program} {l : Launch} {e : Env} {s : State} {m : MethodId} {args : Array Value} {below : List Frame} {meth : Method} {c : Code} {D : va_G} {cy : Nat → ClassId} {b : Nat} (E : CX p m c cX11_got 2 s args RX11 D cy LC) (hr : meth.sig.returnType = some .int) (hlk : meth.locks = false) {r : Int32 × ST} {s0 : Int32} {σ : ST} {H : Heap} {locs : List Loc} {ls : Array Slot} (hm : k_X11_got_31 s0 σ = some r) (hw : PH D cy LC b σ s H locs) (hl : lv_has ls 2 []) : W p l e (rmD 1) s m args below meth c H locs 0 0 (MQ below (QcP D cy LC b (some (.int r.1)) r.2) args s 0 0 (inP LC b)) (F0 m 31 ls [.int s0]) := by
  have hx := E.1.1
  have hb := E.1.2.1
  unfold k_X11_got_31 at hm
  exact q_iret E hr hlk hw hm dX11_got_31
def k_X11_got_12 (v0 : Nat) (σ : ST) : Option (Int32 × ST) :=
  (f_X11_refuse v0 6 σ).bind fun u1 =>
  k_X11_got_31 u1.1 u1.2
set_option maxRecDepth 20000 in
set_option maxHeartbeats 1000000 in
theorem w_X11_got_12 {p : Program} {l : Launch} {e : Env} {s : State} {m : MethodId} {args : Array Value} {below : List Frame} {meth : Method} {c : Code} {D : va_G} {cy : Nat → ClassId} {b : Nat} (E : CX p m c cX11_got 2 s args RX11 D cy LC) (hr : meth.sig.returnType = some .int) (hlk : meth.locks = false) {r : Int32 × ST} {v0 : Nat} {σ : ST} {H : Heap} {locs : List Loc} {ls : Array Slot} (hm : k_X11_got_12 v0 σ = some r) (hv0 : LC.1 v0 = 11) (hw : PH D cy LC b σ s H locs) (hl : lv_has ls 2 [(0, .ref (b + v0))]) : W p l e (rmD 1) s m args below meth c H locs 0 0 (MQ below (QcP D cy LC b (some (.int r.1)) r.2) args s 0 0 (inP LC b)) (F0 m 12 ls []) := by
  have hx := E.1.1
  have hb := E.1.2.1
  unfold k_X11_got_12 at hm
  refine lv_aload_n hx hb dX11_got_12 rfl (lv_at hl 0 rfl) ?_
  refine lv_bipush (v := 6) hx hb dX11_got_13 (by decide) ?_
  refine q_cVi (κ := 11) (C := RX11) (T := TX11) (N := 20) [] E hw hm mw_X11_142 (fun u hu => c_X11_refuse hu hv0) rfl (by decide) hv0 rfl rfl hl.1 (Nat.le_of_ble_eq_true rfl) ⟨Nat.le_of_ble_eq_true rfl, Nat.le_of_ble_eq_true rfl⟩ dX11_got_15 (fun u1 H locs hm hw => ?_)
  refine lv_goto (tgt := 31) hx hb dX11_got_18 (by decide) ?_
  exact w_X11_got_31 E hr hlk hm  hw (lv_sub hl [] rfl)
def f_X11_got (v0 : Nat) (v1 : Int32) (σ : ST) : Option (Int32 × ST) :=
  if v1 < 0 then (k_X11_got_12 v0 σ) else (if v1 < (gI σ v0 18) then ((ldA LC σ (LC.2.1 v0 12) v1).bind fun a4 =>
  (f_X11_answer v0 a4 σ).bind fun u5 =>
  k_X11_got_31 u5.1 u5.2) else (k_X11_got_12 v0 σ))
set_option maxRecDepth 20000 in
set_option maxHeartbeats 1000000 in
theorem w_X11_got_0 {p : Program} {l : Launch} {e : Env} {s : State} {m : MethodId} {args : Array Value} {below : List Frame} {meth : Method} {c : Code} {D : va_G} {cy : Nat → ClassId} {b : Nat} (E : CX p m c cX11_got 2 s args RX11 D cy LC) (hr : meth.sig.returnType = some .int) (hlk : meth.locks = false) {r : Int32 × ST} {v0 : Nat} {v1 : Int32} {σ : ST} {H : Heap} {locs : List Loc} {ls : Array Slot} (hm : f_X11_got v0 v1 σ = some r) (hv0 : LC.1 v0 = 11) (hw : PH D cy LC b σ s H locs) (hl : lv_has ls 2 [(0, .ref (b + v0)), (1, .int v1)]) : W p l e (rmD 1) s m args below meth c H locs 0 0 (MQ below (QcP D cy LC b (some (.int r.1)) r.2) args s 0 0 (inP LC b)) (F0 m 0 ls []) := by
  have hx := E.1.1
  have hb := E.1.2.1
  unfold f_X11_got at hm
  refine lv_iload_n hx hb dX11_got_0 rfl (lv_at hl 1 rfl) ?_
  refine lv_if_lt (tgt := 12) hx hb dX11_got_1 (by decide) (fun c2 => ?_) (fun c2 => ?_)
  · have hm := o_t c2 hm
    exact w_X11_got_12 E hr hlk hm hv0 hw (lv_sub hl [0] rfl)
  · have hm := o_f c2 hm
    refine lv_iload_n hx hb dX11_got_4 rfl (lv_at hl 1 rfl) ?_
    refine lv_aload_n hx hb dX11_got_5 rfl (lv_at hl 0 rfl) ?_
    refine q_geti E hw fw_X11_112 rfl hv0 dX11_got_6 ?_
    refine lv_icmp_lt (tgt := 21) hx hb dX11_got_9 (by decide) (fun c3 => ?_) (fun c3 => ?_)
    · have hm := o_t c3 hm
      refine lv_aload_n hx hb dX11_got_21 rfl (lv_at hl 0 rfl) ?_
      refine lv_aload_n hx hb dX11_got_22 rfl (lv_at hl 0 rfl) ?_
      refine q_geta E hw fw_X11_91 rfl hv0 dX11_got_23 ?_
      refine lv_iload_n hx hb dX11_got_26 rfl (lv_at hl 1 rfl) ?_
      refine q_iald E hw (tC_11_12 hv0) hm dX11_got_27 (fun a4 hm => ?_)
      refine q_cVi (κ := 11) (C := RX11) (T := TX11) (N := 20) [] E hw hm mw_X11_187 (fun u hu => c_X11_answer hu hv0) rfl (by decide) hv0 rfl rfl hl.1 (Nat.le_of_ble_eq_true rfl) ⟨Nat.le_of_ble_eq_true rfl, Nat.le_of_ble_eq_true rfl⟩ dX11_got_28 (fun u5 H locs hm hw => ?_)
      exact w_X11_got_31 E hr hlk hm  hw (lv_sub hl [] rfl)
    · have hm := o_f c3 hm
      exact w_X11_got_12 E hr hlk hm hv0 hw (lv_sub hl [0] rfl)
theorem c_X11_got {l : Launch} {D : va_G} {cy : Nat → ClassId} {b : Nat} {v0 : Nat} {v1 : Int32} {σ : ST} {r : Int32 × ST} (hm : f_X11_got v0 v1 σ = some r) (hv0 : LC.1 v0 = 11) : Met l yX11_got (wU yX11_got cX11_got 2 (some .int)) (rmD 1) (PcP D cy LC b [.ref (b + v0), .int v1] σ) (QcP D cy LC b (some (.int r.1)) r.2) 0 0 (inP LC b) :=
  q_met (lv := [(0, .ref (b + v0)), (1, .int v1)]) LC_ok (by decide) (Nat.le_of_ble_eq_true rfl) rfl (fun _ _ _ _ _ _ _ _ _ E hr hlk hw hl => w_X11_got_0 E hr hlk hm hv0 hw hl)

def k_X11_isDone_25 (s0 : Int32) (σ : ST) : Option (Int32 × ST) :=
  some (s0, σ)
set_option maxRecDepth 20000 in
set_option maxHeartbeats 1000000 in
theorem w_X11_isDone_25 {p : Program} {l : Launch} {e : Env} {s : State} {m : MethodId} {args : Array Value} {below : List Frame} {meth : Method} {c : Code} {D : va_G} {cy : Nat → ClassId} {b : Nat} (E : CX p m c cX11_isDone 1 s args RX11 D cy LC) (hr : meth.sig.returnType = some .int) (hlk : meth.locks = false) {r : Int32 × ST} {s0 : Int32} {σ : ST} {H : Heap} {locs : List Loc} {ls : Array Slot} (hm : k_X11_isDone_25 s0 σ = some r) (hw : PH D cy LC b σ s H locs) (hl : lv_has ls 1 []) : W p l e (rmD 1) s m args below meth c H locs 0 0 (MQ below (QcP D cy LC b (some (.int r.1)) r.2) args s 0 0 (inP LC b)) (F0 m 25 ls [.int s0]) := by
  have hx := E.1.1
  have hb := E.1.2.1
  unfold k_X11_isDone_25 at hm
  exact q_iret E hr hlk hw hm dX11_isDone_25
def f_X11_isDone (v0 : Nat) (σ : ST) : Option (Int32 × ST) :=
  if (gI σ v0 19) = (-1) then ((f_X11_refuse v0 6 σ).bind fun u3 =>
  k_X11_isDone_25 u3.1 u3.2) else ((f_X11_answer v0 (gI σ v0 19) σ).bind fun u2 =>
  k_X11_isDone_25 u2.1 u2.2)
set_option maxRecDepth 20000 in
set_option maxHeartbeats 1000000 in
theorem w_X11_isDone_0 {p : Program} {l : Launch} {e : Env} {s : State} {m : MethodId} {args : Array Value} {below : List Frame} {meth : Method} {c : Code} {D : va_G} {cy : Nat → ClassId} {b : Nat} (E : CX p m c cX11_isDone 1 s args RX11 D cy LC) (hr : meth.sig.returnType = some .int) (hlk : meth.locks = false) {r : Int32 × ST} {v0 : Nat} {σ : ST} {H : Heap} {locs : List Loc} {ls : Array Slot} (hm : f_X11_isDone v0 σ = some r) (hv0 : LC.1 v0 = 11) (hw : PH D cy LC b σ s H locs) (hl : lv_has ls 1 [(0, .ref (b + v0))]) : W p l e (rmD 1) s m args below meth c H locs 0 0 (MQ below (QcP D cy LC b (some (.int r.1)) r.2) args s 0 0 (inP LC b)) (F0 m 0 ls []) := by
  have hx := E.1.1
  have hb := E.1.2.1
  unfold f_X11_isDone at hm
  refine lv_aload_n hx hb dX11_isDone_0 rfl (lv_at hl 0 rfl) ?_
  refine q_geti E hw fw_X11_115 rfl hv0 dX11_isDone_1 ?_
  refine lv_iconst (v := (-1)) hx hb dX11_isDone_4 (by decide) ?_
  refine lv_icmp_ne (tgt := 17) hx hb dX11_isDone_5 (by decide) (fun c1 => ?_) (fun c1 => ?_)
  · have hm := o_f c1 hm
    refine lv_aload_n hx hb dX11_isDone_17 rfl (lv_at hl 0 rfl) ?_
    refine lv_aload_n hx hb dX11_isDone_18 rfl (lv_at hl 0 rfl) ?_
    refine q_geti E hw fw_X11_115 rfl hv0 dX11_isDone_19 ?_
    refine q_cVi (κ := 11) (C := RX11) (T := TX11) (N := 20) [] E hw hm mw_X11_187 (fun u hu => c_X11_answer hu hv0) rfl (by decide) hv0 rfl rfl hl.1 (Nat.le_of_ble_eq_true rfl) ⟨Nat.le_of_ble_eq_true rfl, Nat.le_of_ble_eq_true rfl⟩ dX11_isDone_22 (fun u2 H locs hm hw => ?_)
    exact w_X11_isDone_25 E hr hlk hm  hw (lv_sub hl [] rfl)
  · have hm := o_t c1 hm
    refine lv_aload_n hx hb dX11_isDone_8 rfl (lv_at hl 0 rfl) ?_
    refine lv_bipush (v := 6) hx hb dX11_isDone_9 (by decide) ?_
    refine q_cVi (κ := 11) (C := RX11) (T := TX11) (N := 20) [] E hw hm mw_X11_142 (fun u hu => c_X11_refuse hu hv0) rfl (by decide) hv0 rfl rfl hl.1 (Nat.le_of_ble_eq_true rfl) ⟨Nat.le_of_ble_eq_true rfl, Nat.le_of_ble_eq_true rfl⟩ dX11_isDone_11 (fun u3 H locs hm hw => ?_)
    refine lv_goto (tgt := 25) hx hb dX11_isDone_14 (by decide) ?_
    exact w_X11_isDone_25 E hr hlk hm  hw (lv_sub hl [] rfl)
theorem c_X11_isDone {l : Launch} {D : va_G} {cy : Nat → ClassId} {b : Nat} {v0 : Nat} {σ : ST} {r : Int32 × ST} (hm : f_X11_isDone v0 σ = some r) (hv0 : LC.1 v0 = 11) : Met l yX11_isDone (wU yX11_isDone cX11_isDone 1 (some .int)) (rmD 1) (PcP D cy LC b [.ref (b + v0)] σ) (QcP D cy LC b (some (.int r.1)) r.2) 0 0 (inP LC b) :=
  q_met (lv := [(0, .ref (b + v0))]) LC_ok (by decide) (Nat.le_of_ble_eq_true rfl) rfl (fun _ _ _ _ _ _ _ _ _ E hr hlk hw hl => w_X11_isDone_0 E hr hlk hm hv0 hw hl)

def k_X11_fall_28 (v0 : Nat) (s0 : Nat) (s1 : Int32) (s2 : Int32) (σ : ST) : Option (Int32 × ST) :=
  (f_X10_setUp s0 s1 s2 σ).bind fun u1 =>
  (f_X11_allowed v0 u1).bind fun u2 =>
  (ckZ u2.1).bind fun z => some (z, u2.2)
set_option maxRecDepth 20000 in
set_option maxHeartbeats 1000000 in
theorem w_X11_fall_28 {p : Program} {l : Launch} {e : Env} {s : State} {m : MethodId} {args : Array Value} {below : List Frame} {meth : Method} {c : Code} {D : va_G} {cy : Nat → ClassId} {b : Nat} (E : CX p m c cX11_fall 3 s args RX11 D cy LC) (hr : meth.sig.returnType = some .boolean) (hlk : meth.locks = false) {r : Int32 × ST} {v0 : Nat} {s0 : Nat} {s1 : Int32} {s2 : Int32} {σ : ST} {H : Heap} {locs : List Loc} {ls : Array Slot} (hm : k_X11_fall_28 v0 s0 s1 s2 σ = some r) (hv0 : LC.1 v0 = 11) (hs0 : LC.1 s0 = 10) (hw : PH D cy LC b σ s H locs) (hl : lv_has ls 3 [(0, .ref (b + v0))]) : W p l e (rmD 1) s m args below meth c H locs 0 0 (MQ below (QcP D cy LC b (some (.int r.1)) r.2) args s 0 0 (inP LC b)) (F0 m 28 ls [.int s2, .int s1, .ref (b + s0)]) := by
  have hx := E.1.1
  have hb := E.1.2.1
  unfold k_X11_fall_28 at hm
  refine q_cVv (κ := 10) (C := RX10) (T := TX10) (N := 12) [] E hw hm mw_X11_280 (fun u hu => c_X10_setUp hu hs0) rfl (by decide) hs0 rfl rfl hl.1 (Nat.le_of_ble_eq_true rfl) ⟨Nat.le_of_ble_eq_true rfl, Nat.le_of_ble_eq_true rfl⟩ dX11_fall_28 (fun u1 H locs hm hw => ?_)
  refine lv_aload_n hx hb dX11_fall_31 rfl (lv_at hl 0 rfl) ?_
  refine q_cVi (κ := 11) (C := RX11) (T := TX11) (N := 20) [] E hw hm mw_X11_130 (fun u hu => c_X11_allowed hu hv0) rfl (by decide) hv0 rfl rfl hl.1 (Nat.le_of_ble_eq_true rfl) ⟨Nat.le_of_ble_eq_true rfl, Nat.le_of_ble_eq_true rfl⟩ dX11_fall_32 (fun u2 H locs hm hw => ?_)
  exact q_zret E hr hlk hw hm dX11_fall_35
def f_X11_fall (v0 : Nat) (v1 : Int32) (v2 : Int32) (σ : ST) : Option (Int32 × ST) :=
  (f_X11_isKeeper v0 v1 σ).bind fun u3 =>
  if u3.1 = 0 then ((f_X11_refused v0 1 u3.2).bind fun u6 =>
  (ckZ u6.1).bind fun z => some (z, u6.2)) else (if v2 = 0 then (k_X11_fall_28 v0 (LC.2.1 v0 2) v1 1 u3.2) else (k_X11_fall_28 v0 (LC.2.1 v0 2) v1 0 u3.2))
set_option maxRecDepth 20000 in
set_option maxHeartbeats 1000000 in
theorem w_X11_fall_0 {p : Program} {l : Launch} {e : Env} {s : State} {m : MethodId} {args : Array Value} {below : List Frame} {meth : Method} {c : Code} {D : va_G} {cy : Nat → ClassId} {b : Nat} (E : CX p m c cX11_fall 3 s args RX11 D cy LC) (hr : meth.sig.returnType = some .boolean) (hlk : meth.locks = false) {r : Int32 × ST} {v0 : Nat} {v1 : Int32} {v2 : Int32} {σ : ST} {H : Heap} {locs : List Loc} {ls : Array Slot} (hm : f_X11_fall v0 v1 v2 σ = some r) (hv0 : LC.1 v0 = 11) (hw : PH D cy LC b σ s H locs) (hl : lv_has ls 3 [(0, .ref (b + v0)), (1, .int v1), (2, .int v2)]) : W p l e (rmD 1) s m args below meth c H locs 0 0 (MQ below (QcP D cy LC b (some (.int r.1)) r.2) args s 0 0 (inP LC b)) (F0 m 0 ls []) := by
  have hx := E.1.1
  have hb := E.1.2.1
  unfold f_X11_fall at hm
  refine lv_aload_n hx hb dX11_fall_0 rfl (lv_at hl 0 rfl) ?_
  refine lv_iload_n hx hb dX11_fall_1 rfl (lv_at hl 1 rfl) ?_
  refine q_cVi (κ := 11) (C := RX11) (T := TX11) (N := 20) [] E hw hm mw_X11_241 (fun u hu => c_X11_isKeeper hu hv0) rfl (by decide) hv0 rfl rfl hl.1 (Nat.le_of_ble_eq_true rfl) ⟨Nat.le_of_ble_eq_true rfl, Nat.le_of_ble_eq_true rfl⟩ dX11_fall_2 (fun u3 H locs hm hw => ?_)
  refine lv_if_ne (tgt := 14) hx hb dX11_fall_5 (by decide) (fun c4 => ?_) (fun c4 => ?_)
  · have hm := o_f c4 hm
    refine lv_aload_n hx hb dX11_fall_14 rfl (lv_at hl 0 rfl) ?_
    refine q_geta E hw fw_X11_25 rfl hv0 dX11_fall_15 ?_
    refine lv_iload_n hx hb dX11_fall_18 rfl (lv_at hl 1 rfl) ?_
    refine lv_iload_n hx hb dX11_fall_19 rfl (lv_at hl 2 rfl) ?_
    refine lv_if_ne (tgt := 27) hx hb dX11_fall_20 (by decide) (fun c5 => ?_) (fun c5 => ?_)
    · have hm := o_f c5 hm
      refine lv_iconst (v := 0) hx hb dX11_fall_27 (by decide) ?_
      exact w_X11_fall_28 E hr hlk hm hv0 (tC_11_2 hv0) hw (lv_sub hl [0] rfl)
    · have hm := o_t c5 hm
      refine lv_iconst (v := 1) hx hb dX11_fall_23 (by decide) ?_
      refine lv_goto (tgt := 28) hx hb dX11_fall_24 (by decide) ?_
      exact w_X11_fall_28 E hr hlk hm hv0 (tC_11_2 hv0) hw (lv_sub hl [0] rfl)
  · have hm := o_t c4 hm
    refine lv_aload_n hx hb dX11_fall_8 rfl (lv_at hl 0 rfl) ?_
    refine lv_iconst (v := 1) hx hb dX11_fall_9 (by decide) ?_
    refine q_cVi (κ := 11) (C := RX11) (T := TX11) (N := 20) [] E hw hm mw_X11_123 (fun u hu => c_X11_refused hu hv0) rfl (by decide) hv0 rfl rfl hl.1 (Nat.le_of_ble_eq_true rfl) ⟨Nat.le_of_ble_eq_true rfl, Nat.le_of_ble_eq_true rfl⟩ dX11_fall_10 (fun u6 H locs hm hw => ?_)
    exact q_zret E hr hlk hw hm dX11_fall_13
theorem c_X11_fall {l : Launch} {D : va_G} {cy : Nat → ClassId} {b : Nat} {v0 : Nat} {v1 : Int32} {v2 : Int32} {σ : ST} {r : Int32 × ST} (hm : f_X11_fall v0 v1 v2 σ = some r) (hv0 : LC.1 v0 = 11) : Met l yX11_fall (wU yX11_fall cX11_fall 3 (some .boolean)) (rmD 1) (PcP D cy LC b [.ref (b + v0), .int v1, .int v2] σ) (QcP D cy LC b (some (.int r.1)) r.2) 0 0 (inP LC b) :=
  q_met (lv := [(0, .ref (b + v0)), (1, .int v1), (2, .int v2)]) LC_ok (by decide) (Nat.le_of_ble_eq_true rfl) rfl (fun _ _ _ _ _ _ _ _ _ E hr hlk hw hl => w_X11_fall_0 E hr hlk hm hv0 hw hl)

def f_X11_wipe (v0 : Nat) (v1 : Int32) (σ : ST) : Option (Int32 × ST) :=
  (f_X11_isKeeper v0 v1 σ).bind fun u1 =>
  if u1.1 = 0 then ((f_X11_refused v0 1 u1.2).bind fun u5 =>
  (ckZ u5.1).bind fun z => some (z, u5.2)) else ((f_X10_wipeAll (LC.2.1 v0 2) v1 u1.2).bind fun u3 =>
  (f_X11_allowed v0 u3).bind fun u4 =>
  (ckZ u4.1).bind fun z => some (z, u4.2))
set_option maxRecDepth 20000 in
set_option maxHeartbeats 1000000 in
theorem w_X11_wipe_0 {p : Program} {l : Launch} {e : Env} {s : State} {m : MethodId} {args : Array Value} {below : List Frame} {meth : Method} {c : Code} {D : va_G} {cy : Nat → ClassId} {b : Nat} (E : CX p m c cX11_wipe 2 s args RX11 D cy LC) (hr : meth.sig.returnType = some .boolean) (hlk : meth.locks = false) {r : Int32 × ST} {v0 : Nat} {v1 : Int32} {σ : ST} {H : Heap} {locs : List Loc} {ls : Array Slot} (hm : f_X11_wipe v0 v1 σ = some r) (hv0 : LC.1 v0 = 11) (hw : PH D cy LC b σ s H locs) (hl : lv_has ls 2 [(0, .ref (b + v0)), (1, .int v1)]) : W p l e (rmD 5) s m args below meth c H locs 0 0 (MQ below (QcP D cy LC b (some (.int r.1)) r.2) args s 0 0 (inP LC b)) (F0 m 0 ls []) := by
  have hx := E.1.1
  have hb := E.1.2.1
  unfold f_X11_wipe at hm
  refine lv_aload_n hx hb dX11_wipe_0 rfl (lv_at hl 0 rfl) ?_
  refine lv_iload_n hx hb dX11_wipe_1 rfl (lv_at hl 1 rfl) ?_
  refine q_cVi (κ := 11) (C := RX11) (T := TX11) (N := 20) [] E hw hm mw_X11_241 (fun u hu => c_X11_isKeeper hu hv0) rfl (by decide) hv0 rfl rfl hl.1 (Nat.le_of_ble_eq_true rfl) ⟨Nat.le_of_ble_eq_true rfl, Nat.le_of_ble_eq_true rfl⟩ dX11_wipe_2 (fun u1 H locs hm hw => ?_)
  refine lv_if_ne (tgt := 14) hx hb dX11_wipe_5 (by decide) (fun c2 => ?_) (fun c2 => ?_)
  · have hm := o_f c2 hm
    refine lv_aload_n hx hb dX11_wipe_14 rfl (lv_at hl 0 rfl) ?_
    refine q_geta E hw fw_X11_25 rfl hv0 dX11_wipe_15 ?_
    refine lv_iload_n hx hb dX11_wipe_18 rfl (lv_at hl 1 rfl) ?_
    refine q_cVv (κ := 10) (C := RX10) (T := TX10) (N := 12) [] E hw hm mw_X11_284 (fun u hu => c_X10_wipeAll hu (tC_11_2 hv0)) rfl (by decide) (tC_11_2 hv0) rfl rfl hl.1 (Nat.le_of_ble_eq_true rfl) ⟨Nat.le_of_ble_eq_true rfl, Nat.le_of_ble_eq_true rfl⟩ dX11_wipe_19 (fun u3 H locs hm hw => ?_)
    refine lv_aload_n hx hb dX11_wipe_22 rfl (lv_at hl 0 rfl) ?_
    refine q_cVi (κ := 11) (C := RX11) (T := TX11) (N := 20) [] E hw hm mw_X11_130 (fun u hu => c_X11_allowed hu hv0) rfl (by decide) hv0 rfl rfl hl.1 (Nat.le_of_ble_eq_true rfl) ⟨Nat.le_of_ble_eq_true rfl, Nat.le_of_ble_eq_true rfl⟩ dX11_wipe_23 (fun u4 H locs hm hw => ?_)
    exact q_zret E hr hlk hw hm dX11_wipe_26
  · have hm := o_t c2 hm
    refine lv_aload_n hx hb dX11_wipe_8 rfl (lv_at hl 0 rfl) ?_
    refine lv_iconst (v := 1) hx hb dX11_wipe_9 (by decide) ?_
    refine q_cVi (κ := 11) (C := RX11) (T := TX11) (N := 20) [] E hw hm mw_X11_123 (fun u hu => c_X11_refused hu hv0) rfl (by decide) hv0 rfl rfl hl.1 (Nat.le_of_ble_eq_true rfl) ⟨Nat.le_of_ble_eq_true rfl, Nat.le_of_ble_eq_true rfl⟩ dX11_wipe_10 (fun u5 H locs hm hw => ?_)
    exact q_zret E hr hlk hw hm dX11_wipe_13
theorem c_X11_wipe {l : Launch} {D : va_G} {cy : Nat → ClassId} {b : Nat} {v0 : Nat} {v1 : Int32} {σ : ST} {r : Int32 × ST} (hm : f_X11_wipe v0 v1 σ = some r) (hv0 : LC.1 v0 = 11) : Met l yX11_wipe (wU yX11_wipe cX11_wipe 2 (some .boolean)) (rmD 5) (PcP D cy LC b [.ref (b + v0), .int v1] σ) (QcP D cy LC b (some (.int r.1)) r.2) 0 0 (inP LC b) :=
  q_met (lv := [(0, .ref (b + v0)), (1, .int v1)]) LC_ok (by decide) (Nat.le_of_ble_eq_true rfl) rfl (fun _ _ _ _ _ _ _ _ _ E hr hlk hw hl => w_X11_wipe_0 E hr hlk hm hv0 hw hl)

def k_X11_isKeeperSet_22 (s0 : Int32) (σ : ST) : Option (Int32 × ST) :=
  (ckZ s0).bind fun z => some (z, σ)
set_option maxRecDepth 20000 in
set_option maxHeartbeats 1000000 in
theorem w_X11_isKeeperSet_22 {p : Program} {l : Launch} {e : Env} {s : State} {m : MethodId} {args : Array Value} {below : List Frame} {meth : Method} {c : Code} {D : va_G} {cy : Nat → ClassId} {b : Nat} (E : CX p m c cX11_isKeeperSet 2 s args RX11 D cy LC) (hr : meth.sig.returnType = some .boolean) (hlk : meth.locks = false) {r : Int32 × ST} {s0 : Int32} {σ : ST} {H : Heap} {locs : List Loc} {ls : Array Slot} (hm : k_X11_isKeeperSet_22 s0 σ = some r) (hw : PH D cy LC b σ s H locs) (hl : lv_has ls 2 []) : W p l e (rmD 1) s m args below meth c H locs 0 0 (MQ below (QcP D cy LC b (some (.int r.1)) r.2) args s 0 0 (inP LC b)) (F0 m 22 ls [.int s0]) := by
  have hx := E.1.1
  have hb := E.1.2.1
  unfold k_X11_isKeeperSet_22 at hm
  exact q_zret E hr hlk hw hm dX11_isKeeperSet_22
def f_X11_isKeeperSet (v0 : Nat) (v1 : Int32) (σ : ST) : Option (Int32 × ST) :=
  (f_X7_keeperSet (LC.2.1 (LC.2.1 v0 2) 0) σ).bind fun u1 =>
  if (v1 &&& (u1.1 ^^^ (-1))) = 0 then (k_X11_isKeeperSet_22 1 u1.2) else (k_X11_isKeeperSet_22 0 u1.2)
set_option maxRecDepth 20000 in
set_option maxHeartbeats 1000000 in
theorem w_X11_isKeeperSet_0 {p : Program} {l : Launch} {e : Env} {s : State} {m : MethodId} {args : Array Value} {below : List Frame} {meth : Method} {c : Code} {D : va_G} {cy : Nat → ClassId} {b : Nat} (E : CX p m c cX11_isKeeperSet 2 s args RX11 D cy LC) (hr : meth.sig.returnType = some .boolean) (hlk : meth.locks = false) {r : Int32 × ST} {v0 : Nat} {v1 : Int32} {σ : ST} {H : Heap} {locs : List Loc} {ls : Array Slot} (hm : f_X11_isKeeperSet v0 v1 σ = some r) (hv0 : LC.1 v0 = 11) (hw : PH D cy LC b σ s H locs) (hl : lv_has ls 2 [(0, .ref (b + v0)), (1, .int v1)]) : W p l e (rmD 1) s m args below meth c H locs 0 0 (MQ below (QcP D cy LC b (some (.int r.1)) r.2) args s 0 0 (inP LC b)) (F0 m 0 ls []) := by
  have hx := E.1.1
  have hb := E.1.2.1
  unfold f_X11_isKeeperSet at hm
  refine lv_iload_n hx hb dX11_isKeeperSet_0 rfl (lv_at hl 1 rfl) ?_
  refine lv_aload_n hx hb dX11_isKeeperSet_1 rfl (lv_at hl 0 rfl) ?_
  refine q_geta E hw fw_X11_25 rfl hv0 dX11_isKeeperSet_2 ?_
  refine q_geta E hw fw_X11_40 rfl (tC_11_2 hv0) dX11_isKeeperSet_5 ?_
  refine q_cVi (κ := 7) (C := RX7) (T := TX7) (N := 12) [.int v1] E hw hm mw_X11_346 (fun u hu => c_X7_keeperSet hu (tC_10_0 (tC_11_2 hv0))) rfl (by decide) (tC_10_0 (tC_11_2 hv0)) rfl rfl hl.1 (Nat.le_of_ble_eq_true rfl) ⟨Nat.le_of_ble_eq_true rfl, Nat.le_of_ble_eq_true rfl⟩ dX11_isKeeperSet_8 (fun u1 H locs hm hw => ?_)
  refine lv_iconst (v := (-1)) hx hb dX11_isKeeperSet_11 (by decide) ?_
  refine lv_ixor hx hb dX11_isKeeperSet_12 ?_
  refine lv_iand hx hb dX11_isKeeperSet_13 ?_
  refine lv_if_ne (tgt := 21) hx hb dX11_isKeeperSet_14 (by decide) (fun c2 => ?_) (fun c2 => ?_)
  · have hm := o_f c2 hm
    refine lv_iconst (v := 0) hx hb dX11_isKeeperSet_21 (by decide) ?_
    exact w_X11_isKeeperSet_22 E hr hlk hm  hw (lv_sub hl [] rfl)
  · have hm := o_t c2 hm
    refine lv_iconst (v := 1) hx hb dX11_isKeeperSet_17 (by decide) ?_
    refine lv_goto (tgt := 22) hx hb dX11_isKeeperSet_18 (by decide) ?_
    exact w_X11_isKeeperSet_22 E hr hlk hm  hw (lv_sub hl [] rfl)
theorem c_X11_isKeeperSet {l : Launch} {D : va_G} {cy : Nat → ClassId} {b : Nat} {v0 : Nat} {v1 : Int32} {σ : ST} {r : Int32 × ST} (hm : f_X11_isKeeperSet v0 v1 σ = some r) (hv0 : LC.1 v0 = 11) : Met l yX11_isKeeperSet (wU yX11_isKeeperSet cX11_isKeeperSet 2 (some .boolean)) (rmD 1) (PcP D cy LC b [.ref (b + v0), .int v1] σ) (QcP D cy LC b (some (.int r.1)) r.2) 0 0 (inP LC b) :=
  q_met (lv := [(0, .ref (b + v0)), (1, .int v1)]) LC_ok (by decide) (Nat.le_of_ble_eq_true rfl) rfl (fun _ _ _ _ _ _ _ _ _ E hr hlk hw hl => w_X11_isKeeperSet_0 E hr hlk hm hv0 hw hl)

def f_X11_part (v0 : Nat) (v1 : Int32) (σ : ST) : Option (Int32 × ST) :=
  (f_X11_isKeeperSet v0 v1 σ).bind fun u1 =>
  if u1.1 = 0 then ((f_X11_refused v0 1 u1.2).bind fun u5 =>
  (ckZ u5.1).bind fun z => some (z, u5.2)) else ((stI u1.2 (LC.2.1 v0 2) 10 v1).bind fun σ3 =>
  (f_X11_allowed v0 σ3).bind fun u4 =>
  (ckZ u4.1).bind fun z => some (z, u4.2))
set_option maxRecDepth 20000 in
set_option maxHeartbeats 1000000 in
theorem w_X11_part_0 {p : Program} {l : Launch} {e : Env} {s : State} {m : MethodId} {args : Array Value} {below : List Frame} {meth : Method} {c : Code} {D : va_G} {cy : Nat → ClassId} {b : Nat} (E : CX p m c cX11_part 2 s args RX11 D cy LC) (hr : meth.sig.returnType = some .boolean) (hlk : meth.locks = false) {r : Int32 × ST} {v0 : Nat} {v1 : Int32} {σ : ST} {H : Heap} {locs : List Loc} {ls : Array Slot} (hm : f_X11_part v0 v1 σ = some r) (hv0 : LC.1 v0 = 11) (hw : PH D cy LC b σ s H locs) (hl : lv_has ls 2 [(0, .ref (b + v0)), (1, .int v1)]) : W p l e (rmD 2) s m args below meth c H locs 0 0 (MQ below (QcP D cy LC b (some (.int r.1)) r.2) args s 0 0 (inP LC b)) (F0 m 0 ls []) := by
  have hx := E.1.1
  have hb := E.1.2.1
  unfold f_X11_part at hm
  refine lv_aload_n hx hb dX11_part_0 rfl (lv_at hl 0 rfl) ?_
  refine lv_iload_n hx hb dX11_part_1 rfl (lv_at hl 1 rfl) ?_
  refine q_cVi (κ := 11) (C := RX11) (T := TX11) (N := 20) [] E hw hm mw_X11_287 (fun u hu => c_X11_isKeeperSet hu hv0) rfl (by decide) hv0 rfl rfl hl.1 (Nat.le_of_ble_eq_true rfl) ⟨Nat.le_of_ble_eq_true rfl, Nat.le_of_ble_eq_true rfl⟩ dX11_part_2 (fun u1 H locs hm hw => ?_)
  refine lv_if_ne (tgt := 14) hx hb dX11_part_5 (by decide) (fun c2 => ?_) (fun c2 => ?_)
  · have hm := o_f c2 hm
    refine lv_aload_n hx hb dX11_part_14 rfl (lv_at hl 0 rfl) ?_
    refine q_geta E hw fw_X11_25 rfl hv0 dX11_part_15 ?_
    refine lv_iload_n hx hb dX11_part_18 rfl (lv_at hl 1 rfl) ?_
    refine q_pi E hw hm fw_X11_226 rfl rfl (tC_11_2 hv0) dX11_part_19 (fun σ3 H locs hm hw => ?_)
    refine lv_aload_n hx hb dX11_part_22 rfl (lv_at hl 0 rfl) ?_
    refine q_cVi (κ := 11) (C := RX11) (T := TX11) (N := 20) [] E hw hm mw_X11_130 (fun u hu => c_X11_allowed hu hv0) rfl (by decide) hv0 rfl rfl hl.1 (Nat.le_of_ble_eq_true rfl) ⟨Nat.le_of_ble_eq_true rfl, Nat.le_of_ble_eq_true rfl⟩ dX11_part_23 (fun u4 H locs hm hw => ?_)
    exact q_zret E hr hlk hw hm dX11_part_26
  · have hm := o_t c2 hm
    refine lv_aload_n hx hb dX11_part_8 rfl (lv_at hl 0 rfl) ?_
    refine lv_iconst (v := 1) hx hb dX11_part_9 (by decide) ?_
    refine q_cVi (κ := 11) (C := RX11) (T := TX11) (N := 20) [] E hw hm mw_X11_123 (fun u hu => c_X11_refused hu hv0) rfl (by decide) hv0 rfl rfl hl.1 (Nat.le_of_ble_eq_true rfl) ⟨Nat.le_of_ble_eq_true rfl, Nat.le_of_ble_eq_true rfl⟩ dX11_part_10 (fun u5 H locs hm hw => ?_)
    exact q_zret E hr hlk hw hm dX11_part_13
theorem c_X11_part {l : Launch} {D : va_G} {cy : Nat → ClassId} {b : Nat} {v0 : Nat} {v1 : Int32} {σ : ST} {r : Int32 × ST} (hm : f_X11_part v0 v1 σ = some r) (hv0 : LC.1 v0 = 11) : Met l yX11_part (wU yX11_part cX11_part 2 (some .boolean)) (rmD 2) (PcP D cy LC b [.ref (b + v0), .int v1] σ) (QcP D cy LC b (some (.int r.1)) r.2) 0 0 (inP LC b) :=
  q_met (lv := [(0, .ref (b + v0)), (1, .int v1)]) LC_ok (by decide) (Nat.le_of_ble_eq_true rfl) rfl (fun _ _ _ _ _ _ _ _ _ E hr hlk hw hl => w_X11_part_0 E hr hlk hm hv0 hw hl)

def f_X11_hand (v0 : Nat) (σ : ST) : Option (Int32 × ST) :=
  (f_X10_handOn (LC.2.1 v0 2) σ).bind fun u1 =>
  (f_X11_answer v0 u1.1 u1.2).bind fun u2 =>
  some (u2.1, u2.2)
set_option maxRecDepth 20000 in
set_option maxHeartbeats 1000000 in
theorem w_X11_hand_0 {p : Program} {l : Launch} {e : Env} {s : State} {m : MethodId} {args : Array Value} {below : List Frame} {meth : Method} {c : Code} {D : va_G} {cy : Nat → ClassId} {b : Nat} (E : CX p m c cX11_hand 1 s args RX11 D cy LC) (hr : meth.sig.returnType = some .int) (hlk : meth.locks = false) {r : Int32 × ST} {v0 : Nat} {σ : ST} {H : Heap} {locs : List Loc} {ls : Array Slot} (hm : f_X11_hand v0 σ = some r) (hv0 : LC.1 v0 = 11) (hw : PH D cy LC b σ s H locs) (hl : lv_has ls 1 [(0, .ref (b + v0))]) : W p l e (rmD 6) s m args below meth c H locs 0 0 (MQ below (QcP D cy LC b (some (.int r.1)) r.2) args s 0 0 (inP LC b)) (F0 m 0 ls []) := by
  have hx := E.1.1
  have hb := E.1.2.1
  unfold f_X11_hand at hm
  refine lv_aload_n hx hb dX11_hand_0 rfl (lv_at hl 0 rfl) ?_
  refine lv_aload_n hx hb dX11_hand_1 rfl (lv_at hl 0 rfl) ?_
  refine q_geta E hw fw_X11_25 rfl hv0 dX11_hand_2 ?_
  refine q_cVi (κ := 10) (C := RX10) (T := TX10) (N := 12) [.ref (b + v0)] E hw hm mw_X11_290 (fun u hu => c_X10_handOn hu (tC_11_2 hv0)) rfl (by decide) (tC_11_2 hv0) rfl rfl hl.1 (Nat.le_of_ble_eq_true rfl) ⟨Nat.le_of_ble_eq_true rfl, Nat.le_of_ble_eq_true rfl⟩ dX11_hand_5 (fun u1 H locs hm hw => ?_)
  refine q_cVi (κ := 11) (C := RX11) (T := TX11) (N := 20) [] E hw hm mw_X11_187 (fun u hu => c_X11_answer hu hv0) rfl (by decide) hv0 rfl rfl hl.1 (Nat.le_of_ble_eq_true rfl) ⟨Nat.le_of_ble_eq_true rfl, Nat.le_of_ble_eq_true rfl⟩ dX11_hand_8 (fun u2 H locs hm hw => ?_)
  exact q_iret E hr hlk hw hm dX11_hand_11
theorem c_X11_hand {l : Launch} {D : va_G} {cy : Nat → ClassId} {b : Nat} {v0 : Nat} {σ : ST} {r : Int32 × ST} (hm : f_X11_hand v0 σ = some r) (hv0 : LC.1 v0 = 11) : Met l yX11_hand (wU yX11_hand cX11_hand 1 (some .int)) (rmD 6) (PcP D cy LC b [.ref (b + v0)] σ) (QcP D cy LC b (some (.int r.1)) r.2) 0 0 (inP LC b) :=
  q_met (lv := [(0, .ref (b + v0))]) LC_ok (by decide) (Nat.le_of_ble_eq_true rfl) rfl (fun _ _ _ _ _ _ _ _ _ E hr hlk hw hl => w_X11_hand_0 E hr hlk hm hv0 hw hl)

def k_X11_night_56 (s0 : Int32) (σ : ST) : Option (Int32 × ST) :=
  some (s0, σ)
set_option maxRecDepth 20000 in
set_option maxHeartbeats 1000000 in
theorem w_X11_night_56 {p : Program} {l : Launch} {e : Env} {s : State} {m : MethodId} {args : Array Value} {below : List Frame} {meth : Method} {c : Code} {D : va_G} {cy : Nat → ClassId} {b : Nat} (E : CX p m c cX11_night 4 s args RX11 D cy LC) (hr : meth.sig.returnType = some .int) (hlk : meth.locks = false) {r : Int32 × ST} {s0 : Int32} {σ : ST} {H : Heap} {locs : List Loc} {ls : Array Slot} (hm : k_X11_night_56 s0 σ = some r) (hw : PH D cy LC b σ s H locs) (hl : lv_has ls 4 []) : W p l e (rmD 3) s m args below meth c H locs 0 0 (MQ below (QcP D cy LC b (some (.int r.1)) r.2) args s 0 0 (inP LC b)) (F0 m 56 ls [.int s0]) := by
  have hx := E.1.1
  have hb := E.1.2.1
  unfold k_X11_night_56 at hm
  exact q_iret E hr hlk hw hm dX11_night_56
def k_X11_night_21 (v0 : Nat) (σ : ST) : Option (Int32 × ST) :=
  (f_X11_refuse v0 1 σ).bind fun u1 =>
  some (u1.1, u1.2)
set_option maxRecDepth 20000 in
set_option maxHeartbeats 1000000 in
theorem w_X11_night_21 {p : Program} {l : Launch} {e : Env} {s : State} {m : MethodId} {args : Array Value} {below : List Frame} {meth : Method} {c : Code} {D : va_G} {cy : Nat → ClassId} {b : Nat} (E : CX p m c cX11_night 4 s args RX11 D cy LC) (hr : meth.sig.returnType = some .int) (hlk : meth.locks = false) {r : Int32 × ST} {v0 : Nat} {σ : ST} {H : Heap} {locs : List Loc} {ls : Array Slot} (hm : k_X11_night_21 v0 σ = some r) (hv0 : LC.1 v0 = 11) (hw : PH D cy LC b σ s H locs) (hl : lv_has ls 4 [(0, .ref (b + v0))]) : W p l e (rmD 3) s m args below meth c H locs 0 0 (MQ below (QcP D cy LC b (some (.int r.1)) r.2) args s 0 0 (inP LC b)) (F0 m 21 ls []) := by
  have hx := E.1.1
  have hb := E.1.2.1
  unfold k_X11_night_21 at hm
  refine lv_aload_n hx hb dX11_night_21 rfl (lv_at hl 0 rfl) ?_
  refine lv_iconst (v := 1) hx hb dX11_night_22 (by decide) ?_
  refine q_cVi (κ := 11) (C := RX11) (T := TX11) (N := 20) [] E hw hm mw_X11_142 (fun u hu => c_X11_refuse hu hv0) rfl (by decide) hv0 rfl rfl hl.1 (Nat.le_of_ble_eq_true rfl) ⟨Nat.le_of_ble_eq_true rfl, Nat.le_of_ble_eq_true rfl⟩ dX11_night_23 (fun u1 H locs hm hw => ?_)
  exact q_iret E hr hlk hw hm dX11_night_26
def f_X11_night (v0 : Nat) (v1 : Int32) (v2 : Int32) (σ : ST) : Option (Int32 × ST) :=
  (f_X11_isKeeper v0 v1 σ).bind fun u2 =>
  if u2.1 = 0 then (k_X11_night_21 v0 u2.2) else ((f_X11_isKeeper v0 v2 u2.2).bind fun u4 =>
  if u4.1 = 0 then (k_X11_night_21 v0 u4.2) else (if v1 = v2 then (k_X11_night_21 v0 u4.2) else ((f_X10_compare (LC.2.1 v0 2) v1 v2 u4.2).bind fun u7 =>
  if u7.1 = (-1) then ((f_X11_refuse v0 7 u7.2).bind fun u10 =>
  k_X11_night_56 u10.1 u10.2) else ((f_X11_answer v0 u7.1 u7.2).bind fun u9 =>
  k_X11_night_56 u9.1 u9.2))))
set_option maxRecDepth 20000 in
set_option maxHeartbeats 1000000 in
theorem w_X11_night_0 {p : Program} {l : Launch} {e : Env} {s : State} {m : MethodId} {args : Array Value} {below : List Frame} {meth : Method} {c : Code} {D : va_G} {cy : Nat → ClassId} {b : Nat} (E : CX p m c cX11_night 4 s args RX11 D cy LC) (hr : meth.sig.returnType = some .int) (hlk : meth.locks = false) {r : Int32 × ST} {v0 : Nat} {v1 : Int32} {v2 : Int32} {σ : ST} {H : Heap} {locs : List Loc} {ls : Array Slot} (hm : f_X11_night v0 v1 v2 σ = some r) (hv0 : LC.1 v0 = 11) (hw : PH D cy LC b σ s H locs) (hl : lv_has ls 4 [(0, .ref (b + v0)), (1, .int v1), (2, .int v2)]) : W p l e (rmD 3) s m args below meth c H locs 0 0 (MQ below (QcP D cy LC b (some (.int r.1)) r.2) args s 0 0 (inP LC b)) (F0 m 0 ls []) := by
  have hx := E.1.1
  have hb := E.1.2.1
  unfold f_X11_night at hm
  refine lv_aload_n hx hb dX11_night_0 rfl (lv_at hl 0 rfl) ?_
  refine lv_iload_n hx hb dX11_night_1 rfl (lv_at hl 1 rfl) ?_
  refine q_cVi (κ := 11) (C := RX11) (T := TX11) (N := 20) [] E hw hm mw_X11_241 (fun u hu => c_X11_isKeeper hu hv0) rfl (by decide) hv0 rfl rfl hl.1 (Nat.le_of_ble_eq_true rfl) ⟨Nat.le_of_ble_eq_true rfl, Nat.le_of_ble_eq_true rfl⟩ dX11_night_2 (fun u2 H locs hm hw => ?_)
  refine lv_if_eq (tgt := 21) hx hb dX11_night_5 (by decide) (fun c3 => ?_) (fun c3 => ?_)
  · have hm := o_t c3 hm
    exact w_X11_night_21 E hr hlk hm hv0 hw (lv_sub hl [0] rfl)
  · have hm := o_f c3 hm
    refine lv_aload_n hx hb dX11_night_8 rfl (lv_at hl 0 rfl) ?_
    refine lv_iload_n hx hb dX11_night_9 rfl (lv_at hl 2 rfl) ?_
    refine q_cVi (κ := 11) (C := RX11) (T := TX11) (N := 20) [] E hw hm mw_X11_241 (fun u hu => c_X11_isKeeper hu hv0) rfl (by decide) hv0 rfl rfl hl.1 (Nat.le_of_ble_eq_true rfl) ⟨Nat.le_of_ble_eq_true rfl, Nat.le_of_ble_eq_true rfl⟩ dX11_night_10 (fun u4 H locs hm hw => ?_)
    refine lv_if_eq (tgt := 21) hx hb dX11_night_13 (by decide) (fun c5 => ?_) (fun c5 => ?_)
    · have hm := o_t c5 hm
      exact w_X11_night_21 E hr hlk hm hv0 hw (lv_sub hl [0] rfl)
    · have hm := o_f c5 hm
      refine lv_iload_n hx hb dX11_night_16 rfl (lv_at hl 1 rfl) ?_
      refine lv_iload_n hx hb dX11_night_17 rfl (lv_at hl 2 rfl) ?_
      refine lv_icmp_ne (tgt := 27) hx hb dX11_night_18 (by decide) (fun c6 => ?_) (fun c6 => ?_)
      · have hm := o_f c6 hm
        refine lv_aload_n hx hb dX11_night_27 rfl (lv_at hl 0 rfl) ?_
        refine q_geta E hw fw_X11_25 rfl hv0 dX11_night_28 ?_
        refine lv_iload_n hx hb dX11_night_31 rfl (lv_at hl 1 rfl) ?_
        refine lv_iload_n hx hb dX11_night_32 rfl (lv_at hl 2 rfl) ?_
        refine q_cVi (κ := 10) (C := RX10) (T := TX10) (N := 12) [] E hw hm mw_X11_294 (fun u hu => c_X10_compare hu (tC_11_2 hv0)) rfl (by decide) (tC_11_2 hv0) rfl rfl hl.1 (Nat.le_of_ble_eq_true rfl) ⟨Nat.le_of_ble_eq_true rfl, Nat.le_of_ble_eq_true rfl⟩ dX11_night_33 (fun u7 H locs hm hw => ?_)
        refine lv_istore_n (lv' := [(3, .int u7.1), (0, .ref (b + v0)), (1, .int v1), (2, .int v2)]) hx hb dX11_night_36 rfl hl (by decide) rfl (fun ls hl => ?_)
        refine lv_iload_n hx hb dX11_night_37 rfl (lv_at hl 0 rfl) ?_
        refine lv_iconst (v := (-1)) hx hb dX11_night_38 (by decide) ?_
        refine lv_icmp_ne (tgt := 51) hx hb dX11_night_39 (by decide) (fun c8 => ?_) (fun c8 => ?_)
        · have hm := o_f c8 hm
          refine lv_aload_n hx hb dX11_night_51 rfl (lv_at hl 1 rfl) ?_
          refine lv_iload_n hx hb dX11_night_52 rfl (lv_at hl 0 rfl) ?_
          refine q_cVi (κ := 11) (C := RX11) (T := TX11) (N := 20) [] E hw hm mw_X11_187 (fun u hu => c_X11_answer hu hv0) rfl (by decide) hv0 rfl rfl hl.1 (Nat.le_of_ble_eq_true rfl) ⟨Nat.le_of_ble_eq_true rfl, Nat.le_of_ble_eq_true rfl⟩ dX11_night_53 (fun u9 H locs hm hw => ?_)
          exact w_X11_night_56 E hr hlk hm  hw (lv_sub hl [] rfl)
        · have hm := o_t c8 hm
          refine lv_aload_n hx hb dX11_night_42 rfl (lv_at hl 1 rfl) ?_
          refine lv_bipush (v := 7) hx hb dX11_night_43 (by decide) ?_
          refine q_cVi (κ := 11) (C := RX11) (T := TX11) (N := 20) [] E hw hm mw_X11_142 (fun u hu => c_X11_refuse hu hv0) rfl (by decide) hv0 rfl rfl hl.1 (Nat.le_of_ble_eq_true rfl) ⟨Nat.le_of_ble_eq_true rfl, Nat.le_of_ble_eq_true rfl⟩ dX11_night_45 (fun u10 H locs hm hw => ?_)
          refine lv_goto (tgt := 56) hx hb dX11_night_48 (by decide) ?_
          exact w_X11_night_56 E hr hlk hm  hw (lv_sub hl [] rfl)
      · have hm := o_t c6 hm
        exact w_X11_night_21 E hr hlk hm hv0 hw (lv_sub hl [0] rfl)
theorem c_X11_night {l : Launch} {D : va_G} {cy : Nat → ClassId} {b : Nat} {v0 : Nat} {v1 : Int32} {v2 : Int32} {σ : ST} {r : Int32 × ST} (hm : f_X11_night v0 v1 v2 σ = some r) (hv0 : LC.1 v0 = 11) : Met l yX11_night (wU yX11_night cX11_night 4 (some .int)) (rmD 3) (PcP D cy LC b [.ref (b + v0), .int v1, .int v2] σ) (QcP D cy LC b (some (.int r.1)) r.2) 0 0 (inP LC b) :=
  q_met (lv := [(0, .ref (b + v0)), (1, .int v1), (2, .int v2)]) LC_ok (by decide) (Nat.le_of_ble_eq_true rfl) rfl (fun _ _ _ _ _ _ _ _ _ E hr hlk hw hl => w_X11_night_0 E hr hlk hm hv0 hw hl)

def k_X11_bury_61 (v0 : Nat) (σ : ST) : Option (Int32 × ST) :=
  (f_X11_refuse v0 7 σ).bind fun u1 =>
  some (u1.1, u1.2)
set_option maxRecDepth 20000 in
set_option maxHeartbeats 1000000 in
theorem w_X11_bury_61 {p : Program} {l : Launch} {e : Env} {s : State} {m : MethodId} {args : Array Value} {below : List Frame} {meth : Method} {c : Code} {D : va_G} {cy : Nat → ClassId} {b : Nat} (E : CX p m c cX11_bury 2 s args RX11 D cy LC) (hr : meth.sig.returnType = some .int) (hlk : meth.locks = false) {r : Int32 × ST} {v0 : Nat} {σ : ST} {H : Heap} {locs : List Loc} {ls : Array Slot} (hm : k_X11_bury_61 v0 σ = some r) (hv0 : LC.1 v0 = 11) (hw : PH D cy LC b σ s H locs) (hl : lv_has ls 2 [(0, .ref (b + v0))]) : W p l e (rmD 3) s m args below meth c H locs 0 0 (MQ below (QcP D cy LC b (some (.int r.1)) r.2) args s 0 0 (inP LC b)) (F0 m 61 ls []) := by
  have hx := E.1.1
  have hb := E.1.2.1
  unfold k_X11_bury_61 at hm
  refine lv_aload_n hx hb dX11_bury_61 rfl (lv_at hl 0 rfl) ?_
  refine lv_bipush (v := 7) hx hb dX11_bury_62 (by decide) ?_
  refine q_cVi (κ := 11) (C := RX11) (T := TX11) (N := 20) [] E hw hm mw_X11_142 (fun u hu => c_X11_refuse hu hv0) rfl (by decide) hv0 rfl rfl hl.1 (Nat.le_of_ble_eq_true rfl) ⟨Nat.le_of_ble_eq_true rfl, Nat.le_of_ble_eq_true rfl⟩ dX11_bury_64 (fun u1 H locs hm hw => ?_)
  exact q_iret E hr hlk hw hm dX11_bury_67
def f_X11_bury (v0 : Nat) (v1 : Int32) (σ : ST) : Option (Int32 × ST) :=
  (f_X11_isKey v0 v1 σ).bind fun u2 =>
  if u2.1 = 0 then ((f_X11_refuse v0 1 u2.2).bind fun u13 =>
  some (u13.1, u13.2)) else ((f_X7_isSum (LC.2.1 (LC.2.1 v0 2) 0) v1 u2.2).bind fun u4 =>
  if u4.1 = 0 then ((ldA LC u4.2 (LC.2.1 (LC.2.1 (LC.2.1 v0 2) 0) 5) v1).bind fun a6 =>
  (f_X10_areUp (LC.2.1 v0 2) a6 u4.2).bind fun u7 =>
  if u7.1 = 0 then (k_X11_bury_61 v0 u7.2) else ((f_X10_isAlike (LC.2.1 v0 2) v1 u7.2).bind fun u9 =>
  if u9.1 = 0 then (k_X11_bury_61 v0 u9.2) else ((f_X10_buryGraves (LC.2.1 v0 2) v1 u9.2).bind fun u11 =>
  (f_X11_answer v0 u11.1 u11.2).bind fun u12 =>
  some (u12.1, u12.2)))) else (k_X11_bury_61 v0 u4.2))
set_option maxRecDepth 20000 in
set_option maxHeartbeats 1000000 in
theorem w_X11_bury_0 {p : Program} {l : Launch} {e : Env} {s : State} {m : MethodId} {args : Array Value} {below : List Frame} {meth : Method} {c : Code} {D : va_G} {cy : Nat → ClassId} {b : Nat} (E : CX p m c cX11_bury 2 s args RX11 D cy LC) (hr : meth.sig.returnType = some .int) (hlk : meth.locks = false) {r : Int32 × ST} {v0 : Nat} {v1 : Int32} {σ : ST} {H : Heap} {locs : List Loc} {ls : Array Slot} (hm : f_X11_bury v0 v1 σ = some r) (hv0 : LC.1 v0 = 11) (hw : PH D cy LC b σ s H locs) (hl : lv_has ls 2 [(0, .ref (b + v0)), (1, .int v1)]) : W p l e (rmD 3) s m args below meth c H locs 0 0 (MQ below (QcP D cy LC b (some (.int r.1)) r.2) args s 0 0 (inP LC b)) (F0 m 0 ls []) := by
  have hx := E.1.1
  have hb := E.1.2.1
  unfold f_X11_bury at hm
  refine lv_aload_n hx hb dX11_bury_0 rfl (lv_at hl 0 rfl) ?_
  refine lv_iload_n hx hb dX11_bury_1 rfl (lv_at hl 1 rfl) ?_
  refine q_cVi (κ := 11) (C := RX11) (T := TX11) (N := 20) [] E hw hm mw_X11_232 (fun u hu => c_X11_isKey hu hv0) rfl (by decide) hv0 rfl rfl hl.1 (Nat.le_of_ble_eq_true rfl) ⟨Nat.le_of_ble_eq_true rfl, Nat.le_of_ble_eq_true rfl⟩ dX11_bury_2 (fun u2 H locs hm hw => ?_)
  refine lv_if_ne (tgt := 14) hx hb dX11_bury_5 (by decide) (fun c3 => ?_) (fun c3 => ?_)
  · have hm := o_f c3 hm
    refine lv_aload_n hx hb dX11_bury_14 rfl (lv_at hl 0 rfl) ?_
    refine q_geta E hw fw_X11_25 rfl hv0 dX11_bury_15 ?_
    refine q_geta E hw fw_X11_40 rfl (tC_11_2 hv0) dX11_bury_18 ?_
    refine lv_iload_n hx hb dX11_bury_21 rfl (lv_at hl 1 rfl) ?_
    refine q_cVi (κ := 7) (C := RX7) (T := TX7) (N := 12) [] E hw hm mw_X11_274 (fun u hu => c_X7_isSum hu (tC_10_0 (tC_11_2 hv0))) rfl (by decide) (tC_10_0 (tC_11_2 hv0)) rfl rfl hl.1 (Nat.le_of_ble_eq_true rfl) ⟨Nat.le_of_ble_eq_true rfl, Nat.le_of_ble_eq_true rfl⟩ dX11_bury_22 (fun u4 H locs hm hw => ?_)
    refine lv_if_ne (tgt := 61) hx hb dX11_bury_25 (by decide) (fun c5 => ?_) (fun c5 => ?_)
    · have hm := o_f c5 hm
      exact w_X11_bury_61 E hr hlk hm hv0 hw (lv_sub hl [0] rfl)
    · have hm := o_t c5 hm
      refine lv_aload_n hx hb dX11_bury_28 rfl (lv_at hl 0 rfl) ?_
      refine q_geta E hw fw_X11_25 rfl hv0 dX11_bury_29 ?_
      refine lv_aload_n hx hb dX11_bury_32 rfl (lv_at hl 0 rfl) ?_
      refine q_geta E hw fw_X11_25 rfl hv0 dX11_bury_33 ?_
      refine q_geta E hw fw_X11_40 rfl (tC_11_2 hv0) dX11_bury_36 ?_
      refine q_geta E hw fw_X11_238 rfl (tC_10_0 (tC_11_2 hv0)) dX11_bury_39 ?_
      refine lv_iload_n hx hb dX11_bury_42 rfl (lv_at hl 1 rfl) ?_
      refine q_iald E hw (tC_7_5 (tC_10_0 (tC_11_2 hv0))) hm dX11_bury_43 (fun a6 hm => ?_)
      refine q_cVi (κ := 10) (C := RX10) (T := TX10) (N := 12) [] E hw hm mw_X11_297 (fun u hu => c_X10_areUp hu (tC_11_2 hv0)) rfl (by decide) (tC_11_2 hv0) rfl rfl hl.1 (Nat.le_of_ble_eq_true rfl) ⟨Nat.le_of_ble_eq_true rfl, Nat.le_of_ble_eq_true rfl⟩ dX11_bury_44 (fun u7 H locs hm hw => ?_)
      refine lv_if_eq (tgt := 61) hx hb dX11_bury_47 (by decide) (fun c8 => ?_) (fun c8 => ?_)
      · have hm := o_t c8 hm
        exact w_X11_bury_61 E hr hlk hm hv0 hw (lv_sub hl [0] rfl)
      · have hm := o_f c8 hm
        refine lv_aload_n hx hb dX11_bury_50 rfl (lv_at hl 0 rfl) ?_
        refine q_geta E hw fw_X11_25 rfl hv0 dX11_bury_51 ?_
        refine lv_iload_n hx hb dX11_bury_54 rfl (lv_at hl 1 rfl) ?_
        refine q_cVi (κ := 10) (C := RX10) (T := TX10) (N := 12) [] E hw hm mw_X11_300 (fun u hu => c_X10_isAlike hu (tC_11_2 hv0)) rfl (by decide) (tC_11_2 hv0) rfl rfl hl.1 (Nat.le_of_ble_eq_true rfl) ⟨Nat.le_of_ble_eq_true rfl, Nat.le_of_ble_eq_true rfl⟩ dX11_bury_55 (fun u9 H locs hm hw => ?_)
        refine lv_if_ne (tgt := 68) hx hb dX11_bury_58 (by decide) (fun c10 => ?_) (fun c10 => ?_)
        · have hm := o_f c10 hm
          refine lv_aload_n hx hb dX11_bury_68 rfl (lv_at hl 0 rfl) ?_
          refine lv_aload_n hx hb dX11_bury_69 rfl (lv_at hl 0 rfl) ?_
          refine q_geta E hw fw_X11_25 rfl hv0 dX11_bury_70 ?_
          refine lv_iload_n hx hb dX11_bury_73 rfl (lv_at hl 1 rfl) ?_
          refine q_cVi (κ := 10) (C := RX10) (T := TX10) (N := 12) [.ref (b + v0)] E hw hm mw_X11_303 (fun u hu => c_X10_buryGraves hu (tC_11_2 hv0)) rfl (by decide) (tC_11_2 hv0) rfl rfl hl.1 (Nat.le_of_ble_eq_true rfl) ⟨Nat.le_of_ble_eq_true rfl, Nat.le_of_ble_eq_true rfl⟩ dX11_bury_74 (fun u11 H locs hm hw => ?_)
          refine q_cVi (κ := 11) (C := RX11) (T := TX11) (N := 20) [] E hw hm mw_X11_187 (fun u hu => c_X11_answer hu hv0) rfl (by decide) hv0 rfl rfl hl.1 (Nat.le_of_ble_eq_true rfl) ⟨Nat.le_of_ble_eq_true rfl, Nat.le_of_ble_eq_true rfl⟩ dX11_bury_77 (fun u12 H locs hm hw => ?_)
          exact q_iret E hr hlk hw hm dX11_bury_80
        · have hm := o_t c10 hm
          exact w_X11_bury_61 E hr hlk hm hv0 hw (lv_sub hl [0] rfl)
  · have hm := o_t c3 hm
    refine lv_aload_n hx hb dX11_bury_8 rfl (lv_at hl 0 rfl) ?_
    refine lv_iconst (v := 1) hx hb dX11_bury_9 (by decide) ?_
    refine q_cVi (κ := 11) (C := RX11) (T := TX11) (N := 20) [] E hw hm mw_X11_142 (fun u hu => c_X11_refuse hu hv0) rfl (by decide) hv0 rfl rfl hl.1 (Nat.le_of_ble_eq_true rfl) ⟨Nat.le_of_ble_eq_true rfl, Nat.le_of_ble_eq_true rfl⟩ dX11_bury_10 (fun u13 H locs hm hw => ?_)
    exact q_iret E hr hlk hw hm dX11_bury_13
theorem c_X11_bury {l : Launch} {D : va_G} {cy : Nat → ClassId} {b : Nat} {v0 : Nat} {v1 : Int32} {σ : ST} {r : Int32 × ST} (hm : f_X11_bury v0 v1 σ = some r) (hv0 : LC.1 v0 = 11) : Met l yX11_bury (wU yX11_bury cX11_bury 2 (some .int)) (rmD 3) (PcP D cy LC b [.ref (b + v0), .int v1] σ) (QcP D cy LC b (some (.int r.1)) r.2) 0 0 (inP LC b) :=
  q_met (lv := [(0, .ref (b + v0)), (1, .int v1)]) LC_ok (by decide) (Nat.le_of_ble_eq_true rfl) rfl (fun _ _ _ _ _ _ _ _ _ E hr hlk hw hl => w_X11_bury_0 E hr hlk hm hv0 hw hl)

def k_X11_twins_16 (v0 : Nat) (σ : ST) : Option (Int32 × ST) :=
  (f_X11_refuse v0 1 σ).bind fun u1 =>
  some (u1.1, u1.2)
set_option maxRecDepth 20000 in
set_option maxHeartbeats 1000000 in
theorem w_X11_twins_16 {p : Program} {l : Launch} {e : Env} {s : State} {m : MethodId} {args : Array Value} {below : List Frame} {meth : Method} {c : Code} {D : va_G} {cy : Nat → ClassId} {b : Nat} (E : CX p m c cX11_twins 3 s args RX11 D cy LC) (hr : meth.sig.returnType = some .int) (hlk : meth.locks = false) {r : Int32 × ST} {v0 : Nat} {σ : ST} {H : Heap} {locs : List Loc} {ls : Array Slot} (hm : k_X11_twins_16 v0 σ = some r) (hv0 : LC.1 v0 = 11) (hw : PH D cy LC b σ s H locs) (hl : lv_has ls 3 [(0, .ref (b + v0))]) : W p l e (rmD 2) s m args below meth c H locs 0 0 (MQ below (QcP D cy LC b (some (.int r.1)) r.2) args s 0 0 (inP LC b)) (F0 m 16 ls []) := by
  have hx := E.1.1
  have hb := E.1.2.1
  unfold k_X11_twins_16 at hm
  refine lv_aload_n hx hb dX11_twins_16 rfl (lv_at hl 0 rfl) ?_
  refine lv_iconst (v := 1) hx hb dX11_twins_17 (by decide) ?_
  refine q_cVi (κ := 11) (C := RX11) (T := TX11) (N := 20) [] E hw hm mw_X11_142 (fun u hu => c_X11_refuse hu hv0) rfl (by decide) hv0 rfl rfl hl.1 (Nat.le_of_ble_eq_true rfl) ⟨Nat.le_of_ble_eq_true rfl, Nat.le_of_ble_eq_true rfl⟩ dX11_twins_18 (fun u1 H locs hm hw => ?_)
  exact q_iret E hr hlk hw hm dX11_twins_21
def f_X11_twins (v0 : Nat) (v1 : Int32) (v2 : Int32) (σ : ST) : Option (Int32 × ST) :=
  (f_X11_isKeeper v0 v1 σ).bind fun u2 =>
  if u2.1 = 0 then (k_X11_twins_16 v0 u2.2) else ((f_X11_isKey v0 v2 u2.2).bind fun u4 =>
  if u4.1 = 0 then (k_X11_twins_16 v0 u4.2) else ((f_X10_cellOf v1 v2 u4.2).bind fun u6 =>
  (f_X0_twinCount (LC.2.1 (LC.2.1 v0 2) 2) u6.1 u6.2).bind fun u7 =>
  (f_X11_answer v0 u7.1 u7.2).bind fun u8 =>
  some (u8.1, u8.2)))
set_option maxRecDepth 20000 in
set_option maxHeartbeats 1000000 in
theorem w_X11_twins_0 {p : Program} {l : Launch} {e : Env} {s : State} {m : MethodId} {args : Array Value} {below : List Frame} {meth : Method} {c : Code} {D : va_G} {cy : Nat → ClassId} {b : Nat} (E : CX p m c cX11_twins 3 s args RX11 D cy LC) (hr : meth.sig.returnType = some .int) (hlk : meth.locks = false) {r : Int32 × ST} {v0 : Nat} {v1 : Int32} {v2 : Int32} {σ : ST} {H : Heap} {locs : List Loc} {ls : Array Slot} (hm : f_X11_twins v0 v1 v2 σ = some r) (hv0 : LC.1 v0 = 11) (hw : PH D cy LC b σ s H locs) (hl : lv_has ls 3 [(0, .ref (b + v0)), (1, .int v1), (2, .int v2)]) : W p l e (rmD 2) s m args below meth c H locs 0 0 (MQ below (QcP D cy LC b (some (.int r.1)) r.2) args s 0 0 (inP LC b)) (F0 m 0 ls []) := by
  have hx := E.1.1
  have hb := E.1.2.1
  unfold f_X11_twins at hm
  refine lv_aload_n hx hb dX11_twins_0 rfl (lv_at hl 0 rfl) ?_
  refine lv_iload_n hx hb dX11_twins_1 rfl (lv_at hl 1 rfl) ?_
  refine q_cVi (κ := 11) (C := RX11) (T := TX11) (N := 20) [] E hw hm mw_X11_241 (fun u hu => c_X11_isKeeper hu hv0) rfl (by decide) hv0 rfl rfl hl.1 (Nat.le_of_ble_eq_true rfl) ⟨Nat.le_of_ble_eq_true rfl, Nat.le_of_ble_eq_true rfl⟩ dX11_twins_2 (fun u2 H locs hm hw => ?_)
  refine lv_if_eq (tgt := 16) hx hb dX11_twins_5 (by decide) (fun c3 => ?_) (fun c3 => ?_)
  · have hm := o_t c3 hm
    exact w_X11_twins_16 E hr hlk hm hv0 hw (lv_sub hl [0] rfl)
  · have hm := o_f c3 hm
    refine lv_aload_n hx hb dX11_twins_8 rfl (lv_at hl 0 rfl) ?_
    refine lv_iload_n hx hb dX11_twins_9 rfl (lv_at hl 2 rfl) ?_
    refine q_cVi (κ := 11) (C := RX11) (T := TX11) (N := 20) [] E hw hm mw_X11_232 (fun u hu => c_X11_isKey hu hv0) rfl (by decide) hv0 rfl rfl hl.1 (Nat.le_of_ble_eq_true rfl) ⟨Nat.le_of_ble_eq_true rfl, Nat.le_of_ble_eq_true rfl⟩ dX11_twins_10 (fun u4 H locs hm hw => ?_)
    refine lv_if_ne (tgt := 22) hx hb dX11_twins_13 (by decide) (fun c5 => ?_) (fun c5 => ?_)
    · have hm := o_f c5 hm
      refine lv_aload_n hx hb dX11_twins_22 rfl (lv_at hl 0 rfl) ?_
      refine lv_aload_n hx hb dX11_twins_23 rfl (lv_at hl 0 rfl) ?_
      refine q_geta E hw fw_X11_25 rfl hv0 dX11_twins_24 ?_
      refine q_geta E hw fw_X11_306 rfl (tC_11_2 hv0) dX11_twins_27 ?_
      refine lv_iload_n hx hb dX11_twins_30 rfl (lv_at hl 1 rfl) ?_
      refine lv_iload_n hx hb dX11_twins_31 rfl (lv_at hl 2 rfl) ?_
      refine q_cSi [.ref (b + (LC.2.1 (LC.2.1 v0 2) 2)), .ref (b + v0)] E hw hm ms_X11_309 (fun u hu => c_X10_cellOf hu ) rfl rfl hl.1 (Nat.le_of_ble_eq_true rfl) ⟨Nat.le_of_ble_eq_true rfl, Nat.le_of_ble_eq_true rfl⟩ dX11_twins_32 (fun u6 H locs hm hw => ?_)
      refine q_cVi (κ := 0) (C := RX0) (T := TX0) (N := 2) [.ref (b + v0)] E hw hm mw_X11_312 (fun u hu => c_X0_twinCount hu (tC_10_2 (tC_11_2 hv0))) rfl (by decide) (tC_10_2 (tC_11_2 hv0)) rfl rfl hl.1 (Nat.le_of_ble_eq_true rfl) ⟨Nat.le_of_ble_eq_true rfl, Nat.le_of_ble_eq_true rfl⟩ dX11_twins_35 (fun u7 H locs hm hw => ?_)
      refine q_cVi (κ := 11) (C := RX11) (T := TX11) (N := 20) [] E hw hm mw_X11_187 (fun u hu => c_X11_answer hu hv0) rfl (by decide) hv0 rfl rfl hl.1 (Nat.le_of_ble_eq_true rfl) ⟨Nat.le_of_ble_eq_true rfl, Nat.le_of_ble_eq_true rfl⟩ dX11_twins_38 (fun u8 H locs hm hw => ?_)
      exact q_iret E hr hlk hw hm dX11_twins_41
    · have hm := o_t c5 hm
      exact w_X11_twins_16 E hr hlk hm hv0 hw (lv_sub hl [0] rfl)
theorem c_X11_twins {l : Launch} {D : va_G} {cy : Nat → ClassId} {b : Nat} {v0 : Nat} {v1 : Int32} {v2 : Int32} {σ : ST} {r : Int32 × ST} (hm : f_X11_twins v0 v1 v2 σ = some r) (hv0 : LC.1 v0 = 11) : Met l yX11_twins (wU yX11_twins cX11_twins 3 (some .int)) (rmD 2) (PcP D cy LC b [.ref (b + v0), .int v1, .int v2] σ) (QcP D cy LC b (some (.int r.1)) r.2) 0 0 (inP LC b) :=
  q_met (lv := [(0, .ref (b + v0)), (1, .int v1), (2, .int v2)]) LC_ok (by decide) (Nat.le_of_ble_eq_true rfl) rfl (fun _ _ _ _ _ _ _ _ _ E hr hlk hw hl => w_X11_twins_0 E hr hlk hm hv0 hw hl)

def k_X11_twin_112 (s0 : Nat) (s1 : Int32) (σ : ST) : Option (Int32 × ST) :=
  (f_X11_answer s0 s1 σ).bind fun u1 =>
  some (u1.1, u1.2)
set_option maxRecDepth 20000 in
set_option maxHeartbeats 1000000 in
theorem w_X11_twin_112 {p : Program} {l : Launch} {e : Env} {s : State} {m : MethodId} {args : Array Value} {below : List Frame} {meth : Method} {c : Code} {D : va_G} {cy : Nat → ClassId} {b : Nat} (E : CX p m c cX11_twin 6 s args RX11 D cy LC) (hr : meth.sig.returnType = some .int) (hlk : meth.locks = false) {r : Int32 × ST} {s0 : Nat} {s1 : Int32} {σ : ST} {H : Heap} {locs : List Loc} {ls : Array Slot} (hm : k_X11_twin_112 s0 s1 σ = some r) (hs0 : LC.1 s0 = 11) (hw : PH D cy LC b σ s H locs) (hl : lv_has ls 6 []) : W p l e (rmD 2) s m args below meth c H locs 0 0 (MQ below (QcP D cy LC b (some (.int r.1)) r.2) args s 0 0 (inP LC b)) (F0 m 112 ls [.int s1, .ref (b + s0)]) := by
  have hx := E.1.1
  have hb := E.1.2.1
  unfold k_X11_twin_112 at hm
  refine q_cVi (κ := 11) (C := RX11) (T := TX11) (N := 20) [] E hw hm mw_X11_187 (fun u hu => c_X11_answer hu hs0) rfl (by decide) hs0 rfl rfl hl.1 (Nat.le_of_ble_eq_true rfl) ⟨Nat.le_of_ble_eq_true rfl, Nat.le_of_ble_eq_true rfl⟩ dX11_twin_112 (fun u1 H locs hm hw => ?_)
  exact q_iret E hr hlk hw hm dX11_twin_115
def k_X11_twin_27 (v0 : Nat) (σ : ST) : Option (Int32 × ST) :=
  (f_X11_refuse v0 1 σ).bind fun u2 =>
  some (u2.1, u2.2)
set_option maxRecDepth 20000 in
set_option maxHeartbeats 1000000 in
theorem w_X11_twin_27 {p : Program} {l : Launch} {e : Env} {s : State} {m : MethodId} {args : Array Value} {below : List Frame} {meth : Method} {c : Code} {D : va_G} {cy : Nat → ClassId} {b : Nat} (E : CX p m c cX11_twin 6 s args RX11 D cy LC) (hr : meth.sig.returnType = some .int) (hlk : meth.locks = false) {r : Int32 × ST} {v0 : Nat} {σ : ST} {H : Heap} {locs : List Loc} {ls : Array Slot} (hm : k_X11_twin_27 v0 σ = some r) (hv0 : LC.1 v0 = 11) (hw : PH D cy LC b σ s H locs) (hl : lv_has ls 6 [(0, .ref (b + v0))]) : W p l e (rmD 2) s m args below meth c H locs 0 0 (MQ below (QcP D cy LC b (some (.int r.1)) r.2) args s 0 0 (inP LC b)) (F0 m 27 ls []) := by
  have hx := E.1.1
  have hb := E.1.2.1
  unfold k_X11_twin_27 at hm
  refine lv_aload_n hx hb dX11_twin_27 rfl (lv_at hl 0 rfl) ?_
  refine lv_iconst (v := 1) hx hb dX11_twin_28 (by decide) ?_
  refine q_cVi (κ := 11) (C := RX11) (T := TX11) (N := 20) [] E hw hm mw_X11_142 (fun u hu => c_X11_refuse hu hv0) rfl (by decide) hv0 rfl rfl hl.1 (Nat.le_of_ble_eq_true rfl) ⟨Nat.le_of_ble_eq_true rfl, Nat.le_of_ble_eq_true rfl⟩ dX11_twin_29 (fun u2 H locs hm hw => ?_)
  exact q_iret E hr hlk hw hm dX11_twin_32
def f_X11_twin (v0 : Nat) (v1 : Int32) (v2 : Int32) (v3 : Int32) (v4 : Int32) (σ : ST) : Option (Int32 × ST) :=
  (f_X11_isKeeper v0 v1 σ).bind fun u3 =>
  if u3.1 = 0 then (k_X11_twin_27 v0 u3.2) else ((f_X11_isKey v0 v2 u3.2).bind fun u5 =>
  if u5.1 = 0 then (k_X11_twin_27 v0 u5.2) else (if v4 < 0 then (k_X11_twin_27 v0 u5.2) else (if v4 ≤ 2 then ((f_X10_cellOf v1 v2 u5.2).bind fun u9 =>
  (f_X0_dotAt (LC.2.1 (LC.2.1 v0 2) 2) u9.1 v3 u9.2).bind fun u10 =>
  if u10.1 = (-1) then ((f_X11_refuse v0 6 u10.2).bind fun u18 =>
  some (u18.1, u18.2)) else (if v4 = 0 then ((ldA LC u10.2 (LC.2.1 (LC.2.1 v0 2) 8) ((v2 * 180) + u10.1)).bind fun a16 =>
  (f_X11_answer v0 a16 u10.2).bind fun u17 =>
  some (u17.1, u17.2)) else (if v4 = 1 then ((dvI u10.1 30).bind fun q15 =>
  k_X11_twin_112 v0 q15 u10.2) else ((rmI u10.1 30).bind fun q14 =>
  k_X11_twin_112 v0 (q14 + 1) u10.2)))) else (k_X11_twin_27 v0 u5.2))))
set_option maxRecDepth 20000 in
set_option maxHeartbeats 1000000 in
theorem w_X11_twin_0 {p : Program} {l : Launch} {e : Env} {s : State} {m : MethodId} {args : Array Value} {below : List Frame} {meth : Method} {c : Code} {D : va_G} {cy : Nat → ClassId} {b : Nat} (E : CX p m c cX11_twin 6 s args RX11 D cy LC) (hr : meth.sig.returnType = some .int) (hlk : meth.locks = false) {r : Int32 × ST} {v0 : Nat} {v1 : Int32} {v2 : Int32} {v3 : Int32} {v4 : Int32} {σ : ST} {H : Heap} {locs : List Loc} {ls : Array Slot} (hm : f_X11_twin v0 v1 v2 v3 v4 σ = some r) (hv0 : LC.1 v0 = 11) (hw : PH D cy LC b σ s H locs) (hl : lv_has ls 6 [(0, .ref (b + v0)), (1, .int v1), (2, .int v2), (3, .int v3), (4, .int v4)]) : W p l e (rmD 2) s m args below meth c H locs 0 0 (MQ below (QcP D cy LC b (some (.int r.1)) r.2) args s 0 0 (inP LC b)) (F0 m 0 ls []) := by
  have hx := E.1.1
  have hb := E.1.2.1
  unfold f_X11_twin at hm
  refine lv_aload_n hx hb dX11_twin_0 rfl (lv_at hl 0 rfl) ?_
  refine lv_iload_n hx hb dX11_twin_1 rfl (lv_at hl 1 rfl) ?_
  refine q_cVi (κ := 11) (C := RX11) (T := TX11) (N := 20) [] E hw hm mw_X11_241 (fun u hu => c_X11_isKeeper hu hv0) rfl (by decide) hv0 rfl rfl hl.1 (Nat.le_of_ble_eq_true rfl) ⟨Nat.le_of_ble_eq_true rfl, Nat.le_of_ble_eq_true rfl⟩ dX11_twin_2 (fun u3 H locs hm hw => ?_)
  refine lv_if_eq (tgt := 27) hx hb dX11_twin_5 (by decide) (fun c4 => ?_) (fun c4 => ?_)
  · have hm := o_t c4 hm
    exact w_X11_twin_27 E hr hlk hm hv0 hw (lv_sub hl [0] rfl)
  · have hm := o_f c4 hm
    refine lv_aload_n hx hb dX11_twin_8 rfl (lv_at hl 0 rfl) ?_
    refine lv_iload_n hx hb dX11_twin_9 rfl (lv_at hl 2 rfl) ?_
    refine q_cVi (κ := 11) (C := RX11) (T := TX11) (N := 20) [] E hw hm mw_X11_232 (fun u hu => c_X11_isKey hu hv0) rfl (by decide) hv0 rfl rfl hl.1 (Nat.le_of_ble_eq_true rfl) ⟨Nat.le_of_ble_eq_true rfl, Nat.le_of_ble_eq_true rfl⟩ dX11_twin_10 (fun u5 H locs hm hw => ?_)
    refine lv_if_eq (tgt := 27) hx hb dX11_twin_13 (by decide) (fun c6 => ?_) (fun c6 => ?_)
    · have hm := o_t c6 hm
      exact w_X11_twin_27 E hr hlk hm hv0 hw (lv_sub hl [0] rfl)
    · have hm := o_f c6 hm
      refine lv_iload hx hb dX11_twin_16 (lv_at hl 4 rfl) ?_
      refine lv_if_lt (tgt := 27) hx hb dX11_twin_18 (by decide) (fun c7 => ?_) (fun c7 => ?_)
      · have hm := o_t c7 hm
        exact w_X11_twin_27 E hr hlk hm hv0 hw (lv_sub hl [0] rfl)
      · have hm := o_f c7 hm
        refine lv_iload hx hb dX11_twin_21 (lv_at hl 4 rfl) ?_
        refine lv_iconst (v := 2) hx hb dX11_twin_23 (by decide) ?_
        refine lv_icmp_le (tgt := 33) hx hb dX11_twin_24 (by decide) (fun c8 => ?_) (fun c8 => ?_)
        · have hm := o_t c8 hm
          refine lv_aload_n hx hb dX11_twin_33 rfl (lv_at hl 0 rfl) ?_
          refine q_geta E hw fw_X11_25 rfl hv0 dX11_twin_34 ?_
          refine q_geta E hw fw_X11_306 rfl (tC_11_2 hv0) dX11_twin_37 ?_
          refine lv_iload_n hx hb dX11_twin_40 rfl (lv_at hl 1 rfl) ?_
          refine lv_iload_n hx hb dX11_twin_41 rfl (lv_at hl 2 rfl) ?_
          refine q_cSi [.ref (b + (LC.2.1 (LC.2.1 v0 2) 2))] E hw hm ms_X11_309 (fun u hu => c_X10_cellOf hu ) rfl rfl hl.1 (Nat.le_of_ble_eq_true rfl) ⟨Nat.le_of_ble_eq_true rfl, Nat.le_of_ble_eq_true rfl⟩ dX11_twin_42 (fun u9 H locs hm hw => ?_)
          refine lv_iload_n hx hb dX11_twin_45 rfl (lv_at hl 3 rfl) ?_
          refine q_cVi (κ := 0) (C := RX0) (T := TX0) (N := 2) [] E hw hm mw_X11_315 (fun u hu => c_X0_dotAt hu (tC_10_2 (tC_11_2 hv0))) rfl (by decide) (tC_10_2 (tC_11_2 hv0)) rfl rfl hl.1 (Nat.le_of_ble_eq_true rfl) ⟨Nat.le_of_ble_eq_true rfl, Nat.le_of_ble_eq_true rfl⟩ dX11_twin_46 (fun u10 H locs hm hw => ?_)
          refine lv_istore (lv' := [(5, .int u10.1), (0, .ref (b + v0)), (1, .int v1), (2, .int v2), (3, .int v3), (4, .int v4)]) hx hb dX11_twin_49 hl (by decide) rfl (fun ls hl => ?_)
          refine lv_iload hx hb dX11_twin_51 (lv_at hl 0 rfl) ?_
          refine lv_iconst (v := (-1)) hx hb dX11_twin_53 (by decide) ?_
          refine lv_icmp_ne (tgt := 64) hx hb dX11_twin_54 (by decide) (fun c11 => ?_) (fun c11 => ?_)
          · have hm := o_f c11 hm
            refine lv_iload hx hb dX11_twin_64 (lv_at hl 5 rfl) ?_
            refine lv_if_ne (tgt := 90) hx hb dX11_twin_66 (by decide) (fun c12 => ?_) (fun c12 => ?_)
            · have hm := o_f c12 hm
              refine lv_aload_n hx hb dX11_twin_90 rfl (lv_at hl 1 rfl) ?_
              refine lv_iload hx hb dX11_twin_91 (lv_at hl 5 rfl) ?_
              refine lv_iconst (v := 1) hx hb dX11_twin_93 (by decide) ?_
              refine lv_icmp_ne (tgt := 105) hx hb dX11_twin_94 (by decide) (fun c13 => ?_) (fun c13 => ?_)
              · have hm := o_f c13 hm
                refine lv_iload hx hb dX11_twin_105 (lv_at hl 0 rfl) ?_
                refine lv_bipush (v := 30) hx hb dX11_twin_107 (by decide) ?_
                refine q_irem E hm dX11_twin_109 (fun q14 hm => ?_)
                refine lv_iconst (v := 1) hx hb dX11_twin_110 (by decide) ?_
                refine lv_iadd hx hb dX11_twin_111 ?_
                exact w_X11_twin_112 E hr hlk hm hv0 hw (lv_sub hl [] rfl)
              · have hm := o_t c13 hm
                refine lv_iload hx hb dX11_twin_97 (lv_at hl 0 rfl) ?_
                refine lv_bipush (v := 30) hx hb dX11_twin_99 (by decide) ?_
                refine q_idiv E hm dX11_twin_101 (fun q15 hm => ?_)
                refine lv_goto (tgt := 112) hx hb dX11_twin_102 (by decide) ?_
                exact w_X11_twin_112 E hr hlk hm hv0 hw (lv_sub hl [] rfl)
            · have hm := o_t c12 hm
              refine lv_aload_n hx hb dX11_twin_69 rfl (lv_at hl 1 rfl) ?_
              refine lv_aload_n hx hb dX11_twin_70 rfl (lv_at hl 1 rfl) ?_
              refine q_geta E hw fw_X11_25 rfl hv0 dX11_twin_71 ?_
              refine q_geta E hw fw_X11_318 rfl (tC_11_2 hv0) dX11_twin_74 ?_
              refine lv_iload_n hx hb dX11_twin_77 rfl (lv_at hl 3 rfl) ?_
              refine lv_sipush (v := 180) hx hb dX11_twin_78 (by decide) ?_
              refine lv_imul hx hb dX11_twin_81 ?_
              refine lv_iload hx hb dX11_twin_82 (lv_at hl 0 rfl) ?_
              refine lv_iadd hx hb dX11_twin_84 ?_
              refine q_iald E hw (tC_10_8 (tC_11_2 hv0)) hm dX11_twin_85 (fun a16 hm => ?_)
              refine q_cVi (κ := 11) (C := RX11) (T := TX11) (N := 20) [] E hw hm mw_X11_187 (fun u hu => c_X11_answer hu hv0) rfl (by decide) hv0 rfl rfl hl.1 (Nat.le_of_ble_eq_true rfl) ⟨Nat.le_of_ble_eq_true rfl, Nat.le_of_ble_eq_true rfl⟩ dX11_twin_86 (fun u17 H locs hm hw => ?_)
              exact q_iret E hr hlk hw hm dX11_twin_89
          · have hm := o_t c11 hm
            refine lv_aload_n hx hb dX11_twin_57 rfl (lv_at hl 1 rfl) ?_
            refine lv_bipush (v := 6) hx hb dX11_twin_58 (by decide) ?_
            refine q_cVi (κ := 11) (C := RX11) (T := TX11) (N := 20) [] E hw hm mw_X11_142 (fun u hu => c_X11_refuse hu hv0) rfl (by decide) hv0 rfl rfl hl.1 (Nat.le_of_ble_eq_true rfl) ⟨Nat.le_of_ble_eq_true rfl, Nat.le_of_ble_eq_true rfl⟩ dX11_twin_60 (fun u18 H locs hm hw => ?_)
            exact q_iret E hr hlk hw hm dX11_twin_63
        · have hm := o_f c8 hm
          exact w_X11_twin_27 E hr hlk hm hv0 hw (lv_sub hl [0] rfl)
theorem c_X11_twin {l : Launch} {D : va_G} {cy : Nat → ClassId} {b : Nat} {v0 : Nat} {v1 : Int32} {v2 : Int32} {v3 : Int32} {v4 : Int32} {σ : ST} {r : Int32 × ST} (hm : f_X11_twin v0 v1 v2 v3 v4 σ = some r) (hv0 : LC.1 v0 = 11) : Met l yX11_twin (wU yX11_twin cX11_twin 6 (some .int)) (rmD 2) (PcP D cy LC b [.ref (b + v0), .int v1, .int v2, .int v3, .int v4] σ) (QcP D cy LC b (some (.int r.1)) r.2) 0 0 (inP LC b) :=
  q_met (lv := [(0, .ref (b + v0)), (1, .int v1), (2, .int v2), (3, .int v3), (4, .int v4)]) LC_ok (by decide) (Nat.le_of_ble_eq_true rfl) rfl (fun _ _ _ _ _ _ _ _ _ E hr hlk hw hl => w_X11_twin_0 E hr hlk hm hv0 hw hl)

def k_X11_seen_65 (s0 : Nat) (s1 : Int32) (σ : ST) : Option (Int32 × ST) :=
  (f_X11_answer s0 s1 σ).bind fun u1 =>
  some (u1.1, u1.2)
set_option maxRecDepth 20000 in
set_option maxHeartbeats 1000000 in
theorem w_X11_seen_65 {p : Program} {l : Launch} {e : Env} {s : State} {m : MethodId} {args : Array Value} {below : List Frame} {meth : Method} {c : Code} {D : va_G} {cy : Nat → ClassId} {b : Nat} (E : CX p m c cX11_seen 4 s args RX11 D cy LC) (hr : meth.sig.returnType = some .int) (hlk : meth.locks = false) {r : Int32 × ST} {s0 : Nat} {s1 : Int32} {σ : ST} {H : Heap} {locs : List Loc} {ls : Array Slot} (hm : k_X11_seen_65 s0 s1 σ = some r) (hs0 : LC.1 s0 = 11) (hw : PH D cy LC b σ s H locs) (hl : lv_has ls 4 []) : W p l e (rmD 1) s m args below meth c H locs 0 0 (MQ below (QcP D cy LC b (some (.int r.1)) r.2) args s 0 0 (inP LC b)) (F0 m 65 ls [.int s1, .ref (b + s0)]) := by
  have hx := E.1.1
  have hb := E.1.2.1
  unfold k_X11_seen_65 at hm
  refine q_cVi (κ := 11) (C := RX11) (T := TX11) (N := 20) [] E hw hm mw_X11_187 (fun u hu => c_X11_answer hu hs0) rfl (by decide) hs0 rfl rfl hl.1 (Nat.le_of_ble_eq_true rfl) ⟨Nat.le_of_ble_eq_true rfl, Nat.le_of_ble_eq_true rfl⟩ dX11_seen_65 (fun u1 H locs hm hw => ?_)
  exact q_iret E hr hlk hw hm dX11_seen_68
def k_X11_seen_24 (v0 : Nat) (σ : ST) : Option (Int32 × ST) :=
  (f_X11_refuse v0 1 σ).bind fun u2 =>
  some (u2.1, u2.2)
set_option maxRecDepth 20000 in
set_option maxHeartbeats 1000000 in
theorem w_X11_seen_24 {p : Program} {l : Launch} {e : Env} {s : State} {m : MethodId} {args : Array Value} {below : List Frame} {meth : Method} {c : Code} {D : va_G} {cy : Nat → ClassId} {b : Nat} (E : CX p m c cX11_seen 4 s args RX11 D cy LC) (hr : meth.sig.returnType = some .int) (hlk : meth.locks = false) {r : Int32 × ST} {v0 : Nat} {σ : ST} {H : Heap} {locs : List Loc} {ls : Array Slot} (hm : k_X11_seen_24 v0 σ = some r) (hv0 : LC.1 v0 = 11) (hw : PH D cy LC b σ s H locs) (hl : lv_has ls 4 [(0, .ref (b + v0))]) : W p l e (rmD 1) s m args below meth c H locs 0 0 (MQ below (QcP D cy LC b (some (.int r.1)) r.2) args s 0 0 (inP LC b)) (F0 m 24 ls []) := by
  have hx := E.1.1
  have hb := E.1.2.1
  unfold k_X11_seen_24 at hm
  refine lv_aload_n hx hb dX11_seen_24 rfl (lv_at hl 0 rfl) ?_
  refine lv_iconst (v := 1) hx hb dX11_seen_25 (by decide) ?_
  refine q_cVi (κ := 11) (C := RX11) (T := TX11) (N := 20) [] E hw hm mw_X11_142 (fun u hu => c_X11_refuse hu hv0) rfl (by decide) hv0 rfl rfl hl.1 (Nat.le_of_ble_eq_true rfl) ⟨Nat.le_of_ble_eq_true rfl, Nat.le_of_ble_eq_true rfl⟩ dX11_seen_26 (fun u2 H locs hm hw => ?_)
  exact q_iret E hr hlk hw hm dX11_seen_29
def f_X11_seen (v0 : Nat) (v1 : Int32) (v2 : Int32) (v3 : Int32) (σ : ST) : Option (Int32 × ST) :=
  (f_X11_isKeeper v0 v1 σ).bind fun u3 =>
  if u3.1 = 0 then (k_X11_seen_24 v0 u3.2) else ((f_X11_isKey v0 v2 u3.2).bind fun u5 =>
  if u5.1 = 0 then (k_X11_seen_24 v0 u5.2) else ((f_X11_isKeeper v0 v3 u5.2).bind fun u7 =>
  if u7.1 = 0 then (k_X11_seen_24 v0 u7.2) else ((f_X7_isSum (LC.2.1 (LC.2.1 v0 2) 0) v2 u7.2).bind fun u9 =>
  if u9.1 = 0 then ((f_X10_cellOf v1 v2 u9.2).bind fun u11 =>
  (f_X0_seenOf (LC.2.1 (LC.2.1 v0 2) 2) u11.1 v3 u11.2).bind fun u12 =>
  k_X11_seen_65 v0 u12.1 u12.2) else (k_X11_seen_65 v0 0 u9.2))))
set_option maxRecDepth 20000 in
set_option maxHeartbeats 1000000 in
theorem w_X11_seen_0 {p : Program} {l : Launch} {e : Env} {s : State} {m : MethodId} {args : Array Value} {below : List Frame} {meth : Method} {c : Code} {D : va_G} {cy : Nat → ClassId} {b : Nat} (E : CX p m c cX11_seen 4 s args RX11 D cy LC) (hr : meth.sig.returnType = some .int) (hlk : meth.locks = false) {r : Int32 × ST} {v0 : Nat} {v1 : Int32} {v2 : Int32} {v3 : Int32} {σ : ST} {H : Heap} {locs : List Loc} {ls : Array Slot} (hm : f_X11_seen v0 v1 v2 v3 σ = some r) (hv0 : LC.1 v0 = 11) (hw : PH D cy LC b σ s H locs) (hl : lv_has ls 4 [(0, .ref (b + v0)), (1, .int v1), (2, .int v2), (3, .int v3)]) : W p l e (rmD 1) s m args below meth c H locs 0 0 (MQ below (QcP D cy LC b (some (.int r.1)) r.2) args s 0 0 (inP LC b)) (F0 m 0 ls []) := by
  have hx := E.1.1
  have hb := E.1.2.1
  unfold f_X11_seen at hm
  refine lv_aload_n hx hb dX11_seen_0 rfl (lv_at hl 0 rfl) ?_
  refine lv_iload_n hx hb dX11_seen_1 rfl (lv_at hl 1 rfl) ?_
  refine q_cVi (κ := 11) (C := RX11) (T := TX11) (N := 20) [] E hw hm mw_X11_241 (fun u hu => c_X11_isKeeper hu hv0) rfl (by decide) hv0 rfl rfl hl.1 (Nat.le_of_ble_eq_true rfl) ⟨Nat.le_of_ble_eq_true rfl, Nat.le_of_ble_eq_true rfl⟩ dX11_seen_2 (fun u3 H locs hm hw => ?_)
  refine lv_if_eq (tgt := 24) hx hb dX11_seen_5 (by decide) (fun c4 => ?_) (fun c4 => ?_)
  · have hm := o_t c4 hm
    exact w_X11_seen_24 E hr hlk hm hv0 hw (lv_sub hl [0] rfl)
  · have hm := o_f c4 hm
    refine lv_aload_n hx hb dX11_seen_8 rfl (lv_at hl 0 rfl) ?_
    refine lv_iload_n hx hb dX11_seen_9 rfl (lv_at hl 2 rfl) ?_
    refine q_cVi (κ := 11) (C := RX11) (T := TX11) (N := 20) [] E hw hm mw_X11_232 (fun u hu => c_X11_isKey hu hv0) rfl (by decide) hv0 rfl rfl hl.1 (Nat.le_of_ble_eq_true rfl) ⟨Nat.le_of_ble_eq_true rfl, Nat.le_of_ble_eq_true rfl⟩ dX11_seen_10 (fun u5 H locs hm hw => ?_)
    refine lv_if_eq (tgt := 24) hx hb dX11_seen_13 (by decide) (fun c6 => ?_) (fun c6 => ?_)
    · have hm := o_t c6 hm
      exact w_X11_seen_24 E hr hlk hm hv0 hw (lv_sub hl [0] rfl)
    · have hm := o_f c6 hm
      refine lv_aload_n hx hb dX11_seen_16 rfl (lv_at hl 0 rfl) ?_
      refine lv_iload_n hx hb dX11_seen_17 rfl (lv_at hl 3 rfl) ?_
      refine q_cVi (κ := 11) (C := RX11) (T := TX11) (N := 20) [] E hw hm mw_X11_241 (fun u hu => c_X11_isKeeper hu hv0) rfl (by decide) hv0 rfl rfl hl.1 (Nat.le_of_ble_eq_true rfl) ⟨Nat.le_of_ble_eq_true rfl, Nat.le_of_ble_eq_true rfl⟩ dX11_seen_18 (fun u7 H locs hm hw => ?_)
      refine lv_if_ne (tgt := 30) hx hb dX11_seen_21 (by decide) (fun c8 => ?_) (fun c8 => ?_)
      · have hm := o_f c8 hm
        refine lv_aload_n hx hb dX11_seen_30 rfl (lv_at hl 0 rfl) ?_
        refine lv_aload_n hx hb dX11_seen_31 rfl (lv_at hl 0 rfl) ?_
        refine q_geta E hw fw_X11_25 rfl hv0 dX11_seen_32 ?_
        refine q_geta E hw fw_X11_40 rfl (tC_11_2 hv0) dX11_seen_35 ?_
        refine lv_iload_n hx hb dX11_seen_38 rfl (lv_at hl 2 rfl) ?_
        refine q_cVi (κ := 7) (C := RX7) (T := TX7) (N := 12) [.ref (b + v0)] E hw hm mw_X11_274 (fun u hu => c_X7_isSum hu (tC_10_0 (tC_11_2 hv0))) rfl (by decide) (tC_10_0 (tC_11_2 hv0)) rfl rfl hl.1 (Nat.le_of_ble_eq_true rfl) ⟨Nat.le_of_ble_eq_true rfl, Nat.le_of_ble_eq_true rfl⟩ dX11_seen_39 (fun u9 H locs hm hw => ?_)
        refine lv_if_eq (tgt := 49) hx hb dX11_seen_42 (by decide) (fun c10 => ?_) (fun c10 => ?_)
        · have hm := o_t c10 hm
          refine lv_aload_n hx hb dX11_seen_49 rfl (lv_at hl 0 rfl) ?_
          refine q_geta E hw fw_X11_25 rfl hv0 dX11_seen_50 ?_
          refine q_geta E hw fw_X11_306 rfl (tC_11_2 hv0) dX11_seen_53 ?_
          refine lv_iload_n hx hb dX11_seen_56 rfl (lv_at hl 1 rfl) ?_
          refine lv_iload_n hx hb dX11_seen_57 rfl (lv_at hl 2 rfl) ?_
          refine q_cSi [.ref (b + (LC.2.1 (LC.2.1 v0 2) 2)), .ref (b + v0)] E hw hm ms_X11_309 (fun u hu => c_X10_cellOf hu ) rfl rfl hl.1 (Nat.le_of_ble_eq_true rfl) ⟨Nat.le_of_ble_eq_true rfl, Nat.le_of_ble_eq_true rfl⟩ dX11_seen_58 (fun u11 H locs hm hw => ?_)
          refine lv_iload_n hx hb dX11_seen_61 rfl (lv_at hl 3 rfl) ?_
          refine q_cVi (κ := 0) (C := RX0) (T := TX0) (N := 2) [.ref (b + v0)] E hw hm mw_X11_321 (fun u hu => c_X0_seenOf hu (tC_10_2 (tC_11_2 hv0))) rfl (by decide) (tC_10_2 (tC_11_2 hv0)) rfl rfl hl.1 (Nat.le_of_ble_eq_true rfl) ⟨Nat.le_of_ble_eq_true rfl, Nat.le_of_ble_eq_true rfl⟩ dX11_seen_62 (fun u12 H locs hm hw => ?_)
          exact w_X11_seen_65 E hr hlk hm hv0 hw (lv_sub hl [] rfl)
        · have hm := o_f c10 hm
          refine lv_iconst (v := 0) hx hb dX11_seen_45 (by decide) ?_
          refine lv_goto (tgt := 65) hx hb dX11_seen_46 (by decide) ?_
          exact w_X11_seen_65 E hr hlk hm hv0 hw (lv_sub hl [] rfl)
      · have hm := o_t c8 hm
        exact w_X11_seen_24 E hr hlk hm hv0 hw (lv_sub hl [0] rfl)
theorem c_X11_seen {l : Launch} {D : va_G} {cy : Nat → ClassId} {b : Nat} {v0 : Nat} {v1 : Int32} {v2 : Int32} {v3 : Int32} {σ : ST} {r : Int32 × ST} (hm : f_X11_seen v0 v1 v2 v3 σ = some r) (hv0 : LC.1 v0 = 11) : Met l yX11_seen (wU yX11_seen cX11_seen 4 (some .int)) (rmD 1) (PcP D cy LC b [.ref (b + v0), .int v1, .int v2, .int v3] σ) (QcP D cy LC b (some (.int r.1)) r.2) 0 0 (inP LC b) :=
  q_met (lv := [(0, .ref (b + v0)), (1, .int v1), (2, .int v2), (3, .int v3)]) LC_ok (by decide) (Nat.le_of_ble_eq_true rfl) rfl (fun _ _ _ _ _ _ _ _ _ E hr hlk hw hl => w_X11_seen_0 E hr hlk hm hv0 hw hl)

def k_X11_partOf_24 (v0 : Nat) (σ : ST) : Option (Int32 × ST) :=
  (f_X11_refuse v0 1 σ).bind fun u1 =>
  some (u1.1, u1.2)
set_option maxRecDepth 20000 in
set_option maxHeartbeats 1000000 in
theorem w_X11_partOf_24 {p : Program} {l : Launch} {e : Env} {s : State} {m : MethodId} {args : Array Value} {below : List Frame} {meth : Method} {c : Code} {D : va_G} {cy : Nat → ClassId} {b : Nat} (E : CX p m c cX11_partOf 4 s args RX11 D cy LC) (hr : meth.sig.returnType = some .int) (hlk : meth.locks = false) {r : Int32 × ST} {v0 : Nat} {σ : ST} {H : Heap} {locs : List Loc} {ls : Array Slot} (hm : k_X11_partOf_24 v0 σ = some r) (hv0 : LC.1 v0 = 11) (hw : PH D cy LC b σ s H locs) (hl : lv_has ls 4 [(0, .ref (b + v0))]) : W p l e (rmD 1) s m args below meth c H locs 0 0 (MQ below (QcP D cy LC b (some (.int r.1)) r.2) args s 0 0 (inP LC b)) (F0 m 24 ls []) := by
  have hx := E.1.1
  have hb := E.1.2.1
  unfold k_X11_partOf_24 at hm
  refine lv_aload_n hx hb dX11_partOf_24 rfl (lv_at hl 0 rfl) ?_
  refine lv_iconst (v := 1) hx hb dX11_partOf_25 (by decide) ?_
  refine q_cVi (κ := 11) (C := RX11) (T := TX11) (N := 20) [] E hw hm mw_X11_142 (fun u hu => c_X11_refuse hu hv0) rfl (by decide) hv0 rfl rfl hl.1 (Nat.le_of_ble_eq_true rfl) ⟨Nat.le_of_ble_eq_true rfl, Nat.le_of_ble_eq_true rfl⟩ dX11_partOf_26 (fun u1 H locs hm hw => ?_)
  exact q_iret E hr hlk hw hm dX11_partOf_29
def f_X11_partOf (v0 : Nat) (v1 : Int32) (v2 : Int32) (v3 : Int32) (σ : ST) : Option (Int32 × ST) :=
  (f_X11_isKeeper v0 v1 σ).bind fun u2 =>
  if u2.1 = 0 then (k_X11_partOf_24 v0 u2.2) else ((f_X11_isKey v0 v2 u2.2).bind fun u4 =>
  if u4.1 = 0 then (k_X11_partOf_24 v0 u4.2) else ((f_X11_isKeeper v0 v3 u4.2).bind fun u6 =>
  if u6.1 = 0 then (k_X11_partOf_24 v0 u6.2) else ((f_X7_isSum (LC.2.1 (LC.2.1 v0 2) 0) v2 u6.2).bind fun u8 =>
  if u8.1 = 0 then ((f_X11_refuse v0 7 u8.2).bind fun u13 =>
  some (u13.1, u13.2)) else ((f_X10_cellOf v1 v2 u8.2).bind fun u10 =>
  (f_X0_seenOf (LC.2.1 (LC.2.1 v0 2) 2) u10.1 v3 u10.2).bind fun u11 =>
  (f_X11_answer v0 u11.1 u11.2).bind fun u12 =>
  some (u12.1, u12.2)))))
set_option maxRecDepth 20000 in
set_option maxHeartbeats 1000000 in
theorem w_X11_partOf_0 {p : Program} {l : Launch} {e : Env} {s : State} {m : MethodId} {args : Array Value} {below : List Frame} {meth : Method} {c : Code} {D : va_G} {cy : Nat → ClassId} {b : Nat} (E : CX p m c cX11_partOf 4 s args RX11 D cy LC) (hr : meth.sig.returnType = some .int) (hlk : meth.locks = false) {r : Int32 × ST} {v0 : Nat} {v1 : Int32} {v2 : Int32} {v3 : Int32} {σ : ST} {H : Heap} {locs : List Loc} {ls : Array Slot} (hm : f_X11_partOf v0 v1 v2 v3 σ = some r) (hv0 : LC.1 v0 = 11) (hw : PH D cy LC b σ s H locs) (hl : lv_has ls 4 [(0, .ref (b + v0)), (1, .int v1), (2, .int v2), (3, .int v3)]) : W p l e (rmD 1) s m args below meth c H locs 0 0 (MQ below (QcP D cy LC b (some (.int r.1)) r.2) args s 0 0 (inP LC b)) (F0 m 0 ls []) := by
  have hx := E.1.1
  have hb := E.1.2.1
  unfold f_X11_partOf at hm
  refine lv_aload_n hx hb dX11_partOf_0 rfl (lv_at hl 0 rfl) ?_
  refine lv_iload_n hx hb dX11_partOf_1 rfl (lv_at hl 1 rfl) ?_
  refine q_cVi (κ := 11) (C := RX11) (T := TX11) (N := 20) [] E hw hm mw_X11_241 (fun u hu => c_X11_isKeeper hu hv0) rfl (by decide) hv0 rfl rfl hl.1 (Nat.le_of_ble_eq_true rfl) ⟨Nat.le_of_ble_eq_true rfl, Nat.le_of_ble_eq_true rfl⟩ dX11_partOf_2 (fun u2 H locs hm hw => ?_)
  refine lv_if_eq (tgt := 24) hx hb dX11_partOf_5 (by decide) (fun c3 => ?_) (fun c3 => ?_)
  · have hm := o_t c3 hm
    exact w_X11_partOf_24 E hr hlk hm hv0 hw (lv_sub hl [0] rfl)
  · have hm := o_f c3 hm
    refine lv_aload_n hx hb dX11_partOf_8 rfl (lv_at hl 0 rfl) ?_
    refine lv_iload_n hx hb dX11_partOf_9 rfl (lv_at hl 2 rfl) ?_
    refine q_cVi (κ := 11) (C := RX11) (T := TX11) (N := 20) [] E hw hm mw_X11_232 (fun u hu => c_X11_isKey hu hv0) rfl (by decide) hv0 rfl rfl hl.1 (Nat.le_of_ble_eq_true rfl) ⟨Nat.le_of_ble_eq_true rfl, Nat.le_of_ble_eq_true rfl⟩ dX11_partOf_10 (fun u4 H locs hm hw => ?_)
    refine lv_if_eq (tgt := 24) hx hb dX11_partOf_13 (by decide) (fun c5 => ?_) (fun c5 => ?_)
    · have hm := o_t c5 hm
      exact w_X11_partOf_24 E hr hlk hm hv0 hw (lv_sub hl [0] rfl)
    · have hm := o_f c5 hm
      refine lv_aload_n hx hb dX11_partOf_16 rfl (lv_at hl 0 rfl) ?_
      refine lv_iload_n hx hb dX11_partOf_17 rfl (lv_at hl 3 rfl) ?_
      refine q_cVi (κ := 11) (C := RX11) (T := TX11) (N := 20) [] E hw hm mw_X11_241 (fun u hu => c_X11_isKeeper hu hv0) rfl (by decide) hv0 rfl rfl hl.1 (Nat.le_of_ble_eq_true rfl) ⟨Nat.le_of_ble_eq_true rfl, Nat.le_of_ble_eq_true rfl⟩ dX11_partOf_18 (fun u6 H locs hm hw => ?_)
      refine lv_if_ne (tgt := 30) hx hb dX11_partOf_21 (by decide) (fun c7 => ?_) (fun c7 => ?_)
      · have hm := o_f c7 hm
        refine lv_aload_n hx hb dX11_partOf_30 rfl (lv_at hl 0 rfl) ?_
        refine q_geta E hw fw_X11_25 rfl hv0 dX11_partOf_31 ?_
        refine q_geta E hw fw_X11_40 rfl (tC_11_2 hv0) dX11_partOf_34 ?_
        refine lv_iload_n hx hb dX11_partOf_37 rfl (lv_at hl 2 rfl) ?_
        refine q_cVi (κ := 7) (C := RX7) (T := TX7) (N := 12) [] E hw hm mw_X11_274 (fun u hu => c_X7_isSum hu (tC_10_0 (tC_11_2 hv0))) rfl (by decide) (tC_10_0 (tC_11_2 hv0)) rfl rfl hl.1 (Nat.le_of_ble_eq_true rfl) ⟨Nat.le_of_ble_eq_true rfl, Nat.le_of_ble_eq_true rfl⟩ dX11_partOf_38 (fun u8 H locs hm hw => ?_)
        refine lv_if_ne (tgt := 51) hx hb dX11_partOf_41 (by decide) (fun c9 => ?_) (fun c9 => ?_)
        · have hm := o_f c9 hm
          refine lv_aload_n hx hb dX11_partOf_51 rfl (lv_at hl 0 rfl) ?_
          refine lv_aload_n hx hb dX11_partOf_52 rfl (lv_at hl 0 rfl) ?_
          refine q_geta E hw fw_X11_25 rfl hv0 dX11_partOf_53 ?_
          refine q_geta E hw fw_X11_306 rfl (tC_11_2 hv0) dX11_partOf_56 ?_
          refine lv_iload_n hx hb dX11_partOf_59 rfl (lv_at hl 1 rfl) ?_
          refine lv_iload_n hx hb dX11_partOf_60 rfl (lv_at hl 2 rfl) ?_
          refine q_cSi [.ref (b + (LC.2.1 (LC.2.1 v0 2) 2)), .ref (b + v0)] E hw hm ms_X11_309 (fun u hu => c_X10_cellOf hu ) rfl rfl hl.1 (Nat.le_of_ble_eq_true rfl) ⟨Nat.le_of_ble_eq_true rfl, Nat.le_of_ble_eq_true rfl⟩ dX11_partOf_61 (fun u10 H locs hm hw => ?_)
          refine lv_iload_n hx hb dX11_partOf_64 rfl (lv_at hl 3 rfl) ?_
          refine q_cVi (κ := 0) (C := RX0) (T := TX0) (N := 2) [.ref (b + v0)] E hw hm mw_X11_321 (fun u hu => c_X0_seenOf hu (tC_10_2 (tC_11_2 hv0))) rfl (by decide) (tC_10_2 (tC_11_2 hv0)) rfl rfl hl.1 (Nat.le_of_ble_eq_true rfl) ⟨Nat.le_of_ble_eq_true rfl, Nat.le_of_ble_eq_true rfl⟩ dX11_partOf_65 (fun u11 H locs hm hw => ?_)
          refine q_cVi (κ := 11) (C := RX11) (T := TX11) (N := 20) [] E hw hm mw_X11_187 (fun u hu => c_X11_answer hu hv0) rfl (by decide) hv0 rfl rfl hl.1 (Nat.le_of_ble_eq_true rfl) ⟨Nat.le_of_ble_eq_true rfl, Nat.le_of_ble_eq_true rfl⟩ dX11_partOf_68 (fun u12 H locs hm hw => ?_)
          exact q_iret E hr hlk hw hm dX11_partOf_71
        · have hm := o_t c9 hm
          refine lv_aload_n hx hb dX11_partOf_44 rfl (lv_at hl 0 rfl) ?_
          refine lv_bipush (v := 7) hx hb dX11_partOf_45 (by decide) ?_
          refine q_cVi (κ := 11) (C := RX11) (T := TX11) (N := 20) [] E hw hm mw_X11_142 (fun u hu => c_X11_refuse hu hv0) rfl (by decide) hv0 rfl rfl hl.1 (Nat.le_of_ble_eq_true rfl) ⟨Nat.le_of_ble_eq_true rfl, Nat.le_of_ble_eq_true rfl⟩ dX11_partOf_47 (fun u13 H locs hm hw => ?_)
          exact q_iret E hr hlk hw hm dX11_partOf_50
      · have hm := o_t c7 hm
        exact w_X11_partOf_24 E hr hlk hm hv0 hw (lv_sub hl [0] rfl)
theorem c_X11_partOf {l : Launch} {D : va_G} {cy : Nat → ClassId} {b : Nat} {v0 : Nat} {v1 : Int32} {v2 : Int32} {v3 : Int32} {σ : ST} {r : Int32 × ST} (hm : f_X11_partOf v0 v1 v2 v3 σ = some r) (hv0 : LC.1 v0 = 11) : Met l yX11_partOf (wU yX11_partOf cX11_partOf 4 (some .int)) (rmD 1) (PcP D cy LC b [.ref (b + v0), .int v1, .int v2, .int v3] σ) (QcP D cy LC b (some (.int r.1)) r.2) 0 0 (inP LC b) :=
  q_met (lv := [(0, .ref (b + v0)), (1, .int v1), (2, .int v2), (3, .int v3)]) LC_ok (by decide) (Nat.le_of_ble_eq_true rfl) rfl (fun _ _ _ _ _ _ _ _ _ E hr hlk hw hl => w_X11_partOf_0 E hr hlk hm hv0 hw hl)

def k_X11_hints_28 (s0 : Int32) (σ : ST) : Option (Int32 × ST) :=
  some (s0, σ)
set_option maxRecDepth 20000 in
set_option maxHeartbeats 1000000 in
theorem w_X11_hints_28 {p : Program} {l : Launch} {e : Env} {s : State} {m : MethodId} {args : Array Value} {below : List Frame} {meth : Method} {c : Code} {D : va_G} {cy : Nat → ClassId} {b : Nat} (E : CX p m c cX11_hints 2 s args RX11 D cy LC) (hr : meth.sig.returnType = some .int) (hlk : meth.locks = false) {r : Int32 × ST} {s0 : Int32} {σ : ST} {H : Heap} {locs : List Loc} {ls : Array Slot} (hm : k_X11_hints_28 s0 σ = some r) (hw : PH D cy LC b σ s H locs) (hl : lv_has ls 2 []) : W p l e (rmD 2) s m args below meth c H locs 0 0 (MQ below (QcP D cy LC b (some (.int r.1)) r.2) args s 0 0 (inP LC b)) (F0 m 28 ls [.int s0]) := by
  have hx := E.1.1
  have hb := E.1.2.1
  unfold k_X11_hints_28 at hm
  exact q_iret E hr hlk hw hm dX11_hints_28
def f_X11_hints (v0 : Nat) (v1 : Int32) (σ : ST) : Option (Int32 × ST) :=
  (f_X11_isKeeper v0 v1 σ).bind fun u1 =>
  if u1.1 = 0 then ((f_X11_refuse v0 1 u1.2).bind fun u3 =>
  k_X11_hints_28 u3.1 u3.2) else ((f_X10_hintCount (LC.2.1 v0 2) v1 u1.2).bind fun u4 =>
  (f_X11_answer v0 u4.1 u4.2).bind fun u5 =>
  k_X11_hints_28 u5.1 u5.2)
set_option maxRecDepth 20000 in
set_option maxHeartbeats 1000000 in
theorem w_X11_hints_0 {p : Program} {l : Launch} {e : Env} {s : State} {m : MethodId} {args : Array Value} {below : List Frame} {meth : Method} {c : Code} {D : va_G} {cy : Nat → ClassId} {b : Nat} (E : CX p m c cX11_hints 2 s args RX11 D cy LC) (hr : meth.sig.returnType = some .int) (hlk : meth.locks = false) {r : Int32 × ST} {v0 : Nat} {v1 : Int32} {σ : ST} {H : Heap} {locs : List Loc} {ls : Array Slot} (hm : f_X11_hints v0 v1 σ = some r) (hv0 : LC.1 v0 = 11) (hw : PH D cy LC b σ s H locs) (hl : lv_has ls 2 [(0, .ref (b + v0)), (1, .int v1)]) : W p l e (rmD 2) s m args below meth c H locs 0 0 (MQ below (QcP D cy LC b (some (.int r.1)) r.2) args s 0 0 (inP LC b)) (F0 m 0 ls []) := by
  have hx := E.1.1
  have hb := E.1.2.1
  unfold f_X11_hints at hm
  refine lv_aload_n hx hb dX11_hints_0 rfl (lv_at hl 0 rfl) ?_
  refine lv_iload_n hx hb dX11_hints_1 rfl (lv_at hl 1 rfl) ?_
  refine q_cVi (κ := 11) (C := RX11) (T := TX11) (N := 20) [] E hw hm mw_X11_241 (fun u hu => c_X11_isKeeper hu hv0) rfl (by decide) hv0 rfl rfl hl.1 (Nat.le_of_ble_eq_true rfl) ⟨Nat.le_of_ble_eq_true rfl, Nat.le_of_ble_eq_true rfl⟩ dX11_hints_2 (fun u1 H locs hm hw => ?_)
  refine lv_if_eq (tgt := 23) hx hb dX11_hints_5 (by decide) (fun c2 => ?_) (fun c2 => ?_)
  · have hm := o_t c2 hm
    refine lv_aload_n hx hb dX11_hints_23 rfl (lv_at hl 0 rfl) ?_
    refine lv_iconst (v := 1) hx hb dX11_hints_24 (by decide) ?_
    refine q_cVi (κ := 11) (C := RX11) (T := TX11) (N := 20) [] E hw hm mw_X11_142 (fun u hu => c_X11_refuse hu hv0) rfl (by decide) hv0 rfl rfl hl.1 (Nat.le_of_ble_eq_true rfl) ⟨Nat.le_of_ble_eq_true rfl, Nat.le_of_ble_eq_true rfl⟩ dX11_hints_25 (fun u3 H locs hm hw => ?_)
    exact w_X11_hints_28 E hr hlk hm  hw (lv_sub hl [] rfl)
  · have hm := o_f c2 hm
    refine lv_aload_n hx hb dX11_hints_8 rfl (lv_at hl 0 rfl) ?_
    refine lv_aload_n hx hb dX11_hints_9 rfl (lv_at hl 0 rfl) ?_
    refine q_geta E hw fw_X11_25 rfl hv0 dX11_hints_10 ?_
    refine lv_iload_n hx hb dX11_hints_13 rfl (lv_at hl 1 rfl) ?_
    refine q_cVi (κ := 10) (C := RX10) (T := TX10) (N := 12) [.ref (b + v0)] E hw hm mw_X11_324 (fun u hu => c_X10_hintCount hu (tC_11_2 hv0)) rfl (by decide) (tC_11_2 hv0) rfl rfl hl.1 (Nat.le_of_ble_eq_true rfl) ⟨Nat.le_of_ble_eq_true rfl, Nat.le_of_ble_eq_true rfl⟩ dX11_hints_14 (fun u4 H locs hm hw => ?_)
    refine q_cVi (κ := 11) (C := RX11) (T := TX11) (N := 20) [] E hw hm mw_X11_187 (fun u hu => c_X11_answer hu hv0) rfl (by decide) hv0 rfl rfl hl.1 (Nat.le_of_ble_eq_true rfl) ⟨Nat.le_of_ble_eq_true rfl, Nat.le_of_ble_eq_true rfl⟩ dX11_hints_17 (fun u5 H locs hm hw => ?_)
    refine lv_goto (tgt := 28) hx hb dX11_hints_20 (by decide) ?_
    exact w_X11_hints_28 E hr hlk hm  hw (lv_sub hl [] rfl)
theorem c_X11_hints {l : Launch} {D : va_G} {cy : Nat → ClassId} {b : Nat} {v0 : Nat} {v1 : Int32} {σ : ST} {r : Int32 × ST} (hm : f_X11_hints v0 v1 σ = some r) (hv0 : LC.1 v0 = 11) : Met l yX11_hints (wU yX11_hints cX11_hints 2 (some .int)) (rmD 2) (PcP D cy LC b [.ref (b + v0), .int v1] σ) (QcP D cy LC b (some (.int r.1)) r.2) 0 0 (inP LC b) :=
  q_met (lv := [(0, .ref (b + v0)), (1, .int v1)]) LC_ok (by decide) (Nat.le_of_ble_eq_true rfl) rfl (fun _ _ _ _ _ _ _ _ _ E hr hlk hw hl => w_X11_hints_0 E hr hlk hm hv0 hw hl)

def k_X11_ticket_76 (s0 : Nat) (s1 : Int32) (σ : ST) : Option (Int32 × ST) :=
  (f_X11_answer s0 s1 σ).bind fun u1 =>
  some (u1.1, u1.2)
set_option maxRecDepth 20000 in
set_option maxHeartbeats 1000000 in
theorem w_X11_ticket_76 {p : Program} {l : Launch} {e : Env} {s : State} {m : MethodId} {args : Array Value} {below : List Frame} {meth : Method} {c : Code} {D : va_G} {cy : Nat → ClassId} {b : Nat} (E : CX p m c cX11_ticket 3 s args RX11 D cy LC) (hr : meth.sig.returnType = some .int) (hlk : meth.locks = false) {r : Int32 × ST} {s0 : Nat} {s1 : Int32} {σ : ST} {H : Heap} {locs : List Loc} {ls : Array Slot} (hm : k_X11_ticket_76 s0 s1 σ = some r) (hs0 : LC.1 s0 = 11) (hw : PH D cy LC b σ s H locs) (hl : lv_has ls 3 []) : W p l e (rmD 1) s m args below meth c H locs 0 0 (MQ below (QcP D cy LC b (some (.int r.1)) r.2) args s 0 0 (inP LC b)) (F0 m 76 ls [.int s1, .ref (b + s0)]) := by
  have hx := E.1.1
  have hb := E.1.2.1
  unfold k_X11_ticket_76 at hm
  refine q_cVi (κ := 11) (C := RX11) (T := TX11) (N := 20) [] E hw hm mw_X11_187 (fun u hu => c_X11_answer hu hs0) rfl (by decide) hs0 rfl rfl hl.1 (Nat.le_of_ble_eq_true rfl) ⟨Nat.le_of_ble_eq_true rfl, Nat.le_of_ble_eq_true rfl⟩ dX11_ticket_76 (fun u1 H locs hm hw => ?_)
  exact q_iret E hr hlk hw hm dX11_ticket_79
def k_X11_ticket_28 (v0 : Nat) (v1 : Int32) (v2 : Int32) (σ : ST) : Option (Int32 × ST) :=
  (f_X10_hasTicket (LC.2.1 v0 2) v1 σ).bind fun u2 =>
  if u2.1 = 0 then ((f_X11_refuse v0 6 u2.2).bind fun u7 =>
  some (u7.1, u7.2)) else (if v2 = (-1) then ((ldA LC u2.2 (LC.2.1 (LC.2.1 v0 2) 6) v1).bind fun a6 =>
  k_X11_ticket_76 v0 a6 u2.2) else ((f_X0_seenOf (LC.2.1 (LC.2.1 v0 2) 5) v1 v2 u2.2).bind fun u5 =>
  k_X11_ticket_76 v0 u5.1 u5.2))
set_option maxRecDepth 20000 in
set_option maxHeartbeats 1000000 in
theorem w_X11_ticket_28 {p : Program} {l : Launch} {e : Env} {s : State} {m : MethodId} {args : Array Value} {below : List Frame} {meth : Method} {c : Code} {D : va_G} {cy : Nat → ClassId} {b : Nat} (E : CX p m c cX11_ticket 3 s args RX11 D cy LC) (hr : meth.sig.returnType = some .int) (hlk : meth.locks = false) {r : Int32 × ST} {v0 : Nat} {v1 : Int32} {v2 : Int32} {σ : ST} {H : Heap} {locs : List Loc} {ls : Array Slot} (hm : k_X11_ticket_28 v0 v1 v2 σ = some r) (hv0 : LC.1 v0 = 11) (hw : PH D cy LC b σ s H locs) (hl : lv_has ls 3 [(0, .ref (b + v0)), (1, .int v1), (2, .int v2)]) : W p l e (rmD 1) s m args below meth c H locs 0 0 (MQ below (QcP D cy LC b (some (.int r.1)) r.2) args s 0 0 (inP LC b)) (F0 m 28 ls []) := by
  have hx := E.1.1
  have hb := E.1.2.1
  unfold k_X11_ticket_28 at hm
  refine lv_aload_n hx hb dX11_ticket_28 rfl (lv_at hl 0 rfl) ?_
  refine q_geta E hw fw_X11_25 rfl hv0 dX11_ticket_29 ?_
  refine lv_iload_n hx hb dX11_ticket_32 rfl (lv_at hl 1 rfl) ?_
  refine q_cVi (κ := 10) (C := RX10) (T := TX10) (N := 12) [] E hw hm mw_X11_327 (fun u hu => c_X10_hasTicket hu (tC_11_2 hv0)) rfl (by decide) (tC_11_2 hv0) rfl rfl hl.1 (Nat.le_of_ble_eq_true rfl) ⟨Nat.le_of_ble_eq_true rfl, Nat.le_of_ble_eq_true rfl⟩ dX11_ticket_33 (fun u2 H locs hm hw => ?_)
  refine lv_if_ne (tgt := 46) hx hb dX11_ticket_36 (by decide) (fun c3 => ?_) (fun c3 => ?_)
  · have hm := o_f c3 hm
    refine lv_aload_n hx hb dX11_ticket_46 rfl (lv_at hl 0 rfl) ?_
    refine lv_iload_n hx hb dX11_ticket_47 rfl (lv_at hl 2 rfl) ?_
    refine lv_iconst (v := (-1)) hx hb dX11_ticket_48 (by decide) ?_
    refine lv_icmp_ne (tgt := 64) hx hb dX11_ticket_49 (by decide) (fun c4 => ?_) (fun c4 => ?_)
    · have hm := o_f c4 hm
      refine lv_aload_n hx hb dX11_ticket_64 rfl (lv_at hl 0 rfl) ?_
      refine q_geta E hw fw_X11_25 rfl hv0 dX11_ticket_65 ?_
      refine q_geta E hw fw_X11_333 rfl (tC_11_2 hv0) dX11_ticket_68 ?_
      refine lv_iload_n hx hb dX11_ticket_71 rfl (lv_at hl 1 rfl) ?_
      refine lv_iload_n hx hb dX11_ticket_72 rfl (lv_at hl 2 rfl) ?_
      refine q_cVi (κ := 0) (C := RX0) (T := TX0) (N := 2) [.ref (b + v0)] E hw hm mw_X11_321 (fun u hu => c_X0_seenOf hu (tC_10_5 (tC_11_2 hv0))) rfl (by decide) (tC_10_5 (tC_11_2 hv0)) rfl rfl hl.1 (Nat.le_of_ble_eq_true rfl) ⟨Nat.le_of_ble_eq_true rfl, Nat.le_of_ble_eq_true rfl⟩ dX11_ticket_73 (fun u5 H locs hm hw => ?_)
      exact w_X11_ticket_76 E hr hlk hm hv0 hw (lv_sub hl [] rfl)
    · have hm := o_t c4 hm
      refine lv_aload_n hx hb dX11_ticket_52 rfl (lv_at hl 0 rfl) ?_
      refine q_geta E hw fw_X11_25 rfl hv0 dX11_ticket_53 ?_
      refine q_geta E hw fw_X11_330 rfl (tC_11_2 hv0) dX11_ticket_56 ?_
      refine lv_iload_n hx hb dX11_ticket_59 rfl (lv_at hl 1 rfl) ?_
      refine q_iald E hw (tC_10_6 (tC_11_2 hv0)) hm dX11_ticket_60 (fun a6 hm => ?_)
      refine lv_goto (tgt := 76) hx hb dX11_ticket_61 (by decide) ?_
      exact w_X11_ticket_76 E hr hlk hm hv0 hw (lv_sub hl [] rfl)
  · have hm := o_t c3 hm
    refine lv_aload_n hx hb dX11_ticket_39 rfl (lv_at hl 0 rfl) ?_
    refine lv_bipush (v := 6) hx hb dX11_ticket_40 (by decide) ?_
    refine q_cVi (κ := 11) (C := RX11) (T := TX11) (N := 20) [] E hw hm mw_X11_142 (fun u hu => c_X11_refuse hu hv0) rfl (by decide) hv0 rfl rfl hl.1 (Nat.le_of_ble_eq_true rfl) ⟨Nat.le_of_ble_eq_true rfl, Nat.le_of_ble_eq_true rfl⟩ dX11_ticket_42 (fun u7 H locs hm hw => ?_)
    exact q_iret E hr hlk hw hm dX11_ticket_45
def k_X11_ticket_22 (v0 : Nat) (σ : ST) : Option (Int32 × ST) :=
  (f_X11_refuse v0 1 σ).bind fun u8 =>
  some (u8.1, u8.2)
set_option maxRecDepth 20000 in
set_option maxHeartbeats 1000000 in
theorem w_X11_ticket_22 {p : Program} {l : Launch} {e : Env} {s : State} {m : MethodId} {args : Array Value} {below : List Frame} {meth : Method} {c : Code} {D : va_G} {cy : Nat → ClassId} {b : Nat} (E : CX p m c cX11_ticket 3 s args RX11 D cy LC) (hr : meth.sig.returnType = some .int) (hlk : meth.locks = false) {r : Int32 × ST} {v0 : Nat} {σ : ST} {H : Heap} {locs : List Loc} {ls : Array Slot} (hm : k_X11_ticket_22 v0 σ = some r) (hv0 : LC.1 v0 = 11) (hw : PH D cy LC b σ s H locs) (hl : lv_has ls 3 [(0, .ref (b + v0))]) : W p l e (rmD 1) s m args below meth c H locs 0 0 (MQ below (QcP D cy LC b (some (.int r.1)) r.2) args s 0 0 (inP LC b)) (F0 m 22 ls []) := by
  have hx := E.1.1
  have hb := E.1.2.1
  unfold k_X11_ticket_22 at hm
  refine lv_aload_n hx hb dX11_ticket_22 rfl (lv_at hl 0 rfl) ?_
  refine lv_iconst (v := 1) hx hb dX11_ticket_23 (by decide) ?_
  refine q_cVi (κ := 11) (C := RX11) (T := TX11) (N := 20) [] E hw hm mw_X11_142 (fun u hu => c_X11_refuse hu hv0) rfl (by decide) hv0 rfl rfl hl.1 (Nat.le_of_ble_eq_true rfl) ⟨Nat.le_of_ble_eq_true rfl, Nat.le_of_ble_eq_true rfl⟩ dX11_ticket_24 (fun u8 H locs hm hw => ?_)
  exact q_iret E hr hlk hw hm dX11_ticket_27
def f_X11_ticket (v0 : Nat) (v1 : Int32) (v2 : Int32) (σ : ST) : Option (Int32 × ST) :=
  if v1 < 0 then (k_X11_ticket_22 v0 σ) else (if 4 ≤ v1 then (k_X11_ticket_22 v0 σ) else (if v2 = (-1) then (k_X11_ticket_28 v0 v1 v2 σ) else ((f_X11_isKeeper v0 v2 σ).bind fun u12 =>
  if u12.1 = 0 then (k_X11_ticket_22 v0 u12.2) else (k_X11_ticket_28 v0 v1 v2 u12.2))))
set_option maxRecDepth 20000 in
set_option maxHeartbeats 1000000 in
theorem w_X11_ticket_0 {p : Program} {l : Launch} {e : Env} {s : State} {m : MethodId} {args : Array Value} {below : List Frame} {meth : Method} {c : Code} {D : va_G} {cy : Nat → ClassId} {b : Nat} (E : CX p m c cX11_ticket 3 s args RX11 D cy LC) (hr : meth.sig.returnType = some .int) (hlk : meth.locks = false) {r : Int32 × ST} {v0 : Nat} {v1 : Int32} {v2 : Int32} {σ : ST} {H : Heap} {locs : List Loc} {ls : Array Slot} (hm : f_X11_ticket v0 v1 v2 σ = some r) (hv0 : LC.1 v0 = 11) (hw : PH D cy LC b σ s H locs) (hl : lv_has ls 3 [(0, .ref (b + v0)), (1, .int v1), (2, .int v2)]) : W p l e (rmD 1) s m args below meth c H locs 0 0 (MQ below (QcP D cy LC b (some (.int r.1)) r.2) args s 0 0 (inP LC b)) (F0 m 0 ls []) := by
  have hx := E.1.1
  have hb := E.1.2.1
  unfold f_X11_ticket at hm
  refine lv_iload_n hx hb dX11_ticket_0 rfl (lv_at hl 1 rfl) ?_
  refine lv_if_lt (tgt := 22) hx hb dX11_ticket_1 (by decide) (fun c9 => ?_) (fun c9 => ?_)
  · have hm := o_t c9 hm
    exact w_X11_ticket_22 E hr hlk hm hv0 hw (lv_sub hl [0] rfl)
  · have hm := o_f c9 hm
    refine lv_iload_n hx hb dX11_ticket_4 rfl (lv_at hl 1 rfl) ?_
    refine lv_iconst (v := 4) hx hb dX11_ticket_5 (by decide) ?_
    refine lv_icmp_ge (tgt := 22) hx hb dX11_ticket_6 (by decide) (fun c10 => ?_) (fun c10 => ?_)
    · have hm := o_t c10 hm
      exact w_X11_ticket_22 E hr hlk hm hv0 hw (lv_sub hl [0] rfl)
    · have hm := o_f c10 hm
      refine lv_iload_n hx hb dX11_ticket_9 rfl (lv_at hl 2 rfl) ?_
      refine lv_iconst (v := (-1)) hx hb dX11_ticket_10 (by decide) ?_
      refine lv_icmp_eq (tgt := 28) hx hb dX11_ticket_11 (by decide) (fun c11 => ?_) (fun c11 => ?_)
      · have hm := o_t c11 hm
        exact w_X11_ticket_28 E hr hlk hm hv0 hw (lv_sub hl [0, 1, 2] rfl)
      · have hm := o_f c11 hm
        refine lv_aload_n hx hb dX11_ticket_14 rfl (lv_at hl 0 rfl) ?_
        refine lv_iload_n hx hb dX11_ticket_15 rfl (lv_at hl 2 rfl) ?_
        refine q_cVi (κ := 11) (C := RX11) (T := TX11) (N := 20) [] E hw hm mw_X11_241 (fun u hu => c_X11_isKeeper hu hv0) rfl (by decide) hv0 rfl rfl hl.1 (Nat.le_of_ble_eq_true rfl) ⟨Nat.le_of_ble_eq_true rfl, Nat.le_of_ble_eq_true rfl⟩ dX11_ticket_16 (fun u12 H locs hm hw => ?_)
        refine lv_if_ne (tgt := 28) hx hb dX11_ticket_19 (by decide) (fun c13 => ?_) (fun c13 => ?_)
        · have hm := o_f c13 hm
          exact w_X11_ticket_28 E hr hlk hm hv0 hw (lv_sub hl [0, 1, 2] rfl)
        · have hm := o_t c13 hm
          exact w_X11_ticket_22 E hr hlk hm hv0 hw (lv_sub hl [0] rfl)
theorem c_X11_ticket {l : Launch} {D : va_G} {cy : Nat → ClassId} {b : Nat} {v0 : Nat} {v1 : Int32} {v2 : Int32} {σ : ST} {r : Int32 × ST} (hm : f_X11_ticket v0 v1 v2 σ = some r) (hv0 : LC.1 v0 = 11) : Met l yX11_ticket (wU yX11_ticket cX11_ticket 3 (some .int)) (rmD 1) (PcP D cy LC b [.ref (b + v0), .int v1, .int v2] σ) (QcP D cy LC b (some (.int r.1)) r.2) 0 0 (inP LC b) :=
  q_met (lv := [(0, .ref (b + v0)), (1, .int v1), (2, .int v2)]) LC_ok (by decide) (Nat.le_of_ble_eq_true rfl) rfl (fun _ _ _ _ _ _ _ _ _ E hr hlk hw hl => w_X11_ticket_0 E hr hlk hm hv0 hw hl)

def k_X11_like_24 (v0 : Nat) (σ : ST) : Option (Int32 × ST) :=
  (f_X11_refuse v0 1 σ).bind fun u1 =>
  some (u1.1, u1.2)
set_option maxRecDepth 20000 in
set_option maxHeartbeats 1000000 in
theorem w_X11_like_24 {p : Program} {l : Launch} {e : Env} {s : State} {m : MethodId} {args : Array Value} {below : List Frame} {meth : Method} {c : Code} {D : va_G} {cy : Nat → ClassId} {b : Nat} (E : CX p m c cX11_like 4 s args RX11 D cy LC) (hr : meth.sig.returnType = some .int) (hlk : meth.locks = false) {r : Int32 × ST} {v0 : Nat} {σ : ST} {H : Heap} {locs : List Loc} {ls : Array Slot} (hm : k_X11_like_24 v0 σ = some r) (hv0 : LC.1 v0 = 11) (hw : PH D cy LC b σ s H locs) (hl : lv_has ls 4 [(0, .ref (b + v0))]) : W p l e (rmD 2) s m args below meth c H locs 0 0 (MQ below (QcP D cy LC b (some (.int r.1)) r.2) args s 0 0 (inP LC b)) (F0 m 24 ls []) := by
  have hx := E.1.1
  have hb := E.1.2.1
  unfold k_X11_like_24 at hm
  refine lv_aload_n hx hb dX11_like_24 rfl (lv_at hl 0 rfl) ?_
  refine lv_iconst (v := 1) hx hb dX11_like_25 (by decide) ?_
  refine q_cVi (κ := 11) (C := RX11) (T := TX11) (N := 20) [] E hw hm mw_X11_142 (fun u hu => c_X11_refuse hu hv0) rfl (by decide) hv0 rfl rfl hl.1 (Nat.le_of_ble_eq_true rfl) ⟨Nat.le_of_ble_eq_true rfl, Nat.le_of_ble_eq_true rfl⟩ dX11_like_26 (fun u1 H locs hm hw => ?_)
  exact q_iret E hr hlk hw hm dX11_like_29
def f_X11_like (v0 : Nat) (v1 : Int32) (v2 : Int32) (v3 : Int32) (σ : ST) : Option (Int32 × ST) :=
  (f_X11_isKeeper v0 v1 σ).bind fun u2 =>
  if u2.1 = 0 then (k_X11_like_24 v0 u2.2) else ((f_X11_isKeeper v0 v2 u2.2).bind fun u4 =>
  if u4.1 = 0 then (k_X11_like_24 v0 u4.2) else ((f_X11_isKey v0 v3 u4.2).bind fun u6 =>
  if u6.1 = 0 then (k_X11_like_24 v0 u6.2) else ((f_X10_areLike (LC.2.1 v0 2) v1 v2 v3 u6.2).bind fun u8 =>
  (f_X11_answerWhether v0 u8.1 u8.2).bind fun u9 =>
  some (u9.1, u9.2))))
set_option maxRecDepth 20000 in
set_option maxHeartbeats 1000000 in
theorem w_X11_like_0 {p : Program} {l : Launch} {e : Env} {s : State} {m : MethodId} {args : Array Value} {below : List Frame} {meth : Method} {c : Code} {D : va_G} {cy : Nat → ClassId} {b : Nat} (E : CX p m c cX11_like 4 s args RX11 D cy LC) (hr : meth.sig.returnType = some .int) (hlk : meth.locks = false) {r : Int32 × ST} {v0 : Nat} {v1 : Int32} {v2 : Int32} {v3 : Int32} {σ : ST} {H : Heap} {locs : List Loc} {ls : Array Slot} (hm : f_X11_like v0 v1 v2 v3 σ = some r) (hv0 : LC.1 v0 = 11) (hw : PH D cy LC b σ s H locs) (hl : lv_has ls 4 [(0, .ref (b + v0)), (1, .int v1), (2, .int v2), (3, .int v3)]) : W p l e (rmD 2) s m args below meth c H locs 0 0 (MQ below (QcP D cy LC b (some (.int r.1)) r.2) args s 0 0 (inP LC b)) (F0 m 0 ls []) := by
  have hx := E.1.1
  have hb := E.1.2.1
  unfold f_X11_like at hm
  refine lv_aload_n hx hb dX11_like_0 rfl (lv_at hl 0 rfl) ?_
  refine lv_iload_n hx hb dX11_like_1 rfl (lv_at hl 1 rfl) ?_
  refine q_cVi (κ := 11) (C := RX11) (T := TX11) (N := 20) [] E hw hm mw_X11_241 (fun u hu => c_X11_isKeeper hu hv0) rfl (by decide) hv0 rfl rfl hl.1 (Nat.le_of_ble_eq_true rfl) ⟨Nat.le_of_ble_eq_true rfl, Nat.le_of_ble_eq_true rfl⟩ dX11_like_2 (fun u2 H locs hm hw => ?_)
  refine lv_if_eq (tgt := 24) hx hb dX11_like_5 (by decide) (fun c3 => ?_) (fun c3 => ?_)
  · have hm := o_t c3 hm
    exact w_X11_like_24 E hr hlk hm hv0 hw (lv_sub hl [0] rfl)
  · have hm := o_f c3 hm
    refine lv_aload_n hx hb dX11_like_8 rfl (lv_at hl 0 rfl) ?_
    refine lv_iload_n hx hb dX11_like_9 rfl (lv_at hl 2 rfl) ?_
    refine q_cVi (κ := 11) (C := RX11) (T := TX11) (N := 20) [] E hw hm mw_X11_241 (fun u hu => c_X11_isKeeper hu hv0) rfl (by decide) hv0 rfl rfl hl.1 (Nat.le_of_ble_eq_true rfl) ⟨Nat.le_of_ble_eq_true rfl, Nat.le_of_ble_eq_true rfl⟩ dX11_like_10 (fun u4 H locs hm hw => ?_)
    refine lv_if_eq (tgt := 24) hx hb dX11_like_13 (by decide) (fun c5 => ?_) (fun c5 => ?_)
    · have hm := o_t c5 hm
      exact w_X11_like_24 E hr hlk hm hv0 hw (lv_sub hl [0] rfl)
    · have hm := o_f c5 hm
      refine lv_aload_n hx hb dX11_like_16 rfl (lv_at hl 0 rfl) ?_
      refine lv_iload_n hx hb dX11_like_17 rfl (lv_at hl 3 rfl) ?_
      refine q_cVi (κ := 11) (C := RX11) (T := TX11) (N := 20) [] E hw hm mw_X11_232 (fun u hu => c_X11_isKey hu hv0) rfl (by decide) hv0 rfl rfl hl.1 (Nat.le_of_ble_eq_true rfl) ⟨Nat.le_of_ble_eq_true rfl, Nat.le_of_ble_eq_true rfl⟩ dX11_like_18 (fun u6 H locs hm hw => ?_)
      refine lv_if_ne (tgt := 30) hx hb dX11_like_21 (by decide) (fun c7 => ?_) (fun c7 => ?_)
      · have hm := o_f c7 hm
        refine lv_aload_n hx hb dX11_like_30 rfl (lv_at hl 0 rfl) ?_
        refine lv_aload_n hx hb dX11_like_31 rfl (lv_at hl 0 rfl) ?_
        refine q_geta E hw fw_X11_25 rfl hv0 dX11_like_32 ?_
        refine lv_iload_n hx hb dX11_like_35 rfl (lv_at hl 1 rfl) ?_
        refine lv_iload_n hx hb dX11_like_36 rfl (lv_at hl 2 rfl) ?_
        refine lv_iload_n hx hb dX11_like_37 rfl (lv_at hl 3 rfl) ?_
        refine q_cVi (κ := 10) (C := RX10) (T := TX10) (N := 12) [.ref (b + v0)] E hw hm mw_X11_336 (fun u hu => c_X10_areLike hu (tC_11_2 hv0)) rfl (by decide) (tC_11_2 hv0) rfl rfl hl.1 (Nat.le_of_ble_eq_true rfl) ⟨Nat.le_of_ble_eq_true rfl, Nat.le_of_ble_eq_true rfl⟩ dX11_like_38 (fun u8 H locs hm hw => ?_)
        refine q_cVi (κ := 11) (C := RX11) (T := TX11) (N := 20) [] E hw hm mw_X11_248 (fun u hu => c_X11_answerWhether hu hv0) rfl (by decide) hv0 rfl rfl hl.1 (Nat.le_of_ble_eq_true rfl) ⟨Nat.le_of_ble_eq_true rfl, Nat.le_of_ble_eq_true rfl⟩ dX11_like_41 (fun u9 H locs hm hw => ?_)
        exact q_iret E hr hlk hw hm dX11_like_44
      · have hm := o_t c7 hm
        exact w_X11_like_24 E hr hlk hm hv0 hw (lv_sub hl [0] rfl)
theorem c_X11_like {l : Launch} {D : va_G} {cy : Nat → ClassId} {b : Nat} {v0 : Nat} {v1 : Int32} {v2 : Int32} {v3 : Int32} {σ : ST} {r : Int32 × ST} (hm : f_X11_like v0 v1 v2 v3 σ = some r) (hv0 : LC.1 v0 = 11) : Met l yX11_like (wU yX11_like cX11_like 4 (some .int)) (rmD 2) (PcP D cy LC b [.ref (b + v0), .int v1, .int v2, .int v3] σ) (QcP D cy LC b (some (.int r.1)) r.2) 0 0 (inP LC b) :=
  q_met (lv := [(0, .ref (b + v0)), (1, .int v1), (2, .int v2), (3, .int v3)]) LC_ok (by decide) (Nat.le_of_ble_eq_true rfl) rfl (fun _ _ _ _ _ _ _ _ _ E hr hlk hw hl => w_X11_like_0 E hr hlk hm hv0 hw hl)

def k_X11_alike_35 (rec4 : Nat → Int32 → Int32 → ST → Option (Int32 × ST)) (v0 : Nat) (v1 : Int32) (v2 : Int32) (σ : ST) : Option (Int32 × ST) :=
  rec4 v0 v1 (v2 + 1) σ
set_option maxRecDepth 20000 in
set_option maxHeartbeats 1000000 in
theorem w_X11_alike_35 {p : Program} {l : Launch} {e : Env} {s : State} {m : MethodId} {args : Array Value} {below : List Frame} {meth : Method} {c : Code} {D : va_G} {cy : Nat → ClassId} {b : Nat} (E : CX p m c cX11_alike 3 s args RX11 D cy LC) (hr : meth.sig.returnType = some .int) (hlk : meth.locks = false) {r : Int32 × ST} {rec4 : Nat → Int32 → Int32 → ST → Option (Int32 × ST)} (hrec4 : ∀ (v0 : Nat) (v1 : Int32) (v2 : Int32) (σ : ST) (H : Heap) (locs : List Loc) (ls : Array Slot), rec4 v0 v1 v2 σ = some r → LC.1 v0 = 11 → PH D cy LC b σ s H locs → lv_has ls 3 [(0, .ref (b + v0)), (1, .int v1), (2, .int v2)] → W p l e (rmD 3) s m args below meth c H locs 0 0 (MQ below (QcP D cy LC b (some (.int r.1)) r.2) args s 0 0 (inP LC b)) (F0 m 4 ls [])) {v0 : Nat} {v1 : Int32} {v2 : Int32} {σ : ST} {H : Heap} {locs : List Loc} {ls : Array Slot} (hm : k_X11_alike_35 rec4 v0 v1 v2 σ = some r) (hv0 : LC.1 v0 = 11) (hw : PH D cy LC b σ s H locs) (hl : lv_has ls 3 [(0, .ref (b + v0)), (1, .int v1), (2, .int v2)]) : W p l e (rmD 3) s m args below meth c H locs 0 0 (MQ below (QcP D cy LC b (some (.int r.1)) r.2) args s 0 0 (inP LC b)) (F0 m 35 ls []) := by
  have hx := E.1.1
  have hb := E.1.2.1
  unfold k_X11_alike_35 at hm
  refine lv_iinc (v := v2 + 1) (lv' := [(2, .int (v2 + 1)), (0, .ref (b + v0)), (1, .int v1)]) hx hb dX11_alike_35 hl (k := 2) rfl rfl (by decide) rfl (fun ls hl => ?_)
  refine lv_goto (tgt := 4) hx hb dX11_alike_38 (by decide) ?_
  exact hrec4 _ _ _ _ _ _ _ hm hv0 hw (lv_sub hl [1, 2, 0] rfl)
def k_X11_alike_4 : Nat → Nat → Int32 → Int32 → ST → Option (Int32 × ST)
  | 0, _, _, _, _ => none
  | n + 1, v0, v1, v2, σ => if (gI σ (LC.2.1 (LC.2.1 v0 2) 0) 7) ≤ v2 then ((f_X11_answer v0 v1 σ).bind fun u2 =>
  some (u2.1, u2.2)) else ((f_X10_isAlike (LC.2.1 v0 2) v2 σ).bind fun u3 =>
  if u3.1 = 0 then (k_X11_alike_35 (k_X11_alike_4 n) v0 v1 v2 u3.2) else (k_X11_alike_35 (k_X11_alike_4 n) v0 (v1 ||| (1 <<< (v2 &&& 31))) v2 u3.2))
set_option maxRecDepth 20000 in
set_option maxHeartbeats 1000000 in
theorem w_X11_alike_4 {p : Program} {l : Launch} {e : Env} {s : State} {m : MethodId} {args : Array Value} {below : List Frame} {meth : Method} {c : Code} {D : va_G} {cy : Nat → ClassId} {b : Nat} (E : CX p m c cX11_alike 3 s args RX11 D cy LC) (hr : meth.sig.returnType = some .int) (hlk : meth.locks = false) {r : Int32 × ST} : ∀ (n : Nat) (v0 : Nat) (v1 : Int32) (v2 : Int32) (σ : ST) (H : Heap) (locs : List Loc) (ls : Array Slot), k_X11_alike_4 n v0 v1 v2 σ = some r → LC.1 v0 = 11 → PH D cy LC b σ s H locs → lv_has ls 3 [(0, .ref (b + v0)), (1, .int v1), (2, .int v2)] → W p l e (rmD 3) s m args below meth c H locs 0 0 (MQ below (QcP D cy LC b (some (.int r.1)) r.2) args s 0 0 (inP LC b)) (F0 m 4 ls []) := by
  have hx := E.1.1
  have hb := E.1.2.1
  intro n
  induction n with
  | zero =>
    intro v0 v1 v2 σ H locs ls hm
    cases hm
  | succ n ih =>
    intro v0 v1 v2 σ H locs ls hm hv0 hw hl
    rw [k_X11_alike_4] at hm
    refine lv_iload_n hx hb dX11_alike_4 rfl (lv_at hl 2 rfl) ?_
    refine lv_aload_n hx hb dX11_alike_5 rfl (lv_at hl 0 rfl) ?_
    refine q_geta E hw fw_X11_25 rfl hv0 dX11_alike_6 ?_
    refine q_geta E hw fw_X11_40 rfl (tC_11_2 hv0) dX11_alike_9 ?_
    refine q_geti E hw fw_X11_182 rfl (tC_10_0 (tC_11_2 hv0)) dX11_alike_12 ?_
    refine lv_icmp_ge (tgt := 41) hx hb dX11_alike_15 (by decide) (fun c1 => ?_) (fun c1 => ?_)
    · have hm := o_t c1 hm
      refine lv_aload_n hx hb dX11_alike_41 rfl (lv_at hl 0 rfl) ?_
      refine lv_iload_n hx hb dX11_alike_42 rfl (lv_at hl 1 rfl) ?_
      refine q_cVi (κ := 11) (C := RX11) (T := TX11) (N := 20) [] E hw hm mw_X11_187 (fun u hu => c_X11_answer hu hv0) rfl (by decide) hv0 rfl rfl hl.1 (Nat.le_of_ble_eq_true rfl) ⟨Nat.le_of_ble_eq_true rfl, Nat.le_of_ble_eq_true rfl⟩ dX11_alike_43 (fun u2 H locs hm hw => ?_)
      exact q_iret E hr hlk hw hm dX11_alike_46
    · have hm := o_f c1 hm
      refine lv_aload_n hx hb dX11_alike_18 rfl (lv_at hl 0 rfl) ?_
      refine q_geta E hw fw_X11_25 rfl hv0 dX11_alike_19 ?_
      refine lv_iload_n hx hb dX11_alike_22 rfl (lv_at hl 2 rfl) ?_
      refine q_cVi (κ := 10) (C := RX10) (T := TX10) (N := 12) [] E hw hm mw_X11_300 (fun u hu => c_X10_isAlike hu (tC_11_2 hv0)) rfl (by decide) (tC_11_2 hv0) rfl rfl hl.1 (Nat.le_of_ble_eq_true rfl) ⟨Nat.le_of_ble_eq_true rfl, Nat.le_of_ble_eq_true rfl⟩ dX11_alike_23 (fun u3 H locs hm hw => ?_)
      refine lv_if_eq (tgt := 35) hx hb dX11_alike_26 (by decide) (fun c4 => ?_) (fun c4 => ?_)
      · have hm := o_t c4 hm
        exact w_X11_alike_35 E hr hlk ih hm hv0 hw (lv_sub hl [0, 1, 2] rfl)
      · have hm := o_f c4 hm
        refine lv_iload_n hx hb dX11_alike_29 rfl (lv_at hl 1 rfl) ?_
        refine lv_iconst (v := 1) hx hb dX11_alike_30 (by decide) ?_
        refine lv_iload_n hx hb dX11_alike_31 rfl (lv_at hl 2 rfl) ?_
        refine lv_ishl hx hb dX11_alike_32 ?_
        refine lv_ior hx hb dX11_alike_33 ?_
        refine lv_istore_n (lv' := [(1, .int (v1 ||| (1 <<< (v2 &&& 31)))), (0, .ref (b + v0)), (2, .int v2)]) hx hb dX11_alike_34 rfl hl (by decide) rfl (fun ls hl => ?_)
        exact w_X11_alike_35 E hr hlk ih hm hv0 hw (lv_sub hl [1, 0, 2] rfl)
def f_X11_alike (v0 : Nat) (σ : ST) : Option (Int32 × ST) :=
  k_X11_alike_4 FU v0 0 0 σ
set_option maxRecDepth 20000 in
set_option maxHeartbeats 1000000 in
theorem w_X11_alike_0 {p : Program} {l : Launch} {e : Env} {s : State} {m : MethodId} {args : Array Value} {below : List Frame} {meth : Method} {c : Code} {D : va_G} {cy : Nat → ClassId} {b : Nat} (E : CX p m c cX11_alike 3 s args RX11 D cy LC) (hr : meth.sig.returnType = some .int) (hlk : meth.locks = false) {r : Int32 × ST} {v0 : Nat} {σ : ST} {H : Heap} {locs : List Loc} {ls : Array Slot} (hm : f_X11_alike v0 σ = some r) (hv0 : LC.1 v0 = 11) (hw : PH D cy LC b σ s H locs) (hl : lv_has ls 3 [(0, .ref (b + v0))]) : W p l e (rmD 3) s m args below meth c H locs 0 0 (MQ below (QcP D cy LC b (some (.int r.1)) r.2) args s 0 0 (inP LC b)) (F0 m 0 ls []) := by
  have hx := E.1.1
  have hb := E.1.2.1
  unfold f_X11_alike at hm
  refine lv_iconst (v := 0) hx hb dX11_alike_0 (by decide) ?_
  refine lv_istore_n (lv' := [(1, .int 0), (0, .ref (b + v0))]) hx hb dX11_alike_1 rfl hl (by decide) rfl (fun ls hl => ?_)
  refine lv_iconst (v := 0) hx hb dX11_alike_2 (by decide) ?_
  refine lv_istore_n (lv' := [(2, .int 0), (1, .int 0), (0, .ref (b + v0))]) hx hb dX11_alike_3 rfl hl (by decide) rfl (fun ls hl => ?_)
  exact w_X11_alike_4 E hr hlk _ _ _ _ _ _ _ _ hm hv0 hw (lv_sub hl [2, 1, 0] rfl)
theorem c_X11_alike {l : Launch} {D : va_G} {cy : Nat → ClassId} {b : Nat} {v0 : Nat} {σ : ST} {r : Int32 × ST} (hm : f_X11_alike v0 σ = some r) (hv0 : LC.1 v0 = 11) : Met l yX11_alike (wU yX11_alike cX11_alike 3 (some .int)) (rmD 3) (PcP D cy LC b [.ref (b + v0)] σ) (QcP D cy LC b (some (.int r.1)) r.2) 0 0 (inP LC b) :=
  q_met (lv := [(0, .ref (b + v0))]) LC_ok (by decide) (Nat.le_of_ble_eq_true rfl) rfl (fun _ _ _ _ _ _ _ _ _ E hr hlk hw hl => w_X11_alike_0 E hr hlk hm hv0 hw hl)

def k_X11_differ_80 (rec27 : Nat → Int32 → Int32 → Int32 → Int32 → ST → Option (Int32 × ST)) (v0 : Nat) (v1 : Int32) (v2 : Int32) (v3 : Int32) (v4 : Int32) (σ : ST) : Option (Int32 × ST) :=
  rec27 v0 v1 v2 v3 (v4 + 1) σ
set_option maxRecDepth 20000 in
set_option maxHeartbeats 1000000 in
theorem w_X11_differ_80 {p : Program} {l : Launch} {e : Env} {s : State} {m : MethodId} {args : Array Value} {below : List Frame} {meth : Method} {c : Code} {D : va_G} {cy : Nat → ClassId} {b : Nat} (E : CX p m c cX11_differ 5 s args RX11 D cy LC) (hr : meth.sig.returnType = some .int) (hlk : meth.locks = false) {r : Int32 × ST} {rec27 : Nat → Int32 → Int32 → Int32 → Int32 → ST → Option (Int32 × ST)} (hrec27 : ∀ (v0 : Nat) (v1 : Int32) (v2 : Int32) (v3 : Int32) (v4 : Int32) (σ : ST) (H : Heap) (locs : List Loc) (ls : Array Slot), rec27 v0 v1 v2 v3 v4 σ = some r → LC.1 v0 = 11 → PH D cy LC b σ s H locs → lv_has ls 5 [(0, .ref (b + v0)), (1, .int v1), (2, .int v2), (3, .int v3), (4, .int v4)] → W p l e (rmD 2) s m args below meth c H locs 0 0 (MQ below (QcP D cy LC b (some (.int r.1)) r.2) args s 0 0 (inP LC b)) (F0 m 27 ls [])) {v0 : Nat} {v1 : Int32} {v2 : Int32} {v3 : Int32} {v4 : Int32} {σ : ST} {H : Heap} {locs : List Loc} {ls : Array Slot} (hm : k_X11_differ_80 rec27 v0 v1 v2 v3 v4 σ = some r) (hv0 : LC.1 v0 = 11) (hw : PH D cy LC b σ s H locs) (hl : lv_has ls 5 [(0, .ref (b + v0)), (1, .int v1), (2, .int v2), (3, .int v3), (4, .int v4)]) : W p l e (rmD 2) s m args below meth c H locs 0 0 (MQ below (QcP D cy LC b (some (.int r.1)) r.2) args s 0 0 (inP LC b)) (F0 m 80 ls []) := by
  have hx := E.1.1
  have hb := E.1.2.1
  unfold k_X11_differ_80 at hm
  refine lv_iinc (v := v4 + 1) (lv' := [(4, .int (v4 + 1)), (0, .ref (b + v0)), (1, .int v1), (2, .int v2), (3, .int v3)]) hx hb dX11_differ_80 hl (k := 4) rfl rfl (by decide) rfl (fun ls hl => ?_)
  refine lv_goto (tgt := 27) hx hb dX11_differ_83 (by decide) ?_
  exact hrec27 _ _ _ _ _ _ _ _ _ hm hv0 hw (lv_sub hl [1, 2, 3, 4, 0] rfl)
def k_X11_differ_27 : Nat → Nat → Int32 → Int32 → Int32 → Int32 → ST → Option (Int32 × ST)
  | 0, _, _, _, _, _, _ => none
  | n + 1, v0, v1, v2, v3, v4, σ => if (gI σ (LC.2.1 (LC.2.1 v0 2) 0) 7) ≤ v4 then ((f_X11_answer v0 v3 σ).bind fun u2 =>
  some (u2.1, u2.2)) else ((f_X7_areBothPlaces (LC.2.1 (LC.2.1 v0 2) 0) v4 v1 v2 σ).bind fun u3 =>
  if u3.1 = 0 then (k_X11_differ_80 (k_X11_differ_27 n) v0 v1 v2 v3 v4 u3.2) else ((f_X10_areLike (LC.2.1 v0 2) v1 v2 v4 u3.2).bind fun u5 =>
  if u5.1 = 0 then (k_X11_differ_80 (k_X11_differ_27 n) v0 v1 v2 (v3 ||| (1 <<< (v4 &&& 31))) v4 u5.2) else (k_X11_differ_80 (k_X11_differ_27 n) v0 v1 v2 v3 v4 u5.2)))
set_option maxRecDepth 20000 in
set_option maxHeartbeats 1000000 in
theorem w_X11_differ_27 {p : Program} {l : Launch} {e : Env} {s : State} {m : MethodId} {args : Array Value} {below : List Frame} {meth : Method} {c : Code} {D : va_G} {cy : Nat → ClassId} {b : Nat} (E : CX p m c cX11_differ 5 s args RX11 D cy LC) (hr : meth.sig.returnType = some .int) (hlk : meth.locks = false) {r : Int32 × ST} : ∀ (n : Nat) (v0 : Nat) (v1 : Int32) (v2 : Int32) (v3 : Int32) (v4 : Int32) (σ : ST) (H : Heap) (locs : List Loc) (ls : Array Slot), k_X11_differ_27 n v0 v1 v2 v3 v4 σ = some r → LC.1 v0 = 11 → PH D cy LC b σ s H locs → lv_has ls 5 [(0, .ref (b + v0)), (1, .int v1), (2, .int v2), (3, .int v3), (4, .int v4)] → W p l e (rmD 2) s m args below meth c H locs 0 0 (MQ below (QcP D cy LC b (some (.int r.1)) r.2) args s 0 0 (inP LC b)) (F0 m 27 ls []) := by
  have hx := E.1.1
  have hb := E.1.2.1
  intro n
  induction n with
  | zero =>
    intro v0 v1 v2 v3 v4 σ H locs ls hm
    cases hm
  | succ n ih =>
    intro v0 v1 v2 v3 v4 σ H locs ls hm hv0 hw hl
    rw [k_X11_differ_27] at hm
    refine lv_iload hx hb dX11_differ_27 (lv_at hl 4 rfl) ?_
    refine lv_aload_n hx hb dX11_differ_29 rfl (lv_at hl 0 rfl) ?_
    refine q_geta E hw fw_X11_25 rfl hv0 dX11_differ_30 ?_
    refine q_geta E hw fw_X11_40 rfl (tC_11_2 hv0) dX11_differ_33 ?_
    refine q_geti E hw fw_X11_182 rfl (tC_10_0 (tC_11_2 hv0)) dX11_differ_36 ?_
    refine lv_icmp_ge (tgt := 86) hx hb dX11_differ_39 (by decide) (fun c1 => ?_) (fun c1 => ?_)
    · have hm := o_t c1 hm
      refine lv_aload_n hx hb dX11_differ_86 rfl (lv_at hl 0 rfl) ?_
      refine lv_iload_n hx hb dX11_differ_87 rfl (lv_at hl 3 rfl) ?_
      refine q_cVi (κ := 11) (C := RX11) (T := TX11) (N := 20) [] E hw hm mw_X11_187 (fun u hu => c_X11_answer hu hv0) rfl (by decide) hv0 rfl rfl hl.1 (Nat.le_of_ble_eq_true rfl) ⟨Nat.le_of_ble_eq_true rfl, Nat.le_of_ble_eq_true rfl⟩ dX11_differ_88 (fun u2 H locs hm hw => ?_)
      exact q_iret E hr hlk hw hm dX11_differ_91
    · have hm := o_f c1 hm
      refine lv_aload_n hx hb dX11_differ_42 rfl (lv_at hl 0 rfl) ?_
      refine q_geta E hw fw_X11_25 rfl hv0 dX11_differ_43 ?_
      refine q_geta E hw fw_X11_40 rfl (tC_11_2 hv0) dX11_differ_46 ?_
      refine lv_iload hx hb dX11_differ_49 (lv_at hl 4 rfl) ?_
      refine lv_iload_n hx hb dX11_differ_51 rfl (lv_at hl 1 rfl) ?_
      refine lv_iload_n hx hb dX11_differ_52 rfl (lv_at hl 2 rfl) ?_
      refine q_cVi (κ := 7) (C := RX7) (T := TX7) (N := 12) [] E hw hm mw_X11_340 (fun u hu => c_X7_areBothPlaces hu (tC_10_0 (tC_11_2 hv0))) rfl (by decide) (tC_10_0 (tC_11_2 hv0)) rfl rfl hl.1 (Nat.le_of_ble_eq_true rfl) ⟨Nat.le_of_ble_eq_true rfl, Nat.le_of_ble_eq_true rfl⟩ dX11_differ_53 (fun u3 H locs hm hw => ?_)
      refine lv_if_eq (tgt := 80) hx hb dX11_differ_56 (by decide) (fun c4 => ?_) (fun c4 => ?_)
      · have hm := o_t c4 hm
        exact w_X11_differ_80 E hr hlk ih hm hv0 hw (lv_sub hl [0, 1, 2, 3, 4] rfl)
      · have hm := o_f c4 hm
        refine lv_aload_n hx hb dX11_differ_59 rfl (lv_at hl 0 rfl) ?_
        refine q_geta E hw fw_X11_25 rfl hv0 dX11_differ_60 ?_
        refine lv_iload_n hx hb dX11_differ_63 rfl (lv_at hl 1 rfl) ?_
        refine lv_iload_n hx hb dX11_differ_64 rfl (lv_at hl 2 rfl) ?_
        refine lv_iload hx hb dX11_differ_65 (lv_at hl 4 rfl) ?_
        refine q_cVi (κ := 10) (C := RX10) (T := TX10) (N := 12) [] E hw hm mw_X11_336 (fun u hu => c_X10_areLike hu (tC_11_2 hv0)) rfl (by decide) (tC_11_2 hv0) rfl rfl hl.1 (Nat.le_of_ble_eq_true rfl) ⟨Nat.le_of_ble_eq_true rfl, Nat.le_of_ble_eq_true rfl⟩ dX11_differ_67 (fun u5 H locs hm hw => ?_)
        refine lv_if_ne (tgt := 80) hx hb dX11_differ_70 (by decide) (fun c6 => ?_) (fun c6 => ?_)
        · have hm := o_f c6 hm
          exact w_X11_differ_80 E hr hlk ih hm hv0 hw (lv_sub hl [0, 1, 2, 3, 4] rfl)
        · have hm := o_t c6 hm
          refine lv_iload_n hx hb dX11_differ_73 rfl (lv_at hl 3 rfl) ?_
          refine lv_iconst (v := 1) hx hb dX11_differ_74 (by decide) ?_
          refine lv_iload hx hb dX11_differ_75 (lv_at hl 4 rfl) ?_
          refine lv_ishl hx hb dX11_differ_77 ?_
          refine lv_ior hx hb dX11_differ_78 ?_
          refine lv_istore_n (lv' := [(3, .int (v3 ||| (1 <<< (v4 &&& 31)))), (0, .ref (b + v0)), (1, .int v1), (2, .int v2), (4, .int v4)]) hx hb dX11_differ_79 rfl hl (by decide) rfl (fun ls hl => ?_)
          exact w_X11_differ_80 E hr hlk ih hm hv0 hw (lv_sub hl [1, 2, 3, 0, 4] rfl)
def k_X11_differ_16 (v0 : Nat) (σ : ST) : Option (Int32 × ST) :=
  (f_X11_refuse v0 1 σ).bind fun u7 =>
  some (u7.1, u7.2)
set_option maxRecDepth 20000 in
set_option maxHeartbeats 1000000 in
theorem w_X11_differ_16 {p : Program} {l : Launch} {e : Env} {s : State} {m : MethodId} {args : Array Value} {below : List Frame} {meth : Method} {c : Code} {D : va_G} {cy : Nat → ClassId} {b : Nat} (E : CX p m c cX11_differ 5 s args RX11 D cy LC) (hr : meth.sig.returnType = some .int) (hlk : meth.locks = false) {r : Int32 × ST} {v0 : Nat} {σ : ST} {H : Heap} {locs : List Loc} {ls : Array Slot} (hm : k_X11_differ_16 v0 σ = some r) (hv0 : LC.1 v0 = 11) (hw : PH D cy LC b σ s H locs) (hl : lv_has ls 5 [(0, .ref (b + v0))]) : W p l e (rmD 2) s m args below meth c H locs 0 0 (MQ below (QcP D cy LC b (some (.int r.1)) r.2) args s 0 0 (inP LC b)) (F0 m 16 ls []) := by
  have hx := E.1.1
  have hb := E.1.2.1
  unfold k_X11_differ_16 at hm
  refine lv_aload_n hx hb dX11_differ_16 rfl (lv_at hl 0 rfl) ?_
  refine lv_iconst (v := 1) hx hb dX11_differ_17 (by decide) ?_
  refine q_cVi (κ := 11) (C := RX11) (T := TX11) (N := 20) [] E hw hm mw_X11_142 (fun u hu => c_X11_refuse hu hv0) rfl (by decide) hv0 rfl rfl hl.1 (Nat.le_of_ble_eq_true rfl) ⟨Nat.le_of_ble_eq_true rfl, Nat.le_of_ble_eq_true rfl⟩ dX11_differ_18 (fun u7 H locs hm hw => ?_)
  exact q_iret E hr hlk hw hm dX11_differ_21
def f_X11_differ (v0 : Nat) (v1 : Int32) (v2 : Int32) (σ : ST) : Option (Int32 × ST) :=
  (f_X11_isKeeper v0 v1 σ).bind fun u8 =>
  if u8.1 = 0 then (k_X11_differ_16 v0 u8.2) else ((f_X11_isKeeper v0 v2 u8.2).bind fun u10 =>
  if u10.1 = 0 then (k_X11_differ_16 v0 u10.2) else (k_X11_differ_27 FU v0 v1 v2 0 0 u10.2))
set_option maxRecDepth 20000 in
set_option maxHeartbeats 1000000 in
theorem w_X11_differ_0 {p : Program} {l : Launch} {e : Env} {s : State} {m : MethodId} {args : Array Value} {below : List Frame} {meth : Method} {c : Code} {D : va_G} {cy : Nat → ClassId} {b : Nat} (E : CX p m c cX11_differ 5 s args RX11 D cy LC) (hr : meth.sig.returnType = some .int) (hlk : meth.locks = false) {r : Int32 × ST} {v0 : Nat} {v1 : Int32} {v2 : Int32} {σ : ST} {H : Heap} {locs : List Loc} {ls : Array Slot} (hm : f_X11_differ v0 v1 v2 σ = some r) (hv0 : LC.1 v0 = 11) (hw : PH D cy LC b σ s H locs) (hl : lv_has ls 5 [(0, .ref (b + v0)), (1, .int v1), (2, .int v2)]) : W p l e (rmD 2) s m args below meth c H locs 0 0 (MQ below (QcP D cy LC b (some (.int r.1)) r.2) args s 0 0 (inP LC b)) (F0 m 0 ls []) := by
  have hx := E.1.1
  have hb := E.1.2.1
  unfold f_X11_differ at hm
  refine lv_aload_n hx hb dX11_differ_0 rfl (lv_at hl 0 rfl) ?_
  refine lv_iload_n hx hb dX11_differ_1 rfl (lv_at hl 1 rfl) ?_
  refine q_cVi (κ := 11) (C := RX11) (T := TX11) (N := 20) [] E hw hm mw_X11_241 (fun u hu => c_X11_isKeeper hu hv0) rfl (by decide) hv0 rfl rfl hl.1 (Nat.le_of_ble_eq_true rfl) ⟨Nat.le_of_ble_eq_true rfl, Nat.le_of_ble_eq_true rfl⟩ dX11_differ_2 (fun u8 H locs hm hw => ?_)
  refine lv_if_eq (tgt := 16) hx hb dX11_differ_5 (by decide) (fun c9 => ?_) (fun c9 => ?_)
  · have hm := o_t c9 hm
    exact w_X11_differ_16 E hr hlk hm hv0 hw (lv_sub hl [0] rfl)
  · have hm := o_f c9 hm
    refine lv_aload_n hx hb dX11_differ_8 rfl (lv_at hl 0 rfl) ?_
    refine lv_iload_n hx hb dX11_differ_9 rfl (lv_at hl 2 rfl) ?_
    refine q_cVi (κ := 11) (C := RX11) (T := TX11) (N := 20) [] E hw hm mw_X11_241 (fun u hu => c_X11_isKeeper hu hv0) rfl (by decide) hv0 rfl rfl hl.1 (Nat.le_of_ble_eq_true rfl) ⟨Nat.le_of_ble_eq_true rfl, Nat.le_of_ble_eq_true rfl⟩ dX11_differ_10 (fun u10 H locs hm hw => ?_)
    refine lv_if_ne (tgt := 22) hx hb dX11_differ_13 (by decide) (fun c11 => ?_) (fun c11 => ?_)
    · have hm := o_f c11 hm
      refine lv_iconst (v := 0) hx hb dX11_differ_22 (by decide) ?_
      refine lv_istore_n (lv' := [(3, .int 0), (0, .ref (b + v0)), (1, .int v1), (2, .int v2)]) hx hb dX11_differ_23 rfl hl (by decide) rfl (fun ls hl => ?_)
      refine lv_iconst (v := 0) hx hb dX11_differ_24 (by decide) ?_
      refine lv_istore (lv' := [(4, .int 0), (3, .int 0), (0, .ref (b + v0)), (1, .int v1), (2, .int v2)]) hx hb dX11_differ_25 hl (by decide) rfl (fun ls hl => ?_)
      exact w_X11_differ_27 E hr hlk _ _ _ _ _ _ _ _ _ _ hm hv0 hw (lv_sub hl [2, 3, 4, 1, 0] rfl)
    · have hm := o_t c11 hm
      exact w_X11_differ_16 E hr hlk hm hv0 hw (lv_sub hl [0] rfl)
theorem c_X11_differ {l : Launch} {D : va_G} {cy : Nat → ClassId} {b : Nat} {v0 : Nat} {v1 : Int32} {v2 : Int32} {σ : ST} {r : Int32 × ST} (hm : f_X11_differ v0 v1 v2 σ = some r) (hv0 : LC.1 v0 = 11) : Met l yX11_differ (wU yX11_differ cX11_differ 5 (some .int)) (rmD 2) (PcP D cy LC b [.ref (b + v0), .int v1, .int v2] σ) (QcP D cy LC b (some (.int r.1)) r.2) 0 0 (inP LC b) :=
  q_met (lv := [(0, .ref (b + v0)), (1, .int v1), (2, .int v2)]) LC_ok (by decide) (Nat.le_of_ble_eq_true rfl) rfl (fun _ _ _ _ _ _ _ _ _ E hr hlk hw hl => w_X11_differ_0 E hr hlk hm hv0 hw hl)

def k_X11_root_28 (s0 : Int32) (σ : ST) : Option (Int32 × ST) :=
  some (s0, σ)
set_option maxRecDepth 20000 in
set_option maxHeartbeats 1000000 in
theorem w_X11_root_28 {p : Program} {l : Launch} {e : Env} {s : State} {m : MethodId} {args : Array Value} {below : List Frame} {meth : Method} {c : Code} {D : va_G} {cy : Nat → ClassId} {b : Nat} (E : CX p m c cX11_root 2 s args RX11 D cy LC) (hr : meth.sig.returnType = some .int) (hlk : meth.locks = false) {r : Int32 × ST} {s0 : Int32} {σ : ST} {H : Heap} {locs : List Loc} {ls : Array Slot} (hm : k_X11_root_28 s0 σ = some r) (hw : PH D cy LC b σ s H locs) (hl : lv_has ls 2 []) : W p l e (rmD 4) s m args below meth c H locs 0 0 (MQ below (QcP D cy LC b (some (.int r.1)) r.2) args s 0 0 (inP LC b)) (F0 m 28 ls [.int s0]) := by
  have hx := E.1.1
  have hb := E.1.2.1
  unfold k_X11_root_28 at hm
  exact q_iret E hr hlk hw hm dX11_root_28
def f_X11_root (v0 : Nat) (v1 : Int32) (σ : ST) : Option (Int32 × ST) :=
  (f_X11_isKeeper v0 v1 σ).bind fun u1 =>
  if u1.1 = 0 then ((f_X11_refuse v0 1 u1.2).bind fun u3 =>
  k_X11_root_28 u3.1 u3.2) else ((f_X10_rootOf (LC.2.1 v0 2) v1 u1.2).bind fun u4 =>
  (f_X11_answer v0 u4.1 u4.2).bind fun u5 =>
  k_X11_root_28 u5.1 u5.2)
set_option maxRecDepth 20000 in
set_option maxHeartbeats 1000000 in
theorem w_X11_root_0 {p : Program} {l : Launch} {e : Env} {s : State} {m : MethodId} {args : Array Value} {below : List Frame} {meth : Method} {c : Code} {D : va_G} {cy : Nat → ClassId} {b : Nat} (E : CX p m c cX11_root 2 s args RX11 D cy LC) (hr : meth.sig.returnType = some .int) (hlk : meth.locks = false) {r : Int32 × ST} {v0 : Nat} {v1 : Int32} {σ : ST} {H : Heap} {locs : List Loc} {ls : Array Slot} (hm : f_X11_root v0 v1 σ = some r) (hv0 : LC.1 v0 = 11) (hw : PH D cy LC b σ s H locs) (hl : lv_has ls 2 [(0, .ref (b + v0)), (1, .int v1)]) : W p l e (rmD 4) s m args below meth c H locs 0 0 (MQ below (QcP D cy LC b (some (.int r.1)) r.2) args s 0 0 (inP LC b)) (F0 m 0 ls []) := by
  have hx := E.1.1
  have hb := E.1.2.1
  unfold f_X11_root at hm
  refine lv_aload_n hx hb dX11_root_0 rfl (lv_at hl 0 rfl) ?_
  refine lv_iload_n hx hb dX11_root_1 rfl (lv_at hl 1 rfl) ?_
  refine q_cVi (κ := 11) (C := RX11) (T := TX11) (N := 20) [] E hw hm mw_X11_241 (fun u hu => c_X11_isKeeper hu hv0) rfl (by decide) hv0 rfl rfl hl.1 (Nat.le_of_ble_eq_true rfl) ⟨Nat.le_of_ble_eq_true rfl, Nat.le_of_ble_eq_true rfl⟩ dX11_root_2 (fun u1 H locs hm hw => ?_)
  refine lv_if_eq (tgt := 23) hx hb dX11_root_5 (by decide) (fun c2 => ?_) (fun c2 => ?_)
  · have hm := o_t c2 hm
    refine lv_aload_n hx hb dX11_root_23 rfl (lv_at hl 0 rfl) ?_
    refine lv_iconst (v := 1) hx hb dX11_root_24 (by decide) ?_
    refine q_cVi (κ := 11) (C := RX11) (T := TX11) (N := 20) [] E hw hm mw_X11_142 (fun u hu => c_X11_refuse hu hv0) rfl (by decide) hv0 rfl rfl hl.1 (Nat.le_of_ble_eq_true rfl) ⟨Nat.le_of_ble_eq_true rfl, Nat.le_of_ble_eq_true rfl⟩ dX11_root_25 (fun u3 H locs hm hw => ?_)
    exact w_X11_root_28 E hr hlk hm  hw (lv_sub hl [] rfl)
  · have hm := o_f c2 hm
    refine lv_aload_n hx hb dX11_root_8 rfl (lv_at hl 0 rfl) ?_
    refine lv_aload_n hx hb dX11_root_9 rfl (lv_at hl 0 rfl) ?_
    refine q_geta E hw fw_X11_25 rfl hv0 dX11_root_10 ?_
    refine lv_iload_n hx hb dX11_root_13 rfl (lv_at hl 1 rfl) ?_
    refine q_cVi (κ := 10) (C := RX10) (T := TX10) (N := 12) [.ref (b + v0)] E hw hm mw_X11_343 (fun u hu => c_X10_rootOf hu (tC_11_2 hv0)) rfl (by decide) (tC_11_2 hv0) rfl rfl hl.1 (Nat.le_of_ble_eq_true rfl) ⟨Nat.le_of_ble_eq_true rfl, Nat.le_of_ble_eq_true rfl⟩ dX11_root_14 (fun u4 H locs hm hw => ?_)
    refine q_cVi (κ := 11) (C := RX11) (T := TX11) (N := 20) [] E hw hm mw_X11_187 (fun u hu => c_X11_answer hu hv0) rfl (by decide) hv0 rfl rfl hl.1 (Nat.le_of_ble_eq_true rfl) ⟨Nat.le_of_ble_eq_true rfl, Nat.le_of_ble_eq_true rfl⟩ dX11_root_17 (fun u5 H locs hm hw => ?_)
    refine lv_goto (tgt := 28) hx hb dX11_root_20 (by decide) ?_
    exact w_X11_root_28 E hr hlk hm  hw (lv_sub hl [] rfl)
theorem c_X11_root {l : Launch} {D : va_G} {cy : Nat → ClassId} {b : Nat} {v0 : Nat} {v1 : Int32} {σ : ST} {r : Int32 × ST} (hm : f_X11_root v0 v1 σ = some r) (hv0 : LC.1 v0 = 11) : Met l yX11_root (wU yX11_root cX11_root 2 (some .int)) (rmD 4) (PcP D cy LC b [.ref (b + v0), .int v1] σ) (QcP D cy LC b (some (.int r.1)) r.2) 0 0 (inP LC b) :=
  q_met (lv := [(0, .ref (b + v0)), (1, .int v1)]) LC_ok (by decide) (Nat.le_of_ble_eq_true rfl) rfl (fun _ _ _ _ _ _ _ _ _ E hr hlk hw hl => w_X11_root_0 E hr hlk hm hv0 hw hl)

def k_X11_fresh_99 (rec41 : Nat → Int32 → Int32 → Int32 → ST → Option (Int32 × ST)) (v0 : Nat) (v1 : Int32) (v2 : Int32) (v3 : Int32) (σ : ST) : Option (Int32 × ST) :=
  rec41 v0 v1 v2 (v3 + 1) σ
set_option maxRecDepth 20000 in
set_option maxHeartbeats 1000000 in
theorem w_X11_fresh_99 {p : Program} {l : Launch} {e : Env} {s : State} {m : MethodId} {args : Array Value} {below : List Frame} {meth : Method} {c : Code} {D : va_G} {cy : Nat → ClassId} {b : Nat} (E : CX p m c cX11_fresh 4 s args RX11 D cy LC) (hr : meth.sig.returnType = some .int) (hlk : meth.locks = false) {r : Int32 × ST} {rec41 : Nat → Int32 → Int32 → Int32 → ST → Option (Int32 × ST)} (hrec41 : ∀ (v0 : Nat) (v1 : Int32) (v2 : Int32) (v3 : Int32) (σ : ST) (H : Heap) (locs : List Loc) (ls : Array Slot), rec41 v0 v1 v2 v3 σ = some r → LC.1 v0 = 11 → PH D cy LC b σ s H locs → lv_has ls 4 [(0, .ref (b + v0)), (1, .int v1), (2, .int v2), (3, .int v3)] → W p l e (rmD 4) s m args below meth c H locs 0 0 (MQ below (QcP D cy LC b (some (.int r.1)) r.2) args s 0 0 (inP LC b)) (F0 m 41 ls [])) {v0 : Nat} {v1 : Int32} {v2 : Int32} {v3 : Int32} {σ : ST} {H : Heap} {locs : List Loc} {ls : Array Slot} (hm : k_X11_fresh_99 rec41 v0 v1 v2 v3 σ = some r) (hv0 : LC.1 v0 = 11) (hw : PH D cy LC b σ s H locs) (hl : lv_has ls 4 [(0, .ref (b + v0)), (1, .int v1), (2, .int v2), (3, .int v3)]) : W p l e (rmD 4) s m args below meth c H locs 0 0 (MQ below (QcP D cy LC b (some (.int r.1)) r.2) args s 0 0 (inP LC b)) (F0 m 99 ls []) := by
  have hx := E.1.1
  have hb := E.1.2.1
  unfold k_X11_fresh_99 at hm
  refine lv_iinc (v := v3 + 1) (lv' := [(3, .int (v3 + 1)), (0, .ref (b + v0)), (1, .int v1), (2, .int v2)]) hx hb dX11_fresh_99 hl (k := 3) rfl rfl (by decide) rfl (fun ls hl => ?_)
  refine lv_goto (tgt := 41) hx hb dX11_fresh_102 (by decide) ?_
  exact hrec41 _ _ _ _ _ _ _ _ hm hv0 hw (lv_sub hl [1, 2, 3, 0] rfl)
def k_X11_fresh_41 : Nat → Nat → Int32 → Int32 → Int32 → ST → Option (Int32 × ST)
  | 0, _, _, _, _, _ => none
  | n + 1, v0, v1, v2, v3, σ => if (gI σ (LC.2.1 (LC.2.1 v0 2) 0) 6) ≤ v3 then ((f_X11_answer v0 v2 σ).bind fun u2 =>
  some (u2.1, u2.2)) else ((f_X7_isPlace (LC.2.1 (LC.2.1 v0 2) 0) v1 v3 σ).bind fun u3 =>
  if u3.1 = 0 then (k_X11_fresh_99 (k_X11_fresh_41 n) v0 v1 v2 v3 u3.2) else ((f_X10_cellOf v3 v1 u3.2).bind fun u5 =>
  (f_X0_isSame (LC.2.1 v0 11) 0 (LC.2.1 (LC.2.1 v0 2) 2) u5.1 u5.2).bind fun u6 =>
  if u6.1 = 0 then (k_X11_fresh_99 (k_X11_fresh_41 n) v0 v1 v2 v3 u6.2) else (k_X11_fresh_99 (k_X11_fresh_41 n) v0 v1 (v2 ||| (1 <<< (v3 &&& 31))) v3 u6.2)))
set_option maxRecDepth 20000 in
set_option maxHeartbeats 1000000 in
theorem w_X11_fresh_41 {p : Program} {l : Launch} {e : Env} {s : State} {m : MethodId} {args : Array Value} {below : List Frame} {meth : Method} {c : Code} {D : va_G} {cy : Nat → ClassId} {b : Nat} (E : CX p m c cX11_fresh 4 s args RX11 D cy LC) (hr : meth.sig.returnType = some .int) (hlk : meth.locks = false) {r : Int32 × ST} : ∀ (n : Nat) (v0 : Nat) (v1 : Int32) (v2 : Int32) (v3 : Int32) (σ : ST) (H : Heap) (locs : List Loc) (ls : Array Slot), k_X11_fresh_41 n v0 v1 v2 v3 σ = some r → LC.1 v0 = 11 → PH D cy LC b σ s H locs → lv_has ls 4 [(0, .ref (b + v0)), (1, .int v1), (2, .int v2), (3, .int v3)] → W p l e (rmD 4) s m args below meth c H locs 0 0 (MQ below (QcP D cy LC b (some (.int r.1)) r.2) args s 0 0 (inP LC b)) (F0 m 41 ls []) := by
  have hx := E.1.1
  have hb := E.1.2.1
  intro n
  induction n with
  | zero =>
    intro v0 v1 v2 v3 σ H locs ls hm
    cases hm
  | succ n ih =>
    intro v0 v1 v2 v3 σ H locs ls hm hv0 hw hl
    rw [k_X11_fresh_41] at hm
    refine lv_iload_n hx hb dX11_fresh_41 rfl (lv_at hl 3 rfl) ?_
    refine lv_aload_n hx hb dX11_fresh_42 rfl (lv_at hl 0 rfl) ?_
    refine q_geta E hw fw_X11_25 rfl hv0 dX11_fresh_43 ?_
    refine q_geta E hw fw_X11_40 rfl (tC_11_2 hv0) dX11_fresh_46 ?_
    refine q_geti E hw fw_X11_220 rfl (tC_10_0 (tC_11_2 hv0)) dX11_fresh_49 ?_
    refine lv_icmp_ge (tgt := 105) hx hb dX11_fresh_52 (by decide) (fun c1 => ?_) (fun c1 => ?_)
    · have hm := o_t c1 hm
      refine lv_aload_n hx hb dX11_fresh_105 rfl (lv_at hl 0 rfl) ?_
      refine lv_iload_n hx hb dX11_fresh_106 rfl (lv_at hl 2 rfl) ?_
      refine q_cVi (κ := 11) (C := RX11) (T := TX11) (N := 20) [] E hw hm mw_X11_187 (fun u hu => c_X11_answer hu hv0) rfl (by decide) hv0 rfl rfl hl.1 (Nat.le_of_ble_eq_true rfl) ⟨Nat.le_of_ble_eq_true rfl, Nat.le_of_ble_eq_true rfl⟩ dX11_fresh_107 (fun u2 H locs hm hw => ?_)
      exact q_iret E hr hlk hw hm dX11_fresh_110
    · have hm := o_f c1 hm
      refine lv_aload_n hx hb dX11_fresh_55 rfl (lv_at hl 0 rfl) ?_
      refine q_geta E hw fw_X11_25 rfl hv0 dX11_fresh_56 ?_
      refine q_geta E hw fw_X11_40 rfl (tC_11_2 hv0) dX11_fresh_59 ?_
      refine lv_iload_n hx hb dX11_fresh_62 rfl (lv_at hl 1 rfl) ?_
      refine lv_iload_n hx hb dX11_fresh_63 rfl (lv_at hl 3 rfl) ?_
      refine q_cVi (κ := 7) (C := RX7) (T := TX7) (N := 12) [] E hw hm mw_X11_353 (fun u hu => c_X7_isPlace hu (tC_10_0 (tC_11_2 hv0))) rfl (by decide) (tC_10_0 (tC_11_2 hv0)) rfl rfl hl.1 (Nat.le_of_ble_eq_true rfl) ⟨Nat.le_of_ble_eq_true rfl, Nat.le_of_ble_eq_true rfl⟩ dX11_fresh_64 (fun u3 H locs hm hw => ?_)
      refine lv_if_eq (tgt := 99) hx hb dX11_fresh_67 (by decide) (fun c4 => ?_) (fun c4 => ?_)
      · have hm := o_t c4 hm
        exact w_X11_fresh_99 E hr hlk ih hm hv0 hw (lv_sub hl [0, 1, 2, 3] rfl)
      · have hm := o_f c4 hm
        refine lv_aload_n hx hb dX11_fresh_70 rfl (lv_at hl 0 rfl) ?_
        refine q_geta E hw fw_X11_87 rfl hv0 dX11_fresh_71 ?_
        refine lv_iconst (v := 0) hx hb dX11_fresh_74 (by decide) ?_
        refine lv_aload_n hx hb dX11_fresh_75 rfl (lv_at hl 0 rfl) ?_
        refine q_geta E hw fw_X11_25 rfl hv0 dX11_fresh_76 ?_
        refine q_geta E hw fw_X11_306 rfl (tC_11_2 hv0) dX11_fresh_79 ?_
        refine lv_iload_n hx hb dX11_fresh_82 rfl (lv_at hl 3 rfl) ?_
        refine lv_iload_n hx hb dX11_fresh_83 rfl (lv_at hl 1 rfl) ?_
        refine q_cSi [.ref (b + (LC.2.1 (LC.2.1 v0 2) 2)), .int 0, .ref (b + (LC.2.1 v0 11))] E hw hm ms_X11_309 (fun u hu => c_X10_cellOf hu ) rfl rfl hl.1 (Nat.le_of_ble_eq_true rfl) ⟨Nat.le_of_ble_eq_true rfl, Nat.le_of_ble_eq_true rfl⟩ dX11_fresh_84 (fun u5 H locs hm hw => ?_)
        refine q_cVi (κ := 0) (C := RX0) (T := TX0) (N := 2) [] E hw hm mw_X11_356 (fun u hu => c_X0_isSame hu (tC_11_11 hv0) (tC_10_2 (tC_11_2 hv0))) rfl (by decide) (tC_11_11 hv0) rfl rfl hl.1 (Nat.le_of_ble_eq_true rfl) ⟨Nat.le_of_ble_eq_true rfl, Nat.le_of_ble_eq_true rfl⟩ dX11_fresh_87 (fun u6 H locs hm hw => ?_)
        refine lv_if_eq (tgt := 99) hx hb dX11_fresh_90 (by decide) (fun c7 => ?_) (fun c7 => ?_)
        · have hm := o_t c7 hm
          exact w_X11_fresh_99 E hr hlk ih hm hv0 hw (lv_sub hl [0, 1, 2, 3] rfl)
        · have hm := o_f c7 hm
          refine lv_iload_n hx hb dX11_fresh_93 rfl (lv_at hl 2 rfl) ?_
          refine lv_iconst (v := 1) hx hb dX11_fresh_94 (by decide) ?_
          refine lv_iload_n hx hb dX11_fresh_95 rfl (lv_at hl 3 rfl) ?_
          refine lv_ishl hx hb dX11_fresh_96 ?_
          refine lv_ior hx hb dX11_fresh_97 ?_
          refine lv_istore_n (lv' := [(2, .int (v2 ||| (1 <<< (v3 &&& 31)))), (0, .ref (b + v0)), (1, .int v1), (3, .int v3)]) hx hb dX11_fresh_98 rfl hl (by decide) rfl (fun ls hl => ?_)
          exact w_X11_fresh_99 E hr hlk ih hm hv0 hw (lv_sub hl [1, 2, 0, 3] rfl)
def f_X11_fresh (v0 : Nat) (v1 : Int32) (σ : ST) : Option (Int32 × ST) :=
  (f_X11_isKey v0 v1 σ).bind fun u8 =>
  if u8.1 = 0 then ((f_X11_refuse v0 1 u8.2).bind fun u12 =>
  some (u12.1, u12.2)) else ((f_X7_keeperSet (LC.2.1 (LC.2.1 v0 2) 0) u8.2).bind fun u10 =>
  (f_X10_joinSet (LC.2.1 v0 2) u10.1 v1 (LC.2.1 v0 11) 0 u10.2).bind fun u11 =>
  k_X11_fresh_41 FU v0 v1 0 0 u11)
set_option maxRecDepth 20000 in
set_option maxHeartbeats 1000000 in
theorem w_X11_fresh_0 {p : Program} {l : Launch} {e : Env} {s : State} {m : MethodId} {args : Array Value} {below : List Frame} {meth : Method} {c : Code} {D : va_G} {cy : Nat → ClassId} {b : Nat} (E : CX p m c cX11_fresh 4 s args RX11 D cy LC) (hr : meth.sig.returnType = some .int) (hlk : meth.locks = false) {r : Int32 × ST} {v0 : Nat} {v1 : Int32} {σ : ST} {H : Heap} {locs : List Loc} {ls : Array Slot} (hm : f_X11_fresh v0 v1 σ = some r) (hv0 : LC.1 v0 = 11) (hw : PH D cy LC b σ s H locs) (hl : lv_has ls 4 [(0, .ref (b + v0)), (1, .int v1)]) : W p l e (rmD 4) s m args below meth c H locs 0 0 (MQ below (QcP D cy LC b (some (.int r.1)) r.2) args s 0 0 (inP LC b)) (F0 m 0 ls []) := by
  have hx := E.1.1
  have hb := E.1.2.1
  unfold f_X11_fresh at hm
  refine lv_aload_n hx hb dX11_fresh_0 rfl (lv_at hl 0 rfl) ?_
  refine lv_iload_n hx hb dX11_fresh_1 rfl (lv_at hl 1 rfl) ?_
  refine q_cVi (κ := 11) (C := RX11) (T := TX11) (N := 20) [] E hw hm mw_X11_232 (fun u hu => c_X11_isKey hu hv0) rfl (by decide) hv0 rfl rfl hl.1 (Nat.le_of_ble_eq_true rfl) ⟨Nat.le_of_ble_eq_true rfl, Nat.le_of_ble_eq_true rfl⟩ dX11_fresh_2 (fun u8 H locs hm hw => ?_)
  refine lv_if_ne (tgt := 14) hx hb dX11_fresh_5 (by decide) (fun c9 => ?_) (fun c9 => ?_)
  · have hm := o_f c9 hm
    refine lv_aload_n hx hb dX11_fresh_14 rfl (lv_at hl 0 rfl) ?_
    refine q_geta E hw fw_X11_25 rfl hv0 dX11_fresh_15 ?_
    refine lv_aload_n hx hb dX11_fresh_18 rfl (lv_at hl 0 rfl) ?_
    refine q_geta E hw fw_X11_25 rfl hv0 dX11_fresh_19 ?_
    refine q_geta E hw fw_X11_40 rfl (tC_11_2 hv0) dX11_fresh_22 ?_
    refine q_cVi (κ := 7) (C := RX7) (T := TX7) (N := 12) [.ref (b + (LC.2.1 v0 2))] E hw hm mw_X11_346 (fun u hu => c_X7_keeperSet hu (tC_10_0 (tC_11_2 hv0))) rfl (by decide) (tC_10_0 (tC_11_2 hv0)) rfl rfl hl.1 (Nat.le_of_ble_eq_true rfl) ⟨Nat.le_of_ble_eq_true rfl, Nat.le_of_ble_eq_true rfl⟩ dX11_fresh_25 (fun u10 H locs hm hw => ?_)
    refine lv_iload_n hx hb dX11_fresh_28 rfl (lv_at hl 1 rfl) ?_
    refine lv_aload_n hx hb dX11_fresh_29 rfl (lv_at hl 0 rfl) ?_
    refine q_geta E hw fw_X11_87 rfl hv0 dX11_fresh_30 ?_
    refine lv_iconst (v := 0) hx hb dX11_fresh_33 (by decide) ?_
    refine q_cVv (κ := 10) (C := RX10) (T := TX10) (N := 12) [] E hw hm mw_X11_349 (fun u hu => c_X10_joinSet hu (tC_11_2 hv0) (tC_11_11 hv0)) rfl (by decide) (tC_11_2 hv0) rfl rfl hl.1 (Nat.le_of_ble_eq_true rfl) ⟨Nat.le_of_ble_eq_true rfl, Nat.le_of_ble_eq_true rfl⟩ dX11_fresh_34 (fun u11 H locs hm hw => ?_)
    refine lv_iconst (v := 0) hx hb dX11_fresh_37 (by decide) ?_
    refine lv_istore_n (lv' := [(2, .int 0), (0, .ref (b + v0)), (1, .int v1)]) hx hb dX11_fresh_38 rfl hl (by decide) rfl (fun ls hl => ?_)
    refine lv_iconst (v := 0) hx hb dX11_fresh_39 (by decide) ?_
    refine lv_istore_n (lv' := [(3, .int 0), (2, .int 0), (0, .ref (b + v0)), (1, .int v1)]) hx hb dX11_fresh_40 rfl hl (by decide) rfl (fun ls hl => ?_)
    exact w_X11_fresh_41 E hr hlk _ _ _ _ _ _ _ _ _ hm hv0 hw (lv_sub hl [2, 3, 1, 0] rfl)
  · have hm := o_t c9 hm
    refine lv_aload_n hx hb dX11_fresh_8 rfl (lv_at hl 0 rfl) ?_
    refine lv_iconst (v := 1) hx hb dX11_fresh_9 (by decide) ?_
    refine q_cVi (κ := 11) (C := RX11) (T := TX11) (N := 20) [] E hw hm mw_X11_142 (fun u hu => c_X11_refuse hu hv0) rfl (by decide) hv0 rfl rfl hl.1 (Nat.le_of_ble_eq_true rfl) ⟨Nat.le_of_ble_eq_true rfl, Nat.le_of_ble_eq_true rfl⟩ dX11_fresh_10 (fun u12 H locs hm hw => ?_)
    exact q_iret E hr hlk hw hm dX11_fresh_13
theorem c_X11_fresh {l : Launch} {D : va_G} {cy : Nat → ClassId} {b : Nat} {v0 : Nat} {v1 : Int32} {σ : ST} {r : Int32 × ST} (hm : f_X11_fresh v0 v1 σ = some r) (hv0 : LC.1 v0 = 11) : Met l yX11_fresh (wU yX11_fresh cX11_fresh 4 (some .int)) (rmD 4) (PcP D cy LC b [.ref (b + v0), .int v1] σ) (QcP D cy LC b (some (.int r.1)) r.2) 0 0 (inP LC b) :=
  q_met (lv := [(0, .ref (b + v0)), (1, .int v1)]) LC_ok (by decide) (Nat.le_of_ble_eq_true rfl) rfl (fun _ _ _ _ _ _ _ _ _ E hr hlk hw hl => w_X11_fresh_0 E hr hlk hm hv0 hw hl)

def k_X11_late_16 (v0 : Nat) (σ : ST) : Option (Int32 × ST) :=
  (f_X11_refuse v0 1 σ).bind fun u1 =>
  some (u1.1, u1.2)
set_option maxRecDepth 20000 in
set_option maxHeartbeats 1000000 in
theorem w_X11_late_16 {p : Program} {l : Launch} {e : Env} {s : State} {m : MethodId} {args : Array Value} {below : List Frame} {meth : Method} {c : Code} {D : va_G} {cy : Nat → ClassId} {b : Nat} (E : CX p m c cX11_late 3 s args RX11 D cy LC) (hr : meth.sig.returnType = some .int) (hlk : meth.locks = false) {r : Int32 × ST} {v0 : Nat} {σ : ST} {H : Heap} {locs : List Loc} {ls : Array Slot} (hm : k_X11_late_16 v0 σ = some r) (hv0 : LC.1 v0 = 11) (hw : PH D cy LC b σ s H locs) (hl : lv_has ls 3 [(0, .ref (b + v0))]) : W p l e (rmD 4) s m args below meth c H locs 0 0 (MQ below (QcP D cy LC b (some (.int r.1)) r.2) args s 0 0 (inP LC b)) (F0 m 16 ls []) := by
  have hx := E.1.1
  have hb := E.1.2.1
  unfold k_X11_late_16 at hm
  refine lv_aload_n hx hb dX11_late_16 rfl (lv_at hl 0 rfl) ?_
  refine lv_iconst (v := 1) hx hb dX11_late_17 (by decide) ?_
  refine q_cVi (κ := 11) (C := RX11) (T := TX11) (N := 20) [] E hw hm mw_X11_142 (fun u hu => c_X11_refuse hu hv0) rfl (by decide) hv0 rfl rfl hl.1 (Nat.le_of_ble_eq_true rfl) ⟨Nat.le_of_ble_eq_true rfl, Nat.le_of_ble_eq_true rfl⟩ dX11_late_18 (fun u1 H locs hm hw => ?_)
  exact q_iret E hr hlk hw hm dX11_late_21
def f_X11_late (v0 : Nat) (v1 : Int32) (v2 : Int32) (σ : ST) : Option (Int32 × ST) :=
  (f_X11_isKeeper v0 v1 σ).bind fun u2 =>
  if u2.1 = 0 then (k_X11_late_16 v0 u2.2) else ((f_X11_isKey v0 v2 u2.2).bind fun u4 =>
  if u4.1 = 0 then (k_X11_late_16 v0 u4.2) else ((f_X7_keeperSet (LC.2.1 (LC.2.1 v0 2) 0) u4.2).bind fun u6 =>
  (f_X10_joinSet (LC.2.1 v0 2) u6.1 v2 (LC.2.1 v0 11) 0 u6.2).bind fun u7 =>
  (f_X0_sumOf (LC.2.1 v0 11) 0 u7).bind fun u8 =>
  (f_X10_cellOf v1 v2 u8.2).bind fun u9 =>
  (f_X0_sumOf (LC.2.1 (LC.2.1 v0 2) 2) u9.1 u9.2).bind fun u10 =>
  (f_X11_answer v0 (u8.1 - u10.1) u10.2).bind fun u11 =>
  some (u11.1, u11.2)))
set_option maxRecDepth 20000 in
set_option maxHeartbeats 1000000 in
theorem w_X11_late_0 {p : Program} {l : Launch} {e : Env} {s : State} {m : MethodId} {args : Array Value} {below : List Frame} {meth : Method} {c : Code} {D : va_G} {cy : Nat → ClassId} {b : Nat} (E : CX p m c cX11_late 3 s args RX11 D cy LC) (hr : meth.sig.returnType = some .int) (hlk : meth.locks = false) {r : Int32 × ST} {v0 : Nat} {v1 : Int32} {v2 : Int32} {σ : ST} {H : Heap} {locs : List Loc} {ls : Array Slot} (hm : f_X11_late v0 v1 v2 σ = some r) (hv0 : LC.1 v0 = 11) (hw : PH D cy LC b σ s H locs) (hl : lv_has ls 3 [(0, .ref (b + v0)), (1, .int v1), (2, .int v2)]) : W p l e (rmD 4) s m args below meth c H locs 0 0 (MQ below (QcP D cy LC b (some (.int r.1)) r.2) args s 0 0 (inP LC b)) (F0 m 0 ls []) := by
  have hx := E.1.1
  have hb := E.1.2.1
  unfold f_X11_late at hm
  refine lv_aload_n hx hb dX11_late_0 rfl (lv_at hl 0 rfl) ?_
  refine lv_iload_n hx hb dX11_late_1 rfl (lv_at hl 1 rfl) ?_
  refine q_cVi (κ := 11) (C := RX11) (T := TX11) (N := 20) [] E hw hm mw_X11_241 (fun u hu => c_X11_isKeeper hu hv0) rfl (by decide) hv0 rfl rfl hl.1 (Nat.le_of_ble_eq_true rfl) ⟨Nat.le_of_ble_eq_true rfl, Nat.le_of_ble_eq_true rfl⟩ dX11_late_2 (fun u2 H locs hm hw => ?_)
  refine lv_if_eq (tgt := 16) hx hb dX11_late_5 (by decide) (fun c3 => ?_) (fun c3 => ?_)
  · have hm := o_t c3 hm
    exact w_X11_late_16 E hr hlk hm hv0 hw (lv_sub hl [0] rfl)
  · have hm := o_f c3 hm
    refine lv_aload_n hx hb dX11_late_8 rfl (lv_at hl 0 rfl) ?_
    refine lv_iload_n hx hb dX11_late_9 rfl (lv_at hl 2 rfl) ?_
    refine q_cVi (κ := 11) (C := RX11) (T := TX11) (N := 20) [] E hw hm mw_X11_232 (fun u hu => c_X11_isKey hu hv0) rfl (by decide) hv0 rfl rfl hl.1 (Nat.le_of_ble_eq_true rfl) ⟨Nat.le_of_ble_eq_true rfl, Nat.le_of_ble_eq_true rfl⟩ dX11_late_10 (fun u4 H locs hm hw => ?_)
    refine lv_if_ne (tgt := 22) hx hb dX11_late_13 (by decide) (fun c5 => ?_) (fun c5 => ?_)
    · have hm := o_f c5 hm
      refine lv_aload_n hx hb dX11_late_22 rfl (lv_at hl 0 rfl) ?_
      refine q_geta E hw fw_X11_25 rfl hv0 dX11_late_23 ?_
      refine lv_aload_n hx hb dX11_late_26 rfl (lv_at hl 0 rfl) ?_
      refine q_geta E hw fw_X11_25 rfl hv0 dX11_late_27 ?_
      refine q_geta E hw fw_X11_40 rfl (tC_11_2 hv0) dX11_late_30 ?_
      refine q_cVi (κ := 7) (C := RX7) (T := TX7) (N := 12) [.ref (b + (LC.2.1 v0 2))] E hw hm mw_X11_346 (fun u hu => c_X7_keeperSet hu (tC_10_0 (tC_11_2 hv0))) rfl (by decide) (tC_10_0 (tC_11_2 hv0)) rfl rfl hl.1 (Nat.le_of_ble_eq_true rfl) ⟨Nat.le_of_ble_eq_true rfl, Nat.le_of_ble_eq_true rfl⟩ dX11_late_33 (fun u6 H locs hm hw => ?_)
      refine lv_iload_n hx hb dX11_late_36 rfl (lv_at hl 2 rfl) ?_
      refine lv_aload_n hx hb dX11_late_37 rfl (lv_at hl 0 rfl) ?_
      refine q_geta E hw fw_X11_87 rfl hv0 dX11_late_38 ?_
      refine lv_iconst (v := 0) hx hb dX11_late_41 (by decide) ?_
      refine q_cVv (κ := 10) (C := RX10) (T := TX10) (N := 12) [] E hw hm mw_X11_349 (fun u hu => c_X10_joinSet hu (tC_11_2 hv0) (tC_11_11 hv0)) rfl (by decide) (tC_11_2 hv0) rfl rfl hl.1 (Nat.le_of_ble_eq_true rfl) ⟨Nat.le_of_ble_eq_true rfl, Nat.le_of_ble_eq_true rfl⟩ dX11_late_42 (fun u7 H locs hm hw => ?_)
      refine lv_aload_n hx hb dX11_late_45 rfl (lv_at hl 0 rfl) ?_
      refine lv_aload_n hx hb dX11_late_46 rfl (lv_at hl 0 rfl) ?_
      refine q_geta E hw fw_X11_87 rfl hv0 dX11_late_47 ?_
      refine lv_iconst (v := 0) hx hb dX11_late_50 (by decide) ?_
      refine q_cVi (κ := 0) (C := RX0) (T := TX0) (N := 2) [.ref (b + v0)] E hw hm mw_X11_277 (fun u hu => c_X0_sumOf hu (tC_11_11 hv0)) rfl (by decide) (tC_11_11 hv0) rfl rfl hl.1 (Nat.le_of_ble_eq_true rfl) ⟨Nat.le_of_ble_eq_true rfl, Nat.le_of_ble_eq_true rfl⟩ dX11_late_51 (fun u8 H locs hm hw => ?_)
      refine lv_aload_n hx hb dX11_late_54 rfl (lv_at hl 0 rfl) ?_
      refine q_geta E hw fw_X11_25 rfl hv0 dX11_late_55 ?_
      refine q_geta E hw fw_X11_306 rfl (tC_11_2 hv0) dX11_late_58 ?_
      refine lv_iload_n hx hb dX11_late_61 rfl (lv_at hl 1 rfl) ?_
      refine lv_iload_n hx hb dX11_late_62 rfl (lv_at hl 2 rfl) ?_
      refine q_cSi [.ref (b + (LC.2.1 (LC.2.1 v0 2) 2)), .int u8.1, .ref (b + v0)] E hw hm ms_X11_309 (fun u hu => c_X10_cellOf hu ) rfl rfl hl.1 (Nat.le_of_ble_eq_true rfl) ⟨Nat.le_of_ble_eq_true rfl, Nat.le_of_ble_eq_true rfl⟩ dX11_late_63 (fun u9 H locs hm hw => ?_)
      refine q_cVi (κ := 0) (C := RX0) (T := TX0) (N := 2) [.int u8.1, .ref (b + v0)] E hw hm mw_X11_277 (fun u hu => c_X0_sumOf hu (tC_10_2 (tC_11_2 hv0))) rfl (by decide) (tC_10_2 (tC_11_2 hv0)) rfl rfl hl.1 (Nat.le_of_ble_eq_true rfl) ⟨Nat.le_of_ble_eq_true rfl, Nat.le_of_ble_eq_true rfl⟩ dX11_late_66 (fun u10 H locs hm hw => ?_)
      refine lv_isub hx hb dX11_late_69 ?_
      refine q_cVi (κ := 11) (C := RX11) (T := TX11) (N := 20) [] E hw hm mw_X11_187 (fun u hu => c_X11_answer hu hv0) rfl (by decide) hv0 rfl rfl hl.1 (Nat.le_of_ble_eq_true rfl) ⟨Nat.le_of_ble_eq_true rfl, Nat.le_of_ble_eq_true rfl⟩ dX11_late_70 (fun u11 H locs hm hw => ?_)
      exact q_iret E hr hlk hw hm dX11_late_73
    · have hm := o_t c5 hm
      exact w_X11_late_16 E hr hlk hm hv0 hw (lv_sub hl [0] rfl)
theorem c_X11_late {l : Launch} {D : va_G} {cy : Nat → ClassId} {b : Nat} {v0 : Nat} {v1 : Int32} {v2 : Int32} {σ : ST} {r : Int32 × ST} (hm : f_X11_late v0 v1 v2 σ = some r) (hv0 : LC.1 v0 = 11) : Met l yX11_late (wU yX11_late cX11_late 3 (some .int)) (rmD 4) (PcP D cy LC b [.ref (b + v0), .int v1, .int v2] σ) (QcP D cy LC b (some (.int r.1)) r.2) 0 0 (inP LC b) :=
  q_met (lv := [(0, .ref (b + v0)), (1, .int v1), (2, .int v2)]) LC_ok (by decide) (Nat.le_of_ble_eq_true rfl) rfl (fun _ _ _ _ _ _ _ _ _ E hr hlk hw hl => w_X11_late_0 E hr hlk hm hv0 hw hl)

def k_X11_load_50 (rec18 : Nat → Int32 → Int32 → Int32 → ST → Option (Int32 × ST)) (v0 : Nat) (v1 : Int32) (v2 : Int32) (v3 : Int32) (σ : ST) : Option (Int32 × ST) :=
  rec18 v0 v1 v2 (v3 + 1) σ
set_option maxRecDepth 20000 in
set_option maxHeartbeats 1000000 in
theorem w_X11_load_50 {p : Program} {l : Launch} {e : Env} {s : State} {m : MethodId} {args : Array Value} {below : List Frame} {meth : Method} {c : Code} {D : va_G} {cy : Nat → ClassId} {b : Nat} (E : CX p m c cX11_load 4 s args RX11 D cy LC) (hr : meth.sig.returnType = some .int) (hlk : meth.locks = false) {r : Int32 × ST} {rec18 : Nat → Int32 → Int32 → Int32 → ST → Option (Int32 × ST)} (hrec18 : ∀ (v0 : Nat) (v1 : Int32) (v2 : Int32) (v3 : Int32) (σ : ST) (H : Heap) (locs : List Loc) (ls : Array Slot), rec18 v0 v1 v2 v3 σ = some r → LC.1 v0 = 11 → PH D cy LC b σ s H locs → lv_has ls 4 [(0, .ref (b + v0)), (1, .int v1), (2, .int v2), (3, .int v3)] → W p l e (rmD 1) s m args below meth c H locs 0 0 (MQ below (QcP D cy LC b (some (.int r.1)) r.2) args s 0 0 (inP LC b)) (F0 m 18 ls [])) {v0 : Nat} {v1 : Int32} {v2 : Int32} {v3 : Int32} {σ : ST} {H : Heap} {locs : List Loc} {ls : Array Slot} (hm : k_X11_load_50 rec18 v0 v1 v2 v3 σ = some r) (hv0 : LC.1 v0 = 11) (hw : PH D cy LC b σ s H locs) (hl : lv_has ls 4 [(0, .ref (b + v0)), (1, .int v1), (2, .int v2), (3, .int v3)]) : W p l e (rmD 1) s m args below meth c H locs 0 0 (MQ below (QcP D cy LC b (some (.int r.1)) r.2) args s 0 0 (inP LC b)) (F0 m 50 ls []) := by
  have hx := E.1.1
  have hb := E.1.2.1
  unfold k_X11_load_50 at hm
  refine lv_iinc (v := v3 + 1) (lv' := [(3, .int (v3 + 1)), (0, .ref (b + v0)), (1, .int v1), (2, .int v2)]) hx hb dX11_load_50 hl (k := 3) rfl rfl (by decide) rfl (fun ls hl => ?_)
  refine lv_goto (tgt := 18) hx hb dX11_load_53 (by decide) ?_
  exact hrec18 _ _ _ _ _ _ _ _ hm hv0 hw (lv_sub hl [1, 2, 3, 0] rfl)
def k_X11_load_18 : Nat → Nat → Int32 → Int32 → Int32 → ST → Option (Int32 × ST)
  | 0, _, _, _, _, _ => none
  | n + 1, v0, v1, v2, v3, σ => if (gI σ (LC.2.1 (LC.2.1 v0 2) 0) 7) ≤ v3 then ((f_X11_answer v0 v2 σ).bind fun u2 =>
  some (u2.1, u2.2)) else ((f_X7_isPlace (LC.2.1 (LC.2.1 v0 2) 0) v3 v1 σ).bind fun u3 =>
  if u3.1 = 0 then (k_X11_load_50 (k_X11_load_18 n) v0 v1 v2 v3 u3.2) else (k_X11_load_50 (k_X11_load_18 n) v0 v1 (v2 + 1) v3 u3.2))
set_option maxRecDepth 20000 in
set_option maxHeartbeats 1000000 in
theorem w_X11_load_18 {p : Program} {l : Launch} {e : Env} {s : State} {m : MethodId} {args : Array Value} {below : List Frame} {meth : Method} {c : Code} {D : va_G} {cy : Nat → ClassId} {b : Nat} (E : CX p m c cX11_load 4 s args RX11 D cy LC) (hr : meth.sig.returnType = some .int) (hlk : meth.locks = false) {r : Int32 × ST} : ∀ (n : Nat) (v0 : Nat) (v1 : Int32) (v2 : Int32) (v3 : Int32) (σ : ST) (H : Heap) (locs : List Loc) (ls : Array Slot), k_X11_load_18 n v0 v1 v2 v3 σ = some r → LC.1 v0 = 11 → PH D cy LC b σ s H locs → lv_has ls 4 [(0, .ref (b + v0)), (1, .int v1), (2, .int v2), (3, .int v3)] → W p l e (rmD 1) s m args below meth c H locs 0 0 (MQ below (QcP D cy LC b (some (.int r.1)) r.2) args s 0 0 (inP LC b)) (F0 m 18 ls []) := by
  have hx := E.1.1
  have hb := E.1.2.1
  intro n
  induction n with
  | zero =>
    intro v0 v1 v2 v3 σ H locs ls hm
    cases hm
  | succ n ih =>
    intro v0 v1 v2 v3 σ H locs ls hm hv0 hw hl
    rw [k_X11_load_18] at hm
    refine lv_iload_n hx hb dX11_load_18 rfl (lv_at hl 3 rfl) ?_
    refine lv_aload_n hx hb dX11_load_19 rfl (lv_at hl 0 rfl) ?_
    refine q_geta E hw fw_X11_25 rfl hv0 dX11_load_20 ?_
    refine q_geta E hw fw_X11_40 rfl (tC_11_2 hv0) dX11_load_23 ?_
    refine q_geti E hw fw_X11_182 rfl (tC_10_0 (tC_11_2 hv0)) dX11_load_26 ?_
    refine lv_icmp_ge (tgt := 56) hx hb dX11_load_29 (by decide) (fun c1 => ?_) (fun c1 => ?_)
    · have hm := o_t c1 hm
      refine lv_aload_n hx hb dX11_load_56 rfl (lv_at hl 0 rfl) ?_
      refine lv_iload_n hx hb dX11_load_57 rfl (lv_at hl 2 rfl) ?_
      refine q_cVi (κ := 11) (C := RX11) (T := TX11) (N := 20) [] E hw hm mw_X11_187 (fun u hu => c_X11_answer hu hv0) rfl (by decide) hv0 rfl rfl hl.1 (Nat.le_of_ble_eq_true rfl) ⟨Nat.le_of_ble_eq_true rfl, Nat.le_of_ble_eq_true rfl⟩ dX11_load_58 (fun u2 H locs hm hw => ?_)
      exact q_iret E hr hlk hw hm dX11_load_61
    · have hm := o_f c1 hm
      refine lv_aload_n hx hb dX11_load_32 rfl (lv_at hl 0 rfl) ?_
      refine q_geta E hw fw_X11_25 rfl hv0 dX11_load_33 ?_
      refine q_geta E hw fw_X11_40 rfl (tC_11_2 hv0) dX11_load_36 ?_
      refine lv_iload_n hx hb dX11_load_39 rfl (lv_at hl 3 rfl) ?_
      refine lv_iload_n hx hb dX11_load_40 rfl (lv_at hl 1 rfl) ?_
      refine q_cVi (κ := 7) (C := RX7) (T := TX7) (N := 12) [] E hw hm mw_X11_353 (fun u hu => c_X7_isPlace hu (tC_10_0 (tC_11_2 hv0))) rfl (by decide) (tC_10_0 (tC_11_2 hv0)) rfl rfl hl.1 (Nat.le_of_ble_eq_true rfl) ⟨Nat.le_of_ble_eq_true rfl, Nat.le_of_ble_eq_true rfl⟩ dX11_load_41 (fun u3 H locs hm hw => ?_)
      refine lv_if_eq (tgt := 50) hx hb dX11_load_44 (by decide) (fun c4 => ?_) (fun c4 => ?_)
      · have hm := o_t c4 hm
        exact w_X11_load_50 E hr hlk ih hm hv0 hw (lv_sub hl [0, 1, 2, 3] rfl)
      · have hm := o_f c4 hm
        refine lv_iinc (v := v2 + 1) (lv' := [(2, .int (v2 + 1)), (0, .ref (b + v0)), (1, .int v1), (3, .int v3)]) hx hb dX11_load_47 hl (k := 2) rfl rfl (by decide) rfl (fun ls hl => ?_)
        exact w_X11_load_50 E hr hlk ih hm hv0 hw (lv_sub hl [1, 2, 0, 3] rfl)
def f_X11_load (v0 : Nat) (v1 : Int32) (σ : ST) : Option (Int32 × ST) :=
  (f_X11_isKeeper v0 v1 σ).bind fun u5 =>
  if u5.1 = 0 then ((f_X11_refuse v0 1 u5.2).bind fun u7 =>
  some (u7.1, u7.2)) else (k_X11_load_18 FU v0 v1 0 0 u5.2)
set_option maxRecDepth 20000 in
set_option maxHeartbeats 1000000 in
theorem w_X11_load_0 {p : Program} {l : Launch} {e : Env} {s : State} {m : MethodId} {args : Array Value} {below : List Frame} {meth : Method} {c : Code} {D : va_G} {cy : Nat → ClassId} {b : Nat} (E : CX p m c cX11_load 4 s args RX11 D cy LC) (hr : meth.sig.returnType = some .int) (hlk : meth.locks = false) {r : Int32 × ST} {v0 : Nat} {v1 : Int32} {σ : ST} {H : Heap} {locs : List Loc} {ls : Array Slot} (hm : f_X11_load v0 v1 σ = some r) (hv0 : LC.1 v0 = 11) (hw : PH D cy LC b σ s H locs) (hl : lv_has ls 4 [(0, .ref (b + v0)), (1, .int v1)]) : W p l e (rmD 1) s m args below meth c H locs 0 0 (MQ below (QcP D cy LC b (some (.int r.1)) r.2) args s 0 0 (inP LC b)) (F0 m 0 ls []) := by
  have hx := E.1.1
  have hb := E.1.2.1
  unfold f_X11_load at hm
  refine lv_aload_n hx hb dX11_load_0 rfl (lv_at hl 0 rfl) ?_
  refine lv_iload_n hx hb dX11_load_1 rfl (lv_at hl 1 rfl) ?_
  refine q_cVi (κ := 11) (C := RX11) (T := TX11) (N := 20) [] E hw hm mw_X11_241 (fun u hu => c_X11_isKeeper hu hv0) rfl (by decide) hv0 rfl rfl hl.1 (Nat.le_of_ble_eq_true rfl) ⟨Nat.le_of_ble_eq_true rfl, Nat.le_of_ble_eq_true rfl⟩ dX11_load_2 (fun u5 H locs hm hw => ?_)
  refine lv_if_ne (tgt := 14) hx hb dX11_load_5 (by decide) (fun c6 => ?_) (fun c6 => ?_)
  · have hm := o_f c6 hm
    refine lv_iconst (v := 0) hx hb dX11_load_14 (by decide) ?_
    refine lv_istore_n (lv' := [(2, .int 0), (0, .ref (b + v0)), (1, .int v1)]) hx hb dX11_load_15 rfl hl (by decide) rfl (fun ls hl => ?_)
    refine lv_iconst (v := 0) hx hb dX11_load_16 (by decide) ?_
    refine lv_istore_n (lv' := [(3, .int 0), (2, .int 0), (0, .ref (b + v0)), (1, .int v1)]) hx hb dX11_load_17 rfl hl (by decide) rfl (fun ls hl => ?_)
    exact w_X11_load_18 E hr hlk _ _ _ _ _ _ _ _ _ hm hv0 hw (lv_sub hl [2, 3, 1, 0] rfl)
  · have hm := o_t c6 hm
    refine lv_aload_n hx hb dX11_load_8 rfl (lv_at hl 0 rfl) ?_
    refine lv_iconst (v := 1) hx hb dX11_load_9 (by decide) ?_
    refine q_cVi (κ := 11) (C := RX11) (T := TX11) (N := 20) [] E hw hm mw_X11_142 (fun u hu => c_X11_refuse hu hv0) rfl (by decide) hv0 rfl rfl hl.1 (Nat.le_of_ble_eq_true rfl) ⟨Nat.le_of_ble_eq_true rfl, Nat.le_of_ble_eq_true rfl⟩ dX11_load_10 (fun u7 H locs hm hw => ?_)
    exact q_iret E hr hlk hw hm dX11_load_13
theorem c_X11_load {l : Launch} {D : va_G} {cy : Nat → ClassId} {b : Nat} {v0 : Nat} {v1 : Int32} {σ : ST} {r : Int32 × ST} (hm : f_X11_load v0 v1 σ = some r) (hv0 : LC.1 v0 = 11) : Met l yX11_load (wU yX11_load cX11_load 4 (some .int)) (rmD 1) (PcP D cy LC b [.ref (b + v0), .int v1] σ) (QcP D cy LC b (some (.int r.1)) r.2) 0 0 (inP LC b) :=
  q_met (lv := [(0, .ref (b + v0)), (1, .int v1)]) LC_ok (by decide) (Nat.le_of_ble_eq_true rfl) rfl (fun _ _ _ _ _ _ _ _ _ E hr hlk hw hl => w_X11_load_0 E hr hlk hm hv0 hw hl)

def k_X11_moved_105 (rec63 : Nat → Int32 → Int32 → Int32 → ST → Option (Int32 × ST)) (v0 : Nat) (v1 : Int32) (v2 : Int32) (v3 : Int32) (σ : ST) : Option (Int32 × ST) :=
  rec63 v0 v1 v2 (v3 + 1) σ
set_option maxRecDepth 20000 in
set_option maxHeartbeats 1000000 in
theorem w_X11_moved_105 {p : Program} {l : Launch} {e : Env} {s : State} {m : MethodId} {args : Array Value} {below : List Frame} {meth : Method} {c : Code} {D : va_G} {cy : Nat → ClassId} {b : Nat} (E : CX p m c cX11_moved 4 s args RX11 D cy LC) (hr : meth.sig.returnType = some .int) (hlk : meth.locks = false) {r : Int32 × ST} {rec63 : Nat → Int32 → Int32 → Int32 → ST → Option (Int32 × ST)} (hrec63 : ∀ (v0 : Nat) (v1 : Int32) (v2 : Int32) (v3 : Int32) (σ : ST) (H : Heap) (locs : List Loc) (ls : Array Slot), rec63 v0 v1 v2 v3 σ = some r → LC.1 v0 = 11 → PH D cy LC b σ s H locs → lv_has ls 4 [(0, .ref (b + v0)), (1, .int v1), (2, .int v2), (3, .int v3)] → W p l e (rmD 2) s m args below meth c H locs 0 0 (MQ below (QcP D cy LC b (some (.int r.1)) r.2) args s 0 0 (inP LC b)) (F0 m 63 ls [])) {v0 : Nat} {v1 : Int32} {v2 : Int32} {v3 : Int32} {σ : ST} {H : Heap} {locs : List Loc} {ls : Array Slot} (hm : k_X11_moved_105 rec63 v0 v1 v2 v3 σ = some r) (hv0 : LC.1 v0 = 11) (hw : PH D cy LC b σ s H locs) (hl : lv_has ls 4 [(0, .ref (b + v0)), (1, .int v1), (2, .int v2), (3, .int v3)]) : W p l e (rmD 2) s m args below meth c H locs 0 0 (MQ below (QcP D cy LC b (some (.int r.1)) r.2) args s 0 0 (inP LC b)) (F0 m 105 ls []) := by
  have hx := E.1.1
  have hb := E.1.2.1
  unfold k_X11_moved_105 at hm
  refine lv_iinc (v := v3 + 1) (lv' := [(3, .int (v3 + 1)), (0, .ref (b + v0)), (1, .int v1), (2, .int v2)]) hx hb dX11_moved_105 hl (k := 3) rfl rfl (by decide) rfl (fun ls hl => ?_)
  refine lv_goto (tgt := 63) hx hb dX11_moved_108 (by decide) ?_
  exact hrec63 _ _ _ _ _ _ _ _ hm hv0 hw (lv_sub hl [1, 2, 3, 0] rfl)
def k_X11_moved_63 : Nat → Nat → Int32 → Int32 → Int32 → ST → Option (Int32 × ST)
  | 0, _, _, _, _, _ => none
  | n + 1, v0, v1, v2, v3, σ => if (gI σ (LC.2.1 (LC.2.1 v0 2) 0) 7) ≤ v3 then ((f_X11_answer v0 v2 σ).bind fun u2 =>
  some (u2.1, u2.2)) else ((f_X7_keepersAhead (LC.2.1 (LC.2.1 v0 2) 0) v3 v1 σ).bind fun u3 =>
  if (gI u3.2 (LC.2.1 (LC.2.1 v0 2) 0) 9) ≤ u3.1 then (k_X11_moved_105 (k_X11_moved_63 n) v0 v1 v2 v3 u3.2) else (k_X11_moved_105 (k_X11_moved_63 n) v0 v1 (v2 + 1) v3 u3.2))
set_option maxRecDepth 20000 in
set_option maxHeartbeats 1000000 in
theorem w_X11_moved_63 {p : Program} {l : Launch} {e : Env} {s : State} {m : MethodId} {args : Array Value} {below : List Frame} {meth : Method} {c : Code} {D : va_G} {cy : Nat → ClassId} {b : Nat} (E : CX p m c cX11_moved 4 s args RX11 D cy LC) (hr : meth.sig.returnType = some .int) (hlk : meth.locks = false) {r : Int32 × ST} : ∀ (n : Nat) (v0 : Nat) (v1 : Int32) (v2 : Int32) (v3 : Int32) (σ : ST) (H : Heap) (locs : List Loc) (ls : Array Slot), k_X11_moved_63 n v0 v1 v2 v3 σ = some r → LC.1 v0 = 11 → PH D cy LC b σ s H locs → lv_has ls 4 [(0, .ref (b + v0)), (1, .int v1), (2, .int v2), (3, .int v3)] → W p l e (rmD 2) s m args below meth c H locs 0 0 (MQ below (QcP D cy LC b (some (.int r.1)) r.2) args s 0 0 (inP LC b)) (F0 m 63 ls []) := by
  have hx := E.1.1
  have hb := E.1.2.1
  intro n
  induction n with
  | zero =>
    intro v0 v1 v2 v3 σ H locs ls hm
    cases hm
  | succ n ih =>
    intro v0 v1 v2 v3 σ H locs ls hm hv0 hw hl
    rw [k_X11_moved_63] at hm
    refine lv_iload_n hx hb dX11_moved_63 rfl (lv_at hl 3 rfl) ?_
    refine lv_aload_n hx hb dX11_moved_64 rfl (lv_at hl 0 rfl) ?_
    refine q_geta E hw fw_X11_25 rfl hv0 dX11_moved_65 ?_
    refine q_geta E hw fw_X11_40 rfl (tC_11_2 hv0) dX11_moved_68 ?_
    refine q_geti E hw fw_X11_182 rfl (tC_10_0 (tC_11_2 hv0)) dX11_moved_71 ?_
    refine lv_icmp_ge (tgt := 111) hx hb dX11_moved_74 (by decide) (fun c1 => ?_) (fun c1 => ?_)
    · have hm := o_t c1 hm
      refine lv_aload_n hx hb dX11_moved_111 rfl (lv_at hl 0 rfl) ?_
      refine lv_iload_n hx hb dX11_moved_112 rfl (lv_at hl 2 rfl) ?_
      refine q_cVi (κ := 11) (C := RX11) (T := TX11) (N := 20) [] E hw hm mw_X11_187 (fun u hu => c_X11_answer hu hv0) rfl (by decide) hv0 rfl rfl hl.1 (Nat.le_of_ble_eq_true rfl) ⟨Nat.le_of_ble_eq_true rfl, Nat.le_of_ble_eq_true rfl⟩ dX11_moved_113 (fun u2 H locs hm hw => ?_)
      exact q_iret E hr hlk hw hm dX11_moved_116
    · have hm := o_f c1 hm
      refine lv_aload_n hx hb dX11_moved_77 rfl (lv_at hl 0 rfl) ?_
      refine q_geta E hw fw_X11_25 rfl hv0 dX11_moved_78 ?_
      refine q_geta E hw fw_X11_40 rfl (tC_11_2 hv0) dX11_moved_81 ?_
      refine lv_iload_n hx hb dX11_moved_84 rfl (lv_at hl 3 rfl) ?_
      refine lv_iload_n hx hb dX11_moved_85 rfl (lv_at hl 1 rfl) ?_
      refine q_cVi (κ := 7) (C := RX7) (T := TX7) (N := 12) [] E hw hm mw_X11_363 (fun u hu => c_X7_keepersAhead hu (tC_10_0 (tC_11_2 hv0))) rfl (by decide) (tC_10_0 (tC_11_2 hv0)) rfl rfl hl.1 (Nat.le_of_ble_eq_true rfl) ⟨Nat.le_of_ble_eq_true rfl, Nat.le_of_ble_eq_true rfl⟩ dX11_moved_86 (fun u3 H locs hm hw => ?_)
      refine lv_aload_n hx hb dX11_moved_89 rfl (lv_at hl 0 rfl) ?_
      refine q_geta E hw fw_X11_25 rfl hv0 dX11_moved_90 ?_
      refine q_geta E hw fw_X11_40 rfl (tC_11_2 hv0) dX11_moved_93 ?_
      refine q_geti E hw fw_X11_211 rfl (tC_10_0 (tC_11_2 hv0)) dX11_moved_96 ?_
      refine lv_icmp_ge (tgt := 105) hx hb dX11_moved_99 (by decide) (fun c4 => ?_) (fun c4 => ?_)
      · have hm := o_t c4 hm
        exact w_X11_moved_105 E hr hlk ih hm hv0 hw (lv_sub hl [0, 1, 2, 3] rfl)
      · have hm := o_f c4 hm
        refine lv_iinc (v := v2 + 1) (lv' := [(2, .int (v2 + 1)), (0, .ref (b + v0)), (1, .int v1), (3, .int v3)]) hx hb dX11_moved_102 hl (k := 2) rfl rfl (by decide) rfl (fun ls hl => ?_)
        exact w_X11_moved_105 E hr hlk ih hm hv0 hw (lv_sub hl [1, 2, 0, 3] rfl)
def k_X11_moved_11 (v0 : Nat) (σ : ST) : Option (Int32 × ST) :=
  (f_X11_refuse v0 1 σ).bind fun u5 =>
  some (u5.1, u5.2)
set_option maxRecDepth 20000 in
set_option maxHeartbeats 1000000 in
theorem w_X11_moved_11 {p : Program} {l : Launch} {e : Env} {s : State} {m : MethodId} {args : Array Value} {below : List Frame} {meth : Method} {c : Code} {D : va_G} {cy : Nat → ClassId} {b : Nat} (E : CX p m c cX11_moved 4 s args RX11 D cy LC) (hr : meth.sig.returnType = some .int) (hlk : meth.locks = false) {r : Int32 × ST} {v0 : Nat} {σ : ST} {H : Heap} {locs : List Loc} {ls : Array Slot} (hm : k_X11_moved_11 v0 σ = some r) (hv0 : LC.1 v0 = 11) (hw : PH D cy LC b σ s H locs) (hl : lv_has ls 4 [(0, .ref (b + v0))]) : W p l e (rmD 2) s m args below meth c H locs 0 0 (MQ below (QcP D cy LC b (some (.int r.1)) r.2) args s 0 0 (inP LC b)) (F0 m 11 ls []) := by
  have hx := E.1.1
  have hb := E.1.2.1
  unfold k_X11_moved_11 at hm
  refine lv_aload_n hx hb dX11_moved_11 rfl (lv_at hl 0 rfl) ?_
  refine lv_iconst (v := 1) hx hb dX11_moved_12 (by decide) ?_
  refine q_cVi (κ := 11) (C := RX11) (T := TX11) (N := 20) [] E hw hm mw_X11_142 (fun u hu => c_X11_refuse hu hv0) rfl (by decide) hv0 rfl rfl hl.1 (Nat.le_of_ble_eq_true rfl) ⟨Nat.le_of_ble_eq_true rfl, Nat.le_of_ble_eq_true rfl⟩ dX11_moved_13 (fun u5 H locs hm hw => ?_)
  exact q_iret E hr hlk hw hm dX11_moved_16
def f_X11_moved (v0 : Nat) (v1 : Int32) (σ : ST) : Option (Int32 × ST) :=
  if v1 < 0 then (k_X11_moved_11 v0 σ) else (if v1 < 1000 then (if (gI σ (LC.2.1 (LC.2.1 v0 2) 0) 6) < 6 then ((f_X7_isTakenAt (LC.2.1 (LC.2.1 v0 2) 0) v1 σ).bind fun u9 =>
  if u9.1 = 0 then (k_X11_moved_63 FU v0 v1 0 0 u9.2) else ((f_X11_refuse v0 7 u9.2).bind fun u11 =>
  some (u11.1, u11.2))) else ((f_X11_refuse v0 4 σ).bind fun u12 =>
  some (u12.1, u12.2))) else (k_X11_moved_11 v0 σ))
set_option maxRecDepth 20000 in
set_option maxHeartbeats 1000000 in
theorem w_X11_moved_0 {p : Program} {l : Launch} {e : Env} {s : State} {m : MethodId} {args : Array Value} {below : List Frame} {meth : Method} {c : Code} {D : va_G} {cy : Nat → ClassId} {b : Nat} (E : CX p m c cX11_moved 4 s args RX11 D cy LC) (hr : meth.sig.returnType = some .int) (hlk : meth.locks = false) {r : Int32 × ST} {v0 : Nat} {v1 : Int32} {σ : ST} {H : Heap} {locs : List Loc} {ls : Array Slot} (hm : f_X11_moved v0 v1 σ = some r) (hv0 : LC.1 v0 = 11) (hw : PH D cy LC b σ s H locs) (hl : lv_has ls 4 [(0, .ref (b + v0)), (1, .int v1)]) : W p l e (rmD 2) s m args below meth c H locs 0 0 (MQ below (QcP D cy LC b (some (.int r.1)) r.2) args s 0 0 (inP LC b)) (F0 m 0 ls []) := by
  have hx := E.1.1
  have hb := E.1.2.1
  unfold f_X11_moved at hm
  refine lv_iload_n hx hb dX11_moved_0 rfl (lv_at hl 1 rfl) ?_
  refine lv_if_lt (tgt := 11) hx hb dX11_moved_1 (by decide) (fun c6 => ?_) (fun c6 => ?_)
  · have hm := o_t c6 hm
    exact w_X11_moved_11 E hr hlk hm hv0 hw (lv_sub hl [0] rfl)
  · have hm := o_f c6 hm
    refine lv_iload_n hx hb dX11_moved_4 rfl (lv_at hl 1 rfl) ?_
    refine lv_sipush (v := 1000) hx hb dX11_moved_5 (by decide) ?_
    refine lv_icmp_lt (tgt := 17) hx hb dX11_moved_8 (by decide) (fun c7 => ?_) (fun c7 => ?_)
    · have hm := o_t c7 hm
      refine lv_aload_n hx hb dX11_moved_17 rfl (lv_at hl 0 rfl) ?_
      refine q_geta E hw fw_X11_25 rfl hv0 dX11_moved_18 ?_
      refine q_geta E hw fw_X11_40 rfl (tC_11_2 hv0) dX11_moved_21 ?_
      refine q_geti E hw fw_X11_220 rfl (tC_10_0 (tC_11_2 hv0)) dX11_moved_24 ?_
      refine lv_bipush (v := 6) hx hb dX11_moved_27 (by decide) ?_
      refine lv_icmp_lt (tgt := 38) hx hb dX11_moved_29 (by decide) (fun c8 => ?_) (fun c8 => ?_)
      · have hm := o_t c8 hm
        refine lv_aload_n hx hb dX11_moved_38 rfl (lv_at hl 0 rfl) ?_
        refine q_geta E hw fw_X11_25 rfl hv0 dX11_moved_39 ?_
        refine q_geta E hw fw_X11_40 rfl (tC_11_2 hv0) dX11_moved_42 ?_
        refine lv_iload_n hx hb dX11_moved_45 rfl (lv_at hl 1 rfl) ?_
        refine q_cVi (κ := 7) (C := RX7) (T := TX7) (N := 12) [] E hw hm mw_X11_360 (fun u hu => c_X7_isTakenAt hu (tC_10_0 (tC_11_2 hv0))) rfl (by decide) (tC_10_0 (tC_11_2 hv0)) rfl rfl hl.1 (Nat.le_of_ble_eq_true rfl) ⟨Nat.le_of_ble_eq_true rfl, Nat.le_of_ble_eq_true rfl⟩ dX11_moved_46 (fun u9 H locs hm hw => ?_)
        refine lv_if_eq (tgt := 59) hx hb dX11_moved_49 (by decide) (fun c10 => ?_) (fun c10 => ?_)
        · have hm := o_t c10 hm
          refine lv_iconst (v := 0) hx hb dX11_moved_59 (by decide) ?_
          refine lv_istore_n (lv' := [(2, .int 0), (0, .ref (b + v0)), (1, .int v1)]) hx hb dX11_moved_60 rfl hl (by decide) rfl (fun ls hl => ?_)
          refine lv_iconst (v := 0) hx hb dX11_moved_61 (by decide) ?_
          refine lv_istore_n (lv' := [(3, .int 0), (2, .int 0), (0, .ref (b + v0)), (1, .int v1)]) hx hb dX11_moved_62 rfl hl (by decide) rfl (fun ls hl => ?_)
          exact w_X11_moved_63 E hr hlk _ _ _ _ _ _ _ _ _ hm hv0 hw (lv_sub hl [2, 3, 1, 0] rfl)
        · have hm := o_f c10 hm
          refine lv_aload_n hx hb dX11_moved_52 rfl (lv_at hl 0 rfl) ?_
          refine lv_bipush (v := 7) hx hb dX11_moved_53 (by decide) ?_
          refine q_cVi (κ := 11) (C := RX11) (T := TX11) (N := 20) [] E hw hm mw_X11_142 (fun u hu => c_X11_refuse hu hv0) rfl (by decide) hv0 rfl rfl hl.1 (Nat.le_of_ble_eq_true rfl) ⟨Nat.le_of_ble_eq_true rfl, Nat.le_of_ble_eq_true rfl⟩ dX11_moved_55 (fun u11 H locs hm hw => ?_)
          exact q_iret E hr hlk hw hm dX11_moved_58
      · have hm := o_f c8 hm
        refine lv_aload_n hx hb dX11_moved_32 rfl (lv_at hl 0 rfl) ?_
        refine lv_iconst (v := 4) hx hb dX11_moved_33 (by decide) ?_
        refine q_cVi (κ := 11) (C := RX11) (T := TX11) (N := 20) [] E hw hm mw_X11_142 (fun u hu => c_X11_refuse hu hv0) rfl (by decide) hv0 rfl rfl hl.1 (Nat.le_of_ble_eq_true rfl) ⟨Nat.le_of_ble_eq_true rfl, Nat.le_of_ble_eq_true rfl⟩ dX11_moved_34 (fun u12 H locs hm hw => ?_)
        exact q_iret E hr hlk hw hm dX11_moved_37
    · have hm := o_f c7 hm
      exact w_X11_moved_11 E hr hlk hm hv0 hw (lv_sub hl [0] rfl)
theorem c_X11_moved {l : Launch} {D : va_G} {cy : Nat → ClassId} {b : Nat} {v0 : Nat} {v1 : Int32} {σ : ST} {r : Int32 × ST} (hm : f_X11_moved v0 v1 σ = some r) (hv0 : LC.1 v0 = 11) : Met l yX11_moved (wU yX11_moved cX11_moved 4 (some .int)) (rmD 2) (PcP D cy LC b [.ref (b + v0), .int v1] σ) (QcP D cy LC b (some (.int r.1)) r.2) 0 0 (inP LC b) :=
  q_met (lv := [(0, .ref (b + v0)), (1, .int v1)]) LC_ok (by decide) (Nat.le_of_ble_eq_true rfl) rfl (fun _ _ _ _ _ _ _ _ _ E hr hlk hw hl => w_X11_moved_0 E hr hlk hm hv0 hw hl)

def k_X11_nights_46 (s0 : Int32) (σ : ST) : Option (Int32 × ST) :=
  some (s0, σ)
set_option maxRecDepth 20000 in
set_option maxHeartbeats 1000000 in
theorem w_X11_nights_46 {p : Program} {l : Launch} {e : Env} {s : State} {m : MethodId} {args : Array Value} {below : List Frame} {meth : Method} {c : Code} {D : va_G} {cy : Nat → ClassId} {b : Nat} (E : CX p m c cX11_nights 3 s args RX11 D cy LC) (hr : meth.sig.returnType = some .int) (hlk : meth.locks = false) {r : Int32 × ST} {s0 : Int32} {σ : ST} {H : Heap} {locs : List Loc} {ls : Array Slot} (hm : k_X11_nights_46 s0 σ = some r) (hw : PH D cy LC b σ s H locs) (hl : lv_has ls 3 []) : W p l e (rmD 11) s m args below meth c H locs 0 0 (MQ below (QcP D cy LC b (some (.int r.1)) r.2) args s 0 0 (inP LC b)) (F0 m 46 ls [.int s0]) := by
  have hx := E.1.1
  have hb := E.1.2.1
  unfold k_X11_nights_46 at hm
  exact q_iret E hr hlk hw hm dX11_nights_46
def f_X11_nights (v0 : Nat) (v1 : Int32) (σ : ST) : Option (Int32 × ST) :=
  (f_X11_isKey v0 v1 σ).bind fun u1 =>
  if u1.1 = 0 then ((f_X11_refuse v0 1 u1.2).bind fun u7 =>
  some (u7.1, u7.2)) else ((f_X5_fewest (LC.2.1 v0 10) (LC.2.1 v0 2) v1 u1.2).bind fun u3 =>
  if u3.1 = (-1) then ((f_X11_refuse v0 6 u3.2).bind fun u6 =>
  k_X11_nights_46 u6.1 u6.2) else ((f_X11_answer v0 u3.1 u3.2).bind fun u5 =>
  k_X11_nights_46 u5.1 u5.2))
set_option maxRecDepth 20000 in
set_option maxHeartbeats 1000000 in
theorem w_X11_nights_0 {p : Program} {l : Launch} {e : Env} {s : State} {m : MethodId} {args : Array Value} {below : List Frame} {meth : Method} {c : Code} {D : va_G} {cy : Nat → ClassId} {b : Nat} (E : CX p m c cX11_nights 3 s args RX11 D cy LC) (hr : meth.sig.returnType = some .int) (hlk : meth.locks = false) {r : Int32 × ST} {v0 : Nat} {v1 : Int32} {σ : ST} {H : Heap} {locs : List Loc} {ls : Array Slot} (hm : f_X11_nights v0 v1 σ = some r) (hv0 : LC.1 v0 = 11) (hw : PH D cy LC b σ s H locs) (hl : lv_has ls 3 [(0, .ref (b + v0)), (1, .int v1)]) : W p l e (rmD 11) s m args below meth c H locs 0 0 (MQ below (QcP D cy LC b (some (.int r.1)) r.2) args s 0 0 (inP LC b)) (F0 m 0 ls []) := by
  have hx := E.1.1
  have hb := E.1.2.1
  unfold f_X11_nights at hm
  refine lv_aload_n hx hb dX11_nights_0 rfl (lv_at hl 0 rfl) ?_
  refine lv_iload_n hx hb dX11_nights_1 rfl (lv_at hl 1 rfl) ?_
  refine q_cVi (κ := 11) (C := RX11) (T := TX11) (N := 20) [] E hw hm mw_X11_232 (fun u hu => c_X11_isKey hu hv0) rfl (by decide) hv0 rfl rfl hl.1 (Nat.le_of_ble_eq_true rfl) ⟨Nat.le_of_ble_eq_true rfl, Nat.le_of_ble_eq_true rfl⟩ dX11_nights_2 (fun u1 H locs hm hw => ?_)
  refine lv_if_ne (tgt := 14) hx hb dX11_nights_5 (by decide) (fun c2 => ?_) (fun c2 => ?_)
  · have hm := o_f c2 hm
    refine lv_aload_n hx hb dX11_nights_14 rfl (lv_at hl 0 rfl) ?_
    refine q_geta E hw fw_X11_78 rfl hv0 dX11_nights_15 ?_
    refine lv_aload_n hx hb dX11_nights_18 rfl (lv_at hl 0 rfl) ?_
    refine q_geta E hw fw_X11_25 rfl hv0 dX11_nights_19 ?_
    refine lv_iload_n hx hb dX11_nights_22 rfl (lv_at hl 1 rfl) ?_
    refine q_cVi (κ := 5) (C := RX5) (T := TX5) (N := 6) [] E hw hm mw_X11_366 (fun u hu => c_X5_fewest hu (tC_11_10 hv0) (tC_11_2 hv0)) rfl (by decide) (tC_11_10 hv0) rfl rfl hl.1 (Nat.le_of_ble_eq_true rfl) ⟨Nat.le_of_ble_eq_true rfl, Nat.le_of_ble_eq_true rfl⟩ dX11_nights_23 (fun u3 H locs hm hw => ?_)
    refine lv_istore_n (lv' := [(2, .int u3.1), (0, .ref (b + v0)), (1, .int v1)]) hx hb dX11_nights_26 rfl hl (by decide) rfl (fun ls hl => ?_)
    refine lv_iload_n hx hb dX11_nights_27 rfl (lv_at hl 0 rfl) ?_
    refine lv_iconst (v := (-1)) hx hb dX11_nights_28 (by decide) ?_
    refine lv_icmp_ne (tgt := 41) hx hb dX11_nights_29 (by decide) (fun c4 => ?_) (fun c4 => ?_)
    · have hm := o_f c4 hm
      refine lv_aload_n hx hb dX11_nights_41 rfl (lv_at hl 1 rfl) ?_
      refine lv_iload_n hx hb dX11_nights_42 rfl (lv_at hl 0 rfl) ?_
      refine q_cVi (κ := 11) (C := RX11) (T := TX11) (N := 20) [] E hw hm mw_X11_187 (fun u hu => c_X11_answer hu hv0) rfl (by decide) hv0 rfl rfl hl.1 (Nat.le_of_ble_eq_true rfl) ⟨Nat.le_of_ble_eq_true rfl, Nat.le_of_ble_eq_true rfl⟩ dX11_nights_43 (fun u5 H locs hm hw => ?_)
      exact w_X11_nights_46 E hr hlk hm  hw (lv_sub hl [] rfl)
    · have hm := o_t c4 hm
      refine lv_aload_n hx hb dX11_nights_32 rfl (lv_at hl 1 rfl) ?_
      refine lv_bipush (v := 6) hx hb dX11_nights_33 (by decide) ?_
      refine q_cVi (κ := 11) (C := RX11) (T := TX11) (N := 20) [] E hw hm mw_X11_142 (fun u hu => c_X11_refuse hu hv0) rfl (by decide) hv0 rfl rfl hl.1 (Nat.le_of_ble_eq_true rfl) ⟨Nat.le_of_ble_eq_true rfl, Nat.le_of_ble_eq_true rfl⟩ dX11_nights_35 (fun u6 H locs hm hw => ?_)
      refine lv_goto (tgt := 46) hx hb dX11_nights_38 (by decide) ?_
      exact w_X11_nights_46 E hr hlk hm  hw (lv_sub hl [] rfl)
  · have hm := o_t c2 hm
    refine lv_aload_n hx hb dX11_nights_8 rfl (lv_at hl 0 rfl) ?_
    refine lv_iconst (v := 1) hx hb dX11_nights_9 (by decide) ?_
    refine q_cVi (κ := 11) (C := RX11) (T := TX11) (N := 20) [] E hw hm mw_X11_142 (fun u hu => c_X11_refuse hu hv0) rfl (by decide) hv0 rfl rfl hl.1 (Nat.le_of_ble_eq_true rfl) ⟨Nat.le_of_ble_eq_true rfl, Nat.le_of_ble_eq_true rfl⟩ dX11_nights_10 (fun u7 H locs hm hw => ?_)
    exact q_iret E hr hlk hw hm dX11_nights_13
theorem c_X11_nights {l : Launch} {D : va_G} {cy : Nat → ClassId} {b : Nat} {v0 : Nat} {v1 : Int32} {σ : ST} {r : Int32 × ST} (hm : f_X11_nights v0 v1 σ = some r) (hv0 : LC.1 v0 = 11) : Met l yX11_nights (wU yX11_nights cX11_nights 3 (some .int)) (rmD 11) (PcP D cy LC b [.ref (b + v0), .int v1] σ) (QcP D cy LC b (some (.int r.1)) r.2) 0 0 (inP LC b) :=
  q_met (lv := [(0, .ref (b + v0)), (1, .int v1)]) LC_ok (by decide) (Nat.le_of_ble_eq_true rfl) rfl (fun _ _ _ _ _ _ _ _ _ E hr hlk hw hl => w_X11_nights_0 E hr hlk hm hv0 hw hl)

def f_X11_holderSet (v0 : Nat) (v1 : Int32) (v2 : Int32) (σ : ST) : Option (Int32 × ST) :=
  (f_X10_noteHolders (LC.2.1 v0 2) v1 (LC.2.1 v0 13) σ).bind fun u1 =>
  (ldA LC u1 (LC.2.1 v0 13) v2).bind fun a2 =>
  some (a2, u1)
set_option maxRecDepth 20000 in
set_option maxHeartbeats 1000000 in
theorem w_X11_holderSet_0 {p : Program} {l : Launch} {e : Env} {s : State} {m : MethodId} {args : Array Value} {below : List Frame} {meth : Method} {c : Code} {D : va_G} {cy : Nat → ClassId} {b : Nat} (E : CX p m c cX11_holderSet 3 s args RX11 D cy LC) (hr : meth.sig.returnType = some .int) (hlk : meth.locks = false) {r : Int32 × ST} {v0 : Nat} {v1 : Int32} {v2 : Int32} {σ : ST} {H : Heap} {locs : List Loc} {ls : Array Slot} (hm : f_X11_holderSet v0 v1 v2 σ = some r) (hv0 : LC.1 v0 = 11) (hw : PH D cy LC b σ s H locs) (hl : lv_has ls 3 [(0, .ref (b + v0)), (1, .int v1), (2, .int v2)]) : W p l e (rmD 3) s m args below meth c H locs 0 0 (MQ below (QcP D cy LC b (some (.int r.1)) r.2) args s 0 0 (inP LC b)) (F0 m 0 ls []) := by
  have hx := E.1.1
  have hb := E.1.2.1
  unfold f_X11_holderSet at hm
  refine lv_aload_n hx hb dX11_holderSet_0 rfl (lv_at hl 0 rfl) ?_
  refine q_geta E hw fw_X11_25 rfl hv0 dX11_holderSet_1 ?_
  refine lv_iload_n hx hb dX11_holderSet_4 rfl (lv_at hl 1 rfl) ?_
  refine lv_aload_n hx hb dX11_holderSet_5 rfl (lv_at hl 0 rfl) ?_
  refine q_geta E hw fw_X11_95 rfl hv0 dX11_holderSet_6 ?_
  refine q_cVv (κ := 10) (C := RX10) (T := TX10) (N := 12) [] E hw hm mw_X11_378 (fun u hu => c_X10_noteHolders hu (tC_11_2 hv0) (tC_11_13 hv0)) rfl (by decide) (tC_11_2 hv0) rfl rfl hl.1 (Nat.le_of_ble_eq_true rfl) ⟨Nat.le_of_ble_eq_true rfl, Nat.le_of_ble_eq_true rfl⟩ dX11_holderSet_9 (fun u1 H locs hm hw => ?_)
  refine lv_aload_n hx hb dX11_holderSet_12 rfl (lv_at hl 0 rfl) ?_
  refine q_geta E hw fw_X11_95 rfl hv0 dX11_holderSet_13 ?_
  refine lv_iload_n hx hb dX11_holderSet_16 rfl (lv_at hl 2 rfl) ?_
  refine q_iald E hw (tC_11_13 hv0) hm dX11_holderSet_17 (fun a2 hm => ?_)
  exact q_iret E hr hlk hw hm dX11_holderSet_18
theorem c_X11_holderSet {l : Launch} {D : va_G} {cy : Nat → ClassId} {b : Nat} {v0 : Nat} {v1 : Int32} {v2 : Int32} {σ : ST} {r : Int32 × ST} (hm : f_X11_holderSet v0 v1 v2 σ = some r) (hv0 : LC.1 v0 = 11) : Met l yX11_holderSet (wU yX11_holderSet cX11_holderSet 3 (some .int)) (rmD 3) (PcP D cy LC b [.ref (b + v0), .int v1, .int v2] σ) (QcP D cy LC b (some (.int r.1)) r.2) 0 0 (inP LC b) :=
  q_met (lv := [(0, .ref (b + v0)), (1, .int v1), (2, .int v2)]) LC_ok (by decide) (Nat.le_of_ble_eq_true rfl) rfl (fun _ _ _ _ _ _ _ _ _ E hr hlk hw hl => w_X11_holderSet_0 E hr hlk hm hv0 hw hl)

def k_X11_safe_74 (s0 : Int32) (σ : ST) : Option (Int32 × ST) :=
  some (s0, σ)
set_option maxRecDepth 20000 in
set_option maxHeartbeats 1000000 in
theorem w_X11_safe_74 {p : Program} {l : Launch} {e : Env} {s : State} {m : MethodId} {args : Array Value} {below : List Frame} {meth : Method} {c : Code} {D : va_G} {cy : Nat → ClassId} {b : Nat} (E : CX p m c cX11_safe 4 s args RX11 D cy LC) (hr : meth.sig.returnType = some .int) (hlk : meth.locks = false) {r : Int32 × ST} {s0 : Int32} {σ : ST} {H : Heap} {locs : List Loc} {ls : Array Slot} (hm : k_X11_safe_74 s0 σ = some r) (hw : PH D cy LC b σ s H locs) (hl : lv_has ls 4 []) : W p l e (rmD 4) s m args below meth c H locs 0 0 (MQ below (QcP D cy LC b (some (.int r.1)) r.2) args s 0 0 (inP LC b)) (F0 m 74 ls [.int s0]) := by
  have hx := E.1.1
  have hb := E.1.2.1
  unfold k_X11_safe_74 at hm
  exact q_iret E hr hlk hw hm dX11_safe_74
def k_X11_safe_19 (v0 : Nat) (σ : ST) : Option (Int32 × ST) :=
  (f_X11_refuse v0 1 σ).bind fun u1 =>
  some (u1.1, u1.2)
set_option maxRecDepth 20000 in
set_option maxHeartbeats 1000000 in
theorem w_X11_safe_19 {p : Program} {l : Launch} {e : Env} {s : State} {m : MethodId} {args : Array Value} {below : List Frame} {meth : Method} {c : Code} {D : va_G} {cy : Nat → ClassId} {b : Nat} (E : CX p m c cX11_safe 4 s args RX11 D cy LC) (hr : meth.sig.returnType = some .int) (hlk : meth.locks = false) {r : Int32 × ST} {v0 : Nat} {σ : ST} {H : Heap} {locs : List Loc} {ls : Array Slot} (hm : k_X11_safe_19 v0 σ = some r) (hv0 : LC.1 v0 = 11) (hw : PH D cy LC b σ s H locs) (hl : lv_has ls 4 [(0, .ref (b + v0))]) : W p l e (rmD 4) s m args below meth c H locs 0 0 (MQ below (QcP D cy LC b (some (.int r.1)) r.2) args s 0 0 (inP LC b)) (F0 m 19 ls []) := by
  have hx := E.1.1
  have hb := E.1.2.1
  unfold k_X11_safe_19 at hm
  refine lv_aload_n hx hb dX11_safe_19 rfl (lv_at hl 0 rfl) ?_
  refine lv_iconst (v := 1) hx hb dX11_safe_20 (by decide) ?_
  refine q_cVi (κ := 11) (C := RX11) (T := TX11) (N := 20) [] E hw hm mw_X11_142 (fun u hu => c_X11_refuse hu hv0) rfl (by decide) hv0 rfl rfl hl.1 (Nat.le_of_ble_eq_true rfl) ⟨Nat.le_of_ble_eq_true rfl, Nat.le_of_ble_eq_true rfl⟩ dX11_safe_21 (fun u1 H locs hm hw => ?_)
  exact q_iret E hr hlk hw hm dX11_safe_24
def f_X11_safe (v0 : Nat) (v1 : Int32) (v2 : Int32) (σ : ST) : Option (Int32 × ST) :=
  (f_X11_isKey v0 v1 σ).bind fun u2 =>
  if u2.1 = 0 then (k_X11_safe_19 v0 u2.2) else (if v2 < 0 then (k_X11_safe_19 v0 u2.2) else (if v2 ≤ 1000 then ((f_X7_isSum (LC.2.1 (LC.2.1 v0 2) 0) v1 u2.2).bind fun u6 =>
  if u6.1 = 0 then ((f_X11_holderSet v0 v1 v2 u6.2).bind fun u8 =>
  if u8.1 = 0 then ((f_X11_refuse v0 6 u8.2).bind fun u12 =>
  k_X11_safe_74 u12.1 u12.2) else ((f_J6_bitCount_0f7a4 u8.1 u8.2).bind fun u10 =>
  (f_X11_answer v0 u10.1 u10.2).bind fun u11 =>
  k_X11_safe_74 u11.1 u11.2)) else ((f_X11_refuse v0 7 u6.2).bind fun u13 =>
  some (u13.1, u13.2))) else (k_X11_safe_19 v0 u2.2)))
set_option maxRecDepth 20000 in
set_option maxHeartbeats 1000000 in
theorem w_X11_safe_0 {p : Program} {l : Launch} {e : Env} {s : State} {m : MethodId} {args : Array Value} {below : List Frame} {meth : Method} {c : Code} {D : va_G} {cy : Nat → ClassId} {b : Nat} (E : CX p m c cX11_safe 4 s args RX11 D cy LC) (hr : meth.sig.returnType = some .int) (hlk : meth.locks = false) {r : Int32 × ST} {v0 : Nat} {v1 : Int32} {v2 : Int32} {σ : ST} {H : Heap} {locs : List Loc} {ls : Array Slot} (hm : f_X11_safe v0 v1 v2 σ = some r) (hv0 : LC.1 v0 = 11) (hw : PH D cy LC b σ s H locs) (hl : lv_has ls 4 [(0, .ref (b + v0)), (1, .int v1), (2, .int v2)]) : W p l e (rmD 4) s m args below meth c H locs 0 0 (MQ below (QcP D cy LC b (some (.int r.1)) r.2) args s 0 0 (inP LC b)) (F0 m 0 ls []) := by
  have hx := E.1.1
  have hb := E.1.2.1
  unfold f_X11_safe at hm
  refine lv_aload_n hx hb dX11_safe_0 rfl (lv_at hl 0 rfl) ?_
  refine lv_iload_n hx hb dX11_safe_1 rfl (lv_at hl 1 rfl) ?_
  refine q_cVi (κ := 11) (C := RX11) (T := TX11) (N := 20) [] E hw hm mw_X11_232 (fun u hu => c_X11_isKey hu hv0) rfl (by decide) hv0 rfl rfl hl.1 (Nat.le_of_ble_eq_true rfl) ⟨Nat.le_of_ble_eq_true rfl, Nat.le_of_ble_eq_true rfl⟩ dX11_safe_2 (fun u2 H locs hm hw => ?_)
  refine lv_if_eq (tgt := 19) hx hb dX11_safe_5 (by decide) (fun c3 => ?_) (fun c3 => ?_)
  · have hm := o_t c3 hm
    exact w_X11_safe_19 E hr hlk hm hv0 hw (lv_sub hl [0] rfl)
  · have hm := o_f c3 hm
    refine lv_iload_n hx hb dX11_safe_8 rfl (lv_at hl 2 rfl) ?_
    refine lv_if_lt (tgt := 19) hx hb dX11_safe_9 (by decide) (fun c4 => ?_) (fun c4 => ?_)
    · have hm := o_t c4 hm
      exact w_X11_safe_19 E hr hlk hm hv0 hw (lv_sub hl [0] rfl)
    · have hm := o_f c4 hm
      refine lv_iload_n hx hb dX11_safe_12 rfl (lv_at hl 2 rfl) ?_
      refine lv_sipush (v := 1000) hx hb dX11_safe_13 (by decide) ?_
      refine lv_icmp_le (tgt := 25) hx hb dX11_safe_16 (by decide) (fun c5 => ?_) (fun c5 => ?_)
      · have hm := o_t c5 hm
        refine lv_aload_n hx hb dX11_safe_25 rfl (lv_at hl 0 rfl) ?_
        refine q_geta E hw fw_X11_25 rfl hv0 dX11_safe_26 ?_
        refine q_geta E hw fw_X11_40 rfl (tC_11_2 hv0) dX11_safe_29 ?_
        refine lv_iload_n hx hb dX11_safe_32 rfl (lv_at hl 1 rfl) ?_
        refine q_cVi (κ := 7) (C := RX7) (T := TX7) (N := 12) [] E hw hm mw_X11_274 (fun u hu => c_X7_isSum hu (tC_10_0 (tC_11_2 hv0))) rfl (by decide) (tC_10_0 (tC_11_2 hv0)) rfl rfl hl.1 (Nat.le_of_ble_eq_true rfl) ⟨Nat.le_of_ble_eq_true rfl, Nat.le_of_ble_eq_true rfl⟩ dX11_safe_33 (fun u6 H locs hm hw => ?_)
        refine lv_if_eq (tgt := 46) hx hb dX11_safe_36 (by decide) (fun c7 => ?_) (fun c7 => ?_)
        · have hm := o_t c7 hm
          refine lv_aload_n hx hb dX11_safe_46 rfl (lv_at hl 0 rfl) ?_
          refine lv_iload_n hx hb dX11_safe_47 rfl (lv_at hl 1 rfl) ?_
          refine lv_iload_n hx hb dX11_safe_48 rfl (lv_at hl 2 rfl) ?_
          refine q_cVi (κ := 11) (C := RX11) (T := TX11) (N := 20) [] E hw hm mw_X11_370 (fun u hu => c_X11_holderSet hu hv0) rfl (by decide) hv0 rfl rfl hl.1 (Nat.le_of_ble_eq_true rfl) ⟨Nat.le_of_ble_eq_true rfl, Nat.le_of_ble_eq_true rfl⟩ dX11_safe_49 (fun u8 H locs hm hw => ?_)
          refine lv_istore_n (lv' := [(3, .int u8.1), (0, .ref (b + v0)), (1, .int v1), (2, .int v2)]) hx hb dX11_safe_52 rfl hl (by decide) rfl (fun ls hl => ?_)
          refine lv_iload_n hx hb dX11_safe_53 rfl (lv_at hl 0 rfl) ?_
          refine lv_if_ne (tgt := 66) hx hb dX11_safe_54 (by decide) (fun c9 => ?_) (fun c9 => ?_)
          · have hm := o_f c9 hm
            refine lv_aload_n hx hb dX11_safe_66 rfl (lv_at hl 1 rfl) ?_
            refine lv_iload_n hx hb dX11_safe_67 rfl (lv_at hl 0 rfl) ?_
            refine q_cSi [.ref (b + v0)] E hw hm ms_X11_373 (fun u hu => c_J6_bitCount_0f7a4 hu ) rfl rfl hl.1 (Nat.le_of_ble_eq_true rfl) ⟨Nat.le_of_ble_eq_true rfl, Nat.le_of_ble_eq_true rfl⟩ dX11_safe_68 (fun u10 H locs hm hw => ?_)
            refine q_cVi (κ := 11) (C := RX11) (T := TX11) (N := 20) [] E hw hm mw_X11_187 (fun u hu => c_X11_answer hu hv0) rfl (by decide) hv0 rfl rfl hl.1 (Nat.le_of_ble_eq_true rfl) ⟨Nat.le_of_ble_eq_true rfl, Nat.le_of_ble_eq_true rfl⟩ dX11_safe_71 (fun u11 H locs hm hw => ?_)
            exact w_X11_safe_74 E hr hlk hm  hw (lv_sub hl [] rfl)
          · have hm := o_t c9 hm
            refine lv_aload_n hx hb dX11_safe_57 rfl (lv_at hl 1 rfl) ?_
            refine lv_bipush (v := 6) hx hb dX11_safe_58 (by decide) ?_
            refine q_cVi (κ := 11) (C := RX11) (T := TX11) (N := 20) [] E hw hm mw_X11_142 (fun u hu => c_X11_refuse hu hv0) rfl (by decide) hv0 rfl rfl hl.1 (Nat.le_of_ble_eq_true rfl) ⟨Nat.le_of_ble_eq_true rfl, Nat.le_of_ble_eq_true rfl⟩ dX11_safe_60 (fun u12 H locs hm hw => ?_)
            refine lv_goto (tgt := 74) hx hb dX11_safe_63 (by decide) ?_
            exact w_X11_safe_74 E hr hlk hm  hw (lv_sub hl [] rfl)
        · have hm := o_f c7 hm
          refine lv_aload_n hx hb dX11_safe_39 rfl (lv_at hl 0 rfl) ?_
          refine lv_bipush (v := 7) hx hb dX11_safe_40 (by decide) ?_
          refine q_cVi (κ := 11) (C := RX11) (T := TX11) (N := 20) [] E hw hm mw_X11_142 (fun u hu => c_X11_refuse hu hv0) rfl (by decide) hv0 rfl rfl hl.1 (Nat.le_of_ble_eq_true rfl) ⟨Nat.le_of_ble_eq_true rfl, Nat.le_of_ble_eq_true rfl⟩ dX11_safe_42 (fun u13 H locs hm hw => ?_)
          exact q_iret E hr hlk hw hm dX11_safe_45
      · have hm := o_f c5 hm
        exact w_X11_safe_19 E hr hlk hm hv0 hw (lv_sub hl [0] rfl)
theorem c_X11_safe {l : Launch} {D : va_G} {cy : Nat → ClassId} {b : Nat} {v0 : Nat} {v1 : Int32} {v2 : Int32} {σ : ST} {r : Int32 × ST} (hm : f_X11_safe v0 v1 v2 σ = some r) (hv0 : LC.1 v0 = 11) : Met l yX11_safe (wU yX11_safe cX11_safe 4 (some .int)) (rmD 4) (PcP D cy LC b [.ref (b + v0), .int v1, .int v2] σ) (QcP D cy LC b (some (.int r.1)) r.2) 0 0 (inP LC b) :=
  q_met (lv := [(0, .ref (b + v0)), (1, .int v1), (2, .int v2)]) LC_ok (by decide) (Nat.le_of_ble_eq_true rfl) rfl (fun _ _ _ _ _ _ _ _ _ E hr hlk hw hl => w_X11_safe_0 E hr hlk hm hv0 hw hl)

def k_X11_holders_58 (s0 : Int32) (σ : ST) : Option (Int32 × ST) :=
  some (s0, σ)
set_option maxRecDepth 20000 in
set_option maxHeartbeats 1000000 in
theorem w_X11_holders_58 {p : Program} {l : Launch} {e : Env} {s : State} {m : MethodId} {args : Array Value} {below : List Frame} {meth : Method} {c : Code} {D : va_G} {cy : Nat → ClassId} {b : Nat} (E : CX p m c cX11_holders 3 s args RX11 D cy LC) (hr : meth.sig.returnType = some .int) (hlk : meth.locks = false) {r : Int32 × ST} {s0 : Int32} {σ : ST} {H : Heap} {locs : List Loc} {ls : Array Slot} (hm : k_X11_holders_58 s0 σ = some r) (hw : PH D cy LC b σ s H locs) (hl : lv_has ls 3 []) : W p l e (rmD 4) s m args below meth c H locs 0 0 (MQ below (QcP D cy LC b (some (.int r.1)) r.2) args s 0 0 (inP LC b)) (F0 m 58 ls [.int s0]) := by
  have hx := E.1.1
  have hb := E.1.2.1
  unfold k_X11_holders_58 at hm
  exact q_iret E hr hlk hw hm dX11_holders_58
def k_X11_holders_19 (v0 : Nat) (σ : ST) : Option (Int32 × ST) :=
  (f_X11_refuse v0 1 σ).bind fun u1 =>
  some (u1.1, u1.2)
set_option maxRecDepth 20000 in
set_option maxHeartbeats 1000000 in
theorem w_X11_holders_19 {p : Program} {l : Launch} {e : Env} {s : State} {m : MethodId} {args : Array Value} {below : List Frame} {meth : Method} {c : Code} {D : va_G} {cy : Nat → ClassId} {b : Nat} (E : CX p m c cX11_holders 3 s args RX11 D cy LC) (hr : meth.sig.returnType = some .int) (hlk : meth.locks = false) {r : Int32 × ST} {v0 : Nat} {σ : ST} {H : Heap} {locs : List Loc} {ls : Array Slot} (hm : k_X11_holders_19 v0 σ = some r) (hv0 : LC.1 v0 = 11) (hw : PH D cy LC b σ s H locs) (hl : lv_has ls 3 [(0, .ref (b + v0))]) : W p l e (rmD 4) s m args below meth c H locs 0 0 (MQ below (QcP D cy LC b (some (.int r.1)) r.2) args s 0 0 (inP LC b)) (F0 m 19 ls []) := by
  have hx := E.1.1
  have hb := E.1.2.1
  unfold k_X11_holders_19 at hm
  refine lv_aload_n hx hb dX11_holders_19 rfl (lv_at hl 0 rfl) ?_
  refine lv_iconst (v := 1) hx hb dX11_holders_20 (by decide) ?_
  refine q_cVi (κ := 11) (C := RX11) (T := TX11) (N := 20) [] E hw hm mw_X11_142 (fun u hu => c_X11_refuse hu hv0) rfl (by decide) hv0 rfl rfl hl.1 (Nat.le_of_ble_eq_true rfl) ⟨Nat.le_of_ble_eq_true rfl, Nat.le_of_ble_eq_true rfl⟩ dX11_holders_21 (fun u1 H locs hm hw => ?_)
  exact q_iret E hr hlk hw hm dX11_holders_24
def f_X11_holders (v0 : Nat) (v1 : Int32) (v2 : Int32) (σ : ST) : Option (Int32 × ST) :=
  (f_X11_isKey v0 v1 σ).bind fun u2 =>
  if u2.1 = 0 then (k_X11_holders_19 v0 u2.2) else (if v2 < 0 then (k_X11_holders_19 v0 u2.2) else (if v2 ≤ 1000 then ((f_X7_isSum (LC.2.1 (LC.2.1 v0 2) 0) v1 u2.2).bind fun u6 =>
  if u6.1 = 0 then ((f_X11_holderSet v0 v1 v2 u6.2).bind fun u8 =>
  (f_X11_answer v0 u8.1 u8.2).bind fun u9 =>
  k_X11_holders_58 u9.1 u9.2) else ((f_X11_refuse v0 7 u6.2).bind fun u10 =>
  k_X11_holders_58 u10.1 u10.2)) else (k_X11_holders_19 v0 u2.2)))
set_option maxRecDepth 20000 in
set_option maxHeartbeats 1000000 in
theorem w_X11_holders_0 {p : Program} {l : Launch} {e : Env} {s : State} {m : MethodId} {args : Array Value} {below : List Frame} {meth : Method} {c : Code} {D : va_G} {cy : Nat → ClassId} {b : Nat} (E : CX p m c cX11_holders 3 s args RX11 D cy LC) (hr : meth.sig.returnType = some .int) (hlk : meth.locks = false) {r : Int32 × ST} {v0 : Nat} {v1 : Int32} {v2 : Int32} {σ : ST} {H : Heap} {locs : List Loc} {ls : Array Slot} (hm : f_X11_holders v0 v1 v2 σ = some r) (hv0 : LC.1 v0 = 11) (hw : PH D cy LC b σ s H locs) (hl : lv_has ls 3 [(0, .ref (b + v0)), (1, .int v1), (2, .int v2)]) : W p l e (rmD 4) s m args below meth c H locs 0 0 (MQ below (QcP D cy LC b (some (.int r.1)) r.2) args s 0 0 (inP LC b)) (F0 m 0 ls []) := by
  have hx := E.1.1
  have hb := E.1.2.1
  unfold f_X11_holders at hm
  refine lv_aload_n hx hb dX11_holders_0 rfl (lv_at hl 0 rfl) ?_
  refine lv_iload_n hx hb dX11_holders_1 rfl (lv_at hl 1 rfl) ?_
  refine q_cVi (κ := 11) (C := RX11) (T := TX11) (N := 20) [] E hw hm mw_X11_232 (fun u hu => c_X11_isKey hu hv0) rfl (by decide) hv0 rfl rfl hl.1 (Nat.le_of_ble_eq_true rfl) ⟨Nat.le_of_ble_eq_true rfl, Nat.le_of_ble_eq_true rfl⟩ dX11_holders_2 (fun u2 H locs hm hw => ?_)
  refine lv_if_eq (tgt := 19) hx hb dX11_holders_5 (by decide) (fun c3 => ?_) (fun c3 => ?_)
  · have hm := o_t c3 hm
    exact w_X11_holders_19 E hr hlk hm hv0 hw (lv_sub hl [0] rfl)
  · have hm := o_f c3 hm
    refine lv_iload_n hx hb dX11_holders_8 rfl (lv_at hl 2 rfl) ?_
    refine lv_if_lt (tgt := 19) hx hb dX11_holders_9 (by decide) (fun c4 => ?_) (fun c4 => ?_)
    · have hm := o_t c4 hm
      exact w_X11_holders_19 E hr hlk hm hv0 hw (lv_sub hl [0] rfl)
    · have hm := o_f c4 hm
      refine lv_iload_n hx hb dX11_holders_12 rfl (lv_at hl 2 rfl) ?_
      refine lv_sipush (v := 1000) hx hb dX11_holders_13 (by decide) ?_
      refine lv_icmp_le (tgt := 25) hx hb dX11_holders_16 (by decide) (fun c5 => ?_) (fun c5 => ?_)
      · have hm := o_t c5 hm
        refine lv_aload_n hx hb dX11_holders_25 rfl (lv_at hl 0 rfl) ?_
        refine q_geta E hw fw_X11_25 rfl hv0 dX11_holders_26 ?_
        refine q_geta E hw fw_X11_40 rfl (tC_11_2 hv0) dX11_holders_29 ?_
        refine lv_iload_n hx hb dX11_holders_32 rfl (lv_at hl 1 rfl) ?_
        refine q_cVi (κ := 7) (C := RX7) (T := TX7) (N := 12) [] E hw hm mw_X11_274 (fun u hu => c_X7_isSum hu (tC_10_0 (tC_11_2 hv0))) rfl (by decide) (tC_10_0 (tC_11_2 hv0)) rfl rfl hl.1 (Nat.le_of_ble_eq_true rfl) ⟨Nat.le_of_ble_eq_true rfl, Nat.le_of_ble_eq_true rfl⟩ dX11_holders_33 (fun u6 H locs hm hw => ?_)
        refine lv_if_eq (tgt := 48) hx hb dX11_holders_36 (by decide) (fun c7 => ?_) (fun c7 => ?_)
        · have hm := o_t c7 hm
          refine lv_aload_n hx hb dX11_holders_48 rfl (lv_at hl 0 rfl) ?_
          refine lv_aload_n hx hb dX11_holders_49 rfl (lv_at hl 0 rfl) ?_
          refine lv_iload_n hx hb dX11_holders_50 rfl (lv_at hl 1 rfl) ?_
          refine lv_iload_n hx hb dX11_holders_51 rfl (lv_at hl 2 rfl) ?_
          refine q_cVi (κ := 11) (C := RX11) (T := TX11) (N := 20) [.ref (b + v0)] E hw hm mw_X11_370 (fun u hu => c_X11_holderSet hu hv0) rfl (by decide) hv0 rfl rfl hl.1 (Nat.le_of_ble_eq_true rfl) ⟨Nat.le_of_ble_eq_true rfl, Nat.le_of_ble_eq_true rfl⟩ dX11_holders_52 (fun u8 H locs hm hw => ?_)
          refine q_cVi (κ := 11) (C := RX11) (T := TX11) (N := 20) [] E hw hm mw_X11_187 (fun u hu => c_X11_answer hu hv0) rfl (by decide) hv0 rfl rfl hl.1 (Nat.le_of_ble_eq_true rfl) ⟨Nat.le_of_ble_eq_true rfl, Nat.le_of_ble_eq_true rfl⟩ dX11_holders_55 (fun u9 H locs hm hw => ?_)
          exact w_X11_holders_58 E hr hlk hm  hw (lv_sub hl [] rfl)
        · have hm := o_f c7 hm
          refine lv_aload_n hx hb dX11_holders_39 rfl (lv_at hl 0 rfl) ?_
          refine lv_bipush (v := 7) hx hb dX11_holders_40 (by decide) ?_
          refine q_cVi (κ := 11) (C := RX11) (T := TX11) (N := 20) [] E hw hm mw_X11_142 (fun u hu => c_X11_refuse hu hv0) rfl (by decide) hv0 rfl rfl hl.1 (Nat.le_of_ble_eq_true rfl) ⟨Nat.le_of_ble_eq_true rfl, Nat.le_of_ble_eq_true rfl⟩ dX11_holders_42 (fun u10 H locs hm hw => ?_)
          refine lv_goto (tgt := 58) hx hb dX11_holders_45 (by decide) ?_
          exact w_X11_holders_58 E hr hlk hm  hw (lv_sub hl [] rfl)
      · have hm := o_f c5 hm
        exact w_X11_holders_19 E hr hlk hm hv0 hw (lv_sub hl [0] rfl)
theorem c_X11_holders {l : Launch} {D : va_G} {cy : Nat → ClassId} {b : Nat} {v0 : Nat} {v1 : Int32} {v2 : Int32} {σ : ST} {r : Int32 × ST} (hm : f_X11_holders v0 v1 v2 σ = some r) (hv0 : LC.1 v0 = 11) : Met l yX11_holders (wU yX11_holders cX11_holders 3 (some .int)) (rmD 4) (PcP D cy LC b [.ref (b + v0), .int v1, .int v2] σ) (QcP D cy LC b (some (.int r.1)) r.2) 0 0 (inP LC b) :=
  q_met (lv := [(0, .ref (b + v0)), (1, .int v1), (2, .int v2)]) LC_ok (by decide) (Nat.le_of_ble_eq_true rfl) rfl (fun _ _ _ _ _ _ _ _ _ E hr hlk hw hl => w_X11_holders_0 E hr hlk hm hv0 hw hl)

def k_X11_lost_82 (rec47 : Nat → Int32 → Int32 → Int32 → Int32 → ST → Option (Int32 × ST)) (v0 : Nat) (v1 : Int32) (v2 : Int32) (v3 : Int32) (v4 : Int32) (σ : ST) : Option (Int32 × ST) :=
  rec47 v0 v1 v2 v3 (v4 + 1) σ
set_option maxRecDepth 20000 in
set_option maxHeartbeats 1000000 in
theorem w_X11_lost_82 {p : Program} {l : Launch} {e : Env} {s : State} {m : MethodId} {args : Array Value} {below : List Frame} {meth : Method} {c : Code} {D : va_G} {cy : Nat → ClassId} {b : Nat} (E : CX p m c cX11_lost 5 s args RX11 D cy LC) (hr : meth.sig.returnType = some .int) (hlk : meth.locks = false) {r : Int32 × ST} {rec47 : Nat → Int32 → Int32 → Int32 → Int32 → ST → Option (Int32 × ST)} (hrec47 : ∀ (v0 : Nat) (v1 : Int32) (v2 : Int32) (v3 : Int32) (v4 : Int32) (σ : ST) (H : Heap) (locs : List Loc) (ls : Array Slot), rec47 v0 v1 v2 v3 v4 σ = some r → LC.1 v0 = 11 → PH D cy LC b σ s H locs → lv_has ls 5 [(0, .ref (b + v0)), (1, .int v1), (2, .int v2), (3, .int v3), (4, .int v4)] → W p l e (rmD 3) s m args below meth c H locs 0 0 (MQ below (QcP D cy LC b (some (.int r.1)) r.2) args s 0 0 (inP LC b)) (F0 m 47 ls [])) {v0 : Nat} {v1 : Int32} {v2 : Int32} {v3 : Int32} {v4 : Int32} {σ : ST} {H : Heap} {locs : List Loc} {ls : Array Slot} (hm : k_X11_lost_82 rec47 v0 v1 v2 v3 v4 σ = some r) (hv0 : LC.1 v0 = 11) (hw : PH D cy LC b σ s H locs) (hl : lv_has ls 5 [(0, .ref (b + v0)), (1, .int v1), (2, .int v2), (3, .int v3), (4, .int v4)]) : W p l e (rmD 3) s m args below meth c H locs 0 0 (MQ below (QcP D cy LC b (some (.int r.1)) r.2) args s 0 0 (inP LC b)) (F0 m 82 ls []) := by
  have hx := E.1.1
  have hb := E.1.2.1
  unfold k_X11_lost_82 at hm
  refine lv_iinc (v := v4 + 1) (lv' := [(4, .int (v4 + 1)), (0, .ref (b + v0)), (1, .int v1), (2, .int v2), (3, .int v3)]) hx hb dX11_lost_82 hl (k := 4) rfl rfl (by decide) rfl (fun ls hl => ?_)
  refine lv_goto (tgt := 47) hx hb dX11_lost_85 (by decide) ?_
  exact hrec47 _ _ _ _ _ _ _ _ _ hm hv0 hw (lv_sub hl [1, 2, 3, 4, 0] rfl)
def k_X11_lost_47 (rec18 : Nat → Int32 → Int32 → Int32 → ST → Option (Int32 × ST)) : Nat → Nat → Int32 → Int32 → Int32 → Int32 → ST → Option (Int32 × ST)
  | 0, _, _, _, _, _, _ => none
  | n + 1, v0, v1, v2, v3, v4, σ => if 999 < v4 then (rec18 v0 v1 v2 (v3 + 1) σ) else ((ldA LC σ (LC.2.1 v0 13) v4).bind fun a2 =>
  if a2 = 0 then (k_X11_lost_82 (k_X11_lost_47 rec18 n) v0 v1 v2 v3 v4 σ) else ((ldA LC σ (LC.2.1 v0 13) v4).bind fun a4 =>
  if (a4 &&& (v1 ^^^ (-1))) = 0 then (k_X11_lost_82 (k_X11_lost_47 rec18 n) v0 v1 (v2 + 1) v3 v4 σ) else (k_X11_lost_82 (k_X11_lost_47 rec18 n) v0 v1 v2 v3 v4 σ)))
set_option maxRecDepth 20000 in
set_option maxHeartbeats 1000000 in
theorem w_X11_lost_47 {p : Program} {l : Launch} {e : Env} {s : State} {m : MethodId} {args : Array Value} {below : List Frame} {meth : Method} {c : Code} {D : va_G} {cy : Nat → ClassId} {b : Nat} (E : CX p m c cX11_lost 5 s args RX11 D cy LC) (hr : meth.sig.returnType = some .int) (hlk : meth.locks = false) {r : Int32 × ST} {rec18 : Nat → Int32 → Int32 → Int32 → ST → Option (Int32 × ST)} (hrec18 : ∀ (v0 : Nat) (v1 : Int32) (v2 : Int32) (v3 : Int32) (σ : ST) (H : Heap) (locs : List Loc) (ls : Array Slot), rec18 v0 v1 v2 v3 σ = some r → LC.1 v0 = 11 → PH D cy LC b σ s H locs → lv_has ls 5 [(0, .ref (b + v0)), (1, .int v1), (2, .int v2), (3, .int v3)] → W p l e (rmD 3) s m args below meth c H locs 0 0 (MQ below (QcP D cy LC b (some (.int r.1)) r.2) args s 0 0 (inP LC b)) (F0 m 18 ls [])) : ∀ (n : Nat) (v0 : Nat) (v1 : Int32) (v2 : Int32) (v3 : Int32) (v4 : Int32) (σ : ST) (H : Heap) (locs : List Loc) (ls : Array Slot), k_X11_lost_47 rec18 n v0 v1 v2 v3 v4 σ = some r → LC.1 v0 = 11 → PH D cy LC b σ s H locs → lv_has ls 5 [(0, .ref (b + v0)), (1, .int v1), (2, .int v2), (3, .int v3), (4, .int v4)] → W p l e (rmD 3) s m args below meth c H locs 0 0 (MQ below (QcP D cy LC b (some (.int r.1)) r.2) args s 0 0 (inP LC b)) (F0 m 47 ls []) := by
  have hx := E.1.1
  have hb := E.1.2.1
  intro n
  induction n with
  | zero =>
    intro v0 v1 v2 v3 v4 σ H locs ls hm
    cases hm
  | succ n ih =>
    intro v0 v1 v2 v3 v4 σ H locs ls hm hv0 hw hl
    rw [k_X11_lost_47] at hm
    refine lv_iload hx hb dX11_lost_47 (lv_at hl 4 rfl) ?_
    refine lv_sipush (v := 999) hx hb dX11_lost_49 (by decide) ?_
    refine lv_icmp_gt (tgt := 88) hx hb dX11_lost_52 (by decide) (fun c1 => ?_) (fun c1 => ?_)
    · have hm := o_t c1 hm
      refine lv_iinc (v := v3 + 1) (lv' := [(3, .int (v3 + 1)), (0, .ref (b + v0)), (1, .int v1), (2, .int v2), (4, .int v4)]) hx hb dX11_lost_88 hl (k := 3) rfl rfl (by decide) rfl (fun ls hl => ?_)
      refine lv_goto (tgt := 18) hx hb dX11_lost_91 (by decide) ?_
      exact hrec18 _ _ _ _ _ _ _ _ hm hv0 hw (lv_sub hl [1, 2, 3, 0] rfl)
    · have hm := o_f c1 hm
      refine lv_aload_n hx hb dX11_lost_55 rfl (lv_at hl 0 rfl) ?_
      refine q_geta E hw fw_X11_95 rfl hv0 dX11_lost_56 ?_
      refine lv_iload hx hb dX11_lost_59 (lv_at hl 4 rfl) ?_
      refine q_iald E hw (tC_11_13 hv0) hm dX11_lost_61 (fun a2 hm => ?_)
      refine lv_if_eq (tgt := 82) hx hb dX11_lost_62 (by decide) (fun c3 => ?_) (fun c3 => ?_)
      · have hm := o_t c3 hm
        exact w_X11_lost_82 E hr hlk ih hm hv0 hw (lv_sub hl [0, 1, 2, 3, 4] rfl)
      · have hm := o_f c3 hm
        refine lv_aload_n hx hb dX11_lost_65 rfl (lv_at hl 0 rfl) ?_
        refine q_geta E hw fw_X11_95 rfl hv0 dX11_lost_66 ?_
        refine lv_iload hx hb dX11_lost_69 (lv_at hl 4 rfl) ?_
        refine q_iald E hw (tC_11_13 hv0) hm dX11_lost_71 (fun a4 hm => ?_)
        refine lv_iload_n hx hb dX11_lost_72 rfl (lv_at hl 1 rfl) ?_
        refine lv_iconst (v := (-1)) hx hb dX11_lost_73 (by decide) ?_
        refine lv_ixor hx hb dX11_lost_74 ?_
        refine lv_iand hx hb dX11_lost_75 ?_
        refine lv_if_ne (tgt := 82) hx hb dX11_lost_76 (by decide) (fun c5 => ?_) (fun c5 => ?_)
        · have hm := o_f c5 hm
          exact w_X11_lost_82 E hr hlk ih hm hv0 hw (lv_sub hl [0, 1, 2, 3, 4] rfl)
        · have hm := o_t c5 hm
          refine lv_iinc (v := v2 + 1) (lv' := [(2, .int (v2 + 1)), (0, .ref (b + v0)), (1, .int v1), (3, .int v3), (4, .int v4)]) hx hb dX11_lost_79 hl (k := 2) rfl rfl (by decide) rfl (fun ls hl => ?_)
          exact w_X11_lost_82 E hr hlk ih hm hv0 hw (lv_sub hl [1, 2, 0, 3, 4] rfl)
def k_X11_lost_18 : Nat → Nat → Int32 → Int32 → Int32 → ST → Option (Int32 × ST)
  | 0, _, _, _, _, _ => none
  | n + 1, v0, v1, v2, v3, σ => if (gI σ (LC.2.1 (LC.2.1 v0 2) 0) 7) ≤ v3 then ((f_X11_answer v0 v2 σ).bind fun u7 =>
  some (u7.1, u7.2)) else ((f_X10_noteHolders (LC.2.1 v0 2) v3 (LC.2.1 v0 13) σ).bind fun u8 =>
  k_X11_lost_47 (k_X11_lost_18 n) FU v0 v1 v2 v3 0 u8)
set_option maxRecDepth 20000 in
set_option maxHeartbeats 1000000 in
theorem w_X11_lost_18 {p : Program} {l : Launch} {e : Env} {s : State} {m : MethodId} {args : Array Value} {below : List Frame} {meth : Method} {c : Code} {D : va_G} {cy : Nat → ClassId} {b : Nat} (E : CX p m c cX11_lost 5 s args RX11 D cy LC) (hr : meth.sig.returnType = some .int) (hlk : meth.locks = false) {r : Int32 × ST} : ∀ (n : Nat) (v0 : Nat) (v1 : Int32) (v2 : Int32) (v3 : Int32) (σ : ST) (H : Heap) (locs : List Loc) (ls : Array Slot), k_X11_lost_18 n v0 v1 v2 v3 σ = some r → LC.1 v0 = 11 → PH D cy LC b σ s H locs → lv_has ls 5 [(0, .ref (b + v0)), (1, .int v1), (2, .int v2), (3, .int v3)] → W p l e (rmD 3) s m args below meth c H locs 0 0 (MQ below (QcP D cy LC b (some (.int r.1)) r.2) args s 0 0 (inP LC b)) (F0 m 18 ls []) := by
  have hx := E.1.1
  have hb := E.1.2.1
  intro n
  induction n with
  | zero =>
    intro v0 v1 v2 v3 σ H locs ls hm
    cases hm
  | succ n ih =>
    intro v0 v1 v2 v3 σ H locs ls hm hv0 hw hl
    rw [k_X11_lost_18] at hm
    refine lv_iload_n hx hb dX11_lost_18 rfl (lv_at hl 3 rfl) ?_
    refine lv_aload_n hx hb dX11_lost_19 rfl (lv_at hl 0 rfl) ?_
    refine q_geta E hw fw_X11_25 rfl hv0 dX11_lost_20 ?_
    refine q_geta E hw fw_X11_40 rfl (tC_11_2 hv0) dX11_lost_23 ?_
    refine q_geti E hw fw_X11_182 rfl (tC_10_0 (tC_11_2 hv0)) dX11_lost_26 ?_
    refine lv_icmp_ge (tgt := 94) hx hb dX11_lost_29 (by decide) (fun c6 => ?_) (fun c6 => ?_)
    · have hm := o_t c6 hm
      refine lv_aload_n hx hb dX11_lost_94 rfl (lv_at hl 0 rfl) ?_
      refine lv_iload_n hx hb dX11_lost_95 rfl (lv_at hl 2 rfl) ?_
      refine q_cVi (κ := 11) (C := RX11) (T := TX11) (N := 20) [] E hw hm mw_X11_187 (fun u hu => c_X11_answer hu hv0) rfl (by decide) hv0 rfl rfl hl.1 (Nat.le_of_ble_eq_true rfl) ⟨Nat.le_of_ble_eq_true rfl, Nat.le_of_ble_eq_true rfl⟩ dX11_lost_96 (fun u7 H locs hm hw => ?_)
      exact q_iret E hr hlk hw hm dX11_lost_99
    · have hm := o_f c6 hm
      refine lv_aload_n hx hb dX11_lost_32 rfl (lv_at hl 0 rfl) ?_
      refine q_geta E hw fw_X11_25 rfl hv0 dX11_lost_33 ?_
      refine lv_iload_n hx hb dX11_lost_36 rfl (lv_at hl 3 rfl) ?_
      refine lv_aload_n hx hb dX11_lost_37 rfl (lv_at hl 0 rfl) ?_
      refine q_geta E hw fw_X11_95 rfl hv0 dX11_lost_38 ?_
      refine q_cVv (κ := 10) (C := RX10) (T := TX10) (N := 12) [] E hw hm mw_X11_378 (fun u hu => c_X10_noteHolders hu (tC_11_2 hv0) (tC_11_13 hv0)) rfl (by decide) (tC_11_2 hv0) rfl rfl hl.1 (Nat.le_of_ble_eq_true rfl) ⟨Nat.le_of_ble_eq_true rfl, Nat.le_of_ble_eq_true rfl⟩ dX11_lost_41 (fun u8 H locs hm hw => ?_)
      refine lv_iconst (v := 0) hx hb dX11_lost_44 (by decide) ?_
      refine lv_istore (lv' := [(4, .int 0), (0, .ref (b + v0)), (1, .int v1), (2, .int v2), (3, .int v3)]) hx hb dX11_lost_45 hl (by decide) rfl (fun ls hl => ?_)
      exact w_X11_lost_47 E hr hlk ih _ _ _ _ _ _ _ _ _ _ hm hv0 hw (lv_sub hl [1, 2, 3, 4, 0] rfl)
def f_X11_lost (v0 : Nat) (v1 : Int32) (σ : ST) : Option (Int32 × ST) :=
  (f_X11_isKeeperSet v0 v1 σ).bind fun u9 =>
  if u9.1 = 0 then ((f_X11_refuse v0 1 u9.2).bind fun u11 =>
  some (u11.1, u11.2)) else (k_X11_lost_18 FU v0 v1 0 0 u9.2)
set_option maxRecDepth 20000 in
set_option maxHeartbeats 1000000 in
theorem w_X11_lost_0 {p : Program} {l : Launch} {e : Env} {s : State} {m : MethodId} {args : Array Value} {below : List Frame} {meth : Method} {c : Code} {D : va_G} {cy : Nat → ClassId} {b : Nat} (E : CX p m c cX11_lost 5 s args RX11 D cy LC) (hr : meth.sig.returnType = some .int) (hlk : meth.locks = false) {r : Int32 × ST} {v0 : Nat} {v1 : Int32} {σ : ST} {H : Heap} {locs : List Loc} {ls : Array Slot} (hm : f_X11_lost v0 v1 σ = some r) (hv0 : LC.1 v0 = 11) (hw : PH D cy LC b σ s H locs) (hl : lv_has ls 5 [(0, .ref (b + v0)), (1, .int v1)]) : W p l e (rmD 3) s m args below meth c H locs 0 0 (MQ below (QcP D cy LC b (some (.int r.1)) r.2) args s 0 0 (inP LC b)) (F0 m 0 ls []) := by
  have hx := E.1.1
  have hb := E.1.2.1
  unfold f_X11_lost at hm
  refine lv_aload_n hx hb dX11_lost_0 rfl (lv_at hl 0 rfl) ?_
  refine lv_iload_n hx hb dX11_lost_1 rfl (lv_at hl 1 rfl) ?_
  refine q_cVi (κ := 11) (C := RX11) (T := TX11) (N := 20) [] E hw hm mw_X11_287 (fun u hu => c_X11_isKeeperSet hu hv0) rfl (by decide) hv0 rfl rfl hl.1 (Nat.le_of_ble_eq_true rfl) ⟨Nat.le_of_ble_eq_true rfl, Nat.le_of_ble_eq_true rfl⟩ dX11_lost_2 (fun u9 H locs hm hw => ?_)
  refine lv_if_ne (tgt := 14) hx hb dX11_lost_5 (by decide) (fun c10 => ?_) (fun c10 => ?_)
  · have hm := o_f c10 hm
    refine lv_iconst (v := 0) hx hb dX11_lost_14 (by decide) ?_
    refine lv_istore_n (lv' := [(2, .int 0), (0, .ref (b + v0)), (1, .int v1)]) hx hb dX11_lost_15 rfl hl (by decide) rfl (fun ls hl => ?_)
    refine lv_iconst (v := 0) hx hb dX11_lost_16 (by decide) ?_
    refine lv_istore_n (lv' := [(3, .int 0), (2, .int 0), (0, .ref (b + v0)), (1, .int v1)]) hx hb dX11_lost_17 rfl hl (by decide) rfl (fun ls hl => ?_)
    exact w_X11_lost_18 E hr hlk _ _ _ _ _ _ _ _ _ hm hv0 hw (lv_sub hl [2, 3, 1, 0] rfl)
  · have hm := o_t c10 hm
    refine lv_aload_n hx hb dX11_lost_8 rfl (lv_at hl 0 rfl) ?_
    refine lv_iconst (v := 1) hx hb dX11_lost_9 (by decide) ?_
    refine q_cVi (κ := 11) (C := RX11) (T := TX11) (N := 20) [] E hw hm mw_X11_142 (fun u hu => c_X11_refuse hu hv0) rfl (by decide) hv0 rfl rfl hl.1 (Nat.le_of_ble_eq_true rfl) ⟨Nat.le_of_ble_eq_true rfl, Nat.le_of_ble_eq_true rfl⟩ dX11_lost_10 (fun u11 H locs hm hw => ?_)
    exact q_iret E hr hlk hw hm dX11_lost_13
theorem c_X11_lost {l : Launch} {D : va_G} {cy : Nat → ClassId} {b : Nat} {v0 : Nat} {v1 : Int32} {σ : ST} {r : Int32 × ST} (hm : f_X11_lost v0 v1 σ = some r) (hv0 : LC.1 v0 = 11) : Met l yX11_lost (wU yX11_lost cX11_lost 5 (some .int)) (rmD 3) (PcP D cy LC b [.ref (b + v0), .int v1] σ) (QcP D cy LC b (some (.int r.1)) r.2) 0 0 (inP LC b) :=
  q_met (lv := [(0, .ref (b + v0)), (1, .int v1)]) LC_ok (by decide) (Nat.le_of_ble_eq_true rfl) rfl (fun _ _ _ _ _ _ _ _ _ E hr hlk hw hl => w_X11_lost_0 E hr hlk hm hv0 hw hl)

def k_X11_answers_16 (v0 : Nat) (σ : ST) : Option (Int32 × ST) :=
  (f_X11_refuse v0 1 σ).bind fun u1 =>
  some (u1.1, u1.2)
set_option maxRecDepth 20000 in
set_option maxHeartbeats 1000000 in
theorem w_X11_answers_16 {p : Program} {l : Launch} {e : Env} {s : State} {m : MethodId} {args : Array Value} {below : List Frame} {meth : Method} {c : Code} {D : va_G} {cy : Nat → ClassId} {b : Nat} (E : CX p m c cX11_answers 3 s args RX11 D cy LC) (hr : meth.sig.returnType = some .int) (hlk : meth.locks = false) {r : Int32 × ST} {v0 : Nat} {σ : ST} {H : Heap} {locs : List Loc} {ls : Array Slot} (hm : k_X11_answers_16 v0 σ = some r) (hv0 : LC.1 v0 = 11) (hw : PH D cy LC b σ s H locs) (hl : lv_has ls 3 [(0, .ref (b + v0))]) : W p l e (rmD 5) s m args below meth c H locs 0 0 (MQ below (QcP D cy LC b (some (.int r.1)) r.2) args s 0 0 (inP LC b)) (F0 m 16 ls []) := by
  have hx := E.1.1
  have hb := E.1.2.1
  unfold k_X11_answers_16 at hm
  refine lv_aload_n hx hb dX11_answers_16 rfl (lv_at hl 0 rfl) ?_
  refine lv_iconst (v := 1) hx hb dX11_answers_17 (by decide) ?_
  refine q_cVi (κ := 11) (C := RX11) (T := TX11) (N := 20) [] E hw hm mw_X11_142 (fun u hu => c_X11_refuse hu hv0) rfl (by decide) hv0 rfl rfl hl.1 (Nat.le_of_ble_eq_true rfl) ⟨Nat.le_of_ble_eq_true rfl, Nat.le_of_ble_eq_true rfl⟩ dX11_answers_18 (fun u1 H locs hm hw => ?_)
  exact q_iret E hr hlk hw hm dX11_answers_21
def f_X11_answers (v0 : Nat) (v1 : Int32) (v2 : Int32) (σ : ST) : Option (Int32 × ST) :=
  (f_X11_isKey v0 v1 σ).bind fun u2 =>
  if u2.1 = 0 then (k_X11_answers_16 v0 u2.2) else ((f_X11_isKeeper v0 v2 u2.2).bind fun u4 =>
  if u4.1 = 0 then (k_X11_answers_16 v0 u4.2) else ((f_X1_fill (LC.2.1 v0 9) (LC.2.1 v0 2) v1 v2 u4.2).bind fun u6 =>
  if u6.1 = 0 then ((f_X11_refuse v0 7 u6.2).bind fun u10 =>
  some (u10.1, u10.2)) else ((f_X1_unlikeRows (LC.2.1 v0 9) u6.2).bind fun u8 =>
  (f_X11_answer v0 u8.1 u8.2).bind fun u9 =>
  some (u9.1, u9.2))))
set_option maxRecDepth 20000 in
set_option maxHeartbeats 1000000 in
theorem w_X11_answers_0 {p : Program} {l : Launch} {e : Env} {s : State} {m : MethodId} {args : Array Value} {below : List Frame} {meth : Method} {c : Code} {D : va_G} {cy : Nat → ClassId} {b : Nat} (E : CX p m c cX11_answers 3 s args RX11 D cy LC) (hr : meth.sig.returnType = some .int) (hlk : meth.locks = false) {r : Int32 × ST} {v0 : Nat} {v1 : Int32} {v2 : Int32} {σ : ST} {H : Heap} {locs : List Loc} {ls : Array Slot} (hm : f_X11_answers v0 v1 v2 σ = some r) (hv0 : LC.1 v0 = 11) (hw : PH D cy LC b σ s H locs) (hl : lv_has ls 3 [(0, .ref (b + v0)), (1, .int v1), (2, .int v2)]) : W p l e (rmD 5) s m args below meth c H locs 0 0 (MQ below (QcP D cy LC b (some (.int r.1)) r.2) args s 0 0 (inP LC b)) (F0 m 0 ls []) := by
  have hx := E.1.1
  have hb := E.1.2.1
  unfold f_X11_answers at hm
  refine lv_aload_n hx hb dX11_answers_0 rfl (lv_at hl 0 rfl) ?_
  refine lv_iload_n hx hb dX11_answers_1 rfl (lv_at hl 1 rfl) ?_
  refine q_cVi (κ := 11) (C := RX11) (T := TX11) (N := 20) [] E hw hm mw_X11_232 (fun u hu => c_X11_isKey hu hv0) rfl (by decide) hv0 rfl rfl hl.1 (Nat.le_of_ble_eq_true rfl) ⟨Nat.le_of_ble_eq_true rfl, Nat.le_of_ble_eq_true rfl⟩ dX11_answers_2 (fun u2 H locs hm hw => ?_)
  refine lv_if_eq (tgt := 16) hx hb dX11_answers_5 (by decide) (fun c3 => ?_) (fun c3 => ?_)
  · have hm := o_t c3 hm
    exact w_X11_answers_16 E hr hlk hm hv0 hw (lv_sub hl [0] rfl)
  · have hm := o_f c3 hm
    refine lv_aload_n hx hb dX11_answers_8 rfl (lv_at hl 0 rfl) ?_
    refine lv_iload_n hx hb dX11_answers_9 rfl (lv_at hl 2 rfl) ?_
    refine q_cVi (κ := 11) (C := RX11) (T := TX11) (N := 20) [] E hw hm mw_X11_241 (fun u hu => c_X11_isKeeper hu hv0) rfl (by decide) hv0 rfl rfl hl.1 (Nat.le_of_ble_eq_true rfl) ⟨Nat.le_of_ble_eq_true rfl, Nat.le_of_ble_eq_true rfl⟩ dX11_answers_10 (fun u4 H locs hm hw => ?_)
    refine lv_if_ne (tgt := 22) hx hb dX11_answers_13 (by decide) (fun c5 => ?_) (fun c5 => ?_)
    · have hm := o_f c5 hm
      refine lv_aload_n hx hb dX11_answers_22 rfl (lv_at hl 0 rfl) ?_
      refine q_geta E hw fw_X11_71 rfl hv0 dX11_answers_23 ?_
      refine lv_aload_n hx hb dX11_answers_26 rfl (lv_at hl 0 rfl) ?_
      refine q_geta E hw fw_X11_25 rfl hv0 dX11_answers_27 ?_
      refine lv_iload_n hx hb dX11_answers_30 rfl (lv_at hl 1 rfl) ?_
      refine lv_iload_n hx hb dX11_answers_31 rfl (lv_at hl 2 rfl) ?_
      refine q_cVi (κ := 1) (C := RX1) (T := TX1) (N := 4) [] E hw hm mw_X11_382 (fun u hu => c_X1_fill hu (tC_11_9 hv0) (tC_11_2 hv0)) rfl (by decide) (tC_11_9 hv0) rfl rfl hl.1 (Nat.le_of_ble_eq_true rfl) ⟨Nat.le_of_ble_eq_true rfl, Nat.le_of_ble_eq_true rfl⟩ dX11_answers_32 (fun u6 H locs hm hw => ?_)
      refine lv_if_ne (tgt := 45) hx hb dX11_answers_35 (by decide) (fun c7 => ?_) (fun c7 => ?_)
      · have hm := o_f c7 hm
        refine lv_aload_n hx hb dX11_answers_45 rfl (lv_at hl 0 rfl) ?_
        refine lv_aload_n hx hb dX11_answers_46 rfl (lv_at hl 0 rfl) ?_
        refine q_geta E hw fw_X11_71 rfl hv0 dX11_answers_47 ?_
        refine q_cVi (κ := 1) (C := RX1) (T := TX1) (N := 4) [.ref (b + v0)] E hw hm mw_X11_386 (fun u hu => c_X1_unlikeRows hu (tC_11_9 hv0)) rfl (by decide) (tC_11_9 hv0) rfl rfl hl.1 (Nat.le_of_ble_eq_true rfl) ⟨Nat.le_of_ble_eq_true rfl, Nat.le_of_ble_eq_true rfl⟩ dX11_answers_50 (fun u8 H locs hm hw => ?_)
        refine q_cVi (κ := 11) (C := RX11) (T := TX11) (N := 20) [] E hw hm mw_X11_187 (fun u hu => c_X11_answer hu hv0) rfl (by decide) hv0 rfl rfl hl.1 (Nat.le_of_ble_eq_true rfl) ⟨Nat.le_of_ble_eq_true rfl, Nat.le_of_ble_eq_true rfl⟩ dX11_answers_53 (fun u9 H locs hm hw => ?_)
        exact q_iret E hr hlk hw hm dX11_answers_56
      · have hm := o_t c7 hm
        refine lv_aload_n hx hb dX11_answers_38 rfl (lv_at hl 0 rfl) ?_
        refine lv_bipush (v := 7) hx hb dX11_answers_39 (by decide) ?_
        refine q_cVi (κ := 11) (C := RX11) (T := TX11) (N := 20) [] E hw hm mw_X11_142 (fun u hu => c_X11_refuse hu hv0) rfl (by decide) hv0 rfl rfl hl.1 (Nat.le_of_ble_eq_true rfl) ⟨Nat.le_of_ble_eq_true rfl, Nat.le_of_ble_eq_true rfl⟩ dX11_answers_41 (fun u10 H locs hm hw => ?_)
        exact q_iret E hr hlk hw hm dX11_answers_44
    · have hm := o_t c5 hm
      exact w_X11_answers_16 E hr hlk hm hv0 hw (lv_sub hl [0] rfl)
theorem c_X11_answers {l : Launch} {D : va_G} {cy : Nat → ClassId} {b : Nat} {v0 : Nat} {v1 : Int32} {v2 : Int32} {σ : ST} {r : Int32 × ST} (hm : f_X11_answers v0 v1 v2 σ = some r) (hv0 : LC.1 v0 = 11) : Met l yX11_answers (wU yX11_answers cX11_answers 3 (some .int)) (rmD 5) (PcP D cy LC b [.ref (b + v0), .int v1, .int v2] σ) (QcP D cy LC b (some (.int r.1)) r.2) 0 0 (inP LC b) :=
  q_met (lv := [(0, .ref (b + v0)), (1, .int v1), (2, .int v2)]) LC_ok (by decide) (Nat.le_of_ble_eq_true rfl) rfl (fun _ _ _ _ _ _ _ _ _ E hr hlk hw hl => w_X11_answers_0 E hr hlk hm hv0 hw hl)

def k_X11_setFraction_65 (rec14 : Nat → Int32 → ST → Option (ST)) (v0 : Nat) (v3 : Int32) (σ : ST) : Option (ST) :=
  rec14 v0 (v3 + (-1)) σ
set_option maxRecDepth 20000 in
set_option maxHeartbeats 1000000 in
theorem w_X11_setFraction_65 {p : Program} {l : Launch} {e : Env} {s : State} {m : MethodId} {args : Array Value} {below : List Frame} {meth : Method} {c : Code} {D : va_G} {cy : Nat → ClassId} {b : Nat} (E : CX p m c cX11_setFraction 4 s args RX11 D cy LC) (hr : meth.sig.returnType = none) (hlk : meth.locks = false) {r : ST} {rec14 : Nat → Int32 → ST → Option (ST)} (hrec14 : ∀ (v0 : Nat) (v3 : Int32) (σ : ST) (H : Heap) (locs : List Loc) (ls : Array Slot), rec14 v0 v3 σ = some r → LC.1 v0 = 11 → PH D cy LC b σ s H locs → lv_has ls 4 [(0, .ref (b + v0)), (3, .int v3)] → W p l e (rmD 0) s m args below meth c H locs 0 0 (MQ below (QcP D cy LC b none r) args s 0 0 (inP LC b)) (F0 m 14 ls [])) {v0 : Nat} {v3 : Int32} {σ : ST} {H : Heap} {locs : List Loc} {ls : Array Slot} (hm : k_X11_setFraction_65 rec14 v0 v3 σ = some r) (hv0 : LC.1 v0 = 11) (hw : PH D cy LC b σ s H locs) (hl : lv_has ls 4 [(0, .ref (b + v0)), (3, .int v3)]) : W p l e (rmD 0) s m args below meth c H locs 0 0 (MQ below (QcP D cy LC b none r) args s 0 0 (inP LC b)) (F0 m 65 ls []) := by
  have hx := E.1.1
  have hb := E.1.2.1
  unfold k_X11_setFraction_65 at hm
  refine lv_iinc (v := v3 + (-1)) (lv' := [(3, .int (v3 + (-1))), (0, .ref (b + v0))]) hx hb dX11_setFraction_65 hl (k := 1) rfl rfl (by decide) rfl (fun ls hl => ?_)
  refine lv_goto (tgt := 14) hx hb dX11_setFraction_68 (by decide) ?_
  exact hrec14 _ _ _ _ _ _ hm hv0 hw (lv_sub hl [1, 0] rfl)
def k_X11_setFraction_14 : Nat → Nat → Int32 → ST → Option (ST)
  | 0, _, _, _ => none
  | n + 1, v0, v3, σ => if v3 ≤ 1 then (some σ) else ((rmL (gJ σ v0 15) ((v3).toInt64)).bind fun q2 =>
  if (lg_cmp q2 0) = 0 then ((rmL (gJ σ v0 16) ((v3).toInt64)).bind fun q4 =>
  if (lg_cmp q4 0) = 0 then ((dvL (gJ σ v0 15) ((v3).toInt64)).bind fun q6 =>
  (stJ σ v0 15 q6).bind fun σ7 =>
  (dvL (gJ σ7 v0 16) ((v3).toInt64)).bind fun q8 =>
  (stJ σ7 v0 16 q8).bind fun σ9 =>
  k_X11_setFraction_65 (k_X11_setFraction_14 n) v0 v3 σ9) else (k_X11_setFraction_65 (k_X11_setFraction_14 n) v0 v3 σ)) else (k_X11_setFraction_65 (k_X11_setFraction_14 n) v0 v3 σ))
set_option maxRecDepth 20000 in
set_option maxHeartbeats 1000000 in
theorem w_X11_setFraction_14 {p : Program} {l : Launch} {e : Env} {s : State} {m : MethodId} {args : Array Value} {below : List Frame} {meth : Method} {c : Code} {D : va_G} {cy : Nat → ClassId} {b : Nat} (E : CX p m c cX11_setFraction 4 s args RX11 D cy LC) (hr : meth.sig.returnType = none) (hlk : meth.locks = false) {r : ST} : ∀ (n : Nat) (v0 : Nat) (v3 : Int32) (σ : ST) (H : Heap) (locs : List Loc) (ls : Array Slot), k_X11_setFraction_14 n v0 v3 σ = some r → LC.1 v0 = 11 → PH D cy LC b σ s H locs → lv_has ls 4 [(0, .ref (b + v0)), (3, .int v3)] → W p l e (rmD 0) s m args below meth c H locs 0 0 (MQ below (QcP D cy LC b none r) args s 0 0 (inP LC b)) (F0 m 14 ls []) := by
  have hx := E.1.1
  have hb := E.1.2.1
  intro n
  induction n with
  | zero =>
    intro v0 v3 σ H locs ls hm
    cases hm
  | succ n ih =>
    intro v0 v3 σ H locs ls hm hv0 hw hl
    rw [k_X11_setFraction_14] at hm
    refine lv_iload_n hx hb dX11_setFraction_14 rfl (lv_at hl 1 rfl) ?_
    refine lv_iconst (v := 1) hx hb dX11_setFraction_15 (by decide) ?_
    refine lv_icmp_le (tgt := 71) hx hb dX11_setFraction_16 (by decide) (fun c1 => ?_) (fun c1 => ?_)
    · have hm := o_t c1 hm
      exact q_vret E hr hlk hw hm dX11_setFraction_71
    · have hm := o_f c1 hm
      refine lv_aload_n hx hb dX11_setFraction_19 rfl (lv_at hl 0 rfl) ?_
      refine q_getl E hw fw_X11_102 rfl hv0 dX11_setFraction_20 ?_
      refine lv_iload_n hx hb dX11_setFraction_23 rfl (lv_at hl 1 rfl) ?_
      refine lv_i2l hx hb dX11_setFraction_24 rfl ?_
      refine q_lrem E hm dX11_setFraction_25 (fun q2 hm => ?_)
      refine lv_lconst (v := 0) hx hb dX11_setFraction_26 (by decide) ?_
      refine W.lcmp hx hb dX11_setFraction_27 ?_
      refine lv_if_ne (tgt := 65) hx hb dX11_setFraction_28 (by decide) (fun c3 => ?_) (fun c3 => ?_)
      · have hm := o_f c3 hm
        exact w_X11_setFraction_65 E hr hlk ih hm hv0 hw (lv_sub hl [0, 1] rfl)
      · have hm := o_t c3 hm
        refine lv_aload_n hx hb dX11_setFraction_31 rfl (lv_at hl 0 rfl) ?_
        refine q_getl E hw fw_X11_106 rfl hv0 dX11_setFraction_32 ?_
        refine lv_iload_n hx hb dX11_setFraction_35 rfl (lv_at hl 1 rfl) ?_
        refine lv_i2l hx hb dX11_setFraction_36 rfl ?_
        refine q_lrem E hm dX11_setFraction_37 (fun q4 hm => ?_)
        refine lv_lconst (v := 0) hx hb dX11_setFraction_38 (by decide) ?_
        refine W.lcmp hx hb dX11_setFraction_39 ?_
        refine lv_if_ne (tgt := 65) hx hb dX11_setFraction_40 (by decide) (fun c5 => ?_) (fun c5 => ?_)
        · have hm := o_f c5 hm
          exact w_X11_setFraction_65 E hr hlk ih hm hv0 hw (lv_sub hl [0, 1] rfl)
        · have hm := o_t c5 hm
          refine lv_aload_n hx hb dX11_setFraction_43 rfl (lv_at hl 0 rfl) ?_
          refine lv_dup hx hb dX11_setFraction_44 rfl ?_
          refine q_getl E hw fw_X11_102 rfl hv0 dX11_setFraction_45 ?_
          refine lv_iload_n hx hb dX11_setFraction_48 rfl (lv_at hl 1 rfl) ?_
          refine lv_i2l hx hb dX11_setFraction_49 rfl ?_
          refine q_ldiv E hm dX11_setFraction_50 (fun q6 hm => ?_)
          refine q_pj E hw hm fw_X11_102 rfl rfl hv0 dX11_setFraction_51 (fun σ7 H locs hm hw => ?_)
          refine lv_aload_n hx hb dX11_setFraction_54 rfl (lv_at hl 0 rfl) ?_
          refine lv_dup hx hb dX11_setFraction_55 rfl ?_
          refine q_getl E hw fw_X11_106 rfl hv0 dX11_setFraction_56 ?_
          refine lv_iload_n hx hb dX11_setFraction_59 rfl (lv_at hl 1 rfl) ?_
          refine lv_i2l hx hb dX11_setFraction_60 rfl ?_
          refine q_ldiv E hm dX11_setFraction_61 (fun q8 hm => ?_)
          refine q_pj E hw hm fw_X11_106 rfl rfl hv0 dX11_setFraction_62 (fun σ9 H locs hm hw => ?_)
          exact w_X11_setFraction_65 E hr hlk ih hm hv0 hw (lv_sub hl [0, 1] rfl)
def f_X11_setFraction (v0 : Nat) (v1 : Int32) (v2 : Int32) (σ : ST) : Option (ST) :=
  (stJ σ v0 15 ((v1).toInt64)).bind fun σ10 =>
  (stJ σ10 v0 16 ((v2).toInt64)).bind fun σ11 =>
  k_X11_setFraction_14 FU v0 v2 σ11
set_option maxRecDepth 20000 in
set_option maxHeartbeats 1000000 in
theorem w_X11_setFraction_0 {p : Program} {l : Launch} {e : Env} {s : State} {m : MethodId} {args : Array Value} {below : List Frame} {meth : Method} {c : Code} {D : va_G} {cy : Nat → ClassId} {b : Nat} (E : CX p m c cX11_setFraction 4 s args RX11 D cy LC) (hr : meth.sig.returnType = none) (hlk : meth.locks = false) {r : ST} {v0 : Nat} {v1 : Int32} {v2 : Int32} {σ : ST} {H : Heap} {locs : List Loc} {ls : Array Slot} (hm : f_X11_setFraction v0 v1 v2 σ = some r) (hv0 : LC.1 v0 = 11) (hw : PH D cy LC b σ s H locs) (hl : lv_has ls 4 [(0, .ref (b + v0)), (1, .int v1), (2, .int v2)]) : W p l e (rmD 0) s m args below meth c H locs 0 0 (MQ below (QcP D cy LC b none r) args s 0 0 (inP LC b)) (F0 m 0 ls []) := by
  have hx := E.1.1
  have hb := E.1.2.1
  unfold f_X11_setFraction at hm
  refine lv_aload_n hx hb dX11_setFraction_0 rfl (lv_at hl 0 rfl) ?_
  refine lv_iload_n hx hb dX11_setFraction_1 rfl (lv_at hl 1 rfl) ?_
  refine lv_i2l hx hb dX11_setFraction_2 rfl ?_
  refine q_pj E hw hm fw_X11_102 rfl rfl hv0 dX11_setFraction_3 (fun σ10 H locs hm hw => ?_)
  refine lv_aload_n hx hb dX11_setFraction_6 rfl (lv_at hl 0 rfl) ?_
  refine lv_iload_n hx hb dX11_setFraction_7 rfl (lv_at hl 2 rfl) ?_
  refine lv_i2l hx hb dX11_setFraction_8 rfl ?_
  refine q_pj E hw hm fw_X11_106 rfl rfl hv0 dX11_setFraction_9 (fun σ11 H locs hm hw => ?_)
  refine lv_iload_n hx hb dX11_setFraction_12 rfl (lv_at hl 2 rfl) ?_
  refine lv_istore_n (lv' := [(3, .int v2), (0, .ref (b + v0)), (1, .int v1), (2, .int v2)]) hx hb dX11_setFraction_13 rfl hl (by decide) rfl (fun ls hl => ?_)
  exact w_X11_setFraction_14 E hr hlk _ _ _ _ _ _ _ hm hv0 hw (lv_sub hl [1, 0] rfl)
theorem c_X11_setFraction {l : Launch} {D : va_G} {cy : Nat → ClassId} {b : Nat} {v0 : Nat} {v1 : Int32} {v2 : Int32} {σ : ST} {r : ST} (hm : f_X11_setFraction v0 v1 v2 σ = some r) (hv0 : LC.1 v0 = 11) : Met l yX11_setFraction (wU yX11_setFraction cX11_setFraction 4 (none)) (rmD 0) (PcP D cy LC b [.ref (b + v0), .int v1, .int v2] σ) (QcP D cy LC b none r) 0 0 (inP LC b) :=
  q_met (lv := [(0, .ref (b + v0)), (1, .int v1), (2, .int v2)]) LC_ok (by decide) (Nat.le_of_ble_eq_true rfl) rfl (fun _ _ _ _ _ _ _ _ _ E hr hlk hw hl => w_X11_setFraction_0 E hr hlk hm hv0 hw hl)

def k_X11_odds_63 (v0 : Nat) (σ : ST) : Option (Int32 × ST) :=
  (f_X11_refused v0 7 σ).bind fun u1 =>
  (ckZ u1.1).bind fun z => some (z, u1.2)
set_option maxRecDepth 20000 in
set_option maxHeartbeats 1000000 in
theorem w_X11_odds_63 {p : Program} {l : Launch} {e : Env} {s : State} {m : MethodId} {args : Array Value} {below : List Frame} {meth : Method} {c : Code} {D : va_G} {cy : Nat → ClassId} {b : Nat} (E : CX p m c cX11_odds 4 s args RX11 D cy LC) (hr : meth.sig.returnType = some .boolean) (hlk : meth.locks = false) {r : Int32 × ST} {v0 : Nat} {σ : ST} {H : Heap} {locs : List Loc} {ls : Array Slot} (hm : k_X11_odds_63 v0 σ = some r) (hv0 : LC.1 v0 = 11) (hw : PH D cy LC b σ s H locs) (hl : lv_has ls 4 [(0, .ref (b + v0))]) : W p l e (rmD 5) s m args below meth c H locs 0 0 (MQ below (QcP D cy LC b (some (.int r.1)) r.2) args s 0 0 (inP LC b)) (F0 m 63 ls []) := by
  have hx := E.1.1
  have hb := E.1.2.1
  unfold k_X11_odds_63 at hm
  refine lv_aload_n hx hb dX11_odds_63 rfl (lv_at hl 0 rfl) ?_
  refine lv_bipush (v := 7) hx hb dX11_odds_64 (by decide) ?_
  refine q_cVi (κ := 11) (C := RX11) (T := TX11) (N := 20) [] E hw hm mw_X11_123 (fun u hu => c_X11_refused hu hv0) rfl (by decide) hv0 rfl rfl hl.1 (Nat.le_of_ble_eq_true rfl) ⟨Nat.le_of_ble_eq_true rfl, Nat.le_of_ble_eq_true rfl⟩ dX11_odds_66 (fun u1 H locs hm hw => ?_)
  exact q_zret E hr hlk hw hm dX11_odds_69
def k_X11_odds_27 (v0 : Nat) (σ : ST) : Option (Int32 × ST) :=
  (f_X11_refused v0 1 σ).bind fun u2 =>
  (ckZ u2.1).bind fun z => some (z, u2.2)
set_option maxRecDepth 20000 in
set_option maxHeartbeats 1000000 in
theorem w_X11_odds_27 {p : Program} {l : Launch} {e : Env} {s : State} {m : MethodId} {args : Array Value} {below : List Frame} {meth : Method} {c : Code} {D : va_G} {cy : Nat → ClassId} {b : Nat} (E : CX p m c cX11_odds 4 s args RX11 D cy LC) (hr : meth.sig.returnType = some .boolean) (hlk : meth.locks = false) {r : Int32 × ST} {v0 : Nat} {σ : ST} {H : Heap} {locs : List Loc} {ls : Array Slot} (hm : k_X11_odds_27 v0 σ = some r) (hv0 : LC.1 v0 = 11) (hw : PH D cy LC b σ s H locs) (hl : lv_has ls 4 [(0, .ref (b + v0))]) : W p l e (rmD 5) s m args below meth c H locs 0 0 (MQ below (QcP D cy LC b (some (.int r.1)) r.2) args s 0 0 (inP LC b)) (F0 m 27 ls []) := by
  have hx := E.1.1
  have hb := E.1.2.1
  unfold k_X11_odds_27 at hm
  refine lv_aload_n hx hb dX11_odds_27 rfl (lv_at hl 0 rfl) ?_
  refine lv_iconst (v := 1) hx hb dX11_odds_28 (by decide) ?_
  refine q_cVi (κ := 11) (C := RX11) (T := TX11) (N := 20) [] E hw hm mw_X11_123 (fun u hu => c_X11_refused hu hv0) rfl (by decide) hv0 rfl rfl hl.1 (Nat.le_of_ble_eq_true rfl) ⟨Nat.le_of_ble_eq_true rfl, Nat.le_of_ble_eq_true rfl⟩ dX11_odds_29 (fun u2 H locs hm hw => ?_)
  exact q_zret E hr hlk hw hm dX11_odds_32
def f_X11_odds (v0 : Nat) (v1 : Int32) (v2 : Int32) (v3 : Int32) (σ : ST) : Option (Int32 × ST) :=
  (f_X11_isKey v0 v1 σ).bind fun u3 =>
  if u3.1 = 0 then (k_X11_odds_27 v0 u3.2) else ((f_X11_isKeeper v0 v2 u3.2).bind fun u5 =>
  if u5.1 = 0 then (k_X11_odds_27 v0 u5.2) else (if v3 < 0 then (k_X11_odds_27 v0 u5.2) else (if v3 ≤ 1000 then ((f_X7_isSum (LC.2.1 (LC.2.1 v0 2) 0) v1 u5.2).bind fun u9 =>
  if u9.1 = 0 then ((f_X1_fill (LC.2.1 v0 9) (LC.2.1 v0 2) v1 v2 u9.2).bind fun u11 =>
  if u11.1 = 0 then (k_X11_odds_63 v0 u11.2) else ((f_X1_rowsWith (LC.2.1 v0 9) v3 u11.2).bind fun u13 =>
  (f_X11_setFraction v0 u13.1 (gI u13.2 (LC.2.1 v0 9) 3) u13.2).bind fun u14 =>
  (f_X11_allowed v0 u14).bind fun u15 =>
  (ckZ u15.1).bind fun z => some (z, u15.2))) else (k_X11_odds_63 v0 u9.2)) else (k_X11_odds_27 v0 u5.2))))
set_option maxRecDepth 20000 in
set_option maxHeartbeats 1000000 in
theorem w_X11_odds_0 {p : Program} {l : Launch} {e : Env} {s : State} {m : MethodId} {args : Array Value} {below : List Frame} {meth : Method} {c : Code} {D : va_G} {cy : Nat → ClassId} {b : Nat} (E : CX p m c cX11_odds 4 s args RX11 D cy LC) (hr : meth.sig.returnType = some .boolean) (hlk : meth.locks = false) {r : Int32 × ST} {v0 : Nat} {v1 : Int32} {v2 : Int32} {v3 : Int32} {σ : ST} {H : Heap} {locs : List Loc} {ls : Array Slot} (hm : f_X11_odds v0 v1 v2 v3 σ = some r) (hv0 : LC.1 v0 = 11) (hw : PH D cy LC b σ s H locs) (hl : lv_has ls 4 [(0, .ref (b + v0)), (1, .int v1), (2, .int v2), (3, .int v3)]) : W p l e (rmD 5) s m args below meth c H locs 0 0 (MQ below (QcP D cy LC b (some (.int r.1)) r.2) args s 0 0 (inP LC b)) (F0 m 0 ls []) := by
  have hx := E.1.1
  have hb := E.1.2.1
  unfold f_X11_odds at hm
  refine lv_aload_n hx hb dX11_odds_0 rfl (lv_at hl 0 rfl) ?_
  refine lv_iload_n hx hb dX11_odds_1 rfl (lv_at hl 1 rfl) ?_
  refine q_cVi (κ := 11) (C := RX11) (T := TX11) (N := 20) [] E hw hm mw_X11_232 (fun u hu => c_X11_isKey hu hv0) rfl (by decide) hv0 rfl rfl hl.1 (Nat.le_of_ble_eq_true rfl) ⟨Nat.le_of_ble_eq_true rfl, Nat.le_of_ble_eq_true rfl⟩ dX11_odds_2 (fun u3 H locs hm hw => ?_)
  refine lv_if_eq (tgt := 27) hx hb dX11_odds_5 (by decide) (fun c4 => ?_) (fun c4 => ?_)
  · have hm := o_t c4 hm
    exact w_X11_odds_27 E hr hlk hm hv0 hw (lv_sub hl [0] rfl)
  · have hm := o_f c4 hm
    refine lv_aload_n hx hb dX11_odds_8 rfl (lv_at hl 0 rfl) ?_
    refine lv_iload_n hx hb dX11_odds_9 rfl (lv_at hl 2 rfl) ?_
    refine q_cVi (κ := 11) (C := RX11) (T := TX11) (N := 20) [] E hw hm mw_X11_241 (fun u hu => c_X11_isKeeper hu hv0) rfl (by decide) hv0 rfl rfl hl.1 (Nat.le_of_ble_eq_true rfl) ⟨Nat.le_of_ble_eq_true rfl, Nat.le_of_ble_eq_true rfl⟩ dX11_odds_10 (fun u5 H locs hm hw => ?_)
    refine lv_if_eq (tgt := 27) hx hb dX11_odds_13 (by decide) (fun c6 => ?_) (fun c6 => ?_)
    · have hm := o_t c6 hm
      exact w_X11_odds_27 E hr hlk hm hv0 hw (lv_sub hl [0] rfl)
    · have hm := o_f c6 hm
      refine lv_iload_n hx hb dX11_odds_16 rfl (lv_at hl 3 rfl) ?_
      refine lv_if_lt (tgt := 27) hx hb dX11_odds_17 (by decide) (fun c7 => ?_) (fun c7 => ?_)
      · have hm := o_t c7 hm
        exact w_X11_odds_27 E hr hlk hm hv0 hw (lv_sub hl [0] rfl)
      · have hm := o_f c7 hm
        refine lv_iload_n hx hb dX11_odds_20 rfl (lv_at hl 3 rfl) ?_
        refine lv_sipush (v := 1000) hx hb dX11_odds_21 (by decide) ?_
        refine lv_icmp_le (tgt := 33) hx hb dX11_odds_24 (by decide) (fun c8 => ?_) (fun c8 => ?_)
        · have hm := o_t c8 hm
          refine lv_aload_n hx hb dX11_odds_33 rfl (lv_at hl 0 rfl) ?_
          refine q_geta E hw fw_X11_25 rfl hv0 dX11_odds_34 ?_
          refine q_geta E hw fw_X11_40 rfl (tC_11_2 hv0) dX11_odds_37 ?_
          refine lv_iload_n hx hb dX11_odds_40 rfl (lv_at hl 1 rfl) ?_
          refine q_cVi (κ := 7) (C := RX7) (T := TX7) (N := 12) [] E hw hm mw_X11_274 (fun u hu => c_X7_isSum hu (tC_10_0 (tC_11_2 hv0))) rfl (by decide) (tC_10_0 (tC_11_2 hv0)) rfl rfl hl.1 (Nat.le_of_ble_eq_true rfl) ⟨Nat.le_of_ble_eq_true rfl, Nat.le_of_ble_eq_true rfl⟩ dX11_odds_41 (fun u9 H locs hm hw => ?_)
          refine lv_if_ne (tgt := 63) hx hb dX11_odds_44 (by decide) (fun c10 => ?_) (fun c10 => ?_)
          · have hm := o_f c10 hm
            exact w_X11_odds_63 E hr hlk hm hv0 hw (lv_sub hl [0] rfl)
          · have hm := o_t c10 hm
            refine lv_aload_n hx hb dX11_odds_47 rfl (lv_at hl 0 rfl) ?_
            refine q_geta E hw fw_X11_71 rfl hv0 dX11_odds_48 ?_
            refine lv_aload_n hx hb dX11_odds_51 rfl (lv_at hl 0 rfl) ?_
            refine q_geta E hw fw_X11_25 rfl hv0 dX11_odds_52 ?_
            refine lv_iload_n hx hb dX11_odds_55 rfl (lv_at hl 1 rfl) ?_
            refine lv_iload_n hx hb dX11_odds_56 rfl (lv_at hl 2 rfl) ?_
            refine q_cVi (κ := 1) (C := RX1) (T := TX1) (N := 4) [] E hw hm mw_X11_382 (fun u hu => c_X1_fill hu (tC_11_9 hv0) (tC_11_2 hv0)) rfl (by decide) (tC_11_9 hv0) rfl rfl hl.1 (Nat.le_of_ble_eq_true rfl) ⟨Nat.le_of_ble_eq_true rfl, Nat.le_of_ble_eq_true rfl⟩ dX11_odds_57 (fun u11 H locs hm hw => ?_)
            refine lv_if_ne (tgt := 70) hx hb dX11_odds_60 (by decide) (fun c12 => ?_) (fun c12 => ?_)
            · have hm := o_f c12 hm
              refine lv_aload_n hx hb dX11_odds_70 rfl (lv_at hl 0 rfl) ?_
              refine lv_aload_n hx hb dX11_odds_71 rfl (lv_at hl 0 rfl) ?_
              refine q_geta E hw fw_X11_71 rfl hv0 dX11_odds_72 ?_
              refine lv_iload_n hx hb dX11_odds_75 rfl (lv_at hl 3 rfl) ?_
              refine q_cVi (κ := 1) (C := RX1) (T := TX1) (N := 4) [.ref (b + v0)] E hw hm mw_X11_389 (fun u hu => c_X1_rowsWith hu (tC_11_9 hv0)) rfl (by decide) (tC_11_9 hv0) rfl rfl hl.1 (Nat.le_of_ble_eq_true rfl) ⟨Nat.le_of_ble_eq_true rfl, Nat.le_of_ble_eq_true rfl⟩ dX11_odds_76 (fun u13 H locs hm hw => ?_)
              refine lv_aload_n hx hb dX11_odds_79 rfl (lv_at hl 0 rfl) ?_
              refine q_geta E hw fw_X11_71 rfl hv0 dX11_odds_80 ?_
              refine q_geti E hw fw_X11_392 rfl (tC_11_9 hv0) dX11_odds_83 ?_
              refine q_cVv (κ := 11) (C := RX11) (T := TX11) (N := 20) [] E hw hm mw_X11_393 (fun u hu => c_X11_setFraction hu hv0) rfl (by decide) hv0 rfl rfl hl.1 (Nat.le_of_ble_eq_true rfl) ⟨Nat.le_of_ble_eq_true rfl, Nat.le_of_ble_eq_true rfl⟩ dX11_odds_86 (fun u14 H locs hm hw => ?_)
              refine lv_aload_n hx hb dX11_odds_89 rfl (lv_at hl 0 rfl) ?_
              refine q_cVi (κ := 11) (C := RX11) (T := TX11) (N := 20) [] E hw hm mw_X11_130 (fun u hu => c_X11_allowed hu hv0) rfl (by decide) hv0 rfl rfl hl.1 (Nat.le_of_ble_eq_true rfl) ⟨Nat.le_of_ble_eq_true rfl, Nat.le_of_ble_eq_true rfl⟩ dX11_odds_90 (fun u15 H locs hm hw => ?_)
              exact q_zret E hr hlk hw hm dX11_odds_93
            · have hm := o_t c12 hm
              exact w_X11_odds_63 E hr hlk hm hv0 hw (lv_sub hl [0] rfl)
        · have hm := o_f c8 hm
          exact w_X11_odds_27 E hr hlk hm hv0 hw (lv_sub hl [0] rfl)
theorem c_X11_odds {l : Launch} {D : va_G} {cy : Nat → ClassId} {b : Nat} {v0 : Nat} {v1 : Int32} {v2 : Int32} {v3 : Int32} {σ : ST} {r : Int32 × ST} (hm : f_X11_odds v0 v1 v2 v3 σ = some r) (hv0 : LC.1 v0 = 11) : Met l yX11_odds (wU yX11_odds cX11_odds 4 (some .boolean)) (rmD 5) (PcP D cy LC b [.ref (b + v0), .int v1, .int v2, .int v3] σ) (QcP D cy LC b (some (.int r.1)) r.2) 0 0 (inP LC b) :=
  q_met (lv := [(0, .ref (b + v0)), (1, .int v1), (2, .int v2), (3, .int v3)]) LC_ok (by decide) (Nat.le_of_ble_eq_true rfl) rfl (fun _ _ _ _ _ _ _ _ _ E hr hlk hw hl => w_X11_odds_0 E hr hlk hm hv0 hw hl)

def k_X11_fewestFalls_118 (s0 : Int32) (σ : ST) : Option (Int32 × ST) :=
  some (s0, σ)
set_option maxRecDepth 20000 in
set_option maxHeartbeats 1000000 in
theorem w_X11_fewestFalls_118 {p : Program} {l : Launch} {e : Env} {s : State} {m : MethodId} {args : Array Value} {below : List Frame} {meth : Method} {c : Code} {D : va_G} {cy : Nat → ClassId} {b : Nat} (E : CX p m c cX11_fewestFalls 6 s args RX11 D cy LC) (hr : meth.sig.returnType = some .int) (hlk : meth.locks = false) {r : Int32 × ST} {s0 : Int32} {σ : ST} {H : Heap} {locs : List Loc} {ls : Array Slot} (hm : k_X11_fewestFalls_118 s0 σ = some r) (hw : PH D cy LC b σ s H locs) (hl : lv_has ls 6 []) : W p l e (rmD 3) s m args below meth c H locs 0 0 (MQ below (QcP D cy LC b (some (.int r.1)) r.2) args s 0 0 (inP LC b)) (F0 m 118 ls [.int s0]) := by
  have hx := E.1.1
  have hb := E.1.2.1
  unfold k_X11_fewestFalls_118 at hm
  exact q_iret E hr hlk hw hm dX11_fewestFalls_118
def k_X11_fewestFalls_94 (v0 : Nat) (v4 : Int32) (s0 : Int32) (σ : ST) : Option (Int32 × ST) :=
  if v4 ≤ s0 then ((f_X11_answer v0 v4 σ).bind fun u2 =>
  k_X11_fewestFalls_118 u2.1 u2.2) else ((f_X11_refuse v0 6 σ).bind fun u3 =>
  k_X11_fewestFalls_118 u3.1 u3.2)
set_option maxRecDepth 20000 in
set_option maxHeartbeats 1000000 in
theorem w_X11_fewestFalls_94 {p : Program} {l : Launch} {e : Env} {s : State} {m : MethodId} {args : Array Value} {below : List Frame} {meth : Method} {c : Code} {D : va_G} {cy : Nat → ClassId} {b : Nat} (E : CX p m c cX11_fewestFalls 6 s args RX11 D cy LC) (hr : meth.sig.returnType = some .int) (hlk : meth.locks = false) {r : Int32 × ST} {v0 : Nat} {v4 : Int32} {s0 : Int32} {σ : ST} {H : Heap} {locs : List Loc} {ls : Array Slot} (hm : k_X11_fewestFalls_94 v0 v4 s0 σ = some r) (hv0 : LC.1 v0 = 11) (hw : PH D cy LC b σ s H locs) (hl : lv_has ls 6 [(0, .ref (b + v0)), (4, .int v4)]) : W p l e (rmD 3) s m args below meth c H locs 0 0 (MQ below (QcP D cy LC b (some (.int r.1)) r.2) args s 0 0 (inP LC b)) (F0 m 94 ls [.int s0]) := by
  have hx := E.1.1
  have hb := E.1.2.1
  unfold k_X11_fewestFalls_94 at hm
  refine lv_istore (lv' := [(5, .int s0), (0, .ref (b + v0)), (4, .int v4)]) hx hb dX11_fewestFalls_94 hl (by decide) rfl (fun ls hl => ?_)
  refine lv_iload hx hb dX11_fewestFalls_96 (lv_at hl 2 rfl) ?_
  refine lv_iload hx hb dX11_fewestFalls_98 (lv_at hl 0 rfl) ?_
  refine lv_icmp_le (tgt := 112) hx hb dX11_fewestFalls_100 (by decide) (fun c1 => ?_) (fun c1 => ?_)
  · have hm := o_t c1 hm
    refine lv_aload_n hx hb dX11_fewestFalls_112 rfl (lv_at hl 1 rfl) ?_
    refine lv_iload hx hb dX11_fewestFalls_113 (lv_at hl 2 rfl) ?_
    refine q_cVi (κ := 11) (C := RX11) (T := TX11) (N := 20) [] E hw hm mw_X11_187 (fun u hu => c_X11_answer hu hv0) rfl (by decide) hv0 rfl rfl hl.1 (Nat.le_of_ble_eq_true rfl) ⟨Nat.le_of_ble_eq_true rfl, Nat.le_of_ble_eq_true rfl⟩ dX11_fewestFalls_115 (fun u2 H locs hm hw => ?_)
    exact w_X11_fewestFalls_118 E hr hlk hm  hw (lv_sub hl [] rfl)
  · have hm := o_f c1 hm
    refine lv_aload_n hx hb dX11_fewestFalls_103 rfl (lv_at hl 1 rfl) ?_
    refine lv_bipush (v := 6) hx hb dX11_fewestFalls_104 (by decide) ?_
    refine q_cVi (κ := 11) (C := RX11) (T := TX11) (N := 20) [] E hw hm mw_X11_142 (fun u hu => c_X11_refuse hu hv0) rfl (by decide) hv0 rfl rfl hl.1 (Nat.le_of_ble_eq_true rfl) ⟨Nat.le_of_ble_eq_true rfl, Nat.le_of_ble_eq_true rfl⟩ dX11_fewestFalls_106 (fun u3 H locs hm hw => ?_)
    refine lv_goto (tgt := 118) hx hb dX11_fewestFalls_109 (by decide) ?_
    exact w_X11_fewestFalls_118 E hr hlk hm  hw (lv_sub hl [] rfl)
def k_X11_fewestFalls_16 (v0 : Nat) (σ : ST) : Option (Int32 × ST) :=
  (f_X11_refuse v0 1 σ).bind fun u4 =>
  some (u4.1, u4.2)
set_option maxRecDepth 20000 in
set_option maxHeartbeats 1000000 in
theorem w_X11_fewestFalls_16 {p : Program} {l : Launch} {e : Env} {s : State} {m : MethodId} {args : Array Value} {below : List Frame} {meth : Method} {c : Code} {D : va_G} {cy : Nat → ClassId} {b : Nat} (E : CX p m c cX11_fewestFalls 6 s args RX11 D cy LC) (hr : meth.sig.returnType = some .int) (hlk : meth.locks = false) {r : Int32 × ST} {v0 : Nat} {σ : ST} {H : Heap} {locs : List Loc} {ls : Array Slot} (hm : k_X11_fewestFalls_16 v0 σ = some r) (hv0 : LC.1 v0 = 11) (hw : PH D cy LC b σ s H locs) (hl : lv_has ls 6 [(0, .ref (b + v0))]) : W p l e (rmD 3) s m args below meth c H locs 0 0 (MQ below (QcP D cy LC b (some (.int r.1)) r.2) args s 0 0 (inP LC b)) (F0 m 16 ls []) := by
  have hx := E.1.1
  have hb := E.1.2.1
  unfold k_X11_fewestFalls_16 at hm
  refine lv_aload_n hx hb dX11_fewestFalls_16 rfl (lv_at hl 0 rfl) ?_
  refine lv_iconst (v := 1) hx hb dX11_fewestFalls_17 (by decide) ?_
  refine q_cVi (κ := 11) (C := RX11) (T := TX11) (N := 20) [] E hw hm mw_X11_142 (fun u hu => c_X11_refuse hu hv0) rfl (by decide) hv0 rfl rfl hl.1 (Nat.le_of_ble_eq_true rfl) ⟨Nat.le_of_ble_eq_true rfl, Nat.le_of_ble_eq_true rfl⟩ dX11_fewestFalls_18 (fun u4 H locs hm hw => ?_)
  exact q_iret E hr hlk hw hm dX11_fewestFalls_21
def f_X11_fewestFalls (v0 : Nat) (v1 : Int32) (v2 : Int32) (σ : ST) : Option (Int32 × ST) :=
  (f_X11_isKey v0 v1 σ).bind fun u5 =>
  if u5.1 = 0 then (k_X11_fewestFalls_16 v0 u5.2) else ((f_X11_isKeeper v0 v2 u5.2).bind fun u7 =>
  if u7.1 = 0 then (k_X11_fewestFalls_16 v0 u7.2) else ((f_X10_placesReached (LC.2.1 v0 2) v1 v2 u7.2).bind fun u9 =>
  (f_J6_bitCount_0f7a4 u9.1 u9.2).bind fun u10 =>
  if (gI u10.2 (LC.2.1 (LC.2.1 v0 2) 0) 10) ≤ u10.1 then ((f_X7_isPlace (LC.2.1 (LC.2.1 v0 2) 0) v1 v2 u10.2).bind fun u12 =>
  if u12.1 = 0 then (k_X11_fewestFalls_94 v0 ((u10.1 - (gI u10.2 (LC.2.1 (LC.2.1 v0 2) 0) 10)) + 1) u10.1 u12.2) else (k_X11_fewestFalls_94 v0 ((u10.1 - (gI u10.2 (LC.2.1 (LC.2.1 v0 2) 0) 10)) + 1) (u10.1 - 1) u12.2)) else ((f_X11_refuse v0 7 u10.2).bind fun u14 =>
  some (u14.1, u14.2))))
set_option maxRecDepth 20000 in
set_option maxHeartbeats 1000000 in
theorem w_X11_fewestFalls_0 {p : Program} {l : Launch} {e : Env} {s : State} {m : MethodId} {args : Array Value} {below : List Frame} {meth : Method} {c : Code} {D : va_G} {cy : Nat → ClassId} {b : Nat} (E : CX p m c cX11_fewestFalls 6 s args RX11 D cy LC) (hr : meth.sig.returnType = some .int) (hlk : meth.locks = false) {r : Int32 × ST} {v0 : Nat} {v1 : Int32} {v2 : Int32} {σ : ST} {H : Heap} {locs : List Loc} {ls : Array Slot} (hm : f_X11_fewestFalls v0 v1 v2 σ = some r) (hv0 : LC.1 v0 = 11) (hw : PH D cy LC b σ s H locs) (hl : lv_has ls 6 [(0, .ref (b + v0)), (1, .int v1), (2, .int v2)]) : W p l e (rmD 3) s m args below meth c H locs 0 0 (MQ below (QcP D cy LC b (some (.int r.1)) r.2) args s 0 0 (inP LC b)) (F0 m 0 ls []) := by
  have hx := E.1.1
  have hb := E.1.2.1
  unfold f_X11_fewestFalls at hm
  refine lv_aload_n hx hb dX11_fewestFalls_0 rfl (lv_at hl 0 rfl) ?_
  refine lv_iload_n hx hb dX11_fewestFalls_1 rfl (lv_at hl 1 rfl) ?_
  refine q_cVi (κ := 11) (C := RX11) (T := TX11) (N := 20) [] E hw hm mw_X11_232 (fun u hu => c_X11_isKey hu hv0) rfl (by decide) hv0 rfl rfl hl.1 (Nat.le_of_ble_eq_true rfl) ⟨Nat.le_of_ble_eq_true rfl, Nat.le_of_ble_eq_true rfl⟩ dX11_fewestFalls_2 (fun u5 H locs hm hw => ?_)
  refine lv_if_eq (tgt := 16) hx hb dX11_fewestFalls_5 (by decide) (fun c6 => ?_) (fun c6 => ?_)
  · have hm := o_t c6 hm
    exact w_X11_fewestFalls_16 E hr hlk hm hv0 hw (lv_sub hl [0] rfl)
  · have hm := o_f c6 hm
    refine lv_aload_n hx hb dX11_fewestFalls_8 rfl (lv_at hl 0 rfl) ?_
    refine lv_iload_n hx hb dX11_fewestFalls_9 rfl (lv_at hl 2 rfl) ?_
    refine q_cVi (κ := 11) (C := RX11) (T := TX11) (N := 20) [] E hw hm mw_X11_241 (fun u hu => c_X11_isKeeper hu hv0) rfl (by decide) hv0 rfl rfl hl.1 (Nat.le_of_ble_eq_true rfl) ⟨Nat.le_of_ble_eq_true rfl, Nat.le_of_ble_eq_true rfl⟩ dX11_fewestFalls_10 (fun u7 H locs hm hw => ?_)
    refine lv_if_ne (tgt := 22) hx hb dX11_fewestFalls_13 (by decide) (fun c8 => ?_) (fun c8 => ?_)
    · have hm := o_f c8 hm
      refine lv_aload_n hx hb dX11_fewestFalls_22 rfl (lv_at hl 0 rfl) ?_
      refine q_geta E hw fw_X11_25 rfl hv0 dX11_fewestFalls_23 ?_
      refine lv_iload_n hx hb dX11_fewestFalls_26 rfl (lv_at hl 1 rfl) ?_
      refine lv_iload_n hx hb dX11_fewestFalls_27 rfl (lv_at hl 2 rfl) ?_
      refine q_cVi (κ := 10) (C := RX10) (T := TX10) (N := 12) [] E hw hm mw_X11_396 (fun u hu => c_X10_placesReached hu (tC_11_2 hv0)) rfl (by decide) (tC_11_2 hv0) rfl rfl hl.1 (Nat.le_of_ble_eq_true rfl) ⟨Nat.le_of_ble_eq_true rfl, Nat.le_of_ble_eq_true rfl⟩ dX11_fewestFalls_28 (fun u9 H locs hm hw => ?_)
      refine q_cSi [] E hw hm ms_X11_373 (fun u hu => c_J6_bitCount_0f7a4 hu ) rfl rfl hl.1 (Nat.le_of_ble_eq_true rfl) ⟨Nat.le_of_ble_eq_true rfl, Nat.le_of_ble_eq_true rfl⟩ dX11_fewestFalls_31 (fun u10 H locs hm hw => ?_)
      refine lv_istore_n (lv' := [(3, .int u10.1), (0, .ref (b + v0)), (1, .int v1), (2, .int v2)]) hx hb dX11_fewestFalls_34 rfl hl (by decide) rfl (fun ls hl => ?_)
      refine lv_iload_n hx hb dX11_fewestFalls_35 rfl (lv_at hl 0 rfl) ?_
      refine lv_aload_n hx hb dX11_fewestFalls_36 rfl (lv_at hl 1 rfl) ?_
      refine q_geta E hw fw_X11_25 rfl hv0 dX11_fewestFalls_37 ?_
      refine q_geta E hw fw_X11_40 rfl (tC_11_2 hv0) dX11_fewestFalls_40 ?_
      refine q_geti E hw fw_X11_214 rfl (tC_10_0 (tC_11_2 hv0)) dX11_fewestFalls_43 ?_
      refine lv_icmp_ge (tgt := 56) hx hb dX11_fewestFalls_46 (by decide) (fun c11 => ?_) (fun c11 => ?_)
      · have hm := o_t c11 hm
        refine lv_iload_n hx hb dX11_fewestFalls_56 rfl (lv_at hl 0 rfl) ?_
        refine lv_aload_n hx hb dX11_fewestFalls_57 rfl (lv_at hl 1 rfl) ?_
        refine q_geta E hw fw_X11_25 rfl hv0 dX11_fewestFalls_58 ?_
        refine q_geta E hw fw_X11_40 rfl (tC_11_2 hv0) dX11_fewestFalls_61 ?_
        refine q_geti E hw fw_X11_214 rfl (tC_10_0 (tC_11_2 hv0)) dX11_fewestFalls_64 ?_
        refine lv_isub hx hb dX11_fewestFalls_67 ?_
        refine lv_iconst (v := 1) hx hb dX11_fewestFalls_68 (by decide) ?_
        refine lv_iadd hx hb dX11_fewestFalls_69 ?_
        refine lv_istore (lv' := [(4, .int ((u10.1 - (gI u10.2 (LC.2.1 (LC.2.1 v0 2) 0) 10)) + 1)), (3, .int u10.1), (0, .ref (b + v0)), (1, .int v1), (2, .int v2)]) hx hb dX11_fewestFalls_70 hl (by decide) rfl (fun ls hl => ?_)
        refine lv_aload_n hx hb dX11_fewestFalls_72 rfl (lv_at hl 2 rfl) ?_
        refine q_geta E hw fw_X11_25 rfl hv0 dX11_fewestFalls_73 ?_
        refine q_geta E hw fw_X11_40 rfl (tC_11_2 hv0) dX11_fewestFalls_76 ?_
        refine lv_iload_n hx hb dX11_fewestFalls_79 rfl (lv_at hl 3 rfl) ?_
        refine lv_iload_n hx hb dX11_fewestFalls_80 rfl (lv_at hl 4 rfl) ?_
        refine q_cVi (κ := 7) (C := RX7) (T := TX7) (N := 12) [] E hw hm mw_X11_353 (fun u hu => c_X7_isPlace hu (tC_10_0 (tC_11_2 hv0))) rfl (by decide) (tC_10_0 (tC_11_2 hv0)) rfl rfl hl.1 (Nat.le_of_ble_eq_true rfl) ⟨Nat.le_of_ble_eq_true rfl, Nat.le_of_ble_eq_true rfl⟩ dX11_fewestFalls_81 (fun u12 H locs hm hw => ?_)
        refine lv_if_eq (tgt := 93) hx hb dX11_fewestFalls_84 (by decide) (fun c13 => ?_) (fun c13 => ?_)
        · have hm := o_t c13 hm
          refine lv_iload_n hx hb dX11_fewestFalls_93 rfl (lv_at hl 1 rfl) ?_
          exact w_X11_fewestFalls_94 E hr hlk hm hv0 hw (lv_sub hl [2, 0] rfl)
        · have hm := o_f c13 hm
          refine lv_iload_n hx hb dX11_fewestFalls_87 rfl (lv_at hl 1 rfl) ?_
          refine lv_iconst (v := 1) hx hb dX11_fewestFalls_88 (by decide) ?_
          refine lv_isub hx hb dX11_fewestFalls_89 ?_
          refine lv_goto (tgt := 94) hx hb dX11_fewestFalls_90 (by decide) ?_
          exact w_X11_fewestFalls_94 E hr hlk hm hv0 hw (lv_sub hl [2, 0] rfl)
      · have hm := o_f c11 hm
        refine lv_aload_n hx hb dX11_fewestFalls_49 rfl (lv_at hl 1 rfl) ?_
        refine lv_bipush (v := 7) hx hb dX11_fewestFalls_50 (by decide) ?_
        refine q_cVi (κ := 11) (C := RX11) (T := TX11) (N := 20) [] E hw hm mw_X11_142 (fun u hu => c_X11_refuse hu hv0) rfl (by decide) hv0 rfl rfl hl.1 (Nat.le_of_ble_eq_true rfl) ⟨Nat.le_of_ble_eq_true rfl, Nat.le_of_ble_eq_true rfl⟩ dX11_fewestFalls_52 (fun u14 H locs hm hw => ?_)
        exact q_iret E hr hlk hw hm dX11_fewestFalls_55
    · have hm := o_t c8 hm
      exact w_X11_fewestFalls_16 E hr hlk hm hv0 hw (lv_sub hl [0] rfl)
theorem c_X11_fewestFalls {l : Launch} {D : va_G} {cy : Nat → ClassId} {b : Nat} {v0 : Nat} {v1 : Int32} {v2 : Int32} {σ : ST} {r : Int32 × ST} (hm : f_X11_fewestFalls v0 v1 v2 σ = some r) (hv0 : LC.1 v0 = 11) : Met l yX11_fewestFalls (wU yX11_fewestFalls cX11_fewestFalls 6 (some .int)) (rmD 3) (PcP D cy LC b [.ref (b + v0), .int v1, .int v2] σ) (QcP D cy LC b (some (.int r.1)) r.2) 0 0 (inP LC b) :=
  q_met (lv := [(0, .ref (b + v0)), (1, .int v1), (2, .int v2)]) LC_ok (by decide) (Nat.le_of_ble_eq_true rfl) rfl (fun _ _ _ _ _ _ _ _ _ E hr hlk hw hl => w_X11_fewestFalls_0 E hr hlk hm hv0 hw hl)

def k_X11_live_11 (v0 : Nat) (σ : ST) : Option (Int32 × ST) :=
  (f_X11_refuse v0 1 σ).bind fun u1 =>
  some (u1.1, u1.2)
set_option maxRecDepth 20000 in
set_option maxHeartbeats 1000000 in
theorem w_X11_live_11 {p : Program} {l : Launch} {e : Env} {s : State} {m : MethodId} {args : Array Value} {below : List Frame} {meth : Method} {c : Code} {D : va_G} {cy : Nat → ClassId} {b : Nat} (E : CX p m c cX11_live 2 s args RX11 D cy LC) (hr : meth.sig.returnType = some .int) (hlk : meth.locks = false) {r : Int32 × ST} {v0 : Nat} {σ : ST} {H : Heap} {locs : List Loc} {ls : Array Slot} (hm : k_X11_live_11 v0 σ = some r) (hv0 : LC.1 v0 = 11) (hw : PH D cy LC b σ s H locs) (hl : lv_has ls 2 [(0, .ref (b + v0))]) : W p l e (rmD 8) s m args below meth c H locs 0 0 (MQ below (QcP D cy LC b (some (.int r.1)) r.2) args s 0 0 (inP LC b)) (F0 m 11 ls []) := by
  have hx := E.1.1
  have hb := E.1.2.1
  unfold k_X11_live_11 at hm
  refine lv_aload_n hx hb dX11_live_11 rfl (lv_at hl 0 rfl) ?_
  refine lv_iconst (v := 1) hx hb dX11_live_12 (by decide) ?_
  refine q_cVi (κ := 11) (C := RX11) (T := TX11) (N := 20) [] E hw hm mw_X11_142 (fun u hu => c_X11_refuse hu hv0) rfl (by decide) hv0 rfl rfl hl.1 (Nat.le_of_ble_eq_true rfl) ⟨Nat.le_of_ble_eq_true rfl, Nat.le_of_ble_eq_true rfl⟩ dX11_live_13 (fun u1 H locs hm hw => ?_)
  exact q_iret E hr hlk hw hm dX11_live_16
def f_X11_live (v0 : Nat) (v1 : Int32) (σ : ST) : Option (Int32 × ST) :=
  if v1 < 0 then (k_X11_live_11 v0 σ) else (if v1 ≤ 9999 then (if (gI σ (LC.2.1 (LC.2.1 v0 2) 1) 6) = 0 then ((f_X11_refuse v0 6 σ).bind fun u7 =>
  some (u7.1, u7.2)) else ((f_X4_run (LC.2.1 v0 7) (LC.2.1 v0 2) v1 (LC.2.1 v0 11) σ).bind fun u5 =>
  (f_X11_answer v0 (gI u5 (LC.2.1 v0 7) 1) u5).bind fun u6 =>
  some (u6.1, u6.2))) else (k_X11_live_11 v0 σ))
set_option maxRecDepth 20000 in
set_option maxHeartbeats 1000000 in
theorem w_X11_live_0 {p : Program} {l : Launch} {e : Env} {s : State} {m : MethodId} {args : Array Value} {below : List Frame} {meth : Method} {c : Code} {D : va_G} {cy : Nat → ClassId} {b : Nat} (E : CX p m c cX11_live 2 s args RX11 D cy LC) (hr : meth.sig.returnType = some .int) (hlk : meth.locks = false) {r : Int32 × ST} {v0 : Nat} {v1 : Int32} {σ : ST} {H : Heap} {locs : List Loc} {ls : Array Slot} (hm : f_X11_live v0 v1 σ = some r) (hv0 : LC.1 v0 = 11) (hw : PH D cy LC b σ s H locs) (hl : lv_has ls 2 [(0, .ref (b + v0)), (1, .int v1)]) : W p l e (rmD 8) s m args below meth c H locs 0 0 (MQ below (QcP D cy LC b (some (.int r.1)) r.2) args s 0 0 (inP LC b)) (F0 m 0 ls []) := by
  have hx := E.1.1
  have hb := E.1.2.1
  unfold f_X11_live at hm
  refine lv_iload_n hx hb dX11_live_0 rfl (lv_at hl 1 rfl) ?_
  refine lv_if_lt (tgt := 11) hx hb dX11_live_1 (by decide) (fun c2 => ?_) (fun c2 => ?_)
  · have hm := o_t c2 hm
    exact w_X11_live_11 E hr hlk hm hv0 hw (lv_sub hl [0] rfl)
  · have hm := o_f c2 hm
    refine lv_iload_n hx hb dX11_live_4 rfl (lv_at hl 1 rfl) ?_
    refine lv_sipush (v := 9999) hx hb dX11_live_5 (by decide) ?_
    refine lv_icmp_le (tgt := 17) hx hb dX11_live_8 (by decide) (fun c3 => ?_) (fun c3 => ?_)
    · have hm := o_t c3 hm
      refine lv_aload_n hx hb dX11_live_17 rfl (lv_at hl 0 rfl) ?_
      refine q_geta E hw fw_X11_25 rfl hv0 dX11_live_18 ?_
      refine q_geta E hw fw_X11_191 rfl (tC_11_2 hv0) dX11_live_21 ?_
      refine q_geti E hw fw_X11_399 rfl (tC_10_1 (tC_11_2 hv0)) dX11_live_24 ?_
      refine lv_if_ne (tgt := 37) hx hb dX11_live_27 (by decide) (fun c4 => ?_) (fun c4 => ?_)
      · have hm := o_f c4 hm
        refine lv_aload_n hx hb dX11_live_37 rfl (lv_at hl 0 rfl) ?_
        refine q_geta E hw fw_X11_61 rfl hv0 dX11_live_38 ?_
        refine lv_aload_n hx hb dX11_live_41 rfl (lv_at hl 0 rfl) ?_
        refine q_geta E hw fw_X11_25 rfl hv0 dX11_live_42 ?_
        refine lv_iload_n hx hb dX11_live_45 rfl (lv_at hl 1 rfl) ?_
        refine lv_aload_n hx hb dX11_live_46 rfl (lv_at hl 0 rfl) ?_
        refine q_geta E hw fw_X11_87 rfl hv0 dX11_live_47 ?_
        refine q_cVv (κ := 4) (C := RX4) (T := TX4) (N := 4) [] E hw hm mw_X11_400 (fun u hu => c_X4_run hu (tC_11_7 hv0) (tC_11_2 hv0) (tC_11_11 hv0)) rfl (by decide) (tC_11_7 hv0) rfl rfl hl.1 (Nat.le_of_ble_eq_true rfl) ⟨Nat.le_of_ble_eq_true rfl, Nat.le_of_ble_eq_true rfl⟩ dX11_live_50 (fun u5 H locs hm hw => ?_)
        refine lv_aload_n hx hb dX11_live_53 rfl (lv_at hl 0 rfl) ?_
        refine lv_aload_n hx hb dX11_live_54 rfl (lv_at hl 0 rfl) ?_
        refine q_geta E hw fw_X11_61 rfl hv0 dX11_live_55 ?_
        refine q_geti E hw fw_X11_404 rfl (tC_11_7 hv0) dX11_live_58 ?_
        refine q_cVi (κ := 11) (C := RX11) (T := TX11) (N := 20) [] E hw hm mw_X11_187 (fun u hu => c_X11_answer hu hv0) rfl (by decide) hv0 rfl rfl hl.1 (Nat.le_of_ble_eq_true rfl) ⟨Nat.le_of_ble_eq_true rfl, Nat.le_of_ble_eq_true rfl⟩ dX11_live_61 (fun u6 H locs hm hw => ?_)
        exact q_iret E hr hlk hw hm dX11_live_64
      · have hm := o_t c4 hm
        refine lv_aload_n hx hb dX11_live_30 rfl (lv_at hl 0 rfl) ?_
        refine lv_bipush (v := 6) hx hb dX11_live_31 (by decide) ?_
        refine q_cVi (κ := 11) (C := RX11) (T := TX11) (N := 20) [] E hw hm mw_X11_142 (fun u hu => c_X11_refuse hu hv0) rfl (by decide) hv0 rfl rfl hl.1 (Nat.le_of_ble_eq_true rfl) ⟨Nat.le_of_ble_eq_true rfl, Nat.le_of_ble_eq_true rfl⟩ dX11_live_33 (fun u7 H locs hm hw => ?_)
        exact q_iret E hr hlk hw hm dX11_live_36
    · have hm := o_f c3 hm
      exact w_X11_live_11 E hr hlk hm hv0 hw (lv_sub hl [0] rfl)
theorem c_X11_live {l : Launch} {D : va_G} {cy : Nat → ClassId} {b : Nat} {v0 : Nat} {v1 : Int32} {σ : ST} {r : Int32 × ST} (hm : f_X11_live v0 v1 σ = some r) (hv0 : LC.1 v0 = 11) : Met l yX11_live (wU yX11_live cX11_live 2 (some .int)) (rmD 8) (PcP D cy LC b [.ref (b + v0), .int v1] σ) (QcP D cy LC b (some (.int r.1)) r.2) 0 0 (inP LC b) :=
  q_met (lv := [(0, .ref (b + v0)), (1, .int v1)]) LC_ok (by decide) (Nat.le_of_ble_eq_true rfl) rfl (fun _ _ _ _ _ _ _ _ _ E hr hlk hw hl => w_X11_live_0 E hr hlk hm hv0 hw hl)

def k_X11_lived_49 (s0 : Int32) (σ : ST) : Option (Int32 × ST) :=
  some (s0, σ)
set_option maxRecDepth 20000 in
set_option maxHeartbeats 1000000 in
theorem w_X11_lived_49 {p : Program} {l : Launch} {e : Env} {s : State} {m : MethodId} {args : Array Value} {below : List Frame} {meth : Method} {c : Code} {D : va_G} {cy : Nat → ClassId} {b : Nat} (E : CX p m c cX11_lived 2 s args RX11 D cy LC) (hr : meth.sig.returnType = some .int) (hlk : meth.locks = false) {r : Int32 × ST} {s0 : Int32} {σ : ST} {H : Heap} {locs : List Loc} {ls : Array Slot} (hm : k_X11_lived_49 s0 σ = some r) (hw : PH D cy LC b σ s H locs) (hl : lv_has ls 2 []) : W p l e (rmD 1) s m args below meth c H locs 0 0 (MQ below (QcP D cy LC b (some (.int r.1)) r.2) args s 0 0 (inP LC b)) (F0 m 49 ls [.int s0]) := by
  have hx := E.1.1
  have hb := E.1.2.1
  unfold k_X11_lived_49 at hm
  exact q_iret E hr hlk hw hm dX11_lived_49
def k_X11_lived_10 (v0 : Nat) (σ : ST) : Option (Int32 × ST) :=
  (f_X11_refuse v0 1 σ).bind fun u1 =>
  some (u1.1, u1.2)
set_option maxRecDepth 20000 in
set_option maxHeartbeats 1000000 in
theorem w_X11_lived_10 {p : Program} {l : Launch} {e : Env} {s : State} {m : MethodId} {args : Array Value} {below : List Frame} {meth : Method} {c : Code} {D : va_G} {cy : Nat → ClassId} {b : Nat} (E : CX p m c cX11_lived 2 s args RX11 D cy LC) (hr : meth.sig.returnType = some .int) (hlk : meth.locks = false) {r : Int32 × ST} {v0 : Nat} {σ : ST} {H : Heap} {locs : List Loc} {ls : Array Slot} (hm : k_X11_lived_10 v0 σ = some r) (hv0 : LC.1 v0 = 11) (hw : PH D cy LC b σ s H locs) (hl : lv_has ls 2 [(0, .ref (b + v0))]) : W p l e (rmD 1) s m args below meth c H locs 0 0 (MQ below (QcP D cy LC b (some (.int r.1)) r.2) args s 0 0 (inP LC b)) (F0 m 10 ls []) := by
  have hx := E.1.1
  have hb := E.1.2.1
  unfold k_X11_lived_10 at hm
  refine lv_aload_n hx hb dX11_lived_10 rfl (lv_at hl 0 rfl) ?_
  refine lv_iconst (v := 1) hx hb dX11_lived_11 (by decide) ?_
  refine q_cVi (κ := 11) (C := RX11) (T := TX11) (N := 20) [] E hw hm mw_X11_142 (fun u hu => c_X11_refuse hu hv0) rfl (by decide) hv0 rfl rfl hl.1 (Nat.le_of_ble_eq_true rfl) ⟨Nat.le_of_ble_eq_true rfl, Nat.le_of_ble_eq_true rfl⟩ dX11_lived_12 (fun u1 H locs hm hw => ?_)
  exact q_iret E hr hlk hw hm dX11_lived_15
def f_X11_lived (v0 : Nat) (v1 : Int32) (σ : ST) : Option (Int32 × ST) :=
  if v1 < 0 then (k_X11_lived_10 v0 σ) else (if v1 < 6 then (if (gI σ (LC.2.1 v0 7) 1) = (-1) then ((f_X11_refuse v0 6 σ).bind fun u7 =>
  k_X11_lived_49 u7.1 u7.2) else ((ldA LC σ (LC.2.1 (LC.2.1 v0 7) 0) v1).bind fun a5 =>
  (f_X11_answer v0 a5 σ).bind fun u6 =>
  k_X11_lived_49 u6.1 u6.2)) else (k_X11_lived_10 v0 σ))
set_option maxRecDepth 20000 in
set_option maxHeartbeats 1000000 in
theorem w_X11_lived_0 {p : Program} {l : Launch} {e : Env} {s : State} {m : MethodId} {args : Array Value} {below : List Frame} {meth : Method} {c : Code} {D : va_G} {cy : Nat → ClassId} {b : Nat} (E : CX p m c cX11_lived 2 s args RX11 D cy LC) (hr : meth.sig.returnType = some .int) (hlk : meth.locks = false) {r : Int32 × ST} {v0 : Nat} {v1 : Int32} {σ : ST} {H : Heap} {locs : List Loc} {ls : Array Slot} (hm : f_X11_lived v0 v1 σ = some r) (hv0 : LC.1 v0 = 11) (hw : PH D cy LC b σ s H locs) (hl : lv_has ls 2 [(0, .ref (b + v0)), (1, .int v1)]) : W p l e (rmD 1) s m args below meth c H locs 0 0 (MQ below (QcP D cy LC b (some (.int r.1)) r.2) args s 0 0 (inP LC b)) (F0 m 0 ls []) := by
  have hx := E.1.1
  have hb := E.1.2.1
  unfold f_X11_lived at hm
  refine lv_iload_n hx hb dX11_lived_0 rfl (lv_at hl 1 rfl) ?_
  refine lv_if_lt (tgt := 10) hx hb dX11_lived_1 (by decide) (fun c2 => ?_) (fun c2 => ?_)
  · have hm := o_t c2 hm
    exact w_X11_lived_10 E hr hlk hm hv0 hw (lv_sub hl [0] rfl)
  · have hm := o_f c2 hm
    refine lv_iload_n hx hb dX11_lived_4 rfl (lv_at hl 1 rfl) ?_
    refine lv_bipush (v := 6) hx hb dX11_lived_5 (by decide) ?_
    refine lv_icmp_lt (tgt := 16) hx hb dX11_lived_7 (by decide) (fun c3 => ?_) (fun c3 => ?_)
    · have hm := o_t c3 hm
      refine lv_aload_n hx hb dX11_lived_16 rfl (lv_at hl 0 rfl) ?_
      refine q_geta E hw fw_X11_61 rfl hv0 dX11_lived_17 ?_
      refine q_geti E hw fw_X11_404 rfl (tC_11_7 hv0) dX11_lived_20 ?_
      refine lv_iconst (v := (-1)) hx hb dX11_lived_23 (by decide) ?_
      refine lv_icmp_ne (tgt := 36) hx hb dX11_lived_24 (by decide) (fun c4 => ?_) (fun c4 => ?_)
      · have hm := o_f c4 hm
        refine lv_aload_n hx hb dX11_lived_36 rfl (lv_at hl 0 rfl) ?_
        refine lv_aload_n hx hb dX11_lived_37 rfl (lv_at hl 0 rfl) ?_
        refine q_geta E hw fw_X11_61 rfl hv0 dX11_lived_38 ?_
        refine q_geta E hw fw_X11_405 rfl (tC_11_7 hv0) dX11_lived_41 ?_
        refine lv_iload_n hx hb dX11_lived_44 rfl (lv_at hl 1 rfl) ?_
        refine q_iald E hw (tC_4_0 (tC_11_7 hv0)) hm dX11_lived_45 (fun a5 hm => ?_)
        refine q_cVi (κ := 11) (C := RX11) (T := TX11) (N := 20) [] E hw hm mw_X11_187 (fun u hu => c_X11_answer hu hv0) rfl (by decide) hv0 rfl rfl hl.1 (Nat.le_of_ble_eq_true rfl) ⟨Nat.le_of_ble_eq_true rfl, Nat.le_of_ble_eq_true rfl⟩ dX11_lived_46 (fun u6 H locs hm hw => ?_)
        exact w_X11_lived_49 E hr hlk hm  hw (lv_sub hl [] rfl)
      · have hm := o_t c4 hm
        refine lv_aload_n hx hb dX11_lived_27 rfl (lv_at hl 0 rfl) ?_
        refine lv_bipush (v := 6) hx hb dX11_lived_28 (by decide) ?_
        refine q_cVi (κ := 11) (C := RX11) (T := TX11) (N := 20) [] E hw hm mw_X11_142 (fun u hu => c_X11_refuse hu hv0) rfl (by decide) hv0 rfl rfl hl.1 (Nat.le_of_ble_eq_true rfl) ⟨Nat.le_of_ble_eq_true rfl, Nat.le_of_ble_eq_true rfl⟩ dX11_lived_30 (fun u7 H locs hm hw => ?_)
        refine lv_goto (tgt := 49) hx hb dX11_lived_33 (by decide) ?_
        exact w_X11_lived_49 E hr hlk hm  hw (lv_sub hl [] rfl)
    · have hm := o_f c3 hm
      exact w_X11_lived_10 E hr hlk hm hv0 hw (lv_sub hl [0] rfl)
theorem c_X11_lived {l : Launch} {D : va_G} {cy : Nat → ClassId} {b : Nat} {v0 : Nat} {v1 : Int32} {σ : ST} {r : Int32 × ST} (hm : f_X11_lived v0 v1 σ = some r) (hv0 : LC.1 v0 = 11) : Met l yX11_lived (wU yX11_lived cX11_lived 2 (some .int)) (rmD 1) (PcP D cy LC b [.ref (b + v0), .int v1] σ) (QcP D cy LC b (some (.int r.1)) r.2) 0 0 (inP LC b) :=
  q_met (lv := [(0, .ref (b + v0)), (1, .int v1)]) LC_ok (by decide) (Nat.le_of_ble_eq_true rfl) rfl (fun _ _ _ _ _ _ _ _ _ E hr hlk hw hl => w_X11_lived_0 E hr hlk hm hv0 hw hl)

def k_X11_agreed_106 (rec57 : Nat → Int32 → Int32 → Int32 → Int32 → ST → Option (Int32 × ST)) (v0 : Nat) (v1 : Int32) (v2 : Int32) (v3 : Int32) (v4 : Int32) (σ : ST) : Option (Int32 × ST) :=
  rec57 v0 v1 v2 v3 (v4 + 1) σ
set_option maxRecDepth 20000 in
set_option maxHeartbeats 1000000 in
theorem w_X11_agreed_106 {p : Program} {l : Launch} {e : Env} {s : State} {m : MethodId} {args : Array Value} {below : List Frame} {meth : Method} {c : Code} {D : va_G} {cy : Nat → ClassId} {b : Nat} (E : CX p m c cX11_agreed 5 s args RX11 D cy LC) (hr : meth.sig.returnType = some .boolean) (hlk : meth.locks = false) {r : Int32 × ST} {rec57 : Nat → Int32 → Int32 → Int32 → Int32 → ST → Option (Int32 × ST)} (hrec57 : ∀ (v0 : Nat) (v1 : Int32) (v2 : Int32) (v3 : Int32) (v4 : Int32) (σ : ST) (H : Heap) (locs : List Loc) (ls : Array Slot), rec57 v0 v1 v2 v3 v4 σ = some r → LC.1 v0 = 11 → PH D cy LC b σ s H locs → lv_has ls 5 [(0, .ref (b + v0)), (1, .int v1), (2, .int v2), (3, .int v3), (4, .int v4)] → W p l e (rmD 8) s m args below meth c H locs 0 0 (MQ below (QcP D cy LC b (some (.int r.1)) r.2) args s 0 0 (inP LC b)) (F0 m 57 ls [])) {v0 : Nat} {v1 : Int32} {v2 : Int32} {v3 : Int32} {v4 : Int32} {σ : ST} {H : Heap} {locs : List Loc} {ls : Array Slot} (hm : k_X11_agreed_106 rec57 v0 v1 v2 v3 v4 σ = some r) (hv0 : LC.1 v0 = 11) (hw : PH D cy LC b σ s H locs) (hl : lv_has ls 5 [(0, .ref (b + v0)), (1, .int v1), (2, .int v2), (3, .int v3), (4, .int v4)]) : W p l e (rmD 8) s m args below meth c H locs 0 0 (MQ below (QcP D cy LC b (some (.int r.1)) r.2) args s 0 0 (inP LC b)) (F0 m 106 ls []) := by
  have hx := E.1.1
  have hb := E.1.2.1
  unfold k_X11_agreed_106 at hm
  refine lv_iinc (v := v4 + 1) (lv' := [(4, .int (v4 + 1)), (0, .ref (b + v0)), (1, .int v1), (2, .int v2), (3, .int v3)]) hx hb dX11_agreed_106 hl (k := 4) rfl rfl (by decide) rfl (fun ls hl => ?_)
  refine lv_goto (tgt := 57) hx hb dX11_agreed_109 (by decide) ?_
  exact hrec57 _ _ _ _ _ _ _ _ _ hm hv0 hw (lv_sub hl [1, 2, 3, 4, 0] rfl)
def k_X11_agreed_57 : Nat → Nat → Int32 → Int32 → Int32 → Int32 → ST → Option (Int32 × ST)
  | 0, _, _, _, _, _, _ => none
  | n + 1, v0, v1, v2, v3, v4, σ => if v2 ≤ v4 then ((f_X11_setFraction v0 v3 v2 σ).bind fun u2 =>
  (f_X11_allowed v0 u2).bind fun u3 =>
  (ckZ u3.1).bind fun z => some (z, u3.2)) else ((f_X10_copy (LC.2.1 v0 6) (LC.2.1 v0 2) σ).bind fun u4 =>
  (f_X4_run (LC.2.1 v0 8) (LC.2.1 v0 6) (v1 + v4) (LC.2.1 v0 11) u4).bind fun u5 =>
  (f_X10_areAllAlike (LC.2.1 v0 6) u5).bind fun u6 =>
  if u6.1 = 0 then (k_X11_agreed_106 (k_X11_agreed_57 n) v0 v1 v2 v3 v4 u6.2) else (k_X11_agreed_106 (k_X11_agreed_57 n) v0 v1 v2 (v3 + 1) v4 u6.2))
set_option maxRecDepth 20000 in
set_option maxHeartbeats 1000000 in
theorem w_X11_agreed_57 {p : Program} {l : Launch} {e : Env} {s : State} {m : MethodId} {args : Array Value} {below : List Frame} {meth : Method} {c : Code} {D : va_G} {cy : Nat → ClassId} {b : Nat} (E : CX p m c cX11_agreed 5 s args RX11 D cy LC) (hr : meth.sig.returnType = some .boolean) (hlk : meth.locks = false) {r : Int32 × ST} : ∀ (n : Nat) (v0 : Nat) (v1 : Int32) (v2 : Int32) (v3 : Int32) (v4 : Int32) (σ : ST) (H : Heap) (locs : List Loc) (ls : Array Slot), k_X11_agreed_57 n v0 v1 v2 v3 v4 σ = some r → LC.1 v0 = 11 → PH D cy LC b σ s H locs → lv_has ls 5 [(0, .ref (b + v0)), (1, .int v1), (2, .int v2), (3, .int v3), (4, .int v4)] → W p l e (rmD 8) s m args below meth c H locs 0 0 (MQ below (QcP D cy LC b (some (.int r.1)) r.2) args s 0 0 (inP LC b)) (F0 m 57 ls []) := by
  have hx := E.1.1
  have hb := E.1.2.1
  intro n
  induction n with
  | zero =>
    intro v0 v1 v2 v3 v4 σ H locs ls hm
    cases hm
  | succ n ih =>
    intro v0 v1 v2 v3 v4 σ H locs ls hm hv0 hw hl
    rw [k_X11_agreed_57] at hm
    refine lv_iload hx hb dX11_agreed_57 (lv_at hl 4 rfl) ?_
    refine lv_iload_n hx hb dX11_agreed_59 rfl (lv_at hl 2 rfl) ?_
    refine lv_icmp_ge (tgt := 112) hx hb dX11_agreed_60 (by decide) (fun c1 => ?_) (fun c1 => ?_)
    · have hm := o_t c1 hm
      refine lv_aload_n hx hb dX11_agreed_112 rfl (lv_at hl 0 rfl) ?_
      refine lv_iload_n hx hb dX11_agreed_113 rfl (lv_at hl 3 rfl) ?_
      refine lv_iload_n hx hb dX11_agreed_114 rfl (lv_at hl 2 rfl) ?_
      refine q_cVv (κ := 11) (C := RX11) (T := TX11) (N := 20) [] E hw hm mw_X11_393 (fun u hu => c_X11_setFraction hu hv0) rfl (by decide) hv0 rfl rfl hl.1 (Nat.le_of_ble_eq_true rfl) ⟨Nat.le_of_ble_eq_true rfl, Nat.le_of_ble_eq_true rfl⟩ dX11_agreed_115 (fun u2 H locs hm hw => ?_)
      refine lv_aload_n hx hb dX11_agreed_118 rfl (lv_at hl 0 rfl) ?_
      refine q_cVi (κ := 11) (C := RX11) (T := TX11) (N := 20) [] E hw hm mw_X11_130 (fun u hu => c_X11_allowed hu hv0) rfl (by decide) hv0 rfl rfl hl.1 (Nat.le_of_ble_eq_true rfl) ⟨Nat.le_of_ble_eq_true rfl, Nat.le_of_ble_eq_true rfl⟩ dX11_agreed_119 (fun u3 H locs hm hw => ?_)
      exact q_zret E hr hlk hw hm dX11_agreed_122
    · have hm := o_f c1 hm
      refine lv_aload_n hx hb dX11_agreed_63 rfl (lv_at hl 0 rfl) ?_
      refine q_geta E hw fw_X11_55 rfl hv0 dX11_agreed_64 ?_
      refine lv_aload_n hx hb dX11_agreed_67 rfl (lv_at hl 0 rfl) ?_
      refine q_geta E hw fw_X11_25 rfl hv0 dX11_agreed_68 ?_
      refine q_cVv (κ := 10) (C := RX10) (T := TX10) (N := 12) [] E hw hm mw_X11_408 (fun u hu => c_X10_copy hu (tC_11_6 hv0) (tC_11_2 hv0)) rfl (by decide) (tC_11_6 hv0) rfl rfl hl.1 (Nat.le_of_ble_eq_true rfl) ⟨Nat.le_of_ble_eq_true rfl, Nat.le_of_ble_eq_true rfl⟩ dX11_agreed_71 (fun u4 H locs hm hw => ?_)
      refine lv_aload_n hx hb dX11_agreed_74 rfl (lv_at hl 0 rfl) ?_
      refine q_geta E hw fw_X11_65 rfl hv0 dX11_agreed_75 ?_
      refine lv_aload_n hx hb dX11_agreed_78 rfl (lv_at hl 0 rfl) ?_
      refine q_geta E hw fw_X11_55 rfl hv0 dX11_agreed_79 ?_
      refine lv_iload_n hx hb dX11_agreed_82 rfl (lv_at hl 1 rfl) ?_
      refine lv_iload hx hb dX11_agreed_83 (lv_at hl 4 rfl) ?_
      refine lv_iadd hx hb dX11_agreed_85 ?_
      refine lv_aload_n hx hb dX11_agreed_86 rfl (lv_at hl 0 rfl) ?_
      refine q_geta E hw fw_X11_87 rfl hv0 dX11_agreed_87 ?_
      refine q_cVv (κ := 4) (C := RX4) (T := TX4) (N := 4) [] E hw hm mw_X11_400 (fun u hu => c_X4_run hu (tC_11_8 hv0) (tC_11_6 hv0) (tC_11_11 hv0)) rfl (by decide) (tC_11_8 hv0) rfl rfl hl.1 (Nat.le_of_ble_eq_true rfl) ⟨Nat.le_of_ble_eq_true rfl, Nat.le_of_ble_eq_true rfl⟩ dX11_agreed_90 (fun u5 H locs hm hw => ?_)
      refine lv_aload_n hx hb dX11_agreed_93 rfl (lv_at hl 0 rfl) ?_
      refine q_geta E hw fw_X11_55 rfl hv0 dX11_agreed_94 ?_
      refine q_cVi (κ := 10) (C := RX10) (T := TX10) (N := 12) [] E hw hm mw_X11_411 (fun u hu => c_X10_areAllAlike hu (tC_11_6 hv0)) rfl (by decide) (tC_11_6 hv0) rfl rfl hl.1 (Nat.le_of_ble_eq_true rfl) ⟨Nat.le_of_ble_eq_true rfl, Nat.le_of_ble_eq_true rfl⟩ dX11_agreed_97 (fun u6 H locs hm hw => ?_)
      refine lv_if_eq (tgt := 106) hx hb dX11_agreed_100 (by decide) (fun c7 => ?_) (fun c7 => ?_)
      · have hm := o_t c7 hm
        exact w_X11_agreed_106 E hr hlk ih hm hv0 hw (lv_sub hl [0, 1, 2, 3, 4] rfl)
      · have hm := o_f c7 hm
        refine lv_iinc (v := v3 + 1) (lv' := [(3, .int (v3 + 1)), (0, .ref (b + v0)), (1, .int v1), (2, .int v2), (4, .int v4)]) hx hb dX11_agreed_103 hl (k := 3) rfl rfl (by decide) rfl (fun ls hl => ?_)
        exact w_X11_agreed_106 E hr hlk ih hm hv0 hw (lv_sub hl [1, 2, 3, 0, 4] rfl)
def k_X11_agreed_26 (v0 : Nat) (σ : ST) : Option (Int32 × ST) :=
  (f_X11_refused v0 1 σ).bind fun u8 =>
  (ckZ u8.1).bind fun z => some (z, u8.2)
set_option maxRecDepth 20000 in
set_option maxHeartbeats 1000000 in
theorem w_X11_agreed_26 {p : Program} {l : Launch} {e : Env} {s : State} {m : MethodId} {args : Array Value} {below : List Frame} {meth : Method} {c : Code} {D : va_G} {cy : Nat → ClassId} {b : Nat} (E : CX p m c cX11_agreed 5 s args RX11 D cy LC) (hr : meth.sig.returnType = some .boolean) (hlk : meth.locks = false) {r : Int32 × ST} {v0 : Nat} {σ : ST} {H : Heap} {locs : List Loc} {ls : Array Slot} (hm : k_X11_agreed_26 v0 σ = some r) (hv0 : LC.1 v0 = 11) (hw : PH D cy LC b σ s H locs) (hl : lv_has ls 5 [(0, .ref (b + v0))]) : W p l e (rmD 8) s m args below meth c H locs 0 0 (MQ below (QcP D cy LC b (some (.int r.1)) r.2) args s 0 0 (inP LC b)) (F0 m 26 ls []) := by
  have hx := E.1.1
  have hb := E.1.2.1
  unfold k_X11_agreed_26 at hm
  refine lv_aload_n hx hb dX11_agreed_26 rfl (lv_at hl 0 rfl) ?_
  refine lv_iconst (v := 1) hx hb dX11_agreed_27 (by decide) ?_
  refine q_cVi (κ := 11) (C := RX11) (T := TX11) (N := 20) [] E hw hm mw_X11_123 (fun u hu => c_X11_refused hu hv0) rfl (by decide) hv0 rfl rfl hl.1 (Nat.le_of_ble_eq_true rfl) ⟨Nat.le_of_ble_eq_true rfl, Nat.le_of_ble_eq_true rfl⟩ dX11_agreed_28 (fun u8 H locs hm hw => ?_)
  exact q_zret E hr hlk hw hm dX11_agreed_31
def f_X11_agreed (v0 : Nat) (v1 : Int32) (v2 : Int32) (σ : ST) : Option (Int32 × ST) :=
  if v1 < 0 then (k_X11_agreed_26 v0 σ) else (if v2 < 1 then (k_X11_agreed_26 v0 σ) else (if 20 < v2 then (k_X11_agreed_26 v0 σ) else (if v1 ≤ ((9999 - v2) + 1) then (if (gI σ (LC.2.1 (LC.2.1 v0 2) 1) 6) = 0 then ((f_X11_refused v0 6 σ).bind fun u14 =>
  (ckZ u14.1).bind fun z => some (z, u14.2)) else (k_X11_agreed_57 FU v0 v1 v2 0 0 σ)) else (k_X11_agreed_26 v0 σ))))
set_option maxRecDepth 20000 in
set_option maxHeartbeats 1000000 in
theorem w_X11_agreed_0 {p : Program} {l : Launch} {e : Env} {s : State} {m : MethodId} {args : Array Value} {below : List Frame} {meth : Method} {c : Code} {D : va_G} {cy : Nat → ClassId} {b : Nat} (E : CX p m c cX11_agreed 5 s args RX11 D cy LC) (hr : meth.sig.returnType = some .boolean) (hlk : meth.locks = false) {r : Int32 × ST} {v0 : Nat} {v1 : Int32} {v2 : Int32} {σ : ST} {H : Heap} {locs : List Loc} {ls : Array Slot} (hm : f_X11_agreed v0 v1 v2 σ = some r) (hv0 : LC.1 v0 = 11) (hw : PH D cy LC b σ s H locs) (hl : lv_has ls 5 [(0, .ref (b + v0)), (1, .int v1), (2, .int v2)]) : W p l e (rmD 8) s m args below meth c H locs 0 0 (MQ below (QcP D cy LC b (some (.int r.1)) r.2) args s 0 0 (inP LC b)) (F0 m 0 ls []) := by
  have hx := E.1.1
  have hb := E.1.2.1
  unfold f_X11_agreed at hm
  refine lv_iload_n hx hb dX11_agreed_0 rfl (lv_at hl 1 rfl) ?_
  refine lv_if_lt (tgt := 26) hx hb dX11_agreed_1 (by decide) (fun c9 => ?_) (fun c9 => ?_)
  · have hm := o_t c9 hm
    exact w_X11_agreed_26 E hr hlk hm hv0 hw (lv_sub hl [0] rfl)
  · have hm := o_f c9 hm
    refine lv_iload_n hx hb dX11_agreed_4 rfl (lv_at hl 2 rfl) ?_
    refine lv_iconst (v := 1) hx hb dX11_agreed_5 (by decide) ?_
    refine lv_icmp_lt (tgt := 26) hx hb dX11_agreed_6 (by decide) (fun c10 => ?_) (fun c10 => ?_)
    · have hm := o_t c10 hm
      exact w_X11_agreed_26 E hr hlk hm hv0 hw (lv_sub hl [0] rfl)
    · have hm := o_f c10 hm
      refine lv_iload_n hx hb dX11_agreed_9 rfl (lv_at hl 2 rfl) ?_
      refine lv_bipush (v := 20) hx hb dX11_agreed_10 (by decide) ?_
      refine lv_icmp_gt (tgt := 26) hx hb dX11_agreed_12 (by decide) (fun c11 => ?_) (fun c11 => ?_)
      · have hm := o_t c11 hm
        exact w_X11_agreed_26 E hr hlk hm hv0 hw (lv_sub hl [0] rfl)
      · have hm := o_f c11 hm
        refine lv_iload_n hx hb dX11_agreed_15 rfl (lv_at hl 1 rfl) ?_
        refine lv_sipush (v := 9999) hx hb dX11_agreed_16 (by decide) ?_
        refine lv_iload_n hx hb dX11_agreed_19 rfl (lv_at hl 2 rfl) ?_
        refine lv_isub hx hb dX11_agreed_20 ?_
        refine lv_iconst (v := 1) hx hb dX11_agreed_21 (by decide) ?_
        refine lv_iadd hx hb dX11_agreed_22 ?_
        refine lv_icmp_le (tgt := 32) hx hb dX11_agreed_23 (by decide) (fun c12 => ?_) (fun c12 => ?_)
        · have hm := o_t c12 hm
          refine lv_aload_n hx hb dX11_agreed_32 rfl (lv_at hl 0 rfl) ?_
          refine q_geta E hw fw_X11_25 rfl hv0 dX11_agreed_33 ?_
          refine q_geta E hw fw_X11_191 rfl (tC_11_2 hv0) dX11_agreed_36 ?_
          refine q_geti E hw fw_X11_399 rfl (tC_10_1 (tC_11_2 hv0)) dX11_agreed_39 ?_
          refine lv_if_ne (tgt := 52) hx hb dX11_agreed_42 (by decide) (fun c13 => ?_) (fun c13 => ?_)
          · have hm := o_f c13 hm
            refine lv_iconst (v := 0) hx hb dX11_agreed_52 (by decide) ?_
            refine lv_istore_n (lv' := [(3, .int 0), (0, .ref (b + v0)), (1, .int v1), (2, .int v2)]) hx hb dX11_agreed_53 rfl hl (by decide) rfl (fun ls hl => ?_)
            refine lv_iconst (v := 0) hx hb dX11_agreed_54 (by decide) ?_
            refine lv_istore (lv' := [(4, .int 0), (3, .int 0), (0, .ref (b + v0)), (1, .int v1), (2, .int v2)]) hx hb dX11_agreed_55 hl (by decide) rfl (fun ls hl => ?_)
            exact w_X11_agreed_57 E hr hlk _ _ _ _ _ _ _ _ _ _ hm hv0 hw (lv_sub hl [2, 3, 4, 1, 0] rfl)
          · have hm := o_t c13 hm
            refine lv_aload_n hx hb dX11_agreed_45 rfl (lv_at hl 0 rfl) ?_
            refine lv_bipush (v := 6) hx hb dX11_agreed_46 (by decide) ?_
            refine q_cVi (κ := 11) (C := RX11) (T := TX11) (N := 20) [] E hw hm mw_X11_123 (fun u hu => c_X11_refused hu hv0) rfl (by decide) hv0 rfl rfl hl.1 (Nat.le_of_ble_eq_true rfl) ⟨Nat.le_of_ble_eq_true rfl, Nat.le_of_ble_eq_true rfl⟩ dX11_agreed_48 (fun u14 H locs hm hw => ?_)
            exact q_zret E hr hlk hw hm dX11_agreed_51
        · have hm := o_f c12 hm
          exact w_X11_agreed_26 E hr hlk hm hv0 hw (lv_sub hl [0] rfl)
theorem c_X11_agreed {l : Launch} {D : va_G} {cy : Nat → ClassId} {b : Nat} {v0 : Nat} {v1 : Int32} {v2 : Int32} {σ : ST} {r : Int32 × ST} (hm : f_X11_agreed v0 v1 v2 σ = some r) (hv0 : LC.1 v0 = 11) : Met l yX11_agreed (wU yX11_agreed cX11_agreed 5 (some .boolean)) (rmD 8) (PcP D cy LC b [.ref (b + v0), .int v1, .int v2] σ) (QcP D cy LC b (some (.int r.1)) r.2) 0 0 (inP LC b) :=
  q_met (lv := [(0, .ref (b + v0)), (1, .int v1), (2, .int v2)]) LC_ok (by decide) (Nat.le_of_ble_eq_true rfl) rfl (fun _ _ _ _ _ _ _ _ _ E hr hlk hw hl => w_X11_agreed_0 E hr hlk hm hv0 hw hl)

def f_X11_mark (v0 : Nat) (σ : ST) : Option (Int32 × ST) :=
  if (gI σ v0 17) < 3 then ((ldR LC 10 (LC.2.1 v0 5) (gI σ v0 17)).bind fun x2 =>
  (f_X10_copy x2 (LC.2.1 v0 2) σ).bind fun u3 =>
  (stI u3 v0 17 ((gI u3 v0 17) + 1)).bind fun σ4 =>
  (f_X11_answer v0 (gI σ4 v0 17) σ4).bind fun u5 =>
  some (u5.1, u5.2)) else ((f_X11_refuse v0 4 σ).bind fun u6 =>
  some (u6.1, u6.2))
set_option maxRecDepth 20000 in
set_option maxHeartbeats 1000000 in
theorem w_X11_mark_0 {p : Program} {l : Launch} {e : Env} {s : State} {m : MethodId} {args : Array Value} {below : List Frame} {meth : Method} {c : Code} {D : va_G} {cy : Nat → ClassId} {b : Nat} (E : CX p m c cX11_mark 1 s args RX11 D cy LC) (hr : meth.sig.returnType = some .int) (hlk : meth.locks = false) {r : Int32 × ST} {v0 : Nat} {σ : ST} {H : Heap} {locs : List Loc} {ls : Array Slot} (hm : f_X11_mark v0 σ = some r) (hv0 : LC.1 v0 = 11) (hw : PH D cy LC b σ s H locs) (hl : lv_has ls 1 [(0, .ref (b + v0))]) : W p l e (rmD 3) s m args below meth c H locs 0 0 (MQ below (QcP D cy LC b (some (.int r.1)) r.2) args s 0 0 (inP LC b)) (F0 m 0 ls []) := by
  have hx := E.1.1
  have hb := E.1.2.1
  unfold f_X11_mark at hm
  refine lv_aload_n hx hb dX11_mark_0 rfl (lv_at hl 0 rfl) ?_
  refine q_geti E hw fw_X11_109 rfl hv0 dX11_mark_1 ?_
  refine lv_iconst (v := 3) hx hb dX11_mark_4 (by decide) ?_
  refine lv_icmp_lt (tgt := 14) hx hb dX11_mark_5 (by decide) (fun c1 => ?_) (fun c1 => ?_)
  · have hm := o_t c1 hm
    refine lv_aload_n hx hb dX11_mark_14 rfl (lv_at hl 0 rfl) ?_
    refine q_geta E hw fw_X11_51 rfl hv0 dX11_mark_15 ?_
    refine lv_aload_n hx hb dX11_mark_18 rfl (lv_at hl 0 rfl) ?_
    refine q_geti E hw fw_X11_109 rfl hv0 dX11_mark_19 ?_
    refine q_aald10 E hw (tC_11_5 hv0) hm dX11_mark_22 (fun x2 hx2 hm => ?_)
    refine lv_aload_n hx hb dX11_mark_23 rfl (lv_at hl 0 rfl) ?_
    refine q_geta E hw fw_X11_25 rfl hv0 dX11_mark_24 ?_
    refine q_cVv (κ := 10) (C := RX10) (T := TX10) (N := 12) [] E hw hm mw_X11_408 (fun u hu => c_X10_copy hu hx2 (tC_11_2 hv0)) rfl (by decide) hx2 rfl rfl hl.1 (Nat.le_of_ble_eq_true rfl) ⟨Nat.le_of_ble_eq_true rfl, Nat.le_of_ble_eq_true rfl⟩ dX11_mark_27 (fun u3 H locs hm hw => ?_)
    refine lv_aload_n hx hb dX11_mark_30 rfl (lv_at hl 0 rfl) ?_
    refine lv_dup hx hb dX11_mark_31 rfl ?_
    refine q_geti E hw fw_X11_109 rfl hv0 dX11_mark_32 ?_
    refine lv_iconst (v := 1) hx hb dX11_mark_35 (by decide) ?_
    refine lv_iadd hx hb dX11_mark_36 ?_
    refine q_pi E hw hm fw_X11_109 rfl rfl hv0 dX11_mark_37 (fun σ4 H locs hm hw => ?_)
    refine lv_aload_n hx hb dX11_mark_40 rfl (lv_at hl 0 rfl) ?_
    refine lv_aload_n hx hb dX11_mark_41 rfl (lv_at hl 0 rfl) ?_
    refine q_geti E hw fw_X11_109 rfl hv0 dX11_mark_42 ?_
    refine q_cVi (κ := 11) (C := RX11) (T := TX11) (N := 20) [] E hw hm mw_X11_187 (fun u hu => c_X11_answer hu hv0) rfl (by decide) hv0 rfl rfl hl.1 (Nat.le_of_ble_eq_true rfl) ⟨Nat.le_of_ble_eq_true rfl, Nat.le_of_ble_eq_true rfl⟩ dX11_mark_45 (fun u5 H locs hm hw => ?_)
    exact q_iret E hr hlk hw hm dX11_mark_48
  · have hm := o_f c1 hm
    refine lv_aload_n hx hb dX11_mark_8 rfl (lv_at hl 0 rfl) ?_
    refine lv_iconst (v := 4) hx hb dX11_mark_9 (by decide) ?_
    refine q_cVi (κ := 11) (C := RX11) (T := TX11) (N := 20) [] E hw hm mw_X11_142 (fun u hu => c_X11_refuse hu hv0) rfl (by decide) hv0 rfl rfl hl.1 (Nat.le_of_ble_eq_true rfl) ⟨Nat.le_of_ble_eq_true rfl, Nat.le_of_ble_eq_true rfl⟩ dX11_mark_10 (fun u6 H locs hm hw => ?_)
    exact q_iret E hr hlk hw hm dX11_mark_13
theorem c_X11_mark {l : Launch} {D : va_G} {cy : Nat → ClassId} {b : Nat} {v0 : Nat} {σ : ST} {r : Int32 × ST} (hm : f_X11_mark v0 σ = some r) (hv0 : LC.1 v0 = 11) : Met l yX11_mark (wU yX11_mark cX11_mark 1 (some .int)) (rmD 3) (PcP D cy LC b [.ref (b + v0)] σ) (QcP D cy LC b (some (.int r.1)) r.2) 0 0 (inP LC b) :=
  q_met (lv := [(0, .ref (b + v0))]) LC_ok (by decide) (Nat.le_of_ble_eq_true rfl) rfl (fun _ _ _ _ _ _ _ _ _ E hr hlk hw hl => w_X11_mark_0 E hr hlk hm hv0 hw hl)

def f_X11_back (v0 : Nat) (σ : ST) : Option (Int32 × ST) :=
  if 0 < (gI σ v0 17) then ((stI σ v0 17 ((gI σ v0 17) - 1)).bind fun σ2 =>
  (ldR LC 10 (LC.2.1 v0 5) (gI σ2 v0 17)).bind fun x3 =>
  (f_X10_copy (LC.2.1 v0 2) x3 σ2).bind fun u4 =>
  (f_X11_answer v0 (gI u4 v0 17) u4).bind fun u5 =>
  some (u5.1, u5.2)) else ((f_X11_refuse v0 6 σ).bind fun u6 =>
  some (u6.1, u6.2))
set_option maxRecDepth 20000 in
set_option maxHeartbeats 1000000 in
theorem w_X11_back_0 {p : Program} {l : Launch} {e : Env} {s : State} {m : MethodId} {args : Array Value} {below : List Frame} {meth : Method} {c : Code} {D : va_G} {cy : Nat → ClassId} {b : Nat} (E : CX p m c cX11_back 1 s args RX11 D cy LC) (hr : meth.sig.returnType = some .int) (hlk : meth.locks = false) {r : Int32 × ST} {v0 : Nat} {σ : ST} {H : Heap} {locs : List Loc} {ls : Array Slot} (hm : f_X11_back v0 σ = some r) (hv0 : LC.1 v0 = 11) (hw : PH D cy LC b σ s H locs) (hl : lv_has ls 1 [(0, .ref (b + v0))]) : W p l e (rmD 3) s m args below meth c H locs 0 0 (MQ below (QcP D cy LC b (some (.int r.1)) r.2) args s 0 0 (inP LC b)) (F0 m 0 ls []) := by
  have hx := E.1.1
  have hb := E.1.2.1
  unfold f_X11_back at hm
  refine lv_aload_n hx hb dX11_back_0 rfl (lv_at hl 0 rfl) ?_
  refine q_geti E hw fw_X11_109 rfl hv0 dX11_back_1 ?_
  refine lv_if_gt (tgt := 14) hx hb dX11_back_4 (by decide) (fun c1 => ?_) (fun c1 => ?_)
  · have hm := o_t c1 hm
    refine lv_aload_n hx hb dX11_back_14 rfl (lv_at hl 0 rfl) ?_
    refine lv_dup hx hb dX11_back_15 rfl ?_
    refine q_geti E hw fw_X11_109 rfl hv0 dX11_back_16 ?_
    refine lv_iconst (v := 1) hx hb dX11_back_19 (by decide) ?_
    refine lv_isub hx hb dX11_back_20 ?_
    refine q_pi E hw hm fw_X11_109 rfl rfl hv0 dX11_back_21 (fun σ2 H locs hm hw => ?_)
    refine lv_aload_n hx hb dX11_back_24 rfl (lv_at hl 0 rfl) ?_
    refine q_geta E hw fw_X11_25 rfl hv0 dX11_back_25 ?_
    refine lv_aload_n hx hb dX11_back_28 rfl (lv_at hl 0 rfl) ?_
    refine q_geta E hw fw_X11_51 rfl hv0 dX11_back_29 ?_
    refine lv_aload_n hx hb dX11_back_32 rfl (lv_at hl 0 rfl) ?_
    refine q_geti E hw fw_X11_109 rfl hv0 dX11_back_33 ?_
    refine q_aald10 E hw (tC_11_5 hv0) hm dX11_back_36 (fun x3 hx3 hm => ?_)
    refine q_cVv (κ := 10) (C := RX10) (T := TX10) (N := 12) [] E hw hm mw_X11_408 (fun u hu => c_X10_copy hu (tC_11_2 hv0) hx3) rfl (by decide) (tC_11_2 hv0) rfl rfl hl.1 (Nat.le_of_ble_eq_true rfl) ⟨Nat.le_of_ble_eq_true rfl, Nat.le_of_ble_eq_true rfl⟩ dX11_back_37 (fun u4 H locs hm hw => ?_)
    refine lv_aload_n hx hb dX11_back_40 rfl (lv_at hl 0 rfl) ?_
    refine lv_aload_n hx hb dX11_back_41 rfl (lv_at hl 0 rfl) ?_
    refine q_geti E hw fw_X11_109 rfl hv0 dX11_back_42 ?_
    refine q_cVi (κ := 11) (C := RX11) (T := TX11) (N := 20) [] E hw hm mw_X11_187 (fun u hu => c_X11_answer hu hv0) rfl (by decide) hv0 rfl rfl hl.1 (Nat.le_of_ble_eq_true rfl) ⟨Nat.le_of_ble_eq_true rfl, Nat.le_of_ble_eq_true rfl⟩ dX11_back_45 (fun u5 H locs hm hw => ?_)
    exact q_iret E hr hlk hw hm dX11_back_48
  · have hm := o_f c1 hm
    refine lv_aload_n hx hb dX11_back_7 rfl (lv_at hl 0 rfl) ?_
    refine lv_bipush (v := 6) hx hb dX11_back_8 (by decide) ?_
    refine q_cVi (κ := 11) (C := RX11) (T := TX11) (N := 20) [] E hw hm mw_X11_142 (fun u hu => c_X11_refuse hu hv0) rfl (by decide) hv0 rfl rfl hl.1 (Nat.le_of_ble_eq_true rfl) ⟨Nat.le_of_ble_eq_true rfl, Nat.le_of_ble_eq_true rfl⟩ dX11_back_10 (fun u6 H locs hm hw => ?_)
    exact q_iret E hr hlk hw hm dX11_back_13
theorem c_X11_back {l : Launch} {D : va_G} {cy : Nat → ClassId} {b : Nat} {v0 : Nat} {σ : ST} {r : Int32 × ST} (hm : f_X11_back v0 σ = some r) (hv0 : LC.1 v0 = 11) : Met l yX11_back (wU yX11_back cX11_back 1 (some .int)) (rmD 3) (PcP D cy LC b [.ref (b + v0)] σ) (QcP D cy LC b (some (.int r.1)) r.2) 0 0 (inP LC b) :=
  q_met (lv := [(0, .ref (b + v0))]) LC_ok (by decide) (Nat.le_of_ble_eq_true rfl) rfl (fun _ _ _ _ _ _ _ _ _ E hr hlk hw hl => w_X11_back_0 E hr hlk hm hv0 hw hl)
