def k_X1_keepRow_71 (v0 : Nat) (σ : ST) : Option (ST) :=
  (stI σ v0 3 ((gI σ v0 3) + 1)).bind fun σ1 =>
  some σ1
set_option maxRecDepth 20000 in
set_option maxHeartbeats 1000000 in
theorem w_X1_keepRow_71 {p : Program} {l : Launch} {e : Env} {s : State} {m : MethodId} {args : Array Value} {below : List Frame} {meth : Method} {c : Code} {D : va_G} {cy : Nat → ClassId} {b : Nat} (E : CX p m c cX1_keepRow 4 s args RX1 D cy LC) (hr : meth.sig.returnType = none) (hlk : meth.locks = false) {r : ST} {v0 : Nat} {σ : ST} {H : Heap} {locs : List Loc} {ls : Array Slot} (hm : k_X1_keepRow_71 v0 σ = some r) (hv0 : LC.1 v0 = 1) (hw : PH D cy LC b σ s H locs) (hl : lv_has ls 4 [(0, .ref (b + v0))]) : W p l e (rmD 2) s m args below meth c H locs 0 0 (MQ below (QcP D cy LC b none r) args s 0 0 (inP LC b)) (F0 m 71 ls []) := by
  have hx := E.1.1
  have hb := E.1.2.1
  unfold k_X1_keepRow_71 at hm
  refine lv_aload_n hx hb dX1_keepRow_71 rfl (lv_at hl 0 rfl) ?_
  refine lv_dup hx hb dX1_keepRow_72 rfl ?_
  refine q_geti E hw fw_X1_27 rfl hv0 dX1_keepRow_73 ?_
  refine lv_iconst (v := 1) hx hb dX1_keepRow_76 (by decide) ?_
  refine lv_iadd hx hb dX1_keepRow_77 ?_
  refine q_pi E hw hm fw_X1_27 rfl rfl hv0 dX1_keepRow_78 (fun σ1 H locs hm hw => ?_)
  exact q_vret E hr hlk hw hm dX1_keepRow_81
def f_X1_keepRow (v0 : Nat) (v1 : Nat) (v2 : Int32) (σ : ST) : Option (ST) :=
  (f_X7_isSum (LC.2.1 v1 0) v2 σ).bind fun u2 =>
  if u2.1 = 0 then ((f_X10_valuesIn v1 (LC.2.1 v0 0) 0 v2 (LC.2.1 v0 1) ((gI σ v0 3) * 180) u2.2).bind fun u4 =>
  (stA LC u4.2 (LC.2.1 v0 2) (gI u2.2 v0 3) u4.1).bind fun σ5 =>
  k_X1_keepRow_71 v0 σ5) else ((f_X0_sumOf (LC.2.1 v0 0) 0 u2.2).bind fun u6 =>
  (stA LC u6.2 (LC.2.1 v0 1) ((gI σ v0 3) * 180) u6.1).bind fun σ7 =>
  (stA LC σ7 (LC.2.1 v0 2) (gI σ7 v0 3) 1).bind fun σ8 =>
  k_X1_keepRow_71 v0 σ8)
set_option maxRecDepth 20000 in
set_option maxHeartbeats 1000000 in
theorem w_X1_keepRow_0 {p : Program} {l : Launch} {e : Env} {s : State} {m : MethodId} {args : Array Value} {below : List Frame} {meth : Method} {c : Code} {D : va_G} {cy : Nat → ClassId} {b : Nat} (E : CX p m c cX1_keepRow 4 s args RX1 D cy LC) (hr : meth.sig.returnType = none) (hlk : meth.locks = false) {r : ST} {v0 : Nat} {v1 : Nat} {v2 : Int32} {σ : ST} {H : Heap} {locs : List Loc} {ls : Array Slot} (hm : f_X1_keepRow v0 v1 v2 σ = some r) (hv0 : LC.1 v0 = 1) (hv1 : LC.1 v1 = 10) (hw : PH D cy LC b σ s H locs) (hl : lv_has ls 4 [(0, .ref (b + v0)), (1, .ref (b + v1)), (2, .int v2)]) : W p l e (rmD 2) s m args below meth c H locs 0 0 (MQ below (QcP D cy LC b none r) args s 0 0 (inP LC b)) (F0 m 0 ls []) := by
  have hx := E.1.1
  have hb := E.1.2.1
  unfold f_X1_keepRow at hm
  refine lv_aload_n hx hb dX1_keepRow_0 rfl (lv_at hl 0 rfl) ?_
  refine q_geti E hw fw_X1_27 rfl hv0 dX1_keepRow_1 ?_
  refine lv_sipush (v := 180) hx hb dX1_keepRow_4 (by decide) ?_
  refine lv_imul hx hb dX1_keepRow_7 ?_
  refine lv_istore_n (lv' := [(3, .int ((gI σ v0 3) * 180)), (0, .ref (b + v0)), (1, .ref (b + v1)), (2, .int v2)]) hx hb dX1_keepRow_8 rfl hl (by decide) rfl (fun ls hl => ?_)
  refine lv_aload_n hx hb dX1_keepRow_9 rfl (lv_at hl 2 rfl) ?_
  refine q_geta E hw fw_X1_43 rfl hv1 dX1_keepRow_10 ?_
  refine lv_iload_n hx hb dX1_keepRow_13 rfl (lv_at hl 3 rfl) ?_
  refine q_cVi (κ := 7) (C := RX7) (T := TX7) (N := 12) [] E hw hm mw_X1_60 (fun u hu => c_X7_isSum hu (tC_10_0 hv1)) rfl (by decide) (tC_10_0 hv1) rfl rfl hl.1 (Nat.le_of_ble_eq_true rfl) ⟨Nat.le_of_ble_eq_true rfl, Nat.le_of_ble_eq_true rfl⟩ dX1_keepRow_14 (fun u2 H locs hm hw => ?_)
  refine lv_if_eq (tgt := 47) hx hb dX1_keepRow_17 (by decide) (fun c3 => ?_) (fun c3 => ?_)
  · have hm := o_t c3 hm
    refine lv_aload_n hx hb dX1_keepRow_47 rfl (lv_at hl 1 rfl) ?_
    refine q_geta E hw fw_X1_24 rfl hv0 dX1_keepRow_48 ?_
    refine lv_aload_n hx hb dX1_keepRow_51 rfl (lv_at hl 1 rfl) ?_
    refine q_geti E hw fw_X1_27 rfl hv0 dX1_keepRow_52 ?_
    refine lv_aload_n hx hb dX1_keepRow_55 rfl (lv_at hl 2 rfl) ?_
    refine lv_aload_n hx hb dX1_keepRow_56 rfl (lv_at hl 1 rfl) ?_
    refine q_geta E hw fw_X1_14 rfl hv0 dX1_keepRow_57 ?_
    refine lv_iconst (v := 0) hx hb dX1_keepRow_60 (by decide) ?_
    refine lv_iload_n hx hb dX1_keepRow_61 rfl (lv_at hl 3 rfl) ?_
    refine lv_aload_n hx hb dX1_keepRow_62 rfl (lv_at hl 1 rfl) ?_
    refine q_geta E hw fw_X1_20 rfl hv0 dX1_keepRow_63 ?_
    refine lv_iload_n hx hb dX1_keepRow_66 rfl (lv_at hl 0 rfl) ?_
    refine q_cVi (κ := 10) (C := RX10) (T := TX10) (N := 12) [.int (gI u2.2 v0 3), .ref (b + (LC.2.1 v0 2))] E hw hm mw_X1_67 (fun u hu => c_X10_valuesIn hu hv1 (tC_1_0 hv0) (tC_1_1 hv0)) rfl (by decide) hv1 rfl rfl hl.1 (Nat.le_of_ble_eq_true rfl) ⟨Nat.le_of_ble_eq_true rfl, Nat.le_of_ble_eq_true rfl⟩ dX1_keepRow_67 (fun u4 H locs hm hw => ?_)
    refine q_iast E hw (tC_1_2 hv0) hm dX1_keepRow_70 (fun σ5 H locs hm hw => ?_)
    exact w_X1_keepRow_71 E hr hlk hm hv0 hw (lv_sub hl [1] rfl)
  · have hm := o_f c3 hm
    refine lv_aload_n hx hb dX1_keepRow_20 rfl (lv_at hl 1 rfl) ?_
    refine q_geta E hw fw_X1_20 rfl hv0 dX1_keepRow_21 ?_
    refine lv_iload_n hx hb dX1_keepRow_24 rfl (lv_at hl 0 rfl) ?_
    refine lv_aload_n hx hb dX1_keepRow_25 rfl (lv_at hl 1 rfl) ?_
    refine q_geta E hw fw_X1_14 rfl hv0 dX1_keepRow_26 ?_
    refine lv_iconst (v := 0) hx hb dX1_keepRow_29 (by decide) ?_
    refine q_cVi (κ := 0) (C := RX0) (T := TX0) (N := 2) [.int ((gI σ v0 3) * 180), .ref (b + (LC.2.1 v0 1))] E hw hm mw_X1_64 (fun u hu => c_X0_sumOf hu (tC_1_0 hv0)) rfl (by decide) (tC_1_0 hv0) rfl rfl hl.1 (Nat.le_of_ble_eq_true rfl) ⟨Nat.le_of_ble_eq_true rfl, Nat.le_of_ble_eq_true rfl⟩ dX1_keepRow_30 (fun u6 H locs hm hw => ?_)
    refine q_iast E hw (tC_1_1 hv0) hm dX1_keepRow_33 (fun σ7 H locs hm hw => ?_)
    refine lv_aload_n hx hb dX1_keepRow_34 rfl (lv_at hl 1 rfl) ?_
    refine q_geta E hw fw_X1_24 rfl hv0 dX1_keepRow_35 ?_
    refine lv_aload_n hx hb dX1_keepRow_38 rfl (lv_at hl 1 rfl) ?_
    refine q_geti E hw fw_X1_27 rfl hv0 dX1_keepRow_39 ?_
    refine lv_iconst (v := 1) hx hb dX1_keepRow_42 (by decide) ?_
    refine q_iast E hw (tC_1_2 hv0) hm dX1_keepRow_43 (fun σ8 H locs hm hw => ?_)
    refine lv_goto (tgt := 71) hx hb dX1_keepRow_44 (by decide) ?_
    exact w_X1_keepRow_71 E hr hlk hm hv0 hw (lv_sub hl [1] rfl)
theorem c_X1_keepRow {l : Launch} {D : va_G} {cy : Nat → ClassId} {b : Nat} {v0 : Nat} {v1 : Nat} {v2 : Int32} {σ : ST} {r : ST} (hm : f_X1_keepRow v0 v1 v2 σ = some r) (hv0 : LC.1 v0 = 1) (hv1 : LC.1 v1 = 10) : Met l yX1_keepRow (wU yX1_keepRow cX1_keepRow 4 (none)) (rmD 2) (PcP D cy LC b [.ref (b + v0), .ref (b + v1), .int v2] σ) (QcP D cy LC b none r) 0 0 (inP LC b) :=
  q_met (lv := [(0, .ref (b + v0)), (1, .ref (b + v1)), (2, .int v2)]) LC_ok (by decide) (Nat.le_of_ble_eq_true rfl) rfl (fun _ _ _ _ _ _ _ _ _ E hr hlk hw hl => w_X1_keepRow_0 E hr hlk hm hv0 hv1 hw hl)

def k_X1_fill_93 (s0 : Int32) (σ : ST) : Option (Int32 × ST) :=
  (ckZ s0).bind fun z => some (z, σ)
set_option maxRecDepth 20000 in
set_option maxHeartbeats 1000000 in
theorem w_X1_fill_93 {p : Program} {l : Launch} {e : Env} {s : State} {m : MethodId} {args : Array Value} {below : List Frame} {meth : Method} {c : Code} {D : va_G} {cy : Nat → ClassId} {b : Nat} (E : CX p m c cX1_fill 6 s args RX1 D cy LC) (hr : meth.sig.returnType = some .boolean) (hlk : meth.locks = false) {r : Int32 × ST} {s0 : Int32} {σ : ST} {H : Heap} {locs : List Loc} {ls : Array Slot} (hm : k_X1_fill_93 s0 σ = some r) (hw : PH D cy LC b σ s H locs) (hl : lv_has ls 6 []) : W p l e (rmD 4) s m args below meth c H locs 0 0 (MQ below (QcP D cy LC b (some (.int r.1)) r.2) args s 0 0 (inP LC b)) (F0 m 93 ls [.int s0]) := by
  have hx := E.1.1
  have hb := E.1.2.1
  unfold k_X1_fill_93 at hm
  exact q_zret E hr hlk hw hm dX1_fill_93
def k_X1_fill_81 (v0 : Nat) (σ : ST) : Option (Int32 × ST) :=
  if (gI σ v0 3) ≤ 0 then (k_X1_fill_93 0 σ) else (k_X1_fill_93 1 σ)
set_option maxRecDepth 20000 in
set_option maxHeartbeats 1000000 in
theorem w_X1_fill_81 {p : Program} {l : Launch} {e : Env} {s : State} {m : MethodId} {args : Array Value} {below : List Frame} {meth : Method} {c : Code} {D : va_G} {cy : Nat → ClassId} {b : Nat} (E : CX p m c cX1_fill 6 s args RX1 D cy LC) (hr : meth.sig.returnType = some .boolean) (hlk : meth.locks = false) {r : Int32 × ST} {v0 : Nat} {σ : ST} {H : Heap} {locs : List Loc} {ls : Array Slot} (hm : k_X1_fill_81 v0 σ = some r) (hv0 : LC.1 v0 = 1) (hw : PH D cy LC b σ s H locs) (hl : lv_has ls 6 [(0, .ref (b + v0))]) : W p l e (rmD 4) s m args below meth c H locs 0 0 (MQ below (QcP D cy LC b (some (.int r.1)) r.2) args s 0 0 (inP LC b)) (F0 m 81 ls []) := by
  have hx := E.1.1
  have hb := E.1.2.1
  unfold k_X1_fill_81 at hm
  refine lv_aload_n hx hb dX1_fill_81 rfl (lv_at hl 0 rfl) ?_
  refine q_geti E hw fw_X1_27 rfl hv0 dX1_fill_82 ?_
  refine lv_if_le (tgt := 92) hx hb dX1_fill_85 (by decide) (fun c1 => ?_) (fun c1 => ?_)
  · have hm := o_t c1 hm
    refine lv_iconst (v := 0) hx hb dX1_fill_92 (by decide) ?_
    exact w_X1_fill_93 E hr hlk hm  hw (lv_sub hl [] rfl)
  · have hm := o_f c1 hm
    refine lv_iconst (v := 1) hx hb dX1_fill_88 (by decide) ?_
    refine lv_goto (tgt := 93) hx hb dX1_fill_89 (by decide) ?_
    exact w_X1_fill_93 E hr hlk hm  hw (lv_sub hl [] rfl)
def k_X1_fill_75 (rec16 : Nat → Nat → Int32 → Int32 → Int32 → ST → Option (Int32 × ST)) (v0 : Nat) (v1 : Nat) (v2 : Int32) (v4 : Int32) (v5 : Int32) (σ : ST) : Option (Int32 × ST) :=
  rec16 v0 v1 v2 v4 (v5 + 1) σ
set_option maxRecDepth 20000 in
set_option maxHeartbeats 1000000 in
theorem w_X1_fill_75 {p : Program} {l : Launch} {e : Env} {s : State} {m : MethodId} {args : Array Value} {below : List Frame} {meth : Method} {c : Code} {D : va_G} {cy : Nat → ClassId} {b : Nat} (E : CX p m c cX1_fill 6 s args RX1 D cy LC) (hr : meth.sig.returnType = some .boolean) (hlk : meth.locks = false) {r : Int32 × ST} {rec16 : Nat → Nat → Int32 → Int32 → Int32 → ST → Option (Int32 × ST)} (hrec16 : ∀ (v0 : Nat) (v1 : Nat) (v2 : Int32) (v4 : Int32) (v5 : Int32) (σ : ST) (H : Heap) (locs : List Loc) (ls : Array Slot), rec16 v0 v1 v2 v4 v5 σ = some r → LC.1 v0 = 1 → LC.1 v1 = 10 → PH D cy LC b σ s H locs → lv_has ls 6 [(0, .ref (b + v0)), (1, .ref (b + v1)), (2, .int v2), (4, .int v4), (5, .int v5)] → W p l e (rmD 4) s m args below meth c H locs 0 0 (MQ below (QcP D cy LC b (some (.int r.1)) r.2) args s 0 0 (inP LC b)) (F0 m 16 ls [])) {v0 : Nat} {v1 : Nat} {v2 : Int32} {v4 : Int32} {v5 : Int32} {σ : ST} {H : Heap} {locs : List Loc} {ls : Array Slot} (hm : k_X1_fill_75 rec16 v0 v1 v2 v4 v5 σ = some r) (hv0 : LC.1 v0 = 1) (hv1 : LC.1 v1 = 10) (hw : PH D cy LC b σ s H locs) (hl : lv_has ls 6 [(0, .ref (b + v0)), (1, .ref (b + v1)), (2, .int v2), (4, .int v4), (5, .int v5)]) : W p l e (rmD 4) s m args below meth c H locs 0 0 (MQ below (QcP D cy LC b (some (.int r.1)) r.2) args s 0 0 (inP LC b)) (F0 m 75 ls []) := by
  have hx := E.1.1
  have hb := E.1.2.1
  unfold k_X1_fill_75 at hm
  refine lv_iinc (v := v5 + 1) (lv' := [(5, .int (v5 + 1)), (0, .ref (b + v0)), (1, .ref (b + v1)), (2, .int v2), (4, .int v4)]) hx hb dX1_fill_75 hl (k := 4) rfl rfl (by decide) rfl (fun ls hl => ?_)
  refine lv_goto (tgt := 16) hx hb dX1_fill_78 (by decide) ?_
  exact hrec16 _ _ _ _ _ _ _ _ _ hm hv0 hv1 hw (lv_sub hl [1, 2, 3, 4, 0] rfl)
def k_X1_fill_16 : Nat → Nat → Nat → Int32 → Int32 → Int32 → ST → Option (Int32 × ST)
  | 0, _, _, _, _, _, _ => none
  | n + 1, v0, v1, v2, v4, v5, σ => if v4 < v5 then (k_X1_fill_81 v0 σ) else (if 20 ≤ (gI σ v0 3) then (k_X1_fill_81 v0 σ) else (if (v5 &&& (v4 ^^^ (-1))) = 0 then ((f_J6_bitCount_0f7a4 v5 σ).bind fun u5 =>
  if u5.1 = (gI u5.2 (LC.2.1 v1 0) 10) then ((f_X10_joinSet v1 v5 v2 (LC.2.1 v0 0) 0 u5.2).bind fun u7 =>
  (f_X1_keepRow v0 v1 v2 u7).bind fun u8 =>
  k_X1_fill_75 (k_X1_fill_16 n) v0 v1 v2 v4 v5 u8) else (k_X1_fill_75 (k_X1_fill_16 n) v0 v1 v2 v4 v5 u5.2)) else (k_X1_fill_75 (k_X1_fill_16 n) v0 v1 v2 v4 v5 σ)))
set_option maxRecDepth 20000 in
set_option maxHeartbeats 1000000 in
theorem w_X1_fill_16 {p : Program} {l : Launch} {e : Env} {s : State} {m : MethodId} {args : Array Value} {below : List Frame} {meth : Method} {c : Code} {D : va_G} {cy : Nat → ClassId} {b : Nat} (E : CX p m c cX1_fill 6 s args RX1 D cy LC) (hr : meth.sig.returnType = some .boolean) (hlk : meth.locks = false) {r : Int32 × ST} : ∀ (n : Nat) (v0 : Nat) (v1 : Nat) (v2 : Int32) (v4 : Int32) (v5 : Int32) (σ : ST) (H : Heap) (locs : List Loc) (ls : Array Slot), k_X1_fill_16 n v0 v1 v2 v4 v5 σ = some r → LC.1 v0 = 1 → LC.1 v1 = 10 → PH D cy LC b σ s H locs → lv_has ls 6 [(0, .ref (b + v0)), (1, .ref (b + v1)), (2, .int v2), (4, .int v4), (5, .int v5)] → W p l e (rmD 4) s m args below meth c H locs 0 0 (MQ below (QcP D cy LC b (some (.int r.1)) r.2) args s 0 0 (inP LC b)) (F0 m 16 ls []) := by
  have hx := E.1.1
  have hb := E.1.2.1
  intro n
  induction n with
  | zero =>
    intro v0 v1 v2 v4 v5 σ H locs ls hm
    cases hm
  | succ n ih =>
    intro v0 v1 v2 v4 v5 σ H locs ls hm hv0 hv1 hw hl
    rw [k_X1_fill_16] at hm
    refine lv_iload hx hb dX1_fill_16 (lv_at hl 4 rfl) ?_
    refine lv_iload hx hb dX1_fill_18 (lv_at hl 3 rfl) ?_
    refine lv_icmp_gt (tgt := 81) hx hb dX1_fill_20 (by decide) (fun c2 => ?_) (fun c2 => ?_)
    · have hm := o_t c2 hm
      exact w_X1_fill_81 E hr hlk hm hv0 hw (lv_sub hl [0] rfl)
    · have hm := o_f c2 hm
      refine lv_aload_n hx hb dX1_fill_23 rfl (lv_at hl 0 rfl) ?_
      refine q_geti E hw fw_X1_27 rfl hv0 dX1_fill_24 ?_
      refine lv_bipush (v := 20) hx hb dX1_fill_27 (by decide) ?_
      refine lv_icmp_ge (tgt := 81) hx hb dX1_fill_29 (by decide) (fun c3 => ?_) (fun c3 => ?_)
      · have hm := o_t c3 hm
        exact w_X1_fill_81 E hr hlk hm hv0 hw (lv_sub hl [0] rfl)
      · have hm := o_f c3 hm
        refine lv_iload hx hb dX1_fill_32 (lv_at hl 4 rfl) ?_
        refine lv_iload hx hb dX1_fill_34 (lv_at hl 3 rfl) ?_
        refine lv_iconst (v := (-1)) hx hb dX1_fill_36 (by decide) ?_
        refine lv_ixor hx hb dX1_fill_37 ?_
        refine lv_iand hx hb dX1_fill_38 ?_
        refine lv_if_ne (tgt := 75) hx hb dX1_fill_39 (by decide) (fun c4 => ?_) (fun c4 => ?_)
        · have hm := o_f c4 hm
          exact w_X1_fill_75 E hr hlk ih hm hv0 hv1 hw (lv_sub hl [0, 1, 2, 3, 4] rfl)
        · have hm := o_t c4 hm
          refine lv_iload hx hb dX1_fill_42 (lv_at hl 4 rfl) ?_
          refine q_cSi [] E hw hm ms_X1_37 (fun u hu => c_J6_bitCount_0f7a4 hu ) rfl rfl hl.1 (Nat.le_of_ble_eq_true rfl) ⟨Nat.le_of_ble_eq_true rfl, Nat.le_of_ble_eq_true rfl⟩ dX1_fill_44 (fun u5 H locs hm hw => ?_)
          refine lv_aload_n hx hb dX1_fill_47 rfl (lv_at hl 1 rfl) ?_
          refine q_geta E hw fw_X1_43 rfl hv1 dX1_fill_48 ?_
          refine q_geti E hw fw_X1_47 rfl (tC_10_0 hv1) dX1_fill_51 ?_
          refine lv_icmp_ne (tgt := 75) hx hb dX1_fill_54 (by decide) (fun c6 => ?_) (fun c6 => ?_)
          · have hm := o_f c6 hm
            exact w_X1_fill_75 E hr hlk ih hm hv0 hv1 hw (lv_sub hl [0, 1, 2, 3, 4] rfl)
          · have hm := o_t c6 hm
            refine lv_aload_n hx hb dX1_fill_57 rfl (lv_at hl 1 rfl) ?_
            refine lv_iload hx hb dX1_fill_58 (lv_at hl 4 rfl) ?_
            refine lv_iload_n hx hb dX1_fill_60 rfl (lv_at hl 2 rfl) ?_
            refine lv_aload_n hx hb dX1_fill_61 rfl (lv_at hl 0 rfl) ?_
            refine q_geta E hw fw_X1_14 rfl hv0 dX1_fill_62 ?_
            refine lv_iconst (v := 0) hx hb dX1_fill_65 (by decide) ?_
            refine q_cVv (κ := 10) (C := RX10) (T := TX10) (N := 12) [] E hw hm mw_X1_52 (fun u hu => c_X10_joinSet hu hv1 (tC_1_0 hv0)) rfl (by decide) hv1 rfl rfl hl.1 (Nat.le_of_ble_eq_true rfl) ⟨Nat.le_of_ble_eq_true rfl, Nat.le_of_ble_eq_true rfl⟩ dX1_fill_66 (fun u7 H locs hm hw => ?_)
            refine lv_aload_n hx hb dX1_fill_69 rfl (lv_at hl 0 rfl) ?_
            refine lv_aload_n hx hb dX1_fill_70 rfl (lv_at hl 1 rfl) ?_
            refine lv_iload_n hx hb dX1_fill_71 rfl (lv_at hl 2 rfl) ?_
            refine q_cVv (κ := 1) (C := RX1) (T := TX1) (N := 4) [] E hw hm mw_X1_56 (fun u hu => c_X1_keepRow hu hv0 hv1) rfl (by decide) hv0 rfl rfl hl.1 (Nat.le_of_ble_eq_true rfl) ⟨Nat.le_of_ble_eq_true rfl, Nat.le_of_ble_eq_true rfl⟩ dX1_fill_72 (fun u8 H locs hm hw => ?_)
            exact w_X1_fill_75 E hr hlk ih hm hv0 hv1 hw (lv_sub hl [0, 1, 2, 3, 4] rfl)
def f_X1_fill (v0 : Nat) (v1 : Nat) (v2 : Int32) (v3 : Int32) (σ : ST) : Option (Int32 × ST) :=
  (stI σ v0 3 0).bind fun σ9 =>
  (f_X10_placesReached v1 v2 v3 σ9).bind fun u10 =>
  k_X1_fill_16 FU v0 v1 v2 u10.1 1 u10.2
set_option maxRecDepth 20000 in
set_option maxHeartbeats 1000000 in
theorem w_X1_fill_0 {p : Program} {l : Launch} {e : Env} {s : State} {m : MethodId} {args : Array Value} {below : List Frame} {meth : Method} {c : Code} {D : va_G} {cy : Nat → ClassId} {b : Nat} (E : CX p m c cX1_fill 6 s args RX1 D cy LC) (hr : meth.sig.returnType = some .boolean) (hlk : meth.locks = false) {r : Int32 × ST} {v0 : Nat} {v1 : Nat} {v2 : Int32} {v3 : Int32} {σ : ST} {H : Heap} {locs : List Loc} {ls : Array Slot} (hm : f_X1_fill v0 v1 v2 v3 σ = some r) (hv0 : LC.1 v0 = 1) (hv1 : LC.1 v1 = 10) (hw : PH D cy LC b σ s H locs) (hl : lv_has ls 6 [(0, .ref (b + v0)), (1, .ref (b + v1)), (2, .int v2), (3, .int v3)]) : W p l e (rmD 4) s m args below meth c H locs 0 0 (MQ below (QcP D cy LC b (some (.int r.1)) r.2) args s 0 0 (inP LC b)) (F0 m 0 ls []) := by
  have hx := E.1.1
  have hb := E.1.2.1
  unfold f_X1_fill at hm
  refine lv_aload_n hx hb dX1_fill_0 rfl (lv_at hl 0 rfl) ?_
  refine lv_iconst (v := 0) hx hb dX1_fill_1 (by decide) ?_
  refine q_pi E hw hm fw_X1_27 rfl rfl hv0 dX1_fill_2 (fun σ9 H locs hm hw => ?_)
  refine lv_aload_n hx hb dX1_fill_5 rfl (lv_at hl 1 rfl) ?_
  refine lv_iload_n hx hb dX1_fill_6 rfl (lv_at hl 2 rfl) ?_
  refine lv_iload_n hx hb dX1_fill_7 rfl (lv_at hl 3 rfl) ?_
  refine q_cVi (κ := 10) (C := RX10) (T := TX10) (N := 12) [] E hw hm mw_X1_31 (fun u hu => c_X10_placesReached hu hv1) rfl (by decide) hv1 rfl rfl hl.1 (Nat.le_of_ble_eq_true rfl) ⟨Nat.le_of_ble_eq_true rfl, Nat.le_of_ble_eq_true rfl⟩ dX1_fill_8 (fun u10 H locs hm hw => ?_)
  refine lv_istore (lv' := [(4, .int u10.1), (0, .ref (b + v0)), (1, .ref (b + v1)), (2, .int v2), (3, .int v3)]) hx hb dX1_fill_11 hl (by decide) rfl (fun ls hl => ?_)
  refine lv_iconst (v := 1) hx hb dX1_fill_13 (by decide) ?_
  refine lv_istore (lv' := [(5, .int 1), (4, .int u10.1), (0, .ref (b + v0)), (1, .ref (b + v1)), (2, .int v2), (3, .int v3)]) hx hb dX1_fill_14 hl (by decide) rfl (fun ls hl => ?_)
  exact w_X1_fill_16 E hr hlk _ _ _ _ _ _ _ _ _ _ hm hv0 hv1 hw (lv_sub hl [2, 3, 4, 1, 0] rfl)
theorem c_X1_fill {l : Launch} {D : va_G} {cy : Nat → ClassId} {b : Nat} {v0 : Nat} {v1 : Nat} {v2 : Int32} {v3 : Int32} {σ : ST} {r : Int32 × ST} (hm : f_X1_fill v0 v1 v2 v3 σ = some r) (hv0 : LC.1 v0 = 1) (hv1 : LC.1 v1 = 10) : Met l yX1_fill (wU yX1_fill cX1_fill 6 (some .boolean)) (rmD 4) (PcP D cy LC b [.ref (b + v0), .ref (b + v1), .int v2, .int v3] σ) (QcP D cy LC b (some (.int r.1)) r.2) 0 0 (inP LC b) :=
  q_met (lv := [(0, .ref (b + v0)), (1, .ref (b + v1)), (2, .int v2), (3, .int v3)]) LC_ok (by decide) (Nat.le_of_ble_eq_true rfl) rfl (fun _ _ _ _ _ _ _ _ _ E hr hlk hw hl => w_X1_fill_0 E hr hlk hm hv0 hv1 hw hl)

def k_X1_areSameRows_19 : Nat → Nat → Int32 → Int32 → Int32 → ST → Option (Int32 × ST)
  | 0, _, _, _, _, _ => none
  | n + 1, v0, v1, v2, v3, σ => (ldA LC σ (LC.2.1 v0 2) v1).bind fun a1 =>
  if a1 ≤ v3 then ((ckZ 1).bind fun z => some (z, σ)) else ((ldA LC σ (LC.2.1 v0 1) ((v1 * 180) + v3)).bind fun a3 =>
  (ldA LC σ (LC.2.1 v0 1) ((v2 * 180) + v3)).bind fun a4 =>
  if a3 = a4 then (k_X1_areSameRows_19 n v0 v1 v2 (v3 + 1) σ) else ((ckZ 0).bind fun z => some (z, σ)))
set_option maxRecDepth 20000 in
set_option maxHeartbeats 1000000 in
theorem w_X1_areSameRows_19 {p : Program} {l : Launch} {e : Env} {s : State} {m : MethodId} {args : Array Value} {below : List Frame} {meth : Method} {c : Code} {D : va_G} {cy : Nat → ClassId} {b : Nat} (E : CX p m c cX1_areSameRows 4 s args RX1 D cy LC) (hr : meth.sig.returnType = some .boolean) (hlk : meth.locks = false) {r : Int32 × ST} : ∀ (n : Nat) (v0 : Nat) (v1 : Int32) (v2 : Int32) (v3 : Int32) (σ : ST) (H : Heap) (locs : List Loc) (ls : Array Slot), k_X1_areSameRows_19 n v0 v1 v2 v3 σ = some r → LC.1 v0 = 1 → PH D cy LC b σ s H locs → lv_has ls 4 [(0, .ref (b + v0)), (1, .int v1), (2, .int v2), (3, .int v3)] → W p l e (rmD 0) s m args below meth c H locs 0 0 (MQ below (QcP D cy LC b (some (.int r.1)) r.2) args s 0 0 (inP LC b)) (F0 m 19 ls []) := by
  have hx := E.1.1
  have hb := E.1.2.1
  intro n
  induction n with
  | zero =>
    intro v0 v1 v2 v3 σ H locs ls hm
    cases hm
  | succ n ih =>
    intro v0 v1 v2 v3 σ H locs ls hm hv0 hw hl
    rw [k_X1_areSameRows_19] at hm
    refine lv_iload_n hx hb dX1_areSameRows_19 rfl (lv_at hl 3 rfl) ?_
    refine lv_aload_n hx hb dX1_areSameRows_20 rfl (lv_at hl 0 rfl) ?_
    refine q_geta E hw fw_X1_24 rfl hv0 dX1_areSameRows_21 ?_
    refine lv_iload_n hx hb dX1_areSameRows_24 rfl (lv_at hl 1 rfl) ?_
    refine q_iald E hw (tC_1_2 hv0) hm dX1_areSameRows_25 (fun a1 hm => ?_)
    refine lv_icmp_ge (tgt := 64) hx hb dX1_areSameRows_26 (by decide) (fun c2 => ?_) (fun c2 => ?_)
    · have hm := o_t c2 hm
      refine lv_iconst (v := 1) hx hb dX1_areSameRows_64 (by decide) ?_
      exact q_zret E hr hlk hw hm dX1_areSameRows_65
    · have hm := o_f c2 hm
      refine lv_aload_n hx hb dX1_areSameRows_29 rfl (lv_at hl 0 rfl) ?_
      refine q_geta E hw fw_X1_20 rfl hv0 dX1_areSameRows_30 ?_
      refine lv_iload_n hx hb dX1_areSameRows_33 rfl (lv_at hl 1 rfl) ?_
      refine lv_sipush (v := 180) hx hb dX1_areSameRows_34 (by decide) ?_
      refine lv_imul hx hb dX1_areSameRows_37 ?_
      refine lv_iload_n hx hb dX1_areSameRows_38 rfl (lv_at hl 3 rfl) ?_
      refine lv_iadd hx hb dX1_areSameRows_39 ?_
      refine q_iald E hw (tC_1_1 hv0) hm dX1_areSameRows_40 (fun a3 hm => ?_)
      refine lv_aload_n hx hb dX1_areSameRows_41 rfl (lv_at hl 0 rfl) ?_
      refine q_geta E hw fw_X1_20 rfl hv0 dX1_areSameRows_42 ?_
      refine lv_iload_n hx hb dX1_areSameRows_45 rfl (lv_at hl 2 rfl) ?_
      refine lv_sipush (v := 180) hx hb dX1_areSameRows_46 (by decide) ?_
      refine lv_imul hx hb dX1_areSameRows_49 ?_
      refine lv_iload_n hx hb dX1_areSameRows_50 rfl (lv_at hl 3 rfl) ?_
      refine lv_iadd hx hb dX1_areSameRows_51 ?_
      refine q_iald E hw (tC_1_1 hv0) hm dX1_areSameRows_52 (fun a4 hm => ?_)
      refine lv_icmp_eq (tgt := 58) hx hb dX1_areSameRows_53 (by decide) (fun c5 => ?_) (fun c5 => ?_)
      · have hm := o_t c5 hm
        refine lv_iinc (v := v3 + 1) (lv' := [(3, .int (v3 + 1)), (0, .ref (b + v0)), (1, .int v1), (2, .int v2)]) hx hb dX1_areSameRows_58 hl (k := 3) rfl rfl (by decide) rfl (fun ls hl => ?_)
        refine lv_goto (tgt := 19) hx hb dX1_areSameRows_61 (by decide) ?_
        exact ih _ _ _ _ _ _ _ _ hm hv0 hw (lv_sub hl [1, 2, 3, 0] rfl)
      · have hm := o_f c5 hm
        refine lv_iconst (v := 0) hx hb dX1_areSameRows_56 (by decide) ?_
        exact q_zret E hr hlk hw hm dX1_areSameRows_57
def f_X1_areSameRows (v0 : Nat) (v1 : Int32) (v2 : Int32) (σ : ST) : Option (Int32 × ST) :=
  (ldA LC σ (LC.2.1 v0 2) v1).bind fun a6 =>
  (ldA LC σ (LC.2.1 v0 2) v2).bind fun a7 =>
  if a6 = a7 then (k_X1_areSameRows_19 FU v0 v1 v2 0 σ) else ((ckZ 0).bind fun z => some (z, σ))
set_option maxRecDepth 20000 in
set_option maxHeartbeats 1000000 in
theorem w_X1_areSameRows_0 {p : Program} {l : Launch} {e : Env} {s : State} {m : MethodId} {args : Array Value} {below : List Frame} {meth : Method} {c : Code} {D : va_G} {cy : Nat → ClassId} {b : Nat} (E : CX p m c cX1_areSameRows 4 s args RX1 D cy LC) (hr : meth.sig.returnType = some .boolean) (hlk : meth.locks = false) {r : Int32 × ST} {v0 : Nat} {v1 : Int32} {v2 : Int32} {σ : ST} {H : Heap} {locs : List Loc} {ls : Array Slot} (hm : f_X1_areSameRows v0 v1 v2 σ = some r) (hv0 : LC.1 v0 = 1) (hw : PH D cy LC b σ s H locs) (hl : lv_has ls 4 [(0, .ref (b + v0)), (1, .int v1), (2, .int v2)]) : W p l e (rmD 0) s m args below meth c H locs 0 0 (MQ below (QcP D cy LC b (some (.int r.1)) r.2) args s 0 0 (inP LC b)) (F0 m 0 ls []) := by
  have hx := E.1.1
  have hb := E.1.2.1
  unfold f_X1_areSameRows at hm
  refine lv_aload_n hx hb dX1_areSameRows_0 rfl (lv_at hl 0 rfl) ?_
  refine q_geta E hw fw_X1_24 rfl hv0 dX1_areSameRows_1 ?_
  refine lv_iload_n hx hb dX1_areSameRows_4 rfl (lv_at hl 1 rfl) ?_
  refine q_iald E hw (tC_1_2 hv0) hm dX1_areSameRows_5 (fun a6 hm => ?_)
  refine lv_aload_n hx hb dX1_areSameRows_6 rfl (lv_at hl 0 rfl) ?_
  refine q_geta E hw fw_X1_24 rfl hv0 dX1_areSameRows_7 ?_
  refine lv_iload_n hx hb dX1_areSameRows_10 rfl (lv_at hl 2 rfl) ?_
  refine q_iald E hw (tC_1_2 hv0) hm dX1_areSameRows_11 (fun a7 hm => ?_)
  refine lv_icmp_eq (tgt := 17) hx hb dX1_areSameRows_12 (by decide) (fun c8 => ?_) (fun c8 => ?_)
  · have hm := o_t c8 hm
    refine lv_iconst (v := 0) hx hb dX1_areSameRows_17 (by decide) ?_
    refine lv_istore_n (lv' := [(3, .int 0), (0, .ref (b + v0)), (1, .int v1), (2, .int v2)]) hx hb dX1_areSameRows_18 rfl hl (by decide) rfl (fun ls hl => ?_)
    exact w_X1_areSameRows_19 E hr hlk _ _ _ _ _ _ _ _ _ hm hv0 hw (lv_sub hl [1, 2, 3, 0] rfl)
  · have hm := o_f c8 hm
    refine lv_iconst (v := 0) hx hb dX1_areSameRows_15 (by decide) ?_
    exact q_zret E hr hlk hw hm dX1_areSameRows_16
theorem c_X1_areSameRows {l : Launch} {D : va_G} {cy : Nat → ClassId} {b : Nat} {v0 : Nat} {v1 : Int32} {v2 : Int32} {σ : ST} {r : Int32 × ST} (hm : f_X1_areSameRows v0 v1 v2 σ = some r) (hv0 : LC.1 v0 = 1) : Met l yX1_areSameRows (wU yX1_areSameRows cX1_areSameRows 4 (some .boolean)) (rmD 0) (PcP D cy LC b [.ref (b + v0), .int v1, .int v2] σ) (QcP D cy LC b (some (.int r.1)) r.2) 0 0 (inP LC b) :=
  q_met (lv := [(0, .ref (b + v0)), (1, .int v1), (2, .int v2)]) LC_ok (by decide) (Nat.le_of_ble_eq_true rfl) rfl (fun _ _ _ _ _ _ _ _ _ E hr hlk hw hl => w_X1_areSameRows_0 E hr hlk hm hv0 hw hl)

def k_X1_isFirstSuch_2 : Nat → Nat → Int32 → Int32 → ST → Option (Int32 × ST)
  | 0, _, _, _, _ => none
  | n + 1, v0, v1, v2, σ => if v1 ≤ v2 then ((ckZ 1).bind fun z => some (z, σ)) else ((f_X1_areSameRows v0 v1 v2 σ).bind fun u2 =>
  if u2.1 = 0 then (k_X1_isFirstSuch_2 n v0 v1 (v2 + 1) u2.2) else ((ckZ 0).bind fun z => some (z, u2.2)))
set_option maxRecDepth 20000 in
set_option maxHeartbeats 1000000 in
theorem w_X1_isFirstSuch_2 {p : Program} {l : Launch} {e : Env} {s : State} {m : MethodId} {args : Array Value} {below : List Frame} {meth : Method} {c : Code} {D : va_G} {cy : Nat → ClassId} {b : Nat} (E : CX p m c cX1_isFirstSuch 3 s args RX1 D cy LC) (hr : meth.sig.returnType = some .boolean) (hlk : meth.locks = false) {r : Int32 × ST} : ∀ (n : Nat) (v0 : Nat) (v1 : Int32) (v2 : Int32) (σ : ST) (H : Heap) (locs : List Loc) (ls : Array Slot), k_X1_isFirstSuch_2 n v0 v1 v2 σ = some r → LC.1 v0 = 1 → PH D cy LC b σ s H locs → lv_has ls 3 [(0, .ref (b + v0)), (1, .int v1), (2, .int v2)] → W p l e (rmD 1) s m args below meth c H locs 0 0 (MQ below (QcP D cy LC b (some (.int r.1)) r.2) args s 0 0 (inP LC b)) (F0 m 2 ls []) := by
  have hx := E.1.1
  have hb := E.1.2.1
  intro n
  induction n with
  | zero =>
    intro v0 v1 v2 σ H locs ls hm
    cases hm
  | succ n ih =>
    intro v0 v1 v2 σ H locs ls hm hv0 hw hl
    rw [k_X1_isFirstSuch_2] at hm
    refine lv_iload_n hx hb dX1_isFirstSuch_2 rfl (lv_at hl 2 rfl) ?_
    refine lv_iload_n hx hb dX1_isFirstSuch_3 rfl (lv_at hl 1 rfl) ?_
    refine lv_icmp_ge (tgt := 24) hx hb dX1_isFirstSuch_4 (by decide) (fun c1 => ?_) (fun c1 => ?_)
    · have hm := o_t c1 hm
      refine lv_iconst (v := 1) hx hb dX1_isFirstSuch_24 (by decide) ?_
      exact q_zret E hr hlk hw hm dX1_isFirstSuch_25
    · have hm := o_f c1 hm
      refine lv_aload_n hx hb dX1_isFirstSuch_7 rfl (lv_at hl 0 rfl) ?_
      refine lv_iload_n hx hb dX1_isFirstSuch_8 rfl (lv_at hl 1 rfl) ?_
      refine lv_iload_n hx hb dX1_isFirstSuch_9 rfl (lv_at hl 2 rfl) ?_
      refine q_cVi (κ := 1) (C := RX1) (T := TX1) (N := 4) [] E hw hm mw_X1_74 (fun u hu => c_X1_areSameRows hu hv0) rfl (by decide) hv0 rfl rfl hl.1 (Nat.le_of_ble_eq_true rfl) ⟨Nat.le_of_ble_eq_true rfl, Nat.le_of_ble_eq_true rfl⟩ dX1_isFirstSuch_10 (fun u2 H locs hm hw => ?_)
      refine lv_if_eq (tgt := 18) hx hb dX1_isFirstSuch_13 (by decide) (fun c3 => ?_) (fun c3 => ?_)
      · have hm := o_t c3 hm
        refine lv_iinc (v := v2 + 1) (lv' := [(2, .int (v2 + 1)), (0, .ref (b + v0)), (1, .int v1)]) hx hb dX1_isFirstSuch_18 hl (k := 2) rfl rfl (by decide) rfl (fun ls hl => ?_)
        refine lv_goto (tgt := 2) hx hb dX1_isFirstSuch_21 (by decide) ?_
        exact ih _ _ _ _ _ _ _ hm hv0 hw (lv_sub hl [1, 2, 0] rfl)
      · have hm := o_f c3 hm
        refine lv_iconst (v := 0) hx hb dX1_isFirstSuch_16 (by decide) ?_
        exact q_zret E hr hlk hw hm dX1_isFirstSuch_17
def f_X1_isFirstSuch (v0 : Nat) (v1 : Int32) (σ : ST) : Option (Int32 × ST) :=
  k_X1_isFirstSuch_2 FU v0 v1 0 σ
set_option maxRecDepth 20000 in
set_option maxHeartbeats 1000000 in
theorem w_X1_isFirstSuch_0 {p : Program} {l : Launch} {e : Env} {s : State} {m : MethodId} {args : Array Value} {below : List Frame} {meth : Method} {c : Code} {D : va_G} {cy : Nat → ClassId} {b : Nat} (E : CX p m c cX1_isFirstSuch 3 s args RX1 D cy LC) (hr : meth.sig.returnType = some .boolean) (hlk : meth.locks = false) {r : Int32 × ST} {v0 : Nat} {v1 : Int32} {σ : ST} {H : Heap} {locs : List Loc} {ls : Array Slot} (hm : f_X1_isFirstSuch v0 v1 σ = some r) (hv0 : LC.1 v0 = 1) (hw : PH D cy LC b σ s H locs) (hl : lv_has ls 3 [(0, .ref (b + v0)), (1, .int v1)]) : W p l e (rmD 1) s m args below meth c H locs 0 0 (MQ below (QcP D cy LC b (some (.int r.1)) r.2) args s 0 0 (inP LC b)) (F0 m 0 ls []) := by
  have hx := E.1.1
  have hb := E.1.2.1
  unfold f_X1_isFirstSuch at hm
  refine lv_iconst (v := 0) hx hb dX1_isFirstSuch_0 (by decide) ?_
  refine lv_istore_n (lv' := [(2, .int 0), (0, .ref (b + v0)), (1, .int v1)]) hx hb dX1_isFirstSuch_1 rfl hl (by decide) rfl (fun ls hl => ?_)
  exact w_X1_isFirstSuch_2 E hr hlk _ _ _ _ _ _ _ _ hm hv0 hw (lv_sub hl [1, 2, 0] rfl)
theorem c_X1_isFirstSuch {l : Launch} {D : va_G} {cy : Nat → ClassId} {b : Nat} {v0 : Nat} {v1 : Int32} {σ : ST} {r : Int32 × ST} (hm : f_X1_isFirstSuch v0 v1 σ = some r) (hv0 : LC.1 v0 = 1) : Met l yX1_isFirstSuch (wU yX1_isFirstSuch cX1_isFirstSuch 3 (some .boolean)) (rmD 1) (PcP D cy LC b [.ref (b + v0), .int v1] σ) (QcP D cy LC b (some (.int r.1)) r.2) 0 0 (inP LC b) :=
  q_met (lv := [(0, .ref (b + v0)), (1, .int v1)]) LC_ok (by decide) (Nat.le_of_ble_eq_true rfl) rfl (fun _ _ _ _ _ _ _ _ _ E hr hlk hw hl => w_X1_isFirstSuch_0 E hr hlk hm hv0 hw hl)

def k_X1_unlikeRows_23 (rec4 : Nat → Int32 → Int32 → ST → Option (Int32 × ST)) (v0 : Nat) (v1 : Int32) (v2 : Int32) (σ : ST) : Option (Int32 × ST) :=
  rec4 v0 v1 (v2 + 1) σ
set_option maxRecDepth 20000 in
set_option maxHeartbeats 1000000 in
theorem w_X1_unlikeRows_23 {p : Program} {l : Launch} {e : Env} {s : State} {m : MethodId} {args : Array Value} {below : List Frame} {meth : Method} {c : Code} {D : va_G} {cy : Nat → ClassId} {b : Nat} (E : CX p m c cX1_unlikeRows 3 s args RX1 D cy LC) (hr : meth.sig.returnType = some .int) (hlk : meth.locks = false) {r : Int32 × ST} {rec4 : Nat → Int32 → Int32 → ST → Option (Int32 × ST)} (hrec4 : ∀ (v0 : Nat) (v1 : Int32) (v2 : Int32) (σ : ST) (H : Heap) (locs : List Loc) (ls : Array Slot), rec4 v0 v1 v2 σ = some r → LC.1 v0 = 1 → PH D cy LC b σ s H locs → lv_has ls 3 [(0, .ref (b + v0)), (1, .int v1), (2, .int v2)] → W p l e (rmD 2) s m args below meth c H locs 0 0 (MQ below (QcP D cy LC b (some (.int r.1)) r.2) args s 0 0 (inP LC b)) (F0 m 4 ls [])) {v0 : Nat} {v1 : Int32} {v2 : Int32} {σ : ST} {H : Heap} {locs : List Loc} {ls : Array Slot} (hm : k_X1_unlikeRows_23 rec4 v0 v1 v2 σ = some r) (hv0 : LC.1 v0 = 1) (hw : PH D cy LC b σ s H locs) (hl : lv_has ls 3 [(0, .ref (b + v0)), (1, .int v1), (2, .int v2)]) : W p l e (rmD 2) s m args below meth c H locs 0 0 (MQ below (QcP D cy LC b (some (.int r.1)) r.2) args s 0 0 (inP LC b)) (F0 m 23 ls []) := by
  have hx := E.1.1
  have hb := E.1.2.1
  unfold k_X1_unlikeRows_23 at hm
  refine lv_iinc (v := v2 + 1) (lv' := [(2, .int (v2 + 1)), (0, .ref (b + v0)), (1, .int v1)]) hx hb dX1_unlikeRows_23 hl (k := 2) rfl rfl (by decide) rfl (fun ls hl => ?_)
  refine lv_goto (tgt := 4) hx hb dX1_unlikeRows_26 (by decide) ?_
  exact hrec4 _ _ _ _ _ _ _ hm hv0 hw (lv_sub hl [1, 2, 0] rfl)
def k_X1_unlikeRows_4 : Nat → Nat → Int32 → Int32 → ST → Option (Int32 × ST)
  | 0, _, _, _, _ => none
  | n + 1, v0, v1, v2, σ => if (gI σ v0 3) ≤ v2 then (some (v1, σ)) else ((f_X1_isFirstSuch v0 v2 σ).bind fun u2 =>
  if u2.1 = 0 then (k_X1_unlikeRows_23 (k_X1_unlikeRows_4 n) v0 v1 v2 u2.2) else (k_X1_unlikeRows_23 (k_X1_unlikeRows_4 n) v0 (v1 + 1) v2 u2.2))
set_option maxRecDepth 20000 in
set_option maxHeartbeats 1000000 in
theorem w_X1_unlikeRows_4 {p : Program} {l : Launch} {e : Env} {s : State} {m : MethodId} {args : Array Value} {below : List Frame} {meth : Method} {c : Code} {D : va_G} {cy : Nat → ClassId} {b : Nat} (E : CX p m c cX1_unlikeRows 3 s args RX1 D cy LC) (hr : meth.sig.returnType = some .int) (hlk : meth.locks = false) {r : Int32 × ST} : ∀ (n : Nat) (v0 : Nat) (v1 : Int32) (v2 : Int32) (σ : ST) (H : Heap) (locs : List Loc) (ls : Array Slot), k_X1_unlikeRows_4 n v0 v1 v2 σ = some r → LC.1 v0 = 1 → PH D cy LC b σ s H locs → lv_has ls 3 [(0, .ref (b + v0)), (1, .int v1), (2, .int v2)] → W p l e (rmD 2) s m args below meth c H locs 0 0 (MQ below (QcP D cy LC b (some (.int r.1)) r.2) args s 0 0 (inP LC b)) (F0 m 4 ls []) := by
  have hx := E.1.1
  have hb := E.1.2.1
  intro n
  induction n with
  | zero =>
    intro v0 v1 v2 σ H locs ls hm
    cases hm
  | succ n ih =>
    intro v0 v1 v2 σ H locs ls hm hv0 hw hl
    rw [k_X1_unlikeRows_4] at hm
    refine lv_iload_n hx hb dX1_unlikeRows_4 rfl (lv_at hl 2 rfl) ?_
    refine lv_aload_n hx hb dX1_unlikeRows_5 rfl (lv_at hl 0 rfl) ?_
    refine q_geti E hw fw_X1_27 rfl hv0 dX1_unlikeRows_6 ?_
    refine lv_icmp_ge (tgt := 29) hx hb dX1_unlikeRows_9 (by decide) (fun c1 => ?_) (fun c1 => ?_)
    · have hm := o_t c1 hm
      refine lv_iload_n hx hb dX1_unlikeRows_29 rfl (lv_at hl 1 rfl) ?_
      exact q_iret E hr hlk hw hm dX1_unlikeRows_30
    · have hm := o_f c1 hm
      refine lv_aload_n hx hb dX1_unlikeRows_12 rfl (lv_at hl 0 rfl) ?_
      refine lv_iload_n hx hb dX1_unlikeRows_13 rfl (lv_at hl 2 rfl) ?_
      refine q_cVi (κ := 1) (C := RX1) (T := TX1) (N := 4) [] E hw hm mw_X1_71 (fun u hu => c_X1_isFirstSuch hu hv0) rfl (by decide) hv0 rfl rfl hl.1 (Nat.le_of_ble_eq_true rfl) ⟨Nat.le_of_ble_eq_true rfl, Nat.le_of_ble_eq_true rfl⟩ dX1_unlikeRows_14 (fun u2 H locs hm hw => ?_)
      refine lv_if_eq (tgt := 23) hx hb dX1_unlikeRows_17 (by decide) (fun c3 => ?_) (fun c3 => ?_)
      · have hm := o_t c3 hm
        exact w_X1_unlikeRows_23 E hr hlk ih hm hv0 hw (lv_sub hl [0, 1, 2] rfl)
      · have hm := o_f c3 hm
        refine lv_iinc (v := v1 + 1) (lv' := [(1, .int (v1 + 1)), (0, .ref (b + v0)), (2, .int v2)]) hx hb dX1_unlikeRows_20 hl (k := 1) rfl rfl (by decide) rfl (fun ls hl => ?_)
        exact w_X1_unlikeRows_23 E hr hlk ih hm hv0 hw (lv_sub hl [1, 0, 2] rfl)
def f_X1_unlikeRows (v0 : Nat) (σ : ST) : Option (Int32 × ST) :=
  k_X1_unlikeRows_4 FU v0 0 0 σ
set_option maxRecDepth 20000 in
set_option maxHeartbeats 1000000 in
theorem w_X1_unlikeRows_0 {p : Program} {l : Launch} {e : Env} {s : State} {m : MethodId} {args : Array Value} {below : List Frame} {meth : Method} {c : Code} {D : va_G} {cy : Nat → ClassId} {b : Nat} (E : CX p m c cX1_unlikeRows 3 s args RX1 D cy LC) (hr : meth.sig.returnType = some .int) (hlk : meth.locks = false) {r : Int32 × ST} {v0 : Nat} {σ : ST} {H : Heap} {locs : List Loc} {ls : Array Slot} (hm : f_X1_unlikeRows v0 σ = some r) (hv0 : LC.1 v0 = 1) (hw : PH D cy LC b σ s H locs) (hl : lv_has ls 3 [(0, .ref (b + v0))]) : W p l e (rmD 2) s m args below meth c H locs 0 0 (MQ below (QcP D cy LC b (some (.int r.1)) r.2) args s 0 0 (inP LC b)) (F0 m 0 ls []) := by
  have hx := E.1.1
  have hb := E.1.2.1
  unfold f_X1_unlikeRows at hm
  refine lv_iconst (v := 0) hx hb dX1_unlikeRows_0 (by decide) ?_
  refine lv_istore_n (lv' := [(1, .int 0), (0, .ref (b + v0))]) hx hb dX1_unlikeRows_1 rfl hl (by decide) rfl (fun ls hl => ?_)
  refine lv_iconst (v := 0) hx hb dX1_unlikeRows_2 (by decide) ?_
  refine lv_istore_n (lv' := [(2, .int 0), (1, .int 0), (0, .ref (b + v0))]) hx hb dX1_unlikeRows_3 rfl hl (by decide) rfl (fun ls hl => ?_)
  exact w_X1_unlikeRows_4 E hr hlk _ _ _ _ _ _ _ _ hm hv0 hw (lv_sub hl [2, 1, 0] rfl)
theorem c_X1_unlikeRows {l : Launch} {D : va_G} {cy : Nat → ClassId} {b : Nat} {v0 : Nat} {σ : ST} {r : Int32 × ST} (hm : f_X1_unlikeRows v0 σ = some r) (hv0 : LC.1 v0 = 1) : Met l yX1_unlikeRows (wU yX1_unlikeRows cX1_unlikeRows 3 (some .int)) (rmD 2) (PcP D cy LC b [.ref (b + v0)] σ) (QcP D cy LC b (some (.int r.1)) r.2) 0 0 (inP LC b) :=
  q_met (lv := [(0, .ref (b + v0))]) LC_ok (by decide) (Nat.le_of_ble_eq_true rfl) rfl (fun _ _ _ _ _ _ _ _ _ E hr hlk hw hl => w_X1_unlikeRows_0 E hr hlk hm hv0 hw hl)

def k_X1_isIn_2 : Nat → Nat → Int32 → Int32 → Int32 → ST → Option (Int32 × ST)
  | 0, _, _, _, _, _ => none
  | n + 1, v0, v1, v2, v3, σ => (ldA LC σ (LC.2.1 v0 2) v2).bind fun a1 =>
  if a1 ≤ v3 then ((ckZ 0).bind fun z => some (z, σ)) else ((ldA LC σ (LC.2.1 v0 1) ((v2 * 180) + v3)).bind fun a3 =>
  if a3 = v1 then ((ckZ 1).bind fun z => some (z, σ)) else (k_X1_isIn_2 n v0 v1 v2 (v3 + 1) σ))
set_option maxRecDepth 20000 in
set_option maxHeartbeats 1000000 in
theorem w_X1_isIn_2 {p : Program} {l : Launch} {e : Env} {s : State} {m : MethodId} {args : Array Value} {below : List Frame} {meth : Method} {c : Code} {D : va_G} {cy : Nat → ClassId} {b : Nat} (E : CX p m c cX1_isIn 4 s args RX1 D cy LC) (hr : meth.sig.returnType = some .boolean) (hlk : meth.locks = false) {r : Int32 × ST} : ∀ (n : Nat) (v0 : Nat) (v1 : Int32) (v2 : Int32) (v3 : Int32) (σ : ST) (H : Heap) (locs : List Loc) (ls : Array Slot), k_X1_isIn_2 n v0 v1 v2 v3 σ = some r → LC.1 v0 = 1 → PH D cy LC b σ s H locs → lv_has ls 4 [(0, .ref (b + v0)), (1, .int v1), (2, .int v2), (3, .int v3)] → W p l e (rmD 0) s m args below meth c H locs 0 0 (MQ below (QcP D cy LC b (some (.int r.1)) r.2) args s 0 0 (inP LC b)) (F0 m 2 ls []) := by
  have hx := E.1.1
  have hb := E.1.2.1
  intro n
  induction n with
  | zero =>
    intro v0 v1 v2 v3 σ H locs ls hm
    cases hm
  | succ n ih =>
    intro v0 v1 v2 v3 σ H locs ls hm hv0 hw hl
    rw [k_X1_isIn_2] at hm
    refine lv_iload_n hx hb dX1_isIn_2 rfl (lv_at hl 3 rfl) ?_
    refine lv_aload_n hx hb dX1_isIn_3 rfl (lv_at hl 0 rfl) ?_
    refine q_geta E hw fw_X1_24 rfl hv0 dX1_isIn_4 ?_
    refine lv_iload_n hx hb dX1_isIn_7 rfl (lv_at hl 2 rfl) ?_
    refine q_iald E hw (tC_1_2 hv0) hm dX1_isIn_8 (fun a1 hm => ?_)
    refine lv_icmp_ge (tgt := 36) hx hb dX1_isIn_9 (by decide) (fun c2 => ?_) (fun c2 => ?_)
    · have hm := o_t c2 hm
      refine lv_iconst (v := 0) hx hb dX1_isIn_36 (by decide) ?_
      exact q_zret E hr hlk hw hm dX1_isIn_37
    · have hm := o_f c2 hm
      refine lv_aload_n hx hb dX1_isIn_12 rfl (lv_at hl 0 rfl) ?_
      refine q_geta E hw fw_X1_20 rfl hv0 dX1_isIn_13 ?_
      refine lv_iload_n hx hb dX1_isIn_16 rfl (lv_at hl 2 rfl) ?_
      refine lv_sipush (v := 180) hx hb dX1_isIn_17 (by decide) ?_
      refine lv_imul hx hb dX1_isIn_20 ?_
      refine lv_iload_n hx hb dX1_isIn_21 rfl (lv_at hl 3 rfl) ?_
      refine lv_iadd hx hb dX1_isIn_22 ?_
      refine q_iald E hw (tC_1_1 hv0) hm dX1_isIn_23 (fun a3 hm => ?_)
      refine lv_iload_n hx hb dX1_isIn_24 rfl (lv_at hl 1 rfl) ?_
      refine lv_icmp_ne (tgt := 30) hx hb dX1_isIn_25 (by decide) (fun c4 => ?_) (fun c4 => ?_)
      · have hm := o_f c4 hm
        refine lv_iinc (v := v3 + 1) (lv' := [(3, .int (v3 + 1)), (0, .ref (b + v0)), (1, .int v1), (2, .int v2)]) hx hb dX1_isIn_30 hl (k := 3) rfl rfl (by decide) rfl (fun ls hl => ?_)
        refine lv_goto (tgt := 2) hx hb dX1_isIn_33 (by decide) ?_
        exact ih _ _ _ _ _ _ _ _ hm hv0 hw (lv_sub hl [1, 2, 3, 0] rfl)
      · have hm := o_t c4 hm
        refine lv_iconst (v := 1) hx hb dX1_isIn_28 (by decide) ?_
        exact q_zret E hr hlk hw hm dX1_isIn_29
def f_X1_isIn (v0 : Nat) (v1 : Int32) (v2 : Int32) (σ : ST) : Option (Int32 × ST) :=
  k_X1_isIn_2 FU v0 v1 v2 0 σ
set_option maxRecDepth 20000 in
set_option maxHeartbeats 1000000 in
theorem w_X1_isIn_0 {p : Program} {l : Launch} {e : Env} {s : State} {m : MethodId} {args : Array Value} {below : List Frame} {meth : Method} {c : Code} {D : va_G} {cy : Nat → ClassId} {b : Nat} (E : CX p m c cX1_isIn 4 s args RX1 D cy LC) (hr : meth.sig.returnType = some .boolean) (hlk : meth.locks = false) {r : Int32 × ST} {v0 : Nat} {v1 : Int32} {v2 : Int32} {σ : ST} {H : Heap} {locs : List Loc} {ls : Array Slot} (hm : f_X1_isIn v0 v1 v2 σ = some r) (hv0 : LC.1 v0 = 1) (hw : PH D cy LC b σ s H locs) (hl : lv_has ls 4 [(0, .ref (b + v0)), (1, .int v1), (2, .int v2)]) : W p l e (rmD 0) s m args below meth c H locs 0 0 (MQ below (QcP D cy LC b (some (.int r.1)) r.2) args s 0 0 (inP LC b)) (F0 m 0 ls []) := by
  have hx := E.1.1
  have hb := E.1.2.1
  unfold f_X1_isIn at hm
  refine lv_iconst (v := 0) hx hb dX1_isIn_0 (by decide) ?_
  refine lv_istore_n (lv' := [(3, .int 0), (0, .ref (b + v0)), (1, .int v1), (2, .int v2)]) hx hb dX1_isIn_1 rfl hl (by decide) rfl (fun ls hl => ?_)
  exact w_X1_isIn_2 E hr hlk _ _ _ _ _ _ _ _ _ hm hv0 hw (lv_sub hl [1, 2, 3, 0] rfl)
theorem c_X1_isIn {l : Launch} {D : va_G} {cy : Nat → ClassId} {b : Nat} {v0 : Nat} {v1 : Int32} {v2 : Int32} {σ : ST} {r : Int32 × ST} (hm : f_X1_isIn v0 v1 v2 σ = some r) (hv0 : LC.1 v0 = 1) : Met l yX1_isIn (wU yX1_isIn cX1_isIn 4 (some .boolean)) (rmD 0) (PcP D cy LC b [.ref (b + v0), .int v1, .int v2] σ) (QcP D cy LC b (some (.int r.1)) r.2) 0 0 (inP LC b) :=
  q_met (lv := [(0, .ref (b + v0)), (1, .int v1), (2, .int v2)]) LC_ok (by decide) (Nat.le_of_ble_eq_true rfl) rfl (fun _ _ _ _ _ _ _ _ _ E hr hlk hw hl => w_X1_isIn_0 E hr hlk hm hv0 hw hl)

def k_X1_rowsWith_24 (rec4 : Nat → Int32 → Int32 → Int32 → ST → Option (Int32 × ST)) (v0 : Nat) (v1 : Int32) (v2 : Int32) (v3 : Int32) (σ : ST) : Option (Int32 × ST) :=
  rec4 v0 v1 v2 (v3 + 1) σ
set_option maxRecDepth 20000 in
set_option maxHeartbeats 1000000 in
theorem w_X1_rowsWith_24 {p : Program} {l : Launch} {e : Env} {s : State} {m : MethodId} {args : Array Value} {below : List Frame} {meth : Method} {c : Code} {D : va_G} {cy : Nat → ClassId} {b : Nat} (E : CX p m c cX1_rowsWith 4 s args RX1 D cy LC) (hr : meth.sig.returnType = some .int) (hlk : meth.locks = false) {r : Int32 × ST} {rec4 : Nat → Int32 → Int32 → Int32 → ST → Option (Int32 × ST)} (hrec4 : ∀ (v0 : Nat) (v1 : Int32) (v2 : Int32) (v3 : Int32) (σ : ST) (H : Heap) (locs : List Loc) (ls : Array Slot), rec4 v0 v1 v2 v3 σ = some r → LC.1 v0 = 1 → PH D cy LC b σ s H locs → lv_has ls 4 [(0, .ref (b + v0)), (1, .int v1), (2, .int v2), (3, .int v3)] → W p l e (rmD 1) s m args below meth c H locs 0 0 (MQ below (QcP D cy LC b (some (.int r.1)) r.2) args s 0 0 (inP LC b)) (F0 m 4 ls [])) {v0 : Nat} {v1 : Int32} {v2 : Int32} {v3 : Int32} {σ : ST} {H : Heap} {locs : List Loc} {ls : Array Slot} (hm : k_X1_rowsWith_24 rec4 v0 v1 v2 v3 σ = some r) (hv0 : LC.1 v0 = 1) (hw : PH D cy LC b σ s H locs) (hl : lv_has ls 4 [(0, .ref (b + v0)), (1, .int v1), (2, .int v2), (3, .int v3)]) : W p l e (rmD 1) s m args below meth c H locs 0 0 (MQ below (QcP D cy LC b (some (.int r.1)) r.2) args s 0 0 (inP LC b)) (F0 m 24 ls []) := by
  have hx := E.1.1
  have hb := E.1.2.1
  unfold k_X1_rowsWith_24 at hm
  refine lv_iinc (v := v3 + 1) (lv' := [(3, .int (v3 + 1)), (0, .ref (b + v0)), (1, .int v1), (2, .int v2)]) hx hb dX1_rowsWith_24 hl (k := 3) rfl rfl (by decide) rfl (fun ls hl => ?_)
  refine lv_goto (tgt := 4) hx hb dX1_rowsWith_27 (by decide) ?_
  exact hrec4 _ _ _ _ _ _ _ _ hm hv0 hw (lv_sub hl [1, 2, 3, 0] rfl)
def k_X1_rowsWith_4 : Nat → Nat → Int32 → Int32 → Int32 → ST → Option (Int32 × ST)
  | 0, _, _, _, _, _ => none
  | n + 1, v0, v1, v2, v3, σ => if (gI σ v0 3) ≤ v3 then (some (v2, σ)) else ((f_X1_isIn v0 v1 v3 σ).bind fun u2 =>
  if u2.1 = 0 then (k_X1_rowsWith_24 (k_X1_rowsWith_4 n) v0 v1 v2 v3 u2.2) else (k_X1_rowsWith_24 (k_X1_rowsWith_4 n) v0 v1 (v2 + 1) v3 u2.2))
set_option maxRecDepth 20000 in
set_option maxHeartbeats 1000000 in
theorem w_X1_rowsWith_4 {p : Program} {l : Launch} {e : Env} {s : State} {m : MethodId} {args : Array Value} {below : List Frame} {meth : Method} {c : Code} {D : va_G} {cy : Nat → ClassId} {b : Nat} (E : CX p m c cX1_rowsWith 4 s args RX1 D cy LC) (hr : meth.sig.returnType = some .int) (hlk : meth.locks = false) {r : Int32 × ST} : ∀ (n : Nat) (v0 : Nat) (v1 : Int32) (v2 : Int32) (v3 : Int32) (σ : ST) (H : Heap) (locs : List Loc) (ls : Array Slot), k_X1_rowsWith_4 n v0 v1 v2 v3 σ = some r → LC.1 v0 = 1 → PH D cy LC b σ s H locs → lv_has ls 4 [(0, .ref (b + v0)), (1, .int v1), (2, .int v2), (3, .int v3)] → W p l e (rmD 1) s m args below meth c H locs 0 0 (MQ below (QcP D cy LC b (some (.int r.1)) r.2) args s 0 0 (inP LC b)) (F0 m 4 ls []) := by
  have hx := E.1.1
  have hb := E.1.2.1
  intro n
  induction n with
  | zero =>
    intro v0 v1 v2 v3 σ H locs ls hm
    cases hm
  | succ n ih =>
    intro v0 v1 v2 v3 σ H locs ls hm hv0 hw hl
    rw [k_X1_rowsWith_4] at hm
    refine lv_iload_n hx hb dX1_rowsWith_4 rfl (lv_at hl 3 rfl) ?_
    refine lv_aload_n hx hb dX1_rowsWith_5 rfl (lv_at hl 0 rfl) ?_
    refine q_geti E hw fw_X1_27 rfl hv0 dX1_rowsWith_6 ?_
    refine lv_icmp_ge (tgt := 30) hx hb dX1_rowsWith_9 (by decide) (fun c1 => ?_) (fun c1 => ?_)
    · have hm := o_t c1 hm
      refine lv_iload_n hx hb dX1_rowsWith_30 rfl (lv_at hl 2 rfl) ?_
      exact q_iret E hr hlk hw hm dX1_rowsWith_31
    · have hm := o_f c1 hm
      refine lv_aload_n hx hb dX1_rowsWith_12 rfl (lv_at hl 0 rfl) ?_
      refine lv_iload_n hx hb dX1_rowsWith_13 rfl (lv_at hl 1 rfl) ?_
      refine lv_iload_n hx hb dX1_rowsWith_14 rfl (lv_at hl 3 rfl) ?_
      refine q_cVi (κ := 1) (C := RX1) (T := TX1) (N := 4) [] E hw hm mw_X1_78 (fun u hu => c_X1_isIn hu hv0) rfl (by decide) hv0 rfl rfl hl.1 (Nat.le_of_ble_eq_true rfl) ⟨Nat.le_of_ble_eq_true rfl, Nat.le_of_ble_eq_true rfl⟩ dX1_rowsWith_15 (fun u2 H locs hm hw => ?_)
      refine lv_if_eq (tgt := 24) hx hb dX1_rowsWith_18 (by decide) (fun c3 => ?_) (fun c3 => ?_)
      · have hm := o_t c3 hm
        exact w_X1_rowsWith_24 E hr hlk ih hm hv0 hw (lv_sub hl [0, 1, 2, 3] rfl)
      · have hm := o_f c3 hm
        refine lv_iinc (v := v2 + 1) (lv' := [(2, .int (v2 + 1)), (0, .ref (b + v0)), (1, .int v1), (3, .int v3)]) hx hb dX1_rowsWith_21 hl (k := 2) rfl rfl (by decide) rfl (fun ls hl => ?_)
        exact w_X1_rowsWith_24 E hr hlk ih hm hv0 hw (lv_sub hl [1, 2, 0, 3] rfl)
def f_X1_rowsWith (v0 : Nat) (v1 : Int32) (σ : ST) : Option (Int32 × ST) :=
  k_X1_rowsWith_4 FU v0 v1 0 0 σ
set_option maxRecDepth 20000 in
set_option maxHeartbeats 1000000 in
theorem w_X1_rowsWith_0 {p : Program} {l : Launch} {e : Env} {s : State} {m : MethodId} {args : Array Value} {below : List Frame} {meth : Method} {c : Code} {D : va_G} {cy : Nat → ClassId} {b : Nat} (E : CX p m c cX1_rowsWith 4 s args RX1 D cy LC) (hr : meth.sig.returnType = some .int) (hlk : meth.locks = false) {r : Int32 × ST} {v0 : Nat} {v1 : Int32} {σ : ST} {H : Heap} {locs : List Loc} {ls : Array Slot} (hm : f_X1_rowsWith v0 v1 σ = some r) (hv0 : LC.1 v0 = 1) (hw : PH D cy LC b σ s H locs) (hl : lv_has ls 4 [(0, .ref (b + v0)), (1, .int v1)]) : W p l e (rmD 1) s m args below meth c H locs 0 0 (MQ below (QcP D cy LC b (some (.int r.1)) r.2) args s 0 0 (inP LC b)) (F0 m 0 ls []) := by
  have hx := E.1.1
  have hb := E.1.2.1
  unfold f_X1_rowsWith at hm
  refine lv_iconst (v := 0) hx hb dX1_rowsWith_0 (by decide) ?_
  refine lv_istore_n (lv' := [(2, .int 0), (0, .ref (b + v0)), (1, .int v1)]) hx hb dX1_rowsWith_1 rfl hl (by decide) rfl (fun ls hl => ?_)
  refine lv_iconst (v := 0) hx hb dX1_rowsWith_2 (by decide) ?_
  refine lv_istore_n (lv' := [(3, .int 0), (2, .int 0), (0, .ref (b + v0)), (1, .int v1)]) hx hb dX1_rowsWith_3 rfl hl (by decide) rfl (fun ls hl => ?_)
  exact w_X1_rowsWith_4 E hr hlk _ _ _ _ _ _ _ _ _ hm hv0 hw (lv_sub hl [2, 3, 1, 0] rfl)
theorem c_X1_rowsWith {l : Launch} {D : va_G} {cy : Nat → ClassId} {b : Nat} {v0 : Nat} {v1 : Int32} {σ : ST} {r : Int32 × ST} (hm : f_X1_rowsWith v0 v1 σ = some r) (hv0 : LC.1 v0 = 1) : Met l yX1_rowsWith (wU yX1_rowsWith cX1_rowsWith 4 (some .int)) (rmD 1) (PcP D cy LC b [.ref (b + v0), .int v1] σ) (QcP D cy LC b (some (.int r.1)) r.2) 0 0 (inP LC b) :=
  q_met (lv := [(0, .ref (b + v0)), (1, .int v1)]) LC_ok (by decide) (Nat.le_of_ble_eq_true rfl) rfl (fun _ _ _ _ _ _ _ _ _ E hr hlk hw hl => w_X1_rowsWith_0 E hr hlk hm hv0 hw hl)

def k_X6_blame_14 (v0 : Nat) (s0 : Nat) (s1 : Int32) (σ : ST) : Option (Int32 × ST) :=
  (stI σ s0 2 s1).bind fun σ1 =>
  (stI σ1 v0 3 (gI σ1 v0 5)).bind fun σ2 =>
  (ckZ 0).bind fun z => some (z, σ2)
set_option maxRecDepth 20000 in
set_option maxHeartbeats 1000000 in
theorem w_X6_blame_14 {p : Program} {l : Launch} {e : Env} {s : State} {m : MethodId} {args : Array Value} {below : List Frame} {meth : Method} {c : Code} {D : va_G} {cy : Nat → ClassId} {b : Nat} (E : CX p m c cX6_blame 2 s args RX6 D cy LC) (hr : meth.sig.returnType = some .boolean) (hlk : meth.locks = false) {r : Int32 × ST} {v0 : Nat} {s0 : Nat} {s1 : Int32} {σ : ST} {H : Heap} {locs : List Loc} {ls : Array Slot} (hm : k_X6_blame_14 v0 s0 s1 σ = some r) (hv0 : LC.1 v0 = 6) (hs0 : LC.1 s0 = 6) (hw : PH D cy LC b σ s H locs) (hl : lv_has ls 2 [(0, .ref (b + v0))]) : W p l e (rmD 0) s m args below meth c H locs 0 0 (MQ below (QcP D cy LC b (some (.int r.1)) r.2) args s 0 0 (inP LC b)) (F0 m 14 ls [.int s1, .ref (b + s0)]) := by
  have hx := E.1.1
  have hb := E.1.2.1
  unfold k_X6_blame_14 at hm
  refine q_pi E hw hm fw_X6_19 rfl rfl hs0 dX6_blame_14 (fun σ1 H locs hm hw => ?_)
  refine lv_aload_n hx hb dX6_blame_17 rfl (lv_at hl 0 rfl) ?_
  refine lv_aload_n hx hb dX6_blame_18 rfl (lv_at hl 0 rfl) ?_
  refine q_geti E hw fw_X6_28 rfl hv0 dX6_blame_19 ?_
  refine q_pi E hw hm fw_X6_22 rfl rfl hv0 dX6_blame_22 (fun σ2 H locs hm hw => ?_)
  refine lv_iconst (v := 0) hx hb dX6_blame_25 (by decide) ?_
  exact q_zret E hr hlk hw hm dX6_blame_26
def f_X6_blame (v0 : Nat) (v1 : Int32) (σ : ST) : Option (Int32 × ST) :=
  if (gI σ v0 4) = 4 then (k_X6_blame_14 v0 v0 1 σ) else (k_X6_blame_14 v0 v0 v1 σ)
set_option maxRecDepth 20000 in
set_option maxHeartbeats 1000000 in
theorem w_X6_blame_0 {p : Program} {l : Launch} {e : Env} {s : State} {m : MethodId} {args : Array Value} {below : List Frame} {meth : Method} {c : Code} {D : va_G} {cy : Nat → ClassId} {b : Nat} (E : CX p m c cX6_blame 2 s args RX6 D cy LC) (hr : meth.sig.returnType = some .boolean) (hlk : meth.locks = false) {r : Int32 × ST} {v0 : Nat} {v1 : Int32} {σ : ST} {H : Heap} {locs : List Loc} {ls : Array Slot} (hm : f_X6_blame v0 v1 σ = some r) (hv0 : LC.1 v0 = 6) (hw : PH D cy LC b σ s H locs) (hl : lv_has ls 2 [(0, .ref (b + v0)), (1, .int v1)]) : W p l e (rmD 0) s m args below meth c H locs 0 0 (MQ below (QcP D cy LC b (some (.int r.1)) r.2) args s 0 0 (inP LC b)) (F0 m 0 ls []) := by
  have hx := E.1.1
  have hb := E.1.2.1
  unfold f_X6_blame at hm
  refine lv_aload_n hx hb dX6_blame_0 rfl (lv_at hl 0 rfl) ?_
  refine lv_aload_n hx hb dX6_blame_1 rfl (lv_at hl 0 rfl) ?_
  refine q_geti E hw fw_X6_25 rfl hv0 dX6_blame_2 ?_
  refine lv_iconst (v := 4) hx hb dX6_blame_5 (by decide) ?_
  refine lv_icmp_ne (tgt := 13) hx hb dX6_blame_6 (by decide) (fun c3 => ?_) (fun c3 => ?_)
  · have hm := o_f c3 hm
    refine lv_iload_n hx hb dX6_blame_13 rfl (lv_at hl 1 rfl) ?_
    exact w_X6_blame_14 E hr hlk hm hv0 hv0 hw (lv_sub hl [0] rfl)
  · have hm := o_t c3 hm
    refine lv_iconst (v := 1) hx hb dX6_blame_9 (by decide) ?_
    refine lv_goto (tgt := 14) hx hb dX6_blame_10 (by decide) ?_
    exact w_X6_blame_14 E hr hlk hm hv0 hv0 hw (lv_sub hl [0] rfl)
theorem c_X6_blame {l : Launch} {D : va_G} {cy : Nat → ClassId} {b : Nat} {v0 : Nat} {v1 : Int32} {σ : ST} {r : Int32 × ST} (hm : f_X6_blame v0 v1 σ = some r) (hv0 : LC.1 v0 = 6) : Met l yX6_blame (wU yX6_blame cX6_blame 2 (some .boolean)) (rmD 0) (PcP D cy LC b [.ref (b + v0), .int v1] σ) (QcP D cy LC b (some (.int r.1)) r.2) 0 0 (inP LC b) :=
  q_met (lv := [(0, .ref (b + v0)), (1, .int v1)]) LC_ok (by decide) (Nat.le_of_ble_eq_true rfl) rfl (fun _ _ _ _ _ _ _ _ _ E hr hlk hw hl => w_X6_blame_0 E hr hlk hm hv0 hw hl)

def k_X6_isSign_29 (s0 : Int32) (σ : ST) : Option (Int32 × ST) :=
  (ckZ s0).bind fun z => some (z, σ)
set_option maxRecDepth 20000 in
set_option maxHeartbeats 1000000 in
theorem w_X6_isSign_29 {p : Program} {l : Launch} {e : Env} {s : State} {m : MethodId} {args : Array Value} {below : List Frame} {meth : Method} {c : Code} {D : va_G} {cy : Nat → ClassId} {b : Nat} (E : CX p m c cX6_isSign 2 s args RX6 D cy LC) (hr : meth.sig.returnType = some .boolean) (hlk : meth.locks = false) {r : Int32 × ST} {s0 : Int32} {σ : ST} {H : Heap} {locs : List Loc} {ls : Array Slot} (hm : k_X6_isSign_29 s0 σ = some r) (hw : PH D cy LC b σ s H locs) (hl : lv_has ls 2 []) : W p l e (rmD 1) s m args below meth c H locs 0 0 (MQ below (QcP D cy LC b (some (.int r.1)) r.2) args s 0 0 (inP LC b)) (F0 m 29 ls [.int s0]) := by
  have hx := E.1.1
  have hb := E.1.2.1
  unfold k_X6_isSign_29 at hm
  exact q_zret E hr hlk hw hm dX6_isSign_29
def k_X6_isSign_24 (σ : ST) : Option (Int32 × ST) :=
  k_X6_isSign_29 1 σ
set_option maxRecDepth 20000 in
set_option maxHeartbeats 1000000 in
theorem w_X6_isSign_24 {p : Program} {l : Launch} {e : Env} {s : State} {m : MethodId} {args : Array Value} {below : List Frame} {meth : Method} {c : Code} {D : va_G} {cy : Nat → ClassId} {b : Nat} (E : CX p m c cX6_isSign 2 s args RX6 D cy LC) (hr : meth.sig.returnType = some .boolean) (hlk : meth.locks = false) {r : Int32 × ST} {σ : ST} {H : Heap} {locs : List Loc} {ls : Array Slot} (hm : k_X6_isSign_24  σ = some r) (hw : PH D cy LC b σ s H locs) (hl : lv_has ls 2 []) : W p l e (rmD 1) s m args below meth c H locs 0 0 (MQ below (QcP D cy LC b (some (.int r.1)) r.2) args s 0 0 (inP LC b)) (F0 m 24 ls []) := by
  have hx := E.1.1
  have hb := E.1.2.1
  unfold k_X6_isSign_24 at hm
  refine lv_iconst (v := 1) hx hb dX6_isSign_24 (by decide) ?_
  refine lv_goto (tgt := 29) hx hb dX6_isSign_25 (by decide) ?_
  exact w_X6_isSign_29 E hr hlk hm  hw (lv_sub hl [] rfl)
def k_X6_isSign_16 (v0 : Nat) (σ : ST) : Option (Int32 × ST) :=
  (f_X6_blame v0 2 σ).bind fun u1 =>
  if u1.1 = 0 then (k_X6_isSign_29 0 u1.2) else (k_X6_isSign_24 u1.2)
set_option maxRecDepth 20000 in
set_option maxHeartbeats 1000000 in
theorem w_X6_isSign_16 {p : Program} {l : Launch} {e : Env} {s : State} {m : MethodId} {args : Array Value} {below : List Frame} {meth : Method} {c : Code} {D : va_G} {cy : Nat → ClassId} {b : Nat} (E : CX p m c cX6_isSign 2 s args RX6 D cy LC) (hr : meth.sig.returnType = some .boolean) (hlk : meth.locks = false) {r : Int32 × ST} {v0 : Nat} {σ : ST} {H : Heap} {locs : List Loc} {ls : Array Slot} (hm : k_X6_isSign_16 v0 σ = some r) (hv0 : LC.1 v0 = 6) (hw : PH D cy LC b σ s H locs) (hl : lv_has ls 2 [(0, .ref (b + v0))]) : W p l e (rmD 1) s m args below meth c H locs 0 0 (MQ below (QcP D cy LC b (some (.int r.1)) r.2) args s 0 0 (inP LC b)) (F0 m 16 ls []) := by
  have hx := E.1.1
  have hb := E.1.2.1
  unfold k_X6_isSign_16 at hm
  refine lv_aload_n hx hb dX6_isSign_16 rfl (lv_at hl 0 rfl) ?_
  refine lv_iconst (v := 2) hx hb dX6_isSign_17 (by decide) ?_
  refine q_cVi (κ := 6) (C := RX6) (T := TX6) (N := 12) [] E hw hm mw_X6_82 (fun u hu => c_X6_blame hu hv0) rfl (by decide) hv0 rfl rfl hl.1 (Nat.le_of_ble_eq_true rfl) ⟨Nat.le_of_ble_eq_true rfl, Nat.le_of_ble_eq_true rfl⟩ dX6_isSign_18 (fun u1 H locs hm hw => ?_)
  refine lv_if_eq (tgt := 28) hx hb dX6_isSign_21 (by decide) (fun c2 => ?_) (fun c2 => ?_)
  · have hm := o_t c2 hm
    refine lv_iconst (v := 0) hx hb dX6_isSign_28 (by decide) ?_
    exact w_X6_isSign_29 E hr hlk hm  hw (lv_sub hl [] rfl)
  · have hm := o_f c2 hm
    exact w_X6_isSign_24 E hr hlk hm  hw (lv_sub hl [] rfl)
def f_X6_isSign (v0 : Nat) (v1 : Int32) (σ : ST) : Option (Int32 × ST) :=
  if (gI σ v0 4) = 3 then (if (gI σ v0 7) = v1 then (k_X6_isSign_24 σ) else (k_X6_isSign_16 v0 σ)) else (k_X6_isSign_16 v0 σ)
set_option maxRecDepth 20000 in
set_option maxHeartbeats 1000000 in
theorem w_X6_isSign_0 {p : Program} {l : Launch} {e : Env} {s : State} {m : MethodId} {args : Array Value} {below : List Frame} {meth : Method} {c : Code} {D : va_G} {cy : Nat → ClassId} {b : Nat} (E : CX p m c cX6_isSign 2 s args RX6 D cy LC) (hr : meth.sig.returnType = some .boolean) (hlk : meth.locks = false) {r : Int32 × ST} {v0 : Nat} {v1 : Int32} {σ : ST} {H : Heap} {locs : List Loc} {ls : Array Slot} (hm : f_X6_isSign v0 v1 σ = some r) (hv0 : LC.1 v0 = 6) (hw : PH D cy LC b σ s H locs) (hl : lv_has ls 2 [(0, .ref (b + v0)), (1, .int v1)]) : W p l e (rmD 1) s m args below meth c H locs 0 0 (MQ below (QcP D cy LC b (some (.int r.1)) r.2) args s 0 0 (inP LC b)) (F0 m 0 ls []) := by
  have hx := E.1.1
  have hb := E.1.2.1
  unfold f_X6_isSign at hm
  refine lv_aload_n hx hb dX6_isSign_0 rfl (lv_at hl 0 rfl) ?_
  refine q_geti E hw fw_X6_25 rfl hv0 dX6_isSign_1 ?_
  refine lv_iconst (v := 3) hx hb dX6_isSign_4 (by decide) ?_
  refine lv_icmp_ne (tgt := 16) hx hb dX6_isSign_5 (by decide) (fun c3 => ?_) (fun c3 => ?_)
  · have hm := o_f c3 hm
    exact w_X6_isSign_16 E hr hlk hm hv0 hw (lv_sub hl [0] rfl)
  · have hm := o_t c3 hm
    refine lv_aload_n hx hb dX6_isSign_8 rfl (lv_at hl 0 rfl) ?_
    refine q_geti E hw fw_X6_34 rfl hv0 dX6_isSign_9 ?_
    refine lv_iload_n hx hb dX6_isSign_12 rfl (lv_at hl 1 rfl) ?_
    refine lv_icmp_eq (tgt := 24) hx hb dX6_isSign_13 (by decide) (fun c4 => ?_) (fun c4 => ?_)
    · have hm := o_t c4 hm
      exact w_X6_isSign_24 E hr hlk hm  hw (lv_sub hl [] rfl)
    · have hm := o_f c4 hm
      exact w_X6_isSign_16 E hr hlk hm hv0 hw (lv_sub hl [0] rfl)
theorem c_X6_isSign {l : Launch} {D : va_G} {cy : Nat → ClassId} {b : Nat} {v0 : Nat} {v1 : Int32} {σ : ST} {r : Int32 × ST} (hm : f_X6_isSign v0 v1 σ = some r) (hv0 : LC.1 v0 = 6) : Met l yX6_isSign (wU yX6_isSign cX6_isSign 2 (some .boolean)) (rmD 1) (PcP D cy LC b [.ref (b + v0), .int v1] σ) (QcP D cy LC b (some (.int r.1)) r.2) 0 0 (inP LC b) :=
  q_met (lv := [(0, .ref (b + v0)), (1, .int v1)]) LC_ok (by decide) (Nat.le_of_ble_eq_true rfl) rfl (fun _ _ _ _ _ _ _ _ _ E hr hlk hw hl => w_X6_isSign_0 E hr hlk hm hv0 hw hl)

def k_X6_isDigit_17 (s0 : Int32) (σ : ST) : Option (Int32 × ST) :=
  (ckZ s0).bind fun z => some (z, σ)
set_option maxRecDepth 20000 in
set_option maxHeartbeats 1000000 in
theorem w_X6_isDigit_17 {p : Program} {l : Launch} {e : Env} {s : State} {m : MethodId} {args : Array Value} {below : List Frame} {meth : Method} {c : Code} {D : va_G} {cy : Nat → ClassId} {b : Nat} (E : CX p m c cX6_isDigit 1 s args RX6 D cy LC) (hr : meth.sig.returnType = some .boolean) (hlk : meth.locks = false) {r : Int32 × ST} {s0 : Int32} {σ : ST} {H : Heap} {locs : List Loc} {ls : Array Slot} (hm : k_X6_isDigit_17 s0 σ = some r) (hw : PH D cy LC b σ s H locs) (hl : lv_has ls 1 []) : W p l e (rmD 0) s m args below meth c H locs 0 0 (MQ below (QcP D cy LC b (some (.int r.1)) r.2) args s 0 0 (inP LC b)) (F0 m 17 ls [.int s0]) := by
  have hx := E.1.1
  have hb := E.1.2.1
  unfold k_X6_isDigit_17 at hm
  exact q_zret E hr hlk hw hm dX6_isDigit_17
def k_X6_isDigit_16 (σ : ST) : Option (Int32 × ST) :=
  k_X6_isDigit_17 0 σ
set_option maxRecDepth 20000 in
set_option maxHeartbeats 1000000 in
theorem w_X6_isDigit_16 {p : Program} {l : Launch} {e : Env} {s : State} {m : MethodId} {args : Array Value} {below : List Frame} {meth : Method} {c : Code} {D : va_G} {cy : Nat → ClassId} {b : Nat} (E : CX p m c cX6_isDigit 1 s args RX6 D cy LC) (hr : meth.sig.returnType = some .boolean) (hlk : meth.locks = false) {r : Int32 × ST} {σ : ST} {H : Heap} {locs : List Loc} {ls : Array Slot} (hm : k_X6_isDigit_16  σ = some r) (hw : PH D cy LC b σ s H locs) (hl : lv_has ls 1 []) : W p l e (rmD 0) s m args below meth c H locs 0 0 (MQ below (QcP D cy LC b (some (.int r.1)) r.2) args s 0 0 (inP LC b)) (F0 m 16 ls []) := by
  have hx := E.1.1
  have hb := E.1.2.1
  unfold k_X6_isDigit_16 at hm
  refine lv_iconst (v := 0) hx hb dX6_isDigit_16 (by decide) ?_
  exact w_X6_isDigit_17 E hr hlk hm  hw (lv_sub hl [] rfl)
def f_X6_isDigit (v0 : Int32) (σ : ST) : Option (Int32 × ST) :=
  if v0 < 48 then (k_X6_isDigit_16 σ) else (if 57 < v0 then (k_X6_isDigit_16 σ) else (k_X6_isDigit_17 1 σ))
set_option maxRecDepth 20000 in
set_option maxHeartbeats 1000000 in
theorem w_X6_isDigit_0 {p : Program} {l : Launch} {e : Env} {s : State} {m : MethodId} {args : Array Value} {below : List Frame} {meth : Method} {c : Code} {D : va_G} {cy : Nat → ClassId} {b : Nat} (E : CX p m c cX6_isDigit 1 s args RX6 D cy LC) (hr : meth.sig.returnType = some .boolean) (hlk : meth.locks = false) {r : Int32 × ST} {v0 : Int32} {σ : ST} {H : Heap} {locs : List Loc} {ls : Array Slot} (hm : f_X6_isDigit v0 σ = some r) (hw : PH D cy LC b σ s H locs) (hl : lv_has ls 1 [(0, .int v0)]) : W p l e (rmD 0) s m args below meth c H locs 0 0 (MQ below (QcP D cy LC b (some (.int r.1)) r.2) args s 0 0 (inP LC b)) (F0 m 0 ls []) := by
  have hx := E.1.1
  have hb := E.1.2.1
  unfold f_X6_isDigit at hm
  refine lv_iload_n hx hb dX6_isDigit_0 rfl (lv_at hl 0 rfl) ?_
  refine lv_bipush (v := 48) hx hb dX6_isDigit_1 (by decide) ?_
  refine lv_icmp_lt (tgt := 16) hx hb dX6_isDigit_3 (by decide) (fun c1 => ?_) (fun c1 => ?_)
  · have hm := o_t c1 hm
    exact w_X6_isDigit_16 E hr hlk hm  hw (lv_sub hl [] rfl)
  · have hm := o_f c1 hm
    refine lv_iload_n hx hb dX6_isDigit_6 rfl (lv_at hl 0 rfl) ?_
    refine lv_bipush (v := 57) hx hb dX6_isDigit_7 (by decide) ?_
    refine lv_icmp_gt (tgt := 16) hx hb dX6_isDigit_9 (by decide) (fun c2 => ?_) (fun c2 => ?_)
    · have hm := o_t c2 hm
      exact w_X6_isDigit_16 E hr hlk hm  hw (lv_sub hl [] rfl)
    · have hm := o_f c2 hm
      refine lv_iconst (v := 1) hx hb dX6_isDigit_12 (by decide) ?_
      refine lv_goto (tgt := 17) hx hb dX6_isDigit_13 (by decide) ?_
      exact w_X6_isDigit_17 E hr hlk hm  hw (lv_sub hl [] rfl)
theorem c_X6_isDigit {l : Launch} {D : va_G} {cy : Nat → ClassId} {b : Nat} {v0 : Int32} {σ : ST} {r : Int32 × ST} (hm : f_X6_isDigit v0 σ = some r) : Met l yX6_isDigit (wU yX6_isDigit cX6_isDigit 1 (some .boolean)) (rmD 0) (PcP D cy LC b [.int v0] σ) (QcP D cy LC b (some (.int r.1)) r.2) 0 0 (inP LC b) :=
  q_met (lv := [(0, .int v0)]) LC_ok (by decide) (Nat.le_of_ble_eq_true rfl) rfl (fun _ _ _ _ _ _ _ _ _ E hr hlk hw hl => w_X6_isDigit_0 E hr hlk hm hw hl)

def k_X6_isLetter_17 (s0 : Int32) (σ : ST) : Option (Int32 × ST) :=
  (ckZ s0).bind fun z => some (z, σ)
set_option maxRecDepth 20000 in
set_option maxHeartbeats 1000000 in
theorem w_X6_isLetter_17 {p : Program} {l : Launch} {e : Env} {s : State} {m : MethodId} {args : Array Value} {below : List Frame} {meth : Method} {c : Code} {D : va_G} {cy : Nat → ClassId} {b : Nat} (E : CX p m c cX6_isLetter 1 s args RX6 D cy LC) (hr : meth.sig.returnType = some .boolean) (hlk : meth.locks = false) {r : Int32 × ST} {s0 : Int32} {σ : ST} {H : Heap} {locs : List Loc} {ls : Array Slot} (hm : k_X6_isLetter_17 s0 σ = some r) (hw : PH D cy LC b σ s H locs) (hl : lv_has ls 1 []) : W p l e (rmD 0) s m args below meth c H locs 0 0 (MQ below (QcP D cy LC b (some (.int r.1)) r.2) args s 0 0 (inP LC b)) (F0 m 17 ls [.int s0]) := by
  have hx := E.1.1
  have hb := E.1.2.1
  unfold k_X6_isLetter_17 at hm
  exact q_zret E hr hlk hw hm dX6_isLetter_17
def k_X6_isLetter_16 (σ : ST) : Option (Int32 × ST) :=
  k_X6_isLetter_17 0 σ
set_option maxRecDepth 20000 in
set_option maxHeartbeats 1000000 in
theorem w_X6_isLetter_16 {p : Program} {l : Launch} {e : Env} {s : State} {m : MethodId} {args : Array Value} {below : List Frame} {meth : Method} {c : Code} {D : va_G} {cy : Nat → ClassId} {b : Nat} (E : CX p m c cX6_isLetter 1 s args RX6 D cy LC) (hr : meth.sig.returnType = some .boolean) (hlk : meth.locks = false) {r : Int32 × ST} {σ : ST} {H : Heap} {locs : List Loc} {ls : Array Slot} (hm : k_X6_isLetter_16  σ = some r) (hw : PH D cy LC b σ s H locs) (hl : lv_has ls 1 []) : W p l e (rmD 0) s m args below meth c H locs 0 0 (MQ below (QcP D cy LC b (some (.int r.1)) r.2) args s 0 0 (inP LC b)) (F0 m 16 ls []) := by
  have hx := E.1.1
  have hb := E.1.2.1
  unfold k_X6_isLetter_16 at hm
  refine lv_iconst (v := 0) hx hb dX6_isLetter_16 (by decide) ?_
  exact w_X6_isLetter_17 E hr hlk hm  hw (lv_sub hl [] rfl)
def f_X6_isLetter (v0 : Int32) (σ : ST) : Option (Int32 × ST) :=
  if v0 < 97 then (k_X6_isLetter_16 σ) else (if 122 < v0 then (k_X6_isLetter_16 σ) else (k_X6_isLetter_17 1 σ))
set_option maxRecDepth 20000 in
set_option maxHeartbeats 1000000 in
theorem w_X6_isLetter_0 {p : Program} {l : Launch} {e : Env} {s : State} {m : MethodId} {args : Array Value} {below : List Frame} {meth : Method} {c : Code} {D : va_G} {cy : Nat → ClassId} {b : Nat} (E : CX p m c cX6_isLetter 1 s args RX6 D cy LC) (hr : meth.sig.returnType = some .boolean) (hlk : meth.locks = false) {r : Int32 × ST} {v0 : Int32} {σ : ST} {H : Heap} {locs : List Loc} {ls : Array Slot} (hm : f_X6_isLetter v0 σ = some r) (hw : PH D cy LC b σ s H locs) (hl : lv_has ls 1 [(0, .int v0)]) : W p l e (rmD 0) s m args below meth c H locs 0 0 (MQ below (QcP D cy LC b (some (.int r.1)) r.2) args s 0 0 (inP LC b)) (F0 m 0 ls []) := by
  have hx := E.1.1
  have hb := E.1.2.1
  unfold f_X6_isLetter at hm
  refine lv_iload_n hx hb dX6_isLetter_0 rfl (lv_at hl 0 rfl) ?_
  refine lv_bipush (v := 97) hx hb dX6_isLetter_1 (by decide) ?_
  refine lv_icmp_lt (tgt := 16) hx hb dX6_isLetter_3 (by decide) (fun c1 => ?_) (fun c1 => ?_)
  · have hm := o_t c1 hm
    exact w_X6_isLetter_16 E hr hlk hm  hw (lv_sub hl [] rfl)
  · have hm := o_f c1 hm
    refine lv_iload_n hx hb dX6_isLetter_6 rfl (lv_at hl 0 rfl) ?_
    refine lv_bipush (v := 122) hx hb dX6_isLetter_7 (by decide) ?_
    refine lv_icmp_gt (tgt := 16) hx hb dX6_isLetter_9 (by decide) (fun c2 => ?_) (fun c2 => ?_)
    · have hm := o_t c2 hm
      exact w_X6_isLetter_16 E hr hlk hm  hw (lv_sub hl [] rfl)
    · have hm := o_f c2 hm
      refine lv_iconst (v := 1) hx hb dX6_isLetter_12 (by decide) ?_
      refine lv_goto (tgt := 17) hx hb dX6_isLetter_13 (by decide) ?_
      exact w_X6_isLetter_17 E hr hlk hm  hw (lv_sub hl [] rfl)
theorem c_X6_isLetter {l : Launch} {D : va_G} {cy : Nat → ClassId} {b : Nat} {v0 : Int32} {σ : ST} {r : Int32 × ST} (hm : f_X6_isLetter v0 σ = some r) : Met l yX6_isLetter (wU yX6_isLetter cX6_isLetter 1 (some .boolean)) (rmD 0) (PcP D cy LC b [.int v0] σ) (QcP D cy LC b (some (.int r.1)) r.2) 0 0 (inP LC b) :=
  q_met (lv := [(0, .int v0)]) LC_ok (by decide) (Nat.le_of_ble_eq_true rfl) rfl (fun _ _ _ _ _ _ _ _ _ E hr hlk hw hl => w_X6_isLetter_0 E hr hlk hm hw hl)

def k_X6_stepNumber_94 (σ : ST) : Option (ST) :=
  some σ
set_option maxRecDepth 20000 in
set_option maxHeartbeats 1000000 in
theorem w_X6_stepNumber_94 {p : Program} {l : Launch} {e : Env} {s : State} {m : MethodId} {args : Array Value} {below : List Frame} {meth : Method} {c : Code} {D : va_G} {cy : Nat → ClassId} {b : Nat} (E : CX p m c cX6_stepNumber 1 s args RX6 D cy LC) (hr : meth.sig.returnType = none) (hlk : meth.locks = false) {r : ST} {σ : ST} {H : Heap} {locs : List Loc} {ls : Array Slot} (hm : k_X6_stepNumber_94  σ = some r) (hw : PH D cy LC b σ s H locs) (hl : lv_has ls 1 []) : W p l e (rmD 1) s m args below meth c H locs 0 0 (MQ below (QcP D cy LC b none r) args s 0 0 (inP LC b)) (F0 m 94 ls []) := by
  have hx := E.1.1
  have hb := E.1.2.1
  unfold k_X6_stepNumber_94 at hm
  exact q_vret E hr hlk hw hm dX6_stepNumber_94
def k_X6_stepNumber_81 (rec10 : Nat → ST → Option (ST)) (v0 : Nat) (σ : ST) : Option (ST) :=
  (stI σ v0 11 ((gI σ v0 11) + 1)).bind fun σ1 =>
  rec10 v0 σ1
set_option maxRecDepth 20000 in
set_option maxHeartbeats 1000000 in
theorem w_X6_stepNumber_81 {p : Program} {l : Launch} {e : Env} {s : State} {m : MethodId} {args : Array Value} {below : List Frame} {meth : Method} {c : Code} {D : va_G} {cy : Nat → ClassId} {b : Nat} (E : CX p m c cX6_stepNumber 1 s args RX6 D cy LC) (hr : meth.sig.returnType = none) (hlk : meth.locks = false) {r : ST} {rec10 : Nat → ST → Option (ST)} (hrec10 : ∀ (v0 : Nat) (σ : ST) (H : Heap) (locs : List Loc) (ls : Array Slot), rec10 v0 σ = some r → LC.1 v0 = 6 → PH D cy LC b σ s H locs → lv_has ls 1 [(0, .ref (b + v0))] → W p l e (rmD 1) s m args below meth c H locs 0 0 (MQ below (QcP D cy LC b none r) args s 0 0 (inP LC b)) (F0 m 10 ls [])) {v0 : Nat} {σ : ST} {H : Heap} {locs : List Loc} {ls : Array Slot} (hm : k_X6_stepNumber_81 rec10 v0 σ = some r) (hv0 : LC.1 v0 = 6) (hw : PH D cy LC b σ s H locs) (hl : lv_has ls 1 [(0, .ref (b + v0))]) : W p l e (rmD 1) s m args below meth c H locs 0 0 (MQ below (QcP D cy LC b none r) args s 0 0 (inP LC b)) (F0 m 81 ls []) := by
  have hx := E.1.1
  have hb := E.1.2.1
  unfold k_X6_stepNumber_81 at hm
  refine lv_aload_n hx hb dX6_stepNumber_81 rfl (lv_at hl 0 rfl) ?_
  refine lv_dup hx hb dX6_stepNumber_82 rfl ?_
  refine q_geti E hw fw_X6_49 rfl hv0 dX6_stepNumber_83 ?_
  refine lv_iconst (v := 1) hx hb dX6_stepNumber_86 (by decide) ?_
  refine lv_iadd hx hb dX6_stepNumber_87 ?_
  refine q_pi E hw hm fw_X6_49 rfl rfl hv0 dX6_stepNumber_88 (fun σ1 H locs hm hw => ?_)
  refine lv_goto (tgt := 10) hx hb dX6_stepNumber_91 (by decide) ?_
  exact hrec10 _ _ _ _ _ hm hv0 hw (lv_sub hl [0] rfl)
def k_X6_stepNumber_10 : Nat → Nat → ST → Option (ST)
  | 0, _, _ => none
  | n + 1, v0, σ => if (gI σ v0 10) ≤ (gI σ v0 11) then (k_X6_stepNumber_94 σ) else ((ldA LC σ (LC.2.1 v0 0) (gI σ v0 11)).bind fun a3 =>
  (f_X6_isDigit a3 σ).bind fun u4 =>
  if u4.1 = 0 then (k_X6_stepNumber_94 u4.2) else (if 4 ≤ ((gI u4.2 v0 11) - (gI u4.2 v0 5)) then ((stI u4.2 v0 4 4).bind fun σ7 =>
  k_X6_stepNumber_81 (k_X6_stepNumber_10 n) v0 σ7) else ((ldA LC u4.2 (LC.2.1 v0 0) (gI u4.2 v0 11)).bind fun a8 =>
  (stI u4.2 v0 6 (((gI u4.2 v0 6) * 10) + (a8 - 48))).bind fun σ9 =>
  k_X6_stepNumber_81 (k_X6_stepNumber_10 n) v0 σ9)))
set_option maxRecDepth 20000 in
set_option maxHeartbeats 1000000 in
theorem w_X6_stepNumber_10 {p : Program} {l : Launch} {e : Env} {s : State} {m : MethodId} {args : Array Value} {below : List Frame} {meth : Method} {c : Code} {D : va_G} {cy : Nat → ClassId} {b : Nat} (E : CX p m c cX6_stepNumber 1 s args RX6 D cy LC) (hr : meth.sig.returnType = none) (hlk : meth.locks = false) {r : ST} : ∀ (n : Nat) (v0 : Nat) (σ : ST) (H : Heap) (locs : List Loc) (ls : Array Slot), k_X6_stepNumber_10 n v0 σ = some r → LC.1 v0 = 6 → PH D cy LC b σ s H locs → lv_has ls 1 [(0, .ref (b + v0))] → W p l e (rmD 1) s m args below meth c H locs 0 0 (MQ below (QcP D cy LC b none r) args s 0 0 (inP LC b)) (F0 m 10 ls []) := by
  have hx := E.1.1
  have hb := E.1.2.1
  intro n
  induction n with
  | zero =>
    intro v0 σ H locs ls hm
    cases hm
  | succ n ih =>
    intro v0 σ H locs ls hm hv0 hw hl
    rw [k_X6_stepNumber_10] at hm
    refine lv_aload_n hx hb dX6_stepNumber_10 rfl (lv_at hl 0 rfl) ?_
    refine q_geti E hw fw_X6_49 rfl hv0 dX6_stepNumber_11 ?_
    refine lv_aload_n hx hb dX6_stepNumber_14 rfl (lv_at hl 0 rfl) ?_
    refine q_geti E hw fw_X6_46 rfl hv0 dX6_stepNumber_15 ?_
    refine lv_icmp_ge (tgt := 94) hx hb dX6_stepNumber_18 (by decide) (fun c2 => ?_) (fun c2 => ?_)
    · have hm := o_t c2 hm
      exact w_X6_stepNumber_94 E hr hlk hm  hw (lv_sub hl [] rfl)
    · have hm := o_f c2 hm
      refine lv_aload_n hx hb dX6_stepNumber_21 rfl (lv_at hl 0 rfl) ?_
      refine q_geta E hw fw_X6_9 rfl hv0 dX6_stepNumber_22 ?_
      refine lv_aload_n hx hb dX6_stepNumber_25 rfl (lv_at hl 0 rfl) ?_
      refine q_geti E hw fw_X6_49 rfl hv0 dX6_stepNumber_26 ?_
      refine q_iald E hw (tC_6_0 hv0) hm dX6_stepNumber_29 (fun a3 hm => ?_)
      refine q_cSi [] E hw hm ms_X6_59 (fun u hu => c_X6_isDigit hu ) rfl rfl hl.1 (Nat.le_of_ble_eq_true rfl) ⟨Nat.le_of_ble_eq_true rfl, Nat.le_of_ble_eq_true rfl⟩ dX6_stepNumber_30 (fun u4 H locs hm hw => ?_)
      refine lv_if_eq (tgt := 94) hx hb dX6_stepNumber_33 (by decide) (fun c5 => ?_) (fun c5 => ?_)
      · have hm := o_t c5 hm
        exact w_X6_stepNumber_94 E hr hlk hm  hw (lv_sub hl [] rfl)
      · have hm := o_f c5 hm
        refine lv_aload_n hx hb dX6_stepNumber_36 rfl (lv_at hl 0 rfl) ?_
        refine q_geti E hw fw_X6_49 rfl hv0 dX6_stepNumber_37 ?_
        refine lv_aload_n hx hb dX6_stepNumber_40 rfl (lv_at hl 0 rfl) ?_
        refine q_geti E hw fw_X6_28 rfl hv0 dX6_stepNumber_41 ?_
        refine lv_isub hx hb dX6_stepNumber_44 ?_
        refine lv_iconst (v := 4) hx hb dX6_stepNumber_45 (by decide) ?_
        refine lv_icmp_ge (tgt := 76) hx hb dX6_stepNumber_46 (by decide) (fun c6 => ?_) (fun c6 => ?_)
        · have hm := o_t c6 hm
          refine lv_aload_n hx hb dX6_stepNumber_76 rfl (lv_at hl 0 rfl) ?_
          refine lv_iconst (v := 4) hx hb dX6_stepNumber_77 (by decide) ?_
          refine q_pi E hw hm fw_X6_25 rfl rfl hv0 dX6_stepNumber_78 (fun σ7 H locs hm hw => ?_)
          exact w_X6_stepNumber_81 E hr hlk ih hm hv0 hw (lv_sub hl [0] rfl)
        · have hm := o_f c6 hm
          refine lv_aload_n hx hb dX6_stepNumber_49 rfl (lv_at hl 0 rfl) ?_
          refine lv_aload_n hx hb dX6_stepNumber_50 rfl (lv_at hl 0 rfl) ?_
          refine q_geti E hw fw_X6_31 rfl hv0 dX6_stepNumber_51 ?_
          refine lv_bipush (v := 10) hx hb dX6_stepNumber_54 (by decide) ?_
          refine lv_imul hx hb dX6_stepNumber_56 ?_
          refine lv_aload_n hx hb dX6_stepNumber_57 rfl (lv_at hl 0 rfl) ?_
          refine q_geta E hw fw_X6_9 rfl hv0 dX6_stepNumber_58 ?_
          refine lv_aload_n hx hb dX6_stepNumber_61 rfl (lv_at hl 0 rfl) ?_
          refine q_geti E hw fw_X6_49 rfl hv0 dX6_stepNumber_62 ?_
          refine q_iald E hw (tC_6_0 hv0) hm dX6_stepNumber_65 (fun a8 hm => ?_)
          refine lv_bipush (v := 48) hx hb dX6_stepNumber_66 (by decide) ?_
          refine lv_isub hx hb dX6_stepNumber_68 ?_
          refine lv_iadd hx hb dX6_stepNumber_69 ?_
          refine q_pi E hw hm fw_X6_31 rfl rfl hv0 dX6_stepNumber_70 (fun σ9 H locs hm hw => ?_)
          refine lv_goto (tgt := 81) hx hb dX6_stepNumber_73 (by decide) ?_
          exact w_X6_stepNumber_81 E hr hlk ih hm hv0 hw (lv_sub hl [0] rfl)
def f_X6_stepNumber (v0 : Nat) (σ : ST) : Option (ST) :=
  (stI σ v0 4 2).bind fun σ10 =>
  (stI σ10 v0 6 0).bind fun σ11 =>
  k_X6_stepNumber_10 FU v0 σ11
set_option maxRecDepth 20000 in
set_option maxHeartbeats 1000000 in
theorem w_X6_stepNumber_0 {p : Program} {l : Launch} {e : Env} {s : State} {m : MethodId} {args : Array Value} {below : List Frame} {meth : Method} {c : Code} {D : va_G} {cy : Nat → ClassId} {b : Nat} (E : CX p m c cX6_stepNumber 1 s args RX6 D cy LC) (hr : meth.sig.returnType = none) (hlk : meth.locks = false) {r : ST} {v0 : Nat} {σ : ST} {H : Heap} {locs : List Loc} {ls : Array Slot} (hm : f_X6_stepNumber v0 σ = some r) (hv0 : LC.1 v0 = 6) (hw : PH D cy LC b σ s H locs) (hl : lv_has ls 1 [(0, .ref (b + v0))]) : W p l e (rmD 1) s m args below meth c H locs 0 0 (MQ below (QcP D cy LC b none r) args s 0 0 (inP LC b)) (F0 m 0 ls []) := by
  have hx := E.1.1
  have hb := E.1.2.1
  unfold f_X6_stepNumber at hm
  refine lv_aload_n hx hb dX6_stepNumber_0 rfl (lv_at hl 0 rfl) ?_
  refine lv_iconst (v := 2) hx hb dX6_stepNumber_1 (by decide) ?_
  refine q_pi E hw hm fw_X6_25 rfl rfl hv0 dX6_stepNumber_2 (fun σ10 H locs hm hw => ?_)
  refine lv_aload_n hx hb dX6_stepNumber_5 rfl (lv_at hl 0 rfl) ?_
  refine lv_iconst (v := 0) hx hb dX6_stepNumber_6 (by decide) ?_
  refine q_pi E hw hm fw_X6_31 rfl rfl hv0 dX6_stepNumber_7 (fun σ11 H locs hm hw => ?_)
  exact w_X6_stepNumber_10 E hr hlk _ _ _ _ _ _ hm hv0 hw (lv_sub hl [0] rfl)
theorem c_X6_stepNumber {l : Launch} {D : va_G} {cy : Nat → ClassId} {b : Nat} {v0 : Nat} {σ : ST} {r : ST} (hm : f_X6_stepNumber v0 σ = some r) (hv0 : LC.1 v0 = 6) : Met l yX6_stepNumber (wU yX6_stepNumber cX6_stepNumber 1 (none)) (rmD 1) (PcP D cy LC b [.ref (b + v0)] σ) (QcP D cy LC b none r) 0 0 (inP LC b) :=
  q_met (lv := [(0, .ref (b + v0))]) LC_ok (by decide) (Nat.le_of_ble_eq_true rfl) rfl (fun _ _ _ _ _ _ _ _ _ E hr hlk hw hl => w_X6_stepNumber_0 E hr hlk hm hv0 hw hl)

def k_X6_findOwnWord_95 (rec10 : Nat → Int32 → Int32 → Int32 → Int32 → Int32 → ST → Option (Int32 × ST)) (v0 : Nat) (v1 : Int32) (v2 : Int32) (v3 : Int32) (v4 : Int32) (v5 : Int32) (σ : ST) : Option (Int32 × ST) :=
  rec10 v0 v1 v2 v3 v4 (v5 + 1) σ
set_option maxRecDepth 20000 in
set_option maxHeartbeats 1000000 in
theorem w_X6_findOwnWord_95 {p : Program} {l : Launch} {e : Env} {s : State} {m : MethodId} {args : Array Value} {below : List Frame} {meth : Method} {c : Code} {D : va_G} {cy : Nat → ClassId} {b : Nat} (E : CX p m c cX6_findOwnWord 7 s args RX6 D cy LC) (hr : meth.sig.returnType = some .int) (hlk : meth.locks = false) {r : Int32 × ST} {rec10 : Nat → Int32 → Int32 → Int32 → Int32 → Int32 → ST → Option (Int32 × ST)} (hrec10 : ∀ (v0 : Nat) (v1 : Int32) (v2 : Int32) (v3 : Int32) (v4 : Int32) (v5 : Int32) (σ : ST) (H : Heap) (locs : List Loc) (ls : Array Slot), rec10 v0 v1 v2 v3 v4 v5 σ = some r → LC.1 v0 = 6 → PH D cy LC b σ s H locs → lv_has ls 7 [(0, .ref (b + v0)), (1, .int v1), (2, .int v2), (3, .int v3), (4, .int v4), (5, .int v5)] → W p l e (rmD 4) s m args below meth c H locs 0 0 (MQ below (QcP D cy LC b (some (.int r.1)) r.2) args s 0 0 (inP LC b)) (F0 m 10 ls [])) {v0 : Nat} {v1 : Int32} {v2 : Int32} {v3 : Int32} {v4 : Int32} {v5 : Int32} {σ : ST} {H : Heap} {locs : List Loc} {ls : Array Slot} (hm : k_X6_findOwnWord_95 rec10 v0 v1 v2 v3 v4 v5 σ = some r) (hv0 : LC.1 v0 = 6) (hw : PH D cy LC b σ s H locs) (hl : lv_has ls 7 [(0, .ref (b + v0)), (1, .int v1), (2, .int v2), (3, .int v3), (4, .int v4), (5, .int v5)]) : W p l e (rmD 4) s m args below meth c H locs 0 0 (MQ below (QcP D cy LC b (some (.int r.1)) r.2) args s 0 0 (inP LC b)) (F0 m 95 ls []) := by
  have hx := E.1.1
  have hb := E.1.2.1
  unfold k_X6_findOwnWord_95 at hm
  refine lv_iinc (v := v5 + 1) (lv' := [(5, .int (v5 + 1)), (0, .ref (b + v0)), (1, .int v1), (2, .int v2), (3, .int v3), (4, .int v4)]) hx hb dX6_findOwnWord_95 hl (k := 5) rfl rfl (by decide) rfl (fun ls hl => ?_)
  refine lv_goto (tgt := 10) hx hb dX6_findOwnWord_98 (by decide) ?_
  exact hrec10 _ _ _ _ _ _ _ _ _ _ hm hv0 hw (lv_sub hl [1, 2, 3, 4, 5, 0] rfl)
def k_X6_findOwnWord_90 (rec10 : Nat → Int32 → Int32 → Int32 → Int32 → Int32 → ST → Option (Int32 × ST)) (v0 : Nat) (v1 : Int32) (v2 : Int32) (v3 : Int32) (v5 : Int32) (s0 : Int32) (σ : ST) : Option (Int32 × ST) :=
  k_X6_findOwnWord_95 rec10 v0 v1 v2 (v3 + 1) s0 v5 σ
set_option maxRecDepth 20000 in
set_option maxHeartbeats 1000000 in
theorem w_X6_findOwnWord_90 {p : Program} {l : Launch} {e : Env} {s : State} {m : MethodId} {args : Array Value} {below : List Frame} {meth : Method} {c : Code} {D : va_G} {cy : Nat → ClassId} {b : Nat} (E : CX p m c cX6_findOwnWord 7 s args RX6 D cy LC) (hr : meth.sig.returnType = some .int) (hlk : meth.locks = false) {r : Int32 × ST} {rec10 : Nat → Int32 → Int32 → Int32 → Int32 → Int32 → ST → Option (Int32 × ST)} (hrec10 : ∀ (v0 : Nat) (v1 : Int32) (v2 : Int32) (v3 : Int32) (v4 : Int32) (v5 : Int32) (σ : ST) (H : Heap) (locs : List Loc) (ls : Array Slot), rec10 v0 v1 v2 v3 v4 v5 σ = some r → LC.1 v0 = 6 → PH D cy LC b σ s H locs → lv_has ls 7 [(0, .ref (b + v0)), (1, .int v1), (2, .int v2), (3, .int v3), (4, .int v4), (5, .int v5)] → W p l e (rmD 4) s m args below meth c H locs 0 0 (MQ below (QcP D cy LC b (some (.int r.1)) r.2) args s 0 0 (inP LC b)) (F0 m 10 ls [])) {v0 : Nat} {v1 : Int32} {v2 : Int32} {v3 : Int32} {v5 : Int32} {s0 : Int32} {σ : ST} {H : Heap} {locs : List Loc} {ls : Array Slot} (hm : k_X6_findOwnWord_90 rec10 v0 v1 v2 v3 v5 s0 σ = some r) (hv0 : LC.1 v0 = 6) (hw : PH D cy LC b σ s H locs) (hl : lv_has ls 7 [(0, .ref (b + v0)), (1, .int v1), (2, .int v2), (3, .int v3), (5, .int v5)]) : W p l e (rmD 4) s m args below meth c H locs 0 0 (MQ below (QcP D cy LC b (some (.int r.1)) r.2) args s 0 0 (inP LC b)) (F0 m 90 ls [.int s0]) := by
  have hx := E.1.1
  have hb := E.1.2.1
  unfold k_X6_findOwnWord_90 at hm
  refine lv_istore (lv' := [(4, .int s0), (0, .ref (b + v0)), (1, .int v1), (2, .int v2), (3, .int v3), (5, .int v5)]) hx hb dX6_findOwnWord_90 hl (by decide) rfl (fun ls hl => ?_)
  refine lv_iinc (v := v3 + 1) (lv' := [(3, .int (v3 + 1)), (4, .int s0), (0, .ref (b + v0)), (1, .int v1), (2, .int v2), (5, .int v5)]) hx hb dX6_findOwnWord_92 hl (k := 4) rfl rfl (by decide) rfl (fun ls hl => ?_)
  exact w_X6_findOwnWord_95 E hr hlk hrec10 hm hv0 hw (lv_sub hl [2, 3, 4, 0, 1, 5] rfl)
def k_X6_findOwnWord_89 (rec10 : Nat → Int32 → Int32 → Int32 → Int32 → Int32 → ST → Option (Int32 × ST)) (v0 : Nat) (v1 : Int32) (v2 : Int32) (v3 : Int32) (v5 : Int32) (σ : ST) : Option (Int32 × ST) :=
  k_X6_findOwnWord_90 rec10 v0 v1 v2 v3 v5 0 σ
set_option maxRecDepth 20000 in
set_option maxHeartbeats 1000000 in
theorem w_X6_findOwnWord_89 {p : Program} {l : Launch} {e : Env} {s : State} {m : MethodId} {args : Array Value} {below : List Frame} {meth : Method} {c : Code} {D : va_G} {cy : Nat → ClassId} {b : Nat} (E : CX p m c cX6_findOwnWord 7 s args RX6 D cy LC) (hr : meth.sig.returnType = some .int) (hlk : meth.locks = false) {r : Int32 × ST} {rec10 : Nat → Int32 → Int32 → Int32 → Int32 → Int32 → ST → Option (Int32 × ST)} (hrec10 : ∀ (v0 : Nat) (v1 : Int32) (v2 : Int32) (v3 : Int32) (v4 : Int32) (v5 : Int32) (σ : ST) (H : Heap) (locs : List Loc) (ls : Array Slot), rec10 v0 v1 v2 v3 v4 v5 σ = some r → LC.1 v0 = 6 → PH D cy LC b σ s H locs → lv_has ls 7 [(0, .ref (b + v0)), (1, .int v1), (2, .int v2), (3, .int v3), (4, .int v4), (5, .int v5)] → W p l e (rmD 4) s m args below meth c H locs 0 0 (MQ below (QcP D cy LC b (some (.int r.1)) r.2) args s 0 0 (inP LC b)) (F0 m 10 ls [])) {v0 : Nat} {v1 : Int32} {v2 : Int32} {v3 : Int32} {v5 : Int32} {σ : ST} {H : Heap} {locs : List Loc} {ls : Array Slot} (hm : k_X6_findOwnWord_89 rec10 v0 v1 v2 v3 v5 σ = some r) (hv0 : LC.1 v0 = 6) (hw : PH D cy LC b σ s H locs) (hl : lv_has ls 7 [(0, .ref (b + v0)), (1, .int v1), (2, .int v2), (3, .int v3), (5, .int v5)]) : W p l e (rmD 4) s m args below meth c H locs 0 0 (MQ below (QcP D cy LC b (some (.int r.1)) r.2) args s 0 0 (inP LC b)) (F0 m 89 ls []) := by
  have hx := E.1.1
  have hb := E.1.2.1
  unfold k_X6_findOwnWord_89 at hm
  refine lv_iconst (v := 0) hx hb dX6_findOwnWord_89 (by decide) ?_
  exact w_X6_findOwnWord_90 E hr hlk hrec10 hm hv0 hw (lv_sub hl [0, 1, 2, 3, 4] rfl)
def k_X6_findOwnWord_48 (rec10 : Nat → Int32 → Int32 → Int32 → Int32 → Int32 → ST → Option (Int32 × ST)) (v0 : Nat) (v1 : Int32) (v2 : Int32) (v5 : Int32) (σ : ST) : Option (Int32 × ST) :=
  k_X6_findOwnWord_95 rec10 v0 v1 (v2 + 1) 0 1 v5 σ
set_option maxRecDepth 20000 in
set_option maxHeartbeats 1000000 in
theorem w_X6_findOwnWord_48 {p : Program} {l : Launch} {e : Env} {s : State} {m : MethodId} {args : Array Value} {below : List Frame} {meth : Method} {c : Code} {D : va_G} {cy : Nat → ClassId} {b : Nat} (E : CX p m c cX6_findOwnWord 7 s args RX6 D cy LC) (hr : meth.sig.returnType = some .int) (hlk : meth.locks = false) {r : Int32 × ST} {rec10 : Nat → Int32 → Int32 → Int32 → Int32 → Int32 → ST → Option (Int32 × ST)} (hrec10 : ∀ (v0 : Nat) (v1 : Int32) (v2 : Int32) (v3 : Int32) (v4 : Int32) (v5 : Int32) (σ : ST) (H : Heap) (locs : List Loc) (ls : Array Slot), rec10 v0 v1 v2 v3 v4 v5 σ = some r → LC.1 v0 = 6 → PH D cy LC b σ s H locs → lv_has ls 7 [(0, .ref (b + v0)), (1, .int v1), (2, .int v2), (3, .int v3), (4, .int v4), (5, .int v5)] → W p l e (rmD 4) s m args below meth c H locs 0 0 (MQ below (QcP D cy LC b (some (.int r.1)) r.2) args s 0 0 (inP LC b)) (F0 m 10 ls [])) {v0 : Nat} {v1 : Int32} {v2 : Int32} {v5 : Int32} {σ : ST} {H : Heap} {locs : List Loc} {ls : Array Slot} (hm : k_X6_findOwnWord_48 rec10 v0 v1 v2 v5 σ = some r) (hv0 : LC.1 v0 = 6) (hw : PH D cy LC b σ s H locs) (hl : lv_has ls 7 [(0, .ref (b + v0)), (1, .int v1), (2, .int v2), (5, .int v5)]) : W p l e (rmD 4) s m args below meth c H locs 0 0 (MQ below (QcP D cy LC b (some (.int r.1)) r.2) args s 0 0 (inP LC b)) (F0 m 48 ls []) := by
  have hx := E.1.1
  have hb := E.1.2.1
  unfold k_X6_findOwnWord_48 at hm
  refine lv_iinc (v := v2 + 1) (lv' := [(2, .int (v2 + 1)), (0, .ref (b + v0)), (1, .int v1), (5, .int v5)]) hx hb dX6_findOwnWord_48 hl (k := 2) rfl rfl (by decide) rfl (fun ls hl => ?_)
  refine lv_iconst (v := 0) hx hb dX6_findOwnWord_51 (by decide) ?_
  refine lv_istore_n (lv' := [(3, .int 0), (2, .int (v2 + 1)), (0, .ref (b + v0)), (1, .int v1), (5, .int v5)]) hx hb dX6_findOwnWord_52 rfl hl (by decide) rfl (fun ls hl => ?_)
  refine lv_iconst (v := 1) hx hb dX6_findOwnWord_53 (by decide) ?_
  refine lv_istore (lv' := [(4, .int 1), (3, .int 0), (2, .int (v2 + 1)), (0, .ref (b + v0)), (1, .int v1), (5, .int v5)]) hx hb dX6_findOwnWord_54 hl (by decide) rfl (fun ls hl => ?_)
  refine lv_goto (tgt := 95) hx hb dX6_findOwnWord_56 (by decide) ?_
  exact w_X6_findOwnWord_95 E hr hlk hrec10 hm hv0 hw (lv_sub hl [3, 4, 2, 1, 0, 5] rfl)
def k_X6_findOwnWord_10 : Nat → Nat → Int32 → Int32 → Int32 → Int32 → Int32 → ST → Option (Int32 × ST)
  | 0, _, _, _, _, _, _, _ => none
  | n + 1, v0, v1, v2, v3, v4, v5, σ => (f_J0_length_8abf5 10 σ).bind fun u1 =>
  if u1.1 ≤ v5 then (some ((-1), u1.2)) else ((f_J0_charAt_5068e 10 v5 u1.2).bind fun u3 =>
  if u3.1 = 32 then (if v4 = 0 then (k_X6_findOwnWord_48 (k_X6_findOwnWord_10 n) v0 v1 v2 v5 u3.2) else (if v3 = v1 then (some (v2, u3.2)) else (k_X6_findOwnWord_48 (k_X6_findOwnWord_10 n) v0 v1 v2 v5 u3.2))) else (if v4 = 0 then (k_X6_findOwnWord_89 (k_X6_findOwnWord_10 n) v0 v1 v2 v3 v5 u3.2) else (if v1 ≤ v3 then (k_X6_findOwnWord_89 (k_X6_findOwnWord_10 n) v0 v1 v2 v3 v5 u3.2) else ((ldA LC u3.2 (LC.2.1 v0 0) ((gI u3.2 v0 5) + v3)).bind fun a7 =>
  if a7 = u3.1 then (k_X6_findOwnWord_90 (k_X6_findOwnWord_10 n) v0 v1 v2 v3 v5 1 u3.2) else (k_X6_findOwnWord_89 (k_X6_findOwnWord_10 n) v0 v1 v2 v3 v5 u3.2)))))
set_option maxRecDepth 20000 in
set_option maxHeartbeats 1000000 in
theorem w_X6_findOwnWord_10 {p : Program} {l : Launch} {e : Env} {s : State} {m : MethodId} {args : Array Value} {below : List Frame} {meth : Method} {c : Code} {D : va_G} {cy : Nat → ClassId} {b : Nat} (E : CX p m c cX6_findOwnWord 7 s args RX6 D cy LC) (hr : meth.sig.returnType = some .int) (hlk : meth.locks = false) {r : Int32 × ST} : ∀ (n : Nat) (v0 : Nat) (v1 : Int32) (v2 : Int32) (v3 : Int32) (v4 : Int32) (v5 : Int32) (σ : ST) (H : Heap) (locs : List Loc) (ls : Array Slot), k_X6_findOwnWord_10 n v0 v1 v2 v3 v4 v5 σ = some r → LC.1 v0 = 6 → PH D cy LC b σ s H locs → lv_has ls 7 [(0, .ref (b + v0)), (1, .int v1), (2, .int v2), (3, .int v3), (4, .int v4), (5, .int v5)] → W p l e (rmD 4) s m args below meth c H locs 0 0 (MQ below (QcP D cy LC b (some (.int r.1)) r.2) args s 0 0 (inP LC b)) (F0 m 10 ls []) := by
  have hx := E.1.1
  have hb := E.1.2.1
  intro n
  induction n with
  | zero =>
    intro v0 v1 v2 v3 v4 v5 σ H locs ls hm
    cases hm
  | succ n ih =>
    intro v0 v1 v2 v3 v4 v5 σ H locs ls hm hv0 hw hl
    rw [k_X6_findOwnWord_10] at hm
    refine lv_iload hx hb dX6_findOwnWord_10 (lv_at hl 5 rfl) ?_
    refine q_ldcS (tx := "places reads writes keeper at key sum put strike add get fall rise wipe part heal hand night storm when alike up twins loop end stop ") (i := 10) E hw (List.mem_of_getElem? (i := 10) rfl) dX6_findOwnWord_12 ?_
    refine q_cTi [.int v5] E hw hm mw_X6_73 (fun u hu => c_J0_length_8abf5 hu (by decide)) (by decide) rfl rfl hl.1 (Nat.le_of_ble_eq_true rfl) ⟨Nat.le_of_ble_eq_true rfl, Nat.le_of_ble_eq_true rfl⟩ dX6_findOwnWord_14 (fun u1 H locs hm hw => ?_)
    refine lv_icmp_ge (tgt := 101) hx hb dX6_findOwnWord_17 (by decide) (fun c2 => ?_) (fun c2 => ?_)
    · have hm := o_t c2 hm
      refine lv_iconst (v := (-1)) hx hb dX6_findOwnWord_101 (by decide) ?_
      exact q_iret E hr hlk hw hm dX6_findOwnWord_102
    · have hm := o_f c2 hm
      refine q_ldcS (tx := "places reads writes keeper at key sum put strike add get fall rise wipe part heal hand night storm when alike up twins loop end stop ") (i := 10) E hw (List.mem_of_getElem? (i := 10) rfl) dX6_findOwnWord_20 ?_
      refine lv_iload hx hb dX6_findOwnWord_22 (lv_at hl 5 rfl) ?_
      refine q_cTi [] E hw hm mw_X6_78 (fun u hu => c_J0_charAt_5068e hu (by decide)) (by decide) rfl rfl hl.1 (Nat.le_of_ble_eq_true rfl) ⟨Nat.le_of_ble_eq_true rfl, Nat.le_of_ble_eq_true rfl⟩ dX6_findOwnWord_24 (fun u3 H locs hm hw => ?_)
      refine lv_istore (lv' := [(6, .int u3.1), (0, .ref (b + v0)), (1, .int v1), (2, .int v2), (3, .int v3), (4, .int v4), (5, .int v5)]) hx hb dX6_findOwnWord_27 hl (by decide) rfl (fun ls hl => ?_)
      refine lv_iload hx hb dX6_findOwnWord_29 (lv_at hl 0 rfl) ?_
      refine lv_bipush (v := 32) hx hb dX6_findOwnWord_31 (by decide) ?_
      refine lv_icmp_ne (tgt := 59) hx hb dX6_findOwnWord_33 (by decide) (fun c4 => ?_) (fun c4 => ?_)
      · have hm := o_f c4 hm
        refine lv_iload hx hb dX6_findOwnWord_59 (lv_at hl 5 rfl) ?_
        refine lv_if_eq (tgt := 89) hx hb dX6_findOwnWord_61 (by decide) (fun c5 => ?_) (fun c5 => ?_)
        · have hm := o_t c5 hm
          exact w_X6_findOwnWord_89 E hr hlk ih hm hv0 hw (lv_sub hl [1, 2, 3, 4, 6] rfl)
        · have hm := o_f c5 hm
          refine lv_iload_n hx hb dX6_findOwnWord_64 rfl (lv_at hl 4 rfl) ?_
          refine lv_iload_n hx hb dX6_findOwnWord_65 rfl (lv_at hl 2 rfl) ?_
          refine lv_icmp_ge (tgt := 89) hx hb dX6_findOwnWord_66 (by decide) (fun c6 => ?_) (fun c6 => ?_)
          · have hm := o_t c6 hm
            exact w_X6_findOwnWord_89 E hr hlk ih hm hv0 hw (lv_sub hl [1, 2, 3, 4, 6] rfl)
          · have hm := o_f c6 hm
            refine lv_aload_n hx hb dX6_findOwnWord_69 rfl (lv_at hl 1 rfl) ?_
            refine q_geta E hw fw_X6_9 rfl hv0 dX6_findOwnWord_70 ?_
            refine lv_aload_n hx hb dX6_findOwnWord_73 rfl (lv_at hl 1 rfl) ?_
            refine q_geti E hw fw_X6_28 rfl hv0 dX6_findOwnWord_74 ?_
            refine lv_iload_n hx hb dX6_findOwnWord_77 rfl (lv_at hl 4 rfl) ?_
            refine lv_iadd hx hb dX6_findOwnWord_78 ?_
            refine q_iald E hw (tC_6_0 hv0) hm dX6_findOwnWord_79 (fun a7 hm => ?_)
            refine lv_iload hx hb dX6_findOwnWord_80 (lv_at hl 0 rfl) ?_
            refine lv_icmp_ne (tgt := 89) hx hb dX6_findOwnWord_82 (by decide) (fun c8 => ?_) (fun c8 => ?_)
            · have hm := o_f c8 hm
              exact w_X6_findOwnWord_89 E hr hlk ih hm hv0 hw (lv_sub hl [1, 2, 3, 4, 6] rfl)
            · have hm := o_t c8 hm
              refine lv_iconst (v := 1) hx hb dX6_findOwnWord_85 (by decide) ?_
              refine lv_goto (tgt := 90) hx hb dX6_findOwnWord_86 (by decide) ?_
              exact w_X6_findOwnWord_90 E hr hlk ih hm hv0 hw (lv_sub hl [1, 2, 3, 4, 6] rfl)
      · have hm := o_t c4 hm
        refine lv_iload hx hb dX6_findOwnWord_36 (lv_at hl 5 rfl) ?_
        refine lv_if_eq (tgt := 48) hx hb dX6_findOwnWord_38 (by decide) (fun c9 => ?_) (fun c9 => ?_)
        · have hm := o_t c9 hm
          exact w_X6_findOwnWord_48 E hr hlk ih hm hv0 hw (lv_sub hl [1, 2, 3, 6] rfl)
        · have hm := o_f c9 hm
          refine lv_iload_n hx hb dX6_findOwnWord_41 rfl (lv_at hl 4 rfl) ?_
          refine lv_iload_n hx hb dX6_findOwnWord_42 rfl (lv_at hl 2 rfl) ?_
          refine lv_icmp_ne (tgt := 48) hx hb dX6_findOwnWord_43 (by decide) (fun c10 => ?_) (fun c10 => ?_)
          · have hm := o_f c10 hm
            exact w_X6_findOwnWord_48 E hr hlk ih hm hv0 hw (lv_sub hl [1, 2, 3, 6] rfl)
          · have hm := o_t c10 hm
            refine lv_iload_n hx hb dX6_findOwnWord_46 rfl (lv_at hl 3 rfl) ?_
            exact q_iret E hr hlk hw hm dX6_findOwnWord_47
def f_X6_findOwnWord (v0 : Nat) (v1 : Int32) (σ : ST) : Option (Int32 × ST) :=
  k_X6_findOwnWord_10 FU v0 v1 0 0 1 0 σ
set_option maxRecDepth 20000 in
set_option maxHeartbeats 1000000 in
theorem w_X6_findOwnWord_0 {p : Program} {l : Launch} {e : Env} {s : State} {m : MethodId} {args : Array Value} {below : List Frame} {meth : Method} {c : Code} {D : va_G} {cy : Nat → ClassId} {b : Nat} (E : CX p m c cX6_findOwnWord 7 s args RX6 D cy LC) (hr : meth.sig.returnType = some .int) (hlk : meth.locks = false) {r : Int32 × ST} {v0 : Nat} {v1 : Int32} {σ : ST} {H : Heap} {locs : List Loc} {ls : Array Slot} (hm : f_X6_findOwnWord v0 v1 σ = some r) (hv0 : LC.1 v0 = 6) (hw : PH D cy LC b σ s H locs) (hl : lv_has ls 7 [(0, .ref (b + v0)), (1, .int v1)]) : W p l e (rmD 4) s m args below meth c H locs 0 0 (MQ below (QcP D cy LC b (some (.int r.1)) r.2) args s 0 0 (inP LC b)) (F0 m 0 ls []) := by
  have hx := E.1.1
  have hb := E.1.2.1
  unfold f_X6_findOwnWord at hm
  refine lv_iconst (v := 0) hx hb dX6_findOwnWord_0 (by decide) ?_
  refine lv_istore_n (lv' := [(2, .int 0), (0, .ref (b + v0)), (1, .int v1)]) hx hb dX6_findOwnWord_1 rfl hl (by decide) rfl (fun ls hl => ?_)
  refine lv_iconst (v := 0) hx hb dX6_findOwnWord_2 (by decide) ?_
  refine lv_istore_n (lv' := [(3, .int 0), (2, .int 0), (0, .ref (b + v0)), (1, .int v1)]) hx hb dX6_findOwnWord_3 rfl hl (by decide) rfl (fun ls hl => ?_)
  refine lv_iconst (v := 1) hx hb dX6_findOwnWord_4 (by decide) ?_
  refine lv_istore (lv' := [(4, .int 1), (3, .int 0), (2, .int 0), (0, .ref (b + v0)), (1, .int v1)]) hx hb dX6_findOwnWord_5 hl (by decide) rfl (fun ls hl => ?_)
  refine lv_iconst (v := 0) hx hb dX6_findOwnWord_7 (by decide) ?_
  refine lv_istore (lv' := [(5, .int 0), (4, .int 1), (3, .int 0), (2, .int 0), (0, .ref (b + v0)), (1, .int v1)]) hx hb dX6_findOwnWord_8 hl (by decide) rfl (fun ls hl => ?_)
  exact w_X6_findOwnWord_10 E hr hlk _ _ _ _ _ _ _ _ _ _ _ hm hv0 hw (lv_sub hl [4, 5, 3, 2, 1, 0] rfl)
theorem c_X6_findOwnWord {l : Launch} {D : va_G} {cy : Nat → ClassId} {b : Nat} {v0 : Nat} {v1 : Int32} {σ : ST} {r : Int32 × ST} (hm : f_X6_findOwnWord v0 v1 σ = some r) (hv0 : LC.1 v0 = 6) : Met l yX6_findOwnWord (wU yX6_findOwnWord cX6_findOwnWord 7 (some .int)) (rmD 4) (PcP D cy LC b [.ref (b + v0), .int v1] σ) (QcP D cy LC b (some (.int r.1)) r.2) 0 0 (inP LC b) :=
  q_met (lv := [(0, .ref (b + v0)), (1, .int v1)]) LC_ok (by decide) (Nat.le_of_ble_eq_true rfl) rfl (fun _ _ _ _ _ _ _ _ _ E hr hlk hw hl => w_X6_findOwnWord_0 E hr hlk hm hv0 hw hl)

def k_X6_stepWord_126 (σ : ST) : Option (ST) :=
  some σ
set_option maxRecDepth 20000 in
set_option maxHeartbeats 1000000 in
theorem w_X6_stepWord_126 {p : Program} {l : Launch} {e : Env} {s : State} {m : MethodId} {args : Array Value} {below : List Frame} {meth : Method} {c : Code} {D : va_G} {cy : Nat → ClassId} {b : Nat} (E : CX p m c cX6_stepWord 3 s args RX6 D cy LC) (hr : meth.sig.returnType = none) (hlk : meth.locks = false) {r : ST} {σ : ST} {H : Heap} {locs : List Loc} {ls : Array Slot} (hm : k_X6_stepWord_126  σ = some r) (hw : PH D cy LC b σ s H locs) (hl : lv_has ls 3 []) : W p l e (rmD 5) s m args below meth c H locs 0 0 (MQ below (QcP D cy LC b none r) args s 0 0 (inP LC b)) (F0 m 126 ls []) := by
  have hx := E.1.1
  have hb := E.1.2.1
  unfold k_X6_stepWord_126 at hm
  exact q_vret E hr hlk hw hm dX6_stepWord_126
def k_X6_stepWord_82 (v0 : Nat) (v1 : Int64) (σ : ST) : Option (ST) :=
  (f_X6_findOwnWord v0 ((gI σ v0 11) - (gI σ v0 5)) σ).bind fun u1 =>
  (stI u1.2 v0 8 u1.1).bind fun σ2 =>
  if (gI σ2 v0 8) = (-1) then (if 8 < ((gI σ2 v0 11) - (gI σ2 v0 5)) then (k_X6_stepWord_126 σ2) else ((stJ σ2 v0 9 v1).bind fun σ5 =>
  k_X6_stepWord_126 σ5)) else (k_X6_stepWord_126 σ2)
set_option maxRecDepth 20000 in
set_option maxHeartbeats 1000000 in
theorem w_X6_stepWord_82 {p : Program} {l : Launch} {e : Env} {s : State} {m : MethodId} {args : Array Value} {below : List Frame} {meth : Method} {c : Code} {D : va_G} {cy : Nat → ClassId} {b : Nat} (E : CX p m c cX6_stepWord 3 s args RX6 D cy LC) (hr : meth.sig.returnType = none) (hlk : meth.locks = false) {r : ST} {v0 : Nat} {v1 : Int64} {σ : ST} {H : Heap} {locs : List Loc} {ls : Array Slot} (hm : k_X6_stepWord_82 v0 v1 σ = some r) (hv0 : LC.1 v0 = 6) (hw : PH D cy LC b σ s H locs) (hl : lv_has ls 3 [(0, .ref (b + v0)), (1, .long v1)]) : W p l e (rmD 5) s m args below meth c H locs 0 0 (MQ below (QcP D cy LC b none r) args s 0 0 (inP LC b)) (F0 m 82 ls []) := by
  have hx := E.1.1
  have hb := E.1.2.1
  unfold k_X6_stepWord_82 at hm
  refine lv_aload_n hx hb dX6_stepWord_82 rfl (lv_at hl 0 rfl) ?_
  refine lv_aload_n hx hb dX6_stepWord_83 rfl (lv_at hl 0 rfl) ?_
  refine lv_aload_n hx hb dX6_stepWord_84 rfl (lv_at hl 0 rfl) ?_
  refine q_geti E hw fw_X6_49 rfl hv0 dX6_stepWord_85 ?_
  refine lv_aload_n hx hb dX6_stepWord_88 rfl (lv_at hl 0 rfl) ?_
  refine q_geti E hw fw_X6_28 rfl hv0 dX6_stepWord_89 ?_
  refine lv_isub hx hb dX6_stepWord_92 ?_
  refine q_cVi (κ := 6) (C := RX6) (T := TX6) (N := 12) [.ref (b + v0)] E hw hm mw_X6_67 (fun u hu => c_X6_findOwnWord hu hv0) rfl (by decide) hv0 rfl rfl hl.1 (Nat.le_of_ble_eq_true rfl) ⟨Nat.le_of_ble_eq_true rfl, Nat.le_of_ble_eq_true rfl⟩ dX6_stepWord_93 (fun u1 H locs hm hw => ?_)
  refine q_pi E hw hm fw_X6_37 rfl rfl hv0 dX6_stepWord_96 (fun σ2 H locs hm hw => ?_)
  refine lv_aload_n hx hb dX6_stepWord_99 rfl (lv_at hl 0 rfl) ?_
  refine q_geti E hw fw_X6_37 rfl hv0 dX6_stepWord_100 ?_
  refine lv_iconst (v := (-1)) hx hb dX6_stepWord_103 (by decide) ?_
  refine lv_icmp_ne (tgt := 126) hx hb dX6_stepWord_104 (by decide) (fun c3 => ?_) (fun c3 => ?_)
  · have hm := o_f c3 hm
    exact w_X6_stepWord_126 E hr hlk hm  hw (lv_sub hl [] rfl)
  · have hm := o_t c3 hm
    refine lv_aload_n hx hb dX6_stepWord_107 rfl (lv_at hl 0 rfl) ?_
    refine q_geti E hw fw_X6_49 rfl hv0 dX6_stepWord_108 ?_
    refine lv_aload_n hx hb dX6_stepWord_111 rfl (lv_at hl 0 rfl) ?_
    refine q_geti E hw fw_X6_28 rfl hv0 dX6_stepWord_112 ?_
    refine lv_isub hx hb dX6_stepWord_115 ?_
    refine lv_bipush (v := 8) hx hb dX6_stepWord_116 (by decide) ?_
    refine lv_icmp_gt (tgt := 126) hx hb dX6_stepWord_118 (by decide) (fun c4 => ?_) (fun c4 => ?_)
    · have hm := o_t c4 hm
      exact w_X6_stepWord_126 E hr hlk hm  hw (lv_sub hl [] rfl)
    · have hm := o_f c4 hm
      refine lv_aload_n hx hb dX6_stepWord_121 rfl (lv_at hl 0 rfl) ?_
      refine lv_lload_n hx hb dX6_stepWord_122 rfl (lv_at hl 1 rfl) ?_
      refine q_pj E hw hm fw_X6_42 rfl rfl hv0 dX6_stepWord_123 (fun σ5 H locs hm hw => ?_)
      exact w_X6_stepWord_126 E hr hlk hm  hw (lv_sub hl [] rfl)
def k_X6_stepWord_69 (rec7 : Nat → Int64 → ST → Option (ST)) (v0 : Nat) (v1 : Int64) (σ : ST) : Option (ST) :=
  (stI σ v0 11 ((gI σ v0 11) + 1)).bind fun σ6 =>
  rec7 v0 v1 σ6
set_option maxRecDepth 20000 in
set_option maxHeartbeats 1000000 in
theorem w_X6_stepWord_69 {p : Program} {l : Launch} {e : Env} {s : State} {m : MethodId} {args : Array Value} {below : List Frame} {meth : Method} {c : Code} {D : va_G} {cy : Nat → ClassId} {b : Nat} (E : CX p m c cX6_stepWord 3 s args RX6 D cy LC) (hr : meth.sig.returnType = none) (hlk : meth.locks = false) {r : ST} {rec7 : Nat → Int64 → ST → Option (ST)} (hrec7 : ∀ (v0 : Nat) (v1 : Int64) (σ : ST) (H : Heap) (locs : List Loc) (ls : Array Slot), rec7 v0 v1 σ = some r → LC.1 v0 = 6 → PH D cy LC b σ s H locs → lv_has ls 3 [(0, .ref (b + v0)), (1, .long v1)] → W p l e (rmD 5) s m args below meth c H locs 0 0 (MQ below (QcP D cy LC b none r) args s 0 0 (inP LC b)) (F0 m 7 ls [])) {v0 : Nat} {v1 : Int64} {σ : ST} {H : Heap} {locs : List Loc} {ls : Array Slot} (hm : k_X6_stepWord_69 rec7 v0 v1 σ = some r) (hv0 : LC.1 v0 = 6) (hw : PH D cy LC b σ s H locs) (hl : lv_has ls 3 [(0, .ref (b + v0)), (1, .long v1)]) : W p l e (rmD 5) s m args below meth c H locs 0 0 (MQ below (QcP D cy LC b none r) args s 0 0 (inP LC b)) (F0 m 69 ls []) := by
  have hx := E.1.1
  have hb := E.1.2.1
  unfold k_X6_stepWord_69 at hm
  refine lv_aload_n hx hb dX6_stepWord_69 rfl (lv_at hl 0 rfl) ?_
  refine lv_dup hx hb dX6_stepWord_70 rfl ?_
  refine q_geti E hw fw_X6_49 rfl hv0 dX6_stepWord_71 ?_
  refine lv_iconst (v := 1) hx hb dX6_stepWord_74 (by decide) ?_
  refine lv_iadd hx hb dX6_stepWord_75 ?_
  refine q_pi E hw hm fw_X6_49 rfl rfl hv0 dX6_stepWord_76 (fun σ6 H locs hm hw => ?_)
  refine lv_goto (tgt := 7) hx hb dX6_stepWord_79 (by decide) ?_
  exact hrec7 _ _ _ _ _ _ hm hv0 hw (lv_sub hl [0, 1] rfl)
def k_X6_stepWord_7 : Nat → Nat → Int64 → ST → Option (ST)
  | 0, _, _, _ => none
  | n + 1, v0, v1, σ => if (gI σ v0 10) ≤ (gI σ v0 11) then (k_X6_stepWord_82 v0 v1 σ) else ((ldA LC σ (LC.2.1 v0 0) (gI σ v0 11)).bind fun a8 =>
  (f_X6_isLetter a8 σ).bind fun u9 =>
  if u9.1 = 0 then (k_X6_stepWord_82 v0 v1 u9.2) else (if 8 ≤ ((gI u9.2 v0 11) - (gI u9.2 v0 5)) then (k_X6_stepWord_69 (k_X6_stepWord_7 n) v0 v1 u9.2) else ((ldA LC u9.2 (LC.2.1 v0 0) (gI u9.2 v0 11)).bind fun a12 =>
  k_X6_stepWord_69 (k_X6_stepWord_7 n) v0 ((v1 * 32) + (((a12 - 97) + 1).toInt64)) u9.2)))
set_option maxRecDepth 20000 in
set_option maxHeartbeats 1000000 in
theorem w_X6_stepWord_7 {p : Program} {l : Launch} {e : Env} {s : State} {m : MethodId} {args : Array Value} {below : List Frame} {meth : Method} {c : Code} {D : va_G} {cy : Nat → ClassId} {b : Nat} (E : CX p m c cX6_stepWord 3 s args RX6 D cy LC) (hr : meth.sig.returnType = none) (hlk : meth.locks = false) {r : ST} : ∀ (n : Nat) (v0 : Nat) (v1 : Int64) (σ : ST) (H : Heap) (locs : List Loc) (ls : Array Slot), k_X6_stepWord_7 n v0 v1 σ = some r → LC.1 v0 = 6 → PH D cy LC b σ s H locs → lv_has ls 3 [(0, .ref (b + v0)), (1, .long v1)] → W p l e (rmD 5) s m args below meth c H locs 0 0 (MQ below (QcP D cy LC b none r) args s 0 0 (inP LC b)) (F0 m 7 ls []) := by
  have hx := E.1.1
  have hb := E.1.2.1
  intro n
  induction n with
  | zero =>
    intro v0 v1 σ H locs ls hm
    cases hm
  | succ n ih =>
    intro v0 v1 σ H locs ls hm hv0 hw hl
    rw [k_X6_stepWord_7] at hm
    refine lv_aload_n hx hb dX6_stepWord_7 rfl (lv_at hl 0 rfl) ?_
    refine q_geti E hw fw_X6_49 rfl hv0 dX6_stepWord_8 ?_
    refine lv_aload_n hx hb dX6_stepWord_11 rfl (lv_at hl 0 rfl) ?_
    refine q_geti E hw fw_X6_46 rfl hv0 dX6_stepWord_12 ?_
    refine lv_icmp_ge (tgt := 82) hx hb dX6_stepWord_15 (by decide) (fun c7 => ?_) (fun c7 => ?_)
    · have hm := o_t c7 hm
      exact w_X6_stepWord_82 E hr hlk hm hv0 hw (lv_sub hl [0, 1] rfl)
    · have hm := o_f c7 hm
      refine lv_aload_n hx hb dX6_stepWord_18 rfl (lv_at hl 0 rfl) ?_
      refine q_geta E hw fw_X6_9 rfl hv0 dX6_stepWord_19 ?_
      refine lv_aload_n hx hb dX6_stepWord_22 rfl (lv_at hl 0 rfl) ?_
      refine q_geti E hw fw_X6_49 rfl hv0 dX6_stepWord_23 ?_
      refine q_iald E hw (tC_6_0 hv0) hm dX6_stepWord_26 (fun a8 hm => ?_)
      refine q_cSi [] E hw hm ms_X6_52 (fun u hu => c_X6_isLetter hu ) rfl rfl hl.1 (Nat.le_of_ble_eq_true rfl) ⟨Nat.le_of_ble_eq_true rfl, Nat.le_of_ble_eq_true rfl⟩ dX6_stepWord_27 (fun u9 H locs hm hw => ?_)
      refine lv_if_eq (tgt := 82) hx hb dX6_stepWord_30 (by decide) (fun c10 => ?_) (fun c10 => ?_)
      · have hm := o_t c10 hm
        exact w_X6_stepWord_82 E hr hlk hm hv0 hw (lv_sub hl [0, 1] rfl)
      · have hm := o_f c10 hm
        refine lv_aload_n hx hb dX6_stepWord_33 rfl (lv_at hl 0 rfl) ?_
        refine q_geti E hw fw_X6_49 rfl hv0 dX6_stepWord_34 ?_
        refine lv_aload_n hx hb dX6_stepWord_37 rfl (lv_at hl 0 rfl) ?_
        refine q_geti E hw fw_X6_28 rfl hv0 dX6_stepWord_38 ?_
        refine lv_isub hx hb dX6_stepWord_41 ?_
        refine lv_bipush (v := 8) hx hb dX6_stepWord_42 (by decide) ?_
        refine lv_icmp_ge (tgt := 69) hx hb dX6_stepWord_44 (by decide) (fun c11 => ?_) (fun c11 => ?_)
        · have hm := o_t c11 hm
          exact w_X6_stepWord_69 E hr hlk ih hm hv0 hw (lv_sub hl [0, 1] rfl)
        · have hm := o_f c11 hm
          refine lv_lload_n hx hb dX6_stepWord_47 rfl (lv_at hl 1 rfl) ?_
          refine lv_ldc2 hx hb E.1.2.2.2.1 (E.1.2.2.2.2 _ (rL17 _ (List.mem_of_getElem? (i := 5) rfl))) dX6_stepWord_48 ?_
          refine lv_lmul hx hb dX6_stepWord_51 ?_
          refine lv_aload_n hx hb dX6_stepWord_52 rfl (lv_at hl 0 rfl) ?_
          refine q_geta E hw fw_X6_9 rfl hv0 dX6_stepWord_53 ?_
          refine lv_aload_n hx hb dX6_stepWord_56 rfl (lv_at hl 0 rfl) ?_
          refine q_geti E hw fw_X6_49 rfl hv0 dX6_stepWord_57 ?_
          refine q_iald E hw (tC_6_0 hv0) hm dX6_stepWord_60 (fun a12 hm => ?_)
          refine lv_bipush (v := 97) hx hb dX6_stepWord_61 (by decide) ?_
          refine lv_isub hx hb dX6_stepWord_63 ?_
          refine lv_iconst (v := 1) hx hb dX6_stepWord_64 (by decide) ?_
          refine lv_iadd hx hb dX6_stepWord_65 ?_
          refine lv_i2l hx hb dX6_stepWord_66 rfl ?_
          refine lv_ladd hx hb dX6_stepWord_67 ?_
          refine lv_lstore_n (lv' := [(1, .long ((v1 * 32) + (((a12 - 97) + 1).toInt64))), (0, .ref (b + v0))]) hx hb dX6_stepWord_68 rfl hl (by decide) rfl (fun ls hl => ?_)
          exact w_X6_stepWord_69 E hr hlk ih hm hv0 hw (lv_sub hl [1, 0] rfl)
def f_X6_stepWord (v0 : Nat) (σ : ST) : Option (ST) :=
  (stI σ v0 4 1).bind fun σ13 =>
  k_X6_stepWord_7 FU v0 0 σ13
set_option maxRecDepth 20000 in
set_option maxHeartbeats 1000000 in
theorem w_X6_stepWord_0 {p : Program} {l : Launch} {e : Env} {s : State} {m : MethodId} {args : Array Value} {below : List Frame} {meth : Method} {c : Code} {D : va_G} {cy : Nat → ClassId} {b : Nat} (E : CX p m c cX6_stepWord 3 s args RX6 D cy LC) (hr : meth.sig.returnType = none) (hlk : meth.locks = false) {r : ST} {v0 : Nat} {σ : ST} {H : Heap} {locs : List Loc} {ls : Array Slot} (hm : f_X6_stepWord v0 σ = some r) (hv0 : LC.1 v0 = 6) (hw : PH D cy LC b σ s H locs) (hl : lv_has ls 3 [(0, .ref (b + v0))]) : W p l e (rmD 5) s m args below meth c H locs 0 0 (MQ below (QcP D cy LC b none r) args s 0 0 (inP LC b)) (F0 m 0 ls []) := by
  have hx := E.1.1
  have hb := E.1.2.1
  unfold f_X6_stepWord at hm
  refine lv_aload_n hx hb dX6_stepWord_0 rfl (lv_at hl 0 rfl) ?_
  refine lv_iconst (v := 1) hx hb dX6_stepWord_1 (by decide) ?_
  refine q_pi E hw hm fw_X6_25 rfl rfl hv0 dX6_stepWord_2 (fun σ13 H locs hm hw => ?_)
  refine lv_lconst (v := 0) hx hb dX6_stepWord_5 (by decide) ?_
  refine lv_lstore_n (lv' := [(1, .long 0), (0, .ref (b + v0))]) hx hb dX6_stepWord_6 rfl hl (by decide) rfl (fun ls hl => ?_)
  exact w_X6_stepWord_7 E hr hlk _ _ _ _ _ _ _ hm hv0 hw (lv_sub hl [1, 0] rfl)
theorem c_X6_stepWord {l : Launch} {D : va_G} {cy : Nat → ClassId} {b : Nat} {v0 : Nat} {σ : ST} {r : ST} (hm : f_X6_stepWord v0 σ = some r) (hv0 : LC.1 v0 = 6) : Met l yX6_stepWord (wU yX6_stepWord cX6_stepWord 3 (none)) (rmD 5) (PcP D cy LC b [.ref (b + v0)] σ) (QcP D cy LC b none r) 0 0 (inP LC b) :=
  q_met (lv := [(0, .ref (b + v0))]) LC_ok (by decide) (Nat.le_of_ble_eq_true rfl) rfl (fun _ _ _ _ _ _ _ _ _ E hr hlk hw hl => w_X6_stepWord_0 E hr hlk hm hv0 hw hl)

def k_X6_step_203 (σ : ST) : Option (ST) :=
  some σ
set_option maxRecDepth 20000 in
set_option maxHeartbeats 1000000 in
theorem w_X6_step_203 {p : Program} {l : Launch} {e : Env} {s : State} {m : MethodId} {args : Array Value} {below : List Frame} {meth : Method} {c : Code} {D : va_G} {cy : Nat → ClassId} {b : Nat} (E : CX p m c cX6_step 1 s args RX6 D cy LC) (hr : meth.sig.returnType = none) (hlk : meth.locks = false) {r : ST} {σ : ST} {H : Heap} {locs : List Loc} {ls : Array Slot} (hm : k_X6_step_203  σ = some r) (hw : PH D cy LC b σ s H locs) (hl : lv_has ls 1 []) : W p l e (rmD 6) s m args below meth c H locs 0 0 (MQ below (QcP D cy LC b none r) args s 0 0 (inP LC b)) (F0 m 203 ls []) := by
  have hx := E.1.1
  have hb := E.1.2.1
  unfold k_X6_step_203 at hm
  exact q_vret E hr hlk hw hm dX6_step_203
def k_X6_step_190 (v0 : Nat) (s0 : Nat) (s1 : Int32) (σ : ST) : Option (ST) :=
  (stI σ s0 4 s1).bind fun σ1 =>
  (stI σ1 v0 11 ((gI σ1 v0 11) + 1)).bind fun σ2 =>
  k_X6_step_203 σ2
set_option maxRecDepth 20000 in
set_option maxHeartbeats 1000000 in
theorem w_X6_step_190 {p : Program} {l : Launch} {e : Env} {s : State} {m : MethodId} {args : Array Value} {below : List Frame} {meth : Method} {c : Code} {D : va_G} {cy : Nat → ClassId} {b : Nat} (E : CX p m c cX6_step 1 s args RX6 D cy LC) (hr : meth.sig.returnType = none) (hlk : meth.locks = false) {r : ST} {v0 : Nat} {s0 : Nat} {s1 : Int32} {σ : ST} {H : Heap} {locs : List Loc} {ls : Array Slot} (hm : k_X6_step_190 v0 s0 s1 σ = some r) (hv0 : LC.1 v0 = 6) (hs0 : LC.1 s0 = 6) (hw : PH D cy LC b σ s H locs) (hl : lv_has ls 1 [(0, .ref (b + v0))]) : W p l e (rmD 6) s m args below meth c H locs 0 0 (MQ below (QcP D cy LC b none r) args s 0 0 (inP LC b)) (F0 m 190 ls [.int s1, .ref (b + s0)]) := by
  have hx := E.1.1
  have hb := E.1.2.1
  unfold k_X6_step_190 at hm
  refine q_pi E hw hm fw_X6_25 rfl rfl hs0 dX6_step_190 (fun σ1 H locs hm hw => ?_)
  refine lv_aload_n hx hb dX6_step_193 rfl (lv_at hl 0 rfl) ?_
  refine lv_dup hx hb dX6_step_194 rfl ?_
  refine q_geti E hw fw_X6_49 rfl hv0 dX6_step_195 ?_
  refine lv_iconst (v := 1) hx hb dX6_step_198 (by decide) ?_
  refine lv_iadd hx hb dX6_step_199 ?_
  refine q_pi E hw hm fw_X6_49 rfl rfl hv0 dX6_step_200 (fun σ2 H locs hm hw => ?_)
  exact w_X6_step_203 E hr hlk hm  hw (lv_sub hl [] rfl)
def k_X6_step_185 (v0 : Nat) (s0 : Nat) (σ : ST) : Option (ST) :=
  k_X6_step_190 v0 s0 3 σ
set_option maxRecDepth 20000 in
set_option maxHeartbeats 1000000 in
theorem w_X6_step_185 {p : Program} {l : Launch} {e : Env} {s : State} {m : MethodId} {args : Array Value} {below : List Frame} {meth : Method} {c : Code} {D : va_G} {cy : Nat → ClassId} {b : Nat} (E : CX p m c cX6_step 1 s args RX6 D cy LC) (hr : meth.sig.returnType = none) (hlk : meth.locks = false) {r : ST} {v0 : Nat} {s0 : Nat} {σ : ST} {H : Heap} {locs : List Loc} {ls : Array Slot} (hm : k_X6_step_185 v0 s0 σ = some r) (hv0 : LC.1 v0 = 6) (hs0 : LC.1 s0 = 6) (hw : PH D cy LC b σ s H locs) (hl : lv_has ls 1 [(0, .ref (b + v0))]) : W p l e (rmD 6) s m args below meth c H locs 0 0 (MQ below (QcP D cy LC b none r) args s 0 0 (inP LC b)) (F0 m 185 ls [.ref (b + s0)]) := by
  have hx := E.1.1
  have hb := E.1.2.1
  unfold k_X6_step_185 at hm
  refine lv_iconst (v := 3) hx hb dX6_step_185 (by decide) ?_
  refine lv_goto (tgt := 190) hx hb dX6_step_186 (by decide) ?_
  exact w_X6_step_190 E hr hlk hm hv0 hs0 hw (lv_sub hl [0] rfl)
def k_X6_step_52 (v0 : Nat) (σ : ST) : Option (ST) :=
  (stI σ v0 5 (gI σ v0 11)).bind fun σ3 =>
  (stI σ3 v0 8 (-1)).bind fun σ4 =>
  (stJ σ4 v0 9 (-1)).bind fun σ5 =>
  if (gI σ5 v0 11) < (gI σ5 v0 10) then ((ldA LC σ5 (LC.2.1 v0 0) (gI σ5 v0 11)).bind fun a7 =>
  (f_X6_isLetter a7 σ5).bind fun u8 =>
  if u8.1 = 0 then ((ldA LC u8.2 (LC.2.1 v0 0) (gI u8.2 v0 11)).bind fun a10 =>
  (f_X6_isDigit a10 u8.2).bind fun u11 =>
  if u11.1 = 0 then ((ldA LC u11.2 (LC.2.1 v0 0) (gI u11.2 v0 11)).bind fun a13 =>
  (stI u11.2 v0 7 a13).bind fun σ14 =>
  if (gI σ14 v0 7) = 59 then (k_X6_step_185 v0 v0 σ14) else (if (gI σ14 v0 7) = 60 then (k_X6_step_185 v0 v0 σ14) else (if (gI σ14 v0 7) = 62 then (k_X6_step_185 v0 v0 σ14) else (if (gI σ14 v0 7) = 61 then (k_X6_step_185 v0 v0 σ14) else (k_X6_step_190 v0 v0 4 σ14))))) else ((f_X6_stepNumber v0 u11.2).bind fun u19 =>
  k_X6_step_203 u19)) else ((f_X6_stepWord v0 u8.2).bind fun u20 =>
  k_X6_step_203 u20)) else ((stI σ5 v0 4 0).bind fun σ21 =>
  k_X6_step_203 σ21)
set_option maxRecDepth 20000 in
set_option maxHeartbeats 1000000 in
theorem w_X6_step_52 {p : Program} {l : Launch} {e : Env} {s : State} {m : MethodId} {args : Array Value} {below : List Frame} {meth : Method} {c : Code} {D : va_G} {cy : Nat → ClassId} {b : Nat} (E : CX p m c cX6_step 1 s args RX6 D cy LC) (hr : meth.sig.returnType = none) (hlk : meth.locks = false) {r : ST} {v0 : Nat} {σ : ST} {H : Heap} {locs : List Loc} {ls : Array Slot} (hm : k_X6_step_52 v0 σ = some r) (hv0 : LC.1 v0 = 6) (hw : PH D cy LC b σ s H locs) (hl : lv_has ls 1 [(0, .ref (b + v0))]) : W p l e (rmD 6) s m args below meth c H locs 0 0 (MQ below (QcP D cy LC b none r) args s 0 0 (inP LC b)) (F0 m 52 ls []) := by
  have hx := E.1.1
  have hb := E.1.2.1
  unfold k_X6_step_52 at hm
  refine lv_aload_n hx hb dX6_step_52 rfl (lv_at hl 0 rfl) ?_
  refine lv_aload_n hx hb dX6_step_53 rfl (lv_at hl 0 rfl) ?_
  refine q_geti E hw fw_X6_49 rfl hv0 dX6_step_54 ?_
  refine q_pi E hw hm fw_X6_28 rfl rfl hv0 dX6_step_57 (fun σ3 H locs hm hw => ?_)
  refine lv_aload_n hx hb dX6_step_60 rfl (lv_at hl 0 rfl) ?_
  refine lv_iconst (v := (-1)) hx hb dX6_step_61 (by decide) ?_
  refine q_pi E hw hm fw_X6_37 rfl rfl hv0 dX6_step_62 (fun σ4 H locs hm hw => ?_)
  refine lv_aload_n hx hb dX6_step_65 rfl (lv_at hl 0 rfl) ?_
  refine lv_ldc2 hx hb E.1.2.2.2.1 (E.1.2.2.2.2 _ (rL4 _ (List.mem_of_getElem? (i := 2) rfl))) dX6_step_66 ?_
  refine q_pj E hw hm fw_X6_42 rfl rfl hv0 dX6_step_69 (fun σ5 H locs hm hw => ?_)
  refine lv_aload_n hx hb dX6_step_72 rfl (lv_at hl 0 rfl) ?_
  refine q_geti E hw fw_X6_49 rfl hv0 dX6_step_73 ?_
  refine lv_aload_n hx hb dX6_step_76 rfl (lv_at hl 0 rfl) ?_
  refine q_geti E hw fw_X6_46 rfl hv0 dX6_step_77 ?_
  refine lv_icmp_lt (tgt := 91) hx hb dX6_step_80 (by decide) (fun c6 => ?_) (fun c6 => ?_)
  · have hm := o_t c6 hm
    refine lv_aload_n hx hb dX6_step_91 rfl (lv_at hl 0 rfl) ?_
    refine q_geta E hw fw_X6_9 rfl hv0 dX6_step_92 ?_
    refine lv_aload_n hx hb dX6_step_95 rfl (lv_at hl 0 rfl) ?_
    refine q_geti E hw fw_X6_49 rfl hv0 dX6_step_96 ?_
    refine q_iald E hw (tC_6_0 hv0) hm dX6_step_99 (fun a7 hm => ?_)
    refine q_cSi [] E hw hm ms_X6_52 (fun u hu => c_X6_isLetter hu ) rfl rfl hl.1 (Nat.le_of_ble_eq_true rfl) ⟨Nat.le_of_ble_eq_true rfl, Nat.le_of_ble_eq_true rfl⟩ dX6_step_100 (fun u8 H locs hm hw => ?_)
    refine lv_if_eq (tgt := 113) hx hb dX6_step_103 (by decide) (fun c9 => ?_) (fun c9 => ?_)
    · have hm := o_t c9 hm
      refine lv_aload_n hx hb dX6_step_113 rfl (lv_at hl 0 rfl) ?_
      refine q_geta E hw fw_X6_9 rfl hv0 dX6_step_114 ?_
      refine lv_aload_n hx hb dX6_step_117 rfl (lv_at hl 0 rfl) ?_
      refine q_geti E hw fw_X6_49 rfl hv0 dX6_step_118 ?_
      refine q_iald E hw (tC_6_0 hv0) hm dX6_step_121 (fun a10 hm => ?_)
      refine q_cSi [] E hw hm ms_X6_59 (fun u hu => c_X6_isDigit hu ) rfl rfl hl.1 (Nat.le_of_ble_eq_true rfl) ⟨Nat.le_of_ble_eq_true rfl, Nat.le_of_ble_eq_true rfl⟩ dX6_step_122 (fun u11 H locs hm hw => ?_)
      refine lv_if_eq (tgt := 135) hx hb dX6_step_125 (by decide) (fun c12 => ?_) (fun c12 => ?_)
      · have hm := o_t c12 hm
        refine lv_aload_n hx hb dX6_step_135 rfl (lv_at hl 0 rfl) ?_
        refine lv_aload_n hx hb dX6_step_136 rfl (lv_at hl 0 rfl) ?_
        refine q_geta E hw fw_X6_9 rfl hv0 dX6_step_137 ?_
        refine lv_aload_n hx hb dX6_step_140 rfl (lv_at hl 0 rfl) ?_
        refine q_geti E hw fw_X6_49 rfl hv0 dX6_step_141 ?_
        refine q_iald E hw (tC_6_0 hv0) hm dX6_step_144 (fun a13 hm => ?_)
        refine q_pi E hw hm fw_X6_34 rfl rfl hv0 dX6_step_145 (fun σ14 H locs hm hw => ?_)
        refine lv_aload_n hx hb dX6_step_148 rfl (lv_at hl 0 rfl) ?_
        refine lv_aload_n hx hb dX6_step_149 rfl (lv_at hl 0 rfl) ?_
        refine q_geti E hw fw_X6_34 rfl hv0 dX6_step_150 ?_
        refine lv_bipush (v := 59) hx hb dX6_step_153 (by decide) ?_
        refine lv_icmp_eq (tgt := 185) hx hb dX6_step_155 (by decide) (fun c15 => ?_) (fun c15 => ?_)
        · have hm := o_t c15 hm
          exact w_X6_step_185 E hr hlk hm hv0 hv0 hw (lv_sub hl [0] rfl)
        · have hm := o_f c15 hm
          refine lv_aload_n hx hb dX6_step_158 rfl (lv_at hl 0 rfl) ?_
          refine q_geti E hw fw_X6_34 rfl hv0 dX6_step_159 ?_
          refine lv_bipush (v := 60) hx hb dX6_step_162 (by decide) ?_
          refine lv_icmp_eq (tgt := 185) hx hb dX6_step_164 (by decide) (fun c16 => ?_) (fun c16 => ?_)
          · have hm := o_t c16 hm
            exact w_X6_step_185 E hr hlk hm hv0 hv0 hw (lv_sub hl [0] rfl)
          · have hm := o_f c16 hm
            refine lv_aload_n hx hb dX6_step_167 rfl (lv_at hl 0 rfl) ?_
            refine q_geti E hw fw_X6_34 rfl hv0 dX6_step_168 ?_
            refine lv_bipush (v := 62) hx hb dX6_step_171 (by decide) ?_
            refine lv_icmp_eq (tgt := 185) hx hb dX6_step_173 (by decide) (fun c17 => ?_) (fun c17 => ?_)
            · have hm := o_t c17 hm
              exact w_X6_step_185 E hr hlk hm hv0 hv0 hw (lv_sub hl [0] rfl)
            · have hm := o_f c17 hm
              refine lv_aload_n hx hb dX6_step_176 rfl (lv_at hl 0 rfl) ?_
              refine q_geti E hw fw_X6_34 rfl hv0 dX6_step_177 ?_
              refine lv_bipush (v := 61) hx hb dX6_step_180 (by decide) ?_
              refine lv_icmp_ne (tgt := 189) hx hb dX6_step_182 (by decide) (fun c18 => ?_) (fun c18 => ?_)
              · have hm := o_f c18 hm
                refine lv_iconst (v := 4) hx hb dX6_step_189 (by decide) ?_
                exact w_X6_step_190 E hr hlk hm hv0 hv0 hw (lv_sub hl [0] rfl)
              · have hm := o_t c18 hm
                exact w_X6_step_185 E hr hlk hm hv0 hv0 hw (lv_sub hl [0] rfl)
      · have hm := o_f c12 hm
        refine lv_aload_n hx hb dX6_step_128 rfl (lv_at hl 0 rfl) ?_
        refine q_cVv (κ := 6) (C := RX6) (T := TX6) (N := 12) [] E hw hm mw_X6_62 (fun u hu => c_X6_stepNumber hu hv0) rfl (by decide) hv0 rfl rfl hl.1 (Nat.le_of_ble_eq_true rfl) ⟨Nat.le_of_ble_eq_true rfl, Nat.le_of_ble_eq_true rfl⟩ dX6_step_129 (fun u19 H locs hm hw => ?_)
        refine lv_goto (tgt := 203) hx hb dX6_step_132 (by decide) ?_
        exact w_X6_step_203 E hr hlk hm  hw (lv_sub hl [] rfl)
    · have hm := o_f c9 hm
      refine lv_aload_n hx hb dX6_step_106 rfl (lv_at hl 0 rfl) ?_
      refine q_cVv (κ := 6) (C := RX6) (T := TX6) (N := 12) [] E hw hm mw_X6_56 (fun u hu => c_X6_stepWord hu hv0) rfl (by decide) hv0 rfl rfl hl.1 (Nat.le_of_ble_eq_true rfl) ⟨Nat.le_of_ble_eq_true rfl, Nat.le_of_ble_eq_true rfl⟩ dX6_step_107 (fun u20 H locs hm hw => ?_)
      refine lv_goto (tgt := 203) hx hb dX6_step_110 (by decide) ?_
      exact w_X6_step_203 E hr hlk hm  hw (lv_sub hl [] rfl)
  · have hm := o_f c6 hm
    refine lv_aload_n hx hb dX6_step_83 rfl (lv_at hl 0 rfl) ?_
    refine lv_iconst (v := 0) hx hb dX6_step_84 (by decide) ?_
    refine q_pi E hw hm fw_X6_25 rfl rfl hv0 dX6_step_85 (fun σ21 H locs hm hw => ?_)
    refine lv_goto (tgt := 203) hx hb dX6_step_88 (by decide) ?_
    exact w_X6_step_203 E hr hlk hm  hw (lv_sub hl [] rfl)
def k_X6_step_39 (rec0 : Nat → ST → Option (ST)) (v0 : Nat) (σ : ST) : Option (ST) :=
  (stI σ v0 11 ((gI σ v0 11) + 1)).bind fun σ22 =>
  rec0 v0 σ22
set_option maxRecDepth 20000 in
set_option maxHeartbeats 1000000 in
theorem w_X6_step_39 {p : Program} {l : Launch} {e : Env} {s : State} {m : MethodId} {args : Array Value} {below : List Frame} {meth : Method} {c : Code} {D : va_G} {cy : Nat → ClassId} {b : Nat} (E : CX p m c cX6_step 1 s args RX6 D cy LC) (hr : meth.sig.returnType = none) (hlk : meth.locks = false) {r : ST} {rec0 : Nat → ST → Option (ST)} (hrec0 : ∀ (v0 : Nat) (σ : ST) (H : Heap) (locs : List Loc) (ls : Array Slot), rec0 v0 σ = some r → LC.1 v0 = 6 → PH D cy LC b σ s H locs → lv_has ls 1 [(0, .ref (b + v0))] → W p l e (rmD 6) s m args below meth c H locs 0 0 (MQ below (QcP D cy LC b none r) args s 0 0 (inP LC b)) (F0 m 0 ls [])) {v0 : Nat} {σ : ST} {H : Heap} {locs : List Loc} {ls : Array Slot} (hm : k_X6_step_39 rec0 v0 σ = some r) (hv0 : LC.1 v0 = 6) (hw : PH D cy LC b σ s H locs) (hl : lv_has ls 1 [(0, .ref (b + v0))]) : W p l e (rmD 6) s m args below meth c H locs 0 0 (MQ below (QcP D cy LC b none r) args s 0 0 (inP LC b)) (F0 m 39 ls []) := by
  have hx := E.1.1
  have hb := E.1.2.1
  unfold k_X6_step_39 at hm
  refine lv_aload_n hx hb dX6_step_39 rfl (lv_at hl 0 rfl) ?_
  refine lv_dup hx hb dX6_step_40 rfl ?_
  refine q_geti E hw fw_X6_49 rfl hv0 dX6_step_41 ?_
  refine lv_iconst (v := 1) hx hb dX6_step_44 (by decide) ?_
  refine lv_iadd hx hb dX6_step_45 ?_
  refine q_pi E hw hm fw_X6_49 rfl rfl hv0 dX6_step_46 (fun σ22 H locs hm hw => ?_)
  refine lv_goto (tgt := 0) hx hb dX6_step_49 (by decide) ?_
  exact hrec0 _ _ _ _ _ hm hv0 hw (lv_sub hl [0] rfl)
def k_X6_step_0 : Nat → Nat → ST → Option (ST)
  | 0, _, _ => none
  | n + 1, v0, σ => if (gI σ v0 10) ≤ (gI σ v0 11) then (k_X6_step_52 v0 σ) else ((ldA LC σ (LC.2.1 v0 0) (gI σ v0 11)).bind fun a24 =>
  if a24 = 10 then (k_X6_step_39 (k_X6_step_0 n) v0 σ) else ((ldA LC σ (LC.2.1 v0 0) (gI σ v0 11)).bind fun a26 =>
  if a26 = 32 then (k_X6_step_39 (k_X6_step_0 n) v0 σ) else (k_X6_step_52 v0 σ)))
set_option maxRecDepth 20000 in
set_option maxHeartbeats 1000000 in
theorem w_X6_step_0 {p : Program} {l : Launch} {e : Env} {s : State} {m : MethodId} {args : Array Value} {below : List Frame} {meth : Method} {c : Code} {D : va_G} {cy : Nat → ClassId} {b : Nat} (E : CX p m c cX6_step 1 s args RX6 D cy LC) (hr : meth.sig.returnType = none) (hlk : meth.locks = false) {r : ST} : ∀ (n : Nat) (v0 : Nat) (σ : ST) (H : Heap) (locs : List Loc) (ls : Array Slot), k_X6_step_0 n v0 σ = some r → LC.1 v0 = 6 → PH D cy LC b σ s H locs → lv_has ls 1 [(0, .ref (b + v0))] → W p l e (rmD 6) s m args below meth c H locs 0 0 (MQ below (QcP D cy LC b none r) args s 0 0 (inP LC b)) (F0 m 0 ls []) := by
  have hx := E.1.1
  have hb := E.1.2.1
  intro n
  induction n with
  | zero =>
    intro v0 σ H locs ls hm
    cases hm
  | succ n ih =>
    intro v0 σ H locs ls hm hv0 hw hl
    rw [k_X6_step_0] at hm
    refine lv_aload_n hx hb dX6_step_0 rfl (lv_at hl 0 rfl) ?_
    refine q_geti E hw fw_X6_49 rfl hv0 dX6_step_1 ?_
    refine lv_aload_n hx hb dX6_step_4 rfl (lv_at hl 0 rfl) ?_
    refine q_geti E hw fw_X6_46 rfl hv0 dX6_step_5 ?_
    refine lv_icmp_ge (tgt := 52) hx hb dX6_step_8 (by decide) (fun c23 => ?_) (fun c23 => ?_)
    · have hm := o_t c23 hm
      exact w_X6_step_52 E hr hlk hm hv0 hw (lv_sub hl [0] rfl)
    · have hm := o_f c23 hm
      refine lv_aload_n hx hb dX6_step_11 rfl (lv_at hl 0 rfl) ?_
      refine q_geta E hw fw_X6_9 rfl hv0 dX6_step_12 ?_
      refine lv_aload_n hx hb dX6_step_15 rfl (lv_at hl 0 rfl) ?_
      refine q_geti E hw fw_X6_49 rfl hv0 dX6_step_16 ?_
      refine q_iald E hw (tC_6_0 hv0) hm dX6_step_19 (fun a24 hm => ?_)
      refine lv_bipush (v := 10) hx hb dX6_step_20 (by decide) ?_
      refine lv_icmp_eq (tgt := 39) hx hb dX6_step_22 (by decide) (fun c25 => ?_) (fun c25 => ?_)
      · have hm := o_t c25 hm
        exact w_X6_step_39 E hr hlk ih hm hv0 hw (lv_sub hl [0] rfl)
      · have hm := o_f c25 hm
        refine lv_aload_n hx hb dX6_step_25 rfl (lv_at hl 0 rfl) ?_
        refine q_geta E hw fw_X6_9 rfl hv0 dX6_step_26 ?_
        refine lv_aload_n hx hb dX6_step_29 rfl (lv_at hl 0 rfl) ?_
        refine q_geti E hw fw_X6_49 rfl hv0 dX6_step_30 ?_
        refine q_iald E hw (tC_6_0 hv0) hm dX6_step_33 (fun a26 hm => ?_)
        refine lv_bipush (v := 32) hx hb dX6_step_34 (by decide) ?_
        refine lv_icmp_ne (tgt := 52) hx hb dX6_step_36 (by decide) (fun c27 => ?_) (fun c27 => ?_)
        · have hm := o_f c27 hm
          exact w_X6_step_52 E hr hlk hm hv0 hw (lv_sub hl [0] rfl)
        · have hm := o_t c27 hm
          exact w_X6_step_39 E hr hlk ih hm hv0 hw (lv_sub hl [0] rfl)
def f_X6_step (v0 : Nat) (σ : ST) : Option (ST) :=
  k_X6_step_0 FU v0 σ
set_option maxRecDepth 20000 in
set_option maxHeartbeats 1000000 in
theorem w_X6_step_e {p : Program} {l : Launch} {e : Env} {s : State} {m : MethodId} {args : Array Value} {below : List Frame} {meth : Method} {c : Code} {D : va_G} {cy : Nat → ClassId} {b : Nat} (E : CX p m c cX6_step 1 s args RX6 D cy LC) (hr : meth.sig.returnType = none) (hlk : meth.locks = false) {r : ST} {v0 : Nat} {σ : ST} {H : Heap} {locs : List Loc} {ls : Array Slot} (hm : f_X6_step v0 σ = some r) (hv0 : LC.1 v0 = 6) (hw : PH D cy LC b σ s H locs) (hl : lv_has ls 1 [(0, .ref (b + v0))]) : W p l e (rmD 6) s m args below meth c H locs 0 0 (MQ below (QcP D cy LC b none r) args s 0 0 (inP LC b)) (F0 m 0 ls []) := by
  have hx := E.1.1
  have hb := E.1.2.1
  unfold f_X6_step at hm
  exact w_X6_step_0 E hr hlk _ _ _ _ _ _ hm hv0 hw (lv_sub hl [0] rfl)
theorem c_X6_step {l : Launch} {D : va_G} {cy : Nat → ClassId} {b : Nat} {v0 : Nat} {σ : ST} {r : ST} (hm : f_X6_step v0 σ = some r) (hv0 : LC.1 v0 = 6) : Met l yX6_step (wU yX6_step cX6_step 1 (none)) (rmD 6) (PcP D cy LC b [.ref (b + v0)] σ) (QcP D cy LC b none r) 0 0 (inP LC b) :=
  q_met (lv := [(0, .ref (b + v0))]) LC_ok (by decide) (Nat.le_of_ble_eq_true rfl) rfl (fun _ _ _ _ _ _ _ _ _ E hr hlk hw hl => w_X6_step_e E hr hlk hm hv0 hw hl)

def k_X6_isName_24 (s0 : Int32) (σ : ST) : Option (Int32 × ST) :=
  (ckZ s0).bind fun z => some (z, σ)
set_option maxRecDepth 20000 in
set_option maxHeartbeats 1000000 in
theorem w_X6_isName_24 {p : Program} {l : Launch} {e : Env} {s : State} {m : MethodId} {args : Array Value} {below : List Frame} {meth : Method} {c : Code} {D : va_G} {cy : Nat → ClassId} {b : Nat} (E : CX p m c cX6_isName 1 s args RX6 D cy LC) (hr : meth.sig.returnType = some .boolean) (hlk : meth.locks = false) {r : Int32 × ST} {s0 : Int32} {σ : ST} {H : Heap} {locs : List Loc} {ls : Array Slot} (hm : k_X6_isName_24 s0 σ = some r) (hw : PH D cy LC b σ s H locs) (hl : lv_has ls 1 []) : W p l e (rmD 1) s m args below meth c H locs 0 0 (MQ below (QcP D cy LC b (some (.int r.1)) r.2) args s 0 0 (inP LC b)) (F0 m 24 ls [.int s0]) := by
  have hx := E.1.1
  have hb := E.1.2.1
  unfold k_X6_isName_24 at hm
  exact q_zret E hr hlk hw hm dX6_isName_24
def k_X6_isName_19 (σ : ST) : Option (Int32 × ST) :=
  k_X6_isName_24 1 σ
set_option maxRecDepth 20000 in
set_option maxHeartbeats 1000000 in
theorem w_X6_isName_19 {p : Program} {l : Launch} {e : Env} {s : State} {m : MethodId} {args : Array Value} {below : List Frame} {meth : Method} {c : Code} {D : va_G} {cy : Nat → ClassId} {b : Nat} (E : CX p m c cX6_isName 1 s args RX6 D cy LC) (hr : meth.sig.returnType = some .boolean) (hlk : meth.locks = false) {r : Int32 × ST} {σ : ST} {H : Heap} {locs : List Loc} {ls : Array Slot} (hm : k_X6_isName_19  σ = some r) (hw : PH D cy LC b σ s H locs) (hl : lv_has ls 1 []) : W p l e (rmD 1) s m args below meth c H locs 0 0 (MQ below (QcP D cy LC b (some (.int r.1)) r.2) args s 0 0 (inP LC b)) (F0 m 19 ls []) := by
  have hx := E.1.1
  have hb := E.1.2.1
  unfold k_X6_isName_19 at hm
  refine lv_iconst (v := 1) hx hb dX6_isName_19 (by decide) ?_
  refine lv_goto (tgt := 24) hx hb dX6_isName_20 (by decide) ?_
  exact w_X6_isName_24 E hr hlk hm  hw (lv_sub hl [] rfl)
def f_X6_isName (v0 : Nat) (σ : ST) : Option (Int32 × ST) :=
  if (lg_cmp (gJ σ v0 9) (-1)) = 0 then ((f_X6_blame v0 2 σ).bind fun u2 =>
  if u2.1 = 0 then (k_X6_isName_24 0 u2.2) else (k_X6_isName_19 u2.2)) else (k_X6_isName_19 σ)
set_option maxRecDepth 20000 in
set_option maxHeartbeats 1000000 in
theorem w_X6_isName_0 {p : Program} {l : Launch} {e : Env} {s : State} {m : MethodId} {args : Array Value} {below : List Frame} {meth : Method} {c : Code} {D : va_G} {cy : Nat → ClassId} {b : Nat} (E : CX p m c cX6_isName 1 s args RX6 D cy LC) (hr : meth.sig.returnType = some .boolean) (hlk : meth.locks = false) {r : Int32 × ST} {v0 : Nat} {σ : ST} {H : Heap} {locs : List Loc} {ls : Array Slot} (hm : f_X6_isName v0 σ = some r) (hv0 : LC.1 v0 = 6) (hw : PH D cy LC b σ s H locs) (hl : lv_has ls 1 [(0, .ref (b + v0))]) : W p l e (rmD 1) s m args below meth c H locs 0 0 (MQ below (QcP D cy LC b (some (.int r.1)) r.2) args s 0 0 (inP LC b)) (F0 m 0 ls []) := by
  have hx := E.1.1
  have hb := E.1.2.1
  unfold f_X6_isName at hm
  refine lv_aload_n hx hb dX6_isName_0 rfl (lv_at hl 0 rfl) ?_
  refine q_getl E hw fw_X6_42 rfl hv0 dX6_isName_1 ?_
  refine lv_ldc2 hx hb E.1.2.2.2.1 (E.1.2.2.2.2 _ (rL4 _ (List.mem_of_getElem? (i := 2) rfl))) dX6_isName_4 ?_
  refine W.lcmp hx hb dX6_isName_7 ?_
  refine lv_if_ne (tgt := 19) hx hb dX6_isName_8 (by decide) (fun c1 => ?_) (fun c1 => ?_)
  · have hm := o_f c1 hm
    exact w_X6_isName_19 E hr hlk hm  hw (lv_sub hl [] rfl)
  · have hm := o_t c1 hm
    refine lv_aload_n hx hb dX6_isName_11 rfl (lv_at hl 0 rfl) ?_
    refine lv_iconst (v := 2) hx hb dX6_isName_12 (by decide) ?_
    refine q_cVi (κ := 6) (C := RX6) (T := TX6) (N := 12) [] E hw hm mw_X6_82 (fun u hu => c_X6_blame hu hv0) rfl (by decide) hv0 rfl rfl hl.1 (Nat.le_of_ble_eq_true rfl) ⟨Nat.le_of_ble_eq_true rfl, Nat.le_of_ble_eq_true rfl⟩ dX6_isName_13 (fun u2 H locs hm hw => ?_)
    refine lv_if_eq (tgt := 23) hx hb dX6_isName_16 (by decide) (fun c3 => ?_) (fun c3 => ?_)
    · have hm := o_t c3 hm
      refine lv_iconst (v := 0) hx hb dX6_isName_23 (by decide) ?_
      exact w_X6_isName_24 E hr hlk hm  hw (lv_sub hl [] rfl)
    · have hm := o_f c3 hm
      exact w_X6_isName_19 E hr hlk hm  hw (lv_sub hl [] rfl)
theorem c_X6_isName {l : Launch} {D : va_G} {cy : Nat → ClassId} {b : Nat} {v0 : Nat} {σ : ST} {r : Int32 × ST} (hm : f_X6_isName v0 σ = some r) (hv0 : LC.1 v0 = 6) : Met l yX6_isName (wU yX6_isName cX6_isName 1 (some .boolean)) (rmD 1) (PcP D cy LC b [.ref (b + v0)] σ) (QcP D cy LC b (some (.int r.1)) r.2) 0 0 (inP LC b) :=
  q_met (lv := [(0, .ref (b + v0))]) LC_ok (by decide) (Nat.le_of_ble_eq_true rfl) rfl (fun _ _ _ _ _ _ _ _ _ E hr hlk hw hl => w_X6_isName_0 E hr hlk hm hv0 hw hl)

def k_X6_isNumberFrom_43 (s0 : Int32) (σ : ST) : Option (Int32 × ST) :=
  (ckZ s0).bind fun z => some (z, σ)
set_option maxRecDepth 20000 in
set_option maxHeartbeats 1000000 in
theorem w_X6_isNumberFrom_43 {p : Program} {l : Launch} {e : Env} {s : State} {m : MethodId} {args : Array Value} {below : List Frame} {meth : Method} {c : Code} {D : va_G} {cy : Nat → ClassId} {b : Nat} (E : CX p m c cX6_isNumberFrom 3 s args RX6 D cy LC) (hr : meth.sig.returnType = some .boolean) (hlk : meth.locks = false) {r : Int32 × ST} {s0 : Int32} {σ : ST} {H : Heap} {locs : List Loc} {ls : Array Slot} (hm : k_X6_isNumberFrom_43 s0 σ = some r) (hw : PH D cy LC b σ s H locs) (hl : lv_has ls 3 []) : W p l e (rmD 1) s m args below meth c H locs 0 0 (MQ below (QcP D cy LC b (some (.int r.1)) r.2) args s 0 0 (inP LC b)) (F0 m 43 ls [.int s0]) := by
  have hx := E.1.1
  have hb := E.1.2.1
  unfold k_X6_isNumberFrom_43 at hm
  exact q_zret E hr hlk hw hm dX6_isNumberFrom_43
def k_X6_isNumberFrom_38 (σ : ST) : Option (Int32 × ST) :=
  k_X6_isNumberFrom_43 1 σ
set_option maxRecDepth 20000 in
set_option maxHeartbeats 1000000 in
theorem w_X6_isNumberFrom_38 {p : Program} {l : Launch} {e : Env} {s : State} {m : MethodId} {args : Array Value} {below : List Frame} {meth : Method} {c : Code} {D : va_G} {cy : Nat → ClassId} {b : Nat} (E : CX p m c cX6_isNumberFrom 3 s args RX6 D cy LC) (hr : meth.sig.returnType = some .boolean) (hlk : meth.locks = false) {r : Int32 × ST} {σ : ST} {H : Heap} {locs : List Loc} {ls : Array Slot} (hm : k_X6_isNumberFrom_38  σ = some r) (hw : PH D cy LC b σ s H locs) (hl : lv_has ls 3 []) : W p l e (rmD 1) s m args below meth c H locs 0 0 (MQ below (QcP D cy LC b (some (.int r.1)) r.2) args s 0 0 (inP LC b)) (F0 m 38 ls []) := by
  have hx := E.1.1
  have hb := E.1.2.1
  unfold k_X6_isNumberFrom_38 at hm
  refine lv_iconst (v := 1) hx hb dX6_isNumberFrom_38 (by decide) ?_
  refine lv_goto (tgt := 43) hx hb dX6_isNumberFrom_39 (by decide) ?_
  exact w_X6_isNumberFrom_43 E hr hlk hm  hw (lv_sub hl [] rfl)
def k_X6_isNumberFrom_30 (v0 : Nat) (σ : ST) : Option (Int32 × ST) :=
  (f_X6_blame v0 4 σ).bind fun u1 =>
  if u1.1 = 0 then (k_X6_isNumberFrom_43 0 u1.2) else (k_X6_isNumberFrom_38 u1.2)
set_option maxRecDepth 20000 in
set_option maxHeartbeats 1000000 in
theorem w_X6_isNumberFrom_30 {p : Program} {l : Launch} {e : Env} {s : State} {m : MethodId} {args : Array Value} {below : List Frame} {meth : Method} {c : Code} {D : va_G} {cy : Nat → ClassId} {b : Nat} (E : CX p m c cX6_isNumberFrom 3 s args RX6 D cy LC) (hr : meth.sig.returnType = some .boolean) (hlk : meth.locks = false) {r : Int32 × ST} {v0 : Nat} {σ : ST} {H : Heap} {locs : List Loc} {ls : Array Slot} (hm : k_X6_isNumberFrom_30 v0 σ = some r) (hv0 : LC.1 v0 = 6) (hw : PH D cy LC b σ s H locs) (hl : lv_has ls 3 [(0, .ref (b + v0))]) : W p l e (rmD 1) s m args below meth c H locs 0 0 (MQ below (QcP D cy LC b (some (.int r.1)) r.2) args s 0 0 (inP LC b)) (F0 m 30 ls []) := by
  have hx := E.1.1
  have hb := E.1.2.1
  unfold k_X6_isNumberFrom_30 at hm
  refine lv_aload_n hx hb dX6_isNumberFrom_30 rfl (lv_at hl 0 rfl) ?_
  refine lv_iconst (v := 4) hx hb dX6_isNumberFrom_31 (by decide) ?_
  refine q_cVi (κ := 6) (C := RX6) (T := TX6) (N := 12) [] E hw hm mw_X6_82 (fun u hu => c_X6_blame hu hv0) rfl (by decide) hv0 rfl rfl hl.1 (Nat.le_of_ble_eq_true rfl) ⟨Nat.le_of_ble_eq_true rfl, Nat.le_of_ble_eq_true rfl⟩ dX6_isNumberFrom_32 (fun u1 H locs hm hw => ?_)
  refine lv_if_eq (tgt := 42) hx hb dX6_isNumberFrom_35 (by decide) (fun c2 => ?_) (fun c2 => ?_)
  · have hm := o_t c2 hm
    refine lv_iconst (v := 0) hx hb dX6_isNumberFrom_42 (by decide) ?_
    exact w_X6_isNumberFrom_43 E hr hlk hm  hw (lv_sub hl [] rfl)
  · have hm := o_f c2 hm
    exact w_X6_isNumberFrom_38 E hr hlk hm  hw (lv_sub hl [] rfl)
def f_X6_isNumberFrom (v0 : Nat) (v1 : Int32) (v2 : Int32) (σ : ST) : Option (Int32 × ST) :=
  if (gI σ v0 4) = 2 then (if (gI σ v0 6) < v1 then (k_X6_isNumberFrom_30 v0 σ) else (if (gI σ v0 6) ≤ v2 then (k_X6_isNumberFrom_38 σ) else (k_X6_isNumberFrom_30 v0 σ))) else ((f_X6_blame v0 2 σ).bind fun u6 =>
  (ckZ u6.1).bind fun z => some (z, u6.2))
set_option maxRecDepth 20000 in
set_option maxHeartbeats 1000000 in
theorem w_X6_isNumberFrom_0 {p : Program} {l : Launch} {e : Env} {s : State} {m : MethodId} {args : Array Value} {below : List Frame} {meth : Method} {c : Code} {D : va_G} {cy : Nat → ClassId} {b : Nat} (E : CX p m c cX6_isNumberFrom 3 s args RX6 D cy LC) (hr : meth.sig.returnType = some .boolean) (hlk : meth.locks = false) {r : Int32 × ST} {v0 : Nat} {v1 : Int32} {v2 : Int32} {σ : ST} {H : Heap} {locs : List Loc} {ls : Array Slot} (hm : f_X6_isNumberFrom v0 v1 v2 σ = some r) (hv0 : LC.1 v0 = 6) (hw : PH D cy LC b σ s H locs) (hl : lv_has ls 3 [(0, .ref (b + v0)), (1, .int v1), (2, .int v2)]) : W p l e (rmD 1) s m args below meth c H locs 0 0 (MQ below (QcP D cy LC b (some (.int r.1)) r.2) args s 0 0 (inP LC b)) (F0 m 0 ls []) := by
  have hx := E.1.1
  have hb := E.1.2.1
  unfold f_X6_isNumberFrom at hm
  refine lv_aload_n hx hb dX6_isNumberFrom_0 rfl (lv_at hl 0 rfl) ?_
  refine q_geti E hw fw_X6_25 rfl hv0 dX6_isNumberFrom_1 ?_
  refine lv_iconst (v := 2) hx hb dX6_isNumberFrom_4 (by decide) ?_
  refine lv_icmp_eq (tgt := 14) hx hb dX6_isNumberFrom_5 (by decide) (fun c3 => ?_) (fun c3 => ?_)
  · have hm := o_t c3 hm
    refine lv_aload_n hx hb dX6_isNumberFrom_14 rfl (lv_at hl 0 rfl) ?_
    refine q_geti E hw fw_X6_31 rfl hv0 dX6_isNumberFrom_15 ?_
    refine lv_iload_n hx hb dX6_isNumberFrom_18 rfl (lv_at hl 1 rfl) ?_
    refine lv_icmp_lt (tgt := 30) hx hb dX6_isNumberFrom_19 (by decide) (fun c4 => ?_) (fun c4 => ?_)
    · have hm := o_t c4 hm
      exact w_X6_isNumberFrom_30 E hr hlk hm hv0 hw (lv_sub hl [0] rfl)
    · have hm := o_f c4 hm
      refine lv_aload_n hx hb dX6_isNumberFrom_22 rfl (lv_at hl 0 rfl) ?_
      refine q_geti E hw fw_X6_31 rfl hv0 dX6_isNumberFrom_23 ?_
      refine lv_iload_n hx hb dX6_isNumberFrom_26 rfl (lv_at hl 2 rfl) ?_
      refine lv_icmp_le (tgt := 38) hx hb dX6_isNumberFrom_27 (by decide) (fun c5 => ?_) (fun c5 => ?_)
      · have hm := o_t c5 hm
        exact w_X6_isNumberFrom_38 E hr hlk hm  hw (lv_sub hl [] rfl)
      · have hm := o_f c5 hm
        exact w_X6_isNumberFrom_30 E hr hlk hm hv0 hw (lv_sub hl [0] rfl)
  · have hm := o_f c3 hm
    refine lv_aload_n hx hb dX6_isNumberFrom_8 rfl (lv_at hl 0 rfl) ?_
    refine lv_iconst (v := 2) hx hb dX6_isNumberFrom_9 (by decide) ?_
    refine q_cVi (κ := 6) (C := RX6) (T := TX6) (N := 12) [] E hw hm mw_X6_82 (fun u hu => c_X6_blame hu hv0) rfl (by decide) hv0 rfl rfl hl.1 (Nat.le_of_ble_eq_true rfl) ⟨Nat.le_of_ble_eq_true rfl, Nat.le_of_ble_eq_true rfl⟩ dX6_isNumberFrom_10 (fun u6 H locs hm hw => ?_)
    exact q_zret E hr hlk hw hm dX6_isNumberFrom_13
theorem c_X6_isNumberFrom {l : Launch} {D : va_G} {cy : Nat → ClassId} {b : Nat} {v0 : Nat} {v1 : Int32} {v2 : Int32} {σ : ST} {r : Int32 × ST} (hm : f_X6_isNumberFrom v0 v1 v2 σ = some r) (hv0 : LC.1 v0 = 6) : Met l yX6_isNumberFrom (wU yX6_isNumberFrom cX6_isNumberFrom 3 (some .boolean)) (rmD 1) (PcP D cy LC b [.ref (b + v0), .int v1, .int v2] σ) (QcP D cy LC b (some (.int r.1)) r.2) 0 0 (inP LC b) :=
  q_met (lv := [(0, .ref (b + v0)), (1, .int v1), (2, .int v2)]) LC_ok (by decide) (Nat.le_of_ble_eq_true rfl) rfl (fun _ _ _ _ _ _ _ _ _ E hr hlk hw hl => w_X6_isNumberFrom_0 E hr hlk hm hv0 hw hl)

def k_X6_isOwnWord_21 (s0 : Int32) (σ : ST) : Option (Int32 × ST) :=
  (ckZ s0).bind fun z => some (z, σ)
set_option maxRecDepth 20000 in
set_option maxHeartbeats 1000000 in
theorem w_X6_isOwnWord_21 {p : Program} {l : Launch} {e : Env} {s : State} {m : MethodId} {args : Array Value} {below : List Frame} {meth : Method} {c : Code} {D : va_G} {cy : Nat → ClassId} {b : Nat} (E : CX p m c cX6_isOwnWord 2 s args RX6 D cy LC) (hr : meth.sig.returnType = some .boolean) (hlk : meth.locks = false) {r : Int32 × ST} {s0 : Int32} {σ : ST} {H : Heap} {locs : List Loc} {ls : Array Slot} (hm : k_X6_isOwnWord_21 s0 σ = some r) (hw : PH D cy LC b σ s H locs) (hl : lv_has ls 2 []) : W p l e (rmD 1) s m args below meth c H locs 0 0 (MQ below (QcP D cy LC b (some (.int r.1)) r.2) args s 0 0 (inP LC b)) (F0 m 21 ls [.int s0]) := by
  have hx := E.1.1
  have hb := E.1.2.1
  unfold k_X6_isOwnWord_21 at hm
  exact q_zret E hr hlk hw hm dX6_isOwnWord_21
def k_X6_isOwnWord_16 (σ : ST) : Option (Int32 × ST) :=
  k_X6_isOwnWord_21 1 σ
set_option maxRecDepth 20000 in
set_option maxHeartbeats 1000000 in
theorem w_X6_isOwnWord_16 {p : Program} {l : Launch} {e : Env} {s : State} {m : MethodId} {args : Array Value} {below : List Frame} {meth : Method} {c : Code} {D : va_G} {cy : Nat → ClassId} {b : Nat} (E : CX p m c cX6_isOwnWord 2 s args RX6 D cy LC) (hr : meth.sig.returnType = some .boolean) (hlk : meth.locks = false) {r : Int32 × ST} {σ : ST} {H : Heap} {locs : List Loc} {ls : Array Slot} (hm : k_X6_isOwnWord_16  σ = some r) (hw : PH D cy LC b σ s H locs) (hl : lv_has ls 2 []) : W p l e (rmD 1) s m args below meth c H locs 0 0 (MQ below (QcP D cy LC b (some (.int r.1)) r.2) args s 0 0 (inP LC b)) (F0 m 16 ls []) := by
  have hx := E.1.1
  have hb := E.1.2.1
  unfold k_X6_isOwnWord_16 at hm
  refine lv_iconst (v := 1) hx hb dX6_isOwnWord_16 (by decide) ?_
  refine lv_goto (tgt := 21) hx hb dX6_isOwnWord_17 (by decide) ?_
  exact w_X6_isOwnWord_21 E hr hlk hm  hw (lv_sub hl [] rfl)
def f_X6_isOwnWord (v0 : Nat) (v1 : Int32) (σ : ST) : Option (Int32 × ST) :=
  if (gI σ v0 8) = v1 then (k_X6_isOwnWord_16 σ) else ((f_X6_blame v0 2 σ).bind fun u2 =>
  if u2.1 = 0 then (k_X6_isOwnWord_21 0 u2.2) else (k_X6_isOwnWord_16 u2.2))
set_option maxRecDepth 20000 in
set_option maxHeartbeats 1000000 in
theorem w_X6_isOwnWord_0 {p : Program} {l : Launch} {e : Env} {s : State} {m : MethodId} {args : Array Value} {below : List Frame} {meth : Method} {c : Code} {D : va_G} {cy : Nat → ClassId} {b : Nat} (E : CX p m c cX6_isOwnWord 2 s args RX6 D cy LC) (hr : meth.sig.returnType = some .boolean) (hlk : meth.locks = false) {r : Int32 × ST} {v0 : Nat} {v1 : Int32} {σ : ST} {H : Heap} {locs : List Loc} {ls : Array Slot} (hm : f_X6_isOwnWord v0 v1 σ = some r) (hv0 : LC.1 v0 = 6) (hw : PH D cy LC b σ s H locs) (hl : lv_has ls 2 [(0, .ref (b + v0)), (1, .int v1)]) : W p l e (rmD 1) s m args below meth c H locs 0 0 (MQ below (QcP D cy LC b (some (.int r.1)) r.2) args s 0 0 (inP LC b)) (F0 m 0 ls []) := by
  have hx := E.1.1
  have hb := E.1.2.1
  unfold f_X6_isOwnWord at hm
  refine lv_aload_n hx hb dX6_isOwnWord_0 rfl (lv_at hl 0 rfl) ?_
  refine q_geti E hw fw_X6_37 rfl hv0 dX6_isOwnWord_1 ?_
  refine lv_iload_n hx hb dX6_isOwnWord_4 rfl (lv_at hl 1 rfl) ?_
  refine lv_icmp_eq (tgt := 16) hx hb dX6_isOwnWord_5 (by decide) (fun c1 => ?_) (fun c1 => ?_)
  · have hm := o_t c1 hm
    exact w_X6_isOwnWord_16 E hr hlk hm  hw (lv_sub hl [] rfl)
  · have hm := o_f c1 hm
    refine lv_aload_n hx hb dX6_isOwnWord_8 rfl (lv_at hl 0 rfl) ?_
    refine lv_iconst (v := 2) hx hb dX6_isOwnWord_9 (by decide) ?_
    refine q_cVi (κ := 6) (C := RX6) (T := TX6) (N := 12) [] E hw hm mw_X6_82 (fun u hu => c_X6_blame hu hv0) rfl (by decide) hv0 rfl rfl hl.1 (Nat.le_of_ble_eq_true rfl) ⟨Nat.le_of_ble_eq_true rfl, Nat.le_of_ble_eq_true rfl⟩ dX6_isOwnWord_10 (fun u2 H locs hm hw => ?_)
    refine lv_if_eq (tgt := 20) hx hb dX6_isOwnWord_13 (by decide) (fun c3 => ?_) (fun c3 => ?_)
    · have hm := o_t c3 hm
      refine lv_iconst (v := 0) hx hb dX6_isOwnWord_20 (by decide) ?_
      exact w_X6_isOwnWord_21 E hr hlk hm  hw (lv_sub hl [] rfl)
    · have hm := o_f c3 hm
      exact w_X6_isOwnWord_16 E hr hlk hm  hw (lv_sub hl [] rfl)
theorem c_X6_isOwnWord {l : Launch} {D : va_G} {cy : Nat → ClassId} {b : Nat} {v0 : Nat} {v1 : Int32} {σ : ST} {r : Int32 × ST} (hm : f_X6_isOwnWord v0 v1 σ = some r) (hv0 : LC.1 v0 = 6) : Met l yX6_isOwnWord (wU yX6_isOwnWord cX6_isOwnWord 2 (some .boolean)) (rmD 1) (PcP D cy LC b [.ref (b + v0), .int v1] σ) (QcP D cy LC b (some (.int r.1)) r.2) 0 0 (inP LC b) :=
  q_met (lv := [(0, .ref (b + v0)), (1, .int v1)]) LC_ok (by decide) (Nat.le_of_ble_eq_true rfl) rfl (fun _ _ _ _ _ _ _ _ _ E hr hlk hw hl => w_X6_isOwnWord_0 E hr hlk hm hv0 hw hl)

def k_X4_countTold_43 (σ : ST) : Option (ST) :=
  some σ
set_option maxRecDepth 20000 in
set_option maxHeartbeats 1000000 in
theorem w_X4_countTold_43 {p : Program} {l : Launch} {e : Env} {s : State} {m : MethodId} {args : Array Value} {below : List Frame} {meth : Method} {c : Code} {D : va_G} {cy : Nat → ClassId} {b : Nat} (E : CX p m c cX4_countTold 3 s args RX4 D cy LC) (hr : meth.sig.returnType = none) (hlk : meth.locks = false) {r : ST} {σ : ST} {H : Heap} {locs : List Loc} {ls : Array Slot} (hm : k_X4_countTold_43  σ = some r) (hw : PH D cy LC b σ s H locs) (hl : lv_has ls 3 []) : W p l e (rmD 0) s m args below meth c H locs 0 0 (MQ below (QcP D cy LC b none r) args s 0 0 (inP LC b)) (F0 m 43 ls []) := by
  have hx := E.1.1
  have hb := E.1.2.1
  unfold k_X4_countTold_43 at hm
  exact q_vret E hr hlk hw hm dX4_countTold_43
def k_X4_countTold_38 (s0 : Nat) (s1 : Int32) (σ : ST) : Option (ST) :=
  (ldA LC σ s0 s1).bind fun a1 =>
  (stA LC σ s0 s1 (a1 + 1)).bind fun σ2 =>
  k_X4_countTold_43 σ2
set_option maxRecDepth 20000 in
set_option maxHeartbeats 1000000 in
theorem w_X4_countTold_38 {p : Program} {l : Launch} {e : Env} {s : State} {m : MethodId} {args : Array Value} {below : List Frame} {meth : Method} {c : Code} {D : va_G} {cy : Nat → ClassId} {b : Nat} (E : CX p m c cX4_countTold 3 s args RX4 D cy LC) (hr : meth.sig.returnType = none) (hlk : meth.locks = false) {r : ST} {s0 : Nat} {s1 : Int32} {σ : ST} {H : Heap} {locs : List Loc} {ls : Array Slot} (hm : k_X4_countTold_38 s0 s1 σ = some r) (hs0 : LC.1 s0 = 13) (hw : PH D cy LC b σ s H locs) (hl : lv_has ls 3 []) : W p l e (rmD 0) s m args below meth c H locs 0 0 (MQ below (QcP D cy LC b none r) args s 0 0 (inP LC b)) (F0 m 38 ls [.int s1, .ref (b + s0)]) := by
  have hx := E.1.1
  have hb := E.1.2.1
  unfold k_X4_countTold_38 at hm
  refine lv_dup2_11 hx hb dX4_countTold_38 rfl rfl ?_
  refine q_iald E hw hs0 hm dX4_countTold_39 (fun a1 hm => ?_)
  refine lv_iconst (v := 1) hx hb dX4_countTold_40 (by decide) ?_
  refine lv_iadd hx hb dX4_countTold_41 ?_
  refine q_iast E hw hs0 hm dX4_countTold_42 (fun σ2 H locs hm hw => ?_)
  exact w_X4_countTold_43 E hr hlk hm  hw (lv_sub hl [] rfl)
def f_X4_countTold (v0 : Nat) (v1 : Nat) (v2 : Int32) (σ : ST) : Option (ST) :=
  if v2 = (-1) then ((ldA LC σ (LC.2.1 v0 0) 0).bind fun a5 =>
  (stA LC σ (LC.2.1 v0 0) 0 (a5 + 1)).bind fun σ6 =>
  k_X4_countTold_43 σ6) else (if v2 < (gI σ (LC.2.1 v1 0) 11) then (k_X4_countTold_38 (LC.2.1 v0 0) 2 σ) else (k_X4_countTold_38 (LC.2.1 v0 0) 1 σ))
set_option maxRecDepth 20000 in
set_option maxHeartbeats 1000000 in
theorem w_X4_countTold_0 {p : Program} {l : Launch} {e : Env} {s : State} {m : MethodId} {args : Array Value} {below : List Frame} {meth : Method} {c : Code} {D : va_G} {cy : Nat → ClassId} {b : Nat} (E : CX p m c cX4_countTold 3 s args RX4 D cy LC) (hr : meth.sig.returnType = none) (hlk : meth.locks = false) {r : ST} {v0 : Nat} {v1 : Nat} {v2 : Int32} {σ : ST} {H : Heap} {locs : List Loc} {ls : Array Slot} (hm : f_X4_countTold v0 v1 v2 σ = some r) (hv0 : LC.1 v0 = 4) (hv1 : LC.1 v1 = 10) (hw : PH D cy LC b σ s H locs) (hl : lv_has ls 3 [(0, .ref (b + v0)), (1, .ref (b + v1)), (2, .int v2)]) : W p l e (rmD 0) s m args below meth c H locs 0 0 (MQ below (QcP D cy LC b none r) args s 0 0 (inP LC b)) (F0 m 0 ls []) := by
  have hx := E.1.1
  have hb := E.1.2.1
  unfold f_X4_countTold at hm
  refine lv_iload_n hx hb dX4_countTold_0 rfl (lv_at hl 2 rfl) ?_
  refine lv_iconst (v := (-1)) hx hb dX4_countTold_1 (by decide) ?_
  refine lv_icmp_ne (tgt := 18) hx hb dX4_countTold_2 (by decide) (fun c3 => ?_) (fun c3 => ?_)
  · have hm := o_f c3 hm
    refine lv_aload_n hx hb dX4_countTold_18 rfl (lv_at hl 0 rfl) ?_
    refine q_geta E hw fw_X4_11 rfl hv0 dX4_countTold_19 ?_
    refine lv_iload_n hx hb dX4_countTold_22 rfl (lv_at hl 2 rfl) ?_
    refine lv_aload_n hx hb dX4_countTold_23 rfl (lv_at hl 1 rfl) ?_
    refine q_geta E hw fw_X4_146 rfl hv1 dX4_countTold_24 ?_
    refine q_geti E hw fw_X4_150 rfl (tC_10_0 hv1) dX4_countTold_27 ?_
    refine lv_icmp_lt (tgt := 37) hx hb dX4_countTold_30 (by decide) (fun c4 => ?_) (fun c4 => ?_)
    · have hm := o_t c4 hm
      refine lv_iconst (v := 2) hx hb dX4_countTold_37 (by decide) ?_
      exact w_X4_countTold_38 E hr hlk hm (tC_4_0 hv0) hw (lv_sub hl [] rfl)
    · have hm := o_f c4 hm
      refine lv_iconst (v := 1) hx hb dX4_countTold_33 (by decide) ?_
      refine lv_goto (tgt := 38) hx hb dX4_countTold_34 (by decide) ?_
      exact w_X4_countTold_38 E hr hlk hm (tC_4_0 hv0) hw (lv_sub hl [] rfl)
  · have hm := o_t c3 hm
    refine lv_aload_n hx hb dX4_countTold_5 rfl (lv_at hl 0 rfl) ?_
    refine q_geta E hw fw_X4_11 rfl hv0 dX4_countTold_6 ?_
    refine lv_iconst (v := 0) hx hb dX4_countTold_9 (by decide) ?_
    refine lv_dup2_11 hx hb dX4_countTold_10 rfl rfl ?_
    refine q_iald E hw (tC_4_0 hv0) hm dX4_countTold_11 (fun a5 hm => ?_)
    refine lv_iconst (v := 1) hx hb dX4_countTold_12 (by decide) ?_
    refine lv_iadd hx hb dX4_countTold_13 ?_
    refine q_iast E hw (tC_4_0 hv0) hm dX4_countTold_14 (fun σ6 H locs hm hw => ?_)
    refine lv_goto (tgt := 43) hx hb dX4_countTold_15 (by decide) ?_
    exact w_X4_countTold_43 E hr hlk hm  hw (lv_sub hl [] rfl)
theorem c_X4_countTold {l : Launch} {D : va_G} {cy : Nat → ClassId} {b : Nat} {v0 : Nat} {v1 : Nat} {v2 : Int32} {σ : ST} {r : ST} (hm : f_X4_countTold v0 v1 v2 σ = some r) (hv0 : LC.1 v0 = 4) (hv1 : LC.1 v1 = 10) : Met l yX4_countTold (wU yX4_countTold cX4_countTold 3 (none)) (rmD 0) (PcP D cy LC b [.ref (b + v0), .ref (b + v1), .int v2] σ) (QcP D cy LC b none r) 0 0 (inP LC b) :=
  q_met (lv := [(0, .ref (b + v0)), (1, .ref (b + v1)), (2, .int v2)]) LC_ok (by decide) (Nat.le_of_ble_eq_true rfl) rfl (fun _ _ _ _ _ _ _ _ _ E hr hlk hw hl => w_X4_countTold_0 E hr hlk hm hv0 hv1 hw hl)

def k_X4_drawStorm_53 (rec2 : Nat → Nat → Int32 → Int32 → ST → Option (ST)) (v0 : Nat) (v1 : Nat) (v2 : Int32) (v3 : Int32) (s0 : Nat) (s1 : Int32) (s2 : Int32) (σ : ST) : Option (ST) :=
  (f_X10_setUp s0 s1 s2 σ).bind fun u1 =>
  rec2 v0 v1 v2 (v3 + 1) u1
set_option maxRecDepth 20000 in
set_option maxHeartbeats 1000000 in
theorem w_X4_drawStorm_53 {p : Program} {l : Launch} {e : Env} {s : State} {m : MethodId} {args : Array Value} {below : List Frame} {meth : Method} {c : Code} {D : va_G} {cy : Nat → ClassId} {b : Nat} (E : CX p m c cX4_drawStorm 4 s args RX4 D cy LC) (hr : meth.sig.returnType = none) (hlk : meth.locks = false) {r : ST} {rec2 : Nat → Nat → Int32 → Int32 → ST → Option (ST)} (hrec2 : ∀ (v0 : Nat) (v1 : Nat) (v2 : Int32) (v3 : Int32) (σ : ST) (H : Heap) (locs : List Loc) (ls : Array Slot), rec2 v0 v1 v2 v3 σ = some r → LC.1 v0 = 4 → LC.1 v1 = 10 → PH D cy LC b σ s H locs → lv_has ls 4 [(0, .ref (b + v0)), (1, .ref (b + v1)), (2, .int v2), (3, .int v3)] → W p l e (rmD 1) s m args below meth c H locs 0 0 (MQ below (QcP D cy LC b none r) args s 0 0 (inP LC b)) (F0 m 2 ls [])) {v0 : Nat} {v1 : Nat} {v2 : Int32} {v3 : Int32} {s0 : Nat} {s1 : Int32} {s2 : Int32} {σ : ST} {H : Heap} {locs : List Loc} {ls : Array Slot} (hm : k_X4_drawStorm_53 rec2 v0 v1 v2 v3 s0 s1 s2 σ = some r) (hv0 : LC.1 v0 = 4) (hv1 : LC.1 v1 = 10) (hs0 : LC.1 s0 = 10) (hw : PH D cy LC b σ s H locs) (hl : lv_has ls 4 [(0, .ref (b + v0)), (1, .ref (b + v1)), (2, .int v2), (3, .int v3)]) : W p l e (rmD 1) s m args below meth c H locs 0 0 (MQ below (QcP D cy LC b none r) args s 0 0 (inP LC b)) (F0 m 53 ls [.int s2, .int s1, .ref (b + s0)]) := by
  have hx := E.1.1
  have hb := E.1.2.1
  unfold k_X4_drawStorm_53 at hm
  refine q_cVv (κ := 10) (C := RX10) (T := TX10) (N := 12) [] E hw hm mw_X4_119 (fun u hu => c_X10_setUp hu hs0) rfl (by decide) hs0 rfl rfl hl.1 (Nat.le_of_ble_eq_true rfl) ⟨Nat.le_of_ble_eq_true rfl, Nat.le_of_ble_eq_true rfl⟩ dX4_drawStorm_53 (fun u1 H locs hm hw => ?_)
  refine lv_iinc (v := v3 + 1) (lv' := [(3, .int (v3 + 1)), (0, .ref (b + v0)), (1, .ref (b + v1)), (2, .int v2)]) hx hb dX4_drawStorm_56 hl (k := 3) rfl rfl (by decide) rfl (fun ls hl => ?_)
  refine lv_goto (tgt := 2) hx hb dX4_drawStorm_59 (by decide) ?_
  exact hrec2 _ _ _ _ _ _ _ _ hm hv0 hv1 hw (lv_sub hl [1, 2, 3, 0] rfl)
def k_X4_drawStorm_2 : Nat → Nat → Nat → Int32 → Int32 → ST → Option (ST)
  | 0, _, _, _, _, _ => none
  | n + 1, v0, v1, v2, v3, σ => if (gI σ (LC.2.1 v1 0) 6) ≤ v3 then (some σ) else ((rmI (((gI σ v0 3) * 2801) + 12413) 65536).bind fun q3 =>
  (stI σ v0 3 q3).bind fun σ4 =>
  (dvI (gI σ4 v0 3) 8).bind fun q5 =>
  (rmI q5 16).bind fun q6 =>
  if q6 < v2 then (k_X4_drawStorm_53 (k_X4_drawStorm_2 n) v0 v1 v2 v3 v1 v3 0 σ4) else (k_X4_drawStorm_53 (k_X4_drawStorm_2 n) v0 v1 v2 v3 v1 v3 1 σ4))
set_option maxRecDepth 20000 in
set_option maxHeartbeats 1000000 in
theorem w_X4_drawStorm_2 {p : Program} {l : Launch} {e : Env} {s : State} {m : MethodId} {args : Array Value} {below : List Frame} {meth : Method} {c : Code} {D : va_G} {cy : Nat → ClassId} {b : Nat} (E : CX p m c cX4_drawStorm 4 s args RX4 D cy LC) (hr : meth.sig.returnType = none) (hlk : meth.locks = false) {r : ST} : ∀ (n : Nat) (v0 : Nat) (v1 : Nat) (v2 : Int32) (v3 : Int32) (σ : ST) (H : Heap) (locs : List Loc) (ls : Array Slot), k_X4_drawStorm_2 n v0 v1 v2 v3 σ = some r → LC.1 v0 = 4 → LC.1 v1 = 10 → PH D cy LC b σ s H locs → lv_has ls 4 [(0, .ref (b + v0)), (1, .ref (b + v1)), (2, .int v2), (3, .int v3)] → W p l e (rmD 1) s m args below meth c H locs 0 0 (MQ below (QcP D cy LC b none r) args s 0 0 (inP LC b)) (F0 m 2 ls []) := by
  have hx := E.1.1
  have hb := E.1.2.1
  intro n
  induction n with
  | zero =>
    intro v0 v1 v2 v3 σ H locs ls hm
    cases hm
  | succ n ih =>
    intro v0 v1 v2 v3 σ H locs ls hm hv0 hv1 hw hl
    rw [k_X4_drawStorm_2] at hm
    refine lv_iload_n hx hb dX4_drawStorm_2 rfl (lv_at hl 3 rfl) ?_
    refine lv_aload_n hx hb dX4_drawStorm_3 rfl (lv_at hl 1 rfl) ?_
    refine q_geta E hw fw_X4_146 rfl hv1 dX4_drawStorm_4 ?_
    refine q_geti E hw fw_X4_155 rfl (tC_10_0 hv1) dX4_drawStorm_7 ?_
    refine lv_icmp_ge (tgt := 62) hx hb dX4_drawStorm_10 (by decide) (fun c2 => ?_) (fun c2 => ?_)
    · have hm := o_t c2 hm
      exact q_vret E hr hlk hw hm dX4_drawStorm_62
    · have hm := o_f c2 hm
      refine lv_aload_n hx hb dX4_drawStorm_13 rfl (lv_at hl 0 rfl) ?_
      refine lv_aload_n hx hb dX4_drawStorm_14 rfl (lv_at hl 0 rfl) ?_
      refine q_geti E hw fw_X4_24 rfl hv0 dX4_drawStorm_15 ?_
      refine lv_sipush (v := 2801) hx hb dX4_drawStorm_18 (by decide) ?_
      refine lv_imul hx hb dX4_drawStorm_21 ?_
      refine lv_sipush (v := 12413) hx hb dX4_drawStorm_22 (by decide) ?_
      refine lv_iadd hx hb dX4_drawStorm_25 ?_
      refine lv_ldc hx hb E.1.2.2.2.1 (E.1.2.2.2.2 _ (rL71 _ (List.mem_of_getElem? (i := 18) rfl))) dX4_drawStorm_26 ?_
      refine q_irem E hm dX4_drawStorm_28 (fun q3 hm => ?_)
      refine q_pi E hw hm fw_X4_24 rfl rfl hv0 dX4_drawStorm_29 (fun σ4 H locs hm hw => ?_)
      refine lv_aload_n hx hb dX4_drawStorm_32 rfl (lv_at hl 1 rfl) ?_
      refine lv_iload_n hx hb dX4_drawStorm_33 rfl (lv_at hl 3 rfl) ?_
      refine lv_aload_n hx hb dX4_drawStorm_34 rfl (lv_at hl 0 rfl) ?_
      refine q_geti E hw fw_X4_24 rfl hv0 dX4_drawStorm_35 ?_
      refine lv_bipush (v := 8) hx hb dX4_drawStorm_38 (by decide) ?_
      refine q_idiv E hm dX4_drawStorm_40 (fun q5 hm => ?_)
      refine lv_bipush (v := 16) hx hb dX4_drawStorm_41 (by decide) ?_
      refine q_irem E hm dX4_drawStorm_43 (fun q6 hm => ?_)
      refine lv_iload_n hx hb dX4_drawStorm_44 rfl (lv_at hl 2 rfl) ?_
      refine lv_icmp_lt (tgt := 52) hx hb dX4_drawStorm_45 (by decide) (fun c7 => ?_) (fun c7 => ?_)
      · have hm := o_t c7 hm
        refine lv_iconst (v := 0) hx hb dX4_drawStorm_52 (by decide) ?_
        exact w_X4_drawStorm_53 E hr hlk ih hm hv0 hv1 hv1 hw (lv_sub hl [0, 1, 2, 3] rfl)
      · have hm := o_f c7 hm
        refine lv_iconst (v := 1) hx hb dX4_drawStorm_48 (by decide) ?_
        refine lv_goto (tgt := 53) hx hb dX4_drawStorm_49 (by decide) ?_
        exact w_X4_drawStorm_53 E hr hlk ih hm hv0 hv1 hv1 hw (lv_sub hl [0, 1, 2, 3] rfl)
def f_X4_drawStorm (v0 : Nat) (v1 : Nat) (v2 : Int32) (σ : ST) : Option (ST) :=
  k_X4_drawStorm_2 FU v0 v1 v2 0 σ
set_option maxRecDepth 20000 in
set_option maxHeartbeats 1000000 in
theorem w_X4_drawStorm_0 {p : Program} {l : Launch} {e : Env} {s : State} {m : MethodId} {args : Array Value} {below : List Frame} {meth : Method} {c : Code} {D : va_G} {cy : Nat → ClassId} {b : Nat} (E : CX p m c cX4_drawStorm 4 s args RX4 D cy LC) (hr : meth.sig.returnType = none) (hlk : meth.locks = false) {r : ST} {v0 : Nat} {v1 : Nat} {v2 : Int32} {σ : ST} {H : Heap} {locs : List Loc} {ls : Array Slot} (hm : f_X4_drawStorm v0 v1 v2 σ = some r) (hv0 : LC.1 v0 = 4) (hv1 : LC.1 v1 = 10) (hw : PH D cy LC b σ s H locs) (hl : lv_has ls 4 [(0, .ref (b + v0)), (1, .ref (b + v1)), (2, .int v2)]) : W p l e (rmD 1) s m args below meth c H locs 0 0 (MQ below (QcP D cy LC b none r) args s 0 0 (inP LC b)) (F0 m 0 ls []) := by
  have hx := E.1.1
  have hb := E.1.2.1
  unfold f_X4_drawStorm at hm
  refine lv_iconst (v := 0) hx hb dX4_drawStorm_0 (by decide) ?_
  refine lv_istore_n (lv' := [(3, .int 0), (0, .ref (b + v0)), (1, .ref (b + v1)), (2, .int v2)]) hx hb dX4_drawStorm_1 rfl hl (by decide) rfl (fun ls hl => ?_)
  exact w_X4_drawStorm_2 E hr hlk _ _ _ _ _ _ _ _ _ hm hv0 hv1 hw (lv_sub hl [1, 2, 3, 0] rfl)
theorem c_X4_drawStorm {l : Launch} {D : va_G} {cy : Nat → ClassId} {b : Nat} {v0 : Nat} {v1 : Nat} {v2 : Int32} {σ : ST} {r : ST} (hm : f_X4_drawStorm v0 v1 v2 σ = some r) (hv0 : LC.1 v0 = 4) (hv1 : LC.1 v1 = 10) : Met l yX4_drawStorm (wU yX4_drawStorm cX4_drawStorm 4 (none)) (rmD 1) (PcP D cy LC b [.ref (b + v0), .ref (b + v1), .int v2] σ) (QcP D cy LC b none r) 0 0 (inP LC b) :=
  q_met (lv := [(0, .ref (b + v0)), (1, .ref (b + v1)), (2, .int v2)]) LC_ok (by decide) (Nat.le_of_ble_eq_true rfl) rfl (fun _ _ _ _ _ _ _ _ _ E hr hlk hw hl => w_X4_drawStorm_0 E hr hlk hm hv0 hv1 hw hl)

def k_X4_ticketFor_23 (s0 : Int32) (σ : ST) : Option (Int32 × ST) :=
  some (s0, σ)
set_option maxRecDepth 20000 in
set_option maxHeartbeats 1000000 in
theorem w_X4_ticketFor_23 {p : Program} {l : Launch} {e : Env} {s : State} {m : MethodId} {args : Array Value} {below : List Frame} {meth : Method} {c : Code} {D : va_G} {cy : Nat → ClassId} {b : Nat} (E : CX p m c cX4_ticketFor 2 s args RX4 D cy LC) (hr : meth.sig.returnType = some .int) (hlk : meth.locks = false) {r : Int32 × ST} {s0 : Int32} {σ : ST} {H : Heap} {locs : List Loc} {ls : Array Slot} (hm : k_X4_ticketFor_23 s0 σ = some r) (hw : PH D cy LC b σ s H locs) (hl : lv_has ls 2 []) : W p l e (rmD 1) s m args below meth c H locs 0 0 (MQ below (QcP D cy LC b (some (.int r.1)) r.2) args s 0 0 (inP LC b)) (F0 m 23 ls [.int s0]) := by
  have hx := E.1.1
  have hb := E.1.2.1
  unfold k_X4_ticketFor_23 at hm
  exact q_iret E hr hlk hw hm dX4_ticketFor_23
def k_X4_ticketFor_22 (σ : ST) : Option (Int32 × ST) :=
  k_X4_ticketFor_23 (-1) σ
set_option maxRecDepth 20000 in
set_option maxHeartbeats 1000000 in
theorem w_X4_ticketFor_22 {p : Program} {l : Launch} {e : Env} {s : State} {m : MethodId} {args : Array Value} {below : List Frame} {meth : Method} {c : Code} {D : va_G} {cy : Nat → ClassId} {b : Nat} (E : CX p m c cX4_ticketFor 2 s args RX4 D cy LC) (hr : meth.sig.returnType = some .int) (hlk : meth.locks = false) {r : Int32 × ST} {σ : ST} {H : Heap} {locs : List Loc} {ls : Array Slot} (hm : k_X4_ticketFor_22  σ = some r) (hw : PH D cy LC b σ s H locs) (hl : lv_has ls 2 []) : W p l e (rmD 1) s m args below meth c H locs 0 0 (MQ below (QcP D cy LC b (some (.int r.1)) r.2) args s 0 0 (inP LC b)) (F0 m 22 ls []) := by
  have hx := E.1.1
  have hb := E.1.2.1
  unfold k_X4_ticketFor_22 at hm
  refine lv_iconst (v := (-1)) hx hb dX4_ticketFor_22 (by decide) ?_
  exact w_X4_ticketFor_23 E hr hlk hm  hw (lv_sub hl [] rfl)
def f_X4_ticketFor (v0 : Nat) (v1 : Int32) (σ : ST) : Option (Int32 × ST) :=
  (f_X10_hasTicket v0 0 σ).bind fun u1 =>
  if u1.1 = 0 then (k_X4_ticketFor_22 u1.2) else ((ldA LC u1.2 (LC.2.1 v0 6) 0).bind fun a3 =>
  if a3 = v1 then (k_X4_ticketFor_23 0 u1.2) else (k_X4_ticketFor_22 u1.2))
set_option maxRecDepth 20000 in
set_option maxHeartbeats 1000000 in
theorem w_X4_ticketFor_0 {p : Program} {l : Launch} {e : Env} {s : State} {m : MethodId} {args : Array Value} {below : List Frame} {meth : Method} {c : Code} {D : va_G} {cy : Nat → ClassId} {b : Nat} (E : CX p m c cX4_ticketFor 2 s args RX4 D cy LC) (hr : meth.sig.returnType = some .int) (hlk : meth.locks = false) {r : Int32 × ST} {v0 : Nat} {v1 : Int32} {σ : ST} {H : Heap} {locs : List Loc} {ls : Array Slot} (hm : f_X4_ticketFor v0 v1 σ = some r) (hv0 : LC.1 v0 = 10) (hw : PH D cy LC b σ s H locs) (hl : lv_has ls 2 [(0, .ref (b + v0)), (1, .int v1)]) : W p l e (rmD 1) s m args below meth c H locs 0 0 (MQ below (QcP D cy LC b (some (.int r.1)) r.2) args s 0 0 (inP LC b)) (F0 m 0 ls []) := by
  have hx := E.1.1
  have hb := E.1.2.1
  unfold f_X4_ticketFor at hm
  refine lv_aload_n hx hb dX4_ticketFor_0 rfl (lv_at hl 0 rfl) ?_
  refine lv_iconst (v := 0) hx hb dX4_ticketFor_1 (by decide) ?_
  refine q_cVi (κ := 10) (C := RX10) (T := TX10) (N := 12) [] E hw hm mw_X4_140 (fun u hu => c_X10_hasTicket hu hv0) rfl (by decide) hv0 rfl rfl hl.1 (Nat.le_of_ble_eq_true rfl) ⟨Nat.le_of_ble_eq_true rfl, Nat.le_of_ble_eq_true rfl⟩ dX4_ticketFor_2 (fun u1 H locs hm hw => ?_)
  refine lv_if_eq (tgt := 22) hx hb dX4_ticketFor_5 (by decide) (fun c2 => ?_) (fun c2 => ?_)
  · have hm := o_t c2 hm
    exact w_X4_ticketFor_22 E hr hlk hm  hw (lv_sub hl [] rfl)
  · have hm := o_f c2 hm
    refine lv_aload_n hx hb dX4_ticketFor_8 rfl (lv_at hl 0 rfl) ?_
    refine q_geta E hw fw_X4_143 rfl hv0 dX4_ticketFor_9 ?_
    refine lv_iconst (v := 0) hx hb dX4_ticketFor_12 (by decide) ?_
    refine q_iald E hw (tC_10_6 hv0) hm dX4_ticketFor_13 (fun a3 hm => ?_)
    refine lv_iload_n hx hb dX4_ticketFor_14 rfl (lv_at hl 1 rfl) ?_
    refine lv_icmp_ne (tgt := 22) hx hb dX4_ticketFor_15 (by decide) (fun c4 => ?_) (fun c4 => ?_)
    · have hm := o_f c4 hm
      exact w_X4_ticketFor_22 E hr hlk hm  hw (lv_sub hl [] rfl)
    · have hm := o_t c4 hm
      refine lv_iconst (v := 0) hx hb dX4_ticketFor_18 (by decide) ?_
      refine lv_goto (tgt := 23) hx hb dX4_ticketFor_19 (by decide) ?_
      exact w_X4_ticketFor_23 E hr hlk hm  hw (lv_sub hl [] rfl)
theorem c_X4_ticketFor {l : Launch} {D : va_G} {cy : Nat → ClassId} {b : Nat} {v0 : Nat} {v1 : Int32} {σ : ST} {r : Int32 × ST} (hm : f_X4_ticketFor v0 v1 σ = some r) (hv0 : LC.1 v0 = 10) : Met l yX4_ticketFor (wU yX4_ticketFor cX4_ticketFor 2 (some .int)) (rmD 1) (PcP D cy LC b [.ref (b + v0), .int v1] σ) (QcP D cy LC b (some (.int r.1)) r.2) 0 0 (inP LC b) :=
  q_met (lv := [(0, .ref (b + v0)), (1, .int v1)]) LC_ok (by decide) (Nat.le_of_ble_eq_true rfl) rfl (fun _ _ _ _ _ _ _ _ _ E hr hlk hw hl => w_X4_ticketFor_0 E hr hlk hm hv0 hw hl)

def k_X4_doStep_307 (σ : ST) : Option (ST) :=
  some σ
set_option maxRecDepth 20000 in
set_option maxHeartbeats 1000000 in
theorem w_X4_doStep_307 {p : Program} {l : Launch} {e : Env} {s : State} {m : MethodId} {args : Array Value} {below : List Frame} {meth : Method} {c : Code} {D : va_G} {cy : Nat → ClassId} {b : Nat} (E : CX p m c cX4_doStep 8 s args RX4 D cy LC) (hr : meth.sig.returnType = none) (hlk : meth.locks = false) {r : ST} {σ : ST} {H : Heap} {locs : List Loc} {ls : Array Slot} (hm : k_X4_doStep_307  σ = some r) (hw : PH D cy LC b σ s H locs) (hl : lv_has ls 8 []) : W p l e (rmD 6) s m args below meth c H locs 0 0 (MQ below (QcP D cy LC b none r) args s 0 0 (inP LC b)) (F0 m 307 ls []) := by
  have hx := E.1.1
  have hb := E.1.2.1
  unfold k_X4_doStep_307 at hm
  exact q_vret E hr hlk hw hm dX4_doStep_307
def k_X4_doStep_292 (s0 : Nat) (s1 : Int32) (s2 : Int32) (s3 : Int32) (σ : ST) : Option (ST) :=
  (stA LC σ s0 s1 (s2 + s3)).bind fun σ1 =>
  k_X4_doStep_307 σ1
set_option maxRecDepth 20000 in
set_option maxHeartbeats 1000000 in
theorem w_X4_doStep_292 {p : Program} {l : Launch} {e : Env} {s : State} {m : MethodId} {args : Array Value} {below : List Frame} {meth : Method} {c : Code} {D : va_G} {cy : Nat → ClassId} {b : Nat} (E : CX p m c cX4_doStep 8 s args RX4 D cy LC) (hr : meth.sig.returnType = none) (hlk : meth.locks = false) {r : ST} {s0 : Nat} {s1 : Int32} {s2 : Int32} {s3 : Int32} {σ : ST} {H : Heap} {locs : List Loc} {ls : Array Slot} (hm : k_X4_doStep_292 s0 s1 s2 s3 σ = some r) (hs0 : LC.1 s0 = 13) (hw : PH D cy LC b σ s H locs) (hl : lv_has ls 8 []) : W p l e (rmD 6) s m args below meth c H locs 0 0 (MQ below (QcP D cy LC b none r) args s 0 0 (inP LC b)) (F0 m 292 ls [.int s3, .int s2, .int s1, .ref (b + s0)]) := by
  have hx := E.1.1
  have hb := E.1.2.1
  unfold k_X4_doStep_292 at hm
  refine lv_iadd hx hb dX4_doStep_292 ?_
  refine q_iast E hw hs0 hm dX4_doStep_293 (fun σ1 H locs hm hw => ?_)
  refine lv_goto (tgt := 307) hx hb dX4_doStep_294 (by decide) ?_
  exact w_X4_doStep_307 E hr hlk hm  hw (lv_sub hl [] rfl)
def k_X4_doStep_193 (s0 : Nat) (s1 : Int32) (σ : ST) : Option (ST) :=
  (ldA LC σ s0 s1).bind fun a2 =>
  (stA LC σ s0 s1 (a2 + 1)).bind fun σ3 =>
  k_X4_doStep_307 σ3
set_option maxRecDepth 20000 in
set_option maxHeartbeats 1000000 in
theorem w_X4_doStep_193 {p : Program} {l : Launch} {e : Env} {s : State} {m : MethodId} {args : Array Value} {below : List Frame} {meth : Method} {c : Code} {D : va_G} {cy : Nat → ClassId} {b : Nat} (E : CX p m c cX4_doStep 8 s args RX4 D cy LC) (hr : meth.sig.returnType = none) (hlk : meth.locks = false) {r : ST} {s0 : Nat} {s1 : Int32} {σ : ST} {H : Heap} {locs : List Loc} {ls : Array Slot} (hm : k_X4_doStep_193 s0 s1 σ = some r) (hs0 : LC.1 s0 = 13) (hw : PH D cy LC b σ s H locs) (hl : lv_has ls 8 []) : W p l e (rmD 6) s m args below meth c H locs 0 0 (MQ below (QcP D cy LC b none r) args s 0 0 (inP LC b)) (F0 m 193 ls [.int s1, .ref (b + s0)]) := by
  have hx := E.1.1
  have hb := E.1.2.1
  unfold k_X4_doStep_193 at hm
  refine lv_dup2_11 hx hb dX4_doStep_193 rfl rfl ?_
  refine q_iald E hw hs0 hm dX4_doStep_194 (fun a2 hm => ?_)
  refine lv_iconst (v := 1) hx hb dX4_doStep_195 (by decide) ?_
  refine lv_iadd hx hb dX4_doStep_196 ?_
  refine q_iast E hw hs0 hm dX4_doStep_197 (fun σ3 H locs hm hw => ?_)
  refine lv_goto (tgt := 307) hx hb dX4_doStep_198 (by decide) ?_
  exact w_X4_doStep_307 E hr hlk hm  hw (lv_sub hl [] rfl)
def f_X4_doStep (v0 : Nat) (v1 : Nat) (v2 : Int32) (v3 : Nat) (σ : ST) : Option (ST) :=
  (ldA LC σ (LC.2.1 (LC.2.1 v1 1) 1) v2).bind fun a4 =>
  (ldA LC σ (LC.2.1 (LC.2.1 v1 1) 2) v2).bind fun a5 =>
  (ldA LC σ (LC.2.1 (LC.2.1 v1 1) 3) v2).bind fun a6 =>
  (ldA LC σ (LC.2.1 (LC.2.1 v1 1) 0) v2).bind fun a7 =>
  if a7 = 7 then ((f_X4_ticketFor v1 a4 σ).bind fun u9 =>
  (f_X10_putValue v1 a4 a5 a6 u9.1 u9.2).bind fun u10 =>
  (f_X4_countTold v0 v1 u10.1 u10.2).bind fun u11 =>
  k_X4_doStep_307 u11) else if a7 = 8 then ((f_X4_ticketFor v1 a4 σ).bind fun u13 =>
  (f_X10_putValue v1 a4 a5 1000 u13.1 u13.2).bind fun u14 =>
  (f_X4_countTold v0 v1 u14.1 u14.2).bind fun u15 =>
  k_X4_doStep_307 u15) else if a7 = 9 then ((f_X10_addPart v1 a4 a5 a6 σ).bind fun u17 =>
  (f_X4_countTold v0 v1 u17.1 u17.2).bind fun u18 =>
  k_X4_doStep_307 u18) else if a7 = 10 then ((f_X10_collect v1 a4 a5 0 v3 σ).bind fun u20 =>
  if u20.1 = 0 then (k_X4_doStep_193 (LC.2.1 v0 0) 0 u20.2) else (k_X4_doStep_193 (LC.2.1 v0 0) 3 u20.2)) else if a7 = 11 then ((f_X10_setUp v1 a5 0 σ).bind fun u23 =>
  k_X4_doStep_307 u23) else if a7 = 12 then ((f_X10_setUp v1 a5 1 σ).bind fun u25 =>
  k_X4_doStep_307 u25) else if a7 = 13 then ((f_X10_wipeAll v1 a5 σ).bind fun u27 =>
  k_X4_doStep_307 u27) else if a7 = 14 then ((stI σ v1 10 a6).bind fun σ29 =>
  k_X4_doStep_307 σ29) else if a7 = 15 then ((stI σ v1 10 0).bind fun σ31 =>
  k_X4_doStep_307 σ31) else if a7 = 16 then ((ldA LC σ (LC.2.1 v0 0) 4).bind fun a33 =>
  (f_X10_handOn v1 σ).bind fun u34 =>
  (stA LC u34.2 (LC.2.1 v0 0) 4 (a33 + u34.1)).bind fun σ35 =>
  k_X4_doStep_307 σ35) else if a7 = 17 then ((ldA LC σ (LC.2.1 v0 0) 0).bind fun a37 =>
  (ldA LC σ (LC.2.1 (LC.2.1 v1 1) 4) v2).bind fun a38 =>
  (f_X10_compare v1 a5 a38 σ).bind fun u39 =>
  if u39.1 = (-1) then (k_X4_doStep_292 (LC.2.1 v0 0) 0 a37 1 u39.2) else (k_X4_doStep_292 (LC.2.1 v0 0) 0 a37 0 u39.2)) else if a7 = 18 then ((f_X4_drawStorm v0 v1 a6 σ).bind fun u42 =>
  k_X4_doStep_307 u42) else (k_X4_doStep_307 σ)
set_option maxRecDepth 20000 in
set_option maxHeartbeats 1000000 in
theorem w_X4_doStep_0 {p : Program} {l : Launch} {e : Env} {s : State} {m : MethodId} {args : Array Value} {below : List Frame} {meth : Method} {c : Code} {D : va_G} {cy : Nat → ClassId} {b : Nat} (E : CX p m c cX4_doStep 8 s args RX4 D cy LC) (hr : meth.sig.returnType = none) (hlk : meth.locks = false) {r : ST} {v0 : Nat} {v1 : Nat} {v2 : Int32} {v3 : Nat} {σ : ST} {H : Heap} {locs : List Loc} {ls : Array Slot} (hm : f_X4_doStep v0 v1 v2 v3 σ = some r) (hv0 : LC.1 v0 = 4) (hv1 : LC.1 v1 = 10) (hv3 : LC.1 v3 = 0) (hw : PH D cy LC b σ s H locs) (hl : lv_has ls 8 [(0, .ref (b + v0)), (1, .ref (b + v1)), (2, .int v2), (3, .ref (b + v3))]) : W p l e (rmD 6) s m args below meth c H locs 0 0 (MQ below (QcP D cy LC b none r) args s 0 0 (inP LC b)) (F0 m 0 ls []) := by
  have hx := E.1.1
  have hb := E.1.2.1
  unfold f_X4_doStep at hm
  refine lv_aload_n hx hb dX4_doStep_0 rfl (lv_at hl 1 rfl) ?_
  refine q_geta E hw fw_X4_27 rfl hv1 dX4_doStep_1 ?_
  refine lv_astore (lv' := [(4, .ref (b + (LC.2.1 v1 1))), (0, .ref (b + v0)), (1, .ref (b + v1)), (2, .int v2), (3, .ref (b + v3))]) hx hb dX4_doStep_4 hl (by decide) rfl (fun ls hl => ?_)
  refine lv_aload hx hb dX4_doStep_6 (lv_at hl 0 rfl) ?_
  refine q_geta E hw fw_X4_70 rfl (tC_10_1 hv1) dX4_doStep_8 ?_
  refine lv_iload_n hx hb dX4_doStep_11 rfl (lv_at hl 3 rfl) ?_
  refine q_iald E hw (tC_2_1 (tC_10_1 hv1)) hm dX4_doStep_12 (fun a4 hm => ?_)
  refine lv_istore (lv' := [(5, .int a4), (4, .ref (b + (LC.2.1 v1 1))), (0, .ref (b + v0)), (1, .ref (b + v1)), (2, .int v2), (3, .ref (b + v3))]) hx hb dX4_doStep_13 hl (by decide) rfl (fun ls hl => ?_)
  refine lv_aload hx hb dX4_doStep_15 (lv_at hl 1 rfl) ?_
  refine q_geta E hw fw_X4_77 rfl (tC_10_1 hv1) dX4_doStep_17 ?_
  refine lv_iload_n hx hb dX4_doStep_20 rfl (lv_at hl 4 rfl) ?_
  refine q_iald E hw (tC_2_2 (tC_10_1 hv1)) hm dX4_doStep_21 (fun a5 hm => ?_)
  refine lv_istore (lv' := [(6, .int a5), (5, .int a4), (4, .ref (b + (LC.2.1 v1 1))), (0, .ref (b + v0)), (1, .ref (b + v1)), (2, .int v2), (3, .ref (b + v3))]) hx hb dX4_doStep_22 hl (by decide) rfl (fun ls hl => ?_)
  refine lv_aload hx hb dX4_doStep_24 (lv_at hl 2 rfl) ?_
  refine q_geta E hw fw_X4_63 rfl (tC_10_1 hv1) dX4_doStep_26 ?_
  refine lv_iload_n hx hb dX4_doStep_29 rfl (lv_at hl 5 rfl) ?_
  refine q_iald E hw (tC_2_3 (tC_10_1 hv1)) hm dX4_doStep_30 (fun a6 hm => ?_)
  refine lv_istore (lv' := [(7, .int a6), (6, .int a5), (5, .int a4), (4, .ref (b + (LC.2.1 v1 1))), (0, .ref (b + v0)), (1, .ref (b + v1)), (2, .int v2), (3, .ref (b + v3))]) hx hb dX4_doStep_31 hl (by decide) rfl (fun ls hl => ?_)
  refine lv_aload hx hb dX4_doStep_33 (lv_at hl 3 rfl) ?_
  refine q_geta E hw fw_X4_43 rfl (tC_10_1 hv1) dX4_doStep_35 ?_
  refine lv_iload_n hx hb dX4_doStep_38 rfl (lv_at hl 6 rfl) ?_
  refine q_iald E hw (tC_2_0 (tC_10_1 hv1)) hm dX4_doStep_39 (fun a7 hm => ?_)
  by_cases c8 : a7 = 7
  · refine q_tsw E 7 104 c8 dX4_doStep_40 (by decide) (by decide) rfl (by decide) ?_
    have hm := o_t c8 hm
    refine lv_aload_n hx hb dX4_doStep_104 rfl (lv_at hl 4 rfl) ?_
    refine lv_aload_n hx hb dX4_doStep_105 rfl (lv_at hl 5 rfl) ?_
    refine lv_aload_n hx hb dX4_doStep_106 rfl (lv_at hl 5 rfl) ?_
    refine lv_iload hx hb dX4_doStep_107 (lv_at hl 2 rfl) ?_
    refine lv_iload hx hb dX4_doStep_109 (lv_at hl 1 rfl) ?_
    refine lv_iload hx hb dX4_doStep_111 (lv_at hl 0 rfl) ?_
    refine lv_aload_n hx hb dX4_doStep_113 rfl (lv_at hl 5 rfl) ?_
    refine lv_iload hx hb dX4_doStep_114 (lv_at hl 2 rfl) ?_
    refine q_cSi [.int a6, .int a5, .int a4, .ref (b + v1), .ref (b + v1), .ref (b + v0)] E hw hm ms_X4_100 (fun u hu => c_X4_ticketFor hu hv1) rfl rfl hl.1 (Nat.le_of_ble_eq_true rfl) ⟨Nat.le_of_ble_eq_true rfl, Nat.le_of_ble_eq_true rfl⟩ dX4_doStep_116 (fun u9 H locs hm hw => ?_)
    refine q_cVi (κ := 10) (C := RX10) (T := TX10) (N := 12) [.ref (b + v1), .ref (b + v0)] E hw hm mw_X4_103 (fun u hu => c_X10_putValue hu hv1) rfl (by decide) hv1 rfl rfl hl.1 (Nat.le_of_ble_eq_true rfl) ⟨Nat.le_of_ble_eq_true rfl, Nat.le_of_ble_eq_true rfl⟩ dX4_doStep_119 (fun u10 H locs hm hw => ?_)
    refine q_cVv (κ := 4) (C := RX4) (T := TX4) (N := 4) [] E hw hm mw_X4_107 (fun u hu => c_X4_countTold hu hv0 hv1) rfl (by decide) hv0 rfl rfl hl.1 (Nat.le_of_ble_eq_true rfl) ⟨Nat.le_of_ble_eq_true rfl, Nat.le_of_ble_eq_true rfl⟩ dX4_doStep_122 (fun u11 H locs hm hw => ?_)
    refine lv_goto (tgt := 307) hx hb dX4_doStep_125 (by decide) ?_
    exact w_X4_doStep_307 E hr hlk hm  hw (lv_sub hl [] rfl)
  have hm := o_f c8 hm
  by_cases c12 : a7 = 8
  · refine q_tsw E 8 128 c12 dX4_doStep_40 (by decide) (by decide) rfl (by decide) ?_
    have hm := o_t c12 hm
    refine lv_aload_n hx hb dX4_doStep_128 rfl (lv_at hl 4 rfl) ?_
    refine lv_aload_n hx hb dX4_doStep_129 rfl (lv_at hl 5 rfl) ?_
    refine lv_aload_n hx hb dX4_doStep_130 rfl (lv_at hl 5 rfl) ?_
    refine lv_iload hx hb dX4_doStep_131 (lv_at hl 2 rfl) ?_
    refine lv_iload hx hb dX4_doStep_133 (lv_at hl 1 rfl) ?_
    refine lv_sipush (v := 1000) hx hb dX4_doStep_135 (by decide) ?_
    refine lv_aload_n hx hb dX4_doStep_138 rfl (lv_at hl 5 rfl) ?_
    refine lv_iload hx hb dX4_doStep_139 (lv_at hl 2 rfl) ?_
    refine q_cSi [.int 1000, .int a5, .int a4, .ref (b + v1), .ref (b + v1), .ref (b + v0)] E hw hm ms_X4_100 (fun u hu => c_X4_ticketFor hu hv1) rfl rfl hl.1 (Nat.le_of_ble_eq_true rfl) ⟨Nat.le_of_ble_eq_true rfl, Nat.le_of_ble_eq_true rfl⟩ dX4_doStep_141 (fun u13 H locs hm hw => ?_)
    refine q_cVi (κ := 10) (C := RX10) (T := TX10) (N := 12) [.ref (b + v1), .ref (b + v0)] E hw hm mw_X4_103 (fun u hu => c_X10_putValue hu hv1) rfl (by decide) hv1 rfl rfl hl.1 (Nat.le_of_ble_eq_true rfl) ⟨Nat.le_of_ble_eq_true rfl, Nat.le_of_ble_eq_true rfl⟩ dX4_doStep_144 (fun u14 H locs hm hw => ?_)
    refine q_cVv (κ := 4) (C := RX4) (T := TX4) (N := 4) [] E hw hm mw_X4_107 (fun u hu => c_X4_countTold hu hv0 hv1) rfl (by decide) hv0 rfl rfl hl.1 (Nat.le_of_ble_eq_true rfl) ⟨Nat.le_of_ble_eq_true rfl, Nat.le_of_ble_eq_true rfl⟩ dX4_doStep_147 (fun u15 H locs hm hw => ?_)
    refine lv_goto (tgt := 307) hx hb dX4_doStep_150 (by decide) ?_
    exact w_X4_doStep_307 E hr hlk hm  hw (lv_sub hl [] rfl)
  have hm := o_f c12 hm
  by_cases c16 : a7 = 9
  · refine q_tsw E 9 153 c16 dX4_doStep_40 (by decide) (by decide) rfl (by decide) ?_
    have hm := o_t c16 hm
    refine lv_aload_n hx hb dX4_doStep_153 rfl (lv_at hl 4 rfl) ?_
    refine lv_aload_n hx hb dX4_doStep_154 rfl (lv_at hl 5 rfl) ?_
    refine lv_aload_n hx hb dX4_doStep_155 rfl (lv_at hl 5 rfl) ?_
    refine lv_iload hx hb dX4_doStep_156 (lv_at hl 2 rfl) ?_
    refine lv_iload hx hb dX4_doStep_158 (lv_at hl 1 rfl) ?_
    refine lv_iload hx hb dX4_doStep_160 (lv_at hl 0 rfl) ?_
    refine q_cVi (κ := 10) (C := RX10) (T := TX10) (N := 12) [.ref (b + v1), .ref (b + v0)] E hw hm mw_X4_111 (fun u hu => c_X10_addPart hu hv1) rfl (by decide) hv1 rfl rfl hl.1 (Nat.le_of_ble_eq_true rfl) ⟨Nat.le_of_ble_eq_true rfl, Nat.le_of_ble_eq_true rfl⟩ dX4_doStep_162 (fun u17 H locs hm hw => ?_)
    refine q_cVv (κ := 4) (C := RX4) (T := TX4) (N := 4) [] E hw hm mw_X4_107 (fun u hu => c_X4_countTold hu hv0 hv1) rfl (by decide) hv0 rfl rfl hl.1 (Nat.le_of_ble_eq_true rfl) ⟨Nat.le_of_ble_eq_true rfl, Nat.le_of_ble_eq_true rfl⟩ dX4_doStep_165 (fun u18 H locs hm hw => ?_)
    refine lv_goto (tgt := 307) hx hb dX4_doStep_168 (by decide) ?_
    exact w_X4_doStep_307 E hr hlk hm  hw (lv_sub hl [] rfl)
  have hm := o_f c16 hm
  by_cases c19 : a7 = 10
  · refine q_tsw E 10 171 c19 dX4_doStep_40 (by decide) (by decide) rfl (by decide) ?_
    have hm := o_t c19 hm
    refine lv_aload_n hx hb dX4_doStep_171 rfl (lv_at hl 4 rfl) ?_
    refine q_geta E hw fw_X4_11 rfl hv0 dX4_doStep_172 ?_
    refine lv_aload_n hx hb dX4_doStep_175 rfl (lv_at hl 5 rfl) ?_
    refine lv_iload hx hb dX4_doStep_176 (lv_at hl 2 rfl) ?_
    refine lv_iload hx hb dX4_doStep_178 (lv_at hl 1 rfl) ?_
    refine lv_iconst (v := 0) hx hb dX4_doStep_180 (by decide) ?_
    refine lv_aload_n hx hb dX4_doStep_181 rfl (lv_at hl 7 rfl) ?_
    refine q_cVi (κ := 10) (C := RX10) (T := TX10) (N := 12) [.ref (b + (LC.2.1 v0 0))] E hw hm mw_X4_115 (fun u hu => c_X10_collect hu hv1 hv3) rfl (by decide) hv1 rfl rfl hl.1 (Nat.le_of_ble_eq_true rfl) ⟨Nat.le_of_ble_eq_true rfl, Nat.le_of_ble_eq_true rfl⟩ dX4_doStep_182 (fun u20 H locs hm hw => ?_)
    refine lv_if_eq (tgt := 192) hx hb dX4_doStep_185 (by decide) (fun c21 => ?_) (fun c21 => ?_)
    · have hm := o_t c21 hm
      refine lv_iconst (v := 0) hx hb dX4_doStep_192 (by decide) ?_
      exact w_X4_doStep_193 E hr hlk hm (tC_4_0 hv0) hw (lv_sub hl [] rfl)
    · have hm := o_f c21 hm
      refine lv_iconst (v := 3) hx hb dX4_doStep_188 (by decide) ?_
      refine lv_goto (tgt := 193) hx hb dX4_doStep_189 (by decide) ?_
      exact w_X4_doStep_193 E hr hlk hm (tC_4_0 hv0) hw (lv_sub hl [] rfl)
  have hm := o_f c19 hm
  by_cases c22 : a7 = 11
  · refine q_tsw E 11 201 c22 dX4_doStep_40 (by decide) (by decide) rfl (by decide) ?_
    have hm := o_t c22 hm
    refine lv_aload_n hx hb dX4_doStep_201 rfl (lv_at hl 5 rfl) ?_
    refine lv_iload hx hb dX4_doStep_202 (lv_at hl 1 rfl) ?_
    refine lv_iconst (v := 0) hx hb dX4_doStep_204 (by decide) ?_
    refine q_cVv (κ := 10) (C := RX10) (T := TX10) (N := 12) [] E hw hm mw_X4_119 (fun u hu => c_X10_setUp hu hv1) rfl (by decide) hv1 rfl rfl hl.1 (Nat.le_of_ble_eq_true rfl) ⟨Nat.le_of_ble_eq_true rfl, Nat.le_of_ble_eq_true rfl⟩ dX4_doStep_205 (fun u23 H locs hm hw => ?_)
    refine lv_goto (tgt := 307) hx hb dX4_doStep_208 (by decide) ?_
    exact w_X4_doStep_307 E hr hlk hm  hw (lv_sub hl [] rfl)
  have hm := o_f c22 hm
  by_cases c24 : a7 = 12
  · refine q_tsw E 12 211 c24 dX4_doStep_40 (by decide) (by decide) rfl (by decide) ?_
    have hm := o_t c24 hm
    refine lv_aload_n hx hb dX4_doStep_211 rfl (lv_at hl 5 rfl) ?_
    refine lv_iload hx hb dX4_doStep_212 (lv_at hl 1 rfl) ?_
    refine lv_iconst (v := 1) hx hb dX4_doStep_214 (by decide) ?_
    refine q_cVv (κ := 10) (C := RX10) (T := TX10) (N := 12) [] E hw hm mw_X4_119 (fun u hu => c_X10_setUp hu hv1) rfl (by decide) hv1 rfl rfl hl.1 (Nat.le_of_ble_eq_true rfl) ⟨Nat.le_of_ble_eq_true rfl, Nat.le_of_ble_eq_true rfl⟩ dX4_doStep_215 (fun u25 H locs hm hw => ?_)
    refine lv_goto (tgt := 307) hx hb dX4_doStep_218 (by decide) ?_
    exact w_X4_doStep_307 E hr hlk hm  hw (lv_sub hl [] rfl)
  have hm := o_f c24 hm
  by_cases c26 : a7 = 13
  · refine q_tsw E 13 221 c26 dX4_doStep_40 (by decide) (by decide) rfl (by decide) ?_
    have hm := o_t c26 hm
    refine lv_aload_n hx hb dX4_doStep_221 rfl (lv_at hl 5 rfl) ?_
    refine lv_iload hx hb dX4_doStep_222 (lv_at hl 1 rfl) ?_
    refine q_cVv (κ := 10) (C := RX10) (T := TX10) (N := 12) [] E hw hm mw_X4_123 (fun u hu => c_X10_wipeAll hu hv1) rfl (by decide) hv1 rfl rfl hl.1 (Nat.le_of_ble_eq_true rfl) ⟨Nat.le_of_ble_eq_true rfl, Nat.le_of_ble_eq_true rfl⟩ dX4_doStep_224 (fun u27 H locs hm hw => ?_)
    refine lv_goto (tgt := 307) hx hb dX4_doStep_227 (by decide) ?_
    exact w_X4_doStep_307 E hr hlk hm  hw (lv_sub hl [] rfl)
  have hm := o_f c26 hm
  by_cases c28 : a7 = 14
  · refine q_tsw E 14 230 c28 dX4_doStep_40 (by decide) (by decide) rfl (by decide) ?_
    have hm := o_t c28 hm
    refine lv_aload_n hx hb dX4_doStep_230 rfl (lv_at hl 5 rfl) ?_
    refine lv_iload hx hb dX4_doStep_231 (lv_at hl 0 rfl) ?_
    refine q_pi E hw hm fw_X4_127 rfl rfl hv1 dX4_doStep_233 (fun σ29 H locs hm hw => ?_)
    refine lv_goto (tgt := 307) hx hb dX4_doStep_236 (by decide) ?_
    exact w_X4_doStep_307 E hr hlk hm  hw (lv_sub hl [] rfl)
  have hm := o_f c28 hm
  by_cases c30 : a7 = 15
  · refine q_tsw E 15 239 c30 dX4_doStep_40 (by decide) (by decide) rfl (by decide) ?_
    have hm := o_t c30 hm
    refine lv_aload_n hx hb dX4_doStep_239 rfl (lv_at hl 5 rfl) ?_
    refine lv_iconst (v := 0) hx hb dX4_doStep_240 (by decide) ?_
    refine q_pi E hw hm fw_X4_127 rfl rfl hv1 dX4_doStep_241 (fun σ31 H locs hm hw => ?_)
    refine lv_goto (tgt := 307) hx hb dX4_doStep_244 (by decide) ?_
    exact w_X4_doStep_307 E hr hlk hm  hw (lv_sub hl [] rfl)
  have hm := o_f c30 hm
  by_cases c32 : a7 = 16
  · refine q_tsw E 16 247 c32 dX4_doStep_40 (by decide) (by decide) rfl (by decide) ?_
    have hm := o_t c32 hm
    refine lv_aload_n hx hb dX4_doStep_247 rfl (lv_at hl 4 rfl) ?_
    refine q_geta E hw fw_X4_11 rfl hv0 dX4_doStep_248 ?_
    refine lv_iconst (v := 4) hx hb dX4_doStep_251 (by decide) ?_
    refine lv_dup2_11 hx hb dX4_doStep_252 rfl rfl ?_
    refine q_iald E hw (tC_4_0 hv0) hm dX4_doStep_253 (fun a33 hm => ?_)
    refine lv_aload_n hx hb dX4_doStep_254 rfl (lv_at hl 5 rfl) ?_
    refine q_cVi (κ := 10) (C := RX10) (T := TX10) (N := 12) [.int a33, .int 4, .ref (b + (LC.2.1 v0 0))] E hw hm mw_X4_130 (fun u hu => c_X10_handOn hu hv1) rfl (by decide) hv1 rfl rfl hl.1 (Nat.le_of_ble_eq_true rfl) ⟨Nat.le_of_ble_eq_true rfl, Nat.le_of_ble_eq_true rfl⟩ dX4_doStep_255 (fun u34 H locs hm hw => ?_)
    refine lv_iadd hx hb dX4_doStep_258 ?_
    refine q_iast E hw (tC_4_0 hv0) hm dX4_doStep_259 (fun σ35 H locs hm hw => ?_)
    refine lv_goto (tgt := 307) hx hb dX4_doStep_260 (by decide) ?_
    exact w_X4_doStep_307 E hr hlk hm  hw (lv_sub hl [] rfl)
  have hm := o_f c32 hm
  by_cases c36 : a7 = 17
  · refine q_tsw E 17 263 c36 dX4_doStep_40 (by decide) (by decide) rfl (by decide) ?_
    have hm := o_t c36 hm
    refine lv_aload_n hx hb dX4_doStep_263 rfl (lv_at hl 4 rfl) ?_
    refine q_geta E hw fw_X4_11 rfl hv0 dX4_doStep_264 ?_
    refine lv_iconst (v := 0) hx hb dX4_doStep_267 (by decide) ?_
    refine lv_dup2_11 hx hb dX4_doStep_268 rfl rfl ?_
    refine q_iald E hw (tC_4_0 hv0) hm dX4_doStep_269 (fun a37 hm => ?_)
    refine lv_aload_n hx hb dX4_doStep_270 rfl (lv_at hl 5 rfl) ?_
    refine lv_iload hx hb dX4_doStep_271 (lv_at hl 1 rfl) ?_
    refine lv_aload hx hb dX4_doStep_273 (lv_at hl 3 rfl) ?_
    refine q_geta E hw fw_X4_97 rfl (tC_10_1 hv1) dX4_doStep_275 ?_
    refine lv_iload_n hx hb dX4_doStep_278 rfl (lv_at hl 6 rfl) ?_
    refine q_iald E hw (tC_2_4 (tC_10_1 hv1)) hm dX4_doStep_279 (fun a38 hm => ?_)
    refine q_cVi (κ := 10) (C := RX10) (T := TX10) (N := 12) [.int a37, .int 0, .ref (b + (LC.2.1 v0 0))] E hw hm mw_X4_134 (fun u hu => c_X10_compare hu hv1) rfl (by decide) hv1 rfl rfl hl.1 (Nat.le_of_ble_eq_true rfl) ⟨Nat.le_of_ble_eq_true rfl, Nat.le_of_ble_eq_true rfl⟩ dX4_doStep_280 (fun u39 H locs hm hw => ?_)
    refine lv_iconst (v := (-1)) hx hb dX4_doStep_283 (by decide) ?_
    refine lv_icmp_ne (tgt := 291) hx hb dX4_doStep_284 (by decide) (fun c40 => ?_) (fun c40 => ?_)
    · have hm := o_f c40 hm
      refine lv_iconst (v := 0) hx hb dX4_doStep_291 (by decide) ?_
      exact w_X4_doStep_292 E hr hlk hm (tC_4_0 hv0) hw (lv_sub hl [] rfl)
    · have hm := o_t c40 hm
      refine lv_iconst (v := 1) hx hb dX4_doStep_287 (by decide) ?_
      refine lv_goto (tgt := 292) hx hb dX4_doStep_288 (by decide) ?_
      exact w_X4_doStep_292 E hr hlk hm (tC_4_0 hv0) hw (lv_sub hl [] rfl)
  have hm := o_f c36 hm
  by_cases c41 : a7 = 18
  · refine q_tsw E 18 297 c41 dX4_doStep_40 (by decide) (by decide) rfl (by decide) ?_
    have hm := o_t c41 hm
    refine lv_aload_n hx hb dX4_doStep_297 rfl (lv_at hl 4 rfl) ?_
    refine lv_aload_n hx hb dX4_doStep_298 rfl (lv_at hl 5 rfl) ?_
    refine lv_iload hx hb dX4_doStep_299 (lv_at hl 0 rfl) ?_
    refine q_cVv (κ := 4) (C := RX4) (T := TX4) (N := 4) [] E hw hm mw_X4_137 (fun u hu => c_X4_drawStorm hu hv0 hv1) rfl (by decide) hv0 rfl rfl hl.1 (Nat.le_of_ble_eq_true rfl) ⟨Nat.le_of_ble_eq_true rfl, Nat.le_of_ble_eq_true rfl⟩ dX4_doStep_301 (fun u42 H locs hm hw => ?_)
    refine lv_goto (tgt := 307) hx hb dX4_doStep_304 (by decide) ?_
    exact w_X4_doStep_307 E hr hlk hm  hw (lv_sub hl [] rfl)
  have hm := o_f c41 hm
  have tc8 := lv_neT (a := 7) c8 (by decide)
  have tc12 := lv_neT (a := 8) c12 (by decide)
  have tc16 := lv_neT (a := 9) c16 (by decide)
  have tc19 := lv_neT (a := 10) c19 (by decide)
  have tc22 := lv_neT (a := 11) c22 (by decide)
  have tc24 := lv_neT (a := 12) c24 (by decide)
  have tc26 := lv_neT (a := 13) c26 (by decide)
  have tc28 := lv_neT (a := 14) c28 (by decide)
  have tc30 := lv_neT (a := 15) c30 (by decide)
  have tc32 := lv_neT (a := 16) c32 (by decide)
  have tc36 := lv_neT (a := 17) c36 (by decide)
  have tc41 := lv_neT (a := 18) c41 (by decide)
  refine lv_tableOut (tgt := 307) hx hb dX4_doStep_40 (by omega) (by decide) ?_
  exact w_X4_doStep_307 E hr hlk hm  hw (lv_sub hl [] rfl)
theorem c_X4_doStep {l : Launch} {D : va_G} {cy : Nat → ClassId} {b : Nat} {v0 : Nat} {v1 : Nat} {v2 : Int32} {v3 : Nat} {σ : ST} {r : ST} (hm : f_X4_doStep v0 v1 v2 v3 σ = some r) (hv0 : LC.1 v0 = 4) (hv1 : LC.1 v1 = 10) (hv3 : LC.1 v3 = 0) : Met l yX4_doStep (wU yX4_doStep cX4_doStep 8 (none)) (rmD 6) (PcP D cy LC b [.ref (b + v0), .ref (b + v1), .int v2, .ref (b + v3)] σ) (QcP D cy LC b none r) 0 0 (inP LC b) :=
  q_met (lv := [(0, .ref (b + v0)), (1, .ref (b + v1)), (2, .int v2), (3, .ref (b + v3))]) LC_ok (by decide) (Nat.le_of_ble_eq_true rfl) rfl (fun _ _ _ _ _ _ _ _ _ E hr hlk hw hl => w_X4_doStep_0 E hr hlk hm hv0 hv1 hv3 hw hl)

def k_X4_lineBehindEnd_50 (s0 : Int32) (σ : ST) : Option (Int32 × ST) :=
  some (s0, σ)
set_option maxRecDepth 20000 in
set_option maxHeartbeats 1000000 in
theorem w_X4_lineBehindEnd_50 {p : Program} {l : Launch} {e : Env} {s : State} {m : MethodId} {args : Array Value} {below : List Frame} {meth : Method} {c : Code} {D : va_G} {cy : Nat → ClassId} {b : Nat} (E : CX p m c cX4_lineBehindEnd 4 s args RX4 D cy LC) (hr : meth.sig.returnType = some .int) (hlk : meth.locks = false) {r : Int32 × ST} {s0 : Int32} {σ : ST} {H : Heap} {locs : List Loc} {ls : Array Slot} (hm : k_X4_lineBehindEnd_50 s0 σ = some r) (hw : PH D cy LC b σ s H locs) (hl : lv_has ls 4 []) : W p l e (rmD 0) s m args below meth c H locs 0 0 (MQ below (QcP D cy LC b (some (.int r.1)) r.2) args s 0 0 (inP LC b)) (F0 m 50 ls [.int s0]) := by
  have hx := E.1.1
  have hb := E.1.2.1
  unfold k_X4_lineBehindEnd_50 at hm
  exact q_iret E hr hlk hw hm dX4_lineBehindEnd_50
def f_X4_lineBehindEnd (v0 : Nat) (v1 : Nat) (v2 : Int32) (σ : ST) : Option (Int32 × ST) :=
  (ldA LC σ (LC.2.1 v1 5) v2).bind fun a1 =>
  (ldA LC σ (LC.2.1 v1 0) a1).bind fun a2 =>
  if a2 = 23 then ((ldA LC σ (LC.2.1 v0 2) a1).bind fun a4 =>
  (stA LC σ (LC.2.1 v0 2) a1 (a4 - 1)).bind fun σ5 =>
  (ldA LC σ5 (LC.2.1 v0 2) a1).bind fun a6 =>
  if a6 ≤ 0 then (k_X4_lineBehindEnd_50 (v2 + 1) σ5) else (k_X4_lineBehindEnd_50 (a1 + 1) σ5)) else (some (v2 + 1, σ))
set_option maxRecDepth 20000 in
set_option maxHeartbeats 1000000 in
theorem w_X4_lineBehindEnd_0 {p : Program} {l : Launch} {e : Env} {s : State} {m : MethodId} {args : Array Value} {below : List Frame} {meth : Method} {c : Code} {D : va_G} {cy : Nat → ClassId} {b : Nat} (E : CX p m c cX4_lineBehindEnd 4 s args RX4 D cy LC) (hr : meth.sig.returnType = some .int) (hlk : meth.locks = false) {r : Int32 × ST} {v0 : Nat} {v1 : Nat} {v2 : Int32} {σ : ST} {H : Heap} {locs : List Loc} {ls : Array Slot} (hm : f_X4_lineBehindEnd v0 v1 v2 σ = some r) (hv0 : LC.1 v0 = 4) (hv1 : LC.1 v1 = 2) (hw : PH D cy LC b σ s H locs) (hl : lv_has ls 4 [(0, .ref (b + v0)), (1, .ref (b + v1)), (2, .int v2)]) : W p l e (rmD 0) s m args below meth c H locs 0 0 (MQ below (QcP D cy LC b (some (.int r.1)) r.2) args s 0 0 (inP LC b)) (F0 m 0 ls []) := by
  have hx := E.1.1
  have hb := E.1.2.1
  unfold f_X4_lineBehindEnd at hm
  refine lv_aload_n hx hb dX4_lineBehindEnd_0 rfl (lv_at hl 1 rfl) ?_
  refine q_geta E hw fw_X4_60 rfl hv1 dX4_lineBehindEnd_1 ?_
  refine lv_iload_n hx hb dX4_lineBehindEnd_4 rfl (lv_at hl 2 rfl) ?_
  refine q_iald E hw (tC_2_5 hv1) hm dX4_lineBehindEnd_5 (fun a1 hm => ?_)
  refine lv_istore_n (lv' := [(3, .int a1), (0, .ref (b + v0)), (1, .ref (b + v1)), (2, .int v2)]) hx hb dX4_lineBehindEnd_6 rfl hl (by decide) rfl (fun ls hl => ?_)
  refine lv_aload_n hx hb dX4_lineBehindEnd_7 rfl (lv_at hl 2 rfl) ?_
  refine q_geta E hw fw_X4_43 rfl hv1 dX4_lineBehindEnd_8 ?_
  refine lv_iload_n hx hb dX4_lineBehindEnd_11 rfl (lv_at hl 0 rfl) ?_
  refine q_iald E hw (tC_2_0 hv1) hm dX4_lineBehindEnd_12 (fun a2 hm => ?_)
  refine lv_bipush (v := 23) hx hb dX4_lineBehindEnd_13 (by decide) ?_
  refine lv_icmp_eq (tgt := 22) hx hb dX4_lineBehindEnd_15 (by decide) (fun c3 => ?_) (fun c3 => ?_)
  · have hm := o_t c3 hm
    refine lv_aload_n hx hb dX4_lineBehindEnd_22 rfl (lv_at hl 1 rfl) ?_
    refine q_geta E hw fw_X4_21 rfl hv0 dX4_lineBehindEnd_23 ?_
    refine lv_iload_n hx hb dX4_lineBehindEnd_26 rfl (lv_at hl 0 rfl) ?_
    refine lv_dup2_11 hx hb dX4_lineBehindEnd_27 rfl rfl ?_
    refine q_iald E hw (tC_4_2 hv0) hm dX4_lineBehindEnd_28 (fun a4 hm => ?_)
    refine lv_iconst (v := 1) hx hb dX4_lineBehindEnd_29 (by decide) ?_
    refine lv_isub hx hb dX4_lineBehindEnd_30 ?_
    refine q_iast E hw (tC_4_2 hv0) hm dX4_lineBehindEnd_31 (fun σ5 H locs hm hw => ?_)
    refine lv_aload_n hx hb dX4_lineBehindEnd_32 rfl (lv_at hl 1 rfl) ?_
    refine q_geta E hw fw_X4_21 rfl hv0 dX4_lineBehindEnd_33 ?_
    refine lv_iload_n hx hb dX4_lineBehindEnd_36 rfl (lv_at hl 0 rfl) ?_
    refine q_iald E hw (tC_4_2 hv0) hm dX4_lineBehindEnd_37 (fun a6 hm => ?_)
    refine lv_if_le (tgt := 47) hx hb dX4_lineBehindEnd_38 (by decide) (fun c7 => ?_) (fun c7 => ?_)
    · have hm := o_t c7 hm
      refine lv_iload_n hx hb dX4_lineBehindEnd_47 rfl (lv_at hl 3 rfl) ?_
      refine lv_iconst (v := 1) hx hb dX4_lineBehindEnd_48 (by decide) ?_
      refine lv_iadd hx hb dX4_lineBehindEnd_49 ?_
      exact w_X4_lineBehindEnd_50 E hr hlk hm  hw (lv_sub hl [] rfl)
    · have hm := o_f c7 hm
      refine lv_iload_n hx hb dX4_lineBehindEnd_41 rfl (lv_at hl 0 rfl) ?_
      refine lv_iconst (v := 1) hx hb dX4_lineBehindEnd_42 (by decide) ?_
      refine lv_iadd hx hb dX4_lineBehindEnd_43 ?_
      refine lv_goto (tgt := 50) hx hb dX4_lineBehindEnd_44 (by decide) ?_
      exact w_X4_lineBehindEnd_50 E hr hlk hm  hw (lv_sub hl [] rfl)
  · have hm := o_f c3 hm
    refine lv_iload_n hx hb dX4_lineBehindEnd_18 rfl (lv_at hl 3 rfl) ?_
    refine lv_iconst (v := 1) hx hb dX4_lineBehindEnd_19 (by decide) ?_
    refine lv_iadd hx hb dX4_lineBehindEnd_20 ?_
    exact q_iret E hr hlk hw hm dX4_lineBehindEnd_21
theorem c_X4_lineBehindEnd {l : Launch} {D : va_G} {cy : Nat → ClassId} {b : Nat} {v0 : Nat} {v1 : Nat} {v2 : Int32} {σ : ST} {r : Int32 × ST} (hm : f_X4_lineBehindEnd v0 v1 v2 σ = some r) (hv0 : LC.1 v0 = 4) (hv1 : LC.1 v1 = 2) : Met l yX4_lineBehindEnd (wU yX4_lineBehindEnd cX4_lineBehindEnd 4 (some .int)) (rmD 0) (PcP D cy LC b [.ref (b + v0), .ref (b + v1), .int v2] σ) (QcP D cy LC b (some (.int r.1)) r.2) 0 0 (inP LC b) :=
  q_met (lv := [(0, .ref (b + v0)), (1, .ref (b + v1)), (2, .int v2)]) LC_ok (by decide) (Nat.le_of_ble_eq_true rfl) rfl (fun _ _ _ _ _ _ _ _ _ E hr hlk hw hl => w_X4_lineBehindEnd_0 E hr hlk hm hv0 hv1 hw hl)

def k_X4_holds_147 (s0 : Int32) (σ : ST) : Option (Int32 × ST) :=
  (ckZ s0).bind fun z => some (z, σ)
set_option maxRecDepth 20000 in
set_option maxHeartbeats 1000000 in
theorem w_X4_holds_147 {p : Program} {l : Launch} {e : Env} {s : State} {m : MethodId} {args : Array Value} {below : List Frame} {meth : Method} {c : Code} {D : va_G} {cy : Nat → ClassId} {b : Nat} (E : CX p m c cX4_holds 5 s args RX4 D cy LC) (hr : meth.sig.returnType = some .boolean) (hlk : meth.locks = false) {r : Int32 × ST} {s0 : Int32} {σ : ST} {H : Heap} {locs : List Loc} {ls : Array Slot} (hm : k_X4_holds_147 s0 σ = some r) (hw : PH D cy LC b σ s H locs) (hl : lv_has ls 5 []) : W p l e (rmD 3) s m args below meth c H locs 0 0 (MQ below (QcP D cy LC b (some (.int r.1)) r.2) args s 0 0 (inP LC b)) (F0 m 147 ls [.int s0]) := by
  have hx := E.1.1
  have hb := E.1.2.1
  unfold k_X4_holds_147 at hm
  exact q_zret E hr hlk hw hm dX4_holds_147
def k_X4_holds_100 (s0 : Int32) (σ : ST) : Option (Int32 × ST) :=
  (ckZ s0).bind fun z => some (z, σ)
set_option maxRecDepth 20000 in
set_option maxHeartbeats 1000000 in
theorem w_X4_holds_100 {p : Program} {l : Launch} {e : Env} {s : State} {m : MethodId} {args : Array Value} {below : List Frame} {meth : Method} {c : Code} {D : va_G} {cy : Nat → ClassId} {b : Nat} (E : CX p m c cX4_holds 5 s args RX4 D cy LC) (hr : meth.sig.returnType = some .boolean) (hlk : meth.locks = false) {r : Int32 × ST} {s0 : Int32} {σ : ST} {H : Heap} {locs : List Loc} {ls : Array Slot} (hm : k_X4_holds_100 s0 σ = some r) (hw : PH D cy LC b σ s H locs) (hl : lv_has ls 5 []) : W p l e (rmD 3) s m args below meth c H locs 0 0 (MQ below (QcP D cy LC b (some (.int r.1)) r.2) args s 0 0 (inP LC b)) (F0 m 100 ls [.int s0]) := by
  have hx := E.1.1
  have hb := E.1.2.1
  unfold k_X4_holds_100 at hm
  exact q_zret E hr hlk hw hm dX4_holds_100
def f_X4_holds (v0 : Nat) (v1 : Nat) (v2 : Int32) (σ : ST) : Option (Int32 × ST) :=
  (ldA LC σ (LC.2.1 (LC.2.1 v1 1) 0) v2).bind fun a1 =>
  if a1 = 20 then ((ldA LC σ (LC.2.1 (LC.2.1 v1 1) 1) v2).bind fun a21 =>
  (f_X10_isAlike v1 a21 σ).bind fun u22 =>
  (ckZ u22.1).bind fun z => some (z, u22.2)) else ((ldA LC σ (LC.2.1 (LC.2.1 v1 1) 0) v2).bind fun a3 =>
  if a3 = 21 then ((ldA LC σ (LC.2.1 (LC.2.1 v1 1) 2) v2).bind fun a19 =>
  (f_X10_isUp v1 a19 σ).bind fun u20 =>
  (ckZ u20.1).bind fun z => some (z, u20.2)) else ((ldA LC σ (LC.2.1 (LC.2.1 v1 1) 2) v2).bind fun a5 =>
  (ldA LC σ (LC.2.1 (LC.2.1 v1 1) 1) v2).bind fun a6 =>
  (f_X10_cellOf a5 a6 σ).bind fun u7 =>
  (f_X0_twinCount (LC.2.1 v1 2) u7.1 u7.2).bind fun u8 =>
  (ldA LC u8.2 (LC.2.1 (LC.2.1 v1 1) 4) v2).bind fun a9 =>
  if a9 = 60 then ((ldA LC u8.2 (LC.2.1 (LC.2.1 v1 1) 3) v2).bind fun a17 =>
  if a17 ≤ u8.1 then (k_X4_holds_100 0 u8.2) else (k_X4_holds_100 1 u8.2)) else ((ldA LC u8.2 (LC.2.1 (LC.2.1 v1 1) 4) v2).bind fun a11 =>
  if a11 = 62 then ((ldA LC u8.2 (LC.2.1 (LC.2.1 v1 1) 3) v2).bind fun a15 =>
  if u8.1 ≤ a15 then (k_X4_holds_147 0 u8.2) else (k_X4_holds_147 1 u8.2)) else ((ldA LC u8.2 (LC.2.1 (LC.2.1 v1 1) 3) v2).bind fun a13 =>
  if u8.1 = a13 then (k_X4_holds_147 1 u8.2) else (k_X4_holds_147 0 u8.2)))))
set_option maxRecDepth 20000 in
set_option maxHeartbeats 1000000 in
theorem w_X4_holds_0 {p : Program} {l : Launch} {e : Env} {s : State} {m : MethodId} {args : Array Value} {below : List Frame} {meth : Method} {c : Code} {D : va_G} {cy : Nat → ClassId} {b : Nat} (E : CX p m c cX4_holds 5 s args RX4 D cy LC) (hr : meth.sig.returnType = some .boolean) (hlk : meth.locks = false) {r : Int32 × ST} {v0 : Nat} {v1 : Nat} {v2 : Int32} {σ : ST} {H : Heap} {locs : List Loc} {ls : Array Slot} (hm : f_X4_holds v0 v1 v2 σ = some r) (hv0 : LC.1 v0 = 4) (hv1 : LC.1 v1 = 10) (hw : PH D cy LC b σ s H locs) (hl : lv_has ls 5 [(0, .ref (b + v0)), (1, .ref (b + v1)), (2, .int v2)]) : W p l e (rmD 3) s m args below meth c H locs 0 0 (MQ below (QcP D cy LC b (some (.int r.1)) r.2) args s 0 0 (inP LC b)) (F0 m 0 ls []) := by
  have hx := E.1.1
  have hb := E.1.2.1
  unfold f_X4_holds at hm
  refine lv_aload_n hx hb dX4_holds_0 rfl (lv_at hl 1 rfl) ?_
  refine q_geta E hw fw_X4_27 rfl hv1 dX4_holds_1 ?_
  refine lv_astore_n (lv' := [(3, .ref (b + (LC.2.1 v1 1))), (0, .ref (b + v0)), (1, .ref (b + v1)), (2, .int v2)]) hx hb dX4_holds_4 rfl hl (by decide) rfl (fun ls hl => ?_)
  refine lv_aload_n hx hb dX4_holds_5 rfl (lv_at hl 0 rfl) ?_
  refine q_geta E hw fw_X4_43 rfl (tC_10_1 hv1) dX4_holds_6 ?_
  refine lv_iload_n hx hb dX4_holds_9 rfl (lv_at hl 3 rfl) ?_
  refine q_iald E hw (tC_2_0 (tC_10_1 hv1)) hm dX4_holds_10 (fun a1 hm => ?_)
  refine lv_bipush (v := 20) hx hb dX4_holds_11 (by decide) ?_
  refine lv_icmp_ne (tgt := 27) hx hb dX4_holds_13 (by decide) (fun c2 => ?_) (fun c2 => ?_)
  · have hm := o_f c2 hm
    refine lv_aload_n hx hb dX4_holds_27 rfl (lv_at hl 0 rfl) ?_
    refine q_geta E hw fw_X4_43 rfl (tC_10_1 hv1) dX4_holds_28 ?_
    refine lv_iload_n hx hb dX4_holds_31 rfl (lv_at hl 3 rfl) ?_
    refine q_iald E hw (tC_2_0 (tC_10_1 hv1)) hm dX4_holds_32 (fun a3 hm => ?_)
    refine lv_bipush (v := 21) hx hb dX4_holds_33 (by decide) ?_
    refine lv_icmp_ne (tgt := 49) hx hb dX4_holds_35 (by decide) (fun c4 => ?_) (fun c4 => ?_)
    · have hm := o_f c4 hm
      refine lv_aload_n hx hb dX4_holds_49 rfl (lv_at hl 2 rfl) ?_
      refine q_geta E hw fw_X4_83 rfl hv1 dX4_holds_50 ?_
      refine lv_aload_n hx hb dX4_holds_53 rfl (lv_at hl 0 rfl) ?_
      refine q_geta E hw fw_X4_77 rfl (tC_10_1 hv1) dX4_holds_54 ?_
      refine lv_iload_n hx hb dX4_holds_57 rfl (lv_at hl 3 rfl) ?_
      refine q_iald E hw (tC_2_2 (tC_10_1 hv1)) hm dX4_holds_58 (fun a5 hm => ?_)
      refine lv_aload_n hx hb dX4_holds_59 rfl (lv_at hl 0 rfl) ?_
      refine q_geta E hw fw_X4_70 rfl (tC_10_1 hv1) dX4_holds_60 ?_
      refine lv_iload_n hx hb dX4_holds_63 rfl (lv_at hl 3 rfl) ?_
      refine q_iald E hw (tC_2_1 (tC_10_1 hv1)) hm dX4_holds_64 (fun a6 hm => ?_)
      refine q_cSi [.ref (b + (LC.2.1 v1 2))] E hw hm ms_X4_87 (fun u hu => c_X10_cellOf hu ) rfl rfl hl.1 (Nat.le_of_ble_eq_true rfl) ⟨Nat.le_of_ble_eq_true rfl, Nat.le_of_ble_eq_true rfl⟩ dX4_holds_65 (fun u7 H locs hm hw => ?_)
      refine q_cVi (κ := 0) (C := RX0) (T := TX0) (N := 2) [] E hw hm mw_X4_91 (fun u hu => c_X0_twinCount hu (tC_10_2 hv1)) rfl (by decide) (tC_10_2 hv1) rfl rfl hl.1 (Nat.le_of_ble_eq_true rfl) ⟨Nat.le_of_ble_eq_true rfl, Nat.le_of_ble_eq_true rfl⟩ dX4_holds_68 (fun u8 H locs hm hw => ?_)
      refine lv_istore (lv' := [(4, .int u8.1), (3, .ref (b + (LC.2.1 v1 1))), (0, .ref (b + v0)), (1, .ref (b + v1)), (2, .int v2)]) hx hb dX4_holds_71 hl (by decide) rfl (fun ls hl => ?_)
      refine lv_aload_n hx hb dX4_holds_73 rfl (lv_at hl 1 rfl) ?_
      refine q_geta E hw fw_X4_97 rfl (tC_10_1 hv1) dX4_holds_74 ?_
      refine lv_iload_n hx hb dX4_holds_77 rfl (lv_at hl 4 rfl) ?_
      refine q_iald E hw (tC_2_4 (tC_10_1 hv1)) hm dX4_holds_78 (fun a9 hm => ?_)
      refine lv_bipush (v := 60) hx hb dX4_holds_79 (by decide) ?_
      refine lv_icmp_ne (tgt := 101) hx hb dX4_holds_81 (by decide) (fun c10 => ?_) (fun c10 => ?_)
      · have hm := o_f c10 hm
        refine lv_aload_n hx hb dX4_holds_101 rfl (lv_at hl 1 rfl) ?_
        refine q_geta E hw fw_X4_97 rfl (tC_10_1 hv1) dX4_holds_102 ?_
        refine lv_iload_n hx hb dX4_holds_105 rfl (lv_at hl 4 rfl) ?_
        refine q_iald E hw (tC_2_4 (tC_10_1 hv1)) hm dX4_holds_106 (fun a11 hm => ?_)
        refine lv_bipush (v := 62) hx hb dX4_holds_107 (by decide) ?_
        refine lv_icmp_ne (tgt := 131) hx hb dX4_holds_109 (by decide) (fun c12 => ?_) (fun c12 => ?_)
        · have hm := o_f c12 hm
          refine lv_iload hx hb dX4_holds_131 (lv_at hl 0 rfl) ?_
          refine lv_aload_n hx hb dX4_holds_133 rfl (lv_at hl 1 rfl) ?_
          refine q_geta E hw fw_X4_63 rfl (tC_10_1 hv1) dX4_holds_134 ?_
          refine lv_iload_n hx hb dX4_holds_137 rfl (lv_at hl 4 rfl) ?_
          refine q_iald E hw (tC_2_3 (tC_10_1 hv1)) hm dX4_holds_138 (fun a13 hm => ?_)
          refine lv_icmp_ne (tgt := 146) hx hb dX4_holds_139 (by decide) (fun c14 => ?_) (fun c14 => ?_)
          · have hm := o_f c14 hm
            refine lv_iconst (v := 0) hx hb dX4_holds_146 (by decide) ?_
            exact w_X4_holds_147 E hr hlk hm  hw (lv_sub hl [] rfl)
          · have hm := o_t c14 hm
            refine lv_iconst (v := 1) hx hb dX4_holds_142 (by decide) ?_
            refine lv_goto (tgt := 147) hx hb dX4_holds_143 (by decide) ?_
            exact w_X4_holds_147 E hr hlk hm  hw (lv_sub hl [] rfl)
        · have hm := o_t c12 hm
          refine lv_iload hx hb dX4_holds_112 (lv_at hl 0 rfl) ?_
          refine lv_aload_n hx hb dX4_holds_114 rfl (lv_at hl 1 rfl) ?_
          refine q_geta E hw fw_X4_63 rfl (tC_10_1 hv1) dX4_holds_115 ?_
          refine lv_iload_n hx hb dX4_holds_118 rfl (lv_at hl 4 rfl) ?_
          refine q_iald E hw (tC_2_3 (tC_10_1 hv1)) hm dX4_holds_119 (fun a15 hm => ?_)
          refine lv_icmp_le (tgt := 127) hx hb dX4_holds_120 (by decide) (fun c16 => ?_) (fun c16 => ?_)
          · have hm := o_t c16 hm
            refine lv_iconst (v := 0) hx hb dX4_holds_127 (by decide) ?_
            refine lv_goto (tgt := 147) hx hb dX4_holds_128 (by decide) ?_
            exact w_X4_holds_147 E hr hlk hm  hw (lv_sub hl [] rfl)
          · have hm := o_f c16 hm
            refine lv_iconst (v := 1) hx hb dX4_holds_123 (by decide) ?_
            refine lv_goto (tgt := 147) hx hb dX4_holds_124 (by decide) ?_
            exact w_X4_holds_147 E hr hlk hm  hw (lv_sub hl [] rfl)
      · have hm := o_t c10 hm
        refine lv_iload hx hb dX4_holds_84 (lv_at hl 0 rfl) ?_
        refine lv_aload_n hx hb dX4_holds_86 rfl (lv_at hl 1 rfl) ?_
        refine q_geta E hw fw_X4_63 rfl (tC_10_1 hv1) dX4_holds_87 ?_
        refine lv_iload_n hx hb dX4_holds_90 rfl (lv_at hl 4 rfl) ?_
        refine q_iald E hw (tC_2_3 (tC_10_1 hv1)) hm dX4_holds_91 (fun a17 hm => ?_)
        refine lv_icmp_ge (tgt := 99) hx hb dX4_holds_92 (by decide) (fun c18 => ?_) (fun c18 => ?_)
        · have hm := o_t c18 hm
          refine lv_iconst (v := 0) hx hb dX4_holds_99 (by decide) ?_
          exact w_X4_holds_100 E hr hlk hm  hw (lv_sub hl [] rfl)
        · have hm := o_f c18 hm
          refine lv_iconst (v := 1) hx hb dX4_holds_95 (by decide) ?_
          refine lv_goto (tgt := 100) hx hb dX4_holds_96 (by decide) ?_
          exact w_X4_holds_100 E hr hlk hm  hw (lv_sub hl [] rfl)
    · have hm := o_t c4 hm
      refine lv_aload_n hx hb dX4_holds_38 rfl (lv_at hl 2 rfl) ?_
      refine lv_aload_n hx hb dX4_holds_39 rfl (lv_at hl 0 rfl) ?_
      refine q_geta E hw fw_X4_77 rfl (tC_10_1 hv1) dX4_holds_40 ?_
      refine lv_iload_n hx hb dX4_holds_43 rfl (lv_at hl 3 rfl) ?_
      refine q_iald E hw (tC_2_2 (tC_10_1 hv1)) hm dX4_holds_44 (fun a19 hm => ?_)
      refine q_cVi (κ := 10) (C := RX10) (T := TX10) (N := 12) [] E hw hm mw_X4_80 (fun u hu => c_X10_isUp hu hv1) rfl (by decide) hv1 rfl rfl hl.1 (Nat.le_of_ble_eq_true rfl) ⟨Nat.le_of_ble_eq_true rfl, Nat.le_of_ble_eq_true rfl⟩ dX4_holds_45 (fun u20 H locs hm hw => ?_)
      exact q_zret E hr hlk hw hm dX4_holds_48
  · have hm := o_t c2 hm
    refine lv_aload_n hx hb dX4_holds_16 rfl (lv_at hl 2 rfl) ?_
    refine lv_aload_n hx hb dX4_holds_17 rfl (lv_at hl 0 rfl) ?_
    refine q_geta E hw fw_X4_70 rfl (tC_10_1 hv1) dX4_holds_18 ?_
    refine lv_iload_n hx hb dX4_holds_21 rfl (lv_at hl 3 rfl) ?_
    refine q_iald E hw (tC_2_1 (tC_10_1 hv1)) hm dX4_holds_22 (fun a21 hm => ?_)
    refine q_cVi (κ := 10) (C := RX10) (T := TX10) (N := 12) [] E hw hm mw_X4_73 (fun u hu => c_X10_isAlike hu hv1) rfl (by decide) hv1 rfl rfl hl.1 (Nat.le_of_ble_eq_true rfl) ⟨Nat.le_of_ble_eq_true rfl, Nat.le_of_ble_eq_true rfl⟩ dX4_holds_23 (fun u22 H locs hm hw => ?_)
    exact q_zret E hr hlk hw hm dX4_holds_26
theorem c_X4_holds {l : Launch} {D : va_G} {cy : Nat → ClassId} {b : Nat} {v0 : Nat} {v1 : Nat} {v2 : Int32} {σ : ST} {r : Int32 × ST} (hm : f_X4_holds v0 v1 v2 σ = some r) (hv0 : LC.1 v0 = 4) (hv1 : LC.1 v1 = 10) : Met l yX4_holds (wU yX4_holds cX4_holds 5 (some .boolean)) (rmD 3) (PcP D cy LC b [.ref (b + v0), .ref (b + v1), .int v2] σ) (QcP D cy LC b (some (.int r.1)) r.2) 0 0 (inP LC b) :=
  q_met (lv := [(0, .ref (b + v0)), (1, .ref (b + v1)), (2, .int v2)]) LC_ok (by decide) (Nat.le_of_ble_eq_true rfl) rfl (fun _ _ _ _ _ _ _ _ _ E hr hlk hw hl => w_X4_holds_0 E hr hlk hm hv0 hv1 hw hl)

def k_X4_lineBehindStep_111 (v2 : Int32) (σ : ST) : Option (Int32 × ST) :=
  some (v2 + 1, σ)
set_option maxRecDepth 20000 in
set_option maxHeartbeats 1000000 in
theorem w_X4_lineBehindStep_111 {p : Program} {l : Launch} {e : Env} {s : State} {m : MethodId} {args : Array Value} {below : List Frame} {meth : Method} {c : Code} {D : va_G} {cy : Nat → ClassId} {b : Nat} (E : CX p m c cX4_lineBehindStep 4 s args RX4 D cy LC) (hr : meth.sig.returnType = some .int) (hlk : meth.locks = false) {r : Int32 × ST} {v2 : Int32} {σ : ST} {H : Heap} {locs : List Loc} {ls : Array Slot} (hm : k_X4_lineBehindStep_111 v2 σ = some r) (hw : PH D cy LC b σ s H locs) (hl : lv_has ls 4 [(2, .int v2)]) : W p l e (rmD 4) s m args below meth c H locs 0 0 (MQ below (QcP D cy LC b (some (.int r.1)) r.2) args s 0 0 (inP LC b)) (F0 m 111 ls []) := by
  have hx := E.1.1
  have hb := E.1.2.1
  unfold k_X4_lineBehindStep_111 at hm
  refine lv_iload_n hx hb dX4_lineBehindStep_111 rfl (lv_at hl 0 rfl) ?_
  refine lv_iconst (v := 1) hx hb dX4_lineBehindStep_112 (by decide) ?_
  refine lv_iadd hx hb dX4_lineBehindStep_113 ?_
  exact q_iret E hr hlk hw hm dX4_lineBehindStep_114
def k_X4_lineBehindStep_110 (s0 : Int32) (σ : ST) : Option (Int32 × ST) :=
  some (s0, σ)
set_option maxRecDepth 20000 in
set_option maxHeartbeats 1000000 in
theorem w_X4_lineBehindStep_110 {p : Program} {l : Launch} {e : Env} {s : State} {m : MethodId} {args : Array Value} {below : List Frame} {meth : Method} {c : Code} {D : va_G} {cy : Nat → ClassId} {b : Nat} (E : CX p m c cX4_lineBehindStep 4 s args RX4 D cy LC) (hr : meth.sig.returnType = some .int) (hlk : meth.locks = false) {r : Int32 × ST} {s0 : Int32} {σ : ST} {H : Heap} {locs : List Loc} {ls : Array Slot} (hm : k_X4_lineBehindStep_110 s0 σ = some r) (hw : PH D cy LC b σ s H locs) (hl : lv_has ls 4 []) : W p l e (rmD 4) s m args below meth c H locs 0 0 (MQ below (QcP D cy LC b (some (.int r.1)) r.2) args s 0 0 (inP LC b)) (F0 m 110 ls [.int s0]) := by
  have hx := E.1.1
  have hb := E.1.2.1
  unfold k_X4_lineBehindStep_110 at hm
  exact q_iret E hr hlk hw hm dX4_lineBehindStep_110
def k_X4_lineBehindStep_87 (v0 : Nat) (v1 : Nat) (v2 : Int32) (v3 : Nat) (σ : ST) : Option (Int32 × ST) :=
  (f_X4_holds v0 v1 v2 σ).bind fun u1 =>
  if u1.1 = 0 then ((ldA LC u1.2 (LC.2.1 v3 5) v2).bind fun a3 =>
  k_X4_lineBehindStep_110 (a3 + 1) u1.2) else (k_X4_lineBehindStep_110 (v2 + 1) u1.2)
set_option maxRecDepth 20000 in
set_option maxHeartbeats 1000000 in
theorem w_X4_lineBehindStep_87 {p : Program} {l : Launch} {e : Env} {s : State} {m : MethodId} {args : Array Value} {below : List Frame} {meth : Method} {c : Code} {D : va_G} {cy : Nat → ClassId} {b : Nat} (E : CX p m c cX4_lineBehindStep 4 s args RX4 D cy LC) (hr : meth.sig.returnType = some .int) (hlk : meth.locks = false) {r : Int32 × ST} {v0 : Nat} {v1 : Nat} {v2 : Int32} {v3 : Nat} {σ : ST} {H : Heap} {locs : List Loc} {ls : Array Slot} (hm : k_X4_lineBehindStep_87 v0 v1 v2 v3 σ = some r) (hv0 : LC.1 v0 = 4) (hv1 : LC.1 v1 = 10) (hv3 : LC.1 v3 = 2) (hw : PH D cy LC b σ s H locs) (hl : lv_has ls 4 [(0, .ref (b + v0)), (1, .ref (b + v1)), (2, .int v2), (3, .ref (b + v3))]) : W p l e (rmD 4) s m args below meth c H locs 0 0 (MQ below (QcP D cy LC b (some (.int r.1)) r.2) args s 0 0 (inP LC b)) (F0 m 87 ls []) := by
  have hx := E.1.1
  have hb := E.1.2.1
  unfold k_X4_lineBehindStep_87 at hm
  refine lv_aload_n hx hb dX4_lineBehindStep_87 rfl (lv_at hl 0 rfl) ?_
  refine lv_aload_n hx hb dX4_lineBehindStep_88 rfl (lv_at hl 1 rfl) ?_
  refine lv_iload_n hx hb dX4_lineBehindStep_89 rfl (lv_at hl 2 rfl) ?_
  refine q_cVi (κ := 4) (C := RX4) (T := TX4) (N := 4) [] E hw hm mw_X4_66 (fun u hu => c_X4_holds hu hv0 hv1) rfl (by decide) hv0 rfl rfl hl.1 (Nat.le_of_ble_eq_true rfl) ⟨Nat.le_of_ble_eq_true rfl, Nat.le_of_ble_eq_true rfl⟩ dX4_lineBehindStep_90 (fun u1 H locs hm hw => ?_)
  refine lv_if_eq (tgt := 102) hx hb dX4_lineBehindStep_93 (by decide) (fun c2 => ?_) (fun c2 => ?_)
  · have hm := o_t c2 hm
    refine lv_aload_n hx hb dX4_lineBehindStep_102 rfl (lv_at hl 3 rfl) ?_
    refine q_geta E hw fw_X4_60 rfl hv3 dX4_lineBehindStep_103 ?_
    refine lv_iload_n hx hb dX4_lineBehindStep_106 rfl (lv_at hl 2 rfl) ?_
    refine q_iald E hw (tC_2_5 hv3) hm dX4_lineBehindStep_107 (fun a3 hm => ?_)
    refine lv_iconst (v := 1) hx hb dX4_lineBehindStep_108 (by decide) ?_
    refine lv_iadd hx hb dX4_lineBehindStep_109 ?_
    exact w_X4_lineBehindStep_110 E hr hlk hm  hw (lv_sub hl [] rfl)
  · have hm := o_f c2 hm
    refine lv_iload_n hx hb dX4_lineBehindStep_96 rfl (lv_at hl 2 rfl) ?_
    refine lv_iconst (v := 1) hx hb dX4_lineBehindStep_97 (by decide) ?_
    refine lv_iadd hx hb dX4_lineBehindStep_98 ?_
    refine lv_goto (tgt := 110) hx hb dX4_lineBehindStep_99 (by decide) ?_
    exact w_X4_lineBehindStep_110 E hr hlk hm  hw (lv_sub hl [] rfl)
def k_X4_lineBehindStep_86 (s0 : Int32) (σ : ST) : Option (Int32 × ST) :=
  some (s0, σ)
set_option maxRecDepth 20000 in
set_option maxHeartbeats 1000000 in
theorem w_X4_lineBehindStep_86 {p : Program} {l : Launch} {e : Env} {s : State} {m : MethodId} {args : Array Value} {below : List Frame} {meth : Method} {c : Code} {D : va_G} {cy : Nat → ClassId} {b : Nat} (E : CX p m c cX4_lineBehindStep 4 s args RX4 D cy LC) (hr : meth.sig.returnType = some .int) (hlk : meth.locks = false) {r : Int32 × ST} {s0 : Int32} {σ : ST} {H : Heap} {locs : List Loc} {ls : Array Slot} (hm : k_X4_lineBehindStep_86 s0 σ = some r) (hw : PH D cy LC b σ s H locs) (hl : lv_has ls 4 []) : W p l e (rmD 4) s m args below meth c H locs 0 0 (MQ below (QcP D cy LC b (some (.int r.1)) r.2) args s 0 0 (inP LC b)) (F0 m 86 ls [.int s0]) := by
  have hx := E.1.1
  have hb := E.1.2.1
  unfold k_X4_lineBehindStep_86 at hm
  exact q_iret E hr hlk hw hm dX4_lineBehindStep_86
def f_X4_lineBehindStep (v0 : Nat) (v1 : Nat) (v2 : Int32) (σ : ST) : Option (Int32 × ST) :=
  (ldA LC σ (LC.2.1 (LC.2.1 v1 1) 0) v2).bind fun a4 =>
  if a4 = 20 then (k_X4_lineBehindStep_87 v0 v1 v2 (LC.2.1 v1 1) σ) else if a4 = 21 then (k_X4_lineBehindStep_87 v0 v1 v2 (LC.2.1 v1 1) σ) else if a4 = 22 then (k_X4_lineBehindStep_87 v0 v1 v2 (LC.2.1 v1 1) σ) else if a4 = 23 then ((ldA LC σ (LC.2.1 (LC.2.1 v1 1) 3) v2).bind fun a9 =>
  (stA LC σ (LC.2.1 v0 2) v2 a9).bind fun σ10 =>
  (ldA LC σ10 (LC.2.1 (LC.2.1 v1 1) 5) v2).bind fun a11 =>
  if a11 = (v2 + 1) then (k_X4_lineBehindStep_86 (v2 + 2) σ10) else (k_X4_lineBehindStep_86 (v2 + 1) σ10)) else if a4 = 24 then (k_X4_lineBehindStep_111 v2 σ) else if a4 = 25 then (some (gI σ (LC.2.1 v1 1) 7, σ)) else (k_X4_lineBehindStep_111 v2 σ)
set_option maxRecDepth 20000 in
set_option maxHeartbeats 1000000 in
theorem w_X4_lineBehindStep_0 {p : Program} {l : Launch} {e : Env} {s : State} {m : MethodId} {args : Array Value} {below : List Frame} {meth : Method} {c : Code} {D : va_G} {cy : Nat → ClassId} {b : Nat} (E : CX p m c cX4_lineBehindStep 4 s args RX4 D cy LC) (hr : meth.sig.returnType = some .int) (hlk : meth.locks = false) {r : Int32 × ST} {v0 : Nat} {v1 : Nat} {v2 : Int32} {σ : ST} {H : Heap} {locs : List Loc} {ls : Array Slot} (hm : f_X4_lineBehindStep v0 v1 v2 σ = some r) (hv0 : LC.1 v0 = 4) (hv1 : LC.1 v1 = 10) (hw : PH D cy LC b σ s H locs) (hl : lv_has ls 4 [(0, .ref (b + v0)), (1, .ref (b + v1)), (2, .int v2)]) : W p l e (rmD 4) s m args below meth c H locs 0 0 (MQ below (QcP D cy LC b (some (.int r.1)) r.2) args s 0 0 (inP LC b)) (F0 m 0 ls []) := by
  have hx := E.1.1
  have hb := E.1.2.1
  unfold f_X4_lineBehindStep at hm
  refine lv_aload_n hx hb dX4_lineBehindStep_0 rfl (lv_at hl 1 rfl) ?_
  refine q_geta E hw fw_X4_27 rfl hv1 dX4_lineBehindStep_1 ?_
  refine lv_astore_n (lv' := [(3, .ref (b + (LC.2.1 v1 1))), (0, .ref (b + v0)), (1, .ref (b + v1)), (2, .int v2)]) hx hb dX4_lineBehindStep_4 rfl hl (by decide) rfl (fun ls hl => ?_)
  refine lv_aload_n hx hb dX4_lineBehindStep_5 rfl (lv_at hl 0 rfl) ?_
  refine q_geta E hw fw_X4_43 rfl (tC_10_1 hv1) dX4_lineBehindStep_6 ?_
  refine lv_iload_n hx hb dX4_lineBehindStep_9 rfl (lv_at hl 3 rfl) ?_
  refine q_iald E hw (tC_2_0 (tC_10_1 hv1)) hm dX4_lineBehindStep_10 (fun a4 hm => ?_)
  by_cases c5 : a4 = 20
  · refine q_tsw E 20 87 c5 dX4_lineBehindStep_11 (by decide) (by decide) rfl (by decide) ?_
    have hm := o_t c5 hm
    exact w_X4_lineBehindStep_87 E hr hlk hm hv0 hv1 (tC_10_1 hv1) hw (lv_sub hl [1, 2, 3, 0] rfl)
  have hm := o_f c5 hm
  by_cases c6 : a4 = 21
  · refine q_tsw E 21 87 c6 dX4_lineBehindStep_11 (by decide) (by decide) rfl (by decide) ?_
    have hm := o_t c6 hm
    exact w_X4_lineBehindStep_87 E hr hlk hm hv0 hv1 (tC_10_1 hv1) hw (lv_sub hl [1, 2, 3, 0] rfl)
  have hm := o_f c6 hm
  by_cases c7 : a4 = 22
  · refine q_tsw E 22 87 c7 dX4_lineBehindStep_11 (by decide) (by decide) rfl (by decide) ?_
    have hm := o_t c7 hm
    exact w_X4_lineBehindStep_87 E hr hlk hm hv0 hv1 (tC_10_1 hv1) hw (lv_sub hl [1, 2, 3, 0] rfl)
  have hm := o_f c7 hm
  by_cases c8 : a4 = 23
  · refine q_tsw E 23 53 c8 dX4_lineBehindStep_11 (by decide) (by decide) rfl (by decide) ?_
    have hm := o_t c8 hm
    refine lv_aload_n hx hb dX4_lineBehindStep_53 rfl (lv_at hl 1 rfl) ?_
    refine q_geta E hw fw_X4_21 rfl hv0 dX4_lineBehindStep_54 ?_
    refine lv_iload_n hx hb dX4_lineBehindStep_57 rfl (lv_at hl 3 rfl) ?_
    refine lv_aload_n hx hb dX4_lineBehindStep_58 rfl (lv_at hl 0 rfl) ?_
    refine q_geta E hw fw_X4_63 rfl (tC_10_1 hv1) dX4_lineBehindStep_59 ?_
    refine lv_iload_n hx hb dX4_lineBehindStep_62 rfl (lv_at hl 3 rfl) ?_
    refine q_iald E hw (tC_2_3 (tC_10_1 hv1)) hm dX4_lineBehindStep_63 (fun a9 hm => ?_)
    refine q_iast E hw (tC_4_2 hv0) hm dX4_lineBehindStep_64 (fun σ10 H locs hm hw => ?_)
    refine lv_aload_n hx hb dX4_lineBehindStep_65 rfl (lv_at hl 0 rfl) ?_
    refine q_geta E hw fw_X4_60 rfl (tC_10_1 hv1) dX4_lineBehindStep_66 ?_
    refine lv_iload_n hx hb dX4_lineBehindStep_69 rfl (lv_at hl 3 rfl) ?_
    refine q_iald E hw (tC_2_5 (tC_10_1 hv1)) hm dX4_lineBehindStep_70 (fun a11 hm => ?_)
    refine lv_iload_n hx hb dX4_lineBehindStep_71 rfl (lv_at hl 3 rfl) ?_
    refine lv_iconst (v := 1) hx hb dX4_lineBehindStep_72 (by decide) ?_
    refine lv_iadd hx hb dX4_lineBehindStep_73 ?_
    refine lv_icmp_ne (tgt := 83) hx hb dX4_lineBehindStep_74 (by decide) (fun c12 => ?_) (fun c12 => ?_)
    · have hm := o_f c12 hm
      refine lv_iload_n hx hb dX4_lineBehindStep_83 rfl (lv_at hl 3 rfl) ?_
      refine lv_iconst (v := 1) hx hb dX4_lineBehindStep_84 (by decide) ?_
      refine lv_iadd hx hb dX4_lineBehindStep_85 ?_
      exact w_X4_lineBehindStep_86 E hr hlk hm  hw (lv_sub hl [] rfl)
    · have hm := o_t c12 hm
      refine lv_iload_n hx hb dX4_lineBehindStep_77 rfl (lv_at hl 3 rfl) ?_
      refine lv_iconst (v := 2) hx hb dX4_lineBehindStep_78 (by decide) ?_
      refine lv_iadd hx hb dX4_lineBehindStep_79 ?_
      refine lv_goto (tgt := 86) hx hb dX4_lineBehindStep_80 (by decide) ?_
      exact w_X4_lineBehindStep_86 E hr hlk hm  hw (lv_sub hl [] rfl)
  have hm := o_f c8 hm
  by_cases c13 : a4 = 24
  · refine q_tsw E 24 111 c13 dX4_lineBehindStep_11 (by decide) (by decide) rfl (by decide) ?_
    have hm := o_t c13 hm
    exact w_X4_lineBehindStep_111 E hr hlk hm  hw (lv_sub hl [3] rfl)
  have hm := o_f c13 hm
  by_cases c14 : a4 = 25
  · refine q_tsw E 25 48 c14 dX4_lineBehindStep_11 (by decide) (by decide) rfl (by decide) ?_
    have hm := o_t c14 hm
    refine lv_aload_n hx hb dX4_lineBehindStep_48 rfl (lv_at hl 0 rfl) ?_
    refine q_geti E hw fw_X4_40 rfl (tC_10_1 hv1) dX4_lineBehindStep_49 ?_
    exact q_iret E hr hlk hw hm dX4_lineBehindStep_52
  have hm := o_f c14 hm
  have tc5 := lv_neT (a := 20) c5 (by decide)
  have tc6 := lv_neT (a := 21) c6 (by decide)
  have tc7 := lv_neT (a := 22) c7 (by decide)
  have tc8 := lv_neT (a := 23) c8 (by decide)
  have tc13 := lv_neT (a := 24) c13 (by decide)
  have tc14 := lv_neT (a := 25) c14 (by decide)
  refine lv_tableOut (tgt := 111) hx hb dX4_lineBehindStep_11 (by omega) (by decide) ?_
  exact w_X4_lineBehindStep_111 E hr hlk hm  hw (lv_sub hl [3] rfl)
theorem c_X4_lineBehindStep {l : Launch} {D : va_G} {cy : Nat → ClassId} {b : Nat} {v0 : Nat} {v1 : Nat} {v2 : Int32} {σ : ST} {r : Int32 × ST} (hm : f_X4_lineBehindStep v0 v1 v2 σ = some r) (hv0 : LC.1 v0 = 4) (hv1 : LC.1 v1 = 10) : Met l yX4_lineBehindStep (wU yX4_lineBehindStep cX4_lineBehindStep 4 (some .int)) (rmD 4) (PcP D cy LC b [.ref (b + v0), .ref (b + v1), .int v2] σ) (QcP D cy LC b (some (.int r.1)) r.2) 0 0 (inP LC b) :=
  q_met (lv := [(0, .ref (b + v0)), (1, .ref (b + v1)), (2, .int v2)]) LC_ok (by decide) (Nat.le_of_ble_eq_true rfl) rfl (fun _ _ _ _ _ _ _ _ _ E hr hlk hw hl => w_X4_lineBehindStep_0 E hr hlk hm hv0 hv1 hw hl)

def k_X4_run_124 (σ : ST) : Option (ST) :=
  some σ
set_option maxRecDepth 20000 in
set_option maxHeartbeats 1000000 in
theorem w_X4_run_124 {p : Program} {l : Launch} {e : Env} {s : State} {m : MethodId} {args : Array Value} {below : List Frame} {meth : Method} {c : Code} {D : va_G} {cy : Nat → ClassId} {b : Nat} (E : CX p m c cX4_run 7 s args RX4 D cy LC) (hr : meth.sig.returnType = none) (hlk : meth.locks = false) {r : ST} {σ : ST} {H : Heap} {locs : List Loc} {ls : Array Slot} (hm : k_X4_run_124  σ = some r) (hw : PH D cy LC b σ s H locs) (hl : lv_has ls 7 []) : W p l e (rmD 7) s m args below meth c H locs 0 0 (MQ below (QcP D cy LC b none r) args s 0 0 (inP LC b)) (F0 m 124 ls []) := by
  have hx := E.1.1
  have hb := E.1.2.1
  unfold k_X4_run_124 at hm
  exact q_vret E hr hlk hw hm dX4_run_124
def k_X4_run_118 (rec30 : Nat → Nat → Nat → Nat → Int32 → Int32 → ST → Option (ST)) (v0 : Nat) (v1 : Nat) (v3 : Nat) (v4 : Nat) (v5 : Int32) (v6 : Int32) (σ : ST) : Option (ST) :=
  rec30 v0 v1 v3 v4 v5 (v6 + 1) σ
set_option maxRecDepth 20000 in
set_option maxHeartbeats 1000000 in
theorem w_X4_run_118 {p : Program} {l : Launch} {e : Env} {s : State} {m : MethodId} {args : Array Value} {below : List Frame} {meth : Method} {c : Code} {D : va_G} {cy : Nat → ClassId} {b : Nat} (E : CX p m c cX4_run 7 s args RX4 D cy LC) (hr : meth.sig.returnType = none) (hlk : meth.locks = false) {r : ST} {rec30 : Nat → Nat → Nat → Nat → Int32 → Int32 → ST → Option (ST)} (hrec30 : ∀ (v0 : Nat) (v1 : Nat) (v3 : Nat) (v4 : Nat) (v5 : Int32) (v6 : Int32) (σ : ST) (H : Heap) (locs : List Loc) (ls : Array Slot), rec30 v0 v1 v3 v4 v5 v6 σ = some r → LC.1 v0 = 4 → LC.1 v1 = 10 → LC.1 v3 = 0 → LC.1 v4 = 2 → PH D cy LC b σ s H locs → lv_has ls 7 [(0, .ref (b + v0)), (1, .ref (b + v1)), (3, .ref (b + v3)), (4, .ref (b + v4)), (5, .int v5), (6, .int v6)] → W p l e (rmD 7) s m args below meth c H locs 0 0 (MQ below (QcP D cy LC b none r) args s 0 0 (inP LC b)) (F0 m 30 ls [])) {v0 : Nat} {v1 : Nat} {v3 : Nat} {v4 : Nat} {v5 : Int32} {v6 : Int32} {σ : ST} {H : Heap} {locs : List Loc} {ls : Array Slot} (hm : k_X4_run_118 rec30 v0 v1 v3 v4 v5 v6 σ = some r) (hv0 : LC.1 v0 = 4) (hv1 : LC.1 v1 = 10) (hv3 : LC.1 v3 = 0) (hv4 : LC.1 v4 = 2) (hw : PH D cy LC b σ s H locs) (hl : lv_has ls 7 [(0, .ref (b + v0)), (1, .ref (b + v1)), (3, .ref (b + v3)), (4, .ref (b + v4)), (5, .int v5), (6, .int v6)]) : W p l e (rmD 7) s m args below meth c H locs 0 0 (MQ below (QcP D cy LC b none r) args s 0 0 (inP LC b)) (F0 m 118 ls []) := by
  have hx := E.1.1
  have hb := E.1.2.1
  unfold k_X4_run_118 at hm
  refine lv_iinc (v := v6 + 1) (lv' := [(6, .int (v6 + 1)), (0, .ref (b + v0)), (1, .ref (b + v1)), (3, .ref (b + v3)), (4, .ref (b + v4)), (5, .int v5)]) hx hb dX4_run_118 hl (k := 5) rfl rfl (by decide) rfl (fun ls hl => ?_)
  refine lv_goto (tgt := 30) hx hb dX4_run_121 (by decide) ?_
  exact hrec30 _ _ _ _ _ _ _ _ _ _ hm hv0 hv1 hv3 hv4 hw (lv_sub hl [1, 2, 3, 4, 5, 0] rfl)
def k_X4_run_30 : Nat → Nat → Nat → Nat → Nat → Int32 → Int32 → ST → Option (ST)
  | 0, _, _, _, _, _, _, _ => none
  | n + 1, v0, v1, v3, v4, v5, v6, σ => if 100000 ≤ v6 then (k_X4_run_124 σ) else (if (gI σ v4 7) ≤ v5 then (k_X4_run_124 σ) else ((ldA LC σ (LC.2.1 v4 0) v5).bind fun a3 =>
  if a3 = 24 then ((f_X4_lineBehindEnd v0 v4 v5 σ).bind fun u10 =>
  k_X4_run_118 (k_X4_run_30 n) v0 v1 v3 v4 u10.1 v6 u10.2) else (if (gI σ v0 1) < 300 then ((stI σ v0 1 ((gI σ v0 1) + 1)).bind fun σ6 =>
  (f_X4_doStep v0 v1 v5 v3 σ6).bind fun u7 =>
  (f_X4_lineBehindStep v0 v1 v5 u7).bind fun u8 =>
  k_X4_run_118 (k_X4_run_30 n) v0 v1 v3 v4 u8.1 v6 u8.2) else ((stA LC σ (LC.2.1 v0 0) 5 1).bind fun σ9 =>
  some σ9))))
set_option maxRecDepth 20000 in
set_option maxHeartbeats 1000000 in
theorem w_X4_run_30 {p : Program} {l : Launch} {e : Env} {s : State} {m : MethodId} {args : Array Value} {below : List Frame} {meth : Method} {c : Code} {D : va_G} {cy : Nat → ClassId} {b : Nat} (E : CX p m c cX4_run 7 s args RX4 D cy LC) (hr : meth.sig.returnType = none) (hlk : meth.locks = false) {r : ST} : ∀ (n : Nat) (v0 : Nat) (v1 : Nat) (v3 : Nat) (v4 : Nat) (v5 : Int32) (v6 : Int32) (σ : ST) (H : Heap) (locs : List Loc) (ls : Array Slot), k_X4_run_30 n v0 v1 v3 v4 v5 v6 σ = some r → LC.1 v0 = 4 → LC.1 v1 = 10 → LC.1 v3 = 0 → LC.1 v4 = 2 → PH D cy LC b σ s H locs → lv_has ls 7 [(0, .ref (b + v0)), (1, .ref (b + v1)), (3, .ref (b + v3)), (4, .ref (b + v4)), (5, .int v5), (6, .int v6)] → W p l e (rmD 7) s m args below meth c H locs 0 0 (MQ below (QcP D cy LC b none r) args s 0 0 (inP LC b)) (F0 m 30 ls []) := by
  have hx := E.1.1
  have hb := E.1.2.1
  intro n
  induction n with
  | zero =>
    intro v0 v1 v3 v4 v5 v6 σ H locs ls hm
    cases hm
  | succ n ih =>
    intro v0 v1 v3 v4 v5 v6 σ H locs ls hm hv0 hv1 hv3 hv4 hw hl
    rw [k_X4_run_30] at hm
    refine lv_iload hx hb dX4_run_30 (lv_at hl 5 rfl) ?_
    refine lv_ldc hx hb E.1.2.2.2.1 (E.1.2.2.2.2 _ (rL70 _ (List.mem_of_getElem? (i := 1) rfl))) dX4_run_32 ?_
    refine lv_icmp_ge (tgt := 124) hx hb dX4_run_34 (by decide) (fun c1 => ?_) (fun c1 => ?_)
    · have hm := o_t c1 hm
      exact w_X4_run_124 E hr hlk hm  hw (lv_sub hl [] rfl)
    · have hm := o_f c1 hm
      refine lv_iload hx hb dX4_run_37 (lv_at hl 4 rfl) ?_
      refine lv_aload hx hb dX4_run_39 (lv_at hl 3 rfl) ?_
      refine q_geti E hw fw_X4_40 rfl hv4 dX4_run_41 ?_
      refine lv_icmp_ge (tgt := 124) hx hb dX4_run_44 (by decide) (fun c2 => ?_) (fun c2 => ?_)
      · have hm := o_t c2 hm
        exact w_X4_run_124 E hr hlk hm  hw (lv_sub hl [] rfl)
      · have hm := o_f c2 hm
        refine lv_aload hx hb dX4_run_47 (lv_at hl 3 rfl) ?_
        refine q_geta E hw fw_X4_43 rfl hv4 dX4_run_49 ?_
        refine lv_iload hx hb dX4_run_52 (lv_at hl 4 rfl) ?_
        refine q_iald E hw (tC_2_0 hv4) hm dX4_run_54 (fun a3 hm => ?_)
        refine lv_bipush (v := 24) hx hb dX4_run_55 (by decide) ?_
        refine lv_icmp_ne (tgt := 73) hx hb dX4_run_57 (by decide) (fun c4 => ?_) (fun c4 => ?_)
        · have hm := o_f c4 hm
          refine lv_aload_n hx hb dX4_run_73 rfl (lv_at hl 0 rfl) ?_
          refine q_geti E hw fw_X4_15 rfl hv0 dX4_run_74 ?_
          refine lv_sipush (v := 300) hx hb dX4_run_77 (by decide) ?_
          refine lv_icmp_lt (tgt := 91) hx hb dX4_run_80 (by decide) (fun c5 => ?_) (fun c5 => ?_)
          · have hm := o_t c5 hm
            refine lv_aload_n hx hb dX4_run_91 rfl (lv_at hl 0 rfl) ?_
            refine lv_dup hx hb dX4_run_92 rfl ?_
            refine q_geti E hw fw_X4_15 rfl hv0 dX4_run_93 ?_
            refine lv_iconst (v := 1) hx hb dX4_run_96 (by decide) ?_
            refine lv_iadd hx hb dX4_run_97 ?_
            refine q_pi E hw hm fw_X4_15 rfl rfl hv0 dX4_run_98 (fun σ6 H locs hm hw => ?_)
            refine lv_aload_n hx hb dX4_run_101 rfl (lv_at hl 0 rfl) ?_
            refine lv_aload_n hx hb dX4_run_102 rfl (lv_at hl 1 rfl) ?_
            refine lv_iload hx hb dX4_run_103 (lv_at hl 4 rfl) ?_
            refine lv_aload_n hx hb dX4_run_105 rfl (lv_at hl 2 rfl) ?_
            refine q_cVv (κ := 4) (C := RX4) (T := TX4) (N := 4) [] E hw hm mw_X4_52 (fun u hu => c_X4_doStep hu hv0 hv1 hv3) rfl (by decide) hv0 rfl rfl hl.1 (Nat.le_of_ble_eq_true rfl) ⟨Nat.le_of_ble_eq_true rfl, Nat.le_of_ble_eq_true rfl⟩ dX4_run_106 (fun u7 H locs hm hw => ?_)
            refine lv_aload_n hx hb dX4_run_109 rfl (lv_at hl 0 rfl) ?_
            refine lv_aload_n hx hb dX4_run_110 rfl (lv_at hl 1 rfl) ?_
            refine lv_iload hx hb dX4_run_111 (lv_at hl 4 rfl) ?_
            refine q_cVi (κ := 4) (C := RX4) (T := TX4) (N := 4) [] E hw hm mw_X4_56 (fun u hu => c_X4_lineBehindStep hu hv0 hv1) rfl (by decide) hv0 rfl rfl hl.1 (Nat.le_of_ble_eq_true rfl) ⟨Nat.le_of_ble_eq_true rfl, Nat.le_of_ble_eq_true rfl⟩ dX4_run_113 (fun u8 H locs hm hw => ?_)
            refine lv_istore (lv' := [(5, .int u8.1), (0, .ref (b + v0)), (1, .ref (b + v1)), (3, .ref (b + v3)), (4, .ref (b + v4)), (6, .int v6)]) hx hb dX4_run_116 hl (by decide) rfl (fun ls hl => ?_)
            exact w_X4_run_118 E hr hlk ih hm hv0 hv1 hv3 hv4 hw (lv_sub hl [1, 2, 3, 4, 0, 5] rfl)
          · have hm := o_f c5 hm
            refine lv_aload_n hx hb dX4_run_83 rfl (lv_at hl 0 rfl) ?_
            refine q_geta E hw fw_X4_11 rfl hv0 dX4_run_84 ?_
            refine lv_iconst (v := 5) hx hb dX4_run_87 (by decide) ?_
            refine lv_iconst (v := 1) hx hb dX4_run_88 (by decide) ?_
            refine q_iast E hw (tC_4_0 hv0) hm dX4_run_89 (fun σ9 H locs hm hw => ?_)
            exact q_vret E hr hlk hw hm dX4_run_90
        · have hm := o_t c4 hm
          refine lv_aload_n hx hb dX4_run_60 rfl (lv_at hl 0 rfl) ?_
          refine lv_aload hx hb dX4_run_61 (lv_at hl 3 rfl) ?_
          refine lv_iload hx hb dX4_run_63 (lv_at hl 4 rfl) ?_
          refine q_cVi (κ := 4) (C := RX4) (T := TX4) (N := 4) [] E hw hm mw_X4_48 (fun u hu => c_X4_lineBehindEnd hu hv0 hv4) rfl (by decide) hv0 rfl rfl hl.1 (Nat.le_of_ble_eq_true rfl) ⟨Nat.le_of_ble_eq_true rfl, Nat.le_of_ble_eq_true rfl⟩ dX4_run_65 (fun u10 H locs hm hw => ?_)
          refine lv_istore (lv' := [(5, .int u10.1), (0, .ref (b + v0)), (1, .ref (b + v1)), (3, .ref (b + v3)), (4, .ref (b + v4)), (6, .int v6)]) hx hb dX4_run_68 hl (by decide) rfl (fun ls hl => ?_)
          refine lv_goto (tgt := 118) hx hb dX4_run_70 (by decide) ?_
          exact w_X4_run_118 E hr hlk ih hm hv0 hv1 hv3 hv4 hw (lv_sub hl [1, 2, 3, 4, 0, 5] rfl)
def f_X4_run (v0 : Nat) (v1 : Nat) (v2 : Int32) (v3 : Nat) (σ : ST) : Option (ST) :=
  (f_J7_fill_53178 (LC.2.1 v0 0) 0 σ).bind fun u11 =>
  (stI u11 v0 1 0).bind fun σ12 =>
  (stI σ12 v0 3 v2).bind fun σ13 =>
  k_X4_run_30 FU v0 v1 v3 (LC.2.1 v1 1) 0 0 σ13
set_option maxRecDepth 20000 in
set_option maxHeartbeats 1000000 in
theorem w_X4_run_0 {p : Program} {l : Launch} {e : Env} {s : State} {m : MethodId} {args : Array Value} {below : List Frame} {meth : Method} {c : Code} {D : va_G} {cy : Nat → ClassId} {b : Nat} (E : CX p m c cX4_run 7 s args RX4 D cy LC) (hr : meth.sig.returnType = none) (hlk : meth.locks = false) {r : ST} {v0 : Nat} {v1 : Nat} {v2 : Int32} {v3 : Nat} {σ : ST} {H : Heap} {locs : List Loc} {ls : Array Slot} (hm : f_X4_run v0 v1 v2 v3 σ = some r) (hv0 : LC.1 v0 = 4) (hv1 : LC.1 v1 = 10) (hv3 : LC.1 v3 = 0) (hw : PH D cy LC b σ s H locs) (hl : lv_has ls 7 [(0, .ref (b + v0)), (1, .ref (b + v1)), (2, .int v2), (3, .ref (b + v3))]) : W p l e (rmD 7) s m args below meth c H locs 0 0 (MQ below (QcP D cy LC b none r) args s 0 0 (inP LC b)) (F0 m 0 ls []) := by
  have hx := E.1.1
  have hb := E.1.2.1
  unfold f_X4_run at hm
  refine lv_aload_n hx hb dX4_run_0 rfl (lv_at hl 1 rfl) ?_
  refine q_geta E hw fw_X4_27 rfl hv1 dX4_run_1 ?_
  refine lv_astore (lv' := [(4, .ref (b + (LC.2.1 v1 1))), (0, .ref (b + v0)), (1, .ref (b + v1)), (2, .int v2), (3, .ref (b + v3))]) hx hb dX4_run_4 hl (by decide) rfl (fun ls hl => ?_)
  refine lv_aload_n hx hb dX4_run_6 rfl (lv_at hl 1 rfl) ?_
  refine q_geta E hw fw_X4_11 rfl hv0 dX4_run_7 ?_
  refine lv_iconst (v := 0) hx hb dX4_run_10 (by decide) ?_
  refine q_cSv [] E hw hm ms_X4_33 (fun u hu => c_J7_fill_53178 hu (tC_4_0 hv0)) rfl rfl hl.1 (Nat.le_of_ble_eq_true rfl) ⟨Nat.le_of_ble_eq_true rfl, Nat.le_of_ble_eq_true rfl⟩ dX4_run_11 (fun u11 H locs hm hw => ?_)
  refine lv_aload_n hx hb dX4_run_14 rfl (lv_at hl 1 rfl) ?_
  refine lv_iconst (v := 0) hx hb dX4_run_15 (by decide) ?_
  refine q_pi E hw hm fw_X4_15 rfl rfl hv0 dX4_run_16 (fun σ12 H locs hm hw => ?_)
  refine lv_aload_n hx hb dX4_run_19 rfl (lv_at hl 1 rfl) ?_
  refine lv_iload_n hx hb dX4_run_20 rfl (lv_at hl 3 rfl) ?_
  refine q_pi E hw hm fw_X4_24 rfl rfl hv0 dX4_run_21 (fun σ13 H locs hm hw => ?_)
  refine lv_iconst (v := 0) hx hb dX4_run_24 (by decide) ?_
  refine lv_istore (lv' := [(5, .int 0), (4, .ref (b + (LC.2.1 v1 1))), (0, .ref (b + v0)), (1, .ref (b + v1)), (2, .int v2), (3, .ref (b + v3))]) hx hb dX4_run_25 hl (by decide) rfl (fun ls hl => ?_)
  refine lv_iconst (v := 0) hx hb dX4_run_27 (by decide) ?_
  refine lv_istore (lv' := [(6, .int 0), (5, .int 0), (4, .ref (b + (LC.2.1 v1 1))), (0, .ref (b + v0)), (1, .ref (b + v1)), (2, .int v2), (3, .ref (b + v3))]) hx hb dX4_run_28 hl (by decide) rfl (fun ls hl => ?_)
  exact w_X4_run_30 E hr hlk _ _ _ _ _ _ _ _ _ _ _ hm hv0 hv1 hv3 (tC_10_1 hv1) hw (lv_sub hl [3, 4, 6, 2, 1, 0] rfl)
theorem c_X4_run {l : Launch} {D : va_G} {cy : Nat → ClassId} {b : Nat} {v0 : Nat} {v1 : Nat} {v2 : Int32} {v3 : Nat} {σ : ST} {r : ST} (hm : f_X4_run v0 v1 v2 v3 σ = some r) (hv0 : LC.1 v0 = 4) (hv1 : LC.1 v1 = 10) (hv3 : LC.1 v3 = 0) : Met l yX4_run (wU yX4_run cX4_run 7 (none)) (rmD 7) (PcP D cy LC b [.ref (b + v0), .ref (b + v1), .int v2, .ref (b + v3)] σ) (QcP D cy LC b none r) 0 0 (inP LC b) :=
  q_met (lv := [(0, .ref (b + v0)), (1, .ref (b + v1)), (2, .int v2), (3, .ref (b + v3))]) LC_ok (by decide) (Nat.le_of_ble_eq_true rfl) rfl (fun _ _ _ _ _ _ _ _ _ E hr hlk hw hl => w_X4_run_0 E hr hlk hm hv0 hv1 hv3 hw hl)

def k_X5_begin_164 (rec116 : Nat → Int32 → ST → Option (ST)) (v0 : Nat) (v3 : Int32) (s0 : Nat) (s1 : Int32) (s2 : Int32) (σ : ST) : Option (ST) :=
  (stA LC σ s0 s1 (s2 &&& 1)).bind fun σ1 =>
  rec116 v0 (v3 + 1) σ1
set_option maxRecDepth 20000 in
set_option maxHeartbeats 1000000 in
theorem w_X5_begin_164 {p : Program} {l : Launch} {e : Env} {s : State} {m : MethodId} {args : Array Value} {below : List Frame} {meth : Method} {c : Code} {D : va_G} {cy : Nat → ClassId} {b : Nat} (E : CX p m c cX5_begin 4 s args RX5 D cy LC) (hr : meth.sig.returnType = none) (hlk : meth.locks = false) {r : ST} {rec116 : Nat → Int32 → ST → Option (ST)} (hrec116 : ∀ (v0 : Nat) (v3 : Int32) (σ : ST) (H : Heap) (locs : List Loc) (ls : Array Slot), rec116 v0 v3 σ = some r → LC.1 v0 = 5 → PH D cy LC b σ s H locs → lv_has ls 4 [(0, .ref (b + v0)), (3, .int v3)] → W p l e (rmD 4) s m args below meth c H locs 0 0 (MQ below (QcP D cy LC b none r) args s 0 0 (inP LC b)) (F0 m 116 ls [])) {v0 : Nat} {v3 : Int32} {s0 : Nat} {s1 : Int32} {s2 : Int32} {σ : ST} {H : Heap} {locs : List Loc} {ls : Array Slot} (hm : k_X5_begin_164 rec116 v0 v3 s0 s1 s2 σ = some r) (hv0 : LC.1 v0 = 5) (hs0 : LC.1 s0 = 16) (hw : PH D cy LC b σ s H locs) (hl : lv_has ls 4 [(0, .ref (b + v0)), (3, .int v3)]) : W p l e (rmD 4) s m args below meth c H locs 0 0 (MQ below (QcP D cy LC b none r) args s 0 0 (inP LC b)) (F0 m 164 ls [.int s2, .int s1, .ref (b + s0)]) := by
  have hx := E.1.1
  have hb := E.1.2.1
  unfold k_X5_begin_164 at hm
  refine q_zast E hw hs0 hm dX5_begin_164 (fun σ1 H locs hm hw => ?_)
  refine lv_iinc (v := v3 + 1) (lv' := [(3, .int (v3 + 1)), (0, .ref (b + v0))]) hx hb dX5_begin_165 hl (k := 1) rfl rfl (by decide) rfl (fun ls hl => ?_)
  refine lv_goto (tgt := 116) hx hb dX5_begin_168 (by decide) ?_
  exact hrec116 _ _ _ _ _ _ hm hv0 hw (lv_sub hl [1, 0] rfl)
def k_X5_begin_163 (rec116 : Nat → Int32 → ST → Option (ST)) (v0 : Nat) (v3 : Int32) (s0 : Nat) (s1 : Int32) (σ : ST) : Option (ST) :=
  k_X5_begin_164 rec116 v0 v3 s0 s1 0 σ
set_option maxRecDepth 20000 in
set_option maxHeartbeats 1000000 in
theorem w_X5_begin_163 {p : Program} {l : Launch} {e : Env} {s : State} {m : MethodId} {args : Array Value} {below : List Frame} {meth : Method} {c : Code} {D : va_G} {cy : Nat → ClassId} {b : Nat} (E : CX p m c cX5_begin 4 s args RX5 D cy LC) (hr : meth.sig.returnType = none) (hlk : meth.locks = false) {r : ST} {rec116 : Nat → Int32 → ST → Option (ST)} (hrec116 : ∀ (v0 : Nat) (v3 : Int32) (σ : ST) (H : Heap) (locs : List Loc) (ls : Array Slot), rec116 v0 v3 σ = some r → LC.1 v0 = 5 → PH D cy LC b σ s H locs → lv_has ls 4 [(0, .ref (b + v0)), (3, .int v3)] → W p l e (rmD 4) s m args below meth c H locs 0 0 (MQ below (QcP D cy LC b none r) args s 0 0 (inP LC b)) (F0 m 116 ls [])) {v0 : Nat} {v3 : Int32} {s0 : Nat} {s1 : Int32} {σ : ST} {H : Heap} {locs : List Loc} {ls : Array Slot} (hm : k_X5_begin_163 rec116 v0 v3 s0 s1 σ = some r) (hv0 : LC.1 v0 = 5) (hs0 : LC.1 s0 = 16) (hw : PH D cy LC b σ s H locs) (hl : lv_has ls 4 [(0, .ref (b + v0)), (3, .int v3)]) : W p l e (rmD 4) s m args below meth c H locs 0 0 (MQ below (QcP D cy LC b none r) args s 0 0 (inP LC b)) (F0 m 163 ls [.int s1, .ref (b + s0)]) := by
  have hx := E.1.1
  have hb := E.1.2.1
  unfold k_X5_begin_163 at hm
  refine lv_iconst (v := 0) hx hb dX5_begin_163 (by decide) ?_
  exact w_X5_begin_164 E hr hlk hrec116 hm hv0 hs0 hw (lv_sub hl [0, 1] rfl)
def k_X5_begin_116 : Nat → Nat → Int32 → ST → Option (ST)
  | 0, _, _, _ => none
  | n + 1, v0, v3, σ => if (gI σ v0 5) < v3 then (some σ) else (if (v3 &&& ((gI σ v0 5) ^^^ (-1))) = 0 then ((f_X0_isSame (LC.2.1 v0 0) v3 (LC.2.1 v0 0) (gI σ v0 5) σ).bind fun u4 =>
  if u4.1 = 0 then (k_X5_begin_163 (k_X5_begin_116 n) v0 v3 (LC.2.1 v0 1) v3 u4.2) else (k_X5_begin_164 (k_X5_begin_116 n) v0 v3 (LC.2.1 v0 1) v3 1 u4.2)) else (k_X5_begin_163 (k_X5_begin_116 n) v0 v3 (LC.2.1 v0 1) v3 σ))
set_option maxRecDepth 20000 in
set_option maxHeartbeats 1000000 in
theorem w_X5_begin_116 {p : Program} {l : Launch} {e : Env} {s : State} {m : MethodId} {args : Array Value} {below : List Frame} {meth : Method} {c : Code} {D : va_G} {cy : Nat → ClassId} {b : Nat} (E : CX p m c cX5_begin 4 s args RX5 D cy LC) (hr : meth.sig.returnType = none) (hlk : meth.locks = false) {r : ST} : ∀ (n : Nat) (v0 : Nat) (v3 : Int32) (σ : ST) (H : Heap) (locs : List Loc) (ls : Array Slot), k_X5_begin_116 n v0 v3 σ = some r → LC.1 v0 = 5 → PH D cy LC b σ s H locs → lv_has ls 4 [(0, .ref (b + v0)), (3, .int v3)] → W p l e (rmD 4) s m args below meth c H locs 0 0 (MQ below (QcP D cy LC b none r) args s 0 0 (inP LC b)) (F0 m 116 ls []) := by
  have hx := E.1.1
  have hb := E.1.2.1
  intro n
  induction n with
  | zero =>
    intro v0 v3 σ H locs ls hm
    cases hm
  | succ n ih =>
    intro v0 v3 σ H locs ls hm hv0 hw hl
    rw [k_X5_begin_116] at hm
    refine lv_iload_n hx hb dX5_begin_116 rfl (lv_at hl 1 rfl) ?_
    refine lv_aload_n hx hb dX5_begin_117 rfl (lv_at hl 0 rfl) ?_
    refine q_geti E hw fw_X5_35 rfl hv0 dX5_begin_118 ?_
    refine lv_icmp_gt (tgt := 171) hx hb dX5_begin_121 (by decide) (fun c2 => ?_) (fun c2 => ?_)
    · have hm := o_t c2 hm
      exact q_vret E hr hlk hw hm dX5_begin_171
    · have hm := o_f c2 hm
      refine lv_aload_n hx hb dX5_begin_124 rfl (lv_at hl 0 rfl) ?_
      refine q_geta E hw fw_X5_20 rfl hv0 dX5_begin_125 ?_
      refine lv_iload_n hx hb dX5_begin_128 rfl (lv_at hl 1 rfl) ?_
      refine lv_iload_n hx hb dX5_begin_129 rfl (lv_at hl 1 rfl) ?_
      refine lv_aload_n hx hb dX5_begin_130 rfl (lv_at hl 0 rfl) ?_
      refine q_geti E hw fw_X5_35 rfl hv0 dX5_begin_131 ?_
      refine lv_iconst (v := (-1)) hx hb dX5_begin_134 (by decide) ?_
      refine lv_ixor hx hb dX5_begin_135 ?_
      refine lv_iand hx hb dX5_begin_136 ?_
      refine lv_if_ne (tgt := 163) hx hb dX5_begin_137 (by decide) (fun c3 => ?_) (fun c3 => ?_)
      · have hm := o_f c3 hm
        exact w_X5_begin_163 E hr hlk ih hm hv0 (tC_5_1 hv0) hw (lv_sub hl [0, 1] rfl)
      · have hm := o_t c3 hm
        refine lv_aload_n hx hb dX5_begin_140 rfl (lv_at hl 0 rfl) ?_
        refine q_geta E hw fw_X5_16 rfl hv0 dX5_begin_141 ?_
        refine lv_iload_n hx hb dX5_begin_144 rfl (lv_at hl 1 rfl) ?_
        refine lv_aload_n hx hb dX5_begin_145 rfl (lv_at hl 0 rfl) ?_
        refine q_geta E hw fw_X5_16 rfl hv0 dX5_begin_146 ?_
        refine lv_aload_n hx hb dX5_begin_149 rfl (lv_at hl 0 rfl) ?_
        refine q_geti E hw fw_X5_35 rfl hv0 dX5_begin_150 ?_
        refine q_cVi (κ := 0) (C := RX0) (T := TX0) (N := 2) [.int v3, .ref (b + (LC.2.1 v0 1))] E hw hm mw_X5_65 (fun u hu => c_X0_isSame hu (tC_5_0 hv0) (tC_5_0 hv0)) rfl (by decide) (tC_5_0 hv0) rfl rfl hl.1 (Nat.le_of_ble_eq_true rfl) ⟨Nat.le_of_ble_eq_true rfl, Nat.le_of_ble_eq_true rfl⟩ dX5_begin_153 (fun u4 H locs hm hw => ?_)
        refine lv_if_eq (tgt := 163) hx hb dX5_begin_156 (by decide) (fun c5 => ?_) (fun c5 => ?_)
        · have hm := o_t c5 hm
          exact w_X5_begin_163 E hr hlk ih hm hv0 (tC_5_1 hv0) hw (lv_sub hl [0, 1] rfl)
        · have hm := o_f c5 hm
          refine lv_iconst (v := 1) hx hb dX5_begin_159 (by decide) ?_
          refine lv_goto (tgt := 164) hx hb dX5_begin_160 (by decide) ?_
          exact w_X5_begin_164 E hr hlk ih hm hv0 (tC_5_1 hv0) hw (lv_sub hl [0, 1] rfl)
def k_X5_begin_108 (rec78 : Nat → Nat → Int32 → Int32 → ST → Option (ST)) (v0 : Nat) (v1 : Nat) (v2 : Int32) (v3 : Int32) (σ : ST) : Option (ST) :=
  rec78 v0 v1 v2 (v3 + 1) σ
set_option maxRecDepth 20000 in
set_option maxHeartbeats 1000000 in
theorem w_X5_begin_108 {p : Program} {l : Launch} {e : Env} {s : State} {m : MethodId} {args : Array Value} {below : List Frame} {meth : Method} {c : Code} {D : va_G} {cy : Nat → ClassId} {b : Nat} (E : CX p m c cX5_begin 4 s args RX5 D cy LC) (hr : meth.sig.returnType = none) (hlk : meth.locks = false) {r : ST} {rec78 : Nat → Nat → Int32 → Int32 → ST → Option (ST)} (hrec78 : ∀ (v0 : Nat) (v1 : Nat) (v2 : Int32) (v3 : Int32) (σ : ST) (H : Heap) (locs : List Loc) (ls : Array Slot), rec78 v0 v1 v2 v3 σ = some r → LC.1 v0 = 5 → LC.1 v1 = 10 → PH D cy LC b σ s H locs → lv_has ls 4 [(0, .ref (b + v0)), (1, .ref (b + v1)), (2, .int v2), (3, .int v3)] → W p l e (rmD 4) s m args below meth c H locs 0 0 (MQ below (QcP D cy LC b none r) args s 0 0 (inP LC b)) (F0 m 78 ls [])) {v0 : Nat} {v1 : Nat} {v2 : Int32} {v3 : Int32} {σ : ST} {H : Heap} {locs : List Loc} {ls : Array Slot} (hm : k_X5_begin_108 rec78 v0 v1 v2 v3 σ = some r) (hv0 : LC.1 v0 = 5) (hv1 : LC.1 v1 = 10) (hw : PH D cy LC b σ s H locs) (hl : lv_has ls 4 [(0, .ref (b + v0)), (1, .ref (b + v1)), (2, .int v2), (3, .int v3)]) : W p l e (rmD 4) s m args below meth c H locs 0 0 (MQ below (QcP D cy LC b none r) args s 0 0 (inP LC b)) (F0 m 108 ls []) := by
  have hx := E.1.1
  have hb := E.1.2.1
  unfold k_X5_begin_108 at hm
  refine lv_iinc (v := v3 + 1) (lv' := [(3, .int (v3 + 1)), (0, .ref (b + v0)), (1, .ref (b + v1)), (2, .int v2)]) hx hb dX5_begin_108 hl (k := 3) rfl rfl (by decide) rfl (fun ls hl => ?_)
  refine lv_goto (tgt := 78) hx hb dX5_begin_111 (by decide) ?_
  exact hrec78 _ _ _ _ _ _ _ _ hm hv0 hv1 hw (lv_sub hl [1, 2, 3, 0] rfl)
def k_X5_begin_78 : Nat → Nat → Nat → Int32 → Int32 → ST → Option (ST)
  | 0, _, _, _, _, _ => none
  | n + 1, v0, v1, v2, v3, σ => if (gI σ v0 5) < v3 then (k_X5_begin_116 FU v0 0 σ) else (if (v3 &&& ((gI σ v0 5) ^^^ (-1))) = 0 then ((f_X10_joinSet v1 v3 v2 (LC.2.1 v0 0) v3 σ).bind fun u8 =>
  k_X5_begin_108 (k_X5_begin_78 n) v0 v1 v2 v3 u8) else (k_X5_begin_108 (k_X5_begin_78 n) v0 v1 v2 v3 σ))
set_option maxRecDepth 20000 in
set_option maxHeartbeats 1000000 in
theorem w_X5_begin_78 {p : Program} {l : Launch} {e : Env} {s : State} {m : MethodId} {args : Array Value} {below : List Frame} {meth : Method} {c : Code} {D : va_G} {cy : Nat → ClassId} {b : Nat} (E : CX p m c cX5_begin 4 s args RX5 D cy LC) (hr : meth.sig.returnType = none) (hlk : meth.locks = false) {r : ST} : ∀ (n : Nat) (v0 : Nat) (v1 : Nat) (v2 : Int32) (v3 : Int32) (σ : ST) (H : Heap) (locs : List Loc) (ls : Array Slot), k_X5_begin_78 n v0 v1 v2 v3 σ = some r → LC.1 v0 = 5 → LC.1 v1 = 10 → PH D cy LC b σ s H locs → lv_has ls 4 [(0, .ref (b + v0)), (1, .ref (b + v1)), (2, .int v2), (3, .int v3)] → W p l e (rmD 4) s m args below meth c H locs 0 0 (MQ below (QcP D cy LC b none r) args s 0 0 (inP LC b)) (F0 m 78 ls []) := by
  have hx := E.1.1
  have hb := E.1.2.1
  intro n
  induction n with
  | zero =>
    intro v0 v1 v2 v3 σ H locs ls hm
    cases hm
  | succ n ih =>
    intro v0 v1 v2 v3 σ H locs ls hm hv0 hv1 hw hl
    rw [k_X5_begin_78] at hm
    refine lv_iload_n hx hb dX5_begin_78 rfl (lv_at hl 3 rfl) ?_
    refine lv_aload_n hx hb dX5_begin_79 rfl (lv_at hl 0 rfl) ?_
    refine q_geti E hw fw_X5_35 rfl hv0 dX5_begin_80 ?_
    refine lv_icmp_gt (tgt := 114) hx hb dX5_begin_83 (by decide) (fun c6 => ?_) (fun c6 => ?_)
    · have hm := o_t c6 hm
      refine lv_iconst (v := 0) hx hb dX5_begin_114 (by decide) ?_
      refine lv_istore_n (lv' := [(3, .int 0), (0, .ref (b + v0)), (1, .ref (b + v1)), (2, .int v2)]) hx hb dX5_begin_115 rfl hl (by decide) rfl (fun ls hl => ?_)
      exact w_X5_begin_116 E hr hlk _ _ _ _ _ _ _ hm hv0 hw (lv_sub hl [1, 0] rfl)
    · have hm := o_f c6 hm
      refine lv_iload_n hx hb dX5_begin_86 rfl (lv_at hl 3 rfl) ?_
      refine lv_aload_n hx hb dX5_begin_87 rfl (lv_at hl 0 rfl) ?_
      refine q_geti E hw fw_X5_35 rfl hv0 dX5_begin_88 ?_
      refine lv_iconst (v := (-1)) hx hb dX5_begin_91 (by decide) ?_
      refine lv_ixor hx hb dX5_begin_92 ?_
      refine lv_iand hx hb dX5_begin_93 ?_
      refine lv_if_ne (tgt := 108) hx hb dX5_begin_94 (by decide) (fun c7 => ?_) (fun c7 => ?_)
      · have hm := o_f c7 hm
        exact w_X5_begin_108 E hr hlk ih hm hv0 hv1 hw (lv_sub hl [0, 1, 2, 3] rfl)
      · have hm := o_t c7 hm
        refine lv_aload_n hx hb dX5_begin_97 rfl (lv_at hl 1 rfl) ?_
        refine lv_iload_n hx hb dX5_begin_98 rfl (lv_at hl 3 rfl) ?_
        refine lv_iload_n hx hb dX5_begin_99 rfl (lv_at hl 2 rfl) ?_
        refine lv_aload_n hx hb dX5_begin_100 rfl (lv_at hl 0 rfl) ?_
        refine q_geta E hw fw_X5_16 rfl hv0 dX5_begin_101 ?_
        refine lv_iload_n hx hb dX5_begin_104 rfl (lv_at hl 3 rfl) ?_
        refine q_cVv (κ := 10) (C := RX10) (T := TX10) (N := 12) [] E hw hm mw_X5_61 (fun u hu => c_X10_joinSet hu hv1 (tC_5_0 hv0)) rfl (by decide) hv1 rfl rfl hl.1 (Nat.le_of_ble_eq_true rfl) ⟨Nat.le_of_ble_eq_true rfl, Nat.le_of_ble_eq_true rfl⟩ dX5_begin_105 (fun u8 H locs hm hw => ?_)
        exact w_X5_begin_108 E hr hlk ih hm hv0 hv1 hw (lv_sub hl [0, 1, 2, 3] rfl)
def k_X5_begin_69 (rec26 : Nat → Nat → Int32 → Int32 → ST → Option (ST)) (v0 : Nat) (v1 : Nat) (v2 : Int32) (v3 : Int32) (s0 : Nat) (s1 : Int32) (s2 : Int32) (σ : ST) : Option (ST) :=
  (stA LC σ s0 s1 s2).bind fun σ9 =>
  rec26 v0 v1 v2 (v3 + 1) σ9
set_option maxRecDepth 20000 in
set_option maxHeartbeats 1000000 in
theorem w_X5_begin_69 {p : Program} {l : Launch} {e : Env} {s : State} {m : MethodId} {args : Array Value} {below : List Frame} {meth : Method} {c : Code} {D : va_G} {cy : Nat → ClassId} {b : Nat} (E : CX p m c cX5_begin 4 s args RX5 D cy LC) (hr : meth.sig.returnType = none) (hlk : meth.locks = false) {r : ST} {rec26 : Nat → Nat → Int32 → Int32 → ST → Option (ST)} (hrec26 : ∀ (v0 : Nat) (v1 : Nat) (v2 : Int32) (v3 : Int32) (σ : ST) (H : Heap) (locs : List Loc) (ls : Array Slot), rec26 v0 v1 v2 v3 σ = some r → LC.1 v0 = 5 → LC.1 v1 = 10 → PH D cy LC b σ s H locs → lv_has ls 4 [(0, .ref (b + v0)), (1, .ref (b + v1)), (2, .int v2), (3, .int v3)] → W p l e (rmD 4) s m args below meth c H locs 0 0 (MQ below (QcP D cy LC b none r) args s 0 0 (inP LC b)) (F0 m 26 ls [])) {v0 : Nat} {v1 : Nat} {v2 : Int32} {v3 : Int32} {s0 : Nat} {s1 : Int32} {s2 : Int32} {σ : ST} {H : Heap} {locs : List Loc} {ls : Array Slot} (hm : k_X5_begin_69 rec26 v0 v1 v2 v3 s0 s1 s2 σ = some r) (hv0 : LC.1 v0 = 5) (hv1 : LC.1 v1 = 10) (hs0 : LC.1 s0 = 13) (hw : PH D cy LC b σ s H locs) (hl : lv_has ls 4 [(0, .ref (b + v0)), (1, .ref (b + v1)), (2, .int v2), (3, .int v3)]) : W p l e (rmD 4) s m args below meth c H locs 0 0 (MQ below (QcP D cy LC b none r) args s 0 0 (inP LC b)) (F0 m 69 ls [.int s2, .int s1, .ref (b + s0)]) := by
  have hx := E.1.1
  have hb := E.1.2.1
  unfold k_X5_begin_69 at hm
  refine q_iast E hw hs0 hm dX5_begin_69 (fun σ9 H locs hm hw => ?_)
  refine lv_iinc (v := v3 + 1) (lv' := [(3, .int (v3 + 1)), (0, .ref (b + v0)), (1, .ref (b + v1)), (2, .int v2)]) hx hb dX5_begin_70 hl (k := 3) rfl rfl (by decide) rfl (fun ls hl => ?_)
  refine lv_goto (tgt := 26) hx hb dX5_begin_73 (by decide) ?_
  exact hrec26 _ _ _ _ _ _ _ _ hm hv0 hv1 hw (lv_sub hl [1, 2, 3, 0] rfl)
def k_X5_begin_26 : Nat → Nat → Nat → Int32 → Int32 → ST → Option (ST)
  | 0, _, _, _, _, _ => none
  | n + 1, v0, v1, v2, v3, σ => if (gI σ v0 4) ≤ v3 then (k_X5_begin_78 FU v0 v1 v2 0 σ) else ((stA LC σ (LC.2.1 v0 2) v3 (1 <<< (v3 &&& 31))).bind fun σ11 =>
  if (((gI σ11 v0 5) >>> (v3 &&& 31)) &&& 1) = 0 then (k_X5_begin_69 (k_X5_begin_26 n) v0 v1 v2 v3 (LC.2.1 v0 3) v3 0 σ11) else ((f_X10_placesReached v1 v2 v3 σ11).bind fun u13 =>
  k_X5_begin_69 (k_X5_begin_26 n) v0 v1 v2 v3 (LC.2.1 v0 3) v3 u13.1 u13.2))
set_option maxRecDepth 20000 in
set_option maxHeartbeats 1000000 in
theorem w_X5_begin_26 {p : Program} {l : Launch} {e : Env} {s : State} {m : MethodId} {args : Array Value} {below : List Frame} {meth : Method} {c : Code} {D : va_G} {cy : Nat → ClassId} {b : Nat} (E : CX p m c cX5_begin 4 s args RX5 D cy LC) (hr : meth.sig.returnType = none) (hlk : meth.locks = false) {r : ST} : ∀ (n : Nat) (v0 : Nat) (v1 : Nat) (v2 : Int32) (v3 : Int32) (σ : ST) (H : Heap) (locs : List Loc) (ls : Array Slot), k_X5_begin_26 n v0 v1 v2 v3 σ = some r → LC.1 v0 = 5 → LC.1 v1 = 10 → PH D cy LC b σ s H locs → lv_has ls 4 [(0, .ref (b + v0)), (1, .ref (b + v1)), (2, .int v2), (3, .int v3)] → W p l e (rmD 4) s m args below meth c H locs 0 0 (MQ below (QcP D cy LC b none r) args s 0 0 (inP LC b)) (F0 m 26 ls []) := by
  have hx := E.1.1
  have hb := E.1.2.1
  intro n
  induction n with
  | zero =>
    intro v0 v1 v2 v3 σ H locs ls hm
    cases hm
  | succ n ih =>
    intro v0 v1 v2 v3 σ H locs ls hm hv0 hv1 hw hl
    rw [k_X5_begin_26] at hm
    refine lv_iload_n hx hb dX5_begin_26 rfl (lv_at hl 3 rfl) ?_
    refine lv_aload_n hx hb dX5_begin_27 rfl (lv_at hl 0 rfl) ?_
    refine q_geti E hw fw_X5_31 rfl hv0 dX5_begin_28 ?_
    refine lv_icmp_ge (tgt := 76) hx hb dX5_begin_31 (by decide) (fun c10 => ?_) (fun c10 => ?_)
    · have hm := o_t c10 hm
      refine lv_iconst (v := 0) hx hb dX5_begin_76 (by decide) ?_
      refine lv_istore_n (lv' := [(3, .int 0), (0, .ref (b + v0)), (1, .ref (b + v1)), (2, .int v2)]) hx hb dX5_begin_77 rfl hl (by decide) rfl (fun ls hl => ?_)
      exact w_X5_begin_78 E hr hlk _ _ _ _ _ _ _ _ _ hm hv0 hv1 hw (lv_sub hl [1, 2, 3, 0] rfl)
    · have hm := o_f c10 hm
      refine lv_aload_n hx hb dX5_begin_34 rfl (lv_at hl 0 rfl) ?_
      refine q_geta E hw fw_X5_24 rfl hv0 dX5_begin_35 ?_
      refine lv_iload_n hx hb dX5_begin_38 rfl (lv_at hl 3 rfl) ?_
      refine lv_iconst (v := 1) hx hb dX5_begin_39 (by decide) ?_
      refine lv_iload_n hx hb dX5_begin_40 rfl (lv_at hl 3 rfl) ?_
      refine lv_ishl hx hb dX5_begin_41 ?_
      refine q_iast E hw (tC_5_2 hv0) hm dX5_begin_42 (fun σ11 H locs hm hw => ?_)
      refine lv_aload_n hx hb dX5_begin_43 rfl (lv_at hl 0 rfl) ?_
      refine q_geta E hw fw_X5_28 rfl hv0 dX5_begin_44 ?_
      refine lv_iload_n hx hb dX5_begin_47 rfl (lv_at hl 3 rfl) ?_
      refine lv_aload_n hx hb dX5_begin_48 rfl (lv_at hl 0 rfl) ?_
      refine q_geti E hw fw_X5_35 rfl hv0 dX5_begin_49 ?_
      refine lv_iload_n hx hb dX5_begin_52 rfl (lv_at hl 3 rfl) ?_
      refine lv_ishr hx hb dX5_begin_53 ?_
      refine lv_iconst (v := 1) hx hb dX5_begin_54 (by decide) ?_
      refine lv_iand hx hb dX5_begin_55 ?_
      refine lv_if_eq (tgt := 68) hx hb dX5_begin_56 (by decide) (fun c12 => ?_) (fun c12 => ?_)
      · have hm := o_t c12 hm
        refine lv_iconst (v := 0) hx hb dX5_begin_68 (by decide) ?_
        exact w_X5_begin_69 E hr hlk ih hm hv0 hv1 (tC_5_3 hv0) hw (lv_sub hl [0, 1, 2, 3] rfl)
      · have hm := o_f c12 hm
        refine lv_aload_n hx hb dX5_begin_59 rfl (lv_at hl 1 rfl) ?_
        refine lv_iload_n hx hb dX5_begin_60 rfl (lv_at hl 2 rfl) ?_
        refine lv_iload_n hx hb dX5_begin_61 rfl (lv_at hl 3 rfl) ?_
        refine q_cVi (κ := 10) (C := RX10) (T := TX10) (N := 12) [.int v3, .ref (b + (LC.2.1 v0 3))] E hw hm mw_X5_57 (fun u hu => c_X10_placesReached hu hv1) rfl (by decide) hv1 rfl rfl hl.1 (Nat.le_of_ble_eq_true rfl) ⟨Nat.le_of_ble_eq_true rfl, Nat.le_of_ble_eq_true rfl⟩ dX5_begin_62 (fun u13 H locs hm hw => ?_)
        refine lv_goto (tgt := 69) hx hb dX5_begin_65 (by decide) ?_
        exact w_X5_begin_69 E hr hlk ih hm hv0 hv1 (tC_5_3 hv0) hw (lv_sub hl [0, 1, 2, 3] rfl)
def f_X5_begin (v0 : Nat) (v1 : Nat) (v2 : Int32) (σ : ST) : Option (ST) :=
  (stI σ v0 4 (gI σ (LC.2.1 v1 0) 6)).bind fun σ14 =>
  (ldA LC σ14 (LC.2.1 (LC.2.1 v1 0) 5) v2).bind fun a15 =>
  (stI σ14 v0 5 a15).bind fun σ16 =>
  k_X5_begin_26 FU v0 v1 v2 0 σ16
set_option maxRecDepth 20000 in
set_option maxHeartbeats 1000000 in
theorem w_X5_begin_0 {p : Program} {l : Launch} {e : Env} {s : State} {m : MethodId} {args : Array Value} {below : List Frame} {meth : Method} {c : Code} {D : va_G} {cy : Nat → ClassId} {b : Nat} (E : CX p m c cX5_begin 4 s args RX5 D cy LC) (hr : meth.sig.returnType = none) (hlk : meth.locks = false) {r : ST} {v0 : Nat} {v1 : Nat} {v2 : Int32} {σ : ST} {H : Heap} {locs : List Loc} {ls : Array Slot} (hm : f_X5_begin v0 v1 v2 σ = some r) (hv0 : LC.1 v0 = 5) (hv1 : LC.1 v1 = 10) (hw : PH D cy LC b σ s H locs) (hl : lv_has ls 4 [(0, .ref (b + v0)), (1, .ref (b + v1)), (2, .int v2)]) : W p l e (rmD 4) s m args below meth c H locs 0 0 (MQ below (QcP D cy LC b none r) args s 0 0 (inP LC b)) (F0 m 0 ls []) := by
  have hx := E.1.1
  have hb := E.1.2.1
  unfold f_X5_begin at hm
  refine lv_aload_n hx hb dX5_begin_0 rfl (lv_at hl 0 rfl) ?_
  refine lv_aload_n hx hb dX5_begin_1 rfl (lv_at hl 1 rfl) ?_
  refine q_geta E hw fw_X5_46 rfl hv1 dX5_begin_2 ?_
  refine q_geti E hw fw_X5_52 rfl (tC_10_0 hv1) dX5_begin_5 ?_
  refine q_pi E hw hm fw_X5_31 rfl rfl hv0 dX5_begin_8 (fun σ14 H locs hm hw => ?_)
  refine lv_aload_n hx hb dX5_begin_11 rfl (lv_at hl 0 rfl) ?_
  refine lv_aload_n hx hb dX5_begin_12 rfl (lv_at hl 1 rfl) ?_
  refine q_geta E hw fw_X5_46 rfl hv1 dX5_begin_13 ?_
  refine q_geta E hw fw_X5_55 rfl (tC_10_0 hv1) dX5_begin_16 ?_
  refine lv_iload_n hx hb dX5_begin_19 rfl (lv_at hl 2 rfl) ?_
  refine q_iald E hw (tC_7_5 (tC_10_0 hv1)) hm dX5_begin_20 (fun a15 hm => ?_)
  refine q_pi E hw hm fw_X5_35 rfl rfl hv0 dX5_begin_21 (fun σ16 H locs hm hw => ?_)
  refine lv_iconst (v := 0) hx hb dX5_begin_24 (by decide) ?_
  refine lv_istore_n (lv' := [(3, .int 0), (0, .ref (b + v0)), (1, .ref (b + v1)), (2, .int v2)]) hx hb dX5_begin_25 rfl hl (by decide) rfl (fun ls hl => ?_)
  exact w_X5_begin_26 E hr hlk _ _ _ _ _ _ _ _ _ hm hv0 hv1 hw (lv_sub hl [1, 2, 3, 0] rfl)
theorem c_X5_begin {l : Launch} {D : va_G} {cy : Nat → ClassId} {b : Nat} {v0 : Nat} {v1 : Nat} {v2 : Int32} {σ : ST} {r : ST} (hm : f_X5_begin v0 v1 v2 σ = some r) (hv0 : LC.1 v0 = 5) (hv1 : LC.1 v1 = 10) : Met l yX5_begin (wU yX5_begin cX5_begin 4 (none)) (rmD 4) (PcP D cy LC b [.ref (b + v0), .ref (b + v1), .int v2] σ) (QcP D cy LC b none r) 0 0 (inP LC b) :=
  q_met (lv := [(0, .ref (b + v0)), (1, .ref (b + v1)), (2, .int v2)]) LC_ok (by decide) (Nat.le_of_ble_eq_true rfl) rfl (fun _ _ _ _ _ _ _ _ _ E hr hlk hw hl => w_X5_begin_0 E hr hlk hm hv0 hv1 hw hl)

def k_X5_isOfUse_33 (s0 : Int32) (σ : ST) : Option (Int32 × ST) :=
  (ckZ s0).bind fun z => some (z, σ)
set_option maxRecDepth 20000 in
set_option maxHeartbeats 1000000 in
theorem w_X5_isOfUse_33 {p : Program} {l : Launch} {e : Env} {s : State} {m : MethodId} {args : Array Value} {below : List Frame} {meth : Method} {c : Code} {D : va_G} {cy : Nat → ClassId} {b : Nat} (E : CX p m c cX5_isOfUse 3 s args RX5 D cy LC) (hr : meth.sig.returnType = some .boolean) (hlk : meth.locks = false) {r : Int32 × ST} {s0 : Int32} {σ : ST} {H : Heap} {locs : List Loc} {ls : Array Slot} (hm : k_X5_isOfUse_33 s0 σ = some r) (hw : PH D cy LC b σ s H locs) (hl : lv_has ls 3 []) : W p l e (rmD 0) s m args below meth c H locs 0 0 (MQ below (QcP D cy LC b (some (.int r.1)) r.2) args s 0 0 (inP LC b)) (F0 m 33 ls [.int s0]) := by
  have hx := E.1.1
  have hb := E.1.2.1
  unfold k_X5_isOfUse_33 at hm
  exact q_zret E hr hlk hw hm dX5_isOfUse_33
def k_X5_isOfUse_32 (σ : ST) : Option (Int32 × ST) :=
  k_X5_isOfUse_33 0 σ
set_option maxRecDepth 20000 in
set_option maxHeartbeats 1000000 in
theorem w_X5_isOfUse_32 {p : Program} {l : Launch} {e : Env} {s : State} {m : MethodId} {args : Array Value} {below : List Frame} {meth : Method} {c : Code} {D : va_G} {cy : Nat → ClassId} {b : Nat} (E : CX p m c cX5_isOfUse 3 s args RX5 D cy LC) (hr : meth.sig.returnType = some .boolean) (hlk : meth.locks = false) {r : Int32 × ST} {σ : ST} {H : Heap} {locs : List Loc} {ls : Array Slot} (hm : k_X5_isOfUse_32  σ = some r) (hw : PH D cy LC b σ s H locs) (hl : lv_has ls 3 []) : W p l e (rmD 0) s m args below meth c H locs 0 0 (MQ below (QcP D cy LC b (some (.int r.1)) r.2) args s 0 0 (inP LC b)) (F0 m 32 ls []) := by
  have hx := E.1.1
  have hb := E.1.2.1
  unfold k_X5_isOfUse_32 at hm
  refine lv_iconst (v := 0) hx hb dX5_isOfUse_32 (by decide) ?_
  exact w_X5_isOfUse_33 E hr hlk hm  hw (lv_sub hl [] rfl)
def f_X5_isOfUse (v0 : Nat) (v1 : Int32) (v2 : Int32) (σ : ST) : Option (Int32 × ST) :=
  (ldA LC σ (LC.2.1 v0 3) v1).bind fun a1 =>
  if ((a1 >>> (v2 &&& 31)) &&& 1) = 0 then (k_X5_isOfUse_32 σ) else ((ldA LC σ (LC.2.1 v0 2) v1).bind fun a3 =>
  (ldA LC σ (LC.2.1 v0 2) v2).bind fun a4 =>
  if a3 = a4 then (k_X5_isOfUse_32 σ) else (k_X5_isOfUse_33 1 σ))
set_option maxRecDepth 20000 in
set_option maxHeartbeats 1000000 in
theorem w_X5_isOfUse_0 {p : Program} {l : Launch} {e : Env} {s : State} {m : MethodId} {args : Array Value} {below : List Frame} {meth : Method} {c : Code} {D : va_G} {cy : Nat → ClassId} {b : Nat} (E : CX p m c cX5_isOfUse 3 s args RX5 D cy LC) (hr : meth.sig.returnType = some .boolean) (hlk : meth.locks = false) {r : Int32 × ST} {v0 : Nat} {v1 : Int32} {v2 : Int32} {σ : ST} {H : Heap} {locs : List Loc} {ls : Array Slot} (hm : f_X5_isOfUse v0 v1 v2 σ = some r) (hv0 : LC.1 v0 = 5) (hw : PH D cy LC b σ s H locs) (hl : lv_has ls 3 [(0, .ref (b + v0)), (1, .int v1), (2, .int v2)]) : W p l e (rmD 0) s m args below meth c H locs 0 0 (MQ below (QcP D cy LC b (some (.int r.1)) r.2) args s 0 0 (inP LC b)) (F0 m 0 ls []) := by
  have hx := E.1.1
  have hb := E.1.2.1
  unfold f_X5_isOfUse at hm
  refine lv_aload_n hx hb dX5_isOfUse_0 rfl (lv_at hl 0 rfl) ?_
  refine q_geta E hw fw_X5_28 rfl hv0 dX5_isOfUse_1 ?_
  refine lv_iload_n hx hb dX5_isOfUse_4 rfl (lv_at hl 1 rfl) ?_
  refine q_iald E hw (tC_5_3 hv0) hm dX5_isOfUse_5 (fun a1 hm => ?_)
  refine lv_iload_n hx hb dX5_isOfUse_6 rfl (lv_at hl 2 rfl) ?_
  refine lv_ishr hx hb dX5_isOfUse_7 ?_
  refine lv_iconst (v := 1) hx hb dX5_isOfUse_8 (by decide) ?_
  refine lv_iand hx hb dX5_isOfUse_9 ?_
  refine lv_if_eq (tgt := 32) hx hb dX5_isOfUse_10 (by decide) (fun c2 => ?_) (fun c2 => ?_)
  · have hm := o_t c2 hm
    exact w_X5_isOfUse_32 E hr hlk hm  hw (lv_sub hl [] rfl)
  · have hm := o_f c2 hm
    refine lv_aload_n hx hb dX5_isOfUse_13 rfl (lv_at hl 0 rfl) ?_
    refine q_geta E hw fw_X5_24 rfl hv0 dX5_isOfUse_14 ?_
    refine lv_iload_n hx hb dX5_isOfUse_17 rfl (lv_at hl 1 rfl) ?_
    refine q_iald E hw (tC_5_2 hv0) hm dX5_isOfUse_18 (fun a3 hm => ?_)
    refine lv_aload_n hx hb dX5_isOfUse_19 rfl (lv_at hl 0 rfl) ?_
    refine q_geta E hw fw_X5_24 rfl hv0 dX5_isOfUse_20 ?_
    refine lv_iload_n hx hb dX5_isOfUse_23 rfl (lv_at hl 2 rfl) ?_
    refine q_iald E hw (tC_5_2 hv0) hm dX5_isOfUse_24 (fun a4 hm => ?_)
    refine lv_icmp_eq (tgt := 32) hx hb dX5_isOfUse_25 (by decide) (fun c5 => ?_) (fun c5 => ?_)
    · have hm := o_t c5 hm
      exact w_X5_isOfUse_32 E hr hlk hm  hw (lv_sub hl [] rfl)
    · have hm := o_f c5 hm
      refine lv_iconst (v := 1) hx hb dX5_isOfUse_28 (by decide) ?_
      refine lv_goto (tgt := 33) hx hb dX5_isOfUse_29 (by decide) ?_
      exact w_X5_isOfUse_33 E hr hlk hm  hw (lv_sub hl [] rfl)
theorem c_X5_isOfUse {l : Launch} {D : va_G} {cy : Nat → ClassId} {b : Nat} {v0 : Nat} {v1 : Int32} {v2 : Int32} {σ : ST} {r : Int32 × ST} (hm : f_X5_isOfUse v0 v1 v2 σ = some r) (hv0 : LC.1 v0 = 5) : Met l yX5_isOfUse (wU yX5_isOfUse cX5_isOfUse 3 (some .boolean)) (rmD 0) (PcP D cy LC b [.ref (b + v0), .int v1, .int v2] σ) (QcP D cy LC b (some (.int r.1)) r.2) 0 0 (inP LC b) :=
  q_met (lv := [(0, .ref (b + v0)), (1, .int v1), (2, .int v2)]) LC_ok (by decide) (Nat.le_of_ble_eq_true rfl) rfl (fun _ _ _ _ _ _ _ _ _ E hr hlk hw hl => w_X5_isOfUse_0 E hr hlk hm hv0 hw hl)

def k_X5_lackingPlaces_40 (rec4 : Nat → Int32 → Int32 → ST → Option (Int32 × ST)) (v0 : Nat) (v1 : Int32) (v2 : Int32) (σ : ST) : Option (Int32 × ST) :=
  rec4 v0 v1 (v2 + 1) σ
set_option maxRecDepth 20000 in
set_option maxHeartbeats 1000000 in
theorem w_X5_lackingPlaces_40 {p : Program} {l : Launch} {e : Env} {s : State} {m : MethodId} {args : Array Value} {below : List Frame} {meth : Method} {c : Code} {D : va_G} {cy : Nat → ClassId} {b : Nat} (E : CX p m c cX5_lackingPlaces 3 s args RX5 D cy LC) (hr : meth.sig.returnType = some .int) (hlk : meth.locks = false) {r : Int32 × ST} {rec4 : Nat → Int32 → Int32 → ST → Option (Int32 × ST)} (hrec4 : ∀ (v0 : Nat) (v1 : Int32) (v2 : Int32) (σ : ST) (H : Heap) (locs : List Loc) (ls : Array Slot), rec4 v0 v1 v2 σ = some r → LC.1 v0 = 5 → PH D cy LC b σ s H locs → lv_has ls 3 [(0, .ref (b + v0)), (1, .int v1), (2, .int v2)] → W p l e (rmD 0) s m args below meth c H locs 0 0 (MQ below (QcP D cy LC b (some (.int r.1)) r.2) args s 0 0 (inP LC b)) (F0 m 4 ls [])) {v0 : Nat} {v1 : Int32} {v2 : Int32} {σ : ST} {H : Heap} {locs : List Loc} {ls : Array Slot} (hm : k_X5_lackingPlaces_40 rec4 v0 v1 v2 σ = some r) (hv0 : LC.1 v0 = 5) (hw : PH D cy LC b σ s H locs) (hl : lv_has ls 3 [(0, .ref (b + v0)), (1, .int v1), (2, .int v2)]) : W p l e (rmD 0) s m args below meth c H locs 0 0 (MQ below (QcP D cy LC b (some (.int r.1)) r.2) args s 0 0 (inP LC b)) (F0 m 40 ls []) := by
  have hx := E.1.1
  have hb := E.1.2.1
  unfold k_X5_lackingPlaces_40 at hm
  refine lv_iinc (v := v2 + 1) (lv' := [(2, .int (v2 + 1)), (0, .ref (b + v0)), (1, .int v1)]) hx hb dX5_lackingPlaces_40 hl (k := 2) rfl rfl (by decide) rfl (fun ls hl => ?_)
  refine lv_goto (tgt := 4) hx hb dX5_lackingPlaces_43 (by decide) ?_
  exact hrec4 _ _ _ _ _ _ _ hm hv0 hw (lv_sub hl [1, 2, 0] rfl)
def k_X5_lackingPlaces_4 : Nat → Nat → Int32 → Int32 → ST → Option (Int32 × ST)
  | 0, _, _, _, _ => none
  | n + 1, v0, v1, v2, σ => if (gI σ v0 4) ≤ v2 then (some (v1, σ)) else (if (((gI σ v0 5) >>> (v2 &&& 31)) &&& 1) = 0 then (k_X5_lackingPlaces_40 (k_X5_lackingPlaces_4 n) v0 v1 v2 σ) else ((ldA LC σ (LC.2.1 v0 2) v2).bind fun a3 =>
  (ldA LC σ (LC.2.1 v0 1) a3).bind fun a4 =>
  if a4 = 0 then (k_X5_lackingPlaces_40 (k_X5_lackingPlaces_4 n) v0 (v1 + 1) v2 σ) else (k_X5_lackingPlaces_40 (k_X5_lackingPlaces_4 n) v0 v1 v2 σ)))
set_option maxRecDepth 20000 in
set_option maxHeartbeats 1000000 in
theorem w_X5_lackingPlaces_4 {p : Program} {l : Launch} {e : Env} {s : State} {m : MethodId} {args : Array Value} {below : List Frame} {meth : Method} {c : Code} {D : va_G} {cy : Nat → ClassId} {b : Nat} (E : CX p m c cX5_lackingPlaces 3 s args RX5 D cy LC) (hr : meth.sig.returnType = some .int) (hlk : meth.locks = false) {r : Int32 × ST} : ∀ (n : Nat) (v0 : Nat) (v1 : Int32) (v2 : Int32) (σ : ST) (H : Heap) (locs : List Loc) (ls : Array Slot), k_X5_lackingPlaces_4 n v0 v1 v2 σ = some r → LC.1 v0 = 5 → PH D cy LC b σ s H locs → lv_has ls 3 [(0, .ref (b + v0)), (1, .int v1), (2, .int v2)] → W p l e (rmD 0) s m args below meth c H locs 0 0 (MQ below (QcP D cy LC b (some (.int r.1)) r.2) args s 0 0 (inP LC b)) (F0 m 4 ls []) := by
  have hx := E.1.1
  have hb := E.1.2.1
  intro n
  induction n with
  | zero =>
    intro v0 v1 v2 σ H locs ls hm
    cases hm
  | succ n ih =>
    intro v0 v1 v2 σ H locs ls hm hv0 hw hl
    rw [k_X5_lackingPlaces_4] at hm
    refine lv_iload_n hx hb dX5_lackingPlaces_4 rfl (lv_at hl 2 rfl) ?_
    refine lv_aload_n hx hb dX5_lackingPlaces_5 rfl (lv_at hl 0 rfl) ?_
    refine q_geti E hw fw_X5_31 rfl hv0 dX5_lackingPlaces_6 ?_
    refine lv_icmp_ge (tgt := 46) hx hb dX5_lackingPlaces_9 (by decide) (fun c1 => ?_) (fun c1 => ?_)
    · have hm := o_t c1 hm
      refine lv_iload_n hx hb dX5_lackingPlaces_46 rfl (lv_at hl 1 rfl) ?_
      exact q_iret E hr hlk hw hm dX5_lackingPlaces_47
    · have hm := o_f c1 hm
      refine lv_aload_n hx hb dX5_lackingPlaces_12 rfl (lv_at hl 0 rfl) ?_
      refine q_geti E hw fw_X5_35 rfl hv0 dX5_lackingPlaces_13 ?_
      refine lv_iload_n hx hb dX5_lackingPlaces_16 rfl (lv_at hl 2 rfl) ?_
      refine lv_ishr hx hb dX5_lackingPlaces_17 ?_
      refine lv_iconst (v := 1) hx hb dX5_lackingPlaces_18 (by decide) ?_
      refine lv_iand hx hb dX5_lackingPlaces_19 ?_
      refine lv_if_eq (tgt := 40) hx hb dX5_lackingPlaces_20 (by decide) (fun c2 => ?_) (fun c2 => ?_)
      · have hm := o_t c2 hm
        exact w_X5_lackingPlaces_40 E hr hlk ih hm hv0 hw (lv_sub hl [0, 1, 2] rfl)
      · have hm := o_f c2 hm
        refine lv_aload_n hx hb dX5_lackingPlaces_23 rfl (lv_at hl 0 rfl) ?_
        refine q_geta E hw fw_X5_20 rfl hv0 dX5_lackingPlaces_24 ?_
        refine lv_aload_n hx hb dX5_lackingPlaces_27 rfl (lv_at hl 0 rfl) ?_
        refine q_geta E hw fw_X5_24 rfl hv0 dX5_lackingPlaces_28 ?_
        refine lv_iload_n hx hb dX5_lackingPlaces_31 rfl (lv_at hl 2 rfl) ?_
        refine q_iald E hw (tC_5_2 hv0) hm dX5_lackingPlaces_32 (fun a3 hm => ?_)
        refine q_zald E hw (tC_5_1 hv0) hm dX5_lackingPlaces_33 (fun a4 hm => ?_)
        refine lv_if_ne (tgt := 40) hx hb dX5_lackingPlaces_34 (by decide) (fun c5 => ?_) (fun c5 => ?_)
        · have hm := o_f c5 hm
          exact w_X5_lackingPlaces_40 E hr hlk ih hm hv0 hw (lv_sub hl [0, 1, 2] rfl)
        · have hm := o_t c5 hm
          refine lv_iinc (v := v1 + 1) (lv' := [(1, .int (v1 + 1)), (0, .ref (b + v0)), (2, .int v2)]) hx hb dX5_lackingPlaces_37 hl (k := 1) rfl rfl (by decide) rfl (fun ls hl => ?_)
          exact w_X5_lackingPlaces_40 E hr hlk ih hm hv0 hw (lv_sub hl [1, 0, 2] rfl)
def f_X5_lackingPlaces (v0 : Nat) (σ : ST) : Option (Int32 × ST) :=
  k_X5_lackingPlaces_4 FU v0 0 0 σ
set_option maxRecDepth 20000 in
set_option maxHeartbeats 1000000 in
theorem w_X5_lackingPlaces_0 {p : Program} {l : Launch} {e : Env} {s : State} {m : MethodId} {args : Array Value} {below : List Frame} {meth : Method} {c : Code} {D : va_G} {cy : Nat → ClassId} {b : Nat} (E : CX p m c cX5_lackingPlaces 3 s args RX5 D cy LC) (hr : meth.sig.returnType = some .int) (hlk : meth.locks = false) {r : Int32 × ST} {v0 : Nat} {σ : ST} {H : Heap} {locs : List Loc} {ls : Array Slot} (hm : f_X5_lackingPlaces v0 σ = some r) (hv0 : LC.1 v0 = 5) (hw : PH D cy LC b σ s H locs) (hl : lv_has ls 3 [(0, .ref (b + v0))]) : W p l e (rmD 0) s m args below meth c H locs 0 0 (MQ below (QcP D cy LC b (some (.int r.1)) r.2) args s 0 0 (inP LC b)) (F0 m 0 ls []) := by
  have hx := E.1.1
  have hb := E.1.2.1
  unfold f_X5_lackingPlaces at hm
  refine lv_iconst (v := 0) hx hb dX5_lackingPlaces_0 (by decide) ?_
  refine lv_istore_n (lv' := [(1, .int 0), (0, .ref (b + v0))]) hx hb dX5_lackingPlaces_1 rfl hl (by decide) rfl (fun ls hl => ?_)
  refine lv_iconst (v := 0) hx hb dX5_lackingPlaces_2 (by decide) ?_
  refine lv_istore_n (lv' := [(2, .int 0), (1, .int 0), (0, .ref (b + v0))]) hx hb dX5_lackingPlaces_3 rfl hl (by decide) rfl (fun ls hl => ?_)
  exact w_X5_lackingPlaces_4 E hr hlk _ _ _ _ _ _ _ _ hm hv0 hw (lv_sub hl [2, 1, 0] rfl)
theorem c_X5_lackingPlaces {l : Launch} {D : va_G} {cy : Nat → ClassId} {b : Nat} {v0 : Nat} {σ : ST} {r : Int32 × ST} (hm : f_X5_lackingPlaces v0 σ = some r) (hv0 : LC.1 v0 = 5) : Met l yX5_lackingPlaces (wU yX5_lackingPlaces cX5_lackingPlaces 3 (some .int)) (rmD 0) (PcP D cy LC b [.ref (b + v0)] σ) (QcP D cy LC b (some (.int r.1)) r.2) 0 0 (inP LC b) :=
  q_met (lv := [(0, .ref (b + v0))]) LC_ok (by decide) (Nat.le_of_ble_eq_true rfl) rfl (fun _ _ _ _ _ _ _ _ _ E hr hlk hw hl => w_X5_lackingPlaces_0 E hr hlk hm hv0 hw hl)

def f_X5_settlesBehindn0 (v0 : Nat) (v1 : Int32) (v2 : Int32) (v3 : Int32) (σ : ST) : Option (Int32 × ST) :=
  (ldA LC σ (LC.2.1 v0 2) v1).bind fun a1 =>
  (ldA LC σ (LC.2.1 v0 2) v2).bind fun a2 =>
  (stA LC σ (LC.2.1 v0 2) v1 (a1 ||| a2)).bind fun σ3 =>
  (stA LC σ3 (LC.2.1 v0 2) v2 (a1 ||| a2)).bind fun σ4 =>
  none
set_option maxRecDepth 20000 in
set_option maxHeartbeats 1000000 in
theorem w_X5_settlesBehindn0_0 {p : Program} {l : Launch} {e : Env} {s : State} {m : MethodId} {args : Array Value} {below : List Frame} {meth : Method} {c : Code} {D : va_G} {cy : Nat → ClassId} {b : Nat} (E : CX p m c cX5_settlesBehind 7 s args RX5 D cy LC) (hr : meth.sig.returnType = some .boolean) (hlk : meth.locks = false) {r : Int32 × ST} {v0 : Nat} {v1 : Int32} {v2 : Int32} {v3 : Int32} {σ : ST} {H : Heap} {locs : List Loc} {ls : Array Slot} (hm : f_X5_settlesBehindn0 v0 v1 v2 v3 σ = some r) (hv0 : LC.1 v0 = 5) (hw : PH D cy LC b σ s H locs) (hl : lv_has ls 7 [(0, .ref (b + v0)), (1, .int v1), (2, .int v2), (3, .int v3)]) : W p l e (rmD 0) s m args below meth c H locs 0 0 (MQ below (QcP D cy LC b (some (.int r.1)) r.2) args s 0 0 (inP LC b)) (F0 m 0 ls []) := by
  have hx := E.1.1
  have hb := E.1.2.1
  unfold f_X5_settlesBehindn0 at hm
  refine lv_aload_n hx hb dX5_settlesBehind_0 rfl (lv_at hl 0 rfl) ?_
  refine q_geta E hw fw_X5_24 rfl hv0 dX5_settlesBehind_1 ?_
  refine lv_iload_n hx hb dX5_settlesBehind_4 rfl (lv_at hl 1 rfl) ?_
  refine q_iald E hw (tC_5_2 hv0) hm dX5_settlesBehind_5 (fun a1 hm => ?_)
  refine lv_istore (lv' := [(4, .int a1), (0, .ref (b + v0)), (1, .int v1), (2, .int v2), (3, .int v3)]) hx hb dX5_settlesBehind_6 hl (by decide) rfl (fun ls hl => ?_)
  refine lv_aload_n hx hb dX5_settlesBehind_8 rfl (lv_at hl 1 rfl) ?_
  refine q_geta E hw fw_X5_24 rfl hv0 dX5_settlesBehind_9 ?_
  refine lv_iload_n hx hb dX5_settlesBehind_12 rfl (lv_at hl 3 rfl) ?_
  refine q_iald E hw (tC_5_2 hv0) hm dX5_settlesBehind_13 (fun a2 hm => ?_)
  refine lv_istore (lv' := [(5, .int a2), (4, .int a1), (0, .ref (b + v0)), (1, .int v1), (2, .int v2), (3, .int v3)]) hx hb dX5_settlesBehind_14 hl (by decide) rfl (fun ls hl => ?_)
  refine lv_aload_n hx hb dX5_settlesBehind_16 rfl (lv_at hl 2 rfl) ?_
  refine q_geta E hw fw_X5_24 rfl hv0 dX5_settlesBehind_17 ?_
  refine lv_iload_n hx hb dX5_settlesBehind_20 rfl (lv_at hl 3 rfl) ?_
  refine lv_iload hx hb dX5_settlesBehind_21 (lv_at hl 1 rfl) ?_
  refine lv_iload hx hb dX5_settlesBehind_23 (lv_at hl 0 rfl) ?_
  refine lv_ior hx hb dX5_settlesBehind_25 ?_
  refine q_iast E hw (tC_5_2 hv0) hm dX5_settlesBehind_26 (fun σ3 H locs hm hw => ?_)
  refine lv_aload_n hx hb dX5_settlesBehind_27 rfl (lv_at hl 2 rfl) ?_
  refine q_geta E hw fw_X5_24 rfl hv0 dX5_settlesBehind_28 ?_
  refine lv_iload_n hx hb dX5_settlesBehind_31 rfl (lv_at hl 4 rfl) ?_
  refine lv_iload hx hb dX5_settlesBehind_32 (lv_at hl 1 rfl) ?_
  refine lv_iload hx hb dX5_settlesBehind_34 (lv_at hl 0 rfl) ?_
  refine lv_ior hx hb dX5_settlesBehind_36 ?_
  refine q_iast E hw (tC_5_2 hv0) hm dX5_settlesBehind_37 (fun σ4 H locs hm hw => ?_)
  refine lv_aload_n hx hb dX5_settlesBehind_38 rfl (lv_at hl 2 rfl) ?_
  refine lv_iload_n hx hb dX5_settlesBehind_39 rfl (lv_at hl 5 rfl) ?_
  cases hm
theorem c_X5_settlesBehindn0 {l : Launch} {D : va_G} {cy : Nat → ClassId} {b : Nat} {v0 : Nat} {v1 : Int32} {v2 : Int32} {v3 : Int32} {σ : ST} {r : Int32 × ST} (hm : f_X5_settlesBehindn0 v0 v1 v2 v3 σ = some r) (hv0 : LC.1 v0 = 5) : Met l yX5_settlesBehind (wU yX5_settlesBehind cX5_settlesBehind 7 (some .boolean)) (rmD 0) (PcP D cy LC b [.ref (b + v0), .int v1, .int v2, .int v3] σ) (QcP D cy LC b (some (.int r.1)) r.2) 0 0 (inP LC b) :=
  q_met (lv := [(0, .ref (b + v0)), (1, .int v1), (2, .int v2), (3, .int v3)]) LC_ok (by decide) (Nat.le_of_ble_eq_true rfl) rfl (fun _ _ _ _ _ _ _ _ _ E hr hlk hw hl => w_X5_settlesBehindn0_0 E hr hlk hm hv0 hw hl)

def k_X5_settlesn0_69 (rec35 : Nat → Int32 → Int32 → Int32 → ST → Option (Int32 × ST)) (v0 : Nat) (v1 : Int32) (v3 : Int32) (v4 : Int32) (σ : ST) : Option (Int32 × ST) :=
  rec35 v0 v1 v3 (v4 + 1) σ
set_option maxRecDepth 20000 in
set_option maxHeartbeats 1000000 in
theorem w_X5_settlesn0_69 {p : Program} {l : Launch} {e : Env} {s : State} {m : MethodId} {args : Array Value} {below : List Frame} {meth : Method} {c : Code} {D : va_G} {cy : Nat → ClassId} {b : Nat} (E : CX p m c cX5_settles 5 s args RX5 D cy LC) (hr : meth.sig.returnType = some .boolean) (hlk : meth.locks = false) {r : Int32 × ST} {rec35 : Nat → Int32 → Int32 → Int32 → ST → Option (Int32 × ST)} (hrec35 : ∀ (v0 : Nat) (v1 : Int32) (v3 : Int32) (v4 : Int32) (σ : ST) (H : Heap) (locs : List Loc) (ls : Array Slot), rec35 v0 v1 v3 v4 σ = some r → LC.1 v0 = 5 → PH D cy LC b σ s H locs → lv_has ls 5 [(0, .ref (b + v0)), (1, .int v1), (3, .int v3), (4, .int v4)] → W p l e (rmD 1) s m args below meth c H locs 0 0 (MQ below (QcP D cy LC b (some (.int r.1)) r.2) args s 0 0 (inP LC b)) (F0 m 35 ls [])) {v0 : Nat} {v1 : Int32} {v3 : Int32} {v4 : Int32} {σ : ST} {H : Heap} {locs : List Loc} {ls : Array Slot} (hm : k_X5_settlesn0_69 rec35 v0 v1 v3 v4 σ = some r) (hv0 : LC.1 v0 = 5) (hw : PH D cy LC b σ s H locs) (hl : lv_has ls 5 [(0, .ref (b + v0)), (1, .int v1), (3, .int v3), (4, .int v4)]) : W p l e (rmD 1) s m args below meth c H locs 0 0 (MQ below (QcP D cy LC b (some (.int r.1)) r.2) args s 0 0 (inP LC b)) (F0 m 69 ls []) := by
  have hx := E.1.1
  have hb := E.1.2.1
  unfold k_X5_settlesn0_69 at hm
  refine lv_iinc (v := v4 + 1) (lv' := [(4, .int (v4 + 1)), (0, .ref (b + v0)), (1, .int v1), (3, .int v3)]) hx hb dX5_settles_69 hl (k := 3) rfl rfl (by decide) rfl (fun ls hl => ?_)
  refine lv_goto (tgt := 35) hx hb dX5_settles_72 (by decide) ?_
  exact hrec35 _ _ _ _ _ _ _ _ hm hv0 hw (lv_sub hl [1, 2, 3, 0] rfl)
def k_X5_settlesn0_35 (rec22 : Nat → Int32 → Int32 → ST → Option (Int32 × ST)) : Nat → Nat → Int32 → Int32 → Int32 → ST → Option (Int32 × ST)
  | 0, _, _, _, _, _ => none
  | n + 1, v0, v1, v3, v4, σ => if (gI σ v0 4) ≤ v4 then (rec22 v0 v1 (v3 + 1) σ) else ((f_X5_isOfUse v0 v3 v4 σ).bind fun u2 =>
  if u2.1 = 0 then (k_X5_settlesn0_69 (k_X5_settlesn0_35 rec22 n) v0 v1 v3 v4 u2.2) else ((f_X5_settlesBehindn0 v0 v3 v4 (v1 - 1) u2.2).bind fun u4 =>
  if u4.1 = 0 then (k_X5_settlesn0_69 (k_X5_settlesn0_35 rec22 n) v0 v1 v3 v4 u4.2) else ((ckZ 1).bind fun z => some (z, u4.2))))
set_option maxRecDepth 20000 in
set_option maxHeartbeats 1000000 in
theorem w_X5_settlesn0_35 {p : Program} {l : Launch} {e : Env} {s : State} {m : MethodId} {args : Array Value} {below : List Frame} {meth : Method} {c : Code} {D : va_G} {cy : Nat → ClassId} {b : Nat} (E : CX p m c cX5_settles 5 s args RX5 D cy LC) (hr : meth.sig.returnType = some .boolean) (hlk : meth.locks = false) {r : Int32 × ST} {rec22 : Nat → Int32 → Int32 → ST → Option (Int32 × ST)} (hrec22 : ∀ (v0 : Nat) (v1 : Int32) (v3 : Int32) (σ : ST) (H : Heap) (locs : List Loc) (ls : Array Slot), rec22 v0 v1 v3 σ = some r → LC.1 v0 = 5 → PH D cy LC b σ s H locs → lv_has ls 5 [(0, .ref (b + v0)), (1, .int v1), (3, .int v3)] → W p l e (rmD 1) s m args below meth c H locs 0 0 (MQ below (QcP D cy LC b (some (.int r.1)) r.2) args s 0 0 (inP LC b)) (F0 m 22 ls [])) : ∀ (n : Nat) (v0 : Nat) (v1 : Int32) (v3 : Int32) (v4 : Int32) (σ : ST) (H : Heap) (locs : List Loc) (ls : Array Slot), k_X5_settlesn0_35 rec22 n v0 v1 v3 v4 σ = some r → LC.1 v0 = 5 → PH D cy LC b σ s H locs → lv_has ls 5 [(0, .ref (b + v0)), (1, .int v1), (3, .int v3), (4, .int v4)] → W p l e (rmD 1) s m args below meth c H locs 0 0 (MQ below (QcP D cy LC b (some (.int r.1)) r.2) args s 0 0 (inP LC b)) (F0 m 35 ls []) := by
  have hx := E.1.1
  have hb := E.1.2.1
  intro n
  induction n with
  | zero =>
    intro v0 v1 v3 v4 σ H locs ls hm
    cases hm
  | succ n ih =>
    intro v0 v1 v3 v4 σ H locs ls hm hv0 hw hl
    rw [k_X5_settlesn0_35] at hm
    refine lv_iload hx hb dX5_settles_35 (lv_at hl 3 rfl) ?_
    refine lv_aload_n hx hb dX5_settles_37 rfl (lv_at hl 0 rfl) ?_
    refine q_geti E hw fw_X5_31 rfl hv0 dX5_settles_38 ?_
    refine lv_icmp_ge (tgt := 75) hx hb dX5_settles_41 (by decide) (fun c1 => ?_) (fun c1 => ?_)
    · have hm := o_t c1 hm
      refine lv_iinc (v := v3 + 1) (lv' := [(3, .int (v3 + 1)), (0, .ref (b + v0)), (1, .int v1), (4, .int v4)]) hx hb dX5_settles_75 hl (k := 2) rfl rfl (by decide) rfl (fun ls hl => ?_)
      refine lv_goto (tgt := 22) hx hb dX5_settles_78 (by decide) ?_
      exact hrec22 _ _ _ _ _ _ _ hm hv0 hw (lv_sub hl [1, 2, 0] rfl)
    · have hm := o_f c1 hm
      refine lv_aload_n hx hb dX5_settles_44 rfl (lv_at hl 0 rfl) ?_
      refine lv_iload_n hx hb dX5_settles_45 rfl (lv_at hl 2 rfl) ?_
      refine lv_iload hx hb dX5_settles_46 (lv_at hl 3 rfl) ?_
      refine q_cVi (κ := 5) (C := RX5) (T := TX5) (N := 6) [] E hw hm mw_X5_73 (fun u hu => c_X5_isOfUse hu hv0) rfl (by decide) hv0 rfl rfl hl.1 (Nat.le_of_ble_eq_true rfl) ⟨Nat.le_of_ble_eq_true rfl, Nat.le_of_ble_eq_true rfl⟩ dX5_settles_48 (fun u2 H locs hm hw => ?_)
      refine lv_if_eq (tgt := 69) hx hb dX5_settles_51 (by decide) (fun c3 => ?_) (fun c3 => ?_)
      · have hm := o_t c3 hm
        exact w_X5_settlesn0_69 E hr hlk ih hm hv0 hw (lv_sub hl [0, 1, 2, 3] rfl)
      · have hm := o_f c3 hm
        refine lv_aload_n hx hb dX5_settles_54 rfl (lv_at hl 0 rfl) ?_
        refine lv_iload_n hx hb dX5_settles_55 rfl (lv_at hl 2 rfl) ?_
        refine lv_iload hx hb dX5_settles_56 (lv_at hl 3 rfl) ?_
        refine lv_iload_n hx hb dX5_settles_58 rfl (lv_at hl 1 rfl) ?_
        refine lv_iconst (v := 1) hx hb dX5_settles_59 (by decide) ?_
        refine lv_isub hx hb dX5_settles_60 ?_
        refine q_cVi (κ := 5) (C := RX5) (T := TX5) (N := 6) [] E hw hm mw_X5_77 (fun u hu => c_X5_settlesBehindn0 hu hv0) rfl (by decide) hv0 rfl rfl hl.1 (Nat.le_of_ble_eq_true rfl) ⟨Nat.le_of_ble_eq_true rfl, Nat.le_of_ble_eq_true rfl⟩ dX5_settles_61 (fun u4 H locs hm hw => ?_)
        refine lv_if_eq (tgt := 69) hx hb dX5_settles_64 (by decide) (fun c5 => ?_) (fun c5 => ?_)
        · have hm := o_t c5 hm
          exact w_X5_settlesn0_69 E hr hlk ih hm hv0 hw (lv_sub hl [0, 1, 2, 3] rfl)
        · have hm := o_f c5 hm
          refine lv_iconst (v := 1) hx hb dX5_settles_67 (by decide) ?_
          exact q_zret E hr hlk hw hm dX5_settles_68
def k_X5_settlesn0_22 : Nat → Nat → Int32 → Int32 → ST → Option (Int32 × ST)
  | 0, _, _, _, _ => none
  | n + 1, v0, v1, v3, σ => if (gI σ v0 4) ≤ v3 then ((ckZ 0).bind fun z => some (z, σ)) else (k_X5_settlesn0_35 (k_X5_settlesn0_22 n) FU v0 v1 v3 (v3 + 1) σ)
set_option maxRecDepth 20000 in
set_option maxHeartbeats 1000000 in
theorem w_X5_settlesn0_22 {p : Program} {l : Launch} {e : Env} {s : State} {m : MethodId} {args : Array Value} {below : List Frame} {meth : Method} {c : Code} {D : va_G} {cy : Nat → ClassId} {b : Nat} (E : CX p m c cX5_settles 5 s args RX5 D cy LC) (hr : meth.sig.returnType = some .boolean) (hlk : meth.locks = false) {r : Int32 × ST} : ∀ (n : Nat) (v0 : Nat) (v1 : Int32) (v3 : Int32) (σ : ST) (H : Heap) (locs : List Loc) (ls : Array Slot), k_X5_settlesn0_22 n v0 v1 v3 σ = some r → LC.1 v0 = 5 → PH D cy LC b σ s H locs → lv_has ls 5 [(0, .ref (b + v0)), (1, .int v1), (3, .int v3)] → W p l e (rmD 1) s m args below meth c H locs 0 0 (MQ below (QcP D cy LC b (some (.int r.1)) r.2) args s 0 0 (inP LC b)) (F0 m 22 ls []) := by
  have hx := E.1.1
  have hb := E.1.2.1
  intro n
  induction n with
  | zero =>
    intro v0 v1 v3 σ H locs ls hm
    cases hm
  | succ n ih =>
    intro v0 v1 v3 σ H locs ls hm hv0 hw hl
    rw [k_X5_settlesn0_22] at hm
    refine lv_iload_n hx hb dX5_settles_22 rfl (lv_at hl 2 rfl) ?_
    refine lv_aload_n hx hb dX5_settles_23 rfl (lv_at hl 0 rfl) ?_
    refine q_geti E hw fw_X5_31 rfl hv0 dX5_settles_24 ?_
    refine lv_icmp_ge (tgt := 81) hx hb dX5_settles_27 (by decide) (fun c6 => ?_) (fun c6 => ?_)
    · have hm := o_t c6 hm
      refine lv_iconst (v := 0) hx hb dX5_settles_81 (by decide) ?_
      exact q_zret E hr hlk hw hm dX5_settles_82
    · have hm := o_f c6 hm
      refine lv_iload_n hx hb dX5_settles_30 rfl (lv_at hl 2 rfl) ?_
      refine lv_iconst (v := 1) hx hb dX5_settles_31 (by decide) ?_
      refine lv_iadd hx hb dX5_settles_32 ?_
      refine lv_istore (lv' := [(4, .int (v3 + 1)), (0, .ref (b + v0)), (1, .int v1), (3, .int v3)]) hx hb dX5_settles_33 hl (by decide) rfl (fun ls hl => ?_)
      exact w_X5_settlesn0_35 E hr hlk ih _ _ _ _ _ _ _ _ _ hm hv0 hw (lv_sub hl [1, 2, 3, 0] rfl)
def f_X5_settlesn0 (v0 : Nat) (v1 : Int32) (σ : ST) : Option (Int32 × ST) :=
  (f_X5_lackingPlaces v0 σ).bind fun u7 =>
  if u7.1 = 0 then ((ckZ 1).bind fun z => some (z, u7.2)) else (if u7.1 ≤ (2 * v1) then (k_X5_settlesn0_22 FU v0 v1 0 u7.2) else ((ckZ 0).bind fun z => some (z, u7.2)))
set_option maxRecDepth 20000 in
set_option maxHeartbeats 1000000 in
theorem w_X5_settlesn0_0 {p : Program} {l : Launch} {e : Env} {s : State} {m : MethodId} {args : Array Value} {below : List Frame} {meth : Method} {c : Code} {D : va_G} {cy : Nat → ClassId} {b : Nat} (E : CX p m c cX5_settles 5 s args RX5 D cy LC) (hr : meth.sig.returnType = some .boolean) (hlk : meth.locks = false) {r : Int32 × ST} {v0 : Nat} {v1 : Int32} {σ : ST} {H : Heap} {locs : List Loc} {ls : Array Slot} (hm : f_X5_settlesn0 v0 v1 σ = some r) (hv0 : LC.1 v0 = 5) (hw : PH D cy LC b σ s H locs) (hl : lv_has ls 5 [(0, .ref (b + v0)), (1, .int v1)]) : W p l e (rmD 1) s m args below meth c H locs 0 0 (MQ below (QcP D cy LC b (some (.int r.1)) r.2) args s 0 0 (inP LC b)) (F0 m 0 ls []) := by
  have hx := E.1.1
  have hb := E.1.2.1
  unfold f_X5_settlesn0 at hm
  refine lv_aload_n hx hb dX5_settles_0 rfl (lv_at hl 0 rfl) ?_
  refine q_cVi (κ := 5) (C := RX5) (T := TX5) (N := 6) [] E hw hm mw_X5_69 (fun u hu => c_X5_lackingPlaces hu hv0) rfl (by decide) hv0 rfl rfl hl.1 (Nat.le_of_ble_eq_true rfl) ⟨Nat.le_of_ble_eq_true rfl, Nat.le_of_ble_eq_true rfl⟩ dX5_settles_1 (fun u7 H locs hm hw => ?_)
  refine lv_istore_n (lv' := [(2, .int u7.1), (0, .ref (b + v0)), (1, .int v1)]) hx hb dX5_settles_4 rfl hl (by decide) rfl (fun ls hl => ?_)
  refine lv_iload_n hx hb dX5_settles_5 rfl (lv_at hl 0 rfl) ?_
  refine lv_if_ne (tgt := 11) hx hb dX5_settles_6 (by decide) (fun c8 => ?_) (fun c8 => ?_)
  · have hm := o_f c8 hm
    refine lv_iload_n hx hb dX5_settles_11 rfl (lv_at hl 0 rfl) ?_
    refine lv_iconst (v := 2) hx hb dX5_settles_12 (by decide) ?_
    refine lv_iload_n hx hb dX5_settles_13 rfl (lv_at hl 2 rfl) ?_
    refine lv_imul hx hb dX5_settles_14 ?_
    refine lv_icmp_le (tgt := 20) hx hb dX5_settles_15 (by decide) (fun c9 => ?_) (fun c9 => ?_)
    · have hm := o_t c9 hm
      refine lv_iconst (v := 0) hx hb dX5_settles_20 (by decide) ?_
      refine lv_istore_n (lv' := [(3, .int 0), (2, .int u7.1), (0, .ref (b + v0)), (1, .int v1)]) hx hb dX5_settles_21 rfl hl (by decide) rfl (fun ls hl => ?_)
      exact w_X5_settlesn0_22 E hr hlk _ _ _ _ _ _ _ _ hm hv0 hw (lv_sub hl [2, 3, 0] rfl)
    · have hm := o_f c9 hm
      refine lv_iconst (v := 0) hx hb dX5_settles_18 (by decide) ?_
      exact q_zret E hr hlk hw hm dX5_settles_19
  · have hm := o_t c8 hm
    refine lv_iconst (v := 1) hx hb dX5_settles_9 (by decide) ?_
    exact q_zret E hr hlk hw hm dX5_settles_10
theorem c_X5_settlesn0 {l : Launch} {D : va_G} {cy : Nat → ClassId} {b : Nat} {v0 : Nat} {v1 : Int32} {σ : ST} {r : Int32 × ST} (hm : f_X5_settlesn0 v0 v1 σ = some r) (hv0 : LC.1 v0 = 5) : Met l yX5_settles (wU yX5_settles cX5_settles 5 (some .boolean)) (rmD 1) (PcP D cy LC b [.ref (b + v0), .int v1] σ) (QcP D cy LC b (some (.int r.1)) r.2) 0 0 (inP LC b) :=
  q_met (lv := [(0, .ref (b + v0)), (1, .int v1)]) LC_ok (by decide) (Nat.le_of_ble_eq_true rfl) rfl (fun _ _ _ _ _ _ _ _ _ E hr hlk hw hl => w_X5_settlesn0_0 E hr hlk hm hv0 hw hl)

def f_X5_settlesBehindn1 (v0 : Nat) (v1 : Int32) (v2 : Int32) (v3 : Int32) (σ : ST) : Option (Int32 × ST) :=
  (ldA LC σ (LC.2.1 v0 2) v1).bind fun a1 =>
  (ldA LC σ (LC.2.1 v0 2) v2).bind fun a2 =>
  (stA LC σ (LC.2.1 v0 2) v1 (a1 ||| a2)).bind fun σ3 =>
  (stA LC σ3 (LC.2.1 v0 2) v2 (a1 ||| a2)).bind fun σ4 =>
  (f_X5_settlesn0 v0 v3 σ4).bind fun u5 =>
  (stA LC u5.2 (LC.2.1 v0 2) v1 a1).bind fun σ6 =>
  (stA LC σ6 (LC.2.1 v0 2) v2 a2).bind fun σ7 =>
  (ckZ u5.1).bind fun z => some (z, σ7)
set_option maxRecDepth 20000 in
set_option maxHeartbeats 1000000 in
theorem w_X5_settlesBehindn1_0 {p : Program} {l : Launch} {e : Env} {s : State} {m : MethodId} {args : Array Value} {below : List Frame} {meth : Method} {c : Code} {D : va_G} {cy : Nat → ClassId} {b : Nat} (E : CX p m c cX5_settlesBehind 7 s args RX5 D cy LC) (hr : meth.sig.returnType = some .boolean) (hlk : meth.locks = false) {r : Int32 × ST} {v0 : Nat} {v1 : Int32} {v2 : Int32} {v3 : Int32} {σ : ST} {H : Heap} {locs : List Loc} {ls : Array Slot} (hm : f_X5_settlesBehindn1 v0 v1 v2 v3 σ = some r) (hv0 : LC.1 v0 = 5) (hw : PH D cy LC b σ s H locs) (hl : lv_has ls 7 [(0, .ref (b + v0)), (1, .int v1), (2, .int v2), (3, .int v3)]) : W p l e (rmD 2) s m args below meth c H locs 0 0 (MQ below (QcP D cy LC b (some (.int r.1)) r.2) args s 0 0 (inP LC b)) (F0 m 0 ls []) := by
  have hx := E.1.1
  have hb := E.1.2.1
  unfold f_X5_settlesBehindn1 at hm
  refine lv_aload_n hx hb dX5_settlesBehind_0 rfl (lv_at hl 0 rfl) ?_
  refine q_geta E hw fw_X5_24 rfl hv0 dX5_settlesBehind_1 ?_
  refine lv_iload_n hx hb dX5_settlesBehind_4 rfl (lv_at hl 1 rfl) ?_
  refine q_iald E hw (tC_5_2 hv0) hm dX5_settlesBehind_5 (fun a1 hm => ?_)
  refine lv_istore (lv' := [(4, .int a1), (0, .ref (b + v0)), (1, .int v1), (2, .int v2), (3, .int v3)]) hx hb dX5_settlesBehind_6 hl (by decide) rfl (fun ls hl => ?_)
  refine lv_aload_n hx hb dX5_settlesBehind_8 rfl (lv_at hl 1 rfl) ?_
  refine q_geta E hw fw_X5_24 rfl hv0 dX5_settlesBehind_9 ?_
  refine lv_iload_n hx hb dX5_settlesBehind_12 rfl (lv_at hl 3 rfl) ?_
  refine q_iald E hw (tC_5_2 hv0) hm dX5_settlesBehind_13 (fun a2 hm => ?_)
  refine lv_istore (lv' := [(5, .int a2), (4, .int a1), (0, .ref (b + v0)), (1, .int v1), (2, .int v2), (3, .int v3)]) hx hb dX5_settlesBehind_14 hl (by decide) rfl (fun ls hl => ?_)
  refine lv_aload_n hx hb dX5_settlesBehind_16 rfl (lv_at hl 2 rfl) ?_
  refine q_geta E hw fw_X5_24 rfl hv0 dX5_settlesBehind_17 ?_
  refine lv_iload_n hx hb dX5_settlesBehind_20 rfl (lv_at hl 3 rfl) ?_
  refine lv_iload hx hb dX5_settlesBehind_21 (lv_at hl 1 rfl) ?_
  refine lv_iload hx hb dX5_settlesBehind_23 (lv_at hl 0 rfl) ?_
  refine lv_ior hx hb dX5_settlesBehind_25 ?_
  refine q_iast E hw (tC_5_2 hv0) hm dX5_settlesBehind_26 (fun σ3 H locs hm hw => ?_)
  refine lv_aload_n hx hb dX5_settlesBehind_27 rfl (lv_at hl 2 rfl) ?_
  refine q_geta E hw fw_X5_24 rfl hv0 dX5_settlesBehind_28 ?_
  refine lv_iload_n hx hb dX5_settlesBehind_31 rfl (lv_at hl 4 rfl) ?_
  refine lv_iload hx hb dX5_settlesBehind_32 (lv_at hl 1 rfl) ?_
  refine lv_iload hx hb dX5_settlesBehind_34 (lv_at hl 0 rfl) ?_
  refine lv_ior hx hb dX5_settlesBehind_36 ?_
  refine q_iast E hw (tC_5_2 hv0) hm dX5_settlesBehind_37 (fun σ4 H locs hm hw => ?_)
  refine lv_aload_n hx hb dX5_settlesBehind_38 rfl (lv_at hl 2 rfl) ?_
  refine lv_iload_n hx hb dX5_settlesBehind_39 rfl (lv_at hl 5 rfl) ?_
  refine q_cSi [] E hw hm ms_X5_42 (fun u hu => c_X5_settlesn0 hu hv0) rfl rfl hl.1 (Nat.le_of_ble_eq_true rfl) ⟨Nat.le_of_ble_eq_true rfl, Nat.le_of_ble_eq_true rfl⟩ dX5_settlesBehind_40 (fun u5 H locs hm hw => ?_)
  refine lv_istore (lv' := [(6, .int u5.1), (5, .int a2), (4, .int a1), (0, .ref (b + v0)), (1, .int v1), (2, .int v2), (3, .int v3)]) hx hb dX5_settlesBehind_43 hl (by decide) rfl (fun ls hl => ?_)
  refine lv_aload_n hx hb dX5_settlesBehind_45 rfl (lv_at hl 3 rfl) ?_
  refine q_geta E hw fw_X5_24 rfl hv0 dX5_settlesBehind_46 ?_
  refine lv_iload_n hx hb dX5_settlesBehind_49 rfl (lv_at hl 4 rfl) ?_
  refine lv_iload hx hb dX5_settlesBehind_50 (lv_at hl 2 rfl) ?_
  refine q_iast E hw (tC_5_2 hv0) hm dX5_settlesBehind_52 (fun σ6 H locs hm hw => ?_)
  refine lv_aload_n hx hb dX5_settlesBehind_53 rfl (lv_at hl 3 rfl) ?_
  refine q_geta E hw fw_X5_24 rfl hv0 dX5_settlesBehind_54 ?_
  refine lv_iload_n hx hb dX5_settlesBehind_57 rfl (lv_at hl 5 rfl) ?_
  refine lv_iload hx hb dX5_settlesBehind_58 (lv_at hl 1 rfl) ?_
  refine q_iast E hw (tC_5_2 hv0) hm dX5_settlesBehind_60 (fun σ7 H locs hm hw => ?_)
  refine lv_iload hx hb dX5_settlesBehind_61 (lv_at hl 0 rfl) ?_
  exact q_zret E hr hlk hw hm dX5_settlesBehind_63
theorem c_X5_settlesBehindn1 {l : Launch} {D : va_G} {cy : Nat → ClassId} {b : Nat} {v0 : Nat} {v1 : Int32} {v2 : Int32} {v3 : Int32} {σ : ST} {r : Int32 × ST} (hm : f_X5_settlesBehindn1 v0 v1 v2 v3 σ = some r) (hv0 : LC.1 v0 = 5) : Met l yX5_settlesBehind (wU yX5_settlesBehind cX5_settlesBehind 7 (some .boolean)) (rmD 2) (PcP D cy LC b [.ref (b + v0), .int v1, .int v2, .int v3] σ) (QcP D cy LC b (some (.int r.1)) r.2) 0 0 (inP LC b) :=
  q_met (lv := [(0, .ref (b + v0)), (1, .int v1), (2, .int v2), (3, .int v3)]) LC_ok (by decide) (Nat.le_of_ble_eq_true rfl) rfl (fun _ _ _ _ _ _ _ _ _ E hr hlk hw hl => w_X5_settlesBehindn1_0 E hr hlk hm hv0 hw hl)

def k_X5_settlesn1_69 (rec35 : Nat → Int32 → Int32 → Int32 → ST → Option (Int32 × ST)) (v0 : Nat) (v1 : Int32) (v3 : Int32) (v4 : Int32) (σ : ST) : Option (Int32 × ST) :=
  rec35 v0 v1 v3 (v4 + 1) σ
set_option maxRecDepth 20000 in
set_option maxHeartbeats 1000000 in
theorem w_X5_settlesn1_69 {p : Program} {l : Launch} {e : Env} {s : State} {m : MethodId} {args : Array Value} {below : List Frame} {meth : Method} {c : Code} {D : va_G} {cy : Nat → ClassId} {b : Nat} (E : CX p m c cX5_settles 5 s args RX5 D cy LC) (hr : meth.sig.returnType = some .boolean) (hlk : meth.locks = false) {r : Int32 × ST} {rec35 : Nat → Int32 → Int32 → Int32 → ST → Option (Int32 × ST)} (hrec35 : ∀ (v0 : Nat) (v1 : Int32) (v3 : Int32) (v4 : Int32) (σ : ST) (H : Heap) (locs : List Loc) (ls : Array Slot), rec35 v0 v1 v3 v4 σ = some r → LC.1 v0 = 5 → PH D cy LC b σ s H locs → lv_has ls 5 [(0, .ref (b + v0)), (1, .int v1), (3, .int v3), (4, .int v4)] → W p l e (rmD 3) s m args below meth c H locs 0 0 (MQ below (QcP D cy LC b (some (.int r.1)) r.2) args s 0 0 (inP LC b)) (F0 m 35 ls [])) {v0 : Nat} {v1 : Int32} {v3 : Int32} {v4 : Int32} {σ : ST} {H : Heap} {locs : List Loc} {ls : Array Slot} (hm : k_X5_settlesn1_69 rec35 v0 v1 v3 v4 σ = some r) (hv0 : LC.1 v0 = 5) (hw : PH D cy LC b σ s H locs) (hl : lv_has ls 5 [(0, .ref (b + v0)), (1, .int v1), (3, .int v3), (4, .int v4)]) : W p l e (rmD 3) s m args below meth c H locs 0 0 (MQ below (QcP D cy LC b (some (.int r.1)) r.2) args s 0 0 (inP LC b)) (F0 m 69 ls []) := by
  have hx := E.1.1
  have hb := E.1.2.1
  unfold k_X5_settlesn1_69 at hm
  refine lv_iinc (v := v4 + 1) (lv' := [(4, .int (v4 + 1)), (0, .ref (b + v0)), (1, .int v1), (3, .int v3)]) hx hb dX5_settles_69 hl (k := 3) rfl rfl (by decide) rfl (fun ls hl => ?_)
  refine lv_goto (tgt := 35) hx hb dX5_settles_72 (by decide) ?_
  exact hrec35 _ _ _ _ _ _ _ _ hm hv0 hw (lv_sub hl [1, 2, 3, 0] rfl)
def k_X5_settlesn1_35 (rec22 : Nat → Int32 → Int32 → ST → Option (Int32 × ST)) : Nat → Nat → Int32 → Int32 → Int32 → ST → Option (Int32 × ST)
  | 0, _, _, _, _, _ => none
  | n + 1, v0, v1, v3, v4, σ => if (gI σ v0 4) ≤ v4 then (rec22 v0 v1 (v3 + 1) σ) else ((f_X5_isOfUse v0 v3 v4 σ).bind fun u2 =>
  if u2.1 = 0 then (k_X5_settlesn1_69 (k_X5_settlesn1_35 rec22 n) v0 v1 v3 v4 u2.2) else ((f_X5_settlesBehindn1 v0 v3 v4 (v1 - 1) u2.2).bind fun u4 =>
  if u4.1 = 0 then (k_X5_settlesn1_69 (k_X5_settlesn1_35 rec22 n) v0 v1 v3 v4 u4.2) else ((ckZ 1).bind fun z => some (z, u4.2))))
set_option maxRecDepth 20000 in
set_option maxHeartbeats 1000000 in
theorem w_X5_settlesn1_35 {p : Program} {l : Launch} {e : Env} {s : State} {m : MethodId} {args : Array Value} {below : List Frame} {meth : Method} {c : Code} {D : va_G} {cy : Nat → ClassId} {b : Nat} (E : CX p m c cX5_settles 5 s args RX5 D cy LC) (hr : meth.sig.returnType = some .boolean) (hlk : meth.locks = false) {r : Int32 × ST} {rec22 : Nat → Int32 → Int32 → ST → Option (Int32 × ST)} (hrec22 : ∀ (v0 : Nat) (v1 : Int32) (v3 : Int32) (σ : ST) (H : Heap) (locs : List Loc) (ls : Array Slot), rec22 v0 v1 v3 σ = some r → LC.1 v0 = 5 → PH D cy LC b σ s H locs → lv_has ls 5 [(0, .ref (b + v0)), (1, .int v1), (3, .int v3)] → W p l e (rmD 3) s m args below meth c H locs 0 0 (MQ below (QcP D cy LC b (some (.int r.1)) r.2) args s 0 0 (inP LC b)) (F0 m 22 ls [])) : ∀ (n : Nat) (v0 : Nat) (v1 : Int32) (v3 : Int32) (v4 : Int32) (σ : ST) (H : Heap) (locs : List Loc) (ls : Array Slot), k_X5_settlesn1_35 rec22 n v0 v1 v3 v4 σ = some r → LC.1 v0 = 5 → PH D cy LC b σ s H locs → lv_has ls 5 [(0, .ref (b + v0)), (1, .int v1), (3, .int v3), (4, .int v4)] → W p l e (rmD 3) s m args below meth c H locs 0 0 (MQ below (QcP D cy LC b (some (.int r.1)) r.2) args s 0 0 (inP LC b)) (F0 m 35 ls []) := by
  have hx := E.1.1
  have hb := E.1.2.1
  intro n
  induction n with
  | zero =>
    intro v0 v1 v3 v4 σ H locs ls hm
    cases hm
  | succ n ih =>
    intro v0 v1 v3 v4 σ H locs ls hm hv0 hw hl
    rw [k_X5_settlesn1_35] at hm
    refine lv_iload hx hb dX5_settles_35 (lv_at hl 3 rfl) ?_
    refine lv_aload_n hx hb dX5_settles_37 rfl (lv_at hl 0 rfl) ?_
    refine q_geti E hw fw_X5_31 rfl hv0 dX5_settles_38 ?_
    refine lv_icmp_ge (tgt := 75) hx hb dX5_settles_41 (by decide) (fun c1 => ?_) (fun c1 => ?_)
    · have hm := o_t c1 hm
      refine lv_iinc (v := v3 + 1) (lv' := [(3, .int (v3 + 1)), (0, .ref (b + v0)), (1, .int v1), (4, .int v4)]) hx hb dX5_settles_75 hl (k := 2) rfl rfl (by decide) rfl (fun ls hl => ?_)
      refine lv_goto (tgt := 22) hx hb dX5_settles_78 (by decide) ?_
      exact hrec22 _ _ _ _ _ _ _ hm hv0 hw (lv_sub hl [1, 2, 0] rfl)
    · have hm := o_f c1 hm
      refine lv_aload_n hx hb dX5_settles_44 rfl (lv_at hl 0 rfl) ?_
      refine lv_iload_n hx hb dX5_settles_45 rfl (lv_at hl 2 rfl) ?_
      refine lv_iload hx hb dX5_settles_46 (lv_at hl 3 rfl) ?_
      refine q_cVi (κ := 5) (C := RX5) (T := TX5) (N := 6) [] E hw hm mw_X5_73 (fun u hu => c_X5_isOfUse hu hv0) rfl (by decide) hv0 rfl rfl hl.1 (Nat.le_of_ble_eq_true rfl) ⟨Nat.le_of_ble_eq_true rfl, Nat.le_of_ble_eq_true rfl⟩ dX5_settles_48 (fun u2 H locs hm hw => ?_)
      refine lv_if_eq (tgt := 69) hx hb dX5_settles_51 (by decide) (fun c3 => ?_) (fun c3 => ?_)
      · have hm := o_t c3 hm
        exact w_X5_settlesn1_69 E hr hlk ih hm hv0 hw (lv_sub hl [0, 1, 2, 3] rfl)
      · have hm := o_f c3 hm
        refine lv_aload_n hx hb dX5_settles_54 rfl (lv_at hl 0 rfl) ?_
        refine lv_iload_n hx hb dX5_settles_55 rfl (lv_at hl 2 rfl) ?_
        refine lv_iload hx hb dX5_settles_56 (lv_at hl 3 rfl) ?_
        refine lv_iload_n hx hb dX5_settles_58 rfl (lv_at hl 1 rfl) ?_
        refine lv_iconst (v := 1) hx hb dX5_settles_59 (by decide) ?_
        refine lv_isub hx hb dX5_settles_60 ?_
        refine q_cVi (κ := 5) (C := RX5) (T := TX5) (N := 6) [] E hw hm mw_X5_77 (fun u hu => c_X5_settlesBehindn1 hu hv0) rfl (by decide) hv0 rfl rfl hl.1 (Nat.le_of_ble_eq_true rfl) ⟨Nat.le_of_ble_eq_true rfl, Nat.le_of_ble_eq_true rfl⟩ dX5_settles_61 (fun u4 H locs hm hw => ?_)
        refine lv_if_eq (tgt := 69) hx hb dX5_settles_64 (by decide) (fun c5 => ?_) (fun c5 => ?_)
        · have hm := o_t c5 hm
          exact w_X5_settlesn1_69 E hr hlk ih hm hv0 hw (lv_sub hl [0, 1, 2, 3] rfl)
        · have hm := o_f c5 hm
          refine lv_iconst (v := 1) hx hb dX5_settles_67 (by decide) ?_
          exact q_zret E hr hlk hw hm dX5_settles_68
def k_X5_settlesn1_22 : Nat → Nat → Int32 → Int32 → ST → Option (Int32 × ST)
  | 0, _, _, _, _ => none
  | n + 1, v0, v1, v3, σ => if (gI σ v0 4) ≤ v3 then ((ckZ 0).bind fun z => some (z, σ)) else (k_X5_settlesn1_35 (k_X5_settlesn1_22 n) FU v0 v1 v3 (v3 + 1) σ)
set_option maxRecDepth 20000 in
set_option maxHeartbeats 1000000 in
theorem w_X5_settlesn1_22 {p : Program} {l : Launch} {e : Env} {s : State} {m : MethodId} {args : Array Value} {below : List Frame} {meth : Method} {c : Code} {D : va_G} {cy : Nat → ClassId} {b : Nat} (E : CX p m c cX5_settles 5 s args RX5 D cy LC) (hr : meth.sig.returnType = some .boolean) (hlk : meth.locks = false) {r : Int32 × ST} : ∀ (n : Nat) (v0 : Nat) (v1 : Int32) (v3 : Int32) (σ : ST) (H : Heap) (locs : List Loc) (ls : Array Slot), k_X5_settlesn1_22 n v0 v1 v3 σ = some r → LC.1 v0 = 5 → PH D cy LC b σ s H locs → lv_has ls 5 [(0, .ref (b + v0)), (1, .int v1), (3, .int v3)] → W p l e (rmD 3) s m args below meth c H locs 0 0 (MQ below (QcP D cy LC b (some (.int r.1)) r.2) args s 0 0 (inP LC b)) (F0 m 22 ls []) := by
  have hx := E.1.1
  have hb := E.1.2.1
  intro n
  induction n with
  | zero =>
    intro v0 v1 v3 σ H locs ls hm
    cases hm
  | succ n ih =>
    intro v0 v1 v3 σ H locs ls hm hv0 hw hl
    rw [k_X5_settlesn1_22] at hm
    refine lv_iload_n hx hb dX5_settles_22 rfl (lv_at hl 2 rfl) ?_
    refine lv_aload_n hx hb dX5_settles_23 rfl (lv_at hl 0 rfl) ?_
    refine q_geti E hw fw_X5_31 rfl hv0 dX5_settles_24 ?_
    refine lv_icmp_ge (tgt := 81) hx hb dX5_settles_27 (by decide) (fun c6 => ?_) (fun c6 => ?_)
    · have hm := o_t c6 hm
      refine lv_iconst (v := 0) hx hb dX5_settles_81 (by decide) ?_
      exact q_zret E hr hlk hw hm dX5_settles_82
    · have hm := o_f c6 hm
      refine lv_iload_n hx hb dX5_settles_30 rfl (lv_at hl 2 rfl) ?_
      refine lv_iconst (v := 1) hx hb dX5_settles_31 (by decide) ?_
      refine lv_iadd hx hb dX5_settles_32 ?_
      refine lv_istore (lv' := [(4, .int (v3 + 1)), (0, .ref (b + v0)), (1, .int v1), (3, .int v3)]) hx hb dX5_settles_33 hl (by decide) rfl (fun ls hl => ?_)
      exact w_X5_settlesn1_35 E hr hlk ih _ _ _ _ _ _ _ _ _ hm hv0 hw (lv_sub hl [1, 2, 3, 0] rfl)
def f_X5_settlesn1 (v0 : Nat) (v1 : Int32) (σ : ST) : Option (Int32 × ST) :=
  (f_X5_lackingPlaces v0 σ).bind fun u7 =>
  if u7.1 = 0 then ((ckZ 1).bind fun z => some (z, u7.2)) else (if u7.1 ≤ (2 * v1) then (k_X5_settlesn1_22 FU v0 v1 0 u7.2) else ((ckZ 0).bind fun z => some (z, u7.2)))
set_option maxRecDepth 20000 in
set_option maxHeartbeats 1000000 in
theorem w_X5_settlesn1_0 {p : Program} {l : Launch} {e : Env} {s : State} {m : MethodId} {args : Array Value} {below : List Frame} {meth : Method} {c : Code} {D : va_G} {cy : Nat → ClassId} {b : Nat} (E : CX p m c cX5_settles 5 s args RX5 D cy LC) (hr : meth.sig.returnType = some .boolean) (hlk : meth.locks = false) {r : Int32 × ST} {v0 : Nat} {v1 : Int32} {σ : ST} {H : Heap} {locs : List Loc} {ls : Array Slot} (hm : f_X5_settlesn1 v0 v1 σ = some r) (hv0 : LC.1 v0 = 5) (hw : PH D cy LC b σ s H locs) (hl : lv_has ls 5 [(0, .ref (b + v0)), (1, .int v1)]) : W p l e (rmD 3) s m args below meth c H locs 0 0 (MQ below (QcP D cy LC b (some (.int r.1)) r.2) args s 0 0 (inP LC b)) (F0 m 0 ls []) := by
  have hx := E.1.1
  have hb := E.1.2.1
  unfold f_X5_settlesn1 at hm
  refine lv_aload_n hx hb dX5_settles_0 rfl (lv_at hl 0 rfl) ?_
  refine q_cVi (κ := 5) (C := RX5) (T := TX5) (N := 6) [] E hw hm mw_X5_69 (fun u hu => c_X5_lackingPlaces hu hv0) rfl (by decide) hv0 rfl rfl hl.1 (Nat.le_of_ble_eq_true rfl) ⟨Nat.le_of_ble_eq_true rfl, Nat.le_of_ble_eq_true rfl⟩ dX5_settles_1 (fun u7 H locs hm hw => ?_)
  refine lv_istore_n (lv' := [(2, .int u7.1), (0, .ref (b + v0)), (1, .int v1)]) hx hb dX5_settles_4 rfl hl (by decide) rfl (fun ls hl => ?_)
  refine lv_iload_n hx hb dX5_settles_5 rfl (lv_at hl 0 rfl) ?_
  refine lv_if_ne (tgt := 11) hx hb dX5_settles_6 (by decide) (fun c8 => ?_) (fun c8 => ?_)
  · have hm := o_f c8 hm
    refine lv_iload_n hx hb dX5_settles_11 rfl (lv_at hl 0 rfl) ?_
    refine lv_iconst (v := 2) hx hb dX5_settles_12 (by decide) ?_
    refine lv_iload_n hx hb dX5_settles_13 rfl (lv_at hl 2 rfl) ?_
    refine lv_imul hx hb dX5_settles_14 ?_
    refine lv_icmp_le (tgt := 20) hx hb dX5_settles_15 (by decide) (fun c9 => ?_) (fun c9 => ?_)
    · have hm := o_t c9 hm
      refine lv_iconst (v := 0) hx hb dX5_settles_20 (by decide) ?_
      refine lv_istore_n (lv' := [(3, .int 0), (2, .int u7.1), (0, .ref (b + v0)), (1, .int v1)]) hx hb dX5_settles_21 rfl hl (by decide) rfl (fun ls hl => ?_)
      exact w_X5_settlesn1_22 E hr hlk _ _ _ _ _ _ _ _ hm hv0 hw (lv_sub hl [2, 3, 0] rfl)
    · have hm := o_f c9 hm
      refine lv_iconst (v := 0) hx hb dX5_settles_18 (by decide) ?_
      exact q_zret E hr hlk hw hm dX5_settles_19
  · have hm := o_t c8 hm
    refine lv_iconst (v := 1) hx hb dX5_settles_9 (by decide) ?_
    exact q_zret E hr hlk hw hm dX5_settles_10
theorem c_X5_settlesn1 {l : Launch} {D : va_G} {cy : Nat → ClassId} {b : Nat} {v0 : Nat} {v1 : Int32} {σ : ST} {r : Int32 × ST} (hm : f_X5_settlesn1 v0 v1 σ = some r) (hv0 : LC.1 v0 = 5) : Met l yX5_settles (wU yX5_settles cX5_settles 5 (some .boolean)) (rmD 3) (PcP D cy LC b [.ref (b + v0), .int v1] σ) (QcP D cy LC b (some (.int r.1)) r.2) 0 0 (inP LC b) :=
  q_met (lv := [(0, .ref (b + v0)), (1, .int v1)]) LC_ok (by decide) (Nat.le_of_ble_eq_true rfl) rfl (fun _ _ _ _ _ _ _ _ _ E hr hlk hw hl => w_X5_settlesn1_0 E hr hlk hm hv0 hw hl)

def f_X5_settlesBehindn2 (v0 : Nat) (v1 : Int32) (v2 : Int32) (v3 : Int32) (σ : ST) : Option (Int32 × ST) :=
  (ldA LC σ (LC.2.1 v0 2) v1).bind fun a1 =>
  (ldA LC σ (LC.2.1 v0 2) v2).bind fun a2 =>
  (stA LC σ (LC.2.1 v0 2) v1 (a1 ||| a2)).bind fun σ3 =>
  (stA LC σ3 (LC.2.1 v0 2) v2 (a1 ||| a2)).bind fun σ4 =>
  (f_X5_settlesn1 v0 v3 σ4).bind fun u5 =>
  (stA LC u5.2 (LC.2.1 v0 2) v1 a1).bind fun σ6 =>
  (stA LC σ6 (LC.2.1 v0 2) v2 a2).bind fun σ7 =>
  (ckZ u5.1).bind fun z => some (z, σ7)
set_option maxRecDepth 20000 in
set_option maxHeartbeats 1000000 in
theorem w_X5_settlesBehindn2_0 {p : Program} {l : Launch} {e : Env} {s : State} {m : MethodId} {args : Array Value} {below : List Frame} {meth : Method} {c : Code} {D : va_G} {cy : Nat → ClassId} {b : Nat} (E : CX p m c cX5_settlesBehind 7 s args RX5 D cy LC) (hr : meth.sig.returnType = some .boolean) (hlk : meth.locks = false) {r : Int32 × ST} {v0 : Nat} {v1 : Int32} {v2 : Int32} {v3 : Int32} {σ : ST} {H : Heap} {locs : List Loc} {ls : Array Slot} (hm : f_X5_settlesBehindn2 v0 v1 v2 v3 σ = some r) (hv0 : LC.1 v0 = 5) (hw : PH D cy LC b σ s H locs) (hl : lv_has ls 7 [(0, .ref (b + v0)), (1, .int v1), (2, .int v2), (3, .int v3)]) : W p l e (rmD 4) s m args below meth c H locs 0 0 (MQ below (QcP D cy LC b (some (.int r.1)) r.2) args s 0 0 (inP LC b)) (F0 m 0 ls []) := by
  have hx := E.1.1
  have hb := E.1.2.1
  unfold f_X5_settlesBehindn2 at hm
  refine lv_aload_n hx hb dX5_settlesBehind_0 rfl (lv_at hl 0 rfl) ?_
  refine q_geta E hw fw_X5_24 rfl hv0 dX5_settlesBehind_1 ?_
  refine lv_iload_n hx hb dX5_settlesBehind_4 rfl (lv_at hl 1 rfl) ?_
  refine q_iald E hw (tC_5_2 hv0) hm dX5_settlesBehind_5 (fun a1 hm => ?_)
  refine lv_istore (lv' := [(4, .int a1), (0, .ref (b + v0)), (1, .int v1), (2, .int v2), (3, .int v3)]) hx hb dX5_settlesBehind_6 hl (by decide) rfl (fun ls hl => ?_)
  refine lv_aload_n hx hb dX5_settlesBehind_8 rfl (lv_at hl 1 rfl) ?_
  refine q_geta E hw fw_X5_24 rfl hv0 dX5_settlesBehind_9 ?_
  refine lv_iload_n hx hb dX5_settlesBehind_12 rfl (lv_at hl 3 rfl) ?_
  refine q_iald E hw (tC_5_2 hv0) hm dX5_settlesBehind_13 (fun a2 hm => ?_)
  refine lv_istore (lv' := [(5, .int a2), (4, .int a1), (0, .ref (b + v0)), (1, .int v1), (2, .int v2), (3, .int v3)]) hx hb dX5_settlesBehind_14 hl (by decide) rfl (fun ls hl => ?_)
  refine lv_aload_n hx hb dX5_settlesBehind_16 rfl (lv_at hl 2 rfl) ?_
  refine q_geta E hw fw_X5_24 rfl hv0 dX5_settlesBehind_17 ?_
  refine lv_iload_n hx hb dX5_settlesBehind_20 rfl (lv_at hl 3 rfl) ?_
  refine lv_iload hx hb dX5_settlesBehind_21 (lv_at hl 1 rfl) ?_
  refine lv_iload hx hb dX5_settlesBehind_23 (lv_at hl 0 rfl) ?_
  refine lv_ior hx hb dX5_settlesBehind_25 ?_
  refine q_iast E hw (tC_5_2 hv0) hm dX5_settlesBehind_26 (fun σ3 H locs hm hw => ?_)
  refine lv_aload_n hx hb dX5_settlesBehind_27 rfl (lv_at hl 2 rfl) ?_
  refine q_geta E hw fw_X5_24 rfl hv0 dX5_settlesBehind_28 ?_
  refine lv_iload_n hx hb dX5_settlesBehind_31 rfl (lv_at hl 4 rfl) ?_
  refine lv_iload hx hb dX5_settlesBehind_32 (lv_at hl 1 rfl) ?_
  refine lv_iload hx hb dX5_settlesBehind_34 (lv_at hl 0 rfl) ?_
  refine lv_ior hx hb dX5_settlesBehind_36 ?_
  refine q_iast E hw (tC_5_2 hv0) hm dX5_settlesBehind_37 (fun σ4 H locs hm hw => ?_)
  refine lv_aload_n hx hb dX5_settlesBehind_38 rfl (lv_at hl 2 rfl) ?_
  refine lv_iload_n hx hb dX5_settlesBehind_39 rfl (lv_at hl 5 rfl) ?_
  refine q_cSi [] E hw hm ms_X5_42 (fun u hu => c_X5_settlesn1 hu hv0) rfl rfl hl.1 (Nat.le_of_ble_eq_true rfl) ⟨Nat.le_of_ble_eq_true rfl, Nat.le_of_ble_eq_true rfl⟩ dX5_settlesBehind_40 (fun u5 H locs hm hw => ?_)
  refine lv_istore (lv' := [(6, .int u5.1), (5, .int a2), (4, .int a1), (0, .ref (b + v0)), (1, .int v1), (2, .int v2), (3, .int v3)]) hx hb dX5_settlesBehind_43 hl (by decide) rfl (fun ls hl => ?_)
  refine lv_aload_n hx hb dX5_settlesBehind_45 rfl (lv_at hl 3 rfl) ?_
  refine q_geta E hw fw_X5_24 rfl hv0 dX5_settlesBehind_46 ?_
  refine lv_iload_n hx hb dX5_settlesBehind_49 rfl (lv_at hl 4 rfl) ?_
  refine lv_iload hx hb dX5_settlesBehind_50 (lv_at hl 2 rfl) ?_
  refine q_iast E hw (tC_5_2 hv0) hm dX5_settlesBehind_52 (fun σ6 H locs hm hw => ?_)
  refine lv_aload_n hx hb dX5_settlesBehind_53 rfl (lv_at hl 3 rfl) ?_
  refine q_geta E hw fw_X5_24 rfl hv0 dX5_settlesBehind_54 ?_
  refine lv_iload_n hx hb dX5_settlesBehind_57 rfl (lv_at hl 5 rfl) ?_
  refine lv_iload hx hb dX5_settlesBehind_58 (lv_at hl 1 rfl) ?_
  refine q_iast E hw (tC_5_2 hv0) hm dX5_settlesBehind_60 (fun σ7 H locs hm hw => ?_)
  refine lv_iload hx hb dX5_settlesBehind_61 (lv_at hl 0 rfl) ?_
  exact q_zret E hr hlk hw hm dX5_settlesBehind_63
theorem c_X5_settlesBehindn2 {l : Launch} {D : va_G} {cy : Nat → ClassId} {b : Nat} {v0 : Nat} {v1 : Int32} {v2 : Int32} {v3 : Int32} {σ : ST} {r : Int32 × ST} (hm : f_X5_settlesBehindn2 v0 v1 v2 v3 σ = some r) (hv0 : LC.1 v0 = 5) : Met l yX5_settlesBehind (wU yX5_settlesBehind cX5_settlesBehind 7 (some .boolean)) (rmD 4) (PcP D cy LC b [.ref (b + v0), .int v1, .int v2, .int v3] σ) (QcP D cy LC b (some (.int r.1)) r.2) 0 0 (inP LC b) :=
  q_met (lv := [(0, .ref (b + v0)), (1, .int v1), (2, .int v2), (3, .int v3)]) LC_ok (by decide) (Nat.le_of_ble_eq_true rfl) rfl (fun _ _ _ _ _ _ _ _ _ E hr hlk hw hl => w_X5_settlesBehindn2_0 E hr hlk hm hv0 hw hl)

def k_X5_settlesn2_69 (rec35 : Nat → Int32 → Int32 → Int32 → ST → Option (Int32 × ST)) (v0 : Nat) (v1 : Int32) (v3 : Int32) (v4 : Int32) (σ : ST) : Option (Int32 × ST) :=
  rec35 v0 v1 v3 (v4 + 1) σ
set_option maxRecDepth 20000 in
set_option maxHeartbeats 1000000 in
theorem w_X5_settlesn2_69 {p : Program} {l : Launch} {e : Env} {s : State} {m : MethodId} {args : Array Value} {below : List Frame} {meth : Method} {c : Code} {D : va_G} {cy : Nat → ClassId} {b : Nat} (E : CX p m c cX5_settles 5 s args RX5 D cy LC) (hr : meth.sig.returnType = some .boolean) (hlk : meth.locks = false) {r : Int32 × ST} {rec35 : Nat → Int32 → Int32 → Int32 → ST → Option (Int32 × ST)} (hrec35 : ∀ (v0 : Nat) (v1 : Int32) (v3 : Int32) (v4 : Int32) (σ : ST) (H : Heap) (locs : List Loc) (ls : Array Slot), rec35 v0 v1 v3 v4 σ = some r → LC.1 v0 = 5 → PH D cy LC b σ s H locs → lv_has ls 5 [(0, .ref (b + v0)), (1, .int v1), (3, .int v3), (4, .int v4)] → W p l e (rmD 5) s m args below meth c H locs 0 0 (MQ below (QcP D cy LC b (some (.int r.1)) r.2) args s 0 0 (inP LC b)) (F0 m 35 ls [])) {v0 : Nat} {v1 : Int32} {v3 : Int32} {v4 : Int32} {σ : ST} {H : Heap} {locs : List Loc} {ls : Array Slot} (hm : k_X5_settlesn2_69 rec35 v0 v1 v3 v4 σ = some r) (hv0 : LC.1 v0 = 5) (hw : PH D cy LC b σ s H locs) (hl : lv_has ls 5 [(0, .ref (b + v0)), (1, .int v1), (3, .int v3), (4, .int v4)]) : W p l e (rmD 5) s m args below meth c H locs 0 0 (MQ below (QcP D cy LC b (some (.int r.1)) r.2) args s 0 0 (inP LC b)) (F0 m 69 ls []) := by
  have hx := E.1.1
  have hb := E.1.2.1
  unfold k_X5_settlesn2_69 at hm
  refine lv_iinc (v := v4 + 1) (lv' := [(4, .int (v4 + 1)), (0, .ref (b + v0)), (1, .int v1), (3, .int v3)]) hx hb dX5_settles_69 hl (k := 3) rfl rfl (by decide) rfl (fun ls hl => ?_)
  refine lv_goto (tgt := 35) hx hb dX5_settles_72 (by decide) ?_
  exact hrec35 _ _ _ _ _ _ _ _ hm hv0 hw (lv_sub hl [1, 2, 3, 0] rfl)
def k_X5_settlesn2_35 (rec22 : Nat → Int32 → Int32 → ST → Option (Int32 × ST)) : Nat → Nat → Int32 → Int32 → Int32 → ST → Option (Int32 × ST)
  | 0, _, _, _, _, _ => none
  | n + 1, v0, v1, v3, v4, σ => if (gI σ v0 4) ≤ v4 then (rec22 v0 v1 (v3 + 1) σ) else ((f_X5_isOfUse v0 v3 v4 σ).bind fun u2 =>
  if u2.1 = 0 then (k_X5_settlesn2_69 (k_X5_settlesn2_35 rec22 n) v0 v1 v3 v4 u2.2) else ((f_X5_settlesBehindn2 v0 v3 v4 (v1 - 1) u2.2).bind fun u4 =>
  if u4.1 = 0 then (k_X5_settlesn2_69 (k_X5_settlesn2_35 rec22 n) v0 v1 v3 v4 u4.2) else ((ckZ 1).bind fun z => some (z, u4.2))))
set_option maxRecDepth 20000 in
set_option maxHeartbeats 1000000 in
theorem w_X5_settlesn2_35 {p : Program} {l : Launch} {e : Env} {s : State} {m : MethodId} {args : Array Value} {below : List Frame} {meth : Method} {c : Code} {D : va_G} {cy : Nat → ClassId} {b : Nat} (E : CX p m c cX5_settles 5 s args RX5 D cy LC) (hr : meth.sig.returnType = some .boolean) (hlk : meth.locks = false) {r : Int32 × ST} {rec22 : Nat → Int32 → Int32 → ST → Option (Int32 × ST)} (hrec22 : ∀ (v0 : Nat) (v1 : Int32) (v3 : Int32) (σ : ST) (H : Heap) (locs : List Loc) (ls : Array Slot), rec22 v0 v1 v3 σ = some r → LC.1 v0 = 5 → PH D cy LC b σ s H locs → lv_has ls 5 [(0, .ref (b + v0)), (1, .int v1), (3, .int v3)] → W p l e (rmD 5) s m args below meth c H locs 0 0 (MQ below (QcP D cy LC b (some (.int r.1)) r.2) args s 0 0 (inP LC b)) (F0 m 22 ls [])) : ∀ (n : Nat) (v0 : Nat) (v1 : Int32) (v3 : Int32) (v4 : Int32) (σ : ST) (H : Heap) (locs : List Loc) (ls : Array Slot), k_X5_settlesn2_35 rec22 n v0 v1 v3 v4 σ = some r → LC.1 v0 = 5 → PH D cy LC b σ s H locs → lv_has ls 5 [(0, .ref (b + v0)), (1, .int v1), (3, .int v3), (4, .int v4)] → W p l e (rmD 5) s m args below meth c H locs 0 0 (MQ below (QcP D cy LC b (some (.int r.1)) r.2) args s 0 0 (inP LC b)) (F0 m 35 ls []) := by
  have hx := E.1.1
  have hb := E.1.2.1
  intro n
  induction n with
  | zero =>
    intro v0 v1 v3 v4 σ H locs ls hm
    cases hm
  | succ n ih =>
    intro v0 v1 v3 v4 σ H locs ls hm hv0 hw hl
    rw [k_X5_settlesn2_35] at hm
    refine lv_iload hx hb dX5_settles_35 (lv_at hl 3 rfl) ?_
    refine lv_aload_n hx hb dX5_settles_37 rfl (lv_at hl 0 rfl) ?_
    refine q_geti E hw fw_X5_31 rfl hv0 dX5_settles_38 ?_
    refine lv_icmp_ge (tgt := 75) hx hb dX5_settles_41 (by decide) (fun c1 => ?_) (fun c1 => ?_)
    · have hm := o_t c1 hm
      refine lv_iinc (v := v3 + 1) (lv' := [(3, .int (v3 + 1)), (0, .ref (b + v0)), (1, .int v1), (4, .int v4)]) hx hb dX5_settles_75 hl (k := 2) rfl rfl (by decide) rfl (fun ls hl => ?_)
      refine lv_goto (tgt := 22) hx hb dX5_settles_78 (by decide) ?_
      exact hrec22 _ _ _ _ _ _ _ hm hv0 hw (lv_sub hl [1, 2, 0] rfl)
    · have hm := o_f c1 hm
      refine lv_aload_n hx hb dX5_settles_44 rfl (lv_at hl 0 rfl) ?_
      refine lv_iload_n hx hb dX5_settles_45 rfl (lv_at hl 2 rfl) ?_
      refine lv_iload hx hb dX5_settles_46 (lv_at hl 3 rfl) ?_
      refine q_cVi (κ := 5) (C := RX5) (T := TX5) (N := 6) [] E hw hm mw_X5_73 (fun u hu => c_X5_isOfUse hu hv0) rfl (by decide) hv0 rfl rfl hl.1 (Nat.le_of_ble_eq_true rfl) ⟨Nat.le_of_ble_eq_true rfl, Nat.le_of_ble_eq_true rfl⟩ dX5_settles_48 (fun u2 H locs hm hw => ?_)
      refine lv_if_eq (tgt := 69) hx hb dX5_settles_51 (by decide) (fun c3 => ?_) (fun c3 => ?_)
      · have hm := o_t c3 hm
        exact w_X5_settlesn2_69 E hr hlk ih hm hv0 hw (lv_sub hl [0, 1, 2, 3] rfl)
      · have hm := o_f c3 hm
        refine lv_aload_n hx hb dX5_settles_54 rfl (lv_at hl 0 rfl) ?_
        refine lv_iload_n hx hb dX5_settles_55 rfl (lv_at hl 2 rfl) ?_
        refine lv_iload hx hb dX5_settles_56 (lv_at hl 3 rfl) ?_
        refine lv_iload_n hx hb dX5_settles_58 rfl (lv_at hl 1 rfl) ?_
        refine lv_iconst (v := 1) hx hb dX5_settles_59 (by decide) ?_
        refine lv_isub hx hb dX5_settles_60 ?_
        refine q_cVi (κ := 5) (C := RX5) (T := TX5) (N := 6) [] E hw hm mw_X5_77 (fun u hu => c_X5_settlesBehindn2 hu hv0) rfl (by decide) hv0 rfl rfl hl.1 (Nat.le_of_ble_eq_true rfl) ⟨Nat.le_of_ble_eq_true rfl, Nat.le_of_ble_eq_true rfl⟩ dX5_settles_61 (fun u4 H locs hm hw => ?_)
        refine lv_if_eq (tgt := 69) hx hb dX5_settles_64 (by decide) (fun c5 => ?_) (fun c5 => ?_)
        · have hm := o_t c5 hm
          exact w_X5_settlesn2_69 E hr hlk ih hm hv0 hw (lv_sub hl [0, 1, 2, 3] rfl)
        · have hm := o_f c5 hm
          refine lv_iconst (v := 1) hx hb dX5_settles_67 (by decide) ?_
          exact q_zret E hr hlk hw hm dX5_settles_68
def k_X5_settlesn2_22 : Nat → Nat → Int32 → Int32 → ST → Option (Int32 × ST)
  | 0, _, _, _, _ => none
  | n + 1, v0, v1, v3, σ => if (gI σ v0 4) ≤ v3 then ((ckZ 0).bind fun z => some (z, σ)) else (k_X5_settlesn2_35 (k_X5_settlesn2_22 n) FU v0 v1 v3 (v3 + 1) σ)
set_option maxRecDepth 20000 in
set_option maxHeartbeats 1000000 in
theorem w_X5_settlesn2_22 {p : Program} {l : Launch} {e : Env} {s : State} {m : MethodId} {args : Array Value} {below : List Frame} {meth : Method} {c : Code} {D : va_G} {cy : Nat → ClassId} {b : Nat} (E : CX p m c cX5_settles 5 s args RX5 D cy LC) (hr : meth.sig.returnType = some .boolean) (hlk : meth.locks = false) {r : Int32 × ST} : ∀ (n : Nat) (v0 : Nat) (v1 : Int32) (v3 : Int32) (σ : ST) (H : Heap) (locs : List Loc) (ls : Array Slot), k_X5_settlesn2_22 n v0 v1 v3 σ = some r → LC.1 v0 = 5 → PH D cy LC b σ s H locs → lv_has ls 5 [(0, .ref (b + v0)), (1, .int v1), (3, .int v3)] → W p l e (rmD 5) s m args below meth c H locs 0 0 (MQ below (QcP D cy LC b (some (.int r.1)) r.2) args s 0 0 (inP LC b)) (F0 m 22 ls []) := by
  have hx := E.1.1
  have hb := E.1.2.1
  intro n
  induction n with
  | zero =>
    intro v0 v1 v3 σ H locs ls hm
    cases hm
  | succ n ih =>
    intro v0 v1 v3 σ H locs ls hm hv0 hw hl
    rw [k_X5_settlesn2_22] at hm
    refine lv_iload_n hx hb dX5_settles_22 rfl (lv_at hl 2 rfl) ?_
    refine lv_aload_n hx hb dX5_settles_23 rfl (lv_at hl 0 rfl) ?_
    refine q_geti E hw fw_X5_31 rfl hv0 dX5_settles_24 ?_
    refine lv_icmp_ge (tgt := 81) hx hb dX5_settles_27 (by decide) (fun c6 => ?_) (fun c6 => ?_)
    · have hm := o_t c6 hm
      refine lv_iconst (v := 0) hx hb dX5_settles_81 (by decide) ?_
      exact q_zret E hr hlk hw hm dX5_settles_82
    · have hm := o_f c6 hm
      refine lv_iload_n hx hb dX5_settles_30 rfl (lv_at hl 2 rfl) ?_
      refine lv_iconst (v := 1) hx hb dX5_settles_31 (by decide) ?_
      refine lv_iadd hx hb dX5_settles_32 ?_
      refine lv_istore (lv' := [(4, .int (v3 + 1)), (0, .ref (b + v0)), (1, .int v1), (3, .int v3)]) hx hb dX5_settles_33 hl (by decide) rfl (fun ls hl => ?_)
      exact w_X5_settlesn2_35 E hr hlk ih _ _ _ _ _ _ _ _ _ hm hv0 hw (lv_sub hl [1, 2, 3, 0] rfl)
def f_X5_settlesn2 (v0 : Nat) (v1 : Int32) (σ : ST) : Option (Int32 × ST) :=
  (f_X5_lackingPlaces v0 σ).bind fun u7 =>
  if u7.1 = 0 then ((ckZ 1).bind fun z => some (z, u7.2)) else (if u7.1 ≤ (2 * v1) then (k_X5_settlesn2_22 FU v0 v1 0 u7.2) else ((ckZ 0).bind fun z => some (z, u7.2)))
set_option maxRecDepth 20000 in
set_option maxHeartbeats 1000000 in
theorem w_X5_settlesn2_0 {p : Program} {l : Launch} {e : Env} {s : State} {m : MethodId} {args : Array Value} {below : List Frame} {meth : Method} {c : Code} {D : va_G} {cy : Nat → ClassId} {b : Nat} (E : CX p m c cX5_settles 5 s args RX5 D cy LC) (hr : meth.sig.returnType = some .boolean) (hlk : meth.locks = false) {r : Int32 × ST} {v0 : Nat} {v1 : Int32} {σ : ST} {H : Heap} {locs : List Loc} {ls : Array Slot} (hm : f_X5_settlesn2 v0 v1 σ = some r) (hv0 : LC.1 v0 = 5) (hw : PH D cy LC b σ s H locs) (hl : lv_has ls 5 [(0, .ref (b + v0)), (1, .int v1)]) : W p l e (rmD 5) s m args below meth c H locs 0 0 (MQ below (QcP D cy LC b (some (.int r.1)) r.2) args s 0 0 (inP LC b)) (F0 m 0 ls []) := by
  have hx := E.1.1
  have hb := E.1.2.1
  unfold f_X5_settlesn2 at hm
  refine lv_aload_n hx hb dX5_settles_0 rfl (lv_at hl 0 rfl) ?_
  refine q_cVi (κ := 5) (C := RX5) (T := TX5) (N := 6) [] E hw hm mw_X5_69 (fun u hu => c_X5_lackingPlaces hu hv0) rfl (by decide) hv0 rfl rfl hl.1 (Nat.le_of_ble_eq_true rfl) ⟨Nat.le_of_ble_eq_true rfl, Nat.le_of_ble_eq_true rfl⟩ dX5_settles_1 (fun u7 H locs hm hw => ?_)
  refine lv_istore_n (lv' := [(2, .int u7.1), (0, .ref (b + v0)), (1, .int v1)]) hx hb dX5_settles_4 rfl hl (by decide) rfl (fun ls hl => ?_)
  refine lv_iload_n hx hb dX5_settles_5 rfl (lv_at hl 0 rfl) ?_
  refine lv_if_ne (tgt := 11) hx hb dX5_settles_6 (by decide) (fun c8 => ?_) (fun c8 => ?_)
  · have hm := o_f c8 hm
    refine lv_iload_n hx hb dX5_settles_11 rfl (lv_at hl 0 rfl) ?_
    refine lv_iconst (v := 2) hx hb dX5_settles_12 (by decide) ?_
    refine lv_iload_n hx hb dX5_settles_13 rfl (lv_at hl 2 rfl) ?_
    refine lv_imul hx hb dX5_settles_14 ?_
    refine lv_icmp_le (tgt := 20) hx hb dX5_settles_15 (by decide) (fun c9 => ?_) (fun c9 => ?_)
    · have hm := o_t c9 hm
      refine lv_iconst (v := 0) hx hb dX5_settles_20 (by decide) ?_
      refine lv_istore_n (lv' := [(3, .int 0), (2, .int u7.1), (0, .ref (b + v0)), (1, .int v1)]) hx hb dX5_settles_21 rfl hl (by decide) rfl (fun ls hl => ?_)
      exact w_X5_settlesn2_22 E hr hlk _ _ _ _ _ _ _ _ hm hv0 hw (lv_sub hl [2, 3, 0] rfl)
    · have hm := o_f c9 hm
      refine lv_iconst (v := 0) hx hb dX5_settles_18 (by decide) ?_
      exact q_zret E hr hlk hw hm dX5_settles_19
  · have hm := o_t c8 hm
    refine lv_iconst (v := 1) hx hb dX5_settles_9 (by decide) ?_
    exact q_zret E hr hlk hw hm dX5_settles_10
theorem c_X5_settlesn2 {l : Launch} {D : va_G} {cy : Nat → ClassId} {b : Nat} {v0 : Nat} {v1 : Int32} {σ : ST} {r : Int32 × ST} (hm : f_X5_settlesn2 v0 v1 σ = some r) (hv0 : LC.1 v0 = 5) : Met l yX5_settles (wU yX5_settles cX5_settles 5 (some .boolean)) (rmD 5) (PcP D cy LC b [.ref (b + v0), .int v1] σ) (QcP D cy LC b (some (.int r.1)) r.2) 0 0 (inP LC b) :=
  q_met (lv := [(0, .ref (b + v0)), (1, .int v1)]) LC_ok (by decide) (Nat.le_of_ble_eq_true rfl) rfl (fun _ _ _ _ _ _ _ _ _ E hr hlk hw hl => w_X5_settlesn2_0 E hr hlk hm hv0 hw hl)

def f_X5_settlesBehindn3 (v0 : Nat) (v1 : Int32) (v2 : Int32) (v3 : Int32) (σ : ST) : Option (Int32 × ST) :=
  (ldA LC σ (LC.2.1 v0 2) v1).bind fun a1 =>
  (ldA LC σ (LC.2.1 v0 2) v2).bind fun a2 =>
  (stA LC σ (LC.2.1 v0 2) v1 (a1 ||| a2)).bind fun σ3 =>
  (stA LC σ3 (LC.2.1 v0 2) v2 (a1 ||| a2)).bind fun σ4 =>
  (f_X5_settlesn2 v0 v3 σ4).bind fun u5 =>
  (stA LC u5.2 (LC.2.1 v0 2) v1 a1).bind fun σ6 =>
  (stA LC σ6 (LC.2.1 v0 2) v2 a2).bind fun σ7 =>
  (ckZ u5.1).bind fun z => some (z, σ7)
set_option maxRecDepth 20000 in
set_option maxHeartbeats 1000000 in
theorem w_X5_settlesBehindn3_0 {p : Program} {l : Launch} {e : Env} {s : State} {m : MethodId} {args : Array Value} {below : List Frame} {meth : Method} {c : Code} {D : va_G} {cy : Nat → ClassId} {b : Nat} (E : CX p m c cX5_settlesBehind 7 s args RX5 D cy LC) (hr : meth.sig.returnType = some .boolean) (hlk : meth.locks = false) {r : Int32 × ST} {v0 : Nat} {v1 : Int32} {v2 : Int32} {v3 : Int32} {σ : ST} {H : Heap} {locs : List Loc} {ls : Array Slot} (hm : f_X5_settlesBehindn3 v0 v1 v2 v3 σ = some r) (hv0 : LC.1 v0 = 5) (hw : PH D cy LC b σ s H locs) (hl : lv_has ls 7 [(0, .ref (b + v0)), (1, .int v1), (2, .int v2), (3, .int v3)]) : W p l e (rmD 6) s m args below meth c H locs 0 0 (MQ below (QcP D cy LC b (some (.int r.1)) r.2) args s 0 0 (inP LC b)) (F0 m 0 ls []) := by
  have hx := E.1.1
  have hb := E.1.2.1
  unfold f_X5_settlesBehindn3 at hm
  refine lv_aload_n hx hb dX5_settlesBehind_0 rfl (lv_at hl 0 rfl) ?_
  refine q_geta E hw fw_X5_24 rfl hv0 dX5_settlesBehind_1 ?_
  refine lv_iload_n hx hb dX5_settlesBehind_4 rfl (lv_at hl 1 rfl) ?_
  refine q_iald E hw (tC_5_2 hv0) hm dX5_settlesBehind_5 (fun a1 hm => ?_)
  refine lv_istore (lv' := [(4, .int a1), (0, .ref (b + v0)), (1, .int v1), (2, .int v2), (3, .int v3)]) hx hb dX5_settlesBehind_6 hl (by decide) rfl (fun ls hl => ?_)
  refine lv_aload_n hx hb dX5_settlesBehind_8 rfl (lv_at hl 1 rfl) ?_
  refine q_geta E hw fw_X5_24 rfl hv0 dX5_settlesBehind_9 ?_
  refine lv_iload_n hx hb dX5_settlesBehind_12 rfl (lv_at hl 3 rfl) ?_
  refine q_iald E hw (tC_5_2 hv0) hm dX5_settlesBehind_13 (fun a2 hm => ?_)
  refine lv_istore (lv' := [(5, .int a2), (4, .int a1), (0, .ref (b + v0)), (1, .int v1), (2, .int v2), (3, .int v3)]) hx hb dX5_settlesBehind_14 hl (by decide) rfl (fun ls hl => ?_)
  refine lv_aload_n hx hb dX5_settlesBehind_16 rfl (lv_at hl 2 rfl) ?_
  refine q_geta E hw fw_X5_24 rfl hv0 dX5_settlesBehind_17 ?_
  refine lv_iload_n hx hb dX5_settlesBehind_20 rfl (lv_at hl 3 rfl) ?_
  refine lv_iload hx hb dX5_settlesBehind_21 (lv_at hl 1 rfl) ?_
  refine lv_iload hx hb dX5_settlesBehind_23 (lv_at hl 0 rfl) ?_
  refine lv_ior hx hb dX5_settlesBehind_25 ?_
  refine q_iast E hw (tC_5_2 hv0) hm dX5_settlesBehind_26 (fun σ3 H locs hm hw => ?_)
  refine lv_aload_n hx hb dX5_settlesBehind_27 rfl (lv_at hl 2 rfl) ?_
  refine q_geta E hw fw_X5_24 rfl hv0 dX5_settlesBehind_28 ?_
  refine lv_iload_n hx hb dX5_settlesBehind_31 rfl (lv_at hl 4 rfl) ?_
  refine lv_iload hx hb dX5_settlesBehind_32 (lv_at hl 1 rfl) ?_
  refine lv_iload hx hb dX5_settlesBehind_34 (lv_at hl 0 rfl) ?_
  refine lv_ior hx hb dX5_settlesBehind_36 ?_
  refine q_iast E hw (tC_5_2 hv0) hm dX5_settlesBehind_37 (fun σ4 H locs hm hw => ?_)
  refine lv_aload_n hx hb dX5_settlesBehind_38 rfl (lv_at hl 2 rfl) ?_
  refine lv_iload_n hx hb dX5_settlesBehind_39 rfl (lv_at hl 5 rfl) ?_
  refine q_cSi [] E hw hm ms_X5_42 (fun u hu => c_X5_settlesn2 hu hv0) rfl rfl hl.1 (Nat.le_of_ble_eq_true rfl) ⟨Nat.le_of_ble_eq_true rfl, Nat.le_of_ble_eq_true rfl⟩ dX5_settlesBehind_40 (fun u5 H locs hm hw => ?_)
  refine lv_istore (lv' := [(6, .int u5.1), (5, .int a2), (4, .int a1), (0, .ref (b + v0)), (1, .int v1), (2, .int v2), (3, .int v3)]) hx hb dX5_settlesBehind_43 hl (by decide) rfl (fun ls hl => ?_)
  refine lv_aload_n hx hb dX5_settlesBehind_45 rfl (lv_at hl 3 rfl) ?_
  refine q_geta E hw fw_X5_24 rfl hv0 dX5_settlesBehind_46 ?_
  refine lv_iload_n hx hb dX5_settlesBehind_49 rfl (lv_at hl 4 rfl) ?_
  refine lv_iload hx hb dX5_settlesBehind_50 (lv_at hl 2 rfl) ?_
  refine q_iast E hw (tC_5_2 hv0) hm dX5_settlesBehind_52 (fun σ6 H locs hm hw => ?_)
  refine lv_aload_n hx hb dX5_settlesBehind_53 rfl (lv_at hl 3 rfl) ?_
  refine q_geta E hw fw_X5_24 rfl hv0 dX5_settlesBehind_54 ?_
  refine lv_iload_n hx hb dX5_settlesBehind_57 rfl (lv_at hl 5 rfl) ?_
  refine lv_iload hx hb dX5_settlesBehind_58 (lv_at hl 1 rfl) ?_
  refine q_iast E hw (tC_5_2 hv0) hm dX5_settlesBehind_60 (fun σ7 H locs hm hw => ?_)
  refine lv_iload hx hb dX5_settlesBehind_61 (lv_at hl 0 rfl) ?_
  exact q_zret E hr hlk hw hm dX5_settlesBehind_63
theorem c_X5_settlesBehindn3 {l : Launch} {D : va_G} {cy : Nat → ClassId} {b : Nat} {v0 : Nat} {v1 : Int32} {v2 : Int32} {v3 : Int32} {σ : ST} {r : Int32 × ST} (hm : f_X5_settlesBehindn3 v0 v1 v2 v3 σ = some r) (hv0 : LC.1 v0 = 5) : Met l yX5_settlesBehind (wU yX5_settlesBehind cX5_settlesBehind 7 (some .boolean)) (rmD 6) (PcP D cy LC b [.ref (b + v0), .int v1, .int v2, .int v3] σ) (QcP D cy LC b (some (.int r.1)) r.2) 0 0 (inP LC b) :=
  q_met (lv := [(0, .ref (b + v0)), (1, .int v1), (2, .int v2), (3, .int v3)]) LC_ok (by decide) (Nat.le_of_ble_eq_true rfl) rfl (fun _ _ _ _ _ _ _ _ _ E hr hlk hw hl => w_X5_settlesBehindn3_0 E hr hlk hm hv0 hw hl)

def k_X5_settlesn3_69 (rec35 : Nat → Int32 → Int32 → Int32 → ST → Option (Int32 × ST)) (v0 : Nat) (v1 : Int32) (v3 : Int32) (v4 : Int32) (σ : ST) : Option (Int32 × ST) :=
  rec35 v0 v1 v3 (v4 + 1) σ
set_option maxRecDepth 20000 in
set_option maxHeartbeats 1000000 in
theorem w_X5_settlesn3_69 {p : Program} {l : Launch} {e : Env} {s : State} {m : MethodId} {args : Array Value} {below : List Frame} {meth : Method} {c : Code} {D : va_G} {cy : Nat → ClassId} {b : Nat} (E : CX p m c cX5_settles 5 s args RX5 D cy LC) (hr : meth.sig.returnType = some .boolean) (hlk : meth.locks = false) {r : Int32 × ST} {rec35 : Nat → Int32 → Int32 → Int32 → ST → Option (Int32 × ST)} (hrec35 : ∀ (v0 : Nat) (v1 : Int32) (v3 : Int32) (v4 : Int32) (σ : ST) (H : Heap) (locs : List Loc) (ls : Array Slot), rec35 v0 v1 v3 v4 σ = some r → LC.1 v0 = 5 → PH D cy LC b σ s H locs → lv_has ls 5 [(0, .ref (b + v0)), (1, .int v1), (3, .int v3), (4, .int v4)] → W p l e (rmD 7) s m args below meth c H locs 0 0 (MQ below (QcP D cy LC b (some (.int r.1)) r.2) args s 0 0 (inP LC b)) (F0 m 35 ls [])) {v0 : Nat} {v1 : Int32} {v3 : Int32} {v4 : Int32} {σ : ST} {H : Heap} {locs : List Loc} {ls : Array Slot} (hm : k_X5_settlesn3_69 rec35 v0 v1 v3 v4 σ = some r) (hv0 : LC.1 v0 = 5) (hw : PH D cy LC b σ s H locs) (hl : lv_has ls 5 [(0, .ref (b + v0)), (1, .int v1), (3, .int v3), (4, .int v4)]) : W p l e (rmD 7) s m args below meth c H locs 0 0 (MQ below (QcP D cy LC b (some (.int r.1)) r.2) args s 0 0 (inP LC b)) (F0 m 69 ls []) := by
  have hx := E.1.1
  have hb := E.1.2.1
  unfold k_X5_settlesn3_69 at hm
  refine lv_iinc (v := v4 + 1) (lv' := [(4, .int (v4 + 1)), (0, .ref (b + v0)), (1, .int v1), (3, .int v3)]) hx hb dX5_settles_69 hl (k := 3) rfl rfl (by decide) rfl (fun ls hl => ?_)
  refine lv_goto (tgt := 35) hx hb dX5_settles_72 (by decide) ?_
  exact hrec35 _ _ _ _ _ _ _ _ hm hv0 hw (lv_sub hl [1, 2, 3, 0] rfl)
def k_X5_settlesn3_35 (rec22 : Nat → Int32 → Int32 → ST → Option (Int32 × ST)) : Nat → Nat → Int32 → Int32 → Int32 → ST → Option (Int32 × ST)
  | 0, _, _, _, _, _ => none
  | n + 1, v0, v1, v3, v4, σ => if (gI σ v0 4) ≤ v4 then (rec22 v0 v1 (v3 + 1) σ) else ((f_X5_isOfUse v0 v3 v4 σ).bind fun u2 =>
  if u2.1 = 0 then (k_X5_settlesn3_69 (k_X5_settlesn3_35 rec22 n) v0 v1 v3 v4 u2.2) else ((f_X5_settlesBehindn3 v0 v3 v4 (v1 - 1) u2.2).bind fun u4 =>
  if u4.1 = 0 then (k_X5_settlesn3_69 (k_X5_settlesn3_35 rec22 n) v0 v1 v3 v4 u4.2) else ((ckZ 1).bind fun z => some (z, u4.2))))
set_option maxRecDepth 20000 in
set_option maxHeartbeats 1000000 in
theorem w_X5_settlesn3_35 {p : Program} {l : Launch} {e : Env} {s : State} {m : MethodId} {args : Array Value} {below : List Frame} {meth : Method} {c : Code} {D : va_G} {cy : Nat → ClassId} {b : Nat} (E : CX p m c cX5_settles 5 s args RX5 D cy LC) (hr : meth.sig.returnType = some .boolean) (hlk : meth.locks = false) {r : Int32 × ST} {rec22 : Nat → Int32 → Int32 → ST → Option (Int32 × ST)} (hrec22 : ∀ (v0 : Nat) (v1 : Int32) (v3 : Int32) (σ : ST) (H : Heap) (locs : List Loc) (ls : Array Slot), rec22 v0 v1 v3 σ = some r → LC.1 v0 = 5 → PH D cy LC b σ s H locs → lv_has ls 5 [(0, .ref (b + v0)), (1, .int v1), (3, .int v3)] → W p l e (rmD 7) s m args below meth c H locs 0 0 (MQ below (QcP D cy LC b (some (.int r.1)) r.2) args s 0 0 (inP LC b)) (F0 m 22 ls [])) : ∀ (n : Nat) (v0 : Nat) (v1 : Int32) (v3 : Int32) (v4 : Int32) (σ : ST) (H : Heap) (locs : List Loc) (ls : Array Slot), k_X5_settlesn3_35 rec22 n v0 v1 v3 v4 σ = some r → LC.1 v0 = 5 → PH D cy LC b σ s H locs → lv_has ls 5 [(0, .ref (b + v0)), (1, .int v1), (3, .int v3), (4, .int v4)] → W p l e (rmD 7) s m args below meth c H locs 0 0 (MQ below (QcP D cy LC b (some (.int r.1)) r.2) args s 0 0 (inP LC b)) (F0 m 35 ls []) := by
  have hx := E.1.1
  have hb := E.1.2.1
  intro n
  induction n with
  | zero =>
    intro v0 v1 v3 v4 σ H locs ls hm
    cases hm
  | succ n ih =>
    intro v0 v1 v3 v4 σ H locs ls hm hv0 hw hl
    rw [k_X5_settlesn3_35] at hm
    refine lv_iload hx hb dX5_settles_35 (lv_at hl 3 rfl) ?_
    refine lv_aload_n hx hb dX5_settles_37 rfl (lv_at hl 0 rfl) ?_
    refine q_geti E hw fw_X5_31 rfl hv0 dX5_settles_38 ?_
    refine lv_icmp_ge (tgt := 75) hx hb dX5_settles_41 (by decide) (fun c1 => ?_) (fun c1 => ?_)
    · have hm := o_t c1 hm
      refine lv_iinc (v := v3 + 1) (lv' := [(3, .int (v3 + 1)), (0, .ref (b + v0)), (1, .int v1), (4, .int v4)]) hx hb dX5_settles_75 hl (k := 2) rfl rfl (by decide) rfl (fun ls hl => ?_)
      refine lv_goto (tgt := 22) hx hb dX5_settles_78 (by decide) ?_
      exact hrec22 _ _ _ _ _ _ _ hm hv0 hw (lv_sub hl [1, 2, 0] rfl)
    · have hm := o_f c1 hm
      refine lv_aload_n hx hb dX5_settles_44 rfl (lv_at hl 0 rfl) ?_
      refine lv_iload_n hx hb dX5_settles_45 rfl (lv_at hl 2 rfl) ?_
      refine lv_iload hx hb dX5_settles_46 (lv_at hl 3 rfl) ?_
      refine q_cVi (κ := 5) (C := RX5) (T := TX5) (N := 6) [] E hw hm mw_X5_73 (fun u hu => c_X5_isOfUse hu hv0) rfl (by decide) hv0 rfl rfl hl.1 (Nat.le_of_ble_eq_true rfl) ⟨Nat.le_of_ble_eq_true rfl, Nat.le_of_ble_eq_true rfl⟩ dX5_settles_48 (fun u2 H locs hm hw => ?_)
      refine lv_if_eq (tgt := 69) hx hb dX5_settles_51 (by decide) (fun c3 => ?_) (fun c3 => ?_)
      · have hm := o_t c3 hm
        exact w_X5_settlesn3_69 E hr hlk ih hm hv0 hw (lv_sub hl [0, 1, 2, 3] rfl)
      · have hm := o_f c3 hm
        refine lv_aload_n hx hb dX5_settles_54 rfl (lv_at hl 0 rfl) ?_
        refine lv_iload_n hx hb dX5_settles_55 rfl (lv_at hl 2 rfl) ?_
        refine lv_iload hx hb dX5_settles_56 (lv_at hl 3 rfl) ?_
        refine lv_iload_n hx hb dX5_settles_58 rfl (lv_at hl 1 rfl) ?_
        refine lv_iconst (v := 1) hx hb dX5_settles_59 (by decide) ?_
        refine lv_isub hx hb dX5_settles_60 ?_
        refine q_cVi (κ := 5) (C := RX5) (T := TX5) (N := 6) [] E hw hm mw_X5_77 (fun u hu => c_X5_settlesBehindn3 hu hv0) rfl (by decide) hv0 rfl rfl hl.1 (Nat.le_of_ble_eq_true rfl) ⟨Nat.le_of_ble_eq_true rfl, Nat.le_of_ble_eq_true rfl⟩ dX5_settles_61 (fun u4 H locs hm hw => ?_)
        refine lv_if_eq (tgt := 69) hx hb dX5_settles_64 (by decide) (fun c5 => ?_) (fun c5 => ?_)
        · have hm := o_t c5 hm
          exact w_X5_settlesn3_69 E hr hlk ih hm hv0 hw (lv_sub hl [0, 1, 2, 3] rfl)
        · have hm := o_f c5 hm
          refine lv_iconst (v := 1) hx hb dX5_settles_67 (by decide) ?_
          exact q_zret E hr hlk hw hm dX5_settles_68
def k_X5_settlesn3_22 : Nat → Nat → Int32 → Int32 → ST → Option (Int32 × ST)
  | 0, _, _, _, _ => none
  | n + 1, v0, v1, v3, σ => if (gI σ v0 4) ≤ v3 then ((ckZ 0).bind fun z => some (z, σ)) else (k_X5_settlesn3_35 (k_X5_settlesn3_22 n) FU v0 v1 v3 (v3 + 1) σ)
set_option maxRecDepth 20000 in
set_option maxHeartbeats 1000000 in
theorem w_X5_settlesn3_22 {p : Program} {l : Launch} {e : Env} {s : State} {m : MethodId} {args : Array Value} {below : List Frame} {meth : Method} {c : Code} {D : va_G} {cy : Nat → ClassId} {b : Nat} (E : CX p m c cX5_settles 5 s args RX5 D cy LC) (hr : meth.sig.returnType = some .boolean) (hlk : meth.locks = false) {r : Int32 × ST} : ∀ (n : Nat) (v0 : Nat) (v1 : Int32) (v3 : Int32) (σ : ST) (H : Heap) (locs : List Loc) (ls : Array Slot), k_X5_settlesn3_22 n v0 v1 v3 σ = some r → LC.1 v0 = 5 → PH D cy LC b σ s H locs → lv_has ls 5 [(0, .ref (b + v0)), (1, .int v1), (3, .int v3)] → W p l e (rmD 7) s m args below meth c H locs 0 0 (MQ below (QcP D cy LC b (some (.int r.1)) r.2) args s 0 0 (inP LC b)) (F0 m 22 ls []) := by
  have hx := E.1.1
  have hb := E.1.2.1
  intro n
  induction n with
  | zero =>
    intro v0 v1 v3 σ H locs ls hm
    cases hm
  | succ n ih =>
    intro v0 v1 v3 σ H locs ls hm hv0 hw hl
    rw [k_X5_settlesn3_22] at hm
    refine lv_iload_n hx hb dX5_settles_22 rfl (lv_at hl 2 rfl) ?_
    refine lv_aload_n hx hb dX5_settles_23 rfl (lv_at hl 0 rfl) ?_
    refine q_geti E hw fw_X5_31 rfl hv0 dX5_settles_24 ?_
    refine lv_icmp_ge (tgt := 81) hx hb dX5_settles_27 (by decide) (fun c6 => ?_) (fun c6 => ?_)
    · have hm := o_t c6 hm
      refine lv_iconst (v := 0) hx hb dX5_settles_81 (by decide) ?_
      exact q_zret E hr hlk hw hm dX5_settles_82
    · have hm := o_f c6 hm
      refine lv_iload_n hx hb dX5_settles_30 rfl (lv_at hl 2 rfl) ?_
      refine lv_iconst (v := 1) hx hb dX5_settles_31 (by decide) ?_
      refine lv_iadd hx hb dX5_settles_32 ?_
      refine lv_istore (lv' := [(4, .int (v3 + 1)), (0, .ref (b + v0)), (1, .int v1), (3, .int v3)]) hx hb dX5_settles_33 hl (by decide) rfl (fun ls hl => ?_)
      exact w_X5_settlesn3_35 E hr hlk ih _ _ _ _ _ _ _ _ _ hm hv0 hw (lv_sub hl [1, 2, 3, 0] rfl)
def f_X5_settlesn3 (v0 : Nat) (v1 : Int32) (σ : ST) : Option (Int32 × ST) :=
  (f_X5_lackingPlaces v0 σ).bind fun u7 =>
  if u7.1 = 0 then ((ckZ 1).bind fun z => some (z, u7.2)) else (if u7.1 ≤ (2 * v1) then (k_X5_settlesn3_22 FU v0 v1 0 u7.2) else ((ckZ 0).bind fun z => some (z, u7.2)))
set_option maxRecDepth 20000 in
set_option maxHeartbeats 1000000 in
theorem w_X5_settlesn3_0 {p : Program} {l : Launch} {e : Env} {s : State} {m : MethodId} {args : Array Value} {below : List Frame} {meth : Method} {c : Code} {D : va_G} {cy : Nat → ClassId} {b : Nat} (E : CX p m c cX5_settles 5 s args RX5 D cy LC) (hr : meth.sig.returnType = some .boolean) (hlk : meth.locks = false) {r : Int32 × ST} {v0 : Nat} {v1 : Int32} {σ : ST} {H : Heap} {locs : List Loc} {ls : Array Slot} (hm : f_X5_settlesn3 v0 v1 σ = some r) (hv0 : LC.1 v0 = 5) (hw : PH D cy LC b σ s H locs) (hl : lv_has ls 5 [(0, .ref (b + v0)), (1, .int v1)]) : W p l e (rmD 7) s m args below meth c H locs 0 0 (MQ below (QcP D cy LC b (some (.int r.1)) r.2) args s 0 0 (inP LC b)) (F0 m 0 ls []) := by
  have hx := E.1.1
  have hb := E.1.2.1
  unfold f_X5_settlesn3 at hm
  refine lv_aload_n hx hb dX5_settles_0 rfl (lv_at hl 0 rfl) ?_
  refine q_cVi (κ := 5) (C := RX5) (T := TX5) (N := 6) [] E hw hm mw_X5_69 (fun u hu => c_X5_lackingPlaces hu hv0) rfl (by decide) hv0 rfl rfl hl.1 (Nat.le_of_ble_eq_true rfl) ⟨Nat.le_of_ble_eq_true rfl, Nat.le_of_ble_eq_true rfl⟩ dX5_settles_1 (fun u7 H locs hm hw => ?_)
  refine lv_istore_n (lv' := [(2, .int u7.1), (0, .ref (b + v0)), (1, .int v1)]) hx hb dX5_settles_4 rfl hl (by decide) rfl (fun ls hl => ?_)
  refine lv_iload_n hx hb dX5_settles_5 rfl (lv_at hl 0 rfl) ?_
  refine lv_if_ne (tgt := 11) hx hb dX5_settles_6 (by decide) (fun c8 => ?_) (fun c8 => ?_)
  · have hm := o_f c8 hm
    refine lv_iload_n hx hb dX5_settles_11 rfl (lv_at hl 0 rfl) ?_
    refine lv_iconst (v := 2) hx hb dX5_settles_12 (by decide) ?_
    refine lv_iload_n hx hb dX5_settles_13 rfl (lv_at hl 2 rfl) ?_
    refine lv_imul hx hb dX5_settles_14 ?_
    refine lv_icmp_le (tgt := 20) hx hb dX5_settles_15 (by decide) (fun c9 => ?_) (fun c9 => ?_)
    · have hm := o_t c9 hm
      refine lv_iconst (v := 0) hx hb dX5_settles_20 (by decide) ?_
      refine lv_istore_n (lv' := [(3, .int 0), (2, .int u7.1), (0, .ref (b + v0)), (1, .int v1)]) hx hb dX5_settles_21 rfl hl (by decide) rfl (fun ls hl => ?_)
      exact w_X5_settlesn3_22 E hr hlk _ _ _ _ _ _ _ _ hm hv0 hw (lv_sub hl [2, 3, 0] rfl)
    · have hm := o_f c9 hm
      refine lv_iconst (v := 0) hx hb dX5_settles_18 (by decide) ?_
      exact q_zret E hr hlk hw hm dX5_settles_19
  · have hm := o_t c8 hm
    refine lv_iconst (v := 1) hx hb dX5_settles_9 (by decide) ?_
    exact q_zret E hr hlk hw hm dX5_settles_10
theorem c_X5_settlesn3 {l : Launch} {D : va_G} {cy : Nat → ClassId} {b : Nat} {v0 : Nat} {v1 : Int32} {σ : ST} {r : Int32 × ST} (hm : f_X5_settlesn3 v0 v1 σ = some r) (hv0 : LC.1 v0 = 5) : Met l yX5_settles (wU yX5_settles cX5_settles 5 (some .boolean)) (rmD 7) (PcP D cy LC b [.ref (b + v0), .int v1] σ) (QcP D cy LC b (some (.int r.1)) r.2) 0 0 (inP LC b) :=
  q_met (lv := [(0, .ref (b + v0)), (1, .int v1)]) LC_ok (by decide) (Nat.le_of_ble_eq_true rfl) rfl (fun _ _ _ _ _ _ _ _ _ E hr hlk hw hl => w_X5_settlesn3_0 E hr hlk hm hv0 hw hl)

def f_X5_settlesBehindn4 (v0 : Nat) (v1 : Int32) (v2 : Int32) (v3 : Int32) (σ : ST) : Option (Int32 × ST) :=
  (ldA LC σ (LC.2.1 v0 2) v1).bind fun a1 =>
  (ldA LC σ (LC.2.1 v0 2) v2).bind fun a2 =>
  (stA LC σ (LC.2.1 v0 2) v1 (a1 ||| a2)).bind fun σ3 =>
  (stA LC σ3 (LC.2.1 v0 2) v2 (a1 ||| a2)).bind fun σ4 =>
  (f_X5_settlesn3 v0 v3 σ4).bind fun u5 =>
  (stA LC u5.2 (LC.2.1 v0 2) v1 a1).bind fun σ6 =>
  (stA LC σ6 (LC.2.1 v0 2) v2 a2).bind fun σ7 =>
  (ckZ u5.1).bind fun z => some (z, σ7)
set_option maxRecDepth 20000 in
set_option maxHeartbeats 1000000 in
theorem w_X5_settlesBehindn4_0 {p : Program} {l : Launch} {e : Env} {s : State} {m : MethodId} {args : Array Value} {below : List Frame} {meth : Method} {c : Code} {D : va_G} {cy : Nat → ClassId} {b : Nat} (E : CX p m c cX5_settlesBehind 7 s args RX5 D cy LC) (hr : meth.sig.returnType = some .boolean) (hlk : meth.locks = false) {r : Int32 × ST} {v0 : Nat} {v1 : Int32} {v2 : Int32} {v3 : Int32} {σ : ST} {H : Heap} {locs : List Loc} {ls : Array Slot} (hm : f_X5_settlesBehindn4 v0 v1 v2 v3 σ = some r) (hv0 : LC.1 v0 = 5) (hw : PH D cy LC b σ s H locs) (hl : lv_has ls 7 [(0, .ref (b + v0)), (1, .int v1), (2, .int v2), (3, .int v3)]) : W p l e (rmD 8) s m args below meth c H locs 0 0 (MQ below (QcP D cy LC b (some (.int r.1)) r.2) args s 0 0 (inP LC b)) (F0 m 0 ls []) := by
  have hx := E.1.1
  have hb := E.1.2.1
  unfold f_X5_settlesBehindn4 at hm
  refine lv_aload_n hx hb dX5_settlesBehind_0 rfl (lv_at hl 0 rfl) ?_
  refine q_geta E hw fw_X5_24 rfl hv0 dX5_settlesBehind_1 ?_
  refine lv_iload_n hx hb dX5_settlesBehind_4 rfl (lv_at hl 1 rfl) ?_
  refine q_iald E hw (tC_5_2 hv0) hm dX5_settlesBehind_5 (fun a1 hm => ?_)
  refine lv_istore (lv' := [(4, .int a1), (0, .ref (b + v0)), (1, .int v1), (2, .int v2), (3, .int v3)]) hx hb dX5_settlesBehind_6 hl (by decide) rfl (fun ls hl => ?_)
  refine lv_aload_n hx hb dX5_settlesBehind_8 rfl (lv_at hl 1 rfl) ?_
  refine q_geta E hw fw_X5_24 rfl hv0 dX5_settlesBehind_9 ?_
  refine lv_iload_n hx hb dX5_settlesBehind_12 rfl (lv_at hl 3 rfl) ?_
  refine q_iald E hw (tC_5_2 hv0) hm dX5_settlesBehind_13 (fun a2 hm => ?_)
  refine lv_istore (lv' := [(5, .int a2), (4, .int a1), (0, .ref (b + v0)), (1, .int v1), (2, .int v2), (3, .int v3)]) hx hb dX5_settlesBehind_14 hl (by decide) rfl (fun ls hl => ?_)
  refine lv_aload_n hx hb dX5_settlesBehind_16 rfl (lv_at hl 2 rfl) ?_
  refine q_geta E hw fw_X5_24 rfl hv0 dX5_settlesBehind_17 ?_
  refine lv_iload_n hx hb dX5_settlesBehind_20 rfl (lv_at hl 3 rfl) ?_
  refine lv_iload hx hb dX5_settlesBehind_21 (lv_at hl 1 rfl) ?_
  refine lv_iload hx hb dX5_settlesBehind_23 (lv_at hl 0 rfl) ?_
  refine lv_ior hx hb dX5_settlesBehind_25 ?_
  refine q_iast E hw (tC_5_2 hv0) hm dX5_settlesBehind_26 (fun σ3 H locs hm hw => ?_)
  refine lv_aload_n hx hb dX5_settlesBehind_27 rfl (lv_at hl 2 rfl) ?_
  refine q_geta E hw fw_X5_24 rfl hv0 dX5_settlesBehind_28 ?_
  refine lv_iload_n hx hb dX5_settlesBehind_31 rfl (lv_at hl 4 rfl) ?_
  refine lv_iload hx hb dX5_settlesBehind_32 (lv_at hl 1 rfl) ?_
  refine lv_iload hx hb dX5_settlesBehind_34 (lv_at hl 0 rfl) ?_
  refine lv_ior hx hb dX5_settlesBehind_36 ?_
  refine q_iast E hw (tC_5_2 hv0) hm dX5_settlesBehind_37 (fun σ4 H locs hm hw => ?_)
  refine lv_aload_n hx hb dX5_settlesBehind_38 rfl (lv_at hl 2 rfl) ?_
  refine lv_iload_n hx hb dX5_settlesBehind_39 rfl (lv_at hl 5 rfl) ?_
  refine q_cSi [] E hw hm ms_X5_42 (fun u hu => c_X5_settlesn3 hu hv0) rfl rfl hl.1 (Nat.le_of_ble_eq_true rfl) ⟨Nat.le_of_ble_eq_true rfl, Nat.le_of_ble_eq_true rfl⟩ dX5_settlesBehind_40 (fun u5 H locs hm hw => ?_)
  refine lv_istore (lv' := [(6, .int u5.1), (5, .int a2), (4, .int a1), (0, .ref (b + v0)), (1, .int v1), (2, .int v2), (3, .int v3)]) hx hb dX5_settlesBehind_43 hl (by decide) rfl (fun ls hl => ?_)
  refine lv_aload_n hx hb dX5_settlesBehind_45 rfl (lv_at hl 3 rfl) ?_
  refine q_geta E hw fw_X5_24 rfl hv0 dX5_settlesBehind_46 ?_
  refine lv_iload_n hx hb dX5_settlesBehind_49 rfl (lv_at hl 4 rfl) ?_
  refine lv_iload hx hb dX5_settlesBehind_50 (lv_at hl 2 rfl) ?_
  refine q_iast E hw (tC_5_2 hv0) hm dX5_settlesBehind_52 (fun σ6 H locs hm hw => ?_)
  refine lv_aload_n hx hb dX5_settlesBehind_53 rfl (lv_at hl 3 rfl) ?_
  refine q_geta E hw fw_X5_24 rfl hv0 dX5_settlesBehind_54 ?_
  refine lv_iload_n hx hb dX5_settlesBehind_57 rfl (lv_at hl 5 rfl) ?_
  refine lv_iload hx hb dX5_settlesBehind_58 (lv_at hl 1 rfl) ?_
  refine q_iast E hw (tC_5_2 hv0) hm dX5_settlesBehind_60 (fun σ7 H locs hm hw => ?_)
  refine lv_iload hx hb dX5_settlesBehind_61 (lv_at hl 0 rfl) ?_
  exact q_zret E hr hlk hw hm dX5_settlesBehind_63
theorem c_X5_settlesBehindn4 {l : Launch} {D : va_G} {cy : Nat → ClassId} {b : Nat} {v0 : Nat} {v1 : Int32} {v2 : Int32} {v3 : Int32} {σ : ST} {r : Int32 × ST} (hm : f_X5_settlesBehindn4 v0 v1 v2 v3 σ = some r) (hv0 : LC.1 v0 = 5) : Met l yX5_settlesBehind (wU yX5_settlesBehind cX5_settlesBehind 7 (some .boolean)) (rmD 8) (PcP D cy LC b [.ref (b + v0), .int v1, .int v2, .int v3] σ) (QcP D cy LC b (some (.int r.1)) r.2) 0 0 (inP LC b) :=
  q_met (lv := [(0, .ref (b + v0)), (1, .int v1), (2, .int v2), (3, .int v3)]) LC_ok (by decide) (Nat.le_of_ble_eq_true rfl) rfl (fun _ _ _ _ _ _ _ _ _ E hr hlk hw hl => w_X5_settlesBehindn4_0 E hr hlk hm hv0 hw hl)

def k_X5_settlesn4_69 (rec35 : Nat → Int32 → Int32 → Int32 → ST → Option (Int32 × ST)) (v0 : Nat) (v1 : Int32) (v3 : Int32) (v4 : Int32) (σ : ST) : Option (Int32 × ST) :=
  rec35 v0 v1 v3 (v4 + 1) σ
set_option maxRecDepth 20000 in
set_option maxHeartbeats 1000000 in
theorem w_X5_settlesn4_69 {p : Program} {l : Launch} {e : Env} {s : State} {m : MethodId} {args : Array Value} {below : List Frame} {meth : Method} {c : Code} {D : va_G} {cy : Nat → ClassId} {b : Nat} (E : CX p m c cX5_settles 5 s args RX5 D cy LC) (hr : meth.sig.returnType = some .boolean) (hlk : meth.locks = false) {r : Int32 × ST} {rec35 : Nat → Int32 → Int32 → Int32 → ST → Option (Int32 × ST)} (hrec35 : ∀ (v0 : Nat) (v1 : Int32) (v3 : Int32) (v4 : Int32) (σ : ST) (H : Heap) (locs : List Loc) (ls : Array Slot), rec35 v0 v1 v3 v4 σ = some r → LC.1 v0 = 5 → PH D cy LC b σ s H locs → lv_has ls 5 [(0, .ref (b + v0)), (1, .int v1), (3, .int v3), (4, .int v4)] → W p l e (rmD 9) s m args below meth c H locs 0 0 (MQ below (QcP D cy LC b (some (.int r.1)) r.2) args s 0 0 (inP LC b)) (F0 m 35 ls [])) {v0 : Nat} {v1 : Int32} {v3 : Int32} {v4 : Int32} {σ : ST} {H : Heap} {locs : List Loc} {ls : Array Slot} (hm : k_X5_settlesn4_69 rec35 v0 v1 v3 v4 σ = some r) (hv0 : LC.1 v0 = 5) (hw : PH D cy LC b σ s H locs) (hl : lv_has ls 5 [(0, .ref (b + v0)), (1, .int v1), (3, .int v3), (4, .int v4)]) : W p l e (rmD 9) s m args below meth c H locs 0 0 (MQ below (QcP D cy LC b (some (.int r.1)) r.2) args s 0 0 (inP LC b)) (F0 m 69 ls []) := by
  have hx := E.1.1
  have hb := E.1.2.1
  unfold k_X5_settlesn4_69 at hm
  refine lv_iinc (v := v4 + 1) (lv' := [(4, .int (v4 + 1)), (0, .ref (b + v0)), (1, .int v1), (3, .int v3)]) hx hb dX5_settles_69 hl (k := 3) rfl rfl (by decide) rfl (fun ls hl => ?_)
  refine lv_goto (tgt := 35) hx hb dX5_settles_72 (by decide) ?_
  exact hrec35 _ _ _ _ _ _ _ _ hm hv0 hw (lv_sub hl [1, 2, 3, 0] rfl)
def k_X5_settlesn4_35 (rec22 : Nat → Int32 → Int32 → ST → Option (Int32 × ST)) : Nat → Nat → Int32 → Int32 → Int32 → ST → Option (Int32 × ST)
  | 0, _, _, _, _, _ => none
  | n + 1, v0, v1, v3, v4, σ => if (gI σ v0 4) ≤ v4 then (rec22 v0 v1 (v3 + 1) σ) else ((f_X5_isOfUse v0 v3 v4 σ).bind fun u2 =>
  if u2.1 = 0 then (k_X5_settlesn4_69 (k_X5_settlesn4_35 rec22 n) v0 v1 v3 v4 u2.2) else ((f_X5_settlesBehindn4 v0 v3 v4 (v1 - 1) u2.2).bind fun u4 =>
  if u4.1 = 0 then (k_X5_settlesn4_69 (k_X5_settlesn4_35 rec22 n) v0 v1 v3 v4 u4.2) else ((ckZ 1).bind fun z => some (z, u4.2))))
set_option maxRecDepth 20000 in
set_option maxHeartbeats 1000000 in
theorem w_X5_settlesn4_35 {p : Program} {l : Launch} {e : Env} {s : State} {m : MethodId} {args : Array Value} {below : List Frame} {meth : Method} {c : Code} {D : va_G} {cy : Nat → ClassId} {b : Nat} (E : CX p m c cX5_settles 5 s args RX5 D cy LC) (hr : meth.sig.returnType = some .boolean) (hlk : meth.locks = false) {r : Int32 × ST} {rec22 : Nat → Int32 → Int32 → ST → Option (Int32 × ST)} (hrec22 : ∀ (v0 : Nat) (v1 : Int32) (v3 : Int32) (σ : ST) (H : Heap) (locs : List Loc) (ls : Array Slot), rec22 v0 v1 v3 σ = some r → LC.1 v0 = 5 → PH D cy LC b σ s H locs → lv_has ls 5 [(0, .ref (b + v0)), (1, .int v1), (3, .int v3)] → W p l e (rmD 9) s m args below meth c H locs 0 0 (MQ below (QcP D cy LC b (some (.int r.1)) r.2) args s 0 0 (inP LC b)) (F0 m 22 ls [])) : ∀ (n : Nat) (v0 : Nat) (v1 : Int32) (v3 : Int32) (v4 : Int32) (σ : ST) (H : Heap) (locs : List Loc) (ls : Array Slot), k_X5_settlesn4_35 rec22 n v0 v1 v3 v4 σ = some r → LC.1 v0 = 5 → PH D cy LC b σ s H locs → lv_has ls 5 [(0, .ref (b + v0)), (1, .int v1), (3, .int v3), (4, .int v4)] → W p l e (rmD 9) s m args below meth c H locs 0 0 (MQ below (QcP D cy LC b (some (.int r.1)) r.2) args s 0 0 (inP LC b)) (F0 m 35 ls []) := by
  have hx := E.1.1
  have hb := E.1.2.1
  intro n
  induction n with
  | zero =>
    intro v0 v1 v3 v4 σ H locs ls hm
    cases hm
  | succ n ih =>
    intro v0 v1 v3 v4 σ H locs ls hm hv0 hw hl
    rw [k_X5_settlesn4_35] at hm
    refine lv_iload hx hb dX5_settles_35 (lv_at hl 3 rfl) ?_
    refine lv_aload_n hx hb dX5_settles_37 rfl (lv_at hl 0 rfl) ?_
    refine q_geti E hw fw_X5_31 rfl hv0 dX5_settles_38 ?_
    refine lv_icmp_ge (tgt := 75) hx hb dX5_settles_41 (by decide) (fun c1 => ?_) (fun c1 => ?_)
    · have hm := o_t c1 hm
      refine lv_iinc (v := v3 + 1) (lv' := [(3, .int (v3 + 1)), (0, .ref (b + v0)), (1, .int v1), (4, .int v4)]) hx hb dX5_settles_75 hl (k := 2) rfl rfl (by decide) rfl (fun ls hl => ?_)
      refine lv_goto (tgt := 22) hx hb dX5_settles_78 (by decide) ?_
      exact hrec22 _ _ _ _ _ _ _ hm hv0 hw (lv_sub hl [1, 2, 0] rfl)
    · have hm := o_f c1 hm
      refine lv_aload_n hx hb dX5_settles_44 rfl (lv_at hl 0 rfl) ?_
      refine lv_iload_n hx hb dX5_settles_45 rfl (lv_at hl 2 rfl) ?_
      refine lv_iload hx hb dX5_settles_46 (lv_at hl 3 rfl) ?_
      refine q_cVi (κ := 5) (C := RX5) (T := TX5) (N := 6) [] E hw hm mw_X5_73 (fun u hu => c_X5_isOfUse hu hv0) rfl (by decide) hv0 rfl rfl hl.1 (Nat.le_of_ble_eq_true rfl) ⟨Nat.le_of_ble_eq_true rfl, Nat.le_of_ble_eq_true rfl⟩ dX5_settles_48 (fun u2 H locs hm hw => ?_)
      refine lv_if_eq (tgt := 69) hx hb dX5_settles_51 (by decide) (fun c3 => ?_) (fun c3 => ?_)
      · have hm := o_t c3 hm
        exact w_X5_settlesn4_69 E hr hlk ih hm hv0 hw (lv_sub hl [0, 1, 2, 3] rfl)
      · have hm := o_f c3 hm
        refine lv_aload_n hx hb dX5_settles_54 rfl (lv_at hl 0 rfl) ?_
        refine lv_iload_n hx hb dX5_settles_55 rfl (lv_at hl 2 rfl) ?_
        refine lv_iload hx hb dX5_settles_56 (lv_at hl 3 rfl) ?_
        refine lv_iload_n hx hb dX5_settles_58 rfl (lv_at hl 1 rfl) ?_
        refine lv_iconst (v := 1) hx hb dX5_settles_59 (by decide) ?_
        refine lv_isub hx hb dX5_settles_60 ?_
        refine q_cVi (κ := 5) (C := RX5) (T := TX5) (N := 6) [] E hw hm mw_X5_77 (fun u hu => c_X5_settlesBehindn4 hu hv0) rfl (by decide) hv0 rfl rfl hl.1 (Nat.le_of_ble_eq_true rfl) ⟨Nat.le_of_ble_eq_true rfl, Nat.le_of_ble_eq_true rfl⟩ dX5_settles_61 (fun u4 H locs hm hw => ?_)
        refine lv_if_eq (tgt := 69) hx hb dX5_settles_64 (by decide) (fun c5 => ?_) (fun c5 => ?_)
        · have hm := o_t c5 hm
          exact w_X5_settlesn4_69 E hr hlk ih hm hv0 hw (lv_sub hl [0, 1, 2, 3] rfl)
        · have hm := o_f c5 hm
          refine lv_iconst (v := 1) hx hb dX5_settles_67 (by decide) ?_
          exact q_zret E hr hlk hw hm dX5_settles_68
def k_X5_settlesn4_22 : Nat → Nat → Int32 → Int32 → ST → Option (Int32 × ST)
  | 0, _, _, _, _ => none
  | n + 1, v0, v1, v3, σ => if (gI σ v0 4) ≤ v3 then ((ckZ 0).bind fun z => some (z, σ)) else (k_X5_settlesn4_35 (k_X5_settlesn4_22 n) FU v0 v1 v3 (v3 + 1) σ)
set_option maxRecDepth 20000 in
set_option maxHeartbeats 1000000 in
theorem w_X5_settlesn4_22 {p : Program} {l : Launch} {e : Env} {s : State} {m : MethodId} {args : Array Value} {below : List Frame} {meth : Method} {c : Code} {D : va_G} {cy : Nat → ClassId} {b : Nat} (E : CX p m c cX5_settles 5 s args RX5 D cy LC) (hr : meth.sig.returnType = some .boolean) (hlk : meth.locks = false) {r : Int32 × ST} : ∀ (n : Nat) (v0 : Nat) (v1 : Int32) (v3 : Int32) (σ : ST) (H : Heap) (locs : List Loc) (ls : Array Slot), k_X5_settlesn4_22 n v0 v1 v3 σ = some r → LC.1 v0 = 5 → PH D cy LC b σ s H locs → lv_has ls 5 [(0, .ref (b + v0)), (1, .int v1), (3, .int v3)] → W p l e (rmD 9) s m args below meth c H locs 0 0 (MQ below (QcP D cy LC b (some (.int r.1)) r.2) args s 0 0 (inP LC b)) (F0 m 22 ls []) := by
  have hx := E.1.1
  have hb := E.1.2.1
  intro n
  induction n with
  | zero =>
    intro v0 v1 v3 σ H locs ls hm
    cases hm
  | succ n ih =>
    intro v0 v1 v3 σ H locs ls hm hv0 hw hl
    rw [k_X5_settlesn4_22] at hm
    refine lv_iload_n hx hb dX5_settles_22 rfl (lv_at hl 2 rfl) ?_
    refine lv_aload_n hx hb dX5_settles_23 rfl (lv_at hl 0 rfl) ?_
    refine q_geti E hw fw_X5_31 rfl hv0 dX5_settles_24 ?_
    refine lv_icmp_ge (tgt := 81) hx hb dX5_settles_27 (by decide) (fun c6 => ?_) (fun c6 => ?_)
    · have hm := o_t c6 hm
      refine lv_iconst (v := 0) hx hb dX5_settles_81 (by decide) ?_
      exact q_zret E hr hlk hw hm dX5_settles_82
    · have hm := o_f c6 hm
      refine lv_iload_n hx hb dX5_settles_30 rfl (lv_at hl 2 rfl) ?_
      refine lv_iconst (v := 1) hx hb dX5_settles_31 (by decide) ?_
      refine lv_iadd hx hb dX5_settles_32 ?_
      refine lv_istore (lv' := [(4, .int (v3 + 1)), (0, .ref (b + v0)), (1, .int v1), (3, .int v3)]) hx hb dX5_settles_33 hl (by decide) rfl (fun ls hl => ?_)
      exact w_X5_settlesn4_35 E hr hlk ih _ _ _ _ _ _ _ _ _ hm hv0 hw (lv_sub hl [1, 2, 3, 0] rfl)
def f_X5_settlesn4 (v0 : Nat) (v1 : Int32) (σ : ST) : Option (Int32 × ST) :=
  (f_X5_lackingPlaces v0 σ).bind fun u7 =>
  if u7.1 = 0 then ((ckZ 1).bind fun z => some (z, u7.2)) else (if u7.1 ≤ (2 * v1) then (k_X5_settlesn4_22 FU v0 v1 0 u7.2) else ((ckZ 0).bind fun z => some (z, u7.2)))
set_option maxRecDepth 20000 in
set_option maxHeartbeats 1000000 in
theorem w_X5_settlesn4_0 {p : Program} {l : Launch} {e : Env} {s : State} {m : MethodId} {args : Array Value} {below : List Frame} {meth : Method} {c : Code} {D : va_G} {cy : Nat → ClassId} {b : Nat} (E : CX p m c cX5_settles 5 s args RX5 D cy LC) (hr : meth.sig.returnType = some .boolean) (hlk : meth.locks = false) {r : Int32 × ST} {v0 : Nat} {v1 : Int32} {σ : ST} {H : Heap} {locs : List Loc} {ls : Array Slot} (hm : f_X5_settlesn4 v0 v1 σ = some r) (hv0 : LC.1 v0 = 5) (hw : PH D cy LC b σ s H locs) (hl : lv_has ls 5 [(0, .ref (b + v0)), (1, .int v1)]) : W p l e (rmD 9) s m args below meth c H locs 0 0 (MQ below (QcP D cy LC b (some (.int r.1)) r.2) args s 0 0 (inP LC b)) (F0 m 0 ls []) := by
  have hx := E.1.1
  have hb := E.1.2.1
  unfold f_X5_settlesn4 at hm
  refine lv_aload_n hx hb dX5_settles_0 rfl (lv_at hl 0 rfl) ?_
  refine q_cVi (κ := 5) (C := RX5) (T := TX5) (N := 6) [] E hw hm mw_X5_69 (fun u hu => c_X5_lackingPlaces hu hv0) rfl (by decide) hv0 rfl rfl hl.1 (Nat.le_of_ble_eq_true rfl) ⟨Nat.le_of_ble_eq_true rfl, Nat.le_of_ble_eq_true rfl⟩ dX5_settles_1 (fun u7 H locs hm hw => ?_)
  refine lv_istore_n (lv' := [(2, .int u7.1), (0, .ref (b + v0)), (1, .int v1)]) hx hb dX5_settles_4 rfl hl (by decide) rfl (fun ls hl => ?_)
  refine lv_iload_n hx hb dX5_settles_5 rfl (lv_at hl 0 rfl) ?_
  refine lv_if_ne (tgt := 11) hx hb dX5_settles_6 (by decide) (fun c8 => ?_) (fun c8 => ?_)
  · have hm := o_f c8 hm
    refine lv_iload_n hx hb dX5_settles_11 rfl (lv_at hl 0 rfl) ?_
    refine lv_iconst (v := 2) hx hb dX5_settles_12 (by decide) ?_
    refine lv_iload_n hx hb dX5_settles_13 rfl (lv_at hl 2 rfl) ?_
    refine lv_imul hx hb dX5_settles_14 ?_
    refine lv_icmp_le (tgt := 20) hx hb dX5_settles_15 (by decide) (fun c9 => ?_) (fun c9 => ?_)
    · have hm := o_t c9 hm
      refine lv_iconst (v := 0) hx hb dX5_settles_20 (by decide) ?_
      refine lv_istore_n (lv' := [(3, .int 0), (2, .int u7.1), (0, .ref (b + v0)), (1, .int v1)]) hx hb dX5_settles_21 rfl hl (by decide) rfl (fun ls hl => ?_)
      exact w_X5_settlesn4_22 E hr hlk _ _ _ _ _ _ _ _ hm hv0 hw (lv_sub hl [2, 3, 0] rfl)
    · have hm := o_f c9 hm
      refine lv_iconst (v := 0) hx hb dX5_settles_18 (by decide) ?_
      exact q_zret E hr hlk hw hm dX5_settles_19
  · have hm := o_t c8 hm
    refine lv_iconst (v := 1) hx hb dX5_settles_9 (by decide) ?_
    exact q_zret E hr hlk hw hm dX5_settles_10
theorem c_X5_settlesn4 {l : Launch} {D : va_G} {cy : Nat → ClassId} {b : Nat} {v0 : Nat} {v1 : Int32} {σ : ST} {r : Int32 × ST} (hm : f_X5_settlesn4 v0 v1 σ = some r) (hv0 : LC.1 v0 = 5) : Met l yX5_settles (wU yX5_settles cX5_settles 5 (some .boolean)) (rmD 9) (PcP D cy LC b [.ref (b + v0), .int v1] σ) (QcP D cy LC b (some (.int r.1)) r.2) 0 0 (inP LC b) :=
  q_met (lv := [(0, .ref (b + v0)), (1, .int v1)]) LC_ok (by decide) (Nat.le_of_ble_eq_true rfl) rfl (fun _ _ _ _ _ _ _ _ _ E hr hlk hw hl => w_X5_settlesn4_0 E hr hlk hm hv0 hw hl)

def k_X5_fewest_8 : Nat → Nat → Int32 → ST → Option (Int32 × ST)
  | 0, _, _, _ => none
  | n + 1, v0, v3, σ => if 4 < v3 then (some ((-1), σ)) else ((f_X5_settlesn4 v0 v3 σ).bind fun u2 =>
  if u2.1 = 0 then (k_X5_fewest_8 n v0 (v3 + 1) u2.2) else (some (v3, u2.2)))
set_option maxRecDepth 20000 in
set_option maxHeartbeats 1000000 in
theorem w_X5_fewest_8 {p : Program} {l : Launch} {e : Env} {s : State} {m : MethodId} {args : Array Value} {below : List Frame} {meth : Method} {c : Code} {D : va_G} {cy : Nat → ClassId} {b : Nat} (E : CX p m c cX5_fewest 4 s args RX5 D cy LC) (hr : meth.sig.returnType = some .int) (hlk : meth.locks = false) {r : Int32 × ST} : ∀ (n : Nat) (v0 : Nat) (v3 : Int32) (σ : ST) (H : Heap) (locs : List Loc) (ls : Array Slot), k_X5_fewest_8 n v0 v3 σ = some r → LC.1 v0 = 5 → PH D cy LC b σ s H locs → lv_has ls 4 [(0, .ref (b + v0)), (3, .int v3)] → W p l e (rmD 10) s m args below meth c H locs 0 0 (MQ below (QcP D cy LC b (some (.int r.1)) r.2) args s 0 0 (inP LC b)) (F0 m 8 ls []) := by
  have hx := E.1.1
  have hb := E.1.2.1
  intro n
  induction n with
  | zero =>
    intro v0 v3 σ H locs ls hm
    cases hm
  | succ n ih =>
    intro v0 v3 σ H locs ls hm hv0 hw hl
    rw [k_X5_fewest_8] at hm
    refine lv_iload_n hx hb dX5_fewest_8 rfl (lv_at hl 1 rfl) ?_
    refine lv_iconst (v := 4) hx hb dX5_fewest_9 (by decide) ?_
    refine lv_icmp_gt (tgt := 29) hx hb dX5_fewest_10 (by decide) (fun c1 => ?_) (fun c1 => ?_)
    · have hm := o_t c1 hm
      refine lv_iconst (v := (-1)) hx hb dX5_fewest_29 (by decide) ?_
      exact q_iret E hr hlk hw hm dX5_fewest_30
    · have hm := o_f c1 hm
      refine lv_aload_n hx hb dX5_fewest_13 rfl (lv_at hl 0 rfl) ?_
      refine lv_iload_n hx hb dX5_fewest_14 rfl (lv_at hl 1 rfl) ?_
      refine q_cSi [] E hw hm ms_X5_42 (fun u hu => c_X5_settlesn4 hu hv0) rfl rfl hl.1 (Nat.le_of_ble_eq_true rfl) ⟨Nat.le_of_ble_eq_true rfl, Nat.le_of_ble_eq_true rfl⟩ dX5_fewest_15 (fun u2 H locs hm hw => ?_)
      refine lv_if_eq (tgt := 23) hx hb dX5_fewest_18 (by decide) (fun c3 => ?_) (fun c3 => ?_)
      · have hm := o_t c3 hm
        refine lv_iinc (v := v3 + 1) (lv' := [(3, .int (v3 + 1)), (0, .ref (b + v0))]) hx hb dX5_fewest_23 hl (k := 1) rfl rfl (by decide) rfl (fun ls hl => ?_)
        refine lv_goto (tgt := 8) hx hb dX5_fewest_26 (by decide) ?_
        exact ih _ _ _ _ _ _ hm hv0 hw (lv_sub hl [1, 0] rfl)
      · have hm := o_f c3 hm
        refine lv_iload_n hx hb dX5_fewest_21 rfl (lv_at hl 1 rfl) ?_
        exact q_iret E hr hlk hw hm dX5_fewest_22
def f_X5_fewest (v0 : Nat) (v1 : Nat) (v2 : Int32) (σ : ST) : Option (Int32 × ST) :=
  (f_X5_begin v0 v1 v2 σ).bind fun u4 =>
  k_X5_fewest_8 FU v0 0 u4
set_option maxRecDepth 20000 in
set_option maxHeartbeats 1000000 in
theorem w_X5_fewest_0 {p : Program} {l : Launch} {e : Env} {s : State} {m : MethodId} {args : Array Value} {below : List Frame} {meth : Method} {c : Code} {D : va_G} {cy : Nat → ClassId} {b : Nat} (E : CX p m c cX5_fewest 4 s args RX5 D cy LC) (hr : meth.sig.returnType = some .int) (hlk : meth.locks = false) {r : Int32 × ST} {v0 : Nat} {v1 : Nat} {v2 : Int32} {σ : ST} {H : Heap} {locs : List Loc} {ls : Array Slot} (hm : f_X5_fewest v0 v1 v2 σ = some r) (hv0 : LC.1 v0 = 5) (hv1 : LC.1 v1 = 10) (hw : PH D cy LC b σ s H locs) (hl : lv_has ls 4 [(0, .ref (b + v0)), (1, .ref (b + v1)), (2, .int v2)]) : W p l e (rmD 10) s m args below meth c H locs 0 0 (MQ below (QcP D cy LC b (some (.int r.1)) r.2) args s 0 0 (inP LC b)) (F0 m 0 ls []) := by
  have hx := E.1.1
  have hb := E.1.2.1
  unfold f_X5_fewest at hm
  refine lv_aload_n hx hb dX5_fewest_0 rfl (lv_at hl 0 rfl) ?_
  refine lv_aload_n hx hb dX5_fewest_1 rfl (lv_at hl 1 rfl) ?_
  refine lv_iload_n hx hb dX5_fewest_2 rfl (lv_at hl 2 rfl) ?_
  refine q_cVv (κ := 5) (C := RX5) (T := TX5) (N := 6) [] E hw hm mw_X5_38 (fun u hu => c_X5_begin hu hv0 hv1) rfl (by decide) hv0 rfl rfl hl.1 (Nat.le_of_ble_eq_true rfl) ⟨Nat.le_of_ble_eq_true rfl, Nat.le_of_ble_eq_true rfl⟩ dX5_fewest_3 (fun u4 H locs hm hw => ?_)
  refine lv_iconst (v := 0) hx hb dX5_fewest_6 (by decide) ?_
  refine lv_istore_n (lv' := [(3, .int 0), (0, .ref (b + v0)), (1, .ref (b + v1)), (2, .int v2)]) hx hb dX5_fewest_7 rfl hl (by decide) rfl (fun ls hl => ?_)
  exact w_X5_fewest_8 E hr hlk _ _ _ _ _ _ _ hm hv0 hw (lv_sub hl [1, 0] rfl)
theorem c_X5_fewest {l : Launch} {D : va_G} {cy : Nat → ClassId} {b : Nat} {v0 : Nat} {v1 : Nat} {v2 : Int32} {σ : ST} {r : Int32 × ST} (hm : f_X5_fewest v0 v1 v2 σ = some r) (hv0 : LC.1 v0 = 5) (hv1 : LC.1 v1 = 10) : Met l yX5_fewest (wU yX5_fewest cX5_fewest 4 (some .int)) (rmD 10) (PcP D cy LC b [.ref (b + v0), .ref (b + v1), .int v2] σ) (QcP D cy LC b (some (.int r.1)) r.2) 0 0 (inP LC b) :=
  q_met (lv := [(0, .ref (b + v0)), (1, .ref (b + v1)), (2, .int v2)]) LC_ok (by decide) (Nat.le_of_ble_eq_true rfl) rfl (fun _ _ _ _ _ _ _ _ _ E hr hlk hw hl => w_X5_fewest_0 E hr hlk hm hv0 hv1 hw hl)

def k_X6_take_49 (σ : ST) : Option (ST) :=
  some σ
set_option maxRecDepth 20000 in
set_option maxHeartbeats 1000000 in
theorem w_X6_take_49 {p : Program} {l : Launch} {e : Env} {s : State} {m : MethodId} {args : Array Value} {below : List Frame} {meth : Method} {c : Code} {D : va_G} {cy : Nat → ClassId} {b : Nat} (E : CX p m c cX6_take 3 s args RX6 D cy LC) (hr : meth.sig.returnType = none) (hlk : meth.locks = false) {r : ST} {σ : ST} {H : Heap} {locs : List Loc} {ls : Array Slot} (hm : k_X6_take_49  σ = some r) (hw : PH D cy LC b σ s H locs) (hl : lv_has ls 3 []) : W p l e (rmD 0) s m args below meth c H locs 0 0 (MQ below (QcP D cy LC b none r) args s 0 0 (inP LC b)) (F0 m 49 ls []) := by
  have hx := E.1.1
  have hb := E.1.2.1
  unfold k_X6_take_49 at hm
  exact q_vret E hr hlk hw hm dX6_take_49
def k_X6_take_3 : Nat → Nat → Int32 → Int32 → ST → Option (ST)
  | 0, _, _, _, _ => none
  | n + 1, v0, v1, v2, σ => if v2 < 0 then (k_X6_take_49 σ) else (if 900 ≤ (gI σ v0 1) then (k_X6_take_49 σ) else ((stA LC σ (LC.2.1 v0 0) (gI σ v0 1) ((v1 >>> (v2 &&& 31)) &&& 255)).bind fun σ3 =>
  (stI σ3 v0 1 ((gI σ3 v0 1) + 1)).bind fun σ4 =>
  k_X6_take_3 n v0 v1 (v2 + (-8)) σ4))
set_option maxRecDepth 20000 in
set_option maxHeartbeats 1000000 in
theorem w_X6_take_3 {p : Program} {l : Launch} {e : Env} {s : State} {m : MethodId} {args : Array Value} {below : List Frame} {meth : Method} {c : Code} {D : va_G} {cy : Nat → ClassId} {b : Nat} (E : CX p m c cX6_take 3 s args RX6 D cy LC) (hr : meth.sig.returnType = none) (hlk : meth.locks = false) {r : ST} : ∀ (n : Nat) (v0 : Nat) (v1 : Int32) (v2 : Int32) (σ : ST) (H : Heap) (locs : List Loc) (ls : Array Slot), k_X6_take_3 n v0 v1 v2 σ = some r → LC.1 v0 = 6 → PH D cy LC b σ s H locs → lv_has ls 3 [(0, .ref (b + v0)), (1, .int v1), (2, .int v2)] → W p l e (rmD 0) s m args below meth c H locs 0 0 (MQ below (QcP D cy LC b none r) args s 0 0 (inP LC b)) (F0 m 3 ls []) := by
  have hx := E.1.1
  have hb := E.1.2.1
  intro n
  induction n with
  | zero =>
    intro v0 v1 v2 σ H locs ls hm
    cases hm
  | succ n ih =>
    intro v0 v1 v2 σ H locs ls hm hv0 hw hl
    rw [k_X6_take_3] at hm
    refine lv_iload_n hx hb dX6_take_3 rfl (lv_at hl 2 rfl) ?_
    refine lv_if_lt (tgt := 49) hx hb dX6_take_4 (by decide) (fun c1 => ?_) (fun c1 => ?_)
    · have hm := o_t c1 hm
      exact w_X6_take_49 E hr hlk hm  hw (lv_sub hl [] rfl)
    · have hm := o_f c1 hm
      refine lv_aload_n hx hb dX6_take_7 rfl (lv_at hl 0 rfl) ?_
      refine q_geti E hw fw_X6_15 rfl hv0 dX6_take_8 ?_
      refine lv_sipush (v := 900) hx hb dX6_take_11 (by decide) ?_
      refine lv_icmp_ge (tgt := 49) hx hb dX6_take_14 (by decide) (fun c2 => ?_) (fun c2 => ?_)
      · have hm := o_t c2 hm
        exact w_X6_take_49 E hr hlk hm  hw (lv_sub hl [] rfl)
      · have hm := o_f c2 hm
        refine lv_aload_n hx hb dX6_take_17 rfl (lv_at hl 0 rfl) ?_
        refine q_geta E hw fw_X6_9 rfl hv0 dX6_take_18 ?_
        refine lv_aload_n hx hb dX6_take_21 rfl (lv_at hl 0 rfl) ?_
        refine q_geti E hw fw_X6_15 rfl hv0 dX6_take_22 ?_
        refine lv_iload_n hx hb dX6_take_25 rfl (lv_at hl 1 rfl) ?_
        refine lv_iload_n hx hb dX6_take_26 rfl (lv_at hl 2 rfl) ?_
        refine lv_ishr hx hb dX6_take_27 ?_
        refine lv_sipush (v := 255) hx hb dX6_take_28 (by decide) ?_
        refine lv_iand hx hb dX6_take_31 ?_
        refine q_iast E hw (tC_6_0 hv0) hm dX6_take_32 (fun σ3 H locs hm hw => ?_)
        refine lv_aload_n hx hb dX6_take_33 rfl (lv_at hl 0 rfl) ?_
        refine lv_dup hx hb dX6_take_34 rfl ?_
        refine q_geti E hw fw_X6_15 rfl hv0 dX6_take_35 ?_
        refine lv_iconst (v := 1) hx hb dX6_take_38 (by decide) ?_
        refine lv_iadd hx hb dX6_take_39 ?_
        refine q_pi E hw hm fw_X6_15 rfl rfl hv0 dX6_take_40 (fun σ4 H locs hm hw => ?_)
        refine lv_iinc (v := v2 + (-8)) (lv' := [(2, .int (v2 + (-8))), (0, .ref (b + v0)), (1, .int v1)]) hx hb dX6_take_43 hl (k := 2) rfl rfl (by decide) rfl (fun ls hl => ?_)
        refine lv_goto (tgt := 3) hx hb dX6_take_46 (by decide) ?_
        exact ih _ _ _ _ _ _ _ hm hv0 hw (lv_sub hl [1, 2, 0] rfl)
def f_X6_take (v0 : Nat) (v1 : Int32) (σ : ST) : Option (ST) :=
  k_X6_take_3 FU v0 v1 24 σ
set_option maxRecDepth 20000 in
set_option maxHeartbeats 1000000 in
theorem w_X6_take_0 {p : Program} {l : Launch} {e : Env} {s : State} {m : MethodId} {args : Array Value} {below : List Frame} {meth : Method} {c : Code} {D : va_G} {cy : Nat → ClassId} {b : Nat} (E : CX p m c cX6_take 3 s args RX6 D cy LC) (hr : meth.sig.returnType = none) (hlk : meth.locks = false) {r : ST} {v0 : Nat} {v1 : Int32} {σ : ST} {H : Heap} {locs : List Loc} {ls : Array Slot} (hm : f_X6_take v0 v1 σ = some r) (hv0 : LC.1 v0 = 6) (hw : PH D cy LC b σ s H locs) (hl : lv_has ls 3 [(0, .ref (b + v0)), (1, .int v1)]) : W p l e (rmD 0) s m args below meth c H locs 0 0 (MQ below (QcP D cy LC b none r) args s 0 0 (inP LC b)) (F0 m 0 ls []) := by
  have hx := E.1.1
  have hb := E.1.2.1
  unfold f_X6_take at hm
  refine lv_bipush (v := 24) hx hb dX6_take_0 (by decide) ?_
  refine lv_istore_n (lv' := [(2, .int 24), (0, .ref (b + v0)), (1, .int v1)]) hx hb dX6_take_2 rfl hl (by decide) rfl (fun ls hl => ?_)
  exact w_X6_take_3 E hr hlk _ _ _ _ _ _ _ _ hm hv0 hw (lv_sub hl [1, 2, 0] rfl)
theorem c_X6_take {l : Launch} {D : va_G} {cy : Nat → ClassId} {b : Nat} {v0 : Nat} {v1 : Int32} {σ : ST} {r : ST} (hm : f_X6_take v0 v1 σ = some r) (hv0 : LC.1 v0 = 6) : Met l yX6_take (wU yX6_take cX6_take 3 (none)) (rmD 0) (PcP D cy LC b [.ref (b + v0), .int v1] σ) (QcP D cy LC b none r) 0 0 (inP LC b) :=
  q_met (lv := [(0, .ref (b + v0)), (1, .int v1)]) LC_ok (by decide) (Nat.le_of_ble_eq_true rfl) rfl (fun _ _ _ _ _ _ _ _ _ E hr hlk hw hl => w_X6_take_0 E hr hlk hm hv0 hw hl)

def f_X6_open (v0 : Nat) (v1 : Int32) (σ : ST) : Option (ST) :=
  (stI σ v0 1 0).bind fun σ1 =>
  (stI σ1 v0 10 v1).bind fun σ2 =>
  (stI σ2 v0 11 0).bind fun σ3 =>
  (stI σ3 v0 2 0).bind fun σ4 =>
  (stI σ4 v0 3 (-1)).bind fun σ5 =>
  some σ5
set_option maxRecDepth 20000 in
set_option maxHeartbeats 1000000 in
theorem w_X6_open_0 {p : Program} {l : Launch} {e : Env} {s : State} {m : MethodId} {args : Array Value} {below : List Frame} {meth : Method} {c : Code} {D : va_G} {cy : Nat → ClassId} {b : Nat} (E : CX p m c cX6_open 2 s args RX6 D cy LC) (hr : meth.sig.returnType = none) (hlk : meth.locks = false) {r : ST} {v0 : Nat} {v1 : Int32} {σ : ST} {H : Heap} {locs : List Loc} {ls : Array Slot} (hm : f_X6_open v0 v1 σ = some r) (hv0 : LC.1 v0 = 6) (hw : PH D cy LC b σ s H locs) (hl : lv_has ls 2 [(0, .ref (b + v0)), (1, .int v1)]) : W p l e (rmD 0) s m args below meth c H locs 0 0 (MQ below (QcP D cy LC b none r) args s 0 0 (inP LC b)) (F0 m 0 ls []) := by
  have hx := E.1.1
  have hb := E.1.2.1
  unfold f_X6_open at hm
  refine lv_aload_n hx hb dX6_open_0 rfl (lv_at hl 0 rfl) ?_
  refine lv_iconst (v := 0) hx hb dX6_open_1 (by decide) ?_
  refine q_pi E hw hm fw_X6_15 rfl rfl hv0 dX6_open_2 (fun σ1 H locs hm hw => ?_)
  refine lv_aload_n hx hb dX6_open_5 rfl (lv_at hl 0 rfl) ?_
  refine lv_iload_n hx hb dX6_open_6 rfl (lv_at hl 1 rfl) ?_
  refine q_pi E hw hm fw_X6_46 rfl rfl hv0 dX6_open_7 (fun σ2 H locs hm hw => ?_)
  refine lv_aload_n hx hb dX6_open_10 rfl (lv_at hl 0 rfl) ?_
  refine lv_iconst (v := 0) hx hb dX6_open_11 (by decide) ?_
  refine q_pi E hw hm fw_X6_49 rfl rfl hv0 dX6_open_12 (fun σ3 H locs hm hw => ?_)
  refine lv_aload_n hx hb dX6_open_15 rfl (lv_at hl 0 rfl) ?_
  refine lv_iconst (v := 0) hx hb dX6_open_16 (by decide) ?_
  refine q_pi E hw hm fw_X6_19 rfl rfl hv0 dX6_open_17 (fun σ4 H locs hm hw => ?_)
  refine lv_aload_n hx hb dX6_open_20 rfl (lv_at hl 0 rfl) ?_
  refine lv_iconst (v := (-1)) hx hb dX6_open_21 (by decide) ?_
  refine q_pi E hw hm fw_X6_22 rfl rfl hv0 dX6_open_22 (fun σ5 H locs hm hw => ?_)
  exact q_vret E hr hlk hw hm dX6_open_25
theorem c_X6_open {l : Launch} {D : va_G} {cy : Nat → ClassId} {b : Nat} {v0 : Nat} {v1 : Int32} {σ : ST} {r : ST} (hm : f_X6_open v0 v1 σ = some r) (hv0 : LC.1 v0 = 6) : Met l yX6_open (wU yX6_open cX6_open 2 (none)) (rmD 0) (PcP D cy LC b [.ref (b + v0), .int v1] σ) (QcP D cy LC b none r) 0 0 (inP LC b) :=
  q_met (lv := [(0, .ref (b + v0)), (1, .int v1)]) LC_ok (by decide) (Nat.le_of_ble_eq_true rfl) rfl (fun _ _ _ _ _ _ _ _ _ E hr hlk hw hl => w_X6_open_0 E hr hlk hm hv0 hw hl)
