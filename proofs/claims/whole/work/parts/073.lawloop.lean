theorem law_tsw {p : Program} {l : Launch} {e : Env} {R : Room} {s : State} {m : MethodId} {args : Array Value} {below : List Frame} {meth : Method} {c : Code} {H : Heap} {locs : List Loc} {cells slots : Nat} {Q : State → Prop} {cc : ByteArray} {pc : Nat} {ls : Array Slot} {rest : List Value} (hx : p.tables.exec = Jvm.exec) (hb : c.code = cc) {dflt lo hi : Int} {offs : Array Int} {len : Nat} {z : Int32} (v : Int32) {off : Int} (tgt : Nat) (hz : z = v) (hdg : decode cc pc = .ok (.tableswitch dflt lo hi offs, len)) (h1 : ¬ v.toInt < lo) (h2 : ¬ hi < v.toInt) (ho : offs[(v.toInt - lo).toNat]? = some off) (ht : (pc : Int) + off = (tgt : Int))
    (kk : W p l e R s m args below meth c H locs cells slots Q (F0 m tgt ls rest)) : W p l e R s m args below meth c H locs cells slots Q (F0 m pc ls (.int z :: rest)) := by
  subst hz
  exact lv_tableIn hx hb hdg h1 h2 ho ht kk
set_option maxRecDepth 20000 in
set_option maxHeartbeats 4000000 in
/-- one turn of the law's loop -/
theorem law_turn {p : Program} {l : Launch} {e : Env} {s : State} {m : MethodId} {below : List Frame} {meth : Method} {c : Code} {D : va_G} {cy : Nat → ClassId} {b0 b1 b2 i L : Nat} {xs : Nat → Int32} {CEL SLO : Nat} {x3 : Int32} {Rel Rel2 : ST → ST → Prop} (S : i + 6 ≤ L → SIM Rel Rel2) (E : CL p m c s #[Value.ref b0] D cy) (hr : meth.sig.returnType = ret) (hlocks : meth.locks = false) (hcs : CEL ≤ 600000 ∧ SLO ≤ 7302250) (hX : va_X b0 L xs s s.heap) (hbl : b0 < s.heap.size) (hx3 : x3 = nI i) (hi : i ≤ 3100) (hL : L ≤ 3072) {σ τ : ST} {H : Heap} {locs : List Loc} {ls : Array Slot} (hR : Rel σ τ) (hw : LH D cy b1 b2 σ τ s H locs) (hl : lv_has ls 4 [(0, .ref b0), (1, .ref (b1 + 0)), (2, .ref (b2 + 0)), (3, .int x3)])
    (ih : i + 6 ≤ L → ∀ (σ τ : ST) (H : Heap) (locs : List Loc) (ls : Array Slot), Rel2 σ τ → LH D cy b1 b2 σ τ s H locs → lv_has ls 4 [(0, .ref b0), (1, .ref (b1 + 0)), (2, .ref (b2 + 0)), (3, .int x3)] → W p l e room_1 s m #[Value.ref b0] below meth c H locs CEL SLO (lw_Z below #[Value.ref b0] s) (F0 m 1908 ls [])) :
    W p l e room_1 s m #[Value.ref b0] below meth c H locs CEL SLO (lw_Z below #[Value.ref b0] s) (F0 m 18 ls []) := by
  have hx := E.1.1
  have hb := E.1.2.1
  have hbA : ¬ (fun q : Nat => s.heap.size ≤ q) b0 := Nat.not_le.mpr hbl
  refine lv_iload_n hx hb dL_law_18 rfl (lv_at hl 3 rfl) ?_
  refine lv_aload_n hx hb dL_law_19 rfl (lv_at hl 0 rfl) ?_
  refine va_slen hx hb hX hbl hbA hw.2.2.1 dL_law_20 ?_
  refine lv_bipush (v := 6) hx hb dL_law_21 (by decide) ?_
  refine lv_isub hx hb dL_law_23 ?_
  refine lv_icmp_gt (tgt := 1914) hx hb dL_law_24 (by decide) (fun _ => ?_) (fun c1 => ?_)
  · refine lv_iconst (v := 1) hx hb dL_law_1914 (by decide) ?_
    refine va_forget (fun q hq => hw.2.2.1.2.2 q hq) ?_
    refine W.widen (k := 600000) (n := 7302250) hcs.1 hcs.2 ?_
    exact lw_ret hx hb hr hlocks dL_law_1915
  have hiL := law_on hx3 hi hL c1
  have ih := ih hiL
  have hcs2 : CEL ≤ room_1.cells ∧ SLO ≤ room_1.slots := hcs
  refine lv_aload_n hx hb dL_law_27 rfl (lv_at hl 0 rfl) ?_
  refine lv_iload_n hx hb dL_law_28 rfl (lv_at hl 3 rfl) ?_
  refine va_sld hx hb hX hbl hbA hw.2.2.1 (law_in0 hx3 hiL hL) dL_law_29 ?_
  refine lv_bipush (v := 63) hx hb dL_law_30 (by decide) ?_
  refine lv_iand hx hb dL_law_32 ?_
  generalize xs x3.toNatClampNeg &&& 63 = y
  obtain ⟨SM, S0, S1, S2, S3, S4, S5, S6, S7, S8, S9, S10, S11, S12, S13, S14, S15, S16, S17, S18, S19, S20, S21, S22, S23, S24, S25, S26, S27, S28, S29, S30, S31, S32, S33, S34, S35, S36, S37, S38, S39, S40, S41, S42, S43, S44, S45, S46, S47, S48, S49, S50, S51, S52⟩ := S hiL
  by_cases c_0 : y = 0
  · refine law_tsw hx hb 0 260 c_0 dL_law_33 (by decide) (by decide) rfl (by decide) ?_
    exact law_status S0 E hcs2 hX hbl hx3 hiL hL hR hw hl ih
  by_cases c_1 : y = 1
  · refine law_tsw hx hb 1 273 c_1 dL_law_33 (by decide) (by decide) rfl (by decide) ?_
    exact law_top S1 E hcs2 hX hbl hx3 hiL hL hR hw hl ih
  by_cases c_2 : y = 2
  · refine law_tsw hx hb 2 287 c_2 dL_law_33 (by decide) (by decide) rfl (by decide) ?_
    exact law_bottom S2 E hcs2 hX hbl hx3 hiL hL hR hw hl ih
  by_cases c_3 : y = 3
  · refine law_tsw hx hb 3 301 c_3 dL_law_33 (by decide) (by decide) rfl (by decide) ?_
    exact law_tray S3 E hcs2 hX hbl hx3 hiL hL hR hw hl ih
  by_cases c_4 : y = 4
  · refine law_tsw hx hb 4 344 c_4 dL_law_33 (by decide) (by decide) rfl (by decide) ?_
    exact law_write S4 E hcs2 hX hbl hx3 hiL hL hR hw hl ih
  by_cases c_5 : y = 5
  · refine law_tsw hx hb 5 417 c_5 dL_law_33 (by decide) (by decide) rfl (by decide) ?_
    exact law_read S5 E hcs2 hX hbl hx3 hiL hL hR hw hl ih
  by_cases c_6 : y = 6
  · refine law_tsw hx hb 6 451 c_6 dL_law_33 (by decide) (by decide) rfl (by decide) ?_
    exact law_pour S6 E hcs2 hX hbl hx3 hiL hL hR hw hl ih
  by_cases c_7 : y = 7
  · refine law_tsw hx hb 7 514 c_7 dL_law_33 (by decide) (by decide) rfl (by decide) ?_
    exact law_feed S7 E hcs2 hX hbl hx3 hiL hL hR hw hl ih
  by_cases c_8 : y = 8
  · refine law_tsw hx hb 8 577 c_8 dL_law_33 (by decide) (by decide) rfl (by decide) ?_
    exact law_shelf S8 E hcs2 hX hbl hx3 hiL hL hR hw hl ih
  by_cases c_9 : y = 9
  · refine law_tsw hx hb 9 600 c_9 dL_law_33 (by decide) (by decide) rfl (by decide) ?_
    exact law_days S9 E hcs2 hX hbl hx3 hiL hL hR hw hl ih
  by_cases c_10 : y = 10
  · refine law_tsw hx hb 10 623 c_10 dL_law_33 (by decide) (by decide) rfl (by decide) ?_
    exact law_fault S10 E hcs2 hX hbl hx3 hiL hL hR hw hl ih
  by_cases c_11 : y = 11
  · refine law_tsw hx hb 11 646 c_11 dL_law_33 (by decide) (by decide) rfl (by decide) ?_
    exact law_told S11 E hcs2 hX hbl hx3 hiL hL hR hw hl ih
  by_cases c_12 : y = 12
  · refine law_tsw hx hb 12 669 c_12 dL_law_33 (by decide) (by decide) rfl (by decide) ?_
    exact law_row S12 E hcs2 hX hbl hx3 hiL hL hR hw hl ih
  by_cases c_13 : y = 13
  · refine law_tsw hx hb 13 702 c_13 dL_law_33 (by decide) (by decide) rfl (by decide) ?_
    exact law_places S13 E hcs2 hX hbl hx3 hiL hL hR hw hl ih
  by_cases c_14 : y = 14
  · refine law_tsw hx hb 14 725 c_14 dL_law_33 (by decide) (by decide) rfl (by decide) ?_
    exact law_reach S14 E hcs2 hX hbl hx3 hiL hL hR hw hl ih
  by_cases c_15 : y = 15
  · refine law_tsw hx hb 15 758 c_15 dL_law_33 (by decide) (by decide) rfl (by decide) ?_
    exact law_put S15 E hcs2 hX hbl hx3 hiL hL hR hw hl ih
  by_cases c_16 : y = 16
  · refine law_tsw hx hb 16 811 c_16 dL_law_33 (by decide) (by decide) rfl (by decide) ?_
    exact law_strike S16 E hcs2 hX hbl hx3 hiL hL hR hw hl ih
  by_cases c_17 : y = 17
  · refine law_tsw hx hb 17 854 c_17 dL_law_33 (by decide) (by decide) rfl (by decide) ?_
    exact law_add S17 E hcs2 hX hbl hx3 hiL hL hR hw hl ih
  by_cases c_18 : y = 18
  · refine law_tsw hx hb 18 897 c_18 dL_law_33 (by decide) (by decide) rfl (by decide) ?_
    exact law_get S18 E hcs2 hX hbl hx3 hiL hL hR hw hl ih
  by_cases c_19 : y = 19
  · refine law_tsw hx hb 19 940 c_19 dL_law_33 (by decide) (by decide) rfl (by decide) ?_
    exact law_got S19 E hcs2 hX hbl hx3 hiL hL hR hw hl ih
  by_cases c_20 : y = 20
  · refine law_tsw hx hb 20 963 c_20 dL_law_33 (by decide) (by decide) rfl (by decide) ?_
    exact law_isDone S20 E hcs2 hX hbl hx3 hiL hL hR hw hl ih
  by_cases c_21 : y = 21
  · refine law_tsw hx hb 21 976 c_21 dL_law_33 (by decide) (by decide) rfl (by decide) ?_
    exact law_fall S21 E hcs2 hX hbl hx3 hiL hL hR hw hl ih
  by_cases c_22 : y = 22
  · refine law_tsw hx hb 22 1025 c_22 dL_law_33 (by decide) (by decide) rfl (by decide) ?_
    exact law_wipe S22 E hcs2 hX hbl hx3 hiL hL hR hw hl ih
  by_cases c_23 : y = 23
  · refine law_tsw hx hb 23 1048 c_23 dL_law_33 (by decide) (by decide) rfl (by decide) ?_
    exact law_part S23 E hcs2 hX hbl hx3 hiL hL hR hw hl ih
  by_cases c_24 : y = 24
  · refine law_tsw hx hb 24 1071 c_24 dL_law_33 (by decide) (by decide) rfl (by decide) ?_
    exact law_hand S24 E hcs2 hX hbl hx3 hiL hL hR hw hl ih
  by_cases c_25 : y = 25
  · refine law_tsw hx hb 25 1084 c_25 dL_law_33 (by decide) (by decide) rfl (by decide) ?_
    exact law_night S25 E hcs2 hX hbl hx3 hiL hL hR hw hl ih
  by_cases c_26 : y = 26
  · refine law_tsw hx hb 26 1117 c_26 dL_law_33 (by decide) (by decide) rfl (by decide) ?_
    exact law_bury S26 E hcs2 hX hbl hx3 hiL hL hR hw hl ih
  by_cases c_27 : y = 27
  · refine law_tsw hx hb 27 1140 c_27 dL_law_33 (by decide) (by decide) rfl (by decide) ?_
    exact law_twins S27 E hcs2 hX hbl hx3 hiL hL hR hw hl ih
  by_cases c_28 : y = 28
  · refine law_tsw hx hb 28 1173 c_28 dL_law_33 (by decide) (by decide) rfl (by decide) ?_
    exact law_twin S28 E hcs2 hX hbl hx3 hiL hL hR hw hl ih
  by_cases c_29 : y = 29
  · refine law_tsw hx hb 29 1226 c_29 dL_law_33 (by decide) (by decide) rfl (by decide) ?_
    exact law_seen S29 E hcs2 hX hbl hx3 hiL hL hR hw hl ih
  by_cases c_30 : y = 30
  · refine law_tsw hx hb 30 1269 c_30 dL_law_33 (by decide) (by decide) rfl (by decide) ?_
    exact law_partOf S30 E hcs2 hX hbl hx3 hiL hL hR hw hl ih
  by_cases c_31 : y = 31
  · refine law_tsw hx hb 31 1312 c_31 dL_law_33 (by decide) (by decide) rfl (by decide) ?_
    exact law_hints S31 E hcs2 hX hbl hx3 hiL hL hR hw hl ih
  by_cases c_32 : y = 32
  · refine law_tsw hx hb 32 1335 c_32 dL_law_33 (by decide) (by decide) rfl (by decide) ?_
    exact law_ticket S32 E hcs2 hX hbl hx3 hiL hL hR hw hl ih
  by_cases c_33 : y = 33
  · refine law_tsw hx hb 33 1368 c_33 dL_law_33 (by decide) (by decide) rfl (by decide) ?_
    exact law_like S33 E hcs2 hX hbl hx3 hiL hL hR hw hl ih
  by_cases c_34 : y = 34
  · refine law_tsw hx hb 34 1411 c_34 dL_law_33 (by decide) (by decide) rfl (by decide) ?_
    exact law_alike S34 E hcs2 hX hbl hx3 hiL hL hR hw hl ih
  by_cases c_35 : y = 35
  · refine law_tsw hx hb 35 1424 c_35 dL_law_33 (by decide) (by decide) rfl (by decide) ?_
    exact law_differ S35 E hcs2 hX hbl hx3 hiL hL hR hw hl ih
  by_cases c_36 : y = 36
  · refine law_tsw hx hb 36 1457 c_36 dL_law_33 (by decide) (by decide) rfl (by decide) ?_
    exact law_root S36 E hcs2 hX hbl hx3 hiL hL hR hw hl ih
  by_cases c_37 : y = 37
  · refine law_tsw hx hb 37 1480 c_37 dL_law_33 (by decide) (by decide) rfl (by decide) ?_
    exact law_fresh S37 E hcs2 hX hbl hx3 hiL hL hR hw hl ih
  by_cases c_38 : y = 38
  · refine law_tsw hx hb 38 1503 c_38 dL_law_33 (by decide) (by decide) rfl (by decide) ?_
    exact law_late S38 E hcs2 hX hbl hx3 hiL hL hR hw hl ih
  by_cases c_39 : y = 39
  · refine law_tsw hx hb 39 1536 c_39 dL_law_33 (by decide) (by decide) rfl (by decide) ?_
    exact law_load S39 E hcs2 hX hbl hx3 hiL hL hR hw hl ih
  by_cases c_40 : y = 40
  · refine law_tsw hx hb 40 1559 c_40 dL_law_33 (by decide) (by decide) rfl (by decide) ?_
    exact law_moved S40 E hcs2 hX hbl hx3 hiL hL hR hw hl ih
  by_cases c_41 : y = 41
  · refine law_tsw hx hb 41 1582 c_41 dL_law_33 (by decide) (by decide) rfl (by decide) ?_
    exact law_nights S41 E hcs2 hX hbl hx3 hiL hL hR hw hl ih
  by_cases c_42 : y = 42
  · refine law_tsw hx hb 42 1605 c_42 dL_law_33 (by decide) (by decide) rfl (by decide) ?_
    exact law_safe S42 E hcs2 hX hbl hx3 hiL hL hR hw hl ih
  by_cases c_43 : y = 43
  · refine law_tsw hx hb 43 1638 c_43 dL_law_33 (by decide) (by decide) rfl (by decide) ?_
    exact law_holders S43 E hcs2 hX hbl hx3 hiL hL hR hw hl ih
  by_cases c_44 : y = 44
  · refine law_tsw hx hb 44 1671 c_44 dL_law_33 (by decide) (by decide) rfl (by decide) ?_
    exact law_lost S44 E hcs2 hX hbl hx3 hiL hL hR hw hl ih
  by_cases c_45 : y = 45
  · refine law_tsw hx hb 45 1694 c_45 dL_law_33 (by decide) (by decide) rfl (by decide) ?_
    exact law_answers S45 E hcs2 hX hbl hx3 hiL hL hR hw hl ih
  by_cases c_46 : y = 46
  · refine law_tsw hx hb 46 1727 c_46 dL_law_33 (by decide) (by decide) rfl (by decide) ?_
    exact law_odds S46 E hcs2 hX hbl hx3 hiL hL hR hw hl ih
  by_cases c_47 : y = 47
  · refine law_tsw hx hb 47 1770 c_47 dL_law_33 (by decide) (by decide) rfl (by decide) ?_
    exact law_fewestFalls S47 E hcs2 hX hbl hx3 hiL hL hR hw hl ih
  by_cases c_48 : y = 48
  · refine law_tsw hx hb 48 1803 c_48 dL_law_33 (by decide) (by decide) rfl (by decide) ?_
    exact law_live S48 E hcs2 hX hbl hx3 hiL hL hR hw hl ih
  by_cases c_49 : y = 49
  · refine law_tsw hx hb 49 1826 c_49 dL_law_33 (by decide) (by decide) rfl (by decide) ?_
    exact law_lived S49 E hcs2 hX hbl hx3 hiL hL hR hw hl ih
  by_cases c_50 : y = 50
  · refine law_tsw hx hb 50 1849 c_50 dL_law_33 (by decide) (by decide) rfl (by decide) ?_
    exact law_agreed S50 E hcs2 hX hbl hx3 hiL hL hR hw hl ih
  by_cases c_51 : y = 51
  · refine law_tsw hx hb 51 1882 c_51 dL_law_33 (by decide) (by decide) rfl (by decide) ?_
    exact law_mark S51 E hcs2 hX hbl hx3 hiL hL hR hw hl ih
  by_cases c_52 : y = 52
  · refine law_tsw hx hb 52 1895 c_52 dL_law_33 (by decide) (by decide) rfl (by decide) ?_
    exact law_back S52 E hcs2 hX hbl hx3 hiL hL hR hw hl ih
  have t_0 := lv_neT (a := 0) c_0 (by decide)
  have t_1 := lv_neT (a := 1) c_1 (by decide)
  have t_2 := lv_neT (a := 2) c_2 (by decide)
  have t_3 := lv_neT (a := 3) c_3 (by decide)
  have t_4 := lv_neT (a := 4) c_4 (by decide)
  have t_5 := lv_neT (a := 5) c_5 (by decide)
  have t_6 := lv_neT (a := 6) c_6 (by decide)
  have t_7 := lv_neT (a := 7) c_7 (by decide)
  have t_8 := lv_neT (a := 8) c_8 (by decide)
  have t_9 := lv_neT (a := 9) c_9 (by decide)
  have t_10 := lv_neT (a := 10) c_10 (by decide)
  have t_11 := lv_neT (a := 11) c_11 (by decide)
  have t_12 := lv_neT (a := 12) c_12 (by decide)
  have t_13 := lv_neT (a := 13) c_13 (by decide)
  have t_14 := lv_neT (a := 14) c_14 (by decide)
  have t_15 := lv_neT (a := 15) c_15 (by decide)
  have t_16 := lv_neT (a := 16) c_16 (by decide)
  have t_17 := lv_neT (a := 17) c_17 (by decide)
  have t_18 := lv_neT (a := 18) c_18 (by decide)
  have t_19 := lv_neT (a := 19) c_19 (by decide)
  have t_20 := lv_neT (a := 20) c_20 (by decide)
  have t_21 := lv_neT (a := 21) c_21 (by decide)
  have t_22 := lv_neT (a := 22) c_22 (by decide)
  have t_23 := lv_neT (a := 23) c_23 (by decide)
  have t_24 := lv_neT (a := 24) c_24 (by decide)
  have t_25 := lv_neT (a := 25) c_25 (by decide)
  have t_26 := lv_neT (a := 26) c_26 (by decide)
  have t_27 := lv_neT (a := 27) c_27 (by decide)
  have t_28 := lv_neT (a := 28) c_28 (by decide)
  have t_29 := lv_neT (a := 29) c_29 (by decide)
  have t_30 := lv_neT (a := 30) c_30 (by decide)
  have t_31 := lv_neT (a := 31) c_31 (by decide)
  have t_32 := lv_neT (a := 32) c_32 (by decide)
  have t_33 := lv_neT (a := 33) c_33 (by decide)
  have t_34 := lv_neT (a := 34) c_34 (by decide)
  have t_35 := lv_neT (a := 35) c_35 (by decide)
  have t_36 := lv_neT (a := 36) c_36 (by decide)
  have t_37 := lv_neT (a := 37) c_37 (by decide)
  have t_38 := lv_neT (a := 38) c_38 (by decide)
  have t_39 := lv_neT (a := 39) c_39 (by decide)
  have t_40 := lv_neT (a := 40) c_40 (by decide)
  have t_41 := lv_neT (a := 41) c_41 (by decide)
  have t_42 := lv_neT (a := 42) c_42 (by decide)
  have t_43 := lv_neT (a := 43) c_43 (by decide)
  have t_44 := lv_neT (a := 44) c_44 (by decide)
  have t_45 := lv_neT (a := 45) c_45 (by decide)
  have t_46 := lv_neT (a := 46) c_46 (by decide)
  have t_47 := lv_neT (a := 47) c_47 (by decide)
  have t_48 := lv_neT (a := 48) c_48 (by decide)
  have t_49 := lv_neT (a := 49) c_49 (by decide)
  have t_50 := lv_neT (a := 50) c_50 (by decide)
  have t_51 := lv_neT (a := 51) c_51 (by decide)
  have t_52 := lv_neT (a := 52) c_52 (by decide)
  refine lv_tableOut (tgt := 1908) hx hb dL_law_33 (by omega) (by decide) ?_
  exact ih _ _ _ _ _ (SM _ _ hR) hw hl
/-- THE LAW'S LOOP, over a Rel that every call keeps -/
theorem law_loop {p : Program} {l : Launch} {e : Env} {s : State} {m : MethodId} {below : List Frame} {meth : Method} {c : Code} {D : va_G} {cy : Nat → ClassId} {b0 b1 b2 L : Nat} {xs : Nat → Int32} {CEL SLO : Nat} {Rel : Nat → ST → ST → Prop} (S : ∀ i, i + 6 ≤ 3072 → SIM (Rel i) (Rel (i + 6))) (E : CL p m c s #[Value.ref b0] D cy) (hr : meth.sig.returnType = ret) (hlocks : meth.locks = false) (hcs : CEL ≤ 600000 ∧ SLO ≤ 7302250) (hX : va_X b0 L xs s s.heap) (hbl : b0 < s.heap.size) (hL : L ≤ 3072) :
    ∀ (n i : Nat) (x3 : Int32) (σ τ : ST) (H : Heap) (locs : List Loc) (ls : Array Slot), L < i + 6 * n + 6 → i ≤ 3100 → x3 = nI i → Rel i σ τ → LH D cy b1 b2 σ τ s H locs → lv_has ls 4 [(0, .ref b0), (1, .ref (b1 + 0)), (2, .ref (b2 + 0)), (3, .int x3)] → W p l e room_1 s m #[Value.ref b0] below meth c H locs CEL SLO (lw_Z below #[Value.ref b0] s) (F0 m 18 ls []) := by
  have hx := E.1.1
  have hb := E.1.2.1
  intro n
  induction n with
  | zero =>
    intro i x3 σ τ H locs ls hn hi hx3 hR hw hl
    exact law_turn (Rel2 := Rel (i + 6)) (fun h => S i (by omega)) E hr hlocks hcs hX hbl hx3 hi hL hR hw hl (fun h => absurd h (by omega))
  | succ n IH =>
    intro i x3 σ τ H locs ls hn hi hx3 hR hw hl
    refine law_turn (fun h => S i (by omega)) E hr hlocks hcs hX hbl hx3 hi hL hR hw hl (fun hiL σ τ H locs ls hR hw hl => ?_)
    refine lv_iinc (v := x3 + 6) (lv' := [(3, .int (x3 + 6)), (0, .ref b0), (1, .ref (b1 + 0)), (2, .ref (b2 + 0))]) hx hb dL_law_1908 hl (k := 3) rfl rfl (by decide) rfl (fun ls hl => ?_)
    refine lv_goto (tgt := 18) hx hb dL_law_1911 (by decide) ?_
    exact IH (i + 6) (x3 + 6) σ τ H locs ls (by omega) (by omega) (by rw [hx3]; exact (nI_add i 6)) hR hw (lv_sub hl [1, 2, 3, 0] rfl)
