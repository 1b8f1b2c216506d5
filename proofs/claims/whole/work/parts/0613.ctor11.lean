def QcN (D : va_G) (cy : Nat → ClassId) (a : Nat) (σ : ST) : Array Value → State → Outcome → State → Prop := fun _ st o t => o = .returned none ∧ va_P D vwCl (wsP cy LC a σ) t.heap ∧ t.heap.size = a + 194 ∧ va_F (zA a 194) st t
set_option maxRecDepth 100000 in
set_option maxHeartbeats 8000000 in
theorem zc_X11_init {l : Launch} {D : va_G} {cy : Nat → ClassId} {a : Nat} : Met l yX11_init (wU yX11_init cX11_init 2 none) (rmZ 3 193 30923) (PcZ D cy a [.ref a] [(a, .inr (11, [.null, .null, .null, .null, .null, .null, .null, .null, .null, .null, .null, .null, .null, .null, .int 0, .long 0, .long 0, .int 0, .int 0, .int 0]))]) (QcN D cy a s0C) 193 30923 (zA a 194) := by
  refine Met.ofW (cc := cX11_init) (maxL := 2) (ret := none) (by decide) rfl ?_
  intro p e s m args below meth c s₁ B hml hv
  obtain ⟨rfl, hK, hN, hz, hP⟩ := hv
  have hts := atoms_spec (ws := wU yX11_init cX11_init 2 none) B.pre
  have hl := lv_entry [.ref a] (n := 2) (Nat.le_of_ble_eq_true rfl)
  rw [lg_entry_eq]
  generalize (lg_sl ([.ref a]) ++ List.replicate (2 - (lg_sl ([.ref a])).length) Slot.unset).toArray = ls at hl ⊢
  have hl : lv_has ls 2 [(0, .ref a)] := hl
  have E : CZ p m c cX11_init 2 s [Value.ref a].toArray RX11 D cy := ⟨⟨B.exec, B.bytes, hml, findClass_of_methodNamed B.named, fun w h => hts w (List.mem_cons_of_mem _ h)⟩, hK, hN⟩
  have hr := B.returns
  have hlk := B.notSynchronized
  have hin : meth.name = "<init>" := (name_of_methodNamed B.named B.method).1
  have hw : ZH D ((a, .inr (11, [.null, .null, .null, .null, .null, .null, .null, .null, .null, .null, .null, .null, .null, .null, .int 0, .long 0, .long 0, .int 0, .int 0, .int 0])) :: []) a 194 (a + 1) s s.heap [] := ⟨hP, zD_of rfl (Nat.le_of_ble_eq_true rfl), va_S.rf, hz⟩
  have hx := E.1.1
  have hb := E.1.2.1
  refine lv_aload_n hx hb dX11_init_0 rfl (lv_at hl 0 rfl) ?_
  refine W.objInit hx hb E.1.2.2.2.1 (E.1.2.2.2.2 _ (rL1 _ (List.mem_of_getElem? (i := 10) rfl))) (E.1.2.2.2.2 _ (rL1 _ (List.mem_of_getElem? (i := 11) rfl))) (E.1.2.2.2.2 _ (rL1 _ (List.mem_of_getElem? (i := 12) rfl))) rfl (hl.1.trans E.1.2.2.1.symm) rfl dX11_init_1 (Nat.le_of_ble_eq_true rfl) (Nat.le_of_ble_eq_true rfl) ?_
  refine W.eq (g2 := F0 m 4 ls []) rfl ?_
  refine lv_aload_n hx hb dX11_init_4 rfl (lv_at hl 0 rfl) ?_
  refine lv_iconst (v := 4) hx hb dX11_init_5 (by decide) ?_
  refine y_anew (a + 2) rfl (N' := 4) (C := RX9) E hw 4 rfl (rL1 _ (List.mem_of_getElem? (i := 13) rfl)) E.2.2.2.1 (by decide) (by decide) (by decide) ⟨by omega, by omega⟩ (Nat.le_of_ble_eq_true rfl) (Nat.le_of_ble_eq_true rfl) dX11_init_6 (fun H hw => ?_)
  have hw := ZH_1 hw
  refine y_putF [.ref (a + 1), .null, .null, .null, .null, .null, .null, .null, .null, .null, .null, .null, .null, .null, .int 0, .long 0, .long 0, .int 0, .int 0, .int 0] rfl E hw fz_X11_11 rfl hin rfl rfl rfl (Nat.le_of_ble_eq_true rfl) dX11_init_9 (fun H locs hw => ?_)
  refine lv_aload_n hx hb dX11_init_12 rfl (lv_at hl 0 rfl) ?_
  refine y_new (a + 3) rfl (κ := 6) (C := RX6) (T := TX6) (N := 12) (fs := [.null, .int 0, .int 0, .int 0, .int 0, .int 0, .int 0, .int 0, .int 0, .long 0, .int 0, .int 0]) E hw rfl rfl inlX6 tyX6_ok (rL1 _ (List.mem_of_getElem? (i := 15) rfl)) (rL1 _ (List.mem_of_getElem? (i := 16) rfl)) (rL1 _ (List.mem_of_getElem? (i := 17) rfl)) (by decide +kernel) ⟨by omega, by omega⟩ (Nat.le_of_ble_eq_true rfl) (Nat.le_of_ble_eq_true rfl) dX11_init_13 (fun H hw => ?_)
  refine lv_dup hx hb dX11_init_16 rfl ?_
  refine y_initN (a + 4) [.ref (a + 2), .ref a] E hw rfl rfl (nn := 0) (zc_X6_init (a := (a + 2))) (List.mem_of_getElem? (i := 1) rfl) (rL3 _ (List.mem_of_getElem? (i := 14) rfl)) (rL3 _ (List.mem_of_getElem? (i := 15) rfl)) (rL1 _ (List.mem_of_getElem? (i := 17) rfl)) ⟨rfl, by decide, by decide, by decide +kernel⟩ rfl rfl hl.1 (Nat.le_of_ble_eq_true rfl) ⟨Nat.le_of_ble_eq_true rfl, Nat.le_of_ble_eq_true rfl⟩ ⟨Nat.le_of_ble_eq_true rfl, Nat.le_of_ble_eq_true rfl⟩ dX11_init_17 zD_X6_init ⟨by omega, by omega⟩ (fun H locs hw => ?_)
  have hw := ZH_n1 hw
  refine y_putF [.ref (a + 1), .ref (a + 2), .null, .null, .null, .null, .null, .null, .null, .null, .null, .null, .null, .null, .int 0, .long 0, .long 0, .int 0, .int 0, .int 0] rfl E hw fz_X11_18 rfl hin rfl rfl rfl (Nat.le_of_ble_eq_true rfl) dX11_init_20 (fun H locs hw => ?_)
  refine lv_aload_n hx hb dX11_init_23 rfl (lv_at hl 0 rfl) ?_
  refine y_new (a + 5) rfl (κ := 10) (C := RX10) (T := TX10) (N := 12) (fs := [.null, .null, .null, .null, .null, .null, .null, .null, .null, .int 0, .int 0, .int 0]) E hw rfl rfl inlX10 tyX10_ok (rL1 _ (List.mem_of_getElem? (i := 19) rfl)) (rL1 _ (List.mem_of_getElem? (i := 20) rfl)) (rL1 _ (List.mem_of_getElem? (i := 21) rfl)) (by decide +kernel) ⟨by omega, by omega⟩ (Nat.le_of_ble_eq_true rfl) (Nat.le_of_ble_eq_true rfl) dX11_init_24 (fun H hw => ?_)
  refine lv_dup hx hb dX11_init_27 rfl ?_
  refine y_initN (a + 32) [.ref (a + 4), .ref a] E hw rfl rfl (nn := 0) (zc_X10_init (a := (a + 4))) (List.mem_of_getElem? (i := 2) rfl) (rL4 _ (List.mem_of_getElem? (i := 6) rfl)) (rL4 _ (List.mem_of_getElem? (i := 7) rfl)) (rL1 _ (List.mem_of_getElem? (i := 21) rfl)) ⟨rfl, by decide, by decide, by decide +kernel⟩ rfl rfl hl.1 (Nat.le_of_ble_eq_true rfl) ⟨Nat.le_of_ble_eq_true rfl, Nat.le_of_ble_eq_true rfl⟩ ⟨Nat.le_of_ble_eq_true rfl, Nat.le_of_ble_eq_true rfl⟩ dX11_init_28 zD_X10_init ⟨by omega, by omega⟩ (fun H locs hw => ?_)
  have hw := ZH_n1 hw
  refine y_putF [.ref (a + 1), .ref (a + 2), .ref (a + 4), .null, .null, .null, .null, .null, .null, .null, .null, .null, .null, .null, .int 0, .long 0, .long 0, .int 0, .int 0, .int 0] rfl E hw fz_X11_25 rfl hin rfl rfl rfl (Nat.le_of_ble_eq_true rfl) dX11_init_31 (fun H locs hw => ?_)
  refine lv_aload_n hx hb dX11_init_34 rfl (lv_at hl 0 rfl) ?_
  refine y_new (a + 33) rfl (κ := 8) (C := RX8) (T := TX8) (N := 3) (fs := [.null, .null, .int 0]) E hw rfl rfl inlX8 tyX8_ok (rL1 _ (List.mem_of_getElem? (i := 23) rfl)) (rL2 _ (List.mem_of_getElem? (i := 0) rfl)) (rL2 _ (List.mem_of_getElem? (i := 1) rfl)) (by decide +kernel) ⟨by omega, by omega⟩ (Nat.le_of_ble_eq_true rfl) (Nat.le_of_ble_eq_true rfl) dX11_init_35 (fun H hw => ?_)
  refine lv_dup hx hb dX11_init_38 rfl ?_
  refine lv_aload_n hx hb dX11_init_39 rfl (lv_at hl 0 rfl) ?_
  refine y_get E hw fz_X11_18 rfl dX11_init_40 ?_
  refine y_init (a + 40) [.ref (a + 32), .ref a] E hw rfl rfl (nn := 1) (zc_X8_init (a := (a + 32)) (r0 := (a + 2))) (rL6 _ (List.mem_of_getElem? (i := 14) rfl)) (rL6 _ (List.mem_of_getElem? (i := 15) rfl)) (rL6 _ (List.mem_of_getElem? (i := 16) rfl)) (rL2 _ (List.mem_of_getElem? (i := 1) rfl)) ⟨rfl, by decide, by decide, by decide +kernel⟩ rfl rfl hl.1 (Nat.le_of_ble_eq_true rfl) ⟨Nat.le_of_ble_eq_true rfl, Nat.le_of_ble_eq_true rfl⟩ ⟨Nat.le_of_ble_eq_true rfl, Nat.le_of_ble_eq_true rfl⟩ dX11_init_43 zD_X8_init ⟨by omega, by omega⟩ (fun H locs hw => ?_)
  have hw := ZH_n1 hw
  refine y_putF [.ref (a + 1), .ref (a + 2), .ref (a + 4), .ref (a + 32), .null, .null, .null, .null, .null, .null, .null, .null, .null, .null, .int 0, .long 0, .long 0, .int 0, .int 0, .int 0] rfl E hw fz_X11_34 rfl hin rfl rfl rfl (Nat.le_of_ble_eq_true rfl) dX11_init_46 (fun H locs hw => ?_)
  refine lv_aload_n hx hb dX11_init_49 rfl (lv_at hl 0 rfl) ?_
  refine y_new (a + 41) rfl (κ := 3) (C := RX3) (T := TX3) (N := 5) (fs := [.null, .null, .null, .null, .int 0]) E hw rfl rfl inlX3 tyX3_ok (rL2 _ (List.mem_of_getElem? (i := 3) rfl)) (rL2 _ (List.mem_of_getElem? (i := 4) rfl)) (rL2 _ (List.mem_of_getElem? (i := 5) rfl)) (by decide +kernel) ⟨by omega, by omega⟩ (Nat.le_of_ble_eq_true rfl) (Nat.le_of_ble_eq_true rfl) dX11_init_50 (fun H hw => ?_)
  refine lv_dup hx hb dX11_init_53 rfl ?_
  refine lv_aload_n hx hb dX11_init_54 rfl (lv_at hl 0 rfl) ?_
  refine y_get E hw fz_X11_18 rfl dX11_init_55 ?_
  refine lv_aload_n hx hb dX11_init_58 rfl (lv_at hl 0 rfl) ?_
  refine y_get E hw fz_X11_25 rfl dX11_init_59 ?_
  refine y_getA (v := .ref (a + 5)) E ((vaP_r (vaP_l (vaP_t (vaP_l (vaP_t hw.1))))) 0 _ rfl) fz_X11_40 rfl dX11_init_62 ?_
  refine y_init (a + 49) [.ref (a + 40), .ref a] E hw rfl rfl (nn := 2) (zc_X3_init (a := (a + 40)) (r0 := (a + 2)) (r1 := (a + 5))) (rL6 _ (List.mem_of_getElem? (i := 22) rfl)) (rL6 _ (List.mem_of_getElem? (i := 23) rfl)) (rL7 _ (List.mem_of_getElem? (i := 0) rfl)) (rL2 _ (List.mem_of_getElem? (i := 5) rfl)) ⟨rfl, by decide, by decide, by decide +kernel⟩ rfl rfl hl.1 (Nat.le_of_ble_eq_true rfl) ⟨Nat.le_of_ble_eq_true rfl, Nat.le_of_ble_eq_true rfl⟩ ⟨Nat.le_of_ble_eq_true rfl, Nat.le_of_ble_eq_true rfl⟩ dX11_init_65 zD_X3_init ⟨by omega, by omega⟩ (fun H locs hw => ?_)
  have hw := ZH_n1 hw
  refine y_putF [.ref (a + 1), .ref (a + 2), .ref (a + 4), .ref (a + 32), .ref (a + 40), .null, .null, .null, .null, .null, .null, .null, .null, .null, .int 0, .long 0, .long 0, .int 0, .int 0, .int 0] rfl E hw fz_X11_47 rfl hin rfl rfl rfl (Nat.le_of_ble_eq_true rfl) dX11_init_68 (fun H locs hw => ?_)
  refine lv_aload_n hx hb dX11_init_71 rfl (lv_at hl 0 rfl) ?_
  refine lv_iconst (v := 3) hx hb dX11_init_72 (by decide) ?_
  refine y_anew (a + 50) rfl (N' := 3) (C := RX10) E hw 5 rfl (rL1 _ (List.mem_of_getElem? (i := 19) rfl)) E.2.2.2.2 (by decide) (by decide) (by decide) ⟨by omega, by omega⟩ (Nat.le_of_ble_eq_true rfl) (Nat.le_of_ble_eq_true rfl) dX11_init_73 (fun H hw => ?_)
  have hw := ZH_2 hw
  refine y_putF [.ref (a + 1), .ref (a + 2), .ref (a + 4), .ref (a + 32), .ref (a + 40), .ref (a + 49), .null, .null, .null, .null, .null, .null, .null, .null, .int 0, .long 0, .long 0, .int 0, .int 0, .int 0] rfl E hw fz_X11_51 rfl hin rfl rfl rfl (Nat.le_of_ble_eq_true rfl) dX11_init_76 (fun H locs hw => ?_)
  refine lv_aload_n hx hb dX11_init_79 rfl (lv_at hl 0 rfl) ?_
  refine y_new (a + 51) rfl (κ := 10) (C := RX10) (T := TX10) (N := 12) (fs := [.null, .null, .null, .null, .null, .null, .null, .null, .null, .int 0, .int 0, .int 0]) E hw rfl rfl inlX10 tyX10_ok (rL1 _ (List.mem_of_getElem? (i := 19) rfl)) (rL1 _ (List.mem_of_getElem? (i := 20) rfl)) (rL1 _ (List.mem_of_getElem? (i := 21) rfl)) (by decide +kernel) ⟨by omega, by omega⟩ (Nat.le_of_ble_eq_true rfl) (Nat.le_of_ble_eq_true rfl) dX11_init_80 (fun H hw => ?_)
  refine lv_dup hx hb dX11_init_83 rfl ?_
  refine y_initN (a + 78) [.ref (a + 50), .ref a] E hw rfl rfl (nn := 0) (zc_X10_init (a := (a + 50))) (List.mem_of_getElem? (i := 2) rfl) (rL4 _ (List.mem_of_getElem? (i := 6) rfl)) (rL4 _ (List.mem_of_getElem? (i := 7) rfl)) (rL1 _ (List.mem_of_getElem? (i := 21) rfl)) ⟨rfl, by decide, by decide, by decide +kernel⟩ rfl rfl hl.1 (Nat.le_of_ble_eq_true rfl) ⟨Nat.le_of_ble_eq_true rfl, Nat.le_of_ble_eq_true rfl⟩ ⟨Nat.le_of_ble_eq_true rfl, Nat.le_of_ble_eq_true rfl⟩ dX11_init_84 zD_X10_init ⟨by omega, by omega⟩ (fun H locs hw => ?_)
  have hw := ZH_n2 hw
  refine y_putF [.ref (a + 1), .ref (a + 2), .ref (a + 4), .ref (a + 32), .ref (a + 40), .ref (a + 49), .ref (a + 50), .null, .null, .null, .null, .null, .null, .null, .int 0, .long 0, .long 0, .int 0, .int 0, .int 0] rfl E hw fz_X11_55 rfl hin rfl rfl rfl (Nat.le_of_ble_eq_true rfl) dX11_init_87 (fun H locs hw => ?_)
  refine lv_aload_n hx hb dX11_init_90 rfl (lv_at hl 0 rfl) ?_
  refine y_new (a + 79) rfl (κ := 4) (C := RX4) (T := TX4) (N := 4) (fs := [.null, .int 0, .null, .int 0]) E hw rfl rfl inlX4 tyX4_ok (rL2 _ (List.mem_of_getElem? (i := 10) rfl)) (rL2 _ (List.mem_of_getElem? (i := 11) rfl)) (rL2 _ (List.mem_of_getElem? (i := 12) rfl)) (by decide +kernel) ⟨by omega, by omega⟩ (Nat.le_of_ble_eq_true rfl) (Nat.le_of_ble_eq_true rfl) dX11_init_91 (fun H hw => ?_)
  refine lv_dup hx hb dX11_init_94 rfl ?_
  refine y_initN (a + 81) [.ref (a + 78), .ref a] E hw rfl rfl (nn := 0) (zc_X4_init (a := (a + 78))) (List.mem_of_getElem? (i := 3) rfl) (rL7 _ (List.mem_of_getElem? (i := 8) rfl)) (rL7 _ (List.mem_of_getElem? (i := 9) rfl)) (rL2 _ (List.mem_of_getElem? (i := 12) rfl)) ⟨rfl, by decide, by decide, by decide +kernel⟩ rfl rfl hl.1 (Nat.le_of_ble_eq_true rfl) ⟨Nat.le_of_ble_eq_true rfl, Nat.le_of_ble_eq_true rfl⟩ ⟨Nat.le_of_ble_eq_true rfl, Nat.le_of_ble_eq_true rfl⟩ dX11_init_95 zD_X4_init ⟨by omega, by omega⟩ (fun H locs hw => ?_)
  have hw := ZH_n2 hw
  refine y_putF [.ref (a + 1), .ref (a + 2), .ref (a + 4), .ref (a + 32), .ref (a + 40), .ref (a + 49), .ref (a + 50), .ref (a + 78), .null, .null, .null, .null, .null, .null, .int 0, .long 0, .long 0, .int 0, .int 0, .int 0] rfl E hw fz_X11_61 rfl hin rfl rfl rfl (Nat.le_of_ble_eq_true rfl) dX11_init_98 (fun H locs hw => ?_)
  refine lv_aload_n hx hb dX11_init_101 rfl (lv_at hl 0 rfl) ?_
  refine y_new (a + 82) rfl (κ := 4) (C := RX4) (T := TX4) (N := 4) (fs := [.null, .int 0, .null, .int 0]) E hw rfl rfl inlX4 tyX4_ok (rL2 _ (List.mem_of_getElem? (i := 10) rfl)) (rL2 _ (List.mem_of_getElem? (i := 11) rfl)) (rL2 _ (List.mem_of_getElem? (i := 12) rfl)) (by decide +kernel) ⟨by omega, by omega⟩ (Nat.le_of_ble_eq_true rfl) (Nat.le_of_ble_eq_true rfl) dX11_init_102 (fun H hw => ?_)
  refine lv_dup hx hb dX11_init_105 rfl ?_
  refine y_initN (a + 84) [.ref (a + 81), .ref a] E hw rfl rfl (nn := 0) (zc_X4_init (a := (a + 81))) (List.mem_of_getElem? (i := 3) rfl) (rL7 _ (List.mem_of_getElem? (i := 8) rfl)) (rL7 _ (List.mem_of_getElem? (i := 9) rfl)) (rL2 _ (List.mem_of_getElem? (i := 12) rfl)) ⟨rfl, by decide, by decide, by decide +kernel⟩ rfl rfl hl.1 (Nat.le_of_ble_eq_true rfl) ⟨Nat.le_of_ble_eq_true rfl, Nat.le_of_ble_eq_true rfl⟩ ⟨Nat.le_of_ble_eq_true rfl, Nat.le_of_ble_eq_true rfl⟩ dX11_init_106 zD_X4_init ⟨by omega, by omega⟩ (fun H locs hw => ?_)
  have hw := ZH_n2 hw
  refine y_putF [.ref (a + 1), .ref (a + 2), .ref (a + 4), .ref (a + 32), .ref (a + 40), .ref (a + 49), .ref (a + 50), .ref (a + 78), .ref (a + 81), .null, .null, .null, .null, .null, .int 0, .long 0, .long 0, .int 0, .int 0, .int 0] rfl E hw fz_X11_65 rfl hin rfl rfl rfl (Nat.le_of_ble_eq_true rfl) dX11_init_109 (fun H locs hw => ?_)
  refine lv_aload_n hx hb dX11_init_112 rfl (lv_at hl 0 rfl) ?_
  refine y_new (a + 85) rfl (κ := 1) (C := RX1) (T := TX1) (N := 4) (fs := [.null, .null, .null, .int 0]) E hw rfl rfl inlX1 tyX1_ok (rL2 _ (List.mem_of_getElem? (i := 15) rfl)) (rL2 _ (List.mem_of_getElem? (i := 16) rfl)) (rL2 _ (List.mem_of_getElem? (i := 17) rfl)) (by decide +kernel) ⟨by omega, by omega⟩ (Nat.le_of_ble_eq_true rfl) (Nat.le_of_ble_eq_true rfl) dX11_init_113 (fun H hw => ?_)
  refine lv_dup hx hb dX11_init_116 rfl ?_
  refine y_initN (a + 90) [.ref (a + 84), .ref a] E hw rfl rfl (nn := 0) (zc_X1_init (a := (a + 84))) (List.mem_of_getElem? (i := 4) rfl) (rL7 _ (List.mem_of_getElem? (i := 15) rfl)) (rL7 _ (List.mem_of_getElem? (i := 16) rfl)) (rL2 _ (List.mem_of_getElem? (i := 17) rfl)) ⟨rfl, by decide, by decide, by decide +kernel⟩ rfl rfl hl.1 (Nat.le_of_ble_eq_true rfl) ⟨Nat.le_of_ble_eq_true rfl, Nat.le_of_ble_eq_true rfl⟩ ⟨Nat.le_of_ble_eq_true rfl, Nat.le_of_ble_eq_true rfl⟩ dX11_init_117 zD_X1_init ⟨by omega, by omega⟩ (fun H locs hw => ?_)
  have hw := ZH_n2 hw
  refine y_putF [.ref (a + 1), .ref (a + 2), .ref (a + 4), .ref (a + 32), .ref (a + 40), .ref (a + 49), .ref (a + 50), .ref (a + 78), .ref (a + 81), .ref (a + 84), .null, .null, .null, .null, .int 0, .long 0, .long 0, .int 0, .int 0, .int 0] rfl E hw fz_X11_71 rfl hin rfl rfl rfl (Nat.le_of_ble_eq_true rfl) dX11_init_120 (fun H locs hw => ?_)
  refine lv_aload_n hx hb dX11_init_123 rfl (lv_at hl 0 rfl) ?_
  refine y_new (a + 91) rfl (κ := 5) (C := RX5) (T := TX5) (N := 6) (fs := [.null, .null, .null, .null, .int 0, .int 0]) E hw rfl rfl inlX5 tyX5_ok (rL2 _ (List.mem_of_getElem? (i := 19) rfl)) (rL2 _ (List.mem_of_getElem? (i := 20) rfl)) (rL2 _ (List.mem_of_getElem? (i := 21) rfl)) (by decide +kernel) ⟨by omega, by omega⟩ (Nat.le_of_ble_eq_true rfl) (Nat.le_of_ble_eq_true rfl) dX11_init_124 (fun H hw => ?_)
  refine lv_dup hx hb dX11_init_127 rfl ?_
  refine y_initN (a + 97) [.ref (a + 90), .ref a] E hw rfl rfl (nn := 0) (zc_X5_init (a := (a + 90))) (List.mem_of_getElem? (i := 5) rfl) (rL8 _ (List.mem_of_getElem? (i := 0) rfl)) (rL8 _ (List.mem_of_getElem? (i := 1) rfl)) (rL2 _ (List.mem_of_getElem? (i := 21) rfl)) ⟨rfl, by decide, by decide, by decide +kernel⟩ rfl rfl hl.1 (Nat.le_of_ble_eq_true rfl) ⟨Nat.le_of_ble_eq_true rfl, Nat.le_of_ble_eq_true rfl⟩ ⟨Nat.le_of_ble_eq_true rfl, Nat.le_of_ble_eq_true rfl⟩ dX11_init_128 zD_X5_init ⟨by omega, by omega⟩ (fun H locs hw => ?_)
  have hw := ZH_n2 hw
  refine y_putF [.ref (a + 1), .ref (a + 2), .ref (a + 4), .ref (a + 32), .ref (a + 40), .ref (a + 49), .ref (a + 50), .ref (a + 78), .ref (a + 81), .ref (a + 84), .ref (a + 90), .null, .null, .null, .int 0, .long 0, .long 0, .int 0, .int 0, .int 0] rfl E hw fz_X11_78 rfl hin rfl rfl rfl (Nat.le_of_ble_eq_true rfl) dX11_init_131 (fun H locs hw => ?_)
  refine lv_aload_n hx hb dX11_init_134 rfl (lv_at hl 0 rfl) ?_
  refine y_new (a + 98) rfl (κ := 0) (C := RX0) (T := TX0) (N := 2) (fs := [.null, .null]) E hw rfl rfl inlX0 tyX0_ok (rL2 _ (List.mem_of_getElem? (i := 23) rfl)) (rL3 _ (List.mem_of_getElem? (i := 0) rfl)) (rL3 _ (List.mem_of_getElem? (i := 1) rfl)) (by decide +kernel) ⟨by omega, by omega⟩ (Nat.le_of_ble_eq_true rfl) (Nat.le_of_ble_eq_true rfl) dX11_init_135 (fun H hw => ?_)
  refine lv_dup hx hb dX11_init_138 rfl ?_
  refine lv_iconst (v := 1) hx hb dX11_init_139 (by decide) ?_
  refine y_init (a + 100) [.ref (a + 97), .ref a] E hw rfl rfl (nn := 1) (zc_X0_init_1 (a := (a + 97))) (rL8 _ (List.mem_of_getElem? (i := 12) rfl)) (rL6 _ (List.mem_of_getElem? (i := 9) rfl)) (rL6 _ (List.mem_of_getElem? (i := 10) rfl)) (rL3 _ (List.mem_of_getElem? (i := 1) rfl)) ⟨rfl, by decide, by decide, by decide +kernel⟩ rfl rfl hl.1 (Nat.le_of_ble_eq_true rfl) ⟨Nat.le_of_ble_eq_true rfl, Nat.le_of_ble_eq_true rfl⟩ ⟨Nat.le_of_ble_eq_true rfl, Nat.le_of_ble_eq_true rfl⟩ dX11_init_140 zD_X0_init_1 ⟨by omega, by omega⟩ (fun H locs hw => ?_)
  have hw := ZH_n2 hw
  refine y_putF [.ref (a + 1), .ref (a + 2), .ref (a + 4), .ref (a + 32), .ref (a + 40), .ref (a + 49), .ref (a + 50), .ref (a + 78), .ref (a + 81), .ref (a + 84), .ref (a + 90), .ref (a + 97), .null, .null, .int 0, .long 0, .long 0, .int 0, .int 0, .int 0] rfl E hw fz_X11_87 rfl hin rfl rfl rfl (Nat.le_of_ble_eq_true rfl) dX11_init_143 (fun H locs hw => ?_)
  refine lv_aload_n hx hb dX11_init_146 rfl (lv_at hl 0 rfl) ?_
  refine lv_sipush (v := 180) hx hb dX11_init_147 (by decide) ?_
  refine y_newa (a + 101) rfl (N' := 180) (a0 := (180, .inl (fun _ => 0))) E hw 0 rfl trivial rfl (rL3 _ (List.mem_of_getElem? (i := 3) rfl)) (fun _ => rfl) (by decide) (by decide) (by decide) ⟨by omega, by omega⟩ (Nat.le_of_ble_eq_true rfl) (Nat.le_of_ble_eq_true rfl) dX11_init_150 (fun H hw => ?_)
  have hw := ZH_n2 hw
  refine y_putF [.ref (a + 1), .ref (a + 2), .ref (a + 4), .ref (a + 32), .ref (a + 40), .ref (a + 49), .ref (a + 50), .ref (a + 78), .ref (a + 81), .ref (a + 84), .ref (a + 90), .ref (a + 97), .ref (a + 100), .null, .int 0, .long 0, .long 0, .int 0, .int 0, .int 0] rfl E hw fz_X11_91 rfl hin rfl rfl rfl (Nat.le_of_ble_eq_true rfl) dX11_init_152 (fun H locs hw => ?_)
  refine lv_aload_n hx hb dX11_init_155 rfl (lv_at hl 0 rfl) ?_
  refine lv_sipush (v := 1001) hx hb dX11_init_156 (by decide) ?_
  refine y_newa (a + 102) rfl (N' := 1001) (a0 := (1001, .inl (fun _ => 0))) E hw 0 rfl trivial rfl (rL3 _ (List.mem_of_getElem? (i := 3) rfl)) (fun _ => rfl) (by decide) (by decide) (by decide) ⟨by omega, by omega⟩ (Nat.le_of_ble_eq_true rfl) (Nat.le_of_ble_eq_true rfl) dX11_init_159 (fun H hw => ?_)
  have hw := ZH_n2 hw
  refine y_putF [.ref (a + 1), .ref (a + 2), .ref (a + 4), .ref (a + 32), .ref (a + 40), .ref (a + 49), .ref (a + 50), .ref (a + 78), .ref (a + 81), .ref (a + 84), .ref (a + 90), .ref (a + 97), .ref (a + 100), .ref (a + 101), .int 0, .long 0, .long 0, .int 0, .int 0, .int 0] rfl E hw fz_X11_95 rfl hin rfl rfl rfl (Nat.le_of_ble_eq_true rfl) dX11_init_161 (fun H locs hw => ?_)
  refine lv_aload_n hx hb dX11_init_164 rfl (lv_at hl 0 rfl) ?_
  refine lv_iconst (v := 0) hx hb dX11_init_165 (by decide) ?_
  refine y_put [.ref (a + 1), .ref (a + 2), .ref (a + 4), .ref (a + 32), .ref (a + 40), .ref (a + 49), .ref (a + 50), .ref (a + 78), .ref (a + 81), .ref (a + 84), .ref (a + 90), .ref (a + 97), .ref (a + 100), .ref (a + 101), .int 0, .long 0, .long 0, .int 0, .int 0, .int 0] rfl E hw fz_X11_98 rfl rfl rfl (Nat.le_of_ble_eq_true rfl) dX11_init_166 (fun H locs hw => ?_)
  refine lv_aload_n hx hb dX11_init_169 rfl (lv_at hl 0 rfl) ?_
  refine lv_lconst (v := 0) hx hb dX11_init_170 (by decide) ?_
  refine y_put [.ref (a + 1), .ref (a + 2), .ref (a + 4), .ref (a + 32), .ref (a + 40), .ref (a + 49), .ref (a + 50), .ref (a + 78), .ref (a + 81), .ref (a + 84), .ref (a + 90), .ref (a + 97), .ref (a + 100), .ref (a + 101), .int 0, .long 0, .long 0, .int 0, .int 0, .int 0] rfl E hw fz_X11_102 rfl rfl rfl (Nat.le_of_ble_eq_true rfl) dX11_init_171 (fun H locs hw => ?_)
  refine lv_aload_n hx hb dX11_init_174 rfl (lv_at hl 0 rfl) ?_
  refine lv_lconst (v := 1) hx hb dX11_init_175 (by decide) ?_
  refine y_put [.ref (a + 1), .ref (a + 2), .ref (a + 4), .ref (a + 32), .ref (a + 40), .ref (a + 49), .ref (a + 50), .ref (a + 78), .ref (a + 81), .ref (a + 84), .ref (a + 90), .ref (a + 97), .ref (a + 100), .ref (a + 101), .int 0, .long 0, .long 1, .int 0, .int 0, .int 0] rfl E hw fz_X11_106 rfl rfl rfl (Nat.le_of_ble_eq_true rfl) dX11_init_176 (fun H locs hw => ?_)
  refine lv_aload_n hx hb dX11_init_179 rfl (lv_at hl 0 rfl) ?_
  refine lv_iconst (v := 0) hx hb dX11_init_180 (by decide) ?_
  refine y_put [.ref (a + 1), .ref (a + 2), .ref (a + 4), .ref (a + 32), .ref (a + 40), .ref (a + 49), .ref (a + 50), .ref (a + 78), .ref (a + 81), .ref (a + 84), .ref (a + 90), .ref (a + 97), .ref (a + 100), .ref (a + 101), .int 0, .long 0, .long 1, .int 0, .int 0, .int 0] rfl E hw fz_X11_109 rfl rfl rfl (Nat.le_of_ble_eq_true rfl) dX11_init_181 (fun H locs hw => ?_)
  refine lv_aload_n hx hb dX11_init_184 rfl (lv_at hl 0 rfl) ?_
  refine lv_iconst (v := 0) hx hb dX11_init_185 (by decide) ?_
  refine y_put [.ref (a + 1), .ref (a + 2), .ref (a + 4), .ref (a + 32), .ref (a + 40), .ref (a + 49), .ref (a + 50), .ref (a + 78), .ref (a + 81), .ref (a + 84), .ref (a + 90), .ref (a + 97), .ref (a + 100), .ref (a + 101), .int 0, .long 0, .long 1, .int 0, .int 0, .int 0] rfl E hw fz_X11_112 rfl rfl rfl (Nat.le_of_ble_eq_true rfl) dX11_init_186 (fun H locs hw => ?_)
  refine lv_aload_n hx hb dX11_init_189 rfl (lv_at hl 0 rfl) ?_
  refine lv_iconst (v := (-1)) hx hb dX11_init_190 (by decide) ?_
  refine y_put [.ref (a + 1), .ref (a + 2), .ref (a + 4), .ref (a + 32), .ref (a + 40), .ref (a + 49), .ref (a + 50), .ref (a + 78), .ref (a + 81), .ref (a + 84), .ref (a + 90), .ref (a + 97), .ref (a + 100), .ref (a + 101), .int 0, .long 0, .long 1, .int 0, .int 0, .int (-1)] rfl E hw fz_X11_115 rfl rfl rfl (Nat.le_of_ble_eq_true rfl) dX11_init_191 (fun H locs hw => ?_)
  refine lv_iconst (v := 0) hx hb dX11_init_194 (by decide) ?_
  refine lv_istore_n (lv' := [(1, .int 0), (0, .ref a)]) hx hb dX11_init_195 rfl hl (by decide) rfl (fun ls hl => ?_)
  refine lv_iload_n hx hb dX11_init_196 rfl (lv_at hl 0 rfl) ?_
  refine lv_iconst (v := 4) hx hb dX11_init_197 (by decide) ?_
  refine lv_icmp_ge (tgt := 220) hx hb dX11_init_198 (by decide) (fun c1 => absurd c1 (by decide)) (fun _ => ?_)
  refine lv_aload_n hx hb dX11_init_201 rfl (lv_at hl 1 rfl) ?_
  refine y_get E hw fz_X11_11 rfl dX11_init_202 ?_
  refine lv_iload_n hx hb dX11_init_205 rfl (lv_at hl 0 rfl) ?_
  refine y_new (a + 103) rfl (κ := 9) (C := RX9) (T := TX9) (N := 4) (fs := [.null, .int 0, .int 0, .int 0]) E hw rfl rfl inlX9 tyX9_ok (rL1 _ (List.mem_of_getElem? (i := 13) rfl)) (rL3 _ (List.mem_of_getElem? (i := 12) rfl)) (rL3 _ (List.mem_of_getElem? (i := 13) rfl)) (by decide +kernel) ⟨by omega, by omega⟩ (Nat.le_of_ble_eq_true rfl) (Nat.le_of_ble_eq_true rfl) dX11_init_206 (fun H hw => ?_)
  refine lv_dup hx hb dX11_init_209 rfl ?_
  refine y_initN (a + 104) [.ref (a + 102), .int 0, .ref (a + 1)] E hw rfl rfl (nn := 0) (zc_X9_init (a := (a + 102))) (List.mem_of_getElem? (i := 0) rfl) (rL8 _ (List.mem_of_getElem? (i := 13) rfl)) (rL8 _ (List.mem_of_getElem? (i := 14) rfl)) (rL3 _ (List.mem_of_getElem? (i := 13) rfl)) ⟨rfl, by decide, by decide, by decide +kernel⟩ rfl rfl hl.1 (Nat.le_of_ble_eq_true rfl) ⟨Nat.le_of_ble_eq_true rfl, Nat.le_of_ble_eq_true rfl⟩ ⟨Nat.le_of_ble_eq_true rfl, Nat.le_of_ble_eq_true rfl⟩ dX11_init_210 zD_X9_init ⟨by omega, by omega⟩ (fun H locs hw => ?_)
  have hw := ZH_n2 hw
  refine y_ast1 (va_up (fun _ => none) 0 (some (a + 102))) rfl (κ := 9) (r := (RX9, TX9, 4)) E 4 hw rfl ((vaP_r (vaP_t (vaP_t (vaP_t hw.1)))) 0 _ rfl) rfl (by unfold vp_in; decide) dX11_init_213 (fun H locs hw => ?_)
  refine lv_iinc (v := 1) (lv' := [(1, .int 1), (0, .ref a)]) hx hb dX11_init_214 hl (k := 0) rfl (by decide) (by decide) rfl (fun ls hl => ?_)
  refine lv_goto (tgt := 196) hx hb dX11_init_217 (by decide) ?_
  refine lv_iload_n hx hb dX11_init_196 rfl (lv_at hl 0 rfl) ?_
  refine lv_iconst (v := 4) hx hb dX11_init_197 (by decide) ?_
  refine lv_icmp_ge (tgt := 220) hx hb dX11_init_198 (by decide) (fun c1 => absurd c1 (by decide)) (fun _ => ?_)
  refine lv_aload_n hx hb dX11_init_201 rfl (lv_at hl 1 rfl) ?_
  refine y_get E hw fz_X11_11 rfl dX11_init_202 ?_
  refine lv_iload_n hx hb dX11_init_205 rfl (lv_at hl 0 rfl) ?_
  refine y_new (a + 105) rfl (κ := 9) (C := RX9) (T := TX9) (N := 4) (fs := [.null, .int 0, .int 0, .int 0]) E hw rfl rfl inlX9 tyX9_ok (rL1 _ (List.mem_of_getElem? (i := 13) rfl)) (rL3 _ (List.mem_of_getElem? (i := 12) rfl)) (rL3 _ (List.mem_of_getElem? (i := 13) rfl)) (by decide +kernel) ⟨by omega, by omega⟩ (Nat.le_of_ble_eq_true rfl) (Nat.le_of_ble_eq_true rfl) dX11_init_206 (fun H hw => ?_)
  refine lv_dup hx hb dX11_init_209 rfl ?_
  refine y_initN (a + 106) [.ref (a + 104), .int 1, .ref (a + 1)] E hw rfl rfl (nn := 0) (zc_X9_init (a := (a + 104))) (List.mem_of_getElem? (i := 0) rfl) (rL8 _ (List.mem_of_getElem? (i := 13) rfl)) (rL8 _ (List.mem_of_getElem? (i := 14) rfl)) (rL3 _ (List.mem_of_getElem? (i := 13) rfl)) ⟨rfl, by decide, by decide, by decide +kernel⟩ rfl rfl hl.1 (Nat.le_of_ble_eq_true rfl) ⟨Nat.le_of_ble_eq_true rfl, Nat.le_of_ble_eq_true rfl⟩ ⟨Nat.le_of_ble_eq_true rfl, Nat.le_of_ble_eq_true rfl⟩ dX11_init_210 zD_X9_init ⟨by omega, by omega⟩ (fun H locs hw => ?_)
  have hw := ZH_n2 hw
  refine y_ast1 (va_up (va_up (fun _ => none) 0 (some (a + 102))) 1 (some (a + 104))) rfl (κ := 9) (r := (RX9, TX9, 4)) E 4 hw rfl ((vaP_r (vaP_t (vaP_t (vaP_t hw.1)))) 0 _ rfl) rfl (by unfold vp_in; decide) dX11_init_213 (fun H locs hw => ?_)
  refine lv_iinc (v := 2) (lv' := [(1, .int 2), (0, .ref a)]) hx hb dX11_init_214 hl (k := 0) rfl (by decide) (by decide) rfl (fun ls hl => ?_)
  refine lv_goto (tgt := 196) hx hb dX11_init_217 (by decide) ?_
  refine lv_iload_n hx hb dX11_init_196 rfl (lv_at hl 0 rfl) ?_
  refine lv_iconst (v := 4) hx hb dX11_init_197 (by decide) ?_
  refine lv_icmp_ge (tgt := 220) hx hb dX11_init_198 (by decide) (fun c1 => absurd c1 (by decide)) (fun _ => ?_)
  refine lv_aload_n hx hb dX11_init_201 rfl (lv_at hl 1 rfl) ?_
  refine y_get E hw fz_X11_11 rfl dX11_init_202 ?_
  refine lv_iload_n hx hb dX11_init_205 rfl (lv_at hl 0 rfl) ?_
  refine y_new (a + 107) rfl (κ := 9) (C := RX9) (T := TX9) (N := 4) (fs := [.null, .int 0, .int 0, .int 0]) E hw rfl rfl inlX9 tyX9_ok (rL1 _ (List.mem_of_getElem? (i := 13) rfl)) (rL3 _ (List.mem_of_getElem? (i := 12) rfl)) (rL3 _ (List.mem_of_getElem? (i := 13) rfl)) (by decide +kernel) ⟨by omega, by omega⟩ (Nat.le_of_ble_eq_true rfl) (Nat.le_of_ble_eq_true rfl) dX11_init_206 (fun H hw => ?_)
  refine lv_dup hx hb dX11_init_209 rfl ?_
  refine y_initN (a + 108) [.ref (a + 106), .int 2, .ref (a + 1)] E hw rfl rfl (nn := 0) (zc_X9_init (a := (a + 106))) (List.mem_of_getElem? (i := 0) rfl) (rL8 _ (List.mem_of_getElem? (i := 13) rfl)) (rL8 _ (List.mem_of_getElem? (i := 14) rfl)) (rL3 _ (List.mem_of_getElem? (i := 13) rfl)) ⟨rfl, by decide, by decide, by decide +kernel⟩ rfl rfl hl.1 (Nat.le_of_ble_eq_true rfl) ⟨Nat.le_of_ble_eq_true rfl, Nat.le_of_ble_eq_true rfl⟩ ⟨Nat.le_of_ble_eq_true rfl, Nat.le_of_ble_eq_true rfl⟩ dX11_init_210 zD_X9_init ⟨by omega, by omega⟩ (fun H locs hw => ?_)
  have hw := ZH_n2 hw
  refine y_ast1 (va_up (va_up (va_up (fun _ => none) 0 (some (a + 102))) 1 (some (a + 104))) 2 (some (a + 106))) rfl (κ := 9) (r := (RX9, TX9, 4)) E 4 hw rfl ((vaP_r (vaP_t (vaP_t (vaP_t hw.1)))) 0 _ rfl) rfl (by unfold vp_in; decide) dX11_init_213 (fun H locs hw => ?_)
  refine lv_iinc (v := 3) (lv' := [(1, .int 3), (0, .ref a)]) hx hb dX11_init_214 hl (k := 0) rfl (by decide) (by decide) rfl (fun ls hl => ?_)
  refine lv_goto (tgt := 196) hx hb dX11_init_217 (by decide) ?_
  refine lv_iload_n hx hb dX11_init_196 rfl (lv_at hl 0 rfl) ?_
  refine lv_iconst (v := 4) hx hb dX11_init_197 (by decide) ?_
  refine lv_icmp_ge (tgt := 220) hx hb dX11_init_198 (by decide) (fun c1 => absurd c1 (by decide)) (fun _ => ?_)
  refine lv_aload_n hx hb dX11_init_201 rfl (lv_at hl 1 rfl) ?_
  refine y_get E hw fz_X11_11 rfl dX11_init_202 ?_
  refine lv_iload_n hx hb dX11_init_205 rfl (lv_at hl 0 rfl) ?_
  refine y_new (a + 109) rfl (κ := 9) (C := RX9) (T := TX9) (N := 4) (fs := [.null, .int 0, .int 0, .int 0]) E hw rfl rfl inlX9 tyX9_ok (rL1 _ (List.mem_of_getElem? (i := 13) rfl)) (rL3 _ (List.mem_of_getElem? (i := 12) rfl)) (rL3 _ (List.mem_of_getElem? (i := 13) rfl)) (by decide +kernel) ⟨by omega, by omega⟩ (Nat.le_of_ble_eq_true rfl) (Nat.le_of_ble_eq_true rfl) dX11_init_206 (fun H hw => ?_)
  refine lv_dup hx hb dX11_init_209 rfl ?_
  refine y_initN (a + 110) [.ref (a + 108), .int 3, .ref (a + 1)] E hw rfl rfl (nn := 0) (zc_X9_init (a := (a + 108))) (List.mem_of_getElem? (i := 0) rfl) (rL8 _ (List.mem_of_getElem? (i := 13) rfl)) (rL8 _ (List.mem_of_getElem? (i := 14) rfl)) (rL3 _ (List.mem_of_getElem? (i := 13) rfl)) ⟨rfl, by decide, by decide, by decide +kernel⟩ rfl rfl hl.1 (Nat.le_of_ble_eq_true rfl) ⟨Nat.le_of_ble_eq_true rfl, Nat.le_of_ble_eq_true rfl⟩ ⟨Nat.le_of_ble_eq_true rfl, Nat.le_of_ble_eq_true rfl⟩ dX11_init_210 zD_X9_init ⟨by omega, by omega⟩ (fun H locs hw => ?_)
  have hw := ZH_n2 hw
  refine y_ast1 (va_up (va_up (va_up (va_up (fun _ => none) 0 (some (a + 102))) 1 (some (a + 104))) 2 (some (a + 106))) 3 (some (a + 108))) rfl (κ := 9) (r := (RX9, TX9, 4)) E 4 hw rfl ((vaP_r (vaP_t (vaP_t (vaP_t hw.1)))) 0 _ rfl) rfl (by unfold vp_in; decide) dX11_init_213 (fun H locs hw => ?_)
  refine lv_iinc (v := 4) (lv' := [(1, .int 4), (0, .ref a)]) hx hb dX11_init_214 hl (k := 0) rfl (by decide) (by decide) rfl (fun ls hl => ?_)
  refine lv_goto (tgt := 196) hx hb dX11_init_217 (by decide) ?_
  refine lv_iload_n hx hb dX11_init_196 rfl (lv_at hl 0 rfl) ?_
  refine lv_iconst (v := 4) hx hb dX11_init_197 (by decide) ?_
  refine lv_icmp_ge (tgt := 220) hx hb dX11_init_198 (by decide) (fun _ => ?_) (fun c1 => absurd (by decide) c1)
  refine lv_iconst (v := 0) hx hb dX11_init_220 (by decide) ?_
  refine lv_istore_n (lv' := [(1, .int 0), (0, .ref a)]) hx hb dX11_init_221 rfl hl (by decide) rfl (fun ls hl => ?_)
  refine lv_iload_n hx hb dX11_init_222 rfl (lv_at hl 0 rfl) ?_
  refine lv_iconst (v := 3) hx hb dX11_init_223 (by decide) ?_
  refine lv_icmp_ge (tgt := 246) hx hb dX11_init_224 (by decide) (fun c1 => absurd c1 (by decide)) (fun _ => ?_)
  refine lv_aload_n hx hb dX11_init_227 rfl (lv_at hl 1 rfl) ?_
  refine y_get E hw fz_X11_51 rfl dX11_init_228 ?_
  refine lv_iload_n hx hb dX11_init_231 rfl (lv_at hl 0 rfl) ?_
  refine y_new (a + 111) rfl (κ := 10) (C := RX10) (T := TX10) (N := 12) (fs := [.null, .null, .null, .null, .null, .null, .null, .null, .null, .int 0, .int 0, .int 0]) E hw rfl rfl inlX10 tyX10_ok (rL1 _ (List.mem_of_getElem? (i := 19) rfl)) (rL1 _ (List.mem_of_getElem? (i := 20) rfl)) (rL1 _ (List.mem_of_getElem? (i := 21) rfl)) (by decide +kernel) ⟨by omega, by omega⟩ (Nat.le_of_ble_eq_true rfl) (Nat.le_of_ble_eq_true rfl) dX11_init_232 (fun H hw => ?_)
  refine lv_dup hx hb dX11_init_235 rfl ?_
  refine y_initN (a + 138) [.ref (a + 110), .int 0, .ref (a + 49)] E hw rfl rfl (nn := 0) (zc_X10_init (a := (a + 110))) (List.mem_of_getElem? (i := 2) rfl) (rL4 _ (List.mem_of_getElem? (i := 6) rfl)) (rL4 _ (List.mem_of_getElem? (i := 7) rfl)) (rL1 _ (List.mem_of_getElem? (i := 21) rfl)) ⟨rfl, by decide, by decide, by decide +kernel⟩ rfl rfl hl.1 (Nat.le_of_ble_eq_true rfl) ⟨Nat.le_of_ble_eq_true rfl, Nat.le_of_ble_eq_true rfl⟩ ⟨Nat.le_of_ble_eq_true rfl, Nat.le_of_ble_eq_true rfl⟩ dX11_init_236 zD_X10_init ⟨by omega, by omega⟩ (fun H locs hw => ?_)
  have hw := ZH_n2 hw
  refine y_ast2 (va_up (fun _ => none) 0 (some (a + 110))) rfl (κ := 10) (r := (RX10, TX10, 12)) E 5 hw rfl ((vaP_r (vaP_t (vaP_t (vaP_t hw.1)))) 0 _ rfl) rfl (by unfold vp_in; decide) dX11_init_239 (fun H locs hw => ?_)
  refine lv_iinc (v := 1) (lv' := [(1, .int 1), (0, .ref a)]) hx hb dX11_init_240 hl (k := 0) rfl (by decide) (by decide) rfl (fun ls hl => ?_)
  refine lv_goto (tgt := 222) hx hb dX11_init_243 (by decide) ?_
  refine lv_iload_n hx hb dX11_init_222 rfl (lv_at hl 0 rfl) ?_
  refine lv_iconst (v := 3) hx hb dX11_init_223 (by decide) ?_
  refine lv_icmp_ge (tgt := 246) hx hb dX11_init_224 (by decide) (fun c1 => absurd c1 (by decide)) (fun _ => ?_)
  refine lv_aload_n hx hb dX11_init_227 rfl (lv_at hl 1 rfl) ?_
  refine y_get E hw fz_X11_51 rfl dX11_init_228 ?_
  refine lv_iload_n hx hb dX11_init_231 rfl (lv_at hl 0 rfl) ?_
  refine y_new (a + 139) rfl (κ := 10) (C := RX10) (T := TX10) (N := 12) (fs := [.null, .null, .null, .null, .null, .null, .null, .null, .null, .int 0, .int 0, .int 0]) E hw rfl rfl inlX10 tyX10_ok (rL1 _ (List.mem_of_getElem? (i := 19) rfl)) (rL1 _ (List.mem_of_getElem? (i := 20) rfl)) (rL1 _ (List.mem_of_getElem? (i := 21) rfl)) (by decide +kernel) ⟨by omega, by omega⟩ (Nat.le_of_ble_eq_true rfl) (Nat.le_of_ble_eq_true rfl) dX11_init_232 (fun H hw => ?_)
  refine lv_dup hx hb dX11_init_235 rfl ?_
  refine y_initN (a + 166) [.ref (a + 138), .int 1, .ref (a + 49)] E hw rfl rfl (nn := 0) (zc_X10_init (a := (a + 138))) (List.mem_of_getElem? (i := 2) rfl) (rL4 _ (List.mem_of_getElem? (i := 6) rfl)) (rL4 _ (List.mem_of_getElem? (i := 7) rfl)) (rL1 _ (List.mem_of_getElem? (i := 21) rfl)) ⟨rfl, by decide, by decide, by decide +kernel⟩ rfl rfl hl.1 (Nat.le_of_ble_eq_true rfl) ⟨Nat.le_of_ble_eq_true rfl, Nat.le_of_ble_eq_true rfl⟩ ⟨Nat.le_of_ble_eq_true rfl, Nat.le_of_ble_eq_true rfl⟩ dX11_init_236 zD_X10_init ⟨by omega, by omega⟩ (fun H locs hw => ?_)
  have hw := ZH_n2 hw
  refine y_ast2 (va_up (va_up (fun _ => none) 0 (some (a + 110))) 1 (some (a + 138))) rfl (κ := 10) (r := (RX10, TX10, 12)) E 5 hw rfl ((vaP_r (vaP_t (vaP_t (vaP_t hw.1)))) 0 _ rfl) rfl (by unfold vp_in; decide) dX11_init_239 (fun H locs hw => ?_)
  refine lv_iinc (v := 2) (lv' := [(1, .int 2), (0, .ref a)]) hx hb dX11_init_240 hl (k := 0) rfl (by decide) (by decide) rfl (fun ls hl => ?_)
  refine lv_goto (tgt := 222) hx hb dX11_init_243 (by decide) ?_
  refine lv_iload_n hx hb dX11_init_222 rfl (lv_at hl 0 rfl) ?_
  refine lv_iconst (v := 3) hx hb dX11_init_223 (by decide) ?_
  refine lv_icmp_ge (tgt := 246) hx hb dX11_init_224 (by decide) (fun c1 => absurd c1 (by decide)) (fun _ => ?_)
  refine lv_aload_n hx hb dX11_init_227 rfl (lv_at hl 1 rfl) ?_
  refine y_get E hw fz_X11_51 rfl dX11_init_228 ?_
  refine lv_iload_n hx hb dX11_init_231 rfl (lv_at hl 0 rfl) ?_
  refine y_new (a + 167) rfl (κ := 10) (C := RX10) (T := TX10) (N := 12) (fs := [.null, .null, .null, .null, .null, .null, .null, .null, .null, .int 0, .int 0, .int 0]) E hw rfl rfl inlX10 tyX10_ok (rL1 _ (List.mem_of_getElem? (i := 19) rfl)) (rL1 _ (List.mem_of_getElem? (i := 20) rfl)) (rL1 _ (List.mem_of_getElem? (i := 21) rfl)) (by decide +kernel) ⟨by omega, by omega⟩ (Nat.le_of_ble_eq_true rfl) (Nat.le_of_ble_eq_true rfl) dX11_init_232 (fun H hw => ?_)
  refine lv_dup hx hb dX11_init_235 rfl ?_
  refine y_initN (a + 194) [.ref (a + 166), .int 2, .ref (a + 49)] E hw rfl rfl (nn := 0) (zc_X10_init (a := (a + 166))) (List.mem_of_getElem? (i := 2) rfl) (rL4 _ (List.mem_of_getElem? (i := 6) rfl)) (rL4 _ (List.mem_of_getElem? (i := 7) rfl)) (rL1 _ (List.mem_of_getElem? (i := 21) rfl)) ⟨rfl, by decide, by decide, by decide +kernel⟩ rfl rfl hl.1 (Nat.le_of_ble_eq_true rfl) ⟨Nat.le_of_ble_eq_true rfl, Nat.le_of_ble_eq_true rfl⟩ ⟨Nat.le_of_ble_eq_true rfl, Nat.le_of_ble_eq_true rfl⟩ dX11_init_236 zD_X10_init ⟨by omega, by omega⟩ (fun H locs hw => ?_)
  have hw := ZH_n2 hw
  refine y_ast2 (va_up (va_up (va_up (fun _ => none) 0 (some (a + 110))) 1 (some (a + 138))) 2 (some (a + 166))) rfl (κ := 10) (r := (RX10, TX10, 12)) E 5 hw rfl ((vaP_r (vaP_t (vaP_t (vaP_t hw.1)))) 0 _ rfl) rfl (by unfold vp_in; decide) dX11_init_239 (fun H locs hw => ?_)
  refine lv_iinc (v := 3) (lv' := [(1, .int 3), (0, .ref a)]) hx hb dX11_init_240 hl (k := 0) rfl (by decide) (by decide) rfl (fun ls hl => ?_)
  refine lv_goto (tgt := 222) hx hb dX11_init_243 (by decide) ?_
  refine lv_iload_n hx hb dX11_init_222 rfl (lv_at hl 0 rfl) ?_
  refine lv_iconst (v := 3) hx hb dX11_init_223 (by decide) ?_
  refine lv_icmp_ge (tgt := 246) hx hb dX11_init_224 (by decide) (fun _ => ?_) (fun c1 => absurd (by decide) c1)
  have hfin := s0C_of (vaP_h hw.1) (vaP_h (vaP_t hw.1)) (vaP_h (vaP_t (vaP_t hw.1))) (vaP_r (vaP_l (vaP_l (vaP_l (vaP_l (vaP_l (vaP_l (vaP_l (vaP_l (vaP_l (vaP_l (vaP_l (vaP_l (vaP_l (vaP_l (vaP_l (vaP_l (vaP_l (vaP_l (vaP_t (vaP_t (vaP_t hw.1)))))))))))))))))))))) (vaP_r (vaP_l (vaP_l (vaP_l (vaP_l (vaP_l (vaP_l (vaP_l (vaP_l (vaP_l (vaP_l (vaP_l (vaP_l (vaP_l (vaP_l (vaP_l (vaP_l (vaP_l (vaP_t (vaP_t (vaP_t hw.1))))))))))))))))))))) (vaP_r (vaP_l (vaP_l (vaP_l (vaP_l (vaP_l (vaP_l (vaP_l (vaP_l (vaP_l (vaP_l (vaP_l (vaP_l (vaP_l (vaP_l (vaP_l (vaP_l (vaP_t (vaP_t (vaP_t hw.1)))))))))))))))))))) (vaP_r (vaP_l (vaP_l (vaP_l (vaP_l (vaP_l (vaP_l (vaP_l (vaP_l (vaP_l (vaP_l (vaP_l (vaP_l (vaP_l (vaP_l (vaP_l (vaP_t (vaP_t (vaP_t hw.1))))))))))))))))))) (vaP_r (vaP_l (vaP_l (vaP_l (vaP_l (vaP_l (vaP_l (vaP_l (vaP_l (vaP_l (vaP_l (vaP_l (vaP_l (vaP_l (vaP_l (vaP_t (vaP_t (vaP_t hw.1)))))))))))))))))) (vaP_r (vaP_l (vaP_l (vaP_l (vaP_l (vaP_l (vaP_l (vaP_l (vaP_l (vaP_l (vaP_l (vaP_l (vaP_l (vaP_l (vaP_t (vaP_t (vaP_t hw.1))))))))))))))))) (vaP_r (vaP_l (vaP_l (vaP_l (vaP_l (vaP_l (vaP_l (vaP_l (vaP_l (vaP_l (vaP_l (vaP_l (vaP_l (vaP_t (vaP_t (vaP_t hw.1)))))))))))))))) (vaP_r (vaP_l (vaP_l (vaP_l (vaP_l (vaP_l (vaP_l (vaP_l (vaP_l (vaP_l (vaP_l (vaP_l (vaP_t (vaP_t (vaP_t hw.1))))))))))))))) (vaP_r (vaP_l (vaP_l (vaP_l (vaP_l (vaP_l (vaP_l (vaP_l (vaP_l (vaP_l (vaP_l (vaP_t (vaP_t (vaP_t hw.1)))))))))))))) (vaP_r (vaP_l (vaP_l (vaP_l (vaP_l (vaP_l (vaP_l (vaP_l (vaP_l (vaP_l (vaP_t (vaP_t (vaP_t hw.1))))))))))))) (vaP_r (vaP_l (vaP_l (vaP_l (vaP_l (vaP_l (vaP_l (vaP_l (vaP_l (vaP_t (vaP_t (vaP_t hw.1)))))))))))) (vaP_r (vaP_l (vaP_l (vaP_l (vaP_l (vaP_l (vaP_l (vaP_l (vaP_t (vaP_t (vaP_t hw.1))))))))))) (vaP_r (vaP_l (vaP_l (vaP_l (vaP_l (vaP_l (vaP_l (vaP_t (vaP_t (vaP_t hw.1)))))))))) (vaP_r (vaP_l (vaP_l (vaP_l (vaP_l (vaP_l (vaP_t (vaP_t (vaP_t hw.1))))))))) (vaP_r (vaP_l (vaP_l (vaP_l (vaP_l (vaP_t (vaP_t (vaP_t hw.1)))))))) (vaP_r (vaP_l (vaP_l (vaP_l (vaP_t (vaP_t (vaP_t hw.1))))))) (vaP_r (vaP_l (vaP_l (vaP_t (vaP_t (vaP_t hw.1)))))) (vaP_r (vaP_l (vaP_t (vaP_t (vaP_t hw.1))))) (vaP_r (vaP_t (vaP_t (vaP_t hw.1))))
  exact W.vret hx hb hr (fun t ht _ => ⟨rfl, by rw [ht]; exact hfin, by rw [ht]; exact hw.2.2.2, hw.2.2.1.F ht⟩) hw.2.2.1.2.2 dX11_init_246 hlk
