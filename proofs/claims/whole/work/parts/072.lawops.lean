set_option maxRecDepth 20000 in
set_option maxHeartbeats 1000000 in
theorem law_status {p : Program} {l : Launch} {e : Env} {s : State} {m : MethodId} {below : List Frame} {meth : Method} {c : Code} {D : va_G} {cy : Nat → ClassId} {b0 b1 b2 i L : Nat} {xs : Nat → Int32} {CEL SLO : Nat} {x3 : Int32} {Rel Rel2 : ST → ST → Prop} (S : SIM_status Rel Rel2) (E : CL p m c s #[Value.ref b0] D cy) (hcs : CEL ≤ room_1.cells ∧ SLO ≤ room_1.slots) (hX : va_X b0 L xs s s.heap) (hbl : b0 < s.heap.size) (hx3 : x3 = nI i) (hiL : i + 6 ≤ L) (hL : L ≤ 3072) {σ τ : ST} {H : Heap} {locs : List Loc} {ls : Array Slot} (hR : Rel σ τ) (hw : LH D cy b1 b2 σ τ s H locs) (hl : lv_has ls 4 [(0, .ref b0), (1, .ref (b1 + 0)), (2, .ref (b2 + 0)), (3, .int x3)])
    (ih : ∀ (σ τ : ST) (H : Heap) (locs : List Loc) (ls : Array Slot), Rel2 σ τ → LH D cy b1 b2 σ τ s H locs → lv_has ls 4 [(0, .ref b0), (1, .ref (b1 + 0)), (2, .ref (b2 + 0)), (3, .int x3)] → W p l e room_1 s m #[Value.ref b0] below meth c H locs CEL SLO (lw_Z below #[Value.ref b0] s) (F0 m 1908 ls [])) :
    W p l e room_1 s m #[Value.ref b0] below meth c H locs CEL SLO (lw_Z below #[Value.ref b0] s) (F0 m 260 ls []) := by
  have hx := E.1.1
  have hb := E.1.2.1
  have hbA : ¬ (fun q : Nat => s.heap.size ≤ q) b0 := Nat.not_le.mpr hbl
  obtain ⟨r, σ1, τ1, h1, h2, hR⟩ := S σ τ hR
  refine lv_aload_n hx hb dL_law_260 rfl (lv_at hl 1 rfl) ?_
  refine law_c1 (rest := []) E hw mw_L_13 (c_X11_status h1 rfl) rfl rfl hl.1 (Nat.le_of_ble_eq_true rfl) ⟨Nat.le_of_ble_eq_true rfl, Nat.le_of_ble_eq_true rfl⟩ ⟨hcs.1, hcs.2⟩ dL_law_261 (fun H locs hw => ?_)
  refine lv_aload_n hx hb dL_law_264 rfl (lv_at hl 2 rfl) ?_
  refine law_c2 (rest := [.int r]) E hw mw_L_17 (c_X12_status h2 rfl) rfl rfl hl.1 (Nat.le_of_ble_eq_true rfl) ⟨Nat.le_of_ble_eq_true rfl, Nat.le_of_ble_eq_true rfl⟩ ⟨hcs.1, hcs.2⟩ dL_law_265 (fun H locs hw => ?_)
  refine lv_icmp_eq (tgt := 1908) hx hb dL_law_268 (by decide) (fun _ => ?_) (fun c1 => absurd rfl c1)
  exact ih _ _ _ _ _ hR hw hl
set_option maxRecDepth 20000 in
set_option maxHeartbeats 1000000 in
theorem law_top {p : Program} {l : Launch} {e : Env} {s : State} {m : MethodId} {below : List Frame} {meth : Method} {c : Code} {D : va_G} {cy : Nat → ClassId} {b0 b1 b2 i L : Nat} {xs : Nat → Int32} {CEL SLO : Nat} {x3 : Int32} {Rel Rel2 : ST → ST → Prop} (S : SIM_top Rel Rel2) (E : CL p m c s #[Value.ref b0] D cy) (hcs : CEL ≤ room_1.cells ∧ SLO ≤ room_1.slots) (hX : va_X b0 L xs s s.heap) (hbl : b0 < s.heap.size) (hx3 : x3 = nI i) (hiL : i + 6 ≤ L) (hL : L ≤ 3072) {σ τ : ST} {H : Heap} {locs : List Loc} {ls : Array Slot} (hR : Rel σ τ) (hw : LH D cy b1 b2 σ τ s H locs) (hl : lv_has ls 4 [(0, .ref b0), (1, .ref (b1 + 0)), (2, .ref (b2 + 0)), (3, .int x3)])
    (ih : ∀ (σ τ : ST) (H : Heap) (locs : List Loc) (ls : Array Slot), Rel2 σ τ → LH D cy b1 b2 σ τ s H locs → lv_has ls 4 [(0, .ref b0), (1, .ref (b1 + 0)), (2, .ref (b2 + 0)), (3, .int x3)] → W p l e room_1 s m #[Value.ref b0] below meth c H locs CEL SLO (lw_Z below #[Value.ref b0] s) (F0 m 1908 ls [])) :
    W p l e room_1 s m #[Value.ref b0] below meth c H locs CEL SLO (lw_Z below #[Value.ref b0] s) (F0 m 273 ls []) := by
  have hx := E.1.1
  have hb := E.1.2.1
  have hbA : ¬ (fun q : Nat => s.heap.size ≤ q) b0 := Nat.not_le.mpr hbl
  obtain ⟨r, σ1, τ1, h1, h2, hR⟩ := S σ τ hR
  refine lv_aload_n hx hb dL_law_273 rfl (lv_at hl 1 rfl) ?_
  refine law_c1 (rest := []) E hw mw_L_18 (c_X11_top h1 rfl) rfl rfl hl.1 (Nat.le_of_ble_eq_true rfl) ⟨Nat.le_of_ble_eq_true rfl, Nat.le_of_ble_eq_true rfl⟩ ⟨hcs.1, hcs.2⟩ dL_law_274 (fun H locs hw => ?_)
  refine lv_aload_n hx hb dL_law_277 rfl (lv_at hl 2 rfl) ?_
  refine law_c2 (rest := [.long r]) E hw mw_L_22 (c_X12_top h2 rfl) rfl rfl hl.1 (Nat.le_of_ble_eq_true rfl) ⟨Nat.le_of_ble_eq_true rfl, Nat.le_of_ble_eq_true rfl⟩ ⟨hcs.1, hcs.2⟩ dL_law_278 (fun H locs hw => ?_)
  refine W.lcmp hx hb dL_law_281 ?_
  refine lv_if_eq (tgt := 1908) hx hb dL_law_282 (by decide) (fun _ => ?_) (fun c1 => absurd (lg_self r) c1)
  exact ih _ _ _ _ _ hR hw hl
set_option maxRecDepth 20000 in
set_option maxHeartbeats 1000000 in
theorem law_bottom {p : Program} {l : Launch} {e : Env} {s : State} {m : MethodId} {below : List Frame} {meth : Method} {c : Code} {D : va_G} {cy : Nat → ClassId} {b0 b1 b2 i L : Nat} {xs : Nat → Int32} {CEL SLO : Nat} {x3 : Int32} {Rel Rel2 : ST → ST → Prop} (S : SIM_bottom Rel Rel2) (E : CL p m c s #[Value.ref b0] D cy) (hcs : CEL ≤ room_1.cells ∧ SLO ≤ room_1.slots) (hX : va_X b0 L xs s s.heap) (hbl : b0 < s.heap.size) (hx3 : x3 = nI i) (hiL : i + 6 ≤ L) (hL : L ≤ 3072) {σ τ : ST} {H : Heap} {locs : List Loc} {ls : Array Slot} (hR : Rel σ τ) (hw : LH D cy b1 b2 σ τ s H locs) (hl : lv_has ls 4 [(0, .ref b0), (1, .ref (b1 + 0)), (2, .ref (b2 + 0)), (3, .int x3)])
    (ih : ∀ (σ τ : ST) (H : Heap) (locs : List Loc) (ls : Array Slot), Rel2 σ τ → LH D cy b1 b2 σ τ s H locs → lv_has ls 4 [(0, .ref b0), (1, .ref (b1 + 0)), (2, .ref (b2 + 0)), (3, .int x3)] → W p l e room_1 s m #[Value.ref b0] below meth c H locs CEL SLO (lw_Z below #[Value.ref b0] s) (F0 m 1908 ls [])) :
    W p l e room_1 s m #[Value.ref b0] below meth c H locs CEL SLO (lw_Z below #[Value.ref b0] s) (F0 m 287 ls []) := by
  have hx := E.1.1
  have hb := E.1.2.1
  have hbA : ¬ (fun q : Nat => s.heap.size ≤ q) b0 := Nat.not_le.mpr hbl
  obtain ⟨r, σ1, τ1, h1, h2, hR⟩ := S σ τ hR
  refine lv_aload_n hx hb dL_law_287 rfl (lv_at hl 1 rfl) ?_
  refine law_c1 (rest := []) E hw mw_L_23 (c_X11_bottom h1 rfl) rfl rfl hl.1 (Nat.le_of_ble_eq_true rfl) ⟨Nat.le_of_ble_eq_true rfl, Nat.le_of_ble_eq_true rfl⟩ ⟨hcs.1, hcs.2⟩ dL_law_288 (fun H locs hw => ?_)
  refine lv_aload_n hx hb dL_law_291 rfl (lv_at hl 2 rfl) ?_
  refine law_c2 (rest := [.long r]) E hw mw_L_26 (c_X12_bottom h2 rfl) rfl rfl hl.1 (Nat.le_of_ble_eq_true rfl) ⟨Nat.le_of_ble_eq_true rfl, Nat.le_of_ble_eq_true rfl⟩ ⟨hcs.1, hcs.2⟩ dL_law_292 (fun H locs hw => ?_)
  refine W.lcmp hx hb dL_law_295 ?_
  refine lv_if_eq (tgt := 1908) hx hb dL_law_296 (by decide) (fun _ => ?_) (fun c1 => absurd (lg_self r) c1)
  exact ih _ _ _ _ _ hR hw hl
set_option maxRecDepth 20000 in
set_option maxHeartbeats 1000000 in
theorem law_tray {p : Program} {l : Launch} {e : Env} {s : State} {m : MethodId} {below : List Frame} {meth : Method} {c : Code} {D : va_G} {cy : Nat → ClassId} {b0 b1 b2 i L : Nat} {xs : Nat → Int32} {CEL SLO : Nat} {x3 : Int32} {Rel Rel2 : ST → ST → Prop} (S : SIM_tray Rel Rel2) (E : CL p m c s #[Value.ref b0] D cy) (hcs : CEL ≤ room_1.cells ∧ SLO ≤ room_1.slots) (hX : va_X b0 L xs s s.heap) (hbl : b0 < s.heap.size) (hx3 : x3 = nI i) (hiL : i + 6 ≤ L) (hL : L ≤ 3072) {σ τ : ST} {H : Heap} {locs : List Loc} {ls : Array Slot} (hR : Rel σ τ) (hw : LH D cy b1 b2 σ τ s H locs) (hl : lv_has ls 4 [(0, .ref b0), (1, .ref (b1 + 0)), (2, .ref (b2 + 0)), (3, .int x3)])
    (ih : ∀ (σ τ : ST) (H : Heap) (locs : List Loc) (ls : Array Slot), Rel2 σ τ → LH D cy b1 b2 σ τ s H locs → lv_has ls 4 [(0, .ref b0), (1, .ref (b1 + 0)), (2, .ref (b2 + 0)), (3, .int x3)] → W p l e room_1 s m #[Value.ref b0] below meth c H locs CEL SLO (lw_Z below #[Value.ref b0] s) (F0 m 1908 ls [])) :
    W p l e room_1 s m #[Value.ref b0] below meth c H locs CEL SLO (lw_Z below #[Value.ref b0] s) (F0 m 301 ls []) := by
  have hx := E.1.1
  have hb := E.1.2.1
  have hbA : ¬ (fun q : Nat => s.heap.size ≤ q) b0 := Nat.not_le.mpr hbl
  obtain ⟨r, σ1, τ1, h1, h2, hR⟩ := S ((xs (x3 + 1).toNatClampNeg)) ((xs (x3 + 2).toNatClampNeg)) ((xs (x3 + 3).toNatClampNeg)) σ τ hR
  refine lv_aload_n hx hb dL_law_301 rfl (lv_at hl 1 rfl) ?_
  refine lv_aload_n hx hb dL_law_302 rfl (lv_at hl 0 rfl) ?_
  refine lv_iload_n hx hb dL_law_303 rfl (lv_at hl 3 rfl) ?_
  refine lv_iconst (v := 1) hx hb dL_law_304 (by decide) ?_
  refine lv_iadd hx hb dL_law_305 ?_
  refine va_sld hx hb hX hbl hbA hw.2.2.1 (law_in (k := 1) hx3 hiL hL (by decide)) dL_law_306 ?_
  refine lv_aload_n hx hb dL_law_307 rfl (lv_at hl 0 rfl) ?_
  refine lv_iload_n hx hb dL_law_308 rfl (lv_at hl 3 rfl) ?_
  refine lv_iconst (v := 2) hx hb dL_law_309 (by decide) ?_
  refine lv_iadd hx hb dL_law_310 ?_
  refine va_sld hx hb hX hbl hbA hw.2.2.1 (law_in (k := 2) hx3 hiL hL (by decide)) dL_law_311 ?_
  refine lv_aload_n hx hb dL_law_312 rfl (lv_at hl 0 rfl) ?_
  refine lv_iload_n hx hb dL_law_313 rfl (lv_at hl 3 rfl) ?_
  refine lv_iconst (v := 3) hx hb dL_law_314 (by decide) ?_
  refine lv_iadd hx hb dL_law_315 ?_
  refine va_sld hx hb hX hbl hbA hw.2.2.1 (law_in (k := 3) hx3 hiL hL (by decide)) dL_law_316 ?_
  refine law_c1 (rest := []) E hw mw_L_27 (c_X11_tray h1 rfl) rfl rfl hl.1 (Nat.le_of_ble_eq_true rfl) ⟨Nat.le_of_ble_eq_true rfl, Nat.le_of_ble_eq_true rfl⟩ ⟨hcs.1, hcs.2⟩ dL_law_317 (fun H locs hw => ?_)
  refine lv_aload_n hx hb dL_law_320 rfl (lv_at hl 2 rfl) ?_
  refine lv_aload_n hx hb dL_law_321 rfl (lv_at hl 0 rfl) ?_
  refine lv_iload_n hx hb dL_law_322 rfl (lv_at hl 3 rfl) ?_
  refine lv_iconst (v := 1) hx hb dL_law_323 (by decide) ?_
  refine lv_iadd hx hb dL_law_324 ?_
  refine va_sld hx hb hX hbl hbA hw.2.2.1 (law_in (k := 1) hx3 hiL hL (by decide)) dL_law_325 ?_
  refine lv_aload_n hx hb dL_law_326 rfl (lv_at hl 0 rfl) ?_
  refine lv_iload_n hx hb dL_law_327 rfl (lv_at hl 3 rfl) ?_
  refine lv_iconst (v := 2) hx hb dL_law_328 (by decide) ?_
  refine lv_iadd hx hb dL_law_329 ?_
  refine va_sld hx hb hX hbl hbA hw.2.2.1 (law_in (k := 2) hx3 hiL hL (by decide)) dL_law_330 ?_
  refine lv_aload_n hx hb dL_law_331 rfl (lv_at hl 0 rfl) ?_
  refine lv_iload_n hx hb dL_law_332 rfl (lv_at hl 3 rfl) ?_
  refine lv_iconst (v := 3) hx hb dL_law_333 (by decide) ?_
  refine lv_iadd hx hb dL_law_334 ?_
  refine va_sld hx hb hX hbl hbA hw.2.2.1 (law_in (k := 3) hx3 hiL hL (by decide)) dL_law_335 ?_
  refine law_c2 (rest := [.int r]) E hw mw_L_31 (c_X12_tray h2 rfl) rfl rfl hl.1 (Nat.le_of_ble_eq_true rfl) ⟨Nat.le_of_ble_eq_true rfl, Nat.le_of_ble_eq_true rfl⟩ ⟨hcs.1, hcs.2⟩ dL_law_336 (fun H locs hw => ?_)
  refine lv_icmp_eq (tgt := 1908) hx hb dL_law_339 (by decide) (fun _ => ?_) (fun c1 => absurd rfl c1)
  exact ih _ _ _ _ _ hR hw hl
set_option maxRecDepth 20000 in
set_option maxHeartbeats 1000000 in
theorem law_write {p : Program} {l : Launch} {e : Env} {s : State} {m : MethodId} {below : List Frame} {meth : Method} {c : Code} {D : va_G} {cy : Nat → ClassId} {b0 b1 b2 i L : Nat} {xs : Nat → Int32} {CEL SLO : Nat} {x3 : Int32} {Rel Rel2 : ST → ST → Prop} (S : SIM_write Rel Rel2) (E : CL p m c s #[Value.ref b0] D cy) (hcs : CEL ≤ room_1.cells ∧ SLO ≤ room_1.slots) (hX : va_X b0 L xs s s.heap) (hbl : b0 < s.heap.size) (hx3 : x3 = nI i) (hiL : i + 6 ≤ L) (hL : L ≤ 3072) {σ τ : ST} {H : Heap} {locs : List Loc} {ls : Array Slot} (hR : Rel σ τ) (hw : LH D cy b1 b2 σ τ s H locs) (hl : lv_has ls 4 [(0, .ref b0), (1, .ref (b1 + 0)), (2, .ref (b2 + 0)), (3, .int x3)])
    (ih : ∀ (σ τ : ST) (H : Heap) (locs : List Loc) (ls : Array Slot), Rel2 σ τ → LH D cy b1 b2 σ τ s H locs → lv_has ls 4 [(0, .ref b0), (1, .ref (b1 + 0)), (2, .ref (b2 + 0)), (3, .int x3)] → W p l e room_1 s m #[Value.ref b0] below meth c H locs CEL SLO (lw_Z below #[Value.ref b0] s) (F0 m 1908 ls [])) :
    W p l e room_1 s m #[Value.ref b0] below meth c H locs CEL SLO (lw_Z below #[Value.ref b0] s) (F0 m 344 ls []) := by
  have hx := E.1.1
  have hb := E.1.2.1
  have hbA : ¬ (fun q : Nat => s.heap.size ≤ q) b0 := Nat.not_le.mpr hbl
  obtain ⟨r, σ1, τ1, h1, h2, hR⟩ := S ((xs (x3 + 1).toNatClampNeg)) ((xs (x3 + 2).toNatClampNeg)) ((((xs (x3 + 3).toNatClampNeg).toInt64 <<< ((32 : Int32).toInt64 &&& 63)) ||| ((xs (x3 + 4).toNatClampNeg).toInt64 &&& 4294967295))) σ τ hR
  refine lv_aload_n hx hb dL_law_344 rfl (lv_at hl 1 rfl) ?_
  refine lv_aload_n hx hb dL_law_345 rfl (lv_at hl 0 rfl) ?_
  refine lv_iload_n hx hb dL_law_346 rfl (lv_at hl 3 rfl) ?_
  refine lv_iconst (v := 1) hx hb dL_law_347 (by decide) ?_
  refine lv_iadd hx hb dL_law_348 ?_
  refine va_sld hx hb hX hbl hbA hw.2.2.1 (law_in (k := 1) hx3 hiL hL (by decide)) dL_law_349 ?_
  refine lv_aload_n hx hb dL_law_350 rfl (lv_at hl 0 rfl) ?_
  refine lv_iload_n hx hb dL_law_351 rfl (lv_at hl 3 rfl) ?_
  refine lv_iconst (v := 2) hx hb dL_law_352 (by decide) ?_
  refine lv_iadd hx hb dL_law_353 ?_
  refine va_sld hx hb hX hbl hbA hw.2.2.1 (law_in (k := 2) hx3 hiL hL (by decide)) dL_law_354 ?_
  refine lv_aload_n hx hb dL_law_355 rfl (lv_at hl 0 rfl) ?_
  refine lv_iload_n hx hb dL_law_356 rfl (lv_at hl 3 rfl) ?_
  refine lv_iconst (v := 3) hx hb dL_law_357 (by decide) ?_
  refine lv_iadd hx hb dL_law_358 ?_
  refine va_sld hx hb hX hbl hbA hw.2.2.1 (law_in (k := 3) hx3 hiL hL (by decide)) dL_law_359 ?_
  refine lv_i2l hx hb dL_law_360 rfl ?_
  refine lv_bipush (v := 32) hx hb dL_law_361 (by decide) ?_
  refine lv_lshl hx hb dL_law_363 rfl ?_
  refine lv_aload_n hx hb dL_law_364 rfl (lv_at hl 0 rfl) ?_
  refine lv_iload_n hx hb dL_law_365 rfl (lv_at hl 3 rfl) ?_
  refine lv_iconst (v := 4) hx hb dL_law_366 (by decide) ?_
  refine lv_iadd hx hb dL_law_367 ?_
  refine va_sld hx hb hX hbl hbA hw.2.2.1 (law_in (k := 4) hx3 hiL hL (by decide)) dL_law_368 ?_
  refine lv_i2l hx hb dL_law_369 rfl ?_
  refine lv_ldc2 hx hb E.1.2.2.2.1 (E.1.2.2.2.2 _ (rL1 _ (List.mem_of_getElem? (i := 6) rfl))) dL_law_370 ?_
  refine lv_land hx hb dL_law_373 ?_
  refine lv_lor hx hb dL_law_374 ?_
  refine law_c1 (rest := []) E hw mw_L_34 (c_X11_write h1 rfl) rfl rfl hl.1 (Nat.le_of_ble_eq_true rfl) ⟨Nat.le_of_ble_eq_true rfl, Nat.le_of_ble_eq_true rfl⟩ ⟨hcs.1, hcs.2⟩ dL_law_375 (fun H locs hw => ?_)
  refine lv_aload_n hx hb dL_law_378 rfl (lv_at hl 2 rfl) ?_
  refine lv_aload_n hx hb dL_law_379 rfl (lv_at hl 0 rfl) ?_
  refine lv_iload_n hx hb dL_law_380 rfl (lv_at hl 3 rfl) ?_
  refine lv_iconst (v := 1) hx hb dL_law_381 (by decide) ?_
  refine lv_iadd hx hb dL_law_382 ?_
  refine va_sld hx hb hX hbl hbA hw.2.2.1 (law_in (k := 1) hx3 hiL hL (by decide)) dL_law_383 ?_
  refine lv_aload_n hx hb dL_law_384 rfl (lv_at hl 0 rfl) ?_
  refine lv_iload_n hx hb dL_law_385 rfl (lv_at hl 3 rfl) ?_
  refine lv_iconst (v := 2) hx hb dL_law_386 (by decide) ?_
  refine lv_iadd hx hb dL_law_387 ?_
  refine va_sld hx hb hX hbl hbA hw.2.2.1 (law_in (k := 2) hx3 hiL hL (by decide)) dL_law_388 ?_
  refine lv_aload_n hx hb dL_law_389 rfl (lv_at hl 0 rfl) ?_
  refine lv_iload_n hx hb dL_law_390 rfl (lv_at hl 3 rfl) ?_
  refine lv_iconst (v := 3) hx hb dL_law_391 (by decide) ?_
  refine lv_iadd hx hb dL_law_392 ?_
  refine va_sld hx hb hX hbl hbA hw.2.2.1 (law_in (k := 3) hx3 hiL hL (by decide)) dL_law_393 ?_
  refine lv_i2l hx hb dL_law_394 rfl ?_
  refine lv_bipush (v := 32) hx hb dL_law_395 (by decide) ?_
  refine lv_lshl hx hb dL_law_397 rfl ?_
  refine lv_aload_n hx hb dL_law_398 rfl (lv_at hl 0 rfl) ?_
  refine lv_iload_n hx hb dL_law_399 rfl (lv_at hl 3 rfl) ?_
  refine lv_iconst (v := 4) hx hb dL_law_400 (by decide) ?_
  refine lv_iadd hx hb dL_law_401 ?_
  refine va_sld hx hb hX hbl hbA hw.2.2.1 (law_in (k := 4) hx3 hiL hL (by decide)) dL_law_402 ?_
  refine lv_i2l hx hb dL_law_403 rfl ?_
  refine lv_ldc2 hx hb E.1.2.2.2.1 (E.1.2.2.2.2 _ (rL1 _ (List.mem_of_getElem? (i := 6) rfl))) dL_law_404 ?_
  refine lv_land hx hb dL_law_407 ?_
  refine lv_lor hx hb dL_law_408 ?_
  refine law_c2 (rest := [.int r]) E hw mw_L_38 (c_X12_write h2 rfl) rfl rfl hl.1 (Nat.le_of_ble_eq_true rfl) ⟨Nat.le_of_ble_eq_true rfl, Nat.le_of_ble_eq_true rfl⟩ ⟨hcs.1, hcs.2⟩ dL_law_409 (fun H locs hw => ?_)
  refine lv_icmp_eq (tgt := 1908) hx hb dL_law_412 (by decide) (fun _ => ?_) (fun c1 => absurd rfl c1)
  exact ih _ _ _ _ _ hR hw hl
set_option maxRecDepth 20000 in
set_option maxHeartbeats 1000000 in
theorem law_read {p : Program} {l : Launch} {e : Env} {s : State} {m : MethodId} {below : List Frame} {meth : Method} {c : Code} {D : va_G} {cy : Nat → ClassId} {b0 b1 b2 i L : Nat} {xs : Nat → Int32} {CEL SLO : Nat} {x3 : Int32} {Rel Rel2 : ST → ST → Prop} (S : SIM_read Rel Rel2) (E : CL p m c s #[Value.ref b0] D cy) (hcs : CEL ≤ room_1.cells ∧ SLO ≤ room_1.slots) (hX : va_X b0 L xs s s.heap) (hbl : b0 < s.heap.size) (hx3 : x3 = nI i) (hiL : i + 6 ≤ L) (hL : L ≤ 3072) {σ τ : ST} {H : Heap} {locs : List Loc} {ls : Array Slot} (hR : Rel σ τ) (hw : LH D cy b1 b2 σ τ s H locs) (hl : lv_has ls 4 [(0, .ref b0), (1, .ref (b1 + 0)), (2, .ref (b2 + 0)), (3, .int x3)])
    (ih : ∀ (σ τ : ST) (H : Heap) (locs : List Loc) (ls : Array Slot), Rel2 σ τ → LH D cy b1 b2 σ τ s H locs → lv_has ls 4 [(0, .ref b0), (1, .ref (b1 + 0)), (2, .ref (b2 + 0)), (3, .int x3)] → W p l e room_1 s m #[Value.ref b0] below meth c H locs CEL SLO (lw_Z below #[Value.ref b0] s) (F0 m 1908 ls [])) :
    W p l e room_1 s m #[Value.ref b0] below meth c H locs CEL SLO (lw_Z below #[Value.ref b0] s) (F0 m 417 ls []) := by
  have hx := E.1.1
  have hb := E.1.2.1
  have hbA : ¬ (fun q : Nat => s.heap.size ≤ q) b0 := Nat.not_le.mpr hbl
  obtain ⟨r, σ1, τ1, h1, h2, hR⟩ := S ((xs (x3 + 1).toNatClampNeg)) ((xs (x3 + 2).toNatClampNeg)) σ τ hR
  refine lv_aload_n hx hb dL_law_417 rfl (lv_at hl 1 rfl) ?_
  refine lv_aload_n hx hb dL_law_418 rfl (lv_at hl 0 rfl) ?_
  refine lv_iload_n hx hb dL_law_419 rfl (lv_at hl 3 rfl) ?_
  refine lv_iconst (v := 1) hx hb dL_law_420 (by decide) ?_
  refine lv_iadd hx hb dL_law_421 ?_
  refine va_sld hx hb hX hbl hbA hw.2.2.1 (law_in (k := 1) hx3 hiL hL (by decide)) dL_law_422 ?_
  refine lv_aload_n hx hb dL_law_423 rfl (lv_at hl 0 rfl) ?_
  refine lv_iload_n hx hb dL_law_424 rfl (lv_at hl 3 rfl) ?_
  refine lv_iconst (v := 2) hx hb dL_law_425 (by decide) ?_
  refine lv_iadd hx hb dL_law_426 ?_
  refine va_sld hx hb hX hbl hbA hw.2.2.1 (law_in (k := 2) hx3 hiL hL (by decide)) dL_law_427 ?_
  refine law_c1 (rest := []) E hw mw_L_39 (c_X11_read h1 rfl) rfl rfl hl.1 (Nat.le_of_ble_eq_true rfl) ⟨Nat.le_of_ble_eq_true rfl, Nat.le_of_ble_eq_true rfl⟩ ⟨hcs.1, hcs.2⟩ dL_law_428 (fun H locs hw => ?_)
  refine lv_aload_n hx hb dL_law_431 rfl (lv_at hl 2 rfl) ?_
  refine lv_aload_n hx hb dL_law_432 rfl (lv_at hl 0 rfl) ?_
  refine lv_iload_n hx hb dL_law_433 rfl (lv_at hl 3 rfl) ?_
  refine lv_iconst (v := 1) hx hb dL_law_434 (by decide) ?_
  refine lv_iadd hx hb dL_law_435 ?_
  refine va_sld hx hb hX hbl hbA hw.2.2.1 (law_in (k := 1) hx3 hiL hL (by decide)) dL_law_436 ?_
  refine lv_aload_n hx hb dL_law_437 rfl (lv_at hl 0 rfl) ?_
  refine lv_iload_n hx hb dL_law_438 rfl (lv_at hl 3 rfl) ?_
  refine lv_iconst (v := 2) hx hb dL_law_439 (by decide) ?_
  refine lv_iadd hx hb dL_law_440 ?_
  refine va_sld hx hb hX hbl hbA hw.2.2.1 (law_in (k := 2) hx3 hiL hL (by decide)) dL_law_441 ?_
  refine law_c2 (rest := [.long r]) E hw mw_L_43 (c_X12_read h2 rfl) rfl rfl hl.1 (Nat.le_of_ble_eq_true rfl) ⟨Nat.le_of_ble_eq_true rfl, Nat.le_of_ble_eq_true rfl⟩ ⟨hcs.1, hcs.2⟩ dL_law_442 (fun H locs hw => ?_)
  refine W.lcmp hx hb dL_law_445 ?_
  refine lv_if_eq (tgt := 1908) hx hb dL_law_446 (by decide) (fun _ => ?_) (fun c1 => absurd (lg_self r) c1)
  exact ih _ _ _ _ _ hR hw hl
set_option maxRecDepth 20000 in
set_option maxHeartbeats 1000000 in
theorem law_pour {p : Program} {l : Launch} {e : Env} {s : State} {m : MethodId} {below : List Frame} {meth : Method} {c : Code} {D : va_G} {cy : Nat → ClassId} {b0 b1 b2 i L : Nat} {xs : Nat → Int32} {CEL SLO : Nat} {x3 : Int32} {Rel Rel2 : ST → ST → Prop} (S : SIM_pour Rel Rel2) (E : CL p m c s #[Value.ref b0] D cy) (hcs : CEL ≤ room_1.cells ∧ SLO ≤ room_1.slots) (hX : va_X b0 L xs s s.heap) (hbl : b0 < s.heap.size) (hx3 : x3 = nI i) (hiL : i + 6 ≤ L) (hL : L ≤ 3072) {σ τ : ST} {H : Heap} {locs : List Loc} {ls : Array Slot} (hR : Rel σ τ) (hw : LH D cy b1 b2 σ τ s H locs) (hl : lv_has ls 4 [(0, .ref b0), (1, .ref (b1 + 0)), (2, .ref (b2 + 0)), (3, .int x3)])
    (ih : ∀ (σ τ : ST) (H : Heap) (locs : List Loc) (ls : Array Slot), Rel2 σ τ → LH D cy b1 b2 σ τ s H locs → lv_has ls 4 [(0, .ref b0), (1, .ref (b1 + 0)), (2, .ref (b2 + 0)), (3, .int x3)] → W p l e room_1 s m #[Value.ref b0] below meth c H locs CEL SLO (lw_Z below #[Value.ref b0] s) (F0 m 1908 ls [])) :
    W p l e room_1 s m #[Value.ref b0] below meth c H locs CEL SLO (lw_Z below #[Value.ref b0] s) (F0 m 451 ls []) := by
  have hx := E.1.1
  have hb := E.1.2.1
  have hbA : ¬ (fun q : Nat => s.heap.size ≤ q) b0 := Nat.not_le.mpr hbl
  obtain ⟨r, σ1, τ1, h1, h2, hR⟩ := S ((xs (x3 + 1).toNatClampNeg)) ((xs (x3 + 2).toNatClampNeg)) ((xs (x3 + 3).toNatClampNeg)) ((xs (x3 + 4).toNatClampNeg)) ((xs (x3 + 5).toNatClampNeg)) σ τ hR
  refine lv_aload_n hx hb dL_law_451 rfl (lv_at hl 1 rfl) ?_
  refine lv_aload_n hx hb dL_law_452 rfl (lv_at hl 0 rfl) ?_
  refine lv_iload_n hx hb dL_law_453 rfl (lv_at hl 3 rfl) ?_
  refine lv_iconst (v := 1) hx hb dL_law_454 (by decide) ?_
  refine lv_iadd hx hb dL_law_455 ?_
  refine va_sld hx hb hX hbl hbA hw.2.2.1 (law_in (k := 1) hx3 hiL hL (by decide)) dL_law_456 ?_
  refine lv_aload_n hx hb dL_law_457 rfl (lv_at hl 0 rfl) ?_
  refine lv_iload_n hx hb dL_law_458 rfl (lv_at hl 3 rfl) ?_
  refine lv_iconst (v := 2) hx hb dL_law_459 (by decide) ?_
  refine lv_iadd hx hb dL_law_460 ?_
  refine va_sld hx hb hX hbl hbA hw.2.2.1 (law_in (k := 2) hx3 hiL hL (by decide)) dL_law_461 ?_
  refine lv_aload_n hx hb dL_law_462 rfl (lv_at hl 0 rfl) ?_
  refine lv_iload_n hx hb dL_law_463 rfl (lv_at hl 3 rfl) ?_
  refine lv_iconst (v := 3) hx hb dL_law_464 (by decide) ?_
  refine lv_iadd hx hb dL_law_465 ?_
  refine va_sld hx hb hX hbl hbA hw.2.2.1 (law_in (k := 3) hx3 hiL hL (by decide)) dL_law_466 ?_
  refine lv_aload_n hx hb dL_law_467 rfl (lv_at hl 0 rfl) ?_
  refine lv_iload_n hx hb dL_law_468 rfl (lv_at hl 3 rfl) ?_
  refine lv_iconst (v := 4) hx hb dL_law_469 (by decide) ?_
  refine lv_iadd hx hb dL_law_470 ?_
  refine va_sld hx hb hX hbl hbA hw.2.2.1 (law_in (k := 4) hx3 hiL hL (by decide)) dL_law_471 ?_
  refine lv_aload_n hx hb dL_law_472 rfl (lv_at hl 0 rfl) ?_
  refine lv_iload_n hx hb dL_law_473 rfl (lv_at hl 3 rfl) ?_
  refine lv_iconst (v := 5) hx hb dL_law_474 (by decide) ?_
  refine lv_iadd hx hb dL_law_475 ?_
  refine va_sld hx hb hX hbl hbA hw.2.2.1 (law_in (k := 5) hx3 hiL hL (by decide)) dL_law_476 ?_
  refine law_c1 (rest := []) E hw mw_L_44 (c_X11_pour h1 rfl) rfl rfl hl.1 (Nat.le_of_ble_eq_true rfl) ⟨Nat.le_of_ble_eq_true rfl, Nat.le_of_ble_eq_true rfl⟩ ⟨hcs.1, hcs.2⟩ dL_law_477 (fun H locs hw => ?_)
  refine lv_aload_n hx hb dL_law_480 rfl (lv_at hl 2 rfl) ?_
  refine lv_aload_n hx hb dL_law_481 rfl (lv_at hl 0 rfl) ?_
  refine lv_iload_n hx hb dL_law_482 rfl (lv_at hl 3 rfl) ?_
  refine lv_iconst (v := 1) hx hb dL_law_483 (by decide) ?_
  refine lv_iadd hx hb dL_law_484 ?_
  refine va_sld hx hb hX hbl hbA hw.2.2.1 (law_in (k := 1) hx3 hiL hL (by decide)) dL_law_485 ?_
  refine lv_aload_n hx hb dL_law_486 rfl (lv_at hl 0 rfl) ?_
  refine lv_iload_n hx hb dL_law_487 rfl (lv_at hl 3 rfl) ?_
  refine lv_iconst (v := 2) hx hb dL_law_488 (by decide) ?_
  refine lv_iadd hx hb dL_law_489 ?_
  refine va_sld hx hb hX hbl hbA hw.2.2.1 (law_in (k := 2) hx3 hiL hL (by decide)) dL_law_490 ?_
  refine lv_aload_n hx hb dL_law_491 rfl (lv_at hl 0 rfl) ?_
  refine lv_iload_n hx hb dL_law_492 rfl (lv_at hl 3 rfl) ?_
  refine lv_iconst (v := 3) hx hb dL_law_493 (by decide) ?_
  refine lv_iadd hx hb dL_law_494 ?_
  refine va_sld hx hb hX hbl hbA hw.2.2.1 (law_in (k := 3) hx3 hiL hL (by decide)) dL_law_495 ?_
  refine lv_aload_n hx hb dL_law_496 rfl (lv_at hl 0 rfl) ?_
  refine lv_iload_n hx hb dL_law_497 rfl (lv_at hl 3 rfl) ?_
  refine lv_iconst (v := 4) hx hb dL_law_498 (by decide) ?_
  refine lv_iadd hx hb dL_law_499 ?_
  refine va_sld hx hb hX hbl hbA hw.2.2.1 (law_in (k := 4) hx3 hiL hL (by decide)) dL_law_500 ?_
  refine lv_aload_n hx hb dL_law_501 rfl (lv_at hl 0 rfl) ?_
  refine lv_iload_n hx hb dL_law_502 rfl (lv_at hl 3 rfl) ?_
  refine lv_iconst (v := 5) hx hb dL_law_503 (by decide) ?_
  refine lv_iadd hx hb dL_law_504 ?_
  refine va_sld hx hb hX hbl hbA hw.2.2.1 (law_in (k := 5) hx3 hiL hL (by decide)) dL_law_505 ?_
  refine law_c2 (rest := [.int r]) E hw mw_L_48 (c_X12_pour h2 rfl) rfl rfl hl.1 (Nat.le_of_ble_eq_true rfl) ⟨Nat.le_of_ble_eq_true rfl, Nat.le_of_ble_eq_true rfl⟩ ⟨hcs.1, hcs.2⟩ dL_law_506 (fun H locs hw => ?_)
  refine lv_icmp_eq (tgt := 1908) hx hb dL_law_509 (by decide) (fun _ => ?_) (fun c1 => absurd rfl c1)
  exact ih _ _ _ _ _ hR hw hl
set_option maxRecDepth 20000 in
set_option maxHeartbeats 1000000 in
theorem law_feed {p : Program} {l : Launch} {e : Env} {s : State} {m : MethodId} {below : List Frame} {meth : Method} {c : Code} {D : va_G} {cy : Nat → ClassId} {b0 b1 b2 i L : Nat} {xs : Nat → Int32} {CEL SLO : Nat} {x3 : Int32} {Rel Rel2 : ST → ST → Prop} (S : SIM_feed Rel Rel2) (E : CL p m c s #[Value.ref b0] D cy) (hcs : CEL ≤ room_1.cells ∧ SLO ≤ room_1.slots) (hX : va_X b0 L xs s s.heap) (hbl : b0 < s.heap.size) (hx3 : x3 = nI i) (hiL : i + 6 ≤ L) (hL : L ≤ 3072) {σ τ : ST} {H : Heap} {locs : List Loc} {ls : Array Slot} (hR : Rel σ τ) (hw : LH D cy b1 b2 σ τ s H locs) (hl : lv_has ls 4 [(0, .ref b0), (1, .ref (b1 + 0)), (2, .ref (b2 + 0)), (3, .int x3)])
    (ih : ∀ (σ τ : ST) (H : Heap) (locs : List Loc) (ls : Array Slot), Rel2 σ τ → LH D cy b1 b2 σ τ s H locs → lv_has ls 4 [(0, .ref b0), (1, .ref (b1 + 0)), (2, .ref (b2 + 0)), (3, .int x3)] → W p l e room_1 s m #[Value.ref b0] below meth c H locs CEL SLO (lw_Z below #[Value.ref b0] s) (F0 m 1908 ls [])) :
    W p l e room_1 s m #[Value.ref b0] below meth c H locs CEL SLO (lw_Z below #[Value.ref b0] s) (F0 m 514 ls []) := by
  have hx := E.1.1
  have hb := E.1.2.1
  have hbA : ¬ (fun q : Nat => s.heap.size ≤ q) b0 := Nat.not_le.mpr hbl
  obtain ⟨r, σ1, τ1, h1, h2, hR⟩ := S ((xs (x3 + 1).toNatClampNeg)) ((xs (x3 + 2).toNatClampNeg)) ((xs (x3 + 3).toNatClampNeg)) ((xs (x3 + 4).toNatClampNeg)) ((xs (x3 + 5).toNatClampNeg)) σ τ hR
  refine lv_aload_n hx hb dL_law_514 rfl (lv_at hl 1 rfl) ?_
  refine lv_aload_n hx hb dL_law_515 rfl (lv_at hl 0 rfl) ?_
  refine lv_iload_n hx hb dL_law_516 rfl (lv_at hl 3 rfl) ?_
  refine lv_iconst (v := 1) hx hb dL_law_517 (by decide) ?_
  refine lv_iadd hx hb dL_law_518 ?_
  refine va_sld hx hb hX hbl hbA hw.2.2.1 (law_in (k := 1) hx3 hiL hL (by decide)) dL_law_519 ?_
  refine lv_aload_n hx hb dL_law_520 rfl (lv_at hl 0 rfl) ?_
  refine lv_iload_n hx hb dL_law_521 rfl (lv_at hl 3 rfl) ?_
  refine lv_iconst (v := 2) hx hb dL_law_522 (by decide) ?_
  refine lv_iadd hx hb dL_law_523 ?_
  refine va_sld hx hb hX hbl hbA hw.2.2.1 (law_in (k := 2) hx3 hiL hL (by decide)) dL_law_524 ?_
  refine lv_aload_n hx hb dL_law_525 rfl (lv_at hl 0 rfl) ?_
  refine lv_iload_n hx hb dL_law_526 rfl (lv_at hl 3 rfl) ?_
  refine lv_iconst (v := 3) hx hb dL_law_527 (by decide) ?_
  refine lv_iadd hx hb dL_law_528 ?_
  refine va_sld hx hb hX hbl hbA hw.2.2.1 (law_in (k := 3) hx3 hiL hL (by decide)) dL_law_529 ?_
  refine lv_aload_n hx hb dL_law_530 rfl (lv_at hl 0 rfl) ?_
  refine lv_iload_n hx hb dL_law_531 rfl (lv_at hl 3 rfl) ?_
  refine lv_iconst (v := 4) hx hb dL_law_532 (by decide) ?_
  refine lv_iadd hx hb dL_law_533 ?_
  refine va_sld hx hb hX hbl hbA hw.2.2.1 (law_in (k := 4) hx3 hiL hL (by decide)) dL_law_534 ?_
  refine lv_aload_n hx hb dL_law_535 rfl (lv_at hl 0 rfl) ?_
  refine lv_iload_n hx hb dL_law_536 rfl (lv_at hl 3 rfl) ?_
  refine lv_iconst (v := 5) hx hb dL_law_537 (by decide) ?_
  refine lv_iadd hx hb dL_law_538 ?_
  refine va_sld hx hb hX hbl hbA hw.2.2.1 (law_in (k := 5) hx3 hiL hL (by decide)) dL_law_539 ?_
  refine law_c1 (rest := []) E hw mw_L_49 (c_X11_feed h1 rfl) rfl rfl hl.1 (Nat.le_of_ble_eq_true rfl) ⟨Nat.le_of_ble_eq_true rfl, Nat.le_of_ble_eq_true rfl⟩ ⟨hcs.1, hcs.2⟩ dL_law_540 (fun H locs hw => ?_)
  refine lv_aload_n hx hb dL_law_543 rfl (lv_at hl 2 rfl) ?_
  refine lv_aload_n hx hb dL_law_544 rfl (lv_at hl 0 rfl) ?_
  refine lv_iload_n hx hb dL_law_545 rfl (lv_at hl 3 rfl) ?_
  refine lv_iconst (v := 1) hx hb dL_law_546 (by decide) ?_
  refine lv_iadd hx hb dL_law_547 ?_
  refine va_sld hx hb hX hbl hbA hw.2.2.1 (law_in (k := 1) hx3 hiL hL (by decide)) dL_law_548 ?_
  refine lv_aload_n hx hb dL_law_549 rfl (lv_at hl 0 rfl) ?_
  refine lv_iload_n hx hb dL_law_550 rfl (lv_at hl 3 rfl) ?_
  refine lv_iconst (v := 2) hx hb dL_law_551 (by decide) ?_
  refine lv_iadd hx hb dL_law_552 ?_
  refine va_sld hx hb hX hbl hbA hw.2.2.1 (law_in (k := 2) hx3 hiL hL (by decide)) dL_law_553 ?_
  refine lv_aload_n hx hb dL_law_554 rfl (lv_at hl 0 rfl) ?_
  refine lv_iload_n hx hb dL_law_555 rfl (lv_at hl 3 rfl) ?_
  refine lv_iconst (v := 3) hx hb dL_law_556 (by decide) ?_
  refine lv_iadd hx hb dL_law_557 ?_
  refine va_sld hx hb hX hbl hbA hw.2.2.1 (law_in (k := 3) hx3 hiL hL (by decide)) dL_law_558 ?_
  refine lv_aload_n hx hb dL_law_559 rfl (lv_at hl 0 rfl) ?_
  refine lv_iload_n hx hb dL_law_560 rfl (lv_at hl 3 rfl) ?_
  refine lv_iconst (v := 4) hx hb dL_law_561 (by decide) ?_
  refine lv_iadd hx hb dL_law_562 ?_
  refine va_sld hx hb hX hbl hbA hw.2.2.1 (law_in (k := 4) hx3 hiL hL (by decide)) dL_law_563 ?_
  refine lv_aload_n hx hb dL_law_564 rfl (lv_at hl 0 rfl) ?_
  refine lv_iload_n hx hb dL_law_565 rfl (lv_at hl 3 rfl) ?_
  refine lv_iconst (v := 5) hx hb dL_law_566 (by decide) ?_
  refine lv_iadd hx hb dL_law_567 ?_
  refine va_sld hx hb hX hbl hbA hw.2.2.1 (law_in (k := 5) hx3 hiL hL (by decide)) dL_law_568 ?_
  refine law_c2 (rest := [.int r]) E hw mw_L_53 (c_X12_feed h2 rfl) rfl rfl hl.1 (Nat.le_of_ble_eq_true rfl) ⟨Nat.le_of_ble_eq_true rfl, Nat.le_of_ble_eq_true rfl⟩ ⟨hcs.1, hcs.2⟩ dL_law_569 (fun H locs hw => ?_)
  refine lv_icmp_eq (tgt := 1908) hx hb dL_law_572 (by decide) (fun _ => ?_) (fun c1 => absurd rfl c1)
  exact ih _ _ _ _ _ hR hw hl
set_option maxRecDepth 20000 in
set_option maxHeartbeats 1000000 in
theorem law_shelf {p : Program} {l : Launch} {e : Env} {s : State} {m : MethodId} {below : List Frame} {meth : Method} {c : Code} {D : va_G} {cy : Nat → ClassId} {b0 b1 b2 i L : Nat} {xs : Nat → Int32} {CEL SLO : Nat} {x3 : Int32} {Rel Rel2 : ST → ST → Prop} (S : SIM_shelf Rel Rel2) (E : CL p m c s #[Value.ref b0] D cy) (hcs : CEL ≤ room_1.cells ∧ SLO ≤ room_1.slots) (hX : va_X b0 L xs s s.heap) (hbl : b0 < s.heap.size) (hx3 : x3 = nI i) (hiL : i + 6 ≤ L) (hL : L ≤ 3072) {σ τ : ST} {H : Heap} {locs : List Loc} {ls : Array Slot} (hR : Rel σ τ) (hw : LH D cy b1 b2 σ τ s H locs) (hl : lv_has ls 4 [(0, .ref b0), (1, .ref (b1 + 0)), (2, .ref (b2 + 0)), (3, .int x3)])
    (ih : ∀ (σ τ : ST) (H : Heap) (locs : List Loc) (ls : Array Slot), Rel2 σ τ → LH D cy b1 b2 σ τ s H locs → lv_has ls 4 [(0, .ref b0), (1, .ref (b1 + 0)), (2, .ref (b2 + 0)), (3, .int x3)] → W p l e room_1 s m #[Value.ref b0] below meth c H locs CEL SLO (lw_Z below #[Value.ref b0] s) (F0 m 1908 ls [])) :
    W p l e room_1 s m #[Value.ref b0] below meth c H locs CEL SLO (lw_Z below #[Value.ref b0] s) (F0 m 577 ls []) := by
  have hx := E.1.1
  have hb := E.1.2.1
  have hbA : ¬ (fun q : Nat => s.heap.size ≤ q) b0 := Nat.not_le.mpr hbl
  obtain ⟨r, σ1, τ1, h1, h2, hR⟩ := S ((xs (x3 + 1).toNatClampNeg)) σ τ hR
  refine lv_aload_n hx hb dL_law_577 rfl (lv_at hl 1 rfl) ?_
  refine lv_aload_n hx hb dL_law_578 rfl (lv_at hl 0 rfl) ?_
  refine lv_iload_n hx hb dL_law_579 rfl (lv_at hl 3 rfl) ?_
  refine lv_iconst (v := 1) hx hb dL_law_580 (by decide) ?_
  refine lv_iadd hx hb dL_law_581 ?_
  refine va_sld hx hb hX hbl hbA hw.2.2.1 (law_in (k := 1) hx3 hiL hL (by decide)) dL_law_582 ?_
  refine law_c1 (rest := []) E hw mw_L_54 (c_X11_shelf h1 rfl) rfl rfl hl.1 (Nat.le_of_ble_eq_true rfl) ⟨Nat.le_of_ble_eq_true rfl, Nat.le_of_ble_eq_true rfl⟩ ⟨hcs.1, hcs.2⟩ dL_law_583 (fun H locs hw => ?_)
  refine lv_aload_n hx hb dL_law_586 rfl (lv_at hl 2 rfl) ?_
  refine lv_aload_n hx hb dL_law_587 rfl (lv_at hl 0 rfl) ?_
  refine lv_iload_n hx hb dL_law_588 rfl (lv_at hl 3 rfl) ?_
  refine lv_iconst (v := 1) hx hb dL_law_589 (by decide) ?_
  refine lv_iadd hx hb dL_law_590 ?_
  refine va_sld hx hb hX hbl hbA hw.2.2.1 (law_in (k := 1) hx3 hiL hL (by decide)) dL_law_591 ?_
  refine law_c2 (rest := [.int r]) E hw mw_L_58 (c_X12_shelf h2 rfl) rfl rfl hl.1 (Nat.le_of_ble_eq_true rfl) ⟨Nat.le_of_ble_eq_true rfl, Nat.le_of_ble_eq_true rfl⟩ ⟨hcs.1, hcs.2⟩ dL_law_592 (fun H locs hw => ?_)
  refine lv_icmp_eq (tgt := 1908) hx hb dL_law_595 (by decide) (fun _ => ?_) (fun c1 => absurd rfl c1)
  exact ih _ _ _ _ _ hR hw hl
set_option maxRecDepth 20000 in
set_option maxHeartbeats 1000000 in
theorem law_days {p : Program} {l : Launch} {e : Env} {s : State} {m : MethodId} {below : List Frame} {meth : Method} {c : Code} {D : va_G} {cy : Nat → ClassId} {b0 b1 b2 i L : Nat} {xs : Nat → Int32} {CEL SLO : Nat} {x3 : Int32} {Rel Rel2 : ST → ST → Prop} (S : SIM_days Rel Rel2) (E : CL p m c s #[Value.ref b0] D cy) (hcs : CEL ≤ room_1.cells ∧ SLO ≤ room_1.slots) (hX : va_X b0 L xs s s.heap) (hbl : b0 < s.heap.size) (hx3 : x3 = nI i) (hiL : i + 6 ≤ L) (hL : L ≤ 3072) {σ τ : ST} {H : Heap} {locs : List Loc} {ls : Array Slot} (hR : Rel σ τ) (hw : LH D cy b1 b2 σ τ s H locs) (hl : lv_has ls 4 [(0, .ref b0), (1, .ref (b1 + 0)), (2, .ref (b2 + 0)), (3, .int x3)])
    (ih : ∀ (σ τ : ST) (H : Heap) (locs : List Loc) (ls : Array Slot), Rel2 σ τ → LH D cy b1 b2 σ τ s H locs → lv_has ls 4 [(0, .ref b0), (1, .ref (b1 + 0)), (2, .ref (b2 + 0)), (3, .int x3)] → W p l e room_1 s m #[Value.ref b0] below meth c H locs CEL SLO (lw_Z below #[Value.ref b0] s) (F0 m 1908 ls [])) :
    W p l e room_1 s m #[Value.ref b0] below meth c H locs CEL SLO (lw_Z below #[Value.ref b0] s) (F0 m 600 ls []) := by
  have hx := E.1.1
  have hb := E.1.2.1
  have hbA : ¬ (fun q : Nat => s.heap.size ≤ q) b0 := Nat.not_le.mpr hbl
  obtain ⟨r, σ1, τ1, h1, h2, hR⟩ := S ((xs (x3 + 1).toNatClampNeg)) σ τ hR
  refine lv_aload_n hx hb dL_law_600 rfl (lv_at hl 1 rfl) ?_
  refine lv_aload_n hx hb dL_law_601 rfl (lv_at hl 0 rfl) ?_
  refine lv_iload_n hx hb dL_law_602 rfl (lv_at hl 3 rfl) ?_
  refine lv_iconst (v := 1) hx hb dL_law_603 (by decide) ?_
  refine lv_iadd hx hb dL_law_604 ?_
  refine va_sld hx hb hX hbl hbA hw.2.2.1 (law_in (k := 1) hx3 hiL hL (by decide)) dL_law_605 ?_
  refine law_c1 (rest := []) E hw mw_L_59 (c_X11_days h1 rfl) rfl rfl hl.1 (Nat.le_of_ble_eq_true rfl) ⟨Nat.le_of_ble_eq_true rfl, Nat.le_of_ble_eq_true rfl⟩ ⟨hcs.1, hcs.2⟩ dL_law_606 (fun H locs hw => ?_)
  refine lv_aload_n hx hb dL_law_609 rfl (lv_at hl 2 rfl) ?_
  refine lv_aload_n hx hb dL_law_610 rfl (lv_at hl 0 rfl) ?_
  refine lv_iload_n hx hb dL_law_611 rfl (lv_at hl 3 rfl) ?_
  refine lv_iconst (v := 1) hx hb dL_law_612 (by decide) ?_
  refine lv_iadd hx hb dL_law_613 ?_
  refine va_sld hx hb hX hbl hbA hw.2.2.1 (law_in (k := 1) hx3 hiL hL (by decide)) dL_law_614 ?_
  refine law_c2 (rest := [.int r]) E hw mw_L_62 (c_X12_days h2 rfl) rfl rfl hl.1 (Nat.le_of_ble_eq_true rfl) ⟨Nat.le_of_ble_eq_true rfl, Nat.le_of_ble_eq_true rfl⟩ ⟨hcs.1, hcs.2⟩ dL_law_615 (fun H locs hw => ?_)
  refine lv_icmp_eq (tgt := 1908) hx hb dL_law_618 (by decide) (fun _ => ?_) (fun c1 => absurd rfl c1)
  exact ih _ _ _ _ _ hR hw hl
set_option maxRecDepth 20000 in
set_option maxHeartbeats 1000000 in
theorem law_fault {p : Program} {l : Launch} {e : Env} {s : State} {m : MethodId} {below : List Frame} {meth : Method} {c : Code} {D : va_G} {cy : Nat → ClassId} {b0 b1 b2 i L : Nat} {xs : Nat → Int32} {CEL SLO : Nat} {x3 : Int32} {Rel Rel2 : ST → ST → Prop} (S : SIM_fault Rel Rel2) (E : CL p m c s #[Value.ref b0] D cy) (hcs : CEL ≤ room_1.cells ∧ SLO ≤ room_1.slots) (hX : va_X b0 L xs s s.heap) (hbl : b0 < s.heap.size) (hx3 : x3 = nI i) (hiL : i + 6 ≤ L) (hL : L ≤ 3072) {σ τ : ST} {H : Heap} {locs : List Loc} {ls : Array Slot} (hR : Rel σ τ) (hw : LH D cy b1 b2 σ τ s H locs) (hl : lv_has ls 4 [(0, .ref b0), (1, .ref (b1 + 0)), (2, .ref (b2 + 0)), (3, .int x3)])
    (ih : ∀ (σ τ : ST) (H : Heap) (locs : List Loc) (ls : Array Slot), Rel2 σ τ → LH D cy b1 b2 σ τ s H locs → lv_has ls 4 [(0, .ref b0), (1, .ref (b1 + 0)), (2, .ref (b2 + 0)), (3, .int x3)] → W p l e room_1 s m #[Value.ref b0] below meth c H locs CEL SLO (lw_Z below #[Value.ref b0] s) (F0 m 1908 ls [])) :
    W p l e room_1 s m #[Value.ref b0] below meth c H locs CEL SLO (lw_Z below #[Value.ref b0] s) (F0 m 623 ls []) := by
  have hx := E.1.1
  have hb := E.1.2.1
  have hbA : ¬ (fun q : Nat => s.heap.size ≤ q) b0 := Nat.not_le.mpr hbl
  obtain ⟨r, σ1, τ1, h1, h2, hR⟩ := S ((xs (x3 + 1).toNatClampNeg)) σ τ hR
  refine lv_aload_n hx hb dL_law_623 rfl (lv_at hl 1 rfl) ?_
  refine lv_aload_n hx hb dL_law_624 rfl (lv_at hl 0 rfl) ?_
  refine lv_iload_n hx hb dL_law_625 rfl (lv_at hl 3 rfl) ?_
  refine lv_iconst (v := 1) hx hb dL_law_626 (by decide) ?_
  refine lv_iadd hx hb dL_law_627 ?_
  refine va_sld hx hb hX hbl hbA hw.2.2.1 (law_in (k := 1) hx3 hiL hL (by decide)) dL_law_628 ?_
  refine law_c1 (rest := []) E hw mw_L_63 (c_X11_fault h1 rfl) rfl rfl hl.1 (Nat.le_of_ble_eq_true rfl) ⟨Nat.le_of_ble_eq_true rfl, Nat.le_of_ble_eq_true rfl⟩ ⟨hcs.1, hcs.2⟩ dL_law_629 (fun H locs hw => ?_)
  refine lv_aload_n hx hb dL_law_632 rfl (lv_at hl 2 rfl) ?_
  refine lv_aload_n hx hb dL_law_633 rfl (lv_at hl 0 rfl) ?_
  refine lv_iload_n hx hb dL_law_634 rfl (lv_at hl 3 rfl) ?_
  refine lv_iconst (v := 1) hx hb dL_law_635 (by decide) ?_
  refine lv_iadd hx hb dL_law_636 ?_
  refine va_sld hx hb hX hbl hbA hw.2.2.1 (law_in (k := 1) hx3 hiL hL (by decide)) dL_law_637 ?_
  refine law_c2 (rest := [.int r]) E hw mw_L_66 (c_X12_fault h2 rfl) rfl rfl hl.1 (Nat.le_of_ble_eq_true rfl) ⟨Nat.le_of_ble_eq_true rfl, Nat.le_of_ble_eq_true rfl⟩ ⟨hcs.1, hcs.2⟩ dL_law_638 (fun H locs hw => ?_)
  refine lv_icmp_eq (tgt := 1908) hx hb dL_law_641 (by decide) (fun _ => ?_) (fun c1 => absurd rfl c1)
  exact ih _ _ _ _ _ hR hw hl
set_option maxRecDepth 20000 in
set_option maxHeartbeats 1000000 in
theorem law_told {p : Program} {l : Launch} {e : Env} {s : State} {m : MethodId} {below : List Frame} {meth : Method} {c : Code} {D : va_G} {cy : Nat → ClassId} {b0 b1 b2 i L : Nat} {xs : Nat → Int32} {CEL SLO : Nat} {x3 : Int32} {Rel Rel2 : ST → ST → Prop} (S : SIM_told Rel Rel2) (E : CL p m c s #[Value.ref b0] D cy) (hcs : CEL ≤ room_1.cells ∧ SLO ≤ room_1.slots) (hX : va_X b0 L xs s s.heap) (hbl : b0 < s.heap.size) (hx3 : x3 = nI i) (hiL : i + 6 ≤ L) (hL : L ≤ 3072) {σ τ : ST} {H : Heap} {locs : List Loc} {ls : Array Slot} (hR : Rel σ τ) (hw : LH D cy b1 b2 σ τ s H locs) (hl : lv_has ls 4 [(0, .ref b0), (1, .ref (b1 + 0)), (2, .ref (b2 + 0)), (3, .int x3)])
    (ih : ∀ (σ τ : ST) (H : Heap) (locs : List Loc) (ls : Array Slot), Rel2 σ τ → LH D cy b1 b2 σ τ s H locs → lv_has ls 4 [(0, .ref b0), (1, .ref (b1 + 0)), (2, .ref (b2 + 0)), (3, .int x3)] → W p l e room_1 s m #[Value.ref b0] below meth c H locs CEL SLO (lw_Z below #[Value.ref b0] s) (F0 m 1908 ls [])) :
    W p l e room_1 s m #[Value.ref b0] below meth c H locs CEL SLO (lw_Z below #[Value.ref b0] s) (F0 m 646 ls []) := by
  have hx := E.1.1
  have hb := E.1.2.1
  have hbA : ¬ (fun q : Nat => s.heap.size ≤ q) b0 := Nat.not_le.mpr hbl
  obtain ⟨r, σ1, τ1, h1, h2, hR⟩ := S ((xs (x3 + 1).toNatClampNeg)) σ τ hR
  refine lv_aload_n hx hb dL_law_646 rfl (lv_at hl 1 rfl) ?_
  refine lv_aload_n hx hb dL_law_647 rfl (lv_at hl 0 rfl) ?_
  refine lv_iload_n hx hb dL_law_648 rfl (lv_at hl 3 rfl) ?_
  refine lv_iconst (v := 1) hx hb dL_law_649 (by decide) ?_
  refine lv_iadd hx hb dL_law_650 ?_
  refine va_sld hx hb hX hbl hbA hw.2.2.1 (law_in (k := 1) hx3 hiL hL (by decide)) dL_law_651 ?_
  refine law_c1 (rest := []) E hw mw_L_67 (c_X11_told h1 rfl) rfl rfl hl.1 (Nat.le_of_ble_eq_true rfl) ⟨Nat.le_of_ble_eq_true rfl, Nat.le_of_ble_eq_true rfl⟩ ⟨hcs.1, hcs.2⟩ dL_law_652 (fun H locs hw => ?_)
  refine lv_aload_n hx hb dL_law_655 rfl (lv_at hl 2 rfl) ?_
  refine lv_aload_n hx hb dL_law_656 rfl (lv_at hl 0 rfl) ?_
  refine lv_iload_n hx hb dL_law_657 rfl (lv_at hl 3 rfl) ?_
  refine lv_iconst (v := 1) hx hb dL_law_658 (by decide) ?_
  refine lv_iadd hx hb dL_law_659 ?_
  refine va_sld hx hb hX hbl hbA hw.2.2.1 (law_in (k := 1) hx3 hiL hL (by decide)) dL_law_660 ?_
  refine law_c2 (rest := [.int r]) E hw mw_L_70 (c_X12_told h2 rfl) rfl rfl hl.1 (Nat.le_of_ble_eq_true rfl) ⟨Nat.le_of_ble_eq_true rfl, Nat.le_of_ble_eq_true rfl⟩ ⟨hcs.1, hcs.2⟩ dL_law_661 (fun H locs hw => ?_)
  refine lv_icmp_eq (tgt := 1908) hx hb dL_law_664 (by decide) (fun _ => ?_) (fun c1 => absurd rfl c1)
  exact ih _ _ _ _ _ hR hw hl
set_option maxRecDepth 20000 in
set_option maxHeartbeats 1000000 in
theorem law_row {p : Program} {l : Launch} {e : Env} {s : State} {m : MethodId} {below : List Frame} {meth : Method} {c : Code} {D : va_G} {cy : Nat → ClassId} {b0 b1 b2 i L : Nat} {xs : Nat → Int32} {CEL SLO : Nat} {x3 : Int32} {Rel Rel2 : ST → ST → Prop} (S : SIM_row Rel Rel2) (E : CL p m c s #[Value.ref b0] D cy) (hcs : CEL ≤ room_1.cells ∧ SLO ≤ room_1.slots) (hX : va_X b0 L xs s s.heap) (hbl : b0 < s.heap.size) (hx3 : x3 = nI i) (hiL : i + 6 ≤ L) (hL : L ≤ 3072) {σ τ : ST} {H : Heap} {locs : List Loc} {ls : Array Slot} (hR : Rel σ τ) (hw : LH D cy b1 b2 σ τ s H locs) (hl : lv_has ls 4 [(0, .ref b0), (1, .ref (b1 + 0)), (2, .ref (b2 + 0)), (3, .int x3)])
    (ih : ∀ (σ τ : ST) (H : Heap) (locs : List Loc) (ls : Array Slot), Rel2 σ τ → LH D cy b1 b2 σ τ s H locs → lv_has ls 4 [(0, .ref b0), (1, .ref (b1 + 0)), (2, .ref (b2 + 0)), (3, .int x3)] → W p l e room_1 s m #[Value.ref b0] below meth c H locs CEL SLO (lw_Z below #[Value.ref b0] s) (F0 m 1908 ls [])) :
    W p l e room_1 s m #[Value.ref b0] below meth c H locs CEL SLO (lw_Z below #[Value.ref b0] s) (F0 m 669 ls []) := by
  have hx := E.1.1
  have hb := E.1.2.1
  have hbA : ¬ (fun q : Nat => s.heap.size ≤ q) b0 := Nat.not_le.mpr hbl
  obtain ⟨r, σ1, τ1, h1, h2, hR⟩ := S ((xs (x3 + 1).toNatClampNeg)) ((xs (x3 + 2).toNatClampNeg)) σ τ hR
  refine lv_aload_n hx hb dL_law_669 rfl (lv_at hl 1 rfl) ?_
  refine lv_aload_n hx hb dL_law_670 rfl (lv_at hl 0 rfl) ?_
  refine lv_iload_n hx hb dL_law_671 rfl (lv_at hl 3 rfl) ?_
  refine lv_iconst (v := 1) hx hb dL_law_672 (by decide) ?_
  refine lv_iadd hx hb dL_law_673 ?_
  refine va_sld hx hb hX hbl hbA hw.2.2.1 (law_in (k := 1) hx3 hiL hL (by decide)) dL_law_674 ?_
  refine lv_aload_n hx hb dL_law_675 rfl (lv_at hl 0 rfl) ?_
  refine lv_iload_n hx hb dL_law_676 rfl (lv_at hl 3 rfl) ?_
  refine lv_iconst (v := 2) hx hb dL_law_677 (by decide) ?_
  refine lv_iadd hx hb dL_law_678 ?_
  refine va_sld hx hb hX hbl hbA hw.2.2.1 (law_in (k := 2) hx3 hiL hL (by decide)) dL_law_679 ?_
  refine law_c1 (rest := []) E hw mw_L_71 (c_X11_row h1 rfl) rfl rfl hl.1 (Nat.le_of_ble_eq_true rfl) ⟨Nat.le_of_ble_eq_true rfl, Nat.le_of_ble_eq_true rfl⟩ ⟨hcs.1, hcs.2⟩ dL_law_680 (fun H locs hw => ?_)
  refine lv_aload_n hx hb dL_law_683 rfl (lv_at hl 2 rfl) ?_
  refine lv_aload_n hx hb dL_law_684 rfl (lv_at hl 0 rfl) ?_
  refine lv_iload_n hx hb dL_law_685 rfl (lv_at hl 3 rfl) ?_
  refine lv_iconst (v := 1) hx hb dL_law_686 (by decide) ?_
  refine lv_iadd hx hb dL_law_687 ?_
  refine va_sld hx hb hX hbl hbA hw.2.2.1 (law_in (k := 1) hx3 hiL hL (by decide)) dL_law_688 ?_
  refine lv_aload_n hx hb dL_law_689 rfl (lv_at hl 0 rfl) ?_
  refine lv_iload_n hx hb dL_law_690 rfl (lv_at hl 3 rfl) ?_
  refine lv_iconst (v := 2) hx hb dL_law_691 (by decide) ?_
  refine lv_iadd hx hb dL_law_692 ?_
  refine va_sld hx hb hX hbl hbA hw.2.2.1 (law_in (k := 2) hx3 hiL hL (by decide)) dL_law_693 ?_
  refine law_c2 (rest := [.int r]) E hw mw_L_75 (c_X12_row h2 rfl) rfl rfl hl.1 (Nat.le_of_ble_eq_true rfl) ⟨Nat.le_of_ble_eq_true rfl, Nat.le_of_ble_eq_true rfl⟩ ⟨hcs.1, hcs.2⟩ dL_law_694 (fun H locs hw => ?_)
  refine lv_icmp_eq (tgt := 1908) hx hb dL_law_697 (by decide) (fun _ => ?_) (fun c1 => absurd rfl c1)
  exact ih _ _ _ _ _ hR hw hl
set_option maxRecDepth 20000 in
set_option maxHeartbeats 1000000 in
theorem law_places {p : Program} {l : Launch} {e : Env} {s : State} {m : MethodId} {below : List Frame} {meth : Method} {c : Code} {D : va_G} {cy : Nat → ClassId} {b0 b1 b2 i L : Nat} {xs : Nat → Int32} {CEL SLO : Nat} {x3 : Int32} {Rel Rel2 : ST → ST → Prop} (S : SIM_places Rel Rel2) (E : CL p m c s #[Value.ref b0] D cy) (hcs : CEL ≤ room_1.cells ∧ SLO ≤ room_1.slots) (hX : va_X b0 L xs s s.heap) (hbl : b0 < s.heap.size) (hx3 : x3 = nI i) (hiL : i + 6 ≤ L) (hL : L ≤ 3072) {σ τ : ST} {H : Heap} {locs : List Loc} {ls : Array Slot} (hR : Rel σ τ) (hw : LH D cy b1 b2 σ τ s H locs) (hl : lv_has ls 4 [(0, .ref b0), (1, .ref (b1 + 0)), (2, .ref (b2 + 0)), (3, .int x3)])
    (ih : ∀ (σ τ : ST) (H : Heap) (locs : List Loc) (ls : Array Slot), Rel2 σ τ → LH D cy b1 b2 σ τ s H locs → lv_has ls 4 [(0, .ref b0), (1, .ref (b1 + 0)), (2, .ref (b2 + 0)), (3, .int x3)] → W p l e room_1 s m #[Value.ref b0] below meth c H locs CEL SLO (lw_Z below #[Value.ref b0] s) (F0 m 1908 ls [])) :
    W p l e room_1 s m #[Value.ref b0] below meth c H locs CEL SLO (lw_Z below #[Value.ref b0] s) (F0 m 702 ls []) := by
  have hx := E.1.1
  have hb := E.1.2.1
  have hbA : ¬ (fun q : Nat => s.heap.size ≤ q) b0 := Nat.not_le.mpr hbl
  obtain ⟨r, σ1, τ1, h1, h2, hR⟩ := S ((xs (x3 + 1).toNatClampNeg)) σ τ hR
  refine lv_aload_n hx hb dL_law_702 rfl (lv_at hl 1 rfl) ?_
  refine lv_aload_n hx hb dL_law_703 rfl (lv_at hl 0 rfl) ?_
  refine lv_iload_n hx hb dL_law_704 rfl (lv_at hl 3 rfl) ?_
  refine lv_iconst (v := 1) hx hb dL_law_705 (by decide) ?_
  refine lv_iadd hx hb dL_law_706 ?_
  refine va_sld hx hb hX hbl hbA hw.2.2.1 (law_in (k := 1) hx3 hiL hL (by decide)) dL_law_707 ?_
  refine law_c1 (rest := []) E hw mw_L_76 (c_X11_places h1 rfl) rfl rfl hl.1 (Nat.le_of_ble_eq_true rfl) ⟨Nat.le_of_ble_eq_true rfl, Nat.le_of_ble_eq_true rfl⟩ ⟨hcs.1, hcs.2⟩ dL_law_708 (fun H locs hw => ?_)
  refine lv_aload_n hx hb dL_law_711 rfl (lv_at hl 2 rfl) ?_
  refine lv_aload_n hx hb dL_law_712 rfl (lv_at hl 0 rfl) ?_
  refine lv_iload_n hx hb dL_law_713 rfl (lv_at hl 3 rfl) ?_
  refine lv_iconst (v := 1) hx hb dL_law_714 (by decide) ?_
  refine lv_iadd hx hb dL_law_715 ?_
  refine va_sld hx hb hX hbl hbA hw.2.2.1 (law_in (k := 1) hx3 hiL hL (by decide)) dL_law_716 ?_
  refine law_c2 (rest := [.int r]) E hw mw_L_79 (c_X12_places h2 rfl) rfl rfl hl.1 (Nat.le_of_ble_eq_true rfl) ⟨Nat.le_of_ble_eq_true rfl, Nat.le_of_ble_eq_true rfl⟩ ⟨hcs.1, hcs.2⟩ dL_law_717 (fun H locs hw => ?_)
  refine lv_icmp_eq (tgt := 1908) hx hb dL_law_720 (by decide) (fun _ => ?_) (fun c1 => absurd rfl c1)
  exact ih _ _ _ _ _ hR hw hl
set_option maxRecDepth 20000 in
set_option maxHeartbeats 1000000 in
theorem law_reach {p : Program} {l : Launch} {e : Env} {s : State} {m : MethodId} {below : List Frame} {meth : Method} {c : Code} {D : va_G} {cy : Nat → ClassId} {b0 b1 b2 i L : Nat} {xs : Nat → Int32} {CEL SLO : Nat} {x3 : Int32} {Rel Rel2 : ST → ST → Prop} (S : SIM_reach Rel Rel2) (E : CL p m c s #[Value.ref b0] D cy) (hcs : CEL ≤ room_1.cells ∧ SLO ≤ room_1.slots) (hX : va_X b0 L xs s s.heap) (hbl : b0 < s.heap.size) (hx3 : x3 = nI i) (hiL : i + 6 ≤ L) (hL : L ≤ 3072) {σ τ : ST} {H : Heap} {locs : List Loc} {ls : Array Slot} (hR : Rel σ τ) (hw : LH D cy b1 b2 σ τ s H locs) (hl : lv_has ls 4 [(0, .ref b0), (1, .ref (b1 + 0)), (2, .ref (b2 + 0)), (3, .int x3)])
    (ih : ∀ (σ τ : ST) (H : Heap) (locs : List Loc) (ls : Array Slot), Rel2 σ τ → LH D cy b1 b2 σ τ s H locs → lv_has ls 4 [(0, .ref b0), (1, .ref (b1 + 0)), (2, .ref (b2 + 0)), (3, .int x3)] → W p l e room_1 s m #[Value.ref b0] below meth c H locs CEL SLO (lw_Z below #[Value.ref b0] s) (F0 m 1908 ls [])) :
    W p l e room_1 s m #[Value.ref b0] below meth c H locs CEL SLO (lw_Z below #[Value.ref b0] s) (F0 m 725 ls []) := by
  have hx := E.1.1
  have hb := E.1.2.1
  have hbA : ¬ (fun q : Nat => s.heap.size ≤ q) b0 := Nat.not_le.mpr hbl
  obtain ⟨r, σ1, τ1, h1, h2, hR⟩ := S ((xs (x3 + 1).toNatClampNeg)) ((xs (x3 + 2).toNatClampNeg)) σ τ hR
  refine lv_aload_n hx hb dL_law_725 rfl (lv_at hl 1 rfl) ?_
  refine lv_aload_n hx hb dL_law_726 rfl (lv_at hl 0 rfl) ?_
  refine lv_iload_n hx hb dL_law_727 rfl (lv_at hl 3 rfl) ?_
  refine lv_iconst (v := 1) hx hb dL_law_728 (by decide) ?_
  refine lv_iadd hx hb dL_law_729 ?_
  refine va_sld hx hb hX hbl hbA hw.2.2.1 (law_in (k := 1) hx3 hiL hL (by decide)) dL_law_730 ?_
  refine lv_aload_n hx hb dL_law_731 rfl (lv_at hl 0 rfl) ?_
  refine lv_iload_n hx hb dL_law_732 rfl (lv_at hl 3 rfl) ?_
  refine lv_iconst (v := 2) hx hb dL_law_733 (by decide) ?_
  refine lv_iadd hx hb dL_law_734 ?_
  refine va_sld hx hb hX hbl hbA hw.2.2.1 (law_in (k := 2) hx3 hiL hL (by decide)) dL_law_735 ?_
  refine law_c1 (rest := []) E hw mw_L_80 (c_X11_reach h1 rfl) rfl rfl hl.1 (Nat.le_of_ble_eq_true rfl) ⟨Nat.le_of_ble_eq_true rfl, Nat.le_of_ble_eq_true rfl⟩ ⟨hcs.1, hcs.2⟩ dL_law_736 (fun H locs hw => ?_)
  refine lv_aload_n hx hb dL_law_739 rfl (lv_at hl 2 rfl) ?_
  refine lv_aload_n hx hb dL_law_740 rfl (lv_at hl 0 rfl) ?_
  refine lv_iload_n hx hb dL_law_741 rfl (lv_at hl 3 rfl) ?_
  refine lv_iconst (v := 1) hx hb dL_law_742 (by decide) ?_
  refine lv_iadd hx hb dL_law_743 ?_
  refine va_sld hx hb hX hbl hbA hw.2.2.1 (law_in (k := 1) hx3 hiL hL (by decide)) dL_law_744 ?_
  refine lv_aload_n hx hb dL_law_745 rfl (lv_at hl 0 rfl) ?_
  refine lv_iload_n hx hb dL_law_746 rfl (lv_at hl 3 rfl) ?_
  refine lv_iconst (v := 2) hx hb dL_law_747 (by decide) ?_
  refine lv_iadd hx hb dL_law_748 ?_
  refine va_sld hx hb hX hbl hbA hw.2.2.1 (law_in (k := 2) hx3 hiL hL (by decide)) dL_law_749 ?_
  refine law_c2 (rest := [.int r]) E hw mw_L_83 (c_X12_reach h2 rfl) rfl rfl hl.1 (Nat.le_of_ble_eq_true rfl) ⟨Nat.le_of_ble_eq_true rfl, Nat.le_of_ble_eq_true rfl⟩ ⟨hcs.1, hcs.2⟩ dL_law_750 (fun H locs hw => ?_)
  refine lv_icmp_eq (tgt := 1908) hx hb dL_law_753 (by decide) (fun _ => ?_) (fun c1 => absurd rfl c1)
  exact ih _ _ _ _ _ hR hw hl
set_option maxRecDepth 20000 in
set_option maxHeartbeats 1000000 in
theorem law_put {p : Program} {l : Launch} {e : Env} {s : State} {m : MethodId} {below : List Frame} {meth : Method} {c : Code} {D : va_G} {cy : Nat → ClassId} {b0 b1 b2 i L : Nat} {xs : Nat → Int32} {CEL SLO : Nat} {x3 : Int32} {Rel Rel2 : ST → ST → Prop} (S : SIM_put Rel Rel2) (E : CL p m c s #[Value.ref b0] D cy) (hcs : CEL ≤ room_1.cells ∧ SLO ≤ room_1.slots) (hX : va_X b0 L xs s s.heap) (hbl : b0 < s.heap.size) (hx3 : x3 = nI i) (hiL : i + 6 ≤ L) (hL : L ≤ 3072) {σ τ : ST} {H : Heap} {locs : List Loc} {ls : Array Slot} (hR : Rel σ τ) (hw : LH D cy b1 b2 σ τ s H locs) (hl : lv_has ls 4 [(0, .ref b0), (1, .ref (b1 + 0)), (2, .ref (b2 + 0)), (3, .int x3)])
    (ih : ∀ (σ τ : ST) (H : Heap) (locs : List Loc) (ls : Array Slot), Rel2 σ τ → LH D cy b1 b2 σ τ s H locs → lv_has ls 4 [(0, .ref b0), (1, .ref (b1 + 0)), (2, .ref (b2 + 0)), (3, .int x3)] → W p l e room_1 s m #[Value.ref b0] below meth c H locs CEL SLO (lw_Z below #[Value.ref b0] s) (F0 m 1908 ls [])) :
    W p l e room_1 s m #[Value.ref b0] below meth c H locs CEL SLO (lw_Z below #[Value.ref b0] s) (F0 m 758 ls []) := by
  have hx := E.1.1
  have hb := E.1.2.1
  have hbA : ¬ (fun q : Nat => s.heap.size ≤ q) b0 := Nat.not_le.mpr hbl
  obtain ⟨r, σ1, τ1, h1, h2, hR⟩ := S ((xs (x3 + 1).toNatClampNeg)) ((xs (x3 + 2).toNatClampNeg)) ((xs (x3 + 3).toNatClampNeg)) ((xs (x3 + 4).toNatClampNeg)) σ τ hR
  refine lv_aload_n hx hb dL_law_758 rfl (lv_at hl 1 rfl) ?_
  refine lv_aload_n hx hb dL_law_759 rfl (lv_at hl 0 rfl) ?_
  refine lv_iload_n hx hb dL_law_760 rfl (lv_at hl 3 rfl) ?_
  refine lv_iconst (v := 1) hx hb dL_law_761 (by decide) ?_
  refine lv_iadd hx hb dL_law_762 ?_
  refine va_sld hx hb hX hbl hbA hw.2.2.1 (law_in (k := 1) hx3 hiL hL (by decide)) dL_law_763 ?_
  refine lv_aload_n hx hb dL_law_764 rfl (lv_at hl 0 rfl) ?_
  refine lv_iload_n hx hb dL_law_765 rfl (lv_at hl 3 rfl) ?_
  refine lv_iconst (v := 2) hx hb dL_law_766 (by decide) ?_
  refine lv_iadd hx hb dL_law_767 ?_
  refine va_sld hx hb hX hbl hbA hw.2.2.1 (law_in (k := 2) hx3 hiL hL (by decide)) dL_law_768 ?_
  refine lv_aload_n hx hb dL_law_769 rfl (lv_at hl 0 rfl) ?_
  refine lv_iload_n hx hb dL_law_770 rfl (lv_at hl 3 rfl) ?_
  refine lv_iconst (v := 3) hx hb dL_law_771 (by decide) ?_
  refine lv_iadd hx hb dL_law_772 ?_
  refine va_sld hx hb hX hbl hbA hw.2.2.1 (law_in (k := 3) hx3 hiL hL (by decide)) dL_law_773 ?_
  refine lv_aload_n hx hb dL_law_774 rfl (lv_at hl 0 rfl) ?_
  refine lv_iload_n hx hb dL_law_775 rfl (lv_at hl 3 rfl) ?_
  refine lv_iconst (v := 4) hx hb dL_law_776 (by decide) ?_
  refine lv_iadd hx hb dL_law_777 ?_
  refine va_sld hx hb hX hbl hbA hw.2.2.1 (law_in (k := 4) hx3 hiL hL (by decide)) dL_law_778 ?_
  refine law_c1 (rest := []) E hw mw_L_84 (c_X11_put h1 rfl) rfl rfl hl.1 (Nat.le_of_ble_eq_true rfl) ⟨Nat.le_of_ble_eq_true rfl, Nat.le_of_ble_eq_true rfl⟩ ⟨hcs.1, hcs.2⟩ dL_law_779 (fun H locs hw => ?_)
  refine lv_aload_n hx hb dL_law_782 rfl (lv_at hl 2 rfl) ?_
  refine lv_aload_n hx hb dL_law_783 rfl (lv_at hl 0 rfl) ?_
  refine lv_iload_n hx hb dL_law_784 rfl (lv_at hl 3 rfl) ?_
  refine lv_iconst (v := 1) hx hb dL_law_785 (by decide) ?_
  refine lv_iadd hx hb dL_law_786 ?_
  refine va_sld hx hb hX hbl hbA hw.2.2.1 (law_in (k := 1) hx3 hiL hL (by decide)) dL_law_787 ?_
  refine lv_aload_n hx hb dL_law_788 rfl (lv_at hl 0 rfl) ?_
  refine lv_iload_n hx hb dL_law_789 rfl (lv_at hl 3 rfl) ?_
  refine lv_iconst (v := 2) hx hb dL_law_790 (by decide) ?_
  refine lv_iadd hx hb dL_law_791 ?_
  refine va_sld hx hb hX hbl hbA hw.2.2.1 (law_in (k := 2) hx3 hiL hL (by decide)) dL_law_792 ?_
  refine lv_aload_n hx hb dL_law_793 rfl (lv_at hl 0 rfl) ?_
  refine lv_iload_n hx hb dL_law_794 rfl (lv_at hl 3 rfl) ?_
  refine lv_iconst (v := 3) hx hb dL_law_795 (by decide) ?_
  refine lv_iadd hx hb dL_law_796 ?_
  refine va_sld hx hb hX hbl hbA hw.2.2.1 (law_in (k := 3) hx3 hiL hL (by decide)) dL_law_797 ?_
  refine lv_aload_n hx hb dL_law_798 rfl (lv_at hl 0 rfl) ?_
  refine lv_iload_n hx hb dL_law_799 rfl (lv_at hl 3 rfl) ?_
  refine lv_iconst (v := 4) hx hb dL_law_800 (by decide) ?_
  refine lv_iadd hx hb dL_law_801 ?_
  refine va_sld hx hb hX hbl hbA hw.2.2.1 (law_in (k := 4) hx3 hiL hL (by decide)) dL_law_802 ?_
  refine law_c2 (rest := [.int r]) E hw mw_L_88 (c_X12_put h2 rfl) rfl rfl hl.1 (Nat.le_of_ble_eq_true rfl) ⟨Nat.le_of_ble_eq_true rfl, Nat.le_of_ble_eq_true rfl⟩ ⟨hcs.1, hcs.2⟩ dL_law_803 (fun H locs hw => ?_)
  refine lv_icmp_eq (tgt := 1908) hx hb dL_law_806 (by decide) (fun _ => ?_) (fun c1 => absurd rfl c1)
  exact ih _ _ _ _ _ hR hw hl
set_option maxRecDepth 20000 in
set_option maxHeartbeats 1000000 in
theorem law_strike {p : Program} {l : Launch} {e : Env} {s : State} {m : MethodId} {below : List Frame} {meth : Method} {c : Code} {D : va_G} {cy : Nat → ClassId} {b0 b1 b2 i L : Nat} {xs : Nat → Int32} {CEL SLO : Nat} {x3 : Int32} {Rel Rel2 : ST → ST → Prop} (S : SIM_strike Rel Rel2) (E : CL p m c s #[Value.ref b0] D cy) (hcs : CEL ≤ room_1.cells ∧ SLO ≤ room_1.slots) (hX : va_X b0 L xs s s.heap) (hbl : b0 < s.heap.size) (hx3 : x3 = nI i) (hiL : i + 6 ≤ L) (hL : L ≤ 3072) {σ τ : ST} {H : Heap} {locs : List Loc} {ls : Array Slot} (hR : Rel σ τ) (hw : LH D cy b1 b2 σ τ s H locs) (hl : lv_has ls 4 [(0, .ref b0), (1, .ref (b1 + 0)), (2, .ref (b2 + 0)), (3, .int x3)])
    (ih : ∀ (σ τ : ST) (H : Heap) (locs : List Loc) (ls : Array Slot), Rel2 σ τ → LH D cy b1 b2 σ τ s H locs → lv_has ls 4 [(0, .ref b0), (1, .ref (b1 + 0)), (2, .ref (b2 + 0)), (3, .int x3)] → W p l e room_1 s m #[Value.ref b0] below meth c H locs CEL SLO (lw_Z below #[Value.ref b0] s) (F0 m 1908 ls [])) :
    W p l e room_1 s m #[Value.ref b0] below meth c H locs CEL SLO (lw_Z below #[Value.ref b0] s) (F0 m 811 ls []) := by
  have hx := E.1.1
  have hb := E.1.2.1
  have hbA : ¬ (fun q : Nat => s.heap.size ≤ q) b0 := Nat.not_le.mpr hbl
  obtain ⟨r, σ1, τ1, h1, h2, hR⟩ := S ((xs (x3 + 1).toNatClampNeg)) ((xs (x3 + 2).toNatClampNeg)) ((xs (x3 + 3).toNatClampNeg)) σ τ hR
  refine lv_aload_n hx hb dL_law_811 rfl (lv_at hl 1 rfl) ?_
  refine lv_aload_n hx hb dL_law_812 rfl (lv_at hl 0 rfl) ?_
  refine lv_iload_n hx hb dL_law_813 rfl (lv_at hl 3 rfl) ?_
  refine lv_iconst (v := 1) hx hb dL_law_814 (by decide) ?_
  refine lv_iadd hx hb dL_law_815 ?_
  refine va_sld hx hb hX hbl hbA hw.2.2.1 (law_in (k := 1) hx3 hiL hL (by decide)) dL_law_816 ?_
  refine lv_aload_n hx hb dL_law_817 rfl (lv_at hl 0 rfl) ?_
  refine lv_iload_n hx hb dL_law_818 rfl (lv_at hl 3 rfl) ?_
  refine lv_iconst (v := 2) hx hb dL_law_819 (by decide) ?_
  refine lv_iadd hx hb dL_law_820 ?_
  refine va_sld hx hb hX hbl hbA hw.2.2.1 (law_in (k := 2) hx3 hiL hL (by decide)) dL_law_821 ?_
  refine lv_aload_n hx hb dL_law_822 rfl (lv_at hl 0 rfl) ?_
  refine lv_iload_n hx hb dL_law_823 rfl (lv_at hl 3 rfl) ?_
  refine lv_iconst (v := 3) hx hb dL_law_824 (by decide) ?_
  refine lv_iadd hx hb dL_law_825 ?_
  refine va_sld hx hb hX hbl hbA hw.2.2.1 (law_in (k := 3) hx3 hiL hL (by decide)) dL_law_826 ?_
  refine law_c1 (rest := []) E hw mw_L_89 (c_X11_strike h1 rfl) rfl rfl hl.1 (Nat.le_of_ble_eq_true rfl) ⟨Nat.le_of_ble_eq_true rfl, Nat.le_of_ble_eq_true rfl⟩ ⟨hcs.1, hcs.2⟩ dL_law_827 (fun H locs hw => ?_)
  refine lv_aload_n hx hb dL_law_830 rfl (lv_at hl 2 rfl) ?_
  refine lv_aload_n hx hb dL_law_831 rfl (lv_at hl 0 rfl) ?_
  refine lv_iload_n hx hb dL_law_832 rfl (lv_at hl 3 rfl) ?_
  refine lv_iconst (v := 1) hx hb dL_law_833 (by decide) ?_
  refine lv_iadd hx hb dL_law_834 ?_
  refine va_sld hx hb hX hbl hbA hw.2.2.1 (law_in (k := 1) hx3 hiL hL (by decide)) dL_law_835 ?_
  refine lv_aload_n hx hb dL_law_836 rfl (lv_at hl 0 rfl) ?_
  refine lv_iload_n hx hb dL_law_837 rfl (lv_at hl 3 rfl) ?_
  refine lv_iconst (v := 2) hx hb dL_law_838 (by decide) ?_
  refine lv_iadd hx hb dL_law_839 ?_
  refine va_sld hx hb hX hbl hbA hw.2.2.1 (law_in (k := 2) hx3 hiL hL (by decide)) dL_law_840 ?_
  refine lv_aload_n hx hb dL_law_841 rfl (lv_at hl 0 rfl) ?_
  refine lv_iload_n hx hb dL_law_842 rfl (lv_at hl 3 rfl) ?_
  refine lv_iconst (v := 3) hx hb dL_law_843 (by decide) ?_
  refine lv_iadd hx hb dL_law_844 ?_
  refine va_sld hx hb hX hbl hbA hw.2.2.1 (law_in (k := 3) hx3 hiL hL (by decide)) dL_law_845 ?_
  refine law_c2 (rest := [.int r]) E hw mw_L_93 (c_X12_strike h2 rfl) rfl rfl hl.1 (Nat.le_of_ble_eq_true rfl) ⟨Nat.le_of_ble_eq_true rfl, Nat.le_of_ble_eq_true rfl⟩ ⟨hcs.1, hcs.2⟩ dL_law_846 (fun H locs hw => ?_)
  refine lv_icmp_eq (tgt := 1908) hx hb dL_law_849 (by decide) (fun _ => ?_) (fun c1 => absurd rfl c1)
  exact ih _ _ _ _ _ hR hw hl
set_option maxRecDepth 20000 in
set_option maxHeartbeats 1000000 in
theorem law_add {p : Program} {l : Launch} {e : Env} {s : State} {m : MethodId} {below : List Frame} {meth : Method} {c : Code} {D : va_G} {cy : Nat → ClassId} {b0 b1 b2 i L : Nat} {xs : Nat → Int32} {CEL SLO : Nat} {x3 : Int32} {Rel Rel2 : ST → ST → Prop} (S : SIM_add Rel Rel2) (E : CL p m c s #[Value.ref b0] D cy) (hcs : CEL ≤ room_1.cells ∧ SLO ≤ room_1.slots) (hX : va_X b0 L xs s s.heap) (hbl : b0 < s.heap.size) (hx3 : x3 = nI i) (hiL : i + 6 ≤ L) (hL : L ≤ 3072) {σ τ : ST} {H : Heap} {locs : List Loc} {ls : Array Slot} (hR : Rel σ τ) (hw : LH D cy b1 b2 σ τ s H locs) (hl : lv_has ls 4 [(0, .ref b0), (1, .ref (b1 + 0)), (2, .ref (b2 + 0)), (3, .int x3)])
    (ih : ∀ (σ τ : ST) (H : Heap) (locs : List Loc) (ls : Array Slot), Rel2 σ τ → LH D cy b1 b2 σ τ s H locs → lv_has ls 4 [(0, .ref b0), (1, .ref (b1 + 0)), (2, .ref (b2 + 0)), (3, .int x3)] → W p l e room_1 s m #[Value.ref b0] below meth c H locs CEL SLO (lw_Z below #[Value.ref b0] s) (F0 m 1908 ls [])) :
    W p l e room_1 s m #[Value.ref b0] below meth c H locs CEL SLO (lw_Z below #[Value.ref b0] s) (F0 m 854 ls []) := by
  have hx := E.1.1
  have hb := E.1.2.1
  have hbA : ¬ (fun q : Nat => s.heap.size ≤ q) b0 := Nat.not_le.mpr hbl
  obtain ⟨r, σ1, τ1, h1, h2, hR⟩ := S ((xs (x3 + 1).toNatClampNeg)) ((xs (x3 + 2).toNatClampNeg)) ((xs (x3 + 3).toNatClampNeg)) σ τ hR
  refine lv_aload_n hx hb dL_law_854 rfl (lv_at hl 1 rfl) ?_
  refine lv_aload_n hx hb dL_law_855 rfl (lv_at hl 0 rfl) ?_
  refine lv_iload_n hx hb dL_law_856 rfl (lv_at hl 3 rfl) ?_
  refine lv_iconst (v := 1) hx hb dL_law_857 (by decide) ?_
  refine lv_iadd hx hb dL_law_858 ?_
  refine va_sld hx hb hX hbl hbA hw.2.2.1 (law_in (k := 1) hx3 hiL hL (by decide)) dL_law_859 ?_
  refine lv_aload_n hx hb dL_law_860 rfl (lv_at hl 0 rfl) ?_
  refine lv_iload_n hx hb dL_law_861 rfl (lv_at hl 3 rfl) ?_
  refine lv_iconst (v := 2) hx hb dL_law_862 (by decide) ?_
  refine lv_iadd hx hb dL_law_863 ?_
  refine va_sld hx hb hX hbl hbA hw.2.2.1 (law_in (k := 2) hx3 hiL hL (by decide)) dL_law_864 ?_
  refine lv_aload_n hx hb dL_law_865 rfl (lv_at hl 0 rfl) ?_
  refine lv_iload_n hx hb dL_law_866 rfl (lv_at hl 3 rfl) ?_
  refine lv_iconst (v := 3) hx hb dL_law_867 (by decide) ?_
  refine lv_iadd hx hb dL_law_868 ?_
  refine va_sld hx hb hX hbl hbA hw.2.2.1 (law_in (k := 3) hx3 hiL hL (by decide)) dL_law_869 ?_
  refine law_c1 (rest := []) E hw mw_L_94 (c_X11_add h1 rfl) rfl rfl hl.1 (Nat.le_of_ble_eq_true rfl) ⟨Nat.le_of_ble_eq_true rfl, Nat.le_of_ble_eq_true rfl⟩ ⟨hcs.1, hcs.2⟩ dL_law_870 (fun H locs hw => ?_)
  refine lv_aload_n hx hb dL_law_873 rfl (lv_at hl 2 rfl) ?_
  refine lv_aload_n hx hb dL_law_874 rfl (lv_at hl 0 rfl) ?_
  refine lv_iload_n hx hb dL_law_875 rfl (lv_at hl 3 rfl) ?_
  refine lv_iconst (v := 1) hx hb dL_law_876 (by decide) ?_
  refine lv_iadd hx hb dL_law_877 ?_
  refine va_sld hx hb hX hbl hbA hw.2.2.1 (law_in (k := 1) hx3 hiL hL (by decide)) dL_law_878 ?_
  refine lv_aload_n hx hb dL_law_879 rfl (lv_at hl 0 rfl) ?_
  refine lv_iload_n hx hb dL_law_880 rfl (lv_at hl 3 rfl) ?_
  refine lv_iconst (v := 2) hx hb dL_law_881 (by decide) ?_
  refine lv_iadd hx hb dL_law_882 ?_
  refine va_sld hx hb hX hbl hbA hw.2.2.1 (law_in (k := 2) hx3 hiL hL (by decide)) dL_law_883 ?_
  refine lv_aload_n hx hb dL_law_884 rfl (lv_at hl 0 rfl) ?_
  refine lv_iload_n hx hb dL_law_885 rfl (lv_at hl 3 rfl) ?_
  refine lv_iconst (v := 3) hx hb dL_law_886 (by decide) ?_
  refine lv_iadd hx hb dL_law_887 ?_
  refine va_sld hx hb hX hbl hbA hw.2.2.1 (law_in (k := 3) hx3 hiL hL (by decide)) dL_law_888 ?_
  refine law_c2 (rest := [.int r]) E hw mw_L_97 (c_X12_add h2 rfl) rfl rfl hl.1 (Nat.le_of_ble_eq_true rfl) ⟨Nat.le_of_ble_eq_true rfl, Nat.le_of_ble_eq_true rfl⟩ ⟨hcs.1, hcs.2⟩ dL_law_889 (fun H locs hw => ?_)
  refine lv_icmp_eq (tgt := 1908) hx hb dL_law_892 (by decide) (fun _ => ?_) (fun c1 => absurd rfl c1)
  exact ih _ _ _ _ _ hR hw hl
set_option maxRecDepth 20000 in
set_option maxHeartbeats 1000000 in
theorem law_get {p : Program} {l : Launch} {e : Env} {s : State} {m : MethodId} {below : List Frame} {meth : Method} {c : Code} {D : va_G} {cy : Nat → ClassId} {b0 b1 b2 i L : Nat} {xs : Nat → Int32} {CEL SLO : Nat} {x3 : Int32} {Rel Rel2 : ST → ST → Prop} (S : SIM_get Rel Rel2) (E : CL p m c s #[Value.ref b0] D cy) (hcs : CEL ≤ room_1.cells ∧ SLO ≤ room_1.slots) (hX : va_X b0 L xs s s.heap) (hbl : b0 < s.heap.size) (hx3 : x3 = nI i) (hiL : i + 6 ≤ L) (hL : L ≤ 3072) {σ τ : ST} {H : Heap} {locs : List Loc} {ls : Array Slot} (hR : Rel σ τ) (hw : LH D cy b1 b2 σ τ s H locs) (hl : lv_has ls 4 [(0, .ref b0), (1, .ref (b1 + 0)), (2, .ref (b2 + 0)), (3, .int x3)])
    (ih : ∀ (σ τ : ST) (H : Heap) (locs : List Loc) (ls : Array Slot), Rel2 σ τ → LH D cy b1 b2 σ τ s H locs → lv_has ls 4 [(0, .ref b0), (1, .ref (b1 + 0)), (2, .ref (b2 + 0)), (3, .int x3)] → W p l e room_1 s m #[Value.ref b0] below meth c H locs CEL SLO (lw_Z below #[Value.ref b0] s) (F0 m 1908 ls [])) :
    W p l e room_1 s m #[Value.ref b0] below meth c H locs CEL SLO (lw_Z below #[Value.ref b0] s) (F0 m 897 ls []) := by
  have hx := E.1.1
  have hb := E.1.2.1
  have hbA : ¬ (fun q : Nat => s.heap.size ≤ q) b0 := Nat.not_le.mpr hbl
  obtain ⟨r, σ1, τ1, h1, h2, hR⟩ := S ((xs (x3 + 1).toNatClampNeg)) ((xs (x3 + 2).toNatClampNeg)) ((xs (x3 + 3).toNatClampNeg)) σ τ hR
  refine lv_aload_n hx hb dL_law_897 rfl (lv_at hl 1 rfl) ?_
  refine lv_aload_n hx hb dL_law_898 rfl (lv_at hl 0 rfl) ?_
  refine lv_iload_n hx hb dL_law_899 rfl (lv_at hl 3 rfl) ?_
  refine lv_iconst (v := 1) hx hb dL_law_900 (by decide) ?_
  refine lv_iadd hx hb dL_law_901 ?_
  refine va_sld hx hb hX hbl hbA hw.2.2.1 (law_in (k := 1) hx3 hiL hL (by decide)) dL_law_902 ?_
  refine lv_aload_n hx hb dL_law_903 rfl (lv_at hl 0 rfl) ?_
  refine lv_iload_n hx hb dL_law_904 rfl (lv_at hl 3 rfl) ?_
  refine lv_iconst (v := 2) hx hb dL_law_905 (by decide) ?_
  refine lv_iadd hx hb dL_law_906 ?_
  refine va_sld hx hb hX hbl hbA hw.2.2.1 (law_in (k := 2) hx3 hiL hL (by decide)) dL_law_907 ?_
  refine lv_aload_n hx hb dL_law_908 rfl (lv_at hl 0 rfl) ?_
  refine lv_iload_n hx hb dL_law_909 rfl (lv_at hl 3 rfl) ?_
  refine lv_iconst (v := 3) hx hb dL_law_910 (by decide) ?_
  refine lv_iadd hx hb dL_law_911 ?_
  refine va_sld hx hb hX hbl hbA hw.2.2.1 (law_in (k := 3) hx3 hiL hL (by decide)) dL_law_912 ?_
  refine law_c1 (rest := []) E hw mw_L_98 (c_X11_get h1 rfl) rfl rfl hl.1 (Nat.le_of_ble_eq_true rfl) ⟨Nat.le_of_ble_eq_true rfl, Nat.le_of_ble_eq_true rfl⟩ ⟨hcs.1, hcs.2⟩ dL_law_913 (fun H locs hw => ?_)
  refine lv_aload_n hx hb dL_law_916 rfl (lv_at hl 2 rfl) ?_
  refine lv_aload_n hx hb dL_law_917 rfl (lv_at hl 0 rfl) ?_
  refine lv_iload_n hx hb dL_law_918 rfl (lv_at hl 3 rfl) ?_
  refine lv_iconst (v := 1) hx hb dL_law_919 (by decide) ?_
  refine lv_iadd hx hb dL_law_920 ?_
  refine va_sld hx hb hX hbl hbA hw.2.2.1 (law_in (k := 1) hx3 hiL hL (by decide)) dL_law_921 ?_
  refine lv_aload_n hx hb dL_law_922 rfl (lv_at hl 0 rfl) ?_
  refine lv_iload_n hx hb dL_law_923 rfl (lv_at hl 3 rfl) ?_
  refine lv_iconst (v := 2) hx hb dL_law_924 (by decide) ?_
  refine lv_iadd hx hb dL_law_925 ?_
  refine va_sld hx hb hX hbl hbA hw.2.2.1 (law_in (k := 2) hx3 hiL hL (by decide)) dL_law_926 ?_
  refine lv_aload_n hx hb dL_law_927 rfl (lv_at hl 0 rfl) ?_
  refine lv_iload_n hx hb dL_law_928 rfl (lv_at hl 3 rfl) ?_
  refine lv_iconst (v := 3) hx hb dL_law_929 (by decide) ?_
  refine lv_iadd hx hb dL_law_930 ?_
  refine va_sld hx hb hX hbl hbA hw.2.2.1 (law_in (k := 3) hx3 hiL hL (by decide)) dL_law_931 ?_
  refine law_c2 (rest := [.int r]) E hw mw_L_101 (c_X12_get h2 rfl) rfl rfl hl.1 (Nat.le_of_ble_eq_true rfl) ⟨Nat.le_of_ble_eq_true rfl, Nat.le_of_ble_eq_true rfl⟩ ⟨hcs.1, hcs.2⟩ dL_law_932 (fun H locs hw => ?_)
  refine lv_icmp_eq (tgt := 1908) hx hb dL_law_935 (by decide) (fun _ => ?_) (fun c1 => absurd rfl c1)
  exact ih _ _ _ _ _ hR hw hl
set_option maxRecDepth 20000 in
set_option maxHeartbeats 1000000 in
theorem law_got {p : Program} {l : Launch} {e : Env} {s : State} {m : MethodId} {below : List Frame} {meth : Method} {c : Code} {D : va_G} {cy : Nat → ClassId} {b0 b1 b2 i L : Nat} {xs : Nat → Int32} {CEL SLO : Nat} {x3 : Int32} {Rel Rel2 : ST → ST → Prop} (S : SIM_got Rel Rel2) (E : CL p m c s #[Value.ref b0] D cy) (hcs : CEL ≤ room_1.cells ∧ SLO ≤ room_1.slots) (hX : va_X b0 L xs s s.heap) (hbl : b0 < s.heap.size) (hx3 : x3 = nI i) (hiL : i + 6 ≤ L) (hL : L ≤ 3072) {σ τ : ST} {H : Heap} {locs : List Loc} {ls : Array Slot} (hR : Rel σ τ) (hw : LH D cy b1 b2 σ τ s H locs) (hl : lv_has ls 4 [(0, .ref b0), (1, .ref (b1 + 0)), (2, .ref (b2 + 0)), (3, .int x3)])
    (ih : ∀ (σ τ : ST) (H : Heap) (locs : List Loc) (ls : Array Slot), Rel2 σ τ → LH D cy b1 b2 σ τ s H locs → lv_has ls 4 [(0, .ref b0), (1, .ref (b1 + 0)), (2, .ref (b2 + 0)), (3, .int x3)] → W p l e room_1 s m #[Value.ref b0] below meth c H locs CEL SLO (lw_Z below #[Value.ref b0] s) (F0 m 1908 ls [])) :
    W p l e room_1 s m #[Value.ref b0] below meth c H locs CEL SLO (lw_Z below #[Value.ref b0] s) (F0 m 940 ls []) := by
  have hx := E.1.1
  have hb := E.1.2.1
  have hbA : ¬ (fun q : Nat => s.heap.size ≤ q) b0 := Nat.not_le.mpr hbl
  obtain ⟨r, σ1, τ1, h1, h2, hR⟩ := S ((xs (x3 + 1).toNatClampNeg)) σ τ hR
  refine lv_aload_n hx hb dL_law_940 rfl (lv_at hl 1 rfl) ?_
  refine lv_aload_n hx hb dL_law_941 rfl (lv_at hl 0 rfl) ?_
  refine lv_iload_n hx hb dL_law_942 rfl (lv_at hl 3 rfl) ?_
  refine lv_iconst (v := 1) hx hb dL_law_943 (by decide) ?_
  refine lv_iadd hx hb dL_law_944 ?_
  refine va_sld hx hb hX hbl hbA hw.2.2.1 (law_in (k := 1) hx3 hiL hL (by decide)) dL_law_945 ?_
  refine law_c1 (rest := []) E hw mw_L_102 (c_X11_got h1 rfl) rfl rfl hl.1 (Nat.le_of_ble_eq_true rfl) ⟨Nat.le_of_ble_eq_true rfl, Nat.le_of_ble_eq_true rfl⟩ ⟨hcs.1, hcs.2⟩ dL_law_946 (fun H locs hw => ?_)
  refine lv_aload_n hx hb dL_law_949 rfl (lv_at hl 2 rfl) ?_
  refine lv_aload_n hx hb dL_law_950 rfl (lv_at hl 0 rfl) ?_
  refine lv_iload_n hx hb dL_law_951 rfl (lv_at hl 3 rfl) ?_
  refine lv_iconst (v := 1) hx hb dL_law_952 (by decide) ?_
  refine lv_iadd hx hb dL_law_953 ?_
  refine va_sld hx hb hX hbl hbA hw.2.2.1 (law_in (k := 1) hx3 hiL hL (by decide)) dL_law_954 ?_
  refine law_c2 (rest := [.int r]) E hw mw_L_105 (c_X12_got h2 rfl) rfl rfl hl.1 (Nat.le_of_ble_eq_true rfl) ⟨Nat.le_of_ble_eq_true rfl, Nat.le_of_ble_eq_true rfl⟩ ⟨hcs.1, hcs.2⟩ dL_law_955 (fun H locs hw => ?_)
  refine lv_icmp_eq (tgt := 1908) hx hb dL_law_958 (by decide) (fun _ => ?_) (fun c1 => absurd rfl c1)
  exact ih _ _ _ _ _ hR hw hl
set_option maxRecDepth 20000 in
set_option maxHeartbeats 1000000 in
theorem law_isDone {p : Program} {l : Launch} {e : Env} {s : State} {m : MethodId} {below : List Frame} {meth : Method} {c : Code} {D : va_G} {cy : Nat → ClassId} {b0 b1 b2 i L : Nat} {xs : Nat → Int32} {CEL SLO : Nat} {x3 : Int32} {Rel Rel2 : ST → ST → Prop} (S : SIM_isDone Rel Rel2) (E : CL p m c s #[Value.ref b0] D cy) (hcs : CEL ≤ room_1.cells ∧ SLO ≤ room_1.slots) (hX : va_X b0 L xs s s.heap) (hbl : b0 < s.heap.size) (hx3 : x3 = nI i) (hiL : i + 6 ≤ L) (hL : L ≤ 3072) {σ τ : ST} {H : Heap} {locs : List Loc} {ls : Array Slot} (hR : Rel σ τ) (hw : LH D cy b1 b2 σ τ s H locs) (hl : lv_has ls 4 [(0, .ref b0), (1, .ref (b1 + 0)), (2, .ref (b2 + 0)), (3, .int x3)])
    (ih : ∀ (σ τ : ST) (H : Heap) (locs : List Loc) (ls : Array Slot), Rel2 σ τ → LH D cy b1 b2 σ τ s H locs → lv_has ls 4 [(0, .ref b0), (1, .ref (b1 + 0)), (2, .ref (b2 + 0)), (3, .int x3)] → W p l e room_1 s m #[Value.ref b0] below meth c H locs CEL SLO (lw_Z below #[Value.ref b0] s) (F0 m 1908 ls [])) :
    W p l e room_1 s m #[Value.ref b0] below meth c H locs CEL SLO (lw_Z below #[Value.ref b0] s) (F0 m 963 ls []) := by
  have hx := E.1.1
  have hb := E.1.2.1
  have hbA : ¬ (fun q : Nat => s.heap.size ≤ q) b0 := Nat.not_le.mpr hbl
  obtain ⟨r, σ1, τ1, h1, h2, hR⟩ := S σ τ hR
  refine lv_aload_n hx hb dL_law_963 rfl (lv_at hl 1 rfl) ?_
  refine law_c1 (rest := []) E hw mw_L_106 (c_X11_isDone h1 rfl) rfl rfl hl.1 (Nat.le_of_ble_eq_true rfl) ⟨Nat.le_of_ble_eq_true rfl, Nat.le_of_ble_eq_true rfl⟩ ⟨hcs.1, hcs.2⟩ dL_law_964 (fun H locs hw => ?_)
  refine lv_aload_n hx hb dL_law_967 rfl (lv_at hl 2 rfl) ?_
  refine law_c2 (rest := [.int r]) E hw mw_L_109 (c_X12_isDone h2 rfl) rfl rfl hl.1 (Nat.le_of_ble_eq_true rfl) ⟨Nat.le_of_ble_eq_true rfl, Nat.le_of_ble_eq_true rfl⟩ ⟨hcs.1, hcs.2⟩ dL_law_968 (fun H locs hw => ?_)
  refine lv_icmp_eq (tgt := 1908) hx hb dL_law_971 (by decide) (fun _ => ?_) (fun c1 => absurd rfl c1)
  exact ih _ _ _ _ _ hR hw hl
set_option maxRecDepth 20000 in
set_option maxHeartbeats 1000000 in
theorem law_fall {p : Program} {l : Launch} {e : Env} {s : State} {m : MethodId} {below : List Frame} {meth : Method} {c : Code} {D : va_G} {cy : Nat → ClassId} {b0 b1 b2 i L : Nat} {xs : Nat → Int32} {CEL SLO : Nat} {x3 : Int32} {Rel Rel2 : ST → ST → Prop} (S : SIM_fall Rel Rel2) (E : CL p m c s #[Value.ref b0] D cy) (hcs : CEL ≤ room_1.cells ∧ SLO ≤ room_1.slots) (hX : va_X b0 L xs s s.heap) (hbl : b0 < s.heap.size) (hx3 : x3 = nI i) (hiL : i + 6 ≤ L) (hL : L ≤ 3072) {σ τ : ST} {H : Heap} {locs : List Loc} {ls : Array Slot} (hR : Rel σ τ) (hw : LH D cy b1 b2 σ τ s H locs) (hl : lv_has ls 4 [(0, .ref b0), (1, .ref (b1 + 0)), (2, .ref (b2 + 0)), (3, .int x3)])
    (ih : ∀ (σ τ : ST) (H : Heap) (locs : List Loc) (ls : Array Slot), Rel2 σ τ → LH D cy b1 b2 σ τ s H locs → lv_has ls 4 [(0, .ref b0), (1, .ref (b1 + 0)), (2, .ref (b2 + 0)), (3, .int x3)] → W p l e room_1 s m #[Value.ref b0] below meth c H locs CEL SLO (lw_Z below #[Value.ref b0] s) (F0 m 1908 ls [])) :
    W p l e room_1 s m #[Value.ref b0] below meth c H locs CEL SLO (lw_Z below #[Value.ref b0] s) (F0 m 976 ls []) := by
  have hx := E.1.1
  have hb := E.1.2.1
  have hbA : ¬ (fun q : Nat => s.heap.size ≤ q) b0 := Nat.not_le.mpr hbl
  obtain ⟨r, σ1, τ1, h1, h2, hR⟩ := S ((xs (x3 + 1).toNatClampNeg)) ((if (xs (x3 + 2).toNatClampNeg) = 0 then 0 else 1)) σ τ hR (by by_cases hzz : (xs (x3 + 2).toNatClampNeg) = 0 <;> simp [hzz])
  refine lv_aload_n hx hb dL_law_976 rfl (lv_at hl 1 rfl) ?_
  refine lv_aload_n hx hb dL_law_977 rfl (lv_at hl 0 rfl) ?_
  refine lv_iload_n hx hb dL_law_978 rfl (lv_at hl 3 rfl) ?_
  refine lv_iconst (v := 1) hx hb dL_law_979 (by decide) ?_
  refine lv_iadd hx hb dL_law_980 ?_
  refine va_sld hx hb hX hbl hbA hw.2.2.1 (law_in (k := 1) hx3 hiL hL (by decide)) dL_law_981 ?_
  refine lv_aload_n hx hb dL_law_982 rfl (lv_at hl 0 rfl) ?_
  refine lv_iload_n hx hb dL_law_983 rfl (lv_at hl 3 rfl) ?_
  refine lv_iconst (v := 2) hx hb dL_law_984 (by decide) ?_
  refine lv_iadd hx hb dL_law_985 ?_
  refine va_sld hx hb hX hbl hbA hw.2.2.1 (law_in (k := 2) hx3 hiL hL (by decide)) dL_law_986 ?_
  have hz : ∀ v : Int32, (if (xs (x3 + 2).toNatClampNeg) = 0 then 0 else 1) = v → W p l e room_1 s m #[Value.ref b0] below meth c H locs CEL SLO (lw_Z below #[Value.ref b0] s) (F0 m 995 ls [.int v, .int (xs (x3 + 1).toNatClampNeg), .ref (b1 + 0)]) → W p l e room_1 s m #[Value.ref b0] below meth c H locs CEL SLO (lw_Z below #[Value.ref b0] s) (F0 m 987 ls [.int ((xs (x3 + 2).toNatClampNeg)), .int (xs (x3 + 1).toNatClampNeg), .ref (b1 + 0)]) := by
    intro v hv K
    refine lv_if_eq (tgt := 994) hx hb dL_law_987 (by decide) (fun c1 => ?_) (fun c1 => ?_)
    · rw [if_pos c1] at hv; subst hv
      refine lv_iconst (v := 0) hx hb dL_law_994 (by decide) ?_
      exact K
    · rw [if_neg c1] at hv; subst hv
      refine lv_iconst (v := 1) hx hb dL_law_990 (by decide) ?_
      refine lv_goto (tgt := 995) hx hb dL_law_991 (by decide) ?_
      exact K
  refine hz _ rfl ?_
  refine law_c1 (rest := []) E hw mw_L_110 (c_X11_fall h1 rfl) rfl rfl hl.1 (Nat.le_of_ble_eq_true rfl) ⟨Nat.le_of_ble_eq_true rfl, Nat.le_of_ble_eq_true rfl⟩ ⟨hcs.1, hcs.2⟩ dL_law_995 (fun H locs hw => ?_)
  refine lv_aload_n hx hb dL_law_998 rfl (lv_at hl 2 rfl) ?_
  refine lv_aload_n hx hb dL_law_999 rfl (lv_at hl 0 rfl) ?_
  refine lv_iload_n hx hb dL_law_1000 rfl (lv_at hl 3 rfl) ?_
  refine lv_iconst (v := 1) hx hb dL_law_1001 (by decide) ?_
  refine lv_iadd hx hb dL_law_1002 ?_
  refine va_sld hx hb hX hbl hbA hw.2.2.1 (law_in (k := 1) hx3 hiL hL (by decide)) dL_law_1003 ?_
  refine lv_aload_n hx hb dL_law_1004 rfl (lv_at hl 0 rfl) ?_
  refine lv_iload_n hx hb dL_law_1005 rfl (lv_at hl 3 rfl) ?_
  refine lv_iconst (v := 2) hx hb dL_law_1006 (by decide) ?_
  refine lv_iadd hx hb dL_law_1007 ?_
  refine va_sld hx hb hX hbl hbA hw.2.2.1 (law_in (k := 2) hx3 hiL hL (by decide)) dL_law_1008 ?_
  have hz : ∀ v : Int32, (if (xs (x3 + 2).toNatClampNeg) = 0 then 0 else 1) = v → W p l e room_1 s m #[Value.ref b0] below meth c H locs CEL SLO (lw_Z below #[Value.ref b0] s) (F0 m 1017 ls [.int v, .int (xs (x3 + 1).toNatClampNeg), .ref (b2 + 0), .int r]) → W p l e room_1 s m #[Value.ref b0] below meth c H locs CEL SLO (lw_Z below #[Value.ref b0] s) (F0 m 1009 ls [.int ((xs (x3 + 2).toNatClampNeg)), .int (xs (x3 + 1).toNatClampNeg), .ref (b2 + 0), .int r]) := by
    intro v hv K
    refine lv_if_eq (tgt := 1016) hx hb dL_law_1009 (by decide) (fun c1 => ?_) (fun c1 => ?_)
    · rw [if_pos c1] at hv; subst hv
      refine lv_iconst (v := 0) hx hb dL_law_1016 (by decide) ?_
      exact K
    · rw [if_neg c1] at hv; subst hv
      refine lv_iconst (v := 1) hx hb dL_law_1012 (by decide) ?_
      refine lv_goto (tgt := 1017) hx hb dL_law_1013 (by decide) ?_
      exact K
  refine hz _ rfl ?_
  refine law_c2 (rest := [.int r]) E hw mw_L_114 (c_X12_fall h2 rfl) rfl rfl hl.1 (Nat.le_of_ble_eq_true rfl) ⟨Nat.le_of_ble_eq_true rfl, Nat.le_of_ble_eq_true rfl⟩ ⟨hcs.1, hcs.2⟩ dL_law_1017 (fun H locs hw => ?_)
  refine lv_icmp_eq (tgt := 1908) hx hb dL_law_1020 (by decide) (fun _ => ?_) (fun c1 => absurd rfl c1)
  exact ih _ _ _ _ _ hR hw hl
set_option maxRecDepth 20000 in
set_option maxHeartbeats 1000000 in
theorem law_wipe {p : Program} {l : Launch} {e : Env} {s : State} {m : MethodId} {below : List Frame} {meth : Method} {c : Code} {D : va_G} {cy : Nat → ClassId} {b0 b1 b2 i L : Nat} {xs : Nat → Int32} {CEL SLO : Nat} {x3 : Int32} {Rel Rel2 : ST → ST → Prop} (S : SIM_wipe Rel Rel2) (E : CL p m c s #[Value.ref b0] D cy) (hcs : CEL ≤ room_1.cells ∧ SLO ≤ room_1.slots) (hX : va_X b0 L xs s s.heap) (hbl : b0 < s.heap.size) (hx3 : x3 = nI i) (hiL : i + 6 ≤ L) (hL : L ≤ 3072) {σ τ : ST} {H : Heap} {locs : List Loc} {ls : Array Slot} (hR : Rel σ τ) (hw : LH D cy b1 b2 σ τ s H locs) (hl : lv_has ls 4 [(0, .ref b0), (1, .ref (b1 + 0)), (2, .ref (b2 + 0)), (3, .int x3)])
    (ih : ∀ (σ τ : ST) (H : Heap) (locs : List Loc) (ls : Array Slot), Rel2 σ τ → LH D cy b1 b2 σ τ s H locs → lv_has ls 4 [(0, .ref b0), (1, .ref (b1 + 0)), (2, .ref (b2 + 0)), (3, .int x3)] → W p l e room_1 s m #[Value.ref b0] below meth c H locs CEL SLO (lw_Z below #[Value.ref b0] s) (F0 m 1908 ls [])) :
    W p l e room_1 s m #[Value.ref b0] below meth c H locs CEL SLO (lw_Z below #[Value.ref b0] s) (F0 m 1025 ls []) := by
  have hx := E.1.1
  have hb := E.1.2.1
  have hbA : ¬ (fun q : Nat => s.heap.size ≤ q) b0 := Nat.not_le.mpr hbl
  obtain ⟨r, σ1, τ1, h1, h2, hR⟩ := S ((xs (x3 + 1).toNatClampNeg)) σ τ hR
  refine lv_aload_n hx hb dL_law_1025 rfl (lv_at hl 1 rfl) ?_
  refine lv_aload_n hx hb dL_law_1026 rfl (lv_at hl 0 rfl) ?_
  refine lv_iload_n hx hb dL_law_1027 rfl (lv_at hl 3 rfl) ?_
  refine lv_iconst (v := 1) hx hb dL_law_1028 (by decide) ?_
  refine lv_iadd hx hb dL_law_1029 ?_
  refine va_sld hx hb hX hbl hbA hw.2.2.1 (law_in (k := 1) hx3 hiL hL (by decide)) dL_law_1030 ?_
  refine law_c1 (rest := []) E hw mw_L_115 (c_X11_wipe h1 rfl) rfl rfl hl.1 (Nat.le_of_ble_eq_true rfl) ⟨Nat.le_of_ble_eq_true rfl, Nat.le_of_ble_eq_true rfl⟩ ⟨hcs.1, hcs.2⟩ dL_law_1031 (fun H locs hw => ?_)
  refine lv_aload_n hx hb dL_law_1034 rfl (lv_at hl 2 rfl) ?_
  refine lv_aload_n hx hb dL_law_1035 rfl (lv_at hl 0 rfl) ?_
  refine lv_iload_n hx hb dL_law_1036 rfl (lv_at hl 3 rfl) ?_
  refine lv_iconst (v := 1) hx hb dL_law_1037 (by decide) ?_
  refine lv_iadd hx hb dL_law_1038 ?_
  refine va_sld hx hb hX hbl hbA hw.2.2.1 (law_in (k := 1) hx3 hiL hL (by decide)) dL_law_1039 ?_
  refine law_c2 (rest := [.int r]) E hw mw_L_119 (c_X12_wipe h2 rfl) rfl rfl hl.1 (Nat.le_of_ble_eq_true rfl) ⟨Nat.le_of_ble_eq_true rfl, Nat.le_of_ble_eq_true rfl⟩ ⟨hcs.1, hcs.2⟩ dL_law_1040 (fun H locs hw => ?_)
  refine lv_icmp_eq (tgt := 1908) hx hb dL_law_1043 (by decide) (fun _ => ?_) (fun c1 => absurd rfl c1)
  exact ih _ _ _ _ _ hR hw hl
set_option maxRecDepth 20000 in
set_option maxHeartbeats 1000000 in
theorem law_part {p : Program} {l : Launch} {e : Env} {s : State} {m : MethodId} {below : List Frame} {meth : Method} {c : Code} {D : va_G} {cy : Nat → ClassId} {b0 b1 b2 i L : Nat} {xs : Nat → Int32} {CEL SLO : Nat} {x3 : Int32} {Rel Rel2 : ST → ST → Prop} (S : SIM_part Rel Rel2) (E : CL p m c s #[Value.ref b0] D cy) (hcs : CEL ≤ room_1.cells ∧ SLO ≤ room_1.slots) (hX : va_X b0 L xs s s.heap) (hbl : b0 < s.heap.size) (hx3 : x3 = nI i) (hiL : i + 6 ≤ L) (hL : L ≤ 3072) {σ τ : ST} {H : Heap} {locs : List Loc} {ls : Array Slot} (hR : Rel σ τ) (hw : LH D cy b1 b2 σ τ s H locs) (hl : lv_has ls 4 [(0, .ref b0), (1, .ref (b1 + 0)), (2, .ref (b2 + 0)), (3, .int x3)])
    (ih : ∀ (σ τ : ST) (H : Heap) (locs : List Loc) (ls : Array Slot), Rel2 σ τ → LH D cy b1 b2 σ τ s H locs → lv_has ls 4 [(0, .ref b0), (1, .ref (b1 + 0)), (2, .ref (b2 + 0)), (3, .int x3)] → W p l e room_1 s m #[Value.ref b0] below meth c H locs CEL SLO (lw_Z below #[Value.ref b0] s) (F0 m 1908 ls [])) :
    W p l e room_1 s m #[Value.ref b0] below meth c H locs CEL SLO (lw_Z below #[Value.ref b0] s) (F0 m 1048 ls []) := by
  have hx := E.1.1
  have hb := E.1.2.1
  have hbA : ¬ (fun q : Nat => s.heap.size ≤ q) b0 := Nat.not_le.mpr hbl
  obtain ⟨r, σ1, τ1, h1, h2, hR⟩ := S ((xs (x3 + 1).toNatClampNeg)) σ τ hR
  refine lv_aload_n hx hb dL_law_1048 rfl (lv_at hl 1 rfl) ?_
  refine lv_aload_n hx hb dL_law_1049 rfl (lv_at hl 0 rfl) ?_
  refine lv_iload_n hx hb dL_law_1050 rfl (lv_at hl 3 rfl) ?_
  refine lv_iconst (v := 1) hx hb dL_law_1051 (by decide) ?_
  refine lv_iadd hx hb dL_law_1052 ?_
  refine va_sld hx hb hX hbl hbA hw.2.2.1 (law_in (k := 1) hx3 hiL hL (by decide)) dL_law_1053 ?_
  refine law_c1 (rest := []) E hw mw_L_120 (c_X11_part h1 rfl) rfl rfl hl.1 (Nat.le_of_ble_eq_true rfl) ⟨Nat.le_of_ble_eq_true rfl, Nat.le_of_ble_eq_true rfl⟩ ⟨hcs.1, hcs.2⟩ dL_law_1054 (fun H locs hw => ?_)
  refine lv_aload_n hx hb dL_law_1057 rfl (lv_at hl 2 rfl) ?_
  refine lv_aload_n hx hb dL_law_1058 rfl (lv_at hl 0 rfl) ?_
  refine lv_iload_n hx hb dL_law_1059 rfl (lv_at hl 3 rfl) ?_
  refine lv_iconst (v := 1) hx hb dL_law_1060 (by decide) ?_
  refine lv_iadd hx hb dL_law_1061 ?_
  refine va_sld hx hb hX hbl hbA hw.2.2.1 (law_in (k := 1) hx3 hiL hL (by decide)) dL_law_1062 ?_
  refine law_c2 (rest := [.int r]) E hw mw_L_123 (c_X12_part h2 rfl) rfl rfl hl.1 (Nat.le_of_ble_eq_true rfl) ⟨Nat.le_of_ble_eq_true rfl, Nat.le_of_ble_eq_true rfl⟩ ⟨hcs.1, hcs.2⟩ dL_law_1063 (fun H locs hw => ?_)
  refine lv_icmp_eq (tgt := 1908) hx hb dL_law_1066 (by decide) (fun _ => ?_) (fun c1 => absurd rfl c1)
  exact ih _ _ _ _ _ hR hw hl
set_option maxRecDepth 20000 in
set_option maxHeartbeats 1000000 in
theorem law_hand {p : Program} {l : Launch} {e : Env} {s : State} {m : MethodId} {below : List Frame} {meth : Method} {c : Code} {D : va_G} {cy : Nat → ClassId} {b0 b1 b2 i L : Nat} {xs : Nat → Int32} {CEL SLO : Nat} {x3 : Int32} {Rel Rel2 : ST → ST → Prop} (S : SIM_hand Rel Rel2) (E : CL p m c s #[Value.ref b0] D cy) (hcs : CEL ≤ room_1.cells ∧ SLO ≤ room_1.slots) (hX : va_X b0 L xs s s.heap) (hbl : b0 < s.heap.size) (hx3 : x3 = nI i) (hiL : i + 6 ≤ L) (hL : L ≤ 3072) {σ τ : ST} {H : Heap} {locs : List Loc} {ls : Array Slot} (hR : Rel σ τ) (hw : LH D cy b1 b2 σ τ s H locs) (hl : lv_has ls 4 [(0, .ref b0), (1, .ref (b1 + 0)), (2, .ref (b2 + 0)), (3, .int x3)])
    (ih : ∀ (σ τ : ST) (H : Heap) (locs : List Loc) (ls : Array Slot), Rel2 σ τ → LH D cy b1 b2 σ τ s H locs → lv_has ls 4 [(0, .ref b0), (1, .ref (b1 + 0)), (2, .ref (b2 + 0)), (3, .int x3)] → W p l e room_1 s m #[Value.ref b0] below meth c H locs CEL SLO (lw_Z below #[Value.ref b0] s) (F0 m 1908 ls [])) :
    W p l e room_1 s m #[Value.ref b0] below meth c H locs CEL SLO (lw_Z below #[Value.ref b0] s) (F0 m 1071 ls []) := by
  have hx := E.1.1
  have hb := E.1.2.1
  have hbA : ¬ (fun q : Nat => s.heap.size ≤ q) b0 := Nat.not_le.mpr hbl
  obtain ⟨r, σ1, τ1, h1, h2, hR⟩ := S σ τ hR
  refine lv_aload_n hx hb dL_law_1071 rfl (lv_at hl 1 rfl) ?_
  refine law_c1 (rest := []) E hw mw_L_124 (c_X11_hand h1 rfl) rfl rfl hl.1 (Nat.le_of_ble_eq_true rfl) ⟨Nat.le_of_ble_eq_true rfl, Nat.le_of_ble_eq_true rfl⟩ ⟨hcs.1, hcs.2⟩ dL_law_1072 (fun H locs hw => ?_)
  refine lv_aload_n hx hb dL_law_1075 rfl (lv_at hl 2 rfl) ?_
  refine law_c2 (rest := [.int r]) E hw mw_L_127 (c_X12_hand h2 rfl) rfl rfl hl.1 (Nat.le_of_ble_eq_true rfl) ⟨Nat.le_of_ble_eq_true rfl, Nat.le_of_ble_eq_true rfl⟩ ⟨hcs.1, hcs.2⟩ dL_law_1076 (fun H locs hw => ?_)
  refine lv_icmp_eq (tgt := 1908) hx hb dL_law_1079 (by decide) (fun _ => ?_) (fun c1 => absurd rfl c1)
  exact ih _ _ _ _ _ hR hw hl
set_option maxRecDepth 20000 in
set_option maxHeartbeats 1000000 in
theorem law_night {p : Program} {l : Launch} {e : Env} {s : State} {m : MethodId} {below : List Frame} {meth : Method} {c : Code} {D : va_G} {cy : Nat → ClassId} {b0 b1 b2 i L : Nat} {xs : Nat → Int32} {CEL SLO : Nat} {x3 : Int32} {Rel Rel2 : ST → ST → Prop} (S : SIM_night Rel Rel2) (E : CL p m c s #[Value.ref b0] D cy) (hcs : CEL ≤ room_1.cells ∧ SLO ≤ room_1.slots) (hX : va_X b0 L xs s s.heap) (hbl : b0 < s.heap.size) (hx3 : x3 = nI i) (hiL : i + 6 ≤ L) (hL : L ≤ 3072) {σ τ : ST} {H : Heap} {locs : List Loc} {ls : Array Slot} (hR : Rel σ τ) (hw : LH D cy b1 b2 σ τ s H locs) (hl : lv_has ls 4 [(0, .ref b0), (1, .ref (b1 + 0)), (2, .ref (b2 + 0)), (3, .int x3)])
    (ih : ∀ (σ τ : ST) (H : Heap) (locs : List Loc) (ls : Array Slot), Rel2 σ τ → LH D cy b1 b2 σ τ s H locs → lv_has ls 4 [(0, .ref b0), (1, .ref (b1 + 0)), (2, .ref (b2 + 0)), (3, .int x3)] → W p l e room_1 s m #[Value.ref b0] below meth c H locs CEL SLO (lw_Z below #[Value.ref b0] s) (F0 m 1908 ls [])) :
    W p l e room_1 s m #[Value.ref b0] below meth c H locs CEL SLO (lw_Z below #[Value.ref b0] s) (F0 m 1084 ls []) := by
  have hx := E.1.1
  have hb := E.1.2.1
  have hbA : ¬ (fun q : Nat => s.heap.size ≤ q) b0 := Nat.not_le.mpr hbl
  obtain ⟨r, σ1, τ1, h1, h2, hR⟩ := S ((xs (x3 + 1).toNatClampNeg)) ((xs (x3 + 2).toNatClampNeg)) σ τ hR
  refine lv_aload_n hx hb dL_law_1084 rfl (lv_at hl 1 rfl) ?_
  refine lv_aload_n hx hb dL_law_1085 rfl (lv_at hl 0 rfl) ?_
  refine lv_iload_n hx hb dL_law_1086 rfl (lv_at hl 3 rfl) ?_
  refine lv_iconst (v := 1) hx hb dL_law_1087 (by decide) ?_
  refine lv_iadd hx hb dL_law_1088 ?_
  refine va_sld hx hb hX hbl hbA hw.2.2.1 (law_in (k := 1) hx3 hiL hL (by decide)) dL_law_1089 ?_
  refine lv_aload_n hx hb dL_law_1090 rfl (lv_at hl 0 rfl) ?_
  refine lv_iload_n hx hb dL_law_1091 rfl (lv_at hl 3 rfl) ?_
  refine lv_iconst (v := 2) hx hb dL_law_1092 (by decide) ?_
  refine lv_iadd hx hb dL_law_1093 ?_
  refine va_sld hx hb hX hbl hbA hw.2.2.1 (law_in (k := 2) hx3 hiL hL (by decide)) dL_law_1094 ?_
  refine law_c1 (rest := []) E hw mw_L_128 (c_X11_night h1 rfl) rfl rfl hl.1 (Nat.le_of_ble_eq_true rfl) ⟨Nat.le_of_ble_eq_true rfl, Nat.le_of_ble_eq_true rfl⟩ ⟨hcs.1, hcs.2⟩ dL_law_1095 (fun H locs hw => ?_)
  refine lv_aload_n hx hb dL_law_1098 rfl (lv_at hl 2 rfl) ?_
  refine lv_aload_n hx hb dL_law_1099 rfl (lv_at hl 0 rfl) ?_
  refine lv_iload_n hx hb dL_law_1100 rfl (lv_at hl 3 rfl) ?_
  refine lv_iconst (v := 1) hx hb dL_law_1101 (by decide) ?_
  refine lv_iadd hx hb dL_law_1102 ?_
  refine va_sld hx hb hX hbl hbA hw.2.2.1 (law_in (k := 1) hx3 hiL hL (by decide)) dL_law_1103 ?_
  refine lv_aload_n hx hb dL_law_1104 rfl (lv_at hl 0 rfl) ?_
  refine lv_iload_n hx hb dL_law_1105 rfl (lv_at hl 3 rfl) ?_
  refine lv_iconst (v := 2) hx hb dL_law_1106 (by decide) ?_
  refine lv_iadd hx hb dL_law_1107 ?_
  refine va_sld hx hb hX hbl hbA hw.2.2.1 (law_in (k := 2) hx3 hiL hL (by decide)) dL_law_1108 ?_
  refine law_c2 (rest := [.int r]) E hw mw_L_131 (c_X12_night h2 rfl) rfl rfl hl.1 (Nat.le_of_ble_eq_true rfl) ⟨Nat.le_of_ble_eq_true rfl, Nat.le_of_ble_eq_true rfl⟩ ⟨hcs.1, hcs.2⟩ dL_law_1109 (fun H locs hw => ?_)
  refine lv_icmp_eq (tgt := 1908) hx hb dL_law_1112 (by decide) (fun _ => ?_) (fun c1 => absurd rfl c1)
  exact ih _ _ _ _ _ hR hw hl
set_option maxRecDepth 20000 in
set_option maxHeartbeats 1000000 in
theorem law_bury {p : Program} {l : Launch} {e : Env} {s : State} {m : MethodId} {below : List Frame} {meth : Method} {c : Code} {D : va_G} {cy : Nat → ClassId} {b0 b1 b2 i L : Nat} {xs : Nat → Int32} {CEL SLO : Nat} {x3 : Int32} {Rel Rel2 : ST → ST → Prop} (S : SIM_bury Rel Rel2) (E : CL p m c s #[Value.ref b0] D cy) (hcs : CEL ≤ room_1.cells ∧ SLO ≤ room_1.slots) (hX : va_X b0 L xs s s.heap) (hbl : b0 < s.heap.size) (hx3 : x3 = nI i) (hiL : i + 6 ≤ L) (hL : L ≤ 3072) {σ τ : ST} {H : Heap} {locs : List Loc} {ls : Array Slot} (hR : Rel σ τ) (hw : LH D cy b1 b2 σ τ s H locs) (hl : lv_has ls 4 [(0, .ref b0), (1, .ref (b1 + 0)), (2, .ref (b2 + 0)), (3, .int x3)])
    (ih : ∀ (σ τ : ST) (H : Heap) (locs : List Loc) (ls : Array Slot), Rel2 σ τ → LH D cy b1 b2 σ τ s H locs → lv_has ls 4 [(0, .ref b0), (1, .ref (b1 + 0)), (2, .ref (b2 + 0)), (3, .int x3)] → W p l e room_1 s m #[Value.ref b0] below meth c H locs CEL SLO (lw_Z below #[Value.ref b0] s) (F0 m 1908 ls [])) :
    W p l e room_1 s m #[Value.ref b0] below meth c H locs CEL SLO (lw_Z below #[Value.ref b0] s) (F0 m 1117 ls []) := by
  have hx := E.1.1
  have hb := E.1.2.1
  have hbA : ¬ (fun q : Nat => s.heap.size ≤ q) b0 := Nat.not_le.mpr hbl
  obtain ⟨r, σ1, τ1, h1, h2, hR⟩ := S ((xs (x3 + 1).toNatClampNeg)) σ τ hR
  refine lv_aload_n hx hb dL_law_1117 rfl (lv_at hl 1 rfl) ?_
  refine lv_aload_n hx hb dL_law_1118 rfl (lv_at hl 0 rfl) ?_
  refine lv_iload_n hx hb dL_law_1119 rfl (lv_at hl 3 rfl) ?_
  refine lv_iconst (v := 1) hx hb dL_law_1120 (by decide) ?_
  refine lv_iadd hx hb dL_law_1121 ?_
  refine va_sld hx hb hX hbl hbA hw.2.2.1 (law_in (k := 1) hx3 hiL hL (by decide)) dL_law_1122 ?_
  refine law_c1 (rest := []) E hw mw_L_132 (c_X11_bury h1 rfl) rfl rfl hl.1 (Nat.le_of_ble_eq_true rfl) ⟨Nat.le_of_ble_eq_true rfl, Nat.le_of_ble_eq_true rfl⟩ ⟨hcs.1, hcs.2⟩ dL_law_1123 (fun H locs hw => ?_)
  refine lv_aload_n hx hb dL_law_1126 rfl (lv_at hl 2 rfl) ?_
  refine lv_aload_n hx hb dL_law_1127 rfl (lv_at hl 0 rfl) ?_
  refine lv_iload_n hx hb dL_law_1128 rfl (lv_at hl 3 rfl) ?_
  refine lv_iconst (v := 1) hx hb dL_law_1129 (by decide) ?_
  refine lv_iadd hx hb dL_law_1130 ?_
  refine va_sld hx hb hX hbl hbA hw.2.2.1 (law_in (k := 1) hx3 hiL hL (by decide)) dL_law_1131 ?_
  refine law_c2 (rest := [.int r]) E hw mw_L_135 (c_X12_bury h2 rfl) rfl rfl hl.1 (Nat.le_of_ble_eq_true rfl) ⟨Nat.le_of_ble_eq_true rfl, Nat.le_of_ble_eq_true rfl⟩ ⟨hcs.1, hcs.2⟩ dL_law_1132 (fun H locs hw => ?_)
  refine lv_icmp_eq (tgt := 1908) hx hb dL_law_1135 (by decide) (fun _ => ?_) (fun c1 => absurd rfl c1)
  exact ih _ _ _ _ _ hR hw hl
set_option maxRecDepth 20000 in
set_option maxHeartbeats 1000000 in
theorem law_twins {p : Program} {l : Launch} {e : Env} {s : State} {m : MethodId} {below : List Frame} {meth : Method} {c : Code} {D : va_G} {cy : Nat → ClassId} {b0 b1 b2 i L : Nat} {xs : Nat → Int32} {CEL SLO : Nat} {x3 : Int32} {Rel Rel2 : ST → ST → Prop} (S : SIM_twins Rel Rel2) (E : CL p m c s #[Value.ref b0] D cy) (hcs : CEL ≤ room_1.cells ∧ SLO ≤ room_1.slots) (hX : va_X b0 L xs s s.heap) (hbl : b0 < s.heap.size) (hx3 : x3 = nI i) (hiL : i + 6 ≤ L) (hL : L ≤ 3072) {σ τ : ST} {H : Heap} {locs : List Loc} {ls : Array Slot} (hR : Rel σ τ) (hw : LH D cy b1 b2 σ τ s H locs) (hl : lv_has ls 4 [(0, .ref b0), (1, .ref (b1 + 0)), (2, .ref (b2 + 0)), (3, .int x3)])
    (ih : ∀ (σ τ : ST) (H : Heap) (locs : List Loc) (ls : Array Slot), Rel2 σ τ → LH D cy b1 b2 σ τ s H locs → lv_has ls 4 [(0, .ref b0), (1, .ref (b1 + 0)), (2, .ref (b2 + 0)), (3, .int x3)] → W p l e room_1 s m #[Value.ref b0] below meth c H locs CEL SLO (lw_Z below #[Value.ref b0] s) (F0 m 1908 ls [])) :
    W p l e room_1 s m #[Value.ref b0] below meth c H locs CEL SLO (lw_Z below #[Value.ref b0] s) (F0 m 1140 ls []) := by
  have hx := E.1.1
  have hb := E.1.2.1
  have hbA : ¬ (fun q : Nat => s.heap.size ≤ q) b0 := Nat.not_le.mpr hbl
  obtain ⟨r, σ1, τ1, h1, h2, hR⟩ := S ((xs (x3 + 1).toNatClampNeg)) ((xs (x3 + 2).toNatClampNeg)) σ τ hR
  refine lv_aload_n hx hb dL_law_1140 rfl (lv_at hl 1 rfl) ?_
  refine lv_aload_n hx hb dL_law_1141 rfl (lv_at hl 0 rfl) ?_
  refine lv_iload_n hx hb dL_law_1142 rfl (lv_at hl 3 rfl) ?_
  refine lv_iconst (v := 1) hx hb dL_law_1143 (by decide) ?_
  refine lv_iadd hx hb dL_law_1144 ?_
  refine va_sld hx hb hX hbl hbA hw.2.2.1 (law_in (k := 1) hx3 hiL hL (by decide)) dL_law_1145 ?_
  refine lv_aload_n hx hb dL_law_1146 rfl (lv_at hl 0 rfl) ?_
  refine lv_iload_n hx hb dL_law_1147 rfl (lv_at hl 3 rfl) ?_
  refine lv_iconst (v := 2) hx hb dL_law_1148 (by decide) ?_
  refine lv_iadd hx hb dL_law_1149 ?_
  refine va_sld hx hb hX hbl hbA hw.2.2.1 (law_in (k := 2) hx3 hiL hL (by decide)) dL_law_1150 ?_
  refine law_c1 (rest := []) E hw mw_L_136 (c_X11_twins h1 rfl) rfl rfl hl.1 (Nat.le_of_ble_eq_true rfl) ⟨Nat.le_of_ble_eq_true rfl, Nat.le_of_ble_eq_true rfl⟩ ⟨hcs.1, hcs.2⟩ dL_law_1151 (fun H locs hw => ?_)
  refine lv_aload_n hx hb dL_law_1154 rfl (lv_at hl 2 rfl) ?_
  refine lv_aload_n hx hb dL_law_1155 rfl (lv_at hl 0 rfl) ?_
  refine lv_iload_n hx hb dL_law_1156 rfl (lv_at hl 3 rfl) ?_
  refine lv_iconst (v := 1) hx hb dL_law_1157 (by decide) ?_
  refine lv_iadd hx hb dL_law_1158 ?_
  refine va_sld hx hb hX hbl hbA hw.2.2.1 (law_in (k := 1) hx3 hiL hL (by decide)) dL_law_1159 ?_
  refine lv_aload_n hx hb dL_law_1160 rfl (lv_at hl 0 rfl) ?_
  refine lv_iload_n hx hb dL_law_1161 rfl (lv_at hl 3 rfl) ?_
  refine lv_iconst (v := 2) hx hb dL_law_1162 (by decide) ?_
  refine lv_iadd hx hb dL_law_1163 ?_
  refine va_sld hx hb hX hbl hbA hw.2.2.1 (law_in (k := 2) hx3 hiL hL (by decide)) dL_law_1164 ?_
  refine law_c2 (rest := [.int r]) E hw mw_L_139 (c_X12_twins h2 rfl) rfl rfl hl.1 (Nat.le_of_ble_eq_true rfl) ⟨Nat.le_of_ble_eq_true rfl, Nat.le_of_ble_eq_true rfl⟩ ⟨hcs.1, hcs.2⟩ dL_law_1165 (fun H locs hw => ?_)
  refine lv_icmp_eq (tgt := 1908) hx hb dL_law_1168 (by decide) (fun _ => ?_) (fun c1 => absurd rfl c1)
  exact ih _ _ _ _ _ hR hw hl
set_option maxRecDepth 20000 in
set_option maxHeartbeats 1000000 in
theorem law_twin {p : Program} {l : Launch} {e : Env} {s : State} {m : MethodId} {below : List Frame} {meth : Method} {c : Code} {D : va_G} {cy : Nat → ClassId} {b0 b1 b2 i L : Nat} {xs : Nat → Int32} {CEL SLO : Nat} {x3 : Int32} {Rel Rel2 : ST → ST → Prop} (S : SIM_twin Rel Rel2) (E : CL p m c s #[Value.ref b0] D cy) (hcs : CEL ≤ room_1.cells ∧ SLO ≤ room_1.slots) (hX : va_X b0 L xs s s.heap) (hbl : b0 < s.heap.size) (hx3 : x3 = nI i) (hiL : i + 6 ≤ L) (hL : L ≤ 3072) {σ τ : ST} {H : Heap} {locs : List Loc} {ls : Array Slot} (hR : Rel σ τ) (hw : LH D cy b1 b2 σ τ s H locs) (hl : lv_has ls 4 [(0, .ref b0), (1, .ref (b1 + 0)), (2, .ref (b2 + 0)), (3, .int x3)])
    (ih : ∀ (σ τ : ST) (H : Heap) (locs : List Loc) (ls : Array Slot), Rel2 σ τ → LH D cy b1 b2 σ τ s H locs → lv_has ls 4 [(0, .ref b0), (1, .ref (b1 + 0)), (2, .ref (b2 + 0)), (3, .int x3)] → W p l e room_1 s m #[Value.ref b0] below meth c H locs CEL SLO (lw_Z below #[Value.ref b0] s) (F0 m 1908 ls [])) :
    W p l e room_1 s m #[Value.ref b0] below meth c H locs CEL SLO (lw_Z below #[Value.ref b0] s) (F0 m 1173 ls []) := by
  have hx := E.1.1
  have hb := E.1.2.1
  have hbA : ¬ (fun q : Nat => s.heap.size ≤ q) b0 := Nat.not_le.mpr hbl
  obtain ⟨r, σ1, τ1, h1, h2, hR⟩ := S ((xs (x3 + 1).toNatClampNeg)) ((xs (x3 + 2).toNatClampNeg)) ((xs (x3 + 3).toNatClampNeg)) ((xs (x3 + 4).toNatClampNeg)) σ τ hR
  refine lv_aload_n hx hb dL_law_1173 rfl (lv_at hl 1 rfl) ?_
  refine lv_aload_n hx hb dL_law_1174 rfl (lv_at hl 0 rfl) ?_
  refine lv_iload_n hx hb dL_law_1175 rfl (lv_at hl 3 rfl) ?_
  refine lv_iconst (v := 1) hx hb dL_law_1176 (by decide) ?_
  refine lv_iadd hx hb dL_law_1177 ?_
  refine va_sld hx hb hX hbl hbA hw.2.2.1 (law_in (k := 1) hx3 hiL hL (by decide)) dL_law_1178 ?_
  refine lv_aload_n hx hb dL_law_1179 rfl (lv_at hl 0 rfl) ?_
  refine lv_iload_n hx hb dL_law_1180 rfl (lv_at hl 3 rfl) ?_
  refine lv_iconst (v := 2) hx hb dL_law_1181 (by decide) ?_
  refine lv_iadd hx hb dL_law_1182 ?_
  refine va_sld hx hb hX hbl hbA hw.2.2.1 (law_in (k := 2) hx3 hiL hL (by decide)) dL_law_1183 ?_
  refine lv_aload_n hx hb dL_law_1184 rfl (lv_at hl 0 rfl) ?_
  refine lv_iload_n hx hb dL_law_1185 rfl (lv_at hl 3 rfl) ?_
  refine lv_iconst (v := 3) hx hb dL_law_1186 (by decide) ?_
  refine lv_iadd hx hb dL_law_1187 ?_
  refine va_sld hx hb hX hbl hbA hw.2.2.1 (law_in (k := 3) hx3 hiL hL (by decide)) dL_law_1188 ?_
  refine lv_aload_n hx hb dL_law_1189 rfl (lv_at hl 0 rfl) ?_
  refine lv_iload_n hx hb dL_law_1190 rfl (lv_at hl 3 rfl) ?_
  refine lv_iconst (v := 4) hx hb dL_law_1191 (by decide) ?_
  refine lv_iadd hx hb dL_law_1192 ?_
  refine va_sld hx hb hX hbl hbA hw.2.2.1 (law_in (k := 4) hx3 hiL hL (by decide)) dL_law_1193 ?_
  refine law_c1 (rest := []) E hw mw_L_140 (c_X11_twin h1 rfl) rfl rfl hl.1 (Nat.le_of_ble_eq_true rfl) ⟨Nat.le_of_ble_eq_true rfl, Nat.le_of_ble_eq_true rfl⟩ ⟨hcs.1, hcs.2⟩ dL_law_1194 (fun H locs hw => ?_)
  refine lv_aload_n hx hb dL_law_1197 rfl (lv_at hl 2 rfl) ?_
  refine lv_aload_n hx hb dL_law_1198 rfl (lv_at hl 0 rfl) ?_
  refine lv_iload_n hx hb dL_law_1199 rfl (lv_at hl 3 rfl) ?_
  refine lv_iconst (v := 1) hx hb dL_law_1200 (by decide) ?_
  refine lv_iadd hx hb dL_law_1201 ?_
  refine va_sld hx hb hX hbl hbA hw.2.2.1 (law_in (k := 1) hx3 hiL hL (by decide)) dL_law_1202 ?_
  refine lv_aload_n hx hb dL_law_1203 rfl (lv_at hl 0 rfl) ?_
  refine lv_iload_n hx hb dL_law_1204 rfl (lv_at hl 3 rfl) ?_
  refine lv_iconst (v := 2) hx hb dL_law_1205 (by decide) ?_
  refine lv_iadd hx hb dL_law_1206 ?_
  refine va_sld hx hb hX hbl hbA hw.2.2.1 (law_in (k := 2) hx3 hiL hL (by decide)) dL_law_1207 ?_
  refine lv_aload_n hx hb dL_law_1208 rfl (lv_at hl 0 rfl) ?_
  refine lv_iload_n hx hb dL_law_1209 rfl (lv_at hl 3 rfl) ?_
  refine lv_iconst (v := 3) hx hb dL_law_1210 (by decide) ?_
  refine lv_iadd hx hb dL_law_1211 ?_
  refine va_sld hx hb hX hbl hbA hw.2.2.1 (law_in (k := 3) hx3 hiL hL (by decide)) dL_law_1212 ?_
  refine lv_aload_n hx hb dL_law_1213 rfl (lv_at hl 0 rfl) ?_
  refine lv_iload_n hx hb dL_law_1214 rfl (lv_at hl 3 rfl) ?_
  refine lv_iconst (v := 4) hx hb dL_law_1215 (by decide) ?_
  refine lv_iadd hx hb dL_law_1216 ?_
  refine va_sld hx hb hX hbl hbA hw.2.2.1 (law_in (k := 4) hx3 hiL hL (by decide)) dL_law_1217 ?_
  refine law_c2 (rest := [.int r]) E hw mw_L_143 (c_X12_twin h2 rfl) rfl rfl hl.1 (Nat.le_of_ble_eq_true rfl) ⟨Nat.le_of_ble_eq_true rfl, Nat.le_of_ble_eq_true rfl⟩ ⟨hcs.1, hcs.2⟩ dL_law_1218 (fun H locs hw => ?_)
  refine lv_icmp_eq (tgt := 1908) hx hb dL_law_1221 (by decide) (fun _ => ?_) (fun c1 => absurd rfl c1)
  exact ih _ _ _ _ _ hR hw hl
set_option maxRecDepth 20000 in
set_option maxHeartbeats 1000000 in
theorem law_seen {p : Program} {l : Launch} {e : Env} {s : State} {m : MethodId} {below : List Frame} {meth : Method} {c : Code} {D : va_G} {cy : Nat → ClassId} {b0 b1 b2 i L : Nat} {xs : Nat → Int32} {CEL SLO : Nat} {x3 : Int32} {Rel Rel2 : ST → ST → Prop} (S : SIM_seen Rel Rel2) (E : CL p m c s #[Value.ref b0] D cy) (hcs : CEL ≤ room_1.cells ∧ SLO ≤ room_1.slots) (hX : va_X b0 L xs s s.heap) (hbl : b0 < s.heap.size) (hx3 : x3 = nI i) (hiL : i + 6 ≤ L) (hL : L ≤ 3072) {σ τ : ST} {H : Heap} {locs : List Loc} {ls : Array Slot} (hR : Rel σ τ) (hw : LH D cy b1 b2 σ τ s H locs) (hl : lv_has ls 4 [(0, .ref b0), (1, .ref (b1 + 0)), (2, .ref (b2 + 0)), (3, .int x3)])
    (ih : ∀ (σ τ : ST) (H : Heap) (locs : List Loc) (ls : Array Slot), Rel2 σ τ → LH D cy b1 b2 σ τ s H locs → lv_has ls 4 [(0, .ref b0), (1, .ref (b1 + 0)), (2, .ref (b2 + 0)), (3, .int x3)] → W p l e room_1 s m #[Value.ref b0] below meth c H locs CEL SLO (lw_Z below #[Value.ref b0] s) (F0 m 1908 ls [])) :
    W p l e room_1 s m #[Value.ref b0] below meth c H locs CEL SLO (lw_Z below #[Value.ref b0] s) (F0 m 1226 ls []) := by
  have hx := E.1.1
  have hb := E.1.2.1
  have hbA : ¬ (fun q : Nat => s.heap.size ≤ q) b0 := Nat.not_le.mpr hbl
  obtain ⟨r, σ1, τ1, h1, h2, hR⟩ := S ((xs (x3 + 1).toNatClampNeg)) ((xs (x3 + 2).toNatClampNeg)) ((xs (x3 + 3).toNatClampNeg)) σ τ hR
  refine lv_aload_n hx hb dL_law_1226 rfl (lv_at hl 1 rfl) ?_
  refine lv_aload_n hx hb dL_law_1227 rfl (lv_at hl 0 rfl) ?_
  refine lv_iload_n hx hb dL_law_1228 rfl (lv_at hl 3 rfl) ?_
  refine lv_iconst (v := 1) hx hb dL_law_1229 (by decide) ?_
  refine lv_iadd hx hb dL_law_1230 ?_
  refine va_sld hx hb hX hbl hbA hw.2.2.1 (law_in (k := 1) hx3 hiL hL (by decide)) dL_law_1231 ?_
  refine lv_aload_n hx hb dL_law_1232 rfl (lv_at hl 0 rfl) ?_
  refine lv_iload_n hx hb dL_law_1233 rfl (lv_at hl 3 rfl) ?_
  refine lv_iconst (v := 2) hx hb dL_law_1234 (by decide) ?_
  refine lv_iadd hx hb dL_law_1235 ?_
  refine va_sld hx hb hX hbl hbA hw.2.2.1 (law_in (k := 2) hx3 hiL hL (by decide)) dL_law_1236 ?_
  refine lv_aload_n hx hb dL_law_1237 rfl (lv_at hl 0 rfl) ?_
  refine lv_iload_n hx hb dL_law_1238 rfl (lv_at hl 3 rfl) ?_
  refine lv_iconst (v := 3) hx hb dL_law_1239 (by decide) ?_
  refine lv_iadd hx hb dL_law_1240 ?_
  refine va_sld hx hb hX hbl hbA hw.2.2.1 (law_in (k := 3) hx3 hiL hL (by decide)) dL_law_1241 ?_
  refine law_c1 (rest := []) E hw mw_L_144 (c_X11_seen h1 rfl) rfl rfl hl.1 (Nat.le_of_ble_eq_true rfl) ⟨Nat.le_of_ble_eq_true rfl, Nat.le_of_ble_eq_true rfl⟩ ⟨hcs.1, hcs.2⟩ dL_law_1242 (fun H locs hw => ?_)
  refine lv_aload_n hx hb dL_law_1245 rfl (lv_at hl 2 rfl) ?_
  refine lv_aload_n hx hb dL_law_1246 rfl (lv_at hl 0 rfl) ?_
  refine lv_iload_n hx hb dL_law_1247 rfl (lv_at hl 3 rfl) ?_
  refine lv_iconst (v := 1) hx hb dL_law_1248 (by decide) ?_
  refine lv_iadd hx hb dL_law_1249 ?_
  refine va_sld hx hb hX hbl hbA hw.2.2.1 (law_in (k := 1) hx3 hiL hL (by decide)) dL_law_1250 ?_
  refine lv_aload_n hx hb dL_law_1251 rfl (lv_at hl 0 rfl) ?_
  refine lv_iload_n hx hb dL_law_1252 rfl (lv_at hl 3 rfl) ?_
  refine lv_iconst (v := 2) hx hb dL_law_1253 (by decide) ?_
  refine lv_iadd hx hb dL_law_1254 ?_
  refine va_sld hx hb hX hbl hbA hw.2.2.1 (law_in (k := 2) hx3 hiL hL (by decide)) dL_law_1255 ?_
  refine lv_aload_n hx hb dL_law_1256 rfl (lv_at hl 0 rfl) ?_
  refine lv_iload_n hx hb dL_law_1257 rfl (lv_at hl 3 rfl) ?_
  refine lv_iconst (v := 3) hx hb dL_law_1258 (by decide) ?_
  refine lv_iadd hx hb dL_law_1259 ?_
  refine va_sld hx hb hX hbl hbA hw.2.2.1 (law_in (k := 3) hx3 hiL hL (by decide)) dL_law_1260 ?_
  refine law_c2 (rest := [.int r]) E hw mw_L_147 (c_X12_seen h2 rfl) rfl rfl hl.1 (Nat.le_of_ble_eq_true rfl) ⟨Nat.le_of_ble_eq_true rfl, Nat.le_of_ble_eq_true rfl⟩ ⟨hcs.1, hcs.2⟩ dL_law_1261 (fun H locs hw => ?_)
  refine lv_icmp_eq (tgt := 1908) hx hb dL_law_1264 (by decide) (fun _ => ?_) (fun c1 => absurd rfl c1)
  exact ih _ _ _ _ _ hR hw hl
set_option maxRecDepth 20000 in
set_option maxHeartbeats 1000000 in
theorem law_partOf {p : Program} {l : Launch} {e : Env} {s : State} {m : MethodId} {below : List Frame} {meth : Method} {c : Code} {D : va_G} {cy : Nat → ClassId} {b0 b1 b2 i L : Nat} {xs : Nat → Int32} {CEL SLO : Nat} {x3 : Int32} {Rel Rel2 : ST → ST → Prop} (S : SIM_partOf Rel Rel2) (E : CL p m c s #[Value.ref b0] D cy) (hcs : CEL ≤ room_1.cells ∧ SLO ≤ room_1.slots) (hX : va_X b0 L xs s s.heap) (hbl : b0 < s.heap.size) (hx3 : x3 = nI i) (hiL : i + 6 ≤ L) (hL : L ≤ 3072) {σ τ : ST} {H : Heap} {locs : List Loc} {ls : Array Slot} (hR : Rel σ τ) (hw : LH D cy b1 b2 σ τ s H locs) (hl : lv_has ls 4 [(0, .ref b0), (1, .ref (b1 + 0)), (2, .ref (b2 + 0)), (3, .int x3)])
    (ih : ∀ (σ τ : ST) (H : Heap) (locs : List Loc) (ls : Array Slot), Rel2 σ τ → LH D cy b1 b2 σ τ s H locs → lv_has ls 4 [(0, .ref b0), (1, .ref (b1 + 0)), (2, .ref (b2 + 0)), (3, .int x3)] → W p l e room_1 s m #[Value.ref b0] below meth c H locs CEL SLO (lw_Z below #[Value.ref b0] s) (F0 m 1908 ls [])) :
    W p l e room_1 s m #[Value.ref b0] below meth c H locs CEL SLO (lw_Z below #[Value.ref b0] s) (F0 m 1269 ls []) := by
  have hx := E.1.1
  have hb := E.1.2.1
  have hbA : ¬ (fun q : Nat => s.heap.size ≤ q) b0 := Nat.not_le.mpr hbl
  obtain ⟨r, σ1, τ1, h1, h2, hR⟩ := S ((xs (x3 + 1).toNatClampNeg)) ((xs (x3 + 2).toNatClampNeg)) ((xs (x3 + 3).toNatClampNeg)) σ τ hR
  refine lv_aload_n hx hb dL_law_1269 rfl (lv_at hl 1 rfl) ?_
  refine lv_aload_n hx hb dL_law_1270 rfl (lv_at hl 0 rfl) ?_
  refine lv_iload_n hx hb dL_law_1271 rfl (lv_at hl 3 rfl) ?_
  refine lv_iconst (v := 1) hx hb dL_law_1272 (by decide) ?_
  refine lv_iadd hx hb dL_law_1273 ?_
  refine va_sld hx hb hX hbl hbA hw.2.2.1 (law_in (k := 1) hx3 hiL hL (by decide)) dL_law_1274 ?_
  refine lv_aload_n hx hb dL_law_1275 rfl (lv_at hl 0 rfl) ?_
  refine lv_iload_n hx hb dL_law_1276 rfl (lv_at hl 3 rfl) ?_
  refine lv_iconst (v := 2) hx hb dL_law_1277 (by decide) ?_
  refine lv_iadd hx hb dL_law_1278 ?_
  refine va_sld hx hb hX hbl hbA hw.2.2.1 (law_in (k := 2) hx3 hiL hL (by decide)) dL_law_1279 ?_
  refine lv_aload_n hx hb dL_law_1280 rfl (lv_at hl 0 rfl) ?_
  refine lv_iload_n hx hb dL_law_1281 rfl (lv_at hl 3 rfl) ?_
  refine lv_iconst (v := 3) hx hb dL_law_1282 (by decide) ?_
  refine lv_iadd hx hb dL_law_1283 ?_
  refine va_sld hx hb hX hbl hbA hw.2.2.1 (law_in (k := 3) hx3 hiL hL (by decide)) dL_law_1284 ?_
  refine law_c1 (rest := []) E hw mw_L_148 (c_X11_partOf h1 rfl) rfl rfl hl.1 (Nat.le_of_ble_eq_true rfl) ⟨Nat.le_of_ble_eq_true rfl, Nat.le_of_ble_eq_true rfl⟩ ⟨hcs.1, hcs.2⟩ dL_law_1285 (fun H locs hw => ?_)
  refine lv_aload_n hx hb dL_law_1288 rfl (lv_at hl 2 rfl) ?_
  refine lv_aload_n hx hb dL_law_1289 rfl (lv_at hl 0 rfl) ?_
  refine lv_iload_n hx hb dL_law_1290 rfl (lv_at hl 3 rfl) ?_
  refine lv_iconst (v := 1) hx hb dL_law_1291 (by decide) ?_
  refine lv_iadd hx hb dL_law_1292 ?_
  refine va_sld hx hb hX hbl hbA hw.2.2.1 (law_in (k := 1) hx3 hiL hL (by decide)) dL_law_1293 ?_
  refine lv_aload_n hx hb dL_law_1294 rfl (lv_at hl 0 rfl) ?_
  refine lv_iload_n hx hb dL_law_1295 rfl (lv_at hl 3 rfl) ?_
  refine lv_iconst (v := 2) hx hb dL_law_1296 (by decide) ?_
  refine lv_iadd hx hb dL_law_1297 ?_
  refine va_sld hx hb hX hbl hbA hw.2.2.1 (law_in (k := 2) hx3 hiL hL (by decide)) dL_law_1298 ?_
  refine lv_aload_n hx hb dL_law_1299 rfl (lv_at hl 0 rfl) ?_
  refine lv_iload_n hx hb dL_law_1300 rfl (lv_at hl 3 rfl) ?_
  refine lv_iconst (v := 3) hx hb dL_law_1301 (by decide) ?_
  refine lv_iadd hx hb dL_law_1302 ?_
  refine va_sld hx hb hX hbl hbA hw.2.2.1 (law_in (k := 3) hx3 hiL hL (by decide)) dL_law_1303 ?_
  refine law_c2 (rest := [.int r]) E hw mw_L_151 (c_X12_partOf h2 rfl) rfl rfl hl.1 (Nat.le_of_ble_eq_true rfl) ⟨Nat.le_of_ble_eq_true rfl, Nat.le_of_ble_eq_true rfl⟩ ⟨hcs.1, hcs.2⟩ dL_law_1304 (fun H locs hw => ?_)
  refine lv_icmp_eq (tgt := 1908) hx hb dL_law_1307 (by decide) (fun _ => ?_) (fun c1 => absurd rfl c1)
  exact ih _ _ _ _ _ hR hw hl
set_option maxRecDepth 20000 in
set_option maxHeartbeats 1000000 in
theorem law_hints {p : Program} {l : Launch} {e : Env} {s : State} {m : MethodId} {below : List Frame} {meth : Method} {c : Code} {D : va_G} {cy : Nat → ClassId} {b0 b1 b2 i L : Nat} {xs : Nat → Int32} {CEL SLO : Nat} {x3 : Int32} {Rel Rel2 : ST → ST → Prop} (S : SIM_hints Rel Rel2) (E : CL p m c s #[Value.ref b0] D cy) (hcs : CEL ≤ room_1.cells ∧ SLO ≤ room_1.slots) (hX : va_X b0 L xs s s.heap) (hbl : b0 < s.heap.size) (hx3 : x3 = nI i) (hiL : i + 6 ≤ L) (hL : L ≤ 3072) {σ τ : ST} {H : Heap} {locs : List Loc} {ls : Array Slot} (hR : Rel σ τ) (hw : LH D cy b1 b2 σ τ s H locs) (hl : lv_has ls 4 [(0, .ref b0), (1, .ref (b1 + 0)), (2, .ref (b2 + 0)), (3, .int x3)])
    (ih : ∀ (σ τ : ST) (H : Heap) (locs : List Loc) (ls : Array Slot), Rel2 σ τ → LH D cy b1 b2 σ τ s H locs → lv_has ls 4 [(0, .ref b0), (1, .ref (b1 + 0)), (2, .ref (b2 + 0)), (3, .int x3)] → W p l e room_1 s m #[Value.ref b0] below meth c H locs CEL SLO (lw_Z below #[Value.ref b0] s) (F0 m 1908 ls [])) :
    W p l e room_1 s m #[Value.ref b0] below meth c H locs CEL SLO (lw_Z below #[Value.ref b0] s) (F0 m 1312 ls []) := by
  have hx := E.1.1
  have hb := E.1.2.1
  have hbA : ¬ (fun q : Nat => s.heap.size ≤ q) b0 := Nat.not_le.mpr hbl
  obtain ⟨r, σ1, τ1, h1, h2, hR⟩ := S ((xs (x3 + 1).toNatClampNeg)) σ τ hR
  refine lv_aload_n hx hb dL_law_1312 rfl (lv_at hl 1 rfl) ?_
  refine lv_aload_n hx hb dL_law_1313 rfl (lv_at hl 0 rfl) ?_
  refine lv_iload_n hx hb dL_law_1314 rfl (lv_at hl 3 rfl) ?_
  refine lv_iconst (v := 1) hx hb dL_law_1315 (by decide) ?_
  refine lv_iadd hx hb dL_law_1316 ?_
  refine va_sld hx hb hX hbl hbA hw.2.2.1 (law_in (k := 1) hx3 hiL hL (by decide)) dL_law_1317 ?_
  refine law_c1 (rest := []) E hw mw_L_152 (c_X11_hints h1 rfl) rfl rfl hl.1 (Nat.le_of_ble_eq_true rfl) ⟨Nat.le_of_ble_eq_true rfl, Nat.le_of_ble_eq_true rfl⟩ ⟨hcs.1, hcs.2⟩ dL_law_1318 (fun H locs hw => ?_)
  refine lv_aload_n hx hb dL_law_1321 rfl (lv_at hl 2 rfl) ?_
  refine lv_aload_n hx hb dL_law_1322 rfl (lv_at hl 0 rfl) ?_
  refine lv_iload_n hx hb dL_law_1323 rfl (lv_at hl 3 rfl) ?_
  refine lv_iconst (v := 1) hx hb dL_law_1324 (by decide) ?_
  refine lv_iadd hx hb dL_law_1325 ?_
  refine va_sld hx hb hX hbl hbA hw.2.2.1 (law_in (k := 1) hx3 hiL hL (by decide)) dL_law_1326 ?_
  refine law_c2 (rest := [.int r]) E hw mw_L_155 (c_X12_hints h2 rfl) rfl rfl hl.1 (Nat.le_of_ble_eq_true rfl) ⟨Nat.le_of_ble_eq_true rfl, Nat.le_of_ble_eq_true rfl⟩ ⟨hcs.1, hcs.2⟩ dL_law_1327 (fun H locs hw => ?_)
  refine lv_icmp_eq (tgt := 1908) hx hb dL_law_1330 (by decide) (fun _ => ?_) (fun c1 => absurd rfl c1)
  exact ih _ _ _ _ _ hR hw hl
set_option maxRecDepth 20000 in
set_option maxHeartbeats 1000000 in
theorem law_ticket {p : Program} {l : Launch} {e : Env} {s : State} {m : MethodId} {below : List Frame} {meth : Method} {c : Code} {D : va_G} {cy : Nat → ClassId} {b0 b1 b2 i L : Nat} {xs : Nat → Int32} {CEL SLO : Nat} {x3 : Int32} {Rel Rel2 : ST → ST → Prop} (S : SIM_ticket Rel Rel2) (E : CL p m c s #[Value.ref b0] D cy) (hcs : CEL ≤ room_1.cells ∧ SLO ≤ room_1.slots) (hX : va_X b0 L xs s s.heap) (hbl : b0 < s.heap.size) (hx3 : x3 = nI i) (hiL : i + 6 ≤ L) (hL : L ≤ 3072) {σ τ : ST} {H : Heap} {locs : List Loc} {ls : Array Slot} (hR : Rel σ τ) (hw : LH D cy b1 b2 σ τ s H locs) (hl : lv_has ls 4 [(0, .ref b0), (1, .ref (b1 + 0)), (2, .ref (b2 + 0)), (3, .int x3)])
    (ih : ∀ (σ τ : ST) (H : Heap) (locs : List Loc) (ls : Array Slot), Rel2 σ τ → LH D cy b1 b2 σ τ s H locs → lv_has ls 4 [(0, .ref b0), (1, .ref (b1 + 0)), (2, .ref (b2 + 0)), (3, .int x3)] → W p l e room_1 s m #[Value.ref b0] below meth c H locs CEL SLO (lw_Z below #[Value.ref b0] s) (F0 m 1908 ls [])) :
    W p l e room_1 s m #[Value.ref b0] below meth c H locs CEL SLO (lw_Z below #[Value.ref b0] s) (F0 m 1335 ls []) := by
  have hx := E.1.1
  have hb := E.1.2.1
  have hbA : ¬ (fun q : Nat => s.heap.size ≤ q) b0 := Nat.not_le.mpr hbl
  obtain ⟨r, σ1, τ1, h1, h2, hR⟩ := S ((xs (x3 + 1).toNatClampNeg)) ((xs (x3 + 2).toNatClampNeg)) σ τ hR
  refine lv_aload_n hx hb dL_law_1335 rfl (lv_at hl 1 rfl) ?_
  refine lv_aload_n hx hb dL_law_1336 rfl (lv_at hl 0 rfl) ?_
  refine lv_iload_n hx hb dL_law_1337 rfl (lv_at hl 3 rfl) ?_
  refine lv_iconst (v := 1) hx hb dL_law_1338 (by decide) ?_
  refine lv_iadd hx hb dL_law_1339 ?_
  refine va_sld hx hb hX hbl hbA hw.2.2.1 (law_in (k := 1) hx3 hiL hL (by decide)) dL_law_1340 ?_
  refine lv_aload_n hx hb dL_law_1341 rfl (lv_at hl 0 rfl) ?_
  refine lv_iload_n hx hb dL_law_1342 rfl (lv_at hl 3 rfl) ?_
  refine lv_iconst (v := 2) hx hb dL_law_1343 (by decide) ?_
  refine lv_iadd hx hb dL_law_1344 ?_
  refine va_sld hx hb hX hbl hbA hw.2.2.1 (law_in (k := 2) hx3 hiL hL (by decide)) dL_law_1345 ?_
  refine law_c1 (rest := []) E hw mw_L_156 (c_X11_ticket h1 rfl) rfl rfl hl.1 (Nat.le_of_ble_eq_true rfl) ⟨Nat.le_of_ble_eq_true rfl, Nat.le_of_ble_eq_true rfl⟩ ⟨hcs.1, hcs.2⟩ dL_law_1346 (fun H locs hw => ?_)
  refine lv_aload_n hx hb dL_law_1349 rfl (lv_at hl 2 rfl) ?_
  refine lv_aload_n hx hb dL_law_1350 rfl (lv_at hl 0 rfl) ?_
  refine lv_iload_n hx hb dL_law_1351 rfl (lv_at hl 3 rfl) ?_
  refine lv_iconst (v := 1) hx hb dL_law_1352 (by decide) ?_
  refine lv_iadd hx hb dL_law_1353 ?_
  refine va_sld hx hb hX hbl hbA hw.2.2.1 (law_in (k := 1) hx3 hiL hL (by decide)) dL_law_1354 ?_
  refine lv_aload_n hx hb dL_law_1355 rfl (lv_at hl 0 rfl) ?_
  refine lv_iload_n hx hb dL_law_1356 rfl (lv_at hl 3 rfl) ?_
  refine lv_iconst (v := 2) hx hb dL_law_1357 (by decide) ?_
  refine lv_iadd hx hb dL_law_1358 ?_
  refine va_sld hx hb hX hbl hbA hw.2.2.1 (law_in (k := 2) hx3 hiL hL (by decide)) dL_law_1359 ?_
  refine law_c2 (rest := [.int r]) E hw mw_L_159 (c_X12_ticket h2 rfl) rfl rfl hl.1 (Nat.le_of_ble_eq_true rfl) ⟨Nat.le_of_ble_eq_true rfl, Nat.le_of_ble_eq_true rfl⟩ ⟨hcs.1, hcs.2⟩ dL_law_1360 (fun H locs hw => ?_)
  refine lv_icmp_eq (tgt := 1908) hx hb dL_law_1363 (by decide) (fun _ => ?_) (fun c1 => absurd rfl c1)
  exact ih _ _ _ _ _ hR hw hl
set_option maxRecDepth 20000 in
set_option maxHeartbeats 1000000 in
theorem law_like {p : Program} {l : Launch} {e : Env} {s : State} {m : MethodId} {below : List Frame} {meth : Method} {c : Code} {D : va_G} {cy : Nat → ClassId} {b0 b1 b2 i L : Nat} {xs : Nat → Int32} {CEL SLO : Nat} {x3 : Int32} {Rel Rel2 : ST → ST → Prop} (S : SIM_like Rel Rel2) (E : CL p m c s #[Value.ref b0] D cy) (hcs : CEL ≤ room_1.cells ∧ SLO ≤ room_1.slots) (hX : va_X b0 L xs s s.heap) (hbl : b0 < s.heap.size) (hx3 : x3 = nI i) (hiL : i + 6 ≤ L) (hL : L ≤ 3072) {σ τ : ST} {H : Heap} {locs : List Loc} {ls : Array Slot} (hR : Rel σ τ) (hw : LH D cy b1 b2 σ τ s H locs) (hl : lv_has ls 4 [(0, .ref b0), (1, .ref (b1 + 0)), (2, .ref (b2 + 0)), (3, .int x3)])
    (ih : ∀ (σ τ : ST) (H : Heap) (locs : List Loc) (ls : Array Slot), Rel2 σ τ → LH D cy b1 b2 σ τ s H locs → lv_has ls 4 [(0, .ref b0), (1, .ref (b1 + 0)), (2, .ref (b2 + 0)), (3, .int x3)] → W p l e room_1 s m #[Value.ref b0] below meth c H locs CEL SLO (lw_Z below #[Value.ref b0] s) (F0 m 1908 ls [])) :
    W p l e room_1 s m #[Value.ref b0] below meth c H locs CEL SLO (lw_Z below #[Value.ref b0] s) (F0 m 1368 ls []) := by
  have hx := E.1.1
  have hb := E.1.2.1
  have hbA : ¬ (fun q : Nat => s.heap.size ≤ q) b0 := Nat.not_le.mpr hbl
  obtain ⟨r, σ1, τ1, h1, h2, hR⟩ := S ((xs (x3 + 1).toNatClampNeg)) ((xs (x3 + 2).toNatClampNeg)) ((xs (x3 + 3).toNatClampNeg)) σ τ hR
  refine lv_aload_n hx hb dL_law_1368 rfl (lv_at hl 1 rfl) ?_
  refine lv_aload_n hx hb dL_law_1369 rfl (lv_at hl 0 rfl) ?_
  refine lv_iload_n hx hb dL_law_1370 rfl (lv_at hl 3 rfl) ?_
  refine lv_iconst (v := 1) hx hb dL_law_1371 (by decide) ?_
  refine lv_iadd hx hb dL_law_1372 ?_
  refine va_sld hx hb hX hbl hbA hw.2.2.1 (law_in (k := 1) hx3 hiL hL (by decide)) dL_law_1373 ?_
  refine lv_aload_n hx hb dL_law_1374 rfl (lv_at hl 0 rfl) ?_
  refine lv_iload_n hx hb dL_law_1375 rfl (lv_at hl 3 rfl) ?_
  refine lv_iconst (v := 2) hx hb dL_law_1376 (by decide) ?_
  refine lv_iadd hx hb dL_law_1377 ?_
  refine va_sld hx hb hX hbl hbA hw.2.2.1 (law_in (k := 2) hx3 hiL hL (by decide)) dL_law_1378 ?_
  refine lv_aload_n hx hb dL_law_1379 rfl (lv_at hl 0 rfl) ?_
  refine lv_iload_n hx hb dL_law_1380 rfl (lv_at hl 3 rfl) ?_
  refine lv_iconst (v := 3) hx hb dL_law_1381 (by decide) ?_
  refine lv_iadd hx hb dL_law_1382 ?_
  refine va_sld hx hb hX hbl hbA hw.2.2.1 (law_in (k := 3) hx3 hiL hL (by decide)) dL_law_1383 ?_
  refine law_c1 (rest := []) E hw mw_L_160 (c_X11_like h1 rfl) rfl rfl hl.1 (Nat.le_of_ble_eq_true rfl) ⟨Nat.le_of_ble_eq_true rfl, Nat.le_of_ble_eq_true rfl⟩ ⟨hcs.1, hcs.2⟩ dL_law_1384 (fun H locs hw => ?_)
  refine lv_aload_n hx hb dL_law_1387 rfl (lv_at hl 2 rfl) ?_
  refine lv_aload_n hx hb dL_law_1388 rfl (lv_at hl 0 rfl) ?_
  refine lv_iload_n hx hb dL_law_1389 rfl (lv_at hl 3 rfl) ?_
  refine lv_iconst (v := 1) hx hb dL_law_1390 (by decide) ?_
  refine lv_iadd hx hb dL_law_1391 ?_
  refine va_sld hx hb hX hbl hbA hw.2.2.1 (law_in (k := 1) hx3 hiL hL (by decide)) dL_law_1392 ?_
  refine lv_aload_n hx hb dL_law_1393 rfl (lv_at hl 0 rfl) ?_
  refine lv_iload_n hx hb dL_law_1394 rfl (lv_at hl 3 rfl) ?_
  refine lv_iconst (v := 2) hx hb dL_law_1395 (by decide) ?_
  refine lv_iadd hx hb dL_law_1396 ?_
  refine va_sld hx hb hX hbl hbA hw.2.2.1 (law_in (k := 2) hx3 hiL hL (by decide)) dL_law_1397 ?_
  refine lv_aload_n hx hb dL_law_1398 rfl (lv_at hl 0 rfl) ?_
  refine lv_iload_n hx hb dL_law_1399 rfl (lv_at hl 3 rfl) ?_
  refine lv_iconst (v := 3) hx hb dL_law_1400 (by decide) ?_
  refine lv_iadd hx hb dL_law_1401 ?_
  refine va_sld hx hb hX hbl hbA hw.2.2.1 (law_in (k := 3) hx3 hiL hL (by decide)) dL_law_1402 ?_
  refine law_c2 (rest := [.int r]) E hw mw_L_163 (c_X12_like h2 rfl) rfl rfl hl.1 (Nat.le_of_ble_eq_true rfl) ⟨Nat.le_of_ble_eq_true rfl, Nat.le_of_ble_eq_true rfl⟩ ⟨hcs.1, hcs.2⟩ dL_law_1403 (fun H locs hw => ?_)
  refine lv_icmp_eq (tgt := 1908) hx hb dL_law_1406 (by decide) (fun _ => ?_) (fun c1 => absurd rfl c1)
  exact ih _ _ _ _ _ hR hw hl
set_option maxRecDepth 20000 in
set_option maxHeartbeats 1000000 in
theorem law_alike {p : Program} {l : Launch} {e : Env} {s : State} {m : MethodId} {below : List Frame} {meth : Method} {c : Code} {D : va_G} {cy : Nat → ClassId} {b0 b1 b2 i L : Nat} {xs : Nat → Int32} {CEL SLO : Nat} {x3 : Int32} {Rel Rel2 : ST → ST → Prop} (S : SIM_alike Rel Rel2) (E : CL p m c s #[Value.ref b0] D cy) (hcs : CEL ≤ room_1.cells ∧ SLO ≤ room_1.slots) (hX : va_X b0 L xs s s.heap) (hbl : b0 < s.heap.size) (hx3 : x3 = nI i) (hiL : i + 6 ≤ L) (hL : L ≤ 3072) {σ τ : ST} {H : Heap} {locs : List Loc} {ls : Array Slot} (hR : Rel σ τ) (hw : LH D cy b1 b2 σ τ s H locs) (hl : lv_has ls 4 [(0, .ref b0), (1, .ref (b1 + 0)), (2, .ref (b2 + 0)), (3, .int x3)])
    (ih : ∀ (σ τ : ST) (H : Heap) (locs : List Loc) (ls : Array Slot), Rel2 σ τ → LH D cy b1 b2 σ τ s H locs → lv_has ls 4 [(0, .ref b0), (1, .ref (b1 + 0)), (2, .ref (b2 + 0)), (3, .int x3)] → W p l e room_1 s m #[Value.ref b0] below meth c H locs CEL SLO (lw_Z below #[Value.ref b0] s) (F0 m 1908 ls [])) :
    W p l e room_1 s m #[Value.ref b0] below meth c H locs CEL SLO (lw_Z below #[Value.ref b0] s) (F0 m 1411 ls []) := by
  have hx := E.1.1
  have hb := E.1.2.1
  have hbA : ¬ (fun q : Nat => s.heap.size ≤ q) b0 := Nat.not_le.mpr hbl
  obtain ⟨r, σ1, τ1, h1, h2, hR⟩ := S σ τ hR
  refine lv_aload_n hx hb dL_law_1411 rfl (lv_at hl 1 rfl) ?_
  refine law_c1 (rest := []) E hw mw_L_164 (c_X11_alike h1 rfl) rfl rfl hl.1 (Nat.le_of_ble_eq_true rfl) ⟨Nat.le_of_ble_eq_true rfl, Nat.le_of_ble_eq_true rfl⟩ ⟨hcs.1, hcs.2⟩ dL_law_1412 (fun H locs hw => ?_)
  refine lv_aload_n hx hb dL_law_1415 rfl (lv_at hl 2 rfl) ?_
  refine law_c2 (rest := [.int r]) E hw mw_L_167 (c_X12_alike h2 rfl) rfl rfl hl.1 (Nat.le_of_ble_eq_true rfl) ⟨Nat.le_of_ble_eq_true rfl, Nat.le_of_ble_eq_true rfl⟩ ⟨hcs.1, hcs.2⟩ dL_law_1416 (fun H locs hw => ?_)
  refine lv_icmp_eq (tgt := 1908) hx hb dL_law_1419 (by decide) (fun _ => ?_) (fun c1 => absurd rfl c1)
  exact ih _ _ _ _ _ hR hw hl
set_option maxRecDepth 20000 in
set_option maxHeartbeats 1000000 in
theorem law_differ {p : Program} {l : Launch} {e : Env} {s : State} {m : MethodId} {below : List Frame} {meth : Method} {c : Code} {D : va_G} {cy : Nat → ClassId} {b0 b1 b2 i L : Nat} {xs : Nat → Int32} {CEL SLO : Nat} {x3 : Int32} {Rel Rel2 : ST → ST → Prop} (S : SIM_differ Rel Rel2) (E : CL p m c s #[Value.ref b0] D cy) (hcs : CEL ≤ room_1.cells ∧ SLO ≤ room_1.slots) (hX : va_X b0 L xs s s.heap) (hbl : b0 < s.heap.size) (hx3 : x3 = nI i) (hiL : i + 6 ≤ L) (hL : L ≤ 3072) {σ τ : ST} {H : Heap} {locs : List Loc} {ls : Array Slot} (hR : Rel σ τ) (hw : LH D cy b1 b2 σ τ s H locs) (hl : lv_has ls 4 [(0, .ref b0), (1, .ref (b1 + 0)), (2, .ref (b2 + 0)), (3, .int x3)])
    (ih : ∀ (σ τ : ST) (H : Heap) (locs : List Loc) (ls : Array Slot), Rel2 σ τ → LH D cy b1 b2 σ τ s H locs → lv_has ls 4 [(0, .ref b0), (1, .ref (b1 + 0)), (2, .ref (b2 + 0)), (3, .int x3)] → W p l e room_1 s m #[Value.ref b0] below meth c H locs CEL SLO (lw_Z below #[Value.ref b0] s) (F0 m 1908 ls [])) :
    W p l e room_1 s m #[Value.ref b0] below meth c H locs CEL SLO (lw_Z below #[Value.ref b0] s) (F0 m 1424 ls []) := by
  have hx := E.1.1
  have hb := E.1.2.1
  have hbA : ¬ (fun q : Nat => s.heap.size ≤ q) b0 := Nat.not_le.mpr hbl
  obtain ⟨r, σ1, τ1, h1, h2, hR⟩ := S ((xs (x3 + 1).toNatClampNeg)) ((xs (x3 + 2).toNatClampNeg)) σ τ hR
  refine lv_aload_n hx hb dL_law_1424 rfl (lv_at hl 1 rfl) ?_
  refine lv_aload_n hx hb dL_law_1425 rfl (lv_at hl 0 rfl) ?_
  refine lv_iload_n hx hb dL_law_1426 rfl (lv_at hl 3 rfl) ?_
  refine lv_iconst (v := 1) hx hb dL_law_1427 (by decide) ?_
  refine lv_iadd hx hb dL_law_1428 ?_
  refine va_sld hx hb hX hbl hbA hw.2.2.1 (law_in (k := 1) hx3 hiL hL (by decide)) dL_law_1429 ?_
  refine lv_aload_n hx hb dL_law_1430 rfl (lv_at hl 0 rfl) ?_
  refine lv_iload_n hx hb dL_law_1431 rfl (lv_at hl 3 rfl) ?_
  refine lv_iconst (v := 2) hx hb dL_law_1432 (by decide) ?_
  refine lv_iadd hx hb dL_law_1433 ?_
  refine va_sld hx hb hX hbl hbA hw.2.2.1 (law_in (k := 2) hx3 hiL hL (by decide)) dL_law_1434 ?_
  refine law_c1 (rest := []) E hw mw_L_168 (c_X11_differ h1 rfl) rfl rfl hl.1 (Nat.le_of_ble_eq_true rfl) ⟨Nat.le_of_ble_eq_true rfl, Nat.le_of_ble_eq_true rfl⟩ ⟨hcs.1, hcs.2⟩ dL_law_1435 (fun H locs hw => ?_)
  refine lv_aload_n hx hb dL_law_1438 rfl (lv_at hl 2 rfl) ?_
  refine lv_aload_n hx hb dL_law_1439 rfl (lv_at hl 0 rfl) ?_
  refine lv_iload_n hx hb dL_law_1440 rfl (lv_at hl 3 rfl) ?_
  refine lv_iconst (v := 1) hx hb dL_law_1441 (by decide) ?_
  refine lv_iadd hx hb dL_law_1442 ?_
  refine va_sld hx hb hX hbl hbA hw.2.2.1 (law_in (k := 1) hx3 hiL hL (by decide)) dL_law_1443 ?_
  refine lv_aload_n hx hb dL_law_1444 rfl (lv_at hl 0 rfl) ?_
  refine lv_iload_n hx hb dL_law_1445 rfl (lv_at hl 3 rfl) ?_
  refine lv_iconst (v := 2) hx hb dL_law_1446 (by decide) ?_
  refine lv_iadd hx hb dL_law_1447 ?_
  refine va_sld hx hb hX hbl hbA hw.2.2.1 (law_in (k := 2) hx3 hiL hL (by decide)) dL_law_1448 ?_
  refine law_c2 (rest := [.int r]) E hw mw_L_171 (c_X12_differ h2 rfl) rfl rfl hl.1 (Nat.le_of_ble_eq_true rfl) ⟨Nat.le_of_ble_eq_true rfl, Nat.le_of_ble_eq_true rfl⟩ ⟨hcs.1, hcs.2⟩ dL_law_1449 (fun H locs hw => ?_)
  refine lv_icmp_eq (tgt := 1908) hx hb dL_law_1452 (by decide) (fun _ => ?_) (fun c1 => absurd rfl c1)
  exact ih _ _ _ _ _ hR hw hl
set_option maxRecDepth 20000 in
set_option maxHeartbeats 1000000 in
theorem law_root {p : Program} {l : Launch} {e : Env} {s : State} {m : MethodId} {below : List Frame} {meth : Method} {c : Code} {D : va_G} {cy : Nat → ClassId} {b0 b1 b2 i L : Nat} {xs : Nat → Int32} {CEL SLO : Nat} {x3 : Int32} {Rel Rel2 : ST → ST → Prop} (S : SIM_root Rel Rel2) (E : CL p m c s #[Value.ref b0] D cy) (hcs : CEL ≤ room_1.cells ∧ SLO ≤ room_1.slots) (hX : va_X b0 L xs s s.heap) (hbl : b0 < s.heap.size) (hx3 : x3 = nI i) (hiL : i + 6 ≤ L) (hL : L ≤ 3072) {σ τ : ST} {H : Heap} {locs : List Loc} {ls : Array Slot} (hR : Rel σ τ) (hw : LH D cy b1 b2 σ τ s H locs) (hl : lv_has ls 4 [(0, .ref b0), (1, .ref (b1 + 0)), (2, .ref (b2 + 0)), (3, .int x3)])
    (ih : ∀ (σ τ : ST) (H : Heap) (locs : List Loc) (ls : Array Slot), Rel2 σ τ → LH D cy b1 b2 σ τ s H locs → lv_has ls 4 [(0, .ref b0), (1, .ref (b1 + 0)), (2, .ref (b2 + 0)), (3, .int x3)] → W p l e room_1 s m #[Value.ref b0] below meth c H locs CEL SLO (lw_Z below #[Value.ref b0] s) (F0 m 1908 ls [])) :
    W p l e room_1 s m #[Value.ref b0] below meth c H locs CEL SLO (lw_Z below #[Value.ref b0] s) (F0 m 1457 ls []) := by
  have hx := E.1.1
  have hb := E.1.2.1
  have hbA : ¬ (fun q : Nat => s.heap.size ≤ q) b0 := Nat.not_le.mpr hbl
  obtain ⟨r, σ1, τ1, h1, h2, hR⟩ := S ((xs (x3 + 1).toNatClampNeg)) σ τ hR
  refine lv_aload_n hx hb dL_law_1457 rfl (lv_at hl 1 rfl) ?_
  refine lv_aload_n hx hb dL_law_1458 rfl (lv_at hl 0 rfl) ?_
  refine lv_iload_n hx hb dL_law_1459 rfl (lv_at hl 3 rfl) ?_
  refine lv_iconst (v := 1) hx hb dL_law_1460 (by decide) ?_
  refine lv_iadd hx hb dL_law_1461 ?_
  refine va_sld hx hb hX hbl hbA hw.2.2.1 (law_in (k := 1) hx3 hiL hL (by decide)) dL_law_1462 ?_
  refine law_c1 (rest := []) E hw mw_L_172 (c_X11_root h1 rfl) rfl rfl hl.1 (Nat.le_of_ble_eq_true rfl) ⟨Nat.le_of_ble_eq_true rfl, Nat.le_of_ble_eq_true rfl⟩ ⟨hcs.1, hcs.2⟩ dL_law_1463 (fun H locs hw => ?_)
  refine lv_aload_n hx hb dL_law_1466 rfl (lv_at hl 2 rfl) ?_
  refine lv_aload_n hx hb dL_law_1467 rfl (lv_at hl 0 rfl) ?_
  refine lv_iload_n hx hb dL_law_1468 rfl (lv_at hl 3 rfl) ?_
  refine lv_iconst (v := 1) hx hb dL_law_1469 (by decide) ?_
  refine lv_iadd hx hb dL_law_1470 ?_
  refine va_sld hx hb hX hbl hbA hw.2.2.1 (law_in (k := 1) hx3 hiL hL (by decide)) dL_law_1471 ?_
  refine law_c2 (rest := [.int r]) E hw mw_L_175 (c_X12_root h2 rfl) rfl rfl hl.1 (Nat.le_of_ble_eq_true rfl) ⟨Nat.le_of_ble_eq_true rfl, Nat.le_of_ble_eq_true rfl⟩ ⟨hcs.1, hcs.2⟩ dL_law_1472 (fun H locs hw => ?_)
  refine lv_icmp_eq (tgt := 1908) hx hb dL_law_1475 (by decide) (fun _ => ?_) (fun c1 => absurd rfl c1)
  exact ih _ _ _ _ _ hR hw hl
set_option maxRecDepth 20000 in
set_option maxHeartbeats 1000000 in
theorem law_fresh {p : Program} {l : Launch} {e : Env} {s : State} {m : MethodId} {below : List Frame} {meth : Method} {c : Code} {D : va_G} {cy : Nat → ClassId} {b0 b1 b2 i L : Nat} {xs : Nat → Int32} {CEL SLO : Nat} {x3 : Int32} {Rel Rel2 : ST → ST → Prop} (S : SIM_fresh Rel Rel2) (E : CL p m c s #[Value.ref b0] D cy) (hcs : CEL ≤ room_1.cells ∧ SLO ≤ room_1.slots) (hX : va_X b0 L xs s s.heap) (hbl : b0 < s.heap.size) (hx3 : x3 = nI i) (hiL : i + 6 ≤ L) (hL : L ≤ 3072) {σ τ : ST} {H : Heap} {locs : List Loc} {ls : Array Slot} (hR : Rel σ τ) (hw : LH D cy b1 b2 σ τ s H locs) (hl : lv_has ls 4 [(0, .ref b0), (1, .ref (b1 + 0)), (2, .ref (b2 + 0)), (3, .int x3)])
    (ih : ∀ (σ τ : ST) (H : Heap) (locs : List Loc) (ls : Array Slot), Rel2 σ τ → LH D cy b1 b2 σ τ s H locs → lv_has ls 4 [(0, .ref b0), (1, .ref (b1 + 0)), (2, .ref (b2 + 0)), (3, .int x3)] → W p l e room_1 s m #[Value.ref b0] below meth c H locs CEL SLO (lw_Z below #[Value.ref b0] s) (F0 m 1908 ls [])) :
    W p l e room_1 s m #[Value.ref b0] below meth c H locs CEL SLO (lw_Z below #[Value.ref b0] s) (F0 m 1480 ls []) := by
  have hx := E.1.1
  have hb := E.1.2.1
  have hbA : ¬ (fun q : Nat => s.heap.size ≤ q) b0 := Nat.not_le.mpr hbl
  obtain ⟨r, σ1, τ1, h1, h2, hR⟩ := S ((xs (x3 + 1).toNatClampNeg)) σ τ hR
  refine lv_aload_n hx hb dL_law_1480 rfl (lv_at hl 1 rfl) ?_
  refine lv_aload_n hx hb dL_law_1481 rfl (lv_at hl 0 rfl) ?_
  refine lv_iload_n hx hb dL_law_1482 rfl (lv_at hl 3 rfl) ?_
  refine lv_iconst (v := 1) hx hb dL_law_1483 (by decide) ?_
  refine lv_iadd hx hb dL_law_1484 ?_
  refine va_sld hx hb hX hbl hbA hw.2.2.1 (law_in (k := 1) hx3 hiL hL (by decide)) dL_law_1485 ?_
  refine law_c1 (rest := []) E hw mw_L_176 (c_X11_fresh h1 rfl) rfl rfl hl.1 (Nat.le_of_ble_eq_true rfl) ⟨Nat.le_of_ble_eq_true rfl, Nat.le_of_ble_eq_true rfl⟩ ⟨hcs.1, hcs.2⟩ dL_law_1486 (fun H locs hw => ?_)
  refine lv_aload_n hx hb dL_law_1489 rfl (lv_at hl 2 rfl) ?_
  refine lv_aload_n hx hb dL_law_1490 rfl (lv_at hl 0 rfl) ?_
  refine lv_iload_n hx hb dL_law_1491 rfl (lv_at hl 3 rfl) ?_
  refine lv_iconst (v := 1) hx hb dL_law_1492 (by decide) ?_
  refine lv_iadd hx hb dL_law_1493 ?_
  refine va_sld hx hb hX hbl hbA hw.2.2.1 (law_in (k := 1) hx3 hiL hL (by decide)) dL_law_1494 ?_
  refine law_c2 (rest := [.int r]) E hw mw_L_179 (c_X12_fresh h2 rfl) rfl rfl hl.1 (Nat.le_of_ble_eq_true rfl) ⟨Nat.le_of_ble_eq_true rfl, Nat.le_of_ble_eq_true rfl⟩ ⟨hcs.1, hcs.2⟩ dL_law_1495 (fun H locs hw => ?_)
  refine lv_icmp_eq (tgt := 1908) hx hb dL_law_1498 (by decide) (fun _ => ?_) (fun c1 => absurd rfl c1)
  exact ih _ _ _ _ _ hR hw hl
set_option maxRecDepth 20000 in
set_option maxHeartbeats 1000000 in
theorem law_late {p : Program} {l : Launch} {e : Env} {s : State} {m : MethodId} {below : List Frame} {meth : Method} {c : Code} {D : va_G} {cy : Nat → ClassId} {b0 b1 b2 i L : Nat} {xs : Nat → Int32} {CEL SLO : Nat} {x3 : Int32} {Rel Rel2 : ST → ST → Prop} (S : SIM_late Rel Rel2) (E : CL p m c s #[Value.ref b0] D cy) (hcs : CEL ≤ room_1.cells ∧ SLO ≤ room_1.slots) (hX : va_X b0 L xs s s.heap) (hbl : b0 < s.heap.size) (hx3 : x3 = nI i) (hiL : i + 6 ≤ L) (hL : L ≤ 3072) {σ τ : ST} {H : Heap} {locs : List Loc} {ls : Array Slot} (hR : Rel σ τ) (hw : LH D cy b1 b2 σ τ s H locs) (hl : lv_has ls 4 [(0, .ref b0), (1, .ref (b1 + 0)), (2, .ref (b2 + 0)), (3, .int x3)])
    (ih : ∀ (σ τ : ST) (H : Heap) (locs : List Loc) (ls : Array Slot), Rel2 σ τ → LH D cy b1 b2 σ τ s H locs → lv_has ls 4 [(0, .ref b0), (1, .ref (b1 + 0)), (2, .ref (b2 + 0)), (3, .int x3)] → W p l e room_1 s m #[Value.ref b0] below meth c H locs CEL SLO (lw_Z below #[Value.ref b0] s) (F0 m 1908 ls [])) :
    W p l e room_1 s m #[Value.ref b0] below meth c H locs CEL SLO (lw_Z below #[Value.ref b0] s) (F0 m 1503 ls []) := by
  have hx := E.1.1
  have hb := E.1.2.1
  have hbA : ¬ (fun q : Nat => s.heap.size ≤ q) b0 := Nat.not_le.mpr hbl
  obtain ⟨r, σ1, τ1, h1, h2, hR⟩ := S ((xs (x3 + 1).toNatClampNeg)) ((xs (x3 + 2).toNatClampNeg)) σ τ hR
  refine lv_aload_n hx hb dL_law_1503 rfl (lv_at hl 1 rfl) ?_
  refine lv_aload_n hx hb dL_law_1504 rfl (lv_at hl 0 rfl) ?_
  refine lv_iload_n hx hb dL_law_1505 rfl (lv_at hl 3 rfl) ?_
  refine lv_iconst (v := 1) hx hb dL_law_1506 (by decide) ?_
  refine lv_iadd hx hb dL_law_1507 ?_
  refine va_sld hx hb hX hbl hbA hw.2.2.1 (law_in (k := 1) hx3 hiL hL (by decide)) dL_law_1508 ?_
  refine lv_aload_n hx hb dL_law_1509 rfl (lv_at hl 0 rfl) ?_
  refine lv_iload_n hx hb dL_law_1510 rfl (lv_at hl 3 rfl) ?_
  refine lv_iconst (v := 2) hx hb dL_law_1511 (by decide) ?_
  refine lv_iadd hx hb dL_law_1512 ?_
  refine va_sld hx hb hX hbl hbA hw.2.2.1 (law_in (k := 2) hx3 hiL hL (by decide)) dL_law_1513 ?_
  refine law_c1 (rest := []) E hw mw_L_180 (c_X11_late h1 rfl) rfl rfl hl.1 (Nat.le_of_ble_eq_true rfl) ⟨Nat.le_of_ble_eq_true rfl, Nat.le_of_ble_eq_true rfl⟩ ⟨hcs.1, hcs.2⟩ dL_law_1514 (fun H locs hw => ?_)
  refine lv_aload_n hx hb dL_law_1517 rfl (lv_at hl 2 rfl) ?_
  refine lv_aload_n hx hb dL_law_1518 rfl (lv_at hl 0 rfl) ?_
  refine lv_iload_n hx hb dL_law_1519 rfl (lv_at hl 3 rfl) ?_
  refine lv_iconst (v := 1) hx hb dL_law_1520 (by decide) ?_
  refine lv_iadd hx hb dL_law_1521 ?_
  refine va_sld hx hb hX hbl hbA hw.2.2.1 (law_in (k := 1) hx3 hiL hL (by decide)) dL_law_1522 ?_
  refine lv_aload_n hx hb dL_law_1523 rfl (lv_at hl 0 rfl) ?_
  refine lv_iload_n hx hb dL_law_1524 rfl (lv_at hl 3 rfl) ?_
  refine lv_iconst (v := 2) hx hb dL_law_1525 (by decide) ?_
  refine lv_iadd hx hb dL_law_1526 ?_
  refine va_sld hx hb hX hbl hbA hw.2.2.1 (law_in (k := 2) hx3 hiL hL (by decide)) dL_law_1527 ?_
  refine law_c2 (rest := [.int r]) E hw mw_L_183 (c_X12_late h2 rfl) rfl rfl hl.1 (Nat.le_of_ble_eq_true rfl) ⟨Nat.le_of_ble_eq_true rfl, Nat.le_of_ble_eq_true rfl⟩ ⟨hcs.1, hcs.2⟩ dL_law_1528 (fun H locs hw => ?_)
  refine lv_icmp_eq (tgt := 1908) hx hb dL_law_1531 (by decide) (fun _ => ?_) (fun c1 => absurd rfl c1)
  exact ih _ _ _ _ _ hR hw hl
set_option maxRecDepth 20000 in
set_option maxHeartbeats 1000000 in
theorem law_load {p : Program} {l : Launch} {e : Env} {s : State} {m : MethodId} {below : List Frame} {meth : Method} {c : Code} {D : va_G} {cy : Nat → ClassId} {b0 b1 b2 i L : Nat} {xs : Nat → Int32} {CEL SLO : Nat} {x3 : Int32} {Rel Rel2 : ST → ST → Prop} (S : SIM_load Rel Rel2) (E : CL p m c s #[Value.ref b0] D cy) (hcs : CEL ≤ room_1.cells ∧ SLO ≤ room_1.slots) (hX : va_X b0 L xs s s.heap) (hbl : b0 < s.heap.size) (hx3 : x3 = nI i) (hiL : i + 6 ≤ L) (hL : L ≤ 3072) {σ τ : ST} {H : Heap} {locs : List Loc} {ls : Array Slot} (hR : Rel σ τ) (hw : LH D cy b1 b2 σ τ s H locs) (hl : lv_has ls 4 [(0, .ref b0), (1, .ref (b1 + 0)), (2, .ref (b2 + 0)), (3, .int x3)])
    (ih : ∀ (σ τ : ST) (H : Heap) (locs : List Loc) (ls : Array Slot), Rel2 σ τ → LH D cy b1 b2 σ τ s H locs → lv_has ls 4 [(0, .ref b0), (1, .ref (b1 + 0)), (2, .ref (b2 + 0)), (3, .int x3)] → W p l e room_1 s m #[Value.ref b0] below meth c H locs CEL SLO (lw_Z below #[Value.ref b0] s) (F0 m 1908 ls [])) :
    W p l e room_1 s m #[Value.ref b0] below meth c H locs CEL SLO (lw_Z below #[Value.ref b0] s) (F0 m 1536 ls []) := by
  have hx := E.1.1
  have hb := E.1.2.1
  have hbA : ¬ (fun q : Nat => s.heap.size ≤ q) b0 := Nat.not_le.mpr hbl
  obtain ⟨r, σ1, τ1, h1, h2, hR⟩ := S ((xs (x3 + 1).toNatClampNeg)) σ τ hR
  refine lv_aload_n hx hb dL_law_1536 rfl (lv_at hl 1 rfl) ?_
  refine lv_aload_n hx hb dL_law_1537 rfl (lv_at hl 0 rfl) ?_
  refine lv_iload_n hx hb dL_law_1538 rfl (lv_at hl 3 rfl) ?_
  refine lv_iconst (v := 1) hx hb dL_law_1539 (by decide) ?_
  refine lv_iadd hx hb dL_law_1540 ?_
  refine va_sld hx hb hX hbl hbA hw.2.2.1 (law_in (k := 1) hx3 hiL hL (by decide)) dL_law_1541 ?_
  refine law_c1 (rest := []) E hw mw_L_184 (c_X11_load h1 rfl) rfl rfl hl.1 (Nat.le_of_ble_eq_true rfl) ⟨Nat.le_of_ble_eq_true rfl, Nat.le_of_ble_eq_true rfl⟩ ⟨hcs.1, hcs.2⟩ dL_law_1542 (fun H locs hw => ?_)
  refine lv_aload_n hx hb dL_law_1545 rfl (lv_at hl 2 rfl) ?_
  refine lv_aload_n hx hb dL_law_1546 rfl (lv_at hl 0 rfl) ?_
  refine lv_iload_n hx hb dL_law_1547 rfl (lv_at hl 3 rfl) ?_
  refine lv_iconst (v := 1) hx hb dL_law_1548 (by decide) ?_
  refine lv_iadd hx hb dL_law_1549 ?_
  refine va_sld hx hb hX hbl hbA hw.2.2.1 (law_in (k := 1) hx3 hiL hL (by decide)) dL_law_1550 ?_
  refine law_c2 (rest := [.int r]) E hw mw_L_187 (c_X12_load h2 rfl) rfl rfl hl.1 (Nat.le_of_ble_eq_true rfl) ⟨Nat.le_of_ble_eq_true rfl, Nat.le_of_ble_eq_true rfl⟩ ⟨hcs.1, hcs.2⟩ dL_law_1551 (fun H locs hw => ?_)
  refine lv_icmp_eq (tgt := 1908) hx hb dL_law_1554 (by decide) (fun _ => ?_) (fun c1 => absurd rfl c1)
  exact ih _ _ _ _ _ hR hw hl
set_option maxRecDepth 20000 in
set_option maxHeartbeats 1000000 in
theorem law_moved {p : Program} {l : Launch} {e : Env} {s : State} {m : MethodId} {below : List Frame} {meth : Method} {c : Code} {D : va_G} {cy : Nat → ClassId} {b0 b1 b2 i L : Nat} {xs : Nat → Int32} {CEL SLO : Nat} {x3 : Int32} {Rel Rel2 : ST → ST → Prop} (S : SIM_moved Rel Rel2) (E : CL p m c s #[Value.ref b0] D cy) (hcs : CEL ≤ room_1.cells ∧ SLO ≤ room_1.slots) (hX : va_X b0 L xs s s.heap) (hbl : b0 < s.heap.size) (hx3 : x3 = nI i) (hiL : i + 6 ≤ L) (hL : L ≤ 3072) {σ τ : ST} {H : Heap} {locs : List Loc} {ls : Array Slot} (hR : Rel σ τ) (hw : LH D cy b1 b2 σ τ s H locs) (hl : lv_has ls 4 [(0, .ref b0), (1, .ref (b1 + 0)), (2, .ref (b2 + 0)), (3, .int x3)])
    (ih : ∀ (σ τ : ST) (H : Heap) (locs : List Loc) (ls : Array Slot), Rel2 σ τ → LH D cy b1 b2 σ τ s H locs → lv_has ls 4 [(0, .ref b0), (1, .ref (b1 + 0)), (2, .ref (b2 + 0)), (3, .int x3)] → W p l e room_1 s m #[Value.ref b0] below meth c H locs CEL SLO (lw_Z below #[Value.ref b0] s) (F0 m 1908 ls [])) :
    W p l e room_1 s m #[Value.ref b0] below meth c H locs CEL SLO (lw_Z below #[Value.ref b0] s) (F0 m 1559 ls []) := by
  have hx := E.1.1
  have hb := E.1.2.1
  have hbA : ¬ (fun q : Nat => s.heap.size ≤ q) b0 := Nat.not_le.mpr hbl
  obtain ⟨r, σ1, τ1, h1, h2, hR⟩ := S ((xs (x3 + 1).toNatClampNeg)) σ τ hR
  refine lv_aload_n hx hb dL_law_1559 rfl (lv_at hl 1 rfl) ?_
  refine lv_aload_n hx hb dL_law_1560 rfl (lv_at hl 0 rfl) ?_
  refine lv_iload_n hx hb dL_law_1561 rfl (lv_at hl 3 rfl) ?_
  refine lv_iconst (v := 1) hx hb dL_law_1562 (by decide) ?_
  refine lv_iadd hx hb dL_law_1563 ?_
  refine va_sld hx hb hX hbl hbA hw.2.2.1 (law_in (k := 1) hx3 hiL hL (by decide)) dL_law_1564 ?_
  refine law_c1 (rest := []) E hw mw_L_188 (c_X11_moved h1 rfl) rfl rfl hl.1 (Nat.le_of_ble_eq_true rfl) ⟨Nat.le_of_ble_eq_true rfl, Nat.le_of_ble_eq_true rfl⟩ ⟨hcs.1, hcs.2⟩ dL_law_1565 (fun H locs hw => ?_)
  refine lv_aload_n hx hb dL_law_1568 rfl (lv_at hl 2 rfl) ?_
  refine lv_aload_n hx hb dL_law_1569 rfl (lv_at hl 0 rfl) ?_
  refine lv_iload_n hx hb dL_law_1570 rfl (lv_at hl 3 rfl) ?_
  refine lv_iconst (v := 1) hx hb dL_law_1571 (by decide) ?_
  refine lv_iadd hx hb dL_law_1572 ?_
  refine va_sld hx hb hX hbl hbA hw.2.2.1 (law_in (k := 1) hx3 hiL hL (by decide)) dL_law_1573 ?_
  refine law_c2 (rest := [.int r]) E hw mw_L_191 (c_X12_moved h2 rfl) rfl rfl hl.1 (Nat.le_of_ble_eq_true rfl) ⟨Nat.le_of_ble_eq_true rfl, Nat.le_of_ble_eq_true rfl⟩ ⟨hcs.1, hcs.2⟩ dL_law_1574 (fun H locs hw => ?_)
  refine lv_icmp_eq (tgt := 1908) hx hb dL_law_1577 (by decide) (fun _ => ?_) (fun c1 => absurd rfl c1)
  exact ih _ _ _ _ _ hR hw hl
set_option maxRecDepth 20000 in
set_option maxHeartbeats 1000000 in
theorem law_nights {p : Program} {l : Launch} {e : Env} {s : State} {m : MethodId} {below : List Frame} {meth : Method} {c : Code} {D : va_G} {cy : Nat → ClassId} {b0 b1 b2 i L : Nat} {xs : Nat → Int32} {CEL SLO : Nat} {x3 : Int32} {Rel Rel2 : ST → ST → Prop} (S : SIM_nights Rel Rel2) (E : CL p m c s #[Value.ref b0] D cy) (hcs : CEL ≤ room_1.cells ∧ SLO ≤ room_1.slots) (hX : va_X b0 L xs s s.heap) (hbl : b0 < s.heap.size) (hx3 : x3 = nI i) (hiL : i + 6 ≤ L) (hL : L ≤ 3072) {σ τ : ST} {H : Heap} {locs : List Loc} {ls : Array Slot} (hR : Rel σ τ) (hw : LH D cy b1 b2 σ τ s H locs) (hl : lv_has ls 4 [(0, .ref b0), (1, .ref (b1 + 0)), (2, .ref (b2 + 0)), (3, .int x3)])
    (ih : ∀ (σ τ : ST) (H : Heap) (locs : List Loc) (ls : Array Slot), Rel2 σ τ → LH D cy b1 b2 σ τ s H locs → lv_has ls 4 [(0, .ref b0), (1, .ref (b1 + 0)), (2, .ref (b2 + 0)), (3, .int x3)] → W p l e room_1 s m #[Value.ref b0] below meth c H locs CEL SLO (lw_Z below #[Value.ref b0] s) (F0 m 1908 ls [])) :
    W p l e room_1 s m #[Value.ref b0] below meth c H locs CEL SLO (lw_Z below #[Value.ref b0] s) (F0 m 1582 ls []) := by
  have hx := E.1.1
  have hb := E.1.2.1
  have hbA : ¬ (fun q : Nat => s.heap.size ≤ q) b0 := Nat.not_le.mpr hbl
  obtain ⟨r, σ1, τ1, h1, h2, hR⟩ := S ((xs (x3 + 1).toNatClampNeg)) σ τ hR
  refine lv_aload_n hx hb dL_law_1582 rfl (lv_at hl 1 rfl) ?_
  refine lv_aload_n hx hb dL_law_1583 rfl (lv_at hl 0 rfl) ?_
  refine lv_iload_n hx hb dL_law_1584 rfl (lv_at hl 3 rfl) ?_
  refine lv_iconst (v := 1) hx hb dL_law_1585 (by decide) ?_
  refine lv_iadd hx hb dL_law_1586 ?_
  refine va_sld hx hb hX hbl hbA hw.2.2.1 (law_in (k := 1) hx3 hiL hL (by decide)) dL_law_1587 ?_
  refine law_c1 (rest := []) E hw mw_L_192 (c_X11_nights h1 rfl) rfl rfl hl.1 (Nat.le_of_ble_eq_true rfl) ⟨Nat.le_of_ble_eq_true rfl, Nat.le_of_ble_eq_true rfl⟩ ⟨hcs.1, hcs.2⟩ dL_law_1588 (fun H locs hw => ?_)
  refine lv_aload_n hx hb dL_law_1591 rfl (lv_at hl 2 rfl) ?_
  refine lv_aload_n hx hb dL_law_1592 rfl (lv_at hl 0 rfl) ?_
  refine lv_iload_n hx hb dL_law_1593 rfl (lv_at hl 3 rfl) ?_
  refine lv_iconst (v := 1) hx hb dL_law_1594 (by decide) ?_
  refine lv_iadd hx hb dL_law_1595 ?_
  refine va_sld hx hb hX hbl hbA hw.2.2.1 (law_in (k := 1) hx3 hiL hL (by decide)) dL_law_1596 ?_
  refine law_c2 (rest := [.int r]) E hw mw_L_195 (c_X12_nights h2 rfl) rfl rfl hl.1 (Nat.le_of_ble_eq_true rfl) ⟨Nat.le_of_ble_eq_true rfl, Nat.le_of_ble_eq_true rfl⟩ ⟨hcs.1, hcs.2⟩ dL_law_1597 (fun H locs hw => ?_)
  refine lv_icmp_eq (tgt := 1908) hx hb dL_law_1600 (by decide) (fun _ => ?_) (fun c1 => absurd rfl c1)
  exact ih _ _ _ _ _ hR hw hl
set_option maxRecDepth 20000 in
set_option maxHeartbeats 1000000 in
theorem law_safe {p : Program} {l : Launch} {e : Env} {s : State} {m : MethodId} {below : List Frame} {meth : Method} {c : Code} {D : va_G} {cy : Nat → ClassId} {b0 b1 b2 i L : Nat} {xs : Nat → Int32} {CEL SLO : Nat} {x3 : Int32} {Rel Rel2 : ST → ST → Prop} (S : SIM_safe Rel Rel2) (E : CL p m c s #[Value.ref b0] D cy) (hcs : CEL ≤ room_1.cells ∧ SLO ≤ room_1.slots) (hX : va_X b0 L xs s s.heap) (hbl : b0 < s.heap.size) (hx3 : x3 = nI i) (hiL : i + 6 ≤ L) (hL : L ≤ 3072) {σ τ : ST} {H : Heap} {locs : List Loc} {ls : Array Slot} (hR : Rel σ τ) (hw : LH D cy b1 b2 σ τ s H locs) (hl : lv_has ls 4 [(0, .ref b0), (1, .ref (b1 + 0)), (2, .ref (b2 + 0)), (3, .int x3)])
    (ih : ∀ (σ τ : ST) (H : Heap) (locs : List Loc) (ls : Array Slot), Rel2 σ τ → LH D cy b1 b2 σ τ s H locs → lv_has ls 4 [(0, .ref b0), (1, .ref (b1 + 0)), (2, .ref (b2 + 0)), (3, .int x3)] → W p l e room_1 s m #[Value.ref b0] below meth c H locs CEL SLO (lw_Z below #[Value.ref b0] s) (F0 m 1908 ls [])) :
    W p l e room_1 s m #[Value.ref b0] below meth c H locs CEL SLO (lw_Z below #[Value.ref b0] s) (F0 m 1605 ls []) := by
  have hx := E.1.1
  have hb := E.1.2.1
  have hbA : ¬ (fun q : Nat => s.heap.size ≤ q) b0 := Nat.not_le.mpr hbl
  obtain ⟨r, σ1, τ1, h1, h2, hR⟩ := S ((xs (x3 + 1).toNatClampNeg)) ((xs (x3 + 2).toNatClampNeg)) σ τ hR
  refine lv_aload_n hx hb dL_law_1605 rfl (lv_at hl 1 rfl) ?_
  refine lv_aload_n hx hb dL_law_1606 rfl (lv_at hl 0 rfl) ?_
  refine lv_iload_n hx hb dL_law_1607 rfl (lv_at hl 3 rfl) ?_
  refine lv_iconst (v := 1) hx hb dL_law_1608 (by decide) ?_
  refine lv_iadd hx hb dL_law_1609 ?_
  refine va_sld hx hb hX hbl hbA hw.2.2.1 (law_in (k := 1) hx3 hiL hL (by decide)) dL_law_1610 ?_
  refine lv_aload_n hx hb dL_law_1611 rfl (lv_at hl 0 rfl) ?_
  refine lv_iload_n hx hb dL_law_1612 rfl (lv_at hl 3 rfl) ?_
  refine lv_iconst (v := 2) hx hb dL_law_1613 (by decide) ?_
  refine lv_iadd hx hb dL_law_1614 ?_
  refine va_sld hx hb hX hbl hbA hw.2.2.1 (law_in (k := 2) hx3 hiL hL (by decide)) dL_law_1615 ?_
  refine law_c1 (rest := []) E hw mw_L_196 (c_X11_safe h1 rfl) rfl rfl hl.1 (Nat.le_of_ble_eq_true rfl) ⟨Nat.le_of_ble_eq_true rfl, Nat.le_of_ble_eq_true rfl⟩ ⟨hcs.1, hcs.2⟩ dL_law_1616 (fun H locs hw => ?_)
  refine lv_aload_n hx hb dL_law_1619 rfl (lv_at hl 2 rfl) ?_
  refine lv_aload_n hx hb dL_law_1620 rfl (lv_at hl 0 rfl) ?_
  refine lv_iload_n hx hb dL_law_1621 rfl (lv_at hl 3 rfl) ?_
  refine lv_iconst (v := 1) hx hb dL_law_1622 (by decide) ?_
  refine lv_iadd hx hb dL_law_1623 ?_
  refine va_sld hx hb hX hbl hbA hw.2.2.1 (law_in (k := 1) hx3 hiL hL (by decide)) dL_law_1624 ?_
  refine lv_aload_n hx hb dL_law_1625 rfl (lv_at hl 0 rfl) ?_
  refine lv_iload_n hx hb dL_law_1626 rfl (lv_at hl 3 rfl) ?_
  refine lv_iconst (v := 2) hx hb dL_law_1627 (by decide) ?_
  refine lv_iadd hx hb dL_law_1628 ?_
  refine va_sld hx hb hX hbl hbA hw.2.2.1 (law_in (k := 2) hx3 hiL hL (by decide)) dL_law_1629 ?_
  refine law_c2 (rest := [.int r]) E hw mw_L_199 (c_X12_safe h2 rfl) rfl rfl hl.1 (Nat.le_of_ble_eq_true rfl) ⟨Nat.le_of_ble_eq_true rfl, Nat.le_of_ble_eq_true rfl⟩ ⟨hcs.1, hcs.2⟩ dL_law_1630 (fun H locs hw => ?_)
  refine lv_icmp_eq (tgt := 1908) hx hb dL_law_1633 (by decide) (fun _ => ?_) (fun c1 => absurd rfl c1)
  exact ih _ _ _ _ _ hR hw hl
set_option maxRecDepth 20000 in
set_option maxHeartbeats 1000000 in
theorem law_holders {p : Program} {l : Launch} {e : Env} {s : State} {m : MethodId} {below : List Frame} {meth : Method} {c : Code} {D : va_G} {cy : Nat → ClassId} {b0 b1 b2 i L : Nat} {xs : Nat → Int32} {CEL SLO : Nat} {x3 : Int32} {Rel Rel2 : ST → ST → Prop} (S : SIM_holders Rel Rel2) (E : CL p m c s #[Value.ref b0] D cy) (hcs : CEL ≤ room_1.cells ∧ SLO ≤ room_1.slots) (hX : va_X b0 L xs s s.heap) (hbl : b0 < s.heap.size) (hx3 : x3 = nI i) (hiL : i + 6 ≤ L) (hL : L ≤ 3072) {σ τ : ST} {H : Heap} {locs : List Loc} {ls : Array Slot} (hR : Rel σ τ) (hw : LH D cy b1 b2 σ τ s H locs) (hl : lv_has ls 4 [(0, .ref b0), (1, .ref (b1 + 0)), (2, .ref (b2 + 0)), (3, .int x3)])
    (ih : ∀ (σ τ : ST) (H : Heap) (locs : List Loc) (ls : Array Slot), Rel2 σ τ → LH D cy b1 b2 σ τ s H locs → lv_has ls 4 [(0, .ref b0), (1, .ref (b1 + 0)), (2, .ref (b2 + 0)), (3, .int x3)] → W p l e room_1 s m #[Value.ref b0] below meth c H locs CEL SLO (lw_Z below #[Value.ref b0] s) (F0 m 1908 ls [])) :
    W p l e room_1 s m #[Value.ref b0] below meth c H locs CEL SLO (lw_Z below #[Value.ref b0] s) (F0 m 1638 ls []) := by
  have hx := E.1.1
  have hb := E.1.2.1
  have hbA : ¬ (fun q : Nat => s.heap.size ≤ q) b0 := Nat.not_le.mpr hbl
  obtain ⟨r, σ1, τ1, h1, h2, hR⟩ := S ((xs (x3 + 1).toNatClampNeg)) ((xs (x3 + 2).toNatClampNeg)) σ τ hR
  refine lv_aload_n hx hb dL_law_1638 rfl (lv_at hl 1 rfl) ?_
  refine lv_aload_n hx hb dL_law_1639 rfl (lv_at hl 0 rfl) ?_
  refine lv_iload_n hx hb dL_law_1640 rfl (lv_at hl 3 rfl) ?_
  refine lv_iconst (v := 1) hx hb dL_law_1641 (by decide) ?_
  refine lv_iadd hx hb dL_law_1642 ?_
  refine va_sld hx hb hX hbl hbA hw.2.2.1 (law_in (k := 1) hx3 hiL hL (by decide)) dL_law_1643 ?_
  refine lv_aload_n hx hb dL_law_1644 rfl (lv_at hl 0 rfl) ?_
  refine lv_iload_n hx hb dL_law_1645 rfl (lv_at hl 3 rfl) ?_
  refine lv_iconst (v := 2) hx hb dL_law_1646 (by decide) ?_
  refine lv_iadd hx hb dL_law_1647 ?_
  refine va_sld hx hb hX hbl hbA hw.2.2.1 (law_in (k := 2) hx3 hiL hL (by decide)) dL_law_1648 ?_
  refine law_c1 (rest := []) E hw mw_L_200 (c_X11_holders h1 rfl) rfl rfl hl.1 (Nat.le_of_ble_eq_true rfl) ⟨Nat.le_of_ble_eq_true rfl, Nat.le_of_ble_eq_true rfl⟩ ⟨hcs.1, hcs.2⟩ dL_law_1649 (fun H locs hw => ?_)
  refine lv_aload_n hx hb dL_law_1652 rfl (lv_at hl 2 rfl) ?_
  refine lv_aload_n hx hb dL_law_1653 rfl (lv_at hl 0 rfl) ?_
  refine lv_iload_n hx hb dL_law_1654 rfl (lv_at hl 3 rfl) ?_
  refine lv_iconst (v := 1) hx hb dL_law_1655 (by decide) ?_
  refine lv_iadd hx hb dL_law_1656 ?_
  refine va_sld hx hb hX hbl hbA hw.2.2.1 (law_in (k := 1) hx3 hiL hL (by decide)) dL_law_1657 ?_
  refine lv_aload_n hx hb dL_law_1658 rfl (lv_at hl 0 rfl) ?_
  refine lv_iload_n hx hb dL_law_1659 rfl (lv_at hl 3 rfl) ?_
  refine lv_iconst (v := 2) hx hb dL_law_1660 (by decide) ?_
  refine lv_iadd hx hb dL_law_1661 ?_
  refine va_sld hx hb hX hbl hbA hw.2.2.1 (law_in (k := 2) hx3 hiL hL (by decide)) dL_law_1662 ?_
  refine law_c2 (rest := [.int r]) E hw mw_L_203 (c_X12_holders h2 rfl) rfl rfl hl.1 (Nat.le_of_ble_eq_true rfl) ⟨Nat.le_of_ble_eq_true rfl, Nat.le_of_ble_eq_true rfl⟩ ⟨hcs.1, hcs.2⟩ dL_law_1663 (fun H locs hw => ?_)
  refine lv_icmp_eq (tgt := 1908) hx hb dL_law_1666 (by decide) (fun _ => ?_) (fun c1 => absurd rfl c1)
  exact ih _ _ _ _ _ hR hw hl
set_option maxRecDepth 20000 in
set_option maxHeartbeats 1000000 in
theorem law_lost {p : Program} {l : Launch} {e : Env} {s : State} {m : MethodId} {below : List Frame} {meth : Method} {c : Code} {D : va_G} {cy : Nat → ClassId} {b0 b1 b2 i L : Nat} {xs : Nat → Int32} {CEL SLO : Nat} {x3 : Int32} {Rel Rel2 : ST → ST → Prop} (S : SIM_lost Rel Rel2) (E : CL p m c s #[Value.ref b0] D cy) (hcs : CEL ≤ room_1.cells ∧ SLO ≤ room_1.slots) (hX : va_X b0 L xs s s.heap) (hbl : b0 < s.heap.size) (hx3 : x3 = nI i) (hiL : i + 6 ≤ L) (hL : L ≤ 3072) {σ τ : ST} {H : Heap} {locs : List Loc} {ls : Array Slot} (hR : Rel σ τ) (hw : LH D cy b1 b2 σ τ s H locs) (hl : lv_has ls 4 [(0, .ref b0), (1, .ref (b1 + 0)), (2, .ref (b2 + 0)), (3, .int x3)])
    (ih : ∀ (σ τ : ST) (H : Heap) (locs : List Loc) (ls : Array Slot), Rel2 σ τ → LH D cy b1 b2 σ τ s H locs → lv_has ls 4 [(0, .ref b0), (1, .ref (b1 + 0)), (2, .ref (b2 + 0)), (3, .int x3)] → W p l e room_1 s m #[Value.ref b0] below meth c H locs CEL SLO (lw_Z below #[Value.ref b0] s) (F0 m 1908 ls [])) :
    W p l e room_1 s m #[Value.ref b0] below meth c H locs CEL SLO (lw_Z below #[Value.ref b0] s) (F0 m 1671 ls []) := by
  have hx := E.1.1
  have hb := E.1.2.1
  have hbA : ¬ (fun q : Nat => s.heap.size ≤ q) b0 := Nat.not_le.mpr hbl
  obtain ⟨r, σ1, τ1, h1, h2, hR⟩ := S ((xs (x3 + 1).toNatClampNeg)) σ τ hR
  refine lv_aload_n hx hb dL_law_1671 rfl (lv_at hl 1 rfl) ?_
  refine lv_aload_n hx hb dL_law_1672 rfl (lv_at hl 0 rfl) ?_
  refine lv_iload_n hx hb dL_law_1673 rfl (lv_at hl 3 rfl) ?_
  refine lv_iconst (v := 1) hx hb dL_law_1674 (by decide) ?_
  refine lv_iadd hx hb dL_law_1675 ?_
  refine va_sld hx hb hX hbl hbA hw.2.2.1 (law_in (k := 1) hx3 hiL hL (by decide)) dL_law_1676 ?_
  refine law_c1 (rest := []) E hw mw_L_204 (c_X11_lost h1 rfl) rfl rfl hl.1 (Nat.le_of_ble_eq_true rfl) ⟨Nat.le_of_ble_eq_true rfl, Nat.le_of_ble_eq_true rfl⟩ ⟨hcs.1, hcs.2⟩ dL_law_1677 (fun H locs hw => ?_)
  refine lv_aload_n hx hb dL_law_1680 rfl (lv_at hl 2 rfl) ?_
  refine lv_aload_n hx hb dL_law_1681 rfl (lv_at hl 0 rfl) ?_
  refine lv_iload_n hx hb dL_law_1682 rfl (lv_at hl 3 rfl) ?_
  refine lv_iconst (v := 1) hx hb dL_law_1683 (by decide) ?_
  refine lv_iadd hx hb dL_law_1684 ?_
  refine va_sld hx hb hX hbl hbA hw.2.2.1 (law_in (k := 1) hx3 hiL hL (by decide)) dL_law_1685 ?_
  refine law_c2 (rest := [.int r]) E hw mw_L_207 (c_X12_lost h2 rfl) rfl rfl hl.1 (Nat.le_of_ble_eq_true rfl) ⟨Nat.le_of_ble_eq_true rfl, Nat.le_of_ble_eq_true rfl⟩ ⟨hcs.1, hcs.2⟩ dL_law_1686 (fun H locs hw => ?_)
  refine lv_icmp_eq (tgt := 1908) hx hb dL_law_1689 (by decide) (fun _ => ?_) (fun c1 => absurd rfl c1)
  exact ih _ _ _ _ _ hR hw hl
set_option maxRecDepth 20000 in
set_option maxHeartbeats 1000000 in
theorem law_answers {p : Program} {l : Launch} {e : Env} {s : State} {m : MethodId} {below : List Frame} {meth : Method} {c : Code} {D : va_G} {cy : Nat → ClassId} {b0 b1 b2 i L : Nat} {xs : Nat → Int32} {CEL SLO : Nat} {x3 : Int32} {Rel Rel2 : ST → ST → Prop} (S : SIM_answers Rel Rel2) (E : CL p m c s #[Value.ref b0] D cy) (hcs : CEL ≤ room_1.cells ∧ SLO ≤ room_1.slots) (hX : va_X b0 L xs s s.heap) (hbl : b0 < s.heap.size) (hx3 : x3 = nI i) (hiL : i + 6 ≤ L) (hL : L ≤ 3072) {σ τ : ST} {H : Heap} {locs : List Loc} {ls : Array Slot} (hR : Rel σ τ) (hw : LH D cy b1 b2 σ τ s H locs) (hl : lv_has ls 4 [(0, .ref b0), (1, .ref (b1 + 0)), (2, .ref (b2 + 0)), (3, .int x3)])
    (ih : ∀ (σ τ : ST) (H : Heap) (locs : List Loc) (ls : Array Slot), Rel2 σ τ → LH D cy b1 b2 σ τ s H locs → lv_has ls 4 [(0, .ref b0), (1, .ref (b1 + 0)), (2, .ref (b2 + 0)), (3, .int x3)] → W p l e room_1 s m #[Value.ref b0] below meth c H locs CEL SLO (lw_Z below #[Value.ref b0] s) (F0 m 1908 ls [])) :
    W p l e room_1 s m #[Value.ref b0] below meth c H locs CEL SLO (lw_Z below #[Value.ref b0] s) (F0 m 1694 ls []) := by
  have hx := E.1.1
  have hb := E.1.2.1
  have hbA : ¬ (fun q : Nat => s.heap.size ≤ q) b0 := Nat.not_le.mpr hbl
  obtain ⟨r, σ1, τ1, h1, h2, hR⟩ := S ((xs (x3 + 1).toNatClampNeg)) ((xs (x3 + 2).toNatClampNeg)) σ τ hR
  refine lv_aload_n hx hb dL_law_1694 rfl (lv_at hl 1 rfl) ?_
  refine lv_aload_n hx hb dL_law_1695 rfl (lv_at hl 0 rfl) ?_
  refine lv_iload_n hx hb dL_law_1696 rfl (lv_at hl 3 rfl) ?_
  refine lv_iconst (v := 1) hx hb dL_law_1697 (by decide) ?_
  refine lv_iadd hx hb dL_law_1698 ?_
  refine va_sld hx hb hX hbl hbA hw.2.2.1 (law_in (k := 1) hx3 hiL hL (by decide)) dL_law_1699 ?_
  refine lv_aload_n hx hb dL_law_1700 rfl (lv_at hl 0 rfl) ?_
  refine lv_iload_n hx hb dL_law_1701 rfl (lv_at hl 3 rfl) ?_
  refine lv_iconst (v := 2) hx hb dL_law_1702 (by decide) ?_
  refine lv_iadd hx hb dL_law_1703 ?_
  refine va_sld hx hb hX hbl hbA hw.2.2.1 (law_in (k := 2) hx3 hiL hL (by decide)) dL_law_1704 ?_
  refine law_c1 (rest := []) E hw mw_L_208 (c_X11_answers h1 rfl) rfl rfl hl.1 (Nat.le_of_ble_eq_true rfl) ⟨Nat.le_of_ble_eq_true rfl, Nat.le_of_ble_eq_true rfl⟩ ⟨hcs.1, hcs.2⟩ dL_law_1705 (fun H locs hw => ?_)
  refine lv_aload_n hx hb dL_law_1708 rfl (lv_at hl 2 rfl) ?_
  refine lv_aload_n hx hb dL_law_1709 rfl (lv_at hl 0 rfl) ?_
  refine lv_iload_n hx hb dL_law_1710 rfl (lv_at hl 3 rfl) ?_
  refine lv_iconst (v := 1) hx hb dL_law_1711 (by decide) ?_
  refine lv_iadd hx hb dL_law_1712 ?_
  refine va_sld hx hb hX hbl hbA hw.2.2.1 (law_in (k := 1) hx3 hiL hL (by decide)) dL_law_1713 ?_
  refine lv_aload_n hx hb dL_law_1714 rfl (lv_at hl 0 rfl) ?_
  refine lv_iload_n hx hb dL_law_1715 rfl (lv_at hl 3 rfl) ?_
  refine lv_iconst (v := 2) hx hb dL_law_1716 (by decide) ?_
  refine lv_iadd hx hb dL_law_1717 ?_
  refine va_sld hx hb hX hbl hbA hw.2.2.1 (law_in (k := 2) hx3 hiL hL (by decide)) dL_law_1718 ?_
  refine law_c2 (rest := [.int r]) E hw mw_L_211 (c_X12_answers h2 rfl) rfl rfl hl.1 (Nat.le_of_ble_eq_true rfl) ⟨Nat.le_of_ble_eq_true rfl, Nat.le_of_ble_eq_true rfl⟩ ⟨hcs.1, hcs.2⟩ dL_law_1719 (fun H locs hw => ?_)
  refine lv_icmp_eq (tgt := 1908) hx hb dL_law_1722 (by decide) (fun _ => ?_) (fun c1 => absurd rfl c1)
  exact ih _ _ _ _ _ hR hw hl
set_option maxRecDepth 20000 in
set_option maxHeartbeats 1000000 in
theorem law_odds {p : Program} {l : Launch} {e : Env} {s : State} {m : MethodId} {below : List Frame} {meth : Method} {c : Code} {D : va_G} {cy : Nat → ClassId} {b0 b1 b2 i L : Nat} {xs : Nat → Int32} {CEL SLO : Nat} {x3 : Int32} {Rel Rel2 : ST → ST → Prop} (S : SIM_odds Rel Rel2) (E : CL p m c s #[Value.ref b0] D cy) (hcs : CEL ≤ room_1.cells ∧ SLO ≤ room_1.slots) (hX : va_X b0 L xs s s.heap) (hbl : b0 < s.heap.size) (hx3 : x3 = nI i) (hiL : i + 6 ≤ L) (hL : L ≤ 3072) {σ τ : ST} {H : Heap} {locs : List Loc} {ls : Array Slot} (hR : Rel σ τ) (hw : LH D cy b1 b2 σ τ s H locs) (hl : lv_has ls 4 [(0, .ref b0), (1, .ref (b1 + 0)), (2, .ref (b2 + 0)), (3, .int x3)])
    (ih : ∀ (σ τ : ST) (H : Heap) (locs : List Loc) (ls : Array Slot), Rel2 σ τ → LH D cy b1 b2 σ τ s H locs → lv_has ls 4 [(0, .ref b0), (1, .ref (b1 + 0)), (2, .ref (b2 + 0)), (3, .int x3)] → W p l e room_1 s m #[Value.ref b0] below meth c H locs CEL SLO (lw_Z below #[Value.ref b0] s) (F0 m 1908 ls [])) :
    W p l e room_1 s m #[Value.ref b0] below meth c H locs CEL SLO (lw_Z below #[Value.ref b0] s) (F0 m 1727 ls []) := by
  have hx := E.1.1
  have hb := E.1.2.1
  have hbA : ¬ (fun q : Nat => s.heap.size ≤ q) b0 := Nat.not_le.mpr hbl
  obtain ⟨r, σ1, τ1, h1, h2, hR⟩ := S ((xs (x3 + 1).toNatClampNeg)) ((xs (x3 + 2).toNatClampNeg)) ((xs (x3 + 3).toNatClampNeg)) σ τ hR
  refine lv_aload_n hx hb dL_law_1727 rfl (lv_at hl 1 rfl) ?_
  refine lv_aload_n hx hb dL_law_1728 rfl (lv_at hl 0 rfl) ?_
  refine lv_iload_n hx hb dL_law_1729 rfl (lv_at hl 3 rfl) ?_
  refine lv_iconst (v := 1) hx hb dL_law_1730 (by decide) ?_
  refine lv_iadd hx hb dL_law_1731 ?_
  refine va_sld hx hb hX hbl hbA hw.2.2.1 (law_in (k := 1) hx3 hiL hL (by decide)) dL_law_1732 ?_
  refine lv_aload_n hx hb dL_law_1733 rfl (lv_at hl 0 rfl) ?_
  refine lv_iload_n hx hb dL_law_1734 rfl (lv_at hl 3 rfl) ?_
  refine lv_iconst (v := 2) hx hb dL_law_1735 (by decide) ?_
  refine lv_iadd hx hb dL_law_1736 ?_
  refine va_sld hx hb hX hbl hbA hw.2.2.1 (law_in (k := 2) hx3 hiL hL (by decide)) dL_law_1737 ?_
  refine lv_aload_n hx hb dL_law_1738 rfl (lv_at hl 0 rfl) ?_
  refine lv_iload_n hx hb dL_law_1739 rfl (lv_at hl 3 rfl) ?_
  refine lv_iconst (v := 3) hx hb dL_law_1740 (by decide) ?_
  refine lv_iadd hx hb dL_law_1741 ?_
  refine va_sld hx hb hX hbl hbA hw.2.2.1 (law_in (k := 3) hx3 hiL hL (by decide)) dL_law_1742 ?_
  refine law_c1 (rest := []) E hw mw_L_212 (c_X11_odds h1 rfl) rfl rfl hl.1 (Nat.le_of_ble_eq_true rfl) ⟨Nat.le_of_ble_eq_true rfl, Nat.le_of_ble_eq_true rfl⟩ ⟨hcs.1, hcs.2⟩ dL_law_1743 (fun H locs hw => ?_)
  refine lv_aload_n hx hb dL_law_1746 rfl (lv_at hl 2 rfl) ?_
  refine lv_aload_n hx hb dL_law_1747 rfl (lv_at hl 0 rfl) ?_
  refine lv_iload_n hx hb dL_law_1748 rfl (lv_at hl 3 rfl) ?_
  refine lv_iconst (v := 1) hx hb dL_law_1749 (by decide) ?_
  refine lv_iadd hx hb dL_law_1750 ?_
  refine va_sld hx hb hX hbl hbA hw.2.2.1 (law_in (k := 1) hx3 hiL hL (by decide)) dL_law_1751 ?_
  refine lv_aload_n hx hb dL_law_1752 rfl (lv_at hl 0 rfl) ?_
  refine lv_iload_n hx hb dL_law_1753 rfl (lv_at hl 3 rfl) ?_
  refine lv_iconst (v := 2) hx hb dL_law_1754 (by decide) ?_
  refine lv_iadd hx hb dL_law_1755 ?_
  refine va_sld hx hb hX hbl hbA hw.2.2.1 (law_in (k := 2) hx3 hiL hL (by decide)) dL_law_1756 ?_
  refine lv_aload_n hx hb dL_law_1757 rfl (lv_at hl 0 rfl) ?_
  refine lv_iload_n hx hb dL_law_1758 rfl (lv_at hl 3 rfl) ?_
  refine lv_iconst (v := 3) hx hb dL_law_1759 (by decide) ?_
  refine lv_iadd hx hb dL_law_1760 ?_
  refine va_sld hx hb hX hbl hbA hw.2.2.1 (law_in (k := 3) hx3 hiL hL (by decide)) dL_law_1761 ?_
  refine law_c2 (rest := [.int r]) E hw mw_L_215 (c_X12_odds h2 rfl) rfl rfl hl.1 (Nat.le_of_ble_eq_true rfl) ⟨Nat.le_of_ble_eq_true rfl, Nat.le_of_ble_eq_true rfl⟩ ⟨hcs.1, hcs.2⟩ dL_law_1762 (fun H locs hw => ?_)
  refine lv_icmp_eq (tgt := 1908) hx hb dL_law_1765 (by decide) (fun _ => ?_) (fun c1 => absurd rfl c1)
  exact ih _ _ _ _ _ hR hw hl
set_option maxRecDepth 20000 in
set_option maxHeartbeats 1000000 in
theorem law_fewestFalls {p : Program} {l : Launch} {e : Env} {s : State} {m : MethodId} {below : List Frame} {meth : Method} {c : Code} {D : va_G} {cy : Nat → ClassId} {b0 b1 b2 i L : Nat} {xs : Nat → Int32} {CEL SLO : Nat} {x3 : Int32} {Rel Rel2 : ST → ST → Prop} (S : SIM_fewestFalls Rel Rel2) (E : CL p m c s #[Value.ref b0] D cy) (hcs : CEL ≤ room_1.cells ∧ SLO ≤ room_1.slots) (hX : va_X b0 L xs s s.heap) (hbl : b0 < s.heap.size) (hx3 : x3 = nI i) (hiL : i + 6 ≤ L) (hL : L ≤ 3072) {σ τ : ST} {H : Heap} {locs : List Loc} {ls : Array Slot} (hR : Rel σ τ) (hw : LH D cy b1 b2 σ τ s H locs) (hl : lv_has ls 4 [(0, .ref b0), (1, .ref (b1 + 0)), (2, .ref (b2 + 0)), (3, .int x3)])
    (ih : ∀ (σ τ : ST) (H : Heap) (locs : List Loc) (ls : Array Slot), Rel2 σ τ → LH D cy b1 b2 σ τ s H locs → lv_has ls 4 [(0, .ref b0), (1, .ref (b1 + 0)), (2, .ref (b2 + 0)), (3, .int x3)] → W p l e room_1 s m #[Value.ref b0] below meth c H locs CEL SLO (lw_Z below #[Value.ref b0] s) (F0 m 1908 ls [])) :
    W p l e room_1 s m #[Value.ref b0] below meth c H locs CEL SLO (lw_Z below #[Value.ref b0] s) (F0 m 1770 ls []) := by
  have hx := E.1.1
  have hb := E.1.2.1
  have hbA : ¬ (fun q : Nat => s.heap.size ≤ q) b0 := Nat.not_le.mpr hbl
  obtain ⟨r, σ1, τ1, h1, h2, hR⟩ := S ((xs (x3 + 1).toNatClampNeg)) ((xs (x3 + 2).toNatClampNeg)) σ τ hR
  refine lv_aload_n hx hb dL_law_1770 rfl (lv_at hl 1 rfl) ?_
  refine lv_aload_n hx hb dL_law_1771 rfl (lv_at hl 0 rfl) ?_
  refine lv_iload_n hx hb dL_law_1772 rfl (lv_at hl 3 rfl) ?_
  refine lv_iconst (v := 1) hx hb dL_law_1773 (by decide) ?_
  refine lv_iadd hx hb dL_law_1774 ?_
  refine va_sld hx hb hX hbl hbA hw.2.2.1 (law_in (k := 1) hx3 hiL hL (by decide)) dL_law_1775 ?_
  refine lv_aload_n hx hb dL_law_1776 rfl (lv_at hl 0 rfl) ?_
  refine lv_iload_n hx hb dL_law_1777 rfl (lv_at hl 3 rfl) ?_
  refine lv_iconst (v := 2) hx hb dL_law_1778 (by decide) ?_
  refine lv_iadd hx hb dL_law_1779 ?_
  refine va_sld hx hb hX hbl hbA hw.2.2.1 (law_in (k := 2) hx3 hiL hL (by decide)) dL_law_1780 ?_
  refine law_c1 (rest := []) E hw mw_L_216 (c_X11_fewestFalls h1 rfl) rfl rfl hl.1 (Nat.le_of_ble_eq_true rfl) ⟨Nat.le_of_ble_eq_true rfl, Nat.le_of_ble_eq_true rfl⟩ ⟨hcs.1, hcs.2⟩ dL_law_1781 (fun H locs hw => ?_)
  refine lv_aload_n hx hb dL_law_1784 rfl (lv_at hl 2 rfl) ?_
  refine lv_aload_n hx hb dL_law_1785 rfl (lv_at hl 0 rfl) ?_
  refine lv_iload_n hx hb dL_law_1786 rfl (lv_at hl 3 rfl) ?_
  refine lv_iconst (v := 1) hx hb dL_law_1787 (by decide) ?_
  refine lv_iadd hx hb dL_law_1788 ?_
  refine va_sld hx hb hX hbl hbA hw.2.2.1 (law_in (k := 1) hx3 hiL hL (by decide)) dL_law_1789 ?_
  refine lv_aload_n hx hb dL_law_1790 rfl (lv_at hl 0 rfl) ?_
  refine lv_iload_n hx hb dL_law_1791 rfl (lv_at hl 3 rfl) ?_
  refine lv_iconst (v := 2) hx hb dL_law_1792 (by decide) ?_
  refine lv_iadd hx hb dL_law_1793 ?_
  refine va_sld hx hb hX hbl hbA hw.2.2.1 (law_in (k := 2) hx3 hiL hL (by decide)) dL_law_1794 ?_
  refine law_c2 (rest := [.int r]) E hw mw_L_219 (c_X12_fewestFalls h2 rfl) rfl rfl hl.1 (Nat.le_of_ble_eq_true rfl) ⟨Nat.le_of_ble_eq_true rfl, Nat.le_of_ble_eq_true rfl⟩ ⟨hcs.1, hcs.2⟩ dL_law_1795 (fun H locs hw => ?_)
  refine lv_icmp_eq (tgt := 1908) hx hb dL_law_1798 (by decide) (fun _ => ?_) (fun c1 => absurd rfl c1)
  exact ih _ _ _ _ _ hR hw hl
set_option maxRecDepth 20000 in
set_option maxHeartbeats 1000000 in
theorem law_live {p : Program} {l : Launch} {e : Env} {s : State} {m : MethodId} {below : List Frame} {meth : Method} {c : Code} {D : va_G} {cy : Nat → ClassId} {b0 b1 b2 i L : Nat} {xs : Nat → Int32} {CEL SLO : Nat} {x3 : Int32} {Rel Rel2 : ST → ST → Prop} (S : SIM_live Rel Rel2) (E : CL p m c s #[Value.ref b0] D cy) (hcs : CEL ≤ room_1.cells ∧ SLO ≤ room_1.slots) (hX : va_X b0 L xs s s.heap) (hbl : b0 < s.heap.size) (hx3 : x3 = nI i) (hiL : i + 6 ≤ L) (hL : L ≤ 3072) {σ τ : ST} {H : Heap} {locs : List Loc} {ls : Array Slot} (hR : Rel σ τ) (hw : LH D cy b1 b2 σ τ s H locs) (hl : lv_has ls 4 [(0, .ref b0), (1, .ref (b1 + 0)), (2, .ref (b2 + 0)), (3, .int x3)])
    (ih : ∀ (σ τ : ST) (H : Heap) (locs : List Loc) (ls : Array Slot), Rel2 σ τ → LH D cy b1 b2 σ τ s H locs → lv_has ls 4 [(0, .ref b0), (1, .ref (b1 + 0)), (2, .ref (b2 + 0)), (3, .int x3)] → W p l e room_1 s m #[Value.ref b0] below meth c H locs CEL SLO (lw_Z below #[Value.ref b0] s) (F0 m 1908 ls [])) :
    W p l e room_1 s m #[Value.ref b0] below meth c H locs CEL SLO (lw_Z below #[Value.ref b0] s) (F0 m 1803 ls []) := by
  have hx := E.1.1
  have hb := E.1.2.1
  have hbA : ¬ (fun q : Nat => s.heap.size ≤ q) b0 := Nat.not_le.mpr hbl
  obtain ⟨r, σ1, τ1, h1, h2, hR⟩ := S ((xs (x3 + 1).toNatClampNeg)) σ τ hR
  refine lv_aload_n hx hb dL_law_1803 rfl (lv_at hl 1 rfl) ?_
  refine lv_aload_n hx hb dL_law_1804 rfl (lv_at hl 0 rfl) ?_
  refine lv_iload_n hx hb dL_law_1805 rfl (lv_at hl 3 rfl) ?_
  refine lv_iconst (v := 1) hx hb dL_law_1806 (by decide) ?_
  refine lv_iadd hx hb dL_law_1807 ?_
  refine va_sld hx hb hX hbl hbA hw.2.2.1 (law_in (k := 1) hx3 hiL hL (by decide)) dL_law_1808 ?_
  refine law_c1 (rest := []) E hw mw_L_220 (c_X11_live h1 rfl) rfl rfl hl.1 (Nat.le_of_ble_eq_true rfl) ⟨Nat.le_of_ble_eq_true rfl, Nat.le_of_ble_eq_true rfl⟩ ⟨hcs.1, hcs.2⟩ dL_law_1809 (fun H locs hw => ?_)
  refine lv_aload_n hx hb dL_law_1812 rfl (lv_at hl 2 rfl) ?_
  refine lv_aload_n hx hb dL_law_1813 rfl (lv_at hl 0 rfl) ?_
  refine lv_iload_n hx hb dL_law_1814 rfl (lv_at hl 3 rfl) ?_
  refine lv_iconst (v := 1) hx hb dL_law_1815 (by decide) ?_
  refine lv_iadd hx hb dL_law_1816 ?_
  refine va_sld hx hb hX hbl hbA hw.2.2.1 (law_in (k := 1) hx3 hiL hL (by decide)) dL_law_1817 ?_
  refine law_c2 (rest := [.int r]) E hw mw_L_223 (c_X12_live h2 rfl) rfl rfl hl.1 (Nat.le_of_ble_eq_true rfl) ⟨Nat.le_of_ble_eq_true rfl, Nat.le_of_ble_eq_true rfl⟩ ⟨hcs.1, hcs.2⟩ dL_law_1818 (fun H locs hw => ?_)
  refine lv_icmp_eq (tgt := 1908) hx hb dL_law_1821 (by decide) (fun _ => ?_) (fun c1 => absurd rfl c1)
  exact ih _ _ _ _ _ hR hw hl
set_option maxRecDepth 20000 in
set_option maxHeartbeats 1000000 in
theorem law_lived {p : Program} {l : Launch} {e : Env} {s : State} {m : MethodId} {below : List Frame} {meth : Method} {c : Code} {D : va_G} {cy : Nat → ClassId} {b0 b1 b2 i L : Nat} {xs : Nat → Int32} {CEL SLO : Nat} {x3 : Int32} {Rel Rel2 : ST → ST → Prop} (S : SIM_lived Rel Rel2) (E : CL p m c s #[Value.ref b0] D cy) (hcs : CEL ≤ room_1.cells ∧ SLO ≤ room_1.slots) (hX : va_X b0 L xs s s.heap) (hbl : b0 < s.heap.size) (hx3 : x3 = nI i) (hiL : i + 6 ≤ L) (hL : L ≤ 3072) {σ τ : ST} {H : Heap} {locs : List Loc} {ls : Array Slot} (hR : Rel σ τ) (hw : LH D cy b1 b2 σ τ s H locs) (hl : lv_has ls 4 [(0, .ref b0), (1, .ref (b1 + 0)), (2, .ref (b2 + 0)), (3, .int x3)])
    (ih : ∀ (σ τ : ST) (H : Heap) (locs : List Loc) (ls : Array Slot), Rel2 σ τ → LH D cy b1 b2 σ τ s H locs → lv_has ls 4 [(0, .ref b0), (1, .ref (b1 + 0)), (2, .ref (b2 + 0)), (3, .int x3)] → W p l e room_1 s m #[Value.ref b0] below meth c H locs CEL SLO (lw_Z below #[Value.ref b0] s) (F0 m 1908 ls [])) :
    W p l e room_1 s m #[Value.ref b0] below meth c H locs CEL SLO (lw_Z below #[Value.ref b0] s) (F0 m 1826 ls []) := by
  have hx := E.1.1
  have hb := E.1.2.1
  have hbA : ¬ (fun q : Nat => s.heap.size ≤ q) b0 := Nat.not_le.mpr hbl
  obtain ⟨r, σ1, τ1, h1, h2, hR⟩ := S ((xs (x3 + 1).toNatClampNeg)) σ τ hR
  refine lv_aload_n hx hb dL_law_1826 rfl (lv_at hl 1 rfl) ?_
  refine lv_aload_n hx hb dL_law_1827 rfl (lv_at hl 0 rfl) ?_
  refine lv_iload_n hx hb dL_law_1828 rfl (lv_at hl 3 rfl) ?_
  refine lv_iconst (v := 1) hx hb dL_law_1829 (by decide) ?_
  refine lv_iadd hx hb dL_law_1830 ?_
  refine va_sld hx hb hX hbl hbA hw.2.2.1 (law_in (k := 1) hx3 hiL hL (by decide)) dL_law_1831 ?_
  refine law_c1 (rest := []) E hw mw_L_224 (c_X11_lived h1 rfl) rfl rfl hl.1 (Nat.le_of_ble_eq_true rfl) ⟨Nat.le_of_ble_eq_true rfl, Nat.le_of_ble_eq_true rfl⟩ ⟨hcs.1, hcs.2⟩ dL_law_1832 (fun H locs hw => ?_)
  refine lv_aload_n hx hb dL_law_1835 rfl (lv_at hl 2 rfl) ?_
  refine lv_aload_n hx hb dL_law_1836 rfl (lv_at hl 0 rfl) ?_
  refine lv_iload_n hx hb dL_law_1837 rfl (lv_at hl 3 rfl) ?_
  refine lv_iconst (v := 1) hx hb dL_law_1838 (by decide) ?_
  refine lv_iadd hx hb dL_law_1839 ?_
  refine va_sld hx hb hX hbl hbA hw.2.2.1 (law_in (k := 1) hx3 hiL hL (by decide)) dL_law_1840 ?_
  refine law_c2 (rest := [.int r]) E hw mw_L_227 (c_X12_lived h2 rfl) rfl rfl hl.1 (Nat.le_of_ble_eq_true rfl) ⟨Nat.le_of_ble_eq_true rfl, Nat.le_of_ble_eq_true rfl⟩ ⟨hcs.1, hcs.2⟩ dL_law_1841 (fun H locs hw => ?_)
  refine lv_icmp_eq (tgt := 1908) hx hb dL_law_1844 (by decide) (fun _ => ?_) (fun c1 => absurd rfl c1)
  exact ih _ _ _ _ _ hR hw hl
set_option maxRecDepth 20000 in
set_option maxHeartbeats 1000000 in
theorem law_agreed {p : Program} {l : Launch} {e : Env} {s : State} {m : MethodId} {below : List Frame} {meth : Method} {c : Code} {D : va_G} {cy : Nat → ClassId} {b0 b1 b2 i L : Nat} {xs : Nat → Int32} {CEL SLO : Nat} {x3 : Int32} {Rel Rel2 : ST → ST → Prop} (S : SIM_agreed Rel Rel2) (E : CL p m c s #[Value.ref b0] D cy) (hcs : CEL ≤ room_1.cells ∧ SLO ≤ room_1.slots) (hX : va_X b0 L xs s s.heap) (hbl : b0 < s.heap.size) (hx3 : x3 = nI i) (hiL : i + 6 ≤ L) (hL : L ≤ 3072) {σ τ : ST} {H : Heap} {locs : List Loc} {ls : Array Slot} (hR : Rel σ τ) (hw : LH D cy b1 b2 σ τ s H locs) (hl : lv_has ls 4 [(0, .ref b0), (1, .ref (b1 + 0)), (2, .ref (b2 + 0)), (3, .int x3)])
    (ih : ∀ (σ τ : ST) (H : Heap) (locs : List Loc) (ls : Array Slot), Rel2 σ τ → LH D cy b1 b2 σ τ s H locs → lv_has ls 4 [(0, .ref b0), (1, .ref (b1 + 0)), (2, .ref (b2 + 0)), (3, .int x3)] → W p l e room_1 s m #[Value.ref b0] below meth c H locs CEL SLO (lw_Z below #[Value.ref b0] s) (F0 m 1908 ls [])) :
    W p l e room_1 s m #[Value.ref b0] below meth c H locs CEL SLO (lw_Z below #[Value.ref b0] s) (F0 m 1849 ls []) := by
  have hx := E.1.1
  have hb := E.1.2.1
  have hbA : ¬ (fun q : Nat => s.heap.size ≤ q) b0 := Nat.not_le.mpr hbl
  obtain ⟨r, σ1, τ1, h1, h2, hR⟩ := S ((xs (x3 + 1).toNatClampNeg)) ((xs (x3 + 2).toNatClampNeg)) σ τ hR
  refine lv_aload_n hx hb dL_law_1849 rfl (lv_at hl 1 rfl) ?_
  refine lv_aload_n hx hb dL_law_1850 rfl (lv_at hl 0 rfl) ?_
  refine lv_iload_n hx hb dL_law_1851 rfl (lv_at hl 3 rfl) ?_
  refine lv_iconst (v := 1) hx hb dL_law_1852 (by decide) ?_
  refine lv_iadd hx hb dL_law_1853 ?_
  refine va_sld hx hb hX hbl hbA hw.2.2.1 (law_in (k := 1) hx3 hiL hL (by decide)) dL_law_1854 ?_
  refine lv_aload_n hx hb dL_law_1855 rfl (lv_at hl 0 rfl) ?_
  refine lv_iload_n hx hb dL_law_1856 rfl (lv_at hl 3 rfl) ?_
  refine lv_iconst (v := 2) hx hb dL_law_1857 (by decide) ?_
  refine lv_iadd hx hb dL_law_1858 ?_
  refine va_sld hx hb hX hbl hbA hw.2.2.1 (law_in (k := 2) hx3 hiL hL (by decide)) dL_law_1859 ?_
  refine law_c1 (rest := []) E hw mw_L_228 (c_X11_agreed h1 rfl) rfl rfl hl.1 (Nat.le_of_ble_eq_true rfl) ⟨Nat.le_of_ble_eq_true rfl, Nat.le_of_ble_eq_true rfl⟩ ⟨hcs.1, hcs.2⟩ dL_law_1860 (fun H locs hw => ?_)
  refine lv_aload_n hx hb dL_law_1863 rfl (lv_at hl 2 rfl) ?_
  refine lv_aload_n hx hb dL_law_1864 rfl (lv_at hl 0 rfl) ?_
  refine lv_iload_n hx hb dL_law_1865 rfl (lv_at hl 3 rfl) ?_
  refine lv_iconst (v := 1) hx hb dL_law_1866 (by decide) ?_
  refine lv_iadd hx hb dL_law_1867 ?_
  refine va_sld hx hb hX hbl hbA hw.2.2.1 (law_in (k := 1) hx3 hiL hL (by decide)) dL_law_1868 ?_
  refine lv_aload_n hx hb dL_law_1869 rfl (lv_at hl 0 rfl) ?_
  refine lv_iload_n hx hb dL_law_1870 rfl (lv_at hl 3 rfl) ?_
  refine lv_iconst (v := 2) hx hb dL_law_1871 (by decide) ?_
  refine lv_iadd hx hb dL_law_1872 ?_
  refine va_sld hx hb hX hbl hbA hw.2.2.1 (law_in (k := 2) hx3 hiL hL (by decide)) dL_law_1873 ?_
  refine law_c2 (rest := [.int r]) E hw mw_L_232 (c_X12_agreed h2 rfl) rfl rfl hl.1 (Nat.le_of_ble_eq_true rfl) ⟨Nat.le_of_ble_eq_true rfl, Nat.le_of_ble_eq_true rfl⟩ ⟨hcs.1, hcs.2⟩ dL_law_1874 (fun H locs hw => ?_)
  refine lv_icmp_eq (tgt := 1908) hx hb dL_law_1877 (by decide) (fun _ => ?_) (fun c1 => absurd rfl c1)
  exact ih _ _ _ _ _ hR hw hl
set_option maxRecDepth 20000 in
set_option maxHeartbeats 1000000 in
theorem law_mark {p : Program} {l : Launch} {e : Env} {s : State} {m : MethodId} {below : List Frame} {meth : Method} {c : Code} {D : va_G} {cy : Nat → ClassId} {b0 b1 b2 i L : Nat} {xs : Nat → Int32} {CEL SLO : Nat} {x3 : Int32} {Rel Rel2 : ST → ST → Prop} (S : SIM_mark Rel Rel2) (E : CL p m c s #[Value.ref b0] D cy) (hcs : CEL ≤ room_1.cells ∧ SLO ≤ room_1.slots) (hX : va_X b0 L xs s s.heap) (hbl : b0 < s.heap.size) (hx3 : x3 = nI i) (hiL : i + 6 ≤ L) (hL : L ≤ 3072) {σ τ : ST} {H : Heap} {locs : List Loc} {ls : Array Slot} (hR : Rel σ τ) (hw : LH D cy b1 b2 σ τ s H locs) (hl : lv_has ls 4 [(0, .ref b0), (1, .ref (b1 + 0)), (2, .ref (b2 + 0)), (3, .int x3)])
    (ih : ∀ (σ τ : ST) (H : Heap) (locs : List Loc) (ls : Array Slot), Rel2 σ τ → LH D cy b1 b2 σ τ s H locs → lv_has ls 4 [(0, .ref b0), (1, .ref (b1 + 0)), (2, .ref (b2 + 0)), (3, .int x3)] → W p l e room_1 s m #[Value.ref b0] below meth c H locs CEL SLO (lw_Z below #[Value.ref b0] s) (F0 m 1908 ls [])) :
    W p l e room_1 s m #[Value.ref b0] below meth c H locs CEL SLO (lw_Z below #[Value.ref b0] s) (F0 m 1882 ls []) := by
  have hx := E.1.1
  have hb := E.1.2.1
  have hbA : ¬ (fun q : Nat => s.heap.size ≤ q) b0 := Nat.not_le.mpr hbl
  obtain ⟨r, σ1, τ1, h1, h2, hR⟩ := S σ τ hR
  refine lv_aload_n hx hb dL_law_1882 rfl (lv_at hl 1 rfl) ?_
  refine law_c1 (rest := []) E hw mw_L_233 (c_X11_mark h1 rfl) rfl rfl hl.1 (Nat.le_of_ble_eq_true rfl) ⟨Nat.le_of_ble_eq_true rfl, Nat.le_of_ble_eq_true rfl⟩ ⟨hcs.1, hcs.2⟩ dL_law_1883 (fun H locs hw => ?_)
  refine lv_aload_n hx hb dL_law_1886 rfl (lv_at hl 2 rfl) ?_
  refine law_c2 (rest := [.int r]) E hw mw_L_236 (c_X12_mark h2 rfl) rfl rfl hl.1 (Nat.le_of_ble_eq_true rfl) ⟨Nat.le_of_ble_eq_true rfl, Nat.le_of_ble_eq_true rfl⟩ ⟨hcs.1, hcs.2⟩ dL_law_1887 (fun H locs hw => ?_)
  refine lv_icmp_eq (tgt := 1908) hx hb dL_law_1890 (by decide) (fun _ => ?_) (fun c1 => absurd rfl c1)
  exact ih _ _ _ _ _ hR hw hl
set_option maxRecDepth 20000 in
set_option maxHeartbeats 1000000 in
theorem law_back {p : Program} {l : Launch} {e : Env} {s : State} {m : MethodId} {below : List Frame} {meth : Method} {c : Code} {D : va_G} {cy : Nat → ClassId} {b0 b1 b2 i L : Nat} {xs : Nat → Int32} {CEL SLO : Nat} {x3 : Int32} {Rel Rel2 : ST → ST → Prop} (S : SIM_back Rel Rel2) (E : CL p m c s #[Value.ref b0] D cy) (hcs : CEL ≤ room_1.cells ∧ SLO ≤ room_1.slots) (hX : va_X b0 L xs s s.heap) (hbl : b0 < s.heap.size) (hx3 : x3 = nI i) (hiL : i + 6 ≤ L) (hL : L ≤ 3072) {σ τ : ST} {H : Heap} {locs : List Loc} {ls : Array Slot} (hR : Rel σ τ) (hw : LH D cy b1 b2 σ τ s H locs) (hl : lv_has ls 4 [(0, .ref b0), (1, .ref (b1 + 0)), (2, .ref (b2 + 0)), (3, .int x3)])
    (ih : ∀ (σ τ : ST) (H : Heap) (locs : List Loc) (ls : Array Slot), Rel2 σ τ → LH D cy b1 b2 σ τ s H locs → lv_has ls 4 [(0, .ref b0), (1, .ref (b1 + 0)), (2, .ref (b2 + 0)), (3, .int x3)] → W p l e room_1 s m #[Value.ref b0] below meth c H locs CEL SLO (lw_Z below #[Value.ref b0] s) (F0 m 1908 ls [])) :
    W p l e room_1 s m #[Value.ref b0] below meth c H locs CEL SLO (lw_Z below #[Value.ref b0] s) (F0 m 1895 ls []) := by
  have hx := E.1.1
  have hb := E.1.2.1
  have hbA : ¬ (fun q : Nat => s.heap.size ≤ q) b0 := Nat.not_le.mpr hbl
  obtain ⟨r, σ1, τ1, h1, h2, hR⟩ := S σ τ hR
  refine lv_aload_n hx hb dL_law_1895 rfl (lv_at hl 1 rfl) ?_
  refine law_c1 (rest := []) E hw mw_L_237 (c_X11_back h1 rfl) rfl rfl hl.1 (Nat.le_of_ble_eq_true rfl) ⟨Nat.le_of_ble_eq_true rfl, Nat.le_of_ble_eq_true rfl⟩ ⟨hcs.1, hcs.2⟩ dL_law_1896 (fun H locs hw => ?_)
  refine lv_aload_n hx hb dL_law_1899 rfl (lv_at hl 2 rfl) ?_
  refine law_c2 (rest := [.int r]) E hw mw_L_240 (c_X12_back h2 rfl) rfl rfl hl.1 (Nat.le_of_ble_eq_true rfl) ⟨Nat.le_of_ble_eq_true rfl, Nat.le_of_ble_eq_true rfl⟩ ⟨hcs.1, hcs.2⟩ dL_law_1900 (fun H locs hw => ?_)
  refine lv_icmp_eq (tgt := 1908) hx hb dL_law_1903 (by decide) (fun _ => ?_) (fun c1 => absurd rfl c1)
  exact ih _ _ _ _ _ hR hw hl
