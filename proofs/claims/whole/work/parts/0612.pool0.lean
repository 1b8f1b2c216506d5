theorem arrV_ext {cI : ClassId} {N : Nat} {f g : Nat → Value} (h : ∀ j, j < N → f j = g j) : arrV cI N f = arrV cI N g := by
  unfold arrV
  congr 2
  funext j
  exact h j.1 j.2
theorem ZH_n1 {D : va_G} {H : Heap} {w v : va_W} {c0 c1 : Nat × va_E} {a n z : Nat} {s : State} {locs : List Loc} (h : ZH D (c0 :: ((c1 :: w) ++ v)) a n z s H locs) : ZH D (c0 :: c1 :: (w ++ v)) a n z s H locs := h
theorem ZH_n2 {D : va_G} {H : Heap} {w v : va_W} {c0 c1 c2 : Nat × va_E} {a n z : Nat} {s : State} {locs : List Loc} (h : ZH D (c0 :: ((c1 :: c2 :: w) ++ v)) a n z s H locs) : ZH D (c0 :: c1 :: c2 :: (w ++ v)) a n z s H locs := h
def iniI (κ k : Nat) : Int32 := match κ, k with
  | 6, 2 => -1 | 6, 3 => -1 | 6, 8 => -1
  | 7, 9 => 3 | 7, 10 => 1 | 7, 11 => 1
  | 4, 1 => -1
  | 11, 19 => -1
  | 12, 16 => -1 | 12, 17 => -1 | 12, 28 => -1
  | _, _ => 0
def iniJ (κ k : Nat) : Int64 := match κ, k with
  | 6, 9 => -1
  | 11, 16 => 1
  | 12, 4 => 1
  | _, _ => 0
def s0C : ST := (fun x k => iniI (KC x) k, fun x k => iniJ (KC x) k, fun _ _ => 0, fun _ _ => 0)
def s0R : ST := (fun x k => iniI (KR x) k, fun x k => iniJ (KR x) k, fun x => if x = 4 then upd (upd (upd (upd (fun _ => 0) 0 (-1)) 1 (-1)) 2 (-1)) 3 (-1) else fun _ => 0, fun _ _ => 0)
theorem at_13 {D : va_G} {cy : Nat → ClassId} {a x n : Nat} {H : Heap} (h1 : LC.1 x = 13) (h2 : LC.2.2.1 x = n) (h : va_at D vwCl (a + x, .inl (cy 0, n, .inl (fun _ => 0))) H) : va_at D vwCl (a + x, CE cy LC a s0C x) H := by
  rw [CE_13 h1, h2]; exact h
theorem at_14 {D : va_G} {cy : Nat → ClassId} {a x n : Nat} {H : Heap} (h1 : LC.1 x = 14) (h2 : LC.2.2.1 x = n) (h : va_at D vwCl (a + x, .inl (cy 1, n, .inr (.inl (fun _ => 0)))) H) : va_at D vwCl (a + x, CE cy LC a s0C x) H := by
  rw [CE_14 h1, h2]; exact h
theorem at_16 {D : va_G} {cy : Nat → ClassId} {a x n : Nat} {H : Heap} (h1 : LC.1 x = 16) (h2 : LC.2.2.1 x = n) (h : va_at D vwCl (a + x, .inl (cy 3, n, .inl (fun _ => 0))) H) : va_at D vwCl (a + x, CE cy LC a s0C x) H := by
  rw [CE_16 h1, h2]; exact h
theorem at_ob {D : va_G} {cy : Nat → ClassId} {a x κ : Nat} {fs : List Value} {H : Heap} (h1 : LC.1 x = κ) (hκ : κ < 13) (h2 : fsC LC a s0C x κ = fs) (h : va_at D vwCl (a + x, .inr (κ, fs)) H) : va_at D vwCl (a + x, CE cy LC a s0C x) H := by
  rw [CE_obj h1 hκ, h2]; exact h
set_option maxRecDepth 20000 in
set_option maxHeartbeats 4000000 in
theorem sg_2 {D : va_G} {cy : Nat → ClassId} {a : Nat} {H : Heap} (h : va_P D vwCl (zW_X6_init cy (a + 2)) H) : ∀ j, j < 2 → va_at D vwCl (a + (2 + j), CE cy LC a s0C (2 + j)) H := by
  intro j hj
  match j, hj with
  | 0, _ => exact at_ob (x := 2 + 0) (κ := 6) (fs := [.ref (a + 3), .int 0, .int (-1), .int (-1), .int 0, .int 0, .int 0, .int 0, .int (-1), .long (-1), .int 0, .int 0]) rfl (by decide) rfl (h 0 _ rfl)
  | 1, _ => exact at_13 (x := 2 + 1) (n := 900) rfl rfl (h 1 _ rfl)
  | j + 2, hj => exact absurd hj (by omega)
set_option maxRecDepth 20000 in
set_option maxHeartbeats 4000000 in
theorem sg_4 {D : va_G} {cy : Nat → ClassId} {a : Nat} {H : Heap} (h : va_P D vwCl (zW_X10_init cy (a + 4)) H) : ∀ j, j < 28 → va_at D vwCl (a + (4 + j), CE cy LC a s0C (4 + j)) H := by
  intro j hj
  match j, hj with
  | 0, _ => exact at_ob (x := 4 + 0) (κ := 10) (fs := [.ref (a + 5), .ref (a + 12), .ref (a + 19), .ref (a + 22), .ref (a + 25), .ref (a + 26), .ref (a + 29), .ref (a + 30), .ref (a + 31), .int 0, .int 0, .int 0]) rfl (by decide) rfl (h 0 _ rfl)
  | 1, _ => exact at_ob (x := 4 + 1) (κ := 7) (fs := [.ref (a + 6), .ref (a + 7), .ref (a + 8), .ref (a + 9), .ref (a + 10), .ref (a + 11), .int 0, .int 0, .int 0, .int 3, .int 1, .int 1]) rfl (by decide) rfl (h 1 _ rfl)
  | 2, _ => exact at_13 (x := 4 + 2) (n := 6) rfl rfl (h 2 _ rfl)
  | 3, _ => exact at_14 (x := 4 + 3) (n := 6) rfl rfl (h 3 _ rfl)
  | 4, _ => exact at_13 (x := 4 + 4) (n := 6) rfl rfl (h 4 _ rfl)
  | 5, _ => exact at_14 (x := 4 + 5) (n := 6) rfl rfl (h 5 _ rfl)
  | 6, _ => exact at_13 (x := 4 + 6) (n := 36) rfl rfl (h 6 _ rfl)
  | 7, _ => exact at_13 (x := 4 + 7) (n := 6) rfl rfl (h 7 _ rfl)
  | 8, _ => exact at_ob (x := 4 + 8) (κ := 2) (fs := [.ref (a + 13), .ref (a + 14), .ref (a + 15), .ref (a + 16), .ref (a + 17), .ref (a + 18), .int 0, .int 0, .int 0]) rfl (by decide) rfl (h 8 _ rfl)
  | 9, _ => exact at_13 (x := 4 + 9) (n := 60) rfl rfl (h 9 _ rfl)
  | 10, _ => exact at_13 (x := 4 + 10) (n := 60) rfl rfl (h 10 _ rfl)
  | 11, _ => exact at_13 (x := 4 + 11) (n := 60) rfl rfl (h 11 _ rfl)
  | 12, _ => exact at_13 (x := 4 + 12) (n := 60) rfl rfl (h 12 _ rfl)
  | 13, _ => exact at_13 (x := 4 + 13) (n := 60) rfl rfl (h 13 _ rfl)
  | 14, _ => exact at_13 (x := 4 + 14) (n := 60) rfl rfl (h 14 _ rfl)
  | 15, _ => exact at_ob (x := 4 + 15) (κ := 0) (fs := [.ref (a + 20), .ref (a + 21)]) rfl (by decide) rfl (h 15 _ rfl)
  | 16, _ => exact at_13 (x := 4 + 16) (n := 216) rfl rfl (h 16 _ rfl)
  | 17, _ => exact at_13 (x := 4 + 17) (n := 216) rfl rfl (h 17 _ rfl)
  | 18, _ => exact at_ob (x := 4 + 18) (κ := 0) (fs := [.ref (a + 23), .ref (a + 24)]) rfl (by decide) rfl (h 18 _ rfl)
  | 19, _ => exact at_13 (x := 4 + 19) (n := 1296) rfl rfl (h 19 _ rfl)
  | 20, _ => exact at_13 (x := 4 + 20) (n := 1296) rfl rfl (h 20 _ rfl)
  | 21, _ => exact at_13 (x := 4 + 21) (n := 36) rfl rfl (h 21 _ rfl)
  | 22, _ => exact at_ob (x := 4 + 22) (κ := 0) (fs := [.ref (a + 27), .ref (a + 28)]) rfl (by decide) rfl (h 22 _ rfl)
  | 23, _ => exact at_13 (x := 4 + 23) (n := 24) rfl rfl (h 23 _ rfl)
  | 24, _ => exact at_13 (x := 4 + 24) (n := 24) rfl rfl (h 24 _ rfl)
  | 25, _ => exact at_13 (x := 4 + 25) (n := 4) rfl rfl (h 25 _ rfl)
  | 26, _ => exact at_13 (x := 4 + 26) (n := 36) rfl rfl (h 26 _ rfl)
  | 27, _ => exact at_13 (x := 4 + 27) (n := 1080) rfl rfl (h 27 _ rfl)
  | j + 28, hj => exact absurd hj (by omega)
set_option maxRecDepth 20000 in
set_option maxHeartbeats 4000000 in
theorem sg_32 {D : va_G} {cy : Nat → ClassId} {a : Nat} {H : Heap} (h : va_P D vwCl (zW_X8_init cy (a + 32) (a + 2)) H) : ∀ j, j < 8 → va_at D vwCl (a + (32 + j), CE cy LC a s0C (32 + j)) H := by
  intro j hj
  match j, hj with
  | 0, _ => exact at_ob (x := 32 + 0) (κ := 8) (fs := [.ref (a + 33), .ref (a + 2), .int 0]) rfl (by decide) rfl (h 0 _ rfl)
  | 1, _ => exact at_ob (x := 32 + 1) (κ := 7) (fs := [.ref (a + 34), .ref (a + 35), .ref (a + 36), .ref (a + 37), .ref (a + 38), .ref (a + 39), .int 0, .int 0, .int 0, .int 3, .int 1, .int 1]) rfl (by decide) rfl (h 1 _ rfl)
  | 2, _ => exact at_13 (x := 32 + 2) (n := 6) rfl rfl (h 2 _ rfl)
  | 3, _ => exact at_14 (x := 32 + 3) (n := 6) rfl rfl (h 3 _ rfl)
  | 4, _ => exact at_13 (x := 32 + 4) (n := 6) rfl rfl (h 4 _ rfl)
  | 5, _ => exact at_14 (x := 32 + 5) (n := 6) rfl rfl (h 5 _ rfl)
  | 6, _ => exact at_13 (x := 32 + 6) (n := 36) rfl rfl (h 6 _ rfl)
  | 7, _ => exact at_13 (x := 32 + 7) (n := 6) rfl rfl (h 7 _ rfl)
  | j + 8, hj => exact absurd hj (by omega)
set_option maxRecDepth 20000 in
set_option maxHeartbeats 4000000 in
theorem sg_40 {D : va_G} {cy : Nat → ClassId} {a : Nat} {H : Heap} (h : va_P D vwCl (zW_X3_init cy (a + 40) (a + 2) (a + 5)) H) : ∀ j, j < 9 → va_at D vwCl (a + (40 + j), CE cy LC a s0C (40 + j)) H := by
  intro j hj
  match j, hj with
  | 0, _ => exact at_ob (x := 40 + 0) (κ := 3) (fs := [.ref (a + 41), .ref (a + 2), .ref (a + 5), .ref (a + 48), .int 0]) rfl (by decide) rfl (h 0 _ rfl)
  | 1, _ => exact at_ob (x := 40 + 1) (κ := 2) (fs := [.ref (a + 42), .ref (a + 43), .ref (a + 44), .ref (a + 45), .ref (a + 46), .ref (a + 47), .int 0, .int 0, .int 0]) rfl (by decide) rfl (h 1 _ rfl)
  | 2, _ => exact at_13 (x := 40 + 2) (n := 60) rfl rfl (h 2 _ rfl)
  | 3, _ => exact at_13 (x := 40 + 3) (n := 60) rfl rfl (h 3 _ rfl)
  | 4, _ => exact at_13 (x := 40 + 4) (n := 60) rfl rfl (h 4 _ rfl)
  | 5, _ => exact at_13 (x := 40 + 5) (n := 60) rfl rfl (h 5 _ rfl)
  | 6, _ => exact at_13 (x := 40 + 6) (n := 60) rfl rfl (h 6 _ rfl)
  | 7, _ => exact at_13 (x := 40 + 7) (n := 60) rfl rfl (h 7 _ rfl)
  | 8, _ => exact at_13 (x := 40 + 8) (n := 3) rfl rfl (h 8 _ rfl)
  | j + 9, hj => exact absurd hj (by omega)
set_option maxRecDepth 20000 in
set_option maxHeartbeats 4000000 in
theorem sg_50 {D : va_G} {cy : Nat → ClassId} {a : Nat} {H : Heap} (h : va_P D vwCl (zW_X10_init cy (a + 50)) H) : ∀ j, j < 28 → va_at D vwCl (a + (50 + j), CE cy LC a s0C (50 + j)) H := by
  intro j hj
  match j, hj with
  | 0, _ => exact at_ob (x := 50 + 0) (κ := 10) (fs := [.ref (a + 51), .ref (a + 58), .ref (a + 65), .ref (a + 68), .ref (a + 71), .ref (a + 72), .ref (a + 75), .ref (a + 76), .ref (a + 77), .int 0, .int 0, .int 0]) rfl (by decide) rfl (h 0 _ rfl)
  | 1, _ => exact at_ob (x := 50 + 1) (κ := 7) (fs := [.ref (a + 52), .ref (a + 53), .ref (a + 54), .ref (a + 55), .ref (a + 56), .ref (a + 57), .int 0, .int 0, .int 0, .int 3, .int 1, .int 1]) rfl (by decide) rfl (h 1 _ rfl)
  | 2, _ => exact at_13 (x := 50 + 2) (n := 6) rfl rfl (h 2 _ rfl)
  | 3, _ => exact at_14 (x := 50 + 3) (n := 6) rfl rfl (h 3 _ rfl)
  | 4, _ => exact at_13 (x := 50 + 4) (n := 6) rfl rfl (h 4 _ rfl)
  | 5, _ => exact at_14 (x := 50 + 5) (n := 6) rfl rfl (h 5 _ rfl)
  | 6, _ => exact at_13 (x := 50 + 6) (n := 36) rfl rfl (h 6 _ rfl)
  | 7, _ => exact at_13 (x := 50 + 7) (n := 6) rfl rfl (h 7 _ rfl)
  | 8, _ => exact at_ob (x := 50 + 8) (κ := 2) (fs := [.ref (a + 59), .ref (a + 60), .ref (a + 61), .ref (a + 62), .ref (a + 63), .ref (a + 64), .int 0, .int 0, .int 0]) rfl (by decide) rfl (h 8 _ rfl)
  | 9, _ => exact at_13 (x := 50 + 9) (n := 60) rfl rfl (h 9 _ rfl)
  | 10, _ => exact at_13 (x := 50 + 10) (n := 60) rfl rfl (h 10 _ rfl)
  | 11, _ => exact at_13 (x := 50 + 11) (n := 60) rfl rfl (h 11 _ rfl)
  | 12, _ => exact at_13 (x := 50 + 12) (n := 60) rfl rfl (h 12 _ rfl)
  | 13, _ => exact at_13 (x := 50 + 13) (n := 60) rfl rfl (h 13 _ rfl)
  | 14, _ => exact at_13 (x := 50 + 14) (n := 60) rfl rfl (h 14 _ rfl)
  | 15, _ => exact at_ob (x := 50 + 15) (κ := 0) (fs := [.ref (a + 66), .ref (a + 67)]) rfl (by decide) rfl (h 15 _ rfl)
  | 16, _ => exact at_13 (x := 50 + 16) (n := 216) rfl rfl (h 16 _ rfl)
  | 17, _ => exact at_13 (x := 50 + 17) (n := 216) rfl rfl (h 17 _ rfl)
  | 18, _ => exact at_ob (x := 50 + 18) (κ := 0) (fs := [.ref (a + 69), .ref (a + 70)]) rfl (by decide) rfl (h 18 _ rfl)
  | 19, _ => exact at_13 (x := 50 + 19) (n := 1296) rfl rfl (h 19 _ rfl)
  | 20, _ => exact at_13 (x := 50 + 20) (n := 1296) rfl rfl (h 20 _ rfl)
  | 21, _ => exact at_13 (x := 50 + 21) (n := 36) rfl rfl (h 21 _ rfl)
  | 22, _ => exact at_ob (x := 50 + 22) (κ := 0) (fs := [.ref (a + 73), .ref (a + 74)]) rfl (by decide) rfl (h 22 _ rfl)
  | 23, _ => exact at_13 (x := 50 + 23) (n := 24) rfl rfl (h 23 _ rfl)
  | 24, _ => exact at_13 (x := 50 + 24) (n := 24) rfl rfl (h 24 _ rfl)
  | 25, _ => exact at_13 (x := 50 + 25) (n := 4) rfl rfl (h 25 _ rfl)
  | 26, _ => exact at_13 (x := 50 + 26) (n := 36) rfl rfl (h 26 _ rfl)
  | 27, _ => exact at_13 (x := 50 + 27) (n := 1080) rfl rfl (h 27 _ rfl)
  | j + 28, hj => exact absurd hj (by omega)
set_option maxRecDepth 20000 in
set_option maxHeartbeats 4000000 in
theorem sg_78 {D : va_G} {cy : Nat → ClassId} {a : Nat} {H : Heap} (h : va_P D vwCl (zW_X4_init cy (a + 78)) H) : ∀ j, j < 3 → va_at D vwCl (a + (78 + j), CE cy LC a s0C (78 + j)) H := by
  intro j hj
  match j, hj with
  | 0, _ => exact at_ob (x := 78 + 0) (κ := 4) (fs := [.ref (a + 79), .int (-1), .ref (a + 80), .int 0]) rfl (by decide) rfl (h 0 _ rfl)
  | 1, _ => exact at_13 (x := 78 + 1) (n := 6) rfl rfl (h 1 _ rfl)
  | 2, _ => exact at_13 (x := 78 + 2) (n := 60) rfl rfl (h 2 _ rfl)
  | j + 3, hj => exact absurd hj (by omega)
set_option maxRecDepth 20000 in
set_option maxHeartbeats 4000000 in
theorem sg_81 {D : va_G} {cy : Nat → ClassId} {a : Nat} {H : Heap} (h : va_P D vwCl (zW_X4_init cy (a + 81)) H) : ∀ j, j < 3 → va_at D vwCl (a + (81 + j), CE cy LC a s0C (81 + j)) H := by
  intro j hj
  match j, hj with
  | 0, _ => exact at_ob (x := 81 + 0) (κ := 4) (fs := [.ref (a + 82), .int (-1), .ref (a + 83), .int 0]) rfl (by decide) rfl (h 0 _ rfl)
  | 1, _ => exact at_13 (x := 81 + 1) (n := 6) rfl rfl (h 1 _ rfl)
  | 2, _ => exact at_13 (x := 81 + 2) (n := 60) rfl rfl (h 2 _ rfl)
  | j + 3, hj => exact absurd hj (by omega)
set_option maxRecDepth 20000 in
set_option maxHeartbeats 4000000 in
theorem sg_84 {D : va_G} {cy : Nat → ClassId} {a : Nat} {H : Heap} (h : va_P D vwCl (zW_X1_init cy (a + 84)) H) : ∀ j, j < 6 → va_at D vwCl (a + (84 + j), CE cy LC a s0C (84 + j)) H := by
  intro j hj
  match j, hj with
  | 0, _ => exact at_ob (x := 84 + 0) (κ := 1) (fs := [.ref (a + 85), .ref (a + 88), .ref (a + 89), .int 0]) rfl (by decide) rfl (h 0 _ rfl)
  | 1, _ => exact at_ob (x := 84 + 1) (κ := 0) (fs := [.ref (a + 86), .ref (a + 87)]) rfl (by decide) rfl (h 1 _ rfl)
  | 2, _ => exact at_13 (x := 84 + 2) (n := 6) rfl rfl (h 2 _ rfl)
  | 3, _ => exact at_13 (x := 84 + 3) (n := 6) rfl rfl (h 3 _ rfl)
  | 4, _ => exact at_13 (x := 84 + 4) (n := 3600) rfl rfl (h 4 _ rfl)
  | 5, _ => exact at_13 (x := 84 + 5) (n := 20) rfl rfl (h 5 _ rfl)
  | j + 6, hj => exact absurd hj (by omega)
set_option maxRecDepth 20000 in
set_option maxHeartbeats 4000000 in
theorem sg_90 {D : va_G} {cy : Nat → ClassId} {a : Nat} {H : Heap} (h : va_P D vwCl (zW_X5_init cy (a + 90)) H) : ∀ j, j < 7 → va_at D vwCl (a + (90 + j), CE cy LC a s0C (90 + j)) H := by
  intro j hj
  match j, hj with
  | 0, _ => exact at_ob (x := 90 + 0) (κ := 5) (fs := [.ref (a + 91), .ref (a + 94), .ref (a + 95), .ref (a + 96), .int 0, .int 0]) rfl (by decide) rfl (h 0 _ rfl)
  | 1, _ => exact at_ob (x := 90 + 1) (κ := 0) (fs := [.ref (a + 92), .ref (a + 93)]) rfl (by decide) rfl (h 1 _ rfl)
  | 2, _ => exact at_13 (x := 90 + 2) (n := 384) rfl rfl (h 2 _ rfl)
  | 3, _ => exact at_13 (x := 90 + 3) (n := 384) rfl rfl (h 3 _ rfl)
  | 4, _ => exact at_16 (x := 90 + 4) (n := 64) rfl rfl (h 4 _ rfl)
  | 5, _ => exact at_13 (x := 90 + 5) (n := 6) rfl rfl (h 5 _ rfl)
  | 6, _ => exact at_13 (x := 90 + 6) (n := 6) rfl rfl (h 6 _ rfl)
  | j + 7, hj => exact absurd hj (by omega)
set_option maxRecDepth 20000 in
set_option maxHeartbeats 4000000 in
theorem sg_97 {D : va_G} {cy : Nat → ClassId} {a : Nat} {H : Heap} (h : va_P D vwCl (zW_X0_init_1 cy (a + 97)) H) : ∀ j, j < 3 → va_at D vwCl (a + (97 + j), CE cy LC a s0C (97 + j)) H := by
  intro j hj
  match j, hj with
  | 0, _ => exact at_ob (x := 97 + 0) (κ := 0) (fs := [.ref (a + 98), .ref (a + 99)]) rfl (by decide) rfl (h 0 _ rfl)
  | 1, _ => exact at_13 (x := 97 + 1) (n := 6) rfl rfl (h 1 _ rfl)
  | 2, _ => exact at_13 (x := 97 + 2) (n := 6) rfl rfl (h 2 _ rfl)
  | j + 3, hj => exact absurd hj (by omega)
set_option maxRecDepth 20000 in
set_option maxHeartbeats 4000000 in
theorem sg_102 {D : va_G} {cy : Nat → ClassId} {a : Nat} {H : Heap} (h : va_P D vwCl (zW_X9_init cy (a + 102)) H) : ∀ j, j < 2 → va_at D vwCl (a + (102 + j), CE cy LC a s0C (102 + j)) H := by
  intro j hj
  match j, hj with
  | 0, _ => exact at_ob (x := 102 + 0) (κ := 9) (fs := [.ref (a + 103), .int 0, .int 0, .int 0]) rfl (by decide) rfl (h 0 _ rfl)
  | 1, _ => exact at_14 (x := 102 + 1) (n := 60) rfl rfl (h 1 _ rfl)
  | j + 2, hj => exact absurd hj (by omega)
set_option maxRecDepth 20000 in
set_option maxHeartbeats 4000000 in
theorem sg_104 {D : va_G} {cy : Nat → ClassId} {a : Nat} {H : Heap} (h : va_P D vwCl (zW_X9_init cy (a + 104)) H) : ∀ j, j < 2 → va_at D vwCl (a + (104 + j), CE cy LC a s0C (104 + j)) H := by
  intro j hj
  match j, hj with
  | 0, _ => exact at_ob (x := 104 + 0) (κ := 9) (fs := [.ref (a + 105), .int 0, .int 0, .int 0]) rfl (by decide) rfl (h 0 _ rfl)
  | 1, _ => exact at_14 (x := 104 + 1) (n := 60) rfl rfl (h 1 _ rfl)
  | j + 2, hj => exact absurd hj (by omega)
set_option maxRecDepth 20000 in
set_option maxHeartbeats 4000000 in
theorem sg_106 {D : va_G} {cy : Nat → ClassId} {a : Nat} {H : Heap} (h : va_P D vwCl (zW_X9_init cy (a + 106)) H) : ∀ j, j < 2 → va_at D vwCl (a + (106 + j), CE cy LC a s0C (106 + j)) H := by
  intro j hj
  match j, hj with
  | 0, _ => exact at_ob (x := 106 + 0) (κ := 9) (fs := [.ref (a + 107), .int 0, .int 0, .int 0]) rfl (by decide) rfl (h 0 _ rfl)
  | 1, _ => exact at_14 (x := 106 + 1) (n := 60) rfl rfl (h 1 _ rfl)
  | j + 2, hj => exact absurd hj (by omega)
set_option maxRecDepth 20000 in
set_option maxHeartbeats 4000000 in
theorem sg_108 {D : va_G} {cy : Nat → ClassId} {a : Nat} {H : Heap} (h : va_P D vwCl (zW_X9_init cy (a + 108)) H) : ∀ j, j < 2 → va_at D vwCl (a + (108 + j), CE cy LC a s0C (108 + j)) H := by
  intro j hj
  match j, hj with
  | 0, _ => exact at_ob (x := 108 + 0) (κ := 9) (fs := [.ref (a + 109), .int 0, .int 0, .int 0]) rfl (by decide) rfl (h 0 _ rfl)
  | 1, _ => exact at_14 (x := 108 + 1) (n := 60) rfl rfl (h 1 _ rfl)
  | j + 2, hj => exact absurd hj (by omega)
set_option maxRecDepth 20000 in
set_option maxHeartbeats 4000000 in
theorem sg_110 {D : va_G} {cy : Nat → ClassId} {a : Nat} {H : Heap} (h : va_P D vwCl (zW_X10_init cy (a + 110)) H) : ∀ j, j < 28 → va_at D vwCl (a + (110 + j), CE cy LC a s0C (110 + j)) H := by
  intro j hj
  match j, hj with
  | 0, _ => exact at_ob (x := 110 + 0) (κ := 10) (fs := [.ref (a + 111), .ref (a + 118), .ref (a + 125), .ref (a + 128), .ref (a + 131), .ref (a + 132), .ref (a + 135), .ref (a + 136), .ref (a + 137), .int 0, .int 0, .int 0]) rfl (by decide) rfl (h 0 _ rfl)
  | 1, _ => exact at_ob (x := 110 + 1) (κ := 7) (fs := [.ref (a + 112), .ref (a + 113), .ref (a + 114), .ref (a + 115), .ref (a + 116), .ref (a + 117), .int 0, .int 0, .int 0, .int 3, .int 1, .int 1]) rfl (by decide) rfl (h 1 _ rfl)
  | 2, _ => exact at_13 (x := 110 + 2) (n := 6) rfl rfl (h 2 _ rfl)
  | 3, _ => exact at_14 (x := 110 + 3) (n := 6) rfl rfl (h 3 _ rfl)
  | 4, _ => exact at_13 (x := 110 + 4) (n := 6) rfl rfl (h 4 _ rfl)
  | 5, _ => exact at_14 (x := 110 + 5) (n := 6) rfl rfl (h 5 _ rfl)
  | 6, _ => exact at_13 (x := 110 + 6) (n := 36) rfl rfl (h 6 _ rfl)
  | 7, _ => exact at_13 (x := 110 + 7) (n := 6) rfl rfl (h 7 _ rfl)
  | 8, _ => exact at_ob (x := 110 + 8) (κ := 2) (fs := [.ref (a + 119), .ref (a + 120), .ref (a + 121), .ref (a + 122), .ref (a + 123), .ref (a + 124), .int 0, .int 0, .int 0]) rfl (by decide) rfl (h 8 _ rfl)
  | 9, _ => exact at_13 (x := 110 + 9) (n := 60) rfl rfl (h 9 _ rfl)
  | 10, _ => exact at_13 (x := 110 + 10) (n := 60) rfl rfl (h 10 _ rfl)
  | 11, _ => exact at_13 (x := 110 + 11) (n := 60) rfl rfl (h 11 _ rfl)
  | 12, _ => exact at_13 (x := 110 + 12) (n := 60) rfl rfl (h 12 _ rfl)
  | 13, _ => exact at_13 (x := 110 + 13) (n := 60) rfl rfl (h 13 _ rfl)
  | 14, _ => exact at_13 (x := 110 + 14) (n := 60) rfl rfl (h 14 _ rfl)
  | 15, _ => exact at_ob (x := 110 + 15) (κ := 0) (fs := [.ref (a + 126), .ref (a + 127)]) rfl (by decide) rfl (h 15 _ rfl)
  | 16, _ => exact at_13 (x := 110 + 16) (n := 216) rfl rfl (h 16 _ rfl)
  | 17, _ => exact at_13 (x := 110 + 17) (n := 216) rfl rfl (h 17 _ rfl)
  | 18, _ => exact at_ob (x := 110 + 18) (κ := 0) (fs := [.ref (a + 129), .ref (a + 130)]) rfl (by decide) rfl (h 18 _ rfl)
  | 19, _ => exact at_13 (x := 110 + 19) (n := 1296) rfl rfl (h 19 _ rfl)
  | 20, _ => exact at_13 (x := 110 + 20) (n := 1296) rfl rfl (h 20 _ rfl)
  | 21, _ => exact at_13 (x := 110 + 21) (n := 36) rfl rfl (h 21 _ rfl)
  | 22, _ => exact at_ob (x := 110 + 22) (κ := 0) (fs := [.ref (a + 133), .ref (a + 134)]) rfl (by decide) rfl (h 22 _ rfl)
  | 23, _ => exact at_13 (x := 110 + 23) (n := 24) rfl rfl (h 23 _ rfl)
  | 24, _ => exact at_13 (x := 110 + 24) (n := 24) rfl rfl (h 24 _ rfl)
  | 25, _ => exact at_13 (x := 110 + 25) (n := 4) rfl rfl (h 25 _ rfl)
  | 26, _ => exact at_13 (x := 110 + 26) (n := 36) rfl rfl (h 26 _ rfl)
  | 27, _ => exact at_13 (x := 110 + 27) (n := 1080) rfl rfl (h 27 _ rfl)
  | j + 28, hj => exact absurd hj (by omega)
set_option maxRecDepth 20000 in
set_option maxHeartbeats 4000000 in
theorem sg_138 {D : va_G} {cy : Nat → ClassId} {a : Nat} {H : Heap} (h : va_P D vwCl (zW_X10_init cy (a + 138)) H) : ∀ j, j < 28 → va_at D vwCl (a + (138 + j), CE cy LC a s0C (138 + j)) H := by
  intro j hj
  match j, hj with
  | 0, _ => exact at_ob (x := 138 + 0) (κ := 10) (fs := [.ref (a + 139), .ref (a + 146), .ref (a + 153), .ref (a + 156), .ref (a + 159), .ref (a + 160), .ref (a + 163), .ref (a + 164), .ref (a + 165), .int 0, .int 0, .int 0]) rfl (by decide) rfl (h 0 _ rfl)
  | 1, _ => exact at_ob (x := 138 + 1) (κ := 7) (fs := [.ref (a + 140), .ref (a + 141), .ref (a + 142), .ref (a + 143), .ref (a + 144), .ref (a + 145), .int 0, .int 0, .int 0, .int 3, .int 1, .int 1]) rfl (by decide) rfl (h 1 _ rfl)
  | 2, _ => exact at_13 (x := 138 + 2) (n := 6) rfl rfl (h 2 _ rfl)
  | 3, _ => exact at_14 (x := 138 + 3) (n := 6) rfl rfl (h 3 _ rfl)
  | 4, _ => exact at_13 (x := 138 + 4) (n := 6) rfl rfl (h 4 _ rfl)
  | 5, _ => exact at_14 (x := 138 + 5) (n := 6) rfl rfl (h 5 _ rfl)
  | 6, _ => exact at_13 (x := 138 + 6) (n := 36) rfl rfl (h 6 _ rfl)
  | 7, _ => exact at_13 (x := 138 + 7) (n := 6) rfl rfl (h 7 _ rfl)
  | 8, _ => exact at_ob (x := 138 + 8) (κ := 2) (fs := [.ref (a + 147), .ref (a + 148), .ref (a + 149), .ref (a + 150), .ref (a + 151), .ref (a + 152), .int 0, .int 0, .int 0]) rfl (by decide) rfl (h 8 _ rfl)
  | 9, _ => exact at_13 (x := 138 + 9) (n := 60) rfl rfl (h 9 _ rfl)
  | 10, _ => exact at_13 (x := 138 + 10) (n := 60) rfl rfl (h 10 _ rfl)
  | 11, _ => exact at_13 (x := 138 + 11) (n := 60) rfl rfl (h 11 _ rfl)
  | 12, _ => exact at_13 (x := 138 + 12) (n := 60) rfl rfl (h 12 _ rfl)
  | 13, _ => exact at_13 (x := 138 + 13) (n := 60) rfl rfl (h 13 _ rfl)
  | 14, _ => exact at_13 (x := 138 + 14) (n := 60) rfl rfl (h 14 _ rfl)
  | 15, _ => exact at_ob (x := 138 + 15) (κ := 0) (fs := [.ref (a + 154), .ref (a + 155)]) rfl (by decide) rfl (h 15 _ rfl)
  | 16, _ => exact at_13 (x := 138 + 16) (n := 216) rfl rfl (h 16 _ rfl)
  | 17, _ => exact at_13 (x := 138 + 17) (n := 216) rfl rfl (h 17 _ rfl)
  | 18, _ => exact at_ob (x := 138 + 18) (κ := 0) (fs := [.ref (a + 157), .ref (a + 158)]) rfl (by decide) rfl (h 18 _ rfl)
  | 19, _ => exact at_13 (x := 138 + 19) (n := 1296) rfl rfl (h 19 _ rfl)
  | 20, _ => exact at_13 (x := 138 + 20) (n := 1296) rfl rfl (h 20 _ rfl)
  | 21, _ => exact at_13 (x := 138 + 21) (n := 36) rfl rfl (h 21 _ rfl)
  | 22, _ => exact at_ob (x := 138 + 22) (κ := 0) (fs := [.ref (a + 161), .ref (a + 162)]) rfl (by decide) rfl (h 22 _ rfl)
  | 23, _ => exact at_13 (x := 138 + 23) (n := 24) rfl rfl (h 23 _ rfl)
  | 24, _ => exact at_13 (x := 138 + 24) (n := 24) rfl rfl (h 24 _ rfl)
  | 25, _ => exact at_13 (x := 138 + 25) (n := 4) rfl rfl (h 25 _ rfl)
  | 26, _ => exact at_13 (x := 138 + 26) (n := 36) rfl rfl (h 26 _ rfl)
  | 27, _ => exact at_13 (x := 138 + 27) (n := 1080) rfl rfl (h 27 _ rfl)
  | j + 28, hj => exact absurd hj (by omega)
set_option maxRecDepth 20000 in
set_option maxHeartbeats 4000000 in
theorem sg_166 {D : va_G} {cy : Nat → ClassId} {a : Nat} {H : Heap} (h : va_P D vwCl (zW_X10_init cy (a + 166)) H) : ∀ j, j < 28 → va_at D vwCl (a + (166 + j), CE cy LC a s0C (166 + j)) H := by
  intro j hj
  match j, hj with
  | 0, _ => exact at_ob (x := 166 + 0) (κ := 10) (fs := [.ref (a + 167), .ref (a + 174), .ref (a + 181), .ref (a + 184), .ref (a + 187), .ref (a + 188), .ref (a + 191), .ref (a + 192), .ref (a + 193), .int 0, .int 0, .int 0]) rfl (by decide) rfl (h 0 _ rfl)
  | 1, _ => exact at_ob (x := 166 + 1) (κ := 7) (fs := [.ref (a + 168), .ref (a + 169), .ref (a + 170), .ref (a + 171), .ref (a + 172), .ref (a + 173), .int 0, .int 0, .int 0, .int 3, .int 1, .int 1]) rfl (by decide) rfl (h 1 _ rfl)
  | 2, _ => exact at_13 (x := 166 + 2) (n := 6) rfl rfl (h 2 _ rfl)
  | 3, _ => exact at_14 (x := 166 + 3) (n := 6) rfl rfl (h 3 _ rfl)
  | 4, _ => exact at_13 (x := 166 + 4) (n := 6) rfl rfl (h 4 _ rfl)
  | 5, _ => exact at_14 (x := 166 + 5) (n := 6) rfl rfl (h 5 _ rfl)
  | 6, _ => exact at_13 (x := 166 + 6) (n := 36) rfl rfl (h 6 _ rfl)
  | 7, _ => exact at_13 (x := 166 + 7) (n := 6) rfl rfl (h 7 _ rfl)
  | 8, _ => exact at_ob (x := 166 + 8) (κ := 2) (fs := [.ref (a + 175), .ref (a + 176), .ref (a + 177), .ref (a + 178), .ref (a + 179), .ref (a + 180), .int 0, .int 0, .int 0]) rfl (by decide) rfl (h 8 _ rfl)
  | 9, _ => exact at_13 (x := 166 + 9) (n := 60) rfl rfl (h 9 _ rfl)
  | 10, _ => exact at_13 (x := 166 + 10) (n := 60) rfl rfl (h 10 _ rfl)
  | 11, _ => exact at_13 (x := 166 + 11) (n := 60) rfl rfl (h 11 _ rfl)
  | 12, _ => exact at_13 (x := 166 + 12) (n := 60) rfl rfl (h 12 _ rfl)
  | 13, _ => exact at_13 (x := 166 + 13) (n := 60) rfl rfl (h 13 _ rfl)
  | 14, _ => exact at_13 (x := 166 + 14) (n := 60) rfl rfl (h 14 _ rfl)
  | 15, _ => exact at_ob (x := 166 + 15) (κ := 0) (fs := [.ref (a + 182), .ref (a + 183)]) rfl (by decide) rfl (h 15 _ rfl)
  | 16, _ => exact at_13 (x := 166 + 16) (n := 216) rfl rfl (h 16 _ rfl)
  | 17, _ => exact at_13 (x := 166 + 17) (n := 216) rfl rfl (h 17 _ rfl)
  | 18, _ => exact at_ob (x := 166 + 18) (κ := 0) (fs := [.ref (a + 185), .ref (a + 186)]) rfl (by decide) rfl (h 18 _ rfl)
  | 19, _ => exact at_13 (x := 166 + 19) (n := 1296) rfl rfl (h 19 _ rfl)
  | 20, _ => exact at_13 (x := 166 + 20) (n := 1296) rfl rfl (h 20 _ rfl)
  | 21, _ => exact at_13 (x := 166 + 21) (n := 36) rfl rfl (h 21 _ rfl)
  | 22, _ => exact at_ob (x := 166 + 22) (κ := 0) (fs := [.ref (a + 189), .ref (a + 190)]) rfl (by decide) rfl (h 22 _ rfl)
  | 23, _ => exact at_13 (x := 166 + 23) (n := 24) rfl rfl (h 23 _ rfl)
  | 24, _ => exact at_13 (x := 166 + 24) (n := 24) rfl rfl (h 24 _ rfl)
  | 25, _ => exact at_13 (x := 166 + 25) (n := 4) rfl rfl (h 25 _ rfl)
  | 26, _ => exact at_13 (x := 166 + 26) (n := 36) rfl rfl (h 26 _ rfl)
  | 27, _ => exact at_13 (x := 166 + 27) (n := 1080) rfl rfl (h 27 _ rfl)
  | j + 28, hj => exact absurd hj (by omega)
set_option maxRecDepth 20000 in
set_option maxHeartbeats 4000000 in
theorem s0C_of {D : va_G} {cy : Nat → ClassId} {a : Nat} {H : Heap} (h0 : va_at D vwCl (a, .inr (11, [.ref (a + 1), .ref (a + 2), .ref (a + 4), .ref (a + 32), .ref (a + 40), .ref (a + 49), .ref (a + 50), .ref (a + 78), .ref (a + 81), .ref (a + 84), .ref (a + 90), .ref (a + 97), .ref (a + 100), .ref (a + 101), .int 0, .long 0, .long 1, .int 0, .int 0, .int (-1)])) H) (h1 : va_at D vwCl ((a + 1), .inl (cy 4, 4, .inr (.inr (.inr (.inr (va_up (va_up (va_up (va_up (fun _ => none) 0 (some (a + 102))) 1 (some (a + 104))) 2 (some (a + 106))) 3 (some (a + 108)))))))) H) (h49 : va_at D vwCl ((a + 49), .inl (cy 5, 3, .inr (.inr (.inr (.inr (va_up (va_up (va_up (fun _ => none) 0 (some (a + 110))) 1 (some (a + 138))) 2 (some (a + 166)))))))) H) (g2 : va_P D vwCl (zW_X6_init cy (a + 2)) H) (g4 : va_P D vwCl (zW_X10_init cy (a + 4)) H) (g32 : va_P D vwCl (zW_X8_init cy (a + 32) (a + 2)) H) (g40 : va_P D vwCl (zW_X3_init cy (a + 40) (a + 2) (a + 5)) H) (g50 : va_P D vwCl (zW_X10_init cy (a + 50)) H) (g78 : va_P D vwCl (zW_X4_init cy (a + 78)) H) (g81 : va_P D vwCl (zW_X4_init cy (a + 81)) H) (g84 : va_P D vwCl (zW_X1_init cy (a + 84)) H) (g90 : va_P D vwCl (zW_X5_init cy (a + 90)) H) (g97 : va_P D vwCl (zW_X0_init_1 cy (a + 97)) H) (g100 : va_P D vwCl [((a + 100), .inl (cy 0, 180, .inl (fun _ => 0)))] H) (g101 : va_P D vwCl [((a + 101), .inl (cy 0, 1001, .inl (fun _ => 0)))] H) (g102 : va_P D vwCl (zW_X9_init cy (a + 102)) H) (g104 : va_P D vwCl (zW_X9_init cy (a + 104)) H) (g106 : va_P D vwCl (zW_X9_init cy (a + 106)) H) (g108 : va_P D vwCl (zW_X9_init cy (a + 108)) H) (g110 : va_P D vwCl (zW_X10_init cy (a + 110)) H) (g138 : va_P D vwCl (zW_X10_init cy (a + 138)) H) (g166 : va_P D vwCl (zW_X10_init cy (a + 166)) H) : va_P D vwCl (wsP cy LC a s0C) H := by
  intro k q hk
  have hl : k < 194 := by
    have h9 := (List.getElem?_eq_some_iff.mp hk).1
    have h8 : k < LC.2.2.2 := by simpa [wsP] using h9
    exact h8
  rw [wsP_at hl] at hk
  cases hk
  have h1 : va_at D vwCl (a + 1, CE cy LC a s0C 1) H := by
    refine (show H[a + 1]? = some (vp_cell _ _) from h1).trans (congrArg some ?_)
    rw [vp_cell_q, vp_cell_q]
    exact arrV_ext (fun j hj => by match j, hj with | 0, _ => rfl | 1, _ => rfl | 2, _ => rfl | 3, _ => rfl | j + 4, hj => exact absurd hj (by omega))
  have h49 : va_at D vwCl (a + 49, CE cy LC a s0C 49) H := by
    refine (show H[a + 49]? = some (vp_cell _ _) from h49).trans (congrArg some ?_)
    rw [vp_cell_q, vp_cell_q]
    exact arrV_ext (fun j hj => by match j, hj with | 0, _ => rfl | 1, _ => rfl | 2, _ => rfl | j + 3, hj => exact absurd hj (by omega))
  by_cases r_0 : k < 1
  · have e : k = 0 := by omega
    subst e
    exact h0
  by_cases r_1 : k < 2
  · have e : k = 1 := by omega
    subst e
    exact h1
  by_cases r_2 : k < 4
  · have e := sg_2 g2 (k - 2) (by omega)
    rw [show 2 + (k - 2) = k by omega] at e
    exact e
  by_cases r_4 : k < 32
  · have e := sg_4 g4 (k - 4) (by omega)
    rw [show 4 + (k - 4) = k by omega] at e
    exact e
  by_cases r_32 : k < 40
  · have e := sg_32 g32 (k - 32) (by omega)
    rw [show 32 + (k - 32) = k by omega] at e
    exact e
  by_cases r_40 : k < 49
  · have e := sg_40 g40 (k - 40) (by omega)
    rw [show 40 + (k - 40) = k by omega] at e
    exact e
  by_cases r_49 : k < 50
  · have e : k = 49 := by omega
    subst e
    exact h49
  by_cases r_50 : k < 78
  · have e := sg_50 g50 (k - 50) (by omega)
    rw [show 50 + (k - 50) = k by omega] at e
    exact e
  by_cases r_78 : k < 81
  · have e := sg_78 g78 (k - 78) (by omega)
    rw [show 78 + (k - 78) = k by omega] at e
    exact e
  by_cases r_81 : k < 84
  · have e := sg_81 g81 (k - 81) (by omega)
    rw [show 81 + (k - 81) = k by omega] at e
    exact e
  by_cases r_84 : k < 90
  · have e := sg_84 g84 (k - 84) (by omega)
    rw [show 84 + (k - 84) = k by omega] at e
    exact e
  by_cases r_90 : k < 97
  · have e := sg_90 g90 (k - 90) (by omega)
    rw [show 90 + (k - 90) = k by omega] at e
    exact e
  by_cases r_97 : k < 100
  · have e := sg_97 g97 (k - 97) (by omega)
    rw [show 97 + (k - 97) = k by omega] at e
    exact e
  by_cases r_100 : k < 101
  · have e : k = 100 := by omega
    subst e
    exact g100 0 _ rfl
  by_cases r_101 : k < 102
  · have e : k = 101 := by omega
    subst e
    exact g101 0 _ rfl
  by_cases r_102 : k < 104
  · have e := sg_102 g102 (k - 102) (by omega)
    rw [show 102 + (k - 102) = k by omega] at e
    exact e
  by_cases r_104 : k < 106
  · have e := sg_104 g104 (k - 104) (by omega)
    rw [show 104 + (k - 104) = k by omega] at e
    exact e
  by_cases r_106 : k < 108
  · have e := sg_106 g106 (k - 106) (by omega)
    rw [show 106 + (k - 106) = k by omega] at e
    exact e
  by_cases r_108 : k < 110
  · have e := sg_108 g108 (k - 108) (by omega)
    rw [show 108 + (k - 108) = k by omega] at e
    exact e
  by_cases r_110 : k < 138
  · have e := sg_110 g110 (k - 110) (by omega)
    rw [show 110 + (k - 110) = k by omega] at e
    exact e
  by_cases r_138 : k < 166
  · have e := sg_138 g138 (k - 138) (by omega)
    rw [show 138 + (k - 138) = k by omega] at e
    exact e
  by_cases r_166 : k < 194
  · have e := sg_166 g166 (k - 166) (by omega)
    rw [show 166 + (k - 166) = k by omega] at e
    exact e
  exact absurd hl r_166
