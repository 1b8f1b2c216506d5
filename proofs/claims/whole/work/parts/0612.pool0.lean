theorem arrV_ext {cI : ClassId} {N : Nat} {f g : Nat → Value} (h : ∀ j, j < N → f j = g j) : arrV cI N f = arrV cI N g := by
  unfold arrV
  congr 2
  funext j
  exact h j.1 j.2
theorem ZH_n1 {D : va_G} {H : Heap} {w v : va_W} {c0 c1 : Nat × va_E} {a n z : Nat} {s : State} {locs : List Loc} (h : ZH D (c0 :: ((c1 :: w) ++ v)) a n z s H locs) : ZH D (c0 :: c1 :: (w ++ v)) a n z s H locs := h
theorem ZH_n2 {D : va_G} {H : Heap} {w v : va_W} {c0 c1 c2 : Nat × va_E} {a n z : Nat} {s : State} {locs : List Loc} (h : ZH D (c0 :: ((c1 :: c2 :: w) ++ v)) a n z s H locs) : ZH D (c0 :: c1 :: c2 :: (w ++ v)) a n z s H locs := h
def iniI (κ k : Nat) : Int32 := match κ, k with
  | 6, 2 => -1 | 6, 3 => -1 | 6, 8 => -1
  | 7, 9 => 3 | 7, 10 => 1 | 7, 11 => 1
  | 4, 1 => -1
  | 11, 19 => -1
  | 12, 16 => -1 | 12, 17 => -1 | 12, 28 => -1
  | _, _ => 0
def iniJ (κ k : Nat) : Int64 := match κ, k with
  | 6, 9 => -1
  | 11, 16 => 1
  | 12, 4 => 1
  | _, _ => 0
def s0C : ST := (fun x k => iniI (KC x) k, fun x k => iniJ (KC x) k, fun _ _ => 0, fun _ _ => 0)
def s0R : ST := (fun x k => iniI (KR x) k, fun x k => iniJ (KR x) k, fun x => if x = 4 then upd (upd (upd (upd (fun _ => 0) 0 (-1)) 1 (-1)) 2 (-1)) 3 (-1) else fun _ => 0, fun _ _ => 0)
set_option maxRecDepth 20000 in
set_option maxHeartbeats 4000000 in
theorem sg_2 {D : va_G} {cy : Nat → ClassId} {a : Nat} {H : Heap} (h : va_P D vwCl (zW_X6_init cy (a + 2)) H) : ∀ j, j < 2 → va_at D vwCl (a + (2 + j), CE cy LC a s0C (2 + j)) H := by
  intro j hj
  match j, hj with
  | 0, _ => exact h 0 _ rfl
  | 1, _ => exact h 1 _ rfl
  | j + 2, hj => exact absurd hj (by omega)
set_option maxRecDepth 20000 in
set_option maxHeartbeats 4000000 in
theorem sg_4 {D : va_G} {cy : Nat → ClassId} {a : Nat} {H : Heap} (h : va_P D vwCl (zW_X10_init cy (a + 4)) H) : ∀ j, j < 28 → va_at D vwCl (a + (4 + j), CE cy LC a s0C (4 + j)) H := by
  intro j hj
  match j, hj with
  | 0, _ => exact h 0 _ rfl
  | 1, _ => exact h 1 _ rfl
  | 2, _ => exact h 2 _ rfl
  | 3, _ => exact h 3 _ rfl
  | 4, _ => exact h 4 _ rfl
  | 5, _ => exact h 5 _ rfl
  | 6, _ => exact h 6 _ rfl
  | 7, _ => exact h 7 _ rfl
  | 8, _ => exact h 8 _ rfl
  | 9, _ => exact h 9 _ rfl
  | 10, _ => exact h 10 _ rfl
  | 11, _ => exact h 11 _ rfl
  | 12, _ => exact h 12 _ rfl
  | 13, _ => exact h 13 _ rfl
  | 14, _ => exact h 14 _ rfl
  | 15, _ => exact h 15 _ rfl
  | 16, _ => exact h 16 _ rfl
  | 17, _ => exact h 17 _ rfl
  | 18, _ => exact h 18 _ rfl
  | 19, _ => exact h 19 _ rfl
  | 20, _ => exact h 20 _ rfl
  | 21, _ => exact h 21 _ rfl
  | 22, _ => exact h 22 _ rfl
  | 23, _ => exact h 23 _ rfl
  | 24, _ => exact h 24 _ rfl
  | 25, _ => exact h 25 _ rfl
  | 26, _ => exact h 26 _ rfl
  | 27, _ => exact h 27 _ rfl
  | j + 28, hj => exact absurd hj (by omega)
set_option maxRecDepth 20000 in
set_option maxHeartbeats 4000000 in
theorem sg_32 {D : va_G} {cy : Nat → ClassId} {a : Nat} {H : Heap} (h : va_P D vwCl (zW_X8_init cy (a + 32) (a + 2)) H) : ∀ j, j < 8 → va_at D vwCl (a + (32 + j), CE cy LC a s0C (32 + j)) H := by
  intro j hj
  match j, hj with
  | 0, _ => exact h 0 _ rfl
  | 1, _ => exact h 1 _ rfl
  | 2, _ => exact h 2 _ rfl
  | 3, _ => exact h 3 _ rfl
  | 4, _ => exact h 4 _ rfl
  | 5, _ => exact h 5 _ rfl
  | 6, _ => exact h 6 _ rfl
  | 7, _ => exact h 7 _ rfl
  | j + 8, hj => exact absurd hj (by omega)
set_option maxRecDepth 20000 in
set_option maxHeartbeats 4000000 in
theorem sg_40 {D : va_G} {cy : Nat → ClassId} {a : Nat} {H : Heap} (h : va_P D vwCl (zW_X3_init cy (a + 40) (a + 2) (a + 5)) H) : ∀ j, j < 9 → va_at D vwCl (a + (40 + j), CE cy LC a s0C (40 + j)) H := by
  intro j hj
  match j, hj with
  | 0, _ => exact h 0 _ rfl
  | 1, _ => exact h 1 _ rfl
  | 2, _ => exact h 2 _ rfl
  | 3, _ => exact h 3 _ rfl
  | 4, _ => exact h 4 _ rfl
  | 5, _ => exact h 5 _ rfl
  | 6, _ => exact h 6 _ rfl
  | 7, _ => exact h 7 _ rfl
  | 8, _ => exact h 8 _ rfl
  | j + 9, hj => exact absurd hj (by omega)
set_option maxRecDepth 20000 in
set_option maxHeartbeats 4000000 in
theorem sg_50 {D : va_G} {cy : Nat → ClassId} {a : Nat} {H : Heap} (h : va_P D vwCl (zW_X10_init cy (a + 50)) H) : ∀ j, j < 28 → va_at D vwCl (a + (50 + j), CE cy LC a s0C (50 + j)) H := by
  intro j hj
  match j, hj with
  | 0, _ => exact h 0 _ rfl
  | 1, _ => exact h 1 _ rfl
  | 2, _ => exact h 2 _ rfl
  | 3, _ => exact h 3 _ rfl
  | 4, _ => exact h 4 _ rfl
  | 5, _ => exact h 5 _ rfl
  | 6, _ => exact h 6 _ rfl
  | 7, _ => exact h 7 _ rfl
  | 8, _ => exact h 8 _ rfl
  | 9, _ => exact h 9 _ rfl
  | 10, _ => exact h 10 _ rfl
  | 11, _ => exact h 11 _ rfl
  | 12, _ => exact h 12 _ rfl
  | 13, _ => exact h 13 _ rfl
  | 14, _ => exact h 14 _ rfl
  | 15, _ => exact h 15 _ rfl
  | 16, _ => exact h 16 _ rfl
  | 17, _ => exact h 17 _ rfl
  | 18, _ => exact h 18 _ rfl
  | 19, _ => exact h 19 _ rfl
  | 20, _ => exact h 20 _ rfl
  | 21, _ => exact h 21 _ rfl
  | 22, _ => exact h 22 _ rfl
  | 23, _ => exact h 23 _ rfl
  | 24, _ => exact h 24 _ rfl
  | 25, _ => exact h 25 _ rfl
  | 26, _ => exact h 26 _ rfl
  | 27, _ => exact h 27 _ rfl
  | j + 28, hj => exact absurd hj (by omega)
set_option maxRecDepth 20000 in
set_option maxHeartbeats 4000000 in
theorem sg_78 {D : va_G} {cy : Nat → ClassId} {a : Nat} {H : Heap} (h : va_P D vwCl (zW_X4_init cy (a + 78)) H) : ∀ j, j < 3 → va_at D vwCl (a + (78 + j), CE cy LC a s0C (78 + j)) H := by
  intro j hj
  match j, hj with
  | 0, _ => exact h 0 _ rfl
  | 1, _ => exact h 1 _ rfl
  | 2, _ => exact h 2 _ rfl
  | j + 3, hj => exact absurd hj (by omega)
set_option maxRecDepth 20000 in
set_option maxHeartbeats 4000000 in
theorem sg_81 {D : va_G} {cy : Nat → ClassId} {a : Nat} {H : Heap} (h : va_P D vwCl (zW_X4_init cy (a + 81)) H) : ∀ j, j < 3 → va_at D vwCl (a + (81 + j), CE cy LC a s0C (81 + j)) H := by
  intro j hj
  match j, hj with
  | 0, _ => exact h 0 _ rfl
  | 1, _ => exact h 1 _ rfl
  | 2, _ => exact h 2 _ rfl
  | j + 3, hj => exact absurd hj (by omega)
set_option maxRecDepth 20000 in
set_option maxHeartbeats 4000000 in
theorem sg_84 {D : va_G} {cy : Nat → ClassId} {a : Nat} {H : Heap} (h : va_P D vwCl (zW_X1_init cy (a + 84)) H) : ∀ j, j < 6 → va_at D vwCl (a + (84 + j), CE cy LC a s0C (84 + j)) H := by
  intro j hj
  match j, hj with
  | 0, _ => exact h 0 _ rfl
  | 1, _ => exact h 1 _ rfl
  | 2, _ => exact h 2 _ rfl
  | 3, _ => exact h 3 _ rfl
  | 4, _ => exact h 4 _ rfl
  | 5, _ => exact h 5 _ rfl
  | j + 6, hj => exact absurd hj (by omega)
set_option maxRecDepth 20000 in
set_option maxHeartbeats 4000000 in
theorem sg_90 {D : va_G} {cy : Nat → ClassId} {a : Nat} {H : Heap} (h : va_P D vwCl (zW_X5_init cy (a + 90)) H) : ∀ j, j < 7 → va_at D vwCl (a + (90 + j), CE cy LC a s0C (90 + j)) H := by
  intro j hj
  match j, hj with
  | 0, _ => exact h 0 _ rfl
  | 1, _ => exact h 1 _ rfl
  | 2, _ => exact h 2 _ rfl
  | 3, _ => exact h 3 _ rfl
  | 4, _ => exact h 4 _ rfl
  | 5, _ => exact h 5 _ rfl
  | 6, _ => exact h 6 _ rfl
  | j + 7, hj => exact absurd hj (by omega)
set_option maxRecDepth 20000 in
set_option maxHeartbeats 4000000 in
theorem sg_97 {D : va_G} {cy : Nat → ClassId} {a : Nat} {H : Heap} (h : va_P D vwCl (zW_X0_init_1 cy (a + 97)) H) : ∀ j, j < 3 → va_at D vwCl (a + (97 + j), CE cy LC a s0C (97 + j)) H := by
  intro j hj
  match j, hj with
  | 0, _ => exact h 0 _ rfl
  | 1, _ => exact h 1 _ rfl
  | 2, _ => exact h 2 _ rfl
  | j + 3, hj => exact absurd hj (by omega)
set_option maxRecDepth 20000 in
set_option maxHeartbeats 4000000 in
theorem sg_102 {D : va_G} {cy : Nat → ClassId} {a : Nat} {H : Heap} (h : va_P D vwCl (zW_X9_init cy (a + 102)) H) : ∀ j, j < 2 → va_at D vwCl (a + (102 + j), CE cy LC a s0C (102 + j)) H := by
  intro j hj
  match j, hj with
  | 0, _ => exact h 0 _ rfl
  | 1, _ => exact h 1 _ rfl
  | j + 2, hj => exact absurd hj (by omega)
set_option maxRecDepth 20000 in
set_option maxHeartbeats 4000000 in
theorem sg_104 {D : va_G} {cy : Nat → ClassId} {a : Nat} {H : Heap} (h : va_P D vwCl (zW_X9_init cy (a + 104)) H) : ∀ j, j < 2 → va_at D vwCl (a + (104 + j), CE cy LC a s0C (104 + j)) H := by
  intro j hj
  match j, hj with
  | 0, _ => exact h 0 _ rfl
  | 1, _ => exact h 1 _ rfl
  | j + 2, hj => exact absurd hj (by omega)
set_option maxRecDepth 20000 in
set_option maxHeartbeats 4000000 in
theorem sg_106 {D : va_G} {cy : Nat → ClassId} {a : Nat} {H : Heap} (h : va_P D vwCl (zW_X9_init cy (a + 106)) H) : ∀ j, j < 2 → va_at D vwCl (a + (106 + j), CE cy LC a s0C (106 + j)) H := by
  intro j hj
  match j, hj with
  | 0, _ => exact h 0 _ rfl
  | 1, _ => exact h 1 _ rfl
  | j + 2, hj => exact absurd hj (by omega)
set_option maxRecDepth 20000 in
set_option maxHeartbeats 4000000 in
theorem sg_108 {D : va_G} {cy : Nat → ClassId} {a : Nat} {H : Heap} (h : va_P D vwCl (zW_X9_init cy (a + 108)) H) : ∀ j, j < 2 → va_at D vwCl (a + (108 + j), CE cy LC a s0C (108 + j)) H := by
  intro j hj
  match j, hj with
  | 0, _ => exact h 0 _ rfl
  | 1, _ => exact h 1 _ rfl
  | j + 2, hj => exact absurd hj (by omega)
set_option maxRecDepth 20000 in
set_option maxHeartbeats 4000000 in
theorem sg_110 {D : va_G} {cy : Nat → ClassId} {a : Nat} {H : Heap} (h : va_P D vwCl (zW_X10_init cy (a + 110)) H) : ∀ j, j < 28 → va_at D vwCl (a + (110 + j), CE cy LC a s0C (110 + j)) H := by
  intro j hj
  match j, hj with
  | 0, _ => exact h 0 _ rfl
  | 1, _ => exact h 1 _ rfl
  | 2, _ => exact h 2 _ rfl
  | 3, _ => exact h 3 _ rfl
  | 4, _ => exact h 4 _ rfl
  | 5, _ => exact h 5 _ rfl
  | 6, _ => exact h 6 _ rfl
  | 7, _ => exact h 7 _ rfl
  | 8, _ => exact h 8 _ rfl
  | 9, _ => exact h 9 _ rfl
  | 10, _ => exact h 10 _ rfl
  | 11, _ => exact h 11 _ rfl
  | 12, _ => exact h 12 _ rfl
  | 13, _ => exact h 13 _ rfl
  | 14, _ => exact h 14 _ rfl
  | 15, _ => exact h 15 _ rfl
  | 16, _ => exact h 16 _ rfl
  | 17, _ => exact h 17 _ rfl
  | 18, _ => exact h 18 _ rfl
  | 19, _ => exact h 19 _ rfl
  | 20, _ => exact h 20 _ rfl
  | 21, _ => exact h 21 _ rfl
  | 22, _ => exact h 22 _ rfl
  | 23, _ => exact h 23 _ rfl
  | 24, _ => exact h 24 _ rfl
  | 25, _ => exact h 25 _ rfl
  | 26, _ => exact h 26 _ rfl
  | 27, _ => exact h 27 _ rfl
  | j + 28, hj => exact absurd hj (by omega)
set_option maxRecDepth 20000 in
set_option maxHeartbeats 4000000 in
theorem sg_138 {D : va_G} {cy : Nat → ClassId} {a : Nat} {H : Heap} (h : va_P D vwCl (zW_X10_init cy (a + 138)) H) : ∀ j, j < 28 → va_at D vwCl (a + (138 + j), CE cy LC a s0C (138 + j)) H := by
  intro j hj
  match j, hj with
  | 0, _ => exact h 0 _ rfl
  | 1, _ => exact h 1 _ rfl
  | 2, _ => exact h 2 _ rfl
  | 3, _ => exact h 3 _ rfl
  | 4, _ => exact h 4 _ rfl
  | 5, _ => exact h 5 _ rfl
  | 6, _ => exact h 6 _ rfl
  | 7, _ => exact h 7 _ rfl
  | 8, _ => exact h 8 _ rfl
  | 9, _ => exact h 9 _ rfl
  | 10, _ => exact h 10 _ rfl
  | 11, _ => exact h 11 _ rfl
  | 12, _ => exact h 12 _ rfl
  | 13, _ => exact h 13 _ rfl
  | 14, _ => exact h 14 _ rfl
  | 15, _ => exact h 15 _ rfl
  | 16, _ => exact h 16 _ rfl
  | 17, _ => exact h 17 _ rfl
  | 18, _ => exact h 18 _ rfl
  | 19, _ => exact h 19 _ rfl
  | 20, _ => exact h 20 _ rfl
  | 21, _ => exact h 21 _ rfl
  | 22, _ => exact h 22 _ rfl
  | 23, _ => exact h 23 _ rfl
  | 24, _ => exact h 24 _ rfl
  | 25, _ => exact h 25 _ rfl
  | 26, _ => exact h 26 _ rfl
  | 27, _ => exact h 27 _ rfl
  | j + 28, hj => exact absurd hj (by omega)
set_option maxRecDepth 20000 in
set_option maxHeartbeats 4000000 in
theorem sg_166 {D : va_G} {cy : Nat → ClassId} {a : Nat} {H : Heap} (h : va_P D vwCl (zW_X10_init cy (a + 166)) H) : ∀ j, j < 28 → va_at D vwCl (a + (166 + j), CE cy LC a s0C (166 + j)) H := by
  intro j hj
  match j, hj with
  | 0, _ => exact h 0 _ rfl
  | 1, _ => exact h 1 _ rfl
  | 2, _ => exact h 2 _ rfl
  | 3, _ => exact h 3 _ rfl
  | 4, _ => exact h 4 _ rfl
  | 5, _ => exact h 5 _ rfl
  | 6, _ => exact h 6 _ rfl
  | 7, _ => exact h 7 _ rfl
  | 8, _ => exact h 8 _ rfl
  | 9, _ => exact h 9 _ rfl
  | 10, _ => exact h 10 _ rfl
  | 11, _ => exact h 11 _ rfl
  | 12, _ => exact h 12 _ rfl
  | 13, _ => exact h 13 _ rfl
  | 14, _ => exact h 14 _ rfl
  | 15, _ => exact h 15 _ rfl
  | 16, _ => exact h 16 _ rfl
  | 17, _ => exact h 17 _ rfl
  | 18, _ => exact h 18 _ rfl
  | 19, _ => exact h 19 _ rfl
  | 20, _ => exact h 20 _ rfl
  | 21, _ => exact h 21 _ rfl
  | 22, _ => exact h 22 _ rfl
  | 23, _ => exact h 23 _ rfl
  | 24, _ => exact h 24 _ rfl
  | 25, _ => exact h 25 _ rfl
  | 26, _ => exact h 26 _ rfl
  | 27, _ => exact h 27 _ rfl
  | j + 28, hj => exact absurd hj (by omega)
set_option maxRecDepth 20000 in
set_option maxHeartbeats 4000000 in
theorem s0C_of {D : va_G} {cy : Nat → ClassId} {a : Nat} {H : Heap} (h0 : va_at D vwCl (a, .inr (11, [.ref (a + 1), .ref (a + 2), .ref (a + 4), .ref (a + 32), .ref (a + 40), .ref (a + 49), .ref (a + 50), .ref (a + 78), .ref (a + 81), .ref (a + 84), .ref (a + 90), .ref (a + 97), .ref (a + 100), .ref (a + 101), .int 0, .long 0, .long 1, .int 0, .int 0, .int (-1)])) H) (h1 : va_at D vwCl ((a + 1), .inl (cy 4, 4, .inr (.inr (.inr (.inr (va_up (va_up (va_up (va_up (fun _ => none) 0 (some (a + 102))) 1 (some (a + 104))) 2 (some (a + 106))) 3 (some (a + 108)))))))) H) (h49 : va_at D vwCl ((a + 49), .inl (cy 5, 3, .inr (.inr (.inr (.inr (va_up (va_up (va_up (fun _ => none) 0 (some (a + 110))) 1 (some (a + 138))) 2 (some (a + 166)))))))) H) (g2 : va_P D vwCl (zW_X6_init cy (a + 2)) H) (g4 : va_P D vwCl (zW_X10_init cy (a + 4)) H) (g32 : va_P D vwCl (zW_X8_init cy (a + 32) (a + 2)) H) (g40 : va_P D vwCl (zW_X3_init cy (a + 40) (a + 2) (a + 5)) H) (g50 : va_P D vwCl (zW_X10_init cy (a + 50)) H) (g78 : va_P D vwCl (zW_X4_init cy (a + 78)) H) (g81 : va_P D vwCl (zW_X4_init cy (a + 81)) H) (g84 : va_P D vwCl (zW_X1_init cy (a + 84)) H) (g90 : va_P D vwCl (zW_X5_init cy (a + 90)) H) (g97 : va_P D vwCl (zW_X0_init_1 cy (a + 97)) H) (g100 : va_P D vwCl [((a + 100), .inl (cy 0, 180, .inl (fun _ => 0)))] H) (g101 : va_P D vwCl [((a + 101), .inl (cy 0, 1001, .inl (fun _ => 0)))] H) (g102 : va_P D vwCl (zW_X9_init cy (a + 102)) H) (g104 : va_P D vwCl (zW_X9_init cy (a + 104)) H) (g106 : va_P D vwCl (zW_X9_init cy (a + 106)) H) (g108 : va_P D vwCl (zW_X9_init cy (a + 108)) H) (g110 : va_P D vwCl (zW_X10_init cy (a + 110)) H) (g138 : va_P D vwCl (zW_X10_init cy (a + 138)) H) (g166 : va_P D vwCl (zW_X10_init cy (a + 166)) H) : va_P D vwCl (wsP cy LC a s0C) H := by
  intro k q hk
  have hl : k < 194 := by
    have h9 := (List.getElem?_eq_some_iff.mp hk).1
    have h8 : k < LC.2.2.2 := by simpa [wsP] using h9
    exact h8
  rw [wsP_at hl] at hk
  cases hk
  have h1 : va_at D vwCl (a + 1, CE cy LC a s0C 1) H := by
    refine (show H[a + 1]? = some (vp_cell _ _) from h1).trans (congrArg some ?_)
    rw [vp_cell_q, vp_cell_q]
    exact arrV_ext (fun j hj => by match j, hj with | 0, _ => rfl | 1, _ => rfl | 2, _ => rfl | 3, _ => rfl | j + 4, hj => exact absurd hj (by omega))
  have h49 : va_at D vwCl (a + 49, CE cy LC a s0C 49) H := by
    refine (show H[a + 49]? = some (vp_cell _ _) from h49).trans (congrArg some ?_)
    rw [vp_cell_q, vp_cell_q]
    exact arrV_ext (fun j hj => by match j, hj with | 0, _ => rfl | 1, _ => rfl | 2, _ => rfl | j + 3, hj => exact absurd hj (by omega))
  by_cases r_0 : k < 1
  · have e : k = 0 := by omega
    subst e
    exact h0
  by_cases r_1 : k < 2
  · have e : k = 1 := by omega
    subst e
    exact h1
  by_cases r_2 : k < 4
  · have e := sg_2 g2 (k - 2) (by omega)
    rw [show 2 + (k - 2) = k by omega] at e
    exact e
  by_cases r_4 : k < 32
  · have e := sg_4 g4 (k - 4) (by omega)
    rw [show 4 + (k - 4) = k by omega] at e
    exact e
  by_cases r_32 : k < 40
  · have e := sg_32 g32 (k - 32) (by omega)
    rw [show 32 + (k - 32) = k by omega] at e
    exact e
  by_cases r_40 : k < 49
  · have e := sg_40 g40 (k - 40) (by omega)
    rw [show 40 + (k - 40) = k by omega] at e
    exact e
  by_cases r_49 : k < 50
  · have e : k = 49 := by omega
    subst e
    exact h49
  by_cases r_50 : k < 78
  · have e := sg_50 g50 (k - 50) (by omega)
    rw [show 50 + (k - 50) = k by omega] at e
    exact e
  by_cases r_78 : k < 81
  · have e := sg_78 g78 (k - 78) (by omega)
    rw [show 78 + (k - 78) = k by omega] at e
    exact e
  by_cases r_81 : k < 84
  · have e := sg_81 g81 (k - 81) (by omega)
    rw [show 81 + (k - 81) = k by omega] at e
    exact e
  by_cases r_84 : k < 90
  · have e := sg_84 g84 (k - 84) (by omega)
    rw [show 84 + (k - 84) = k by omega] at e
    exact e
  by_cases r_90 : k < 97
  · have e := sg_90 g90 (k - 90) (by omega)
    rw [show 90 + (k - 90) = k by omega] at e
    exact e
  by_cases r_97 : k < 100
  · have e := sg_97 g97 (k - 97) (by omega)
    rw [show 97 + (k - 97) = k by omega] at e
    exact e
  by_cases r_100 : k < 101
  · have e : k = 100 := by omega
    subst e
    exact g100 0 _ rfl
  by_cases r_101 : k < 102
  · have e : k = 101 := by omega
    subst e
    exact g101 0 _ rfl
  by_cases r_102 : k < 104
  · have e := sg_102 g102 (k - 102) (by omega)
    rw [show 102 + (k - 102) = k by omega] at e
    exact e
  by_cases r_104 : k < 106
  · have e := sg_104 g104 (k - 104) (by omega)
    rw [show 104 + (k - 104) = k by omega] at e
    exact e
  by_cases r_106 : k < 108
  · have e := sg_106 g106 (k - 106) (by omega)
    rw [show 106 + (k - 106) = k by omega] at e
    exact e
  by_cases r_108 : k < 110
  · have e := sg_108 g108 (k - 108) (by omega)
    rw [show 108 + (k - 108) = k by omega] at e
    exact e
  by_cases r_110 : k < 138
  · have e := sg_110 g110 (k - 110) (by omega)
    rw [show 110 + (k - 110) = k by omega] at e
    exact e
  by_cases r_138 : k < 166
  · have e := sg_138 g138 (k - 138) (by omega)
    rw [show 138 + (k - 138) = k by omega] at e
    exact e
  by_cases r_166 : k < 194
  · have e := sg_166 g166 (k - 166) (by omega)
    rw [show 166 + (k - 166) = k by omega] at e
    exact e
  exact absurd hl r_166
