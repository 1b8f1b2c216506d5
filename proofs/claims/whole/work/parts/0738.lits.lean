/-- the literal's term -/
def tmS (i : Nat) : Term := match refS[i]? with
  | some q => Term.string q.1 q.2.1
  | none => Term.string "" 0
def flS : List Cond := flatC (Jvm.Cond.and given_1 narrow_1)
theorem fl_ex : ∀ i, i < 15 → Cond.exactly (tmS i) "java/lang/String" ∈ flS := by decide +kernel
theorem fl_co : ∀ i, i < 15 → Cond.eq (.field (tmS i) "java/lang/String" "coder" "B") (.int 0) ∈ flS := by decide +kernel
theorem fl_ar : ∀ i, i < 15 → Cond.arrayOf (.field (tmS i) "java/lang/String" "value" "[B") .byte ∈ flS := by decide +kernel
theorem fl_le : ∀ i, i < 15 → Cond.eq (.length (.field (tmS i) "java/lang/String" "value" "[B")) (.int (Int32.ofNat (lenS.getD i 0))) ∈ flS := by decide +kernel
def elP : List (List Nat) := [[208, 209, 210, 211, 212], [221, 222, 223, 224], [234, 235, 236, 237, 238], [249, 250, 251, 252], [264, 265], [278, 279, 280], [294, 295], [310, 311], [327, 328, 329, 330, 331, 332], [349], [39, 40, 41, 42, 43, 44, 45, 46, 47, 48, 49, 50, 51, 52, 53, 54, 55, 56, 57, 58, 59, 60, 61, 62, 63, 64, 65, 66, 67, 68, 69, 70, 71, 72, 73, 74, 75, 76, 77, 78, 79, 80, 81, 82, 83, 84, 85, 86, 87, 88, 89, 90, 91, 92, 93, 94, 95, 96, 97, 98, 99, 100, 101, 102, 103, 104, 105, 106, 107, 108, 109, 110, 111, 112, 113, 114, 115, 116, 117, 118, 119, 120, 121, 122, 123, 124, 125, 126, 127, 128, 129, 130, 131, 132, 133, 134, 135, 136, 137, 138, 139, 140, 141, 142, 143, 144, 145, 146, 147, 148, 149, 150, 151, 152, 153, 154, 155, 156, 157, 158, 159, 160, 161, 162, 163, 164, 165, 166, 167, 168, 169, 170, 171], [176, 177, 178, 179, 180, 181], [187, 188, 189, 190], [197, 198, 199, 200], [367, 368, 369, 370, 371, 372, 373, 374, 375, 376, 377, 378, 379, 380, 381, 382, 383, 384, 385, 386, 387, 388, 389, 390, 391, 392, 393, 394, 395, 396, 397, 398, 399, 400, 401, 402, 403, 404, 405, 406, 407, 408, 409, 410, 411, 412, 413, 414, 415, 416, 417, 418, 419, 420, 421, 422, 423, 424, 425, 426, 427, 428, 429, 430, 431, 432, 433, 434, 435, 436, 437, 438, 439, 440, 441, 442, 443, 444, 445, 446, 447, 448, 449, 450, 451, 452, 453, 454, 455, 456, 457, 458, 459, 460, 461, 462, 463, 464, 465, 466, 467, 468, 469, 470, 471, 472, 473, 474, 475, 476, 477, 478, 479, 480, 481, 482, 483, 484, 485, 486, 487, 488, 489, 490, 491, 492, 493, 494, 495, 496, 497, 498, 499, 500]]
theorem fl_el0 : ∀ j, j < 5 → flS[(elP.getD 0 []).getD j 0]? = some (Cond.eq (.elem (.field (tmS 0) "java/lang/String" "value" "[B") (.int (Int32.ofNat j))) (.int ((bytS.getD 0 []).getD j 0))) := by decide +kernel
theorem fl_el1 : ∀ j, j < 4 → flS[(elP.getD 1 []).getD j 0]? = some (Cond.eq (.elem (.field (tmS 1) "java/lang/String" "value" "[B") (.int (Int32.ofNat j))) (.int ((bytS.getD 1 []).getD j 0))) := by decide +kernel
theorem fl_el2 : ∀ j, j < 5 → flS[(elP.getD 2 []).getD j 0]? = some (Cond.eq (.elem (.field (tmS 2) "java/lang/String" "value" "[B") (.int (Int32.ofNat j))) (.int ((bytS.getD 2 []).getD j 0))) := by decide +kernel
theorem fl_el3 : ∀ j, j < 4 → flS[(elP.getD 3 []).getD j 0]? = some (Cond.eq (.elem (.field (tmS 3) "java/lang/String" "value" "[B") (.int (Int32.ofNat j))) (.int ((bytS.getD 3 []).getD j 0))) := by decide +kernel
theorem fl_el4 : ∀ j, j < 2 → flS[(elP.getD 4 []).getD j 0]? = some (Cond.eq (.elem (.field (tmS 4) "java/lang/String" "value" "[B") (.int (Int32.ofNat j))) (.int ((bytS.getD 4 []).getD j 0))) := by decide +kernel
theorem fl_el5 : ∀ j, j < 3 → flS[(elP.getD 5 []).getD j 0]? = some (Cond.eq (.elem (.field (tmS 5) "java/lang/String" "value" "[B") (.int (Int32.ofNat j))) (.int ((bytS.getD 5 []).getD j 0))) := by decide +kernel
theorem fl_el6 : ∀ j, j < 2 → flS[(elP.getD 6 []).getD j 0]? = some (Cond.eq (.elem (.field (tmS 6) "java/lang/String" "value" "[B") (.int (Int32.ofNat j))) (.int ((bytS.getD 6 []).getD j 0))) := by decide +kernel
theorem fl_el7 : ∀ j, j < 2 → flS[(elP.getD 7 []).getD j 0]? = some (Cond.eq (.elem (.field (tmS 7) "java/lang/String" "value" "[B") (.int (Int32.ofNat j))) (.int ((bytS.getD 7 []).getD j 0))) := by decide +kernel
theorem fl_el8 : ∀ j, j < 6 → flS[(elP.getD 8 []).getD j 0]? = some (Cond.eq (.elem (.field (tmS 8) "java/lang/String" "value" "[B") (.int (Int32.ofNat j))) (.int ((bytS.getD 8 []).getD j 0))) := by decide +kernel
theorem fl_el9 : ∀ j, j < 1 → flS[(elP.getD 9 []).getD j 0]? = some (Cond.eq (.elem (.field (tmS 9) "java/lang/String" "value" "[B") (.int (Int32.ofNat j))) (.int ((bytS.getD 9 []).getD j 0))) := by decide +kernel
theorem fl_el10 : ∀ j, j < 133 → flS[(elP.getD 10 []).getD j 0]? = some (Cond.eq (.elem (.field (tmS 10) "java/lang/String" "value" "[B") (.int (Int32.ofNat j))) (.int ((bytS.getD 10 []).getD j 0))) := by decide +kernel
theorem fl_el11 : ∀ j, j < 6 → flS[(elP.getD 11 []).getD j 0]? = some (Cond.eq (.elem (.field (tmS 11) "java/lang/String" "value" "[B") (.int (Int32.ofNat j))) (.int ((bytS.getD 11 []).getD j 0))) := by decide +kernel
theorem fl_el12 : ∀ j, j < 4 → flS[(elP.getD 12 []).getD j 0]? = some (Cond.eq (.elem (.field (tmS 12) "java/lang/String" "value" "[B") (.int (Int32.ofNat j))) (.int ((bytS.getD 12 []).getD j 0))) := by decide +kernel
theorem fl_el13 : ∀ j, j < 4 → flS[(elP.getD 13 []).getD j 0]? = some (Cond.eq (.elem (.field (tmS 13) "java/lang/String" "value" "[B") (.int (Int32.ofNat j))) (.int ((bytS.getD 13 []).getD j 0))) := by decide +kernel
theorem fl_el14 : ∀ j, j < 134 → flS[(elP.getD 14 []).getD j 0]? = some (Cond.eq (.elem (.field (tmS 14) "java/lang/String" "value" "[B") (.int (Int32.ofNat j))) (.int ((bytS.getD 14 []).getD j 0))) := by decide +kernel
theorem fl_el : ∀ i, i < 15 → ∀ j, j < lenS.getD i 0 → Cond.eq (.elem (.field (tmS i) "java/lang/String" "value" "[B") (.int (Int32.ofNat j))) (.int ((bytS.getD i []).getD j 0)) ∈ flS := by
  intro i hi j hj
  match i, hi, hj with
  | 0, _, hj => exact List.mem_of_getElem? (fl_el0 j hj)
  | 1, _, hj => exact List.mem_of_getElem? (fl_el1 j hj)
  | 2, _, hj => exact List.mem_of_getElem? (fl_el2 j hj)
  | 3, _, hj => exact List.mem_of_getElem? (fl_el3 j hj)
  | 4, _, hj => exact List.mem_of_getElem? (fl_el4 j hj)
  | 5, _, hj => exact List.mem_of_getElem? (fl_el5 j hj)
  | 6, _, hj => exact List.mem_of_getElem? (fl_el6 j hj)
  | 7, _, hj => exact List.mem_of_getElem? (fl_el7 j hj)
  | 8, _, hj => exact List.mem_of_getElem? (fl_el8 j hj)
  | 9, _, hj => exact List.mem_of_getElem? (fl_el9 j hj)
  | 10, _, hj => exact List.mem_of_getElem? (fl_el10 j hj)
  | 11, _, hj => exact List.mem_of_getElem? (fl_el11 j hj)
  | 12, _, hj => exact List.mem_of_getElem? (fl_el12 j hj)
  | 13, _, hj => exact List.mem_of_getElem? (fl_el13 j hj)
  | 14, _, hj => exact List.mem_of_getElem? (fl_el14 j hj)
  | i + 15, hi, _ => exact absurd hi (by omega)
def neP : List (List Nat) := [[0, 229, 243, 257, 270, 285, 300, 316, 337, 354, 213, 214, 215, 216, 505], [229, 0, 244, 258, 271, 286, 301, 317, 338, 355, 225, 226, 227, 228, 506], [243, 244, 0, 259, 272, 287, 302, 318, 339, 356, 239, 240, 241, 242, 507], [257, 258, 259, 0, 273, 288, 303, 319, 340, 357, 253, 254, 255, 256, 508], [270, 271, 272, 273, 0, 289, 304, 320, 341, 358, 266, 267, 268, 269, 509], [285, 286, 287, 288, 289, 0, 305, 321, 342, 359, 281, 282, 283, 284, 510], [300, 301, 302, 303, 304, 305, 0, 322, 343, 360, 296, 297, 298, 299, 511], [316, 317, 318, 319, 320, 321, 322, 0, 344, 361, 312, 313, 314, 315, 512], [337, 338, 339, 340, 341, 342, 343, 344, 0, 362, 333, 334, 335, 336, 513], [354, 355, 356, 357, 358, 359, 360, 361, 362, 0, 350, 351, 352, 353, 514], [213, 225, 239, 253, 266, 281, 296, 312, 333, 350, 0, 182, 191, 201, 501], [214, 226, 240, 254, 267, 282, 297, 313, 334, 351, 182, 0, 192, 202, 502], [215, 227, 241, 255, 268, 283, 298, 314, 335, 352, 191, 192, 0, 203, 503], [216, 228, 242, 256, 269, 284, 299, 315, 336, 353, 201, 202, 203, 0, 504], [505, 506, 507, 508, 509, 510, 511, 512, 513, 514, 501, 502, 503, 504, 0]]
theorem fl_neA : ∀ i, i < 15 → ∀ j, j < 15 → i ≠ j → flS[(neP.getD i []).getD j 0]? = some (Cond.not (Cond.eq (tmS i) (tmS j))) ∨ flS[(neP.getD i []).getD j 0]? = some (Cond.not (Cond.eq (tmS j) (tmS i))) := by decide +kernel
theorem fl_ne : ∀ i, i < 15 → ∀ j, j < 15 → i ≠ j → Cond.not (Cond.eq (tmS i) (tmS j)) ∈ flS ∨ Cond.not (Cond.eq (tmS j) (tmS i)) ∈ flS := fun i hi j hj hij => (fl_neA i hi j hj hij).elim (fun h => Or.inl (List.mem_of_getElem? h)) (fun h => Or.inr (List.mem_of_getElem? h))
theorem fl_cs : Cond.eq (.static "java/lang/String" "COMPACT_STRINGS" "Z") (.int 1) ∈ flS := by decide +kernel
theorem fl_si : Cond.isRef (.static "jdk/internal/util/Preconditions" "SIOOBE_FORMATTER" "Ljava/util/function/BiFunction;") ∈ flS := by decide +kernel
theorem tb_rf : ∀ q ∈ refS, Cond.stringRef q.1 q.2.1 q.2.2.1 ∈ lw_tbl := by decide +kernel
theorem tb_nx : ∀ w ∈ nxS, w ∈ lw_tbl := by decide +kernel
theorem tb_ls : Cond.laysStatic "java/lang/String" "COMPACT_STRINGS" "Z" ∈ lw_tbl ∧ Cond.initialized "java/lang/String" ∈ lw_tbl ∧ Cond.laysStatic "jdk/internal/util/Preconditions" "SIOOBE_FORMATTER" "Ljava/util/function/BiFunction;" ∈ lw_tbl ∧ Cond.initialized "jdk/internal/util/Preconditions" ∈ lw_tbl := by decide +kernel
theorem tb_ao : Cond.arrayOver (.object "TwinShelf$Tray") ∈ lw_tbl ∧ Cond.arrayOver (.object "TwinShelf$World") ∈ lw_tbl := by decide +kernel
theorem tm_at : ∀ q ∈ refS, q.2.2.2 < 15 ∧ tmS q.2.2.2 = Term.string q.1 q.2.1 := by decide +kernel
/-- the literals at the law's entry, for a pool that begins behind the heap -/
theorem sx_start {args : Array Value} {s : State} (hgv : (Jvm.Cond.and given_1 narrow_1).before args s = true) (hts : ∀ w ∈ lw_tbl, w.before args s = true) : ∃ adK adV : Nat → Nat, ∀ (cy : Nat → ClassId) (Λ : LY) (b : Nat), s.heap.size ≤ b → (∀ i, i < 15 → cy (100 + i) = adK i) → (∀ i, i < 15 → cy (200 + i) = adV i) → SX cy Λ b s := by
  have hs : ∀ w ∈ flS, w.before args s = true := flat_of_before _ hgv
  obtain ⟨adK, adV, h1, h2⟩ := vk_Sof (args := args) (s := s) (N := 15) (tm := tmS) (len := lenS) (byt := bytS) (A := fun q => s.heap.size ≤ q) (by decide) (fun i hi => hs _ (fl_ex i hi)) (fun i hi => hs _ (fl_co i hi)) (fun i hi => hs _ (fl_ar i hi)) (fun i hi => hs _ (fl_le i hi)) (fun i hi j hj => hs _ (fl_el i hi j hj)) (fun i j hi hj hij => (fl_ne i hi j hj hij).elim (fun h => Or.inl (hs _ h)) (fun h => Or.inr (hs _ h))) (fun a ha h => Nat.not_le.mpr ha h)
  refine ⟨adK, adV, fun cy Λ b hb hK hV => ?_⟩
  have hsub : ∀ q, inP Λ b q → s.heap.size ≤ q := fun q h => Nat.le_trans hb h.1
  have hA : ∀ a : Nat, a < s.heap.size → ¬ inP Λ b a := fun a ha h => Nat.not_le.mpr ha (hsub a h)
  refine ⟨?_, fun q hq => ?_, va_Zof (hts _ tb_ls.1) (hts _ tb_ls.2.1) (va_eqi (hs _ fl_cs)) hA, va_Zqof (hts _ tb_ls.2.2.1) (hts _ tb_ls.2.2.2) (hs _ fl_si) hA⟩
  · have h3 := vk_S.narrow h1 hsub
    refine ⟨fun i hi => ?_, fun i j hi hj e => h3.2 i j hi hj (by rw [← hK i hi, ← hK j hj]; exact e)⟩
    have h4 := h3.1 i hi
    rw [← hK i hi, ← hV i hi] at h4
    exact h4
  · obtain ⟨hi, ht⟩ := tm_at q hq
    rw [hK _ hi]
    exact vk_R.of (hts _ (tb_rf q hq)) (by rw [← ht]; exact h2 _ hi)
