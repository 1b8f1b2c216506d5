/-! the shelf's text, part by part -/
def Rst (f : Nat → Int32) : Prop := (∀ k, k < 4850 → (k = 5 ∨ k = 6 ∨ 28 ≤ k) → (∀ u, u < 4 → k ≠ 4440 + 8 * u) → f (19400 + k) = nI 0) ∧ (∀ u, u < 4 → f (19400 + (4440 + 8 * u)) = mI) ∧ f 19407 = mI
def SXx (K Y : Nat) (i : Nat → Int32) (c : Int32) (a4 a6 : Nat → Int32) (b5 b7 : Nat → Int64) (f : Nat → Int32) (g : Nat → Int64) (s : Int32) : Prop := (K ≤ 6 ∧ Y ≤ 6 ∧ i 6 = nI K ∧ i 7 = nI Y ∧ f 19403 = nI K ∧ f 19404 = nI Y) ∧ (∃ N R W, (1 ≤ N ∧ N ≤ 6 ∧ 1 ≤ R ∧ R ≤ N ∧ 1 ≤ W ∧ W ≤ N) ∧ (i 9 = nI N ∧ i 10 = nI R ∧ i 11 = nI W) ∧ f 19400 = nI N ∧ f 19401 = nI R ∧ f 19402 = nI W) ∧ (c = s ∧ (s = nI 0 ∨ s = nI 1)) ∧ (∀ j, j < K → a4 j = f (19410 + j) ∧ ∃ v, v < 1000 ∧ f (19410 + j) = nI v) ∧ (∀ j l, j < K → l < K → f (19410 + j) = f (19410 + l) → j = l) ∧ (∀ j, j < Y → a6 j = f (19416 + j) ∧ ∃ v, v < 1000 ∧ f (19416 + j) = nI v) ∧ (∀ j, j < K → NmR (b5 j) (g (48 + j))) ∧ (∀ j, j < Y → NmR (b7 j) (g (54 + j))) ∧ (∀ y, bt (i 8) y = decide (y < 6 ∧ f (19422 + y) = nI 1)) ∧ ((∀ y, y < 6 → f (19422 + y) = nI 0 ∨ f (19422 + y) = nI 1) ∧ ∀ y, Y ≤ y → y < 6 → f (19422 + y) = nI 0) ∧ Rst f
theorem Rst_u {f : Nat → Int32} (h : Rst f) {k : Nat} (hk : 19400 ≤ k ∧ k < 19428 ∧ k ≠ 19405 ∧ k ≠ 19406 ∧ k ≠ 19407) (v : Int32) : Rst (upd f k v) := ⟨fun j h1 h2 h3 => by rw [upd_at, if_neg (by omega)]; exact h.1 j h1 h2 h3, fun u hu => by rw [upd_at, if_neg (by omega)]; exact h.2.1 u hu, by rw [upd_at, if_neg (by omega)]; exact h.2.2⟩
section
variable {t : Nat → Nat} {n p : Nat} {σ0 τ0 σ τ : ST} {i a4 a6 f : Nat → Int32} {c s : Int32} {b5 b7 g : Nat → Int64} {K Y : Nat}
theorem SX_places (h : SXx K Y i c a4 a6 b5 b7 f g s) {N R W : Nat} (h1 : 1 ≤ N) (h2 : N ≤ 6) (h3 : 1 ≤ R) (h4 : R ≤ N) (h5 : 1 ≤ W) (h6 : W ≤ N) : SXx K Y (upd (upd (upd i 9 (nI N)) 10 (nI R)) 11 (nI W)) (nI 1) a4 a6 b5 b7 (upd (upd (upd f 19400 (nI N)) 19401 (nI R)) 19402 (nI W)) g (nI 1) := by
  obtain ⟨⟨x1, x2, x3, x4, x5, x6⟩, _, _, y1, y2, y3, y4, y5, y6, y7, y8⟩ := h
  have fe : ∀ k, k ≠ 19400 → k ≠ 19401 → k ≠ 19402 → upd (upd (upd f 19400 (nI N)) 19401 (nI R)) 19402 (nI W) k = f k := fun k a b d => by rw [upd_at, if_neg d, upd_at, if_neg b, upd_at, if_neg a]
  refine ⟨⟨x1, x2, x3, x4, by rw [fe _ (by omega) (by omega) (by omega)]; exact x5, by rw [fe _ (by omega) (by omega) (by omega)]; exact x6⟩, ⟨N, R, W, ⟨h1, h2, h3, h4, h5, h6⟩, ⟨rfl, rfl, rfl⟩, rfl, rfl, rfl⟩, ⟨rfl, Or.inr rfl⟩, ?_, ?_, ?_, y4, y5, ?_, ?_, Rst_u (Rst_u (Rst_u y8 (by omega) _) (by omega) _) (by omega) _⟩
  · intro j hj; rw [fe _ (by omega) (by omega) (by omega)]; exact y1 j hj
  · intro j l hj hl; rw [fe _ (by omega) (by omega) (by omega), fe _ (by omega) (by omega) (by omega)]; exact y2 j l hj hl
  · intro j hj; rw [fe _ (by omega) (by omega) (by omega)]; exact y3 j hj
  · intro y; rw [fe _ (by omega) (by omega) (by omega)]; exact y6 y
  · exact ⟨fun y hy => by rw [fe _ (by omega) (by omega) (by omega)]; exact y7.1 y hy, fun y hy hy2 => by rw [fe _ (by omega) (by omega) (by omega)]; exact y7.2 y hy hy2⟩
theorem SX_keeper (h : SXx K Y i c a4 a6 b5 b7 f g s) (hK : K < 6) {x y : Int64} {v : Nat} (hx : NmR x y) (hv : v < 1000) (hd : ∀ j, j < K → f (19410 + j) ≠ nI v) : SXx (K + 1) Y (upd i 6 (nI (K + 1))) c (upd a4 K (nI v)) a6 (vp_updL b5 K x) b7 (upd (upd f (19410 + K) (nI v)) 19403 (nI (K + 1))) (vp_updL g (48 + K) y) s := by
  obtain ⟨⟨x1, x2, x3, x4, x5, x6⟩, ⟨N, R, W, z1, z2, z3⟩, zz, y1, y2, y3, y4, y5, y6, y7, y8⟩ := h
  have fe : ∀ k, k ≠ 19403 → k ≠ 19410 + K → upd (upd f (19410 + K) (nI v)) 19403 (nI (K + 1)) k = f k := fun k a b => by rw [upd_at, if_neg a, upd_at, if_neg b]
  have fK : upd (upd f (19410 + K) (nI v)) 19403 (nI (K + 1)) (19410 + K) = nI v := by rw [upd_at, if_neg (by omega), upd_at, if_pos rfl]
  refine ⟨⟨by omega, x2, rfl, x4, rfl, by rw [fe _ (by omega) (by omega)]; exact x6⟩, ⟨N, R, W, z1, z2, by rw [fe _ (by omega) (by omega), fe _ (by omega) (by omega), fe _ (by omega) (by omega)]; exact z3⟩, zz, ?_, ?_, ?_, ?_, ?_, ?_, ?_, Rst_u (Rst_u y8 (by omega) _) (by omega) _⟩
  · intro j hj
    by_cases e : j = K
    · rw [e, fK]; exact ⟨by rw [upd_at, if_pos rfl], v, hv, rfl⟩
    · rw [fe _ (by omega) (by omega), upd_at, if_neg e]; exact y1 j (by omega)
  · intro j l hj hl
    by_cases e : j = K
    · rw [e, fK]
      by_cases e2 : l = K
      · intro _; exact e2.symm
      · rw [fe _ (by omega) (by omega)]; intro q; exact absurd q.symm (hd l (by omega))
    · rw [fe (19410 + j) (by omega) (by omega)]
      by_cases e2 : l = K
      · rw [e2, fK]; intro q; exact absurd q (hd j (by omega))
      · rw [fe _ (by omega) (by omega)]; exact y2 j l (by omega) (by omega)
  · intro j hj; rw [fe _ (by omega) (by omega)]; exact y3 j hj
  · intro j hj
    by_cases e : j = K
    · rw [e, updL_at, if_pos rfl, updL_at, if_pos rfl]; exact hx
    · rw [updL_at, if_neg e, updL_at, if_neg (by omega)]; exact y4 j (by omega)
  · intro j hj; rw [updL_at, if_neg (by omega)]; exact y5 j hj
  · intro y; rw [fe _ (by omega) (by omega)]; exact y6 y
  · exact ⟨fun y hy => by rw [fe _ (by omega) (by omega)]; exact y7.1 y hy, fun y hy hy2 => by rw [fe _ (by omega) (by omega)]; exact y7.2 y hy hy2⟩
theorem SX_key (h : SXx K Y i c a4 a6 b5 b7 f g s) (hY : Y < 6) {x y : Int64} {v : Nat} (hx : NmR x y) (hv : v < 1000) {i' f' : Nat → Int32} (hif : (i' = upd i 7 (nI (Y + 1)) ∧ f' = upd f (19416 + Y) (nI v)) ∨ (i' = upd (upd i 7 (nI (Y + 1))) 8 (i 8 ||| (nI 1 <<< (nI Y &&& nI 31))) ∧ f' = upd (upd f (19416 + Y) (nI v)) (19422 + Y) (nI 1))) : SXx K (Y + 1) i' c a4 (upd a6 Y (nI v)) b5 (vp_updL b7 Y x) (upd f' 19404 (nI (Y + 1))) (vp_updL g (48 + (6 + Y)) y) s := by
  obtain ⟨⟨x1, x2, x3, x4, x5, x6⟩, ⟨N, R, W, z1, z2, z3⟩, zz, y1, y2, y3, y4, y5, y6, y7, y8⟩ := h
  have ie : ∀ k, k ≠ 7 → k ≠ 8 → i' k = i k := fun k a b => by
    rcases hif with ⟨q, _⟩ | ⟨q, _⟩
    · rw [q, upd_at, if_neg a]
    · rw [q, upd_at, if_neg b, upd_at, if_neg a]
  have i7 : i' 7 = nI (Y + 1) := by
    rcases hif with ⟨q, _⟩ | ⟨q, _⟩ <;> rw [q] <;> rfl
  have fe : ∀ k, k ≠ 19404 → k ≠ 19416 + Y → k ≠ 19422 + Y → upd f' 19404 (nI (Y + 1)) k = f k := fun k a b d => by
    rcases hif with ⟨_, q⟩ | ⟨_, q⟩
    · rw [upd_at, if_neg a, q, upd_at, if_neg b]
    · rw [upd_at, if_neg a, q, upd_at, if_neg d, upd_at, if_neg b]
  have fY : upd f' 19404 (nI (Y + 1)) (19416 + Y) = nI v := by
    rcases hif with ⟨_, q⟩ | ⟨_, q⟩
    · rw [upd_at, if_neg (by omega), q, upd_at, if_pos rfl]
    · rw [upd_at, if_neg (by omega), q, upd_at, if_neg (by omega), upd_at, if_pos rfl]
  have hR : Rst f' := by
    rcases hif with ⟨_, q⟩ | ⟨_, q⟩
    · rw [q]; exact Rst_u y8 (by omega) _
    · rw [q]; exact Rst_u (Rst_u y8 (by omega) _) (by omega) _
  refine ⟨⟨x1, by omega, by rw [ie 6 (by decide) (by decide)]; exact x3, i7, by rw [fe _ (by omega) (by omega) (by omega)]; exact x5, by rw [upd_at, if_pos rfl]⟩, ⟨N, R, W, z1, by rw [ie 9 (by decide) (by decide), ie 10 (by decide) (by decide), ie 11 (by decide) (by decide)]; exact z2, by rw [fe _ (by omega) (by omega) (by omega), fe _ (by omega) (by omega) (by omega), fe _ (by omega) (by omega) (by omega)]; exact z3⟩, zz, ?_, ?_, ?_, ?_, ?_, ?_, ?_, Rst_u hR (by omega) _⟩
  · intro j hj; rw [fe _ (by omega) (by omega) (by omega)]; exact y1 j hj
  · intro j l hj hl; rw [fe _ (by omega) (by omega) (by omega), fe _ (by omega) (by omega) (by omega)]; exact y2 j l hj hl
  · intro j hj
    by_cases e : j = Y
    · rw [e, fY]; exact ⟨by rw [upd_at, if_pos rfl], v, hv, rfl⟩
    · rw [fe _ (by omega) (by omega) (by omega), upd_at, if_neg e]; exact y3 j (by omega)
  · intro j hj; rw [updL_at, if_neg (by omega)]; exact y4 j hj
  · intro j hj
    by_cases e : j = Y
    · rw [e, updL_at, if_pos rfl, updL_at, if_pos (by omega)]; exact hx
    · rw [updL_at, if_neg e, updL_at, if_neg (by omega)]; exact y5 j (by omega)
  · intro y
    rcases hif with ⟨q, q2⟩ | ⟨q, q2⟩
    · rw [upd_at, if_neg (by omega), q2, upd_at, if_neg (by omega), q, upd_at, if_neg (by decide)]; exact y6 y
    · rw [upd_at, if_neg (by omega), q2, q, upd_at, if_pos rfl, bt_ins _ (by omega), y6 y, upd_at]
      by_cases e : y = Y
      · rw [if_pos (by omega), decide_eq_true e, Bool.or_true]
        exact (decide_eq_true ⟨by omega, rfl⟩).symm
      · rw [if_neg (by omega), decide_eq_false e, Bool.or_false, upd_at]
        by_cases e6 : y < 6
        · rw [if_neg (by omega)]
        · rw [decide_eq_false (fun z => e6 z.1), decide_eq_false (fun z => e6 z.1)]
  · refine ⟨fun y hy => ?_, fun y hy hy2 => by rw [fe _ (by omega) (by omega) (by omega)]; exact y7.2 y (by omega) hy2⟩
    by_cases e : y = Y
    · rw [e]
      rcases hif with ⟨_, q⟩ | ⟨_, q⟩
      · rw [upd_at, if_neg (by omega), q, upd_at, if_neg (by omega)]; exact Or.inl (y7.2 Y (Nat.le_refl _) hY)
      · rw [upd_at, if_neg (by omega), q, upd_at, if_pos rfl]; exact Or.inr rfl
    · rw [fe _ (by omega) (by omega) (by omega)]; exact y7.1 y hy
def SW (t : Nat → Nat) (n : Nat) (σ0 τ0 : ST) (p : Nat) (σ τ : ST) : Prop := ∃ K Y i c a4 a6 b5 b7 f g s, SXx K Y i c a4 a6 b5 b7 f g s ∧ M t n σ0 τ0 p i c a4 a6 b5 b7 f g s σ τ
def c78 (σ : ST) : Option (Int32 × ST) := (f_X8_mayBegin 32 (gI σ 2 8) σ).bind fun u4 => if u4.1 = 0 then (k_X8_isTaken_78 u4.2) else ((f_X8_itemsOf (gI u4.2 2 8) u4.2).bind fun u6 => if u6.1 < 15 then (f_X8_takesItems 32 u6.1 u6.2) else none)
theorem tE_gt {t : Nat → Nat} {n p : Nat} (hp : p ≤ n) (h : tK t n p ≠ 0) : p < tE t n p := by
  have h1 := tF_sp t hp
  have h2 := tE_sp t hp
  by_cases e : n ≤ tF t n p
  · exact absurd (by unfold tK; rw [if_pos e]) h
  · have := h2.2.2 (by omega); omega
theorem sx_part (hx : SXx K Y i c a4 a6 b5 b7 f g s) (h : MC t n σ0 τ0 p i c a4 a6 b5 b7 f g s σ τ) (h0 : tK t n p ≠ 0) : Out σ0 τ0 (fun σ1 τ1 => ∃ p', p < p' ∧ SW t n σ0 τ0 p' σ1 τ1) (c78 σ) (f_X12_shelfPart 0 τ) := by
  have hlt := tE_gt h.1.2.1 h0
  have hl := tW_le t n p
  have h8 := CT_8 h.1.2.2.1
  have hin := r_in h.1.2.2.2.1 h.1.2.1 h.1.2.2.2.2.1
  have hx' := hx
  obtain ⟨⟨x1, x2, x3, x4, x5, x6⟩, ⟨N, R, W, z1, z2, z3⟩, ⟨zc, zs⟩, y1, y2, y3, y4, y5, y6, y7, y8⟩ := hx'
  have fin : ∀ k, 1 ≤ k → k ≤ 7 → ∃ σf τf, f_X6_blame 2 (nI k) σ = some (nI 0, σf) ∧ f_X12_fails 0 (nI k) τ = some (nI 0, τf) ∧ FF σ0 τ0 σf τf := fun k k1 k2 => both_fail h.1 h.2.1 k1 k2
  unfold c78 f_X12_shelfPart
  rw [hin, bsm]
  by_cases w0 : tW t n p = 0
  · rw [w0] at h8
    rw [if_neg (by decide)] at h8
    have h8' : gI σ 2 8 = 0 := h8
    rw [w0, if_pos (show ((if (0 : Nat) = 26 then mI else nI 0, τ) : Int32 × ST).1 = 0 from rfl)]
    simp only []
    unfold f_X8_mayBegin
    rw [h8', if_pos rfl, h.2.2.1.2.1, zc]
    rcases zs with zs | zs
    · rw [zs, if_pos (show nI 0 = 0 from rfl)]
      show Out σ0 τ0 _ ((f_X8_itemsOf (gI σ 2 8) σ).bind _) _
      rw [h8']
      show Out σ0 τ0 _ (f_X8_takesItems 32 11 σ) _
      refine (sp_places h zs).mono (fun σ1 τ1 q => ?_)
      obtain ⟨N', R', W', p', n1, n2, n3, n4, n5, n6, n7, n8⟩ := q
      exact ⟨p', by omega, K, Y, _, _, _, _, _, _, _, _, _, SX_places hx n1 n2 n3 n4 n5 n6, n8⟩
    · obtain ⟨σf, τf, b1, b2, b3⟩ := fin 5 (by omega) (by omega)
      have b1' : f_X6_blame 2 5 σ = some (nI 0, σf) := b1
      have b2' : f_X12_fails 0 5 τ = some (nI 0, τf) := b2
      rw [zs, if_neg (show ¬ nI 1 = 0 by decide), show LC.2.1 32 1 = 2 from rfl, b1']
      refine Or.inr ⟨σf, τf, rfl, ?_, b3⟩
      unfold f_X12_placesPart
      rw [h.2.2.2.2.2, zs, if_pos (show nI 1 = 1 from rfl), b2']
      rfl
  · by_cases w1 : tW t n p = 1
    · rw [w1] at h8
      rw [if_neg (by decide)] at h8
      have h8' : gI σ 2 8 = 3 := h8
      rw [w1, if_neg (show ¬ ((if (1 : Nat) = 26 then mI else nI 1, τ) : Int32 × ST).1 = 0 from fun z => absurd (show nI 1 = 0 from z) (by decide)), if_pos (show ((if (1 : Nat) = 26 then mI else nI 1, τ) : Int32 × ST).1 = 1 from rfl)]
      simp only []
      unfold f_X8_mayBegin
      rw [h8', if_neg (show ¬ (3 : Int32) = 0 by decide), if_pos rfl, show LC.2.1 32 0 = 33 from rfl, h.2.2.1.1, x3]
      by_cases hK : K < 6
      · rw [if_pos (show nI K < 6 from (nI_ltE (a := K) (b := 6) (by omega) (by omega)).mpr hK)]
        show Out σ0 τ0 _ ((f_X8_itemsOf (gI σ 2 8) σ).bind _) _
        rw [h8']
        show Out σ0 τ0 _ (f_X8_takesItems 32 12 σ) _
        refine (sp_keeper h hK x2 x3 x4 x5 x6 y4 y5 (fun j hj => (y1 j hj).1)).mono (fun σ1 τ1 q => ?_)
        obtain ⟨x, y, v, p', n1, n2, n3, n4, n5⟩ := q
        exact ⟨p', by omega, K + 1, Y, _, _, _, _, _, _, _, _, _, SX_keeper hx hK n1 n2 n3, n5⟩
      · obtain ⟨σf, τf, b1, b2, b3⟩ := fin 6 (by omega) (by omega)
        have b1' : f_X6_blame 2 6 σ = some (nI 0, σf) := b1
        have b2' : f_X12_fails 0 6 τ = some (nI 0, τf) := b2
        rw [if_neg (show ¬ nI K < 6 from fun q => hK ((nI_ltE (a := K) (b := 6) (by omega) (by omega)).mp q)), show LC.2.1 32 1 = 2 from rfl, b1']
        refine Or.inr ⟨σf, τf, rfl, ?_, b3⟩
        unfold f_X12_aKeeper
        rw [show ldA LR τ (LR.2.1 0 0) 19403 = some (nI K) from (ldA1 (τ := τ) (k := 19403) (by decide)).trans (by rw [h.2.2.2.1, x5]), bsm, if_pos (show nI K = 6 by rw [show K = 6 by omega]; rfl), b2']
        rfl
    · by_cases w2 : tW t n p = 2
      · rw [w2] at h8
        rw [if_neg (by decide)] at h8
        have h8' : gI σ 2 8 = 5 := h8
        rw [w2, if_neg (show ¬ ((if (2 : Nat) = 26 then mI else nI 2, τ) : Int32 × ST).1 = 0 from fun z => absurd (show nI 2 = 0 from z) (by decide)), if_neg (show ¬ ((if (2 : Nat) = 26 then mI else nI 2, τ) : Int32 × ST).1 = 1 from fun z => absurd (show nI 2 = 1 from z) (by decide)), if_pos (show ((if (2 : Nat) = 26 then mI else nI 2, τ) : Int32 × ST).1 = 2 from rfl)]
        simp only []
        unfold f_X8_mayBegin
        rw [h8', if_neg (show ¬ (5 : Int32) = 0 by decide), if_neg (show ¬ (5 : Int32) = 3 by decide), if_pos rfl, show LC.2.1 32 0 = 33 from rfl, h.2.2.1.1, x4]
        by_cases hY : Y < 6
        · rw [if_pos (show nI Y < 6 from (nI_ltE (a := Y) (b := 6) (by omega) (by omega)).mpr hY)]
          show Out σ0 τ0 _ ((f_X8_itemsOf (gI σ 2 8) σ).bind _) _
          rw [h8']
          show Out σ0 τ0 _ (f_X8_takesItems 32 13 σ) _
          refine (sp_key h x1 hY x3 x4 x5 x6 y4 y5).mono (fun σ1 τ1 q => ?_)
          obtain ⟨x, y, v, p', i', f', n1, n2, n3, n4, n5⟩ := q
          exact ⟨p', by omega, K, Y + 1, _, _, _, _, _, _, _, _, _, SX_key hx hY n1 n2 n4, n5⟩
        · obtain ⟨σf, τf, b1, b2, b3⟩ := fin 6 (by omega) (by omega)
          have b1' : f_X6_blame 2 6 σ = some (nI 0, σf) := b1
          have b2' : f_X12_fails 0 6 τ = some (nI 0, τf) := b2
          rw [if_neg (show ¬ nI Y < 6 from fun q => hY ((nI_ltE (a := Y) (b := 6) (by omega) (by omega)).mp q)), show LC.2.1 32 1 = 2 from rfl, b1']
          refine Or.inr ⟨σf, τf, rfl, ?_, b3⟩
          unfold f_X12_aKey
          rw [show ldA LR τ (LR.2.1 0 0) 19404 = some (nI Y) from (ldA1 (τ := τ) (k := 19404) (by decide)).trans (by rw [h.2.2.2.1, x6]), bsm, if_pos (show nI Y = 6 by rw [show Y = 6 by omega]; rfl), b2']
          rfl
      · have ne : ∀ k, k < 26 → k ≠ tW t n p → ¬ (if tW t n p = 26 then mI else nI (tW t n p)) = nI k := fun k hk hne q => by
          by_cases z6 : tW t n p = 26
          · rw [if_pos z6, mI_nI (by omega)] at q; exact q
          · rw [if_neg z6, nI_e (by omega) (by omega)] at q; omega
        have ne2 : ∀ k, k < 26 → k ≠ tW t n p → ¬ gI σ 2 8 = nI (cW k) := fun k hk hne q => by
          have hc : cW k < 26 := cW_lt ⟨k, hk⟩
          rw [h8] at q
          by_cases z6 : tW t n p = 26
          · rw [if_pos z6, mI_nI (by omega)] at q; exact q
          · have hc2 : cW (tW t n p) < 26 := cW_lt ⟨tW t n p, by omega⟩
            rw [if_neg z6, nI_e (by omega) (by omega)] at q
            exact hne (Fin.mk.inj (cW_inj ⟨k, hk⟩ ⟨tW t n p, by omega⟩ q.symm))
        obtain ⟨σf, τf, b1, b2, b3⟩ := fin 2 (by omega) (by omega)
        have b1' : f_X6_blame 2 2 σ = some (nI 0, σf) := b1
        have b2' : f_X12_fails 0 2 τ = some (nI 0, τf) := b2
        refine Or.inr ⟨σf, τf, ?_, ?_, b3⟩
        · unfold f_X8_mayBegin
          rw [if_neg (show ¬ gI σ 2 8 = 0 from ne2 0 (by decide) (fun q => w0 q.symm)), if_neg (show ¬ gI σ 2 8 = 3 from ne2 1 (by decide) (fun q => w1 q.symm)), if_neg (show ¬ gI σ 2 8 = 5 from ne2 2 (by decide) (fun q => w2 q.symm)), show LC.2.1 32 1 = 2 from rfl, b1']
          rfl
        · simp only []
          rw [if_neg (show ¬ (if tW t n p = 26 then mI else nI (tW t n p)) = 0 from ne 0 (by decide) (fun q => w0 q.symm)), if_neg (show ¬ (if tW t n p = 26 then mI else nI (tW t n p)) = 1 from ne 1 (by decide) (fun q => w1 q.symm)), if_neg (show ¬ (if tW t n p = 26 then mI else nI (tW t n p)) = 2 from ne 2 (by decide) (fun q => w2 q.symm)), b2']
          rfl
/-- the loops over the parts -/
theorem st_loop {t : Nat → Nat} {n : Nat} {σ0 τ0 : ST} : ∀ (m p turn N N' : Nat) (σ τ : ST), n ≤ 900 → n - p ≤ m → turn ≤ p → m < N → m + 1 < N' → SW t n σ0 τ0 p σ τ → ∃ σ1 τ1, k_X12_shelf_26 N' 0 1 τ = k_X12_shelf_45 0 τ1 ∧ ((k_X8_isTaken_14 N 32 (nI turn) σ = (f_X7_layRows 33 σ1).bind (fun u9 => (ckZ 1).bind fun z => some (z, u9)) ∧ gI τ1 0 18 = nI 0 ∧ ∃ K Y i c a4 a6 b5 b7 f g s, SXx K Y i c a4 a6 b5 b7 f g s ∧ SN i c a4 a6 b5 b7 σ1 ∧ RNs f g s τ1 ∧ Fr2 σ0 τ0 σ1 τ1) ∨ (k_X8_isTaken_14 N 32 (nI turn) σ = some (nI 0, σ1) ∧ FF σ0 τ0 σ1 τ1)) := by
  intro m
  induction m with
  | zero =>
    intro p turn N N' σ τ hn hm ht hN hN' hw
    obtain ⟨N1, rfl⟩ : ∃ N1, N = N1 + 1 := ⟨N - 1, by omega⟩
    obtain ⟨N2, rfl⟩ : ∃ N2, N' = N2 + 1 := ⟨N' - 1, by omega⟩
    obtain ⟨K, Y, i, c, a4, a6, b5, b7, f, g, s, hx, hM⟩ := hw
    obtain ⟨σ1, s1, hC⟩ := hM.step
    have hp := hM.1.2.1
    have z : tK t n p = 0 := by
      unfold tK
      rw [if_pos (by have := (tF_sp t hp).1; omega)]
    refine ⟨σ1, τ, ?_, Or.inl ⟨?_, hM.1.2.2.2.2.2, K, Y, i, c, a4, a6, b5, b7, f, g, s, hx, hC.2.2.1, hM.2.2.2, hC.2.1⟩⟩
    · rw [k_X12_shelf_26, if_neg (show ¬ (1 : Int32) = 0 by decide), hM.1.2.2.2.2.1.1, z, if_pos (show nI 0 = 0 from rfl)]
    · rw [k_X8_isTaken_14, if_neg (fun q => by have := (nI_ltE (a := 900) (b := turn) (by omega) (by omega)).mp q; omega), show LC.2.1 32 1 = 2 from rfl, s1, bsm, hC.1.2.2.1.1, z, if_pos (show nI (ckd 0) = 0 from rfl)]
      rfl
  | succ m ih =>
    intro p turn N N' σ τ hn hm ht hN hN' hw
    obtain ⟨N1, rfl⟩ : ∃ N1, N = N1 + 1 := ⟨N - 1, by omega⟩
    obtain ⟨N2, rfl⟩ : ∃ N2, N' = N2 + 1 := ⟨N' - 1, by omega⟩
    obtain ⟨K, Y, i, c, a4, a6, b5, b7, f, g, s, hx, hM⟩ := hw
    obtain ⟨σ1, s1, hC⟩ := hM.step
    have hp := hM.1.2.1
    have k0 : (nI (tK t n p) = (0 : Int32)) = (tK t n p = 0) := nI_e (b := 0) (by have := tK_le t n p; omega) (by omega)
    have c0 := ck_e t n p (k := 0) (by omega)
    by_cases z : tK t n p = 0
    · refine ⟨σ1, τ, ?_, Or.inl ⟨?_, hM.1.2.2.2.2.2, K, Y, i, c, a4, a6, b5, b7, f, g, s, hx, hC.2.2.1, hM.2.2.2, hC.2.1⟩⟩
      · rw [k_X12_shelf_26, if_neg (show ¬ (1 : Int32) = 0 by decide), hM.1.2.2.2.2.1.1, z, if_pos (show nI 0 = 0 from rfl)]
      · rw [k_X8_isTaken_14, if_neg (fun q => by have := (nI_ltE (a := 900) (b := turn) (by omega) (by omega)).mp q; omega), show LC.2.1 32 1 = 2 from rfl, s1, bsm, hC.1.2.2.1.1, z, if_pos (show nI (ckd 0) = 0 from rfl)]
        rfl
    · have eR : k_X12_shelf_26 (N2 + 1) 0 1 τ = (f_X12_shelfPart 0 τ).bind fun u14 => k_X12_shelf_26 N2 0 u14.1 u14.2 := by
        rw [k_X12_shelf_26, if_neg (show ¬ (1 : Int32) = 0 by decide), hM.1.2.2.2.2.1.1, if_neg (by rw [k0]; exact z)]
      have eC : k_X8_isTaken_14 (N1 + 1) 32 (nI turn) σ = (c78 σ1).bind fun u7 => if u7.1 = 0 then (k_X8_isTaken_78 u7.2) else (k_X8_isTaken_14 N1 32 (nI (turn + 1)) u7.2) := by
        rw [k_X8_isTaken_14, if_neg (fun q => by have := (nI_ltE (a := 900) (b := turn) (by omega) (by omega)).mp q; omega), show LC.2.1 32 1 = 2 from rfl, s1, bsm, hC.1.2.2.1.1, if_neg (show ¬ nI (ckd (tK t n p)) = 0 from fun q => z (by rw [← c0]; exact q)), show nI turn + 1 = nI (turn + 1) from by rw [show (1 : Int32) = nI 1 from rfl, nI_add]]
        unfold c78
        rw [Option.bind_assoc]
        congr 1
        funext u4
        by_cases q : u4.1 = 0
        · rw [if_pos q, if_pos q]; rfl
        · rw [if_neg q, if_neg q, Option.bind_assoc]
          congr 1
          funext u6
          by_cases q2 : u6.1 < 15
          · rw [if_pos q2, if_pos q2]
          · rw [if_neg q2, if_neg q2]; rfl
      rw [eR, eC]
      rcases sx_part hx hC z with ⟨σ2, τ2, e1, e2, p', hp', hw'⟩ | ⟨σ2, τ2, e1, e2, hf⟩
      · rw [e1, e2, bsm, bsm, if_neg (show ¬ ((nI 1, σ2) : Int32 × ST).1 = 0 from fun z => absurd (show nI 1 = 0 from z) (by decide))]
        exact ih p' (turn + 1) N1 N2 σ2 τ2 hn (by omega) (by omega) (by omega) (by omega) hw'
      · obtain ⟨N3, rfl⟩ : ∃ N3, N2 = N3 + 1 := ⟨N2 - 1, by omega⟩
        refine ⟨σ2, τ2, ?_, Or.inr ⟨?_, hf⟩⟩
        · rw [e2, bsm]
          show k_X12_shelf_26 (N3 + 1) 0 (nI 0) τ2 = _
          rw [k_X12_shelf_26, if_pos (show nI 0 = 0 from rfl)]
        · rw [e1, bsm, if_pos (show ((nI 0, σ2) : Int32 × ST).1 = 0 from rfl)]
          rfl
end
