/-! THE RELATION, piece by piece -/
/-- the shelf's numbers are the same -/
def Hd (f f' : Nat → Int32) : Prop := ∀ k, k < 5 ∨ (10 ≤ k ∧ k < 28) → f' k = f k
theorem Hd.K {f f' : Nat → Int32} (h : Hd f f') : KN f' = KN f := by unfold KN; rw [h 3 (by omega)]
theorem Hd.Y {f f' : Nat → Int32} (h : Hd f f') : YN f' = YN f := by unfold YN; rw [h 4 (by omega)]
theorem Hd.N {f f' : Nat → Int32} (h : Hd f f') : NN f' = NN f := by unfold NN; rw [h 0 (by omega)]
theorem Hd.R {f f' : Nat → Int32} (h : Hd f f') : RN f' = RN f := by unfold RN; rw [h 1 (by omega)]
theorem Hd.W {f f' : Nat → Int32} (h : Hd f f') : WN f' = WN f := by unfold WN; rw [h 2 (by omega)]
theorem Hd.sm {f f' : Nat → Int32} (h : Hd f f') {y : Nat} (hy : y < 6) : sm f' y = sm f y := by unfold _root_.Jvm.Pilot.CTwinShelfLaw_law_r2387_1855c5.sm; rw [h _ (by omega)]
theorem Hd.ka {f f' : Nat → Int32} (h : Hd f f') {i : Nat} (hi : i < 6) : ka f' i = ka f i := by unfold _root_.Jvm.Pilot.CTwinShelfLaw_law_r2387_1855c5.ka; rw [h _ (by omega)]
theorem Hd.ya {f f' : Nat → Int32} (h : Hd f f') {i : Nat} (hi : i < 6) : ya f' i = ya f i := by unfold _root_.Jvm.Pilot.CTwinShelfLaw_law_r2387_1855c5.ya; rw [h _ (by omega)]
theorem Hd.wy {f f' : Nat → Int32} (h : Hd f f') {y i : Nat} (hy : y < 6) (hi : i < 6) : wy f' y i = wy f y i := by unfold _root_.Jvm.Pilot.CTwinShelfLaw_law_r2387_1855c5.wy; rw [h.ka hi, h.ya hy]
theorem Hd.pl {f f' : Nat → Int32} (h : Hd f f') (hK : KN f ≤ 6) {y k : Nat} (hy : y < 6) : isPl f' y k = isPl f y k := by
  by_cases hk : k < KN f
  · unfold isPl; rw [h.K, h.N, rk_congr (fun i hi => h.wy hy (by omega)) (h.wy hy (by omega))]
  · rw [isPl_no (f := f') (by rw [h.K]; omega), isPl_no (f := f) (by omega)]
theorem Hd.rw6 {f f' : Nat → Int32} (h : Hd f f') (hK : KN f ≤ 6) {y m : Nat} (hy : y < 6) : rw6 f' y m = rw6 f y m := by
  unfold _root_.Jvm.Pilot.CTwinShelfLaw_law_r2387_1855c5.rw6; rw [h.K, rho_congr (fun i hi => h.wy hy (by omega))]
theorem Hd.pm {f f' : Nat → Int32} (h : Hd f f') : pm f' = pm f := by unfold _root_.Jvm.Pilot.CTwinShelfLaw_law_r2387_1855c5.pm; rw [h.K, h.N]
theorem Hd.wf {f f' : Nat → Int32} (h : Hd f f') (hf : WFs f) : WFs f' := by
  obtain ⟨q1, q2, q3, q4, q5, q6, q7, q8⟩ := hf
  have := h.K; have := h.Y; have := h.N; have := h.R; have := h.W
  refine ⟨by omega, by omega, by omega, by omega, by omega, fun i hi => ?_, fun i hi => ?_, fun i j hi hj e => ?_⟩
  · rw [h.ka (by omega)]; exact q6 i (by omega)
  · rw [h.ya (by omega)]; exact q7 i (by omega)
  · rw [h.ka (by omega), h.ka (by omega)] at e; exact q8 i j (by omega) (by omega) e
theorem RS_c {s s' : ST} {f f' : Nat → Int32} (hf : Hd f f') (h : RS s f) (hi : ∀ k, gI s' 1 k = gI s 1 k) (h2 : gA s' 2 = gA s 2) (h4 : gA s' 4 = gA s 4) (h6 : gA s' 6 = gA s 6) (h7 : gA s' 7 = gA s 7) : RS s' f' := by
  obtain ⟨hw, s2, s3, s4, s5, s6, s7, s8⟩ := h
  obtain ⟨hK, hY, _⟩ := id hw
  refine ⟨hf.wf hw, ?_, ?_, ?_, ?_, ?_, ?_, ?_⟩
  · rw [hi, hi, hi, hi, hi, hf 3 (by omega), hf 4 (by omega), hf 0 (by omega), hf 1 (by omega), hf 2 (by omega)]; exact s2
  · intro i h; rw [hf.K] at h; rw [h2, hf _ (by omega)]; exact s3 i h
  · intro i h; rw [hf.Y] at h; rw [h4, hf _ (by omega)]; exact s4 i h
  · intro y
    rw [hi, s5]
    by_cases hy : y < 6
    · rw [hf.sm hy]
    · rw [decide_eq_false hy]; rfl
  · intro y h1 h2; rw [hf.Y] at h1; rw [hf.sm h2]; exact s6 y h1 h2
  · intro y hy k; rw [hf.Y] at hy; rw [h7, hf.pl hK (by omega)]; exact s7 y hy k
  · intro y hy m hm; rw [hf.Y] at hy; rw [hf.K] at hm; rw [h6, hf.rw6 hK (by omega)]; exact s8 y hy m hm
theorem RU_c {s s' : ST} {f f' : Nat → Int32} (h : RU s f) (h5 : f' 5 = f 5) (h6 : f' 6 = f 6) (i9 : gI s' 0 9 = gI s 0 9) (i10 : gI s' 0 10 = gI s 0 10) : RU s' f' := ⟨by rw [i9, h5]; exact h.1, by rw [i10, h6]; exact h.2⟩
theorem RT_c {s s' : ST} {f f' : Nat → Int32} (hf : Hd f f') (hY : YN f ≤ 6) (h : RTk s f) (ht : ∀ k, 4440 ≤ k → k < 4480 → f' k = f k) (hg : ∀ k y, k < 6 → y < 6 → gv f k y ≤ gv f' k y) (i11 : gI s' 0 11 = gI s 0 11) (h23 : gA s' 23 = gA s 23) (h24 : gA s' 24 = gA s 24) (h25 : gA s' 25 = gA s 25) : RTk s' f' := by
  refine ⟨fun k => ?_, fun t hT => ?_⟩
  · rw [i11, h.1 k]
    exact decide_eq_decide.mpr ⟨fun z => ⟨z.1, by rw [ht _ (by omega) (by omega)]; exact z.2⟩, fun z => ⟨z.1, by have := z.2; rw [ht _ (by omega) (by omega)] at this; exact this⟩⟩
  · rw [h23, h24, h25]
    refine ⟨(h.2 t hT).1, fun h1 => ?_⟩
    rw [ht _ (by omega) (by omega)] at h1
    obtain ⟨y, a1, a2, a3, a4, a5⟩ := (h.2 t hT).2 h1
    refine ⟨y, by rw [hf.Y]; exact a1, by rw [hf.sm (by omega)]; exact a2, by rw [ht _ (by omega) (by omega)]; exact a3, a4, fun k hk => ?_⟩
    rw [ht _ (by omega) (by omega)]
    exact ⟨(a5 k hk).1, Nat.le_trans (a5 k hk).2 (hg k y hk (by omega))⟩
theorem gv_c {f f' : Nat → Int32} (h : ∀ k, 4400 ≤ k → k < 4436 → f' k = f k) {k y : Nat} (hk : k < 6) (hy : y < 6) : gv f' k y = gv f k y := by unfold gv; rw [h _ (by omega) (by omega)]
theorem RG_c {s s' : ST} {f f' : Nat → Int32} (hf : Hd f f') (h : RGv s f) (hg : ∀ k, 4400 ≤ k → k < 4436 → f' k = f k) (h26 : gA s' 26 = gA s 26) : RGv s' f' := by
  refine ⟨fun c hc => ?_, fun k y hk hy => ?_⟩
  · rw [h26, hg _ (by omega) (by omega)]; exact h.1 c hc
  · rw [gv_c hg hk hy, hf.K, hf.Y]; exact h.2 k y hk hy
theorem RV_c {s s' : ST} {f f' : Nat → Int32} (hG : RGv s f) (h : RV s f) (hg : ∀ k, 4400 ≤ k → k < 4436 → f' k = f k) (hv : ∀ k, 3280 ≤ k → k < 4400 → f' k = f k) (h27 : gA s' 27 = gA s 27) : RV s' f' := by
  intro y k i hy hk hi
  rw [gv_c hg hk hy] at hi
  have := (hG.2 k y hk hy).1
  rw [h27, hv _ (by unfold vb; omega) (by unfold vb; omega)]
  exact h y k i hy hk hi
theorem RH_c {B : Nat} {s s' : ST} {f f' : Nat → Int32} (hf : Hd f f') (h : RH B s f) (hg : ∀ k y, k < 6 → y < 6 → gv f k y ≤ gv f' k y) (hv : ∀ k, 30 ≤ k → k < 462 → f' k = f k) (h16 : gA s' 16 = gA s 16) (h17 : gA s' 17 = gA s 17) : RH B s' f' := by
  intro p y hp hy
  obtain ⟨h1, h2⟩ := h p y hp hy
  rw [hf.sm hy]
  have e : ∀ k, k < 12 → sh f' (tb p y) k = sh f (tb p y) k := fun k hk => by unfold sh; exact hv _ (by unfold tb; omega) (by unfold tb; omega)
  refine ⟨CR_congr e (fun k hk => ?_), TI_congr e (fun _ _ => rfl) (TI_mono (Nat.le_refl _) (fun k hk => hg k y hk hy) h2)⟩
  have := h1 k hk
  rw [h16, h17]; exact this
theorem RI_c {B : Nat} {s s' : ST} {f f' : Nat → Int32} (hf : Hd f f') (h : RI B s f) (hg : ∀ k y, k < 6 → y < 6 → gv f k y ≤ gv f' k y) (hv : ∀ k, 470 ≤ k → k < 3278 → f' k = f k) (h19 : gA s' 19 = gA s 19) (h20 : gA s' 20 = gA s 20) (h21 : gA s' 21 = gA s 21) : RI B s' f' := by
  intro p q hp hq
  have h1 := h p q hp hq
  refine ⟨fun y => ?_, fun y hy => ?_⟩
  · rw [h21, h1.1 y]
    exact decide_eq_decide.mpr ⟨fun z => ⟨z.1, by rw [hv _ (by unfold hb; omega) (by have := z.1; unfold hb; omega)]; exact z.2⟩, fun z => ⟨z.1, by have := z.2; rw [hv _ (by unfold hb; omega) (by have := z.1; unfold hb; omega)] at this; exact this⟩⟩
  · obtain ⟨a1, a2, a3⟩ := h1.2 y hy
    have hlt : 470 ≤ hb p q y ∧ hb p q y + 13 ≤ 3278 := by unfold hb; omega
    have e : ∀ k, k < 12 → sh f' (hb p q y + 1) k = sh f (hb p q y + 1) k := fun k hk => by unfold sh; exact hv _ (by omega) (by omega)
    rw [hf.sm hy]
    refine ⟨CR_congr e (fun k hk => ?_), TI_congr e (fun _ _ => rfl) (TI_mono (Nat.le_refl _) (fun k hk => hg k y hk hy) a2), ?_⟩
    · have := a1 k hk
      rw [h19, h20]; exact this
    · rw [hv _ (by omega) (by omega), hf.K, hf.Y]
      rcases a3 with h3 | h3
      · exact Or.inl ⟨h3.1, fun k hk => by rw [hv _ (by omega) (by omega)]; exact h3.2 k hk⟩
      · exact Or.inr h3
theorem VD_c {f f' : Nat → Int32} (hf : Hd f f') (hY : YN f ≤ 6) {D : Nat → Nat → Nat} {L : Nat} (h5 : VD f D L) : VD f' D L := by
  intro k hk
  obtain ⟨a1, a2, a3, a4, a5⟩ := h5 k hk
  rw [hf.Y, hf.K]
  refine ⟨a1, a2, fun e => ?_, fun e => ?_, a5⟩
  · have hy := a2 (by rcases e with e | e <;> rw [e] <;> rfl)
    rw [hf.sm (by omega)]; exact a3 e
  · have hy := a2 (by rw [e]; rfl)
    rw [hf.sm (by omega)]; exact a4 e
theorem RD_c {s s' : ST} {f f' : Nat → Int32} (hf : Hd f f') (hY : YN f ≤ 6) (h : RDy s f) (h7 : f' 7 = f 7) (hv : ∀ k, 4480 ≤ k → k < 4850 → f' k = f k) (i6 : gI s' 8 6 = gI s 8 6) (i7 : gI s' 8 7 = gI s 8 7) (ha : ∀ x, 9 ≤ x → x < 15 → gA s' x = gA s x) : RDy s' f' := by
  rcases h with h1 | ⟨L, D, h1, h2, h3, h4, h5, h6, h7'⟩
  · exact Or.inl ⟨by rw [h7]; exact h1.1, by rw [i6]; exact h1.2.1, by rw [i7]; exact h1.2.2⟩
  · refine Or.inr ⟨L, D, h1, by rw [h7]; exact h2, by rw [i6]; exact h3, by rw [i7]; exact h4, VD_c hf hY h5, ?_, ?_⟩
    · intro k hk
      rw [ha 9 (by omega) (by omega), ha 10 (by omega) (by omega), ha 11 (by omega) (by omega), ha 12 (by omega) (by omega), ha 13 (by omega) (by omega), ha 14 (by omega) (by omega)]
      exact h6 k hk
    · intro k hk
      have h8 := h7' k hk
      unfold stb at h8 ⊢
      rw [hv _ (by omega) (by omega), hv _ (by omega) (by omega), hv _ (by omega) (by omega), hv _ (by omega) (by omega), hv _ (by omega) (by omega), hv _ (by omega) (by omega)]
      exact h8
theorem RN_c {s s' : ST} {f f' : Nat → Int32} {g : Nat → Int64} (hf : Hd f f') (h : RNm s f g) (h3 : gB s' 3 = gB s 3) (h5 : gB s' 5 = gB s 5) : RNm s' f' g := by
  refine ⟨fun i hi => ?_, fun i hi => ?_⟩
  · rw [hf.K] at hi; rw [h3]; exact h.1 i hi
  · rw [hf.Y] at hi; rw [h5]; exact ⟨(h.2 i hi).1, fun h6 => by rw [hf _ (by omega)]; exact (h.2 i hi).2 h6⟩
/-! fall, part -/
theorem RelW_up {B : Nat} {s : ST} {f : Nat → Int32} {g : Nat → Int64} (h : RelW B s f g) (u : Int32) : RelW B (sI s 0 9 u) (upd f 5 u) g := by
  obtain ⟨hS, hU, hT, hG, hV, hH, hI, hD, hN⟩ := h
  have e : ∀ k, k ≠ 5 → upd f 5 u k = f k := fun k h1 => by rw [upd_at, if_neg h1]
  have hf : Hd f (upd f 5 u) := fun k hk => e k (by omega)
  have hY := hS.1.2.1
  have hg : ∀ k y, k < 6 → y < 6 → gv f k y ≤ gv (upd f 5 u) k y := fun k y hk hy => by rw [gv_c (fun j a b => e j (by omega)) hk hy]; exact Nat.le_refl _
  refine ⟨RS_c hf hS (fun k => by rw [gI_sI, if_neg (by omega)]) rfl rfl rfl rfl, ⟨by rw [gI_sI]; rfl, ?_⟩, RT_c hf hY hT (fun k a b => e k (by omega)) hg (by rw [gI_sI, if_neg (by omega)]) rfl rfl rfl, RG_c hf hG (fun k a b => e k (by omega)) rfl, RV_c hG hV (fun k a b => e k (by omega)) (fun k a b => e k (by omega)) rfl, RH_c hf hH hg (fun k a b => e k (by omega)) rfl rfl, RI_c hf hI hg (fun k a b => e k (by omega)) rfl rfl rfl, RD_c hf hY hD (e 7 (by omega)) (fun k a b => e k (by omega)) (by rw [gI_sI, if_neg (by omega)]) (by rw [gI_sI, if_neg (by omega)]) (fun _ _ _ => rfl), RN_c hf hN rfl rfl⟩
  rw [gI_sI, if_neg (by omega), e 6 (by omega)]; exact hU.2
theorem RelW_pt {B : Nat} {s : ST} {f : Nat → Int32} {g : Nat → Int64} (h : RelW B s f g) (u : Int32) : RelW B (sI s 0 10 u) (upd f 6 u) g := by
  obtain ⟨hS, hU, hT, hG, hV, hH, hI, hD, hN⟩ := h
  have e : ∀ k, k ≠ 6 → upd f 6 u k = f k := fun k h1 => by rw [upd_at, if_neg h1]
  have hf : Hd f (upd f 6 u) := fun k hk => e k (by omega)
  have hY := hS.1.2.1
  have hg : ∀ k y, k < 6 → y < 6 → gv f k y ≤ gv (upd f 6 u) k y := fun k y hk hy => by rw [gv_c (fun j a b => e j (by omega)) hk hy]; exact Nat.le_refl _
  refine ⟨RS_c hf hS (fun k => by rw [gI_sI, if_neg (by omega)]) rfl rfl rfl rfl, ⟨?_, by rw [gI_sI]; rfl⟩, RT_c hf hY hT (fun k a b => e k (by omega)) hg (by rw [gI_sI, if_neg (by omega)]) rfl rfl rfl, RG_c hf hG (fun k a b => e k (by omega)) rfl, RV_c hG hV (fun k a b => e k (by omega)) (fun k a b => e k (by omega)) rfl, RH_c hf hH hg (fun k a b => e k (by omega)) rfl rfl, RI_c hf hI hg (fun k a b => e k (by omega)) rfl rfl rfl, RD_c hf hY hD (e 7 (by omega)) (fun k a b => e k (by omega)) (by rw [gI_sI, if_neg (by omega)]) (by rw [gI_sI, if_neg (by omega)]) (fun _ _ _ => rfl), RN_c hf hN rfl rfl⟩
  rw [gI_sI, if_neg (by omega), e 5 (by omega)]; exact hU.1
/-- what a world's own call leaves as it was -/
def Wp (w : Nat) (σ σ1 τ τ1 : ST) : Prop := Sq (inW w) [] σ σ1 ∧ Sc [28] τ τ1 ∧ ∀ k, 4850 ≤ k → k < 29100 → gA τ1 1 k = gA τ 1 k
theorem Wp.rf {w : Nat} {σ τ : ST} : Wp w σ σ τ τ := ⟨Sq.rf σ, Sc.rf τ, fun _ _ _ => rfl⟩
theorem Wp.trans {w : Nat} {σ σ1 σ2 τ τ1 τ2 : ST} (h : Wp w σ σ1 τ τ1) (h2 : Wp w σ1 σ2 τ1 τ2) : Wp w σ σ2 τ τ2 := ⟨h.1.trans h2.1, h.2.1.trans h2.2.1, fun k a b => (h2.2.2 k a b).trans (h.2.2 k a b)⟩
theorem inW_0 {w : Nat} (hw : isW w) {x : Nat} (hx : x < 28 ∧ (x < 1 ∨ 15 ≤ x)) : inW w (w + x) = true := by
  unfold inW
  rw [decide_eq_true (show w ≤ w + x by omega), decide_eq_true (show w + x < w + 28 by omega)]
  by_cases h : w + 1 ≤ w + x
  · rw [decide_eq_true h, decide_eq_false (show ¬ w + x < w + 15 by omega)]; rfl
  · rw [decide_eq_false h]; rfl
theorem isW_pos {w : Nat} (hw : isW w) : 4 ≤ w := by rcases hw with rfl | rfl | rfl | rfl | rfl <;> decide
theorem SqW_sI {w : Nat} (hw : isW w) {e : List Nat} {σ σ1 : ST} (h : Sq (inW w) e σ σ1) {x : Nat} (hx : x < 28 ∧ (x < 1 ∨ 15 ≤ x)) (k : Nat) (v : Int32) : Sq (inW w) e σ (sI σ1 (w + x) k v) := h.sI v (by rw [if_neg (by have := isW_pos hw; omega), inW_0 hw hx]; simp)
theorem SqW_sA {w : Nat} (hw : isW w) {e : List Nat} {σ σ1 : ST} (h : Sq (inW w) e σ σ1) {x : Nat} (hx : x < 28 ∧ (x < 1 ∨ 15 ≤ x)) (f : Nat → Int32) : Sq (inW w) e σ (sA σ1 (w + x) f) := h.sA f (by rw [inW_0 hw hx]; simp)
/-- behind a world's own call on the main world, with status v -/
theorem Rel_W {i : Nat} {σ τ σ1 τ1 : ST} (h : Rel i σ τ) (hp : Wp wM σ σ1 τ τ1) (hd : gI τ1 0 28 = gI τ 0 28) (hw : RelW (50000 * (i + 6)) (wv σ1 wM) (gA τ1 1) (gB τ 2)) (v : Int32) : Rel (i + 6) (sI σ1 0 14 v) (sI τ1 0 2 v) := by
  refine Rel_w h ((hp.1.mono (fun k _ => rfl)).sI v rfl) ((hp.2.1.mono (fun k hk => by simp at hk ⊢; exact hk.2.2.2)).sI v rfl) ⟨by rw [gI_sI, gI_sI]; rfl, ?_, ?_⟩ ?_ (fun k a b => hp.2.2 k a (by omega)) ?_
  · rw [gJ_sI, gJ_sI, hp.1.2.1 15 rfl, hp.2.1.2.1 3 rfl]; exact h.1.2.1
  · rw [gJ_sI, gJ_sI, hp.1.2.1 16 rfl, hp.2.1.2.1 4 rfl]; exact h.1.2.2
  · rw [gI_sI, if_neg (by decide), gI_sI, if_neg (by decide), hp.1.1 19 rfl, hd]; exact h.2.2.2.1.2.1
  · rw [wv_sI_out _ (by unfold wM; omega)]; exact hw
theorem Sm_W {i : Nat} {σ τ σ1 τ1 : ST} (h : Rel i σ τ) (hp : Wp wM σ σ1 τ τ1) (hd : gI τ1 0 28 = gI τ 0 28) (hw : RelW (50000 * (i + 6)) (wv σ1 wM) (gA τ1 1) (gB τ 2)) (r v : Int32) : Sm i (some (r, sI σ1 0 14 v)) (some (r, sI τ1 0 2 v)) := ⟨r, _, _, rfl, rfl, Rel_W h hp hd hw v⟩
theorem Wp_up {w : Nat} (hw : isW w) {σ τ : ST} (k : Nat) (v u : Int32) (j : Nat) (hj : j < 4850) : Wp w σ (sI σ w k v) τ (sA τ 1 (upd (gA τ 1) j u)) := ⟨SqW_sI hw (Sq.rf σ) (x := 0) (by decide) k v, (Sc.rf τ).sA _ rfl, fun m a b => by rw [gA_sA, if_pos rfl, upd_at, if_neg (by omega)]⟩
theorem wv_sI0 (σ : ST) (w : Nat) (k : Nat) (v : Int32) : wv (sI σ w k v) w = sI (wv σ w) 0 k v := wv_sI σ w (x := 0) (by decide) k v
/-- up with, up without one -/
theorem up_or (x : Int32) {k : Nat} (hk : k < 32) : (x &&& ((nI 1 <<< (nI k &&& nI 31)) ^^^ mI)) ||| (nI 1 <<< (nI k &&& nI 31)) = x ||| (nI 1 <<< (nI k &&& nI 31)) := by
  apply bt_ext
  intro j hj
  rw [bt_or, bt_del _ hk, bt_one hk, bt_ins _ hk]
  cases bt x j <;> cases decide (j = k) <;> rfl
theorem up_and (x : Int32) : (x ||| nI 0) = x := by
  apply bt_ext
  intro j hj
  rw [bt_or, bt_n0]; simp
theorem sim_fall (i : Nat) : SIM_fall (Rel i) (Rel (i + 6)) := by
  intro a0 a1 σ τ h ha
  have hW := h.2.2.2.2.1
  have hS := hW.1
  have hK := hS.1.1
  have e9 : gI σ wM 9 = gA τ 1 5 := hW.2.1.1
  show Sm i _ _
  rcases keeper_cases hS.1 a0 with hb | ⟨a, hk, rfl⟩
  · simp (disch := omega) only [↓mI_e, lit, ofN, bsm, nI_add, pk_mul, pk_sub, nI_e, nI_leE, nI_ltE, nI_mI, mI_nI, mI_lt, nlt_mI, mI_le, nle_mI, nI_addm, sh_b, bI_0, bI_1, bI_bI, ckZ_b, ckZ_n0, ckZ_n1, stIe, stJe, stZ_n0, stZ_n1, rm_nI, dv_nI, if_pos, if_neg, rf0, rf1, rf5, rf6, rf7, rf8, rf9, rf20, rf23, rf24, rf25, rf26, rf29, rf31, rf33, rf34, rf35, rf37, rf38, rf41, rf42, rf43,  f_X11_fall, k_X11_fall_28, f_X12_fall, k_X12_fall_42, c_isKeeper_no hS hb, r_isKeeper_no hb, c_refused, r_is]
    exact Sm_0 h _ _
  · rcases ha with rfl | rfl
    · simp (disch := omega) only [↓mI_e, lit, ofN, bsm, nI_add, pk_mul, pk_sub, nI_e, nI_leE, nI_ltE, nI_mI, mI_nI, mI_lt, nlt_mI, mI_le, nle_mI, nI_addm, sh_b, bI_0, bI_1, bI_bI, ckZ_b, ckZ_n0, ckZ_n1, stIe, stJe, stZ_n0, stZ_n1, rm_nI, dv_nI, if_pos, if_neg, rf0, rf1, rf5, rf6, rf7, rf8, rf9, rf20, rf23, rf24, rf25, rf26, rf29, rf31, rf33, rf34, rf35, rf37, rf38, rf41, rf42, rf43,  f_X11_fall, k_X11_fall_28, f_X12_fall, k_X12_fall_42, f_X10_setUp, k_X10_setUp_26, c_isKeeper_yes hS hk, r_isKeeper_y hS.1 hk, c02, e9, lr1, sr1, up_or, c_allowed, r_is]
      refine Sm_W h (Wp_up wM_w _ _ _ _ (by decide)) rfl ?_ _ _
      rw [wv_sI0, gA_sA, if_pos rfl]
      exact RelW_up (RelW_mono (by omega) hW) _
    · simp (disch := omega) only [↓mI_e, lit, ofN, bsm, nI_add, pk_mul, pk_sub, nI_e, nI_leE, nI_ltE, nI_mI, mI_nI, mI_lt, nlt_mI, mI_le, nle_mI, nI_addm, sh_b, bI_0, bI_1, bI_bI, ckZ_b, ckZ_n0, ckZ_n1, stIe, stJe, stZ_n0, stZ_n1, rm_nI, dv_nI, if_pos, if_neg, rf0, rf1, rf5, rf6, rf7, rf8, rf9, rf20, rf23, rf24, rf25, rf26, rf29, rf31, rf33, rf34, rf35, rf37, rf38, rf41, rf42, rf43,  f_X11_fall, k_X11_fall_28, f_X12_fall, k_X12_fall_42, f_X10_setUp, k_X10_setUp_26, c_isKeeper_yes hS hk, r_isKeeper_y hS.1 hk, c02, e9, lr1, sr1, up_and, c_allowed, r_is]
      refine Sm_W h (Wp_up wM_w _ _ _ _ (by decide)) rfl ?_ _ _
      rw [wv_sI0, gA_sA, if_pos rfl]
      exact RelW_up (RelW_mono (by omega) hW) _
/-- a set of keepers, asked in two ways -/
theorem set_in {K : Nat} (hK : K ≤ 6) (v : Int32) : (v &&& (((nI 1 <<< (nI K &&& nI 31)) - nI 1) ^^^ mI) = nI 0) ↔ (¬ v < nI 0 ∧ v < nI 1 <<< (nI K &&& nI 31)) := by
  have e1 : (nI 1 <<< (nI K &&& nI 31)) = nI (2 ^ K) := pow_of (by omega)
  have hp : 2 ^ K ≤ 64 := Nat.le_trans (Nat.pow_le_pow_right (by decide) hK) (by decide)
  have hp1 : 1 ≤ 2 ^ K := Nat.one_le_two_pow
  rw [e1, pk_sub hp1]
  have hb : ∀ k, k < 32 → bt (nI (2 ^ K - 1)) k = decide (k < K) := fun k hk => by rw [bt_nI _ hk, Nat.testBit_two_pow_sub_one]
  constructor
  · intro h
    have h1 : ∀ k, K ≤ k → bt v k = false := fun k hk => by
      by_cases h32 : k < 32
      · have := congrArg (fun x => bt x k) h
        simp only [bt_and, bt_m _ h32, hb k h32, bt_n0] at this
        rw [decide_eq_false (by omega)] at this
        simpa using this
      · exact bt_big v (by omega)
    have h2 : vN v < 2 ^ K := Nat.lt_pow_two_of_testBit _ (fun k hk => h1 k hk)
    have e2 : v = nI (vN v) := (nI_vN v).symm
    rw [e2]
    exact ⟨nI_pos (by omega), nI_lt h2 (by omega)⟩
  · intro h
    obtain ⟨j, hj, e⟩ := nI_of h.1
    subst e
    have hj2 : j < 2 ^ K := (nI_ltI hj (by omega)).mp h.2
    apply bt_ext
    intro k hk
    rw [bt_and, bt_m _ hk, hb k hk, bt_n0, bt_nI _ hk]
    by_cases g : k < K
    · rw [decide_eq_true g]; simp
    · rw [Nat.testBit_lt_two_pow (Nat.lt_of_lt_of_le hj2 (Nat.pow_le_pow_right (by decide) (by omega)))]; rfl
theorem c_isKeeperSet {σ : ST} {f : Nat → Int32} (h : RS (wv σ wM) f) (v : Int32) : f_X11_isKeeperSet 0 v σ = some (bI (decide (¬ v < nI 0 ∧ v < nI 1 <<< (nI (KN f) &&& nI 31))), σ) := by
  have e6 : gI σ (wM + 1) 6 = nI (KN f) := h.2.1.1.trans (eK f)
  have hs := set_in h.1.1 v
  simp (disch := omega) only [↓mI_e, lit, ofN, bsm, nI_add, pk_mul, pk_sub, nI_e, nI_leE, nI_ltE, nI_mI, mI_nI, mI_lt, nlt_mI, mI_le, nle_mI, nI_addm, sh_b, bI_0, bI_1, bI_bI, ckZ_b, ckZ_n0, ckZ_n1, stIe, stJe, stZ_n0, stZ_n1, rm_nI, dv_nI, if_pos, if_neg, rf0, rf1, rf5, rf6, rf7, rf8, rf9, rf20, rf23, rf24, rf25, rf26, rf29, rf31, rf33, rf34, rf35, rf37, rf38, rf41, rf42, rf43,  f_X11_isKeeperSet, k_X11_isKeeperSet_22, f_X7_keeperSet, c02, w_0 wM_w, e6]
  by_cases g : ¬ v < nI 0 ∧ v < nI 1 <<< (nI (KN f) &&& nI 31)
  · rw [decide_eq_true g]
    have g2 := hs.mpr g
    simp only [if_pos g2]; rfl
  · rw [decide_eq_false g]
    have g2 := fun z => g (hs.mp z)
    simp only [if_neg g2]; rfl
theorem sim_part (i : Nat) : SIM_part (Rel i) (Rel (i + 6)) := by
  intro a0 σ τ h
  have hW := h.2.2.2.2.1
  have hS := hW.1
  have hK := hS.1.1
  show Sm i _ _
  by_cases g : ¬ a0 < nI 0 ∧ a0 < nI 1 <<< (nI (KN (gA τ 1)) &&& nI 31)
  · have g1 : ¬ a0 < nI 0 := g.1
    have g2 := g.2
    simp (disch := omega) only [↓mI_e, lit, ofN, bsm, nI_add, pk_mul, pk_sub, nI_e, nI_leE, nI_ltE, nI_mI, mI_nI, mI_lt, nlt_mI, mI_le, nle_mI, nI_addm, sh_b, bI_0, bI_1, bI_bI, ckZ_b, ckZ_n0, ckZ_n1, stIe, stJe, stZ_n0, stZ_n1, rm_nI, dv_nI, if_pos, if_neg, rf0, rf1, rf5, rf6, rf7, rf8, rf9, rf20, rf23, rf24, rf25, rf26, rf29, rf31, rf33, rf34, rf35, rf37, rf38, rf41, rf42, rf43,  f_X11_part, f_X12_part, k_X12_part_16, c_isKeeperSet hS, decide_eq_true g, c02, lr1, sr1, eK (gA τ 1), g1, g2, if_true, if_false, Bool.true_eq_false, c_allowed, r_is]
    refine Sm_W h (Wp_up wM_w _ _ _ _ (by decide)) rfl ?_ _ _
    rw [wv_sI0, gA_sA, if_pos rfl]
    exact RelW_pt (RelW_mono (by omega) hW) _
  · by_cases g1 : a0 < 0
    · have g1 : a0 < nI 0 := g1
      simp (disch := omega) only [↓mI_e, lit, ofN, bsm, nI_add, pk_mul, pk_sub, nI_e, nI_leE, nI_ltE, nI_mI, mI_nI, mI_lt, nlt_mI, mI_le, nle_mI, nI_addm, sh_b, bI_0, bI_1, bI_bI, ckZ_b, ckZ_n0, ckZ_n1, stIe, stJe, stZ_n0, stZ_n1, rm_nI, dv_nI, if_pos, if_neg, rf0, rf1, rf5, rf6, rf7, rf8, rf9, rf20, rf23, rf24, rf25, rf26, rf29, rf31, rf33, rf34, rf35, rf37, rf38, rf41, rf42, rf43,  f_X11_part, f_X12_part, k_X12_part_16, c_isKeeperSet hS, decide_eq_false g, g1, if_true, c_refused, r_is]
      exact Sm_0 h _ _
    · have g2 : ¬ a0 < nI 1 <<< (nI (KN (gA τ 1)) &&& nI 31) := fun z => g ⟨g1, z⟩
      have g1 : ¬ a0 < nI 0 := g1
      simp (disch := omega) only [↓mI_e, lit, ofN, bsm, nI_add, pk_mul, pk_sub, nI_e, nI_leE, nI_ltE, nI_mI, mI_nI, mI_lt, nlt_mI, mI_le, nle_mI, nI_addm, sh_b, bI_0, bI_1, bI_bI, ckZ_b, ckZ_n0, ckZ_n1, stIe, stJe, stZ_n0, stZ_n1, rm_nI, dv_nI, if_pos, if_neg, rf0, rf1, rf5, rf6, rf7, rf8, rf9, rf20, rf23, rf24, rf25, rf26, rf29, rf31, rf33, rf34, rf35, rf37, rf38, rf41, rf42, rf43,  f_X11_part, f_X12_part, k_X12_part_16, c_isKeeperSet hS, decide_eq_false g, lr1, eK (gA τ 1), g1, g2, if_false, if_true, c_refused, r_is]
      exact Sm_0 h _ _
