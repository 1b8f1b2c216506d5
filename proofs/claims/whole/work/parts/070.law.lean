/-! THE LAW over two pools -/
/-- both pools on the heap; nothing that was there before the law has changed -/
abbrev LH (D : va_G) (cy : Nat → ClassId) (b1 b2 : Nat) (σ τ : ST) (s : State) (H : Heap) (locs : List Loc) : Prop := va_P D vwCl (wsP cy LC b1 σ) H ∧ va_P D vwCl (wsP cy LR b2 τ) H ∧ va_S (fun q : Nat => s.heap.size ≤ q) s.heap H locs ∧ (s.heap.size ≤ b1 ∧ b1 + 194 ≤ b2) ∧ SX cy LC b1 s ∧ SX cy LR b2 s
abbrev CL (p : Program) (m : MethodId) (c : Code) (s : State) (args : Array Value) (D : va_G) (cy : Nat → ClassId) : Prop := CallFix p m c cL_law 4 s args wsL_law RL ∧ va_K D vwCl (tysP cy) s
theorem lg_self (x : Int64) : lg_cmp x x = 0 := by simp [lg_cmp]
theorem wsP_lt {D : va_G} {cy : Nat → ClassId} {Λ : LY} {b : Nat} {σ : ST} {H : Heap} (h : va_P D vwCl (wsP cy Λ b σ) H) {k : Nat} {q : Nat × va_E} (hk : (wsP cy Λ b σ)[k]? = some q) : q.1 < H.size ∧ inP Λ b q.1 := ⟨(h k q hk).lt, wsP_D.2 k q hk⟩
section LR1
variable {p : Program} {l : Launch} {e : Env} {R : Room} {s : State} {m : MethodId} {args : Array Value} {below : List Frame} {meth : Method} {c : Code} {H : Heap} {locs : List Loc} {cells slots : Nat} {Q : State → Prop}
variable {pc : Nat} {ls : Array Slot} {rest : List Value} {D : va_G} {cy : Nat → ClassId} {b1 b2 : Nat} {σ τ : ST} {idx : Nat}
theorem law_sx {Λ : LY} {b : Nat} {U : State} (h : SX cy Λ b s) (hS : va_S (fun q : Nat => s.heap.size ≤ q) s.heap H locs) (hU : U.heap = H) (hW : s.WarmedH U.vm) : SX cy Λ b U := by
  obtain ⟨h1, h2, h3, h4⟩ := h
  have hk : ∀ a : Nat, a < s.heap.size → ¬ inP Λ b a → U.heap[a]? = s.heap[a]? := fun a g1 _ => by rw [hU]; exact hS.2.1 a g1 (by omega)
  exact ⟨(vk_S.moved hW.alike h1).kept hk, fun q hq => (h2 q hq).warm hW, (va_Z.moved hW.alike h3).kept hk, (va_Zq.moved hW.alike h4).kept hk⟩
/-- a call of the class -/
theorem law_c1 (E : CL p m c s args D cy) (hw : LH D cy b1 b2 σ τ s H locs) {yy : MethodName} {bytes : ByteArray} {maxL n d : Nat} {ret : Option FieldType} (M : MW RL idx RX11 yy bytes maxL ret n) {As : List Value} {rv : Option Value} {σ' : ST} (hM : Met l yy (wU yy bytes maxL ret) (rmD d) (PcP D cy LC b1 (.ref (b1 + 0) :: As) σ) (QcP D cy LC b1 rv σ') 0 0 (inP LC b1)) {st0 : List Value} (hn : As.length = n) (hst : st0 = As.reverse ++ .ref (b1 + 0) :: rest) (hsz : ls.size = 4) (hrs : (rest.map fun v => v.category).sum ≤ 8) (hR : d + 1 ≤ R.frames ∧ 8 + (maxL + 11) + 64 * d ≤ R.locals) (hcs : cells ≤ R.cells ∧ slots ≤ R.slots) (hdg : decode cL_law pc = .ok (.invokevirtual idx, 3))
    (kk : ∀ (H1 : Heap) (locs1 : List Loc), LH D cy b1 b2 σ' τ s H1 locs1 → W p l e R s m args below meth c H1 locs1 cells slots Q (F0 m (pc + 3) ls (rv.toList ++ rest))) : W p l e R s m args below meth c H locs cells slots Q (F0 m pc ls st0) := by
  obtain ⟨m1, m2, m3, m4, m5, m6, m7, m8, m9⟩ := M
  obtain ⟨hP1, hP2, hS, hbb, hX1, hX2⟩ := hw
  have hts := E.1.2.2.2.2
  have hini : (Cond.initialized yy.cls).before args s = true := by rw [m6]; exact hts _ m4
  have he : (wsP cy LC b1 σ)[0]? = some (b1 + 0, .inr (11, fsC LC b1 σ 0 11)) := by rw [wsP_at (by decide), CE_obj (κ := 11) rfl (by decide)]
  have cw : CallW R s args RL RX11 idx yy bytes maxL ret (wU yy bytes maxL ret) (rmD d) 0 0 n := ⟨⟨rfl, rfl, hR.1, hR.2, wU_pay hts m5, List.mem_cons_self, hts _ m5, hini, ⟨m7, m8⟩, fun sig h => by rw [h] at m9; exact (Option.some.inj m9).symm, hts _ m1⟩, hts _ m2, hts _ m3⟩
  have hr := va_runV (rest := rest) (locs := locs) (cells := cells) (slots := slots) (below := below) (meth := meth) (e := e) (g := F0 m pc ls st0) E.1 hM cw ⟨q_blind, va_recv E.2 hP1 (ci := 11) rfl he, fun U hU hW => ⟨rfl, va_K.moved hW.alike E.2, by rw [hU]; exact hP1, law_sx hX1 hS hU hW⟩⟩ rfl hn hsz hst (lv_room hrs) hdg ⟨hcs.1, hcs.2⟩
  intro T hT X
  obtain ⟨v, st₀, t, T', L, h0, X', hL, e1, e2, ⟨hv, hp, hz, hk⟩, st⟩ := hr T hT X
  cases hv
  rw [h0] at hz hk
  have hfar : ∀ q, inP LC b1 q → s.heap.size ≤ q := fun q h => Nat.le_trans hbb.1 h.1
  have hP2' : va_P D vwCl (wsP cy LR b2 τ) T'.heap := hP2.kept fun k q hq => by
    rw [e1]
    have h1 := wsP_lt hP2 hq
    exact hk q.1 h1.1 (fun h => by have := h.2; have := h1.2.1; have e194 : LC.2.2.2 = 194 := rfl; omega)
  obtain ⟨t2, a1, c1⟩ := kk T'.heap (locs ++ L) ⟨by rw [e1]; exact hp, hP2', ⟨Nat.le_trans hS.1 (by rw [e1]; exact hz), fun q h1 h2 => by rw [e1, hk q (Nat.lt_of_lt_of_le h1 hS.1) (fun h => h2 (hfar q h))]; exact hS.2.1 q h1 h2, fun q hq => by
      rcases List.mem_append.mp hq with h | h
      · exact hS.2.2 q h
      · exact hfar _ (hL q h)⟩, hbb, hX1, hX2⟩ T' rfl X'
  exact ⟨t2, st t2 a1, c1⟩
/-- a call of the reference -/
theorem law_c2 (E : CL p m c s args D cy) (hw : LH D cy b1 b2 σ τ s H locs) {yy : MethodName} {bytes : ByteArray} {maxL n d : Nat} {ret : Option FieldType} (M : MW RL idx RX12 yy bytes maxL ret n) {As : List Value} {rv : Option Value} {τ' : ST} (hM : Met l yy (wU yy bytes maxL ret) (rmD d) (PcP D cy LR b2 (.ref (b2 + 0) :: As) τ) (QcP D cy LR b2 rv τ') 0 0 (inP LR b2)) {st0 : List Value} (hn : As.length = n) (hst : st0 = As.reverse ++ .ref (b2 + 0) :: rest) (hsz : ls.size = 4) (hrs : (rest.map fun v => v.category).sum ≤ 8) (hR : d + 1 ≤ R.frames ∧ 8 + (maxL + 11) + 64 * d ≤ R.locals) (hcs : cells ≤ R.cells ∧ slots ≤ R.slots) (hdg : decode cL_law pc = .ok (.invokevirtual idx, 3))
    (kk : ∀ (H1 : Heap) (locs1 : List Loc), LH D cy b1 b2 σ τ' s H1 locs1 → W p l e R s m args below meth c H1 locs1 cells slots Q (F0 m (pc + 3) ls (rv.toList ++ rest))) : W p l e R s m args below meth c H locs cells slots Q (F0 m pc ls st0) := by
  obtain ⟨m1, m2, m3, m4, m5, m6, m7, m8, m9⟩ := M
  obtain ⟨hP1, hP2, hS, hbb, hX1, hX2⟩ := hw
  have hts := E.1.2.2.2.2
  have hini : (Cond.initialized yy.cls).before args s = true := by rw [m6]; exact hts _ m4
  have he : (wsP cy LR b2 τ)[0]? = some (b2 + 0, .inr (12, fsC LR b2 τ 0 12)) := by rw [wsP_at (by decide), CE_obj (κ := 12) rfl (by decide)]
  have cw : CallW R s args RL RX12 idx yy bytes maxL ret (wU yy bytes maxL ret) (rmD d) 0 0 n := ⟨⟨rfl, rfl, hR.1, hR.2, wU_pay hts m5, List.mem_cons_self, hts _ m5, hini, ⟨m7, m8⟩, fun sig h => by rw [h] at m9; exact (Option.some.inj m9).symm, hts _ m1⟩, hts _ m2, hts _ m3⟩
  have hr := va_runV (rest := rest) (locs := locs) (cells := cells) (slots := slots) (below := below) (meth := meth) (e := e) (g := F0 m pc ls st0) E.1 hM cw ⟨q_blind, va_recv E.2 hP2 (ci := 12) rfl he, fun U hU hW => ⟨rfl, va_K.moved hW.alike E.2, by rw [hU]; exact hP2, law_sx hX2 hS hU hW⟩⟩ rfl hn hsz hst (lv_room hrs) hdg ⟨hcs.1, hcs.2⟩
  intro T hT X
  obtain ⟨v, st₀, t, T', L, h0, X', hL, e1, e2, ⟨hv, hp, hz, hk⟩, st⟩ := hr T hT X
  cases hv
  rw [h0] at hz hk
  have hfar : ∀ q, inP LR b2 q → s.heap.size ≤ q := fun q h => by have := h.1; omega
  have hP1' : va_P D vwCl (wsP cy LC b1 σ) T'.heap := hP1.kept fun k q hq => by
    rw [e1]
    have h1 := wsP_lt hP1 hq
    exact hk q.1 h1.1 (fun h => by have := h.1; have := h1.2.2; have e194 : LC.2.2.2 = 194 := rfl; omega)
  obtain ⟨t2, a1, c1⟩ := kk T'.heap (locs ++ L) ⟨hP1', by rw [e1]; exact hp, ⟨Nat.le_trans hS.1 (by rw [e1]; exact hz), fun q h1 h2 => by rw [e1, hk q (Nat.lt_of_lt_of_le h1 hS.1) (fun h => h2 (hfar q h))]; exact hS.2.1 q h1 h2, fun q hq => by
      rcases List.mem_append.mp hq with h | h
      · exact hS.2.2 q h
      · exact hfar _ (hL q h)⟩, hbb, hX1, hX2⟩ T' rfl X'
  exact ⟨t2, st t2 a1, c1⟩
end LR1
/-- the script's places -/
theorem law_in {i L k : Nat} {x : Int32} (hx : x = nI i) (h : i + 6 ≤ L) (hL : L ≤ 3072) (hk : k < 6) : vp_in (x + nI k) L := by
  rw [hx, nI_add]; exact vp_in_nI (by omega) (by omega)
theorem law_in0 {i L : Nat} {x : Int32} (hx : x = nI i) (h : i + 6 ≤ L) (hL : L ≤ 3072) : vp_in x L := by
  rw [hx]; exact vp_in_nI (by omega) (by omega)
theorem law_on {i L : Nat} {x : Int32} (hx : x = nI i) (hi : i ≤ 3100) (hL : L ≤ 3072) (h : ¬ (Int32.ofNat L - 6 < x)) : i + 6 ≤ L := by
  have h1 : ((nI L - nI 6).toInt : Int) = (L : Int) - 6 := pk_sub_toInt (by omega) (by omega)
  have h2 : (nI i).toInt = (i : Int) := nI_toInt (by omega)
  rw [hx, Int32.lt_iff_toInt_lt] at h
  have h3 : (Int32.ofNat L - 6).toInt = (nI L - nI 6).toInt := rfl
  rw [h3, h1, h2] at h
  omega
