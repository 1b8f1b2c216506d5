section LI
variable {p : Program} {l : Launch} {e : Env} {R : Room} {s : State} {m : MethodId} {args : Array Value} {below : List Frame} {meth : Method} {c : Code} {H : Heap} {locs : List Loc} {cells slots : Nat} {Q : State → Prop}
variable {cc : ByteArray} {nL : Nat} {pc : Nat} {ls : Array Slot} {rest : List Value} {D : va_G} {cy : Nat → ClassId} {own : String} {idx κ : Nat} {C : String} {T : u_T} {N : Nat} {b1 b2 : Nat} {σ τ : ST}
theorem law_newM (E : CZ p m c cc nL s args own D cy) (hz : H.size = b2) (hS : va_S (fun q : Nat => s.heap.size ≤ q) s.heap H locs) (hP : va_P D vwCl (wsP cy LC b1 σ) H) (hbb : s.heap.size ≤ b2) (hκ : vwCl[κ]? = some (C, T, N)) (h13 : N = nfC κ) (hin : ∀ w ∈ u_ws C T N, w ∈ wsL_law) (hty : ∀ k, k < N → parseFieldDescriptor (T k).2.2.1 = some (tyC κ k)) (hcl : Cond.classLink own idx C ∈ wsL_law) (hins : Cond.instantiable C N ∈ wsL_law) (hini : Cond.initialized C ∈ wsL_law) {fs : List Value} (hfs : ∀ j, j < N → defaultValue (tyC κ j) = vp_V fs j) (hc : cells + 1 ≤ R.cells) (hs : slots + N ≤ R.slots) (hdg : decode cc pc = .ok (.new idx, 3))
    (kk : ∀ H1 : Heap, va_P D vwCl (wsP cy LC b1 σ) H1 → va_P D vwCl [(b2, .inr (κ, fs))] H1 → H1.size = b2 + 1 → va_S (fun q : Nat => s.heap.size ≤ q) s.heap H1 locs → W p l e R s m args below meth c H1 locs (cells + 1) (slots + N) Q (F0 m (pc + 3) ls (.ref b2 :: rest))) : W p l e R s m args below meth c H locs cells slots Q (F0 m pc ls rest) := by
  have hts := E.1.2.2.2.2
  have hKn := E.2.1.1 κ _ hκ
  refine W.newcK E.1.1 E.1.2.1 E.1.2.2.2.1 (hts _ hcl) (hts _ hins) (hts _ hini) rfl hdg hc hs hKn.2.1 hz fun H1 kC hkC e1 z1 o1 => ?_
  refine kk H1 (hP.kept fun k q hq => o1 q.1 (by have := (hP k q hq).lt; omega)) (vaP_iff.mpr fun q hq => ?_) z1 ⟨Nat.le_trans hS.1 (by omega), fun x h1 h2 => (o1 x (by have := hS.1; omega)).trans (hS.2.1 x h1 h2), hS.2.2⟩
  rw [List.mem_singleton.mp hq]
  exact ⟨_, hκ, (u_born (tyC κ) hts hin hKn hkC e1 hty).to hfs⟩
theorem law_initM (E : CZ p m c cc nL s args own D cy) {yy : MethodName} {bytes : ByteArray} {maxL mc ms d : Nat} {fs : List Value} (hM : Met l yy (wU yy bytes maxL none) (rmZ d mc ms) (PcM D cy b2 [.ref b2] [(b2, .inr (12, fs))]) (QcM D cy b2 τ) mc ms (zA b2 23)) (cw : CallB R s args own idx yy bytes maxL none (wU yy bytes maxL none) (rmZ d mc ms) mc ms 0 ∧ yy.name = "<init>" ∧ (Cond.instanceMethod yy).before args s = true) (hP : va_P D vwCl (wsP cy LC b1 σ) H) (hO : va_P D vwCl [(b2, .inr (12, fs))] H) (hz : H.size = b2 + 1) (hS : va_S (fun q : Nat => s.heap.size ≤ q) s.heap H locs) (hbb : s.heap.size ≤ b1 ∧ b1 + 194 ≤ b2) (hX1 : SX cy LC b1 s) (hX2 : SX cy LR b2 s) (hls : ls.size = nL) {st0 : List Value} (hst : st0 = .ref b2 :: rest) (hrs : (rest.map fun v => v.category).sum ≤ 8) (hcs : cells + mc ≤ R.cells ∧ slots + ms ≤ R.slots) (hdg : decode cc pc = .ok (.invokespecial idx, 3))
    (kk : ∀ (H1 : Heap) (locs1 : List Loc), LH D cy b1 b2 σ τ s H1 locs1 → W p l e R s m args below meth c H1 locs1 (cells + mc) (slots + ms) Q (F0 m (pc + 3) ls rest)) : W p l e R s m args below meth c H locs cells slots Q (F0 m pc ls st0) := by
  have hbl : FrameBlind (PcM D cy b2 [.ref b2] [(b2, .inr (12, fs))]) := fun a U g mk q => ⟨z_blind a U g mk q.1, SX_same q.2 rfl rfl⟩
  have hr := va_runI (rest := rest) (locs := locs) (cells := cells) (slots := slots) (below := below) (meth := meth) (e := e) (As := []) (g := F0 m pc ls st0) E.1 hM cw ⟨hbl, fun U hU hW => ⟨⟨rfl, va_K.moved hW.alike E.2.1, nx_warm E.2.2 hW, by rw [hU]; exact hz, by rw [hU]; exact hO⟩, law_sx hX2 hS hU hW⟩⟩ rfl rfl hls (by rw [hst]; rfl) (lv_room hrs) hdg hcs
  intro T hT X
  obtain ⟨v, st₀, t, T', L, h0, X', hL, e1, e2, ⟨hv, hp, hz1, hk⟩, st⟩ := hr T hT X
  cases hv
  rw [h0] at hz1 hk
  have hfar : ∀ q, zA b2 23 q → s.heap.size ≤ q := fun q h => by have := h.1; omega
  have hP' : va_P D vwCl (wsP cy LC b1 σ) T'.heap := hP.kept fun k q hq => by
    rw [e1]
    have h1 := wsP_lt hP hq
    exact hk q.1 h1.1 (fun h => by have := h.1; have := h1.2.2; have e194 : LC.2.2.2 = 194 := rfl; omega)
  obtain ⟨t2, a1, c1⟩ := kk T'.heap (locs ++ L) ⟨hP', by rw [e1]; exact hp, ⟨Nat.le_trans hS.1 (by rw [e1]; exact hz1), fun q h1 h2 => by rw [e1, hk q (Nat.lt_of_lt_of_le h1 hS.1) (fun h => h2 (hfar q h))]; exact hS.2.1 q h1 h2, fun q hq => by
      rcases List.mem_append.mp hq with h | h
      · exact hS.2.2 q h
      · exact hfar _ (hL q h)⟩, hbb, hX1, hX2⟩ T' rfl X'
  exact ⟨t2, st t2 a1, c1⟩
end LI
