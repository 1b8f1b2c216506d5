/-! all calls; the first states; the end -/
theorem sim_all (i : Nat) (hi : i + 6 ≤ 3072) : SIM (Rel i) (Rel (i + 6)) := ⟨fun _ _ h => Rel_id h, sim_status i, sim_top i, sim_bottom i, sim_tray' i, sim_write i, sim_read i, sim_pour i, sim_feed i, sim_shelf i, sim_days i, sim_fault i, sim_told i, sim_row i, sim_places i, sim_reach i, sim_put i hi, sim_strike i hi, sim_add i hi, sim_get i hi, sim_got i, sim_isDone i, sim_fall i, sim_wipe i, sim_part i, sim_hand i hi, sim_night i hi, sim_bury i, sim_twins i, sim_twin i, sim_seen i, sim_partOf i, sim_hints i, sim_ticket i, sim_like i, sim_alike i, sim_differ i, sim_root i hi, sim_fresh i hi, sim_late i hi, sim_load i, sim_moved i, sim_nights i hi, sim_safe i, sim_holders i, sim_lost i, sim_answers i hi, sim_odds i hi, sim_fewestFalls i, sim_live i hi, sim_lived i, sim_agreed i hi, sim_mark i, sim_back i⟩
theorem first_rel : ∃ τ0, f_X12_empties 0 0 s0R = some τ0 ∧ Rel 0 s0C τ0 := by
  obtain ⟨u, u1, u2, u3⟩ := r_empties (sl := 0) (by decide) s0R
  have u1' : f_X12_empties 0 0 s0R = some (sA s0R 1 u) := u1
  have e : ∀ k, k < 4850 → u k = eF k := fun k hk => by
    have := u3 k hk
    rw [Nat.zero_add] at this
    exact this
  have e3 : u 3 = nI 0 := (e 3 (by omega)).trans rfl
  have e4 : u 4 = nI 0 := (e 4 (by omega)).trans rfl
  have k0 : KN u = 0 := by unfold KN; rw [e3]; rfl
  have y0 : YN u = 0 := by unfold YN; rw [e4]; rfl
  have n3 : NN u = 3 := by unfold NN; rw [e 0 (by omega)]; rfl
  have r1 : RN u = 1 := by unfold RN; rw [e 1 (by omega)]; rfl
  have w1 : WN u = 1 := by unfold WN; rw [e 2 (by omega)]; rfl
  have ez : ∀ k, k < 4850 → k ≠ 0 → k ≠ 1 → k ≠ 2 → k ≠ 7 → k ≠ 4440 → k ≠ 4448 → k ≠ 4456 → k ≠ 4464 → u k = nI 0 := fun k h a b c d p q r t => by
    rw [e k h]
    unfold eF
    rw [if_neg a, if_neg (by omega), if_neg (by omega)]
  have s22 : ∀ y, y < 6 → sm u y = false := fun y hy => by
    unfold sm
    rw [ez (22 + y) (by omega) (by omega) (by omega) (by omega) (by omega) (by omega) (by omega) (by omega) (by omega)]
    decide
  have hRS : RS (wv s0C wM) u := by
    refine ⟨⟨by omega, by omega, by omega, by omega, by omega, fun i hi => by omega, fun i hi => by omega, fun i j hi => by omega⟩, ⟨?_, ?_, ?_, ?_, ?_⟩, fun i hi => by omega, fun i hi => by omega, fun y => ?_, fun y _ hy => s22 y hy, fun y hy => by omega, fun y hy => by omega⟩
    · rw [e3]; rfl
    · rw [e4]; rfl
    · rw [e 0 (by omega)]; rfl
    · rw [e 1 (by omega)]; rfl
    · rw [e 2 (by omega)]; rfl
    · rw [show gI (wv s0C wM) 1 8 = nI 0 from rfl, bt_n0]
      by_cases hy : y < 6
      · rw [s22 y hy, Bool.and_false]
      · rw [decide_eq_false hy, Bool.false_and]
  have hRU : RU (wv s0C wM) u := ⟨by rw [e 5 (by omega)]; rfl, by rw [e 6 (by omega)]; rfl⟩
  have hRs : Rs0 u := by
    refine ⟨fun k hk h1 h2 => ?_, fun w hw => ?_, (e 7 (by omega)).trans rfl⟩
    · have w0 := h2 0 (by omega)
      have w1 := h2 1 (by omega)
      have w2 := h2 2 (by omega)
      have w3 := h2 3 (by omega)
      exact ez k hk (by omega) (by omega) (by omega) (by omega) (by omega) (by omega) (by omega) (by omega)
    · rw [e _ (by omega)]
      unfold eF
      rw [if_neg (by omega), if_neg (by omega), if_pos (by omega)]
  have hW : RelW (50000 * 0) (wv s0C wM) (gA (sA s0R 1 u) 1) (gB (sA s0R 1 u) 2) := by
    refine RelW_congr (f := u) (g := gB (sA s0R 1 u) 2) (fun k hk => by rw [gA_sA, if_pos rfl]) (fun _ _ => rfl) ?_
    exact RelW_fresh hRS hRU rfl (fun _ _ _ _ => rfl) (fun _ _ => rfl) (fun _ _ => ⟨rfl, rfl⟩) (fun _ _ => ⟨rfl, rfl⟩) (fun _ _ => rfl) ⟨rfl, rfl⟩ ⟨fun i hi => by omega, fun i hi => by omega⟩ hRs
  refine ⟨_, u1', ⟨rfl, rfl, rfl⟩, fun t ht => ?_, ⟨⟨0, by omega, rfl, rfl, fun k hk => by omega⟩, rfl, rfl⟩, ⟨⟨0, by omega, rfl, rfl, fun k hk => by omega⟩, rfl, Or.inl ⟨rfl, rfl⟩⟩, hW, ⟨0, by omega, rfl, rfl, fun j hj => by omega⟩⟩
  rcases (show t = 0 ∨ t = 1 ∨ t = 2 ∨ t = 3 by omega) with rfl | rfl | rfl | rfl
  · exact Or.inl ⟨rfl, rfl⟩
  · exact Or.inl ⟨rfl, rfl⟩
  · exact Or.inl ⟨rfl, rfl⟩
  · exact Or.inl ⟨rfl, rfl⟩
