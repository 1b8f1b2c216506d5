section QR
variable {p : Program} {l : Launch} {e : Env} {R : Room} {s : State} {m : MethodId} {args : Array Value} {below : List Frame} {meth : Method} {c : Code} {H : Heap} {locs : List Loc} {cells slots : Nat} {Q : State → Prop}
variable {cc : ByteArray} {nL : Nat} {pc : Nat} {ls : Array Slot} {rest : List Value} {D : va_G} {cy : Nat → ClassId} {Λ : LY} {b : Nat} {σ : ST} {own : String} {idx κ k : Nat} {C : String} {T : u_T} {N : Nat} {x y : Nat}
theorem q_lt (E : CX p m c cc nL s args own D cy Λ) (hk : Λ.1 x = κ) (hκ : κ < 19) : x < Λ.2.2.2 := E.2.2 x (by rw [hk]; exact hκ)
theorem q_get (E : CX p m c cc nL s args own D cy Λ) (hw : PH D cy Λ b σ s H locs) (F : FW own idx κ k C T N) (hk : Λ.1 x = κ) {v : Value} (hv : svC Λ b σ x k (tyC κ k) = v) (hdg : decode cc pc = .ok (.getfield idx, 3))
    (kk : W p l e R s m args below meth c H locs cells slots Q (F0 m (pc + 3) ls (v :: rest))) : W p l e R s m args below meth c H locs cells slots Q (F0 m pc ls (.ref (b + x) :: rest)) := by
  obtain ⟨f1, f2, f3, f4, f5, f6, f7, f8⟩ := F
  subst f4
  have hx : x < Λ.2.2.2 := q_lt E hk (by omega)
  have he : (wsP cy Λ b σ)[x]? = some (b + x, .inr (κ, fsC Λ b σ x κ)) := by rw [wsP_at hx, CE_obj hk f3]
  exact va_get E.1.1 E.1.2.1 E.1.2.2.2.2 f6 E.1.2.2.2.1 E.2.1 hw.1 x he f1 k f2 (E.1.2.2.2.2 _ f5) (fun _ h => h) (by rw [fsC_at f2, hv]) hdg kk
theorem q_geti (E : CX p m c cc nL s args own D cy Λ) (hw : PH D cy Λ b σ s H locs) (F : FW own idx κ k C T N) (ht : isI (tyC κ k) = true) (hk : Λ.1 x = κ) (hdg : decode cc pc = .ok (.getfield idx, 3))
    (kk : W p l e R s m args below meth c H locs cells slots Q (F0 m (pc + 3) ls (.int (gI σ x k) :: rest))) : W p l e R s m args below meth c H locs cells slots Q (F0 m pc ls (.ref (b + x) :: rest)) := q_get E hw F hk (svC_I ht) hdg kk
theorem q_getl (E : CX p m c cc nL s args own D cy Λ) (hw : PH D cy Λ b σ s H locs) (F : FW own idx κ k C T N) (ht : isL (tyC κ k) = true) (hk : Λ.1 x = κ) (hdg : decode cc pc = .ok (.getfield idx, 3))
    (kk : W p l e R s m args below meth c H locs cells slots Q (F0 m (pc + 3) ls (.long (gJ σ x k) :: rest))) : W p l e R s m args below meth c H locs cells slots Q (F0 m pc ls (.ref (b + x) :: rest)) := q_get E hw F hk (svC_L ht) hdg kk
theorem q_geta (E : CX p m c cc nL s args own D cy Λ) (hw : PH D cy Λ b σ s H locs) (F : FW own idx κ k C T N) (ht : isR (tyC κ k) = true) (hk : Λ.1 x = κ) (hdg : decode cc pc = .ok (.getfield idx, 3))
    (kk : W p l e R s m args below meth c H locs cells slots Q (F0 m (pc + 3) ls (.ref (b + Λ.2.1 x k) :: rest))) : W p l e R s m args below meth c H locs cells slots Q (F0 m pc ls (.ref (b + x) :: rest)) := q_get E hw F hk (svC_R ht) hdg kk
theorem q_puti (E : CX p m c cc nL s args own D cy Λ) (hw : PH D cy Λ b σ s H locs) (F : FW own idx κ k C T N) (hfin : (T k).2.2.2 = false) (ht : tyC κ k = .int) (hk : Λ.1 x = κ) {v : Int32} (hdg : decode cc pc = .ok (.putfield idx, 3))
    (kk : ∀ (H1 : Heap) (locs1 : List Loc), PH D cy Λ b (sI σ x k v) s H1 locs1 → W p l e R s m args below meth c H1 locs1 cells slots Q (F0 m (pc + 3) ls rest)) : W p l e R s m args below meth c H locs cells slots Q (F0 m pc ls (.int v :: .ref (b + x) :: rest)) := by
  obtain ⟨f1, f2, f3, f4, f5, f6, f7, f8⟩ := F
  subst f4
  have hx : x < Λ.2.2.2 := q_lt E hk (by omega)
  have he : (wsP cy Λ b σ)[x]? = some (b + x, .inr (κ, fsC Λ b σ x κ)) := by rw [wsP_at hx, CE_obj hk f3]
  have hi : isI (tyC κ k) = true := by rw [ht]; rfl
  refine va_put E.1.1 E.1.2.1 E.1.2.2.2.2 f6 (tyC κ) f7 f8 E.1.2.2.2.1 E.2.1 hw.1 wsP_D hw.2.1 x he f1 k f2 (E.1.2.2.2.2 _ f5) (fun _ h => h) hfin ((f7 k f2).trans (by rw [ht])) (v := .int v) rfl rfl (by rw [fsC_len]; exact f2) hdg fun H1 locs1 hP _ hS => ?_
  rw [wsP_set (σ' := sI σ x k v) (by rw [CE_obj hk f3, fsC_setI hi]) (fun y hy => CE_sI hy)] at hP
  exact kk H1 locs1 ⟨hP, hS, hw.2.2⟩
theorem q_putz (E : CX p m c cc nL s args own D cy Λ) (hw : PH D cy Λ b σ s H locs) (F : FW own idx κ k C T N) (hfin : (T k).2.2.2 = false) (ht : tyC κ k = .boolean) (hk : Λ.1 x = κ) {v : Int32} {α : Type} {f : Int32 → Option α} {r : α} (hm : (ckZ v).bind f = some r) (hdg : decode cc pc = .ok (.putfield idx, 3))
    (kk : ∀ (H1 : Heap) (locs1 : List Loc), f v = some r → PH D cy Λ b (sI σ x k v) s H1 locs1 → W p l e R s m args below meth c H1 locs1 cells slots Q (F0 m (pc + 3) ls rest)) : W p l e R s m args below meth c H locs cells slots Q (F0 m pc ls (.int v :: .ref (b + x) :: rest)) := by
  obtain ⟨v', hv', hm⟩ := o_bd hm
  obtain ⟨hz, hv2⟩ := o_ps hv'
  cases hv2
  obtain ⟨f1, f2, f3, f4, f5, f6, f7, f8⟩ := F
  subst f4
  have hx : x < Λ.2.2.2 := q_lt E hk (by omega)
  have he : (wsP cy Λ b σ)[x]? = some (b + x, .inr (κ, fsC Λ b σ x κ)) := by rw [wsP_at hx, CE_obj hk f3]
  have hi : isI (tyC κ k) = true := by rw [ht]; rfl
  refine va_put E.1.1 E.1.2.1 E.1.2.2.2.2 f6 (tyC κ) f7 f8 E.1.2.2.2.1 E.2.1 hw.1 wsP_D hw.2.1 x he f1 k f2 (E.1.2.2.2.2 _ f5) (fun _ h => h) hfin ((f7 k f2).trans (by rw [ht])) (v := .int v) (by rcases hz with rfl | rfl <;> rfl) (by rcases hz with rfl | rfl <;> rfl) (by rw [fsC_len]; exact f2) hdg fun H1 locs1 hP _ hS => ?_
  rw [wsP_set (σ' := sI σ x k v) (by rw [CE_obj hk f3, fsC_setI hi]) (fun y hy => CE_sI hy)] at hP
  exact kk H1 locs1 hm ⟨hP, hS, hw.2.2⟩
theorem q_putl (E : CX p m c cc nL s args own D cy Λ) (hw : PH D cy Λ b σ s H locs) (F : FW own idx κ k C T N) (hfin : (T k).2.2.2 = false) (ht : tyC κ k = .long) (hk : Λ.1 x = κ) {v : Int64} (hdg : decode cc pc = .ok (.putfield idx, 3))
    (kk : ∀ (H1 : Heap) (locs1 : List Loc), PH D cy Λ b (sJ σ x k v) s H1 locs1 → W p l e R s m args below meth c H1 locs1 cells slots Q (F0 m (pc + 3) ls rest)) : W p l e R s m args below meth c H locs cells slots Q (F0 m pc ls (.long v :: .ref (b + x) :: rest)) := by
  obtain ⟨f1, f2, f3, f4, f5, f6, f7, f8⟩ := F
  subst f4
  have hx : x < Λ.2.2.2 := q_lt E hk (by omega)
  have he : (wsP cy Λ b σ)[x]? = some (b + x, .inr (κ, fsC Λ b σ x κ)) := by rw [wsP_at hx, CE_obj hk f3]
  have hi : isL (tyC κ k) = true := by rw [ht]; rfl
  refine va_put E.1.1 E.1.2.1 E.1.2.2.2.2 f6 (tyC κ) f7 f8 E.1.2.2.2.1 E.2.1 hw.1 wsP_D hw.2.1 x he f1 k f2 (E.1.2.2.2.2 _ f5) (fun _ h => h) hfin ((f7 k f2).trans (by rw [ht])) (v := .long v) rfl rfl (by rw [fsC_len]; exact f2) hdg fun H1 locs1 hP _ hS => ?_
  rw [wsP_set (σ' := sJ σ x k v) (by rw [CE_obj hk f3, fsC_setL hi]) (fun y hy => CE_sJ hy)] at hP
  exact kk H1 locs1 ⟨hP, hS, hw.2.2⟩
theorem q_iald (E : CX p m c cc nL s args own D cy Λ) (hw : PH D cy Λ b σ s H locs) (hk : Λ.1 y = 13) {i : Int32} {α : Type} {f : Int32 → Option α} {r : α} (hm : (ldA Λ σ y i).bind f = some r) (hdg : decode cc pc = .ok (.iaload, 1))
    (kk : ∀ v : Int32, f v = some r → W p l e R s m args below meth c H locs cells slots Q (F0 m (pc + 1) ls (.int v :: rest))) : W p l e R s m args below meth c H locs cells slots Q (F0 m pc ls (.int i :: .ref (b + y) :: rest)) := by
  obtain ⟨v, hv, hm⟩ := o_bd hm
  obtain ⟨hi, rfl⟩ := o_nt hv
  exact va_iald E.1.1 E.1.2.1 E.2.1 hw.1 y 0 (by rw [wsP_at (q_lt E hk (by omega)), CE_13 hk]) rfl hi hdg (kk _ hm)
theorem q_bald (E : CX p m c cc nL s args own D cy Λ) (hw : PH D cy Λ b σ s H locs) (hk : Λ.1 y = 15) {i : Int32} {α : Type} {f : Int32 → Option α} {r : α} (hm : (ldA Λ σ y i).bind f = some r) (hdg : decode cc pc = .ok (.baload, 1))
    (kk : ∀ v : Int32, f v = some r → W p l e R s m args below meth c H locs cells slots Q (F0 m (pc + 1) ls (.int v :: rest))) : W p l e R s m args below meth c H locs cells slots Q (F0 m pc ls (.int i :: .ref (b + y) :: rest)) := by
  obtain ⟨v, hv, hm⟩ := o_bd hm
  obtain ⟨hi, rfl⟩ := o_nt hv
  exact va_bald E.1.1 E.1.2.1 E.2.1 hw.1 y 2 (by rw [wsP_at (q_lt E hk (by omega)), CE_15 hk]) rfl hi hdg (kk _ hm)
theorem q_zald (E : CX p m c cc nL s args own D cy Λ) (hw : PH D cy Λ b σ s H locs) (hk : Λ.1 y = 16) {i : Int32} {α : Type} {f : Int32 → Option α} {r : α} (hm : (ldA Λ σ y i).bind f = some r) (hdg : decode cc pc = .ok (.baload, 1))
    (kk : ∀ v : Int32, f v = some r → W p l e R s m args below meth c H locs cells slots Q (F0 m (pc + 1) ls (.int v :: rest))) : W p l e R s m args below meth c H locs cells slots Q (F0 m pc ls (.int i :: .ref (b + y) :: rest)) := by
  obtain ⟨v, hv, hm⟩ := o_bd hm
  obtain ⟨hi, rfl⟩ := o_nt hv
  exact va_zald E.1.1 E.1.2.1 E.2.1 hw.1 y 3 (by rw [wsP_at (q_lt E hk (by omega)), CE_16 hk]) rfl hi hdg (kk _ hm)
theorem q_lald (E : CX p m c cc nL s args own D cy Λ) (hw : PH D cy Λ b σ s H locs) (hk : Λ.1 y = 14) {i : Int32} {α : Type} {f : Int64 → Option α} {r : α} (hm : (ldB Λ σ y i).bind f = some r) (hdg : decode cc pc = .ok (.laload, 1))
    (kk : ∀ v : Int64, f v = some r → W p l e R s m args below meth c H locs cells slots Q (F0 m (pc + 1) ls (.long v :: rest))) : W p l e R s m args below meth c H locs cells slots Q (F0 m pc ls (.int i :: .ref (b + y) :: rest)) := by
  obtain ⟨v, hv, hm⟩ := o_bd hm
  obtain ⟨hi, rfl⟩ := o_nt hv
  exact va_lald E.1.1 E.1.2.1 E.2.1 hw.1 y 1 (by rw [wsP_at (q_lt E hk (by omega)), CE_14 hk]) rfl hi hdg (kk _ hm)
theorem q_aald9 (E : CX p m c cc nL s args own D cy Λ) (hw : PH D cy Λ b σ s H locs) (hk : Λ.1 y = 17) {i : Int32} {α : Type} {f : Nat → Option α} {r : α} (hm : (ldR Λ 9 y i).bind f = some r) (hdg : decode cc pc = .ok (.aaload, 1))
    (kk : ∀ v : Nat, Λ.1 v = 9 → f v = some r → W p l e R s m args below meth c H locs cells slots Q (F0 m (pc + 1) ls (.ref (b + v) :: rest))) : W p l e R s m args below meth c H locs cells slots Q (F0 m pc ls (.int i :: .ref (b + y) :: rest)) := by
  obtain ⟨v, hv, hm⟩ := o_bd hm
  unfold ldR at hv
  by_cases hi : i < 0 ∨ Λ.2.2.1 y ≤ i.toNatClampNeg
  · rw [if_pos hi] at hv; cases hv
  · rw [if_neg hi] at hv
    obtain ⟨hk2, hv⟩ := o_ps hv
    cases hv
    exact va_aldq (f := fun i => some (b + Λ.2.1 y i)) E.1.1 E.1.2.1 E.2.1 hw.1 y 4 (by rw [wsP_at (q_lt E hk (by omega)), CE_17 hk]) rfl hi hdg (kk _ hk2 hm)
theorem q_aald10 (E : CX p m c cc nL s args own D cy Λ) (hw : PH D cy Λ b σ s H locs) (hk : Λ.1 y = 18) {i : Int32} {α : Type} {f : Nat → Option α} {r : α} (hm : (ldR Λ 10 y i).bind f = some r) (hdg : decode cc pc = .ok (.aaload, 1))
    (kk : ∀ v : Nat, Λ.1 v = 10 → f v = some r → W p l e R s m args below meth c H locs cells slots Q (F0 m (pc + 1) ls (.ref (b + v) :: rest))) : W p l e R s m args below meth c H locs cells slots Q (F0 m pc ls (.int i :: .ref (b + y) :: rest)) := by
  obtain ⟨v, hv, hm⟩ := o_bd hm
  unfold ldR at hv
  by_cases hi : i < 0 ∨ Λ.2.2.1 y ≤ i.toNatClampNeg
  · rw [if_pos hi] at hv; cases hv
  · rw [if_neg hi] at hv
    obtain ⟨hk2, hv⟩ := o_ps hv
    cases hv
    exact va_aldq (f := fun i => some (b + Λ.2.1 y i)) E.1.1 E.1.2.1 E.2.1 hw.1 y 5 (by rw [wsP_at (q_lt E hk (by omega)), CE_18 hk]) rfl hi hdg (kk _ hk2 hm)
theorem q_iast (E : CX p m c cc nL s args own D cy Λ) (hw : PH D cy Λ b σ s H locs) (hk : Λ.1 y = 13) {i v : Int32} {α : Type} {f : ST → Option α} {r : α} (hm : (stA Λ σ y i v).bind f = some r) (hdg : decode cc pc = .ok (.iastore, 1))
    (kk : ∀ (τ : ST) (H1 : Heap) (locs1 : List Loc), f τ = some r → PH D cy Λ b τ s H1 locs1 → W p l e R s m args below meth c H1 locs1 cells slots Q (F0 m (pc + 1) ls rest)) : W p l e R s m args below meth c H locs cells slots Q (F0 m pc ls (.int v :: .int i :: .ref (b + y) :: rest)) := by
  obtain ⟨τ, hv, hm⟩ := o_bd hm
  obtain ⟨hi, rfl⟩ := o_nt hv
  refine va_iast E.1.1 E.1.2.1 E.2.1 hw.1 wsP_D hw.2.1 y 0 (by rw [wsP_at (q_lt E hk (by omega)), CE_13 hk]) rfl hi hdg fun H1 locs1 hP _ hS => ?_
  rw [wsP_set (σ' := sA σ y (upd (gA σ y) i.toNatClampNeg v)) (by rw [CE_13 hk, gA_sA, if_pos rfl]) (fun z hz => CE_sA hz)] at hP
  exact kk _ H1 locs1 hm ⟨hP, hS, hw.2.2⟩
theorem q_bast (E : CX p m c cc nL s args own D cy Λ) (hw : PH D cy Λ b σ s H locs) (hk : Λ.1 y = 15) {i v : Int32} {α : Type} {f : ST → Option α} {r : α} (hm : (stA Λ σ y i v.toInt8.toInt32).bind f = some r) (hdg : decode cc pc = .ok (.bastore, 1))
    (kk : ∀ (τ : ST) (H1 : Heap) (locs1 : List Loc), f τ = some r → PH D cy Λ b τ s H1 locs1 → W p l e R s m args below meth c H1 locs1 cells slots Q (F0 m (pc + 1) ls rest)) : W p l e R s m args below meth c H locs cells slots Q (F0 m pc ls (.int v :: .int i :: .ref (b + y) :: rest)) := by
  obtain ⟨τ, hv, hm⟩ := o_bd hm
  obtain ⟨hi, rfl⟩ := o_nt hv
  refine va_bast E.1.1 E.1.2.1 E.2.1 hw.1 wsP_D hw.2.1 y 2 (by rw [wsP_at (q_lt E hk (by omega)), CE_15 hk]) rfl hi hdg fun H1 locs1 hP _ hS => ?_
  rw [vp_nar_byte] at hP
  rw [wsP_set (σ' := sA σ y (upd (gA σ y) i.toNatClampNeg v.toInt8.toInt32)) (by rw [CE_15 hk, gA_sA, if_pos rfl]) (fun z hz => CE_sA hz)] at hP
  exact kk _ H1 locs1 hm ⟨hP, hS, hw.2.2⟩
theorem q_zast (E : CX p m c cc nL s args own D cy Λ) (hw : PH D cy Λ b σ s H locs) (hk : Λ.1 y = 16) {i v : Int32} {α : Type} {f : ST → Option α} {r : α} (hm : (stA Λ σ y i (v &&& 1)).bind f = some r) (hdg : decode cc pc = .ok (.bastore, 1))
    (kk : ∀ (τ : ST) (H1 : Heap) (locs1 : List Loc), f τ = some r → PH D cy Λ b τ s H1 locs1 → W p l e R s m args below meth c H1 locs1 cells slots Q (F0 m (pc + 1) ls rest)) : W p l e R s m args below meth c H locs cells slots Q (F0 m pc ls (.int v :: .int i :: .ref (b + y) :: rest)) := by
  obtain ⟨τ, hv, hm⟩ := o_bd hm
  obtain ⟨hi, rfl⟩ := o_nt hv
  refine va_zast E.1.1 E.1.2.1 E.2.1 hw.1 wsP_D hw.2.1 y 3 (by rw [wsP_at (q_lt E hk (by omega)), CE_16 hk]) rfl hi hdg fun H1 locs1 hP _ hS => ?_
  rw [show vp_nar .boolean v = v &&& 1 from rfl] at hP
  rw [wsP_set (σ' := sA σ y (upd (gA σ y) i.toNatClampNeg (v &&& 1))) (by rw [CE_16 hk, gA_sA, if_pos rfl]) (fun z hz => CE_sA hz)] at hP
  exact kk _ H1 locs1 hm ⟨hP, hS, hw.2.2⟩
theorem q_last (E : CX p m c cc nL s args own D cy Λ) (hw : PH D cy Λ b σ s H locs) (hk : Λ.1 y = 14) {i : Int32} {v : Int64} {α : Type} {f : ST → Option α} {r : α} (hm : (stB Λ σ y i v).bind f = some r) (hdg : decode cc pc = .ok (.lastore, 1))
    (kk : ∀ (τ : ST) (H1 : Heap) (locs1 : List Loc), f τ = some r → PH D cy Λ b τ s H1 locs1 → W p l e R s m args below meth c H1 locs1 cells slots Q (F0 m (pc + 1) ls rest)) : W p l e R s m args below meth c H locs cells slots Q (F0 m pc ls (.long v :: .int i :: .ref (b + y) :: rest)) := by
  obtain ⟨τ, hv, hm⟩ := o_bd hm
  obtain ⟨hi, rfl⟩ := o_nt hv
  refine va_last E.1.1 E.1.2.1 E.2.1 hw.1 wsP_D hw.2.1 y 1 (by rw [wsP_at (q_lt E hk (by omega)), CE_14 hk]) rfl hi hdg fun H1 locs1 hP _ hS => ?_
  rw [wsP_set (σ' := sB σ y (vp_updL (gB σ y) i.toNatClampNeg v)) (by rw [CE_14 hk, gB_sB, if_pos rfl]) (fun z hz => CE_sB hz)] at hP
  exact kk _ H1 locs1 hm ⟨hP, hS, hw.2.2⟩
theorem q_alenI (E : CX p m c cc nL s args own D cy Λ) (hw : PH D cy Λ b σ s H locs) (hk : Λ.1 y = 13) (hdg : decode cc pc = .ok (.arraylength, 1))
    (kk : W p l e R s m args below meth c H locs cells slots Q (F0 m (pc + 1) ls (.int (Int32.ofNat (Λ.2.2.1 y)) :: rest))) : W p l e R s m args below meth c H locs cells slots Q (F0 m pc ls (.ref (b + y) :: rest)) :=
  va_alen E.1.1 E.1.2.1 E.2.1 hw.1 y 0 (by rw [wsP_at (q_lt E hk (by omega)), CE_13 hk]) rfl rfl hdg kk
theorem q_alenL (E : CX p m c cc nL s args own D cy Λ) (hw : PH D cy Λ b σ s H locs) (hk : Λ.1 y = 14) (hdg : decode cc pc = .ok (.arraylength, 1))
    (kk : W p l e R s m args below meth c H locs cells slots Q (F0 m (pc + 1) ls (.int (Int32.ofNat (Λ.2.2.1 y)) :: rest))) : W p l e R s m args below meth c H locs cells slots Q (F0 m pc ls (.ref (b + y) :: rest)) :=
  va_alen E.1.1 E.1.2.1 E.2.1 hw.1 y 1 (by rw [wsP_at (q_lt E hk (by omega)), CE_14 hk]) rfl rfl hdg kk
end QR
