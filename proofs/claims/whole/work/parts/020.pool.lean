/-! THE POOL: objects and rows at b + x for x below n; what they hold is told by four functions -/
abbrev ST : Type := (Nat → Nat → Int32) × (Nat → Nat → Int64) × (Nat → Nat → Int32) × (Nat → Nat → Int64)
def gI (σ : ST) (x k : Nat) : Int32 := σ.1 x k
def gJ (σ : ST) (x k : Nat) : Int64 := σ.2.1 x k
def gA (σ : ST) (x : Nat) : Nat → Int32 := σ.2.2.1 x
def gB (σ : ST) (x : Nat) : Nat → Int64 := σ.2.2.2 x
def sI (σ : ST) (x k : Nat) (v : Int32) : ST := (va_up σ.1 x (va_up (σ.1 x) k v), σ.2.1, σ.2.2.1, σ.2.2.2)
def sJ (σ : ST) (x k : Nat) (v : Int64) : ST := (σ.1, va_up σ.2.1 x (va_up (σ.2.1 x) k v), σ.2.2.1, σ.2.2.2)
def sA (σ : ST) (x : Nat) (f : Nat → Int32) : ST := (σ.1, σ.2.1, va_up σ.2.2.1 x f, σ.2.2.2)
def sB (σ : ST) (x : Nat) (f : Nat → Int64) : ST := (σ.1, σ.2.1, σ.2.2.1, va_up σ.2.2.2 x f)
theorem gI_sI (σ : ST) (x k : Nat) (v : Int32) (y j : Nat) : gI (sI σ x k v) y j = if y = x ∧ j = k then v else gI σ y j := by
  unfold gI sI va_up
  by_cases h : y = x
  · subst h
    by_cases h2 : j = k <;> simp [h2]
  · simp [h]
theorem gJ_sJ (σ : ST) (x k : Nat) (v : Int64) (y j : Nat) : gJ (sJ σ x k v) y j = if y = x ∧ j = k then v else gJ σ y j := by
  unfold gJ sJ va_up
  by_cases h : y = x
  · subst h
    by_cases h2 : j = k <;> simp [h2]
  · simp [h]
theorem gA_sA (σ : ST) (x : Nat) (f : Nat → Int32) (y : Nat) : gA (sA σ x f) y = if y = x then f else gA σ y := rfl
theorem gB_sB (σ : ST) (x : Nat) (f : Nat → Int64) (y : Nat) : gB (sB σ x f) y = if y = x then f else gB σ y := rfl
theorem gI_sJ (σ : ST) (x k : Nat) (v : Int64) (y j : Nat) : gI (sJ σ x k v) y j = gI σ y j := rfl
theorem gI_sA (σ : ST) (x : Nat) (f : Nat → Int32) (y j : Nat) : gI (sA σ x f) y j = gI σ y j := rfl
theorem gI_sB (σ : ST) (x : Nat) (f : Nat → Int64) (y j : Nat) : gI (sB σ x f) y j = gI σ y j := rfl
theorem gJ_sI (σ : ST) (x k : Nat) (v : Int32) (y j : Nat) : gJ (sI σ x k v) y j = gJ σ y j := rfl
theorem gJ_sA (σ : ST) (x : Nat) (f : Nat → Int32) (y j : Nat) : gJ (sA σ x f) y j = gJ σ y j := rfl
theorem gJ_sB (σ : ST) (x : Nat) (f : Nat → Int64) (y j : Nat) : gJ (sB σ x f) y j = gJ σ y j := rfl
theorem gA_sI (σ : ST) (x k : Nat) (v : Int32) (y : Nat) : gA (sI σ x k v) y = gA σ y := rfl
theorem gA_sJ (σ : ST) (x k : Nat) (v : Int64) (y : Nat) : gA (sJ σ x k v) y = gA σ y := rfl
theorem gA_sB (σ : ST) (x : Nat) (f : Nat → Int64) (y : Nat) : gA (sB σ x f) y = gA σ y := rfl
theorem gB_sI (σ : ST) (x k : Nat) (v : Int32) (y : Nat) : gB (sI σ x k v) y = gB σ y := rfl
theorem gB_sJ (σ : ST) (x k : Nat) (v : Int64) (y : Nat) : gB (sJ σ x k v) y = gB σ y := rfl
theorem gB_sA (σ : ST) (x : Nat) (f : Nat → Int32) (y : Nat) : gB (sA σ x f) y = gB σ y := rfl
/-- a pool's plan: the kind of each cell, where its references go, how long a row is, how many cells -/
abbrev LY : Type := (Nat → Nat) × (Nat → Nat → Nat) × (Nat → Nat) × Nat
def nfC (κ : Nat) : Nat := match κ with
  | 0 => 2 | 1 => 4 | 2 => 9 | 3 => 5 | 4 => 4 | 5 => 6 | 6 => 12 | 7 => 12 | 8 => 3 | 9 => 4 | 10 => 12 | 11 => 20 | 12 => 47 | _ => 0
def tyC (κ : Nat) : Nat → FieldType := match κ with
  | 0 => tyX0 | 1 => tyX1 | 2 => tyX2 | 3 => tyX3 | 4 => tyX4 | 5 => tyX5 | 6 => tyX6 | 7 => tyX7 | 8 => tyX8 | 9 => tyX9 | 10 => tyX10 | 11 => tyX11 | _ => tyX12
def svC (Λ : LY) (b : Nat) (σ : ST) (x k : Nat) (ty : FieldType) : Value := match ty with
  | .int => .int (gI σ x k)
  | .boolean => .int (gI σ x k)
  | .long => .long (gJ σ x k)
  | _ => .ref (b + Λ.2.1 x k)
def fsC (Λ : LY) (b : Nat) (σ : ST) (x κ : Nat) : List Value := (List.range (nfC κ)).map (fun k => svC Λ b σ x k (tyC κ k))
def CE (cy : Nat → ClassId) (Λ : LY) (b : Nat) (σ : ST) (x : Nat) : va_E :=
  if Λ.1 x = 13 then .inl (cy 0, Λ.2.2.1 x, .inl (gA σ x))
  else if Λ.1 x = 14 then .inl (cy 1, Λ.2.2.1 x, .inr (.inl (gB σ x)))
  else if Λ.1 x = 15 then .inl (cy 2, Λ.2.2.1 x, .inl (gA σ x))
  else if Λ.1 x = 16 then .inl (cy 3, Λ.2.2.1 x, .inl (gA σ x))
  else if Λ.1 x = 17 then .inl (cy 4, Λ.2.2.1 x, .inr (.inr (.inr (.inr (fun i => some (b + Λ.2.1 x i))))))
  else if Λ.1 x = 18 then .inl (cy 5, Λ.2.2.1 x, .inr (.inr (.inr (.inr (fun i => some (b + Λ.2.1 x i))))))
  else .inr (Λ.1 x, fsC Λ b σ x (Λ.1 x))
def tysP (cy : Nat → ClassId) : List (ClassId × FieldType) := [(cy 0, .int), (cy 1, .long), (cy 2, .byte), (cy 3, .boolean), (cy 4, .object "TwinShelf$Tray"), (cy 5, .object "TwinShelf$World")]
def wsP (cy : Nat → ClassId) (Λ : LY) (b : Nat) (σ : ST) : va_W := (List.range Λ.2.2.2).map (fun x => (b + x, CE cy Λ b σ x))
def inP (Λ : LY) (b : Nat) : Nat → Prop := fun q => b ≤ q ∧ q < b + Λ.2.2.2
def LOK (Λ : LY) : Prop := ∀ x, Λ.1 x < 19 → x < Λ.2.2.2
theorem wsP_at {cy : Nat → ClassId} {Λ : LY} {b : Nat} {σ : ST} {x : Nat} (h : x < Λ.2.2.2) : (wsP cy Λ b σ)[x]? = some (b + x, CE cy Λ b σ x) := by
  simp [wsP, h]
theorem wsP_D {cy : Nat → ClassId} {Λ : LY} {b : Nat} {σ : ST} : va_D (inP Λ b) (wsP cy Λ b σ) := by
  constructor
  · intro i j p q hi hj h
    simp only [wsP, List.getElem?_map, Option.map_eq_some_iff] at hi hj
    obtain ⟨a, ha, rfl⟩ := hi
    obtain ⟨a2, ha2, rfl⟩ := hj
    rw [List.getElem?_range] at ha ha2
    all_goals (try simp only [Option.some.injEq] at ha ha2)
    · simp only at h
      omega
    · exact (List.getElem?_eq_some_iff.mp ha2).1 |> fun z => by simpa using z
    · exact (List.getElem?_eq_some_iff.mp ha).1 |> fun z => by simpa using z
  · intro k q hk
    simp only [wsP, List.getElem?_map, Option.map_eq_some_iff] at hk
    obtain ⟨a, ha, rfl⟩ := hk
    have hl : k < Λ.2.2.2 := (List.getElem?_eq_some_iff.mp ha).1 |> fun z => by simpa using z
    rw [List.getElem?_range hl] at ha
    have e : k = a := Option.some.inj ha
    subst e
    exact ⟨Nat.le_add_right _ _, Nat.add_lt_add_left hl _⟩
theorem wsP_set {cy : Nat → ClassId} {Λ : LY} {b : Nat} {σ σ' : ST} {x : Nat} {e : va_E} (h : CE cy Λ b σ' x = e) (ho : ∀ y, y ≠ x → CE cy Λ b σ' y = CE cy Λ b σ y) : (wsP cy Λ b σ).set x (b + x, e) = wsP cy Λ b σ' := by
  apply List.ext_getElem?
  intro i
  rw [List.getElem?_set]
  by_cases hi : x = i
  · subst hi
    by_cases hl : x < Λ.2.2.2
    · rw [if_pos rfl, wsP_at hl, h]; simp [wsP, hl]
    · simp [wsP, hl]
  · rw [if_neg hi]
    simp only [wsP, List.getElem?_map]
    by_cases hl : i < Λ.2.2.2
    · rw [List.getElem?_range hl]
      simp only [Option.map_some, ho i (fun q => hi q.symm)]
    · rw [List.getElem?_eq_none (by simpa using hl)]
      rfl
theorem CE_obj {cy : Nat → ClassId} {Λ : LY} {b : Nat} {σ : ST} {x κ : Nat} (h : Λ.1 x = κ) (hκ : κ < 13) : CE cy Λ b σ x = .inr (κ, fsC Λ b σ x κ) := by
  subst h
  unfold CE
  rw [if_neg (by omega), if_neg (by omega), if_neg (by omega), if_neg (by omega), if_neg (by omega), if_neg (by omega)]
theorem CE_13 {cy : Nat → ClassId} {Λ : LY} {b : Nat} {σ : ST} {x : Nat} (h : Λ.1 x = 13) : CE cy Λ b σ x = .inl (cy 0, Λ.2.2.1 x, .inl (gA σ x)) := by simp [CE, h]
theorem CE_14 {cy : Nat → ClassId} {Λ : LY} {b : Nat} {σ : ST} {x : Nat} (h : Λ.1 x = 14) : CE cy Λ b σ x = .inl (cy 1, Λ.2.2.1 x, .inr (.inl (gB σ x))) := by simp [CE, h]
theorem CE_15 {cy : Nat → ClassId} {Λ : LY} {b : Nat} {σ : ST} {x : Nat} (h : Λ.1 x = 15) : CE cy Λ b σ x = .inl (cy 2, Λ.2.2.1 x, .inl (gA σ x)) := by simp [CE, h]
theorem CE_16 {cy : Nat → ClassId} {Λ : LY} {b : Nat} {σ : ST} {x : Nat} (h : Λ.1 x = 16) : CE cy Λ b σ x = .inl (cy 3, Λ.2.2.1 x, .inl (gA σ x)) := by simp [CE, h]
theorem CE_17 {cy : Nat → ClassId} {Λ : LY} {b : Nat} {σ : ST} {x : Nat} (h : Λ.1 x = 17) : CE cy Λ b σ x = .inl (cy 4, Λ.2.2.1 x, .inr (.inr (.inr (.inr (fun i => some (b + Λ.2.1 x i)))))) := by simp [CE, h]
theorem CE_18 {cy : Nat → ClassId} {Λ : LY} {b : Nat} {σ : ST} {x : Nat} (h : Λ.1 x = 18) : CE cy Λ b σ x = .inl (cy 5, Λ.2.2.1 x, .inr (.inr (.inr (.inr (fun i => some (b + Λ.2.1 x i)))))) := by simp [CE, h]
theorem CE_congr {cy : Nat → ClassId} {Λ : LY} {b : Nat} {σ τ : ST} {x : Nat} (h1 : ∀ k, gI σ x k = gI τ x k) (h2 : ∀ k, gJ σ x k = gJ τ x k) (h3 : gA σ x = gA τ x) (h4 : gB σ x = gB τ x) : CE cy Λ b σ x = CE cy Λ b τ x := by
  have hs : ∀ k ty, svC Λ b σ x k ty = svC Λ b τ x k ty := fun k ty => by
    unfold svC
    cases ty <;> simp [h1, h2]
  unfold CE fsC
  simp only [h3, h4, hs]
def isI (ty : FieldType) : Bool := match ty with | .int => true | .boolean => true | _ => false
def isL (ty : FieldType) : Bool := match ty with | .long => true | _ => false
def isR (ty : FieldType) : Bool := match ty with | .object _ => true | .array _ => true | _ => false
theorem svC_I {Λ : LY} {b : Nat} {σ : ST} {x k : Nat} {ty : FieldType} (h : isI ty = true) : svC Λ b σ x k ty = .int (gI σ x k) := by cases ty <;> simp_all [isI, svC]
theorem svC_L {Λ : LY} {b : Nat} {σ : ST} {x k : Nat} {ty : FieldType} (h : isL ty = true) : svC Λ b σ x k ty = .long (gJ σ x k) := by cases ty <;> simp_all [isL, svC]
theorem svC_R {Λ : LY} {b : Nat} {σ : ST} {x k : Nat} {ty : FieldType} (h : isR ty = true) : svC Λ b σ x k ty = .ref (b + Λ.2.1 x k) := by cases ty <;> simp_all [isR, svC]
theorem fsC_at {Λ : LY} {b : Nat} {σ : ST} {x κ k : Nat} (h : k < nfC κ) : (fsC Λ b σ x κ)[k]? = some (svC Λ b σ x k (tyC κ k)) := by
  simp [fsC, h]
theorem fsC_len {Λ : LY} {b : Nat} {σ : ST} {x κ : Nat} : (fsC Λ b σ x κ).length = nfC κ := by simp [fsC]
theorem fsC_setI {Λ : LY} {b : Nat} {σ : ST} {x κ k : Nat} {v : Int32} (ht : isI (tyC κ k) = true) : (fsC Λ b σ x κ).set k (.int v) = fsC Λ b (sI σ x k v) x κ := by
  apply List.ext_getElem?
  intro i
  rw [List.getElem?_set, fsC_len]
  by_cases hl : i < nfC κ
  · by_cases hi : k = i
    · subst hi
      rw [if_pos rfl, if_pos hl, fsC_at hl, svC_I ht, gI_sI, if_pos ⟨rfl, rfl⟩]
    · rw [if_neg hi, fsC_at hl, fsC_at hl]
      congr 1
      unfold svC
      cases tyC κ i <;> simp [gI_sI, gJ_sI] <;> exact fun q => absurd q.symm hi
  · have e : ∀ τ : ST, (fsC Λ b τ x κ)[i]? = none := fun τ => List.getElem?_eq_none (by rw [fsC_len]; omega)
    rw [e, e]
    by_cases hi : k = i
    · subst hi; simp [hl]
    · simp [hi]
theorem fsC_setL {Λ : LY} {b : Nat} {σ : ST} {x κ k : Nat} {v : Int64} (ht : isL (tyC κ k) = true) : (fsC Λ b σ x κ).set k (.long v) = fsC Λ b (sJ σ x k v) x κ := by
  apply List.ext_getElem?
  intro i
  rw [List.getElem?_set, fsC_len]
  by_cases hl : i < nfC κ
  · by_cases hi : k = i
    · subst hi
      rw [if_pos rfl, if_pos hl, fsC_at hl, svC_L ht, gJ_sJ, if_pos ⟨rfl, rfl⟩]
    · rw [if_neg hi, fsC_at hl, fsC_at hl]
      congr 1
      unfold svC
      cases tyC κ i <;> simp [gJ_sJ, gI_sJ] <;> exact fun q => absurd q.symm hi
  · have e : ∀ τ : ST, (fsC Λ b τ x κ)[i]? = none := fun τ => List.getElem?_eq_none (by rw [fsC_len]; omega)
    rw [e, e]
    by_cases hi : k = i
    · subst hi; simp [hl]
    · simp [hi]
theorem CE_sI {cy : Nat → ClassId} {Λ : LY} {b : Nat} {σ : ST} {x k : Nat} {v : Int32} {y : Nat} (h : y ≠ x) : CE cy Λ b (sI σ x k v) y = CE cy Λ b σ y := CE_congr (fun j => by rw [gI_sI, if_neg (fun q => h q.1)]) (fun _ => rfl) rfl rfl
theorem CE_sJ {cy : Nat → ClassId} {Λ : LY} {b : Nat} {σ : ST} {x k : Nat} {v : Int64} {y : Nat} (h : y ≠ x) : CE cy Λ b (sJ σ x k v) y = CE cy Λ b σ y := CE_congr (fun _ => rfl) (fun j => by rw [gJ_sJ, if_neg (fun q => h q.1)]) rfl rfl
theorem CE_sA {cy : Nat → ClassId} {Λ : LY} {b : Nat} {σ : ST} {x : Nat} {f : Nat → Int32} {y : Nat} (h : y ≠ x) : CE cy Λ b (sA σ x f) y = CE cy Λ b σ y := CE_congr (fun _ => rfl) (fun _ => rfl) (by rw [gA_sA, if_neg h]) rfl
theorem CE_sB {cy : Nat → ClassId} {Λ : LY} {b : Nat} {σ : ST} {x : Nat} {f : Nat → Int64} {y : Nat} (h : y ≠ x) : CE cy Λ b (sB σ x f) y = CE cy Λ b σ y := CE_congr (fun _ => rfl) (fun _ => rfl) rfl (by rw [gB_sB, if_neg h])
/-- what a walk over a pool knows: the machine, the tables, the plan -/
abbrev CX (p : Program) (m : MethodId) (c : Code) (cc : ByteArray) (nL : Nat) (s : State) (args : Array Value) (own : String) (D : va_G) (cy : Nat → ClassId) (Λ : LY) : Prop := CallFix p m c cc nL s args wsL_law own ∧ va_K D vwCl (tysP cy) s ∧ LOK Λ
/-! the literals: their objects at cy (100 + i), their bytes at cy (200 + i) -/
def lenS : List Nat := [5, 4, 5, 4, 2, 3, 2, 2, 6, 1, 133, 6, 4, 4, 134]
def bytS : List (List Int32) := [[118, 64, 112, 110, 59], [118, 64, 112, 59], [115, 64, 112, 110, 59], [107, 64, 112, 59], [112, 59], [112, 111, 59], [110, 59], [107, 59], [107, 64, 112, 99, 110, 59], [59], [112, 108, 97, 99, 101, 115, 32, 114, 101, 97, 100, 115, 32, 119, 114, 105, 116, 101, 115, 32, 107, 101, 101, 112, 101, 114, 32, 97, 116, 32, 107, 101, 121, 32, 115, 117, 109, 32, 112, 117, 116, 32, 115, 116, 114, 105, 107, 101, 32, 97, 100, 100, 32, 103, 101, 116, 32, 102, 97, 108, 108, 32, 114, 105, 115, 101, 32, 119, 105, 112, 101, 32, 112, 97, 114, 116, 32, 104, 101, 97, 108, 32, 104, 97, 110, 100, 32, 110, 105, 103, 104, 116, 32, 115, 116, 111, 114, 109, 32, 119, 104, 101, 110, 32, 97, 108, 105, 107, 101, 32, 117, 112, 32, 116, 119, 105, 110, 115, 32, 108, 111, 111, 112, 32, 101, 110, 100, 32, 115, 116, 111, 112, 32], [110, 114, 82, 119, 87, 59], [107, 64, 75, 59], [121, 64, 89, 46], [32, 112, 108, 97, 99, 101, 115, 32, 107, 101, 101, 112, 101, 114, 32, 107, 101, 121, 32, 114, 101, 97, 100, 115, 32, 119, 114, 105, 116, 101, 115, 32, 97, 116, 32, 115, 117, 109, 32, 112, 117, 116, 32, 115, 116, 114, 105, 107, 101, 32, 97, 100, 100, 32, 103, 101, 116, 32, 102, 97, 108, 108, 32, 114, 105, 115, 101, 32, 119, 105, 112, 101, 32, 112, 97, 114, 116, 32, 104, 101, 97, 108, 32, 104, 97, 110, 100, 32, 110, 105, 103, 104, 116, 32, 115, 116, 111, 114, 109, 32, 119, 104, 101, 110, 32, 108, 111, 111, 112, 32, 101, 110, 100, 32, 115, 116, 111, 112, 32, 97, 108, 105, 107, 101, 32, 117, 112, 32, 116, 119, 105, 110, 115, 32]]
def refS : List (String × Nat × String × Nat) := [("TwinShelf$DaysText", 102, "v@pn;", 0), ("TwinShelf$DaysText", 104, "v@p;", 1), ("TwinShelf$DaysText", 106, "s@pn;", 2), ("TwinShelf$DaysText", 108, "k@p;", 3), ("TwinShelf$DaysText", 110, "p;", 4), ("TwinShelf$DaysText", 112, "po;", 5), ("TwinShelf$DaysText", 114, "n;", 6), ("TwinShelf$DaysText", 116, "k;", 7), ("TwinShelf$DaysText", 118, "k@pcn;", 8), ("TwinShelf$DaysText", 120, ";", 9), ("TwinShelf$Reader", 71, "places reads writes keeper at key sum put strike add get fall rise wipe part heal hand night storm when alike up twins loop end stop ", 10), ("TwinShelf$ShelfText", 65, "nrRwW;", 11), ("TwinShelf$ShelfText", 67, "k@K;", 12), ("TwinShelf$ShelfText", 69, "y@Y.", 13), ("TwinShelfModel", 196, " places keeper key reads writes at sum put strike add get fall rise wipe part heal hand night storm when loop end stop alike up twins ", 14)]
def SX (cy : Nat → ClassId) (Λ : LY) (b : Nat) (U : State) : Prop := vk_S 15 lenS bytS (fun i => cy (100 + i)) (fun i => cy (200 + i)) (inP Λ b) U U.heap ∧ (∀ q ∈ refS, vk_R q.1 q.2.1 q.2.2.1 (cy (100 + q.2.2.2)) U) ∧ va_Z "java/lang/String" "COMPACT_STRINGS" "Z" (.int 1) (inP Λ b) U U.heap ∧ va_Zq "jdk/internal/util/Preconditions" "SIOOBE_FORMATTER" "Ljava/util/function/BiFunction;" (inP Λ b) U U.heap
theorem SX_to {cy : Nat → ClassId} {Λ : LY} {b : Nat} {s U : State} {H : Heap} {locs : List Loc} (h : SX cy Λ b s) (hS : va_S (inP Λ b) s.heap H locs) (hU : U.heap = H) (hW : s.WarmedH U.vm) : SX cy Λ b U := by
  obtain ⟨h1, h2, h3, h4⟩ := h
  have hk : ∀ a : Nat, a < s.heap.size → ¬ inP Λ b a → U.heap[a]? = s.heap[a]? := fun a g1 g2 => by rw [hU]; exact hS.2.1 a g1 g2
  exact ⟨(vk_S.moved hW.alike h1).kept hk, fun q hq => (h2 q hq).warm hW, (va_Z.moved hW.alike h3).kept hk, (va_Zq.moved hW.alike h4).kept hk⟩
theorem SX_same {cy : Nat → ClassId} {Λ : LY} {b : Nat} {s U : State} (h : SX cy Λ b s) (hH : U.heap = s.heap) (hV : U.vm = s.vm) : SX cy Λ b U := by
  obtain ⟨h1, h2, h3, h4⟩ := h
  have hal : s.vm.Alike U.vm := by rw [hV]; exact Vm.Alike.refl _
  have hk : ∀ a : Nat, a < s.heap.size → ¬ inP Λ b a → U.heap[a]? = s.heap[a]? := fun a _ _ => by rw [hH]
  exact ⟨(vk_S.moved hal h1).kept hk, fun q hq => (h2 q hq).same hV, (va_Z.moved hal h3).kept hk, (va_Zq.moved hal h4).kept hk⟩
/-- the pool on the heap, and what has changed since the method's entry -/
abbrev PH (D : va_G) (cy : Nat → ClassId) (Λ : LY) (b : Nat) (σ : ST) (s : State) (H : Heap) (locs : List Loc) : Prop := va_P D vwCl (wsP cy Λ b σ) H ∧ va_S (inP Λ b) s.heap H locs ∧ SX cy Λ b s
def PcP (D : va_G) (cy : Nat → ClassId) (Λ : LY) (b : Nat) (av : List Value) (σ : ST) : Array Value → State → Prop := fun v U => v = av.toArray ∧ va_K D vwCl (tysP cy) U ∧ va_P D vwCl (wsP cy Λ b σ) U.heap ∧ SX cy Λ b U
def QcP (D : va_G) (cy : Nat → ClassId) (Λ : LY) (b : Nat) (rv : Option Value) (σ : ST) : Array Value → State → Outcome → State → Prop := fun _ st o t => o = .returned rv ∧ va_P D vwCl (wsP cy Λ b σ) t.heap ∧ va_F (inP Λ b) st t
def rmD (d : Nat) : Room := { frames := d, cells := 0, slots := 0, locals := 64 * d }
def wU (y : MethodName) (bytes : ByteArray) (maxL : Nat) (ret : Option FieldType) : List Cond := Cond.code y bytes maxL ret :: wsL_law
/-- a field's words: own class and pool number, class and slot -/
def FW (own : String) (idx κ k : Nat) (C : String) (T : u_T) (N : Nat) : Prop := vwCl[κ]? = some (C, T, N) ∧ k < N ∧ κ < 13 ∧ N = nfC κ ∧ Cond.fieldLink own idx (T k).1 (T k).2.1 (T k).2.2.1 ∈ wsL_law ∧ (∀ w ∈ u_ws C T N, w ∈ wsL_law) ∧ (∀ k, k < N → parseFieldDescriptor (T k).2.2.1 = some (tyC κ k)) ∧ ∀ a, a < N → ∀ b, b < N → a ≠ b → (T a).2.1 ≠ (T b).2.1
/-- a virtual call's words -/
def MW (own : String) (idx : Nat) (C : String) (y : MethodName) (bytes : ByteArray) (maxL : Nat) (ret : Option FieldType) (n : Nat) : Prop := Cond.methodLink own idx y ∈ wsL_law ∧ Cond.instanceMethod y ∈ wsL_law ∧ Cond.selects C y y ∈ wsL_law ∧ Cond.initialized C ∈ wsL_law ∧ Cond.code y bytes maxL ret ∈ wsL_law ∧ y.cls = C ∧ y.cls ≠ "java/lang/invoke/MethodHandle" ∧ y.cls ≠ "java/lang/invoke/VarHandle" ∧ (parseMethodDescriptor y.desc).map (fun d => d.parameters.length) = some n
/-- a static call's words -/
def MS (own : String) (idx : Nat) (y : MethodName) (bytes : ByteArray) (maxL : Nat) (ret : Option FieldType) (n : Nat) : Prop := Cond.methodLink own idx y ∈ wsL_law ∧ Cond.static y ∈ wsL_law ∧ Cond.initialized y.cls ∈ wsL_law ∧ Cond.code y bytes maxL ret ∈ wsL_law ∧ y.cls ≠ "java/lang/invoke/MethodHandle" ∧ y.cls ≠ "java/lang/invoke/VarHandle" ∧ (parseMethodDescriptor y.desc).map (fun d => d.parameters.length) = some n
def ldA (Λ : LY) (σ : ST) (y : Nat) (i : Int32) : Option Int32 := if i < 0 ∨ Λ.2.2.1 y ≤ i.toNatClampNeg then none else some (gA σ y i.toNatClampNeg)
def ldB (Λ : LY) (σ : ST) (y : Nat) (i : Int32) : Option Int64 := if i < 0 ∨ Λ.2.2.1 y ≤ i.toNatClampNeg then none else some (gB σ y i.toNatClampNeg)
def ldR (Λ : LY) (κ y : Nat) (i : Int32) : Option Nat := if i < 0 ∨ Λ.2.2.1 y ≤ i.toNatClampNeg then none else if Λ.1 (Λ.2.1 y i.toNatClampNeg) = κ then some (Λ.2.1 y i.toNatClampNeg) else none
def stA (Λ : LY) (σ : ST) (y : Nat) (i : Int32) (v : Int32) : Option ST := if i < 0 ∨ Λ.2.2.1 y ≤ i.toNatClampNeg then none else some (sA σ y (upd (gA σ y) i.toNatClampNeg v))
def stB (Λ : LY) (σ : ST) (y : Nat) (i : Int32) (v : Int64) : Option ST := if i < 0 ∨ Λ.2.2.1 y ≤ i.toNatClampNeg then none else some (sB σ y (vp_updL (gB σ y) i.toNatClampNeg v))
def ldS (i : Nat) (j : Int32) : Option Int32 := if j < 0 ∨ lenS.getD i 0 ≤ j.toNatClampNeg then none else some ((bytS.getD i []).getD j.toNatClampNeg 0)
def ckN (ty : FieldType) (v : Int32) : Option Int32 := if narrow ty (.int v) = .int v then some v else none
def ckZ (v : Int32) : Option Int32 := if v = 0 ∨ v = 1 then some v else none
def dvI (x y : Int32) : Option Int32 := if y = 0 then none else some (x / y)
def rmI (x y : Int32) : Option Int32 := if y = 0 then none else some (x - x / y * y)
def dvL (x y : Int64) : Option Int64 := if y = 0 then none else some (x / y)
def rmL (x y : Int64) : Option Int64 := if y = 0 then none else some (x - x / y * y)
def cpA (Λ : LY) (σ : ST) (y : Nat) (sp : Int32) (z : Nat) (dp n : Int32) : Option ST := if (¬ sp < 0) ∧ (¬ dp < 0) ∧ (¬ n < 0) ∧ sp.toNatClampNeg + n.toNatClampNeg ≤ Λ.2.2.1 y ∧ dp.toNatClampNeg + n.toNatClampNeg ≤ Λ.2.2.1 z then some (sA σ z (va_cpy (gA σ y) (gA σ z) sp.toNatClampNeg dp.toNatClampNeg n.toNatClampNeg)) else none
def cpB (Λ : LY) (σ : ST) (y : Nat) (sp : Int32) (z : Nat) (dp n : Int32) : Option ST := if (¬ sp < 0) ∧ (¬ dp < 0) ∧ (¬ n < 0) ∧ sp.toNatClampNeg + n.toNatClampNeg ≤ Λ.2.2.1 y ∧ dp.toNatClampNeg + n.toNatClampNeg ≤ Λ.2.2.1 z then some (sB σ z (va_cpy (gB σ y) (gB σ z) sp.toNatClampNeg dp.toNatClampNeg n.toNatClampNeg)) else none
theorem o_bd {α β : Type} {g : Option α} {f : α → Option β} {r : β} (h : g.bind f = some r) : ∃ v, g = some v ∧ f v = some r := Option.bind_eq_some_iff.mp h
theorem o_nt {α : Type} {c : Prop} [Decidable c] {g : α} {r : α} (h : (if c then none else some g) = some r) : ¬ c ∧ g = r := by
  by_cases hc : c
  · rw [if_pos hc] at h; cases h
  · rw [if_neg hc] at h; exact ⟨hc, Option.some.inj h⟩
theorem o_ps {α : Type} {c : Prop} [Decidable c] {g : Option α} {r : α} (h : (if c then g else none) = some r) : c ∧ g = some r := by
  by_cases hc : c
  · rw [if_pos hc] at h; exact ⟨hc, h⟩
  · rw [if_neg hc] at h; cases h
