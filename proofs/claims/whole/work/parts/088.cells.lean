/-! THE CLASS: where its rows lie; worlds at w, cells at c -/
def isW (w : Nat) : Prop := w = 4 ∨ w = 50 ∨ w = 110 ∨ w = 138 ∨ w = 166
def wM : Nat := 4
def wK : Nat := 50
theorem wM_w : isW wM := Or.inl rfl
theorem wK_w : isW wK := Or.inr (Or.inl rfl)
theorem c02 : LC.2.1 0 2 = wM := rfl
theorem c06 : LC.2.1 0 6 = wK := rfl
theorem w_0 {w : Nat} (h : isW w) : LC.2.1 w 0 = w + 1 := by rcases h with rfl | rfl | rfl | rfl | rfl <;> rfl
theorem w_1 {w : Nat} (h : isW w) : LC.2.1 w 1 = w + 8 := by rcases h with rfl | rfl | rfl | rfl | rfl <;> rfl
theorem w_2 {w : Nat} (h : isW w) : LC.2.1 w 2 = w + 15 := by rcases h with rfl | rfl | rfl | rfl | rfl <;> rfl
theorem w_3 {w : Nat} (h : isW w) : LC.2.1 w 3 = w + 18 := by rcases h with rfl | rfl | rfl | rfl | rfl <;> rfl
theorem w_4 {w : Nat} (h : isW w) : LC.2.1 w 4 = w + 21 := by rcases h with rfl | rfl | rfl | rfl | rfl <;> rfl
theorem w_5 {w : Nat} (h : isW w) : LC.2.1 w 5 = w + 22 := by rcases h with rfl | rfl | rfl | rfl | rfl <;> rfl
theorem w_6 {w : Nat} (h : isW w) : LC.2.1 w 6 = w + 25 := by rcases h with rfl | rfl | rfl | rfl | rfl <;> rfl
theorem w_7 {w : Nat} (h : isW w) : LC.2.1 w 7 = w + 26 := by rcases h with rfl | rfl | rfl | rfl | rfl <;> rfl
theorem w_8 {w : Nat} (h : isW w) : LC.2.1 w 8 = w + 27 := by rcases h with rfl | rfl | rfl | rfl | rfl <;> rfl
theorem ws_0 {w : Nat} (h : isW w) : LC.2.1 (w + 1) 0 = w + 2 := by rcases h with rfl | rfl | rfl | rfl | rfl <;> rfl
theorem wd_0 {w : Nat} (h : isW w) : LC.2.1 (w + 8) 0 = w + 9 := by rcases h with rfl | rfl | rfl | rfl | rfl <;> rfl
theorem ws_1 {w : Nat} (h : isW w) : LC.2.1 (w + 1) 1 = w + 3 := by rcases h with rfl | rfl | rfl | rfl | rfl <;> rfl
theorem wd_1 {w : Nat} (h : isW w) : LC.2.1 (w + 8) 1 = w + 10 := by rcases h with rfl | rfl | rfl | rfl | rfl <;> rfl
theorem ws_2 {w : Nat} (h : isW w) : LC.2.1 (w + 1) 2 = w + 4 := by rcases h with rfl | rfl | rfl | rfl | rfl <;> rfl
theorem wd_2 {w : Nat} (h : isW w) : LC.2.1 (w + 8) 2 = w + 11 := by rcases h with rfl | rfl | rfl | rfl | rfl <;> rfl
theorem ws_3 {w : Nat} (h : isW w) : LC.2.1 (w + 1) 3 = w + 5 := by rcases h with rfl | rfl | rfl | rfl | rfl <;> rfl
theorem wd_3 {w : Nat} (h : isW w) : LC.2.1 (w + 8) 3 = w + 12 := by rcases h with rfl | rfl | rfl | rfl | rfl <;> rfl
theorem ws_4 {w : Nat} (h : isW w) : LC.2.1 (w + 1) 4 = w + 6 := by rcases h with rfl | rfl | rfl | rfl | rfl <;> rfl
theorem wd_4 {w : Nat} (h : isW w) : LC.2.1 (w + 8) 4 = w + 13 := by rcases h with rfl | rfl | rfl | rfl | rfl <;> rfl
theorem ws_5 {w : Nat} (h : isW w) : LC.2.1 (w + 1) 5 = w + 7 := by rcases h with rfl | rfl | rfl | rfl | rfl <;> rfl
theorem wd_5 {w : Nat} (h : isW w) : LC.2.1 (w + 8) 5 = w + 14 := by rcases h with rfl | rfl | rfl | rfl | rfl <;> rfl
theorem wh_0 {w : Nat} (h : isW w) : LC.2.1 (w + 15) 0 = w + 16 := by rcases h with rfl | rfl | rfl | rfl | rfl <;> rfl
theorem wh_1 {w : Nat} (h : isW w) : LC.2.1 (w + 15) 1 = w + 17 := by rcases h with rfl | rfl | rfl | rfl | rfl <;> rfl
theorem wq_0 {w : Nat} (h : isW w) : LC.2.1 (w + 18) 0 = w + 19 := by rcases h with rfl | rfl | rfl | rfl | rfl <;> rfl
theorem wq_1 {w : Nat} (h : isW w) : LC.2.1 (w + 18) 1 = w + 20 := by rcases h with rfl | rfl | rfl | rfl | rfl <;> rfl
theorem wt_0 {w : Nat} (h : isW w) : LC.2.1 (w + 22) 0 = w + 23 := by rcases h with rfl | rfl | rfl | rfl | rfl <;> rfl
theorem wt_1 {w : Nat} (h : isW w) : LC.2.1 (w + 22) 1 = w + 24 := by rcases h with rfl | rfl | rfl | rfl | rfl <;> rfl
theorem wl_2 {w : Nat} (h : isW w) : LC.2.2.1 (w + 2) = 6 := by rcases h with rfl | rfl | rfl | rfl | rfl <;> rfl
theorem lw2 {w : Nat} (hw : isW w) {σ : ST} {k : Nat} (h : k < 6) : ldA LC σ (w + 2) (nI k) = some (gA σ (w + 2) k) := la 6 (wl_2 hw) h (by decide)
theorem sw2 {w : Nat} (hw : isW w) {σ : ST} {k : Nat} {v : Int32} (h : k < 6) : stA LC σ (w + 2) (nI k) v = some (sA σ (w + 2) (upd (gA σ (w + 2)) k v)) := sa 6 (wl_2 hw) h (by decide)
theorem wl_3 {w : Nat} (h : isW w) : LC.2.2.1 (w + 3) = 6 := by rcases h with rfl | rfl | rfl | rfl | rfl <;> rfl
theorem lw3 {w : Nat} (hw : isW w) {σ : ST} {k : Nat} (h : k < 6) : ldB LC σ (w + 3) (nI k) = some (gB σ (w + 3) k) := lb 6 (wl_3 hw) h (by decide)
theorem wl_4 {w : Nat} (h : isW w) : LC.2.2.1 (w + 4) = 6 := by rcases h with rfl | rfl | rfl | rfl | rfl <;> rfl
theorem lw4 {w : Nat} (hw : isW w) {σ : ST} {k : Nat} (h : k < 6) : ldA LC σ (w + 4) (nI k) = some (gA σ (w + 4) k) := la 6 (wl_4 hw) h (by decide)
theorem sw4 {w : Nat} (hw : isW w) {σ : ST} {k : Nat} {v : Int32} (h : k < 6) : stA LC σ (w + 4) (nI k) v = some (sA σ (w + 4) (upd (gA σ (w + 4)) k v)) := sa 6 (wl_4 hw) h (by decide)
theorem wl_5 {w : Nat} (h : isW w) : LC.2.2.1 (w + 5) = 6 := by rcases h with rfl | rfl | rfl | rfl | rfl <;> rfl
theorem lw5 {w : Nat} (hw : isW w) {σ : ST} {k : Nat} (h : k < 6) : ldB LC σ (w + 5) (nI k) = some (gB σ (w + 5) k) := lb 6 (wl_5 hw) h (by decide)
theorem wl_6 {w : Nat} (h : isW w) : LC.2.2.1 (w + 6) = 36 := by rcases h with rfl | rfl | rfl | rfl | rfl <;> rfl
theorem lw6 {w : Nat} (hw : isW w) {σ : ST} {k : Nat} (h : k < 36) : ldA LC σ (w + 6) (nI k) = some (gA σ (w + 6) k) := la 36 (wl_6 hw) h (by decide)
theorem sw6 {w : Nat} (hw : isW w) {σ : ST} {k : Nat} {v : Int32} (h : k < 36) : stA LC σ (w + 6) (nI k) v = some (sA σ (w + 6) (upd (gA σ (w + 6)) k v)) := sa 36 (wl_6 hw) h (by decide)
theorem wl_7 {w : Nat} (h : isW w) : LC.2.2.1 (w + 7) = 6 := by rcases h with rfl | rfl | rfl | rfl | rfl <;> rfl
theorem lw7 {w : Nat} (hw : isW w) {σ : ST} {k : Nat} (h : k < 6) : ldA LC σ (w + 7) (nI k) = some (gA σ (w + 7) k) := la 6 (wl_7 hw) h (by decide)
theorem sw7 {w : Nat} (hw : isW w) {σ : ST} {k : Nat} {v : Int32} (h : k < 6) : stA LC σ (w + 7) (nI k) v = some (sA σ (w + 7) (upd (gA σ (w + 7)) k v)) := sa 6 (wl_7 hw) h (by decide)
theorem wl_9 {w : Nat} (h : isW w) : LC.2.2.1 (w + 9) = 60 := by rcases h with rfl | rfl | rfl | rfl | rfl <;> rfl
theorem lw9 {w : Nat} (hw : isW w) {σ : ST} {k : Nat} (h : k < 60) : ldA LC σ (w + 9) (nI k) = some (gA σ (w + 9) k) := la 60 (wl_9 hw) h (by decide)
theorem sw9 {w : Nat} (hw : isW w) {σ : ST} {k : Nat} {v : Int32} (h : k < 60) : stA LC σ (w + 9) (nI k) v = some (sA σ (w + 9) (upd (gA σ (w + 9)) k v)) := sa 60 (wl_9 hw) h (by decide)
theorem wl_10 {w : Nat} (h : isW w) : LC.2.2.1 (w + 10) = 60 := by rcases h with rfl | rfl | rfl | rfl | rfl <;> rfl
theorem lw10 {w : Nat} (hw : isW w) {σ : ST} {k : Nat} (h : k < 60) : ldA LC σ (w + 10) (nI k) = some (gA σ (w + 10) k) := la 60 (wl_10 hw) h (by decide)
theorem sw10 {w : Nat} (hw : isW w) {σ : ST} {k : Nat} {v : Int32} (h : k < 60) : stA LC σ (w + 10) (nI k) v = some (sA σ (w + 10) (upd (gA σ (w + 10)) k v)) := sa 60 (wl_10 hw) h (by decide)
theorem wl_11 {w : Nat} (h : isW w) : LC.2.2.1 (w + 11) = 60 := by rcases h with rfl | rfl | rfl | rfl | rfl <;> rfl
theorem lw11 {w : Nat} (hw : isW w) {σ : ST} {k : Nat} (h : k < 60) : ldA LC σ (w + 11) (nI k) = some (gA σ (w + 11) k) := la 60 (wl_11 hw) h (by decide)
theorem sw11 {w : Nat} (hw : isW w) {σ : ST} {k : Nat} {v : Int32} (h : k < 60) : stA LC σ (w + 11) (nI k) v = some (sA σ (w + 11) (upd (gA σ (w + 11)) k v)) := sa 60 (wl_11 hw) h (by decide)
theorem wl_12 {w : Nat} (h : isW w) : LC.2.2.1 (w + 12) = 60 := by rcases h with rfl | rfl | rfl | rfl | rfl <;> rfl
theorem lw12 {w : Nat} (hw : isW w) {σ : ST} {k : Nat} (h : k < 60) : ldA LC σ (w + 12) (nI k) = some (gA σ (w + 12) k) := la 60 (wl_12 hw) h (by decide)
theorem sw12 {w : Nat} (hw : isW w) {σ : ST} {k : Nat} {v : Int32} (h : k < 60) : stA LC σ (w + 12) (nI k) v = some (sA σ (w + 12) (upd (gA σ (w + 12)) k v)) := sa 60 (wl_12 hw) h (by decide)
theorem wl_13 {w : Nat} (h : isW w) : LC.2.2.1 (w + 13) = 60 := by rcases h with rfl | rfl | rfl | rfl | rfl <;> rfl
theorem lw13 {w : Nat} (hw : isW w) {σ : ST} {k : Nat} (h : k < 60) : ldA LC σ (w + 13) (nI k) = some (gA σ (w + 13) k) := la 60 (wl_13 hw) h (by decide)
theorem sw13 {w : Nat} (hw : isW w) {σ : ST} {k : Nat} {v : Int32} (h : k < 60) : stA LC σ (w + 13) (nI k) v = some (sA σ (w + 13) (upd (gA σ (w + 13)) k v)) := sa 60 (wl_13 hw) h (by decide)
theorem wl_14 {w : Nat} (h : isW w) : LC.2.2.1 (w + 14) = 60 := by rcases h with rfl | rfl | rfl | rfl | rfl <;> rfl
theorem lw14 {w : Nat} (hw : isW w) {σ : ST} {k : Nat} (h : k < 60) : ldA LC σ (w + 14) (nI k) = some (gA σ (w + 14) k) := la 60 (wl_14 hw) h (by decide)
theorem sw14 {w : Nat} (hw : isW w) {σ : ST} {k : Nat} {v : Int32} (h : k < 60) : stA LC σ (w + 14) (nI k) v = some (sA σ (w + 14) (upd (gA σ (w + 14)) k v)) := sa 60 (wl_14 hw) h (by decide)
theorem wl_16 {w : Nat} (h : isW w) : LC.2.2.1 (w + 16) = 216 := by rcases h with rfl | rfl | rfl | rfl | rfl <;> rfl
theorem lw16 {w : Nat} (hw : isW w) {σ : ST} {k : Nat} (h : k < 216) : ldA LC σ (w + 16) (nI k) = some (gA σ (w + 16) k) := la 216 (wl_16 hw) h (by decide)
theorem sw16 {w : Nat} (hw : isW w) {σ : ST} {k : Nat} {v : Int32} (h : k < 216) : stA LC σ (w + 16) (nI k) v = some (sA σ (w + 16) (upd (gA σ (w + 16)) k v)) := sa 216 (wl_16 hw) h (by decide)
theorem wl_17 {w : Nat} (h : isW w) : LC.2.2.1 (w + 17) = 216 := by rcases h with rfl | rfl | rfl | rfl | rfl <;> rfl
theorem lw17 {w : Nat} (hw : isW w) {σ : ST} {k : Nat} (h : k < 216) : ldA LC σ (w + 17) (nI k) = some (gA σ (w + 17) k) := la 216 (wl_17 hw) h (by decide)
theorem sw17 {w : Nat} (hw : isW w) {σ : ST} {k : Nat} {v : Int32} (h : k < 216) : stA LC σ (w + 17) (nI k) v = some (sA σ (w + 17) (upd (gA σ (w + 17)) k v)) := sa 216 (wl_17 hw) h (by decide)
theorem wl_19 {w : Nat} (h : isW w) : LC.2.2.1 (w + 19) = 1296 := by rcases h with rfl | rfl | rfl | rfl | rfl <;> rfl
theorem lw19 {w : Nat} (hw : isW w) {σ : ST} {k : Nat} (h : k < 1296) : ldA LC σ (w + 19) (nI k) = some (gA σ (w + 19) k) := la 1296 (wl_19 hw) h (by decide)
theorem sw19 {w : Nat} (hw : isW w) {σ : ST} {k : Nat} {v : Int32} (h : k < 1296) : stA LC σ (w + 19) (nI k) v = some (sA σ (w + 19) (upd (gA σ (w + 19)) k v)) := sa 1296 (wl_19 hw) h (by decide)
theorem wl_20 {w : Nat} (h : isW w) : LC.2.2.1 (w + 20) = 1296 := by rcases h with rfl | rfl | rfl | rfl | rfl <;> rfl
theorem lw20 {w : Nat} (hw : isW w) {σ : ST} {k : Nat} (h : k < 1296) : ldA LC σ (w + 20) (nI k) = some (gA σ (w + 20) k) := la 1296 (wl_20 hw) h (by decide)
theorem sw20 {w : Nat} (hw : isW w) {σ : ST} {k : Nat} {v : Int32} (h : k < 1296) : stA LC σ (w + 20) (nI k) v = some (sA σ (w + 20) (upd (gA σ (w + 20)) k v)) := sa 1296 (wl_20 hw) h (by decide)
theorem wl_21 {w : Nat} (h : isW w) : LC.2.2.1 (w + 21) = 36 := by rcases h with rfl | rfl | rfl | rfl | rfl <;> rfl
theorem lw21 {w : Nat} (hw : isW w) {σ : ST} {k : Nat} (h : k < 36) : ldA LC σ (w + 21) (nI k) = some (gA σ (w + 21) k) := la 36 (wl_21 hw) h (by decide)
theorem sw21 {w : Nat} (hw : isW w) {σ : ST} {k : Nat} {v : Int32} (h : k < 36) : stA LC σ (w + 21) (nI k) v = some (sA σ (w + 21) (upd (gA σ (w + 21)) k v)) := sa 36 (wl_21 hw) h (by decide)
theorem wl_23 {w : Nat} (h : isW w) : LC.2.2.1 (w + 23) = 24 := by rcases h with rfl | rfl | rfl | rfl | rfl <;> rfl
theorem lw23 {w : Nat} (hw : isW w) {σ : ST} {k : Nat} (h : k < 24) : ldA LC σ (w + 23) (nI k) = some (gA σ (w + 23) k) := la 24 (wl_23 hw) h (by decide)
theorem sw23 {w : Nat} (hw : isW w) {σ : ST} {k : Nat} {v : Int32} (h : k < 24) : stA LC σ (w + 23) (nI k) v = some (sA σ (w + 23) (upd (gA σ (w + 23)) k v)) := sa 24 (wl_23 hw) h (by decide)
theorem wl_24 {w : Nat} (h : isW w) : LC.2.2.1 (w + 24) = 24 := by rcases h with rfl | rfl | rfl | rfl | rfl <;> rfl
theorem lw24 {w : Nat} (hw : isW w) {σ : ST} {k : Nat} (h : k < 24) : ldA LC σ (w + 24) (nI k) = some (gA σ (w + 24) k) := la 24 (wl_24 hw) h (by decide)
theorem sw24 {w : Nat} (hw : isW w) {σ : ST} {k : Nat} {v : Int32} (h : k < 24) : stA LC σ (w + 24) (nI k) v = some (sA σ (w + 24) (upd (gA σ (w + 24)) k v)) := sa 24 (wl_24 hw) h (by decide)
theorem wl_25 {w : Nat} (h : isW w) : LC.2.2.1 (w + 25) = 4 := by rcases h with rfl | rfl | rfl | rfl | rfl <;> rfl
theorem lw25 {w : Nat} (hw : isW w) {σ : ST} {k : Nat} (h : k < 4) : ldA LC σ (w + 25) (nI k) = some (gA σ (w + 25) k) := la 4 (wl_25 hw) h (by decide)
theorem sw25 {w : Nat} (hw : isW w) {σ : ST} {k : Nat} {v : Int32} (h : k < 4) : stA LC σ (w + 25) (nI k) v = some (sA σ (w + 25) (upd (gA σ (w + 25)) k v)) := sa 4 (wl_25 hw) h (by decide)
theorem wl_26 {w : Nat} (h : isW w) : LC.2.2.1 (w + 26) = 36 := by rcases h with rfl | rfl | rfl | rfl | rfl <;> rfl
theorem lw26 {w : Nat} (hw : isW w) {σ : ST} {k : Nat} (h : k < 36) : ldA LC σ (w + 26) (nI k) = some (gA σ (w + 26) k) := la 36 (wl_26 hw) h (by decide)
theorem sw26 {w : Nat} (hw : isW w) {σ : ST} {k : Nat} {v : Int32} (h : k < 36) : stA LC σ (w + 26) (nI k) v = some (sA σ (w + 26) (upd (gA σ (w + 26)) k v)) := sa 36 (wl_26 hw) h (by decide)
theorem wl_27 {w : Nat} (h : isW w) : LC.2.2.1 (w + 27) = 1080 := by rcases h with rfl | rfl | rfl | rfl | rfl <;> rfl
theorem lw27 {w : Nat} (hw : isW w) {σ : ST} {k : Nat} (h : k < 1080) : ldA LC σ (w + 27) (nI k) = some (gA σ (w + 27) k) := la 1080 (wl_27 hw) h (by decide)
theorem sw27 {w : Nat} (hw : isW w) {σ : ST} {k : Nat} {v : Int32} (h : k < 1080) : stA LC σ (w + 27) (nI k) v = some (sA σ (w + 27) (upd (gA σ (w + 27)) k v)) := sa 1080 (wl_27 hw) h (by decide)
/-- a row of cells: bits and counts, six numbers a cell -/
def isC (c L : Nat) : Prop := LC.2.1 c 0 = c + 1 ∧ LC.2.1 c 1 = c + 2 ∧ LC.2.2.1 (c + 1) = L ∧ LC.2.2.1 (c + 2) = L ∧ L < 2000
theorem isC_h {w : Nat} (h : isW w) : isC (w + 15) 216 := ⟨wh_0 h, wh_1 h, wl_16 h, wl_17 h, by decide⟩
theorem isC_i {w : Nat} (h : isW w) : isC (w + 18) 1296 := ⟨wq_0 h, wq_1 h, wl_19 h, wl_20 h, by decide⟩
theorem isC_t {w : Nat} (h : isW w) : isC (w + 22) 24 := ⟨wt_0 h, wt_1 h, wl_23 h, wl_24 h, by decide⟩
theorem isC_j : isC 97 6 := ⟨rfl, rfl, rfl, rfl, by decide⟩
theorem isC_c : isC 85 6 := ⟨rfl, rfl, rfl, rfl, by decide⟩
theorem isC_n : isC 91 384 := ⟨rfl, rfl, rfl, rfl, by decide⟩
theorem lc1 {c L : Nat} (hc : isC c L) {σ : ST} {k : Nat} (h : k < L) : ldA LC σ (c + 1) (nI k) = some (gA σ (c + 1) k) := la L hc.2.2.1 h (by have := hc.2.2.2.2; omega)
theorem lc2 {c L : Nat} (hc : isC c L) {σ : ST} {k : Nat} (h : k < L) : ldA LC σ (c + 2) (nI k) = some (gA σ (c + 2) k) := la L hc.2.2.2.1 h (by have := hc.2.2.2.2; omega)
theorem sc1 {c L : Nat} (hc : isC c L) {σ : ST} {k : Nat} {v : Int32} (h : k < L) : stA LC σ (c + 1) (nI k) v = some (sA σ (c + 1) (upd (gA σ (c + 1)) k v)) := sa L hc.2.2.1 h (by have := hc.2.2.2.2; omega)
theorem sc2 {c L : Nat} (hc : isC c L) {σ : ST} {k : Nat} {v : Int32} (h : k < L) : stA LC σ (c + 2) (nI k) v = some (sA σ (c + 2) (upd (gA σ (c + 2)) k v)) := sa L hc.2.2.2.1 h (by have := hc.2.2.2.2; omega)
theorem jb_same (a x y : Int32) : jb a a x y = a := by
  apply bt_ext
  intro k hk
  unfold jb
  rw [bt_or, bt_or, bt_and, bt_and, bt_and]
  cases bt a k <;> rfl
theorem c_upTo {a : Nat} (h : a ≤ 30) (σ : ST) : f_X0_upTo (nI a) σ = some (upT (nI a), σ) := by
  unfold f_X0_upTo k_X0_upTo_16 upT
  by_cases g : a < 30
  · rw [if_pos (show nI a < 30 from nI_lt g (by decide))]; rfl
  · have : a = 30 := by omega
    subst this; rfl
theorem mx_c (a b : Int32) : mx a b = if b ≤ a then a else b := by
  unfold mx
  by_cases h : a ≤ b
  · rw [if_pos h]
    by_cases h2 : b ≤ a
    · rw [if_pos h2]; exact Int32.le_antisymm h2 h
    · rw [if_neg h2]
  · rw [if_neg h, if_pos ((Int32.le_total a b).resolve_left h)]
/-- what a join makes of the bits and of the counts of cell i -/
def jF (σ : ST) (c i d j m : Nat) : Nat → Int32 := fun k => if i * 6 ≤ k ∧ k < i * 6 + m then jb (gA σ (c + 1) k) (gA σ (d + 1) (j * 6 + (k - i * 6))) (gA σ (c + 2) k) (gA σ (d + 2) (j * 6 + (k - i * 6))) else gA σ (c + 1) k
def jG (σ : ST) (c i d j m : Nat) : Nat → Int32 := fun k => if i * 6 ≤ k ∧ k < i * 6 + m then mx (gA σ (c + 2) k) (gA σ (d + 2) (j * 6 + (k - i * 6))) else gA σ (c + 2) k
theorem c_join_loop {c L d M i j : Nat} (hc : isC c L) (hd : isC d M) (hi : i * 6 + 6 ≤ L) (hj : j * 6 + 6 ≤ M) (hcd : (c = d ∧ i ≠ j) ∨ c + 3 ≤ d ∨ d + 3 ≤ c) (σ : ST) (hb : ∀ k, k < 6 → gA σ (c + 1) (i * 6 + k) = gA σ (d + 1) (j * 6 + k) ∨ ∃ a b, a ≤ 30 ∧ b ≤ 30 ∧ gA σ (c + 2) (i * 6 + k) = nI a ∧ gA σ (d + 2) (j * 6 + k) = nI b) : ∀ (n m : Nat) (σ' : ST), m ≤ 6 → 6 - m < n → σ' = sA (sA σ (c + 1) (jF σ c i d j m)) (c + 2) (jG σ c i d j m) → k_X0_join_15 n c d (nI (i * 6)) (nI (j * 6)) (nI m) σ' = some (sA (sA σ (c + 1) (jF σ c i d j 6)) (c + 2) (jG σ c i d j 6)) := by
  have hL := hc.2.2.2.2
  have hM := hd.2.2.2.2
  intro n
  induction n with
  | zero => intros; omega
  | succ n ih =>
    intro m σ' hm hn hs
    rw [k_X0_join_15]
    by_cases e : m = 6
    · subst e
      simp (disch := omega) only [↓mI_e, lit, ofN, bsm, nI_add, pk_mul, pk_sub, nI_e, nI_leE, nI_ltE, nI_mI, mI_nI, mI_lt, nlt_mI, mI_le, nle_mI, nI_addm, sh_b, bI_0, bI_1, bI_bI, ckZ_b, ckZ_n0, ckZ_n1, stIe, stJe, stZ_n0, stZ_n1, rm_nI, dv_nI, if_pos, if_neg, rf0, rf1, rf5, rf6, rf7, rf8, rf9, rf20, rf23, rf24, rf25, rf26, rf29, rf31, rf33, rf34, rf35, rf37, rf38, rf41, rf42, rf43,  hs]
    · have r1 : gA σ' (c + 1) (i * 6 + m) = gA σ (c + 1) (i * 6 + m) := by
        rw [hs, gA_sA, if_neg (by omega), gA_sA, if_pos rfl]; unfold jF; rw [if_neg (by omega)]
      have r2 : gA σ' (c + 2) (i * 6 + m) = gA σ (c + 2) (i * 6 + m) := by
        rw [hs, gA_sA, if_pos rfl]; unfold jG; rw [if_neg (by omega)]
      have r3 : gA σ' (d + 1) (j * 6 + m) = gA σ (d + 1) (j * 6 + m) := by
        rw [hs, gA_sA, if_neg (by omega), gA_sA]
        by_cases q : d + 1 = c + 1
        · rw [if_pos q]; unfold jF; rw [if_neg (by omega), q]
        · rw [if_neg q]
      have r4 : gA σ' (d + 2) (j * 6 + m) = gA σ (d + 2) (j * 6 + m) := by
        rw [hs, gA_sA]
        by_cases q : d + 2 = c + 2
        · rw [if_pos q]; unfold jG; rw [if_neg (by omega), q]
        · rw [if_neg q, gA_sA, if_neg (by omega)]
      simp (disch := omega) only [↓mI_e, lit, ofN, bsm, nI_add, pk_mul, pk_sub, nI_e, nI_leE, nI_ltE, nI_mI, mI_nI, mI_lt, nlt_mI, mI_le, nle_mI, nI_addm, sh_b, bI_0, bI_1, bI_bI, ckZ_b, ckZ_n0, ckZ_n1, stIe, stJe, stZ_n0, stZ_n1, rm_nI, dv_nI, if_pos, if_neg, rf0, rf1, rf5, rf6, rf7, rf8, rf9, rf20, rf23, rf24, rf25, rf26, rf29, rf31, rf33, rf34, rf35, rf37, rf38, rf41, rf42, rf43,  hc.1, hc.2.1, hd.1, hd.2.1, lc1 hc, lc2 hc, lc1 hd, lc2 hd, r1, r2, r3, r4]
      have fin : ∀ σ2 : ST, σ2 = sA σ' (c + 1) (jF σ c i d j (m + 1)) → k_X0_join_114 (k_X0_join_15 n) c d (nI (i * 6)) (nI (j * 6)) (nI m) (gA σ (c + 2) (i * 6 + m)) (gA σ (d + 2) (j * 6 + m)) σ2 = some (sA (sA σ (c + 1) (jF σ c i d j 6)) (c + 2) (jG σ c i d j 6)) := by
        intro σ2 h2
        have eG : jG σ c i d j (m + 1) = upd (jG σ c i d j m) (i * 6 + m) (mx (gA σ (c + 2) (i * 6 + m)) (gA σ (d + 2) (j * 6 + m))) := by
          funext k
          rw [upd_at]
          unfold jG
          by_cases g : k = i * 6 + m
          · subst g; rw [if_pos rfl, if_pos (by omega), show i * 6 + m - i * 6 = m by omega]
          · rw [if_neg g]
            by_cases g2 : i * 6 ≤ k ∧ k < i * 6 + m
            · rw [if_pos g2, if_pos (by omega)]
            · rw [if_neg g2, if_neg (by omega)]
        have h3 : ∀ σ3 : ST, σ3 = sA σ2 (c + 2) (jG σ c i d j (m + 1)) → k_X0_join_15 n c d (nI (i * 6)) (nI (j * 6)) (nI (m + 1)) σ3 = some (sA (sA σ (c + 1) (jF σ c i d j 6)) (c + 2) (jG σ c i d j 6)) := by
          intro σ3 h3
          refine ih (m + 1) σ3 (by omega) (by omega) ?_
          rw [h3, h2, hs]
          rw [sA_comm _ (show c + 2 ≠ c + 1 by omega), sA_sA, sA_sA]
        unfold k_X0_join_114 k_X0_join_133
        have r5 : gA σ2 (c + 2) = jG σ c i d j m := by rw [h2, gA_sA, if_neg (by omega), hs, gA_sA, if_pos rfl]
        by_cases g : gA σ (d + 2) (j * 6 + m) ≤ gA σ (c + 2) (i * 6 + m)
        · rw [if_pos g, nI_1]
          refine h3 σ2 ?_
          rw [eG, mx_c, if_pos g]
          have : upd (jG σ c i d j m) (i * 6 + m) (gA σ (c + 2) (i * 6 + m)) = gA σ2 (c + 2) := by
            rw [r5]
            funext k
            rw [upd_at]
            by_cases q : k = i * 6 + m
            · subst q; rw [if_pos rfl]; unfold jG; rw [if_neg (by omega)]
            · rw [if_neg q]
          rw [this, sA_self]
        · rw [if_neg g]
          simp (disch := omega) only [↓mI_e, lit, ofN, bsm, nI_add, pk_mul, pk_sub, nI_e, nI_leE, nI_ltE, nI_mI, mI_nI, mI_lt, nlt_mI, mI_le, nle_mI, nI_addm, sh_b, bI_0, bI_1, bI_bI, ckZ_b, ckZ_n0, ckZ_n1, stIe, stJe, stZ_n0, stZ_n1, rm_nI, dv_nI, if_pos, if_neg, rf0, rf1, rf5, rf6, rf7, rf8, rf9, rf20, rf23, rf24, rf25, rf26, rf29, rf31, rf33, rf34, rf35, rf37, rf38, rf41, rf42, rf43,  hc.2.1, sc2 hc]
          refine h3 _ ?_
          rw [eG, r5, mx_c, if_neg g]
      have eF : jF σ c i d j (m + 1) = upd (jF σ c i d j m) (i * 6 + m) (jb (gA σ (c + 1) (i * 6 + m)) (gA σ (d + 1) (j * 6 + m)) (gA σ (c + 2) (i * 6 + m)) (gA σ (d + 2) (j * 6 + m))) := by
        funext k
        rw [upd_at]
        unfold jF
        by_cases g : k = i * 6 + m
        · subst g; rw [if_pos rfl, if_pos (by omega), show i * 6 + m - i * 6 = m by omega]
        · rw [if_neg g]
          by_cases g2 : i * 6 ≤ k ∧ k < i * 6 + m
          · rw [if_pos g2, if_pos (by omega)]
          · rw [if_neg g2, if_neg (by omega)]
      have r6 : gA σ' (c + 1) = jF σ c i d j m := by rw [hs, gA_sA, if_neg (by omega), gA_sA, if_pos rfl]
      by_cases g : gA σ (c + 1) (i * 6 + m) = gA σ (d + 1) (j * 6 + m)
      · rw [if_pos g]
        refine fin σ' ?_
        rw [eF, ← g, jb_same]
        have : upd (jF σ c i d j m) (i * 6 + m) (gA σ (c + 1) (i * 6 + m)) = gA σ' (c + 1) := by
          rw [r6]
          funext k
          rw [upd_at]
          by_cases q : k = i * 6 + m
          · subst q; rw [if_pos rfl]; unfold jF; rw [if_neg (by omega)]
          · rw [if_neg q]
        rw [this, sA_self]
      · rw [if_neg g]
        obtain ⟨a, b, ha, hb2, e1, e2⟩ := (hb m (by omega)).resolve_left g
        rw [e1, e2] at fin eF ⊢
        rw [c_upTo hb2, b_some, c_upTo ha, b_some, sc1 hc (by omega), b_some]
        refine fin _ ?_
        rw [eF, r6]
        rfl
theorem c_join {c L d M i j : Nat} (hc : isC c L) (hd : isC d M) (hi : i * 6 + 6 ≤ L) (hj : j * 6 + 6 ≤ M) (hcd : (c = d ∧ i ≠ j) ∨ c + 3 ≤ d ∨ d + 3 ≤ c) (σ : ST) (hb : ∀ k, k < 6 → gA σ (c + 1) (i * 6 + k) = gA σ (d + 1) (j * 6 + k) ∨ ∃ a b, a ≤ 30 ∧ b ≤ 30 ∧ gA σ (c + 2) (i * 6 + k) = nI a ∧ gA σ (d + 2) (j * 6 + k) = nI b) : f_X0_join c (nI i) d (nI j) σ = some (sA (sA σ (c + 1) (jF σ c i d j 6)) (c + 2) (jG σ c i d j 6)) := by
  unfold f_X0_join
  simp (disch := omega) only [↓mI_e, lit, ofN, bsm, nI_add, pk_mul, pk_sub, nI_e, nI_leE, nI_ltE, nI_mI, mI_nI, mI_lt, nlt_mI, mI_le, nle_mI, nI_addm, sh_b, bI_0, bI_1, bI_bI, ckZ_b, ckZ_n0, ckZ_n1, stIe, stJe, stZ_n0, stZ_n1, rm_nI, dv_nI, if_pos, if_neg, rf0, rf1, rf5, rf6, rf7, rf8, rf9, rf20, rf23, rf24, rf25, rf26, rf29, rf31, rf33, rf34, rf35, rf37, rf38, rf41, rf42, rf43, ]
  refine c_join_loop hc hd hi hj hcd σ hb FU 0 σ (by omega) (by unfold FU; omega) ?_
  have e1 : jF σ c i d j 0 = gA σ (c + 1) := by funext k; unfold jF; rw [if_neg (by omega)]
  have e2 : jG σ c i d j 0 = gA (sA σ (c + 1) (gA σ (c + 1))) (c + 2) := by rw [sA_self]; funext k; unfold jG; rw [if_neg (by omega)]
  rw [e1, e2, sA_self, sA_self]
