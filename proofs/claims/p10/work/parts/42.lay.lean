/-- the reference lies from b on: the object, then its arrays -/
def mLay : List (Nat × Nat × Int) := [(1, 0, 1000), (2, 0, 363), (3, 0, 3348), (4, 0, 11160), (6, 2, 2), (7, 0, 31556), (9, 0, 9), (10, 0, 3), (11, 0, 3), (12, 0, 4), (13, 0, 6), (14, 0, 6), (15, 0, 4), (17, 0, 10), (18, 6, 300), (25, 0, 10), (26, 0, 4), (30, 0, 480), (31, 1, 2880), (33, 0, 6), (34, 0, 6), (35, 0, 7)]
def ModL (N : Nat) (Λ : Lay) (b : Int) : Prop := Ob N Λ b 21 36 ∧ ∀ (i : Nat) (e : Nat × Nat × Int), mLay[i]? = some e → (Λ b).2.2 e.1 = b + 1 + i ∧ Ob N Λ (b + 1 + i) e.2.1 e.2.2
theorem M_frankOf {N : Nat} {Λ : Lay} {b : Int} (h : ModL N Λ b) : (Λ b).2.2 1 = b + 1 := by have := (h.2 0 _ rfl).1; simpa [Int.add_assoc] using this
theorem M_rankOf {N : Nat} {Λ : Lay} {b : Int} (h : ModL N Λ b) : Ob N Λ (b + 1) 0 1000 := by have := (h.2 0 _ rfl).2; simpa [Int.add_assoc] using this
theorem M_fletterOf {N : Nat} {Λ : Lay} {b : Int} (h : ModL N Λ b) : (Λ b).2.2 2 = b + 2 := by have := (h.2 1 _ rfl).1; simpa [Int.add_assoc] using this
theorem M_letterOf {N : Nat} {Λ : Lay} {b : Int} (h : ModL N Λ b) : Ob N Λ (b + 2) 0 363 := by have := (h.2 1 _ rfl).2; simpa [Int.add_assoc] using this
theorem M_fstate {N : Nat} {Λ : Lay} {b : Int} (h : ModL N Λ b) : (Λ b).2.2 3 = b + 3 := by have := (h.2 2 _ rfl).1; simpa [Int.add_assoc] using this
theorem M_state {N : Nat} {Λ : Lay} {b : Int} (h : ModL N Λ b) : Ob N Λ (b + 3) 0 3348 := by have := (h.2 2 _ rfl).2; simpa [Int.add_assoc] using this
theorem M_fdeeds {N : Nat} {Λ : Lay} {b : Int} (h : ModL N Λ b) : (Λ b).2.2 4 = b + 4 := by have := (h.2 3 _ rfl).1; simpa [Int.add_assoc] using this
theorem M_deeds {N : Nat} {Λ : Lay} {b : Int} (h : ModL N Λ b) : Ob N Λ (b + 4) 0 11160 := by have := (h.2 3 _ rfl).2; simpa [Int.add_assoc] using this
theorem M_fhasImage {N : Nat} {Λ : Lay} {b : Int} (h : ModL N Λ b) : (Λ b).2.2 6 = b + 5 := by have := (h.2 4 _ rfl).1; simpa [Int.add_assoc] using this
theorem M_hasImage {N : Nat} {Λ : Lay} {b : Int} (h : ModL N Λ b) : Ob N Λ (b + 5) 2 2 := by have := (h.2 4 _ rfl).2; simpa [Int.add_assoc] using this
theorem M_fpool {N : Nat} {Λ : Lay} {b : Int} (h : ModL N Λ b) : (Λ b).2.2 7 = b + 6 := by have := (h.2 5 _ rfl).1; simpa [Int.add_assoc] using this
theorem M_pool {N : Nat} {Λ : Lay} {b : Int} (h : ModL N Λ b) : Ob N Λ (b + 6) 0 31556 := by have := (h.2 5 _ rfl).2; simpa [Int.add_assoc] using this
theorem M_franks {N : Nat} {Λ : Lay} {b : Int} (h : ModL N Λ b) : (Λ b).2.2 9 = b + 7 := by have := (h.2 6 _ rfl).1; simpa [Int.add_assoc] using this
theorem M_ranks {N : Nat} {Λ : Lay} {b : Int} (h : ModL N Λ b) : Ob N Λ (b + 7) 0 9 := by have := (h.2 6 _ rfl).2; simpa [Int.add_assoc] using this
theorem M_frowX {N : Nat} {Λ : Lay} {b : Int} (h : ModL N Λ b) : (Λ b).2.2 10 = b + 8 := by have := (h.2 7 _ rfl).1; simpa [Int.add_assoc] using this
theorem M_rowX {N : Nat} {Λ : Lay} {b : Int} (h : ModL N Λ b) : Ob N Λ (b + 8) 0 3 := by have := (h.2 7 _ rfl).2; simpa [Int.add_assoc] using this
theorem M_frowY {N : Nat} {Λ : Lay} {b : Int} (h : ModL N Λ b) : (Λ b).2.2 11 = b + 9 := by have := (h.2 8 _ rfl).1; simpa [Int.add_assoc] using this
theorem M_rowY {N : Nat} {Λ : Lay} {b : Int} (h : ModL N Λ b) : Ob N Λ (b + 9) 0 3 := by have := (h.2 8 _ rfl).2; simpa [Int.add_assoc] using this
theorem M_ffour {N : Nat} {Λ : Lay} {b : Int} (h : ModL N Λ b) : (Λ b).2.2 12 = b + 10 := by have := (h.2 9 _ rfl).1; simpa [Int.add_assoc] using this
theorem M_four {N : Nat} {Λ : Lay} {b : Int} (h : ModL N Λ b) : Ob N Λ (b + 10) 0 4 := by have := (h.2 9 _ rfl).2; simpa [Int.add_assoc] using this
theorem M_fnewX {N : Nat} {Λ : Lay} {b : Int} (h : ModL N Λ b) : (Λ b).2.2 13 = b + 11 := by have := (h.2 10 _ rfl).1; simpa [Int.add_assoc] using this
theorem M_newX {N : Nat} {Λ : Lay} {b : Int} (h : ModL N Λ b) : Ob N Λ (b + 11) 0 6 := by have := (h.2 10 _ rfl).2; simpa [Int.add_assoc] using this
theorem M_fnewY {N : Nat} {Λ : Lay} {b : Int} (h : ModL N Λ b) : (Λ b).2.2 14 = b + 12 := by have := (h.2 11 _ rfl).1; simpa [Int.add_assoc] using this
theorem M_newY {N : Nat} {Λ : Lay} {b : Int} (h : ModL N Λ b) : Ob N Λ (b + 12) 0 6 := by have := (h.2 11 _ rfl).2; simpa [Int.add_assoc] using this
theorem M_fkept {N : Nat} {Λ : Lay} {b : Int} (h : ModL N Λ b) : (Λ b).2.2 15 = b + 13 := by have := (h.2 12 _ rfl).1; simpa [Int.add_assoc] using this
theorem M_kept {N : Nat} {Λ : Lay} {b : Int} (h : ModL N Λ b) : Ob N Λ (b + 13) 0 4 := by have := (h.2 12 _ rfl).2; simpa [Int.add_assoc] using this
theorem M_frow {N : Nat} {Λ : Lay} {b : Int} (h : ModL N Λ b) : (Λ b).2.2 17 = b + 14 := by have := (h.2 13 _ rfl).1; simpa [Int.add_assoc] using this
theorem M_row {N : Nat} {Λ : Lay} {b : Int} (h : ModL N Λ b) : Ob N Λ (b + 14) 0 10 := by have := (h.2 13 _ rfl).2; simpa [Int.add_assoc] using this
theorem M_ftape {N : Nat} {Λ : Lay} {b : Int} (h : ModL N Λ b) : (Λ b).2.2 18 = b + 15 := by have := (h.2 14 _ rfl).1; simpa [Int.add_assoc] using this
theorem M_tape {N : Nat} {Λ : Lay} {b : Int} (h : ModL N Λ b) : Ob N Λ (b + 15) 6 300 := by have := (h.2 14 _ rfl).2; simpa [Int.add_assoc] using this
theorem M_fcounts {N : Nat} {Λ : Lay} {b : Int} (h : ModL N Λ b) : (Λ b).2.2 25 = b + 16 := by have := (h.2 15 _ rfl).1; simpa [Int.add_assoc] using this
theorem M_counts {N : Nat} {Λ : Lay} {b : Int} (h : ModL N Λ b) : Ob N Λ (b + 16) 0 10 := by have := (h.2 15 _ rfl).2; simpa [Int.add_assoc] using this
theorem M_fformRank {N : Nat} {Λ : Lay} {b : Int} (h : ModL N Λ b) : (Λ b).2.2 26 = b + 17 := by have := (h.2 16 _ rfl).1; simpa [Int.add_assoc] using this
theorem M_formRank {N : Nat} {Λ : Lay} {b : Int} (h : ModL N Λ b) : Ob N Λ (b + 17) 0 4 := by have := (h.2 16 _ rfl).2; simpa [Int.add_assoc] using this
theorem M_fkeys {N : Nat} {Λ : Lay} {b : Int} (h : ModL N Λ b) : (Λ b).2.2 30 = b + 18 := by have := (h.2 17 _ rfl).1; simpa [Int.add_assoc] using this
theorem M_keys {N : Nat} {Λ : Lay} {b : Int} (h : ModL N Λ b) : Ob N Λ (b + 18) 0 480 := by have := (h.2 17 _ rfl).2; simpa [Int.add_assoc] using this
theorem M_fmatrix {N : Nat} {Λ : Lay} {b : Int} (h : ModL N Λ b) : (Λ b).2.2 31 = b + 19 := by have := (h.2 18 _ rfl).1; simpa [Int.add_assoc] using this
theorem M_matrix {N : Nat} {Λ : Lay} {b : Int} (h : ModL N Λ b) : Ob N Λ (b + 19) 1 2880 := by have := (h.2 18 _ rfl).2; simpa [Int.add_assoc] using this
theorem M_fsix {N : Nat} {Λ : Lay} {b : Int} (h : ModL N Λ b) : (Λ b).2.2 33 = b + 20 := by have := (h.2 19 _ rfl).1; simpa [Int.add_assoc] using this
theorem M_six {N : Nat} {Λ : Lay} {b : Int} (h : ModL N Λ b) : Ob N Λ (b + 20) 0 6 := by have := (h.2 19 _ rfl).2; simpa [Int.add_assoc] using this
theorem M_ftaken {N : Nat} {Λ : Lay} {b : Int} (h : ModL N Λ b) : (Λ b).2.2 34 = b + 21 := by have := (h.2 20 _ rfl).1; simpa [Int.add_assoc] using this
theorem M_taken {N : Nat} {Λ : Lay} {b : Int} (h : ModL N Λ b) : Ob N Λ (b + 21) 0 6 := by have := (h.2 20 _ rfl).2; simpa [Int.add_assoc] using this
theorem M_ffound {N : Nat} {Λ : Lay} {b : Int} (h : ModL N Λ b) : (Λ b).2.2 35 = b + 22 := by have := (h.2 21 _ rfl).1; simpa [Int.add_assoc] using this
theorem M_found {N : Nat} {Λ : Lay} {b : Int} (h : ModL N Λ b) : Ob N Λ (b + 22) 0 7 := by have := (h.2 21 _ rfl).2; simpa [Int.add_assoc] using this
