/-! the order of three letters -/
def OrdC (Q : Int → Prop) (a b c : Int) : Prop := (a = b ∨ a = c ∨ b = c → Q 0) ∧ (a < b → b < c → Q (256 * a + 16 * b + c)) ∧ (a < c → c < b → Q (-(256 * a + 16 * c + b))) ∧ (b < a → a < c → Q (-(256 * b + 16 * a + c))) ∧ (b < c → c < a → Q (256 * b + 16 * c + a)) ∧ (c < a → a < b → Q (256 * c + 16 * a + b)) ∧ (c < b → b < a → Q (-(256 * c + 16 * b + a)))
section OR
variable {l : Launch} {d N : Nat} {Λ : Lay} {σ : Mem}
theorem ord_abc {P : Int → Mem → Prop} {a b c : Int} (ha : 0 ≤ a ∧ a < 16) (hb : 0 ≤ b ∧ b < 16) (hc : 0 ≤ c ∧ c < 16) (g1 : a < b) (g2 : b < c) (h : P (256 * a + 16 * b + c) σ) : CI l mX6_ordered d [(0, 256 * a + 16 * b + c)] N Λ σ P := by
  have e := sh8_e ha hb hc
  refine c_X6_ordered (v_X6_ordered_0 ?_)
  intro y1 e1 y2 e2 y3 e3
  replace e1 := e1.trans e.1
  replace e2 := e2.trans e.2.1
  replace e3 := e3.trans e.2.2
  clear e
  subst y1 y2 y3
  refine ⟨fun q => absurd q (by omega), fun _ => ⟨fun q => absurd q (by omega), fun _ => ⟨fun _ => ⟨fun q => absurd q (by omega), fun _ => v_X6_ordered_47 ?_⟩, fun q => absurd q (by omega)⟩⟩⟩
  refine ⟨fun q => absurd q (by omega), fun _ => v_X6_ordered_61 ?_⟩
  refine ⟨fun _ => v_X6_ordered_73 ?_, fun q => absurd (by omega) q⟩
  refine ⟨fun _ => v_X6_ordered_87 fun y ey => ?_, fun q => absurd (by omega) q⟩
  have em : subI (subI (addI (addI a b) c) a) c = b := by rw [addI_e (x := a) (y := b) (by omega) (by omega), addI_e (x := a + b) (y := c) (by omega) (by omega), subI_e (x := a + b + c) (by omega) (by omega), subI_e (by omega) (by omega)]; omega
  rw [em, row_e ha hb hc] at ey
  clear em
  refine ⟨fun _ => v_X6_ordered_123 ?_, fun q => absurd (by omega) q⟩
  refine ⟨fun _ => v_X6_ordered_133 ?_, fun q => absurd (by omega) q⟩
  refine ⟨fun _ => v_X6_ordered_144 fun z ez => ?_, fun q => absurd (by omega) q⟩
  have ez2 : z = 0 := ez.trans (by decide)
  rw [ez2]
  refine ⟨fun q => absurd (by decide) q, fun _ => v_X6_ordered_162 ?_⟩
  rw [ey]
  exact h
theorem ord_acb {P : Int → Mem → Prop} {a b c : Int} (ha : 0 ≤ a ∧ a < 16) (hb : 0 ≤ b ∧ b < 16) (hc : 0 ≤ c ∧ c < 16) (g1 : a < c) (g2 : c < b) (h : P (-(256 * a + 16 * c + b)) σ) : CI l mX6_ordered d [(0, 256 * a + 16 * b + c)] N Λ σ P := by
  have e := sh8_e ha hb hc
  refine c_X6_ordered (v_X6_ordered_0 ?_)
  intro y1 e1 y2 e2 y3 e3
  replace e1 := e1.trans e.1
  replace e2 := e2.trans e.2.1
  replace e3 := e3.trans e.2.2
  clear e
  subst y1 y2 y3
  refine ⟨fun q => absurd q (by omega), fun _ => ⟨fun q => absurd q (by omega), fun _ => ⟨fun _ => ⟨fun q => absurd q (by omega), fun _ => v_X6_ordered_47 ?_⟩, fun q => absurd q (by omega)⟩⟩⟩
  refine ⟨fun q => absurd q (by omega), fun _ => v_X6_ordered_61 ?_⟩
  refine ⟨fun _ => v_X6_ordered_73 ?_, fun q => absurd (by omega) q⟩
  refine ⟨fun q => absurd q (by omega), fun _ => v_X6_ordered_87 fun y ey => ?_⟩
  have em : subI (subI (addI (addI a b) c) a) b = c := by rw [addI_e (x := a) (y := b) (by omega) (by omega), addI_e (x := a + b) (y := c) (by omega) (by omega), subI_e (x := a + b + c) (by omega) (by omega), subI_e (by omega) (by omega)]; omega
  rw [em, row_e ha hc hb] at ey
  clear em
  refine ⟨fun _ => v_X6_ordered_123 ?_, fun q => absurd (by omega) q⟩
  refine ⟨fun _ => v_X6_ordered_133 ?_, fun q => absurd (by omega) q⟩
  refine ⟨fun q => absurd q (by omega), fun _ => v_X6_ordered_144 fun z ez => ?_⟩
  have ez2 : z = 1 := ez.trans (by decide)
  rw [ez2]
  refine ⟨fun _ => v_X6_ordered_162 ?_, fun q => absurd q (by decide)⟩
  rw [ey, negI_e (by omega) (by omega)]
  exact h
theorem ord_bac {P : Int → Mem → Prop} {a b c : Int} (ha : 0 ≤ a ∧ a < 16) (hb : 0 ≤ b ∧ b < 16) (hc : 0 ≤ c ∧ c < 16) (g1 : b < a) (g2 : a < c) (h : P (-(256 * b + 16 * a + c)) σ) : CI l mX6_ordered d [(0, 256 * a + 16 * b + c)] N Λ σ P := by
  have e := sh8_e ha hb hc
  refine c_X6_ordered (v_X6_ordered_0 ?_)
  intro y1 e1 y2 e2 y3 e3
  replace e1 := e1.trans e.1
  replace e2 := e2.trans e.2.1
  replace e3 := e3.trans e.2.2
  clear e
  subst y1 y2 y3
  refine ⟨fun q => absurd q (by omega), fun _ => ⟨fun q => absurd q (by omega), fun _ => ⟨fun _ => ⟨fun _ => v_X6_ordered_47 ?_, fun q => absurd (by omega) q⟩, fun q => absurd q (by omega)⟩⟩⟩
  refine ⟨fun q => absurd q (by omega), fun _ => v_X6_ordered_61 ?_⟩
  refine ⟨fun q => absurd q (by omega), fun _ => v_X6_ordered_73 ?_⟩
  refine ⟨fun _ => v_X6_ordered_87 fun y ey => ?_, fun q => absurd (by omega) q⟩
  have em : subI (subI (addI (addI a b) c) b) c = a := by rw [addI_e (x := a) (y := b) (by omega) (by omega), addI_e (x := a + b) (y := c) (by omega) (by omega), subI_e (x := a + b + c) (by omega) (by omega), subI_e (by omega) (by omega)]; omega
  rw [em, row_e hb ha hc] at ey
  clear em
  refine ⟨fun q => absurd q (by omega), fun _ => v_X6_ordered_123 ?_⟩
  refine ⟨fun _ => v_X6_ordered_133 ?_, fun q => absurd (by omega) q⟩
  refine ⟨fun _ => v_X6_ordered_144 fun z ez => ?_, fun q => absurd (by omega) q⟩
  have ez2 : z = 1 := ez.trans (by decide)
  rw [ez2]
  refine ⟨fun _ => v_X6_ordered_162 ?_, fun q => absurd q (by decide)⟩
  rw [ey, negI_e (by omega) (by omega)]
  exact h
theorem ord_bca {P : Int → Mem → Prop} {a b c : Int} (ha : 0 ≤ a ∧ a < 16) (hb : 0 ≤ b ∧ b < 16) (hc : 0 ≤ c ∧ c < 16) (g1 : b < c) (g2 : c < a) (h : P (256 * b + 16 * c + a) σ) : CI l mX6_ordered d [(0, 256 * a + 16 * b + c)] N Λ σ P := by
  have e := sh8_e ha hb hc
  refine c_X6_ordered (v_X6_ordered_0 ?_)
  intro y1 e1 y2 e2 y3 e3
  replace e1 := e1.trans e.1
  replace e2 := e2.trans e.2.1
  replace e3 := e3.trans e.2.2
  clear e
  subst y1 y2 y3
  refine ⟨fun q => absurd q (by omega), fun _ => ⟨fun q => absurd q (by omega), fun _ => ⟨fun _ => ⟨fun _ => v_X6_ordered_47 ?_, fun q => absurd (by omega) q⟩, fun q => absurd q (by omega)⟩⟩⟩
  refine ⟨fun q => absurd q (by omega), fun _ => v_X6_ordered_61 ?_⟩
  refine ⟨fun q => absurd q (by omega), fun _ => v_X6_ordered_73 ?_⟩
  refine ⟨fun q => absurd q (by omega), fun _ => v_X6_ordered_87 fun y ey => ?_⟩
  have em : subI (subI (addI (addI a b) c) b) a = c := by rw [addI_e (x := a) (y := b) (by omega) (by omega), addI_e (x := a + b) (y := c) (by omega) (by omega), subI_e (x := a + b + c) (by omega) (by omega), subI_e (by omega) (by omega)]; omega
  rw [em, row_e hb hc ha] at ey
  clear em
  refine ⟨fun q => absurd q (by omega), fun _ => v_X6_ordered_123 ?_⟩
  refine ⟨fun q => absurd q (by omega), fun _ => v_X6_ordered_133 ?_⟩
  refine ⟨fun _ => v_X6_ordered_144 fun z ez => ?_, fun q => absurd (by omega) q⟩
  have ez2 : z = 2 := ez.trans (by decide)
  rw [ez2]
  refine ⟨fun q => absurd (by decide) q, fun _ => v_X6_ordered_162 ?_⟩
  rw [ey]
  exact h
theorem ord_cab {P : Int → Mem → Prop} {a b c : Int} (ha : 0 ≤ a ∧ a < 16) (hb : 0 ≤ b ∧ b < 16) (hc : 0 ≤ c ∧ c < 16) (g1 : c < a) (g2 : a < b) (h : P (256 * c + 16 * a + b) σ) : CI l mX6_ordered d [(0, 256 * a + 16 * b + c)] N Λ σ P := by
  have e := sh8_e ha hb hc
  refine c_X6_ordered (v_X6_ordered_0 ?_)
  intro y1 e1 y2 e2 y3 e3
  replace e1 := e1.trans e.1
  replace e2 := e2.trans e.2.1
  replace e3 := e3.trans e.2.2
  clear e
  subst y1 y2 y3
  refine ⟨fun q => absurd q (by omega), fun _ => ⟨fun q => absurd q (by omega), fun _ => ⟨fun _ => ⟨fun q => absurd q (by omega), fun _ => v_X6_ordered_47 ?_⟩, fun q => absurd q (by omega)⟩⟩⟩
  refine ⟨fun _ => v_X6_ordered_61 ?_, fun q => absurd (by omega) q⟩
  refine ⟨fun _ => v_X6_ordered_73 ?_, fun q => absurd (by omega) q⟩
  refine ⟨fun q => absurd q (by omega), fun _ => v_X6_ordered_87 fun y ey => ?_⟩
  have em : subI (subI (addI (addI a b) c) c) b = a := by rw [addI_e (x := a) (y := b) (by omega) (by omega), addI_e (x := a + b) (y := c) (by omega) (by omega), subI_e (x := a + b + c) (by omega) (by omega), subI_e (by omega) (by omega)]; omega
  rw [em, row_e hc ha hb] at ey
  clear em
  refine ⟨fun _ => v_X6_ordered_123 ?_, fun q => absurd (by omega) q⟩
  refine ⟨fun q => absurd q (by omega), fun _ => v_X6_ordered_133 ?_⟩
  refine ⟨fun q => absurd q (by omega), fun _ => v_X6_ordered_144 fun z ez => ?_⟩
  have ez2 : z = 2 := ez.trans (by decide)
  rw [ez2]
  refine ⟨fun q => absurd (by decide) q, fun _ => v_X6_ordered_162 ?_⟩
  rw [ey]
  exact h
theorem ord_cba {P : Int → Mem → Prop} {a b c : Int} (ha : 0 ≤ a ∧ a < 16) (hb : 0 ≤ b ∧ b < 16) (hc : 0 ≤ c ∧ c < 16) (g1 : c < b) (g2 : b < a) (h : P (-(256 * c + 16 * b + a)) σ) : CI l mX6_ordered d [(0, 256 * a + 16 * b + c)] N Λ σ P := by
  have e := sh8_e ha hb hc
  refine c_X6_ordered (v_X6_ordered_0 ?_)
  intro y1 e1 y2 e2 y3 e3
  replace e1 := e1.trans e.1
  replace e2 := e2.trans e.2.1
  replace e3 := e3.trans e.2.2
  clear e
  subst y1 y2 y3
  refine ⟨fun q => absurd q (by omega), fun _ => ⟨fun q => absurd q (by omega), fun _ => ⟨fun _ => ⟨fun _ => v_X6_ordered_47 ?_, fun q => absurd (by omega) q⟩, fun q => absurd q (by omega)⟩⟩⟩
  refine ⟨fun _ => v_X6_ordered_61 ?_, fun q => absurd (by omega) q⟩
  refine ⟨fun q => absurd q (by omega), fun _ => v_X6_ordered_73 ?_⟩
  refine ⟨fun q => absurd q (by omega), fun _ => v_X6_ordered_87 fun y ey => ?_⟩
  have em : subI (subI (addI (addI a b) c) c) a = b := by rw [addI_e (x := a) (y := b) (by omega) (by omega), addI_e (x := a + b) (y := c) (by omega) (by omega), subI_e (x := a + b + c) (by omega) (by omega), subI_e (by omega) (by omega)]; omega
  rw [em, row_e hc hb ha] at ey
  clear em
  refine ⟨fun q => absurd q (by omega), fun _ => v_X6_ordered_123 ?_⟩
  refine ⟨fun q => absurd q (by omega), fun _ => v_X6_ordered_133 ?_⟩
  refine ⟨fun q => absurd q (by omega), fun _ => v_X6_ordered_144 fun z ez => ?_⟩
  have ez2 : z = 3 := ez.trans (by decide)
  rw [ez2]
  refine ⟨fun _ => v_X6_ordered_162 ?_, fun q => absurd q (by decide)⟩
  rw [ey, negI_e (by omega) (by omega)]
  exact h
theorem ord_0 {P : Int → Mem → Prop} {a b c : Int} (ha : 0 ≤ a ∧ a < 16) (hb : 0 ≤ b ∧ b < 16) (hc : 0 ≤ c ∧ c < 16) (g : a = b ∨ a = c ∨ b = c) (h : P 0 σ) : CI l mX6_ordered d [(0, 256 * a + 16 * b + c)] N Λ σ P := by
  have e := sh8_e ha hb hc
  refine c_X6_ordered (v_X6_ordered_0 ?_)
  intro y1 e1 y2 e2 y3 e3
  replace e1 := e1.trans e.1
  replace e2 := e2.trans e.2.1
  replace e3 := e3.trans e.2.2
  clear e
  subst y1 y2 y3
  exact ⟨fun _ => v_X6_ordered_35 h, fun q1 => ⟨fun _ => v_X6_ordered_35 h, fun q2 => ⟨fun q => absurd g (by omega), fun _ => v_X6_ordered_35 h⟩⟩⟩
theorem k_ord {P : Int → Mem → Prop} {a b c : Int} (ha : 0 ≤ a ∧ a < 16) (hb : 0 ≤ b ∧ b < 16) (hc : 0 ≤ c ∧ c < 16) (h : OrdC (fun v => P v σ) a b c) : CI l mX6_ordered d [(0, 256 * a + 16 * b + c)] N Λ σ P := by
  by_cases g : a = b ∨ a = c ∨ b = c
  · exact ord_0 ha hb hc g (h.1 g)
  · by_cases g1 : a < b
    · by_cases g2 : b < c
      · exact ord_abc ha hb hc g1 g2 (h.2.1 g1 g2)
      · by_cases g3 : a < c
        · have g4 : c < b := by omega
          exact ord_acb ha hb hc g3 g4 (h.2.2.1 g3 g4)
        · have g4 : c < a := by omega
          exact ord_cab ha hb hc g4 g1 (h.2.2.2.2.2.1 g4 g1)
    · by_cases g2 : a < c
      · have g4 : b < a := by omega
        exact ord_bac ha hb hc g4 g2 (h.2.2.2.1 g4 g2)
      · by_cases g3 : b < c
        · have g4 : c < a := by omega
          exact ord_bca ha hb hc g3 g4 (h.2.2.2.2.1 g3 g4)
        · have g4 : c < b := by omega
          have g5 : b < a := by omega
          exact ord_cba ha hb hc g4 g5 (h.2.2.2.2.2.2 g4 g5)
end OR
