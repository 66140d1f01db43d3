/-! the reference: straightening on any object -/
section RS
variable {l : Launch} {d N : Nat} {Λ : Lay} {ω σ : Mem} {b o : Int}
theorem lb8 {P : Int → Mem → Prop} {p : Int} (hM : ModL N Λ b) (hR : RI ω σ b) (hp : 0 ≤ p ∧ p < 196) (hd : 3 ≤ d) (h : ∀ v, (v = -1 ∨ ((0 ≤ v ∧ v < σ (b + 6) (161 * p)) ∧ ¬ biI (σ (b + 2)) (σ (b + 6) (161 * p + 1 + 2 * v)) = -1)) → P v σ) : ∀ (m : Nat) (i : Int), i < σ (b + 6) (161 * p) → (i + 1).toNat ≤ m → WI l mX12_lastBroken d P 8 [(2, b), (0, p), (0, i)] [] N Λ σ := by
  have z := (hR.pool hp.1 hp.2).sz
  intro m
  induction m with
  | zero => intro i g0 g1; exact v_X12_lastBroken_8 hM.1 (M_fpool hM) (by omega) ⟨fun _ => h _ (Or.inl rfl), fun hc => by omega⟩
  | succ m ih =>
    intro i g0 g1
    refine v_X12_lastBroken_8 hM.1 (M_fpool hM) (by omega) ⟨fun _ => h _ (Or.inl rfl), fun hc => ?_⟩
    rw [ixm hp.1 hp.2, ixk hp.1 hp.2 (by omega) (by omega)]
    refine ⟨pix hM hp (by omega) (by omega), R_bi hM (hR.key hp (by omega) g0) (by omega) ⟨fun _ y e => ?_, fun hn => h _ (Or.inr ⟨⟨by omega, g0⟩, hn⟩)⟩⟩
    rw [e, addI_e (by omega) (by omega)]
    exact ih (i + -1) (by omega) (by omega)
theorem R_lb {P : Int → Mem → Prop} {p : Int} (hM : ModL N Λ b) (hR : RI ω σ b) (hp : 0 ≤ p ∧ p < 196) (hd : 3 ≤ d) (h : ∀ v, (v = -1 ∨ ((0 ≤ v ∧ v < σ (b + 6) (161 * p)) ∧ ¬ biI (σ (b + 2)) (σ (b + 6) (161 * p + 1 + 2 * v)) = -1)) → P v σ) : CI l mX12_lastBroken d [(2, b), (0, p)] N Λ σ P := by
  have z := (hR.pool hp.1 hp.2).sz
  refine c_X12_lastBroken (v_X12_lastBroken_0 hM.1 (M_fpool hM) (by omega) ?_)
  rw [ixm hp.1 hp.2]
  refine ⟨pix hM hp (by omega) (by omega), fun y1 e1 => ?_⟩
  rw [subI_e (by omega) (by omega)] at e1
  exact lb8 hM hR hp hd h 80 y1 (by omega) (by omega)
theorem sp100 {P : Mem → Prop} {x2 x3 x4 x6 x7 x8 : Int} {σ0 : Mem} (hM : ModL N Λ b) (ho : 0 ≤ o ∧ o < 196) (hx : 0 ≤ x3 ∧ x3 < 214358881) (h6 : 0 ≤ x6 ∧ x6 + 2 ≤ dgI x3) (h7 : 0 ≤ x7 ∧ x7 ≤ 120) (h8 : 0 ≤ x8 ∧ x8 ≤ 120) (hk : ¬ bkI (LtT 120) x7 x8 = -1) (hd : 4 ≤ d) (h : ∀ σ', RI ω σ' b → FA o σ0 σ' b → P σ') : ∀ (m : Nat) (x9 i : Int) (σ : Mem), 0 ≤ i → i ≤ dgI x3 → (4 - i).toNat ≤ m → (i ≤ x6 → x9 = i) → (i = x6 + 1 → x9 = x6) → (x6 + 2 ≤ i → x9 = i - 2) → RI ω σ b → FA o σ0 σ b → WV l mX12_steps d P 100 [(2, b), (0, o), (0, x2), (0, x3), (1, x4), (3, 0), (0, x6), (0, x7), (0, x8), (0, x9), (0, i)] [] N Λ σ := by
  have dg := dgI_b (x := x3)
  have a6 : addI x6 1 = x6 + 1 := addI_e (by omega) (by omega)
  have en : ∀ (x9 : Int) (σ : Mem), 0 ≤ x9 ∧ x9 ≤ 2 → RI ω σ b → FA o σ0 σ b → (CI l mX12_breakOf (d - 1) [(2, b), (0, x7), (0, x8)] N Λ σ (fun v4 σ3 => (CV l mX12_exchanges (d - 1) [(2, b), (0, v4), (0, x9), (1, (negL x4)), (0, o)] N Λ σ3 (fun σ5 => P σ5)))) := fun x9 σ h9 hR hF => by
    refine R_bk hM h7 h8 ?_
    rw [hR.lt]
    rcases bkI_b (f := LtT 120) (x := x7) (y := x8) with q | q
    · exact absurd q hk
    · exact R_ex hM hR ho q h9 (by omega) fun σ5 hR5 hF5 => h σ5 hR5 (hF.tr hF5)
  intro m
  induction m with
  | zero =>
    intro x9 i σ i0 i1 g a1 a2 a3 hR hF
    exact v_X12_steps_100 hM.1 (M_fkept hM) (by omega) (R_dg hx (by omega) ⟨fun _ => en x9 σ (by omega) hR hF, fun hc => absurd (by omega) hc⟩)
  | succ m ih =>
    intro x9 i σ i0 i1 g a1 a2 a3 hR hF
    refine v_X12_steps_100 hM.1 (M_fkept hM) (by omega) (R_dg hx (by omega) ⟨fun _ => en x9 σ (by omega) hR hF, fun hc => ?_⟩)
    rw [a6]
    refine ⟨fun e6 y e => ?_, fun n6 => ⟨fun n7 => R_rk hx (by omega) ⟨Ix.of (M_kept hM) (by omega) (by omega), fun τ9 e9 y10 e10 y11 e11 => ?_⟩, fun e7 y e => ?_⟩⟩
    · rw [e, addI_e (by omega) (by omega)]
      exact ih x9 (i + 1) σ (by omega) (by omega) (by omega) (fun _ => by omega) (fun _ => by omega) (fun _ => by omega) hR hF
    · rw [e10, e11, addI_e (by omega) (by omega), addI_e (by omega) (by omega)]
      exact ih (x9 + 1) (i + 1) τ9 (by omega) (by omega) (by omega) (fun _ => by omega) (fun _ => by omega) (fun _ => by omega) (hR.sto e9 (RO.r (Or.inr (Or.inl rfl)) rkI_b)) (hF.tr (FA.s e9 (by omega)))
    · rw [e, addI_e (by omega) (by omega)]
      exact ih x9 (i + 1) σ (by omega) (by omega) (by omega) (fun _ => by omega) (fun _ => by omega) (fun _ => by omega) hR hF
theorem sp44 {P : Mem → Prop} {x2 x3 x4 x6 x7 x8 : Int} {σ0 : Mem} (hM : ModL N Λ b) (ho : 0 ≤ o ∧ o < 196) (hx : 0 ≤ x3 ∧ x3 < 214358881) (h6 : 0 ≤ x6 ∧ x6 + 2 ≤ dgI x3) (h7 : 0 ≤ x7 ∧ x7 ≤ 120) (h8 : 0 ≤ x8 ∧ x8 ≤ 120) (hk : ¬ bkI (LtT 120) x7 x8 = -1) (hd : 4 ≤ d) (h : ∀ σ', RI ω σ' b → FA o σ0 σ' b → P σ') : ∀ (m : Nat) (i : Int) (σ : Mem), 0 ≤ i → (3 - i).toNat ≤ m → RI ω σ b → FA o σ0 σ b → WV l mX12_steps d P 44 [(2, b), (0, o), (0, x2), (0, x3), (1, x4), (3, 0), (0, x6), (0, x7), (0, x8), (0, i), (3, 0)] [] N Λ σ := by
  have ix : ∀ j : Int, 0 ≤ j → j < 363 → Ix N Λ (b + 2) 0 j := fun j u0 u1 => Ix.of (M_letterOf hM) u0 u1
  have en : ∀ (σ : Mem), RI ω σ b → FA o σ0 σ b → WV l mX12_steps d P 100 [(2, b), (0, o), (0, x2), (0, x3), (1, x4), (3, 0), (0, x6), (0, x7), (0, x8), (0, 0), (0, 0)] [] N Λ σ := fun σ hR hF => sp100 hM ho hx h6 h7 h8 hk hd h 4 0 0 σ (by decide) dgI_b.1 (by decide) (fun _ => rfl) (fun _ => by omega) (fun _ => by omega) hR hF
  intro m
  induction m with
  | zero => intro i σ i0 g hR hF; exact v_X12_steps_44 hM.1 (M_frowX hM) (M_fletterOf hM) (M_frowY hM) ⟨fun _ => en σ hR hF, fun hc => by omega⟩
  | succ m ih =>
    intro i σ i0 g hR hF
    refine v_X12_steps_44 hM.1 (M_frowX hM) (M_fletterOf hM) (M_frowY hM) ⟨fun _ => en σ hR hF, fun hc => ?_⟩
    rw [mulI_e (x := 3) (y := x7) (by omega) (by omega), mulI_e (x := 3) (y := x8) (by omega) (by omega), addI_e (x := 3 * x7) (y := i) (by omega) (by omega), addI_e (x := 3 * x8) (y := i) (by omega) (by omega)]
    refine ⟨ix _ (by omega) (by omega), Ix.of (M_rowX hM) i0 (by omega), fun τ1 e1 => ⟨ix _ (by omega) (by omega), Ix.of (M_rowY hM) i0 (by omega), fun τ2 e2 y3 e3 => ?_⟩⟩
    have l1 := LtT_b 120 (3 * x7 + i)
    have l2 := LtT_b 120 (3 * x8 + i)
    have hR1 : RI ω τ1 b := hR.slt e1 (by omega) (by rw [hR.lt]; omega)
    have hR2 : RI ω τ2 b := hR1.slt e2 (by omega) (by rw [hR1.lt]; omega)
    rw [e3, addI_e (by omega) (by omega)]
    exact ih (i + 1) τ2 (by omega) (by omega) hR2 ((hF.tr (FA.s e1 (by omega))).tr (FA.s e2 (by omega)))
/-- a step of straightening -/
theorem R_step {P : Mem → Prop} {i : Int} (hM : ModL N Λ b) (hR : RI ω σ b) (ho : 0 ≤ o ∧ o < 196) (h0 : 0 ≤ i ∧ i < σ (b + 6) (161 * o)) (hn : ¬ biI (σ (b + 2)) (σ (b + 6) (161 * o + 1 + 2 * i)) = -1) (hd : 4 ≤ d) (h : ∀ σ', RI ω σ' b → FA o σ σ' b → P σ') : CV l mX12_steps d [(2, b), (0, o), (0, i)] N Λ σ P := by
  have z := (hR.pool ho.1 ho.2).sz
  have k := hR.key ho h0.1 h0.2
  refine c_X12_steps (v_X12_steps_0 hM.1 (M_fpool hM) (by omega) ?_)
  rw [ixm ho.1 ho.2, ixk ho.1 ho.2 h0.1 (by omega), ixn ho.1 ho.2 h0.1 (by omega)]
  refine ⟨pix hM ho (by omega) (by omega), fun y1 e1 => ⟨pix hM ho (by omega) (by omega), fun y2 _ => ?_⟩⟩
  rw [← e1] at k hn
  rcases biI_b (f := σ (b + 2)) (x := y1) with q | ⟨q1, q2, q3⟩
  · exact absurd q hn
  · have dg := dgI_b (x := y1)
    refine R_bi hM k (by omega) (R_rk k (by omega) ?_)
    rw [addI_e (x := biI (σ (b + 2)) y1) (y := 1) (by omega) (by omega)]
    rw [hR.lt] at q1 q2 q3 ⊢
    exact R_rk k (by omega) (sp44 hM ho k ⟨q1.1, q3⟩ rkI_b rkI_b q2 hd h 3 0 σ (by decide) (by decide) hR FA.rf)
theorem sg8 {P : Int → Mem → Prop} {σ0 : Mem} (hM : ModL N Λ b) (ho : 0 ≤ o ∧ o < 196) (hd : 5 ≤ d) (h : ∀ v σ', RI ω σ' b → FA o σ0 σ' b → P v σ') : ∀ (m : Nat) (n i : Int) (σ : Mem), 0 ≤ n → n ≤ 900 → (900 - n).toNat ≤ m → (i = -1 ∨ ((0 ≤ i ∧ i < σ (b + 6) (161 * o)) ∧ ¬ biI (σ (b + 2)) (σ (b + 6) (161 * o + 1 + 2 * i)) = -1)) → RI ω σ b → FA o σ0 σ b → WI l mX12_straightens d P 8 [(2, b), (0, o), (0, n), (0, i)] [] N Λ σ := by
  intro m
  induction m with
  | zero =>
    intro n i σ n0 n1 g hi hR hF
    exact v_X12_straightens_8 hM.1 (by omega) ⟨fun _ => h _ σ hR hF, fun _ => ⟨fun _ => h _ σ hR hF, fun _ => ⟨fun hc => absurd (by omega) hc, fun _ => ⟨fun _ => h _ σ hR hF, fun _ τ5 e5 => h _ τ5 (hR.bad e5) (hF.tr (FA.bd e5))⟩⟩⟩⟩
  | succ m ih =>
    intro n i σ n0 n1 g hi hR hF
    refine v_X12_straightens_8 hM.1 (by omega) ⟨fun _ => h _ σ hR hF, fun hn => ⟨fun _ => h _ σ hR hF, fun _ => ⟨fun hc => ?_, fun _ => ⟨fun _ => h _ σ hR hF, fun _ τ5 e5 => h _ τ5 (hR.bad e5) (hF.tr (FA.bd e5))⟩⟩⟩⟩
    rcases hi with hi | hi
    · exact absurd hi hn
    · refine R_step hM hR ho hi.1 hi.2 (by omega) fun σ1 hR1 hF1 y2 e2 => R_lb hM hR1 ho (by omega) fun v4 hv4 => ?_
      rw [e2, addI_e (by omega) (by omega)]
      exact ih (n + 1) v4 σ1 (by omega) (by omega) (by omega) hv4 hR1 (hF.tr hF1)
theorem R_str {P : Int → Mem → Prop} (hM : ModL N Λ b) (hR : RI ω σ b) (ho : 0 ≤ o ∧ o < 196) (hd : 5 ≤ d) (h : ∀ v σ', RI ω σ' b → FA o σ σ' b → P v σ') : CI l mX12_straightens d [(2, b), (0, o)] N Λ σ P :=
  c_X12_straightens (v_X12_straightens_0 hM.1 (by omega) (R_lb hM hR ho (by omega) fun v hv => sg8 hM ho hd h 900 0 v σ (by decide) (by decide) (by decide) hv hR FA.rf))
end RS
