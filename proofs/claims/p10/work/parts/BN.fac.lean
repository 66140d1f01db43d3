/-! the reference: factors on any object -/
theorem dfL_p (g : Nat → Int) (p : Int) : ∀ t : Nat, 0 ≤ dfL g p t := by
  intro t
  induction t with
  | zero => exact Int.le_refl 0
  | succ t ih =>
    rw [dfL_s]
    split <;> omega
section KG
variable {l : Launch} {d N : Nat} {Λ : Lay} {ω σ : Mem} {b : Int}
theorem lps_facts {P : Int → Mem → Prop} {x1 : Int} (hM : ModL N Λ b) (hR : RI ω σ b) (hd : 1 ≤ d) (h : ∀ v, P v σ) : ∀ m : Nat, (∀ (x2 x3 : Int), 1 ≤ x3 → (121 - x3).toNat < m → WI l mX12_facts d P 4 [(2, b), (0, x1), (0, x2), (0, x3)] [] N Λ σ) := by
  intro m
  induction m with
  | zero => exact by intros; omega
  | succ m ih =>
    refine ?_
    · intro x2 x3 i0 g
      exact u_X12_facts_4 hM.1 (by omega) (⟨fun q1 => h _, fun q2 => K_factOf hM (by omega) fun v2 => ⟨fun q4 => fun y3 e5 => fun y4 e6 => by rw [e6, addI_e (by omega) (by omega)]; exact ih y3 (x3 + 1) (by omega) (by omega), fun q7 => fun y5 e8 => fun y6 e9 => by rw [e9, addI_e (by omega) (by omega)]; exact ih y5 (x3 + 1) (by omega) (by omega)⟩⟩)
theorem K_facts {P : Int → Mem → Prop} {x1 : Int} (hM : ModL N Λ b) (hR : RI ω σ b) (hd : 1 ≤ d) (h : ∀ v, P v σ) : CI l mX12_facts d [(2, b), (0, x1)] N Λ σ P :=
  c_X12_facts (u_X12_facts_0 ((lps_facts hM hR hd h 121) 0 1 (by omega) (by omega)))
theorem lps_areSix {P : Int → Mem → Prop} {x1 ky : Int} (hM : ModL N Λ b) (hx1 : 0 ≤ x1 ∧ x1 < 6) (hk : dgI ky = 2) (hd : 3 ≤ d) (h : ∀ v σ', RI ω σ' b → P v σ') : ∀ (m : Nat) (x2 x3 : Int) (σ : Mem), 0 ≤ x2 → 0 ≤ x3 → x2 ≤ cntL (lg ky) x3 6 → 0 < σ (b + 3) (161 * x1) → σ (b + 3) (161 * x1 + 1 + 2 * 0) = ky → (10 - x3).toNat < m → RI ω σ b → WI l mX12_areSix d P 35 [(2, b), (0, x1), (0, x2), (0, x3), (3, 0)] [] N Λ σ := by
  intro m
  induction m with
  | zero => intros; omega
  | succ m ih =>
    intro x2 x3 σ i0 i1 i2 i3 i4 g R
    refine u_X12_areSix_35 hM.1 (M_fstate hM) (M_fsix hM) (by omega) ⟨fun _ => ⟨fun _ => h _ _ R, fun _ => h _ _ R⟩, fun q2 => K_keyOn hM R hx1 (by omega) fun v2 e2 b2 => K_often hM R b2 (by omega) fun v4 e4 => ⟨fun q3 => ⟨fun q4 => ?_, fun q4 => ?_⟩, fun _ => h _ _ R⟩⟩
    · rw [i4] at e2
      rw [e2, hk] at e4
      have a := cntL_b (lg ky) (x3 + 1) 6
      have c := cntL_b (lg ky) x3 6
      have e5 : v4 = cntL (lg ky) (x3 + 1) 6 - cntL (lg ky) x3 6 := e4
      have dp : 0 ≤ cntL (lg ky) (x3 + 1) 6 - cntL (lg ky) x3 6 := dfL_p (lg ky) x3 6
      refine ⟨Ix.of (M_six hM) (by omega) (by omega), fun τ5 e6 y6 e7 y7 e8 => ?_⟩
      rw [e7, e8, addI_e (x := x2) (by omega) (by omega), addI_e (x := x3) (by omega) (by omega)]
      exact ih (x2 + 1) (x3 + 1) τ5 (by omega) (by omega) (by omega) (by rw [e6, st_ne (by omega)]; exact i3) (by rw [e6, st_ne (by omega)]; exact i4) (by omega) (R.slt e6 (by omega) (by omega))
    · rw [i4] at e2
      rw [e2, hk] at e4
      have e5 : v4 = cntL (lg ky) (x3 + 1) 6 - cntL (lg ky) x3 6 := e4
      exact fun y8 e8 => by
        rw [e8, addI_e (by omega) (by omega)]
        exact ih x2 (x3 + 1) σ i0 (by omega) (by omega) i3 i4 (by omega) R
theorem K_areSix {P : Int → Mem → Prop} {x1 : Int} (hM : ModL N Λ b) (hR : RI ω σ b) (hx1 : 0 ≤ x1 ∧ x1 < 6) (hd : 3 ≤ d) (h : ∀ v σ', RI ω σ' b → P v σ') : CI l mX12_areSix d [(2, b), (0, x1)] N Λ σ P := by
  refine c_X12_areSix (u_X12_areSix_0 hM.1 (M_fstate hM) (by omega) ⟨Ix.of (M_state hM) (by first | omega | (simp (disch := omega) only [addI_e, subI_e, mulI_e, divI_e, remI_e]; omega)) (by first | omega | (simp (disch := omega) only [addI_e, subI_e, mulI_e, divI_e, remI_e]; omega)), fun _ => h _ _ hR, fun q => ?_⟩)
  have n := shn hR hx1 q
  refine K_keyOn hM hR hx1 (by omega) fun v2 e2 b2 => K_degreeOf b2 (by omega) fun v4 e4 b4 => ⟨fun q2 => ?_, fun _ => h _ _ hR⟩
  exact lps_areSix hM hx1 (ky := v2) (by omega) hd h 11 0 0 σ (by decide) (by decide) (cntL_b _ _ _).1 n e2.symm (by decide) hR
theorem K_laysSix {P : Mem → Prop} {x1 : Int} (hM : ModL N Λ b) (hR : RI ω σ b) (hx1 : 3 ≤ x1 ∧ x1 < 196) (hd : 6 ≤ d) (h : ∀ σ', RI ω σ' b → P σ') : CV l mX12_laysSix d [(2, b), (0, x1)] N Λ σ P :=
  c_X12_laysSix (u_X12_laysSix_0 hM.1 (M_ftaken hM) (by omega) (K_empties hM hR (by omega) fun σ1 R_σ1 _ => K_empties hM R_σ1 (by omega) fun σ2 R_σ2 _ => K_empties hM R_σ2 (by omega) fun σ3 R_σ3 _ => ⟨(Ix.of (M_taken hM) (by omega) (by omega)), ⟨(Ix.of (M_taken hM) (by omega) (by omega)), ⟨(Ix.of (M_taken hM) (by omega) (by omega)), K_putsBracket hM R_σ3 (R_σ3.ltr (by omega)) (R_σ3.ltr (by omega)) (R_σ3.ltr (by omega)) (by omega) (by omega) fun σ4 R_σ4 _ => ⟨(Ix.of (M_taken hM) (by omega) (by omega)), ⟨(Ix.of (M_taken hM) (by omega) (by omega)), ⟨(Ix.of (M_taken hM) (by omega) (by omega)), K_putsBracket hM R_σ4 (R_σ4.ltr (by omega)) (R_σ4.ltr (by omega)) (R_σ4.ltr (by omega)) (by omega) (by omega) fun σ5 R_σ5 _ => R_mu hM R_σ5 (by omega) (by omega) (by omega) (by omega) (by omega) (by omega) fun σ6 R_σ6 _ => K_empties hM R_σ6 (by omega) fun σ7 R_σ7 _ => K_empties hM R_σ7 (by omega) fun σ8 R_σ8 _ => ⟨(Ix.of (M_taken hM) (by omega) (by omega)), ⟨(Ix.of (M_taken hM) (by omega) (by omega)), ⟨(Ix.of (M_taken hM) (by omega) (by omega)), K_putsBracket hM R_σ8 (R_σ8.ltr (by omega)) (R_σ8.ltr (by omega)) (R_σ8.ltr (by omega)) (by omega) (by omega) fun σ9 R_σ9 _ => ⟨(Ix.of (M_taken hM) (by omega) (by omega)), ⟨(Ix.of (M_taken hM) (by omega) (by omega)), ⟨(Ix.of (M_taken hM) (by omega) (by omega)), K_putsBracket hM R_σ9 (R_σ9.ltr (by omega)) (R_σ9.ltr (by omega)) (R_σ9.ltr (by omega)) (by omega) (by omega) fun σ10 R_σ10 _ => R_mu hM R_σ10 (by omega) (by omega) (by omega) (by omega) (by omega) (by omega) fun σ11 R_σ11 _ => R_str hM R_σ11 (by omega) (by omega) fun v13 σ12 R_σ12 _ => h _ R_σ12⟩⟩⟩⟩⟩⟩⟩⟩⟩⟩⟩⟩))
theorem lps_multiple {P : Int → Mem → Prop} {x1 x2 : Int} (hM : ModL N Λ b) (hR : RI ω σ b) (hx1 : 0 ≤ x1 ∧ x1 < 196) (hx2 : 0 ≤ x2 ∧ x2 < 196) (hq : σ (b + 6) (161 * x1) = σ (b + 6) (161 * x2)) (hd : 1 ≤ d) (h : ∀ v, P v σ) : ∀ m : Nat, (∀ (x3 x4 : Int), 0 ≤ x4 → (80 - x4).toNat < m → WI l mX12_multiple d P 56 [(2, b), (0, x1), (0, x2), (0, x3), (0, x4)] [] N Λ σ) := by
  intro m
  induction m with
  | zero => exact by intros; omega
  | succ m ih =>
    refine ?_
    · intro x3 x4 i0 g
      exact u_X12_multiple_56 hM.1 (by omega) (K_many hM hR (by omega) fun v2 ee1 bb1 => ⟨fun q2 => h _, fun q3 => K_key hM hR (by omega) (by omega) fun v4 kk4 => K_key hM hR (by omega) (by omega) fun v6 kk5 => ⟨fun q6 => h _, fun q7 => K_number hM hR (by omega) (by omega) fun v8 zz8 => K_number hM hR (by omega) (by omega) fun v10 zz9 => ⟨fun qq => have q10 := ce_p qq; fun y11 e11 => by rw [e11, addI_e (by omega) (by omega)]; exact ih x3 (x4 + 1) (by omega) (by omega), fun qq => have q12 := ce_n qq; h _⟩⟩⟩)
theorem K_multiple {P : Int → Mem → Prop} {x1 x2 : Int} (hM : ModL N Λ b) (hR : RI ω σ b) (hx1 : 0 ≤ x1 ∧ x1 < 196) (hx2 : 0 ≤ x2 ∧ x2 < 196) (hd : 1 ≤ d) (h : ∀ v, P v σ) : CI l mX12_multiple d [(2, b), (0, x1), (0, x2)] N Λ σ P :=
  c_X12_multiple (u_X12_multiple_0 hM.1 (by omega) (K_many hM hR (by omega) fun v2 ee1 bb1 => ⟨fun q2 => h _, fun q3 => K_many hM hR (by omega) fun v4 ee4 bb4 => K_many hM hR (by omega) fun v6 ee5 bb5 => ⟨fun q6 => h _, fun q7 => K_number hM hR (by omega) (by omega) fun v8 zz8 => K_number hM hR (by omega) (by omega) fun v10 zz9 => ⟨(by first | omega | (simp (disch := omega) only [addI_e, subI_e, mulI_e, divI_e, remI_e]; omega)), ⟨fun q10 => K_number hM hR (by omega) (by omega) fun v12 zz11 => K_number hM hR (by omega) (by omega) fun v14 zz12 => ⟨(by first | omega | (simp (disch := omega) only [addI_e, subI_e, mulI_e, divI_e, remI_e]; omega)), fun y15 e13 => (lps_multiple hM hR (by omega) (by omega) (by omega) hd h 81) y15 0 (by omega) (by omega)⟩, fun q14 => h _⟩⟩⟩⟩))
theorem K_isFound (hM : ModL N Λ b) : ∀ (n : Nat) (d : Nat) (x1 x2 : Int) (σ : Mem) (P : Int → Mem → Prop), 0 ≤ x1 → x1 ≤ 6 → (6 - x1).toNat < n → n + 7 ≤ d → RI ω σ b → (∀ v σ', RI ω σ' b → P v σ') → CI l mX12_isFound d [(2, b), (0, x1), (0, x2)] N Λ σ P := by
  intro n
  induction n with
  | zero => intros; omega
  | succ n IH =>
    intro d x1 x2 σ P j0 j1 g hd R h
    have l25 : ∀ (m : Nat) (x3 : Int) (σ : Mem), 0 ≤ x3 → (6 - x3).toNat < m → RI ω σ b → WI l mX12_isFound d P 25 [(2, b), (0, x1), (0, x2), (0, x3)] [] N Λ σ := by
      intro m
      induction m with
      | zero => intros; omega
      | succ m ih =>
        intro x3 σ i0 g' R
        exact u_X12_isFound_25 hM.1 (M_ffound hM) (M_ftaken hM) (⟨fun q1 => ⟨(Ix.of (M_found hM) (by omega) (by omega)), ⟨fun q2 => h _ _ R, fun q3 => h _ _ R⟩⟩, fun q4 => ⟨(Ix.of (M_taken hM) (by omega) (by omega)), ⟨(Ix.of (M_found hM) (by first | omega | (simp (disch := omega) only [addI_e, subI_e, mulI_e, divI_e, remI_e]; omega)) (by first | omega | (simp (disch := omega) only [addI_e, subI_e, mulI_e, divI_e, remI_e]; omega))), fun τ1 e5 => have R_τ1 := R.ax e5 (by omega); fun y2 e6 => by rw [e6, addI_e (by omega) (by omega)]; exact ih (x3 + 1) τ1 (by omega) (by omega) R_τ1⟩⟩⟩)
    have l70 : ¬ x1 = 6 → ∀ (m : Nat) (x3 : Int) (σ : Mem), 0 ≤ x3 → (6 - x3).toNat < m → RI ω σ b → WI l mX12_isFound d P 70 [(2, b), (0, x1), (0, x2), (0, x3)] [] N Λ σ := by
      intro hn m
      induction m with
      | zero => intros; omega
      | succ m ih =>
        intro x3 σ i0 g' R
        exact u_X12_isFound_70 hM.1 (M_ftaken hM) (M_fsix hM) (by omega) (⟨fun q1 => h _ _ R, fun q2 => ⟨fun q3 => ⟨(Ix.of (M_six hM) (by omega) (by omega)), ⟨(Ix.of (M_taken hM) (by omega) (by omega)), fun τ1 e4 => have R_τ1 := R.slt e4 (by omega) (R.ltr (by omega)); by rw [addI_e (x := x1) (y := 1) (by omega) (by omega)]; exact IH (d - 1) (x1 + 1) _ τ1 _ (by omega) (by omega) (by omega) (by omega) R_τ1 fun v3 σ2 R_σ2 => ⟨fun q6 => fun y4 e7 => by rw [e7, addI_e (by omega) (by omega)]; exact ih (x3 + 1) σ2 (by omega) (by omega) R_σ2, fun q8 => h _ _ R_σ2⟩⟩⟩, fun q9 => fun y5 e10 => by rw [e10, addI_e (by omega) (by omega)]; exact ih (x3 + 1) σ (by omega) (by omega) R⟩⟩)
    exact c_X12_isFound (u_X12_isFound_0 hM.1 (M_ffound hM) (by omega) (⟨fun q1 => l70 q1 7 0 σ (by omega) (by omega) R, fun q2 => K_laysSix hM R (by omega) (by omega) fun σ1 R_σ1 => K_multiple hM R_σ1 (by omega) (by omega) (by omega) fun v3 => ⟨(Ix.of (M_found hM) (by omega) (by omega)), fun τ4 e5 => have R_τ4 := R_σ1.ax e5 (by omega); l25 7 0 τ4 (by omega) (by omega) R_τ4⟩⟩))
end KG
