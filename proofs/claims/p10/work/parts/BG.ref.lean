/-! the reference: exchanges and straightening on any object -/
section RX
variable {l : Launch} {d N : Nat} {Λ : Lay} {ω σ : Mem} {b o : Int}
theorem lw106 {P : Int → Mem → Prop} {x1 x2 x3 x4 x5 : Int} {σ0 : Mem} (hM : ModL N Λ b) (h : ∀ v σ', RI ω σ' b → FA o σ0 σ' b → P v σ') : ∀ (m : Nat) (i : Int) (σ : Mem), 0 ≤ i → (3 - i).toNat ≤ m → RI ω σ b → FA o σ0 σ b → WI l mX12_layWay d P 106 [(2, b), (0, x1), (0, x2), (0, x3), (0, x4), (0, x5), (0, i)] [] N Λ σ := by
  intro m
  induction m with
  | zero => intro i σ i0 g hR hF; exact v_X12_layWay_106 hM.1 (M_fnewY hM) (M_frowY hM) ⟨fun _ => h _ σ hR hF, fun hc => by omega⟩
  | succ m ih =>
    intro i σ i0 g hR hF
    refine v_X12_layWay_106 hM.1 (M_fnewY hM) (M_frowY hM) ⟨fun _ => h _ σ hR hF, fun hc => ⟨Ix.of (M_rowY hM) i0 (by omega), Ix.of (M_newY hM) i0 (by omega), fun τ1 e1 y2 e2 => ?_⟩⟩
    rw [e2, addI_e (by omega) (by omega)]
    exact ih (i + 1) τ1 (by omega) (by omega) (hR.slt e1 (by omega) (hR.ltr (by omega))) (hF.tr (FA.s e1 (by omega)))
theorem lw36 {P : Int → Mem → Prop} {x1 x2 : Int} {σ0 : Mem} (hM : ModL N Λ b) (h1 : 0 ≤ x1) (h : ∀ v σ', RI ω σ' b → FA o σ0 σ' b → P v σ') : ∀ (m : Nat) (x3 x4 x5 i : Int) (σ : Mem), 0 ≤ i → (4 - i).toNat ≤ m → 0 ≤ x3 → x3 ≤ i + 2 → 0 ≤ x4 → x4 ≤ i → RI ω σ b → FA o σ0 σ b → WI l mX12_layWay d P 36 [(2, b), (0, x1), (0, x2), (0, x3), (0, x4), (0, x5), (0, i)] [] N Λ σ := by
  intro m
  induction m with
  | zero => intro x3 x4 x5 i σ i0 g a0 a1 c0 c1 hR hF; exact v_X12_layWay_36 hM.1 (M_fnewY hM) (M_ffour hM) (M_fnewX hM) ⟨fun _ => lw106 hM h 3 x1 σ h1 (by omega) hR hF, fun hc => by omega⟩
  | succ m ih =>
    intro x3 x4 x5 i σ i0 g a0 a1 c0 c1 hR hF
    refine v_X12_layWay_36 hM.1 (M_fnewY hM) (M_ffour hM) (M_fnewX hM) ⟨fun _ => lw106 hM h 3 x1 σ h1 (by omega) hR hF, fun hc => ⟨fun _ => ⟨Ix.of (M_four hM) i0 (by omega), Ix.of (M_newY hM) c0 (by omega), fun τ1 e1 y2 e2 y3 e3 => ?_⟩, fun _ => ⟨Ix.of (M_four hM) i0 (by omega), Ix.of (M_newX hM) a0 (by omega), fun τ4 e4 y5 e5 y6 _ y7 e7 => ?_⟩⟩⟩
    · rw [e2, e3, addI_e (by omega) (by omega), addI_e (by omega) (by omega)]
      exact ih x3 (x4 + 1) x5 (i + 1) τ1 (by omega) (by omega) a0 (by omega) (by omega) (by omega) (hR.slt e1 (by omega) (hR.ltr (by omega))) (hF.tr (FA.s e1 (by omega)))
    · rw [e5, e7, addI_e (by omega) (by omega), addI_e (by omega) (by omega)]
      exact ih (x3 + 1) x4 y6 (i + 1) τ4 (by omega) (by omega) (by omega) (by omega) c0 (by omega) (hR.slt e4 (by omega) (hR.ltr (by omega))) (hF.tr (FA.s e4 (by omega)))
theorem lw8 {P : Int → Mem → Prop} {x1 x2 : Int} {σ0 : Mem} (hM : ModL N Λ b) (h1 : 1 ≤ x1 ∧ x1 ≤ 3) (h : ∀ v σ', RI ω σ' b → FA o σ0 σ' b → P v σ') : ∀ (m : Nat) (i : Int) (σ : Mem), 0 ≤ i → i ≤ 2 → (2 - i).toNat ≤ m → RI ω σ b → FA o σ0 σ b → WI l mX12_layWay d P 8 [(2, b), (0, x1), (0, x2), (0, i), (0, 0), (0, 0), (3, 0)] [] N Λ σ := by
  have e1 : subI x1 1 = x1 - 1 := subI_e (by omega) (by omega)
  intro m
  induction m with
  | zero =>
    intro i σ i0 i2 g hR hF
    refine v_X12_layWay_8 hM.1 (M_fnewX hM) (M_frowX hM) ?_
    rw [e1]
    exact ⟨fun _ => lw36 hM (by omega) h 4 i 0 0 0 σ (by decide) (by decide) i0 (by omega) (by decide) (by decide) hR hF, fun hc => absurd (by omega) hc⟩
  | succ m ih =>
    intro i σ i0 i2 g hR hF
    refine v_X12_layWay_8 hM.1 (M_fnewX hM) (M_frowX hM) ?_
    rw [e1]
    refine ⟨fun _ => lw36 hM (by omega) h 4 i 0 0 0 σ (by decide) (by decide) i0 (by omega) (by decide) (by decide) hR hF, fun hc => ⟨Ix.of (M_rowX hM) i0 (by omega), Ix.of (M_newX hM) i0 (by omega), fun τ1 e1 y2 e2 => ?_⟩⟩
    rw [e2, addI_e (by omega) (by omega)]
    exact ih (i + 1) τ1 (by omega) (by omega) (by omega) (hR.slt e1 (by omega) (hR.ltr (by omega))) (hF.tr (FA.s e1 (by omega)))
theorem R_lw {P : Int → Mem → Prop} {x1 x2 : Int} (hM : ModL N Λ b) (hR : RI ω σ b) (h1 : 1 ≤ x1 ∧ x1 ≤ 3) (h : ∀ v σ', RI ω σ' b → FA o σ σ' b → P v σ') : CI l mX12_layWay d [(2, b), (0, x1), (0, x2)] N Λ σ P :=
  c_X12_layWay (v_X12_layWay_0 (lw8 hM h1 h 2 0 σ (by decide) (by decide) (by decide) hR FA.rf))
/-- the rank of three letters, as the table has it -/
theorem rkt {x y z : Int} (hR : RI ω σ b) (hx : 0 ≤ x ∧ x ≤ 9) (hy : 0 ≤ y ∧ y ≤ 9) (hz : 0 ≤ z ∧ z ≤ 9) : addI (addI (mulI 100 x) (mulI 10 y)) z = 100 * x + 10 * y + z ∧ -120 ≤ σ (b + 1) (100 * x + 10 * y + z) ∧ σ (b + 1) (100 * x + 10 * y + z) ≤ 120 := by
  refine ⟨by rw [mulI_e (x := 100) (by omega) (by omega), mulI_e (x := 10) (by omega) (by omega), addI_e (x := 100 * x) (by omega) (by omega), addI_e (by omega) (by omega)], ?_⟩
  rw [hR.rk]
  rcases rk_or (a := x) (b := y) (c := z) (by omega) (by omega) (by omega) with er | ⟨r, r1, r2, er⟩ | ⟨r, r1, r2, er⟩ <;> (unfold Rk at er; rw [er]; omega)
theorem ex218 {P : Mem → Prop} {x1 x2 x3 x6 x7 x8 x9 x10 : Int} {σ0 : Mem} (hM : ModL N Λ b) (ho : 0 ≤ o ∧ o < 196) (h2 : 0 ≤ x2 ∧ x2 ≤ 2) (h6 : 0 < x6 ∧ x6 ≤ 15) (h8 : -120 ≤ x8 ∧ x8 ≤ 120) (h9 : -120 ≤ x9 ∧ x9 ≤ 120) (hd : 3 ≤ d) (K : ∀ τ, RI ω τ b → FA o σ0 τ b → WV l mX12_exchanges d P 59 [(2, b), (0, x1), (0, x2), (1, x3), (3, 0), (0, o), (0, x6 + -1), (3, 0), (3, 0), (3, 0), (3, 0), (3, 0), (3, 0)] [] N Λ τ) : ∀ (m : Nat) (i : Int) (σ : Mem), 0 ≤ i → (2 - i).toNat ≤ m → RI ω σ b → FA o σ0 σ b → WV l mX12_exchanges d P 218 [(2, b), (0, x1), (0, x2), (1, x3), (3, 0), (0, o), (0, x6), (0, x7), (0, x8), (0, x9), (1, x10), (3, 0), (0, i)] [] N Λ σ := by
  have ix : ∀ j : Int, 0 ≤ j → j < 9 → Ix N Λ (b + 7) 0 j := fun j u0 u1 => Ix.of (M_ranks hM) u0 u1
  have a1 : addI x2 1 = x2 + 1 := addI_e (by omega) (by omega)
  have a2 : addI x2 2 = x2 + 2 := addI_e (by omega) (by omega)
  have put : ∀ (τ : Mem), RI ω τ b → FA o σ0 τ b → CI l mX12_keyOf (d - 1) [(2, b), (0, x2 + 2)] N Λ τ (fun v4 σ3 => (CI l mX12_puts (d - 1) [(2, b), (0, o), (0, v4), (1, (mulL x10 x3))] N Λ σ3 (fun v6 σ5 => (∀ y7, y7 = addI x6 (-1) → WV l mX12_exchanges d P 59 [(2, b), (0, x1), (0, x2), (1, x3), (3, 0), (0, o), (0, y7), (3, 0), (3, 0), (3, 0), (3, 0), (3, 0), (3, 0)] [] N Λ σ5)))) := fun τ hτ fτ => R_ko (o := o) hM hτ (by omega) fun v4 σ3 hR3 hF3 hv => R_puts hM hR3 ho.1 ho.2 hv (by omega) fun v6 σ5 hR5 hF5 y7 e7 => by
    rw [e7, addI_e (by omega) (by omega)]
    exact K σ5 hR5 ((fτ.tr hF3).tr hF5)
  have en : ∀ (σ : Mem), RI ω σ b → FA o σ0 σ b → ∀ (u w : Int), 0 ≤ u ∧ u ≤ 120 → 0 ≤ w ∧ w ≤ 120 → ∀ τ1, τ1 = st σ (b + 7) x2 u → ∀ τ2, τ2 = st τ1 (b + 7) (x2 + 1) w → RI ω τ2 b ∧ FA o σ0 τ2 b := fun σ hR hF u w hu hw τ1 e1 τ2 e2 => ⟨(hR.srk e1 hu).srk e2 hw, (hF.tr (FA.s e1 (by omega))).tr (FA.s e2 (by omega))⟩
  have fin : ∀ (σ : Mem), RI ω σ b → FA o σ0 σ b → ∀ i : Int, x2 ≤ i → WV l mX12_exchanges d P 218 [(2, b), (0, x1), (0, x2), (1, x3), (3, 0), (0, o), (0, x6), (0, x7), (0, x8), (0, x9), (1, x10), (3, 0), (0, i)] [] N Λ σ := fun σ hR hF i hi => by
    refine v_X12_exchanges_218 hM.1 (M_franks hM) (M_fkept hM) (by omega) ?_
    rw [a1, a2]
    refine ⟨fun _ => ⟨fun p8 => ⟨ix _ (by omega) (by omega), fun τ1 e1 => ⟨fun p9 => ⟨ix _ (by omega) (by omega), fun τ2 e2 => ?_⟩, fun p9 => ⟨ix _ (by omega) (by omega), fun τ2 e2 => ?_⟩⟩⟩, fun p8 => ⟨ix _ (by omega) (by omega), fun τ1 e1 => ⟨fun p9 => ⟨ix _ (by omega) (by omega), fun τ2 e2 => ?_⟩, fun p9 => ⟨ix _ (by omega) (by omega), fun τ2 e2 => ?_⟩⟩⟩⟩, fun hc => absurd hi hc⟩
    · have q := en σ hR hF _ _ (by omega) (by omega) τ1 e1 τ2 e2
      exact put τ2 q.1 q.2
    · rw [negI_e (by omega) (by omega)] at e2
      have q := en σ hR hF _ _ (by omega) (by omega) τ1 e1 τ2 e2
      exact put τ2 q.1 q.2
    · rw [negI_e (by omega) (by omega)] at e1
      have q := en σ hR hF _ _ (by omega) (by omega) τ1 e1 τ2 e2
      exact put τ2 q.1 q.2
    · rw [negI_e (by omega) (by omega)] at e1 e2
      have q := en σ hR hF _ _ (by omega) (by omega) τ1 e1 τ2 e2
      exact put τ2 q.1 q.2
  intro m
  induction m with
  | zero => intro i σ i0 g hR hF; exact fin σ hR hF i (by omega)
  | succ m ih =>
    intro i σ i0 g hR hF
    by_cases hi : x2 ≤ i
    · exact fin σ hR hF i hi
    · refine v_X12_exchanges_218 hM.1 (M_franks hM) (M_fkept hM) (by omega) ⟨fun hc => absurd hc hi, fun _ => ⟨Ix.of (M_kept hM) i0 (by omega), ix _ i0 (by omega), fun τ e y28 e28 => ?_⟩⟩
      rw [e28, addI_e (by omega) (by omega)]
      exact ih (i + 1) τ (by omega) (by omega) (hR.srk e hR.kpt) (hF.tr (FA.s e (by omega)))
theorem ex59 {P : Mem → Prop} {x1 x2 x3 : Int} {σ0 : Mem} (hM : ModL N Λ b) (ho : 0 ≤ o ∧ o < 196) (h1 : 1 ≤ x1 ∧ x1 ≤ 3) (h2 : 0 ≤ x2 ∧ x2 ≤ 2) (hd : 3 ≤ d) (h : ∀ σ', RI ω σ' b → FA o σ0 σ' b → P σ') : ∀ (m : Nat) (i : Int) (σ : Mem), 0 ≤ i → i ≤ 15 → i.toNat ≤ m → RI ω σ b → FA o σ0 σ b → WV l mX12_exchanges d P 59 [(2, b), (0, x1), (0, x2), (1, x3), (3, 0), (0, o), (0, i), (3, 0), (3, 0), (3, 0), (3, 0), (3, 0), (3, 0)] [] N Λ σ := by
  intro m
  induction m with
  | zero => intro i σ i0 i1 g hR hF; exact v_X12_exchanges_59 hM.1 (M_frankOf hM) (M_fnewX hM) (M_fnewY hM) (by omega) ⟨fun _ => h σ hR hF, fun hc => by omega⟩
  | succ m ih =>
    intro i σ i0 i1 g hR hF
    have nx : ∀ (y : Int) (τ : Mem), 0 < i → RI ω τ b → FA o σ0 τ b → y = addI i (-1) → WV l mX12_exchanges d P 59 [(2, b), (0, x1), (0, x2), (1, x3), (3, 0), (0, o), (0, y), (3, 0), (3, 0), (3, 0), (3, 0), (3, 0), (3, 0)] [] N Λ τ := fun y τ hi hτ fτ e => by
      rw [e, addI_e (by omega) (by omega)]
      exact ih (i + -1) τ (by omega) (by omega) (by omega) hτ fτ
    refine v_X12_exchanges_59 hM.1 (M_frankOf hM) (M_fnewX hM) (M_fnewY hM) (by omega) ⟨fun _ => h σ hR hF, fun hc => ⟨fun _ => h σ hR hF, fun _ => g_bit fun v2 => ⟨fun _ => R_lw (o := o) hM hR h1 fun v4 σ3 hR3 hF3 => ?_, fun _ y e => nx y σ (by omega) hR hF e⟩⟩⟩
    have F3 := hF.tr hF3
    have lx : ∀ j : Int, 0 ≤ σ3 (b + 11) j ∧ σ3 (b + 11) j ≤ 9 := fun j => hR3.ltr (by omega)
    have ly : ∀ j : Int, 0 ≤ σ3 (b + 12) j ∧ σ3 (b + 12) j ≤ 9 := fun j => hR3.ltr (by omega)
    have tx := rkt hR3 (lx 0) (lx 1) (lx 2)
    have ty := rkt hR3 (ly 0) (ly 1) (ly 2)
    have x0 := lx 0
    have x1' := lx 1
    have x2' := lx 2
    have y0 := ly 0
    have y1' := ly 1
    have y2' := ly 2
    rw [tx.1, ty.1]
    have ixr : ∀ j : Int, 0 ≤ j → j < 1000 → Ix N Λ (b + 1) 0 j := fun j u0 u1 => Ix.of (M_rankOf hM) u0 u1
    refine ⟨Ix.of (M_newX hM) (by decide) (by decide), Ix.of (M_newX hM) (by decide) (by decide), Ix.of (M_newX hM) (by decide) (by decide), ixr _ (by omega) (by omega), fun y5 e5 => ⟨Ix.of (M_newY hM) (by decide) (by decide), Ix.of (M_newY hM) (by decide) (by decide), Ix.of (M_newY hM) (by decide) (by decide), ixr _ (by omega) (by omega), fun y6 e6 => ?_⟩⟩
    have b5 : -120 ≤ y5 ∧ y5 ≤ 120 := by rw [e5]; exact tx.2
    have b6 : -120 ≤ y6 ∧ y6 ≤ 120 := by rw [e6]; exact ty.2
    clear tx ty e5 e6 x0 x1' x2' y0 y1' y2'
    have go : ∀ w : Int, WV l mX12_exchanges d P 218 [(2, b), (0, x1), (0, x2), (1, x3), (3, 0), (0, o), (0, i), (0, v4), (0, y5), (0, y6), (1, w), (3, 0), (0, 0)] [] N Λ σ3 := fun w => ex218 hM ho h2 (by omega) b5 b6 hd (fun τ hτ fτ => ih (i + -1) τ (by omega) (by omega) (by omega) hτ fτ) 2 0 σ3 (by decide) (by decide) hR3 F3
    exact ⟨fun _ y e => nx y σ3 (by omega) hR3 F3 e, fun _ => ⟨fun _ => ⟨fun _ => ⟨fun _ => ⟨fun _ y _ => go y, fun _ y _ => go y⟩, fun _ => ⟨fun _ y _ => go y, fun _ y _ => go y⟩⟩, fun _ => ⟨fun _ => ⟨fun _ y _ => go y, fun _ y _ => go y⟩, fun _ => ⟨fun _ y _ => go y, fun _ y _ => go y⟩⟩⟩, fun _ y e => nx y σ3 (by omega) hR3 F3 e⟩⟩
theorem ex3 {P : Mem → Prop} {x1 x2 x3 : Int} {σ0 : Mem} (hM : ModL N Λ b) (ho : 0 ≤ o ∧ o < 196) (h1 : 1 ≤ x1 ∧ x1 ≤ 3) (h2 : 0 ≤ x2 ∧ x2 ≤ 2) (hd : 3 ≤ d) (h : ∀ σ', RI ω σ' b → FA o σ0 σ' b → P σ') : ∀ (m : Nat) (i : Int) (σ : Mem), 0 ≤ i → (4 - i).toNat ≤ m → RI ω σ b → FA o σ0 σ b → WV l mX12_exchanges d P 3 [(2, b), (0, x1), (0, x2), (1, x3), (3, 0), (0, o), (0, i), (3, 0), (3, 0), (3, 0), (3, 0), (3, 0), (3, 0)] [] N Λ σ := by
  have s4 : subI 4 x1 = 4 - x1 := subI_e (by omega) (by omega)
  have s1 : subI x1 1 = x1 - 1 := subI_e (by omega) (by omega)
  intro m
  induction m with
  | zero => intro i σ i0 g hR hF; exact v_X12_exchanges_3 hM.1 (M_ffour hM) (M_frowY hM) (M_frowX hM) ⟨fun _ => ex59 hM ho h1 h2 hd h 15 15 σ (by decide) (by decide) (by decide) hR hF, fun hc => by omega⟩
  | succ m ih =>
    intro i σ i0 g hR hF
    have nx : ∀ (y w : Int) (τ : Mem), ¬ 4 ≤ i → 0 ≤ w ∧ w ≤ 9 → τ = st σ (b + 10) i w → y = addI i 1 → WV l mX12_exchanges d P 3 [(2, b), (0, x1), (0, x2), (1, x3), (3, 0), (0, o), (0, y), (3, 0), (3, 0), (3, 0), (3, 0), (3, 0), (3, 0)] [] N Λ τ := fun y w τ hi hw e e' => by
      rw [e', addI_e (by omega) (by omega)]
      exact ih (i + 1) τ (by omega) (by omega) (hR.slt e (by omega) hw) (hF.tr (FA.s e (by omega)))
    refine v_X12_exchanges_3 hM.1 (M_ffour hM) (M_frowY hM) (M_frowX hM) ⟨fun _ => ex59 hM ho h1 h2 hd h 15 15 σ (by decide) (by decide) (by decide) hR hF, fun hc => ?_⟩
    rw [s4, s1]
    refine ⟨fun hi => ?_, fun hi => ?_⟩
    · rw [subI_e (x := i) (y := 4 - x1) (by omega) (by omega)]
      exact ⟨Ix.of (M_rowY hM) (by omega) (by omega), Ix.of (M_four hM) i0 (by omega), fun τ e y e' => nx y _ τ hc (hR.ltr (by omega)) e e'⟩
    · rw [addI_e (x := x1 - 1) (y := i) (by omega) (by omega)]
      exact ⟨Ix.of (M_rowX hM) (by omega) (by omega), Ix.of (M_four hM) i0 (by omega), fun τ e y e' => nx y _ τ hc (hR.ltr (by omega)) e e'⟩
theorem R_ex {P : Mem → Prop} {x1 x2 x3 : Int} (hM : ModL N Λ b) (hR : RI ω σ b) (ho : 0 ≤ o ∧ o < 196) (h1 : 1 ≤ x1 ∧ x1 ≤ 3) (h2 : 0 ≤ x2 ∧ x2 ≤ 2) (hd : 3 ≤ d) (h : ∀ σ', RI ω σ' b → FA o σ σ' b → P σ') : CV l mX12_exchanges d [(2, b), (0, x1), (0, x2), (1, x3), (0, o)] N Λ σ P :=
  c_X12_exchanges (v_X12_exchanges_0 (ex3 hM ho h1 h2 hd h 4 0 σ (by decide) (by decide) hR FA.rf))
end RX
