variable {ω : Mem}
section GF2
variable {l : Launch} {d N : Nat} {Λ : Lay} {σ : Mem} {t : Int}
theorem Ok.fig {v : Int} {j : Int} (h2 : j = 2 → 0 ≤ v ∧ v ≤ 9) (h3 : j = 3 → 0 ≤ v ∧ v ≤ 90) : Ok t (t + 253) j v := by
  refine ⟨fun e => ?_, fun e => ?_, fun e => ?_, fun _ => ⟨h2, h3⟩, fun e => ?_, fun e => ?_, fun e => ?_, fun e => ?_, fun e => ?_⟩ <;> omega
theorem Ok.stk {v : Int} {j : Int} (h : 0 ≤ v ∧ v ≤ 90) : Ok t (t + 255) j v := by
  refine ⟨fun e => ?_, fun e => ?_, fun e => ?_, fun e => ?_, fun _ _ _ => h, fun e => ?_, fun e => ?_, fun e => ?_, fun e => ?_⟩ <;> omega
theorem GI.top (h : GI ω σ t) : 0 ≤ σ (t + 253) 2 ∧ σ (t + 253) 2 ≤ 9 := ((h.ok (t + 253) 2).2.2.2.1 rfl).1 rfl
theorem GI.spare (h : GI ω σ t) : 0 ≤ σ (t + 253) 3 ∧ σ (t + 253) 3 ≤ 90 := ((h.ok (t + 253) 3).2.2.2.1 rfl).2 rfl
theorem GI.stack {j : Int} (h : GI ω σ t) (h0 : 0 ≤ j) (h1 : j < 9) : 0 ≤ σ (t + 253 + 2) j ∧ σ (t + 253 + 2) j ≤ 90 := by
  rw [show t + 253 + 2 = t + 255 by omega]
  exact (h.ok (t + 255) j).2.2.2.2.1 rfl h0 h1
theorem FrP.f {σ' : Mem} (h : FrP σ σ' t) : σ' (t + 253) = σ (t + 253) := h _ (NP.mid (by omega) (by omega)) (by omega)
theorem gms13 {P : Int → Mem → Prop} {p q : Int} {σ0 : Mem} (hX : DX N Λ t) (hp : 0 ≤ p ∧ p ≤ 90) (hq : 0 ≤ q ∧ q ≤ 90) (hd : 4 ≤ d) (K : ∀ v σ, GI ω σ t → FrP σ0 σ t → WI l mX2_makeSpare d P 62 [(2, t + 253), (0, p), (0, q), (0, v), (0, 0)] [] N Λ σ) : ∀ (m : Nat) (v i : Int) (σ : Mem), 0 ≤ i → (10 - i).toNat ≤ m → GI ω σ t → FrP σ0 σ t → WI l mX2_makeSpare d P 13 [(2, t + 253), (0, p), (0, q), (0, v), (0, i)] [] N Λ σ := by
  have hFi := hX.2.2.2.2.2.2.2.2.1.1
  have p3 : PA t (t + 253 + 9) := by have := pa4 (t := t) (s := 2) (by decide) (by decide); rw [show t + 253 + 3 + 3 * 2 = t + 253 + 9 by omega] at this; exact this
  intro m
  induction m with
  | zero => intro v i σ g0 g1 hG hf; exact v_X2_makeSpare_13 hFi.1 hFi.2.1 hFi.2.2.2.2.2.1 (by omega) ⟨fun _ => K _ _ hG hf, fun hc => by omega⟩
  | succ m ih =>
    intro v i σ g0 g1 hG hf
    have sp := hG.spare
    refine v_X2_makeSpare_13 hFi.1 hFi.2.1 hFi.2.2.2.2.2.1 (by omega) ⟨fun _ => K _ _ hG hf, fun hc => ⟨fun _ => K _ _ hG hf, fun _ => ?_⟩⟩
    rw [addI_e (x := σ (t + 253) 3) (y := i) (by omega) (by omega), addI_e (x := q) (y := i) (by omega) (by omega)]
    refine px hX (by omega) (by omega) fun b1 pb1 e1 => px hX (by omega) (by omega) fun b2 pb2 _ => G_layProduct hX hG pb1 p3 pb2 (by omega) (by omega) fun v4 σ3 hG3 f3 y5 e5 => ?_
    rw [e5, addI_e (by omega) (by omega)]
    exact ih v4 (i + 1) σ3 (by omega) (by omega) hG3 (hf.tr (FrP.pol pb1 f3))
theorem gms62 {P : Int → Mem → Prop} {p q : Int} {σ0 : Mem} (hX : DX N Λ t) (hp : 0 ≤ p ∧ p ≤ 90) (hq : 0 ≤ q ∧ q ≤ 90) (hd : 4 ≤ d) (h : ∀ v σ', GI ω σ' t → FrP σ0 σ' t → P v σ') : ∀ (m : Nat) (v i : Int) (σ : Mem), 0 ≤ i → (10 - i).toNat ≤ m → GI ω σ t → FrP σ0 σ t → WI l mX2_makeSpare d P 62 [(2, t + 253), (0, p), (0, q), (0, v), (0, i)] [] N Λ σ := by
  have hFi := hX.2.2.2.2.2.2.2.2.1.1
  have p1 : PA t (t + 253 + 3) := by have := pa4 (t := t) (s := 0) (by decide) (by decide); rw [show t + 253 + 3 + 3 * 0 = t + 253 + 3 by omega] at this; exact this
  have p4 : PA t (t + 253 + 12) := by have := pa4 (t := t) (s := 3) (by decide) (by decide); rw [show t + 253 + 3 + 3 * 3 = t + 253 + 12 by omega] at this; exact this
  intro m
  induction m with
  | zero => intro v i σ g0 g1 hG hf; exact v_X2_makeSpare_62 hFi.1 hFi.2.2.2.1 (hX.pol p1).1 hFi.2.2.2.2.2.2.1 hFi.2.1 (by omega) ⟨fun _ => h _ _ hG hf, fun hc => by omega⟩
  | succ m ih =>
    intro v i σ g0 g1 hG hf
    refine v_X2_makeSpare_62 hFi.1 hFi.2.2.2.1 (hX.pol p1).1 hFi.2.2.2.2.2.2.1 hFi.2.1 (by omega) ⟨fun _ => h _ _ hG hf, fun hc => ⟨fun _ => h _ _ hG hf, fun _ τ1 e1 => ?_⟩⟩
    have nx : ∀ (v y : Int) (σ : Mem), GI ω σ t → FrP σ0 σ t → y = addI i 1 → WI l mX2_makeSpare d P 62 [(2, t + 253), (0, p), (0, q), (0, v), (0, y)] [] N Λ σ := fun v y σ hG hf e => by
      rw [e, addI_e (by omega) (by omega)]
      exact ih v (i + 1) σ (by omega) (by omega) hG hf
    rw [addI_e (x := p) (y := i) (by omega) (by omega)]
    refine px hX (by omega) (by omega) fun b2 pb2 _ => G_layProduct hX (hG.emp p1 e1) p1 p4 pb2 (by omega) (by omega) fun v4 σ3 hG3 f3 => ?_
    have F3 := (hf.tr (FrP.em p1 e1)).tr (FrP.pol p1 f3)
    have sp := hG3.spare
    refine ⟨fun _ y e => nx _ _ _ hG3 F3 e, fun _ => ?_⟩
    rw [addI_e (x := σ3 (t + 253) 3) (y := i) (by omega) (by omega)]
    exact px hX (by omega) (by omega) fun b6 pb6 _ => G_laySum hX hG3 pb6 p1 (by omega) fun v8 σ7 hG7 f7 y e => nx _ _ _ hG7 (F3.tr (FrP.pol pb6 f7)) e
theorem G_ms {P : Int → Mem → Prop} {p q : Int} (hX : DX N Λ t) (hG : GI ω σ t) (hp : 0 ≤ p ∧ p ≤ 90) (hq : 0 ≤ q ∧ q ≤ 90) (hd : 4 ≤ d) (h : ∀ v σ', GI ω σ' t → FrP σ σ' t → P v σ') : CI l mX2_makeSpare d [(2, t + 253), (0, p), (0, q)] N Λ σ P := by
  have hFi := hX.2.2.2.2.2.2.2.2.1.1
  refine c_X2_makeSpare (v_X2_makeSpare_0 hFi.1 (by omega) (G_fe hX hG hG.spare (by omega) fun σ1 hG1 f1 => ?_))
  exact gms13 hX hp hq hd (fun v σ' hG' hf' => gms62 hX hp hq hd h 10 v 0 σ' (by decide) (by decide) hG' hf') 10 0 0 σ1 (by decide) (by decide) hG1 f1
theorem G_ft {P : Int → Mem → Prop} {b : Int} (hX : DX N Λ t) (hG : GI ω σ t) (hd : 6 ≤ d) (h : ∀ v σ', GI ω σ' t → P v σ') : CI l mX2_take d [(2, t + 253), (0, b)] N Λ σ P := by
  have hFi := hX.2.2.2.2.2.2.2.2.1
  have tp := hG.top
  have ixs : ∀ j : Int, 0 ≤ j → j < 9 → Ix N Λ (t + 253 + 2) 0 j := fun j u0 u1 => Ix.of hFi.2.1.2.1 u0 u1
  have p3 : PA t (t + 253 + 9) := by have := pa4 (t := t) (s := 2) (by decide) (by decide); rw [show t + 253 + 3 + 3 * 2 = t + 253 + 9 by omega] at this; exact this
  have p4 : PA t (t + 253 + 12) := by have := pa4 (t := t) (s := 3) (by decide) (by decide); rw [show t + 253 + 3 + 3 * 3 = t + 253 + 12 by omega] at this; exact this
  have A : ((¬ b = 41 → P 0 σ) ∧ (b = 41 → ((4 ≤ (σ (t + 253) 2) → (Ix N Λ (t + 253 + 2) 0 (subI (σ (t + 253) 2) 4) ∧ (∀ y1, y1 = (σ (t + 253 + 2) (subI (σ (t + 253) 2) 4)) → (Ix N Λ (t + 253 + 2) 0 (subI (σ (t + 253) 2) 3) ∧ (∀ y2, y2 = (σ (t + 253 + 2) (subI (σ (t + 253) 2) 3)) → (Ix N Λ (t + 253 + 2) 0 (subI (σ (t + 253) 2) 2) ∧ (∀ y3, y3 = (σ (t + 253 + 2) (subI (σ (t + 253) 2) 2)) → (Ix N Λ (t + 253 + 2) 0 (subI (σ (t + 253) 2) 1) ∧ (∀ y4, y4 = (σ (t + 253 + 2) (subI (σ (t + 253) 2) 1)) → (CI l mX2_makeBracket (d - 1) [(2, (t + 253)), (2, (t + 253 + 9)), (0, y1), (0, y3), (0, y4)] N Λ σ (fun v6 σ5 => ((¬ v6 = 0 → ((¬ v6 = 0 → (Ix N Λ (t + 253 + 2) 0 (subI (σ5 (t + 253) 2) 4) ∧ (∀ τ7, τ7 = st σ5 (t + 253 + 2) (subI (σ5 (t + 253) 2) 4) (σ5 (t + 253) 3) → (∀ τ8, τ8 = st τ7 (t + 253) 3 y1 → (∀ τ9, τ9 = st τ8 (t + 253) 2 (subI (τ8 (t + 253) 2) 3) → P v6 τ9))))) ∧ (v6 = 0 → (CI l mX2_makeSpare (d - 1) [(2, (t + 253)), (0, y1), (0, y2)] N Λ σ5 (fun v11 σ10 => (Ix N Λ (t + 253 + 2) 0 (subI (σ10 (t + 253) 2) 4) ∧ (∀ τ12, τ12 = st σ10 (t + 253 + 2) (subI (σ10 (t + 253) 2) 4) (σ10 (t + 253) 3) → (∀ τ13, τ13 = st τ12 (t + 253) 3 y1 → (∀ τ14, τ14 = st τ13 (t + 253) 2 (subI (τ13 (t + 253) 2) 3) → P v11 τ14))))))))) ∧ (v6 = 0 → (CI l mX2_makeBracket (d - 1) [(2, (t + 253)), (2, (t + 253 + 12)), (0, y2), (0, y3), (0, y4)] N Λ σ5 (fun v16 σ15 => ((¬ v16 = 0 → (Ix N Λ (t + 253 + 2) 0 (subI (σ15 (t + 253) 2) 4) ∧ (∀ τ17, τ17 = st σ15 (t + 253 + 2) (subI (σ15 (t + 253) 2) 4) (σ15 (t + 253) 3) → (∀ τ18, τ18 = st τ17 (t + 253) 3 y1 → (∀ τ19, τ19 = st τ18 (t + 253) 2 (subI (τ18 (t + 253) 2) 3) → P v16 τ19))))) ∧ (v16 = 0 → (CI l mX2_makeSpare (d - 1) [(2, (t + 253)), (0, y1), (0, y2)] N Λ σ15 (fun v21 σ20 => (Ix N Λ (t + 253 + 2) 0 (subI (σ20 (t + 253) 2) 4) ∧ (∀ τ22, τ22 = st σ20 (t + 253 + 2) (subI (σ20 (t + 253) 2) 4) (σ20 (t + 253) 3) → (∀ τ23, τ23 = st τ22 (t + 253) 3 y1 → (∀ τ24, τ24 = st τ23 (t + 253) 2 (subI (τ23 (t + 253) 2) 3) → P v21 τ24))))))))))))))))))))))) ∧ (¬ (4 ≤ (σ (t + 253) 2)) → P 0 σ)))) := by
    refine ⟨fun _ => h _ _ hG, fun _ => ⟨fun h4 => ?_, fun _ => h _ _ hG⟩⟩
    rw [subI_e (x := σ (t + 253) 2) (y := 4) (by omega) (by omega), subI_e (x := σ (t + 253) 2) (y := 3) (by omega) (by omega), subI_e (x := σ (t + 253) 2) (y := 2) (by omega) (by omega), subI_e (x := σ (t + 253) 2) (y := 1) (by omega) (by omega)]
    refine ⟨ixs _ (by omega) (by omega), fun y1 e1 => ⟨ixs _ (by omega) (by omega), fun y2 e2 => ⟨ixs _ (by omega) (by omega), fun y3 e3 => ⟨ixs _ (by omega) (by omega), fun y4 e4 => ?_⟩⟩⟩⟩
    have b1 : 0 ≤ y1 ∧ y1 ≤ 90 := by rw [e1]; exact hG.stack (by omega) (by omega)
    have b2 : 0 ≤ y2 ∧ y2 ≤ 90 := by rw [e2]; exact hG.stack (by omega) (by omega)
    have b3 : 0 ≤ y3 ∧ y3 ≤ 90 := by rw [e3]; exact hG.stack (by omega) (by omega)
    have b4 : 0 ≤ y4 ∧ y4 ≤ 90 := by rw [e4]; exact hG.stack (by omega) (by omega)
    clear e1 e2 e3 e4
    have fin : ∀ (v : Int) (σ5 : Mem), GI ω σ5 t → FrP σ σ5 t → (Ix N Λ (t + 253 + 2) 0 (subI (σ5 (t + 253) 2) 4) ∧ (∀ τ7, τ7 = st σ5 (t + 253 + 2) (subI (σ5 (t + 253) 2) 4) (σ5 (t + 253) 3) → (∀ τ8, τ8 = st τ7 (t + 253) 3 y1 → (∀ τ9, τ9 = st τ8 (t + 253) 2 (subI (τ8 (t + 253) 2) 3) → P v τ9)))) := fun v σ5 hG5 f5 => by
      have e5 : σ5 (t + 253) 2 = σ (t + 253) 2 := by rw [f5.f]
      rw [e5, subI_e (x := σ (t + 253) 2) (y := 4) (by omega) (by omega)]
      refine ⟨ixs _ (by omega) (by omega), fun τ7 e7 τ8 e8 τ9 e9 => ?_⟩
      rw [show t + 253 + 2 = t + 255 by omega] at e7
      have hG7 : GI ω τ7 t := hG5.sto e7 (NP.mid (by omega) (by omega)).ne (Ok.stk hG5.spare)
      have hG8 : GI ω τ8 t := hG7.sto e8 (NP.mid (by omega) (by omega)).ne (Ok.fig (fun e => absurd e (by decide)) (fun _ => b1))
      have q8 : τ8 (t + 253) 2 = σ (t + 253) 2 := by rw [e8, st_nj (by decide), e7, st_ne (by omega)]; exact e5
      rw [q8, subI_e (by omega) (by omega)] at e9
      exact h _ _ (hG8.sto e9 (NP.mid (by omega) (by omega)).ne (Ok.fig (fun _ => by omega) (fun e => absurd e (by decide))))
    refine G_mb hX hG p3 b1 b3 b4 (by omega) fun v6 σ5 hG5 f5 => ⟨fun _ => ⟨fun _ => fin _ _ hG5 f5, fun _ => G_ms hX hG5 b1 b2 (by omega) fun v11 σ10 hG10 f10 => fin _ _ hG10 (f5.tr f10)⟩, fun _ => G_mb hX hG5 p4 b2 b3 b4 (by omega) fun v16 σ15 hG15 f15 => ⟨fun _ => fin _ _ hG15 (f5.tr f15), fun _ => G_ms hX hG15 b1 b2 (by omega) fun v21 σ20 hG20 f20 => fin _ _ hG20 ((f5.tr f15).tr f20)⟩⟩
  refine c_X2_take (v_X2_take_0 hFi.1.1 hFi.1.2.2.1 hFi.1.2.2.2.2.2.1 hFi.1.2.2.2.2.2.2.1 hFi.1.2.1 (by omega) ⟨fun _ => A, fun hb0 => ⟨fun _ => A, fun hb1 => ⟨fun _ => A, fun h9 => ?_⟩⟩⟩)
  clear A
  refine ⟨ixs _ tp.1 (by omega), G_fe hX hG (hG.stack tp.1 (by omega)) (by omega) fun σ1 hG1 f1 τ2 e2 => ?_⟩
  have e1 : σ1 (t + 253) 2 = σ (t + 253) 2 := by rw [f1.f]
  rw [e1, addI_e (by omega) (by omega)] at e2
  have hG2 : GI ω τ2 t := hG1.sto e2 (NP.mid (by omega) (by omega)).ne (Ok.fig (fun _ => by omega) (fun e => absurd e (by decide)))
  have t2 : τ2 (t + 253) 2 = σ (t + 253) 2 + 1 := by rw [e2, st_eq]
  rw [t2, subI_e (x := σ (t + 253) 2 + 1) (y := 1) (by omega) (by omega), show σ (t + 253) 2 + 1 - 1 = σ (t + 253) 2 by omega]
  have sk := hG2.stack tp.1 (show σ (t + 253) 2 < 9 by omega)
  rw [addI_e (x := τ2 (t + 253 + 2) (σ (t + 253) 2)) (y := b) (by omega) (by omega), subI_e (by omega) (by omega)]
  exact ⟨ixs _ tp.1 (by omega), px hX (by omega) (by omega) fun b7 pb7 _ => G_lay hX hG2 pb7 VK0 (by omega) fun v σ' hG' _ => h _ _ hG'⟩
theorem G_mf {P : Int → Mem → Prop} {a : Int} (hX : DX N Λ t) (hG : GI ω σ t) (pa : PA t a) (hd : 6 ≤ d) (h : ∀ v σ', GI ω σ' t → FrP σ σ' t → P v σ') : CI l mX2_makeFigure d [(2, t + 253), (2, a)] N Λ σ P := by
  have hFi := hX.2.2.2.2.2.2.2.2.1
  have ixs : ∀ j : Int, 0 ≤ j → j < 9 → Ix N Λ (t + 253 + 2) 0 j := fun j u0 u1 => Ix.of hFi.2.1.2.1 u0 u1
  exact c_X2_makeFigure (v_X2_makeFigure_0 hFi.1.1 (hX.pol pa).1 hFi.1.2.2.1 (by omega) ⟨ixs 0 (by decide) (by decide), ixs 1 (by decide) (by decide), ixs 2 (by decide) (by decide), G_mb hX hG pa (hG.stack (by decide) (by decide)) (hG.stack (by decide) (by decide)) (hG.stack (by decide) (by decide)) (by omega) fun v σ' hG' f' => h _ _ hG' f'⟩)
/-! forms -/
theorem gto_lp {P : Int → Mem → Prop} {x y : Int} (hd : 2 ≤ d) (h : ∀ v, P v σ) : ∀ (m : Nat) (v i : Int), 0 ≤ i → (12 - i).toNat ≤ m → WI l mX6_timesOf d P 5 [(1, x), (3, 0), (0, y), (0, v), (0, i)] [] N Λ σ := by
  intro m
  induction m with
  | zero => intro v i g0 g1; exact v_X6_timesOf_5 hd ⟨fun _ => h _, fun hc => by omega⟩
  | succ m ih =>
    intro v i g0 g1
    have nx : ∀ v y', ¬ 12 ≤ i → y' = addI i 1 → WI l mX6_timesOf d P 5 [(1, x), (3, 0), (0, y), (0, v), (0, y')] [] N Λ σ := fun v y' hc e => by
      rw [e, addI_e (by omega) (by omega)]
      exact ih v (i + 1) (by omega) (by omega)
    exact v_X6_timesOf_5 hd ⟨fun _ => h _, fun hc y1 _ => ⟨fun _ => ⟨fun _ y2 e2 => nx _ _ hc e2, fun _ y3 _ y4 e4 => nx _ _ hc e4⟩, fun _ => ⟨fun _ y5 e5 => nx _ _ hc e5, fun _ y6 _ y7 e7 => nx _ _ hc e7⟩⟩⟩
theorem G_to {P : Int → Mem → Prop} {x y : Int} (hd : 2 ≤ d) (h : ∀ v, P v σ) : CI l mX6_timesOf d [(1, x), (0, y)] N Λ σ P := c_X6_timesOf (v_X6_timesOf_0 (gto_lp hd h 12 0 0 (by decide) (by decide)))
theorem Ok.fsz {v j : Int} (h : j = 2 → 0 ≤ v ∧ v ≤ 12) : Ok t (t + 569) j v := by
  refine ⟨fun e => ?_, fun e => ?_, fun e => ?_, fun e => ?_, fun e => ?_, fun e => ?_, fun _ => h, fun e => ?_, fun e => ?_⟩ <;> omega
theorem Ok.fce {v j : Int} (h : 0 ≤ v ∧ v ≤ 9) : Ok t (t + 571) j v := by
  refine ⟨fun e => ?_, fun e => ?_, fun e => ?_, fun e => ?_, fun e => ?_, fun _ _ _ => h, fun e => ?_, fun e => ?_, fun e => ?_⟩ <;> omega
theorem GI.fsz (h : GI ω σ t) : 0 ≤ σ (t + 569) 2 ∧ σ (t + 569) 2 ≤ 12 := (h.ok (t + 569) 2).2.2.2.2.2.2.1 rfl rfl
theorem GI.fce {j : Int} (h : GI ω σ t) (h0 : 0 ≤ j) (h1 : j < 12) : 0 ≤ σ (t + 569 + 2) j ∧ σ (t + 569 + 2) j ≤ 9 := by
  rw [show t + 569 + 2 = t + 571 by omega]
  exact (h.ok (t + 571) j).2.2.2.2.2.1 rfl h0 h1
theorem gfb_lp {P : Mem → Prop} {x k : Int} (hX : DX N Λ t) (hd : 3 ≤ d) (h : ∀ σ', GI ω σ' t → P σ') : ∀ (m : Nat) (i : Int) (σ : Mem), 0 ≤ i → (10 - i).toNat ≤ m → GI ω σ t → WV l mX3_begin d P 23 [(2, t + 569), (1, x), (3, 0), (0, k), (0, i)] [] N Λ σ := by
  have hF := hX.2.2.2.2.2.2.2.2.2.1
  intro m
  induction m with
  | zero => intro i σ g0 g1 hG; exact v_X3_begin_23 hF.1 hF.2.1 (by omega) ⟨fun _ => h _ hG, fun hc => by omega⟩
  | succ m ih =>
    intro i σ g0 g1 hG
    refine v_X3_begin_23 hF.1 hF.2.1 (by omega) ⟨fun _ => h _ hG, fun hc => G_to (by omega) fun v => ⟨Ix.of hF.2.2.2.1 g0 (by omega), fun τ e y4 e4 => ?_⟩⟩
    rw [e4, addI_e (by omega) (by omega)]
    exact ih (i + 1) τ (by omega) (by omega) (hG.sto e (NP.low (by omega) (by omega)).ne (by refine Fre.ok ?_; unfold Fre; omega))
theorem G_fb {P : Mem → Prop} {x k : Int} (hX : DX N Λ t) (hG : GI ω σ t) (hd : 3 ≤ d) (h : ∀ σ', GI ω σ' t → P σ') : CV l mX3_begin d [(2, t + 569), (1, x), (0, k)] N Λ σ P := by
  have hF := hX.2.2.2.2.2.2.2.2.2.1
  refine c_X3_begin (v_X3_begin_0 hF.1 (by omega) (gbi (by omega) fun v v0 v1 τ3 e3 τ4 e4 τ5 e5 => ?_))
  rw [mulI_e (x := 3) (y := v) (by omega) (by omega)] at e3
  have hG5 := ((hG.sto e3 (NP.low (by omega) (by omega)).ne (Ok.fsz fun _ => by omega)).sto e4 (NP.low (by omega) (by omega)).ne (Ok.fsz fun e => absurd e (by decide))).sto e5 (NP.low (by omega) (by omega)).ne (Ok.fsz fun e => absurd e (by decide))
  exact gfb_lp hX hd h 10 0 τ5 (by decide) (by decide) hG5
theorem G_fi (hX : DX N Λ t) : ∀ (m d : Nat) (i : Int) (σ : Mem) (P : Int → Mem → Prop), 0 ≤ i → i + (m : Int) = 12 → m + 1 ≤ d → GI ω σ t → (∀ v σ', GI ω σ' t → P v σ') → CI l mX3_fill d [(2, t + 569), (0, i)] N Λ σ P := by
  have hF := hX.2.2.2.2.2.2.2.2.2.1
  have ixu : ∀ j : Int, 0 ≤ j → j < 10 → Ix N Λ (t + 569 + 1) 0 j := fun j u0 u1 => Ix.of hF.2.2.2.1 u0 u1
  have ixc : ∀ j : Int, 0 ≤ j → j < 12 → Ix N Λ (t + 569 + 2) 0 j := fun j u0 u1 => Ix.of hF.2.2.2.2 u0 u1
  have us : ∀ (σ τ : Mem) (j v : Int), GI ω σ t → τ = st σ (t + 569 + 1) j v → GI ω τ t := fun σ τ j v hG e => hG.sto e (NP.low (by omega) (by omega)).ne (by refine Fre.ok ?_; unfold Fre; omega)
  have en : ∀ (d : Nat) (σ : Mem) (P : Int → Mem → Prop), GI ω σ t → (∀ v σ', GI ω σ' t → P v σ') → (∀ τ4, τ4 = st σ (t + 569) 4 (addI (σ (t + 569) 4) 1) → ((¬ (subI (τ4 (t + 569) 4) 1) = (τ4 (t + 569) 3) → P 0 τ4) ∧ ((subI (τ4 (t + 569) 4) 1) = (τ4 (t + 569) 3) → P 1 τ4))) := fun d σ P hG h τ4 e4 => by
    have hG4 := hG.sto e4 (NP.low (by omega) (by omega)).ne (Ok.fsz fun e => absurd e (by decide))
    exact ⟨fun _ => h _ _ hG4, fun _ => h _ _ hG4⟩
  intro m
  induction m with
  | zero =>
    intro d i σ P g0 g1 hd hG h
    have q := hG.fsz
    exact c_X3_fill (v_X3_fill_0 hF.1 hF.2.2.1 (by omega) ⟨fun hc => by omega, fun _ => en d σ P hG h⟩)
  | succ m ih =>
    intro d i σ P g0 g1 hd hG h
    have q := hG.fsz
    have lp : ∀ (mm : Nat) (x2 x3 y : Int) (σ : Mem), 0 ≤ y → (10 - y).toNat ≤ mm → GI ω σ t → WI l mX3_fill d P 89 [(2, t + 569), (0, i), (0, x2), (0, x3), (0, y)] [] N Λ σ := by
      intro mm
      induction mm with
      | zero => intro x2 x3 y σ y0 y1 hG; exact v_X3_fill_89 hF.1 hF.2.1 hF.2.2.1 (by omega) ⟨fun _ => h _ _ hG, fun hc => by omega⟩
      | succ mm ihh =>
        intro x2 x3 y σ y0 y1 hG
        have nx : ∀ (z : Int) (σ : Mem), ¬ 10 ≤ y → GI ω σ t → z = addI y 1 → WI l mX3_fill d P 89 [(2, t + 569), (0, i), (0, x2), (0, x3), (0, z)] [] N Λ σ := fun z σ hc hG e => by
          rw [e, addI_e (by omega) (by omega)]
          exact ihh x2 x3 (y + 1) σ (by omega) (by omega) hG
        refine v_X3_fill_89 hF.1 hF.2.1 hF.2.2.1 (by omega) ⟨fun _ => h _ _ hG, fun hc => ⟨ixu y y0 (by omega), fun _ z e => nx z σ hc hG e, fun _ => ⟨ixc i g0 (by omega), fun τ2 e2 => ⟨ixu y y0 (by omega), ixu y y0 (by omega), fun τ3 e3 => ?_⟩⟩⟩⟩
        rw [show t + 569 + 2 = t + 571 by omega] at e2
        have hG3 := us _ _ _ _ (hG.sto e2 (NP.low (by omega) (by omega)).ne (Ok.fce ⟨y0, by omega⟩)) e3
        rw [addI_e (x := i) (y := 1) (by omega) (by omega)]
        exact ih (d - 1) (i + 1) τ3 _ (by omega) (by omega) (by omega) hG3 fun v5 σ4 hG4 => ⟨fun _ => ⟨ixu y y0 (by omega), ixu y y0 (by omega), fun τ6 e6 => ⟨fun _ z e => nx z τ6 hc (us _ _ _ _ hG4 e6) e, fun _ => h _ _ (us _ _ _ _ hG4 e6)⟩⟩, fun _ => h _ _ hG4⟩
    refine c_X3_fill (v_X3_fill_0 hF.1 hF.2.2.1 (by omega) ⟨fun hlt => ⟨fun hr => ?_, fun hr => ⟨fun _ => lp 10 _ _ _ σ (by decide) (by decide) hG, fun h3 => ?_⟩⟩, fun _ => en d σ P hG h⟩)
    · have hi1 : 1 ≤ i := by
        rcases Int.lt_or_eq_of_le g0 with g | g
        · omega
        · rw [← g] at hr; exact absurd (by decide) hr
      rw [subI_e (x := i) (y := 1) (by omega) (by omega)]
      refine ⟨ixc _ (by omega) (by omega), fun y1 e1 => ?_⟩
      have b1 := hG.fce (j := i - 1) (by omega) (by omega)
      rw [addI_e (by omega) (by omega)] at e1
      refine ⟨fun _ => lp 10 _ _ _ σ (by omega) (by omega) hG, fun h3 => ?_⟩
      rw [subI_e (x := i) (y := 3) (by omega) (by omega)]
      have b3 := hG.fce (j := i - 3) (by omega) (by omega)
      exact ⟨ixc _ (by omega) (by omega), fun _ y2 e2 => lp 10 _ _ _ σ (by omega) (by omega) hG, fun _ => lp 10 _ _ _ σ (by omega) (by omega) hG⟩
    · rw [subI_e (x := i) (y := 3) (by omega) (by omega)]
      have b3 := hG.fce (j := i - 3) (by omega) (by omega)
      exact ⟨ixc _ (by omega) (by omega), fun _ y3 e3 => lp 10 _ _ _ σ (by omega) (by omega) hG, fun _ => lp 10 _ _ _ σ (by decide) (by decide) hG⟩
theorem G_ca {P : Int → Mem → Prop} {x : Int} (hX : DX N Λ t) (hG : GI ω σ t) (hd : 14 ≤ d) (h : ∀ v σ', GI ω σ' t → P v σ') : CI l mX3_countAll d [(2, t + 569), (1, x)] N Λ σ P := by
  have hF := hX.2.2.2.2.2.2.2.2.2.1
  exact c_X3_countAll (v_X3_countAll_0 hF.1 (by omega) (G_fb hX hG (by omega) fun σ1 hG1 => G_fi hX 12 (d - 1) 0 σ1 _ (by decide) (by decide) (by omega) hG1 fun v3 σ2 hG2 => h _ _ hG2))
theorem G_lo {P : Int → Mem → Prop} {x k i : Int} (hX : DX N Λ t) (hG : GI ω σ t) (hi : 0 ≤ i) (hd : 14 ≤ d) (h : ∀ v σ', GI ω σ' t → P v σ') : CI l mX3_letterOf d [(2, t + 569), (1, x), (0, k), (0, i)] N Λ σ P := by
  have hF := hX.2.2.2.2.2.2.2.2.2.1
  refine c_X3_letterOf (v_X3_letterOf_0 hF.1 hF.2.2.1 (by omega) (G_fb hX hG (by omega) fun σ1 hG1 => ⟨fun _ => h _ _ hG1, fun hc => G_fi hX 12 (d - 1) 0 σ1 _ (by decide) (by decide) (by omega) hG1 fun v3 σ2 hG2 => ⟨fun _ => ⟨Ix.of hF.2.2.2.2 hi ?_, h _ _ hG2⟩, fun _ => h _ _ hG2⟩⟩))
  have q := hG1.fsz
  omega
end GF2
