/-! figures on any object -/
variable {ω : Mem}
section GF
variable {l : Launch} {d N : Nat} {Λ : Lay} {σ : Mem} {t : Int}
theorem gtf_lp {P : Int → Mem → Prop} {n : Int} {σ0 : Mem} (hX : DX N Λ t) (hn : 0 ≤ n ∧ n ≤ 300) (hd : 2 ≤ d) (h : ∀ v σ', GI ω σ' t → (∀ c', c' ≠ t + 247 → c' ≠ t + 249 → σ' c' = σ0 c') → P v σ') : ∀ (m : Nat) (o i : Int) (σ : Mem), 0 ≤ i → (n - i).toNat ≤ m → 0 ≤ o ∧ o ≤ 2 → GI ω σ t → (∀ c', c' ≠ t + 247 → c' ≠ t + 249 → σ c' = σ0 c') → WI l mX9_tellsFigure d P 11 [(2, t + 247), (0, n), (0, o), (0, i), (3, 0), (3, 0)] [] N Λ σ := by
  have hT := hX.2.2.2.2.2.2.1
  have ixd : ∀ j : Int, 0 ≤ j → j < 3 → Ix N Λ (t + 247 + 2) 0 j := fun j u0 u1 => Ix.of hT.2.2.2.2.2.1 u0 u1
  have no : ∀ (σ τ1 τ2 : Mem) (k x v : Int), GI ω σ t → (∀ c', c' ≠ t + 247 → c' ≠ t + 249 → σ c' = σ0 c') → τ1 = st σ (t + 247) 2 k → τ2 = st τ1 (t + 247) 3 x → P v τ2 := fun σ τ1 τ2 k x v hG hf e1 e2 => h _ _ (hG.note e1 e2).1 (fun c' u0 u1 => ((hG.note e1 e2).2 c' u0).trans (hf c' u0 u1))
  have k199 : ∀ (σ : Mem) (o i w : Int), GI ω σ t → (∀ c', c' ≠ t + 247 → c' ≠ t + 249 → σ c' = σ0 c') → WI l mX9_tellsFigure d P 199 [(2, t + 247), (0, n), (0, o), (0, i), (3, 0), (3, 0)] [(0, w)] N Λ σ := fun σ o i w hG hf =>
    v_X9_tellsFigure_199 hT.1 (by omega) ⟨fun _ τ1 e1 τ2 e2 => ⟨fun _ => v_X9_tellsFigure_219 ⟨Or.inl rfl, no _ _ _ _ _ _ hG hf e1 e2⟩, fun hc => absurd hc (by decide)⟩, fun _ τ1 e1 τ2 e2 => ⟨fun hc => absurd rfl hc, fun _ => v_X9_tellsFigure_219 ⟨Or.inr rfl, no _ _ _ _ _ _ hG hf e1 e2⟩⟩⟩
  have en : ∀ (σ : Mem) (o i : Int), GI ω σ t → (∀ c', c' ≠ t + 247 → c' ≠ t + 249 → σ c' = σ0 c') → ((¬ o = 0 → WI l mX9_tellsFigure d P 198 [(2, t + 247), (0, n), (0, o), (0, i), (3, 0), (3, 0)] [] N Λ σ) ∧ (o = 0 → (Ix N Λ (t + 247 + 2) 0 0 ∧ ((¬ (σ (t + 247 + 2) 0) = 3 → WI l mX9_tellsFigure d P 198 [(2, t + 247), (0, n), (0, o), (0, i), (3, 0), (3, 0)] [] N Λ σ) ∧ ((σ (t + 247 + 2) 0) = 3 → WI l mX9_tellsFigure d P 199 [(2, t + 247), (0, n), (0, o), (0, i), (3, 0), (3, 0)] [(0, 1)] N Λ σ))))) := fun σ o i hG hf =>
    ⟨fun _ => v_X9_tellsFigure_198 (k199 _ _ _ _ hG hf), fun _ => ⟨ixd 0 (by decide) (by decide), fun _ => v_X9_tellsFigure_198 (k199 _ _ _ _ hG hf), fun _ => k199 _ _ _ _ hG hf⟩⟩
  intro m
  induction m with
  | zero =>
    intro o i σ g0 g1 ho hG hf
    exact v_X9_tellsFigure_11 hT.1 hT.2.2.1 hT.2.1 (by omega) ⟨fun _ => en σ o i hG hf, fun hc => by omega⟩
  | succ m ih =>
    intro o i σ g0 g1 ho hG hf
    refine v_X9_tellsFigure_11 hT.1 hT.2.2.1 hT.2.1 (by omega) ⟨fun _ => en σ o i hG hf, fun hc => ⟨Ix.of hT.2.2.2.2.1 g0 (by omega), fun y1 _ => ?_⟩⟩
    have k174 : ∀ (τ : Mem) (o' x4 x5 : Int), 0 ≤ o' ∧ o' ≤ 2 → GI ω τ t → (∀ c', c' ≠ t + 247 → c' ≠ t + 249 → τ c' = σ0 c') → WI l mX9_tellsFigure d P 174 [(2, t + 247), (0, n), (0, o'), (0, i), (0, x4), (0, x5)] [] N Λ τ := fun τ o' x4 x5 ho' hG' hf' => v_X9_tellsFigure_174 fun y e => by
      rw [e, addI_e (by omega) (by omega)]
      exact ih o' (i + 1) τ (by omega) (by omega) ho' hG' hf'
    have due : ∀ (τ : Mem) (j v : Int), τ = st σ (t + 247 + 2) j v → GI ω τ t ∧ ∀ c', c' ≠ t + 247 → c' ≠ t + 249 → τ c' = σ0 c' := fun τ j v e => ⟨hG.sto e (NP.mid (by omega) (by omega)).ne (by refine Fre.ok ?_; unfold Fre; omega), fun c' u0 u1 => by rw [e, st_ne (by omega)]; exact hf c' u0 u1⟩
    have k167 : ∀ (x4 x5 : Int), WI l mX9_tellsFigure d P 167 [(2, t + 247), (0, n), (0, o), (0, i), (0, x4), (0, x5)] [] N Λ σ := fun x4 x5 => v_X9_tellsFigure_167 hT.1 (by omega) fun τ1 e1 τ2 e2 => ⟨fun _ => no _ _ _ _ _ _ hG hf e1 e2, fun hc => absurd hc (by decide)⟩
    have k130 : ∀ (x4 x5 : Int), WI l mX9_tellsFigure d P 130 [(2, t + 247), (0, n), (0, o), (0, i), (0, x4), (0, x5)] [] N Λ σ := fun x4 x5 => v_X9_tellsFigure_130 hT.1 hT.2.2.1 ⟨fun _ => k167 _ _, fun h0 => ⟨ixd o (by omega) (by omega), fun _ => k167 _ _, fun _ => ⟨fun _ => k167 _ _, fun _ y1 e1 => by
      rw [e1, addI_e (by omega) (by omega)]
      exact ⟨ixd _ (by omega) (by omega), ixd _ (by omega) (by omega), fun τ2 e2 => k174 τ2 _ _ _ (by omega) (due _ _ _ e2).1 (due _ _ _ e2).2⟩⟩⟩⟩
    have k117 : ∀ (x4 x5 : Int), WI l mX9_tellsFigure d P 117 [(2, t + 247), (0, n), (0, o), (0, i), (0, x4), (0, x5)] [] N Λ σ := fun x4 x5 => v_X9_tellsFigure_117 hT.1 hT.2.2.1 ⟨ixd o (by omega) (by omega), ixd o (by omega) (by omega), fun τ1 e1 => k174 τ1 _ _ _ ho (due _ _ _ e1).1 (due _ _ _ e1).2⟩
    have k80 : ∀ (x4 x5 : Int), WI l mX9_tellsFigure d P 80 [(2, t + 247), (0, n), (0, o), (0, i), (0, x4), (0, x5)] [] N Λ σ := fun x4 x5 => v_X9_tellsFigure_80 hT.1 hT.2.2.1 (by omega) ⟨fun _ => ⟨fun _ => k130 _ _, fun h0 => ⟨ixd o (by omega) (by omega), fun _ => k130 _ _, fun _ => ⟨fun _ => k130 _ _, fun _ => k117 _ _⟩⟩⟩, fun _ => ⟨fun _ => k130 _ _, fun _ => ⟨fun _ => k130 _ _, fun _ => k117 _ _⟩⟩⟩
    have k55 : ∀ (x4 x5 : Int), (¬ x5 = 0 → x4 = 40 → o < 2) → WI l mX9_tellsFigure d P 55 [(2, t + 247), (0, n), (0, o), (0, i), (0, x4), (0, x5)] [] N Λ σ := fun x4 x5 hh => v_X9_tellsFigure_55 hT.1 hT.2.2.1 ⟨fun _ => k80 _ _, fun h5 => ⟨fun _ => k80 _ _, fun h4 y1 e1 => by
      have := hh h5 h4
      rw [e1, addI_e (by omega) (by omega)]
      exact ⟨ixd _ (by omega) (by omega), fun τ2 e2 => k174 τ2 _ _ _ (by omega) (due _ _ _ e2).1 (due _ _ _ e2).2⟩⟩⟩
    have pd : ∀ v : Int, ((v = 0 → WI l mX9_tellsFigure d P 55 [(2, t + 247), (0, n), (0, o), (0, i), (0, y1), (0, v)] [] N Λ σ) ∧ (¬ (v = 0) → ((¬ y1 = 40 → WI l mX9_tellsFigure d P 55 [(2, t + 247), (0, n), (0, o), (0, i), (0, y1), (0, v)] [] N Λ σ) ∧ (y1 = 40 → ((o < 2 → WI l mX9_tellsFigure d P 55 [(2, t + 247), (0, n), (0, o), (0, i), (0, y1), (0, v)] [] N Λ σ) ∧ (¬ (o < 2) → (∀ τ4, τ4 = st σ (t + 247) 2 4 → (∀ τ5, τ5 = st τ4 (t + 247) 3 i → ((¬ (4 : Int) = 0 → P 0 τ5) ∧ ((4 : Int) = 0 → P 1 τ5)))))))))) := fun v => ⟨fun hv => k55 _ _ (fun h5 => absurd hv h5), fun _ => ⟨fun h4 => k55 _ _ (fun _ e => absurd e h4), fun _ => ⟨fun h2 => k55 _ _ (fun _ _ => h2), fun _ τ1 e1 τ2 e2 => ⟨fun _ => no _ _ _ _ _ _ hG hf e1 e2, fun hc => absurd hc (by decide)⟩⟩⟩⟩
    refine c_X9_isPointDue (v_X9_isPointDue_0 hT.1 hT.2.2.1 ⟨fun _ => ⟨ixd o (by omega) (by omega), fun _ => pd 0, fun _ => ⟨ixd o (by omega) (by omega), fun _ => pd 0, fun _ => pd 1⟩⟩, fun _ => ⟨ixd 0 (by decide) (by decide), fun _ => pd 0, fun _ => pd 1⟩⟩)
theorem G_tf {P : Int → Mem → Prop} {n : Int} (hX : DX N Λ t) (hG : GI ω σ t) (hn : 0 ≤ n ∧ n ≤ 300) (hd : 2 ≤ d) (h : ∀ v σ', GI ω σ' t → (∀ c', c' ≠ t + 247 → c' ≠ t + 249 → σ' c' = σ c') → P v σ') : CI l mX9_tellsFigure d [(2, t + 247), (0, n)] N Λ σ P := by
  have hT := hX.2.2.2.2.2.2.1
  refine c_X9_tellsFigure (v_X9_tellsFigure_0 hT.1 hT.2.2.1 ⟨Ix.of hT.2.2.2.2.2.1 (by decide) (by decide), fun τ1 e1 => ?_⟩)
  exact gtf_lp hX hn hd h 300 0 0 τ1 (by decide) (by omega) (by decide) (hG.sto e1 (NP.mid (by omega) (by omega)).ne (by refine Fre.ok ?_; unfold Fre; omega)) (fun c' u0 u1 => by rw [e1, st_ne (by omega)])
/-- nothing changes but polynomials and the term of the figures -/
def FrP (σ σ' : Mem) (t : Int) : Prop := ∀ c', NP t c' → c' ≠ t + 268 → σ' c' = σ c'
theorem FrP.rf : FrP σ σ t := fun _ _ _ => rfl
theorem FrP.tr {σ1 σ2 : Mem} (h : FrP σ σ1 t) (h1 : FrP σ1 σ2 t) : FrP σ σ2 t := fun c' g g1 => (h1 c' g g1).trans (h c' g g1)
theorem FrP.pol {σ' : Mem} {a : Int} (pa : PA t a) (h : ∀ c', c' ≠ a → c' ≠ a + 1 → c' ≠ a + 2 → σ' c' = σ c') : FrP σ σ' t := fun c' g _ => by
  have q := g.ne a pa
  exact h c' q.1 q.2.1 q.2.2
theorem FrP.tm {τ : Mem} {j v : Int} (e : τ = st σ (t + 268) j v) : FrP σ τ t := fun c' _ g => by rw [e, st_ne g]
theorem FrP.em {τ : Mem} {a : Int} (pa : PA t a) (e : τ = st σ a 2 0) : FrP σ τ t := FrP.pol pa fun c' g0 _ _ => by rw [e, st_ne g0]
theorem pa4 {s : Int} (h0 : 0 ≤ s) (h1 : s < 4) : PA t (t + 253 + 3 + 3 * s) := Or.inr (Or.inr (Or.inr (Or.inr (Or.inr (Or.inr (Or.inl ⟨s, h0, h1, by omega⟩))))))
theorem px {Q : Int → Prop} {u : Int} (hX : DX N Λ t) (h0 : 0 ≤ u) (h1 : u < 100) (h : ∀ b, PA t b → b = t + 253 + 16 + 3 * u → Q b) : Ix N Λ (t + 253 + 1) 3 u ∧ ∀ b, b = (Λ (t + 253 + 1)).2.2 u → (Ob N Λ b 15 3 ∧ Q b) := by
  have hFi := hX.2.2.2.2.2.2.2.2.1
  have z := hFi.2.2.2 u h0 h1
  refine ⟨Ix.of hFi.2.1.1 h0 h1, fun b e => ?_⟩
  rw [z.1] at e
  subst e
  exact ⟨z.2.1, h _ (Or.inr (Or.inr (Or.inr (Or.inr (Or.inr (Or.inr (Or.inr ⟨u, h0, h1, by omega⟩))))))) rfl⟩
theorem pf {s : Int} (hX : DX N Λ t) (h0 : 0 ≤ s) (h1 : s < 4) : PolyL N Λ (t + 253 + 3 + 3 * s) := hX.2.2.2.2.2.2.2.2.1.2.2.1 s h0 h1
theorem gfe_lp {P : Mem → Prop} {x : Int} {σ0 : Mem} (hX : DX N Λ t) (hx : 0 ≤ x ∧ x ≤ 90) (hd : 1 ≤ d) (h : ∀ σ', GI ω σ' t → FrP σ0 σ' t → P σ') : ∀ (m : Nat) (i : Int) (σ : Mem), 0 ≤ i → (10 - i).toNat ≤ m → GI ω σ t → FrP σ0 σ t → WV l mX2_empty d P 2 [(2, t + 253), (0, x), (0, i)] [] N Λ σ := by
  have hFi := hX.2.2.2.2.2.2.2.2.1.1
  intro m
  induction m with
  | zero => intro i σ g0 g1 hG hf; exact v_X2_empty_2 hFi.1 hFi.2.1 hd ⟨fun _ => h _ hG hf, fun hc => by omega⟩
  | succ m ih =>
    intro i σ g0 g1 hG hf
    refine v_X2_empty_2 hFi.1 hFi.2.1 hd ⟨fun _ => h _ hG hf, fun hc => ?_⟩
    rw [addI_e (x := x) (y := i) (by omega) (by omega)]
    refine px hX (by omega) (by omega) fun b pb _ => c_X5_empty (v_X5_empty_0 (hX.pol pb).1 fun τ e y3 e3 => ?_)
    rw [e3, addI_e (by omega) (by omega)]
    exact ih (i + 1) τ (by omega) (by omega) (hG.emp pb e) (hf.tr (FrP.em pb e))
theorem G_fe {P : Mem → Prop} {x : Int} (hX : DX N Λ t) (hG : GI ω σ t) (hx : 0 ≤ x ∧ x ≤ 90) (hd : 1 ≤ d) (h : ∀ σ', GI ω σ' t → FrP σ σ' t → P σ') : CV l mX2_empty d [(2, t + 253), (0, x)] N Λ σ P := c_X2_empty (v_X2_empty_0 (gfe_lp hX hx hd h 10 0 σ (by decide) (by decide) hG FrP.rf))
theorem G_l3 {P : Int → Mem → Prop} {a x y z : Int} (hX : DX N Λ t) (hG : GI ω σ t) (pa : PA t a) (px' : PA t x) (py : PA t y) (pz : PA t z) (hd : 4 ≤ d) (h : ∀ v σ', GI ω σ' t → FrP σ σ' t → P v σ') : CI l mX2_layTimesThree d [(2, t + 253), (2, a), (2, x), (2, y), (2, z)] N Λ σ P := by
  have hFi := hX.2.2.2.2.2.2.2.2.1
  have p1 : PA t (t + 253 + 3) := by have := pa4 (t := t) (s := 0) (by decide) (by decide); rw [show t + 253 + 3 + 3 * 0 = t + 253 + 3 by omega] at this; exact this
  have p2 : PA t (t + 253 + 6) := by have := pa4 (t := t) (s := 1) (by decide) (by decide); rw [show t + 253 + 3 + 3 * 1 = t + 253 + 6 by omega] at this; exact this
  have tc : TC t (t + 253 + 15) := Or.inr (Or.inr (Or.inr (by omega)))
  have o1 := (hX.pol p1).1
  have o2 := (hX.pol p2).1
  refine c_X2_layTimesThree (v_X2_layTimesThree_0 hFi.1.1 hFi.1.2.2.2.1 o1 hFi.1.2.2.2.2.2.2.2 hFi.2.1.2.2 hFi.1.2.2.2.2.1 o2 (hX.pol px').1 (hX.pol pa).1 (hX.pol pz).1 (hX.pol py).1 (by omega) fun τ1 e1 => ?_)
  have hG1 := hG.emp p1 e1
  have F1 := FrP.em p1 e1
  have sum : ∀ (σ' : Mem), GI ω σ' t → FrP σ σ' t → CI l mX5_laySum (d - 1) [(2, a), (2, t + 253 + 6), (0, 1)] N Λ σ' (fun v8 σ7 => P v8 σ7) := fun σ' hG' hf' => G_laySum hX hG' pa p2 (by omega) fun v σ2 hG2 f2 => h _ _ hG2 (hf'.tr (FrP.pol pa f2))
  have las : ∀ (σ' : Mem), GI ω σ' t → FrP σ σ' t → (∀ τ9, τ9 = st σ' (t + 253 + 6) 2 0 → (CI l mX5_layProduct (d - 1) [(2, t + 253 + 6), (2, t + 253 + 3), (2, z)] N Λ τ9 (fun v11 σ10 => ((¬ v11 = 0 → P v11 σ10) ∧ (v11 = 0 → (CI l mX5_laySum (d - 1) [(2, a), (2, t + 253 + 6), (0, 1)] N Λ σ10 (fun v13 σ12 => P v13 σ12))))))) := fun σ' hG' hf' τ9 e9 => G_layProduct hX (hG'.emp p2 e9) p2 p1 pz (by omega) (by omega) fun v σ2 hG2 f2 => ⟨fun _ => h _ _ hG2 ((hf'.tr (FrP.em p2 e9)).tr (FrP.pol p2 f2)), fun _ => sum _ hG2 ((hf'.tr (FrP.em p2 e9)).tr (FrP.pol p2 f2))⟩
  refine G_lay hX hG1 p1 (hG1.vk tc) (by omega) fun v3 σ2 hG2 f2 τ4 e4 => ?_
  have hG4 := hG2.emp p2 e4
  have F4 := (F1.tr (FrP.pol p1 f2)).tr (FrP.em p2 e4)
  refine G_layProduct hX hG4 p2 p1 px' (by omega) (by omega) fun v6 σ5 hG5 f5 => ?_
  have F5 := F4.tr (FrP.pol p2 f5)
  refine ⟨fun _ => ⟨fun _ => ⟨fun _ => h _ _ hG5 F5, fun _ => sum _ hG5 F5⟩, fun _ => las _ hG5 F5⟩, fun _ τ14 e14 => ?_⟩
  refine G_layProduct hX (hG5.emp p1 e14) p1 p2 py (by omega) (by omega) fun v16 σ15 hG15 f15 => ?_
  have F15 := (F5.tr (FrP.em p1 e14)).tr (FrP.pol p1 f15)
  exact ⟨fun _ => ⟨fun _ => h _ _ hG15 F15, fun _ => sum _ hG15 F15⟩, fun _ => las _ hG15 F15⟩
theorem gmb73 {P : Int → Mem → Prop} {a x2 x3 x4 x6 x7 : Int} {σ0 : Mem} (hX : DX N Λ t) (pa : PA t a) (h2 : 0 ≤ x2 ∧ x2 ≤ 90) (h3 : 0 ≤ x3 ∧ x3 ≤ 90) (h4 : 0 ≤ x4 ∧ x4 ≤ 90) (h6 : 0 ≤ x6 ∧ x6 < 10) (h7 : 0 ≤ x7 ∧ x7 < 10) (hd : 5 ≤ d) (K : ∀ v σ, GI ω σ t → FrP σ0 σ t → WI l mX2_makeBracket d P 38 [(2, t + 253), (2, a), (0, x2), (0, x3), (0, x4), (0, v), (0, x6), (0, x7 + 1), (3, 0)] [] N Λ σ) : ∀ (m : Nat) (v i : Int) (σ : Mem), 0 ≤ i → (10 - i).toNat ≤ m → GI ω σ t → FrP σ0 σ t → WI l mX2_makeBracket d P 73 [(2, t + 253), (2, a), (0, x2), (0, x3), (0, x4), (0, v), (0, x6), (0, x7), (0, i)] [] N Λ σ := by
  have hFi := hX.2.2.2.2.2.2.2.2.1
  have tc : TC t (t + 253 + 15) := Or.inr (Or.inr (Or.inr (by omega)))
  have nk : ∀ (v y : Int) (σ : Mem), GI ω σ t → FrP σ0 σ t → y = addI x7 1 → WI l mX2_makeBracket d P 38 [(2, t + 253), (2, a), (0, x2), (0, x3), (0, x4), (0, v), (0, x6), (0, y), (3, 0)] [] N Λ σ := fun v y σ hG hf e => by
    rw [e, addI_e (by omega) (by omega)]
    exact K v σ hG hf
  intro m
  induction m with
  | zero => intro v i σ g0 g1 hG hf; exact v_X2_makeBracket_73 hFi.1.1 hFi.1.2.1 hFi.1.2.2.2.2.2.2.2 hFi.2.1.2.2 (hX.pol pa).1 (by omega) ⟨fun _ y e => nk _ _ _ hG hf e, fun hc => by omega⟩
  | succ m ih =>
    intro v i σ g0 g1 hG hf
    refine v_X2_makeBracket_73 hFi.1.1 hFi.1.2.1 hFi.1.2.2.2.2.2.2.2 hFi.2.1.2.2 (hX.pol pa).1 (by omega) ⟨fun _ y e => nk _ _ _ hG hf e, fun hc => ⟨fun _ y e => nk _ _ _ hG hf e, fun _ => ?_⟩⟩
    have nx : ∀ (v y : Int) (σ : Mem), GI ω σ t → FrP σ0 σ t → y = addI i 1 → WI l mX2_makeBracket d P 73 [(2, t + 253), (2, a), (0, x2), (0, x3), (0, x4), (0, v), (0, x6), (0, x7), (0, y)] [] N Λ σ := fun v y σ hG hf e => by
      rw [e, addI_e (by omega) (by omega)]
      exact ih v (i + 1) σ (by omega) (by omega) hG hf
    rw [addI_e (x := x4) (y := i) (by omega) (by omega), addI_e (x := x2) (y := x6) (by omega) (by omega), addI_e (x := x3) (y := x7) (by omega) (by omega), row_e (by omega) (by omega) (by omega)]
    refine px hX (by omega) (by omega) fun b3 p3 _ => ⟨fun _ y e => nx _ _ _ hG hf e, fun _ => ⟨fun _ y e => nx _ _ _ hG hf e, fun _ => ⟨fun _ y e => nx _ _ _ hG hf e, fun _ τ7 e7 τ8 e8 => ?_⟩⟩⟩
    rw [show t + 253 + 15 = t + 268 by omega] at e7 e8
    have tc' : TC t (t + 268) := Or.inr (Or.inr (Or.inr rfl))
    have hG8 := (hG.tc tc' e7 (tc'.ok0 VK0)).tc tc' e8 (tc'.ok1 (by decide))
    have F8 := (hf.tr (FrP.tm e7)).tr (FrP.tm e8)
    refine G_attach (m := 0) hFi.2.1.2.2 hG8 tc (NbN_3 (by omega) (by omega) (by omega)) (by omega) (by omega) fun σ9 hG9 f9 => ?_
    have F9 : FrP σ0 σ9 t := F8.tr (fun c' _ g => f9 c' (by omega))
    refine px hX (by omega) (by omega) fun b10 p10 _ => px hX (by omega) (by omega) fun b11 p11 _ => px hX (by omega) (by omega) fun b12 p12 _ => ?_
    exact G_l3 hX hG9 pa p10 p11 p12 (by omega) fun v14 σ13 hG13 f13 y e => nx _ _ _ hG13 (F9.tr f13) e
theorem gmb38 {P : Int → Mem → Prop} {a x2 x3 x4 x6 : Int} {σ0 : Mem} (hX : DX N Λ t) (pa : PA t a) (h2 : 0 ≤ x2 ∧ x2 ≤ 90) (h3 : 0 ≤ x3 ∧ x3 ≤ 90) (h4 : 0 ≤ x4 ∧ x4 ≤ 90) (h6 : 0 ≤ x6 ∧ x6 < 10) (hd : 5 ≤ d) (K : ∀ v σ, GI ω σ t → FrP σ0 σ t → WI l mX2_makeBracket d P 10 [(2, t + 253), (2, a), (0, x2), (0, x3), (0, x4), (0, v), (0, x6 + 1), (3, 0), (3, 0)] [] N Λ σ) : ∀ (m : Nat) (v i : Int) (σ : Mem), 0 ≤ i → (10 - i).toNat ≤ m → GI ω σ t → FrP σ0 σ t → WI l mX2_makeBracket d P 38 [(2, t + 253), (2, a), (0, x2), (0, x3), (0, x4), (0, v), (0, x6), (0, i), (3, 0)] [] N Λ σ := by
  have hFi := hX.2.2.2.2.2.2.2.2.1
  have nk : ∀ (v y : Int) (σ : Mem), GI ω σ t → FrP σ0 σ t → y = addI x6 1 → WI l mX2_makeBracket d P 10 [(2, t + 253), (2, a), (0, x2), (0, x3), (0, x4), (0, v), (0, y), (3, 0), (3, 0)] [] N Λ σ := fun v y σ hG hf e => by
    rw [e, addI_e (by omega) (by omega)]
    exact K v σ hG hf
  intro m
  induction m with
  | zero => intro v i σ g0 g1 hG hf; exact v_X2_makeBracket_38 hFi.1.1 hFi.1.2.1 ⟨fun _ y e => nk _ _ _ hG hf e, fun hc => by omega⟩
  | succ m ih =>
    intro v i σ g0 g1 hG hf
    refine v_X2_makeBracket_38 hFi.1.1 hFi.1.2.1 ⟨fun _ y e => nk _ _ _ hG hf e, fun hc => ?_⟩
    have nx : ∀ (v y : Int) (σ : Mem), GI ω σ t → FrP σ0 σ t → y = addI i 1 → WI l mX2_makeBracket d P 38 [(2, t + 253), (2, a), (0, x2), (0, x3), (0, x4), (0, v), (0, x6), (0, y), (3, 0)] [] N Λ σ := fun v y σ hG hf e => by
      rw [e, addI_e (by omega) (by omega)]
      exact ih v (i + 1) σ (by omega) (by omega) hG hf
    rw [addI_e (x := x3) (y := i) (by omega) (by omega)]
    refine px hX (by omega) (by omega) fun b2 p2 _ => ⟨fun _ y e => nx _ _ _ hG hf e, fun _ => ⟨fun _ => ?_, fun _ y e => nx _ _ _ hG hf e⟩⟩
    exact gmb73 hX pa h2 h3 h4 h6 (by omega) hd (fun v' σ' hG' hf' => ih v' (i + 1) σ' (by omega) (by omega) hG' hf') 10 v 0 σ (by decide) (by decide) hG hf
theorem gmb10 {P : Int → Mem → Prop} {a x2 x3 x4 : Int} {σ0 : Mem} (hX : DX N Λ t) (pa : PA t a) (h2 : 0 ≤ x2 ∧ x2 ≤ 90) (h3 : 0 ≤ x3 ∧ x3 ≤ 90) (h4 : 0 ≤ x4 ∧ x4 ≤ 90) (hd : 5 ≤ d) (h : ∀ v σ', GI ω σ' t → FrP σ0 σ' t → P v σ') : ∀ (m : Nat) (v i : Int) (σ : Mem), 0 ≤ i → (10 - i).toNat ≤ m → GI ω σ t → FrP σ0 σ t → WI l mX2_makeBracket d P 10 [(2, t + 253), (2, a), (0, x2), (0, x3), (0, x4), (0, v), (0, i), (3, 0), (3, 0)] [] N Λ σ := by
  have hFi := hX.2.2.2.2.2.2.2.2.1
  intro m
  induction m with
  | zero => intro v i σ g0 g1 hG hf; exact v_X2_makeBracket_10 hFi.1.1 hFi.1.2.1 ⟨fun _ => h _ _ hG hf, fun hc => by omega⟩
  | succ m ih =>
    intro v i σ g0 g1 hG hf
    refine v_X2_makeBracket_10 hFi.1.1 hFi.1.2.1 ⟨fun _ => h _ _ hG hf, fun hc => ?_⟩
    rw [addI_e (x := x2) (y := i) (by omega) (by omega)]
    refine px hX (by omega) (by omega) fun b2 p2 _ => ⟨fun _ => ?_, fun _ y e => ?_⟩
    · exact gmb38 hX pa h2 h3 h4 (by omega) hd (fun v' σ' hG' hf' => ih v' (i + 1) σ' (by omega) (by omega) hG' hf') 10 v 0 σ (by decide) (by decide) hG hf
    · rw [e, addI_e (by omega) (by omega)]
      exact ih v (i + 1) σ (by omega) (by omega) hG hf
theorem G_mb {P : Int → Mem → Prop} {a x2 x3 x4 : Int} (hX : DX N Λ t) (hG : GI ω σ t) (pa : PA t a) (h2 : 0 ≤ x2 ∧ x2 ≤ 90) (h3 : 0 ≤ x3 ∧ x3 ≤ 90) (h4 : 0 ≤ x4 ∧ x4 ≤ 90) (hd : 5 ≤ d) (h : ∀ v σ', GI ω σ' t → FrP σ σ' t → P v σ') : CI l mX2_makeBracket d [(2, t + 253), (2, a), (0, x2), (0, x3), (0, x4)] N Λ σ P :=
  c_X2_makeBracket (v_X2_makeBracket_0 (hX.pol pa).1 (by omega) fun τ1 e1 => gmb10 hX pa h2 h3 h4 hd h 10 0 0 τ1 (by decide) (by decide) (hG.emp pa e1) (FrP.em pa e1))
end GF
