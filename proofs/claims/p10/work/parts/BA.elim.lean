/-! elimination on any object -/
variable {ω : Mem}
section AGR
variable {N : Nat} {Λ Λ' : Lay} {t c : Int}
theorem Ob.agr {k : Nat} {n : Int} (h : Ob N Λ c k n) (e : Λ' c = Λ c) : Ob N Λ' c k n := ⟨h.1, h.2.1, by rw [e]; exact h.2.2.1, by rw [e]; exact h.2.2.2⟩
theorem PolyL.agr (h : PolyL N Λ c) (e0 : Λ' c = Λ c) (e1 : Λ' (c + 1) = Λ (c + 1)) (e2 : Λ' (c + 2) = Λ (c + 2)) : PolyL N Λ' c := ⟨h.1.agr e0, by rw [e0]; exact h.2.1, by rw [e0]; exact h.2.2.1, h.2.2.2.1.agr e1, h.2.2.2.2.agr e2⟩
theorem StateL.agr (h : StateL N Λ c) (e : ∀ c', c ≤ c' → c' < c + 22 → Λ' c' = Λ c') : StateL N Λ' c := by
  have q : ∀ k : Int, 0 ≤ k → k < 22 → Λ' (c + k) = Λ (c + k) := fun k a b => e _ (by omega) (by omega)
  have q0 : Λ' c = Λ c := e c (by omega) (by omega)
  obtain ⟨a1, a2, a3, a4, a5, a6, a7, a8⟩ := h
  exact ⟨a1.agr q0, by rw [q0]; exact a2, by rw [q0]; exact a3, by rw [q0]; exact a4, a5.agr (q 1 (by decide) (by decide)), a6.agr (q 2 (by decide) (by decide)), a7.agr (q 3 (by decide) (by decide)), fun s s0 s1 => ⟨by rw [q 1 (by decide) (by decide)]; exact (a8 s s0 s1).1, (a8 s s0 s1).2.agr (e _ (by omega) (by omega)) (e _ (by omega) (by omega)) (e _ (by omega) (by omega))⟩⟩
theorem HistL.agr (h : HistL N Λ c) (e : ∀ c', c ≤ c' → c' < c + 222 → Λ' c' = Λ c') : HistL N Λ' c := by
  have q0 : Λ' c = Λ c := e c (by omega) (by omega)
  have q1 : Λ' (c + 1) = Λ (c + 1) := e _ (by omega) (by omega)
  obtain ⟨a1, a2, a3, a4⟩ := h
  exact ⟨a1.agr q0, by rw [q0]; exact a2, a3.agr q1, fun i i0 i1 => ⟨by rw [q1]; exact (a4 i i0 i1).1, (a4 i i0 i1).2.agr (fun c' g0 g1 => e _ (by omega) (by omega))⟩⟩
theorem FigX.agr (h : FigX N Λ c) (e : ∀ c', c ≤ c' → c' < c + 316 → Λ' c' = Λ c') : FigX N Λ' c := by
  have q0 : Λ' c = Λ c := e c (by omega) (by omega)
  have q : ∀ k : Int, 0 ≤ k → k < 316 → Λ' (c + k) = Λ (c + k) := fun k a b => e _ (by omega) (by omega)
  obtain ⟨⟨a1, a2, a3, a4, a5, a6, a7, a8⟩, ⟨b1, b2, b3⟩, p4, p5⟩ := h
  refine ⟨⟨a1.agr q0, ?_, ?_, ?_, ?_, ?_, ?_, ?_⟩, ⟨b1.agr (q 1 (by decide) (by decide)), b2.agr (q 2 (by decide) (by decide)), b3.agr (q 15 (by decide) (by decide))⟩, fun s s0 s1 => (p4 s s0 s1).agr (e _ (by omega) (by omega)) (e _ (by omega) (by omega)) (e _ (by omega) (by omega)), fun s s0 s1 => ⟨by rw [q 1 (by decide) (by decide)]; exact (p5 s s0 s1).1, (p5 s s0 s1).2.agr (e _ (by omega) (by omega)) (e _ (by omega) (by omega)) (e _ (by omega) (by omega))⟩⟩
  all_goals rw [q0]; assumption
theorem DX.agr (h : DX N Λ t) (hE : ElimG N Λ' (t + 572)) (e : ∀ c, c ≠ t + 574 → Λ' c = Λ c) : DX N Λ' t := by
  obtain ⟨o, hR, hS, hH, ⟨i1, i2, i3⟩, hMd, ⟨t1, t2, t3, t4, t5, t6, t7⟩, ⟨s1, s2, s3⟩, hFi, ⟨f1, f2, f3, f4, f5⟩, -, ⟨g1, g2, g3, g4, g5, g6, g7, g8, g9, g10, g11⟩, hTm, hW, hOt, hS1, hS2⟩ := h
  have q0 : Λ' t = Λ t := e t (by omega)
  refine ⟨o.agr q0, ?_, hS.agr (fun c' _ _ => e _ (by omega)), hH.agr (fun c' _ _ => e _ (by omega)), ⟨i1.agr (e _ (by omega)), by rw [e _ (by omega)]; exact i2, by rw [e _ (by omega)]; exact i3⟩, hMd.agr (e _ (by omega)), ⟨t1.agr (e _ (by omega)), by rw [e _ (by omega)]; exact t2, by rw [e _ (by omega)]; exact t3, by rw [e _ (by omega)]; exact t4, t5.agr (e _ (by omega)), t6.agr (e _ (by omega)), t7.agr (e _ (by omega))⟩, ⟨s1.agr (e _ (by omega)), by rw [e _ (by omega)]; exact s2, s3.agr (e _ (by omega))⟩, hFi.agr (fun c' _ _ => e _ (by omega)), ⟨f1.agr (e _ (by omega)), by rw [e _ (by omega)]; exact f2, by rw [e _ (by omega)]; exact f3, f4.agr (e _ (by omega)), f5.agr (e _ (by omega))⟩, hE, ⟨g1.agr (e _ (by omega)), by rw [e _ (by omega)]; exact g2, by rw [e _ (by omega)]; exact g3, by rw [e _ (by omega)]; exact g4, by rw [e _ (by omega)]; exact g5, by rw [e _ (by omega)]; exact g6, g7.agr (e _ (by omega)), g8.agr (e _ (by omega)), g9.agr (e _ (by omega)), g10.agr (e _ (by omega)), g11.agr (e _ (by omega))⟩, hTm.agr (e _ (by omega)), hW.agr (e _ (by omega)) (e _ (by omega)) (e _ (by omega)), hOt.agr (e _ (by omega)) (e _ (by omega)) (e _ (by omega)), hS1.agr (fun c' _ _ => e _ (by omega)), hS2.agr (fun c' _ _ => e _ (by omega))⟩
  unfold DeskR at hR ⊢
  rw [q0]
  exact hR
end AGR
section GE
variable {l : Launch} {d N : Nat} {Λ : Lay} {σ : Mem} {t : Int}
theorem Ok.elim {j v : Int} (h2 : j = 2 → 0 ≤ v ∧ v ≤ 480) (h3 : j = 3 → 0 ≤ v ∧ v ≤ 6) : Ok t (t + 572) j v := by
  refine ⟨fun e => ?_, fun e => ?_, fun e => ?_, fun e => ?_, fun e => ?_, fun e => ?_, fun e => ?_, fun _ => ⟨h2, h3⟩, fun e => ?_⟩ <;> omega
theorem GI.wid (h : GI ω σ t) : 0 ≤ σ (t + 572) 2 ∧ σ (t + 572) 2 ≤ 480 := ((h.ok (t + 572) 2).2.2.2.2.2.2.2.1 rfl).1 rfl
theorem GI.hei (h : GI ω σ t) : 0 ≤ σ (t + 572) 3 ∧ σ (t + 572) 3 ≤ 6 := ((h.ok (t + 572) 3).2.2.2.2.2.2.2.1 rfl).2 rfl
theorem GI.own {τ : Mem} {j v : Int} (h : GI ω σ t) (e : τ = st σ t j v) : GI ω τ t := h.sto e (NP.ne (Or.inl (by omega))) (by refine Fre.ok ?_; unfold Fre; omega)
theorem GI.row {τ : Mem} {i j v : Int} (h : GI ω σ t) (h0 : 0 ≤ i) (h1 : i < 6) (e : τ = st σ (t + 572 + 3 + i) j v) : GI ω τ t := h.sto e (NP.low (by omega) (by omega)).ne (by refine Fre.ok ?_; unfold Fre; omega)
theorem gco_lp {P : Int → Mem → Prop} {x : Int} (hX : DX N Λ t) (hG : GI ω σ t) (h : ∀ v σ', GI ω σ' t → 0 ≤ v → σ' (t + 572) 3 = σ (t + 572) 3 → P v σ') : ∀ (m : Nat) (i : Int), 0 ≤ i → (480 - i).toNat ≤ m → WI l mX0_columnOf d P 2 [(2, t + 572), (1, x), (3, 0), (0, i)] [] N Λ σ := by
  obtain ⟨o, f0, f1, oc, oR, refs, inn⟩ := id hX.2.2.2.2.2.2.2.2.2.2.1
  have wd := hG.wid
  have fin : ∀ i : Int, 0 ≤ i → ((¬ i = (σ (t + 572) 2) → P i σ) ∧ (i = (σ (t + 572) 2) → ((480 ≤ (σ (t + 572) 2) → P i σ) ∧ (¬ (480 ≤ (σ (t + 572) 2)) → (Ix N Λ (t + 572 + 1) 1 i ∧ (∀ τ1, τ1 = st σ (t + 572 + 1) i x → (∀ τ2, τ2 = st τ1 (t + 572) 2 (addI (τ1 (t + 572) 2) 1) → P i τ2))))))) := fun i i0 => by
    refine ⟨fun _ => h _ _ hG i0 rfl, fun ei => ⟨fun _ => h _ _ hG i0 rfl, fun hw => ⟨Ix.of oc i0 (by omega), fun τ1 e1 τ2 e2 => ?_⟩⟩⟩
    have g1 : τ1 (t + 572) = σ (t + 572) := by rw [e1, st_ne (by omega)]
    have hG1 : GI ω τ1 t := hG.sto e1 (NP.low (by omega) (by omega)).ne (by refine Fre.ok ?_; unfold Fre; omega)
    rw [g1, addI_e (by omega) (by omega)] at e2
    exact h _ _ (hG1.sto e2 (NP.low (by omega) (by omega)).ne (Ok.elim (fun _ => by omega) (fun e => absurd e (by decide)))) i0 (by rw [e2, st_nj (by decide), g1])
  intro m
  induction m with
  | zero => intro i g0 g1; exact v_X0_columnOf_2 o f0 ⟨fun _ => fin i g0, fun hc => by omega⟩
  | succ m ih =>
    intro i g0 g1
    refine v_X0_columnOf_2 o f0 ⟨fun _ => fin i g0, fun hc => ⟨Ix.of oc g0 (by omega), fun _ => fin i g0, fun _ y5 e5 => ?_⟩⟩
    rw [e5, addI_e (by omega) (by omega)]
    exact ih (i + 1) (by omega) (by omega)
theorem G_co {P : Int → Mem → Prop} {x : Int} (hX : DX N Λ t) (hG : GI ω σ t) (h : ∀ v σ', GI ω σ' t → 0 ≤ v → σ' (t + 572) 3 = σ (t + 572) 3 → P v σ') : CI l mX0_columnOf d [(2, t + 572), (1, x)] N Λ σ P :=
  c_X0_columnOf (v_X0_columnOf_0 (gco_lp hX hG h 480 0 (by decide) (by decide)))
theorem gtr_lp {P : Mem → Prop} {a : Int} (hX : DX N Λ t) (pa : PA t a) (hd : 1 ≤ d) (h : ∀ σ', GI ω σ' t → P σ') : ∀ (m : Nat) (i : Int) (σ : Mem), 0 ≤ i → (80 - i).toNat ≤ m → GI ω σ t → σ (t + 572) 3 < 6 → WV l mX0_takeRow d P 25 [(2, t + 572), (2, a), (0, i), (3, 0)] [] N Λ σ := by
  obtain ⟨o, f0, f1, oc, oR, refs, inn⟩ := id hX.2.2.2.2.2.2.2.2.2.2.1
  have lA := hX.pol pa
  have en : ∀ (σ : Mem), GI ω σ t → σ (t + 572) 3 < 6 → (∀ τ1, τ1 = st σ (t + 572) 3 (addI (σ (t + 572) 3) 1) → P τ1) := fun σ hG h6 τ1 e1 => by
    have hh := hG.hei
    rw [addI_e (by omega) (by omega)] at e1
    exact h _ (hG.sto e1 (NP.low (by omega) (by omega)).ne (Ok.elim (fun e => absurd e (by decide)) (fun _ => by omega)))
  intro m
  induction m with
  | zero =>
    intro i σ g0 g1 hG h6
    have q := (hG.1 a pa).sz
    exact v_X0_takeRow_25 lA.1 o lA.2.1 f1 lA.2.2.1 hd ⟨fun _ => en σ hG h6, fun hc => by omega⟩
  | succ m ih =>
    intro i σ g0 g1 hG h6
    have q := (hG.1 a pa).sz
    have nx : ∀ (y : Int) (σ' : Mem), i < 80 → GI ω σ' t → σ' (t + 572) 3 < 6 → y = addI i 1 → WV l mX0_takeRow d P 25 [(2, t + 572), (2, a), (0, y), (3, 0)] [] N Λ σ' := fun y σ' hi hG' h6' e => by
      rw [e, addI_e (by omega) (by omega)]
      exact ih (i + 1) σ' (by omega) (by omega) hG' h6'
    refine v_X0_takeRow_25 lA.1 o lA.2.1 f1 lA.2.2.1 hd ⟨fun _ => en σ hG h6, fun hc => ⟨Ix.of lA.2.2.2.1 g0 (by omega), G_co hX hG fun v3 σ2 hG2 v0 e3 => ⟨fun _ y4 e4 => nx _ _ (by omega) hG2 (by omega) e4, fun h480 => ?_⟩⟩⟩
    have hh := hG2.hei
    obtain ⟨j, j0, j1, ej⟩ := refs (σ2 (t + 572) 3) hh.1 (by omega)
    refine ⟨Ix.of oR hh.1 (by omega), fun b5 e5 => ?_⟩
    rw [ej] at e5
    subst e5
    have ix : Ix N Λ (t + 572 + 3 + j) 0 v3 := Ix.of (inn j j0 j1) v0 (by omega)
    have af : ∀ (τ : Mem) (w : Int), τ = st σ2 (t + 572 + 3 + j) v3 w → GI ω τ t ∧ τ (t + 572) 3 < 6 := fun τ w e => ⟨hG2.row j0 j1 e, by rw [e, st_ne (by omega)]; omega⟩
    exact ⟨(inn j j0 j1).1, Ix.of lA.2.2.2.2 g0 (by omega), by decide, fun y6 _ => ⟨fun _ => ⟨ix, fun τ7 e7 y8 e8 => nx _ _ (by omega) (af _ _ e7).1 (af _ _ e7).2 e8⟩, fun _ => ⟨fun _ => ⟨ix, fun τ7 e7 y8 e8 => nx _ _ (by omega) (af _ _ e7).1 (af _ _ e7).2 e8⟩, fun _ => ⟨ix, fun τ7 e7 y8 e8 => nx _ _ (by omega) (af _ _ e7).1 (af _ _ e7).2 e8⟩⟩⟩⟩
theorem G_tr {P : Mem → Prop} {a : Int} (hX : DX N Λ t) (hG : GI ω σ t) (pa : PA t a) (hd : 1 ≤ d) (h : ∀ σ', GI ω σ' t → P σ') : CV l mX0_takeRow d [(2, t + 572), (2, a)] N Λ σ P := by
  obtain ⟨o, f0, f1, oc, oR, refs, inn⟩ := id hX.2.2.2.2.2.2.2.2.2.2.1
  have hh := hG.hei
  refine c_X0_takeRow (v_X0_takeRow_0 o f1 hd ⟨fun h6 => ?_, fun _ => h _ hG⟩)
  obtain ⟨j, j0, j1, ej⟩ := refs (σ (t + 572) 3) hh.1 (by omega)
  refine ⟨Ix.of oR hh.1 (by omega), fun b1 e1 => ?_⟩
  rw [ej] at e1
  subst e1
  refine ⟨(inn j j0 j1).1, k_fill (inn j j0 j1) (by decide) (by decide) ?_⟩
  refine gtr_lp hX pa hd h 80 0 _ (by decide) (by decide) (hG.gen (fun c' => c' = t + 572 + 3 + j) (fun c' hc => filM_ne hc) (fun c' hc => NP.low (by omega) (by omega)) (fun c' j' hc => by refine Fre.ok ?_; unfold Fre; omega)) ?_
  rw [filM_ne (by omega)]
  exact h6
theorem gcc_lp {P : Mem → Prop} {x1 x2 x3 x4 x6 : Int} {σ0 : Mem} (hX : DX N Λ t) (a2 : 0 ≤ x2 ∧ x2 < 6) (a3 : 0 ≤ x3 ∧ x3 < 6) (hd : 1 ≤ d) (h : ∀ σ', GI ω σ' t → σ' (t + 572) = σ0 (t + 572) → P σ') : ∀ (m : Nat) (i : Int) (σ : Mem), 0 ≤ i → (480 - i).toNat ≤ m → GI ω σ t → σ (t + 572) = σ0 (t + 572) → WV l mX0_clearColumn d P 25 [(2, t + 572), (0, x1), (0, x2), (0, x3), (1, x4), (3, 0), (1, x6), (3, 0), (0, i)] [] N Λ σ := by
  obtain ⟨o, f0, f1, oc, oR, refs, inn⟩ := id hX.2.2.2.2.2.2.2.2.2.2.1
  intro m
  induction m with
  | zero =>
    intro i σ g0 g1 hG hf
    have q := hG.wid
    exact v_X0_clearColumn_25 o f1 hd ⟨fun _ => h _ hG hf, fun hc => by omega⟩
  | succ m ih =>
    intro i σ g0 g1 hG hf
    have q := hG.wid
    obtain ⟨j, j0, j1, ej⟩ := refs x3 a3.1 a3.2
    obtain ⟨k, k0, k1, ek⟩ := refs x2 a2.1 a2.2
    refine v_X0_clearColumn_25 o f1 hd ⟨fun _ => h _ hG hf, fun hc => ⟨fun _ => h _ hG hf, fun _ => ⟨Ix.of oR a3.1 a3.2, fun b1 e1 => ?_⟩⟩⟩
    rw [ej] at e1
    subst e1
    refine ⟨(inn j j0 j1).1, Ix.of oR a3.1 a3.2, fun b2 e2 => ?_⟩
    rw [ej] at e2
    subst e2
    refine ⟨(inn j j0 j1).1, Ix.of (inn j j0 j1) g0 (by omega), Ix.of oR a2.1 a2.2, fun b3 e3 => ?_⟩
    rw [ek] at e3
    subst e3
    have ix : Ix N Λ (t + 572 + 3 + j) 0 i := Ix.of (inn j j0 j1) g0 (by omega)
    have nx : ∀ (y w : Int) (τ : Mem), τ = st σ (t + 572 + 3 + j) i w → y = addI i 1 → WV l mX0_clearColumn d P 25 [(2, t + 572), (0, x1), (0, x2), (0, x3), (1, x4), (3, 0), (1, x6), (3, 0), (0, y)] [] N Λ τ := fun y w τ e e' => by
      rw [e', addI_e (by omega) (by omega)]
      exact ih (i + 1) τ (by omega) (by omega) (hG.row j0 j1 e) (by rw [e, st_ne (by omega)]; exact hf)
    exact ⟨(inn k k0 k1).1, Ix.of (inn k k0 k1) g0 (by omega), by decide, fun y4 _ => ⟨fun _ => ⟨ix, fun τ e y e' => nx _ _ _ e e'⟩, fun _ => ⟨fun _ => ⟨ix, fun τ e y e' => nx _ _ _ e e'⟩, fun _ => ⟨ix, fun τ e y e' => nx _ _ _ e e'⟩⟩⟩⟩
theorem G_cc {P : Mem → Prop} {x1 x2 x3 : Int} (hX : DX N Λ t) (hG : GI ω σ t) (a1 : 0 ≤ x1 ∧ x1 < 480) (a2 : 0 ≤ x2 ∧ x2 < 6) (a3 : 0 ≤ x3 ∧ x3 < 6) (hd : 1 ≤ d) (h : ∀ σ', GI ω σ' t → σ' (t + 572) = σ (t + 572) → P σ') : CV l mX0_clearColumn d [(2, t + 572), (0, x1), (0, x2), (0, x3)] N Λ σ P := by
  obtain ⟨o, f0, f1, oc, oR, refs, inn⟩ := id hX.2.2.2.2.2.2.2.2.2.2.1
  obtain ⟨j, j0, j1, ej⟩ := refs x3 a3.1 a3.2
  obtain ⟨k, k0, k1, ek⟩ := refs x2 a2.1 a2.2
  refine c_X0_clearColumn (v_X0_clearColumn_0 o f1 ⟨Ix.of oR a3.1 a3.2, fun b1 e1 => ?_⟩)
  rw [ej] at e1
  subst e1
  refine ⟨(inn j j0 j1).1, Ix.of (inn j j0 j1) a1.1 a1.2, fun y2 _ => ⟨Ix.of oR a2.1 a2.2, fun b3 e3 => ?_⟩⟩
  rw [ek] at e3
  subst e3
  exact ⟨(inn k k0 k1).1, Ix.of (inn k k0 k1) a1.1 a1.2, fun y4 _ => gcc_lp hX a2 a3 hd h 480 x1 σ a1.1 (by omega) hG rfl⟩
theorem gir33 {P : Int → Lay → Mem → Prop} {x1 x2 : Int} (hX : DX N Λ t) (a1 : 0 ≤ x1 ∧ x1 < 6) (a2 : 0 ≤ x2 ∧ x2 < 480) (hd : 2 ≤ d) (K : ∀ σ', GI ω σ' t → WX l mX0_independentRows d P 4 [(2, t + 572), (0, x1 + 1), (0, x2 + 1), (3, 0)] [] N Λ σ') : ∀ (m : Nat) (x3 : Int) (σ : Mem), 0 ≤ x3 → (6 - x3).toNat ≤ m → GI ω σ t → WX l mX0_independentRows d P 33 [(2, t + 572), (0, x1), (0, x2), (0, x3)] [] N Λ σ := by
  have hE := hX.2.2.2.2.2.2.2.2.2.2.1
  intro m
  have ex : ∀ (σ : Mem), GI ω σ t → (∀ y1, y1 = addI x1 1 → (∀ y2, y2 = addI x2 1 → WX l mX0_independentRows d P 4 [(2, t + 572), (0, y1), (0, y2), (3, 0)] [] N Λ σ)) := fun σ hG y1 e1 y2 e2 => by
    rw [e1, e2, addI_e (by omega) (by omega), addI_e (by omega) (by omega)]
    exact K σ hG
  induction m with
  | zero =>
    intro x3 σ g0 g1 hG
    have hh := hG.hei
    exact x_X0_independentRows_33 hE.1 (by omega) ⟨fun _ => ex σ hG, fun hc => by omega⟩
  | succ m ih =>
    intro x3 σ g0 g1 hG
    have hh := hG.hei
    refine x_X0_independentRows_33 hE.1 (by omega) ⟨fun _ => ex σ hG, fun hc => G_cc hX hG a2 a1 ⟨g0, by omega⟩ (by omega) fun σ3 hG3 _ y4 e4 => ?_⟩
    rw [e4, addI_e (by omega) (by omega)]
    exact ih (x3 + 1) σ3 (by omega) (by omega) hG3
theorem gir4 {P : Int → Lay → Mem → Prop} {Λ0 : Lay} (hd : 2 ≤ d) (h : ∀ v Λ' σ', DX N Λ' t → (∀ c, c ≠ t + 574 → Λ' c = Λ0 c) → GI ω σ' t → P v Λ' σ') : ∀ (m : Nat) (x1 x2 : Int) (Λ : Lay) (σ : Mem), DX N Λ t → (∀ c, c ≠ t + 574 → Λ c = Λ0 c) → GI ω σ t → 0 ≤ x1 → 0 ≤ x2 → (480 - x2).toNat ≤ m → WX l mX0_independentRows d P 4 [(2, t + 572), (0, x1), (0, x2), (3, 0)] [] N Λ σ := by
  intro m
  induction m with
  | zero =>
    intro x1 x2 Λ σ hX ag hG g1 g2 gm
    have hE := hX.2.2.2.2.2.2.2.2.2.2.1
    have hw := hG.wid
    exact x_X0_independentRows_4 hE.1 (by omega) ⟨fun _ => h _ _ _ hX ag hG, fun hc => by omega⟩
  | succ m ih =>
    intro x1 x2 Λ σ hX ag hG g1 g2 gm
    have hE := hX.2.2.2.2.2.2.2.2.2.2.1
    have hw := hG.wid
    have hh := hG.hei
    refine x_X0_independentRows_4 hE.1 (by omega) ⟨fun _ => h _ _ _ hX ag hG, fun hc => ⟨fun _ => h _ _ _ hX ag hG, fun hr => G_bu g2 (by omega) g1 hh.2 hE ⟨fun _ y3 e3 => ?_, fun hq => absurd rfl hq⟩ (fun Λ' hE' ag' => ⟨fun hq => absurd hq (by decide), fun _ y4 e4 => ?_⟩)⟩⟩
    · rw [e3, addI_e (by omega) (by omega)]
      exact ih x1 (x2 + 1) Λ σ hX ag hG g1 (by omega) (by omega)
    · have ag2 : ∀ c, c ≠ t + 574 → Λ' c = Λ c := fun c hc => ag' c (by omega)
      have hX' : DX N Λ' t := hX.agr hE' ag2
      rw [e4, addI_e (by omega) (by omega)]
      exact gir33 hX' ⟨g1, by omega⟩ ⟨g2, by omega⟩ hd (fun σ' hG' => ih (x1 + 1) (x2 + 1) Λ' σ' hX' (fun c hc => (ag2 c hc).trans (ag c hc)) hG' (by omega) (by omega) (by omega)) 6 (x1 + 1) σ (by omega) (by omega) hG
theorem gsh {Q : Int → Prop} {s : Int} (hX : DX N Λ t) (h0 : 0 ≤ s) (h1 : s < 6) (h : PA t (t + 1 + 4 + 3 * s) → Q (t + 1 + 4 + 3 * s)) : Ix N Λ (t + 1 + 1) 3 s ∧ ∀ b, b = (Λ (t + 1 + 1)).2.2 s → (Ob N Λ b 15 3 ∧ Q b) := by
  have hS := hX.2.2.1
  have r := hS.2.2.2.2.2.2.2 s h0 h1
  refine ⟨Ix.of hS.2.2.2.2.1 h0 h1, fun b eb => ?_⟩
  rw [r.1] at eb
  subst eb
  exact ⟨r.2.1, h (Or.inr (Or.inr (Or.inl ⟨s, h0, h1, by omega⟩)))⟩
theorem paw : PA t (t + 596) := Or.inl rfl
theorem pao : PA t (t + 599) := Or.inr (Or.inl rfl)
theorem pas {s : Int} (h0 : 0 ≤ s) (h1 : s < 6) : PA t (t + 1 + 4 + 3 * s) := Or.inr (Or.inr (Or.inl ⟨s, h0, h1, by omega⟩))
theorem grk_lp {P : Int → Lay → Mem → Prop} {x1 : Int} (hX : DX N Λ t) (hd : 6 ≤ d) (h : ∀ v Λ' σ', DX N Λ' t → (∀ c, c ≠ t + 574 → Λ' c = Λ c) → GI ω σ' t → P v Λ' σ') : ∀ (m : Nat) (i : Int) (σ : Mem), 0 ≤ i → (6 - i).toNat ≤ m → GI ω σ t → WX l mX11_rank d P 27 [(2, t), (0, x1), (0, i), (3, 0)] [] N Λ σ := by
  obtain ⟨o, hR, hS, hH, hI, hMd, hT, hSt, hFi, hFo, hE, hFa, hTm, hW, hOt, hS1, hS2⟩ := id hX
  obtain ⟨r0, r1, r2, r3, r4, r5, r6, r7, r8, r9, r10, r11, r12⟩ := id hR
  have ir : ∀ σ, GI ω σ t → CX l mX0_independentRows (d - 1) [(2, t + 572)] N Λ σ (fun v2 Λ1 σ1 => P v2 Λ1 σ1) := fun σ hG => cx_X0_independentRows (x_X0_independentRows_0 (gir4 (by omega) h 480 0 0 Λ σ hX (fun _ _ => rfl) hG (by decide) (by decide) (by decide)))
  intro m
  induction m with
  | zero =>
    intro i σ g0 g1 hG
    exact x_X11_rank_27 o r8 hE.1 r5 r0 hS.1 hS.2.1 r11 hSt.1 (by omega) ⟨fun _ => ir σ hG, fun hc => by omega⟩
  | succ m ih =>
    intro i σ g0 g1 hG
    have nx : ∀ (y : Int) (σ' : Mem), i < 6 → GI ω σ' t → y = addI i 1 → WX l mX11_rank d P 27 [(2, t), (0, x1), (0, y), (3, 0)] [] N Λ σ' := fun y σ' hi hG' e => by
      rw [e, addI_e (by omega) (by omega)]
      exact ih (i + 1) σ' (by omega) (by omega) hG'
    exact x_X11_rank_27 o r8 hE.1 r5 r0 hS.1 hS.2.1 r11 hSt.1 (by omega) ⟨fun _ => ir σ hG, fun hc => ⟨fun _ y3 e3 => nx _ _ (by omega) hG e3, fun _ => gsh hX g0 (by omega) fun pb => G_str hX hG paw pb (by omega) fun v6 σ5 hG5 _ => ⟨fun _ => G_tr hX hG5 paw (by omega) fun σ7 hG7 y8 e8 => nx _ _ (by omega) hG7 e8, fun _ τ9 e9 => ⟨fun _ => h _ _ _ hX (fun _ _ => rfl) (hG5.own e9), fun _ => h _ _ _ hX (fun _ _ => rfl) (hG5.own e9)⟩⟩⟩⟩
theorem G_rank {P : Int → Lay → Mem → Prop} {x1 : Int} (hX : DX N Λ t) (hG : GI ω σ t) (hd : 6 ≤ d) (h : ∀ v Λ' σ', DX N Λ' t → (∀ c, c ≠ t + 574 → Λ' c = Λ c) → GI ω σ' t → P v Λ' σ') : CX l mX11_rank d [(2, t), (0, x1)] N Λ σ P := by
  have r8 := hX.2.1.2.2.2.2.2.2.2.2.1
  refine cx_X11_rank (x_X11_rank_0 hX.1 r8 hX.2.2.2.2.2.2.2.2.2.2.1.1 (by omega) fun τ1 e1 => ⟨fun _ => h _ _ _ hX (fun _ _ => rfl) (hG.own e1), fun _ => ⟨fun _ τ2 e2 τ3 e3 => ?_, fun _ => h _ _ _ hX (fun _ _ => rfl) (hG.own e1)⟩⟩)
  exact grk_lp hX hd h 6 0 τ3 (by decide) (by decide) (((hG.own e1).sto e2 (NP.low (by omega) (by omega)).ne (Ok.elim (fun _ => by decide) (fun _ => by decide))).sto e3 (NP.low (by omega) (by omega)).ne (Ok.elim (fun _ => by decide) (fun _ => by decide)))
end GE
