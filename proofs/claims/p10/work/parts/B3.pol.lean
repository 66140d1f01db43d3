/-! the class's polynomials, terms, straightening on any object -/
variable {ω : Mem}
def FigX (N : Nat) (Λ : Lay) (c : Int) : Prop :=
  (Ob N Λ c 12 9 ∧ (Λ c).2.2 0 = c + 1 ∧ (Λ c).2.2 1 = c + 2 ∧ (Λ c).2.2 4 = c + 3 ∧ (Λ c).2.2 5 = c + 6 ∧ (Λ c).2.2 6 = c + 9 ∧ (Λ c).2.2 7 = c + 12 ∧ (Λ c).2.2 8 = c + 15) ∧
  (Ob N Λ (c + 1) 3 100 ∧ Ob N Λ (c + 2) 0 9 ∧ Ob N Λ (c + 15) 19 2) ∧
  (∀ s : Int, 0 ≤ s → s < 4 → PolyL N Λ (c + 3 + 3 * s)) ∧
  ∀ s : Int, 0 ≤ s → s < 100 → (Λ (c + 1)).2.2 s = c + 16 + 3 * s ∧ PolyL N Λ (c + 16 + 3 * s)
def ElimG (N : Nat) (Λ : Lay) (c : Int) : Prop := Ob N Λ c 10 4 ∧ (Λ c).2.2 0 = c + 1 ∧ (Λ c).2.2 1 = c + 2 ∧ Ob N Λ (c + 1) 1 480 ∧ Ob N Λ (c + 2) 5 6 ∧ (∀ i : Int, 0 ≤ i → i < 6 → ∃ j, 0 ≤ j ∧ j < 6 ∧ (Λ (c + 2)).2.2 i = c + 3 + j) ∧ ∀ i : Int, 0 ≤ i → i < 6 → Ob N Λ (c + 3 + i) 0 480
/-- how the class's object lies -/
def DX (N : Nat) (Λ : Lay) (t : Int) : Prop := Ob N Λ t 20 14 ∧ DeskR Λ t ∧ StateL N Λ (t + 1) ∧ HistL N Λ (t + 23) ∧ (Ob N Λ (t + 245) 4 2 ∧ (Λ (t + 245)).2.2 0 = t + 602 ∧ (Λ (t + 245)).2.2 1 = t + 624) ∧ Ob N Λ (t + 246) 2 2 ∧ TapeL N Λ (t + 247) ∧ StrL N Λ (t + 251) ∧ FigX N Λ (t + 253) ∧ FormsL N Λ (t + 569) ∧ ElimG N Λ (t + 572) ∧ FacL N Λ (t + 581) ∧ Ob N Λ (t + 595) 19 2 ∧ PolyL N Λ (t + 596) ∧ PolyL N Λ (t + 599) ∧ StateL N Λ (t + 602) ∧ StateL N Λ (t + 624)
section GP
variable {l : Launch} {d N : Nat} {Λ : Lay} {σ : Mem} {t : Int}
theorem StateL.pol {c s : Int} (h : StateL N Λ c) (h0 : 0 ≤ s) (h1 : s < 6) : PolyL N Λ (c + 4 + 3 * s) := (h.2.2.2.2.2.2.2 s h0 h1).2
theorem DX.pol {a : Int} (h : DX N Λ t) (pa : PA t a) : PolyL N Λ a := by
  obtain ⟨o, hR, hS, hH, hI, hMd, hT, hSt, hFi, hFo, hE, hFa, hTm, hW, hOt, hS1, hS2⟩ := h
  rcases pa with g | g | ⟨s, g⟩ | ⟨i, s, g⟩ | ⟨s, g⟩ | ⟨s, g⟩ | ⟨s, g⟩ | ⟨s, g⟩
  · rw [g]; exact hW
  · rw [g]; exact hOt
  · rw [g.2.2, show t + 5 + 3 * s = t + 1 + 4 + 3 * s by omega]; exact hS.pol g.1 g.2.1
  · rw [g.2.2.2.2, show t + 29 + 22 * i + 3 * s = t + 23 + 2 + 22 * i + 4 + 3 * s by omega]
    exact (hH.2.2.2 i g.1 g.2.1).2.pol g.2.2.1 g.2.2.2.1
  · rw [g.2.2, show t + 606 + 3 * s = t + 602 + 4 + 3 * s by omega]; exact hS1.pol g.1 g.2.1
  · rw [g.2.2, show t + 628 + 3 * s = t + 624 + 4 + 3 * s by omega]; exact hS2.pol g.1 g.2.1
  · rw [g.2.2, show t + 256 + 3 * s = t + 253 + 3 + 3 * s by omega]; exact hFi.2.2.1 s g.1 g.2.1
  · rw [g.2.2, show t + 269 + 3 * s = t + 253 + 16 + 3 * s by omega]; exact (hFi.2.2.2 s g.1 g.2.1).2
/-- a term is put: whatever comes of it -/
theorem G_lay {P : Int → Mem → Prop} {a key n : Int} (hX : DX N Λ t) (hG : GI ω σ t) (pa : PA t a) (hk : VK key) (hd : 2 ≤ d) (h : ∀ v σ', GI ω σ' t → (∀ c', c' ≠ a → c' ≠ a + 1 → c' ≠ a + 2 → σ' c' = σ c') → P v σ') : CI l mX5_lay d [(2, a), (1, key), (1, n)] N Λ σ P := by
  obtain ⟨ts, q1, q2, q3, q4⟩ := hG.1 a pa
  refine k_lay (hX.pol pa) hd q1 q2 q3 (fun e he => (q4 e he).1) (fun σ' ts' e hp hs => ?_) (fun k _ _ => h _ σ hG (fun _ _ _ _ => rfl))
  have r := putS_ok q3 q2 (fun e he => (q4 e he).1) e
  have hs' : ∀ c', c' ≠ a → c' ≠ a + 1 → c' ≠ a + 2 → σ' c' = σ c' := fun c' g0 g1 g2 => funext fun j => hs c' j g0 g1 g2
  refine h 0 σ' (hG.pol pa ⟨ts', hp, r.2.1, r.1, fun x hx => ⟨r.2.2 x hx, ?_⟩⟩ hs') hs'
  rcases putS_keys e x hx with ⟨g, _⟩ | ⟨y, hy, g, _⟩
  · rw [g]; exact hk
  · rw [← g]; exact (q4 y hy).2
theorem gls_lp {P : Int → Mem → Prop} {a c m0 : Int} {σ0 : Mem} (hX : DX N Λ t) (pa : PA t a) (pc : PA t c) (hd : 3 ≤ d) (h : ∀ v σ', GI ω σ' t → (∀ c', c' ≠ a → c' ≠ a + 1 → c' ≠ a + 2 → σ' c' = σ0 c') → P v σ') : ∀ (m : Nat) (i v : Int) (σ : Mem), 0 ≤ i → (80 - i).toNat ≤ m → GI ω σ t → (∀ c', c' ≠ a → c' ≠ a + 1 → c' ≠ a + 2 → σ c' = σ0 c') → WI l mX5_laySum d P 5 [(2, a), (2, c), (0, m0), (0, v), (0, i)] [] N Λ σ := by
  have lA := hX.pol pa
  have lC := hX.pol pc
  intro m
  induction m with
  | zero =>
    intro i v σ h0 h1 hG hf
    have q := (hG.1 c pc).sz
    exact v_X5_laySum_5 lC.1 lA.1 lC.2.1 lC.2.2.1 (by omega) ⟨fun _ => h _ _ hG hf, fun hc => by omega⟩
  | succ m ih =>
    intro i v σ h0 h1 hG hf
    have q := (hG.1 c pc).sz
    refine v_X5_laySum_5 lC.1 lA.1 lC.2.1 lC.2.2.1 (by omega) ⟨fun _ => h _ _ hG hf, fun hc => ⟨fun _ => h _ _ hG hf, fun _ => ⟨Ix.of lC.2.2.2.1 h0 (by omega), Ix.of lC.2.2.2.2 h0 (by omega), G_lay hX hG pa ((hG.1 c pc).key h0 (by omega)) (by omega) fun v2 σ1 hG1 f1 y3 e3 => ?_⟩⟩⟩
    rw [e3, addI_e (by omega) (by omega)]
    exact ih (i + 1) v2 σ1 (by omega) (by omega) hG1 (fun c' g0 g1 g2 => (f1 c' g0 g1 g2).trans (hf c' g0 g1 g2))
theorem G_laySum {P : Int → Mem → Prop} {a c m0 : Int} (hX : DX N Λ t) (hG : GI ω σ t) (pa : PA t a) (pc : PA t c) (hd : 3 ≤ d) (h : ∀ v σ', GI ω σ' t → (∀ c', c' ≠ a → c' ≠ a + 1 → c' ≠ a + 2 → σ' c' = σ c') → P v σ') : CI l mX5_laySum d [(2, a), (2, c), (0, m0)] N Λ σ P :=
  c_X5_laySum (v_X5_laySum_0 (gls_lp hX pa pc hd h 80 0 0 σ (by decide) (by decide) hG (fun _ _ _ _ => rfl)))
theorem glp21 {P : Int → Mem → Prop} {a c e : Int} {σ0 : Mem} (hX : DX N Λ t) (pa : PA t a) (pc : PA t c) (pe : PA t e) (hca : c ≠ a) (hd : 3 ≤ d) (h : ∀ v σ', GI ω σ' t → (∀ c', c' ≠ a → c' ≠ a + 1 → c' ≠ a + 2 → σ' c' = σ0 c') → P v σ') (x4 : Int) (hx0 : 0 ≤ x4) (hx1 : x4 < σ0 c 2) (hx2 : σ0 c 2 ≤ 80)
    (K : ∀ v σ, GI ω σ t → (∀ c', c' ≠ a → c' ≠ a + 1 → c' ≠ a + 2 → σ c' = σ0 c') → WI l mX5_layProduct d P 5 [(2, a), (2, c), (2, e), (0, v), (0, x4 + 1), (3, 0), (3, 0), (3, 0)] [] N Λ σ) :
    ∀ (m : Nat) (j v : Int) (σ : Mem), 0 ≤ j → (80 - j).toNat ≤ m → GI ω σ t → (∀ c', c' ≠ a → c' ≠ a + 1 → c' ≠ a + 2 → σ c' = σ0 c') → WI l mX5_layProduct d P 21 [(2, a), (2, c), (2, e), (0, v), (0, x4), (0, j), (3, 0), (3, 0)] [] N Λ σ := by
  have lA := hX.pol pa
  have lC := hX.pol pc
  have lE := hX.pol pe
  have hsep := pa.sep pc
  have nx : ∀ (v y : Int) (σ : Mem), GI ω σ t → (∀ c', c' ≠ a → c' ≠ a + 1 → c' ≠ a + 2 → σ c' = σ0 c') → y = addI x4 1 → WI l mX5_layProduct d P 5 [(2, a), (2, c), (2, e), (0, v), (0, y), (3, 0), (3, 0), (3, 0)] [] N Λ σ := fun v y σ hG hf e => by
    rw [e, addI_e (by omega) (by omega)]
    exact K v σ hG hf
  intro m
  induction m with
  | zero =>
    intro j v σ h0 h1 hG hf
    have q := (hG.1 e pe).sz
    exact v_X5_layProduct_21 lE.1 lC.1 lC.2.1 lE.2.1 lA.1 lC.2.2.1 lE.2.2.1 (by omega) ⟨fun _ y1 e1 => nx _ _ σ hG hf e1, fun hc => by omega⟩
  | succ m ih =>
    intro j v σ h0 h1 hG hf
    have q := (hG.1 e pe).sz
    have qc : σ c 2 = σ0 c 2 := by rw [hf c hca (by omega) (by omega)]
    refine v_X5_layProduct_21 lE.1 lC.1 lC.2.1 lE.2.1 lA.1 lC.2.2.1 lE.2.2.1 (by omega) ⟨fun _ y1 e1 => nx _ _ σ hG hf e1, fun hc => ⟨fun _ y2 e2 => nx _ _ σ hG hf e2, fun _ => ⟨Ix.of lC.2.2.2.1 hx0 (by omega), fun y3 e3 => gbi (by omega) fun v5 _ _ => ⟨Ix.of lE.2.2.2.1 h0 (by omega), gbi (by omega) fun v7 _ _ => ⟨fun _ => ⟨Ix.of lE.2.2.2.1 h0 (by omega), ?_⟩, fun _ => h 2 σ hG hf⟩⟩⟩⟩⟩
    refine gjo (by omega) (by rw [e3]; exact (hG.1 c pc).key hx0 (by omega)) ((hG.1 e pe).key h0 (by omega)) fun v9 hv9 => ⟨Ix.of lC.2.2.2.2 hx0 (by omega), Ix.of lE.2.2.2.2 h0 (by omega), G_lay hX hG pa hv9 (by omega) fun v11 σ10 hG10 f10 y12 e12 => ?_⟩
    rw [e12, addI_e (by omega) (by omega)]
    exact ih (j + 1) v11 σ10 (by omega) (by omega) hG10 (fun c' g0 g1 g2 => (f10 c' g0 g1 g2).trans (hf c' g0 g1 g2))
theorem glp5 {P : Int → Mem → Prop} {a c e : Int} {σ0 : Mem} (hX : DX N Λ t) (pa : PA t a) (pc : PA t c) (pe : PA t e) (hca : c ≠ a) (hd : 3 ≤ d) (hz : 0 ≤ σ0 c 2 ∧ σ0 c 2 ≤ 80) (h : ∀ v σ', GI ω σ' t → (∀ c', c' ≠ a → c' ≠ a + 1 → c' ≠ a + 2 → σ' c' = σ0 c') → P v σ') : ∀ (m : Nat) (i v : Int) (σ : Mem), 0 ≤ i → (80 - i).toNat ≤ m → GI ω σ t → (∀ c', c' ≠ a → c' ≠ a + 1 → c' ≠ a + 2 → σ c' = σ0 c') → WI l mX5_layProduct d P 5 [(2, a), (2, c), (2, e), (0, v), (0, i), (3, 0), (3, 0), (3, 0)] [] N Λ σ := by
  have lC := hX.pol pc
  have hsep := pa.sep pc
  intro m
  induction m with
  | zero =>
    intro i v σ h0 h1 hG hf
    have qc : σ c 2 = σ0 c 2 := by rw [hf c hca (by omega) (by omega)]
    exact v_X5_layProduct_5 lC.1 ⟨fun _ => h _ _ hG hf, fun hc => by omega⟩
  | succ m ih =>
    intro i v σ h0 h1 hG hf
    have qc : σ c 2 = σ0 c 2 := by rw [hf c hca (by omega) (by omega)]
    refine v_X5_layProduct_5 lC.1 ⟨fun _ => h _ _ hG hf, fun hc => ⟨fun _ => h _ _ hG hf, fun _ => ?_⟩⟩
    exact glp21 hX pa pc pe hca hd h i h0 (by omega) hz.2 (fun v' σ' hG' hf' => ih (i + 1) v' σ' (by omega) (by omega) hG' hf') 80 0 v σ (by decide) (by decide) hG hf
theorem G_layProduct {P : Int → Mem → Prop} {a c e : Int} (hX : DX N Λ t) (hG : GI ω σ t) (pa : PA t a) (pc : PA t c) (pe : PA t e) (hca : c ≠ a) (hd : 3 ≤ d) (h : ∀ v σ', GI ω σ' t → (∀ c', c' ≠ a → c' ≠ a + 1 → c' ≠ a + 2 → σ' c' = σ c') → P v σ') : CI l mX5_layProduct d [(2, a), (2, c), (2, e)] N Λ σ P :=
  c_X5_layProduct (v_X5_layProduct_0 (glp5 hX pa pc pe hca hd (hG.1 c pc).sz h 80 0 0 σ (by decide) (by decide) hG (fun _ _ _ _ => rfl)))
/-- one polynomial becomes another -/
theorem take_gi {a c : Int} {τ1 τ2 τ3 : Mem} (hG : GI ω σ t) (pa : PA t a) (pc : PA t c) (e1 : τ1 = cpM σ (c + 1) 0 (a + 1) 0 (σ c 2)) (e2 : τ2 = cpM τ1 (c + 2) 0 (a + 2) 0 (σ c 2)) (e3 : τ3 = st τ2 a 2 (σ c 2)) : GI ω τ3 t ∧ (∀ c', c' ≠ a → c' ≠ a + 1 → c' ≠ a + 2 → τ3 c' = σ c') ∧ τ3 a 2 = σ c 2 := by
  have hsep := pa.sep pc
  obtain ⟨ts, q1, q2, q3, q4⟩ := hG.1 c pc
  have hsz := q1.1
  have hs : ∀ c', c' ≠ a → c' ≠ a + 1 → c' ≠ a + 2 → τ3 c' = σ c' := fun c' g0 g1 g2 => by rw [e3, st_ne g0, e2, cpM_ne g2, e1, cpM_ne g1]
  refine ⟨hG.pol pa ⟨ts, ⟨?_, fun i e he => ?_⟩, q2, q3, q4⟩ hs, hs, by rw [e3, st_eq]⟩
  · rw [e3, st_eq]; exact hsz
  · have hi : i < ts.length := (List.getElem?_eq_some_iff.mp he).1
    have g := q1.2 i e he
    have k1 : ∀ j : Int, τ1 (c + 2) j = σ (c + 2) j := fun j => by rw [e1, cpM_ne (by omega)]
    refine ⟨?_, ?_⟩
    · rw [e3, st_ne (by omega), e2, cpM_ne (by omega), e1, cpM_eq, if_pos (by omega), show (0 : Int) + ((i : Int) - 0) = i by omega]
      exact g.1
    · rw [e3, st_ne (by omega), e2, cpM_eq, if_pos (by omega), show (0 : Int) + ((i : Int) - 0) = i by omega, k1]
      exact g.2
theorem G_take {P : Mem → Prop} {a c : Int} (hX : DX N Λ t) (hG : GI ω σ t) (pa : PA t a) (pc : PA t c) (hd : 1 ≤ d) (h : ∀ σ', GI ω σ' t → (∀ c', c' ≠ a → c' ≠ a + 1 → c' ≠ a + 2 → σ' c' = σ c') → P σ') : CV l mX5_take d [(2, a), (2, c)] N Λ σ P := by
  have lA := hX.pol pa
  have lC := hX.pol pc
  have hsep := pa.sep pc
  have q := (hG.1 c pc).sz
  refine c_X5_take (v_X5_take_0 lC.1 lC.2.1 lA.1 lA.2.1 lC.2.2.1 lA.2.2.1 hd ⟨⟨80, 80, lC.2.2.2.1, lA.2.2.2.1, by omega, by omega, by omega, by omega, by omega⟩, fun τ1 e1 => ?_⟩)
  have t1 : τ1 c 2 = σ c 2 := by rw [e1, cpM_ne (by omega)]
  rw [t1]
  refine ⟨⟨80, 80, lC.2.2.2.2, lA.2.2.2.2, by omega, by omega, by omega, by omega, by omega⟩, fun τ2 e2 τ3 e3 => ?_⟩
  have t2 : τ2 c 2 = σ c 2 := by rw [e2, cpM_ne (by omega), t1]
  rw [t2] at e3
  have r := take_gi hG pa pc e1 e2 e3
  exact h τ3 r.1 r.2.1
end GP
