/-! factors on any object -/
variable {ω : Mem}
def besY (a b c : Int) : Int := orI (orI (shlI 1 a) (shlI 1 b)) (shlI 1 c)
theorem bes0 : ∀ a b c : Fin 6, (0 ≤ mulI 5 (shrI (subI 63 (besY (a.val : Int) (b.val : Int) (c.val : Int))) 1) ∧ mulI 5 (shrI (subI 63 (besY (a.val : Int) (b.val : Int) (c.val : Int))) 1) ≤ 155) ∧ (0 ≤ mulI 5 (shrI (besY (a.val : Int) (b.val : Int) (c.val : Int)) 1) ∧ mulI 5 (shrI (besY (a.val : Int) (b.val : Int) (c.val : Int)) 1) ≤ 155) := by decide +kernel
theorem bes {a b c y : Int} (e : y = orI (orI (shlI 1 a) (shlI 1 b)) (shlI 1 c)) (ha : 0 ≤ a ∧ a ≤ 5) (hb : 0 ≤ b ∧ b ≤ 5) (hc : 0 ≤ c ∧ c ≤ 5) : (∀ w, w = mulI 5 (shrI (subI 63 y) 1) → 0 ≤ w ∧ w ≤ 155) ∧ (∀ w, w = mulI 5 (shrI y 1) → 0 ≤ w ∧ w ≤ 155) := by
  have q := bes0 ⟨a.toNat, by omega⟩ ⟨b.toNat, by omega⟩ ⟨c.toNat, by omega⟩
  have ea : ((a.toNat : Nat) : Int) = a := by omega
  have eb : ((b.toNat : Nat) : Int) = b := by omega
  have ec : ((c.toNat : Nat) : Int) = c := by omega
  simp only [ea, eb, ec] at q
  have ey : y = besY a b c := e
  rw [ey]
  exact ⟨fun w ew => by rw [ew]; exact q.1, fun w ew => by rw [ew]; exact q.2⟩
theorem imB {N : Nat} {Λ : Lay} {σ : Mem} {c : Int} {R : Int → Int → Prop} (ix : ∀ j : Int, 0 ≤ j → j < 6 → Ix N Λ c 0 j) (hr : ∀ j : Int, 0 ≤ j → j < 6 → 0 ≤ σ c j ∧ σ c j ≤ 5) (h : ∀ a b, 0 ≤ a ∧ a ≤ 155 → 0 ≤ b ∧ b ≤ 155 → R a b) : (Ix N Λ c 0 0 ∧ (Ix N Λ c 0 2 ∧ (Ix N Λ c 0 3 ∧ (∀ y11, y11 = (orI (orI (shlI 1 (σ c 0)) (shlI 1 (σ c 2))) (shlI 1 (σ c 3))) → ((¬ (andI y11 1) = 1 → (∀ y12, y12 = (mulI 5 (shrI (subI 63 y11) 1)) → (Ix N Λ c 0 1 ∧ (Ix N Λ c 0 2 ∧ (Ix N Λ c 0 3 ∧ (∀ y13, y13 = (orI (orI (shlI 1 (σ c 1)) (shlI 1 (σ c 2))) (shlI 1 (σ c 3))) → ((¬ (andI y13 1) = 1 → (∀ y14, y14 = (mulI 5 (shrI (subI 63 y13) 1)) → R y12 y14)) ∧ ((andI y13 1) = 1 → (∀ y15, y15 = (mulI 5 (shrI y13 1)) → R y12 y15))))))))) ∧ ((andI y11 1) = 1 → (∀ y16, y16 = (mulI 5 (shrI y11 1)) → (Ix N Λ c 0 1 ∧ (Ix N Λ c 0 2 ∧ (Ix N Λ c 0 3 ∧ (∀ y13, y13 = (orI (orI (shlI 1 (σ c 1)) (shlI 1 (σ c 2))) (shlI 1 (σ c 3))) → ((¬ (andI y13 1) = 1 → (∀ y14, y14 = (mulI 5 (shrI (subI 63 y13) 1)) → R y16 y14)) ∧ ((andI y13 1) = 1 → (∀ y15, y15 = (mulI 5 (shrI y13 1)) → R y16 y15)))))))))))))) := by
  have i0 := ix 0 (by decide) (by decide)
  have i1 := ix 1 (by decide) (by decide)
  have i2 := ix 2 (by decide) (by decide)
  have i3 := ix 3 (by decide) (by decide)
  have r0 := hr 0 (by decide) (by decide)
  have r1 := hr 1 (by decide) (by decide)
  have r2 := hr 2 (by decide) (by decide)
  have r3 := hr 3 (by decide) (by decide)
  exact ⟨i0, i2, i3, fun y11 e11 => ⟨fun _ y12 e12 => ⟨i1, i2, i3, fun y13 e13 => ⟨fun _ y14 e14 => h _ _ ((bes e11 r0 r2 r3).1 _ e12) ((bes e13 r1 r2 r3).1 _ e14), fun _ y14 e14 => h _ _ ((bes e11 r0 r2 r3).1 _ e12) ((bes e13 r1 r2 r3).2 _ e14)⟩⟩, fun _ y12 e12 => ⟨i1, i2, i3, fun y13 e13 => ⟨fun _ y14 e14 => h _ _ ((bes e11 r0 r2 r3).2 _ e12) ((bes e13 r1 r2 r3).1 _ e14), fun _ y14 e14 => h _ _ ((bes e11 r0 r2 r3).2 _ e12) ((bes e13 r1 r2 r3).2 _ e14)⟩⟩⟩⟩
section GFa
variable {l : Launch} {d N : Nat} {Λ : Lay} {σ : Mem} {t : Int}
theorem Ok.frow {v j : Int} (h : 0 ≤ v ∧ v ≤ 5) : Ok t (t + 581 + 2) j v := by
  rw [show t + 581 + 2 = t + 583 by omega]
  refine ⟨fun e => ?_, fun e => ?_, fun e => ?_, fun e => ?_, fun e => ?_, fun e => ?_, fun e => ?_, fun e => ?_, fun _ _ _ => h⟩ <;> omega
theorem GI.frow {j : Int} (h : GI ω σ t) (h0 : 0 ≤ j) (h1 : j < 6) : 0 ≤ σ (t + 581 + 2) j ∧ σ (t + 581 + 2) j ≤ 5 := by
  rw [show t + 581 + 2 = t + 583 by omega]
  exact (h.ok (t + 583) j).2.2.2.2.2.2.2.2 rfl h0 h1
theorem GI.fst {τ : Mem} {c j v : Int} (h : GI ω σ t) (e : τ = st σ c j v) (h0 : t + 581 ≤ c) (h1 : c ≤ t + 586) (h2 : c ≠ t + 583) : GI ω τ t := h.sto e (NP.low (by omega) (by omega)).ne (by refine Fre.ok ?_; unfold Fre; omega)
theorem GI.frs {τ : Mem} {j v : Int} (h : GI ω σ t) (e : τ = st σ (t + 581 + 2) j v) (hv : 0 ≤ v ∧ v ≤ 5) : GI ω τ t := h.sto e (NP.low (by omega) (by omega)).ne (Ok.frow hv)
theorem gtl_lp {P : Int → Mem → Prop} {x : Int} (hX : DX N Λ t) (hd : 3 ≤ d) (h : ∀ v σ', GI ω σ' t → P v σ') : ∀ (m : Nat) (x3 i : Int) (σ : Mem), 0 ≤ x3 → 0 ≤ i → (10 - i).toNat ≤ m → GI ω σ t → WI l mX1_takeLetters d P 15 [(2, t + 581), (1, x), (3, 0), (0, x3), (0, i)] [] N Λ σ := by
  obtain ⟨o, f1, f2, f3, f4, f5, o1, o2, o3, o4, o5⟩ := id hX.2.2.2.2.2.2.2.2.2.2.2.1
  intro m
  induction m with
  | zero => intro x3 i σ a3 g0 g1 hG; exact v_X1_takeLetters_15 o f1 (by omega) ⟨fun _ => ⟨fun _ => h _ _ hG, fun _ => h _ _ hG⟩, fun hc => by omega⟩
  | succ m ih =>
    intro x3 i σ a3 g0 g1 hG
    have nx : ∀ (y3 y : Int) (σ' : Mem), ¬ 10 ≤ i → 0 ≤ y3 → GI ω σ' t → y = addI i 1 → WI l mX1_takeLetters d P 15 [(2, t + 581), (1, x), (3, 0), (0, y3), (0, y)] [] N Λ σ' := fun y3 y σ' hi h3 hG' e => by
      rw [e, addI_e (by omega) (by omega)]
      exact ih y3 (i + 1) σ' h3 (by omega) (by omega) hG'
    refine v_X1_takeLetters_15 o f1 (by omega) ⟨fun _ => ⟨fun _ => h _ _ hG, fun _ => h _ _ hG⟩, fun hc => ⟨fun _ y e => nx _ _ _ hc a3 hG e, fun h6 => G_to (by omega) fun v => ⟨fun _ y e => nx _ _ _ hc a3 hG e, fun _ => ⟨Ix.of o1 a3 (by omega), fun τ5 e5 y6 e6 y7 e7 => ?_⟩⟩⟩⟩
    rw [e6, addI_e (by omega) (by omega)]
    exact nx _ _ _ hc (by omega) (hG.fst e5 (by omega) (by omega) (by omega)) e7
theorem G_tl {P : Int → Mem → Prop} {x : Int} (hX : DX N Λ t) (hG : GI ω σ t) (hd : 3 ≤ d) (h : ∀ v σ', GI ω σ' t → P v σ') : CI l mX1_takeLetters d [(2, t + 581), (1, x)] N Λ σ P :=
  c_X1_takeLetters (v_X1_takeLetters_0 (by omega) (gbi (by omega) fun v _ _ => ⟨fun _ => gtl_lp hX hd h 10 0 0 σ (by decide) (by decide) (by decide) hG, fun _ => h _ _ hG⟩))
theorem gpo_lp {P : Int → Mem → Prop} {x : Int} (hX : DX N Λ t) (h : ∀ v, P v σ) : ∀ (m : Nat) (i : Int), 0 ≤ i → (6 - i).toNat ≤ m → WI l mX1_placeOf d P 2 [(2, t + 581), (0, x), (0, i)] [] N Λ σ := by
  obtain ⟨o, f1, f2, f3, f4, f5, o1, o2, o3, o4, o5⟩ := id hX.2.2.2.2.2.2.2.2.2.2.2.1
  intro m
  induction m with
  | zero => intro i g0 g1; exact v_X1_placeOf_2 o f1 ⟨fun _ => h _, fun hc => by omega⟩
  | succ m ih =>
    intro i g0 g1
    refine v_X1_placeOf_2 o f1 ⟨fun _ => h _, fun hc => ⟨Ix.of o1 g0 (by omega), fun _ y e => ?_, fun _ => h _⟩⟩
    rw [e, addI_e (by omega) (by omega)]
    exact ih (i + 1) (by omega) (by omega)
theorem G_po {P : Int → Mem → Prop} {x : Int} (hX : DX N Λ t) (h : ∀ v, P v σ) : CI l mX1_placeOf d [(2, t + 581), (0, x)] N Λ σ P := c_X1_placeOf (v_X1_placeOf_0 (gpo_lp hX h 6 0 (by decide) (by decide)))
theorem gbp_lp {P : Int → Mem → Prop} {x : Int} (hX : DX N Λ t) (hd : 2 ≤ d) (h : ∀ v, P v σ) : ∀ (m : Nat) (r i : Int), 0 ≤ i → (2 - i).toNat ≤ m → WL l mX1_byPlaces d P 15 [(2, t + 581), (1, x), (3, 0), (1, r), (3, 0), (0, i), (3, 0), (3, 0), (3, 0)] [] N Λ σ := by
  have o := hX.2.2.2.2.2.2.2.2.2.2.2.1.1
  intro m
  induction m with
  | zero => intro r i g0 g1; exact v_X1_byPlaces_15 ⟨fun _ => h _, fun hc => by omega⟩
  | succ m ih =>
    intro r i g0 g1
    refine v_X1_byPlaces_15 ⟨fun _ => h _, fun hc => ?_⟩
    have lp : ∀ (mm : Nat) (b j : Int), 0 ≤ j → (3 - j).toNat ≤ mm → WL l mX1_byPlaces d P 27 [(2, t + 581), (1, x), (3, 0), (1, r), (3, 0), (0, i), (0, b), (0, j), (3, 0)] [] N Λ σ := by
      have en : ∀ b : Int, CL l mX6_with (d - 1) [(1, r), (0, b)] N Λ σ (fun v2 σ1 => (∀ y3, y3 = addI i 1 → WL l mX1_byPlaces d P 15 [(2, t + 581), (1, x), (3, 0), (1, v2), (3, 0), (0, y3), (3, 0), (3, 0), (3, 0)] [] N Λ σ1)) := fun b => g_with fun v y3 e3 => by
        rw [e3, addI_e (by omega) (by omega)]
        exact ih v (i + 1) (by omega) (by omega)
      intro mm
      induction mm with
      | zero => intro b j j0 j1; exact v_X1_byPlaces_27 o hd ⟨fun _ => en b, fun hq => by omega⟩
      | succ mm ihh =>
        intro b j j0 j1
        have nx : ∀ (b' y : Int), ¬ 3 ≤ j → y = addI j 1 → WL l mX1_byPlaces d P 27 [(2, t + 581), (1, x), (3, 0), (1, r), (3, 0), (0, i), (0, b'), (0, y), (3, 0)] [] N Λ σ := fun b' y hj e => by
          rw [e, addI_e (by omega) (by omega)]
          exact ihh b' (j + 1) (by omega) (by omega)
        exact v_X1_byPlaces_27 o hd ⟨fun _ => en b, fun hq y4 _ => ⟨fun _ => G_po hX fun v => ⟨fun _ y7 _ y8 e8 => nx _ _ hq e8, fun _ => h _⟩, fun _ => G_po hX fun v => ⟨fun _ y7 _ y8 e8 => nx _ _ hq e8, fun _ => h _⟩⟩⟩
    exact lp 3 0 0 (by decide) (by decide)
theorem G_bp {P : Int → Mem → Prop} {x : Int} (hX : DX N Λ t) (hd : 2 ≤ d) (h : ∀ v, P v σ) : CL l mX1_byPlaces d [(2, t + 581), (1, x)] N Λ σ P :=
  c_X1_byPlaces (v_X1_byPlaces_0 (by omega) (gbi (by omega) fun v _ _ => ⟨fun _ => gbp_lp hX hd h 2 0 0 (by decide) (by decide), fun _ => h _⟩))
theorem gta_lp {P : Int → Mem → Prop} {a : Int} (hX : DX N Λ t) (pa : PA t a) (hd : 3 ≤ d) (h : ∀ v σ', GI ω σ' t → P v σ') : ∀ (m : Nat) (i : Int) (σ : Mem), 0 ≤ i → (80 - i).toNat ≤ m → GI ω σ t → WI l mX1_takeAsked d P 10 [(2, t + 581), (2, a), (0, i), (3, 0)] [] N Λ σ := by
  have hF := hX.2.2.2.2.2.2.2.2.2.2.2.1
  obtain ⟨o, f1, f2, f3, f4, f5, o1, o2, o3, o4, o5⟩ := id hF
  have lA := hX.pol pa
  intro m
  induction m with
  | zero =>
    intro i σ g0 g1 hG
    have q := (hG.1 a pa).sz
    exact v_X1_takeAsked_10 lA.1 o lA.2.1 f5 lA.2.2.1 (by omega) ⟨fun _ => h _ _ hG, fun hc => by omega⟩
  | succ m ih =>
    intro i σ g0 g1 hG
    have q := (hG.1 a pa).sz
    refine v_X1_takeAsked_10 lA.1 o lA.2.1 f5 lA.2.2.1 (by omega) ⟨fun _ => h _ _ hG, fun hc => ⟨Ix.of lA.2.2.2.1 g0 (by omega), G_bp hX (by omega) fun v2 => g_formOf hF fun v4 b0 b1 => ⟨fun hn => ⟨Ix.of lA.2.2.2.2 g0 (by omega), Ix.of o5 (by omega) b1, fun τ5 e5 y6 e6 => ?_⟩, fun _ => h _ _ hG⟩⟩⟩
    rw [e6, addI_e (by omega) (by omega)]
    exact ih (i + 1) τ5 (by omega) (by omega) (hG.fst e5 (by omega) (by omega) (by omega))
theorem G_ta {P : Int → Mem → Prop} {a : Int} (hX : DX N Λ t) (hG : GI ω σ t) (pa : PA t a) (hd : 3 ≤ d) (h : ∀ v σ', GI ω σ' t → P v σ') : CI l mX1_takeAsked d [(2, t + 581), (2, a)] N Λ σ P := by
  obtain ⟨o, f1, f2, f3, f4, f5, o1, o2, o3, o4, o5⟩ := id hX.2.2.2.2.2.2.2.2.2.2.2.1
  refine c_X1_takeAsked (v_X1_takeAsked_0 o f5 (by omega) (k_fill o5 (by decide) (by decide) ?_))
  exact gta_lp hX pa hd h 80 0 _ (by decide) (by decide) (hG.gen (fun c' => c' = t + 581 + 5) (fun c' hc => filM_ne hc) (fun c' hc => NP.low (by omega) (by omega)) (fun c' j' hc => by refine Fre.ok ?_; unfold Fre; omega))
theorem gim_lp {P : Int → Mem → Prop} {x1 x2 x3 x4 : Int} (hX : DX N Λ t) (hG : GI ω σ t) (a3 : 0 ≤ x3 ∧ x3 ≤ 155) (a4 : 0 ≤ x4 ∧ x4 ≤ 155) (h : ∀ v σ', GI ω σ' t → P v σ') : ∀ (m : Nat) (x5 i : Int), 0 ≤ i → (5 - i).toNat ≤ m → WI l mX1_isMultiple d P 59 [(2, t + 581), (0, x1), (0, x2), (0, x3), (0, x4), (1, x5), (3, 0), (0, i), (3, 0)] [] N Λ σ := by
  obtain ⟨o, f1, f2, f3, f4, f5, o1, o2, o3, o4, o5⟩ := id hX.2.2.2.2.2.2.2.2.2.2.2.1
  have en : ∀ x5 : Int, (∀ τ1, τ1 = st σ (t + 581) 0 (l2iI x5) → (((cmpL x5 0) = 0 → P 0 τ1) ∧ (¬ ((cmpL x5 0) = 0) → ((¬ (cmpL x5 (τ1 (t + 581) 0)) = 0 → P 0 τ1) ∧ ((cmpL x5 (τ1 (t + 581) 0)) = 0 → P 1 τ1))))) := fun x5 τ1 e1 => by
    have hG1 := hG.fst e1 (by omega) (by omega) (by omega)
    exact ⟨fun _ => h _ _ hG1, fun _ => ⟨fun _ => h _ _ hG1, fun _ => h _ _ hG1⟩⟩
  intro m
  induction m with
  | zero => intro x5 i g0 g1; exact v_X1_isMultiple_59 o f4 f5 ⟨fun _ => en x5, fun hc => by omega⟩
  | succ m ih =>
    intro x5 i g0 g1
    have nx : ∀ (x5 y : Int), ¬ 5 ≤ i → y = addI i 1 → WI l mX1_isMultiple d P 59 [(2, t + 581), (0, x1), (0, x2), (0, x3), (0, x4), (1, x5), (3, 0), (0, y), (3, 0)] [] N Λ σ := fun x5 y hi e => by
      rw [e, addI_e (by omega) (by omega)]
      exact ih x5 (i + 1) (by omega) (by omega)
    refine v_X1_isMultiple_59 o f4 f5 ⟨fun _ => en x5, fun hc => ?_⟩
    have ia : Ix N Λ (t + 581 + 5) 0 i := Ix.of o5 g0 (by omega)
    rw [addI_e (x := x3) (y := i) (by omega) (by omega), addI_e (x := x4) (y := i) (by omega) (by omega)]
    exact ⟨Ix.of o4 (by omega) (by omega), Ix.of o4 (by omega) (by omega), fun y2 _ => ⟨fun _ => ⟨ia, fun _ y e => nx _ _ hc e, fun _ => h _ _ hG⟩, fun _ => ⟨fun _ => ⟨ia, fun _ y e => nx _ _ hc e, fun _ => h _ _ hG⟩, fun hn => ⟨ia, hn, fun y5 _ => ⟨fun _ => ⟨ia, fun _ y e => nx _ _ hc e, fun _ => h _ _ hG⟩, fun _ => h _ _ hG⟩⟩⟩⟩⟩
theorem G_im {P : Int → Mem → Prop} (hX : DX N Λ t) (hG : GI ω σ t) (hd : 2 ≤ d) (h : ∀ v σ', GI ω σ' t → P v σ') : CI l mX1_isMultiple d [(2, t + 581)] N Λ σ P := by
  obtain ⟨o, f1, f2, f3, f4, f5, o1, o2, o3, o4, o5⟩ := id hX.2.2.2.2.2.2.2.2.2.2.2.1
  have ix : ∀ j : Int, 0 ≤ j → j < 6 → Ix N Λ (t + 581 + 2) 0 j := fun j u0 u1 => Ix.of o2 u0 u1
  have hr : ∀ j : Int, 0 ≤ j → j < 6 → 0 ≤ σ (t + 581 + 2) j ∧ σ (t + 581 + 2) j ≤ 5 := fun j u0 u1 => hG.frow u0 u1
  have lp : ∀ x1 x2 x3 x4 : Int, 0 ≤ x3 ∧ x3 ≤ 155 → 0 ≤ x4 ∧ x4 ≤ 155 → WI l mX1_isMultiple d P 59 [(2, t + 581), (0, x1), (0, x2), (0, x3), (0, x4), (1, 0), (3, 0), (0, 0), (3, 0)] [] N Λ σ := fun x1 x2 x3 x4 a3 a4 => gim_lp hX hG a3 a4 h 5 0 0 (by decide) (by decide)
  have u : ∀ y5 y10 : Int, _ := fun y5 y10 => imB (R := fun a b => WI l mX1_isMultiple d P 59 [(2, t + 581), (0, y5), (0, y10), (0, a), (0, b), (1, 0), (3, 0), (0, 0), (3, 0)] [] N Λ σ) ix hr (fun a b ha hb => lp y5 y10 a b ha hb)
  have i0 := ix 0 (by decide) (by decide)
  have i1 := ix 1 (by decide) (by decide)
  have i2 := ix 2 (by decide) (by decide)
  have i3 := ix 3 (by decide) (by decide)
  have i4 := ix 4 (by decide) (by decide)
  have i5 := ix 5 (by decide) (by decide)
  exact c_X1_isMultiple (v_X1_isMultiple_0 o f2 hd ⟨i0, i2, i3, g_ord fun _ => ⟨fun _ => ⟨i1, i4, i5, g_ord fun _ => ⟨fun _ y5 _ => ⟨i1, i2, i3, g_ord fun _ => ⟨fun _ => ⟨i0, i4, i5, g_ord fun _ => ⟨fun _ y10 _ => u y5 y10, fun _ y10 _ => u y5 y10⟩⟩, fun _ => ⟨i0, i4, i5, g_ord fun _ => ⟨fun _ y10 _ => u y5 y10, fun _ y10 _ => u y5 y10⟩⟩⟩⟩, fun _ y5 _ => ⟨i1, i2, i3, g_ord fun _ => ⟨fun _ => ⟨i0, i4, i5, g_ord fun _ => ⟨fun _ y10 _ => u y5 y10, fun _ y10 _ => u y5 y10⟩⟩, fun _ => ⟨i0, i4, i5, g_ord fun _ => ⟨fun _ y10 _ => u y5 y10, fun _ y10 _ => u y5 y10⟩⟩⟩⟩⟩⟩, fun _ => ⟨i1, i4, i5, g_ord fun _ => ⟨fun _ y5 _ => ⟨i1, i2, i3, g_ord fun _ => ⟨fun _ => ⟨i0, i4, i5, g_ord fun _ => ⟨fun _ y10 _ => u y5 y10, fun _ y10 _ => u y5 y10⟩⟩, fun _ => ⟨i0, i4, i5, g_ord fun _ => ⟨fun _ y10 _ => u y5 y10, fun _ y10 _ => u y5 y10⟩⟩⟩⟩, fun _ y5 _ => ⟨i1, i2, i3, g_ord fun _ => ⟨fun _ => ⟨i0, i4, i5, g_ord fun _ => ⟨fun _ y10 _ => u y5 y10, fun _ y10 _ => u y5 y10⟩⟩, fun _ => ⟨i0, i4, i5, g_ord fun _ => ⟨fun _ y10 _ => u y5 y10, fun _ y10 _ => u y5 y10⟩⟩⟩⟩⟩⟩⟩⟩)
theorem gsw {Q : Mem → Prop} {i j : Int} (hX : DX N Λ t) (hG : GI ω σ t) (i0 : 0 ≤ i) (i1 : i < 6) (j0 : 0 ≤ j) (j1 : j < 6) (h : ∀ τ, GI ω τ t → Q τ) : (Ix N Λ (t + 581 + 2) 0 i ∧ (∀ y1, y1 = (σ (t + 581 + 2) i) → (Ix N Λ (t + 581 + 2) 0 j ∧ (Ix N Λ (t + 581 + 2) 0 i ∧ (∀ τ2, τ2 = st σ (t + 581 + 2) i (σ (t + 581 + 2) j) → (Ix N Λ (t + 581 + 2) 0 j ∧ (∀ τ3, τ3 = st τ2 (t + 581 + 2) j y1 → Q τ3))))))) := by
  obtain ⟨o, f1, f2, f3, f4, f5, o1, o2, o3, o4, o5⟩ := id hX.2.2.2.2.2.2.2.2.2.2.2.1
  exact ⟨Ix.of o2 i0 i1, fun y1 e1 => ⟨Ix.of o2 j0 j1, Ix.of o2 i0 i1, fun τ2 e2 => ⟨Ix.of o2 j0 j1, fun τ3 e3 => h _ ((hG.frs e2 (hG.frow j0 j1)).frs e3 (by rw [e1]; exact hG.frow i0 i1))⟩⟩⟩
theorem gnr75 {P : Mem → Prop} {x1 x2 : Int} (hX : DX N Λ t) (hd : 1 ≤ d) (h : ∀ σ', GI ω σ' t → P σ') : ∀ (m : Nat) (i j : Int) (σ : Mem), 0 ≤ i → j < 6 → (6 - i).toNat ≤ m → GI ω σ t → WV l mX1_nextRow d P 75 [(2, t + 581), (0, x1), (0, x2), (0, i), (0, j)] [] N Λ σ := by
  obtain ⟨o, f1, f2, f3, f4, f5, o1, o2, o3, o4, o5⟩ := id hX.2.2.2.2.2.2.2.2.2.2.2.1
  intro m
  induction m with
  | zero => intro i j σ i0 j0 g1 hG; exact v_X1_nextRow_75 o f2 hd ⟨fun _ => h _ hG, fun hc => by omega⟩
  | succ m ih =>
    intro i j σ i0 j0 g1 hG
    refine v_X1_nextRow_75 o f2 hd ⟨fun _ => h _ hG, fun hc => gsw (Q := fun τ3 => ∀ y4, y4 = addI i 1 → ∀ y5, y5 = addI j (-1) → WV l mX1_nextRow d P 75 [(2, t + 581), (0, x1), (0, x2), (0, y4), (0, y5)] [] N Λ τ3) hX hG i0 (by omega) (by omega) j0 fun τ hτ y4 e4 y5 e5 => ?_⟩
    rw [e4, e5, addI_e (by omega) (by omega), addI_e (by omega) (by omega)]
    exact ih (i + 1) (j + -1) τ (by omega) (by omega) (by omega) hτ
theorem gnr36 {P : Mem → Prop} {x1 : Int} (hX : DX N Λ t) (hG : GI ω σ t) (hd : 1 ≤ d) (a0 : 0 ≤ x1) (a1 : x1 ≤ 4) (h : ∀ σ', GI ω σ' t → P σ') : ∀ (m : Nat) (j : Int), x1 ≤ j → j < 6 → j.toNat ≤ m → WV l mX1_nextRow d P 36 [(2, t + 581), (0, x1), (0, j), (3, 0), (3, 0)] [] N Λ σ := by
  obtain ⟨o, f1, f2, f3, f4, f5, o1, o2, o3, o4, o5⟩ := id hX.2.2.2.2.2.2.2.2.2.2.2.1
  have sw : ∀ j : Int, x1 ≤ j → j < 6 → (Ix N Λ (t + 581 + 2) 0 x1 ∧ (∀ y1, y1 = (σ (t + 581 + 2) x1) → (Ix N Λ (t + 581 + 2) 0 j ∧ (Ix N Λ (t + 581 + 2) 0 x1 ∧ (∀ τ2, τ2 = st σ (t + 581 + 2) x1 (σ (t + 581 + 2) j) → (Ix N Λ (t + 581 + 2) 0 j ∧ (∀ τ3, τ3 = st τ2 (t + 581 + 2) j y1 → (∀ y4, y4 = (addI x1 1) → WV l mX1_nextRow d P 75 [(2, t + 581), (0, x1), (0, j), (0, y4), (0, 5)] [] N Λ τ3)))))))) := fun j j0 j1 => gsw (Q := fun τ3 => ∀ y4, y4 = (addI x1 1) → WV l mX1_nextRow d P 75 [(2, t + 581), (0, x1), (0, j), (0, y4), (0, 5)] [] N Λ τ3) hX hG a0 (by omega) (by omega) j1 fun τ hτ y4 e4 => by
    rw [e4, addI_e (by omega) (by omega)]
    exact gnr75 hX hd h 6 (x1 + 1) 5 τ (by omega) (by decide) (by omega) hτ
  intro m
  induction m with
  | zero => intro j j0 j1 g1; exact v_X1_nextRow_36 o f2 hd ⟨fun _ => sw j j0 j1, fun hc => by omega⟩
  | succ m ih =>
    intro j j0 j1 g1
    refine v_X1_nextRow_36 o f2 hd ⟨fun _ => sw j j0 j1, fun hc => ⟨Ix.of o2 (by omega) j1, Ix.of o2 a0 (by omega), fun _ => sw j j0 j1, fun _ y9 e9 => ?_⟩⟩
    rw [e9, addI_e (by omega) (by omega)]
    exact ih (j + -1) (by omega) (by omega) (by omega)
theorem gnr2 {P : Mem → Prop} (hX : DX N Λ t) (hG : GI ω σ t) (hd : 1 ≤ d) (h : ∀ σ', GI ω σ' t → P σ') : ∀ (m : Nat) (i : Int), -1 ≤ i → i ≤ 4 → (i + 1).toNat ≤ m → WV l mX1_nextRow d P 2 [(2, t + 581), (0, i), (3, 0), (3, 0), (3, 0)] [] N Λ σ := by
  obtain ⟨o, f1, f2, f3, f4, f5, o1, o2, o3, o4, o5⟩ := id hX.2.2.2.2.2.2.2.2.2.2.2.1
  have en : ∀ i : Int, i ≤ 4 → ((0 ≤ i → WV l mX1_nextRow d P 36 [(2, t + 581), (0, i), (0, 5), (3, 0), (3, 0)] [] N Λ σ) ∧ (¬ (0 ≤ i) → P σ)) := fun i i4 => ⟨fun i0 => gnr36 hX hG hd i0 i4 h 5 5 (by omega) (by decide) (by decide), fun _ => h _ hG⟩
  intro m
  induction m with
  | zero => intro i i0 i1 g1; exact v_X1_nextRow_2 o f2 ⟨fun _ => en i i1, fun hc => by omega⟩
  | succ m ih =>
    intro i i0 i1 g1
    refine v_X1_nextRow_2 o f2 ⟨fun _ => en i i1, fun hc => ?_⟩
    rw [addI_e (x := i) (y := 1) (by omega) (by omega)]
    refine ⟨Ix.of o2 (by omega) (by omega), Ix.of o2 (by omega) (by omega), fun _ => en i i1, fun _ y1 e1 => ?_⟩
    rw [e1, addI_e (by omega) (by omega)]
    exact ih (i + -1) (by omega) (by omega) (by omega)
theorem G_nr {P : Mem → Prop} (hX : DX N Λ t) (hG : GI ω σ t) (hd : 1 ≤ d) (h : ∀ σ', GI ω σ' t → P σ') : CV l mX1_nextRow d [(2, t + 581)] N Λ σ P := c_X1_nextRow (v_X1_nextRow_0 (gnr2 hX hG hd h 5 4 (by decide) (by decide) (by decide)))
theorem gse40 {P : Int → Mem → Prop} {a : Int} (hX : DX N Λ t) (hd : 3 ≤ d) (h : ∀ v σ', GI ω σ' t → P v σ') : ∀ (m : Nat) (i : Int) (σ : Mem), 0 ≤ i → (720 - i).toNat ≤ m → GI ω σ t → WI l mX1_search d P 40 [(2, t + 581), (2, a), (0, i)] [] N Λ σ := by
  have o := hX.2.2.2.2.2.2.2.2.2.2.2.1.1
  intro m
  induction m with
  | zero => intro i σ i0 g1 hG; exact v_X1_search_40 o (by omega) ⟨fun _ => h _ _ hG, fun hc => by omega⟩
  | succ m ih =>
    intro i σ i0 g1 hG
    refine v_X1_search_40 o (by omega) ⟨fun _ => h _ _ hG, fun hc => G_im hX hG (by omega) fun v2 σ1 hG1 => ⟨fun _ => G_nr hX hG1 (by omega) fun σ3 hG3 y4 e4 => ?_, fun _ => h _ _ hG1⟩⟩
    rw [e4, addI_e (by omega) (by omega)]
    exact ih (i + 1) σ3 (by omega) (by omega) hG3
theorem gse19 {P : Int → Mem → Prop} {a : Int} (hX : DX N Λ t) (hd : 3 ≤ d) (h : ∀ v σ', GI ω σ' t → P v σ') : ∀ (m : Nat) (i : Int) (σ : Mem), 0 ≤ i → (6 - i).toNat ≤ m → GI ω σ t → WI l mX1_search d P 19 [(2, t + 581), (2, a), (0, i)] [] N Λ σ := by
  obtain ⟨o, f1, f2, f3, f4, f5, o1, o2, o3, o4, o5⟩ := id hX.2.2.2.2.2.2.2.2.2.2.2.1
  intro m
  induction m with
  | zero => intro i σ i0 g1 hG; exact v_X1_search_19 o f2 ⟨fun _ => gse40 hX hd h 720 0 σ (by decide) (by decide) hG, fun hc => by omega⟩
  | succ m ih =>
    intro i σ i0 g1 hG
    refine v_X1_search_19 o f2 ⟨fun _ => gse40 hX hd h 720 0 σ (by decide) (by decide) hG, fun hc => ⟨Ix.of o2 i0 (by omega), fun τ1 e1 y2 e2 => ?_⟩⟩
    rw [e2, addI_e (by omega) (by omega)]
    exact ih (i + 1) τ1 (by omega) (by omega) (hG.frs e1 (by omega))
theorem G_se {P : Int → Mem → Prop} {a : Int} (hX : DX N Λ t) (hG : GI ω σ t) (pa : PA t a) (hd : 4 ≤ d) (h : ∀ v σ', GI ω σ' t → P v σ') : CI l mX1_search d [(2, t + 581), (2, a)] N Λ σ P :=
  c_X1_search (v_X1_search_0 (hX.pol pa).1 hX.2.2.2.2.2.2.2.2.2.2.2.1.1 (by omega) ⟨fun _ => h _ _ hG, fun _ => G_ta hX hG pa (by omega) fun v2 σ1 hG1 => ⟨fun _ => gse19 hX (by omega) h 6 0 σ1 (by decide) (by decide) hG1, fun _ => h _ _ hG1⟩⟩)
end GFa
