/-! states, history on any object -/
variable {ω : Mem}
def SA (t c : Int) : Prop := c = t + 1 ∨ c = t + 602 ∨ c = t + 624 ∨ ∃ i, 0 ≤ i ∧ i < 10 ∧ c = t + 25 + 22 * i
theorem SA.pol {t c s : Int} (h : SA t c) (h0 : 0 ≤ s) (h1 : s < 6) : PA t (c + 4 + 3 * s) := by
  rcases h with h | h | h | ⟨i, i0, i1, h⟩
  · exact Or.inr (Or.inr (Or.inl ⟨s, h0, h1, by omega⟩))
  · exact Or.inr (Or.inr (Or.inr (Or.inr (Or.inl ⟨s, h0, h1, by omega⟩))))
  · exact Or.inr (Or.inr (Or.inr (Or.inr (Or.inr (Or.inl ⟨s, h0, h1, by omega⟩)))))
  · exact Or.inr (Or.inr (Or.inr (Or.inl ⟨i, s, i0, i1, h0, h1, by omega⟩)))
theorem SA.np {t c k : Int} (h : SA t c) (hk : k = 2 ∨ k = 3) : NP t (c + k) := by
  rcases h with h | h | h | ⟨i, i0, i1, h⟩
  · exact Or.inl (by omega)
  · exact Or.inr (Or.inr (Or.inr (Or.inr (Or.inr (Or.inr (Or.inr (Or.inl (by omega))))))))
  · exact Or.inr (Or.inr (Or.inr (Or.inr (Or.inr (Or.inr (Or.inr (Or.inr (by omega))))))))
  · exact Or.inr (Or.inr (Or.inr (Or.inl ⟨i, i0, i1, by omega, by omega⟩)))
theorem SA.fre {t c k : Int} (h : SA t c) (hk : k = 2 ∨ k = 3) : Fre t (c + k) := by
  unfold Fre
  rcases h with h | h | h | ⟨i, i0, i1, h⟩ <;> omega
theorem SA.rg {t c k : Int} (h : SA t c) (hk : k = 2 ∨ k = 3) : t ≤ c + k ∧ c + k < t + 646 ∧ c + k ≠ t + 246 := by
  rcases h with h | h | h | ⟨i, i0, i1, h⟩ <;> omega
theorem fb_ix {f y1 y2 y3 : Int} (h : FB f) (e1 : y1 = andI (shrI f (mulI 4 (subI 2 0))) 15) (e2 : y2 = andI (shrI f (mulI 4 (subI 2 1))) 15) (e3 : y3 = andI (shrI f (mulI 4 (subI 2 2))) 15) : 0 ≤ addI (addI (divI (mulI (mulI y3 (subI y3 1)) (subI y3 2)) 6) (divI (mulI y2 (subI y2 1)) 2)) y1 ∧ addI (addI (divI (mulI (mulI y3 (subI y3 1)) (subI y3 2)) 6) (divI (mulI y2 (subI y2 1)) 2)) y1 < 120 := by
  rcases h with rfl | ⟨r, r1, r2, e⟩
  · rw [e1, e2, e3]
    decide
  · exact brc_ix r1 r2 e e1 e2 e3
theorem fb_let {f : Int} (h : FB f) : (0 ≤ andI (shrI f (mulI 4 (subI 2 0))) 15 ∧ andI (shrI f (mulI 4 (subI 2 0))) 15 < 10) ∧ (0 ≤ andI (shrI f (mulI 4 (subI 2 1))) 15 ∧ andI (shrI f (mulI 4 (subI 2 1))) 15 < 10) ∧ (0 ≤ andI (shrI f (mulI 4 (subI 2 2))) 15 ∧ andI (shrI f (mulI 4 (subI 2 2))) 15 < 10) := by
  obtain ⟨x, y, z, hx, hy, hz, rfl⟩ := h.l
  have q := let_e (x := x) (y := y) (z := z) (by omega) (by omega) (by omega)
  rw [q.1, q.2.1, q.2.2]
  exact ⟨hx, hy, hz⟩
theorem rem10 : ∀ k : Fin 10, 0 ≤ remI (addI (k.val : Int) 1) 10 ∧ remI (addI (k.val : Int) 1) 10 ≤ 9 := by decide +kernel
theorem flm10 : ∀ k : Fin 20, (0 ≤ xorI (subI (k.val : Int) 10) 10 → 0 ≤ remI (subI (k.val : Int) 10) 10 ∧ remI (subI (k.val : Int) 10) 10 ≤ 9) ∧ (¬ 0 ≤ xorI (subI (k.val : Int) 10) 10 → (¬ remI (subI (k.val : Int) 10) 10 = 0 → 0 ≤ addI (remI (subI (k.val : Int) 10) 10) 10 ∧ addI (remI (subI (k.val : Int) 10) 10) 10 ≤ 9)) := by decide +kernel
section GS
variable {l : Launch} {d N : Nat} {Λ : Lay} {σ : Mem} {t : Int}
theorem DX.sta {c : Int} (h : DX N Λ t) (hc : SA t c) : StateL N Λ c := by
  obtain ⟨o, hR, hS, hH, hI, hMd, hT, hSt, hFi, hFo, hE, hFa, hTm, hW, hOt, hS1, hS2⟩ := h
  rcases hc with g | g | g | ⟨i, i0, i1, g⟩
  · rw [g]; exact hS
  · rw [g]; exact hS1
  · rw [g]; exact hS2
  · rw [g, show t + 25 + 22 * i = t + 23 + 2 + 22 * i by omega]; exact (hH.2.2.2 i i0 i1).2
theorem gstk_lp {P : Mem → Prop} {c a : Int} (hX : DX N Λ t) (sc : SA t c) (sa : SA t a) (hd : 2 ≤ d) (h : ∀ σ', GI ω σ' t → P σ') : ∀ (m : Nat) (i : Int) (σ : Mem), 0 ≤ i → (6 - i).toNat ≤ m → GI ω σ t → WV l mX7_take d P 2 [(2, c), (2, a), (0, i)] [] N Λ σ := by
  obtain ⟨o, f0, f1, f2, os, op, of, hp⟩ := hX.sta sc
  obtain ⟨ao, af0, af1, af2, aos, aop, aof, ahp⟩ := hX.sta sa
  have en : ∀ σ, GI ω σ t → (Cp N Λ (a + 2) (c + 2) 0 0 0 30 ∧ (∀ τ1, τ1 = cpM σ (a + 2) 0 (c + 2) 0 30 → (Cp N Λ (a + 3) (c + 3) 0 0 0 120 ∧ (∀ τ2, τ2 = cpM τ1 (a + 3) 0 (c + 3) 0 120 → P τ2)))) := fun σ hG => by
    refine ⟨⟨30, 30, aop, op, by decide, by decide, by decide, by decide, by decide⟩, fun τ1 e1 => ⟨⟨120, 120, aof, of, by decide, by decide, by decide, by decide, by decide⟩, fun τ2 e2 => ?_⟩⟩
    have hG1 : GI ω τ1 t := hG.gen (fun c' => c' = c + 2) (fun c' hc => by rw [e1, cpM_ne hc]) (fun c' hc => by subst hc; exact sc.np (Or.inl rfl)) (fun c' j hc => by subst hc; exact (sc.fre (Or.inl rfl)).ok) (fun c' hc => by subst hc; exact sc.rg (Or.inl rfl))
    exact h _ (hG1.gen (fun c' => c' = c + 3) (fun c' hc => by rw [e2, cpM_ne hc]) (fun c' hc => by subst hc; exact sc.np (Or.inr rfl)) (fun c' j hc => by subst hc; exact (sc.fre (Or.inr rfl)).ok) (fun c' hc => by subst hc; exact sc.rg (Or.inr rfl)))
  intro m
  induction m with
  | zero =>
    intro i σ g0 g1 hG
    exact v_X7_take_2 ao af1 o f1 ⟨op, by decide, by decide⟩ af2 f2 ⟨of, by decide, by decide⟩ f0 af0 (by omega) ⟨fun _ => en σ hG, fun hc => by omega⟩
  | succ m ih =>
    intro i σ g0 g1 hG
    refine v_X7_take_2 ao af1 o f1 ⟨op, by decide, by decide⟩ af2 f2 ⟨of, by decide, by decide⟩ f0 af0 (by omega) ⟨fun _ => en σ hG, fun hc => ⟨Ix.of os g0 (by omega), fun b3 e3 => ?_⟩⟩
    have z1 := hp i g0 (by omega)
    have z2 := ahp i g0 (by omega)
    rw [z1.1] at e3
    subst e3
    refine ⟨z1.2.1, Ix.of aos g0 (by omega), fun b4 e4 => ?_⟩
    rw [z2.1] at e4
    subst e4
    refine ⟨z2.2.1, G_take hX hG (sc.pol g0 (by omega)) (sa.pol g0 (by omega)) (by omega) fun σ5 hG5 _ y6 e6 => ?_⟩
    rw [e6, addI_e (by omega) (by omega)]
    exact ih (i + 1) σ5 (by omega) (by omega) hG5
theorem G_st {P : Mem → Prop} {c a : Int} (hX : DX N Λ t) (hG : GI ω σ t) (sc : SA t c) (sa : SA t a) (hd : 2 ≤ d) (h : ∀ σ', GI ω σ' t → P σ') : CV l mX7_take d [(2, c), (2, a)] N Λ σ P :=
  c_X7_take (v_X7_take_0 (gstk_lp hX sc sa hd h 6 0 σ (by decide) (by decide) hG))
theorem Ok.his {v j : Int} (h0 : j = 0 → 0 ≤ v ∧ v ≤ 10) (h2 : j = 2 → 0 ≤ v ∧ v ≤ 9) : Ok t (t + 23) j v := by
  refine ⟨fun e => ?_, fun e => ?_, fun _ => ⟨h0, h2⟩, fun e => ?_, fun e => ?_, fun e => ?_, fun e => ?_, fun e => ?_, fun e => ?_⟩ <;> omega
theorem GI.hsz (h : GI ω σ t) : 0 ≤ σ (t + 23) 0 ∧ σ (t + 23) 0 ≤ 10 := ((h.ok (t + 23) 0).2.2.1 rfl).1 rfl
theorem GI.hnx (h : GI ω σ t) : 0 ≤ σ (t + 23) 2 ∧ σ (t + 23) 2 ≤ 9 := ((h.ok (t + 23) 2).2.2.1 rfl).2 rfl
theorem NP.his : NP t (t + 23) := Or.inr (Or.inr (Or.inl (by omega)))
theorem GI.his {τ : Mem} {j v : Int} (h : GI ω σ t) (e : τ = st σ (t + 23) j v) (h0 : j = 0 → 0 ≤ v ∧ v ≤ 10) (h2 : j = 2 → 0 ≤ v ∧ v ≤ 9) : GI ω τ t := h.sto e NP.his.ne (Ok.his h0 h2)
theorem sa_k {i : Int} (h0 : 0 ≤ i) (h1 : i < 10) : SA t (t + 23 + 2 + 22 * i) := Or.inr (Or.inr (Or.inr ⟨i, h0, h1, by omega⟩))
theorem sa_n : SA t (t + 1) := Or.inl rfl
theorem G_hk {P : Mem → Prop} (hX : DX N Λ t) (hG : GI ω σ t) (hd : 3 ≤ d) (h : ∀ σ', GI ω σ' t → P σ') : CV l mX4_keep d [(2, t + 23), (2, t + 1)] N Λ σ P := by
  obtain ⟨ho, hf, hk, hks⟩ := id hX.2.2.2.1
  have q := hG.hnx
  have z := hks _ q.1 (by omega)
  refine c_X4_keep (v_X4_keep_0 ho hf (hX.sta sa_n).1 (by omega) ⟨Ix.of hk q.1 (by omega), fun b1 e1 => ?_⟩)
  rw [z.1] at e1
  subst e1
  refine ⟨z.2.1, G_st hX hG (sa_k q.1 (by omega)) sa_n (by omega) fun σ2 hG2 τ3 e3 => ?_⟩
  have q2 := hG2.hnx
  have r := rem10 ⟨(σ2 (t + 23) 2).toNat, by omega⟩
  have er : (((σ2 (t + 23) 2).toNat : Nat) : Int) = σ2 (t + 23) 2 := by omega
  simp only [er] at r
  have hG3 := hG2.his e3 (fun e => absurd e (by decide)) (fun _ => r)
  have s3 := hG3.hsz
  rw [addI_e (x := τ3 (t + 23) 0) (y := 1) (by omega) (by omega)]
  exact ⟨fun _ τ4 e4 => h _ (hG3.his e4 (fun _ => by decide) (fun e => absurd e (by decide))), fun hn τ5 e5 => h _ (hG3.his e5 (fun _ => by omega) (fun e => absurd e (by decide)))⟩
theorem G_gb {P : Mem → Prop} {n : Int} (hX : DX N Λ t) (hG : GI ω σ t) (h0 : 1 ≤ n) (h1 : n ≤ σ (t + 23) 0) (hd : 3 ≤ d) (h : ∀ σ', GI ω σ' t → P σ') : CV l mX4_goBack d [(2, t + 23), (0, n), (2, t + 1)] N Λ σ P := by
  obtain ⟨ho, hf, hk, hks⟩ := id hX.2.2.2.1
  have q := hG.hnx
  have s := hG.hsz
  have r := flm10 ⟨(σ (t + 23) 2 - n + 10).toNat, by omega⟩
  have er : (((σ (t + 23) 2 - n + 10).toNat : Nat) : Int) = σ (t + 23) 2 - n + 10 := by omega
  simp only [er] at r
  rw [subI_e (x := σ (t + 23) 2 - n + 10) (y := 10) (by omega) (by omega), show σ (t + 23) 2 - n + 10 - 10 = σ (t + 23) 2 - n by omega] at r
  have go : ∀ (v : Int), 0 ≤ v ∧ v ≤ 9 → (∀ τ2, τ2 = st σ (t + 23) 2 v → (∀ τ3, τ3 = st τ2 (t + 23) 0 (subI (τ2 (t + 23) 0) n) → (Ix N Λ (t + 23 + 1) 4 (τ3 (t + 23) 2) ∧ (∀ b4, b4 = (Λ (t + 23 + 1)).2.2 (τ3 (t + 23) 2) → (Ob N Λ b4 16 3 ∧ (CV l mX7_take (d - 1) [(2, t + 1), (2, b4)] N Λ τ3 (fun σ5 => P σ5))))))) := fun v hv τ2 e2 τ3 e3 => by
    have hG2 := hG.his e2 (fun e => absurd e (by decide)) (fun _ => hv)
    have t2 : τ2 (t + 23) 0 = σ (t + 23) 0 := by rw [e2, st_nj (by decide)]
    rw [t2, subI_e (by omega) (by omega)] at e3
    have hG3 := hG2.his e3 (fun _ => by omega) (fun e => absurd e (by decide))
    have q3 := hG3.hnx
    have z := hks _ q3.1 (by omega)
    refine ⟨Ix.of hk q3.1 (by omega), fun b4 e4 => ?_⟩
    rw [z.1] at e4
    subst e4
    exact ⟨z.2.1, G_st hX hG3 sa_n (sa_k q3.1 (by omega)) (by omega) h⟩
  refine c_X4_goBack (v_X4_goBack_0 ho (hX.sta sa_n).1 hf (by omega) ?_)
  rw [subI_e (x := σ (t + 23) 2) (y := n) (by omega) (by omega)]
  refine ⟨by decide, fun y1 e1 => ?_⟩
  subst e1
  refine ⟨fun hx => go _ (r.1 hx), fun hx => ⟨fun hz => go _ (by rw [hz]; decide), fun hz => go _ (r.2 hx hz)⟩⟩
theorem gat_lp {P : Int → Mem → Prop} (hX : DX N Λ t) (h : ∀ v, P v σ) : ∀ (m : Nat) (v i : Int), 0 ≤ i → (6 - i).toNat ≤ m → WI l mX7_allTerms d P 4 [(2, t + 1), (0, v), (0, i)] [] N Λ σ := by
  have hS := hX.2.2.1
  intro m
  induction m with
  | zero => intro v i g0 g1; exact v_X7_allTerms_4 hS.1 hS.2.1 ⟨fun _ => h _, fun hc => by omega⟩
  | succ m ih =>
    intro v i g0 g1
    refine v_X7_allTerms_4 hS.1 hS.2.1 ⟨fun _ => h _, fun hc => gsh (Q := fun b1 => ∀ y2, y2 = (addI v (σ b1 2)) → (∀ y3, y3 = addI i 1 → WI l mX7_allTerms d P 4 [(2, t + 1), (0, y2), (0, y3)] [] N Λ σ)) hX g0 (by omega) fun _ y2 _ y3 e3 => ?_⟩
    rw [e3, addI_e (by omega) (by omega)]
    exact ih y2 (i + 1) (by omega) (by omega)
theorem G_at {P : Int → Mem → Prop} (hX : DX N Λ t) (h : ∀ v, P v σ) : CI l mX7_allTerms d [(2, t + 1)] N Λ σ P := c_X7_allTerms (v_X7_allTerms_0 (gat_lp hX h 6 0 0 (by decide) (by decide)))
theorem gfa_lp {P : Int → Mem → Prop} {x : Int} (hX : DX N Λ t) (h : ∀ v, P v σ) : ∀ (m : Nat) (v i : Int), 0 ≤ i → (120 - i).toNat ≤ m → WI l mX7_factsThatAre d P 4 [(2, t + 1), (0, x), (0, v), (0, i)] [] N Λ σ := by
  obtain ⟨o, f0, f1, f2, os, op, of, hp⟩ := id hX.2.2.1
  intro m
  induction m with
  | zero => intro v i g0 g1; exact v_X7_factsThatAre_4 o f2 ⟨fun _ => h _, fun hc => by omega⟩
  | succ m ih =>
    intro v i g0 g1
    have nx : ∀ (v y : Int), ¬ 120 ≤ i → y = addI i 1 → WI l mX7_factsThatAre d P 4 [(2, t + 1), (0, x), (0, v), (0, y)] [] N Λ σ := fun v y hi e => by
      rw [e, addI_e (by omega) (by omega)]
      exact ih v (i + 1) (by omega) (by omega)
    exact v_X7_factsThatAre_4 o f2 ⟨fun _ => h _, fun hc => ⟨Ix.of of g0 (by omega), fun _ y e => nx _ _ hc e, fun _ y2 _ y3 e3 => nx _ _ hc e3⟩⟩
theorem G_fta {P : Int → Mem → Prop} {x : Int} (hX : DX N Λ t) (h : ∀ v, P v σ) : CI l mX7_factsThatAre d [(2, t + 1), (0, x)] N Λ σ P := c_X7_factsThatAre (v_X7_factsThatAre_0 (gfa_lp hX h 120 0 0 (by decide) (by decide)))
theorem gbt_lp {P : Int → Mem → Prop} {x x3 x5 : Int} (hX : DX N Λ t) (hx : VK x) (h5 : x5 ≤ 4) (hd : 3 ≤ d) (h : ∀ v, P v σ) : ∀ (m : Nat) (v i : Int), 0 ≤ i → (4 - i).toNat ≤ m → WI l mX7_bracketsThatAre d P 12 [(2, t + 1), (1, x), (3, 0), (0, x3), (0, v), (0, x5), (0, i)] [] N Λ σ := by
  obtain ⟨o, f0, f1, f2, os, op, of, hp⟩ := id hX.2.2.1
  intro m
  induction m with
  | zero => intro v i g0 g1; exact v_X7_bracketsThatAre_12 o f2 hd ⟨fun _ => h _, fun hc => by omega⟩
  | succ m ih =>
    intro v i g0 g1
    have nx : ∀ (v y : Int), i < 4 → y = addI i 1 → WI l mX7_bracketsThatAre d P 12 [(2, t + 1), (1, x), (3, 0), (0, x3), (0, v), (0, x5), (0, y)] [] N Λ σ := fun v y hi e => by
      rw [e, addI_e (by omega) (by omega)]
      exact ih v (i + 1) (by omega) (by omega)
    refine v_X7_bracketsThatAre_12 o f2 hd ⟨fun _ => h _, fun hc y1 e1 y2 e2 y3 e3 => ?_⟩
    have q := fb_ix (fb_at hx g0 (by omega)) e1 e2 e3
    exact ⟨Ix.of of q.1 q.2, fun _ y e => nx _ _ (by omega) e, fun _ y5 _ y6 e6 => nx _ _ (by omega) e6⟩
theorem G_bt {P : Int → Mem → Prop} {x x3 : Int} (hX : DX N Λ t) (hx : VK x) (hd : 3 ≤ d) (h : ∀ v, P v σ) : CI l mX7_bracketsThatAre d [(2, t + 1), (1, x), (0, x3)] N Λ σ P :=
  c_X7_bracketsThatAre (v_X7_bracketsThatAre_0 (by omega) (gbi (by omega) fun v v0 v1 => gbt_lp hX hx v1 hd h 4 0 0 (by decide) (by decide)))
theorem grd_lp {P : Mem → Prop} {a b : Int} (hX : DX N Λ t) (pa : PA t a) (pb : PA t b) (hd : 4 ≤ d) (h : ∀ σ', GI ω σ' t → P σ') : ∀ (m : Nat) (i : Int) (σ : Mem), 0 ≤ i → (80 - i).toNat ≤ m → GI ω σ t → WV l mX7_reduceTo d P 6 [(2, t + 1), (2, a), (2, b), (0, i)] [] N Λ σ := by
  have lA := hX.pol pa
  have lB := hX.pol pb
  have o := hX.2.2.1.1
  intro m
  induction m with
  | zero =>
    intro i σ g0 g1 hG
    have q := (hG.1 b pb).sz
    exact v_X7_reduceTo_6 lB.1 o lB.2.1 lA.1 lB.2.2.1 (by omega) ⟨fun _ => h _ hG, fun hc => by omega⟩
  | succ m ih =>
    intro i σ g0 g1 hG
    have q := (hG.1 b pb).sz
    have nx : ∀ (y : Int) (σ' : Mem), i < 80 → GI ω σ' t → y = addI i 1 → WV l mX7_reduceTo d P 6 [(2, t + 1), (2, a), (2, b), (0, y)] [] N Λ σ' := fun y σ' hi hG' e => by
      rw [e, addI_e (by omega) (by omega)]
      exact ih (i + 1) σ' (by omega) (by omega) hG'
    exact v_X7_reduceTo_6 lB.1 o lB.2.1 lA.1 lB.2.2.1 (by omega) ⟨fun _ => h _ hG, fun hc => ⟨Ix.of lB.2.2.2.1 g0 (by omega), G_bt hX ((hG.1 b pb).key g0 (by omega)) (by omega) fun v2 => ⟨fun _ y e => nx _ _ (by omega) hG e, fun _ => ⟨Ix.of lB.2.2.2.1 g0 (by omega), Ix.of lB.2.2.2.2 g0 (by omega), G_lay hX hG pa ((hG.1 b pb).key g0 (by omega)) (by omega) fun v5 σ4 hG4 _ y6 e6 => nx _ _ (by omega) hG4 e6⟩⟩⟩⟩
theorem G_rd {P : Mem → Prop} {a b : Int} (hX : DX N Λ t) (hG : GI ω σ t) (pa : PA t a) (pb : PA t b) (hd : 4 ≤ d) (h : ∀ σ', GI ω σ' t → P σ') : CV l mX7_reduceTo d [(2, t + 1), (2, a), (2, b)] N Λ σ P :=
  c_X7_reduceTo (v_X7_reduceTo_0 (hX.pol pa).1 (by omega) fun τ1 e1 => grd_lp hX pa pb hd h 80 0 τ1 (by decide) (by decide) (hG.emp pa e1))
theorem G_cv {P : Int → Mem → Prop} {x : Int} (hX : DX N Λ t) (hx : VK x) (hd : 4 ≤ d) (h : ∀ v, P v σ) : CI l mX7_cannotVanish d [(2, t + 1), (1, x)] N Λ σ P :=
  c_X7_cannotVanish (v_X7_cannotVanish_0 hX.2.2.1.1 (by omega) (gbi (by omega) fun v _ _ => ⟨fun _ => h _, fun _ => G_bt hX hx (by omega) fun v4 => ⟨fun _ => h _, fun _ => h _⟩⟩))
theorem G_det {P : Int → Mem → Prop} {x y z : Int} (hX : DX N Λ t) (hx : 0 ≤ x ∧ x < 10) (hy : 0 ≤ y ∧ y < 10) (hz : 0 ≤ z ∧ z < 10) (h : ∀ v, P v σ) : CI l mX7_determinant d [(2, t + 1), (0, x), (0, y), (0, z)] N Λ σ P := by
  obtain ⟨o, f0, f1, f2, os, op, of, hp⟩ := id hX.2.2.1
  have ix : ∀ j : Int, 0 ≤ j → j < 30 → Ix N Λ (t + 1 + 2) 0 j := fun j u0 u1 => Ix.of op u0 u1
  refine c_X7_determinant (v_X7_determinant_0 o f1 fun y1 e1 y2 e2 y3 e3 => ?_)
  rw [mulI_e (by omega) (by omega)] at e1 e2 e3
  have a11 : addI y1 1 = y1 + 1 := addI_e (by omega) (by omega)
  have a12 : addI y1 2 = y1 + 2 := addI_e (by omega) (by omega)
  have a21 : addI y2 1 = y2 + 1 := addI_e (by omega) (by omega)
  have a22 : addI y2 2 = y2 + 2 := addI_e (by omega) (by omega)
  have a31 : addI y3 1 = y3 + 1 := addI_e (by omega) (by omega)
  have a32 : addI y3 2 = y3 + 2 := addI_e (by omega) (by omega)
  rw [a11, a12, a21, a22, a31, a32]
  exact ⟨ix _ (by omega) (by omega), ix _ (by omega) (by omega), ix _ (by omega) (by omega), ix _ (by omega) (by omega), ix _ (by omega) (by omega), ix _ (by omega) (by omega), ix _ (by omega) (by omega), ix _ (by omega) (by omega), ix _ (by omega) (by omega), ix _ (by omega) (by omega), ix _ (by omega) (by omega), ix _ (by omega) (by omega), ix _ (by omega) (by omega), ix _ (by omega) (by omega), ix _ (by omega) (by omega), h _⟩
theorem gwz25 {P : Int → Mem → Prop} {x2 x3 : Int} (hX : DX N Λ t) (a2 : 0 ≤ x2 ∧ x2 < 10) (a3 : 0 ≤ x3 ∧ x3 < 10) (hd : 1 ≤ d) (K : ∀ v, WI l mX7_bracketsWorthZero d P 14 [(2, t + 1), (0, v), (0, x2), (0, x3 + 1), (3, 0)] [] N Λ σ) : ∀ (m : Nat) (v i : Int), 0 ≤ i → (10 - i).toNat ≤ m → WI l mX7_bracketsWorthZero d P 25 [(2, t + 1), (0, v), (0, x2), (0, x3), (0, i)] [] N Λ σ := by
  have o := hX.2.2.1.1
  have en : ∀ (v y : Int), y = addI x3 1 → WI l mX7_bracketsWorthZero d P 14 [(2, t + 1), (0, v), (0, x2), (0, y), (3, 0)] [] N Λ σ := fun v y e => by
    rw [e, addI_e (by omega) (by omega)]
    exact K v
  intro m
  induction m with
  | zero => intro v i g0 g1; exact v_X7_bracketsWorthZero_25 o hd ⟨fun _ y e => en _ _ e, fun hc => by omega⟩
  | succ m ih =>
    intro v i g0 g1
    have nx : ∀ (v y : Int), ¬ 10 ≤ i → y = addI i 1 → WI l mX7_bracketsWorthZero d P 25 [(2, t + 1), (0, v), (0, x2), (0, x3), (0, y)] [] N Λ σ := fun v y hi e => by
      rw [e, addI_e (by omega) (by omega)]
      exact ih v (i + 1) (by omega) (by omega)
    exact v_X7_bracketsWorthZero_25 o hd ⟨fun _ y e => en _ _ e, fun hc => G_det hX a2 a3 ⟨g0, by omega⟩ fun v3 => ⟨fun _ y e => nx _ _ hc e, fun _ y5 _ y6 e6 => nx _ _ hc e6⟩⟩
theorem gwz14 {P : Int → Mem → Prop} {x2 : Int} (hX : DX N Λ t) (a2 : 0 ≤ x2 ∧ x2 < 10) (hd : 1 ≤ d) (K : ∀ v, WI l mX7_bracketsWorthZero d P 4 [(2, t + 1), (0, v), (0, x2 + 1), (3, 0), (3, 0)] [] N Λ σ) : ∀ (m : Nat) (v i : Int), 0 ≤ i → (10 - i).toNat ≤ m → WI l mX7_bracketsWorthZero d P 14 [(2, t + 1), (0, v), (0, x2), (0, i), (3, 0)] [] N Λ σ := by
  have en : ∀ (v y : Int), y = addI x2 1 → WI l mX7_bracketsWorthZero d P 4 [(2, t + 1), (0, v), (0, y), (3, 0), (3, 0)] [] N Λ σ := fun v y e => by
    rw [e, addI_e (by omega) (by omega)]
    exact K v
  intro m
  induction m with
  | zero => intro v i g0 g1; exact v_X7_bracketsWorthZero_14 ⟨fun _ y e => en _ _ e, fun hc => by omega⟩
  | succ m ih =>
    intro v i g0 g1
    refine v_X7_bracketsWorthZero_14 ⟨fun _ y e => en _ _ e, fun hc y2 e2 => ?_⟩
    rw [e2, addI_e (by omega) (by omega)]
    exact gwz25 hX a2 ⟨g0, by omega⟩ hd (fun v => ih v (i + 1) (by omega) (by omega)) 10 v (i + 1) (by omega) (by omega)
theorem gwz4 {P : Int → Mem → Prop} (hX : DX N Λ t) (hd : 1 ≤ d) (h : ∀ v, P v σ) : ∀ (m : Nat) (v i : Int), 0 ≤ i → (10 - i).toNat ≤ m → WI l mX7_bracketsWorthZero d P 4 [(2, t + 1), (0, v), (0, i), (3, 0), (3, 0)] [] N Λ σ := by
  intro m
  induction m with
  | zero => intro v i g0 g1; exact v_X7_bracketsWorthZero_4 ⟨fun _ => h _, fun hc => by omega⟩
  | succ m ih =>
    intro v i g0 g1
    refine v_X7_bracketsWorthZero_4 ⟨fun _ => h _, fun hc y1 e1 => ?_⟩
    rw [e1, addI_e (by omega) (by omega)]
    exact gwz14 hX ⟨g0, by omega⟩ hd (fun v => ih v (i + 1) (by omega) (by omega)) 10 v (i + 1) (by omega) (by omega)
theorem G_wz {P : Int → Mem → Prop} (hX : DX N Λ t) (hd : 1 ≤ d) (h : ∀ v, P v σ) : CI l mX7_bracketsWorthZero d [(2, t + 1)] N Λ σ P := c_X7_bracketsWorthZero (v_X7_bracketsWorthZero_0 (gwz4 hX hd h 10 0 0 (by decide) (by decide)))
theorem G_tg {P : Int → Mem → Prop} {x y : Int} (h : ∀ v, P v σ) : CI l mX7_isTooGreat d [(1, x), (0, y)] N Λ σ P :=
  c_X7_isTooGreat (v_X7_isTooGreat_0 ⟨fun hn => ⟨fun _ => ⟨hn, fun _ => h _, fun _ => h _⟩, fun _ => ⟨fun _ => h _, fun _ => h _⟩⟩, fun _ => h _⟩)
theorem gwo39 {P : Int → Mem → Prop} {a x2 x4 x7 : Int} (hX : DX N Λ t) (hG : GI ω σ t) (pa : PA t a) (a4 : 0 ≤ x4 ∧ x4 < σ a 2) (h7 : x7 ≤ 4) (hd : 2 ≤ d) (h : ∀ v, P v σ) (K : ∀ s, WL l mX7_worthOf d P 5 [(2, t + 1), (2, a), (1, s), (3, 0), (0, x4 + 1), (3, 0), (3, 0), (3, 0), (3, 0), (3, 0), (3, 0)] [] N Λ σ) : ∀ (m : Nat) (x5 i : Int), 0 ≤ i → (4 - i).toNat ≤ m → WL l mX7_worthOf d P 39 [(2, t + 1), (2, a), (1, x2), (3, 0), (0, x4), (1, x5), (3, 0), (0, x7), (0, i), (3, 0), (3, 0)] [] N Λ σ := by
  have lA := hX.pol pa
  have o := hX.2.2.1.1
  have q := (hG.1 a pa).sz
  have en : ∀ x5 : Int, (∀ y1, y1 = (addL x2 x5) → ((0 ≤ (cmpL (andL (xorL x2 y1) (xorL x5 y1)) 0) → (∀ y2, y2 = addI x4 1 → WL l mX7_worthOf d P 5 [(2, t + 1), (2, a), (1, y1), (3, 0), (0, y2), (3, 0), (3, 0), (3, 0), (3, 0), (3, 0), (3, 0)] [] N Λ σ)) ∧ (¬ (0 ≤ (cmpL (andL (xorL x2 y1) (xorL x5 y1)) 0)) → P (-9223372036854775808) σ))) := fun x5 y1 _ => ⟨fun _ y2 e2 => by
    rw [e2, addI_e (by omega) (by omega)]
    exact K y1, fun _ => h _⟩
  intro m
  induction m with
  | zero => intro x5 i g0 g1; exact v_X7_worthOf_39 lA.1 lA.2.1 o (by omega) ⟨fun _ => en x5, fun hc => by omega⟩
  | succ m ih =>
    intro x5 i g0 g1
    refine v_X7_worthOf_39 lA.1 lA.2.1 o (by omega) ⟨fun _ => en x5, fun hc => ⟨Ix.of lA.2.2.2.1 a4.1 (by omega), fun y3 e3 => ?_⟩⟩
    have fb : FB y3 := by rw [e3]; exact fb_at ((hG.1 a pa).key a4.1 a4.2) g0 (by omega)
    have fl := fb_let fb
    refine G_det hX fl.1 fl.2.1 fl.2.2 fun v5 => G_tg fun v7 => ⟨fun _ y8 _ y9 e9 => ?_, fun _ => h _⟩
    rw [e9, addI_e (by omega) (by omega)]
    exact ih y8 (i + 1) (by omega) (by omega)
theorem gwo5 {P : Int → Mem → Prop} {a : Int} (hX : DX N Λ t) (hG : GI ω σ t) (pa : PA t a) (hd : 2 ≤ d) (h : ∀ v, P v σ) : ∀ (m : Nat) (s i : Int), 0 ≤ i → (80 - i).toNat ≤ m → WL l mX7_worthOf d P 5 [(2, t + 1), (2, a), (1, s), (3, 0), (0, i), (3, 0), (3, 0), (3, 0), (3, 0), (3, 0), (3, 0)] [] N Λ σ := by
  have lA := hX.pol pa
  have q := (hG.1 a pa).sz
  intro m
  induction m with
  | zero => intro s i g0 g1; exact v_X7_worthOf_5 lA.1 lA.2.2.1 lA.2.1 (by omega) ⟨fun _ => h _, fun hc => by omega⟩
  | succ m ih =>
    intro s i g0 g1
    exact v_X7_worthOf_5 lA.1 lA.2.2.1 lA.2.1 (by omega) ⟨fun _ => h _, fun hc => ⟨Ix.of lA.2.2.2.2 g0 (by omega), fun y1 _ => ⟨Ix.of lA.2.2.2.1 g0 (by omega), gbi (by omega) fun v3 _ b1 => gwo39 hX hG pa ⟨g0, by omega⟩ b1 hd h (fun s' => ih s' (i + 1) (by omega) (by omega)) 4 _ 0 (by decide) (by decide)⟩⟩⟩
theorem G_wo {P : Int → Mem → Prop} {a : Int} (hX : DX N Λ t) (hG : GI ω σ t) (pa : PA t a) (hd : 2 ≤ d) (h : ∀ v, P v σ) : CL l mX7_worthOf d [(2, t + 1), (2, a)] N Λ σ P := c_X7_worthOf (v_X7_worthOf_0 (gwo5 hX hG pa hd h 80 0 0 (by decide) (by decide)))
theorem G_fo {P : Int → Mem → Prop} {f : Int} (hX : DX N Λ t) (hf : FB f) (hd : 2 ≤ d) (h : ∀ v, P v σ) : CI l mX7_factOf d [(2, t + 1), (0, f)] N Λ σ P := by
  obtain ⟨o, f0, f1, f2, os, op, of, hp⟩ := id hX.2.2.1
  refine c_X7_factOf (v_X7_factOf_0 o f2 hd fun y1 e1 y2 e2 y3 e3 => ?_)
  have q := fb_ix hf e1 e2 e3
  exact ⟨Ix.of of q.1 q.2, h _⟩
theorem G_tf2 {P : Mem → Prop} {f v : Int} (hX : DX N Λ t) (hG : GI ω σ t) (hf : FB f) (hd : 2 ≤ d) (h : ∀ σ', GI ω σ' t → P σ') : CV l mX7_tellFact d [(2, t + 1), (0, f), (0, v)] N Λ σ P := by
  obtain ⟨o, f0, f1, f2, os, op, of, hp⟩ := id hX.2.2.1
  refine c_X7_tellFact (v_X7_tellFact_0 o f2 hd fun y1 e1 y2 e2 y3 e3 => ?_)
  have q := fb_ix hf e1 e2 e3
  exact ⟨Ix.of of q.1 q.2, fun τ e => h _ (hG.sto e (sa_n.np (Or.inr rfl)).ne (sa_n.fre (Or.inr rfl)).ok)⟩
end GS
