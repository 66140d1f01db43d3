/-! the reference: texts on any object -/
/-- a text is being read: the tape is f, so many bytes, the spot lies within -/
def TS (ω : Mem) (f : Int → Int) (z : Int) (σ : Mem) (b : Int) : Prop := RI ω σ b ∧ σ (b + 15) = f ∧ σ b 20 = z ∧ 0 ≤ σ b 21 ∧ σ b 21 ≤ z ∧ z ≤ 300
section KT
variable {l : Launch} {d N : Nat} {Λ : Lay} {ω σ : Mem} {b z : Int} {f : Int → Int}
theorem TS.sp {τ : Mem} {v : Int} (h : TS ω f z σ b) (e : τ = st σ b 21 v) (hv : 0 ≤ v ∧ v ≤ z) : TS ω f z τ b :=
  ⟨h.1.fo e (by decide), by rw [e, st_ne (by omega)]; exact h.2.1, by rw [e, st_nj (by decide)]; exact h.2.2.1, by rw [e, st_eq]; exact hv.1, by rw [e, st_eq]; exact hv.2, h.2.2.2.2.2⟩
theorem TS.fo {τ : Mem} {j v : Int} (h : TS ω f z σ b) (e : τ = st σ b j v) (hj : j = 22 ∨ j = 23) : TS ω f z τ b :=
  ⟨h.1.fo e (by omega), by rw [e, st_ne (by omega)]; exact h.2.1, by rw [e, st_nj (by omega)]; exact h.2.2.1, by rw [e, st_nj (by omega)]; exact h.2.2.2.1, by rw [e, st_nj (by omega)]; exact h.2.2.2.2.1, h.2.2.2.2.2⟩
theorem TS.fw {τ : Mem} (h : TS ω f z σ b) (R : RI ω τ b) (w : FW σ τ b) : TS ω f z τ b :=
  ⟨R, by rw [w.2 _ (by omega)]; exact h.2.1, by rw [w.1 _ (by decide)]; exact h.2.2.1, by rw [w.1 _ (by decide)]; exact h.2.2.2.1, by rw [w.1 _ (by decide)]; exact h.2.2.2.2.1, h.2.2.2.2.2⟩
theorem TS.by8 (h : TS ω f z σ b) (j : Int) : -128 ≤ f j ∧ f j ≤ 127 := by
  have := h.1.byt j
  rw [h.2.1] at this
  exact this
theorem K_see {P : Int → Mem → Prop} (hM : ModL N Λ b) (hR : RI ω σ b) (hf : σ (b + 15) = f) (hz : σ b 20 = z) (h0 : 0 ≤ σ b 21) (h : ∀ v, (v = -1 ∧ z ≤ σ b 21) ∨ (σ b 21 < z ∧ v = f (σ b 21) % 256) → P v σ) : CI l mX12_see d [(2, b)] N Λ σ P := by
  have q := hR.d20
  refine c_X12_see (v_X12_see_0 hM.1 (M_ftape hM) ⟨fun hc => h _ (Or.inl ⟨rfl, by omega⟩), fun hc => ⟨Ix.of (M_tape hM) h0 (by omega), h _ (Or.inr ⟨by omega, ?_⟩)⟩⟩)
  have r := hR.byt (σ b 21)
  rw [andI_255 ⟨by omega, by omega⟩, hf]
theorem T_see {P : Int → Mem → Prop} (hM : ModL N Λ b) (hT : TS ω f z σ b) (h : ∀ v, (v = -1 ∧ z ≤ σ b 21) ∨ (σ b 21 < z ∧ v = f (σ b 21) % 256) → P v σ) : CI l mX12_see d [(2, b)] N Λ σ P := K_see hM hT.1 hT.2.1 hT.2.2.1 hT.2.2.2.1 h
theorem T_isDigit {P : Int → Mem → Prop} (hM : ModL N Λ b) (hT : TS ω f z σ b) (hd : 1 ≤ d) (h : ∀ v, (¬ v = 0 → σ b 21 < z) → P v σ) : CI l mX12_isDigit d [(2, b)] N Λ σ P := by
  obtain ⟨hR, hf, hz, h0, h1, hm⟩ := id hT
  have n : ∀ q : Int, q = 0 → (¬ q = 0 → σ b 21 < z) := fun q e c => absurd e c
  refine c_X12_isDigit (v_X12_isDigit_0 hM.1 (M_ftape hM) hd ⟨fun hc => ⟨fun _ => h _ (n _ rfl), fun c1 => ?_⟩, fun hc => ⟨Ix.of (M_tape hM) h0 (by omega), fun _ => h _ (n _ rfl), fun _ => ⟨fun _ => h _ (n _ rfl), fun _ => h _ (fun _ => by omega)⟩⟩⟩)
  have := cl_n c1
  omega
theorem T_seesLetter {P : Int → Mem → Prop} (hM : ModL N Λ b) (hT : TS ω f z σ b) (hd : 1 ≤ d) (h : ∀ v, (¬ v = 0 → σ b 21 < z ∧ 97 ≤ f (σ b 21) ∧ f (σ b 21) ≤ 106) → P v σ) : CI l mX12_seesLetter d [(2, b)] N Λ σ P := by
  obtain ⟨hR, hf, hz, h0, h1, hm⟩ := id hT
  have r := hT.by8 (σ b 21)
  have n : ∀ q : Int, q = 0 → (¬ q = 0 → σ b 21 < z ∧ 97 ≤ f (σ b 21) ∧ f (σ b 21) ≤ 106) := fun q e c => absurd e c
  refine c_X12_seesLetter (v_X12_seesLetter_0 hM.1 (M_ftape hM) hd ⟨fun hc => ⟨fun _ => h _ (n _ rfl), fun c1 => ?_⟩, fun hc => ?_⟩)
  · have := cl_n c1
    omega
  · rw [hf, andI_255 ⟨by omega, by omega⟩]
    refine ⟨Ix.of (M_tape hM) h0 (by omega), fun _ => h _ (n _ rfl), fun c1 => ⟨fun _ => h _ (n _ rfl), fun c2 => h _ (fun _ => ?_)⟩⟩
    have a1 := cl_n c1
    have a2 := cg_n c2
    omega
theorem T_must {P : Mem → Prop} {x : Int} (hM : ModL N Λ b) (hT : TS ω f z σ b) (hx : ¬ x = 0 → σ b 21 < z) (hd : 1 ≤ d) (h : ∀ σ', TS ω f z σ' b → (σ' b 22 = 0 → σ b 22 = 0 ∧ ¬ x = 0 ∧ σ' b 21 = σ b 21 + 1) → P σ') : CV l mX12_must d [(2, b), (0, x)] N Λ σ P := by
  obtain ⟨hR, hf, hz, h0, h1, hm⟩ := id hT
  refine c_X12_must (v_X12_must_0 hM.1 hd ⟨fun w0 => ⟨fun x0 => ⟨fun _ τ1 e1 τ2 e2 => h τ2 ((hT.fo e1 (Or.inl rfl)).fo e2 (Or.inr rfl)) (fun c => ?_), fun c => absurd w0 c⟩, fun x0 τ3 e3 => ?_⟩, fun w => h σ hT (fun c => absurd c w)⟩)
  · rw [e2, st_nj (by decide), e1, st_eq] at c
    exact absurd c (by decide)
  · have := hx x0
    rw [addI_e (by omega) (by omega)] at e3
    exact h τ3 (hT.sp e3 (by omega)) (fun _ => ⟨w0, x0, by rw [e3, st_eq]⟩)
theorem T_wrongs {P : Mem → Prop} {x y : Int} (hM : ModL N Λ b) (hT : TS ω f z σ b) (hx : ¬ x = 0) (h : ∀ σ', TS ω f z σ' b → ¬ σ' b 22 = 0 → P σ') : CV l mX12_wrongs d [(2, b), (0, x), (0, y)] N Λ σ P := by
  refine c_X12_wrongs (v_X12_wrongs_0 hM.1 ⟨fun w0 τ1 e1 τ2 e2 => h τ2 ((hT.fo e1 (Or.inl rfl)).fo e2 (Or.inr rfl)) (fun c => ?_), fun w => h σ hT w⟩)
  rw [e2, st_nj (by decide), e1, st_eq] at c
  exact hx c
theorem K_letterAt {P : Int → Mem → Prop} {x : Int} (hM : ModL N Λ b) (hR : RI ω σ b) (hx : 0 ≤ x ∧ x < 300) (h : P (σ (b + 15) x - 97) σ) : CI l mX12_letterAt d [(2, b), (0, x)] N Λ σ P := by
  have r := hR.byt x
  refine c_X12_letterAt (v_X12_letterAt_0 hM.1 (M_ftape hM) ?_)
  rw [subI_e (by omega) (by omega)]
  exact ⟨Ix.of (M_tape hM) hx.1 (by omega), h⟩
/-! a term -/
section TM
variable {P : Mem → Prop} {x1 x2 x3 x4 x5 : Int}
theorem tm307 {x6 x8 : Int} (hM : ModL N Λ b) (hT : TS ω f z σ b) (h8 : x8 ≤ 4) (hp : σ b 22 = 0 → x3 < σ b 21) (hd : 3 ≤ d) (h : ∀ σ', TS ω f z σ' b → (σ' b 22 = 0 → x3 < σ' b 21) → P σ') : WV l mX12_term d P 307 [(2, b), (0, x1), (0, x2), (0, x3), (0, x4), (0, x5), (1, x6), (3, 0), (0, x8), (3, 0)] [] N Λ σ := by
  have en : ∀ τ, TS ω f z τ b → (τ b 22 = 0 → x3 < τ b 21) → WV l mX12_term d P 332 [(2, b), (0, x1), (0, x2), (0, x3), (0, x4), (0, x5), (1, x6), (3, 0), (0, x8), (3, 0)] [] N Λ τ := fun τ hτ pτ => u_X12_term_332 (h τ hτ pτ)
  refine u_X12_term_307 hM.1 (by omega) ⟨fun _ => en σ hT hp, fun _ => ⟨fun _ => en σ hT hp, fun _ => R_ko (o := 0) hM hT.1 h8 fun v2 σ1 R1 A1 k1 => R_puts hM R1 (by decide) (by decide) k1 (by omega) fun v4 σ3 R3 A3 => ?_⟩⟩
  have w := A1.w.tr A3.w
  refine en σ3 (hT.fw R3 w) (fun c => ?_)
  rw [w.1 22 (by decide)] at c
  rw [w.1 21 (by decide)]
  exact hp c
theorem tm287 {x6 x8 x9 w0 : Int} (hM : ModL N Λ b) (hT : TS ω f z σ b) (h8 : 0 ≤ x8 ∧ x8 ≤ 3) (h9 : -120 ≤ x9 ∧ x9 ≤ 120) (hp : x3 < σ b 21) (hd : 3 ≤ d) (K : ∀ (w : Int) (τ : Mem), TS ω f z τ b → x3 < τ b 21 → WV l mX12_term d P 129 [(2, b), (0, x1), (0, x2), (0, x3), (0, x4), (0, x5), (1, w), (3, 0), (0, x8 + 1), (3, 0)] [] N Λ τ) : WV l mX12_term d P 287 [(2, b), (0, x1), (0, x2), (0, x3), (0, x4), (0, x5), (1, x6), (3, 0), (0, x8), (0, x9)] [(1, w0)] N Λ σ := by
  have ix : Ix N Λ (b + 7) 0 x8 := Ix.of (M_ranks hM) h8.1 (by omega)
  have go : ∀ (τ : Mem) (j v y : Int), τ = st σ (b + 7) j v → RI ω τ b → y = addI x8 1 → WV l mX12_term d P 129 [(2, b), (0, x1), (0, x2), (0, x3), (0, x4), (0, x5), (1, w0), (3, 0), (0, y), (3, 0)] [] N Λ τ := fun τ j v y e R ey => by
    rw [ey, addI_e (by omega) (by omega)]
    exact K w0 τ (hT.fw R (FW.s e (by omega))) (by rw [e, st_ne (by omega)]; exact hp)
  exact u_X12_term_287 hM.1 (M_franks hM) (by omega) ⟨fun q => ⟨ix, fun τ1 e1 y2 e2 => go τ1 _ _ y2 e1 (hT.1.srk e1 (by omega)) e2⟩, fun q => ⟨ix, fun τ3 e3 y4 e4 => go τ3 _ _ y4 e3 (hT.1.srn e3 h9 q) e4⟩⟩
theorem tm209 {x6 x8 x9 w0 : Int} (hM : ModL N Λ b) (hT : TS ω f z σ b) (h8 : 0 ≤ x8 ∧ x8 ≤ 3) (hw : ¬ w0 = 0 → σ b 21 < z) (h3 : 0 ≤ x3) (hp : σ b 22 = 0 → x3 + 3 < σ b 21 ∧ ∀ j, 1 ≤ j → j ≤ 3 → 97 ≤ f (σ b 21 - j) ∧ f (σ b 21 - j) ≤ 106) (hd : 3 ≤ d) (h : ∀ σ', TS ω f z σ' b → (σ' b 22 = 0 → x3 < σ' b 21) → P σ') (K : ∀ (w : Int) (τ : Mem), TS ω f z τ b → x3 < τ b 21 → WV l mX12_term d P 129 [(2, b), (0, x1), (0, x2), (0, x3), (0, x4), (0, x5), (1, w), (3, 0), (0, x8 + 1), (3, 0)] [] N Λ τ) : WV l mX12_term d P 209 [(2, b), (0, x1), (0, x2), (0, x3), (0, x4), (0, x5), (1, x6), (3, 0), (0, x8), (0, x9)] [(0, w0), (2, b)] N Λ σ := by
  refine u_X12_term_209 hM.1 (M_frankOf hM) (by omega) (T_must hM hT hw (by omega) fun σ1 T1 m1 => ⟨fun c => ?_, fun c => h σ1 T1 (fun c' => absurd c' c)⟩)
  obtain ⟨m2, m3, m4⟩ := m1 c
  obtain ⟨p1, p2⟩ := hp m2
  obtain ⟨R1, f1, z1, s0, s1, zm⟩ := id T1
  have a1 := p2 1 (by decide) (by decide)
  have a2 := p2 2 (by decide) (by decide)
  have a3 := p2 3 (by decide) (by decide)
  rw [subI_e (x := σ1 b 21) (y := 4) (by omega) (by omega)]
  refine K_letterAt hM R1 (by omega) ?_
  rw [subI_e (x := σ1 b 21) (y := 3) (by omega) (by omega)]
  refine K_letterAt hM R1 (by omega) ?_
  rw [subI_e (x := σ1 b 21) (y := 2) (by omega) (by omega)]
  refine K_letterAt hM R1 (by omega) ?_
  rw [f1, show σ1 b 21 - 4 = σ b 21 - 3 by omega, show σ1 b 21 - 3 = σ b 21 - 2 by omega, show σ1 b 21 - 2 = σ b 21 - 1 by omega]
  have l3 : 0 ≤ f (σ b 21 - 3) - 97 ∧ f (σ b 21 - 3) - 97 ≤ 9 := by omega
  have l2 : 0 ≤ f (σ b 21 - 2) - 97 ∧ f (σ b 21 - 2) - 97 ≤ 9 := by omega
  have l1 : 0 ≤ f (σ b 21 - 1) - 97 ∧ f (σ b 21 - 1) - 97 ≤ 9 := by omega
  refine ⟨ixR hM l3 l2 l1, fun y8 e8 => ?_⟩
  have bb := rkb R1 e8 l3 l2 l1
  have pr : x3 < σ1 b 21 := by omega
  clear e8 a1 a2 a3 l1 l2 l3 p2
  exact ⟨fun _ => ⟨fun _ => tm287 hM T1 h8 bb pr hd K, fun _ => tm287 hM T1 h8 bb pr hd K⟩, fun _ => tm287 hM T1 h8 bb pr hd K⟩
theorem tm174 {x6 x8 : Int} (hM : ModL N Λ b) (h8 : 0 ≤ x8 ∧ x8 ≤ 3) (h3 : 0 ≤ x3) (hd : 3 ≤ d) (h : ∀ σ', TS ω f z σ' b → (σ' b 22 = 0 → x3 < σ' b 21) → P σ') (K : ∀ (w : Int) (τ : Mem), TS ω f z τ b → x3 < τ b 21 → WV l mX12_term d P 129 [(2, b), (0, x1), (0, x2), (0, x3), (0, x4), (0, x5), (1, w), (3, 0), (0, x8 + 1), (3, 0)] [] N Λ τ) : ∀ (m : Nat) (x9 : Int) (σ : Mem), 0 ≤ x9 → x9 ≤ 3 → (3 - x9).toNat < m → TS ω f z σ b → (σ b 22 = 0 → x3 + x9 < σ b 21 ∧ ∀ j, 1 ≤ j → j ≤ x9 → 97 ≤ f (σ b 21 - j) ∧ f (σ b 21 - j) ≤ 106) → WV l mX12_term d P 174 [(2, b), (0, x1), (0, x2), (0, x3), (0, x4), (0, x5), (1, x6), (3, 0), (0, x8), (0, x9)] [] N Λ σ := by
  intro m
  induction m with
  | zero => intros; omega
  | succ m ih =>
    intro x9 σ i0 i1 g hT hp
    refine u_X12_term_174 hM.1 (by omega) ⟨fun q => ?_, fun q => T_seesLetter hM hT (by omega) fun v4 l4 => T_must hM hT (fun c => (l4 c).1) (by omega) fun σ5 T5 m5 y6 e6 => ?_⟩
    · have e9 : x9 = 3 := by omega
      rw [e9] at hp
      exact T_see hM hT fun v2 s2 => ⟨fun _ => tm209 hM hT h8 (fun c => absurd rfl c) h3 hp hd h K, fun q2 => tm209 hM hT h8 (fun _ => by omega) h3 hp hd h K⟩
    · rw [e6, addI_e (by omega) (by omega)]
      refine ih (x9 + 1) σ5 (by omega) (by omega) (by omega) T5 (fun c => ?_)
      obtain ⟨m1, m2, m3⟩ := m5 c
      obtain ⟨p1, p2⟩ := hp m1
      have l := l4 m2
      refine ⟨by omega, fun j j0 j1 => ?_⟩
      by_cases hj : j = 1
      · rw [hj, m3, show σ b 21 + 1 - 1 = σ b 21 by omega]
        exact l.2
      · have := p2 (j - 1) (by omega) (by omega)
        rw [m3, show σ b 21 + 1 - j = σ b 21 - (j - 1) by omega]
        exact this
theorem tm129 (hM : ModL N Λ b) (h3 : 0 ≤ x3) (hd : 3 ≤ d) (h : ∀ σ', TS ω f z σ' b → (σ' b 22 = 0 → x3 < σ' b 21) → P σ') : ∀ (m : Nat) (x6 x8 : Int) (σ : Mem), 0 ≤ x8 → x8 ≤ 4 → (4 - x8).toNat < m → TS ω f z σ b → (σ b 22 = 0 → x3 ≤ σ b 21) → (σ b 22 = 0 → x3 < σ b 21 ∨ (σ b 21 < z ∧ f (σ b 21) % 256 = 91)) → WV l mX12_term d P 129 [(2, b), (0, x1), (0, x2), (0, x3), (0, x4), (0, x5), (1, x6), (3, 0), (0, x8), (3, 0)] [] N Λ σ := by
  intro m
  induction m with
  | zero => intros; omega
  | succ m ih =>
    intro x6 x8 σ i0 i1 g hT hs hp
    obtain ⟨hR, hf, hz, h0, h1, hm⟩ := id hT
    refine u_X12_term_129 hM.1 (by omega) ⟨fun w => tm307 hM hT i1 (fun c => absurd c w) hd h, fun w0 => T_see hM hT fun v2 s2 => ⟨fun q => tm307 hM hT i1 (fun _ => ?_) hd h, fun q => ⟨fun q8 τ3 e3 => ?_, fun _ => T_wrongs hM hT (by decide) fun σ4 T4 n4 => h σ4 T4 (fun c => absurd c n4)⟩⟩⟩
    · rcases hp w0 with c | c
      · exact c
      · omega
    · have hs0 := hs w0
      rw [addI_e (by omega) (by omega)] at e3
      have T3 := hT.sp e3 (by omega)
      have s3 : τ3 b 21 = σ b 21 + 1 := by rw [e3, st_eq]
      exact tm174 hM ⟨i0, by omega⟩ h3 hd h (fun w τ Tτ pτ => ih w (x8 + 1) τ (by omega) (by omega) (by omega) Tτ (fun _ => by omega) (fun _ => Or.inl pτ)) 4 0 τ3 (by decide) (by decide) (by decide) T3 (fun _ => ⟨by omega, fun j j0 j1 => by omega⟩)
theorem tm85 {w0 : Int} (hM : ModL N Λ b) (h3 : 0 ≤ x3) (hT : TS ω f z σ b) (hs : σ b 22 = 0 → x3 ≤ σ b 21) (hw : ¬ w0 = 0 → x3 < σ b 21) (hd : 3 ≤ d) (h : ∀ σ', TS ω f z σ' b → (σ' b 22 = 0 → x3 < σ' b 21) → P σ') : WV l mX12_term d P 85 [(2, b), (0, x1), (0, x2), (0, x3), (0, x4), (3, 0), (3, 0), (3, 0), (3, 0), (3, 0)] [(0, w0)] N Λ σ := by
  have en : ∀ τ, TS ω f z τ b → (τ b 22 = 0 → x3 ≤ τ b 21) → (τ b 22 = 0 → x3 < τ b 21 ∨ (τ b 21 < z ∧ f (τ b 21) % 256 = 91)) → WV l mX12_term d P 110 [(2, b), (0, x1), (0, x2), (0, x3), (0, x4), (0, w0), (3, 0), (3, 0), (3, 0), (3, 0)] [] N Λ τ := fun τ Tτ sτ pτ => u_X12_term_110 ⟨fun _ => u_X12_term_122 fun y1 _ => tm129 hM h3 hd h 5 y1 0 τ (by decide) (by decide) (by decide) Tτ sτ pτ, fun _ => u_X12_term_122 fun y1 _ => tm129 hM h3 hd h 5 y1 0 τ (by decide) (by decide) (by decide) Tτ sτ pτ⟩
  exact u_X12_term_85 hM.1 (by omega) ⟨fun c => en σ hT hs (fun _ => Or.inl (hw c)), fun _ => T_see hM hT fun v2 s2 => ⟨fun q => en σ hT hs (fun _ => Or.inr ⟨by omega, by omega⟩), fun _ => T_wrongs hM hT (by decide) fun σ3 T3 n3 => en σ3 T3 (fun c => absurd c n3) (fun c => absurd c n3)⟩⟩
theorem tm72 (hM : ModL N Λ b) (h3 : 0 ≤ x3) (hT : TS ω f z σ b) (hs : σ b 22 = 0 → x3 ≤ σ b 21) (hd : 3 ≤ d) (h : ∀ σ', TS ω f z σ' b → (σ' b 22 = 0 → x3 < σ' b 21) → P σ') : WV l mX12_term d P 72 [(2, b), (0, x1), (0, x2), (0, x3), (0, x4), (3, 0), (3, 0), (3, 0), (3, 0), (3, 0)] [] N Λ σ :=
  u_X12_term_72 hM.1 ⟨fun _ => tm85 hM h3 hT hs (fun c => absurd rfl c) hd h, fun q => tm85 hM h3 hT hs (fun _ => by omega) hd h⟩
theorem tm8 (hM : ModL N Λ b) (h3 : 0 ≤ x3) (hd : 3 ≤ d) (h : ∀ σ', TS ω f z σ' b → (σ' b 22 = 0 → x3 < σ' b 21) → P σ') : ∀ (m : Nat) (x4 : Int) (σ : Mem), (300 - σ b 21).toNat < m → TS ω f z σ b → x3 ≤ σ b 21 → WV l mX12_term d P 8 [(2, b), (0, x1), (0, x2), (0, x3), (0, x4), (3, 0), (3, 0), (3, 0), (3, 0), (3, 0)] [] N Λ σ := by
  intro m
  induction m with
  | zero => intros; omega
  | succ m ih =>
    intro x4 σ g hT hs
    obtain ⟨hR, hf, hz, h0, h1, hm⟩ := id hT
    have nx : ∀ w : Int, σ b 21 < z → WV l mX12_term d P 41 [(2, b), (0, x1), (0, x2), (0, x3), (0, x4), (3, 0), (3, 0), (3, 0), (3, 0), (3, 0)] [(0, w)] N Λ σ := fun w hlt => u_X12_term_41 hM.1 fun τ1 e1 => by
      rw [addI_e (by omega) (by omega)] at e1
      have s1 : τ1 b 21 = σ b 21 + 1 := by rw [e1, st_eq]
      exact ih w τ1 (by omega) (hT.sp e1 (by omega)) (by omega)
    exact u_X12_term_8 hM.1 (by omega) (T_isDigit hM hT (by omega) fun v2 d2 => ⟨fun _ => ⟨fun _ => tm72 hM h3 hT (fun _ => hs) hd h, fun _ => T_wrongs hM hT (by decide) fun σ3 T3 n3 => tm72 hM h3 T3 (fun c => absurd c n3) hd h⟩, fun c => ⟨fun _ => T_see hM hT fun v5 _ => nx _ (d2 c), fun _ => nx _ (d2 c)⟩⟩)
theorem K_term (hM : ModL N Λ b) (hT : TS ω f z σ b) (hd : 3 ≤ d) (h : ∀ σ', TS ω f z σ' b → (σ' b 22 = 0 → σ b 21 < σ' b 21) → P σ') : CV l mX12_term d [(2, b), (0, x1), (0, x2)] N Λ σ P := by
  refine c_X12_term (u_X12_term_0 hM.1 fun y1 e1 => ?_)
  subst e1
  exact tm8 hM hT.2.2.2.1 hd h 301 0 σ (by have := hT.2.2.2.1; omega) hT (Int.le_refl _)
end TM
/-! a polynomial -/
section TPL
variable {P : Mem → Prop} {x1 : Int}
theorem pl119 {s x2 x3 x4 x5 : Int} (hM : ModL N Λ b) (hd : 4 ≤ d) (hT : TS ω f z σ b) (hp : σ b 22 = 0 → s < σ b 21) (h : ∀ σ', RI ω σ' b → P σ') (K : ∀ (x2 x3 : Int) (τ : Mem), TS ω f z τ b → s < τ b 21 → WV l mX12_polynomial d P 20 [(2, b), (0, x1), (0, x2), (0, x3), (3, 0), (3, 0)] [] N Λ τ) : WV l mX12_polynomial d P 119 [(2, b), (0, x1), (0, x2), (0, x3), (0, x4), (0, x5)] [] N Λ σ := by
  have en : WV l mX12_polynomial d P 141 [(2, b), (0, x1), (0, x2), (0, x3), (0, x4), (0, x5)] [] N Λ σ := u_X12_polynomial_141 (u_X12_polynomial_142 (u_X12_polynomial_20 hM.1 (by omega) ⟨fun _ => u_X12_polynomial_146 (h σ hT.1), fun c => absurd rfl c⟩))
  exact u_X12_polynomial_119 hM.1 ⟨fun _ => en, fun w0 => ⟨fun _ => en, fun _ => u_X12_polynomial_142 (K 1 x3 σ hT (hp w0))⟩⟩
theorem pl103 {s x2 x3 x4 x5 : Int} (hM : ModL N Λ b) (hd : 4 ≤ d) (hT : TS ω f z σ b) (hp : σ b 22 = 0 → s ≤ σ b 21) (h : ∀ σ', RI ω σ' b → P σ') (K : ∀ (x2 x3 : Int) (τ : Mem), TS ω f z τ b → s < τ b 21 → WV l mX12_polynomial d P 20 [(2, b), (0, x1), (0, x2), (0, x3), (3, 0), (3, 0)] [] N Λ τ) : WV l mX12_polynomial d P 103 [(2, b), (0, x1), (0, x2), (0, x3), (0, x4), (0, x5)] [] N Λ σ :=
  u_X12_polynomial_103 hM.1 (by omega) ⟨fun w => pl119 hM hd hT (fun c => absurd c w) h K, fun w0 => K_term hM hT (by omega) fun σ1 T1 p1 => pl119 hM hd T1 (fun c => by have := p1 c; have := hp w0; omega) h K⟩
theorem pl70 {s x2 x3 x4 w0 : Int} (hM : ModL N Λ b) (hd : 4 ≤ d) (hT : TS ω f z σ b) (hs : s = σ b 21) (hw : ¬ x4 = 0 → σ b 21 < z) (h : ∀ σ', RI ω σ' b → P σ') (K : ∀ (x2 x3 : Int) (τ : Mem), TS ω f z τ b → s < τ b 21 → WV l mX12_polynomial d P 20 [(2, b), (0, x1), (0, x2), (0, x3), (3, 0), (3, 0)] [] N Λ τ) : WV l mX12_polynomial d P 70 [(2, b), (0, x1), (0, x2), (0, x3), (0, x4), (3, 0)] [(0, w0)] N Λ σ := by
  obtain ⟨hR, hf, hz, h0, h1, hm⟩ := id hT
  refine u_X12_polynomial_70 hM.1 (by omega) ⟨fun _ => ⟨fun _ => pl103 hM hd hT (fun _ => by omega) h K, fun _ => T_wrongs hM hT (by decide) fun σ1 T1 n1 => pl103 hM hd T1 (fun c => absurd c n1) h K⟩, fun c τ2 e2 => ?_⟩
  have := hw c
  rw [addI_e (by omega) (by omega)] at e2
  have s2 : τ2 b 21 = σ b 21 + 1 := by rw [e2, st_eq]
  exact pl103 hM hd (hT.sp e2 (by omega)) (fun _ => by omega) h K
theorem pl54 {s x2 x3 w0 : Int} (hM : ModL N Λ b) (hd : 4 ≤ d) (hT : TS ω f z σ b) (hs : s = σ b 21) (hw : ¬ w0 = 0 → σ b 21 < z) (h : ∀ σ', RI ω σ' b → P σ') (K : ∀ (x2 x3 : Int) (τ : Mem), TS ω f z τ b → s < τ b 21 → WV l mX12_polynomial d P 20 [(2, b), (0, x1), (0, x2), (0, x3), (3, 0), (3, 0)] [] N Λ τ) : WV l mX12_polynomial d P 54 [(2, b), (0, x1), (0, x2), (0, x3), (3, 0), (3, 0)] [(0, w0)] N Λ σ :=
  u_X12_polynomial_54 hM.1 (by omega) (T_see hM hT fun v2 _ => ⟨fun _ => pl70 hM hd hT hs hw h K, fun _ => pl70 hM hd hT hs hw h K⟩)
theorem pl20 (hM : ModL N Λ b) (hd : 4 ≤ d) (h : ∀ σ', RI ω σ' b → P σ') : ∀ (m : Nat) (x2 x3 : Int) (σ : Mem), (z - σ b 21).toNat < m → TS ω f z σ b → WV l mX12_polynomial d P 20 [(2, b), (0, x1), (0, x2), (0, x3), (3, 0), (3, 0)] [] N Λ σ := by
  intro m
  induction m with
  | zero => intros; omega
  | succ m ih =>
    intro x2 x3 σ g hT
    obtain ⟨hR, hf, hz, h0, h1, hm⟩ := id hT
    have K : ∀ (x2 x3 : Int) (τ : Mem), TS ω f z τ b → σ b 21 < τ b 21 → WV l mX12_polynomial d P 20 [(2, b), (0, x1), (0, x2), (0, x3), (3, 0), (3, 0)] [] N Λ τ := fun x2 x3 τ Tτ pτ => ih x2 x3 τ (by have := Tτ.2.2.2.2.1; omega) Tτ
    exact u_X12_polynomial_20 hM.1 (by omega) ⟨fun _ => u_X12_polynomial_146 (h σ hR), fun _ => ⟨fun _ => u_X12_polynomial_146 (h σ hR), fun w0 => T_see hM hT fun v2 s2 => ⟨fun q => u_X12_polynomial_49 (pl54 hM hd hT rfl (fun _ => by omega) h K), fun _ => T_see hM hT fun v4 s4 => ⟨fun _ => pl54 hM hd hT rfl (fun c => absurd rfl c) h K, fun q => u_X12_polynomial_49 (pl54 hM hd hT rfl (fun _ => by omega) h K)⟩⟩⟩⟩
theorem K_polynomial (hM : ModL N Λ b) (hR : RI ω σ b) (hd : 4 ≤ d) (h : ∀ σ', RI ω σ' b → P σ') : CV l mX12_polynomial d [(2, b), (0, x1)] N Λ σ P := by
  have q := hR.d20
  refine c_X12_polynomial (u_X12_polynomial_0 hM.1 fun τ1 e1 => ?_)
  have s1 : τ1 b 21 = 0 := by rw [e1, st_eq]
  have s2 : τ1 b 20 = σ b 20 := by rw [e1, st_nj (by decide)]
  have T1 : TS ω (τ1 (b + 15)) (τ1 b 20) τ1 b := ⟨hR.fo e1 (by decide), rfl, rfl, by omega, by omega, by omega⟩
  exact ⟨fun _ => u_X12_polynomial_17 (pl20 hM hd h 301 0 1 τ1 (by omega) T1), fun _ => u_X12_polynomial_17 (pl20 hM hd h 301 1 1 τ1 (by omega) T1)⟩
end TPL
/-! a figure -/
/-- the text of a point lies between: so many ( may be open in it -/
def PtN (f : Int → Int) (z : Int) : Nat → Int → Int → Prop
  | 0, s, e => s < z ∧ (97 ≤ f s ∧ f s ≤ 106) ∧ e = s + 1
  | n + 1, s, e => (s < z ∧ (97 ≤ f s ∧ f s ≤ 106) ∧ e = s + 1) ∨ (s < z ∧ f s % 256 = 40 ∧ ∃ e1 e2 e3 e4 : Int, PtN f z n (s + 1) e1 ∧ PtN f z n e1 e2 ∧ PtN f z n (e2 + 1) e3 ∧ PtN f z n e3 e4 ∧ e4 < z ∧ e = e4 + 1)
theorem PtN_l {n : Nat} {s : Int} (h : s < z ∧ (97 ≤ f s ∧ f s ≤ 106)) : PtN f z n s (s + 1) := by
  cases n with
  | zero => exact ⟨h.1, h.2, rfl⟩
  | succ n => exact Or.inl ⟨h.1, h.2, rfl⟩
theorem PtN_b : ∀ {n : Nat} {s e : Int}, PtN f z n s e → s < e ∧ e ≤ z := by
  intro n
  induction n with
  | zero => intro s e h; obtain ⟨h1, _, h2⟩ := h; omega
  | succ n ih =>
    intro s e h
    rcases h with ⟨h1, _, h2⟩ | ⟨h1, _, e1, e2, e3, e4, g1, g2, g3, g4, g5, g6⟩
    · omega
    · have a1 := ih g1
      have a2 := ih g2
      have a3 := ih g3
      have a4 := ih g4
      omega
section TFG
theorem K_pointText (hM : ModL N Λ b) : ∀ (n : Nat) (d : Nat) (x1 : Int) (σ : Mem) (P : Mem → Prop), x1 = 2 - (n : Int) → n ≤ 2 → n + 2 ≤ d → TS ω f z σ b → (∀ σ', TS ω f z σ' b → (σ' b 22 = 0 → σ b 22 = 0 ∧ PtN f z n (σ b 21) (σ' b 21)) → P σ') → CV l mX12_pointText d [(2, b), (0, x1)] N Λ σ P := by
  intro n
  induction n with
  | zero =>
    intro d x1 σ P ex hn hd hT h
    exact c_X12_pointText (u_X12_pointText_0 hM.1 (by omega) ⟨fun w0 => T_see hM hT fun v2 s2 => ⟨fun _ => ⟨fun c => absurd (by omega) c, fun _ => T_wrongs hM hT (by decide) fun σ' T' n' => h σ' T' (fun c => absurd c n')⟩, fun _ => T_seesLetter hM hT (by omega) fun v4 l4 => T_must hM hT (fun c => (l4 c).1) (by omega) fun σ5 T5 m5 => h σ5 T5 (fun c => ⟨w0, by rw [(m5 c).2.2]; exact PtN_l (l4 (m5 c).2.1)⟩)⟩, fun w => h σ hT (fun c => absurd c w)⟩)
  | succ n IH =>
    intro d x1 σ P ex hn hd hT h
    obtain ⟨hR, hf, hz, h0, h1, hm⟩ := id hT
    have a1 : addI x1 1 = 2 - (n : Int) := by rw [addI_e (by omega) (by omega)]; omega
    have re : ∀ (ok : Prop) (σ8 : Mem), TS ω f z σ8 b → (σ8 b 22 = 0 → ok ∧ ∃ e1 e2 : Int, PtN f z n (σ b 21 + 1) e1 ∧ PtN f z n e1 e2 ∧ σ8 b 21 = e2 + 1) → (σ b 22 = 0) → (σ b 21 < z ∧ f (σ b 21) % 256 = 40) → (CV l mX12_pointText (d - 1) [(2, b), (0, (addI x1 1))] N Λ σ8 (fun σ9 => (CV l mX12_pointText (d - 1) [(2, b), (0, (addI x1 1))] N Λ σ9 (fun σ10 => (CI l mX12_see (d - 1) [(2, b)] N Λ σ10 (fun v12 σ11 => ((¬ v12 = 41 → (CV l mX12_must (d - 1) [(2, b), (0, 0)] N Λ σ11 (fun σ13 => P σ13))) ∧ (v12 = 41 → (CV l mX12_must (d - 1) [(2, b), (0, 1)] N Λ σ11 (fun σ14 => P σ14)))))))))) := fun ok σ8 T8 p8 w0 q0 => IH (d - 1) (addI x1 1) σ8 _ a1 (by omega) (by omega) T8 fun σ9 T9 p9 => IH (d - 1) (addI x1 1) σ9 _ a1 (by omega) (by omega) T9 fun σ10 T10 p10 => T_see hM T10 fun v12 s12 => ⟨fun _ => T_must hM T10 (fun c => absurd rfl c) (by omega) fun σ13 T13 m13 => h σ13 T13 (fun c => absurd rfl (m13 c).2.1), fun q => T_must hM T10 (fun _ => by omega) (by omega) fun σ14 T14 m14 => h σ14 T14 (fun c => by
      obtain ⟨c1, _, c3⟩ := m14 c
      obtain ⟨c4, c5⟩ := p10 c1
      obtain ⟨c6, c7⟩ := p9 c4
      obtain ⟨_, e1, e2, g1, g2, g3⟩ := p8 c6
      rw [g3] at c7
      exact ⟨w0, Or.inr ⟨q0.1, q0.2, e1, e2, _, _, g1, g2, c7, c5, by omega, c3⟩⟩)⟩
    refine c_X12_pointText (u_X12_pointText_0 hM.1 (by omega) ⟨fun w0 => T_see hM hT fun v2 s2 => ⟨fun q40 => ⟨fun _ τ3 e3 => ?_, fun c => absurd c (by omega)⟩, fun _ => T_seesLetter hM hT (by omega) fun v4 l4 => T_must hM hT (fun c => (l4 c).1) (by omega) fun σ5 T5 m5 => h σ5 T5 (fun c => ⟨w0, by rw [(m5 c).2.2]; exact PtN_l (l4 (m5 c).2.1)⟩)⟩, fun w => h σ hT (fun c => absurd c w)⟩)
    have q0 : σ b 21 < z ∧ f (σ b 21) % 256 = 40 := by omega
    rw [addI_e (by omega) (by omega)] at e3
    have s3 : τ3 b 21 = σ b 21 + 1 := by rw [e3, st_eq]
    refine IH (d - 1) (addI x1 1) τ3 _ a1 (by omega) (by omega) (hT.sp e3 (by omega)) fun σ4 T4 p4 => IH (d - 1) (addI x1 1) σ4 _ a1 (by omega) (by omega) T4 fun σ5 T5 p5 => T_see hM T5 fun v7 s7 => ⟨fun _ => T_must hM T5 (fun c => absurd rfl c) (by omega) fun σ8 T8 m8 => re True σ8 T8 (fun c => absurd rfl (m8 c).2.1) w0 q0, fun q => T_must hM T5 (fun _ => by omega) (by omega) fun σ8 T8 m8 => re True σ8 T8 (fun c => ?_) w0 q0⟩
    obtain ⟨c1, _, c3⟩ := m8 c
    obtain ⟨c4, c5⟩ := p5 c1
    obtain ⟨c6, c7⟩ := p4 c4
    rw [s3] at c7
    exact ⟨trivial, _, _, c7, c5, c3⟩
/-- three points, one behind the other -/
def Fig3 (f : Int → Int) (z s : Int) : Prop := ∃ e1 e2 e3 : Int, PtN f z 2 s e1 ∧ PtN f z 2 e1 e2 ∧ PtN f z 2 e2 e3
theorem K_figureText {P : Mem → Prop} (hM : ModL N Λ b) (hT : TS ω f z σ b) (hd : 5 ≤ d) (h : ∀ σ', TS ω f z σ' b → (σ' b 22 = 0 → Fig3 f z (σ b 21)) → P σ') : CV l mX12_figureText d [(2, b)] N Λ σ P := by
  refine c_X12_figureText (u_X12_figureText_0 (u_X12_figureText_2 hM.1 (by omega) ⟨fun c => absurd c (by decide), fun _ => K_pointText hM 2 (d - 1) 0 σ _ (by decide) (by decide) (by omega) hT fun σ1 T1 p1 y1 e1 => ?_⟩))
  rw [show addI 0 1 = 1 by decide] at e1
  subst e1
  refine u_X12_figureText_2 hM.1 (by omega) ⟨fun c => absurd c (by decide), fun _ => K_pointText hM 2 (d - 1) 0 σ1 _ (by decide) (by decide) (by omega) T1 fun σ2 T2 p2 y2 e2 => ?_⟩
  rw [show addI 1 1 = 2 by decide] at e2
  subst e2
  refine u_X12_figureText_2 hM.1 (by omega) ⟨fun c => absurd c (by decide), fun _ => K_pointText hM 2 (d - 1) 0 σ2 _ (by decide) (by decide) (by omega) T2 fun σ3 T3 p3 y3 e3 => ?_⟩
  rw [show addI 2 1 = 3 by decide] at e3
  subst e3
  have fg : σ3 b 22 = 0 → Fig3 f z (σ b 21) := fun c => by
    obtain ⟨c1, c2⟩ := p3 c
    obtain ⟨c3, c4⟩ := p2 c1
    obtain ⟨c5, c6⟩ := p1 c3
    exact ⟨_, _, _, c6, c4, c2⟩
  exact u_X12_figureText_2 hM.1 (by omega) ⟨fun _ => ⟨fun w => h σ3 T3 fg, fun w0 => ⟨fun _ => h σ3 T3 fg, fun _ => T_wrongs hM T3 (by decide) fun σ4 T4 n4 => h σ4 T4 (fun c => absurd c n4)⟩⟩, fun c => absurd (by decide) c⟩
/-- a point is worked out -/
theorem K_point (hM : ModL N Λ b) (hz : z ≤ 300) : ∀ (n : Nat) (d : Nat) (x1 x2 e : Int) (σ : Mem) (P : Mem → Prop), n ≤ 2 → 0 ≤ x1 ∧ x1 ≤ 10 → x2 = 11 - 4 * (n : Int) → n + 9 ≤ d → RI ω σ b → σ (b + 15) = f → σ b 20 = z → (σ b 8 = 0 → 0 ≤ σ b 21 ∧ PtN f z n (σ b 21) e) → (∀ σ', RI ω σ' b → σ' (b + 15) = f → σ' b 20 = z → (σ' b 8 = 0 → 0 ≤ σ' b 21 ∧ σ' b 21 = e) → P σ') → CV l mX12_point d [(2, b), (0, x1), (0, x2)] N Λ σ P := by
  intro n
  induction n with
  | zero =>
    intro d x1 x2 e σ P hn hx ex hd R hf hs hp h
    have lp : ∀ (m : Nat) (x3 : Int) (σ : Mem), 0 ≤ x3 → (10 - x3).toNat < m → RI ω σ b → σ (b + 15) = f → σ b 20 = z → (0 ≤ σ b 21 ∧ PtN f z 0 (σ b 21) e) → WV l mX12_point d P 10 [(2, b), (0, x1), (0, x2), (0, x3)] [] N Λ σ := by
      intro m
      induction m with
      | zero => intros; omega
      | succ m ih =>
        intro x3 σ i0 g R hf hs hp
        obtain ⟨p0, p1, p2, p3⟩ := hp
        refine u_X12_point_10 hM.1 (by omega) ⟨fun _ => K_see hM R hf hs p0 fun v2 s2 => ⟨fun q => by omega, fun q => K_see hM R hf hs p0 fun v12 s12 => ?_⟩, fun q => ?_⟩
        · have ev : addI (addI 6 (mulI 10 x1)) (subI v12 97) = 6 + 10 * x1 + (v12 - 97) := by
            rw [subI_e (by omega) (by omega), mulI_e (by omega) (by omega), addI_e (x := 6) (by omega) (by omega), addI_e (by omega) (by omega)]
          rw [ev]
          refine R_puts hM R (by omega) (by omega) (by decide) (by omega) fun v14 σ13 R13 A13 τ15 e15 => ?_
          have w := A13.w
          rw [w.1 21 (by decide), addI_e (by have := PtN_b (n := 0) (f := f) (z := z) (s := σ b 21) (e := e) ⟨p1, p2, p3⟩; omega) (by omega)] at e15
          refine h τ15 (R13.fo e15 (by decide)) (by rw [e15, st_ne (by omega), w.2 _ (by omega)]; exact hf) (by rw [e15, st_nj (by decide), w.1 _ (by decide)]; exact hs) (fun _ => ?_)
          rw [e15, st_eq]
          omega
        · rw [show addI (addI 6 (mulI 10 x1)) x3 = 6 + 10 * x1 + x3 by rw [mulI_e (by omega) (by omega), addI_e (x := 6) (by omega) (by omega), addI_e (by omega) (by omega)]]
          refine K_empties hM R (by omega) fun σ16 R16 A16 y17 e17 => ?_
          have w := A16.w
          rw [e17, addI_e (by omega) (by omega)]
          exact ih (x3 + 1) σ16 (by omega) (by omega) R16 (by rw [w.2 _ (by omega)]; exact hf) (by rw [w.1 _ (by decide)]; exact hs) (by rw [w.1 _ (by decide)]; exact ⟨p0, p1, p2, p3⟩)
    exact c_X12_point (u_X12_point_0 hM.1 ⟨fun b0 => lp 11 0 σ (by decide) (by decide) R hf hs (hp b0), fun bn => h σ R hf hs (fun c => absurd c bn)⟩)
  | succ n IH =>
    intro d x1 x2 e σ P hn hx ex hd R hf hs hp h
    have x4 : addI x2 4 = 11 - 4 * (n : Int) := by rw [addI_e (by omega) (by omega)]; omega
    have y1 : addI x2 1 = x2 + 1 := addI_e (by omega) (by omega)
    have y2 : addI x2 2 = x2 + 2 := addI_e (by omega) (by omega)
    have y3 : addI x2 3 = x2 + 3 := addI_e (by omega) (by omega)
    have lp : ∀ (m : Nat) (x3 : Int) (σ : Mem), 0 ≤ x3 → (10 - x3).toNat < m → RI ω σ b → σ (b + 15) = f → σ b 20 = z → (0 ≤ σ b 21 ∧ PtN f z (n + 1) (σ b 21) e) → WV l mX12_point d P 10 [(2, b), (0, x1), (0, x2), (0, x3)] [] N Λ σ := by
      intro m
      induction m with
      | zero => intros; omega
      | succ m ih =>
        intro x3 σ i0 g R hf hs hp
        obtain ⟨p0, pp⟩ := hp
        have pb := PtN_b pp
        refine u_X12_point_10 hM.1 (by omega) ⟨fun _ => K_see hM R hf hs p0 fun v2 s2 => ⟨fun q τ3 e3 => ?_, fun q => K_see hM R hf hs p0 fun v12 s12 => ?_⟩, fun q => ?_⟩
        · rcases pp with ⟨a1, a2, a3⟩ | ⟨a1, a2, e1, e2, e3', e4, g1, g2, g3, g4, g5, g6⟩
          · omega
          have b1 := PtN_b g1
          have b2 := PtN_b g2
          have b3 := PtN_b g3
          have b4 := PtN_b g4
          rw [addI_e (by omega) (by omega)] at e3
          have s3 : τ3 b 21 = σ b 21 + 1 := by rw [e3, st_eq]
          refine IH (d - 1) x2 (addI x2 4) e1 τ3 _ (by omega) (by omega) x4 (by omega) (R.fo e3 (by decide)) (by rw [e3, st_ne (by omega)]; exact hf) (by rw [e3, st_nj (by decide)]; exact hs) (fun _ => ⟨by omega, by rw [s3]; exact g1⟩) fun σ4 R4 f4 z4 c4 => ?_
          rw [y1, y2, y3]
          refine IH (d - 1) (x2 + 1) (addI x2 4) e2 σ4 _ (by omega) (by omega) x4 (by omega) R4 f4 z4 (fun c => ⟨(c4 c).1, by rw [(c4 c).2]; exact g2⟩) fun σ5 R5 f5 z5 c5 τ6 e6 => ?_
          have s6 : σ5 b 8 = 0 → τ6 b 21 = e2 + 1 := fun c => by
            rw [e6, st_eq, (c5 c).2, addI_e (by omega) (by omega)]
          have t6 : τ6 b 8 = σ5 b 8 := by rw [e6, st_nj (by decide)]
          refine IH (d - 1) (x2 + 2) (addI x2 4) e3' τ6 _ (by omega) (by omega) x4 (by omega) (R5.fo e6 (by decide)) (by rw [e6, st_ne (by omega)]; exact f5) (by rw [e6, st_nj (by decide)]; exact z5) (fun c => ?_) fun σ7 R7 f7 z7 c7 => IH (d - 1) (x2 + 3) (addI x2 4) e4 σ7 _ (by omega) (by omega) x4 (by omega) R7 f7 z7 (fun c => ⟨(c7 c).1, by rw [(c7 c).2]; exact g4⟩) fun σ8 R8 f8 z8 c8 τ9 e9 => ?_
          · rw [t6] at c
            rw [s6 c]
            exact ⟨by omega, g3⟩
          · have s9 : σ8 b 8 = 0 → τ9 b 21 = e4 + 1 := fun c => by
              rw [e9, st_eq, (c8 c).2, addI_e (by omega) (by omega)]
            have t9 : τ9 b 8 = σ8 b 8 := by rw [e9, st_nj (by decide)]
            by_cases b9 : σ8 b 8 = 0
            · have u9 := s9 b9
              refine K_meets hM (R8.fo e9 (by decide)) (by omega) (by omega) (by omega) fun σ10 R10 w10 => h σ10 R10 (by rw [w10.2 _ (by omega), e9, st_ne (by omega)]; exact f8) (by rw [w10.1 _ (by decide), e9, st_nj (by decide)]; exact z8) (fun _ => ?_)
              rw [w10.1 _ (by decide), u9]
              omega
            · refine c_X12_meets (u_X12_meets_0 hM.1 (by omega) ⟨fun c => absurd (t9.symm.trans c) b9, fun c => h τ9 (R8.fo e9 (by decide)) (by rw [e9, st_ne (by omega)]; exact f8) (by rw [e9, st_nj (by decide)]; exact z8) (fun c' => absurd c' c)⟩)
        · have lt : 97 ≤ v12 ∧ v12 ≤ 106 ∧ e = σ b 21 + 1 := by
            rcases pp with ⟨a1, a2, a3⟩ | ⟨a1, a2, _⟩
            · omega
            · omega
          have ev : addI (addI 6 (mulI 10 x1)) (subI v12 97) = 6 + 10 * x1 + (v12 - 97) := by
            rw [subI_e (by omega) (by omega), mulI_e (by omega) (by omega), addI_e (x := 6) (by omega) (by omega), addI_e (by omega) (by omega)]
          rw [ev]
          refine R_puts hM R (by omega) (by omega) (by decide) (by omega) fun v14 σ13 R13 A13 τ15 e15 => ?_
          have w := A13.w
          rw [w.1 21 (by decide), addI_e (by omega) (by omega)] at e15
          refine h τ15 (R13.fo e15 (by decide)) (by rw [e15, st_ne (by omega), w.2 _ (by omega)]; exact hf) (by rw [e15, st_nj (by decide), w.1 _ (by decide)]; exact hs) (fun _ => ?_)
          rw [e15, st_eq]
          omega
        · rw [show addI (addI 6 (mulI 10 x1)) x3 = 6 + 10 * x1 + x3 by rw [mulI_e (by omega) (by omega), addI_e (x := 6) (by omega) (by omega), addI_e (by omega) (by omega)]]
          refine K_empties hM R (by omega) fun σ16 R16 A16 y17 e17 => ?_
          have w := A16.w
          rw [e17, addI_e (by omega) (by omega)]
          exact ih (x3 + 1) σ16 (by omega) (by omega) R16 (by rw [w.2 _ (by omega)]; exact hf) (by rw [w.1 _ (by decide)]; exact hs) (by rw [w.1 _ (by decide)]; exact ⟨p0, pp⟩)
    exact c_X12_point (u_X12_point_0 hM.1 ⟨fun b0 => lp 11 0 σ (by decide) (by decide) R hf hs (hp b0), fun bn => h σ R hf hs (fun c => absurd c bn)⟩)
end TFG
end KT
