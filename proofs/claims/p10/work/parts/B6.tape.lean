/-! texts on any object -/
variable {ω : Mem}
theorem GI.gen {σ σ' : Mem} {t : Int} (h : GI ω σ t) (D : Int → Prop) (hs : ∀ c', ¬ D c' → σ' c' = σ c') (hnp : ∀ c', D c' → NP t c') (hok : ∀ c' j, D c' → Ok t c' j (σ' c' j)) (hr : ∀ c', D c' → t ≤ c' ∧ c' < t + 646 ∧ c' ≠ t + 246 := by (intro c' hc'; first | omega | (dsimp only at hc'; omega))) : GI ω σ' t := by
  refine ⟨fun a ha => ?_, fun c j => ?_, fun c' hc' => by rw [hs c' (fun z => by have := hr c' z; omega)]; exact h.fr hc'⟩
  · have nd : ∀ c', (c' = a ∨ c' = a + 1 ∨ c' = a + 2) → ¬ D c' := fun c' hc hD => by
      have q := (hnp c' hD).ne a ha
      rcases hc with hc | hc | hc
      · exact q.1 hc
      · exact q.2.1 hc
      · exact q.2.2 hc
    exact (h.1 a ha).same (hs _ (nd _ (Or.inl rfl))) (hs _ (nd _ (Or.inr (Or.inl rfl)))) (hs _ (nd _ (Or.inr (Or.inr rfl))))
  · by_cases hD : D c
    · exact hok c j hD
    · rw [hs c hD]
      exact h.ok c j
theorem NP.mid {t c : Int} (h0 : t + 245 ≤ c) (h1 : c ≤ t + 255) : NP t c := Or.inr (Or.inr (Or.inr (Or.inr (Or.inl ⟨h0, h1⟩))))
theorem NP.low {t c : Int} (h0 : t + 569 ≤ c) (h1 : c ≤ t + 595) : NP t c := Or.inr (Or.inr (Or.inr (Or.inr (Or.inr (Or.inr (Or.inl ⟨h0, h1⟩))))))
theorem Ok.tape {t j v : Int} (h : j ≠ 1) : Ok t (t + 247) j v := by
  refine ⟨fun e => ?_, fun _ e => absurd e h, fun e => ?_, fun e => ?_, fun e => ?_, fun e => ?_, fun e => ?_, fun e => ?_, fun e => ?_⟩ <;> omega
theorem Ok.size {t v : Int} (h : 0 ≤ v ∧ v ≤ 300) : Ok t (t + 247) 1 v := by
  refine ⟨fun e => ?_, fun _ _ => h, fun e => ?_, fun e => ?_, fun e => ?_, fun e => ?_, fun e => ?_, fun e => ?_, fun e => ?_⟩ <;> omega
section GT6
variable {l : Launch} {d N : Nat} {Λ : Lay} {σ : Mem} {t : Int}
theorem GI.sz {σ : Mem} (h : GI ω σ t) : 0 ≤ σ (t + 247) 1 ∧ σ (t + 247) 1 ≤ 300 := (h.ok (t + 247) 1).2.1 rfl rfl
theorem G_behind {P : Int → Mem → Prop} {s b : Int} (hd : 1 ≤ d) (hs : 0 ≤ s ∧ s ≤ 7) (h1 : P (-1) σ) (h : ∀ v, 0 ≤ v → v ≤ 7 → (3 ≤ s → s ≤ 5 → 97 ≤ b ∧ b ≤ 106 ∧ v = s + 1) → (b = 91 → v = 3) → P v σ) : CI l mX9_behind d [(0, s), (0, b)] N Λ σ P := by
  refine c_X9_behind (v_X9_behind_0 hd ?_)
  have lf : ∀ v, 0 ≤ v → v ≤ 7 → ¬ (3 ≤ s ∧ s ≤ 5) → (b = 91 → v = 3) → P v σ := fun v v0 v1 hn hb => h v v0 v1 (fun g0 g1 => absurd ⟨g0, g1⟩ hn) hb
  refine ⟨fun q1 => ⟨fun q2 => ⟨fun q3 => ⟨fun q4 => ⟨fun _ => lf 1 (by decide) (by decide) (by clear h lf; omega) (fun e => absurd e q3), fun _ => h1⟩, fun q4 => ⟨fun q5 => ⟨fun _ => h1, fun q6 => ⟨fun _ => h1, fun q7 => ⟨fun _ => h1, fun q8 => lf 2 (by decide) (by decide) (by clear h lf; omega) (fun e => absurd e q3)⟩⟩⟩, fun q5 => ⟨fun _ => lf 1 (by decide) (by decide) (by clear h lf; omega) (fun e => absurd e q3), fun _ => h1⟩⟩⟩, fun q3 => lf 3 (by decide) (by decide) (by clear h lf; omega) (fun _ => rfl)⟩, fun q2 => absurd q2 (by clear h lf; omega)⟩, fun q1 => ⟨fun q0 => ⟨fun q2 => ⟨fun q3 => ⟨fun q4 => ⟨fun _ => lf 1 (by decide) (by decide) (by clear h lf; omega) (fun e => absurd e q3), fun _ => h1⟩, fun q4 => ⟨fun q5 => ⟨fun _ => h1, fun q6 => ⟨fun _ => h1, fun q7 => ⟨fun _ => h1, fun q8 => lf 2 (by decide) (by decide) (by clear h lf; omega) (fun e => absurd e q3)⟩⟩⟩, fun q5 => ⟨fun _ => lf 1 (by decide) (by decide) (by clear h lf; omega) (fun e => absurd e q3), fun _ => h1⟩⟩⟩, fun q3 => lf 3 (by decide) (by decide) (by clear h lf; omega) (fun _ => rfl)⟩, fun q2 => ⟨fun _ => h1, fun q3 => lf 7 (by decide) (by decide) (by clear h lf; omega) (fun e => by clear h lf; omega)⟩⟩, fun q0 => ⟨fun _ => h1, fun q2 => ⟨fun _ => h1, fun q3 => ?_⟩⟩⟩⟩
  rw [addI_e (by clear h lf; omega) (by clear h lf; omega)]
  exact h _ (by clear h lf; omega) (by clear h lf; omega) (fun _ _ => by clear h lf; omega) (fun e => by clear h lf; omega)
/-- three letters stand behind each [ -/
def TP (σ : Mem) (t n : Int) : Prop := ∀ i : Int, 0 ≤ i → i < n → σ (t + 248) i = 91 → ∀ j : Int, 1 ≤ j → j ≤ 3 → i + j < n → 97 ≤ σ (t + 248) (i + j) ∧ σ (t + 248) (i + j) ≤ 106
def TQ (σ : Mem) (t i s : Int) : Prop := ∀ p : Int, 0 ≤ p → p < i → σ (t + 248) p = 91 → (∀ j : Int, 1 ≤ j → j ≤ 3 → p + j < i → 97 ≤ σ (t + 248) (p + j) ∧ σ (t + 248) (p + j) ≤ 106) ∧ (p + 1 = i → s = 3) ∧ (p + 2 = i → s = 4) ∧ (p + 3 = i → s = 5)
theorem TQ.next {s v i : Int} (h : TQ σ t i s) (hl : 3 ≤ s → s ≤ 5 → 97 ≤ σ (t + 248) i ∧ σ (t + 248) i ≤ 106 ∧ v = s + 1) (hb : σ (t + 248) i = 91 → v = 3) : TQ σ t (i + 1) v := by
  intro p h0 h1 hp
  by_cases hi : p = i
  · subst hi
    have := hb hp
    exact ⟨fun j j0 j1 j2 => by omega, fun _ => this, fun e => by omega, fun e => by omega⟩
  · have q := h p h0 (by omega) hp
    have ql : (p + 1 = i ∨ p + 2 = i ∨ p + 3 = i) → 97 ≤ σ (t + 248) i ∧ σ (t + 248) i ≤ 106 ∧ v = s + 1 := fun e => by
      rcases e with e | e | e
      · have := q.2.1 e; exact hl (by omega) (by omega)
      · have := q.2.2.1 e; exact hl (by omega) (by omega)
      · have := q.2.2.2 e; exact hl (by omega) (by omega)
    refine ⟨fun j j0 j1 j2 => ?_, fun e => by omega, fun e => ?_, fun e => ?_⟩
    · by_cases hj : p + j = i
      · rw [hj]
        have := ql (by omega)
        exact ⟨this.1, this.2.1⟩
      · exact q.1 j j0 j1 (by omega)
    · have a := q.2.1 (by omega)
      have := (ql (by omega)).2.2
      omega
    · have a := q.2.2.1 (by omega)
      have := (ql (by omega)).2.2
      omega
theorem GI.note {τ1 τ2 : Mem} {a b : Int} (h : GI ω σ t) (e1 : τ1 = st σ (t + 247) 2 a) (e2 : τ2 = st τ1 (t + 247) 3 b) : GI ω τ2 t ∧ ∀ c', c' ≠ t + 247 → τ2 c' = σ c' :=
  ⟨(h.sto e1 (NP.mid (by omega) (by omega)).ne (Ok.tape (by decide))).sto e2 (NP.mid (by omega) (by omega)).ne (Ok.tape (by decide)), fun c' g => by rw [e2, st_ne g, e1, st_ne g]⟩
theorem gtp_lp {P : Int → Mem → Prop} {n : Int} (hX : DX N Λ t) (hG : GI ω σ t) (hn : 0 ≤ n ∧ n ≤ 300) (hd : 2 ≤ d) (h0 : ∀ σ', GI ω σ' t → (∀ c', c' ≠ t + 247 → σ' c' = σ c') → P 0 σ') (h1 : ∀ σ', GI ω σ' t → (∀ c', c' ≠ t + 247 → σ' c' = σ c') → TP σ t n → P 1 σ') : ∀ (m : Nat) (s x3 x4 i : Int), 0 ≤ i → (n - i).toNat ≤ m → 0 ≤ s ∧ s ≤ 7 → TQ σ t i s → i ≤ n → WI l mX9_tellsPolynomial d P 10 [(2, t + 247), (0, n), (0, s), (0, x3), (0, x4), (0, i), (3, 0)] [] N Λ σ := by
  have hT := hX.2.2.2.2.2.2.1
  have no : ∀ (k : Int) (τ1 τ2 : Mem) (x : Int), ¬ k = 0 → τ1 = st σ (t + 247) 2 k → τ2 = st τ1 (t + 247) 3 x → ((¬ (k : Int) = 0 → P 0 τ2) ∧ ((k : Int) = 0 → P 1 τ2)) := fun k τ1 τ2 x hk e1 e2 => ⟨fun _ => h0 _ (hG.note e1 e2).1 (hG.note e1 e2).2, fun hc => absurd hc hk⟩
  have ye : ∀ (τ1 τ2 : Mem), TP σ t n → τ1 = st σ (t + 247) 2 0 → τ2 = st τ1 (t + 247) 3 (-1) → ((¬ (0 : Int) = 0 → P 0 τ2) ∧ ((0 : Int) = 0 → P 1 τ2)) := fun τ1 τ2 hp e1 e2 => ⟨fun hc => absurd rfl hc, fun _ => h1 _ (hG.note e1 e2).1 (hG.note e1 e2).2 hp⟩
  intro m
  induction m with
  | zero =>
    intro s x3 x4 i g0 g1 hs hq hi
    have hp : TP σ t n := fun p p0 p1 pb j j0 j1 j2 => (hq p p0 (by omega) pb).1 j j0 j1 (by omega)
    exact v_X9_tellsPolynomial_10 hT.1 hT.2.1 (by omega) ⟨fun _ => ⟨fun _ τ1 e1 τ2 e2 => ye _ _ hp e1 e2, fun _ => ⟨fun _ τ1 e1 τ2 e2 => ye _ _ hp e1 e2, fun _ => ⟨fun _ τ1 e1 τ2 e2 => no 1 _ _ _ (by decide) e1 e2, fun _ τ1 e1 τ2 e2 => ye _ _ hp e1 e2⟩⟩⟩, fun hc => by omega⟩
  | succ m ih =>
    intro s x3 x4 i g0 g1 hs hq hi
    have hp : n ≤ i → TP σ t n := fun hni p p0 p1 pb j j0 j1 j2 => (hq p p0 (by omega) pb).1 j j0 j1 (by omega)
    refine v_X9_tellsPolynomial_10 hT.1 hT.2.1 (by omega) ⟨fun hni => ⟨fun _ τ1 e1 τ2 e2 => ye _ _ (hp hni) e1 e2, fun _ => ⟨fun _ τ1 e1 τ2 e2 => ye _ _ (hp hni) e1 e2, fun _ => ⟨fun _ τ1 e1 τ2 e2 => no 1 _ _ _ (by decide) e1 e2, fun _ τ1 e1 τ2 e2 => ye _ _ (hp hni) e1 e2⟩⟩⟩, fun hc => ⟨Ix.of hT.2.2.2.2.1 g0 (by omega), G_behind (by omega) hs ?_ (fun v v0 v1 hl hb => ?_)⟩⟩
    · exact ⟨fun hc => absurd rfl hc, fun _ τ1 e1 τ2 e2 => no 1 _ _ _ (by decide) e1 e2⟩
    · rw [show t + 247 + 1 = t + 248 by omega] at hl hb
      have hq' := hq.next hl hb
      have nx : ∀ (a b y : Int), y = addI i 1 → WI l mX9_tellsPolynomial d P 10 [(2, t + 247), (0, n), (0, v), (0, a), (0, b), (0, y), (3, 0)] [] N Λ σ := fun a b y e => by
        rw [e, addI_e (by omega) (by omega)]
        exact ih v a b (i + 1) (by omega) (by omega) ⟨v0, v1⟩ hq' (by omega)
      exact ⟨fun _ => ⟨fun _ => ⟨fun _ => ⟨fun _ => ⟨fun _ y e => nx _ _ _ e, fun _ τ1 e1 τ2 e2 => no 3 _ _ _ (by decide) e1 e2⟩, fun _ y14 _ => ⟨fun _ y e => nx _ _ _ e, fun _ τ1 e1 τ2 e2 => no 3 _ _ _ (by decide) e1 e2⟩⟩, fun _ => ⟨fun _ y e => nx _ _ _ e, fun _ y19 _ => ⟨fun _ y e => nx _ _ _ e, fun _ τ1 e1 τ2 e2 => no 3 _ _ _ (by decide) e1 e2⟩⟩⟩, fun _ y23 _ => ⟨fun _ => ⟨fun _ => ⟨fun _ => ⟨fun _ y e => nx _ _ _ e, fun _ τ1 e1 τ2 e2 => no 3 _ _ _ (by decide) e1 e2⟩, fun _ y27 _ => ⟨fun _ y e => nx _ _ _ e, fun _ τ1 e1 τ2 e2 => no 3 _ _ _ (by decide) e1 e2⟩⟩, fun _ => ⟨fun _ y e => nx _ _ _ e, fun _ y32 _ => ⟨fun _ y e => nx _ _ _ e, fun _ τ1 e1 τ2 e2 => no 3 _ _ _ (by decide) e1 e2⟩⟩⟩, fun _ τ1 e1 τ2 e2 => no 2 _ _ _ (by decide) e1 e2⟩⟩, fun _ τ1 e1 τ2 e2 => no 1 _ _ _ (by decide) e1 e2⟩
theorem G_tp {P : Int → Mem → Prop} {n : Int} (hX : DX N Λ t) (hG : GI ω σ t) (hn : 0 ≤ n ∧ n ≤ 300) (hd : 2 ≤ d) (h0 : ∀ σ', GI ω σ' t → (∀ c', c' ≠ t + 247 → σ' c' = σ c') → P 0 σ') (h1 : ∀ σ', GI ω σ' t → (∀ c', c' ≠ t + 247 → σ' c' = σ c') → TP σ t n → P 1 σ') : CI l mX9_tellsPolynomial d [(2, t + 247), (0, n)] N Λ σ P :=
  c_X9_tellsPolynomial (v_X9_tellsPolynomial_0 (gtp_lp hX hG hn hd h0 h1 300 0 0 0 0 (by decide) (by omega) (by decide) (fun p p0 p1 => by omega) hn.1))
theorem grp_lp {P : Int → Mem → Prop} {n a : Int} {σ0 : Mem} (hX : DX N Λ t) (pa : PA t a) (hn : 0 ≤ n ∧ n ≤ 300) (hd : 4 ≤ d) (hp : TP σ0 t n) (h : ∀ v σ', GI ω σ' t → (∀ c', c' ≠ a → c' ≠ a + 1 → c' ≠ a + 2 → c' ≠ t + 250 → σ' c' = σ0 c') → P v σ') : ∀ (m : Nat) (v s x5 i : Int) (σ : Mem), 0 ≤ i → (n - i).toNat ≤ m → GI ω σ t → (∀ c', c' ≠ a → c' ≠ a + 1 → c' ≠ a + 2 → c' ≠ t + 250 → σ c' = σ0 c') → WI l mX9_readPolynomial d P 23 [(2, t + 247), (0, n), (2, a), (0, v), (0, s), (0, x5), (0, i), (3, 0)] [] N Λ σ := by
  have hT := hX.2.2.2.2.2.2.1
  have lA := hX.pol pa
  have tc : TC t (t + 247 + 3) := Or.inr (Or.inr (Or.inl (by omega)))
  have np := (NP.mid (t := t) (c := t + 248) (by omega) (by omega)).ne a pa
  intro m
  have fin : ∀ (v s x5 i : Int) (σ : Mem), GI ω σ t → (∀ c', c' ≠ a → c' ≠ a + 1 → c' ≠ a + 2 → c' ≠ t + 250 → σ c' = σ0 c') → ((¬ v = 0 → P v σ) ∧ (v = 0 → ((n ≤ 0 → P v σ) ∧ (¬ (n ≤ 0) → ((¬ x5 = (-1) → (CI l mX5_lay (d - 1 - 1) [(2, a), (1, (σ (t + 247 + 3) 0)), (1, (mulL (mulL s x5) (σ (t + 247 + 3) 1)))] N Λ σ (fun v1 σ2 => P v1 σ2))) ∧ (x5 = (-1) → (CI l mX5_lay (d - 1 - 1) [(2, a), (1, (σ (t + 247 + 3) 0)), (1, (mulL (mulL s 1) (σ (t + 247 + 3) 1)))] N Λ σ (fun v3 σ4 => P v3 σ4)))))))) := fun v s x5 i σ hG hf =>
    ⟨fun _ => h _ _ hG hf, fun _ => ⟨fun _ => h _ _ hG hf, fun _ => ⟨fun _ => G_lay hX hG pa (hG.vk tc) (by omega) fun v1 σ2 hG2 f2 => h _ _ hG2 (fun c' u0 u1 u2 u3 => (f2 c' u0 u1 u2).trans (hf c' u0 u1 u2 u3)), fun _ => G_lay hX hG pa (hG.vk tc) (by omega) fun v1 σ2 hG2 f2 => h _ _ hG2 (fun c' u0 u1 u2 u3 => (f2 c' u0 u1 u2).trans (hf c' u0 u1 u2 u3))⟩⟩⟩
  induction m with
  | zero =>
    intro v s x5 i σ g0 g1 hG hf
    exact v_X9_readPolynomial_23 hT.1 lA.1 hT.2.2.2.1 hT.2.2.2.2.2.2 hT.2.1 (by omega) ⟨fun _ => fin v s x5 i σ hG hf, fun hc => by omega⟩
  | succ m ih =>
    intro v s x5 i σ g0 g1 hG hf
    refine v_X9_readPolynomial_23 hT.1 lA.1 hT.2.2.2.1 hT.2.2.2.2.2.2 hT.2.1 (by omega) ⟨fun _ => fin v s x5 i σ hG hf, fun hc => ⟨fun _ => fin v s x5 i σ hG hf, fun _ => ⟨Ix.of hT.2.2.2.2.1 g0 (by omega), fun y9 e9 => ?_⟩⟩⟩
    have nx : ∀ (v s x5 y : Int) (σ' : Mem), GI ω σ' t → (∀ c', c' ≠ a → c' ≠ a + 1 → c' ≠ a + 2 → c' ≠ t + 250 → σ' c' = σ0 c') → y = addI i 1 → WI l mX9_readPolynomial d P 23 [(2, t + 247), (0, n), (2, a), (0, v), (0, s), (0, x5), (0, y), (3, 0)] [] N Λ σ' := fun v s x5 y σ' hG' hf' e => by
      rw [e, addI_e (by omega) (by omega)]
      exact ih v s x5 (i + 1) σ' (by omega) (by omega) hG' hf'
    have bg : ∀ (v : Int) (σ' : Mem), GI ω σ' t → (∀ c', c' ≠ a → c' ≠ a + 1 → c' ≠ a + 2 → c' ≠ t + 250 → σ' c' = σ0 c') → (∀ τ12, τ12 = st σ' (t + 247 + 3) 0 0 → (∀ τ13, τ13 = st τ12 (t + 247 + 3) 1 1 → ((¬ y9 = 45 → (∀ y14, y14 = addI i 1 → WI l mX9_readPolynomial d P 23 [(2, t + 247), (0, n), (2, a), (0, v), (0, 1), (0, (-1)), (0, y14), (3, 0)] [] N Λ τ13)) ∧ (y9 = 45 → (∀ y15, y15 = addI i 1 → WI l mX9_readPolynomial d P 23 [(2, t + 247), (0, n), (2, a), (0, v), (0, (-1)), (0, (-1)), (0, y15), (3, 0)] [] N Λ τ13))))) := fun v σ' hG' hf' τ12 e12 τ13 e13 => by
      have hG13 := (hG'.tc tc e12 (tc.ok0 VK0)).tc tc e13 (tc.ok1 (by decide))
      have hf13 : ∀ c', c' ≠ a → c' ≠ a + 1 → c' ≠ a + 2 → c' ≠ t + 250 → τ13 c' = σ0 c' := fun c' u0 u1 u2 u3 => by rw [e13, st_ne (by omega), e12, st_ne (by omega)]; exact hf' c' u0 u1 u2 u3
      exact ⟨fun _ y e => nx _ _ _ _ _ hG13 hf13 e, fun _ y e => nx _ _ _ _ _ hG13 hf13 e⟩
    have lay : ∀ w : Int, CI l mX5_lay (d - 1 - 1) [(2, a), (1, (σ (t + 247 + 3) 0)), (1, w)] N Λ σ (fun v10 σ11 => (∀ τ12, τ12 = st σ11 (t + 247 + 3) 0 0 → (∀ τ13, τ13 = st τ12 (t + 247 + 3) 1 1 → ((¬ y9 = 45 → (∀ y14, y14 = addI i 1 → WI l mX9_readPolynomial d P 23 [(2, t + 247), (0, n), (2, a), (0, v10), (0, 1), (0, (-1)), (0, y14), (3, 0)] [] N Λ τ13)) ∧ (y9 = 45 → (∀ y15, y15 = addI i 1 → WI l mX9_readPolynomial d P 23 [(2, t + 247), (0, n), (2, a), (0, v10), (0, (-1)), (0, (-1)), (0, y15), (3, 0)] [] N Λ τ13)))))) := fun w => G_lay hX hG pa (hG.vk tc) (by omega) fun v1 σ2 hG2 f2 => bg _ _ hG2 (fun c' u0 u1 u2 u3 => (f2 c' u0 u1 u2).trans (hf c' u0 u1 u2 u3))
    have att : y9 = 91 → ¬ n ≤ addI i 3 → (Ix N Λ (t + 247 + 1) 0 (addI i 1) ∧ (Ix N Λ (t + 247 + 1) 0 (addI i 2) ∧ (Ix N Λ (t + 247 + 1) 0 (addI i 3) ∧ (CV l mX10_attach (d - 1) [(2, t + 247 + 3), (0, (orI (orI (shlI (subI (σ (t + 247 + 1) (addI i 1)) 97) 8) (shlI (subI (σ (t + 247 + 1) (addI i 2)) 97) 4)) (subI (σ (t + 247 + 1) (addI i 3)) 97)))] N Λ σ (fun σ28 => (∀ y29, y29 = addI i 1 → WI l mX9_readPolynomial d P 23 [(2, t + 247), (0, n), (2, a), (0, v), (0, s), (0, x5), (0, y29), (3, 0)] [] N Λ σ28)))))) := fun h91 hn3 => by
      rw [addI_e (x := i) (y := 3) (by omega) (by omega)] at hn3
      rw [addI_e (x := i) (y := 1) (by omega) (by omega), addI_e (x := i) (y := 2) (by omega) (by omega), addI_e (x := i) (y := 3) (by omega) (by omega), show t + 247 + 1 = t + 248 by omega]
      have eb : σ (t + 248) = σ0 (t + 248) := hf _ np.1 np.2.1 np.2.2 (by omega)
      have hb : σ0 (t + 248) i = 91 := by rw [← eb, ← h91, e9, show t + 247 + 1 = t + 248 by omega]
      have l1 := hp i g0 (by omega) hb 1 (by decide) (by decide) (by omega)
      have l2 := hp i g0 (by omega) hb 2 (by decide) (by decide) (by omega)
      have l3 := hp i g0 (by omega) hb 3 (by decide) (by decide) (by omega)
      rw [eb, subI_e (x := σ0 (t + 248) (i + 1)) (by omega) (by omega), subI_e (x := σ0 (t + 248) (i + 2)) (by omega) (by omega), subI_e (x := σ0 (t + 248) (i + 3)) (by omega) (by omega), row_e (by omega) (by omega) (by omega)]
      have ix : ∀ j : Int, 0 ≤ j → j < 300 → Ix N Λ (t + 248) 0 j := fun j u0 u1 => by
        have o := hT.2.2.2.2.1
        rw [show t + 247 + 1 = t + 248 by omega] at o
        exact Ix.of o u0 u1
      refine ⟨ix _ (by omega) (by omega), ix _ (by omega) (by omega), ix _ (by omega) (by omega), G_attach (m := 0) hT.2.2.2.2.2.2 hG tc (NbN_3 (by omega) (by omega) (by omega)) (by omega) (by omega) fun σ28 hG28 f28 y29 e29 => ?_⟩
      rw [e29]
      exact ih v s x5 (i + 1) σ28 (by omega) (by omega) hG28 (fun c' u0 u1 u2 u3 => (f28 c' (by omega)).trans (hf c' u0 u1 u2 u3))
    exact ⟨fun _ => ⟨fun _ => ⟨fun _ => lay _, fun _ => lay _⟩, fun _ => bg _ _ hG hf⟩, fun _ => ⟨fun _ => ⟨fun _ => ⟨fun _ y e => nx _ _ _ _ _ hG hf e, fun h91 => ⟨fun _ y e => nx _ _ _ _ _ hG hf e, fun hn3 => att h91 hn3⟩⟩, fun _ => ⟨fun _ => ⟨fun _ y e => nx _ _ _ _ _ hG hf e, fun h91 => ⟨fun _ y e => nx _ _ _ _ _ hG hf e, fun hn3 => att h91 hn3⟩⟩, fun _ => ⟨fun _ y34 _ y e => nx _ _ _ _ _ hG hf e, fun _ y36 _ y e => nx _ _ _ _ _ hG hf e⟩⟩⟩, fun _ => ⟨fun _ => ⟨fun _ => lay _, fun _ => lay _⟩, fun _ => bg _ _ hG hf⟩⟩⟩
theorem G_rp {P : Int → Mem → Prop} {n a : Int} (hX : DX N Λ t) (hG : GI ω σ t) (pa : PA t a) (hn : 0 ≤ n ∧ n ≤ 300) (hd : 4 ≤ d) (hp : TP σ t n) (h : ∀ v σ', GI ω σ' t → (∀ c', c' ≠ a → c' ≠ a + 1 → c' ≠ a + 2 → c' ≠ t + 250 → σ' c' = σ c') → P v σ') : CI l mX9_readPolynomial d [(2, t + 247), (0, n), (2, a)] N Λ σ P := by
  have hT := hX.2.2.2.2.2.2.1
  have lA := hX.pol pa
  have tc : TC t (t + 247 + 3) := Or.inr (Or.inr (Or.inl (by omega)))
  refine c_X9_readPolynomial (v_X9_readPolynomial_0 lA.1 hT.1 hT.2.2.2.1 hT.2.2.2.2.2.2 (by omega) fun τ1 e1 τ2 e2 τ3 e3 => ?_)
  have hG3 := ((hG.emp pa e1).tc tc e2 (tc.ok0 VK0)).tc tc e3 (tc.ok1 (by decide))
  exact grp_lp hX pa hn hd hp h 300 0 1 (-1) 0 τ3 (by decide) (by omega) hG3 (fun c' u0 u1 u2 u3 => by rw [e3, st_ne (by omega), e2, st_ne (by omega), e1, st_ne u0])
end GT6
