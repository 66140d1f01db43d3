variable {ω : Mem}
theorem fou0 {x y z u v w : Int} (hx : 0 ≤ x ∧ x < 10) (hy : 0 ≤ y ∧ y < 10) (hz : 0 ≤ z ∧ z < 10) (hu : 0 ≤ u ∧ u < 10) (hv : 0 ≤ v ∧ v < 10) (hw : 0 ≤ w ∧ w < 10) : andI (orI (shlI (256 * x + 16 * y + z) (mulI 4 0)) (shrI (256 * u + 16 * v + w) 12)) 65535 = 4096 * 0 + 256 * x + 16 * y + z := by
  have e1 : shlI (256 * x + 16 * y + z) 0 = 256 * x + 16 * y + z := by
    rw [shlI_e (by decide) (by decide) (by omega) (by show (256 * x + 16 * y + z) * 2 ^ 0 ≤ _; rw [show (256 * x + 16 * y + z) * 2 ^ 0 = 256 * x + 16 * y + z from Int.mul_one _]; omega)]
    exact Int.mul_one _
  have e2 : shrI (256 * u + 16 * v + w) 12 = 0 := by
    rw [shrI_e ⟨by omega, by omega⟩ (by decide) (by decide)]
    show (256 * u + 16 * v + w) / 2 ^ 12 = 0
    omega
  rw [show mulI 4 0 = 0 by decide, e1, e2, orI_z ⟨by omega, by omega⟩, andI_65535 ⟨by omega, by omega⟩]
  omega
theorem ahd0 {x y z : Int} (hx : 0 ≤ x ∧ x < 10) (hy : 0 ≤ y ∧ y < 10) (hz : 0 ≤ z ∧ z < 10) : shrI (256 * x + 16 * y + z) (mulI 4 (subI 4 0)) = 0 := by
  rw [show mulI 4 (subI 4 0) = 16 by decide, shrI_e ⟨by omega, by omega⟩ (by decide) (by decide)]
  show (256 * x + 16 * y + z) / 2 ^ 16 = 0
  omega
theorem fr_i {x y z u : Int} (hx : 0 ≤ x ∧ x < 10) (hy : 0 ≤ y ∧ y < 10) (hz : 0 ≤ z ∧ z < 10) (hu : 0 ≤ u ∧ u < 10) : ∀ i : Int, 0 ≤ i → i ≤ 3 → 0 ≤ andI (shrI (4096 * x + 256 * y + 16 * z + u) (mulI 4 i)) 15 ∧ andI (shrI (4096 * x + 256 * y + 16 * z + u) (mulI 4 i)) 15 < 10 := by
  intro i h0 h1
  have e := fr_e hx hy hz hu
  have ci : i = 0 ∨ i = 1 ∨ i = 2 ∨ i = 3 := by omega
  rcases ci with rfl | rfl | rfl | rfl
  · rw [e.2.2.2]; exact hu
  · rw [e.2.2.1]; exact hz
  · rw [e.2.1]; exact hy
  · rw [e.1]; exact hx
section GX
variable {l : Launch} {d N : Nat} {Λ : Lay} {σ : Mem} {t : Int}
/-- nothing changes but a polynomial and the straightener's term -/
def FrX (σ σ' : Mem) (t a : Int) : Prop := ∀ c', c' ≠ a → c' ≠ a + 1 → c' ≠ a + 2 → c' ≠ t + 252 → σ' c' = σ c'
theorem glx_lp {P : Int → Mem → Prop} {a x2 y0 y1 y2 x4 x5 x7 x10 x11 : Int} {σ0 : Mem} (hX : DX N Λ t) (pa : PA t a) (hd : 4 ≤ d) (h1 : NbN 2 (shrI x2 (mulI 4 (subI 4 x4)))) (h2 : ∀ i : Int, 0 ≤ i → i ≤ 3 → 0 ≤ andI (shrI x11 (mulI 4 i)) 15 ∧ andI (shrI x11 (mulI 4 i)) 15 < 10) (hy0 : 0 ≤ y0 ∧ y0 < 10) (hy1 : 0 ≤ y1 ∧ y1 < 10) (hy2 : 0 ≤ y2 ∧ y2 < 10) (h10 : x10 = 0 ∨ x10 = 4 ∨ x10 = 8 ∨ x10 = 12) (ho : VK x5) (h : ∀ v σ', GI ω σ' t → FrX σ0 σ' t a → P v σ') : ∀ (m : Nat) (i x9 : Int) (σ : Mem), i ≤ 15 → -1 ≤ i → (i + 1).toNat ≤ m → GI ω σ t → FrX σ0 σ t a →
    WI l mX8_layExchange d P 31 [(2, t + 251), (2, a), (0, x2), (0, 256 * y0 + 16 * y1 + y2), (0, x4), (1, x5), (3, 0), (1, x7), (3, 0), (0, x9), (0, x10), (0, x11), (0, i), (3, 0)] [] N Λ σ := by
  have hL := hX.2.2.2.2.2.2.2.1
  have lA := hX.pol pa
  have tc : TC t (t + 251 + 1) := Or.inr (Or.inl (by omega))
  intro m
  induction m with
  | zero => intro i x9 σ g0 g1 g2 hG hf; exact v_X8_layExchange_31 hL.1 hL.2.1 hL.2.2 lA.1 (by omega) ⟨fun _ => h _ σ hG hf, fun hc => by omega⟩
  | succ m ih =>
    intro i x9 σ g0 g1 g2 hG hf
    refine v_X8_layExchange_31 hL.1 hL.2.1 hL.2.2 lA.1 (by omega) ⟨fun _ => h _ σ hG hf, fun hc => ⟨fun _ => h _ σ hG hf, fun _ => g_bit fun v => ⟨fun _ y3 e3 => ?_, fun _ τ4 e4 τ5 e5 => ?_⟩⟩⟩
    · rw [e3, addI_e (by omega) (by omega)]
      exact ih _ _ _ (by omega) (by omega) (by omega) hG hf
    · have hG5 := (hG.tc tc e4 (tc.ok0 ho)).tc tc e5 (tc.ok1 (by decide))
      refine G_aw hX hG5 (by omega) h1 h2 hy0 hy1 hy2 h10 fun v7 σ6 hG6 k6 => ?_
      refine G_lay hX hG6 pa (hG6.vk tc) (by omega) fun v9 σ8 hG8 k8 y10 e10 => ?_
      rw [e10, addI_e (by omega) (by omega)]
      refine ih _ _ _ (by omega) (by omega) (by omega) hG8 fun c' u0 u1 u2 u3 => ?_
      rw [k8 c' u0 u1 u2, k6 c' u3, e5, st_ne (by omega), e4, st_ne (by omega)]
      exact hf c' u0 u1 u2 u3
/-- three letters in a row -/
def Rw3 (f : Int) : Prop := ∃ x y z : Int, (0 ≤ x ∧ x < 10) ∧ (0 ≤ y ∧ y < 10) ∧ (0 ≤ z ∧ z < 10) ∧ f = 256 * x + 16 * y + z
theorem G_lxr {P : Int → Mem → Prop} {a x y k o n : Int} (hX : DX N Λ t) (hG : GI ω σ t) (pa : PA t a) (hx : Rw3 x) (hy : Rw3 y) (hk : 0 ≤ k ∧ k ≤ 3) (ho : VK o) (hd : 4 ≤ d) (h : ∀ v σ', GI ω σ' t → FrX σ σ' t a → P v σ') : CI l mX8_layExchange d [(2, t + 251), (2, a), (0, x), (0, y), (0, k), (1, o), (1, n)] N Λ σ P := by
  obtain ⟨a0, a1, a2, ha0, ha1, ha2, rfl⟩ := hx
  obtain ⟨b0, b1, b2, hb0, hb1, hb2, rfl⟩ := hy
  refine c_X8_layExchange (v_X8_layExchange_0 fun y1 e1 y2 e2 => ?_)
  have ck : k = 0 ∨ k = 1 ∨ k = 2 ∨ k = 3 := by omega
  have n1 : NbN 2 a0 := by have := NbN_up _ _ (NbN_s (m := 0) (u := 0) rfl ha0.1 ha0.2); rw [show 16 * 0 + a0 = a0 by omega] at this; exact this
  have n2 : NbN 2 (16 * a0 + a1) := by have := NbN_s (NbN_s (m := 0) (u := 0) rfl ha0.1 ha0.2) ha1.1 ha1.2; rw [show 16 * (16 * 0 + a0) + a1 = 16 * a0 + a1 by omega] at this; exact this
  have n0 : NbN 2 0 := NbN_up _ _ (NbN_up _ _ rfl)
  rcases ck with rfl | rfl | rfl | rfl
  · rw [show mulI 4 (subI 3 0) = 12 by decide] at e1
    subst e1
    rw [fou0 ha0 ha1 ha2 hb0 hb1 hb2] at e2
    subst e2
    exact glx_lp hX pa hd (by rw [ahd0 ha0 ha1 ha2]; exact n0) (fr_i (by decide) ha0 ha1 ha2) hb0 hb1 hb2 (by decide) ho h 16 15 0 σ (by decide) (by decide) (by decide) hG (fun _ _ _ _ _ => rfl)
  · rw [show mulI 4 (subI 3 1) = 8 by decide] at e1
    subst e1
    rw [fou1 ha0 ha1 ha2 hb0 hb1 hb2] at e2
    subst e2
    exact glx_lp hX pa hd (by rw [ahd1 ha0 ha1 ha2]; exact n0) (fr_i ha0 ha1 ha2 hb0) hb0 hb1 hb2 (by decide) ho h 16 15 0 σ (by decide) (by decide) (by decide) hG (fun _ _ _ _ _ => rfl)
  · rw [show mulI 4 (subI 3 2) = 4 by decide] at e1
    subst e1
    rw [fou2 ha0 ha1 ha2 hb0 hb1 hb2] at e2
    subst e2
    exact glx_lp hX pa hd (by rw [ahd2 ha0 ha1 ha2]; exact n1) (fr_i ha1 ha2 hb0 hb1) hb0 hb1 hb2 (by decide) ho h 16 15 0 σ (by decide) (by decide) (by decide) hG (fun _ _ _ _ _ => rfl)
  · rw [show mulI 4 (subI 3 3) = 0 by decide] at e1
    subst e1
    rw [fou3 ha0 ha1 ha2 hb0 hb1 hb2] at e2
    subst e2
    exact glx_lp hX pa hd (by rw [ahd3 ha0 ha1 ha2]; exact n2) (fr_i ha2 hb0 hb1 hb2) hb0 hb1 hb2 (by decide) ho h 16 15 0 σ (by decide) (by decide) (by decide) hG (fun _ _ _ _ _ => rfl)
theorem G_lx {P : Int → Mem → Prop} {a x y k o n : Int} (hX : DX N Λ t) (hG : GI ω σ t) (pa : PA t a) (hx : FB x) (hy : FB y) (hk : 0 ≤ k ∧ k ≤ 3) (ho : VK o) (hd : 4 ≤ d) (h : ∀ v σ', GI ω σ' t → FrX σ σ' t a → P v σ') : CI l mX8_layExchange d [(2, t + 251), (2, a), (0, x), (0, y), (0, k), (1, o), (1, n)] N Λ σ P := G_lxr hX hG pa hx.l hy.l hk ho hd h
/-- nothing changes but a polynomial and the straightener -/
def FrY (σ σ' : Mem) (t a : Int) : Prop := ∀ c', c' ≠ a → c' ≠ a + 1 → c' ≠ a + 2 → c' ≠ t + 252 → c' ≠ t + 251 → σ' c' = σ c'
theorem gst_lp {P : Int → Mem → Prop} {a a1 : Int} {σ0 : Mem} (hX : DX N Λ t) (pa : PA t a) (hd : 5 ≤ d) (h : ∀ v σ', GI ω σ' t → FrY σ0 σ' t a → P v σ') : ∀ (m : Nat) (x3 : Int) (σ : Mem), (900 - σ (t + 251) 0).toNat ≤ m → 0 ≤ σ (t + 251) 0 → σ (t + 251) 0 ≤ 900 → x3 < σ a 2 → GI ω σ t → FrY σ0 σ t a →
    WI l mX8_straighten d P 21 [(2, t + 251), (2, a1), (2, a), (0, x3), (3, 0), (3, 0), (3, 0), (3, 0), (3, 0), (3, 0), (3, 0), (3, 0), (3, 0), (3, 0)] [] N Λ σ := by
  have hL := hX.2.2.2.2.2.2.2.1
  have lA := hX.pol pa
  have np : NP t (t + 251) := Or.inr (Or.inr (Or.inr (Or.inr (Or.inl ⟨by omega, by omega⟩))))
  have npa := np.ne a pa
  have fre : Fre t (t + 251) := by unfold Fre; omega
  intro m
  induction m with
  | zero =>
    intro x3 σ h0 h1 h2 h3 hG hf
    exact v_X8_straighten_21 hL.1 lA.1 lA.2.1 lA.2.2.1 (by omega) ⟨fun _ => ⟨fun _ => h _ σ hG hf, fun _ => h _ σ hG hf⟩, fun _ => ⟨fun _ => ⟨fun _ => h _ σ hG hf, fun _ => h _ σ hG hf⟩, fun hc => by omega⟩⟩
  | succ m ih =>
    intro x3 σ h0 h1 h2 h3 hG hf
    have hsz := (hG.1 a pa).sz
    refine v_X8_straighten_21 hL.1 lA.1 lA.2.1 lA.2.2.1 (by omega) ⟨fun _ => ⟨fun _ => h _ σ hG hf, fun _ => h _ σ hG hf⟩, fun hx => ⟨fun _ => ⟨fun _ => h _ σ hG hf, fun _ => h _ σ hG hf⟩, fun hc y1 e1 => ⟨Ix.of lA.2.2.2.1 (by omega) (by omega), fun y2 e2 => ?_⟩⟩⟩
    have hk : VK y2 := by rw [e2]; exact (hG.1 a pa).key (by omega) h3
    refine gbo (by omega) fun v4 v40 v41 y5 e5 y6 e6 y7 e7 => ⟨Ix.of lA.2.2.2.2 (by omega) (by omega), fun y8 _ => gwo (by omega) hk fun v10 hv10 => ?_⟩
    have d5 : 0 ≤ y5 ∧ y5 ≤ 2 := by rw [e5, divI_e (by omega) (by omega) (by decide) (by decide)]; omega
    have r4 : 0 ≤ remI v4 4 ∧ remI v4 4 ≤ 3 := by rw [remI_e (by omega) (by omega) (by decide) (by decide)]; omega
    have f6 : FB y6 := by rw [e6]; exact fb_at hk d5.1 (by omega)
    have f7 : FB y7 := by rw [e7, addI_e (by omega) (by omega)]; exact fb_at hk (by omega) (by omega)
    clear e2 e5 e6 e7
    refine G_lx hX hG pa f6 f7 r4 hv10 (by omega) fun v12 σ11 hG11 hf11 => ?_
    have hb : y1 = σ a 2 - 1 - x3 := by rw [e1, subI_e (x := σ a 2) (by omega) (by omega), subI_e (by omega) (by omega)]
    clear e1
    have hc11 : σ11 (t + 251) = σ (t + 251) := hf11 _ npa.1 npa.2.1 npa.2.2 (by omega)
    have hfy : FrY σ0 σ11 t a := fun c' u0 u1 u2 u3 u4 => (hf11 c' u0 u1 u2 u3).trans (hf c' u0 u1 u2 u3 u4)
    refine ⟨fun _ τ13 e13 => ?_, fun _ => h _ σ11 hG11 hfy⟩
    rw [hc11, addI_e (by omega) (by omega)] at e13
    have hG13 : GI ω τ13 t := hG11.sto e13 np.ne fre.ok
    have hs13 : τ13 (t + 251) 0 = σ (t + 251) 0 + 1 := by rw [e13, st_eq]
    have hf13 : FrY σ0 τ13 t a := fun c' u0 u1 u2 u3 u4 => by rw [e13, st_ne u4]; exact hfy c' u0 u1 u2 u3 u4
    clear e13 hfy hc11 hf11 hG11
    have hsz2 := (hG13.1 a pa).sz
    rw [subI_e (x := τ13 a 2) (by omega) (by omega), subI_e (by omega) (by omega)]
    refine g_lb' lA (by omega) (by omega) fun v15 h15 h16 => ih v15 τ13 (by omega) (by omega) (by omega) ?_ hG13 hf13
    omega
theorem G_str {P : Int → Mem → Prop} {a a1 : Int} (hX : DX N Λ t) (hG : GI ω σ t) (pa : PA t a) (pb : PA t a1) (hd : 5 ≤ d) (h : ∀ v σ', GI ω σ' t → FrY σ σ' t a → P v σ') : CI l mX8_straighten d [(2, t + 251), (2, a1), (2, a)] N Λ σ P := by
  have hL := hX.2.2.2.2.2.2.2.1
  have lA := hX.pol pa
  have lB := hX.pol pb
  have hsep := pa.sep pb
  have np : NP t (t + 251) := Or.inr (Or.inr (Or.inr (Or.inr (Or.inl ⟨by omega, by omega⟩))))
  have npa := np.ne a pa
  have fre : Fre t (t + 251) := by unfold Fre; omega
  have q := (hG.1 a1 pb).sz
  refine c_X8_straighten (v_X8_straighten_0 lA.1 lB.1 lB.2.1 lA.2.1 lB.2.2.1 lA.2.2.1 hL.1 (by omega) ⟨⟨80, 80, lB.2.2.2.1, lA.2.2.2.1, by omega, by omega, by omega, by omega, by omega⟩, fun τ1 e1 => ?_⟩)
  have t1 : τ1 a1 2 = σ a1 2 := by rw [e1, cpM_ne (by omega)]
  rw [t1]
  refine ⟨⟨80, 80, lB.2.2.2.2, lA.2.2.2.2, by omega, by omega, by omega, by omega, by omega⟩, fun τ2 e2 => ?_⟩
  have t2 : τ2 a1 2 = σ a1 2 := by rw [e2, cpM_ne (by omega), t1]
  rw [t2]
  intro τ3 e3 τ4 e4
  have r := take_gi hG pa pb e1 e2 e3
  have hG4 : GI ω τ4 t := r.1.sto e4 np.ne fre.ok
  have s4 : τ4 a 2 = σ a1 2 := by rw [e4, st_ne (fun z => npa.1 z.symm)]; exact r.2.2
  have z4 : τ4 (t + 251) 0 = 0 := by rw [e4, st_eq]
  have k4 : FrY σ τ4 t a := fun c' u0 u1 u2 u3 u4 => by rw [e4, st_ne u4]; exact r.2.1 c' u0 u1 u2
  clear e1 e2 e3 e4 t1 t2 r
  rw [s4, subI_e (by omega) (by omega)]
  exact g_lb lA (by omega) (by omega) (by omega) fun v h1 h2 => gst_lp hX pa hd h 900 v τ4 (by omega) (by omega) (by omega) (by omega) hG4 k4
/-- a term with other letters -/
theorem gre27 {P : Mem → Prop} {x1 x3 x4 x5 x6 x7 : Int} {σ : Mem} (o : Ob N Λ (t + 595) 19 2) (hG : GI ω σ t) (hk : VK x1) (hp : 0 ≤ x3 ∧ x3 < 10) (hq : 0 ≤ x4 ∧ x4 < 10) (h7 : 0 ≤ x7 ∧ x7 < 4) (hd : 2 ≤ d) (h : ∀ σ', GI ω σ' t → (∀ c', c' ≠ t + 595 → σ' c' = σ c') → WV l mX10_rename d P 14 [(2, t + 595), (1, x1), (3, 0), (0, x3), (0, x4), (0, x5), (0, x6), (0, x7 + 1), (3, 0), (3, 0), (3, 0)] [] N Λ σ') : ∀ (m : Nat) (x8 x9 : Int), x9 + (m : Int) = 3 → m ≤ 3 → NbN (3 - m) x8 → WV l mX10_rename d P 27 [(2, t + 595), (1, x1), (3, 0), (0, x3), (0, x4), (0, x5), (0, x6), (0, x7), (0, x8), (0, x9), (3, 0)] [] N Λ σ := by
  have tc : TC t (t + 595) := Or.inl rfl
  intro m
  induction m with
  | zero =>
    intro x8 x9 h0 h1 hn
    have hb := NbN_b _ _ hn
    have eb : bnd (3 - 0) = 2457 := by decide
    rw [eb] at hb
    refine v_X10_rename_27 o (by omega) ⟨fun _ => G_attach (m := 0) o hG tc hn (by omega) (by omega) fun σ1 hG1 f1 y2 e2 => ?_, fun hc => by omega⟩
    rw [e2, addI_e (by omega) (by omega)]
    exact h σ1 hG1 f1
  | succ m ih =>
    intro x8 x9 h0 h1 hn
    have cm : m = 0 ∨ m = 1 ∨ m = 2 := by omega
    have hb : 0 ≤ x8 ∧ x8 < 134217728 := by
      have q := NbN_b _ _ hn
      have : bnd (3 - (m + 1)) ≤ 153 := by rcases cm with rfl | rfl | rfl <;> decide
      omega
    have em : 3 - m = 3 - (m + 1) + 1 := by omega
    have fb := fb_at hk h7.1 h7.2
    obtain ⟨b0, b1, b2, hb0, hb1, hb2, ef⟩ := fb.l
    have lt := let_e (x := b0) (y := b1) (z := b2) (by omega) (by omega) (by omega)
    have nx : ∀ z y4 y5 : Int, (0 ≤ z ∧ z < 10) → y4 = orI (shlI x8 4) z → y5 = addI x9 1 → WV l mX10_rename d P 27 [(2, t + 595), (1, x1), (3, 0), (0, x3), (0, x4), (0, x5), (0, x6), (0, x7), (0, y4), (0, y5), (3, 0)] [] N Λ σ := fun z y4 y5 hz e4 e5 => by
      rw [e5, addI_e (by omega) (by omega), e4, or16 hb.1 hb.2 hz.1 (by omega)]
      refine ih _ _ (by omega) (by omega) ?_
      rw [em]
      exact NbN_s hn hz.1 hz.2
    have hy : 0 ≤ andI (shrI (andI (l2iI (ushrL x1 (mulI 12 (subI 3 x7)))) 4095) (mulI 4 (subI 2 x9))) 15 ∧ andI (shrI (andI (l2iI (ushrL x1 (mulI 12 (subI 3 x7)))) 4095) (mulI 4 (subI 2 x9))) 15 < 10 := by
      rw [ef]
      have c9 : x9 = 0 ∨ x9 = 1 ∨ x9 = 2 := by omega
      rcases c9 with rfl | rfl | rfl
      · rw [lt.1]; exact hb0
      · rw [lt.2.1]; exact hb1
      · rw [lt.2.2]; exact hb2
    refine v_X10_rename_27 o (by omega) ⟨fun hc => by omega, fun _ y3 e3 => ?_⟩
    rw [← e3] at hy
    exact ⟨fun _ => ⟨fun _ y4 e4 y5 e5 => nx _ _ _ hy e4 e5, fun _ => ⟨fun _ y6 e6 y7 e7 => nx _ _ _ hy e6 e7, fun _ y8 e8 y9 e9 => nx _ _ _ hp e8 e9⟩⟩, fun _ y10 e10 y11 e11 => nx _ _ _ hq e10 e11⟩
theorem gre14 {P : Mem → Prop} {x1 x3 x4 x5 x6 : Int} {σ0 : Mem} (o : Ob N Λ (t + 595) 19 2) (hk : VK x1) (hp : 0 ≤ x3 ∧ x3 < 10) (hq : 0 ≤ x4 ∧ x4 < 10) (h6 : x6 ≤ 4) (hd : 2 ≤ d) (h : ∀ σ', GI ω σ' t → (∀ c', c' ≠ t + 595 → σ' c' = σ0 c') → P σ') : ∀ (m : Nat) (x7 : Int) (σ : Mem), 0 ≤ x7 → (x6 - x7).toNat ≤ m → GI ω σ t → (∀ c', c' ≠ t + 595 → σ c' = σ0 c') → WV l mX10_rename d P 14 [(2, t + 595), (1, x1), (3, 0), (0, x3), (0, x4), (0, x5), (0, x6), (0, x7), (3, 0), (3, 0), (3, 0)] [] N Λ σ := by
  intro m
  induction m with
  | zero => intro x7 σ h0 h1 hG hf; exact v_X10_rename_14 ⟨fun _ => h σ hG hf, fun hc => by omega⟩
  | succ m ih =>
    intro x7 σ h0 h1 hG hf
    refine v_X10_rename_14 ⟨fun _ => h σ hG hf, fun hc => ?_⟩
    exact gre27 o hG hk hp hq (by omega) hd (fun σ' hG' f' => ih (x7 + 1) σ' (by omega) (by omega) hG' (fun c' g => (f' c' g).trans (hf c' g))) 3 0 0 (by decide) (by decide) rfl
theorem G_ren {P : Mem → Prop} {x p q bo : Int} (hX : DX N Λ t) (hG : GI ω σ t) (hk : VK x) (hp : 0 ≤ p ∧ p < 10) (hq : 0 ≤ q ∧ q < 10) (hd : 2 ≤ d) (h : ∀ σ', GI ω σ' t → (∀ c', c' ≠ t + 595 → σ' c' = σ c') → P σ') : CV l mX10_rename d [(2, t + 595), (1, x), (0, p), (0, q), (0, bo)] N Λ σ P := by
  have o := hX.2.2.2.2.2.2.2.2.2.2.2.2.1
  have tc : TC t (t + 595) := Or.inl rfl
  refine c_X10_rename (v_X10_rename_0 o (by omega) fun τ1 e1 τ2 e2 => gbi (by omega) fun v4 h0 h1 => ?_)
  have hG2 := (hG.tc tc e1 (tc.ok0 VK0)).tc tc e2 (tc.ok1 (by decide))
  exact gre14 o hk hp hq h1 hd h 4 0 τ2 (by decide) (by omega) hG2 (fun c' g => by rw [e2, st_ne g, e1, st_ne g])
end GX
