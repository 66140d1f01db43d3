/-! calls on a new object: what is kept -/
def FrD (σ σ' : Mem) (t : Int) : Prop := ∀ c' : Int, (c' < t ∨ t + 646 ≤ c') → σ' c' = σ c'
theorem FrD.rf {σ : Mem} {t : Int} : FrD σ σ t := fun _ _ => rfl
theorem FrD.tr {σ σ1 σ2 : Mem} {t : Int} (h : FrD σ σ1 t) (h1 : FrD σ1 σ2 t) : FrD σ σ2 t := fun c' g => (h1 c' g).trans (h c' g)
theorem FrD.s {σ τ : Mem} {t c j v : Int} (e : τ = st σ c j v) (h0 : t ≤ c) (h1 : c < t + 646) : FrD σ τ t := fun c' g => by rw [e, st_ne (by omega)]
/-- the shelves have no terms, nothing can be undone -/
def DK (σ : Mem) (t : Int) : Prop := (∀ s : Int, 0 ≤ s → s < 6 → σ (t + 5 + 3 * s) 2 = 0) ∧ σ (t + 23) 0 = 0 ∧ σ (t + 23) 2 = 0
theorem DK.same {σ σ' : Mem} {t : Int} (h : DK σ t) (hs : ∀ c' : Int, t + 1 ≤ c' → c' ≤ t + 23 → σ' c' = σ c') : DK σ' t :=
  ⟨fun s g0 g1 => by rw [hs _ (by omega) (by omega)]; exact h.1 s g0 g1, by rw [hs _ (by omega) (by omega)]; exact h.2.1, by rw [hs _ (by omega) (by omega)]; exact h.2.2⟩
theorem Desk0.DK {σ : Mem} {t : Int} (h : Desk0 σ t) : DK σ t := ⟨fun s g0 g1 => by
  have := (h.1.1 s g0 g1).1
  rw [show t + 1 + 4 + 3 * s = t + 5 + 3 * s by omega] at this
  exact this, h.2.1.1, h.2.1.2⟩
section KP
variable {l : Launch} {d N : Nat} {Λ : Lay} {σ : Mem} {t : Int}
theorem g_ptake {P : Mem → Prop} {a c : Int} (hA : PolyL N Λ a) (hB : PolyL N Λ c) (hd : 1 ≤ d) (ha : a + 2 < c ∨ c + 2 < a) (h0 : 0 ≤ σ c 2) (h1 : σ c 2 ≤ 80) (h : ∀ σ', Same3 σ σ' a → σ' a 2 = σ c 2 → P σ') : CV l mX5_take d [(2, a), (2, c)] N Λ σ P := by
  refine c_X5_take (v_X5_take_0 hB.1 hB.2.1 hA.1 hA.2.1 hB.2.2.1 hA.2.2.1 hd ⟨⟨80, 80, hB.2.2.2.1, hA.2.2.2.1, by omega, by omega, by omega, by omega, by omega⟩, fun τ1 e1 => ?_⟩)
  have t1 : τ1 c 2 = σ c 2 := by rw [e1, cpM_ne (by omega)]
  rw [t1]
  refine ⟨⟨80, 80, hB.2.2.2.2, hA.2.2.2.2, by omega, by omega, by omega, by omega, by omega⟩, fun τ2 e2 τ3 e3 => ?_⟩
  have t2 : τ2 c 2 = σ c 2 := by rw [e2, cpM_ne (by omega), t1]
  refine h τ3 (fun c' j g0 g1 g2 => by rw [e3, st_ne g0, e2, cpM_ne g2, e1, cpM_ne g1]) (by rw [e3, st_eq, t2])
theorem stk_lp {P : Mem → Prop} {c a : Int} {σ0 : Mem} (hT : StateL N Λ c) (hA : StateL N Λ a) (hd : 2 ≤ d) (hca : c + 22 ≤ a ∨ a + 22 ≤ c) (hz : ∀ s : Int, 0 ≤ s → s < 6 → σ0 (a + 4 + 3 * s) 2 = 0)
    (h : ∀ σ', (∀ c' : Int, (c' < c ∨ c + 22 ≤ c') → σ' c' = σ0 c') → P σ') : ∀ (m : Nat) (i : Int) (σ : Mem), 0 ≤ i → i ≤ 6 → (6 - i).toNat ≤ m → (∀ c' : Int, (c' < c ∨ c + 22 ≤ c') → σ c' = σ0 c') → WV l mX7_take d P 2 [(2, c), (2, a), (0, i)] [] N Λ σ := by
  obtain ⟨o, f0, f1, f2, os, op, of, hp⟩ := hT
  obtain ⟨ao, af0, af1, af2, aos, aop, aof, ahp⟩ := hA
  intro m
  induction m with
  | zero =>
    intro i σ g0 g1 g2 hf
    refine v_X7_take_2 ao af1 o f1 ⟨op, by decide, by decide⟩ af2 f2 ⟨of, by decide, by decide⟩ f0 af0 (by omega) ⟨fun _ => ⟨⟨30, 30, aop, op, by decide, by decide, by decide, by decide, by decide⟩, fun τ1 e1 => ⟨⟨120, 120, aof, of, by decide, by decide, by decide, by decide, by decide⟩, fun τ2 e2 => ?_⟩⟩, fun hc => by omega⟩
    exact h τ2 fun c' g => by rw [e2, cpM_ne (by omega), e1, cpM_ne (by omega)]; exact hf c' g
  | succ m ih =>
    intro i σ g0 g1 g2 hf
    by_cases hi : 6 ≤ i
    · exact ih i σ g0 g1 (by omega) hf
    · have z1 := hp i g0 (by omega)
      have z2 := ahp i g0 (by omega)
      refine v_X7_take_2 ao af1 o f1 ⟨op, by decide, by decide⟩ af2 f2 ⟨of, by decide, by decide⟩ f0 af0 (by omega) ⟨fun hc => absurd hc hi, fun _ => ⟨Ix.of os g0 (by omega), fun b3 e3 => ?_⟩⟩
      rw [z1.1] at e3
      subst e3
      refine ⟨z1.2.1, Ix.of aos g0 (by omega), fun b4 e4 => ?_⟩
      rw [z2.1] at e4
      subst e4
      have hsz : σ (a + 4 + 3 * i) 2 = 0 := by rw [hf _ (by omega)]; exact hz i g0 (by omega)
      refine ⟨z2.2.1, g_ptake z1.2 z2.2 (by omega) (by omega) (by omega) (by omega) fun σ5 s5 _ y6 e6 => ?_⟩
      rw [e6, addI_e (by omega) (by omega)]
      refine ih (i + 1) σ5 (by omega) (by omega) (by omega) fun c' g => ?_
      rw [← hf c' g]
      exact funext fun j => s5 c' j (by omega) (by omega) (by omega)
theorem g_stake {P : Mem → Prop} {c a : Int} (hT : StateL N Λ c) (hA : StateL N Λ a) (hd : 2 ≤ d) (hca : c + 22 ≤ a ∨ a + 22 ≤ c) (hz : ∀ s : Int, 0 ≤ s → s < 6 → σ (a + 4 + 3 * s) 2 = 0)
    (h : ∀ σ', (∀ c' : Int, (c' < c ∨ c + 22 ≤ c') → σ' c' = σ c') → P σ') : CV l mX7_take d [(2, c), (2, a)] N Λ σ P :=
  c_X7_take (v_X7_take_0 (stk_lp hT hA hd hca hz h 6 0 σ (by decide) (by decide) (by decide) fun _ _ => rfl))
/-- history.keep(now) -/
theorem kd_hkeep {P : Mem → Prop} (hL : DeskL N Λ t) (hK : DK σ t) (hd : 3 ≤ d) (h : ∀ σ', FrD σ σ' t → (∀ c' : Int, t + 1 ≤ c' → c' < t + 23 → σ' c' = σ c') → (∀ c' : Int, t + 245 ≤ c' → σ' c' = σ c') → σ' t = σ t → P σ') : CV l mX4_keep d [(2, t + 23), (2, t + 1)] N Λ σ P := by
  obtain ⟨o, hR, hS, ⟨ho, hf, hk, hks⟩, -⟩ := hL
  have z := hks 0 (by decide) (by decide)
  refine c_X4_keep (v_X4_keep_0 ho hf hS.1 (by omega) ?_)
  rw [hK.2.2]
  refine ⟨Ix.of hk (by decide) (by decide), fun b1 e1 => ?_⟩
  rw [z.1] at e1
  subst e1
  refine ⟨z.2.1, g_stake z.2 hS (by omega) (by omega) (fun s g0 g1 => ?_) fun σ2 f2 τ3 e3 => ?_⟩
  · rw [show t + 1 + 4 + 3 * s = t + 5 + 3 * s by omega]
    exact hK.1 s g0 g1
  · have n3 : ∀ c' : Int, c' ≠ t + 23 → τ3 c' = σ2 c' := fun c' g => by rw [e3, st_ne g]
    have fin : ∀ v τ, τ = st τ3 (t + 23) 0 v → P τ := fun v τ e => by
      have n4 : ∀ c' : Int, c' ≠ t + 23 → τ c' = σ2 c' := fun c' g => by rw [e, st_ne g]; exact n3 c' g
      refine h τ (fun c' g => ?_) (fun c' g0 g1 => ?_) (fun c' g0 => ?_) ?_
      · rw [n4 c' (by omega)]; exact f2 c' (by omega)
      · rw [n4 c' (by omega)]; exact f2 c' (by omega)
      · rw [n4 c' (by omega)]; exact f2 c' (by omega)
      · rw [n4 t (by omega)]; exact f2 t (by omega)
    exact ⟨fun _ τ4 e4 => fin _ τ4 e4, fun _ τ5 e5 => fin _ τ5 e5⟩
/-- keep(s, 0), and keep(s, reason) -/
theorem kd_keep {P : Int → Mem → Prop} {s : Int} (hL : DeskL N Λ t) (hK : DK σ t) (hs : 0 ≤ s ∧ s < 6) (hd : 4 ≤ d) (h0 : 0 ≤ σ (t + 596) 2) (h1 : σ (t + 596) 2 ≤ 80) (h : ∀ σ', FrD σ σ' t → P (σ (t + 596) 2) σ') : CI l mX11_keep d [(2, t), (0, s), (0, 0)] N Λ σ P := by
  obtain ⟨o, hR, hS, ⟨ho, hf, hk, hks⟩, -, -, -, -, -, -, -, -, -, hW, -⟩ := hL
  obtain ⟨r0, r1, -, -, -, -, -, -, -, -, -, r11, -⟩ := hR
  have z := hks 0 (by decide) (by decide)
  refine c_X11_keep (v_X11_keep_0 o r1 r0 ho hf hS.1 hS.2.1 r11 hW.1 (by omega) ⟨fun _ => ?_, fun hc => absurd rfl hc⟩)
  rw [hK.2.2]
  refine ⟨Ix.of hk (by decide) (by decide), fun b1 e1 => ?_⟩
  rw [z.1] at e1
  subst e1
  refine ⟨z.2.1, g_stake z.2 hS (by omega) (by omega) (fun s g0 g1 => ?_) fun σ2 f2 τ3 e3 => ?_⟩
  · rw [show t + 1 + 4 + 3 * s = t + 5 + 3 * s by omega]
    exact hK.1 s g0 g1
  · have n3 : ∀ c' : Int, c' ≠ t + 23 → τ3 c' = σ2 c' := fun c' g => by rw [e3, st_ne g]
    have zs := hS.2.2.2.2.2.2.2 s hs.1 hs.2
    have fin : ∀ v τ, τ = st τ3 (t + 23) 0 v → (Ix N Λ (t + 1 + 1) 3 s ∧ (∀ b5, b5 = (Λ (t + 1 + 1)).2.2 s → (Ob N Λ b5 15 3 ∧ (CV l mX5_take (d - 1) [(2, b5), (2, t + 596)] N Λ τ (fun σ6 => P (σ6 (t + 596) 2) σ6))))) := fun v τ e => by
      have n4 : ∀ c' : Int, c' ≠ t + 23 → τ c' = σ2 c' := fun c' g => by rw [e, st_ne g]; exact n3 c' g
      have w4 : τ (t + 596) 2 = σ (t + 596) 2 := by rw [n4 _ (by omega), f2 _ (by omega)]
      refine ⟨Ix.of hS.2.2.2.2.1 hs.1 hs.2, fun b5 e5 => ?_⟩
      rw [zs.1] at e5
      subst e5
      refine ⟨zs.2.1, g_ptake zs.2 hW (by omega) (by omega) (by omega) (by omega) fun σ6 s6 _ => ?_⟩
      have w6 : σ6 (t + 596) 2 = σ (t + 596) 2 := by rw [s6 _ _ (by omega) (by omega) (by omega)]; exact w4
      rw [w6]
      refine h σ6 fun c' g => ?_
      rw [← f2 c' (by omega), ← n4 c' (by omega)]
      exact funext fun j => s6 c' j (by omega) (by omega) (by omega)
    exact ⟨fun _ τ4 e4 => fin _ τ4 e4, fun _ τ5 e5 => fin _ τ5 e5⟩
end KP
