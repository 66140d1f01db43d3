/-! bracket on any object: its exact answer, and what always holds stays -/
variable {ω : Mem}
theorem SA.nw {t c s : Int} (h : SA t c) (h0 : 0 ≤ s) (h1 : s < 6) : t + 596 ≠ c + 2 ∧ t + 596 ≠ c + 3 ∧ t + 596 ≠ c + 4 + 3 * s ∧ t + 596 ≠ c + 4 + 3 * s + 1 ∧ t + 596 ≠ c + 4 + 3 * s + 2 := by
  rcases h with h | h | h | ⟨i, i0, i1, h⟩ <;> omega
section XB
variable {l : Launch} {d N : Nat} {Λ : Lay} {σ : Mem} {t : Int}
theorem xstk_lp {P : Mem → Prop} {c a w : Int} (hX : DX N Λ t) (sc : SA t c) (sa : SA t a) (hd : 2 ≤ d) (h : ∀ σ', GI ω σ' t → σ' (t + 596) 2 = w → P σ') : ∀ (m : Nat) (i : Int) (σ : Mem), 0 ≤ i → (6 - i).toNat ≤ m → GI ω σ t → σ (t + 596) 2 = w → WV l mX7_take d P 2 [(2, c), (2, a), (0, i)] [] N Λ σ := by
  obtain ⟨o, f0, f1, f2, os, op, of, hp⟩ := hX.sta sc
  obtain ⟨ao, af0, af1, af2, aos, aop, aof, ahp⟩ := hX.sta sa
  have nw := sc.nw (s := 0) (by decide) (by decide)
  have en : ∀ σ, GI ω σ t → σ (t + 596) 2 = w → (Cp N Λ (a + 2) (c + 2) 0 0 0 30 ∧ (∀ τ1, τ1 = cpM σ (a + 2) 0 (c + 2) 0 30 → (Cp N Λ (a + 3) (c + 3) 0 0 0 120 ∧ (∀ τ2, τ2 = cpM τ1 (a + 3) 0 (c + 3) 0 120 → P τ2)))) := fun σ hG hw => by
    refine ⟨⟨30, 30, aop, op, by decide, by decide, by decide, by decide, by decide⟩, fun τ1 e1 => ⟨⟨120, 120, aof, of, by decide, by decide, by decide, by decide, by decide⟩, fun τ2 e2 => ?_⟩⟩
    have hG1 : GI ω τ1 t := hG.gen (fun c' => c' = c + 2) (fun c' hc => by rw [e1, cpM_ne hc]) (fun c' hc => by subst hc; exact sc.np (Or.inl rfl)) (fun c' j hc => by subst hc; exact (sc.fre (Or.inl rfl)).ok) (fun c' hc => by subst hc; exact sc.rg (Or.inl rfl))
    refine h _ (hG1.gen (fun c' => c' = c + 3) (fun c' hc => by rw [e2, cpM_ne hc]) (fun c' hc => by subst hc; exact sc.np (Or.inr rfl)) (fun c' j hc => by subst hc; exact (sc.fre (Or.inr rfl)).ok) (fun c' hc => by subst hc; exact sc.rg (Or.inr rfl))) ?_
    rw [e2, cpM_ne nw.2.1, e1, cpM_ne nw.1]
    exact hw
  intro m
  induction m with
  | zero =>
    intro i σ g0 g1 hG hw
    exact v_X7_take_2 ao af1 o f1 ⟨op, by decide, by decide⟩ af2 f2 ⟨of, by decide, by decide⟩ f0 af0 (by omega) ⟨fun _ => en σ hG hw, fun hc => by omega⟩
  | succ m ih =>
    intro i σ g0 g1 hG hw
    refine v_X7_take_2 ao af1 o f1 ⟨op, by decide, by decide⟩ af2 f2 ⟨of, by decide, by decide⟩ f0 af0 (by omega) ⟨fun _ => en σ hG hw, fun hc => ⟨Ix.of os g0 (by omega), fun b3 e3 => ?_⟩⟩
    have z1 := hp i g0 (by omega)
    have z2 := ahp i g0 (by omega)
    rw [z1.1] at e3
    subst e3
    refine ⟨z1.2.1, Ix.of aos g0 (by omega), fun b4 e4 => ?_⟩
    rw [z2.1] at e4
    subst e4
    have ni := sc.nw (s := i) g0 (by omega)
    refine ⟨z2.2.1, G_take hX hG (sc.pol g0 (by omega)) (sa.pol g0 (by omega)) (by omega) fun σ5 hG5 f5 y6 e6 => ?_⟩
    rw [e6, addI_e (by omega) (by omega)]
    exact ih (i + 1) σ5 (by omega) (by omega) hG5 (by rw [f5 _ ni.2.2.1 ni.2.2.2.1 ni.2.2.2.2]; exact hw)
theorem X_st {P : Mem → Prop} {c a : Int} (hX : DX N Λ t) (hG : GI ω σ t) (sc : SA t c) (sa : SA t a) (hd : 2 ≤ d) (h : ∀ σ', GI ω σ' t → σ' (t + 596) 2 = σ (t + 596) 2 → P σ') : CV l mX7_take d [(2, c), (2, a)] N Λ σ P :=
  c_X7_take (v_X7_take_0 (xstk_lp hX sc sa hd h 6 0 σ (by decide) (by decide) hG rfl))
theorem xhkq {Q Q' : Mem → Prop} {d' : Nat} (hX : DX N Λ t) (hG : GI ω σ t) (hd : 2 ≤ d') (h : ∀ τ, GI ω τ t → τ (t + 596) 2 = σ (t + 596) 2 → Q τ) (h' : ∀ τ, GI ω τ t → τ (t + 596) 2 = σ (t + 596) 2 → Q' τ) : (Ix N Λ (t + 23 + 1) 4 (σ (t + 23) 2) ∧ (∀ b1, b1 = (Λ (t + 23 + 1)).2.2 (σ (t + 23) 2) → (Ob N Λ b1 16 3 ∧ (CV l mX7_take d' [(2, b1), (2, t + 1)] N Λ σ (fun σ2 => (∀ τ3, τ3 = st σ2 (t + 23) 2 (remI (addI (σ2 (t + 23) 2) 1) 10) → ((10 < (addI (τ3 (t + 23) 0) 1) → (∀ τ4, τ4 = st τ3 (t + 23) 0 10 → Q τ4)) ∧ (¬ (10 < (addI (τ3 (t + 23) 0) 1)) → (∀ τ5, τ5 = st τ3 (t + 23) 0 (addI (τ3 (t + 23) 0) 1) → Q' τ5))))))))) := by
  obtain ⟨ho, hf, hk, hks⟩ := id hX.2.2.2.1
  have q := hG.hnx
  have z := hks _ q.1 (by omega)
  refine ⟨Ix.of hk q.1 (by omega), fun b1 e1 => ?_⟩
  rw [z.1] at e1
  subst e1
  refine ⟨z.2.1, X_st hX hG (sa_k q.1 (by omega)) sa_n hd fun σ2 hG2 w2 τ3 e3 => ?_⟩
  have q2 := hG2.hnx
  have r := rem10 ⟨(σ2 (t + 23) 2).toNat, by omega⟩
  have er : (((σ2 (t + 23) 2).toNat : Nat) : Int) = σ2 (t + 23) 2 := by omega
  simp only [er] at r
  have hG3 := hG2.his e3 (fun e => absurd e (by decide)) (fun _ => r)
  have s3 := hG3.hsz
  have w3 : τ3 (t + 596) 2 = σ (t + 596) 2 := by rw [e3, st_ne (by omega)]; exact w2
  rw [addI_e (x := τ3 (t + 23) 0) (y := 1) (by omega) (by omega)]
  exact ⟨fun _ τ4 e4 => h _ (hG3.his e4 (fun _ => by decide) (fun e => absurd e (by decide))) (by rw [e4, st_ne (by omega)]; exact w3), fun hn τ5 e5 => h' _ (hG3.his e5 (fun _ => by omega) (fun e => absurd e (by decide))) (by rw [e5, st_ne (by omega)]; exact w3)⟩
theorem X_kp {P : Int → Mem → Prop} {s : Int} (hX : DX N Λ t) (hG : GI ω σ t) (hd : 4 ≤ d) (hs : 0 ≤ s ∧ s < 6) (h : ∀ σ', GI ω σ' t → P (σ (t + 596) 2) σ') : CI l mX11_keep d [(2, t), (0, s), (0, 0)] N Λ σ P := by
  obtain ⟨o, hR, hS, hH, hI, hMd, hT, hSt, hFi, hFo, hE, hFa, hTm, hW, hOt, hS1, hS2⟩ := id hX
  obtain ⟨r0, r1, r2, r3, r4, r5, r6, r7, r8, r9, r10, r11, r12⟩ := id hR
  have tk : ∀ τ, GI ω τ t → τ (t + 596) 2 = σ (t + 596) 2 → PA t (t + 1 + 4 + 3 * s) → CV l mX5_take (d - 1) [(2, t + 1 + 4 + 3 * s), (2, t + 596)] N Λ τ (fun σ6 => P (σ6 (t + 596) 2) σ6) := fun τ hG' w' pb => G_take hX hG' pb paw (by omega) fun σ6 hG6 f6 => by
    have e6 : σ6 (t + 596) 2 = σ (t + 596) 2 := by rw [f6 _ (by omega) (by omega) (by omega)]; exact w'
    rw [e6]
    exact h _ hG6
  exact c_X11_keep (v_X11_keep_0 o r1 r0 hH.1 hH.2.1 hS.1 hS.2.1 r11 hW.1 (by omega) ⟨fun _ => xhkq hX hG (by omega) (fun τ hG' w' => gsh hX hs.1 hs.2 fun pb => tk τ hG' w' pb) (fun τ hG' w' => gsh hX hs.1 hs.2 fun pb => tk τ hG' w' pb), fun hc => absurd rfl hc⟩)
theorem X_bracket {P : Int → Mem → Prop} {x1 x2 x3 x4 : Int} (hX : DX N Λ t) (hG : GI ω σ t) (hd : 20 ≤ d) (h : ∀ σ', GI ω σ' t → P (an_br x1 x2 x3 x4) σ') : CI l mX11_bracket d [(2, t), (0, x1), (0, x2), (0, x3), (0, x4)] N Λ σ P := by
  obtain ⟨o, hR, hS, hH, hI, hMd, hT, hSt, hFi, hFo, hE, hFa, hTm, hW, hOt, hS1, hS2⟩ := id hX
  obtain ⟨r0, r1, r2, r3, r4, r5, r6, r7, r8, r9, r10, r11, r12⟩ := id hR
  have tc : TC t (t + 595) := Or.inl rfl
  have no : ¬ ((0 ≤ x1 ∧ x1 < 6) ∧ (0 ≤ x2 ∧ x2 < 10) ∧ (0 ≤ x3 ∧ x3 < 10) ∧ 0 ≤ x4 ∧ x4 < 10) → P (-2) σ := fun q => by
    have := h σ hG
    rw [an_br_n q] at this
    exact this
  refine c_X11_bracket (v_X11_bracket_0 o r10 hTm r11 hW.1 (by omega) ⟨fun g => no (by omega), fun g1 => ⟨fun g => no (by omega), fun g2 => k_are (by omega) (fun g => ⟨fun _ τ3 e3 τ4 e4 => ?_, fun hc => absurd hc (by decide)⟩) (fun g => ⟨fun hc => absurd rfl hc, fun _ => no (fun z => g z.2)⟩)⟩⟩)
  rw [row_e (by omega) (by omega) (by omega)]
  have hG4 := (hG.tc tc e3 (tc.ok0 VK0)).tc tc e4 (tc.ok1 (by decide))
  refine k_attA hTm (by omega) g.1 g.2.1 g.2.2 (by rw [e4, st_nj (by decide), e3, st_eq]) (by rw [e4, st_eq]) fun σ5 k5 w5 w0 w1 τ6 e6 => ?_
  have vk : VK (σ5 (t + 595) 0) := by
    by_cases hq : Rk x2 x3 x4 = 0
    · rw [w0 hq]; exact VK0
    · rw [w1 hq]
      have ba : 1 ≤ ab (Rk x2 x3 x4) ∧ ab (Rk x2 x3 x4) ≤ 120 := by
        rcases rk_or g.1 g.2.1 g.2.2 with er | ⟨r, q1, q2, er⟩ | ⟨r, q1, q2, er⟩
        · exact absurd er hq
        · rw [er, ab_p (by omega)]; omega
        · rw [er, ab_n q1]; omega
      exact ⟨brc (ab (Rk x2 x3 x4)), 0, 0, 0, Or.inr ⟨_, ba.1, ba.2, rfl⟩, Or.inl rfl, Or.inl rfl, Or.inl rfl, by unfold KK; omega⟩
  have hG5 : GI ω σ5 t := hG4.gen (fun c' => c' = t + 595) (fun c' hc => k5 c' hc) (fun c' hc => by subst hc; exact tc.np) (fun c' j hc => by
    subst hc
    by_cases hj : j = 0
    · subst hj; exact tc.ok0 vk
    · exact tc.ok1 hj)
  have hG6 := hG5.emp paw e6
  have hz : τ6 (t + 596) 2 = 0 := by rw [e6, st_eq]
  have s6 : τ6 (t + 595) 1 = sg (Rk x2 x3 x4) := by rw [e6, st_ne (by omega)]; exact w5
  have k6 : VK (τ6 (t + 595) 0) := by rw [e6, st_ne (by omega)]; exact vk
  rw [s6]
  have fin : ∀ (σ7 : Mem) (ts : List (Int × Int)), PC σ7 (t + 596) ts → Same3 τ6 σ7 (t + 596) → ts.length ≤ 80 → srtd ts → (∀ e ∈ ts, Int32R e.2 ∧ VK e.1) → (∀ σ', GI ω σ' t → P ts.length σ') → CI l mX11_keep (d - 1) [(2, t), (0, x1), (0, 0)] N Λ σ7 (fun v10 σ9 => P v10 σ9) := fun σ7 ts hp hs7 hl hsr hv hP => by
    have hG7 : GI ω σ7 t := hG6.pol paw ⟨ts, hp, hl, hsr, hv⟩ (fun c' q0 q1 q2 => funext fun j => hs7 c' j q0 q1 q2)
    refine X_kp hX hG7 (by omega) (by omega) fun σ' hG' => ?_
    rw [hp.1]
    exact hP σ' hG'
  by_cases hq : Rk x2 x3 x4 = 0
  · have y0 : ∀ σ', GI ω σ' t → P 0 σ' := fun σ' f => by have := h σ' f; rw [an_br_0 (by omega) hq] at this; exact this
    rw [hq, sg_0]
    have ep : ∀ k, putS [] k 0 = (0, []) := fun k => by unfold putS; rw [if_neg (fun z => z (by decide)), if_pos rfl]
    refine k_lay hW (by omega) (PC_nil hz) (by decide) srtd_nil (fun e he => by simp at he) (fun σ' ts' e' hp hs => ?_) (fun k ek hk => ?_)
    · rw [ep] at e'
      have et : ts' = [] := ((Prod.mk.inj e').2).symm
      subst et
      exact fin σ' [] hp hs (by decide) srtd_nil (fun e he => by simp at he) y0
    · rw [ep] at ek
      exact absurd ek.symm hk
  · have y1 : ∀ σ', GI ω σ' t → P 1 σ' := fun σ' f => by have := h σ' f; rw [an_br_1 (by omega) hq] at this; exact this
    have hsg : sg (Rk x2 x3 x4) = 1 ∨ sg (Rk x2 x3 x4) = -1 := by unfold sg; rw [if_neg hq]; split <;> omega
    generalize sg (Rk x2 x3 x4) = n at hsg
    have hn : Int32R n := by unfold Int32R; omega
    have hn0 : ¬ n = 0 := by omega
    refine k_lay hW (by omega) (PC_nil hz) (by decide) srtd_nil (fun e he => by simp at he) (fun σ' ts' e' hp hs => ?_) (fun k ek hk => ?_)
    · have r := putS_ok srtd_nil (by decide) (fun e he => by simp at he) e'
      rw [putS_nil hn hn0] at e'
      have et : ts' = [(τ6 (t + 595) 0, n)] := ((Prod.mk.inj e').2).symm
      subst et
      exact fin σ' _ hp hs r.2.1 r.1 (fun e he => ⟨r.2.2 e he, by simp at he; rw [he]; exact k6⟩) y1
    · rw [putS_nil hn hn0] at ek
      exact absurd ek.symm hk
end XB
section YB
variable {l : Launch} {d N : Nat} {Λ : Lay} {σ : Mem} {b : Int}
theorem R_puts1 {P : Int → Mem → Prop} {p key n : Int} (hM : ModL N Λ b) (hR : RI ω σ b) (hp0 : 0 ≤ p) (hp : p < 196) (hk : 0 ≤ key ∧ key < 214358881) (hd : 2 ≤ d) (hb : σ b 8 = 0) (he : σ (b + 6) (161 * p) = 0) (hn : Int32R n) (hn0 : ¬ n = 0) (h : ∀ σ', RI ω σ' b → σ' (b + 6) (161 * p) = 1 → P 1 σ') : CI l mX12_puts d [(2, b), (0, p), (0, key), (1, n)] N Λ σ P := by
  refine k_puts hM hd hp0 hp (ts := []) ⟨he, fun i e he => by simp at he⟩ (by decide) (fun e he => by simp at he) hb (fun σ' ts' e hpm hs => ?_) (fun c ek hc => ?_)
  · have r := putS_ok srtd_nil (by decide) (fun e he => by simp at he) e
    rw [putS_nil hn hn0] at e
    have et : ts' = [(key, n)] := ((Prod.mk.inj e).2).symm
    subst et
    refine h σ' (hR.row hp0 hp ⟨[(key, n)], hpm, r.2.1, r.1, fun x hx => ⟨r.2.2 x hx, ?_⟩⟩ hs) hpm.1
    simp at hx
    rw [hx]
    exact ⟨hn0, hk⟩
  · rw [putS_nil hn hn0] at ek
    exact absurd ek.symm hc
theorem K_putsBracket1 {P : Mem → Prop} {x y z : Int} (hM : ModL N Λ b) (hR : RI ω σ b) (hx : 0 ≤ x ∧ x ≤ 9) (hy : 0 ≤ y ∧ y ≤ 9) (hz : 0 ≤ z ∧ z ≤ 9) (h8 : σ b 8 = 0) (h0 : σ (b + 6) (161 * 0) = 0) (hd : 3 ≤ d) (h : ∀ σ', RI ω σ' b → (Rk x y z = 0 → σ' (b + 6) (161 * 0) = 0) → (¬ Rk x y z = 0 → σ' (b + 6) (161 * 0) = 1) → P σ') : CV l mX12_putsBracket d [(2, b), (0, x), (0, y), (0, z), (0, 0)] N Λ σ P := by
  have ix : Ix N Λ (b + 7) 0 0 := Ix.of (M_ranks hM) (by decide) (by decide)
  refine c_X12_putsBracket (v_X12_putsBracket_0 hM.1 (M_frankOf hM) (M_franks hM) (by omega) ⟨ixR hM hx hy hz, fun y1 e1 => ?_⟩)
  have q := rkb hR e1 hx hy hz
  have er : y1 = Rk x y z := by
    rw [e1, (rkt hR hx hy hz).1, hR.rk]
    rfl
  subst er
  clear e1
  have hr := q
  have go : ∀ (τ : Mem) (v : Int), τ = st σ (b + 7) 0 v → 0 ≤ v ∧ v ≤ 120 → RI ω τ b → ((Rk x y z = 0 → P τ) ∧ (¬ (Rk x y z = 0) → (CI l mX12_keyOf (d - 1) [(2, b), (0, 1)] N Λ τ (fun v4 σ3 => ((0 ≤ Rk x y z → (CI l mX12_puts (d - 1) [(2, b), (0, 0), (0, v4), (1, 1)] N Λ σ3 (fun v6 σ5 => P σ5))) ∧ (¬ (0 ≤ Rk x y z) → (CI l mX12_puts (d - 1) [(2, b), (0, 0), (0, v4), (1, (-1))] N Λ σ3 (fun v8 σ7 => P σ7)))))))) := fun τ v eτ hv Rτ => by
    have t8 : τ b 8 = 0 := by rw [eτ, st_ne (by omega)]; exact h8
    have t0 : τ (b + 6) (161 * 0) = 0 := by rw [eτ, st_ne (by omega)]; exact h0
    refine ⟨fun hq => h _ Rτ (fun _ => t0) (fun hc => absurd hq hc), fun hq => m_key1 (r := v) hM hv (by rw [eτ, st_eq]) ⟨fun _ => ?_, fun _ => ?_⟩⟩
    · exact R_puts1 hM Rτ (by decide) (by decide) (by omega) (by omega) t8 t0 (by unfold Int32R; decide) (by decide) fun σ5 R5 e5 => h _ R5 (fun hc => absurd hc hq) (fun _ => e5)
    · exact R_puts1 hM Rτ (by decide) (by decide) (by omega) (by omega) t8 t0 (by unfold Int32R; decide) (by decide) fun σ5 R5 e5 => h _ R5 (fun hc => absurd hc hq) (fun _ => e5)
  refine ⟨fun g => ⟨ix, fun τ2 e2 => go τ2 _ e2 (by omega) (hR.srk e2 (by omega))⟩, fun g => ⟨ix, fun τ2 e2 => ?_⟩⟩
  have R2 := hR.srn e2 q g
  rw [negI_e (by omega) (by omega)] at e2
  exact go τ2 _ e2 (by omega) R2
theorem Y_bracket {P : Int → Mem → Prop} {x1 x2 x3 x4 : Int} (hM : ModL N Λ b) (hR : RI ω σ b) (hd : 4 ≤ d) (h : ∀ σ', RI ω σ' b → P (an_br x1 x2 x3 x4) σ') : CI l mX12_bracket d [(2, b), (0, x1), (0, x2), (0, x3), (0, x4)] N Λ σ P := by
  refine c_X12_bracket (u_X12_bracket_0 hM.1 (by omega) fun τ1 e1 => ?_)
  have R1 := hR.fo e1 (by decide)
  have no : ¬ ((0 ≤ x1 ∧ x1 < 6) ∧ (0 ≤ x2 ∧ x2 < 10) ∧ (0 ≤ x3 ∧ x3 < 10) ∧ 0 ≤ x4 ∧ x4 < 10) → P (-2) τ1 := fun q => by
    have := h τ1 R1
    rw [an_br_n q] at this
    exact this
  refine ⟨fun q => no (by have := cl_p q; omega), fun q1 => ⟨fun q => no (by have := cg_p q; omega), fun q2 => ⟨fun q => no (by have := cl_p q; omega), fun q3 => ⟨fun q => no (by have := cg_p q; omega), fun q4 => ⟨fun q => no (by have := cl_p q; omega), fun q5 => ⟨fun q => no (by have := cg_p q; omega), fun q6 => ⟨fun q => no (by have := cl_p q; omega), fun q7 => ⟨fun q => no (by have := cg_p q; omega), fun q8 => ?_⟩⟩⟩⟩⟩⟩⟩⟩
  clear no
  have a1 := cl_n q1
  have a2 := cg_n q2
  have a3 := cl_n q3
  have a4 := cg_n q4
  have a5 := cl_n q5
  have a6 := cg_n q6
  have a7 := cl_n q7
  have a8 := cg_n q8
  clear q1 q2 q3 q4 q5 q6 q7 q8
  refine K_begins hM R1 (by omega) fun σ2 R2 _ z2 => K_putsBracket1 hM R2 (by omega) (by omega) (by omega) z2.1 z2.2 (by omega) fun σ3 R3 v0 v1 => K_becomes hM R3 (by omega) (by omega) fun v5 σ4 R4 e5 => ?_
  have := h σ4 R4
  by_cases hq : Rk x2 x3 x4 = 0
  · rw [an_br_0 (by omega) hq] at this
    rw [e5, v0 hq]
    exact this
  · rw [an_br_1 (by omega) hq] at this
    rw [e5, v1 hq]
    exact this
end YB
