section CL4
variable {l : Launch} {d N : Nat} {Λ : Lay} {σ : Mem} {t : Int}
theorem tt_step {P : Mem → Prop} {c x sh nx : Int} (hT : TapeL N Λ c) (h0 : 0 ≤ σ c 1) (h1 : σ c 1 < 300) (hsh : ¬ sh < 0) (hnx : addI sh (-8) = nx)
    (K : ∀ σ', (∀ c', c' ≠ c → c' ≠ c + 1 → σ' c' = σ c') → σ' c 1 = σ c 1 + 1 → WV l mX9_take d P 3 [(2, c), (0, x), (0, nx)] [] N Λ σ') : WV l mX9_take d P 3 [(2, c), (0, x), (0, sh)] [] N Λ σ := by
  refine v_X9_take_3 hT.1 hT.2.1 ⟨fun hc => absurd hc hsh, fun _ => ⟨fun hc => by omega, fun _ => ⟨Ix.of hT.2.2.2.2.1 h0 h1, fun τ1 e1 τ2 e2 y3 e3 => ?_⟩⟩⟩
  have w1 : τ1 c 1 = σ c 1 := by rw [e1, st_ne (by omega)]
  rw [w1, addI_e (by omega) (by omega)] at e2
  rw [e3, hnx]
  exact K τ2 (fun c' g0 g1 => by rw [e2, st_ne g0, e1, st_ne g1]) (by rw [e2, st_eq])
theorem k_ttake {P : Mem → Prop} {c x : Int} (hT : TapeL N Λ c) (h0 : 0 ≤ σ c 1) (h1 : σ c 1 + 4 ≤ 300) (h : ∀ σ', (∀ c', c' ≠ c → c' ≠ c + 1 → σ' c' = σ c') → σ' c 1 = σ c 1 + 4 → P σ') : CV l mX9_take d [(2, c), (0, x)] N Λ σ P := by
  refine c_X9_take (v_X9_take_0 ?_)
  refine tt_step hT h0 (by omega) (by decide) (show addI 24 (-8) = 16 by decide) fun σ1 f1 z1 => ?_
  refine tt_step hT (by omega) (by omega) (by decide) (show addI 16 (-8) = 8 by decide) fun σ2 f2 z2 => ?_
  refine tt_step hT (by omega) (by omega) (by decide) (show addI 8 (-8) = 0 by decide) fun σ3 f3 z3 => ?_
  refine tt_step hT (by omega) (by omega) (by decide) (show addI 0 (-8) = -8 by decide) fun σ4 f4 z4 => ?_
  refine v_X9_take_3 hT.1 hT.2.1 ⟨fun _ => h σ4 (fun c' g0 g1 => by rw [f4 c' g0 g1, f3 c' g0 g1, f2 c' g0 g1, f1 c' g0 g1]) (by omega), fun hc => absurd (by decide) hc⟩
theorem kd_feed {P : Int → Mem → Prop} {x1 x2 x3 x4 x5 : Int} (hL : DeskL N Λ t) (h0 : Desk0 σ t) (hd : 2 ≤ d) (h : ∀ σ', FrD σ σ' t → P 20 σ') : CI l mX11_feed d [(2, t), (0, x1), (0, x2), (0, x3), (0, x4), (0, x5)] N Λ σ P := by
  obtain ⟨o, hR, hS, hH, hI, hMd, hT, hSt, hFi, hFo, hE, hFa, hTm, hW, hOt, hS1, hS2⟩ := id hL
  have z0 := h0.2.2.2.1.1
  refine c_X11_feed (v_X11_feed_0 o hR.2.2.2.2.1 hT.1 (by omega) ⟨fun _ => ?_, fun hc => absurd (by rw [z0]; decide) hc⟩)
  refine k_ttake hT (by omega) (by omega) fun σ1 f1 z1 => k_ttake hT (by omega) (by omega) fun σ2 f2 z2 => k_ttake hT (by omega) (by omega) fun σ3 f3 z3 => k_ttake hT (by omega) (by omega) fun σ4 f4 z4 => k_ttake hT (by omega) (by omega) fun σ5 f5 z5 => ?_
  rw [show σ5 (t + 247) 1 = 20 by omega]
  exact h σ5 fun c' g => by rw [f5 c' (by omega) (by omega), f4 c' (by omega) (by omega), f3 c' (by omega) (by omega), f2 c' (by omega) (by omega), f1 c' (by omega) (by omega)]
def an_text (s n x : Int) : Int := if ¬ (0 ≤ s ∧ s < 6) then -2 else if ¬ n = 0 then -3 else x
theorem kd_asked {P : Int → Mem → Prop} {s n : Int} (hL : DeskL N Λ t) (hz : σ (t + 247) 1 = 0) (hd : 1 ≤ d) (h2 : ¬ (0 ≤ s ∧ s < 6) → P (-2) σ) (h3 : (0 ≤ s ∧ s < 6) → ¬ n = 0 → P (-3) σ) (h0 : (0 ≤ s ∧ s < 6) → n = 0 → P 0 σ) : CI l mX11_askedOfTape d [(2, t), (0, s), (0, n)] N Λ σ P := by
  obtain ⟨o, hR, hS, hH, hI, hMd, hT, hSt, hFi, hFo, hE, hFa, hTm, hW, hOt, hS1, hS2⟩ := id hL
  refine c_X11_askedOfTape (v_X11_askedOfTape_0 o hR.2.2.2.2.1 hT.1 hd ?_)
  rw [hz]
  by_cases c1 : 0 ≤ s ∧ s < 6
  · refine ⟨fun g => absurd g (by clear h2 h3 h0; omega), fun _ => ⟨fun g => absurd g (by clear h2 h3 h0; omega), fun _ => ?_⟩⟩
    by_cases c2 : n = 0
    · exact ⟨fun g => absurd g (by clear h2 h3 h0; omega), fun _ => ⟨fun _ => h0 c1 c2, fun g => absurd (show n ≤ 0 by clear h2 h3 h0; omega) g⟩⟩
    · exact ⟨fun g => h3 c1 c2, fun _ => ⟨fun g => absurd (show n = 0 by clear h2 h3 h0; omega) c2, fun g => h3 c1 c2⟩⟩
  · exact ⟨fun g => h2 c1, fun g1 => ⟨fun g => h2 c1, fun g2 => absurd (show 0 ≤ s ∧ s < 6 by clear h2 h3 h0; omega) c1⟩⟩
theorem kd_told {P : Int → Mem → Prop} {s n : Int} (hL : DeskL N Λ t) (h0 : Desk0 σ t) (hd : 6 ≤ d) (h : ∀ σ', FrD σ σ' t → P (an_text s n 0) σ') : CI l mX11_told d [(2, t), (0, s), (0, n)] N Λ σ P := by
  obtain ⟨o, hR, hS, hH, hI, hMd, hT, hSt, hFi, hFo, hE, hFa, hTm, hW, hOt, hS1, hS2⟩ := id hL
  refine c_X11_told (v_X11_told_0 o hR.2.2.2.2.1 hT.1 hR.2.2.2.2.2.2.2.2.2.2.2.1 (by omega) fun τ1 e1 => ?_)
  have f1 : FrD σ τ1 t := FrD.s e1 (by omega) (by omega)
  have z1 : τ1 (t + 247) 1 = 0 := by rw [e1, st_ne (by omega)]; exact h0.2.2.2.1.1
  have K := h τ1 f1
  refine kd_asked hL z1 (by omega) (fun c => ⟨fun hc => absurd hc (by decide), fun _ => by unfold an_text at K; rw [if_pos c] at K; exact K⟩) (fun c c2 => ⟨fun hc => absurd hc (by decide), fun _ => by unfold an_text at K; rw [if_neg (fun z => z c), if_pos c2] at K; exact K⟩) (fun c c2 => ⟨fun _ => ?_, fun hc => absurd rfl hc⟩)
  subst c2
  refine c_X9_tellsPolynomial (v_X9_tellsPolynomial_0 (v_X9_tellsPolynomial_10 hT.1 hT.2.1 (by omega) ⟨fun _ => ⟨fun _ τ2 e2 τ3 e3 => ⟨fun hc => absurd rfl hc, fun _ => ⟨fun _ => ?_, fun hc => absurd hc (by decide)⟩⟩, fun hc => absurd rfl hc⟩, fun hc => absurd (Int.le_refl 0) hc⟩))
  refine c_X9_readPolynomial (v_X9_readPolynomial_0 hW.1 hT.1 hT.2.2.2.1 hT.2.2.2.2.2.2 (by omega) fun τ4 e4 τ5 e5 τ6 e6 => v_X9_readPolynomial_23 hT.1 hW.1 hT.2.2.2.1 hT.2.2.2.2.2.2 hT.2.1 (by omega) ⟨fun _ => ⟨fun hc => absurd rfl hc, fun _ => ⟨fun _ => ⟨fun hc => absurd rfl hc, fun _ τ7 e7 => ?_⟩, fun hc => absurd (Int.le_refl 0) hc⟩⟩, fun hc => absurd (Int.le_refl 0) hc⟩)
  have n7 : ∀ c' : Int, c' ≠ t → c' ≠ t + 247 → c' ≠ t + 596 → c' ≠ t + 247 + 3 → τ7 c' = σ c' := fun c' g0 g1 g2 g3 => by rw [e7, st_ne g1, e6, st_ne g3, e5, st_ne g3, e4, st_ne g2, e3, st_ne g1, e2, st_ne g1, e1, st_ne g0]
  have w7 : τ7 (t + 596) 2 = 0 := by rw [e7, st_ne (by omega), e6, st_ne (by omega), e5, st_ne (by omega), e4, st_eq]
  have hK := h0.DK.same (σ' := τ7) fun c' u0 u1 => n7 c' (by omega) (by omega) (by omega) (by omega)
  refine kd_keep hL hK c (by omega) (by omega) (by omega) fun σ' f => ?_
  have f7 : FrD σ τ7 t := fun c' g => n7 c' (by omega) (by omega) (by omega) (by omega)
  have := h σ' (f7.tr f)
  unfold an_text at this
  rw [if_neg (fun z => z c), if_neg (fun z => z rfl)] at this
  rw [w7]
  exact this
theorem kd_figure {P : Int → Mem → Prop} {s n : Int} (hL : DeskL N Λ t) (h0 : Desk0 σ t) (hd : 6 ≤ d) (h : ∀ σ', FrD σ σ' t → P (an_text s n (-31)) σ') : CI l mX11_figure d [(2, t), (0, s), (0, n)] N Λ σ P := by
  obtain ⟨o, hR, hS, hH, hI, hMd, hT, hSt, hFi, hFo, hE, hFa, hTm, hW, hOt, hS1, hS2⟩ := id hL
  refine c_X11_figure (v_X11_figure_0 o hR.2.2.2.2.1 hT.1 hR.2.2.2.2.2.2.1 hFi (by omega) fun τ1 e1 => ?_)
  have f1 : FrD σ τ1 t := FrD.s e1 (by omega) (by omega)
  have z1 : τ1 (t + 247) 1 = 0 := by rw [e1, st_ne (by omega)]; exact h0.2.2.2.1.1
  have K := h τ1 f1
  refine kd_asked hL z1 (by omega) (fun c => ⟨fun hc => absurd hc (by decide), fun _ => by unfold an_text at K; rw [if_pos c] at K; exact K⟩) (fun c c2 => ⟨fun hc => absurd hc (by decide), fun _ => by unfold an_text at K; rw [if_neg (fun z => z c), if_pos c2] at K; exact K⟩) (fun c c2 => ⟨fun _ => ?_, fun hc => absurd rfl hc⟩)
  subst c2
  refine c_X9_tellsFigure (v_X9_tellsFigure_0 hT.1 hT.2.2.1 ⟨Ix.of hT.2.2.2.2.2.1 (by decide) (by decide), fun τ2 e2 => v_X9_tellsFigure_11 hT.1 hT.2.2.1 hT.2.1 (by omega) ⟨fun _ => ⟨fun hc => absurd rfl hc, fun _ => ⟨Ix.of hT.2.2.2.2.2.1 (by decide) (by decide), ?_⟩⟩, fun hc => absurd (Int.le_refl 0) hc⟩⟩)
  have w2 : τ2 (t + 247 + 2) 0 = 0 := by rw [e2, st_eq]
  rw [w2]
  refine ⟨fun _ => v_X9_tellsFigure_198 (v_X9_tellsFigure_199 hT.1 (by omega) ⟨fun _ τ3 e3 τ4 e4 => ⟨fun _ => v_X9_tellsFigure_219 ⟨Or.inl rfl, ⟨fun hc => absurd rfl hc, fun _ τ5 e5 => ?_⟩⟩, fun hc => absurd hc (by decide)⟩, fun hc => absurd rfl hc⟩), fun hc => absurd hc (by decide)⟩
  have w5 : τ5 (t + 247) 2 = 1 := by rw [e5, st_nj (by decide), e4, st_nj (by decide), e3, st_eq]
  rw [w5]
  have := h τ5 (fun c' g => by rw [e5, st_ne (by omega), e4, st_ne (by omega), e3, st_ne (by omega), e2, st_ne (by omega), e1, st_ne (by omega)])
  unfold an_text at this
  rw [if_neg (fun z => z c), if_neg (fun z => z rfl)] at this
  exact this
def an_rank (x : Int) : Int := if 0 ≤ x ∧ x < 64 then 0 else -2
theorem rk_lp {P : Int → Mem → Prop} {x : Int} {σ0 : Mem} (hL : DeskL N Λ t) (hd : 5 ≤ d) (h : ∀ σ', FrD σ0 σ' t → P 0 σ') : ∀ (m : Nat) (i : Int) (σ : Mem), 0 ≤ i → (6 - i).toNat ≤ m → DK σ t → σ (t + 572) 2 = 0 → 0 ≤ σ (t + 572) 3 → σ (t + 572) 3 ≤ i → FrD σ0 σ t → WI l mX11_rank d P 27 [(2, t), (0, x), (0, i), (3, 0)] [] N Λ σ := by
  obtain ⟨o, hR, hS, hH, hI, hMd, hT, hSt, hFi, hFo, hE, hFa, hTm, hW, hOt, hS1, hS2⟩ := id hL
  have fin : ∀ σ : Mem, σ (t + 572) 2 = 0 → FrD σ0 σ t → CI l mX0_independentRows (d - 1) [(2, t + 572)] N Λ σ (fun v2 σ1 => P v2 σ1) := fun σ z f => by
    refine c_X0_independentRows (v_X0_independentRows_0 (v_X0_independentRows_4 hE.1 (by omega) ?_))
    rw [z]
    exact ⟨fun _ => h σ f, fun hc => absurd (Int.le_refl 0) hc⟩
  intro m
  induction m with
  | zero => intro i σ g0 g1 hK z2 z3 z4 f; exact v_X11_rank_27 o hR.2.2.2.2.2.2.2.2.1 hE.1 hR.2.2.2.2.2.1 hR.1 hS.1 hS.2.1 hR.2.2.2.2.2.2.2.2.2.2.2.1 hSt.1 (by omega) ⟨fun _ => fin σ z2 f, fun hc => by omega⟩
  | succ m ih =>
    intro i σ g0 g1 hK z2 z3 z4 f
    refine v_X11_rank_27 o hR.2.2.2.2.2.2.2.2.1 hE.1 hR.2.2.2.2.2.1 hR.1 hS.1 hS.2.1 hR.2.2.2.2.2.2.2.2.2.2.2.1 hSt.1 (by omega) ⟨fun _ => fin σ z2 f, fun hc => ⟨fun _ y3 e3 => ?_, fun _ => shx hL (by omega) hc fun hp => kd_str hL hK (by omega) (by omega) hc fun σ5 f5 k5 w5 _ => ⟨fun _ => ?_, fun hn => absurd rfl hn⟩⟩⟩
    · rw [e3, addI_e (by omega) (by omega)]
      exact ih (i + 1) σ (by omega) (by omega) hK z2 z3 (by omega) f
    · have q2 : σ5 (t + 572) = σ (t + 572) := k5 _ (by omega) (by omega) (by omega) (by omega)
      have ze := hE.2.2.2.2.2 (σ (t + 572) 3) z3 (by omega)
      refine c_X0_takeRow (v_X0_takeRow_0 hE.1 hE.2.2.1 (by omega) ?_)
      rw [q2]
      refine ⟨fun hlt => ⟨Ix.of hE.2.2.2.2.1 z3 hlt, fun b1 e1 => ?_⟩, fun hc => by omega⟩
      rw [ze.1] at e1
      subst e1
      refine ⟨ze.2.1, k_fill ze.2 (by decide) (by decide) (v_X0_takeRow_25 hW.1 hE.1 hW.2.1 hE.2.2.1 hW.2.2.1 (by omega) ?_)⟩
      have k6 : ∀ c' : Int, c' < t + 575 ∨ t + 581 ≤ c' → filM σ5 (t + 572 + 3 + σ (t + 572) 3) 0 480 c' = σ5 c' := fun c' g => filM_ne (by omega)
      have w6 : filM σ5 (t + 572 + 3 + σ (t + 572) 3) 0 480 (t + 596) 2 = 0 := by rw [k6 _ (by omega)]; exact w5
      have q6 : filM σ5 (t + 572 + 3 + σ (t + 572) 3) 0 480 (t + 572) = σ (t + 572) := by rw [k6 _ (by omega)]; exact q2
      rw [w6, q6]
      generalize filM σ5 (t + 572 + 3 + σ (t + 572) 3) 0 480 = σ6 at k6 w6 q6
      refine ⟨fun _ τ1 e1 y8 e8 => ?_, fun hc => absurd (Int.le_refl 0) hc⟩
      rw [e8, addI_e (by omega) (by omega)]
      rw [addI_e (by omega) (by omega)] at e1
      refine ih (i + 1) τ1 (by omega) (by omega) (hK.same fun c' u0 u1 => ?_) ?_ ?_ ?_ (f.tr fun c' g => ?_)
      · rw [e1, st_ne (by omega), k6 c' (by omega), k5 c' (by omega) (by omega) (by omega) (by omega)]
      · rw [e1, st_nj (by decide), q6]; exact z2
      · rw [e1, st_eq]; omega
      · rw [e1, st_eq]; omega
      · rw [e1, st_ne (by omega), k6 c' (by omega), k5 c' (by omega) (by omega) (by omega) (by omega)]
theorem kd_rank {P : Int → Mem → Prop} {x : Int} (hL : DeskL N Λ t) (h0 : Desk0 σ t) (hd : 5 ≤ d) (h : ∀ σ', FrD σ σ' t → P (an_rank x) σ') : CI l mX11_rank d [(2, t), (0, x)] N Λ σ P := by
  obtain ⟨o, hR, hS, hH, hI, hMd, hT, hSt, hFi, hFo, hE, hFa, hTm, hW, hOt, hS1, hS2⟩ := id hL
  have no : ∀ σ', FrD σ σ' t → ¬ (0 ≤ x ∧ x < 64) → P (-2) σ' := fun σ' f c => by have := h σ' f; unfold an_rank at this; rw [if_neg c] at this; exact this
  refine c_X11_rank (v_X11_rank_0 o hR.2.2.2.2.2.2.2.2.1 hE.1 (by omega) fun τ1 e1 => ?_)
  have f1 : FrD σ τ1 t := FrD.s e1 (by omega) (by omega)
  refine ⟨fun g => no τ1 f1 (by omega), fun g1 => ⟨fun g2 τ2 e2 τ3 e3 => ?_, fun g => no τ1 f1 (by omega)⟩⟩
  have f3 : FrD σ τ3 t := (f1.tr (FrD.s e2 (by omega) (by omega))).tr (FrD.s e3 (by omega) (by omega))
  refine rk_lp (σ0 := σ) hL hd (fun σ' f => ?_) 6 0 τ3 (by decide) (by decide) (h0.DK.same fun c' u0 u1 => by rw [e3, st_ne (by omega), e2, st_ne (by omega), e1, st_ne (by omega)]) ?_ ?_ ?_ f3
  · have := h σ' f
    unfold an_rank at this
    rw [if_pos (by omega)] at this
    exact this
  · rw [e3, st_nj (by decide), e2, st_eq]
  · rw [e3, st_eq]; exact Int.le_refl 0
  · rw [e3, st_eq]; exact Int.le_refl 0
end CL4
