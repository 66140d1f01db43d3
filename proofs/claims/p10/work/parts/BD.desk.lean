/-! the class's calls on any object -/
variable {ω : Mem}
theorem TP.same {σ σ' : Mem} {t n : Int} (h : TP σ t n) (e : σ' (t + 248) = σ (t + 248)) : TP σ' t n := by
  unfold TP at h ⊢
  rw [e]
  exact h
section GD
variable {l : Launch} {d N : Nat} {Λ : Lay} {σ : Mem} {t : Int}
theorem hkq {Q Q' : Mem → Prop} {d' : Nat} (hX : DX N Λ t) (hG : GI ω σ t) (hd : 2 ≤ d') (h : ∀ τ, GI ω τ t → Q τ) (h' : ∀ τ, GI ω τ t → Q' τ) : (Ix N Λ (t + 23 + 1) 4 (σ (t + 23) 2) ∧ (∀ b1, b1 = (Λ (t + 23 + 1)).2.2 (σ (t + 23) 2) → (Ob N Λ b1 16 3 ∧ (CV l mX7_take d' [(2, b1), (2, t + 1)] N Λ σ (fun σ2 => (∀ τ3, τ3 = st σ2 (t + 23) 2 (remI (addI (σ2 (t + 23) 2) 1) 10) → ((10 < (addI (τ3 (t + 23) 0) 1) → (∀ τ4, τ4 = st τ3 (t + 23) 0 10 → Q τ4)) ∧ (¬ (10 < (addI (τ3 (t + 23) 0) 1)) → (∀ τ5, τ5 = st τ3 (t + 23) 0 (addI (τ3 (t + 23) 0) 1) → Q' τ5))))))))) := by
  obtain ⟨ho, hf, hk, hks⟩ := id hX.2.2.2.1
  have q := hG.hnx
  have z := hks _ q.1 (by omega)
  refine ⟨Ix.of hk q.1 (by omega), fun b1 e1 => ?_⟩
  rw [z.1] at e1
  subst e1
  refine ⟨z.2.1, G_st hX hG (sa_k q.1 (by omega)) sa_n hd fun σ2 hG2 τ3 e3 => ?_⟩
  have q2 := hG2.hnx
  have r := rem10 ⟨(σ2 (t + 23) 2).toNat, by omega⟩
  have er : (((σ2 (t + 23) 2).toNat : Nat) : Int) = σ2 (t + 23) 2 := by omega
  simp only [er] at r
  have hG3 := hG2.his e3 (fun e => absurd e (by decide)) (fun _ => r)
  have s3 := hG3.hsz
  rw [addI_e (x := τ3 (t + 23) 0) (y := 1) (by omega) (by omega)]
  exact ⟨fun _ τ4 e4 => h _ (hG3.his e4 (fun _ => by decide) (fun e => absurd e (by decide))), fun hn τ5 e5 => h' _ (hG3.his e5 (fun _ => by omega) (fun e => absurd e (by decide)))⟩
theorem GI.tz {τ : Mem} (hG : GI ω σ t) (e : τ = st σ (t + 247) 1 0) : GI ω τ t := hG.sto e (NP.mid (by omega) (by omega)).ne (Ok.size ⟨by decide, by decide⟩)
theorem G_tt {P : Mem → Prop} {x : Int} (hX : DX N Λ t) (hG : GI ω σ t) (hs : σ (t + 247) 1 + 4 ≤ 300) (h : ∀ σ', GI ω σ' t → σ' (t + 247) 1 = σ (t + 247) 1 + 4 → P σ') : CV l mX9_take d [(2, t + 247), (0, x)] N Λ σ P := by
  have z := hG.sz
  refine k_ttake hX.2.2.2.2.2.2.1 z.1 hs fun σ' f e => h _ (hG.gen (fun c' => c' = t + 247 ∨ c' = t + 247 + 1) (fun c' hc => f c' (fun z => hc (Or.inl z)) (fun z => hc (Or.inr z))) (fun c' hc => NP.mid (by omega) (by omega)) (fun c' j hc => ?_)) e
  rcases hc with hc | hc
  · subst hc
    by_cases hj : j = 1
    · subst hj
      rw [e]
      exact Ok.size (by omega)
    · exact Ok.tape hj
  · refine Fre.ok ?_
    unfold Fre
    omega
theorem G_feed {P : Int → Mem → Prop} {x1 x2 x3 x4 x5 : Int} (hX : DX N Λ t) (hG : GI ω σ t) (hd : 20 ≤ d) (h : ∀ v σ', GI ω σ' t → P v σ') : CI l mX11_feed d [(2, t), (0, x1), (0, x2), (0, x3), (0, x4), (0, x5)] N Λ σ P := by
  obtain ⟨o, hR, hS, hH, hI, hMd, hT, hSt, hFi, hFo, hE, hFa, hTm, hW, hOt, hS1, hS2⟩ := id hX
  obtain ⟨r0, r1, r2, r3, r4, r5, r6, r7, r8, r9, r10, r11, r12⟩ := id hR
  refine c_X11_feed (v_X11_feed_0 o r4 hT.1 (by omega) ⟨fun hs => ?_, fun _ => h _ _ hG⟩)
  have z := hG.sz
  rw [addI_e (by omega) (by omega)] at hs
  exact G_tt hX hG (by omega) fun σ1 hG1 e1 => G_tt hX hG1 (by omega) fun σ2 hG2 e2 => G_tt hX hG2 (by omega) fun σ3 hG3 e3 => G_tt hX hG3 (by omega) fun σ4 hG4 e4 => G_tt hX hG4 (by omega) fun σ5 hG5 e5 => h _ _ hG5
theorem G_kp {P : Int → Mem → Prop} {s x : Int} (hX : DX N Λ t) (hG : GI ω σ t) (hd : 4 ≤ d) (hs : 0 ≤ s ∧ s < 6) (h : ∀ v σ', GI ω σ' t → P v σ') : CI l mX11_keep d [(2, t), (0, s), (0, x)] N Λ σ P := by
  obtain ⟨o, hR, hS, hH, hI, hMd, hT, hSt, hFi, hFo, hE, hFa, hTm, hW, hOt, hS1, hS2⟩ := id hX
  obtain ⟨r0, r1, r2, r3, r4, r5, r6, r7, r8, r9, r10, r11, r12⟩ := id hR
  exact c_X11_keep (v_X11_keep_0 o r1 r0 hH.1 hH.2.1 hS.1 hS.2.1 r11 hW.1 (by omega) ⟨fun _ => hkq hX hG (by omega) (fun τ hG' => gsh hX hs.1 hs.2 fun pb => G_take hX hG' pb paw (by omega) fun σ6 hG6 _ => h _ _ hG6) (fun τ hG' => gsh hX hs.1 hs.2 fun pb => G_take hX hG' pb paw (by omega) fun σ6 hG6 _ => h _ _ hG6), fun _ τ10 e10 => ⟨fun _ => h _ _ (hG.own e10), fun _ => h _ _ (hG.own e10)⟩⟩)
theorem g_asked {P : Int → Mem → Prop} {x1 x2 : Int} (hX : DX N Λ t) (hd : 1 ≤ d) (h : ∀ v, ¬ v = 0 → P v σ) (h0 : 0 ≤ x1 ∧ x1 < 6 → 0 ≤ x2 ∧ x2 ≤ σ (t + 247) 1 → P 0 σ) : CI l mX11_askedOfTape d [(2, t), (0, x1), (0, x2)] N Λ σ P := by
  obtain ⟨o, hR, hS, hH, hI, hMd, hT, hSt, hFi, hFo, hE, hFa, hTm, hW, hOt, hS1, hS2⟩ := id hX
  obtain ⟨r0, r1, r2, r3, r4, r5, r6, r7, r8, r9, r10, r11, r12⟩ := id hR
  exact c_X11_askedOfTape (v_X11_askedOfTape_0 o r4 hT.1 hd ⟨fun _ => h _ (by decide), fun g1 => ⟨fun _ => h _ (by decide), fun g2 => ⟨fun _ => h _ (by decide), fun g3 => ⟨fun g4 => h0 (by omega) (by omega), fun _ => h _ (by decide)⟩⟩⟩⟩)
theorem G_told {P : Int → Mem → Prop} {x1 x2 : Int} (hX : DX N Λ t) (hG : GI ω σ t) (hd : 20 ≤ d) (h : ∀ v σ', GI ω σ' t → P v σ') : CI l mX11_told d [(2, t), (0, x1), (0, x2)] N Λ σ P := by
  obtain ⟨o, hR, hS, hH, hI, hMd, hT, hSt, hFi, hFo, hE, hFa, hTm, hW, hOt, hS1, hS2⟩ := id hX
  obtain ⟨r0, r1, r2, r3, r4, r5, r6, r7, r8, r9, r10, r11, r12⟩ := id hR
  refine c_X11_told (v_X11_told_0 o r4 hT.1 r11 (by omega) fun τ1 e1 => ?_)
  have hG1 := hG.own e1
  have z := hG1.sz
  refine g_asked hX (by omega) (fun v hv => ⟨fun hc => absurd hc hv, fun _ => h _ _ hG1⟩) (fun b1 b2 => ⟨fun _ => ?_, fun hc => absurd rfl hc⟩)
  refine G_tp hX hG1 (by omega) (by omega) (fun σ4 hG4 _ => ⟨fun hc => absurd rfl hc, fun _ τ13 e13 => h _ _ (hG4.tz e13)⟩) (fun σ4 hG4 f4 tp => ⟨fun _ => ?_, fun hc => absurd hc (by decide)⟩)
  exact G_rp hX hG4 paw (by omega) (by omega) (tp.same (f4 _ (by omega))) fun v7 σ6 hG6 _ => ⟨fun _ => G_kp hX hG6 (by omega) b1 h, fun _ τ10 e10 => G_kp hX (hG6.tz e10) (by omega) b1 h⟩
theorem gfg_lp {P : Int → Mem → Prop} {x1 x2 x3 : Int} (hX : DX N Λ t) (hd : 20 ≤ d) (b1 : 0 ≤ x1 ∧ x1 < 6) (b2 : 0 ≤ x2 ∧ x2 ≤ 300) (h : ∀ v σ', GI ω σ' t → P v σ') : ∀ (m : Nat) (x4 i : Int) (σ : Mem), 0 ≤ i → (300 - i).toNat ≤ m → GI ω σ t → WI l mX11_figure d P 47 [(2, t), (0, x1), (0, x2), (0, x3), (0, x4), (0, i)] [] N Λ σ := by
  obtain ⟨o, hR, hS, hH, hI, hMd, hT, hSt, hFi, hFo, hE, hFa, hTm, hW, hOt, hS1, hS2⟩ := id hX
  obtain ⟨r0, r1, r2, r3, r4, r5, r6, r7, r8, r9, r10, r11, r12⟩ := id hR
  have ixs : ∀ j : Int, 0 ≤ j → j < 9 → Ix N Λ (t + 253 + 2) 0 j := fun j u0 u1 => Ix.of hFi.2.1.2.1 u0 u1
  have en : ∀ (x4 : Int) (σ : Mem), GI ω σ t → ((¬ x4 = 0 → ((¬ x4 = 0 → (CI l mX11_keep (d - 1 - 1) [(2, t), (0, x1), (0, x4)] N Λ σ (fun v1 σ2 => P v1 σ2))) ∧ (x4 = 0 → (∀ τ3, τ3 = st σ (t + 247) 1 0 → (CI l mX11_keep (d - 1 - 1) [(2, t), (0, x1), (0, x4)] N Λ τ3 (fun v4 σ5 => P v4 σ5)))))) ∧ (x4 = 0 → (Ix N Λ (t + 253 + 2) 0 0 ∧ (Ix N Λ (t + 253 + 2) 0 1 ∧ (Ix N Λ (t + 253 + 2) 0 2 ∧ (CI l mX2_makeBracket (d - 1 - 1) [(2, t + 253), (2, t + 596), (0, (σ (t + 253 + 2) 0)), (0, (σ (t + 253 + 2) 1)), (0, (σ (t + 253 + 2) 2))] N Λ σ (fun v6 σ7 => ((¬ v6 = 0 → (CI l mX11_keep (d - 1 - 1) [(2, t), (0, x1), (0, v6)] N Λ σ7 (fun v8 σ9 => P v8 σ9))) ∧ (v6 = 0 → (∀ τ10, τ10 = st σ7 (t + 247) 1 0 → (CI l mX11_keep (d - 1 - 1) [(2, t), (0, x1), (0, v6)] N Λ τ10 (fun v11 σ12 => P v11 σ12)))))))))))) := fun x4 σ hG => ⟨fun _ => ⟨fun _ => G_kp hX hG (by omega) b1 h, fun _ τ3 e3 => G_kp hX (hG.tz e3) (by omega) b1 h⟩, fun _ => ⟨ixs 0 (by decide) (by decide), ixs 1 (by decide) (by decide), ixs 2 (by decide) (by decide), G_mb hX hG paw (hG.stack (by decide) (by decide)) (hG.stack (by decide) (by decide)) (hG.stack (by decide) (by decide)) (by omega) fun v6 σ7 hG7 _ => ⟨fun _ => G_kp hX hG7 (by omega) b1 h, fun _ τ10 e10 => G_kp hX (hG7.tz e10) (by omega) b1 h⟩⟩⟩
  intro m
  induction m with
  | zero => intro x4 i σ g0 g1 hG; exact v_X11_figure_47 o r4 hT.1 r6 r11 hFi.1.1 hW.1 hFi.1.2.2.1 hT.2.1 (by omega) ⟨fun _ => en x4 σ hG, fun hc => by omega⟩
  | succ m ih =>
    intro x4 i σ g0 g1 hG
    refine v_X11_figure_47 o r4 hT.1 r6 r11 hFi.1.1 hW.1 hFi.1.2.2.1 hT.2.1 (by omega) ⟨fun _ => en x4 σ hG, fun hc => ⟨fun _ => en x4 σ hG, fun _ => ⟨Ix.of hT.2.2.2.2.1 g0 (by omega), G_ft hX hG (by omega) fun v26 σ25 hG25 y27 e27 => ?_⟩⟩⟩
    rw [e27, addI_e (by omega) (by omega)]
    exact ih v26 (i + 1) σ25 (by omega) (by omega) hG25
theorem G_figure {P : Int → Mem → Prop} {x1 x2 : Int} (hX : DX N Λ t) (hG : GI ω σ t) (hd : 20 ≤ d) (h : ∀ v σ', GI ω σ' t → P v σ') : CI l mX11_figure d [(2, t), (0, x1), (0, x2)] N Λ σ P := by
  obtain ⟨o, hR, hS, hH, hI, hMd, hT, hSt, hFi, hFo, hE, hFa, hTm, hW, hOt, hS1, hS2⟩ := id hX
  obtain ⟨r0, r1, r2, r3, r4, r5, r6, r7, r8, r9, r10, r11, r12⟩ := id hR
  refine c_X11_figure (v_X11_figure_0 o r4 hT.1 r6 hFi.1.1 (by omega) fun τ1 e1 => ?_)
  have hG1 := hG.own e1
  have z := hG1.sz
  refine g_asked hX (by omega) (fun v hv => ⟨fun hc => absurd hc hv, fun _ => h _ _ hG1⟩) (fun b1 b2 => ⟨fun _ => ?_, fun hc => absurd rfl hc⟩)
  refine G_tf hX hG1 (by omega) (by omega) fun v5 σ4 hG4 _ => ⟨fun _ τ6 e6 => ?_, fun _ τ7 e7 => h _ _ (hG4.tz e7)⟩
  exact gfg_lp hX hd b1 (by omega) h 300 0 0 τ6 (by decide) (by decide) (hG4.sto e6 (NP.mid (by omega) (by omega)).ne (Ok.fig (fun _ => by decide) (fun e => absurd e (by decide))))
theorem G_fault {P : Int → Mem → Prop} {x1 : Int} (hX : DX N Λ t) (hG : GI ω σ t) (hd : 20 ≤ d) (h : ∀ v σ', GI ω σ' t → P v σ') : CI l mX11_fault d [(2, t), (0, x1)] N Λ σ P := by
  obtain ⟨o, hR, hS, hH, hI, hMd, hT, hSt, hFi, hFo, hE, hFa, hTm, hW, hOt, hS1, hS2⟩ := id hX
  obtain ⟨r0, r1, r2, r3, r4, r5, r6, r7, r8, r9, r10, r11, r12⟩ := id hR
  exact c_X11_fault (v_X11_fault_0 o r4 hT.1 ⟨fun _ => ⟨fun _ => h _ _ hG, fun _ => h _ _ hG⟩, fun _ => h _ _ hG⟩)
theorem G_why {P : Int → Mem → Prop} (hX : DX N Λ t) (hG : GI ω σ t) (hd : 20 ≤ d) (h : ∀ v σ', GI ω σ' t → P v σ') : CI l mX11_why d [(2, t)] N Λ σ P := by
  obtain ⟨o, hR, hS, hH, hI, hMd, hT, hSt, hFi, hFo, hE, hFa, hTm, hW, hOt, hS1, hS2⟩ := id hX
  obtain ⟨r0, r1, r2, r3, r4, r5, r6, r7, r8, r9, r10, r11, r12⟩ := id hR
  exact c_X11_why (v_X11_why_0 o (h _ _ hG))
theorem G_clear {P : Int → Mem → Prop} {x1 : Int} (hX : DX N Λ t) (hG : GI ω σ t) (hd : 20 ≤ d) (h : ∀ v σ', GI ω σ' t → P v σ') : CI l mX11_clear d [(2, t), (0, x1)] N Λ σ P := by
  obtain ⟨o, hR, hS, hH, hI, hMd, hT, hSt, hFi, hFo, hE, hFa, hTm, hW, hOt, hS1, hS2⟩ := id hX
  obtain ⟨r0, r1, r2, r3, r4, r5, r6, r7, r8, r9, r10, r11, r12⟩ := id hR
  exact c_X11_clear (v_X11_clear_0 o r0 hS.1 hS.2.1 r11 hW.1 (by omega) ⟨fun _ => h _ _ hG, fun g1 => ⟨fun _ => h _ _ hG, fun g2 => gsh hX (by omega) (by omega) fun _ y2 _ τ3 e3 => G_kp hX (hG.emp paw e3) (by omega) (by omega) fun v σ' hG' => h _ _ hG'⟩⟩)
theorem G_copy {P : Int → Mem → Prop} {x1 x2 : Int} (hX : DX N Λ t) (hG : GI ω σ t) (hd : 20 ≤ d) (h : ∀ v σ', GI ω σ' t → P v σ') : CI l mX11_copy d [(2, t), (0, x1), (0, x2)] N Λ σ P := by
  obtain ⟨o, hR, hS, hH, hI, hMd, hT, hSt, hFi, hFo, hE, hFa, hTm, hW, hOt, hS1, hS2⟩ := id hX
  obtain ⟨r0, r1, r2, r3, r4, r5, r6, r7, r8, r9, r10, r11, r12⟩ := id hR
  exact c_X11_copy (v_X11_copy_0 o r11 r0 hS.1 hS.2.1 hW.1 (by omega) ⟨fun _ => h _ _ hG, fun g1 => ⟨fun _ => h _ _ hG, fun g2 => ⟨fun _ => h _ _ hG, fun g3 => ⟨fun _ => h _ _ hG, fun g4 => gsh hX (by omega) (by omega) fun pb => G_take hX hG paw pb (by omega) fun σ2 hG2 _ => G_kp hX hG2 (by omega) (by omega) h⟩⟩⟩⟩)
theorem G_bracket {P : Int → Mem → Prop} {x1 x2 x3 x4 : Int} (hX : DX N Λ t) (hG : GI ω σ t) (hd : 20 ≤ d) (h : ∀ v σ', GI ω σ' t → P v σ') : CI l mX11_bracket d [(2, t), (0, x1), (0, x2), (0, x3), (0, x4)] N Λ σ P := by
  obtain ⟨o, hR, hS, hH, hI, hMd, hT, hSt, hFi, hFo, hE, hFa, hTm, hW, hOt, hS1, hS2⟩ := id hX
  obtain ⟨r0, r1, r2, r3, r4, r5, r6, r7, r8, r9, r10, r11, r12⟩ := id hR
  have tc : TC t (t + 595) := Or.inl rfl
  refine c_X11_bracket (v_X11_bracket_0 o r10 hTm r11 hW.1 (by omega) ⟨fun _ => h _ _ hG, fun g1 => ⟨fun _ => h _ _ hG, fun g2 => k_are (by omega) (fun g => ⟨fun _ τ3 e3 τ4 e4 => ?_, fun hc => absurd hc (by decide)⟩) (fun g => ⟨fun hc => absurd rfl hc, fun _ => h _ _ hG⟩)⟩⟩)
  rw [row_e (by omega) (by omega) (by omega)]
  have hG4 := (hG.tc tc e3 (tc.ok0 VK0)).tc tc e4 (tc.ok1 (by decide))
  exact G_attach (m := 0) hTm hG4 tc (NbN_3 (by omega) (by omega) (by omega)) (by omega) (by omega) fun σ5 hG5 _ τ6 e6 => by
    have hG6 := hG5.emp paw e6
    exact G_lay hX hG6 paw (hG6.vk tc) (by omega) fun v8 σ7 hG7 _ => G_kp hX hG7 (by omega) (by omega) h
theorem G_exchange {P : Int → Mem → Prop} {x1 x2 x3 x4 : Int} (hX : DX N Λ t) (hG : GI ω σ t) (hd : 20 ≤ d) (h : ∀ v σ', GI ω σ' t → P v σ') : CI l mX11_exchange d [(2, t), (0, x1), (0, x2), (0, x3), (0, x4)] N Λ σ P := by
  obtain ⟨o, hR, hS, hH, hI, hMd, hT, hSt, hFi, hFo, hE, hFa, hTm, hW, hOt, hS1, hS2⟩ := id hX
  obtain ⟨r0, r1, r2, r3, r4, r5, r6, r7, r8, r9, r10, r11, r12⟩ := id hR
  refine c_X11_exchange (v_X11_exchange_0 o r11 hW.1 r5 hSt.1 (by omega) ⟨fun _ => h _ _ hG, fun g1 => ⟨fun _ => h _ _ hG, fun g2 => ⟨fun _ => h _ _ hG, fun g3 => ⟨fun _ => h _ _ hG, fun g4 => ⟨fun _ => h _ _ hG, fun g5 => ⟨fun _ => h _ _ hG, fun g6 => ⟨fun _ => h _ _ hG, fun g7 => ⟨fun g8 τ1 e1 => ?_, fun _ => h _ _ hG⟩⟩⟩⟩⟩⟩⟩⟩)
  rw [row_d (by omega), row_d (by omega)]
  exact G_lxr hX (hG.emp paw e1) paw ⟨_, _, _, by omega, by omega, by omega, rfl⟩ ⟨_, _, _, by omega, by omega, by omega, rfl⟩ (by omega) VK0 (by omega) fun v3 σ2 hG2 _ => G_kp hX hG2 (by omega) (by omega) h
theorem G_add {P : Int → Mem → Prop} {x1 x2 x3 x4 x5 : Int} (hX : DX N Λ t) (hG : GI ω σ t) (hd : 20 ≤ d) (h : ∀ v σ', GI ω σ' t → P v σ') : CI l mX11_add d [(2, t), (0, x1), (0, x2), (0, x3), (0, x4), (0, x5)] N Λ σ P := by
  obtain ⟨o, hR, hS, hH, hI, hMd, hT, hSt, hFi, hFo, hE, hFa, hTm, hW, hOt, hS1, hS2⟩ := id hX
  obtain ⟨r0, r1, r2, r3, r4, r5, r6, r7, r8, r9, r10, r11, r12⟩ := id hR
  refine c_X11_add (v_X11_add_0 o r11 hW.1 r0 hS.1 hS.2.1 (by omega) fun τ1 e1 => ⟨fun _ => h _ _ (hG.own e1), fun g1 => ⟨fun _ => h _ _ (hG.own e1), fun g2 => ⟨fun _ => h _ _ (hG.own e1), fun g3 => ⟨fun _ => h _ _ (hG.own e1), fun g4 => ⟨fun _ => h _ _ (hG.own e1), fun g5 => ⟨fun _ => h _ _ (hG.own e1), fun g6 => ⟨fun _ => h _ _ (hG.own e1), fun g7 => ⟨fun _ => h _ _ (hG.own e1), fun g8 => ⟨fun _ => h _ _ (hG.own e1), fun g9 => ⟨fun _ => h _ _ (hG.own e1), fun g10 => fun τ2 e2 => ?_⟩⟩⟩⟩⟩⟩⟩⟩⟩⟩)
  exact gsh hX (by omega) (by omega) fun pb => G_laySum hX ((hG.own e1).emp paw e2) paw pb (by omega) fun v5 σ4 hG4 _ => ⟨fun _ => G_kp hX hG4 (by omega) (by omega) h, fun _ => gsh hX (by omega) (by omega) fun pb2 => G_laySum hX hG4 paw pb2 (by omega) fun v10 σ9 hG9 _ => G_kp hX hG9 (by omega) (by omega) h⟩
theorem G_times {P : Int → Mem → Prop} {x1 x2 x3 : Int} (hX : DX N Λ t) (hG : GI ω σ t) (hd : 20 ≤ d) (h : ∀ v σ', GI ω σ' t → P v σ') : CI l mX11_times d [(2, t), (0, x1), (0, x2), (0, x3)] N Λ σ P := by
  obtain ⟨o, hR, hS, hH, hI, hMd, hT, hSt, hFi, hFo, hE, hFa, hTm, hW, hOt, hS1, hS2⟩ := id hX
  obtain ⟨r0, r1, r2, r3, r4, r5, r6, r7, r8, r9, r10, r11, r12⟩ := id hR
  refine c_X11_times (v_X11_times_0 o r11 hW.1 r0 hS.1 hS.2.1 (by omega) fun τ1 e1 => ⟨fun _ => h _ _ (hG.own e1), fun g1 => ⟨fun _ => h _ _ (hG.own e1), fun g2 => ⟨fun _ => h _ _ (hG.own e1), fun g3 => ⟨fun _ => h _ _ (hG.own e1), fun g4 => ⟨fun _ => h _ _ (hG.own e1), fun g5 => ⟨fun _ => h _ _ (hG.own e1), fun g6 => fun τ2 e2 => ?_⟩⟩⟩⟩⟩⟩)
  refine gsh (Q := fun b3 => Ix N Λ (t + 1 + 1) 3 x3 ∧ ∀ b4, b4 = (Λ (t + 1 + 1)).2.2 x3 → (Ob N Λ b4 15 3 ∧ CI l mX5_layProduct (d - 1) [(2, t + 596), (2, b3), (2, b4)] N Λ τ2 (fun v6 σ5 => (CI l mX11_keep (d - 1) [(2, t), (0, x1), (0, v6)] N Λ σ5 (fun v8 σ7 => P v8 σ7))))) hX (by omega) (by omega) fun pb => gsh hX (by omega) (by omega) fun pb2 => G_layProduct hX ((hG.own e1).emp paw e2) paw pb pb2 (by omega) (by omega) fun v6 σ5 hG5 _ => G_kp hX hG5 (by omega) (by omega) h
theorem grn_lp {P : Int → Mem → Prop} {a p q bo : Int} (hX : DX N Λ t) (pa : PA t a) (hp : 0 ≤ p ∧ p < 10) (hq : 0 ≤ q ∧ q < 10) (hd : 4 ≤ d) (h : ∀ v σ', GI ω σ' t → P v σ') : ∀ (m : Nat) (v i : Int) (σ : Mem), 0 ≤ i → (80 - i).toNat ≤ m → GI ω σ t → WI l mX11_rename d P 13 [(2, t), (2, a), (0, p), (0, q), (0, bo), (0, v), (0, i)] [] N Λ σ := by
  obtain ⟨o, hR, hS, hH, hI, hMd, hT, hSt, hFi, hFo, hE, hFa, hTm, hW, hOt, hS1, hS2⟩ := id hX
  obtain ⟨r0, r1, r2, r3, r4, r5, r6, r7, r8, r9, r10, r11, r12⟩ := id hR
  have tc : TC t (t + 595) := Or.inl rfl
  have lA := hX.pol pa
  intro m
  induction m with
  | zero =>
    intro v i σ g0 g1 hG
    have z := (hG.1 a pa).sz
    exact v_X11_rename_13 lA.1 o r10 lA.2.1 hTm r11 lA.2.2.1 hW.1 (by omega) ⟨fun _ => h _ _ hG, fun hc => by omega⟩
  | succ m ih =>
    intro v i σ g0 g1 hG
    have z := (hG.1 a pa).sz
    refine v_X11_rename_13 lA.1 o r10 lA.2.1 hTm r11 lA.2.2.1 hW.1 (by omega) ⟨fun _ => h _ _ hG, fun hc => ⟨fun _ => h _ _ hG, fun _ => ⟨Ix.of lA.2.2.2.1 g0 (by omega), G_ren hX hG ((hG.1 a pa).key g0 (by omega)) hp hq (by omega) fun σ1 hG1 _ => ⟨Ix.of lA.2.2.2.2 g0 (by omega), G_lay hX hG1 paw (hG1.vk tc) (by omega) fun v3 σ2 hG2 _ y4 e4 => ?_⟩⟩⟩⟩
    rw [e4, addI_e (by omega) (by omega)]
    exact ih v3 (i + 1) σ2 (by omega) (by omega) hG2
theorem G_rnm {P : Int → Mem → Prop} {a p q bo : Int} (hX : DX N Λ t) (hG : GI ω σ t) (pa : PA t a) (hp : 0 ≤ p ∧ p < 10) (hq : 0 ≤ q ∧ q < 10) (hd : 4 ≤ d) (h : ∀ v σ', GI ω σ' t → P v σ') : CI l mX11_rename d [(2, t), (2, a), (0, p), (0, q), (0, bo)] N Λ σ P := by
  obtain ⟨o, hR, hS, hH, hI, hMd, hT, hSt, hFi, hFo, hE, hFa, hTm, hW, hOt, hS1, hS2⟩ := id hX
  obtain ⟨r0, r1, r2, r3, r4, r5, r6, r7, r8, r9, r10, r11, r12⟩ := id hR
  exact c_X11_rename (v_X11_rename_0 o r11 hW.1 (by omega) fun τ1 e1 => grn_lp hX pa hp hq hd h 80 0 0 τ1 (by decide) (by decide) (hG.emp paw e1))
theorem G_put {P : Int → Mem → Prop} {x1 x2 x3 x4 : Int} (hX : DX N Λ t) (hG : GI ω σ t) (hd : 20 ≤ d) (h : ∀ v σ', GI ω σ' t → P v σ') : CI l mX11_put d [(2, t), (0, x1), (0, x2), (0, x3), (0, x4)] N Λ σ P := by
  obtain ⟨o, hR, hS, hH, hI, hMd, hT, hSt, hFi, hFo, hE, hFa, hTm, hW, hOt, hS1, hS2⟩ := id hX
  obtain ⟨r0, r1, r2, r3, r4, r5, r6, r7, r8, r9, r10, r11, r12⟩ := id hR
  exact c_X11_put (v_X11_put_0 o r0 hS.1 hS.2.1 (by omega) fun τ1 e1 => ⟨fun _ => h _ _ (hG.own e1), fun g1 => ⟨fun _ => h _ _ (hG.own e1), fun g2 => ⟨fun _ => h _ _ (hG.own e1), fun g3 => ⟨fun _ => h _ _ (hG.own e1), fun g4 => ⟨fun _ => h _ _ (hG.own e1), fun g5 => ⟨fun _ => h _ _ (hG.own e1), fun g6 => ⟨fun _ => h _ _ (hG.own e1), fun g7 => ⟨fun _ => h _ _ (hG.own e1), fun g8 => gsh hX (by omega) (by omega) fun pb => G_rnm hX (hG.own e1) pb (by omega) (by omega) (by omega) fun v4 σ3 hG3 => G_kp hX hG3 (by omega) (by omega) h⟩⟩⟩⟩⟩⟩⟩⟩)
theorem G_turn {P : Int → Mem → Prop} {x1 x2 x3 x4 : Int} (hX : DX N Λ t) (hG : GI ω σ t) (hd : 20 ≤ d) (h : ∀ v σ', GI ω σ' t → P v σ') : CI l mX11_turn d [(2, t), (0, x1), (0, x2), (0, x3), (0, x4)] N Λ σ P := by
  obtain ⟨o, hR, hS, hH, hI, hMd, hT, hSt, hFi, hFo, hE, hFa, hTm, hW, hOt, hS1, hS2⟩ := id hX
  obtain ⟨r0, r1, r2, r3, r4, r5, r6, r7, r8, r9, r10, r11, r12⟩ := id hR
  exact c_X11_turn (v_X11_turn_0 o r0 hS.1 hS.2.1 (by omega) fun τ1 e1 => ⟨fun _ => h _ _ (hG.own e1), fun g1 => ⟨fun _ => h _ _ (hG.own e1), fun g2 => ⟨fun _ => h _ _ (hG.own e1), fun g3 => ⟨fun _ => h _ _ (hG.own e1), fun g4 => ⟨fun _ => h _ _ (hG.own e1), fun g5 => ⟨fun _ => h _ _ (hG.own e1), fun g6 => ⟨fun _ => h _ _ (hG.own e1), fun g7 => ⟨fun _ => h _ _ (hG.own e1), fun g8 => gsh hX (by omega) (by omega) fun pb => G_rnm hX (hG.own e1) pb (by omega) (by omega) (by omega) fun v4 σ3 hG3 => G_kp hX hG3 (by omega) (by omega) h⟩⟩⟩⟩⟩⟩⟩⟩)
theorem G_straight {P : Int → Mem → Prop} {x1 x2 : Int} (hX : DX N Λ t) (hG : GI ω σ t) (hd : 20 ≤ d) (h : ∀ v σ', GI ω σ' t → P v σ') : CI l mX11_straight d [(2, t), (0, x1), (0, x2)] N Λ σ P := by
  obtain ⟨o, hR, hS, hH, hI, hMd, hT, hSt, hFi, hFo, hE, hFa, hTm, hW, hOt, hS1, hS2⟩ := id hX
  obtain ⟨r0, r1, r2, r3, r4, r5, r6, r7, r8, r9, r10, r11, r12⟩ := id hR
  exact c_X11_straight (v_X11_straight_0 o r5 r0 hS.1 hS.2.1 r11 hSt.1 (by omega) fun τ1 e1 => ⟨fun _ => h _ _ (hG.own e1), fun g1 => ⟨fun _ => h _ _ (hG.own e1), fun g2 => ⟨fun _ => h _ _ (hG.own e1), fun g3 => ⟨fun _ => h _ _ (hG.own e1), fun g4 => gsh hX (by omega) (by omega) fun pb => G_str hX (hG.own e1) paw pb (by omega) fun v4 σ3 hG3 _ => G_kp hX hG3 (by omega) (by omega) h⟩⟩⟩⟩)
theorem G_reduce {P : Int → Mem → Prop} {x1 x2 : Int} (hX : DX N Λ t) (hG : GI ω σ t) (hd : 20 ≤ d) (h : ∀ v σ', GI ω σ' t → P v σ') : CI l mX11_reduce d [(2, t), (0, x1), (0, x2)] N Λ σ P := by
  obtain ⟨o, hR, hS, hH, hI, hMd, hT, hSt, hFi, hFo, hE, hFa, hTm, hW, hOt, hS1, hS2⟩ := id hX
  obtain ⟨r0, r1, r2, r3, r4, r5, r6, r7, r8, r9, r10, r11, r12⟩ := id hR
  exact c_X11_reduce (v_X11_reduce_0 o r0 r11 hS.1 hS.2.1 (by omega) ⟨fun _ => h _ _ hG, fun g1 => ⟨fun _ => h _ _ hG, fun g2 => ⟨fun _ => h _ _ hG, fun g3 => ⟨fun _ => h _ _ hG, fun g4 => gsh hX (by omega) (by omega) fun pb => G_rd hX hG paw pb (by omega) fun σ2 hG2 => G_kp hX hG2 (by omega) (by omega) h⟩⟩⟩⟩)
theorem gfactT {P : Int → Mem → Prop} {x v : Int} (hX : DX N Λ t) (hG : GI ω σ t) (hd : 4 ≤ d) (hf : FB v) (h : ∀ u σ', GI ω σ' t → P u σ') : FactT l d N Λ t x P v σ := by
  obtain ⟨o, hR, hS, hH, hI, hMd, hT, hSt, hFi, hFo, hE, hFa, hTm, hW, hOt, hS1, hS2⟩ := id hX
  obtain ⟨r0, r1, r2, r3, r4, r5, r6, r7, r8, r9, r10, r11, r12⟩ := id hR
  have fo := hS.2.2.2.2.2.2.1
  intro y5 e5 y6 e6 y7 e7
  have q := fb_ix hf e5 e6 e7
  refine ⟨Ix.of fo q.1 q.2, fun y8 e8 => hkq hX hG (by omega) (fun τ hG' y5' e5' y6' e6' y7' e7' => ?_) (fun τ hG' y5' e5' y6' e6' y7' e7' => ?_)⟩
  · have q' := fb_ix hf e5' e6' e7'
    exact ⟨Ix.of fo q'.1 q'.2, fun τ9 e9 => h _ _ (hG'.sto e9 (sa_n.np (Or.inr rfl)).ne (sa_n.fre (Or.inr rfl)).ok)⟩
  · have q' := fb_ix hf e5' e6' e7'
    exact ⟨Ix.of fo q'.1 q'.2, fun τ9 e9 => h _ _ (hG'.sto e9 (sa_n.np (Or.inr rfl)).ne (sa_n.fre (Or.inr rfl)).ok)⟩
theorem G_fact {P : Int → Mem → Prop} {a c e x : Int} (hX : DX N Λ t) (hG : GI ω σ t) (hd : 20 ≤ d) (h : ∀ v σ', GI ω σ' t → P v σ') : CI l mX11_fact d [(2, t), (0, a), (0, c), (0, e), (0, x)] N Λ σ P := by
  obtain ⟨o, hR, hS, hH, hI, hMd, hT, hSt, hFi, hFo, hE, hFa, hTm, hW, hOt, hS1, hS2⟩ := id hX
  obtain ⟨r0, r1, r2, r3, r4, r5, r6, r7, r8, r9, r10, r11, r12⟩ := id hR
  refine c_X11_fact (v_X11_fact_0 o r0 hS.1 hS.2.2.2.1 r1 hH.1 hH.2.1 (by omega) (k_are (by omega) (fun g => ⟨fun _ => ?_, fun hc => absurd hc (by decide)⟩) (fun g => ⟨fun hc => absurd rfl hc, fun _ => h _ _ hG⟩)))
  rw [row_e (by omega) (by omega) (by omega)]
  refine k_ord2 g.1 g.2.1 g.2.2 ?_
  rcases rk_or g.1 g.2.1 g.2.2 with er | ⟨r, r1, r2, er⟩ | ⟨r, r1, r2, er⟩
  all_goals rw [er]
  · rw [brS_0]
    exact ⟨fun _ => ⟨fun _ => h _ _ hG, fun _ => ⟨fun _ => h _ _ hG, fun _ => ⟨fun hc => absurd rfl hc, fun _ => h _ _ hG⟩⟩⟩, fun hc => absurd (Int.le_refl 0) hc⟩
  · have b := brc_r r1 r2
    rw [brS_p r1]
    exact ⟨fun _ => ⟨fun _ => h _ _ hG, fun _ => ⟨fun _ => h _ _ hG, fun _ => ⟨fun _ => gfactT hX hG (by omega) (Or.inr ⟨r, r1, r2, rfl⟩) h, fun hc => absurd hc (by omega)⟩⟩⟩, fun hc => absurd (by omega) hc⟩
  · have b := brc_r r1 r2
    rw [brS_n r1]
    refine ⟨fun hc => absurd hc (by omega), fun _ y8 e8 => ?_⟩
    rw [negI_e (by omega) (by omega), Int.neg_neg] at e8
    exact ⟨fun _ => h _ _ hG, fun _ => ⟨fun _ => h _ _ hG, fun _ => ⟨fun _ => gfactT hX hG (by omega) (Or.inr ⟨r, r1, r2, e8⟩) h, fun hc => absurd hc (by omega)⟩⟩⟩
theorem G_place {P : Int → Mem → Prop} {x1 x2 x3 x4 : Int} (hX : DX N Λ t) (hG : GI ω σ t) (hd : 20 ≤ d) (h : ∀ σ', GI ω σ' t → P (an_place x1 x2 x3 x4) σ') : CI l mX11_place d [(2, t), (0, x1), (0, x2), (0, x3), (0, x4)] N Λ σ P := by
  obtain ⟨o, hR, hS, hH, hI, hMd, hT, hSt, hFi, hFo, hE, hFa, hTm, hW, hOt, hS1, hS2⟩ := id hX
  obtain ⟨r0, r1, r2, r3, r4, r5, r6, r7, r8, r9, r10, r11, r12⟩ := id hR
  have n2 : ¬ (0 ≤ x1 ∧ x1 < 10) → P (-2) σ := fun q => by have := h σ hG; unfold an_place at this; rw [if_pos q] at this; exact this
  have n3 : (0 ≤ x1 ∧ x1 < 10) → ¬ ((-99 ≤ x2 ∧ x2 ≤ 99) ∧ (-99 ≤ x3 ∧ x3 ≤ 99) ∧ -99 ≤ x4 ∧ x4 ≤ 99) → P (-3) σ := fun p q => by
    have := h σ hG
    unfold an_place at this
    rw [if_neg (show ¬ ¬ (0 ≤ x1 ∧ x1 < 10) from fun z => z p), if_pos q] at this
    exact this
  have y0 : (0 ≤ x1 ∧ x1 < 10) → ((-99 ≤ x2 ∧ x2 ≤ 99) ∧ (-99 ≤ x3 ∧ x3 ≤ 99) ∧ -99 ≤ x4 ∧ x4 ≤ 99) → ∀ σ', GI ω σ' t → P 0 σ' := fun p q σ' hG' => by
    have := h σ' hG'
    unfold an_place at this
    rw [if_neg (show ¬ ¬ (0 ≤ x1 ∧ x1 < 10) from fun z => z p), if_neg (show ¬ ¬ ((-99 ≤ x2 ∧ x2 ≤ 99) ∧ (-99 ≤ x3 ∧ x3 ≤ 99) ∧ -99 ≤ x4 ∧ x4 ≤ 99) from fun z => z q)] at this
    exact this
  clear h
  refine c_X11_place (v_X11_place_0 o r1 r0 hH.1 hH.2.1 hS.1 hS.2.2.1 (by omega) ⟨fun _ => n2 (by clear n2 n3 y0; omega), fun g1 => ⟨fun _ => n2 (by clear n2 n3 y0; omega), fun g2 => ⟨fun _ => n3 (by clear n2 n3 y0; omega) (by clear n2 n3 y0; omega), fun g3 => ⟨fun _ => n3 (by clear n2 n3 y0; omega) (by clear n2 n3 y0; omega), fun g4 => ⟨fun _ => n3 (by clear n2 n3 y0; omega) (by clear n2 n3 y0; omega), fun g5 => ⟨fun _ => n3 (by clear n2 n3 y0; omega) (by clear n2 n3 y0; omega), fun g6 => ⟨fun _ => n3 (by clear n2 n3 y0; omega) (by clear n2 n3 y0; omega), fun g7 => ⟨fun _ => n3 (by clear n2 n3 y0; omega) (by clear n2 n3 y0; omega), fun g8 => ?_⟩⟩⟩⟩⟩⟩⟩⟩)
  have yy := y0 (by clear n2 n3 y0; omega) (by clear n2 n3 y0; omega)
  clear n2 n3 y0
  rw [mulI_e (x := 3) (y := x1) (by omega) (by omega), addI_e (x := 3 * x1) (y := 1) (by omega) (by omega), addI_e (x := 3 * x1) (y := 2) (by omega) (by omega)]
  have po := hS.2.2.2.2.2.1
  have pl : ∀ (σ τ : Mem) (j v : Int), GI ω σ t → τ = st σ (t + 1 + 2) j v → GI ω τ t := fun σ τ j v hG' e => hG'.sto e (sa_n.np (Or.inl rfl)).ne (sa_n.fre (Or.inl rfl)).ok
  exact hkq hX hG (by omega) (fun τ hG' => ⟨Ix.of po (by omega) (by omega), fun τ5 e5 => ⟨Ix.of po (by omega) (by omega), fun τ6 e6 => ⟨Ix.of po (by omega) (by omega), fun τ7 e7 => yy _ (pl _ _ _ _ (pl _ _ _ _ (pl _ _ _ _ hG' e5) e6) e7)⟩⟩⟩) (fun τ hG' => ⟨Ix.of po (by omega) (by omega), fun τ5 e5 => ⟨Ix.of po (by omega) (by omega), fun τ6 e6 => ⟨Ix.of po (by omega) (by omega), fun τ7 e7 => yy _ (pl _ _ _ _ (pl _ _ _ _ (pl _ _ _ _ hG' e5) e6) e7)⟩⟩⟩)
theorem G_terms {P : Int → Mem → Prop} {x1 : Int} (hX : DX N Λ t) (hG : GI ω σ t) (hd : 20 ≤ d) (h : ∀ v σ', GI ω σ' t → P v σ') : CI l mX11_terms d [(2, t), (0, x1)] N Λ σ P := by
  obtain ⟨o, hR, hS, hH, hI, hMd, hT, hSt, hFi, hFo, hE, hFa, hTm, hW, hOt, hS1, hS2⟩ := id hX
  obtain ⟨r0, r1, r2, r3, r4, r5, r6, r7, r8, r9, r10, r11, r12⟩ := id hR
  exact c_X11_terms (v_X11_terms_0 o r0 hS.1 hS.2.1 (by omega) ⟨fun _ => h _ _ hG, fun g1 => ⟨fun _ => h _ _ hG, fun g2 => gsh hX (by omega) (by omega) fun _ => h _ _ hG⟩⟩)
theorem G_term {P : Int → Mem → Prop} {x1 x2 x3 : Int} (hX : DX N Λ t) (hG : GI ω σ t) (hd : 20 ≤ d) (h : ∀ v σ', GI ω σ' t → P v σ') : CI l mX11_term d [(2, t), (0, x1), (0, x2), (0, x3)] N Λ σ P := by
  obtain ⟨o, hR, hS, hH, hI, hMd, hT, hSt, hFi, hFo, hE, hFa, hTm, hW, hOt, hS1, hS2⟩ := id hX
  obtain ⟨r0, r1, r2, r3, r4, r5, r6, r7, r8, r9, r10, r11, r12⟩ := id hR
  refine c_X11_term (v_X11_term_0 o r0 hS.1 hS.2.1 (by omega) ⟨fun _ => h _ _ hG, fun g1 => ⟨fun _ => h _ _ hG, fun g2 => ⟨fun _ => h _ _ hG, fun g3 => gsh hX (by omega) (by omega) fun pb => ?_⟩⟩⟩)
  have lB := hX.pol pb
  have z := (hG.1 _ pb).sz
  refine ⟨fun hlt => gsh hX (by omega) (by omega) fun _ b3 e3 => ?_, fun _ => h _ _ hG⟩
  rw [lB.2.1] at e3
  subst e3
  refine ⟨Ix.of lB.2.2.2.1 (by omega) (by omega), fun y4 _ => gbo (by omega) fun v6 _ _ => ⟨fun _ => ⟨fun _ => h _ _ hG, fun _ => ⟨fun _ y7 _ => ⟨fun _ => h _ _ hG, fun _ => h _ _ hG⟩, fun _ => h _ _ hG⟩⟩, fun _ b8 e8 => ?_, fun _ => gbi (by omega) fun v10 _ _ => h _ _ hG, fun _ => ⟨fun _ => h _ _ hG, fun _ => h _ _ hG⟩, fun _ => ⟨fun _ => h _ _ hG, fun _ => h _ _ hG⟩, fun _ => ⟨fun _ => h _ _ hG, fun _ => h _ _ hG⟩⟩⟩
  rw [lB.2.2.1] at e8
  subst e8
  exact ⟨Ix.of lB.2.2.2.2 (by omega) (by omega), h _ _ hG⟩
theorem gdg_lp {P : Int → Mem → Prop} {a x1 x2 x4 : Int} (hX : DX N Λ t) (hG : GI ω σ t) (pa : PA t a) (hd : 3 ≤ d) (h : ∀ v, P v σ) : ∀ (m : Nat) (i : Int), 0 ≤ i → (80 - i).toNat ≤ m → WI l mX11_degree d P 51 [(2, t), (0, x1), (0, x2), (2, a), (0, x4), (0, i)] [] N Λ σ := by
  have lA := hX.pol pa
  have z := (hG.1 a pa).sz
  intro m
  induction m with
  | zero => intro i g0 g1; exact v_X11_degree_51 lA.1 lA.2.1 (by omega) ⟨fun _ => h _, fun hc => by omega⟩
  | succ m ih =>
    intro i g0 g1
    refine v_X11_degree_51 lA.1 lA.2.1 (by omega) ⟨fun _ => h _, fun hc => ⟨Ix.of lA.2.2.2.1 g0 (by omega), G_to (by omega) fun v => ⟨fun _ y e => ?_, fun _ => h _⟩⟩⟩
    rw [e, addI_e (by omega) (by omega)]
    exact ih (i + 1) (by omega) (by omega)
theorem G_degree {P : Int → Mem → Prop} {x1 x2 : Int} (hX : DX N Λ t) (hG : GI ω σ t) (hd : 20 ≤ d) (h : ∀ v σ', GI ω σ' t → P v σ') : CI l mX11_degree d [(2, t), (0, x1), (0, x2)] N Λ σ P := by
  obtain ⟨o, hR, hS, hH, hI, hMd, hT, hSt, hFi, hFo, hE, hFa, hTm, hW, hOt, hS1, hS2⟩ := id hX
  obtain ⟨r0, r1, r2, r3, r4, r5, r6, r7, r8, r9, r10, r11, r12⟩ := id hR
  refine c_X11_degree (v_X11_degree_0 o r0 hS.1 hS.2.1 (by omega) ⟨fun _ => h _ _ hG, fun g1 => ⟨fun _ => h _ _ hG, fun g2 => ⟨fun _ => h _ _ hG, fun g3 => ⟨fun _ => h _ _ hG, fun g4 => gsh hX (by omega) (by omega) fun pb => ?_⟩⟩⟩⟩)
  have lB := hX.pol pb
  refine ⟨fun hn b2 e2 => ?_, fun _ => h _ _ hG⟩
  rw [lB.2.1] at e2
  subst e2
  exact ⟨Ix.of lB.2.2.2.1 (by decide) (by decide), G_to (by omega) fun v4 => gdg_lp hX hG pb (by omega) (fun v => h _ _ hG) 80 1 (by decide) (by decide)⟩
theorem G_steps {P : Int → Mem → Prop} {x1 : Int} (hX : DX N Λ t) (hG : GI ω σ t) (hd : 20 ≤ d) (h : ∀ v σ', GI ω σ' t → P v σ') : CI l mX11_steps d [(2, t), (0, x1)] N Λ σ P := by
  obtain ⟨o, hR, hS, hH, hI, hMd, hT, hSt, hFi, hFo, hE, hFa, hTm, hW, hOt, hS1, hS2⟩ := id hX
  obtain ⟨r0, r1, r2, r3, r4, r5, r6, r7, r8, r9, r10, r11, r12⟩ := id hR
  exact c_X11_steps (v_X11_steps_0 o r5 r0 hS.1 hS.2.1 r11 hSt.1 (by omega) fun τ1 e1 => ⟨fun _ => h _ _ (hG.own e1), fun g1 => ⟨fun _ => h _ _ (hG.own e1), fun g2 => gsh hX (by omega) (by omega) fun pb => G_str hX (hG.own e1) paw pb (by omega) fun v4 σ3 hG3 _ => ⟨fun _ τ5 e5 => ⟨fun _ => h _ _ (hG3.own e5), fun _ => h _ _ (hG3.own e5)⟩, fun _ => h _ _ hG3⟩⟩⟩)
theorem G_left {P : Int → Mem → Prop} {x1 : Int} (hX : DX N Λ t) (hG : GI ω σ t) (hd : 20 ≤ d) (h : ∀ v σ', GI ω σ' t → P v σ') : CI l mX11_left d [(2, t), (0, x1)] N Λ σ P := by
  obtain ⟨o, hR, hS, hH, hI, hMd, hT, hSt, hFi, hFo, hE, hFa, hTm, hW, hOt, hS1, hS2⟩ := id hX
  obtain ⟨r0, r1, r2, r3, r4, r5, r6, r7, r8, r9, r10, r11, r12⟩ := id hR
  exact c_X11_left (v_X11_left_0 o r5 r0 hS.1 hS.2.1 r11 hSt.1 hW.1 (by omega) fun τ1 e1 => ⟨fun _ => h _ _ (hG.own e1), fun g1 => ⟨fun _ => h _ _ (hG.own e1), fun g2 => gsh hX (by omega) (by omega) fun pb => G_str hX (hG.own e1) paw pb (by omega) fun v4 σ3 hG3 _ => ⟨fun _ τ5 e5 => ⟨fun _ => h _ _ (hG3.own e5), fun _ => h _ _ (hG3.own e5)⟩, fun _ => h _ _ hG3⟩⟩⟩)
theorem gli_lp {P : Int → Mem → Prop} {a b : Int} (hX : DX N Λ t) (hG : GI ω σ t) (pa : PA t a) (pb : PA t b) (h : ∀ v, P v σ) : ∀ (m : Nat) (i : Int), 0 ≤ i → (80 - i).toNat ≤ m → WI l mX5_isLike d P 15 [(2, a), (2, b), (0, i)] [] N Λ σ := by
  have lA := hX.pol pa
  have lB := hX.pol pb
  have z := (hG.1 a pa).sz
  intro m
  induction m with
  | zero => intro i g0 g1; exact v_X5_isLike_15 lA.1 lA.2.1 lB.1 lB.2.1 lA.2.2.1 lB.2.2.1 ⟨fun _ => h _, fun hc => by omega⟩
  | succ m ih =>
    intro i g0 g1
    refine v_X5_isLike_15 lA.1 lA.2.1 lB.1 lB.2.1 lA.2.2.1 lB.2.2.1 ⟨fun _ => h _, fun hc => ⟨Ix.of lA.2.2.2.1 g0 (by omega), Ix.of lB.2.2.2.1 g0 (by omega), fun _ => h _, fun _ => ⟨Ix.of lA.2.2.2.2 g0 (by omega), Ix.of lB.2.2.2.2 g0 (by omega), fun _ y e => ?_, fun _ => h _⟩⟩⟩
    rw [e, addI_e (by omega) (by omega)]
    exact ih (i + 1) (by omega) (by omega)
theorem G_li {P : Int → Mem → Prop} {a b : Int} (hX : DX N Λ t) (hG : GI ω σ t) (pa : PA t a) (pb : PA t b) (h : ∀ v, P v σ) : CI l mX5_isLike d [(2, a), (2, b)] N Λ σ P := c_X5_isLike (v_X5_isLike_0 (hX.pol pa).1 (hX.pol pb).1 ⟨fun _ => gli_lp hX hG pa pb h 80 0 (by decide) (by decide), fun _ => h _⟩)
theorem G_equal {P : Int → Mem → Prop} {x1 x2 : Int} (hX : DX N Λ t) (hG : GI ω σ t) (hd : 20 ≤ d) (h : ∀ v σ', GI ω σ' t → P v σ') : CI l mX11_equal d [(2, t), (0, x1), (0, x2)] N Λ σ P := by
  obtain ⟨o, hR, hS, hH, hI, hMd, hT, hSt, hFi, hFo, hE, hFa, hTm, hW, hOt, hS1, hS2⟩ := id hX
  obtain ⟨r0, r1, r2, r3, r4, r5, r6, r7, r8, r9, r10, r11, r12⟩ := id hR
  exact c_X11_equal (v_X11_equal_0 o r5 r0 hS.1 hS.2.1 r11 hSt.1 r12 hW.1 (by omega) fun τ1 e1 => ⟨fun _ => h _ _ (hG.own e1), fun g1 => ⟨fun _ => h _ _ (hG.own e1), fun g2 => ⟨fun _ => h _ _ (hG.own e1), fun g3 => ⟨fun _ => h _ _ (hG.own e1), fun g4 => gsh hX (by omega) (by omega) fun pb => G_str hX (hG.own e1) paw pb (by omega) fun v4 σ3 hG3 _ => ⟨fun _ => ⟨fun _ => G_li hX hG3 paw pao fun v => ⟨fun _ => h _ _ hG3, fun _ => h _ _ hG3⟩, fun _ τ5 e5 => ⟨fun _ => h _ _ (hG3.own e5), fun _ => h _ _ (hG3.own e5)⟩⟩, fun _ => gsh hX (by omega) (by omega) fun pb2 => G_str hX hG3 pao pb2 (by omega) fun v10 σ9 hG9 _ => ⟨fun _ => G_li hX hG9 paw pao fun v => ⟨fun _ => h _ _ hG9, fun _ => h _ _ hG9⟩, fun _ τ5 e5 => ⟨fun _ => h _ _ (hG9.own e5), fun _ => h _ _ (hG9.own e5)⟩⟩⟩⟩⟩⟩⟩)
theorem G_forms {P : Int → Mem → Prop} {x1 : Int} (hX : DX N Λ t) (hG : GI ω σ t) (hd : 20 ≤ d) (h : ∀ v σ', GI ω σ' t → P v σ') : CI l mX11_forms d [(2, t), (0, x1)] N Λ σ P := by
  obtain ⟨o, hR, hS, hH, hI, hMd, hT, hSt, hFi, hFo, hE, hFa, hTm, hW, hOt, hS1, hS2⟩ := id hX
  obtain ⟨r0, r1, r2, r3, r4, r5, r6, r7, r8, r9, r10, r11, r12⟩ := id hR
  refine c_X11_forms (v_X11_forms_0 o r0 hS.1 hS.2.1 r7 hFo.1 (by omega) ⟨fun _ => h _ _ hG, fun g1 => ⟨fun _ => h _ _ hG, fun g2 => gsh hX (by omega) (by omega) fun pb => ?_⟩⟩)
  have lB := hX.pol pb
  refine ⟨fun hn b2 e2 => ?_, fun _ => h _ _ hG⟩
  rw [lB.2.1] at e2
  subst e2
  exact ⟨Ix.of lB.2.2.2.1 (by decide) (by decide), G_fb hX hG (by omega) fun σ3 hG3 => G_fi hX 12 (d - 1 - 1) 0 σ3 _ (by decide) (by decide) (by omega) hG3 fun v4 σ5 hG5 => h _ _ hG5⟩
theorem G_form {P : Int → Mem → Prop} {x1 x2 x3 : Int} (hX : DX N Λ t) (hG : GI ω σ t) (hd : 20 ≤ d) (h : ∀ v σ', GI ω σ' t → P v σ') : CI l mX11_form d [(2, t), (0, x1), (0, x2), (0, x3)] N Λ σ P := by
  obtain ⟨o, hR, hS, hH, hI, hMd, hT, hSt, hFi, hFo, hE, hFa, hTm, hW, hOt, hS1, hS2⟩ := id hX
  obtain ⟨r0, r1, r2, r3, r4, r5, r6, r7, r8, r9, r10, r11, r12⟩ := id hR
  refine c_X11_form (v_X11_form_0 o r0 hS.1 hS.2.1 r7 hFo.1 hFo.2.2.1 (by omega) ⟨fun _ => h _ _ hG, fun g1 => ⟨fun _ => h _ _ hG, fun g2 => ⟨fun _ => h _ _ hG, fun g3 => ⟨fun g4 => gsh hX (by omega) (by omega) fun pb => ?_, fun _ => h _ _ hG⟩⟩⟩⟩)
  have lB := hX.pol pb
  refine ⟨fun hn b2 e2 => ?_, fun _ => h _ _ hG⟩
  rw [lB.2.1] at e2
  subst e2
  refine ⟨Ix.of lB.2.2.2.1 (by decide) (by decide), G_fb hX hG (by omega) fun σ3 hG3 => ⟨fun _ => h _ _ hG3, fun hn3 => G_fi hX 12 (d - 1 - 1) 0 σ3 _ (by decide) (by decide) (by omega) hG3 fun v4 σ5 hG5 => ⟨fun _ => ⟨Ix.of hFo.2.2.2.2 g4 ?_, h _ _ hG5⟩, fun _ => h _ _ hG5⟩⟩⟩
  have q := hG3.fsz
  omega
theorem G_factor {P : Int → Mem → Prop} {x1 x2 : Int} (hX : DX N Λ t) (hG : GI ω σ t) (hd : 20 ≤ d) (h : ∀ v σ', GI ω σ' t → P v σ') : CI l mX11_factor d [(2, t), (0, x1), (0, x2)] N Λ σ P := by
  obtain ⟨o, hR, hS, hH, hI, hMd, hT, hSt, hFi, hFo, hE, hFa, hTm, hW, hOt, hS1, hS2⟩ := id hX
  obtain ⟨r0, r1, r2, r3, r4, r5, r6, r7, r8, r9, r10, r11, r12⟩ := id hR
  refine c_X11_factor (v_X11_factor_0 o r0 hS.1 hS.2.1 r9 hFa.1 r5 r11 hSt.1 hFa.2.1 hFa.2.2.1 (by omega) fun τ1 e1 => ⟨fun _ => h _ _ (hG.own e1), fun g1 => ⟨fun _ => h _ _ (hG.own e1), fun g2 => ⟨fun _ => h _ _ (hG.own e1), fun g3 => ⟨fun g4 => gsh hX (by omega) (by omega) fun pb => ?_, fun _ => h _ _ (hG.own e1)⟩⟩⟩⟩)
  have hG1 := hG.own e1
  have lB := hX.pol pb
  refine ⟨fun _ => h _ _ hG1, fun hn b3 e3 => ?_⟩
  rw [lB.2.1] at e3
  subst e3
  refine ⟨Ix.of lB.2.2.2.1 (by decide) (by decide), G_tl hX hG1 (by omega) fun v5 σ4 hG4 => ⟨fun _ => gsh hX (by omega) (by omega) fun pb2 => G_str hX hG4 paw pb2 (by omega) fun v8 σ7 hG7 _ => ⟨fun _ => G_se hX hG7 paw (by omega) fun v10 σ9 hG9 => ⟨fun _ => ⟨fun hx0 => ?_, fun _ => h _ _ hG9⟩, fun _ => h _ _ hG9⟩, fun _ τ11 e11 => ⟨fun _ => h _ _ (hG7.own e11), fun _ => h _ _ (hG7.own e11)⟩⟩, fun _ => h _ _ hG4⟩⟩
  rw [subI_e (x := x2) (y := 1) (by omega) (by omega)]
  refine ⟨fun _ => h _ _ hG9, fun hq => ⟨fun hq6 => ?_, fun _ => h _ _ hG9⟩⟩
  have fr := hG9.frow (j := x2 - 1) (by omega) (by omega)
  exact ⟨Ix.of hFa.2.2.2.2.2.2.2.1 (by omega) (by omega), Ix.of hFa.2.2.2.2.2.2.1 fr.1 (by omega), h _ _ hG9⟩
theorem G_isFinal {P : Int → Mem → Prop} {x1 : Int} (hX : DX N Λ t) (hG : GI ω σ t) (hd : 20 ≤ d) (h : ∀ v σ', GI ω σ' t → P v σ') : CI l mX11_isFinal d [(2, t), (0, x1)] N Λ σ P := by
  obtain ⟨o, hR, hS, hH, hI, hMd, hT, hSt, hFi, hFo, hE, hFa, hTm, hW, hOt, hS1, hS2⟩ := id hX
  obtain ⟨r0, r1, r2, r3, r4, r5, r6, r7, r8, r9, r10, r11, r12⟩ := id hR
  refine c_X11_isFinal (v_X11_isFinal_0 o r5 r0 hS.1 hS.2.1 r11 hSt.1 hW.1 r12 hOt.1 hOt.2.1 (by omega) fun τ1 e1 => ⟨fun _ => h _ _ (hG.own e1), fun g1 => ⟨fun _ => h _ _ (hG.own e1), fun g2 => gsh hX (by omega) (by omega) fun pb => G_str hX (hG.own e1) paw pb (by omega) fun v4 σ3 hG3 _ => ⟨fun _ => ⟨fun _ => gsh hX (by omega) (by omega) fun pb2 => G_rd hX hG3 pao pb2 (by omega) fun σ6 hG6 => ⟨fun _ => h _ _ hG6, fun h1 => ?_⟩, fun _ => h _ _ hG3⟩, fun _ τ5 e5 => ⟨fun _ => h _ _ (hG3.own e5), fun _ => h _ _ (hG3.own e5)⟩⟩⟩⟩)
  exact ⟨Ix.of hOt.2.2.2.1 (by decide) (by decide), gbi (by omega) fun v7 _ _ => ⟨fun _ => h _ _ hG6, fun _ => G_bt hX ((hG6.1 _ pao).key (by decide) (by omega)) (by omega) fun v9 => ⟨fun _ => h _ _ hG6, fun _ => h _ _ hG6⟩⟩⟩
theorem G_known {P : Int → Mem → Prop} {a c e : Int} (hX : DX N Λ t) (hG : GI ω σ t) (hd : 20 ≤ d) (h : ∀ v σ', GI ω σ' t → P v σ') : CI l mX11_known d [(2, t), (0, a), (0, c), (0, e)] N Λ σ P := by
  obtain ⟨o, hR, hS, hH, hI, hMd, hT, hSt, hFi, hFo, hE, hFa, hTm, hW, hOt, hS1, hS2⟩ := id hX
  obtain ⟨r0, r1, r2, r3, r4, r5, r6, r7, r8, r9, r10, r11, r12⟩ := id hR
  have tail : ∀ v : Int, FB v → (∀ y5, y5 = (andI (shrI v (mulI 4 (subI 2 0))) 15) → (∀ y6, y6 = (andI (shrI v (mulI 4 (subI 2 1))) 15) → (∀ y7, y7 = (andI (shrI v (mulI 4 (subI 2 2))) 15) → (Ix N Λ (t + 1 + 3) 0 (addI (addI (divI (mulI (mulI y7 (subI y7 1)) (subI y7 2)) 6) (divI (mulI y6 (subI y6 1)) 2)) y5) ∧ P (σ (t + 1 + 3) (addI (addI (divI (mulI (mulI y7 (subI y7 1)) (subI y7 2)) 6) (divI (mulI y6 (subI y6 1)) 2)) y5)) σ)))) := fun v hf y5 e5 y6 e6 y7 e7 => by
    have q := fb_ix hf e5 e6 e7
    exact ⟨Ix.of hS.2.2.2.2.2.2.1 q.1 q.2, h _ _ hG⟩
  refine c_X11_known (v_X11_known_0 o r0 hS.1 hS.2.2.2.1 (by omega) (k_are (by omega) (fun g => ⟨fun _ => ?_, fun hc => absurd hc (by decide)⟩) (fun g => ⟨fun hc => absurd rfl hc, fun _ => h _ _ hG⟩)))
  rw [row_e (by omega) (by omega) (by omega)]
  refine k_ord2 g.1 g.2.1 g.2.2 ?_
  rcases rk_or g.1 g.2.1 g.2.2 with er | ⟨r, r1, r2, er⟩ | ⟨r, r1, r2, er⟩
  all_goals rw [er]
  · rw [brS_0]
    exact ⟨fun _ => ⟨fun hc => absurd rfl hc, fun _ => h _ _ hG⟩, fun hc => absurd (Int.le_refl 0) hc⟩
  · have b := brc_r r1 r2
    rw [brS_p r1]
    exact ⟨fun _ => ⟨fun _ => tail _ (Or.inr ⟨r, r1, r2, rfl⟩), fun hc => absurd hc (by omega)⟩, fun hc => absurd (by omega) hc⟩
  · have b := brc_r r1 r2
    rw [brS_n r1]
    refine ⟨fun hc => absurd hc (by omega), fun _ y8 e8 => ?_⟩
    rw [negI_e (by omega) (by omega), Int.neg_neg] at e8
    exact ⟨fun _ => tail _ (Or.inr ⟨r, r1, r2, e8⟩), fun hc => absurd hc (by omega)⟩
theorem G_atc {P : Int → Mem → Prop} {x1 x2 : Int} (hX : DX N Λ t) (hG : GI ω σ t) (hd : 20 ≤ d) (h : ∀ v σ', GI ω σ' t → P v σ') : CI l mX11_at d [(2, t), (0, x1), (0, x2)] N Λ σ P := by
  obtain ⟨o, hR, hS, hH, hI, hMd, hT, hSt, hFi, hFo, hE, hFa, hTm, hW, hOt, hS1, hS2⟩ := id hX
  obtain ⟨r0, r1, r2, r3, r4, r5, r6, r7, r8, r9, r10, r11, r12⟩ := id hR
  refine c_X11_at (v_X11_at_0 o r0 hS.1 hS.2.2.1 (by omega) ⟨fun _ => h _ _ hG, fun g1 => ⟨fun _ => h _ _ hG, fun g2 => ⟨fun _ => h _ _ hG, fun g3 => ⟨fun g4 => ?_, fun _ => h _ _ hG⟩⟩⟩⟩)
  rw [mulI_e (x := 3) (y := x1) (by omega) (by omega), addI_e (x := 3 * x1) (y := x2) (by omega) (by omega)]
  exact ⟨Ix.of hS.2.2.2.2.2.1 (by omega) (by omega), h _ _ hG⟩
theorem G_worth {P : Int → Mem → Prop} {a c e : Int} (hX : DX N Λ t) (hG : GI ω σ t) (hd : 20 ≤ d) (h : ∀ v σ', GI ω σ' t → P v σ') : CI l mX11_worth d [(2, t), (0, a), (0, c), (0, e)] N Λ σ P := by
  obtain ⟨o, hR, hS, hH, hI, hMd, hT, hSt, hFi, hFo, hE, hFa, hTm, hW, hOt, hS1, hS2⟩ := id hX
  obtain ⟨r0, r1, r2, r3, r4, r5, r6, r7, r8, r9, r10, r11, r12⟩ := id hR
  exact c_X11_worth (v_X11_worth_0 o r0 hS.1 (by omega) (k_are (by omega) (fun g => ⟨fun hc => absurd hc (by decide), fun _ => G_det hX g.1 g.2.1 g.2.2 fun v => h _ _ hG⟩) (fun g => ⟨fun _ => h _ _ hG, fun hc => absurd rfl hc⟩)))
theorem G_value {P : Int → Mem → Prop} {x1 : Int} (hX : DX N Λ t) (hG : GI ω σ t) (hd : 20 ≤ d) (h : ∀ v σ', GI ω σ' t → P v σ') : CL l mX11_value d [(2, t), (0, x1)] N Λ σ P := by
  obtain ⟨o, hR, hS, hH, hI, hMd, hT, hSt, hFi, hFo, hE, hFa, hTm, hW, hOt, hS1, hS2⟩ := id hX
  obtain ⟨r0, r1, r2, r3, r4, r5, r6, r7, r8, r9, r10, r11, r12⟩ := id hR
  exact c_X11_value (v_X11_value_0 o r0 hS.1 hS.2.1 (by omega) ⟨fun _ => h _ _ hG, fun g1 => ⟨fun _ => h _ _ hG, fun g2 => gsh hX (by omega) (by omega) fun pb => G_wo hX hG pb (by omega) fun v => h _ _ hG⟩⟩)
theorem G_undo {P : Int → Mem → Prop} {x1 : Int} (hX : DX N Λ t) (hG : GI ω σ t) (hd : 20 ≤ d) (h : ∀ v σ', GI ω σ' t → P v σ') : CI l mX11_undo d [(2, t), (0, x1)] N Λ σ P := by
  obtain ⟨o, hR, hS, hH, hI, hMd, hT, hSt, hFi, hFo, hE, hFa, hTm, hW, hOt, hS1, hS2⟩ := id hX
  obtain ⟨r0, r1, r2, r3, r4, r5, r6, r7, r8, r9, r10, r11, r12⟩ := id hR
  exact c_X11_undo (v_X11_undo_0 o r1 hH.1 r0 (by omega) ⟨fun _ => h _ _ hG, fun g1 => ⟨fun _ => h _ _ hG, fun g2 => ⟨fun g3 => G_gb hX hG (by omega) g3 (by omega) fun σ1 hG1 => h _ _ hG1, fun _ => h _ _ hG⟩⟩⟩)
theorem GI.made {i : Int} (h : GI ω σ t) : GI (st ω (t + 246) i 1) (st σ (t + 246) i 1) t := by
  refine ⟨fun a ha => ?_, fun c j => ?_, fun c hc => ?_⟩
  · have q := (NP.mid (t := t) (c := t + 246) (by omega) (by omega)).ne a ha
    exact (h.1 a ha).same (st_ne (fun z => q.1 z.symm)) (st_ne (fun z => q.2.1 z.symm)) (st_ne (fun z => q.2.2 z.symm))
  · by_cases hc : c = t + 246
    · refine Fre.ok ?_
      unfold Fre
      omega
    · rw [st_ne hc]
      exact h.ok c j
  · by_cases h6 : c = t + 246
    · subst h6
      funext j
      by_cases hj : j = i
      · subst hj
        rw [st_eq, st_eq]
      · rw [st_nj hj, st_nj hj, h.fr (Or.inr (Or.inr rfl))]
    · rw [st_ne h6, st_ne h6]
      exact h.fr hc
theorem gims {Q : Int → Prop} {i : Int} (hX : DX N Λ t) (h0 : 0 ≤ i) (h1 : i < 2) (h : ∀ b, SA t b → Q b) : Ix N Λ (t + 245) 4 i ∧ ∀ b, b = (Λ (t + 245)).2.2 i → (Ob N Λ b 16 3 ∧ Q b) := by
  have hI := hX.2.2.2.2.1
  refine ⟨Ix.of hI.1 h0 h1, fun b eb => ?_⟩
  have ci : i = 0 ∨ i = 1 := by omega
  rcases ci with rfl | rfl
  · rw [hI.2.1] at eb
    have s : SA t b := Or.inr (Or.inl eb)
    exact ⟨(hX.sta s).1, h b s⟩
  · rw [hI.2.2] at eb
    have s : SA t b := Or.inr (Or.inr (Or.inl eb))
    exact ⟨(hX.sta s).1, h b s⟩
theorem G_image {P : Int → Mem → Prop} {x1 : Int} (hX : DX N Λ t) (hG : GI ω σ t) (hd : 20 ≤ d) (h2 : ¬ (0 ≤ x1 ∧ x1 < 2) → P (-2) σ) (h : 0 ≤ x1 ∧ x1 < 2 → ∀ σ', GI ω σ' t → P 0 (st σ' (t + 246) x1 1)) : CI l mX11_image d [(2, t), (0, x1)] N Λ σ P := by
  obtain ⟨o, hR, hS, hH, hI, hMd, hT, hSt, hFi, hFo, hE, hFa, hTm, hW, hOt, hS1, hS2⟩ := id hX
  obtain ⟨r0, r1, r2, r3, r4, r5, r6, r7, r8, r9, r10, r11, r12⟩ := id hR
  exact c_X11_image (v_X11_image_0 o r2 r0 r3 (by omega) ⟨fun _ => h2 (by omega), fun g1 => ⟨fun g2 => gims hX (by omega) g2 fun b sb => G_st hX hG sb sa_n (by omega) fun σ2 hG2 => ⟨Ix.of hMd (by omega) g2, Or.inr rfl, fun τ3 e3 => by rw [e3]; exact h (by omega) _ hG2⟩, fun _ => h2 (by omega)⟩⟩)
theorem G_restore {P : Int → Mem → Prop} {x1 : Int} (hX : DX N Λ t) (hG : GI ω σ t) (hd : 20 ≤ d) (h2 : ¬ (0 ≤ x1 ∧ x1 < 2) → P (-2) σ) (h6 : 0 ≤ x1 ∧ x1 < 2 → σ (t + 246) x1 = 0 → P (-6) σ) (h : 0 ≤ x1 ∧ x1 < 2 → ¬ σ (t + 246) x1 = 0 → ∀ σ', GI ω σ' t → P 0 σ') : CI l mX11_restore d [(2, t), (0, x1)] N Λ σ P := by
  obtain ⟨o, hR, hS, hH, hI, hMd, hT, hSt, hFi, hFo, hE, hFa, hTm, hW, hOt, hS1, hS2⟩ := id hX
  obtain ⟨r0, r1, r2, r3, r4, r5, r6, r7, r8, r9, r10, r11, r12⟩ := id hR
  exact c_X11_restore (v_X11_restore_0 o r3 r0 r2 hS.1 r1 hH.1 (by omega) ⟨fun _ => h2 (by omega), fun g1 => ⟨fun g2 => ⟨Ix.of hMd (by omega) g2, fun hm => gims hX (by omega) g2 fun b sb => G_st hX hG sa_n sb (by omega) fun σ2 hG2 τ3 e3 => h (by omega) hm _ (hG2.his e3 (fun _ => by decide) (fun e => absurd e (by decide))), fun hm => h6 (by omega) hm⟩, fun _ => h2 (by omega)⟩⟩)
theorem G_count {P : Int → Mem → Prop} {x1 : Int} (hX : DX N Λ t) (hG : GI ω σ t) (hd : 20 ≤ d) (h : ∀ v σ', GI ω σ' t → P v σ') : CI l mX11_count d [(2, t), (0, x1)] N Λ σ P := by
  obtain ⟨o, hR, hS, hH, hI, hMd, hT, hSt, hFi, hFo, hE, hFa, hTm, hW, hOt, hS1, hS2⟩ := id hX
  obtain ⟨r0, r1, r2, r3, r4, r5, r6, r7, r8, r9, r10, r11, r12⟩ := id hR
  exact c_X11_count (v_X11_count_0 o r0 hS.1 r4 hT.1 r1 hH.1 (by omega) ⟨fun _ => h _ _ hG, fun _ => G_at hX fun v => h _ _ hG, fun _ => G_fta hX fun v => h _ _ hG, fun _ => G_fta hX fun v => h _ _ hG, fun _ => h _ _ hG, fun _ => h _ _ hG, fun _ => G_wz hX (by omega) fun v => h _ _ hG⟩)
end GD
