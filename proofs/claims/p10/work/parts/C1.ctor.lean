section CX2
variable {l : Launch} {d N : Nat} {Λ : Lay} {σ : Mem} {c : Int}
theorem xfig_lp2 {P : Nat → Lay → Mem → Prop} {N0 : Nat} {Λ0 : Lay} {σ0 : Mem} (hc0 : 0 ≤ c) (hN : c + 1 = N0) (hNN : N = N0 + 315) (hd : 1 ≤ d) (h : ∀ σ', FigL N Λ σ' c → σ' (c + 15) 0 = 0 → Keep N0 Λ0 σ0 Λ σ' c → P N Λ σ') {k n : Nat} (hk : k ≤ 315) (hn : n ≤ 17063) :
    ∀ (m i : Nat), i + m = 9 → ∀ (σ : Mem), FigA N Λ σ c 100 → (∀ j : Int, 0 ≤ j → j < i → σ (c + 2) j = 10 * j) → σ (c + 15) 0 = 0 → Keep N0 Λ0 σ0 Λ σ c → WC l mX2_init d 315 17063 P k n 119 [(2, c), (0, (i : Int))] [] N Λ σ := by
  intro m
  induction m with
  | zero =>
    intro i him σ hA hj ht hkeep
    have hi : i = 9 := by omega
    subst hi
    exact v_X2_init_119 hA.1.1 hd ⟨fun _ => ⟨⟨hk, hn⟩, h σ ⟨hA, hj⟩ ht hkeep⟩, fun hc => absurd (by decide) hc⟩
  | succ m ih =>
    intro i him σ hA hj ht hkeep
    refine v_X2_init_119 hA.1.1 hd ⟨fun hc => by omega, fun _ b1 e1 => ?_⟩
    rw [hA.1.2.2.1] at e1
    subst e1
    refine ⟨9, hA.2.1.2.1, Ix.of hA.2.1.2.1 (by omega) (by omega), fun τ3 e3 y4 e4 => ?_⟩
    rw [e4, addI_e (by omega) (by omega)]
    have hne : ∀ c' : Int, c' ≠ c + 2 → τ3 c' = σ c' := fun c' hc' => by rw [e3, st_ne hc']
    refine ih (i + 1) (by omega) τ3 (hA.step (by omega) (Nat.le_refl _) (fun c' g0 g1 g2 g3 => ⟨rfl, hne c' g3⟩) hA.2.1.1 hA.2.1.2.1 (fun _ _ _ => rfl) (fun s g0 g1 => by omega)) (fun j g0 g1 => ?_) (by rw [hne _ (by omega)]; exact ht) (fun c' g0 g1 g2 => ⟨(hkeep c' g0 g1 g2).1, ?_⟩)
    · rw [e3]
      by_cases hji : j = i
      · subst hji
        rw [st_eq, mulI_e (by omega) (by omega)]
      · rw [st_nj hji]
        exact hj j g0 (by omega)
    · rw [hne c' (by omega)]
      exact (hkeep c' g0 g1 g2).2
theorem xfig_lp {P : Nat → Lay → Mem → Prop} {N0 : Nat} {Λ0 : Lay} {σ0 : Mem} (hc0 : 0 ≤ c) (hN : c + 1 = N0) (hd : 2 ≤ d) (h : ∀ Λ' σ', FigL (N0 + 315) Λ' σ' c → σ' (c + 15) 0 = 0 → Keep N0 Λ0 σ0 Λ' σ' c → P (N0 + 315) Λ' σ') :
    ∀ (m i : Nat), i + m = 100 → ∀ (N k n : Nat) (Λ : Lay) (σ : Mem), N = N0 + 15 + 3 * i → k = 15 + 3 * i → n = 763 + 163 * i →
      FigA N Λ σ c i → σ (c + 15) 0 = 0 → Keep N0 Λ0 σ0 Λ σ c → WC l mX2_init d 315 17063 P k n 89 [(2, c), (0, (i : Int))] [] N Λ σ := by
  intro m
  induction m with
  | zero =>
    intro i him N k n Λ σ hNN hk hn hA ht hkeep
    have hi : i = 100 := by omega
    subst hi
    have hN2 : N = N0 + 315 := by omega
    subst hN2
    refine v_X2_init_89 hA.1.1 (by omega) (fun b1 e1 => ?_)
    rw [hA.1.2.1] at e1
    subst e1
    exact ⟨100, hA.2.1.1, ⟨by decide, by decide⟩, fun _ => xfig_lp2 hc0 hN rfl (by omega) (fun σ' h1 h2 h3 => h Λ σ' h1 h2 h3) (by omega) (by omega) 9 0 rfl σ hA (fun j g0 g1 => by omega) ht hkeep, fun hc => absurd (by decide) hc⟩
  | succ m ih =>
    intro i him N k n Λ σ hNN hk hn hA ht hkeep
    have oc := hA.1.1
    have o1 := hA.2.1.1
    have o2 := hA.2.1.2.1
    refine v_X2_init_89 oc (by omega) (fun b1 e1 => ?_)
    rw [hA.1.2.1] at e1
    subst e1
    refine ⟨100, o1, ⟨by decide, by decide⟩, fun hc => by omega, fun _ b3 e3 => ?_⟩
    rw [hA.1.2.1] at e3
    subst e3
    refine ⟨100, o1, ⟨by omega, by omega⟩, fun a5 e5 Λ6 e6 σ7 e7 => ⟨⟨by omega, by omega⟩, ?_⟩⟩
    have oa := Ob_newS e6 e5
    refine k_Poly_init (by omega) oa (by omega) (fun Λ' σ' hp hz hkp => ?_)
    have hk2 : ∀ c' : Int, 0 ≤ c' → c' < N → Λ' c' = Λ c' ∧ σ' c' = σ c' := fun c' h0 h1 => by
      have := hkp c' h0 (by omega) (by omega)
      rw [this.1, this.2, e6, newL_ne (by omega), e7, newM_ne (by omega)]
      exact ⟨rfl, rfl⟩
    have mv : ∀ {x len : Int} {t : Nat}, Ob N Λ x t len → Ob (N + 1 + 2) Λ' x t len := fun {x len t} ho => ⟨ho.1, by have := ho.2.1; omega, by rw [(hk2 x ho.1 ho.2.1).1]; exact ho.2.2.1, by rw [(hk2 x ho.1 ho.2.1).1]; exact ho.2.2.2⟩
    refine ⟨mv oc, mv o1, mv o1, hp.1, ⟨by omega, by omega⟩, fun Λ11 e11 y12 e12 => ?_⟩
    rw [e12, addI_e (by omega) (by omega)]
    have hL : ∀ c' : Int, c' ≠ c + 1 → Λ11 c' = Λ' c' := fun c' hc' => by rw [e11, stR_ne hc']
    have h1N := o1.2.1
    refine ih (i + 1) (by omega) (N + 1 + 2) (k + 1 + 2) (n + 3 + 160) Λ11 σ' (by omega) (by omega) (by omega) (hA.step (by omega) (by omega) (fun c' g0 g1 g2 g3 => ?_) (Ob_stR e11 (mv o1)) (Ob_stR e11 (mv o2)) (fun s g0 g1 => ?_) (fun s g0 g1 => ?_)) (by rw [(hk2 _ (by omega) (by omega)).2]; exact ht) (fun c' g0 g1 g2 => ?_)
    · rw [hL c' g2]
      exact hk2 c' (by omega) (by omega)
    · rw [e11, stR_r, if_neg (by omega), (hk2 (c + 1) (by omega) (by omega)).1]
    · have hs : s = i := by omega
      subst hs
      rw [e11, stR_r, if_pos rfl, ← e11, show c + 16 + 3 * (i : Int) = a5 by omega]
      exact ⟨rfl, hp.mono (Nat.le_refl _) (hL _ (by omega)) (hL _ (by omega)) (hL _ (by omega)), hz⟩
    · rw [hL c' (by omega), (hk2 c' g0 (by omega)).1, (hk2 c' g0 (by omega)).2]
      exact hkeep c' g0 g1 g2
theorem x_Fig_init {P : Nat → Lay → Mem → Prop} (hN : c + 1 = N) (o : Ob N Λ c 12 9) (hd : 2 ≤ d) (h : ∀ Λ' σ', FigL (N + 315) Λ' σ' c → σ' (c + 15) 0 = 0 → Keep N Λ σ Λ' σ' c → P (N + 315) Λ' σ') : CC l mX2_init d 315 17063 [(2, c)] N Λ σ P := by
  have hc0 := o.1
  refine CC.of (m := 1) ok_mX2_init (Nat.le_of_ble_eq_true rfl) rfl (v_X2_init_0 o (by omega) ?_)
  refine ⟨⟨by decide, by decide⟩, fun a1 e1 Λ2 e2 σ3 e3 Λ4 e4 => ⟨⟨by decide, by decide⟩, fun a5 e5 Λ6 e6 σ7 e7 Λ8 e8 τ9 e9 τ10 e10 => ⟨⟨by decide, by decide⟩, fun a11 e11 Λ12 e12 σ13 e13 => ⟨⟨by decide, by decide⟩, ?_⟩⟩⟩⟩
  have q1 : a1 = c + 1 := by omega
  have q5 : a5 = c + 2 := by omega
  have q11 : a11 = c + 3 := by omega
  have oc := Ob_stR e8 (Ob_new e6 (Ob_stR e4 (Ob_new e2 o)))
  have o1 := Ob_stR e8 (Ob_new e6 (Ob_stR e4 (Ob_newS e2 e1)))
  have o5 := Ob_stR e8 (Ob_newS e6 e5)
  have f0 : (Λ8 c).2.2 0 = c + 1 := by rw [e8, stR_r, if_neg (by decide), e6, newL_ne (by omega), e4, stR_r, if_pos rfl, q1]
  have f1 : (Λ8 c).2.2 1 = c + 2 := by rw [e8, stR_r, if_pos rfl, q5]
  have z2 : τ10 c 2 = 0 := by rw [e10, st_nj (by decide), e9, st_eq]
  have z3 : τ10 c 3 = 90 := by rw [e10, st_eq]
  have kL : ∀ c' : Int, 0 ≤ c' → c' < N → c' ≠ c → Λ8 c' = Λ c' := fun c' g0 g1 g2 => by rw [e8, stR_ne g2, e6, newL_ne (by omega), e4, stR_ne g2, e2, newL_ne (by omega)]
  have kS : ∀ c' : Int, 0 ≤ c' → c' < N → c' ≠ c → τ10 c' = σ c' := fun c' g0 g1 g2 => by rw [e10, st_ne g2, e9, st_ne g2, e7, newM_ne (by omega), e3, newM_ne (by omega)]
  clear e1 e2 e3 e4 e5 e6 e7 e8 e9 e10 o
  subst q1 q5
  refine k_Poly_init (by omega) (Ob_newS e12 e11) (by omega) (fun Λ15 σ16 hp1 hz1 hk1 => ⟨Ob_keep hk1 (by omega) (Ob_new e12 oc) (by omega), Ob_keep hk1 (by omega) (Ob_new e12 o1) (by omega), Ob_keep hk1 (by omega) (Ob_new e12 o5) (by omega), hp1.1, fun Λ17 e17 => ⟨⟨by decide, by decide⟩, fun a18 e18 Λ19 e19 σ20 e20 => ⟨⟨by decide, by decide⟩, ?_⟩⟩⟩)
  have I1 := poly_in e12 e13 e11 hp1 hk1 e17 hc0 (by omega)
  have oc1 := Ob_stR e17 (Ob_keep hk1 (N' := N + 1 + 1 + 1 + 2) (by omega) (Ob_new e12 oc) (by omega))
  have o11 := Ob_stR e17 (Ob_keep hk1 (N' := N + 1 + 1 + 1 + 2) (by omega) (Ob_new e12 o1) (by omega))
  have o51 := Ob_stR e17 (Ob_keep hk1 (N' := N + 1 + 1 + 1 + 2) (by omega) (Ob_new e12 o5) (by omega))
  have oA1 := Ob_stR e17 hp1.1
  clear e12 e13 hk1 e17 hp1
  refine k_Poly_init (by omega) (Ob_newS e19 e18) (by omega) (fun Λ22 σ23 hp2 hz2 hk2 => ⟨Ob_keep hk2 (by omega) (Ob_new e19 oc1) (by omega), Ob_keep hk2 (by omega) (Ob_new e19 o11) (by omega), Ob_keep hk2 (by omega) (Ob_new e19 o51) (by omega), Ob_keep hk2 (by omega) (Ob_new e19 oA1) (by omega), hp2.1, fun Λ24 e24 => ⟨⟨by decide, by decide⟩, fun a25 e25 Λ26 e26 σ27 e27 => ⟨⟨by decide, by decide⟩, ?_⟩⟩⟩)
  have I2 := poly_in e19 e20 e18 hp2 hk2 e24 hc0 (by omega)
  have oc2 := Ob_stR e24 (Ob_keep hk2 (N' := N + 1 + 1 + 1 + 2 + 1 + 2) (by omega) (Ob_new e19 oc1) (by omega))
  have o12 := Ob_stR e24 (Ob_keep hk2 (N' := N + 1 + 1 + 1 + 2 + 1 + 2) (by omega) (Ob_new e19 o11) (by omega))
  have o52 := Ob_stR e24 (Ob_keep hk2 (N' := N + 1 + 1 + 1 + 2 + 1 + 2) (by omega) (Ob_new e19 o51) (by omega))
  have oA2 := Ob_stR e24 (Ob_keep hk2 (N' := N + 1 + 1 + 1 + 2 + 1 + 2) (by omega) (Ob_new e19 oA1) (by omega))
  have oB2 := Ob_stR e24 hp2.1
  clear e19 e20 hk2 e24 hp2
  refine k_Poly_init (by omega) (Ob_newS e26 e25) (by omega) (fun Λ29 σ30 hp3 hz3 hk3 => ⟨Ob_keep hk3 (by omega) (Ob_new e26 oc2) (by omega), Ob_keep hk3 (by omega) (Ob_new e26 o12) (by omega), Ob_keep hk3 (by omega) (Ob_new e26 o52) (by omega), Ob_keep hk3 (by omega) (Ob_new e26 oA2) (by omega), Ob_keep hk3 (by omega) (Ob_new e26 oB2) (by omega), hp3.1, fun Λ31 e31 => ⟨⟨by decide, by decide⟩, fun a32 e32 Λ33 e33 σ34 e34 => ⟨⟨by decide, by decide⟩, ?_⟩⟩⟩)
  have I3 := poly_in e26 e27 e25 hp3 hk3 e31 hc0 (by omega)
  have oc3 := Ob_stR e31 (Ob_keep hk3 (N' := N + 1 + 1 + 1 + 2 + 1 + 2 + 1 + 2) (by omega) (Ob_new e26 oc2) (by omega))
  have o13 := Ob_stR e31 (Ob_keep hk3 (N' := N + 1 + 1 + 1 + 2 + 1 + 2 + 1 + 2) (by omega) (Ob_new e26 o12) (by omega))
  have o53 := Ob_stR e31 (Ob_keep hk3 (N' := N + 1 + 1 + 1 + 2 + 1 + 2 + 1 + 2) (by omega) (Ob_new e26 o52) (by omega))
  have oA3 := Ob_stR e31 (Ob_keep hk3 (N' := N + 1 + 1 + 1 + 2 + 1 + 2 + 1 + 2) (by omega) (Ob_new e26 oA2) (by omega))
  have oB3 := Ob_stR e31 (Ob_keep hk3 (N' := N + 1 + 1 + 1 + 2 + 1 + 2 + 1 + 2) (by omega) (Ob_new e26 oB2) (by omega))
  have oC3 := Ob_stR e31 hp3.1
  clear e26 e27 hk3 e31 hp3
  refine k_Poly_init (by omega) (Ob_newS e33 e32) (by omega) (fun Λ36 σ37 hp4 hz4 hk4 => ⟨Ob_keep hk4 (by omega) (Ob_new e33 oc3) (by omega), Ob_keep hk4 (by omega) (Ob_new e33 o13) (by omega), Ob_keep hk4 (by omega) (Ob_new e33 o53) (by omega), Ob_keep hk4 (by omega) (Ob_new e33 oA3) (by omega), Ob_keep hk4 (by omega) (Ob_new e33 oB3) (by omega), Ob_keep hk4 (by omega) (Ob_new e33 oC3) (by omega), hp4.1, fun Λ38 e38 => ⟨⟨by decide, by decide⟩, fun a39 e39 Λ40 e40 σ41 e41 => ⟨⟨by decide, by decide⟩, ?_⟩⟩⟩)
  have I4 := poly_in e33 e34 e32 hp4 hk4 e38 hc0 (by omega)
  have oc4 := Ob_new e40 (Ob_stR e38 (Ob_keep hk4 (N' := N + 1 + 1 + 1 + 2 + 1 + 2 + 1 + 2 + 1 + 2) (by omega) (Ob_new e33 oc3) (by omega)))
  have o14 := Ob_new e40 (Ob_stR e38 (Ob_keep hk4 (N' := N + 1 + 1 + 1 + 2 + 1 + 2 + 1 + 2 + 1 + 2) (by omega) (Ob_new e33 o13) (by omega)))
  have o54 := Ob_new e40 (Ob_stR e38 (Ob_keep hk4 (N' := N + 1 + 1 + 1 + 2 + 1 + 2 + 1 + 2 + 1 + 2) (by omega) (Ob_new e33 o53) (by omega)))
  have oA4 := Ob_new e40 (Ob_stR e38 (Ob_keep hk4 (N' := N + 1 + 1 + 1 + 2 + 1 + 2 + 1 + 2 + 1 + 2) (by omega) (Ob_new e33 oA3) (by omega)))
  have oB4 := Ob_new e40 (Ob_stR e38 (Ob_keep hk4 (N' := N + 1 + 1 + 1 + 2 + 1 + 2 + 1 + 2 + 1 + 2) (by omega) (Ob_new e33 oB3) (by omega)))
  have oC4 := Ob_new e40 (Ob_stR e38 (Ob_keep hk4 (N' := N + 1 + 1 + 1 + 2 + 1 + 2 + 1 + 2 + 1 + 2) (by omega) (Ob_new e33 oC3) (by omega)))
  have oD4 := Ob_new e40 (Ob_stR e38 hp4.1)
  have oE4 := Ob_newS e40 e39
  clear e33 e34 hk4 e38 hp4
  refine k_Term_init oE4 (by omega) (fun σ44 t1 t2 t3 => ⟨oc4, o14, o54, oA4, oB4, oC4, oD4, oE4, fun Λ45 e45 => ?_⟩)
  have q18 : a18 = c + 6 := by omega
  have q25 : a25 = c + 9 := by omega
  have q32 : a32 = c + 12 := by omega
  have q39 : a39 = c + 15 := by omega
  subst q11 q18 q25 q32 q39
  obtain ⟨P1, _, S1, L1, F1⟩ := I1
  obtain ⟨P2, _, S2, L2, F2⟩ := I2
  obtain ⟨P3, _, S3, L3, F3⟩ := I3
  obtain ⟨P4, _, S4, L4, F4⟩ := I4
  replace P1 : PolyL (N + 5) Λ17 (c + 3) := P1
  replace P2 : PolyL (N + 8) Λ24 (c + 6) := P2
  replace P3 : PolyL (N + 11) Λ31 (c + 9) := P3
  replace P4 : PolyL (N + 14) Λ38 (c + 12) := P4
  clear oc oc1 oc2 oc3 o11 o12 o13 o51 o52 o53 oA1 oA2 oA3 oB2 oB3 oC3 o1 o5
  have L5 : ∀ c' : Int, c' < c + 15 → c' ≠ c → Λ45 c' = Λ38 c' := fun c' g0 g1 => by rw [e45, stR_ne g1, e40, newL_ne (by omega)]
  have F5 : ∀ i : Int, (Λ45 c).2.2 i = if i = 8 then c + 15 else (Λ38 c).2.2 i := fun i => by rw [e45, stR_r, e40, newL_ne (by omega)]
  have S5 : ∀ c' : Int, c' < c + 15 → σ44 c' = σ37 c' := fun c' g0 => by rw [t3 c' (by omega), e41, newM_ne (by omega)]
  have oc5 := Ob_stR e45 oc4
  have o15 := Ob_stR e45 o14
  have o55 := Ob_stR e45 o54
  have oE5 := Ob_stR e45 oE4
  clear e40 e45 e41 t2 t3
  refine xfig_lp (N0 := N) (Λ0 := Λ) (σ0 := σ) hc0 hN hd h 100 0 rfl (N + 15) 15 763 Λ45 σ44 (by omega) (by omega) (by omega) ⟨⟨oc5, ?_, ?_, ?_, ?_, ?_, ?_, ?_⟩, ⟨o15, o55, oE5⟩, ⟨?_, ?_⟩, fun x hx => ?_, fun s g0 g1 => by omega⟩ t1 (fun c' g0 g1 g2 => ⟨?_, ?_⟩)
  · rw [F5, if_neg (by decide), F4, if_neg (by decide), F3, if_neg (by decide), F2, if_neg (by decide), F1, if_neg (by decide), f0]
  · rw [F5, if_neg (by decide), F4, if_neg (by decide), F3, if_neg (by decide), F2, if_neg (by decide), F1, if_neg (by decide), f1]
  · rw [F5, if_neg (by decide), F4, if_neg (by decide), F3, if_neg (by decide), F2, if_neg (by decide), F1, if_pos rfl]
  · rw [F5, if_neg (by decide), F4, if_neg (by decide), F3, if_neg (by decide), F2, if_pos rfl]
  · rw [F5, if_neg (by decide), F4, if_neg (by decide), F3, if_pos rfl]
  · rw [F5, if_neg (by decide), F4, if_pos rfl]
  · rw [F5, if_pos rfl]
  · rw [S5 c (by omega), S4 c (by omega) (by omega), S3 c (by omega) (by omega), S2 c (by omega) (by omega), S1 c (by omega) (by omega), z2]
  · rw [S5 c (by omega), S4 c (by omega) (by omega), S3 c (by omega) (by omega), S2 c (by omega) (by omega), S1 c (by omega) (by omega), z3]
  · clear F1 F2 F3 F4 F5 f0 f1
    have l4 : ∀ c' : Int, c + 3 ≤ c' → c' < c + 15 → Λ45 c' = Λ38 c' ∧ σ44 c' = σ37 c' := fun c' g0 g1 => ⟨L5 c' g1 (by omega), S5 c' g1⟩
    have l3 : ∀ c' : Int, c + 3 ≤ c' → c' < c + 12 → Λ45 c' = Λ31 c' ∧ σ44 c' = σ30 c' := fun c' g0 g1 => by
      rw [(l4 c' g0 (by omega)).1, (l4 c' g0 (by omega)).2, L4 c' (by omega) (by omega) (by omega), S4 c' (by omega) (by omega)]
      exact ⟨rfl, rfl⟩
    have l2 : ∀ c' : Int, c + 3 ≤ c' → c' < c + 9 → Λ45 c' = Λ24 c' ∧ σ44 c' = σ23 c' := fun c' g0 g1 => by
      rw [(l3 c' g0 (by omega)).1, (l3 c' g0 (by omega)).2, L3 c' (by omega) (by omega) (by omega), S3 c' (by omega) (by omega)]
      exact ⟨rfl, rfl⟩
    have l1 : ∀ c' : Int, c + 3 ≤ c' → c' < c + 6 → Λ45 c' = Λ17 c' ∧ σ44 c' = σ16 c' := fun c' g0 g1 => by
      rw [(l2 c' g0 (by omega)).1, (l2 c' g0 (by omega)).2, L2 c' (by omega) (by omega) (by omega), S2 c' (by omega) (by omega)]
      exact ⟨rfl, rfl⟩
    rcases hx with hx | hx | hx | hx
    · subst hx
      exact ⟨P1.mono (N' := N + 15) (by omega) (l1 _ (by omega) (by omega)).1 (l1 _ (by omega) (by omega)).1 (l1 _ (by omega) (by omega)).1, hz1.same (l1 _ (by omega) (by omega)).2 (l1 _ (by omega) (by omega)).2 (l1 _ (by omega) (by omega)).2⟩
    · subst hx
      exact ⟨P2.mono (N' := N + 15) (by omega) (l2 _ (by omega) (by omega)).1 (l2 _ (by omega) (by omega)).1 (l2 _ (by omega) (by omega)).1, hz2.same (l2 _ (by omega) (by omega)).2 (l2 _ (by omega) (by omega)).2 (l2 _ (by omega) (by omega)).2⟩
    · subst hx
      exact ⟨P3.mono (N' := N + 15) (by omega) (l3 _ (by omega) (by omega)).1 (l3 _ (by omega) (by omega)).1 (l3 _ (by omega) (by omega)).1, hz3.same (l3 _ (by omega) (by omega)).2 (l3 _ (by omega) (by omega)).2 (l3 _ (by omega) (by omega)).2⟩
    · subst hx
      exact ⟨P4.mono (N' := N + 15) (by omega) (l4 _ (by omega) (by omega)).1 (l4 _ (by omega) (by omega)).1 (l4 _ (by omega) (by omega)).1, hz4.same (l4 _ (by omega) (by omega)).2 (l4 _ (by omega) (by omega)).2 (l4 _ (by omega) (by omega)).2⟩
  · rw [L5 c' (by omega) g2, L4 c' g0 (by omega) g2, L3 c' g0 (by omega) g2, L2 c' g0 (by omega) g2, L1 c' g0 (by omega) g2, kL c' g0 g1 g2]
  · rw [S5 c' (by omega), S4 c' g0 (by omega), S3 c' g0 (by omega), S2 c' g0 (by omega), S1 c' g0 (by omega), kS c' g0 g1 g2]
end CX2
section CX3
variable {l : Launch} {d N : Nat} {Λ : Lay} {c : Int}
theorem xfac_lp2 {P : Nat → Lay → Mem → Prop} {N0 k n : Nat} {Λ0 : Lay} {σ0 : Mem} {x1 : Int} (hN : c + 1 = N0) (hc0 : 0 ≤ c) (hk : k ≤ 13) (hn : n ≤ 512) (hd : 5 ≤ d) (hL : FacL N Λ c) (h1 : PolyL N Λ (c + 6)) (h2 : PolyL N Λ (c + 9)) (h3 : StrL N Λ (c + 12)) (hlay : ∀ c' : Int, 0 ≤ c' → c' < N0 → c' ≠ c → Λ c' = Λ0 c')
    (h : ∀ σ', Keep N0 Λ0 σ0 Λ σ' c → σ' (c + 2) = σ0 (c + 2) → P N Λ σ') : ∀ (m i : Nat), i + m = 32 → ∀ (σ : Mem), Pok σ (c + 6) → Pok σ (c + 9) → (∀ c' : Int, 0 ≤ c' → (c' < N0 ∧ c' ≠ c ∨ c' = c + 2) → σ c' = σ0 c') →
      WC l mX1_init d 13 512 P k n 125 [(2, c), (0, x1), (2, c + 6), (2, c + 9), (2, c + 12), (0, (i : Int)), (3, 0), (3, 0)] [] N Λ σ := by
  obtain ⟨o, f1, f2, f3, f4, f5, o1, o2, o3, o4, o5⟩ := id hL
  intro m
  induction m with
  | zero =>
    intro i him σ p1 p2 hf
    exact v_X1_init_125 o h1.1 h2.1 h3.1 (by omega) ⟨fun _ => ⟨⟨hk, hn⟩, h σ (fun c' g0 g1 g2 => ⟨hlay c' g0 g1 g2, hf c' g0 (Or.inl ⟨g1, g2⟩)⟩) (hf _ (by omega) (Or.inr rfl))⟩, fun hc => by omega⟩
  | succ m ih =>
    intro i him σ p1 p2 hf
    refine v_X1_init_125 o h1.1 h2.1 h3.1 (by omega) ⟨fun hc => by omega, fun hc => ⟨⟨hk, hn⟩, c_X5_empty (v_X5_empty_0 h1.1 fun τ1 e1 => ⟨⟨hk, hn⟩, g_keyOf (by omega) fun v3 => ⟨⟨hk, hn⟩, ?_⟩⟩)⟩⟩
    have pc1 : Pok τ1 (c + 6) := PC0_ok ⟨by rw [e1, st_eq]; rfl, fun i e he => by simp at he⟩
    refine g_lay h1 (by omega) pc1 fun v5 σ4 p4 s4 => ⟨⟨hk, hn⟩, ?_⟩
    refine g_straighten h3 h2 h1 (by omega) (by omega) (by omega) p4 fun v7 σ6 p6 s6 => ?_
    have hf6 : ∀ c' : Int, 0 ≤ c' → (c' < N0 ∧ c' ≠ c ∨ c' = c + 2) → σ6 c' = σ0 c' := fun c' g0 g1 => by
      rw [s6 c' (by omega) (by omega) (by omega) (by omega) (by omega), ← hf c' g0 g1]
      refine Eq.trans (funext fun j => s4 c' j (by omega) (by omega) (by omega)) ?_
      rw [e1, st_ne (by omega)]
    have q6 : Pok σ6 (c + 6) := p4.same (s6 _ (by omega) (by omega) (by omega) (by omega) (by omega)) (s6 _ (by omega) (by omega) (by omega) (by omega) (by omega)) (s6 _ (by omega) (by omega) (by omega) (by omega) (by omega))
    obtain ⟨ts, t1, t2, t3, t4⟩ := id p6
    have hsz := t1.1
    have inner : ∀ (m2 j : Nat), j + m2 = ts.length → ∀ (σ : Mem), σ (c + 9) 2 = ts.length → Pok σ (c + 6) → Pok σ (c + 9) → (∀ c' : Int, 0 ≤ c' → (c' < N0 ∧ c' ≠ c ∨ c' = c + 2) → σ c' = σ0 c') → WC l mX1_init d 13 512 P k n 158 [(2, c), (0, x1), (2, c + 6), (2, c + 9), (2, c + 12), (0, (i : Int)), (0, (j : Int)), (3, 0)] [] N Λ σ := by
      intro m2
      induction m2 with
      | zero =>
        intro j hj σ hz pa pb hf
        refine v_X1_init_158 o h1.1 h2.1 h3.1 (by omega) ⟨fun _ y1 ey => ?_, fun hc => by omega⟩
        rw [ey, addI_e (by omega) (by omega)]
        exact ih (i + 1) (by omega) σ pa pb hf
      | succ m2 ih2 =>
        intro j hj σ hz pa pb hf
        refine v_X1_init_158 o h1.1 h2.1 h3.1 (by omega) ⟨fun hc => by omega, fun _ b2 eb2 => ?_⟩
        rw [h2.2.1] at eb2
        subst eb2
        refine ⟨80, h2.2.2.2.1, Ix.of h2.2.2.2.1 (by omega) (by omega), ⟨hk, hn⟩, g_formOf hL fun v5 g5 g6 => ⟨fun _ y6 ey => ?_, fun hv b7 eb7 => ?_⟩⟩
        · rw [ey, addI_e (by omega) (by omega)]
          exact ih2 (j + 1) (by omega) σ hz pa pb hf
        · rw [f4] at eb7
          subst eb7
          refine ⟨160, o4, fun b9 eb9 => ?_⟩
          rw [h2.2.2.1] at eb9
          subst eb9
          have em : addI (mulI 5 (i : Int)) v5 = 5 * i + v5 := by rw [mulI_e (by omega) (by omega), addI_e (by omega) (by omega)]
          rw [em]
          refine ⟨80, h2.2.2.2.2, Ix.of h2.2.2.2.2 (by omega) (by omega), Ix.of o4 (by omega) (by omega), fun τ11 e11 y12 ey => ?_⟩
          rw [ey, addI_e (by omega) (by omega)]
          have sm : ∀ c' : Int, c' ≠ c + 4 → τ11 c' = σ c' := fun c' hc' => by rw [e11, st_ne hc']
          exact ih2 (j + 1) (by omega) τ11 (by rw [sm _ (by omega)]; exact hz) (pa.same (sm _ (by omega)) (sm _ (by omega)) (sm _ (by omega))) (pb.same (sm _ (by omega)) (sm _ (by omega)) (sm _ (by omega))) (fun c' g0 g1 => by rw [sm c' (by omega)]; exact hf c' g0 g1)
    exact inner ts.length 0 (by omega) σ6 hsz q6 p6 hf6
theorem xfac_mid {P : Nat → Lay → Mem → Prop} {N0 : Nat} {Λ0 : Lay} {σ0 : Mem} {x1 i : Int} {σ' : Mem} (hN : c + 1 = N0) (hN6 : c + 6 = N) (hc0 : 0 ≤ c) (hd : 5 ≤ d) (hi : 32 ≤ i) (hL : FacL N Λ c) (hlay : ∀ c' : Int, 0 ≤ c' → c' < N0 → c' ≠ c → Λ c' = Λ0 c') (hf : ∀ c' : Int, 0 ≤ c' → (c' < N0 ∧ c' ≠ c ∨ c' = c + 2) → σ' c' = σ0 c') (h : ∀ Λ' σ', FacL (N + 8) Λ' c → Keep N0 Λ0 σ0 Λ' σ' c → σ' (c + 2) = σ0 (c + 2) → P (N + 8) Λ' σ') :
    WC l mX1_init d 13 512 P 5 182 52 [(2, c), (0, x1), (0, i), (3, 0), (3, 0), (3, 0), (3, 0), (3, 0)] [] N Λ σ' := by
  have oc := hL.1
  refine v_X1_init_52 oc (by omega) ⟨fun _ => ⟨⟨by decide, by decide⟩, fun a1 e1 Λ2 e2 σ3 e3 => ⟨⟨by decide, by decide⟩, ?_⟩⟩, fun hc => absurd hi hc⟩
  have qa : a1 = c + 6 := by omega
  subst qa
  refine k_Poly_init (by omega) (Ob_newS e2 e1) (by omega) fun Λ5 σ6 hp6 hz6 hk6 => ⟨Ob_keep hk6 (by omega) (Ob_new e2 oc) (by omega), hp6.1, ⟨by decide, by decide⟩, fun a7 e7 Λ8 e8 σ9 e9 => ⟨⟨by decide, by decide⟩, ?_⟩⟩
  have qb : a7 = c + 9 := by omega
  subst qb
  have L6 : FacL (N + 1 + 2) Λ5 c := hL.mono (by omega) fun c' g0 g1 => by rw [(hk6 c' (by omega) (by omega) (by omega)).1, e2, newL_ne (by omega)]
  have hlay6 : ∀ c' : Int, 0 ≤ c' → c' < N0 → c' ≠ c → Λ5 c' = Λ0 c' := fun c' g0 g1 g2 => by
    have z := hk6 c' g0 (by omega) (by omega)
    rw [z.1, e2, newL_ne (by omega)]
    exact hlay c' g0 g1 g2
  have hmem6 : ∀ c' : Int, 0 ≤ c' → (c' < N0 ∧ c' ≠ c ∨ c' = c + 2) → σ6 c' = σ0 c' := fun c' g0 g1 => by
    have z := hk6 c' g0 (by omega) (by omega)
    rw [z.2, e3, newM_ne (by omega)]
    exact hf c' g0 g1
  refine k_Poly_init (N := N + 1 + 2 + 1) (by omega) (Ob_newS e8 e7) (by omega) fun Λ11 σ12 hp12 hz12 hk12 => ?_
  have x12 : ∀ c' : Int, 0 ≤ c' → c' < c + 9 → Λ11 c' = Λ5 c' ∧ σ12 c' = σ6 c' := fun c' g0 g1 => by
    have z := hk12 c' g0 (by omega) (by omega)
    rw [z.1, z.2, e8, newL_ne (by omega), e9, newM_ne (by omega)]
    exact ⟨rfl, rfl⟩
  refine ⟨Ob_keep hk12 (by omega) (Ob_new e8 L6.1) (by omega), Ob_keep hk12 (by omega) (Ob_new e8 hp6.1) (by omega), hp12.1, ⟨by decide, by decide⟩, fun a13 e13 Λ14 e14 σ15 e15 => ⟨⟨by decide, by decide⟩, ?_⟩⟩
  have qc : a13 = c + 12 := by omega
  subst qc
  refine k_Str_init (N := N + 1 + 2 + 1 + 2 + 1) (by omega) (Ob_newS e14 e13) (by omega) fun Λ17 σ18 hs18 hk18 => ?_
  have x18 : ∀ c' : Int, 0 ≤ c' → c' < c + 12 → Λ17 c' = Λ11 c' ∧ σ18 c' = σ12 c' := fun c' g0 g1 => by
    have z := hk18 c' g0 (by omega) (by omega)
    rw [z.1, z.2, e14, newL_ne (by omega), e15, newM_ne (by omega)]
    exact ⟨rfl, rfl⟩
  have L18 : FacL (N + 1 + 2 + 1 + 2 + 1 + 1) Λ17 c := L6.mono (by omega) fun c' g0 g1 => by rw [(x18 c' (by omega) (by omega)).1, (x12 c' (by omega) (by omega)).1]
  have P1 : PolyL (N + 1 + 2 + 1 + 2 + 1 + 1) Λ17 (c + 6) := hp6.mono (by omega) (by rw [(x18 _ (by omega) (by omega)).1, (x12 _ (by omega) (by omega)).1]) (by rw [(x18 _ (by omega) (by omega)).1, (x12 _ (by omega) (by omega)).1]) (by rw [(x18 _ (by omega) (by omega)).1, (x12 _ (by omega) (by omega)).1])
  have P2 : PolyL (N + 1 + 2 + 1 + 2 + 1 + 1) Λ17 (c + 9) := hp12.mono (by omega) (x18 _ (by omega) (by omega)).1 (x18 _ (by omega) (by omega)).1 (x18 _ (by omega) (by omega)).1
  refine ⟨L18.1, P1.1, P2.1, hs18.1, ?_⟩
  refine xfac_lp2 (N0 := N0) (Λ0 := Λ0) (σ0 := σ0) hN hc0 (by omega) (by omega) hd L18 P1 P2 hs18 (fun c' g0 g1 g2 => ?_) (fun σ' hkp hz => ?_) 32 0 rfl σ18 ?_ ?_ (fun c' g0 g1 => ?_)
  · rw [(x18 c' g0 (by omega)).1, (x12 c' g0 (by omega)).1, hlay6 c' g0 g1 g2]
  · exact h Λ17 σ' L18 hkp hz
  · refine (PC0_ok hz6).same ?_ ?_ ?_
    · rw [(x18 _ (by omega) (by omega)).2, (x12 _ (by omega) (by omega)).2]
    · rw [(x18 _ (by omega) (by omega)).2, (x12 _ (by omega) (by omega)).2]
    · rw [(x18 _ (by omega) (by omega)).2, (x12 _ (by omega) (by omega)).2]
  · exact (PC0_ok hz12).same (x18 _ (by omega) (by omega)).2 (x18 _ (by omega) (by omega)).2 (x18 _ (by omega) (by omega)).2
  · rw [(x18 c' g0 (by omega)).2, (x12 c' g0 (by omega)).2, hmem6 c' g0 g1]
theorem x_Fac_init {P : Nat → Lay → Mem → Prop} {σ : Mem} (hN : c + 1 = N) (o : Ob N Λ c 11 6) (hd : 5 ≤ d) (h : ∀ Λ' σ', FacL (N + 13) Λ' c → (∀ j : Int, σ' (c + 2) j = 0) → Keep N Λ σ Λ' σ' c → P (N + 13) Λ' σ') : CC l mX1_init d 13 512 [(2, c)] N Λ σ P := by
  have hc0 := o.1
  refine CC.of (m := 7) ok_mX1_init (Nat.le_of_ble_eq_true rfl) rfl (v_X1_init_0 o (by omega) ?_)
  refine fun τ1 e1 => ⟨⟨by decide, by decide⟩, fun a2 e2 Λ3 e3 σ4 e4 Λ5 e5 => ⟨⟨by decide, by decide⟩, fun a6 e6 Λ7 e7 σ8 e8 Λ9 e9 => ⟨⟨by decide, by decide⟩, fun a10 e10 Λ11 e11 σ12 e12 Λ13 e13 => ⟨⟨by decide, by decide⟩, fun a14 e14 Λ15 e15 σ16 e16 Λ17 e17 => ⟨⟨by decide, by decide⟩, fun a18 e18 Λ19 e19 σ20 e20 Λ21 e21 => ?_⟩⟩⟩⟩⟩
  have q2 : a2 = c + 1 := by omega
  have q6 : a6 = c + 2 := by omega
  have q10 : a10 = c + 3 := by omega
  have q14 : a14 = c + 4 := by omega
  have q18 : a18 = c + 5 := by omega
  have oc := Ob_stR e21 (Ob_new e19 (Ob_stR e17 (Ob_new e15 (Ob_stR e13 (Ob_new e11 (Ob_stR e9 (Ob_new e7 (Ob_stR e5 (Ob_new e3 o)))))))))
  have w1 := Ob_stR e21 (Ob_new e19 (Ob_stR e17 (Ob_new e15 (Ob_stR e13 (Ob_new e11 (Ob_stR e9 (Ob_new e7 (Ob_stR e5 (Ob_newS e3 e2)))))))))
  have w2 := Ob_stR e21 (Ob_new e19 (Ob_stR e17 (Ob_new e15 (Ob_stR e13 (Ob_new e11 (Ob_stR e9 (Ob_newS e7 e6)))))))
  have w3 := Ob_stR e21 (Ob_new e19 (Ob_stR e17 (Ob_new e15 (Ob_stR e13 (Ob_newS e11 e10)))))
  have w4 := Ob_stR e21 (Ob_new e19 (Ob_stR e17 (Ob_newS e15 e14)))
  have w5 := Ob_stR e21 (Ob_newS e19 e18)
  rw [q2] at w1
  rw [q6] at w2
  rw [q10] at w3
  rw [q14] at w4
  rw [q18] at w5
  have r3 : Λ3 c = Λ c := by rw [e3, newL_ne (by omega)]
  have r7 : Λ7 c = Λ5 c := by rw [e7, newL_ne (by omega)]
  have r11 : Λ11 c = Λ9 c := by rw [e11, newL_ne (by omega)]
  have r15 : Λ15 c = Λ13 c := by rw [e15, newL_ne (by omega)]
  have r19 : Λ19 c = Λ17 c := by rw [e19, newL_ne (by omega)]
  have hL : FacL (N + 1 + 1 + 1 + 1 + 1) Λ21 c := by
    refine ⟨oc, ?_, ?_, ?_, ?_, ?_, w1, w2, w3, w4, w5⟩
    · rw [e21, stR_r, if_neg (by decide), r19, e17, stR_r, if_neg (by decide), r15, e13, stR_r, if_neg (by decide), r11, e9, stR_r, if_neg (by decide), r7, e5, stR_r, if_pos rfl, q2]
    · rw [e21, stR_r, if_neg (by decide), r19, e17, stR_r, if_neg (by decide), r15, e13, stR_r, if_neg (by decide), r11, e9, stR_r, if_pos rfl, q6]
    · rw [e21, stR_r, if_neg (by decide), r19, e17, stR_r, if_neg (by decide), r15, e13, stR_r, if_pos rfl, q10]
    · rw [e21, stR_r, if_neg (by decide), r19, e17, stR_r, if_pos rfl, q14]
    · rw [e21, stR_r, if_pos rfl, q18]
  have hlay : ∀ c' : Int, 0 ≤ c' → c' < N → c' ≠ c → Λ21 c' = Λ c' := fun c' g0 g1 g2 => by
    rw [e21, stR_ne g2, e19, newL_ne (by omega), e17, stR_ne g2, e15, newL_ne (by omega), e13, stR_ne g2, e11, newL_ne (by omega), e9, stR_ne g2, e7, newL_ne (by omega), e5, stR_ne g2, e3, newL_ne (by omega)]
  have hmem : ∀ c' : Int, 0 ≤ c' → c' < N → c' ≠ c → σ20 c' = σ c' := fun c' g0 g1 g2 => by
    rw [e20, newM_ne (by omega), e16, newM_ne (by omega), e12, newM_ne (by omega), e8, newM_ne (by omega), e4, newM_ne (by omega), e1, st_ne g2]
  have z2 : σ20 (c + 2) = fun _ => 0 := by rw [e20, newM_ne (by omega), e16, newM_ne (by omega), e12, newM_ne (by omega), e8, show c + 2 = (N : Int) + 1 by omega]; exact funext fun j => newM_eq
  clear e1 e2 e3 e4 e5 e6 e7 e8 e9 e10 e11 e12 e13 e14 e15 e16 e17 e18 e19 e20 e21 oc w1 w2 w3 w4 w5 r3 r7 r11 r15 r19
  obtain ⟨oc, f1, f2, f3, f4, f5, o1, o2, o3, o4, o5⟩ := id hL
  have lp1 : ∀ (m : Nat) (i x1 : Int) (σ' : Mem), 0 ≤ i → i ≤ 32 → (32 - i).toNat ≤ m → 0 ≤ x1 → x1 ≤ 5 → (∀ c' : Int, 0 ≤ c' → (c' < N ∧ c' ≠ c ∨ c' = c + 2) → σ' c' = σ20 c') →
      WC l mX1_init d 13 512 P (((((0 + 1) + 1) + 1) + 1) + 1) (((((0 + 6) + 6) + 5) + 160) + 5) 52 [(2, c), (0, x1), (0, i), (3, 0), (3, 0), (3, 0), (3, 0), (3, 0)] [] (((((N + 1) + 1) + 1) + 1) + 1) Λ21 σ' := by
    intro m
    induction m with
    | zero =>
      intro i x1 σ' g0 g1 g2 g3 g4 hf
      have := xfac_mid (l := l) (d := d) (N := N + 1 + 1 + 1 + 1 + 1) (Λ := Λ21) (P := P) (N0 := N) (Λ0 := Λ) (σ0 := σ20) (x1 := x1) (i := i) (σ' := σ') hN (by omega) hc0 hd (by omega) hL hlay hf (fun Λ' σ' h1 h2 h3 => h Λ' σ' h1 (fun j => by rw [h3, z2]) (fun c' g0 g1 g2 => ⟨(h2 c' g0 g1 g2).1, (h2 c' g0 g1 g2).2.trans (hmem c' g0 g1 g2)⟩))
      exact this
    | succ m ih =>
      intro i x1 σ' g0 g1 g2 g3 g4 hf
      by_cases hi : 32 ≤ i
      · exact ih i x1 σ' g0 g1 (by omega) g3 g4 hf
      · have nx : ∀ (y y' : Int) (τ : Mem), y' = addI i 1 → 0 ≤ y → y ≤ 5 → (∀ c' : Int, 0 ≤ c' → (c' < N ∧ c' ≠ c ∨ c' = c + 2) → τ c' = σ20 c') → WC l mX1_init d 13 512 P (((((0 + 1) + 1) + 1) + 1) + 1) (((((0 + 6) + 6) + 5) + 160) + 5) 52 [(2, c), (0, y), (0, y'), (3, 0), (3, 0), (3, 0), (3, 0), (3, 0)] [] (((((N + 1) + 1) + 1) + 1) + 1) Λ21 τ := fun y y' τ e b1 b2 b3 => by
          rw [e, addI_e (by omega) (by omega)]
          exact ih (i + 1) y τ (by omega) (by omega) (by omega) b1 b2 b3
        refine v_X1_init_52 (N := N + 1 + 1 + 1 + 1 + 1) oc (by omega) ⟨fun hc => absurd hc hi, fun _ => ⟨⟨by decide, by decide⟩, g_keyOf (by omega) fun v20 => ⟨fun _ y e => nx _ _ _ e g3 g4 hf, fun _ => ⟨⟨by decide, by decide⟩, g_breakOf (by omega) fun v23 => ⟨fun _ y e => nx _ _ _ e g3 g4 hf, fun _ => ⟨fun _ y e => nx _ _ _ e g3 g4 hf, fun hx b26 eb => ?_⟩⟩⟩⟩⟩⟩
        rw [f3] at eb
        subst eb
        refine ⟨5, o3, Ix.of o3 g3 (by omega), fun τ28 e28 y29 e29 y30 e30 => ?_⟩
        rw [e29, addI_e (by omega) (by omega)]
        exact nx _ _ _ e30 (by omega) (by omega) fun c' b0 b1 => by rw [e28, st_ne (by omega)]; exact hf c' b0 b1
  exact lp1 32 0 0 σ20 (by decide) (by decide) (by decide) (by decide) (by decide) (fun _ _ _ => rfl)
end CX3
