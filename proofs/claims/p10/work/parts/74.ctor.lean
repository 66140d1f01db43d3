section CT6
variable {l : Launch} {d N : Nat} {Λ : Lay} {σ : Mem} {c : Int}
/-- behind new Poly() into the field j of c: what stood stands, the field j of c is the new one -/
theorem poly_in {Λ1 Λ2 Λ3 : Lay} {σ1 σ2 : Mem} {a j : Int} (e1 : Λ1 = newL Λ N 15 3) (e2 : σ1 = newM σ N) (ea : a = ((N : Nat) : Int)) (hp : PolyL (N + 1 + 2) Λ2 a) (hk : Keep (N + 1) Λ1 σ1 Λ2 σ2 a) (e3 : Λ3 = stR Λ2 c j a) (hc0 : 0 ≤ c) (hc : c < N) :
    PolyL (N + 1 + 2) Λ3 a ∧ (∀ c' : Int, 0 ≤ c' → c' < N → Λ2 c' = Λ c') ∧ (∀ c' : Int, 0 ≤ c' → c' < N → σ2 c' = σ c') ∧ (∀ c' : Int, 0 ≤ c' → c' < N → c' ≠ c → Λ3 c' = Λ c') ∧ (∀ i : Int, (Λ3 c).2.2 i = if i = j then a else (Λ c).2.2 i) := by
  have k2 : ∀ c' : Int, 0 ≤ c' → c' < N → Λ2 c' = Λ c' := fun c' g0 g1 => by
    rw [(hk c' g0 (by omega) (by omega)).1, e1, newL_ne (by omega)]
  refine ⟨hp.mono (Nat.le_refl _) ?_ ?_ ?_, k2, fun c' g0 g1 => ?_, fun c' g0 g1 g2 => ?_, fun i => ?_⟩
  · rw [e3, stR_ne (by omega)]
  · rw [e3, stR_ne (by omega)]
  · rw [e3, stR_ne (by omega)]
  · rw [(hk c' g0 (by omega) (by omega)).2, e2, newM_ne (by omega)]
  · rw [e3, stR_ne g2, k2 c' g0 g1]
  · rw [e3, stR_r, k2 c hc0 hc]
theorem Ob_eq {N' t : Nat} {Λ' : Lay} {x len : Int} (o : Ob N Λ x t len) (hN : N ≤ N') (e : Λ' x = Λ x) : Ob N' Λ' x t len := ⟨o.1, by have := o.2.1; omega, by rw [e]; exact o.2.2.1, by rw [e]; exact o.2.2.2⟩
theorem k_Fig_init {P : Nat → Lay → Mem → Prop} (hN : c + 1 = N) (o : Ob N Λ c 12 9) (hd : 2 ≤ d) (h : ∀ Λ' σ', FigL (N + 315) Λ' σ' c → Keep N Λ σ Λ' σ' c → P (N + 315) Λ' σ') : CC l mX2_init d 315 17063 [(2, c)] N Λ σ P := by
  have hc0 := o.1
  refine CC.of (m := 1) ok_mX2_init (Nat.le_of_ble_eq_true rfl) rfl (v_X2_init_0 o (by omega) ?_)
  refine ⟨⟨by decide, by decide⟩, fun a1 e1 Λ2 e2 σ3 e3 Λ4 e4 => ⟨⟨by decide, by decide⟩, fun a5 e5 Λ6 e6 σ7 e7 Λ8 e8 τ9 e9 τ10 e10 => ⟨⟨by decide, by decide⟩, fun a11 e11 Λ12 e12 σ13 e13 => ⟨⟨by decide, by decide⟩, ?_⟩⟩⟩⟩
  have q1 : a1 = c + 1 := by omega
  have q5 : a5 = c + 2 := by omega
  have q11 : a11 = c + 3 := by omega
  have oc := Ob_stR e8 (Ob_new e6 (Ob_stR e4 (Ob_new e2 o)))
  have o1 := Ob_stR e8 (Ob_new e6 (Ob_stR e4 (Ob_newS e2 e1)))
  have o5 := Ob_stR e8 (Ob_newS e6 e5)
  have f0 : (Λ8 c).2.2 0 = c + 1 := by rw [e8, stR_r, if_neg (by decide), e6, newL_ne (by omega), e4, stR_r, if_pos rfl, q1]
  have f1 : (Λ8 c).2.2 1 = c + 2 := by rw [e8, stR_r, if_pos rfl, q5]
  have z2 : τ10 c 2 = 0 := by rw [e10, st_nj (by decide), e9, st_eq]
  have z3 : τ10 c 3 = 90 := by rw [e10, st_eq]
  have kL : ∀ c' : Int, 0 ≤ c' → c' < N → c' ≠ c → Λ8 c' = Λ c' := fun c' g0 g1 g2 => by rw [e8, stR_ne g2, e6, newL_ne (by omega), e4, stR_ne g2, e2, newL_ne (by omega)]
  have kS : ∀ c' : Int, 0 ≤ c' → c' < N → c' ≠ c → τ10 c' = σ c' := fun c' g0 g1 g2 => by rw [e10, st_ne g2, e9, st_ne g2, e7, newM_ne (by omega), e3, newM_ne (by omega)]
  clear e1 e2 e3 e4 e5 e6 e7 e8 e9 e10 o
  subst q1 q5
  refine k_Poly_init (by omega) (Ob_newS e12 e11) (by omega) (fun Λ15 σ16 hp1 hz1 hk1 => ⟨Ob_keep hk1 (by omega) (Ob_new e12 oc) (by omega), Ob_keep hk1 (by omega) (Ob_new e12 o1) (by omega), Ob_keep hk1 (by omega) (Ob_new e12 o5) (by omega), hp1.1, fun Λ17 e17 => ⟨⟨by decide, by decide⟩, fun a18 e18 Λ19 e19 σ20 e20 => ⟨⟨by decide, by decide⟩, ?_⟩⟩⟩)
  have I1 := poly_in e12 e13 e11 hp1 hk1 e17 hc0 (by omega)
  have oc1 := Ob_stR e17 (Ob_keep hk1 (N' := N + 1 + 1 + 1 + 2) (by omega) (Ob_new e12 oc) (by omega))
  have o11 := Ob_stR e17 (Ob_keep hk1 (N' := N + 1 + 1 + 1 + 2) (by omega) (Ob_new e12 o1) (by omega))
  have o51 := Ob_stR e17 (Ob_keep hk1 (N' := N + 1 + 1 + 1 + 2) (by omega) (Ob_new e12 o5) (by omega))
  have oA1 := Ob_stR e17 hp1.1
  clear e12 e13 hk1 e17 hp1
  refine k_Poly_init (by omega) (Ob_newS e19 e18) (by omega) (fun Λ22 σ23 hp2 hz2 hk2 => ⟨Ob_keep hk2 (by omega) (Ob_new e19 oc1) (by omega), Ob_keep hk2 (by omega) (Ob_new e19 o11) (by omega), Ob_keep hk2 (by omega) (Ob_new e19 o51) (by omega), Ob_keep hk2 (by omega) (Ob_new e19 oA1) (by omega), hp2.1, fun Λ24 e24 => ⟨⟨by decide, by decide⟩, fun a25 e25 Λ26 e26 σ27 e27 => ⟨⟨by decide, by decide⟩, ?_⟩⟩⟩)
  have I2 := poly_in e19 e20 e18 hp2 hk2 e24 hc0 (by omega)
  have oc2 := Ob_stR e24 (Ob_keep hk2 (N' := N + 1 + 1 + 1 + 2 + 1 + 2) (by omega) (Ob_new e19 oc1) (by omega))
  have o12 := Ob_stR e24 (Ob_keep hk2 (N' := N + 1 + 1 + 1 + 2 + 1 + 2) (by omega) (Ob_new e19 o11) (by omega))
  have o52 := Ob_stR e24 (Ob_keep hk2 (N' := N + 1 + 1 + 1 + 2 + 1 + 2) (by omega) (Ob_new e19 o51) (by omega))
  have oA2 := Ob_stR e24 (Ob_keep hk2 (N' := N + 1 + 1 + 1 + 2 + 1 + 2) (by omega) (Ob_new e19 oA1) (by omega))
  have oB2 := Ob_stR e24 hp2.1
  clear e19 e20 hk2 e24 hp2
  refine k_Poly_init (by omega) (Ob_newS e26 e25) (by omega) (fun Λ29 σ30 hp3 hz3 hk3 => ⟨Ob_keep hk3 (by omega) (Ob_new e26 oc2) (by omega), Ob_keep hk3 (by omega) (Ob_new e26 o12) (by omega), Ob_keep hk3 (by omega) (Ob_new e26 o52) (by omega), Ob_keep hk3 (by omega) (Ob_new e26 oA2) (by omega), Ob_keep hk3 (by omega) (Ob_new e26 oB2) (by omega), hp3.1, fun Λ31 e31 => ⟨⟨by decide, by decide⟩, fun a32 e32 Λ33 e33 σ34 e34 => ⟨⟨by decide, by decide⟩, ?_⟩⟩⟩)
  have I3 := poly_in e26 e27 e25 hp3 hk3 e31 hc0 (by omega)
  have oc3 := Ob_stR e31 (Ob_keep hk3 (N' := N + 1 + 1 + 1 + 2 + 1 + 2 + 1 + 2) (by omega) (Ob_new e26 oc2) (by omega))
  have o13 := Ob_stR e31 (Ob_keep hk3 (N' := N + 1 + 1 + 1 + 2 + 1 + 2 + 1 + 2) (by omega) (Ob_new e26 o12) (by omega))
  have o53 := Ob_stR e31 (Ob_keep hk3 (N' := N + 1 + 1 + 1 + 2 + 1 + 2 + 1 + 2) (by omega) (Ob_new e26 o52) (by omega))
  have oA3 := Ob_stR e31 (Ob_keep hk3 (N' := N + 1 + 1 + 1 + 2 + 1 + 2 + 1 + 2) (by omega) (Ob_new e26 oA2) (by omega))
  have oB3 := Ob_stR e31 (Ob_keep hk3 (N' := N + 1 + 1 + 1 + 2 + 1 + 2 + 1 + 2) (by omega) (Ob_new e26 oB2) (by omega))
  have oC3 := Ob_stR e31 hp3.1
  clear e26 e27 hk3 e31 hp3
  refine k_Poly_init (by omega) (Ob_newS e33 e32) (by omega) (fun Λ36 σ37 hp4 hz4 hk4 => ⟨Ob_keep hk4 (by omega) (Ob_new e33 oc3) (by omega), Ob_keep hk4 (by omega) (Ob_new e33 o13) (by omega), Ob_keep hk4 (by omega) (Ob_new e33 o53) (by omega), Ob_keep hk4 (by omega) (Ob_new e33 oA3) (by omega), Ob_keep hk4 (by omega) (Ob_new e33 oB3) (by omega), Ob_keep hk4 (by omega) (Ob_new e33 oC3) (by omega), hp4.1, fun Λ38 e38 => ⟨⟨by decide, by decide⟩, fun a39 e39 Λ40 e40 σ41 e41 => ⟨⟨by decide, by decide⟩, ?_⟩⟩⟩)
  have I4 := poly_in e33 e34 e32 hp4 hk4 e38 hc0 (by omega)
  have oc4 := Ob_new e40 (Ob_stR e38 (Ob_keep hk4 (N' := N + 1 + 1 + 1 + 2 + 1 + 2 + 1 + 2 + 1 + 2) (by omega) (Ob_new e33 oc3) (by omega)))
  have o14 := Ob_new e40 (Ob_stR e38 (Ob_keep hk4 (N' := N + 1 + 1 + 1 + 2 + 1 + 2 + 1 + 2 + 1 + 2) (by omega) (Ob_new e33 o13) (by omega)))
  have o54 := Ob_new e40 (Ob_stR e38 (Ob_keep hk4 (N' := N + 1 + 1 + 1 + 2 + 1 + 2 + 1 + 2 + 1 + 2) (by omega) (Ob_new e33 o53) (by omega)))
  have oA4 := Ob_new e40 (Ob_stR e38 (Ob_keep hk4 (N' := N + 1 + 1 + 1 + 2 + 1 + 2 + 1 + 2 + 1 + 2) (by omega) (Ob_new e33 oA3) (by omega)))
  have oB4 := Ob_new e40 (Ob_stR e38 (Ob_keep hk4 (N' := N + 1 + 1 + 1 + 2 + 1 + 2 + 1 + 2 + 1 + 2) (by omega) (Ob_new e33 oB3) (by omega)))
  have oC4 := Ob_new e40 (Ob_stR e38 (Ob_keep hk4 (N' := N + 1 + 1 + 1 + 2 + 1 + 2 + 1 + 2 + 1 + 2) (by omega) (Ob_new e33 oC3) (by omega)))
  have oD4 := Ob_new e40 (Ob_stR e38 hp4.1)
  have oE4 := Ob_newS e40 e39
  clear e33 e34 hk4 e38 hp4
  refine k_Term_init oE4 (by omega) (fun σ44 t1 t2 t3 => ⟨oc4, o14, o54, oA4, oB4, oC4, oD4, oE4, fun Λ45 e45 => ?_⟩)
  have q18 : a18 = c + 6 := by omega
  have q25 : a25 = c + 9 := by omega
  have q32 : a32 = c + 12 := by omega
  have q39 : a39 = c + 15 := by omega
  subst q11 q18 q25 q32 q39
  obtain ⟨P1, _, S1, L1, F1⟩ := I1
  obtain ⟨P2, _, S2, L2, F2⟩ := I2
  obtain ⟨P3, _, S3, L3, F3⟩ := I3
  obtain ⟨P4, _, S4, L4, F4⟩ := I4
  replace P1 : PolyL (N + 5) Λ17 (c + 3) := P1
  replace P2 : PolyL (N + 8) Λ24 (c + 6) := P2
  replace P3 : PolyL (N + 11) Λ31 (c + 9) := P3
  replace P4 : PolyL (N + 14) Λ38 (c + 12) := P4
  clear oc oc1 oc2 oc3 o11 o12 o13 o51 o52 o53 oA1 oA2 oA3 oB2 oB3 oC3 o1 o5
  have L5 : ∀ c' : Int, c' < c + 15 → c' ≠ c → Λ45 c' = Λ38 c' := fun c' g0 g1 => by rw [e45, stR_ne g1, e40, newL_ne (by omega)]
  have F5 : ∀ i : Int, (Λ45 c).2.2 i = if i = 8 then c + 15 else (Λ38 c).2.2 i := fun i => by rw [e45, stR_r, e40, newL_ne (by omega)]
  have S5 : ∀ c' : Int, c' < c + 15 → σ44 c' = σ37 c' := fun c' g0 => by rw [t3 c' (by omega), e41, newM_ne (by omega)]
  have oc5 := Ob_stR e45 oc4
  have o15 := Ob_stR e45 o14
  have o55 := Ob_stR e45 o54
  have oE5 := Ob_stR e45 oE4
  clear e40 e45 e41 t1 t2 t3
  refine fig_lp (N0 := N) (Λ0 := Λ) (σ0 := σ) hc0 hN hd h 100 0 rfl (N + 15) 15 763 Λ45 σ44 (by omega) (by omega) (by omega) ⟨⟨oc5, ?_, ?_, ?_, ?_, ?_, ?_, ?_⟩, ⟨o15, o55, oE5⟩, ⟨?_, ?_⟩, fun x hx => ?_, fun s g0 g1 => by omega⟩ (fun c' g0 g1 g2 => ⟨?_, ?_⟩)
  · rw [F5, if_neg (by decide), F4, if_neg (by decide), F3, if_neg (by decide), F2, if_neg (by decide), F1, if_neg (by decide), f0]
  · rw [F5, if_neg (by decide), F4, if_neg (by decide), F3, if_neg (by decide), F2, if_neg (by decide), F1, if_neg (by decide), f1]
  · rw [F5, if_neg (by decide), F4, if_neg (by decide), F3, if_neg (by decide), F2, if_neg (by decide), F1, if_pos rfl]
  · rw [F5, if_neg (by decide), F4, if_neg (by decide), F3, if_neg (by decide), F2, if_pos rfl]
  · rw [F5, if_neg (by decide), F4, if_neg (by decide), F3, if_pos rfl]
  · rw [F5, if_neg (by decide), F4, if_pos rfl]
  · rw [F5, if_pos rfl]
  · rw [S5 c (by omega), S4 c (by omega) (by omega), S3 c (by omega) (by omega), S2 c (by omega) (by omega), S1 c (by omega) (by omega), z2]
  · rw [S5 c (by omega), S4 c (by omega) (by omega), S3 c (by omega) (by omega), S2 c (by omega) (by omega), S1 c (by omega) (by omega), z3]
  · clear F1 F2 F3 F4 F5 f0 f1
    have l4 : ∀ c' : Int, c + 3 ≤ c' → c' < c + 15 → Λ45 c' = Λ38 c' ∧ σ44 c' = σ37 c' := fun c' g0 g1 => ⟨L5 c' g1 (by omega), S5 c' g1⟩
    have l3 : ∀ c' : Int, c + 3 ≤ c' → c' < c + 12 → Λ45 c' = Λ31 c' ∧ σ44 c' = σ30 c' := fun c' g0 g1 => by
      rw [(l4 c' g0 (by omega)).1, (l4 c' g0 (by omega)).2, L4 c' (by omega) (by omega) (by omega), S4 c' (by omega) (by omega)]
      exact ⟨rfl, rfl⟩
    have l2 : ∀ c' : Int, c + 3 ≤ c' → c' < c + 9 → Λ45 c' = Λ24 c' ∧ σ44 c' = σ23 c' := fun c' g0 g1 => by
      rw [(l3 c' g0 (by omega)).1, (l3 c' g0 (by omega)).2, L3 c' (by omega) (by omega) (by omega), S3 c' (by omega) (by omega)]
      exact ⟨rfl, rfl⟩
    have l1 : ∀ c' : Int, c + 3 ≤ c' → c' < c + 6 → Λ45 c' = Λ17 c' ∧ σ44 c' = σ16 c' := fun c' g0 g1 => by
      rw [(l2 c' g0 (by omega)).1, (l2 c' g0 (by omega)).2, L2 c' (by omega) (by omega) (by omega), S2 c' (by omega) (by omega)]
      exact ⟨rfl, rfl⟩
    rcases hx with hx | hx | hx | hx
    · subst hx
      exact ⟨P1.mono (N' := N + 15) (by omega) (l1 _ (by omega) (by omega)).1 (l1 _ (by omega) (by omega)).1 (l1 _ (by omega) (by omega)).1, hz1.same (l1 _ (by omega) (by omega)).2 (l1 _ (by omega) (by omega)).2 (l1 _ (by omega) (by omega)).2⟩
    · subst hx
      exact ⟨P2.mono (N' := N + 15) (by omega) (l2 _ (by omega) (by omega)).1 (l2 _ (by omega) (by omega)).1 (l2 _ (by omega) (by omega)).1, hz2.same (l2 _ (by omega) (by omega)).2 (l2 _ (by omega) (by omega)).2 (l2 _ (by omega) (by omega)).2⟩
    · subst hx
      exact ⟨P3.mono (N' := N + 15) (by omega) (l3 _ (by omega) (by omega)).1 (l3 _ (by omega) (by omega)).1 (l3 _ (by omega) (by omega)).1, hz3.same (l3 _ (by omega) (by omega)).2 (l3 _ (by omega) (by omega)).2 (l3 _ (by omega) (by omega)).2⟩
    · subst hx
      exact ⟨P4.mono (N' := N + 15) (by omega) (l4 _ (by omega) (by omega)).1 (l4 _ (by omega) (by omega)).1 (l4 _ (by omega) (by omega)).1, hz4.same (l4 _ (by omega) (by omega)).2 (l4 _ (by omega) (by omega)).2 (l4 _ (by omega) (by omega)).2⟩
  · rw [L5 c' (by omega) g2, L4 c' g0 (by omega) g2, L3 c' g0 (by omega) g2, L2 c' g0 (by omega) g2, L1 c' g0 (by omega) g2, kL c' g0 g1 g2]
  · rw [S5 c' (by omega), S4 c' g0 (by omega), S3 c' g0 (by omega), S2 c' g0 (by omega), S1 c' g0 (by omega), kS c' g0 g1 g2]
end CT6
