/-! Factors' constructor goes through -/
def FacL (N : Nat) (Λ : Lay) (c : Int) : Prop := Ob N Λ c 11 6 ∧ (Λ c).2.2 1 = c + 1 ∧ (Λ c).2.2 2 = c + 2 ∧ (Λ c).2.2 3 = c + 3 ∧ (Λ c).2.2 4 = c + 4 ∧ (Λ c).2.2 5 = c + 5 ∧ Ob N Λ (c + 1) 0 6 ∧ Ob N Λ (c + 2) 0 6 ∧ Ob N Λ (c + 3) 1 5 ∧ Ob N Λ (c + 4) 0 160 ∧ Ob N Λ (c + 5) 0 5
theorem FacL.mono {N N' : Nat} {Λ Λ' : Lay} {c : Int} (h : FacL N Λ c) (hN : N ≤ N') (hk : ∀ c' : Int, c ≤ c' → c' < c + 6 → Λ' c' = Λ c') : FacL N' Λ' c := by
  obtain ⟨o, f1, f2, f3, f4, f5, o1, o2, o3, o4, o5⟩ := h
  have e := hk c (by omega) (by omega)
  refine ⟨Ob_eq o hN e, by rw [e]; exact f1, by rw [e]; exact f2, by rw [e]; exact f3, by rw [e]; exact f4, by rw [e]; exact f5, Ob_eq o1 hN (hk _ (by omega) (by omega)), Ob_eq o2 hN (hk _ (by omega) (by omega)), Ob_eq o3 hN (hk _ (by omega) (by omega)), Ob_eq o4 hN (hk _ (by omega) (by omega)), Ob_eq o5 hN (hk _ (by omega) (by omega))⟩
theorem StrL.mono {N N' : Nat} {Λ Λ' : Lay} {c : Int} (h : StrL N Λ c) (hN : N ≤ N') (h0 : Λ' c = Λ c) (h1 : Λ' (c + 1) = Λ (c + 1)) : StrL N' Λ' c := ⟨Ob_eq h.1 hN h0, by rw [h0]; exact h.2.1, Ob_eq h.2.2 hN h1⟩
theorem PC0_ok {σ : Mem} {c : Int} (h : PC σ c []) : Pok σ c := ⟨[], h, by decide, fun i j a c _ ha => by simp at ha, fun e he => by cases he⟩
section FC
variable {l : Launch} {d N : Nat} {Λ : Lay} {c : Int}
theorem ko_lp {P : Int → Mem → Prop} {x0 : Int} {σ : Mem} (hd : 1 ≤ d) (h : ∀ v, P v σ) : ∀ (m : Nat) (i x1 x2 : Int), 0 ≤ i → (6 - i).toNat ≤ m → WL l mX1_keyOf d P 16 [(0, x0), (0, x1), (0, x2), (0, i)] [] N Λ σ := by
  intro m
  induction m with
  | zero => intro i x1 x2 h0 h1; exact v_X1_keyOf_16 hd ⟨fun _ => g_with fun v => g_with fun v => h _, fun hc => by omega⟩
  | succ m ih =>
    intro i x1 x2 h0 h1
    refine v_X1_keyOf_16 hd ⟨fun _ => g_with fun v => g_with fun v => h _, fun hc => ⟨fun _ y5 _ y6 e6 => ?_, fun _ => ⟨fun _ y7 _ y8 e8 => ?_, fun _ y9 _ y10 e10 => ?_⟩⟩⟩
    · rw [e6, addI_e (by omega) (by omega)]; exact ih _ _ _ (by omega) (by omega)
    · rw [e8, addI_e (by omega) (by omega)]; exact ih _ _ _ (by omega) (by omega)
    · rw [e10, addI_e (by omega) (by omega)]; exact ih _ _ _ (by omega) (by omega)
theorem g_keyOf {P : Int → Mem → Prop} {x0 : Int} {σ : Mem} (hd : 1 ≤ d) (h : ∀ v, P v σ) : CL l mX1_keyOf d [(0, x0)] N Λ σ P :=
  c_X1_keyOf (v_X1_keyOf_0 hd (g_bit fun v => ⟨fun _ => ko_lp hd h 6 0 0 0 (by decide) (by decide), fun _ => h _⟩))
theorem fo_lp {P : Int → Mem → Prop} {x1 : Int} {σ : Mem} (hL : FacL N Λ c) (h : ∀ v, -1 ≤ v → v < 5 → P v σ) : ∀ (m : Nat) (i : Int), 0 ≤ i → (5 - i).toNat ≤ m → WI l mX1_formOf d P 2 [(2, c), (1, x1), (3, 0), (0, i)] [] N Λ σ := by
  obtain ⟨o, f1, f2, f3, f4, f5, o1, o2, o3, o4, o5⟩ := hL
  intro m
  induction m with
  | zero => intro i h0 h1; exact v_X1_formOf_2 o f3 ⟨fun _ => h _ (by decide) (by decide), fun hc => by omega⟩
  | succ m ih =>
    intro i h0 h1
    refine v_X1_formOf_2 o f3 ⟨fun _ => h _ (by decide) (by decide), fun hc => ⟨Ix.of o3 h0 (by omega), fun _ y1 e1 => ?_, fun _ => h _ (by omega) (by omega)⟩⟩
    rw [e1, addI_e (by omega) (by omega)]; exact ih _ (by omega) (by omega)
theorem g_formOf {P : Int → Mem → Prop} {x1 : Int} {σ : Mem} (hL : FacL N Λ c) (h : ∀ v, -1 ≤ v → v < 5 → P v σ) : CI l mX1_formOf d [(2, c), (1, x1)] N Λ σ P := c_X1_formOf (v_X1_formOf_0 (fo_lp hL h 5 0 (by decide) (by decide)))
/-- the second loop -/
theorem fac_lp2 {P : Nat → Lay → Mem → Prop} {N0 k n : Nat} {Λ0 : Lay} {σ0 : Mem} {x1 : Int} (hN : c + 1 = N0) (hc0 : 0 ≤ c) (hk : k ≤ 13) (hn : n ≤ 512) (hd : 5 ≤ d) (hL : FacL N Λ c) (h1 : PolyL N Λ (c + 6)) (h2 : PolyL N Λ (c + 9)) (h3 : StrL N Λ (c + 12)) (hlay : ∀ c' : Int, 0 ≤ c' → c' < N0 → c' ≠ c → Λ c' = Λ0 c')
    (h : ∀ σ', Keep N0 Λ0 σ0 Λ σ' c → P N Λ σ') : ∀ (m i : Nat), i + m = 32 → ∀ (σ : Mem), Pok σ (c + 6) → Pok σ (c + 9) → (∀ c' : Int, 0 ≤ c' → c' < N0 → c' ≠ c → σ c' = σ0 c') →
      WC l mX1_init d 13 512 P k n 125 [(2, c), (0, x1), (2, c + 6), (2, c + 9), (2, c + 12), (0, (i : Int)), (3, 0), (3, 0)] [] N Λ σ := by
  obtain ⟨o, f1, f2, f3, f4, f5, o1, o2, o3, o4, o5⟩ := id hL
  intro m
  induction m with
  | zero =>
    intro i him σ p1 p2 hf
    exact v_X1_init_125 o h1.1 h2.1 h3.1 (by omega) ⟨fun _ => ⟨⟨hk, hn⟩, h σ fun c' g0 g1 g2 => ⟨hlay c' g0 g1 g2, hf c' g0 g1 g2⟩⟩, fun hc => by omega⟩
  | succ m ih =>
    intro i him σ p1 p2 hf
    refine v_X1_init_125 o h1.1 h2.1 h3.1 (by omega) ⟨fun hc => by omega, fun hc => ⟨⟨hk, hn⟩, c_X5_empty (v_X5_empty_0 h1.1 fun τ1 e1 => ⟨⟨hk, hn⟩, g_keyOf (by omega) fun v3 => ⟨⟨hk, hn⟩, ?_⟩⟩)⟩⟩
    have pc1 : Pok τ1 (c + 6) := PC0_ok ⟨by rw [e1, st_eq]; rfl, fun i e he => by simp at he⟩
    refine g_lay h1 (by omega) pc1 fun v5 σ4 p4 s4 => ⟨⟨hk, hn⟩, ?_⟩
    refine g_straighten h3 h2 h1 (by omega) (by omega) (by omega) p4 fun v7 σ6 p6 s6 => ?_
    have hf6 : ∀ c' : Int, 0 ≤ c' → c' < N0 → c' ≠ c → σ6 c' = σ0 c' := fun c' g0 g1 g2 => by
      rw [s6 c' (by omega) (by omega) (by omega) (by omega) (by omega), ← hf c' g0 g1 g2]
      refine Eq.trans (funext fun j => s4 c' j (by omega) (by omega) (by omega)) ?_
      rw [e1, st_ne (by omega)]
    have q6 : Pok σ6 (c + 6) := p4.same (s6 _ (by omega) (by omega) (by omega) (by omega) (by omega)) (s6 _ (by omega) (by omega) (by omega) (by omega) (by omega)) (s6 _ (by omega) (by omega) (by omega) (by omega) (by omega))
    obtain ⟨ts, t1, t2, t3, t4⟩ := id p6
    have hsz := t1.1
    have inner : ∀ (m2 j : Nat), j + m2 = ts.length → ∀ (σ : Mem), σ (c + 9) 2 = ts.length → Pok σ (c + 6) → Pok σ (c + 9) → (∀ c' : Int, 0 ≤ c' → c' < N0 → c' ≠ c → σ c' = σ0 c') → WC l mX1_init d 13 512 P k n 158 [(2, c), (0, x1), (2, c + 6), (2, c + 9), (2, c + 12), (0, (i : Int)), (0, (j : Int)), (3, 0)] [] N Λ σ := by
      intro m2
      induction m2 with
      | zero =>
        intro j hj σ hz pa pb hf
        refine v_X1_init_158 o h1.1 h2.1 h3.1 (by omega) ⟨fun _ y1 ey => ?_, fun hc => by omega⟩
        rw [ey, addI_e (by omega) (by omega)]
        exact ih (i + 1) (by omega) σ pa pb hf
      | succ m2 ih2 =>
        intro j hj σ hz pa pb hf
        refine v_X1_init_158 o h1.1 h2.1 h3.1 (by omega) ⟨fun hc => by omega, fun _ b2 eb2 => ?_⟩
        rw [h2.2.1] at eb2
        subst eb2
        refine ⟨80, h2.2.2.2.1, Ix.of h2.2.2.2.1 (by omega) (by omega), ⟨hk, hn⟩, g_formOf hL fun v5 g5 g6 => ⟨fun _ y6 ey => ?_, fun hv b7 eb7 => ?_⟩⟩
        · rw [ey, addI_e (by omega) (by omega)]
          exact ih2 (j + 1) (by omega) σ hz pa pb hf
        · rw [f4] at eb7
          subst eb7
          refine ⟨160, o4, fun b9 eb9 => ?_⟩
          rw [h2.2.2.1] at eb9
          subst eb9
          have em : addI (mulI 5 (i : Int)) v5 = 5 * i + v5 := by rw [mulI_e (by omega) (by omega), addI_e (by omega) (by omega)]
          rw [em]
          refine ⟨80, h2.2.2.2.2, Ix.of h2.2.2.2.2 (by omega) (by omega), Ix.of o4 (by omega) (by omega), fun τ11 e11 y12 ey => ?_⟩
          rw [ey, addI_e (by omega) (by omega)]
          have sm : ∀ c' : Int, c' ≠ c + 4 → τ11 c' = σ c' := fun c' hc' => by rw [e11, st_ne hc']
          exact ih2 (j + 1) (by omega) τ11 (by rw [sm _ (by omega)]; exact hz) (pa.same (sm _ (by omega)) (sm _ (by omega)) (sm _ (by omega))) (pb.same (sm _ (by omega)) (sm _ (by omega)) (sm _ (by omega))) (fun c' g0 g1 g2 => by rw [sm c' (by omega)]; exact hf c' g0 g1 g2)
    exact inner ts.length 0 (by omega) σ6 hsz q6 p6 hf6
theorem fac_mid {P : Nat → Lay → Mem → Prop} {N0 : Nat} {Λ0 : Lay} {σ0 : Mem} {x1 i : Int} {σ' : Mem} (hN : c + 1 = N0) (hN6 : c + 6 = N) (hc0 : 0 ≤ c) (hd : 5 ≤ d) (hi : 32 ≤ i) (hL : FacL N Λ c) (hlay : ∀ c' : Int, 0 ≤ c' → c' < N0 → c' ≠ c → Λ c' = Λ0 c') (hf : ∀ c' : Int, 0 ≤ c' → c' < N0 → c' ≠ c → σ' c' = σ0 c') (h : ∀ Λ' σ', FacL (N + 8) Λ' c → Keep N0 Λ0 σ0 Λ' σ' c → P (N + 8) Λ' σ') :
    WC l mX1_init d 13 512 P 5 182 52 [(2, c), (0, x1), (0, i), (3, 0), (3, 0), (3, 0), (3, 0), (3, 0)] [] N Λ σ' := by
  have oc := hL.1
  refine v_X1_init_52 oc (by omega) ⟨fun _ => ⟨⟨by decide, by decide⟩, fun a1 e1 Λ2 e2 σ3 e3 => ⟨⟨by decide, by decide⟩, ?_⟩⟩, fun hc => absurd hi hc⟩
  have qa : a1 = c + 6 := by omega
  subst qa
  refine k_Poly_init (by omega) (Ob_newS e2 e1) (by omega) fun Λ5 σ6 hp6 hz6 hk6 => ⟨Ob_keep hk6 (by omega) (Ob_new e2 oc) (by omega), hp6.1, ⟨by decide, by decide⟩, fun a7 e7 Λ8 e8 σ9 e9 => ⟨⟨by decide, by decide⟩, ?_⟩⟩
  have qb : a7 = c + 9 := by omega
  subst qb
  have L6 : FacL (N + 1 + 2) Λ5 c := hL.mono (by omega) fun c' g0 g1 => by rw [(hk6 c' (by omega) (by omega) (by omega)).1, e2, newL_ne (by omega)]
  have hlay6 : ∀ c' : Int, 0 ≤ c' → c' < N0 → c' ≠ c → Λ5 c' = Λ0 c' ∧ σ6 c' = σ0 c' := fun c' g0 g1 g2 => by
    have z := hk6 c' g0 (by omega) (by omega)
    rw [z.1, z.2, e2, newL_ne (by omega), e3, newM_ne (by omega)]
    exact ⟨hlay c' g0 g1 g2, hf c' g0 g1 g2⟩
  refine k_Poly_init (N := N + 1 + 2 + 1) (by omega) (Ob_newS e8 e7) (by omega) fun Λ11 σ12 hp12 hz12 hk12 => ?_
  have x12 : ∀ c' : Int, 0 ≤ c' → c' < c + 9 → Λ11 c' = Λ5 c' ∧ σ12 c' = σ6 c' := fun c' g0 g1 => by
    have z := hk12 c' g0 (by omega) (by omega)
    rw [z.1, z.2, e8, newL_ne (by omega), e9, newM_ne (by omega)]
    exact ⟨rfl, rfl⟩
  refine ⟨Ob_keep hk12 (by omega) (Ob_new e8 L6.1) (by omega), Ob_keep hk12 (by omega) (Ob_new e8 hp6.1) (by omega), hp12.1, ⟨by decide, by decide⟩, fun a13 e13 Λ14 e14 σ15 e15 => ⟨⟨by decide, by decide⟩, ?_⟩⟩
  have qc : a13 = c + 12 := by omega
  subst qc
  refine k_Str_init (N := N + 1 + 2 + 1 + 2 + 1) (by omega) (Ob_newS e14 e13) (by omega) fun Λ17 σ18 hs18 hk18 => ?_
  have x18 : ∀ c' : Int, 0 ≤ c' → c' < c + 12 → Λ17 c' = Λ11 c' ∧ σ18 c' = σ12 c' := fun c' g0 g1 => by
    have z := hk18 c' g0 (by omega) (by omega)
    rw [z.1, z.2, e14, newL_ne (by omega), e15, newM_ne (by omega)]
    exact ⟨rfl, rfl⟩
  have L18 : FacL (N + 1 + 2 + 1 + 2 + 1 + 1) Λ17 c := L6.mono (by omega) fun c' g0 g1 => by rw [(x18 c' (by omega) (by omega)).1, (x12 c' (by omega) (by omega)).1]
  have P1 : PolyL (N + 1 + 2 + 1 + 2 + 1 + 1) Λ17 (c + 6) := hp6.mono (by omega) (by rw [(x18 _ (by omega) (by omega)).1, (x12 _ (by omega) (by omega)).1]) (by rw [(x18 _ (by omega) (by omega)).1, (x12 _ (by omega) (by omega)).1]) (by rw [(x18 _ (by omega) (by omega)).1, (x12 _ (by omega) (by omega)).1])
  have P2 : PolyL (N + 1 + 2 + 1 + 2 + 1 + 1) Λ17 (c + 9) := hp12.mono (by omega) (x18 _ (by omega) (by omega)).1 (x18 _ (by omega) (by omega)).1 (x18 _ (by omega) (by omega)).1
  refine ⟨L18.1, P1.1, P2.1, hs18.1, ?_⟩
  refine fac_lp2 (N0 := N0) (Λ0 := Λ0) (σ0 := σ0) hN hc0 (by omega) (by omega) hd L18 P1 P2 hs18 (fun c' g0 g1 g2 => ?_) (fun σ' hkp => ?_) 32 0 rfl σ18 ?_ ?_ (fun c' g0 g1 g2 => ?_)
  · rw [(x18 c' g0 (by omega)).1, (x12 c' g0 (by omega)).1, (hlay6 c' g0 g1 g2).1]
  · exact h Λ17 σ' L18 hkp
  · refine (PC0_ok hz6).same ?_ ?_ ?_
    · rw [(x18 _ (by omega) (by omega)).2, (x12 _ (by omega) (by omega)).2]
    · rw [(x18 _ (by omega) (by omega)).2, (x12 _ (by omega) (by omega)).2]
    · rw [(x18 _ (by omega) (by omega)).2, (x12 _ (by omega) (by omega)).2]
  · exact (PC0_ok hz12).same (x18 _ (by omega) (by omega)).2 (x18 _ (by omega) (by omega)).2 (x18 _ (by omega) (by omega)).2
  · rw [(x18 c' g0 (by omega)).2, (x12 c' g0 (by omega)).2, (hlay6 c' g0 g1 g2).2]
theorem k_Fac_init {P : Nat → Lay → Mem → Prop} {σ : Mem} (hN : c + 1 = N) (o : Ob N Λ c 11 6) (hd : 5 ≤ d) (h : ∀ Λ' σ', FacL (N + 13) Λ' c → Keep N Λ σ Λ' σ' c → P (N + 13) Λ' σ') : CC l mX1_init d 13 512 [(2, c)] N Λ σ P := by
  have hc0 := o.1
  refine CC.of (m := 7) ok_mX1_init (Nat.le_of_ble_eq_true rfl) rfl (v_X1_init_0 o (by omega) ?_)
  refine fun τ1 e1 => ⟨⟨by decide, by decide⟩, fun a2 e2 Λ3 e3 σ4 e4 Λ5 e5 => ⟨⟨by decide, by decide⟩, fun a6 e6 Λ7 e7 σ8 e8 Λ9 e9 => ⟨⟨by decide, by decide⟩, fun a10 e10 Λ11 e11 σ12 e12 Λ13 e13 => ⟨⟨by decide, by decide⟩, fun a14 e14 Λ15 e15 σ16 e16 Λ17 e17 => ⟨⟨by decide, by decide⟩, fun a18 e18 Λ19 e19 σ20 e20 Λ21 e21 => ?_⟩⟩⟩⟩⟩
  have q2 : a2 = c + 1 := by omega
  have q6 : a6 = c + 2 := by omega
  have q10 : a10 = c + 3 := by omega
  have q14 : a14 = c + 4 := by omega
  have q18 : a18 = c + 5 := by omega
  have oc := Ob_stR e21 (Ob_new e19 (Ob_stR e17 (Ob_new e15 (Ob_stR e13 (Ob_new e11 (Ob_stR e9 (Ob_new e7 (Ob_stR e5 (Ob_new e3 o)))))))))
  have w1 := Ob_stR e21 (Ob_new e19 (Ob_stR e17 (Ob_new e15 (Ob_stR e13 (Ob_new e11 (Ob_stR e9 (Ob_new e7 (Ob_stR e5 (Ob_newS e3 e2)))))))))
  have w2 := Ob_stR e21 (Ob_new e19 (Ob_stR e17 (Ob_new e15 (Ob_stR e13 (Ob_new e11 (Ob_stR e9 (Ob_newS e7 e6)))))))
  have w3 := Ob_stR e21 (Ob_new e19 (Ob_stR e17 (Ob_new e15 (Ob_stR e13 (Ob_newS e11 e10)))))
  have w4 := Ob_stR e21 (Ob_new e19 (Ob_stR e17 (Ob_newS e15 e14)))
  have w5 := Ob_stR e21 (Ob_newS e19 e18)
  rw [q2] at w1
  rw [q6] at w2
  rw [q10] at w3
  rw [q14] at w4
  rw [q18] at w5
  have r3 : Λ3 c = Λ c := by rw [e3, newL_ne (by omega)]
  have r7 : Λ7 c = Λ5 c := by rw [e7, newL_ne (by omega)]
  have r11 : Λ11 c = Λ9 c := by rw [e11, newL_ne (by omega)]
  have r15 : Λ15 c = Λ13 c := by rw [e15, newL_ne (by omega)]
  have r19 : Λ19 c = Λ17 c := by rw [e19, newL_ne (by omega)]
  have hL : FacL (N + 1 + 1 + 1 + 1 + 1) Λ21 c := by
    refine ⟨oc, ?_, ?_, ?_, ?_, ?_, w1, w2, w3, w4, w5⟩
    · rw [e21, stR_r, if_neg (by decide), r19, e17, stR_r, if_neg (by decide), r15, e13, stR_r, if_neg (by decide), r11, e9, stR_r, if_neg (by decide), r7, e5, stR_r, if_pos rfl, q2]
    · rw [e21, stR_r, if_neg (by decide), r19, e17, stR_r, if_neg (by decide), r15, e13, stR_r, if_neg (by decide), r11, e9, stR_r, if_pos rfl, q6]
    · rw [e21, stR_r, if_neg (by decide), r19, e17, stR_r, if_neg (by decide), r15, e13, stR_r, if_pos rfl, q10]
    · rw [e21, stR_r, if_neg (by decide), r19, e17, stR_r, if_pos rfl, q14]
    · rw [e21, stR_r, if_pos rfl, q18]
  have hlay : ∀ c' : Int, 0 ≤ c' → c' < N → c' ≠ c → Λ21 c' = Λ c' := fun c' g0 g1 g2 => by
    rw [e21, stR_ne g2, e19, newL_ne (by omega), e17, stR_ne g2, e15, newL_ne (by omega), e13, stR_ne g2, e11, newL_ne (by omega), e9, stR_ne g2, e7, newL_ne (by omega), e5, stR_ne g2, e3, newL_ne (by omega)]
  have hmem : ∀ c' : Int, 0 ≤ c' → c' < N → c' ≠ c → σ20 c' = σ c' := fun c' g0 g1 g2 => by
    rw [e20, newM_ne (by omega), e16, newM_ne (by omega), e12, newM_ne (by omega), e8, newM_ne (by omega), e4, newM_ne (by omega), e1, st_ne g2]
  clear e1 e2 e3 e4 e5 e6 e7 e8 e9 e10 e11 e12 e13 e14 e15 e16 e17 e18 e19 e20 e21 oc w1 w2 w3 w4 w5 r3 r7 r11 r15 r19
  obtain ⟨oc, f1, f2, f3, f4, f5, o1, o2, o3, o4, o5⟩ := id hL
  have lp1 : ∀ (m : Nat) (i x1 : Int) (σ' : Mem), 0 ≤ i → i ≤ 32 → (32 - i).toNat ≤ m → 0 ≤ x1 → x1 ≤ 5 → (∀ c' : Int, 0 ≤ c' → c' < N → c' ≠ c → σ' c' = σ c') →
      WC l mX1_init d 13 512 P (((((0 + 1) + 1) + 1) + 1) + 1) (((((0 + 6) + 6) + 5) + 160) + 5) 52 [(2, c), (0, x1), (0, i), (3, 0), (3, 0), (3, 0), (3, 0), (3, 0)] [] (((((N + 1) + 1) + 1) + 1) + 1) Λ21 σ' := by
    intro m
    induction m with
    | zero =>
      intro i x1 σ' g0 g1 g2 g3 g4 hf
      have := fac_mid (l := l) (d := d) (N := N + 1 + 1 + 1 + 1 + 1) (Λ := Λ21) (P := P) (N0 := N) (Λ0 := Λ) (σ0 := σ) (x1 := x1) (i := i) (σ' := σ') hN (by omega) hc0 hd (by omega) hL hlay hf h
      exact this
    | succ m ih =>
      intro i x1 σ' g0 g1 g2 g3 g4 hf
      by_cases hi : 32 ≤ i
      · exact ih i x1 σ' g0 g1 (by omega) g3 g4 hf
      · have nx : ∀ (y y' : Int) (τ : Mem), y' = addI i 1 → 0 ≤ y → y ≤ 5 → (∀ c' : Int, 0 ≤ c' → c' < N → c' ≠ c → τ c' = σ c') → WC l mX1_init d 13 512 P (((((0 + 1) + 1) + 1) + 1) + 1) (((((0 + 6) + 6) + 5) + 160) + 5) 52 [(2, c), (0, y), (0, y'), (3, 0), (3, 0), (3, 0), (3, 0), (3, 0)] [] (((((N + 1) + 1) + 1) + 1) + 1) Λ21 τ := fun y y' τ e b1 b2 b3 => by
          rw [e, addI_e (by omega) (by omega)]
          exact ih (i + 1) y τ (by omega) (by omega) (by omega) b1 b2 b3
        refine v_X1_init_52 (N := N + 1 + 1 + 1 + 1 + 1) oc (by omega) ⟨fun hc => absurd hc hi, fun _ => ⟨⟨by decide, by decide⟩, g_keyOf (by omega) fun v20 => ⟨fun _ y e => nx _ _ _ e g3 g4 hf, fun _ => ⟨⟨by decide, by decide⟩, g_breakOf (by omega) fun v23 => ⟨fun _ y e => nx _ _ _ e g3 g4 hf, fun _ => ⟨fun _ y e => nx _ _ _ e g3 g4 hf, fun hx b26 eb => ?_⟩⟩⟩⟩⟩⟩
        rw [f3] at eb
        subst eb
        refine ⟨5, o3, Ix.of o3 g3 (by omega), fun τ28 e28 y29 e29 y30 e30 => ?_⟩
        rw [e29, addI_e (by omega) (by omega)]
        exact nx _ _ _ e30 (by omega) (by omega) fun c' b0 b1 b2 => by rw [e28, st_ne (by omega)]; exact hf c' b0 b1 b2
  exact lp1 32 0 0 σ20 (by decide) (by decide) (by decide) (by decide) (by decide) hmem
end FC
