section CT7
variable {l : Launch} {d N : Nat} {Λ : Lay} {σ : Mem} {b : Int}
/-- the reference while it is made: i of its arrays stand -/
def ModP (N : Nat) (Λ : Lay) (b : Int) (i : Nat) : Prop := Ob N Λ b 21 36 ∧ ∀ (j : Nat) (e : Nat × Nat × Int), j < i → mLay[j]? = some e → (Λ b).2.2 e.1 = b + 1 + j ∧ Ob N Λ (b + 1 + j) e.2.1 e.2.2
theorem mLay_d : ∀ i, i < 22 → ∀ j, j < 22 → j ≠ i → (mLay[j]?).map (fun e => e.1) ≠ (mLay[i]?).map (fun e => e.1) := by decide
theorem ModP.step {i f t : Nat} {len a : Int} {Λ1 Λ2 : Lay} (h : ModP N Λ b i) (hi : i < 22) (hN : b + 1 + i = N) (e1 : Λ1 = newL Λ N t len) (ea : a = ((N : Nat) : Int)) (e2 : Λ2 = stR Λ1 b f a) (he : mLay[i]? = some (f, t, len)) : ModP (N + 1) Λ2 b (i + 1) := by
  refine ⟨Ob_stR e2 (Ob_new e1 h.1), fun j e hj hje => ?_⟩
  by_cases hji : j = i
  · subst hji
    rw [he] at hje
    cases hje
    refine ⟨by rw [e2, stR_r, if_pos rfl]; omega, ?_⟩
    have := Ob_stR e2 (Ob_newS e1 ea)
    rw [show b + 1 + (j : Int) = a by omega]
    exact this
  · have q := h.2 j e (by omega) hje
    have hd := mLay_d i hi j (by omega) hji
    rw [hje, he] at hd
    have hne : (e.1 : Int) ≠ (f : Int) := fun z => hd (by simp only [Option.map_some]; congr 1; omega)
    refine ⟨?_, Ob_stR e2 (Ob_new e1 q.2)⟩
    rw [e2, stR_r, if_neg hne, e1, newL_ne (by omega)]
    exact q.1
/-- what is new of the reference's arrays is 0, what stood stays -/
def ModZ (N : Nat) (Λ0 Λ : Lay) (σ0 σ : Mem) (b : Int) (i : Nat) (w : Int) : Prop := (∀ c' : Int, b + 1 ≤ c' → c' < b + 1 + i → ∀ j : Int, σ c' j = 0) ∧ (∀ j : Int, σ b j = if j = 23 then w else σ0 b j) ∧ Keep N Λ0 σ0 Λ σ b
theorem ModZ.step {N0 i f t : Nat} {len a : Int} {Λ0 Λ1 Λ2 : Lay} {σ0 σ1 : Mem} {w : Int} (h : ModZ N0 Λ0 Λ σ0 σ b i w) (hN : b + 1 + i = N) (hN0 : b + 1 = N0) (e1 : Λ1 = newL Λ N t len) (s1 : σ1 = newM σ N) (e2 : Λ2 = stR Λ1 b f a) : ModZ N0 Λ0 Λ2 σ0 σ1 b (i + 1) w := by
  refine ⟨fun c' g0 g1 j => ?_, fun j => ?_, fun c' g0 g1 g2 => ⟨?_, ?_⟩⟩
  · by_cases hc : c' = N
    · rw [s1, hc, newM_eq]
    · rw [s1, newM_ne hc]
      exact h.1 c' g0 (by omega) j
  · rw [s1, newM_ne (by omega)]
    exact h.2.1 j
  · rw [e2, stR_ne g2, e1, newL_ne (by omega)]
    exact (h.2.2 c' g0 g1 g2).1
  · rw [s1, newM_ne (by omega)]
    exact (h.2.2 c' g0 g1 g2).2
theorem ModZ.mark {N0 i : Nat} {Λ0 : Lay} {σ0 σ1 : Mem} {w w' : Int} (h : ModZ N0 Λ0 Λ σ0 σ b i w) (e : σ1 = st σ b 23 w') : ModZ N0 Λ0 Λ σ0 σ1 b i w' := by
  refine ⟨fun c' g0 g1 j => ?_, fun j => ?_, fun c' g0 g1 g2 => ⟨(h.2.2 c' g0 g1 g2).1, ?_⟩⟩
  · rw [e, st_ne (by omega)]
    exact h.1 c' g0 g1 j
  · rw [e]
    by_cases hj : j = 23
    · subst hj
      rw [st_eq, if_pos rfl]
    · rw [st_nj hj, if_neg hj, h.2.1 j, if_neg hj]
  · rw [e, st_ne g2]
    exact (h.2.2 c' g0 g1 g2).2
theorem mod_new {P : Nat → Lay → Mem → Prop} (hN : b + 1 = N) (o : Ob N Λ b 21 36) (hd : 1 ≤ d) (h : ∀ Λ' σ', ModL (N + 22) Λ' b → ModZ N Λ Λ' σ σ' b 22 (-1) → WC l mX12_init d 22 51167 P 22 51167 191 [(2, b), (0, 0), (0, 0), (3, 0), (3, 0)] [] (N + 22) Λ' σ') : WC l mX12_init d 22 51167 P 0 0 0 [(2, b), (3, 0), (3, 0), (3, 0), (3, 0)] [] N Λ σ := by
  refine v_X12_init_0 o hd ?_
  have h0 : ModP N Λ b 0 := ⟨o, fun j e hj => by omega⟩
  have z0 : ModZ N Λ Λ σ σ b 0 (σ b 23) := ⟨fun c' g0 g1 => by omega, fun j => by (by_cases hj : j = 23); (· rw [hj, if_pos rfl]); (· rw [if_neg hj]), fun c' _ _ _ => ⟨rfl, rfl⟩⟩
  refine ⟨⟨by decide, by decide⟩, fun a0 ea0 A0 eA0 s0 es0 B0 eB0 => ?_⟩
  have h1 := h0.step (by decide) (by omega) eA0 ea0 eB0 rfl
  have z1 := z0.step (N := N) (by omega) hN eA0 es0 eB0
  clear ea0 eA0 es0 eB0 h0 z0
  refine ⟨⟨by decide, by decide⟩, fun a1 ea1 A1 eA1 s1 es1 B1 eB1 => ?_⟩
  have h2 := h1.step (by decide) (by omega) eA1 ea1 eB1 rfl
  have z2 := z1.step (N := N + 1) (by omega) hN eA1 es1 eB1
  clear ea1 eA1 es1 eB1 h1 z1
  refine ⟨⟨by decide, by decide⟩, fun a2 ea2 A2 eA2 s2 es2 B2 eB2 => ?_⟩
  have h3 := h2.step (by decide) (by omega) eA2 ea2 eB2 rfl
  have z3 := z2.step (N := N + 1 + 1) (by omega) hN eA2 es2 eB2
  clear ea2 eA2 es2 eB2 h2 z2
  refine ⟨⟨by decide, by decide⟩, fun a3 ea3 A3 eA3 s3 es3 B3 eB3 => ?_⟩
  have h4 := h3.step (by decide) (by omega) eA3 ea3 eB3 rfl
  have z4 := z3.step (N := N + 1 + 1 + 1) (by omega) hN eA3 es3 eB3
  clear ea3 eA3 es3 eB3 h3 z3
  refine ⟨⟨by decide, by decide⟩, fun a4 ea4 A4 eA4 s4 es4 B4 eB4 => ?_⟩
  have h5 := h4.step (by decide) (by omega) eA4 ea4 eB4 rfl
  have z5 := z4.step (N := N + 1 + 1 + 1 + 1) (by omega) hN eA4 es4 eB4
  clear ea4 eA4 es4 eB4 h4 z4
  refine ⟨⟨by decide, by decide⟩, fun a5 ea5 A5 eA5 s5 es5 B5 eB5 => ?_⟩
  have h6 := h5.step (by decide) (by omega) eA5 ea5 eB5 rfl
  have z6 := z5.step (N := N + 1 + 1 + 1 + 1 + 1) (by omega) hN eA5 es5 eB5
  clear ea5 eA5 es5 eB5 h5 z5
  refine ⟨⟨by decide, by decide⟩, fun a6 ea6 A6 eA6 s6 es6 B6 eB6 => ?_⟩
  have h7 := h6.step (by decide) (by omega) eA6 ea6 eB6 rfl
  have z7 := z6.step (N := N + 1 + 1 + 1 + 1 + 1 + 1) (by omega) hN eA6 es6 eB6
  clear ea6 eA6 es6 eB6 h6 z6
  refine ⟨⟨by decide, by decide⟩, fun a7 ea7 A7 eA7 s7 es7 B7 eB7 => ?_⟩
  have h8 := h7.step (by decide) (by omega) eA7 ea7 eB7 rfl
  have z8 := z7.step (N := N + 1 + 1 + 1 + 1 + 1 + 1 + 1) (by omega) hN eA7 es7 eB7
  clear ea7 eA7 es7 eB7 h7 z7
  refine ⟨⟨by decide, by decide⟩, fun a8 ea8 A8 eA8 s8 es8 B8 eB8 => ?_⟩
  have h9 := h8.step (by decide) (by omega) eA8 ea8 eB8 rfl
  have z9 := z8.step (N := N + 1 + 1 + 1 + 1 + 1 + 1 + 1 + 1) (by omega) hN eA8 es8 eB8
  clear ea8 eA8 es8 eB8 h8 z8
  refine ⟨⟨by decide, by decide⟩, fun a9 ea9 A9 eA9 s9 es9 B9 eB9 => ?_⟩
  have h10 := h9.step (by decide) (by omega) eA9 ea9 eB9 rfl
  have z10 := z9.step (N := N + 1 + 1 + 1 + 1 + 1 + 1 + 1 + 1 + 1) (by omega) hN eA9 es9 eB9
  clear ea9 eA9 es9 eB9 h9 z9
  refine ⟨⟨by decide, by decide⟩, fun a10 ea10 A10 eA10 s10 es10 B10 eB10 => ?_⟩
  have h11 := h10.step (by decide) (by omega) eA10 ea10 eB10 rfl
  have z11 := z10.step (N := N + 1 + 1 + 1 + 1 + 1 + 1 + 1 + 1 + 1 + 1) (by omega) hN eA10 es10 eB10
  clear ea10 eA10 es10 eB10 h10 z10
  refine ⟨⟨by decide, by decide⟩, fun a11 ea11 A11 eA11 s11 es11 B11 eB11 => ?_⟩
  have h12 := h11.step (by decide) (by omega) eA11 ea11 eB11 rfl
  have z12 := z11.step (N := N + 1 + 1 + 1 + 1 + 1 + 1 + 1 + 1 + 1 + 1 + 1) (by omega) hN eA11 es11 eB11
  clear ea11 eA11 es11 eB11 h11 z11
  refine ⟨⟨by decide, by decide⟩, fun a12 ea12 A12 eA12 s12 es12 B12 eB12 => ?_⟩
  have h13 := h12.step (by decide) (by omega) eA12 ea12 eB12 rfl
  have z13 := z12.step (N := N + 1 + 1 + 1 + 1 + 1 + 1 + 1 + 1 + 1 + 1 + 1 + 1) (by omega) hN eA12 es12 eB12
  clear ea12 eA12 es12 eB12 h12 z12
  refine ⟨⟨by decide, by decide⟩, fun a13 ea13 A13 eA13 s13 es13 B13 eB13 => ?_⟩
  have h14 := h13.step (by decide) (by omega) eA13 ea13 eB13 rfl
  have z14 := z13.step (N := N + 1 + 1 + 1 + 1 + 1 + 1 + 1 + 1 + 1 + 1 + 1 + 1 + 1) (by omega) hN eA13 es13 eB13
  clear ea13 eA13 es13 eB13 h13 z13
  refine ⟨⟨by decide, by decide⟩, fun a14 ea14 A14 eA14 s14 es14 B14 eB14 => ?_⟩
  have h15 := h14.step (by decide) (by omega) eA14 ea14 eB14 rfl
  have z15 := z14.step (N := N + 1 + 1 + 1 + 1 + 1 + 1 + 1 + 1 + 1 + 1 + 1 + 1 + 1 + 1) (by omega) hN eA14 es14 eB14
  clear ea14 eA14 es14 eB14 h14 z14
  intro τ eτ
  replace z15 := z15.mark eτ
  clear eτ
  refine ⟨⟨by decide, by decide⟩, fun a15 ea15 A15 eA15 s15 es15 B15 eB15 => ?_⟩
  have h16 := h15.step (by decide) (by omega) eA15 ea15 eB15 rfl
  have z16 := z15.step (N := N + 1 + 1 + 1 + 1 + 1 + 1 + 1 + 1 + 1 + 1 + 1 + 1 + 1 + 1 + 1) (by omega) hN eA15 es15 eB15
  clear ea15 eA15 es15 eB15 h15 z15
  refine ⟨⟨by decide, by decide⟩, fun a16 ea16 A16 eA16 s16 es16 B16 eB16 => ?_⟩
  have h17 := h16.step (by decide) (by omega) eA16 ea16 eB16 rfl
  have z17 := z16.step (N := N + 1 + 1 + 1 + 1 + 1 + 1 + 1 + 1 + 1 + 1 + 1 + 1 + 1 + 1 + 1 + 1) (by omega) hN eA16 es16 eB16
  clear ea16 eA16 es16 eB16 h16 z16
  refine ⟨⟨by decide, by decide⟩, fun a17 ea17 A17 eA17 s17 es17 B17 eB17 => ?_⟩
  have h18 := h17.step (by decide) (by omega) eA17 ea17 eB17 rfl
  have z18 := z17.step (N := N + 1 + 1 + 1 + 1 + 1 + 1 + 1 + 1 + 1 + 1 + 1 + 1 + 1 + 1 + 1 + 1 + 1) (by omega) hN eA17 es17 eB17
  clear ea17 eA17 es17 eB17 h17 z17
  refine ⟨⟨by decide, by decide⟩, fun a18 ea18 A18 eA18 s18 es18 B18 eB18 => ?_⟩
  have h19 := h18.step (by decide) (by omega) eA18 ea18 eB18 rfl
  have z19 := z18.step (N := N + 1 + 1 + 1 + 1 + 1 + 1 + 1 + 1 + 1 + 1 + 1 + 1 + 1 + 1 + 1 + 1 + 1 + 1) (by omega) hN eA18 es18 eB18
  clear ea18 eA18 es18 eB18 h18 z18
  refine ⟨⟨by decide, by decide⟩, fun a19 ea19 A19 eA19 s19 es19 B19 eB19 => ?_⟩
  have h20 := h19.step (by decide) (by omega) eA19 ea19 eB19 rfl
  have z20 := z19.step (N := N + 1 + 1 + 1 + 1 + 1 + 1 + 1 + 1 + 1 + 1 + 1 + 1 + 1 + 1 + 1 + 1 + 1 + 1 + 1) (by omega) hN eA19 es19 eB19
  clear ea19 eA19 es19 eB19 h19 z19
  refine ⟨⟨by decide, by decide⟩, fun a20 ea20 A20 eA20 s20 es20 B20 eB20 => ?_⟩
  have h21 := h20.step (by decide) (by omega) eA20 ea20 eB20 rfl
  have z21 := z20.step (N := N + 1 + 1 + 1 + 1 + 1 + 1 + 1 + 1 + 1 + 1 + 1 + 1 + 1 + 1 + 1 + 1 + 1 + 1 + 1 + 1) (by omega) hN eA20 es20 eB20
  clear ea20 eA20 es20 eB20 h20 z20
  refine ⟨⟨by decide, by decide⟩, fun a21 ea21 A21 eA21 s21 es21 B21 eB21 => ?_⟩
  have h22 := h21.step (by decide) (by omega) eA21 ea21 eB21 rfl
  have z22 := z21.step (N := N + 1 + 1 + 1 + 1 + 1 + 1 + 1 + 1 + 1 + 1 + 1 + 1 + 1 + 1 + 1 + 1 + 1 + 1 + 1 + 1 + 1) (by omega) hN eA21 es21 eB21
  clear ea21 eA21 es21 eB21 h21 z21
  refine h _ _ ⟨h22.1, fun i e he => h22.2 i e ?_ he⟩ z22
  have := (List.getElem?_eq_some_iff.1 he).1
  exact this
end CT7
