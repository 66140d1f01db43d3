/-- nothing changes but the cell c and the polynomial at a -/
def Fr4 (σ σ' : Mem) (c a : Int) : Prop := ∀ c', c' ≠ c → c' ≠ a → c' ≠ a + 1 → c' ≠ a + 2 → σ' c' = σ c'
theorem Fr4.trans {σ σ' σ'' : Mem} {c a : Int} (h1 : Fr4 σ σ' c a) (h2 : Fr4 σ' σ'' c a) : Fr4 σ σ'' c a := fun c' a1 a2 a3 a4 => (h2 c' a1 a2 a3 a4).trans (h1 c' a1 a2 a3 a4)
section GT
variable {l : Launch} {d N : Nat} {Λ : Lay} {c a : Int}
theorem lx_lp {P : Int → Mem → Prop} {x2 x3 x4 x5 x7 x10 x11 : Int} {σ0 : Mem} (hL : StrL N Λ c) (hA : PolyL N Λ a) (hca : c + 1 ≠ a ∧ c + 1 ≠ a + 1 ∧ c + 1 ≠ a + 2) (hd : 3 ≤ d) (h : ∀ v σ', Pok σ' a → Fr4 σ0 σ' (c + 1) a → P v σ') : ∀ (m : Nat) (i x9 : Int) (σ : Mem), i ≤ 15 → -1 ≤ i → (i + 1).toNat ≤ m → Pok σ a → Fr4 σ0 σ (c + 1) a →
    WI l mX8_layExchange d P 31 [(2, c), (2, a), (0, x2), (0, x3), (0, x4), (1, x5), (3, 0), (1, x7), (3, 0), (0, x9), (0, x10), (0, x11), (0, i), (3, 0)] [] N Λ σ := by
  intro m
  induction m with
  | zero => intro i x9 σ h0 h1 h2 hp hf; exact v_X8_layExchange_31 hL.1 hL.2.1 hL.2.2 hA.1 (by omega) ⟨fun _ => h _ σ hp hf, fun hc => by omega⟩
  | succ m ih =>
    intro i x9 σ h0 h1 h2 hp hf
    refine v_X8_layExchange_31 hL.1 hL.2.1 hL.2.2 hA.1 (by omega) ⟨fun _ => h _ σ hp hf, fun hc => ⟨fun _ => h _ σ hp hf, fun _ => g_bit fun v => ⟨fun _ y3 e3 => ?_, fun _ τ4 e4 τ5 e5 => g_aw hL (by omega) fun v7 σ6 h6 => ?_⟩⟩⟩
    · rw [e3, addI_e (by omega) (by omega)]
      exact ih _ _ _ (by omega) (by omega) (by omega) hp hf
    · have k6 : ∀ c', c' ≠ c + 1 → σ6 c' = σ c' := fun c' hc' => by rw [h6 c' hc', e5, st_ne hc', e4, st_ne hc']
      have hp6 : Pok σ6 a := hp.same (k6 _ (fun z => hca.1 z.symm)) (k6 _ (fun z => hca.2.1 z.symm)) (k6 _ (fun z => hca.2.2 z.symm))
      refine g_lay hA (by omega) hp6 fun v9 σ8 hp8 hs y10 e10 => ?_
      rw [e10, addI_e (by omega) (by omega)]
      exact ih _ _ _ (by omega) (by omega) (by omega) hp8 (fun c' a1 a2 a3 a4 => by rw [← hf c' a1 a2 a3 a4, ← k6 c' a1]; exact funext fun j => hs c' j a2 a3 a4)
theorem g_lx {P : Int → Mem → Prop} {x2 x3 x4 x5 x7 : Int} {σ : Mem} (hL : StrL N Λ c) (hA : PolyL N Λ a) (hca : c + 1 ≠ a ∧ c + 1 ≠ a + 1 ∧ c + 1 ≠ a + 2) (hd : 3 ≤ d) (hp : Pok σ a) (h : ∀ v σ', Pok σ' a → Fr4 σ σ' (c + 1) a → P v σ') : CI l mX8_layExchange d [(2, c), (2, a), (0, x2), (0, x3), (0, x4), (1, x5), (1, x7)] N Λ σ P :=
  c_X8_layExchange (v_X8_layExchange_0 fun y1 _ y2 _ => lx_lp hL hA hca hd h 16 15 0 σ (by decide) (by decide) (by decide) hp (fun _ _ _ _ _ => rfl))
theorem lb_lp {P : Int → Mem → Prop} {x1 : Int} {σ : Mem} (hA : PolyL N Λ a) (hd : 3 ≤ d) (h : ∀ v, -1 ≤ v → v ≤ x1 → P v σ) (hx : x1 ≤ 79) : ∀ (m : Nat) (i : Int), i ≤ x1 → -1 ≤ i → (i + 1).toNat ≤ m →
    WI l mX8_lastBroken d P 2 [(2, a), (0, x1), (0, i)] [] N Λ σ := by
  intro m
  induction m with
  | zero => intro i h0 h1 h2; exact v_X8_lastBroken_2 hA.1 hA.2.1 (by omega) ⟨fun _ => h _ h1 h0, fun hc => by omega⟩
  | succ m ih =>
    intro i h0 h1 h2
    refine v_X8_lastBroken_2 hA.1 hA.2.1 (by omega) ⟨fun _ => h _ h1 h0, fun hc => ⟨Ix.of hA.2.2.2.1 (by omega) (by omega), g_breakOf (by omega) fun v => ⟨fun _ => h _ h1 h0, fun _ y3 e3 => ?_⟩⟩⟩
    rw [e3, addI_e (by omega) (by omega)]
    exact ih _ (by omega) (by omega) (by omega)
theorem g_lb {P : Int → Mem → Prop} {x1 : Int} {σ : Mem} (hA : PolyL N Λ a) (hd : 3 ≤ d) (hx : x1 ≤ 79) (hx1 : -1 ≤ x1) (h : ∀ v, -1 ≤ v → v ≤ x1 → P v σ) : CI l mX8_lastBroken d [(2, a), (0, x1)] N Λ σ P :=
  c_X8_lastBroken (v_X8_lastBroken_0 (lb_lp hA hd h hx 81 x1 (Int.le_refl _) hx1 (by omega)))
/-- lastBroken from a place that may lie below -1 -/
theorem g_lb' {P : Int → Mem → Prop} {x1 : Int} {σ : Mem} (hA : PolyL N Λ a) (hd : 3 ≤ d) (hx : x1 ≤ 79) (h : ∀ v, v ≤ 79 → v ≤ max x1 (-1) → P v σ) : CI l mX8_lastBroken d [(2, a), (0, x1)] N Λ σ P := by
  by_cases h0 : -1 ≤ x1
  · exact g_lb hA hd hx h0 fun v h1 h2 => h v (by omega) (by omega)
  · exact c_X8_lastBroken (v_X8_lastBroken_0 (v_X8_lastBroken_2 hA.1 hA.2.1 (by omega) ⟨fun _ => h _ hx (by omega), fun hc => by omega⟩))
theorem st_lp {P : Int → Mem → Prop} {a1 : Int} {σ0 : Mem} (hL : StrL N Λ c) (hA : PolyL N Λ a) (hca : (c ≠ a ∧ c ≠ a + 1 ∧ c ≠ a + 2) ∧ c + 1 ≠ a ∧ c + 1 ≠ a + 1 ∧ c + 1 ≠ a + 2) (hd : 4 ≤ d)
    (h : ∀ v σ', Pok σ' a → (∀ c', c' ≠ c → c' ≠ c + 1 → c' ≠ a → c' ≠ a + 1 → c' ≠ a + 2 → σ' c' = σ0 c') → P v σ') : ∀ (m : Nat) (x3 : Int) (σ : Mem), (900 - σ c 0).toNat ≤ m → 0 ≤ σ c 0 → σ c 0 ≤ 900 → x3 < σ a 2 → Pok σ a → (∀ c', c' ≠ c → c' ≠ c + 1 → c' ≠ a → c' ≠ a + 1 → c' ≠ a + 2 → σ c' = σ0 c') →
    WI l mX8_straighten d P 21 [(2, c), (2, a1), (2, a), (0, x3), (3, 0), (3, 0), (3, 0), (3, 0), (3, 0), (3, 0), (3, 0), (3, 0), (3, 0), (3, 0)] [] N Λ σ := by
  intro m
  induction m with
  | zero =>
    intro x3 σ h0 h1 h2 h3 hp hf
    exact v_X8_straighten_21 hL.1 hA.1 hA.2.1 hA.2.2.1 (by omega) ⟨fun _ => ⟨fun _ => h _ σ hp hf, fun _ => h _ σ hp hf⟩, fun _ => ⟨fun _ => ⟨fun _ => h _ σ hp hf, fun _ => h _ σ hp hf⟩, fun hc => by omega⟩⟩
  | succ m ih =>
    intro x3 σ h0 h1 h2 h3 hp hf
    obtain ⟨ts, q1, q2, q3, q4⟩ := id hp
    have hsz := q1.1
    refine v_X8_straighten_21 hL.1 hA.1 hA.2.1 hA.2.2.1 (by omega) ⟨fun _ => ⟨fun _ => h _ σ hp hf, fun _ => h _ σ hp hf⟩, fun hx => ⟨fun _ => ⟨fun _ => h _ σ hp hf, fun _ => h _ σ hp hf⟩, fun hc y1 e1 => ⟨Ix.of hA.2.2.2.1 (by omega) (by omega), fun y2 _ => g_breakOf (by omega) fun v4 y5 _ y6 _ y7 _ => ⟨Ix.of hA.2.2.2.2 (by omega) (by omega), fun y8 _ => g_wo2 (by omega) fun v10 => g_lx hL hA hca.2 (by omega) hp fun v12 σ11 hp11 hf11 => ?_⟩⟩⟩⟩
    have hb : y1 = σ a 2 - 1 - x3 := by rw [e1, subI_e (x := σ a 2) (by omega) (by omega), subI_e (by omega) (by omega)]
    clear e1
    have hsame : ∀ c', c' ≠ c → c' ≠ c + 1 → c' ≠ a → c' ≠ a + 1 → c' ≠ a + 2 → σ11 c' = σ0 c' := fun c' g0 g1 g2 g3 g4 => by rw [hf11 c' g1 g2 g3 g4, hf c' g0 g1 g2 g3 g4]
    refine ⟨fun _ τ13 e13 => ?_, fun _ => h _ σ11 hp11 hsame⟩
    have hc11 : σ11 c 0 = σ c 0 := by rw [hf11 c (by omega) hca.1.1 hca.1.2.1 hca.1.2.2]
    rw [hc11, addI_e (by omega) (by omega)] at e13
    have hp13 : Pok τ13 a := hp11.same (by rw [e13, st_ne (fun z => hca.1.1 z.symm)]) (by rw [e13, st_ne (fun z => hca.1.2.1 z.symm)]) (by rw [e13, st_ne (fun z => hca.1.2.2 z.symm)])
    have hs13 : τ13 c 0 = σ c 0 + 1 := by rw [e13, st_eq]
    have hf13 : ∀ c', c' ≠ c → c' ≠ c + 1 → c' ≠ a → c' ≠ a + 1 → c' ≠ a + 2 → τ13 c' = σ0 c' := fun c' g0 g1 g2 g3 g4 => by rw [e13, st_ne g0]; exact hsame c' g0 g1 g2 g3 g4
    clear e13 hf11 hp11 hsame hc11
    obtain ⟨ts2, r1, r2, r3, r4⟩ := id hp13
    have hsz2 := r1.1
    rw [subI_e (x := τ13 a 2) (by omega) (by omega), subI_e (by omega) (by omega)]
    refine g_lb' hA (by omega) (by omega) fun v15 h15 h16 => ih v15 τ13 (by omega) (by omega) (by omega) ?_ hp13 hf13
    omega
theorem g_straighten {P : Int → Mem → Prop} {a1 : Int} {σ : Mem} (hL : StrL N Λ c) (hA : PolyL N Λ a) (hB : PolyL N Λ a1) (hca : (c ≠ a ∧ c ≠ a + 1 ∧ c ≠ a + 2) ∧ c + 1 ≠ a ∧ c + 1 ≠ a + 1 ∧ c + 1 ≠ a + 2) (haa : a1 + 2 < a ∨ a + 2 < a1) (hd : 4 ≤ d) (hp : Pok σ a1)
    (h : ∀ v σ', Pok σ' a → (∀ c', c' ≠ c → c' ≠ c + 1 → c' ≠ a → c' ≠ a + 1 → c' ≠ a + 2 → σ' c' = σ c') → P v σ') : CI l mX8_straighten d [(2, c), (2, a1), (2, a)] N Λ σ P := by
  obtain ⟨ts, q1, q2, q3, q4⟩ := id hp
  have hsz := q1.1
  refine c_X8_straighten (v_X8_straighten_0 hA.1 hB.1 hB.2.1 hA.2.1 hB.2.2.1 hA.2.2.1 hL.1 (by omega) ⟨⟨80, 80, hB.2.2.2.1, hA.2.2.2.1, by omega, by omega, by omega, by omega, by omega⟩, fun τ1 e1 => ?_⟩)
  have t1 : τ1 a1 2 = σ a1 2 := by rw [e1, cpM_ne (by omega)]
  rw [t1]
  refine ⟨⟨80, 80, hB.2.2.2.2, hA.2.2.2.2, by omega, by omega, by omega, by omega, by omega⟩, fun τ2 e2 => ?_⟩
  have t2 : τ2 a1 2 = σ a1 2 := by rw [e2, cpM_ne (by omega), t1]
  rw [t2]
  intro τ3 e3 τ4 e4
  have k4 : ∀ c', c' ≠ c → c' ≠ c + 1 → c' ≠ a → c' ≠ a + 1 → c' ≠ a + 2 → τ4 c' = σ c' := fun c' g0 g1 g2 g3 g4 => by rw [e4, st_ne g0, e3, st_ne g2, e2, cpM_ne g4, e1, cpM_ne g3]
  have s4 : τ4 a 2 = σ a1 2 := by rw [e4, st_ne (fun z => hca.1.1 z.symm), e3, st_eq]
  have z4 : τ4 c 0 = 0 := by rw [e4, st_eq]
  have hp4 : Pok τ4 a := by
    refine ⟨ts, ⟨by rw [s4]; exact hsz, fun i e he => ?_⟩, q2, q3, q4⟩
    have hi : i < ts.length := (List.getElem?_eq_some_iff.mp he).1
    have g := q1.2 i e he
    refine ⟨?_, ?_⟩
    · rw [e4, st_ne (fun z => hca.1.2.1 z.symm), e3, st_ne (by omega), e2, cpM_ne (by omega), e1, cpM_eq, if_pos (by omega), show (0 : Int) + ((i : Int) - 0) = i by omega]
      exact g.1
    · have k1 : ∀ j : Int, τ1 (a1 + 2) j = σ (a1 + 2) j := fun j => by rw [e1, cpM_ne (by omega)]
      rw [e4, st_ne (fun z => hca.1.2.2 z.symm), e3, st_ne (by omega), e2, cpM_eq, if_pos (by omega), show (0 : Int) + ((i : Int) - 0) = i by omega, k1]
      exact g.2
  clear e1 e2 e3 e4 t1 t2
  rw [s4, subI_e (by omega) (by omega)]
  exact g_lb hA (by omega) (by omega) (by omega) fun v h1 h2 => st_lp hL hA hca hd h 900 v τ4 (by omega) (by omega) (by omega) (by omega) hp4 k4
end GT
