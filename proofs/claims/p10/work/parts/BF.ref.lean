/-! the reference: keys, products, straightening on any object -/
section RK
variable {l : Launch} {d N : Nat} {Λ : Lay} {ω σ : Mem} {b o : Int}
theorem ixm {p : Int} (h0 : 0 ≤ p) (h1 : p < 196) : mulI 161 p = 161 * p := mulI_e (by omega) (by omega)
theorem ixk {p i : Int} (h0 : 0 ≤ p) (h1 : p < 196) (h2 : 0 ≤ i) (h3 : i < 80) : addI (addI (161 * p) 1) (mulI 2 i) = 161 * p + 1 + 2 * i := by
  rw [mulI_e (x := 2) (by omega) (by omega), addI_e (x := 161 * p) (by omega) (by omega), addI_e (by omega) (by omega)]
theorem ixn {p i : Int} (h0 : 0 ≤ p) (h1 : p < 196) (h2 : 0 ≤ i) (h3 : i < 80) : addI (addI (161 * p) 2) (mulI 2 i) = 161 * p + 2 + 2 * i := by
  rw [mulI_e (x := 2) (by omega) (by omega), addI_e (x := 161 * p) (by omega) (by omega), addI_e (by omega) (by omega)]
theorem RI.rnk {j : Int} (h : RI ω σ b) : 0 ≤ σ (b + 7) j ∧ σ (b + 7) j ≤ 120 := (h.ok (b + 7) j).2.1 (Or.inl rfl)
theorem RI.kpt {j : Int} (h : RI ω σ b) : 0 ≤ σ (b + 13) j ∧ σ (b + 13) j ≤ 120 := (h.ok (b + 13) j).2.1 (Or.inr (Or.inl rfl))
theorem RI.srk {τ : Mem} {j v : Int} (h : RI ω σ b) (e : τ = st σ (b + 7) j v) (hv : 0 ≤ v ∧ v ≤ 120) : RI ω τ b := h.sto e (RO.r (Or.inl rfl) hv)
theorem RI.ltr {c j : Int} (h : RI ω σ b) (hc : c = b + 8 ∨ c = b + 9 ∨ c = b + 10 ∨ c = b + 11 ∨ c = b + 12 ∨ c = b + 14 ∨ c = b + 20 ∨ c = b + 21) : 0 ≤ σ c j ∧ σ c j ≤ 9 := (h.ok c j).2.2.1 hc
theorem RI.slt {τ : Mem} {c j v : Int} (h : RI ω σ b) (e : τ = st σ c j v) (hc : c = b + 8 ∨ c = b + 9 ∨ c = b + 10 ∨ c = b + 11 ∨ c = b + 12 ∨ c = b + 14 ∨ c = b + 20 ∨ c = b + 21) (hv : 0 ≤ v ∧ v ≤ 9) : RI ω τ b := h.sto e (RO.l hc hv)
theorem s75 {P : Int → Mem → Prop} {n x2 x3 B : Int} (hM : ModL N Λ b) (hR : RI ω σ b) (h3 : 0 ≤ x3 ∧ x3 < 4) (hx : 0 ≤ x2 ∧ x2 ≤ B) (hB : B ≤ 1771560) (K : ∀ y, 0 ≤ y → y ≤ 121 * B + 120 → WI l mX12_keyOf d P 75 [(2, b), (0, n), (0, y), (0, x3 + 1), (3, 0)] [] N Λ σ) : WI l mX12_keyOf d P 75 [(2, b), (0, n), (0, x2), (0, x3), (3, 0)] [] N Λ σ := by
  have r := hR.rnk (j := x3)
  have m : mulI 121 x2 = 121 * x2 := mulI_e (by omega) (by omega)
  refine v_X12_keyOf_75 hM.1 (M_franks hM) ⟨fun hc => by omega, fun _ => ⟨fun _ y1 e1 y2 e2 => ?_, fun _ => ⟨Ix.of (M_ranks hM) h3.1 (by omega), fun y1 e1 y2 e2 => ?_⟩⟩⟩
  · rw [m, addI_e (by omega) (by omega)] at e1
    rw [e2, addI_e (by omega) (by omega)]
    exact K _ (by omega) (by omega)
  · rw [m, addI_e (by omega) (by omega)] at e1
    rw [e2, addI_e (by omega) (by omega)]
    exact K _ (by omega) (by omega)
theorem ko75 {P : Int → Mem → Prop} {n : Int} (hM : ModL N Λ b) (hR : RI ω σ b) (h : ∀ v, 0 ≤ v ∧ v < 214358881 → P v σ) : WI l mX12_keyOf d P 75 [(2, b), (0, n), (0, 0), (0, 0), (3, 0)] [] N Λ σ := by
  refine s75 (B := 0) hM hR (by decide) (by decide) (by decide) fun y1 a1 b1 => ?_
  refine s75 (B := 120) hM hR (by decide) (by omega) (by decide) fun y2 a2 b2 => ?_
  refine s75 (B := 14640) hM hR (by decide) (by omega) (by decide) fun y3 a3 b3 => ?_
  refine s75 (B := 1771560) hM hR (by decide) (by omega) (by decide) fun y4 a4 b4 => ?_
  exact v_X12_keyOf_75 hM.1 (M_franks hM) ⟨fun _ => h _ (by omega), fun hc => absurd (by decide) hc⟩
theorem ko17 {P : Int → Mem → Prop} {n x2 x3 : Int} {σ0 : Mem} (hM : ModL N Λ b) (h2 : 0 ≤ x2 ∧ x2 < 8) (h3 : 0 ≤ x3 ∧ x3 ≤ 120) (K : ∀ τ, RI ω τ b → FA o σ0 τ b → WI l mX12_keyOf d P 2 [(2, b), (0, n), (0, x2 + 1), (3, 0), (3, 0)] [] N Λ τ) : ∀ (m : Nat) (i : Int) (σ : Mem), 0 ≤ i → i < 9 → i.toNat ≤ m → RI ω σ b → FA o σ0 σ b → WI l mX12_keyOf d P 17 [(2, b), (0, n), (0, x2), (0, x3), (0, i)] [] N Λ σ := by
  have ix : ∀ j : Int, 0 ≤ j → j < 9 → Ix N Λ (b + 7) 0 j := fun j u0 u1 => Ix.of (M_ranks hM) u0 u1
  intro m
  have en : ∀ (i : Int) (σ : Mem), 0 ≤ i → i < 9 → RI ω σ b → FA o σ0 σ b → (Ix N Λ (b + 7) 0 i ∧ (∀ τ1, τ1 = st σ (b + 7) i x3 → (∀ y2, y2 = addI x2 1 → WI l mX12_keyOf d P 2 [(2, b), (0, n), (0, y2), (3, 0), (3, 0)] [] N Λ τ1))) := fun i σ i0 i1 hR hF => ⟨ix i i0 i1, fun τ1 e1 y2 e2 => by
    rw [e2, addI_e (by omega) (by omega)]
    exact K τ1 (hR.srk e1 h3) (hF.tr (FA.s e1 (by omega)))⟩
  induction m with
  | zero => intro i σ i0 i1 g hR hF; exact v_X12_keyOf_17 hM.1 (M_franks hM) ⟨fun _ => en i σ i0 i1 hR hF, fun hc => by omega⟩
  | succ m ih =>
    intro i σ i0 i1 g hR hF
    refine v_X12_keyOf_17 hM.1 (M_franks hM) ⟨fun _ => en i σ i0 i1 hR hF, fun hc => ?_⟩
    rw [subI_e (x := i) (y := 1) (by omega) (by omega)]
    refine ⟨ix _ (by omega) (by omega), fun _ => en i σ i0 i1 hR hF, fun _ => ⟨ix _ (by omega) (by omega), ix _ i0 i1, fun τ5 e5 y6 e6 => ?_⟩⟩
    rw [e6, addI_e (by omega) (by omega)]
    exact ih (i + -1) τ5 (by omega) (by omega) (by omega) (hR.srk e5 hR.rnk) (hF.tr (FA.s e5 (by omega)))
theorem ko2 {P : Int → Mem → Prop} {n : Int} {σ0 : Mem} (hM : ModL N Λ b) (hn : n ≤ 4) (h : ∀ v σ', RI ω σ' b → FA o σ0 σ' b → 0 ≤ v ∧ v < 214358881 → P v σ') : ∀ (m : Nat) (i : Int) (σ : Mem), 0 ≤ i → (8 - i).toNat ≤ m → RI ω σ b → FA o σ0 σ b → WI l mX12_keyOf d P 2 [(2, b), (0, n), (0, i), (3, 0), (3, 0)] [] N Λ σ := by
  intro m
  induction m with
  | zero => intro i σ i0 g hR hF; exact v_X12_keyOf_2 hM.1 (M_franks hM) ⟨fun _ => ko75 hM hR fun v hv => h v σ hR hF hv, fun hc => by omega⟩
  | succ m ih =>
    intro i σ i0 g hR hF
    refine v_X12_keyOf_2 hM.1 (M_franks hM) ⟨fun _ => ko75 hM hR fun v hv => h v σ hR hF hv, fun hc => ⟨Ix.of (M_ranks hM) i0 (by omega), fun y1 e1 => ?_⟩⟩
    have r := hR.rnk (j := i)
    rw [← e1] at r
    exact ko17 hM (by omega) r (fun τ hτ fτ => ih (i + 1) τ (by omega) (by omega) hτ fτ) 9 i σ i0 (by omega) (by omega) hR hF
theorem R_ko {P : Int → Mem → Prop} {n : Int} (hM : ModL N Λ b) (hR : RI ω σ b) (hn : n ≤ 4) (h : ∀ v σ', RI ω σ' b → FA o σ σ' b → 0 ≤ v ∧ v < 214358881 → P v σ') : CI l mX12_keyOf d [(2, b), (0, n)] N Λ σ P :=
  c_X12_keyOf (v_X12_keyOf_0 (ko2 hM hn h 8 1 σ (by decide) (by decide) hR FA.rf))
theorem kt71 {P : Int → Mem → Prop} {x1 x2 x3 x4 : Int} {σ0 : Mem} (hM : ModL N Λ b) (hx : 0 ≤ x2 ∧ x2 < 214358881) (h3 : 0 ≤ x3) (h4 : x3 + x4 ≤ 4) (h40 : 0 ≤ x4) (hd : 1 ≤ d) (h : ∀ v σ', RI ω σ' b → FA o σ0 σ' b → 0 ≤ v ∧ v < 214358881 → P v σ') : ∀ (m : Nat) (i : Int) (σ : Mem), 0 ≤ i → (4 - i).toNat ≤ m → RI ω σ b → FA o σ0 σ b → WI l mX12_keyTimes d P 71 [(2, b), (0, x1), (0, x2), (0, x3), (0, x4), (0, i)] [] N Λ σ := by
  have en : ∀ σ, RI ω σ b → FA o σ0 σ b → CI l mX12_keyOf (d - 1) [(2, b), (0, (addI x3 x4))] N Λ σ (fun v2 σ1 => P v2 σ1) := fun σ hR hF => by
    rw [addI_e (by omega) (by omega)]
    exact R_ko hM hR h4 fun v σ' hR' hF' hv => h v σ' hR' (hF.tr hF') hv
  intro m
  induction m with
  | zero => intro i σ i0 g hR hF; exact v_X12_keyTimes_71 hM.1 (M_franks hM) hd ⟨fun _ => en σ hR hF, fun hc => by omega⟩
  | succ m ih =>
    intro i σ i0 g hR hF
    refine v_X12_keyTimes_71 hM.1 (M_franks hM) hd ⟨fun _ => en σ hR hF, fun hc => R_rk hx (by omega) ?_⟩
    rw [addI_e (x := x3) (y := i) (by omega) (by omega)]
    refine ⟨Ix.of (M_ranks hM) (by omega) (by omega), fun τ5 e5 y6 e6 => ?_⟩
    rw [e6, addI_e (by omega) (by omega)]
    exact ih (i + 1) τ5 (by omega) (by omega) (hR.srk e5 rkI_b) (hF.tr (FA.s e5 (by omega)))
theorem kt43 {P : Int → Mem → Prop} {x1 x2 x3 x4 : Int} {σ0 : Mem} (hM : ModL N Λ b) (hx1 : 0 ≤ x1 ∧ x1 < 214358881) (hx : 0 ≤ x2 ∧ x2 < 214358881) (h3 : 0 ≤ x3) (h4 : x3 + x4 ≤ 4) (h40 : 0 ≤ x4) (hd : 1 ≤ d) (h : ∀ v σ', RI ω σ' b → FA o σ0 σ' b → 0 ≤ v ∧ v < 214358881 → P v σ') : ∀ (m : Nat) (i : Int) (σ : Mem), 0 ≤ i → (4 - i).toNat ≤ m → RI ω σ b → FA o σ0 σ b → WI l mX12_keyTimes d P 43 [(2, b), (0, x1), (0, x2), (0, x3), (0, x4), (0, i)] [] N Λ σ := by
  intro m
  induction m with
  | zero => intro i σ i0 g hR hF; exact v_X12_keyTimes_43 hM.1 (M_franks hM) hd ⟨fun _ => kt71 hM hx h3 h4 h40 hd h 4 0 σ (by decide) (by decide) hR hF, fun hc => by omega⟩
  | succ m ih =>
    intro i σ i0 g hR hF
    refine v_X12_keyTimes_43 hM.1 (M_franks hM) hd ⟨fun _ => kt71 hM hx h3 h4 h40 hd h 4 0 σ (by decide) (by decide) hR hF, fun hc => R_rk hx1 (by omega) ⟨Ix.of (M_ranks hM) i0 (by omega), fun τ3 e3 y4 e4 => ?_⟩⟩
    rw [e4, addI_e (by omega) (by omega)]
    exact ih (i + 1) τ3 (by omega) (by omega) (hR.srk e3 rkI_b) (hF.tr (FA.s e3 (by omega)))
theorem R_kt {P : Int → Mem → Prop} {x1 x2 : Int} (hM : ModL N Λ b) (hR : RI ω σ b) (hx1 : 0 ≤ x1 ∧ x1 < 214358881) (hx : 0 ≤ x2 ∧ x2 < 214358881) (hd : 2 ≤ d) (h : ∀ v σ', RI ω σ' b → FA o σ σ' b → (σ' b 8 = 0 → 0 ≤ v ∧ v < 214358881) → P v σ') : CI l mX12_keyTimes d [(2, b), (0, x1), (0, x2)] N Λ σ P := by
  have d1 := dgI_b (x := x1)
  have d2 := dgI_b (x := x2)
  refine c_X12_keyTimes (v_X12_keyTimes_0 hM.1 (by omega) (R_dg hx1 (by omega) (R_dg hx (by omega) ?_)))
  rw [addI_e (x := dgI x1) (by omega) (by omega)]
  exact ⟨fun h4 => kt43 hM hx1 hx d1.1 h4 d2.1 (by omega) (fun v σ' hR' hF' hv => h v σ' hR' hF' (fun _ => hv)) 4 0 σ (by decide) (by decide) hR FA.rf, fun _ => ⟨fun hb τ5 e5 => h _ _ (hR.bad e5) (FA.bd e5) (fun hz => absurd (by rw [e5, st_eq] at hz; exact hz) hb), fun _ τ6 e6 => h _ _ (hR.bad e6) (FA.bd e6) (fun hz => by rw [e6, st_eq] at hz; exact absurd hz (by decide))⟩⟩
theorem RI.key {p i : Int} (h : RI ω σ b) (hp : 0 ≤ p ∧ p < 196) (h0 : 0 ≤ i) (h1 : i < σ (b + 6) (161 * p)) : 0 ≤ σ (b + 6) (161 * p + 1 + 2 * i) ∧ σ (b + 6) (161 * p + 1 + 2 * i) < 214358881 := ((h.pool hp.1 hp.2).ky h0 h1).1
theorem pix {p j : Int} (hM : ModL N Λ b) (hp : 0 ≤ p ∧ p < 196) (h0 : 161 * p ≤ j) (h1 : j < 161 * p + 161) : Ix N Λ (b + 6) 0 j := pool_ix hM hp.1 hp.2 h0 h1
/-- a product is put to a third row -/
theorem mu23 {P : Mem → Prop} {p q s x5 : Int} {σ0 : Mem} (hM : ModL N Λ b) (hR0 : RI ω σ0 b) (hp : 0 ≤ p ∧ p < 196) (hq : 0 ≤ q ∧ q < 196) (ho : 0 ≤ o ∧ o < 196) (hpo : p ≠ o) (hqo : q ≠ o) (h5 : 0 ≤ x5) (h5' : x5 < σ0 (b + 6) (161 * p)) (hd : 4 ≤ d) (h : ∀ σ', RI ω σ' b → FA o σ0 σ' b → P σ') (K : ∀ τ, RI ω τ b → FA o σ0 τ b → WV l mX12_multiplies d P 3 [(2, b), (0, p), (0, q), (0, s), (0, o), (0, x5 + 1), (3, 0), (3, 0), (3, 0), (3, 0)] [] N Λ τ) : ∀ (m : Nat) (i : Int) (σ : Mem), 0 ≤ i → (80 - i).toNat ≤ m → RI ω σ b → FA o σ0 σ b → WV l mX12_multiplies d P 23 [(2, b), (0, p), (0, q), (0, s), (0, o), (0, x5), (0, i), (3, 0), (3, 0), (3, 0)] [] N Λ σ := by
  have zp := (hR0.pool hp.1 hp.2).sz
  have nx : ∀ (y : Int) (τ : Mem), RI ω τ b → FA o σ0 τ b → y = addI x5 1 → WV l mX12_multiplies d P 3 [(2, b), (0, p), (0, q), (0, s), (0, o), (0, y), (3, 0), (3, 0), (3, 0), (3, 0)] [] N Λ τ := fun y τ hR hF e => by
    rw [e, addI_e (by omega) (by omega)]
    exact K τ hR hF
  intro m
  induction m with
  | zero =>
    intro i σ i0 g hR hF
    have zq := (hR.pool hq.1 hq.2).sz
    refine v_X12_multiplies_23 hM.1 (M_fpool hM) (by omega) ?_
    rw [ixm hq.1 hq.2]
    exact ⟨pix hM hq (by omega) (by omega), fun _ y e => nx y σ hR hF e, fun hc => absurd (by omega) hc⟩
  | succ m ih =>
    intro i σ i0 g hR hF
    have zq := (hR.pool hq.1 hq.2).sz
    have ep : σ (b + 6) (161 * p) = σ0 (b + 6) (161 * p) := hF.oth hpo _ (by omega) (by omega)
    refine v_X12_multiplies_23 hM.1 (M_fpool hM) (by omega) ?_
    rw [ixm hq.1 hq.2]
    refine ⟨pix hM hq (by omega) (by omega), fun _ y e => nx y σ hR hF e, fun hc => ⟨fun _ y e => nx y σ hR hF e, fun _ => ?_⟩⟩
    rw [ixm hp.1 hp.2, ixk hp.1 hp.2 h5 (by omega), ixk hq.1 hq.2 i0 (by omega), ixn hp.1 hp.2 h5 (by omega), ixn hq.1 hq.2 i0 (by omega)]
    refine ⟨pix hM hp (by omega) (by omega), pix hM hq (by omega) (by omega), R_kt (o := o) hM hR (hR.key hp h5 (by omega)) (hR.key hq i0 (by omega)) (by omega) fun v4 σ3 hR3 hF3 hv => ⟨fun hb => ⟨pix hM hp (by omega) (by omega), pix hM hq (by omega) (by omega), fun y5 _ => ?_⟩, fun _ => h σ3 hR3 (hF.tr hF3)⟩⟩
    have F3 := hF.tr hF3
    have k4 := hv hb
    have put : ∀ (w : Int) (τ : Mem), RI ω τ b → FA o σ0 τ b → CI l mX12_puts (d - 1) [(2, b), (0, o), (0, v4), (1, w)] N Λ τ (fun v7 σ6 => (∀ y8, y8 = addI i 1 → WV l mX12_multiplies d P 23 [(2, b), (0, p), (0, q), (0, s), (0, o), (0, x5), (0, y8), (3, 0), (3, 0), (3, 0)] [] N Λ σ6)) := fun w τ hτ fτ => R_puts hM hτ ho.1 ho.2 k4 (by omega) fun v7 σ6 hR6 hF6 y8 e8 => by
      rw [e8, addI_e (by omega) (by omega)]
      exact ih (i + 1) σ6 (by omega) (by omega) hR6 (fτ.tr hF6)
    exact ⟨fun _ => ⟨fun hb' => absurd hb hb', fun _ τ9 e9 => put _ τ9 (hR3.bad e9) (F3.tr (FA.bd e9))⟩, fun _ => ⟨fun _ => ⟨fun hb' => absurd hb hb', fun _ τ9 e9 => put _ τ9 (hR3.bad e9) (F3.tr (FA.bd e9))⟩, fun _ => put _ σ3 hR3 F3⟩⟩
theorem mu3 {P : Mem → Prop} {p q s : Int} {σ0 : Mem} (hM : ModL N Λ b) (hR0 : RI ω σ0 b) (hp : 0 ≤ p ∧ p < 196) (hq : 0 ≤ q ∧ q < 196) (ho : 0 ≤ o ∧ o < 196) (hpo : p ≠ o) (hqo : q ≠ o) (hd : 4 ≤ d) (h : ∀ σ', RI ω σ' b → FA o σ0 σ' b → P σ') : ∀ (m : Nat) (i : Int) (σ : Mem), 0 ≤ i → (80 - i).toNat ≤ m → RI ω σ b → FA o σ0 σ b → WV l mX12_multiplies d P 3 [(2, b), (0, p), (0, q), (0, s), (0, o), (0, i), (3, 0), (3, 0), (3, 0), (3, 0)] [] N Λ σ := by
  have zp := (hR0.pool hp.1 hp.2).sz
  intro m
  induction m with
  | zero =>
    intro i σ i0 g hR hF
    have ep : σ (b + 6) (161 * p) = σ0 (b + 6) (161 * p) := hF.oth hpo _ (by omega) (by omega)
    refine v_X12_multiplies_3 hM.1 (M_fpool hM) (by omega) ?_
    rw [ixm hp.1 hp.2]
    exact ⟨pix hM hp (by omega) (by omega), fun _ => h σ hR hF, fun hc => absurd (by omega) hc⟩
  | succ m ih =>
    intro i σ i0 g hR hF
    have ep : σ (b + 6) (161 * p) = σ0 (b + 6) (161 * p) := hF.oth hpo _ (by omega) (by omega)
    refine v_X12_multiplies_3 hM.1 (M_fpool hM) (by omega) ?_
    rw [ixm hp.1 hp.2]
    exact ⟨pix hM hp (by omega) (by omega), fun _ => h σ hR hF, fun hc => ⟨fun _ => h σ hR hF, fun _ => mu23 hM hR0 hp hq ho hpo hqo i0 (by omega) hd h (fun τ hτ fτ => ih (i + 1) τ (by omega) (by omega) hτ fτ) 80 0 σ (by decide) (by decide) hR hF⟩⟩
theorem R_mu {P : Mem → Prop} {p q s : Int} (hM : ModL N Λ b) (hR : RI ω σ b) (hp : 0 ≤ p ∧ p < 196) (hq : 0 ≤ q ∧ q < 196) (ho : 0 ≤ o ∧ o < 196) (hpo : p ≠ o) (hqo : q ≠ o) (hd : 4 ≤ d) (h : ∀ σ', RI ω σ' b → FA o σ σ' b → P σ') : CV l mX12_multiplies d [(2, b), (0, p), (0, q), (0, s), (0, o)] N Λ σ P :=
  c_X12_multiplies (v_X12_multiplies_0 (mu3 hM hR hp hq ho hpo hqo hd h 80 0 σ (by decide) (by decide) hR FA.rf))
end RK
