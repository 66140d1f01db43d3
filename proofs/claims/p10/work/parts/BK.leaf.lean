/-! the reference: small methods on any object -/
theorem cl_p {x y : Int} (h : cmpL x y < 0) : x < y := cmpL_lt.mp h
theorem cl_n {x y : Int} (h : ¬ (cmpL x y < 0)) : y ≤ x := by
  have : ¬ x < y := fun z => h (cmpL_lt.mpr z)
  omega
theorem cg_p {x y : Int} (h : 0 < cmpL x y) : y < x := cmpL_gt.mp h
theorem cg_n {x y : Int} (h : ¬ (0 < cmpL x y)) : x ≤ y := by
  have : ¬ y < x := fun z => h (cmpL_gt.mpr z)
  omega
theorem ce_p {x y : Int} (h : cmpL x y = 0) : x = y := cmpL_0.mp h
theorem ce_n {x y : Int} (h : ¬ cmpL x y = 0) : ¬ x = y := fun z => h (cmpL_0.mpr z)
section KL
variable {l : Launch} {d N : Nat} {Λ : Lay} {ω σ : Mem} {b : Int}
theorem RI.lb (h : RI ω σ b) (j : Int) : 0 ≤ σ (b + 2) j ∧ σ (b + 2) j ≤ 9 := by
  have := LtT_b 120 j
  rw [h.lt]
  omega
theorem RI.byt (h : RI ω σ b) (j : Int) : -128 ≤ σ (b + 15) j ∧ σ (b + 15) j ≤ 127 := (h.ok (b + 15) j).2.2.2 rfl
theorem RI.d5 (h : RI ω σ b) : 0 ≤ σ b 5 ∧ σ b 5 ≤ 10 := ((h.ok b 5).1 rfl).1 rfl
theorem RI.d19 (h : RI ω σ b) : 0 ≤ σ b 19 ∧ σ b 19 ≤ 300 := ((h.ok b 19).1 rfl).2.1 rfl
theorem RI.d20 (h : RI ω σ b) : 0 ≤ σ b 20 ∧ σ b 20 ≤ 300 := ((h.ok b 20).1 rfl).2.2.1 rfl
theorem RI.d28 (h : RI ω σ b) : 0 ≤ σ b 28 ∧ σ b 28 ≤ 4 := ((h.ok b 28).1 rfl).2.2.2 rfl
theorem RI.frk {j : Int} (h : RI ω σ b) : 0 ≤ σ (b + 17) j ∧ σ (b + 17) j ≤ 120 := (h.ok (b + 17) j).2.1 (Or.inr (Or.inr rfl))
theorem RI.fo {τ : Mem} {j v : Int} (h : RI ω σ b) (e : τ = st σ b j v) (hj : j ≠ 5 ∧ j ≠ 19 ∧ j ≠ 20 ∧ j ≠ 28) : RI ω τ b := h.sto e (RO.o hj)
theorem RI.fb {τ : Mem} {j v : Int} (h : RI ω σ b) (e : τ = st σ b j v) (h5 : j = 5 → 0 ≤ v ∧ v ≤ 10) (h19 : j = 19 → 0 ≤ v ∧ v ≤ 300) (h20 : j = 20 → 0 ≤ v ∧ v ≤ 300) (h28 : j = 28 → 0 ≤ v ∧ v ≤ 4) : RI ω τ b :=
  h.sto e ⟨fun _ => ⟨h5, h19, h20, h28⟩, fun e => by omega, fun e => by omega, fun e => by omega⟩
theorem RI.f5 {τ : Mem} {v : Int} (h : RI ω σ b) (e : τ = st σ b 5 v) (hv : 0 ≤ v ∧ v ≤ 10) : RI ω τ b := h.fb e (fun _ => hv) (fun z => absurd z (by decide)) (fun z => absurd z (by decide)) (fun z => absurd z (by decide))
theorem RI.f19 {τ : Mem} {v : Int} (h : RI ω σ b) (e : τ = st σ b 19 v) (hv : 0 ≤ v ∧ v ≤ 300) : RI ω τ b := h.fb e (fun z => absurd z (by decide)) (fun _ => hv) (fun z => absurd z (by decide)) (fun z => absurd z (by decide))
theorem RI.f20 {τ : Mem} {v : Int} (h : RI ω σ b) (e : τ = st σ b 20 v) (hv : 0 ≤ v ∧ v ≤ 300) : RI ω τ b := h.fb e (fun z => absurd z (by decide)) (fun z => absurd z (by decide)) (fun _ => hv) (fun z => absurd z (by decide))
theorem RI.f28 {τ : Mem} {v : Int} (h : RI ω σ b) (e : τ = st σ b 28 v) (hv : 0 ≤ v ∧ v ≤ 4) : RI ω τ b := h.fb e (fun z => absurd z (by decide)) (fun z => absurd z (by decide)) (fun z => absurd z (by decide)) (fun _ => hv)
theorem RI.ax {τ : Mem} {c j v : Int} (h : RI ω σ b) (e : τ = st σ c j v) (hc : c = b + 16 ∨ c = b + 18 ∨ c = b + 19 ∨ c = b + 22) : RI ω τ b := h.sto e (RO.x (by omega))
theorem FA.em {τ : Mem} {p : Int} (e : τ = st σ (b + 6) (161 * p) 0) : FA p σ τ b := ⟨fun j _ => by rw [e, st_ne (by omega)], fun c g0 g1 => by rw [e, st_ne (by omega)], fun j hj => by rw [e, st_nj (by omega)]⟩
/-- what working out leaves as it was: all fields but one, and the cells behind -/
def FW (σ σ' : Mem) (b : Int) : Prop := (∀ j, j ≠ 8 → σ' b j = σ b j) ∧ ∀ c, b + 14 ≤ c → σ' c = σ c
theorem FW.rf : FW σ σ b := ⟨fun _ _ => rfl, fun _ _ => rfl⟩
theorem FW.tr {σ1 σ2 : Mem} (h : FW σ σ1 b) (h1 : FW σ1 σ2 b) : FW σ σ2 b := ⟨fun j hj => (h1.1 j hj).trans (h.1 j hj), fun c g => (h1.2 c g).trans (h.2 c g)⟩
theorem FA.w {o : Int} {σ1 : Mem} (h : FA o σ σ1 b) : FW σ σ1 b := ⟨h.1, fun c g => h.2.1 c (by omega) (Or.inr g)⟩
theorem FW.s {τ : Mem} {c j v : Int} (e : τ = st σ c j v) (h : b + 7 ≤ c ∧ c < b + 14) : FW σ τ b := ⟨fun j' _ => by rw [e, st_ne (by omega)], fun c' g => by rw [e, st_ne (by omega)]⟩
theorem K_many {P : Int → Mem → Prop} {p : Int} (hM : ModL N Λ b) (hR : RI ω σ b) (hp : 0 ≤ p ∧ p < 196) (h : ∀ v, v = σ (b + 6) (161 * p) → 0 ≤ v ∧ v ≤ 80 → P v σ) : CI l mX12_many d [(2, b), (0, p)] N Λ σ P := by
  have z := (hR.pool hp.1 hp.2).sz
  refine c_X12_many (v_X12_many_0 hM.1 (M_fpool hM) ?_)
  rw [ixm hp.1 hp.2]
  exact ⟨pix hM hp (by omega) (by omega), h _ rfl z⟩
theorem K_key {P : Int → Mem → Prop} {p i : Int} (hM : ModL N Λ b) (hR : RI ω σ b) (hp : 0 ≤ p ∧ p < 196) (hi : 0 ≤ i ∧ i < σ (b + 6) (161 * p)) (h : ∀ v, 0 ≤ v ∧ v < 214358881 → P v σ) : CI l mX12_key d [(2, b), (0, p), (0, i)] N Λ σ P := by
  have z := (hR.pool hp.1 hp.2).sz
  refine c_X12_key (v_X12_key_0 hM.1 (M_fpool hM) ?_)
  rw [ixm hp.1 hp.2, ixk hp.1 hp.2 hi.1 (by omega)]
  exact ⟨pix hM hp (by omega) (by omega), h _ (hR.key hp hi.1 hi.2)⟩
theorem K_number {P : Int → Mem → Prop} {p i : Int} (hM : ModL N Λ b) (hR : RI ω σ b) (hp : 0 ≤ p ∧ p < 196) (hi : 0 ≤ i ∧ i < σ (b + 6) (161 * p)) (h : ∀ v, ¬ v = 0 → P v σ) : CI l mX12_number d [(2, b), (0, p), (0, i)] N Λ σ P := by
  have z := (hR.pool hp.1 hp.2).sz
  refine c_X12_number (v_X12_number_0 hM.1 (M_fpool hM) ?_)
  rw [ixm hp.1 hp.2, ixn hp.1 hp.2 hi.1 (by omega)]
  exact ⟨pix hM hp (by omega) (by omega), h _ ((hR.pool hp.1 hp.2).ky hi.1 hi.2).2.2⟩
theorem K_empties {P : Mem → Prop} {p : Int} (hM : ModL N Λ b) (hR : RI ω σ b) (hp : 0 ≤ p ∧ p < 196) (h : ∀ σ', RI ω σ' b → FA p σ σ' b → P σ') : CV l mX12_empties d [(2, b), (0, p)] N Λ σ P := by
  refine c_X12_empties (v_X12_empties_0 hM.1 (M_fpool hM) ?_)
  rw [ixm hp.1 hp.2]
  exact ⟨pix hM hp (by omega) (by omega), fun τ e => h τ (hR.em hp.1 hp.2 e) (FA.em e)⟩
theorem K_takes {P : Mem → Prop} {s p : Int} (hM : ModL N Λ b) (hR : RI ω σ b) (hs : 0 ≤ s ∧ s < 6) (hp : 0 ≤ p ∧ p < 196) (hd : 1 ≤ d) (h : ∀ σ', RI ω σ' b → FA p σ σ' b → P σ') : CV l mX12_takes d [(2, b), (0, s), (0, p)] N Λ σ P := by
  refine c_X12_takes (v_X12_takes_0 hM.1 (M_fstate hM) (M_fpool hM) hd ?_)
  have hv := hR.stt (k := 0) (s := s) (by decide) (by decide) hs.1 hs.2
  rw [show 1116 * 0 + 161 * s = 161 * s by omega] at hv
  have q := hR.cpp (τ := cpM σ (b + 3) (161 * s) (b + 6) (161 * p) 161) hv hp.1 hp.2 rfl
  have e1 : mulI 161 s = 161 * s := mulI_e (by omega) (by omega)
  have e2 : mulI 161 p = 161 * p := mulI_e (by omega) (by omega)
  rw [e1, e2]
  exact k_copies (M_state hM) (M_pool hM) (by omega) (by omega) (by decide) (by omega) (by omega) (by decide) (by decide) (Or.inl (by omega)) (h _ q.1 q.2)
theorem K_copiesRow {P : Mem → Prop} {p q : Int} (hM : ModL N Λ b) (hR : RI ω σ b) (hp : 0 ≤ p ∧ p < 196) (hq : 0 ≤ q ∧ q < 196) (hn : p ≠ q) (hd : 1 ≤ d) (h : ∀ σ', RI ω σ' b → FA q σ σ' b → P σ') : CV l mX12_copiesRow d [(2, b), (0, p), (0, q)] N Λ σ P := by
  refine c_X12_copiesRow (v_X12_copiesRow_0 hM.1 (M_fpool hM) hd ?_)
  have z := hR.cpp (τ := cpM σ (b + 6) (161 * p) (b + 6) (161 * q) 161) (hR.pool hp.1 hp.2) hq.1 hq.2 rfl
  have e1 : mulI 161 p = 161 * p := mulI_e (by omega) (by omega)
  have e2 : mulI 161 q = 161 * q := mulI_e (by omega) (by omega)
  rw [e1, e2]
  exact k_copies (M_pool hM) (M_pool hM) (by omega) (by omega) (by decide) (by omega) (by omega) (by decide) (by decide) (Or.inr (by omega)) (h _ z.1 z.2)
theorem K_begins {P : Mem → Prop} (hM : ModL N Λ b) (hR : RI ω σ b) (hd : 1 ≤ d) (h : ∀ σ', RI ω σ' b → FA 0 σ σ' b → σ' b 8 = 0 ∧ σ' (b + 6) (161 * 0) = 0 → P σ') : CV l mX12_begins d [(2, b)] N Λ σ P := by
  refine c_X12_begins (v_X12_begins_0 hM.1 (M_fpool hM) hd fun τ1 e1 => ?_)
  rw [show mulI 161 0 = 161 * 0 from ixm (by decide) (by decide)]
  refine ⟨pix (p := 0) hM (by decide) (by decide) (by decide), fun τ2 e2 => h τ2 ((hR.bad e1).em (by decide) (by decide) e2) ((FA.bd e1).tr (FA.em e2)) ⟨?_, ?_⟩⟩
  · rw [e2, st_ne (by omega), e1, st_eq]
  · rw [e2, st_eq]
theorem K_notes {P : Mem → Prop} (hM : ModL N Λ b) (hR : RI ω σ b) (hd : 1 ≤ d) (h : ∀ σ', RI ω σ' b → (∀ c, c ≠ b → c ≠ b + 4 → σ' c = σ c) → P σ') : CV l mX12_notes d [(2, b)] N Λ σ P := by
  have z := hR.d5
  refine c_X12_notes (v_X12_notes_0 hM.1 (M_fstate hM) (M_fdeeds hM) hd ⟨fun q => ?_, fun q => ?_⟩)
  · rw [mulI_e (x := 1116) (y := σ b 5) (by omega) (by omega)]
    refine k_copies (M_state hM) (M_deeds hM) (by decide) (by omega) (by decide) (by decide) (by omega) (by decide) (by decide) (Or.inl (by omega)) fun τ2 e2 => ?_
    have R1 : RI ω (cpM σ (b + 3) 0 (b + 4) (1116 * σ b 5) 1116) b := hR.cpd (k := σ b 5) ⟨z.1, by omega⟩ rfl
    have e5 : cpM σ (b + 3) 0 (b + 4) (1116 * σ b 5) 1116 b 5 = σ b 5 := by rw [cpM_ne (by omega)]
    rw [e5, addI_e (by omega) (by omega)] at e2
    exact h τ2 (R1.f5 e2 (by omega)) (fun c h0 h1 => by rw [e2, st_ne h0, cpM_ne h1])
  · refine k_copies (M_deeds hM) (M_deeds hM) (by decide) (by decide) (by decide) (by decide) (by decide) (by decide) (by decide) (Or.inr (Or.inl (by decide))) fun τ4 e4 => ?_
    have R1 : RI ω (cpM σ (b + 4) 1116 (b + 4) 0 10044) b := hR.cpm rfl
    have e5 : cpM σ (b + 4) 1116 (b + 4) 0 10044 b 5 = σ b 5 := by rw [cpM_ne (by omega)]
    rw [e5, q, show subI 10 1 = 9 by decide] at e4
    have R4 := R1.f5 e4 (by decide)
    have v4 : τ4 b 5 = 9 := by rw [e4, st_eq]
    rw [v4, show mulI 1116 9 = 1116 * 9 by decide]
    refine k_copies (M_state hM) (M_deeds hM) (by decide) (by decide) (by decide) (by decide) (by decide) (by decide) (by decide) (Or.inl (by omega)) fun τ6 e6 => ?_
    have R5 : RI ω (cpM τ4 (b + 3) 0 (b + 4) (1116 * 9) 1116) b := R4.cpd (k := 9) (by decide) rfl
    have e7 : cpM τ4 (b + 3) 0 (b + 4) (1116 * 9) 1116 b 5 = 9 := by rw [cpM_ne (by omega), v4]
    rw [e7, show addI 9 1 = 10 by decide] at e6
    exact h τ6 (R5.f5 e6 (by decide)) (fun c h0 h1 => by rw [e6, st_ne h0, cpM_ne h1, e4, st_ne h0, cpM_ne h1])
theorem K_becomes {P : Int → Mem → Prop} {s : Int} (hM : ModL N Λ b) (hR : RI ω σ b) (hs : 0 ≤ s ∧ s < 6) (hd : 2 ≤ d) (h : ∀ v σ', RI ω σ' b → v = σ (b + 6) (161 * 0) → P v σ') : CI l mX12_becomes d [(2, b), (0, s)] N Λ σ P := by
  refine c_X12_becomes (u_X12_becomes_0 hM.1 (M_fpool hM) (M_fstate hM) (by omega) (K_notes hM hR (by omega) fun σ1 R1 F1 => ?_))
  rw [show mulI 161 s = 161 * s from mulI_e (by omega) (by omega)]
  have R2 : RI ω (cpM σ1 (b + 6) 0 (b + 3) (161 * s) 161) b := R1.cp1 hs rfl
  refine k_copies (M_pool hM) (M_state hM) (by decide) (by omega) (by decide) (by decide) (by omega) (by decide) (by decide) (Or.inl (by omega)) (K_many hM R2 (by decide) fun v ev _ => h v _ R2 ?_)
  rw [ev, cpM_ne (by omega), F1 _ (by omega) (by omega)]
theorem K_codeOf {P : Int → Mem → Prop} {x : Int} (h : ∀ v, ¬ v = 0 → P v σ) : CI l mX12_codeOf d [(2, b), (0, x)] N Λ σ P :=
  c_X12_codeOf (v_X12_codeOf_0 ⟨fun _ => h _ (by decide), fun _ => h _ (by decide)⟩)
theorem K_ends {P : Int → Mem → Prop} {s : Int} (hM : ModL N Λ b) (hR : RI ω σ b) (hs : 0 ≤ s ∧ s < 6) (hd : 3 ≤ d) (h : ∀ v σ', RI ω σ' b → P v σ') : CI l mX12_ends d [(2, b), (0, s)] N Λ σ P :=
  c_X12_ends (u_X12_ends_0 hM.1 (by omega) fun τ1 e1 => ⟨fun _ => K_codeOf fun v _ => h _ _ (hR.fo e1 (by decide)), fun _ => K_becomes hM (hR.fo e1 (by decide)) hs (by omega) fun v σ' R' _ => h _ _ R'⟩)
theorem K_refused {P : Int → Mem → Prop} {x : Int} (hM : ModL N Λ b) (hR : RI ω σ b) (h : ∀ σ', RI ω σ' b → P x σ') : CI l mX12_refused d [(2, b), (0, x)] N Λ σ P :=
  c_X12_refused (v_X12_refused_0 hM.1 fun τ1 e1 => h _ (hR.fo e1 (by decide)))
theorem K_rankIn {P : Int → Mem → Prop} {x i : Int} (hx : 0 ≤ x ∧ x < 214358881) (hi : 0 ≤ i ∧ i ≤ 3) (h : ∀ v, v = rkI x i → 0 ≤ v ∧ v ≤ 120 → P v σ) : CI l mX12_rankIn d [(0, x), (0, i)] N Λ σ P := R_rk hx hi (h _ rfl rkI_b)
theorem K_degreeOf {P : Int → Mem → Prop} {x : Int} (hx : 0 ≤ x ∧ x < 214358881) (hd : 1 ≤ d) (h : ∀ v, v = dgI x → 0 ≤ v ∧ v ≤ 4 → P v σ) : CI l mX12_degreeOf d [(0, x)] N Λ σ P := R_dg hx hd (h _ rfl dgI_b)
theorem K_breakOf {P : Int → Mem → Prop} {x y : Int} (hM : ModL N Λ b) (hx : 0 ≤ x ∧ x ≤ 120) (hy : 0 ≤ y ∧ y ≤ 120) (h : ∀ v, P v σ) : CI l mX12_breakOf d [(2, b), (0, x), (0, y)] N Λ σ P := R_bk hM hx hy (h _)
theorem K_brokenIn {P : Int → Mem → Prop} {x : Int} (hM : ModL N Λ b) (hx : 0 ≤ x ∧ x < 214358881) (hd : 2 ≤ d) (h : ∀ v, v = -1 ∨ (0 ≤ v ∧ v ≤ 2) → P v σ) : CI l mX12_brokenIn d [(2, b), (0, x)] N Λ σ P := by
  refine R_bi hM hx hd (h _ ?_)
  rcases biI_b (f := σ (b + 2)) (x := x) with q | q
  · exact Or.inl q
  · exact Or.inr q.1
theorem K_isBroken {P : Int → Mem → Prop} {x y : Int} (hM : ModL N Λ b) (hx : 0 ≤ x ∧ x ≤ 120) (hy : 0 ≤ y ∧ y ≤ 120) (hd : 1 ≤ d) (h : ∀ v, P v σ) : CI l mX12_isBroken d [(2, b), (0, x), (0, y)] N Λ σ P :=
  c_X12_isBroken (v_X12_isBroken_0 hM.1 hd (K_breakOf hM hx hy fun v => ⟨fun _ => h _, fun _ => h _⟩))
theorem K_factOf {P : Int → Mem → Prop} {x : Int} (hM : ModL N Λ b) (hx : 0 ≤ x ∧ x ≤ 120) (h : ∀ v, P v σ) : CI l mX12_factOf d [(2, b), (0, x)] N Λ σ P := by
  refine c_X12_factOf (v_X12_factOf_0 hM.1 (M_fstate hM) ?_)
  rw [addI_e (x := 996) (y := x) (by omega) (by omega), subI_e (x := 996 + x) (y := 1) (by omega) (by omega)]
  exact ⟨Ix.of (M_state hM) (by omega) (by omega), h _⟩
theorem K_keyOn {P : Int → Mem → Prop} {s i : Int} (hM : ModL N Λ b) (hR : RI ω σ b) (hs : 0 ≤ s ∧ s < 6) (hi : 0 ≤ i ∧ i < σ (b + 3) (161 * s)) (h : ∀ v, v = σ (b + 3) (161 * s + 1 + 2 * i) → 0 ≤ v ∧ v < 214358881 → P v σ) : CI l mX12_keyOn d [(2, b + 3), (0, s), (0, i)] N Λ σ P := by
  have hv := hR.stt (k := 0) (s := s) (by decide) (by decide) hs.1 hs.2
  rw [show 1116 * 0 + 161 * s = 161 * s by omega] at hv
  have z := hv.sz
  have hb := hM.1.1
  refine c_X12_keyOn (v_X12_keyOn_0 (by omega) ?_)
  rw [ixm (p := s) (by omega) (by omega), ixk (p := s) (by omega) (by omega) hi.1 (by omega)]
  exact ⟨Ix.of (M_state hM) (by omega) (by omega), h _ rfl (hv.ky hi.1 hi.2).1⟩
theorem K_modulo {P : Int → Mem → Prop} {x : Int} (h : ∀ v, P v σ) : CL l mX12_modulo d [(1, x)] N Λ σ P := c_X12_modulo (v_X12_modulo_0 (h _))
theorem K_fits {P : Int → Mem → Prop} {x y : Int} (h : ∀ v, P v σ) : CI l mX12_fits d [(1, x), (1, y)] N Λ σ P :=
  c_X12_fits (v_X12_fits_0 ⟨fun _ => h _, fun _ => ⟨fun q => ⟨fun _ => ⟨ce_n q, fun _ => h _, fun _ => h _⟩, fun _ => ⟨fun _ => h _, fun _ => h _⟩⟩, fun _ => h _⟩⟩)
theorem K_worthOf {P : Int → Mem → Prop} {x y z : Int} (hM : ModL N Λ b) (hx : 0 ≤ x ∧ x ≤ 9) (hy : 0 ≤ y ∧ y ≤ 9) (hz : 0 ≤ z ∧ z ≤ 9) (h : ∀ v, P v σ) : CI l mX12_worthOf d [(2, b), (0, x), (0, y), (0, z)] N Λ σ P := by
  refine c_X12_worthOf (v_X12_worthOf_0 hM.1 (M_fstate hM) fun y1 e1 y2 e2 y3 e3 => ?_)
  rw [mulI_e (by omega) (by omega), addI_e (by omega) (by omega)] at e1 e2 e3
  have ix : ∀ j : Int, 0 ≤ j → j < 3348 → Ix N Λ (b + 3) 0 j := fun j u0 u1 => Ix.of (M_state hM) u0 u1
  have a1 : addI y1 1 = y1 + 1 := addI_e (by omega) (by omega)
  have a2 : addI y1 2 = y1 + 2 := addI_e (by omega) (by omega)
  have b1 : addI y2 1 = y2 + 1 := addI_e (by omega) (by omega)
  have b2 : addI y2 2 = y2 + 2 := addI_e (by omega) (by omega)
  have c1 : addI y3 1 = y3 + 1 := addI_e (by omega) (by omega)
  have c2 : addI y3 2 = y3 + 2 := addI_e (by omega) (by omega)
  rw [a1, a2, b1, b2, c1, c2]
  exact ⟨ix _ (by omega) (by omega), ix _ (by omega) (by omega), ix _ (by omega) (by omega), ix _ (by omega) (by omega), ix _ (by omega) (by omega), ix _ (by omega) (by omega), ix _ (by omega) (by omega), ix _ (by omega) (by omega), ix _ (by omega) (by omega), ix _ (by omega) (by omega), ix _ (by omega) (by omega), ix _ (by omega) (by omega), ix _ (by omega) (by omega), ix _ (by omega) (by omega), ix _ (by omega) (by omega), h _⟩
theorem K_worthOfRank {P : Int → Mem → Prop} {x : Int} (hM : ModL N Λ b) (hR : RI ω σ b) (hx : 0 ≤ x ∧ x ≤ 120) (hd : 1 ≤ d) (h : ∀ v, P v σ) : CI l mX12_worthOfRank d [(2, b), (0, x)] N Λ σ P := by
  refine c_X12_worthOfRank (v_X12_worthOfRank_0 hM.1 (M_fletterOf hM) hd ?_)
  rw [mulI_e (x := 3) (y := x) (by omega) (by omega), addI_e (x := 3 * x) (y := 1) (by omega) (by omega), addI_e (x := 3 * x) (y := 2) (by omega) (by omega)]
  exact ⟨Ix.of (M_letterOf hM) (by omega) (by omega), Ix.of (M_letterOf hM) (by omega) (by omega), Ix.of (M_letterOf hM) (by omega) (by omega), K_worthOf hM (hR.lb _) (hR.lb _) (hR.lb _) fun v => h v⟩
/-- the rank of three letters -/
theorem ixR {x y z : Int} (hM : ModL N Λ b) (hx : 0 ≤ x ∧ x ≤ 9) (hy : 0 ≤ y ∧ y ≤ 9) (hz : 0 ≤ z ∧ z ≤ 9) : Ix N Λ (b + 1) 0 (addI (addI (mulI 100 x) (mulI 10 y)) z) := by
  rw [mulI_e (x := 100) (by omega) (by omega), mulI_e (x := 10) (by omega) (by omega), addI_e (x := 100 * x) (by omega) (by omega), addI_e (by omega) (by omega)]
  exact Ix.of (M_rankOf hM) (by omega) (by omega)
theorem rkb {x y z r : Int} (hR : RI ω σ b) (e : r = σ (b + 1) (addI (addI (mulI 100 x) (mulI 10 y)) z)) (hx : 0 ≤ x ∧ x ≤ 9) (hy : 0 ≤ y ∧ y ≤ 9) (hz : 0 ≤ z ∧ z ≤ 9) : -120 ≤ r ∧ r ≤ 120 := by
  have q := rkt hR hx hy hz
  rw [q.1] at e
  rw [e]
  exact q.2
/-- a letter as a place -/
theorem ixL {c n j : Int} (hR : RI ω σ b) (o : Ob N Λ c 0 n) (hn : 10 ≤ n) : Ix N Λ c 0 (σ (b + 2) j) := by
  have := hR.lb j
  exact Ix.of o this.1 (by omega)
theorem RI.srn {τ : Mem} {j v : Int} (h : RI ω σ b) (e : τ = st σ (b + 7) j (negI v)) (hv : -120 ≤ v ∧ v ≤ 120) (hn : ¬ (0 ≤ v)) : RI ω τ b := by
  rw [negI_e (by omega) (by omega)] at e
  exact h.srk e (by omega)
/-- a bracket is put to a row -/
theorem K_putsBracket {P : Mem → Prop} {x y z p : Int} (hM : ModL N Λ b) (hR : RI ω σ b) (hx : 0 ≤ x ∧ x ≤ 9) (hy : 0 ≤ y ∧ y ≤ 9) (hz : 0 ≤ z ∧ z ≤ 9) (hp : 0 ≤ p ∧ p < 196) (hd : 3 ≤ d) (h : ∀ σ', RI ω σ' b → FW σ σ' b → P σ') : CV l mX12_putsBracket d [(2, b), (0, x), (0, y), (0, z), (0, p)] N Λ σ P := by
  have ix : Ix N Λ (b + 7) 0 0 := Ix.of (M_ranks hM) (by decide) (by decide)
  refine c_X12_putsBracket (v_X12_putsBracket_0 hM.1 (M_frankOf hM) (M_franks hM) (by omega) ⟨ixR hM hx hy hz, fun y1 e1 => ?_⟩)
  have q := rkb hR e1 hx hy hz
  have go : ∀ τ, RI ω τ b → FW σ τ b → ((y1 = 0 → P τ) ∧ (¬ (y1 = 0) → (CI l mX12_keyOf (d - 1) [(2, b), (0, 1)] N Λ τ (fun v4 σ3 => ((0 ≤ y1 → (CI l mX12_puts (d - 1) [(2, b), (0, p), (0, v4), (1, 1)] N Λ σ3 (fun v6 σ5 => P σ5))) ∧ (¬ (0 ≤ y1) → (CI l mX12_puts (d - 1) [(2, b), (0, p), (0, v4), (1, (-1))] N Λ σ3 (fun v8 σ7 => P σ7)))))))) := fun τ Rτ Wτ => ⟨fun _ => h _ Rτ Wτ, fun _ => R_ko (o := 0) hM Rτ (by decide) fun v4 σ3 R3 A3 k4 => ⟨fun _ => R_puts hM R3 hp.1 hp.2 k4 (by omega) fun v6 σ5 R5 A5 => h _ R5 ((Wτ.tr A3.w).tr A5.w), fun _ => R_puts hM R3 hp.1 hp.2 k4 (by omega) fun v6 σ5 R5 A5 => h _ R5 ((Wτ.tr A3.w).tr A5.w)⟩⟩
  exact ⟨fun g => ⟨ix, fun τ2 e2 => go τ2 (hR.srk e2 (by omega)) (FW.s e2 (by omega))⟩, fun g => ⟨ix, fun τ2 e2 => go τ2 (hR.srn e2 q g) (FW.s e2 (by omega))⟩⟩
end KL
