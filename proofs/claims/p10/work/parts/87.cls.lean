def gPairs : Nat → Nat
  | 0 => 0
  | k + 1 => k + gPairs k
def gTriples : Nat → Nat
  | 0 => 0
  | k + 1 => gPairs k + gTriples k
section CL3
variable {l : Launch} {d N : Nat} {Λ : Lay} {σ : Mem} {t : Int}
theorem k_det0 {P : Int → Mem → Prop} {c x y z : Int} (hS : StateL N Λ c) (hz : ∀ j : Int, 0 ≤ j → j < 30 → σ (c + 2) j = 0) (hx : 0 ≤ x ∧ x < 10) (hy : 0 ≤ y ∧ y < 10) (hzz : 0 ≤ z ∧ z < 10) (h : P 0 σ) : CI l mX7_determinant d [(2, c), (0, x), (0, y), (0, z)] N Λ σ P := by
  have op := hS.2.2.2.2.2.1
  refine c_X7_determinant (v_X7_determinant_0 hS.1 hS.2.2.1 fun y1 e1 y2 e2 y3 e3 => ?_)
  rw [mulI_e (by omega) (by omega)] at e1 e2 e3
  have a1 : addI y1 1 = y1 + 1 := addI_e (by omega) (by omega)
  have a2 : addI y1 2 = y1 + 2 := addI_e (by omega) (by omega)
  have b1 : addI y2 1 = y2 + 1 := addI_e (by omega) (by omega)
  have b2 : addI y2 2 = y2 + 2 := addI_e (by omega) (by omega)
  have c1 : addI y3 1 = y3 + 1 := addI_e (by omega) (by omega)
  have c2 : addI y3 2 = y3 + 2 := addI_e (by omega) (by omega)
  rw [a1, a2, b1, b2, c1, c2]
  clear a1 a2 b1 b2 c1 c2
  have ix : ∀ j : Int, 0 ≤ j → j < 30 → Ix N Λ (c + 2) 0 j := fun j g0 g1 => Ix.of op g0 g1
  refine ⟨ix _ (by omega) (by omega), ix _ (by omega) (by omega), ix _ (by omega) (by omega), ix _ (by omega) (by omega), ix _ (by omega) (by omega), ix _ (by omega) (by omega), ix _ (by omega) (by omega), ix _ (by omega) (by omega), ix _ (by omega) (by omega), ix _ (by omega) (by omega), ix _ (by omega) (by omega), ix _ (by omega) (by omega), ix _ (by omega) (by omega), ix _ (by omega) (by omega), ix _ (by omega) (by omega), ?_⟩
  rw [hz y1 (by omega) (by omega), hz (y1 + 1) (by omega) (by omega), hz (y1 + 2) (by omega) (by omega), hz y2 (by omega) (by omega), hz (y2 + 1) (by omega) (by omega), hz (y2 + 2) (by omega) (by omega), hz y3 (by omega) (by omega), hz (y3 + 1) (by omega) (by omega), hz (y3 + 2) (by omega) (by omega)]
  exact h
theorem bw25 {P : Int → Mem → Prop} {c : Int} (hS : StateL N Λ c) (hz : ∀ j : Int, 0 ≤ j → j < 30 → σ (c + 2) j = 0) (hd : 1 ≤ d) {a b : Int} (ha : 0 ≤ a ∧ a < 10) (hb : 0 ≤ b ∧ b < 10) : ∀ (m : Nat) (i x1 : Int), i + m = 10 → 0 ≤ i → 0 ≤ x1 → x1 + m ≤ 1000 →
    WI l mX7_bracketsWorthZero d P 14 [(2, c), (0, x1 + m), (0, a), (0, b + 1), (3, 0)] [] N Λ σ → WI l mX7_bracketsWorthZero d P 25 [(2, c), (0, x1), (0, a), (0, b), (0, i)] [] N Λ σ := by
  intro m
  induction m with
  | zero =>
    intro i x1 h1 h2 h3 h4 K
    refine v_X7_bracketsWorthZero_25 hS.1 hd ⟨fun _ y1 e1 => ?_, fun hc => by omega⟩
    rw [e1, addI_e (by omega) (by omega)]
    rw [show x1 + ((0 : Nat) : Int) = x1 by omega] at K
    exact K
  | succ m ih =>
    intro i x1 h1 h2 h3 h4 K
    refine v_X7_bracketsWorthZero_25 hS.1 hd ⟨fun hc => by omega, fun hc => k_det0 hS hz ha hb ⟨h2, by omega⟩ ⟨fun hn => absurd rfl hn, fun _ y5 e5 y6 e6 => ?_⟩⟩
    rw [e5, e6, addI_e (by omega) (by omega), addI_e (by omega) (by omega)]
    refine ih (i + 1) (x1 + 1) (by omega) (by omega) (by omega) (by omega) ?_
    rw [show x1 + 1 + (m : Int) = x1 + ((m + 1 : Nat) : Int) by omega]
    exact K
theorem bw14 {P : Int → Mem → Prop} {c : Int} (hS : StateL N Λ c) (hz : ∀ j : Int, 0 ≤ j → j < 30 → σ (c + 2) j = 0) (hd : 1 ≤ d) {a : Int} (ha : 0 ≤ a ∧ a < 10) : ∀ (m : Nat) (i x1 : Int), i + m = 10 → 0 ≤ i → 0 ≤ x1 → x1 + gPairs m ≤ 900 →
    WI l mX7_bracketsWorthZero d P 4 [(2, c), (0, x1 + gPairs m), (0, a + 1), (3, 0), (3, 0)] [] N Λ σ → WI l mX7_bracketsWorthZero d P 14 [(2, c), (0, x1), (0, a), (0, i), (3, 0)] [] N Λ σ := by
  intro m
  induction m with
  | zero =>
    intro i x1 h1 h2 h3 h4 K
    refine v_X7_bracketsWorthZero_14 ⟨fun _ y1 e1 => ?_, fun hc => by omega⟩
    rw [e1, addI_e (by omega) (by omega)]
    rw [show x1 + ((gPairs 0 : Nat) : Int) = x1 from Int.add_zero x1] at K
    exact K
  | succ m ih =>
    intro i x1 h1 h2 h3 h4 K
    have e : gPairs (m + 1) = m + gPairs m := rfl
    rw [e] at h4 K
    refine v_X7_bracketsWorthZero_14 ⟨fun hc => by omega, fun hc y2 e2 => ?_⟩
    rw [e2, addI_e (by omega) (by omega)]
    refine bw25 hS hz hd ha ⟨h2, by omega⟩ m (i + 1) x1 (by omega) (by omega) h3 (by omega) ?_
    refine ih (i + 1) (x1 + m) (by omega) (by omega) (by omega) (by omega) ?_
    rw [show x1 + (m : Int) + (gPairs m : Int) = x1 + ((m + gPairs m : Nat) : Int) by omega]
    exact K
theorem bw4 {P : Int → Mem → Prop} {c : Int} (hS : StateL N Λ c) (hz : ∀ j : Int, 0 ≤ j → j < 30 → σ (c + 2) j = 0) (hd : 1 ≤ d) : ∀ (m : Nat) (i x1 : Int), i + m = 10 → 0 ≤ i → 0 ≤ x1 → x1 + gTriples m ≤ 800 →
    P (x1 + gTriples m) σ → WI l mX7_bracketsWorthZero d P 4 [(2, c), (0, x1), (0, i), (3, 0), (3, 0)] [] N Λ σ := by
  intro m
  induction m with
  | zero =>
    intro i x1 h1 h2 h3 h4 K
    rw [show x1 + ((gTriples 0 : Nat) : Int) = x1 from Int.add_zero x1] at K
    exact v_X7_bracketsWorthZero_4 ⟨fun _ => K, fun hc => by omega⟩
  | succ m ih =>
    intro i x1 h1 h2 h3 h4 K
    have e : gTriples (m + 1) = gPairs m + gTriples m := rfl
    rw [e] at h4 K
    refine v_X7_bracketsWorthZero_4 ⟨fun hc => by omega, fun hc y1 e1 => ?_⟩
    rw [e1, addI_e (by omega) (by omega)]
    refine bw14 hS hz hd ⟨h2, by omega⟩ m (i + 1) x1 (by omega) (by omega) h3 (by omega) ?_
    refine ih (i + 1) (x1 + gPairs m) (by omega) (by omega) (by omega) (by omega) ?_
    rw [show x1 + (gPairs m : Int) + (gTriples m : Int) = x1 + ((gPairs m + gTriples m : Nat) : Int) by omega]
    exact K
theorem k_bw {P : Int → Mem → Prop} {c : Int} (hS : StateL N Λ c) (hz : ∀ j : Int, 0 ≤ j → j < 30 → σ (c + 2) j = 0) (hd : 1 ≤ d) (h : P 120 σ) : CI l mX7_bracketsWorthZero d [(2, c)] N Λ σ P :=
  c_X7_bracketsWorthZero (v_X7_bracketsWorthZero_0 (bw4 hS hz hd 10 0 0 (by decide) (by decide) (by decide) (by decide) h))
theorem al_lp {P : Int → Mem → Prop} {c : Int} (hS : StateL N Λ c) (hz : ∀ s : Int, 0 ≤ s → s < 6 → σ (c + 4 + 3 * s) 2 = 0) (h : P 0 σ) : ∀ (m : Nat) (i : Int), 0 ≤ i → (6 - i).toNat ≤ m → WI l mX7_allTerms d P 4 [(2, c), (0, 0), (0, i)] [] N Λ σ := by
  intro m
  induction m with
  | zero => intro i h0 h1; exact v_X7_allTerms_4 hS.1 hS.2.1 ⟨fun _ => h, fun hc => by omega⟩
  | succ m ih =>
    intro i h0 h1
    refine v_X7_allTerms_4 hS.1 hS.2.1 ⟨fun _ => h, fun hc => ⟨Ix.of hS.2.2.2.2.1 h0 (by omega), fun b1 e1 => ?_⟩⟩
    have z := hS.2.2.2.2.2.2.2 i h0 (by omega)
    rw [z.1] at e1
    subst e1
    refine ⟨z.2.1, fun y2 e2 y3 e3 => ?_⟩
    rw [hz i h0 (by omega)] at e2
    rw [show y2 = 0 from e2.trans (by decide), e3, addI_e (by omega) (by omega)]
    exact ih (i + 1) (by omega) (by omega)
theorem fa_lp {P : Int → Mem → Prop} {c v : Int} (hS : StateL N Λ c) (hz : ∀ j : Int, 0 ≤ j → j < 120 → σ (c + 3) j = 2) (hv : v ≠ 2) (h : P 0 σ) : ∀ (m : Nat) (i : Int), 0 ≤ i → (120 - i).toNat ≤ m → WI l mX7_factsThatAre d P 4 [(2, c), (0, v), (0, 0), (0, i)] [] N Λ σ := by
  intro m
  induction m with
  | zero => intro i h0 h1; exact v_X7_factsThatAre_4 hS.1 hS.2.2.2.1 ⟨fun _ => h, fun hc => by omega⟩
  | succ m ih =>
    intro i h0 h1
    refine v_X7_factsThatAre_4 hS.1 hS.2.2.2.1 ⟨fun _ => h, fun hc => ⟨Ix.of hS.2.2.2.2.2.2.1 h0 (by omega), fun _ y1 e1 => ?_, fun hc2 => ?_⟩⟩
    · rw [e1, addI_e (by omega) (by omega)]
      exact ih (i + 1) (by omega) (by omega)
    · rw [hz i h0 (by omega)] at hc2
      exact absurd hc2.symm hv
def an_count (w : Int) : Int := if w = 5 then 120 else if 0 ≤ w ∧ w ≤ 4 then 0 else -1
theorem kd_count {P : Int → Mem → Prop} {w : Int} (hL : DeskL N Λ t) (h0 : Desk0 σ t) (hd : 3 ≤ d) (h : ∀ σ', FrD σ σ' t → P (an_count w) σ') : CI l mX11_count d [(2, t), (0, w)] N Λ σ P := by
  obtain ⟨o, hR, hS, hH, hI, hMd, hT, hSt, hFi, hFo, hE, hFa, hTm, hW, hOt, hS1, hS2⟩ := id hL
  have K := h σ FrD.rf
  have K0 : ∀ w', w = w' → 0 ≤ w' → w' ≤ 4 → P 0 σ := fun w' e g0 g1 => by unfold an_count at K; rw [if_neg (by omega), if_pos (by omega)] at K; exact K
  refine c_X11_count (v_X11_count_0 o hR.1 hS.1 hR.2.2.2.2.1 hT.1 hR.2.1 hH.1 (by omega) ⟨fun hc => ?_, fun e => ?_, fun e => ?_, fun e => ?_, fun e => ?_, fun e => ?_, fun e => ?_⟩)
  · unfold an_count at K; rw [if_neg (by omega), if_neg (by omega)] at K; exact K
  · exact c_X7_allTerms (v_X7_allTerms_0 (al_lp hS (fun s g0 g1 => (h0.1.1 s g0 g1).1) (K0 0 e (by decide) (by decide)) 6 0 (by decide) (by decide)))
  · exact c_X7_factsThatAre (v_X7_factsThatAre_0 (fa_lp hS h0.1.2.2 (by decide) (K0 1 e (by decide) (by decide)) 120 0 (by decide) (by decide)))
  · exact c_X7_factsThatAre (v_X7_factsThatAre_0 (fa_lp hS h0.1.2.2 (by decide) (K0 2 e (by decide) (by decide)) 120 0 (by decide) (by decide)))
  · rw [h0.2.2.2.1.1]; exact K0 3 e (by decide) (by decide)
  · rw [h0.2.1.1]; exact K0 4 e (by decide) (by decide)
  · refine k_bw hS h0.1.2.1 (by omega) ?_
    unfold an_count at K; rw [if_pos e] at K; exact K
theorem kd_forms {P : Int → Mem → Prop} {s : Int} (hL : DeskL N Λ t) (h0 : Desk0 σ t) (hd : 2 ≤ d) (h : ∀ σ', FrD σ σ' t → P (an2 s (-1)) σ') : CI l mX11_forms d [(2, t), (0, s)] N Λ σ P := by
  obtain ⟨o, hR, hS, hH, hI, hMd, hT, hSt, hFi, hFo, hE, hFa, hTm, hW, hOt, hS1, hS2⟩ := id hL
  refine c_X11_forms (v_X11_forms_0 o hR.1 hS.1 hS.2.1 hR.2.2.2.2.2.2.2.1 hFo (by omega) ⟨fun hc => ?_, fun hc => ⟨fun hc2 => ?_, fun hc2 => shx hL hc hc2 fun hp => ?_⟩⟩)
  · rw [← an2_n (x := -1) hc]; exact h σ FrD.rf
  · rw [← an2_m (x := -1) hc2]; exact h σ FrD.rf
  · rw [h0.DK.1 s (by omega) (by omega)]
    refine ⟨fun hc => absurd rfl hc, fun _ => ?_⟩
    rw [← an2_y (x := -1) hc hc2]; exact h σ FrD.rf
def an_form (s k i : Int) : Int := if ¬ (0 ≤ s ∧ s < 6) then -2 else if ¬ (0 ≤ k ∧ 0 ≤ i) then -3 else -1
theorem kd_form {P : Int → Mem → Prop} {s k i : Int} (hL : DeskL N Λ t) (h0 : Desk0 σ t) (hd : 2 ≤ d) (h : ∀ σ', FrD σ σ' t → P (an_form s k i) σ') : CI l mX11_form d [(2, t), (0, s), (0, k), (0, i)] N Λ σ P := by
  obtain ⟨o, hR, hS, hH, hI, hMd, hT, hSt, hFi, hFo, hE, hFa, hTm, hW, hOt, hS1, hS2⟩ := id hL
  have K := h σ FrD.rf
  unfold an_form at K
  have no : ∀ {u : Unit}, ¬ (0 ≤ s ∧ s < 6) → P (-2) σ := fun c => by rw [if_pos c] at K; exact K
  have no2 : ∀ {u : Unit}, (0 ≤ s ∧ s < 6) → ¬ (0 ≤ k ∧ 0 ≤ i) → P (-3) σ := fun c c2 => by rw [if_neg (fun z => z c), if_pos c2] at K; exact K
  have ye : ∀ {u : Unit}, (0 ≤ s ∧ s < 6) → (0 ≤ k ∧ 0 ≤ i) → P (-1) σ := fun c c2 => by rw [if_neg (fun z => z c), if_neg (fun z => z c2)] at K; exact K
  clear K h
  refine c_X11_form (v_X11_form_0 o hR.1 hS.1 hS.2.1 hR.2.2.2.2.2.2.2.1 hFo rfl (by omega) ⟨fun g => no (u := ()) (by omega), fun g1 => ⟨fun g => no (u := ()) (by omega), fun g2 => ⟨fun g => no2 (u := ()) (by omega) (by omega), fun g3 => ⟨fun g4 => shx hL g1 g2 fun hp => ?_, fun g => no2 (u := ()) (by omega) (by omega)⟩⟩⟩⟩)
  rw [h0.DK.1 s (by omega) (by omega)]
  exact ⟨fun hc => absurd rfl hc, fun _ => ye (u := ()) (by omega) (by omega)⟩
def an_factor (s w : Int) : Int := if (0 ≤ s ∧ s < 6) ∧ 0 ≤ w ∧ w ≤ 6 then 0 else -2
theorem kd_factor {P : Int → Mem → Prop} {s w : Int} (hL : DeskL N Λ t) (h0 : Desk0 σ t) (hd : 5 ≤ d) (h : ∀ σ', FrD σ σ' t → P (an_factor s w) σ') : CI l mX11_factor d [(2, t), (0, s), (0, w)] N Λ σ P := by
  obtain ⟨o, hR, hS, hH, hI, hMd, hT, hSt, hFi, hFo, hE, hFa, hTm, hW, hOt, hS1, hS2⟩ := id hL
  have no : ∀ σ', FrD σ σ' t → ¬ ((0 ≤ s ∧ s < 6) ∧ 0 ≤ w ∧ w ≤ 6) → P (-2) σ' := fun σ' f c => by have := h σ' f; unfold an_factor at this; rw [if_neg c] at this; exact this
  refine c_X11_factor (v_X11_factor_0 o hR.1 hS.1 hS.2.1 hR.2.2.2.2.2.2.2.2.2.1 hFa hR.2.2.2.2.2.1 hR.2.2.2.2.2.2.2.2.2.2.2.1 hSt.1 rfl rfl (by omega) fun τ1 e1 => ?_)
  have f1 : FrD σ τ1 t := FrD.s e1 (by omega) (by omega)
  have hK := h0.DK.same (σ' := τ1) fun c' u0 u1 => by rw [e1, st_ne (by omega)]
  refine ⟨fun g => no τ1 f1 (by omega), fun g1 => ⟨fun g => no τ1 f1 (by omega), fun g2 => ⟨fun g => no τ1 f1 (by omega), fun g3 => ⟨fun g4 => shx hL g1 g2 fun hp => ?_, fun g => no τ1 f1 (by omega)⟩⟩⟩⟩
  rw [hK.1 s (by omega) (by omega)]
  refine ⟨fun _ => ?_, fun hc => absurd rfl hc⟩
  have := h τ1 f1
  unfold an_factor at this
  rw [if_pos (by omega)] at this
  exact this
theorem kd_isFinal {P : Int → Mem → Prop} {s : Int} (hL : DeskL N Λ t) (h0 : Desk0 σ t) (hd : 5 ≤ d) (h : ∀ σ', FrD σ σ' t → P (an2 s 0) σ') : CI l mX11_isFinal d [(2, t), (0, s)] N Λ σ P := by
  obtain ⟨o, hR, hS, hH, hI, hMd, hT, hSt, hFi, hFo, hE, hFa, hTm, hW, hOt, hS1, hS2⟩ := id hL
  refine c_X11_isFinal (v_X11_isFinal_0 o hR.2.2.2.2.2.1 hR.1 hS.1 hS.2.1 hR.2.2.2.2.2.2.2.2.2.2.2.1 hSt.1 hW.1 hR.2.2.2.2.2.2.2.2.2.2.2.2 hOt.1 hOt.2.1 (by omega) fun τ1 e1 => ?_)
  have f1 : FrD σ τ1 t := FrD.s e1 (by omega) (by omega)
  have hK := h0.DK.same (σ' := τ1) fun c' u0 u1 => by rw [e1, st_ne (by omega)]
  refine ⟨fun hc => ?_, fun hc => ⟨fun hc2 => ?_, fun hc2 => shx hL hc hc2 fun hp => kd_str hL hK (by omega) hc hc2 fun σ2 f2 k2 z2 z3 => ⟨fun _ => ?_, fun hc => absurd rfl hc⟩⟩⟩
  · rw [← an2_n (x := 0) hc]; exact h τ1 f1
  · rw [← an2_m (x := 0) hc2]; exact h τ1 f1
  · rw [z2]
    refine ⟨fun _ => shx hL hc hc2 fun hp2 => ?_, fun hc => absurd rfl hc⟩
    have hK2 := hK.same (σ' := σ2) fun c' u0 u1 => k2 c' (by omega) (by omega) (by omega) (by omega)
    refine k_reduce0 hL hOt hp2 (by omega) (by omega) (hK2.1 s (by omega) (by omega)) fun τ3 e3 => ?_
    have hz : τ3 (t + 599) 2 = 0 := by rw [e3, st_eq]
    rw [hz]
    refine ⟨fun _ => ?_, fun hc => absurd hc (by decide)⟩
    rw [← an2_y (x := 0) hc hc2]
    exact h τ3 ((f1.tr f2).tr (FrD.s e3 (by omega) (by omega)))
def an_at (p w : Int) : Int := if (0 ≤ p ∧ p < 10) ∧ 0 ≤ w ∧ w ≤ 2 then 0 else -100
theorem kd_at {P : Int → Mem → Prop} {p w : Int} (hL : DeskL N Λ t) (h0 : Desk0 σ t) (hd : 2 ≤ d) (h : ∀ σ', FrD σ σ' t → P (an_at p w) σ') : CI l mX11_at d [(2, t), (0, p), (0, w)] N Λ σ P := by
  obtain ⟨o, hR, hS, hH, hI, hMd, hT, hSt, hFi, hFo, hE, hFa, hTm, hW, hOt, hS1, hS2⟩ := id hL
  have no : ∀ σ', FrD σ σ' t → ¬ ((0 ≤ p ∧ p < 10) ∧ 0 ≤ w ∧ w ≤ 2) → P (-100) σ' := fun σ' f c => by have := h σ' f; unfold an_at at this; rw [if_neg c] at this; exact this
  refine c_X11_at (v_X11_at_0 o hR.1 hS.1 hS.2.2.1 (by omega) ⟨fun g => no σ FrD.rf (by omega), fun g1 => ⟨fun g => no σ FrD.rf (by omega), fun g2 => ⟨fun g => no σ FrD.rf (by omega), fun g3 => ⟨fun g4 => ?_, fun g => no σ FrD.rf (by omega)⟩⟩⟩⟩)
  rw [mulI_e (x := 3) (y := p) (by omega) (by omega), addI_e (x := 3 * p) (by omega) (by omega)]
  refine ⟨Ix.of hS.2.2.2.2.2.1 (by omega) (by omega), ?_⟩
  rw [h0.1.2.1 (3 * p + w) (by omega) (by omega)]
  have := h σ FrD.rf
  unfold an_at at this
  rw [if_pos (by omega)] at this
  exact this
def an_value (s : Int) : Int := if 0 ≤ s ∧ s < 6 then 0 else -9223372036854775808
theorem kd_value {P : Int → Mem → Prop} {s : Int} (hL : DeskL N Λ t) (h0 : Desk0 σ t) (hd : 2 ≤ d) (h : ∀ σ', FrD σ σ' t → P (an_value s) σ') : CL l mX11_value d [(2, t), (0, s)] N Λ σ P := by
  obtain ⟨o, hR, hS, hH, hI, hMd, hT, hSt, hFi, hFo, hE, hFa, hTm, hW, hOt, hS1, hS2⟩ := id hL
  have no : ∀ σ', FrD σ σ' t → ¬ (0 ≤ s ∧ s < 6) → P (-9223372036854775808) σ' := fun σ' f c => by have := h σ' f; unfold an_value at this; rw [if_neg c] at this; exact this
  refine c_X11_value (v_X11_value_0 o hR.1 hS.1 hS.2.1 (by omega) ⟨fun g => no σ FrD.rf (by omega), fun g1 => ⟨fun g => no σ FrD.rf (by omega), fun g2 => shx hL g1 g2 fun hp => ?_⟩⟩)
  refine c_X7_worthOf (v_X7_worthOf_0 (v_X7_worthOf_5 hp.1 hp.2.2.1 hp.2.1 (by omega) ?_))
  rw [h0.DK.1 s (by omega) (by omega)]
  refine ⟨fun _ => ?_, fun hc => absurd (Int.le_refl 0) hc⟩
  have := h σ FrD.rf
  unfold an_value at this
  rw [if_pos (by omega)] at this
  exact this
theorem kd_undo {P : Int → Mem → Prop} {n : Int} (hL : DeskL N Λ t) (h0 : Desk0 σ t) (hd : 2 ≤ d) (h : ∀ σ', FrD σ σ' t → P (-3) σ') : CI l mX11_undo d [(2, t), (0, n)] N Λ σ P := by
  obtain ⟨o, hR, hS, hH, hI, hMd, hT, hSt, hFi, hFo, hE, hFa, hTm, hW, hOt, hS1, hS2⟩ := id hL
  refine c_X11_undo (v_X11_undo_0 o hR.2.1 hH.1 hR.1 (by omega) ⟨fun g => h σ FrD.rf, fun g1 => ⟨fun g => h σ FrD.rf, fun g2 => ?_⟩⟩)
  rw [h0.2.1.1]
  exact ⟨fun g => by omega, fun _ => h σ FrD.rf⟩
def an_im (i x : Int) : Int := if 0 ≤ i ∧ i < 2 then x else -2
theorem kd_image {P : Int → Mem → Prop} {i : Int} (hL : DeskL N Λ t) (h0 : Desk0 σ t) (hd : 4 ≤ d) (h : ∀ σ', FrD σ σ' t → P (an_im i 0) σ') : CI l mX11_image d [(2, t), (0, i)] N Λ σ P := by
  obtain ⟨o, hR, hS, hH, hI, hMd, hT, hSt, hFi, hFo, hE, hFa, hTm, hW, hOt, hS1, hS2⟩ := id hL
  have no : ∀ σ', FrD σ σ' t → ¬ (0 ≤ i ∧ i < 2) → P (-2) σ' := fun σ' f c => by have := h σ' f; unfold an_im at this; rw [if_neg c] at this; exact this
  refine c_X11_image (v_X11_image_0 o hR.2.2.1 hR.1 hR.2.2.2.1 (by omega) ⟨fun g => no σ FrD.rf (by omega), fun g1 => ⟨fun g2 => ⟨Ix.of hI.1 (by omega) (by omega), fun b1 e1 => ?_⟩, fun g => no σ FrD.rf (by omega)⟩⟩)
  have key : ∀ c : Int, StateL N Λ c → t + 602 ≤ c → c ≤ t + 624 → Ob N Λ c 16 3 ∧ (CV l mX7_take (d - 1) [(2, c), (2, t + 1)] N Λ σ (fun σ2 => (Ix N Λ (t + 246) 2 i ∧ (((1 : Int) = 0 ∨ (1 : Int) = 1) ∧ (∀ τ3, τ3 = st σ2 (t + 246) i 1 → P 0 τ3))))) := by
    intro c hc c0 c1
    refine ⟨hc.1, g_stake hc hS (by omega) (by omega) (fun s u0 u1 => (h0.1.1 s u0 u1).1) fun σ2 f2 => ⟨Ix.of hMd (by omega) (by omega), Or.inr rfl, fun τ3 e3 => ?_⟩⟩
    have := h τ3 (FrD.tr (σ1 := σ2) (fun c' g => f2 c' (by omega)) (FrD.s e3 (by omega) (by omega)))
    unfold an_im at this
    rw [if_pos (by omega)] at this
    exact this
  have hi : i = 0 ∨ i = 1 := by omega
  rcases hi with rfl | rfl
  · rw [hI.2.1] at e1
    subst e1
    exact key _ hS1 (by omega) (by omega)
  · rw [hI.2.2] at e1
    subst e1
    exact key _ hS2 (by omega) (by omega)
theorem kd_restore {P : Int → Mem → Prop} {i : Int} (hL : DeskL N Λ t) (h0 : Desk0 σ t) (hd : 4 ≤ d) (h : ∀ σ', FrD σ σ' t → P (an_im i (-6)) σ') : CI l mX11_restore d [(2, t), (0, i)] N Λ σ P := by
  obtain ⟨o, hR, hS, hH, hI, hMd, hT, hSt, hFi, hFo, hE, hFa, hTm, hW, hOt, hS1, hS2⟩ := id hL
  have no : ∀ σ', FrD σ σ' t → ¬ (0 ≤ i ∧ i < 2) → P (-2) σ' := fun σ' f c => by have := h σ' f; unfold an_im at this; rw [if_neg c] at this; exact this
  refine c_X11_restore (v_X11_restore_0 o hR.2.2.2.1 hR.1 hR.2.2.1 hS.1 hR.2.1 hH.1 (by omega) ⟨fun g => no σ FrD.rf (by omega), fun g1 => ⟨fun g2 => ⟨Ix.of hMd (by omega) (by omega), ?_⟩, fun g => no σ FrD.rf (by omega)⟩⟩)
  rw [h0.2.2.1 i]
  refine ⟨fun hc => absurd rfl hc, fun _ => ?_⟩
  have := h σ FrD.rf
  unfold an_im at this
  rw [if_pos (by omega)] at this
  exact this
end CL3
