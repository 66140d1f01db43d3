def an2p (s a p q : Int) : Int := if (((0 ≤ s ∧ s < 6) ∧ 0 ≤ a ∧ a < 6) ∧ 0 ≤ p ∧ p < 10) ∧ 0 ≤ q ∧ q < 10 then 0 else -2
section CL2
variable {l : Launch} {d N : Nat} {Λ : Lay} {σ : Mem} {t : Int}
theorem k_rename0 {P : Int → Mem → Prop} {c p q bo : Int} (hL : DeskL N Λ t) (hp : PolyL N Λ c) (hc : c ≠ t + 596) (hd : 1 ≤ d) (hz : σ c 2 = 0) (h : ∀ τ, τ = st σ (t + 596) 2 0 → P 0 τ) : CI l mX11_rename d [(2, t), (2, c), (0, p), (0, q), (0, bo)] N Λ σ P := by
  obtain ⟨o, hR, hS, hH, hI, hMd, hT, hSt, hFi, hFo, hE, hFa, hTm, hW, hOt, hS1, hS2⟩ := id hL
  refine c_X11_rename (v_X11_rename_0 o hR.2.2.2.2.2.2.2.2.2.2.2.1 hW.1 hd fun τ1 e1 => v_X11_rename_13 hp.1 o hR.2.2.2.2.2.2.2.2.2.2.1 hp.2.1 hTm hR.2.2.2.2.2.2.2.2.2.2.2.1 hp.2.2.1 hW.1 hd ?_)
  have : τ1 c 2 = 0 := by rw [e1, st_ne hc]; exact hz
  rw [this]
  exact ⟨fun _ => h τ1 e1, fun hc => absurd (Int.le_refl 0) hc⟩
theorem kd_put {P : Int → Mem → Prop} {s a p q : Int} (hL : DeskL N Λ t) (h0 : Desk0 σ t) (hd : 5 ≤ d) (h : ∀ σ', FrD σ σ' t → P (an2p s a p q) σ') : CI l mX11_put d [(2, t), (0, s), (0, a), (0, p), (0, q)] N Λ σ P := by
  obtain ⟨o, hR, hS, hH, hI, hMd, hT, hSt, hFi, hFo, hE, hFa, hTm, hW, hOt, hS1, hS2⟩ := id hL
  have no : ∀ σ', FrD σ σ' t → ¬ ((((0 ≤ s ∧ s < 6) ∧ 0 ≤ a ∧ a < 6) ∧ 0 ≤ p ∧ p < 10) ∧ 0 ≤ q ∧ q < 10) → P (-2) σ' := fun σ' f c => by have := h σ' f; unfold an2p at this; rw [if_neg c] at this; exact this
  refine c_X11_put (v_X11_put_0 o hR.1 hS.1 hS.2.1 (by omega) fun τ1 e1 => ?_)
  have f1 : FrD σ τ1 t := FrD.s e1 (by omega) (by omega)
  refine ⟨fun g => no τ1 f1 (by omega), fun g1 => ⟨fun g => no τ1 f1 (by omega), fun g2 => ⟨fun g => no τ1 f1 (by omega), fun g3 => ⟨fun g => no τ1 f1 (by omega), fun g4 => ⟨fun g => no τ1 f1 (by omega), fun g5 => ⟨fun g => no τ1 f1 (by omega), fun g6 => ⟨fun g => no τ1 f1 (by omega), fun g7 => ⟨fun g => no τ1 f1 (by omega), fun g8 => shx hL g3 g4 fun hp => ?_⟩⟩⟩⟩⟩⟩⟩⟩
  have k1 : ∀ c' : Int, c' ≠ t → τ1 c' = σ c' := fun c' u1 => by rw [e1, st_ne u1]
  have hK := h0.DK.same (σ' := τ1) fun c' u0 u1 => k1 c' (by omega)
  refine k_rename0 hL hp (by omega) (by omega) (hK.1 a (by omega) (by omega)) fun τ2 e2 => ?_
  have hz : τ2 (t + 596) 2 = 0 := by rw [e2, st_eq]
  refine kd_keep hL (hK.same fun c' u0 u1 => by rw [e2, st_ne (by omega)]) (by omega) (by omega) (by omega) (by omega) fun σ' f => ?_
  have := h σ' ((f1.tr (FrD.s e2 (by omega) (by omega))).tr f)
  unfold an2p at this
  rw [if_pos (by omega)] at this
  rw [hz]
  exact this
theorem kd_turn {P : Int → Mem → Prop} {s a p q : Int} (hL : DeskL N Λ t) (h0 : Desk0 σ t) (hd : 5 ≤ d) (h : ∀ σ', FrD σ σ' t → P (an2p s a p q) σ') : CI l mX11_turn d [(2, t), (0, s), (0, a), (0, p), (0, q)] N Λ σ P := by
  obtain ⟨o, hR, hS, hH, hI, hMd, hT, hSt, hFi, hFo, hE, hFa, hTm, hW, hOt, hS1, hS2⟩ := id hL
  have no : ∀ σ', FrD σ σ' t → ¬ ((((0 ≤ s ∧ s < 6) ∧ 0 ≤ a ∧ a < 6) ∧ 0 ≤ p ∧ p < 10) ∧ 0 ≤ q ∧ q < 10) → P (-2) σ' := fun σ' f c => by have := h σ' f; unfold an2p at this; rw [if_neg c] at this; exact this
  refine c_X11_turn (v_X11_turn_0 o hR.1 hS.1 hS.2.1 (by omega) fun τ1 e1 => ?_)
  have f1 : FrD σ τ1 t := FrD.s e1 (by omega) (by omega)
  refine ⟨fun g => no τ1 f1 (by omega), fun g1 => ⟨fun g => no τ1 f1 (by omega), fun g2 => ⟨fun g => no τ1 f1 (by omega), fun g3 => ⟨fun g => no τ1 f1 (by omega), fun g4 => ⟨fun g => no τ1 f1 (by omega), fun g5 => ⟨fun g => no τ1 f1 (by omega), fun g6 => ⟨fun g => no τ1 f1 (by omega), fun g7 => ⟨fun g => no τ1 f1 (by omega), fun g8 => shx hL g3 g4 fun hp => ?_⟩⟩⟩⟩⟩⟩⟩⟩
  have k1 : ∀ c' : Int, c' ≠ t → τ1 c' = σ c' := fun c' u1 => by rw [e1, st_ne u1]
  have hK := h0.DK.same (σ' := τ1) fun c' u0 u1 => k1 c' (by omega)
  refine k_rename0 hL hp (by omega) (by omega) (hK.1 a (by omega) (by omega)) fun τ2 e2 => ?_
  have hz : τ2 (t + 596) 2 = 0 := by rw [e2, st_eq]
  refine kd_keep hL (hK.same fun c' u0 u1 => by rw [e2, st_ne (by omega)]) (by omega) (by omega) (by omega) (by omega) fun σ' f => ?_
  have := h σ' ((f1.tr (FrD.s e2 (by omega) (by omega))).tr f)
  unfold an2p at this
  rw [if_pos (by omega)] at this
  rw [hz]
  exact this
/-- a shelf that has no terms, straight -/
theorem kd_str {P : Int → Mem → Prop} {s : Int} (hL : DeskL N Λ t) (hK : DK σ t) (hd : 2 ≤ d) (h0 : ¬ s < 0) (h1 : ¬ 6 ≤ s) (h : ∀ σ', FrD σ σ' t → (∀ c' : Int, c' ≠ t + 251 → c' ≠ t + 596 → c' ≠ t + 597 → c' ≠ t + 598 → σ' c' = σ c') → σ' (t + 596) 2 = 0 → σ' (t + 251) 0 = 0 → P 0 σ') : CI l mX8_straighten d [(2, t + 251), (2, t + 5 + 3 * s), (2, t + 596)] N Λ σ P := by
  obtain ⟨o, hR, hS, hH, hI, hMd, hT, hSt, hFi, hFo, hE, hFa, hTm, hW, hOt, hS1, hS2⟩ := id hL
  have z := hS.2.2.2.2.2.2.2 s (by omega) (by omega)
  rw [show t + 1 + 4 + 3 * s = t + 5 + 3 * s by omega] at z
  refine k_str0 hSt hW z.2 (by omega) (by omega) hd (hK.1 s (by omega) (by omega)) fun σ' f z1 z2 => h σ' (fun c' g => f c' (by omega) (by omega) (by omega) (by omega)) (fun c' g0 g1 g2 g3 => f c' g0 g1 (by omega) (by omega)) z1 z2
theorem kd_straight {P : Int → Mem → Prop} {s a : Int} (hL : DeskL N Λ t) (h0 : Desk0 σ t) (hd : 5 ≤ d) (h : ∀ σ', FrD σ σ' t → P (an22 s a 0) σ') : CI l mX11_straight d [(2, t), (0, s), (0, a)] N Λ σ P := by
  obtain ⟨o, hR, hS, hH, hI, hMd, hT, hSt, hFi, hFo, hE, hFa, hTm, hW, hOt, hS1, hS2⟩ := id hL
  have no : ∀ σ', FrD σ σ' t → ¬ ((0 ≤ s ∧ s < 6) ∧ 0 ≤ a ∧ a < 6) → P (-2) σ' := fun σ' f c => by have := h σ' f; unfold an22 at this; rw [if_neg c] at this; exact this
  refine c_X11_straight (v_X11_straight_0 o hR.2.2.2.2.2.1 hR.1 hS.1 hS.2.1 hR.2.2.2.2.2.2.2.2.2.2.2.1 hSt.1 (by omega) fun τ1 e1 => ?_)
  have f1 : FrD σ τ1 t := FrD.s e1 (by omega) (by omega)
  refine ⟨fun g => no τ1 f1 (by omega), fun g1 => ⟨fun g => no τ1 f1 (by omega), fun g2 => ⟨fun g => no τ1 f1 (by omega), fun g3 => ⟨fun g => no τ1 f1 (by omega), fun g4 => shx hL g3 g4 fun hp => ?_⟩⟩⟩⟩
  have hK := h0.DK.same (σ' := τ1) fun c' u0 u1 => by rw [e1, st_ne (by omega)]
  refine kd_str hL hK (by omega) g3 g4 fun σ2 f2 k2 z2 _ => ?_
  refine kd_keep hL (hK.same fun c' u0 u1 => k2 c' (by omega) (by omega) (by omega) (by omega)) (by omega) (by omega) (by omega) (by omega) fun σ' f => ?_
  have := h σ' ((f1.tr f2).tr f)
  unfold an22 at this
  rw [if_pos (by omega)] at this
  rw [z2]
  exact this
theorem k_reduce0 {P : Mem → Prop} {c a : Int} (hL : DeskL N Λ t) (hA : PolyL N Λ a) (hp : PolyL N Λ c) (hc : c ≠ a) (hd : 1 ≤ d) (hz : σ c 2 = 0) (h : ∀ τ, τ = st σ a 2 0 → P τ) : CV l mX7_reduceTo d [(2, t + 1), (2, a), (2, c)] N Λ σ P := by
  obtain ⟨o, hR, hS, -⟩ := id hL
  refine c_X7_reduceTo (v_X7_reduceTo_0 hA.1 hd fun τ1 e1 => v_X7_reduceTo_6 hp.1 hS.1 hp.2.1 hA.1 hp.2.2.1 hd ?_)
  have : τ1 c 2 = 0 := by rw [e1, st_ne hc]; exact hz
  rw [this]
  exact ⟨fun _ => h τ1 e1, fun hc => absurd (Int.le_refl 0) hc⟩
theorem kd_reduce {P : Int → Mem → Prop} {s a : Int} (hL : DeskL N Λ t) (h0 : Desk0 σ t) (hd : 5 ≤ d) (h : ∀ σ', FrD σ σ' t → P (an22 s a 0) σ') : CI l mX11_reduce d [(2, t), (0, s), (0, a)] N Λ σ P := by
  obtain ⟨o, hR, hS, hH, hI, hMd, hT, hSt, hFi, hFo, hE, hFa, hTm, hW, hOt, hS1, hS2⟩ := id hL
  have no : ∀ σ', FrD σ σ' t → ¬ ((0 ≤ s ∧ s < 6) ∧ 0 ≤ a ∧ a < 6) → P (-2) σ' := fun σ' f c => by have := h σ' f; unfold an22 at this; rw [if_neg c] at this; exact this
  refine c_X11_reduce (v_X11_reduce_0 o hR.1 hR.2.2.2.2.2.2.2.2.2.2.2.1 hS.1 hS.2.1 (by omega) ⟨fun g => no σ FrD.rf (by omega), fun g1 => ⟨fun g => no σ FrD.rf (by omega), fun g2 => ⟨fun g => no σ FrD.rf (by omega), fun g3 => ⟨fun g => no σ FrD.rf (by omega), fun g4 => shx hL g3 g4 fun hp => ?_⟩⟩⟩⟩)
  have hK := h0.DK
  refine k_reduce0 hL hW hp (by omega) (by omega) (hK.1 a (by omega) (by omega)) fun τ2 e2 => ?_
  have hz : τ2 (t + 596) 2 = 0 := by rw [e2, st_eq]
  refine kd_keep hL (hK.same fun c' u0 u1 => by rw [e2, st_ne (by omega)]) (by omega) (by omega) (by omega) (by omega) fun σ' f => ?_
  have := h σ' ((FrD.s e2 (by omega) (by omega)).tr f)
  unfold an22 at this
  rw [if_pos (by omega)] at this
  rw [hz]
  exact this
def an_place (p x y z : Int) : Int := if ¬ (0 ≤ p ∧ p < 10) then -2 else if ¬ ((-99 ≤ x ∧ x ≤ 99) ∧ (-99 ≤ y ∧ y ≤ 99) ∧ -99 ≤ z ∧ z ≤ 99) then -3 else 0
theorem kd_place {P : Int → Mem → Prop} {p x y z : Int} (hL : DeskL N Λ t) (h0 : Desk0 σ t) (hd : 5 ≤ d) (h : ∀ σ', FrD σ σ' t → P (an_place p x y z) σ') : CI l mX11_place d [(2, t), (0, p), (0, x), (0, y), (0, z)] N Λ σ P := by
  obtain ⟨o, hR, hS, hH, hI, hMd, hT, hSt, hFi, hFo, hE, hFa, hTm, hW, hOt, hS1, hS2⟩ := id hL
  have no : ∀ σ', FrD σ σ' t → ¬ (0 ≤ p ∧ p < 10) → P (-2) σ' := fun σ' f c => by have := h σ' f; unfold an_place at this; rw [if_pos c] at this; exact this
  have no2 : ∀ σ', FrD σ σ' t → (0 ≤ p ∧ p < 10) → ¬ ((-99 ≤ x ∧ x ≤ 99) ∧ (-99 ≤ y ∧ y ≤ 99) ∧ -99 ≤ z ∧ z ≤ 99) → P (-3) σ' := fun σ' f c c2 => by have := h σ' f; unfold an_place at this; rw [if_neg (fun z => z c), if_pos c2] at this; exact this
  have hK := h0.DK
  have zk := hH.2.2.2 0 (by decide) (by decide)
  refine c_X11_place (v_X11_place_0 o hR.2.1 hR.1 hH.1 hH.2.1 hS.1 hS.2.2.1 (by omega) ⟨fun g => no σ FrD.rf (by omega), fun g1 => ⟨fun g => no σ FrD.rf (by omega), fun g2 => ⟨fun g => no2 σ FrD.rf (by omega) (by omega), fun g3 => ⟨fun g => no2 σ FrD.rf (by omega) (by omega), fun g4 => ⟨fun g => no2 σ FrD.rf (by omega) (by omega), fun g5 => ⟨fun g => no2 σ FrD.rf (by omega) (by omega), fun g6 => ⟨fun g => no2 σ FrD.rf (by omega) (by omega), fun g7 => ⟨fun g => no2 σ FrD.rf (by omega) (by omega), fun g8 => ?_⟩⟩⟩⟩⟩⟩⟩⟩)
  have ye : ∀ σ', FrD σ σ' t → P 0 σ' := fun σ' f => by have := h σ' f; unfold an_place at this; rw [if_neg (fun z => z (by omega)), if_neg (fun z => z (by omega))] at this; exact this
  have m1 : mulI 3 p = 3 * p := mulI_e (by omega) (by omega)
  rw [hK.2.2, m1, addI_e (x := 3 * p) (y := 1) (by omega) (by omega), addI_e (x := 3 * p) (y := 2) (by omega) (by omega)]
  refine ⟨Ix.of hH.2.2.1 (by decide) (by decide), fun b1 e1 => ?_⟩
  rw [zk.1] at e1
  subst e1
  refine ⟨zk.2.1, g_stake zk.2 hS (by omega) (by omega) (fun s g0 g1 => ?_) fun σ2 f2 τ3 e3 => ?_⟩
  · rw [show t + 1 + 4 + 3 * s = t + 5 + 3 * s by omega]
    exact hK.1 s g0 g1
  · have q2 : FrD σ σ2 t := fun c' g => f2 c' (by omega)
    have q3 := q2.tr (FrD.s e3 (by omega) (by omega))
    have fin : ∀ (v : Int) (τ4 : Mem), τ4 = st τ3 (t + 23) 0 v → (Ix N Λ (t + 1 + 2) 0 (3 * p) ∧ (∀ τ9, τ9 = st τ4 (t + 1 + 2) (3 * p) x → (Ix N Λ (t + 1 + 2) 0 (3 * p + 1) ∧ (∀ τ10, τ10 = st τ9 (t + 1 + 2) (3 * p + 1) y → (Ix N Λ (t + 1 + 2) 0 (3 * p + 2) ∧ (∀ τ11, τ11 = st τ10 (t + 1 + 2) (3 * p + 2) z → P 0 τ11)))))) := fun v τ4 e4 =>
      ⟨Ix.of hS.2.2.2.2.2.1 (by omega) (by omega), fun τ9 e9 => ⟨Ix.of hS.2.2.2.2.2.1 (by omega) (by omega), fun τ10 e10 => ⟨Ix.of hS.2.2.2.2.2.1 (by omega) (by omega), fun τ11 e11 => ye τ11 ((((q3.tr (FrD.s e4 (by omega) (by omega))).tr (FrD.s e9 (by omega) (by omega))).tr (FrD.s e10 (by omega) (by omega))).tr (FrD.s e11 (by omega) (by omega)))⟩⟩⟩
    exact ⟨fun _ τ4 e4 => fin _ τ4 e4, fun _ τ5 e5 => fin _ τ5 e5⟩
theorem kd_terms {P : Int → Mem → Prop} {s : Int} (hL : DeskL N Λ t) (h0 : Desk0 σ t) (hd : 1 ≤ d) (h : ∀ σ', FrD σ σ' t → P (an2 s 0) σ') : CI l mX11_terms d [(2, t), (0, s)] N Λ σ P := by
  obtain ⟨o, hR, hS, -⟩ := id hL
  refine c_X11_terms (v_X11_terms_0 o hR.1 hS.1 hS.2.1 (by omega) ⟨fun hc => ?_, fun hc => ⟨fun hc2 => ?_, fun hc2 => shx hL hc hc2 fun hp => ?_⟩⟩)
  · rw [← an2_n (x := 0) hc]; exact h σ FrD.rf
  · rw [← an2_m (x := 0) hc2]; exact h σ FrD.rf
  · rw [h0.DK.1 s (by omega) (by omega), ← an2_y (x := 0) hc hc2]; exact h σ FrD.rf
theorem kd_term {P : Int → Mem → Prop} {s i w : Int} (hL : DeskL N Λ t) (h0 : Desk0 σ t) (hd : 2 ≤ d) (h : ∀ σ', FrD σ σ' t → P (-2147483648) σ') : CI l mX11_term d [(2, t), (0, s), (0, i), (0, w)] N Λ σ P := by
  obtain ⟨o, hR, hS, -⟩ := id hL
  refine c_X11_term (v_X11_term_0 o hR.1 hS.1 hS.2.1 (by omega) ⟨fun hc => h σ FrD.rf, fun hc => ⟨fun hc2 => h σ FrD.rf, fun hc2 => ⟨fun hc3 => h σ FrD.rf, fun hc3 => shx hL hc hc2 fun hp => ?_⟩⟩⟩)
  rw [h0.DK.1 s (by omega) (by omega)]
  exact ⟨fun hi => absurd hi hc3, fun _ => h σ FrD.rf⟩
def an_deg (s p : Int) : Int := if (0 ≤ s ∧ s < 6) ∧ 0 ≤ p ∧ p < 10 then -1 else -2
theorem kd_degree {P : Int → Mem → Prop} {s p : Int} (hL : DeskL N Λ t) (h0 : Desk0 σ t) (hd : 1 ≤ d) (h : ∀ σ', FrD σ σ' t → P (an_deg s p) σ') : CI l mX11_degree d [(2, t), (0, s), (0, p)] N Λ σ P := by
  obtain ⟨o, hR, hS, -⟩ := id hL
  have no : ∀ σ', FrD σ σ' t → ¬ ((0 ≤ s ∧ s < 6) ∧ 0 ≤ p ∧ p < 10) → P (-2) σ' := fun σ' f c => by have := h σ' f; unfold an_deg at this; rw [if_neg c] at this; exact this
  refine c_X11_degree (v_X11_degree_0 o hR.1 hS.1 hS.2.1 (by omega) ⟨fun g => no σ FrD.rf (by omega), fun g1 => ⟨fun g => no σ FrD.rf (by omega), fun g2 => ⟨fun g => no σ FrD.rf (by omega), fun g3 => ⟨fun g => no σ FrD.rf (by omega), fun g4 => shx hL g1 g2 fun hp => ?_⟩⟩⟩⟩)
  rw [h0.DK.1 s (by omega) (by omega)]
  refine ⟨fun hc => absurd rfl hc, fun _ => ?_⟩
  have := h σ FrD.rf
  unfold an_deg at this
  rw [if_pos (by omega)] at this
  exact this
theorem kd_steps {P : Int → Mem → Prop} {s : Int} (hL : DeskL N Λ t) (h0 : Desk0 σ t) (hd : 5 ≤ d) (h : ∀ σ', FrD σ σ' t → P (an2 s 0) σ') : CI l mX11_steps d [(2, t), (0, s)] N Λ σ P := by
  obtain ⟨o, hR, hS, hH, hI, hMd, hT, hSt, hFi, hFo, hE, hFa, hTm, hW, hOt, hS1, hS2⟩ := id hL
  refine c_X11_steps (v_X11_steps_0 o hR.2.2.2.2.2.1 hR.1 hS.1 hS.2.1 hR.2.2.2.2.2.2.2.2.2.2.2.1 hSt.1 (by omega) fun τ1 e1 => ?_)
  have f1 : FrD σ τ1 t := FrD.s e1 (by omega) (by omega)
  have hK := h0.DK.same (σ' := τ1) fun c' u0 u1 => by rw [e1, st_ne (by omega)]
  refine ⟨fun hc => ?_, fun hc => ⟨fun hc2 => ?_, fun hc2 => shx hL hc hc2 fun hp => kd_str hL hK (by omega) hc hc2 fun σ2 f2 k2 z2 z3 => ⟨fun hc => absurd rfl hc, fun _ => ?_⟩⟩⟩
  · rw [← an2_n (x := 0) hc]; exact h τ1 f1
  · rw [← an2_m (x := 0) hc2]; exact h τ1 f1
  · rw [z3, ← an2_y (x := 0) hc hc2]; exact h σ2 (f1.tr f2)
theorem kd_left {P : Int → Mem → Prop} {s : Int} (hL : DeskL N Λ t) (h0 : Desk0 σ t) (hd : 5 ≤ d) (h : ∀ σ', FrD σ σ' t → P (an2 s 0) σ') : CI l mX11_left d [(2, t), (0, s)] N Λ σ P := by
  obtain ⟨o, hR, hS, hH, hI, hMd, hT, hSt, hFi, hFo, hE, hFa, hTm, hW, hOt, hS1, hS2⟩ := id hL
  refine c_X11_left (v_X11_left_0 o hR.2.2.2.2.2.1 hR.1 hS.1 hS.2.1 hR.2.2.2.2.2.2.2.2.2.2.2.1 hSt.1 hW.1 (by omega) fun τ1 e1 => ?_)
  have f1 : FrD σ τ1 t := FrD.s e1 (by omega) (by omega)
  have hK := h0.DK.same (σ' := τ1) fun c' u0 u1 => by rw [e1, st_ne (by omega)]
  refine ⟨fun hc => ?_, fun hc => ⟨fun hc2 => ?_, fun hc2 => shx hL hc hc2 fun hp => kd_str hL hK (by omega) hc hc2 fun σ2 f2 k2 z2 z3 => ⟨fun hc => absurd rfl hc, fun _ => ?_⟩⟩⟩
  · rw [← an2_n (x := 0) hc]; exact h τ1 f1
  · rw [← an2_m (x := 0) hc2]; exact h τ1 f1
  · rw [z2, ← an2_y (x := 0) hc hc2]; exact h σ2 (f1.tr f2)
theorem kd_equal {P : Int → Mem → Prop} {s a : Int} (hL : DeskL N Λ t) (h0 : Desk0 σ t) (hd : 5 ≤ d) (h : ∀ σ', FrD σ σ' t → P (an22 s a 1) σ') : CI l mX11_equal d [(2, t), (0, s), (0, a)] N Λ σ P := by
  obtain ⟨o, hR, hS, hH, hI, hMd, hT, hSt, hFi, hFo, hE, hFa, hTm, hW, hOt, hS1, hS2⟩ := id hL
  have no : ∀ σ', FrD σ σ' t → ¬ ((0 ≤ s ∧ s < 6) ∧ 0 ≤ a ∧ a < 6) → P (-2) σ' := fun σ' f c => by have := h σ' f; unfold an22 at this; rw [if_neg c] at this; exact this
  refine c_X11_equal (v_X11_equal_0 o hR.2.2.2.2.2.1 hR.1 hS.1 hS.2.1 hR.2.2.2.2.2.2.2.2.2.2.2.1 hSt.1 hR.2.2.2.2.2.2.2.2.2.2.2.2 hW.1 (by omega) fun τ1 e1 => ?_)
  have f1 : FrD σ τ1 t := FrD.s e1 (by omega) (by omega)
  have hK := h0.DK.same (σ' := τ1) fun c' u0 u1 => by rw [e1, st_ne (by omega)]
  refine ⟨fun g => no τ1 f1 (by omega), fun g1 => ⟨fun g => no τ1 f1 (by omega), fun g2 => ⟨fun g => no τ1 f1 (by omega), fun g3 => ⟨fun g => no τ1 f1 (by omega), fun g4 => shx hL g1 g2 fun hp => kd_str hL hK (by omega) g1 g2 fun σ2 f2 k2 z2 z3 => ⟨fun hc => absurd rfl hc, fun _ => shx hL g3 g4 fun hp2 => ?_⟩⟩⟩⟩⟩
  have hK2 := hK.same (σ' := σ2) fun c' u0 u1 => k2 c' (by omega) (by omega) (by omega) (by omega)
  refine k_str0 hSt hOt hp2 (by omega) (by omega) (by omega) (hK2.1 a (by omega) (by omega)) fun σ3 f3 y1 y2 => ⟨fun _ => ?_, fun hc => absurd rfl hc⟩
  have w3 : σ3 (t + 596) 2 = 0 := by rw [f3 _ (by omega) (by omega) (by omega) (by omega)]; exact z2
  refine c_X5_isLike (v_X5_isLike_0 hW.1 hOt.1 ⟨fun _ => v_X5_isLike_15 hW.1 hW.2.1 hOt.1 hOt.2.1 hW.2.2.1 hOt.2.2.1 ?_, fun hc => absurd (w3.trans y1.symm) hc⟩)
  rw [w3]
  refine ⟨fun _ => ⟨fun hc => absurd hc (by decide), fun _ => ?_⟩, fun hc => absurd (Int.le_refl 0) hc⟩
  have := h σ3 ((f1.tr f2).tr (fun c' g => f3 c' (by omega) (by omega) (by omega) (by omega)))
  unfold an22 at this
  rw [if_pos (by omega)] at this
  exact this
end CL2
