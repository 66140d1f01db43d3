/-! the class's calls on a new object: refused ones, and those that find nothing -/
def an2 (s x : Int) : Int := if 0 ≤ s ∧ s < 6 then x else -2
theorem an2_y {s x : Int} (h0 : ¬ s < 0) (h1 : ¬ 6 ≤ s) : an2 s x = x := if_pos (by omega)
theorem an2_n {s x : Int} (h0 : s < 0) : an2 s x = -2 := if_neg (by omega)
theorem an2_m {s x : Int} (h0 : 6 ≤ s) : an2 s x = -2 := if_neg (by omega)
section CL1
variable {l : Launch} {d N : Nat} {Λ : Lay} {σ : Mem} {t : Int}
theorem shx {Q : Int → Prop} {s : Int} (hL : DeskL N Λ t) (h0 : ¬ s < 0) (h1 : ¬ 6 ≤ s) (h : PolyL N Λ (t + 5 + 3 * s) → Q (t + 5 + 3 * s)) : Ix N Λ (t + 1 + 1) 3 s ∧ ∀ b1, b1 = (Λ (t + 1 + 1)).2.2 s → (Ob N Λ b1 15 3 ∧ Q b1) := by
  obtain ⟨o, hR, hS, -⟩ := hL
  have z := hS.2.2.2.2.2.2.2 s (by omega) (by omega)
  refine ⟨Ix.of hS.2.2.2.2.1 (by omega) (by omega), fun b1 e1 => ?_⟩
  rw [z.1] at e1
  subst e1
  rw [show t + 1 + 4 + 3 * s = t + 5 + 3 * s by omega] at z ⊢
  exact ⟨z.2.1, h z.2⟩
/-- straightening what has no terms -/
theorem k_str0 {P : Int → Mem → Prop} {c a a1 : Int} (hL : StrL N Λ c) (hA : PolyL N Λ a) (hB : PolyL N Λ a1) (hca : c ≠ a ∧ c ≠ a + 1 ∧ c ≠ a + 2) (haa : a1 + 2 < a ∨ a + 2 < a1) (hd : 2 ≤ d) (hz : σ a1 2 = 0)
    (h : ∀ σ', (∀ c', c' ≠ c → c' ≠ a → c' ≠ a + 1 → c' ≠ a + 2 → σ' c' = σ c') → σ' a 2 = 0 → σ' c 0 = 0 → P 0 σ') : CI l mX8_straighten d [(2, c), (2, a1), (2, a)] N Λ σ P := by
  refine c_X8_straighten (v_X8_straighten_0 hA.1 hB.1 hB.2.1 hA.2.1 hB.2.2.1 hA.2.2.1 hL.1 (by omega) ⟨⟨80, 80, hB.2.2.2.1, hA.2.2.2.1, by omega, by omega, by omega, by omega, by omega⟩, fun τ1 e1 => ?_⟩)
  have t1 : τ1 a1 2 = 0 := by rw [e1, cpM_ne (by omega)]; exact hz
  rw [t1]
  refine ⟨⟨80, 80, hB.2.2.2.2, hA.2.2.2.2, by omega, by omega, by omega, by omega, by omega⟩, fun τ2 e2 => ?_⟩
  have t2 : τ2 a1 2 = 0 := by rw [e2, cpM_ne (by omega), t1]
  rw [t2]
  intro τ3 e3 τ4 e4
  have s4 : τ4 a 2 = 0 := by rw [e4, st_ne (fun z => hca.1 z.symm), e3, st_eq]
  have z4 : τ4 c 0 = 0 := by rw [e4, st_eq]
  rw [s4, show subI 0 1 = -1 by decide]
  refine c_X8_lastBroken (v_X8_lastBroken_0 (v_X8_lastBroken_2 hA.1 hA.2.1 (by omega) ⟨fun _ => ?_, fun hc => absurd (by decide) hc⟩))
  exact v_X8_straighten_21 hL.1 hA.1 hA.2.1 hA.2.2.1 (by omega) ⟨fun _ => ⟨fun _ => h τ4 (fun c' g0 g1 g2 g3 => by rw [e4, st_ne g0, e3, st_ne g1, e2, cpM_ne g3, e1, cpM_ne g2]) s4 z4, fun hc => absurd (by decide) hc⟩, fun hc => absurd (by decide) hc⟩
theorem kd_fault {P : Int → Mem → Prop} {w : Int} (hL : DeskL N Λ t) (h0 : Desk0 σ t) (h : ∀ σ', FrD σ σ' t → P (if w = 0 then 0 else -1) σ') : CI l mX11_fault d [(2, t), (0, w)] N Λ σ P := by
  obtain ⟨o, hR, hS, hH, hI, hMd, hT, hSt, hFi, hFo, hE, hFa, hTm, hW, hOt, hS1, hS2⟩ := hL
  have z := h0.2.2.2.1
  have := h σ FrD.rf
  refine c_X11_fault (v_X11_fault_0 o hR.2.2.2.2.1 hT.1 ⟨fun hc => ?_, fun hc => ?_⟩)
  · rw [if_neg hc] at this
    exact ⟨fun _ => this, fun _ => by rw [z.2.2]; exact this⟩
  · rw [if_pos hc] at this
    rw [z.2.1]
    exact this
theorem kd_why {P : Int → Mem → Prop} (hL : DeskL N Λ t) (h0 : Desk0 σ t) (h : ∀ σ', FrD σ σ' t → P 0 σ') : CI l mX11_why d [(2, t)] N Λ σ P := by
  refine c_X11_why (v_X11_why_0 hL.1 ?_)
  rw [h0.2.2.2.2.2.2]
  exact h σ FrD.rf
theorem kd_clear {P : Int → Mem → Prop} {s : Int} (hL : DeskL N Λ t) (h0 : Desk0 σ t) (hd : 5 ≤ d) (h : ∀ σ', FrD σ σ' t → P (an2 s 0) σ') : CI l mX11_clear d [(2, t), (0, s)] N Λ σ P := by
  obtain ⟨o, hR, hS, hH, hI, hMd, hT, hSt, hFi, hFo, hE, hFa, hTm, hW, hOt, hS1, hS2⟩ := id hL
  refine c_X11_clear (v_X11_clear_0 o hR.1 hS.1 hS.2.1 hR.2.2.2.2.2.2.2.2.2.2.2.1 hW.1 (by omega) ⟨fun hc => ?_, fun hc => ⟨fun hc2 => ?_, fun hc2 => shx hL hc hc2 fun hp y2 e2 τ3 e3 => ?_⟩⟩)
  · rw [← an2_n (x := 0) hc]; exact h σ FrD.rf
  · rw [← an2_m (x := 0) hc2]; exact h σ FrD.rf
  · have hK := h0.DK
    rw [hK.1 s (by omega) (by omega)] at e2
    subst e2
    have hz : τ3 (t + 596) 2 = 0 := by rw [e3, st_eq]
    refine kd_keep hL (hK.same fun c' g0 g1 => by rw [e3, st_ne (by omega)]) (by omega) (by omega) (by omega) (by omega) fun σ' f => ?_
    rw [← an2_y (x := 0) hc hc2]
    exact h σ' ((FrD.s e3 (by omega) (by omega)).tr f)
def an22 (s a x : Int) : Int := if (0 ≤ s ∧ s < 6) ∧ 0 ≤ a ∧ a < 6 then x else -2
theorem kd_copy {P : Int → Mem → Prop} {s a : Int} (hL : DeskL N Λ t) (h0 : Desk0 σ t) (hd : 5 ≤ d) (h : ∀ σ', FrD σ σ' t → P (an22 s a 0) σ') : CI l mX11_copy d [(2, t), (0, s), (0, a)] N Λ σ P := by
  obtain ⟨o, hR, hS, hH, hI, hMd, hT, hSt, hFi, hFo, hE, hFa, hTm, hW, hOt, hS1, hS2⟩ := id hL
  have no : ∀ σ', FrD σ σ' t → ¬ ((0 ≤ s ∧ s < 6) ∧ 0 ≤ a ∧ a < 6) → P (-2) σ' := fun σ' f c => by have := h σ' f; unfold an22 at this; rw [if_neg c] at this; exact this
  refine c_X11_copy (v_X11_copy_0 o hR.2.2.2.2.2.2.2.2.2.2.2.1 hR.1 hS.1 hS.2.1 hW.1 (by omega) ⟨fun hc => no σ FrD.rf (by omega), fun hc => ⟨fun hc2 => no σ FrD.rf (by omega), fun hc2 => ⟨fun hc3 => no σ FrD.rf (by omega), fun hc3 => ⟨fun hc4 => no σ FrD.rf (by omega), fun hc4 => shx hL hc3 hc4 fun hp => ?_⟩⟩⟩⟩)
  have hK := h0.DK
  have hz := hK.1 a (by omega) (by omega)
  refine g_ptake hW hp (by omega) (by omega) (by omega) (by omega) fun σ2 s2 z2 => ?_
  rw [hz] at z2
  refine kd_keep hL (hK.same fun c' g0 g1 => funext fun j => s2 c' j (by omega) (by omega) (by omega)) (by omega) (by omega) (by omega) (by omega) fun σ' f => ?_
  have := h σ' (FrD.tr (fun c' g => funext fun j => s2 c' j (by omega) (by omega) (by omega)) f)
  unfold an22 at this
  rw [if_pos (by omega)] at this
  rw [z2]
  exact this
theorem k_laySum0 {P : Int → Mem → Prop} {a c m : Int} (hA : PolyL N Λ a) (hB : PolyL N Λ c) (hd : 1 ≤ d) (hz : σ c 2 = 0) (h : P 0 σ) : CI l mX5_laySum d [(2, a), (2, c), (0, m)] N Λ σ P := by
  refine c_X5_laySum (v_X5_laySum_0 (v_X5_laySum_5 hB.1 hA.1 hB.2.1 hB.2.2.1 hd ?_))
  rw [hz]
  exact ⟨fun _ => h, fun hc => absurd (Int.le_refl 0) hc⟩
theorem k_layProduct0 {P : Int → Mem → Prop} {a c e : Int} (hB : PolyL N Λ c) (hz : σ c 2 = 0) (h : P 0 σ) : CI l mX5_layProduct d [(2, a), (2, c), (2, e)] N Λ σ P := by
  refine c_X5_layProduct (v_X5_layProduct_0 (v_X5_layProduct_5 hB.1 ?_))
  rw [hz]
  exact ⟨fun _ => h, fun hc => absurd (Int.le_refl 0) hc⟩
def an_add (s a m b n : Int) : Int := if ¬ (((0 ≤ s ∧ s < 6) ∧ 0 ≤ a ∧ a < 6) ∧ 0 ≤ b ∧ b < 6) then -2 else if ¬ ((-99 ≤ m ∧ m ≤ 99) ∧ -99 ≤ n ∧ n ≤ 99) then -3 else 0
theorem kd_add {P : Int → Mem → Prop} {s a m b n : Int} (hL : DeskL N Λ t) (h0 : Desk0 σ t) (hd : 5 ≤ d) (h : ∀ σ', FrD σ σ' t → P (an_add s a m b n) σ') : CI l mX11_add d [(2, t), (0, s), (0, a), (0, m), (0, b), (0, n)] N Λ σ P := by
  obtain ⟨o, hR, hS, hH, hI, hMd, hT, hSt, hFi, hFo, hE, hFa, hTm, hW, hOt, hS1, hS2⟩ := id hL
  have no : ∀ σ', FrD σ σ' t → ¬ (((0 ≤ s ∧ s < 6) ∧ 0 ≤ a ∧ a < 6) ∧ 0 ≤ b ∧ b < 6) → P (-2) σ' := fun σ' f c => by have := h σ' f; unfold an_add at this; rw [if_pos c] at this; exact this
  have no2 : ∀ σ', FrD σ σ' t → (((0 ≤ s ∧ s < 6) ∧ 0 ≤ a ∧ a < 6) ∧ 0 ≤ b ∧ b < 6) → ¬ ((-99 ≤ m ∧ m ≤ 99) ∧ -99 ≤ n ∧ n ≤ 99) → P (-3) σ' := fun σ' f c c2 => by have := h σ' f; unfold an_add at this; rw [if_neg (fun z => z c), if_pos c2] at this; exact this
  refine c_X11_add (v_X11_add_0 o hR.2.2.2.2.2.2.2.2.2.2.2.1 hW.1 hR.1 hS.1 hS.2.1 (by omega) fun τ1 e1 => ?_)
  have f1 : FrD σ τ1 t := FrD.s e1 (by omega) (by omega)
  refine ⟨fun g => no τ1 f1 (by omega), fun g1 => ⟨fun g => no τ1 f1 (by omega), fun g2 => ⟨fun g => no τ1 f1 (by omega), fun g3 => ⟨fun g => no τ1 f1 (by omega), fun g4 => ⟨fun g => no τ1 f1 (by omega), fun g5 => ⟨fun g => no τ1 f1 (by omega), fun g6 => ⟨fun g => no2 τ1 f1 (by omega) (by omega), fun g7 => ⟨fun g => no2 τ1 f1 (by omega) (by omega), fun g8 => ⟨fun g => no2 τ1 f1 (by omega) (by omega), fun g9 => ⟨fun g => no2 τ1 f1 (by omega) (by omega), fun g10 τ2 e2 => shx hL g3 g4 fun hp => ?_⟩⟩⟩⟩⟩⟩⟩⟩⟩⟩
  have k2 : ∀ c' : Int, c' ≠ t → c' ≠ t + 596 → τ2 c' = σ c' := fun c' u1 u2 => by rw [e2, st_ne u2, e1, st_ne u1]
  have hK := h0.DK.same (σ' := τ2) fun c' u0 u1 => k2 c' (by omega) (by omega)
  have hz : τ2 (t + 596) 2 = 0 := by rw [e2, st_eq]
  refine k_laySum0 hW hp (by omega) (hK.1 a (by omega) (by omega)) ⟨fun hc => absurd rfl hc, fun _ => shx hL g5 g6 fun hp2 => k_laySum0 hW hp2 (by omega) (hK.1 b (by omega) (by omega)) ?_⟩
  refine kd_keep hL hK (by omega) (by omega) (by omega) (by omega) fun σ' f => ?_
  have := h σ' ((f1.tr (FrD.s e2 (by omega) (by omega))).tr f)
  unfold an_add at this
  rw [if_neg (fun z => z (by omega)), if_neg (fun z => z (by omega))] at this
  rw [hz]
  exact this
def an222 (s a b x : Int) : Int := if ((0 ≤ s ∧ s < 6) ∧ 0 ≤ a ∧ a < 6) ∧ 0 ≤ b ∧ b < 6 then x else -2
theorem kd_times {P : Int → Mem → Prop} {s a b : Int} (hL : DeskL N Λ t) (h0 : Desk0 σ t) (hd : 5 ≤ d) (h : ∀ σ', FrD σ σ' t → P (an222 s a b 0) σ') : CI l mX11_times d [(2, t), (0, s), (0, a), (0, b)] N Λ σ P := by
  obtain ⟨o, hR, hS, hH, hI, hMd, hT, hSt, hFi, hFo, hE, hFa, hTm, hW, hOt, hS1, hS2⟩ := id hL
  have no : ∀ σ', FrD σ σ' t → ¬ (((0 ≤ s ∧ s < 6) ∧ 0 ≤ a ∧ a < 6) ∧ 0 ≤ b ∧ b < 6) → P (-2) σ' := fun σ' f c => by have := h σ' f; unfold an222 at this; rw [if_neg c] at this; exact this
  refine c_X11_times (v_X11_times_0 o hR.2.2.2.2.2.2.2.2.2.2.2.1 hW.1 hR.1 hS.1 hS.2.1 (by omega) fun τ1 e1 => ?_)
  have f1 : FrD σ τ1 t := FrD.s e1 (by omega) (by omega)
  refine ⟨fun g => no τ1 f1 (by omega), fun g1 => ⟨fun g => no τ1 f1 (by omega), fun g2 => ⟨fun g => no τ1 f1 (by omega), fun g3 => ⟨fun g => no τ1 f1 (by omega), fun g4 => ⟨fun g => no τ1 f1 (by omega), fun g5 => ⟨fun g => no τ1 f1 (by omega), fun g6 τ2 e2 => shx hL g3 g4 fun hp => shx hL g5 g6 fun hp2 => ?_⟩⟩⟩⟩⟩⟩
  have k2 : ∀ c' : Int, c' ≠ t → c' ≠ t + 596 → τ2 c' = σ c' := fun c' u1 u2 => by rw [e2, st_ne u2, e1, st_ne u1]
  have hK := h0.DK.same (σ' := τ2) fun c' u0 u1 => k2 c' (by omega) (by omega)
  have hz : τ2 (t + 596) 2 = 0 := by rw [e2, st_eq]
  refine k_layProduct0 hp (hK.1 a (by omega) (by omega)) ?_
  refine kd_keep hL hK (by omega) (by omega) (by omega) (by omega) fun σ' f => ?_
  have := h σ' ((f1.tr (FrD.s e2 (by omega) (by omega))).tr f)
  unfold an222 at this
  rw [if_pos (by omega)] at this
  rw [hz]
  exact this
end CL1
