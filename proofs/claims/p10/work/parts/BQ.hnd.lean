/-! the reference: figures, undone calls, images on any object -/
section KH
variable {l : Launch} {d N : Nat} {Λ : Lay} {ω σ : Mem} {b : Int}
/-- the state is taken from another block -/
theorem RI.blk {τ : Mem} {x f : Int} (h : RI ω σ b) (hv : ∀ s : Int, 0 ≤ s → s < 6 → RV (σ x) (f + 161 * s)) (e : τ = cpM σ x f (b + 3) 0 1116) : RI ω τ b := h.cps (k := 0) (by decide) hv (by rw [e]; rfl)
theorem Q_undo {P : Int → Mem → Prop} {x1 : Int} (hM : ModL N Λ b) (hR : RI ω σ b) (hd : 2 ≤ d) (h : ∀ v σ', RI ω σ' b → P v σ') : CI l mX12_undo d [(2, b), (0, x1)] N Λ σ P := by
  refine c_X12_undo (u_X12_undo_0 hM.1 (M_fdeeds hM) (M_fstate hM) (by omega) fun τ1 e1 => ?_)
  have R1 := hR.fo e1 (by decide)
  have d5 := R1.d5
  refine ⟨fun _ => h _ _ R1, fun q1 => ⟨fun _ => h _ _ R1, fun q2 => ⟨fun q3 τ2 e2 => ?_, fun _ => h _ _ R1⟩⟩⟩
  have a1 := cl_n q1
  have a2 := cg_n q2
  rw [subI_e (by omega) (by omega)] at e2
  have R2 := R1.f5 e2 (by omega)
  have v2 : τ2 b 5 = τ1 b 5 - x1 := by rw [e2, st_eq]
  have g5 := R2.d5
  rw [mulI_e (x := 1116) (y := τ2 b 5) (by omega) (by omega)]
  have R3 : RI ω (cpM τ2 (b + 4) (1116 * τ2 b 5) (b + 3) 0 1116) b := R2.blk (fun s h0 h1 => R2.dds (k := τ2 b 5) g5.1 (by omega) h0 h1) rfl
  exact k_copies (M_deeds hM) (M_state hM) (by omega) (by decide) (by decide) (by omega) (by decide) (by decide) (by decide) (Or.inl (by omega)) (h _ _ R3)
theorem RI.mad {i : Int} (h : RI ω σ b) : RI (st ω (b + 5) i 1) (st σ (b + 5) i 1) b := by
  have hc : ∀ c, c ≠ b + 5 → st σ (b + 5) i 1 c = σ c := fun c hn => st_ne hn
  refine ⟨fun p h0 h1 => by rw [hc _ (by omega)]; exact h.pool h0 h1, fun k s h0 h1 h2 h3 => by rw [hc _ (by omega)]; exact h.stt h0 h1 h2 h3, fun k s h0 h1 h2 h3 => by rw [hc _ (by omega)]; exact h.dds h0 h1 h2 h3, by rw [hc _ (by omega)]; exact h.rk, by rw [hc _ (by omega)]; exact h.lt, fun c' j' => ?_, fun c' hcc => ?_⟩
  · by_cases h5 : c' = b + 5
    · exact RO.x (by omega)
    · rw [hc _ h5]; exact h.ok _ _
  · by_cases h5 : c' = b + 5
    · subst h5
      funext j
      by_cases hj : j = i
      · subst hj
        rw [st_eq, st_eq]
      · rw [st_nj hj, st_nj hj, h.fr (Or.inr (Or.inr rfl))]
    · rw [st_ne h5, st_ne h5]
      exact h.fr hcc
theorem Q_image {P : Int → Mem → Prop} {x1 : Int} (hM : ModL N Λ b) (hR : RI ω σ b) (hd : 2 ≤ d) (h2 : ¬ (0 ≤ x1 ∧ x1 < 2) → ∀ σ', RI ω σ' b → P (-2) σ') (h : 0 ≤ x1 ∧ x1 < 2 → ∀ σ', RI ω σ' b → P 0 (st σ' (b + 5) x1 1)) : CI l mX12_image d [(2, b), (0, x1)] N Λ σ P := by
  refine c_X12_image (u_X12_image_0 hM.1 (M_fstate hM) (M_fhasImage hM) (by omega) fun τ1 e1 => ?_)
  have R1 := hR.fo e1 (by decide)
  refine ⟨fun q => h2 (by have := cl_p q; omega) _ R1, fun q1 => ⟨fun q => h2 (by have := cg_p q; omega) _ R1, fun q2 => ?_⟩⟩
  have a1 := cl_n q1
  have a2 := cg_n q2
  rw [addI_e (x := x1) (y := 1) (by omega) (by omega), mulI_e (x := 1116) (y := x1 + 1) (by omega) (by omega)]
  have R2 : RI ω (cpM τ1 (b + 3) 0 (b + 3) (1116 * (x1 + 1)) 1116) b := R1.cps (k := x1 + 1) (by omega) (fun s h0 h1 => by
    have := R1.stt (k := 0) (s := s) (by decide) (by decide) h0 h1
    rw [show 1116 * 0 + 161 * s = 0 + 161 * s by omega] at this
    exact this) rfl
  refine k_copies (M_state hM) (M_state hM) (by decide) (by omega) (by decide) (by decide) (by omega) (by decide) (by decide) (Or.inr (Or.inr (by omega))) ⟨Ix.of (M_hasImage hM) (by omega) (by omega), Or.inr rfl, fun τ3 e3 => ?_⟩
  rw [e3]
  exact h (by omega) _ R2
theorem Q_restore {P : Int → Mem → Prop} {x1 : Int} (hM : ModL N Λ b) (hR : RI ω σ b) (hd : 2 ≤ d) (h2 : ¬ (0 ≤ x1 ∧ x1 < 2) → ∀ σ', RI ω σ' b → P (-2) σ') (h6 : 0 ≤ x1 ∧ x1 < 2 → ω (b + 5) x1 = 0 → ∀ σ', RI ω σ' b → P (-6) σ') (h : 0 ≤ x1 ∧ x1 < 2 → ¬ ω (b + 5) x1 = 0 → ∀ σ', RI ω σ' b → P 0 σ') : CI l mX12_restore d [(2, b), (0, x1)] N Λ σ P := by
  refine c_X12_restore (u_X12_restore_0 hM.1 (M_fhasImage hM) (M_fstate hM) (by omega) fun τ1 e1 => ?_)
  have R1 := hR.fo e1 (by decide)
  have f5 := R1.fr (c := b + 5) (Or.inr (Or.inr rfl))
  refine ⟨fun q => h2 (by have := cl_p q; omega) _ R1, fun q1 => ⟨fun q => h2 (by have := cg_p q; omega) _ R1, fun q2 => ?_⟩⟩
  have a1 := cl_n q1
  have a2 := cg_n q2
  rw [addI_e (x := x1) (y := 1) (by omega) (by omega), mulI_e (x := 1116) (y := x1 + 1) (by omega) (by omega), f5]
  refine ⟨Ix.of (M_hasImage hM) (by omega) (by omega), fun q3 => ?_, fun q3 => h6 (by omega) q3 _ R1⟩
  have R2 : RI ω (cpM τ1 (b + 3) (1116 * (x1 + 1)) (b + 3) 0 1116) b := R1.blk (fun s h0 h1' => R1.stt (k := x1 + 1) (by omega) (by omega) h0 h1') rfl
  exact k_copies (M_state hM) (M_state hM) (by omega) (by decide) (by decide) (by omega) (by decide) (by decide) (by decide) (Or.inr (Or.inl (by omega))) fun τ3 e3 => h (by omega) q3 _ (R2.f5 e3 (by decide))
theorem Q_figure {P : Int → Mem → Prop} {x1 x2 : Int} (hM : ModL N Λ b) (hR : RI ω σ b) (hd : 13 ≤ d) (h : ∀ v σ', RI ω σ' b → P v σ') : CI l mX12_figure d [(2, b), (0, x1), (0, x2)] N Λ σ P := by
  refine c_X12_figure (u_X12_figure_0 hM.1 (by omega) fun τ1 e1 => K_opensText hM (hR.fo e1 (by decide)) (by omega) fun v3 σ2 R2 f2 => ⟨fun q0 => ?_, fun _ => h _ _ R2⟩)
  obtain ⟨hs, s2⟩ := f2 q0
  have z2 := R2.d20
  have T2 : TS ω (σ2 (b + 15)) (σ2 b 20) σ2 b := ⟨R2, rfl, rfl, by omega, by omega, by omega⟩
  refine K_figureText hM T2 (by omega) fun σ4 T4 g4 => ⟨fun w0 => ?_, fun _ => K_refused hM T4.1 fun σ7 R7 => h _ _ R7⟩
  obtain ⟨a1, a2, a3, p1, p2, p3⟩ := g4 w0
  obtain ⟨R4, f4, z4, _⟩ := T4
  rw [s2] at p1
  refine K_begins hM R4 (by omega) fun σ5 R5 A5 _ τ6 e6 => ?_
  have w5 := A5.w
  have f6 : τ6 (b + 15) = σ2 (b + 15) := by rw [e6, st_ne (by omega), w5.2 _ (by omega)]; exact f4
  have z6 : τ6 b 20 = σ2 b 20 := by rw [e6, st_nj (by decide), w5.1 _ (by decide)]; exact z4
  have s6 : τ6 b 21 = 0 := by rw [e6, st_eq]
  have R6 := R5.fo e6 (by decide)
  refine u_X12_figure_53 hM.1 (by omega) ⟨fun c => absurd c (by decide), fun _ => K_point hM z2.2 2 (d - 1) 0 3 a1 τ6 _ (by decide) (by decide) (by decide) (by omega) R6 f6 z6 (fun _ => by rw [s6]; exact ⟨Int.le_refl 0, p1⟩) fun σ7 R7 f7 z7 c7 y8 e8 => ?_⟩
  rw [show addI 0 1 = 1 by decide] at e8
  subst e8
  refine u_X12_figure_53 hM.1 (by omega) ⟨fun c => absurd c (by decide), fun _ => K_point hM z2.2 2 (d - 1) 1 3 a2 σ7 _ (by decide) (by decide) (by decide) (by omega) R7 f7 z7 (fun c => ⟨(c7 c).1, by rw [(c7 c).2]; exact p2⟩) fun σ9 R9 f9 z9 c9 y9 e9 => ?_⟩
  rw [show addI 1 1 = 2 by decide] at e9
  subst e9
  refine u_X12_figure_53 hM.1 (by omega) ⟨fun c => absurd c (by decide), fun _ => K_point hM z2.2 2 (d - 1) 2 3 a3 σ9 _ (by decide) (by decide) (by decide) (by omega) R9 f9 z9 (fun c => ⟨(c9 c).1, by rw [(c9 c).2]; exact p3⟩) fun σ11 R11 f11 z11 c11 y11 e11 => ?_⟩
  rw [show addI 2 1 = 3 by decide] at e11
  subst e11
  exact u_X12_figure_53 hM.1 (by omega) ⟨fun _ => ⟨fun _ => K_ends hM R11 hs (by omega) h, fun _ => K_brackets hM R11 (by decide) (by decide) (by decide) (by decide) (by omega) fun σ12 R12 _ => K_ends hM R12 hs (by omega) h⟩, fun c => absurd (by decide) c⟩
end KH
