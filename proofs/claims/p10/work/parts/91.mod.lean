/-! the reference's calls on a new object -/
def MZ (σ : Mem) (b : Int) : Prop := Mod0 σ b (fun _ => 0)
theorem MZ.f {σ : Mem} {b j : Int} (h : MZ σ b) (hj : j ≠ 23) : σ b j = 0 := by rw [h.2.2.2.2 j, if_neg hj]
theorem MZ.st0 {σ : Mem} {b j : Int} (h : MZ σ b) (h0 : j < 996 ∨ 1116 ≤ j) : σ (b + 3) j = 0 := by rw [h.2.2.1 j, if_neg (by omega)]
theorem MZ.st2 {σ : Mem} {b j : Int} (h : MZ σ b) (h0 : 996 ≤ j) (h1 : j < 1116) : σ (b + 3) j = 2 := by rw [h.2.2.1 j, if_pos ⟨h0, h1⟩]
section MD
variable {l : Launch} {d N : Nat} {Λ : Lay} {σ : Mem} {b : Int}
theorem m161_0 : mulI 161 0 = 0 := by decide
theorem ix0 (hM : ModL N Λ b) : Ix N Λ (b + 6) 0 (mulI 161 0) := by
  rw [m161_0]
  exact Ix.of (M_pool hM) (by decide) (by decide)
theorem m_bec {Q : Mem → Prop} {x1 : Int} {d1 d2 : Nat} (hM : ModL N Λ b) (h5 : σ b 5 = 0) (hx : 0 ≤ x1 ∧ x1 < 6) (h : ∀ σ', σ' (b + 6) 0 = σ (b + 6) 0 → Q σ') : CV l mX12_copies d1 [(2, b + 3), (0, 0), (2, b + 4), (0, mulI 1116 (σ b 5)), (0, 1116)] N Λ σ (fun σ5 => ∀ τ6, τ6 = st σ5 b 5 (addI (σ5 b 5) 1) → CV l mX12_copies d2 [(2, b + 6), (0, 0), (2, b + 3), (0, mulI 161 x1), (0, 161)] N Λ τ6 (fun σ7 => Q σ7)) := by
  rw [h5, show mulI 1116 0 = 0 by decide, mulI_e (x := 161) (y := x1) (by omega) (by omega)]
  refine k_copies (M_state hM) (M_deeds hM) (by decide) (by decide) (by decide) (by decide) (by decide) (by decide) (by decide) (Or.inl (by omega)) fun τ6 e6 => ?_
  refine k_copies (M_pool hM) (M_state hM) (by decide) (by omega) (by decide) (by decide) (by omega) (by decide) (by decide) (Or.inl (by omega)) (h _ ?_)
  rw [cpM_ne (by omega), e6, st_ne (by omega), cpM_ne (by omega)]
theorem m_note {Q : Mem → Prop} {d1 : Nat} (hM : ModL N Λ b) (h5 : σ b 5 = 0) (h : ∀ σ', (∀ c', c' ≠ b → c' ≠ b + 4 → σ' c' = σ c') → Q σ') : CV l mX12_copies d1 [(2, b + 3), (0, 0), (2, b + 4), (0, mulI 1116 (σ b 5)), (0, 1116)] N Λ σ (fun σ5 => ∀ τ6, τ6 = st σ5 b 5 (addI (σ5 b 5) 1) → Q τ6) := by
  rw [h5, show mulI 1116 0 = 0 by decide]
  refine k_copies (M_state hM) (M_deeds hM) (by decide) (by decide) (by decide) (by decide) (by decide) (by decide) (by decide) (Or.inl (by omega)) fun τ6 e6 => h τ6 fun c' g0 g1 => ?_
  rw [e6, st_ne g0, cpM_ne g1]
theorem m_take {P : Mem → Prop} {s p f g : Int} (hM : ModL N Λ b) (hs : 0 ≤ s ∧ s < 6) (hp : 0 ≤ p ∧ p < 196) (ef : f = 161 * s) (eg : g = 161 * p) (hz : σ (b + 3) (161 * s) = 0) (h : ∀ σ', (∀ c', c' ≠ b + 6 → σ' c' = σ c') → (∀ j : Int, (j < 161 * p ∨ 161 * p + 161 ≤ j) → σ' (b + 6) j = σ (b + 6) j) → σ' (b + 6) (161 * p) = 0 → P σ') : CV l mX12_copies d [(2, b + 3), (0, f), (2, b + 6), (0, g), (0, 161)] N Λ σ P := by
  subst ef eg
  refine k_copies (M_state hM) (M_pool hM) (by omega) (by omega) (by decide) (by omega) (by omega) (by decide) (by decide) (Or.inl (by omega)) (h _ (fun c' g => cpM_ne g) (fun j g => ?_) ?_)
  · rw [cpM_eq, if_neg (by omega)]
  · rw [cpM_eq, if_pos (by omega), show 161 * s + (161 * p - 161 * p) = 161 * s by omega]
    exact hz
theorem m_str0 {P : Int → Mem → Prop} {p : Int} (hM : ModL N Λ b) (hd : 2 ≤ d) (hp : 0 ≤ p ∧ p < 196) (hz : σ (b + 6) (161 * p) = 0) (h : P 0 σ) : CI l mX12_straightens d [(2, b), (0, p)] N Λ σ P := by
  refine c_X12_straightens (v_X12_straightens_0 hM.1 (by omega) ?_)
  refine c_X12_lastBroken (v_X12_lastBroken_0 hM.1 (M_fpool hM) (by omega) ?_)
  rw [mulI_e (x := 161) (y := p) (by omega) (by omega), hz]
  refine ⟨Ix.of (M_pool hM) (by omega) (by omega), fun y1 e1 => ?_⟩
  rw [show y1 = -1 from e1.trans (by decide)]
  refine v_X12_lastBroken_8 hM.1 (M_fpool hM) (by omega) ⟨fun _ => ?_, fun hc => absurd (by decide) hc⟩
  exact v_X12_straightens_8 hM.1 (by omega) ⟨fun _ => h, fun hc => absurd rfl hc⟩
theorem m_ends {P : Int → Mem → Prop} {s : Int} (hM : ModL N Λ b) (hd : 3 ≤ d) (h5 : σ b 5 = 0) (h8 : σ b 8 = 0) (hs : 0 ≤ s ∧ s < 6) (h : ∀ σ', P (σ (b + 6) 0) σ') : CI l mX12_ends d [(2, b), (0, s)] N Λ σ P := by
  refine c_X12_ends (v_X12_ends_0 hM.1 (M_fstate hM) (M_fdeeds hM) (M_fpool hM) hd fun τ1 e1 => ?_)
  have z8 : τ1 b 8 = 0 := by rw [e1, st_nj (by decide)]; exact h8
  have z5 : τ1 b 5 = 0 := by rw [e1, st_nj (by decide)]; exact h5
  refine ⟨fun hc => absurd z8 hc, fun _ => ⟨fun _ => m_bec hM z5 hs fun σ' z => ⟨ix0 hM, ?_⟩, fun hc => absurd (z5.symm.trans hc) (by decide)⟩⟩
  rw [m161_0, z, e1, st_ne (by omega)]
  exact h σ'
theorem km_fault {P : Int → Mem → Prop} {w : Int} (hM : ModL N Λ b) (hZ : MZ σ b) (h : ∀ σ', P (if w = 0 then 0 else -1) σ') : CI l mX12_fault d [(2, b), (0, w)] N Λ σ P := by
  refine c_X12_fault (v_X12_fault_0 hM.1 fun τ1 e1 => ?_)
  have := h τ1
  have z23 : τ1 b 23 = -1 := by rw [e1, st_nj (by decide), hZ.2.2.2.2 23]; rfl
  have z22 : τ1 b 22 = 0 := by rw [e1, st_nj (by decide)]; exact hZ.f (by decide)
  rw [z23, z22]
  refine ⟨fun hc => ?_, fun hc => ?_⟩
  · rw [if_neg hc] at this
    exact ⟨fun _ => this, fun _ => this⟩
  · rw [if_pos hc] at this
    exact this
theorem km_why {P : Int → Mem → Prop} (hM : ModL N Λ b) (hZ : MZ σ b) (h : ∀ σ', P 0 σ') : CI l mX12_why d [(2, b)] N Λ σ P := by
  refine c_X12_why (v_X12_why_0 hM.1 fun τ1 e1 => ?_)
  rw [e1, st_nj (by decide), hZ.f (by decide)]
  exact h _
theorem km_clear {P : Int → Mem → Prop} {s : Int} (hM : ModL N Λ b) (hZ : MZ σ b) (hd : 3 ≤ d) (h : ∀ σ', P (an2 s 0) σ') : CI l mX12_clear d [(2, b), (0, s)] N Λ σ P := by
  refine c_X12_clear (v_X12_clear_0 hM.1 (M_fpool hM) (M_fstate hM) (M_fdeeds hM) hd fun τ1 e1 => ?_)
  simp only [cmpL_lt, cmpL_gt]
  refine ⟨fun g => ?_, fun g1 => ⟨fun g => ?_, fun g2 τ2 e2 => ⟨ix0 hM, fun τ3 e3 => ?_⟩⟩⟩
  · rw [← an2_n (x := 0) g]; exact h _
  · rw [← an2_m (s := s) (x := 0) (by omega)]; exact h _
  · have z5 : τ3 b 5 = 0 := by rw [e3, st_ne (by omega), e2, st_nj (by decide), e1, st_nj (by decide)]; exact hZ.f (by decide)
    have z3 : τ3 (b + 3) (161 * s) = 0 := by rw [e3, st_ne (by omega), e2, st_ne (by omega), e1, st_ne (by omega)]; exact hZ.st0 (by omega)
    refine ⟨?_, fun y4 e4 => ⟨fun _ => m_bec hM z5 (by omega) fun σ' z => ⟨ix0 hM, fun y8 _ => ?_⟩, fun hc => absurd (z5.symm.trans hc) (by decide)⟩⟩
    · rw [mulI_e (by omega) (by omega)]; exact Ix.of (M_state hM) (by omega) (by omega)
    · rw [mulI_e (by omega) (by omega), z3] at e4
      rw [e4, ← an2_y (s := s) (x := 0) g1 (by omega)]
      exact h σ'
theorem km_copy {P : Int → Mem → Prop} {s a : Int} (hM : ModL N Λ b) (hZ : MZ σ b) (hd : 3 ≤ d) (h : ∀ σ', P (an22 s a 0) σ') : CI l mX12_copy d [(2, b), (0, s), (0, a)] N Λ σ P := by
  refine c_X12_copy (v_X12_copy_0 hM.1 (M_fpool hM) (M_fstate hM) (M_fdeeds hM) hd fun τ1 e1 => ?_)
  simp only [cmpL_lt, cmpL_gt]
  have no : ∀ σ', ¬ ((0 ≤ s ∧ s < 6) ∧ 0 ≤ a ∧ a < 6) → P (-2) σ' := fun σ' c => by have := h σ'; unfold an22 at this; rw [if_neg c] at this; exact this
  refine ⟨fun g => no _ (by omega), fun g1 => ⟨fun g => no _ (by omega), fun g2 => ⟨fun g => no _ (by omega), fun g3 => ⟨fun g => no _ (by omega), fun g4 τ2 e2 => ⟨ix0 hM, fun τ3 e3 => ?_⟩⟩⟩⟩⟩
  have z5 : τ3 b 5 = 0 := by rw [e3, st_ne (by omega), e2, st_nj (by decide), e1, st_nj (by decide)]; exact hZ.f (by decide)
  have z3 : τ3 (b + 3) (161 * a) = 0 := by rw [e3, st_ne (by omega), e2, st_ne (by omega), e1, st_ne (by omega)]; exact hZ.st0 (by omega)
  refine m_take hM (s := a) (p := 0) (by omega) (by decide) (mulI_e (by omega) (by omega)) (by decide) z3 fun σ4 k4 _ w4 => ?_
  have y5 : σ4 b 5 = 0 := by rw [k4 b (by omega)]; exact z5
  refine ⟨fun _ => m_bec hM y5 (by omega) fun σ' z => ⟨ix0 hM, ?_⟩, fun hc => absurd (y5.symm.trans hc) (by decide)⟩
  rw [m161_0, z, show σ4 (b + 6) 0 = 0 from w4]
  have := h σ'
  unfold an22 at this
  rw [if_pos (by omega)] at this
  exact this
theorem m_pT0 {P : Mem → Prop} {a m : Int} (hM : ModL N Λ b) (hd : 2 ≤ d) (ha : 0 ≤ a ∧ a < 6) (hz : σ (b + 3) (161 * a) = 0) (h : ∀ σ', (∀ c', c' ≠ b + 6 → σ' c' = σ c') → σ' (b + 6) 0 = σ (b + 6) 0 → P σ') : CV l mX12_putsTimes d [(2, b), (0, a), (0, m)] N Λ σ P := by
  refine c_X12_putsTimes (v_X12_putsTimes_0 hM.1 (M_fstate hM) (M_fpool hM) hd ?_)
  refine m_take hM (s := a) (p := 1) ha (by decide) (mulI_e (by omega) (by omega)) (by decide) hz fun σ1 k1 j1 w1 => ?_
  refine v_X12_putsTimes_8 hM.1 (M_fpool hM) (by omega) ?_
  rw [show mulI 161 1 = 161 * 1 by decide, w1]
  exact ⟨Ix.of (M_pool hM) (by decide) (by decide), fun _ => h σ1 k1 (j1 0 (by omega)), fun hc => absurd (Int.le_refl 0) hc⟩
theorem km_add {P : Int → Mem → Prop} {s a m c n : Int} (hM : ModL N Λ b) (hZ : MZ σ b) (hd : 4 ≤ d) (h : ∀ σ', P (an_add s a m c n) σ') : CI l mX12_add d [(2, b), (0, s), (0, a), (0, m), (0, c), (0, n)] N Λ σ P := by
  refine c_X12_add (v_X12_add_0 hM.1 (M_fpool hM) (by omega) fun τ1 e1 => ?_)
  simp only [cmpL_lt, cmpL_gt]
  have no : ∀ σ', ¬ (((0 ≤ s ∧ s < 6) ∧ 0 ≤ a ∧ a < 6) ∧ 0 ≤ c ∧ c < 6) → P (-2) σ' := fun σ' c => by have := h σ'; unfold an_add at this; rw [if_pos c] at this; exact this
  have no2 : ∀ σ', (((0 ≤ s ∧ s < 6) ∧ 0 ≤ a ∧ a < 6) ∧ 0 ≤ c ∧ c < 6) → ¬ ((-99 ≤ m ∧ m ≤ 99) ∧ -99 ≤ n ∧ n ≤ 99) → P (-3) σ' := fun σ' c c2 => by have := h σ'; unfold an_add at this; rw [if_neg (fun z => z c), if_pos c2] at this; exact this
  refine ⟨fun g _ _ => no _ (by omega), fun g1 => ⟨fun g _ _ => no _ (by omega), fun g2 => ⟨fun g _ _ => no _ (by omega), fun g3 => ⟨fun g _ _ => no _ (by omega), fun g4 => ⟨fun g _ _ => no _ (by omega), fun g5 => ⟨fun g _ _ => no _ (by omega), fun g6 => ⟨fun g _ _ => no2 _ (by omega) (by omega), fun g7 => ⟨fun g _ _ => no2 _ (by omega) (by omega), fun g8 => ⟨fun g _ _ => no2 _ (by omega) (by omega), fun g9 => ⟨fun g _ _ => no2 _ (by omega) (by omega), fun g10 τ2 e2 => ⟨ix0 hM, fun τ3 e3 => ?_⟩⟩⟩⟩⟩⟩⟩⟩⟩⟩⟩
  have k3 : ∀ c', c' ≠ b → c' ≠ b + 6 → τ3 c' = σ c' := fun c' u0 u1 => by rw [e3, st_ne u1, e2, st_ne u0, e1, st_ne u0]
  have z3 : ∀ x : Int, 0 ≤ x → x < 6 → τ3 (b + 3) (161 * x) = 0 := fun x u0 u1 => by rw [k3 _ (by omega) (by omega)]; exact hZ.st0 (by omega)
  have z5 : τ3 b 5 = 0 := by rw [e3, st_ne (by omega), e2, st_nj (by decide), e1, st_nj (by decide)]; exact hZ.f (by decide)
  have z8 : τ3 b 8 = 0 := by rw [e3, st_ne (by omega), e2, st_eq]
  have zp : τ3 (b + 6) 0 = 0 := by rw [e3, m161_0, st_eq]
  refine m_pT0 hM (by omega) (by omega) (z3 a (by omega) (by omega)) fun σ4 k4 w4 => m_pT0 hM (by omega) (by omega) (by rw [k4 _ (by omega)]; exact z3 c (by omega) (by omega)) fun σ5 k5 w5 => ?_
  refine m_ends hM (by omega) (by rw [k5 _ (by omega), k4 _ (by omega)]; exact z5) (by rw [k5 _ (by omega), k4 _ (by omega)]; exact z8) (by omega) fun σ' => ?_
  rw [w5, w4, zp]
  have := h σ'
  unfold an_add at this
  rw [if_neg (fun z => z (by omega)), if_neg (fun z => z (by omega))] at this
  exact this
theorem km_times {P : Int → Mem → Prop} {s a c : Int} (hM : ModL N Λ b) (hZ : MZ σ b) (hd : 4 ≤ d) (h : ∀ σ', P (an222 s a c 0) σ') : CI l mX12_times d [(2, b), (0, s), (0, a), (0, c)] N Λ σ P := by
  refine c_X12_times (v_X12_times_0 hM.1 (M_fpool hM) (M_fstate hM) (by omega) fun τ1 e1 => ?_)
  simp only [cmpL_lt, cmpL_gt]
  have no : ∀ σ', ¬ (((0 ≤ s ∧ s < 6) ∧ 0 ≤ a ∧ a < 6) ∧ 0 ≤ c ∧ c < 6) → P (-2) σ' := fun σ' c => by have := h σ'; unfold an222 at this; rw [if_neg c] at this; exact this
  refine ⟨fun g _ _ => no _ (by omega), fun g1 => ⟨fun g _ _ => no _ (by omega), fun g2 => ⟨fun g _ _ => no _ (by omega), fun g3 => ⟨fun g _ _ => no _ (by omega), fun g4 => ⟨fun g _ _ => no _ (by omega), fun g5 => ⟨fun g _ _ => no _ (by omega), fun g6 τ2 e2 => ⟨ix0 hM, fun τ3 e3 => ?_⟩⟩⟩⟩⟩⟩⟩
  have k3 : ∀ c', c' ≠ b → c' ≠ b + 6 → τ3 c' = σ c' := fun c' u0 u1 => by rw [e3, st_ne u1, e2, st_ne u0, e1, st_ne u0]
  have z3 : ∀ x : Int, 0 ≤ x → x < 6 → τ3 (b + 3) (161 * x) = 0 := fun x u0 u1 => by rw [k3 _ (by omega) (by omega)]; exact hZ.st0 (by omega)
  have z5 : τ3 b 5 = 0 := by rw [e3, st_ne (by omega), e2, st_nj (by decide), e1, st_nj (by decide)]; exact hZ.f (by decide)
  have z8 : τ3 b 8 = 0 := by rw [e3, st_ne (by omega), e2, st_eq]
  have zp : τ3 (b + 6) 0 = 0 := by rw [e3, m161_0, st_eq]
  refine m_take hM (s := a) (p := 1) (by omega) (by decide) (mulI_e (by omega) (by omega)) (by decide) (z3 a (by omega) (by omega)) fun σ4 k4 j4 w4 => ?_
  refine m_take hM (s := c) (p := 2) (by omega) (by decide) (mulI_e (by omega) (by omega)) (by decide) (by rw [k4 _ (by omega)]; exact z3 c (by omega) (by omega)) fun σ5 k5 j5 w5 => ?_
  refine c_X12_multiplies (v_X12_multiplies_0 (v_X12_multiplies_3 hM.1 (M_fpool hM) (by omega) ?_))
  have q1 : σ5 (b + 6) (mulI 161 1) = 0 := by rw [show mulI 161 1 = 161 * 1 by decide, j5 _ (by omega)]; exact w4
  rw [q1]
  refine ⟨Ix.of (M_pool hM) (by decide) (by decide), fun _ => ?_, fun hc => absurd (Int.le_refl 0) hc⟩
  refine m_ends hM (by omega) (by rw [k5 _ (by omega), k4 _ (by omega)]; exact z5) (by rw [k5 _ (by omega), k4 _ (by omega)]; exact z8) (by omega) fun σ' => ?_
  rw [j5 0 (by omega), j4 0 (by omega), zp]
  have := h σ'
  unfold an222 at this
  rw [if_pos (by omega)] at this
  exact this
end MD
