section MD2
variable {l : Launch} {d N : Nat} {Λ : Lay} {σ : Mem} {b : Int}
theorem mp49_lp {P : Int → Mem → Prop} {s a p q bo : Int} (hM : ModL N Λ b) (h : ∀ σ', (∀ c', c' ≠ b + 14 → σ' c' = σ c') → WI l mX12_puts_ d P 101 [(2, b), (0, s), (0, a), (0, p), (0, q), (0, bo), (0, 0)] [] N Λ σ') : ∀ (m : Nat) (i : Int) (τ : Mem), 0 ≤ i → (10 - i).toNat ≤ m → (∀ c', c' ≠ b + 14 → τ c' = σ c') → WI l mX12_puts_ d P 49 [(2, b), (0, s), (0, a), (0, p), (0, q), (0, bo), (0, i)] [] N Λ τ := by
  intro m
  induction m with
  | zero => intro i τ g0 g1 hf; exact v_X12_puts__49 hM.1 (M_frow hM) ⟨fun _ => h τ hf, fun hc => by omega⟩
  | succ m ih =>
    intro i τ g0 g1 hf
    have nx : ∀ (v y : Int) (τ' : Mem), ¬ 10 ≤ i → τ' = st τ (b + 14) i v → y = addI i 1 → WI l mX12_puts_ d P 49 [(2, b), (0, s), (0, a), (0, p), (0, q), (0, bo), (0, y)] [] N Λ τ' := fun v y τ' hc e1 e2 => by
      rw [e2, addI_e (by omega) (by omega)]
      exact ih (i + 1) τ' (by omega) (by omega) fun c' u => by rw [e1, st_ne u]; exact hf c' u
    exact v_X12_puts__49 hM.1 (M_frow hM) ⟨fun _ => h τ hf, fun hc => ⟨fun _ => ⟨fun _ => ⟨Ix.of (M_row hM) g0 (by omega), fun τ1 e1 y2 e2 => nx _ _ _ hc e1 e2⟩, fun _ => ⟨fun _ => ⟨Ix.of (M_row hM) g0 (by omega), fun τ1 e1 y2 e2 => nx _ _ _ hc e1 e2⟩, fun _ => ⟨Ix.of (M_row hM) g0 (by omega), fun τ1 e1 y2 e2 => nx _ _ _ hc e1 e2⟩⟩⟩, fun _ => ⟨Ix.of (M_row hM) g0 (by omega), fun τ1 e1 y2 e2 => nx _ _ _ hc e1 e2⟩⟩⟩
theorem m_puts_ {P : Int → Mem → Prop} {s a p q bo : Int} (hM : ModL N Λ b) (hz : ∀ x : Int, 0 ≤ x → x < 6 → σ (b + 3) (161 * x) = 0) (h5 : σ b 5 = 0) (hd : 5 ≤ d) (h : ∀ σ', P (an2p s a p q) σ') : CI l mX12_puts_ d [(2, b), (0, s), (0, a), (0, p), (0, q), (0, bo)] N Λ σ P := by
  refine c_X12_puts_ (v_X12_puts__0 hM.1 (M_fpool hM) (M_fstate hM) (by omega) ?_)
  simp only [cmpL_lt, cmpL_gt]
  have no : ∀ σ', ¬ ((((0 ≤ s ∧ s < 6) ∧ 0 ≤ a ∧ a < 6) ∧ 0 ≤ p ∧ p < 10) ∧ 0 ≤ q ∧ q < 10) → P (-2) σ' := fun σ' c => by have := h σ'; unfold an2p at this; rw [if_neg c] at this; exact this
  refine ⟨fun g _ _ => no _ (by omega), fun g1 => ⟨fun g _ _ => no _ (by omega), fun g2 => ⟨fun g _ _ => no _ (by omega), fun g3 => ⟨fun g _ _ => no _ (by omega), fun g4 => ⟨fun g _ _ => no _ (by omega), fun g5 => ⟨fun g _ _ => no _ (by omega), fun g6 => ⟨fun g _ _ => no _ (by omega), fun g7 => ⟨fun g _ _ => no _ (by omega), fun g8 τ2 e2 => ⟨ix0 hM, fun τ3 e3 => ?_⟩⟩⟩⟩⟩⟩⟩⟩⟩
  have k3 : ∀ c', c' ≠ b → c' ≠ b + 6 → τ3 c' = σ c' := fun c' u0 u1 => by rw [e3, st_ne u1, e2, st_ne u0]
  have z5 : τ3 b 5 = 0 := by rw [e3, st_ne (by omega), e2, st_nj (by decide)]; exact h5
  have z8 : τ3 b 8 = 0 := by rw [e3, st_ne (by omega), e2, st_eq]
  have zp : τ3 (b + 6) 0 = 0 := by rw [e3, m161_0, st_eq]
  refine m_take hM (s := a) (p := 1) (by omega) (by decide) (mulI_e (by omega) (by omega)) (by decide) (by rw [k3 _ (by omega) (by omega)]; exact hz a (by omega) (by omega)) fun σ4 k4 j4 w4 => ?_
  refine mp49_lp hM (fun σ5 k5 => ?_) 10 0 σ4 (by decide) (by decide) (fun _ _ => rfl)
  refine v_X12_puts__101 hM.1 (M_fpool hM) (M_frow hM) (by omega) ?_
  have q1 : σ5 (b + 6) (mulI 161 1) = 0 := by rw [show mulI 161 1 = 161 * 1 by decide, k5 _ (by omega)]; exact w4
  rw [q1]
  refine ⟨Ix.of (M_pool hM) (by decide) (by decide), fun _ => ?_, fun hc => absurd (Int.le_refl 0) hc⟩
  refine m_ends hM (by omega) (by rw [k5 _ (by omega), k4 _ (by omega)]; exact z5) (by rw [k5 _ (by omega), k4 _ (by omega)]; exact z8) (by omega) fun σ' => ?_
  rw [k5 _ (by omega), j4 0 (by omega), zp]
  have := h σ'
  unfold an2p at this
  rw [if_pos (by omega)] at this
  exact this
theorem MZ.sh {τ : Mem} (hZ : MZ σ b) (e : τ = st σ b 0 0) : (∀ x : Int, 0 ≤ x → x < 6 → τ (b + 3) (161 * x) = 0) ∧ τ b 5 = 0 := by
  refine ⟨fun x u0 u1 => ?_, ?_⟩
  · rw [e, st_ne (by omega)]; exact hZ.st0 (by omega)
  · rw [e, st_nj (by decide)]; exact hZ.f (by decide)
theorem km_put {P : Int → Mem → Prop} {s a p q : Int} (hM : ModL N Λ b) (hZ : MZ σ b) (hd : 6 ≤ d) (h : ∀ σ', P (an2p s a p q) σ') : CI l mX12_put d [(2, b), (0, s), (0, a), (0, p), (0, q)] N Λ σ P :=
  c_X12_put (v_X12_put_0 hM.1 (by omega) fun τ1 e1 => m_puts_ hM (hZ.sh e1).1 (hZ.sh e1).2 (by omega) fun σ' => h σ')
theorem km_turn {P : Int → Mem → Prop} {s a p q : Int} (hM : ModL N Λ b) (hZ : MZ σ b) (hd : 6 ≤ d) (h : ∀ σ', P (an2p s a p q) σ') : CI l mX12_turn d [(2, b), (0, s), (0, a), (0, p), (0, q)] N Λ σ P :=
  c_X12_turn (v_X12_turn_0 hM.1 (by omega) fun τ1 e1 => m_puts_ hM (hZ.sh e1).1 (hZ.sh e1).2 (by omega) fun σ' => h σ')
theorem km_straight {P : Int → Mem → Prop} {s a : Int} (hM : ModL N Λ b) (hZ : MZ σ b) (hd : 5 ≤ d) (h : ∀ σ', P (an22 s a 0) σ') : CI l mX12_straight d [(2, b), (0, s), (0, a)] N Λ σ P := by
  refine c_X12_straight (v_X12_straight_0 hM.1 (M_fpool hM) (M_fstate hM) (by omega) fun τ1 e1 => ?_)
  simp only [cmpL_lt, cmpL_gt]
  have no : ∀ σ', ¬ ((0 ≤ s ∧ s < 6) ∧ 0 ≤ a ∧ a < 6) → P (-2) σ' := fun σ' c => by have := h σ'; unfold an22 at this; rw [if_neg c] at this; exact this
  refine ⟨fun g _ _ => no _ (by omega), fun g1 => ⟨fun g _ _ => no _ (by omega), fun g2 => ⟨fun g _ _ => no _ (by omega), fun g3 => ⟨fun g _ _ => no _ (by omega), fun g4 τ2 e2 => ⟨ix0 hM, fun τ3 e3 => ?_⟩⟩⟩⟩⟩
  have hs := hZ.sh e1
  have k3 : τ3 (b + 3) = τ1 (b + 3) := by rw [e3, st_ne (by omega), e2, st_ne (by omega)]
  have z5 : τ3 b 5 = 0 := by rw [e3, st_ne (by omega), e2, st_nj (by decide)]; exact hs.2
  have z8 : τ3 b 8 = 0 := by rw [e3, st_ne (by omega), e2, st_eq]
  refine m_take hM (s := a) (p := 0) (by omega) (by decide) (mulI_e (by omega) (by omega)) (by decide) (by rw [k3]; exact hs.1 a (by omega) (by omega)) fun σ4 k4 j4 w4 => ?_
  refine m_str0 hM (by omega) (by decide) w4 ?_
  refine m_ends hM (by omega) (by rw [k4 _ (by omega)]; exact z5) (by rw [k4 _ (by omega)]; exact z8) (by omega) fun σ' => ?_
  rw [show σ4 (b + 6) 0 = 0 from w4]
  have := h σ'
  unfold an22 at this
  rw [if_pos (by omega)] at this
  exact this
theorem m_red0 {P : Mem → Prop} {a : Int} (hM : ModL N Λ b) (hd : 2 ≤ d) (ha : 0 ≤ a ∧ a < 6) (hz : σ (b + 3) (161 * a) = 0) (h : ∀ σ', (∀ c', c' ≠ b + 6 → σ' c' = σ c') → σ' (b + 6) 0 = σ (b + 6) 0 → P σ') : CV l mX12_reduces d [(2, b), (0, a)] N Λ σ P := by
  refine c_X12_reduces (v_X12_reduces_0 hM.1 (M_fstate hM) (M_fpool hM) hd ?_)
  refine m_take hM (s := a) (p := 1) ha (by decide) (mulI_e (by omega) (by omega)) (by decide) hz fun σ1 k1 j1 w1 => ?_
  refine v_X12_reduces_8 hM.1 (M_fpool hM) (by omega) ?_
  rw [show mulI 161 1 = 161 * 1 by decide, w1]
  exact ⟨Ix.of (M_pool hM) (by decide) (by decide), fun _ => h σ1 k1 (j1 0 (by omega)), fun hc => absurd (Int.le_refl 0) hc⟩
theorem km_reduce {P : Int → Mem → Prop} {s a : Int} (hM : ModL N Λ b) (hZ : MZ σ b) (hd : 5 ≤ d) (h : ∀ σ', P (an22 s a 0) σ') : CI l mX12_reduce d [(2, b), (0, s), (0, a)] N Λ σ P := by
  refine c_X12_reduce (v_X12_reduce_0 hM.1 (M_fpool hM) (M_fstate hM) (M_fdeeds hM) (by omega) fun τ1 e1 => ?_)
  simp only [cmpL_lt, cmpL_gt]
  have no : ∀ σ', ¬ ((0 ≤ s ∧ s < 6) ∧ 0 ≤ a ∧ a < 6) → P (-2) σ' := fun σ' c => by have := h σ'; unfold an22 at this; rw [if_neg c] at this; exact this
  refine ⟨fun g => no _ (by omega), fun g1 => ⟨fun g => no _ (by omega), fun g2 => ⟨fun g => no _ (by omega), fun g3 => ⟨fun g => no _ (by omega), fun g4 τ2 e2 => ⟨ix0 hM, fun τ3 e3 => ?_⟩⟩⟩⟩⟩
  have hs := hZ.sh e1
  have k3 : τ3 (b + 3) = τ1 (b + 3) := by rw [e3, st_ne (by omega), e2, st_ne (by omega)]
  have z5 : τ3 b 5 = 0 := by rw [e3, st_ne (by omega), e2, st_nj (by decide)]; exact hs.2
  have zp : τ3 (b + 6) 0 = 0 := by rw [e3, m161_0, st_eq]
  refine m_red0 hM (by omega) (by omega) (by rw [k3]; exact hs.1 a (by omega) (by omega)) fun σ4 k4 w4 => ?_
  have y5 : σ4 b 5 = 0 := by rw [k4 b (by omega)]; exact z5
  refine ⟨fun _ => m_bec hM y5 (by omega) fun σ' z => ⟨ix0 hM, ?_⟩, fun hc => absurd (y5.symm.trans hc) (by decide)⟩
  rw [m161_0, z, w4, zp]
  have := h σ'
  unfold an22 at this
  rw [if_pos (by omega)] at this
  exact this
theorem km_place {P : Int → Mem → Prop} {p x y z : Int} (hM : ModL N Λ b) (hZ : MZ σ b) (hd : 5 ≤ d) (h : ∀ σ', P (an_place p x y z) σ') : CI l mX12_place d [(2, b), (0, p), (0, x), (0, y), (0, z)] N Λ σ P := by
  refine c_X12_place (v_X12_place_0 hM.1 (M_fstate hM) (M_fdeeds hM) (by omega) fun τ1 e1 => ?_)
  simp only [cmpL_lt, cmpL_gt]
  have no : ∀ σ', ¬ (0 ≤ p ∧ p < 10) → P (-2) σ' := fun σ' c => by have := h σ'; unfold an_place at this; rw [if_pos c] at this; exact this
  have no2 : ∀ σ', (0 ≤ p ∧ p < 10) → ¬ ((-99 ≤ x ∧ x ≤ 99) ∧ (-99 ≤ y ∧ y ≤ 99) ∧ -99 ≤ z ∧ z ≤ 99) → P (-3) σ' := fun σ' c c2 => by have := h σ'; unfold an_place at this; rw [if_neg (fun z => z c), if_pos c2] at this; exact this
  refine ⟨fun g => no _ (by omega), fun g1 => ⟨fun g => no _ (by omega), fun g2 => ⟨fun g => no2 _ (by omega) (by omega), fun g3 => ⟨fun g => no2 _ (by omega) (by omega), fun g4 => ⟨fun g => no2 _ (by omega) (by omega), fun g5 => ⟨fun g => no2 _ (by omega) (by omega), fun g6 => ⟨fun g => no2 _ (by omega) (by omega), fun g7 => ⟨fun g => no2 _ (by omega) (by omega), fun g8 => ?_⟩⟩⟩⟩⟩⟩⟩⟩
  have hs := hZ.sh e1
  have ye : ∀ σ', P 0 σ' := fun σ' => by have := h σ'; unfold an_place at this; rw [if_neg (fun z => z (by omega)), if_neg (fun z => z (by omega))] at this; exact this
  have m1 : addI 966 (mulI 3 p) = 966 + 3 * p := by rw [mulI_e (x := 3) (y := p) (by omega) (by omega), addI_e (by omega) (by omega)]
  rw [m1, addI_e (x := 966 + 3 * p) (y := 1) (by omega) (by omega), addI_e (x := 966 + 3 * p) (y := 2) (by omega) (by omega)]
  have ix : ∀ j : Int, 0 ≤ j → j < 3348 → Ix N Λ (b + 3) 0 j := fun j u0 u1 => Ix.of (M_state hM) u0 u1
  refine ⟨fun _ => m_note hM hs.2 fun σ3 _ => ⟨ix _ (by omega) (by omega), fun τ4 _ => ⟨ix _ (by omega) (by omega), fun τ5 _ => ⟨ix _ (by omega) (by omega), fun τ6 _ => ye _⟩⟩⟩, fun hc => absurd (hs.2.symm.trans hc) (by decide)⟩
theorem km_terms {P : Int → Mem → Prop} {s : Int} (hM : ModL N Λ b) (hZ : MZ σ b) (hd : 2 ≤ d) (h : ∀ σ', P (an2 s 0) σ') : CI l mX12_terms d [(2, b), (0, s)] N Λ σ P := by
  refine c_X12_terms (v_X12_terms_0 hM.1 (M_fstate hM) hd fun τ1 e1 => ?_)
  simp only [cmpL_lt, cmpL_gt]
  refine ⟨fun g => ?_, fun g1 => ⟨fun g => ?_, fun g2 => ?_⟩⟩
  · rw [← an2_n (x := 0) g]; exact h _
  · rw [← an2_m (s := s) (x := 0) (by omega)]; exact h _
  · rw [mulI_e (x := 161) (y := s) (by omega) (by omega), (hZ.sh e1).1 s (by omega) (by omega)]
    refine ⟨Ix.of (M_state hM) (by omega) (by omega), ?_⟩
    rw [← an2_y (s := s) (x := 0) g1 (by omega)]; exact h _
theorem km_term {P : Int → Mem → Prop} {s i w : Int} (hM : ModL N Λ b) (hZ : MZ σ b) (hd : 2 ≤ d) (h : ∀ σ', P (-2147483648) σ') : CI l mX12_term_ d [(2, b), (0, s), (0, i), (0, w)] N Λ σ P := by
  refine c_X12_term_ (v_X12_term__0 hM.1 (M_fstate hM) (M_fletterOf hM) hd fun τ1 e1 => ⟨fun g => h _, fun g1 => ⟨fun g => h _, fun g2 => ?_⟩⟩)
  have g1' := mt cmpL_lt.mpr g1
  have g2' := mt cmpL_gt.mpr g2
  rw [mulI_e (x := 161) (y := s) (by omega) (by omega), (hZ.sh e1).1 s (by omega) (by omega)]
  refine ⟨Ix.of (M_state hM) (by omega) (by omega), fun g => h _, fun g3 => ⟨fun g => h _, fun g4 => ?_⟩⟩
  have g3' := mt cmpL_lt.mpr g3
  have g4' := mt cmpL_gt.mpr g4
  rw [show subI 0 1 = -1 by decide] at g4'
  exact absurd g4' (by omega)
theorem km_degree {P : Int → Mem → Prop} {s p : Int} (hM : ModL N Λ b) (hZ : MZ σ b) (hd : 2 ≤ d) (h : ∀ σ', P (an_deg s p) σ') : CI l mX12_degree d [(2, b), (0, s), (0, p)] N Λ σ P := by
  refine c_X12_degree (v_X12_degree_0 hM.1 hd fun τ1 e1 => ?_)
  simp only [cmpL_lt, cmpL_gt]
  have no : ∀ σ', ¬ ((0 ≤ s ∧ s < 6) ∧ 0 ≤ p ∧ p < 10) → P (-2) σ' := fun σ' c => by have := h σ'; unfold an_deg at this; rw [if_neg c] at this; exact this
  refine ⟨fun g => no _ (by omega), fun g1 => ⟨fun g => no _ (by omega), fun g2 => ⟨fun g => no _ (by omega), fun g3 => ⟨fun g => no _ (by omega), fun g4 => v_X12_degree_27 hM.1 (M_fstate hM) (M_state hM).1 (by omega) ?_⟩⟩⟩⟩
  rw [mulI_e (x := 161) (y := s) (by omega) (by omega), (hZ.sh e1).1 s (by omega) (by omega)]
  refine ⟨Ix.of (M_state hM) (by omega) (by omega), fun _ => ?_, fun hc => absurd (Int.le_refl 0) hc⟩
  have := h τ1
  unfold an_deg at this
  rw [if_pos (by omega)] at this
  exact this
theorem km_steps {P : Int → Mem → Prop} {s : Int} (hM : ModL N Λ b) (hZ : MZ σ b) (hd : 5 ≤ d) (h : ∀ σ', P (an2 s 0) σ') : CI l mX12_steps_ d [(2, b), (0, s)] N Λ σ P := by
  refine c_X12_steps_ (v_X12_steps__0 hM.1 (M_fpool hM) (M_fstate hM) (by omega) fun τ1 e1 => ?_)
  simp only [cmpL_lt, cmpL_gt]
  refine ⟨fun g _ _ => ?_, fun g1 => ⟨fun g _ _ => ?_, fun g2 τ2 e2 => ⟨ix0 hM, fun τ3 e3 => ?_⟩⟩⟩
  · rw [← an2_n (x := 0) g]; exact h _
  · rw [← an2_m (s := s) (x := 0) (by omega)]; exact h _
  · have hs := hZ.sh e1
    have k3 : τ3 (b + 3) = τ1 (b + 3) := by rw [e3, st_ne (by omega), e2, st_ne (by omega)]
    have z8 : τ3 b 8 = 0 := by rw [e3, st_ne (by omega), e2, st_eq]
    refine m_take hM (s := s) (p := 0) (by omega) (by decide) (mulI_e (by omega) (by omega)) (by decide) (by rw [k3]; exact hs.1 s (by omega) (by omega)) fun σ4 k4 j4 w4 => ?_
    refine m_str0 hM (by omega) (by decide) w4 fun τ5 e5 τ6 e6 => ?_
    have y8 : τ6 b 8 = 0 := by rw [e6, st_nj (by decide), e5, st_nj (by decide), k4 b (by omega)]; exact z8
    have y24 : τ6 b 24 = 0 := by rw [e6, st_nj (by decide), e5, st_eq]
    refine ⟨fun hc => absurd y8 hc, fun _ => ?_⟩
    rw [y24, ← an2_y (s := s) (x := 0) g1 (by omega)]; exact h _
theorem km_left {P : Int → Mem → Prop} {s : Int} (hM : ModL N Λ b) (hZ : MZ σ b) (hd : 5 ≤ d) (h : ∀ σ', P (an2 s 0) σ') : CI l mX12_left d [(2, b), (0, s)] N Λ σ P := by
  refine c_X12_left (v_X12_left_0 hM.1 (M_fpool hM) (M_fstate hM) (by omega) fun τ1 e1 => ?_)
  simp only [cmpL_lt, cmpL_gt]
  refine ⟨fun g _ _ => ?_, fun g1 => ⟨fun g _ _ => ?_, fun g2 τ2 e2 => ⟨ix0 hM, fun τ3 e3 => ?_⟩⟩⟩
  · rw [← an2_n (x := 0) g]; exact h _
  · rw [← an2_m (s := s) (x := 0) (by omega)]; exact h _
  · have hs := hZ.sh e1
    have k3 : τ3 (b + 3) = τ1 (b + 3) := by rw [e3, st_ne (by omega), e2, st_ne (by omega)]
    have z8 : τ3 b 8 = 0 := by rw [e3, st_ne (by omega), e2, st_eq]
    refine m_take hM (s := s) (p := 0) (by omega) (by decide) (mulI_e (by omega) (by omega)) (by decide) (by rw [k3]; exact hs.1 s (by omega) (by omega)) fun σ4 k4 j4 w4 => ?_
    refine m_str0 hM (by omega) (by decide) w4 fun τ5 e5 τ6 e6 => ?_
    have y8 : τ6 b 8 = 0 := by rw [e6, st_nj (by decide), e5, st_nj (by decide), k4 b (by omega)]; exact z8
    refine ⟨fun hc => absurd y8 hc, fun _ => ⟨ix0 hM, ?_⟩⟩
    rw [m161_0, e6, st_ne (by omega), e5, st_ne (by omega), show σ4 (b + 6) 0 = 0 from w4, ← an2_y (s := s) (x := 0) g1 (by omega)]; exact h _
theorem km_equal {P : Int → Mem → Prop} {s a : Int} (hM : ModL N Λ b) (hZ : MZ σ b) (hd : 5 ≤ d) (h : ∀ σ', P (an22 s a 1) σ') : CI l mX12_equal d [(2, b), (0, s), (0, a)] N Λ σ P := by
  refine c_X12_equal (v_X12_equal_0 hM.1 (M_fpool hM) (M_fstate hM) (by omega) fun τ1 e1 => ?_)
  simp only [cmpL_lt, cmpL_gt]
  have no : ∀ σ', ¬ ((0 ≤ s ∧ s < 6) ∧ 0 ≤ a ∧ a < 6) → P (-2) σ' := fun σ' c => by have := h σ'; unfold an22 at this; rw [if_neg c] at this; exact this
  refine ⟨fun g _ _ => no _ (by omega), fun g1 => ⟨fun g _ _ => no _ (by omega), fun g2 => ⟨fun g _ _ => no _ (by omega), fun g3 => ⟨fun g _ _ => no _ (by omega), fun g4 τ2 e2 => ⟨ix0 hM, fun τ3 e3 => ?_⟩⟩⟩⟩⟩
  have hs := hZ.sh e1
  have k3 : τ3 (b + 3) = τ1 (b + 3) := by rw [e3, st_ne (by omega), e2, st_ne (by omega)]
  have z8 : τ3 b 8 = 0 := by rw [e3, st_ne (by omega), e2, st_eq]
  refine m_take hM (s := s) (p := 3) (by omega) (by decide) (mulI_e (by omega) (by omega)) (by decide) (by rw [k3]; exact hs.1 s (by omega) (by omega)) fun σ4 k4 j4 w4 => ?_
  refine m_str0 hM (by omega) (by decide) w4 fun τ5 e5 τ6 e6 => ?_
  have n6 : ∀ c', c' ≠ b → τ6 c' = σ4 c' := fun c' u => by rw [e6, st_ne u, e5, st_ne u]
  have y8 : τ6 b 8 = 0 := by rw [e6, st_nj (by decide), e5, st_nj (by decide), k4 b (by omega)]; exact z8
  refine ⟨fun hc => absurd y8 hc, fun _ => ?_⟩
  refine m_take hM (s := a) (p := 4) (by omega) (by decide) (mulI_e (by omega) (by omega)) (by decide) (by rw [n6 _ (by omega), k4 _ (by omega), k3]; exact hs.1 a (by omega) (by omega)) fun σ7 k7 j7 w7 => ?_
  refine m_str0 hM (by omega) (by decide) w7 fun τ8 e8 τ9 e9 => ?_
  have n9 : ∀ c', c' ≠ b → τ9 c' = σ7 c' := fun c' u => by rw [e9, st_ne u, e8, st_ne u]
  have x8 : τ9 b 8 = 0 := by rw [e9, st_nj (by decide), e8, st_nj (by decide), k7 b (by omega)]; exact y8
  refine ⟨fun hc => absurd x8 hc, fun _ => ?_⟩
  have p3 : τ9 (b + 6) (161 * 3) = 0 := by rw [n9 _ (by omega), j7 _ (by omega), n6 _ (by omega)]; exact w4
  have p4 : τ9 (b + 6) (161 * 4) = 0 := by rw [n9 _ (by omega)]; exact w7
  have fin : P 1 τ9 := by
    have := h τ9
    unfold an22 at this
    rw [if_pos (by omega)] at this
    exact this
  have ix : ∀ j : Int, 0 ≤ j → j < 31556 → Ix N Λ (b + 6) 0 j := fun j u0 u1 => Ix.of (M_pool hM) u0 u1
  refine c_X12_areAlike (v_X12_areAlike_0 (v_X12_areAlike_2 hM.1 (M_fpool hM) (by omega) ?_))
  rw [show mulI 161 3 = 161 * 3 by decide, show mulI 161 4 = 161 * 4 by decide, p3, show mulI 2 0 = 0 by decide, show addI (161 * 3) 0 = 161 * 3 by decide, show addI (161 * 4) 0 = 161 * 4 by decide, p3, p4]
  refine ⟨ix _ (by decide) (by decide), fun hc => absurd hc (by decide), fun _ => ⟨ix _ (by decide) (by decide), ix _ (by decide) (by decide), fun _ y1 e1 => ?_, fun hc => absurd rfl hc⟩⟩
  rw [show y1 = 1 from e1.trans (by decide)]
  refine v_X12_areAlike_2 hM.1 (M_fpool hM) (by omega) ?_
  rw [show mulI 161 3 = 161 * 3 by decide, p3, show mulI 2 0 = 0 by decide]
  exact ⟨ix _ (by decide) (by decide), fun _ => ⟨fun hc => absurd hc (by decide), fun _ => fin⟩, fun hc => absurd (by decide) hc⟩
end MD2
