section MD3
variable {l : Launch} {d N : Nat} {Λ : Lay} {σ : Mem} {b : Int}
theorem nar_b (x : Int) : narrow .byte (.int (Int32.ofInt (i2bI x))) = .int (Int32.ofInt (i2bI x)) := by
  unfold i2bI
  rw [Int32.ofInt_toInt]
  exact congrArg Value.int (by simp)
theorem mfeed_lp {P : Int → Mem → Prop} {x1 x2 x3 x4 x5 : Int} (hM : ModL N Λ b) (h : ∀ σ', P 20 σ') : ∀ (m : Nat) (i : Int) (τ : Mem), 0 ≤ i → i ≤ 20 → (20 - i).toNat ≤ m → τ b 19 = i → WI l mX12_feed d P 24 [(2, b), (0, x1), (0, x2), (0, x3), (0, x4), (0, x5), (0, i), (3, 0)] [] N Λ τ := by
  intro m
  induction m with
  | zero =>
    intro i τ g0 g1 g2 hi
    refine v_X12_feed_24 hM.1 (M_ftape hM) ⟨fun _ => ?_, fun hc => absurd (by omega) hc⟩
    rw [hi, show i = 20 by omega]
    exact h τ
  | succ m ih =>
    intro i τ g0 g1 g2 hi
    have nx : ∀ (v y : Int) (τ1 τ2 : Mem), ¬ 20 ≤ i → τ1 = st τ (b + 15) (τ b 19) v → τ2 = st τ1 b 19 (addI (τ1 b 19) 1) → y = addI i 1 → WI l mX12_feed d P 24 [(2, b), (0, x1), (0, x2), (0, x3), (0, x4), (0, x5), (0, y), (3, 0)] [] N Λ τ2 := fun v y τ1 τ2 hc e1 e2 e3 => by
      have q1 : τ1 b 19 = i := by rw [e1, st_ne (by omega)]; exact hi
      rw [e3, addI_e (by omega) (by omega)]
      refine ih (i + 1) τ2 (by omega) (by omega) (by omega) ?_
      rw [e2, st_eq, q1, addI_e (by omega) (by omega)]
    refine v_X12_feed_24 hM.1 (M_ftape hM) ⟨fun hc => ?_, fun hc => ?_⟩
    · rw [hi, show i = 20 by omega]
      exact h τ
    · have ix : Ix N Λ (b + 15) 6 (τ b 19) := Ix.of (M_tape hM) (by omega) (by omega)
      exact ⟨fun _ => ⟨fun _ => ⟨fun _ => ⟨fun _ => ⟨ix, nar_b _, fun τ1 e1 τ2 e2 y3 e3 => nx _ _ _ _ hc e1 e2 e3⟩, fun _ => ⟨ix, nar_b _, fun τ1 e1 τ2 e2 y3 e3 => nx _ _ _ _ hc e1 e2 e3⟩⟩, fun _ => ⟨ix, nar_b _, fun τ1 e1 τ2 e2 y3 e3 => nx _ _ _ _ hc e1 e2 e3⟩⟩, fun _ => ⟨ix, nar_b _, fun τ1 e1 τ2 e2 y3 e3 => nx _ _ _ _ hc e1 e2 e3⟩⟩, fun _ => ⟨ix, nar_b _, fun τ1 e1 τ2 e2 y3 e3 => nx _ _ _ _ hc e1 e2 e3⟩⟩
theorem km_feed {P : Int → Mem → Prop} {x1 x2 x3 x4 x5 : Int} (hM : ModL N Λ b) (hZ : MZ σ b) (h : ∀ σ', P 20 σ') : CI l mX12_feed d [(2, b), (0, x1), (0, x2), (0, x3), (0, x4), (0, x5)] N Λ σ P := by
  refine c_X12_feed (v_X12_feed_0 hM.1 fun τ1 e1 => ?_)
  have a19 : τ1 b 19 = 0 := by rw [e1, st_nj (by decide)]; exact hZ.f (by decide)
  exact ⟨fun _ => mfeed_lp hM h 20 0 τ1 (by decide) (by decide) (by decide) a19, fun hc => absurd (by rw [a19]; decide) hc⟩
theorem m_opens {P : Int → Mem → Prop} {s n : Int} (hM : ModL N Λ b) (h19 : σ b 19 = 0) (hd : 2 ≤ d) (h2 : ¬ (0 ≤ s ∧ s < 6) → ∀ σ', P (-2) σ') (h3 : (0 ≤ s ∧ s < 6) → ¬ n = 0 → ∀ σ', P (-3) σ') (h0 : (0 ≤ s ∧ s < 6) → n = 0 → ∀ σ', (∀ c', c' ≠ b → σ' c' = σ c') → σ' b 20 = 0 → σ' b 21 = 0 → σ' b 22 = 0 → σ' b 5 = σ b 5 → P 0 σ') : CI l mX12_opensText d [(2, b), (0, s), (0, n)] N Λ σ P := by
  refine c_X12_opensText (v_X12_opensText_0 hM.1 hd ?_)
  simp only [cmpL_lt, cmpL_gt]
  rw [h19]
  refine ⟨fun g τ _ => h2 (by clear h2 h3 h0; omega) τ, fun g1 => ⟨fun g τ _ => h2 (by clear h2 h3 h0; omega) τ, fun g2 => ⟨fun g τ _ => h3 (by clear h2 h3 h0; omega) (by clear h2 h3 h0; omega) τ, fun g3 => ⟨fun g τ _ => h3 (by clear h2 h3 h0; omega) (by clear h2 h3 h0; omega) τ, fun g4 τ5 e5 τ6 e6 τ7 e7 τ8 e8 τ9 e9 => ?_⟩⟩⟩⟩
  have hn : n = 0 := by clear h2 h3 h0; omega
  refine h0 (by clear h2 h3 h0; omega) hn τ9 (fun c' u => ?_) ?_ ?_ ?_ ?_
  · rw [e9, st_ne u, e8, st_ne u, e7, st_ne u, e6, st_ne u, e5, st_ne u]
  · rw [e9, st_nj (by decide), e8, st_nj (by decide), e7, st_nj (by decide), e6, st_eq, hn]
  · rw [e9, st_nj (by decide), e8, st_nj (by decide), e7, st_eq]
  · rw [e9, st_nj (by decide), e8, st_eq]
  · rw [e9, st_nj (by decide), e8, st_nj (by decide), e7, st_nj (by decide), e6, st_nj (by decide), e5, st_nj (by decide)]
theorem m_poly0 {P : Mem → Prop} {x : Int} (hM : ModL N Λ b) (h20 : σ b 20 = 0) (hd : 1 ≤ d) (h : ∀ σ', σ' = st σ b 21 0 → P σ') : CV l mX12_polynomial d [(2, b), (0, x)] N Λ σ P :=
  c_X12_polynomial (v_X12_polynomial_0 hM.1 fun τ1 e1 => ⟨fun _ => v_X12_polynomial_17 (v_X12_polynomial_20 hM.1 (M_ftape hM) hd ⟨fun _ => v_X12_polynomial_146 (h τ1 e1), fun hc => absurd rfl hc⟩), fun hc => absurd (Int.le_of_eq (by rw [e1, st_nj (by decide), h20])) hc⟩)
theorem an_text2 {s n x : Int} (c : ¬ (0 ≤ s ∧ s < 6)) : an_text s n x = -2 := by unfold an_text; rw [if_pos c]
theorem an_text3 {s n x : Int} (c : 0 ≤ s ∧ s < 6) (c2 : ¬ n = 0) : an_text s n x = -3 := by unfold an_text; rw [if_neg (fun z => z c), if_pos c2]
theorem an_text0 {s n x : Int} (c : 0 ≤ s ∧ s < 6) (c2 : n = 0) : an_text s n x = x := by unfold an_text; rw [if_neg (fun z => z c), if_neg (fun z => z c2)]
theorem km_told {P : Int → Mem → Prop} {s n : Int} (hM : ModL N Λ b) (hZ : MZ σ b) (hd : 5 ≤ d) (h : ∀ σ', P (an_text s n 0) σ') : CI l mX12_told d [(2, b), (0, s), (0, n)] N Λ σ P := by
  refine c_X12_told (v_X12_told_0 hM.1 (M_fpool hM) (by omega) fun τ1 e1 => ?_)
  have a19 : τ1 b 19 = 0 := by rw [e1, st_nj (by decide)]; exact hZ.f (by decide)
  have a5 : τ1 b 5 = 0 := by rw [e1, st_nj (by decide)]; exact hZ.f (by decide)
  refine m_opens hM a19 (by omega) (fun c σ' => ⟨fun hc => absurd hc (by decide), fun _ => ?_⟩) (fun c1 c2 σ' => ⟨fun hc => absurd hc (by decide), fun _ => ?_⟩) (fun c1 c2 σ2 k2 z20 z21 z22 z5 => ⟨fun _ => ?_, fun hc => absurd rfl hc⟩)
  · have := h σ'; rw [an_text2 c] at this; exact this
  · have := h σ'; rw [an_text3 c1 c2] at this; exact this
  · refine m_poly0 hM z20 (by omega) fun σ4 e4 => ⟨fun _ τ5 e5 => ⟨ix0 hM, fun τ6 e6 => ?_⟩, fun hc => absurd (by rw [e4, st_nj (by decide)]; exact z22) hc⟩
    refine m_poly0 hM (by rw [e6, st_ne (by omega), e5, st_nj (by decide), e4, st_nj (by decide)]; exact z20) (by omega) fun σ7 e7 => ?_
    have y5 : σ7 b 5 = 0 := by rw [e7, st_nj (by decide), e6, st_ne (by omega), e5, st_nj (by decide), e4, st_nj (by decide), z5]; exact a5
    have y8 : σ7 b 8 = 0 := by rw [e7, st_nj (by decide), e6, st_ne (by omega), e5, st_eq]
    have yp : σ7 (b + 6) 0 = 0 := by rw [e7, st_ne (by omega), e6, m161_0, st_eq]
    refine m_ends hM (by omega) y5 y8 c1 fun σ' => ?_
    rw [yp]
    have := h σ'; rw [an_text0 c1 c2] at this; exact this
theorem m_see0 {P : Int → Mem → Prop} (hM : ModL N Λ b) (h20 : σ b 20 = 0) (h21 : σ b 21 = 0) (hd : 1 ≤ d) (h : P 0 σ) : CI l mX12_seesLetter d [(2, b)] N Λ σ P :=
  c_X12_seesLetter (v_X12_seesLetter_0 hM.1 (M_ftape hM) hd ⟨fun _ => ⟨fun _ => h, fun hc => absurd (by decide) hc⟩, fun hc => absurd (Int.le_of_eq (h20.trans h21.symm)) hc⟩)
theorem m_ptw {P : Mem → Prop} {x : Int} (hM : ModL N Λ b) (h22 : ¬ σ b 22 = 0) (hd : 2 ≤ d) (h : P σ) : CV l mX12_pointText d [(2, b), (0, x)] N Λ σ P :=
  c_X12_pointText (v_X12_pointText_0 hM.1 (M_ftape hM) hd ⟨fun hc => absurd hc h22, fun _ => h⟩)
theorem m_pt0 {P : Mem → Prop} {x : Int} (hM : ModL N Λ b) (h20 : σ b 20 = 0) (h21 : σ b 21 = 0) (h22 : σ b 22 = 0) (hd : 2 ≤ d) (h : ∀ σ', σ' b 22 = 1 → P σ') : CV l mX12_pointText d [(2, b), (0, x)] N Λ σ P :=
  c_X12_pointText (v_X12_pointText_0 hM.1 (M_ftape hM) hd ⟨fun _ => ⟨fun _ => m_see0 hM h20 h21 (by omega) ⟨fun _ => ⟨fun _ => ⟨fun _ τ3 e3 τ4 e4 => h τ4 (by rw [e4, st_nj (by decide), e3, st_eq]), fun hc => absurd h22 hc⟩, fun hc => absurd rfl hc⟩, fun hc => absurd h22 hc⟩, fun hc => absurd (Int.le_of_eq (h20.trans h21.symm)) hc⟩, fun hc => absurd h22 hc⟩)
theorem km_figure {P : Int → Mem → Prop} {s n : Int} (hM : ModL N Λ b) (hZ : MZ σ b) (hd : 5 ≤ d) (h : ∀ σ', P (an_text s n (-31)) σ') : CI l mX12_figure d [(2, b), (0, s), (0, n)] N Λ σ P := by
  refine c_X12_figure (v_X12_figure_0 hM.1 (M_fpool hM) (by omega) fun τ1 e1 => ?_)
  have a19 : τ1 b 19 = 0 := by rw [e1, st_nj (by decide)]; exact hZ.f (by decide)
  refine m_opens hM a19 (by omega) (fun c σ' => ⟨fun hc => absurd hc (by decide), fun _ => ?_⟩) (fun c1 c2 σ' => ⟨fun hc => absurd hc (by decide), fun _ => ?_⟩) (fun c1 c2 σ2 k2 z20 z21 z22 z5 => ⟨fun _ => ?_, fun hc => absurd rfl hc⟩)
  · have := h σ'; rw [an_text2 c] at this; exact this
  · have := h σ'; rw [an_text3 c1 c2] at this; exact this
  · refine c_X12_figureText (v_X12_figureText_0 (v_X12_figureText_2 hM.1 (by omega) ⟨fun hc => absurd hc (by decide), fun _ => m_pt0 hM z20 z21 z22 (by omega) fun σ3 w3 y4 e4 => ?_⟩))
    have w3' : ¬ σ3 b 22 = 0 := by rw [w3]; decide
    rw [show y4 = 1 from e4.trans (by decide)]
    refine v_X12_figureText_2 hM.1 (by omega) ⟨fun hc => absurd hc (by decide), fun _ => m_ptw hM w3' (by omega) fun y5 e5 => ?_⟩
    rw [show y5 = 2 from e5.trans (by decide)]
    refine v_X12_figureText_2 hM.1 (by omega) ⟨fun hc => absurd hc (by decide), fun _ => m_ptw hM w3' (by omega) fun y6 e6 => ?_⟩
    rw [show y6 = 3 from e6.trans (by decide)]
    refine v_X12_figureText_2 hM.1 (by omega) ⟨fun _ => ⟨fun _ => ⟨fun hc => absurd hc w3', fun _ τ8 e8 => ?_⟩, fun hc => absurd hc w3'⟩, fun hc => absurd (by decide) hc⟩
    rw [w3, show subI (-30) 1 = -31 by decide]
    have := h τ8; rw [an_text0 c1 c2] at this; exact this
theorem km_forms {P : Int → Mem → Prop} {s : Int} (hM : ModL N Λ b) (hZ : MZ σ b) (hd : 2 ≤ d) (h : ∀ σ', P (an2 s (-1)) σ') : CI l mX12_forms d [(2, b), (0, s)] N Λ σ P := by
  refine c_X12_forms (v_X12_forms_0 hM.1 (M_fstate hM) hd fun τ1 e1 => ?_)
  simp only [cmpL_lt, cmpL_gt]
  refine ⟨fun g => ?_, fun g1 => ⟨fun g => ?_, fun g2 => ?_⟩⟩
  · rw [← an2_n (x := -1) g]; exact h _
  · rw [← an2_m (s := s) (x := -1) (by omega)]; exact h _
  · rw [mulI_e (x := 161) (y := s) (by omega) (by omega), (hZ.sh e1).1 s (by omega) (by omega)]
    refine ⟨Ix.of (M_state hM) (by omega) (by omega), fun hc => absurd rfl hc, fun _ => ?_⟩
    have := h τ1
    rw [an2_y (s := s) g1 (by omega)] at this
    exact this
theorem km_form {P : Int → Mem → Prop} {s k i : Int} (hM : ModL N Λ b) (hZ : MZ σ b) (hd : 2 ≤ d) (h : ∀ σ', P (an_form s k i) σ') : CI l mX12_form d [(2, b), (0, s), (0, k), (0, i)] N Λ σ P := by
  refine c_X12_form (v_X12_form_0 hM.1 (M_fstate hM) (M_fletterOf hM) (M_fformRank hM) hd fun τ1 e1 => ?_)
  simp only [cmpL_lt, cmpL_gt]
  have no : ∀ σ', ¬ (0 ≤ s ∧ s < 6) → P (-2) σ' := fun σ' c => by have := h σ'; unfold an_form at this; rw [if_pos c] at this; exact this
  have no2 : ∀ σ', (0 ≤ s ∧ s < 6) → ¬ (0 ≤ k ∧ 0 ≤ i) → P (-3) σ' := fun σ' c c2 => by have := h σ'; unfold an_form at this; rw [if_neg (fun z => z c), if_pos c2] at this; exact this
  have ye : ∀ σ', (0 ≤ s ∧ s < 6) → (0 ≤ k ∧ 0 ≤ i) → P (-1) σ' := fun σ' c c2 => by have := h σ'; unfold an_form at this; rw [if_neg (fun z => z c), if_neg (fun z => z c2)] at this; exact this
  refine ⟨fun g => no _ (by omega), fun g1 => ⟨fun g => no _ (by omega), fun g2 => ⟨fun g => no2 _ (by omega) (by omega), fun g3 => ⟨fun g4 => ?_, fun g => no2 _ (by omega) (by omega)⟩⟩⟩⟩
  rw [mulI_e (x := 161) (y := s) (by omega) (by omega), (hZ.sh e1).1 s (by omega) (by omega)]
  exact ⟨Ix.of (M_state hM) (by omega) (by omega), fun _ => ye _ (by omega) (by omega), fun hc => absurd rfl hc⟩
theorem mrk_lp {P : Int → Mem → Prop} {x1 x2 : Int} (hM : ModL N Λ b) (h : ∀ σ', (∀ c', c' ≠ b + 19 → σ' c' = σ c') → WI l mX12_rank d P 64 [(2, b), (0, x1), (0, x2), (0, 0), (3, 0), (3, 0)] [] N Λ σ') : ∀ (m : Nat) (i : Int) (τ : Mem), 0 ≤ i → (2880 - i).toNat ≤ m → (∀ c', c' ≠ b + 19 → τ c' = σ c') → WI l mX12_rank d P 42 [(2, b), (0, x1), (0, x2), (0, i), (3, 0), (3, 0)] [] N Λ τ := by
  intro m
  induction m with
  | zero => intro i τ g0 g1 hf; exact v_X12_rank_42 hM.1 (M_fmatrix hM) ⟨fun _ => h τ hf, fun hc => by omega⟩
  | succ m ih =>
    intro i τ g0 g1 hf
    refine v_X12_rank_42 hM.1 (M_fmatrix hM) ⟨fun _ => h τ hf, fun hc => ⟨Ix.of (M_matrix hM) g0 (by omega), fun τ1 e1 y2 e2 => ?_⟩⟩
    rw [e2, addI_e (by omega) (by omega)]
    exact ih (i + 1) τ1 (by omega) (by omega) fun c' u => by rw [e1, st_ne u]; exact hf c' u
theorem mrs_lp {P : Int → Mem → Prop} {x1 : Int} (hM : ModL N Λ b) (hd : 5 ≤ d) (h : ∀ σ', P 0 σ') : ∀ (m : Nat) (r i : Int) (τ : Mem), 0 ≤ i → i ≤ 6 → 0 ≤ r → r ≤ i → (6 - i).toNat ≤ m → (∀ x : Int, 0 ≤ x → x < 6 → τ (b + 3) (161 * x) = 0) → τ b 8 = 0 → τ b 32 = 0 → WI l mX12_rank d P 64 [(2, b), (0, x1), (0, r), (0, i), (3, 0), (3, 0)] [] N Λ τ := by
  intro m
  induction m with
  | zero =>
    intro r i τ g0 g1 g2 g3 g4 hs h8 h32
    refine v_X12_rank_64 hM.1 (M_fstate hM) (M_fpool hM) (by omega) ⟨fun _ => v_X12_rank_163 hM.1 ⟨fun _ => h τ, fun hc => absurd (Int.le_of_eq h32) hc⟩, fun hc => by omega⟩
  | succ m ih =>
    intro r i τ g0 g1 g2 g3 g4 hs h8 h32
    refine v_X12_rank_64 hM.1 (M_fstate hM) (M_fpool hM) (by omega) ⟨fun _ => v_X12_rank_163 hM.1 ⟨fun _ => h τ, fun hc => absurd (Int.le_of_eq h32) hc⟩, fun hc => ⟨fun _ => ?_, fun _ y6 e6 => ?_⟩⟩
    · refine m_take hM (s := i) (p := 3) (by omega) (by decide) (mulI_e (by omega) (by omega)) (by decide) (hs i (by omega) (by omega)) fun σ4 k4 j4 w4 => ?_
      refine m_str0 hM (by omega) (by decide) w4 fun τ5 e5 τ6 e6 => ?_
      have n6 : ∀ c', c' ≠ b → τ6 c' = σ4 c' := fun c' u => by rw [e6, st_ne u, e5, st_ne u]
      have y8 : τ6 b 8 = 0 := by rw [e6, st_nj (by decide), e5, st_nj (by decide), k4 b (by omega)]; exact h8
      have y32 : τ6 b 32 = 0 := by rw [e6, st_nj (by decide), e5, st_nj (by decide), k4 b (by omega)]; exact h32
      refine ⟨fun hc => absurd y8 hc, fun _ => v_X12_rank_100 hM.1 (M_fpool hM) (M_fmatrix hM) (by omega) ?_⟩
      rw [show mulI 161 3 = 161 * 3 by decide, show τ6 (b + 6) (161 * 3) = 0 by rw [n6 _ (by omega)]; exact w4]
      refine ⟨Ix.of (M_pool hM) (by decide) (by decide), fun _ y1 e1 y2 e2 => ?_, fun hc => absurd (Int.le_refl 0) hc⟩
      rw [e1, e2, addI_e (x := r) (by omega) (by omega), addI_e (x := i) (by omega) (by omega)]
      exact ih (r + 1) (i + 1) τ6 (by omega) (by omega) (by omega) (by omega) (by omega) (fun x u0 u1 => by rw [n6 _ (by omega), k4 _ (by omega)]; exact hs x u0 u1) y8 y32
    · rw [e6, addI_e (by omega) (by omega)]
      exact ih r (i + 1) τ (by omega) (by omega) (by omega) (by omega) (by omega) hs h8 h32
theorem km_rank {P : Int → Mem → Prop} {x : Int} (hM : ModL N Λ b) (hZ : MZ σ b) (hd : 5 ≤ d) (h : ∀ σ', P (an_rank x) σ') : CI l mX12_rank d [(2, b), (0, x)] N Λ σ P := by
  refine c_X12_rank (v_X12_rank_0 hM.1 (M_fpool hM) (by omega) fun τ1 e1 => ?_)
  simp only [cmpL_lt, cmpL_gt]
  have no : ∀ σ', ¬ (0 ≤ x ∧ x < 64) → P (-2) σ' := fun σ' c => by have := h σ'; unfold an_rank at this; rw [if_neg c] at this; exact this
  refine ⟨fun g _ _ => no _ (by omega), fun g1 => ⟨fun g _ _ => no _ (by omega), fun g2 τ4 e4 => ⟨ix0 hM, fun τ5 e5 τ6 e6 τ7 e7 => ?_⟩⟩⟩
  have ye : ∀ σ', P 0 σ' := fun σ' => by have := h σ'; unfold an_rank at this; rw [if_pos (by omega)] at this; exact this
  have hs := hZ.sh e1
  refine mrk_lp hM (fun σ8 k8 => ?_) 2880 0 τ7 (by decide) (by decide) (fun _ _ => rfl)
  refine mrs_lp hM hd ye 6 0 0 σ8 (by decide) (by decide) (by decide) (by decide) (by decide) (fun x u0 u1 => ?_) ?_ ?_
  · rw [k8 _ (by omega), e7, st_ne (by omega), e6, st_ne (by omega), e5, st_ne (by omega), e4, st_ne (by omega)]; exact hs.1 x u0 u1
  · rw [k8 _ (by omega), e7, st_nj (by decide), e6, st_nj (by decide), e5, st_ne (by omega), e4, st_eq]
  · rw [k8 _ (by omega), e7, st_eq]
theorem km_factor {P : Int → Mem → Prop} {s w : Int} (hM : ModL N Λ b) (hZ : MZ σ b) (hd : 5 ≤ d) (h : ∀ σ', P (an_factor s w) σ') : CI l mX12_factor d [(2, b), (0, s), (0, w)] N Λ σ P := by
  refine c_X12_factor (v_X12_factor_0 hM.1 (M_fpool hM) (M_fstate hM) (M_ffound hM) (by omega) fun τ1 e1 => ?_)
  simp only [cmpL_lt, cmpL_gt]
  have no : ∀ σ', ¬ ((0 ≤ s ∧ s < 6) ∧ 0 ≤ w ∧ w ≤ 6) → P (-2) σ' := fun σ' c => by have := h σ'; unfold an_factor at this; rw [if_neg c] at this; exact this
  refine ⟨fun g _ _ => no _ (by omega), fun g1 => ⟨fun g _ _ => no _ (by omega), fun g2 => ⟨fun g _ _ => no _ (by omega), fun g3 => ⟨fun g _ _ => no _ (by omega), fun g4 => ?_⟩⟩⟩⟩
  refine c_X12_areSix (v_X12_areSix_0 hM.1 (M_fstate hM) (M_state hM).1 (by omega) ?_)
  rw [mulI_e (x := 161) (y := s) (by omega) (by omega), (hZ.sh e1).1 s (by omega) (by omega)]
  refine ⟨Ix.of (M_state hM) (by omega) (by omega), fun _ => ⟨fun hc => absurd rfl hc, fun _ τ2 _ => ?_⟩, fun hc => absurd rfl hc⟩
  have := h τ2
  unfold an_factor at this
  rw [if_pos (by omega)] at this
  exact this
theorem km_isFinal {P : Int → Mem → Prop} {s : Int} (hM : ModL N Λ b) (hZ : MZ σ b) (hd : 5 ≤ d) (h : ∀ σ', P (an2 s 0) σ') : CI l mX12_isFinal d [(2, b), (0, s)] N Λ σ P := by
  refine c_X12_isFinal (v_X12_isFinal_0 hM.1 (M_fpool hM) (M_fstate hM) (by omega) fun τ1 e1 => ?_)
  simp only [cmpL_lt, cmpL_gt]
  refine ⟨fun g _ _ => ?_, fun g1 => ⟨fun g _ _ => ?_, fun g2 τ2 e2 => ⟨ix0 hM, fun τ3 e3 => ?_⟩⟩⟩
  · rw [← an2_n (x := 0) g]; exact h _
  · rw [← an2_m (s := s) (x := 0) (by omega)]; exact h _
  · have hs := hZ.sh e1
    have k3 : τ3 (b + 3) = τ1 (b + 3) := by rw [e3, st_ne (by omega), e2, st_ne (by omega)]
    have z8 : τ3 b 8 = 0 := by rw [e3, st_ne (by omega), e2, st_eq]
    have zp : τ3 (b + 6) 0 = 0 := by rw [e3, m161_0, st_eq]
    refine m_take hM (s := s) (p := 3) (by omega) (by decide) (mulI_e (by omega) (by omega)) (by decide) (by rw [k3]; exact hs.1 s (by omega) (by omega)) fun σ4 k4 j4 w4 => ?_
    refine m_str0 hM (by omega) (by decide) w4 fun τ5 e5 τ6 e6 => ?_
    have n6 : ∀ c', c' ≠ b → τ6 c' = σ4 c' := fun c' u => by rw [e6, st_ne u, e5, st_ne u]
    have y8 : τ6 b 8 = 0 := by rw [e6, st_nj (by decide), e5, st_nj (by decide), k4 b (by omega)]; exact z8
    refine ⟨fun hc => absurd y8 hc, fun _ => ⟨Ix.of (M_pool hM) (by decide) (by decide), fun _ => ?_, fun hc => absurd (Int.le_of_eq (by rw [show mulI 161 3 = 161 * 3 by decide, n6 _ (by omega)]; exact w4)) hc⟩⟩
    refine m_red0 hM (by omega) (by omega) (by rw [n6 _ (by omega), k4 _ (by omega), k3]; exact hs.1 s (by omega) (by omega)) fun σ7 k7 w7 => ⟨ix0 hM, ?_⟩
    have q7 : σ7 (b + 6) 0 = 0 := by rw [w7, n6 _ (by omega), j4 0 (by omega)]; exact zp
    rw [m161_0, q7]
    refine ⟨fun hc => absurd hc (by decide), fun _ => ?_⟩
    have := h σ7
    rw [an2_y (s := s) g1 (by omega)] at this
    exact this
theorem km_at {P : Int → Mem → Prop} {p w : Int} (hM : ModL N Λ b) (hZ : MZ σ b) (hd : 2 ≤ d) (h : ∀ σ', P (an_at p w) σ') : CI l mX12_at d [(2, b), (0, p), (0, w)] N Λ σ P := by
  refine c_X12_at (v_X12_at_0 hM.1 (M_fstate hM) hd fun τ1 e1 => ?_)
  simp only [cmpL_lt, cmpL_gt]
  have no : ∀ σ', ¬ ((0 ≤ p ∧ p < 10) ∧ 0 ≤ w ∧ w ≤ 2) → P (-100) σ' := fun σ' c => by have := h σ'; unfold an_at at this; rw [if_neg c] at this; exact this
  refine ⟨fun g => no _ (by omega), fun g1 => ⟨fun g => no _ (by omega), fun g2 => ⟨fun g => no _ (by omega), fun g3 => ⟨fun g => no _ (by omega), fun g4 => ?_⟩⟩⟩⟩
  have m1 : addI (addI 966 (mulI 3 p)) w = 966 + 3 * p + w := by rw [mulI_e (x := 3) (y := p) (by omega) (by omega), addI_e (x := 966) (by omega) (by omega), addI_e (by omega) (by omega)]
  rw [m1]
  have z : τ1 (b + 3) (966 + 3 * p + w) = 0 := by rw [e1, st_ne (by omega)]; exact hZ.st0 (by omega)
  rw [z]
  refine ⟨Ix.of (M_state hM) (by omega) (by omega), ?_⟩
  have := h τ1
  unfold an_at at this
  rw [if_pos (by omega)] at this
  exact this
theorem m_worth0 {P : Int → Mem → Prop} {a c e : Int} (hM : ModL N Λ b) (hz : ∀ j : Int, 966 ≤ j → j < 996 → σ (b + 3) j = 0) (ha : 0 ≤ a ∧ a < 10) (hc : 0 ≤ c ∧ c < 10) (he : 0 ≤ e ∧ e < 10) (h : P 0 σ) : CI l mX12_worthOf d [(2, b), (0, a), (0, c), (0, e)] N Λ σ P := by
  refine c_X12_worthOf (v_X12_worthOf_0 hM.1 (M_fstate hM) fun y1 e1 y2 e2 y3 e3 => ?_)
  have f1 : y1 = 966 + 3 * a := by rw [e1, mulI_e (x := 3) (y := a) (by omega) (by omega), addI_e (by omega) (by omega)]
  have f2 : y2 = 966 + 3 * c := by rw [e2, mulI_e (x := 3) (y := c) (by omega) (by omega), addI_e (by omega) (by omega)]
  have f3 : y3 = 966 + 3 * e := by rw [e3, mulI_e (x := 3) (y := e) (by omega) (by omega), addI_e (by omega) (by omega)]
  clear e1 e2 e3
  rw [addI_e (x := y1) (y := 1) (by omega) (by omega), addI_e (x := y1) (y := 2) (by omega) (by omega), addI_e (x := y2) (y := 1) (by omega) (by omega), addI_e (x := y2) (y := 2) (by omega) (by omega), addI_e (x := y3) (y := 1) (by omega) (by omega), addI_e (x := y3) (y := 2) (by omega) (by omega)]
  rw [hz y1 (by omega) (by omega), hz (y1 + 1) (by omega) (by omega), hz (y1 + 2) (by omega) (by omega), hz y2 (by omega) (by omega), hz (y2 + 1) (by omega) (by omega), hz (y2 + 2) (by omega) (by omega), hz y3 (by omega) (by omega), hz (y3 + 1) (by omega) (by omega), hz (y3 + 2) (by omega) (by omega)]
  have ix : ∀ j : Int, 0 ≤ j → j < 3348 → Ix N Λ (b + 3) 0 j := fun j u0 u1 => Ix.of (M_state hM) u0 u1
  exact ⟨ix _ (by omega) (by omega), ix _ (by omega) (by omega), ix _ (by omega) (by omega), ix _ (by omega) (by omega), ix _ (by omega) (by omega), ix _ (by omega) (by omega), ix _ (by omega) (by omega), ix _ (by omega) (by omega), ix _ (by omega) (by omega), ix _ (by omega) (by omega), ix _ (by omega) (by omega), ix _ (by omega) (by omega), ix _ (by omega) (by omega), ix _ (by omega) (by omega), ix _ (by omega) (by omega), h⟩
def an_worth (a c e : Int) : Int := if (0 ≤ a ∧ a < 10) ∧ (0 ≤ c ∧ c < 10) ∧ 0 ≤ e ∧ e < 10 then 0 else -2147483648
theorem km_worth {P : Int → Mem → Prop} {a c e : Int} (hM : ModL N Λ b) (hZ : MZ σ b) (hd : 2 ≤ d) (h : ∀ σ', P (an_worth a c e) σ') : CI l mX12_worth d [(2, b), (0, a), (0, c), (0, e)] N Λ σ P := by
  refine c_X12_worth (v_X12_worth_0 hM.1 hd fun τ1 e1 => ?_)
  simp only [cmpL_lt, cmpL_gt]
  have no : ∀ σ', ¬ ((0 ≤ a ∧ a < 10) ∧ (0 ≤ c ∧ c < 10) ∧ 0 ≤ e ∧ e < 10) → P (-2147483648) σ' := fun σ' c => by have := h σ'; unfold an_worth at this; rw [if_neg c] at this; exact this
  refine ⟨fun g => no _ (by omega), fun g1 => ⟨fun g => no _ (by omega), fun g2 => ⟨fun g => no _ (by omega), fun g3 => ⟨fun g => no _ (by omega), fun g4 => ⟨fun g => no _ (by omega), fun g5 => ⟨fun g => no _ (by omega), fun g6 => ?_⟩⟩⟩⟩⟩⟩
  refine m_worth0 hM (fun j u0 u1 => by rw [e1, st_ne (by omega)]; exact hZ.st0 (by omega)) (by omega) (by omega) (by omega) ?_
  have := h τ1
  unfold an_worth at this
  rw [if_pos (by omega)] at this
  exact this
theorem km_value {P : Int → Mem → Prop} {s : Int} (hM : ModL N Λ b) (hZ : MZ σ b) (hd : 2 ≤ d) (h : ∀ σ', P (an_value s) σ') : CL l mX12_value d [(2, b), (0, s)] N Λ σ P := by
  refine c_X12_value (v_X12_value_0 hM.1 hd fun τ1 e1 => ?_)
  simp only [cmpL_lt, cmpL_gt]
  have no : ∀ σ', ¬ (0 ≤ s ∧ s < 6) → P (-9223372036854775808) σ' := fun σ' c => by have := h σ'; unfold an_value at this; rw [if_neg c] at this; exact this
  refine ⟨fun g => no _ (by omega), fun g1 => ⟨fun g => no _ (by omega), fun g2 => v_X12_value_21 hM.1 (M_fstate hM) (M_state hM).1 (by omega) ?_⟩⟩
  rw [mulI_e (x := 161) (y := s) (by omega) (by omega), (hZ.sh e1).1 s (by omega) (by omega)]
  refine ⟨Ix.of (M_state hM) (by omega) (by omega), fun _ => ?_, fun hc => absurd (Int.le_refl 0) hc⟩
  have := h τ1
  unfold an_value at this
  rw [if_pos (by omega)] at this
  exact this
theorem km_undo {P : Int → Mem → Prop} {n : Int} (hM : ModL N Λ b) (hZ : MZ σ b) (hd : 1 ≤ d) (h : ∀ σ', P (-3) σ') : CI l mX12_undo d [(2, b), (0, n)] N Λ σ P := by
  refine c_X12_undo (v_X12_undo_0 hM.1 (M_fdeeds hM) (M_fstate hM) hd fun τ1 e1 => ?_)
  simp only [cmpL_lt, cmpL_gt]
  rw [(hZ.sh e1).2]
  exact ⟨fun _ => h _, fun g1 => ⟨fun _ => h _, fun g2 => ⟨fun hc => absurd hc (by omega), fun _ => h _⟩⟩⟩
theorem km_image {P : Int → Mem → Prop} {i : Int} (hM : ModL N Λ b) (hd : 1 ≤ d) (h : ∀ σ', P (an_im i 0) σ') : CI l mX12_image d [(2, b), (0, i)] N Λ σ P := by
  refine c_X12_image (v_X12_image_0 hM.1 (M_fstate hM) (M_fhasImage hM) hd fun τ1 e1 => ?_)
  simp only [cmpL_lt, cmpL_gt]
  have no : ∀ σ', ¬ (0 ≤ i ∧ i < 2) → P (-2) σ' := fun σ' c => by have := h σ'; unfold an_im at this; rw [if_neg c] at this; exact this
  refine ⟨fun g => no _ (by omega), fun g1 => ⟨fun g => no _ (by omega), fun g2 => ?_⟩⟩
  rw [addI_e (x := i) (by omega) (by omega), mulI_e (x := 1116) (y := i + 1) (by omega) (by omega)]
  refine k_copies (M_state hM) (M_state hM) (by decide) (by omega) (by decide) (by decide) (by omega) (by decide) (by decide) (Or.inr (Or.inr (by omega))) ⟨Ix.of (M_hasImage hM) (by omega) (by omega), Or.inr trivial, fun τ3 _ => ?_⟩
  have := h τ3
  unfold an_im at this
  rw [if_pos (by omega)] at this
  exact this
theorem km_restore {P : Int → Mem → Prop} {i : Int} (hM : ModL N Λ b) (hZ : MZ σ b) (hd : 1 ≤ d) (h : ∀ σ', P (an_im i (-6)) σ') : CI l mX12_restore d [(2, b), (0, i)] N Λ σ P := by
  refine c_X12_restore (v_X12_restore_0 hM.1 (M_fhasImage hM) (M_fstate hM) hd fun τ1 e1 => ?_)
  simp only [cmpL_lt, cmpL_gt]
  have no : ∀ σ', ¬ (0 ≤ i ∧ i < 2) → P (-2) σ' := fun σ' c => by have := h σ'; unfold an_im at this; rw [if_neg c] at this; exact this
  refine ⟨fun g => no _ (by omega), fun g1 => ⟨fun g => no _ (by omega), fun g2 => ?_⟩⟩
  have z : τ1 (b + 5) i = 0 := by rw [e1, st_ne (by omega)]; exact hZ.2.2.2.1 _ (by omega) (by omega) _
  rw [z]
  refine ⟨Ix.of (M_hasImage hM) (by omega) (by omega), fun hc => absurd rfl hc, fun _ => ?_⟩
  have := h τ1
  unfold an_im at this
  rw [if_pos (by omega)] at this
  exact this
theorem mfa_lp {P : Int → Mem → Prop} {v : Int} (hM : ModL N Λ b) (hd : 1 ≤ d) (hv : v ≠ 2) (hz : ∀ j : Int, 996 ≤ j → j < 1116 → σ (b + 3) j = 2) (h : P 0 σ) : ∀ (m : Nat) (i : Int), 1 ≤ i → (121 - i).toNat ≤ m → WI l mX12_facts d P 4 [(2, b), (0, v), (0, 0), (0, i)] [] N Λ σ := by
  intro m
  induction m with
  | zero => intro i g0 g1; exact v_X12_facts_4 hM.1 (M_fstate hM) hd ⟨fun _ => h, fun hc => by omega⟩
  | succ m ih =>
    intro i g0 g1
    refine v_X12_facts_4 hM.1 (M_fstate hM) hd ⟨fun _ => h, fun hc => ?_⟩
    rw [addI_e (x := 996) (by omega) (by omega), subI_e (by omega) (by omega), hz _ (by omega) (by omega)]
    refine ⟨Ix.of (M_state hM) (by omega) (by omega), fun _ y1 e1 y2 e2 => ?_, fun hc2 => absurd hc2.symm hv⟩
    rw [e2, addI_e (by omega) (by omega), show y1 = 0 from e1.trans (by decide)]
    exact ih (i + 1) (by omega) (by omega)
theorem mcs_lp {P : Int → Mem → Prop} {x : Int} (hM : ModL N Λ b) (hz : ∀ x : Int, 0 ≤ x → x < 6 → σ (b + 3) (161 * x) = 0) (h : P 0 σ) : ∀ (m : Nat) (i : Int), 0 ≤ i → (6 - i).toNat ≤ m → WI l mX12_count d P 50 [(2, b), (0, x), (0, 0), (0, i)] [] N Λ σ := by
  intro m
  induction m with
  | zero => intro i g0 g1; exact v_X12_count_50 hM.1 (M_fstate hM) ⟨fun _ => h, fun hc => by omega⟩
  | succ m ih =>
    intro i g0 g1
    refine v_X12_count_50 hM.1 (M_fstate hM) ⟨fun _ => h, fun hc => ?_⟩
    rw [mulI_e (x := 161) (y := i) (by omega) (by omega), hz i (by omega) (by omega)]
    refine ⟨Ix.of (M_state hM) (by omega) (by omega), fun y1 e1 y2 e2 => ?_⟩
    rw [e2, addI_e (x := i) (by omega) (by omega), show y1 = 0 from e1.trans (by decide)]
    exact ih (i + 1) (by omega) (by omega)
theorem lt3_b {L : Int → Int} {x y z r : Int} (hL : ∀ j, 0 ≤ L j ∧ L j < 10) (hx : 0 ≤ x ∧ x < 10) (hy : 0 ≤ y ∧ y < 10) (hz : 0 ≤ z ∧ z < 10) : ∀ j, 0 ≤ lt3 L x y z r j ∧ lt3 L x y z r j < 10 := by
  intro j
  unfold lt3 updI
  split
  · exact hz
  · split
    · exact hy
    · split
      · exact hx
      · exact hL j
def brb : Bool := brs.all fun t => Nat.ble (t.1 + 1) 10 && Nat.ble (t.2.1 + 1) 10 && Nat.ble (t.2.2 + 1) 10 && Nat.ble (t.1 + 1) t.2.1 && Nat.ble (t.2.1 + 1) t.2.2
theorem brb_t : brb = true := by rfl
theorem brs_b {n x y z : Nat} (h : brs[n]? = some (x, y, z)) : x < y ∧ y < z ∧ z < 10 := by
  have h1 := brb_t
  unfold brb at h1
  rw [List.all_eq_true] at h1
  have h2 := h1 _ (List.mem_of_getElem? h)
  simp only [Bool.and_eq_true] at h2
  obtain ⟨⟨⟨⟨_, _⟩, h3⟩, h4⟩, h5⟩ := h2
  exact ⟨Nat.le_of_ble_eq_true h4, Nat.le_of_ble_eq_true h5, Nat.le_of_ble_eq_true h3⟩
theorem LtT_b : ∀ (n : Nat) (j : Int), 0 ≤ LtT n j ∧ LtT n j < 10 := by
  intro n
  induction n with
  | zero => intro j; exact ⟨Int.le_refl 0, by show (0 : Int) < 10; decide⟩
  | succ n ih =>
    cases hb : brs[n]? with
    | none => intro j; simp only [LtT, hb]; exact ih j
    | some t =>
      obtain ⟨x, y, z⟩ := t
      have q := brs_b hb
      rw [LtT_s hb]
      exact lt3_b ih (by omega) (by omega) (by omega)
theorem mcw_lp {P : Int → Mem → Prop} {x : Int} (hM : ModL N Λ b) (hd : 2 ≤ d) (hz : ∀ j : Int, 966 ≤ j → j < 996 → σ (b + 3) j = 0) (hl : σ (b + 2) = LtT 120) (h : P 120 σ) : ∀ (m : Nat) (i : Int), 1 ≤ i → i ≤ 121 → (121 - i).toNat ≤ m → WI l mX12_count d P 101 [(2, b), (0, x), (0, i - 1), (0, i)] [] N Λ σ := by
  intro m
  induction m with
  | zero =>
    intro i g0 g1 g2
    refine v_X12_count_101 hM.1 (M_fletterOf hM) hd ⟨fun _ => ?_, fun hc => by omega⟩
    rw [show i - 1 = 120 by omega]; exact h
  | succ m ih =>
    intro i g0 g1 g2
    refine v_X12_count_101 hM.1 (M_fletterOf hM) hd ⟨fun _ => ?_, fun hc => ?_⟩
    · rw [show i - 1 = 120 by omega]; exact h
    · rw [mulI_e (x := 3) (y := i) (by omega) (by omega), addI_e (x := 3 * i) (y := 1) (by omega) (by omega), addI_e (x := 3 * i) (y := 2) (by omega) (by omega), hl]
      have ix : ∀ j : Int, 0 ≤ j → j < 363 → Ix N Λ (b + 2) 0 j := fun j u0 u1 => Ix.of (M_letterOf hM) u0 u1
      refine ⟨ix _ (by omega) (by omega), ix _ (by omega) (by omega), ix _ (by omega) (by omega), m_worth0 hM hz (LtT_b 120 _) (LtT_b 120 _) (LtT_b 120 _) ⟨fun hc => absurd rfl hc, fun _ y5 e5 y6 e6 => ?_⟩⟩
      rw [e5, e6, addI_e (x := i - 1) (by omega) (by omega), addI_e (x := i) (by omega) (by omega), show i - 1 + 1 = i + 1 - 1 by omega]
      exact ih (i + 1) (by omega) (by omega) (by omega)
theorem km_count {P : Int → Mem → Prop} {w : Int} (hM : ModL N Λ b) (hZ : MZ σ b) (hd : 3 ≤ d) (h : ∀ σ', P (an_count w) σ') : CI l mX12_count d [(2, b), (0, w)] N Λ σ P := by
  refine c_X12_count (v_X12_count_0 hM.1 (by omega) fun τ1 e1 => ?_)
  have hs := hZ.sh e1
  have z2 : ∀ j : Int, 996 ≤ j → j < 1116 → τ1 (b + 3) j = 2 := fun j u0 u1 => by rw [e1, st_ne (by omega)]; exact hZ.st2 u0 u1
  have z0 : ∀ j : Int, 966 ≤ j → j < 996 → τ1 (b + 3) j = 0 := fun j u0 u1 => by rw [e1, st_ne (by omega)]; exact hZ.st0 (by omega)
  have zl : τ1 (b + 2) = LtT 120 := by rw [e1, st_ne (by omega)]; exact hZ.2.1
  have z19 : τ1 b 19 = 0 := by rw [e1, st_nj (by decide)]; exact hZ.f (by decide)
  have y0 : (0 ≤ w ∧ w ≤ 4) → P 0 τ1 := fun c => by have := h τ1; unfold an_count at this; rw [if_neg (by omega), if_pos c] at this; exact this
  have y5 : w = 5 → P 120 τ1 := fun c => by have := h τ1; unfold an_count at this; rw [if_pos c] at this; exact this
  have yn : (w < 0 ∨ 5 < w) → P (-1) τ1 := fun c => by have := h τ1; unfold an_count at this; rw [if_neg (by omega), if_neg (by omega)] at this; exact this
  refine ⟨yn, fun c => mcs_lp hM hs.1 (y0 (by omega)) 6 0 (by decide) (by decide), fun c => ?_, fun c => ?_, fun c => ?_, fun c => ?_, fun c => ?_⟩
  · exact c_X12_facts (v_X12_facts_0 (mfa_lp hM (by omega) (by decide) z2 (y0 (by omega)) 120 1 (by decide) (by decide)))
  · exact c_X12_facts (v_X12_facts_0 (mfa_lp hM (by omega) (by decide) z2 (y0 (by omega)) 120 1 (by decide) (by decide)))
  · rw [z19]; exact y0 (by omega)
  · rw [hs.2]; exact y0 (by omega)
  · exact mcw_lp hM (by omega) z0 zl (y5 c) 120 1 (by decide) (by decide) (by decide)
end MD3
