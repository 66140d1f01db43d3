section MD4
variable {l : Launch} {d N : Nat} {Λ : Lay} {σ : Mem} {b : Int}
theorem m_ix {a c e : Int} (ha : 0 ≤ a ∧ a < 10) (hc : 0 ≤ c ∧ c < 10) (he : 0 ≤ e ∧ e < 10) : addI (addI (mulI 100 a) (mulI 10 c)) e = 100 * a + 10 * c + e := by
  rw [mulI_e (x := 100) (y := a) (by omega) (by omega), mulI_e (x := 10) (y := c) (by omega) (by omega), addI_e (x := 100 * a) (y := 10 * c) (by omega) (by omega), addI_e (x := 100 * a + 10 * c) (y := e) (by omega) (by omega)]
def an_known (a c e : Int) : Int := if (0 ≤ a ∧ a < 10) ∧ (0 ≤ c ∧ c < 10) ∧ 0 ≤ e ∧ e < 10 then (if Rk a c e = 0 then -3 else 2) else -2
theorem an_known_n {a c e : Int} (h : ¬ ((0 ≤ a ∧ a < 10) ∧ (0 ≤ c ∧ c < 10) ∧ 0 ≤ e ∧ e < 10)) : an_known a c e = -2 := if_neg h
theorem an_known_0 {a c e : Int} (h : (0 ≤ a ∧ a < 10) ∧ (0 ≤ c ∧ c < 10) ∧ 0 ≤ e ∧ e < 10) (h0 : Rk a c e = 0) : an_known a c e = -3 := by unfold an_known; rw [if_pos h, if_pos h0]
theorem an_known_2 {a c e : Int} (h : (0 ≤ a ∧ a < 10) ∧ (0 ≤ c ∧ c < 10) ∧ 0 ≤ e ∧ e < 10) (h0 : ¬ Rk a c e = 0) : an_known a c e = 2 := by unfold an_known; rw [if_pos h, if_neg h0]
theorem km_known {P : Int → Mem → Prop} {a c e : Int} (hM : ModL N Λ b) (hZ : MZ σ b) (hd : 2 ≤ d) (h : ∀ σ', P (an_known a c e) σ') : CI l mX12_known d [(2, b), (0, a), (0, c), (0, e)] N Λ σ P := by
  refine c_X12_known (v_X12_known_0 hM.1 (M_frankOf hM) (M_fstate hM) hd fun τ1 e1 => ?_)
  simp only [cmpL_lt, cmpL_gt]
  have no : ∀ σ', ¬ ((0 ≤ a ∧ a < 10) ∧ (0 ≤ c ∧ c < 10) ∧ 0 ≤ e ∧ e < 10) → P (-2) σ' := fun σ' q => by have := h σ'; rw [an_known_n q] at this; exact this
  refine ⟨fun g => no _ (by omega), fun g1 => ⟨fun g => no _ (by omega), fun g2 => ⟨fun g => no _ (by omega), fun g3 => ⟨fun g => no _ (by omega), fun g4 => ⟨fun g => no _ (by omega), fun g5 => ⟨fun g => no _ (by omega), fun g6 => ?_⟩⟩⟩⟩⟩⟩
  have hr := rk_r (a := a) (b := c) (c := e) (by omega) (by omega) (by omega)
  have y0 : Rk a c e = 0 → P (-3) τ1 := fun q => by have := h τ1; rw [an_known_0 (by omega) q] at this; exact this
  have y2 : ¬ Rk a c e = 0 → P 2 τ1 := fun q => by have := h τ1; rw [an_known_2 (by omega) q] at this; exact this
  have z2 : ∀ j : Int, 996 ≤ j → j < 1116 → τ1 (b + 3) j = 2 := fun j u0 u1 => by rw [e1, st_ne (by omega)]; exact hZ.st2 u0 u1
  have zr : τ1 (b + 1) (100 * a + 10 * c + e) = Rk a c e := by rw [e1, st_ne (by omega), hZ.1]; rfl
  rw [m_ix (by omega) (by omega) (by omega), zr]
  have tail : ∀ y : Int, 1 ≤ y → y ≤ 120 → ¬ Rk a c e = 0 → Ix N Λ (b + 3) 0 (subI (addI 996 y) 1) ∧ P (τ1 (b + 3) (subI (addI 996 y) 1)) τ1 := fun y u0 u1 q => by
    rw [addI_e (x := 996) (by omega) (by omega), subI_e (by omega) (by omega), z2 _ (by omega) (by omega)]
    exact ⟨Ix.of (M_state hM) (by omega) (by omega), y2 q⟩
  refine ⟨Ix.of (M_rankOf hM) (by omega) (by omega), fun g y e2 => ⟨fun hc => tail y (by omega) (by omega) (by omega), fun hc => y0 (by omega)⟩, fun g y e2 => ?_⟩
  rw [negI_e (by omega) (by omega)] at e2
  exact ⟨fun hc => tail y (by omega) (by omega) (by omega), fun hc => y0 (by omega)⟩
def an_fact (a c e v : Int) : Int := if (0 ≤ a ∧ a < 10) ∧ (0 ≤ c ∧ c < 10) ∧ 0 ≤ e ∧ e < 10 then (if (0 ≤ v ∧ v ≤ 2) ∧ ¬ Rk a c e = 0 then 2 else -3) else -2
theorem an_fact_n {a c e v : Int} (h : ¬ ((0 ≤ a ∧ a < 10) ∧ (0 ≤ c ∧ c < 10) ∧ 0 ≤ e ∧ e < 10)) : an_fact a c e v = -2 := if_neg h
theorem an_fact_3 {a c e v : Int} (h : (0 ≤ a ∧ a < 10) ∧ (0 ≤ c ∧ c < 10) ∧ 0 ≤ e ∧ e < 10) (h0 : ¬ ((0 ≤ v ∧ v ≤ 2) ∧ ¬ Rk a c e = 0)) : an_fact a c e v = -3 := by unfold an_fact; rw [if_pos h, if_neg h0]
theorem an_fact_2 {a c e v : Int} (h : (0 ≤ a ∧ a < 10) ∧ (0 ≤ c ∧ c < 10) ∧ 0 ≤ e ∧ e < 10) (h0 : (0 ≤ v ∧ v ≤ 2) ∧ ¬ Rk a c e = 0) : an_fact a c e v = 2 := by unfold an_fact; rw [if_pos h, if_pos h0]
theorem km_fact {P : Int → Mem → Prop} {a c e v : Int} (hM : ModL N Λ b) (hZ : MZ σ b) (hd : 3 ≤ d) (h : ∀ σ', P (an_fact a c e v) σ') : CI l mX12_fact d [(2, b), (0, a), (0, c), (0, e), (0, v)] N Λ σ P := by
  refine c_X12_fact (v_X12_fact_0 hM.1 (M_frankOf hM) (M_fstate hM) (M_fdeeds hM) (by omega) fun τ1 e1 => ?_)
  simp only [cmpL_lt, cmpL_gt]
  have no : ∀ σ', ¬ ((0 ≤ a ∧ a < 10) ∧ (0 ≤ c ∧ c < 10) ∧ 0 ≤ e ∧ e < 10) → P (-2) σ' := fun σ' q => by have := h σ'; rw [an_fact_n q] at this; exact this
  refine ⟨fun g => no _ (by omega), fun g1 => ⟨fun g => no _ (by omega), fun g2 => ⟨fun g => no _ (by omega), fun g3 => ⟨fun g => no _ (by omega), fun g4 => ⟨fun g => no _ (by omega), fun g5 => ⟨fun g => no _ (by omega), fun g6 => ?_⟩⟩⟩⟩⟩⟩
  have hr := rk_r (a := a) (b := c) (c := e) (by omega) (by omega) (by omega)
  have n3 : ∀ σ', ¬ ((0 ≤ v ∧ v ≤ 2) ∧ ¬ Rk a c e = 0) → P (-3) σ' := fun σ' q => by have := h σ'; rw [an_fact_3 (by omega) q] at this; exact this
  have y2 : ∀ σ', ((0 ≤ v ∧ v ≤ 2) ∧ ¬ Rk a c e = 0) → P 2 σ' := fun σ' q => by have := h σ'; rw [an_fact_2 (by omega) q] at this; exact this
  have z2 : ∀ j : Int, 996 ≤ j → j < 1116 → τ1 (b + 3) j = 2 := fun j u0 u1 => by rw [e1, st_ne (by omega)]; exact hZ.st2 u0 u1
  have zr : τ1 (b + 1) (100 * a + 10 * c + e) = Rk a c e := by rw [e1, st_ne (by omega), hZ.1]; rfl
  have z5 := (hZ.sh e1).2
  rw [m_ix (by omega) (by omega) (by omega), zr]
  have tail : ∀ y : Int, 1 ≤ y → y ≤ 120 → ((0 ≤ v ∧ v ≤ 2) ∧ ¬ Rk a c e = 0) → ∀ σ4 : Mem, (∀ c', c' ≠ b → c' ≠ b + 4 → σ4 c' = τ1 c') → (Ix N Λ (b + 3) 0 (subI (addI 996 y) 1) ∧ (∀ y5, y5 = σ4 (b + 3) (subI (addI 996 y) 1) → (Ix N Λ (b + 3) 0 (subI (addI 996 y) 1) ∧ (∀ τ6, τ6 = st σ4 (b + 3) (subI (addI 996 y) 1) v → P y5 τ6)))) := fun y u0 u1 q σ4 k4 => by
    rw [addI_e (x := 996) (by omega) (by omega), subI_e (by omega) (by omega), k4 _ (by omega) (by omega), z2 _ (by omega) (by omega)]
    exact ⟨Ix.of (M_state hM) (by omega) (by omega), fun y5 e5 => ⟨Ix.of (M_state hM) (by omega) (by omega), fun τ6 _ => by rw [e5]; exact y2 _ q⟩⟩
  refine ⟨Ix.of (M_rankOf hM) (by omega) (by omega), fun g y e2 => ?_, fun g y e2 => ?_⟩
  · refine ⟨fun u => n3 _ (by omega), fun u1 => ⟨fun u => n3 _ (by omega), fun u2 => ⟨fun u3 => ⟨fun _ => m_note hM z5 fun σ3 k3 => tail y (by omega) (by omega) (by omega) σ3 k3, fun hc => absurd (z5.symm.trans hc) (by decide)⟩, fun u3 => n3 _ (by omega)⟩⟩⟩
  · rw [negI_e (by omega) (by omega)] at e2
    refine ⟨fun u => n3 _ (by omega), fun u1 => ⟨fun u => n3 _ (by omega), fun u2 => ⟨fun u3 => ⟨fun _ => m_note hM z5 fun σ3 k3 => tail y (by omega) (by omega) (by omega) σ3 k3, fun hc => absurd (z5.symm.trans hc) (by decide)⟩, fun u3 => n3 _ (by omega)⟩⟩⟩
theorem k75 {P : Int → Mem → Prop} {n key i : Int} (hM : ModL N Λ b) (h4 : 4 ≤ i) (h : P key σ) : WI l mX12_keyOf d P 75 [(2, b), (0, n), (0, key), (0, i), (3, 0)] [] N Λ σ :=
  v_X12_keyOf_75 hM.1 (M_franks hM) ⟨fun _ => h, fun hc => absurd h4 hc⟩
theorem k75z {P : Int → Mem → Prop} {n key i k2 i2 : Int} (hM : ModL N Λ b) (h4 : ¬ 4 ≤ i) (h5 : n ≤ i) (hk : addI (mulI 121 key) 0 = k2) (hi : addI i 1 = i2) (h : WI l mX12_keyOf d P 75 [(2, b), (0, n), (0, k2), (0, i2), (3, 0)] [] N Λ σ) : WI l mX12_keyOf d P 75 [(2, b), (0, n), (0, key), (0, i), (3, 0)] [] N Λ σ := by
  refine v_X12_keyOf_75 hM.1 (M_franks hM) ⟨fun hc => absurd hc h4, fun _ => ⟨fun _ y1 e1 y2 e2 => ?_, fun hc => absurd h5 hc⟩⟩
  rw [e1, e2, hk, hi]
  exact h
theorem k75r {P : Int → Mem → Prop} {n key i k2 i2 : Int} (hM : ModL N Λ b) (h0 : 0 ≤ i) (h4 : ¬ 4 ≤ i) (h5 : ¬ n ≤ i) (hk : addI (mulI 121 key) (σ (b + 7) i) = k2) (hi : addI i 1 = i2) (h : WI l mX12_keyOf d P 75 [(2, b), (0, n), (0, k2), (0, i2), (3, 0)] [] N Λ σ) : WI l mX12_keyOf d P 75 [(2, b), (0, n), (0, key), (0, i), (3, 0)] [] N Λ σ := by
  refine v_X12_keyOf_75 hM.1 (M_franks hM) ⟨fun hc => absurd hc h4, fun _ => ⟨fun hc => absurd hc h5, fun _ => ⟨Ix.of (M_ranks hM) h0 (by omega), fun y3 e3 y4 e4 => ?_⟩⟩⟩
  rw [e3, e4, hk, hi]
  exact h
theorem t121 {x y z : Int} (h0 : 0 ≤ x) (h1 : x ≤ 2000000) (h2 : 0 ≤ y) (h3 : y ≤ 200) (e : 121 * x + y = z) : addI (mulI 121 x) y = z := by
  rw [mulI_e (x := 121) (y := x) (by omega) (by omega), addI_e (by omega) (by omega)]
  exact e
/-- one rank as a key -/
theorem m_key1 {P : Int → Mem → Prop} {r : Int} (hM : ModL N Λ b) (hr : 0 ≤ r ∧ r ≤ 120) (h0 : σ (b + 7) 0 = r) (h : P (1771561 * r) σ) : CI l mX12_keyOf d [(2, b), (0, 1)] N Λ σ P := by
  refine c_X12_keyOf (v_X12_keyOf_0 (v_X12_keyOf_2 hM.1 (M_franks hM) ⟨fun _ => ?_, fun hc => absurd (Int.le_refl 1) hc⟩))
  refine k75r hM (by decide) (by decide) (by decide) (k2 := r) (by rw [h0]; exact t121 (by omega) (by omega) (by omega) (by omega) (by omega)) (show addI 0 1 = 1 by decide) ?_
  refine k75z hM (by decide) (by decide) (k2 := 121 * r) (t121 (by omega) (by omega) (by omega) (by omega) (by omega)) (show addI 1 1 = 2 by decide) ?_
  refine k75z hM (by decide) (by decide) (k2 := 14641 * r) (t121 (by omega) (by omega) (by omega) (by omega) (by omega)) (show addI 2 1 = 3 by decide) ?_
  refine k75z hM (by decide) (by decide) (k2 := 1771561 * r) (t121 (by omega) (by omega) (by omega) (by omega) (by omega)) (show addI 3 1 = 4 by decide) ?_
  exact k75 hM (by decide) h
theorem k2tail {P : Int → Mem → Prop} {p q : Int} (hM : ModL N Λ b) (hp : 0 ≤ p ∧ p ≤ 120) (hq : 0 ≤ q ∧ q ≤ 120) (h0 : σ (b + 7) 0 = p) (h1 : σ (b + 7) 1 = q) (h : P (1771561 * p + 14641 * q) σ) : WI l mX12_keyOf d P 75 [(2, b), (0, 2), (0, 0), (0, 0), (3, 0)] [] N Λ σ := by
  refine k75r hM (by decide) (by decide) (by decide) (k2 := p) (by rw [h0]; exact t121 (by omega) (by omega) (by omega) (by omega) (by omega)) (show addI 0 1 = 1 by decide) ?_
  refine k75r hM (by decide) (by decide) (by decide) (k2 := 121 * p + q) (by rw [h1]; exact t121 (by omega) (by omega) (by omega) (by omega) (by omega)) (show addI 1 1 = 2 by decide) ?_
  refine k75z hM (by decide) (by decide) (k2 := 14641 * p + 121 * q) (t121 (by omega) (by omega) (by omega) (by omega) (by omega)) (show addI 2 1 = 3 by decide) ?_
  refine k75z hM (by decide) (by decide) (k2 := 1771561 * p + 14641 * q) (t121 (by omega) (by omega) (by omega) (by omega) (by omega)) (show addI 3 1 = 4 by decide) ?_
  exact k75 hM (by decide) h
def mk2 (p q : Int) : Int := if p ≤ q then 1771561 * p + 14641 * q else 1771561 * q + 14641 * p
/-- two ranks as a key -/
theorem m_key2 {P : Int → Mem → Prop} {p q : Int} (hM : ModL N Λ b) (hp : 0 ≤ p ∧ p ≤ 120) (hq : 0 ≤ q ∧ q ≤ 120) (h0 : σ (b + 7) 0 = p) (h1 : σ (b + 7) 1 = q) (h : ∀ σ', (∀ c', c' ≠ b + 7 → σ' c' = σ c') → P (mk2 p q) σ') : CI l mX12_keyOf d [(2, b), (0, 2)] N Λ σ P := by
  have ix : ∀ j : Int, 0 ≤ j → j < 9 → Ix N Λ (b + 7) 0 j := fun j u0 u1 => Ix.of (M_ranks hM) u0 u1
  refine c_X12_keyOf (v_X12_keyOf_0 (v_X12_keyOf_2 hM.1 (M_franks hM) ⟨fun hc => absurd hc (by decide), fun _ => ⟨ix 1 (by decide) (by decide), fun y1 e1 => ?_⟩⟩))
  rw [h1] at e1
  subst y1
  refine v_X12_keyOf_17 hM.1 (M_franks hM) ⟨fun hc => absurd hc (by decide), fun _ => ⟨ix _ (by decide) (by decide), ?_⟩⟩
  rw [show subI 1 1 = 0 by decide, h0]
  refine ⟨fun hc => ⟨ix 1 (by decide) (by decide), fun τ3 e3 y4 e4 => ?_⟩, fun hc => ⟨ix 0 (by decide) (by decide), ix 1 (by decide) (by decide), fun τ5 e5 y6 e6 => ?_⟩⟩
  · rw [show y4 = 2 from e4.trans (by decide)]
    refine v_X12_keyOf_2 hM.1 (M_franks hM) ⟨fun _ => ?_, fun hc => absurd (Int.le_refl 2) hc⟩
    have := h τ3 fun c' u => by rw [e3, st_ne u]
    unfold mk2 at this
    rw [if_pos hc] at this
    exact k2tail hM hp hq (by rw [e3, st_nj (by decide)]; exact h0) (by rw [e3, st_eq]) this
  · rw [show y6 = 0 from e6.trans (by decide)]
    refine v_X12_keyOf_17 hM.1 (M_franks hM) ⟨fun _ => ⟨ix 0 (by decide) (by decide), fun τ1 e1 y2 e2 => ?_⟩, fun hc => absurd (Int.le_refl 0) hc⟩
    rw [show y2 = 2 from e2.trans (by decide)]
    refine v_X12_keyOf_2 hM.1 (M_franks hM) ⟨fun _ => ?_, fun hc => absurd (Int.le_refl 2) hc⟩
    have := h τ1 fun c' u => by rw [e1, st_ne u, e5, st_ne u]
    unfold mk2 at this
    rw [if_neg hc] at this
    exact k2tail hM hq hp (by rw [e1, st_eq]) (by rw [e1, st_nj (by decide), e5, st_eq]) this
theorem putS_nil {k n : Int} (h : Int32R n) (h0 : ¬ n = 0) : putS [] k n = (0, [(k, n)]) := by
  unfold putS
  rw [if_neg (fun z => z h), if_neg h0]
  rfl
def an_br (s a c e : Int) : Int := if (0 ≤ s ∧ s < 6) ∧ (0 ≤ a ∧ a < 10) ∧ (0 ≤ c ∧ c < 10) ∧ 0 ≤ e ∧ e < 10 then (if Rk a c e = 0 then 0 else 1) else -2
theorem an_br_n {s a c e : Int} (h : ¬ ((0 ≤ s ∧ s < 6) ∧ (0 ≤ a ∧ a < 10) ∧ (0 ≤ c ∧ c < 10) ∧ 0 ≤ e ∧ e < 10)) : an_br s a c e = -2 := if_neg h
theorem an_br_0 {s a c e : Int} (h : (0 ≤ s ∧ s < 6) ∧ (0 ≤ a ∧ a < 10) ∧ (0 ≤ c ∧ c < 10) ∧ 0 ≤ e ∧ e < 10) (h0 : Rk a c e = 0) : an_br s a c e = 0 := by unfold an_br; rw [if_pos h, if_pos h0]
theorem an_br_1 {s a c e : Int} (h : (0 ≤ s ∧ s < 6) ∧ (0 ≤ a ∧ a < 10) ∧ (0 ≤ c ∧ c < 10) ∧ 0 ≤ e ∧ e < 10) (h0 : ¬ Rk a c e = 0) : an_br s a c e = 1 := by unfold an_br; rw [if_pos h, if_neg h0]
def BecT (l : Launch) (d N : Nat) (Λ : Lay) (b s : Int) (P : Int → Mem → Prop) (σ4 : Mem) : Prop := (¬ (σ4 b 5) = 10 → (CV l mX12_copies (d - 1 - 1 - 1) [(2, b + 3), (0, 0), (2, b + 4), (0, (mulI 1116 (σ4 b 5))), (0, 1116)] N Λ σ4 (fun σ5 => (∀ τ6, τ6 = st σ5 b 5 (addI (σ5 b 5) 1) → (CV l mX12_copies (d - 1 - 1) [(2, b + 6), (0, 0), (2, b + 3), (0, (mulI 161 s)), (0, 161)] N Λ τ6 (fun σ7 => (Ix N Λ (b + 6) 0 (mulI 161 0) ∧ P (σ7 (b + 6) (mulI 161 0)) σ7))))))) ∧ ((σ4 b 5) = 10 → (CV l mX12_copies (d - 1 - 1 - 1) [(2, b + 4), (0, 1116), (2, b + 4), (0, 0), (0, 10044)] N Λ σ4 (fun σ8 => (∀ τ9, τ9 = st σ8 b 5 (subI (σ8 b 5) 1) → (CV l mX12_copies (d - 1 - 1 - 1) [(2, b + 3), (0, 0), (2, b + 4), (0, (mulI 1116 (τ9 b 5))), (0, 1116)] N Λ τ9 (fun σ10 => (∀ τ11, τ11 = st σ10 b 5 (addI (σ10 b 5) 1) → (CV l mX12_copies (d - 1 - 1) [(2, b + 6), (0, 0), (2, b + 3), (0, (mulI 161 s)), (0, 161)] N Λ τ11 (fun σ12 => (Ix N Λ (b + 6) 0 (mulI 161 0) ∧ P (σ12 (b + 6) (mulI 161 0)) σ12))))))))))
theorem becT {P : Int → Mem → Prop} {s m : Int} (hM : ModL N Λ b) (hs : 0 ≤ s ∧ s < 6) (q5 : σ b 5 = 0) (qm : σ (b + 6) 0 = m) (hm : ∀ σ', P m σ') : BecT l d N Λ b s P σ := by
  refine ⟨fun _ => m_bec hM q5 hs fun σ' z => ⟨ix0 hM, ?_⟩, fun hc => absurd (q5.symm.trans hc) (by decide)⟩
  rw [m161_0, z, qm]
  exact hm σ'
theorem km_bracket {P : Int → Mem → Prop} {s a c e : Int} (hM : ModL N Λ b) (hZ : MZ σ b) (hd : 4 ≤ d) (h : ∀ σ', P (an_br s a c e) σ') : CI l mX12_bracket d [(2, b), (0, s), (0, a), (0, c), (0, e)] N Λ σ P := by
  refine c_X12_bracket (v_X12_bracket_0 hM.1 (M_fpool hM) (M_fstate hM) (M_fdeeds hM) (by omega) fun τ1 e1 => ?_)
  simp only [cmpL_lt, cmpL_gt]
  have no : ∀ σ', ¬ ((0 ≤ s ∧ s < 6) ∧ (0 ≤ a ∧ a < 10) ∧ (0 ≤ c ∧ c < 10) ∧ 0 ≤ e ∧ e < 10) → P (-2) σ' := fun σ' q => by have := h σ'; rw [an_br_n q] at this; exact this
  refine ⟨fun g => no _ (by omega), fun g1 => ⟨fun g => no _ (by omega), fun g2 => ⟨fun g => no _ (by omega), fun g3 => ⟨fun g => no _ (by omega), fun g4 => ⟨fun g => no _ (by omega), fun g5 => ⟨fun g => no _ (by omega), fun g6 => ⟨fun g => no _ (by omega), fun g7 => ⟨fun g => no _ (by omega), fun g8 τ2 e2 => ⟨ix0 hM, fun τ3 e3 => ?_⟩⟩⟩⟩⟩⟩⟩⟩⟩
  have hr := rk_r (a := a) (b := c) (c := e) (by omega) (by omega) (by omega)
  have y0 : ∀ σ', Rk a c e = 0 → P 0 σ' := fun σ' q => by have := h σ'; rw [an_br_0 (by omega) q] at this; exact this
  have y1 : ∀ σ', ¬ Rk a c e = 0 → P 1 σ' := fun σ' q => by have := h σ'; rw [an_br_1 (by omega) q] at this; exact this
  have z5 : τ3 b 5 = 0 := by rw [e3, st_ne (by omega), e2, st_nj (by decide)]; exact (hZ.sh e1).2
  have z8 : τ3 b 8 = 0 := by rw [e3, st_ne (by omega), e2, st_eq]
  have zp : τ3 (b + 6) 0 = 0 := by rw [e3, m161_0, st_eq]
  have zr : τ3 (b + 1) (100 * a + 10 * c + e) = Rk a c e := by rw [e3, st_ne (by omega), e2, st_ne (by omega), e1, st_ne (by omega), hZ.1]; rfl
  refine c_X12_putsBracket (v_X12_putsBracket_0 hM.1 (M_frankOf hM) (M_franks hM) (by omega) ?_)
  rw [m_ix (by omega) (by omega) (by omega), zr]
  have ixr : Ix N Λ (b + 7) 0 0 := Ix.of (M_ranks hM) (by decide) (by decide)
  have put : ∀ (τ : Mem) (r n : Int), τ = st τ3 (b + 7) 0 r → 0 ≤ r ∧ r ≤ 120 → Int32R n → ¬ n = 0 → ¬ Rk a c e = 0 → CI l mX12_puts (d - 1 - 1) [(2, b), (0, 0), (0, 1771561 * r), (1, n)] N Λ τ (fun v6 σ5 => BecT l d N Λ b s P σ5) := fun τ r n eτ hr2 hn hn0 hq => by
    refine k_puts hM (by omega) (by decide) (by decide) (ts := []) ⟨by show τ (b + 6) (161 * 0) = 0; rw [eτ, st_ne (by omega)]; exact zp, fun i e he => by simp at he⟩ (by decide) (fun e he => by simp at he) (by rw [eτ, st_ne (by omega)]; exact z8) (fun σ' ts' ep hp hsame => ?_) (fun k ek hk => ?_)
    · rw [putS_nil hn hn0] at ep
      have et : ts' = [(1771561 * r, n)] := ((Prod.mk.inj ep).2).symm
      refine becT (m := 1) hM (by omega) ?_ ?_ (fun σ'' => y1 σ'' hq)
      · rw [hsame b 5 (by omega), eτ, st_ne (by omega)]; exact z5
      · have := hp.1
        rw [et] at this
        exact this
    · rw [putS_nil hn hn0] at ek
      exact absurd ek.symm hk
  refine ⟨Ix.of (M_rankOf hM) (by omega) (by omega), fun y ey => ?_⟩
  subst y
  refine ⟨fun g => ⟨ixr, fun τ4 e4 => ⟨fun hc => becT (m := 0) hM (by omega) (by rw [e4, st_ne (by omega)]; exact z5) (by rw [e4, st_ne (by omega)]; exact zp) (fun σ' => y0 σ' hc), fun hc => ?_⟩⟩, fun g => ⟨ixr, fun τ4 e4 => ⟨fun hc => absurd hc (by omega), fun hc => ?_⟩⟩⟩
  · exact m_key1 (r := Rk a c e) hM (by omega) (by rw [e4, st_eq]) ⟨fun _ => put τ4 _ 1 e4 (by omega) (by unfold Int32R; decide) (by decide) hc, fun hc2 => absurd g hc2⟩
  · rw [negI_e (by omega) (by omega)] at e4
    exact m_key1 (r := -Rk a c e) hM (by omega) (by rw [e4, st_eq]) ⟨fun hc2 => absurd hc2 g, fun _ => put τ4 _ (-1) e4 (by omega) (by unfold Int32R; decide) (by decide) hc⟩
end MD4
