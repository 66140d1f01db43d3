section CT9
variable {l : Launch} {d N : Nat} {Λ : Lay} {σ : Mem} {b : Int}
/-- the brackets in their order -/
def brs : List (Nat × Nat × Nat) := [(0, 1, 2), (0, 1, 3), (0, 1, 4), (0, 1, 5), (0, 1, 6), (0, 1, 7), (0, 1, 8), (0, 1, 9), (0, 2, 3), (0, 2, 4), (0, 2, 5), (0, 2, 6), (0, 2, 7), (0, 2, 8), (0, 2, 9), (0, 3, 4), (0, 3, 5), (0, 3, 6), (0, 3, 7), (0, 3, 8), (0, 3, 9), (0, 4, 5), (0, 4, 6), (0, 4, 7), (0, 4, 8), (0, 4, 9), (0, 5, 6), (0, 5, 7), (0, 5, 8), (0, 5, 9), (0, 6, 7), (0, 6, 8), (0, 6, 9), (0, 7, 8), (0, 7, 9), (0, 8, 9), (1, 2, 3), (1, 2, 4), (1, 2, 5), (1, 2, 6), (1, 2, 7), (1, 2, 8), (1, 2, 9), (1, 3, 4), (1, 3, 5), (1, 3, 6), (1, 3, 7), (1, 3, 8), (1, 3, 9), (1, 4, 5), (1, 4, 6), (1, 4, 7), (1, 4, 8), (1, 4, 9), (1, 5, 6), (1, 5, 7), (1, 5, 8), (1, 5, 9), (1, 6, 7), (1, 6, 8), (1, 6, 9), (1, 7, 8), (1, 7, 9), (1, 8, 9), (2, 3, 4), (2, 3, 5), (2, 3, 6), (2, 3, 7), (2, 3, 8), (2, 3, 9), (2, 4, 5), (2, 4, 6), (2, 4, 7), (2, 4, 8), (2, 4, 9), (2, 5, 6), (2, 5, 7), (2, 5, 8), (2, 5, 9), (2, 6, 7), (2, 6, 8), (2, 6, 9), (2, 7, 8), (2, 7, 9), (2, 8, 9), (3, 4, 5), (3, 4, 6), (3, 4, 7), (3, 4, 8), (3, 4, 9), (3, 5, 6), (3, 5, 7), (3, 5, 8), (3, 5, 9), (3, 6, 7), (3, 6, 8), (3, 6, 9), (3, 7, 8), (3, 7, 9), (3, 8, 9), (4, 5, 6), (4, 5, 7), (4, 5, 8), (4, 5, 9), (4, 6, 7), (4, 6, 8), (4, 6, 9), (4, 7, 8), (4, 7, 9), (4, 8, 9), (5, 6, 7), (5, 6, 8), (5, 6, 9), (5, 7, 8), (5, 7, 9), (5, 8, 9), (6, 7, 8), (6, 7, 9), (6, 8, 9), (7, 8, 9)]
def RkT : Nat → Int → Int
  | 0 => fun _ => 0
  | n + 1 => match brs[n]? with
    | some t => rk6 (RkT n) t.1 t.2.1 t.2.2 (n + 1)
    | none => RkT n
def LtT : Nat → Int → Int
  | 0 => fun _ => 0
  | n + 1 => match brs[n]? with
    | some t => lt3 (LtT n) t.1 t.2.1 t.2.2 (n + 1)
    | none => LtT n
theorem RkT_s {n x y z : Nat} (h : brs[n]? = some (x, y, z)) : RkT (n + 1) = rk6 (RkT n) x y z (n + 1) := by
  simp only [RkT, h]
theorem LtT_s {n x y z : Nat} (h : brs[n]? = some (x, y, z)) : LtT (n + 1) = lt3 (LtT n) x y z (n + 1) := by
  simp only [LtT, h]
def kf (x y : Nat) : Nat := 120 - (10 - x) * (9 - x) * (8 - x) / 6 + (9 - x) * (8 - x) / 2 - (10 - y) * (9 - y) / 2
def kfb : Bool := (List.range 10).all fun x => (List.range 10).all fun y => Nat.ble y x || ((List.range 9).all (fun i => Nat.ble (9 - y) i || decide (brs[kf x y + i]? = some (x, y, y + 1 + i))) && Nat.beq (kf x (y + 1)) (kf x y + (9 - y)) && Nat.ble (kf x y + (9 - y)) 120)
theorem kfb_t : kfb = true := by rfl
theorem kf_b (x : Nat) (hx : x < 10) (y : Nat) (hy : y < 10) (hxy : x < y) : (∀ i, i < 9 - y → brs[kf x y + i]? = some (x, y, y + 1 + i)) ∧ kf x (y + 1) = kf x y + (9 - y) ∧ kf x y + (9 - y) ≤ 120 := by
  have h := kfb_t
  unfold kfb at h
  rw [List.all_eq_true] at h
  have h1 := h x (List.mem_range.2 hx)
  rw [List.all_eq_true] at h1
  have h2 := h1 y (List.mem_range.2 hy)
  rw [Bool.or_eq_true, Bool.and_eq_true, Bool.and_eq_true, List.all_eq_true] at h2
  rcases h2 with h2 | ⟨⟨h2, h3⟩, h4⟩
  · have := Nat.le_of_ble_eq_true h2
    omega
  · refine ⟨fun i hi => ?_, Nat.eq_of_beq_eq_true h3, Nat.le_of_ble_eq_true h4⟩
    have h5 := h2 i (List.mem_range.2 (by omega))
    rw [Bool.or_eq_true] at h5
    rcases h5 with h5 | h5
    · have := Nat.le_of_ble_eq_true h5
      omega
    · exact of_decide_eq_true h5
theorem kf_a : ∀ x, x < 10 → kf x 10 = kf (x + 1) (x + 2) := by decide
theorem mod_c {P : Nat → Lay → Mem → Prop} {mc ms kk nn x y : Nat} (hM : ModL N Λ b) (hd : 1 ≤ d) (hkn : kk ≤ mc ∧ nn ≤ ms) (x1 : x < 10) (y1 : y < 10) :
    ∀ (m z k : Nat), z + m = 10 → k + m ≤ 120 → (∀ i, i < m → brs[k + i]? = some (x, y, z + i)) → ∀ (σ : Mem), σ (b + 1) = RkT k → σ (b + 2) = LtT k →
      (∀ σ', σ' (b + 1) = RkT (k + m) → σ' (b + 2) = LtT (k + m) → (∀ c', c' ≠ b + 1 → c' ≠ b + 2 → σ' c' = σ c') → WC l mX12_init d mc ms P kk nn 201 [(2, b), (0, ((k + m : Nat) : Int)), (0, (x : Int)), (0, ((y + 1 : Nat) : Int)), (3, 0)] [] N Λ σ') →
      WC l mX12_init d mc ms P kk nn 212 [(2, b), (0, (k : Int)), (0, (x : Int)), (0, (y : Int)), (0, (z : Int))] [] N Λ σ := by
  intro m
  induction m with
  | zero =>
    intro z k hz hk hb σ h1 h2 h
    refine v_X12_init_212 hM.1 hd ⟨fun _ y1' e1 => ?_, fun hc => by omega⟩
    rw [e1, addI_e (by omega) (by omega)]
    exact h σ h1 h2 (fun _ _ _ => rfl)
  | succ m ih =>
    intro z k hz hk hb σ h1 h2 h
    refine mod_it hM hd hkn (by omega) (by omega) (by omega) (by omega) (by omega) (by omega) (by omega) (by omega) (fun σ' a1 a2 a3 => ?_)
    have hb0 := hb 0 (by omega)
    refine ih (z + 1) (k + 1) (by omega) (by omega) (fun i hi => ?_) σ' ?_ ?_ (fun σ'' c1 c2 c3 => ?_)
    · have := hb (i + 1) (by omega)
      rw [show k + 1 + i = k + (i + 1) by omega, this, show z + (i + 1) = z + 1 + i by omega]
    · rw [a1, h1, RkT_s hb0]
      rfl
    · rw [a2, h2, LtT_s hb0]
      rfl
    · rw [show k + 1 + m = k + (m + 1) by omega] at c1 c2
      have := h σ'' c1 c2 (fun c' g0 g1 => by rw [c3 c' g0 g1, a3 c' g0 g1])
      rw [show k + 1 + m = k + (m + 1) by omega]
      exact this
theorem mod_b {P : Nat → Lay → Mem → Prop} {mc ms kk nn x : Nat} (hM : ModL N Λ b) (hd : 1 ≤ d) (hkn : kk ≤ mc ∧ nn ≤ ms) (x1 : x < 10) :
    ∀ (m y : Nat), y + m = 10 → x < y → ∀ (σ : Mem), σ (b + 1) = RkT (kf x y) → σ (b + 2) = LtT (kf x y) →
      (∀ σ', σ' (b + 1) = RkT (kf x 10) → σ' (b + 2) = LtT (kf x 10) → (∀ c', c' ≠ b + 1 → c' ≠ b + 2 → σ' c' = σ c') → WC l mX12_init d mc ms P kk nn 191 [(2, b), (0, ((kf x 10 : Nat) : Int)), (0, ((x + 1 : Nat) : Int)), (3, 0), (3, 0)] [] N Λ σ') →
      WC l mX12_init d mc ms P kk nn 201 [(2, b), (0, ((kf x y : Nat) : Int)), (0, (x : Int)), (0, (y : Int)), (3, 0)] [] N Λ σ := by
  intro m
  induction m with
  | zero =>
    intro y hy hxy σ h1 h2 h
    have : y = 10 := by omega
    subst this
    refine v_X12_init_201 hM.1 hd ⟨fun _ y1' e1 => ?_, fun hc => by omega⟩
    rw [e1, addI_e (by omega) (by omega)]
    exact h σ h1 h2 (fun _ _ _ => rfl)
  | succ m ih =>
    intro y hy hxy σ h1 h2 h
    obtain ⟨q1, q2, q3⟩ := kf_b x x1 y (by omega) hxy
    refine v_X12_init_201 hM.1 hd ⟨fun hc => by omega, fun _ y2 e2 => ?_⟩
    rw [addI_e (by omega) (by omega)] at e2
    rw [e2]
    refine mod_c hM hd hkn x1 (by omega) (9 - y) (y + 1) (kf x y) (by omega) q3 q1 σ h1 h2 (fun σ' a1 a2 a3 => ?_)
    rw [← q2] at a1 a2 ⊢
    exact ih (y + 1) (by omega) (by omega) σ' a1 a2 (fun σ'' c1 c2 c3 => h σ'' c1 c2 (fun c' g0 g1 => by rw [c3 c' g0 g1, a3 c' g0 g1]))
theorem mod_a {P : Nat → Lay → Mem → Prop} {mc ms kk nn : Nat} (hM : ModL N Λ b) (hd : 1 ≤ d) (hkn : kk ≤ mc ∧ nn ≤ ms) :
    ∀ (m x : Nat), x + m = 10 → ∀ (σ : Mem), σ (b + 1) = RkT (kf x (x + 1)) → σ (b + 2) = LtT (kf x (x + 1)) →
      (∀ σ', σ' (b + 1) = RkT 120 → σ' (b + 2) = LtT 120 → (∀ c', c' ≠ b + 1 → c' ≠ b + 2 → σ' c' = σ c') → WC l mX12_init d mc ms P kk nn 301 [(2, b), (0, 120), (0, 0), (3, 0), (3, 0)] [] N Λ σ') →
      WC l mX12_init d mc ms P kk nn 191 [(2, b), (0, ((kf x (x + 1) : Nat) : Int)), (0, (x : Int)), (3, 0), (3, 0)] [] N Λ σ := by
  intro m
  induction m with
  | zero =>
    intro x hx σ h1 h2 h
    have : x = 10 := by omega
    subst this
    exact v_X12_init_191 hM.1 hd ⟨fun _ => h σ h1 h2 (fun _ _ _ => rfl), fun hc => by omega⟩
  | succ m ih =>
    intro x hx σ h1 h2 h
    refine v_X12_init_191 hM.1 hd ⟨fun hc => by omega, fun _ y1 e1 => ?_⟩
    rw [addI_e (by omega) (by omega)] at e1
    rw [e1]
    refine mod_b hM hd hkn (by omega) (9 - x) (x + 1) (by omega) (by omega) σ h1 h2 (fun σ' a1 a2 a3 => ?_)
    rw [kf_a x (by omega)] at a1 a2 ⊢
    exact ih (x + 1) (by omega) σ' a1 a2 (fun σ'' c1 c2 c3 => h σ'' c1 c2 (fun c' g0 g1 => by rw [c3 c' g0 g1, a3 c' g0 g1]))
end CT9
