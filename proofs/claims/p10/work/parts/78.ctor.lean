section CTA
variable {l : Launch} {d N : Nat} {Λ : Lay} {σ : Mem} {b : Int}
/-- the numbers of a new reference; s0: its own slots before -/
def Mod0 (σ : Mem) (b : Int) (s0 : Int → Int) : Prop := σ (b + 1) = RkT 120 ∧ σ (b + 2) = LtT 120 ∧ (∀ j : Int, σ (b + 3) j = if 996 ≤ j ∧ j < 1116 then 2 else 0) ∧ (∀ c' : Int, b + 4 ≤ c' → c' < b + 23 → ∀ j : Int, σ c' j = 0) ∧ ∀ j : Int, σ b j = if j = 23 then -1 else s0 j
theorem mod_f {P : Nat → Lay → Mem → Prop} {mc ms kk nn : Nat} {k : Int} {σ0 : Mem} (hM : ModL N Λ b) (hd : 1 ≤ d) (hkn : kk ≤ mc ∧ nn ≤ ms) (h : ∀ σ', (∀ j : Int, σ' (b + 3) j = if 996 ≤ j ∧ j < 1116 then 2 else 0) → (∀ c', c' ≠ b + 3 → σ' c' = σ0 c') → P N Λ σ') :
    ∀ (m i : Nat), i + m = 120 → ∀ (σ : Mem), (∀ j : Int, σ (b + 3) j = if 996 ≤ j ∧ j < 996 + i then 2 else 0) → (∀ c', c' ≠ b + 3 → σ c' = σ0 c') →
      WC l mX12_init d mc ms P kk nn 301 [(2, b), (0, k), (0, (i : Int)), (3, 0), (3, 0)] [] N Λ σ := by
  intro m
  induction m with
  | zero =>
    intro i hi σ h1 h2
    have : i = 120 := by omega
    subst this
    exact v_X12_init_301 hM.1 hd ⟨fun _ => ⟨hkn, h σ h1 h2⟩, fun hc => by omega⟩
  | succ m ih =>
    intro i hi σ h1 h2
    refine v_X12_init_301 hM.1 hd ⟨fun hc => by omega, fun _ b1 e1 => ?_⟩
    rw [M_fstate hM] at e1
    subst e1
    rw [addI_e (by omega) (by omega)]
    refine ⟨3348, M_state hM, Ix.of (M_state hM) (by omega) (by omega), fun τ3 e3 y4 e4 => ?_⟩
    rw [e4, addI_e (by omega) (by omega)]
    refine ih (i + 1) (by omega) τ3 (fun j => ?_) (fun c' hc => by rw [e3, st_ne hc, h2 c' hc])
    rw [e3]
    by_cases hj : j = 996 + i
    · rw [hj, st_eq, if_pos (by omega)]
    · rw [st_nj hj, h1 j]
      by_cases hq : 996 ≤ j ∧ j < 996 + (i : Int)
      · rw [if_pos hq, if_pos (by omega)]
      · rw [if_neg hq, if_neg (by omega)]
theorem k_Mod_init {P : Nat → Lay → Mem → Prop} (hN : b + 1 = N) (o : Ob N Λ b 21 36) (hd : 2 ≤ d) (h : ∀ Λ' σ', ModL (N + 22) Λ' b → Mod0 σ' b (σ b) → Keep N Λ σ Λ' σ' b → P (N + 22) Λ' σ') : CC l mX12_init d 22 51167 [(2, b)] N Λ σ P := by
  refine CC.of (m := 4) ok_mX12_init (Nat.le_of_ble_eq_true rfl) rfl (mod_new hN o (by omega) (fun Λ1 σ1 hM hZ => ?_))
  obtain ⟨z1, z2, z3⟩ := hZ
  have r0 : σ1 (b + 1) = RkT 0 := funext fun j => z1 (b + 1) (by omega) (by omega) j
  have l0 : σ1 (b + 2) = LtT 0 := funext fun j => z1 (b + 2) (by omega) (by omega) j
  refine mod_a hM (by omega) ⟨Nat.le_refl _, Nat.le_refl _⟩ 10 0 rfl σ1 r0 l0 (fun σ2 a1 a2 a3 => ?_)
  refine mod_f (σ0 := σ2) hM (by omega) ⟨Nat.le_refl _, Nat.le_refl _⟩ (fun σ3 c1 c2 => h Λ1 σ3 hM ⟨?_, ?_, c1, fun c' g0 g1 j => ?_, fun j => ?_⟩ (fun c' g0 g1 g2 => ⟨(z3 c' g0 g1 g2).1, ?_⟩)) 120 0 rfl σ2 (fun j => ?_) (fun _ _ => rfl)
  · rw [c2 _ (by omega), a1]
  · rw [c2 _ (by omega), a2]
  · rw [c2 _ (by omega), a3 _ (by omega) (by omega)]
    exact z1 c' (by omega) (by omega) j
  · rw [c2 _ (by omega), a3 _ (by omega) (by omega)]
    exact z2 j
  · rw [c2 _ (by omega), a3 _ (by omega) (by omega)]
    exact (z3 c' g0 g1 g2).2
  · rw [a3 _ (by omega) (by omega), if_neg (by omega)]
    exact z1 (b + 3) (by omega) (by omega) j
end CTA
