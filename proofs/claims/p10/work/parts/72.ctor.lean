section CT4
variable {l : Launch} {d N : Nat} {Λ : Lay} {σ : Mem} {c : Int}
def ElimL (N : Nat) (Λ : Lay) (c : Int) : Prop := Ob N Λ c 10 4 ∧ (Λ c).2.2 0 = c + 1 ∧ (Λ c).2.2 1 = c + 2 ∧ Ob N Λ (c + 1) 1 480 ∧ Ob N Λ (c + 2) 5 6 ∧ ∀ i : Int, 0 ≤ i → i < 6 → (Λ (c + 2)).2.2 i = c + 3 + i ∧ Ob N Λ (c + 3 + i) 0 480
theorem k_Elim_init {P : Nat → Lay → Mem → Prop} (hN : c + 1 = N) (o : Ob N Λ c 10 4) (hd : 1 ≤ d) (h : ∀ Λ' σ', ElimL (N + 8) Λ' c → Keep N Λ σ Λ' σ' c → P (N + 8) Λ' σ') : CC l mX0_init d 8 3366 [(2, c)] N Λ σ P := by
  refine CC.of (m := 0) ok_mX0_init (Nat.le_of_ble_eq_true rfl) rfl (v_X0_init_0 o hd ?_)
  refine ⟨⟨by decide, by decide⟩, fun a1 e1 Λ2 e2 σ3 e3 Λ4 e4 => ⟨⟨by decide, by decide⟩, fun a5 e5 Λ6 e6 σ7 e7 Λ8 e8 τ9 e9 τ10 e10 => ⟨⟨by decide, by decide⟩, ?_⟩⟩⟩
  have q1 : a1 = c + 1 := by omega
  have q5 : a5 = c + 2 := by omega
  have o1 := Ob_stR e8 (Ob_mna e6 (Ob_stR e4 (Ob_newS e2 e1)))
  have o5 := Ob_stR e8 (Ob_mnaS e6 e5)
  rw [q1] at o1
  rw [q5] at o5
  have hc0 := o.1
  have k6 : Λ6 c = Λ4 c := by rw [e6]; simp only [mnaL]; rw [if_neg (by omega), if_neg (by omega)]
  have k8 : ∀ c' : Int, c' ≠ c → Λ8 c' = Λ6 c' := fun c' hc' => by rw [e8, stR_ne hc']
  refine h Λ8 τ10 ⟨Ob_stR e8 (Ob_mna e6 (Ob_stR e4 (Ob_new e2 o))), ?_, ?_, o1, o5, fun i h0 h1 => ⟨?_, ?_⟩⟩ (fun c' g0 g1 g2 => ⟨?_, ?_⟩)
  · rw [e8, stR_r, if_neg (by decide), k6, e4, stR_r, if_pos rfl, q1]
  · rw [e8, stR_r, if_pos rfl, q5]
  · rw [k8 _ (by omega), e6]; simp only [mnaL]; rw [if_pos (by omega)]; simp only []; omega
  · have e : Λ8 (c + 3 + i) = (0, 480, fun _ => -1) := by
      rw [k8 _ (by omega), e6]; simp only [mnaL]; rw [if_neg (by omega), if_pos (by omega)]
    exact ⟨by omega, by omega, by rw [e], by rw [e]⟩
  · rw [k8 c' g2, e6]; simp only [mnaL]; rw [if_neg (by omega), if_neg (by omega), e4, stR_ne g2, e2, newL_ne (by omega)]
  · rw [e10, st_ne g2, e9, st_ne g2, e7]
    funext j
    simp only [mnaM]
    rw [if_neg (by omega), e3, newM_ne (by omega)]
end CT4
