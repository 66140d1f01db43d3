section CT5
variable {l : Launch} {d N : Nat} {Λ : Lay} {σ : Mem} {c : Int}
theorem Ob_keep {N' t : Nat} {Λ' : Lay} {σ' : Mem} {a x len : Int} (hk : Keep N Λ σ Λ' σ' a) (hN : N ≤ N') (o : Ob N Λ x t len) (hx : x ≠ a) : Ob N' Λ' x t len := by
  have h := (hk x o.1 o.2.1 hx).1
  exact ⟨o.1, by have := o.2.1; omega, by rw [h]; exact o.2.2.1, by rw [h]; exact o.2.2.2⟩
/-- what the Figures are while their points are made: i of them stand -/
def FigA (N : Nat) (Λ : Lay) (σ : Mem) (c i : Int) : Prop :=
  (Ob N Λ c 12 9 ∧ (Λ c).2.2 0 = c + 1 ∧ (Λ c).2.2 1 = c + 2 ∧ (Λ c).2.2 4 = c + 3 ∧ (Λ c).2.2 5 = c + 6 ∧ (Λ c).2.2 6 = c + 9 ∧ (Λ c).2.2 7 = c + 12 ∧ (Λ c).2.2 8 = c + 15) ∧
  (Ob N Λ (c + 1) 3 100 ∧ Ob N Λ (c + 2) 0 9 ∧ Ob N Λ (c + 15) 19 2) ∧ (σ c 2 = 0 ∧ σ c 3 = 90) ∧
  (∀ x : Int, (x = c + 3 ∨ x = c + 6 ∨ x = c + 9 ∨ x = c + 12) → PolyL N Λ x ∧ PC σ x []) ∧
  ∀ s : Int, 0 ≤ s → s < i → (Λ (c + 1)).2.2 s = c + 16 + 3 * s ∧ PolyL N Λ (c + 16 + 3 * s) ∧ PC σ (c + 16 + 3 * s) []
theorem FigA.step {N' : Nat} {Λ' : Lay} {σ' : Mem} {i j : Int} (h : FigA N Λ σ c i) (hi : 0 ≤ i) (hN : N ≤ N') (hk : ∀ c' : Int, c ≤ c' → c' < c + 16 + 3 * i → c' ≠ c + 1 → c' ≠ c + 2 → Λ' c' = Λ c' ∧ σ' c' = σ c') (ho : Ob N' Λ' (c + 1) 3 100) (ho2 : Ob N' Λ' (c + 2) 0 9) (hr : ∀ s : Int, 0 ≤ s → s < i → (Λ' (c + 1)).2.2 s = (Λ (c + 1)).2.2 s)
    (hnew : ∀ s : Int, i ≤ s → s < j → (Λ' (c + 1)).2.2 s = c + 16 + 3 * s ∧ PolyL N' Λ' (c + 16 + 3 * s) ∧ PC σ' (c + 16 + 3 * s) []) : FigA N' Λ' σ' c j := by
  obtain ⟨⟨o, f⟩, ⟨o1, o2, o8⟩, ⟨z2, z3⟩, hp, hs⟩ := h
  have mv : ∀ {x len : Int} {t : Nat}, Ob N Λ x t len → Λ' x = Λ x → Ob N' Λ' x t len := fun {x len t} ho e => ⟨ho.1, by have := ho.2.1; omega, by rw [e]; exact ho.2.2.1, by rw [e]; exact ho.2.2.2⟩
  have k0 := hk c (by omega) (by omega) (by omega) (by omega)
  have mp : ∀ x : Int, c + 3 ≤ x → x + 2 < c + 16 + 3 * i → PolyL N Λ x → PolyL N' Λ' x := fun x g0 g1 hp => hp.mono hN (hk _ (by omega) (by omega) (by omega) (by omega)).1 (hk _ (by omega) (by omega) (by omega) (by omega)).1 (hk _ (by omega) (by omega) (by omega) (by omega)).1
  have mc : ∀ x : Int, c + 3 ≤ x → x + 2 < c + 16 + 3 * i → PC σ x [] → PC σ' x [] := fun x g0 g1 hp => hp.same (hk _ (by omega) (by omega) (by omega) (by omega)).2 (hk _ (by omega) (by omega) (by omega) (by omega)).2 (hk _ (by omega) (by omega) (by omega) (by omega)).2
  refine ⟨⟨mv o k0.1, by rw [k0.1]; exact f⟩, ⟨ho, ho2, mv o8 (hk _ (by omega) (by omega) (by omega) (by omega)).1⟩, ⟨by rw [k0.2]; exact z2, by rw [k0.2]; exact z3⟩, fun x hx => ⟨mp x (by omega) (by omega) (hp x hx).1, mc x (by omega) (by omega) (hp x hx).2⟩, fun s g0 g1 => ?_⟩
  by_cases hsi : s < i
  · have q := hs s g0 hsi
    exact ⟨by rw [hr s g0 hsi]; exact q.1, mp _ (by omega) (by omega) q.2.1, mc _ (by omega) (by omega) q.2.2⟩
  · exact hnew s (by omega) g1
def FigL (N : Nat) (Λ : Lay) (σ : Mem) (c : Int) : Prop := FigA N Λ σ c 100 ∧ ∀ j : Int, 0 ≤ j → j < 9 → σ (c + 2) j = 10 * j
theorem fig_lp2 {P : Nat → Lay → Mem → Prop} {N0 : Nat} {Λ0 : Lay} {σ0 : Mem} (hc0 : 0 ≤ c) (hN : c + 1 = N0) (hNN : N = N0 + 315) (hd : 1 ≤ d) (h : ∀ σ', FigL N Λ σ' c → Keep N0 Λ0 σ0 Λ σ' c → P N Λ σ') {k n : Nat} (hk : k ≤ 315) (hn : n ≤ 17063) :
    ∀ (m i : Nat), i + m = 9 → ∀ (σ : Mem), FigA N Λ σ c 100 → (∀ j : Int, 0 ≤ j → j < i → σ (c + 2) j = 10 * j) → Keep N0 Λ0 σ0 Λ σ c → WC l mX2_init d 315 17063 P k n 119 [(2, c), (0, (i : Int))] [] N Λ σ := by
  intro m
  induction m with
  | zero =>
    intro i him σ hA hj hkeep
    have hi : i = 9 := by omega
    subst hi
    exact v_X2_init_119 hA.1.1 hd ⟨fun _ => ⟨⟨hk, hn⟩, h σ ⟨hA, hj⟩ hkeep⟩, fun hc => absurd (by decide) hc⟩
  | succ m ih =>
    intro i him σ hA hj hkeep
    refine v_X2_init_119 hA.1.1 hd ⟨fun hc => by omega, fun _ b1 e1 => ?_⟩
    rw [hA.1.2.2.1] at e1
    subst e1
    refine ⟨9, hA.2.1.2.1, Ix.of hA.2.1.2.1 (by omega) (by omega), fun τ3 e3 y4 e4 => ?_⟩
    rw [e4, addI_e (by omega) (by omega)]
    have hne : ∀ c' : Int, c' ≠ c + 2 → τ3 c' = σ c' := fun c' hc' => by rw [e3, st_ne hc']
    refine ih (i + 1) (by omega) τ3 (hA.step (by omega) (Nat.le_refl _) (fun c' g0 g1 g2 g3 => ⟨rfl, hne c' g3⟩) hA.2.1.1 hA.2.1.2.1 (fun _ _ _ => rfl) (fun s g0 g1 => by omega)) (fun j g0 g1 => ?_) (fun c' g0 g1 g2 => ⟨(hkeep c' g0 g1 g2).1, ?_⟩)
    · rw [e3]
      by_cases hji : j = i
      · subst hji
        rw [st_eq, mulI_e (by omega) (by omega)]
      · rw [st_nj hji]
        exact hj j g0 (by omega)
    · rw [hne c' (by omega)]
      exact (hkeep c' g0 g1 g2).2
theorem fig_lp {P : Nat → Lay → Mem → Prop} {N0 : Nat} {Λ0 : Lay} {σ0 : Mem} (hc0 : 0 ≤ c) (hN : c + 1 = N0) (hd : 2 ≤ d) (h : ∀ Λ' σ', FigL (N0 + 315) Λ' σ' c → Keep N0 Λ0 σ0 Λ' σ' c → P (N0 + 315) Λ' σ') :
    ∀ (m i : Nat), i + m = 100 → ∀ (N k n : Nat) (Λ : Lay) (σ : Mem), N = N0 + 15 + 3 * i → k = 15 + 3 * i → n = 763 + 163 * i →
      FigA N Λ σ c i → Keep N0 Λ0 σ0 Λ σ c → WC l mX2_init d 315 17063 P k n 89 [(2, c), (0, (i : Int))] [] N Λ σ := by
  intro m
  induction m with
  | zero =>
    intro i him N k n Λ σ hNN hk hn hA hkeep
    have hi : i = 100 := by omega
    subst hi
    have hN2 : N = N0 + 315 := by omega
    subst hN2
    refine v_X2_init_89 hA.1.1 (by omega) (fun b1 e1 => ?_)
    rw [hA.1.2.1] at e1
    subst e1
    exact ⟨100, hA.2.1.1, ⟨by decide, by decide⟩, fun _ => fig_lp2 hc0 hN rfl (by omega) (fun σ' h1 h2 => h Λ σ' h1 h2) (by omega) (by omega) 9 0 rfl σ hA (fun j g0 g1 => by omega) hkeep, fun hc => absurd (by decide) hc⟩
  | succ m ih =>
    intro i him N k n Λ σ hNN hk hn hA hkeep
    have oc := hA.1.1
    have o1 := hA.2.1.1
    have o2 := hA.2.1.2.1
    refine v_X2_init_89 oc (by omega) (fun b1 e1 => ?_)
    rw [hA.1.2.1] at e1
    subst e1
    refine ⟨100, o1, ⟨by decide, by decide⟩, fun hc => by omega, fun _ b3 e3 => ?_⟩
    rw [hA.1.2.1] at e3
    subst e3
    refine ⟨100, o1, ⟨by omega, by omega⟩, fun a5 e5 Λ6 e6 σ7 e7 => ⟨⟨by omega, by omega⟩, ?_⟩⟩
    have oa := Ob_newS e6 e5
    refine k_Poly_init (by omega) oa (by omega) (fun Λ' σ' hp hz hkp => ?_)
    have hk2 : ∀ c' : Int, 0 ≤ c' → c' < N → Λ' c' = Λ c' ∧ σ' c' = σ c' := fun c' h0 h1 => by
      have := hkp c' h0 (by omega) (by omega)
      rw [this.1, this.2, e6, newL_ne (by omega), e7, newM_ne (by omega)]
      exact ⟨rfl, rfl⟩
    have mv : ∀ {x len : Int} {t : Nat}, Ob N Λ x t len → Ob (N + 1 + 2) Λ' x t len := fun {x len t} ho => ⟨ho.1, by have := ho.2.1; omega, by rw [(hk2 x ho.1 ho.2.1).1]; exact ho.2.2.1, by rw [(hk2 x ho.1 ho.2.1).1]; exact ho.2.2.2⟩
    refine ⟨mv oc, mv o1, mv o1, hp.1, ⟨by omega, by omega⟩, fun Λ11 e11 y12 e12 => ?_⟩
    rw [e12, addI_e (by omega) (by omega)]
    have hL : ∀ c' : Int, c' ≠ c + 1 → Λ11 c' = Λ' c' := fun c' hc' => by rw [e11, stR_ne hc']
    have h1N := o1.2.1
    refine ih (i + 1) (by omega) (N + 1 + 2) (k + 1 + 2) (n + 3 + 160) Λ11 σ' (by omega) (by omega) (by omega) (hA.step (by omega) (by omega) (fun c' g0 g1 g2 g3 => ?_) (Ob_stR e11 (mv o1)) (Ob_stR e11 (mv o2)) (fun s g0 g1 => ?_) (fun s g0 g1 => ?_)) (fun c' g0 g1 g2 => ?_)
    · rw [hL c' g2]
      exact hk2 c' (by omega) (by omega)
    · rw [e11, stR_r, if_neg (by omega), (hk2 (c + 1) (by omega) (by omega)).1]
    · have hs : s = i := by omega
      subst hs
      rw [e11, stR_r, if_pos rfl, ← e11, show c + 16 + 3 * (i : Int) = a5 by omega]
      exact ⟨rfl, hp.mono (Nat.le_refl _) (hL _ (by omega)) (hL _ (by omega)) (hL _ (by omega)), hz⟩
    · rw [hL c' (by omega), (hk2 c' g0 (by omega)).1, (hk2 c' g0 (by omega)).2]
      exact hkeep c' g0 g1 g2
end CT5
