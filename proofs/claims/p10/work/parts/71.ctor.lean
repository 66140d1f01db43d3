section CT3
variable {l : Launch} {d N : Nat} {Λ : Lay} {σ : Mem} {c : Int}
def StrL (N : Nat) (Λ : Lay) (c : Int) : Prop := Ob N Λ c 17 2 ∧ (Λ c).2.2 1 = c + 1 ∧ Ob N Λ (c + 1) 19 2
theorem k_Str_init {P : Nat → Lay → Mem → Prop} (hN : c + 1 = N) (o : Ob N Λ c 17 2) (hd : 2 ≤ d) (h : ∀ Λ' σ', StrL (N + 1) Λ' c → Keep N Λ σ Λ' σ' c → P (N + 1) Λ' σ') : CC l mX8_init d 1 2 [(2, c)] N Λ σ P := by
  refine CC.of (m := 0) ok_mX8_init (Nat.le_of_ble_eq_true rfl) rfl (v_X8_init_0 o (by omega) ?_)
  intro τ1 e1
  refine ⟨⟨by decide, by decide⟩, fun a2 e2 Λ3 e3 σ4 e4 => ⟨⟨by decide, by decide⟩, ?_⟩⟩
  have q2 : a2 = c + 1 := by omega
  have oa := Ob_newS e3 e2
  refine k_Term_init oa (by omega) (fun σ' h1 h2 h3 => ⟨Ob_new e3 o, oa, fun Λ8 e8 => ⟨⟨by decide, by decide⟩, ?_⟩⟩)
  have oa2 := Ob_stR e8 oa
  rw [q2] at oa2
  refine h Λ8 σ' ⟨Ob_stR e8 (Ob_new e3 o), ?_, oa2⟩ (fun c' g0 g1 g2 => ⟨?_, ?_⟩)
  · rw [e8, stR_r, if_pos rfl, q2]
  · rw [e8, stR_ne g2, e3, newL_ne (by omega)]
  · rw [h3 c' (by omega), e4, newM_ne (by omega), e1, st_ne g2]
def TapeL (N : Nat) (Λ : Lay) (c : Int) : Prop := Ob N Λ c 18 6 ∧ (Λ c).2.2 0 = c + 1 ∧ (Λ c).2.2 4 = c + 2 ∧ (Λ c).2.2 5 = c + 3 ∧ Ob N Λ (c + 1) 0 300 ∧ Ob N Λ (c + 2) 0 3 ∧ Ob N Λ (c + 3) 19 2
theorem k_Tape_init {P : Nat → Lay → Mem → Prop} (hN : c + 1 = N) (o : Ob N Λ c 18 6) (hd : 2 ≤ d) (h : ∀ Λ' σ', TapeL (N + 3) Λ' c → σ' c 1 = 0 → σ' c 2 = 0 → σ' c 3 = -1 → Keep N Λ σ Λ' σ' c → P (N + 3) Λ' σ') : CC l mX9_init d 3 305 [(2, c)] N Λ σ P := by
  refine CC.of (m := 0) ok_mX9_init (Nat.le_of_ble_eq_true rfl) rfl (v_X9_init_0 o (by omega) ?_)
  refine ⟨⟨by decide, by decide⟩, fun a1 e1 Λ2 e2 σ3 e3 Λ4 e4 τ5 e5 τ6 e6 τ7 e7 => ⟨⟨by decide, by decide⟩, fun a8 e8 Λ9 e9 σ10 e10 Λ11 e11 => ⟨⟨by decide, by decide⟩, fun a12 e12 Λ13 e13 σ14 e14 => ⟨⟨by decide, by decide⟩, ?_⟩⟩⟩⟩
  have q1 : a1 = c + 1 := by omega
  have q8 : a8 = c + 2 := by omega
  have q12 : a12 = c + 3 := by omega
  have oc := Ob_new e13 (Ob_stR e11 (Ob_new e9 (Ob_stR e4 (Ob_new e2 o))))
  have o1 := Ob_new e13 (Ob_stR e11 (Ob_new e9 (Ob_stR e4 (Ob_newS e2 e1))))
  have o8 := Ob_new e13 (Ob_stR e11 (Ob_newS e9 e8))
  have o12 := Ob_newS e13 e12
  refine k_Term_init o12 (by omega) (fun σ' h1 h2 h3 => ⟨oc, o1, o8, o12, fun Λ18 e18 => ⟨⟨by decide, by decide⟩, ?_⟩⟩)
  have p1 := Ob_stR e18 o1
  have p8 := Ob_stR e18 o8
  have p12 := Ob_stR e18 o12
  rw [q1] at p1
  rw [q8] at p8
  rw [q12] at p12
  have k13 : Λ13 c = Λ11 c := by rw [e13, newL_ne (by omega)]
  have k9 : Λ9 c = Λ4 c := by rw [e9, newL_ne (by omega)]
  have s0 : σ' c = τ7 c := by rw [h3 c (by omega), e14, newM_ne (by omega), e10, newM_ne (by omega)]
  refine h Λ18 σ' ⟨Ob_stR e18 oc, ?_, ?_, ?_, p1, p8, p12⟩ ?_ ?_ ?_ (fun c' g0 g1 g2 => ⟨?_, ?_⟩)
  · rw [e18, stR_r, if_neg (by decide), k13, e11, stR_r, if_neg (by decide), k9, e4, stR_r, if_pos rfl, q1]
  · rw [e18, stR_r, if_neg (by decide), k13, e11, stR_r, if_pos rfl, q8]
  · rw [e18, stR_r, if_pos rfl, q12]
  · rw [s0, e7, st_nj (by decide), e6, st_nj (by decide), e5, st_eq]
  · rw [s0, e7, st_nj (by decide), e6, st_eq]
  · rw [s0, e7, st_eq]
  · rw [e18, stR_ne g2, e13, newL_ne (by omega), e11, stR_ne g2, e9, newL_ne (by omega), e4, stR_ne g2, e2, newL_ne (by omega)]
  · rw [h3 c' (by omega), e14, newM_ne (by omega), e10, newM_ne (by omega), e7, st_ne g2, e6, st_ne g2, e5, st_ne g2, e3, newM_ne (by omega)]
def FormsL (N : Nat) (Λ : Lay) (c : Int) : Prop := Ob N Λ c 13 5 ∧ (Λ c).2.2 0 = c + 1 ∧ (Λ c).2.2 1 = c + 2 ∧ Ob N Λ (c + 1) 0 10 ∧ Ob N Λ (c + 2) 0 12
theorem k_Forms_init {P : Nat → Lay → Mem → Prop} (hN : c + 1 = N) (o : Ob N Λ c 13 5) (hd : 1 ≤ d) (h : ∀ Λ' σ', FormsL (N + 2) Λ' c → Keep N Λ σ Λ' σ' c → P (N + 2) Λ' σ') : CC l mX3_init d 2 22 [(2, c)] N Λ σ P := by
  refine CC.of (m := 0) ok_mX3_init (Nat.le_of_ble_eq_true rfl) rfl (v_X3_init_0 o hd ?_)
  refine ⟨⟨by decide, by decide⟩, fun a1 e1 Λ2 e2 σ3 e3 Λ4 e4 => ⟨⟨by decide, by decide⟩, fun a5 e5 Λ6 e6 σ7 e7 Λ8 e8 τ9 e9 τ10 e10 τ11 e11 => ⟨⟨by decide, by decide⟩, ?_⟩⟩⟩
  have q1 : a1 = c + 1 := by omega
  have q5 : a5 = c + 2 := by omega
  have o1 := Ob_stR e8 (Ob_new e6 (Ob_stR e4 (Ob_newS e2 e1)))
  have o5 := Ob_stR e8 (Ob_newS e6 e5)
  rw [q1] at o1
  rw [q5] at o5
  have k6 : Λ6 c = Λ4 c := by rw [e6, newL_ne (by omega)]
  refine h Λ8 τ11 ⟨Ob_stR e8 (Ob_new e6 (Ob_stR e4 (Ob_new e2 o))), ?_, ?_, o1, o5⟩ (fun c' g0 g1 g2 => ⟨?_, ?_⟩)
  · rw [e8, stR_r, if_neg (by decide), k6, e4, stR_r, if_pos rfl, q1]
  · rw [e8, stR_r, if_pos rfl, q5]
  · rw [e8, stR_ne g2, e6, newL_ne (by omega), e4, stR_ne g2, e2, newL_ne (by omega)]
  · rw [e11, st_ne g2, e10, st_ne g2, e9, st_ne g2, e7, newM_ne (by omega), e3, newM_ne (by omega)]
theorem StateL.mono {N' : Nat} {Λ' : Lay} (h : StateL N Λ c) (hN : N ≤ N') (hk : ∀ c' : Int, c ≤ c' → c' < c + 22 → Λ' c' = Λ c') : StateL N' Λ' c := by
  obtain ⟨o, f0, f1, f2, os, op, of, hp⟩ := h
  have k0 := hk c (by omega) (by omega)
  have k1 := hk (c + 1) (by omega) (by omega)
  have k2 := hk (c + 2) (by omega) (by omega)
  have k3 := hk (c + 3) (by omega) (by omega)
  have mv : ∀ {x len : Int} {t : Nat}, Ob N Λ x t len → Λ' x = Λ x → Ob N' Λ' x t len := fun {x len t} ho e => ⟨ho.1, by have := ho.2.1; omega, by rw [e]; exact ho.2.2.1, by rw [e]; exact ho.2.2.2⟩
  refine ⟨mv o k0, by rw [k0]; exact f0, by rw [k0]; exact f1, by rw [k0]; exact f2, mv os k1, mv op k2, mv of k3, fun s h0 h1 => ?_⟩
  rw [k1]
  exact ⟨(hp s h0 h1).1, (hp s h0 h1).2.mono hN (hk _ (by omega) (by omega)) (hk _ (by omega) (by omega)) (hk _ (by omega) (by omega))⟩
theorem State0.same {σ' : Mem} (h : State0 σ c) (hk : ∀ c' : Int, c ≤ c' → c' < c + 22 → σ' c' = σ c') : State0 σ' c := by
  obtain ⟨h1, h2, h3⟩ := h
  refine ⟨fun s g0 g1 => (h1 s g0 g1).same (hk _ (by omega) (by omega)) (hk _ (by omega) (by omega)) (hk _ (by omega) (by omega)), fun j g0 g1 => ?_, fun j g0 g1 => ?_⟩
  · rw [hk (c + 2) (by omega) (by omega)]
    exact h2 j g0 g1
  · rw [hk (c + 3) (by omega) (by omega)]
    exact h3 j g0 g1
def HistL (N : Nat) (Λ : Lay) (c : Int) : Prop := Ob N Λ c 14 3 ∧ (Λ c).2.2 1 = c + 1 ∧ Ob N Λ (c + 1) 4 10 ∧ ∀ i : Int, 0 ≤ i → i < 10 → (Λ (c + 1)).2.2 i = c + 2 + 22 * i ∧ StateL N Λ (c + 2 + 22 * i)
theorem hist_lp {P : Nat → Lay → Mem → Prop} {N0 : Nat} {Λ0 : Lay} {σ0 : Mem} (hc0 : 0 ≤ c) (hN : c + 1 = N0) (hd : 3 ≤ d) (h : ∀ Λ' σ', HistL (N0 + 221) Λ' c → σ' c 0 = 0 → σ' c 2 = 0 → Keep N0 Λ0 σ0 Λ' σ' c → P (N0 + 221) Λ' σ') :
    ∀ (m i : Nat), i + m = 10 → ∀ (N k n : Nat) (Λ : Lay) (σ : Mem), N = N0 + 1 + 22 * i → k = 1 + 22 * i → n = 10 + 1137 * i →
      (Ob N Λ c 14 3 ∧ (Λ c).2.2 1 = c + 1 ∧ Ob N Λ (c + 1) 4 10 ∧ ∀ s : Int, 0 ≤ s → s < i → (Λ (c + 1)).2.2 s = c + 2 + 22 * s ∧ StateL N Λ (c + 2 + 22 * s)) →
      σ c 0 = 0 → σ c 2 = 0 → Keep N0 Λ0 σ0 Λ σ c → WC l mX4_init d 221 11380 P k n 25 [(2, c), (0, (i : Int))] [] N Λ σ := by
  intro m
  induction m with
  | zero =>
    intro i him N k n Λ σ hNN hk hn hL h00 h02 hkeep
    have hi : i = 10 := by omega
    subst hi
    have hN2 : N = N0 + 221 := by omega
    subst hN2
    exact v_X4_init_25 hL.1 (by omega) ⟨fun _ => ⟨⟨by omega, by omega⟩, h Λ σ hL h00 h02 hkeep⟩, fun hc => absurd (by decide) hc⟩
  | succ m ih =>
    intro i him N k n Λ σ hNN hk hn hL h00 h02 hkeep
    obtain ⟨o, f1, os, hps⟩ := hL
    refine v_X4_init_25 o (by omega) ⟨fun hc => by omega, fun _ b1 e1 => ?_⟩
    rw [f1] at e1
    subst e1
    refine ⟨10, os, ⟨by omega, by omega⟩, fun a3 e3 Λ4 e4 σ5 e5 => ⟨⟨by omega, by omega⟩, ?_⟩⟩
    have oa := Ob_newS e4 e3
    refine k_State_init (by omega) oa (by omega) (fun Λ' σ' hp hz hkp => ?_)
    have hkeep2 : ∀ c' : Int, 0 ≤ c' → c' < N → Λ' c' = Λ c' ∧ σ' c' = σ c' := fun c' h0 h1 => by
      have := hkp c' h0 (by omega) (by omega)
      rw [this.1, this.2, e4, newL_ne (by omega), e5, newM_ne (by omega)]
      exact ⟨rfl, rfl⟩
    have mv : ∀ {x len : Int} {t : Nat}, Ob N Λ x t len → Ob (N + 1 + 21) Λ' x t len := fun {x len t} ho => ⟨ho.1, by have := ho.2.1; omega, by rw [(hkeep2 x ho.1 ho.2.1).1]; exact ho.2.2.1, by rw [(hkeep2 x ho.1 ho.2.1).1]; exact ho.2.2.2⟩
    have hca := o.2.1
    have hsa := os.2.1
    refine ⟨mv o, mv os, hp.1, ⟨by omega, by omega⟩, fun Λ9 e9 y10 e10 => ?_⟩
    rw [e10, addI_e (by omega) (by omega)]
    have hL9 : ∀ c' : Int, c' ≠ c + 1 → Λ9 c' = Λ' c' := fun c' hc' => by rw [e9, stR_ne hc']
    have hcc := hkeep2 c hc0 hca
    have hss := (hkeep2 (c + 1) os.1 hsa).1
    refine ih (i + 1) (by omega) (N + 1 + 21) (k + 1 + 21) (n + 3 + 1134) Λ9 σ' (by omega) (by omega) (by omega) ⟨Ob_stR e9 (mv o), ?_, Ob_stR e9 (mv os), fun s h0 h1 => ?_⟩ (by rw [hcc.2]; exact h00) (by rw [hcc.2]; exact h02) (fun c' h0 h1 h2 => ⟨?_, ?_⟩)
    · rw [hL9 c (by omega), hcc.1]
      exact f1
    · rw [e9, stR_r]
      by_cases hs : s = i
      · subst hs
        rw [if_pos rfl]
        refine ⟨by omega, ?_⟩
        rw [show c + 2 + 22 * (i : Int) = a3 by omega]
        exact hp.mono (Nat.le_refl _) (fun c' g0 g1 => stR_ne (by omega))
      · rw [if_neg hs, hss]
        have := hps s h0 (by omega)
        refine ⟨this.1, this.2.mono (by omega) (fun c' g0 g1 => ?_)⟩
        rw [stR_ne (by omega)]
        exact (hkeep2 _ (by omega) (by omega)).1
    · rw [hL9 c' (by omega), (hkeep2 c' h0 (by omega)).1]
      exact (hkeep c' h0 h1 h2).1
    · rw [(hkeep2 c' h0 (by omega)).2]
      exact (hkeep c' h0 h1 h2).2
theorem k_Hist_init {P : Nat → Lay → Mem → Prop} (hN : c + 1 = N) (o : Ob N Λ c 14 3) (hd : 3 ≤ d) (h : ∀ Λ' σ', HistL (N + 221) Λ' c → σ' c 0 = 0 → σ' c 2 = 0 → Keep N Λ σ Λ' σ' c → P (N + 221) Λ' σ') : CC l mX4_init d 221 11380 [(2, c)] N Λ σ P := by
  refine CC.of (m := 1) ok_mX4_init (Nat.le_of_ble_eq_true rfl) rfl (v_X4_init_0 o (by omega) ?_)
  intro τ1 e1
  refine ⟨⟨by decide, by decide⟩, fun a2 e2 Λ3 e3 σ4 e4 Λ5 e5 τ6 e6 => ?_⟩
  have q2 : a2 = c + 1 := by omega
  have o2 := Ob_stR e5 (Ob_newS e3 e2)
  rw [q2] at o2
  refine hist_lp (N0 := N) (Λ0 := Λ) (σ0 := σ) o.1 hN hd h 10 0 rfl (N + 1) (0 + 1) (0 + 10) Λ5 τ6 (by omega) (by omega) (by omega) ⟨Ob_stR e5 (Ob_new e3 o), ?_, o2, fun s h0 h1 => by omega⟩ ?_ ?_ (fun c' h0 h1 h2 => ⟨?_, ?_⟩)
  · rw [e5, stR_r, if_pos rfl, q2]
  · rw [e6, st_nj (by decide), e4, newM_ne (by omega), e1, st_eq]
  · rw [e6, st_eq]
  · rw [e5, stR_ne h2, e3, newL_ne (by omega)]
  · rw [e6, st_ne h2, e4, newM_ne (by omega), e1, st_ne h2]
end CT3
