/-- what was there stays, but for the cell c -/
def Keep (N : Nat) (Λ : Lay) (σ : Mem) (Λ' : Lay) (σ' : Mem) (c : Int) : Prop := ∀ c' : Int, 0 ≤ c' → c' < N → c' ≠ c → Λ' c' = Λ c' ∧ σ' c' = σ c'
section CT
variable {l : Launch} {d N : Nat} {Λ : Lay} {σ : Mem} {c : Int}
theorem k_Poly_init {P : Nat → Lay → Mem → Prop} (hN : c + 1 = N) (o : Ob N Λ c 15 3) (hd : 1 ≤ d) (h : ∀ Λ' σ', PolyL (N + 2) Λ' c → PC σ' c [] → Keep N Λ σ Λ' σ' c → P (N + 2) Λ' σ') : CC l mX5_init d 2 160 [(2, c)] N Λ σ P := by
  refine CC.of (m := 0) ok_mX5_init (Nat.le_of_ble_eq_true rfl) rfl (v_X5_init_0 o hd ?_)
  refine ⟨⟨by decide, by decide⟩, fun a1 e1 Λ2 e2 σ3 e3 Λ4 e4 => ⟨⟨by decide, by decide⟩, fun a5 e5 Λ6 e6 σ7 e7 Λ8 e8 τ9 e9 => ⟨⟨by decide, by decide⟩, ?_⟩⟩⟩
  have q1 : a1 = c + 1 := by omega
  have q5 : a5 = c + 2 := by omega
  have o2 := Ob_newS e2 e1
  have o6 := Ob_newS e6 e5
  have oc := Ob_stR e8 (Ob_new e6 (Ob_stR e4 (Ob_new e2 o)))
  have o2' := Ob_stR e8 (Ob_new e6 (Ob_stR e4 o2))
  have o6' := Ob_stR e8 o6
  rw [q1] at o2'
  rw [q5] at o6'
  refine h Λ8 τ9 ⟨oc, ?_, ?_, o2', o6'⟩ ⟨by rw [e9, st_eq]; rfl, fun i e he => by simp at he⟩ (fun c' h0 h1 h2 => ⟨?_, ?_⟩)
  · rw [e8, stR_r, if_neg (by decide), e6, newL_ne (by omega), e4, stR_r, if_pos rfl, q1]
  · rw [e8, stR_r, if_pos rfl, q5]
  · rw [e8, stR_ne h2, e6, newL_ne (by omega), e4, stR_ne h2, e2, newL_ne (by omega)]
  · rw [e9, st_ne h2, e7, newM_ne (by omega), e3, newM_ne (by omega)]
theorem k_Term_init {P : Nat → Lay → Mem → Prop} (o : Ob N Λ c 19 2) (hd : 1 ≤ d) (h : ∀ σ', σ' c 0 = 0 → σ' c 1 = 1 → (∀ c', c' ≠ c → σ' c' = σ c') → P N Λ σ') : CC l mX10_init d 0 0 [(2, c)] N Λ σ P := by
  refine CC.of (m := 0) ok_mX10_init (Nat.le_of_ble_eq_true rfl) rfl (v_X10_init_0 o hd ?_)
  intro τ1 e1 τ2 e2
  refine ⟨⟨Nat.le_refl 0, Nat.le_refl 0⟩, h τ2 ?_ ?_ (fun c' h1 => ?_)⟩
  · rw [e2, st_nj (by decide), e1, st_eq]
  · rw [e2, st_eq]
  · rw [e2, st_ne h1, e1, st_ne h1]
end CT
def filM (σ : Mem) (a v n : Int) : Mem := fun c j => if c = a ∧ 0 ≤ j ∧ j < n then v else σ c j
theorem filM_0 {σ : Mem} {a v : Int} : filM σ a v 0 = σ := by
  funext c j
  unfold filM
  rw [if_neg (by omega)]
theorem filM_s {σ : Mem} {a v i : Int} (h : 0 ≤ i) : st (filM σ a v i) a i v = filM σ a v (i + 1) := by
  funext c j
  unfold st filM
  by_cases h1 : c = a ∧ j = i
  · rw [if_pos h1, if_pos ⟨h1.1, by omega, by omega⟩]
  · rw [if_neg h1]
    by_cases h2 : c = a ∧ 0 ≤ j ∧ j < i
    · rw [if_pos h2, if_pos ⟨h2.1, by omega, by omega⟩]
    · rw [if_neg h2, if_neg (fun z => by
        rcases Int.lt_or_eq_of_le (show j ≤ i by omega) with h | h
        · exact h2 ⟨z.1, z.2.1, h⟩
        · exact h1 ⟨z.1, h⟩)]
theorem filM_ne {σ : Mem} {a v n c' : Int} (h : c' ≠ a) : filM σ a v n c' = σ c' := by
  funext j
  unfold filM
  rw [if_neg (fun z => h z.1)]
section CT2
variable {l : Launch} {d N : Nat} {Λ : Lay} {σ : Mem} {c : Int}
theorem fill_lp {P : Mem → Prop} {a v n : Int} (o : Ob N Λ a 0 n) (hn : n ≤ 100000) (h : P (filM σ a v n)) : ∀ (m : Nat) (i : Int), 0 ≤ i → i ≤ n → (n - i).toNat ≤ m → WV l mJ7_fill_53178 d P 5 [(2, a), (0, v), (0, i), (0, n)] [] N Λ (filM σ a v i) := by
  intro m
  induction m with
  | zero =>
    intro i h0 h1 h2
    have e : i = n := by omega
    subst e
    exact v_J7_fill_53178_5 o.1 ⟨fun _ => h, fun hc => absurd (Int.le_refl _) hc⟩
  | succ m ih =>
    intro i h0 h1 h2
    refine v_J7_fill_53178_5 o.1 ⟨fun hc => ?_, fun hc => ⟨Ix.of o h0 (by omega), fun τ eτ y ey => ?_⟩⟩
    · have e : i = n := by omega
      subst e
      exact h
    · rw [ey, addI_e (by omega) (by omega), eτ, filM_s h0]
      exact ih (i + 1) (by omega) (by omega) (by omega)
theorem k_fill {P : Mem → Prop} {a v n : Int} (o : Ob N Λ a 0 n) (h0 : 0 ≤ n) (hn : n ≤ 100000) (h : P (filM σ a v n)) : CV l mJ7_fill_53178 d [(2, a), (0, v)] N Λ σ P := by
  refine c_J7_fill_53178 (v_J7_fill_53178_0 o.1 ⟨o, h0, by omega⟩ ?_)
  have := fill_lp (l := l) (d := d) (σ := σ) (v := v) o hn h n.toNat 0 (Int.le_refl 0) h0 (by omega)
  rw [filM_0] at this
  exact this
theorem PolyL.mono {N' : Nat} {Λ' : Lay} (h : PolyL N Λ c) (hN : N ≤ N') (h0 : Λ' c = Λ c) (h1 : Λ' (c + 1) = Λ (c + 1)) (h2 : Λ' (c + 2) = Λ (c + 2)) : PolyL N' Λ' c := by
  obtain ⟨⟨a1, a2, a3, a4⟩, b, e, ⟨f1, f2, f3, f4⟩, ⟨g1, g2, g3, g4⟩⟩ := h
  exact ⟨⟨a1, by omega, by rw [h0]; exact a3, by rw [h0]; exact a4⟩, by rw [h0]; exact b, by rw [h0]; exact e, ⟨f1, by omega, by rw [h1]; exact f3, by rw [h1]; exact f4⟩, ⟨g1, by omega, by rw [h2]; exact g3, by rw [h2]; exact g4⟩⟩
theorem PC.same {σ' : Mem} {ts : List (Int × Int)} (h : PC σ c ts) (h0 : σ' c = σ c) (h1 : σ' (c + 1) = σ (c + 1)) (h2 : σ' (c + 2) = σ (c + 2)) : PC σ' c ts := ⟨by rw [h0]; exact h.1, fun i e he => by rw [h1, h2]; exact h.2 i e he⟩
/-- a State of the class at c: the object, shelves, places, facts, then the six polynomials -/
def StateL (N : Nat) (Λ : Lay) (c : Int) : Prop := Ob N Λ c 16 3 ∧ (Λ c).2.2 0 = c + 1 ∧ (Λ c).2.2 1 = c + 2 ∧ (Λ c).2.2 2 = c + 3 ∧ Ob N Λ (c + 1) 3 6 ∧ Ob N Λ (c + 2) 0 30 ∧ Ob N Λ (c + 3) 0 120 ∧ ∀ s : Int, 0 ≤ s → s < 6 → (Λ (c + 1)).2.2 s = c + 4 + 3 * s ∧ PolyL N Λ (c + 4 + 3 * s)
/-- a new State's numbers -/
def State0 (σ : Mem) (c : Int) : Prop := (∀ s : Int, 0 ≤ s → s < 6 → PC σ (c + 4 + 3 * s) []) ∧ (∀ j : Int, 0 ≤ j → j < 30 → σ (c + 2) j = 0) ∧ ∀ j : Int, 0 ≤ j → j < 120 → σ (c + 3) j = 2
theorem state_lp {P : Nat → Lay → Mem → Prop} {N0 : Nat} {Λ0 : Lay} {σ0 : Mem} (hc0 : 0 ≤ c) (hN : c + 1 = N0) (hd : 2 ≤ d) (h : ∀ Λ' σ', StateL (N0 + 21) Λ' c → State0 σ' c → Keep N0 Λ0 σ0 Λ' σ' c → P (N0 + 21) Λ' σ') :
    ∀ (m i : Nat), i + m = 6 → ∀ (N k n : Nat) (Λ : Lay) (σ : Mem), N = N0 + 3 + 3 * i → k = 3 + 3 * i → n = 156 + 163 * i →
      (Ob N Λ c 16 3 ∧ (Λ c).2.2 0 = c + 1 ∧ (Λ c).2.2 1 = c + 2 ∧ (Λ c).2.2 2 = c + 3 ∧ Ob N Λ (c + 1) 3 6 ∧ Ob N Λ (c + 2) 0 30 ∧ Ob N Λ (c + 3) 0 120 ∧ ∀ s : Int, 0 ≤ s → s < i → (Λ (c + 1)).2.2 s = c + 4 + 3 * s ∧ PolyL N Λ (c + 4 + 3 * s)) →
      (∀ s : Int, 0 ≤ s → s < i → PC σ (c + 4 + 3 * s) []) → (∀ j : Int, 0 ≤ j → j < 30 → σ (c + 2) j = 0) → Keep N0 Λ0 σ0 Λ σ c →
      WC l mX7_init d 21 1134 P k n 31 [(2, c), (0, (i : Int))] [] N Λ σ := by
  intro m
  induction m with
  | zero =>
    intro i him N k n Λ σ hNN hk hn hL hPc hpl hkeep
    have hi : i = 6 := by omega
    subst hi
    refine v_X7_init_31 hL.1 (by omega) ⟨fun _ b1 e1 => ?_, fun hc => absurd (by decide) hc⟩
    rw [hL.2.2.2.1] at e1
    subst e1
    refine ⟨120, hL.2.2.2.2.2.2.1, ⟨by omega, by omega⟩, k_fill hL.2.2.2.2.2.2.1 (by decide) (by decide) ⟨⟨by omega, by omega⟩, ?_⟩⟩
    have hN2 : N = N0 + 21 := by omega
    subst hN2
    refine h Λ _ ⟨hL.1, hL.2.1, hL.2.2.1, hL.2.2.2.1, hL.2.2.2.2.1, hL.2.2.2.2.2.1, hL.2.2.2.2.2.2.1, hL.2.2.2.2.2.2.2⟩ ⟨fun s h0 h1 => ?_, fun j h0 h1 => ?_, fun j h0 h1 => ?_⟩ (fun c' h0 h1 h2 => ⟨(hkeep c' h0 h1 h2).1, ?_⟩)
    · exact (hPc s h0 h1).same (filM_ne (by omega)) (filM_ne (by omega)) (filM_ne (by omega))
    · rw [filM_ne (by omega)]
      exact hpl j h0 h1
    · unfold filM
      rw [if_pos ⟨rfl, h0, h1⟩]
    · rw [filM_ne (by omega)]
      exact (hkeep c' h0 h1 h2).2
  | succ m ih =>
    intro i him N k n Λ σ hNN hk hn hL hPc hpl hkeep
    obtain ⟨o, f0, f1, f2, os, op, of, hps⟩ := hL
    refine v_X7_init_31 o (by omega) ⟨fun hc => by omega, fun _ b4 e4 => ?_⟩
    rw [f0] at e4
    subst e4
    refine ⟨6, os, ⟨by omega, by omega⟩, fun a6 e6 Λ7 e7 σ8 e8 => ⟨⟨by omega, by omega⟩, ?_⟩⟩
    have oa := Ob_newS e7 e6
    refine k_Poly_init (by omega) oa (by omega) (fun Λ' σ' hp hz hkp => ?_)
    have hkeep2 : ∀ c' : Int, 0 ≤ c' → c' < N → Λ' c' = Λ c' ∧ σ' c' = σ c' := fun c' h0 h1 => by
      have := hkp c' h0 (by omega) (by omega)
      rw [this.1, this.2, e7, newL_ne (by omega), e8, newM_ne (by omega)]
      exact ⟨rfl, rfl⟩
    have mv : ∀ {x len : Int} {t : Nat}, Ob N Λ x t len → Ob (N + 1 + 2) Λ' x t len := fun {x len t} ho => ⟨ho.1, by have := ho.2.1; omega, by rw [(hkeep2 x ho.1 ho.2.1).1]; exact ho.2.2.1, by rw [(hkeep2 x ho.1 ho.2.1).1]; exact ho.2.2.2⟩
    have hca := o.2.1
    have hsa := os.2.1
    refine ⟨mv o, mv os, hp.1, ⟨by omega, by omega⟩, fun Λ12 e12 y13 e13 => ?_⟩
    rw [e13, addI_e (by omega) (by omega)]
    have hL12 : ∀ c' : Int, c' ≠ c + 1 → Λ12 c' = Λ' c' := fun c' hc' => by rw [e12, stR_ne hc']
    have hL12c := (hkeep2 c hc0 hca).1
    have hL12s := (hkeep2 (c + 1) os.1 hsa).1
    refine ih (i + 1) (by omega) (N + 1 + 2) (k + 1 + 2) (n + 3 + 160) Λ12 σ' (by omega) (by omega) (by omega) ⟨Ob_stR e12 (mv o), ?_, ?_, ?_, Ob_stR e12 (mv os), Ob_stR e12 (mv op), Ob_stR e12 (mv of), fun s h0 h1 => ?_⟩ (fun s h0 h1 => ?_) (fun j h0 h1 => ?_) (fun c' h0 h1 h2 => ⟨?_, ?_⟩)
    · rw [hL12 c (by omega), hL12c]
      exact f0
    · rw [hL12 c (by omega), hL12c]
      exact f1
    · rw [hL12 c (by omega), hL12c]
      exact f2
    · rw [e12, stR_r]
      by_cases hs : s = i
      · subst hs
        rw [if_pos rfl]
        refine ⟨by omega, ?_⟩
        rw [show c + 4 + 3 * (i : Int) = a6 by omega]
        exact (hp.mono (Nat.le_refl _) (stR_ne (by omega)) (stR_ne (by omega)) (stR_ne (by omega)))
      · rw [if_neg hs, hL12s]
        have := hps s h0 (by omega)
        refine ⟨this.1, this.2.mono (by omega) ?_ ?_ ?_⟩
        · rw [stR_ne (by omega)]
          exact (hkeep2 _ (by omega) (by omega)).1
        · rw [stR_ne (by omega)]
          exact (hkeep2 _ (by omega) (by omega)).1
        · rw [stR_ne (by omega)]
          exact (hkeep2 _ (by omega) (by omega)).1
    · by_cases hs : s = i
      · subst hs
        rw [show c + 4 + 3 * (i : Int) = a6 by omega]
        exact hz
      · exact (hPc s h0 (by omega)).same (hkeep2 _ (by omega) (by omega)).2 (hkeep2 _ (by omega) (by omega)).2 (hkeep2 _ (by omega) (by omega)).2
    · rw [(hkeep2 (c + 2) (by omega) (by omega)).2]
      exact hpl j h0 h1
    · rw [hL12 c' (by omega), (hkeep2 c' h0 (by omega)).1]
      exact (hkeep c' h0 h1 h2).1
    · rw [(hkeep2 c' h0 (by omega)).2]
      exact (hkeep c' h0 h1 h2).2
theorem k_State_init {P : Nat → Lay → Mem → Prop} (hN : c + 1 = N) (o : Ob N Λ c 16 3) (hd : 2 ≤ d) (h : ∀ Λ' σ', StateL (N + 21) Λ' c → State0 σ' c → Keep N Λ σ Λ' σ' c → P (N + 21) Λ' σ') : CC l mX7_init d 21 1134 [(2, c)] N Λ σ P := by
  refine CC.of (m := 1) ok_mX7_init (Nat.le_of_ble_eq_true rfl) rfl (v_X7_init_0 o (by omega) ?_)
  refine ⟨⟨by decide, by decide⟩, fun a1 e1 Λ2 e2 σ3 e3 Λ4 e4 => ⟨⟨by decide, by decide⟩, fun a5 e5 Λ6 e6 σ7 e7 Λ8 e8 => ⟨⟨by decide, by decide⟩, fun a9 e9 Λ10 e10 σ11 e11 Λ12 e12 => ?_⟩⟩⟩
  have q1 : a1 = c + 1 := by omega
  have q5 : a5 = c + 2 := by omega
  have q9 : a9 = c + 3 := by omega
  have oc := Ob_stR e12 (Ob_new e10 (Ob_stR e8 (Ob_new e6 (Ob_stR e4 (Ob_new e2 o)))))
  have o1 := Ob_stR e12 (Ob_new e10 (Ob_stR e8 (Ob_new e6 (Ob_stR e4 (Ob_newS e2 e1)))))
  have o5 := Ob_stR e12 (Ob_new e10 (Ob_stR e8 (Ob_newS e6 e5)))
  have o9 := Ob_stR e12 (Ob_newS e10 e9)
  rw [q1] at o1
  rw [q5] at o5
  rw [q9] at o9
  have k4 : Λ4 c = stR Λ2 c 0 a1 c := by rw [e4]
  have k6 : Λ6 c = Λ4 c := by rw [e6, newL_ne (by omega)]
  have k10 : Λ10 c = Λ8 c := by rw [e10, newL_ne (by omega)]
  refine state_lp (N0 := N) (Λ0 := Λ) (σ0 := σ) o.1 hN hd h 6 0 rfl (N + 1 + 1 + 1) (0 + 1 + 1 + 1) (0 + 6 + 30 + 120) Λ12 σ11 (by omega) (by omega) (by omega) ⟨oc, ?_, ?_, ?_, o1, o5, o9, fun s h0 h1 => by omega⟩ (fun s h0 h1 => by omega) (fun j h0 h1 => ?_) (fun c' h0 h1 h2 => ⟨?_, ?_⟩)
  · rw [e12, stR_r, if_neg (by decide), k10, e8, stR_r, if_neg (by decide), k6, k4, stR_r, if_pos rfl, q1]
  · rw [e12, stR_r, if_neg (by decide), k10, e8, stR_r, if_pos rfl, q5]
  · rw [e12, stR_r, if_pos rfl, q9]
  · rw [e11, newM_ne (by omega), e7, show c + 2 = (N : Int) + 1 by omega, newM_eq]
  · rw [e12, stR_ne h2, e10, newL_ne (by omega), e8, stR_ne h2, e6, newL_ne (by omega), e4, stR_ne h2, e2, newL_ne (by omega)]
  · rw [e11, newM_ne (by omega), e7, newM_ne (by omega), e3, newM_ne (by omega)]
end CT2
