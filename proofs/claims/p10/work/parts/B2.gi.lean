/-! the class on any object: what always holds of its cells -/
def Pv (σ : Mem) (c : Int) : Prop := ∃ ts : List (Int × Int), PC σ c ts ∧ ts.length ≤ 80 ∧ srtd ts ∧ ∀ e ∈ ts, Int32R e.2 ∧ VK e.1
theorem Pv.same {σ σ' : Mem} {c : Int} (h : Pv σ c) (h0 : σ' c = σ c) (h1 : σ' (c + 1) = σ (c + 1)) (h2 : σ' (c + 2) = σ (c + 2)) : Pv σ' c := by
  obtain ⟨ts, a, b⟩ := h
  exact ⟨ts, a.same h0 h1 h2, b⟩
theorem Pv.sz {σ : Mem} {c : Int} (h : Pv σ c) : 0 ≤ σ c 2 ∧ σ c 2 ≤ 80 := by
  obtain ⟨ts, a, b, _⟩ := h
  have := a.1
  omega
theorem Pv.key {σ : Mem} {c i : Int} (h : Pv σ c) (h0 : 0 ≤ i) (h1 : i < σ c 2) : VK (σ (c + 1) i) := by
  obtain ⟨ts, a, b, _, d⟩ := h
  have e := a.1
  obtain ⟨x, hx⟩ : ∃ x, ts[i.toNat]? = some x := ⟨_, List.getElem?_eq_getElem (by omega)⟩
  have q := (a.2 _ x hx).1
  rw [show ((i.toNat : Nat) : Int) = i by omega] at q
  rw [q]
  exact (d x (List.mem_of_getElem? hx)).2
theorem putS_keys {ts ts' : List (Int × Int)} {k n : Int} (e : putS ts k n = (0, ts')) : ∀ x ∈ ts', (x.1 = k ∧ x.2 ≠ 0) ∨ ∃ y ∈ ts, y.1 = x.1 ∧ (y.2 = x.2 ∨ x.2 ≠ 0) := by
  by_cases h1 : Int32R n
  · by_cases h2 : n = 0
    · rw [h2, putS_z] at e
      cases e
      exact fun x hx => Or.inr ⟨x, hx, rfl, Or.inl rfl⟩
    · have ins : (∀ y, ts[pos k ts]? = some y → y.1 ≠ k) → ∀ x ∈ ts', (x.1 = k ∧ x.2 ≠ 0) ∨ ∃ y ∈ ts, y.1 = x.1 ∧ (y.2 = x.2 ∨ x.2 ≠ 0) := fun hno => by
        rw [putS_i h1 h2 hno] at e
        by_cases h3 : ts.length = 80
        · rw [if_pos h3] at e
          cases e
        · rw [if_neg h3] at e
          cases e
          intro x hx
          rcases (List.mem_insertIdx (pos_le k ts)).mp hx with rfl | hx
          · exact Or.inl ⟨rfl, h2⟩
          · exact Or.inr ⟨x, hx, rfl, Or.inl rfl⟩
      cases hg : ts[pos k ts]? with
      | none => exact ins (fun y hy => by rw [hg] at hy; cases hy)
      | some a =>
        by_cases h3 : a.1 = k
        · rw [putS_u h1 h2 hg h3] at e
          by_cases h4 : Int32R (a.2 + n)
          · have n4 : ¬ ¬ Int32R (a.2 + n) := fun z => z h4
            rw [if_neg n4] at e
            by_cases h5 : a.2 + n = 0
            · rw [if_pos h5] at e
              cases e
              exact fun x hx => Or.inr ⟨x, List.mem_of_mem_eraseIdx hx, rfl, Or.inl rfl⟩
            · rw [if_neg h5] at e
              cases e
              intro x hx
              rcases List.mem_or_eq_of_mem_set hx with hx | rfl
              · exact Or.inr ⟨x, hx, rfl, Or.inl rfl⟩
              · exact Or.inl ⟨rfl, h5⟩
          · rw [if_pos h4] at e
            cases e
        · exact ins (fun y hy => by rw [hg] at hy; cases hy; exact h3)
  · rw [putS_b h1] at e
    cases e
/-- where the class's polynomials lie -/
def PA (t a : Int) : Prop := a = t + 596 ∨ a = t + 599 ∨ (∃ s, 0 ≤ s ∧ s < 6 ∧ a = t + 5 + 3 * s) ∨ (∃ i s, 0 ≤ i ∧ i < 10 ∧ 0 ≤ s ∧ s < 6 ∧ a = t + 29 + 22 * i + 3 * s) ∨ (∃ s, 0 ≤ s ∧ s < 6 ∧ a = t + 606 + 3 * s) ∨ (∃ s, 0 ≤ s ∧ s < 6 ∧ a = t + 628 + 3 * s) ∨ (∃ s, 0 ≤ s ∧ s < 4 ∧ a = t + 256 + 3 * s) ∨ ∃ s, 0 ≤ s ∧ s < 100 ∧ a = t + 269 + 3 * s
theorem PA.sep {t a a' : Int} (h : PA t a) (h' : PA t a') : a = a' ∨ a + 2 < a' ∨ a' + 2 < a := by
  rcases h with h | h | ⟨s, h⟩ | ⟨i, s, h⟩ | ⟨s, h⟩ | ⟨s, h⟩ | ⟨s, h⟩ | ⟨s, h⟩ <;> rcases h' with h' | h' | ⟨s', h'⟩ | ⟨i', s', h'⟩ | ⟨s', h'⟩ | ⟨s', h'⟩ | ⟨s', h'⟩ | ⟨s', h'⟩ <;> first | omega | (rcases Int.lt_trichotomy i i' with q | q | q <;> omega)
theorem PA.lo {t a : Int} (h : PA t a) : t + 5 ≤ a ∧ a + 2 < t + 646 := by
  rcases h with h | h | ⟨s, h⟩ | ⟨i, s, h⟩ | ⟨s, h⟩ | ⟨s, h⟩ | ⟨s, h⟩ | ⟨s, h⟩ <;> omega
/-- cells of numbers that are bound -/
def Ok (t c j v : Int) : Prop := ((c = t + 595 ∨ c = t + 252 ∨ c = t + 250 ∨ c = t + 268) → j = 0 → VK v) ∧ (c = t + 247 → j = 1 → 0 ≤ v ∧ v ≤ 300) ∧ (c = t + 23 → (j = 0 → 0 ≤ v ∧ v ≤ 10) ∧ (j = 2 → 0 ≤ v ∧ v ≤ 9)) ∧ (c = t + 253 → (j = 2 → 0 ≤ v ∧ v ≤ 9) ∧ (j = 3 → 0 ≤ v ∧ v ≤ 90)) ∧ (c = t + 255 → 0 ≤ j → j < 9 → 0 ≤ v ∧ v ≤ 90) ∧ (c = t + 571 → 0 ≤ j → j < 12 → 0 ≤ v ∧ v ≤ 9) ∧ (c = t + 569 → j = 2 → 0 ≤ v ∧ v ≤ 12) ∧ (c = t + 572 → (j = 2 → 0 ≤ v ∧ v ≤ 480) ∧ (j = 3 → 0 ≤ v ∧ v ≤ 6)) ∧ (c = t + 583 → 0 ≤ j → j < 6 → 0 ≤ v ∧ v ≤ 5)
/-- cells that are none of these -/
def Fre (t c : Int) : Prop := c ≠ t + 595 ∧ c ≠ t + 252 ∧ c ≠ t + 250 ∧ c ≠ t + 268 ∧ c ≠ t + 247 ∧ c ≠ t + 23 ∧ c ≠ t + 253 ∧ c ≠ t + 255 ∧ c ≠ t + 571 ∧ c ≠ t + 569 ∧ c ≠ t + 572 ∧ c ≠ t + 583
theorem Fre.ok {t c j v : Int} (h : Fre t c) : Ok t c j v := by
  obtain ⟨h1, h2, h3, h4, h5, h6, h7, h8, h9, h10, h11, h12⟩ := h
  exact ⟨fun e => by omega, fun e => absurd e h5, fun e => absurd e h6, fun e => absurd e h7, fun e => absurd e h8, fun e => absurd e h9, fun e => absurd e h10, fun e => absurd e h11, fun e => absurd e h12⟩
theorem PA.fre {t a c : Int} (h : PA t a) (hc : c = a ∨ c = a + 1 ∨ c = a + 2) : Fre t c := by
  unfold Fre
  rcases h with h | h | ⟨s, h⟩ | ⟨i, s, h⟩ | ⟨s, h⟩ | ⟨s, h⟩ | ⟨s, h⟩ | ⟨s, h⟩ <;> omega
/-- what always holds of the class's cells; the cells of others are those of ω -/
def GI (ω σ : Mem) (t : Int) : Prop := (∀ a, PA t a → Pv σ a) ∧ (∀ c j, Ok t c j (σ c j)) ∧ ∀ c, (c < t ∨ t + 646 ≤ c ∨ c = t + 246) → σ c = ω c
variable {ω : Mem}
theorem GI.base {σ : Mem} {t : Int} (h : GI ω σ t) : GI σ σ t := ⟨h.1, h.2.1, fun _ _ => rfl⟩
theorem GI.ok {σ : Mem} {t : Int} (h : GI ω σ t) (c j : Int) : Ok t c j (σ c j) := h.2.1 c j
theorem GI.fr {σ : Mem} {t c : Int} (h : GI ω σ t) (hc : c < t ∨ t + 646 ≤ c ∨ c = t + 246) : σ c = ω c := h.2.2 c hc
theorem GI.sto {σ τ : Mem} {t c j v : Int} (h : GI ω σ t) (e : τ = st σ c j v) (np : ∀ a, PA t a → c ≠ a ∧ c ≠ a + 1 ∧ c ≠ a + 2) (ho : Ok t c j v) (hr : t ≤ c ∧ c < t + 646 ∧ c ≠ t + 246 := by omega) : GI ω τ t := by
  subst e
  refine ⟨fun a ha => ?_, fun c' j' => ?_, fun c' hc' => by rw [st_ne (by omega)]; exact h.fr hc'⟩
  · have q := np a ha
    exact (h.1 a ha).same (st_ne (fun z => q.1 z.symm)) (st_ne (fun z => q.2.1 z.symm)) (st_ne (fun z => q.2.2 z.symm))
  · by_cases hc : c' = c
    · subst hc
      by_cases hj : j' = j
      · subst hj
        rw [st_eq]
        exact ho
      · rw [st_nj hj]
        exact h.ok _ _
    · rw [st_ne hc]
      exact h.ok _ _
/-- cells that hold no polynomial -/
def NP (t c : Int) : Prop := c < t + 5 ∨ t + 646 ≤ c ∨ (t + 23 ≤ c ∧ c ≤ t + 28) ∨ (∃ i, 0 ≤ i ∧ i < 10 ∧ t + 25 + 22 * i ≤ c ∧ c ≤ t + 28 + 22 * i) ∨ (t + 245 ≤ c ∧ c ≤ t + 255) ∨ c = t + 268 ∨ (t + 569 ≤ c ∧ c ≤ t + 595) ∨ (t + 602 ≤ c ∧ c ≤ t + 605) ∨ (t + 624 ≤ c ∧ c ≤ t + 627)
theorem NP.ne {t c : Int} (h : NP t c) : ∀ a, PA t a → c ≠ a ∧ c ≠ a + 1 ∧ c ≠ a + 2 := by
  intro a ha
  rcases ha with g | g | ⟨s, g⟩ | ⟨i, s, g⟩ | ⟨s, g⟩ | ⟨s, g⟩ | ⟨s, g⟩ | ⟨s, g⟩ <;> rcases h with h | h | h | ⟨i', h⟩ | h | h | h | h | h <;> first | omega | (rcases Int.lt_trichotomy i i' with q | q | q <;> omega)
theorem GI.pol {σ σ' : Mem} {t a : Int} (h : GI ω σ t) (pa : PA t a) (hv : Pv σ' a) (hs : ∀ c', c' ≠ a → c' ≠ a + 1 → c' ≠ a + 2 → σ' c' = σ c') : GI ω σ' t := by
  have lo := pa.lo
  have np := NP.ne (t := t) (c := t + 246) (Or.inr (Or.inr (Or.inr (Or.inr (Or.inl ⟨by omega, by omega⟩))))) a pa
  refine ⟨fun a' ha' => ?_, fun c j => ?_, fun c' hc' => by rw [hs c' (by omega) (by omega) (by omega)]; exact h.fr hc'⟩
  · rcases pa.sep ha' with q | q | q
    · rw [← q]; exact hv
    · exact (h.1 a' ha').same (hs _ (by omega) (by omega) (by omega)) (hs _ (by omega) (by omega) (by omega)) (hs _ (by omega) (by omega) (by omega))
    · exact (h.1 a' ha').same (hs _ (by omega) (by omega) (by omega)) (hs _ (by omega) (by omega) (by omega)) (hs _ (by omega) (by omega) (by omega))
  · by_cases hc : c = a ∨ c = a + 1 ∨ c = a + 2
    · exact (pa.fre hc).ok
    · rw [hs c (by omega) (by omega) (by omega)]
      exact h.ok c j
theorem GI.emp {σ τ : Mem} {t a : Int} (h : GI ω σ t) (pa : PA t a) (e : τ = st σ a 2 0) : GI ω τ t := by
  subst e
  exact h.pol pa ⟨[], ⟨st_eq, fun i e he => by simp at he⟩, by decide, srtd_nil, fun e he => by simp at he⟩ (fun c' g0 g1 g2 => st_ne g0)
