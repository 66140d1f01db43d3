/-! what stays when the reference is made behind the class -/
theorem Mod0.toMZ {σ : Mem} {b : Int} {s0 : Int → Int} (h : Mod0 σ b s0) (e : s0 = fun _ => 0) : MZ σ b := by rw [e] at h; exact h
theorem Ob.up {N N' : Nat} {Λ Λ' : Lay} {c len : Int} {t : Nat} (h : Ob N Λ c t len) (hN : N ≤ N') (e : Λ' c = Λ c) : Ob N' Λ' c t len := ⟨h.1, by have := h.2.1; omega, by rw [e]; exact h.2.2.1, by rw [e]; exact h.2.2.2⟩
theorem PolyL.up {N N' : Nat} {Λ Λ' : Lay} {c : Int} (h : PolyL N Λ c) (hN : N ≤ N') (e : ∀ c' : Int, 0 ≤ c' → c' < N → Λ' c' = Λ c') : PolyL N' Λ' c := by
  have u : ∀ {c' len : Int} {t : Nat}, Ob N Λ c' t len → Ob N' Λ' c' t len := fun ho => ho.up hN (e _ ho.1 ho.2.1)
  have f := e c h.1.1 h.1.2.1
  exact ⟨u h.1, by rw [f]; exact h.2.1, by rw [f]; exact h.2.2.1, u h.2.2.2.1, u h.2.2.2.2⟩
theorem StateL.up {N N' : Nat} {Λ Λ' : Lay} {c : Int} (h : StateL N Λ c) (hN : N ≤ N') (e : ∀ c' : Int, 0 ≤ c' → c' < N → Λ' c' = Λ c') : StateL N' Λ' c := by
  have u : ∀ {c' len : Int} {t : Nat}, Ob N Λ c' t len → Ob N' Λ' c' t len := fun ho => ho.up hN (e _ ho.1 ho.2.1)
  obtain ⟨o, f0, f1, f2, o1, o2, o3, hp⟩ := h
  have f := e c o.1 o.2.1
  have g := e (c + 1) o1.1 o1.2.1
  exact ⟨u o, by rw [f]; exact f0, by rw [f]; exact f1, by rw [f]; exact f2, u o1, u o2, u o3, fun s g0 g1 => ⟨by rw [g]; exact (hp s g0 g1).1, (hp s g0 g1).2.up hN e⟩⟩
theorem HistL.up {N N' : Nat} {Λ Λ' : Lay} {c : Int} (h : HistL N Λ c) (hN : N ≤ N') (e : ∀ c' : Int, 0 ≤ c' → c' < N → Λ' c' = Λ c') : HistL N' Λ' c := by
  have u : ∀ {c' len : Int} {t : Nat}, Ob N Λ c' t len → Ob N' Λ' c' t len := fun ho => ho.up hN (e _ ho.1 ho.2.1)
  obtain ⟨o, f0, o1, hp⟩ := h
  have f := e c o.1 o.2.1
  have g := e (c + 1) o1.1 o1.2.1
  exact ⟨u o, by rw [f]; exact f0, u o1, fun s g0 g1 => ⟨by rw [g]; exact (hp s g0 g1).1, (hp s g0 g1).2.up hN e⟩⟩
theorem DeskL.keep {Λ Λ' : Lay} {σ σ' : Mem} (h : DeskL 646 Λ 0) (kp : ∀ c' : Int, 0 ≤ c' → c' < 646 → Λ' c' = Λ c' ∧ σ' c' = σ c') : DeskL 669 Λ' 0 := by
  have e : ∀ c' : Int, 0 ≤ c' → c' < ((646 : Nat) : Int) → Λ' c' = Λ c' := fun c' g0 g1 => (kp c' g0 g1).1
  have hN : 646 ≤ 669 := by decide
  have u : ∀ {c' len : Int} {t : Nat}, Ob 646 Λ c' t len → Ob 669 Λ' c' t len := fun ho => ho.up hN (e _ ho.1 ho.2.1)
  obtain ⟨o, hR, hS, hH, hI, hMd, hT, hSt, hFi, hFo, hE, hFa, hTm, hW, hOt, hS1, hS2⟩ := h
  have f := e 0 (by decide) (by decide)
  refine ⟨u o, ?_, hS.up hN e, hH.up hN e, ⟨u hI.1, ?_, ?_⟩, u hMd, ?_, ?_, u hFi, u hFo, ?_, u hFa, u hTm, hW.up hN e, hOt.up hN e, hS1.up hN e, hS2.up hN e⟩
  · unfold DeskR at hR ⊢
    rw [f]
    exact hR
  · rw [e _ hI.1.1 hI.1.2.1]; exact hI.2.1
  · rw [e _ hI.1.1 hI.1.2.1]; exact hI.2.2
  · obtain ⟨q1, q2, q3, q4, q5, q6, q7⟩ := hT
    have f := e _ q1.1 q1.2.1
    exact ⟨u q1, by rw [f]; exact q2, by rw [f]; exact q3, by rw [f]; exact q4, u q5, u q6, u q7⟩
  · obtain ⟨q1, q2, q3⟩ := hSt
    have f := e _ q1.1 q1.2.1
    exact ⟨u q1, by rw [f]; exact q2, u q3⟩
  · obtain ⟨q1, q2, q3, q4, q5, q6⟩ := hE
    have f := e _ q1.1 q1.2.1
    have g := e _ q5.1 q5.2.1
    exact ⟨u q1, by rw [f]; exact q2, by rw [f]; exact q3, u q4, u q5, fun i g0 g1 => ⟨by rw [g]; exact (q6 i g0 g1).1, u (q6 i g0 g1).2⟩⟩
theorem Desk0.keep {Λ Λ' : Lay} {σ σ' : Mem} (h : Desk0 σ 0) (kp : ∀ c' : Int, 0 ≤ c' → c' < 646 → Λ' c' = Λ c' ∧ σ' c' = σ c') : Desk0 σ' 0 := by
  have e : ∀ c' : Int, 0 ≤ c' → c' < 646 → σ' c' = σ c' := fun c' g0 g1 => (kp c' g0 g1).2
  obtain ⟨⟨a1, a2, a3⟩, a4, a5, a6, a7, a8, a9⟩ := h
  refine ⟨⟨fun s g0 g1 => (a1 s g0 g1).same (e _ (by omega) (by omega)) (e _ (by omega) (by omega)) (e _ (by omega) (by omega)), fun j g0 g1 => ?_, fun j g0 g1 => ?_⟩, ?_, ?_, ?_, a7.same (e _ (by decide) (by decide)) (e _ (by decide) (by decide)) (e _ (by decide) (by decide)), a8.same (e _ (by decide) (by decide)) (e _ (by decide) (by decide)) (e _ (by decide) (by decide)), ?_⟩
  · rw [e _ (by decide) (by decide)]; exact a2 j g0 g1
  · rw [e _ (by decide) (by decide)]; exact a3 j g0 g1
  · rw [e _ (by decide) (by decide)]; exact a4
  · rw [e _ (by decide) (by decide)]; exact a5
  · rw [e _ (by decide) (by decide)]; exact a6
  · rw [e _ (by decide) (by decide)]; exact a9
