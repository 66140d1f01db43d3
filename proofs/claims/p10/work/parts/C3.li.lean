/-! what always holds of the two objects -/
theorem Mod0.toMZ {σ : Mem} {b : Int} {s0 : Int → Int} (h : Mod0 σ b s0) (e : s0 = fun _ => 0) : MZ σ b := by rw [e] at h; exact h
theorem Ob.up {N N' : Nat} {Λ Λ' : Lay} {c len : Int} {t : Nat} (h : Ob N Λ c t len) (hN : N ≤ N') (e : Λ' c = Λ c) : Ob N' Λ' c t len := ⟨h.1, by have := h.2.1; omega, by rw [e]; exact h.2.2.1, by rw [e]; exact h.2.2.2⟩
theorem PolyL.up {N N' : Nat} {Λ Λ' : Lay} {c : Int} (h : PolyL N Λ c) (hN : N ≤ N') (e : ∀ c' : Int, 0 ≤ c' → c' < N → Λ' c' = Λ c') : PolyL N' Λ' c := by
  have u : ∀ {c' len : Int} {t : Nat}, Ob N Λ c' t len → Ob N' Λ' c' t len := fun ho => ho.up hN (e _ ho.1 ho.2.1)
  have f := e c h.1.1 h.1.2.1
  exact ⟨u h.1, by rw [f]; exact h.2.1, by rw [f]; exact h.2.2.1, u h.2.2.2.1, u h.2.2.2.2⟩
theorem StateL.up {N N' : Nat} {Λ Λ' : Lay} {c : Int} (h : StateL N Λ c) (hN : N ≤ N') (e : ∀ c' : Int, 0 ≤ c' → c' < N → Λ' c' = Λ c') : StateL N' Λ' c := by
  have u : ∀ {c' len : Int} {t : Nat}, Ob N Λ c' t len → Ob N' Λ' c' t len := fun ho => ho.up hN (e _ ho.1 ho.2.1)
  obtain ⟨o, f0, f1, f2, o1, o2, o3, hp⟩ := h
  have f := e c o.1 o.2.1
  have g := e (c + 1) o1.1 o1.2.1
  exact ⟨u o, by rw [f]; exact f0, by rw [f]; exact f1, by rw [f]; exact f2, u o1, u o2, u o3, fun s g0 g1 => ⟨by rw [g]; exact (hp s g0 g1).1, (hp s g0 g1).2.up hN e⟩⟩
theorem HistL.up {N N' : Nat} {Λ Λ' : Lay} {c : Int} (h : HistL N Λ c) (hN : N ≤ N') (e : ∀ c' : Int, 0 ≤ c' → c' < N → Λ' c' = Λ c') : HistL N' Λ' c := by
  have u : ∀ {c' len : Int} {t : Nat}, Ob N Λ c' t len → Ob N' Λ' c' t len := fun ho => ho.up hN (e _ ho.1 ho.2.1)
  obtain ⟨o, f0, o1, hp⟩ := h
  have f := e c o.1 o.2.1
  have g := e (c + 1) o1.1 o1.2.1
  exact ⟨u o, by rw [f]; exact f0, u o1, fun s g0 g1 => ⟨by rw [g]; exact (hp s g0 g1).1, (hp s g0 g1).2.up hN e⟩⟩
theorem PC0_pv {σ : Mem} {c : Int} (h : PC σ c []) : Pv σ c := ⟨[], h, by decide, srtd_nil, fun e he => by simp at he⟩
theorem DN.gi {σ : Mem} {t : Int} (h : DN σ t) : GI σ σ t := by
  obtain ⟨hn, ⟨h23, h232, hh⟩, hmd, ⟨ht1, ht3⟩, hst, ⟨f2, f3, fj, fp, fs, f15⟩, ⟨fo2, foj⟩, ⟨e2, e3⟩, hfa, htm, hw, ho, hs1, hs2⟩ := h
  refine ⟨fun a ha => PC0_pv ?_, fun c j => ?_, fun _ _ => rfl⟩
  · rcases ha with g | g | ⟨s, g⟩ | ⟨i, s, g⟩ | ⟨s, g⟩ | ⟨s, g⟩ | ⟨s, g⟩ | ⟨s, g⟩
    · rw [g]; exact hw
    · rw [g]; exact ho
    · rw [g.2.2, show t + 5 + 3 * s = t + 1 + 4 + 3 * s by omega]; exact hn.1 s g.1 g.2.1
    · rw [g.2.2.2.2, show t + 29 + 22 * i + 3 * s = t + 23 + 2 + 22 * i + 4 + 3 * s by omega]; exact (hh i g.1 g.2.1).1 s g.2.2.1 g.2.2.2.1
    · rw [g.2.2, show t + 606 + 3 * s = t + 602 + 4 + 3 * s by omega]; exact hs1.1 s g.1 g.2.1
    · rw [g.2.2, show t + 628 + 3 * s = t + 624 + 4 + 3 * s by omega]; exact hs2.1 s g.1 g.2.1
    · rw [g.2.2, show t + 256 + 3 * s = t + 253 + 3 + 3 * s by omega]; exact fp s g.1 g.2.1
    · rw [g.2.2, show t + 269 + 3 * s = t + 253 + 16 + 3 * s by omega]; exact fs s g.1 g.2.1
  · refine ⟨fun e ej => ?_, fun e ej => ?_, fun e => ⟨fun ej => ?_, fun ej => ?_⟩, fun e => ⟨fun ej => ?_, fun ej => ?_⟩, fun e g0 g1 => ?_, fun e _ _ => ?_, fun e ej => ?_, fun e => ⟨fun ej => ?_, fun ej => ?_⟩, fun e _ _ => ?_⟩
    · subst ej
      rcases e with e | e | e | e
      · rw [e, htm]; exact VK0
      · rw [e, show t + 252 = t + 251 + 1 by omega, hst]; exact VK0
      · rw [e, show t + 250 = t + 247 + 3 by omega, ht3]; exact VK0
      · rw [e, show t + 268 = t + 253 + 15 by omega, f15]; exact VK0
    · rw [e, ej, ht1]; decide
    · rw [e, ej, h23]; decide
    · rw [e, ej, h232]; decide
    · rw [e, ej, f2]; decide
    · rw [e, ej, f3]; decide
    · rw [e, show t + 255 = t + 253 + 2 by omega, fj j g0 g1]; omega
    · rw [e, show t + 571 = t + 569 + 2 by omega, foj]; decide
    · rw [e, ej, fo2]; decide
    · rw [e, ej, e2]; decide
    · rw [e, ej, e3]; decide
    · rw [e, show t + 583 = t + 581 + 2 by omega, hfa]; decide
theorem MZ.ri {σ : Mem} {b : Int} (h : MZ σ b) : RI σ σ b := by
  obtain ⟨h1, h2, h3, h4, h5⟩ := h
  refine ⟨fun p p0 p1 => RV.emp (h4 _ (by omega) (by omega) _), fun k s k0 k1 s0 s1 => RV.emp ?_, fun k s k0 k1 s0 s1 => RV.emp (h4 _ (by omega) (by omega) _), h1, h2, fun c j => ?_, fun _ _ => rfl⟩
  · have kk : k = 0 ∨ 1 ≤ k := by omega
    rcases kk with kk | kk
    · subst kk
      rw [h3, if_neg (by omega)]
    · rw [h3, if_neg (by omega)]
  · refine ⟨fun e => ⟨fun ej => ?_, fun ej => ?_, fun ej => ?_, fun ej => ?_⟩, fun e => ?_, fun e => ?_, fun e => ?_⟩
    · rw [e, h5, if_neg (by omega)]; exact ⟨Int.le_refl 0, (show (0 : Int) ≤ _ by decide)⟩
    · rw [e, h5, if_neg (by omega)]; exact ⟨Int.le_refl 0, (show (0 : Int) ≤ _ by decide)⟩
    · rw [e, h5, if_neg (by omega)]; exact ⟨Int.le_refl 0, (show (0 : Int) ≤ _ by decide)⟩
    · rw [e, h5, if_neg (by omega)]; exact ⟨Int.le_refl 0, (show (0 : Int) ≤ _ by decide)⟩
    · rw [h4 c (by omega) (by omega)]; decide
    · rw [h4 c (by omega) (by omega)]; decide
    · rw [h4 c (by omega) (by omega)]; decide
theorem RI.mv {ω σ σ' : Mem} {b : Int} (h : RI ω σ b) (e : ∀ c, b ≤ c → c < b + 23 → σ' c = σ c) : RI σ' σ' b := by
  refine ⟨fun p h0 h1 => by rw [e _ (by omega) (by omega)]; exact h.pool h0 h1, fun k s h0 h1 h2 h3 => by rw [e _ (by omega) (by omega)]; exact h.stt h0 h1 h2 h3, fun k s h0 h1 h2 h3 => by rw [e _ (by omega) (by omega)]; exact h.dds h0 h1 h2 h3, by rw [e _ (by omega) (by omega)]; exact h.rk, by rw [e _ (by omega) (by omega)]; exact h.lt, fun c j => ?_, fun _ _ => rfl⟩
  by_cases hc : b ≤ c ∧ c < b + 23
  · rw [e c hc.1 hc.2]; exact h.ok c j
  · exact RO.x (by omega)
theorem GI.mv {ω σ σ' : Mem} {t : Int} (h : GI ω σ t) (e : ∀ c, t ≤ c → c < t + 646 → σ' c = σ c) : GI σ' σ' t := by
  refine ⟨fun a ha => ?_, fun c j => ?_, fun _ _ => rfl⟩
  · have lo := ha.lo
    exact (h.1 a ha).same (e _ (by omega) (by omega)) (e _ (by omega) (by omega)) (e _ (by omega) (by omega))
  · by_cases hc : t ≤ c ∧ c < t + 646
    · rw [e c hc.1 hc.2]; exact h.ok c j
    · refine Fre.ok ?_
      unfold Fre
      omega
theorem ModL.lay {N : Nat} {Λ Λ' : Lay} {b : Int} (h : ModL N Λ b) (e : ∀ c, b ≤ c → Λ' c = Λ c) : ModL N Λ' b := by
  refine ⟨Ob_eq h.1 (Nat.le_refl _) (e _ (Int.le_refl _)), fun i x hx => ?_⟩
  have q := h.2 i x hx
  rw [e b (Int.le_refl _)]
  exact ⟨q.1, Ob_eq q.2 (Nat.le_refl _) (e _ (by omega))⟩
theorem DX.keep {Λ Λ' : Lay} (h : DX 646 Λ 0) (e : ∀ c' : Int, 0 ≤ c' → c' < ((646 : Nat) : Int) → Λ' c' = Λ c') : DX 669 Λ' 0 := by
  have hN : 646 ≤ 669 := by decide
  have u : ∀ {c' len : Int} {t : Nat}, Ob 646 Λ c' t len → Ob 669 Λ' c' t len := fun ho => ho.up hN (e _ ho.1 ho.2.1)
  obtain ⟨o, hR, hS, hH, hI, hMd, hT, hSt, hFi, hFo, hE, hFa, hTm, hW, hOt, hS1, hS2⟩ := h
  have f := e 0 (by decide) (by decide)
  refine ⟨u o, ?_, hS.up hN e, hH.up hN e, ⟨u hI.1, ?_, ?_⟩, u hMd, ?_, ?_, ?_, ?_, ?_, ?_, u hTm, hW.up hN e, hOt.up hN e, hS1.up hN e, hS2.up hN e⟩
  · unfold DeskR at hR ⊢
    rw [f]
    exact hR
  · rw [e _ hI.1.1 hI.1.2.1]; exact hI.2.1
  · rw [e _ hI.1.1 hI.1.2.1]; exact hI.2.2
  · obtain ⟨q1, q2, q3, q4, q5, q6, q7⟩ := hT
    have f := e _ q1.1 q1.2.1
    exact ⟨u q1, by rw [f]; exact q2, by rw [f]; exact q3, by rw [f]; exact q4, u q5, u q6, u q7⟩
  · obtain ⟨q1, q2, q3⟩ := hSt
    have f := e _ q1.1 q1.2.1
    exact ⟨u q1, by rw [f]; exact q2, u q3⟩
  · obtain ⟨⟨q1, q2⟩, ⟨q3, q4, q5⟩, q6, q7⟩ := hFi
    have f := e _ q1.1 q1.2.1
    have g := e _ q3.1 q3.2.1
    exact ⟨⟨u q1, by rw [f]; exact q2⟩, ⟨u q3, u q4, u q5⟩, fun s s0 s1 => (q6 s s0 s1).up hN e, fun s s0 s1 => ⟨by rw [g]; exact (q7 s s0 s1).1, (q7 s s0 s1).2.up hN e⟩⟩
  · obtain ⟨q1, q2, q3, q4, q5⟩ := hFo
    have f := e _ q1.1 q1.2.1
    exact ⟨u q1, by rw [f]; exact q2, by rw [f]; exact q3, u q4, u q5⟩
  · obtain ⟨q1, q2, q3, q4, q5, q6, q7⟩ := hE
    have f := e _ q1.1 q1.2.1
    have g := e _ q5.1 q5.2.1
    exact ⟨u q1, by rw [f]; exact q2, by rw [f]; exact q3, u q4, u q5, fun i g0 g1 => by rw [g]; exact q6 i g0 g1, fun i g0 g1 => u (q7 i g0 g1)⟩
  · obtain ⟨q1, q2, q3, q4, q5, q6, q7, q8, q9, q10, q11⟩ := hFa
    have f := e _ q1.1 q1.2.1
    exact ⟨u q1, by rw [f]; exact q2, by rw [f]; exact q3, by rw [f]; exact q4, by rw [f]; exact q5, by rw [f]; exact q6, u q7, u q8, u q9, u q10, u q11⟩
/-- the class's object from 0 on, the reference's from 646 on, images alike -/
def LI (Λ : Lay) (σ : Mem) : Prop := DX 669 Λ 0 ∧ GI σ σ 0 ∧ ModL 669 Λ 646 ∧ RI σ σ 646 ∧ ∀ i : Int, σ (0 + 246) i = σ (646 + 5) i
theorem LI.cls {Λ : Lay} {σ σ' : Mem} (h : LI Λ σ) (hG : GI σ σ' 0) : LI Λ σ' :=
  ⟨h.1, hG.base, h.2.2.1, h.2.2.2.1.mv fun c c0 c1 => hG.fr (Or.inr (Or.inl (by omega))), fun i => by rw [hG.fr (Or.inr (Or.inr rfl)), hG.fr (Or.inr (Or.inl (by decide)))]; exact h.2.2.2.2 i⟩
theorem LI.ref {Λ : Lay} {σ σ' : Mem} (h : LI Λ σ) (hR : RI σ σ' 646) : LI Λ σ' :=
  ⟨h.1, h.2.1.mv fun c c0 c1 => hR.fr (Or.inl (by omega)), h.2.2.1, hR.base, fun i => by rw [hR.fr (Or.inl (by decide)), hR.fr (Or.inr (Or.inr rfl))]; exact h.2.2.2.2 i⟩
theorem LI.img {Λ : Lay} {σ σ1 σ2 : Mem} {x : Int} (h : LI Λ σ) (hG : GI σ σ1 0) (hR : RI (st σ1 (0 + 246) x 1) σ2 646) : LI Λ (st σ2 (646 + 5) x 1) := by
  have h1 := h.cls hG
  have g1 : GI (st σ1 (0 + 246) x 1) (st σ1 (0 + 246) x 1) 0 := (hG.made (i := x)).base
  refine ⟨h.1, g1.mv fun c c0 c1 => ?_, h.2.2.1, (hR.mad (i := x)).base, fun i => ?_⟩
  · rw [st_ne (by omega), hR.fr (Or.inl (by omega))]
  · rw [st_ne (by decide), hR.fr (Or.inl (by decide))]
    by_cases hi : i = x
    · subst hi
      rw [st_eq, st_eq]
    · rw [st_nj hi, st_nj hi, hR.fr (Or.inr (Or.inr rfl)), st_ne (by decide)]
      exact h1.2.2.2.2 i
theorem RI.at1 {σ1 : Mem} {Λ : Lay} {x : Int} (h : LI Λ σ1) : RI (st σ1 (0 + 246) x 1) (st σ1 (0 + 246) x 1) 646 := h.2.2.2.1.mv fun c c0 c1 => st_ne (by omega)
