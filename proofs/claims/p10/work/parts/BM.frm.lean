/-! the reference: forms, rank, factors on any object -/
def cntL (g : Nat → Int) (q : Int) : Nat → Int
  | 0 => 0
  | t + 1 => cntL g q t + (if g t < q then 1 else 0)
theorem cntL_b (g : Nat → Int) (q : Int) : ∀ t : Nat, 0 ≤ cntL g q t ∧ cntL g q t ≤ t := by
  intro t
  induction t with
  | zero => exact ⟨Int.le_refl 0, Int.le_refl 0⟩
  | succ t ih =>
    show 0 ≤ cntL g q t + (if g t < q then 1 else 0) ∧ cntL g q t + (if g t < q then 1 else 0) ≤ ((t + 1 : Nat) : Int)
    split <;> omega
/-- how many of the first t are p -/
def dfL (g : Nat → Int) (p : Int) (t : Nat) : Int := cntL g (p + 1) t - cntL g p t
theorem dfL_s (g : Nat → Int) (p : Int) (t : Nat) : dfL g p (t + 1) = dfL g p t + (if g t = p then 1 else 0) := by
  show cntL g (p + 1) t + (if g t < p + 1 then 1 else 0) - (cntL g p t + (if g t < p then 1 else 0)) = cntL g (p + 1) t - cntL g p t + (if g t = p then 1 else 0)
  by_cases h1 : g t = p
  · rw [if_pos h1, if_pos (by omega), if_neg (by omega)]
    omega
  · rw [if_neg h1]
    by_cases h2 : g t < p
    · rw [if_pos (by omega), if_pos h2]
      omega
    · rw [if_neg (by omega), if_neg h2]
      omega
theorem dfL_b (g : Nat → Int) (p : Int) (t : Nat) : -(t : Int) ≤ dfL g p t ∧ dfL g p t ≤ t := by
  have a := cntL_b g (p + 1) t
  have c := cntL_b g p t
  unfold dfL
  omega
/-- the letters of a key, one by one -/
def lg (x : Int) (t : Nat) : Int := LtT 120 (3 * rkI x ((t / 3 : Nat) : Int) + ((t % 3 : Nat) : Int))
theorem lg_e {x i k : Int} (hi : 0 ≤ i) (hk : 0 ≤ k ∧ k < 3) : lg x (3 * i + k).toNat = LtT 120 (3 * rkI x i + k) := by
  unfold lg
  rw [show (((3 * i + k).toNat / 3 : Nat) : Int) = i by omega, show (((3 * i + k).toNat % 3 : Nat) : Int) = k by omega]
section KF
variable {l : Launch} {d N : Nat} {Λ : Lay} {ω σ : Mem} {b : Int}
theorem RI.sst {τ : Mem} {j v : Int} (h : RI ω σ b) (e : τ = st σ (b + 3) j v) (hj : 966 ≤ j ∧ j < 1116) : RI ω τ b := by
  have hc : ∀ c, c ≠ b + 3 → τ c = σ c := fun c hn => by rw [e, st_ne hn]
  refine ⟨fun p h0 h1 => by rw [hc _ (by omega)]; exact h.pool h0 h1, fun k' s h0 h1 h2 h3 => ?_, fun k' s h0 h1 h2 h3 => by rw [hc _ (by omega)]; exact h.dds h0 h1 h2 h3, by rw [hc _ (by omega)]; exact h.rk, by rw [hc _ (by omega)]; exact h.lt, fun c' j' => ?_, fun c' hcc => by rw [hc _ (by omega)]; exact h.fr hcc⟩
  · refine (h.stt h0 h1 h2 h3).same fun j' j0 j1 => ?_
    have kk : k' = 0 ∨ 1 ≤ k' := by omega
    rcases kk with kk | kk
    · subst kk
      rw [e, st_nj (by omega)]
    · rw [e, st_nj (by omega)]
  · by_cases h3 : c' = b + 3
    · exact RO.x (by omega)
    · rw [hc _ h3]; exact h.ok _ _
theorem lps_often {P : Int → Mem → Prop} {x1 x2 : Int} (hM : ModL N Λ b) (hR : RI ω σ b) (hx : 0 ≤ x1 ∧ x1 < 214358881) (hd : 2 ≤ d) (h : P (dfL (lg x1) x2 (3 * dgI x1).toNat) σ) : ∀ m : Nat, (∀ (x3 x4 : Int), 0 ≤ x4 → x4 ≤ dgI x1 → x3 = dfL (lg x1) x2 (3 * x4 + 0).toNat → (5 * (5 - x4)).toNat < m → WI l mX12_often d P 5 [(2, b), (0, x1), (0, x2), (0, x3), (0, x4), (3, 0)] [] N Λ σ) ∧ (∀ (x3 x4 x5 : Int), 0 ≤ x4 → x4 < dgI x1 → 0 ≤ x5 → x5 ≤ 3 → x3 = dfL (lg x1) x2 (3 * x4 + x5).toNat → (5 * (4 - x4) + (3 - x5) + 1).toNat < m → WI l mX12_often d P 17 [(2, b), (0, x1), (0, x2), (0, x3), (0, x4), (0, x5)] [] N Λ σ) := by
  have dg := dgI_b (x := x1)
  intro m
  induction m with
  | zero => exact ⟨by intros; omega, by intros; omega⟩
  | succ m ih =>
    refine ⟨?_, ?_⟩
    · intro x3 x4 i0 i1 e g
      refine u_X12_often_5 (by omega) (K_degreeOf hx (by omega) fun v2 e2 b2 => ⟨fun q => ?_, fun q => ih.2 x3 x4 0 i0 (by omega) (by omega) (by omega) e (by omega)⟩)
      rw [show 3 * x4 + 0 = 3 * dgI x1 by omega] at e
      rw [e]
      exact h
    · intro x3 x4 x5 i0 i1 j0 j1 e g
      have bb := dfL_b (lg x1) x2 (3 * x4 + x5).toNat
      have b3 : -12 ≤ x3 ∧ x3 ≤ 15 := by rw [e]; omega
      refine u_X12_often_17 hM.1 (M_fletterOf hM) (by omega) ⟨fun q y1 e1 => ?_, fun q => K_rankIn hx (by omega) fun v3 e3 b3' => ?_⟩
      · rw [e1, addI_e (by omega) (by omega)]
        refine ih.1 x3 (x4 + 1) (by omega) (by omega) ?_ (by omega)
        rw [e, show 3 * x4 + x5 = 3 * (x4 + 1) + 0 by omega]
      · rw [mulI_e (x := 3) (y := v3) (by omega) (by omega), addI_e (x := 3 * v3) (y := x5) (by omega) (by omega)]
        have s1 := dfL_s (lg x1) x2 (3 * x4 + x5).toNat
        rw [lg_e i0 ⟨j0, by omega⟩, ← e3, ← hR.lt, show (3 * x4 + x5).toNat + 1 = (3 * x4 + (x5 + 1)).toNat by omega, ← e] at s1
        refine ⟨Ix.of (M_letterOf hM) (by omega) (by omega), fun qn y4 e4 y5 e5 => ?_, fun qe y6 e6 y7 e7 => ?_⟩
        · rw [if_neg qn] at s1
          rw [e4, e5, addI_e (x := x3) (by omega) (by omega), addI_e (x := x5) (by omega) (by omega)]
          exact ih.2 (x3 + 0) x4 (x5 + 1) i0 i1 (by omega) (by omega) s1.symm (by omega)
        · rw [if_pos qe] at s1
          rw [e6, e7, addI_e (x := x3) (by omega) (by omega), addI_e (x := x5) (by omega) (by omega)]
          exact ih.2 (x3 + 1) x4 (x5 + 1) i0 i1 (by omega) (by omega) s1.symm (by omega)
theorem K_often {P : Int → Mem → Prop} {x1 x2 : Int} (hM : ModL N Λ b) (hR : RI ω σ b) (hx : 0 ≤ x1 ∧ x1 < 214358881) (hd : 2 ≤ d) (h : ∀ v, v = dfL (lg x1) x2 (3 * dgI x1).toNat → P v σ) : CI l mX12_often d [(2, b), (0, x1), (0, x2)] N Λ σ P :=
  c_X12_often (u_X12_often_0 ((lps_often hM hR hx hd (h _ rfl) 26).1 0 0 (by decide) dgI_b.1 (by rfl) (by decide)))
theorem lps_counts {P : Mem → Prop} {x1 x2 fr : Int} (hM : ModL N Λ b) (hx1 : 0 ≤ x1 ∧ x1 < 214358881) (hd : 3 ≤ d) (h : ∀ σ', RI ω σ' b → σ' b 28 = fr → P σ') : ∀ m : Nat, (∀ (x3 : Int) (σ : Mem), 0 ≤ x3 → σ b 28 = fr → (10 - x3).toNat < m → RI ω σ b → WV l mX12_counts d P 2 [(2, b), (0, x1), (0, x2), (0, x3)] [] N Λ σ) := by
  intro m
  induction m with
  | zero => exact by intros; omega
  | succ m ih =>
    refine ?_
    · intro x3 σ i0 i1 g R
      exact u_X12_counts_2 hM.1 (M_fcounts hM) (by omega) (⟨fun q1 => h _ R (by omega), fun q2 => ⟨(Ix.of (M_counts hM) (by omega) (by omega)), K_often hM R (by omega) (by omega) fun v2 ee3 => ⟨(Ix.of (M_counts hM) (by omega) (by omega)), fun τ3 e4 => have R_τ3 := R.ax e4 (by omega); have F28_τ3 : τ3 b 28 = σ b 28 := (by rw [e4, st_ne (by omega)]); fun y4 e5 => by rw [e5, addI_e (by omega) (by omega)]; exact ih (x3 + 1) τ3 (by omega) (by omega) (by omega) R_τ3⟩⟩⟩)
theorem K_counts {P : Mem → Prop} {x1 x2 fr : Int} (hM : ModL N Λ b) (hR : RI ω σ b) (hx1 : 0 ≤ x1 ∧ x1 < 214358881) (hf : σ b 28 = fr) (hd : 3 ≤ d) (h : ∀ σ', RI ω σ' b → σ' b 28 = fr → P σ') : CV l mX12_counts d [(2, b), (0, x1), (0, x2)] N Λ σ P :=
  c_X12_counts (u_X12_counts_0 ((lps_counts (fr := fr) hM hx1 hd h 11) 0 σ (by omega) (by omega) (by omega) hR))
theorem K_goesOn {fr : Int} (hM : ModL N Λ b) (hf : 0 ≤ fr ∧ fr ≤ 4) : ∀ (n : Nat) (d : Nat) (x1 : Int) (σ : Mem) (P : Int → Mem → Prop), 0 ≤ x1 → x1 ≤ fr → (fr - x1).toNat < n → n + 4 ≤ d → RI ω σ b → σ b 28 = fr → (∀ v σ', RI ω σ' b → σ' b 28 = fr → (v = 0 ∨ v = 1) → P v σ') → CI l mX12_goesOn d [(2, b), (0, x1)] N Λ σ P := by
  intro n
  induction n with
  | zero => intros; omega
  | succ n IH =>
    intro d x1 σ P j0 j1 g hd R F h
    have lp : ∀ (m : Nat) (x2 : Int) (σ : Mem), x1 < fr ∧ 0 ≤ x2 → σ b 28 = fr → (121 - x2).toNat < m → RI ω σ b → WI l mX12_goesOn d P 58 [(2, b), (0, x1), (0, x2), (3, 0), (3, 0)] [] N Λ σ := by
      intro m
      induction m with
      | zero => intros; omega
      | succ m ih =>
        intro x2 σ i0 F g' R
        exact u_X12_goesOn_58 hM.1 (M_fcounts hM) (M_fletterOf hM) (M_fformRank hM) (by omega) (⟨fun q1 => h _ _ R (by omega) (by decide), fun q2 => ⟨fun q3 => ⟨(Ix.of (M_letterOf hM) (by first | omega | (simp (disch := omega) only [addI_e, subI_e, mulI_e, divI_e, remI_e]; omega)) (by first | omega | (simp (disch := omega) only [addI_e, subI_e, mulI_e, divI_e, remI_e]; omega))), ⟨(ixL R (M_counts hM) (by decide)), ⟨fun q4 => fun y1 e5 => by rw [e5, addI_e (by omega) (by omega)]; exact ih (x2 + 1) σ (by omega) (by omega) (by omega) R, fun q6 => ⟨(Ix.of (M_letterOf hM) (by first | omega | (simp (disch := omega) only [addI_e, subI_e, mulI_e, divI_e, remI_e]; omega)) (by first | omega | (simp (disch := omega) only [addI_e, subI_e, mulI_e, divI_e, remI_e]; omega))), ⟨(ixL R (M_counts hM) (by decide)), ⟨fun q7 => fun y2 e8 => by rw [e8, addI_e (by omega) (by omega)]; exact ih (x2 + 1) σ (by omega) (by omega) (by omega) R, fun q9 => ⟨(Ix.of (M_letterOf hM) (by first | omega | (simp (disch := omega) only [addI_e, subI_e, mulI_e, divI_e, remI_e]; omega)) (by first | omega | (simp (disch := omega) only [addI_e, subI_e, mulI_e, divI_e, remI_e]; omega))), ⟨(ixL R (M_counts hM) (by decide)), ⟨fun q10 => fun y3 e11 => by rw [e11, addI_e (by omega) (by omega)]; exact ih (x2 + 1) σ (by omega) (by omega) (by omega) R, fun q12 => ⟨(Ix.of (M_formRank hM) (by omega) (by omega)), fun τ4 e13 => have R_τ4 := R.sto e13 (RO.r (by omega) (by first | omega | (simp (disch := omega) only [addI_e, subI_e, mulI_e, divI_e, remI_e]; omega))); have F28_τ4 : τ4 b 28 = σ b 28 := (by rw [e13, st_ne (by omega)]); K_counts (fr := fr) hM R_τ4 (by first | omega | (simp (disch := omega) only [addI_e, subI_e, mulI_e, divI_e, remI_e]; omega)) (by first | omega | (simp (disch := omega) only [addI_e, subI_e, mulI_e, divI_e, remI_e]; omega)) (by omega) fun σ5 R_σ5 ff14 => by rw [addI_e (x := x1) (y := 1) (by omega) (by omega)]; exact IH (d - 1) (x1 + 1) σ5 _ (by omega) (by omega) (by omega) (by omega) R_σ5 (by omega) fun v7 σ6 R_σ6 ff15 zz15 => K_counts (fr := fr) hM R_σ6 (by first | omega | (simp (disch := omega) only [addI_e, subI_e, mulI_e, divI_e, remI_e]; omega)) (by first | omega | (simp (disch := omega) only [addI_e, subI_e, mulI_e, divI_e, remI_e]; omega)) (by omega) fun σ8 R_σ8 ff16 => ⟨fun q17 => fun y9 e18 => by rw [e18, addI_e (by omega) (by omega)]; exact ih (x2 + 1) σ8 (by omega) (by omega) (by omega) R_σ8, fun q19 => h _ _ R_σ8 (by omega) (by decide)⟩⟩⟩⟩⟩⟩⟩⟩⟩⟩⟩, fun q20 => ⟨(Ix.of (M_formRank hM) (by first | omega | (simp (disch := omega) only [addI_e, subI_e, mulI_e, divI_e, remI_e]; omega)) (by first | omega | (simp (disch := omega) only [addI_e, subI_e, mulI_e, divI_e, remI_e]; omega))), K_isBroken hM R.frk (by first | omega | (simp (disch := omega) only [addI_e, subI_e, mulI_e, divI_e, remI_e]; omega)) (by omega) fun v11 => ⟨fun q22 => ⟨(Ix.of (M_letterOf hM) (by first | omega | (simp (disch := omega) only [addI_e, subI_e, mulI_e, divI_e, remI_e]; omega)) (by first | omega | (simp (disch := omega) only [addI_e, subI_e, mulI_e, divI_e, remI_e]; omega))), ⟨(ixL R (M_counts hM) (by decide)), ⟨fun q23 => fun y12 e24 => by rw [e24, addI_e (by omega) (by omega)]; exact ih (x2 + 1) σ (by omega) (by omega) (by omega) R, fun q25 => ⟨(Ix.of (M_letterOf hM) (by first | omega | (simp (disch := omega) only [addI_e, subI_e, mulI_e, divI_e, remI_e]; omega)) (by first | omega | (simp (disch := omega) only [addI_e, subI_e, mulI_e, divI_e, remI_e]; omega))), ⟨(ixL R (M_counts hM) (by decide)), ⟨fun q26 => fun y13 e27 => by rw [e27, addI_e (by omega) (by omega)]; exact ih (x2 + 1) σ (by omega) (by omega) (by omega) R, fun q28 => ⟨(Ix.of (M_letterOf hM) (by first | omega | (simp (disch := omega) only [addI_e, subI_e, mulI_e, divI_e, remI_e]; omega)) (by first | omega | (simp (disch := omega) only [addI_e, subI_e, mulI_e, divI_e, remI_e]; omega))), ⟨(ixL R (M_counts hM) (by decide)), ⟨fun q29 => fun y14 e30 => by rw [e30, addI_e (by omega) (by omega)]; exact ih (x2 + 1) σ (by omega) (by omega) (by omega) R, fun q31 => ⟨(Ix.of (M_formRank hM) (by omega) (by omega)), fun τ15 e32 => have R_τ15 := R.sto e32 (RO.r (by omega) (by first | omega | (simp (disch := omega) only [addI_e, subI_e, mulI_e, divI_e, remI_e]; omega))); have F28_τ15 : τ15 b 28 = σ b 28 := (by rw [e32, st_ne (by omega)]); K_counts (fr := fr) hM R_τ15 (by first | omega | (simp (disch := omega) only [addI_e, subI_e, mulI_e, divI_e, remI_e]; omega)) (by first | omega | (simp (disch := omega) only [addI_e, subI_e, mulI_e, divI_e, remI_e]; omega)) (by omega) fun σ16 R_σ16 ff33 => by rw [addI_e (x := x1) (y := 1) (by omega) (by omega)]; exact IH (d - 1) (x1 + 1) σ16 _ (by omega) (by omega) (by omega) (by omega) R_σ16 (by omega) fun v18 σ17 R_σ17 ff34 zz34 => K_counts (fr := fr) hM R_σ17 (by first | omega | (simp (disch := omega) only [addI_e, subI_e, mulI_e, divI_e, remI_e]; omega)) (by first | omega | (simp (disch := omega) only [addI_e, subI_e, mulI_e, divI_e, remI_e]; omega)) (by omega) fun σ19 R_σ19 ff35 => ⟨fun q36 => fun y20 e37 => by rw [e37, addI_e (by omega) (by omega)]; exact ih (x2 + 1) σ19 (by omega) (by omega) (by omega) R_σ19, fun q38 => h _ _ R_σ19 (by omega) (by decide)⟩⟩⟩⟩⟩⟩⟩⟩⟩⟩⟩, fun q39 => fun y21 e40 => by rw [e40, addI_e (by omega) (by omega)]; exact ih (x2 + 1) σ (by omega) (by omega) (by omega) R⟩⟩⟩⟩)
    exact c_X12_goesOn (u_X12_goesOn_0 hM.1 (M_fformRank hM) (⟨fun q1 => ⟨fun q2 => ⟨(Ix.of (M_formRank hM) (by first | omega | (simp (disch := omega) only [addI_e, subI_e, mulI_e, divI_e, remI_e]; omega)) (by first | omega | (simp (disch := omega) only [addI_e, subI_e, mulI_e, divI_e, remI_e]; omega))), fun y1 e3 => have b3 : 0 ≤ y1 ∧ y1 ≤ 120 := (by rw [e3]; exact R.frk); lp 122 y1 σ (by omega) (by omega) (by omega) R⟩, fun q4 => lp 122 1 σ (by omega) (by omega) (by omega) R⟩, fun q5 => fun τ2 e6 => have R_τ2 := R.fo e6 (by decide); have F28_τ2 : τ2 b 28 = σ b 28 := (by rw [e6, st_nj (by decide)]); fun τ3 e7 => have R_τ3 := R_τ2.fo e7 (by decide); have F28_τ3 : τ3 b 28 = τ2 b 28 := (by rw [e7, st_nj (by decide)]); ⟨fun q8 => h _ _ R_τ3 (by omega) (by decide), fun q9 => h _ _ R_τ3 (by omega) (by decide)⟩⟩))
theorem shn {s : Int} (hR : RI ω σ b) (hs : 0 ≤ s ∧ s < 6) (q : ¬ σ (b + 3) (mulI 161 s) = 0) : 0 < σ (b + 3) (161 * s) := by
  have hv := hR.stt (k := 0) (s := s) (by decide) (by decide) hs.1 hs.2
  rw [show 1116 * 0 + 161 * s = 161 * s by omega] at hv
  have z := hv.sz
  rw [mulI_e (by omega) (by omega)] at q
  omega
theorem lps_laysForms {P : Int → Mem → Prop} {x1 x2 : Int} (hM : ModL N Λ b) (hx1 : 0 ≤ x1 ∧ x1 < 6) (hd : 10 ≤ d) (h : ∀ v σ', RI ω σ' b → P v σ') : ∀ m : Nat, (∀ (x3 : Int) (σ : Mem), 0 ≤ x3 → 0 < σ (b + 3) (161 * x1) → (10 - x3).toNat < m → RI ω σ b → WI l mX12_laysForms d P 2 [(2, b), (0, x1), (0, x2), (0, x3)] [] N Λ σ) := by
  intro m
  induction m with
  | zero => exact by intros; omega
  | succ m ih =>
    refine ?_
    · intro x3 σ i0 i1 g R
      exact u_X12_laysForms_2 hM.1 (M_fstate hM) (M_fcounts hM) (by omega) (⟨fun q1 => K_keyOn hM R (by omega) (by omega) fun v2 ee2 bb2 => K_counts (fr := σ b 28) hM R (by omega) rfl (by omega) fun σ3 R_σ3 ff3 => K_degreeOf (by omega) (by omega) fun v5 ee4 bb4 => fun τ6 e5 => have R_τ6 := R_σ3.f28 e5 (by first | omega | (simp (disch := omega) only [addI_e, subI_e, mulI_e, divI_e, remI_e]; omega)); have F28_τ6 : τ6 b 28 = v5 := (by rw [e5, st_eq]); have Gs_τ6 : τ6 (b + 3) (161 * x1) = σ3 (b + 3) (161 * x1) := (by rw [e5, st_ne (by omega)]); fun τ7 e6 => have R_τ7 := R_τ6.fo e6 (by decide); have F28_τ7 : τ7 b 28 = τ6 b 28 := (by rw [e6, st_nj (by decide)]); have Gs_τ7 : τ7 (b + 3) (161 * x1) = τ6 (b + 3) (161 * x1) := (by rw [e6, st_ne (by omega)]); fun τ8 e7 => have R_τ8 := R_τ7.fo e7 (by decide); have F28_τ8 : τ8 b 28 = τ7 b 28 := (by rw [e7, st_nj (by decide)]); have Gs_τ8 : τ8 (b + 3) (161 * x1) = τ7 (b + 3) (161 * x1) := (by rw [e7, st_ne (by omega)]); K_goesOn (fr := v5) hM (by omega) 5 (d - 1) 0 τ8 _ (by omega) (by omega) (by omega) (by omega) R_τ8 (by omega) fun v10 σ9 R_σ9 ff8 zz8 => ⟨(by first | omega | (simp (disch := omega) only [addI_e, subI_e, mulI_e, divI_e, remI_e]; omega)), h _ _ R_σ9⟩, fun q9 => ⟨(Ix.of (M_counts hM) (by omega) (by omega)), fun τ11 e10 => have R_τ11 := R.ax e10 (by omega); have F28_τ11 : τ11 b 28 = σ b 28 := (by rw [e10, st_ne (by omega)]); have Gs_τ11 : τ11 (b + 3) (161 * x1) = σ (b + 3) (161 * x1) := (by rw [e10, st_ne (by omega)]); fun y12 e11 => by rw [e11, addI_e (by omega) (by omega)]; exact ih (x3 + 1) τ11 (by omega) (by omega) (by omega) R_τ11⟩⟩)
theorem K_laysForms {P : Int → Mem → Prop} {x1 x2 : Int} (hM : ModL N Λ b) (hR : RI ω σ b) (hx1 : 0 ≤ x1 ∧ x1 < 6) (hn : 0 < σ (b + 3) (161 * x1)) (hd : 10 ≤ d) (h : ∀ v σ', RI ω σ' b → P v σ') : CI l mX12_laysForms d [(2, b), (0, x1), (0, x2)] N Λ σ P :=
  c_X12_laysForms (u_X12_laysForms_0 ((lps_laysForms hM hx1 hd h 11) 0 σ (by omega) (by omega) (by omega) hR))
theorem lps_columnOf {P : Int → Mem → Prop} {x1 km rp : Int} (hM : ModL N Λ b) (hd : 0 ≤ d) (h : ∀ v σ', RI ω σ' b → 0 ≤ v ∧ v < σ' b 32 ∧ km ≤ σ' b 32 ∧ σ' b 32 ≤ km + 1 → σ' (b + 6) (161 * 3) = rp → P v σ') : ∀ m : Nat, (∀ (x2 : Int) (σ : Mem), 0 ≤ x2 → 0 ≤ σ b 32 ∧ σ b 32 < 480 → σ b 32 = km ∧ σ (b + 6) (161 * 3) = rp → (480 - x2).toNat < m → RI ω σ b → WI l mX12_columnOf d P 2 [(2, b), (0, x1), (0, x2)] [] N Λ σ) := by
  intro m
  induction m with
  | zero => exact by intros; omega
  | succ m ih =>
    refine ?_
    · intro x2 σ i0 i1 i2 g R
      exact u_X12_columnOf_2 hM.1 (M_fkeys hM) (⟨fun q1 => ⟨(Ix.of (M_keys hM) (by omega) (by omega)), fun τ1 e2 => have R_τ1 := R.ax e2 (by omega); have F32_τ1 : τ1 b 32 = σ b 32 := (by rw [e2, st_ne (by omega)]); have Gp_τ1 : τ1 (b + 6) (161 * 3) = σ (b + 6) (161 * 3) := (by rw [e2, st_ne (by omega)]); fun τ2 e3 => have R_τ2 := R_τ1.fo e3 (by decide); have F32_τ2 : τ2 b 32 = ((τ1 b 32) + 1) := (by rw [e3, st_eq, addI_e (by omega) (by omega)]); have Gp_τ2 : τ2 (b + 6) (161 * 3) = τ1 (b + 6) (161 * 3) := (by rw [e3, st_ne (by omega)]); (by rw [subI_e (by omega) (by omega)]; exact h _ _ R_τ2 (by omega) (by omega))⟩, fun q4 => ⟨(Ix.of (M_keys hM) (by omega) (by omega)), ⟨fun q5 => fun y3 e6 => by rw [e6, addI_e (by omega) (by omega)]; exact ih (x2 + 1) σ (by omega) (by omega) (by omega) (by omega) R, fun q7 => h _ _ R (by omega) (by omega)⟩⟩⟩)
theorem K_columnOf {P : Int → Mem → Prop} {x1 km rp : Int} (hM : ModL N Λ b) (hR : RI ω σ b) (hk : 0 ≤ σ b 32 ∧ σ b 32 < 480) (hk2 : σ b 32 = km ∧ σ (b + 6) (161 * 3) = rp) (hd : 0 ≤ d) (h : ∀ v σ', RI ω σ' b → 0 ≤ v ∧ v < σ' b 32 ∧ km ≤ σ' b 32 ∧ σ' b 32 ≤ km + 1 → σ' (b + 6) (161 * 3) = rp → P v σ') : CI l mX12_columnOf d [(2, b), (0, x1)] N Λ σ P :=
  c_X12_columnOf (u_X12_columnOf_0 ((lps_columnOf (km := km) (rp := rp) hM hd h 481) 0 σ (by omega) (by omega) (by omega) (by omega) hR))
theorem lps_inverse {P : Int → Mem → Prop} {x0 : Int} (hM : ModL N Λ b) (hR : RI ω σ b) (hd : 0 ≤ d) (h : ∀ v, P v σ) : ∀ m : Nat, (∀ (x2 x4 x6 : Int), x6 ≤ 1000001 → (x6).toNat < m → WL l mX12_inverse d P 10 [(1, x0), (3, 0), (1, x2), (3, 0), (1, x4), (3, 0), (0, x6)] [] N Λ σ) := by
  intro m
  induction m with
  | zero => exact by intros; omega
  | succ m ih =>
    refine ?_
    · intro x2 x4 x6 i0 g
      exact u_X12_inverse_10  (⟨fun q1 => h _, fun q2 => ⟨fun q3 => fun y1 e4 => fun y2 e5 => have n5 : y2 = (x6 / 2) := (by rw [e5]; simp (disch := omega) only [addI_e, subI_e, mulI_e, divI_e, remI_e]); ih x2 y1 y2 (by omega) (by omega), fun q6 => fun y3 e7 => fun y4 e8 => fun y5 e9 => have n9 : y5 = (x6 / 2) := (by rw [e9]; simp (disch := omega) only [addI_e, subI_e, mulI_e, divI_e, remI_e]); ih y3 y4 y5 (by omega) (by omega)⟩⟩)
theorem K_inverse {P : Int → Mem → Prop} {x0 : Int} (hM : ModL N Λ b) (hR : RI ω σ b) (hd : 0 ≤ d) (h : ∀ v, P v σ) : CL l mX12_inverse d [(1, x0)] N Λ σ P :=
  c_X12_inverse (u_X12_inverse_0 ((lps_inverse hM hR hd h 1000002) 1 x0 1000001 (by omega) (by omega)))
theorem lps_swapsRows {P : Mem → Prop} {x1 x2 : Int} (hM : ModL N Λ b) (hx1 : 0 ≤ x1 ∧ x1 < 6) (hx2 : 0 ≤ x2 ∧ x2 < 6) (hd : 0 ≤ d) (h : ∀ σ', RI ω σ' b → σ' b 32 ≤ 480 → P σ') : ∀ m : Nat, (∀ (x3 : Int) (σ : Mem), 0 ≤ x3 → σ b 32 ≤ 480 → (480 - x3).toNat < m → RI ω σ b → WV l mX12_swapsRows d P 2 [(2, b), (0, x1), (0, x2), (0, x3), (3, 0), (3, 0)] [] N Λ σ) := by
  intro m
  induction m with
  | zero => exact by intros; omega
  | succ m ih =>
    refine ?_
    · intro x3 σ i0 i1 g R
      exact u_X12_swapsRows_2 hM.1 (M_fmatrix hM) (⟨fun q1 => h _ R (by omega), fun q2 => ⟨(Ix.of (M_matrix hM) (by first | omega | (simp (disch := omega) only [addI_e, subI_e, mulI_e, divI_e, remI_e]; omega)) (by first | omega | (simp (disch := omega) only [addI_e, subI_e, mulI_e, divI_e, remI_e]; omega))), fun y1 e3 => ⟨(Ix.of (M_matrix hM) (by first | omega | (simp (disch := omega) only [addI_e, subI_e, mulI_e, divI_e, remI_e]; omega)) (by first | omega | (simp (disch := omega) only [addI_e, subI_e, mulI_e, divI_e, remI_e]; omega))), ⟨(Ix.of (M_matrix hM) (by first | omega | (simp (disch := omega) only [addI_e, subI_e, mulI_e, divI_e, remI_e]; omega)) (by first | omega | (simp (disch := omega) only [addI_e, subI_e, mulI_e, divI_e, remI_e]; omega))), fun τ2 e4 => have R_τ2 := R.ax e4 (by omega); have F32_τ2 : τ2 b 32 = σ b 32 := (by rw [e4, st_ne (by omega)]); ⟨(Ix.of (M_matrix hM) (by first | omega | (simp (disch := omega) only [addI_e, subI_e, mulI_e, divI_e, remI_e]; omega)) (by first | omega | (simp (disch := omega) only [addI_e, subI_e, mulI_e, divI_e, remI_e]; omega))), fun τ3 e5 => have R_τ3 := R_τ2.ax e5 (by omega); have F32_τ3 : τ3 b 32 = τ2 b 32 := (by rw [e5, st_ne (by omega)]); fun y4 e6 => by rw [e6, addI_e (by omega) (by omega)]; exact ih (x3 + 1) τ3 (by omega) (by omega) (by omega) R_τ3⟩⟩⟩⟩⟩)
theorem K_swapsRows {P : Mem → Prop} {x1 x2 : Int} (hM : ModL N Λ b) (hR : RI ω σ b) (hx1 : 0 ≤ x1 ∧ x1 < 6) (hx2 : 0 ≤ x2 ∧ x2 < 6) (hk : σ b 32 ≤ 480) (hd : 0 ≤ d) (h : ∀ σ', RI ω σ' b → σ' b 32 ≤ 480 → P σ') : CV l mX12_swapsRows d [(2, b), (0, x1), (0, x2)] N Λ σ P :=
  c_X12_swapsRows (u_X12_swapsRows_0 ((lps_swapsRows hM (by omega) (by omega) hd h 481) 0 σ (by omega) (by omega) (by omega) hR))
theorem lps_clears {P : Mem → Prop} {x1 x2 x3 : Int} (hM : ModL N Λ b) (hx1 : 0 ≤ x1 ∧ x1 < 6) (hx2 : x2 ≤ 6) (hx3 : 0 ≤ x3 ∧ x3 < 480) (hd : 1 ≤ d) (h : ∀ σ', RI ω σ' b → σ' b 32 ≤ 480 → P σ') : ∀ m : Nat, (∀ (x4 x6 : Int) (σ : Mem), 0 ≤ x6 → σ b 32 ≤ 480 → (500 * (6 - x6)).toNat < m → RI ω σ b → WV l mX12_clears d P 22 [(2, b), (0, x1), (0, x2), (0, x3), (1, x4), (3, 0), (0, x6), (3, 0), (3, 0), (3, 0)] [] N Λ σ) ∧ (∀ (x4 x6 x7 x9 : Int) (σ : Mem), 0 ≤ x6 ∧ x6 < 6 → 0 ≤ x9 ∧ x9 ≤ 480 → σ b 32 ≤ 480 → (500 * (5 - x6) + (480 - x9) + 1).toNat < m → RI ω σ b → WV l mX12_clears d P 53 [(2, b), (0, x1), (0, x2), (0, x3), (1, x4), (3, 0), (0, x6), (1, x7), (3, 0), (0, x9)] [] N Λ σ) := by
  intro m
  induction m with
  | zero => exact ⟨by intros; omega, by intros; omega⟩
  | succ m ih =>
    refine ⟨?_, ?_⟩
    · intro x4 x6 σ i0 i1 g R
      exact u_X12_clears_22 hM.1 (M_fmatrix hM) (⟨fun q1 => h _ R (by omega), fun q2 => ⟨(Ix.of (M_matrix hM) (by first | omega | (simp (disch := omega) only [addI_e, subI_e, mulI_e, divI_e, remI_e]; omega)) (by first | omega | (simp (disch := omega) only [addI_e, subI_e, mulI_e, divI_e, remI_e]; omega))), fun y1 e3 => ih.2 x4 x6 y1 0 σ (by omega) (by omega) (by omega) (by omega) R⟩⟩)
    · intro x4 x6 x7 x9 σ i0 i1 i2 g R
      exact u_X12_clears_53 hM.1 (M_fmatrix hM) (by omega) (⟨fun q1 => fun y1 e2 => by rw [e2, addI_e (by omega) (by omega)]; exact ih.1 x4 (x6 + 1) σ (by omega) (by omega) (by omega) R, fun q3 => ⟨(Ix.of (M_matrix hM) (by first | omega | (simp (disch := omega) only [addI_e, subI_e, mulI_e, divI_e, remI_e]; omega)) (by first | omega | (simp (disch := omega) only [addI_e, subI_e, mulI_e, divI_e, remI_e]; omega))), ⟨(Ix.of (M_matrix hM) (by first | omega | (simp (disch := omega) only [addI_e, subI_e, mulI_e, divI_e, remI_e]; omega)) (by first | omega | (simp (disch := omega) only [addI_e, subI_e, mulI_e, divI_e, remI_e]; omega))), K_modulo fun v3 => ⟨(Ix.of (M_matrix hM) (by first | omega | (simp (disch := omega) only [addI_e, subI_e, mulI_e, divI_e, remI_e]; omega)) (by first | omega | (simp (disch := omega) only [addI_e, subI_e, mulI_e, divI_e, remI_e]; omega))), fun τ4 e5 => have R_τ4 := R.ax e5 (by omega); have F32_τ4 : τ4 b 32 = σ b 32 := (by rw [e5, st_ne (by omega)]); fun y5 e6 => by rw [e6, addI_e (by omega) (by omega)]; exact ih.2 x4 x6 x7 (x9 + 1) τ4 (by omega) (by omega) (by omega) (by omega) R_τ4⟩⟩⟩⟩)
theorem K_clears {P : Mem → Prop} {x1 x2 x3 : Int} (hM : ModL N Λ b) (hR : RI ω σ b) (hx1 : 0 ≤ x1 ∧ x1 < 6) (hx2 : x2 ≤ 6) (hx3 : 0 ≤ x3 ∧ x3 < 480) (hk : σ b 32 ≤ 480) (hd : 1 ≤ d) (h : ∀ σ', RI ω σ' b → σ' b 32 ≤ 480 → P σ') : CV l mX12_clears d [(2, b), (0, x1), (0, x2), (0, x3)] N Λ σ P :=
  c_X12_clears (u_X12_clears_0 hM.1 (M_fmatrix hM) (by omega) (⟨(Ix.of (M_matrix hM) (by first | omega | (simp (disch := omega) only [addI_e, subI_e, mulI_e, divI_e, remI_e]; omega)) (by first | omega | (simp (disch := omega) only [addI_e, subI_e, mulI_e, divI_e, remI_e]; omega))), K_inverse hM hR (by omega) fun v2 => fun y3 e2 => have n2 : y3 = (x1 + 1) := (by rw [e2]; simp (disch := omega) only [addI_e, subI_e, mulI_e, divI_e, remI_e]); (lps_clears hM (by omega) (by omega) (by omega) hd h 3001).1 v2 y3 σ (by omega) (by omega) (by omega) hR⟩))
theorem K_sIk {P : Int → Mem → Prop} {x1 x2 : Int} (hM : ModL N Λ b) (hR : RI ω σ b) (hx1 : 0 ≤ x1 ∧ x1 < 6) (hx2 : 0 ≤ x2 ∧ x2 < 196) (hd : 6 ≤ d) (h : ∀ v σ', RI ω σ' b → σ' b 32 = σ b 32 → P v σ') : CI l mX12_straightInto d [(2, b), (0, x1), (0, x2)] N Λ σ P :=
  c_X12_straightInto (u_X12_straightInto_0 hM.1 (by omega) (K_takes hM hR (by omega) (by omega) (by omega) fun σ1 R1 F1 => R_str hM R1 (by omega) (by omega) fun v3 σ2 R2 F2 => fun τ4 e3 => fun τ5 e4 => have R5 := (R2.fo e3 (by decide)).fo e4 (by decide); have F5 : τ5 b 32 = σ b 32 := (by rw [e4, st_nj (by decide), e3, st_nj (by decide), F2.1 _ (by decide), F1.1 _ (by decide)]); ⟨fun q5 => K_codeOf fun v7 zz6 => h _ _ R5 F5, fun q7 => h _ _ R5 F5⟩))
theorem lps_rank {P : Int → Mem → Prop} {x1 : Int} (hM : ModL N Λ b) (hd : 7 ≤ d) (h : ∀ v σ', RI ω σ' b → P v σ') : ∀ m : Nat, (∀ (x2 x3 : Int) (σ : Mem), 0 ≤ x3 ∧ x3 ≤ 2880 → x2 = 0 → σ b 32 = 0 → (20000 + (2880 - x3)).toNat < m → RI ω σ b → WI l mX12_rank d P 42 [(2, b), (0, x1), (0, x2), (0, x3), (3, 0), (3, 0)] [] N Λ σ) ∧ (∀ (x2 x3 : Int) (σ : Mem), 0 ≤ x2 → x2 ≤ x3 ∧ x3 ≤ 6 → 0 ≤ σ b 32 ∧ σ b 32 ≤ 80 * x2 → (10000 + 200 * (6 - x3)).toNat < m → RI ω σ b → WI l mX12_rank d P 64 [(2, b), (0, x1), (0, x2), (0, x3), (3, 0), (3, 0)] [] N Λ σ) ∧ (∀ (x2 x3 x4 x5 : Int) (σ : Mem), 0 ≤ x2 → x2 ≤ x3 ∧ x3 ≤ 5 → 0 ≤ x5 ∧ x5 ≤ 80 → 0 ≤ σ b 32 ∧ σ b 32 ≤ 80 * x2 + x5 → (10000 + 200 * (5 - x3) + (80 - x5) + 100).toNat < m → RI ω σ b → WI l mX12_rank d P 100 [(2, b), (0, x1), (0, x2), (0, x3), (0, x4), (0, x5)] [] N Λ σ) ∧ (∀ (x2 x3 x4 : Int) (σ : Mem), 0 ≤ x3 ∧ x3 ≤ x2 ∧ x2 ≤ 6 → 0 ≤ x4 ∧ x4 ≤ 480 → σ b 32 ≤ 480 → (10 * (481 - x4)).toNat < m → RI ω σ b → WI l mX12_rank d P 163 [(2, b), (0, x1), (0, x2), (0, x3), (0, x4), (3, 0)] [] N Λ σ) ∧ (∀ (x2 x3 x4 x5 : Int) (σ : Mem), 0 ≤ x3 ∧ x3 < x2 ∧ x2 ≤ 6 → x3 ≤ x5 ∧ x5 ≤ x2 → 0 ≤ x4 ∧ x4 < σ b 32 → σ b 32 ≤ 480 → (10 * (480 - x4) + (6 - x5) + 1).toNat < m → RI ω σ b → WI l mX12_rank d P 180 [(2, b), (0, x1), (0, x2), (0, x3), (0, x4), (0, x5)] [] N Λ σ) := by
  intro m
  induction m with
  | zero => exact ⟨by intros; omega, by intros; omega, by intros; omega, by intros; omega, by intros; omega⟩
  | succ m ih =>
    refine ⟨?_, ?_, ?_, ?_, ?_⟩
    · intro x2 x3 σ i0 i1 i2 g R
      exact u_X12_rank_42 hM.1 (M_fmatrix hM) (⟨fun q1 => ih.2.1 x2 0 σ (by omega) (by omega) (by omega) (by omega) R, fun q2 => ⟨(Ix.of (M_matrix hM) (by omega) (by omega)), fun τ1 e3 => have R_τ1 := R.ax e3 (by omega); have F32_τ1 : τ1 b 32 = σ b 32 := (by rw [e3, st_ne (by omega)]); have Gp_τ1 : τ1 (b + 6) (161 * 3) = σ (b + 6) (161 * 3) := (by rw [e3, st_ne (by omega)]); fun y2 e4 => by rw [e4, addI_e (by omega) (by omega)]; exact ih.1 x2 (x3 + 1) τ1 (by omega) (by omega) (by omega) (by omega) R_τ1⟩⟩)
    · intro x2 x3 σ i0 i1 i2 g R
      exact u_X12_rank_64 hM.1 (by omega) (⟨fun q1 => ih.2.2.2.1 x2 0 0 σ (by omega) (by omega) (by omega) (by omega) R, fun q2 => ⟨fun q3 => K_sIk hM R (by omega) (by omega) (by omega) fun v2 σ1 R_σ1 ff4 => ⟨fun q5 => ih.2.2.1 x2 x3 v2 0 σ1 (by omega) (by omega) (by omega) (by omega) (by omega) R_σ1, fun q6 => h _ _ R_σ1⟩, fun q7 => fun y3 e8 => by rw [e8, addI_e (by omega) (by omega)]; exact ih.2.1 x2 (x3 + 1) σ (by omega) (by omega) (by omega) (by omega) R⟩⟩)
    · intro x2 x3 x4 x5 σ i0 i1 i2 i3 g R
      exact u_X12_rank_100 hM.1 (M_fmatrix hM) (by omega) (K_many hM R (by omega) fun v2 ee1 bb1 => ⟨fun q2 => fun y3 e3 => have n3 : y3 = (x2 + 1) := (by rw [e3]; simp (disch := omega) only [addI_e, subI_e, mulI_e, divI_e, remI_e]); fun y4 e4 => by rw [e4, addI_e (by omega) (by omega)]; exact ih.2.1 y3 (x3 + 1) σ (by omega) (by omega) (by omega) (by omega) R, fun q5 => K_key hM R (by omega) (by omega) fun v6 kk6 => K_columnOf (km := σ b 32) (rp := σ (b + 6) (161 * 3)) hM R (by omega) ⟨rfl, rfl⟩ (by omega) fun v8 σ7 R_σ7 ff7 pp7 => K_number hM R_σ7 (by omega) (by omega) fun v10 zz8 => K_modulo fun v12 => ⟨(Ix.of (M_matrix hM) (by first | omega | (simp (disch := omega) only [addI_e, subI_e, mulI_e, divI_e, remI_e]; omega)) (by first | omega | (simp (disch := omega) only [addI_e, subI_e, mulI_e, divI_e, remI_e]; omega))), fun τ13 e10 => have R_τ13 := R_σ7.ax e10 (by omega); have F32_τ13 : τ13 b 32 = σ7 b 32 := (by rw [e10, st_ne (by omega)]); have Gp_τ13 : τ13 (b + 6) (161 * 3) = σ7 (b + 6) (161 * 3) := (by rw [e10, st_ne (by omega)]); fun y14 e11 => by rw [e11, addI_e (by omega) (by omega)]; exact ih.2.2.1 x2 x3 x4 (x5 + 1) τ13 (by omega) (by omega) (by omega) (by omega) (by omega) R_τ13⟩⟩)
    · intro x2 x3 x4 σ i0 i1 i2 g R
      exact u_X12_rank_163 hM.1 (⟨fun q1 => h _ _ R, fun q2 => ⟨fun q3 => h _ _ R, fun q4 => ih.2.2.2.2 x2 x3 x4 x3 σ (by omega) (by omega) (by omega) (by omega) (by omega) R⟩⟩)
    · intro x2 x3 x4 x5 σ i0 i1 i2 i3 g R
      exact u_X12_rank_180 hM.1 (M_fmatrix hM) (by omega) (⟨fun q1 => ⟨fun q2 => K_swapsRows hM R (by omega) (by omega) (by omega) (by omega) fun σ1 R_σ1 ff3 => K_clears hM R_σ1 (by omega) (by omega) (by omega) (by omega) (by omega) fun σ2 R_σ2 ff4 => fun y3 e5 => have n5 : y3 = (x3 + 1) := (by rw [e5]; simp (disch := omega) only [addI_e, subI_e, mulI_e, divI_e, remI_e]); fun y4 e6 => by rw [e6, addI_e (by omega) (by omega)]; exact ih.2.2.2.1 x2 y3 (x4 + 1) σ2 (by omega) (by omega) (by omega) (by omega) R_σ2, fun q7 => fun y5 e8 => by rw [e8, addI_e (by omega) (by omega)]; exact ih.2.2.2.1 x2 x3 (x4 + 1) σ (by omega) (by omega) (by omega) (by omega) R⟩, fun q9 => ⟨(Ix.of (M_matrix hM) (by first | omega | (simp (disch := omega) only [addI_e, subI_e, mulI_e, divI_e, remI_e]; omega)) (by first | omega | (simp (disch := omega) only [addI_e, subI_e, mulI_e, divI_e, remI_e]; omega))), ⟨fun qq => have q10 := ce_n qq; ⟨fun q11 => K_swapsRows hM R (by omega) (by omega) (by omega) (by omega) fun σ6 R_σ6 ff12 => K_clears hM R_σ6 (by omega) (by omega) (by omega) (by omega) (by omega) fun σ7 R_σ7 ff13 => fun y8 e14 => have n14 : y8 = (x3 + 1) := (by rw [e14]; simp (disch := omega) only [addI_e, subI_e, mulI_e, divI_e, remI_e]); fun y9 e15 => by rw [e15, addI_e (by omega) (by omega)]; exact ih.2.2.2.1 x2 y8 (x4 + 1) σ7 (by omega) (by omega) (by omega) (by omega) R_σ7, fun q16 => fun y10 e17 => by rw [e17, addI_e (by omega) (by omega)]; exact ih.2.2.2.1 x2 x3 (x4 + 1) σ (by omega) (by omega) (by omega) (by omega) R⟩, fun qq => have q18 := ce_p qq; fun y11 e19 => by rw [e19, addI_e (by omega) (by omega)]; exact ih.2.2.2.2 x2 x3 x4 (x5 + 1) σ (by omega) (by omega) (by omega) (by omega) (by omega) R⟩⟩⟩)
theorem K_rank {P : Int → Mem → Prop} {x1 : Int} (hM : ModL N Λ b) (hR : RI ω σ b) (hd : 7 ≤ d) (h : ∀ v σ', RI ω σ' b → P v σ') : CI l mX12_rank d [(2, b), (0, x1)] N Λ σ P :=
  c_X12_rank (u_X12_rank_0 hM.1 (by omega) (fun τ1 e1 => have R_τ1 := hR.fo e1 (by decide); have F32_τ1 : τ1 b 32 = σ b 32 := (by rw [e1, st_nj (by decide)]); have Gp_τ1 : τ1 (b + 6) (161 * 3) = σ (b + 6) (161 * 3) := (by rw [e1, st_ne (by omega)]); ⟨fun qq => have q2 := cl_p qq; K_refused hM R_τ1 fun σ2 R_σ2 => h _ _ R_σ2, fun qq => have q4 := cl_n qq; ⟨fun qq => have q5 := cg_p qq; K_refused hM R_τ1 fun σ4 R_σ4 => h _ _ R_σ4, fun qq => have q7 := cg_n qq; K_begins hM R_τ1 (by omega) fun σ6 R_σ6 _ zz8 => fun τ7 e9 => have R_τ7 := R_σ6.fo e9 (by decide); have F32_τ7 : τ7 b 32 = σ6 b 32 := (by rw [e9, st_nj (by decide)]); have Gp_τ7 : τ7 (b + 6) (161 * 3) = σ6 (b + 6) (161 * 3) := (by rw [e9, st_ne (by omega)]); fun τ8 e10 => have R_τ8 := R_τ7.fo e10 (by decide); have F32_τ8 : τ8 b 32 = 0 := (by rw [e10, st_eq]); have Gp_τ8 : τ8 (b + 6) (161 * 3) = τ7 (b + 6) (161 * 3) := (by rw [e10, st_ne (by omega)]); (lps_rank hM hd h 30000).1 0 0 τ8 (by omega) (by omega) (by omega) (by omega) R_τ8⟩⟩))
end KF
