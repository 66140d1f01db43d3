/-! the class's brackets as numbers: with, attach; known, fact, worth, bracket on a new object -/
theorem shlL_n {a : Nat} (y : Int) (k : Nat) (hy : (((Int32.ofInt y).toInt64 &&& 63).toBitVec.smod 64).toNat = k) (h : a * 2 ^ k < 2 ^ 63) : shlL (a : Int) y = ((a * 2 ^ k : Nat) : Int) := by
  unfold shlL
  refine i64_back ?_ h
  show ((Int64.ofInt (a : Int)).toBitVec <<< (((Int32.ofInt y).toInt64 &&& 63).toBitVec.smod 64).toNat).toNat = _
  have ha : a < 2 ^ 64 := Nat.lt_of_le_of_lt (Nat.le_mul_of_pos_right a (Nat.two_pow_pos k)) (Nat.lt_trans h (by decide))
  rw [hy, BitVec.toNat_shiftLeft, Nat.shiftLeft_eq, i64_nat ha, Nat.mod_eq_of_lt (Nat.lt_trans h (by decide))]
theorem ushrL_n {a : Nat} (y : Int) (k : Nat) (hy : (((Int32.ofInt y).toInt64.toUInt64 &&& Int64.toUInt64 63).toBitVec % 64).toNat = k) (h : a < 2 ^ 63) : ushrL (a : Int) y = ((a / 2 ^ k : Nat) : Int) := by
  unfold ushrL
  refine i64_back ?_ (Nat.lt_of_le_of_lt (Nat.div_le_self _ _) h)
  have e : (((Int64.ofInt (a : Int)).toUInt64 >>> ((Int32.ofInt y).toInt64.toUInt64 &&& Int64.toUInt64 63)).toInt64).toBitVec = (Int64.ofInt (a : Int)).toBitVec >>> k := by
    rw [← hy]
    exact UInt64.toBitVec_shiftRight _ _
  rw [e, BitVec.toNat_ushiftRight, i64_nat (Nat.lt_trans h (by decide)), Nat.shiftRight_eq_div_pow]
theorem andL_n {a : Nat} {m : Int} (k : Nat) (hm : (Int64.ofInt m).toBitVec.toNat = 2 ^ k - 1) (h : a < 2 ^ 63) : andL (a : Int) m = ((a % 2 ^ k : Nat) : Int) := by
  unfold andL
  refine i64_back ?_ (Nat.lt_of_le_of_lt (Nat.mod_le _ _) h)
  rw [Int64.toBitVec_and, BitVec.toNat_and, hm, i64_nat (Nat.lt_trans h (by decide)), Nat.and_two_pow_sub_one_eq_mod]
theorem t3_b {z : Int} (h : 0 ≤ z ∧ z < 10) : 0 ≤ divI (mulI (mulI z (subI z 1)) (subI z 2)) 6 ∧ divI (mulI (mulI z (subI z 1)) (subI z 2)) 6 ≤ 84 := by
  have c : z = 0 ∨ z = 1 ∨ z = 2 ∨ z = 3 ∨ z = 4 ∨ z = 5 ∨ z = 6 ∨ z = 7 ∨ z = 8 ∨ z = 9 := by omega
  clear h
  rcases c with rfl | rfl | rfl | rfl | rfl | rfl | rfl | rfl | rfl | rfl <;> decide
theorem t2_b {y : Int} (h : 0 ≤ y ∧ y < 9) : 0 ≤ divI (mulI y (subI y 1)) 2 ∧ divI (mulI y (subI y 1)) 2 ≤ 28 := by
  have c : y = 0 ∨ y = 1 ∨ y = 2 ∨ y = 3 ∨ y = 4 ∨ y = 5 ∨ y = 6 ∨ y = 7 ∨ y = 8 := by omega
  clear h
  rcases c with rfl | rfl | rfl | rfl | rfl | rfl | rfl | rfl | rfl <;> decide
theorem ix_b {x y z : Int} (h0 : 0 ≤ x) (h1 : x < y) (h2 : y < z) (h3 : z < 10) : 0 ≤ addI (addI (divI (mulI (mulI z (subI z 1)) (subI z 2)) 6) (divI (mulI y (subI y 1)) 2)) x ∧ addI (addI (divI (mulI (mulI z (subI z 1)) (subI z 2)) 6) (divI (mulI y (subI y 1)) 2)) x < 120 := by
  have a := t3_b (z := z) (by omega)
  have b := t2_b (y := y) (by omega)
  generalize divI (mulI (mulI z (subI z 1)) (subI z 2)) 6 = p at a
  generalize divI (mulI y (subI y 1)) 2 = q at b
  rw [addI_e (x := p) (y := q) (by omega) (by omega), addI_e (x := p + q) (y := x) (by omega) (by omega)]
  omega
theorem let_e {x y z : Int} (hx : 0 ≤ x ∧ x < 16) (hy : 0 ≤ y ∧ y < 16) (hz : 0 ≤ z ∧ z < 16) : andI (shrI (256 * x + 16 * y + z) (mulI 4 (subI 2 0))) 15 = x ∧ andI (shrI (256 * x + 16 * y + z) (mulI 4 (subI 2 1))) 15 = y ∧ andI (shrI (256 * x + 16 * y + z) (mulI 4 (subI 2 2))) 15 = z := by
  have e := sh8_e hx hy hz
  have hr : R32 (256 * x + 16 * y + z) := ⟨by omega, by omega⟩
  rw [show mulI 4 (subI 2 0) = 8 by decide, show mulI 4 (subI 2 1) = 4 by decide, show mulI 4 (subI 2 2) = 0 by decide]
  refine ⟨e.1, e.2.1, ?_⟩
  rw [shrI_e hr (by decide) (by decide)]
  show andI ((256 * x + 16 * y + z) / 2 ^ 0) 15 = z
  rw [show (256 * x + 16 * y + z) / 2 ^ 0 = 256 * x + 16 * y + z from Int.ediv_one _]
  exact e.2.2
/-- the code of a rank: its place among the facts -/
theorem brc_ix {r v : Int} (h0 : 1 ≤ r) (h1 : r ≤ 120) (ev : v = brc r) {y5 y6 y7 : Int} (e5 : y5 = andI (shrI v (mulI 4 (subI 2 0))) 15) (e6 : y6 = andI (shrI v (mulI 4 (subI 2 1))) 15) (e7 : y7 = andI (shrI v (mulI 4 (subI 2 2))) 15) : 0 ≤ addI (addI (divI (mulI (mulI y7 (subI y7 1)) (subI y7 2)) 6) (divI (mulI y6 (subI y6 1)) 2)) y5 ∧ addI (addI (divI (mulI (mulI y7 (subI y7 1)) (subI y7 2)) 6) (divI (mulI y6 (subI y6 1)) 2)) y5 < 120 := by
  obtain ⟨x, y, z, g0, g1, g2, g3, eb⟩ := brc_b h0 h1
  have q := let_e (x := x) (y := y) (z := z) (by omega) (by omega) (by omega)
  rw [ev, eb] at e5 e6 e7
  rw [q.1] at e5
  rw [q.2.1] at e6
  rw [q.2.2] at e7
  subst e5 e6 e7
  exact ix_b g0 g1 g2 g3
theorem rk_or {a b c : Int} (ha : 0 ≤ a ∧ a < 10) (hb : 0 ≤ b ∧ b < 10) (hc : 0 ≤ c ∧ c < 10) : Rk a b c = 0 ∨ (∃ r, 1 ≤ r ∧ r ≤ 120 ∧ Rk a b c = r) ∨ ∃ r, 1 ≤ r ∧ r ≤ 120 ∧ Rk a b c = -r :=
  rk_case (fun u => u = 0 ∨ (∃ r, 1 ≤ r ∧ r ≤ 120 ∧ u = r) ∨ ∃ r, 1 ≤ r ∧ r ≤ 120 ∧ u = -r) ha hb hc (fun _ => Or.inl rfl) (fun r h1 h2 => Or.inr (Or.inl ⟨r, h1, h2, rfl⟩)) (fun r h1 h2 => Or.inr (Or.inr ⟨r, h1, h2, rfl⟩))
def sg (r : Int) : Int := if r = 0 then 0 else if 0 < r then 1 else -1
def ab (r : Int) : Int := if 0 ≤ r then r else -r
theorem sg_0 : sg 0 = 0 := rfl
theorem sg_p {r : Int} (h : 1 ≤ r) : sg r = 1 := by unfold sg; rw [if_neg (by omega), if_pos (by omega)]
theorem sg_n {r : Int} (h : 1 ≤ r) : sg (-r) = -1 := by unfold sg; rw [if_neg (by omega), if_neg (by omega)]
theorem ab_p {r : Int} (h : 0 ≤ r) : ab r = r := if_pos h
theorem ab_n {r : Int} (h : 1 ≤ r) : ab (-r) = r := by unfold ab; rw [if_neg (by omega), Int.neg_neg]
def ck2 (u v : Int) : Int := if u ≤ v then 68719476736 * u + 16777216 * v else 68719476736 * v + 16777216 * u
section CL5
variable {l : Launch} {d N : Nat} {Λ : Lay} {σ : Mem} {t : Int}
theorem k_with0 {P : Int → Mem → Prop} {v : Int} (hv : 1 ≤ v ∧ v < 4096) (h : P (68719476736 * v) σ) : CL l mX6_with d [(1, 0), (0, v)] N Λ σ P := by
  refine c_X6_with (v_X6_with_0 (v_X6_with_3 ⟨fun hc => absurd hc (by decide), fun _ y1 e1 => ?_⟩))
  rw [show y1 = 0 from e1.trans (by decide)]
  refine ⟨fun _ y2 e2 => ?_, fun hc => absurd rfl hc⟩
  rw [show y2 = 0 from e2.trans (by decide), show subL 0 0 = 0 by decide, show ushrL 0 12 = 0 by decide]
  obtain ⟨a, rfl⟩ := Int.eq_ofNat_of_zero_le (show 0 ≤ v by omega)
  have e : shlL (a : Int) 36 = 68719476736 * (a : Int) := by
    rw [shlL_n 36 36 (by decide) (by omega)]
    omega
  rw [e, orL_0 ⟨by omega, by omega⟩, orL_z ⟨by omega, by omega⟩]
  exact h
theorem k_with1 {P : Int → Mem → Prop} {u v : Int} (hu : 1 ≤ u ∧ u < 4096) (hv : 1 ≤ v ∧ v < 4096) (h : P (ck2 u v) σ) : CL l mX6_with d [(1, 68719476736 * u), (0, v)] N Λ σ P := by
  obtain ⟨a, rfl⟩ := Int.eq_ofNat_of_zero_le (show 0 ≤ u by omega)
  obtain ⟨c, rfl⟩ := Int.eq_ofNat_of_zero_le (show 0 ≤ v by omega)
  have ex : 68719476736 * (a : Int) = ((a * 2 ^ 36 : Nat) : Int) := by omega
  refine c_X6_with (v_X6_with_0 (v_X6_with_3 ⟨fun hc => absurd hc (by decide), fun _ y1 e1 => ?_⟩))
  have q1 : y1 = a := by
    rw [e1, ex, ushrL_n 36 36 (by decide) (by omega), Nat.mul_div_cancel _ (by decide), l2iI_e (by omega) (by omega), andI_4095 ⟨by omega, by omega⟩]
    omega
  clear e1
  subst q1
  refine ⟨fun hc => absurd hc (by omega), fun _ => ⟨fun hle y3 e3 => ?_, fun hgt y4 e4 => ?_⟩⟩
  · rw [show y3 = 24 from e3.trans (by decide)]
    refine v_X6_with_3 ⟨fun hc => absurd hc (by decide), fun _ y1 e1 => ?_⟩
    have q1 : y1 = 0 := by
      rw [e1, ex, ushrL_n 24 24 (by decide) (by omega), show a * 2 ^ 36 / 2 ^ 24 = a * 4096 by omega, l2iI_e (by omega) (by omega), andI_4095 ⟨by omega, by omega⟩]
      omega
    clear e1
    subst q1
    refine ⟨fun _ y2 e2 => ?_, fun hc => absurd rfl hc⟩
    have q2 : y2 = 0 := by
      rw [e2, ex, andL_n 36 (by decide) (by omega)]
      omega
    clear e2
    subst q2
    have q4 : shlL (c : Int) 24 = ((c * 2 ^ 24 : Nat) : Int) := shlL_n 24 24 (by decide) (by omega)
    rw [show ushrL 0 12 = 0 by decide, ex, subL_e (by omega) (by omega), Int.sub_zero, q4, orL_n 36 (by omega) (by omega), orL_z ⟨by omega, by omega⟩]
    unfold ck2 at h
    rw [if_pos hle] at h
    rw [show ((a * 2 ^ 36 + c * 2 ^ 24 : Nat) : Int) = 68719476736 * (a : Int) + 16777216 * (c : Int) by omega]
    exact h
  · have q2 : y4 = ((a * 2 ^ 36 : Nat) : Int) := by
      rw [e4, ex, andL_n 48 (by decide) (by omega)]
      omega
    clear e4
    subst q2
    have q4 : shlL (c : Int) 36 = ((c * 2 ^ 36 : Nat) : Int) := shlL_n 36 36 (by decide) (by omega)
    rw [ex, subL_e (by omega) (by omega), Int.sub_self, q4, orL_0 ⟨by omega, by omega⟩, ushrL_n 12 12 (by decide) (by omega), show a * 2 ^ 36 / 2 ^ 12 = a * 2 ^ 24 by omega, orL_n 36 (by omega) (by omega)]
    unfold ck2 at h
    rw [if_neg hgt] at h
    rw [show ((c * 2 ^ 36 + a * 2 ^ 24 : Nat) : Int) = 68719476736 * (c : Int) + 16777216 * (a : Int) by omega]
    exact h
/-- the first bracket of a term -/
theorem k_attA {P : Mem → Prop} {c x y z : Int} (o : Ob N Λ c 19 2) (hd : 1 ≤ d) (hx : 0 ≤ x ∧ x < 10) (hy : 0 ≤ y ∧ y < 10) (hz : 0 ≤ z ∧ z < 10) (h0 : σ c 0 = 0) (h1 : σ c 1 = 1)
    (h : ∀ σ', (∀ c', c' ≠ c → σ' c' = σ c') → σ' c 1 = sg (Rk x y z) → (Rk x y z = 0 → σ' c 0 = 0) → (¬ Rk x y z = 0 → σ' c 0 = 68719476736 * brc (ab (Rk x y z))) → P σ') : CV l mX10_attach d [(2, c), (0, 256 * x + 16 * y + z)] N Λ σ P := by
  refine c_X10_attach (v_X10_attach_0 o hd (k_ord2 hx hy hz ?_))
  rw [h0]
  rcases rk_or hx hy hz with er | ⟨r, r1, r2, er⟩ | ⟨r, r1, r2, er⟩
  all_goals rw [er] at h ⊢
  · rw [brS_0]
    refine ⟨fun hc => absurd rfl hc, fun _ τ e => h τ (fun c' g => by rw [e, st_ne g]) (by rw [e, st_eq]; rfl) (fun _ => by rw [e, st_nj (by decide)]; exact h0) (fun hc => absurd rfl hc)⟩
  · have b := brc_r r1 r2
    rw [brS_p r1]
    refine ⟨fun _ => ⟨fun _ => k_with0 b fun τ5 e5 => ⟨fun _ τ6 e6 => ?_, fun hc => absurd (by omega) hc⟩, fun hc => absurd (by omega) hc⟩, fun hc => absurd hc (by omega)⟩
    refine h τ6 (fun c' g => by rw [e6, st_ne g, e5, st_ne g]) ?_ (fun hc => absurd hc (by omega)) (fun _ => ?_)
    · rw [e6, st_eq, e5, st_nj (by decide), h1, sg_p r1]
    · rw [e6, st_nj (by decide), e5, st_eq, ab_p (by omega)]
  · have b := brc_r r1 r2
    rw [brS_n r1]
    refine ⟨fun _ => ⟨fun hc => absurd hc (by omega), fun _ => ?_⟩, fun hc => absurd hc (by omega)⟩
    rw [negI_e (by omega) (by omega), Int.neg_neg]
    refine k_with0 b fun τ5 e5 => ⟨fun hc => absurd hc (by omega), fun _ τ6 e6 => ?_⟩
    refine h τ6 (fun c' g => by rw [e6, st_ne g, e5, st_ne g]) ?_ (fun hc => absurd hc (by omega)) (fun _ => ?_)
    · rw [e6, st_eq, e5, st_nj (by decide), h1, sg_n r1]; decide
    · rw [e6, st_nj (by decide), e5, st_eq, ab_n r1]
/-- the second one -/
theorem k_attB {P : Mem → Prop} {c x y z u s : Int} (o : Ob N Λ c 19 2) (hd : 1 ≤ d) (hx : 0 ≤ x ∧ x < 10) (hy : 0 ≤ y ∧ y < 10) (hz : 0 ≤ z ∧ z < 10) (hs : s = 0 ∨ s = 1 ∨ s = -1) (h00 : s = 0 → σ c 0 = 0) (hu : ¬ s = 0 → 1 ≤ u ∧ u < 4096) (h0 : ¬ s = 0 → σ c 0 = 68719476736 * u) (h1 : σ c 1 = s)
    (h : ∀ σ', (∀ c', c' ≠ c → σ' c' = σ c') → σ' c 1 = s * sg (Rk x y z) → (¬ s = 0 → ¬ Rk x y z = 0 → σ' c 0 = ck2 u (brc (ab (Rk x y z)))) → P σ') : CV l mX10_attach d [(2, c), (0, 256 * x + 16 * y + z)] N Λ σ P := by
  refine c_X10_attach (v_X10_attach_0 o hd (k_ord2 hx hy hz ?_))
  have kw : ∀ {Q : Int → Mem → Prop} {v : Int}, (1 ≤ v ∧ v < 4096) → (∀ w, (¬ s = 0 → w = ck2 u v) → Q w σ) → CL l mX6_with (d - 1) [(1, σ c 0), (0, v)] N Λ σ Q := by
    intro Q v hv hq
    by_cases s0 : s = 0
    · rw [h00 s0]
      exact k_with0 hv (hq _ fun hc => absurd s0 hc)
    · rw [h0 s0]
      exact k_with1 (hu s0) hv (hq _ fun _ => rfl)
  rcases rk_or hx hy hz with er | ⟨r, r1, r2, er⟩ | ⟨r, r1, r2, er⟩
  all_goals rw [er] at h ⊢
  · rw [brS_0]
    refine ⟨fun hc => absurd rfl hc, fun _ τ e => h τ (fun c' g => by rw [e, st_ne g]) (by rw [e, st_eq, sg_0, Int.mul_zero]) (fun _ hc => absurd rfl hc)⟩
  · have b := brc_r r1 r2
    rw [brS_p r1]
    refine ⟨fun _ => ⟨fun _ => kw b fun w hw τ5 e5 => ⟨fun _ τ6 e6 => ?_, fun hc => absurd (by omega) hc⟩, fun hc => absurd (by omega) hc⟩, fun hc => absurd hc (by omega)⟩
    refine h τ6 (fun c' g => by rw [e6, st_ne g, e5, st_ne g]) ?_ (fun s0 _ => ?_)
    · rw [e6, st_eq, e5, st_nj (by decide), h1, sg_p r1, Int.mul_one]
    · rw [e6, st_nj (by decide), e5, st_eq, ab_p (by omega)]; exact hw s0
  · have b := brc_r r1 r2
    rw [brS_n r1]
    refine ⟨fun _ => ⟨fun hc => absurd hc (by omega), fun _ => ?_⟩, fun hc => absurd hc (by omega)⟩
    rw [negI_e (by omega) (by omega), Int.neg_neg]
    refine kw b fun w hw τ5 e5 => ⟨fun hc => absurd hc (by omega), fun _ τ6 e6 => ?_⟩
    refine h τ6 (fun c' g => by rw [e6, st_ne g, e5, st_ne g]) ?_ (fun s0 _ => ?_)
    · rw [e6, st_eq, e5, st_nj (by decide), h1, sg_n r1, negI_e (by omega) (by omega)]; omega
    · rw [e6, st_nj (by decide), e5, st_eq, ab_n r1]; exact hw s0
theorem k_are {P : Int → Mem → Prop} {a c e : Int} (hd : 1 ≤ d) (h1 : ((0 ≤ a ∧ a < 10) ∧ (0 ≤ c ∧ c < 10) ∧ 0 ≤ e ∧ e < 10) → P 1 σ) (h0 : ¬ ((0 ≤ a ∧ a < 10) ∧ (0 ≤ c ∧ c < 10) ∧ 0 ≤ e ∧ e < 10) → P 0 σ) : CI l mX11_areLetters d [(0, a), (0, c), (0, e)] N Λ σ P := by
  refine c_X11_areLetters (v_X11_areLetters_0 hd ?_)
  by_cases g : (0 ≤ a ∧ a < 10) ∧ (0 ≤ c ∧ c < 10) ∧ 0 ≤ e ∧ e < 10
  · have := h1 g
    clear h1 h0
    exact ⟨fun q => absurd q (by omega), fun _ => ⟨fun q => absurd q (by omega), fun _ => ⟨fun q => absurd q (by omega), fun _ => ⟨fun q => absurd q (by omega), fun _ => ⟨fun q => absurd q (by omega), fun _ => ⟨fun q => absurd q (by omega), fun _ => this⟩⟩⟩⟩⟩⟩
  · have := h0 g
    clear h1 h0
    exact ⟨fun _ => this, fun q1 => ⟨fun _ => this, fun q2 => ⟨fun _ => this, fun q3 => ⟨fun _ => this, fun q4 => ⟨fun _ => this, fun q5 => ⟨fun _ => this, fun q6 => absurd (by omega) g⟩⟩⟩⟩⟩⟩
theorem kd_worth {P : Int → Mem → Prop} {a c e : Int} (hL : DeskL N Λ t) (h0 : Desk0 σ t) (hd : 2 ≤ d) (h : ∀ σ', FrD σ σ' t → P (an_worth a c e) σ') : CI l mX11_worth d [(2, t), (0, a), (0, c), (0, e)] N Λ σ P := by
  obtain ⟨o, hR, hS, -⟩ := id hL
  have K := h σ FrD.rf
  unfold an_worth at K
  refine c_X11_worth (v_X11_worth_0 o hR.1 hS.1 (by omega) (k_are (by omega) (fun g => ⟨fun hc => absurd hc (by decide), fun _ => ?_⟩) (fun g => ⟨fun _ => ?_, fun hc => absurd rfl hc⟩)))
  · rw [if_pos g] at K
    exact k_det0 hS h0.1.2.1 g.1 g.2.1 g.2.2 K
  · rw [if_neg g] at K
    exact K
theorem kd_known {P : Int → Mem → Prop} {a c e : Int} (hL : DeskL N Λ t) (h0 : Desk0 σ t) (hd : 3 ≤ d) (h : ∀ σ', FrD σ σ' t → P (an_known a c e) σ') : CI l mX11_known d [(2, t), (0, a), (0, c), (0, e)] N Λ σ P := by
  obtain ⟨o, hR, hS, -⟩ := id hL
  have K := h σ FrD.rf
  have tail : ∀ (r v : Int), 1 ≤ r → r ≤ 120 → v = brc r → P 2 σ → (∀ y5, y5 = (andI (shrI v (mulI 4 (subI 2 0))) 15) → (∀ y6, y6 = (andI (shrI v (mulI 4 (subI 2 1))) 15) → (∀ y7, y7 = (andI (shrI v (mulI 4 (subI 2 2))) 15) → (Ix N Λ (t + 1 + 3) 0 (addI (addI (divI (mulI (mulI y7 (subI y7 1)) (subI y7 2)) 6) (divI (mulI y6 (subI y6 1)) 2)) y5) ∧ P (σ (t + 1 + 3) (addI (addI (divI (mulI (mulI y7 (subI y7 1)) (subI y7 2)) 6) (divI (mulI y6 (subI y6 1)) 2)) y5)) σ)))) := fun r v r1 r2 ev p2 y5 e5 y6 e6 y7 e7 => by
    have q := brc_ix r1 r2 ev e5 e6 e7
    rw [h0.1.2.2 _ q.1 q.2]
    exact ⟨Ix.of hS.2.2.2.2.2.2.1 q.1 q.2, p2⟩
  refine c_X11_known (v_X11_known_0 o hR.1 hS.1 hS.2.2.2.1 (by omega) (k_are (by omega) (fun g => ⟨fun _ => ?_, fun hc => absurd hc (by decide)⟩) (fun g => ⟨fun hc => absurd rfl hc, fun _ => ?_⟩)))
  · rw [row_e (by omega) (by omega) (by omega)]
    refine k_ord2 g.1 g.2.1 g.2.2 ?_
    by_cases hz : Rk a c e = 0
    · rw [an_known_0 g hz] at K
      rw [hz, brS_0]
      exact ⟨fun _ => ⟨fun hc => absurd rfl hc, fun _ => K⟩, fun hc => absurd (Int.le_refl 0) hc⟩
    · rw [an_known_2 g hz] at K
      rcases rk_or g.1 g.2.1 g.2.2 with er | ⟨r, r1, r2, er⟩ | ⟨r, r1, r2, er⟩
      · exact absurd er hz
      all_goals rw [er]
      · have b := brc_r r1 r2
        rw [brS_p r1]
        exact ⟨fun _ => ⟨fun _ => tail r _ r1 r2 rfl K, fun hc => absurd hc (by omega)⟩, fun hc => absurd (by omega) hc⟩
      · have b := brc_r r1 r2
        rw [brS_n r1]
        refine ⟨fun hc => absurd hc (by omega), fun _ y8 e8 => ?_⟩
        rw [negI_e (by omega) (by omega), Int.neg_neg] at e8
        exact ⟨fun _ => tail r _ r1 r2 e8 K, fun hc => absurd hc (by omega)⟩
  · rw [an_known_n g] at K
    exact K
def FactT (l : Launch) (d N : Nat) (Λ : Lay) (t w : Int) (P : Int → Mem → Prop) (v : Int) (σ : Mem) : Prop := (∀ y5, y5 = (andI (shrI v (mulI 4 (subI 2 0))) 15) → (∀ y6, y6 = (andI (shrI v (mulI 4 (subI 2 1))) 15) → (∀ y7, y7 = (andI (shrI v (mulI 4 (subI 2 2))) 15) → (Ix N Λ (t + 1 + 3) 0 (addI (addI (divI (mulI (mulI y7 (subI y7 1)) (subI y7 2)) 6) (divI (mulI y6 (subI y6 1)) 2)) y5) ∧ (∀ y8, y8 = (σ (t + 1 + 3) (addI (addI (divI (mulI (mulI y7 (subI y7 1)) (subI y7 2)) 6) (divI (mulI y6 (subI y6 1)) 2)) y5)) → (Ix N Λ (t + 23 + 1) 4 (σ (t + 23) 2) ∧ (∀ b9, b9 = (Λ (t + 23 + 1)).2.2 (σ (t + 23) 2) → (Ob N Λ b9 16 3 ∧ (CV l mX7_take (d - 1 - 1) [(2, b9), (2, (t + 1))] N Λ σ (fun σ10 => (∀ τ11, τ11 = st σ10 (t + 23) 2 (remI (addI (σ10 (t + 23) 2) 1) 10) → ((10 < (addI (τ11 (t + 23) 0) 1) → (∀ τ12, τ12 = st τ11 (t + 23) 0 10 → (∀ y13, y13 = (andI (shrI v (mulI 4 (subI 2 0))) 15) → (∀ y14, y14 = (andI (shrI v (mulI 4 (subI 2 1))) 15) → (∀ y15, y15 = (andI (shrI v (mulI 4 (subI 2 2))) 15) → (Ix N Λ (t + 1 + 3) 0 (addI (addI (divI (mulI (mulI y15 (subI y15 1)) (subI y15 2)) 6) (divI (mulI y14 (subI y14 1)) 2)) y13) ∧ (∀ τ16, τ16 = st τ12 (t + 1 + 3) (addI (addI (divI (mulI (mulI y15 (subI y15 1)) (subI y15 2)) 6) (divI (mulI y14 (subI y14 1)) 2)) y13) w → P y8 τ16))))))) ∧ (¬ (10 < (addI (τ11 (t + 23) 0) 1)) → (∀ τ17, τ17 = st τ11 (t + 23) 0 (addI (τ11 (t + 23) 0) 1) → (∀ y18, y18 = (andI (shrI v (mulI 4 (subI 2 0))) 15) → (∀ y19, y19 = (andI (shrI v (mulI 4 (subI 2 1))) 15) → (∀ y20, y20 = (andI (shrI v (mulI 4 (subI 2 2))) 15) → (Ix N Λ (t + 1 + 3) 0 (addI (addI (divI (mulI (mulI y20 (subI y20 1)) (subI y20 2)) 6) (divI (mulI y19 (subI y19 1)) 2)) y18) ∧ (∀ τ21, τ21 = st τ17 (t + 1 + 3) (addI (addI (divI (mulI (mulI y20 (subI y20 1)) (subI y20 2)) 6) (divI (mulI y19 (subI y19 1)) 2)) y18) w → P y8 τ21)))))))))))))))))))
theorem factT {P : Int → Mem → Prop} {w r v : Int} (hL : DeskL N Λ t) (h0 : Desk0 σ t) (hd : 4 ≤ d) (r1 : 1 ≤ r) (r2 : r ≤ 120) (ev : v = brc r) (h : ∀ σ', FrD σ σ' t → P 2 σ') : FactT l d N Λ t w P v σ := by
  obtain ⟨o, hR, hS, hH, -⟩ := id hL
  have hK := h0.DK
  have zk := hH.2.2.2 0 (by decide) (by decide)
  intro y5 e5 y6 e6 y7 e7
  have q := brc_ix r1 r2 ev e5 e6 e7
  refine ⟨Ix.of hS.2.2.2.2.2.2.1 q.1 q.2, fun y8 e8 => ?_⟩
  rw [h0.1.2.2 _ q.1 q.2] at e8
  subst e8
  rw [hK.2.2]
  refine ⟨Ix.of hH.2.2.1 (by decide) (by decide), fun b1 e1 => ?_⟩
  rw [zk.1] at e1
  subst e1
  refine ⟨zk.2.1, g_stake zk.2 hS (by omega) (by omega) (fun s g0 g1 => ?_) fun σ2 f2 τ3 e3 => ?_⟩
  · rw [show t + 1 + 4 + 3 * s = t + 5 + 3 * s by omega]
    exact hK.1 s g0 g1
  · have q2 : FrD σ σ2 t := fun c' g => f2 c' (by omega)
    have q3 := q2.tr (FrD.s e3 (by omega) (by omega))
    clear e3
    refine ⟨fun _ τ4 e4 y5' e5' y6' e6' y7' e7' => ?_, fun _ τ4 e4 y5' e5' y6' e6' y7' e7' => ?_⟩
    · have q' := brc_ix r1 r2 ev e5' e6' e7'
      exact ⟨Ix.of hS.2.2.2.2.2.2.1 q'.1 q'.2, fun τ9 e9 => h τ9 ((q3.tr (FrD.s e4 (by omega) (by omega))).tr (FrD.s e9 (by omega) (by omega)))⟩
    · have q' := brc_ix r1 r2 ev e5' e6' e7'
      exact ⟨Ix.of hS.2.2.2.2.2.2.1 q'.1 q'.2, fun τ9 e9 => h τ9 ((q3.tr (FrD.s e4 (by omega) (by omega))).tr (FrD.s e9 (by omega) (by omega)))⟩
theorem kd_fact {P : Int → Mem → Prop} {a c e w : Int} (hL : DeskL N Λ t) (h0 : Desk0 σ t) (hd : 4 ≤ d) (h : ∀ σ', FrD σ σ' t → P (an_fact a c e w) σ') : CI l mX11_fact d [(2, t), (0, a), (0, c), (0, e), (0, w)] N Λ σ P := by
  obtain ⟨o, hR, hS, hH, -⟩ := id hL
  refine c_X11_fact (v_X11_fact_0 o hR.1 hS.1 hS.2.2.2.1 hR.2.1 hH.1 hH.2.1 (by omega) (k_are (by omega) (fun g => ⟨fun _ => ?_, fun hc => absurd hc (by decide)⟩) (fun g => ⟨fun hc => absurd rfl hc, fun _ => ?_⟩)))
  · rw [row_e (by omega) (by omega) (by omega)]
    refine k_ord2 g.1 g.2.1 g.2.2 ?_
    have n3 : ¬ ((0 ≤ w ∧ w ≤ 2) ∧ ¬ Rk a c e = 0) → P (-3) σ := fun q => by have := h σ FrD.rf; rw [an_fact_3 g q] at this; exact this
    have y2 : ((0 ≤ w ∧ w ≤ 2) ∧ ¬ Rk a c e = 0) → ∀ σ', FrD σ σ' t → P 2 σ' := fun q σ' f => by have := h σ' f; rw [an_fact_2 g q] at this; exact this
    clear h
    rcases rk_or g.1 g.2.1 g.2.2 with er | ⟨r, r1, r2, er⟩ | ⟨r, r1, r2, er⟩
    all_goals rw [er] at n3 y2 ⊢
    · rw [brS_0]
      exact ⟨fun _ => ⟨fun _ => n3 (fun z => z.2 rfl), fun _ => ⟨fun _ => n3 (fun z => z.2 rfl), fun _ => ⟨fun hc => absurd rfl hc, fun _ => n3 (fun z => z.2 rfl)⟩⟩⟩, fun hc => absurd (Int.le_refl 0) hc⟩
    · have b := brc_r r1 r2
      rw [brS_p r1]
      exact ⟨fun _ => ⟨fun q => n3 (by clear n3 y2; omega), fun q1 => ⟨fun q => n3 (by clear n3 y2; omega), fun q2 => ⟨fun _ => factT hL h0 hd r1 r2 rfl (y2 (by clear n3 y2; omega)), fun hc => absurd hc (by clear n3 y2; omega)⟩⟩⟩, fun hc => absurd (by clear n3 y2; omega) hc⟩
    · have b := brc_r r1 r2
      rw [brS_n r1]
      refine ⟨fun hc => absurd hc (by clear n3 y2; omega), fun _ y8 e8 => ?_⟩
      rw [negI_e (by clear n3 y2; omega) (by clear n3 y2; omega), Int.neg_neg] at e8
      exact ⟨fun q => n3 (by clear n3 y2; omega), fun q1 => ⟨fun q => n3 (by clear n3 y2; omega), fun q2 => ⟨fun _ => factT hL h0 hd r1 r2 e8 (y2 (by clear n3 y2; omega)), fun hc => absurd hc (by clear n3 y2; omega)⟩⟩⟩
  · have := h σ FrD.rf
    rw [an_fact_n g] at this
    exact this
theorem PC_nil {c : Int} (h : σ c 2 = 0) : PC σ c [] := ⟨h, fun i e he => by simp at he⟩
theorem srtd_nil : srtd [] := fun i j a c _ ha _ => by simp at ha
theorem kd_bracket {P : Int → Mem → Prop} {s a c e : Int} (hL : DeskL N Λ t) (h0 : Desk0 σ t) (hd : 5 ≤ d) (h : ∀ σ', FrD σ σ' t → P (an_br s a c e) σ') : CI l mX11_bracket d [(2, t), (0, s), (0, a), (0, c), (0, e)] N Λ σ P := by
  obtain ⟨o, hR, hS, hH, hI, hMd, hT, hSt, hFi, hFo, hE, hFa, hTm, hW, hOt, hS1, hS2⟩ := id hL
  have no : ∀ σ', FrD σ σ' t → ¬ ((0 ≤ s ∧ s < 6) ∧ (0 ≤ a ∧ a < 10) ∧ (0 ≤ c ∧ c < 10) ∧ 0 ≤ e ∧ e < 10) → P (-2) σ' := fun σ' f q => by have := h σ' f; rw [an_br_n q] at this; exact this
  refine c_X11_bracket (v_X11_bracket_0 o hR.2.2.2.2.2.2.2.2.2.2.1 hTm hR.2.2.2.2.2.2.2.2.2.2.2.1 hW.1 (by omega) ⟨fun g => no σ FrD.rf (by omega), fun g1 => ⟨fun g => no σ FrD.rf (by omega), fun g2 => k_are (by omega) (fun g => ⟨fun _ τ3 e3 τ4 e4 => ?_, fun hc => absurd hc (by decide)⟩) (fun g => ⟨fun hc => absurd rfl hc, fun _ => no σ FrD.rf (fun z => g z.2)⟩)⟩⟩)
  rw [row_e (by omega) (by omega) (by omega)]
  have f4 : FrD σ τ4 t := (FrD.s e3 (by omega) (by omega)).tr (FrD.s e4 (by omega) (by omega))
  have n4 : ∀ c' : Int, c' ≠ t + 595 → τ4 c' = σ c' := fun c' q => by rw [e4, st_ne q, e3, st_ne q]
  refine k_attA hTm (by omega) g.1 g.2.1 g.2.2 (by rw [e4, st_nj (by decide), e3, st_eq]) (by rw [e4, st_eq]) fun σ5 k5 w5 w0 w1 τ6 e6 => ?_
  have hz : τ6 (t + 596) 2 = 0 := by rw [e6, st_eq]
  have n6 : ∀ c' : Int, c' ≠ t + 595 → c' ≠ t + 596 → τ6 c' = σ c' := fun c' q1 q2 => by rw [e6, st_ne q2, k5 c' q1, n4 c' q1]
  have f6 : FrD σ τ6 t := fun c' q => n6 c' (by omega) (by omega)
  have s6 : τ6 (t + 595) 1 = sg (Rk a c e) := by rw [e6, st_ne (by omega)]; exact w5
  rw [s6]
  have fin : ∀ (σ7 : Mem) (ts : List (Int × Int)), PC σ7 (t + 596) ts → Same3 τ6 σ7 (t + 596) → (ts.length : Int) ≤ 1 → (∀ σ', FrD σ σ' t → P ts.length σ') → CI l mX11_keep (d - 1) [(2, t), (0, s), (0, 0)] N Λ σ7 (fun v10 σ9 => P v10 σ9) := fun σ7 ts hp hs7 hl hP => by
    have n7 : ∀ c' : Int, c' ≠ t + 595 → (c' < t + 596 ∨ t + 599 ≤ c') → σ7 c' = σ c' := fun c' q1 q2 => (funext fun j => hs7 c' j (by omega) (by omega) (by omega)).trans (n6 c' q1 (by omega))
    refine kd_keep hL (h0.DK.same fun c' u0 u1 => n7 c' (by omega) (by omega)) (by omega) (by omega) (by rw [hp.1]; omega) (by rw [hp.1]; omega) fun σ' f => ?_
    rw [hp.1]
    exact hP σ' (FrD.tr (fun c' q => n7 c' (by omega) (by omega)) f)
  by_cases hq : Rk a c e = 0
  · have y0 : ∀ σ', FrD σ σ' t → P 0 σ' := fun σ' f => by have := h σ' f; rw [an_br_0 (by omega) hq] at this; exact this
    rw [hq, sg_0]
    have ep : ∀ k, putS [] k 0 = (0, []) := fun k => by unfold putS; rw [if_neg (fun z => z (by decide)), if_pos rfl]
    refine k_lay hW (by omega) (PC_nil hz) (by decide) srtd_nil (fun e he => by simp at he) (fun σ' ts' e' hp hs => ?_) (fun k ek hk => ?_)
    · rw [ep] at e'
      have et : ts' = [] := ((Prod.mk.inj e').2).symm
      subst et
      exact fin σ' [] hp hs (by decide) y0
    · rw [ep] at ek
      exact absurd ek.symm hk
  · have y1 : ∀ σ', FrD σ σ' t → P 1 σ' := fun σ' f => by have := h σ' f; rw [an_br_1 (by omega) hq] at this; exact this
    have hsg : sg (Rk a c e) = 1 ∨ sg (Rk a c e) = -1 := by unfold sg; rw [if_neg hq]; split <;> omega
    generalize sg (Rk a c e) = n at hsg
    have hn : Int32R n := by unfold Int32R; omega
    have hn0 : ¬ n = 0 := by omega
    refine k_lay hW (by omega) (PC_nil hz) (by decide) srtd_nil (fun e he => by simp at he) (fun σ' ts' e' hp hs => ?_) (fun k ek hk => ?_)
    · rw [putS_nil hn hn0] at e'
      have et : ts' = [(τ6 (t + 595) 0, n)] := ((Prod.mk.inj e').2).symm
      subst et
      exact fin σ' _ hp hs (show ((1 : Nat) : Int) ≤ 1 by decide) y1
    · rw [putS_nil hn hn0] at ek
      exact absurd ek.symm hk
end CL5
