/-! what goes through on any object: keys whose brackets are brackets -/
def FB (f : Int) : Prop := f = 0 ∨ ∃ r, 1 ≤ r ∧ r ≤ 120 ∧ f = brc r
theorem FB.b {f : Int} (h : FB f) : 0 ≤ f ∧ f < 4096 := by
  rcases h with rfl | ⟨r, r1, r2, rfl⟩
  · decide
  · have := brc_r r1 r2
    omega
theorem FB.l {f : Int} (h : FB f) : ∃ x y z : Int, (0 ≤ x ∧ x < 10) ∧ (0 ≤ y ∧ y < 10) ∧ (0 ≤ z ∧ z < 10) ∧ f = 256 * x + 16 * y + z := by
  rcases h with rfl | ⟨r, r1, r2, rfl⟩
  · exact ⟨0, 0, 0, by decide, by decide, by decide, by decide⟩
  · obtain ⟨x, y, z, g0, g1, g2, g3, e⟩ := brc_b r1 r2
    exact ⟨x, y, z, by omega, by omega, by omega, e⟩
def KK (f0 f1 f2 f3 : Int) : Int := 68719476736 * f0 + 16777216 * f1 + 4096 * f2 + f3
def VK (k : Int) : Prop := ∃ f0 f1 f2 f3, FB f0 ∧ FB f1 ∧ FB f2 ∧ FB f3 ∧ k = KK f0 f1 f2 f3
theorem VK0 : VK 0 := ⟨0, 0, 0, 0, Or.inl rfl, Or.inl rfl, Or.inl rfl, Or.inl rfl, rfl⟩
theorem l2i_m {x : Int} : andI (l2iI x) 4095 = x % 4096 := by
  have e : l2iI x = x.bmod 4294967296 := by
    unfold l2iI
    rw [Int64.toInt32_ofInt]
    exact Int32.toInt_ofInt
  rw [andI_4095 (l2iI_r x), e, Int.bmod_def]
  split <;> omega
section FLD
variable {f0 f1 f2 f3 : Int}
theorem kk_n (b0 : 0 ≤ f0 ∧ f0 < 4096) (b1 : 0 ≤ f1 ∧ f1 < 4096) (b2 : 0 ≤ f2 ∧ f2 < 4096) (b3 : 0 ≤ f3 ∧ f3 < 4096) : ∃ a0 a1 a2 a3 : Nat, f0 = a0 ∧ f1 = a1 ∧ f2 = a2 ∧ f3 = a3 ∧ a0 < 4096 ∧ a1 < 4096 ∧ a2 < 4096 ∧ a3 < 4096 ∧ KK f0 f1 f2 f3 = ((a0 * 2 ^ 36 + a1 * 2 ^ 24 + a2 * 2 ^ 12 + a3 : Nat) : Int) := by
  obtain ⟨a0, rfl⟩ := Int.eq_ofNat_of_zero_le b0.1
  obtain ⟨a1, rfl⟩ := Int.eq_ofNat_of_zero_le b1.1
  obtain ⟨a2, rfl⟩ := Int.eq_ofNat_of_zero_le b2.1
  obtain ⟨a3, rfl⟩ := Int.eq_ofNat_of_zero_le b3.1
  refine ⟨a0, a1, a2, a3, rfl, rfl, rfl, rfl, by omega, by omega, by omega, by omega, ?_⟩
  unfold KK
  omega
theorem fl0 (b0 : 0 ≤ f0 ∧ f0 < 4096) (b1 : 0 ≤ f1 ∧ f1 < 4096) (b2 : 0 ≤ f2 ∧ f2 < 4096) (b3 : 0 ≤ f3 ∧ f3 < 4096) : andI (l2iI (ushrL (KK f0 f1 f2 f3) 36)) 4095 = f0 := by
  obtain ⟨a0, a1, a2, a3, rfl, rfl, rfl, rfl, c0, c1, c2, c3, e⟩ := kk_n b0 b1 b2 b3
  rw [e, ushrL_n 36 36 (by decide) (by omega), l2i_m]
  omega
theorem fl1 (b0 : 0 ≤ f0 ∧ f0 < 4096) (b1 : 0 ≤ f1 ∧ f1 < 4096) (b2 : 0 ≤ f2 ∧ f2 < 4096) (b3 : 0 ≤ f3 ∧ f3 < 4096) : andI (l2iI (ushrL (KK f0 f1 f2 f3) 24)) 4095 = f1 := by
  obtain ⟨a0, a1, a2, a3, rfl, rfl, rfl, rfl, c0, c1, c2, c3, e⟩ := kk_n b0 b1 b2 b3
  rw [e, ushrL_n 24 24 (by decide) (by omega), l2i_m]
  omega
theorem fl2 (b0 : 0 ≤ f0 ∧ f0 < 4096) (b1 : 0 ≤ f1 ∧ f1 < 4096) (b2 : 0 ≤ f2 ∧ f2 < 4096) (b3 : 0 ≤ f3 ∧ f3 < 4096) : andI (l2iI (ushrL (KK f0 f1 f2 f3) 12)) 4095 = f2 := by
  obtain ⟨a0, a1, a2, a3, rfl, rfl, rfl, rfl, c0, c1, c2, c3, e⟩ := kk_n b0 b1 b2 b3
  rw [e, ushrL_n 12 12 (by decide) (by omega), l2i_m]
  omega
theorem fl3 (b0 : 0 ≤ f0 ∧ f0 < 4096) (b1 : 0 ≤ f1 ∧ f1 < 4096) (b2 : 0 ≤ f2 ∧ f2 < 4096) (b3 : 0 ≤ f3 ∧ f3 < 4096) : andI (l2iI (ushrL (KK f0 f1 f2 f3) 0)) 4095 = f3 := by
  obtain ⟨a0, a1, a2, a3, rfl, rfl, rfl, rfl, c0, c1, c2, c3, e⟩ := kk_n b0 b1 b2 b3
  rw [e, ushrL_n 0 0 (by decide) (by omega), l2i_m]
  omega
theorem wr0 {v y : Int} (b0 : 0 ≤ f0 ∧ f0 < 4096) (b1 : 0 ≤ f1 ∧ f1 < 4096) (b2 : 0 ≤ f2 ∧ f2 < 4096) (b3 : 0 ≤ f3 ∧ f3 < 4096) (bv : 0 ≤ v ∧ v < 4096) (ey : y = andL (KK f0 f1 f2 f3) (subL (shlL 1 (addI 36 12)) 1)) : orL (orL (subL (KK f0 f1 f2 f3) y) (shlL v 36)) (ushrL y 12) = KK v f0 f1 f2 := by
  obtain ⟨a0, a1, a2, a3, rfl, rfl, rfl, rfl, c0, c1, c2, c3, e⟩ := kk_n b0 b1 b2 b3
  obtain ⟨u, rfl⟩ := Int.eq_ofNat_of_zero_le bv.1
  rw [e, show subL (shlL 1 (addI 36 12)) 1 = 281474976710655 by decide, andL_n 48 (by decide) (by omega)] at ey
  subst ey
  rw [e, subL_e (by omega) (by omega), ushrL_n 12 12 (by decide) (by omega), shlL_n 36 36 (by decide) (by omega)]
  rw [show ((a0 * 2 ^ 36 + a1 * 2 ^ 24 + a2 * 2 ^ 12 + a3 : Nat) : Int) - (((a0 * 2 ^ 36 + a1 * 2 ^ 24 + a2 * 2 ^ 12 + a3) % 2 ^ 48 : Nat) : Int) = (((a0 * 2 ^ 36 + a1 * 2 ^ 24 + a2 * 2 ^ 12 + a3) / 2 ^ 48 * 2 ^ 48 : Nat) : Int) by omega, orL_n 48 (by omega) (by omega)]
  rw [show (a0 * 2 ^ 36 + a1 * 2 ^ 24 + a2 * 2 ^ 12 + a3) / 2 ^ 48 * 2 ^ 48 + u * 2 ^ 36 = ((a0 * 2 ^ 36 + a1 * 2 ^ 24 + a2 * 2 ^ 12 + a3) / 2 ^ 48 * 4096 + u) * 2 ^ 36 by omega, orL_n 36 (by omega) (by omega)]
  unfold KK
  omega
theorem wr1 {v y : Int} (b0 : 0 ≤ f0 ∧ f0 < 4096) (b1 : 0 ≤ f1 ∧ f1 < 4096) (b2 : 0 ≤ f2 ∧ f2 < 4096) (b3 : 0 ≤ f3 ∧ f3 < 4096) (bv : 0 ≤ v ∧ v < 4096) (ey : y = andL (KK f0 f1 f2 f3) (subL (shlL 1 (addI 24 12)) 1)) : orL (orL (subL (KK f0 f1 f2 f3) y) (shlL v 24)) (ushrL y 12) = KK f0 v f1 f2 := by
  obtain ⟨a0, a1, a2, a3, rfl, rfl, rfl, rfl, c0, c1, c2, c3, e⟩ := kk_n b0 b1 b2 b3
  obtain ⟨u, rfl⟩ := Int.eq_ofNat_of_zero_le bv.1
  rw [e, show subL (shlL 1 (addI 24 12)) 1 = 68719476735 by decide, andL_n 36 (by decide) (by omega)] at ey
  subst ey
  rw [e, subL_e (by omega) (by omega), ushrL_n 12 12 (by decide) (by omega), shlL_n 24 24 (by decide) (by omega)]
  rw [show ((a0 * 2 ^ 36 + a1 * 2 ^ 24 + a2 * 2 ^ 12 + a3 : Nat) : Int) - (((a0 * 2 ^ 36 + a1 * 2 ^ 24 + a2 * 2 ^ 12 + a3) % 2 ^ 36 : Nat) : Int) = (((a0 * 2 ^ 36 + a1 * 2 ^ 24 + a2 * 2 ^ 12 + a3) / 2 ^ 36 * 2 ^ 36 : Nat) : Int) by omega, orL_n 36 (by omega) (by omega)]
  rw [show (a0 * 2 ^ 36 + a1 * 2 ^ 24 + a2 * 2 ^ 12 + a3) / 2 ^ 36 * 2 ^ 36 + u * 2 ^ 24 = ((a0 * 2 ^ 36 + a1 * 2 ^ 24 + a2 * 2 ^ 12 + a3) / 2 ^ 36 * 4096 + u) * 2 ^ 24 by omega, orL_n 24 (by omega) (by omega)]
  unfold KK
  omega
theorem wr2 {v y : Int} (b0 : 0 ≤ f0 ∧ f0 < 4096) (b1 : 0 ≤ f1 ∧ f1 < 4096) (b2 : 0 ≤ f2 ∧ f2 < 4096) (b3 : 0 ≤ f3 ∧ f3 < 4096) (bv : 0 ≤ v ∧ v < 4096) (ey : y = andL (KK f0 f1 f2 f3) (subL (shlL 1 (addI 12 12)) 1)) : orL (orL (subL (KK f0 f1 f2 f3) y) (shlL v 12)) (ushrL y 12) = KK f0 f1 v f2 := by
  obtain ⟨a0, a1, a2, a3, rfl, rfl, rfl, rfl, c0, c1, c2, c3, e⟩ := kk_n b0 b1 b2 b3
  obtain ⟨u, rfl⟩ := Int.eq_ofNat_of_zero_le bv.1
  rw [e, show subL (shlL 1 (addI 12 12)) 1 = 16777215 by decide, andL_n 24 (by decide) (by omega)] at ey
  subst ey
  rw [e, subL_e (by omega) (by omega), ushrL_n 12 12 (by decide) (by omega), shlL_n 12 12 (by decide) (by omega)]
  rw [show ((a0 * 2 ^ 36 + a1 * 2 ^ 24 + a2 * 2 ^ 12 + a3 : Nat) : Int) - (((a0 * 2 ^ 36 + a1 * 2 ^ 24 + a2 * 2 ^ 12 + a3) % 2 ^ 24 : Nat) : Int) = (((a0 * 2 ^ 36 + a1 * 2 ^ 24 + a2 * 2 ^ 12 + a3) / 2 ^ 24 * 2 ^ 24 : Nat) : Int) by omega, orL_n 24 (by omega) (by omega)]
  rw [show (a0 * 2 ^ 36 + a1 * 2 ^ 24 + a2 * 2 ^ 12 + a3) / 2 ^ 24 * 2 ^ 24 + u * 2 ^ 12 = ((a0 * 2 ^ 36 + a1 * 2 ^ 24 + a2 * 2 ^ 12 + a3) / 2 ^ 24 * 4096 + u) * 2 ^ 12 by omega, orL_n 12 (by omega) (by omega)]
  unfold KK
  omega
theorem wr3 {v y : Int} (b0 : 0 ≤ f0 ∧ f0 < 4096) (b1 : 0 ≤ f1 ∧ f1 < 4096) (b2 : 0 ≤ f2 ∧ f2 < 4096) (b3 : 0 ≤ f3 ∧ f3 < 4096) (bv : 0 ≤ v ∧ v < 4096) (ey : y = andL (KK f0 f1 f2 f3) (subL (shlL 1 (addI 0 12)) 1)) : orL (orL (subL (KK f0 f1 f2 f3) y) (shlL v 0)) (ushrL y 12) = KK f0 f1 f2 v := by
  obtain ⟨a0, a1, a2, a3, rfl, rfl, rfl, rfl, c0, c1, c2, c3, e⟩ := kk_n b0 b1 b2 b3
  obtain ⟨u, rfl⟩ := Int.eq_ofNat_of_zero_le bv.1
  rw [e, show subL (shlL 1 (addI 0 12)) 1 = 4095 by decide, andL_n 12 (by decide) (by omega)] at ey
  subst ey
  rw [e, subL_e (by omega) (by omega), ushrL_n 12 12 (by decide) (by omega), shlL_n 0 0 (by decide) (by omega)]
  rw [show ((a0 * 2 ^ 36 + a1 * 2 ^ 24 + a2 * 2 ^ 12 + a3 : Nat) : Int) - (((a0 * 2 ^ 36 + a1 * 2 ^ 24 + a2 * 2 ^ 12 + a3) % 2 ^ 12 : Nat) : Int) = (((a0 * 2 ^ 36 + a1 * 2 ^ 24 + a2 * 2 ^ 12 + a3) / 2 ^ 12 * 2 ^ 12 : Nat) : Int) by omega, orL_n 12 (by omega) (by omega)]
  rw [show (a0 * 2 ^ 36 + a1 * 2 ^ 24 + a2 * 2 ^ 12 + a3) / 2 ^ 12 * 2 ^ 12 + u * 2 ^ 0 = ((a0 * 2 ^ 36 + a1 * 2 ^ 24 + a2 * 2 ^ 12 + a3) / 2 ^ 12 * 4096 + u) * 2 ^ 0 by omega, orL_n 0 (by omega) (by omega)]
  unfold KK
  omega
end FLD
theorem fb_at {x i : Int} (hx : VK x) (h0 : 0 ≤ i) (h1 : i < 4) : FB (andI (l2iI (ushrL x (mulI 12 (subI 3 i)))) 4095) := by
  obtain ⟨f0, f1, f2, f3, q0, q1, q2, q3, rfl⟩ := hx
  have ci : i = 0 ∨ i = 1 ∨ i = 2 ∨ i = 3 := by omega
  rcases ci with rfl | rfl | rfl | rfl
  · rw [show mulI 12 (subI 3 0) = 36 by decide, fl0 q0.b q1.b q2.b q3.b]; exact q0
  · rw [show mulI 12 (subI 3 1) = 24 by decide, fl1 q0.b q1.b q2.b q3.b]; exact q1
  · rw [show mulI 12 (subI 3 2) = 12 by decide, fl2 q0.b q1.b q2.b q3.b]; exact q2
  · rw [show mulI 12 (subI 3 3) = 0 by decide, fl3 q0.b q1.b q2.b q3.b]; exact q3
section GW
variable {l : Launch} {d N : Nat} {Λ : Lay} {σ : Mem}
theorem gw {P : Int → Mem → Prop} {x v : Int} (hx : VK x) (hv : FB v) (h : ∀ w, VK w → P w σ) : CL l mX6_with d [(1, x), (0, v)] N Λ σ P := by
  obtain ⟨f0, f1, f2, f3, q0, q1, q2, q3, rfl⟩ := id hx
  refine c_X6_with (v_X6_with_0 ?_)
  have r0 : ∀ y, y = andL (KK f0 f1 f2 f3) (subL (shlL 1 (addI 36 12)) 1) → P (orL (orL (subL (KK f0 f1 f2 f3) y) (shlL v 36)) (ushrL y 12)) σ := fun y ey => by
    rw [wr0 q0.b q1.b q2.b q3.b hv.b ey]; exact h _ ⟨v, f0, f1, f2, hv, q0, q1, q2, rfl⟩
  have r1 : ∀ y, y = andL (KK f0 f1 f2 f3) (subL (shlL 1 (addI 24 12)) 1) → P (orL (orL (subL (KK f0 f1 f2 f3) y) (shlL v 24)) (ushrL y 12)) σ := fun y ey => by
    rw [wr1 q0.b q1.b q2.b q3.b hv.b ey]; exact h _ ⟨f0, v, f1, f2, q0, hv, q1, q2, rfl⟩
  have r2 : ∀ y, y = andL (KK f0 f1 f2 f3) (subL (shlL 1 (addI 12 12)) 1) → P (orL (orL (subL (KK f0 f1 f2 f3) y) (shlL v 12)) (ushrL y 12)) σ := fun y ey => by
    rw [wr2 q0.b q1.b q2.b q3.b hv.b ey]; exact h _ ⟨f0, f1, v, f2, q0, q1, hv, q2, rfl⟩
  have r3 : ∀ y, y = andL (KK f0 f1 f2 f3) (subL (shlL 1 (addI 0 12)) 1) → P (orL (orL (subL (KK f0 f1 f2 f3) y) (shlL v 0)) (ushrL y 12)) σ := fun y ey => by
    rw [wr3 q0.b q1.b q2.b q3.b hv.b ey]; exact h _ ⟨f0, f1, f2, v, q0, q1, q2, hv, rfl⟩
  refine v_X6_with_3 ⟨fun hc => absurd hc (by decide), fun _ y1 _ => ⟨fun _ y2 e2 => r0 y2 e2, fun _ => ⟨fun _ y3 e3 => ?_, fun _ y4 e4 => r0 y4 e4⟩⟩⟩
  rw [show y3 = 24 from e3.trans (by decide)]
  refine v_X6_with_3 ⟨fun hc => absurd hc (by decide), fun _ y1 _ => ⟨fun _ y2 e2 => r1 y2 e2, fun _ => ⟨fun _ y3 e3 => ?_, fun _ y4 e4 => r1 y4 e4⟩⟩⟩
  rw [show y3 = 12 from e3.trans (by decide)]
  refine v_X6_with_3 ⟨fun hc => absurd hc (by decide), fun _ y1 _ => ⟨fun _ y2 e2 => r2 y2 e2, fun _ => ⟨fun _ y3 e3 => ?_, fun _ y4 e4 => r2 y4 e4⟩⟩⟩
  rw [show y3 = 0 from e3.trans (by decide)]
  refine v_X6_with_3 ⟨fun hc => absurd hc (by decide), fun _ y1 _ => ⟨fun _ y2 e2 => r3 y2 e2, fun _ => ⟨fun _ y3 e3 => ?_, fun _ y4 e4 => r3 y4 e4⟩⟩⟩
  rw [show y3 = -12 from e3.trans (by decide)]
  exact v_X6_with_3 ⟨fun _ => h _ hx, fun hc => absurd (by decide) hc⟩
theorem gwo_lp {P : Int → Mem → Prop} {x y : Int} (hd : 1 ≤ d) (hx : VK x) (h : ∀ v, VK v → P v σ) : ∀ (m : Nat) (i r : Int), 0 ≤ i → (4 - i).toNat ≤ m → VK r → WL l mX6_withoutTwo d P 5 [(1, x), (3, 0), (0, y), (1, r), (3, 0), (0, i), (3, 0)] [] N Λ σ := by
  intro m
  induction m with
  | zero => intro i r h0 h1 hr; exact v_X6_withoutTwo_5 hd ⟨fun _ => h _ hr, fun hc => by omega⟩
  | succ m ih =>
    intro i r h0 h1 hr
    have nx : ∀ r' y', VK r' → y' = addI i 1 → ¬ 4 ≤ i → WL l mX6_withoutTwo d P 5 [(1, x), (3, 0), (0, y), (1, r'), (3, 0), (0, y'), (3, 0)] [] N Λ σ := fun r' y' hr' e hc => by
      rw [e, addI_e (by omega) (by omega)]
      exact ih (i + 1) r' (by omega) (by omega) hr'
    exact v_X6_withoutTwo_5 hd ⟨fun _ => h _ hr, fun hc y1 e1 => ⟨fun _ y2 e2 => nx _ _ hr e2 hc, fun _ => ⟨fun _ y3 e3 => nx _ _ hr e3 hc, fun _ => ⟨fun _ y4 e4 => nx _ _ hr e4 hc, fun _ => gw hr (by rw [e1]; exact fb_at hx h0 (by omega)) fun v hv y7 e7 => nx _ _ hv e7 hc⟩⟩⟩⟩
theorem gwo {P : Int → Mem → Prop} {x y : Int} (hd : 1 ≤ d) (hx : VK x) (h : ∀ v, VK v → P v σ) : CL l mX6_withoutTwo d [(1, x), (0, y)] N Λ σ P := c_X6_withoutTwo (v_X6_withoutTwo_0 (gwo_lp hd hx h 4 0 0 (by decide) (by decide) VK0))
theorem gjo_lp {P : Int → Mem → Prop} {x y : Int} (hd : 1 ≤ d) (hy : VK y) (h : ∀ v, VK v → P v σ) : ∀ (m : Nat) (i r : Int), 0 ≤ i → (4 - i).toNat ≤ m → VK r → WL l mX6_joined d P 6 [(1, x), (3, 0), (1, y), (3, 0), (1, r), (3, 0), (0, i), (3, 0)] [] N Λ σ := by
  intro m
  induction m with
  | zero => intro i r h0 h1 hr; exact v_X6_joined_6 hd ⟨fun _ => h _ hr, fun hc => by omega⟩
  | succ m ih =>
    intro i r h0 h1 hr
    have nx : ∀ r' y', VK r' → y' = addI i 1 → ¬ 4 ≤ i → WL l mX6_joined d P 6 [(1, x), (3, 0), (1, y), (3, 0), (1, r'), (3, 0), (0, y'), (3, 0)] [] N Λ σ := fun r' y' hr' e hc => by
      rw [e, addI_e (by omega) (by omega)]
      exact ih (i + 1) r' (by omega) (by omega) hr'
    exact v_X6_joined_6 hd ⟨fun _ => h _ hr, fun hc y1 e1 => ⟨fun _ y2 e2 => nx _ _ hr e2 hc, fun _ => gw hr (by rw [e1]; exact fb_at hy h0 (by omega)) fun v hv y5 e5 => nx _ _ hv e5 hc⟩⟩
theorem gjo {P : Int → Mem → Prop} {x y : Int} (hd : 1 ≤ d) (hx : VK x) (hy : VK y) (h : ∀ v, VK v → P v σ) : CL l mX6_joined d [(1, x), (1, y)] N Λ σ P := c_X6_joined (v_X6_joined_0 (gjo_lp hd hy h 4 0 x (by decide) (by decide) hx))
theorem gbi_lp {P : Int → Mem → Prop} {x : Int} (hd : 1 ≤ d) (h : ∀ v, 0 ≤ v → v ≤ 4 → P v σ) : ∀ (m : Nat) (i : Int), 0 ≤ i → i ≤ 4 → (4 - i).toNat ≤ m → WI l mX6_bracketsIn d P 2 [(1, x), (3, 0), (0, i)] [] N Λ σ := by
  intro m
  induction m with
  | zero => intro i h0 h1 h2; exact v_X6_bracketsIn_2 hd ⟨fun _ => h _ h0 h1, fun hc => by omega⟩
  | succ m ih =>
    intro i h0 h1 h2
    refine v_X6_bracketsIn_2 hd ⟨fun _ => h _ h0 h1, fun hc => ⟨fun _ => h _ h0 h1, fun _ y1 e1 => ?_⟩⟩
    rw [e1, addI_e (by omega) (by omega)]
    exact ih (i + 1) (by omega) (by omega) (by omega)
theorem gbi {P : Int → Mem → Prop} {x : Int} (hd : 1 ≤ d) (h : ∀ v, 0 ≤ v → v ≤ 4 → P v σ) : CI l mX6_bracketsIn d [(1, x)] N Λ σ P := c_X6_bracketsIn (v_X6_bracketsIn_0 (gbi_lp hd h 4 0 (by decide) (by decide) (by decide)))
theorem gbb {P : Int → Mem → Prop} {x y : Int} (hd : 1 ≤ d) (h : ∀ v, 0 ≤ v → v ≤ 3 → P v σ) : CI l mX6_breakBetween d [(0, x), (0, y)] N Λ σ P := by
  refine c_X6_breakBetween (v_X6_breakBetween_0 ?_)
  have z0 := h 0 (by decide) (by decide)
  refine v_X6_breakBetween_2 hd ⟨fun _ => z0, fun _ => ⟨fun _ y1 e1 => ?_, fun _ => h _ (by decide) (by decide)⟩⟩
  rw [show y1 = 2 from e1.trans (by decide)]
  refine v_X6_breakBetween_2 hd ⟨fun _ => z0, fun _ => ⟨fun _ y1 e1 => ?_, fun _ => h _ (by decide) (by decide)⟩⟩
  rw [show y1 = 3 from e1.trans (by decide)]
  refine v_X6_breakBetween_2 hd ⟨fun _ => z0, fun _ => ⟨fun _ y1 e1 => ?_, fun _ => h _ (by decide) (by decide)⟩⟩
  rw [show y1 = 4 from e1.trans (by decide)]
  exact v_X6_breakBetween_2 hd ⟨fun _ => z0, fun hc => absurd (show (3 : Int) < 4 by decide) hc⟩
theorem gbo {P : Int → Mem → Prop} {x : Int} (hd : 2 ≤ d) (h : ∀ v, 0 ≤ v → v ≤ 11 → P v σ) : CI l mX6_breakOf d [(1, x)] N Λ σ P := by
  refine c_X6_breakOf (v_X6_breakOf_0 ?_)
  have z0 := h 0 (by decide) (by decide)
  have hv : ∀ i v : Int, 0 ≤ i → i ≤ 2 → 0 ≤ v → v ≤ 3 → P (addI (mulI 4 i) v) σ := fun i v i0 i1 v0 v1 => by
    rw [mulI_e (x := 4) (y := i) (by omega) (by omega), addI_e (by omega) (by omega)]
    exact h _ (by omega) (by omega)
  refine v_X6_breakOf_2 (by omega) ⟨fun _ => z0, fun _ y1 e1 => ⟨fun _ => gbb (by omega) fun v v0 v1 => ⟨fun _ y2 e2 => ?_, fun _ => hv 0 v (by decide) (by decide) v0 v1⟩, fun _ => z0⟩⟩
  rw [show y2 = 1 from e2.trans (by decide)]
  refine v_X6_breakOf_2 (by omega) ⟨fun _ => z0, fun _ y1 e1 => ⟨fun _ => gbb (by omega) fun v v0 v1 => ⟨fun _ y2 e2 => ?_, fun _ => hv 1 v (by decide) (by decide) v0 v1⟩, fun _ => z0⟩⟩
  rw [show y2 = 2 from e2.trans (by decide)]
  refine v_X6_breakOf_2 (by omega) ⟨fun _ => z0, fun _ y1 e1 => ⟨fun _ => gbb (by omega) fun v v0 v1 => ⟨fun _ y2 e2 => ?_, fun _ => hv 2 v (by decide) (by decide) v0 v1⟩, fun _ => z0⟩⟩
  rw [show y2 = 3 from e2.trans (by decide)]
  exact v_X6_breakOf_2 (by omega) ⟨fun _ => z0, fun hc => absurd (by decide) hc⟩
end GW
