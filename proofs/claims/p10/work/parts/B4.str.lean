/-! terms and straightening on any object -/
variable {ω : Mem}
def TC (t c : Int) : Prop := c = t + 595 ∨ c = t + 252 ∨ c = t + 250 ∨ c = t + 268
theorem TC.np {t c : Int} (h : TC t c) : NP t c := by
  unfold NP
  rcases h with h | h | h | h
  · exact Or.inr (Or.inr (Or.inr (Or.inr (Or.inr (Or.inr (Or.inl ⟨by omega, by omega⟩))))))
  · exact Or.inr (Or.inr (Or.inr (Or.inr (Or.inl ⟨by omega, by omega⟩))))
  · exact Or.inr (Or.inr (Or.inr (Or.inr (Or.inl ⟨by omega, by omega⟩))))
  · exact Or.inr (Or.inr (Or.inr (Or.inr (Or.inr (Or.inl h)))))
theorem TC.ok0 {t c v : Int} (h : TC t c) (hv : VK v) : Ok t c 0 v := by
  refine ⟨fun _ _ => hv, fun e => ?_, fun e => ?_, fun e => ?_, fun e => ?_, fun e => ?_, fun e => ?_, fun e => ?_, fun e => ?_⟩ <;> rcases h with h | h | h | h <;> omega
theorem TC.ok1 {t c j v : Int} (h : TC t c) (hj : j ≠ 0) : Ok t c j v := by
  refine ⟨fun _ e => absurd e hj, fun e => ?_, fun e => ?_, fun e => ?_, fun e => ?_, fun e => ?_, fun e => ?_, fun e => ?_, fun e => ?_⟩ <;> rcases h with h | h | h | h <;> omega
def NbN : Nat → Int → Prop
  | 0, v => v = 0
  | m + 1, v => ∃ u c : Int, NbN m u ∧ 0 ≤ c ∧ c < 10 ∧ v = 16 * u + c
def bnd : Nat → Int
  | 0 => 0
  | m + 1 => 16 * bnd m + 9
theorem NbN_b : ∀ (m : Nat) (v : Int), NbN m v → 0 ≤ v ∧ v ≤ bnd m := by
  intro m
  induction m with
  | zero => intro v h; rw [show v = 0 from h]; exact ⟨Int.le_refl 0, Int.le_refl 0⟩
  | succ m ih =>
    intro v h
    obtain ⟨u, c, h1, h2, h3, h4⟩ := h
    have := ih u h1
    have e : bnd (m + 1) = 16 * bnd m + 9 := rfl
    omega
theorem NbN_up : ∀ (m : Nat) (v : Int), NbN m v → NbN (m + 1) v := by
  intro m
  induction m with
  | zero => intro v h; exact ⟨0, 0, rfl, by decide, by decide, h⟩
  | succ m ih =>
    intro v h
    obtain ⟨u, c, h1, h2, h3, h4⟩ := h
    exact ⟨u, c, ih u h1, h2, h3, h4⟩
theorem NbN_s {m : Nat} {u c : Int} (h : NbN m u) (h0 : 0 ≤ c) (h1 : c < 10) : NbN (m + 1) (16 * u + c) := ⟨u, c, h, h0, h1, rfl⟩
theorem NbN_3 {x y z : Int} (hx : 0 ≤ x ∧ x < 10) (hy : 0 ≤ y ∧ y < 10) (hz : 0 ≤ z ∧ z < 10) : NbN 3 (256 * x + 16 * y + z) := by
  have := NbN_s (NbN_s (NbN_s (m := 0) (u := 0) rfl hx.1 hx.2) hy.1 hy.2) hz.1 hz.2
  rw [show 16 * (16 * (16 * 0 + x) + y) + z = 256 * x + 16 * y + z by omega] at this
  exact this
/-- the last three letters of a row -/
theorem NbN_nib {m : Nat} {v : Int} (h : NbN (m + 3) v) (hm : v ≤ 2147483647) : ∃ a b c : Int, (0 ≤ a ∧ a < 10) ∧ (0 ≤ b ∧ b < 10) ∧ (0 ≤ c ∧ c < 10) ∧ andI (shrI v 8) 15 = a ∧ andI (shrI v 4) 15 = b ∧ andI v 15 = c := by
  have hb := NbN_b _ v h
  obtain ⟨u1, c, ⟨u2, b, ⟨u3, a, h3, a0, a1, e3⟩, b0, b1, e2⟩, c0, c1, e1⟩ := h
  have hu := NbN_b _ u3 h3
  have hr : R32 v := ⟨by omega, hm⟩
  refine ⟨a, b, c, ⟨a0, a1⟩, ⟨b0, b1⟩, ⟨c0, c1⟩, ?_, ?_, ?_⟩
  · rw [shrI_e hr (by decide) (by decide)]
    show andI (v / 2 ^ 8) 15 = a
    rw [andI_15 ⟨by omega, by omega⟩]
    omega
  · rw [shrI_e hr (by decide) (by decide)]
    show andI (v / 2 ^ 4) 15 = b
    rw [andI_15 ⟨by omega, by omega⟩]
    omega
  · rw [andI_15 hr]
    omega
section GS
variable {l : Launch} {d N : Nat} {Λ : Lay} {σ : Mem} {t : Int}
theorem k_ord3 {P : Int → Mem → Prop} {a b c x : Int} (ha : 0 ≤ a ∧ a < 10) (hb : 0 ≤ b ∧ b < 10) (hc : 0 ≤ c ∧ c < 10) (e : andI (shrI x 8) 15 = a ∧ andI (shrI x 4) 15 = b ∧ andI x 15 = c) (h : P (brS (Rk a b c)) σ) : CI l mX6_ordered d [(0, x)] N Λ σ P := by
  unfold Rk at h
  refine k_ordx (by omega) (by omega) (by omega) e ⟨fun g => ?_, fun g1 g2 => ?_, fun g1 g2 => ?_, fun g1 g2 => ?_, fun g1 g2 => ?_, fun g1 g2 => ?_, fun g1 g2 => ?_⟩
  · rw [RkT_z ha hb hc g, brS_0] at h; exact h
  · obtain ⟨r, r1, r2, rb, q⟩ := rk_f ha.1 g1 g2 hc.2
    rw [q.1, brS_p r1, rb] at h; exact h
  · obtain ⟨r, r1, r2, rb, q⟩ := rk_f ha.1 g1 g2 hb.2
    rw [q.2.2.2.1, brS_n r1, rb] at h; exact h
  · obtain ⟨r, r1, r2, rb, q⟩ := rk_f hb.1 g1 g2 hc.2
    rw [q.2.2.2.2.1, brS_n r1, rb] at h; exact h
  · obtain ⟨r, r1, r2, rb, q⟩ := rk_f hb.1 g1 g2 ha.2
    rw [q.2.2.1, brS_p r1, rb] at h; exact h
  · obtain ⟨r, r1, r2, rb, q⟩ := rk_f hc.1 g1 g2 hb.2
    rw [q.2.1, brS_p r1, rb] at h; exact h
  · obtain ⟨r, r1, r2, rb, q⟩ := rk_f hc.1 g1 g2 ha.2
    rw [q.2.2.2.2.2, brS_n r1, rb] at h; exact h
theorem GI.tc {τ : Mem} {c j v : Int} (h : GI ω σ t) (tc : TC t c) (e : τ = st σ c j v) (ho : Ok t c j v) : GI ω τ t := h.sto e tc.np.ne ho (by unfold TC at tc; omega)
theorem GI.vk {c : Int} (h : GI ω σ t) (tc : TC t c) : VK (σ c 0) := (h.ok c 0).1 tc rfl
theorem G_attach {P : Mem → Prop} {c x : Int} {m : Nat} (o : Ob N Λ c 19 2) (hG : GI ω σ t) (tc : TC t c) (hn : NbN (m + 3) x) (hx : x ≤ 2147483647) (hd : 1 ≤ d) (h : ∀ σ', GI ω σ' t → (∀ c', c' ≠ c → σ' c' = σ c') → P σ') : CV l mX10_attach d [(2, c), (0, x)] N Λ σ P := by
  obtain ⟨p, q, r, hp, hq, hr, en⟩ := NbN_nib hn hx
  refine c_X10_attach (v_X10_attach_0 o hd (k_ord3 hp hq hr en ?_))
  have fin : ∀ (w s : Int) (τ5 τ6 : Mem), VK w → τ5 = st σ c 0 w → τ6 = st τ5 c 1 s → P τ6 := fun w s τ5 τ6 hw e5 e6 =>
    h τ6 ((hG.tc tc e5 (tc.ok0 hw)).tc tc e6 (tc.ok1 (by decide))) (fun c' g => by rw [e6, st_ne g, e5, st_ne g])
  rcases rk_or hp hq hr with er | ⟨u, u1, u2, er⟩ | ⟨u, u1, u2, er⟩
  all_goals rw [er]
  · rw [brS_0]
    exact ⟨fun hc => absurd rfl hc, fun _ τ e => h τ (hG.tc tc e (tc.ok1 (by decide))) (fun c' g => by rw [e, st_ne g])⟩
  · have b := brc_r u1 u2
    rw [brS_p u1]
    exact ⟨fun _ => ⟨fun _ => gw (hG.vk tc) (Or.inr ⟨u, u1, u2, rfl⟩) fun w hw τ5 e5 => ⟨fun _ τ6 e6 => fin _ _ _ _ hw e5 e6, fun hc => absurd (by omega) hc⟩, fun hc => absurd (by omega) hc⟩, fun hc => absurd hc (by omega)⟩
  · have b := brc_r u1 u2
    rw [brS_n u1]
    refine ⟨fun _ => ⟨fun hc => absurd hc (by omega), fun _ => ?_⟩, fun hc => absurd hc (by omega)⟩
    rw [negI_e (by omega) (by omega), Int.neg_neg]
    exact gw (hG.vk tc) (Or.inr ⟨u, u1, u2, rfl⟩) fun w hw τ5 e5 => ⟨fun hc => absurd hc (by omega), fun _ τ6 e6 => fin _ _ _ _ hw e5 e6⟩
theorem bnd7 : bnd 7 ≤ 2147483647 := by decide
/-- what stands behind the letters that stay in y -/
theorem sec_n {x7 x5 y0 y1 y2 : Int} (h7 : NbN 4 x7) (hy0 : 0 ≤ y0 ∧ y0 < 10) (hy1 : 0 ≤ y1 ∧ y1 < 10) (hy2 : 0 ≤ y2 ∧ y2 < 10) (h5 : x5 = 0 ∨ x5 = 4 ∨ x5 = 8 ∨ x5 = 12) : NbN 7 (orI (shlI x7 x5) (andI (256 * y0 + 16 * y1 + y2) (subI (shlI 1 x5) 1))) := by
  have hb := NbN_b _ _ h7
  have eb : bnd 4 = 39321 := by decide
  rw [eb] at hb
  have hr : R32 (256 * y0 + 16 * y1 + y2) := ⟨by omega, by omega⟩
  rcases h5 with rfl | rfl | rfl | rfl
  · have e1 : shlI x7 0 = x7 := by
      rw [shlI_e (by decide) (by decide) hb.1 (by show x7 * 2 ^ 0 ≤ _; rw [show x7 * 2 ^ 0 = x7 from Int.mul_one _]; omega)]
      exact Int.mul_one _
    have e2 : andI (256 * y0 + 16 * y1 + y2) (subI (shlI 1 0) 1) = 0 := by
      rw [show subI (shlI 1 0) 1 = 0 by decide, andI_m (x := 256 * y0 + 16 * y1 + y2) (m := 0) 0 hr (by decide) (by decide)]
      exact Int.emod_one _
    rw [e1, e2, orI_z ⟨by omega, by omega⟩]
    exact NbN_up _ _ (NbN_up _ _ (NbN_up _ _ h7))
  · rw [show subI (shlI 1 4) 1 = 15 by decide, andI_15 hr, or16 hb.1 (by omega) (by omega) (by omega), show (256 * y0 + 16 * y1 + y2) % 16 = y2 by omega]
    exact NbN_up _ _ (NbN_up _ _ (NbN_s h7 hy2.1 hy2.2))
  · have e1 : shlI x7 8 = x7 * ((2 ^ 8 : Nat) : Int) := shlI_e (by decide) (by decide) hb.1 (by show x7 * 2 ^ 8 ≤ _; omega)
    rw [show subI (shlI 1 8) 1 = 255 by decide, andI_255 hr, e1, orI_k 8 hb.1 (by omega) (by omega) (by omega)]
    have := NbN_s (NbN_s h7 hy1.1 hy1.2) hy2.1 hy2.2
    rw [show x7 * ((2 ^ 8 : Nat) : Int) + (256 * y0 + 16 * y1 + y2) % 256 = 16 * (16 * x7 + y1) + y2 by omega]
    exact NbN_up _ _ this
  · have e1 : shlI x7 12 = x7 * ((2 ^ 12 : Nat) : Int) := shlI_e (by decide) (by decide) hb.1 (by show x7 * 2 ^ 12 ≤ _; omega)
    rw [show subI (shlI 1 12) 1 = 4095 by decide, andI_4095 hr, e1, orI_k 12 hb.1 (by omega) (by omega) (by omega)]
    have := NbN_s (NbN_s (NbN_s h7 hy0.1 hy0.2) hy1.1 hy1.2) hy2.1 hy2.2
    rw [show x7 * ((2 ^ 12 : Nat) : Int) + (256 * y0 + 16 * y1 + y2) % 4096 = 16 * (16 * (16 * x7 + y0) + y1) + y2 by omega]
    exact this
theorem gaw_lp {P : Int → Mem → Prop} {x1 x2 x3 x5 y0 y1 y2 : Int} (hX : DX N Λ t) (hG : GI ω σ t) (hd : 2 ≤ d) (h2 : ∀ i : Int, 0 ≤ i → i ≤ 3 → 0 ≤ andI (shrI x2 (mulI 4 i)) 15 ∧ andI (shrI x2 (mulI 4 i)) 15 < 10) (hy0 : 0 ≤ y0 ∧ y0 < 10) (hy1 : 0 ≤ y1 ∧ y1 < 10) (hy2 : 0 ≤ y2 ∧ y2 < 10) (h5 : x5 = 0 ∨ x5 = 4 ∨ x5 = 8 ∨ x5 = 12) (h : ∀ v σ', GI ω σ' t → (∀ c', c' ≠ t + 252 → σ' c' = σ c') → P v σ') : ∀ (m : Nat) (x6 x7 x8 x9 i : Int), i + 1 = (4 : Int) - m → m ≤ 4 → NbN (2 + m) x6 → NbN m x7 →
    WI l mX8_attachWay d P 15 [(2, t + 251), (0, x1), (0, x2), (0, x3), (0, 256 * y0 + 16 * y1 + y2), (0, x5), (0, x6), (0, x7), (0, x8), (0, x9), (0, i), (3, 0)] [] N Λ σ := by
  have hL := hX.2.2.2.2.2.2.2.1
  have tc : TC t (t + 251 + 1) := Or.inr (Or.inl (by omega))
  have fin : ∀ (x6 x7 x9 : Int), NbN 6 x6 → NbN 4 x7 → CV l mX10_attach (d - 1) [(2, t + 251 + 1), (0, x6)] N Λ σ (fun σ1 => (CV l mX10_attach (d - 1) [(2, t + 251 + 1), (0, (orI (shlI x7 x5) (andI (256 * y0 + 16 * y1 + y2) (subI (shlI 1 x5) 1))))] N Λ σ1 (fun σ2 => ((¬ (andI x9 1) = 0 → P (-1) σ2) ∧ ((andI x9 1) = 0 → P 1 σ2))))) := by
    intro x6 x7 x9 n6 n7
    have b6 := NbN_b _ _ n6
    have eb : bnd 6 = 10066329 := by decide
    rw [eb] at b6
    have n2 := sec_n n7 hy0 hy1 hy2 h5
    have b2 := NbN_b _ _ n2
    have eb7 : bnd 7 = 161061273 := by decide
    rw [eb7] at b2
    refine G_attach (m := 3) hL.2.2 hG tc n6 (by omega) (by omega) fun σ1 hG1 h1 => G_attach (m := 4) hL.2.2 hG1 tc n2 (by omega) (by omega) fun σ2 hG2 h2 => ?_
    have h3 : ∀ c', c' ≠ t + 252 → σ2 c' = σ c' := fun c' hc => by rw [h2 c' (by omega), h1 c' (by omega)]
    exact ⟨fun _ => h _ σ2 hG2 h3, fun _ => h _ σ2 hG2 h3⟩
  intro m
  induction hm : 4 - m generalizing m with
  | zero =>
    intro x6 x7 x8 x9 i h0 h1 n6 n7
    have e4 : m = 4 := by omega
    subst e4
    exact v_X8_attachWay_15 hL.1 hL.2.1 hL.2.2 (by omega) ⟨fun _ => fin _ _ _ n6 n7, fun hc => by omega⟩
  | succ k ih =>
    intro x6 x7 x8 x9 i h0 h1 n6 n7
    have hl := h2 i (by omega) (by omega)
    have b6 := NbN_b _ _ (NbN_up _ _ n6)
    have cm : m = 0 ∨ m = 1 ∨ m = 2 ∨ m = 3 := by omega
    have x6b : 0 ≤ x6 ∧ x6 < 134217728 := by
      have q := NbN_b _ _ n6
      have : bnd (2 + m) ≤ 629145 := by rcases cm with rfl | rfl | rfl | rfl <;> decide
      omega
    have x7b : 0 ≤ x7 ∧ x7 < 134217728 := by
      have q := NbN_b _ _ n7
      have : bnd m ≤ 2457 := by rcases cm with rfl | rfl | rfl | rfl <;> decide
      omega
    refine v_X8_attachWay_15 hL.1 hL.2.1 hL.2.2 (by omega) ⟨fun hc => by omega, fun hc y3 e3 => ⟨fun _ y4 e4 y5 _ y6 e6 => ?_, fun _ y7 e7 y8 _ y9 e9 => ?_⟩⟩
    · rw [e6, addI_e (by omega) (by omega), e4, e3, or16 x7b.1 x7b.2 hl.1 (by omega)]
      refine ih (m + 1) (by omega) x6 _ y5 x9 _ (by omega) (by omega) ?_ (NbN_s n7 hl.1 hl.2)
      exact NbN_up _ _ n6
    · rw [e9, addI_e (by omega) (by omega), e7, e3, or16 x6b.1 x6b.2 hl.1 (by omega)]
      refine ih (m + 1) (by omega) _ x7 x8 y8 _ (by omega) (by omega) ?_ (NbN_up _ _ n7)
      exact NbN_s n6 hl.1 hl.2
theorem G_aw {P : Int → Mem → Prop} {x1 x2 x3 x5 y0 y1 y2 : Int} (hX : DX N Λ t) (hG : GI ω σ t) (hd : 2 ≤ d) (h1 : NbN 2 x1) (h2 : ∀ i : Int, 0 ≤ i → i ≤ 3 → 0 ≤ andI (shrI x2 (mulI 4 i)) 15 ∧ andI (shrI x2 (mulI 4 i)) 15 < 10) (hy0 : 0 ≤ y0 ∧ y0 < 10) (hy1 : 0 ≤ y1 ∧ y1 < 10) (hy2 : 0 ≤ y2 ∧ y2 < 10) (h5 : x5 = 0 ∨ x5 = 4 ∨ x5 = 8 ∨ x5 = 12) (h : ∀ v σ', GI ω σ' t → (∀ c', c' ≠ t + 252 → σ' c' = σ c') → P v σ') : CI l mX8_attachWay d [(2, t + 251), (0, x1), (0, x2), (0, x3), (0, 256 * y0 + 16 * y1 + y2), (0, x5)] N Λ σ P :=
  c_X8_attachWay (v_X8_attachWay_0 (gaw_lp hX hG hd h2 hy0 hy1 hy2 h5 h 0 x1 0 0 0 3 (by decide) (by decide) h1 rfl))
end GS
