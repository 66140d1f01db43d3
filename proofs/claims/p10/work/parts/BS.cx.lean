/-! exchange on any object of the class: out of part 98, with the term's key looked after -/
variable {ω : Mem}
theorem vk1 {r : Int} (h1 : 1 ≤ r) (h2 : r ≤ 120) : VK (68719476736 * brc r) := ⟨brc r, 0, 0, 0, Or.inr ⟨r, h1, h2, rfl⟩, Or.inl rfl, Or.inl rfl, Or.inl rfl, by unfold KK; omega⟩
theorem vk2 {p q : Int} (p1 : 1 ≤ p) (p2 : p ≤ 120) (q1 : 1 ≤ q) (q2 : q ≤ 120) : VK (68719476736 * brc p + 16777216 * brc q) := ⟨brc p, brc q, 0, 0, Or.inr ⟨p, p1, p2, rfl⟩, Or.inr ⟨q, q1, q2, rfl⟩, Or.inl rfl, Or.inl rfl, by unfold KK; omega⟩
theorem vkc {p q : Int} (p1 : 1 ≤ p) (p2 : p ≤ 120) (q1 : 1 ≤ q) (q2 : q ≤ 120) : VK (ck2 (brc p) (brc q)) := by
  unfold ck2
  split
  · exact vk2 p1 p2 q1 q2
  · exact vk2 q1 q2 p1 p2
theorem GK.vk {k : Int} (h : GK k) : VK (psi k) := by
  obtain ⟨p, q, h1, h2, h3, rfl⟩ := h
  rw [psi_e h1 (by omega) (by omega) h3]
  exact vk2 h1 (by omega) (by omega) h3
section KV
variable {l : Launch} {d N : Nat} {Λ : Lay} {σ : Mem}
theorem k_attV {P : Mem → Prop} {c x y z u s : Int} (o : Ob N Λ c 19 2) (hd : 1 ≤ d) (hx : 0 ≤ x ∧ x < 10) (hy : 0 ≤ y ∧ y < 10) (hz : 0 ≤ z ∧ z < 10) (hs : s = 0 ∨ s = 1 ∨ s = -1) (h00 : s = 0 → σ c 0 = 0) (hu : ¬ s = 0 → ∃ r, 1 ≤ r ∧ r ≤ 120 ∧ u = brc r) (h0 : ¬ s = 0 → σ c 0 = 68719476736 * u) (h1 : σ c 1 = s)
    (h : ∀ σ', (∀ c', c' ≠ c → σ' c' = σ c') → σ' c 1 = s * sg (Rk x y z) → (¬ s = 0 → ¬ Rk x y z = 0 → σ' c 0 = ck2 u (brc (ab (Rk x y z)))) → VK (σ' c 0) → P σ') : CV l mX10_attach d [(2, c), (0, 256 * x + 16 * y + z)] N Λ σ P := by
  refine c_X10_attach (v_X10_attach_0 o hd (k_ord2 hx hy hz ?_))
  have v0 : VK (σ c 0) := by
    by_cases s0 : s = 0
    · rw [h00 s0]; exact VK0
    · obtain ⟨r, r1, r2, er⟩ := hu s0
      rw [h0 s0, er]
      exact vk1 r1 r2
  have kw : ∀ {Q : Int → Mem → Prop} {r : Int}, 1 ≤ r → r ≤ 120 → (∀ w, (¬ s = 0 → w = ck2 u (brc r)) → VK w → Q w σ) → CL l mX6_with (d - 1) [(1, σ c 0), (0, brc r)] N Λ σ Q := by
    intro Q r r1 r2 hq
    have b := brc_r r1 r2
    by_cases s0 : s = 0
    · rw [h00 s0]
      exact k_with0 b (hq _ (fun hc => absurd s0 hc) (vk1 r1 r2))
    · obtain ⟨p, p1, p2, eu⟩ := hu s0
      rw [h0 s0]
      exact k_with1 (by rw [eu]; exact brc_r p1 p2) b (hq _ (fun _ => rfl) (by rw [eu]; exact vkc p1 p2 r1 r2))
  rcases rk_or hx hy hz with er | ⟨r, r1, r2, er⟩ | ⟨r, r1, r2, er⟩
  all_goals rw [er] at h ⊢
  · rw [brS_0]
    refine ⟨fun hc => absurd rfl hc, fun _ τ e => h τ (fun c' g => by rw [e, st_ne g]) (by rw [e, st_eq, sg_0, Int.mul_zero]) (fun _ hc => absurd rfl hc) (by rw [e, st_nj (by decide)]; exact v0)⟩
  · have b := brc_r r1 r2
    rw [brS_p r1]
    refine ⟨fun _ => ⟨fun _ => kw r1 r2 fun w hw vw τ5 e5 => ⟨fun _ τ6 e6 => ?_, fun hc => absurd (by omega) hc⟩, fun hc => absurd (by omega) hc⟩, fun hc => absurd hc (by omega)⟩
    refine h τ6 (fun c' g => by rw [e6, st_ne g, e5, st_ne g]) ?_ (fun s0 _ => ?_) ?_
    · rw [e6, st_eq, e5, st_nj (by decide), h1, sg_p r1, Int.mul_one]
    · rw [e6, st_nj (by decide), e5, st_eq, ab_p (by omega)]; exact hw s0
    · rw [e6, st_nj (by decide), e5, st_eq]; exact vw
  · have b := brc_r r1 r2
    rw [brS_n r1]
    refine ⟨fun _ => ⟨fun hc => absurd hc (by omega), fun _ => ?_⟩, fun hc => absurd hc (by omega)⟩
    rw [negI_e (by omega) (by omega), Int.neg_neg]
    refine kw r1 r2 fun w hw vw τ5 e5 => ⟨fun hc => absurd hc (by omega), fun _ τ6 e6 => ?_⟩
    refine h τ6 (fun c' g => by rw [e6, st_ne g, e5, st_ne g]) ?_ (fun s0 _ => ?_) ?_
    · rw [e6, st_eq, e5, st_nj (by decide), h1, sg_n r1, negI_e (by omega) (by omega)]; omega
    · rw [e6, st_nj (by decide), e5, st_eq, ab_n r1]; exact hw s0
    · rw [e6, st_nj (by decide), e5, st_eq]; exact vw
end KV
section CY
variable {l : Launch} {d N : Nat} {Λ : Lay} {c a : Int}
/-- what attachWay leaves in the term -/
def AwV (c : Int) (w : Way) (Q : Int → Mem → Prop) (τ : Mem) : Prop := ∀ σ' : Mem, (∀ c', c' ≠ c + 1 → σ' c' = τ c') → σ' (c + 1) 1 = sg (Wa w) * sg (Wb w) → (¬ Wn w = 0 → σ' (c + 1) 0 = ck2 (brc (ab (Wa w))) (brc (ab (Wb w)))) → VK (σ' (c + 1) 0) → Q w.1 σ'
theorem bw_e {P : Int → Mem → Prop} {σ : Mem} {x1 x2 x3 x4 x5 x6 x7 x8 x9 i : Int} {w : Way} (hL : StrL N Λ c) (hd : 2 ≤ d) (hi : i < 0) (hw : Wok w) (h0 : σ (c + 1) 0 = 0) (h1 : σ (c + 1) 1 = 1) (e6 : x6 = 256 * w.2.1.1 + 16 * w.2.1.2.1 + w.2.1.2.2) (e7 : orI (shlI x7 x5) (andI x4 (subI (shlI 1 x5) 1)) = 256 * w.2.2.1 + 16 * w.2.2.2.1 + w.2.2.2.2) (hs : (andI x9 1 = 0 ∧ w.1 = 1) ∨ (¬ andI x9 1 = 0 ∧ w.1 = -1)) (h : AwV c w P σ) :
    WI l mX8_attachWay d P 15 [(2, c), (0, x1), (0, x2), (0, x3), (0, x4), (0, x5), (0, x6), (0, x7), (0, x8), (0, x9), (0, i), (3, 0)] [] N Λ σ := by
  refine v_X8_attachWay_15 hL.1 hL.2.1 hL.2.2 (by omega) ⟨fun _ => ?_, fun hc => absurd hi hc⟩
  rw [e6, e7]
  clear e6 e7
  refine k_attA hL.2.2 (by omega) hw.2.1.1 hw.2.1.2.1 hw.2.1.2.2 h0 h1 fun σ1 k1 s1 z1 w1 => ?_
  have ra := rk_r hw.2.1.1 hw.2.1.2.1 hw.2.1.2.2
  refine k_attV (u := brc (ab (Wa w))) (s := sg (Wa w)) hL.2.2 (by omega) hw.2.2.1 hw.2.2.2.1 hw.2.2.2.2 (sg_c _) (fun e => z1 (sg_z e)) (fun hn => ?_) (fun hn => w1 fun e => hn (by unfold Wa; rw [e]; rfl)) s1 fun σ2 k2 s2 w2 v2 => ?_
  · have q := ab_b (r := Wa w) ra.1 ra.2 (fun e => hn (by rw [e]; rfl))
    exact ⟨_, q.1, q.2, rfl⟩
  · have h' := h σ2 (fun c' g => by rw [k2 c' g, k1 c' g]) s2 (fun hn => w2 (Wn_0 hn).1 (Wn_0 hn).2) v2
    rcases hs with ⟨p, q⟩ | ⟨p, q⟩
    · rw [q] at h'
      exact ⟨fun hc => absurd p hc, fun _ => h'⟩
    · rw [q] at h'
      exact ⟨fun _ => h', fun hc => absurd hc p⟩
/-- the polynomial behind so many ways -/
def LxV (σ0 σ : Mem) (c a : Int) (m : Nat) (ts : List (Int × Int)) : Prop := Inv m ts ∧ PC σ a (ts.map Phi) ∧ srtd (ts.map Phi) ∧ Fr4 σ0 σ (c + 1) a ∧ VK (σ (c + 1) 0)
theorem ly_do {P : Int → Mem → Prop} {σ0 σ : Mem} {x2 x3 x4 x10 x11 i i' : Int} {m : Nat} {ts : List (Int × Int)} (w : Way) (hL : StrL N Λ c) (hA : PolyL N Λ a) (hca : c + 1 ≠ a ∧ c + 1 ≠ a + 1 ∧ c + 1 ≠ a + 2) (hd : 4 ≤ d) (h0 : ¬ i < 0) (hb : bcI i = subI 4 x4) (hi : addI i (-1) = i') (hm : m ≤ 40) (hw : Wok w) (hI : LxV σ0 σ c a m ts)
    (haw : ∀ (Q : Int → Mem → Prop) (τ : Mem), τ (c + 1) 0 = 0 → τ (c + 1) 1 = 1 → AwV c w Q τ → CI l mX8_attachWay (d - 1) [(2, c), (0, shrI x2 (mulI 4 (subI 4 x4))), (0, x11), (0, i), (0, x3), (0, x10)] N Λ τ Q)
    (K : ∀ σ', LxV σ0 σ' c a (m + 1) (putS ts (Wk w) (Wn w)).2 → WI l mX8_layExchange d P 31 [(2, c), (2, a), (0, x2), (0, x3), (0, x4), (1, 0), (3, 0), (1, 1), (3, 0), (0, 0), (0, x10), (0, x11), (0, i'), (3, 0)] [] N Λ σ') :
    WI l mX8_layExchange d P 31 [(2, c), (2, a), (0, x2), (0, x3), (0, x4), (1, 0), (3, 0), (1, 1), (3, 0), (0, 0), (0, x10), (0, x11), (0, i), (3, 0)] [] N Λ σ := by
  obtain ⟨q1, q2, q3, q4, q5⟩ := hI
  refine v_X8_layExchange_31 hL.1 hL.2.1 hL.2.2 hA.1 (by omega) ⟨fun hc => absurd hc h0, fun _ => ⟨fun hc => absurd rfl hc, fun _ => k_bit ⟨fun hc => absurd hb hc, fun _ τ4 e4 τ5 e5 => haw _ τ5 (by rw [e5, st_nj (by decide), e4, st_eq]) (by rw [e5, st_eq]) fun σ6 k6 s6 w6 v6 => ?_⟩⟩⟩
  have n6 : ∀ c', c' ≠ c + 1 → σ6 c' = σ c' := fun c' g => by rw [k6 c' g, e5, st_ne g, e4, st_ne g]
  clear e4 e5 k6
  rw [s6, mul_W hw]
  have hl : (ts.map Phi).length ≤ 80 := by rw [List.length_map]; have := q1.1; omega
  have hnum : ∀ e ∈ ts.map Phi, Int32R e.2 := fun e he => by
    obtain ⟨e', h1, h2⟩ := List.mem_map.mp he
    rw [← h2]
    exact q1.r32 (by omega) e' h1
  have ep := W_putC (k := σ6 (c + 1) 0) q1 hm hw w6
  refine k_lay hA (by omega) (q2.same (n6 _ (fun z => hca.1 z.symm)) (n6 _ (fun z => hca.2.1 z.symm)) (n6 _ (fun z => hca.2.2 z.symm))) hl q3 hnum (fun σ8 ts' e' hp hs y10 e10 => ?_) (fun k ek hk => ?_)
  · rw [ep] at e'
    have et := (Prod.mk.inj e').2
    subst et
    rw [e10, hi]
    refine K σ8 ⟨(W_put q1 hm hw).2, hp, (putS_ok q3 hl hnum ep).1, fun c' g0 g1 g2 g3 => ?_, by rw [show σ8 (c + 1) = σ6 (c + 1) from funext fun j => hs (c + 1) j hca.1 hca.2.1 hca.2.2]; exact v6⟩
    rw [← q4 c' g0 g1 g2 g3, ← n6 c' g0]
    exact funext fun j => hs c' j g1 g2 g3
  · rw [ep] at ek
    exact absurd ek.symm hk
theorem bw_1_14 {P : Int → Mem → Prop} {σ : Mem} {a0 a1 a2 b0 b1 b2 : Int} (hL : StrL N Λ c) (hd : 2 ≤ d) (A : (0 ≤ a0 ∧ a0 < 10) ∧ (0 ≤ a1 ∧ a1 < 10) ∧ (0 ≤ a2 ∧ a2 < 10) ∧ (0 ≤ b0 ∧ b0 < 10) ∧ (0 ≤ b1 ∧ b1 < 10) ∧ 0 ≤ b2 ∧ b2 < 10) (h0 : σ (c + 1) 0 = 0) (h1 : σ (c + 1) 1 = 1) (h : AwV c ((1 : Int), (a0, a1, a2), b0, b1, b2) P σ) : CI l mX8_attachWay d [(2, c), (0, shrI (256 * a0 + 16 * a1 + a2) (mulI 4 (subI 4 1))), (0, 4096 * a0 + 256 * a1 + 16 * a2 + b0), (0, 14), (0, 256 * b0 + 16 * b1 + b2), (0, 8)] N Λ σ P := by
  have hf := fr_e (x := a0) (y := a1) (z := a2) (u := b0) A.1 A.2.1 A.2.2.1 A.2.2.2.1
  refine c_X8_attachWay (v_X8_attachWay_0 ?_)
  rw [ahd1 A.1 A.2.1 A.2.2.1]
  refine aw_y hL hd (by decide) hf.1 (by decide) (x6' := a0) (o16 (by omega) (by omega) (by omega) (by omega) (by omega)) (x9' := 0) (by decide) (i' := 2) (by decide) ?_
  refine aw_y hL hd (by decide) hf.2.1 (by decide) (x6' := 16 * a0 + a1) (o16 (by omega) (by omega) (by omega) (by omega) (by omega)) (x9' := 0) (by decide) (i' := 1) (by decide) ?_
  refine aw_y hL hd (by decide) hf.2.2.1 (by decide) (x6' := 256 * a0 + 16 * a1 + a2) (o16 (by omega) (by omega) (by omega) (by omega) (by omega)) (x9' := 0) (by decide) (i' := 0) (by decide) ?_
  refine aw_n hL hd (by decide) hf.2.2.2 (by decide) (x7' := b0) (o16 (by omega) (by omega) (by omega) (by omega) (by omega)) (x8' := 1) (by decide) (i' := -1) (by decide) ?_
  exact bw_e (w := ((1 : Int), (a0, a1, a2), b0, b1, b2)) hL hd (by decide) ⟨Or.inl rfl, ⟨A.1, A.2.1, A.2.2.1⟩, A.2.2.2.1, A.2.2.2.2.1, A.2.2.2.2.2⟩ h0 h1 rfl (sec1 A.2.2.2.1 A.2.2.2.1 A.2.2.2.2.1 A.2.2.2.2.2) (Or.inl ⟨by decide, rfl⟩) h
theorem bw_1_13 {P : Int → Mem → Prop} {σ : Mem} {a0 a1 a2 b0 b1 b2 : Int} (hL : StrL N Λ c) (hd : 2 ≤ d) (A : (0 ≤ a0 ∧ a0 < 10) ∧ (0 ≤ a1 ∧ a1 < 10) ∧ (0 ≤ a2 ∧ a2 < 10) ∧ (0 ≤ b0 ∧ b0 < 10) ∧ (0 ≤ b1 ∧ b1 < 10) ∧ 0 ≤ b2 ∧ b2 < 10) (h0 : σ (c + 1) 0 = 0) (h1 : σ (c + 1) 1 = 1) (h : AwV c ((-1 : Int), (a0, a1, b0), a2, b1, b2) P σ) : CI l mX8_attachWay d [(2, c), (0, shrI (256 * a0 + 16 * a1 + a2) (mulI 4 (subI 4 1))), (0, 4096 * a0 + 256 * a1 + 16 * a2 + b0), (0, 13), (0, 256 * b0 + 16 * b1 + b2), (0, 8)] N Λ σ P := by
  have hf := fr_e (x := a0) (y := a1) (z := a2) (u := b0) A.1 A.2.1 A.2.2.1 A.2.2.2.1
  refine c_X8_attachWay (v_X8_attachWay_0 ?_)
  rw [ahd1 A.1 A.2.1 A.2.2.1]
  refine aw_y hL hd (by decide) hf.1 (by decide) (x6' := a0) (o16 (by omega) (by omega) (by omega) (by omega) (by omega)) (x9' := 0) (by decide) (i' := 2) (by decide) ?_
  refine aw_y hL hd (by decide) hf.2.1 (by decide) (x6' := 16 * a0 + a1) (o16 (by omega) (by omega) (by omega) (by omega) (by omega)) (x9' := 0) (by decide) (i' := 1) (by decide) ?_
  refine aw_n hL hd (by decide) hf.2.2.1 (by decide) (x7' := a2) (o16 (by omega) (by omega) (by omega) (by omega) (by omega)) (x8' := 1) (by decide) (i' := 0) (by decide) ?_
  refine aw_y hL hd (by decide) hf.2.2.2 (by decide) (x6' := 256 * a0 + 16 * a1 + b0) (o16 (by omega) (by omega) (by omega) (by omega) (by omega)) (x9' := 1) (by decide) (i' := -1) (by decide) ?_
  exact bw_e (w := ((-1 : Int), (a0, a1, b0), a2, b1, b2)) hL hd (by decide) ⟨Or.inr rfl, ⟨A.1, A.2.1, A.2.2.2.1⟩, A.2.2.1, A.2.2.2.2.1, A.2.2.2.2.2⟩ h0 h1 rfl (sec1 A.2.2.1 A.2.2.2.1 A.2.2.2.2.1 A.2.2.2.2.2) (Or.inr ⟨by decide, rfl⟩) h
theorem bw_1_11 {P : Int → Mem → Prop} {σ : Mem} {a0 a1 a2 b0 b1 b2 : Int} (hL : StrL N Λ c) (hd : 2 ≤ d) (A : (0 ≤ a0 ∧ a0 < 10) ∧ (0 ≤ a1 ∧ a1 < 10) ∧ (0 ≤ a2 ∧ a2 < 10) ∧ (0 ≤ b0 ∧ b0 < 10) ∧ (0 ≤ b1 ∧ b1 < 10) ∧ 0 ≤ b2 ∧ b2 < 10) (h0 : σ (c + 1) 0 = 0) (h1 : σ (c + 1) 1 = 1) (h : AwV c ((1 : Int), (a0, a2, b0), a1, b1, b2) P σ) : CI l mX8_attachWay d [(2, c), (0, shrI (256 * a0 + 16 * a1 + a2) (mulI 4 (subI 4 1))), (0, 4096 * a0 + 256 * a1 + 16 * a2 + b0), (0, 11), (0, 256 * b0 + 16 * b1 + b2), (0, 8)] N Λ σ P := by
  have hf := fr_e (x := a0) (y := a1) (z := a2) (u := b0) A.1 A.2.1 A.2.2.1 A.2.2.2.1
  refine c_X8_attachWay (v_X8_attachWay_0 ?_)
  rw [ahd1 A.1 A.2.1 A.2.2.1]
  refine aw_y hL hd (by decide) hf.1 (by decide) (x6' := a0) (o16 (by omega) (by omega) (by omega) (by omega) (by omega)) (x9' := 0) (by decide) (i' := 2) (by decide) ?_
  refine aw_n hL hd (by decide) hf.2.1 (by decide) (x7' := a1) (o16 (by omega) (by omega) (by omega) (by omega) (by omega)) (x8' := 1) (by decide) (i' := 1) (by decide) ?_
  refine aw_y hL hd (by decide) hf.2.2.1 (by decide) (x6' := 16 * a0 + a2) (o16 (by omega) (by omega) (by omega) (by omega) (by omega)) (x9' := 1) (by decide) (i' := 0) (by decide) ?_
  refine aw_y hL hd (by decide) hf.2.2.2 (by decide) (x6' := 256 * a0 + 16 * a2 + b0) (o16 (by omega) (by omega) (by omega) (by omega) (by omega)) (x9' := 2) (by decide) (i' := -1) (by decide) ?_
  exact bw_e (w := ((1 : Int), (a0, a2, b0), a1, b1, b2)) hL hd (by decide) ⟨Or.inl rfl, ⟨A.1, A.2.2.1, A.2.2.2.1⟩, A.2.1, A.2.2.2.2.1, A.2.2.2.2.2⟩ h0 h1 rfl (sec1 A.2.1 A.2.2.2.1 A.2.2.2.2.1 A.2.2.2.2.2) (Or.inl ⟨by decide, rfl⟩) h
theorem bw_1_7 {P : Int → Mem → Prop} {σ : Mem} {a0 a1 a2 b0 b1 b2 : Int} (hL : StrL N Λ c) (hd : 2 ≤ d) (A : (0 ≤ a0 ∧ a0 < 10) ∧ (0 ≤ a1 ∧ a1 < 10) ∧ (0 ≤ a2 ∧ a2 < 10) ∧ (0 ≤ b0 ∧ b0 < 10) ∧ (0 ≤ b1 ∧ b1 < 10) ∧ 0 ≤ b2 ∧ b2 < 10) (h0 : σ (c + 1) 0 = 0) (h1 : σ (c + 1) 1 = 1) (h : AwV c ((-1 : Int), (a1, a2, b0), a0, b1, b2) P σ) : CI l mX8_attachWay d [(2, c), (0, shrI (256 * a0 + 16 * a1 + a2) (mulI 4 (subI 4 1))), (0, 4096 * a0 + 256 * a1 + 16 * a2 + b0), (0, 7), (0, 256 * b0 + 16 * b1 + b2), (0, 8)] N Λ σ P := by
  have hf := fr_e (x := a0) (y := a1) (z := a2) (u := b0) A.1 A.2.1 A.2.2.1 A.2.2.2.1
  refine c_X8_attachWay (v_X8_attachWay_0 ?_)
  rw [ahd1 A.1 A.2.1 A.2.2.1]
  refine aw_n hL hd (by decide) hf.1 (by decide) (x7' := a0) (o16 (by omega) (by omega) (by omega) (by omega) (by omega)) (x8' := 1) (by decide) (i' := 2) (by decide) ?_
  refine aw_y hL hd (by decide) hf.2.1 (by decide) (x6' := a1) (o16 (by omega) (by omega) (by omega) (by omega) (by omega)) (x9' := 1) (by decide) (i' := 1) (by decide) ?_
  refine aw_y hL hd (by decide) hf.2.2.1 (by decide) (x6' := 16 * a1 + a2) (o16 (by omega) (by omega) (by omega) (by omega) (by omega)) (x9' := 2) (by decide) (i' := 0) (by decide) ?_
  refine aw_y hL hd (by decide) hf.2.2.2 (by decide) (x6' := 256 * a1 + 16 * a2 + b0) (o16 (by omega) (by omega) (by omega) (by omega) (by omega)) (x9' := 3) (by decide) (i' := -1) (by decide) ?_
  exact bw_e (w := ((-1 : Int), (a1, a2, b0), a0, b1, b2)) hL hd (by decide) ⟨Or.inr rfl, ⟨A.2.1, A.2.2.1, A.2.2.2.1⟩, A.1, A.2.2.2.2.1, A.2.2.2.2.2⟩ h0 h1 rfl (sec1 A.1 A.2.2.2.1 A.2.2.2.2.1 A.2.2.2.2.2) (Or.inr ⟨by decide, rfl⟩) h
theorem ky_1 {P : Int → Mem → Prop} {σ : Mem} {a0 a1 a2 b0 b1 b2 : Int} (hL : StrL N Λ c) (hA : PolyL N Λ a) (hca : c + 1 ≠ a ∧ c + 1 ≠ a + 1 ∧ c + 1 ≠ a + 2) (hd : 4 ≤ d) (A : (0 ≤ a0 ∧ a0 < 10) ∧ (0 ≤ a1 ∧ a1 < 10) ∧ (0 ≤ a2 ∧ a2 < 10) ∧ (0 ≤ b0 ∧ b0 < 10) ∧ (0 ≤ b1 ∧ b1 < 10) ∧ 0 ≤ b2 ∧ b2 < 10) (hz : σ a 2 = 0) (hv : VK (σ (c + 1) 0)) (h : ∀ σ' m ts, m ≤ 40 → ts = exR (ways1 a0 a1 a2 b0 b1 b2) [] → LxV σ σ' c a m ts → P 0 σ') : CI l mX8_layExchange d [(2, c), (2, a), (0, 256 * a0 + 16 * a1 + a2), (0, 256 * b0 + 16 * b1 + b2), (0, 1), (1, 0), (1, 1)] N Λ σ P := by
  refine c_X8_layExchange (v_X8_layExchange_0 fun y1 e1 y2 e2 => ?_)
  rw [show mulI 4 (subI 3 1) = 8 by decide] at e1
  subst e1
  rw [fou1 A.1 A.2.1 A.2.2.1 A.2.2.2.1 A.2.2.2.2.1 A.2.2.2.2.2] at e2
  subst e2
  have hI0 : LxV σ σ c a 0 [] := ⟨⟨Nat.le_refl 0, fun e he => by simp at he⟩, ⟨hz, fun i e he => by simp at he⟩, fun i j a c _ ha _ => by simp at ha, fun _ _ _ _ _ => rfl, hv⟩
  refine lx_skip hL hA hd (by decide) (by decide) (i' := 14) (by decide) ?_
  refine ly_do ((1 : Int), (a0, a1, a2), b0, b1, b2) hL hA hca hd (by decide) (by decide) (i' := 13) (by decide) (by decide) ⟨Or.inl rfl, ⟨A.1, A.2.1, A.2.2.1⟩, A.2.2.2.1, A.2.2.2.2.1, A.2.2.2.2.2⟩ hI0 (fun Q τ z0 z1 hq => bw_1_14 hL (by omega) A z0 z1 hq) fun σ1 hI1 => ?_
  refine ly_do ((-1 : Int), (a0, a1, b0), a2, b1, b2) hL hA hca hd (by decide) (by decide) (i' := 12) (by decide) (by decide) ⟨Or.inr rfl, ⟨A.1, A.2.1, A.2.2.2.1⟩, A.2.2.1, A.2.2.2.2.1, A.2.2.2.2.2⟩ hI1 (fun Q τ z0 z1 hq => bw_1_13 hL (by omega) A z0 z1 hq) fun σ2 hI2 => ?_
  refine lx_skip hL hA hd (by decide) (by decide) (i' := 11) (by decide) ?_
  refine ly_do ((1 : Int), (a0, a2, b0), a1, b1, b2) hL hA hca hd (by decide) (by decide) (i' := 10) (by decide) (by decide) ⟨Or.inl rfl, ⟨A.1, A.2.2.1, A.2.2.2.1⟩, A.2.1, A.2.2.2.2.1, A.2.2.2.2.2⟩ hI2 (fun Q τ z0 z1 hq => bw_1_11 hL (by omega) A z0 z1 hq) fun σ3 hI3 => ?_
  refine lx_skip hL hA hd (by decide) (by decide) (i' := 9) (by decide) ?_
  refine lx_skip hL hA hd (by decide) (by decide) (i' := 8) (by decide) ?_
  refine lx_skip hL hA hd (by decide) (by decide) (i' := 7) (by decide) ?_
  refine ly_do ((-1 : Int), (a1, a2, b0), a0, b1, b2) hL hA hca hd (by decide) (by decide) (i' := 6) (by decide) (by decide) ⟨Or.inr rfl, ⟨A.2.1, A.2.2.1, A.2.2.2.1⟩, A.1, A.2.2.2.2.1, A.2.2.2.2.2⟩ hI3 (fun Q τ z0 z1 hq => bw_1_7 hL (by omega) A z0 z1 hq) fun σ4 hI4 => ?_
  refine lx_skip hL hA hd (by decide) (by decide) (i' := 5) (by decide) ?_
  refine lx_skip hL hA hd (by decide) (by decide) (i' := 4) (by decide) ?_
  refine lx_skip hL hA hd (by decide) (by decide) (i' := 3) (by decide) ?_
  refine lx_skip hL hA hd (by decide) (by decide) (i' := 2) (by decide) ?_
  refine lx_skip hL hA hd (by decide) (by decide) (i' := 1) (by decide) ?_
  refine lx_skip hL hA hd (by decide) (by decide) (i' := 0) (by decide) ?_
  refine lx_skip hL hA hd (by decide) (by decide) (i' := -1) (by decide) ?_
  exact v_X8_layExchange_31 hL.1 hL.2.1 hL.2.2 hA.1 (by omega) ⟨fun _ => h _ _ _ (by decide) rfl hI4, fun hc => absurd (by decide) hc⟩
theorem bw_2_12 {P : Int → Mem → Prop} {σ : Mem} {a0 a1 a2 b0 b1 b2 : Int} (hL : StrL N Λ c) (hd : 2 ≤ d) (A : (0 ≤ a0 ∧ a0 < 10) ∧ (0 ≤ a1 ∧ a1 < 10) ∧ (0 ≤ a2 ∧ a2 < 10) ∧ (0 ≤ b0 ∧ b0 < 10) ∧ (0 ≤ b1 ∧ b1 < 10) ∧ 0 ≤ b2 ∧ b2 < 10) (h0 : σ (c + 1) 0 = 0) (h1 : σ (c + 1) 1 = 1) (h : AwV c ((1 : Int), (a0, a1, a2), b0, b1, b2) P σ) : CI l mX8_attachWay d [(2, c), (0, shrI (256 * a0 + 16 * a1 + a2) (mulI 4 (subI 4 2))), (0, 4096 * a1 + 256 * a2 + 16 * b0 + b1), (0, 12), (0, 256 * b0 + 16 * b1 + b2), (0, 4)] N Λ σ P := by
  have hf := fr_e (x := a1) (y := a2) (z := b0) (u := b1) A.2.1 A.2.2.1 A.2.2.2.1 A.2.2.2.2.1
  refine c_X8_attachWay (v_X8_attachWay_0 ?_)
  rw [ahd2 A.1 A.2.1 A.2.2.1]
  refine aw_y hL hd (by decide) hf.1 (by decide) (x6' := 16 * a0 + a1) (o16 (by omega) (by omega) (by omega) (by omega) (by omega)) (x9' := 0) (by decide) (i' := 2) (by decide) ?_
  refine aw_y hL hd (by decide) hf.2.1 (by decide) (x6' := 256 * a0 + 16 * a1 + a2) (o16 (by omega) (by omega) (by omega) (by omega) (by omega)) (x9' := 0) (by decide) (i' := 1) (by decide) ?_
  refine aw_n hL hd (by decide) hf.2.2.1 (by decide) (x7' := b0) (o16 (by omega) (by omega) (by omega) (by omega) (by omega)) (x8' := 1) (by decide) (i' := 0) (by decide) ?_
  refine aw_n hL hd (by decide) hf.2.2.2 (by decide) (x7' := 16 * b0 + b1) (o16 (by omega) (by omega) (by omega) (by omega) (by omega)) (x8' := 2) (by decide) (i' := -1) (by decide) ?_
  exact bw_e (w := ((1 : Int), (a0, a1, a2), b0, b1, b2)) hL hd (by decide) ⟨Or.inl rfl, ⟨A.1, A.2.1, A.2.2.1⟩, A.2.2.2.1, A.2.2.2.2.1, A.2.2.2.2.2⟩ h0 h1 rfl (sec2 A.2.2.2.1 A.2.2.2.2.1 A.2.2.2.1 A.2.2.2.2.1 A.2.2.2.2.2) (Or.inl ⟨by decide, rfl⟩) h
theorem bw_2_10 {P : Int → Mem → Prop} {σ : Mem} {a0 a1 a2 b0 b1 b2 : Int} (hL : StrL N Λ c) (hd : 2 ≤ d) (A : (0 ≤ a0 ∧ a0 < 10) ∧ (0 ≤ a1 ∧ a1 < 10) ∧ (0 ≤ a2 ∧ a2 < 10) ∧ (0 ≤ b0 ∧ b0 < 10) ∧ (0 ≤ b1 ∧ b1 < 10) ∧ 0 ≤ b2 ∧ b2 < 10) (h0 : σ (c + 1) 0 = 0) (h1 : σ (c + 1) 1 = 1) (h : AwV c ((-1 : Int), (a0, a1, b0), a2, b1, b2) P σ) : CI l mX8_attachWay d [(2, c), (0, shrI (256 * a0 + 16 * a1 + a2) (mulI 4 (subI 4 2))), (0, 4096 * a1 + 256 * a2 + 16 * b0 + b1), (0, 10), (0, 256 * b0 + 16 * b1 + b2), (0, 4)] N Λ σ P := by
  have hf := fr_e (x := a1) (y := a2) (z := b0) (u := b1) A.2.1 A.2.2.1 A.2.2.2.1 A.2.2.2.2.1
  refine c_X8_attachWay (v_X8_attachWay_0 ?_)
  rw [ahd2 A.1 A.2.1 A.2.2.1]
  refine aw_y hL hd (by decide) hf.1 (by decide) (x6' := 16 * a0 + a1) (o16 (by omega) (by omega) (by omega) (by omega) (by omega)) (x9' := 0) (by decide) (i' := 2) (by decide) ?_
  refine aw_n hL hd (by decide) hf.2.1 (by decide) (x7' := a2) (o16 (by omega) (by omega) (by omega) (by omega) (by omega)) (x8' := 1) (by decide) (i' := 1) (by decide) ?_
  refine aw_y hL hd (by decide) hf.2.2.1 (by decide) (x6' := 256 * a0 + 16 * a1 + b0) (o16 (by omega) (by omega) (by omega) (by omega) (by omega)) (x9' := 1) (by decide) (i' := 0) (by decide) ?_
  refine aw_n hL hd (by decide) hf.2.2.2 (by decide) (x7' := 16 * a2 + b1) (o16 (by omega) (by omega) (by omega) (by omega) (by omega)) (x8' := 2) (by decide) (i' := -1) (by decide) ?_
  exact bw_e (w := ((-1 : Int), (a0, a1, b0), a2, b1, b2)) hL hd (by decide) ⟨Or.inr rfl, ⟨A.1, A.2.1, A.2.2.2.1⟩, A.2.2.1, A.2.2.2.2.1, A.2.2.2.2.2⟩ h0 h1 rfl (sec2 A.2.2.1 A.2.2.2.2.1 A.2.2.2.1 A.2.2.2.2.1 A.2.2.2.2.2) (Or.inr ⟨by decide, rfl⟩) h
theorem bw_2_9 {P : Int → Mem → Prop} {σ : Mem} {a0 a1 a2 b0 b1 b2 : Int} (hL : StrL N Λ c) (hd : 2 ≤ d) (A : (0 ≤ a0 ∧ a0 < 10) ∧ (0 ≤ a1 ∧ a1 < 10) ∧ (0 ≤ a2 ∧ a2 < 10) ∧ (0 ≤ b0 ∧ b0 < 10) ∧ (0 ≤ b1 ∧ b1 < 10) ∧ 0 ≤ b2 ∧ b2 < 10) (h0 : σ (c + 1) 0 = 0) (h1 : σ (c + 1) 1 = 1) (h : AwV c ((1 : Int), (a0, a1, b1), a2, b0, b2) P σ) : CI l mX8_attachWay d [(2, c), (0, shrI (256 * a0 + 16 * a1 + a2) (mulI 4 (subI 4 2))), (0, 4096 * a1 + 256 * a2 + 16 * b0 + b1), (0, 9), (0, 256 * b0 + 16 * b1 + b2), (0, 4)] N Λ σ P := by
  have hf := fr_e (x := a1) (y := a2) (z := b0) (u := b1) A.2.1 A.2.2.1 A.2.2.2.1 A.2.2.2.2.1
  refine c_X8_attachWay (v_X8_attachWay_0 ?_)
  rw [ahd2 A.1 A.2.1 A.2.2.1]
  refine aw_y hL hd (by decide) hf.1 (by decide) (x6' := 16 * a0 + a1) (o16 (by omega) (by omega) (by omega) (by omega) (by omega)) (x9' := 0) (by decide) (i' := 2) (by decide) ?_
  refine aw_n hL hd (by decide) hf.2.1 (by decide) (x7' := a2) (o16 (by omega) (by omega) (by omega) (by omega) (by omega)) (x8' := 1) (by decide) (i' := 1) (by decide) ?_
  refine aw_n hL hd (by decide) hf.2.2.1 (by decide) (x7' := 16 * a2 + b0) (o16 (by omega) (by omega) (by omega) (by omega) (by omega)) (x8' := 2) (by decide) (i' := 0) (by decide) ?_
  refine aw_y hL hd (by decide) hf.2.2.2 (by decide) (x6' := 256 * a0 + 16 * a1 + b1) (o16 (by omega) (by omega) (by omega) (by omega) (by omega)) (x9' := 2) (by decide) (i' := -1) (by decide) ?_
  exact bw_e (w := ((1 : Int), (a0, a1, b1), a2, b0, b2)) hL hd (by decide) ⟨Or.inl rfl, ⟨A.1, A.2.1, A.2.2.2.2.1⟩, A.2.2.1, A.2.2.2.1, A.2.2.2.2.2⟩ h0 h1 rfl (sec2 A.2.2.1 A.2.2.2.1 A.2.2.2.1 A.2.2.2.2.1 A.2.2.2.2.2) (Or.inl ⟨by decide, rfl⟩) h
theorem bw_2_6 {P : Int → Mem → Prop} {σ : Mem} {a0 a1 a2 b0 b1 b2 : Int} (hL : StrL N Λ c) (hd : 2 ≤ d) (A : (0 ≤ a0 ∧ a0 < 10) ∧ (0 ≤ a1 ∧ a1 < 10) ∧ (0 ≤ a2 ∧ a2 < 10) ∧ (0 ≤ b0 ∧ b0 < 10) ∧ (0 ≤ b1 ∧ b1 < 10) ∧ 0 ≤ b2 ∧ b2 < 10) (h0 : σ (c + 1) 0 = 0) (h1 : σ (c + 1) 1 = 1) (h : AwV c ((1 : Int), (a0, a2, b0), a1, b1, b2) P σ) : CI l mX8_attachWay d [(2, c), (0, shrI (256 * a0 + 16 * a1 + a2) (mulI 4 (subI 4 2))), (0, 4096 * a1 + 256 * a2 + 16 * b0 + b1), (0, 6), (0, 256 * b0 + 16 * b1 + b2), (0, 4)] N Λ σ P := by
  have hf := fr_e (x := a1) (y := a2) (z := b0) (u := b1) A.2.1 A.2.2.1 A.2.2.2.1 A.2.2.2.2.1
  refine c_X8_attachWay (v_X8_attachWay_0 ?_)
  rw [ahd2 A.1 A.2.1 A.2.2.1]
  refine aw_n hL hd (by decide) hf.1 (by decide) (x7' := a1) (o16 (by omega) (by omega) (by omega) (by omega) (by omega)) (x8' := 1) (by decide) (i' := 2) (by decide) ?_
  refine aw_y hL hd (by decide) hf.2.1 (by decide) (x6' := 16 * a0 + a2) (o16 (by omega) (by omega) (by omega) (by omega) (by omega)) (x9' := 1) (by decide) (i' := 1) (by decide) ?_
  refine aw_y hL hd (by decide) hf.2.2.1 (by decide) (x6' := 256 * a0 + 16 * a2 + b0) (o16 (by omega) (by omega) (by omega) (by omega) (by omega)) (x9' := 2) (by decide) (i' := 0) (by decide) ?_
  refine aw_n hL hd (by decide) hf.2.2.2 (by decide) (x7' := 16 * a1 + b1) (o16 (by omega) (by omega) (by omega) (by omega) (by omega)) (x8' := 2) (by decide) (i' := -1) (by decide) ?_
  exact bw_e (w := ((1 : Int), (a0, a2, b0), a1, b1, b2)) hL hd (by decide) ⟨Or.inl rfl, ⟨A.1, A.2.2.1, A.2.2.2.1⟩, A.2.1, A.2.2.2.2.1, A.2.2.2.2.2⟩ h0 h1 rfl (sec2 A.2.1 A.2.2.2.2.1 A.2.2.2.1 A.2.2.2.2.1 A.2.2.2.2.2) (Or.inl ⟨by decide, rfl⟩) h
theorem bw_2_5 {P : Int → Mem → Prop} {σ : Mem} {a0 a1 a2 b0 b1 b2 : Int} (hL : StrL N Λ c) (hd : 2 ≤ d) (A : (0 ≤ a0 ∧ a0 < 10) ∧ (0 ≤ a1 ∧ a1 < 10) ∧ (0 ≤ a2 ∧ a2 < 10) ∧ (0 ≤ b0 ∧ b0 < 10) ∧ (0 ≤ b1 ∧ b1 < 10) ∧ 0 ≤ b2 ∧ b2 < 10) (h0 : σ (c + 1) 0 = 0) (h1 : σ (c + 1) 1 = 1) (h : AwV c ((-1 : Int), (a0, a2, b1), a1, b0, b2) P σ) : CI l mX8_attachWay d [(2, c), (0, shrI (256 * a0 + 16 * a1 + a2) (mulI 4 (subI 4 2))), (0, 4096 * a1 + 256 * a2 + 16 * b0 + b1), (0, 5), (0, 256 * b0 + 16 * b1 + b2), (0, 4)] N Λ σ P := by
  have hf := fr_e (x := a1) (y := a2) (z := b0) (u := b1) A.2.1 A.2.2.1 A.2.2.2.1 A.2.2.2.2.1
  refine c_X8_attachWay (v_X8_attachWay_0 ?_)
  rw [ahd2 A.1 A.2.1 A.2.2.1]
  refine aw_n hL hd (by decide) hf.1 (by decide) (x7' := a1) (o16 (by omega) (by omega) (by omega) (by omega) (by omega)) (x8' := 1) (by decide) (i' := 2) (by decide) ?_
  refine aw_y hL hd (by decide) hf.2.1 (by decide) (x6' := 16 * a0 + a2) (o16 (by omega) (by omega) (by omega) (by omega) (by omega)) (x9' := 1) (by decide) (i' := 1) (by decide) ?_
  refine aw_n hL hd (by decide) hf.2.2.1 (by decide) (x7' := 16 * a1 + b0) (o16 (by omega) (by omega) (by omega) (by omega) (by omega)) (x8' := 2) (by decide) (i' := 0) (by decide) ?_
  refine aw_y hL hd (by decide) hf.2.2.2 (by decide) (x6' := 256 * a0 + 16 * a2 + b1) (o16 (by omega) (by omega) (by omega) (by omega) (by omega)) (x9' := 3) (by decide) (i' := -1) (by decide) ?_
  exact bw_e (w := ((-1 : Int), (a0, a2, b1), a1, b0, b2)) hL hd (by decide) ⟨Or.inr rfl, ⟨A.1, A.2.2.1, A.2.2.2.2.1⟩, A.2.1, A.2.2.2.1, A.2.2.2.2.2⟩ h0 h1 rfl (sec2 A.2.1 A.2.2.2.1 A.2.2.2.1 A.2.2.2.2.1 A.2.2.2.2.2) (Or.inr ⟨by decide, rfl⟩) h
theorem bw_2_3 {P : Int → Mem → Prop} {σ : Mem} {a0 a1 a2 b0 b1 b2 : Int} (hL : StrL N Λ c) (hd : 2 ≤ d) (A : (0 ≤ a0 ∧ a0 < 10) ∧ (0 ≤ a1 ∧ a1 < 10) ∧ (0 ≤ a2 ∧ a2 < 10) ∧ (0 ≤ b0 ∧ b0 < 10) ∧ (0 ≤ b1 ∧ b1 < 10) ∧ 0 ≤ b2 ∧ b2 < 10) (h0 : σ (c + 1) 0 = 0) (h1 : σ (c + 1) 1 = 1) (h : AwV c ((1 : Int), (a0, b0, b1), a1, a2, b2) P σ) : CI l mX8_attachWay d [(2, c), (0, shrI (256 * a0 + 16 * a1 + a2) (mulI 4 (subI 4 2))), (0, 4096 * a1 + 256 * a2 + 16 * b0 + b1), (0, 3), (0, 256 * b0 + 16 * b1 + b2), (0, 4)] N Λ σ P := by
  have hf := fr_e (x := a1) (y := a2) (z := b0) (u := b1) A.2.1 A.2.2.1 A.2.2.2.1 A.2.2.2.2.1
  refine c_X8_attachWay (v_X8_attachWay_0 ?_)
  rw [ahd2 A.1 A.2.1 A.2.2.1]
  refine aw_n hL hd (by decide) hf.1 (by decide) (x7' := a1) (o16 (by omega) (by omega) (by omega) (by omega) (by omega)) (x8' := 1) (by decide) (i' := 2) (by decide) ?_
  refine aw_n hL hd (by decide) hf.2.1 (by decide) (x7' := 16 * a1 + a2) (o16 (by omega) (by omega) (by omega) (by omega) (by omega)) (x8' := 2) (by decide) (i' := 1) (by decide) ?_
  refine aw_y hL hd (by decide) hf.2.2.1 (by decide) (x6' := 16 * a0 + b0) (o16 (by omega) (by omega) (by omega) (by omega) (by omega)) (x9' := 2) (by decide) (i' := 0) (by decide) ?_
  refine aw_y hL hd (by decide) hf.2.2.2 (by decide) (x6' := 256 * a0 + 16 * b0 + b1) (o16 (by omega) (by omega) (by omega) (by omega) (by omega)) (x9' := 4) (by decide) (i' := -1) (by decide) ?_
  exact bw_e (w := ((1 : Int), (a0, b0, b1), a1, a2, b2)) hL hd (by decide) ⟨Or.inl rfl, ⟨A.1, A.2.2.2.1, A.2.2.2.2.1⟩, A.2.1, A.2.2.1, A.2.2.2.2.2⟩ h0 h1 rfl (sec2 A.2.1 A.2.2.1 A.2.2.2.1 A.2.2.2.2.1 A.2.2.2.2.2) (Or.inl ⟨by decide, rfl⟩) h
theorem ky_2 {P : Int → Mem → Prop} {σ : Mem} {a0 a1 a2 b0 b1 b2 : Int} (hL : StrL N Λ c) (hA : PolyL N Λ a) (hca : c + 1 ≠ a ∧ c + 1 ≠ a + 1 ∧ c + 1 ≠ a + 2) (hd : 4 ≤ d) (A : (0 ≤ a0 ∧ a0 < 10) ∧ (0 ≤ a1 ∧ a1 < 10) ∧ (0 ≤ a2 ∧ a2 < 10) ∧ (0 ≤ b0 ∧ b0 < 10) ∧ (0 ≤ b1 ∧ b1 < 10) ∧ 0 ≤ b2 ∧ b2 < 10) (hz : σ a 2 = 0) (hv : VK (σ (c + 1) 0)) (h : ∀ σ' m ts, m ≤ 40 → ts = exR (ways2 a0 a1 a2 b0 b1 b2) [] → LxV σ σ' c a m ts → P 0 σ') : CI l mX8_layExchange d [(2, c), (2, a), (0, 256 * a0 + 16 * a1 + a2), (0, 256 * b0 + 16 * b1 + b2), (0, 2), (1, 0), (1, 1)] N Λ σ P := by
  refine c_X8_layExchange (v_X8_layExchange_0 fun y1 e1 y2 e2 => ?_)
  rw [show mulI 4 (subI 3 2) = 4 by decide] at e1
  subst e1
  rw [fou2 A.1 A.2.1 A.2.2.1 A.2.2.2.1 A.2.2.2.2.1 A.2.2.2.2.2] at e2
  subst e2
  have hI0 : LxV σ σ c a 0 [] := ⟨⟨Nat.le_refl 0, fun e he => by simp at he⟩, ⟨hz, fun i e he => by simp at he⟩, fun i j a c _ ha _ => by simp at ha, fun _ _ _ _ _ => rfl, hv⟩
  refine lx_skip hL hA hd (by decide) (by decide) (i' := 14) (by decide) ?_
  refine lx_skip hL hA hd (by decide) (by decide) (i' := 13) (by decide) ?_
  refine lx_skip hL hA hd (by decide) (by decide) (i' := 12) (by decide) ?_
  refine ly_do ((1 : Int), (a0, a1, a2), b0, b1, b2) hL hA hca hd (by decide) (by decide) (i' := 11) (by decide) (by decide) ⟨Or.inl rfl, ⟨A.1, A.2.1, A.2.2.1⟩, A.2.2.2.1, A.2.2.2.2.1, A.2.2.2.2.2⟩ hI0 (fun Q τ z0 z1 hq => bw_2_12 hL (by omega) A z0 z1 hq) fun σ1 hI1 => ?_
  refine lx_skip hL hA hd (by decide) (by decide) (i' := 10) (by decide) ?_
  refine ly_do ((-1 : Int), (a0, a1, b0), a2, b1, b2) hL hA hca hd (by decide) (by decide) (i' := 9) (by decide) (by decide) ⟨Or.inr rfl, ⟨A.1, A.2.1, A.2.2.2.1⟩, A.2.2.1, A.2.2.2.2.1, A.2.2.2.2.2⟩ hI1 (fun Q τ z0 z1 hq => bw_2_10 hL (by omega) A z0 z1 hq) fun σ2 hI2 => ?_
  refine ly_do ((1 : Int), (a0, a1, b1), a2, b0, b2) hL hA hca hd (by decide) (by decide) (i' := 8) (by decide) (by decide) ⟨Or.inl rfl, ⟨A.1, A.2.1, A.2.2.2.2.1⟩, A.2.2.1, A.2.2.2.1, A.2.2.2.2.2⟩ hI2 (fun Q τ z0 z1 hq => bw_2_9 hL (by omega) A z0 z1 hq) fun σ3 hI3 => ?_
  refine lx_skip hL hA hd (by decide) (by decide) (i' := 7) (by decide) ?_
  refine lx_skip hL hA hd (by decide) (by decide) (i' := 6) (by decide) ?_
  refine ly_do ((1 : Int), (a0, a2, b0), a1, b1, b2) hL hA hca hd (by decide) (by decide) (i' := 5) (by decide) (by decide) ⟨Or.inl rfl, ⟨A.1, A.2.2.1, A.2.2.2.1⟩, A.2.1, A.2.2.2.2.1, A.2.2.2.2.2⟩ hI3 (fun Q τ z0 z1 hq => bw_2_6 hL (by omega) A z0 z1 hq) fun σ4 hI4 => ?_
  refine ly_do ((-1 : Int), (a0, a2, b1), a1, b0, b2) hL hA hca hd (by decide) (by decide) (i' := 4) (by decide) (by decide) ⟨Or.inr rfl, ⟨A.1, A.2.2.1, A.2.2.2.2.1⟩, A.2.1, A.2.2.2.1, A.2.2.2.2.2⟩ hI4 (fun Q τ z0 z1 hq => bw_2_5 hL (by omega) A z0 z1 hq) fun σ5 hI5 => ?_
  refine lx_skip hL hA hd (by decide) (by decide) (i' := 3) (by decide) ?_
  refine ly_do ((1 : Int), (a0, b0, b1), a1, a2, b2) hL hA hca hd (by decide) (by decide) (i' := 2) (by decide) (by decide) ⟨Or.inl rfl, ⟨A.1, A.2.2.2.1, A.2.2.2.2.1⟩, A.2.1, A.2.2.1, A.2.2.2.2.2⟩ hI5 (fun Q τ z0 z1 hq => bw_2_3 hL (by omega) A z0 z1 hq) fun σ6 hI6 => ?_
  refine lx_skip hL hA hd (by decide) (by decide) (i' := 1) (by decide) ?_
  refine lx_skip hL hA hd (by decide) (by decide) (i' := 0) (by decide) ?_
  refine lx_skip hL hA hd (by decide) (by decide) (i' := -1) (by decide) ?_
  exact v_X8_layExchange_31 hL.1 hL.2.1 hL.2.2 hA.1 (by omega) ⟨fun _ => h _ _ _ (by decide) rfl hI6, fun hc => absurd (by decide) hc⟩
theorem bw_3_8 {P : Int → Mem → Prop} {σ : Mem} {a0 a1 a2 b0 b1 b2 : Int} (hL : StrL N Λ c) (hd : 2 ≤ d) (A : (0 ≤ a0 ∧ a0 < 10) ∧ (0 ≤ a1 ∧ a1 < 10) ∧ (0 ≤ a2 ∧ a2 < 10) ∧ (0 ≤ b0 ∧ b0 < 10) ∧ (0 ≤ b1 ∧ b1 < 10) ∧ 0 ≤ b2 ∧ b2 < 10) (h0 : σ (c + 1) 0 = 0) (h1 : σ (c + 1) 1 = 1) (h : AwV c ((1 : Int), (a0, a1, a2), b0, b1, b2) P σ) : CI l mX8_attachWay d [(2, c), (0, shrI (256 * a0 + 16 * a1 + a2) (mulI 4 (subI 4 3))), (0, 4096 * a2 + 256 * b0 + 16 * b1 + b2), (0, 8), (0, 256 * b0 + 16 * b1 + b2), (0, 0)] N Λ σ P := by
  have hf := fr_e (x := a2) (y := b0) (z := b1) (u := b2) A.2.2.1 A.2.2.2.1 A.2.2.2.2.1 A.2.2.2.2.2
  refine c_X8_attachWay (v_X8_attachWay_0 ?_)
  rw [ahd3 A.1 A.2.1 A.2.2.1]
  refine aw_y hL hd (by decide) hf.1 (by decide) (x6' := 256 * a0 + 16 * a1 + a2) (o16 (by omega) (by omega) (by omega) (by omega) (by omega)) (x9' := 0) (by decide) (i' := 2) (by decide) ?_
  refine aw_n hL hd (by decide) hf.2.1 (by decide) (x7' := b0) (o16 (by omega) (by omega) (by omega) (by omega) (by omega)) (x8' := 1) (by decide) (i' := 1) (by decide) ?_
  refine aw_n hL hd (by decide) hf.2.2.1 (by decide) (x7' := 16 * b0 + b1) (o16 (by omega) (by omega) (by omega) (by omega) (by omega)) (x8' := 2) (by decide) (i' := 0) (by decide) ?_
  refine aw_n hL hd (by decide) hf.2.2.2 (by decide) (x7' := 256 * b0 + 16 * b1 + b2) (o16 (by omega) (by omega) (by omega) (by omega) (by omega)) (x8' := 3) (by decide) (i' := -1) (by decide) ?_
  exact bw_e (w := ((1 : Int), (a0, a1, a2), b0, b1, b2)) hL hd (by decide) ⟨Or.inl rfl, ⟨A.1, A.2.1, A.2.2.1⟩, A.2.2.2.1, A.2.2.2.2.1, A.2.2.2.2.2⟩ h0 h1 rfl (sec3 A.2.2.2.1 A.2.2.2.2.1 A.2.2.2.2.2 A.2.2.2.1 A.2.2.2.2.1 A.2.2.2.2.2) (Or.inl ⟨by decide, rfl⟩) h
theorem bw_3_4 {P : Int → Mem → Prop} {σ : Mem} {a0 a1 a2 b0 b1 b2 : Int} (hL : StrL N Λ c) (hd : 2 ≤ d) (A : (0 ≤ a0 ∧ a0 < 10) ∧ (0 ≤ a1 ∧ a1 < 10) ∧ (0 ≤ a2 ∧ a2 < 10) ∧ (0 ≤ b0 ∧ b0 < 10) ∧ (0 ≤ b1 ∧ b1 < 10) ∧ 0 ≤ b2 ∧ b2 < 10) (h0 : σ (c + 1) 0 = 0) (h1 : σ (c + 1) 1 = 1) (h : AwV c ((-1 : Int), (a0, a1, b0), a2, b1, b2) P σ) : CI l mX8_attachWay d [(2, c), (0, shrI (256 * a0 + 16 * a1 + a2) (mulI 4 (subI 4 3))), (0, 4096 * a2 + 256 * b0 + 16 * b1 + b2), (0, 4), (0, 256 * b0 + 16 * b1 + b2), (0, 0)] N Λ σ P := by
  have hf := fr_e (x := a2) (y := b0) (z := b1) (u := b2) A.2.2.1 A.2.2.2.1 A.2.2.2.2.1 A.2.2.2.2.2
  refine c_X8_attachWay (v_X8_attachWay_0 ?_)
  rw [ahd3 A.1 A.2.1 A.2.2.1]
  refine aw_n hL hd (by decide) hf.1 (by decide) (x7' := a2) (o16 (by omega) (by omega) (by omega) (by omega) (by omega)) (x8' := 1) (by decide) (i' := 2) (by decide) ?_
  refine aw_y hL hd (by decide) hf.2.1 (by decide) (x6' := 256 * a0 + 16 * a1 + b0) (o16 (by omega) (by omega) (by omega) (by omega) (by omega)) (x9' := 1) (by decide) (i' := 1) (by decide) ?_
  refine aw_n hL hd (by decide) hf.2.2.1 (by decide) (x7' := 16 * a2 + b1) (o16 (by omega) (by omega) (by omega) (by omega) (by omega)) (x8' := 2) (by decide) (i' := 0) (by decide) ?_
  refine aw_n hL hd (by decide) hf.2.2.2 (by decide) (x7' := 256 * a2 + 16 * b1 + b2) (o16 (by omega) (by omega) (by omega) (by omega) (by omega)) (x8' := 3) (by decide) (i' := -1) (by decide) ?_
  exact bw_e (w := ((-1 : Int), (a0, a1, b0), a2, b1, b2)) hL hd (by decide) ⟨Or.inr rfl, ⟨A.1, A.2.1, A.2.2.2.1⟩, A.2.2.1, A.2.2.2.2.1, A.2.2.2.2.2⟩ h0 h1 rfl (sec3 A.2.2.1 A.2.2.2.2.1 A.2.2.2.2.2 A.2.2.2.1 A.2.2.2.2.1 A.2.2.2.2.2) (Or.inr ⟨by decide, rfl⟩) h
theorem bw_3_2 {P : Int → Mem → Prop} {σ : Mem} {a0 a1 a2 b0 b1 b2 : Int} (hL : StrL N Λ c) (hd : 2 ≤ d) (A : (0 ≤ a0 ∧ a0 < 10) ∧ (0 ≤ a1 ∧ a1 < 10) ∧ (0 ≤ a2 ∧ a2 < 10) ∧ (0 ≤ b0 ∧ b0 < 10) ∧ (0 ≤ b1 ∧ b1 < 10) ∧ 0 ≤ b2 ∧ b2 < 10) (h0 : σ (c + 1) 0 = 0) (h1 : σ (c + 1) 1 = 1) (h : AwV c ((1 : Int), (a0, a1, b1), a2, b0, b2) P σ) : CI l mX8_attachWay d [(2, c), (0, shrI (256 * a0 + 16 * a1 + a2) (mulI 4 (subI 4 3))), (0, 4096 * a2 + 256 * b0 + 16 * b1 + b2), (0, 2), (0, 256 * b0 + 16 * b1 + b2), (0, 0)] N Λ σ P := by
  have hf := fr_e (x := a2) (y := b0) (z := b1) (u := b2) A.2.2.1 A.2.2.2.1 A.2.2.2.2.1 A.2.2.2.2.2
  refine c_X8_attachWay (v_X8_attachWay_0 ?_)
  rw [ahd3 A.1 A.2.1 A.2.2.1]
  refine aw_n hL hd (by decide) hf.1 (by decide) (x7' := a2) (o16 (by omega) (by omega) (by omega) (by omega) (by omega)) (x8' := 1) (by decide) (i' := 2) (by decide) ?_
  refine aw_n hL hd (by decide) hf.2.1 (by decide) (x7' := 16 * a2 + b0) (o16 (by omega) (by omega) (by omega) (by omega) (by omega)) (x8' := 2) (by decide) (i' := 1) (by decide) ?_
  refine aw_y hL hd (by decide) hf.2.2.1 (by decide) (x6' := 256 * a0 + 16 * a1 + b1) (o16 (by omega) (by omega) (by omega) (by omega) (by omega)) (x9' := 2) (by decide) (i' := 0) (by decide) ?_
  refine aw_n hL hd (by decide) hf.2.2.2 (by decide) (x7' := 256 * a2 + 16 * b0 + b2) (o16 (by omega) (by omega) (by omega) (by omega) (by omega)) (x8' := 3) (by decide) (i' := -1) (by decide) ?_
  exact bw_e (w := ((1 : Int), (a0, a1, b1), a2, b0, b2)) hL hd (by decide) ⟨Or.inl rfl, ⟨A.1, A.2.1, A.2.2.2.2.1⟩, A.2.2.1, A.2.2.2.1, A.2.2.2.2.2⟩ h0 h1 rfl (sec3 A.2.2.1 A.2.2.2.1 A.2.2.2.2.2 A.2.2.2.1 A.2.2.2.2.1 A.2.2.2.2.2) (Or.inl ⟨by decide, rfl⟩) h
theorem bw_3_1 {P : Int → Mem → Prop} {σ : Mem} {a0 a1 a2 b0 b1 b2 : Int} (hL : StrL N Λ c) (hd : 2 ≤ d) (A : (0 ≤ a0 ∧ a0 < 10) ∧ (0 ≤ a1 ∧ a1 < 10) ∧ (0 ≤ a2 ∧ a2 < 10) ∧ (0 ≤ b0 ∧ b0 < 10) ∧ (0 ≤ b1 ∧ b1 < 10) ∧ 0 ≤ b2 ∧ b2 < 10) (h0 : σ (c + 1) 0 = 0) (h1 : σ (c + 1) 1 = 1) (h : AwV c ((-1 : Int), (a0, a1, b2), a2, b0, b1) P σ) : CI l mX8_attachWay d [(2, c), (0, shrI (256 * a0 + 16 * a1 + a2) (mulI 4 (subI 4 3))), (0, 4096 * a2 + 256 * b0 + 16 * b1 + b2), (0, 1), (0, 256 * b0 + 16 * b1 + b2), (0, 0)] N Λ σ P := by
  have hf := fr_e (x := a2) (y := b0) (z := b1) (u := b2) A.2.2.1 A.2.2.2.1 A.2.2.2.2.1 A.2.2.2.2.2
  refine c_X8_attachWay (v_X8_attachWay_0 ?_)
  rw [ahd3 A.1 A.2.1 A.2.2.1]
  refine aw_n hL hd (by decide) hf.1 (by decide) (x7' := a2) (o16 (by omega) (by omega) (by omega) (by omega) (by omega)) (x8' := 1) (by decide) (i' := 2) (by decide) ?_
  refine aw_n hL hd (by decide) hf.2.1 (by decide) (x7' := 16 * a2 + b0) (o16 (by omega) (by omega) (by omega) (by omega) (by omega)) (x8' := 2) (by decide) (i' := 1) (by decide) ?_
  refine aw_n hL hd (by decide) hf.2.2.1 (by decide) (x7' := 256 * a2 + 16 * b0 + b1) (o16 (by omega) (by omega) (by omega) (by omega) (by omega)) (x8' := 3) (by decide) (i' := 0) (by decide) ?_
  refine aw_y hL hd (by decide) hf.2.2.2 (by decide) (x6' := 256 * a0 + 16 * a1 + b2) (o16 (by omega) (by omega) (by omega) (by omega) (by omega)) (x9' := 3) (by decide) (i' := -1) (by decide) ?_
  exact bw_e (w := ((-1 : Int), (a0, a1, b2), a2, b0, b1)) hL hd (by decide) ⟨Or.inr rfl, ⟨A.1, A.2.1, A.2.2.2.2.2⟩, A.2.2.1, A.2.2.2.1, A.2.2.2.2.1⟩ h0 h1 rfl (sec3 A.2.2.1 A.2.2.2.1 A.2.2.2.2.1 A.2.2.2.1 A.2.2.2.2.1 A.2.2.2.2.2) (Or.inr ⟨by decide, rfl⟩) h
theorem ky_3 {P : Int → Mem → Prop} {σ : Mem} {a0 a1 a2 b0 b1 b2 : Int} (hL : StrL N Λ c) (hA : PolyL N Λ a) (hca : c + 1 ≠ a ∧ c + 1 ≠ a + 1 ∧ c + 1 ≠ a + 2) (hd : 4 ≤ d) (A : (0 ≤ a0 ∧ a0 < 10) ∧ (0 ≤ a1 ∧ a1 < 10) ∧ (0 ≤ a2 ∧ a2 < 10) ∧ (0 ≤ b0 ∧ b0 < 10) ∧ (0 ≤ b1 ∧ b1 < 10) ∧ 0 ≤ b2 ∧ b2 < 10) (hz : σ a 2 = 0) (hv : VK (σ (c + 1) 0)) (h : ∀ σ' m ts, m ≤ 40 → ts = exR (ways3 a0 a1 a2 b0 b1 b2) [] → LxV σ σ' c a m ts → P 0 σ') : CI l mX8_layExchange d [(2, c), (2, a), (0, 256 * a0 + 16 * a1 + a2), (0, 256 * b0 + 16 * b1 + b2), (0, 3), (1, 0), (1, 1)] N Λ σ P := by
  refine c_X8_layExchange (v_X8_layExchange_0 fun y1 e1 y2 e2 => ?_)
  rw [show mulI 4 (subI 3 3) = 0 by decide] at e1
  subst e1
  rw [fou3 A.1 A.2.1 A.2.2.1 A.2.2.2.1 A.2.2.2.2.1 A.2.2.2.2.2] at e2
  subst e2
  have hI0 : LxV σ σ c a 0 [] := ⟨⟨Nat.le_refl 0, fun e he => by simp at he⟩, ⟨hz, fun i e he => by simp at he⟩, fun i j a c _ ha _ => by simp at ha, fun _ _ _ _ _ => rfl, hv⟩
  refine lx_skip hL hA hd (by decide) (by decide) (i' := 14) (by decide) ?_
  refine lx_skip hL hA hd (by decide) (by decide) (i' := 13) (by decide) ?_
  refine lx_skip hL hA hd (by decide) (by decide) (i' := 12) (by decide) ?_
  refine lx_skip hL hA hd (by decide) (by decide) (i' := 11) (by decide) ?_
  refine lx_skip hL hA hd (by decide) (by decide) (i' := 10) (by decide) ?_
  refine lx_skip hL hA hd (by decide) (by decide) (i' := 9) (by decide) ?_
  refine lx_skip hL hA hd (by decide) (by decide) (i' := 8) (by decide) ?_
  refine ly_do ((1 : Int), (a0, a1, a2), b0, b1, b2) hL hA hca hd (by decide) (by decide) (i' := 7) (by decide) (by decide) ⟨Or.inl rfl, ⟨A.1, A.2.1, A.2.2.1⟩, A.2.2.2.1, A.2.2.2.2.1, A.2.2.2.2.2⟩ hI0 (fun Q τ z0 z1 hq => bw_3_8 hL (by omega) A z0 z1 hq) fun σ1 hI1 => ?_
  refine lx_skip hL hA hd (by decide) (by decide) (i' := 6) (by decide) ?_
  refine lx_skip hL hA hd (by decide) (by decide) (i' := 5) (by decide) ?_
  refine lx_skip hL hA hd (by decide) (by decide) (i' := 4) (by decide) ?_
  refine ly_do ((-1 : Int), (a0, a1, b0), a2, b1, b2) hL hA hca hd (by decide) (by decide) (i' := 3) (by decide) (by decide) ⟨Or.inr rfl, ⟨A.1, A.2.1, A.2.2.2.1⟩, A.2.2.1, A.2.2.2.2.1, A.2.2.2.2.2⟩ hI1 (fun Q τ z0 z1 hq => bw_3_4 hL (by omega) A z0 z1 hq) fun σ2 hI2 => ?_
  refine lx_skip hL hA hd (by decide) (by decide) (i' := 2) (by decide) ?_
  refine ly_do ((1 : Int), (a0, a1, b1), a2, b0, b2) hL hA hca hd (by decide) (by decide) (i' := 1) (by decide) (by decide) ⟨Or.inl rfl, ⟨A.1, A.2.1, A.2.2.2.2.1⟩, A.2.2.1, A.2.2.2.1, A.2.2.2.2.2⟩ hI2 (fun Q τ z0 z1 hq => bw_3_2 hL (by omega) A z0 z1 hq) fun σ3 hI3 => ?_
  refine ly_do ((-1 : Int), (a0, a1, b2), a2, b0, b1) hL hA hca hd (by decide) (by decide) (i' := 0) (by decide) (by decide) ⟨Or.inr rfl, ⟨A.1, A.2.1, A.2.2.2.2.2⟩, A.2.2.1, A.2.2.2.1, A.2.2.2.2.1⟩ hI3 (fun Q τ z0 z1 hq => bw_3_1 hL (by omega) A z0 z1 hq) fun σ4 hI4 => ?_
  refine lx_skip hL hA hd (by decide) (by decide) (i' := -1) (by decide) ?_
  exact v_X8_layExchange_31 hL.1 hL.2.1 hL.2.2 hA.1 (by omega) ⟨fun _ => h _ _ _ (by decide) rfl hI4, fun hc => absurd (by decide) hc⟩
theorem ky {P : Int → Mem → Prop} {σ : Mem} {a0 a1 a2 b0 b1 b2 k : Int} (hL : StrL N Λ c) (hA : PolyL N Λ a) (hca : c + 1 ≠ a ∧ c + 1 ≠ a + 1 ∧ c + 1 ≠ a + 2) (hd : 4 ≤ d) (A : (0 ≤ a0 ∧ a0 < 10) ∧ (0 ≤ a1 ∧ a1 < 10) ∧ (0 ≤ a2 ∧ a2 < 10) ∧ (0 ≤ b0 ∧ b0 < 10) ∧ (0 ≤ b1 ∧ b1 < 10) ∧ 0 ≤ b2 ∧ b2 < 10) (hk : 1 ≤ k ∧ k ≤ 3) (hz : σ a 2 = 0) (hv : VK (σ (c + 1) 0)) (h : ∀ σ' m ts, m ≤ 40 → ts = exR (ways k a0 a1 a2 b0 b1 b2) [] → LxV σ σ' c a m ts → P 0 σ') : CI l mX8_layExchange d [(2, c), (2, a), (0, 256 * a0 + 16 * a1 + a2), (0, 256 * b0 + 16 * b1 + b2), (0, k), (1, 0), (1, 1)] N Λ σ P := by
  have ck : k = 1 ∨ k = 2 ∨ k = 3 := by clear h A; omega
  rcases ck with e | e | e
  · subst e
    exact ky_1 hL hA hca hd A hz hv h
  · subst e
    exact ky_2 hL hA hca hd A hz hv h
  · subst e
    exact ky_3 hL hA hca hd A hz hv h
end CY
section CY2
variable {l : Launch} {d N : Nat} {Λ : Lay} {σ : Mem} {t : Int}
theorem LxV.gi {τ σ2 : Mem} {m : Nat} {ts : List (Int × Int)} (hG : GI ω τ t) (hm : m ≤ 40) (h : LxV τ σ2 (t + 251) (t + 596) m ts) : GI ω σ2 t := by
  obtain ⟨q1, q2, q3, q4, q5⟩ := h
  have tc : TC t (t + 252) := Or.inr (Or.inl rfl)
  have e1 : t + 251 + 1 = t + 252 := by omega
  rw [e1] at q4 q5
  have hm1 : GI ω (fun c => if c = t + 252 then σ2 c else τ c) t := hG.gen (fun c' => c' = t + 252) (fun c' hc => if_neg hc) (fun c' hc => by subst hc; exact tc.np) (fun c' j hc => by
    subst hc
    show Ok t (t + 252) j ((if t + 252 = t + 252 then σ2 (t + 252) else τ (t + 252)) j)
    rw [if_pos rfl]
    by_cases hj : j = 0
    · subst hj; exact tc.ok0 q5
    · exact tc.ok1 hj)
  refine hm1.pol paw ⟨ts.map Phi, q2, by rw [List.length_map]; have := q1.1; omega, q3, fun e he => ?_⟩ (fun c' g0 g1 g2 => ?_)
  · obtain ⟨x, h1, h2⟩ := List.mem_map.mp he
    rw [← h2]
    exact ⟨q1.r32 (by omega) x h1, (q1.2 x h1).2.vk⟩
  · show σ2 c' = if c' = t + 252 then σ2 c' else τ c'
    by_cases hc : c' = t + 252
    · rw [if_pos hc]
    · rw [if_neg hc]
      exact q4 c' hc g0 g1 g2
theorem X_exchange {P : Int → Mem → Prop} {s x y k : Int} (hX : DX N Λ t) (hG : GI ω σ t) (hd : 20 ≤ d) (h : ∀ σ', GI ω σ' t → P (an_ex s x y k) σ') : CI l mX11_exchange d [(2, t), (0, s), (0, x), (0, y), (0, k)] N Λ σ P := by
  obtain ⟨o, hR, hS, hH, hI, hMd, hT, hSt, hFi, hFo, hE, hFa, hTm, hW, hOt, hS1, hS2⟩ := id hX
  obtain ⟨r0, r1, r2, r3, r4, r5, r6, r7, r8, r9, r10, r11, r12⟩ := id hR
  have no : ¬ (0 ≤ s ∧ s < 6) → P (-2) σ := fun q => by have := h σ hG; rw [an_ex2 q] at this; exact this
  have no3 : (0 ≤ s ∧ s < 6) → ¬ ((0 ≤ x ∧ x ≤ 999) ∧ (0 ≤ y ∧ y ≤ 999) ∧ 1 ≤ k ∧ k ≤ 3) → P (-3) σ := fun q q2 => by have := h σ hG; rw [an_ex3 q q2] at this; exact this
  refine c_X11_exchange (v_X11_exchange_0 o r11 hW.1 r5 hSt.1 (by omega) ⟨fun g => no (by omega), fun g1 => ⟨fun g => no (by omega), fun g2 => ⟨fun g => no3 (by omega) (by omega), fun g3 => ⟨fun g => no3 (by omega) (by omega), fun g4 => ⟨fun g => no3 (by omega) (by omega), fun g5 => ⟨fun g => no3 (by omega) (by omega), fun g6 => ⟨fun g => no3 (by omega) (by omega), fun g7 => ⟨fun g8 τ1 e1 => ?_, fun g => no3 (by omega) (by omega)⟩⟩⟩⟩⟩⟩⟩⟩)
  have ye : ∀ σ', GI ω σ' t → P ((exR (ways k (x / 100) (x / 10 % 10) (x % 10) (y / 100) (y / 10 % 10) (y % 10)) []).length : Int) σ' := fun σ' f => by have := h σ' f; rw [an_exy (by omega) (by omega)] at this; exact this
  clear no no3 h
  rw [row_d (by omega), row_d (by omega)]
  have hz : τ1 (t + 596) 2 = 0 := by rw [e1, st_eq]
  have hG1 := hG.emp paw e1
  have tc : TC t (t + 251 + 1) := Or.inr (Or.inl (by omega))
  refine ky hSt hW (by omega) (by omega) ⟨by omega, by omega, by omega, by omega, by omega, by omega⟩ (by omega) hz (hG1.vk tc) fun σ2 m ts hm ets hx => ?_
  have hl : σ2 (t + 596) 2 = ts.length := by rw [hx.2.1.1, List.length_map]
  refine X_kp hX (hx.gi hG1 hm) (by omega) (by omega) fun σ' f => ?_
  rw [hl, ets]
  exact ye σ' f
end CY2
