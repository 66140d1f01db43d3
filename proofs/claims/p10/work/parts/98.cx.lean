/-! exchange in the class -/
def bc1 (x : Int) : Int := subI x (andI (ushrI x 1) 1431655765)
def bc2 (x : Int) : Int := addI (andI x 858993459) (andI (ushrI x 2) 858993459)
def bc3 (x : Int) : Int := andI (addI x (ushrI x 4)) 252645135
def bc4 (x : Int) : Int := addI x (ushrI x 8)
def bc5 (x : Int) : Int := addI x (ushrI x 16)
def bcI (x : Int) : Int := andI (bc5 (bc4 (bc3 (bc2 (bc1 x))))) 63
theorem o16 {x y z : Int} (hx : 0 ≤ x) (h1 : x < 4096) (hy : 0 ≤ y) (h2 : y < 16) (e : 16 * x + y = z) : orI (shlI x 4) y = z := (or16 hx (by omega) hy h2).trans e
theorem fr_e {x y z u : Int} (hx : 0 ≤ x ∧ x < 10) (hy : 0 ≤ y ∧ y < 10) (hz : 0 ≤ z ∧ z < 10) (hu : 0 ≤ u ∧ u < 10) : andI (shrI (4096 * x + 256 * y + 16 * z + u) (mulI 4 3)) 15 = x ∧ andI (shrI (4096 * x + 256 * y + 16 * z + u) (mulI 4 2)) 15 = y ∧ andI (shrI (4096 * x + 256 * y + 16 * z + u) (mulI 4 1)) 15 = z ∧ andI (shrI (4096 * x + 256 * y + 16 * z + u) (mulI 4 0)) 15 = u := by
  have hr : R32 (4096 * x + 256 * y + 16 * z + u) := ⟨by omega, by omega⟩
  rw [show mulI 4 3 = 12 by decide, show mulI 4 2 = 8 by decide, show mulI 4 1 = 4 by decide, show mulI 4 0 = 0 by decide]
  refine ⟨?_, ?_, ?_, ?_⟩
  · rw [shrI_e hr (by decide) (by decide)]
    show andI ((4096 * x + 256 * y + 16 * z + u) / 2 ^ 12) 15 = x
    rw [andI_15 ⟨by omega, by omega⟩]
    omega
  · rw [shrI_e hr (by decide) (by decide)]
    show andI ((4096 * x + 256 * y + 16 * z + u) / 2 ^ 8) 15 = y
    rw [andI_15 ⟨by omega, by omega⟩]
    omega
  · rw [shrI_e hr (by decide) (by decide)]
    show andI ((4096 * x + 256 * y + 16 * z + u) / 2 ^ 4) 15 = z
    rw [andI_15 ⟨by omega, by omega⟩]
    omega
  · rw [shrI_e hr (by decide) (by decide)]
    show andI ((4096 * x + 256 * y + 16 * z + u) / 2 ^ 0) 15 = u
    rw [show (4096 * x + 256 * y + 16 * z + u) / 2 ^ 0 = 4096 * x + 256 * y + 16 * z + u from Int.ediv_one _, andI_15 hr]
    omega
theorem orI_z {x : Int} (h : R32 x) : orI x 0 = x := by
  unfold orI
  rw [show Int32.ofInt 0 = 0 from rfl, Int32.or_zero]
  exact i32_b h
theorem orI_k {x y : Int} (k : Nat) (hx : 0 ≤ x) (hy : 0 ≤ y) (h1 : y < ((2 ^ k : Nat) : Int)) (h2 : x * ((2 ^ k : Nat) : Int) + y < 2147483648) : orI (x * ((2 ^ k : Nat) : Int)) y = x * ((2 ^ k : Nat) : Int) + y := by
  obtain ⟨a, rfl⟩ := Int.eq_ofNat_of_zero_le hx
  obtain ⟨b, rfl⟩ := Int.eq_ofNat_of_zero_le hy
  have e : (a : Int) * ((2 ^ k : Nat) : Int) = ((a * 2 ^ k : Nat) : Int) := (Int.natCast_mul _ _).symm
  rw [e] at h2 ⊢
  rw [orI_n k (Int.ofNat_lt.mp h1) (by omega)]
  exact Int.natCast_add _ _
theorem sec1 {s x y z : Int} (hs : 0 ≤ s ∧ s < 10) (hx : 0 ≤ x ∧ x < 10) (hy : 0 ≤ y ∧ y < 10) (hz : 0 ≤ z ∧ z < 10) : orI (shlI s 8) (andI (256 * x + 16 * y + z) (subI (shlI 1 8) 1)) = 256 * s + 16 * y + z := by
  rw [show subI (shlI 1 8) 1 = 255 by decide, andI_255 ⟨by omega, by omega⟩, shlI_e (by decide) (by decide) hs.1 (by show s * 2 ^ 8 ≤ _; omega)]
  have := orI_k (x := s) (y := (256 * x + 16 * y + z) % 256) 8 hs.1 (by omega) (by omega) (by omega)
  exact (show orI (s * 2 ^ 8) _ = _ from this).trans (by omega)
theorem sec2 {s u x y z : Int} (hs : 0 ≤ s ∧ s < 10) (hu : 0 ≤ u ∧ u < 10) (hx : 0 ≤ x ∧ x < 10) (hy : 0 ≤ y ∧ y < 10) (hz : 0 ≤ z ∧ z < 10) : orI (shlI (16 * s + u) 4) (andI (256 * x + 16 * y + z) (subI (shlI 1 4) 1)) = 256 * s + 16 * u + z := by
  rw [show subI (shlI 1 4) 1 = 15 by decide, andI_15 ⟨by omega, by omega⟩]
  exact o16 (by omega) (by omega) (by omega) (by omega) (by omega)
theorem sec3 {s u v x y z : Int} (hs : 0 ≤ s ∧ s < 10) (hu : 0 ≤ u ∧ u < 10) (hv : 0 ≤ v ∧ v < 10) (hx : 0 ≤ x ∧ x < 10) (hy : 0 ≤ y ∧ y < 10) (hz : 0 ≤ z ∧ z < 10) : orI (shlI (256 * s + 16 * u + v) 0) (andI (256 * x + 16 * y + z) (subI (shlI 1 0) 1)) = 256 * s + 16 * u + v := by
  have e : andI (256 * x + 16 * y + z) 0 = 0 := by
    rw [andI_m (x := 256 * x + 16 * y + z) (m := 0) 0 ⟨by omega, by omega⟩ (by decide) (by decide)]
    exact Int.emod_one _
  have e2 : shlI (256 * s + 16 * u + v) 0 = 256 * s + 16 * u + v := by
    rw [shlI_e (by decide) (by decide) (by omega) (by show (256 * s + 16 * u + v) * 2 ^ 0 ≤ _; rw [show (256 * s + 16 * u + v) * 2 ^ 0 = 256 * s + 16 * u + v from Int.mul_one _]; omega)]
    exact Int.mul_one _
  rw [show subI (shlI 1 0) 1 = 0 by decide, e, e2, orI_z ⟨by omega, by omega⟩]
theorem ahd1 {x y z : Int} (hx : 0 ≤ x ∧ x < 10) (hy : 0 ≤ y ∧ y < 10) (hz : 0 ≤ z ∧ z < 10) : shrI (256 * x + 16 * y + z) (mulI 4 (subI 4 1)) = 0 := by
  rw [show mulI 4 (subI 4 1) = 12 by decide, shrI_e ⟨by omega, by omega⟩ (by decide) (by decide)]
  show (256 * x + 16 * y + z) / 2 ^ 12 = 0
  omega
theorem ahd2 {x y z : Int} (hx : 0 ≤ x ∧ x < 10) (hy : 0 ≤ y ∧ y < 10) (hz : 0 ≤ z ∧ z < 10) : shrI (256 * x + 16 * y + z) (mulI 4 (subI 4 2)) = x := by
  rw [show mulI 4 (subI 4 2) = 8 by decide, shrI_e ⟨by omega, by omega⟩ (by decide) (by decide)]
  show (256 * x + 16 * y + z) / 2 ^ 8 = x
  omega
theorem ahd3 {x y z : Int} (hx : 0 ≤ x ∧ x < 10) (hy : 0 ≤ y ∧ y < 10) (hz : 0 ≤ z ∧ z < 10) : shrI (256 * x + 16 * y + z) (mulI 4 (subI 4 3)) = 16 * x + y := by
  rw [show mulI 4 (subI 4 3) = 4 by decide, shrI_e ⟨by omega, by omega⟩ (by decide) (by decide)]
  show (256 * x + 16 * y + z) / 2 ^ 4 = 16 * x + y
  omega
theorem fou1 {x y z u v w : Int} (hx : 0 ≤ x ∧ x < 10) (hy : 0 ≤ y ∧ y < 10) (hz : 0 ≤ z ∧ z < 10) (hu : 0 ≤ u ∧ u < 10) (hv : 0 ≤ v ∧ v < 10) (hw : 0 ≤ w ∧ w < 10) : andI (orI (shlI (256 * x + 16 * y + z) (mulI 4 1)) (shrI (256 * u + 16 * v + w) 8)) 65535 = 4096 * x + 256 * y + 16 * z + u := by
  rw [show mulI 4 1 = 4 by decide, shrI_e (x := 256 * u + 16 * v + w) ⟨by omega, by omega⟩ (by decide) (by decide), show (256 * u + 16 * v + w) / 2 ^ (8 : Int).toNat = u from (by show (256 * u + 16 * v + w) / 2 ^ 8 = u; omega), o16 (z := 4096 * x + 256 * y + 16 * z + u) (by omega) (by omega) (by omega) (by omega) (by omega), andI_65535 ⟨by omega, by omega⟩]
  omega
theorem fou2 {x y z u v w : Int} (hx : 0 ≤ x ∧ x < 10) (hy : 0 ≤ y ∧ y < 10) (hz : 0 ≤ z ∧ z < 10) (hu : 0 ≤ u ∧ u < 10) (hv : 0 ≤ v ∧ v < 10) (hw : 0 ≤ w ∧ w < 10) : andI (orI (shlI (256 * x + 16 * y + z) (mulI 4 2)) (shrI (256 * u + 16 * v + w) 4)) 65535 = 4096 * y + 256 * z + 16 * u + v := by
  rw [show mulI 4 2 = 8 by decide, shrI_e (x := 256 * u + 16 * v + w) ⟨by omega, by omega⟩ (by decide) (by decide), show (256 * u + 16 * v + w) / 2 ^ (4 : Int).toNat = 16 * u + v from (by show (256 * u + 16 * v + w) / 2 ^ 4 = 16 * u + v; omega), shlI_e (by decide) (by decide) (by omega) (by show (256 * x + 16 * y + z) * 2 ^ 8 ≤ _; omega)]
  have := orI_k (x := 256 * x + 16 * y + z) (y := 16 * u + v) 8 (by omega) (by omega) (by omega) (by omega)
  rw [show orI ((256 * x + 16 * y + z) * 2 ^ (8 : Int).toNat) (16 * u + v) = _ from this, andI_65535 ⟨by omega, by omega⟩]
  omega
theorem fou3 {x y z u v w : Int} (hx : 0 ≤ x ∧ x < 10) (hy : 0 ≤ y ∧ y < 10) (hz : 0 ≤ z ∧ z < 10) (hu : 0 ≤ u ∧ u < 10) (hv : 0 ≤ v ∧ v < 10) (hw : 0 ≤ w ∧ w < 10) : andI (orI (shlI (256 * x + 16 * y + z) (mulI 4 3)) (shrI (256 * u + 16 * v + w) 0)) 65535 = 4096 * z + 256 * u + 16 * v + w := by
  rw [show mulI 4 3 = 12 by decide, shrI_e (x := 256 * u + 16 * v + w) ⟨by omega, by omega⟩ (by decide) (by decide), show (256 * u + 16 * v + w) / 2 ^ (0 : Int).toNat = 256 * u + 16 * v + w from Int.ediv_one _, shlI_e (by decide) (by decide) (by omega) (by show (256 * x + 16 * y + z) * 2 ^ 12 ≤ _; omega)]
  have := orI_k (x := 256 * x + 16 * y + z) (y := 256 * u + 16 * v + w) 12 (by omega) (by omega) (by omega) (by omega)
  rw [show orI ((256 * x + 16 * y + z) * 2 ^ (12 : Int).toNat) (256 * u + 16 * v + w) = _ from this, andI_65535 ⟨by omega, by omega⟩]
  omega
section CX
variable {l : Launch} {d N : Nat} {Λ : Lay} {c a : Int}
theorem k_bit {P : Int → Mem → Prop} {σ : Mem} {x : Int} (h : P (bcI x) σ) : CI l mJ6_bitCount_0f7a4 d [(0, x)] N Λ σ P := by
  refine c_J6_bitCount_0f7a4 (v_J6_bitCount_0f7a4_0 fun y1 e1 y2 e2 y3 e3 y4 e4 y5 e5 => ?_)
  subst e1 e2 e3 e4 e5
  exact h
theorem aw_y {P : Int → Mem → Prop} {σ : Mem} {x1 x2 x3 x4 x5 x6 x7 x8 x9 i f x6' x9' i' : Int} (hL : StrL N Λ c) (hd : 2 ≤ d) (h0 : ¬ i < 0) (hf : andI (shrI x2 (mulI 4 i)) 15 = f) (hb : andI (shrI x3 i) 1 = 1) (h6 : orI (shlI x6 4) f = x6') (h9 : addI x9 x8 = x9') (hi : addI i (-1) = i')
    (K : WI l mX8_attachWay d P 15 [(2, c), (0, x1), (0, x2), (0, x3), (0, x4), (0, x5), (0, x6'), (0, x7), (0, x8), (0, x9'), (0, i'), (3, 0)] [] N Λ σ) :
    WI l mX8_attachWay d P 15 [(2, c), (0, x1), (0, x2), (0, x3), (0, x4), (0, x5), (0, x6), (0, x7), (0, x8), (0, x9), (0, i), (3, 0)] [] N Λ σ := by
  refine v_X8_attachWay_15 hL.1 hL.2.1 hL.2.2 (by omega) ⟨fun hc => absurd hc h0, fun _ y3 e3 => ⟨fun hc => absurd hb hc, fun _ y7 e7 y8 e8 y9 e9 => ?_⟩⟩
  rw [e7, e8, e9, e3, hf, h6, h9, hi]
  exact K
theorem aw_n {P : Int → Mem → Prop} {σ : Mem} {x1 x2 x3 x4 x5 x6 x7 x8 x9 i f x7' x8' i' : Int} (hL : StrL N Λ c) (hd : 2 ≤ d) (h0 : ¬ i < 0) (hf : andI (shrI x2 (mulI 4 i)) 15 = f) (hb : ¬ andI (shrI x3 i) 1 = 1) (h7 : orI (shlI x7 4) f = x7') (h8 : addI x8 1 = x8') (hi : addI i (-1) = i')
    (K : WI l mX8_attachWay d P 15 [(2, c), (0, x1), (0, x2), (0, x3), (0, x4), (0, x5), (0, x6), (0, x7'), (0, x8'), (0, x9), (0, i'), (3, 0)] [] N Λ σ) :
    WI l mX8_attachWay d P 15 [(2, c), (0, x1), (0, x2), (0, x3), (0, x4), (0, x5), (0, x6), (0, x7), (0, x8), (0, x9), (0, i), (3, 0)] [] N Λ σ := by
  refine v_X8_attachWay_15 hL.1 hL.2.1 hL.2.2 (by omega) ⟨fun hc => absurd hc h0, fun _ y3 e3 => ⟨fun _ y4 e4 y5 e5 y6 e6 => ?_, fun hc => absurd hc hb⟩⟩
  rw [e4, e5, e6, e3, hf, h7, h8, hi]
  exact K
/-- what attachWay leaves in the term -/
def AwQ (c : Int) (w : Way) (Q : Int → Mem → Prop) (τ : Mem) : Prop := ∀ σ' : Mem, (∀ c', c' ≠ c + 1 → σ' c' = τ c') → σ' (c + 1) 1 = sg (Wa w) * sg (Wb w) → (¬ Wn w = 0 → σ' (c + 1) 0 = ck2 (brc (ab (Wa w))) (brc (ab (Wb w)))) → Q w.1 σ'
theorem aw_e {P : Int → Mem → Prop} {σ : Mem} {x1 x2 x3 x4 x5 x6 x7 x8 x9 i : Int} {w : Way} (hL : StrL N Λ c) (hd : 2 ≤ d) (hi : i < 0) (hw : Wok w) (h0 : σ (c + 1) 0 = 0) (h1 : σ (c + 1) 1 = 1) (e6 : x6 = 256 * w.2.1.1 + 16 * w.2.1.2.1 + w.2.1.2.2) (e7 : orI (shlI x7 x5) (andI x4 (subI (shlI 1 x5) 1)) = 256 * w.2.2.1 + 16 * w.2.2.2.1 + w.2.2.2.2) (hs : (andI x9 1 = 0 ∧ w.1 = 1) ∨ (¬ andI x9 1 = 0 ∧ w.1 = -1)) (h : AwQ c w P σ) :
    WI l mX8_attachWay d P 15 [(2, c), (0, x1), (0, x2), (0, x3), (0, x4), (0, x5), (0, x6), (0, x7), (0, x8), (0, x9), (0, i), (3, 0)] [] N Λ σ := by
  refine v_X8_attachWay_15 hL.1 hL.2.1 hL.2.2 (by omega) ⟨fun _ => ?_, fun hc => absurd hi hc⟩
  rw [e6, e7]
  clear e6 e7
  refine k_attA hL.2.2 (by omega) hw.2.1.1 hw.2.1.2.1 hw.2.1.2.2 h0 h1 fun σ1 k1 s1 z1 w1 => ?_
  have ra := rk_r hw.2.1.1 hw.2.1.2.1 hw.2.1.2.2
  refine k_attB (u := brc (ab (Wa w))) (s := sg (Wa w)) hL.2.2 (by omega) hw.2.2.1 hw.2.2.2.1 hw.2.2.2.2 (sg_c _) (fun e => z1 (sg_z e)) (fun hn => ?_) (fun hn => w1 fun e => hn (by unfold Wa; rw [e]; rfl)) s1 fun σ2 k2 s2 w2 => ?_
  · have q := ab_b (r := Wa w) ra.1 ra.2 (fun e => hn (by rw [e]; rfl))
    exact brc_r q.1 q.2
  · have h' := h σ2 (fun c' g => by rw [k2 c' g, k1 c' g]) s2 (fun hn => w2 (Wn_0 hn).1 (Wn_0 hn).2)
    rcases hs with ⟨p, q⟩ | ⟨p, q⟩
    · rw [q] at h'
      exact ⟨fun hc => absurd p hc, fun _ => h'⟩
    · rw [q] at h'
      exact ⟨fun _ => h', fun hc => absurd hc p⟩
/-- the polynomial behind so many ways -/
def LxI (σ0 σ : Mem) (c a : Int) (m : Nat) (ts : List (Int × Int)) : Prop := Inv m ts ∧ PC σ a (ts.map Phi) ∧ srtd (ts.map Phi) ∧ Fr4 σ0 σ (c + 1) a
theorem lx_skip {P : Int → Mem → Prop} {σ : Mem} {x2 x3 x4 x10 x11 i i' : Int} (hL : StrL N Λ c) (hA : PolyL N Λ a) (hd : 4 ≤ d) (h0 : ¬ i < 0) (hb : ¬ bcI i = subI 4 x4) (hi : addI i (-1) = i')
    (K : WI l mX8_layExchange d P 31 [(2, c), (2, a), (0, x2), (0, x3), (0, x4), (1, 0), (3, 0), (1, 1), (3, 0), (0, 0), (0, x10), (0, x11), (0, i'), (3, 0)] [] N Λ σ) : WI l mX8_layExchange d P 31 [(2, c), (2, a), (0, x2), (0, x3), (0, x4), (1, 0), (3, 0), (1, 1), (3, 0), (0, 0), (0, x10), (0, x11), (0, i), (3, 0)] [] N Λ σ := by
  refine v_X8_layExchange_31 hL.1 hL.2.1 hL.2.2 hA.1 (by omega) ⟨fun hc => absurd hc h0, fun _ => ⟨fun hc => absurd rfl hc, fun _ => k_bit ⟨fun _ y3 e3 => ?_, fun hc => absurd hc hb⟩⟩⟩
  rw [e3, hi]
  exact K
theorem mul_W {w : Way} (hw : Wok w) : mulL (mulL 1 w.1) (sg (Wa w) * sg (Wb w)) = Wn w := by
  unfold Wn
  rcases hw.1 with e | e <;> rcases sg_c (Wa w) with f | f | f <;> rcases sg_c (Wb w) with g | g | g <;> rw [e, f, g] <;> decide
theorem lx_do {P : Int → Mem → Prop} {σ0 σ : Mem} {x2 x3 x4 x10 x11 i i' : Int} {m : Nat} {ts : List (Int × Int)} (w : Way) (hL : StrL N Λ c) (hA : PolyL N Λ a) (hca : c + 1 ≠ a ∧ c + 1 ≠ a + 1 ∧ c + 1 ≠ a + 2) (hd : 4 ≤ d) (h0 : ¬ i < 0) (hb : bcI i = subI 4 x4) (hi : addI i (-1) = i') (hm : m ≤ 40) (hw : Wok w) (hI : LxI σ0 σ c a m ts)
    (haw : ∀ (Q : Int → Mem → Prop) (τ : Mem), τ (c + 1) 0 = 0 → τ (c + 1) 1 = 1 → AwQ c w Q τ → CI l mX8_attachWay (d - 1) [(2, c), (0, shrI x2 (mulI 4 (subI 4 x4))), (0, x11), (0, i), (0, x3), (0, x10)] N Λ τ Q)
    (K : ∀ σ', LxI σ0 σ' c a (m + 1) (putS ts (Wk w) (Wn w)).2 → WI l mX8_layExchange d P 31 [(2, c), (2, a), (0, x2), (0, x3), (0, x4), (1, 0), (3, 0), (1, 1), (3, 0), (0, 0), (0, x10), (0, x11), (0, i'), (3, 0)] [] N Λ σ') :
    WI l mX8_layExchange d P 31 [(2, c), (2, a), (0, x2), (0, x3), (0, x4), (1, 0), (3, 0), (1, 1), (3, 0), (0, 0), (0, x10), (0, x11), (0, i), (3, 0)] [] N Λ σ := by
  obtain ⟨q1, q2, q3, q4⟩ := hI
  refine v_X8_layExchange_31 hL.1 hL.2.1 hL.2.2 hA.1 (by omega) ⟨fun hc => absurd hc h0, fun _ => ⟨fun hc => absurd rfl hc, fun _ => k_bit ⟨fun hc => absurd hb hc, fun _ τ4 e4 τ5 e5 => haw _ τ5 (by rw [e5, st_nj (by decide), e4, st_eq]) (by rw [e5, st_eq]) fun σ6 k6 s6 w6 => ?_⟩⟩⟩
  have n6 : ∀ c', c' ≠ c + 1 → σ6 c' = σ c' := fun c' g => by rw [k6 c' g, e5, st_ne g, e4, st_ne g]
  clear e4 e5 k6
  rw [s6, mul_W hw]
  have hl : (ts.map Phi).length ≤ 80 := by rw [List.length_map]; have := q1.1; omega
  have hnum : ∀ e ∈ ts.map Phi, Int32R e.2 := fun e he => by
    obtain ⟨e', h1, h2⟩ := List.mem_map.mp he
    rw [← h2]
    exact q1.r32 (by omega) e' h1
  have ep := W_putC (k := σ6 (c + 1) 0) q1 hm hw w6
  refine k_lay hA (by omega) (q2.same (n6 _ (fun z => hca.1 z.symm)) (n6 _ (fun z => hca.2.1 z.symm)) (n6 _ (fun z => hca.2.2 z.symm))) hl q3 hnum (fun σ8 ts' e' hp hs y10 e10 => ?_) (fun k ek hk => ?_)
  · rw [ep] at e'
    have et := (Prod.mk.inj e').2
    subst et
    rw [e10, hi]
    refine K σ8 ⟨(W_put q1 hm hw).2, hp, (putS_ok q3 hl hnum ep).1, fun c' g0 g1 g2 g3 => ?_⟩
    rw [← q4 c' g0 g1 g2 g3, ← n6 c' g0]
    exact funext fun j => hs c' j g1 g2 g3
  · rw [ep] at ek
    exact absurd ek.symm hk
theorem aw_1_14 {P : Int → Mem → Prop} {σ : Mem} {a0 a1 a2 b0 b1 b2 : Int} (hL : StrL N Λ c) (hd : 2 ≤ d) (A : (0 ≤ a0 ∧ a0 < 10) ∧ (0 ≤ a1 ∧ a1 < 10) ∧ (0 ≤ a2 ∧ a2 < 10) ∧ (0 ≤ b0 ∧ b0 < 10) ∧ (0 ≤ b1 ∧ b1 < 10) ∧ 0 ≤ b2 ∧ b2 < 10) (h0 : σ (c + 1) 0 = 0) (h1 : σ (c + 1) 1 = 1) (h : AwQ c ((1 : Int), (a0, a1, a2), b0, b1, b2) P σ) : CI l mX8_attachWay d [(2, c), (0, shrI (256 * a0 + 16 * a1 + a2) (mulI 4 (subI 4 1))), (0, 4096 * a0 + 256 * a1 + 16 * a2 + b0), (0, 14), (0, 256 * b0 + 16 * b1 + b2), (0, 8)] N Λ σ P := by
  have hf := fr_e (x := a0) (y := a1) (z := a2) (u := b0) A.1 A.2.1 A.2.2.1 A.2.2.2.1
  refine c_X8_attachWay (v_X8_attachWay_0 ?_)
  rw [ahd1 A.1 A.2.1 A.2.2.1]
  refine aw_y hL hd (by decide) hf.1 (by decide) (x6' := a0) (o16 (by omega) (by omega) (by omega) (by omega) (by omega)) (x9' := 0) (by decide) (i' := 2) (by decide) ?_
  refine aw_y hL hd (by decide) hf.2.1 (by decide) (x6' := 16 * a0 + a1) (o16 (by omega) (by omega) (by omega) (by omega) (by omega)) (x9' := 0) (by decide) (i' := 1) (by decide) ?_
  refine aw_y hL hd (by decide) hf.2.2.1 (by decide) (x6' := 256 * a0 + 16 * a1 + a2) (o16 (by omega) (by omega) (by omega) (by omega) (by omega)) (x9' := 0) (by decide) (i' := 0) (by decide) ?_
  refine aw_n hL hd (by decide) hf.2.2.2 (by decide) (x7' := b0) (o16 (by omega) (by omega) (by omega) (by omega) (by omega)) (x8' := 1) (by decide) (i' := -1) (by decide) ?_
  exact aw_e (w := ((1 : Int), (a0, a1, a2), b0, b1, b2)) hL hd (by decide) ⟨Or.inl rfl, ⟨A.1, A.2.1, A.2.2.1⟩, A.2.2.2.1, A.2.2.2.2.1, A.2.2.2.2.2⟩ h0 h1 rfl (sec1 A.2.2.2.1 A.2.2.2.1 A.2.2.2.2.1 A.2.2.2.2.2) (Or.inl ⟨by decide, rfl⟩) h
theorem aw_1_13 {P : Int → Mem → Prop} {σ : Mem} {a0 a1 a2 b0 b1 b2 : Int} (hL : StrL N Λ c) (hd : 2 ≤ d) (A : (0 ≤ a0 ∧ a0 < 10) ∧ (0 ≤ a1 ∧ a1 < 10) ∧ (0 ≤ a2 ∧ a2 < 10) ∧ (0 ≤ b0 ∧ b0 < 10) ∧ (0 ≤ b1 ∧ b1 < 10) ∧ 0 ≤ b2 ∧ b2 < 10) (h0 : σ (c + 1) 0 = 0) (h1 : σ (c + 1) 1 = 1) (h : AwQ c ((-1 : Int), (a0, a1, b0), a2, b1, b2) P σ) : CI l mX8_attachWay d [(2, c), (0, shrI (256 * a0 + 16 * a1 + a2) (mulI 4 (subI 4 1))), (0, 4096 * a0 + 256 * a1 + 16 * a2 + b0), (0, 13), (0, 256 * b0 + 16 * b1 + b2), (0, 8)] N Λ σ P := by
  have hf := fr_e (x := a0) (y := a1) (z := a2) (u := b0) A.1 A.2.1 A.2.2.1 A.2.2.2.1
  refine c_X8_attachWay (v_X8_attachWay_0 ?_)
  rw [ahd1 A.1 A.2.1 A.2.2.1]
  refine aw_y hL hd (by decide) hf.1 (by decide) (x6' := a0) (o16 (by omega) (by omega) (by omega) (by omega) (by omega)) (x9' := 0) (by decide) (i' := 2) (by decide) ?_
  refine aw_y hL hd (by decide) hf.2.1 (by decide) (x6' := 16 * a0 + a1) (o16 (by omega) (by omega) (by omega) (by omega) (by omega)) (x9' := 0) (by decide) (i' := 1) (by decide) ?_
  refine aw_n hL hd (by decide) hf.2.2.1 (by decide) (x7' := a2) (o16 (by omega) (by omega) (by omega) (by omega) (by omega)) (x8' := 1) (by decide) (i' := 0) (by decide) ?_
  refine aw_y hL hd (by decide) hf.2.2.2 (by decide) (x6' := 256 * a0 + 16 * a1 + b0) (o16 (by omega) (by omega) (by omega) (by omega) (by omega)) (x9' := 1) (by decide) (i' := -1) (by decide) ?_
  exact aw_e (w := ((-1 : Int), (a0, a1, b0), a2, b1, b2)) hL hd (by decide) ⟨Or.inr rfl, ⟨A.1, A.2.1, A.2.2.2.1⟩, A.2.2.1, A.2.2.2.2.1, A.2.2.2.2.2⟩ h0 h1 rfl (sec1 A.2.2.1 A.2.2.2.1 A.2.2.2.2.1 A.2.2.2.2.2) (Or.inr ⟨by decide, rfl⟩) h
theorem aw_1_11 {P : Int → Mem → Prop} {σ : Mem} {a0 a1 a2 b0 b1 b2 : Int} (hL : StrL N Λ c) (hd : 2 ≤ d) (A : (0 ≤ a0 ∧ a0 < 10) ∧ (0 ≤ a1 ∧ a1 < 10) ∧ (0 ≤ a2 ∧ a2 < 10) ∧ (0 ≤ b0 ∧ b0 < 10) ∧ (0 ≤ b1 ∧ b1 < 10) ∧ 0 ≤ b2 ∧ b2 < 10) (h0 : σ (c + 1) 0 = 0) (h1 : σ (c + 1) 1 = 1) (h : AwQ c ((1 : Int), (a0, a2, b0), a1, b1, b2) P σ) : CI l mX8_attachWay d [(2, c), (0, shrI (256 * a0 + 16 * a1 + a2) (mulI 4 (subI 4 1))), (0, 4096 * a0 + 256 * a1 + 16 * a2 + b0), (0, 11), (0, 256 * b0 + 16 * b1 + b2), (0, 8)] N Λ σ P := by
  have hf := fr_e (x := a0) (y := a1) (z := a2) (u := b0) A.1 A.2.1 A.2.2.1 A.2.2.2.1
  refine c_X8_attachWay (v_X8_attachWay_0 ?_)
  rw [ahd1 A.1 A.2.1 A.2.2.1]
  refine aw_y hL hd (by decide) hf.1 (by decide) (x6' := a0) (o16 (by omega) (by omega) (by omega) (by omega) (by omega)) (x9' := 0) (by decide) (i' := 2) (by decide) ?_
  refine aw_n hL hd (by decide) hf.2.1 (by decide) (x7' := a1) (o16 (by omega) (by omega) (by omega) (by omega) (by omega)) (x8' := 1) (by decide) (i' := 1) (by decide) ?_
  refine aw_y hL hd (by decide) hf.2.2.1 (by decide) (x6' := 16 * a0 + a2) (o16 (by omega) (by omega) (by omega) (by omega) (by omega)) (x9' := 1) (by decide) (i' := 0) (by decide) ?_
  refine aw_y hL hd (by decide) hf.2.2.2 (by decide) (x6' := 256 * a0 + 16 * a2 + b0) (o16 (by omega) (by omega) (by omega) (by omega) (by omega)) (x9' := 2) (by decide) (i' := -1) (by decide) ?_
  exact aw_e (w := ((1 : Int), (a0, a2, b0), a1, b1, b2)) hL hd (by decide) ⟨Or.inl rfl, ⟨A.1, A.2.2.1, A.2.2.2.1⟩, A.2.1, A.2.2.2.2.1, A.2.2.2.2.2⟩ h0 h1 rfl (sec1 A.2.1 A.2.2.2.1 A.2.2.2.2.1 A.2.2.2.2.2) (Or.inl ⟨by decide, rfl⟩) h
theorem aw_1_7 {P : Int → Mem → Prop} {σ : Mem} {a0 a1 a2 b0 b1 b2 : Int} (hL : StrL N Λ c) (hd : 2 ≤ d) (A : (0 ≤ a0 ∧ a0 < 10) ∧ (0 ≤ a1 ∧ a1 < 10) ∧ (0 ≤ a2 ∧ a2 < 10) ∧ (0 ≤ b0 ∧ b0 < 10) ∧ (0 ≤ b1 ∧ b1 < 10) ∧ 0 ≤ b2 ∧ b2 < 10) (h0 : σ (c + 1) 0 = 0) (h1 : σ (c + 1) 1 = 1) (h : AwQ c ((-1 : Int), (a1, a2, b0), a0, b1, b2) P σ) : CI l mX8_attachWay d [(2, c), (0, shrI (256 * a0 + 16 * a1 + a2) (mulI 4 (subI 4 1))), (0, 4096 * a0 + 256 * a1 + 16 * a2 + b0), (0, 7), (0, 256 * b0 + 16 * b1 + b2), (0, 8)] N Λ σ P := by
  have hf := fr_e (x := a0) (y := a1) (z := a2) (u := b0) A.1 A.2.1 A.2.2.1 A.2.2.2.1
  refine c_X8_attachWay (v_X8_attachWay_0 ?_)
  rw [ahd1 A.1 A.2.1 A.2.2.1]
  refine aw_n hL hd (by decide) hf.1 (by decide) (x7' := a0) (o16 (by omega) (by omega) (by omega) (by omega) (by omega)) (x8' := 1) (by decide) (i' := 2) (by decide) ?_
  refine aw_y hL hd (by decide) hf.2.1 (by decide) (x6' := a1) (o16 (by omega) (by omega) (by omega) (by omega) (by omega)) (x9' := 1) (by decide) (i' := 1) (by decide) ?_
  refine aw_y hL hd (by decide) hf.2.2.1 (by decide) (x6' := 16 * a1 + a2) (o16 (by omega) (by omega) (by omega) (by omega) (by omega)) (x9' := 2) (by decide) (i' := 0) (by decide) ?_
  refine aw_y hL hd (by decide) hf.2.2.2 (by decide) (x6' := 256 * a1 + 16 * a2 + b0) (o16 (by omega) (by omega) (by omega) (by omega) (by omega)) (x9' := 3) (by decide) (i' := -1) (by decide) ?_
  exact aw_e (w := ((-1 : Int), (a1, a2, b0), a0, b1, b2)) hL hd (by decide) ⟨Or.inr rfl, ⟨A.2.1, A.2.2.1, A.2.2.2.1⟩, A.1, A.2.2.2.2.1, A.2.2.2.2.2⟩ h0 h1 rfl (sec1 A.1 A.2.2.2.1 A.2.2.2.2.1 A.2.2.2.2.2) (Or.inr ⟨by decide, rfl⟩) h
theorem kx_1 {P : Int → Mem → Prop} {σ : Mem} {a0 a1 a2 b0 b1 b2 : Int} (hL : StrL N Λ c) (hA : PolyL N Λ a) (hca : c + 1 ≠ a ∧ c + 1 ≠ a + 1 ∧ c + 1 ≠ a + 2) (hd : 4 ≤ d) (A : (0 ≤ a0 ∧ a0 < 10) ∧ (0 ≤ a1 ∧ a1 < 10) ∧ (0 ≤ a2 ∧ a2 < 10) ∧ (0 ≤ b0 ∧ b0 < 10) ∧ (0 ≤ b1 ∧ b1 < 10) ∧ 0 ≤ b2 ∧ b2 < 10) (hz : σ a 2 = 0) (h : ∀ σ' m ts, m ≤ 40 → ts = exR (ways1 a0 a1 a2 b0 b1 b2) [] → LxI σ σ' c a m ts → P 0 σ') : CI l mX8_layExchange d [(2, c), (2, a), (0, 256 * a0 + 16 * a1 + a2), (0, 256 * b0 + 16 * b1 + b2), (0, 1), (1, 0), (1, 1)] N Λ σ P := by
  refine c_X8_layExchange (v_X8_layExchange_0 fun y1 e1 y2 e2 => ?_)
  rw [show mulI 4 (subI 3 1) = 8 by decide] at e1
  subst e1
  rw [fou1 A.1 A.2.1 A.2.2.1 A.2.2.2.1 A.2.2.2.2.1 A.2.2.2.2.2] at e2
  subst e2
  have hI0 : LxI σ σ c a 0 [] := ⟨⟨Nat.le_refl 0, fun e he => by simp at he⟩, ⟨hz, fun i e he => by simp at he⟩, fun i j a c _ ha _ => by simp at ha, fun _ _ _ _ _ => rfl⟩
  refine lx_skip hL hA hd (by decide) (by decide) (i' := 14) (by decide) ?_
  refine lx_do ((1 : Int), (a0, a1, a2), b0, b1, b2) hL hA hca hd (by decide) (by decide) (i' := 13) (by decide) (by decide) ⟨Or.inl rfl, ⟨A.1, A.2.1, A.2.2.1⟩, A.2.2.2.1, A.2.2.2.2.1, A.2.2.2.2.2⟩ hI0 (fun Q τ z0 z1 hq => aw_1_14 hL (by omega) A z0 z1 hq) fun σ1 hI1 => ?_
  refine lx_do ((-1 : Int), (a0, a1, b0), a2, b1, b2) hL hA hca hd (by decide) (by decide) (i' := 12) (by decide) (by decide) ⟨Or.inr rfl, ⟨A.1, A.2.1, A.2.2.2.1⟩, A.2.2.1, A.2.2.2.2.1, A.2.2.2.2.2⟩ hI1 (fun Q τ z0 z1 hq => aw_1_13 hL (by omega) A z0 z1 hq) fun σ2 hI2 => ?_
  refine lx_skip hL hA hd (by decide) (by decide) (i' := 11) (by decide) ?_
  refine lx_do ((1 : Int), (a0, a2, b0), a1, b1, b2) hL hA hca hd (by decide) (by decide) (i' := 10) (by decide) (by decide) ⟨Or.inl rfl, ⟨A.1, A.2.2.1, A.2.2.2.1⟩, A.2.1, A.2.2.2.2.1, A.2.2.2.2.2⟩ hI2 (fun Q τ z0 z1 hq => aw_1_11 hL (by omega) A z0 z1 hq) fun σ3 hI3 => ?_
  refine lx_skip hL hA hd (by decide) (by decide) (i' := 9) (by decide) ?_
  refine lx_skip hL hA hd (by decide) (by decide) (i' := 8) (by decide) ?_
  refine lx_skip hL hA hd (by decide) (by decide) (i' := 7) (by decide) ?_
  refine lx_do ((-1 : Int), (a1, a2, b0), a0, b1, b2) hL hA hca hd (by decide) (by decide) (i' := 6) (by decide) (by decide) ⟨Or.inr rfl, ⟨A.2.1, A.2.2.1, A.2.2.2.1⟩, A.1, A.2.2.2.2.1, A.2.2.2.2.2⟩ hI3 (fun Q τ z0 z1 hq => aw_1_7 hL (by omega) A z0 z1 hq) fun σ4 hI4 => ?_
  refine lx_skip hL hA hd (by decide) (by decide) (i' := 5) (by decide) ?_
  refine lx_skip hL hA hd (by decide) (by decide) (i' := 4) (by decide) ?_
  refine lx_skip hL hA hd (by decide) (by decide) (i' := 3) (by decide) ?_
  refine lx_skip hL hA hd (by decide) (by decide) (i' := 2) (by decide) ?_
  refine lx_skip hL hA hd (by decide) (by decide) (i' := 1) (by decide) ?_
  refine lx_skip hL hA hd (by decide) (by decide) (i' := 0) (by decide) ?_
  refine lx_skip hL hA hd (by decide) (by decide) (i' := -1) (by decide) ?_
  exact v_X8_layExchange_31 hL.1 hL.2.1 hL.2.2 hA.1 (by omega) ⟨fun _ => h _ _ _ (by decide) rfl hI4, fun hc => absurd (by decide) hc⟩
theorem aw_2_12 {P : Int → Mem → Prop} {σ : Mem} {a0 a1 a2 b0 b1 b2 : Int} (hL : StrL N Λ c) (hd : 2 ≤ d) (A : (0 ≤ a0 ∧ a0 < 10) ∧ (0 ≤ a1 ∧ a1 < 10) ∧ (0 ≤ a2 ∧ a2 < 10) ∧ (0 ≤ b0 ∧ b0 < 10) ∧ (0 ≤ b1 ∧ b1 < 10) ∧ 0 ≤ b2 ∧ b2 < 10) (h0 : σ (c + 1) 0 = 0) (h1 : σ (c + 1) 1 = 1) (h : AwQ c ((1 : Int), (a0, a1, a2), b0, b1, b2) P σ) : CI l mX8_attachWay d [(2, c), (0, shrI (256 * a0 + 16 * a1 + a2) (mulI 4 (subI 4 2))), (0, 4096 * a1 + 256 * a2 + 16 * b0 + b1), (0, 12), (0, 256 * b0 + 16 * b1 + b2), (0, 4)] N Λ σ P := by
  have hf := fr_e (x := a1) (y := a2) (z := b0) (u := b1) A.2.1 A.2.2.1 A.2.2.2.1 A.2.2.2.2.1
  refine c_X8_attachWay (v_X8_attachWay_0 ?_)
  rw [ahd2 A.1 A.2.1 A.2.2.1]
  refine aw_y hL hd (by decide) hf.1 (by decide) (x6' := 16 * a0 + a1) (o16 (by omega) (by omega) (by omega) (by omega) (by omega)) (x9' := 0) (by decide) (i' := 2) (by decide) ?_
  refine aw_y hL hd (by decide) hf.2.1 (by decide) (x6' := 256 * a0 + 16 * a1 + a2) (o16 (by omega) (by omega) (by omega) (by omega) (by omega)) (x9' := 0) (by decide) (i' := 1) (by decide) ?_
  refine aw_n hL hd (by decide) hf.2.2.1 (by decide) (x7' := b0) (o16 (by omega) (by omega) (by omega) (by omega) (by omega)) (x8' := 1) (by decide) (i' := 0) (by decide) ?_
  refine aw_n hL hd (by decide) hf.2.2.2 (by decide) (x7' := 16 * b0 + b1) (o16 (by omega) (by omega) (by omega) (by omega) (by omega)) (x8' := 2) (by decide) (i' := -1) (by decide) ?_
  exact aw_e (w := ((1 : Int), (a0, a1, a2), b0, b1, b2)) hL hd (by decide) ⟨Or.inl rfl, ⟨A.1, A.2.1, A.2.2.1⟩, A.2.2.2.1, A.2.2.2.2.1, A.2.2.2.2.2⟩ h0 h1 rfl (sec2 A.2.2.2.1 A.2.2.2.2.1 A.2.2.2.1 A.2.2.2.2.1 A.2.2.2.2.2) (Or.inl ⟨by decide, rfl⟩) h
theorem aw_2_10 {P : Int → Mem → Prop} {σ : Mem} {a0 a1 a2 b0 b1 b2 : Int} (hL : StrL N Λ c) (hd : 2 ≤ d) (A : (0 ≤ a0 ∧ a0 < 10) ∧ (0 ≤ a1 ∧ a1 < 10) ∧ (0 ≤ a2 ∧ a2 < 10) ∧ (0 ≤ b0 ∧ b0 < 10) ∧ (0 ≤ b1 ∧ b1 < 10) ∧ 0 ≤ b2 ∧ b2 < 10) (h0 : σ (c + 1) 0 = 0) (h1 : σ (c + 1) 1 = 1) (h : AwQ c ((-1 : Int), (a0, a1, b0), a2, b1, b2) P σ) : CI l mX8_attachWay d [(2, c), (0, shrI (256 * a0 + 16 * a1 + a2) (mulI 4 (subI 4 2))), (0, 4096 * a1 + 256 * a2 + 16 * b0 + b1), (0, 10), (0, 256 * b0 + 16 * b1 + b2), (0, 4)] N Λ σ P := by
  have hf := fr_e (x := a1) (y := a2) (z := b0) (u := b1) A.2.1 A.2.2.1 A.2.2.2.1 A.2.2.2.2.1
  refine c_X8_attachWay (v_X8_attachWay_0 ?_)
  rw [ahd2 A.1 A.2.1 A.2.2.1]
  refine aw_y hL hd (by decide) hf.1 (by decide) (x6' := 16 * a0 + a1) (o16 (by omega) (by omega) (by omega) (by omega) (by omega)) (x9' := 0) (by decide) (i' := 2) (by decide) ?_
  refine aw_n hL hd (by decide) hf.2.1 (by decide) (x7' := a2) (o16 (by omega) (by omega) (by omega) (by omega) (by omega)) (x8' := 1) (by decide) (i' := 1) (by decide) ?_
  refine aw_y hL hd (by decide) hf.2.2.1 (by decide) (x6' := 256 * a0 + 16 * a1 + b0) (o16 (by omega) (by omega) (by omega) (by omega) (by omega)) (x9' := 1) (by decide) (i' := 0) (by decide) ?_
  refine aw_n hL hd (by decide) hf.2.2.2 (by decide) (x7' := 16 * a2 + b1) (o16 (by omega) (by omega) (by omega) (by omega) (by omega)) (x8' := 2) (by decide) (i' := -1) (by decide) ?_
  exact aw_e (w := ((-1 : Int), (a0, a1, b0), a2, b1, b2)) hL hd (by decide) ⟨Or.inr rfl, ⟨A.1, A.2.1, A.2.2.2.1⟩, A.2.2.1, A.2.2.2.2.1, A.2.2.2.2.2⟩ h0 h1 rfl (sec2 A.2.2.1 A.2.2.2.2.1 A.2.2.2.1 A.2.2.2.2.1 A.2.2.2.2.2) (Or.inr ⟨by decide, rfl⟩) h
theorem aw_2_9 {P : Int → Mem → Prop} {σ : Mem} {a0 a1 a2 b0 b1 b2 : Int} (hL : StrL N Λ c) (hd : 2 ≤ d) (A : (0 ≤ a0 ∧ a0 < 10) ∧ (0 ≤ a1 ∧ a1 < 10) ∧ (0 ≤ a2 ∧ a2 < 10) ∧ (0 ≤ b0 ∧ b0 < 10) ∧ (0 ≤ b1 ∧ b1 < 10) ∧ 0 ≤ b2 ∧ b2 < 10) (h0 : σ (c + 1) 0 = 0) (h1 : σ (c + 1) 1 = 1) (h : AwQ c ((1 : Int), (a0, a1, b1), a2, b0, b2) P σ) : CI l mX8_attachWay d [(2, c), (0, shrI (256 * a0 + 16 * a1 + a2) (mulI 4 (subI 4 2))), (0, 4096 * a1 + 256 * a2 + 16 * b0 + b1), (0, 9), (0, 256 * b0 + 16 * b1 + b2), (0, 4)] N Λ σ P := by
  have hf := fr_e (x := a1) (y := a2) (z := b0) (u := b1) A.2.1 A.2.2.1 A.2.2.2.1 A.2.2.2.2.1
  refine c_X8_attachWay (v_X8_attachWay_0 ?_)
  rw [ahd2 A.1 A.2.1 A.2.2.1]
  refine aw_y hL hd (by decide) hf.1 (by decide) (x6' := 16 * a0 + a1) (o16 (by omega) (by omega) (by omega) (by omega) (by omega)) (x9' := 0) (by decide) (i' := 2) (by decide) ?_
  refine aw_n hL hd (by decide) hf.2.1 (by decide) (x7' := a2) (o16 (by omega) (by omega) (by omega) (by omega) (by omega)) (x8' := 1) (by decide) (i' := 1) (by decide) ?_
  refine aw_n hL hd (by decide) hf.2.2.1 (by decide) (x7' := 16 * a2 + b0) (o16 (by omega) (by omega) (by omega) (by omega) (by omega)) (x8' := 2) (by decide) (i' := 0) (by decide) ?_
  refine aw_y hL hd (by decide) hf.2.2.2 (by decide) (x6' := 256 * a0 + 16 * a1 + b1) (o16 (by omega) (by omega) (by omega) (by omega) (by omega)) (x9' := 2) (by decide) (i' := -1) (by decide) ?_
  exact aw_e (w := ((1 : Int), (a0, a1, b1), a2, b0, b2)) hL hd (by decide) ⟨Or.inl rfl, ⟨A.1, A.2.1, A.2.2.2.2.1⟩, A.2.2.1, A.2.2.2.1, A.2.2.2.2.2⟩ h0 h1 rfl (sec2 A.2.2.1 A.2.2.2.1 A.2.2.2.1 A.2.2.2.2.1 A.2.2.2.2.2) (Or.inl ⟨by decide, rfl⟩) h
theorem aw_2_6 {P : Int → Mem → Prop} {σ : Mem} {a0 a1 a2 b0 b1 b2 : Int} (hL : StrL N Λ c) (hd : 2 ≤ d) (A : (0 ≤ a0 ∧ a0 < 10) ∧ (0 ≤ a1 ∧ a1 < 10) ∧ (0 ≤ a2 ∧ a2 < 10) ∧ (0 ≤ b0 ∧ b0 < 10) ∧ (0 ≤ b1 ∧ b1 < 10) ∧ 0 ≤ b2 ∧ b2 < 10) (h0 : σ (c + 1) 0 = 0) (h1 : σ (c + 1) 1 = 1) (h : AwQ c ((1 : Int), (a0, a2, b0), a1, b1, b2) P σ) : CI l mX8_attachWay d [(2, c), (0, shrI (256 * a0 + 16 * a1 + a2) (mulI 4 (subI 4 2))), (0, 4096 * a1 + 256 * a2 + 16 * b0 + b1), (0, 6), (0, 256 * b0 + 16 * b1 + b2), (0, 4)] N Λ σ P := by
  have hf := fr_e (x := a1) (y := a2) (z := b0) (u := b1) A.2.1 A.2.2.1 A.2.2.2.1 A.2.2.2.2.1
  refine c_X8_attachWay (v_X8_attachWay_0 ?_)
  rw [ahd2 A.1 A.2.1 A.2.2.1]
  refine aw_n hL hd (by decide) hf.1 (by decide) (x7' := a1) (o16 (by omega) (by omega) (by omega) (by omega) (by omega)) (x8' := 1) (by decide) (i' := 2) (by decide) ?_
  refine aw_y hL hd (by decide) hf.2.1 (by decide) (x6' := 16 * a0 + a2) (o16 (by omega) (by omega) (by omega) (by omega) (by omega)) (x9' := 1) (by decide) (i' := 1) (by decide) ?_
  refine aw_y hL hd (by decide) hf.2.2.1 (by decide) (x6' := 256 * a0 + 16 * a2 + b0) (o16 (by omega) (by omega) (by omega) (by omega) (by omega)) (x9' := 2) (by decide) (i' := 0) (by decide) ?_
  refine aw_n hL hd (by decide) hf.2.2.2 (by decide) (x7' := 16 * a1 + b1) (o16 (by omega) (by omega) (by omega) (by omega) (by omega)) (x8' := 2) (by decide) (i' := -1) (by decide) ?_
  exact aw_e (w := ((1 : Int), (a0, a2, b0), a1, b1, b2)) hL hd (by decide) ⟨Or.inl rfl, ⟨A.1, A.2.2.1, A.2.2.2.1⟩, A.2.1, A.2.2.2.2.1, A.2.2.2.2.2⟩ h0 h1 rfl (sec2 A.2.1 A.2.2.2.2.1 A.2.2.2.1 A.2.2.2.2.1 A.2.2.2.2.2) (Or.inl ⟨by decide, rfl⟩) h
theorem aw_2_5 {P : Int → Mem → Prop} {σ : Mem} {a0 a1 a2 b0 b1 b2 : Int} (hL : StrL N Λ c) (hd : 2 ≤ d) (A : (0 ≤ a0 ∧ a0 < 10) ∧ (0 ≤ a1 ∧ a1 < 10) ∧ (0 ≤ a2 ∧ a2 < 10) ∧ (0 ≤ b0 ∧ b0 < 10) ∧ (0 ≤ b1 ∧ b1 < 10) ∧ 0 ≤ b2 ∧ b2 < 10) (h0 : σ (c + 1) 0 = 0) (h1 : σ (c + 1) 1 = 1) (h : AwQ c ((-1 : Int), (a0, a2, b1), a1, b0, b2) P σ) : CI l mX8_attachWay d [(2, c), (0, shrI (256 * a0 + 16 * a1 + a2) (mulI 4 (subI 4 2))), (0, 4096 * a1 + 256 * a2 + 16 * b0 + b1), (0, 5), (0, 256 * b0 + 16 * b1 + b2), (0, 4)] N Λ σ P := by
  have hf := fr_e (x := a1) (y := a2) (z := b0) (u := b1) A.2.1 A.2.2.1 A.2.2.2.1 A.2.2.2.2.1
  refine c_X8_attachWay (v_X8_attachWay_0 ?_)
  rw [ahd2 A.1 A.2.1 A.2.2.1]
  refine aw_n hL hd (by decide) hf.1 (by decide) (x7' := a1) (o16 (by omega) (by omega) (by omega) (by omega) (by omega)) (x8' := 1) (by decide) (i' := 2) (by decide) ?_
  refine aw_y hL hd (by decide) hf.2.1 (by decide) (x6' := 16 * a0 + a2) (o16 (by omega) (by omega) (by omega) (by omega) (by omega)) (x9' := 1) (by decide) (i' := 1) (by decide) ?_
  refine aw_n hL hd (by decide) hf.2.2.1 (by decide) (x7' := 16 * a1 + b0) (o16 (by omega) (by omega) (by omega) (by omega) (by omega)) (x8' := 2) (by decide) (i' := 0) (by decide) ?_
  refine aw_y hL hd (by decide) hf.2.2.2 (by decide) (x6' := 256 * a0 + 16 * a2 + b1) (o16 (by omega) (by omega) (by omega) (by omega) (by omega)) (x9' := 3) (by decide) (i' := -1) (by decide) ?_
  exact aw_e (w := ((-1 : Int), (a0, a2, b1), a1, b0, b2)) hL hd (by decide) ⟨Or.inr rfl, ⟨A.1, A.2.2.1, A.2.2.2.2.1⟩, A.2.1, A.2.2.2.1, A.2.2.2.2.2⟩ h0 h1 rfl (sec2 A.2.1 A.2.2.2.1 A.2.2.2.1 A.2.2.2.2.1 A.2.2.2.2.2) (Or.inr ⟨by decide, rfl⟩) h
theorem aw_2_3 {P : Int → Mem → Prop} {σ : Mem} {a0 a1 a2 b0 b1 b2 : Int} (hL : StrL N Λ c) (hd : 2 ≤ d) (A : (0 ≤ a0 ∧ a0 < 10) ∧ (0 ≤ a1 ∧ a1 < 10) ∧ (0 ≤ a2 ∧ a2 < 10) ∧ (0 ≤ b0 ∧ b0 < 10) ∧ (0 ≤ b1 ∧ b1 < 10) ∧ 0 ≤ b2 ∧ b2 < 10) (h0 : σ (c + 1) 0 = 0) (h1 : σ (c + 1) 1 = 1) (h : AwQ c ((1 : Int), (a0, b0, b1), a1, a2, b2) P σ) : CI l mX8_attachWay d [(2, c), (0, shrI (256 * a0 + 16 * a1 + a2) (mulI 4 (subI 4 2))), (0, 4096 * a1 + 256 * a2 + 16 * b0 + b1), (0, 3), (0, 256 * b0 + 16 * b1 + b2), (0, 4)] N Λ σ P := by
  have hf := fr_e (x := a1) (y := a2) (z := b0) (u := b1) A.2.1 A.2.2.1 A.2.2.2.1 A.2.2.2.2.1
  refine c_X8_attachWay (v_X8_attachWay_0 ?_)
  rw [ahd2 A.1 A.2.1 A.2.2.1]
  refine aw_n hL hd (by decide) hf.1 (by decide) (x7' := a1) (o16 (by omega) (by omega) (by omega) (by omega) (by omega)) (x8' := 1) (by decide) (i' := 2) (by decide) ?_
  refine aw_n hL hd (by decide) hf.2.1 (by decide) (x7' := 16 * a1 + a2) (o16 (by omega) (by omega) (by omega) (by omega) (by omega)) (x8' := 2) (by decide) (i' := 1) (by decide) ?_
  refine aw_y hL hd (by decide) hf.2.2.1 (by decide) (x6' := 16 * a0 + b0) (o16 (by omega) (by omega) (by omega) (by omega) (by omega)) (x9' := 2) (by decide) (i' := 0) (by decide) ?_
  refine aw_y hL hd (by decide) hf.2.2.2 (by decide) (x6' := 256 * a0 + 16 * b0 + b1) (o16 (by omega) (by omega) (by omega) (by omega) (by omega)) (x9' := 4) (by decide) (i' := -1) (by decide) ?_
  exact aw_e (w := ((1 : Int), (a0, b0, b1), a1, a2, b2)) hL hd (by decide) ⟨Or.inl rfl, ⟨A.1, A.2.2.2.1, A.2.2.2.2.1⟩, A.2.1, A.2.2.1, A.2.2.2.2.2⟩ h0 h1 rfl (sec2 A.2.1 A.2.2.1 A.2.2.2.1 A.2.2.2.2.1 A.2.2.2.2.2) (Or.inl ⟨by decide, rfl⟩) h
theorem kx_2 {P : Int → Mem → Prop} {σ : Mem} {a0 a1 a2 b0 b1 b2 : Int} (hL : StrL N Λ c) (hA : PolyL N Λ a) (hca : c + 1 ≠ a ∧ c + 1 ≠ a + 1 ∧ c + 1 ≠ a + 2) (hd : 4 ≤ d) (A : (0 ≤ a0 ∧ a0 < 10) ∧ (0 ≤ a1 ∧ a1 < 10) ∧ (0 ≤ a2 ∧ a2 < 10) ∧ (0 ≤ b0 ∧ b0 < 10) ∧ (0 ≤ b1 ∧ b1 < 10) ∧ 0 ≤ b2 ∧ b2 < 10) (hz : σ a 2 = 0) (h : ∀ σ' m ts, m ≤ 40 → ts = exR (ways2 a0 a1 a2 b0 b1 b2) [] → LxI σ σ' c a m ts → P 0 σ') : CI l mX8_layExchange d [(2, c), (2, a), (0, 256 * a0 + 16 * a1 + a2), (0, 256 * b0 + 16 * b1 + b2), (0, 2), (1, 0), (1, 1)] N Λ σ P := by
  refine c_X8_layExchange (v_X8_layExchange_0 fun y1 e1 y2 e2 => ?_)
  rw [show mulI 4 (subI 3 2) = 4 by decide] at e1
  subst e1
  rw [fou2 A.1 A.2.1 A.2.2.1 A.2.2.2.1 A.2.2.2.2.1 A.2.2.2.2.2] at e2
  subst e2
  have hI0 : LxI σ σ c a 0 [] := ⟨⟨Nat.le_refl 0, fun e he => by simp at he⟩, ⟨hz, fun i e he => by simp at he⟩, fun i j a c _ ha _ => by simp at ha, fun _ _ _ _ _ => rfl⟩
  refine lx_skip hL hA hd (by decide) (by decide) (i' := 14) (by decide) ?_
  refine lx_skip hL hA hd (by decide) (by decide) (i' := 13) (by decide) ?_
  refine lx_skip hL hA hd (by decide) (by decide) (i' := 12) (by decide) ?_
  refine lx_do ((1 : Int), (a0, a1, a2), b0, b1, b2) hL hA hca hd (by decide) (by decide) (i' := 11) (by decide) (by decide) ⟨Or.inl rfl, ⟨A.1, A.2.1, A.2.2.1⟩, A.2.2.2.1, A.2.2.2.2.1, A.2.2.2.2.2⟩ hI0 (fun Q τ z0 z1 hq => aw_2_12 hL (by omega) A z0 z1 hq) fun σ1 hI1 => ?_
  refine lx_skip hL hA hd (by decide) (by decide) (i' := 10) (by decide) ?_
  refine lx_do ((-1 : Int), (a0, a1, b0), a2, b1, b2) hL hA hca hd (by decide) (by decide) (i' := 9) (by decide) (by decide) ⟨Or.inr rfl, ⟨A.1, A.2.1, A.2.2.2.1⟩, A.2.2.1, A.2.2.2.2.1, A.2.2.2.2.2⟩ hI1 (fun Q τ z0 z1 hq => aw_2_10 hL (by omega) A z0 z1 hq) fun σ2 hI2 => ?_
  refine lx_do ((1 : Int), (a0, a1, b1), a2, b0, b2) hL hA hca hd (by decide) (by decide) (i' := 8) (by decide) (by decide) ⟨Or.inl rfl, ⟨A.1, A.2.1, A.2.2.2.2.1⟩, A.2.2.1, A.2.2.2.1, A.2.2.2.2.2⟩ hI2 (fun Q τ z0 z1 hq => aw_2_9 hL (by omega) A z0 z1 hq) fun σ3 hI3 => ?_
  refine lx_skip hL hA hd (by decide) (by decide) (i' := 7) (by decide) ?_
  refine lx_skip hL hA hd (by decide) (by decide) (i' := 6) (by decide) ?_
  refine lx_do ((1 : Int), (a0, a2, b0), a1, b1, b2) hL hA hca hd (by decide) (by decide) (i' := 5) (by decide) (by decide) ⟨Or.inl rfl, ⟨A.1, A.2.2.1, A.2.2.2.1⟩, A.2.1, A.2.2.2.2.1, A.2.2.2.2.2⟩ hI3 (fun Q τ z0 z1 hq => aw_2_6 hL (by omega) A z0 z1 hq) fun σ4 hI4 => ?_
  refine lx_do ((-1 : Int), (a0, a2, b1), a1, b0, b2) hL hA hca hd (by decide) (by decide) (i' := 4) (by decide) (by decide) ⟨Or.inr rfl, ⟨A.1, A.2.2.1, A.2.2.2.2.1⟩, A.2.1, A.2.2.2.1, A.2.2.2.2.2⟩ hI4 (fun Q τ z0 z1 hq => aw_2_5 hL (by omega) A z0 z1 hq) fun σ5 hI5 => ?_
  refine lx_skip hL hA hd (by decide) (by decide) (i' := 3) (by decide) ?_
  refine lx_do ((1 : Int), (a0, b0, b1), a1, a2, b2) hL hA hca hd (by decide) (by decide) (i' := 2) (by decide) (by decide) ⟨Or.inl rfl, ⟨A.1, A.2.2.2.1, A.2.2.2.2.1⟩, A.2.1, A.2.2.1, A.2.2.2.2.2⟩ hI5 (fun Q τ z0 z1 hq => aw_2_3 hL (by omega) A z0 z1 hq) fun σ6 hI6 => ?_
  refine lx_skip hL hA hd (by decide) (by decide) (i' := 1) (by decide) ?_
  refine lx_skip hL hA hd (by decide) (by decide) (i' := 0) (by decide) ?_
  refine lx_skip hL hA hd (by decide) (by decide) (i' := -1) (by decide) ?_
  exact v_X8_layExchange_31 hL.1 hL.2.1 hL.2.2 hA.1 (by omega) ⟨fun _ => h _ _ _ (by decide) rfl hI6, fun hc => absurd (by decide) hc⟩
theorem aw_3_8 {P : Int → Mem → Prop} {σ : Mem} {a0 a1 a2 b0 b1 b2 : Int} (hL : StrL N Λ c) (hd : 2 ≤ d) (A : (0 ≤ a0 ∧ a0 < 10) ∧ (0 ≤ a1 ∧ a1 < 10) ∧ (0 ≤ a2 ∧ a2 < 10) ∧ (0 ≤ b0 ∧ b0 < 10) ∧ (0 ≤ b1 ∧ b1 < 10) ∧ 0 ≤ b2 ∧ b2 < 10) (h0 : σ (c + 1) 0 = 0) (h1 : σ (c + 1) 1 = 1) (h : AwQ c ((1 : Int), (a0, a1, a2), b0, b1, b2) P σ) : CI l mX8_attachWay d [(2, c), (0, shrI (256 * a0 + 16 * a1 + a2) (mulI 4 (subI 4 3))), (0, 4096 * a2 + 256 * b0 + 16 * b1 + b2), (0, 8), (0, 256 * b0 + 16 * b1 + b2), (0, 0)] N Λ σ P := by
  have hf := fr_e (x := a2) (y := b0) (z := b1) (u := b2) A.2.2.1 A.2.2.2.1 A.2.2.2.2.1 A.2.2.2.2.2
  refine c_X8_attachWay (v_X8_attachWay_0 ?_)
  rw [ahd3 A.1 A.2.1 A.2.2.1]
  refine aw_y hL hd (by decide) hf.1 (by decide) (x6' := 256 * a0 + 16 * a1 + a2) (o16 (by omega) (by omega) (by omega) (by omega) (by omega)) (x9' := 0) (by decide) (i' := 2) (by decide) ?_
  refine aw_n hL hd (by decide) hf.2.1 (by decide) (x7' := b0) (o16 (by omega) (by omega) (by omega) (by omega) (by omega)) (x8' := 1) (by decide) (i' := 1) (by decide) ?_
  refine aw_n hL hd (by decide) hf.2.2.1 (by decide) (x7' := 16 * b0 + b1) (o16 (by omega) (by omega) (by omega) (by omega) (by omega)) (x8' := 2) (by decide) (i' := 0) (by decide) ?_
  refine aw_n hL hd (by decide) hf.2.2.2 (by decide) (x7' := 256 * b0 + 16 * b1 + b2) (o16 (by omega) (by omega) (by omega) (by omega) (by omega)) (x8' := 3) (by decide) (i' := -1) (by decide) ?_
  exact aw_e (w := ((1 : Int), (a0, a1, a2), b0, b1, b2)) hL hd (by decide) ⟨Or.inl rfl, ⟨A.1, A.2.1, A.2.2.1⟩, A.2.2.2.1, A.2.2.2.2.1, A.2.2.2.2.2⟩ h0 h1 rfl (sec3 A.2.2.2.1 A.2.2.2.2.1 A.2.2.2.2.2 A.2.2.2.1 A.2.2.2.2.1 A.2.2.2.2.2) (Or.inl ⟨by decide, rfl⟩) h
theorem aw_3_4 {P : Int → Mem → Prop} {σ : Mem} {a0 a1 a2 b0 b1 b2 : Int} (hL : StrL N Λ c) (hd : 2 ≤ d) (A : (0 ≤ a0 ∧ a0 < 10) ∧ (0 ≤ a1 ∧ a1 < 10) ∧ (0 ≤ a2 ∧ a2 < 10) ∧ (0 ≤ b0 ∧ b0 < 10) ∧ (0 ≤ b1 ∧ b1 < 10) ∧ 0 ≤ b2 ∧ b2 < 10) (h0 : σ (c + 1) 0 = 0) (h1 : σ (c + 1) 1 = 1) (h : AwQ c ((-1 : Int), (a0, a1, b0), a2, b1, b2) P σ) : CI l mX8_attachWay d [(2, c), (0, shrI (256 * a0 + 16 * a1 + a2) (mulI 4 (subI 4 3))), (0, 4096 * a2 + 256 * b0 + 16 * b1 + b2), (0, 4), (0, 256 * b0 + 16 * b1 + b2), (0, 0)] N Λ σ P := by
  have hf := fr_e (x := a2) (y := b0) (z := b1) (u := b2) A.2.2.1 A.2.2.2.1 A.2.2.2.2.1 A.2.2.2.2.2
  refine c_X8_attachWay (v_X8_attachWay_0 ?_)
  rw [ahd3 A.1 A.2.1 A.2.2.1]
  refine aw_n hL hd (by decide) hf.1 (by decide) (x7' := a2) (o16 (by omega) (by omega) (by omega) (by omega) (by omega)) (x8' := 1) (by decide) (i' := 2) (by decide) ?_
  refine aw_y hL hd (by decide) hf.2.1 (by decide) (x6' := 256 * a0 + 16 * a1 + b0) (o16 (by omega) (by omega) (by omega) (by omega) (by omega)) (x9' := 1) (by decide) (i' := 1) (by decide) ?_
  refine aw_n hL hd (by decide) hf.2.2.1 (by decide) (x7' := 16 * a2 + b1) (o16 (by omega) (by omega) (by omega) (by omega) (by omega)) (x8' := 2) (by decide) (i' := 0) (by decide) ?_
  refine aw_n hL hd (by decide) hf.2.2.2 (by decide) (x7' := 256 * a2 + 16 * b1 + b2) (o16 (by omega) (by omega) (by omega) (by omega) (by omega)) (x8' := 3) (by decide) (i' := -1) (by decide) ?_
  exact aw_e (w := ((-1 : Int), (a0, a1, b0), a2, b1, b2)) hL hd (by decide) ⟨Or.inr rfl, ⟨A.1, A.2.1, A.2.2.2.1⟩, A.2.2.1, A.2.2.2.2.1, A.2.2.2.2.2⟩ h0 h1 rfl (sec3 A.2.2.1 A.2.2.2.2.1 A.2.2.2.2.2 A.2.2.2.1 A.2.2.2.2.1 A.2.2.2.2.2) (Or.inr ⟨by decide, rfl⟩) h
theorem aw_3_2 {P : Int → Mem → Prop} {σ : Mem} {a0 a1 a2 b0 b1 b2 : Int} (hL : StrL N Λ c) (hd : 2 ≤ d) (A : (0 ≤ a0 ∧ a0 < 10) ∧ (0 ≤ a1 ∧ a1 < 10) ∧ (0 ≤ a2 ∧ a2 < 10) ∧ (0 ≤ b0 ∧ b0 < 10) ∧ (0 ≤ b1 ∧ b1 < 10) ∧ 0 ≤ b2 ∧ b2 < 10) (h0 : σ (c + 1) 0 = 0) (h1 : σ (c + 1) 1 = 1) (h : AwQ c ((1 : Int), (a0, a1, b1), a2, b0, b2) P σ) : CI l mX8_attachWay d [(2, c), (0, shrI (256 * a0 + 16 * a1 + a2) (mulI 4 (subI 4 3))), (0, 4096 * a2 + 256 * b0 + 16 * b1 + b2), (0, 2), (0, 256 * b0 + 16 * b1 + b2), (0, 0)] N Λ σ P := by
  have hf := fr_e (x := a2) (y := b0) (z := b1) (u := b2) A.2.2.1 A.2.2.2.1 A.2.2.2.2.1 A.2.2.2.2.2
  refine c_X8_attachWay (v_X8_attachWay_0 ?_)
  rw [ahd3 A.1 A.2.1 A.2.2.1]
  refine aw_n hL hd (by decide) hf.1 (by decide) (x7' := a2) (o16 (by omega) (by omega) (by omega) (by omega) (by omega)) (x8' := 1) (by decide) (i' := 2) (by decide) ?_
  refine aw_n hL hd (by decide) hf.2.1 (by decide) (x7' := 16 * a2 + b0) (o16 (by omega) (by omega) (by omega) (by omega) (by omega)) (x8' := 2) (by decide) (i' := 1) (by decide) ?_
  refine aw_y hL hd (by decide) hf.2.2.1 (by decide) (x6' := 256 * a0 + 16 * a1 + b1) (o16 (by omega) (by omega) (by omega) (by omega) (by omega)) (x9' := 2) (by decide) (i' := 0) (by decide) ?_
  refine aw_n hL hd (by decide) hf.2.2.2 (by decide) (x7' := 256 * a2 + 16 * b0 + b2) (o16 (by omega) (by omega) (by omega) (by omega) (by omega)) (x8' := 3) (by decide) (i' := -1) (by decide) ?_
  exact aw_e (w := ((1 : Int), (a0, a1, b1), a2, b0, b2)) hL hd (by decide) ⟨Or.inl rfl, ⟨A.1, A.2.1, A.2.2.2.2.1⟩, A.2.2.1, A.2.2.2.1, A.2.2.2.2.2⟩ h0 h1 rfl (sec3 A.2.2.1 A.2.2.2.1 A.2.2.2.2.2 A.2.2.2.1 A.2.2.2.2.1 A.2.2.2.2.2) (Or.inl ⟨by decide, rfl⟩) h
theorem aw_3_1 {P : Int → Mem → Prop} {σ : Mem} {a0 a1 a2 b0 b1 b2 : Int} (hL : StrL N Λ c) (hd : 2 ≤ d) (A : (0 ≤ a0 ∧ a0 < 10) ∧ (0 ≤ a1 ∧ a1 < 10) ∧ (0 ≤ a2 ∧ a2 < 10) ∧ (0 ≤ b0 ∧ b0 < 10) ∧ (0 ≤ b1 ∧ b1 < 10) ∧ 0 ≤ b2 ∧ b2 < 10) (h0 : σ (c + 1) 0 = 0) (h1 : σ (c + 1) 1 = 1) (h : AwQ c ((-1 : Int), (a0, a1, b2), a2, b0, b1) P σ) : CI l mX8_attachWay d [(2, c), (0, shrI (256 * a0 + 16 * a1 + a2) (mulI 4 (subI 4 3))), (0, 4096 * a2 + 256 * b0 + 16 * b1 + b2), (0, 1), (0, 256 * b0 + 16 * b1 + b2), (0, 0)] N Λ σ P := by
  have hf := fr_e (x := a2) (y := b0) (z := b1) (u := b2) A.2.2.1 A.2.2.2.1 A.2.2.2.2.1 A.2.2.2.2.2
  refine c_X8_attachWay (v_X8_attachWay_0 ?_)
  rw [ahd3 A.1 A.2.1 A.2.2.1]
  refine aw_n hL hd (by decide) hf.1 (by decide) (x7' := a2) (o16 (by omega) (by omega) (by omega) (by omega) (by omega)) (x8' := 1) (by decide) (i' := 2) (by decide) ?_
  refine aw_n hL hd (by decide) hf.2.1 (by decide) (x7' := 16 * a2 + b0) (o16 (by omega) (by omega) (by omega) (by omega) (by omega)) (x8' := 2) (by decide) (i' := 1) (by decide) ?_
  refine aw_n hL hd (by decide) hf.2.2.1 (by decide) (x7' := 256 * a2 + 16 * b0 + b1) (o16 (by omega) (by omega) (by omega) (by omega) (by omega)) (x8' := 3) (by decide) (i' := 0) (by decide) ?_
  refine aw_y hL hd (by decide) hf.2.2.2 (by decide) (x6' := 256 * a0 + 16 * a1 + b2) (o16 (by omega) (by omega) (by omega) (by omega) (by omega)) (x9' := 3) (by decide) (i' := -1) (by decide) ?_
  exact aw_e (w := ((-1 : Int), (a0, a1, b2), a2, b0, b1)) hL hd (by decide) ⟨Or.inr rfl, ⟨A.1, A.2.1, A.2.2.2.2.2⟩, A.2.2.1, A.2.2.2.1, A.2.2.2.2.1⟩ h0 h1 rfl (sec3 A.2.2.1 A.2.2.2.1 A.2.2.2.2.1 A.2.2.2.1 A.2.2.2.2.1 A.2.2.2.2.2) (Or.inr ⟨by decide, rfl⟩) h
theorem kx_3 {P : Int → Mem → Prop} {σ : Mem} {a0 a1 a2 b0 b1 b2 : Int} (hL : StrL N Λ c) (hA : PolyL N Λ a) (hca : c + 1 ≠ a ∧ c + 1 ≠ a + 1 ∧ c + 1 ≠ a + 2) (hd : 4 ≤ d) (A : (0 ≤ a0 ∧ a0 < 10) ∧ (0 ≤ a1 ∧ a1 < 10) ∧ (0 ≤ a2 ∧ a2 < 10) ∧ (0 ≤ b0 ∧ b0 < 10) ∧ (0 ≤ b1 ∧ b1 < 10) ∧ 0 ≤ b2 ∧ b2 < 10) (hz : σ a 2 = 0) (h : ∀ σ' m ts, m ≤ 40 → ts = exR (ways3 a0 a1 a2 b0 b1 b2) [] → LxI σ σ' c a m ts → P 0 σ') : CI l mX8_layExchange d [(2, c), (2, a), (0, 256 * a0 + 16 * a1 + a2), (0, 256 * b0 + 16 * b1 + b2), (0, 3), (1, 0), (1, 1)] N Λ σ P := by
  refine c_X8_layExchange (v_X8_layExchange_0 fun y1 e1 y2 e2 => ?_)
  rw [show mulI 4 (subI 3 3) = 0 by decide] at e1
  subst e1
  rw [fou3 A.1 A.2.1 A.2.2.1 A.2.2.2.1 A.2.2.2.2.1 A.2.2.2.2.2] at e2
  subst e2
  have hI0 : LxI σ σ c a 0 [] := ⟨⟨Nat.le_refl 0, fun e he => by simp at he⟩, ⟨hz, fun i e he => by simp at he⟩, fun i j a c _ ha _ => by simp at ha, fun _ _ _ _ _ => rfl⟩
  refine lx_skip hL hA hd (by decide) (by decide) (i' := 14) (by decide) ?_
  refine lx_skip hL hA hd (by decide) (by decide) (i' := 13) (by decide) ?_
  refine lx_skip hL hA hd (by decide) (by decide) (i' := 12) (by decide) ?_
  refine lx_skip hL hA hd (by decide) (by decide) (i' := 11) (by decide) ?_
  refine lx_skip hL hA hd (by decide) (by decide) (i' := 10) (by decide) ?_
  refine lx_skip hL hA hd (by decide) (by decide) (i' := 9) (by decide) ?_
  refine lx_skip hL hA hd (by decide) (by decide) (i' := 8) (by decide) ?_
  refine lx_do ((1 : Int), (a0, a1, a2), b0, b1, b2) hL hA hca hd (by decide) (by decide) (i' := 7) (by decide) (by decide) ⟨Or.inl rfl, ⟨A.1, A.2.1, A.2.2.1⟩, A.2.2.2.1, A.2.2.2.2.1, A.2.2.2.2.2⟩ hI0 (fun Q τ z0 z1 hq => aw_3_8 hL (by omega) A z0 z1 hq) fun σ1 hI1 => ?_
  refine lx_skip hL hA hd (by decide) (by decide) (i' := 6) (by decide) ?_
  refine lx_skip hL hA hd (by decide) (by decide) (i' := 5) (by decide) ?_
  refine lx_skip hL hA hd (by decide) (by decide) (i' := 4) (by decide) ?_
  refine lx_do ((-1 : Int), (a0, a1, b0), a2, b1, b2) hL hA hca hd (by decide) (by decide) (i' := 3) (by decide) (by decide) ⟨Or.inr rfl, ⟨A.1, A.2.1, A.2.2.2.1⟩, A.2.2.1, A.2.2.2.2.1, A.2.2.2.2.2⟩ hI1 (fun Q τ z0 z1 hq => aw_3_4 hL (by omega) A z0 z1 hq) fun σ2 hI2 => ?_
  refine lx_skip hL hA hd (by decide) (by decide) (i' := 2) (by decide) ?_
  refine lx_do ((1 : Int), (a0, a1, b1), a2, b0, b2) hL hA hca hd (by decide) (by decide) (i' := 1) (by decide) (by decide) ⟨Or.inl rfl, ⟨A.1, A.2.1, A.2.2.2.2.1⟩, A.2.2.1, A.2.2.2.1, A.2.2.2.2.2⟩ hI2 (fun Q τ z0 z1 hq => aw_3_2 hL (by omega) A z0 z1 hq) fun σ3 hI3 => ?_
  refine lx_do ((-1 : Int), (a0, a1, b2), a2, b0, b1) hL hA hca hd (by decide) (by decide) (i' := 0) (by decide) (by decide) ⟨Or.inr rfl, ⟨A.1, A.2.1, A.2.2.2.2.2⟩, A.2.2.1, A.2.2.2.1, A.2.2.2.2.1⟩ hI3 (fun Q τ z0 z1 hq => aw_3_1 hL (by omega) A z0 z1 hq) fun σ4 hI4 => ?_
  refine lx_skip hL hA hd (by decide) (by decide) (i' := -1) (by decide) ?_
  exact v_X8_layExchange_31 hL.1 hL.2.1 hL.2.2 hA.1 (by omega) ⟨fun _ => h _ _ _ (by decide) rfl hI4, fun hc => absurd (by decide) hc⟩
theorem kx {P : Int → Mem → Prop} {σ : Mem} {a0 a1 a2 b0 b1 b2 k : Int} (hL : StrL N Λ c) (hA : PolyL N Λ a) (hca : c + 1 ≠ a ∧ c + 1 ≠ a + 1 ∧ c + 1 ≠ a + 2) (hd : 4 ≤ d) (A : (0 ≤ a0 ∧ a0 < 10) ∧ (0 ≤ a1 ∧ a1 < 10) ∧ (0 ≤ a2 ∧ a2 < 10) ∧ (0 ≤ b0 ∧ b0 < 10) ∧ (0 ≤ b1 ∧ b1 < 10) ∧ 0 ≤ b2 ∧ b2 < 10) (hk : 1 ≤ k ∧ k ≤ 3) (hz : σ a 2 = 0) (h : ∀ σ' m ts, m ≤ 40 → ts = exR (ways k a0 a1 a2 b0 b1 b2) [] → LxI σ σ' c a m ts → P 0 σ') : CI l mX8_layExchange d [(2, c), (2, a), (0, 256 * a0 + 16 * a1 + a2), (0, 256 * b0 + 16 * b1 + b2), (0, k), (1, 0), (1, 1)] N Λ σ P := by
  have ck : k = 1 ∨ k = 2 ∨ k = 3 := by clear h A; omega
  rcases ck with e | e | e
  · subst e
    exact kx_1 hL hA hca hd A hz h
  · subst e
    exact kx_2 hL hA hca hd A hz h
  · subst e
    exact kx_3 hL hA hca hd A hz h
end CX
section CX2
variable {l : Launch} {d N : Nat} {Λ : Lay} {σ : Mem} {t : Int}
theorem row_d {x : Int} (h : 0 ≤ x ∧ x ≤ 999) : orI (orI (shlI (divI x 100) 8) (shlI (remI (divI x 10) 10) 4)) (remI x 10) = 256 * (x / 100) + 16 * (x / 10 % 10) + x % 10 := by
  rw [divI_e (x := x) (y := 100) (by omega) (by omega) (by decide) (by decide), divI_e (x := x) (y := 10) (by omega) (by omega) (by decide) (by decide), remI_e (x := x / 10) (y := 10) (by omega) (by omega) (by decide) (by decide), remI_e (x := x) (y := 10) (by omega) (by omega) (by decide) (by decide)]
  exact row_e (by omega) (by omega) (by omega)
theorem kd_exchange {P : Int → Mem → Prop} {s x y k : Int} (hL : DeskL N Λ t) (h0 : Desk0 σ t) (hd : 5 ≤ d) (h : ∀ σ', FrD σ σ' t → P (an_ex s x y k) σ') : CI l mX11_exchange d [(2, t), (0, s), (0, x), (0, y), (0, k)] N Λ σ P := by
  obtain ⟨o, hR, hS, hH, hI, hMd, hT, hSt, hFi, hFo, hE, hFa, hTm, hW, hOt, hS1, hS2⟩ := id hL
  have no : ¬ (0 ≤ s ∧ s < 6) → P (-2) σ := fun q => by have := h σ FrD.rf; rw [an_ex2 q] at this; exact this
  have no3 : (0 ≤ s ∧ s < 6) → ¬ ((0 ≤ x ∧ x ≤ 999) ∧ (0 ≤ y ∧ y ≤ 999) ∧ 1 ≤ k ∧ k ≤ 3) → P (-3) σ := fun q q2 => by have := h σ FrD.rf; rw [an_ex3 q q2] at this; exact this
  refine c_X11_exchange (v_X11_exchange_0 o hR.2.2.2.2.2.2.2.2.2.2.2.1 hW.1 hR.2.2.2.2.2.1 hSt.1 (by omega) ⟨fun g => no (by omega), fun g1 => ⟨fun g => no (by omega), fun g2 => ⟨fun g => no3 (by omega) (by omega), fun g3 => ⟨fun g => no3 (by omega) (by omega), fun g4 => ⟨fun g => no3 (by omega) (by omega), fun g5 => ⟨fun g => no3 (by omega) (by omega), fun g6 => ⟨fun g => no3 (by omega) (by omega), fun g7 => ⟨fun g8 τ1 e1 => ?_, fun g => no3 (by omega) (by omega)⟩⟩⟩⟩⟩⟩⟩⟩)
  have ye : ∀ σ', FrD σ σ' t → P ((exR (ways k (x / 100) (x / 10 % 10) (x % 10) (y / 100) (y / 10 % 10) (y % 10)) []).length : Int) σ' := fun σ' f => by have := h σ' f; rw [an_exy (by omega) (by omega)] at this; exact this
  clear no no3 h
  rw [row_d (by omega), row_d (by omega)]
  have hz : τ1 (t + 596) 2 = 0 := by rw [e1, st_eq]
  have n1 : ∀ c' : Int, c' ≠ t + 596 → τ1 c' = σ c' := fun c' q => by rw [e1, st_ne q]
  refine kx hSt hW (by omega) (by omega) ⟨by omega, by omega, by omega, by omega, by omega, by omega⟩ (by omega) hz fun σ2 m ts hm ets hx => ?_
  have n2 : ∀ c' : Int, c' ≠ t + 252 → (c' < t + 596 ∨ t + 599 ≤ c') → σ2 c' = σ c' := fun c' q1 q2 => (hx.2.2.2 c' (by omega) (by omega) (by omega) (by omega)).trans (n1 c' (by omega))
  have hl : σ2 (t + 596) 2 = ts.length := by rw [hx.2.1.1, List.length_map]
  have hl2 := hx.1.1
  refine kd_keep hL (h0.DK.same fun c' u0 u1 => n2 c' (by omega) (by omega)) (by omega) (by omega) (by omega) (by omega) fun σ' f => ?_
  rw [hl, ets]
  exact ye σ' (FrD.tr (fun c' q => n2 c' (by omega) (by omega)) f)
end CX2
