/-! the table of ranks -/
def rkN (x y z : Nat) : Nat := kf x y + (z - y - 1) + 1
def bru : Bool := (List.range 120).all fun n => match brs[n]? with
  | some t => Nat.beq (rkN t.1 t.2.1 t.2.2) (n + 1)
  | none => false
theorem bru_t : bru = true := by rfl
theorem brs_l : brs.length = 120 := by rfl
theorem brs_u {n x y z : Nat} (h : brs[n]? = some (x, y, z)) : rkN x y z = n + 1 ∧ n < 120 := by
  have hn : n < 120 := by
    have := (List.getElem?_eq_some_iff.mp h).1
    rw [brs_l] at this
    exact this
  have h1 := bru_t
  unfold bru at h1
  rw [List.all_eq_true] at h1
  have h2 := h1 n (List.mem_range.2 hn)
  rw [h] at h2
  exact ⟨Nat.eq_of_beq_eq_true h2, hn⟩
theorem brs_s {x y z : Nat} (h1 : x < y) (h2 : y < z) (h3 : z < 10) : brs[rkN x y z - 1]? = some (x, y, z) ∧ 1 ≤ rkN x y z ∧ rkN x y z ≤ 120 := by
  have q := kf_b x (by omega) y (by omega) h1
  have q1 := q.1 (z - y - 1) (by omega)
  have q3 := q.2.2
  unfold rkN
  refine ⟨?_, by omega, by omega⟩
  rw [show kf x y + (z - y - 1) + 1 - 1 = kf x y + (z - y - 1) by omega, q1, show y + 1 + (z - y - 1) = z by omega]
theorem rk6_m {R : Int → Int} {x y z r j : Int} (h : j ≠ 100 * x + 10 * y + z ∧ j ≠ 100 * x + 10 * z + y ∧ j ≠ 100 * y + 10 * z + x ∧ j ≠ 100 * y + 10 * x + z ∧ j ≠ 100 * z + 10 * x + y ∧ j ≠ 100 * z + 10 * y + x) : rk6 R x y z r j = R j := by
  simp only [rk6, rk2, updI]
  rw [if_neg h.2.2.2.2.2, if_neg h.2.2.2.2.1, if_neg h.2.2.2.1, if_neg h.2.2.1, if_neg h.2.1, if_neg h.1]
theorem dig_inj {a b c x y z : Int} (hb : 0 ≤ b ∧ b < 10) (hc : 0 ≤ c ∧ c < 10) (hy : 0 ≤ y ∧ y < 10) (hz : 0 ≤ z ∧ z < 10) (e : 100 * a + 10 * b + c = 100 * x + 10 * y + z) : a = x ∧ b = y ∧ c = z := by
  have h1 : (100 * a + 10 * b + c) % 10 = c := by omega
  have h2 : (100 * x + 10 * y + z) % 10 = z := by omega
  have h3 : c = z := by rw [e] at h1; exact h1.symm.trans h2
  have e2 : 10 * a + b = 10 * x + y := by omega
  have h4 : (10 * a + b) % 10 = b := by omega
  have h5 : (10 * x + y) % 10 = y := by omega
  have h6 : b = y := by rw [e2] at h4; exact h4.symm.trans h5
  exact ⟨by omega, h6, h3⟩
theorem dne {a b c x y z : Int} (hb : 0 ≤ b ∧ b < 10) (hc : 0 ≤ c ∧ c < 10) (hy : 0 ≤ y ∧ y < 10) (hz : 0 ≤ z ∧ z < 10) (h : ¬ (a = x ∧ b = y ∧ c = z)) : 100 * a + 10 * b + c ≠ 100 * x + 10 * y + z := fun e => h (dig_inj hb hc hy hz e)
theorem rk6_d {R : Int → Int} {x y z r a b c : Int} (ha : 0 ≤ a ∧ a < 10) (hb : 0 ≤ b ∧ b < 10) (hc : 0 ≤ c ∧ c < 10) (hx : 0 ≤ x ∧ x < 10) (hy : 0 ≤ y ∧ y < 10) (hz : 0 ≤ z ∧ z < 10) (h1 : ¬ (a = x ∧ b = y ∧ c = z)) (h2 : ¬ (a = x ∧ b = z ∧ c = y)) (h3 : ¬ (a = y ∧ b = z ∧ c = x)) (h4 : ¬ (a = y ∧ b = x ∧ c = z)) (h5 : ¬ (a = z ∧ b = x ∧ c = y)) (h6 : ¬ (a = z ∧ b = y ∧ c = x)) : rk6 R x y z r (100 * a + 10 * b + c) = R (100 * a + 10 * b + c) :=
  rk6_m ⟨dne hb hc hy hz h1, dne hb hc hz hy h2, dne hb hc hz hx h3, dne hb hc hx hz h4, dne hb hc hx hy h5, dne hb hc hy hx h6⟩
theorem updI_e {R : Int → Int} {i v : Int} : updI R i v i = v := if_pos rfl
theorem updI_n {R : Int → Int} {i v j : Int} (h : j ≠ i) : updI R i v j = R j := if_neg h
theorem rk6_h {R : Int → Int} {x y z r : Int} (h0 : 0 ≤ x) (h1 : x < y) (h2 : y < z) (h3 : z < 10) : rk6 R x y z r (100 * x + 10 * y + z) = r ∧ rk6 R x y z r (100 * y + 10 * z + x) = r ∧ rk6 R x y z r (100 * z + 10 * x + y) = r ∧ rk6 R x y z r (100 * x + 10 * z + y) = -r ∧ rk6 R x y z r (100 * y + 10 * x + z) = -r ∧ rk6 R x y z r (100 * z + 10 * y + x) = -r := by
  unfold rk6 rk2
  refine ⟨?_, ?_, ?_, ?_, ?_, ?_⟩
  · rw [updI_n (dne (by omega) (by omega) (by omega) (by omega) (by omega)), updI_n (dne (by omega) (by omega) (by omega) (by omega) (by omega)), updI_n (dne (by omega) (by omega) (by omega) (by omega) (by omega)), updI_n (dne (by omega) (by omega) (by omega) (by omega) (by omega)), updI_n (dne (by omega) (by omega) (by omega) (by omega) (by omega)), updI_e]
  · rw [updI_n (dne (by omega) (by omega) (by omega) (by omega) (by omega)), updI_n (dne (by omega) (by omega) (by omega) (by omega) (by omega)), updI_n (dne (by omega) (by omega) (by omega) (by omega) (by omega)), updI_e]
  · rw [updI_n (dne (by omega) (by omega) (by omega) (by omega) (by omega)), updI_e]
  · rw [updI_n (dne (by omega) (by omega) (by omega) (by omega) (by omega)), updI_n (dne (by omega) (by omega) (by omega) (by omega) (by omega)), updI_n (dne (by omega) (by omega) (by omega) (by omega) (by omega)), updI_n (dne (by omega) (by omega) (by omega) (by omega) (by omega)), updI_e]
  · rw [updI_n (dne (by omega) (by omega) (by omega) (by omega) (by omega)), updI_n (dne (by omega) (by omega) (by omega) (by omega) (by omega)), updI_e]
  · rw [updI_e]
def RkV (n x y z : Nat) : Int := if rkN x y z ≤ n then (rkN x y z : Int) else 0
theorem RkT_p : ∀ n : Nat, n ≤ 120 → ∀ x y z : Nat, x < y → y < z → z < 10 → RkT n (100 * x + 10 * y + z) = RkV n x y z ∧ RkT n (100 * y + 10 * z + x) = RkV n x y z ∧ RkT n (100 * z + 10 * x + y) = RkV n x y z ∧ RkT n (100 * x + 10 * z + y) = -RkV n x y z ∧ RkT n (100 * y + 10 * x + z) = -RkV n x y z ∧ RkT n (100 * z + 10 * y + x) = -RkV n x y z := by
  intro n
  induction n with
  | zero =>
    intro _ x y z h1 h2 h3
    have q := (brs_s h1 h2 h3).2.1
    have e : RkV 0 x y z = 0 := by unfold RkV; rw [if_neg (by omega)]
    rw [e]
    exact ⟨rfl, rfl, rfl, rfl, rfl, rfl⟩
  | succ n ih =>
    intro hn x y z h1 h2 h3
    have q := ih (by omega) x y z h1 h2 h3
    obtain ⟨t, hb⟩ : ∃ t, brs[n]? = some t := ⟨_, List.getElem?_eq_getElem (show n < brs.length by rw [brs_l]; omega)⟩
    obtain ⟨x', y', z'⟩ := t
    have u := brs_u hb
    have bb := brs_b hb
    rw [RkT_s hb]
    by_cases he : x = x' ∧ y = y' ∧ z = z'
    · obtain ⟨rfl, rfl, rfl⟩ := he
      have e : RkV (n + 1) x y z = (n : Int) + 1 := by unfold RkV; rw [if_pos (by omega)]; omega
      rw [e]
      exact rk6_h (by omega) (by omega) (by omega) (by omega)
    · have ne : rkN x y z ≠ n + 1 := fun z0 => he (by
        have s1 := (brs_s h1 h2 h3).1
        rw [z0, Nat.add_sub_cancel, hb] at s1
        have s2 := Option.some.inj s1
        rw [Prod.mk.injEq, Prod.mk.injEq] at s2
        exact ⟨s2.1.symm, s2.2.1.symm, s2.2.2.symm⟩)
      have e : RkV (n + 1) x y z = RkV n x y z := by
        unfold RkV
        by_cases hk : rkN x y z ≤ n
        · rw [if_pos hk, if_pos (by omega)]
        · rw [if_neg hk, if_neg (by omega)]
      rw [e]
      exact ⟨(rk6_d (by omega) (by omega) (by omega) (by omega) (by omega) (by omega) (by omega) (by omega) (by omega) (by omega) (by omega) (by omega)).trans q.1, (rk6_d (by omega) (by omega) (by omega) (by omega) (by omega) (by omega) (by omega) (by omega) (by omega) (by omega) (by omega) (by omega)).trans q.2.1, (rk6_d (by omega) (by omega) (by omega) (by omega) (by omega) (by omega) (by omega) (by omega) (by omega) (by omega) (by omega) (by omega)).trans q.2.2.1, (rk6_d (by omega) (by omega) (by omega) (by omega) (by omega) (by omega) (by omega) (by omega) (by omega) (by omega) (by omega) (by omega)).trans q.2.2.2.1, (rk6_d (by omega) (by omega) (by omega) (by omega) (by omega) (by omega) (by omega) (by omega) (by omega) (by omega) (by omega) (by omega)).trans q.2.2.2.2.1, (rk6_d (by omega) (by omega) (by omega) (by omega) (by omega) (by omega) (by omega) (by omega) (by omega) (by omega) (by omega) (by omega)).trans q.2.2.2.2.2⟩
theorem RkT_z {a b c : Int} (ha : 0 ≤ a ∧ a < 10) (hb : 0 ≤ b ∧ b < 10) (hc : 0 ≤ c ∧ c < 10) (g : a = b ∨ a = c ∨ b = c) : ∀ n : Nat, RkT n (100 * a + 10 * b + c) = 0 := by
  intro n
  induction n with
  | zero => rfl
  | succ n ih =>
    cases hq : brs[n]? with
    | none => simp only [RkT, hq]; exact ih
    | some t =>
      obtain ⟨x, y, z⟩ := t
      have q := brs_b hq
      rw [RkT_s hq]
      exact (rk6_d (by omega) (by omega) (by omega) (by omega) (by omega) (by omega) (by omega) (by omega) (by omega) (by omega) (by omega) (by omega)).trans ih
def brcN (n : Nat) : Nat := 256 * (brs.getD n (0, 0, 0)).1 + 16 * (brs.getD n (0, 0, 0)).2.1 + (brs.getD n (0, 0, 0)).2.2
def brc (r : Int) : Int := (brcN (r.toNat - 1) : Int)
theorem brcN_e {n x y z : Nat} (h : brs[n]? = some (x, y, z)) : brcN n = 256 * x + 16 * y + z := by
  unfold brcN
  rw [List.getD_eq_getElem?_getD, h]
  rfl
def brm : Bool := (List.range 119).all fun n => Nat.ble (brcN n + 1) (brcN (n + 1))
theorem brm_t : brm = true := by rfl
theorem brcN_s {n : Nat} (h : n < 119) : brcN n < brcN (n + 1) := by
  have h1 := brm_t
  unfold brm at h1
  rw [List.all_eq_true] at h1
  exact Nat.le_of_ble_eq_true (h1 n (List.mem_range.2 h))
theorem brcN_lt : ∀ (m n : Nat), n + 1 + m < 120 → brcN n < brcN (n + 1 + m) := by
  intro m
  induction m with
  | zero => intro n h; exact brcN_s (by omega)
  | succ m ih => intro n h; exact Nat.lt_trans (ih n (by omega)) (brcN_s (by omega))
theorem brc_lt {r s : Int} (h0 : 1 ≤ r) (h1 : r < s) (h2 : s ≤ 120) : brc r < brc s := by
  have := brcN_lt (s.toNat - 1 - (r.toNat - 1) - 1) (r.toNat - 1) (by omega)
  unfold brc
  rw [show r.toNat - 1 + 1 + (s.toNat - 1 - (r.toNat - 1) - 1) = s.toNat - 1 by omega] at this
  omega
theorem brc_b {r : Int} (h0 : 1 ≤ r) (h1 : r ≤ 120) : ∃ x y z : Int, 0 ≤ x ∧ x < y ∧ y < z ∧ z < 10 ∧ brc r = 256 * x + 16 * y + z := by
  obtain ⟨t, hb⟩ : ∃ t, brs[r.toNat - 1]? = some t := ⟨_, List.getElem?_eq_getElem (show r.toNat - 1 < brs.length by rw [brs_l]; omega)⟩
  obtain ⟨x, y, z⟩ := t
  have q := brs_b hb
  refine ⟨x, y, z, by omega, by omega, by omega, by omega, ?_⟩
  unfold brc
  rw [brcN_e hb]
  omega
theorem brc_r {r : Int} (h0 : 1 ≤ r) (h1 : r ≤ 120) : 1 ≤ brc r ∧ brc r < 4096 := by
  obtain ⟨x, y, z, q⟩ := brc_b h0 h1
  omega
/-- three rising letters: their rank, and how the table has them -/
theorem rk_f {x y z : Int} (h0 : 0 ≤ x) (h1 : x < y) (h2 : y < z) (h3 : z < 10) : ∃ r : Int, 1 ≤ r ∧ r ≤ 120 ∧ brc r = 256 * x + 16 * y + z ∧ RkT 120 (100 * x + 10 * y + z) = r ∧ RkT 120 (100 * y + 10 * z + x) = r ∧ RkT 120 (100 * z + 10 * x + y) = r ∧ RkT 120 (100 * x + 10 * z + y) = -r ∧ RkT 120 (100 * y + 10 * x + z) = -r ∧ RkT 120 (100 * z + 10 * y + x) = -r := by
  obtain ⟨a, rfl⟩ := Int.eq_ofNat_of_zero_le h0
  obtain ⟨b, rfl⟩ := Int.eq_ofNat_of_zero_le (show 0 ≤ y by omega)
  obtain ⟨c, rfl⟩ := Int.eq_ofNat_of_zero_le (show 0 ≤ z by omega)
  have q := brs_s (x := a) (y := b) (z := c) (by omega) (by omega) (by omega)
  have p := RkT_p 120 (Nat.le_refl _) a b c (by omega) (by omega) (by omega)
  have e : RkV 120 a b c = (rkN a b c : Int) := by unfold RkV; rw [if_pos q.2.2]
  rw [e] at p
  refine ⟨(rkN a b c : Int), by omega, by omega, ?_, p⟩
  unfold brc
  rw [Int.toNat_natCast, brcN_e q.1]
  omega
def brS (u : Int) : Int := if u = 0 then 0 else if 0 < u then brc u else -(brc (-u))
theorem brS_p {r : Int} (h : 1 ≤ r) : brS r = brc r := by unfold brS; rw [if_neg (by omega), if_pos (by omega)]
theorem brS_n {r : Int} (h : 1 ≤ r) : brS (-r) = -(brc r) := by unfold brS; rw [if_neg (by omega), if_neg (by omega), Int.neg_neg]
theorem brS_0 : brS 0 = 0 := by rfl
def Rk (a b c : Int) : Int := RkT 120 (100 * a + 10 * b + c)
theorem rk_case {a b c : Int} (Q : Int → Prop) (ha : 0 ≤ a ∧ a < 10) (hb : 0 ≤ b ∧ b < 10) (hc : 0 ≤ c ∧ c < 10) (h0 : (a = b ∨ a = c ∨ b = c) → Q 0) (hp : ∀ r, 1 ≤ r → r ≤ 120 → Q r) (hn : ∀ r, 1 ≤ r → r ≤ 120 → Q (-r)) : Q (Rk a b c) := by
  unfold Rk
  by_cases g : a = b ∨ a = c ∨ b = c
  · rw [RkT_z ha hb hc g]; exact h0 g
  · by_cases g1 : a < b
    · by_cases g2 : b < c
      · obtain ⟨r, r1, r2, rb, q⟩ := rk_f ha.1 g1 g2 hc.2
        rw [q.1]; exact hp r r1 r2
      · by_cases g3 : a < c
        · obtain ⟨r, r1, r2, rb, q⟩ := rk_f ha.1 g3 (show c < b by omega) hb.2
          rw [q.2.2.2.1]; exact hn r r1 r2
        · obtain ⟨r, r1, r2, rb, q⟩ := rk_f hc.1 (show c < a by omega) g1 hb.2
          rw [q.2.1]; exact hp r r1 r2
    · by_cases g2 : a < c
      · obtain ⟨r, r1, r2, rb, q⟩ := rk_f hb.1 (show b < a by omega) g2 hc.2
        rw [q.2.2.2.2.1]; exact hn r r1 r2
      · by_cases g3 : b < c
        · obtain ⟨r, r1, r2, rb, q⟩ := rk_f hb.1 g3 (show c < a by omega) ha.2
          rw [q.2.2.1]; exact hp r r1 r2
        · obtain ⟨r, r1, r2, rb, q⟩ := rk_f hc.1 (show c < b by omega) (show b < a by omega) ha.2
          rw [q.2.2.2.2.2]; exact hn r r1 r2
theorem rk_r {a b c : Int} (ha : 0 ≤ a ∧ a < 10) (hb : 0 ≤ b ∧ b < 10) (hc : 0 ≤ c ∧ c < 10) : -120 ≤ Rk a b c ∧ Rk a b c ≤ 120 :=
  rk_case (fun u => -120 ≤ u ∧ u ≤ 120) ha hb hc (fun _ => by decide) (fun r _ _ => by omega) (fun r _ _ => by omega)
section OR2
variable {l : Launch} {d N : Nat} {Λ : Lay} {σ : Mem}
theorem k_ord2 {P : Int → Mem → Prop} {a b c : Int} (ha : 0 ≤ a ∧ a < 10) (hb : 0 ≤ b ∧ b < 10) (hc : 0 ≤ c ∧ c < 10) (h : P (brS (Rk a b c)) σ) : CI l mX6_ordered d [(0, 256 * a + 16 * b + c)] N Λ σ P := by
  unfold Rk at h
  refine k_ord (by omega) (by omega) (by omega) ⟨fun g => ?_, fun g1 g2 => ?_, fun g1 g2 => ?_, fun g1 g2 => ?_, fun g1 g2 => ?_, fun g1 g2 => ?_, fun g1 g2 => ?_⟩
  · rw [RkT_z ha hb hc g, brS_0] at h; exact h
  · obtain ⟨r, r1, r2, rb, q⟩ := rk_f ha.1 g1 g2 hc.2
    rw [q.1, brS_p r1, rb] at h; exact h
  · obtain ⟨r, r1, r2, rb, q⟩ := rk_f ha.1 g1 g2 hb.2
    rw [q.2.2.2.1, brS_n r1, rb] at h; exact h
  · obtain ⟨r, r1, r2, rb, q⟩ := rk_f hb.1 g1 g2 hc.2
    rw [q.2.2.2.2.1, brS_n r1, rb] at h; exact h
  · obtain ⟨r, r1, r2, rb, q⟩ := rk_f hb.1 g1 g2 ha.2
    rw [q.2.2.1, brS_p r1, rb] at h; exact h
  · obtain ⟨r, r1, r2, rb, q⟩ := rk_f hc.1 g1 g2 hb.2
    rw [q.2.1, brS_p r1, rb] at h; exact h
  · obtain ⟨r, r1, r2, rb, q⟩ := rk_f hc.1 g1 g2 ha.2
    rw [q.2.2.2.2.2, brS_n r1, rb] at h; exact h
end OR2
