theorem i32_nat {a : Nat} (h : a < 2 ^ 32) : (Int32.ofInt (a : Int)).toBitVec.toNat = a := by
  rw [Int32.toBitVec_ofInt, BitVec.toNat_ofInt]
  omega
theorem i64_nat {a : Nat} (h : a < 2 ^ 64) : (Int64.ofInt (a : Int)).toBitVec.toNat = a := by
  rw [Int64.toBitVec_ofInt, BitVec.toNat_ofInt]
  omega
theorem i32_back {z : Int32} {n : Nat} (h : z.toBitVec.toNat = n) (hn : n < 2 ^ 31) : z.toInt = n := by
  have e : z = Int32.ofInt (n : Int) := by
    apply Int32.toBitVec_inj.mp
    apply BitVec.eq_of_toNat_eq
    rw [h, i32_nat (by omega)]
  rw [e]
  exact i32_b ⟨by omega, by omega⟩
theorem i64_back {z : Int64} {n : Nat} (h : z.toBitVec.toNat = n) (hn : n < 2 ^ 63) : z.toInt = n := by
  have e : z = Int64.ofInt (n : Int) := by
    apply Int64.toBitVec_inj.mp
    apply BitVec.eq_of_toNat_eq
    rw [h, i64_nat (by omega)]
  rw [e]
  exact i64_b ⟨by omega, by omega⟩
theorem or_nat {a b k : Nat} (h : b < 2 ^ k) : a * 2 ^ k ||| b = a * 2 ^ k + b := by
  rw [← Nat.shiftLeft_eq, ← Nat.shiftLeft_add_eq_or_of_lt h]
theorem orI_n {a b : Nat} (k : Nat) (h : b < 2 ^ k) (h2 : a * 2 ^ k + b < 2 ^ 31) : orI ((a * 2 ^ k : Nat) : Int) (b : Int) = ((a * 2 ^ k + b : Nat) : Int) := by
  unfold orI
  refine i32_back ?_ h2
  rw [Int32.toBitVec_or, BitVec.toNat_or, i32_nat (by omega), i32_nat (by omega), or_nat h]
theorem orL_n {a b : Nat} (k : Nat) (h : b < 2 ^ k) (h2 : a * 2 ^ k + b < 2 ^ 63) : orL ((a * 2 ^ k : Nat) : Int) (b : Int) = ((a * 2 ^ k + b : Nat) : Int) := by
  unfold orL
  refine i64_back ?_ h2
  rw [Int64.toBitVec_or, BitVec.toNat_or, i64_nat (by omega), i64_nat (by omega), or_nat h]
theorem orI_0 {x : Int} (h : R32 x) : orI 0 x = x := by
  unfold orI
  rw [show Int32.ofInt 0 = 0 from rfl, Int32.zero_or]
  exact i32_b h
theorem orL_0 {x : Int} (h : R64 x) : orL 0 x = x := by
  unfold orL
  rw [show Int64.ofInt 0 = 0 from rfl, Int64.zero_or]
  exact i64_b h
theorem orL_z {x : Int} (h : R64 x) : orL x 0 = x := by
  unfold orL
  rw [show Int64.ofInt 0 = 0 from rfl, Int64.or_zero]
  exact i64_b h
/-- x * 16 | y -/
theorem or16 {x y : Int} (hx : 0 ≤ x) (h1 : x < 134217728) (hy : 0 ≤ y) (h2 : y < 16) : orI (shlI x 4) y = 16 * x + y := by
  obtain ⟨a, rfl⟩ := Int.eq_ofNat_of_zero_le hx
  obtain ⟨b, rfl⟩ := Int.eq_ofNat_of_zero_le hy
  rw [shlI_e (by decide) (by decide) hx (by show (a : Int) * 2 ^ 4 ≤ _; omega)]
  show orI ((a : Int) * 2 ^ 4) _ = _
  rw [show ((a : Int) * 2 ^ 4) = ((a * 2 ^ 4 : Nat) : Int) by omega, orI_n 4 (by omega) (by omega)]
  omega
theorem row_e {x y z : Int} (hx : 0 ≤ x ∧ x < 16) (hy : 0 ≤ y ∧ y < 16) (hz : 0 ≤ z ∧ z < 16) : orI (orI (shlI x 8) (shlI y 4)) z = 256 * x + 16 * y + z := by
  obtain ⟨a, rfl⟩ := Int.eq_ofNat_of_zero_le hx.1
  obtain ⟨b, rfl⟩ := Int.eq_ofNat_of_zero_le hy.1
  obtain ⟨c, rfl⟩ := Int.eq_ofNat_of_zero_le hz.1
  rw [shlI_e (by decide) (by decide) hx.1 (by show (a : Int) * 2 ^ 8 ≤ _; omega), shlI_e (by decide) (by decide) hy.1 (by show (b : Int) * 2 ^ 4 ≤ _; omega)]
  show orI (orI ((a : Int) * 2 ^ 8) ((b : Int) * 2 ^ 4)) _ = _
  rw [show ((a : Int) * 2 ^ 8) = ((a * 2 ^ 8 : Nat) : Int) by omega, show ((b : Int) * 2 ^ 4) = ((b * 2 ^ 4 : Nat) : Int) by omega, orI_n 8 (by omega) (by omega), show a * 2 ^ 8 + b * 2 ^ 4 = (a * 16 + b) * 2 ^ 4 by omega, orI_n 4 (by omega) (by omega)]
  omega
theorem sh8_e {x y z : Int} (hx : 0 ≤ x ∧ x < 16) (hy : 0 ≤ y ∧ y < 16) (hz : 0 ≤ z ∧ z < 16) : andI (shrI (256 * x + 16 * y + z) 8) 15 = x ∧ andI (shrI (256 * x + 16 * y + z) 4) 15 = y ∧ andI (256 * x + 16 * y + z) 15 = z := by
  have hr : R32 (256 * x + 16 * y + z) := ⟨by omega, by omega⟩
  refine ⟨?_, ?_, ?_⟩
  · rw [shrI_e hr (by decide) (by decide)]
    show andI ((256 * x + 16 * y + z) / 2 ^ 8) 15 = x
    rw [andI_15 ⟨by omega, by omega⟩]
    omega
  · rw [shrI_e hr (by decide) (by decide)]
    show andI ((256 * x + 16 * y + z) / 2 ^ 4) 15 = y
    rw [andI_15 ⟨by omega, by omega⟩]
    omega
  · rw [andI_15 hr]
    omega
