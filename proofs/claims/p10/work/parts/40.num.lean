/-! numbers: the machine's operations on whole numbers that stay in range -/
theorem addI_e {x y : Int} (h1 : -2147483648 ≤ x + y) (h2 : x + y ≤ 2147483647) : addI x y = x + y := by
  unfold addI
  rw [← Int32.ofInt_add]
  exact i32_b ⟨h1, h2⟩
theorem subI_e {x y : Int} (h1 : -2147483648 ≤ x - y) (h2 : x - y ≤ 2147483647) : subI x y = x - y := by
  unfold subI
  rw [← Int32.ofInt_sub]
  exact i32_b ⟨h1, h2⟩
theorem mulI_e {x y : Int} (h1 : -2147483648 ≤ x * y) (h2 : x * y ≤ 2147483647) : mulI x y = x * y := by
  unfold mulI
  rw [← Int32.ofInt_mul]
  exact i32_b ⟨h1, h2⟩
theorem negI_e {x : Int} (h1 : -2147483648 ≤ -x) (h2 : -x ≤ 2147483647) : negI x = -x := by
  unfold negI
  rw [← Int32.ofInt_neg]
  exact i32_b ⟨h1, h2⟩
theorem addL_e {x y : Int} (h1 : -9223372036854775808 ≤ x + y) (h2 : x + y ≤ 9223372036854775807) : addL x y = x + y := by
  unfold addL
  rw [← Int64.ofInt_add]
  exact i64_b ⟨h1, h2⟩
theorem subL_e {x y : Int} (h1 : -9223372036854775808 ≤ x - y) (h2 : x - y ≤ 9223372036854775807) : subL x y = x - y := by
  unfold subL
  rw [← Int64.ofInt_sub]
  exact i64_b ⟨h1, h2⟩
theorem mulL_e {x y : Int} (h1 : -9223372036854775808 ≤ x * y) (h2 : x * y ≤ 9223372036854775807) : mulL x y = x * y := by
  unfold mulL
  rw [← Int64.ofInt_mul]
  exact i64_b ⟨h1, h2⟩
theorem negL_e {x : Int} (h1 : -9223372036854775808 ≤ -x) (h2 : -x ≤ 9223372036854775807) : negL x = -x := by
  unfold negL
  rw [← Int64.ofInt_neg]
  exact i64_b ⟨h1, h2⟩
theorem l2iI_e {x : Int} (h1 : -2147483648 ≤ x) (h2 : x ≤ 2147483647) : l2iI x = x := by
  unfold l2iI
  rw [Int64.toInt32_ofInt]
  exact i32_b ⟨h1, h2⟩
theorem l2iI_r (x : Int) : -2147483648 ≤ l2iI x ∧ l2iI x ≤ 2147483647 := i32_r _
theorem l2iI_iff {x : Int} : l2iI x = x ↔ -2147483648 ≤ x ∧ x ≤ 2147483647 := by
  constructor
  · intro h
    have := l2iI_r x
    omega
  · intro h
    exact l2iI_e h.1 h.2
theorem divI_e {x y : Int} (h0 : 0 ≤ x) (h1 : x ≤ 2147483647) (h2 : 0 < y) (h3 : y ≤ 2147483647) : divI x y = x / y := by
  unfold divI
  rw [Int32.toInt_div_of_ne_right _ _ (fun e => ?_), i32_b ⟨by omega, by omega⟩, i32_b ⟨by omega, by omega⟩, Int.tdiv_eq_ediv_of_nonneg h0]
  have := congrArg Int32.toInt e
  rw [i32_b ⟨by omega, by omega⟩] at this
  have h4 : (-1 : Int32).toInt = -1 := by decide
  omega
theorem remI_e {x y : Int} (h0 : 0 ≤ x) (h1 : x ≤ 2147483647) (h2 : 0 < y) (h3 : y ≤ 2147483647) : remI x y = x % y := by
  have hd := divI_e h0 h1 h2 h3
  unfold divI at hd
  unfold remI
  have hq : Int32.ofInt x / Int32.ofInt y = Int32.ofInt (x / y) := by rw [← hd, Int32.ofInt_toInt]
  rw [hq, ← Int32.ofInt_mul, ← Int32.ofInt_sub]
  have e1 : x - x / y * y = x % y := by
    have := Int.emod_add_mul_ediv x y
    rw [Int.mul_comm (x / y) y]
    omega
  rw [e1]
  have h5 := Int.emod_nonneg x (show y ≠ 0 by omega)
  have h6 := Int.emod_lt_of_pos x h2
  exact i32_b ⟨by omega, by omega⟩
theorem pow2_le {a b : Nat} (h : a ≤ b) : 2 ^ a ≤ 2 ^ b := Nat.pow_le_pow_right (by decide) h
theorem sh_l (n : Nat) (h : n < 32) : ((Int32.ofInt (n : Int) &&& 31).toBitVec.smod 32).toNat = n := by
  have : ∀ n : Nat, n < 32 → ((Int32.ofInt (n : Int) &&& 31).toBitVec.smod 32).toNat = n := by decide
  exact this n h
theorem shrI_e {x y : Int} (hx : R32 x) (h0 : 0 ≤ y) (h1 : y < 32) : shrI x y = x / 2 ^ y.toNat := by
  obtain ⟨n, rfl⟩ := Int.eq_ofNat_of_zero_le h0
  unfold shrI
  rw [pk_shr _ _ n (sh_l n (by omega)), i32_b hx, Int.shiftRight_eq_div_pow]
  rfl
theorem shlI_e {x y : Int} (h0 : 0 ≤ y) (h1 : y < 32) (h2 : 0 ≤ x) (h3 : x * 2 ^ y.toNat ≤ 2147483647) : shlI x y = x * 2 ^ y.toNat := by
  obtain ⟨n, rfl⟩ := Int.eq_ofNat_of_zero_le h0
  obtain ⟨a, rfl⟩ := Int.eq_ofNat_of_zero_le h2
  have e : ((n : Int)).toNat = n := rfl
  rw [e] at h3 ⊢
  have e2 : ((a : Int) * 2 ^ n : Int) = ((a * 2 ^ n : Nat) : Int) := by simp
  rw [e2] at h3 ⊢
  unfold shlI
  have h4 := pk_shl (Int32.ofInt (a : Int)) (Int32.ofInt (n : Int) &&& 31) n (sh_l n (by omega))
  have ha : (Int32.ofInt (a : Int)).toBitVec.toNat = a := by
    have h5 : a ≤ a * 2 ^ n := Nat.le_mul_of_pos_right _ (Nat.pos_of_ne_zero (by simp))
    rw [Int32.toBitVec_ofInt, BitVec.toNat_ofInt]
    omega
  rw [ha, Nat.mod_eq_of_lt (by omega)] at h4
  have h6 : (Int32.ofInt (a : Int) <<< (Int32.ofInt (n : Int) &&& 31)) = Int32.ofInt ((a * 2 ^ n : Nat) : Int) := by
    apply Int32.toBitVec_inj.mp
    apply BitVec.eq_of_toNat_eq
    rw [h4, Int32.toBitVec_ofInt, BitVec.toNat_ofInt]
    omega
  rw [h6]
  exact i32_b ⟨by omega, by omega⟩
theorem andI_m {x m : Int} (k : Nat) (hx : R32 x) (hm : m = 2 ^ k - 1) (hk : k ≤ 30) : andI x m = x % 2 ^ k := by
  unfold andI
  have hp : (2 : Int) ^ k ≤ 2 ^ 30 := by
    have := pow2_le hk
    have e : ((2 ^ k : Nat) : Int) = (2 : Int) ^ k := by simp
    have e2 : ((2 ^ 30 : Nat) : Int) = (2 : Int) ^ 30 := by simp
    omega
  have hp0 : (1 : Int) ≤ 2 ^ k := by
    have : 1 ≤ 2 ^ k := Nat.one_le_two_pow
    have e : ((2 ^ k : Nat) : Int) = (2 : Int) ^ k := by simp
    omega
  have hmt : (Int32.ofInt m).toBitVec.toNat = 2 ^ k - 1 := by
    rw [Int32.toBitVec_ofInt, BitVec.toNat_ofInt, hm]
    have e : ((2 ^ k : Nat) : Int) = (2 : Int) ^ k := by simp
    omega
  rw [pk_and (Int32.ofInt x) k hmt, Int32.toBitVec_ofInt, BitVec.toNat_ofInt]
  have h1 : 0 ≤ x % 2 ^ k := Int.emod_nonneg _ (by omega)
  have h2 : x % 2 ^ k < 2 ^ k := Int.emod_lt_of_pos _ (by omega)
  have h3 : ((x % ((2 ^ 32 : Nat) : Int)).toNat % 2 ^ k : Nat) = (x % 2 ^ k).toNat := by
    have e : ((2 ^ k : Nat) : Int) = (2 : Int) ^ k := by simp
    have h4 : (((x % ((2 ^ 32 : Nat) : Int)).toNat % 2 ^ k : Nat) : Int) = (x % 2 ^ k) := by
      rw [Int.natCast_emod, e, Int.toNat_of_nonneg (Int.emod_nonneg _ (by decide))]
      refine Int.emod_emod_of_dvd x ?_
      have hd : ((2 ^ k : Nat) : Int) ∣ ((2 ^ 32 : Nat) : Int) := Int.natCast_dvd_natCast.mpr (Nat.pow_dvd_pow 2 (by omega))
      rw [e] at hd
      exact hd
    omega
  rw [h3]
  show (Int32.ofNat _).toInt = _
  rw [Int32.toInt_ofNat_of_lt (by omega)]
  omega
theorem andI_1 {x : Int} (hx : R32 x) : andI x 1 = x % 2 := andI_m 1 hx rfl (by decide)
theorem andI_15 {x : Int} (hx : R32 x) : andI x 15 = x % 16 := andI_m 4 hx rfl (by decide)
theorem andI_255 {x : Int} (hx : R32 x) : andI x 255 = x % 256 := andI_m 8 hx rfl (by decide)
theorem andI_4095 {x : Int} (hx : R32 x) : andI x 4095 = x % 4096 := andI_m 12 hx rfl (by decide)
theorem andI_65535 {x : Int} (hx : R32 x) : andI x 65535 = x % 65536 := andI_m 16 hx rfl (by decide)
theorem addI_r (x y : Int) : R32 (addI x y) := i32_r _
theorem mulI_r (x y : Int) : R32 (mulI x y) := i32_r _
theorem subI_r (x y : Int) : R32 (subI x y) := i32_r _
