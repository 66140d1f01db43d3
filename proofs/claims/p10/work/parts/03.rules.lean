section RULES
variable {l : Launch} {Y : MD} {R : Room} {X : XT} {Z : ZT} {k n pc q : Nat} {L S : List AV} {N : Nat} {Λ : Lay} {σ : Mem}
theorem oks1 {v : AV} {S : List AV} (hv : okv v) (h : ∀ v ∈ S, okv v) : ∀ w ∈ v :: S, okv w := fun w hw => (List.mem_cons.mp hw).elim (fun e => e ▸ hv) (h w)
theorem okt {v : AV} {S : List AV} (h : ∀ w ∈ v :: S, okv w) : ∀ w ∈ S, okv w := fun w hw => h w (List.mem_cons_of_mem _ hw)
theorem okh {v : AV} {S : List AV} (h : ∀ w ∈ v :: S, okv w) : okv v := h v List.mem_cons_self
theorem i32_0 {x : Int} (h : R32 x) : Int32.ofInt x = 0 ↔ x = 0 := by
  constructor
  · intro e
    have := congrArg Int32.toInt e
    rw [i32_b h] at this
    exact this
  · rintro rfl; rfl
theorem i32_e {x y : Int} (h : R32 x) (h2 : R32 y) : Int32.ofInt x = Int32.ofInt y ↔ x = y := by
  rw [← Int32.toInt_inj, i32_b h, i32_b h2]
theorem i32_lt {x y : Int} (h : R32 x) (h2 : R32 y) : Int32.ofInt x < Int32.ofInt y ↔ x < y := by
  rw [Int32.lt_iff_toInt_lt, i32_b h, i32_b h2]
theorem i32_le {x y : Int} (h : R32 x) (h2 : R32 y) : Int32.ofInt x ≤ Int32.ofInt y ↔ x ≤ y := by
  rw [Int32.le_iff_toInt_le, i32_b h, i32_b h2]
theorem i64_e {x y : Int} (h : R64 x) (h2 : R64 y) : Int64.ofInt x = Int64.ofInt y ↔ x = y := by
  rw [← Int64.toInt_inj, i64_b h, i64_b h2]
theorem i64_lt {x y : Int} (h : R64 x) (h2 : R64 y) : Int64.ofInt x < Int64.ofInt y ↔ x < y := by
  rw [Int64.lt_iff_toInt_lt, i64_b h, i64_b h2]
theorem R32_0 : R32 0 := ⟨by decide, by decide⟩
theorem i64_0 {x : Int} (h : R64 x) : Int64.ofInt x = 0 ↔ x = 0 := by
  constructor
  · intro e
    have := congrArg Int64.toInt e
    rw [i64_b h] at this
    exact this
  · rintro rfl; rfl
def i2bI (x : Int) : Int := (Int32.ofInt x).toInt8.toInt32.toInt
def l2iI (x : Int) : Int := (Int64.ofInt x).toInt32.toInt
def cmpL (x y : Int) : Int := if x > y then 1 else if x = y then 0 else -1
theorem cmpL_r (x y : Int) : R32 (cmpL x y) := by
  unfold cmpL R32
  repeat' split
  all_goals omega

def addI (x y : Int) : Int := (Int32.ofInt x + Int32.ofInt y).toInt
theorem r_iadd {x y : Int} (d : DC Y pc .iadd 1 q) (K : WP l Y R X Z k n q L ((0, addI x y) :: S) N Λ σ) : WP l Y R X Z k n pc L ((0, y) :: (0, x) :: S) N Λ σ := by
  intro p e s m args below meth c B H locs ls hb hX hB hR hS hl hL hs
  obtain ⟨hd, rfl⟩ := d
  have hK := K p e s m args below meth c B H locs ls hb hX hB hR hS hl hL (oks1 (ok_i (i32_r _)) (okt (okt hs)))
  refine lv_iadd hb.1 hb.2.1 hd ?_
  have ee : Int32.ofInt (addI x y) = Int32.ofInt x + Int32.ofInt y := Int32.ofInt_toInt _
  rw [← ee]
  exact hK
def subI (x y : Int) : Int := (Int32.ofInt x - Int32.ofInt y).toInt
theorem r_isub {x y : Int} (d : DC Y pc .isub 1 q) (K : WP l Y R X Z k n q L ((0, subI x y) :: S) N Λ σ) : WP l Y R X Z k n pc L ((0, y) :: (0, x) :: S) N Λ σ := by
  intro p e s m args below meth c B H locs ls hb hX hB hR hS hl hL hs
  obtain ⟨hd, rfl⟩ := d
  have hK := K p e s m args below meth c B H locs ls hb hX hB hR hS hl hL (oks1 (ok_i (i32_r _)) (okt (okt hs)))
  refine lv_isub hb.1 hb.2.1 hd ?_
  have ee : Int32.ofInt (subI x y) = Int32.ofInt x - Int32.ofInt y := Int32.ofInt_toInt _
  rw [← ee]
  exact hK
def mulI (x y : Int) : Int := (Int32.ofInt x * Int32.ofInt y).toInt
theorem r_imul {x y : Int} (d : DC Y pc .imul 1 q) (K : WP l Y R X Z k n q L ((0, mulI x y) :: S) N Λ σ) : WP l Y R X Z k n pc L ((0, y) :: (0, x) :: S) N Λ σ := by
  intro p e s m args below meth c B H locs ls hb hX hB hR hS hl hL hs
  obtain ⟨hd, rfl⟩ := d
  have hK := K p e s m args below meth c B H locs ls hb hX hB hR hS hl hL (oks1 (ok_i (i32_r _)) (okt (okt hs)))
  refine lv_imul hb.1 hb.2.1 hd ?_
  have ee : Int32.ofInt (mulI x y) = Int32.ofInt x * Int32.ofInt y := Int32.ofInt_toInt _
  rw [← ee]
  exact hK
def andI (x y : Int) : Int := (Int32.ofInt x &&& Int32.ofInt y).toInt
theorem r_iand {x y : Int} (d : DC Y pc .iand 1 q) (K : WP l Y R X Z k n q L ((0, andI x y) :: S) N Λ σ) : WP l Y R X Z k n pc L ((0, y) :: (0, x) :: S) N Λ σ := by
  intro p e s m args below meth c B H locs ls hb hX hB hR hS hl hL hs
  obtain ⟨hd, rfl⟩ := d
  have hK := K p e s m args below meth c B H locs ls hb hX hB hR hS hl hL (oks1 (ok_i (i32_r _)) (okt (okt hs)))
  refine lv_iand hb.1 hb.2.1 hd ?_
  have ee : Int32.ofInt (andI x y) = Int32.ofInt x &&& Int32.ofInt y := Int32.ofInt_toInt _
  rw [← ee]
  exact hK
def orI (x y : Int) : Int := (Int32.ofInt x ||| Int32.ofInt y).toInt
theorem r_ior {x y : Int} (d : DC Y pc .ior 1 q) (K : WP l Y R X Z k n q L ((0, orI x y) :: S) N Λ σ) : WP l Y R X Z k n pc L ((0, y) :: (0, x) :: S) N Λ σ := by
  intro p e s m args below meth c B H locs ls hb hX hB hR hS hl hL hs
  obtain ⟨hd, rfl⟩ := d
  have hK := K p e s m args below meth c B H locs ls hb hX hB hR hS hl hL (oks1 (ok_i (i32_r _)) (okt (okt hs)))
  refine lv_ior hb.1 hb.2.1 hd ?_
  have ee : Int32.ofInt (orI x y) = Int32.ofInt x ||| Int32.ofInt y := Int32.ofInt_toInt _
  rw [← ee]
  exact hK
def xorI (x y : Int) : Int := (Int32.ofInt x ^^^ Int32.ofInt y).toInt
theorem r_ixor {x y : Int} (d : DC Y pc .ixor 1 q) (K : WP l Y R X Z k n q L ((0, xorI x y) :: S) N Λ σ) : WP l Y R X Z k n pc L ((0, y) :: (0, x) :: S) N Λ σ := by
  intro p e s m args below meth c B H locs ls hb hX hB hR hS hl hL hs
  obtain ⟨hd, rfl⟩ := d
  have hK := K p e s m args below meth c B H locs ls hb hX hB hR hS hl hL (oks1 (ok_i (i32_r _)) (okt (okt hs)))
  refine lv_ixor hb.1 hb.2.1 hd ?_
  have ee : Int32.ofInt (xorI x y) = Int32.ofInt x ^^^ Int32.ofInt y := Int32.ofInt_toInt _
  rw [← ee]
  exact hK
def shlI (x y : Int) : Int := (Int32.ofInt x <<< (Int32.ofInt y &&& 31)).toInt
theorem r_ishl {x y : Int} (d : DC Y pc .ishl 1 q) (K : WP l Y R X Z k n q L ((0, shlI x y) :: S) N Λ σ) : WP l Y R X Z k n pc L ((0, y) :: (0, x) :: S) N Λ σ := by
  intro p e s m args below meth c B H locs ls hb hX hB hR hS hl hL hs
  obtain ⟨hd, rfl⟩ := d
  have hK := K p e s m args below meth c B H locs ls hb hX hB hR hS hl hL (oks1 (ok_i (i32_r _)) (okt (okt hs)))
  refine lv_ishl hb.1 hb.2.1 hd ?_
  have ee : Int32.ofInt (shlI x y) = Int32.ofInt x <<< (Int32.ofInt y &&& 31) := Int32.ofInt_toInt _
  rw [← ee]
  exact hK
def shrI (x y : Int) : Int := (Int32.ofInt x >>> (Int32.ofInt y &&& 31)).toInt
theorem r_ishr {x y : Int} (d : DC Y pc .ishr 1 q) (K : WP l Y R X Z k n q L ((0, shrI x y) :: S) N Λ σ) : WP l Y R X Z k n pc L ((0, y) :: (0, x) :: S) N Λ σ := by
  intro p e s m args below meth c B H locs ls hb hX hB hR hS hl hL hs
  obtain ⟨hd, rfl⟩ := d
  have hK := K p e s m args below meth c B H locs ls hb hX hB hR hS hl hL (oks1 (ok_i (i32_r _)) (okt (okt hs)))
  refine lv_ishr hb.1 hb.2.1 hd ?_
  have ee : Int32.ofInt (shrI x y) = Int32.ofInt x >>> (Int32.ofInt y &&& 31) := Int32.ofInt_toInt _
  rw [← ee]
  exact hK
def divI (x y : Int) : Int := (Int32.ofInt x / Int32.ofInt y).toInt
theorem r_idiv {x y : Int} (d : DC Y pc .idiv 1 q) (hy : ¬ y = 0) (K : WP l Y R X Z k n q L ((0, divI x y) :: S) N Λ σ) : WP l Y R X Z k n pc L ((0, y) :: (0, x) :: S) N Λ σ := by
  intro p e s m args below meth c B H locs ls hb hX hB hR hS hl hL hs
  obtain ⟨hd, rfl⟩ := d
  have hK := K p e s m args below meth c B H locs ls hb hX hB hR hS hl hL (oks1 (ok_i (i32_r _)) (okt (okt hs)))
  refine lv_idiv hb.1 hb.2.1 hd (fun h => hy ((i32_0 ((okh hs).1 rfl)).mp h)) ?_
  have ee : Int32.ofInt (divI x y) = Int32.ofInt x / Int32.ofInt y := Int32.ofInt_toInt _
  rw [← ee]
  exact hK
def remI (x y : Int) : Int := (Int32.ofInt x - Int32.ofInt x / Int32.ofInt y * Int32.ofInt y).toInt
theorem r_irem {x y : Int} (d : DC Y pc .irem 1 q) (hy : ¬ y = 0) (K : WP l Y R X Z k n q L ((0, remI x y) :: S) N Λ σ) : WP l Y R X Z k n pc L ((0, y) :: (0, x) :: S) N Λ σ := by
  intro p e s m args below meth c B H locs ls hb hX hB hR hS hl hL hs
  obtain ⟨hd, rfl⟩ := d
  have hK := K p e s m args below meth c B H locs ls hb hX hB hR hS hl hL (oks1 (ok_i (i32_r _)) (okt (okt hs)))
  refine lv_irem hb.1 hb.2.1 hd (fun h => hy ((i32_0 ((okh hs).1 rfl)).mp h)) ?_
  have ee : Int32.ofInt (remI x y) = Int32.ofInt x - Int32.ofInt x / Int32.ofInt y * Int32.ofInt y := Int32.ofInt_toInt _
  rw [← ee]
  exact hK
def ushrI (x y : Int) : Int := ((Int32.ofInt x).toUInt32 >>> ((Int32.ofInt y).toUInt32 &&& Int32.toUInt32 31)).toInt32.toInt
theorem r_iushr {x y : Int} (d : DC Y pc .iushr 1 q) (K : WP l Y R X Z k n q L ((0, ushrI x y) :: S) N Λ σ) : WP l Y R X Z k n pc L ((0, y) :: (0, x) :: S) N Λ σ := by
  intro p e s m args below meth c B H locs ls hb hX hB hR hS hl hL hs
  obtain ⟨hd, rfl⟩ := d
  have hK := K p e s m args below meth c B H locs ls hb hX hB hR hS hl hL (oks1 (ok_i (i32_r _)) (okt (okt hs)))
  exact lv_iushr hb.1 hb.2.1 hd (Int32.ofInt_toInt _).symm hK
def negI (x : Int) : Int := (-(Int32.ofInt x)).toInt
theorem r_ineg {x : Int} (d : DC Y pc .ineg 1 q) (K : WP l Y R X Z k n q L ((0, negI x) :: S) N Λ σ) : WP l Y R X Z k n pc L ((0, x) :: S) N Λ σ := by
  intro p e s m args below meth c B H locs ls hb hX hB hR hS hl hL hs
  obtain ⟨hd, rfl⟩ := d
  have hK := K p e s m args below meth c B H locs ls hb hX hB hR hS hl hL (oks1 (ok_i (i32_r _)) (okt hs))
  refine lv_ineg hb.1 hb.2.1 hd ?_
  have ee : Int32.ofInt (negI x) = -(Int32.ofInt x) := Int32.ofInt_toInt _
  rw [← ee]
  exact hK
def addL (x y : Int) : Int := (Int64.ofInt x + Int64.ofInt y).toInt
theorem r_ladd {x y : Int} (d : DC Y pc .ladd 1 q) (K : WP l Y R X Z k n q L ((1, addL x y) :: S) N Λ σ) : WP l Y R X Z k n pc L ((1, y) :: (1, x) :: S) N Λ σ := by
  intro p e s m args below meth c B H locs ls hb hX hB hR hS hl hL hs
  obtain ⟨hd, rfl⟩ := d
  have hK := K p e s m args below meth c B H locs ls hb hX hB hR hS hl hL (oks1 (ok_l (i64_r _)) (okt (okt hs)))
  refine lv_ladd hb.1 hb.2.1 hd ?_
  have ee : Int64.ofInt (addL x y) = Int64.ofInt x + Int64.ofInt y := Int64.ofInt_toInt _
  rw [← ee]
  exact hK
def subL (x y : Int) : Int := (Int64.ofInt x - Int64.ofInt y).toInt
theorem r_lsub {x y : Int} (d : DC Y pc .lsub 1 q) (K : WP l Y R X Z k n q L ((1, subL x y) :: S) N Λ σ) : WP l Y R X Z k n pc L ((1, y) :: (1, x) :: S) N Λ σ := by
  intro p e s m args below meth c B H locs ls hb hX hB hR hS hl hL hs
  obtain ⟨hd, rfl⟩ := d
  have hK := K p e s m args below meth c B H locs ls hb hX hB hR hS hl hL (oks1 (ok_l (i64_r _)) (okt (okt hs)))
  refine lv_lsub hb.1 hb.2.1 hd ?_
  have ee : Int64.ofInt (subL x y) = Int64.ofInt x - Int64.ofInt y := Int64.ofInt_toInt _
  rw [← ee]
  exact hK
def mulL (x y : Int) : Int := (Int64.ofInt x * Int64.ofInt y).toInt
theorem r_lmul {x y : Int} (d : DC Y pc .lmul 1 q) (K : WP l Y R X Z k n q L ((1, mulL x y) :: S) N Λ σ) : WP l Y R X Z k n pc L ((1, y) :: (1, x) :: S) N Λ σ := by
  intro p e s m args below meth c B H locs ls hb hX hB hR hS hl hL hs
  obtain ⟨hd, rfl⟩ := d
  have hK := K p e s m args below meth c B H locs ls hb hX hB hR hS hl hL (oks1 (ok_l (i64_r _)) (okt (okt hs)))
  refine lv_lmul hb.1 hb.2.1 hd ?_
  have ee : Int64.ofInt (mulL x y) = Int64.ofInt x * Int64.ofInt y := Int64.ofInt_toInt _
  rw [← ee]
  exact hK
def andL (x y : Int) : Int := (Int64.ofInt x &&& Int64.ofInt y).toInt
theorem r_land {x y : Int} (d : DC Y pc .land 1 q) (K : WP l Y R X Z k n q L ((1, andL x y) :: S) N Λ σ) : WP l Y R X Z k n pc L ((1, y) :: (1, x) :: S) N Λ σ := by
  intro p e s m args below meth c B H locs ls hb hX hB hR hS hl hL hs
  obtain ⟨hd, rfl⟩ := d
  have hK := K p e s m args below meth c B H locs ls hb hX hB hR hS hl hL (oks1 (ok_l (i64_r _)) (okt (okt hs)))
  refine lv_land hb.1 hb.2.1 hd ?_
  have ee : Int64.ofInt (andL x y) = Int64.ofInt x &&& Int64.ofInt y := Int64.ofInt_toInt _
  rw [← ee]
  exact hK
def orL (x y : Int) : Int := (Int64.ofInt x ||| Int64.ofInt y).toInt
theorem r_lor {x y : Int} (d : DC Y pc .lor 1 q) (K : WP l Y R X Z k n q L ((1, orL x y) :: S) N Λ σ) : WP l Y R X Z k n pc L ((1, y) :: (1, x) :: S) N Λ σ := by
  intro p e s m args below meth c B H locs ls hb hX hB hR hS hl hL hs
  obtain ⟨hd, rfl⟩ := d
  have hK := K p e s m args below meth c B H locs ls hb hX hB hR hS hl hL (oks1 (ok_l (i64_r _)) (okt (okt hs)))
  refine lv_lor hb.1 hb.2.1 hd ?_
  have ee : Int64.ofInt (orL x y) = Int64.ofInt x ||| Int64.ofInt y := Int64.ofInt_toInt _
  rw [← ee]
  exact hK
def xorL (x y : Int) : Int := (Int64.ofInt x ^^^ Int64.ofInt y).toInt
theorem r_lxor {x y : Int} (d : DC Y pc .lxor 1 q) (K : WP l Y R X Z k n q L ((1, xorL x y) :: S) N Λ σ) : WP l Y R X Z k n pc L ((1, y) :: (1, x) :: S) N Λ σ := by
  intro p e s m args below meth c B H locs ls hb hX hB hR hS hl hL hs
  obtain ⟨hd, rfl⟩ := d
  have hK := K p e s m args below meth c B H locs ls hb hX hB hR hS hl hL (oks1 (ok_l (i64_r _)) (okt (okt hs)))
  refine lv_lxor hb.1 hb.2.1 hd ?_
  have ee : Int64.ofInt (xorL x y) = Int64.ofInt x ^^^ Int64.ofInt y := Int64.ofInt_toInt _
  rw [← ee]
  exact hK
def divL (x y : Int) : Int := (Int64.ofInt x / Int64.ofInt y).toInt
theorem r_ldiv {x y : Int} (d : DC Y pc .ldiv 1 q) (hy : ¬ y = 0) (K : WP l Y R X Z k n q L ((1, divL x y) :: S) N Λ σ) : WP l Y R X Z k n pc L ((1, y) :: (1, x) :: S) N Λ σ := by
  intro p e s m args below meth c B H locs ls hb hX hB hR hS hl hL hs
  obtain ⟨hd, rfl⟩ := d
  have hK := K p e s m args below meth c B H locs ls hb hX hB hR hS hl hL (oks1 (ok_l (i64_r _)) (okt (okt hs)))
  refine lv_ldiv hb.1 hb.2.1 hd (fun h => hy ((i64_0 ((okh hs).2 rfl)).mp h)) ?_
  have ee : Int64.ofInt (divL x y) = Int64.ofInt x / Int64.ofInt y := Int64.ofInt_toInt _
  rw [← ee]
  exact hK
def remL (x y : Int) : Int := (Int64.ofInt x - Int64.ofInt x / Int64.ofInt y * Int64.ofInt y).toInt
theorem r_lrem {x y : Int} (d : DC Y pc .lrem 1 q) (hy : ¬ y = 0) (K : WP l Y R X Z k n q L ((1, remL x y) :: S) N Λ σ) : WP l Y R X Z k n pc L ((1, y) :: (1, x) :: S) N Λ σ := by
  intro p e s m args below meth c B H locs ls hb hX hB hR hS hl hL hs
  obtain ⟨hd, rfl⟩ := d
  have hK := K p e s m args below meth c B H locs ls hb hX hB hR hS hl hL (oks1 (ok_l (i64_r _)) (okt (okt hs)))
  refine lv_lrem hb.1 hb.2.1 hd (fun h => hy ((i64_0 ((okh hs).2 rfl)).mp h)) ?_
  have ee : Int64.ofInt (remL x y) = Int64.ofInt x - Int64.ofInt x / Int64.ofInt y * Int64.ofInt y := Int64.ofInt_toInt _
  rw [← ee]
  exact hK
def negL (x : Int) : Int := (-(Int64.ofInt x)).toInt
theorem r_lneg {x : Int} (d : DC Y pc .lneg 1 q) (K : WP l Y R X Z k n q L ((1, negL x) :: S) N Λ σ) : WP l Y R X Z k n pc L ((1, x) :: S) N Λ σ := by
  intro p e s m args below meth c B H locs ls hb hX hB hR hS hl hL hs
  obtain ⟨hd, rfl⟩ := d
  have hK := K p e s m args below meth c B H locs ls hb hX hB hR hS hl hL (oks1 (ok_l (i64_r _)) (okt hs))
  refine lv_lneg hb.1 hb.2.1 hd ?_
  have ee : Int64.ofInt (negL x) = -(Int64.ofInt x) := Int64.ofInt_toInt _
  rw [← ee]
  exact hK
def shlL (x y : Int) : Int := (Int64.ofInt x <<< ((Int32.ofInt y).toInt64 &&& 63)).toInt
theorem r_lshl {x y : Int} (d : DC Y pc .lshl 1 q) (K : WP l Y R X Z k n q L ((1, shlL x y) :: S) N Λ σ) : WP l Y R X Z k n pc L ((0, y) :: (1, x) :: S) N Λ σ := by
  intro p e s m args below meth c B H locs ls hb hX hB hR hS hl hL hs
  obtain ⟨hd, rfl⟩ := d
  have hK := K p e s m args below meth c B H locs ls hb hX hB hR hS hl hL (oks1 (ok_l (i64_r _)) (okt (okt hs)))
  exact lv_lshl hb.1 hb.2.1 hd (Int64.ofInt_toInt _).symm hK
def ushrL (x y : Int) : Int := (((Int64.ofInt x).toUInt64 >>> ((Int32.ofInt y).toInt64.toUInt64 &&& Int64.toUInt64 63)).toInt64).toInt
theorem r_lushr {x y : Int} (d : DC Y pc .lushr 1 q) (K : WP l Y R X Z k n q L ((1, ushrL x y) :: S) N Λ σ) : WP l Y R X Z k n pc L ((0, y) :: (1, x) :: S) N Λ σ := by
  intro p e s m args below meth c B H locs ls hb hX hB hR hS hl hL hs
  obtain ⟨hd, rfl⟩ := d
  have hK := K p e s m args below meth c B H locs ls hb hX hB hR hS hl hL (oks1 (ok_l (i64_r _)) (okt (okt hs)))
  exact lv_lushr hb.1 hb.2.1 hd (Int64.ofInt_toInt _).symm hK
def shrL (x y : Int) : Int := (Int64.ofInt x >>> ((Int32.ofInt y).toInt64 &&& 63)).toInt
theorem r_lshr {x y : Int} (d : DC Y pc .lshr 1 q) (K : WP l Y R X Z k n q L ((1, shrL x y) :: S) N Λ σ) : WP l Y R X Z k n pc L ((0, y) :: (1, x) :: S) N Λ σ := by
  intro p e s m args below meth c B H locs ls hb hX hB hR hS hl hL hs
  obtain ⟨hd, rfl⟩ := d
  have hK := K p e s m args below meth c B H locs ls hb hX hB hR hS hl hL (oks1 (ok_l (i64_r _)) (okt (okt hs)))
  exact lv_lshr hb.1 hb.2.1 hd (Int64.ofInt_toInt _).symm hK
theorem r_i2l {x : Int} (d : DC Y pc .i2l 1 q) (K : WP l Y R X Z k n q L ((1, x) :: S) N Λ σ) : WP l Y R X Z k n pc L ((0, x) :: S) N Λ σ := by
  intro p e s m args below meth c B H locs ls hb hX hB hR hS hl hL hs
  obtain ⟨hd, rfl⟩ := d
  have hr : R32 x := (okh hs).1 rfl
  have hr2 : R64 x := ⟨by have := hr.1; omega, by have := hr.2; omega⟩
  have hK := K p e s m args below meth c B H locs ls hb hX hB hR hS hl hL (oks1 (ok_l hr2) (okt hs))
  refine lv_i2l hb.1 hb.2.1 hd ?_ hK
  rw [← Int64.toInt_inj, Int32.toInt_toInt64, i32_b hr, i64_b hr2]
theorem r_l2i {x : Int} (d : DC Y pc .l2i 1 q) (K : WP l Y R X Z k n q L ((0, l2iI x) :: S) N Λ σ) : WP l Y R X Z k n pc L ((1, x) :: S) N Λ σ := by
  intro p e s m args below meth c B H locs ls hb hX hB hR hS hl hL hs
  obtain ⟨hd, rfl⟩ := d
  have hK := K p e s m args below meth c B H locs ls hb hX hB hR hS hl hL (oks1 (ok_i (i32_r _)) (okt hs))
  exact lv_l2i hb.1 hb.2.1 hd (Int32.ofInt_toInt _).symm hK
theorem r_i2b {x : Int} (d : DC Y pc .i2b 1 q) (K : WP l Y R X Z k n q L ((0, i2bI x) :: S) N Λ σ) : WP l Y R X Z k n pc L ((0, x) :: S) N Λ σ := by
  intro p e s m args below meth c B H locs ls hb hX hB hR hS hl hL hs
  obtain ⟨hd, rfl⟩ := d
  have hK := K p e s m args below meth c B H locs ls hb hX hB hR hS hl hL (oks1 (ok_i (i32_r _)) (okt hs))
  exact lv_i2b hb.1 hb.2.1 hd (Int32.ofInt_toInt _).symm hK
theorem r_lcmp {x y : Int} (d : DC Y pc .lcmp 1 q) (K : WP l Y R X Z k n q L ((0, cmpL x y) :: S) N Λ σ) : WP l Y R X Z k n pc L ((1, y) :: (1, x) :: S) N Λ σ := by
  intro p e s m args below meth c B H locs ls hb hX hB hR hS hl hL hs
  obtain ⟨hd, rfl⟩ := d
  have hy : R64 y := (okh hs).2 rfl
  have hx : R64 x := (okh (okt hs)).2 rfl
  have hK := K p e s m args below meth c B H locs ls hb hX hB hR hS hl hL (oks1 (ok_i (cmpL_r x y)) (okt (okt hs)))
  refine W.lcmp hb.1 hb.2.1 hd ?_
  have ee : Int32.ofInt (cmpL x y) = lg_cmp (Int64.ofInt x) (Int64.ofInt y) := by
    unfold cmpL lg_cmp
    simp only [gt_iff_lt, i64_lt hy hx, i64_e hx hy]
    repeat' split
    all_goals rfl
  rw [← ee]
  exact hK
theorem r_iconst {x : Int} (d : DC Y pc (.iconst x) 1 q) (hr : R32 x) (K : WP l Y R X Z k n q L ((0, x) :: S) N Λ σ) : WP l Y R X Z k n pc L S N Λ σ := by
  intro p e s m args below meth c B H locs ls hb hX hB hR hS hl hL hs
  obtain ⟨hd, rfl⟩ := d
  exact lv_iconst hb.1 hb.2.1 hd rfl (K p e s m args below meth c B H locs ls hb hX hB hR hS hl hL (oks1 (ok_i hr) hs))
theorem r_bipush {x : Int} (d : DC Y pc (.bipush x) 2 q) (hr : R32 x) (hv : (Int8.ofInt x).toInt32 = Int32.ofInt x) (K : WP l Y R X Z k n q L ((0, x) :: S) N Λ σ) : WP l Y R X Z k n pc L S N Λ σ := by
  intro p e s m args below meth c B H locs ls hb hX hB hR hS hl hL hs
  obtain ⟨hd, rfl⟩ := d
  exact lv_bipush hb.1 hb.2.1 hd hv (K p e s m args below meth c B H locs ls hb hX hB hR hS hl hL (oks1 (ok_i hr) hs))
theorem r_sipush {x : Int} (d : DC Y pc (.sipush x) 3 q) (hr : R32 x) (hv : (Int16.ofInt x).toInt32 = Int32.ofInt x) (K : WP l Y R X Z k n q L ((0, x) :: S) N Λ σ) : WP l Y R X Z k n pc L S N Λ σ := by
  intro p e s m args below meth c B H locs ls hb hX hB hR hS hl hL hs
  obtain ⟨hd, rfl⟩ := d
  exact lv_sipush hb.1 hb.2.1 hd hv (K p e s m args below meth c B H locs ls hb hX hB hR hS hl hL (oks1 (ok_i hr) hs))
theorem r_lconst {x : Fin 2} (d : DC Y pc (.lconst x) 1 q) (K : WP l Y R X Z k n q L ((1, ((x : Nat) : Int)) :: S) N Λ σ) : WP l Y R X Z k n pc L S N Λ σ := by
  intro p e s m args below meth c B H locs ls hb hX hB hR hS hl hL hs
  obtain ⟨hd, rfl⟩ := d
  refine lv_lconst hb.1 hb.2.1 hd ?_ (K p e s m args below meth c B H locs ls hb hX hB hR hS hl hL (oks1 (ok_l ⟨by omega, by have := x.isLt; omega⟩) hs))
  match x with
  | 0 => rfl
  | 1 => rfl
theorem r_ldc {i : Nat} {v : Int32} {x : Int} (d : DC Y pc (.ldc i) 2 q) (hc : Cond.constant (mN Y).cls i v ∈ lw_g) (hv : v.toInt = x) (K : WP l Y R X Z k n q L ((0, x) :: S) N Λ σ) : WP l Y R X Z k n pc L S N Λ σ := by
  intro p e s m args below meth c B H locs ls hb hX hB hR hS hl hL hs
  obtain ⟨hd, rfl⟩ := d
  subst hv
  have hK := K p e s m args below meth c B H locs ls hb hX hB hR hS hl hL (oks1 (ok_i (i32_r _)) hs)
  refine lv_ldc (v := v) hb.1 hb.2.1 hb.2.2.2.1 (hb.2.2.2.2.1 _ hc) hd ?_
  have ee : Int32.ofInt v.toInt = v := Int32.ofInt_toInt _
  rw [← ee]
  exact hK
theorem r_ldcw {i : Nat} {v : Int32} {x : Int} (d : DC Y pc (.ldc_w i) 3 q) (hc : Cond.constant (mN Y).cls i v ∈ lw_g) (hv : v.toInt = x) (K : WP l Y R X Z k n q L ((0, x) :: S) N Λ σ) : WP l Y R X Z k n pc L S N Λ σ := by
  intro p e s m args below meth c B H locs ls hb hX hB hR hS hl hL hs
  obtain ⟨hd, rfl⟩ := d
  subst hv
  have hK := K p e s m args below meth c B H locs ls hb hX hB hR hS hl hL (oks1 (ok_i (i32_r _)) hs)
  refine lv_ldcw (v := v) hb.1 hb.2.1 hb.2.2.2.1 (hb.2.2.2.2.1 _ hc) hd ?_
  have ee : Int32.ofInt v.toInt = v := Int32.ofInt_toInt _
  rw [← ee]
  exact hK
theorem r_ldc2 {i : Nat} {v : Int64} {x : Int} (d : DC Y pc (.ldc2_w i) 3 q) (hc : Cond.constantLong (mN Y).cls i v ∈ lw_g) (hv : v.toInt = x) (K : WP l Y R X Z k n q L ((1, x) :: S) N Λ σ) : WP l Y R X Z k n pc L S N Λ σ := by
  intro p e s m args below meth c B H locs ls hb hX hB hR hS hl hL hs
  obtain ⟨hd, rfl⟩ := d
  subst hv
  have hK := K p e s m args below meth c B H locs ls hb hX hB hR hS hl hL (oks1 (ok_l (i64_r _)) hs)
  refine lv_ldc2 (v := v) hb.1 hb.2.1 hb.2.2.2.1 (hb.2.2.2.2.1 _ hc) hd ?_
  have ee : Int64.ofInt v.toInt = v := Int64.ofInt_toInt _
  rw [← ee]
  exact hK
theorem r_iload_n {j : Fin 4} {x : Int} (d : DC Y pc (.iload_n j) 1 q) (hx : lk L (j : Nat) = (0, x)) (K : WP l Y R X Z k n q L ((0, x) :: S) N Λ σ) : WP l Y R X Z k n pc L S N Λ σ := by
  intro p e s m args below meth c B H locs ls hb hX hB hR hS hl hL hs
  obtain ⟨hd, rfl⟩ := d
  have hk : okv (0, x) := by rw [← hx]; exact hL _ (lk_mem (lk_lt (by rw [hx]; exact (by decide : (0 : Nat) ≠ 3))))
  exact lv_iload_n hb.1 hb.2.1 hd rfl (lv_get hl hx (fun h3 => absurd (show (0 : Nat) = 3 from h3) (by decide))) (K p e s m args below meth c B H locs ls hb hX hB hR hS hl hL (oks1 hk hs))
theorem r_iload {j : Nat} {x : Int} (d : DC Y pc (.iload j) 2 q) (hx : lk L j = (0, x)) (K : WP l Y R X Z k n q L ((0, x) :: S) N Λ σ) : WP l Y R X Z k n pc L S N Λ σ := by
  intro p e s m args below meth c B H locs ls hb hX hB hR hS hl hL hs
  obtain ⟨hd, rfl⟩ := d
  have hk : okv (0, x) := by rw [← hx]; exact hL _ (lk_mem (lk_lt (by rw [hx]; exact (by decide : (0 : Nat) ≠ 3))))
  exact lv_iload hb.1 hb.2.1 hd (lv_get hl hx (fun h3 => absurd (show (0 : Nat) = 3 from h3) (by decide))) (K p e s m args below meth c B H locs ls hb hX hB hR hS hl hL (oks1 hk hs))
theorem r_lload_n {j : Fin 4} {x : Int} (d : DC Y pc (.lload_n j) 1 q) (hx : lk L (j : Nat) = (1, x)) (K : WP l Y R X Z k n q L ((1, x) :: S) N Λ σ) : WP l Y R X Z k n pc L S N Λ σ := by
  intro p e s m args below meth c B H locs ls hb hX hB hR hS hl hL hs
  obtain ⟨hd, rfl⟩ := d
  have hk : okv (1, x) := by rw [← hx]; exact hL _ (lk_mem (lk_lt (by rw [hx]; exact (by decide : (1 : Nat) ≠ 3))))
  exact lv_lload_n hb.1 hb.2.1 hd rfl (lv_get hl hx (fun h3 => absurd (show (1 : Nat) = 3 from h3) (by decide))) (K p e s m args below meth c B H locs ls hb hX hB hR hS hl hL (oks1 hk hs))
theorem r_lload {j : Nat} {x : Int} (d : DC Y pc (.lload j) 2 q) (hx : lk L j = (1, x)) (K : WP l Y R X Z k n q L ((1, x) :: S) N Λ σ) : WP l Y R X Z k n pc L S N Λ σ := by
  intro p e s m args below meth c B H locs ls hb hX hB hR hS hl hL hs
  obtain ⟨hd, rfl⟩ := d
  have hk : okv (1, x) := by rw [← hx]; exact hL _ (lk_mem (lk_lt (by rw [hx]; exact (by decide : (1 : Nat) ≠ 3))))
  exact lv_lload hb.1 hb.2.1 hd (lv_get hl hx (fun h3 => absurd (show (1 : Nat) = 3 from h3) (by decide))) (K p e s m args below meth c B H locs ls hb hX hB hR hS hl hL (oks1 hk hs))
theorem r_aload_n {j : Fin 4} {x : Int} (d : DC Y pc (.aload_n j) 1 q) (hx : lk L (j : Nat) = (2, x)) (h0 : 0 ≤ x) (K : WP l Y R X Z k n q L ((2, x) :: S) N Λ σ) : WP l Y R X Z k n pc L S N Λ σ := by
  intro p e s m args below meth c B H locs ls hb hX hB hR hS hl hL hs
  obtain ⟨hd, rfl⟩ := d
  have hK := K p e s m args below meth c B H locs ls hb hX hB hR hS hl hL (oks1 (ok_r x) hs)
  have hg := lv_get hl hx (fun h3 => absurd (show (2 : Nat) = 3 from h3) (by decide))
  rw [List.map_cons, tv_r B h0] at hK
  rw [tv_r B h0] at hg
  exact lv_aload_n hb.1 hb.2.1 hd rfl hg hK
theorem r_aload {j : Nat} {x : Int} (d : DC Y pc (.aload j) 2 q) (hx : lk L j = (2, x)) (h0 : 0 ≤ x) (K : WP l Y R X Z k n q L ((2, x) :: S) N Λ σ) : WP l Y R X Z k n pc L S N Λ σ := by
  intro p e s m args below meth c B H locs ls hb hX hB hR hS hl hL hs
  obtain ⟨hd, rfl⟩ := d
  have hK := K p e s m args below meth c B H locs ls hb hX hB hR hS hl hL (oks1 (ok_r x) hs)
  have hg := lv_get hl hx (fun h3 => absurd (show (2 : Nat) = 3 from h3) (by decide))
  rw [List.map_cons, tv_r B h0] at hK
  rw [tv_r B h0] at hg
  exact lv_aload hb.1 hb.2.1 hd hg hK
theorem r_istore_n {j : Fin 4} {x : Int} {L2 : List AV} (d : DC Y pc (.istore_n j) 1 q) (hn : (j : Nat) < mL Y) (hok : stOk L (j : Nat) = true) (hL2 : (ls1 L (j : Nat) (0, x)) = L2) (K : WP l Y R X Z k n q L2 S N Λ σ) : WP l Y R X Z k n pc L ((0, x) :: S) N Λ σ := by
  intro p e s m args below meth c B H locs ls hb hX hB hR hS hl hL hs
  obtain ⟨hd, rfl⟩ := d
  subst hL2
  refine lv_istore_n hb.1 hb.2.1 hd rfl hl hn rfl (fun ls2 hl2 => K p e s m args below meth c B H locs ls2 hb hX hB hR hS (lv_mono hl2 ?_) ?_ (okt hs))
  · exact lvl_st1 hok
  · intro v hv
    rcases ls1_mem hv with rfl | hv
    · exact okh hs
    · exact hL v hv
theorem r_istore {j : Nat} {x : Int} {L2 : List AV} (d : DC Y pc (.istore j) 2 q) (hn : j < mL Y) (hok : stOk L j = true) (hL2 : (ls1 L j (0, x)) = L2) (K : WP l Y R X Z k n q L2 S N Λ σ) : WP l Y R X Z k n pc L ((0, x) :: S) N Λ σ := by
  intro p e s m args below meth c B H locs ls hb hX hB hR hS hl hL hs
  obtain ⟨hd, rfl⟩ := d
  subst hL2
  refine lv_istore hb.1 hb.2.1 hd hl hn rfl (fun ls2 hl2 => K p e s m args below meth c B H locs ls2 hb hX hB hR hS (lv_mono hl2 ?_) ?_ (okt hs))
  · exact lvl_st1 hok
  · intro v hv
    rcases ls1_mem hv with rfl | hv
    · exact okh hs
    · exact hL v hv
theorem r_lstore_n {j : Fin 4} {x : Int} {L2 : List AV} (d : DC Y pc (.lstore_n j) 1 q) (hn : (j : Nat) + 1 < mL Y) (hok : stOk L (j : Nat) = true) (hL2 : (ls1 (ls1 L (j : Nat) (1, x)) ((j : Nat) + 1) (3, 0)) = L2) (K : WP l Y R X Z k n q L2 S N Λ σ) : WP l Y R X Z k n pc L ((1, x) :: S) N Λ σ := by
  intro p e s m args below meth c B H locs ls hb hX hB hR hS hl hL hs
  obtain ⟨hd, rfl⟩ := d
  subst hL2
  refine lv_lstore_n hb.1 hb.2.1 hd rfl hl hn rfl (fun ls2 hl2 => K p e s m args below meth c B H locs ls2 hb hX hB hR hS (lv_mono hl2 ?_) ?_ (okt hs))
  · exact lvl_st2 hok
  · intro v hv
    rcases ls1_mem hv with rfl | hv
    · exact ok_n 0
    · rcases ls1_mem hv with rfl | hv
      · exact okh hs
      · exact hL v hv
theorem r_lstore {j : Nat} {x : Int} {L2 : List AV} (d : DC Y pc (.lstore j) 2 q) (hn : j + 1 < mL Y) (hok : stOk L j = true) (hL2 : (ls1 (ls1 L j (1, x)) (j + 1) (3, 0)) = L2) (K : WP l Y R X Z k n q L2 S N Λ σ) : WP l Y R X Z k n pc L ((1, x) :: S) N Λ σ := by
  intro p e s m args below meth c B H locs ls hb hX hB hR hS hl hL hs
  obtain ⟨hd, rfl⟩ := d
  subst hL2
  refine lv_lstore hb.1 hb.2.1 hd hl hn rfl (fun ls2 hl2 => K p e s m args below meth c B H locs ls2 hb hX hB hR hS (lv_mono hl2 ?_) ?_ (okt hs))
  · exact lvl_st2 hok
  · intro v hv
    rcases ls1_mem hv with rfl | hv
    · exact ok_n 0
    · rcases ls1_mem hv with rfl | hv
      · exact okh hs
      · exact hL v hv
theorem r_astore_n {j : Fin 4} {x : Int} {L2 : List AV} (d : DC Y pc (.astore_n j) 1 q) (hn : (j : Nat) < mL Y) (hok : stOk L (j : Nat) = true) (hL2 : (ls1 L (j : Nat) (2, x)) = L2) (h0 : 0 ≤ x) (K : WP l Y R X Z k n q L2 S N Λ σ) : WP l Y R X Z k n pc L ((2, x) :: S) N Λ σ := by
  intro p e s m args below meth c B H locs ls hb hX hB hR hS hl hL hs
  obtain ⟨hd, rfl⟩ := d
  subst hL2
  show W p l e R s m args below meth c H locs k n _ (F0 m pc ls (tv B (2, x) :: S.map (tv B)))
  rw [tv_r B h0]
  refine lv_astore_n hb.1 hb.2.1 hd rfl hl hn rfl (fun ls2 hl2 => K p e s m args below meth c B H locs ls2 hb hX hB hR hS (lv_mono hl2 ?_) ?_ (okt hs))
  · intro qq hqq
    have := lvl_st1 (v := (2, x)) hok qq hqq
    rw [tv_r B h0] at this
    exact this
  · intro v hv
    rcases ls1_mem hv with rfl | hv
    · exact okh hs
    · exact hL v hv
theorem r_astore {j : Nat} {x : Int} {L2 : List AV} (d : DC Y pc (.astore j) 2 q) (hn : j < mL Y) (hok : stOk L j = true) (hL2 : (ls1 L j (2, x)) = L2) (h0 : 0 ≤ x) (K : WP l Y R X Z k n q L2 S N Λ σ) : WP l Y R X Z k n pc L ((2, x) :: S) N Λ σ := by
  intro p e s m args below meth c B H locs ls hb hX hB hR hS hl hL hs
  obtain ⟨hd, rfl⟩ := d
  subst hL2
  show W p l e R s m args below meth c H locs k n _ (F0 m pc ls (tv B (2, x) :: S.map (tv B)))
  rw [tv_r B h0]
  refine lv_astore hb.1 hb.2.1 hd hl hn rfl (fun ls2 hl2 => K p e s m args below meth c B H locs ls2 hb hX hB hR hS (lv_mono hl2 ?_) ?_ (okt hs))
  · intro qq hqq
    have := lvl_st1 (v := (2, x)) hok qq hqq
    rw [tv_r B h0] at this
    exact this
  · intro v hv
    rcases ls1_mem hv with rfl | hv
    · exact okh hs
    · exact hL v hv
theorem r_iinc {j : Nat} {x a : Int} {L2 : List AV} (d : DC Y pc (.iinc j a) 3 q) (hx : lk L j = (0, x)) (hn : j < mL Y) (hok : stOk L j = true) (hL2 : ls1 L j (0, addI x a) = L2) (K : WP l Y R X Z k n q L2 S N Λ σ) : WP l Y R X Z k n pc L S N Λ σ := by
  intro p e s m args below meth c B H locs ls hb hX hB hR hS hl hL hs
  obtain ⟨hd, rfl⟩ := d
  subst hL2
  have hlen : j < L.length := lk_lt (by rw [hx]; exact (by decide : (0 : Nat) ≠ 3))
  have hm : (j, tv B (0, x)) ∈ lvl B L := lvl_mem.mpr ⟨hlen, by rw [hx]; exact (by decide : (0 : Nat) ≠ 3), by rw [hx]⟩
  obtain ⟨kk, hkk⟩ := List.getElem?_of_mem hm
  have ee : Int32.ofInt (addI x a) = Int32.ofInt x + Int32.ofInt a := Int32.ofInt_toInt _
  refine lv_iinc (v := Int32.ofInt (addI x a)) hb.1 hb.2.1 hd hl hkk ee.symm hn rfl (fun ls2 hl2 => K p e s m args below meth c B H locs ls2 hb hX hB hR hS (lv_mono hl2 (lvl_st1 hok)) ?_ hs)
  intro v hv
  rcases ls1_mem hv with rfl | hv
  · exact ok_i (i32_r _)
  · exact hL v hv
theorem r_dup {v : AV} (d : DC Y pc .dup 1 q) (hv : cat v = 1) (K : WP l Y R X Z k n q L (v :: v :: S) N Λ σ) : WP l Y R X Z k n pc L (v :: S) N Λ σ := by
  intro p e s m args below meth c B H locs ls hb hX hB hR hS hl hL hs
  obtain ⟨hd, rfl⟩ := d
  exact lv_dup hb.1 hb.2.1 hd (by rw [tv_cat]; exact hv) (K p e s m args below meth c B H locs ls hb hX hB hR hS hl hL (oks1 (okh hs) hs))
theorem r_pop {v : AV} (d : DC Y pc .pop 1 q) (hv : cat v = 1) (K : WP l Y R X Z k n q L S N Λ σ) : WP l Y R X Z k n pc L (v :: S) N Λ σ := by
  intro p e s m args below meth c B H locs ls hb hX hB hR hS hl hL hs
  obtain ⟨hd, rfl⟩ := d
  exact lv_pop hb.1 hb.2.1 hd (by rw [tv_cat]; exact hv) (K p e s m args below meth c B H locs ls hb hX hB hR hS hl hL (okt hs))
theorem r_dup2 {v u : AV} (d : DC Y pc .dup2 1 q) (hv : cat v = 1) (hu : cat u = 1) (K : WP l Y R X Z k n q L (v :: u :: v :: u :: S) N Λ σ) : WP l Y R X Z k n pc L (v :: u :: S) N Λ σ := by
  intro p e s m args below meth c B H locs ls hb hX hB hR hS hl hL hs
  obtain ⟨hd, rfl⟩ := d
  exact lv_dup2_11 hb.1 hb.2.1 hd (by rw [tv_cat]; exact hv) (by rw [tv_cat]; exact hu) (K p e s m args below meth c B H locs ls hb hX hB hR hS hl hL (oks1 (okh hs) (oks1 (okh (okt hs)) hs)))
theorem r_if_eq {x off : Int} {tgt : Nat} (d : DC Y pc (.ifCond .eq off) 3 q) (ht : (pc : Int) + off = (tgt : Int)) (Kt : x = 0 → WP l Y R X Z k n tgt L S N Λ σ) (Kf : ¬ (x = 0) → WP l Y R X Z k n q L S N Λ σ) : WP l Y R X Z k n pc L ((0, x) :: S) N Λ σ := by
  intro p e s m args below meth c B H locs ls hb hX hB hR hS hl hL hs
  obtain ⟨hd, rfl⟩ := d
  have hx : R32 x := (okh hs).1 rfl
  have hiff := i32_0 hx
  exact lv_if_eq hb.1 hb.2.1 hd ht (fun h => Kt (hiff.mp h) p e s m args below meth c B H locs ls hb hX hB hR hS hl hL (okt hs)) (fun h => Kf (fun z => h (hiff.mpr z)) p e s m args below meth c B H locs ls hb hX hB hR hS hl hL (okt hs))
theorem r_if_ne {x off : Int} {tgt : Nat} (d : DC Y pc (.ifCond .ne off) 3 q) (ht : (pc : Int) + off = (tgt : Int)) (Kt : ¬ x = 0 → WP l Y R X Z k n tgt L S N Λ σ) (Kf : x = 0 → WP l Y R X Z k n q L S N Λ σ) : WP l Y R X Z k n pc L ((0, x) :: S) N Λ σ := by
  intro p e s m args below meth c B H locs ls hb hX hB hR hS hl hL hs
  obtain ⟨hd, rfl⟩ := d
  have hx : R32 x := (okh hs).1 rfl
  have hiff := i32_0 hx
  exact lv_if_ne hb.1 hb.2.1 hd ht (fun h => Kt (fun z => h (hiff.mpr z)) p e s m args below meth c B H locs ls hb hX hB hR hS hl hL (okt hs)) (fun h => Kf (hiff.mp h) p e s m args below meth c B H locs ls hb hX hB hR hS hl hL (okt hs))
theorem r_if_lt {x off : Int} {tgt : Nat} (d : DC Y pc (.ifCond .lt off) 3 q) (ht : (pc : Int) + off = (tgt : Int)) (Kt : x < 0 → WP l Y R X Z k n tgt L S N Λ σ) (Kf : ¬ (x < 0) → WP l Y R X Z k n q L S N Λ σ) : WP l Y R X Z k n pc L ((0, x) :: S) N Λ σ := by
  intro p e s m args below meth c B H locs ls hb hX hB hR hS hl hL hs
  obtain ⟨hd, rfl⟩ := d
  have hx : R32 x := (okh hs).1 rfl
  have hiff := i32_lt hx R32_0
  exact lv_if_lt hb.1 hb.2.1 hd ht (fun h => Kt (hiff.mp h) p e s m args below meth c B H locs ls hb hX hB hR hS hl hL (okt hs)) (fun h => Kf (fun z => h (hiff.mpr z)) p e s m args below meth c B H locs ls hb hX hB hR hS hl hL (okt hs))
theorem r_if_ge {x off : Int} {tgt : Nat} (d : DC Y pc (.ifCond .ge off) 3 q) (ht : (pc : Int) + off = (tgt : Int)) (Kt : 0 ≤ x → WP l Y R X Z k n tgt L S N Λ σ) (Kf : ¬ (0 ≤ x) → WP l Y R X Z k n q L S N Λ σ) : WP l Y R X Z k n pc L ((0, x) :: S) N Λ σ := by
  intro p e s m args below meth c B H locs ls hb hX hB hR hS hl hL hs
  obtain ⟨hd, rfl⟩ := d
  have hx : R32 x := (okh hs).1 rfl
  have hiff := i32_le R32_0 hx
  exact lv_if_ge hb.1 hb.2.1 hd ht (fun h => Kt (hiff.mp h) p e s m args below meth c B H locs ls hb hX hB hR hS hl hL (okt hs)) (fun h => Kf (fun z => h (hiff.mpr z)) p e s m args below meth c B H locs ls hb hX hB hR hS hl hL (okt hs))
theorem r_if_gt {x off : Int} {tgt : Nat} (d : DC Y pc (.ifCond .gt off) 3 q) (ht : (pc : Int) + off = (tgt : Int)) (Kt : 0 < x → WP l Y R X Z k n tgt L S N Λ σ) (Kf : ¬ (0 < x) → WP l Y R X Z k n q L S N Λ σ) : WP l Y R X Z k n pc L ((0, x) :: S) N Λ σ := by
  intro p e s m args below meth c B H locs ls hb hX hB hR hS hl hL hs
  obtain ⟨hd, rfl⟩ := d
  have hx : R32 x := (okh hs).1 rfl
  have hiff := i32_lt R32_0 hx
  exact lv_if_gt hb.1 hb.2.1 hd ht (fun h => Kt (hiff.mp h) p e s m args below meth c B H locs ls hb hX hB hR hS hl hL (okt hs)) (fun h => Kf (fun z => h (hiff.mpr z)) p e s m args below meth c B H locs ls hb hX hB hR hS hl hL (okt hs))
theorem r_if_le {x off : Int} {tgt : Nat} (d : DC Y pc (.ifCond .le off) 3 q) (ht : (pc : Int) + off = (tgt : Int)) (Kt : x ≤ 0 → WP l Y R X Z k n tgt L S N Λ σ) (Kf : ¬ (x ≤ 0) → WP l Y R X Z k n q L S N Λ σ) : WP l Y R X Z k n pc L ((0, x) :: S) N Λ σ := by
  intro p e s m args below meth c B H locs ls hb hX hB hR hS hl hL hs
  obtain ⟨hd, rfl⟩ := d
  have hx : R32 x := (okh hs).1 rfl
  have hiff := i32_le hx R32_0
  exact lv_if_le hb.1 hb.2.1 hd ht (fun h => Kt (hiff.mp h) p e s m args below meth c B H locs ls hb hX hB hR hS hl hL (okt hs)) (fun h => Kf (fun z => h (hiff.mpr z)) p e s m args below meth c B H locs ls hb hX hB hR hS hl hL (okt hs))
theorem r_ic_eq {x y off : Int} {tgt : Nat} (d : DC Y pc (.if_icmp .eq off) 3 q) (ht : (pc : Int) + off = (tgt : Int)) (Kt : x = y → WP l Y R X Z k n tgt L S N Λ σ) (Kf : ¬ (x = y) → WP l Y R X Z k n q L S N Λ σ) : WP l Y R X Z k n pc L ((0, y) :: (0, x) :: S) N Λ σ := by
  intro p e s m args below meth c B H locs ls hb hX hB hR hS hl hL hs
  obtain ⟨hd, rfl⟩ := d
  have hy : R32 y := (okh hs).1 rfl
  have hx : R32 x := (okh (okt hs)).1 rfl
  have hiff := i32_e hx hy
  exact lv_icmp_eq hb.1 hb.2.1 hd ht (fun h => Kt (hiff.mp h) p e s m args below meth c B H locs ls hb hX hB hR hS hl hL (okt (okt hs))) (fun h => Kf (fun z => h (hiff.mpr z)) p e s m args below meth c B H locs ls hb hX hB hR hS hl hL (okt (okt hs)))
theorem r_ic_ne {x y off : Int} {tgt : Nat} (d : DC Y pc (.if_icmp .ne off) 3 q) (ht : (pc : Int) + off = (tgt : Int)) (Kt : ¬ x = y → WP l Y R X Z k n tgt L S N Λ σ) (Kf : x = y → WP l Y R X Z k n q L S N Λ σ) : WP l Y R X Z k n pc L ((0, y) :: (0, x) :: S) N Λ σ := by
  intro p e s m args below meth c B H locs ls hb hX hB hR hS hl hL hs
  obtain ⟨hd, rfl⟩ := d
  have hy : R32 y := (okh hs).1 rfl
  have hx : R32 x := (okh (okt hs)).1 rfl
  have hiff := i32_e hx hy
  exact lv_icmp_ne hb.1 hb.2.1 hd ht (fun h => Kt (fun z => h (hiff.mpr z)) p e s m args below meth c B H locs ls hb hX hB hR hS hl hL (okt (okt hs))) (fun h => Kf (hiff.mp h) p e s m args below meth c B H locs ls hb hX hB hR hS hl hL (okt (okt hs)))
theorem r_ic_lt {x y off : Int} {tgt : Nat} (d : DC Y pc (.if_icmp .lt off) 3 q) (ht : (pc : Int) + off = (tgt : Int)) (Kt : x < y → WP l Y R X Z k n tgt L S N Λ σ) (Kf : ¬ (x < y) → WP l Y R X Z k n q L S N Λ σ) : WP l Y R X Z k n pc L ((0, y) :: (0, x) :: S) N Λ σ := by
  intro p e s m args below meth c B H locs ls hb hX hB hR hS hl hL hs
  obtain ⟨hd, rfl⟩ := d
  have hy : R32 y := (okh hs).1 rfl
  have hx : R32 x := (okh (okt hs)).1 rfl
  have hiff := i32_lt hx hy
  exact lv_icmp_lt hb.1 hb.2.1 hd ht (fun h => Kt (hiff.mp h) p e s m args below meth c B H locs ls hb hX hB hR hS hl hL (okt (okt hs))) (fun h => Kf (fun z => h (hiff.mpr z)) p e s m args below meth c B H locs ls hb hX hB hR hS hl hL (okt (okt hs)))
theorem r_ic_ge {x y off : Int} {tgt : Nat} (d : DC Y pc (.if_icmp .ge off) 3 q) (ht : (pc : Int) + off = (tgt : Int)) (Kt : y ≤ x → WP l Y R X Z k n tgt L S N Λ σ) (Kf : ¬ (y ≤ x) → WP l Y R X Z k n q L S N Λ σ) : WP l Y R X Z k n pc L ((0, y) :: (0, x) :: S) N Λ σ := by
  intro p e s m args below meth c B H locs ls hb hX hB hR hS hl hL hs
  obtain ⟨hd, rfl⟩ := d
  have hy : R32 y := (okh hs).1 rfl
  have hx : R32 x := (okh (okt hs)).1 rfl
  have hiff := i32_le hy hx
  exact lv_icmp_ge hb.1 hb.2.1 hd ht (fun h => Kt (hiff.mp h) p e s m args below meth c B H locs ls hb hX hB hR hS hl hL (okt (okt hs))) (fun h => Kf (fun z => h (hiff.mpr z)) p e s m args below meth c B H locs ls hb hX hB hR hS hl hL (okt (okt hs)))
theorem r_ic_gt {x y off : Int} {tgt : Nat} (d : DC Y pc (.if_icmp .gt off) 3 q) (ht : (pc : Int) + off = (tgt : Int)) (Kt : y < x → WP l Y R X Z k n tgt L S N Λ σ) (Kf : ¬ (y < x) → WP l Y R X Z k n q L S N Λ σ) : WP l Y R X Z k n pc L ((0, y) :: (0, x) :: S) N Λ σ := by
  intro p e s m args below meth c B H locs ls hb hX hB hR hS hl hL hs
  obtain ⟨hd, rfl⟩ := d
  have hy : R32 y := (okh hs).1 rfl
  have hx : R32 x := (okh (okt hs)).1 rfl
  have hiff := i32_lt hy hx
  exact lv_icmp_gt hb.1 hb.2.1 hd ht (fun h => Kt (hiff.mp h) p e s m args below meth c B H locs ls hb hX hB hR hS hl hL (okt (okt hs))) (fun h => Kf (fun z => h (hiff.mpr z)) p e s m args below meth c B H locs ls hb hX hB hR hS hl hL (okt (okt hs)))
theorem r_ic_le {x y off : Int} {tgt : Nat} (d : DC Y pc (.if_icmp .le off) 3 q) (ht : (pc : Int) + off = (tgt : Int)) (Kt : x ≤ y → WP l Y R X Z k n tgt L S N Λ σ) (Kf : ¬ (x ≤ y) → WP l Y R X Z k n q L S N Λ σ) : WP l Y R X Z k n pc L ((0, y) :: (0, x) :: S) N Λ σ := by
  intro p e s m args below meth c B H locs ls hb hX hB hR hS hl hL hs
  obtain ⟨hd, rfl⟩ := d
  have hy : R32 y := (okh hs).1 rfl
  have hx : R32 x := (okh (okt hs)).1 rfl
  have hiff := i32_le hx hy
  exact lv_icmp_le hb.1 hb.2.1 hd ht (fun h => Kt (hiff.mp h) p e s m args below meth c B H locs ls hb hX hB hR hS hl hL (okt (okt hs))) (fun h => Kf (fun z => h (hiff.mpr z)) p e s m args below meth c B H locs ls hb hX hB hR hS hl hL (okt (okt hs)))
theorem r_goto {off : Int} {tgt : Nat} (d : DC Y pc (.goto off) 3 q) (ht : (pc : Int) + off = (tgt : Int)) (K : WP l Y R X Z k n tgt L S N Λ σ) : WP l Y R X Z k n pc L S N Λ σ := by
  intro p e s m args below meth c B H locs ls hb hX hB hR hS hl hL hs
  obtain ⟨hd, rfl⟩ := d
  exact lv_goto hb.1 hb.2.1 hd ht (K p e s m args below meth c B H locs ls hb hX hB hR hS hl hL hs)
theorem r_tin {dflt lo hi : Int} {offs : Array Int} {len : Nat} {x off : Int} {tgt : Nat} (d : DC Y pc (.tableswitch dflt lo hi offs) len q) (h1 : lo ≤ x) (h2 : x ≤ hi) (ho : offs[(x - lo).toNat]? = some off) (ht : (pc : Int) + off = (tgt : Int)) (K : WP l Y R X Z k n tgt L S N Λ σ) : WP l Y R X Z k n pc L ((0, x) :: S) N Λ σ := by
  intro p e s m args below meth c B H locs ls hb hX hB hR hS hl hL hs
  obtain ⟨hd, rfl⟩ := d
  have hx : R32 x := (okh hs).1 rfl
  exact lv_tableIn hb.1 hb.2.1 hd (by rw [i32_b hx]; omega) (by rw [i32_b hx]; omega) (by rw [i32_b hx]; exact ho) ht (K p e s m args below meth c B H locs ls hb hX hB hR hS hl hL (okt hs))
theorem r_tout {dflt lo hi : Int} {offs : Array Int} {len : Nat} {x : Int} {tgt : Nat} (d : DC Y pc (.tableswitch dflt lo hi offs) len q) (h : x < lo ∨ hi < x) (ht : (pc : Int) + dflt = (tgt : Int)) (K : WP l Y R X Z k n tgt L S N Λ σ) : WP l Y R X Z k n pc L ((0, x) :: S) N Λ σ := by
  intro p e s m args below meth c B H locs ls hb hX hB hR hS hl hL hs
  obtain ⟨hd, rfl⟩ := d
  have hx : R32 x := (okh hs).1 rfl
  exact lv_tableOut hb.1 hb.2.1 hd (by rw [i32_b hx]; exact h) ht (K p e s m args below meth c B H locs ls hb hX hB hR hS hl hL (okt hs))
theorem r_nm {t : Nat} {a : Int} (K : ∀ x : Int, x = a → WP l Y R X Z k n pc L ((t, x) :: S) N Λ σ) : WP l Y R X Z k n pc L ((t, a) :: S) N Λ σ := K a rfl
theorem r_nmM (K : ∀ τ : Mem, τ = σ → WP l Y R X Z k n pc L S N Λ τ) : WP l Y R X Z k n pc L S N Λ σ := K σ rfl
theorem r_okm (K : okm N Λ σ → WP l Y R X Z k n pc L S N Λ σ) : WP l Y R X Z k n pc L S N Λ σ := by
  intro p e s m args below meth c B H locs ls hb hX hB hR hS hl hL hs
  obtain ⟨D, κ, h1, h2, h3, h4⟩ := id hR
  exact K h4 p e s m args below meth c B H locs ls hb hX hB hR hS hl hL hs
theorem r_okL (K : (∀ v ∈ L, okv v) → WP l Y R X Z k n pc L S N Λ σ) : WP l Y R X Z k n pc L S N Λ σ := by
  intro p e s m args below meth c B H locs ls hb hX hB hR hS hl hL hs
  exact K hL p e s m args below meth c B H locs ls hb hX hB hR hS hl hL hs
theorem r_okS (K : (∀ v ∈ S, okv v) → WP l Y R X Z k n pc L S N Λ σ) : WP l Y R X Z k n pc L S N Λ σ := by
  intro p e s m args below meth c B H locs ls hb hX hB hR hS hl hL hs
  exact K hs p e s m args below meth c B H locs ls hb hX hB hR hS hl hL hs
end RULES
