def st (σ : Mem) (c i v : Int) : Mem := fun c' i' => if c' = c ∧ i' = i then v else σ c' i'
def stR (Λ : Lay) (c j v : Int) : Lay := fun c' => if c' = c then ((Λ c).1, (Λ c).2.1, fun i => if i = j then v else (Λ c).2.2 i) else Λ c'
theorem st_ne {σ : Mem} {c i v c' : Int} (h : c' ≠ c) : st σ c i v c' = σ c' := funext fun j => if_neg fun z => h z.1
theorem st_eq {σ : Mem} {c i v : Int} : st σ c i v c i = v := if_pos ⟨rfl, rfl⟩
theorem st_nj {σ : Mem} {c i v j : Int} (h : j ≠ i) : st σ c i v c j = σ c j := if_neg fun z => h z.2
theorem stR_ne {Λ : Lay} {c j v c' : Int} (h : c' ≠ c) : stR Λ c j v c' = Λ c' := if_neg h
theorem stR_k {Λ : Lay} {c j v c' : Int} : (stR Λ c j v c').1 = (Λ c').1 ∧ (stR Λ c j v c').2.1 = (Λ c').2.1 := by
  by_cases h : c' = c
  · subst h
    unfold stR
    rw [if_pos rfl]
    exact ⟨rfl, rfl⟩
  · rw [stR_ne h]; exact ⟨rfl, rfl⟩
theorem stR_r {Λ : Lay} {c j v i : Int} : (stR Λ c j v c).2.2 i = if i = j then v else (Λ c).2.2 i := by
  unfold stR
  rw [if_pos rfl]
theorem ent_i {B : Nat} {Λ : Lay} {κ : Nat → ClassId} {σ : Mem} {c t n : Nat} (hk : (Λ c).1 = t) (ht : t = 0 ∨ t = 2 ∨ t = 6) (hn : (Λ c).2.1 = (n : Int)) : ent B Λ κ σ c = .inl (κ c, n, .inl fun j => Int32.ofInt (σ c j)) := by
  unfold ent
  rw [hk, hn, if_pos ht]
  rfl
theorem ent_l {B : Nat} {Λ : Lay} {κ : Nat → ClassId} {σ : Mem} {c n : Nat} (hk : (Λ c).1 = 1) (hn : (Λ c).2.1 = (n : Int)) : ent B Λ κ σ c = .inl (κ c, n, .inr (.inl fun j => Int64.ofInt (σ c j))) := by
  unfold ent
  rw [hk, hn, if_neg (by decide), if_pos rfl]
  rfl
theorem ent_q {B : Nat} {Λ : Lay} {κ : Nat → ClassId} {σ : Mem} {c t n : Nat} (hk : (Λ c).1 = t) (ht : t = 3 ∨ t = 4 ∨ t = 5) (hn : (Λ c).2.1 = (n : Int)) : ent B Λ κ σ c = .inl (κ c, n, .inr (.inr (.inr (.inr fun j => rfO B ((Λ c).2.2 j))))) := by
  unfold ent
  rw [hk, hn, if_neg (by omega), if_neg (by omega), if_pos (by omega)]
  rfl
theorem ent_o {B : Nat} {Λ : Lay} {κ : Nat → ClassId} {σ : Mem} {c ci n : Nat} (hk : (Λ c).1 = ci + 10) (hn : (Λ c).2.1 = (n : Int)) : ent B Λ κ σ c = .inr (ci, (List.range n).map fun j => tv B (fld ci j, fv (fld ci j) Λ σ c j)) := by
  unfold ent
  rw [hk, hn, if_neg (by omega), if_neg (by omega), if_neg (by omega)]
  rfl
theorem ent_same {B : Nat} {Λ Λ' : Lay} {κ κ' : Nat → ClassId} {σ σ' : Mem} {c : Nat} (h1 : Λ' c = Λ c) (h2 : σ' c = σ c) (h3 : κ' c = κ c) : ent B Λ' κ' σ' c = ent B Λ κ σ c := by
  unfold ent fv
  rw [h1, h2, h3]
theorem KOK.lay {D : va_G} {κ : Nat → ClassId} {N : Nat} {Λ Λ' : Lay} {s : State} (h : KOK D κ N Λ s) (hl : ∀ c : Nat, c < N → (Λ' c).1 = (Λ c).1) : KOK D κ N Λ' s :=
  ⟨h.1, fun c hc hk => by rw [hl c hc]; exact h.2.1 c hc (by rw [← hl c hc]; exact hk), h.2.2⟩
theorem clampI {i : Int} (hr : R32 i) : (Int32.ofInt i).toNatClampNeg = i.toNat := by
  rw [Int32.toNatClampNeg, i32_b hr]
theorem idx_ok {i : Int} (hr : R32 i) (h0 : 0 ≤ i) {n : Nat} (h1 : i < n) : vp_in (Int32.ofInt i) n := by
  rintro (h | h)
  · have := (i32_lt hr R32_0).mp h
    omega
  · rw [clampI hr] at h
    omega
theorem putP {B N : Nat} {Λ Λ' : Lay} {κ : Nat → ClassId} {σ σ' : Mem} {D : va_G} {H H1 : Heap} {c : Nat} (h : c < N) (hP : va_P D vwCl (wsO B N Λ κ σ) H) (he : va_at D vwCl (B + c, ent B Λ' κ σ' c) H1) (oq : ∀ q : Nat, q ≠ B + c → H1[q]? = H[q]?)
    (h1 : ∀ k : Nat, k < N → k ≠ c → Λ' k = Λ k ∧ σ' k = σ k) : va_P D vwCl (wsO B N Λ' κ σ') H1 := by
  rw [← wsO_set (Λ := Λ) (σ := σ) h rfl (fun k hk hne => ent_same (h1 k hk hne).1 (h1 k hk hne).2 rfl)]
  exact hP.set (wsO_D B N Λ κ σ) (wsO_get h) he oq
def rng (Λ : Lay) (c j v : Int) : Prop := ((Λ c).1 = 0 ∨ (Λ c).1 = 2 ∨ (Λ c).1 = 6 → R32 v) ∧ ((Λ c).1 = 1 → R64 v) ∧ (10 ≤ (Λ c).1 → fld ((Λ c).1 - 10) j.toNat = 0 → R32 v) ∧ (10 ≤ (Λ c).1 → fld ((Λ c).1 - 10) j.toNat = 1 → R64 v)
theorem okm_st {N : Nat} {Λ : Lay} {σ : Mem} {c i v : Int} (h : okm N Λ σ) (hv : rng Λ c i v) : okm N Λ (st σ c i v) := by
  intro c' j h0 h1 h2 h3
  unfold st
  by_cases e : c' = c ∧ j = i
  · rw [if_pos e]
    obtain ⟨rfl, rfl⟩ := e
    exact hv
  · rw [if_neg e]
    exact h c' j h0 h1 h2 h3
theorem okm_lay {N : Nat} {Λ Λ' : Lay} {σ : Mem} (h : okm N Λ σ) (hl : ∀ c : Int, (Λ' c).1 = (Λ c).1 ∧ (Λ' c).2.1 = (Λ c).2.1) : okm N Λ' σ := by
  intro c j h0 h1 h2 h3
  rw [(hl c).2] at h3
  rw [(hl c).1]
  exact h c j h0 h1 h2 h3
theorem rng_i {Λ : Lay} {c j v : Int} {t : Nat} (hk : (Λ c).1 = t) (ht : t = 0 ∨ t = 2 ∨ t = 6) (hv : R32 v) : rng Λ c j v := ⟨fun _ => hv, fun h => by omega, fun h => by omega, fun h => by omega⟩
theorem rng_l {Λ : Lay} {c j v : Int} (hk : (Λ c).1 = 1) (hv : R64 v) : rng Λ c j v := ⟨fun h => by omega, fun _ => hv, fun h => by omega, fun h => by omega⟩
/-- what is known of a class of objects -/
def CLS (ci : Nat) (C : String) (T : u_T) (n : Nat) : Prop := vwCl[ci]? = some (C, T, n) ∧ (∀ w ∈ u_ws C T n, w ∈ lw_g) ∧ (∀ k, k < n → parseFieldDescriptor (T k).2.2.1 = some (tyC ci k)) ∧ (∀ a, a < n → ∀ b, b < n → a ≠ b → (T a).2.1 ≠ (T b).2.1)
section HEAP
variable {l : Launch} {Y : MD} {R : Room} {X : XT} {Z : ZT} {k n pc q : Nat} {L S : List AV} {N : Nat} {Λ : Lay} {σ : Mem}
theorem r_iald {c i len : Int} (d : DC Y pc .iaload 1 q) (c0 : 0 ≤ c) (cN : c < N) (hk : (Λ c).1 = 0) (hn : (Λ c).2.1 = len) (h0 : 0 ≤ i) (h1 : i < len) (K : WP l Y R X Z k n q L ((0, σ c i) :: S) N Λ σ) : WP l Y R X Z k n pc L ((0, i) :: (2, c) :: S) N Λ σ := by
  intro p e s m args below meth cd B H locs ls hb hX hB hR hS hl hL hs
  obtain ⟨hd, rfl⟩ := d
  obtain ⟨c, rfl⟩ := Int.eq_ofNat_of_zero_le c0
  obtain ⟨len, rfl⟩ := Int.eq_ofNat_of_zero_le (show 0 ≤ len by omega)
  have hi : R32 i := (okh hs).1 rfl
  obtain ⟨D, κ, hP, hK, hz, hm⟩ := id hR
  have hc : c < N := by omega
  have hv := (hm c i (by omega) (by omega) h0 (by rw [hn]; exact h1)).1 (Or.inl hk)
  have hK1 := hK.K hc (by rw [hk]; decide)
  rw [hk] at hK1
  have he := wsO_get (B := B) (Λ := Λ) (κ := κ) (σ := σ) hc
  rw [ent_i hk (Or.inl rfl) hn] at he
  have hKK := K p e s m args below meth cd B H locs ls hb hX hB hR hS hl hL (oks1 (ok_i hv) (okt (okt hs)))
  show W p l e R s m args below meth cd H locs k n _ (F0 m pc ls (.int (Int32.ofInt i) :: tv B (2, (c : Int)) :: S.map (tv B)))
  rw [tv_r B c0]
  refine va_iald hb.1 hb.2.1 hK1 hP c 0 he rfl (idx_ok hi h0 h1) hd ?_
  rw [clampI hi, show ((i.toNat : Nat) : Int) = i by omega]
  exact hKK
theorem r_zald {c i len : Int} (d : DC Y pc .baload 1 q) (c0 : 0 ≤ c) (cN : c < N) (hk : (Λ c).1 = 2) (hn : (Λ c).2.1 = len) (h0 : 0 ≤ i) (h1 : i < len) (K : WP l Y R X Z k n q L ((0, σ c i) :: S) N Λ σ) : WP l Y R X Z k n pc L ((0, i) :: (2, c) :: S) N Λ σ := by
  intro p e s m args below meth cd B H locs ls hb hX hB hR hS hl hL hs
  obtain ⟨hd, rfl⟩ := d
  obtain ⟨c, rfl⟩ := Int.eq_ofNat_of_zero_le c0
  obtain ⟨len, rfl⟩ := Int.eq_ofNat_of_zero_le (show 0 ≤ len by omega)
  have hi : R32 i := (okh hs).1 rfl
  obtain ⟨D, κ, hP, hK, hz, hm⟩ := id hR
  have hc : c < N := by omega
  have hv := (hm c i (by omega) (by omega) h0 (by rw [hn]; exact h1)).1 (Or.inr (Or.inl hk))
  have hK1 := hK.K hc (by rw [hk]; decide)
  rw [hk] at hK1
  have he := wsO_get (B := B) (Λ := Λ) (κ := κ) (σ := σ) hc
  rw [ent_i hk (Or.inr (Or.inl rfl)) hn] at he
  have hKK := K p e s m args below meth cd B H locs ls hb hX hB hR hS hl hL (oks1 (ok_i hv) (okt (okt hs)))
  show W p l e R s m args below meth cd H locs k n _ (F0 m pc ls (.int (Int32.ofInt i) :: tv B (2, (c : Int)) :: S.map (tv B)))
  rw [tv_r B c0]
  refine va_zald hb.1 hb.2.1 hK1 hP c 0 he rfl (idx_ok hi h0 h1) hd ?_
  rw [clampI hi, show ((i.toNat : Nat) : Int) = i by omega]
  exact hKK
theorem r_bald {c i len : Int} (d : DC Y pc .baload 1 q) (c0 : 0 ≤ c) (cN : c < N) (hk : (Λ c).1 = 6) (hn : (Λ c).2.1 = len) (h0 : 0 ≤ i) (h1 : i < len) (K : WP l Y R X Z k n q L ((0, σ c i) :: S) N Λ σ) : WP l Y R X Z k n pc L ((0, i) :: (2, c) :: S) N Λ σ := by
  intro p e s m args below meth cd B H locs ls hb hX hB hR hS hl hL hs
  obtain ⟨hd, rfl⟩ := d
  obtain ⟨c, rfl⟩ := Int.eq_ofNat_of_zero_le c0
  obtain ⟨len, rfl⟩ := Int.eq_ofNat_of_zero_le (show 0 ≤ len by omega)
  have hi : R32 i := (okh hs).1 rfl
  obtain ⟨D, κ, hP, hK, hz, hm⟩ := id hR
  have hc : c < N := by omega
  have hv := (hm c i (by omega) (by omega) h0 (by rw [hn]; exact h1)).1 (Or.inr (Or.inr hk))
  have hK1 := hK.K hc (by rw [hk]; decide)
  rw [hk] at hK1
  have he := wsO_get (B := B) (Λ := Λ) (κ := κ) (σ := σ) hc
  rw [ent_i hk (Or.inr (Or.inr rfl)) hn] at he
  have hKK := K p e s m args below meth cd B H locs ls hb hX hB hR hS hl hL (oks1 (ok_i hv) (okt (okt hs)))
  show W p l e R s m args below meth cd H locs k n _ (F0 m pc ls (.int (Int32.ofInt i) :: tv B (2, (c : Int)) :: S.map (tv B)))
  rw [tv_r B c0]
  refine va_bald hb.1 hb.2.1 hK1 hP c 0 he rfl (idx_ok hi h0 h1) hd ?_
  rw [clampI hi, show ((i.toNat : Nat) : Int) = i by omega]
  exact hKK
theorem r_lald {c i len : Int} (d : DC Y pc .laload 1 q) (c0 : 0 ≤ c) (cN : c < N) (hk : (Λ c).1 = 1) (hn : (Λ c).2.1 = len) (h0 : 0 ≤ i) (h1 : i < len) (K : WP l Y R X Z k n q L ((1, σ c i) :: S) N Λ σ) : WP l Y R X Z k n pc L ((0, i) :: (2, c) :: S) N Λ σ := by
  intro p e s m args below meth cd B H locs ls hb hX hB hR hS hl hL hs
  obtain ⟨hd, rfl⟩ := d
  obtain ⟨c, rfl⟩ := Int.eq_ofNat_of_zero_le c0
  obtain ⟨len, rfl⟩ := Int.eq_ofNat_of_zero_le (show 0 ≤ len by omega)
  have hi : R32 i := (okh hs).1 rfl
  obtain ⟨D, κ, hP, hK, hz, hm⟩ := id hR
  have hc : c < N := by omega
  have hv := (hm c i (by omega) (by omega) h0 (by rw [hn]; exact h1)).2.1 hk
  have hK1 := hK.K hc (by rw [hk]; decide)
  rw [hk] at hK1
  have he := wsO_get (B := B) (Λ := Λ) (κ := κ) (σ := σ) hc
  rw [ent_l hk hn] at he
  have hKK := K p e s m args below meth cd B H locs ls hb hX hB hR hS hl hL (oks1 (ok_l hv) (okt (okt hs)))
  show W p l e R s m args below meth cd H locs k n _ (F0 m pc ls (.int (Int32.ofInt i) :: tv B (2, (c : Int)) :: S.map (tv B)))
  rw [tv_r B c0]
  refine va_lald hb.1 hb.2.1 hK1 hP c 0 he rfl (idx_ok hi h0 h1) hd ?_
  rw [clampI hi, show ((i.toNat : Nat) : Int) = i by omega]
  exact hKK
theorem r_aald {c i len a : Int} {t : Nat} (d : DC Y pc .aaload 1 q) (c0 : 0 ≤ c) (cN : c < N) (hk : (Λ c).1 = t) (ht : t = 3 ∨ t = 4 ∨ t = 5) (hn : (Λ c).2.1 = len) (h0 : 0 ≤ i) (h1 : i < len) (ha : (Λ c).2.2 i = a) (K : WP l Y R X Z k n q L ((2, a) :: S) N Λ σ) : WP l Y R X Z k n pc L ((0, i) :: (2, c) :: S) N Λ σ := by
  intro p e s m args below meth cd B H locs ls hb hX hB hR hS hl hL hs
  obtain ⟨hd, rfl⟩ := d
  obtain ⟨c, rfl⟩ := Int.eq_ofNat_of_zero_le c0
  obtain ⟨len, rfl⟩ := Int.eq_ofNat_of_zero_le (show 0 ≤ len by omega)
  have hi : R32 i := (okh hs).1 rfl
  obtain ⟨D, κ, hP, hK, hz, hm⟩ := id hR
  have hc : c < N := by omega
  have hA := (hK.2.1 c hc (by omega)).1
  have he := hP c _ (wsO_get (B := B) (Λ := Λ) (κ := κ) (σ := σ) hc)
  rw [ent_q hk ht hn] at he
  have hKK := K p e s m args below meth cd B H locs ls hb hX hB hR hS hl hL (oks1 (ok_r a) (okt (okt hs)))
  show W p l e R s m args below meth cd H locs k n _ (F0 m pc ls (.int (Int32.ofInt i) :: tv B (2, (c : Int)) :: S.map (tv B)))
  rw [tv_r B c0]
  have hlt : (Int32.ofInt i).toNatClampNeg < len := by rw [clampI hi]; omega
  rw [hk] at hA
  refine W.aald (v := tv B (2, a)) (ty := arty t) hb.1 hb.2.1 he (hA len (fun j => va_rf (rfO B ((Λ c).2.2 j)))) (by rcases ht with rfl | rfl | rfl <;> rfl) (fun q => by cases q) (by show ¬ (_ ∨ (arrV _ _ _).slots.size ≤ _); rw [arrV_size]; exact idx_ok hi h0 h1) ?_ rfl rfl hd hKK
  show (arrV _ _ _).slots[_]? = _
  rw [arrV_read _ _ hlt, rfO_tv, clampI hi, show ((i.toNat : Nat) : Int) = i by omega, ha]
theorem r_alen {c len : Int} (d : DC Y pc .arraylength 1 q) (c0 : 0 ≤ c) (cN : c < N) (hk : (Λ c).1 < 10) (hn : (Λ c).2.1 = len) (h0 : 0 ≤ len) (h1 : len ≤ 2147483647) (K : WP l Y R X Z k n q L ((0, len) :: S) N Λ σ) : WP l Y R X Z k n pc L ((2, c) :: S) N Λ σ := by
  intro p e s m args below meth cd B H locs ls hb hX hB hR hS hl hL hs
  obtain ⟨hd, rfl⟩ := d
  obtain ⟨c, rfl⟩ := Int.eq_ofNat_of_zero_le c0
  obtain ⟨len, rfl⟩ := Int.eq_ofNat_of_zero_le h0
  obtain ⟨D, κ, hP, hK, hz, hm⟩ := id hR
  have hc : c < N := by omega
  have hK1 := hK.K hc hk
  have he := wsO_get (B := B) (Λ := Λ) (κ := κ) (σ := σ) hc
  have hKK := K p e s m args below meth cd B H locs ls hb hX hB hR hS hl hL (oks1 (ok_i ⟨by omega, by omega⟩) (okt hs))
  show W p l e R s m args below meth cd H locs k n _ (F0 m pc ls (tv B (2, (c : Int)) :: S.map (tv B)))
  rw [tv_r B c0]
  obtain ⟨xx, hx1, hx2⟩ : ∃ x : vp_A, ent B Λ κ σ c = .inl (κ c, x) ∧ x.1 = len := by
    by_cases e1 : (Λ c).1 = 0 ∨ (Λ c).1 = 2 ∨ (Λ c).1 = 6
    · exact ⟨_, ent_i rfl e1 hn, rfl⟩
    · by_cases e2 : (Λ c).1 = 1
      · exact ⟨_, ent_l e2 hn, rfl⟩
      · unfold ent
        rw [if_neg e1, if_neg e2, if_pos hk, hn]
        exact ⟨_, rfl, rfl⟩
  rw [hx1] at he
  refine va_alen hb.1 hb.2.1 hK1 hP c 0 he rfl (v := Int32.ofInt len) ?_ hd hKK
  rw [hx2]
  rfl
end HEAP
