section STORE
variable {l : Launch} {Y : MD} {R : Room} {X : XT} {Z : ZT} {k n pc q : Nat} {L S : List AV} {N : Nat} {Λ : Lay} {σ : Mem}
theorem r_iast {c i x len : Int} (d : DC Y pc .iastore 1 q) (c0 : 0 ≤ c) (cN : c < N) (hk : (Λ c).1 = 0) (hn : (Λ c).2.1 = len) (h0 : 0 ≤ i) (h1 : i < len) (K : WP l Y R X Z k n q L S N Λ (st σ c i x)) : WP l Y R X Z k n pc L ((0, x) :: (0, i) :: (2, c) :: S) N Λ σ := by
  intro p e s m args below meth cd B H locs ls hb hX hB hR hS hl hL hs
  obtain ⟨hd, rfl⟩ := d
  obtain ⟨c, rfl⟩ := Int.eq_ofNat_of_zero_le c0
  obtain ⟨len, rfl⟩ := Int.eq_ofNat_of_zero_le (show 0 ≤ len by omega)
  have hxr : R32 x := (okh hs).1 rfl
  have hi : R32 i := (okh (okt hs)).1 rfl
  obtain ⟨D, κ, hP, hK, hz, hm⟩ := id hR
  have hc : c < N := by omega
  have hA := (hK.2.1 c hc (by rw [hk]; decide)).1
  rw [hk] at hA
  have he := hP c _ (wsO_get (B := B) (Λ := Λ) (κ := κ) (σ := σ) hc)
  rw [ent_i hk (Or.inl rfl) hn] at he
  show W p l e R s m args below meth cd H locs k n _ (F0 m pc ls (.int (Int32.ofInt x) :: .int (Int32.ofInt i) :: tv B (2, (c : Int)) :: S.map (tv B)))
  rw [tv_r B c0]
  refine W.iast hb.1 hb.2.1 he (hA len (fun j => .int (Int32.ofInt (σ c j)))) (fun q => by cases q) (by show ¬ (_ ∨ (arrV _ _ _).slots.size ≤ _); rw [arrV_size]; exact idx_ok hi h0 h1) rfl rfl hd fun H1 e1 z1 oq => ?_
  refine K p e s m args below meth cd B H1 _ ls hb hX hB ⟨D, κ, putP hc hP ?_ oq (fun k _ hne => ⟨rfl, st_ne (by omega)⟩), hK, by rw [z1]; exact hz, okm_st hm (rng_i hk (Or.inl rfl) hxr)⟩ (hS.put z1 oq (Nat.le_add_right B c)) hl hL (okt (okt (okt hs)))
  rw [ent_i hk (Or.inl rfl) hn]
  show H1[B + c]? = some (vp_cell _ _)
  refine Eq.trans e1 ?_
  dsimp only
  rw [vp_cell_i, vp_cell_i, arrV_store]
  congr 2
  funext j
  by_cases hj : j = (Int32.ofInt i).toNatClampNeg
  · have hji : (j : Int) = i := by rw [hj, clampI hi]; omega
    rw [hji, st_eq]
    simp only [updV, hj, if_true]
    try rfl
  · have hji : (j : Int) ≠ i := fun z => hj (by rw [clampI hi]; omega)
    rw [st_nj hji]
    simp only [updV, hj, if_false]
theorem r_zast {c i x len : Int} (d : DC Y pc .bastore 1 q) (c0 : 0 ≤ c) (cN : c < N) (hk : (Λ c).1 = 2) (hn : (Λ c).2.1 = len) (h0 : 0 ≤ i) (h1 : i < len) (hx : x = 0 ∨ x = 1) (K : WP l Y R X Z k n q L S N Λ (st σ c i x)) : WP l Y R X Z k n pc L ((0, x) :: (0, i) :: (2, c) :: S) N Λ σ := by
  intro p e s m args below meth cd B H locs ls hb hX hB hR hS hl hL hs
  obtain ⟨hd, rfl⟩ := d
  obtain ⟨c, rfl⟩ := Int.eq_ofNat_of_zero_le c0
  obtain ⟨len, rfl⟩ := Int.eq_ofNat_of_zero_le (show 0 ≤ len by omega)
  have hxr : R32 x := (okh hs).1 rfl
  have hi : R32 i := (okh (okt hs)).1 rfl
  obtain ⟨D, κ, hP, hK, hz, hm⟩ := id hR
  have hc : c < N := by omega
  have hA := (hK.2.1 c hc (by rw [hk]; decide)).1
  rw [hk] at hA
  have he := hP c _ (wsO_get (B := B) (Λ := Λ) (κ := κ) (σ := σ) hc)
  rw [ent_i hk (Or.inr (Or.inl rfl)) hn] at he
  show W p l e R s m args below meth cd H locs k n _ (F0 m pc ls (.int (Int32.ofInt x) :: .int (Int32.ofInt i) :: tv B (2, (c : Int)) :: S.map (tv B)))
  rw [tv_r B c0]
  refine W.zast hb.1 hb.2.1 he (hA len (fun j => .int (Int32.ofInt (σ c j)))) (fun q => by cases q) (by show ¬ (_ ∨ (arrV _ _ _).slots.size ≤ _); rw [arrV_size]; exact idx_ok hi h0 h1) rfl rfl hd fun H1 e1 z1 oq => ?_
  refine K p e s m args below meth cd B H1 _ ls hb hX hB ⟨D, κ, putP hc hP ?_ oq (fun k _ hne => ⟨rfl, st_ne (by omega)⟩), hK, by rw [z1]; exact hz, okm_st hm (rng_i hk (Or.inr (Or.inl rfl)) hxr)⟩ (hS.put z1 oq (Nat.le_add_right B c)) hl hL (okt (okt (okt hs)))
  rw [ent_i hk (Or.inr (Or.inl rfl)) hn]
  show H1[B + c]? = some (vp_cell _ _)
  refine Eq.trans e1 ?_
  dsimp only
  rw [vp_cell_i, vp_cell_i, arrV_store]
  congr 2
  funext j
  by_cases hj : j = (Int32.ofInt i).toNatClampNeg
  · have hji : (j : Int) = i := by rw [hj, clampI hi]; omega
    rw [hji, st_eq]
    simp only [updV, hj, if_true]
    rcases hx with rfl | rfl <;> rfl
  · have hji : (j : Int) ≠ i := fun z => hj (by rw [clampI hi]; omega)
    rw [st_nj hji]
    simp only [updV, hj, if_false]
theorem r_bast {c i x len : Int} (d : DC Y pc .bastore 1 q) (c0 : 0 ≤ c) (cN : c < N) (hk : (Λ c).1 = 6) (hn : (Λ c).2.1 = len) (h0 : 0 ≤ i) (h1 : i < len) (hx : narrow .byte (.int (Int32.ofInt x)) = .int (Int32.ofInt x)) (K : WP l Y R X Z k n q L S N Λ (st σ c i x)) : WP l Y R X Z k n pc L ((0, x) :: (0, i) :: (2, c) :: S) N Λ σ := by
  intro p e s m args below meth cd B H locs ls hb hX hB hR hS hl hL hs
  obtain ⟨hd, rfl⟩ := d
  obtain ⟨c, rfl⟩ := Int.eq_ofNat_of_zero_le c0
  obtain ⟨len, rfl⟩ := Int.eq_ofNat_of_zero_le (show 0 ≤ len by omega)
  have hxr : R32 x := (okh hs).1 rfl
  have hi : R32 i := (okh (okt hs)).1 rfl
  obtain ⟨D, κ, hP, hK, hz, hm⟩ := id hR
  have hc : c < N := by omega
  have hA := (hK.2.1 c hc (by rw [hk]; decide)).1
  rw [hk] at hA
  have he := hP c _ (wsO_get (B := B) (Λ := Λ) (κ := κ) (σ := σ) hc)
  rw [ent_i hk (Or.inr (Or.inr rfl)) hn] at he
  show W p l e R s m args below meth cd H locs k n _ (F0 m pc ls (.int (Int32.ofInt x) :: .int (Int32.ofInt i) :: tv B (2, (c : Int)) :: S.map (tv B)))
  rw [tv_r B c0]
  refine W.bast hb.1 hb.2.1 he (hA len (fun j => .int (Int32.ofInt (σ c j)))) (fun q => by cases q) (by show ¬ (_ ∨ (arrV _ _ _).slots.size ≤ _); rw [arrV_size]; exact idx_ok hi h0 h1) rfl rfl hd fun H1 e1 z1 oq => ?_
  refine K p e s m args below meth cd B H1 _ ls hb hX hB ⟨D, κ, putP hc hP ?_ oq (fun k _ hne => ⟨rfl, st_ne (by omega)⟩), hK, by rw [z1]; exact hz, okm_st hm (rng_i hk (Or.inr (Or.inr rfl)) hxr)⟩ (hS.put z1 oq (Nat.le_add_right B c)) hl hL (okt (okt (okt hs)))
  rw [ent_i hk (Or.inr (Or.inr rfl)) hn]
  show H1[B + c]? = some (vp_cell _ _)
  refine Eq.trans e1 ?_
  dsimp only
  rw [vp_cell_i, vp_cell_i, arrV_store]
  congr 2
  funext j
  by_cases hj : j = (Int32.ofInt i).toNatClampNeg
  · have hji : (j : Int) = i := by rw [hj, clampI hi]; omega
    rw [hji, st_eq]
    simp only [updV, hj, if_true]
    exact hx
  · have hji : (j : Int) ≠ i := fun z => hj (by rw [clampI hi]; omega)
    rw [st_nj hji]
    simp only [updV, hj, if_false]
theorem r_last {c i x len : Int} (d : DC Y pc .lastore 1 q) (c0 : 0 ≤ c) (cN : c < N) (hk : (Λ c).1 = 1) (hn : (Λ c).2.1 = len) (h0 : 0 ≤ i) (h1 : i < len) (K : WP l Y R X Z k n q L S N Λ (st σ c i x)) : WP l Y R X Z k n pc L ((1, x) :: (0, i) :: (2, c) :: S) N Λ σ := by
  intro p e s m args below meth cd B H locs ls hb hX hB hR hS hl hL hs
  obtain ⟨hd, rfl⟩ := d
  obtain ⟨c, rfl⟩ := Int.eq_ofNat_of_zero_le c0
  obtain ⟨len, rfl⟩ := Int.eq_ofNat_of_zero_le (show 0 ≤ len by omega)
  have hxr : R64 x := (okh hs).2 rfl
  have hi : R32 i := (okh (okt hs)).1 rfl
  obtain ⟨D, κ, hP, hK, hz, hm⟩ := id hR
  have hc : c < N := by omega
  have hA := (hK.2.1 c hc (by rw [hk]; decide)).1
  rw [hk] at hA
  have he := hP c _ (wsO_get (B := B) (Λ := Λ) (κ := κ) (σ := σ) hc)
  rw [ent_l hk hn] at he
  show W p l e R s m args below meth cd H locs k n _ (F0 m pc ls (.long (Int64.ofInt x) :: .int (Int32.ofInt i) :: tv B (2, (c : Int)) :: S.map (tv B)))
  rw [tv_r B c0]
  refine W.last hb.1 hb.2.1 he (hA len (fun j => .long (Int64.ofInt (σ c j)))) (fun q => by cases q) (by show ¬ (_ ∨ (arrV _ _ _).slots.size ≤ _); rw [arrV_size]; exact idx_ok hi h0 h1) rfl rfl hd fun H1 e1 z1 oq => ?_
  refine K p e s m args below meth cd B H1 _ ls hb hX hB ⟨D, κ, putP hc hP ?_ oq (fun k _ hne => ⟨rfl, st_ne (by omega)⟩), hK, by rw [z1]; exact hz, okm_st hm (rng_l hk hxr)⟩ (hS.put z1 oq (Nat.le_add_right B c)) hl hL (okt (okt (okt hs)))
  rw [ent_l hk hn]
  show H1[B + c]? = some (vp_cell _ _)
  refine Eq.trans e1 ?_
  dsimp only
  rw [vp_cell_l, vp_cell_l, arrV_store]
  congr 2
  funext j
  by_cases hj : j = (Int32.ofInt i).toNatClampNeg
  · have hji : (j : Int) = i := by rw [hj, clampI hi]; omega
    rw [hji, st_eq]
    simp only [updV, hj, if_true]
  · have hji : (j : Int) ≠ i := fun z => hj (by rw [clampI hi]; omega)
    rw [st_nj hji]
    simp only [updV, hj, if_false]
/-- a field is read -/
theorem r_getf {c x : Int} {ci j nf idx t : Nat} {C : String} {T : u_T} (d : DC Y pc (.getfield idx) 3 q) (hc : CLS ci C T nf) (hj : j < nf) (hfl : Cond.fieldLink (mN Y).cls idx (T j).1 (T j).2.1 (T j).2.2.1 ∈ lw_g) (c0 : 0 ≤ c) (cN : c < N) (hk : (Λ c).1 = ci + 10) (hn : (Λ c).2.1 = nf) (ht : fld ci j = t) (hx : fv t Λ σ c j = x) (K : WP l Y R X Z k n q L ((t, x) :: S) N Λ σ) : WP l Y R X Z k n pc L ((2, c) :: S) N Λ σ := by
  intro p e s m args below meth cd B H locs ls hb hX hB hR hS hl hL hs
  obtain ⟨hd, rfl⟩ := d
  obtain ⟨c, rfl⟩ := Int.eq_ofNat_of_zero_le c0
  obtain ⟨D, κ, hP, hK, hz, hm⟩ := id hR
  have hcN : c < N := by omega
  have he := wsO_get (B := B) (Λ := Λ) (κ := κ) (σ := σ) hcN
  rw [ent_o hk hn] at he
  have hv : okv (t, x) := by
    have hr := hm c j (by omega) (by omega) (by omega) (by rw [hn]; omega)
    rw [hk, show ci + 10 - 10 = ci by omega, show (j : Int).toNat = j from rfl, ht] at hr
    refine ⟨fun h => ?_, fun h => ?_⟩
    · have h : t = 0 := h
      subst h
      rw [← hx]
      exact hr.2.2.1 (by omega) rfl
    · have h : t = 1 := h
      subst h
      rw [← hx]
      exact hr.2.2.2 (by omega) rfl
  have hKK := K p e s m args below meth cd B H locs ls hb hX hB hR hS hl hL (oks1 hv (okt hs))
  show W p l e R s m args below meth cd H locs k n _ (F0 m pc ls (tv B (2, (c : Int)) :: S.map (tv B)))
  rw [tv_r B c0]
  refine va_get hb.1 hb.2.1 hb.2.2.2.2.1 hc.2.1 hb.2.2.2.1 hK.K0 hP c he hc.1 j hj (hb.2.2.2.2.1 _ hfl) (fun _ h => h) (v := tv B (t, x)) ?_ hd hKK
  rw [List.getElem?_map, List.getElem?_range hj]
  rw [← hx, ← ht]
  rfl
theorem flds_set {B : Nat} {Λ Λ' : Lay} {σ σ' : Mem} {c ci nf j : Nat} {v : AV} (hj : j < nf) (hv : tv B (fld ci j, fv (fld ci j) Λ' σ' c j) = tv B v) (ho : ∀ i : Nat, i < nf → i ≠ j → fv (fld ci i) Λ' σ' c i = fv (fld ci i) Λ σ c i) :
    (List.range nf).map (fun i : Nat => tv B (fld ci i, fv (fld ci i) Λ' σ' c i)) = ((List.range nf).map (fun i : Nat => tv B (fld ci i, fv (fld ci i) Λ σ c i))).set j (tv B v) := by
  apply List.ext_getElem?
  intro i
  by_cases hi : i < nf
  · by_cases e : i = j
    · subst e
      rw [List.getElem?_set_self (by simpa using hi), List.getElem?_map, List.getElem?_range hi, ← hv]
      rfl
    · rw [List.getElem?_set_ne (Ne.symm e), List.getElem?_map, List.getElem?_map, List.getElem?_range hi]
      simp only [Option.map_some]
      rw [ho i hi e]
  · rw [List.getElem?_eq_none (by simp; omega), List.getElem?_eq_none (by simp; omega)]
/-- a number is put into a field -/
theorem r_putI {c x : Int} {ci j nf idx : Nat} {C : String} {T : u_T} (d : DC Y pc (.putfield idx) 3 q) (hc : CLS ci C T nf) (hj : j < nf) (hfl : Cond.fieldLink (mN Y).cls idx (T j).1 (T j).2.1 (T j).2.2.1 ∈ lw_g) (hfin : (T j).2.2.2 = false) (c0 : 0 ≤ c) (cN : c < N) (hk : (Λ c).1 = ci + 10) (hn : (Λ c).2.1 = nf) (hty : tyC ci j = .int) (K : WP l Y R X Z k n q L S N Λ (st σ c j x)) : WP l Y R X Z k n pc L ((0, x) :: (2, c) :: S) N Λ σ := by
  intro p e s m args below meth cd B H locs ls hb hX hB hR hS hl hL hs
  obtain ⟨hd, rfl⟩ := d
  obtain ⟨c, rfl⟩ := Int.eq_ofNat_of_zero_le c0
  obtain ⟨D, κ, hP, hK, hz, hm⟩ := id hR
  have hcN : c < N := by omega
  have ht : fld ci j = 0 := by unfold fld; rw [hty]
  have hxr : R32 x := (okh hs).1 rfl
  have he := wsO_get (B := B) (Λ := Λ) (κ := κ) (σ := σ) hcN
  rw [ent_o hk hn] at he
  show W p l e R s m args below meth cd H locs k n _ (F0 m pc ls (.int (Int32.ofInt x) :: tv B (2, (c : Int)) :: S.map (tv B)))
  rw [tv_r B c0]
  have hts := hb.2.2.2.2.1
  have hap := va_apart (own := (mN Y).cls) hts hc.2.1 (tyC ci) hc.2.2.1 hc.2.2.2 hK.K0 hc.1
  obtain ⟨r, h1, cell, q1, q2, q3, q4⟩ := hP c _ he
  have hr : r = (C, T, nf) := Option.some.inj (h1.symm.trans hc.1)
  subst hr
  obtain ⟨hSl, hfc, kC, hkC, hkind⟩ := hK.1 ci _ hc.1
  obtain ⟨cf, kf, fi, f, hi, hsl⟩ := hSl j hj
  have hlay := hts _ (hc.2.1 _ (u_in_lay hj))
  unfold u_lay at hlay
  rw [if_neg (by rw [hfin]; decide)] at hlay
  have hst := (u_facts hfc hkC (u_lays hts hc.2.1 hj) hi).1
  have h6 := u_store (v := .int (Int32.ofInt x)) hfc hkC hkind hlay hi (hc.2.2.1 j hj) (by rw [hty]; rfl) (by rw [hty]; rfl)
  refine W.putK hb.1 hb.2.1 (f := f) ⟨hb.2.2.2.1, hts _ hfl, ⟨_, _, _, hi⟩, hst⟩ (by rw [q2]; exact h6) q1 q3 (by rw [hsl]; exact k2_hasslot (q4 j hj)) rfl rfl hd fun H1 e1 e2 e3 => ?_
  rw [hsl] at e1
  refine K p e s m args below meth cd B H1 _ ls hb hX hB ⟨D, κ, putP hcN hP ?_ e3 (fun k _ hne => ⟨rfl, st_ne (by omega)⟩), hK, by rw [e2]; exact hz, okm_st hm ?_⟩ (hS.put e2 e3 (Nat.le_add_right B c)) hl hL (okt (okt hs))
  · rw [ent_o hk hn, flds_set (Λ := Λ) (σ := σ) (v := (0, x)) hj (by rw [ht]; show tv B (0, st σ c j x c j) = _; rw [st_eq]) (fun i _ hne => ?_)]
    · exact ⟨_, hc.1, t_OB.to (V := updV (vp_V _) j _) ⟨_, e1, q2, q3, t_set q4 hap hj _⟩ (fun i _ => vp_updV_set (by simpa using hj) _ i)⟩
    · unfold fv
      split
      · rfl
      · exact st_nj (by omega)
  · unfold rng
    rw [hk, show ci + 10 - 10 = ci by omega, show (j : Int).toNat = j from rfl, ht]
    refine ⟨fun h => by omega, fun h => by omega, fun _ h => ?_, fun _ h => ?_⟩
    · first | exact hxr | cases h
    · first | exact hxr | cases h
/-- a number is put into a field -/
theorem r_putL {c x : Int} {ci j nf idx : Nat} {C : String} {T : u_T} (d : DC Y pc (.putfield idx) 3 q) (hc : CLS ci C T nf) (hj : j < nf) (hfl : Cond.fieldLink (mN Y).cls idx (T j).1 (T j).2.1 (T j).2.2.1 ∈ lw_g) (hfin : (T j).2.2.2 = false) (c0 : 0 ≤ c) (cN : c < N) (hk : (Λ c).1 = ci + 10) (hn : (Λ c).2.1 = nf) (hty : tyC ci j = .long) (K : WP l Y R X Z k n q L S N Λ (st σ c j x)) : WP l Y R X Z k n pc L ((1, x) :: (2, c) :: S) N Λ σ := by
  intro p e s m args below meth cd B H locs ls hb hX hB hR hS hl hL hs
  obtain ⟨hd, rfl⟩ := d
  obtain ⟨c, rfl⟩ := Int.eq_ofNat_of_zero_le c0
  obtain ⟨D, κ, hP, hK, hz, hm⟩ := id hR
  have hcN : c < N := by omega
  have ht : fld ci j = 1 := by unfold fld; rw [hty]
  have hxr : R64 x := (okh hs).2 rfl
  have he := wsO_get (B := B) (Λ := Λ) (κ := κ) (σ := σ) hcN
  rw [ent_o hk hn] at he
  show W p l e R s m args below meth cd H locs k n _ (F0 m pc ls (.long (Int64.ofInt x) :: tv B (2, (c : Int)) :: S.map (tv B)))
  rw [tv_r B c0]
  have hts := hb.2.2.2.2.1
  have hap := va_apart (own := (mN Y).cls) hts hc.2.1 (tyC ci) hc.2.2.1 hc.2.2.2 hK.K0 hc.1
  obtain ⟨r, h1, cell, q1, q2, q3, q4⟩ := hP c _ he
  have hr : r = (C, T, nf) := Option.some.inj (h1.symm.trans hc.1)
  subst hr
  obtain ⟨hSl, hfc, kC, hkC, hkind⟩ := hK.1 ci _ hc.1
  obtain ⟨cf, kf, fi, f, hi, hsl⟩ := hSl j hj
  have hlay := hts _ (hc.2.1 _ (u_in_lay hj))
  unfold u_lay at hlay
  rw [if_neg (by rw [hfin]; decide)] at hlay
  have hst := (u_facts hfc hkC (u_lays hts hc.2.1 hj) hi).1
  have h6 := u_store (v := .long (Int64.ofInt x)) hfc hkC hkind hlay hi (hc.2.2.1 j hj) (by rw [hty]; rfl) (by rw [hty]; rfl)
  refine W.putK hb.1 hb.2.1 (f := f) ⟨hb.2.2.2.1, hts _ hfl, ⟨_, _, _, hi⟩, hst⟩ (by rw [q2]; exact h6) q1 q3 (by rw [hsl]; exact k2_hasslot (q4 j hj)) rfl rfl hd fun H1 e1 e2 e3 => ?_
  rw [hsl] at e1
  refine K p e s m args below meth cd B H1 _ ls hb hX hB ⟨D, κ, putP hcN hP ?_ e3 (fun k _ hne => ⟨rfl, st_ne (by omega)⟩), hK, by rw [e2]; exact hz, okm_st hm ?_⟩ (hS.put e2 e3 (Nat.le_add_right B c)) hl hL (okt (okt hs))
  · rw [ent_o hk hn, flds_set (Λ := Λ) (σ := σ) (v := (1, x)) hj (by rw [ht]; show tv B (1, st σ c j x c j) = _; rw [st_eq]) (fun i _ hne => ?_)]
    · exact ⟨_, hc.1, t_OB.to (V := updV (vp_V _) j _) ⟨_, e1, q2, q3, t_set q4 hap hj _⟩ (fun i _ => vp_updV_set (by simpa using hj) _ i)⟩
    · unfold fv
      split
      · rfl
      · exact st_nj (by omega)
  · unfold rng
    rw [hk, show ci + 10 - 10 = ci by omega, show (j : Int).toNat = j from rfl, ht]
    refine ⟨fun h => by omega, fun h => by omega, fun _ h => ?_, fun _ h => ?_⟩
    · first | exact hxr | cases h
    · first | exact hxr | cases h
/-- a reference is put into a final field, in a constructor -/
theorem r_putR {c a : Int} {ci j nf idx : Nat} {C : String} {T : u_T} (d : DC Y pc (.putfield idx) 3 q) (hin : (mN Y).name = "<init>") (hc : CLS ci C T nf) (hj : j < nf) (hfl : Cond.fieldLink (mN Y).cls idx (T j).1 (T j).2.1 (T j).2.2.1 ∈ lw_g) (hfin : (T j).2.2.2 = true) (hdecl : (T j).1 = (mN Y).cls) (c0 : 0 ≤ c) (cN : c < N) (a0 : 0 ≤ a) (hk : (Λ c).1 = ci + 10) (hn : (Λ c).2.1 = nf) (ht : fld ci j = 2) (hty : narrow (tyC ci j) (.ref 0) = .ref 0 ∧ ∀ z : Nat, narrow (tyC ci j) (.ref z) = .ref z ∧ fits (tyC ci j) (.ref z) = true) (K : WP l Y R X Z k n q L S N (stR Λ c j a) σ) : WP l Y R X Z k n pc L ((2, a) :: (2, c) :: S) N Λ σ := by
  intro p e s m args below meth cd B H locs ls hb hX hB hR hS hl hL hs
  obtain ⟨hd, rfl⟩ := d
  obtain ⟨c, rfl⟩ := Int.eq_ofNat_of_zero_le c0
  obtain ⟨D, κ, hP, hK, hz, hm⟩ := id hR
  have hcN : c < N := by omega
  have he := wsO_get (B := B) (Λ := Λ) (κ := κ) (σ := σ) hcN
  rw [ent_o hk hn] at he
  show W p l e R s m args below meth cd H locs k n _ (F0 m pc ls (tv B (2, a) :: tv B (2, (c : Int)) :: S.map (tv B)))
  rw [tv_r B c0, tv_r B a0]
  have hts := hb.2.2.2.2.1
  have hap := va_apart (own := (mN Y).cls) hts hc.2.1 (tyC ci) hc.2.2.1 hc.2.2.2 hK.K0 hc.1
  obtain ⟨r, h1, cell, q1, q2, q3, q4⟩ := hP c _ he
  have hr : r = (C, T, nf) := Option.some.inj (h1.symm.trans hc.1)
  subst hr
  obtain ⟨hSl, hfc, kC, hkC, hkind⟩ := hK.1 ci _ hc.1
  obtain ⟨cf, kf, fi, f, hi, hsl⟩ := hSl j hj
  have hlay := hts _ (hc.2.1 _ (u_in_lay hj))
  unfold u_lay at hlay
  rw [if_pos hfin] at hlay
  have hst := (u_facts hfc hkC (u_lays hts hc.2.1 hj) hi).1
  have hcf : m.cls = cf := by
    obtain ⟨_, _, c', _, _, _, -, -, hf', -, -, -, hown2, -⟩ := Cond.laysFinal_spec hlay
    have e1 : c' = cf := by have := hi.symm.trans hf'; simp at this; exact this.1.symm
    rw [hdecl] at hown2
    rw [← e1]; exact Option.some.inj (hb.2.2.2.1.symm.trans hown2)
  have h6 := u_fits (v := .ref (B + a.toNat)) hfc hkC hkind (Or.inr hlay) hi (hc.2.2.1 j hj) (hty.2 _).1 (hty.2 _).2
  refine W.putFinK hb.1 hb.2.1 hb.2.2.2.1 (hts _ hfl) hi hst hcf (hb.2.2.2.2.2.2.2.trans hin) (by rw [q2]; exact h6) q1 q3 (by rw [hsl]; exact k2_hasslot (q4 j hj)) rfl rfl hd fun H1 e1 e2 e3 => ?_
  rw [hsl] at e1
  refine K p e s m args below meth cd B H1 _ ls hb hX hB ⟨D, κ, putP hcN hP ?_ e3 (fun k _ hne => ⟨stR_ne (by omega), rfl⟩), hK.lay (fun c' _ => stR_k.1), by rw [e2]; exact hz, okm_lay hm (fun c' => stR_k)⟩ (hS.put e2 e3 (Nat.le_add_right B c)) hl hL (okt (okt hs))
  rw [ent_o (stR_k.1.trans hk) (stR_k.2.trans hn), flds_set (Λ := Λ) (σ := σ) (v := (2, a)) hj (by rw [ht]; show tv B (2, (stR Λ c j a c).2.2 j) = _; rw [stR_r, if_pos rfl]) (fun i _ hne => ?_), tv_r B a0]
  · exact ⟨_, hc.1, t_OB.to (V := updV (vp_V _) j _) ⟨_, e1, q2, q3, t_set q4 hap hj _⟩ (fun i _ => vp_updV_set (by simpa using hj) _ i)⟩
  · unfold fv
    split
    · rw [stR_r, if_neg (by omega)]
    · rfl
end STORE
