theorem Ob_new {N t t' : Nat} {Λ Λ1 : Lay} {c len len' : Int} (e : Λ1 = newL Λ N t' len') (h : Ob N Λ c t len) : Ob (N + 1) Λ1 c t len := by
  obtain ⟨h1, h2, h3, h4⟩ := h
  subst e
  exact ⟨h1, by omega, by rw [newL_ne (by omega)]; exact h3, by rw [newL_ne (by omega)]; exact h4⟩
theorem Ob_newS {N t : Nat} {Λ Λ1 : Lay} {a len : Int} (e : Λ1 = newL Λ N t len) (ha : a = (N : Int)) : Ob (N + 1) Λ1 a t len := by
  subst e
  subst ha
  exact ⟨by omega, by omega, by rw [newL_eq], by rw [newL_eq]⟩
theorem Ob_stR {N t : Nat} {Λ Λ1 : Lay} {c len c' j a : Int} (e : Λ1 = stR Λ c' j a) (h : Ob N Λ c t len) : Ob N Λ1 c t len := by
  subst e
  exact ⟨h.1, h.2.1, stR_k.1.trans h.2.2.1, stR_k.2.trans h.2.2.2⟩
section CTOR
variable {l : Launch} {Y Y2 : MD} {X : XT} {Z : ZT} {pc q d idx ci nf k n mc ms mc2 ms2 : Nat} {L S S0 As : List AV} {N : Nat} {Λ : Lay} {σ : Mem} {T : u_T} {c : Int}
theorem rmk {m : Nat} (h : 1 ≤ d) (hm : m ≤ 45) : d - 1 + 1 ≤ (rm d mc ms).frames ∧ 8 + (m + 11) + 64 * (d - 1) ≤ (rm d mc ms).locals := by
  refine ⟨?_, ?_⟩
  · show d - 1 + 1 ≤ d
    omega
  · show 8 + (m + 11) + 64 * (d - 1) ≤ 64 * d
    omega
theorem y_callVI (dd : DC Y pc (.invokevirtual idx) 3 q) (ok : okV Y2) (hl2 : Cond.methodLink (mN Y).cls idx (mN Y2) ∈ lw_g) (hA : As.length = mA Y2) (hm : mL Y2 ≤ 45) (h8 : (S.map cat).sum ≤ 8) (hS0 : S0 = As.reverse ++ (2, c) :: S) (hd : 1 ≤ d) (hkn : k ≤ mc ∧ n ≤ ms) (hc : CLS ci (mN Y2).cls T nf) (ho : Ob N Λ c (ci + 10) nf) (h : CI l Y2 (d - 1) ((2, c) :: As) N Λ σ (fun v σ' => WP l Y (rm d mc ms) X Z k n q L ((0, v) :: S) N Λ σ')) : WP l Y (rm d mc ms) X Z k n pc L S0 N Λ σ :=
  r_callV (mc := 0) (ms := 0) dd ok hl2 hA (rmk hd hm) hkn h8 hS0 hc ho.1 ho.2.1 ho.2.2.1 ho.2.2.2 (MC.mono h fun r N' Λ' σ' hq => by obtain ⟨v, rfl, rfl, rfl, h⟩ := hq; exact h)
theorem y_callVV (dd : DC Y pc (.invokevirtual idx) 3 q) (ok : okV Y2) (hl2 : Cond.methodLink (mN Y).cls idx (mN Y2) ∈ lw_g) (hA : As.length = mA Y2) (hm : mL Y2 ≤ 45) (h8 : (S.map cat).sum ≤ 8) (hS0 : S0 = As.reverse ++ (2, c) :: S) (hd : 1 ≤ d) (hkn : k ≤ mc ∧ n ≤ ms) (hc : CLS ci (mN Y2).cls T nf) (ho : Ob N Λ c (ci + 10) nf) (h : CV l Y2 (d - 1) ((2, c) :: As) N Λ σ (fun σ' => WP l Y (rm d mc ms) X Z k n q L S N Λ σ')) : WP l Y (rm d mc ms) X Z k n pc L S0 N Λ σ :=
  r_callV (mc := 0) (ms := 0) dd ok hl2 hA (rmk hd hm) hkn h8 hS0 hc ho.1 ho.2.1 ho.2.2.1 ho.2.2.2 (MC.mono h fun r N' Λ' σ' hq => by obtain ⟨rfl, rfl, rfl, h⟩ := hq; exact h)
theorem y_callSI (dd : DC Y pc (.invokestatic idx) 3 q) (ok : okS Y2) (hl2 : Cond.methodLink (mN Y).cls idx (mN Y2) ∈ lw_g) (hA : As.length = mA Y2) (hm : mL Y2 ≤ 45) (h8 : (S.map cat).sum ≤ 8) (hS0 : S0 = As.reverse ++ S) (hd : 1 ≤ d) (hkn : k ≤ mc ∧ n ≤ ms) (h : CI l Y2 (d - 1) As N Λ σ (fun v σ' => WP l Y (rm d mc ms) X Z k n q L ((0, v) :: S) N Λ σ')) : WP l Y (rm d mc ms) X Z k n pc L S0 N Λ σ :=
  r_callS (mc := 0) (ms := 0) dd ok hl2 hA (rmk hd hm) hkn h8 hS0 (MC.mono h fun r N' Λ' σ' hq => by obtain ⟨v, rfl, rfl, rfl, h⟩ := hq; exact h)
theorem y_callSL (dd : DC Y pc (.invokestatic idx) 3 q) (ok : okS Y2) (hl2 : Cond.methodLink (mN Y).cls idx (mN Y2) ∈ lw_g) (hA : As.length = mA Y2) (hm : mL Y2 ≤ 45) (h8 : (S.map cat).sum ≤ 8) (hS0 : S0 = As.reverse ++ S) (hd : 1 ≤ d) (hkn : k ≤ mc ∧ n ≤ ms) (h : CL l Y2 (d - 1) As N Λ σ (fun v σ' => WP l Y (rm d mc ms) X Z k n q L ((1, v) :: S) N Λ σ')) : WP l Y (rm d mc ms) X Z k n pc L S0 N Λ σ :=
  r_callS (mc := 0) (ms := 0) dd ok hl2 hA (rmk hd hm) hkn h8 hS0 (MC.mono h fun r N' Λ' σ' hq => by obtain ⟨v, rfl, rfl, rfl, h⟩ := hq; exact h)
theorem y_callSV (dd : DC Y pc (.invokestatic idx) 3 q) (ok : okS Y2) (hl2 : Cond.methodLink (mN Y).cls idx (mN Y2) ∈ lw_g) (hA : As.length = mA Y2) (hm : mL Y2 ≤ 45) (h8 : (S.map cat).sum ≤ 8) (hS0 : S0 = As.reverse ++ S) (hd : 1 ≤ d) (hkn : k ≤ mc ∧ n ≤ ms) (h : CV l Y2 (d - 1) As N Λ σ (fun σ' => WP l Y (rm d mc ms) X Z k n q L S N Λ σ')) : WP l Y (rm d mc ms) X Z k n pc L S0 N Λ σ :=
  r_callS (mc := 0) (ms := 0) dd ok hl2 hA (rmk hd hm) hkn h8 hS0 (MC.mono h fun r N' Λ' σ' hq => by obtain ⟨rfl, rfl, rfl, h⟩ := hq; exact h)
/-- a constructor's contract: mc2 cells of ms2 places are made -/
def CC (l : Launch) (Y : MD) (d mc ms : Nat) (As : List AV) (N : Nat) (Λ : Lay) (σ : Mem) (P : Nat → Lay → Mem → Prop) : Prop := MC l Y d mc ms As N Λ σ (fun r N' Λ' σ' => r = [] ∧ P N' Λ' σ')
theorem CC.mono {P P' : Nat → Lay → Mem → Prop} (h : CC l Y d mc ms As N Λ σ P) (hp : ∀ N' Λ' σ', P N' Λ' σ' → P' N' Λ' σ') : CC l Y d mc ms As N Λ σ P' := MC.mono h fun r N' Λ' σ' hq => ⟨hq.1, hp _ _ _ hq.2⟩
theorem y_init (dd : DC Y pc (.invokespecial idx) 3 q) (ok : okI Y2) (hret : mR Y2 = none) (hl2 : Cond.methodLink (mN Y).cls idx (mN Y2) ∈ lw_g) (hA : As.length = mA Y2) (hm : mL Y2 ≤ 45) (h8 : (S.map cat).sum ≤ 8) (hS0 : S0 = As.reverse ++ (2, c) :: S) (c0 : 0 ≤ c) (hd : 1 ≤ d) (hkn : k + mc2 ≤ mc ∧ n + ms2 ≤ ms) (h : CC l Y2 (d - 1) mc2 ms2 ((2, c) :: As) N Λ σ (fun N' Λ' σ' => WP l Y (rm d mc ms) X Z (k + mc2) (n + ms2) q L S N' Λ' σ')) : WP l Y (rm d mc ms) X Z k n pc L S0 N Λ σ :=
  r_callI dd ok hret hl2 hA (rmk hd hm) hkn h8 hS0 c0 (MC.mono h fun r N' Λ' σ' hq => by obtain ⟨rfl, h⟩ := hq; exact h)
theorem y_obj (dd : DC Y pc (.invokespecial idx) 3 q) (hl2 : Cond.methodLink (mN Y).cls idx objectInit ∈ lw_g) (c0 : 0 ≤ c) (hd : 1 ≤ d) (h8 : (S.map cat).sum ≤ 8) (K : WP l Y (rm d mc ms) X Z k n q L S N Λ σ) : WP l Y (rm d mc ms) X Z k n pc L ((2, c) :: S) N Λ σ :=
  r_obj dd hl2 c0 ⟨hd, by show 20 ≤ 64 * d; omega⟩ h8 K
theorem y_vret {P : Nat → Lay → Mem → Prop} (dd : DC Y pc .return_ 1 q) (hr : mR Y = none) (hkn : k ≤ mc ∧ n ≤ ms) (h : P N Λ σ) : WP l Y (rm d mc ms) X (ZQ mc ms (fun r N' Λ' σ' => r = [] ∧ P N' Λ' σ')) k n pc L [] N Λ σ := r_vret dd hr hkn.1 hkn.2 ⟨rfl, h⟩
theorem y_nmL (K : ∀ Λ1 : Lay, Λ1 = Λ → WP l Y (rm d mc ms) X Z k n pc L S N Λ1 σ) : WP l Y (rm d mc ms) X Z k n pc L S N Λ σ := K Λ rfl
theorem CC.of {m : Nat} {As L0 : List AV} {P : Nat → Lay → Mem → Prop} (hy : okI Y) (hL : (eL As).length ≤ mL Y) (hL0 : L0 = eL As ++ List.replicate m (3, 0)) (h : WP l Y (rm d mc ms) noX (ZQ mc ms (fun r N' Λ' σ' => r = [] ∧ P N' Λ' σ')) 0 0 0 L0 [] N Λ σ) : CC l Y d mc ms As N Λ σ P := MC.ofN hy.1 hL hL0 h
/-- a reference is put into an array of references -/
theorem r_aast {i len a : Int} {t ci2 nf2 : Nat} {C2 : String} {T2 : u_T} (dd : DC Y pc .aastore 1 q) (hc2 : CLS ci2 C2 T2 nf2) (ht : (t = 3 ∧ C2 = "BracketDesk$Poly") ∨ (t = 4 ∧ C2 = "BracketDesk$State")) (ho : Ob N Λ c t len) (h0 : 0 ≤ i) (h1 : i < len) (hoa : Ob N Λ a (ci2 + 10) nf2) (K : WP l Y (rm d mc ms) X Z k n q L S N (stR Λ c i a) σ) : WP l Y (rm d mc ms) X Z k n pc L ((2, a) :: (0, i) :: (2, c) :: S) N Λ σ := by
  intro p e s m args below meth cd B H locs ls hb hX hB hR hS hl hL hs
  obtain ⟨hd, rfl⟩ := dd
  obtain ⟨c0, cN, hk, hn⟩ := ho
  obtain ⟨a0, aN, hka, hna⟩ := hoa
  obtain ⟨c, rfl⟩ := Int.eq_ofNat_of_zero_le c0
  obtain ⟨a, rfl⟩ := Int.eq_ofNat_of_zero_le a0
  obtain ⟨len, rfl⟩ := Int.eq_ofNat_of_zero_le (show 0 ≤ len by omega)
  have hi : R32 i := (okh (okt hs)).1 rfl
  obtain ⟨D, κ, hP, hK, hz, hm⟩ := id hR
  have hc : c < N := by omega
  have haN : a < N := by omega
  have ht2 : t = 3 ∨ t = 4 ∨ t = 5 := by omega
  have hty : arty t = .object C2 := by rcases ht with ⟨rfl, rfl⟩ | ⟨rfl, rfl⟩ <;> rfl
  have hRA := (hK.2.1 c hc (by omega)).2
  rw [hk, hty] at hRA
  obtain ⟨kA, comp, k1, k2, k3, -⟩ := hRA
  have hcls := (hK.1 ci2 _ hc2.1).2
  have hcomp : comp = D.1 ci2 := Option.some.inj (k3.symm.trans hcls.1)
  subst hcomp
  obtain ⟨kC, hkC, -⟩ := hcls.2
  have he := hP c _ (wsO_get (B := B) (Λ := Λ) (κ := κ) (σ := σ) hc)
  rw [ent_q hk ht2 hn] at he
  have hea := hP a _ (wsO_get (B := B) (Λ := Λ) (κ := κ) (σ := σ) haN)
  rw [ent_o hka hna] at hea
  obtain ⟨r', hr', cellV, g1, g2, g3, -⟩ := hea
  have hlt : (Int32.ofInt i).toNatClampNeg < len := by rw [clampI hi]; omega
  show W p l e (rm d mc ms) s m args below meth cd H locs k n _ (F0 m pc ls (tv B (2, (a : Int)) :: .int (Int32.ofInt i) :: tv B (2, (c : Int)) :: S.map (tv B)))
  rw [tv_r B c0, tv_r B a0]
  refine W.aast hb.1 hb.2.1 he (fun q h => by cases h) (fun h => by cases h) k1 k2 rfl hkC ⟨fun h => by have := (i32_lt hi R32_0).mp h; omega, by show _ < (arrV _ _ _).slots.size; rw [arrV_size]; exact hlt⟩ g1 (fun q h => by rw [g3] at h; cases h) (by rw [g2]; exact hkC) (by rw [g2]; exact va_assign hcls) rfl rfl hd fun H1 e1 z1 oq => ?_
  refine K p e s m args below meth cd B H1 _ ls hb hX hB ⟨D, κ, putP hc hP ?_ oq (fun k _ hne => ⟨stR_ne (by omega), rfl⟩), hK.lay (fun c' _ => stR_k.1), by rw [z1]; exact hz, okm_lay hm (fun c' => stR_k)⟩ (hS.put z1 oq (Nat.le_add_right B c)) hl hL (okt (okt (okt hs)))
  rw [ent_q (stR_k.1.trans hk) ht2 (stR_k.2.trans hn)]
  show H1[B + c]? = some (vp_cell _ _)
  refine Eq.trans e1 ?_
  dsimp only
  rw [vp_cell_q, vp_cell_q, arrV_store]
  congr 2
  funext j
  by_cases hj : j = (Int32.ofInt i).toNatClampNeg
  · have hji : (j : Int) = i := by rw [hj, clampI hi]; omega
    rw [hji, stR_r, if_pos rfl]
    simp only [updV, hj, if_true]
    rw [rfO_tv, tv_r B a0]
    rfl
  · have hji : (j : Int) ≠ i := fun z => hj (by rw [clampI hi]; omega)
    rw [stR_r, if_neg hji]
    simp only [updV, hj, if_false]
end CTOR
abbrev WC (l : Launch) (Y : MD) (d mc ms : Nat) (P : Nat → Lay → Mem → Prop) (k n pc : Nat) (L S : List AV) (N : Nat) (Λ : Lay) (σ : Mem) : Prop := WP l Y (rm d mc ms) noX (ZQ mc ms (fun r N' Λ' σ' => r = [] ∧ P N' Λ' σ')) k n pc L S N Λ σ
theorem y_new {l : Launch} {Y : MD} {X : XT} {Z : ZT} {k n pc q d mc ms : Nat} {L S : List AV} {N : Nat} {Λ : Lay} {σ : Mem} {idx ci nf : Nat} {C : String} {T : u_T} (dd : DC Y pc (.new idx) 3 q) (hc : CLS ci C T nf) (hcl : Cond.classLink (mN Y).cls idx C ∈ lw_g) (hi : Cond.instantiable C nf ∈ lw_g ∧ Cond.initialized C ∈ lw_g) (hdf : ∀ j : Nat, j < nf → defaultValue (tyC ci j) = tv 0 (fld ci j, if fld ci j = 2 then -1 else 0)) (hcs : k + 1 ≤ mc ∧ n + nf ≤ ms)
    (K : ∀ a : Int, a = (N : Int) → ∀ Λ1, Λ1 = newL Λ N (ci + 10) nf → ∀ σ1, σ1 = newM σ N → WP l Y (rm d mc ms) X Z (k + 1) (n + nf) q L ((2, a) :: S) (N + 1) Λ1 σ1) : WP l Y (rm d mc ms) X Z k n pc L S N Λ σ := r_new dd hc hcl hi hdf hcs (K _ rfl _ rfl _ rfl)
theorem y_newa {l : Launch} {Y : MD} {X : XT} {Z : ZT} {k n pc q d mc ms : Nat} {L S : List AV} {N : Nat} {Λ : Lay} {σ : Mem} {at_ : ArrayType} {t ln : Nat} {len : Int} (dd : DC Y pc (.newarray at_) 2 q) (hat : newarray.typeOf at_ = arty t) (ht : t = 0 ∨ t = 1 ∨ t = 2 ∨ t = 6) (hac : Cond.arrayClass (arty t) ∈ lw_g) (hln : len.toNat = ln) (h0 : 0 ≤ len) (h1 : len ≤ 100000) (hcs : k + 1 ≤ mc ∧ n + ln ≤ ms)
    (K : ∀ a : Int, a = (N : Int) → ∀ Λ1, Λ1 = newL Λ N t len → ∀ σ1, σ1 = newM σ N → WP l Y (rm d mc ms) X Z (k + 1) (n + ln) q L ((2, a) :: S) (N + 1) Λ1 σ1) : WP l Y (rm d mc ms) X Z k n pc L ((0, len) :: S) N Λ σ := by
  subst hln
  exact r_newa dd hat ht hac h0 h1 hcs (K _ rfl _ rfl _ rfl)
theorem y_anew {l : Launch} {Y : MD} {X : XT} {Z : ZT} {k n pc q d mc ms : Nat} {L S : List AV} {N : Nat} {Λ : Lay} {σ : Mem} {idx t ln : Nat} {C : String} {len : Int} (dd : DC Y pc (.anewarray idx) 3 q) (hcl : Cond.classLink (mN Y).cls idx C ∈ lw_g) (ht : (t = 3 ∧ C = "BracketDesk$Poly") ∨ (t = 4 ∧ C = "BracketDesk$State")) (hln : len.toNat = ln) (h0 : 0 ≤ len) (h1 : len ≤ 100000) (hcs : k + 1 ≤ mc ∧ n + ln ≤ ms)
    (K : ∀ a : Int, a = (N : Int) → ∀ Λ1, Λ1 = newL Λ N t len → ∀ σ1, σ1 = newM σ N → WP l Y (rm d mc ms) X Z (k + 1) (n + ln) q L ((2, a) :: S) (N + 1) Λ1 σ1) : WP l Y (rm d mc ms) X Z k n pc L ((0, len) :: S) N Λ σ := by
  subst hln
  exact r_anew dd hcl ht h0 h1 hcs (K _ rfl _ rfl _ rfl)
