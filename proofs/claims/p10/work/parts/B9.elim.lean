/-! rows of numbers change places: the picture of cells changes -/
theorem d_X0_bringUp_0 : DC mX0_bringUp 0 (.iload_n 2) 1 1 := ⟨by decide +kernel, rfl⟩
theorem d_X0_bringUp_1 : DC mX0_bringUp 1 (.istore_n 3) 1 2 := ⟨by decide +kernel, rfl⟩
theorem d_X0_bringUp_2 : DC mX0_bringUp 2 (.iload_n 3) 1 3 := ⟨by decide +kernel, rfl⟩
theorem d_X0_bringUp_3 : DC mX0_bringUp 3 (.aload_n 0) 1 4 := ⟨by decide +kernel, rfl⟩
theorem d_X0_bringUp_4 : DC mX0_bringUp 4 (.getfield 24) 3 7 := ⟨by decide +kernel, rfl⟩
theorem d_X0_bringUp_7 : DC mX0_bringUp 7 (.if_icmp .ge 50) 3 10 := ⟨by decide +kernel, rfl⟩
theorem d_X0_bringUp_10 : DC mX0_bringUp 10 (.aload_n 0) 1 11 := ⟨by decide +kernel, rfl⟩
theorem d_X0_bringUp_11 : DC mX0_bringUp 11 (.getfield 17) 3 14 := ⟨by decide +kernel, rfl⟩
theorem d_X0_bringUp_14 : DC mX0_bringUp 14 (.iload_n 3) 1 15 := ⟨by decide +kernel, rfl⟩
theorem d_X0_bringUp_15 : DC mX0_bringUp 15 (.aaload) 1 16 := ⟨by decide +kernel, rfl⟩
theorem d_X0_bringUp_16 : DC mX0_bringUp 16 (.iload_n 1) 1 17 := ⟨by decide +kernel, rfl⟩
theorem d_X0_bringUp_17 : DC mX0_bringUp 17 (.iaload) 1 18 := ⟨by decide +kernel, rfl⟩
theorem d_X0_bringUp_18 : DC mX0_bringUp 18 (.ifCond .eq 33) 3 21 := ⟨by decide +kernel, rfl⟩
theorem d_X0_bringUp_21 : DC mX0_bringUp 21 (.aload_n 0) 1 22 := ⟨by decide +kernel, rfl⟩
theorem d_X0_bringUp_22 : DC mX0_bringUp 22 (.getfield 17) 3 25 := ⟨by decide +kernel, rfl⟩
theorem d_X0_bringUp_25 : DC mX0_bringUp 25 (.iload_n 3) 1 26 := ⟨by decide +kernel, rfl⟩
theorem d_X0_bringUp_26 : DC mX0_bringUp 26 (.aaload) 1 27 := ⟨by decide +kernel, rfl⟩
theorem d_X0_bringUp_27 : DC mX0_bringUp 27 (.astore 4) 2 29 := ⟨by decide +kernel, rfl⟩
theorem d_X0_bringUp_29 : DC mX0_bringUp 29 (.aload_n 0) 1 30 := ⟨by decide +kernel, rfl⟩
theorem d_X0_bringUp_30 : DC mX0_bringUp 30 (.getfield 17) 3 33 := ⟨by decide +kernel, rfl⟩
theorem d_X0_bringUp_33 : DC mX0_bringUp 33 (.iload_n 3) 1 34 := ⟨by decide +kernel, rfl⟩
theorem d_X0_bringUp_34 : DC mX0_bringUp 34 (.aload_n 0) 1 35 := ⟨by decide +kernel, rfl⟩
theorem d_X0_bringUp_35 : DC mX0_bringUp 35 (.getfield 17) 3 38 := ⟨by decide +kernel, rfl⟩
theorem d_X0_bringUp_38 : DC mX0_bringUp 38 (.iload_n 2) 1 39 := ⟨by decide +kernel, rfl⟩
theorem d_X0_bringUp_39 : DC mX0_bringUp 39 (.aaload) 1 40 := ⟨by decide +kernel, rfl⟩
theorem d_X0_bringUp_40 : DC mX0_bringUp 40 (.aastore) 1 41 := ⟨by decide +kernel, rfl⟩
theorem d_X0_bringUp_41 : DC mX0_bringUp 41 (.aload_n 0) 1 42 := ⟨by decide +kernel, rfl⟩
theorem d_X0_bringUp_42 : DC mX0_bringUp 42 (.getfield 17) 3 45 := ⟨by decide +kernel, rfl⟩
theorem d_X0_bringUp_45 : DC mX0_bringUp 45 (.iload_n 2) 1 46 := ⟨by decide +kernel, rfl⟩
theorem d_X0_bringUp_46 : DC mX0_bringUp 46 (.aload 4) 2 48 := ⟨by decide +kernel, rfl⟩
theorem d_X0_bringUp_48 : DC mX0_bringUp 48 (.aastore) 1 49 := ⟨by decide +kernel, rfl⟩
theorem d_X0_bringUp_49 : DC mX0_bringUp 49 (.iconst 1) 1 50 := ⟨by decide +kernel, rfl⟩
theorem d_X0_bringUp_50 : DC mX0_bringUp 50 (.ireturn) 1 51 := ⟨by decide +kernel, rfl⟩
theorem d_X0_bringUp_51 : DC mX0_bringUp 51 (.iinc 3 1) 3 54 := ⟨by decide +kernel, rfl⟩
theorem d_X0_bringUp_54 : DC mX0_bringUp 54 (.goto (-52)) 3 57 := ⟨by decide +kernel, rfl⟩
theorem d_X0_bringUp_57 : DC mX0_bringUp 57 (.iconst 0) 1 58 := ⟨by decide +kernel, rfl⟩
theorem d_X0_bringUp_58 : DC mX0_bringUp 58 (.ireturn) 1 59 := ⟨by decide +kernel, rfl⟩
section EL
variable {l : Launch} {Y Y2 : MD} {X : XT} {Z : ZT} {pc q d idx ci nf k n mc ms : Nat} {L S S0 As : List AV} {N : Nat} {Λ : Lay} {σ : Mem} {T : u_T} {c : Int}
/-- a row of numbers is put into an array of rows -/
theorem r_aast5 {i len a la : Int} (dd : DC Y pc .aastore 1 q) (ho : Ob N Λ c 5 len) (h0 : 0 ≤ i) (h1 : i < len) (hoa : Ob N Λ a 0 la) (hla : 0 ≤ la) (K : WP l Y (rm d mc ms) X Z k n q L S N (stR Λ c i a) σ) : WP l Y (rm d mc ms) X Z k n pc L ((2, a) :: (0, i) :: (2, c) :: S) N Λ σ := by
  intro p e s m args below meth cd B H locs ls hb hX hB hR hS hl hL hs
  obtain ⟨hd, rfl⟩ := dd
  obtain ⟨c0, cN, hk, hn⟩ := ho
  obtain ⟨a0, aN, hka, hna⟩ := hoa
  obtain ⟨c, rfl⟩ := Int.eq_ofNat_of_zero_le c0
  obtain ⟨a, rfl⟩ := Int.eq_ofNat_of_zero_le a0
  obtain ⟨len, rfl⟩ := Int.eq_ofNat_of_zero_le (show 0 ≤ len by omega)
  obtain ⟨la, rfl⟩ := Int.eq_ofNat_of_zero_le hla
  have hi : R32 i := (okh (okt hs)).1 rfl
  obtain ⟨D, κ, hP, hK, hz, hm⟩ := id hR
  have hc : c < N := by omega
  have haN : a < N := by omega
  have ht2 : (5 : Nat) = 3 ∨ (5 : Nat) = 4 ∨ (5 : Nat) = 5 := by omega
  have hRA : s.vm.findClass "[[I" = some (κ c) := by
    have z := (hK.2.1 c hc (by omega)).2
    rw [hk] at z
    exact z
  have hRa : s.vm.findClass "[I" = some (κ a) := by
    have z := (hK.2.1 a haN (by omega)).2
    rw [hka] at z
    exact z
  obtain ⟨comp, cC, kA, q1, k1, k2, q4⟩ := hK.2.2.2.2
  have hcA : cC = κ c := Option.some.inj (q4.symm.trans hRA)
  have hcomp : comp = κ a := Option.some.inj (q1.symm.trans hRa)
  subst hcA
  subst hcomp
  obtain ⟨-, kC, hkC, -⟩ := (hK.2.1 a haN (by omega)).1 0 (fun _ => .int 0)
  have he := hP c _ (wsO_get (B := B) (Λ := Λ) (κ := κ) (σ := σ) hc)
  rw [ent_q hk ht2 hn] at he
  have hea := hP a _ (wsO_get (B := B) (Λ := Λ) (κ := κ) (σ := σ) haN)
  rw [ent_i hka (Or.inl rfl) hna] at hea
  have hlt : (Int32.ofInt i).toNatClampNeg < len := by rw [clampI hi]; omega
  show W p l e (rm d mc ms) s m args below meth cd H locs k n _ (F0 m pc ls (tv B (2, (a : Int)) :: .int (Int32.ofInt i) :: tv B (2, (c : Int)) :: S.map (tv B)))
  rw [tv_r B c0, tv_r B a0]
  refine W.aast hb.1 hb.2.1 he (fun q h => by cases h) (fun h => by cases h) k1 k2 rfl hkC ⟨fun h => by have := (i32_lt hi R32_0).mp h; omega, by show _ < (arrV _ _ _).slots.size; rw [arrV_size]; exact hlt⟩ hea (fun q h => by cases h) hkC (va_asg _ _) rfl rfl hd fun H1 e1 z1 oq => ?_
  refine K p e s m args below meth cd B H1 _ ls hb hX hB ⟨D, κ, putP hc hP ?_ oq (fun k _ hne => ⟨stR_ne (by omega), rfl⟩), hK.lay (fun c' _ => stR_k.1), by rw [z1]; exact hz, okm_lay hm (fun c' => stR_k)⟩ (hS.put z1 oq (Nat.le_add_right B c)) hl hL (okt (okt (okt hs)))
  rw [ent_q (stR_k.1.trans hk) ht2 (stR_k.2.trans hn)]
  show H1[B + c]? = some (vp_cell _ _)
  refine Eq.trans e1 ?_
  dsimp only
  rw [vp_cell_q, vp_cell_q, arrV_store]
  congr 2
  funext j
  by_cases hj : j = (Int32.ofInt i).toNatClampNeg
  · have hji : (j : Int) = i := by rw [hj, clampI hi]; omega
    rw [hji, stR_r, if_pos rfl]
    simp only [updV, hj, if_true]
    rw [rfO_tv, tv_r B a0]
    rfl
  · have hji : (j : Int) ≠ i := fun z => hj (by rw [clampI hi]; omega)
    rw [stR_r, if_neg hji]
    simp only [updV, hj, if_false]
/-- nothing is made; an int comes back; rows may have changed places -/
def qX (N : Nat) (P : Int → Lay → Mem → Prop) : QT := fun r N' Λ' σ' => ∃ v, r = [(0, v)] ∧ N = N' ∧ P v Λ' σ'
def CX (l : Launch) (Y : MD) (d : Nat) (As : List AV) (N : Nat) (Λ : Lay) (σ : Mem) (P : Int → Lay → Mem → Prop) : Prop := MC l Y d 0 0 As N Λ σ (qX N P)
theorem CX.mono {P P' : Int → Lay → Mem → Prop} (h : CX l Y d As N Λ σ P) (hp : ∀ v Λ' σ', P v Λ' σ' → P' v Λ' σ') : CX l Y d As N Λ σ P' :=
  MC.mono h fun r N' Λ' σ' hq => by obtain ⟨v, h1, h2, h3⟩ := hq; exact ⟨v, h1, h2, hp v Λ' σ' h3⟩
theorem CI.x {P : Int → Lay → Mem → Prop} (h : CI l Y d As N Λ σ (fun v σ' => P v Λ σ')) : CX l Y d As N Λ σ P :=
  MC.mono h fun r N' Λ' σ' hq => by obtain ⟨v, h1, h2, rfl, h3⟩ := hq; exact ⟨v, h1, h2, h3⟩
abbrev WX (l : Launch) (Y : MD) (d : Nat) (P : Int → Lay → Mem → Prop) (pc : Nat) (L S : List AV) (N : Nat) (Λ : Lay) (σ : Mem) : Prop := WP l Y (rm d 0 0) noX (ZQ 0 0 (qX N P)) 0 0 pc L S N Λ σ
theorem x_callVX (dd : DC Y pc (.invokevirtual idx) 3 q) (ok : okV Y2) (hl2 : Cond.methodLink (mN Y).cls idx (mN Y2) ∈ lw_g) (hA : As.length = mA Y2) (hm : mL Y2 ≤ 45) (h8 : (S.map cat).sum ≤ 8) (hS0 : S0 = As.reverse ++ (2, c) :: S) (hd : 1 ≤ d) (hc : CLS ci (mN Y2).cls T nf) (ho : Ob N Λ c (ci + 10) nf) (h : CX l Y2 (d - 1) ((2, c) :: As) N Λ σ (fun v Λ' σ' => WP l Y (rm d 0 0) X Z 0 0 q L ((0, v) :: S) N Λ' σ')) : WP l Y (rm d 0 0) X Z 0 0 pc L S0 N Λ σ :=
  r_callV dd ok hl2 hA (rmc hd hm) rm00 h8 hS0 hc ho.1 ho.2.1 ho.2.2.1 ho.2.2.2 (MC.mono h fun r N' Λ' σ' hq => by obtain ⟨v, rfl, rfl, h⟩ := hq; exact h)
theorem ElimG.sto {i j e : Int} (h : ElimG N Λ e) (j0 : 0 ≤ j) (j1 : j < 6) : ElimG N (stR Λ (e + 2) i (e + 3 + j)) e := by
  obtain ⟨a1, a2, a3, a4, a5, a6, a7⟩ := h
  refine ⟨Ob_stR rfl a1, by rw [stR_ne (by omega)]; exact a2, by rw [stR_ne (by omega)]; exact a3, Ob_stR rfl a4, Ob_stR rfl a5, fun i' g0 g1 => ?_, fun i' g0 g1 => Ob_stR rfl (a7 i' g0 g1)⟩
  rw [stR_r]
  by_cases hi : i' = i
  · rw [if_pos hi]; exact ⟨j, j0, j1, rfl⟩
  · rw [if_neg hi]; exact a6 i' g0 g1
theorem bu_lp {P : Int → Lay → Mem → Prop} {e x1 x2 : Int} (h0 : 0 ≤ x1) (h1 : x1 < 480) (h2 : 0 ≤ x2) (hz : σ e 3 ≤ 6) (hE : ElimG N Λ e) (hf : P 0 Λ σ) (ht : ∀ Λ', ElimG N Λ' e → (∀ c, c ≠ e + 2 → Λ' c = Λ c) → P 1 Λ' σ) : ∀ (m : Nat) (r : Int), x2 ≤ r → (6 - r).toNat ≤ m → WX l mX0_bringUp d P 2 [(2, e), (0, x1), (0, x2), (0, r), (3, 0)] [] N Λ σ := by
  obtain ⟨o, f0, f1, oc, oR, refs, inn⟩ := id hE
  have hin : ∀ j : Int, 0 ≤ j → j < 6 → Ob N Λ (e + 3 + j) 0 480 := inn
  intro m
  induction m with
  | zero =>
    intro r r0 r1
    refine r_iload_n (x := r) d_X0_bringUp_2 rfl ?_
    refine r_aload_n (x := e) d_X0_bringUp_3 rfl o.1 ?_
    refine r_getf (j := 3) (t := 0) (x := (σ e 3)) d_X0_bringUp_4 kX0 (by decide) fl_X0_24 o.1 o.2.1 o.2.2.1 o.2.2.2 rfl rfl ?_
    refine r_ic_ge (tgt := 57) d_X0_bringUp_7 rfl (fun hc => ?_) (fun hc => by omega)
    refine r_iconst (x := 0) d_X0_bringUp_57 ⟨by decide, by decide⟩ ?_
    exact r_iret d_X0_bringUp_58 rfl rfl (Nat.le_refl 0) (Nat.le_refl 0) ⟨_, rfl, rfl, hf⟩
  | succ m ih =>
    intro r r0 r1
    refine r_iload_n (x := r) d_X0_bringUp_2 rfl ?_
    refine r_aload_n (x := e) d_X0_bringUp_3 rfl o.1 ?_
    refine r_getf (j := 3) (t := 0) (x := (σ e 3)) d_X0_bringUp_4 kX0 (by decide) fl_X0_24 o.1 o.2.1 o.2.2.1 o.2.2.2 rfl rfl ?_
    refine r_ic_ge (tgt := 57) d_X0_bringUp_7 rfl (fun hc => ?_) (fun hc => ?_)
    · refine r_iconst (x := 0) d_X0_bringUp_57 ⟨by decide, by decide⟩ ?_
      exact r_iret d_X0_bringUp_58 rfl rfl (Nat.le_refl 0) (Nat.le_refl 0) ⟨_, rfl, rfl, hf⟩
    · obtain ⟨j, j0, j1, ej⟩ := refs r (by omega) (by omega)
      obtain ⟨i, i0, i1, ei⟩ := refs x2 (by omega) (by omega)
      refine r_aload_n (x := e) d_X0_bringUp_10 rfl o.1 ?_
      refine r_getf (j := 1) (t := 2) (x := e + 2) d_X0_bringUp_11 kX0 (by decide) fl_X0_17 o.1 o.2.1 o.2.2.1 o.2.2.2 rfl f1 ?_
      refine r_iload_n (x := r) d_X0_bringUp_14 rfl ?_
      refine x_aald (t := 5) (by decide) d_X0_bringUp_15 (Ix.of oR (by omega) (by omega)) (fun b1 eb1 => ?_)
      rw [ej] at eb1
      subst eb1
      refine r_iload_n (x := x1) d_X0_bringUp_16 rfl ?_
      refine x_iald d_X0_bringUp_17 (Ix.of (hin j j0 j1) h0 h1) ?_
      refine r_if_eq (tgt := 51) d_X0_bringUp_18 rfl (fun _ => ?_) (fun _ => ?_)
      · refine x_iinc (x := r) (L := [(2, e), (0, x1), (0, x2), (0, r), (3, 0)]) d_X0_bringUp_51 rfl (by decide) rfl (fun y ey => ?_)
        show WP _ _ _ _ _ _ _ _ [(2, e), (0, x1), (0, x2), (0, y), (3, 0)] _ _ _ _
        refine r_goto (tgt := 2) d_X0_bringUp_54 rfl ?_
        rw [ey, addI_e (by omega) (by omega)]
        exact ih (r + 1) (by omega) (by omega)
      · refine r_aload_n (x := e) d_X0_bringUp_21 rfl o.1 ?_
        refine r_getf (j := 1) (t := 2) (x := e + 2) d_X0_bringUp_22 kX0 (by decide) fl_X0_17 o.1 o.2.1 o.2.2.1 o.2.2.2 rfl f1 ?_
        refine r_iload_n (x := r) d_X0_bringUp_25 rfl ?_
        refine x_aald (t := 5) (by decide) d_X0_bringUp_26 (Ix.of oR (by omega) (by omega)) (fun b1 eb1 => ?_)
        rw [ej] at eb1
        subst eb1
        refine r_astore (L2 := [(2, e), (0, x1), (0, x2), (0, r), (2, e + 3 + j)]) d_X0_bringUp_27 (by decide) rfl rfl (hin j j0 j1).1 ?_
        refine r_aload_n (x := e) d_X0_bringUp_29 rfl o.1 ?_
        refine r_getf (j := 1) (t := 2) (x := e + 2) d_X0_bringUp_30 kX0 (by decide) fl_X0_17 o.1 o.2.1 o.2.2.1 o.2.2.2 rfl f1 ?_
        refine r_iload_n (x := r) d_X0_bringUp_33 rfl ?_
        refine r_aload_n (x := e) d_X0_bringUp_34 rfl o.1 ?_
        refine r_getf (j := 1) (t := 2) (x := e + 2) d_X0_bringUp_35 kX0 (by decide) fl_X0_17 o.1 o.2.1 o.2.2.1 o.2.2.2 rfl f1 ?_
        refine r_iload_n (x := x2) d_X0_bringUp_38 rfl ?_
        refine x_aald (t := 5) (by decide) d_X0_bringUp_39 (Ix.of oR (by omega) (by omega)) (fun b1 eb1 => ?_)
        rw [ei] at eb1
        subst eb1
        refine r_aast5 d_X0_bringUp_40 oR (by omega) (by omega) (hin i i0 i1) (by decide) ?_
        have hE1 : ElimG N (stR Λ (e + 2) r (e + 3 + i)) e := hE.sto i0 i1
        obtain ⟨o', f0', f1', oc', oR', refs', inn'⟩ := id hE1
        refine r_aload_n (x := e) d_X0_bringUp_41 rfl o'.1 ?_
        refine r_getf (j := 1) (t := 2) (x := e + 2) d_X0_bringUp_42 kX0 (by decide) fl_X0_17 o'.1 o'.2.1 o'.2.2.1 o'.2.2.2 rfl f1' ?_
        refine r_iload_n (x := x2) d_X0_bringUp_45 rfl ?_
        refine r_aload (x := e + 3 + j) d_X0_bringUp_46 rfl (hin j j0 j1).1 ?_
        refine r_aast5 d_X0_bringUp_48 oR' (by omega) (by omega) (inn' j j0 j1) (by decide) ?_
        refine r_iconst (x := 1) d_X0_bringUp_49 ⟨by decide, by decide⟩ ?_
        exact r_iret d_X0_bringUp_50 rfl rfl (Nat.le_refl 0) (Nat.le_refl 0) ⟨_, rfl, rfl, ht _ (hE1.sto j0 j1) (fun c hc => by rw [stR_ne hc, stR_ne hc])⟩
theorem G_bu {P : Int → Lay → Mem → Prop} {e x1 x2 : Int} (h0 : 0 ≤ x1) (h1 : x1 < 480) (h2 : 0 ≤ x2) (hz : σ e 3 ≤ 6) (hE : ElimG N Λ e) (hf : P 0 Λ σ) (ht : ∀ Λ', ElimG N Λ' e → (∀ c, c ≠ e + 2 → Λ' c = Λ c) → P 1 Λ' σ) : CX l mX0_bringUp d [(2, e), (0, x1), (0, x2)] N Λ σ P := by
  refine MC.ofN (m := 2) ok_mX0_bringUp.1 (Nat.le_of_ble_eq_true rfl) (L0 := [(2, e), (0, x1), (0, x2), (3, 0), (3, 0)]) rfl ?_
  refine r_iload_n (x := x2) d_X0_bringUp_0 rfl ?_
  refine r_istore_n (L2 := [(2, e), (0, x1), (0, x2), (0, x2), (3, 0)]) d_X0_bringUp_1 (by decide) rfl rfl ?_
  exact bu_lp h0 h1 h2 hz hE hf ht 6 x2 (by omega) (by omega)
end EL
theorem x_X0_independentRows_0 {l : Launch} {d N : Nat} {Λ : Lay} {P : Int → Lay → Mem → Prop} {σ : Mem} {t : Int}
    (h : WX l mX0_independentRows d P 4 [(2, t), (0, 0), (0, 0), (3, 0)] [] N Λ σ) :
    WX l mX0_independentRows d P 0 [(2, t), (3, 0), (3, 0), (3, 0)] [] N Λ σ := by
  refine r_iconst (x := 0) d_X0_independentRows_0 ⟨by decide, by decide⟩ ?_
  refine r_istore_n (L2 := [(2, t), (0, 0), (3, 0), (3, 0)]) d_X0_independentRows_1 (by decide) rfl rfl ?_
  refine r_iconst (x := 0) d_X0_independentRows_2 ⟨by decide, by decide⟩ ?_
  refine r_istore_n (L2 := [(2, t), (0, 0), (0, 0), (3, 0)]) d_X0_independentRows_3 (by decide) rfl rfl ?_
  exact h
theorem x_X0_independentRows_4 {l : Launch} {d N : Nat} {Λ : Lay} {P : Int → Lay → Mem → Prop} {σ : Mem} {x1 x2 t : Int} (o_t : Ob N Λ t 10 4) (h0d : 1 ≤ d)
    (h : (((σ t 2) ≤ x2 → P x1 Λ σ) ∧ (¬ ((σ t 2) ≤ x2) → (((σ t 3) ≤ x1 → P x1 Λ σ) ∧ (¬ ((σ t 3) ≤ x1) → (CX l mX0_bringUp (d - 1) [(2, t), (0, x2), (0, x1)] N Λ σ (fun v2 Λ1 σ1 => ((v2 = 0 → (∀ y3, y3 = addI x2 1 → WX l mX0_independentRows d P 4 [(2, t), (0, x1), (0, y3), (3, 0)] [] N Λ1 σ1)) ∧ (¬ (v2 = 0) → (∀ y4, y4 = (addI x1 1) → WX l mX0_independentRows d P 33 [(2, t), (0, x1), (0, x2), (0, y4)] [] N Λ1 σ1)))))))))) :
    WX l mX0_independentRows d P 4 [(2, t), (0, x1), (0, x2), (3, 0)] [] N Λ σ := by
  have hd_1 : 1 ≤ d := Nat.le_trans (by decide) h0d
  refine r_iload_n (x := x2) d_X0_independentRows_4 rfl ?_
  refine r_aload_n (x := t) d_X0_independentRows_5 rfl o_t.1 ?_
  refine r_getf (j := 2) (t := 0) (x := (σ t 2)) d_X0_independentRows_6 kX0 (by decide) fl_X0_20 o_t.1 o_t.2.1 o_t.2.2.1 o_t.2.2.2 rfl rfl ?_
  refine r_ic_ge (tgt := 63) d_X0_independentRows_9 rfl (fun hc => ?_) (fun hc => ?_)
  · have h := h.1 hc
    refine r_iload_n (x := x1) d_X0_independentRows_63 rfl ?_
    exact r_iret d_X0_independentRows_64 rfl rfl (Nat.le_refl 0) (Nat.le_refl 0) ⟨_, rfl, rfl, h⟩
  · have h := h.2 hc
    refine r_iload_n (x := x1) d_X0_independentRows_12 rfl ?_
    refine r_aload_n (x := t) d_X0_independentRows_13 rfl o_t.1 ?_
    refine r_getf (j := 3) (t := 0) (x := (σ t 3)) d_X0_independentRows_14 kX0 (by decide) fl_X0_24 o_t.1 o_t.2.1 o_t.2.2.1 o_t.2.2.2 rfl rfl ?_
    refine r_ic_ge (tgt := 63) d_X0_independentRows_17 rfl (fun hc => ?_) (fun hc => ?_)
    · have h := h.1 hc
      refine r_iload_n (x := x1) d_X0_independentRows_63 rfl ?_
      exact r_iret d_X0_independentRows_64 rfl rfl (Nat.le_refl 0) (Nat.le_refl 0) ⟨_, rfl, rfl, h⟩
    · have h := h.2 hc
      refine r_aload_n (x := t) d_X0_independentRows_20 rfl o_t.1 ?_
      refine r_iload_n (x := x2) d_X0_independentRows_21 rfl ?_
      refine r_iload_n (x := x1) d_X0_independentRows_22 rfl ?_
      refine x_callVX (Y2 := mX0_bringUp) (c := t) (As := [(0, x2), (0, x1)]) (S := []) d_X0_independentRows_23 ok_mX0_bringUp ml_X0_56 rfl (Nat.le_of_ble_eq_true rfl) (Nat.le_of_ble_eq_true rfl) rfl hd_1 kX0 o_t (CX.mono h (fun v2 Λ1 σ1 h => ?_))
      refine r_if_eq (tgt := 57) d_X0_independentRows_26 rfl (fun hc => ?_) (fun hc => ?_)
      · have h := h.1 hc
        refine x_iinc (x := x2) (L := [(2, t), (0, x1), (0, x2), (3, 0)]) d_X0_independentRows_57 rfl (by decide) rfl (fun y3 ey3 => ?_)
        have h := h y3 ey3
        show WP _ _ _ _ _ _ _ _ [(2, t), (0, x1), (0, y3), (3, 0)] _ _ _ _
        refine r_goto (tgt := 4) d_X0_independentRows_60 rfl ?_
        exact h
      · have h := h.2 hc
        refine r_iload_n (x := x1) d_X0_independentRows_29 rfl ?_
        refine r_iconst (x := 1) d_X0_independentRows_30 ⟨by decide, by decide⟩ ?_
        refine r_iadd d_X0_independentRows_31 ?_
        refine r_nm (fun y4 ey4 => ?_)
        have h := h y4 ey4
        refine r_istore_n (L2 := [(2, t), (0, x1), (0, x2), (0, y4)]) d_X0_independentRows_32 (by decide) rfl rfl ?_
        exact h
theorem x_X0_independentRows_33 {l : Launch} {d N : Nat} {Λ : Lay} {P : Int → Lay → Mem → Prop} {σ : Mem} {x1 x2 x3 t : Int} (o_t : Ob N Λ t 10 4) (h0d : 1 ≤ d)
    (h : (((σ t 3) ≤ x3 → (∀ y1, y1 = addI x1 1 → (∀ y2, y2 = addI x2 1 → WX l mX0_independentRows d P 4 [(2, t), (0, y1), (0, y2), (3, 0)] [] N Λ σ))) ∧ (¬ ((σ t 3) ≤ x3) → (CV l mX0_clearColumn (d - 1) [(2, t), (0, x2), (0, x1), (0, x3)] N Λ σ (fun σ3 => (∀ y4, y4 = addI x3 1 → WX l mX0_independentRows d P 33 [(2, t), (0, x1), (0, x2), (0, y4)] [] N Λ σ3)))))) :
    WX l mX0_independentRows d P 33 [(2, t), (0, x1), (0, x2), (0, x3)] [] N Λ σ := by
  have hd_1 : 1 ≤ d := Nat.le_trans (by decide) h0d
  refine r_iload_n (x := x3) d_X0_independentRows_33 rfl ?_
  refine r_aload_n (x := t) d_X0_independentRows_34 rfl o_t.1 ?_
  refine r_getf (j := 3) (t := 0) (x := (σ t 3)) d_X0_independentRows_35 kX0 (by decide) fl_X0_24 o_t.1 o_t.2.1 o_t.2.2.1 o_t.2.2.2 rfl rfl ?_
  refine r_ic_ge (tgt := 54) d_X0_independentRows_38 rfl (fun hc => ?_) (fun hc => ?_)
  · have h := h.1 hc
    refine x_iinc (x := x1) (L := [(2, t), (0, x1), (0, x2), (0, x3)]) d_X0_independentRows_54 rfl (by decide) rfl (fun y1 ey1 => ?_)
    have h := h y1 ey1
    show WP _ _ _ _ _ _ _ _ [(2, t), (0, y1), (0, x2), (0, x3)] _ _ _ _
    refine x_iinc (x := x2) (L := [(2, t), (0, y1), (0, x2), (0, x3)]) d_X0_independentRows_57 rfl (by decide) rfl (fun y2 ey2 => ?_)
    have h := h y2 ey2
    show WP _ _ _ _ _ _ _ _ [(2, t), (0, y1), (0, y2), (0, x3)] _ _ _ _
    refine r_goto (tgt := 4) d_X0_independentRows_60 rfl ?_
    exact x_mask h ⟨Or.inr rfl, Or.inr rfl, Or.inr rfl, Or.inl rfl, trivial⟩
  · have h := h.2 hc
    refine r_aload_n (x := t) d_X0_independentRows_41 rfl o_t.1 ?_
    refine r_iload_n (x := x2) d_X0_independentRows_42 rfl ?_
    refine r_iload_n (x := x1) d_X0_independentRows_43 rfl ?_
    refine r_iload_n (x := x3) d_X0_independentRows_44 rfl ?_
    refine x_callVV (Y2 := mX0_clearColumn) (c := t) (As := [(0, x2), (0, x1), (0, x3)]) (S := []) d_X0_independentRows_45 ok_mX0_clearColumn ml_X0_60 rfl (Nat.le_of_ble_eq_true rfl) (Nat.le_of_ble_eq_true rfl) rfl hd_1 kX0 o_t (CV.mono h (fun σ3 h => ?_))
    refine x_iinc (x := x3) (L := [(2, t), (0, x1), (0, x2), (0, x3)]) d_X0_independentRows_48 rfl (by decide) rfl (fun y4 ey4 => ?_)
    have h := h y4 ey4
    show WP _ _ _ _ _ _ _ _ [(2, t), (0, x1), (0, x2), (0, y4)] _ _ _ _
    refine r_goto (tgt := 33) d_X0_independentRows_51 rfl ?_
    exact h
theorem x_X11_rank_0 {l : Launch} {d N : Nat} {Λ : Lay} {P : Int → Lay → Mem → Prop} {σ : Mem} {x1 t t_elimination : Int} (o_t : Ob N Λ t 20 14) (f_t_elimination : (Λ t).2.2 8 = t_elimination) (o_t_elimination : Ob N Λ t_elimination 10 4) (h0d : 1 ≤ d)
    (h : (∀ τ1, τ1 = st σ t 13 0 → ((x1 < 0 → P (-2) Λ τ1) ∧ (¬ (x1 < 0) → ((x1 < 64 → (∀ τ2, τ2 = st τ1 t_elimination 2 0 → (∀ τ3, τ3 = st τ2 t_elimination 3 0 → WX l mX11_rank d P 27 [(2, t), (0, x1), (0, 0), (3, 0)] [] N Λ τ3))) ∧ (¬ (x1 < 64) → P (-2) Λ τ1)))))) :
    WX l mX11_rank d P 0 [(2, t), (0, x1), (3, 0), (3, 0)] [] N Λ σ := by
  have hd_1 : 1 ≤ d := Nat.le_trans (by decide) h0d
  refine r_aload_n (x := t) d_X11_rank_0 rfl o_t.1 ?_
  refine r_iconst (x := 0) d_X11_rank_1 ⟨by decide, by decide⟩ ?_
  refine r_putI (j := 13) d_X11_rank_2 kX11 (by decide) fl_X11_90 rfl o_t.1 o_t.2.1 o_t.2.2.1 o_t.2.2.2 rfl ?_
  refine r_nmM (fun τ1 eτ1 => ?_)
  have h := h τ1 eτ1
  refine r_iload_n (x := x1) d_X11_rank_5 rfl ?_
  refine r_if_lt (tgt := 15) d_X11_rank_6 rfl (fun hc => ?_) (fun hc => ?_)
  · have h := h.1 hc
    refine r_bipush (x := (-2)) d_X11_rank_15 ⟨by decide, by decide⟩ (by decide) ?_
    exact r_iret d_X11_rank_17 rfl rfl (Nat.le_refl 0) (Nat.le_refl 0) ⟨_, rfl, rfl, h⟩
  · have h := h.2 hc
    refine r_iload_n (x := x1) d_X11_rank_9 rfl ?_
    refine r_bipush (x := 64) d_X11_rank_10 ⟨by decide, by decide⟩ (by decide) ?_
    refine r_ic_lt (tgt := 18) d_X11_rank_12 rfl (fun hc => ?_) (fun hc => ?_)
    · have h := h.1 hc
      refine r_aload_n (x := t) d_X11_rank_18 rfl o_t.1 ?_
      refine r_getf (j := 8) (t := 2) (x := t_elimination) d_X11_rank_19 kX11 (by decide) fl_X11_62 o_t.1 o_t.2.1 o_t.2.2.1 o_t.2.2.2 rfl f_t_elimination ?_
      refine x_callVV (Y2 := mX0_begin) (c := t_elimination) (As := []) (S := []) d_X11_rank_22 ok_mX0_begin ml_X11_285 rfl (Nat.le_of_ble_eq_true rfl) (Nat.le_of_ble_eq_true rfl) rfl hd_1 kX0 o_t_elimination (c_X0_begin (v_X0_begin_0 o_t_elimination ?_))
      intro τ2 eτ2
      have h := h τ2 eτ2
      intro τ3 eτ3
      have h := h τ3 eτ3
      show WP l mX11_rank (rm d 0 0) noX _ 0 0 25 [(2, t), (0, x1), (3, 0), (3, 0)] [] N Λ τ3
      refine r_iconst (x := 0) d_X11_rank_25 ⟨by decide, by decide⟩ ?_
      refine r_istore_n (L2 := [(2, t), (0, x1), (0, 0), (3, 0)]) d_X11_rank_26 (by decide) rfl rfl ?_
      exact h
    · have h := h.2 hc
      refine r_bipush (x := (-2)) d_X11_rank_15 ⟨by decide, by decide⟩ (by decide) ?_
      exact r_iret d_X11_rank_17 rfl rfl (Nat.le_refl 0) (Nat.le_refl 0) ⟨_, rfl, rfl, h⟩
theorem x_X11_rank_27 {l : Launch} {d N : Nat} {Λ : Lay} {P : Int → Lay → Mem → Prop} {σ : Mem} {x1 x2 t t_elimination t_now t_now_shelves t_straightener t_work : Int} (o_t : Ob N Λ t 20 14) (f_t_elimination : (Λ t).2.2 8 = t_elimination) (o_t_elimination : Ob N Λ t_elimination 10 4) (f_t_straightener : (Λ t).2.2 5 = t_straightener) (f_t_now : (Λ t).2.2 0 = t_now) (o_t_now : Ob N Λ t_now 16 3) (f_t_now_shelves : (Λ t_now).2.2 0 = t_now_shelves) (f_t_work : (Λ t).2.2 11 = t_work) (o_t_straightener : Ob N Λ t_straightener 17 2) (h0d : 1 ≤ d)
    (h : ((6 ≤ x2 → (CX l mX0_independentRows (d - 1) [(2, t_elimination)] N Λ σ (fun v2 Λ1 σ1 => P v2 Λ1 σ1))) ∧ (¬ (6 ≤ x2) → ((¬ (andI (shrI x1 x2) 1) = 1 → (∀ y3, y3 = addI x2 1 → WX l mX11_rank d P 27 [(2, t), (0, x1), (0, y3), (3, 0)] [] N Λ σ)) ∧ ((andI (shrI x1 x2) 1) = 1 → (Ix N Λ t_now_shelves 3 x2 ∧ (∀ b4, b4 = (Λ t_now_shelves).2.2 x2 → (Ob N Λ b4 15 3 ∧ (CI l mX8_straighten (d - 1) [(2, t_straightener), (2, b4), (2, t_work)] N Λ σ (fun v6 σ5 => ((v6 = 0 → (CV l mX0_takeRow (d - 1) [(2, t_elimination), (2, t_work)] N Λ σ5 (fun σ7 => (∀ y8, y8 = addI x2 1 → WX l mX11_rank d P 27 [(2, t), (0, x1), (0, y8), (3, 0)] [] N Λ σ7)))) ∧ (¬ (v6 = 0) → (∀ τ9, τ9 = st σ5 t 13 v6 → ((¬ v6 = 4 → P (-4) Λ τ9) ∧ (v6 = 4 → P (-7) Λ τ9))))))))))))))) :
    WX l mX11_rank d P 27 [(2, t), (0, x1), (0, x2), (3, 0)] [] N Λ σ := by
  have hd_1 : 1 ≤ d := Nat.le_trans (by decide) h0d
  refine r_iload_n (x := x2) d_X11_rank_27 rfl ?_
  refine r_bipush (x := 6) d_X11_rank_28 ⟨by decide, by decide⟩ (by decide) ?_
  refine r_ic_ge (tgt := 90) d_X11_rank_30 rfl (fun hc => ?_) (fun hc => ?_)
  · have h := h.1 hc
    refine r_aload_n (x := t) d_X11_rank_90 rfl o_t.1 ?_
    refine r_getf (j := 8) (t := 2) (x := t_elimination) d_X11_rank_91 kX11 (by decide) fl_X11_62 o_t.1 o_t.2.1 o_t.2.2.1 o_t.2.2.2 rfl f_t_elimination ?_
    refine x_callVX (Y2 := mX0_independentRows) (c := t_elimination) (As := []) (S := []) d_X11_rank_94 ok_mX0_independentRows ml_X11_289 rfl (Nat.le_of_ble_eq_true rfl) (Nat.le_of_ble_eq_true rfl) rfl hd_1 kX0 o_t_elimination (CX.mono h (fun v2 Λ1 σ1 h => ?_))
    exact r_iret d_X11_rank_97 rfl rfl (Nat.le_refl 0) (Nat.le_refl 0) ⟨_, rfl, rfl, h⟩
  · have h := h.2 hc
    refine r_iload_n (x := x1) d_X11_rank_33 rfl ?_
    refine r_iload_n (x := x2) d_X11_rank_34 rfl ?_
    refine r_ishr d_X11_rank_35 ?_
    refine r_iconst (x := 1) d_X11_rank_36 ⟨by decide, by decide⟩ ?_
    refine r_iand d_X11_rank_37 ?_
    refine r_iconst (x := 1) d_X11_rank_38 ⟨by decide, by decide⟩ ?_
    refine r_ic_ne (tgt := 84) d_X11_rank_39 rfl (fun hc => ?_) (fun hc => ?_)
    · have h := h.1 hc
      refine x_iinc (x := x2) (L := [(2, t), (0, x1), (0, x2), (3, 0)]) d_X11_rank_84 rfl (by decide) rfl (fun y3 ey3 => ?_)
      have h := h y3 ey3
      show WP _ _ _ _ _ _ _ _ [(2, t), (0, x1), (0, y3), (3, 0)] _ _ _ _
      refine r_goto (tgt := 27) d_X11_rank_87 rfl ?_
      exact h
    · have h := h.2 hc
      refine r_aload_n (x := t) d_X11_rank_42 rfl o_t.1 ?_
      refine r_getf (j := 5) (t := 2) (x := t_straightener) d_X11_rank_43 kX11 (by decide) fl_X11_41 o_t.1 o_t.2.1 o_t.2.2.1 o_t.2.2.2 rfl f_t_straightener ?_
      refine r_aload_n (x := t) d_X11_rank_46 rfl o_t.1 ?_
      refine r_getf (j := 0) (t := 2) (x := t_now) d_X11_rank_47 kX11 (by decide) fl_X11_10 o_t.1 o_t.2.1 o_t.2.2.1 o_t.2.2.2 rfl f_t_now ?_
      refine r_getf (j := 0) (t := 2) (x := t_now_shelves) d_X11_rank_50 kX7 (by decide) fl_X11_146 o_t_now.1 o_t_now.2.1 o_t_now.2.2.1 o_t_now.2.2.2 rfl f_t_now_shelves ?_
      refine r_iload_n (x := x2) d_X11_rank_53 rfl ?_
      refine x_aald (t := 3) (by decide) d_X11_rank_54 h.1 (fun b4 eb4 => ?_)
      have h := h.2 b4 eb4
      have oob4 := h.1
      have h := h.2
      refine r_aload_n (x := t) d_X11_rank_55 rfl o_t.1 ?_
      refine r_getf (j := 11) (t := 2) (x := t_work) d_X11_rank_56 kX11 (by decide) fl_X11_83 o_t.1 o_t.2.1 o_t.2.2.1 o_t.2.2.2 rfl f_t_work ?_
      refine x_callVI (Y2 := mX8_straighten) (c := t_straightener) (As := [(2, b4), (2, t_work)]) (S := []) d_X11_rank_59 ok_mX8_straighten ml_X11_212 rfl (Nat.le_of_ble_eq_true rfl) (Nat.le_of_ble_eq_true rfl) rfl hd_1 kX8 o_t_straightener (CI.mono h (fun v6 σ5 h => ?_))
      refine r_istore_n (L2 := [(2, t), (0, x1), (0, x2), (0, v6)]) d_X11_rank_62 (by decide) rfl rfl ?_
      refine r_iload_n (x := v6) d_X11_rank_63 rfl ?_
      refine r_if_eq (tgt := 73) d_X11_rank_64 rfl (fun hc => ?_) (fun hc => ?_)
      · have h := h.1 hc
        refine r_aload_n (x := t) d_X11_rank_73 rfl o_t.1 ?_
        refine r_getf (j := 8) (t := 2) (x := t_elimination) d_X11_rank_74 kX11 (by decide) fl_X11_62 o_t.1 o_t.2.1 o_t.2.2.1 o_t.2.2.2 rfl f_t_elimination ?_
        refine r_aload_n (x := t) d_X11_rank_77 rfl o_t.1 ?_
        refine r_getf (j := 11) (t := 2) (x := t_work) d_X11_rank_78 kX11 (by decide) fl_X11_83 o_t.1 o_t.2.1 o_t.2.2.1 o_t.2.2.2 rfl f_t_work ?_
        refine x_callVV (Y2 := mX0_takeRow) (c := t_elimination) (As := [(2, t_work)]) (S := []) d_X11_rank_81 ok_mX0_takeRow ml_X11_286 rfl (Nat.le_of_ble_eq_true rfl) (Nat.le_of_ble_eq_true rfl) rfl hd_1 kX0 o_t_elimination (CV.mono h (fun σ7 h => ?_))
        refine x_iinc (x := x2) (L := [(2, t), (0, x1), (0, x2), (0, v6)]) d_X11_rank_84 rfl (by decide) rfl (fun y8 ey8 => ?_)
        have h := h y8 ey8
        show WP _ _ _ _ _ _ _ _ [(2, t), (0, x1), (0, y8), (0, v6)] _ _ _ _
        refine r_goto (tgt := 27) d_X11_rank_87 rfl ?_
        exact x_mask h ⟨Or.inr rfl, Or.inr rfl, Or.inr rfl, Or.inl rfl, trivial⟩
      · have h := h.2 hc
        refine r_aload_n (x := t) d_X11_rank_67 rfl o_t.1 ?_
        refine r_iload_n (x := v6) d_X11_rank_68 rfl ?_
        refine x_callVI (Y2 := mX11_refused) (c := t) (As := [(0, v6)]) (S := []) d_X11_rank_69 ok_mX11_refused ml_X11_271 rfl (Nat.le_of_ble_eq_true rfl) (Nat.le_of_ble_eq_true rfl) rfl hd_1 kX11 o_t (c_X11_refused (v_X11_refused_0 o_t ?_))
        intro τ9 eτ9
        have h := h τ9 eτ9
        refine ⟨fun hc => ?_, fun hc => ?_⟩
        · have h := h.1 hc
          show WP l mX11_rank (rm d 0 0) noX _ 0 0 72 [(2, t), (0, x1), (0, x2), (0, v6)] [(0, (-4))] N Λ τ9
          exact r_iret d_X11_rank_72 rfl rfl (Nat.le_refl 0) (Nat.le_refl 0) ⟨_, rfl, rfl, h⟩
        · have h := h.2 hc
          show WP l mX11_rank (rm d 0 0) noX _ 0 0 72 [(2, t), (0, x1), (0, x2), (0, v6)] [(0, (-7))] N Λ τ9
          exact r_iret d_X11_rank_72 rfl rfl (Nat.le_refl 0) (Nat.le_refl 0) ⟨_, rfl, rfl, h⟩
theorem cx_X0_independentRows {l : Launch} {d N : Nat} {Λ : Lay} {P : Int → Lay → Mem → Prop} {σ : Mem} {t : Int} (h : WX l mX0_independentRows d P 0 [(2, t), (3, 0), (3, 0), (3, 0)] [] N Λ σ) : CX l mX0_independentRows d [(2, t)] N Λ σ P := MC.ofN (m := 3) ok_mX0_independentRows.1 (Nat.le_of_ble_eq_true rfl) rfl h
theorem cx_X11_rank {l : Launch} {d N : Nat} {Λ : Lay} {P : Int → Lay → Mem → Prop} {σ : Mem} {t x1 : Int} (h : WX l mX11_rank d P 0 [(2, t), (0, x1), (3, 0), (3, 0)] [] N Λ σ) : CX l mX11_rank d [(2, t), (0, x1)] N Λ σ P := MC.ofN (m := 2) ok_mX11_rank.1 (Nat.le_of_ble_eq_true rfl) rfl h
