/-! the class's own constructor -/
/-- one more field: nothing below b changes but the object's own references -/
def DStp (Λ Λ' : Lay) (σ σ' : Mem) (t b i : Int) : Prop := (∀ c' : Int, 0 ≤ c' → c' < b → c' ≠ t → Λ' c' = Λ c' ∧ σ' c' = σ c') ∧ (∀ j : Int, (Λ' t).2.2 j = if j = i then b else (Λ t).2.2 j) ∧ σ' t = σ t
theorem dstp_obj {N kind : Nat} {Λ Λ1 Λ2 Λ3 : Lay} {σ σ1 σ2 : Mem} {t a i nf : Int} (h0 : 0 ≤ t) (ht : t < N) (ea : a = ((N : Nat) : Int)) (e1 : Λ1 = newL Λ N kind nf) (e2 : σ1 = newM σ N) (hk : Keep (N + 1) Λ1 σ1 Λ2 σ2 a) (e3 : Λ3 = stR Λ2 t i a) : DStp Λ Λ3 σ σ2 t a i := by
  have k : ∀ c' : Int, 0 ≤ c' → c' < a → Λ2 c' = Λ c' ∧ σ2 c' = σ c' := fun c' g0 g1 => by
    have z := hk c' g0 (by omega) (by omega)
    rw [z.1, z.2, e1, newL_ne (by omega), e2, newM_ne (by omega)]
    exact ⟨rfl, rfl⟩
  refine ⟨fun c' g0 g1 g2 => ⟨by rw [e3, stR_ne g2]; exact (k c' g0 g1).1, (k c' g0 g1).2⟩, fun j => ?_, (k t h0 (by omega)).2⟩
  rw [e3, stR_r, (k t h0 (by omega)).1]
theorem dstp_arr {N kind : Nat} {Λ Λ1 Λ3 : Lay} {σ σ1 : Mem} {t a i nf : Int} (h0 : 0 ≤ t) (ht : t < N) (ea : a = ((N : Nat) : Int)) (e1 : Λ1 = newL Λ N kind nf) (e2 : σ1 = newM σ N) (e3 : Λ3 = stR Λ1 t i a) : DStp Λ Λ3 σ σ1 t a i :=
  dstp_obj h0 ht ea e1 e2 (fun _ _ _ _ => ⟨rfl, rfl⟩) e3
def Ag (Λ Λ' : Lay) (σ σ' : Mem) (t b : Int) : Prop := ∀ c' : Int, 0 ≤ c' → c' < b → c' ≠ t → Λ' c' = Λ c' ∧ σ' c' = σ c'
theorem Ag.tr {Λ Λ1 Λ2 : Lay} {σ σ1 σ2 : Mem} {t b b1 : Int} (h : Ag Λ Λ1 σ σ1 t b) (h1 : Ag Λ1 Λ2 σ1 σ2 t b1) (hb : b ≤ b1) : Ag Λ Λ2 σ σ2 t b := fun c' g0 g1 g2 => by
  have z := h1 c' g0 (by omega) g2
  rw [z.1, z.2]
  exact h c' g0 g1 g2
theorem ag_rf {Λ : Lay} {σ : Mem} {t b : Int} : Ag Λ Λ σ σ t b := fun _ _ _ _ => ⟨rfl, rfl⟩
theorem TapeL.mono {N N' : Nat} {Λ Λ' : Lay} {c : Int} (h : TapeL N Λ c) (hN : N ≤ N') (hk : ∀ c' : Int, c ≤ c' → c' < c + 4 → Λ' c' = Λ c') : TapeL N' Λ' c := by
  obtain ⟨o, f1, f2, f3, o1, o2, o3⟩ := h
  have e := hk c (by omega) (by omega)
  exact ⟨Ob_eq o hN e, by rw [e]; exact f1, by rw [e]; exact f2, by rw [e]; exact f3, Ob_eq o1 hN (hk _ (by omega) (by omega)), Ob_eq o2 hN (hk _ (by omega) (by omega)), Ob_eq o3 hN (hk _ (by omega) (by omega))⟩
theorem HistL.mono {N N' : Nat} {Λ Λ' : Lay} {c : Int} (h : HistL N Λ c) (hN : N ≤ N') (hk : ∀ c' : Int, c ≤ c' → c' < c + 222 → Λ' c' = Λ c') : HistL N' Λ' c := by
  obtain ⟨o, f1, o1, hs⟩ := h
  have e := hk c (by omega) (by omega)
  have e1 := hk (c + 1) (by omega) (by omega)
  refine ⟨Ob_eq o hN e, by rw [e]; exact f1, Ob_eq o1 hN e1, fun i g0 g1 => ⟨by rw [e1]; exact (hs i g0 g1).1, (hs i g0 g1).2.mono hN fun c' b0 b1 => hk c' (by omega) (by omega)⟩⟩
theorem ElimL.mono {N N' : Nat} {Λ Λ' : Lay} {c : Int} (h : ElimL N Λ c) (hN : N ≤ N') (hk : ∀ c' : Int, c ≤ c' → c' < c + 9 → Λ' c' = Λ c') : ElimL N' Λ' c := by
  obtain ⟨o, f1, f2, o1, o2, hs⟩ := h
  have e := hk c (by omega) (by omega)
  have e2 := hk (c + 2) (by omega) (by omega)
  refine ⟨Ob_eq o hN e, by rw [e]; exact f1, by rw [e]; exact f2, Ob_eq o1 hN (hk _ (by omega) (by omega)), Ob_eq o2 hN e2, fun i g0 g1 => ⟨by rw [e2]; exact (hs i g0 g1).1, Ob_eq (hs i g0 g1).2 hN (hk _ (by omega) (by omega))⟩⟩

/-- where the class's object and all that it has lie -/
def DeskR (Λ : Lay) (t : Int) : Prop := (Λ t).2.2 0 = t + 1 ∧ (Λ t).2.2 1 = t + 23 ∧ (Λ t).2.2 2 = t + 245 ∧ (Λ t).2.2 3 = t + 246 ∧ (Λ t).2.2 4 = t + 247 ∧ (Λ t).2.2 5 = t + 251 ∧ (Λ t).2.2 6 = t + 253 ∧ (Λ t).2.2 7 = t + 569 ∧ (Λ t).2.2 8 = t + 572 ∧ (Λ t).2.2 9 = t + 581 ∧ (Λ t).2.2 10 = t + 595 ∧ (Λ t).2.2 11 = t + 596 ∧ (Λ t).2.2 12 = t + 599
def DeskL (N : Nat) (Λ : Lay) (t : Int) : Prop := Ob N Λ t 20 14 ∧ DeskR Λ t ∧ StateL N Λ (t + 1) ∧ HistL N Λ (t + 23) ∧ (Ob N Λ (t + 245) 4 2 ∧ (Λ (t + 245)).2.2 0 = t + 602 ∧ (Λ (t + 245)).2.2 1 = t + 624) ∧ Ob N Λ (t + 246) 2 2 ∧ TapeL N Λ (t + 247) ∧ StrL N Λ (t + 251) ∧ Ob N Λ (t + 253) 12 9 ∧ Ob N Λ (t + 569) 13 5 ∧ ElimL N Λ (t + 572) ∧ Ob N Λ (t + 581) 11 6 ∧ Ob N Λ (t + 595) 19 2 ∧ PolyL N Λ (t + 596) ∧ PolyL N Λ (t + 599) ∧ StateL N Λ (t + 602) ∧ StateL N Λ (t + 624)
/-- the numbers of a new object -/
def Desk0 (σ : Mem) (t : Int) : Prop := State0 σ (t + 1) ∧ (σ (t + 23) 0 = 0 ∧ σ (t + 23) 2 = 0) ∧ (∀ j : Int, σ (t + 246) j = 0) ∧ (σ (t + 247) 1 = 0 ∧ σ (t + 247) 2 = 0 ∧ σ (t + 247) 3 = -1) ∧ PC σ (t + 596) [] ∧ PC σ (t + 599) [] ∧ σ t 13 = 0
section DI
variable {l : Launch} {d N : Nat} {Λ : Lay} {σ : Mem} {t : Int}
theorem desk_lp {P : Nat → Lay → Mem → Prop} {N0 k n : Nat} (hN : t + 602 = N0) (ht : 0 ≤ t) (o : Ob N0 Λ t 20 14) (f2 : (Λ t).2.2 2 = t + 245) (oi : Ob N0 Λ (t + 245) 4 2) (hd : 6 ≤ d) (hk : k = 601) (hn : n = 34154)
    (h : ∀ Λ' σ', (Ob (N0 + 44) Λ' (t + 245) 4 2 ∧ (Λ' (t + 245)).2.2 0 = t + 602 ∧ (Λ' (t + 245)).2.2 1 = t + 624) → StateL (N0 + 44) Λ' (t + 602) → StateL (N0 + 44) Λ' (t + 624) → (∀ c' : Int, 0 ≤ c' → c' < N0 → c' ≠ t + 245 → Λ' c' = Λ c') → (∀ c' : Int, 0 ≤ c' → c' < N0 → σ' c' = σ c') → P (N0 + 44) Λ' σ') :
    WC l mX11_init d 645 36428 P k n 147 [(2, t), (0, 0)] [] N0 Λ σ := by
  refine v_X11_init_147 o (by omega) ⟨fun hc => by omega, fun _ b1 e1 => ?_⟩
  rw [f2] at e1
  subst e1
  refine ⟨2, oi, ⟨by omega, by omega⟩, fun a3 e3 Λ4 e4 σ5 e5 => ⟨⟨by omega, by omega⟩, ?_⟩⟩
  have qa : a3 = t + 602 := by omega
  subst qa
  refine k_State_init (by omega) (Ob_newS e4 e3) (by omega) fun Λ7 σ8 hL hZ hkp => ?_
  have x7 : ∀ c' : Int, 0 ≤ c' → c' < N0 → Λ7 c' = Λ c' ∧ σ8 c' = σ c' := fun c' g0 g1 => by
    have z := hkp c' g0 (by omega) (by omega)
    rw [z.1, z.2, e4, newL_ne (by omega), e5, newM_ne (by omega)]
    exact ⟨rfl, rfl⟩
  have oi7 := Ob_eq oi (show N0 ≤ N0 + 1 + 21 by omega) (x7 (t + 245) (by omega) (by omega)).1
  have o7 := Ob_eq o (show N0 ≤ N0 + 1 + 21 by omega) (x7 t (by omega) (by omega)).1
  refine ⟨o7, oi7, hL.1, ⟨by decide, by decide⟩, fun Λ9 e9 y10 e10 => ?_⟩
  rw [show y10 = 1 from e10.trans (by decide)]
  have f9 : (Λ9 t).2.2 2 = t + 245 := by rw [e9, stR_ne (by omega), (x7 t (by omega) (by omega)).1]; exact f2
  refine v_X11_init_147 (N := N0 + 1 + 21) (Ob_stR e9 o7) (by omega) ⟨fun hc => by omega, fun _ b1 e1 => ?_⟩
  rw [f9] at e1
  subst e1
  refine ⟨2, Ob_stR e9 oi7, ⟨by omega, by omega⟩, fun a11 e11 Λ12 e12 σ13 e13 => ⟨⟨by omega, by omega⟩, ?_⟩⟩
  have qa : a11 = t + 624 := by omega
  subst qa
  refine k_State_init (N := N0 + 1 + 21 + 1) (by omega) (Ob_newS e12 e11) (by omega) fun Λ14 σ15 hL2 hZ2 hkp2 => ?_
  have x14 : ∀ c' : Int, 0 ≤ c' → c' < t + 624 → Λ14 c' = Λ9 c' ∧ σ15 c' = σ8 c' := fun c' g0 g1 => by
    have z := hkp2 c' g0 (by omega) (by omega)
    rw [z.1, z.2, e12, newL_ne (by omega), e13, newM_ne (by omega)]
    exact ⟨rfl, rfl⟩
  have oi14 := Ob_eq (Ob_stR e9 oi7) (show N0 + 1 + 21 ≤ N0 + 1 + 21 + 1 + 21 by omega) (x14 (t + 245) (by omega) (by omega)).1
  have o14 := Ob_eq (Ob_stR e9 o7) (show N0 + 1 + 21 ≤ N0 + 1 + 21 + 1 + 21 by omega) (x14 t (by omega) (by omega)).1
  refine ⟨o14, oi14, hL2.1, ⟨by decide, by decide⟩, fun Λ16 e16 y17 e17 => ?_⟩
  rw [show y17 = 2 from e17.trans (by decide)]
  have n9 : ∀ c' : Int, c' ≠ t + 245 → Λ9 c' = Λ7 c' := fun c' hc => by rw [e9, stR_ne hc]
  have n16 : ∀ c' : Int, c' ≠ t + 245 → Λ16 c' = Λ14 c' := fun c' hc => by rw [e16, stR_ne hc]
  have r16 : ∀ j : Int, (Λ16 (t + 245)).2.2 j = if j = 1 then t + 624 else if j = 0 then t + 602 else (Λ7 (t + 245)).2.2 j := fun j => by
    rw [e16, stR_r, (x14 (t + 245) (by omega) (by omega)).1, e9, stR_r]
  refine v_X11_init_147 (N := N0 + 1 + 21 + 1 + 21) (Ob_stR e16 o14) (by omega) ⟨fun _ => ⟨⟨by omega, by omega⟩, ?_⟩, fun hc => absurd (show (2 : Int) ≤ 2 by decide) hc⟩
  refine h Λ16 σ15 ⟨Ob_stR e16 oi14, by rw [r16]; rfl, by rw [r16]; rfl⟩ (hL.mono (by omega) fun c' g0 g1 => ?_) (hL2.mono (by omega) fun c' g0 g1 => n16 c' (by omega)) (fun c' g0 g1 g2 => ?_) (fun c' g0 g1 => ?_)
  · rw [n16 c' (by omega), (x14 c' (by omega) (by omega)).1, n9 c' (by omega)]
  · rw [n16 c' g2, (x14 c' g0 (by omega)).1, n9 c' g2, (x7 c' g0 g1).1]
  · rw [(x14 c' g0 (by omega)).2, (x7 c' g0 g1).2]

theorem k_Desk_init {P : Nat → Lay → Mem → Prop} (hN : t + 1 = N) (o : Ob N Λ t 20 14) (hd : 6 ≤ d) (h : ∀ Λ' σ', DeskL (N + 645) Λ' t → Desk0 σ' t → Keep N Λ σ Λ' σ' t → P (N + 645) Λ' σ') : CC l mX11_init d 645 36428 [(2, t)] N Λ σ P := by
  have ht := o.1
  refine CC.of (m := 1) ok_mX11_init (Nat.le_of_ble_eq_true rfl) rfl (v_X11_init_0 o (by omega) ?_)
  refine ⟨⟨by decide, by decide⟩, fun a_now ea_now Λ1_now e1_now σ1_now e2_now => ⟨⟨by decide, by decide⟩, ?_⟩⟩
  have q_now : a_now = t + 1 := by omega
  refine k_State_init (N := N + 1) (by omega) (Ob_newS e1_now ea_now) (by omega) fun Λ2_now σ2_now hL_now hZ_now hk_now => ?_
  have m0_t := Ob_keep (N' := N + 1 + 21) hk_now (by omega) (Ob_new e1_now o) (by omega)
  have m0_now := hL_now.1
  refine ⟨m0_t, m0_now, fun Λ_now e3_now => ?_⟩
  have st_now : DStp Λ Λ_now σ σ2_now t a_now 0 := dstp_obj ht (by omega) ea_now e1_now e2_now hk_now e3_now
  have n0_t := Ob_stR e3_now m0_t
  have n0_now := Ob_stR e3_now m0_now
  have l3_now : ∀ c' : Int, c' ≠ t → Λ_now c' = Λ2_now c' := fun c' g => by rw [e3_now, stR_ne g]
  subst q_now
  clear e3_now e1_now e2_now ea_now hk_now m0_t m0_now
  refine ⟨⟨by decide, by decide⟩, fun a_his ea_his Λ1_his e1_his σ1_his e2_his => ⟨⟨by decide, by decide⟩, ?_⟩⟩
  have q_his : a_his = t + 23 := by omega
  refine k_Hist_init (N := N + 1 + 21 + 1) (by omega) (Ob_newS e1_his ea_his) (by omega) fun Λ2_his σ2_his hL_his hs_his hx_his hk_his => ?_
  have m1_t := Ob_keep (N' := N + 1 + 21 + 1 + 221) hk_his (by omega) (Ob_new e1_his n0_t) (by omega)
  have m1_now := Ob_keep (N' := N + 1 + 21 + 1 + 221) hk_his (by omega) (Ob_new e1_his n0_now) (by omega)
  have m1_his := hL_his.1
  refine ⟨m1_t, m1_now, m1_his, fun Λ_his e3_his => ?_⟩
  have st_his : DStp Λ_now Λ_his σ2_now σ2_his t a_his 1 := dstp_obj ht (by omega) ea_his e1_his e2_his hk_his e3_his
  have n1_t := Ob_stR e3_his m1_t
  have n1_now := Ob_stR e3_his m1_now
  have n1_his := Ob_stR e3_his m1_his
  have l3_his : ∀ c' : Int, c' ≠ t → Λ_his c' = Λ2_his c' := fun c' g => by rw [e3_his, stR_ne g]
  subst q_his
  clear e3_his e1_his e2_his ea_his hk_his m1_t m1_now m1_his
  refine ⟨⟨by decide, by decide⟩, fun a_img ea_img Λ1_img e1_img σ1_img e2_img Λ_img e3_img => ?_⟩
  have q_img : a_img = t + 245 := by omega
  have st_img : DStp Λ_his Λ_img σ2_his σ1_img t a_img 2 := dstp_arr ht (by omega) ea_img e1_img e2_img e3_img
  have n2_t := Ob_stR e3_img (Ob_new e1_img n1_t)
  have n2_now := Ob_stR e3_img (Ob_new e1_img n1_now)
  have n2_his := Ob_stR e3_img (Ob_new e1_img n1_his)
  have n2_img := Ob_stR e3_img (Ob_newS e1_img ea_img)
  subst q_img
  clear e3_img e1_img e2_img ea_img
  refine ⟨⟨by decide, by decide⟩, fun a_mad ea_mad Λ1_mad e1_mad σ1_mad e2_mad Λ_mad e3_mad => ?_⟩
  have q_mad : a_mad = t + 246 := by omega
  have st_mad : DStp Λ_img Λ_mad σ1_img σ1_mad t a_mad 3 := dstp_arr ht (by omega) ea_mad e1_mad e2_mad e3_mad
  have n3_t := Ob_stR e3_mad (Ob_new e1_mad n2_t)
  have n3_now := Ob_stR e3_mad (Ob_new e1_mad n2_now)
  have n3_his := Ob_stR e3_mad (Ob_new e1_mad n2_his)
  have n3_img := Ob_stR e3_mad (Ob_new e1_mad n2_img)
  have n3_mad := Ob_stR e3_mad (Ob_newS e1_mad ea_mad)
  have z_mad : ∀ j : Int, σ1_mad a_mad j = 0 := fun j => by rw [e2_mad, ea_mad]; unfold newM; rw [if_pos (by omega)]
  subst q_mad
  clear e3_mad e1_mad e2_mad ea_mad
  refine ⟨⟨by decide, by decide⟩, fun a_tap ea_tap Λ1_tap e1_tap σ1_tap e2_tap => ⟨⟨by decide, by decide⟩, ?_⟩⟩
  have q_tap : a_tap = t + 247 := by omega
  refine k_Tape_init (N := N + 1 + 21 + 1 + 221 + 1 + 1 + 1) (by omega) (Ob_newS e1_tap ea_tap) (by omega) fun Λ2_tap σ2_tap hL_tap hs_tap hf_tap hp_tap hk_tap => ?_
  have m4_t := Ob_keep (N' := N + 1 + 21 + 1 + 221 + 1 + 1 + 1 + 3) hk_tap (by omega) (Ob_new e1_tap n3_t) (by omega)
  have m4_now := Ob_keep (N' := N + 1 + 21 + 1 + 221 + 1 + 1 + 1 + 3) hk_tap (by omega) (Ob_new e1_tap n3_now) (by omega)
  have m4_his := Ob_keep (N' := N + 1 + 21 + 1 + 221 + 1 + 1 + 1 + 3) hk_tap (by omega) (Ob_new e1_tap n3_his) (by omega)
  have m4_img := Ob_keep (N' := N + 1 + 21 + 1 + 221 + 1 + 1 + 1 + 3) hk_tap (by omega) (Ob_new e1_tap n3_img) (by omega)
  have m4_mad := Ob_keep (N' := N + 1 + 21 + 1 + 221 + 1 + 1 + 1 + 3) hk_tap (by omega) (Ob_new e1_tap n3_mad) (by omega)
  have m4_tap := hL_tap.1
  refine ⟨m4_t, m4_now, m4_his, m4_img, m4_mad, m4_tap, fun Λ_tap e3_tap => ?_⟩
  have st_tap : DStp Λ_mad Λ_tap σ1_mad σ2_tap t a_tap 4 := dstp_obj ht (by omega) ea_tap e1_tap e2_tap hk_tap e3_tap
  have n4_t := Ob_stR e3_tap m4_t
  have n4_now := Ob_stR e3_tap m4_now
  have n4_his := Ob_stR e3_tap m4_his
  have n4_img := Ob_stR e3_tap m4_img
  have n4_mad := Ob_stR e3_tap m4_mad
  have n4_tap := Ob_stR e3_tap m4_tap
  have l3_tap : ∀ c' : Int, c' ≠ t → Λ_tap c' = Λ2_tap c' := fun c' g => by rw [e3_tap, stR_ne g]
  subst q_tap
  clear e3_tap e1_tap e2_tap ea_tap hk_tap m4_t m4_now m4_his m4_img m4_mad m4_tap
  refine ⟨⟨by decide, by decide⟩, fun a_str ea_str Λ1_str e1_str σ1_str e2_str => ⟨⟨by decide, by decide⟩, ?_⟩⟩
  have q_str : a_str = t + 251 := by omega
  refine k_Str_init (N := N + 1 + 21 + 1 + 221 + 1 + 1 + 1 + 3 + 1) (by omega) (Ob_newS e1_str ea_str) (by omega) fun Λ2_str σ2_str hL_str hk_str => ?_
  have m5_t := Ob_keep (N' := N + 1 + 21 + 1 + 221 + 1 + 1 + 1 + 3 + 1 + 1) hk_str (by omega) (Ob_new e1_str n4_t) (by omega)
  have m5_now := Ob_keep (N' := N + 1 + 21 + 1 + 221 + 1 + 1 + 1 + 3 + 1 + 1) hk_str (by omega) (Ob_new e1_str n4_now) (by omega)
  have m5_his := Ob_keep (N' := N + 1 + 21 + 1 + 221 + 1 + 1 + 1 + 3 + 1 + 1) hk_str (by omega) (Ob_new e1_str n4_his) (by omega)
  have m5_img := Ob_keep (N' := N + 1 + 21 + 1 + 221 + 1 + 1 + 1 + 3 + 1 + 1) hk_str (by omega) (Ob_new e1_str n4_img) (by omega)
  have m5_mad := Ob_keep (N' := N + 1 + 21 + 1 + 221 + 1 + 1 + 1 + 3 + 1 + 1) hk_str (by omega) (Ob_new e1_str n4_mad) (by omega)
  have m5_tap := Ob_keep (N' := N + 1 + 21 + 1 + 221 + 1 + 1 + 1 + 3 + 1 + 1) hk_str (by omega) (Ob_new e1_str n4_tap) (by omega)
  have m5_str := hL_str.1
  refine ⟨m5_t, m5_now, m5_his, m5_img, m5_mad, m5_tap, m5_str, fun Λ_str e3_str => ?_⟩
  have st_str : DStp Λ_tap Λ_str σ2_tap σ2_str t a_str 5 := dstp_obj ht (by omega) ea_str e1_str e2_str hk_str e3_str
  have n5_t := Ob_stR e3_str m5_t
  have n5_now := Ob_stR e3_str m5_now
  have n5_his := Ob_stR e3_str m5_his
  have n5_img := Ob_stR e3_str m5_img
  have n5_mad := Ob_stR e3_str m5_mad
  have n5_tap := Ob_stR e3_str m5_tap
  have n5_str := Ob_stR e3_str m5_str
  have l3_str : ∀ c' : Int, c' ≠ t → Λ_str c' = Λ2_str c' := fun c' g => by rw [e3_str, stR_ne g]
  subst q_str
  clear e3_str e1_str e2_str ea_str hk_str m5_t m5_now m5_his m5_img m5_mad m5_tap m5_str
  refine ⟨⟨by decide, by decide⟩, fun a_fig ea_fig Λ1_fig e1_fig σ1_fig e2_fig => ⟨⟨by decide, by decide⟩, ?_⟩⟩
  have q_fig : a_fig = t + 253 := by omega
  refine k_Fig_init (N := N + 1 + 21 + 1 + 221 + 1 + 1 + 1 + 3 + 1 + 1 + 1) (by omega) (Ob_newS e1_fig ea_fig) (by omega) fun Λ2_fig σ2_fig hL_fig hk_fig => ?_
  have m6_t := Ob_keep (N' := N + 1 + 21 + 1 + 221 + 1 + 1 + 1 + 3 + 1 + 1 + 1 + 315) hk_fig (by omega) (Ob_new e1_fig n5_t) (by omega)
  have m6_now := Ob_keep (N' := N + 1 + 21 + 1 + 221 + 1 + 1 + 1 + 3 + 1 + 1 + 1 + 315) hk_fig (by omega) (Ob_new e1_fig n5_now) (by omega)
  have m6_his := Ob_keep (N' := N + 1 + 21 + 1 + 221 + 1 + 1 + 1 + 3 + 1 + 1 + 1 + 315) hk_fig (by omega) (Ob_new e1_fig n5_his) (by omega)
  have m6_img := Ob_keep (N' := N + 1 + 21 + 1 + 221 + 1 + 1 + 1 + 3 + 1 + 1 + 1 + 315) hk_fig (by omega) (Ob_new e1_fig n5_img) (by omega)
  have m6_mad := Ob_keep (N' := N + 1 + 21 + 1 + 221 + 1 + 1 + 1 + 3 + 1 + 1 + 1 + 315) hk_fig (by omega) (Ob_new e1_fig n5_mad) (by omega)
  have m6_tap := Ob_keep (N' := N + 1 + 21 + 1 + 221 + 1 + 1 + 1 + 3 + 1 + 1 + 1 + 315) hk_fig (by omega) (Ob_new e1_fig n5_tap) (by omega)
  have m6_str := Ob_keep (N' := N + 1 + 21 + 1 + 221 + 1 + 1 + 1 + 3 + 1 + 1 + 1 + 315) hk_fig (by omega) (Ob_new e1_fig n5_str) (by omega)
  have m6_fig := hL_fig.1.1.1
  refine ⟨m6_t, m6_now, m6_his, m6_img, m6_mad, m6_tap, m6_str, m6_fig, fun Λ_fig e3_fig => ?_⟩
  have st_fig : DStp Λ_str Λ_fig σ2_str σ2_fig t a_fig 6 := dstp_obj ht (by omega) ea_fig e1_fig e2_fig hk_fig e3_fig
  have n6_t := Ob_stR e3_fig m6_t
  have n6_now := Ob_stR e3_fig m6_now
  have n6_his := Ob_stR e3_fig m6_his
  have n6_img := Ob_stR e3_fig m6_img
  have n6_mad := Ob_stR e3_fig m6_mad
  have n6_tap := Ob_stR e3_fig m6_tap
  have n6_str := Ob_stR e3_fig m6_str
  have n6_fig := Ob_stR e3_fig m6_fig
  have l3_fig : ∀ c' : Int, c' ≠ t → Λ_fig c' = Λ2_fig c' := fun c' g => by rw [e3_fig, stR_ne g]
  subst q_fig
  clear e3_fig e1_fig e2_fig ea_fig hk_fig m6_t m6_now m6_his m6_img m6_mad m6_tap m6_str m6_fig
  refine ⟨⟨by decide, by decide⟩, fun a_frm ea_frm Λ1_frm e1_frm σ1_frm e2_frm => ⟨⟨by decide, by decide⟩, ?_⟩⟩
  have q_frm : a_frm = t + 569 := by omega
  refine k_Forms_init (N := N + 1 + 21 + 1 + 221 + 1 + 1 + 1 + 3 + 1 + 1 + 1 + 315 + 1) (by omega) (Ob_newS e1_frm ea_frm) (by omega) fun Λ2_frm σ2_frm hL_frm hk_frm => ?_
  have m7_t := Ob_keep (N' := N + 1 + 21 + 1 + 221 + 1 + 1 + 1 + 3 + 1 + 1 + 1 + 315 + 1 + 2) hk_frm (by omega) (Ob_new e1_frm n6_t) (by omega)
  have m7_now := Ob_keep (N' := N + 1 + 21 + 1 + 221 + 1 + 1 + 1 + 3 + 1 + 1 + 1 + 315 + 1 + 2) hk_frm (by omega) (Ob_new e1_frm n6_now) (by omega)
  have m7_his := Ob_keep (N' := N + 1 + 21 + 1 + 221 + 1 + 1 + 1 + 3 + 1 + 1 + 1 + 315 + 1 + 2) hk_frm (by omega) (Ob_new e1_frm n6_his) (by omega)
  have m7_img := Ob_keep (N' := N + 1 + 21 + 1 + 221 + 1 + 1 + 1 + 3 + 1 + 1 + 1 + 315 + 1 + 2) hk_frm (by omega) (Ob_new e1_frm n6_img) (by omega)
  have m7_mad := Ob_keep (N' := N + 1 + 21 + 1 + 221 + 1 + 1 + 1 + 3 + 1 + 1 + 1 + 315 + 1 + 2) hk_frm (by omega) (Ob_new e1_frm n6_mad) (by omega)
  have m7_tap := Ob_keep (N' := N + 1 + 21 + 1 + 221 + 1 + 1 + 1 + 3 + 1 + 1 + 1 + 315 + 1 + 2) hk_frm (by omega) (Ob_new e1_frm n6_tap) (by omega)
  have m7_str := Ob_keep (N' := N + 1 + 21 + 1 + 221 + 1 + 1 + 1 + 3 + 1 + 1 + 1 + 315 + 1 + 2) hk_frm (by omega) (Ob_new e1_frm n6_str) (by omega)
  have m7_fig := Ob_keep (N' := N + 1 + 21 + 1 + 221 + 1 + 1 + 1 + 3 + 1 + 1 + 1 + 315 + 1 + 2) hk_frm (by omega) (Ob_new e1_frm n6_fig) (by omega)
  have m7_frm := hL_frm.1
  refine ⟨m7_t, m7_now, m7_his, m7_img, m7_mad, m7_tap, m7_str, m7_fig, m7_frm, fun Λ_frm e3_frm => ?_⟩
  have st_frm : DStp Λ_fig Λ_frm σ2_fig σ2_frm t a_frm 7 := dstp_obj ht (by omega) ea_frm e1_frm e2_frm hk_frm e3_frm
  have n7_t := Ob_stR e3_frm m7_t
  have n7_now := Ob_stR e3_frm m7_now
  have n7_his := Ob_stR e3_frm m7_his
  have n7_img := Ob_stR e3_frm m7_img
  have n7_mad := Ob_stR e3_frm m7_mad
  have n7_tap := Ob_stR e3_frm m7_tap
  have n7_str := Ob_stR e3_frm m7_str
  have n7_fig := Ob_stR e3_frm m7_fig
  have n7_frm := Ob_stR e3_frm m7_frm
  have l3_frm : ∀ c' : Int, c' ≠ t → Λ_frm c' = Λ2_frm c' := fun c' g => by rw [e3_frm, stR_ne g]
  subst q_frm
  clear e3_frm e1_frm e2_frm ea_frm hk_frm m7_t m7_now m7_his m7_img m7_mad m7_tap m7_str m7_fig m7_frm
  refine ⟨⟨by decide, by decide⟩, fun a_eli ea_eli Λ1_eli e1_eli σ1_eli e2_eli => ⟨⟨by decide, by decide⟩, ?_⟩⟩
  have q_eli : a_eli = t + 572 := by omega
  refine k_Elim_init (N := N + 1 + 21 + 1 + 221 + 1 + 1 + 1 + 3 + 1 + 1 + 1 + 315 + 1 + 2 + 1) (by omega) (Ob_newS e1_eli ea_eli) (by omega) fun Λ2_eli σ2_eli hL_eli hk_eli => ?_
  have m8_t := Ob_keep (N' := N + 1 + 21 + 1 + 221 + 1 + 1 + 1 + 3 + 1 + 1 + 1 + 315 + 1 + 2 + 1 + 8) hk_eli (by omega) (Ob_new e1_eli n7_t) (by omega)
  have m8_now := Ob_keep (N' := N + 1 + 21 + 1 + 221 + 1 + 1 + 1 + 3 + 1 + 1 + 1 + 315 + 1 + 2 + 1 + 8) hk_eli (by omega) (Ob_new e1_eli n7_now) (by omega)
  have m8_his := Ob_keep (N' := N + 1 + 21 + 1 + 221 + 1 + 1 + 1 + 3 + 1 + 1 + 1 + 315 + 1 + 2 + 1 + 8) hk_eli (by omega) (Ob_new e1_eli n7_his) (by omega)
  have m8_img := Ob_keep (N' := N + 1 + 21 + 1 + 221 + 1 + 1 + 1 + 3 + 1 + 1 + 1 + 315 + 1 + 2 + 1 + 8) hk_eli (by omega) (Ob_new e1_eli n7_img) (by omega)
  have m8_mad := Ob_keep (N' := N + 1 + 21 + 1 + 221 + 1 + 1 + 1 + 3 + 1 + 1 + 1 + 315 + 1 + 2 + 1 + 8) hk_eli (by omega) (Ob_new e1_eli n7_mad) (by omega)
  have m8_tap := Ob_keep (N' := N + 1 + 21 + 1 + 221 + 1 + 1 + 1 + 3 + 1 + 1 + 1 + 315 + 1 + 2 + 1 + 8) hk_eli (by omega) (Ob_new e1_eli n7_tap) (by omega)
  have m8_str := Ob_keep (N' := N + 1 + 21 + 1 + 221 + 1 + 1 + 1 + 3 + 1 + 1 + 1 + 315 + 1 + 2 + 1 + 8) hk_eli (by omega) (Ob_new e1_eli n7_str) (by omega)
  have m8_fig := Ob_keep (N' := N + 1 + 21 + 1 + 221 + 1 + 1 + 1 + 3 + 1 + 1 + 1 + 315 + 1 + 2 + 1 + 8) hk_eli (by omega) (Ob_new e1_eli n7_fig) (by omega)
  have m8_frm := Ob_keep (N' := N + 1 + 21 + 1 + 221 + 1 + 1 + 1 + 3 + 1 + 1 + 1 + 315 + 1 + 2 + 1 + 8) hk_eli (by omega) (Ob_new e1_eli n7_frm) (by omega)
  have m8_eli := hL_eli.1
  refine ⟨m8_t, m8_now, m8_his, m8_img, m8_mad, m8_tap, m8_str, m8_fig, m8_frm, m8_eli, fun Λ_eli e3_eli => ?_⟩
  have st_eli : DStp Λ_frm Λ_eli σ2_frm σ2_eli t a_eli 8 := dstp_obj ht (by omega) ea_eli e1_eli e2_eli hk_eli e3_eli
  have n8_t := Ob_stR e3_eli m8_t
  have n8_now := Ob_stR e3_eli m8_now
  have n8_his := Ob_stR e3_eli m8_his
  have n8_img := Ob_stR e3_eli m8_img
  have n8_mad := Ob_stR e3_eli m8_mad
  have n8_tap := Ob_stR e3_eli m8_tap
  have n8_str := Ob_stR e3_eli m8_str
  have n8_fig := Ob_stR e3_eli m8_fig
  have n8_frm := Ob_stR e3_eli m8_frm
  have n8_eli := Ob_stR e3_eli m8_eli
  have l3_eli : ∀ c' : Int, c' ≠ t → Λ_eli c' = Λ2_eli c' := fun c' g => by rw [e3_eli, stR_ne g]
  subst q_eli
  clear e3_eli e1_eli e2_eli ea_eli hk_eli m8_t m8_now m8_his m8_img m8_mad m8_tap m8_str m8_fig m8_frm m8_eli
  refine ⟨⟨by decide, by decide⟩, fun a_fac ea_fac Λ1_fac e1_fac σ1_fac e2_fac => ⟨⟨by decide, by decide⟩, ?_⟩⟩
  have q_fac : a_fac = t + 581 := by omega
  refine k_Fac_init (N := N + 1 + 21 + 1 + 221 + 1 + 1 + 1 + 3 + 1 + 1 + 1 + 315 + 1 + 2 + 1 + 8 + 1) (by omega) (Ob_newS e1_fac ea_fac) (by omega) fun Λ2_fac σ2_fac hL_fac hk_fac => ?_
  have m9_t := Ob_keep (N' := N + 1 + 21 + 1 + 221 + 1 + 1 + 1 + 3 + 1 + 1 + 1 + 315 + 1 + 2 + 1 + 8 + 1 + 13) hk_fac (by omega) (Ob_new e1_fac n8_t) (by omega)
  have m9_now := Ob_keep (N' := N + 1 + 21 + 1 + 221 + 1 + 1 + 1 + 3 + 1 + 1 + 1 + 315 + 1 + 2 + 1 + 8 + 1 + 13) hk_fac (by omega) (Ob_new e1_fac n8_now) (by omega)
  have m9_his := Ob_keep (N' := N + 1 + 21 + 1 + 221 + 1 + 1 + 1 + 3 + 1 + 1 + 1 + 315 + 1 + 2 + 1 + 8 + 1 + 13) hk_fac (by omega) (Ob_new e1_fac n8_his) (by omega)
  have m9_img := Ob_keep (N' := N + 1 + 21 + 1 + 221 + 1 + 1 + 1 + 3 + 1 + 1 + 1 + 315 + 1 + 2 + 1 + 8 + 1 + 13) hk_fac (by omega) (Ob_new e1_fac n8_img) (by omega)
  have m9_mad := Ob_keep (N' := N + 1 + 21 + 1 + 221 + 1 + 1 + 1 + 3 + 1 + 1 + 1 + 315 + 1 + 2 + 1 + 8 + 1 + 13) hk_fac (by omega) (Ob_new e1_fac n8_mad) (by omega)
  have m9_tap := Ob_keep (N' := N + 1 + 21 + 1 + 221 + 1 + 1 + 1 + 3 + 1 + 1 + 1 + 315 + 1 + 2 + 1 + 8 + 1 + 13) hk_fac (by omega) (Ob_new e1_fac n8_tap) (by omega)
  have m9_str := Ob_keep (N' := N + 1 + 21 + 1 + 221 + 1 + 1 + 1 + 3 + 1 + 1 + 1 + 315 + 1 + 2 + 1 + 8 + 1 + 13) hk_fac (by omega) (Ob_new e1_fac n8_str) (by omega)
  have m9_fig := Ob_keep (N' := N + 1 + 21 + 1 + 221 + 1 + 1 + 1 + 3 + 1 + 1 + 1 + 315 + 1 + 2 + 1 + 8 + 1 + 13) hk_fac (by omega) (Ob_new e1_fac n8_fig) (by omega)
  have m9_frm := Ob_keep (N' := N + 1 + 21 + 1 + 221 + 1 + 1 + 1 + 3 + 1 + 1 + 1 + 315 + 1 + 2 + 1 + 8 + 1 + 13) hk_fac (by omega) (Ob_new e1_fac n8_frm) (by omega)
  have m9_eli := Ob_keep (N' := N + 1 + 21 + 1 + 221 + 1 + 1 + 1 + 3 + 1 + 1 + 1 + 315 + 1 + 2 + 1 + 8 + 1 + 13) hk_fac (by omega) (Ob_new e1_fac n8_eli) (by omega)
  have m9_fac := hL_fac.1
  refine ⟨m9_t, m9_now, m9_his, m9_img, m9_mad, m9_tap, m9_str, m9_fig, m9_frm, m9_eli, m9_fac, fun Λ_fac e3_fac => ?_⟩
  have st_fac : DStp Λ_eli Λ_fac σ2_eli σ2_fac t a_fac 9 := dstp_obj ht (by omega) ea_fac e1_fac e2_fac hk_fac e3_fac
  have n9_t := Ob_stR e3_fac m9_t
  have n9_now := Ob_stR e3_fac m9_now
  have n9_his := Ob_stR e3_fac m9_his
  have n9_img := Ob_stR e3_fac m9_img
  have n9_mad := Ob_stR e3_fac m9_mad
  have n9_tap := Ob_stR e3_fac m9_tap
  have n9_str := Ob_stR e3_fac m9_str
  have n9_fig := Ob_stR e3_fac m9_fig
  have n9_frm := Ob_stR e3_fac m9_frm
  have n9_eli := Ob_stR e3_fac m9_eli
  have n9_fac := Ob_stR e3_fac m9_fac
  have l3_fac : ∀ c' : Int, c' ≠ t → Λ_fac c' = Λ2_fac c' := fun c' g => by rw [e3_fac, stR_ne g]
  subst q_fac
  clear e3_fac e1_fac e2_fac ea_fac hk_fac m9_t m9_now m9_his m9_img m9_mad m9_tap m9_str m9_fig m9_frm m9_eli m9_fac
  refine ⟨⟨by decide, by decide⟩, fun a_trm ea_trm Λ1_trm e1_trm σ1_trm e2_trm => ⟨⟨by decide, by decide⟩, ?_⟩⟩
  have q_trm : a_trm = t + 595 := by omega
  refine k_Term_init (N := N + 1 + 21 + 1 + 221 + 1 + 1 + 1 + 3 + 1 + 1 + 1 + 315 + 1 + 2 + 1 + 8 + 1 + 13 + 1) (Ob_newS e1_trm ea_trm) (by omega) fun σ2_trm z0 z1 hne => ?_
  have hk_trm : Keep (N + 1 + 21 + 1 + 221 + 1 + 1 + 1 + 3 + 1 + 1 + 1 + 315 + 1 + 2 + 1 + 8 + 1 + 13 + 1) Λ1_trm σ1_trm Λ1_trm σ2_trm a_trm := fun c' _ _ g => ⟨rfl, hne c' g⟩
  have m10_t := Ob_keep (N' := N + 1 + 21 + 1 + 221 + 1 + 1 + 1 + 3 + 1 + 1 + 1 + 315 + 1 + 2 + 1 + 8 + 1 + 13 + 1) hk_trm (by omega) (Ob_new e1_trm n9_t) (by omega)
  have m10_now := Ob_keep (N' := N + 1 + 21 + 1 + 221 + 1 + 1 + 1 + 3 + 1 + 1 + 1 + 315 + 1 + 2 + 1 + 8 + 1 + 13 + 1) hk_trm (by omega) (Ob_new e1_trm n9_now) (by omega)
  have m10_his := Ob_keep (N' := N + 1 + 21 + 1 + 221 + 1 + 1 + 1 + 3 + 1 + 1 + 1 + 315 + 1 + 2 + 1 + 8 + 1 + 13 + 1) hk_trm (by omega) (Ob_new e1_trm n9_his) (by omega)
  have m10_img := Ob_keep (N' := N + 1 + 21 + 1 + 221 + 1 + 1 + 1 + 3 + 1 + 1 + 1 + 315 + 1 + 2 + 1 + 8 + 1 + 13 + 1) hk_trm (by omega) (Ob_new e1_trm n9_img) (by omega)
  have m10_mad := Ob_keep (N' := N + 1 + 21 + 1 + 221 + 1 + 1 + 1 + 3 + 1 + 1 + 1 + 315 + 1 + 2 + 1 + 8 + 1 + 13 + 1) hk_trm (by omega) (Ob_new e1_trm n9_mad) (by omega)
  have m10_tap := Ob_keep (N' := N + 1 + 21 + 1 + 221 + 1 + 1 + 1 + 3 + 1 + 1 + 1 + 315 + 1 + 2 + 1 + 8 + 1 + 13 + 1) hk_trm (by omega) (Ob_new e1_trm n9_tap) (by omega)
  have m10_str := Ob_keep (N' := N + 1 + 21 + 1 + 221 + 1 + 1 + 1 + 3 + 1 + 1 + 1 + 315 + 1 + 2 + 1 + 8 + 1 + 13 + 1) hk_trm (by omega) (Ob_new e1_trm n9_str) (by omega)
  have m10_fig := Ob_keep (N' := N + 1 + 21 + 1 + 221 + 1 + 1 + 1 + 3 + 1 + 1 + 1 + 315 + 1 + 2 + 1 + 8 + 1 + 13 + 1) hk_trm (by omega) (Ob_new e1_trm n9_fig) (by omega)
  have m10_frm := Ob_keep (N' := N + 1 + 21 + 1 + 221 + 1 + 1 + 1 + 3 + 1 + 1 + 1 + 315 + 1 + 2 + 1 + 8 + 1 + 13 + 1) hk_trm (by omega) (Ob_new e1_trm n9_frm) (by omega)
  have m10_eli := Ob_keep (N' := N + 1 + 21 + 1 + 221 + 1 + 1 + 1 + 3 + 1 + 1 + 1 + 315 + 1 + 2 + 1 + 8 + 1 + 13 + 1) hk_trm (by omega) (Ob_new e1_trm n9_eli) (by omega)
  have m10_fac := Ob_keep (N' := N + 1 + 21 + 1 + 221 + 1 + 1 + 1 + 3 + 1 + 1 + 1 + 315 + 1 + 2 + 1 + 8 + 1 + 13 + 1) hk_trm (by omega) (Ob_new e1_trm n9_fac) (by omega)
  have m10_trm := Ob_newS e1_trm ea_trm
  refine ⟨m10_t, m10_now, m10_his, m10_img, m10_mad, m10_tap, m10_str, m10_fig, m10_frm, m10_eli, m10_fac, m10_trm, fun Λ_trm e3_trm => ?_⟩
  have st_trm : DStp Λ_fac Λ_trm σ2_fac σ2_trm t a_trm 10 := dstp_obj ht (by omega) ea_trm e1_trm e2_trm hk_trm e3_trm
  have n10_t := Ob_stR e3_trm m10_t
  have n10_now := Ob_stR e3_trm m10_now
  have n10_his := Ob_stR e3_trm m10_his
  have n10_img := Ob_stR e3_trm m10_img
  have n10_mad := Ob_stR e3_trm m10_mad
  have n10_tap := Ob_stR e3_trm m10_tap
  have n10_str := Ob_stR e3_trm m10_str
  have n10_fig := Ob_stR e3_trm m10_fig
  have n10_frm := Ob_stR e3_trm m10_frm
  have n10_eli := Ob_stR e3_trm m10_eli
  have n10_fac := Ob_stR e3_trm m10_fac
  have n10_trm := Ob_stR e3_trm m10_trm
  have l3_trm : ∀ c' : Int, c' ≠ t → Λ_trm c' = Λ1_trm c' := fun c' g => by rw [e3_trm, stR_ne g]
  subst q_trm
  clear e3_trm e1_trm e2_trm ea_trm hk_trm m10_t m10_now m10_his m10_img m10_mad m10_tap m10_str m10_fig m10_frm m10_eli m10_fac m10_trm
  refine ⟨⟨by decide, by decide⟩, fun a_wrk ea_wrk Λ1_wrk e1_wrk σ1_wrk e2_wrk => ⟨⟨by decide, by decide⟩, ?_⟩⟩
  have q_wrk : a_wrk = t + 596 := by omega
  refine k_Poly_init (N := N + 1 + 21 + 1 + 221 + 1 + 1 + 1 + 3 + 1 + 1 + 1 + 315 + 1 + 2 + 1 + 8 + 1 + 13 + 1 + 1) (by omega) (Ob_newS e1_wrk ea_wrk) (by omega) fun Λ2_wrk σ2_wrk hL_wrk hZ_wrk hk_wrk => ?_
  have m11_t := Ob_keep (N' := N + 1 + 21 + 1 + 221 + 1 + 1 + 1 + 3 + 1 + 1 + 1 + 315 + 1 + 2 + 1 + 8 + 1 + 13 + 1 + 1 + 2) hk_wrk (by omega) (Ob_new e1_wrk n10_t) (by omega)
  have m11_now := Ob_keep (N' := N + 1 + 21 + 1 + 221 + 1 + 1 + 1 + 3 + 1 + 1 + 1 + 315 + 1 + 2 + 1 + 8 + 1 + 13 + 1 + 1 + 2) hk_wrk (by omega) (Ob_new e1_wrk n10_now) (by omega)
  have m11_his := Ob_keep (N' := N + 1 + 21 + 1 + 221 + 1 + 1 + 1 + 3 + 1 + 1 + 1 + 315 + 1 + 2 + 1 + 8 + 1 + 13 + 1 + 1 + 2) hk_wrk (by omega) (Ob_new e1_wrk n10_his) (by omega)
  have m11_img := Ob_keep (N' := N + 1 + 21 + 1 + 221 + 1 + 1 + 1 + 3 + 1 + 1 + 1 + 315 + 1 + 2 + 1 + 8 + 1 + 13 + 1 + 1 + 2) hk_wrk (by omega) (Ob_new e1_wrk n10_img) (by omega)
  have m11_mad := Ob_keep (N' := N + 1 + 21 + 1 + 221 + 1 + 1 + 1 + 3 + 1 + 1 + 1 + 315 + 1 + 2 + 1 + 8 + 1 + 13 + 1 + 1 + 2) hk_wrk (by omega) (Ob_new e1_wrk n10_mad) (by omega)
  have m11_tap := Ob_keep (N' := N + 1 + 21 + 1 + 221 + 1 + 1 + 1 + 3 + 1 + 1 + 1 + 315 + 1 + 2 + 1 + 8 + 1 + 13 + 1 + 1 + 2) hk_wrk (by omega) (Ob_new e1_wrk n10_tap) (by omega)
  have m11_str := Ob_keep (N' := N + 1 + 21 + 1 + 221 + 1 + 1 + 1 + 3 + 1 + 1 + 1 + 315 + 1 + 2 + 1 + 8 + 1 + 13 + 1 + 1 + 2) hk_wrk (by omega) (Ob_new e1_wrk n10_str) (by omega)
  have m11_fig := Ob_keep (N' := N + 1 + 21 + 1 + 221 + 1 + 1 + 1 + 3 + 1 + 1 + 1 + 315 + 1 + 2 + 1 + 8 + 1 + 13 + 1 + 1 + 2) hk_wrk (by omega) (Ob_new e1_wrk n10_fig) (by omega)
  have m11_frm := Ob_keep (N' := N + 1 + 21 + 1 + 221 + 1 + 1 + 1 + 3 + 1 + 1 + 1 + 315 + 1 + 2 + 1 + 8 + 1 + 13 + 1 + 1 + 2) hk_wrk (by omega) (Ob_new e1_wrk n10_frm) (by omega)
  have m11_eli := Ob_keep (N' := N + 1 + 21 + 1 + 221 + 1 + 1 + 1 + 3 + 1 + 1 + 1 + 315 + 1 + 2 + 1 + 8 + 1 + 13 + 1 + 1 + 2) hk_wrk (by omega) (Ob_new e1_wrk n10_eli) (by omega)
  have m11_fac := Ob_keep (N' := N + 1 + 21 + 1 + 221 + 1 + 1 + 1 + 3 + 1 + 1 + 1 + 315 + 1 + 2 + 1 + 8 + 1 + 13 + 1 + 1 + 2) hk_wrk (by omega) (Ob_new e1_wrk n10_fac) (by omega)
  have m11_trm := Ob_keep (N' := N + 1 + 21 + 1 + 221 + 1 + 1 + 1 + 3 + 1 + 1 + 1 + 315 + 1 + 2 + 1 + 8 + 1 + 13 + 1 + 1 + 2) hk_wrk (by omega) (Ob_new e1_wrk n10_trm) (by omega)
  have m11_wrk := hL_wrk.1
  refine ⟨m11_t, m11_now, m11_his, m11_img, m11_mad, m11_tap, m11_str, m11_fig, m11_frm, m11_eli, m11_fac, m11_trm, m11_wrk, fun Λ_wrk e3_wrk => ?_⟩
  have st_wrk : DStp Λ_trm Λ_wrk σ2_trm σ2_wrk t a_wrk 11 := dstp_obj ht (by omega) ea_wrk e1_wrk e2_wrk hk_wrk e3_wrk
  have n11_t := Ob_stR e3_wrk m11_t
  have n11_now := Ob_stR e3_wrk m11_now
  have n11_his := Ob_stR e3_wrk m11_his
  have n11_img := Ob_stR e3_wrk m11_img
  have n11_mad := Ob_stR e3_wrk m11_mad
  have n11_tap := Ob_stR e3_wrk m11_tap
  have n11_str := Ob_stR e3_wrk m11_str
  have n11_fig := Ob_stR e3_wrk m11_fig
  have n11_frm := Ob_stR e3_wrk m11_frm
  have n11_eli := Ob_stR e3_wrk m11_eli
  have n11_fac := Ob_stR e3_wrk m11_fac
  have n11_trm := Ob_stR e3_wrk m11_trm
  have n11_wrk := Ob_stR e3_wrk m11_wrk
  have l3_wrk : ∀ c' : Int, c' ≠ t → Λ_wrk c' = Λ2_wrk c' := fun c' g => by rw [e3_wrk, stR_ne g]
  subst q_wrk
  clear e3_wrk e1_wrk e2_wrk ea_wrk hk_wrk m11_t m11_now m11_his m11_img m11_mad m11_tap m11_str m11_fig m11_frm m11_eli m11_fac m11_trm m11_wrk
  refine ⟨⟨by decide, by decide⟩, fun a_oth ea_oth Λ1_oth e1_oth σ1_oth e2_oth => ⟨⟨by decide, by decide⟩, ?_⟩⟩
  have q_oth : a_oth = t + 599 := by omega
  refine k_Poly_init (N := N + 1 + 21 + 1 + 221 + 1 + 1 + 1 + 3 + 1 + 1 + 1 + 315 + 1 + 2 + 1 + 8 + 1 + 13 + 1 + 1 + 2 + 1) (by omega) (Ob_newS e1_oth ea_oth) (by omega) fun Λ2_oth σ2_oth hL_oth hZ_oth hk_oth => ?_
  have m12_t := Ob_keep (N' := N + 1 + 21 + 1 + 221 + 1 + 1 + 1 + 3 + 1 + 1 + 1 + 315 + 1 + 2 + 1 + 8 + 1 + 13 + 1 + 1 + 2 + 1 + 2) hk_oth (by omega) (Ob_new e1_oth n11_t) (by omega)
  have m12_now := Ob_keep (N' := N + 1 + 21 + 1 + 221 + 1 + 1 + 1 + 3 + 1 + 1 + 1 + 315 + 1 + 2 + 1 + 8 + 1 + 13 + 1 + 1 + 2 + 1 + 2) hk_oth (by omega) (Ob_new e1_oth n11_now) (by omega)
  have m12_his := Ob_keep (N' := N + 1 + 21 + 1 + 221 + 1 + 1 + 1 + 3 + 1 + 1 + 1 + 315 + 1 + 2 + 1 + 8 + 1 + 13 + 1 + 1 + 2 + 1 + 2) hk_oth (by omega) (Ob_new e1_oth n11_his) (by omega)
  have m12_img := Ob_keep (N' := N + 1 + 21 + 1 + 221 + 1 + 1 + 1 + 3 + 1 + 1 + 1 + 315 + 1 + 2 + 1 + 8 + 1 + 13 + 1 + 1 + 2 + 1 + 2) hk_oth (by omega) (Ob_new e1_oth n11_img) (by omega)
  have m12_mad := Ob_keep (N' := N + 1 + 21 + 1 + 221 + 1 + 1 + 1 + 3 + 1 + 1 + 1 + 315 + 1 + 2 + 1 + 8 + 1 + 13 + 1 + 1 + 2 + 1 + 2) hk_oth (by omega) (Ob_new e1_oth n11_mad) (by omega)
  have m12_tap := Ob_keep (N' := N + 1 + 21 + 1 + 221 + 1 + 1 + 1 + 3 + 1 + 1 + 1 + 315 + 1 + 2 + 1 + 8 + 1 + 13 + 1 + 1 + 2 + 1 + 2) hk_oth (by omega) (Ob_new e1_oth n11_tap) (by omega)
  have m12_str := Ob_keep (N' := N + 1 + 21 + 1 + 221 + 1 + 1 + 1 + 3 + 1 + 1 + 1 + 315 + 1 + 2 + 1 + 8 + 1 + 13 + 1 + 1 + 2 + 1 + 2) hk_oth (by omega) (Ob_new e1_oth n11_str) (by omega)
  have m12_fig := Ob_keep (N' := N + 1 + 21 + 1 + 221 + 1 + 1 + 1 + 3 + 1 + 1 + 1 + 315 + 1 + 2 + 1 + 8 + 1 + 13 + 1 + 1 + 2 + 1 + 2) hk_oth (by omega) (Ob_new e1_oth n11_fig) (by omega)
  have m12_frm := Ob_keep (N' := N + 1 + 21 + 1 + 221 + 1 + 1 + 1 + 3 + 1 + 1 + 1 + 315 + 1 + 2 + 1 + 8 + 1 + 13 + 1 + 1 + 2 + 1 + 2) hk_oth (by omega) (Ob_new e1_oth n11_frm) (by omega)
  have m12_eli := Ob_keep (N' := N + 1 + 21 + 1 + 221 + 1 + 1 + 1 + 3 + 1 + 1 + 1 + 315 + 1 + 2 + 1 + 8 + 1 + 13 + 1 + 1 + 2 + 1 + 2) hk_oth (by omega) (Ob_new e1_oth n11_eli) (by omega)
  have m12_fac := Ob_keep (N' := N + 1 + 21 + 1 + 221 + 1 + 1 + 1 + 3 + 1 + 1 + 1 + 315 + 1 + 2 + 1 + 8 + 1 + 13 + 1 + 1 + 2 + 1 + 2) hk_oth (by omega) (Ob_new e1_oth n11_fac) (by omega)
  have m12_trm := Ob_keep (N' := N + 1 + 21 + 1 + 221 + 1 + 1 + 1 + 3 + 1 + 1 + 1 + 315 + 1 + 2 + 1 + 8 + 1 + 13 + 1 + 1 + 2 + 1 + 2) hk_oth (by omega) (Ob_new e1_oth n11_trm) (by omega)
  have m12_wrk := Ob_keep (N' := N + 1 + 21 + 1 + 221 + 1 + 1 + 1 + 3 + 1 + 1 + 1 + 315 + 1 + 2 + 1 + 8 + 1 + 13 + 1 + 1 + 2 + 1 + 2) hk_oth (by omega) (Ob_new e1_oth n11_wrk) (by omega)
  have m12_oth := hL_oth.1
  refine ⟨m12_t, m12_now, m12_his, m12_img, m12_mad, m12_tap, m12_str, m12_fig, m12_frm, m12_eli, m12_fac, m12_trm, m12_wrk, m12_oth, fun Λ_oth e3_oth => ?_⟩
  have st_oth : DStp Λ_wrk Λ_oth σ2_wrk σ2_oth t a_oth 12 := dstp_obj ht (by omega) ea_oth e1_oth e2_oth hk_oth e3_oth
  have n12_t := Ob_stR e3_oth m12_t
  have n12_now := Ob_stR e3_oth m12_now
  have n12_his := Ob_stR e3_oth m12_his
  have n12_img := Ob_stR e3_oth m12_img
  have n12_mad := Ob_stR e3_oth m12_mad
  have n12_tap := Ob_stR e3_oth m12_tap
  have n12_str := Ob_stR e3_oth m12_str
  have n12_fig := Ob_stR e3_oth m12_fig
  have n12_frm := Ob_stR e3_oth m12_frm
  have n12_eli := Ob_stR e3_oth m12_eli
  have n12_fac := Ob_stR e3_oth m12_fac
  have n12_trm := Ob_stR e3_oth m12_trm
  have n12_wrk := Ob_stR e3_oth m12_wrk
  have n12_oth := Ob_stR e3_oth m12_oth
  have l3_oth : ∀ c' : Int, c' ≠ t → Λ_oth c' = Λ2_oth c' := fun c' g => by rw [e3_oth, stR_ne g]
  subst q_oth
  clear e3_oth e1_oth e2_oth ea_oth hk_oth m12_t m12_now m12_his m12_img m12_mad m12_tap m12_str m12_fig m12_frm m12_eli m12_fac m12_trm m12_wrk m12_oth
  intro τ e86
  have rT : ∀ j : Int, (Λ_oth t).2.2 j = if j = 12 then t + 599 else if j = 11 then t + 596 else if j = 10 then t + 595 else if j = 9 then t + 581 else if j = 8 then t + 572 else if j = 7 then t + 569 else if j = 6 then t + 253 else if j = 5 then t + 251 else if j = 4 then t + 247 else if j = 3 then t + 246 else if j = 2 then t + 245 else if j = 1 then t + 23 else if j = 0 then t + 1 else (Λ t).2.2 j := fun j => by rw [st_oth.2.1, st_wrk.2.1, st_trm.2.1, st_fac.2.1, st_eli.2.1, st_frm.2.1, st_fig.2.1, st_str.2.1, st_tap.2.1, st_mad.2.1, st_img.2.1, st_his.2.1, st_now.2.1]
  have f2 : (Λ_oth t).2.2 2 = t + 245 := by rw [rT]; rfl
  refine desk_lp (Λ := Λ_oth) (σ := τ) (by omega) ht n12_t f2 n12_img hd rfl rfl fun Λ9 σ9 hI hS1 hS2 hLay hMem => ?_
  have hT : ∀ c' : Int, c' ≠ t → τ c' = σ2_oth c' := fun c' g => by rw [e86, st_ne g]
  have ag12 : ∀ c' : Int, 0 ≤ c' → c' < t + 602 → c' ≠ t → c' ≠ t + 245 → Λ9 c' = Λ_oth c' ∧ σ9 c' = σ2_oth c' := fun c' b0 b1 b2 b3 => ⟨hLay c' b0 (by omega) b3, by rw [hMem c' b0 (by omega), hT c' b2]⟩
  have ag11 : ∀ c' : Int, 0 ≤ c' → c' < t + 599 → c' ≠ t → c' ≠ t + 245 → Λ9 c' = Λ_wrk c' ∧ σ9 c' = σ2_wrk c' := fun c' b0 b1 b2 b3 => by
    have z := ag12 c' b0 (by omega) b2 b3
    have y := st_oth.1 c' b0 b1 b2
    exact ⟨z.1.trans y.1, z.2.trans y.2⟩
  have ag10 : ∀ c' : Int, 0 ≤ c' → c' < t + 596 → c' ≠ t → c' ≠ t + 245 → Λ9 c' = Λ_trm c' ∧ σ9 c' = σ2_trm c' := fun c' b0 b1 b2 b3 => by
    have z := ag11 c' b0 (by omega) b2 b3
    have y := st_wrk.1 c' b0 b1 b2
    exact ⟨z.1.trans y.1, z.2.trans y.2⟩
  have ag9 : ∀ c' : Int, 0 ≤ c' → c' < t + 595 → c' ≠ t → c' ≠ t + 245 → Λ9 c' = Λ_fac c' ∧ σ9 c' = σ2_fac c' := fun c' b0 b1 b2 b3 => by
    have z := ag10 c' b0 (by omega) b2 b3
    have y := st_trm.1 c' b0 b1 b2
    exact ⟨z.1.trans y.1, z.2.trans y.2⟩
  have ag8 : ∀ c' : Int, 0 ≤ c' → c' < t + 581 → c' ≠ t → c' ≠ t + 245 → Λ9 c' = Λ_eli c' ∧ σ9 c' = σ2_eli c' := fun c' b0 b1 b2 b3 => by
    have z := ag9 c' b0 (by omega) b2 b3
    have y := st_fac.1 c' b0 b1 b2
    exact ⟨z.1.trans y.1, z.2.trans y.2⟩
  have ag7 : ∀ c' : Int, 0 ≤ c' → c' < t + 572 → c' ≠ t → c' ≠ t + 245 → Λ9 c' = Λ_frm c' ∧ σ9 c' = σ2_frm c' := fun c' b0 b1 b2 b3 => by
    have z := ag8 c' b0 (by omega) b2 b3
    have y := st_eli.1 c' b0 b1 b2
    exact ⟨z.1.trans y.1, z.2.trans y.2⟩
  have ag6 : ∀ c' : Int, 0 ≤ c' → c' < t + 569 → c' ≠ t → c' ≠ t + 245 → Λ9 c' = Λ_fig c' ∧ σ9 c' = σ2_fig c' := fun c' b0 b1 b2 b3 => by
    have z := ag7 c' b0 (by omega) b2 b3
    have y := st_frm.1 c' b0 b1 b2
    exact ⟨z.1.trans y.1, z.2.trans y.2⟩
  have ag5 : ∀ c' : Int, 0 ≤ c' → c' < t + 253 → c' ≠ t → c' ≠ t + 245 → Λ9 c' = Λ_str c' ∧ σ9 c' = σ2_str c' := fun c' b0 b1 b2 b3 => by
    have z := ag6 c' b0 (by omega) b2 b3
    have y := st_fig.1 c' b0 b1 b2
    exact ⟨z.1.trans y.1, z.2.trans y.2⟩
  have ag4 : ∀ c' : Int, 0 ≤ c' → c' < t + 251 → c' ≠ t → c' ≠ t + 245 → Λ9 c' = Λ_tap c' ∧ σ9 c' = σ2_tap c' := fun c' b0 b1 b2 b3 => by
    have z := ag5 c' b0 (by omega) b2 b3
    have y := st_str.1 c' b0 b1 b2
    exact ⟨z.1.trans y.1, z.2.trans y.2⟩
  have ag3 : ∀ c' : Int, 0 ≤ c' → c' < t + 247 → c' ≠ t → c' ≠ t + 245 → Λ9 c' = Λ_mad c' ∧ σ9 c' = σ1_mad c' := fun c' b0 b1 b2 b3 => by
    have z := ag4 c' b0 (by omega) b2 b3
    have y := st_tap.1 c' b0 b1 b2
    exact ⟨z.1.trans y.1, z.2.trans y.2⟩
  have ag2 : ∀ c' : Int, 0 ≤ c' → c' < t + 246 → c' ≠ t → c' ≠ t + 245 → Λ9 c' = Λ_img c' ∧ σ9 c' = σ1_img c' := fun c' b0 b1 b2 b3 => by
    have z := ag3 c' b0 (by omega) b2 b3
    have y := st_mad.1 c' b0 b1 b2
    exact ⟨z.1.trans y.1, z.2.trans y.2⟩
  have ag1 : ∀ c' : Int, 0 ≤ c' → c' < t + 245 → c' ≠ t → c' ≠ t + 245 → Λ9 c' = Λ_his c' ∧ σ9 c' = σ2_his c' := fun c' b0 b1 b2 b3 => by
    have z := ag2 c' b0 (by omega) b2 b3
    have y := st_img.1 c' b0 b1 b2
    exact ⟨z.1.trans y.1, z.2.trans y.2⟩
  have ag0 : ∀ c' : Int, 0 ≤ c' → c' < t + 23 → c' ≠ t → c' ≠ t + 245 → Λ9 c' = Λ_now c' ∧ σ9 c' = σ2_now c' := fun c' b0 b1 b2 b3 => by
    have z := ag1 c' b0 (by omega) b2 b3
    have y := st_his.1 c' b0 b1 b2
    exact ⟨z.1.trans y.1, z.2.trans y.2⟩
  have agz : ∀ c' : Int, 0 ≤ c' → c' < N → c' ≠ t → Λ9 c' = Λ c' ∧ σ9 c' = σ c' := fun c' b0 b1 b2 => by
    have z := ag0 c' b0 (by omega) b2 (by omega)
    have y := st_now.1 c' b0 (by omega) b2
    exact ⟨z.1.trans y.1, z.2.trans y.2⟩
  have hNN : N + 1 + 21 + 1 + 221 + 1 + 1 + 1 + 3 + 1 + 1 + 1 + 315 + 1 + 2 + 1 + 8 + 1 + 13 + 1 + 1 + 2 + 1 + 2 + 44 = N + 645 := by omega
  rw [hNN] at hI hS1 hS2 ⊢
  have lt : Λ9 t = Λ_oth t := hLay t ht (by omega) (by omega)
  refine h Λ9 σ9 ⟨Ob_eq n12_t (by omega) lt, ⟨by rw [lt, rT]; rfl, by rw [lt, rT]; rfl, by rw [lt, rT]; rfl, by rw [lt, rT]; rfl, by rw [lt, rT]; rfl, by rw [lt, rT]; rfl, by rw [lt, rT]; rfl, by rw [lt, rT]; rfl, by rw [lt, rT]; rfl, by rw [lt, rT]; rfl, by rw [lt, rT]; rfl, by rw [lt, rT]; rfl, by rw [lt, rT]; rfl⟩,
    hL_now.mono (by omega) (fun c' b0 b1 => by rw [(ag0 c' (by omega) (by omega) (by omega) (by omega)).1, l3_now c' (by omega)]),
    hL_his.mono (by omega) (fun c' b0 b1 => by rw [(ag1 c' (by omega) (by omega) (by omega) (by omega)).1, l3_his c' (by omega)]), hI,
    Ob_eq n12_mad (by omega) (hLay _ (by omega) (by omega) (by omega)),
    hL_tap.mono (by omega) (fun c' b0 b1 => by rw [(ag4 c' (by omega) (by omega) (by omega) (by omega)).1, l3_tap c' (by omega)]),
    hL_str.mono (by omega) (by rw [(ag5 _ (by omega) (by omega) (by omega) (by omega)).1, l3_str _ (by omega)]) (by rw [(ag5 _ (by omega) (by omega) (by omega) (by omega)).1, l3_str _ (by omega)]),
    Ob_eq n12_fig (by omega) (hLay _ (by omega) (by omega) (by omega)), Ob_eq n12_frm (by omega) (hLay _ (by omega) (by omega) (by omega)),
    hL_eli.mono (by omega) (fun c' b0 b1 => by rw [(ag8 c' (by omega) (by omega) (by omega) (by omega)).1, l3_eli c' (by omega)]),
    Ob_eq n12_fac (by omega) (hLay _ (by omega) (by omega) (by omega)), Ob_eq n12_trm (by omega) (hLay _ (by omega) (by omega) (by omega)),
    hL_wrk.mono (by omega) (by rw [(ag11 _ (by omega) (by omega) (by omega) (by omega)).1, l3_wrk _ (by omega)]) (by rw [(ag11 _ (by omega) (by omega) (by omega) (by omega)).1, l3_wrk _ (by omega)]) (by rw [(ag11 _ (by omega) (by omega) (by omega) (by omega)).1, l3_wrk _ (by omega)]),
    hL_oth.mono (by omega) (by rw [(ag12 _ (by omega) (by omega) (by omega) (by omega)).1, l3_oth _ (by omega)]) (by rw [(ag12 _ (by omega) (by omega) (by omega) (by omega)).1, l3_oth _ (by omega)]) (by rw [(ag12 _ (by omega) (by omega) (by omega) (by omega)).1, l3_oth _ (by omega)]), hS1, hS2⟩
    ⟨hZ_now.same (fun c' b0 b1 => (ag0 c' (by omega) (by omega) (by omega) (by omega)).2), ⟨by rw [(ag1 _ (by omega) (by omega) (by omega) (by omega)).2]; exact hs_his, by rw [(ag1 _ (by omega) (by omega) (by omega) (by omega)).2]; exact hx_his⟩, fun j => by rw [(ag3 _ (by omega) (by omega) (by omega) (by omega)).2]; exact z_mad j,
     ⟨by rw [(ag4 _ (by omega) (by omega) (by omega) (by omega)).2]; exact hs_tap, by rw [(ag4 _ (by omega) (by omega) (by omega) (by omega)).2]; exact hf_tap, by rw [(ag4 _ (by omega) (by omega) (by omega) (by omega)).2]; exact hp_tap⟩,
     hZ_wrk.same ((ag11 _ (by omega) (by omega) (by omega) (by omega)).2) ((ag11 _ (by omega) (by omega) (by omega) (by omega)).2) ((ag11 _ (by omega) (by omega) (by omega) (by omega)).2), hZ_oth.same ((ag12 _ (by omega) (by omega) (by omega) (by omega)).2) ((ag12 _ (by omega) (by omega) (by omega) (by omega)).2) ((ag12 _ (by omega) (by omega) (by omega) (by omega)).2), by rw [hMem t ht (by omega), e86, st_eq]⟩
    agz
end DI
