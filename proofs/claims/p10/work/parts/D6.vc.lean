theorem Rep_0 {s : State} {args : Array Value} (hts : ∀ w ∈ lw_tbl, w.before args s = true) : Rep s.heap.size 0 (fun _ => (0, 0, fun _ => -1)) (fun _ _ => 0) s s.heap := by
  have hg : ∀ w ∈ lw_g, w.before args s = true := fun w hw => hts w (List.mem_filter.mp hw).1
  obtain ⟨c0, i0, k0⟩ := u_known (C := RX0) (T := TX0) (N := 4) (n := 4) hg inX0 (hg _ nw_X0.1)
  obtain ⟨c1, i1, k1⟩ := u_known (C := RX1) (T := TX1) (N := 6) (n := 6) hg inX1 (hg _ nw_X1.1)
  obtain ⟨c2, i2, k2⟩ := u_known (C := RX2) (T := TX2) (N := 9) (n := 9) hg inX2 (hg _ nw_X2.1)
  obtain ⟨c3, i3, k3⟩ := u_known (C := RX3) (T := TX3) (N := 5) (n := 5) hg inX3 (hg _ nw_X3.1)
  obtain ⟨c4, i4, k4⟩ := u_known (C := RX4) (T := TX4) (N := 3) (n := 3) hg inX4 (hg _ nw_X4.1)
  obtain ⟨c5, i5, k5⟩ := u_known (C := RX5) (T := TX5) (N := 3) (n := 3) hg inX5 (hg _ nw_X5.1)
  obtain ⟨c6, i6, k6⟩ := u_known (C := RX7) (T := TX7) (N := 3) (n := 3) hg inX7 (hg _ nw_X7.1)
  obtain ⟨c7, i7, k7⟩ := u_known (C := RX8) (T := TX8) (N := 2) (n := 2) hg inX8 (hg _ nw_X8.1)
  obtain ⟨c8, i8, k8⟩ := u_known (C := RX9) (T := TX9) (N := 6) (n := 6) hg inX9 (hg _ nw_X9.1)
  obtain ⟨c9, i9, k9⟩ := u_known (C := RX10) (T := TX10) (N := 2) (n := 2) hg inX10 (hg _ nw_X10.1)
  obtain ⟨c10, i10, k10⟩ := u_known (C := RX11) (T := TX11) (N := 14) (n := 14) hg inX11 (hg _ nw_X11.1)
  obtain ⟨c11, i11, k11⟩ := u_known (C := RX12) (T := TX12) (N := 36) (n := 36) hg inX12 (hg _ nw_X12.1)
  refine ⟨(fun k => [c0, c1, c2, c3, c4, c5, c6, c7, c8, c9, c10, c11].getD k c0, fun k => [i0, i1, i2, i3, i4, i5, i6, i7, i8, i9, i10, i11].getD k i0), fun _ => 0, fun k q h => by simp [wsO] at h, ⟨?_, fun c hc => by omega, va_AO.of (hts _ ao_Poly), va_AO.of (hts _ ao_State), ?_⟩, rfl, fun c j h0 h1 => by omega⟩
  · intro k q hq
    match k, hq with
    | 0, hq => cases hq; exact k0
    | 1, hq => cases hq; exact k1
    | 2, hq => cases hq; exact k2
    | 3, hq => cases hq; exact k3
    | 4, hq => cases hq; exact k4
    | 5, hq => cases hq; exact k5
    | 6, hq => cases hq; exact k6
    | 7, hq => cases hq; exact k7
    | 8, hq => cases hq; exact k8
    | 9, hq => cases hq; exact k9
    | 10, hq => cases hq; exact k10
    | 11, hq => cases hq; exact k11
    | k + 12, hq => simp [vwCl] at hq
  · obtain ⟨comp, cc, kk, hc, hi, hk, hkind, hn⟩ := arrayOverA_spec (hts _ ao_ints)
    exact ⟨comp, cc, kk, hc, hk, hkind, hn⟩
theorem whole_start {p : Program} {e : Env} {s : State} {m : MethodId} {below : List Frame} {meth : Method} {c : Code} (l : Launch) (hflags : l.flags = flags0) {b L : Nat} {xs : Nat → Int32} (hL : L ≤ 3072) (C0 : lw_At p s m meth c b L xs) : W p l e room_1 s m #[Value.ref b] below meth c s.heap [] 0 0 (lw_Z below #[Value.ref b] s) (entryFrame m ([Value.ref b] : List Value).toArray 4) := by
  have hl := lv_entry ([.ref b]) (n := 4) (Nat.le_of_ble_eq_true rfl)
  rw [lg_entry_eq]
  generalize (lg_sl ([.ref b]) ++ List.replicate (4 - (lg_sl ([.ref b])).length) Slot.unset).toArray = ls at hl ⊢
  have hl : lv_has ls 4 [(0, .ref b)] := hl
  have main : LW p l e s m below meth c b 0 0 0 ls [] 0 (fun _ => (0, 0, fun _ => -1)) (fun _ _ => 0) := by
    refine L_new (ci := 10) (nf := 14) C0 dl_0 kX11 cl_L_7 nw_X11 (by decide) (by decide) ?_
    intro H locs hR hS
    refine lv_dup C0.1 C0.2.1 dl_3 rfl ?_
    refine L_init (t := 0) (d := 10) (mc := 645) (ms := 36428) (rest := [.ref (s.heap.size + 0)]) C0 hl dl_4 ok_mX11_init rfl ml_L_9 rfl (by decide) (by decide) (by decide) (show (1 : Nat) ≤ 8 by decide) (by decide) rfl (x_Desk_init (by decide) (Ob_newS rfl rfl) (by decide) fun Λ1 σ1 hD h0 hk1 => ?_) H locs hR hS
    clear hR hS H locs
    intro H locs hR hS
    refine lv_astore_n (lv' := [(1, .ref (s.heap.size + 0)), (0, .ref b)]) C0.1 C0.2.1 dl_7 rfl hl (by decide) rfl (fun ls1 hl1 => ?_)
    refine L_new (ci := 11) (nf := 36) C0 dl_8 kX12 cl_L_10 nw_X12 (by decide) (by decide) ?_ H locs hR hS
    clear hR hS H locs
    intro H locs hR hS
    refine lv_dup C0.1 C0.2.1 dl_11 rfl ?_
    refine L_init (t := 646) (d := 10) (mc := 22) (ms := 51167) (rest := [.ref (s.heap.size + 646)]) C0 hl1 dl_12 ok_mX12_init rfl ml_L_12 rfl (by decide) (by decide) (by decide) (show (1 : Nat) ≤ 8 by decide) (by decide) rfl (k_Mod_init (by decide) (Ob_newS rfl rfl) (by decide) fun Λ2 σ2 hM hZ hk2 => ?_) H locs hR hS
    clear hR hS H locs
    intro H locs hR hS
    refine lv_astore_n (lv' := [(2, .ref (s.heap.size + 646)), (1, .ref (s.heap.size + 0)), (0, .ref b)]) C0.1 C0.2.1 dl_15 rfl hl1 (by decide) rfl (fun ls2 hl2 => ?_)
    refine lv_iconst (v := 0) C0.1 C0.2.1 dl_16 (by decide) ?_
    refine lv_istore_n (lv' := [(3, .int 0), (2, .ref (s.heap.size + 646)), (1, .ref (s.heap.size + 0)), (0, .ref b)]) C0.1 C0.2.1 dl_17 rfl hl2 (by decide) rfl (fun ls3 hl3 => ?_)
    have kp : ∀ c' : Int, 0 ≤ c' → c' < 646 → Λ2 c' = Λ1 c' ∧ σ2 c' = σ1 c' := fun c' g0 g1 => by
      have q := hk2 c' g0 (Int.lt_of_lt_of_le g1 (by decide)) (by omega)
      rw [newL_ne (Int.ne_of_lt (Int.lt_of_lt_of_le g1 (by decide))), newM_ne (Int.ne_of_lt (Int.lt_of_lt_of_le g1 (by decide)))] at q
      exact q
    have hZ2 := hZ.toMZ (funext fun j => newM_eq)
    have hI : LI Λ2 σ2 := ⟨hD.keep fun c' g0 g1 => (kp c' g0 g1).1, h0.gi.mv fun c c0 c1 => (kp c c0 (by omega)).2, hM, hZ2.ri, fun i => by rw [(kp (0 + 246) (by decide) (by decide)).2, hZ2.2.2.2.1 (646 + 5) (by decide) (by decide)]; exact h0.2.2.1 i⟩
    exact L_loop C0 hL (by decide) 3081 0 ls3 Λ2 σ2 (by decide) (by decide) (by decide) hl3 hI H locs hR hS
  exact main s.heap [] (Rep_0 C0.2.2.2.2.2.1) va_S.rf
-- ===== YOUR PART ENDS =====
set_option maxHeartbeats 4000000 in
theorem lw_walk (l : Launch) (hflags : l.flags = flags0) (b : Addr) (xs : List Int32) : MetFree l x (headSpec (Jvm.Cond.code x code maxLocals ret :: tables_1) room_1) (lw_P b xs) (fun _ _ _ _ _ => True) lw_Q := by
  refine MetFree.of_bodyS (code := code) (maxLocals := maxLocals) (ret := ret) (by decide) ?_ ?_
  · intro args s m h hn
    obtain ⟨meth, c, h1, h2, h3, h4, h5, h6, -, -⟩ := Cond.code_spec hn (atoms_spec (ws := Jvm.Cond.code x code maxLocals ret :: tables_1) h _ List.mem_cons_self)
    exact ⟨meth, c, h1, h2, h3, h4, h5, h6⟩
  · intro p e s m args below meth c s₁ B hml0 hP _
    obtain ⟨rfl, hx, hbd, hgv⟩ := hP
    obtain ⟨scr, harrAt, hlist, hof, hsmall⟩ := hx
    obtain ⟨hcb, hkn, -, -⟩ := State.arrayAt?_spec harrAt
    have hown : s.vm.findClass R_law = some m.cls := findClass_of_methodNamed B.named
    have hts0 : ∀ c ∈ (Jvm.Cond.code x code maxLocals ret :: tables_1), c.before #[Value.ref b] s = true := atoms_spec (ws := Jvm.Cond.code x code maxLocals ret :: tables_1) B.pre
    have hts : ∀ w ∈ lw_tbl, w.before #[Value.ref b] s = true := k2_hts_sels lw_privs (fun w hw => hts0 w (List.mem_cons_of_mem _ hw)) lw_privs_ok
    have hml : c.maxLocals = 4 := B.maxLocals_eq (hts0 _ List.mem_cons_self)
    have X₀ : Stand p l e room_1 s m #[Value.ref b] below meth c s₁ [] 0 0 := Stand.of_body B
    have hh0 : s₁.heap = s.heap := by rw [B.state]; rfl
    have hsz : scr.slots.size = xs.length := by rw [← Array.length_toList, hlist, List.length_map]
    have hval : ∀ j : Nat, j < xs.length → scr.slots[j]? = some (.int (xs.getD j 0)) := fun j hj => by
      rw [← Array.getElem?_toList, hlist]
      simp [hj]
    have hbl : b < s.heap.size := (Array.getElem?_eq_some_iff.mp hcb).1
    have hX : va_X b xs.length (fun j => xs.getD j 0) s s.heap := ⟨scr, hcb, hof, hkn, hsz, hval⟩
    have K : W p l e room_1 s m #[Value.ref b] below meth c s₁.heap [] 0 0 (lw_Z below #[Value.ref b] s) (entryFrame m ([Value.ref b] : List Value).toArray 4) := by
      rw [hh0]
      exact whole_start l hflags hbd ⟨B.exec, B.bytes, B.returns, hml, hown, hts, hX, hbl, B.notSynchronized, hgv⟩
    obtain ⟨t, a1, o, b1, b2, b3⟩ := K s₁ rfl X₀
    exact ⟨t, o, a1, b1, b2, b3⟩
theorem lw_pre_spec {args : Array Value} {s : State} (h : (Jvm.Cond.and given_1 narrow_1).before args s = true) (hr : rest_1_c.before args s = true) : ∃ (b : Addr) (xs : List Int32), lw_P b xs args s := by
  have hs := flat_of_before _ h
  have hq := flat_of_before _ hr
  have hc : (Cond.count 1).before args s = true := hs _ (by decide +kernel)
  have harr : (Cond.arrayOf (.arg 0) .int).before args s = true := hs _ (by decide +kernel)
  have hle : (Cond.le (.length (.arg 0)) (.int 3072)).before args s = true := hs _ (by decide +kernel)
  have hlen : (Cond.isInt (.length (.arg 0))).before args s = true := hq _ (by decide +kernel)
  have hall : (Cond.all (.arg 0) (.isInt (.elem (.arg 0) (.index 0)))).before args s = true := hq _ (by decide +kernel)
  obtain ⟨b, xs, hb, hx⟩ := State.ints_of_pre rfl harr hlen hall
  have hsm : xs.length < 2 ^ 31 := hx.choose_spec.2.2.2
  have hev : (Term.length (.arg 0)).eval args s none [] s = some (.int xs.length.toInt32) := hx.length_eval hb
  have hv := Cond.le_ints hev (show (Term.int 3072).eval args s none [] s = some (.int 3072) from rfl)
  have hd : xs.length.toInt32 ≤ 3072 := by
    simpa [Cond.before, Cond.holds, hv] using hle
  have hN : xs.length ≤ 3072 := (Int32.ofNat_le_ofNat hsm (by decide)).mp (show Int32.ofNat xs.length ≤ Int32.ofNat 3072 from hd)
  exact ⟨b, xs, Cond.one_arg hc (show args[0]? = some (.ref b) from hb), hx, hN, h⟩
theorem lw_comes (l : Launch) (hflags : l.flags = flags0) : Comes l x (Jvm.Cond.code x code maxLocals ret :: tables_1) room_1 (fun tb e args s => Calls_1 tb e args s ∧ rest_1 tb e args s ∧ Pre_1 tb e args s)
    (fun _ _ args s o t => lw_Q args s o t) := by
  intro p e ha hc hk s m args below hf hfit hheap happ hpre
  obtain ⟨b, xs, hP⟩ := lw_pre_spec hpre.2.2 hpre.2.1
  obtain ⟨k, o, h1, h2, h3, hQ⟩ := lw_walk l hflags b xs p e ha hc hk s m args below hf ((Spec.applies_iff_loose hf).mp happ).1 hP trivial
  exact ⟨k, o, h1, h2, h3, hQ⟩
theorem lw_frame {s t : State} {o : Outcome} {args : Array Value} (h : Framed s o t [] 600000 7302250) :
    Framed s o t (fieldLocs frame_1_writes args s ++ arrayLocs frame_1_arrays args s ++ staticLocs frame_1_statics s) 600000 7302250 := h
theorem lw_limb (L : Cond) (hL : ∀ (args : Array Value) (s t : State), L.after args s (.returned (some (.int 1))) t = true) :
    ArmFor flags0 classFile x code maxLocals ret World_1 tables_1 room_1 Calls_1 rest_1 Pre_1
      (fun tb e a s o t => postC L tb e a s o t ∧ Framed s o t (fieldLocs frame_1_writes a s ++ arrayLocs frame_1_arrays a s ++ staticLocs frame_1_statics s) 600000 7302250) := by
  intro l hflags _ _ p e ha hc hk s m args below hf hfit hheap happ hpre
  obtain ⟨k, o, h1, h2, h3, rfl, hF⟩ := lw_comes l hflags p e ha hc hk s m args below hf hfit hheap happ hpre
  exact ⟨k, _, h1, h2, h3, hL args s _, lw_frame hF⟩
theorem i_vc : Claimed_1_1 ∧ Claimed_1_2 := ⟨lw_limb limb_1_1 (fun args s t => by simp [limb_1_1, Cond.after, Cond.holds, Cond.value]), lw_limb limb_1_2 (fun args s t => Cond.after_iff.mpr (by
  first | (rw [show limb_1_2 = Cond.eq .result (.int 1) from rfl, Cond.eq_ints (x := 1) (y := 1) rfl rfl]; simp; done) | (simp [limb_1_2, Cond.value, Term.eval]; done)))⟩
