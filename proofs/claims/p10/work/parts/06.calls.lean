section CALLS
variable {l : Launch} {Y : MD} {R : Room} {X : XT} {Z : ZT} {k n pc q : Nat} {L S : List AV} {N : Nat} {Λ : Lay} {σ : Mem}
theorem Rep.end {B N : Nat} {Λ : Lay} {σ : Mem} {s t : State} {H : Heap} (h : Rep B N Λ σ s H) (ht : t.heap = H) (hw : s.WarmedH t.vm) : Rep B N Λ σ t t.heap := by
  rw [ht]
  exact h.moved hw.alike
theorem r_iret {mc ms : Nat} {Q : QT} {x : Int} {ty : FieldType} (d : DC Y pc .ireturn 1 q) (hr : mR Y = some ty) (hnw : narrow ty (.int (Int32.ofInt x)) = .int (Int32.ofInt x)) (hk : k ≤ mc) (hn : n ≤ ms) (K : Q [(0, x)] N Λ σ) : WP l Y R X (ZQ mc ms Q) k n pc L [(0, x)] N Λ σ := by
  intro p e s m args below meth c B H locs ls hb hX hB hR hS hl hL hs
  obtain ⟨hd, rfl⟩ := d
  refine W.widen hk hn ?_
  exact W.zret (ty := ty) hb.1 hb.2.1 (hb.2.2.2.2.2.1.trans hr) hnw (fun t ht hw => ⟨⟨[(0, x)], N, Λ, σ, K, Nat.le_refl 1, rfl, hR.end ht hw, hs⟩, hS.F ht⟩) hS.2.2 hd hb.2.2.2.2.2.2.1
theorem r_lret {mc ms : Nat} {Q : QT} {x : Int} (d : DC Y pc .lreturn 1 q) (hr : mR Y = some .long) (hk : k ≤ mc) (hn : n ≤ ms) (K : Q [(1, x)] N Λ σ) : WP l Y R X (ZQ mc ms Q) k n pc L [(1, x)] N Λ σ := by
  intro p e s m args below meth c B H locs ls hb hX hB hR hS hl hL hs
  obtain ⟨hd, rfl⟩ := d
  refine W.widen hk hn ?_
  exact W.lret hb.1 hb.2.1 (hb.2.2.2.2.2.1.trans hr) (fun t ht hw => ⟨⟨[(1, x)], N, Λ, σ, K, Nat.le_refl 1, rfl, hR.end ht hw, hs⟩, hS.F ht⟩) hS.2.2 hd hb.2.2.2.2.2.2.1
theorem r_vret {mc ms : Nat} {Q : QT} (d : DC Y pc .return_ 1 q) (hr : mR Y = none) (hk : k ≤ mc) (hn : n ≤ ms) (K : Q [] N Λ σ) : WP l Y R X (ZQ mc ms Q) k n pc L [] N Λ σ := by
  intro p e s m args below meth c B H locs ls hb hX hB hR hS hl hL hs
  obtain ⟨hd, rfl⟩ := d
  refine W.widen hk hn ?_
  exact W.vret hb.1 hb.2.1 (hb.2.2.2.2.2.1.trans hr) (fun t ht hw => ⟨⟨[], N, Λ, σ, K, Nat.zero_le 1, rfl, hR.end ht hw, hs⟩, hS.F ht⟩) hS.2.2 hd hb.2.2.2.2.2.2.1
theorem good_Y {Y2 : MD} (ok : okY Y2) : GoodIn lw_g (wsY Y2) := by
  intro w hw
  rcases List.mem_cons.mp hw with rfl | hw
  · exact good_g _ ok.1
  · exact good_g w hw
theorem cbY {Y2 : MD} {d mc ms idx : Nat} {s : State} {args : Array Value} {own : String} (ok : okY Y2) (hts : ∀ w ∈ lw_g, w.before args s = true) (hl : Cond.methodLink own idx (mN Y2) ∈ lw_g) (hroom : d + 1 ≤ R.frames ∧ 8 + (mL Y2 + 11) + 64 * d ≤ R.locals) :
    CallB R s args own idx (mN Y2) (mC Y2) (mL Y2) (mR Y2) (wsY Y2) (rm d mc ms) mc ms (mA Y2) :=
  callB_of (mA Y2) hts (good_Y ok) rfl rfl rfl (hts _ ok.2.1) (hts _ hl) ⟨ok.2.2.2.1.1, ok.2.2.2.1.2, ok.2.2.2.2⟩ hroom
theorem preY {B : Nat} {As : List AV} {s : State} {H : Heap} (hR : Rep B N Λ σ s H) (hB : B ≤ H.size) (hA : ∀ v ∈ As, okv v) : PreS s H (va_Pc (As.map (tv B)) (fun U => Rep B N Λ σ U U.heap ∧ B ≤ U.heap.size ∧ ∀ v ∈ As, okv v)) (As.map (tv B)) := by
  refine ⟨fun a U g mk h => ?_, fun U hU hW => ?_⟩
  · obtain ⟨h1, h2, h3, h4⟩ := h
    exact ⟨h1, h2.moved (u := U) (U := U.calling g mk a) (Vm.Alike.refl U.vm), h3, h4⟩
  · exact ⟨rfl, hR.end hU hW, by rw [hU]; exact hB, hA⟩
theorem aft {B : Nat} {p : Program} {e : Env} {s : State} {m : MethodId} {args : Array Value} {below : List Frame} {meth : Method} {c : Code} {H : Heap} {locs : List Loc} {ls : Array Slot} {mc ms : Nat} {st0 : List Value} {a : Array Value}
    (hr : va_Run p l e R s m args below meth c H locs k n mc ms (F0 m pc ls st0) (S.map (tv B)) (QQ B (fun r N' Λ' σ' => WP l Y R X Z (k + mc) (n + ms) (pc + 3) L (r ++ S) N' Λ' σ') a) (inB B))
    (hb : Bs Y p s m args meth c) (hX : X B args s) (hB : B ≤ s.heap.size) (hS : va_S (inB B) s.heap H locs) (hl : lv_has ls (mL Y) (lvl B L)) (hL : ∀ v ∈ L, okv v) (hs : ∀ v ∈ S, okv v) :
    W p l e R s m args below meth c H locs k n (Z B below args s) (F0 m pc ls st0) := by
  intro T hT XX
  obtain ⟨v, st₀, t, T', Lc, h0, X', hLc, e1, e2, ⟨⟨r, N', Λ', σ', hq, hlen, ho, hRep, hok⟩, hz, hk⟩, hgo⟩ := hr T hT XX
  rw [h0] at hz hk
  have hS' : va_S (inB B) s.heap T'.heap (locs ++ Lc) := ⟨Nat.le_trans hS.1 (by rw [e1]; exact hz), fun q h1 h2 => by rw [e1, hk q (Nat.lt_of_lt_of_le h1 hS.1) h2]; exact hS.2.1 q h1 h2, fun q hq => by
    rcases List.mem_append.mp hq with h | h
    · exact hS.2.2 q h
    · exact hLc q h⟩
  have hRep' : Rep B N' Λ' σ' s T'.heap := by
    rw [e1]
    refine hRep.moved ?_
    rw [← e2]
    exact X'.warmed.alike.symm
  have hv : v.toList ++ S.map (tv B) = (r ++ S).map (tv B) := by
    have hv1 : v = r.head?.map (tv B) := by
      unfold outc at ho
      injection ho
    rw [hv1]
    match r, hlen with
    | [], _ => rfl
    | [x], _ => rfl
    | _ :: _ :: _, h => simp at h
  obtain ⟨t2, a1, b1⟩ := hq p e s m args below meth c B T'.heap (locs ++ Lc) ls hb hX hB hRep' hS' hl hL (fun w hw => (List.mem_append.mp hw).elim (hok w) (hs w)) T' rfl X'
  refine ⟨t2, hgo t2 ?_, b1⟩
  rw [show ({ F0 m pc ls st0 with pc := (F0 m pc ls st0).pc + 3, stack := v.toList ++ S.map (tv B) } : JFrame) = F0 m (pc + 3) ls ((r ++ S).map (tv B)) by rw [← hv]]
  exact a1
theorem cats (B : Nat) (S : List AV) : ((S.map (tv B)).map fun v => v.category).sum = (S.map cat).sum := by
  rw [List.map_map]
  congr 1
  apply List.map_congr_left
  intro v _
  exact tv_cat B v
theorem r_callS {Y2 : MD} {d mc ms idx : Nat} {As S0 : List AV} (dd : DC Y pc (.invokestatic idx) 3 q) (ok : okS Y2) (hl2 : Cond.methodLink (mN Y).cls idx (mN Y2) ∈ lw_g) (hA : As.length = mA Y2) (hroom : d + 1 ≤ R.frames ∧ 8 + (mL Y2 + 11) + 64 * d ≤ R.locals) (hcs : k + mc ≤ R.cells ∧ n + ms ≤ R.slots) (h8 : (S.map cat).sum ≤ 8) (hS0 : S0 = As.reverse ++ S)
    (h : MC l Y2 d mc ms As N Λ σ (fun r N' Λ' σ' => WP l Y R X Z (k + mc) (n + ms) q L (r ++ S) N' Λ' σ')) : WP l Y R X Z k n pc L S0 N Λ σ := by
  intro p e s m args below meth c B H locs ls hb hX hB hR hS hl hL hs
  obtain ⟨hd, rfl⟩ := dd
  subst hS0
  have hts := hb.2.2.2.2.1
  have hAs : ∀ v ∈ As, okv v := fun v hv => hs v (List.mem_append_left _ (List.mem_reverse.mpr hv))
  refine aft (va_runS (As := As.map (tv B)) (rest := S.map (tv B)) ⟨hb.1, hb.2.1, hb.2.2.1, hb.2.2.2.1, hts⟩ (h B) ⟨cbY ok.1 hts hl2 hroom, hts _ ok.2⟩ (preY hR (Nat.le_trans hB hS.1) hAs) rfl (by rw [List.length_map]; exact hA) hl.1 (by simp [List.map_append, List.map_reverse]) (lv_room (by rw [cats]; exact h8)) hd hcs) hb hX hB hS hl hL (fun v hv => hs v (List.mem_append_right _ hv))
theorem r_callV {Y2 : MD} {d mc ms idx ci nf : Nat} {T : u_T} {c : Int} {As S0 : List AV} (dd : DC Y pc (.invokevirtual idx) 3 q) (ok : okV Y2) (hl2 : Cond.methodLink (mN Y).cls idx (mN Y2) ∈ lw_g) (hA : As.length = mA Y2) (hroom : d + 1 ≤ R.frames ∧ 8 + (mL Y2 + 11) + 64 * d ≤ R.locals) (hcs : k + mc ≤ R.cells ∧ n + ms ≤ R.slots) (h8 : (S.map cat).sum ≤ 8) (hS0 : S0 = As.reverse ++ (2, c) :: S)
    (hc : CLS ci (mN Y2).cls T nf) (c0 : 0 ≤ c) (cN : c < N) (hk : (Λ c).1 = ci + 10) (hn : (Λ c).2.1 = nf)
    (h : MC l Y2 d mc ms ((2, c) :: As) N Λ σ (fun r N' Λ' σ' => WP l Y R X Z (k + mc) (n + ms) q L (r ++ S) N' Λ' σ')) : WP l Y R X Z k n pc L S0 N Λ σ := by
  intro p e s m args below meth cd B H locs ls hb hX hB hR hS hl hL hs
  obtain ⟨hd, rfl⟩ := dd
  subst hS0
  have hts := hb.2.2.2.2.1
  have hAs : ∀ v ∈ (2, c) :: As, okv v := fun v hv => by
    rcases List.mem_cons.mp hv with rfl | hv
    · exact ok_r c
    · exact hs v (List.mem_append_left _ (List.mem_reverse.mpr hv))
  have hpre := preY hR (Nat.le_trans hB hS.1) hAs
  obtain ⟨D, κ, hP, hK, hz, hm⟩ := id hR
  have hcN : c.toNat < N := by omega
  have he := wsO_get (B := B) (Λ := Λ) (κ := κ) (σ := σ) hcN
  rw [ent_o (n := nf) (by rw [show ((c.toNat : Nat) : Int) = c by omega]; exact hk) (by rw [show ((c.toNat : Nat) : Int) = c by omega]; exact hn)] at he
  have hrecv := va_recv hK.K0 hP hc.1 he
  have hh := h B
  rw [List.map_cons, tv_r B c0] at hh hpre
  exact aft (va_runV (C := (mN Y2).cls) (b := B + c.toNat) (As := As.map (tv B)) (rest := S.map (tv B)) ⟨hb.1, hb.2.1, hb.2.2.1, hb.2.2.2.1, hts⟩ hh ⟨cbY ok.1 hts hl2 hroom, hts _ ok.2.1, hts _ ok.2.2⟩ ⟨hpre.1, hrecv, hpre.2⟩ rfl (by rw [List.length_map]; exact hA) hl.1 (by simp [List.map_append, List.map_reverse, tv_r B c0]) (lv_room (by rw [cats]; exact h8)) hd hcs) hb hX hB hS hl hL (fun v hv => hs v (List.mem_append_right _ (List.mem_cons_of_mem _ hv)))
theorem r_callI {Y2 : MD} {d mc ms idx : Nat} {c : Int} {As S0 : List AV} (dd : DC Y pc (.invokespecial idx) 3 q) (ok : okI Y2) (hret : mR Y2 = none) (hl2 : Cond.methodLink (mN Y).cls idx (mN Y2) ∈ lw_g) (hA : As.length = mA Y2) (hroom : d + 1 ≤ R.frames ∧ 8 + (mL Y2 + 11) + 64 * d ≤ R.locals) (hcs : k + mc ≤ R.cells ∧ n + ms ≤ R.slots) (h8 : (S.map cat).sum ≤ 8) (hS0 : S0 = As.reverse ++ (2, c) :: S) (c0 : 0 ≤ c)
    (h : MC l Y2 d mc ms ((2, c) :: As) N Λ σ (fun r N' Λ' σ' => WP l Y R X Z (k + mc) (n + ms) q L (r ++ S) N' Λ' σ')) : WP l Y R X Z k n pc L S0 N Λ σ := by
  intro p e s m args below meth cd B H locs ls hb hX hB hR hS hl hL hs
  obtain ⟨hd, rfl⟩ := dd
  subst hS0
  have hts := hb.2.2.2.2.1
  have hAs : ∀ v ∈ (2, c) :: As, okv v := fun v hv => by
    rcases List.mem_cons.mp hv with rfl | hv
    · exact ok_r c
    · exact hs v (List.mem_append_left _ (List.mem_reverse.mpr hv))
  have hpre := preY hR (Nat.le_trans hB hS.1) hAs
  have hh := h B
  rw [List.map_cons, tv_r B c0] at hh hpre
  have cb := cbY (d := d) (mc := mc) (ms := ms) ok.1 hts hl2 hroom
  rw [hret] at cb
  exact aft (va_runI (b := B + c.toNat) (As := As.map (tv B)) (rest := S.map (tv B)) ⟨hb.1, hb.2.1, hb.2.2.1, hb.2.2.2.1, hts⟩ hh ⟨cb, ok.2.2, hts _ ok.2.1⟩ hpre rfl (by rw [List.length_map]; exact hA) hl.1 (by simp [List.map_append, List.map_reverse, tv_r B c0]) (lv_room (by rw [cats]; exact h8)) hd hcs) hb hX hB hS hl hL (fun v hv => hs v (List.mem_append_right _ (List.mem_cons_of_mem _ hv)))
theorem r_obj {idx : Nat} {c : Int} (dd : DC Y pc (.invokespecial idx) 3 q) (hl2 : Cond.methodLink (mN Y).cls idx objectInit ∈ lw_g) (c0 : 0 ≤ c) (hroom : 1 ≤ R.frames ∧ 20 ≤ R.locals) (h8 : (S.map cat).sum ≤ 8) (K : WP l Y R X Z k n q L S N Λ σ) : WP l Y R X Z k n pc L ((2, c) :: S) N Λ σ := by
  intro p e s m args below meth cd B H locs ls hb hX hB hR hS hl hL hs
  obtain ⟨hd, rfl⟩ := dd
  have hts := hb.2.2.2.2.1
  have hKK := K p e s m args below meth cd B H locs ls hb hX hB hR hS hl hL (okt hs)
  show W p l e R s m args below meth cd H locs k n _ (F0 m pc ls (tv B (2, c) :: S.map (tv B)))
  rw [tv_r B c0]
  refine W.objInit hb.1 hb.2.1 hb.2.2.2.1 (hts _ hl2) (hts _ ok_obj.1) (hts _ ok_obj.2) (g := F0 m pc ls (.ref (B + c.toNat) :: S.map (tv B))) rfl (hl.1.trans hb.2.2.1.symm) rfl hd hroom.1 ?_ hKK
  show 2 * 0 + ((S.map (tv B)).map fun v => v.category).sum + 12 ≤ R.locals
  rw [cats]
  omega
end CALLS
