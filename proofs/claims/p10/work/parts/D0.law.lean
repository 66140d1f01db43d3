/-! THE CLAIM OUT OF ONE WALK OF THE LAW'S BODY. Your part is whole_start (and what it stands on); all else here is the same for every law, but numbers. -/
def R_law : String := "BracketDeskLaw"
def lw_P (b : Addr) (xs : List Int32) (args : Array Value) (s : State) : Prop := args = #[.ref b] ∧ s.IntsAt b xs ∧ xs.length ≤ 3072 ∧ (Jvm.Cond.and given_1 narrow_1).before args s = true
def lw_Q (_ : Array Value) (s : State) (o : Outcome) (t : State) : Prop := o = .returned (some (.int 1)) ∧ Framed s o t [] 600000 7302250
def lw_Z (below : List Frame) (a : Array Value) (s : State) : State → Prop := fun t => ∃ o, t.status = .running ∧ Ended t below o ∧ lw_Q a s o t
/-- the law's own end, with 1 on the stack, nothing written that was there before, its room as the claim has it -/
theorem lw_ret {p : Program} {l : Launch} {e : Env} {s : State} {m : MethodId} {below : List Frame} {meth : Method} {c : Code} {b : Nat} (hx : p.tables.exec = Jvm.exec) (hb : c.code = code) (hr : meth.sig.returnType = ret) (hlocks : meth.locks = false) {pc : Nat} {H : Heap} {ls : Array Slot} (hdg : decode code pc = .ok (.ireturn, 1)) : W p l e room_1 s m #[Value.ref b] below meth c H [] 600000 7302250 (lw_Z below #[Value.ref b] s) (F0 m pc ls [.int 1]) := by
  intro T hT X
  obtain ⟨fs, hret, hrun, hended, hW, hframe⟩ := X.leave (v := some (.int 1)) (hlocks := hlocks) (fun h => by rw [hr] at h; cases h)
  have hmeth' : T.vm.method? m = some meth := X.method'
  refine ⟨T.setFrames fs, ?_, .returned (some (.int 1)), hrun, hended, rfl, ⟨_, rfl⟩, hW, hframe⟩
  jvm_step X.here [X.here.top, hx, hb, hdg, hmeth', hr, ret, narrow_b1]
  (try refine ⟨rfl, ?_⟩); (try refine ⟨rfl, ?_⟩)
  first | (intro acts; rw [hret _ acts rfl rfl rfl]) | rw [hret _ _ rfl rfl rfl]
  exact Steps.refl _
/-- what holds at the law's entry: the machine, the code, the tables' words (any of lw_tbl by 'hts w (by decide +kernel)'), the script of L ints xs at the cell b, what the Statement gives of the start (any of its parts by flat_of_before) -/
def lw_At (p : Program) (s : State) (m : MethodId) (meth : Method) (c : Code) (b L : Nat) (xs : Nat → Int32) : Prop :=
  p.tables.exec = Jvm.exec ∧ c.code = code ∧ meth.sig.returnType = ret ∧ c.maxLocals = 4 ∧ s.vm.findClass R_law = some m.cls ∧ (∀ w ∈ lw_tbl, w.before #[Value.ref b] s = true) ∧ va_X b L xs s s.heap ∧ b < s.heap.size ∧ meth.locks = false ∧ (Jvm.Cond.and given_1 narrow_1).before #[Value.ref b] s = true
/-! the law's own steps: its script lies below the cells, so its walk is over the machine's rows -/
def LW (p : Program) (l : Launch) (e : Env) (s : State) (m : MethodId) (below : List Frame) (meth : Method) (c : Code) (b k n pc : Nat) (ls : Array Slot) (st : List Value) (N : Nat) (Λ : Lay) (σ : Mem) : Prop :=
  ∀ (H : Heap) (locs : List Loc), Rep s.heap.size N Λ σ s H → va_S (inB s.heap.size) s.heap H locs → W p l e room_1 s m #[Value.ref b] below meth c H locs k n (lw_Z below #[Value.ref b] s) (F0 m pc ls st)
section LAW1
variable {p : Program} {l : Launch} {e : Env} {s : State} {m : MethodId} {below : List Frame} {meth : Method} {c : Code} {b L k n pc : Nat} {xs : Nat → Int32} {ls : Array Slot} {st : List Value} {N : Nat} {Λ : Lay} {σ : Mem}
theorem L_g (C0 : lw_At p s m meth c b L xs) : ∀ w ∈ lw_g, w.before #[Value.ref b] s = true := fun w hw => C0.2.2.2.2.2.1 w (List.mem_filter.mp hw).1
theorem aftL {mc ms : Nat} {st0 rest : List Value} {a : Array Value} {H : Heap} {locs : List Loc} (hr : va_Run p l e room_1 s m #[Value.ref b] below meth c H locs k n mc ms (F0 m pc ls st0) rest (QQ s.heap.size (fun r N' Λ' σ' => LW p l e s m below meth c b (k + mc) (n + ms) (pc + 3) ls (r.map (tv s.heap.size) ++ rest) N' Λ' σ') a) (inB s.heap.size)) (hS : va_S (inB s.heap.size) s.heap H locs) : W p l e room_1 s m #[Value.ref b] below meth c H locs k n (lw_Z below #[Value.ref b] s) (F0 m pc ls st0) := by
  intro T hT XX
  obtain ⟨v, st₀, t, T', Lc, h0, X', hLc, e1, e2, ⟨⟨r, N', Λ', σ', hq, hlen, ho, hRep, hok⟩, hz, hk⟩, hgo⟩ := hr T hT XX
  rw [h0] at hz hk
  have hS' : va_S (inB s.heap.size) s.heap T'.heap (locs ++ Lc) := ⟨Nat.le_trans hS.1 (by rw [e1]; exact hz), fun q h1 h2 => by rw [e1, hk q (Nat.lt_of_lt_of_le h1 hS.1) h2]; exact hS.2.1 q h1 h2, fun q hq => by
    rcases List.mem_append.mp hq with h | h
    · exact hS.2.2 q h
    · exact hLc q h⟩
  have hRep' : Rep s.heap.size N' Λ' σ' s T'.heap := by
    rw [e1]
    refine hRep.moved ?_
    rw [← e2]
    exact X'.warmed.alike.symm
  have hv : v.toList ++ rest = r.map (tv s.heap.size) ++ rest := by
    have hv1 : v = r.head?.map (tv s.heap.size) := by
      unfold outc at ho
      injection ho
    rw [hv1]
    match r, hlen with
    | [], _ => rfl
    | [x], _ => rfl
    | _ :: _ :: _, h => simp at h
  obtain ⟨t2, a1, b1⟩ := hq T'.heap (locs ++ Lc) hRep' hS' T' rfl X'
  refine ⟨t2, hgo t2 ?_, b1⟩
  rw [show ({ F0 m pc ls st0 with pc := (F0 m pc ls st0).pc + 3, stack := v.toList ++ rest } : JFrame) = F0 m (pc + 3) ls (r.map (tv s.heap.size) ++ rest) by rw [← hv]]
  exact a1
theorem L_callV {Y2 : MD} {d idx ci nf : Nat} {T : u_T} {t : Int} {As : List AV} {st0 rest : List Value} {lvs : List (Nat × Value)} {Q : QT} (C0 : lw_At p s m meth c b L xs) (hl : lv_has ls 4 lvs) (dd : decode code pc = .ok (.invokevirtual idx, 3)) (ok : okV Y2) (hl2 : Cond.methodLink RL idx (mN Y2) ∈ lw_g) (hA : As.length = mA Y2) (hm : mL Y2 ≤ 45) (hd : d ≤ 20) (hk : k ≤ 600000 ∧ n ≤ 7302250) (h8 : (rest.map fun v => v.category).sum ≤ 8) (hst : st0 = (As.map (tv s.heap.size)).reverse ++ .ref (s.heap.size + t.toNat) :: rest) (hAs : ∀ v ∈ As, okv v) (hc : CLS ci (mN Y2).cls T nf) (ho : Ob N Λ t (ci + 10) nf)
    (h : MC l Y2 d 0 0 ((2, t) :: As) N Λ σ Q) (hQ : ∀ r N' Λ' σ', Q r N' Λ' σ' → LW p l e s m below meth c b k n (pc + 3) ls (r.map (tv s.heap.size) ++ rest) N' Λ' σ') : LW p l e s m below meth c b k n pc ls st0 N Λ σ := by
  intro H locs hR hS
  have hts := L_g C0
  have hAs' : ∀ v ∈ (2, t) :: As, okv v := fun v hv => by
    rcases List.mem_cons.mp hv with rfl | hv
    · exact ok_r t
    · exact hAs v hv
  have hpre := preY hR hS.1 hAs'
  obtain ⟨D, κ, hP, hK, hz, hmm⟩ := id hR
  obtain ⟨c0, cN, hkk, hnn⟩ := ho
  have hcN : t.toNat < N := by omega
  have he := wsO_get (B := s.heap.size) (Λ := Λ) (κ := κ) (σ := σ) hcN
  rw [ent_o (n := nf) (by rw [show ((t.toNat : Nat) : Int) = t by omega]; exact hkk) (by rw [show ((t.toNat : Nat) : Int) = t by omega]; exact hnn)] at he
  have hrecv := va_recv hK.K0 hP hc.1 he
  have hh := (MC.mono h hQ) s.heap.size
  rw [List.map_cons, tv_r s.heap.size c0] at hh hpre
  subst hst
  exact aftL (mc := 0) (ms := 0) (va_runV (C := (mN Y2).cls) (b := s.heap.size + t.toNat) (As := As.map (tv s.heap.size)) (rest := rest) ⟨C0.1, C0.2.1, C0.2.2.2.1, C0.2.2.2.2.1, hts⟩ hh ⟨cbY ok.1 hts hl2 ⟨by show d + 1 ≤ 2048; omega, by show 8 + (mL Y2 + 11) + 64 * d ≤ 84000; omega⟩, hts _ ok.2.1, hts _ ok.2.2⟩ ⟨hpre.1, hrecv, hpre.2⟩ rfl (by rw [List.length_map]; exact hA) hl.1 rfl (lv_room h8) dd hk) hS
theorem L_callI {Y2 : MD} {d idx ci nf : Nat} {T : u_T} {t : Int} {As : List AV} {st0 rest : List Value} {lvs : List (Nat × Value)} (C0 : lw_At p s m meth c b L xs) (hl : lv_has ls 4 lvs) (dd : decode code pc = .ok (.invokevirtual idx, 3)) (ok : okV Y2) (hl2 : Cond.methodLink RL idx (mN Y2) ∈ lw_g) (hA : As.length = mA Y2) (hm : mL Y2 ≤ 45) (hd : d ≤ 20) (hk : k ≤ 600000 ∧ n ≤ 7302250) (h8 : (rest.map fun v => v.category).sum ≤ 8) (hst : st0 = (As.map (tv s.heap.size)).reverse ++ .ref (s.heap.size + t.toNat) :: rest) (hAs : ∀ v ∈ As, okv v) (hc : CLS ci (mN Y2).cls T nf) (ho : Ob N Λ t (ci + 10) nf)
    (h : CI l Y2 d ((2, t) :: As) N Λ σ (fun v σ' => LW p l e s m below meth c b k n (pc + 3) ls (tv s.heap.size (0, v) :: rest) N Λ σ')) : LW p l e s m below meth c b k n pc ls st0 N Λ σ :=
  L_callV C0 hl dd ok hl2 hA hm hd hk h8 hst hAs hc ho h fun r N' Λ' σ' hq => by
    obtain ⟨v, rfl, rfl, rfl, h⟩ := hq
    exact h
theorem L_callL {Y2 : MD} {d idx ci nf : Nat} {T : u_T} {t : Int} {As : List AV} {st0 rest : List Value} {lvs : List (Nat × Value)} (C0 : lw_At p s m meth c b L xs) (hl : lv_has ls 4 lvs) (dd : decode code pc = .ok (.invokevirtual idx, 3)) (ok : okV Y2) (hl2 : Cond.methodLink RL idx (mN Y2) ∈ lw_g) (hA : As.length = mA Y2) (hm : mL Y2 ≤ 45) (hd : d ≤ 20) (hk : k ≤ 600000 ∧ n ≤ 7302250) (h8 : (rest.map fun v => v.category).sum ≤ 8) (hst : st0 = (As.map (tv s.heap.size)).reverse ++ .ref (s.heap.size + t.toNat) :: rest) (hAs : ∀ v ∈ As, okv v) (hc : CLS ci (mN Y2).cls T nf) (ho : Ob N Λ t (ci + 10) nf)
    (h : CL l Y2 d ((2, t) :: As) N Λ σ (fun v σ' => LW p l e s m below meth c b k n (pc + 3) ls (tv s.heap.size (1, v) :: rest) N Λ σ')) : LW p l e s m below meth c b k n pc ls st0 N Λ σ :=
  L_callV C0 hl dd ok hl2 hA hm hd hk h8 hst hAs hc ho h fun r N' Λ' σ' hq => by
    obtain ⟨v, rfl, rfl, rfl, h⟩ := hq
    exact h
theorem L_new {idx ci nf : Nat} {C : String} {T : u_T} (C0 : lw_At p s m meth c b L xs) (hd : decode code pc = .ok (.new idx, 3)) (hc : CLS ci C T nf) (hcl : Cond.classLink RL idx C ∈ lw_g) (hi : Cond.instantiable C nf ∈ lw_g ∧ Cond.initialized C ∈ lw_g) (hdf : ∀ j : Nat, j < nf → defaultValue (tyC ci j) = tv 0 (fld ci j, if fld ci j = 2 then -1 else 0)) (hcs : k + 1 ≤ 600000 ∧ n + nf ≤ 7302250)
    (K : LW p l e s m below meth c b (k + 1) (n + nf) (pc + 3) ls (.ref (s.heap.size + N) :: st) (N + 1) (newL Λ N (ci + 10) nf) (newM σ N)) : LW p l e s m below meth c b k n pc ls st N Λ σ := by
  intro H locs hR hS
  obtain ⟨D, κ, hP, hK, hz, hm⟩ := id hR
  have hts := L_g C0
  have hKn := hK.1 ci _ hc.1
  refine W.newcK C0.1 C0.2.1 C0.2.2.2.2.1 (hts _ hcl) (hts _ hi.1) (hts _ hi.2) (g := F0 m pc ls st) rfl hd hcs.1 hcs.2 hKn.2.1 rfl fun H1 kC hkC e1 z1 o1 => ?_
  have hKK := K H1 locs ⟨D, fun c => if c = N then 0 else κ c, pushP hP o1 ?_, hK.new (fun h => by omega), by rw [z1]; omega, okm_new hm⟩ ⟨Nat.le_trans hS.1 (by omega), fun x h1 h2 => (o1 x (Nat.lt_of_lt_of_le h1 hS.1)).trans (hS.2.1 x h1 h2), hS.2.2⟩
  · rw [← hz] at hKK
    exact hKK
  · rw [ent_o (n := nf) (by rw [newL_eq]) (by rw [newL_eq])]
    refine ⟨_, hc.1, ?_⟩
    rw [← hz]
    refine (u_born (tyC ci) hts hc.2.1 hKn hkC e1 hc.2.2.1).to fun j hj => ?_
    rw [vp_V_map hj, hdf j hj]
    unfold fv
    by_cases h2 : fld ci j = 2
    · rw [if_pos h2, if_pos h2, newL_eq, h2]
      rfl
    · rw [if_neg h2, if_neg h2, newM_eq]
      unfold tv
      by_cases h0 : fld ci j = 0
      · simp [h0]
      · by_cases h1 : fld ci j = 1
        · simp [h1]
        · exfalso
          unfold fld at h0 h1 h2
          split at h0 <;> simp_all
theorem L_init {Y2 : MD} {d idx mc ms : Nat} {t : Int} {st0 rest : List Value} {lvs : List (Nat × Value)} (C0 : lw_At p s m meth c b L xs) (hl : lv_has ls 4 lvs) (dd : decode code pc = .ok (.invokespecial idx, 3)) (ok : okI Y2) (hret : mR Y2 = none) (hl2 : Cond.methodLink RL idx (mN Y2) ∈ lw_g) (hA : 0 = mA Y2) (hm : mL Y2 ≤ 45) (hd : d ≤ 20) (hk : k + mc ≤ 600000 ∧ n + ms ≤ 7302250) (h8 : (rest.map fun v => v.category).sum ≤ 8) (c0 : 0 ≤ t) (hst : st0 = .ref (s.heap.size + t.toNat) :: rest)
    (h : CC l Y2 d mc ms [(2, t)] N Λ σ (fun N' Λ' σ' => LW p l e s m below meth c b (k + mc) (n + ms) (pc + 3) ls rest N' Λ' σ')) : LW p l e s m below meth c b k n pc ls st0 N Λ σ := by
  intro H locs hR hS
  have hts := L_g C0
  have hpre := preY (As := [(2, t)]) hR hS.1 (fun v hv => by rcases List.mem_cons.mp hv with rfl | hv; exact ok_r t; cases hv)
  have hh := (MC.mono (Q' := fun r N' Λ' σ' => LW p l e s m below meth c b (k + mc) (n + ms) (pc + 3) ls (r.map (tv s.heap.size) ++ rest) N' Λ' σ') h fun r N' Λ' σ' hq => by obtain ⟨rfl, hq⟩ := hq; exact hq) s.heap.size
  rw [List.map_cons, tv_r s.heap.size c0] at hh hpre
  have cb := cbY (R := room_1) (d := d) (mc := mc) (ms := ms) ok.1 hts hl2 ⟨by show d + 1 ≤ 2048; omega, by show 8 + (mL Y2 + 11) + 64 * d ≤ 84000; omega⟩
  rw [hret] at cb
  subst hst
  exact aftL (va_runI (b := s.heap.size + t.toNat) (As := []) (rest := rest) ⟨C0.1, C0.2.1, C0.2.2.2.1, C0.2.2.2.2.1, hts⟩ hh ⟨cb, ok.2.2, hts _ ok.2.1⟩ hpre rfl hA hl.1 rfl (lv_room h8) dd hk) hS
theorem L_al {kk : Fin 4} {i x : Nat} (C0 : lw_At p s m meth c b L xs) (dd : decode code pc = .ok (.aload_n kk, 1)) (hi : (kk : Nat) = i) (hg : ls[i]? = some (.val (.ref x))) (K : LW p l e s m below meth c b k n (pc + 1) ls (.ref x :: st) N Λ σ) : LW p l e s m below meth c b k n pc ls st N Λ σ := fun H locs hR hS => lv_aload_n C0.1 C0.2.1 dd hi hg (K H locs hR hS)
theorem ar_g {z : Int} {L : Nat} (h0 : 0 ≤ z) (h1 : z < L) (hL : L ≤ 3072) : (Int32.ofInt z).toNatClampNeg = z.toNat ∧ ¬ (Int32.ofInt z < 0 ∨ L ≤ (Int32.ofInt z).toNatClampNeg) := by
  have c := clampI (i := z) ⟨by omega, by omega⟩
  refine ⟨c, fun h => ?_⟩
  rcases h with h | h
  · have := (i32_lt (x := z) (y := 0) ⟨by omega, by omega⟩ R32_0).mp h
    omega
  · rw [c] at h
    omega
theorem L_arg {jj i : Int} {x1 x2 : Nat} (j : Nat) (C0 : lw_At p s m meth c b L xs) (hL : L ≤ 3072) (hi : 0 ≤ i ∧ i + 6 ≤ L) (hl : lv_has ls 4 [(3, .int (Int32.ofInt i)), (2, .ref x2), (1, .ref x1), (0, .ref b)]) (d0 : decode code pc = .ok (.aload_n 0, 1)) (d1 : decode code (pc + 1) = .ok (.iload_n 3, 1)) (d2 : decode code (pc + 2) = .ok (.iconst jj, 1)) (d3 : decode code (pc + 3) = .ok (.iadd, 1)) (d4 : decode code (pc + 4) = .ok (.iaload, 1)) (hj : jj = (j : Int)) (h6 : j < 6) (K : LW p l e s m below meth c b k n (pc + 5) ls (tv s.heap.size (0, (xs (i + (j : Int)).toNat).toInt) :: st) N Λ σ) : LW p l e s m below meth c b k n pc ls st N Λ σ := by
  intro H locs hR hS
  have q := ar_g (z := i + (j : Int)) (L := L) (by omega) (by omega) hL
  have KK := K H locs hR hS
  rw [tv_i, Int32.ofInt_toInt] at KK
  refine lv_aload_n C0.1 C0.2.1 d0 rfl (lv_at hl 3 rfl) ?_
  refine lv_iload_n C0.1 C0.2.1 d1 rfl (lv_at hl 0 rfl) ?_
  refine lv_iconst (v := Int32.ofInt (j : Int)) C0.1 C0.2.1 d2 (by rw [hj]) ?_
  refine lv_iadd C0.1 C0.2.1 d3 ?_
  rw [← Int32.ofInt_add]
  refine va_sld C0.1 C0.2.1 C0.2.2.2.2.2.2.1 C0.2.2.2.2.2.2.2.1 (Nat.not_le.mpr C0.2.2.2.2.2.2.2.1) hS q.2 d4 ?_
  rw [q.1]
  exact KK
theorem L_cmpI {v off : Int} {tgt : Nat} (C0 : lw_At p s m meth c b L xs) (dd : decode code pc = .ok (.if_icmp .eq off, 3)) (ht : (pc : Int) + off = (tgt : Int)) (K : LW p l e s m below meth c b k n tgt ls [] N Λ σ) : LW p l e s m below meth c b k n pc ls [tv s.heap.size (0, v), tv s.heap.size (0, v)] N Λ σ := by
  intro H locs hR hS
  rw [tv_i]
  exact lv_icmp_eq C0.1 C0.2.1 dd ht (fun _ => K H locs hR hS) (fun h => absurd rfl h)
theorem L_cmpL {v off : Int} {tgt : Nat} (C0 : lw_At p s m meth c b L xs) (d0 : decode code pc = .ok (.lcmp, 1)) (dd : decode code (pc + 1) = .ok (.ifCond .eq off, 3)) (ht : ((pc + 1 : Nat) : Int) + off = (tgt : Int)) (K : LW p l e s m below meth c b k n tgt ls [] N Λ σ) : LW p l e s m below meth c b k n pc ls [tv s.heap.size (1, v), tv s.heap.size (1, v)] N Λ σ := by
  intro H locs hR hS
  rw [tv_l]
  refine W.lcmp C0.1 C0.2.1 d0 ?_
  rw [show lg_cmp (Int64.ofInt v) (Int64.ofInt v) = 0 by simp [lg_cmp]]
  exact lv_if_eq C0.1 C0.2.1 dd ht (fun _ => K H locs hR hS) (fun h => absurd rfl h)
theorem okl : ∀ (zs : List Int32), ∀ v ∈ zs.map (fun z => ((0 : Nat), z.toInt)), okv v := fun zs v hv => by
  obtain ⟨z, _, rfl⟩ := List.mem_map.mp hv
  exact ok_i (i32_r z)
theorem L_pop {v : Int} (C0 : lw_At p s m meth c b L xs) (dd : decode code pc = .ok (.pop, 1)) (K : LW p l e s m below meth c b k n (pc + 1) ls st N Λ σ) : LW p l e s m below meth c b k n pc ls (tv s.heap.size (0, v) :: st) N Λ σ := fun H locs hR hS => lv_pop C0.1 C0.2.1 dd (by rw [tv_i]; rfl) (K H locs hR hS)
theorem L_pop2 {v : Int} (C0 : lw_At p s m meth c b L xs) (dd : decode code pc = .ok (.pop2, 1)) (K : LW p l e s m below meth c b k n (pc + 1) ls st N Λ σ) : LW p l e s m below meth c b k n pc ls (tv s.heap.size (1, v) :: st) N Λ σ := fun H locs hR hS => lv_pop2_2 C0.1 C0.2.1 dd (by rw [tv_l]; rfl) (K H locs hR hS)
theorem L_goto {off : Int} {tgt : Nat} (C0 : lw_At p s m meth c b L xs) (dd : decode code pc = .ok (.goto off, 3)) (ht : (pc : Int) + off = (tgt : Int)) (K : LW p l e s m below meth c b k n tgt ls st N Λ σ) : LW p l e s m below meth c b k n pc ls st N Λ σ := fun H locs hR hS => lv_goto C0.1 C0.2.1 dd ht (K H locs hR hS)
theorem L_callX {Y2 : MD} {d idx ci nf : Nat} {T : u_T} {t : Int} {As : List AV} {st0 rest : List Value} {lvs : List (Nat × Value)} (C0 : lw_At p s m meth c b L xs) (hl : lv_has ls 4 lvs) (dd : decode code pc = .ok (.invokevirtual idx, 3)) (ok : okV Y2) (hl2 : Cond.methodLink RL idx (mN Y2) ∈ lw_g) (hA : As.length = mA Y2) (hm : mL Y2 ≤ 45) (hd : d ≤ 20) (hk : k ≤ 600000 ∧ n ≤ 7302250) (h8 : (rest.map fun v => v.category).sum ≤ 8) (hst : st0 = (As.map (tv s.heap.size)).reverse ++ .ref (s.heap.size + t.toNat) :: rest) (hAs : ∀ v ∈ As, okv v) (hc : CLS ci (mN Y2).cls T nf) (ho : Ob N Λ t (ci + 10) nf)
    (h : CX l Y2 d ((2, t) :: As) N Λ σ (fun v Λ' σ' => LW p l e s m below meth c b k n (pc + 3) ls (tv s.heap.size (0, v) :: rest) N Λ' σ')) : LW p l e s m below meth c b k n pc ls st0 N Λ σ :=
  L_callV C0 hl dd ok hl2 hA hm hd hk h8 hst hAs hc ho h fun r N' Λ' σ' hq => by
    obtain ⟨v, rfl, rfl, h⟩ := hq
    exact h
end LAW1
