/-! int[6][480] in one instruction -/
def mk_out (c : ClassId) (h0 n i : Nat) : Cell := arrV c n (fun j => if j < i then .ref (h0 + 1 + j) else .null)
def mk_st (T : State) (c comp : ClassId) (n m : Nat) : Nat → State
  | 0 => T.pushCell (mk_out c T.heap.size n 0)
  | i + 1 => ((mk_st T c comp n m i).pushCell (arrV comp m (fun _ => .int 0))).setCell T.heap.size (mk_out c T.heap.size n (i + 1))
theorem mk_size (T : State) (c comp : ClassId) (n m : Nat) : ∀ i, (mk_st T c comp n m i).heap.size = T.heap.size + 1 + i ∧ (mk_st T c comp n m i).vm = T.vm ∧ (mk_st T c comp n m i).slotsUsed = T.slotsUsed + n + i * m
  | 0 => ⟨by simp [mk_st], rfl, by simp [mk_st, mk_out, arrV_size]⟩
  | i + 1 => by
    obtain ⟨h1, h2, h3⟩ := mk_size T c comp n m i
    refine ⟨by simp [mk_st, State.setCell, h1]; omega, by simp [mk_st, h2], ?_⟩
    simp [mk_st, h3, arrV_size, Nat.succ_mul]
    omega
theorem mk_outer (T : State) (c comp : ClassId) (n m : Nat) : ∀ i, (mk_st T c comp n m i).heap[T.heap.size]? = some (mk_out c T.heap.size n i)
  | 0 => by simp [mk_st]
  | i + 1 => by
    have h1 := (mk_size T c comp n m i).1
    have h : ((mk_st T c comp n m i).pushCell (arrV comp m (fun _ => .int 0))).heap[T.heap.size]? = some (mk_out c T.heap.size n i) := by
      have hlt : T.heap.size < (mk_st T c comp n m i).heap.size := by omega
      rw [State.heap_pushCell_of_lt (h := hlt)]
      exact mk_outer T c comp n m i
    exact State.heap_setCell_self h
theorem mk_old (T : State) (c comp : ClassId) (n m : Nat) {a : Nat} (ha : a < T.heap.size) : ∀ i, (mk_st T c comp n m i).heap[a]? = T.heap[a]?
  | 0 => State.heap_pushCell_of_lt _ _ ha
  | i + 1 => by
    have h1 := (mk_size T c comp n m i).1
    show (((mk_st T c comp n m i).pushCell _).setCell T.heap.size _).heap[a]? = _
    have hlt : a < (mk_st T c comp n m i).heap.size := by omega
    rw [State.heap_setCell_other (Nat.ne_of_gt ha), State.heap_pushCell_of_lt (h := hlt)]
    exact mk_old T c comp n m ha i
theorem mk_inner (T : State) (c comp : ClassId) (n m : Nat) : ∀ i j, j < i → (mk_st T c comp n m i).heap[T.heap.size + 1 + j]? = some (arrV comp m (fun _ => .int 0))
  | 0, j, h => absurd h (Nat.not_lt_zero j)
  | i + 1, j, h => by
    have h1 := (mk_size T c comp n m i).1
    show (((mk_st T c comp n m i).pushCell _).setCell T.heap.size _).heap[T.heap.size + 1 + j]? = _
    rw [State.heap_setCell_other (show T.heap.size ≠ T.heap.size + 1 + j by omega)]
    rcases Nat.lt_or_eq_of_le (Nat.le_of_lt_succ h) with hj | hj
    · have hlt : T.heap.size + 1 + j < (mk_st T c comp n m i).heap.size := by omega
      rw [State.heap_pushCell_of_lt (h := hlt)]
      exact mk_inner T c comp n m i j hj
    · subst hj
      have : T.heap.size + 1 + j = (mk_st T c comp n m j).heap.size := h1.symm
      rw [this]
      simp
theorem mk_top (T : State) (f : JFrame) (c comp : ClassId) (n m : Nat) : ∀ i, mk_st (T.setTop f) c comp n m i = (mk_st T c comp n m i).setTop f
  | 0 => rfl
  | i + 1 => by simp only [mk_st, mk_top T f c comp n m i, State.heap_setTop, State.pushCell_setTop, State.setCell_setTop]
theorem mk_new {E : CtlPost} {e : Env} {dd : Bool} {acts : List Action} {s : State} {c comp : ClassId} {k : Class} {type : FieldType} {len : Nat} {init : Value} (hk : s.vm.classes[c]? = some k) (hkind : k.kind = .array comp type)
    (hlimit : ¬ len > e.platform.arrayLengthLimit) (hheap : ¬ len * componentBytes type > e.platform.maxHeapBytes) (hfit : fits type init = true) (hdef : init.isDefault = true) {Q : Addr → Pre}
    (h1 : s.heap.size < e.platform.maxCells) (h2 : s.slotsUsed + len ≤ e.platform.maxSlots) (hq : Q s.heap.size dd acts (s.pushCell (arrV c len (fun _ => init)))) : wp (Jvm.newArray c len init) Q E e dd acts s := by
  rw [← arrV_new] at hq
  have hfits : ∀ i v, (Array.replicate len init)[i]? = some v → s.fitsSlot c .none i v = true := by
    intro i v hv
    simp only [Array.getElem?_replicate] at hv
    split at hv
    · cases hv
      simp [State.fitsSlot, State.slotType?, hk, hkind, hfit]
    · cases hv
  have hacts : allocActs (Array.replicate len init) s.heap.size acts = acts := by
    have hall : ((Array.replicate len init).all (·.isDefault)) = true := by
      rw [Array.all_replicate]
      split <;> simp [hdef]
    unfold allocActs
    rw [if_pos hall]
  simp only [Jvm.newArray, Jvm.arrayFits, wp_bind', _root_.Jvm.W.ask, _root_.Jvm.W.ite, hlimit, if_false, wp_pure', _root_.Jvm.W.theClass, hk, hkind, hheap, _root_.Jvm.W.alloc, _root_.Jvm.W.stop, Option.some.injEq, exists_eq_left', Array.size_replicate, hacts]
  rw [if_neg (by omega)]
  exact ⟨h1, h2, hfits, hq⟩
theorem mk_wp {E : CtlPost} {e : Env} {dd : Bool} {acts : List Action} {s : State} {c comp cc : ClassId} {k kc : Class} {n m : Int32} (hk : s.vm.classes[c]? = some k) (hkind : k.kind = .array comp (.array .int)) (hkc : s.vm.classes[comp]? = some kc) (hkindc : kc.kind = .array cc .int) (hn : ¬ n < 0) (hm : ¬ m < 0)
    (hl1 : ¬ n.toNatClampNeg > e.platform.arrayLengthLimit) (hh1 : ¬ n.toNatClampNeg * componentBytes (.array .int) > e.platform.maxHeapBytes) (hl2 : ¬ m.toNatClampNeg > e.platform.arrayLengthLimit) (hh2 : ¬ m.toNatClampNeg * componentBytes .int > e.platform.maxHeapBytes)
    (hcs : s.heap.size + 1 + n.toNatClampNeg ≤ e.platform.maxCells) (hss : s.slotsUsed + n.toNatClampNeg + n.toNatClampNeg * m.toNatClampNeg ≤ e.platform.maxSlots)
    {Q : Addr → Pre} (hq : ∀ d' acts', Q s.heap.size d' acts' (mk_st s c comp n.toNatClampNeg m.toNatClampNeg n.toNatClampNeg)) : wp (multianewarray.make c [n, m]) Q E e dd acts s := by
  generalize hN : n.toNatClampNeg = nn at *
  generalize hMm : m.toNatClampNeg = mm at *
  have hfind : ([m].find? (· < 0)) = none := by simp [hm]
  rw [multianewarray.make]
  simp only [wp_bind', _root_.Jvm.W.ite, hn, if_false, wp_pure', _root_.Jvm.W.theClass, hk, hkind, Option.some.injEq, exists_eq_left', hN]
  refine mk_new hk hkind hl1 hh1 rfl rfl (by omega) (by have := Nat.zero_le (nn * mm); omega) ?_
  simp only [hfind]
  rw [ite_self, wp_bind', Std.Legacy.Range.forIn_eq_forIn_range']
  have hsz : ([:nn] : Std.Legacy.Range).size = nn := by simp [Std.Legacy.Range.size]
  rw [hsz]
  show wp (forIn (List.range' 0 nn 1) PUnit.unit _) _ E e dd acts _
  refine wp_forIn_inv (fun rest s' => ∃ i, i ≤ nn ∧ rest = List.range' i (nn - i) ∧ s' = mk_st s c comp nn mm i) _ _ ⟨0, Nat.zero_le _, rfl, rfl⟩ ?_ ?_
  · rintro x rest s' d' acts' Q' ⟨i, hi, hl, rfl⟩ hnext
    have hlt : i < nn := by
      rcases Nat.lt_or_ge i nn with h | h
      · exact h
      · rw [show nn - i = 0 by omega] at hl
        simp at hl
    rw [show nn - i = (nn - (i + 1)) + 1 by omega, List.range'_succ] at hl
    obtain ⟨rfl, hrest⟩ := List.cons.inj hl
    obtain ⟨f1, f3, f4⟩ := mk_size s c comp nn mm x
    have f2 := mk_outer s c comp nn mm x
    have hmul : x * mm + mm ≤ nn * mm := by
      have := Nat.mul_le_mul_right mm (show x + 1 ≤ nn from hlt)
      rw [Nat.succ_mul] at this
      exact this
    simp only [wp_bind']
    rw [multianewarray.make]
    simp only [wp_bind', _root_.Jvm.W.ite, hm, if_false, wp_pure', _root_.Jvm.W.theClass, f3, hkc, hkindc, Option.some.injEq, exists_eq_left', hMm]
    refine mk_new (by rw [f3]; exact hkc) hkindc hl2 hh2 rfl rfl (by rw [f1]; omega) (by rw [f4]; omega) ?_
    have hlt0 : s.heap.size < (mk_st s c comp nn mm x).heap.size := by rw [f1]; omega
    simp only [wp_bind', _root_.Jvm.W.writeLoc, wp_pure']
    refine ⟨mk_out c s.heap.size nn x, by rw [State.heap_pushCell_of_lt (h := hlt0)]; exact f2, by simp [mk_out, arrV], by rw [mk_out, arrV_size]; exact hlt, ?_, hnext _ _ _ ⟨x + 1, hlt, hrest, ?_⟩⟩
    · simp [mk_out, arrV, State.fitsSlot, State.slotType?, f3, hk, hkind, fits]
    · rw [f1]
      show _ = ((mk_st s c comp nn mm x).pushCell _).setCell s.heap.size (mk_out c s.heap.size nn (x + 1))
      congr 1
      unfold mk_out
      rw [arrV_store]
      congr 1
      funext j
      unfold updV
      by_cases hj : j = x
      · rw [if_pos hj, if_pos (by omega), hj]
      · rw [if_neg hj]
        dsimp only
        by_cases hj2 : j < x
        · rw [if_pos hj2, if_pos (by omega)]
        · rw [if_neg hj2, if_neg (by omega)]
  · rintro s' d' acts' ⟨i, hi, hl, rfl⟩
    have hiN : i = nn := by
      rcases Nat.lt_or_ge i nn with h | h
      · rw [show nn - i = (nn - (i + 1)) + 1 by omega, List.range'_succ] at hl
        cases hl
      · omega
    subst hiN
    simp only [wp_pure']
    exact hq _ _
theorem mk_stand {p : Program} {l : Launch} {e : Env} {R : Room} {s : State} {m : MethodId} {args : Array Value} {below : List Frame} {meth : Method} {c : Code} {T : State} {locs : List Loc} {cells slots : Nat} (X : Stand p l e R s m args below meth c T locs cells slots) (cA comp : ClassId) (n mm : Nat) :
    ∀ i, Stand p l e R s m args below meth c (mk_st T cA comp n mm i) (locs ++ (List.range i).map fun j => ⟨T.heap.size, j⟩) (cells + 1 + i) (slots + n + i * mm)
  | 0 => by
    have h := X.pushed (mk_out cA T.heap.size n 0)
    rw [show (mk_out cA T.heap.size n 0).slots.size = n from arrV_size _ _ _] at h
    simpa [mk_st] using h
  | i + 1 => by
    have Xi := mk_stand X cA comp n mm i
    have f1 := (mk_size T cA comp n mm i).1
    have f2 := mk_outer T cA comp n mm i
    have hlt0 : T.heap.size < (mk_st T cA comp n mm i).heap.size := by omega
    have hcell : ((mk_st T cA comp n mm i).pushCell (arrV comp mm (fun _ => .int 0))).heap[T.heap.size]? = some (mk_out cA T.heap.size n i) := by
      rw [State.heap_pushCell_of_lt (h := hlt0)]
      exact f2
    have h := (Xi.pushed (arrV comp mm (fun _ => .int 0))).stored hcell i (.ref (T.heap.size + 1 + i))
    rw [arrV_size] at h
    have e0 : (mk_out cA T.heap.size n i).setSlot i (.ref (T.heap.size + 1 + i)) = mk_out cA T.heap.size n (i + 1) := by
      unfold mk_out
      rw [arrV_store]
      congr 1
      funext j
      unfold updV
      by_cases hj : j = i
      · rw [if_pos hj, if_pos (by omega), hj]
      · rw [if_neg hj]
        dsimp only
        by_cases hj2 : j < i
        · rw [if_pos hj2, if_pos (by omega)]
        · rw [if_neg hj2, if_neg (by omega)]
    rw [e0] at h
    have e2 : (locs ++ (List.range (i + 1)).map fun j => (⟨T.heap.size, j⟩ : Loc)) = (locs ++ (List.range i).map fun j => (⟨T.heap.size, j⟩ : Loc)) ++ [⟨T.heap.size, i⟩] := by simp [List.range_succ, List.append_assoc]
    have e3 : slots + n + (i + 1) * mm = slots + n + i * mm + mm := by rw [Nat.succ_mul]; omega
    rw [e2, e3]
    exact h
theorem W_mna {p : Program} {l : Launch} {e : Env} {R : Room} {s : State} {m : MethodId} {args : Array Value} {below : List Frame} {meth : Method} {c : Code} {H : Heap} {locs : List Loc} {cells slots : Nat} {Q : State → Prop} {cc : ByteArray} (hexec : p.tables.exec = Jvm.exec) (hb : c.code = cc) {own : String} {index : Nat} (hown : s.vm.findClass own = some m.cls) (hclink : (Cond.classLink own index "[[I").before args s = true) (hao : AOA s) (harr : (Cond.arrayClass .int).before args s = true)
    {pc : Nat} {ls : Array Slot} {rest : List Value} {n k : Int32} (hdg : decode cc pc = .ok (.multianewarray index 2, 4)) (hn : ¬ n < 0) (hk : ¬ k < 0) (hb1 : n.toNatClampNeg * 4 ≤ 536870912) (hb2 : k.toNatClampNeg * 4 ≤ 536870912)
    (hcells : cells + (1 + n.toNatClampNeg) ≤ R.cells) (hslots : slots + (n.toNatClampNeg + n.toNatClampNeg * k.toNatClampNeg) ≤ R.slots)
    (kk : ∀ (cA comp : ClassId) (T : State), T.heap = H → s.vm.findClass "[[I" = some cA → s.vm.findClass "[I" = some comp → W p l e R s m args below meth c (mk_st T cA comp n.toNatClampNeg k.toNatClampNeg n.toNatClampNeg).heap (locs ++ (List.range n.toNatClampNeg).map fun j => ⟨T.heap.size, j⟩) (cells + 1 + n.toNatClampNeg) (slots + n.toNatClampNeg + n.toNatClampNeg * k.toNatClampNeg) Q (F0 m (pc + 4) ls (.ref H.size :: rest))) :
    W p l e R s m args below meth c H locs cells slots Q (F0 m pc ls (.int k :: .int n :: rest)) := by
  intro T hT X
  subst hT
  subst hb
  have hpl : e.platform.magicAccessors = ({} : Platform).magicAccessors := by rw [X.admits.platform]
  obtain ⟨comp, cA, kA, hcomp, hkA, hkindA, hnameA⟩ := hao
  obtain ⟨comp', kC, cc, hcomp', hkC, hkindC⟩ := Cond.arrayClass_spec harr
  have ecomp : comp' = comp := Option.some.inj (hcomp'.symm.trans hcomp)
  subst ecomp
  obtain ⟨c0, hfc0, hcl⟩ := Cond.classLink_spec hown hclink e.platform hpl
  cases hnameA.symm.trans hfc0
  obtain ⟨hg₁, hwarm₁, hready₁⟩ := State.classEntry (e := e) X.warmed hcl
  generalize T.vm.noted m.cls index (.cls cA) = vm₁ at hg₁ hwarm₁ hready₁
  have hal : s.vm.Alike vm₁ := hwarm₁.alike
  obtain ⟨kA₁, hkA₁, heA⟩ := hal.2.2 _ _ hkA
  obtain ⟨kC₁, hkC₁, heC⟩ := hal.2.2 _ _ hkC
  have hkindA₁ : kA₁.kind = .array comp' (.array .int) := by rw [heA]; exact hkindA
  have hkindC₁ : kC₁.kind = .array cc .int := by rw [heC]; exact hkindC
  have X₁ := X.noted hwarm₁
  obtain ⟨hr1, hr2⟩ := X.roomAbove hcells hslots
  have XF := mk_stand X₁ cA comp' n.toNatClampNeg k.toNatClampNeg n.toNatClampNeg
  obtain ⟨t, a1, b1⟩ := kk cA comp' (T.setVm vm₁) rfl hnameA hcomp _ rfl XF
  refine ⟨t, ?_, b1⟩
  have hl1 : ¬ n.toNatClampNeg > e.platform.arrayLengthLimit := by rw [Launch.admits_arrayLengthLimit X.admits]; omega
  have hh1 : ¬ n.toNatClampNeg * componentBytes (.array .int) > e.platform.maxHeapBytes := by
    rw [Launch.admits_maxHeapBytes X.admits]
    show ¬ n.toNatClampNeg * 4 > 536870912
    omega
  have hl2 : ¬ k.toNatClampNeg > e.platform.arrayLengthLimit := by rw [Launch.admits_arrayLengthLimit X.admits]; omega
  have hh2 : ¬ k.toNatClampNeg * componentBytes .int > e.platform.maxHeapBytes := by
    rw [Launch.admits_maxHeapBytes X.admits]
    show ¬ k.toNatClampNeg * 4 > 536870912
    omega
  jvm_step X.here [hexec, hdg]
  simp only [multianewarray.sem, wp_bind', _root_.Jvm.W.resolveClassAt_links (State.method?_setTop (F0 m pc ls (.int k :: .int n :: rest)) X.here.top) hg₁]
  rw [_root_.Jvm.W.popN, if_neg (by decide)]
  refine ⟨F0 m pc ls (.int k :: .int n :: rest), State.topJava?_setTop' (s := T.setVm vm₁) _ X.here.top, [.int n, .int k], rest, rfl, rfl, ?_⟩
  simp only [List.mapM_cons, List.mapM_nil, wp_bind', wp_pure']
  refine mk_wp (k := kA₁) (kc := kC₁) (comp := comp') (cc := cc) hkA₁ hkindA₁ hkC₁ hkindC₁ hn hk hl1 hh1 hl2 hh2 (by show T.heap.size + 1 + _ ≤ _; omega) (by show T.slotsUsed + _ + _ ≤ _; omega) (fun d' acts' => ?_)
  have eS : ((T.setTop (F0 m pc ls (.int k :: .int n :: rest))).setVm vm₁).setTop (F0 m pc ls rest) = (T.setVm vm₁).setTop (F0 m pc ls rest) := by
    show ((T.setVm vm₁).setTop _).setTop _ = _
    rw [State.setTop_setTop]
  rw [eS, mk_top]
  simp only [wp_bind', _root_.Jvm.W.mark, _root_.Jvm.W.pushRef, State.topJava?_setTop' _ XF.here.top, Option.some.injEq, exists_eq_left', State.setTop_setTop, State.heap_setTop]
  intro acts
  simp [jvm, XF.here.top]
  exact a1
theorem arrV_congr {c : ClassId} {n : Nat} {f g : Nat → Value} (h : ∀ j, j < n → f j = g j) : arrV c n f = arrV c n g := by
  unfold arrV
  congr 1
  apply Array.ext
  · simp
  · intro j h1 h2
    simp only [Array.getElem_ofFn]
    exact h j (by simpa using h1)
def mnaL (Λ : Lay) (b : Int) : Lay := fun c => if c = b then (5, 6, fun i => b + 1 + i) else if b < c ∧ c ≤ b + 6 then (0, 480, fun _ => -1) else Λ c
def mnaM (σ : Mem) (b : Int) : Mem := fun c j => if b ≤ c ∧ c ≤ b + 6 then 0 else σ c j
theorem r_mna {l : Launch} {Y : MD} {X : XT} {Z : ZT} {k n pc q d mc ms idx : Nat} {L S : List AV} {N : Nat} {Λ : Lay} {σ : Mem} (dd : DC Y pc (.multianewarray idx 2) 4 q) (hcl : Cond.classLink (mN Y).cls idx "[[I" ∈ lw_g) (hac : Cond.arrayClass .int ∈ lw_g) (hcs : k + 7 ≤ mc ∧ n + 2886 ≤ ms)
    (K : WP l Y (rm d mc ms) X Z (k + 7) (n + 2886) q L ((2, (N : Int)) :: S) (N + 7) (mnaL Λ N) (mnaM σ N)) : WP l Y (rm d mc ms) X Z k n pc L ((0, 480) :: (0, 6) :: S) N Λ σ := by
  intro p e s m args below meth cd B H locs ls hb hX hB hR hS hl hL hs
  obtain ⟨hd, rfl⟩ := dd
  obtain ⟨D, κ, hP, hK, hz, hm⟩ := id hR
  have hts := hb.2.2.2.2.1
  have hao := hK.2.2.2.2
  have c6 : (Int32.ofInt 6).toNatClampNeg = 6 := by decide
  have c480 : (Int32.ofInt 480).toNatClampNeg = 480 := by decide
  refine W_mna (n := Int32.ofInt 6) (k := Int32.ofInt 480) (rest := S.map (tv B)) hb.1 hb.2.1 hb.2.2.2.1 (hts _ hcl) hao (hts _ hac) hd (by decide) (by decide) (by rw [c6]; decide) (by rw [c480]; decide) (by rw [c6]; exact hcs.1) (by rw [c6, c480]; exact hcs.2) ?_
  intro cA comp T hT f1 f2
  rw [c6, c480]
  have hTs : T.heap.size = B + N := by rw [hT]; exact hz
  have g1 := (mk_size T cA comp 6 480 6).1
  have g2 := mk_outer T cA comp 6 480 6
  have g3 := fun a (ha : a < T.heap.size) => mk_old T cA comp 6 480 ha 6
  have g4 := fun j (hj : j < 6) => mk_inner T cA comp 6 480 6 j hj
  have hArr : ArrOfT s comp .int ∧ va_RA s comp .int := by
    obtain ⟨c', kC, cc, h1, h2, h3⟩ := Cond.arrayClass_spec (hts _ hac)
    have e1 : c' = comp := Option.some.inj (h1.symm.trans f2)
    subst e1
    exact ⟨fun n z => ⟨fun k h => (by cases h), kC, h2, cc, h3⟩, h1⟩
  have hArr2 : ArrOfT s cA (.array .int) ∧ va_RA s cA (.array .int) := by
    obtain ⟨c1, c2, kA, h1, h2, h3, h4⟩ := hao
    have e1 : c2 = cA := Option.some.inj (h4.symm.trans f1)
    subst e1
    exact ⟨fun n z => ⟨fun k h => (by cases h), kA, h2, c1, h3⟩, h4⟩
  have hKK := K p e s m args below meth cd B (mk_st T cA comp 6 480 6).heap (locs ++ (List.range 6).map fun j => ⟨T.heap.size, j⟩) ls hb hX hB ⟨D, fun c => if c = N then cA else if N < c ∧ c ≤ N + 6 then comp else κ c, ?_, ⟨hK.1, fun c hc hk => ?_, hK.2.2⟩, by rw [g1, hTs]; omega, fun c j h0 h1 h2 h3 => ?_⟩ ⟨by have := hS.1; rw [g1]; omega, fun x h1 h2 => ?_, fun x hx => ?_⟩ hl hL (oks1 (ok_r _) (okt (okt hs)))
  · rw [List.map_cons, tv_r B (by omega), show B + ((N : Nat) : Int).toNat = H.size by omega] at hKK
    exact hKK
  · intro c x hx
    have hc : c < N + 7 := by
      have := (List.getElem?_eq_some_iff.mp hx).1
      simpa [wsO] using this
    rw [wsO_get hc] at hx
    cases hx
    by_cases e1 : c = N
    · subst e1
      rw [ent_q (t := 5) (n := 6) (by simp [mnaL]) (by omega) (by simp [mnaL])]
      show (mk_st T cA comp 6 480 6).heap[B + c]? = some (vp_cell _ _)
      rw [← hTs, g2, vp_cell_q]
      simp only [if_true]
      unfold mk_out
      refine congrArg some (arrV_congr fun j hj => ?_)
      rw [if_pos hj, rfO_tv]
      have : (mnaL Λ (c : Int) (c : Int)).2.2 (j : Int) = (c : Int) + 1 + j := by simp [mnaL]
      rw [this, tv_r B (by omega), hTs, show B + c + 1 + j = B + ((c : Int) + 1 + j).toNat by omega]
    · by_cases e2 : N < c ∧ c ≤ N + 6
      · have hmn : mnaL Λ (N : Int) (c : Int) = (0, 480, fun _ => -1) := by
          unfold mnaL
          rw [if_neg (by omega), if_pos (by omega)]
        rw [ent_i (t := 0) (n := 480) (by rw [hmn]) (Or.inl rfl) (by rw [hmn]; rfl)]
        show (mk_st T cA comp 6 480 6).heap[B + c]? = some (vp_cell _ _)
        have := g4 (c - N - 1) (by omega)
        rw [hTs, show B + N + 1 + (c - N - 1) = B + c by omega] at this
        rw [this, vp_cell_i]
        simp only [e1, if_false, e2, and_self, if_true]
        refine congrArg some (arrV_congr fun j _ => ?_)
        have : mnaM σ (N : Int) (c : Int) (j : Int) = 0 := by
          unfold mnaM
          rw [if_pos (by omega)]
        rw [this]
        rfl
      · have hcN : c < N := by omega
        rw [ent_same (Λ := Λ) (κ := κ) (σ := σ) (by unfold mnaL; rw [if_neg (by omega), if_neg (by omega)]) (by funext j; unfold mnaM; rw [if_neg (by omega)]) (by rw [if_neg e1, if_neg e2])]
        refine (hP c _ (wsO_get hcN)).kept ?_
        show (mk_st T cA comp 6 480 6).heap[B + c]? = H[B + c]?
        rw [g3 _ (by omega), hT]
  · by_cases e1 : c = N
    · subst e1
      have hmn : (mnaL Λ (c : Int) (c : Int)).1 = 5 := by simp [mnaL]
      rw [hmn]
      simp only [if_true]
      exact hArr2
    · by_cases e2 : N < c ∧ c ≤ N + 6
      · have hmn : mnaL Λ (N : Int) (c : Int) = (0, 480, fun _ => -1) := by
          unfold mnaL
          rw [if_neg (by omega), if_pos (by omega)]
        rw [hmn]
        simp only [e1, if_false, e2, and_self, if_true]
        exact hArr
      · have hmn : mnaL Λ (N : Int) (c : Int) = Λ c := by
          unfold mnaL
          rw [if_neg (by omega), if_neg (by omega)]
        rw [hmn] at hk ⊢
        dsimp only
        rw [if_neg e1, if_neg e2]
        exact hK.2.1 c (by omega) hk
  · by_cases e1 : (N : Int) ≤ c ∧ c ≤ N + 6
    · have : mnaM σ (N : Int) c j = 0 := by unfold mnaM; rw [if_pos e1]
      rw [this]
      exact ⟨fun _ => ⟨by decide, by decide⟩, fun _ => ⟨by decide, by decide⟩, fun _ _ => ⟨by decide, by decide⟩, fun _ _ => ⟨by decide, by decide⟩⟩
    · have hmn : mnaL Λ (N : Int) c = Λ c := by
        unfold mnaL
        rw [if_neg (by omega), if_neg (by omega)]
      have : mnaM σ (N : Int) c j = σ c j := by unfold mnaM; rw [if_neg e1]
      rw [hmn] at h3 ⊢
      rw [this]
      exact hm c j h0 (by omega) h2 h3
  · have hxH : x < T.heap.size := by have := hS.1; rw [hT]; omega
    rw [g3 x hxH, hT]
    exact hS.2.1 x h1 h2
  · rcases List.mem_append.mp hx with hx | hx
    · exact hS.2.2 x hx
    · obtain ⟨j, -, rfl⟩ := List.mem_map.mp hx
      show B ≤ T.heap.size
      omega
theorem y_mna {l : Launch} {Y : MD} {X : XT} {Z : ZT} {k n pc q d mc ms idx : Nat} {L S : List AV} {N : Nat} {Λ : Lay} {σ : Mem} (dd : DC Y pc (.multianewarray idx 2) 4 q) (hcl : Cond.classLink (mN Y).cls idx "[[I" ∈ lw_g) (hac : Cond.arrayClass .int ∈ lw_g) (hcs : k + 7 ≤ mc ∧ n + 2886 ≤ ms)
    (K : ∀ a : Int, a = (N : Int) → ∀ Λ1, Λ1 = mnaL Λ N → ∀ σ1, σ1 = mnaM σ N → WP l Y (rm d mc ms) X Z (k + 7) (n + 2886) q L ((2, a) :: S) (N + 7) Λ1 σ1) : WP l Y (rm d mc ms) X Z k n pc L ((0, 480) :: (0, 6) :: S) N Λ σ := r_mna dd hcl hac hcs (K _ rfl _ rfl _ rfl)
theorem Ob_mna {N t : Nat} {Λ Λ1 : Lay} {c len : Int} (e : Λ1 = mnaL Λ N) (h : Ob N Λ c t len) : Ob (N + 7) Λ1 c t len := by
  obtain ⟨h1, h2, h3, h4⟩ := h
  subst e
  have : mnaL Λ (N : Int) c = Λ c := by
    unfold mnaL
    rw [if_neg (by omega), if_neg (by omega)]
  exact ⟨h1, by omega, by rw [this]; exact h3, by rw [this]; exact h4⟩
theorem Ob_mnaS {N : Nat} {Λ Λ1 : Lay} {a : Int} (e : Λ1 = mnaL Λ N) (ha : a = (N : Int)) : Ob (N + 7) Λ1 a 5 6 := by
  subst e
  subst ha
  exact ⟨by omega, by omega, by simp [mnaL], by simp [mnaL]⟩
