def tyC (ci j : Nat) : FieldType := match ci with
  | 0 => tyX0 j
  | 1 => tyX1 j
  | 2 => tyX2 j
  | 3 => tyX3 j
  | 4 => tyX4 j
  | 5 => tyX5 j
  | 6 => tyX7 j
  | 7 => tyX8 j
  | 8 => tyX9 j
  | 9 => tyX10 j
  | 10 => tyX11 j
  | 11 => tyX12 j
  | _ => .int
/-! A picture of the machine in whole numbers: a value is a tag (0 int, 1 long, 2 reference, 3 nothing known) and an Int; the cells from the address B on are numbered; Λ: of each its kind, its length, its references; σ: its numbers. -/
abbrev AV : Type := Nat × Int
abbrev Mem : Type := Int → Int → Int
abbrev Lay : Type := Int → Nat × Int × (Int → Int)
def R32 (x : Int) : Prop := -2147483648 ≤ x ∧ x ≤ 2147483647
def R64 (x : Int) : Prop := -9223372036854775808 ≤ x ∧ x ≤ 9223372036854775807
theorem i32_b {x : Int} (h : R32 x) : (Int32.ofInt x).toInt = x := Int32.toInt_ofInt_of_le (by have := h.1; omega) (by have := h.2; omega)
theorem i64_b {x : Int} (h : R64 x) : (Int64.ofInt x).toInt = x := Int64.toInt_ofInt_of_le (by have := h.1; omega) (by have := h.2; omega)
theorem i32_r (x : Int32) : R32 x.toInt := ⟨by have := x.le_toInt; omega, by have := x.toInt_lt; omega⟩
theorem i64_r (x : Int64) : R64 x.toInt := ⟨by have := x.le_toInt; omega, by have := x.toInt_lt; omega⟩
def tv (B : Nat) (v : AV) : Value := if v.1 = 0 then .int (Int32.ofInt v.2) else if v.1 = 1 then .long (Int64.ofInt v.2) else if v.2 < 0 then .null else .ref (B + v.2.toNat)
theorem tv_i (B : Nat) (x : Int) : tv B (0, x) = .int (Int32.ofInt x) := rfl
theorem tv_l (B : Nat) (x : Int) : tv B (1, x) = .long (Int64.ofInt x) := rfl
theorem tv_r (B : Nat) {x : Int} (h : 0 ≤ x) : tv B (2, x) = .ref (B + x.toNat) := by
  show (if x < 0 then Value.null else .ref (B + x.toNat)) = _
  rw [if_neg (by omega)]
def cat (v : AV) : Nat := if v.1 = 1 then 2 else 1
theorem tv_cat (B : Nat) (v : AV) : (tv B v).category = cat v := by
  unfold tv cat
  by_cases h0 : v.1 = 0
  · rw [if_pos h0, if_neg (by omega)]; rfl
  · rw [if_neg h0]
    by_cases h1 : v.1 = 1
    · rw [if_pos h1, if_pos h1]; rfl
    · rw [if_neg h1, if_neg h1]
      split <;> rfl
def okv (v : AV) : Prop := (v.1 = 0 → R32 v.2) ∧ (v.1 = 1 → R64 v.2)
theorem ok_i {x : Int} (h : R32 x) : okv (0, x) := ⟨fun _ => h, fun h1 => absurd (show (0 : Nat) = 1 from h1) (by decide)⟩
theorem ok_l {x : Int} (h : R64 x) : okv (1, x) := ⟨fun h1 => absurd (show (1 : Nat) = 0 from h1) (by decide), fun _ => h⟩
theorem ok_r (x : Int) : okv (2, x) := ⟨fun h1 => absurd (show (2 : Nat) = 0 from h1) (by decide), fun h1 => absurd (show (2 : Nat) = 1 from h1) (by decide)⟩
theorem ok_n (x : Int) : okv (3, x) := ⟨fun h1 => absurd (show (3 : Nat) = 0 from h1) (by decide), fun h1 => absurd (show (3 : Nat) = 1 from h1) (by decide)⟩
/-- the tag of field j of an object of class ci -/
def fld (ci j : Nat) : Nat := match tyC ci j with
  | .long => 1
  | .object _ => 2
  | .array _ => 2
  | _ => 0
def rfO (B : Nat) (x : Int) : Option Nat := if x < 0 then none else some (B + x.toNat)
theorem rfO_tv (B : Nat) (x : Int) : va_rf (rfO B x) = tv B (2, x) := by
  show va_rf (if x < 0 then none else some (B + x.toNat)) = (if x < 0 then Value.null else .ref (B + x.toNat))
  split <;> rfl
/-- the number or reference in a place of a cell -/
def fv (t : Nat) (Λ : Lay) (σ : Mem) (c j : Int) : Int := if t = 2 then (Λ c).2.2 j else σ c j
/-- what the real cell number c is: kinds 0 int[], 1 long[], 2 boolean[], 6 byte[]; 3, 4, 5 arrays of references; from 10 on objects -/
def ent (B : Nat) (Λ : Lay) (κ : Nat → ClassId) (σ : Mem) (c : Nat) : va_E :=
  if (Λ c).1 = 0 ∨ (Λ c).1 = 2 ∨ (Λ c).1 = 6 then .inl (κ c, (Λ c).2.1.toNat, .inl fun j => Int32.ofInt (σ c j))
  else if (Λ c).1 = 1 then .inl (κ c, (Λ c).2.1.toNat, .inr (.inl fun j => Int64.ofInt (σ c j)))
  else if (Λ c).1 < 10 then .inl (κ c, (Λ c).2.1.toNat, .inr (.inr (.inr (.inr fun j => rfO B ((Λ c).2.2 j)))))
  else .inr ((Λ c).1 - 10, (List.range (Λ c).2.1.toNat).map fun j => tv B (fld ((Λ c).1 - 10) j, fv (fld ((Λ c).1 - 10) j) Λ σ c j))
def arty (t : Nat) : FieldType := match t with
  | 0 => .int
  | 1 => .long
  | 2 => .boolean
  | 3 => .object "BracketDesk$Poly"
  | 4 => .object "BracketDesk$State"
  | 5 => .array .int
  | _ => .byte
def wsO (B N : Nat) (Λ : Lay) (κ : Nat → ClassId) (σ : Mem) : va_W := (List.range N).map fun c => (B + c, ent B Λ κ σ c)
/-- int[][] is there -/
def AOA (s : State) : Prop := ∃ (comp c : ClassId) (k : Class), s.vm.findClass "[I" = some comp ∧ s.vm.classes[c]? = some k ∧ k.kind = .array comp (.array .int) ∧ s.vm.findClass "[[I" = some c
theorem AOA.moved {u U : State} (hvm : u.vm.Alike U.vm) (h : AOA u) : AOA U := by
  obtain ⟨comp, c, k, h1, h2, h3, h4⟩ := h
  obtain ⟨k', hk', he⟩ := hvm.2.2 _ _ h2
  exact ⟨comp, c, k', by rw [hvm.findClass]; exact h1, hk', by rw [he]; exact h3, by rw [hvm.findClass]; exact h4⟩
def KOK (D : va_G) (κ : Nat → ClassId) (N : Nat) (Λ : Lay) (s : State) : Prop :=
  (∀ (c : Nat) (q : vw_C), vwCl[c]? = some q → u_Kn s q.1 q.2.1 q.2.2 (D.1 c) (D.2 c)) ∧ (∀ c : Nat, c < N → (Λ c).1 < 10 → ArrOfT s (κ c) (arty (Λ c).1) ∧ va_RA s (κ c) (arty (Λ c).1)) ∧ va_AO "BracketDesk$Poly" s ∧ va_AO "BracketDesk$State" s ∧ AOA s
/-- the numbers are in range -/
def okm (N : Nat) (Λ : Lay) (σ : Mem) : Prop := ∀ c j : Int, 0 ≤ c → c < N → 0 ≤ j → j < (Λ c).2.1 →
  ((Λ c).1 = 0 ∨ (Λ c).1 = 2 ∨ (Λ c).1 = 6 → R32 (σ c j)) ∧ ((Λ c).1 = 1 → R64 (σ c j)) ∧ (10 ≤ (Λ c).1 → fld ((Λ c).1 - 10) j.toNat = 0 → R32 (σ c j)) ∧ (10 ≤ (Λ c).1 → fld ((Λ c).1 - 10) j.toNat = 1 → R64 (σ c j))
def Rep (B N : Nat) (Λ : Lay) (σ : Mem) (s : State) (H : Heap) : Prop :=
  ∃ (D : va_G) (κ : Nat → ClassId), va_P D vwCl (wsO B N Λ κ σ) H ∧ KOK D κ N Λ s ∧ H.size = B + N ∧ okm N Λ σ
abbrev inB (B : Nat) : Nat → Prop := fun q => B ≤ q
theorem wsO_get {B N : Nat} {Λ : Lay} {κ : Nat → ClassId} {σ : Mem} {c : Nat} (h : c < N) : (wsO B N Λ κ σ)[c]? = some (B + c, ent B Λ κ σ c) := by
  unfold wsO
  rw [List.getElem?_map, List.getElem?_range h]
  rfl
theorem wsO_D (B N : Nat) (Λ : Lay) (κ : Nat → ClassId) (σ : Mem) : va_D (inB B) (wsO B N Λ κ σ) := by
  have key : ∀ (k : Nat) (q : Nat × va_E), (wsO B N Λ κ σ)[k]? = some q → q.1 = B + k := by
    intro k q h
    have hk : k < N := by
      have := (List.getElem?_eq_some_iff.mp h).1
      simpa [wsO] using this
    rw [wsO_get hk] at h
    cases h
    rfl
  refine ⟨fun i j p q hi hj e => ?_, fun k q h => ?_⟩
  · have := key i p hi; have := key j q hj; omega
  · have := key k q h
    show B ≤ q.1
    omega
theorem wsO_set {B N : Nat} {Λ : Lay} {κ : Nat → ClassId} {σ σ' : Mem} {Λ' : Lay} {c : Nat} {E : va_E} (h : c < N) (hE : E = ent B Λ' κ σ' c) (ho : ∀ k : Nat, k < N → k ≠ c → ent B Λ' κ σ' k = ent B Λ κ σ k) :
    (wsO B N Λ κ σ).set c (B + c, E) = wsO B N Λ' κ σ' := by
  apply List.ext_getElem?
  intro k
  by_cases hk : k < N
  · rw [wsO_get hk]
    by_cases e : k = c
    · subst e
      rw [List.getElem?_set_self (by simpa [wsO] using hk), hE]
    · rw [List.getElem?_set_ne (Ne.symm e), wsO_get hk, ho k hk e]
  · rw [List.getElem?_eq_none (by simp [wsO]; omega), List.getElem?_eq_none (by simp [wsO]; omega)]
theorem wsO_push {B N : Nat} {Λ Λ' : Lay} {κ κ' : Nat → ClassId} {σ σ' : Mem} (ho : ∀ k : Nat, k < N → ent B Λ' κ' σ' k = ent B Λ κ σ k) : wsO B N Λ κ σ ++ [(B + N, ent B Λ' κ' σ' N)] = wsO B (N + 1) Λ' κ' σ' := by
  unfold wsO
  rw [List.range_succ, List.map_append]
  congr 1
  apply List.map_congr_left
  intro k hk
  rw [ho k (List.mem_range.mp hk)]
theorem KOK.K {D : va_G} {κ : Nat → ClassId} {N : Nat} {Λ : Lay} {s : State} (h : KOK D κ N Λ s) {c : Nat} (hc : c < N) (hk : (Λ c).1 < 10) : va_K D vwCl [(κ c, arty (Λ c).1)] s := by
  refine ⟨h.1, fun k q hq => ?_⟩
  have hz : k < 1 := (List.getElem?_eq_some_iff.mp hq).1
  rw [show k = 0 by omega] at hq
  cases hq
  exact h.2.1 c hc hk
theorem KOK.K0 {D : va_G} {κ : Nat → ClassId} {N : Nat} {Λ : Lay} {s : State} (h : KOK D κ N Λ s) : va_K D vwCl [] s := ⟨h.1, fun k q hq => by simp at hq⟩
theorem KOK.K2 {D : va_G} {κ : Nat → ClassId} {N : Nat} {Λ : Lay} {s : State} (h : KOK D κ N Λ s) {c d : Nat} (hc : c < N) (hk : (Λ c).1 < 10) (hd : d < N) (hk2 : (Λ d).1 < 10) : va_K D vwCl [(κ c, arty (Λ c).1), (κ d, arty (Λ d).1)] s := by
  have := (h.K hc hk).app (h.K hd hk2)
  exact this
theorem KOK.moved {D : va_G} {κ : Nat → ClassId} {N : Nat} {Λ : Lay} {u U : State} (hvm : u.vm.Alike U.vm) (h : KOK D κ N Λ u) : KOK D κ N Λ U :=
  ⟨fun c q hq => u_Kn_moved hvm (h.1 c q hq), fun c hc hk => ⟨arrOfT_moved hvm (h.2.1 c hc hk).1, (h.2.1 c hc hk).2.moved hvm⟩, va_AO.moved hvm h.2.2.1, va_AO.moved hvm h.2.2.2.1, h.2.2.2.2.moved hvm⟩
theorem Rep.moved {B N : Nat} {Λ : Lay} {σ : Mem} {u U : State} {H : Heap} (hvm : u.vm.Alike U.vm) (h : Rep B N Λ σ u H) : Rep B N Λ σ U H := by
  obtain ⟨D, κ, h1, h2, h3, h4⟩ := h
  exact ⟨D, κ, h1, h2.moved hvm, h3, h4⟩
/-- the locals, by their numbers -/
def lk : List AV → Nat → AV
  | [], _ => (3, 0)
  | a :: _, 0 => a
  | _ :: l, n + 1 => lk l n
def lvl (B : Nat) (L : List AV) : List (Nat × Value) := (List.range L.length).filterMap fun i => if (lk L i).1 = 3 then none else some (i, tv B (lk L i))
theorem lvl_mem {B : Nat} {L : List AV} {q : Nat × Value} : q ∈ lvl B L ↔ q.1 < L.length ∧ (lk L q.1).1 ≠ 3 ∧ q.2 = tv B (lk L q.1) := by
  unfold lvl
  rw [List.mem_filterMap]
  constructor
  · rintro ⟨i, hi, h⟩
    by_cases e : (lk L i).1 = 3
    · rw [if_pos e] at h; cases h
    · rw [if_neg e] at h
      cases h
      exact ⟨List.mem_range.mp hi, e, rfl⟩
  · rintro ⟨h1, h2, h3⟩
    refine ⟨q.1, List.mem_range.mpr h1, ?_⟩
    rw [if_neg h2, ← h3]
theorem lk_lt {L : List AV} {i : Nat} (h : (lk L i).1 ≠ 3) : i < L.length := by
  induction L generalizing i with
  | nil => exact absurd rfl h
  | cons a l ih =>
    cases i with
    | zero => simp
    | succ n => have := ih (i := n) h; simp; omega
theorem lk_mem {L : List AV} {i : Nat} (h : i < L.length) : lk L i ∈ L := by
  induction L generalizing i with
  | nil => simp at h
  | cons a l ih =>
    cases i with
    | zero => exact List.mem_cons_self
    | succ n => exact List.mem_cons_of_mem _ (ih (by simpa using h))
def ls1 : List AV → Nat → AV → List AV
  | [], _, _ => []
  | _ :: l, 0, v => v :: l
  | a :: l, n + 1, v => a :: ls1 l n v
theorem ls1_len (L : List AV) (i : Nat) (v : AV) : (ls1 L i v).length = L.length := by
  induction L generalizing i with
  | nil => rfl
  | cons a l ih => cases i with
    | zero => rfl
    | succ n => simp [ls1, ih]
theorem ls1_lk (L : List AV) (i j : Nat) (v : AV) : lk (ls1 L i v) j = if j = i ∧ i < L.length then v else lk L j := by
  induction L generalizing i j with
  | nil => simp [ls1, lk]
  | cons a l ih => cases i with
    | zero => cases j with
      | zero => simp [ls1, lk]
      | succ m => simp [ls1, lk]
    | succ n => cases j with
      | zero => simp [ls1, lk]
      | succ m => simp only [ls1, lk]; rw [ih]; simp
theorem ls1_mem {L : List AV} {i : Nat} {v w : AV} (h : w ∈ ls1 L i v) : w = v ∨ w ∈ L := by
  induction L generalizing i with
  | nil => cases h
  | cons a l ih => cases i with
    | zero => rcases List.mem_cons.mp h with h | h
              · exact Or.inl h
              · exact Or.inr (List.mem_cons_of_mem _ h)
    | succ n => rcases List.mem_cons.mp h with h | h
                · exact Or.inr (by rw [h]; exact List.mem_cons_self)
                · exact (ih h).imp id (List.mem_cons_of_mem _)
/-- storing does not break a long that lies ahead -/
def stOk (L : List AV) (i : Nat) : Bool := match i with
  | 0 => true
  | n + 1 => (lk L n).1 != 1
theorem lv_mono {ls : Array Slot} {nL : Nat} {l l' : List (Nat × Value)} (h : lv_has ls nL l) (hs : ∀ q ∈ l', q ∈ l) : lv_has ls nL l' := ⟨h.1, h.2.1, fun q hq => h.2.2 q (hs q hq)⟩
theorem lvl_st1 {B : Nat} {L : List AV} {i : Nat} {v : AV} (hok : stOk L i = true) : ∀ q ∈ lvl B (ls1 L i v), q ∈ (i, tv B v) :: (lvl B L).filter (fun q => !(q.1 == i) && !(q.1 + 1 == i && q.2.category == 2)) := by
  intro q hq
  obtain ⟨h1, h2, h3⟩ := lvl_mem.mp hq
  rw [ls1_len] at h1
  rw [ls1_lk] at h2 h3
  by_cases e : q.1 = i
  · have hc : q.1 = i ∧ i < L.length := ⟨e, by omega⟩
    rw [if_pos hc] at h3
    refine List.mem_cons.mpr (Or.inl ?_)
    exact Prod.ext e h3
  · rw [if_neg (fun h => e h.1)] at h2 h3
    refine List.mem_cons_of_mem _ (List.mem_filter.mpr ⟨lvl_mem.mpr ⟨h1, h2, h3⟩, ?_⟩)
    rw [h3, tv_cat]
    by_cases e2 : q.1 + 1 = i
    · subst e2
      have : (lk L q.1).1 ≠ 1 := by simpa [stOk] using hok
      simp [e, cat, this]
    · simp [e, e2]
theorem lvl_st2 {B : Nat} {L : List AV} {i : Nat} {v : AV} (hok : stOk L i = true) : ∀ q ∈ lvl B (ls1 (ls1 L i v) (i + 1) (3, 0)), q ∈ (i, tv B v) :: (lvl B L).filter (fun q => !(q.1 == i) && (!(q.1 == i + 1) && !(q.1 + 1 == i && q.2.category == 2))) := by
  intro q hq
  obtain ⟨h1, h2, h3⟩ := lvl_mem.mp hq
  rw [ls1_len, ls1_len] at h1
  rw [ls1_lk, ls1_len] at h2 h3
  by_cases e1 : q.1 = i + 1
  · rw [if_pos ⟨e1, by omega⟩] at h2
    exact absurd rfl h2
  · rw [if_neg (fun h => e1 h.1), ls1_lk] at h2 h3
    by_cases e : q.1 = i
    · have hc : q.1 = i ∧ i < L.length := ⟨e, by omega⟩
      rw [if_pos hc] at h3
      exact List.mem_cons.mpr (Or.inl (Prod.ext e h3))
    · rw [if_neg (fun h => e h.1)] at h2 h3
      refine List.mem_cons_of_mem _ (List.mem_filter.mpr ⟨lvl_mem.mpr ⟨h1, h2, h3⟩, ?_⟩)
      rw [h3, tv_cat]
      by_cases e2 : q.1 + 1 = i
      · subst e2
        have : (lk L q.1).1 ≠ 1 := by simpa [stOk] using hok
        simp [e, e1, cat, this]
      · simp [e, e1, e2]
theorem lv_get {B : Nat} {ls : Array Slot} {nL : Nat} {L : List AV} {i : Nat} {v : AV} (h : lv_has ls nL (lvl B L)) (hl : lk L i = v) (hv : v.1 ≠ 3) : ls[i]? = some (.val (tv B v)) := by
  subst hl
  exact h.2.2 (i, tv B (lk L i)) (lvl_mem.mpr ⟨lk_lt hv, hv, rfl⟩)
/-- the locals at a method's start -/
def eL (As : List AV) : List AV := As.flatMap fun v => if v.1 = 1 then [v, (3, 0)] else [v]
theorem eL_args (B : Nat) (As : List AV) : ∀ n : Nat, ∀ i v, i < (eL As).length → lk (eL As) i = v → v.1 ≠ 3 → (n + i, tv B v) ∈ lv_args n (As.map (tv B)) := by
  induction As with
  | nil => intro n i v h; simp [eL] at h
  | cons a l ih =>
    intro n i v h hv h3
    have e : eL (a :: l) = (if a.1 = 1 then [a, (3, 0)] else [a]) ++ eL l := rfl
    rw [e] at h hv
    show _ ∈ (n, tv B a) :: lv_args (if (tv B a).category = 2 then n + 2 else n + 1) (l.map (tv B))
    rw [tv_cat]
    by_cases ha : a.1 = 1
    · rw [if_pos ha] at h hv
      rw [show cat a = 2 from if_pos ha, if_pos rfl]
      match i, h, hv with
      | 0, h, hv => exact List.mem_cons.mpr (Or.inl (by rw [← hv]; rfl))
      | 1, h, hv => exact absurd (by rw [← hv]; rfl) h3
      | j + 2, h, hv =>
        refine List.mem_cons_of_mem _ ?_
        have := ih (n + 2) j v (by simpa using h) hv h3
        rw [show n + (j + 2) = n + 2 + j by omega]
        exact this
    · rw [if_neg ha] at h hv
      rw [show cat a = 1 from if_neg ha, if_neg (by decide)]
      match i, h, hv with
      | 0, h, hv => exact List.mem_cons.mpr (Or.inl (by rw [← hv]; rfl))
      | j + 1, h, hv =>
        refine List.mem_cons_of_mem _ ?_
        have := ih (n + 1) j v (by simpa using h) hv h3
        rw [show n + (j + 1) = n + 1 + j by omega]
        exact this
theorem eL_len (B : Nat) (As : List AV) : (lg_sl (As.map (tv B))).length = (eL As).length := by
  induction As with
  | nil => rfl
  | cons a l ih =>
    have e1 : lg_sl ((a :: l).map (tv B)) = (if (tv B a).category = 2 then [.val (tv B a), .second] else [.val (tv B a)]) ++ lg_sl (l.map (tv B)) := rfl
    have e2 : eL (a :: l) = (if a.1 = 1 then [a, (3, 0)] else [a]) ++ eL l := rfl
    rw [e1, e2, List.length_append, List.length_append, ih, tv_cat]
    by_cases ha : a.1 = 1
    · simp [cat, ha]
    · simp [cat, ha]
/-- room for d more frames -/
def rm (d mc ms : Nat) : Room := { frames := d, cells := mc, slots := ms, locals := 64 * d }
abbrev XT : Type := Nat → Array Value → State → Prop
abbrev ZT : Type := Nat → List Frame → Array Value → State → State → Prop
abbrev QT : Type := List AV → Nat → Lay → Mem → Prop
def Bs (Y : MD) (p : Program) (s : State) (m : MethodId) (args : Array Value) (meth : Method) (c : Code) : Prop :=
  p.tables.exec = Jvm.exec ∧ c.code = mC Y ∧ c.maxLocals = mL Y ∧ s.vm.findClass (mN Y).cls = some m.cls ∧ (∀ w ∈ lw_g, w.before args s = true) ∧ meth.sig.returnType = mR Y ∧ meth.locks = false ∧ meth.name = (mN Y).name
/-- from pc, with locals L, stack S and the cells (N, Λ, σ), the machine comes to Z -/
def WP (l : Launch) (Y : MD) (R : Room) (X : XT) (Z : ZT) (k n pc : Nat) (L S : List AV) (N : Nat) (Λ : Lay) (σ : Mem) : Prop :=
  ∀ (p : Program) (e : Env) (s : State) (m : MethodId) (args : Array Value) (below : List Frame) (meth : Method) (c : Code) (B : Nat) (H : Heap) (locs : List Loc) (ls : Array Slot),
    Bs Y p s m args meth c → X B args s → B ≤ s.heap.size → Rep B N Λ σ s H → va_S (inB B) s.heap H locs → lv_has ls (mL Y) (lvl B L) → (∀ v ∈ L, okv v) → (∀ v ∈ S, okv v) →
    W p l e R s m args below meth c H locs k n (Z B below args s) (F0 m pc ls (S.map (tv B)))
/-- a method's outcome, as the caller sees it -/
def outc (B : Nat) (r : List AV) : Outcome := .returned (r.head?.map (tv B))
def QQ (B : Nat) (Q : QT) : Array Value → State → Outcome → State → Prop := fun _ st o t => (∃ (r : List AV) (N : Nat) (Λ : Lay) (σ : Mem), Q r N Λ σ ∧ r.length ≤ 1 ∧ o = outc B r ∧ Rep B N Λ σ t t.heap ∧ ∀ v ∈ r, okv v) ∧ va_F (inB B) st t
def ZQ (mc ms : Nat) (Q : QT) : ZT := fun B below args s => MQ below (QQ B Q) args s mc ms (inB B)
def noX : XT := fun _ _ _ => True
def wsY (Y : MD) : List Cond := Cond.code (mN Y) (mC Y) (mL Y) (mR Y) :: lw_g
/-- a method's contract at these arguments and cells -/
def MC (l : Launch) (Y : MD) (d mc ms : Nat) (As : List AV) (N : Nat) (Λ : Lay) (σ : Mem) (Q : QT) : Prop :=
  ∀ B : Nat, Met l (mN Y) (wsY Y) (rm d mc ms) (va_Pc (As.map (tv B)) (fun U => Rep B N Λ σ U U.heap ∧ B ≤ U.heap.size ∧ ∀ v ∈ As, okv v)) (QQ B Q) mc ms (inB B)
/-- the instruction at pc, and where the next one stands -/
def DC (Y : MD) (pc : Nat) (ins : Instr) (len q : Nat) : Prop := decode (mC Y) pc = .ok (ins, len) ∧ pc + len = q
theorem MC.of {l : Launch} {Y : MD} {d mc ms : Nat} {As : List AV} {N : Nat} {Λ : Lay} {σ : Mem} {Q : QT} (hy : okY Y) (hL : (eL As).length ≤ mL Y) (h : WP l Y (rm d mc ms) noX (ZQ mc ms Q) 0 0 0 (eL As) [] N Λ σ) : MC l Y d mc ms As N Λ σ Q := by
  intro B
  refine va_MetF (cc := mC Y) (maxL := mL Y) (ret := mR Y) hy.2.2.1 rfl ?_
  intro p e s m args below meth c s₁ Bd hml hv
  obtain ⟨rfl, hRep, hB, hok⟩ := hv
  have hts := atoms_spec (ws := wsY Y) Bd.pre
  have hnm := name_of_methodNamed Bd.named Bd.method
  have hl := lv_entry (As.map (tv B)) (n := mL Y) (by rw [eL_len]; exact hL)
  rw [lg_entry_eq]
  generalize (lg_sl (As.map (tv B)) ++ List.replicate (mL Y - (lg_sl (As.map (tv B))).length) Slot.unset).toArray = ls at hl ⊢
  refine h p e s m _ below meth c B s.heap [] ls ⟨Bd.exec, Bd.bytes, hml, findClass_of_methodNamed Bd.named, fun w hw => hts w (List.mem_cons_of_mem _ hw), Bd.returns, Bd.notSynchronized, hnm.1⟩ trivial hB hRep va_S.rf (lv_mono hl fun q hq => ?_) ?_ (fun v hv => by cases hv)
  · obtain ⟨h1, h2, h3⟩ := lvl_mem.mp hq
    have := eL_args B As 0 q.1 _ h1 rfl h2
    rw [Nat.zero_add, ← h3] at this
    exact this
  · intro v hv
    obtain ⟨a, ha, hm⟩ := List.mem_flatMap.mp hv
    by_cases h1 : a.1 = 1
    · rw [if_pos h1] at hm
      rcases List.mem_cons.mp hm with rfl | hm
      · exact hok _ ha
      · rcases List.mem_cons.mp hm with rfl | hm
        · exact ok_n 0
        · cases hm
    · rw [if_neg h1] at hm
      rcases List.mem_cons.mp hm with rfl | hm
      · exact hok _ ha
      · cases hm
