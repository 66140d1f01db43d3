/-! exchange: what both sides put, way by way -/
abbrev Way : Type := Int × (Int × Int × Int) × Int × Int × Int
def Wa (w : Way) : Int := Rk w.2.1.1 w.2.1.2.1 w.2.1.2.2
def Wb (w : Way) : Int := Rk w.2.2.1 w.2.2.2.1 w.2.2.2.2
def Wn (w : Way) : Int := w.1 * (sg (Wa w) * sg (Wb w))
def Wk (w : Way) : Int := mk2 (ab (Wa w)) (ab (Wb w))
/-- letters are letters, the sign is one -/
def Wok (w : Way) : Prop := (w.1 = 1 ∨ w.1 = -1) ∧ ((0 ≤ w.2.1.1 ∧ w.2.1.1 < 10) ∧ (0 ≤ w.2.1.2.1 ∧ w.2.1.2.1 < 10) ∧ 0 ≤ w.2.1.2.2 ∧ w.2.1.2.2 < 10) ∧ (0 ≤ w.2.2.1 ∧ w.2.2.1 < 10) ∧ (0 ≤ w.2.2.2.1 ∧ w.2.2.2.1 < 10) ∧ 0 ≤ w.2.2.2.2 ∧ w.2.2.2.2 < 10
def exR : List Way → List (Int × Int) → List (Int × Int)
  | [], ts => ts
  | w :: ws, ts => exR ws (putS ts (Wk w) (Wn w)).2
def ways1 (a0 a1 a2 b0 b1 b2 : Int) : List Way := [(1, (a0, a1, a2), b0, b1, b2), (-1, (a0, a1, b0), a2, b1, b2), (1, (a0, a2, b0), a1, b1, b2), (-1, (a1, a2, b0), a0, b1, b2)]
def ways2 (a0 a1 a2 b0 b1 b2 : Int) : List Way := [(1, (a0, a1, a2), b0, b1, b2), (-1, (a0, a1, b0), a2, b1, b2), (1, (a0, a1, b1), a2, b0, b2), (1, (a0, a2, b0), a1, b1, b2), (-1, (a0, a2, b1), a1, b0, b2), (1, (a0, b0, b1), a1, a2, b2)]
def ways3 (a0 a1 a2 b0 b1 b2 : Int) : List Way := [(1, (a0, a1, a2), b0, b1, b2), (-1, (a0, a1, b0), a2, b1, b2), (1, (a0, a1, b1), a2, b0, b2), (-1, (a0, a1, b2), a2, b0, b1)]
def ways (k a0 a1 a2 b0 b1 b2 : Int) : List Way := if k = 1 then ways1 a0 a1 a2 b0 b1 b2 else if k = 2 then ways2 a0 a1 a2 b0 b1 b2 else ways3 a0 a1 a2 b0 b1 b2
def an_ex (s x y k : Int) : Int := if ¬ (0 ≤ s ∧ s < 6) then -2 else if ¬ ((0 ≤ x ∧ x ≤ 999) ∧ (0 ≤ y ∧ y ≤ 999) ∧ 1 ≤ k ∧ k ≤ 3) then -3 else ((exR (ways k (x / 100) (x / 10 % 10) (x % 10) (y / 100) (y / 10 % 10) (y % 10)) []).length : Int)
theorem an_ex2 {s x y k : Int} (h : ¬ (0 ≤ s ∧ s < 6)) : an_ex s x y k = -2 := if_pos h
theorem an_ex3 {s x y k : Int} (h : 0 ≤ s ∧ s < 6) (h2 : ¬ ((0 ≤ x ∧ x ≤ 999) ∧ (0 ≤ y ∧ y ≤ 999) ∧ 1 ≤ k ∧ k ≤ 3)) : an_ex s x y k = -3 := by unfold an_ex; rw [if_neg (fun z => z h), if_pos h2]
theorem an_exy {s x y k : Int} (h : 0 ≤ s ∧ s < 6) (h2 : (0 ≤ x ∧ x ≤ 999) ∧ (0 ≤ y ∧ y ≤ 999) ∧ 1 ≤ k ∧ k ≤ 3) : an_ex s x y k = ((exR (ways k (x / 100) (x / 10 % 10) (x % 10) (y / 100) (y / 10 % 10) (y % 10)) []).length : Int) := by unfold an_ex; rw [if_neg (fun z => z h), if_neg (fun z => z h2)]
theorem sg_c (r : Int) : sg r = 0 ∨ sg r = 1 ∨ sg r = -1 := by
  unfold sg
  split
  · exact Or.inl rfl
  · split
    · exact Or.inr (Or.inl rfl)
    · exact Or.inr (Or.inr rfl)
theorem sg_z {r : Int} (h : sg r = 0) : r = 0 := by
  unfold sg at h
  split at h
  · assumption
  · split at h <;> omega
theorem Wn_c {w : Way} (h : Wok w) : Wn w = 0 ∨ Wn w = 1 ∨ Wn w = -1 := by
  unfold Wn
  rcases h.1 with e | e <;> rcases sg_c (Wa w) with f | f | f <;> rcases sg_c (Wb w) with g | g | g <;> rw [e, f, g] <;> decide
theorem Wn_0 {w : Way} (h : ¬ Wn w = 0) : ¬ sg (Wa w) = 0 ∧ ¬ Wb w = 0 := by
  refine ⟨fun e => h ?_, fun e => h ?_⟩
  · unfold Wn; rw [e, Int.zero_mul, Int.mul_zero]
  · unfold Wn; rw [e, sg_0, Int.mul_zero, Int.mul_zero]
/-- keys of two brackets -/
def GK (k : Int) : Prop := ∃ p q : Int, 1 ≤ p ∧ p ≤ q ∧ q ≤ 120 ∧ k = 1771561 * p + 14641 * q
def psi (k : Int) : Int := 68719476736 * brc (k / 1771561) + 16777216 * brc (k / 14641 % 121)
theorem psi_e {p q : Int} (h0 : 1 ≤ p) (h1 : p ≤ 120) (h2 : 1 ≤ q) (h3 : q ≤ 120) : psi (1771561 * p + 14641 * q) = 68719476736 * brc p + 16777216 * brc q := by
  unfold psi
  rw [show (1771561 * p + 14641 * q) / 1771561 = p by omega, show (1771561 * p + 14641 * q) / 14641 % 121 = q by omega]
theorem GK_mk {p q : Int} (h0 : 1 ≤ p) (h1 : p ≤ 120) (h2 : 1 ≤ q) (h3 : q ≤ 120) : GK (mk2 p q) := by
  unfold mk2
  split
  · exact ⟨p, q, h0, by omega, h3, rfl⟩
  · exact ⟨q, p, h2, by omega, h1, rfl⟩
theorem psi_mk {p q : Int} (h0 : 1 ≤ p) (h1 : p ≤ 120) (h2 : 1 ≤ q) (h3 : q ≤ 120) : psi (mk2 p q) = ck2 (brc p) (brc q) := by
  unfold mk2 ck2
  by_cases h : p ≤ q
  · rw [if_pos h, psi_e h0 h1 h2 h3]
    have : brc p ≤ brc q := by
      rcases Int.lt_or_eq_of_le h with g | g
      · exact Int.le_of_lt (brc_lt h0 g h3)
      · rw [g]; exact Int.le_refl _
    rw [if_pos this]
  · have : brc q < brc p := brc_lt h2 (by omega) h1
    rw [if_neg h, if_neg (by omega), psi_e h2 h3 h0 h1]
theorem psi_m {k k' : Int} (h : GK k) (h' : GK k') : (k < k' ↔ psi k < psi k') ∧ (k = k' ↔ psi k = psi k') := by
  obtain ⟨p, q, a1, a2, a3, rfl⟩ := h
  obtain ⟨p', q', c1, c2, c3, rfl⟩ := h'
  rw [psi_e a1 (by omega) (by omega) a3, psi_e c1 (by omega) (by omega) c3]
  have b1 := brc_r a1 (show p ≤ 120 by omega)
  have b2 := brc_r (show 1 ≤ q by omega) a3
  have b3 := brc_r c1 (show p' ≤ 120 by omega)
  have b4 := brc_r (show 1 ≤ q' by omega) c3
  have m : ∀ x y : Int, 1 ≤ x → x ≤ 120 → 1 ≤ y → y ≤ 120 → (x < y ∧ brc x < brc y) ∨ (x = y ∧ brc x = brc y) ∨ (y < x ∧ brc y < brc x) := fun x y x1 x2 y1 y2 => by
    rcases Int.lt_trichotomy x y with g | g | g
    · exact Or.inl ⟨g, brc_lt x1 g y2⟩
    · exact Or.inr (Or.inl ⟨g, by rw [g]⟩)
    · exact Or.inr (Or.inr ⟨g, brc_lt y1 g x2⟩)
  have mp := m p p' (by omega) (by omega) (by omega) (by omega)
  have mq := m q q' (by omega) (by omega) (by omega) (by omega)
  clear m
  generalize brc p = x1 at *
  generalize brc q = x2 at *
  generalize brc p' = x3 at *
  generalize brc q' = x4 at *
  refine ⟨⟨fun z => ?_, fun z => ?_⟩, ⟨fun z => ?_, fun z => ?_⟩⟩ <;> rcases mp with mp | mp | mp <;> rcases mq with mq | mq | mq <;> omega
def Phi (e : Int × Int) : Int × Int := (psi e.1, e.2)
theorem map_ers (f : Int × Int → Int × Int) : ∀ (l : List (Int × Int)) (i : Nat), (l.eraseIdx i).map f = (l.map f).eraseIdx i := by
  intro l
  induction l with
  | nil => intro i; rfl
  | cons a r ih => intro i; cases i with
    | zero => rfl
    | succ i => show f a :: (r.eraseIdx i).map f = f a :: (r.map f).eraseIdx i; rw [ih]
theorem map_ins (f : Int × Int → Int × Int) (x : Int × Int) : ∀ (l : List (Int × Int)) (i : Nat), (l.insertIdx i x).map f = (l.map f).insertIdx i (f x) := by
  intro l
  induction l with
  | nil => intro i; cases i with
    | zero => rfl
    | succ i => rfl
  | cons a r ih => intro i; cases i with
    | zero => rfl
    | succ i => rw [List.insertIdx_succ_cons, List.map_cons, List.map_cons, List.insertIdx_succ_cons, ih]
theorem pos_map {k : Int} (hk : GK k) : ∀ ts : List (Int × Int), (∀ e ∈ ts, GK e.1) → pos (psi k) (ts.map Phi) = pos k ts := by
  intro ts
  induction ts with
  | nil => intro _; rfl
  | cons a r ih =>
    intro hg
    have q := psi_m (hg a List.mem_cons_self) hk
    have q2 := ih fun e he => hg e (List.mem_cons_of_mem _ he)
    show (if psi a.1 < psi k then pos (psi k) (r.map Phi) + 1 else 0) = (if a.1 < k then pos k r + 1 else 0)
    rw [q2]
    by_cases h : a.1 < k
    · rw [if_pos h, if_pos (q.1.mp h)]
    · rw [if_neg h, if_neg (fun z => h (q.1.mpr z))]
theorem putS_b {ts : List (Int × Int)} {k n : Int} (h : ¬ Int32R n) : putS ts k n = (4, ts) := by
  unfold putS
  rw [if_pos h]
theorem putS_z (ts : List (Int × Int)) (k : Int) : putS ts k 0 = (0, ts) := by
  unfold putS
  rw [if_neg (fun z => z (by unfold Int32R; decide)), if_pos rfl]
theorem putS_i {ts : List (Int × Int)} {k n : Int} (h1 : Int32R n) (h2 : ¬ n = 0) (hno : ∀ e, ts[pos k ts]? = some e → e.1 ≠ k) : putS ts k n = if ts.length = 80 then (1, ts) else (0, ts.insertIdx (pos k ts) (k, n)) := by
  unfold putS
  rw [if_neg (fun z => z h1), if_neg h2]
  cases hg : ts[pos k ts]? with
  | none => rfl
  | some e => simp only; rw [if_neg (hno e hg)]
theorem putS_u {ts : List (Int × Int)} {k n : Int} {e : Int × Int} (h1 : Int32R n) (h2 : ¬ n = 0) (he : ts[pos k ts]? = some e) (hk : e.1 = k) : putS ts k n = (if ¬ Int32R (e.2 + n) then (4, ts) else if e.2 + n = 0 then (0, ts.eraseIdx (pos k ts)) else (0, ts.set (pos k ts) (k, e.2 + n))) := by
  unfold putS
  rw [if_neg (fun z => z h1), if_neg h2, he]
  simp only
  rw [if_pos hk]
theorem putS_map {k n : Int} {ts : List (Int × Int)} (hk : ¬ n = 0 → GK k) (hg : ∀ e ∈ ts, GK e.1) : putS (ts.map Phi) (psi k) n = ((putS ts k n).1, (putS ts k n).2.map Phi) := by
  by_cases h1 : Int32R n
  · by_cases h2 : n = 0
    · rw [h2, putS_z, putS_z]
    · have hp := pos_map (hk h2) ts hg
      have hgt : (ts.map Phi)[pos (psi k) (ts.map Phi)]? = (ts[pos k ts]?).map Phi := by rw [hp, List.getElem?_map]
      have ins : (∀ e, ts[pos k ts]? = some e → e.1 ≠ k) → putS (ts.map Phi) (psi k) n = ((putS ts k n).1, (putS ts k n).2.map Phi) := fun hno => by
        rw [putS_i h1 h2 hno, putS_i h1 h2 (fun e he => by
          rw [hgt] at he
          cases hq : ts[pos k ts]? with
          | none => rw [hq] at he; cases he
          | some a =>
            rw [hq] at he
            cases he
            exact fun z => hno a hq ((psi_m (hg a (List.mem_of_getElem? hq)) (hk h2)).2.mpr z)), hp, List.length_map]
        by_cases h3 : ts.length = 80
        · rw [if_pos h3, if_pos h3]
        · rw [if_neg h3, if_neg h3, show (psi k, n) = Phi (k, n) from rfl, ← map_ins]
      cases he : ts[pos k ts]? with
      | none => exact ins (fun e h => by rw [he] at h; cases h)
      | some a =>
        by_cases h3 : a.1 = k
        · have q := psi_m (hg a (List.mem_of_getElem? he)) (hk h2)
          have he2 : (ts.map Phi)[pos (psi k) (ts.map Phi)]? = some (Phi a) := by rw [hgt, he]; rfl
          rw [putS_u h1 h2 he h3, putS_u h1 h2 he2 (show psi a.1 = psi k from q.2.mp h3), hp, show (Phi a).2 = a.2 from rfl]
          by_cases h4 : Int32R (a.2 + n)
          · have n4 : ¬ ¬ Int32R (a.2 + n) := fun z => z h4
            rw [if_neg n4, if_neg n4]
            by_cases h5 : a.2 + n = 0
            · rw [if_pos h5, if_pos h5, ← map_ers]
            · rw [if_neg h5, if_neg h5, show (psi k, a.2 + n) = Phi (k, a.2 + n) from rfl, ← List.map_set]
          · rw [if_pos h4, if_pos h4]
        · exact ins (fun e h => by rw [he] at h; cases h; exact h3)
  · rw [putS_b h1, putS_b h1]
/-- behind so many ways -/
def Inv (m : Nat) (ts : List (Int × Int)) : Prop := ts.length ≤ m ∧ ∀ e ∈ ts, (-(m : Int) ≤ e.2 ∧ e.2 ≤ m) ∧ GK e.1
theorem Inv.r32 {m : Nat} {ts : List (Int × Int)} (h : Inv m ts) (hm : m ≤ 50) : ∀ e ∈ ts, Int32R e.2 := fun e he => by have := (h.2 e he).1; unfold Int32R; omega
theorem inv_put {m : Nat} {ts : List (Int × Int)} {k n : Int} (h : Inv m ts) (hm : m ≤ 40) (hn : n = 0 ∨ n = 1 ∨ n = -1) (hk : ¬ n = 0 → GK k) : (putS ts k n).1 = 0 ∧ Inv (m + 1) (putS ts k n).2 := by
  have up : ∀ e ∈ ts, (-((m + 1 : Nat) : Int) ≤ e.2 ∧ e.2 ≤ ((m + 1 : Nat) : Int)) ∧ GK e.1 := fun e he => ⟨by have := (h.2 e he).1; omega, (h.2 e he).2⟩
  have hl := h.1
  have hn1 : Int32R n := by unfold Int32R; omega
  have hins : ¬ n = 0 → (if ts.length = 80 then ((1 : Nat), ts) else (0, ts.insertIdx (pos k ts) (k, n))).1 = 0 ∧ Inv (m + 1) (if ts.length = 80 then ((1 : Nat), ts) else (0, ts.insertIdx (pos k ts) (k, n))).2 := fun h2 => by
    rw [if_neg (by omega)]
    refine ⟨rfl, ?_, fun e he => ?_⟩
    · show (ts.insertIdx (pos k ts) (k, n)).length ≤ m + 1
      rw [List.length_insertIdx]
      split <;> omega
    · rcases (List.mem_insertIdx (pos_le k ts)).mp he with rfl | he
      · exact ⟨by show -((m + 1 : Nat) : Int) ≤ n ∧ n ≤ ((m + 1 : Nat) : Int); omega, hk h2⟩
      · exact up e he
  unfold putS
  rw [if_neg (fun z => z hn1)]
  by_cases h2 : n = 0
  · rw [if_pos h2]
    exact ⟨rfl, by show ts.length ≤ m + 1; omega, up⟩
  · rw [if_neg h2]
    cases he : ts[pos k ts]? with
    | none => exact hins h2
    | some a =>
      simp only
      have ha := h.2 a (List.mem_of_getElem? he)
      by_cases h3 : a.1 = k
      · rw [if_pos h3, if_neg (fun z => z (by unfold Int32R; omega))]
        by_cases h5 : a.2 + n = 0
        · rw [if_pos h5]
          refine ⟨rfl, ?_, fun e he => up e (List.mem_of_mem_eraseIdx he)⟩
          show (ts.eraseIdx (pos k ts)).length ≤ m + 1
          rw [List.length_eraseIdx]
          split <;> omega
        · rw [if_neg h5]
          refine ⟨rfl, ?_, fun e he => ?_⟩
          · show (ts.set (pos k ts) (k, a.2 + n)).length ≤ m + 1
            rw [List.length_set]
            omega
          · rcases List.mem_or_eq_of_mem_set he with he | rfl
            · exact up e he
            · refine ⟨?_, by show GK k; rw [← h3]; exact ha.2⟩
              show -((m + 1 : Nat) : Int) ≤ a.2 + n ∧ a.2 + n ≤ ((m + 1 : Nat) : Int)
              have := ha.1
              omega
      · rw [if_neg h3]
        exact hins h2
theorem ab_b {r : Int} (h1 : -120 ≤ r) (h2 : r ≤ 120) (h0 : ¬ r = 0) : 1 ≤ ab r ∧ ab r ≤ 120 := by
  unfold ab
  split <;> omega
theorem Wk_g {w : Way} (h : Wok w) (hn : ¬ Wn w = 0) : GK (Wk w) ∧ psi (Wk w) = ck2 (brc (ab (Wa w))) (brc (ab (Wb w))) := by
  have q := Wn_0 hn
  have a0 : ¬ Wa w = 0 := fun e => q.1 (by rw [e]; rfl)
  have ra := rk_r h.2.1.1 h.2.1.2.1 h.2.1.2.2
  have rb := rk_r h.2.2.1 h.2.2.2.1 h.2.2.2.2
  have p1 := ab_b (r := Wa w) ra.1 ra.2 a0
  have p2 := ab_b (r := Wb w) rb.1 rb.2 q.2
  exact ⟨GK_mk p1.1 p1.2 p2.1 p2.2, psi_mk p1.1 p1.2 p2.1 p2.2⟩
theorem W_put {m : Nat} {ts : List (Int × Int)} {w : Way} (h : Inv m ts) (hm : m ≤ 40) (hw : Wok w) : putS ts (Wk w) (Wn w) = (0, (putS ts (Wk w) (Wn w)).2) ∧ Inv (m + 1) (putS ts (Wk w) (Wn w)).2 := by
  have q := inv_put h hm (Wn_c hw) fun hn => (Wk_g hw hn).1
  exact ⟨Prod.ext q.1 rfl, q.2⟩
/-- the class's key: any where the number is 0 -/
theorem W_putC {m : Nat} {ts : List (Int × Int)} {w : Way} {k : Int} (h : Inv m ts) (hm : m ≤ 40) (hw : Wok w) (hk : ¬ Wn w = 0 → k = ck2 (brc (ab (Wa w))) (brc (ab (Wb w)))) : putS (ts.map Phi) k (Wn w) = (0, (putS ts (Wk w) (Wn w)).2.map Phi) := by
  by_cases h0 : Wn w = 0
  · rw [h0, putS_z, putS_z]
  · have g := Wk_g hw h0
    rw [hk h0, ← g.2, putS_map (fun _ => g.1) (fun e he => (h.2 e he).2), (W_put h hm hw).1]
