theorem cpM_0 {σ : Mem} {a0 f a2 t : Int} : cpM σ a0 f a2 t 0 = σ := by
  funext c j
  unfold cpM
  rw [if_neg (by omega)]
theorem cpM_s {σ : Mem} {a0 f a2 t i : Int} (hi : 0 ≤ i) (ha : a0 ≠ a2 ∨ t ≤ f ∨ f + i < t) : st (cpM σ a0 f a2 t i) a2 (t + i) (cpM σ a0 f a2 t i a0 (f + i)) = cpM σ a0 f a2 t (i + 1) := by
  funext c j
  have e : cpM σ a0 f a2 t i a0 (f + i) = σ a0 (f + i) := by
    unfold cpM
    rw [if_neg (by omega)]
  rw [e]
  unfold st cpM
  by_cases h1 : c = a2 ∧ j = t + i
  · rw [if_pos h1, if_pos ⟨h1.1, by omega, by omega⟩, h1.2, show t + i - t = i by omega]
  · rw [if_neg h1]
    by_cases h2 : c = a2 ∧ t ≤ j ∧ j < t + i
    · rw [if_pos h2, if_pos ⟨h2.1, by omega, by omega⟩]
    · rw [if_neg h2, if_neg (fun z => by
        rcases Int.lt_or_eq_of_le (show j ≤ t + i by omega) with h | h
        · exact h2 ⟨z.1, z.2.1, h⟩
        · exact h1 ⟨z.1, h⟩)]
section M1
variable {l : Launch} {d N : Nat} {Λ : Lay} {σ : Mem} {b : Int}
theorem copies_lp {P : Mem → Prop} {a0 a2 f t n n0 n2 : Int} (o1 : Ob N Λ a0 0 n0) (o2 : Ob N Λ a2 0 n2) (hf : 0 ≤ f) (ht : 0 ≤ t) (b1 : f + n ≤ n0) (b2 : t + n ≤ n2) (hs : n0 ≤ 100000) (hs2 : n2 ≤ 100000) (ha : a0 ≠ a2 ∨ t ≤ f ∨ f + n ≤ t) (h : P (cpM σ a0 f a2 t n)) :
    ∀ (m : Nat) (i : Int), 0 ≤ i → i ≤ n → (n - i).toNat ≤ m → WV l mX12_copies d P 3 [(2, a0), (0, f), (2, a2), (0, t), (0, n), (0, i)] [] N Λ (cpM σ a0 f a2 t i) := by
  intro m
  induction m with
  | zero =>
    intro i h0 h1 hm
    have e : i = n := by omega
    subst e
    exact v_X12_copies_3 o2.1 o1.1 ⟨fun _ => h, fun hc => absurd (Int.le_refl _) hc⟩
  | succ m ih =>
    intro i h0 h1 hm
    refine v_X12_copies_3 o2.1 o1.1 ⟨fun hc => ?_, fun hc => ?_⟩
    · have e : i = n := by omega
      subst e
      exact h
    · have e1 : addI f i = f + i := addI_e (by omega) (by omega)
      have e2 : addI t i = t + i := addI_e (by omega) (by omega)
      have e3 : addI i 1 = i + 1 := addI_e (by omega) (by omega)
      rw [e1, e2, e3]
      refine ⟨Ix.of o1 (by omega) (by omega), Ix.of o2 (by omega) (by omega), fun τ eτ y ey => ?_⟩
      rw [eτ, ey, cpM_s h0 (by omega)]
      exact ih (i + 1) (by omega) (by omega) (by omega)
theorem k_copies {P : Mem → Prop} {a0 a2 f t n n0 n2 : Int} (o1 : Ob N Λ a0 0 n0) (o2 : Ob N Λ a2 0 n2) (hf : 0 ≤ f) (ht : 0 ≤ t) (hn : 0 ≤ n) (b1 : f + n ≤ n0) (b2 : t + n ≤ n2) (hs : n0 ≤ 100000) (hs2 : n2 ≤ 100000) (ha : a0 ≠ a2 ∨ t ≤ f ∨ f + n ≤ t) (h : P (cpM σ a0 f a2 t n)) : CV l mX12_copies d [(2, a0), (0, f), (2, a2), (0, t), (0, n)] N Λ σ P := by
  refine c_X12_copies (v_X12_copies_0 ?_)
  have := copies_lp (l := l) (d := d) o1 o2 hf ht b1 b2 hs hs2 ha h n.toNat 0 (Int.le_refl 0) hn (by omega)
  rw [cpM_0] at this
  exact this
/-- a polynomial in the row p of the reference's pool: keys and numbers -/
def PM (σ : Mem) (b p : Int) (ts : List (Int × Int)) : Prop := σ (b + 6) (161 * p) = ts.length ∧ ∀ (i : Nat) (e : Int × Int), ts[i]? = some e → σ (b + 6) (161 * p + 1 + 2 * i) = e.1 ∧ σ (b + 6) (161 * p + 2 + 2 * i) = e.2
def srt : List (Int × Int) → Prop
  | [] => True
  | [_] => True
  | a :: c :: r => a.1 < c.1 ∧ srt (c :: r)
/-- how many keys are below k -/
def pos (k : Int) : List (Int × Int) → Nat
  | [] => 0
  | a :: r => if a.1 < k then pos k r + 1 else 0
theorem pos_le (k : Int) (ts : List (Int × Int)) : pos k ts ≤ ts.length := by
  induction ts with
  | nil => exact Nat.le_refl 0
  | cons a r ih => unfold pos; split <;> simp <;> omega
theorem pos_lt {k : Int} {ts : List (Int × Int)} {i : Nat} {e : Int × Int} (h : i < pos k ts) (he : ts[i]? = some e) : e.1 < k := by
  induction ts generalizing i with
  | nil => simp at he
  | cons a r ih =>
    unfold pos at h
    split at h
    · cases i with
      | zero => simp at he; rw [← he]; assumption
      | succ i => exact ih (i := i) (by omega) (by simpa using he)
    · omega
theorem pos_ge {k : Int} {ts : List (Int × Int)} {e : Int × Int} (he : ts[pos k ts]? = some e) : k ≤ e.1 := by
  induction ts with
  | nil => simp at he
  | cons a r ih =>
    unfold pos at he
    split at he
    · exact ih (by simpa using he)
    · simp at he; rw [← he]; omega
theorem pos_eq {k : Int} {ts : List (Int × Int)} {i : Nat} (h1 : ∀ j e, j < i → ts[j]? = some e → e.1 < k) (h2 : ∀ e, ts[i]? = some e → k ≤ e.1) (hi : i ≤ ts.length) : i = pos k ts := by
  rcases Nat.lt_trichotomy i (pos k ts) with h | h | h
  · have hl := pos_le k ts
    obtain ⟨e, he⟩ : ∃ e, ts[i]? = some e := ⟨_, List.getElem?_eq_getElem (by omega)⟩
    have a1 := pos_lt h he
    have a2 := h2 e he
    omega
  · exact h
  · obtain ⟨e, he⟩ : ∃ e, ts[pos k ts]? = some e := ⟨_, List.getElem?_eq_getElem (by omega)⟩
    have a1 := pos_ge he
    have a2 := h1 _ e h he
    omega
theorem placeOf_lp {P : Int → Mem → Prop} {p key : Int} {ts : List (Int × Int)} (hM : ModL N Λ b) (hd : 1 ≤ d) (hp0 : 0 ≤ p) (hp : p < 196) (hP : PM σ b p ts) (hlen : ts.length ≤ 80) (h : P (pos key ts) σ) :
    ∀ (m i : Nat), i ≤ ts.length → ts.length - i ≤ m → (∀ j e, j < i → ts[j]? = some e → e.1 < key) → WI l mX12_placeOf d P 2 [(2, b), (0, p), (0, key), (0, (i : Int))] [] N Λ σ := by
  intro m
  induction m with
  | zero =>
    intro i h1 h2 h3
    have e : i = ts.length := by omega
    have e1 : mulI 161 p = 161 * p := mulI_e (by omega) (by omega)
    refine v_X12_placeOf_2 hM.1 (M_fpool hM) hd ?_
    rw [e1, hP.1]
    refine ⟨Ix.of (M_pool hM) (by omega) (by omega), fun _ => ?_, fun hc => by omega⟩
    rw [pos_eq h3 (fun e he => by rw [List.getElem?_eq_none (by omega)] at he; cases he) h1]
    exact h
  | succ m ih =>
    intro i h1 h2 h3
    have e1 : mulI 161 p = 161 * p := mulI_e (by omega) (by omega)
    have e2 : mulI 2 (i : Int) = 2 * i := mulI_e (by omega) (by omega)
    have e3 : addI (161 * p) 1 = 161 * p + 1 := addI_e (by omega) (by omega)
    have e4 : addI (161 * p + 1) (2 * (i : Int)) = 161 * p + 1 + 2 * i := addI_e (by omega) (by omega)
    have e5 : addI (i : Int) 1 = (i : Int) + 1 := addI_e (by omega) (by omega)
    refine v_X12_placeOf_2 hM.1 (M_fpool hM) hd ?_
    rw [e1, e2, e3, e4, e5, hP.1]
    refine ⟨Ix.of (M_pool hM) (by omega) (by omega), fun hc => ?_, fun hc => ?_⟩
    · rw [pos_eq h3 (fun e he => by rw [List.getElem?_eq_none (by omega)] at he; cases he) h1]
      exact h
    · have hi : i < ts.length := by omega
      obtain ⟨e, he⟩ : ∃ e, ts[i]? = some e := ⟨_, List.getElem?_eq_getElem hi⟩
      rw [(hP.2 i e he).1]
      refine ⟨Ix.of (M_pool hM) (by omega) (by omega), fun hc2 => ?_, fun hc2 y ey => ?_⟩
      · rw [pos_eq h3 (fun e' he' => by rw [he] at he'; cases he'; exact hc2) h1]
        exact h
      · rw [ey]
        exact ih (i + 1) (by omega) (by omega) (fun j e' hj he' => by
          rcases Nat.lt_or_eq_of_le (Nat.le_of_lt_succ hj) with hj | hj
          · exact h3 j e' hj he'
          · subst hj
            rw [he] at he'
            cases he'
            omega)
theorem k_placeOf {P : Int → Mem → Prop} {p key : Int} {ts : List (Int × Int)} (hM : ModL N Λ b) (hd : 1 ≤ d) (hp0 : 0 ≤ p) (hp : p < 196) (hP : PM σ b p ts) (hlen : ts.length ≤ 80) (h : P (pos key ts) σ) : CI l mX12_placeOf d [(2, b), (0, p), (0, key)] N Λ σ P :=
  c_X12_placeOf (v_X12_placeOf_0 (placeOf_lp hM hd hp0 hp hP hlen h ts.length 0 (Nat.zero_le _) (by omega) (fun j e hj => by omega)))
end M1
