/-! what goes through, whatever the numbers are: the class's polynomials in order, straightening -/
def Pok (σ : Mem) (c : Int) : Prop := ∃ ts : List (Int × Int), PC σ c ts ∧ ts.length ≤ 80 ∧ srtd ts ∧ ∀ e ∈ ts, Int32R e.2
theorem srtd_erase {ts : List (Int × Int)} {p : Nat} (h : srtd ts) : srtd (ts.eraseIdx p) := by
  intro i j a c hij ha hc
  rw [List.getElem?_eraseIdx] at ha hc
  by_cases h1 : i < p
  · rw [if_pos h1] at ha
    by_cases h2 : j < p
    · rw [if_pos h2] at hc
      exact h i j a c hij ha hc
    · rw [if_neg h2] at hc
      exact h i (j + 1) a c (by omega) ha hc
  · rw [if_neg h1] at ha
    rw [if_neg (by omega)] at hc
    exact h (i + 1) (j + 1) a c (by omega) ha hc
theorem srtd_set {ts : List (Int × Int)} {p : Nat} {e : Int × Int} {k n : Int} (h : srtd ts) (he : ts[p]? = some e) (hk : e.1 = k) : srtd (ts.set p (k, n)) := by
  have key : ∀ (i : Nat) (a : Int × Int), (ts.set p (k, n))[i]? = some a → ∃ a', ts[i]? = some a' ∧ a'.1 = a.1 := by
    intro i a ha
    rw [List.getElem?_set] at ha
    by_cases hi : p = i
    · subst hi
      have hp : p < ts.length := (List.getElem?_eq_some_iff.mp he).1
      rw [if_pos rfl, if_pos hp] at ha
      cases ha
      exact ⟨e, he, hk⟩
    · rw [if_neg hi] at ha
      exact ⟨a, ha, rfl⟩
  intro i j a c hij ha hc
  obtain ⟨a', h1, h2⟩ := key i a ha
  obtain ⟨c', h3, h4⟩ := key j c hc
  have := h i j a' c' hij h1 h3
  omega
theorem srtd_ins {ts : List (Int × Int)} {k n : Int} (h : srtd ts) (hno : ∀ e, ts[pos k ts]? = some e → e.1 ≠ k) : srtd (ts.insertIdx (pos k ts) (k, n)) := by
  have hl := pos_le k ts
  have up : ∀ (i : Nat) (a : Int × Int), pos k ts ≤ i → ts[i]? = some a → k < a.1 := by
    intro i a hi ha
    have hil : i < ts.length := (List.getElem?_eq_some_iff.mp ha).1
    obtain ⟨e, he⟩ : ∃ e, ts[pos k ts]? = some e := ⟨_, List.getElem?_eq_getElem (by omega)⟩
    have h1 := pos_ge he
    have h2 := hno e he
    rcases Nat.lt_or_eq_of_le hi with h3 | h3
    · have := h _ _ _ _ h3 he ha
      omega
    · rw [← h3, he] at ha
      cases ha
      omega
  intro i j a c hij ha hc
  rw [List.getElem?_insertIdx] at ha hc
  by_cases h1 : i < pos k ts
  · rw [if_pos h1] at ha
    have hak := pos_lt h1 ha
    by_cases h2 : j < pos k ts
    · rw [if_pos h2] at hc
      exact h i j a c hij ha hc
    · rw [if_neg h2] at hc
      by_cases h3 : j = pos k ts
      · rw [if_pos h3, if_pos (by omega)] at hc
        cases hc
        exact hak
      · rw [if_neg h3] at hc
        have := up (j - 1) c (by omega) hc
        omega
  · rw [if_neg h1] at ha
    rw [if_neg (by omega), if_neg (by omega)] at hc
    by_cases h3 : i = pos k ts
    · rw [if_pos h3, if_pos (by omega)] at ha
      cases ha
      exact up (j - 1) c (by omega) hc
    · rw [if_neg h3] at ha
      exact h (i - 1) (j - 1) a c (by omega) ha hc
theorem putS_ok {ts ts' : List (Int × Int)} {k n : Int} (h : srtd ts) (hl : ts.length ≤ 80) (hn : ∀ e ∈ ts, Int32R e.2) (e : putS ts k n = (0, ts')) : srtd ts' ∧ ts'.length ≤ 80 ∧ ∀ e ∈ ts', Int32R e.2 := by
  unfold putS at e
  by_cases h1 : Int32R n
  · rw [if_neg (fun z => z h1)] at e
    by_cases h2 : n = 0
    · rw [if_pos h2] at e
      cases e
      exact ⟨h, hl, hn⟩
    · rw [if_neg h2] at e
      have hins : ∀ ts2, (if ts.length = 80 then ((1 : Nat), ts) else (0, ts.insertIdx (pos k ts) (k, n))) = (0, ts2) → (∀ e, ts[pos k ts]? = some e → e.1 ≠ k) → srtd ts2 ∧ ts2.length ≤ 80 ∧ ∀ e ∈ ts2, Int32R e.2 := by
        intro ts2 e2 hno
        by_cases h3 : ts.length = 80
        · rw [if_pos h3] at e2
          cases e2
        · rw [if_neg h3] at e2
          cases e2
          refine ⟨srtd_ins h hno, by rw [List.length_insertIdx]; split <;> omega, fun e he => ?_⟩
          rcases (List.mem_insertIdx (pos_le k ts)).mp he with rfl | he
          · exact h1
          · exact hn e he
      cases hg : ts[pos k ts]? with
      | none =>
        rw [hg] at e
        exact hins ts' e (fun e' he' => by rw [hg] at he'; cases he')
      | some a =>
        rw [hg] at e
        simp only at e
        by_cases hk : a.1 = k
        · rw [if_pos hk] at e
          by_cases h4 : Int32R (a.2 + n)
          · rw [if_neg (fun z => z h4)] at e
            by_cases h5 : a.2 + n = 0
            · rw [if_pos h5] at e
              cases e
              exact ⟨srtd_erase h, by rw [List.length_eraseIdx]; split <;> omega, fun e he => hn e (List.mem_of_mem_eraseIdx he)⟩
            · rw [if_neg h5] at e
              cases e
              refine ⟨srtd_set h hg hk, by rw [List.length_set]; exact hl, fun e he => ?_⟩
              rcases List.mem_or_eq_of_mem_set he with he | rfl
              · exact hn e he
              · exact h4
          · rw [if_pos h4] at e
            cases e
        · rw [if_neg hk] at e
          exact hins ts' e (fun e' he' => by rw [hg] at he'; cases he'; exact hk)
  · rw [if_pos h1] at e
    cases e
section GT
variable {l : Launch} {d N : Nat} {Λ : Lay} {σ : Mem} {c : Int}
theorem g_lay {P : Int → Mem → Prop} {key n : Int} (hL : PolyL N Λ c) (hd : 2 ≤ d) (hP : Pok σ c) (h : ∀ v σ', Pok σ' c → Same3 σ σ' c → P v σ') : CI l mX5_lay d [(2, c), (1, key), (1, n)] N Λ σ P := by
  obtain ⟨ts, h1, h2, h3, h4⟩ := hP
  refine k_lay hL hd h1 h2 h3 h4 (fun σ' ts' e hp hs => ?_) (fun k _ _ => h _ σ ⟨ts, h1, h2, h3, h4⟩ (fun _ _ _ _ _ => rfl))
  obtain ⟨a1, a2, a3⟩ := putS_ok h3 h2 h4 e
  exact h 0 σ' ⟨ts', hp, a2, a1, a3⟩ hs
theorem g_bB {P : Int → Mem → Prop} {x y : Int} (hd : 1 ≤ d) (h : ∀ v, P v σ) : CI l mX6_breakBetween d [(0, x), (0, y)] N Λ σ P := by
  refine c_X6_breakBetween (v_X6_breakBetween_0 ?_)
  refine v_X6_breakBetween_2 hd ⟨fun _ => h _, fun _ => ⟨fun _ y1 e1 => ?_, fun _ => h _⟩⟩
  rw [show y1 = 2 from e1.trans (by decide)]
  refine v_X6_breakBetween_2 hd ⟨fun _ => h _, fun _ => ⟨fun _ y1 e1 => ?_, fun _ => h _⟩⟩
  rw [show y1 = 3 from e1.trans (by decide)]
  refine v_X6_breakBetween_2 hd ⟨fun _ => h _, fun _ => ⟨fun _ y1 e1 => ?_, fun _ => h _⟩⟩
  rw [show y1 = 4 from e1.trans (by decide)]
  exact v_X6_breakBetween_2 hd ⟨fun _ => h _, fun hc => absurd (show (3 : Int) < 4 by decide) hc⟩
theorem g_breakOf {P : Int → Mem → Prop} {x : Int} (hd : 2 ≤ d) (h : ∀ v, P v σ) : CI l mX6_breakOf d [(1, x)] N Λ σ P := by
  refine c_X6_breakOf (v_X6_breakOf_0 ?_)
  refine v_X6_breakOf_2 (by omega) ⟨fun _ => h _, fun _ y1 e1 => ⟨fun _ => g_bB (by omega) fun v => ⟨fun _ y2 e2 => ?_, fun _ => h _⟩, fun _ => h _⟩⟩
  rw [show y2 = 1 from e2.trans (by decide)]
  refine v_X6_breakOf_2 (by omega) ⟨fun _ => h _, fun _ y1 e1 => ⟨fun _ => g_bB (by omega) fun v => ⟨fun _ y2 e2 => ?_, fun _ => h _⟩, fun _ => h _⟩⟩
  rw [show y2 = 2 from e2.trans (by decide)]
  refine v_X6_breakOf_2 (by omega) ⟨fun _ => h _, fun _ y1 e1 => ⟨fun _ => g_bB (by omega) fun v => ⟨fun _ y2 e2 => ?_, fun _ => h _⟩, fun _ => h _⟩⟩
  rw [show y2 = 3 from e2.trans (by decide)]
  exact v_X6_breakOf_2 (by omega) ⟨fun _ => h _, fun hc => absurd (by decide) hc⟩
theorem g_with {P : Int → Mem → Prop} {x y : Int} (h : ∀ v, P v σ) : CL l mX6_with d [(1, x), (0, y)] N Λ σ P := by
  refine c_X6_with (v_X6_with_0 ?_)
  refine v_X6_with_3 ⟨fun _ => h _, fun _ y1 _ => ⟨fun _ y2 _ => h _, fun _ => ⟨fun _ y3 e3 => ?_, fun _ y4 _ => h _⟩⟩⟩
  rw [show y3 = 24 from e3.trans (by decide)]
  refine v_X6_with_3 ⟨fun _ => h _, fun _ y1 _ => ⟨fun _ y2 _ => h _, fun _ => ⟨fun _ y3 e3 => ?_, fun _ y4 _ => h _⟩⟩⟩
  rw [show y3 = 12 from e3.trans (by decide)]
  refine v_X6_with_3 ⟨fun _ => h _, fun _ y1 _ => ⟨fun _ y2 _ => h _, fun _ => ⟨fun _ y3 e3 => ?_, fun _ y4 _ => h _⟩⟩⟩
  rw [show y3 = 0 from e3.trans (by decide)]
  refine v_X6_with_3 ⟨fun _ => h _, fun _ y1 _ => ⟨fun _ y2 _ => h _, fun _ => ⟨fun _ y3 e3 => ?_, fun _ y4 _ => h _⟩⟩⟩
  rw [show y3 = -12 from e3.trans (by decide)]
  exact v_X6_with_3 ⟨fun _ => h _, fun hc => absurd (by decide) hc⟩
theorem wo2_lp {P : Int → Mem → Prop} {x y : Int} (hd : 1 ≤ d) (h : ∀ v, P v σ) : ∀ (m : Nat) (i r : Int), 0 ≤ i → (4 - i).toNat ≤ m → WL l mX6_withoutTwo d P 5 [(1, x), (3, 0), (0, y), (1, r), (3, 0), (0, i), (3, 0)] [] N Λ σ := by
  intro m
  induction m with
  | zero => intro i r h0 h1; exact v_X6_withoutTwo_5 hd ⟨fun _ => h _, fun hc => by omega⟩
  | succ m ih =>
    intro i r h0 h1
    have nx : ∀ r' y', y' = addI i 1 → ¬ 4 ≤ i → WL l mX6_withoutTwo d P 5 [(1, x), (3, 0), (0, y), (1, r'), (3, 0), (0, y'), (3, 0)] [] N Λ σ := fun r' y' e hc => by
      rw [e, addI_e (by omega) (by omega)]
      exact ih (i + 1) r' (by omega) (by omega)
    exact v_X6_withoutTwo_5 hd ⟨fun _ => h _, fun hc y1 _ => ⟨fun _ y2 e2 => nx _ _ e2 hc, fun _ => ⟨fun _ y3 e3 => nx _ _ e3 hc, fun _ => ⟨fun _ y4 e4 => nx _ _ e4 hc, fun _ => g_with fun v y7 e7 => nx _ _ e7 hc⟩⟩⟩⟩
theorem g_wo2 {P : Int → Mem → Prop} {x y : Int} (hd : 1 ≤ d) (h : ∀ v, P v σ) : CL l mX6_withoutTwo d [(1, x), (0, y)] N Λ σ P := c_X6_withoutTwo (v_X6_withoutTwo_0 (wo2_lp hd h 4 0 0 (by decide) (by decide)))
theorem g_ord {P : Int → Mem → Prop} {x : Int} (h : ∀ v, P v σ) : CI l mX6_ordered d [(0, x)] N Λ σ P := by
  refine c_X6_ordered (v_X6_ordered_0 ?_)
  intro y1 _ y2 _ y3 _
  have z : ∀ {a b c d' e f : Int}, WI l mX6_ordered d P 35 [(0, a), (0, b), (0, c), (0, d'), (3, 0), (3, 0), (3, 0), (3, 0)] [] N Λ σ := fun {a b c d' e f} => v_X6_ordered_35 (h _)
  have f162 : ∀ {a b c d' e f g k w : Int}, WI l mX6_ordered d P 162 [(0, a), (0, b), (0, c), (0, d'), (0, e), (0, f), (0, g), (0, k)] [(0, w)] N Λ σ := v_X6_ordered_162 (h _)
  have f144 : ∀ {a b c d' e f g w w' : Int}, WI l mX6_ordered d P 144 [(0, a), (0, b), (0, c), (0, d'), (0, e), (0, f), (0, g), (3, 0)] [(0, w), (0, w')] N Λ σ := v_X6_ordered_144 fun _ _ => ⟨fun _ => f162, fun _ => f162⟩
  have f133 : ∀ {a b c d' e f g w w' : Int}, WI l mX6_ordered d P 133 [(0, a), (0, b), (0, c), (0, d'), (0, e), (0, f), (0, g), (3, 0)] [(0, w), (0, w')] N Λ σ := v_X6_ordered_133 ⟨fun _ => f144, fun _ => f144⟩
  have f123 : ∀ {a b c d' e f g w : Int}, WI l mX6_ordered d P 123 [(0, a), (0, b), (0, c), (0, d'), (0, e), (0, f), (0, g), (3, 0)] [(0, w)] N Λ σ := v_X6_ordered_123 ⟨fun _ => f133, fun _ => f133⟩
  have f87 : ∀ {a b c d' e f w : Int}, WI l mX6_ordered d P 87 [(0, a), (0, b), (0, c), (0, d'), (0, e), (0, f), (3, 0), (3, 0)] [(0, w)] N Λ σ := v_X6_ordered_87 fun _ _ => ⟨fun _ => f123, fun _ => f123⟩
  have f73 : ∀ {a b c d' e w : Int}, WI l mX6_ordered d P 73 [(0, a), (0, b), (0, c), (0, d'), (0, e), (3, 0), (3, 0), (3, 0)] [(0, w)] N Λ σ := v_X6_ordered_73 ⟨fun _ => f87, fun _ => f87⟩
  have f61 : ∀ {a b c d' e w : Int}, WI l mX6_ordered d P 61 [(0, a), (0, b), (0, c), (0, d'), (0, e), (3, 0), (3, 0), (3, 0)] [(0, w)] N Λ σ := v_X6_ordered_61 ⟨fun _ => f73, fun _ => f73⟩
  have f47 : ∀ {a b c d' w : Int}, WI l mX6_ordered d P 47 [(0, a), (0, b), (0, c), (0, d'), (3, 0), (3, 0), (3, 0), (3, 0)] [(0, w)] N Λ σ := v_X6_ordered_47 ⟨fun _ => f61, fun _ => f61⟩
  exact ⟨fun _ => v_X6_ordered_35 (h _), fun _ => ⟨fun _ => v_X6_ordered_35 (h _), fun _ => ⟨fun _ => ⟨fun _ => f47, fun _ => f47⟩, fun _ => v_X6_ordered_35 (h _)⟩⟩⟩
theorem g_bit {P : Int → Mem → Prop} {x : Int} (h : ∀ v, P v σ) : CI l mJ6_bitCount_0f7a4 d [(0, x)] N Λ σ P := c_J6_bitCount_0f7a4 (v_J6_bitCount_0f7a4_0 fun _ _ _ _ _ _ _ _ _ _ => h _)
theorem g_attach {P : Mem → Prop} {x : Int} (o : Ob N Λ c 19 2) (hd : 1 ≤ d) (h : ∀ σ', (∀ c', c' ≠ c → σ' c' = σ c') → P σ') : CV l mX10_attach d [(2, c), (0, x)] N Λ σ P := by
  refine c_X10_attach (v_X10_attach_0 o hd (g_ord fun v => ⟨fun _ => ⟨fun _ => g_with fun v2 τ5 e5 => ⟨fun _ τ6 e6 => ?_, fun _ τ7 e7 => ?_⟩, fun _ => g_with fun v2 τ5 e5 => ⟨fun _ τ6 e6 => ?_, fun _ τ7 e7 => ?_⟩⟩, fun _ τ e => ?_⟩))
  · exact h _ fun c' hc => by rw [e6, st_ne hc, e5, st_ne hc]
  · exact h _ fun c' hc => by rw [e7, st_ne hc, e5, st_ne hc]
  · exact h _ fun c' hc => by rw [e6, st_ne hc, e5, st_ne hc]
  · exact h _ fun c' hc => by rw [e7, st_ne hc, e5, st_ne hc]
  · exact h _ fun c' hc => by rw [e, st_ne hc]
theorem aw_lp {P : Int → Mem → Prop} {x1 x2 x3 x4 x5 : Int} (hL : StrL N Λ c) (hd : 2 ≤ d) (h : ∀ v σ', (∀ c', c' ≠ c + 1 → σ' c' = σ c') → P v σ') : ∀ (m : Nat) (x6 x7 x8 x9 i : Int), i ≤ 3 → -1 ≤ i → (i + 1).toNat ≤ m →
    WI l mX8_attachWay d P 15 [(2, c), (0, x1), (0, x2), (0, x3), (0, x4), (0, x5), (0, x6), (0, x7), (0, x8), (0, x9), (0, i), (3, 0)] [] N Λ σ := by
  have fin : ∀ (x6 x7 x9 : Int), CV l mX10_attach (d - 1) [(2, c + 1), (0, x6)] N Λ σ (fun σ1 => (CV l mX10_attach (d - 1) [(2, c + 1), (0, (orI (shlI x7 x5) (andI x4 (subI (shlI 1 x5) 1))))] N Λ σ1 (fun σ2 => ((¬ (andI x9 1) = 0 → P (-1) σ2) ∧ ((andI x9 1) = 0 → P 1 σ2))))) := by
    intro x6 x7 x9
    refine g_attach hL.2.2 (by omega) fun σ1 h1 => g_attach hL.2.2 (by omega) fun σ2 h2 => ?_
    have h3 : ∀ c', c' ≠ c + 1 → σ2 c' = σ c' := fun c' hc => by rw [h2 c' hc, h1 c' hc]
    exact ⟨fun _ => h _ σ2 h3, fun _ => h _ σ2 h3⟩
  intro m
  induction m with
  | zero => intro x6 x7 x8 x9 i h0 h1 h2; exact v_X8_attachWay_15 hL.1 hL.2.1 hL.2.2 (by omega) ⟨fun _ => fin _ _ _, fun hc => by omega⟩
  | succ m ih =>
    intro x6 x7 x8 x9 i h0 h1 h2
    refine v_X8_attachWay_15 hL.1 hL.2.1 hL.2.2 (by omega) ⟨fun _ => fin _ _ _, fun hc y3 _ => ⟨fun _ y4 _ y5 _ y6 e6 => ?_, fun _ y7 _ y8 _ y9 e9 => ?_⟩⟩
    · rw [e6, addI_e (by omega) (by omega)]
      exact ih _ _ _ _ _ (by omega) (by omega) (by omega)
    · rw [e9, addI_e (by omega) (by omega)]
      exact ih _ _ _ _ _ (by omega) (by omega) (by omega)
theorem g_aw {P : Int → Mem → Prop} {x1 x2 x3 x4 x5 : Int} (hL : StrL N Λ c) (hd : 2 ≤ d) (h : ∀ v σ', (∀ c', c' ≠ c + 1 → σ' c' = σ c') → P v σ') : CI l mX8_attachWay d [(2, c), (0, x1), (0, x2), (0, x3), (0, x4), (0, x5)] N Λ σ P :=
  c_X8_attachWay (v_X8_attachWay_0 (aw_lp hL hd h 4 _ _ _ _ _ (by decide) (by decide) (by decide)))
theorem Pok.same {σ' : Mem} (h : Pok σ c) (h0 : σ' c = σ c) (h1 : σ' (c + 1) = σ (c + 1)) (h2 : σ' (c + 2) = σ (c + 2)) : Pok σ' c := by
  obtain ⟨ts, a, b⟩ := h
  exact ⟨ts, a.same h0 h1 h2, b⟩
end GT
