theorem cmpL_lt {x y : Int} : cmpL x y < 0 ↔ x < y := by
  unfold cmpL
  repeat' split
  all_goals omega
theorem cmpL_gt {x y : Int} : 0 < cmpL x y ↔ y < x := by
  unfold cmpL
  repeat' split
  all_goals omega
theorem cmpL_0 {x y : Int} : cmpL x y = 0 ↔ x = y := by
  unfold cmpL
  repeat' split
  all_goals omega
theorem cmpL_le {x y : Int} : cmpL x y ≤ 0 ↔ x ≤ y := by
  unfold cmpL
  repeat' split
  all_goals omega
theorem cmpL_ge {x y : Int} : 0 ≤ cmpL x y ↔ y ≤ x := by
  unfold cmpL
  repeat' split
  all_goals omega
abbrev Int32R (n : Int) : Prop := -2147483648 ≤ n ∧ n ≤ 2147483647
/-- a term is put to a polynomial: why not (0: it is), and what there is then -/
def putS (ts : List (Int × Int)) (k n : Int) : Nat × List (Int × Int) :=
  if ¬ Int32R n then (4, ts) else if n = 0 then (0, ts) else
  match ts[pos k ts]? with
  | some e => if e.1 = k then (if ¬ Int32R (e.2 + n) then (4, ts) else if e.2 + n = 0 then (0, ts.eraseIdx (pos k ts)) else (0, ts.set (pos k ts) (k, e.2 + n)))
      else if ts.length = 80 then (1, ts) else (0, ts.insertIdx (pos k ts) (k, n))
  | none => if ts.length = 80 then (1, ts) else (0, ts.insertIdx (pos k ts) (k, n))
def SameP (σ σ' : Mem) (b p : Int) : Prop := ∀ c j, ¬ (c = b + 6 ∧ 161 * p ≤ j ∧ j < 161 * p + 161) → σ' c j = σ c j
/-- the cells from at to e move two places up, those above i are done -/
def shU (σ : Mem) (c0 e i : Int) : Mem := fun c j => if c = c0 ∧ i + 3 ≤ j ∧ j < e + 2 then σ c (j - 2) else σ c j
theorem shU_s {σ : Mem} {c0 e i : Int} (h : i < e) : st (shU σ c0 e i) c0 (i + 2) (shU σ c0 e i c0 i) = shU σ c0 e (i - 1) := by
  funext c j
  have e1 : shU σ c0 e i c0 i = σ c0 i := by
    unfold shU
    rw [if_neg (by omega)]
  rw [e1]
  unfold st shU
  by_cases h1 : c = c0 ∧ j = i + 2
  · rw [if_pos h1, if_pos ⟨h1.1, by omega, by omega⟩, h1.1, h1.2, show i + 2 - 2 = i by omega]
  · rw [if_neg h1]
    by_cases h2 : c = c0 ∧ i + 3 ≤ j ∧ j < e + 2
    · rw [if_pos h2, if_pos ⟨h2.1, by omega, by omega⟩]
    · rw [if_neg h2, if_neg (fun z => by
        rcases Int.lt_or_eq_of_le (show i + 2 ≤ j by omega) with h | h
        · exact h2 ⟨z.1, by omega, z.2.2⟩
        · exact h1 ⟨z.1, h.symm⟩)]
theorem shU_0 {σ : Mem} {c0 e : Int} : shU σ c0 e (e - 1) = σ := by
  funext c j
  unfold shU
  rw [if_neg (by omega)]
theorem rd3 {σ : Mem} {c i1 v1 i2 v2 i3 v3 j : Int} (h1 : j ≠ i1) (h2 : j ≠ i2) (h3 : j ≠ i3) : st (st (st σ c i1 v1) c i2 v2) c i3 v3 c j = σ c j := by rw [st_nj h3, st_nj h2, st_nj h1]
section M2
variable {l : Launch} {d N : Nat} {Λ : Lay} {σ : Mem} {b : Int}
theorem pool_ix {p j : Int} (hM : ModL N Λ b) (hp0 : 0 ≤ p) (hp : p < 196) (h0 : 161 * p ≤ j) (h1 : j < 161 * p + 161) : Ix N Λ (b + 6) 0 j := Ix.of (M_pool hM) (by omega) (by omega)
theorem puts_del {P : Int → Mem → Prop} {p key n v4 at_ e s0 : Int} (hM : ModL N Λ b) (hp0 : 0 ≤ p) (hp : p < 196) (ha : 161 * p + 1 ≤ at_) (he : e ≤ 161 * p + 161) (hae : at_ + 2 ≤ e)
    (hm : 1 ≤ σ (b + 6) (161 * p)) (hm2 : σ (b + 6) (161 * p) ≤ 80) (h : P 1 (st (cpM σ (b + 6) (at_ + 2) (b + 6) at_ (e - 2 - at_)) (b + 6) (161 * p) (σ (b + 6) (161 * p) - 1))) :
    ∀ (m : Nat) (i : Int), at_ ≤ i → i ≤ e - 2 → (e - 2 - i).toNat ≤ m → WI l mX12_puts d P 141 [(2, b), (0, p), (0, key), (1, n), (3, 0), (0, v4), (0, at_), (0, e), (1, s0), (3, 0), (0, i)] [] N Λ (cpM σ (b + 6) (at_ + 2) (b + 6) at_ (i - at_)) := by
  intro m
  have e1 : mulI 161 p = 161 * p := mulI_e (by omega) (by omega)
  have e2 : subI e 2 = e - 2 := subI_e (by omega) (by omega)
  have hfin : ∀ i : Int, i = e - 2 → (Ix N Λ (b + 6) 0 (161 * p) ∧ (Ix N Λ (b + 6) 0 (161 * p) ∧ (∀ τ1, τ1 = st (cpM σ (b + 6) (at_ + 2) (b + 6) at_ (i - at_)) (b + 6) (161 * p) (subI ((cpM σ (b + 6) (at_ + 2) (b + 6) at_ (i - at_)) (b + 6) (161 * p)) 1) → P 1 τ1))) := by
    intro i hi
    subst hi
    refine ⟨pool_ix hM hp0 hp (by omega) (by omega), pool_ix hM hp0 hp (by omega) (by omega), fun τ eτ => ?_⟩
    have e3 : cpM σ (b + 6) (at_ + 2) (b + 6) at_ (e - 2 - at_) (b + 6) (161 * p) = σ (b + 6) (161 * p) := by
      unfold cpM
      rw [if_neg (by omega)]
    rw [eτ, e3, subI_e (by omega) (by omega)]
    exact h
  induction m with
  | zero =>
    intro i h1 h2 h3
    refine v_X12_puts_141 hM.1 (M_fpool hM) ?_
    rw [e1, e2]
    exact ⟨fun _ => hfin i (by omega), fun hc => absurd (show e - 2 ≤ i by omega) hc⟩
  | succ m ih =>
    intro i h1 h2 h3
    refine v_X12_puts_141 hM.1 (M_fpool hM) ?_
    rw [e1, e2]
    refine ⟨fun hc => hfin i (by omega), fun hc => ?_⟩
    have e4 : addI i 2 = i + 2 := addI_e (by omega) (by omega)
    have e5 : addI i 1 = i + 1 := addI_e (by omega) (by omega)
    rw [e4, e5]
    clear e4 e5 e1 e2 hm hm2
    refine ⟨pool_ix hM hp0 hp (by omega) (by omega), pool_ix hM hp0 hp (by omega) (by omega), fun τ eτ y ey => ?_⟩
    rw [eτ, ey]
    have e6 := cpM_s (σ := σ) (a0 := b + 6) (a2 := b + 6) (f := at_ + 2) (t := at_) (i := i - at_) (by omega) (Or.inr (Or.inl (by omega)))
    rw [show at_ + 2 + (i - at_) = i + 2 by omega, show at_ + (i - at_) = i by omega, show i - at_ + 1 = i + 1 - at_ by omega] at e6
    rw [e6]
    exact ih (i + 1) (by omega) (by omega) (by omega)
theorem puts_ins {P : Int → Mem → Prop} {p key n v4 at_ e : Int} (hM : ModL N Λ b) (hp0 : 0 ≤ p) (hp : p < 196) (ha : 161 * p + 1 ≤ at_) (he : e + 2 ≤ 161 * p + 161) (hae : at_ ≤ e)
    (hm : 0 ≤ σ (b + 6) (161 * p)) (hm2 : σ (b + 6) (161 * p) < 80) (hn : Int32R n) (h : P 1 (st (st (st (shU σ (b + 6) e (at_ - 1)) (b + 6) at_ key) (b + 6) (at_ + 1) n) (b + 6) (161 * p) (σ (b + 6) (161 * p) + 1))) :
    ∀ (m : Nat) (i : Int), at_ - 1 ≤ i → i ≤ e - 1 → (i - (at_ - 1)).toNat ≤ m → WI l mX12_puts d P 210 [(2, b), (0, p), (0, key), (1, n), (3, 0), (0, v4), (0, at_), (0, e), (0, i), (3, 0), (3, 0)] [] N Λ (shU σ (b + 6) e i) := by
  intro m
  have e1 : mulI 161 p = 161 * p := mulI_e (by omega) (by omega)
  have e2 : addI at_ 1 = at_ + 1 := addI_e (by omega) (by omega)
  have hfin : ∀ i : Int, i = at_ - 1 → (Ix N Λ (b + 6) 0 at_ ∧ (∀ τ1, τ1 = st (shU σ (b + 6) e i) (b + 6) at_ key → (Ix N Λ (b + 6) 0 (at_ + 1) ∧ (∀ τ2, τ2 = st τ1 (b + 6) (at_ + 1) (l2iI n) → (Ix N Λ (b + 6) 0 (161 * p) ∧ (Ix N Λ (b + 6) 0 (161 * p) ∧ (∀ τ3, τ3 = st τ2 (b + 6) (161 * p) (addI (τ2 (b + 6) (161 * p)) 1) → P 1 τ3))))))) := by
    intro i hi
    subst hi
    refine ⟨pool_ix hM hp0 hp (by omega) (by omega), fun τ1 h1 => ⟨pool_ix hM hp0 hp (by omega) (by omega), fun τ2 h2 => ⟨pool_ix hM hp0 hp (by omega) (by omega), pool_ix hM hp0 hp (by omega) (by omega), fun τ3 h3 => ?_⟩⟩⟩
    have e3 : τ2 (b + 6) (161 * p) = σ (b + 6) (161 * p) := by
      rw [h2, st_nj (by omega), h1, st_nj (by omega)]
      unfold shU
      rw [if_neg (by omega)]
    rw [h3, e3, addI_e (by omega) (by omega), h2, h1, l2iI_e hn.1 hn.2]
    exact h
  induction m with
  | zero =>
    intro i h1 h2 h3
    refine v_X12_puts_210 hM.1 (M_fpool hM) ?_
    rw [e1, e2]
    exact ⟨fun _ => hfin i (by omega), fun hc => absurd (show i < at_ by omega) hc⟩
  | succ m ih =>
    intro i h1 h2 h3
    refine v_X12_puts_210 hM.1 (M_fpool hM) ?_
    rw [e1, e2]
    refine ⟨fun hc => hfin i (by omega), fun hc => ?_⟩
    have e4 : addI i 2 = i + 2 := addI_e (by omega) (by omega)
    have e5 : addI i (-1) = i - 1 := addI_e (by omega) (by omega)
    rw [e4, e5]
    clear e4 e5 e1 e2 hm hm2
    refine ⟨pool_ix hM hp0 hp (by omega) (by omega), pool_ix hM hp0 hp (by omega) (by omega), fun τ eτ y ey => ?_⟩
    have e6 := shU_s (σ := σ) (c0 := b + 6) (e := e) (i := i) (by omega)
    rw [eτ, ey, e6]
    exact ih (i - 1) (by omega) (by omega) (by omega)
theorem PM_same {σ σ' : Mem} {p : Int} {ts : List (Int × Int)} (h : PM σ b p ts) (hl : ts.length ≤ 80) (hs : ∀ j, 161 * p ≤ j → j < 161 * p + 161 → σ' (b + 6) j = σ (b + 6) j) : PM σ' b p ts := by
  refine ⟨by rw [hs _ (by omega) (by omega)]; exact h.1, fun i e he => ?_⟩
  have hi : i < ts.length := (List.getElem?_eq_some_iff.mp he).1
  rw [hs _ (by omega) (by omega), hs _ (by omega) (by omega)]
  exact h.2 i e he
/-- a term is put to a row of the pool -/
theorem k_puts {P : Int → Mem → Prop} {p key n : Int} {ts : List (Int × Int)} (hM : ModL N Λ b) (hd : 2 ≤ d) (hp0 : 0 ≤ p) (hp : p < 196) (hP : PM σ b p ts) (hlen : ts.length ≤ 80) (hnum : ∀ e ∈ ts, Int32R e.2) (hbad : σ b 8 = 0)
    (h0 : ∀ σ' ts', putS ts key n = (0, ts') → PM σ' b p ts' → SameP σ σ' b p → P 1 σ') (h1 : ∀ c, (putS ts key n).1 = c → c ≠ 0 → P 0 (st σ b 8 c)) : CI l mX12_puts d [(2, b), (0, p), (0, key), (1, n)] N Λ σ P := by
  refine c_X12_puts (v_X12_puts_0 hM.1 (M_fpool hM) hd ?_)
  have e1 : mulI 161 p = 161 * p := mulI_e (by omega) (by omega)
  have e3 : addI (161 * p) 1 = 161 * p + 1 := addI_e (by omega) (by omega)
  have e3b : addI (161 * p) 2 = 161 * p + 2 := addI_e (by omega) (by omega)
  have hl := pos_le key ts
  have e4 : mulI 2 (pos key ts : Int) = 2 * (pos key ts : Int) := mulI_e (by omega) (by omega)
  have e5 : addI (161 * p + 1) (2 * (pos key ts : Int)) = 161 * p + 1 + 2 * (pos key ts : Int) := addI_e (by omega) (by omega)
  have e5b : addI (161 * p + 2) (2 * (pos key ts : Int)) = 161 * p + 2 + 2 * (pos key ts : Int) := addI_e (by omega) (by omega)
  have e6 : mulI 2 (ts.length : Int) = 2 * (ts.length : Int) := mulI_e (by omega) (by omega)
  have e7 : addI (161 * p + 1) (2 * (ts.length : Int)) = 161 * p + 1 + 2 * (ts.length : Int) := addI_e (by omega) (by omega)
  have e8 : subI (161 * p + 1 + 2 * (ts.length : Int)) 1 = 161 * p + 1 + 2 * (ts.length : Int) - 1 := subI_e (by omega) (by omega)
  have e9 : addI (161 * p + 1 + 2 * (pos key ts : Int)) 1 = 161 * p + 1 + 2 * (pos key ts : Int) + 1 := addI_e (by omega) (by omega)
  have ix : ∀ j : Int, 161 * p ≤ j → j < 161 * p + 161 → Ix N Λ (b + 6) 0 j := fun j a c => pool_ix hM hp0 hp a c
  have hnb : ¬ Int32R n → (¬ σ b 8 = 0 → P 0 σ) ∧ (σ b 8 = 0 → ∀ τ1, τ1 = st σ b 8 4 → P 0 τ1) := fun hn => ⟨fun h => absurd hbad h, fun _ τ eτ => by
    rw [eτ]
    exact h1 4 (by unfold putS; rw [if_pos hn]) (by decide)⟩
  refine ⟨fun _ => ⟨fun c1 => hnb (by have := cmpL_lt.mp c1; omega), fun c1 => ⟨fun c2 => hnb (by have := cmpL_gt.mp c2; omega), fun c2 => ?_⟩⟩, fun hc => absurd hbad hc⟩
  have hn : Int32R n := ⟨by have := mt cmpL_lt.mpr c1; omega, by have := mt cmpL_gt.mpr c2; omega⟩
  refine ⟨fun c3 => ?_, fun c3 => ?_⟩
  · have hn0 : ¬ n = 0 := fun z => c3 (cmpL_0.mpr z)
    refine k_placeOf hM (by omega) hp0 hp hP hlen ?_
    intro y ey
    rw [e1, e3, e4, e5] at ey
    subst ey
    rw [e1, e3, e3b, e4, e5, e5b, hP.1, e6, e7, e9]
    refine ⟨ix _ (by omega) (by omega), fun y6 ey6 => ?_⟩
    subst ey6
    rw [e8]
    clear e1 e3 e3b e4 e5 e5b e6 e7 e8 e9
    have hins : ∀ hno : (∀ e, ts[pos key ts]? = some e → e.1 ≠ key), (Ix N Λ (b + 6) 0 (161 * p) ∧ ((¬ (ts.length : Int) = 80 → (∀ y9, y9 = 161 * p + 1 + 2 * (ts.length : Int) - 1 → WI l mX12_puts d P 210 [(2, b), (0, p), (0, key), (1, n), (3, 0), (0, (pos key ts : Int)), (0, 161 * p + 1 + 2 * (pos key ts : Int)), (0, 161 * p + 1 + 2 * (ts.length : Int)), (0, y9), (3, 0), (3, 0)] [] N Λ σ)) ∧ ((ts.length : Int) = 80 → ((¬ (σ b 8) = 0 → P 0 σ) ∧ ((σ b 8) = 0 → (∀ τ10, τ10 = st σ b 8 1 → P 0 τ10)))))) := by
      intro hno
      have hput : putS ts key n = if ts.length = 80 then (1, ts) else (0, ts.insertIdx (pos key ts) (key, n)) := by
        unfold putS
        rw [if_neg (fun z => z hn), if_neg hn0]
        cases hg : ts[pos key ts]? with
        | none => rfl
        | some e => simp only; rw [if_neg (hno e hg)]
      refine ⟨ix _ (by omega) (by omega), fun hl80 y9 ey9 => ?_, fun hl80 => ⟨fun z => absurd hbad z, fun _ τ eτ => ?_⟩⟩
      · subst ey9
        rw [if_neg (by omega)] at hput
        have := puts_ins (l := l) (d := d) (P := P) (σ := σ) (p := p) (key := key) (n := n) (v4 := (pos key ts : Int)) (at_ := 161 * p + 1 + 2 * (pos key ts : Int)) (e := 161 * p + 1 + 2 * (ts.length : Int)) hM hp0 hp (by omega) (by omega) (by omega) (by rw [hP.1]; omega) (by rw [hP.1]; omega) hn ?_ ((161 * p + 1 + 2 * (ts.length : Int) - 1) - (161 * p + 1 + 2 * (pos key ts : Int) - 1)).toNat (161 * p + 1 + 2 * (ts.length : Int) - 1) (by omega) (by omega) (Nat.le_refl _)
        · rw [shU_0] at this
          exact this
        · refine h0 _ _ hput ⟨?_, fun i e he => ?_⟩ (fun c j hcj => ?_)
          · rw [st_eq, hP.1, List.length_insertIdx, if_pos (by omega)]
            omega
          · have hil : i < (ts.insertIdx (pos key ts) (key, n)).length := (List.getElem?_eq_some_iff.mp he).1
            rw [List.length_insertIdx, if_pos (by omega)] at hil
            rw [List.getElem?_insertIdx] at he
            by_cases hi1 : i < pos key ts
            · rw [if_pos hi1] at he
              have := hP.2 i e he
              refine ⟨?_, ?_⟩
              · rw [rd3 (by omega) (by omega) (by omega)]
                unfold shU
                rw [if_neg (by omega)]
                exact this.1
              · rw [rd3 (by omega) (by omega) (by omega)]
                unfold shU
                rw [if_neg (by omega)]
                exact this.2
            · rw [if_neg hi1] at he
              by_cases hi2 : i = pos key ts
              · rw [if_pos hi2, if_pos (by omega)] at he
                cases he
                subst hi2
                refine ⟨?_, ?_⟩
                · rw [st_nj (show 161 * p + 1 + 2 * (pos key ts : Int) ≠ 161 * p by omega), st_nj (show 161 * p + 1 + 2 * (pos key ts : Int) ≠ 161 * p + 1 + 2 * (pos key ts : Int) + 1 by omega), st_eq]
                · rw [show 161 * p + 2 + 2 * (pos key ts : Int) = 161 * p + 1 + 2 * (pos key ts : Int) + 1 by omega, st_nj (show 161 * p + 1 + 2 * (pos key ts : Int) + 1 ≠ 161 * p by omega), st_eq]
              · rw [if_neg hi2] at he
                have := hP.2 (i - 1) e he
                have hc1 : ((i - 1 : Nat) : Int) = (i : Int) - 1 := by omega
                rw [hc1] at this
                refine ⟨?_, ?_⟩
                · rw [rd3 (by omega) (by omega) (by omega)]
                  unfold shU
                  rw [if_pos ⟨rfl, by omega, by omega⟩, show 161 * p + 1 + 2 * (i : Int) - 2 = 161 * p + 1 + 2 * ((i : Int) - 1) by omega]
                  exact this.1
                · rw [rd3 (by omega) (by omega) (by omega)]
                  unfold shU
                  rw [if_pos ⟨rfl, by omega, by omega⟩, show 161 * p + 2 + 2 * (i : Int) - 2 = 161 * p + 2 + 2 * ((i : Int) - 1) by omega]
                  exact this.2
          · unfold st shU
            by_cases hcb : c = b + 6
            · have hj : j < 161 * p ∨ 161 * p + 161 ≤ j := by omega
              rw [if_neg (by omega), if_neg (by omega), if_neg (by omega), if_neg (by omega)]
            · rw [if_neg (fun z => hcb z.1), if_neg (fun z => hcb z.1), if_neg (fun z => hcb z.1), if_neg (fun z => hcb z.1)]
      · rw [eτ]
        refine h1 1 ?_ (by decide)
        rw [hput, if_pos (by omega)]
    refine ⟨ix _ (by omega) (by omega), fun c4 => ?_, fun c4 => ?_⟩
    · have hge : ts[pos key ts]? = none := List.getElem?_eq_none (by omega)
      exact hins (fun e he => by rw [hge] at he; cases he)
    · obtain ⟨e, he⟩ : ∃ e, ts[pos key ts]? = some e := ⟨_, List.getElem?_eq_getElem (by omega)⟩
      have hPe := hP.2 _ e he
      rw [hPe.1, hPe.2]
      refine ⟨ix _ (by omega) (by omega), fun c5 => ?_, fun c5 => ?_⟩
      · exact hins (fun e' he' => by rw [he] at he'; cases he'; exact c5)
      · have hput : putS ts key n = (if ¬ Int32R (e.2 + n) then (4, ts) else if e.2 + n = 0 then (0, ts.eraseIdx (pos key ts)) else (0, ts.set (pos key ts) (key, e.2 + n))) := by
          unfold putS
          rw [if_neg (fun z => z hn), if_neg hn0, he]
          simp only
          rw [if_pos c5]
        have her := hnum e (List.mem_of_getElem? he)
        refine ⟨ix _ (by omega) (by omega), fun y ey => ?_⟩
        rw [addL_e (by omega) (by omega)] at ey
        subst ey
        have hsb : ¬ Int32R (e.2 + n) → (¬ σ b 8 = 0 → P 0 σ) ∧ (σ b 8 = 0 → ∀ τ1, τ1 = st σ b 8 4 → P 0 τ1) := fun hs => ⟨fun h => absurd hbad h, fun _ τ eτ => by
          rw [eτ]
          exact h1 4 (by rw [hput, if_pos hs]) (by decide)⟩
        refine ⟨fun d1 => hsb (by have := cmpL_lt.mp d1; omega), fun d1 => ⟨fun d2 => hsb (by have := cmpL_gt.mp d2; omega), fun d2 => ?_⟩⟩
        have hs : Int32R (e.2 + n) := ⟨by have := mt cmpL_lt.mpr d1; omega, by have := mt cmpL_gt.mpr d2; omega⟩
        rw [if_neg (fun z => z hs)] at hput
        rw [l2iI_e hs.1 hs.2]
        refine ⟨ix _ (by omega) (by omega), fun τ eτ => ⟨fun d3 => ?_, fun d3 => ?_⟩⟩
        · have hz : e.2 + n = 0 := cmpL_0.mp d3
          rw [if_pos hz] at hput
          have hm : τ (b + 6) (161 * p) = ts.length := by rw [eτ, st_nj (by omega)]; exact hP.1
          have := puts_del (l := l) (d := d) (P := P) (σ := τ) (p := p) (key := key) (n := n) (v4 := (pos key ts : Int)) (at_ := 161 * p + 1 + 2 * (pos key ts : Int)) (e := 161 * p + 1 + 2 * (ts.length : Int)) (s0 := e.2 + n) hM hp0 hp (by omega) (by omega) (by omega) (by rw [hm]; omega) (by rw [hm]; omega) ?_ ((161 * p + 1 + 2 * (ts.length : Int)) - 2 - (161 * p + 1 + 2 * (pos key ts : Int))).toNat (161 * p + 1 + 2 * (pos key ts : Int)) (by omega) (by omega) (Nat.le_refl _)
          · rw [Int.sub_self, cpM_0] at this
            exact this
          · refine h0 _ _ hput ⟨?_, fun i e' he' => ?_⟩ (fun c j hcj => ?_)
            · rw [st_eq, hm, List.length_eraseIdx, if_pos (by omega)]
              omega
            · have hil : i < (ts.eraseIdx (pos key ts)).length := (List.getElem?_eq_some_iff.mp he').1
              rw [List.length_eraseIdx, if_pos (by omega)] at hil
              rw [st_nj (by omega), st_nj (by omega)]
              rw [List.getElem?_eraseIdx] at he'
              by_cases hi1 : i < pos key ts
              · rw [if_pos hi1] at he'
                have := hP.2 i e' he'
                refine ⟨?_, ?_⟩
                · unfold cpM
                  rw [if_neg (by omega), eτ, st_nj (by omega)]
                  exact this.1
                · unfold cpM
                  rw [if_neg (by omega), eτ, st_nj (by omega)]
                  exact this.2
              · rw [if_neg hi1] at he'
                have := hP.2 (i + 1) e' he'
                rw [show (((i + 1 : Nat)) : Int) = (i : Int) + 1 by omega] at this
                refine ⟨?_, ?_⟩
                · unfold cpM
                  rw [if_pos ⟨rfl, by omega, by omega⟩, eτ, st_nj (by omega), show 161 * p + 1 + 2 * (pos key ts : Int) + 2 + (161 * p + 1 + 2 * (i : Int) - (161 * p + 1 + 2 * (pos key ts : Int))) = 161 * p + 1 + 2 * ((i : Int) + 1) by omega]
                  exact this.1
                · unfold cpM
                  rw [if_pos ⟨rfl, by omega, by omega⟩, eτ, st_nj (by omega), show 161 * p + 1 + 2 * (pos key ts : Int) + 2 + (161 * p + 2 + 2 * (i : Int) - (161 * p + 1 + 2 * (pos key ts : Int))) = 161 * p + 2 + 2 * ((i : Int) + 1) by omega]
                  exact this.2
            · have hτ : ∀ j', ¬ (161 * p ≤ j' ∧ j' < 161 * p + 161) → τ (b + 6) j' = σ (b + 6) j' := fun j' hj' => by rw [eτ, st_nj (by omega)]
              by_cases hcb : c = b + 6
              · subst hcb
                have hj : ¬ (161 * p ≤ j ∧ j < 161 * p + 161) := fun z => hcj ⟨rfl, z⟩
                rw [st_nj (by omega)]
                unfold cpM
                rw [if_neg (by omega)]
                exact hτ j hj
              · rw [st_ne hcb]
                unfold cpM
                rw [if_neg (fun z => hcb z.1), eτ, st_ne hcb]
        · have hz : ¬ e.2 + n = 0 := fun z => d3 (cmpL_0.mpr z)
          rw [if_neg hz] at hput
          rw [eτ]
          refine h0 _ _ hput ⟨?_, fun i e' he' => ?_⟩ (fun c j hcj => ?_)
          · rw [st_nj (by omega), List.length_set]
            exact hP.1
          · rw [List.getElem?_set] at he'
            have hil : i < ts.length := by
              by_cases hi : pos key ts = i
              · omega
              · rw [if_neg hi] at he'
                exact (List.getElem?_eq_some_iff.mp he').1
            by_cases hi : pos key ts = i
            · rw [if_pos hi, if_pos (by omega)] at he'
              cases he'
              subst hi
              refine ⟨?_, ?_⟩
              · rw [st_nj (by omega), hPe.1]
                exact c5
              · rw [show 161 * p + 2 + 2 * (pos key ts : Int) = 161 * p + 1 + 2 * (pos key ts : Int) + 1 by omega, st_eq]
            · rw [if_neg hi] at he'
              have := hP.2 i e' he'
              refine ⟨?_, ?_⟩
              · rw [st_nj (by omega)]
                exact this.1
              · rw [st_nj (by omega)]
                exact this.2
          · unfold st
            rw [if_neg (fun z => hcj ⟨z.1, by omega, by omega⟩)]
  · have hz : n = 0 := cmpL_0.mp c3
    have hput : putS ts key n = (0, ts) := by
      unfold putS
      rw [if_neg (fun z => z hn), if_pos hz]
    exact h0 σ ts hput hP (fun _ _ _ => rfl)
theorem k_puts_bad {P : Int → Mem → Prop} {p key n : Int} (hM : ModL N Λ b) (hd : 2 ≤ d) (hbad : ¬ σ b 8 = 0) (h : P 0 σ) : CI l mX12_puts d [(2, b), (0, p), (0, key), (1, n)] N Λ σ P :=
  c_X12_puts (v_X12_puts_0 hM.1 (M_fpool hM) hd ⟨fun z => absurd z hbad, fun _ => h⟩)
end M2
