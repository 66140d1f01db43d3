section LY2
variable {l : Launch} {d N : Nat} {Λ : Lay} {σ : Mem} {c : Int}
theorem lay_ins {P : Int → Mem → Prop} {key n : Int} {ts : List (Int × Int)} {i : Nat} (hL : PolyL N Λ c) (hP : PC σ c ts) (hi : i ≤ ts.length) (hlen : ts.length < 80) (hn : Int32R n) (h : ∀ σ', PC σ' c (ts.insertIdx i (key, n)) → Same3 σ σ' c → P 0 σ') :
    (Cp N Λ (c + 1) (c + 1) 1 (i : Int) (addI (i : Int) 1) (subI (σ c 2) (i : Int)) ∧ (∀ τ3, τ3 = cpM σ (c + 1) (i : Int) (c + 1) (addI (i : Int) 1) (subI (σ c 2) (i : Int)) → (Cp N Λ (c + 2) (c + 2) 0 (i : Int) (addI (i : Int) 1) (subI (τ3 c 2) (i : Int)) ∧ (∀ τ4, τ4 = cpM τ3 (c + 2) (i : Int) (c + 2) (addI (i : Int) 1) (subI (τ3 c 2) (i : Int)) → (Ix N Λ (c + 1) 1 (i : Int) ∧ (∀ τ5, τ5 = st τ4 (c + 1) (i : Int) key → (Ix N Λ (c + 2) 0 (i : Int) ∧ (∀ τ6, τ6 = st τ5 (c + 2) (i : Int) (l2iI n) → (∀ τ7, τ7 = st τ6 c 2 (addI (τ6 c 2) 1) → P 0 τ7))))))))) := by
  rw [hP.1, addI_e (by omega) (by omega), subI_e (by omega) (by omega), l2iI_e hn.1 hn.2]
  refine ⟨⟨80, 80, hL.2.2.2.1, hL.2.2.2.1, by omega, by omega, by omega, by omega, by omega⟩, fun τ3 e3 => ?_⟩
  have t3 : τ3 c 2 = ts.length := by rw [e3, cpM_ne (by omega)]; exact hP.1
  rw [t3, subI_e (by omega) (by omega)]
  refine ⟨⟨80, 80, hL.2.2.2.2, hL.2.2.2.2, by omega, by omega, by omega, by omega, by omega⟩, fun τ4 e4 => ⟨Ix.of hL.2.2.2.1 (by omega) (by omega), fun τ5 e5 => ⟨Ix.of hL.2.2.2.2 (by omega) (by omega), fun τ6 e6 τ7 e7 => ?_⟩⟩⟩
  have t6 : τ6 c 2 = ts.length := by rw [e6, st_ne (by omega), e5, st_ne (by omega), e4, cpM_ne (by omega)]; exact t3
  rw [t6, addI_e (by omega) (by omega)] at e7
  have k1 : ∀ j : Int, τ7 (c + 1) j = if j = i then key else if (i : Int) + 1 ≤ j ∧ j < i + 1 + (ts.length - i) then σ (c + 1) (i + (j - (i + 1))) else σ (c + 1) j := fun j => by
    rw [e7, st_ne (by omega), e6, st_ne (by omega), e5]
    by_cases hj : j = i
    · rw [if_pos hj, hj, st_eq]
    · rw [if_neg hj, st_nj hj, e4, cpM_ne (by omega), e3, cpM_eq]
  have k2 : ∀ j : Int, τ7 (c + 2) j = if j = i then n else if (i : Int) + 1 ≤ j ∧ j < i + 1 + (ts.length - i) then σ (c + 2) (i + (j - (i + 1))) else σ (c + 2) j := fun j => by
    rw [e7, st_ne (by omega), e6]
    by_cases hj : j = i
    · rw [if_pos hj, hj, st_eq]
    · have k3 : ∀ jj : Int, τ3 (c + 2) jj = σ (c + 2) jj := fun jj => by rw [e3, cpM_ne (by omega)]
      rw [if_neg hj, st_nj hj, e5, st_ne (by omega), e4, cpM_eq, k3, k3]
  refine h τ7 ⟨?_, fun j e' he' => ?_⟩ (fun c' j h1 h2 h3 => by rw [e7, st_ne h1, e6, st_ne h3, e5, st_ne h2, e4, cpM_ne h3, e3, cpM_ne h2])
  · rw [e7, st_eq, List.length_insertIdx, if_pos hi]
    omega
  · have hjl : j < (ts.insertIdx i (key, n)).length := (List.getElem?_eq_some_iff.mp he').1
    rw [List.length_insertIdx, if_pos hi] at hjl
    rw [List.getElem?_insertIdx] at he'
    rw [k1, k2]
    clear e3 e4 e5 e6 e7 t3 t6 k1 k2
    by_cases h1 : j < i
    · rw [if_pos h1] at he'
      rw [if_neg (by omega), if_neg (by omega), if_neg (by omega), if_neg (by omega)]
      exact hP.2 j e' he'
    · rw [if_neg h1] at he'
      by_cases h2 : j = i
      · rw [if_pos h2, if_pos (by omega)] at he'
        cases he'
        rw [if_pos (by omega), if_pos (by omega)]
        exact ⟨rfl, rfl⟩
      · rw [if_neg h2] at he'
        have hh := hP.2 (j - 1) e' he'
        rw [show ((j - 1 : Nat) : Int) = i + ((j : Int) - (i + 1)) by omega] at hh
        rw [if_neg (by omega), if_pos (by omega), if_neg (by omega), if_pos (by omega)]
        exact hh
/-- the class's way to put a term -/
theorem k_lay {P : Int → Mem → Prop} {key n : Int} {ts : List (Int × Int)} (hL : PolyL N Λ c) (hd : 2 ≤ d) (hP : PC σ c ts) (hlen : ts.length ≤ 80) (hs : srtd ts) (hnum : ∀ e ∈ ts, Int32R e.2)
    (h0 : ∀ σ' ts', putS ts key n = (0, ts') → PC σ' c ts' → Same3 σ σ' c → P 0 σ') (h1 : ∀ k, (putS ts key n).1 = k → k ≠ 0 → P k σ) : CI l mX5_lay d [(2, c), (1, key), (1, n)] N Λ σ P := by
  have hl := pos_le key ts
  refine c_X5_lay (v_X5_lay_0 hL.1 hL.2.1 hL.2.2.1 (by omega) ⟨fun hz => ⟨fun hc => ?_, fun hc => ?_⟩, fun hz => ?_⟩)
  · have hz : ¬ n = 0 := fun z => hz (cmpL_0.mpr z)
    have hn := l2i_cmp.mp hc
    refine k_find hL hP hlen hs ?_
    have hins : (∀ e, ts[pos key ts]? = some e → e.1 ≠ key) → putS ts key n = if ts.length = 80 then (1, ts) else (0, ts.insertIdx (pos key ts) (key, n)) := by
      intro hno
      unfold putS
      rw [if_neg (fun z => z hn), if_neg hz]
      cases hg : ts[pos key ts]? with
      | none => rfl
      | some e => simp only; rw [if_neg (hno e hg)]
    refine ⟨fun c1 => ⟨fun c2 => ?_, fun c2 => ?_⟩, fun c1 => ?_⟩
    · rw [hP.1] at c1 c2
      have hp := hins (fun e he => by rw [List.getElem?_eq_none (by omega)] at he; cases he)
      rw [if_neg (by omega)] at hp
      exact lay_ins hL hP hl (by omega) hn (fun σ' a b => h0 σ' _ hp a b)
    · rw [hP.1] at c1 c2
      have hp := hins (fun e he => by rw [List.getElem?_eq_none (by omega)] at he; cases he)
      rw [if_pos (by omega)] at hp
      exact h1 1 (by rw [hp]) (by decide)
    · have c1' := c1
      rw [hP.1] at c1'
      obtain ⟨e, he⟩ : ∃ e, ts[pos key ts]? = some e := ⟨_, List.getElem?_eq_getElem (by omega)⟩
      have hPe := hP.2 _ e he
      rw [hPe.1, hPe.2]
      refine ⟨Ix.of hL.2.2.2.1 (by omega) (by omega), fun c3 => ?_, fun c3 => ⟨Ix.of hL.2.2.2.2 (by omega) (by omega), ?_⟩⟩
      · have hne : e.1 ≠ key := fun z => c3 (cmpL_0.mpr z)
        have hp := hins (fun e' he' => by rw [he] at he'; cases he'; exact hne)
        refine ⟨fun c2 => ?_, fun c2 => ?_⟩
        · rw [hP.1] at c2
          rw [if_neg (by omega)] at hp
          exact lay_ins hL hP hl (by omega) hn (fun σ' a b => h0 σ' _ hp a b)
        · rw [hP.1] at c2
          rw [if_pos (by omega)] at hp
          exact h1 1 (by rw [hp]) (by decide)
      · have hk : e.1 = key := cmpL_0.mp c3
        have her := hnum e (List.mem_of_getElem? he)
        rw [addL_e (by omega) (by omega), Int.add_comm n e.2]
        have hput : putS ts key n = (if ¬ Int32R (e.2 + n) then (4, ts) else if e.2 + n = 0 then (0, ts.eraseIdx (pos key ts)) else (0, ts.set (pos key ts) (key, e.2 + n))) := by
          unfold putS
          rw [if_neg (fun z => z hn), if_neg hz, he]
          simp only
          rw [if_pos hk]
        refine k_layUpon hL (by omega) hP hlen he (fun hb => ?_) (fun hb σ' a b => ?_)
        · exact h1 4 (by rw [hput, if_pos hb]) (by decide)
        · rw [if_neg (fun z => z hb)] at hput
          by_cases hz0 : e.2 + n = 0
          · rw [if_pos hz0] at hput a
            exact h0 σ' _ hput a b
          · rw [if_neg hz0] at hput a
            rw [hk] at a
            exact h0 σ' _ hput a b
  · have hn : ¬ Int32R n := fun z => hc (l2i_cmp.mpr z)
    exact h1 4 (by unfold putS; rw [if_pos hn]) (by decide)
  · have hz : n = 0 := cmpL_0.mp hz
    have hput : putS ts key n = (0, ts) := by
      unfold putS
      rw [if_neg (fun z => z ⟨by omega, by omega⟩), if_pos hz]
    exact h0 σ ts hput hP (fun _ _ _ _ _ => rfl)
end LY2
