/-- a polynomial of the class at c: the object, its keys, its numbers -/
def PolyL (N : Nat) (Λ : Lay) (c : Int) : Prop := Ob N Λ c 15 3 ∧ (Λ c).2.2 0 = c + 1 ∧ (Λ c).2.2 1 = c + 2 ∧ Ob N Λ (c + 1) 1 80 ∧ Ob N Λ (c + 2) 0 80
def PC (σ : Mem) (c : Int) (ts : List (Int × Int)) : Prop := σ c 2 = ts.length ∧ ∀ (i : Nat) (e : Int × Int), ts[i]? = some e → σ (c + 1) i = e.1 ∧ σ (c + 2) i = e.2
def srtd (ts : List (Int × Int)) : Prop := ∀ (i j : Nat) (a c : Int × Int), i < j → ts[i]? = some a → ts[j]? = some c → a.1 < c.1
theorem pos_of_lt {k : Int} {ts : List (Int × Int)} {i : Nat} {e : Int × Int} (hs : srtd ts) (he : ts[i]? = some e) (h : e.1 < k) : i < pos k ts := by
  rcases Nat.lt_or_ge i (pos k ts) with h1 | h1
  · exact h1
  · exfalso
    have hi : i < ts.length := (List.getElem?_eq_some_iff.mp he).1
    obtain ⟨e', he'⟩ : ∃ e', ts[pos k ts]? = some e' := ⟨_, List.getElem?_eq_getElem (by omega)⟩
    have h2 := pos_ge he'
    rcases Nat.lt_or_eq_of_le h1 with h3 | h3
    · have := hs _ _ _ _ h3 he' he
      omega
    · rw [h3] at he'
      rw [he] at he'
      cases he'
      omega
theorem pos_of_ge {k : Int} {ts : List (Int × Int)} {i : Nat} {e : Int × Int} (he : ts[i]? = some e) (h : k ≤ e.1) : pos k ts ≤ i := by
  rcases Nat.lt_or_ge i (pos k ts) with h1 | h1
  · have := pos_lt h1 he
    omega
  · exact h1
section LY
variable {l : Launch} {d N : Nat} {Λ : Lay} {σ : Mem} {c : Int}
theorem find_step {P : Int → Mem → Prop} {key stride next low : Int} {ts : List (Int × Int)} (hL : PolyL N Λ c) (hP : PC σ c ts) (hlen : ts.length ≤ 80) (hs : srtd ts) (s0 : 0 < stride) (s1 : stride ≤ 64) (hsh : shrI stride 1 = next)
    (hnx : ∀ low : Int, 0 ≤ low → low ≤ pos key ts → pos key ts < low + stride → WI l mX5_find d P 6 [(2, c), (1, key), (3, 0), (0, low), (0, next)] [] N Λ σ)
    (h0 : 0 ≤ low) (h1 : low ≤ pos key ts) (h2 : pos key ts < low + 2 * stride) : WI l mX5_find d P 6 [(2, c), (1, key), (3, 0), (0, low), (0, stride)] [] N Λ σ := by
  have hpl := pos_le key ts
  have e1 : addI low stride = low + stride := addI_e (by omega) (by omega)
  have e2 : subI (low + stride) 1 = low + stride - 1 := subI_e (by omega) (by omega)
  refine v_X5_find_6 hL.1 hL.2.1 ?_
  rw [e1, e2, hsh, hP.1]
  clear e1 e2 hsh
  refine ⟨fun hc => by omega, fun _ => ⟨fun hc y ey => ?_, fun hc => ?_⟩⟩
  · rw [ey]
    exact hnx low h0 h1 (by omega)
  · obtain ⟨i, hi⟩ : ∃ i : Nat, (i : Int) = low + stride - 1 := ⟨(low + stride - 1).toNat, by omega⟩
    obtain ⟨e, he⟩ : ∃ e, ts[i]? = some e := ⟨_, List.getElem?_eq_getElem (by omega)⟩
    rw [← hi, (hP.2 i e he).1]
    refine ⟨Ix.of hL.2.2.2.1 (by omega) (by omega), fun hg y ey => ?_, fun hg y ey y2 ey2 => ?_⟩
    · have := pos_of_ge he (cmpL_ge.mp hg)
      rw [ey]
      exact hnx low h0 h1 (by omega)
    · have := pos_of_lt hs he (show e.1 < key by have := mt cmpL_ge.mpr hg; omega)
      rw [ey, ey2]
      exact hnx (low + stride) (by omega) (by omega) (by omega)
theorem k_find {P : Int → Mem → Prop} {key : Int} {ts : List (Int × Int)} (hL : PolyL N Λ c) (hP : PC σ c ts) (hlen : ts.length ≤ 80) (hs : srtd ts) (h : P (pos key ts) σ) : CI l mX5_find d [(2, c), (1, key)] N Λ σ P := by
  refine c_X5_find (v_X5_find_0 ?_)
  have hpl := pos_le key ts
  have f0 : ∀ low : Int, 0 ≤ low → low ≤ pos key ts → pos key ts < low + 1 → WI l mX5_find d P 6 [(2, c), (1, key), (3, 0), (0, low), (0, 0)] [] N Λ σ := by
    intro low a1 a2 a3
    have e : low = pos key ts := by omega
    subst e
    exact v_X5_find_6 hL.1 hL.2.1 ⟨fun _ => h, fun hc => absurd (Int.le_refl 0) hc⟩
  have f1 : ∀ low : Int, 0 ≤ low → low ≤ pos key ts → pos key ts < low + 2 → WI l mX5_find d P 6 [(2, c), (1, key), (3, 0), (0, low), (0, 1)] [] N Λ σ := fun low a1 a2 a3 => find_step hL hP hlen hs (by decide) (by decide) (by decide) f0 a1 a2 a3
  have f2 : ∀ low : Int, 0 ≤ low → low ≤ pos key ts → pos key ts < low + 4 → WI l mX5_find d P 6 [(2, c), (1, key), (3, 0), (0, low), (0, 2)] [] N Λ σ := fun low a1 a2 a3 => find_step hL hP hlen hs (by decide) (by decide) (by decide) f1 a1 a2 a3
  have f3 : ∀ low : Int, 0 ≤ low → low ≤ pos key ts → pos key ts < low + 8 → WI l mX5_find d P 6 [(2, c), (1, key), (3, 0), (0, low), (0, 4)] [] N Λ σ := fun low a1 a2 a3 => find_step hL hP hlen hs (by decide) (by decide) (by decide) f2 a1 a2 a3
  have f4 : ∀ low : Int, 0 ≤ low → low ≤ pos key ts → pos key ts < low + 16 → WI l mX5_find d P 6 [(2, c), (1, key), (3, 0), (0, low), (0, 8)] [] N Λ σ := fun low a1 a2 a3 => find_step hL hP hlen hs (by decide) (by decide) (by decide) f3 a1 a2 a3
  have f5 : ∀ low : Int, 0 ≤ low → low ≤ pos key ts → pos key ts < low + 32 → WI l mX5_find d P 6 [(2, c), (1, key), (3, 0), (0, low), (0, 16)] [] N Λ σ := fun low a1 a2 a3 => find_step hL hP hlen hs (by decide) (by decide) (by decide) f4 a1 a2 a3
  have f6 : ∀ low : Int, 0 ≤ low → low ≤ pos key ts → pos key ts < low + 64 → WI l mX5_find d P 6 [(2, c), (1, key), (3, 0), (0, low), (0, 32)] [] N Λ σ := fun low a1 a2 a3 => find_step hL hP hlen hs (by decide) (by decide) (by decide) f5 a1 a2 a3
  exact find_step hL hP hlen hs (by decide) (by decide) (by decide) f6 (Int.le_refl 0) (by omega) (by omega)
/-- outside the three cells nothing changes -/
def Same3 (σ σ' : Mem) (c : Int) : Prop := ∀ c' j, c' ≠ c → c' ≠ c + 1 → c' ≠ c + 2 → σ' c' j = σ c' j
theorem cpM_ne {σ : Mem} {a0 sp a dp n c' : Int} (h : c' ≠ a) : cpM σ a0 sp a dp n c' = σ c' := by
  funext j
  unfold cpM
  rw [if_neg (fun z => h z.1)]
theorem cpM_eq {σ : Mem} {a0 sp a dp n j : Int} : cpM σ a0 sp a dp n a j = if dp ≤ j ∧ j < dp + n then σ a0 (sp + (j - dp)) else σ a j := by
  unfold cpM
  by_cases h : dp ≤ j ∧ j < dp + n
  · rw [if_pos ⟨rfl, h⟩, if_pos h]
  · rw [if_neg (fun z => h z.2), if_neg h]
theorem l2i_cmp {n : Int} : cmpL n (l2iI n) = 0 ↔ Int32R n := by
  rw [cmpL_0]
  constructor
  · intro h
    exact l2iI_iff.mp h.symm
  · intro h
    exact (l2iI_iff.mpr h).symm
theorem k_layUpon {P : Int → Mem → Prop} {s : Int} {ts : List (Int × Int)} {i : Nat} {e : Int × Int} (hL : PolyL N Λ c) (hd : 1 ≤ d) (hP : PC σ c ts) (hlen : ts.length ≤ 80) (he : ts[i]? = some e)
    (h4 : ¬ Int32R s → P 4 σ) (h0 : Int32R s → ∀ σ', PC σ' c (if s = 0 then ts.eraseIdx i else ts.set i (e.1, s)) → Same3 σ σ' c → P 0 σ') : CI l mX5_layUpon d [(2, c), (0, (i : Int)), (1, s)] N Λ σ P := by
  have hi : i < ts.length := (List.getElem?_eq_some_iff.mp he).1
  refine c_X5_layUpon (v_X5_layUpon_0 hL.1 hL.2.2.1 hL.2.1 hd ⟨fun hc => ?_, fun hc => h4 (fun z => hc (l2i_cmp.mpr z))⟩)
  have hs := l2i_cmp.mp hc
  rw [l2iI_e hs.1 hs.2]
  refine ⟨Ix.of hL.2.2.2.2 (by omega) (by omega), fun τ1 e1 => ⟨fun hz => ?_, fun hz τ2 e2 => ?_⟩⟩
  · have hz : ¬ s = 0 := fun z => hz (cmpL_0.mpr z)
    have := h0 hs τ1
    rw [if_neg hz] at this
    rw [e1] at this ⊢
    refine this ⟨?_, fun j e' he' => ?_⟩ (fun c' j h1 h2 h3 => by rw [st_ne h3])
    · rw [st_ne (by omega), List.length_set]
      exact hP.1
    · rw [st_ne (show c + 1 ≠ c + 2 by omega)]
      rw [List.getElem?_set] at he'
      by_cases hj : i = j
      · subst hj
        rw [if_pos rfl, if_pos hi] at he'
        cases he'
        exact ⟨(hP.2 i e he).1, st_eq⟩
      · rw [if_neg hj] at he'
        rw [st_nj (by omega)]
        exact hP.2 j e' he'
  · have hz : s = 0 := cmpL_0.mp hz
    have t1 : τ1 c 2 = ts.length := by rw [e1, st_ne (by omega)]; exact hP.1
    rw [t1, subI_e (by omega) (by omega)] at e2
    have t2 : τ2 c 2 = ts.length - 1 := by rw [e2, st_eq]
    rw [t2, addI_e (by omega) (by omega), subI_e (by omega) (by omega)]
    refine ⟨⟨80, 80, hL.2.2.2.1, hL.2.2.2.1, by omega, by omega, by omega, by omega, by omega⟩, fun τ3 e3 => ?_⟩
    have t3 : τ3 c 2 = ts.length - 1 := by rw [e3, cpM_ne (by omega)]; exact t2
    rw [t3, subI_e (by omega) (by omega)]
    refine ⟨⟨80, 80, hL.2.2.2.2, hL.2.2.2.2, by omega, by omega, by omega, by omega, by omega⟩, fun τ4 e4 => ?_⟩
    have := h0 hs τ4
    rw [if_pos hz] at this
    refine this ⟨?_, fun j e' he' => ?_⟩ (fun c' j h1 h2 h3 => by rw [e4, cpM_ne h3, e3, cpM_ne h2, e2, st_ne h1, e1, st_ne h3])
    · rw [e4, cpM_ne (by omega), t3, List.length_eraseIdx, if_pos hi]
      omega
    · have hjl : j < (ts.eraseIdx i).length := (List.getElem?_eq_some_iff.mp he').1
      rw [List.length_eraseIdx, if_pos hi] at hjl
      have k1 : ∀ jj : Int, τ2 (c + 1) jj = σ (c + 1) jj := fun jj => by rw [e2, st_ne (by omega), e1, st_ne (by omega)]
      have k2 : ∀ jj : Int, jj ≠ i → τ3 (c + 2) jj = σ (c + 2) jj := fun jj hjj => by rw [e3, cpM_ne (by omega), e2, st_ne (by omega), e1, st_nj hjj]
      have r1 : τ4 (c + 1) j = if (i : Int) ≤ j ∧ (j : Int) < i + (ts.length - 1 - i) then σ (c + 1) (i + 1 + (j - i)) else σ (c + 1) j := by
        rw [e4, cpM_ne (by omega), e3, cpM_eq, k1, k1]
      rw [List.getElem?_eraseIdx] at he'
      by_cases hji : j < i
      · rw [if_pos hji] at he'
        have hh := hP.2 j e' he'
        refine ⟨?_, ?_⟩
        · rw [r1, if_neg (by omega)]
          exact hh.1
        · rw [e4, cpM_eq, if_neg (by omega), k2 _ (by omega)]
          exact hh.2
      · rw [if_neg hji] at he'
        have hh := hP.2 (j + 1) e' he'
        rw [show ((j + 1 : Nat) : Int) = i + 1 + ((j : Int) - i) by omega] at hh
        refine ⟨?_, ?_⟩
        · rw [r1, if_pos (by omega)]
          exact hh.1
        · rw [e4, cpM_eq, if_pos (by omega), k2 _ (by omega)]
          exact hh.2
end LY
