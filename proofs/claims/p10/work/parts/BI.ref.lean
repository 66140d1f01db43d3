/-! the reference: rows and states are copied -/
theorem cp_in {σ : Mem} {a0 f a2 t n j : Int} (h0 : t ≤ j) (h1 : j < t + n) : cpM σ a0 f a2 t n a2 j = σ a0 (f + (j - t)) := by rw [cpM_eq, if_pos (by omega)]
theorem cp_out {σ : Mem} {a0 f a2 t n j : Int} (h : ¬ (t ≤ j ∧ j < t + n)) : cpM σ a0 f a2 t n a2 j = σ a2 j := by rw [cpM_eq, if_neg (by omega)]
section RC
variable {ω σ τ : Mem} {b o : Int}
/-- a row comes into the pool -/
theorem RI.cpp {x f p : Int} (h : RI ω σ b) (hv : RV (σ x) f) (hp0 : 0 ≤ p) (hp1 : p < 196) (e : τ = cpM σ x f (b + 6) (161 * p) 161) : RI ω τ b ∧ FA p σ τ b := by
  have hs : ∀ c j, ¬ (c = b + 6 ∧ 161 * p ≤ j ∧ j < 161 * p + 161) → τ c j = σ c j := fun c j hn => by
    rw [e]
    by_cases hc : c = b + 6
    · subst hc
      exact cp_out (by omega)
    · rw [cpM_ne hc]
  refine ⟨h.row hp0 hp1 (hv.sh fun j j0 j1 => ?_) hs, fun j _ => hs _ _ (by omega), fun c g0 g1 => funext fun j => hs _ _ (by omega), fun j hj => hs _ _ (by omega)⟩
  rw [e, cp_in (by omega) (by omega), show f + (161 * p + j - 161 * p) = f + j by omega]
/-- a block of six rows comes into the states, or a row into one -/
theorem RI.cps {x f k : Int} (h : RI ω σ b) (hk : 0 ≤ k ∧ k < 3) (hv : ∀ s : Int, 0 ≤ s → s < 6 → RV (σ x) (f + 161 * s)) (e : τ = cpM σ x f (b + 3) (1116 * k) 1116) : RI ω τ b := by
  have hc : ∀ c, c ≠ b + 3 → τ c = σ c := fun c hn => by rw [e, cpM_ne hn]
  refine ⟨fun p h0 h1 => by rw [hc _ (by omega)]; exact h.pool h0 h1, fun k' s h0 h1 h2 h3 => ?_, fun k' s h0 h1 h2 h3 => by rw [hc _ (by omega)]; exact h.dds h0 h1 h2 h3, by rw [hc _ (by omega)]; exact h.rk, by rw [hc _ (by omega)]; exact h.lt, fun c' j' => ?_, fun c' hcc => by rw [hc _ (by omega)]; exact h.fr hcc⟩
  · by_cases hkk : k' = k
    · subst hkk
      exact (hv s h2 h3).sh fun j j0 j1 => by rw [e, cp_in (by omega) (by omega), show f + (1116 * k' + 161 * s + j - 1116 * k') = f + 161 * s + j by omega]
    · exact (h.stt h0 h1 h2 h3).same fun j j0 j1 => by rw [e, cp_out (by omega)]
  · by_cases h3 : c' = b + 3
    · exact RO.x (by omega)
    · rw [hc _ h3]; exact h.ok _ _
theorem RI.cp1 {s0 : Int} (h : RI ω σ b) (hs : 0 ≤ s0 ∧ s0 < 6) (e : τ = cpM σ (b + 6) 0 (b + 3) (161 * s0) 161) : RI ω τ b := by
  have hc : ∀ c, c ≠ b + 3 → τ c = σ c := fun c hn => by rw [e, cpM_ne hn]
  have hv := h.pool (p := 0) (by decide) (by decide)
  refine ⟨fun p h0 h1 => by rw [hc _ (by omega)]; exact h.pool h0 h1, fun k' s h0 h1 h2 h3 => ?_, fun k' s h0 h1 h2 h3 => by rw [hc _ (by omega)]; exact h.dds h0 h1 h2 h3, by rw [hc _ (by omega)]; exact h.rk, by rw [hc _ (by omega)]; exact h.lt, fun c' j' => ?_, fun c' hcc => by rw [hc _ (by omega)]; exact h.fr hcc⟩
  · by_cases hkk : k' = 0 ∧ s = s0
    · obtain ⟨rfl, rfl⟩ := hkk
      exact hv.sh fun j j0 j1 => by rw [e, cp_in (by omega) (by omega), show 0 + (1116 * 0 + 161 * s + j - 161 * s) = 161 * 0 + j by omega]
    · refine (h.stt h0 h1 h2 h3).same fun j j0 j1 => ?_
      rw [e, cp_out ?_]
      by_cases k0 : k' = 0
      · subst k0
        have : s ≠ s0 := fun z => hkk ⟨rfl, z⟩
        omega
      · omega
  · by_cases h3 : c' = b + 3
    · exact RO.x (by omega)
    · rw [hc _ h3]; exact h.ok _ _
/-- the state is noted; the deeds move up -/
theorem RI.cpd {k : Int} (h : RI ω σ b) (hk : 0 ≤ k ∧ k < 10) (e : τ = cpM σ (b + 3) 0 (b + 4) (1116 * k) 1116) : RI ω τ b := by
  have hc : ∀ c, c ≠ b + 4 → τ c = σ c := fun c hn => by rw [e, cpM_ne hn]
  refine ⟨fun p h0 h1 => by rw [hc _ (by omega)]; exact h.pool h0 h1, fun k' s h0 h1 h2 h3 => by rw [hc _ (by omega)]; exact h.stt h0 h1 h2 h3, fun k' s h0 h1 h2 h3 => ?_, by rw [hc _ (by omega)]; exact h.rk, by rw [hc _ (by omega)]; exact h.lt, fun c' j' => ?_, fun c' hcc => by rw [hc _ (by omega)]; exact h.fr hcc⟩
  · by_cases hkk : k' = k
    · subst hkk
      exact (h.stt (k := 0) (by decide) (by decide) h2 h3).sh fun j j0 j1 => by rw [e, cp_in (by omega) (by omega), show 0 + (1116 * k' + 161 * s + j - 1116 * k') = 1116 * 0 + 161 * s + j by omega]
    · exact (h.dds h0 h1 h2 h3).same fun j j0 j1 => by rw [e, cp_out (by omega)]
  · by_cases h3 : c' = b + 4
    · exact RO.x (by omega)
    · rw [hc _ h3]; exact h.ok _ _
theorem RI.cpm (h : RI ω σ b) (e : τ = cpM σ (b + 4) 1116 (b + 4) 0 10044) : RI ω τ b := by
  have hc : ∀ c, c ≠ b + 4 → τ c = σ c := fun c hn => by rw [e, cpM_ne hn]
  refine ⟨fun p h0 h1 => by rw [hc _ (by omega)]; exact h.pool h0 h1, fun k' s h0 h1 h2 h3 => by rw [hc _ (by omega)]; exact h.stt h0 h1 h2 h3, fun k' s h0 h1 h2 h3 => ?_, by rw [hc _ (by omega)]; exact h.rk, by rw [hc _ (by omega)]; exact h.lt, fun c' j' => ?_, fun c' hcc => by rw [hc _ (by omega)]; exact h.fr hcc⟩
  · by_cases hkk : k' = 9
    · exact (h.dds h0 h1 h2 h3).same fun j j0 j1 => by rw [e, cp_out (by omega)]
    · exact (h.dds (k := k' + 1) (by omega) (by omega) h2 h3).sh fun j j0 j1 => by rw [e, cp_in (by omega) (by omega), show 1116 + (1116 * k' + 161 * s + j - 0) = 1116 * (k' + 1) + 161 * s + j by omega]
  · by_cases h3 : c' = b + 4
    · exact RO.x (by omega)
    · rw [hc _ h3]; exact h.ok _ _
end RC
