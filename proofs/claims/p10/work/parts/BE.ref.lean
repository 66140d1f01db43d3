/-! the reference on any object -/
def RV (f : Int → Int) (o : Int) : Prop := ∃ ts : List (Int × Int), (f o = ts.length ∧ ∀ (i : Nat) (e : Int × Int), ts[i]? = some e → f (o + 1 + 2 * i) = e.1 ∧ f (o + 2 + 2 * i) = e.2) ∧ ts.length ≤ 80 ∧ srtd ts ∧ ∀ e ∈ ts, Int32R e.2 ∧ e.2 ≠ 0 ∧ 0 ≤ e.1 ∧ e.1 < 214358881
theorem RV.sh {f g : Int → Int} {o o' : Int} (h : RV f o) (e : ∀ j, 0 ≤ j → j < 161 → g (o' + j) = f (o + j)) : RV g o' := by
  obtain ⟨ts, ⟨a0, a⟩, b, c⟩ := h
  refine ⟨ts, ⟨?_, fun i x hx => ?_⟩, b, c⟩
  · have := e 0 (by decide) (by decide)
    rw [Int.add_zero, Int.add_zero] at this
    rw [this]; exact a0
  · have hi : i < ts.length := (List.getElem?_eq_some_iff.mp hx).1
    have q := a i x hx
    have e1 := e (1 + 2 * i) (by omega) (by omega)
    have e2 := e (2 + 2 * i) (by omega) (by omega)
    rw [show o' + (1 + 2 * (i : Int)) = o' + 1 + 2 * i by omega, show o + (1 + 2 * (i : Int)) = o + 1 + 2 * i by omega] at e1
    rw [show o' + (2 + 2 * (i : Int)) = o' + 2 + 2 * i by omega, show o + (2 + 2 * (i : Int)) = o + 2 + 2 * i by omega] at e2
    rw [e1, e2]
    exact q
theorem RV.same {f g : Int → Int} {o : Int} (h : RV f o) (e : ∀ j, o ≤ j → j < o + 161 → g j = f j) : RV g o := h.sh fun j h0 h1 => e _ (by omega) (by omega)
theorem RV.sz {f : Int → Int} {o : Int} (h : RV f o) : 0 ≤ f o ∧ f o ≤ 80 := by
  obtain ⟨ts, ⟨a, _⟩, b, _⟩ := h
  omega
theorem RV.ky {f : Int → Int} {o i : Int} (h : RV f o) (h0 : 0 ≤ i) (h1 : i < f o) : (0 ≤ f (o + 1 + 2 * i) ∧ f (o + 1 + 2 * i) < 214358881) ∧ Int32R (f (o + 2 + 2 * i)) ∧ f (o + 2 + 2 * i) ≠ 0 := by
  obtain ⟨ts, ⟨a, b⟩, _, _, d⟩ := h
  obtain ⟨x, hx⟩ : ∃ x, ts[i.toNat]? = some x := ⟨_, List.getElem?_eq_getElem (by omega)⟩
  have q := b _ x hx
  rw [show ((i.toNat : Nat) : Int) = i by omega] at q
  rw [q.1, q.2]
  have z := d x (List.mem_of_getElem? hx)
  exact ⟨z.2.2, z.1, z.2.1⟩
theorem RV.emp {f : Int → Int} {o : Int} (h : f o = 0) : RV f o := ⟨[], ⟨h, fun i e he => by simp at he⟩, by decide, srtd_nil, fun e he => by simp at he⟩
/-- numbers of the reference that are bound -/
def RO (b c j v : Int) : Prop := (c = b → (j = 5 → 0 ≤ v ∧ v ≤ 10) ∧ (j = 19 → 0 ≤ v ∧ v ≤ 300) ∧ (j = 20 → 0 ≤ v ∧ v ≤ 300) ∧ (j = 28 → 0 ≤ v ∧ v ≤ 4)) ∧ ((c = b + 7 ∨ c = b + 13 ∨ c = b + 17) → 0 ≤ v ∧ v ≤ 120) ∧ ((c = b + 8 ∨ c = b + 9 ∨ c = b + 10 ∨ c = b + 11 ∨ c = b + 12 ∨ c = b + 14 ∨ c = b + 20 ∨ c = b + 21) → 0 ≤ v ∧ v ≤ 9) ∧ (c = b + 15 → -128 ≤ v ∧ v ≤ 127)
theorem RO.o {b j v : Int} (h : j ≠ 5 ∧ j ≠ 19 ∧ j ≠ 20 ∧ j ≠ 28) : RO b b j v := ⟨fun _ => ⟨fun e => absurd e h.1, fun e => absurd e h.2.1, fun e => absurd e h.2.2.1, fun e => absurd e h.2.2.2⟩, fun e => by omega, fun e => by omega, fun e => by omega⟩
theorem RO.x {b c j v : Int} (h : c = b + 16 ∨ c = b + 18 ∨ c = b + 19 ∨ c = b + 22 ∨ (b < c ∧ c < b + 7) ∨ c < b ∨ b + 23 ≤ c) : RO b c j v := ⟨fun e => by omega, fun e => by omega, fun e => by omega, fun e => by omega⟩
theorem RO.l {b c j v : Int} (h : c = b + 8 ∨ c = b + 9 ∨ c = b + 10 ∨ c = b + 11 ∨ c = b + 12 ∨ c = b + 14 ∨ c = b + 20 ∨ c = b + 21) (hv : 0 ≤ v ∧ v ≤ 9) : RO b c j v := ⟨fun e => by omega, fun e => by omega, fun _ => hv, fun e => by omega⟩
theorem RO.r {b c j v : Int} (h : c = b + 7 ∨ c = b + 13 ∨ c = b + 17) (hv : 0 ≤ v ∧ v ≤ 120) : RO b c j v := ⟨fun e => by omega, fun _ => hv, fun e => by omega, fun e => by omega⟩
theorem RO.t {b c j v : Int} (h : c = b + 15) (hv : -128 ≤ v ∧ v ≤ 127) : RO b c j v := ⟨fun e => by omega, fun e => by omega, fun e => by omega, fun _ => hv⟩
/-- what always holds of the reference's cells; the cells of others, and which images are there, are those of ω -/
def RI (ω σ : Mem) (b : Int) : Prop := (∀ p : Int, 0 ≤ p → p < 196 → RV (σ (b + 6)) (161 * p)) ∧ (∀ k s : Int, 0 ≤ k → k < 3 → 0 ≤ s → s < 6 → RV (σ (b + 3)) (1116 * k + 161 * s)) ∧ (∀ k s : Int, 0 ≤ k → k < 10 → 0 ≤ s → s < 6 → RV (σ (b + 4)) (1116 * k + 161 * s)) ∧ σ (b + 1) = RkT 120 ∧ σ (b + 2) = LtT 120 ∧ (∀ c j, RO b c j (σ c j)) ∧ ∀ c, (c < b ∨ b + 23 ≤ c ∨ c = b + 5) → σ c = ω c
section RI1
variable {ω σ : Mem} {b : Int}
theorem RI.pool {p : Int} (h : RI ω σ b) (h0 : 0 ≤ p) (h1 : p < 196) : RV (σ (b + 6)) (161 * p) := h.1 p h0 h1
theorem RI.stt {k s : Int} (h : RI ω σ b) (h0 : 0 ≤ k) (h1 : k < 3) (h2 : 0 ≤ s) (h3 : s < 6) : RV (σ (b + 3)) (1116 * k + 161 * s) := h.2.1 k s h0 h1 h2 h3
theorem RI.dds {k s : Int} (h : RI ω σ b) (h0 : 0 ≤ k) (h1 : k < 10) (h2 : 0 ≤ s) (h3 : s < 6) : RV (σ (b + 4)) (1116 * k + 161 * s) := h.2.2.1 k s h0 h1 h2 h3
theorem RI.rk (h : RI ω σ b) : σ (b + 1) = RkT 120 := h.2.2.2.1
theorem RI.lt (h : RI ω σ b) : σ (b + 2) = LtT 120 := h.2.2.2.2.1
theorem RI.ok (h : RI ω σ b) (c j : Int) : RO b c j (σ c j) := h.2.2.2.2.2.1 c j
theorem RI.fr {c : Int} (h : RI ω σ b) (hc : c < b ∨ b + 23 ≤ c ∨ c = b + 5) : σ c = ω c := h.2.2.2.2.2.2 c hc
theorem RI.base (h : RI ω σ b) : RI σ σ b := ⟨h.1, h.2.1, h.2.2.1, h.2.2.2.1, h.2.2.2.2.1, h.2.2.2.2.2.1, fun _ _ => rfl⟩
theorem RI.sto {τ : Mem} {c j v : Int} (h : RI ω σ b) (e : τ = st σ c j v) (ho : RO b c j v) (hr : b ≤ c ∧ c < b + 23 ∧ c ≠ b + 1 ∧ c ≠ b + 2 ∧ c ≠ b + 3 ∧ c ≠ b + 4 ∧ c ≠ b + 5 ∧ c ≠ b + 6 := by omega) : RI ω τ b := by
  subst e
  refine ⟨fun p h0 h1 => by rw [st_ne (by omega)]; exact h.pool h0 h1, fun k s h0 h1 h2 h3 => by rw [st_ne (by omega)]; exact h.stt h0 h1 h2 h3, fun k s h0 h1 h2 h3 => by rw [st_ne (by omega)]; exact h.dds h0 h1 h2 h3, by rw [st_ne (by omega)]; exact h.rk, by rw [st_ne (by omega)]; exact h.lt, fun c' j' => ?_, fun c' hc => by rw [st_ne (by omega)]; exact h.fr hc⟩
  by_cases hc : c' = c
  · subst hc
    by_cases hj : j' = j
    · subst hj
      rw [st_eq]
      exact ho
    · rw [st_nj hj]
      exact h.ok _ _
  · rw [st_ne hc]
    exact h.ok _ _
/-- a row of the pool changes -/
theorem RI.row {σ' : Mem} {p : Int} (h : RI ω σ b) (hp0 : 0 ≤ p) (hp1 : p < 196) (hv : RV (σ' (b + 6)) (161 * p)) (hs : ∀ c j, ¬ (c = b + 6 ∧ 161 * p ≤ j ∧ j < 161 * p + 161) → σ' c j = σ c j) : RI ω σ' b := by
  have hc : ∀ c, c ≠ b + 6 → σ' c = σ c := fun c hn => funext fun j => hs c j (fun z => hn z.1)
  refine ⟨fun q h0 h1 => ?_, fun k s h0 h1 h2 h3 => by rw [hc _ (by omega)]; exact h.stt h0 h1 h2 h3, fun k s h0 h1 h2 h3 => by rw [hc _ (by omega)]; exact h.dds h0 h1 h2 h3, by rw [hc _ (by omega)]; exact h.rk, by rw [hc _ (by omega)]; exact h.lt, fun c' j' => ?_, fun c' hcc => by rw [hc _ (by omega)]; exact h.fr hcc⟩
  · by_cases hq : q = p
    · rw [hq]; exact hv
    · exact (h.pool h0 h1).same fun j j0 j1 => hs _ _ (by omega)
  · by_cases h6 : c' = b + 6
    · exact RO.x (by omega)
    · rw [hc _ h6]; exact h.ok _ _
/-- what working out changes: the pool, the rows of ranks and letters, whether it is bad -/
def FA (o : Int) (σ σ' : Mem) (b : Int) : Prop := (∀ j, j ≠ 8 → σ' b j = σ b j) ∧ (∀ c, c ≠ b → (c < b + 6 ∨ b + 14 ≤ c) → σ' c = σ c) ∧ ∀ j, ¬ (161 * o ≤ j ∧ j < 161 * o + 161) → σ' (b + 6) j = σ (b + 6) j
variable {o : Int}
theorem FA.rf : FA o σ σ b := ⟨fun _ _ => rfl, fun _ _ _ => rfl, fun _ _ => rfl⟩
theorem FA.tr {σ1 σ2 : Mem} (h : FA o σ σ1 b) (h1 : FA o σ1 σ2 b) : FA o σ σ2 b := ⟨fun j hj => (h1.1 j hj).trans (h.1 j hj), fun c g0 g1 => (h1.2.1 c g0 g1).trans (h.2.1 c g0 g1), fun j hj => (h1.2.2 j hj).trans (h.2.2 j hj)⟩
theorem FA.s {τ : Mem} {c j v : Int} (e : τ = st σ c j v) (h : b + 7 ≤ c ∧ c < b + 14) : FA o σ τ b := ⟨fun j' _ => by rw [e, st_ne (by omega)], fun c' _ g1 => by rw [e, st_ne (by omega)], fun j' _ => by rw [e, st_ne (by omega)]⟩
theorem FA.bd {τ : Mem} {v : Int} (e : τ = st σ b 8 v) : FA o σ τ b := ⟨fun j' hj => by rw [e, st_nj hj], fun c' g0 _ => by rw [e, st_ne g0], fun j' _ => by rw [e, st_ne (by omega)]⟩
/-- another row of the pool stays -/
theorem FA.oth {σ' : Mem} {p : Int} (h : FA o σ σ' b) (hp : p ≠ o) : ∀ j, 161 * p ≤ j → j < 161 * p + 161 → σ' (b + 6) j = σ (b + 6) j := fun j g0 g1 => h.2.2 j (by omega)
theorem RI.bad {τ : Mem} {v : Int} (h : RI ω σ b) (e : τ = st σ b 8 v) : RI ω τ b := h.sto e (RO.o (by decide))
/-- a row of the pool is emptied -/
theorem RI.em {τ : Mem} {p : Int} (h : RI ω σ b) (hp0 : 0 ≤ p) (hp1 : p < 196) (e : τ = st σ (b + 6) (161 * p) 0) : RI ω τ b := h.row hp0 hp1 (RV.emp (by rw [e, st_eq])) (fun c j hn => by
  rw [e]
  by_cases hc : c = b + 6
  · subst hc
    rw [st_nj (by omega)]
  · rw [st_ne hc])
end RI1
section RP
variable {l : Launch} {d N : Nat} {Λ : Lay} {ω σ : Mem} {b : Int}
theorem R_puts {P : Int → Mem → Prop} {p key n : Int} (hM : ModL N Λ b) (hR : RI ω σ b) (hp0 : 0 ≤ p) (hp : p < 196) (hk : 0 ≤ key ∧ key < 214358881) (hd : 2 ≤ d) (h : ∀ v σ', RI ω σ' b → FA p σ σ' b → P v σ') : CI l mX12_puts d [(2, b), (0, p), (0, key), (1, n)] N Λ σ P := by
  by_cases hb : σ b 8 = 0
  · obtain ⟨ts, q1, q2, q3, q4⟩ := hR.pool hp0 hp
    refine k_puts hM hd hp0 hp q1 q2 (fun e he => (q4 e he).1) hb (fun σ' ts' e hpm hs => ?_) (fun c _ _ => h 0 _ (hR.bad rfl) (FA.bd rfl))
    have r := putS_ok q3 q2 (fun e he => (q4 e he).1) e
    refine h 1 σ' (hR.row hp0 hp ⟨ts', hpm, r.2.1, r.1, fun x hx => ⟨r.2.2 x hx, ?_⟩⟩ hs) ⟨fun j _ => hs _ _ (by omega), fun c _ g1 => funext fun j => hs _ _ (by omega), fun j hj => hs _ _ (by omega)⟩
    rcases putS_keys e x hx with ⟨g, g'⟩ | ⟨y, hy, g, g'⟩
    · rw [g]; exact ⟨g', hk⟩
    · have z := q4 y hy
      rw [← g]
      refine ⟨?_, z.2.2⟩
      rcases g' with g' | g'
      · rw [← g']; exact z.2.1
      · exact g'
  · exact k_puts_bad hM hd hb (h 0 σ hR FA.rf)
/-- the ranks in a key -/
def rkI (x i : Int) : Int := if 3 ≤ i then x % 121 else if i = 2 then x / 121 % 121 else if i = 1 then x / 121 / 121 % 121 else x / 121 / 121 / 121 % 121
theorem rkI_b {x i : Int} : 0 ≤ rkI x i ∧ rkI x i ≤ 120 := by
  unfold rkI
  split
  · omega
  · split
    · omega
    · split <;> omega
theorem R_rk {P : Int → Mem → Prop} {x i : Int} (hx : 0 ≤ x ∧ x < 214358881) (hi : 0 ≤ i ∧ i ≤ 3) (h : P (rkI x i) σ) : CI l mX12_rankIn d [(0, x), (0, i)] N Λ σ P := by
  have ci : i = 0 ∨ i = 1 ∨ i = 2 ∨ i = 3 := by omega
  have d1 : divI x 121 = x / 121 := divI_e (by omega) (by omega) (by decide) (by decide)
  have d2 : divI (x / 121) 121 = x / 121 / 121 := divI_e (by omega) (by omega) (by decide) (by decide)
  have d3 : divI (x / 121 / 121) 121 = x / 121 / 121 / 121 := divI_e (by omega) (by omega) (by decide) (by decide)
  have r0 : remI x 121 = x % 121 := remI_e (by omega) (by omega) (by decide) (by decide)
  have r1 : remI (x / 121) 121 = x / 121 % 121 := remI_e (by omega) (by omega) (by decide) (by decide)
  have r2 : remI (x / 121 / 121) 121 = x / 121 / 121 % 121 := remI_e (by omega) (by omega) (by decide) (by decide)
  have r3 : remI (x / 121 / 121 / 121) 121 = x / 121 / 121 / 121 % 121 := remI_e (by omega) (by omega) (by decide) (by decide)
  refine c_X12_rankIn (v_X12_rankIn_0 ?_)
  rcases ci with rfl | rfl | rfl | rfl
  · refine v_X12_rankIn_4 ⟨fun hc => absurd hc (by decide), fun _ y1 e1 y2 e2 => ?_⟩
    rw [d1] at e1; subst e1; rw [show addI 3 (-1) = 2 by decide] at e2; subst e2
    refine v_X12_rankIn_4 ⟨fun hc => absurd hc (by decide), fun _ y1 e1 y2 e2 => ?_⟩
    rw [d2] at e1; subst e1; rw [show addI 2 (-1) = 1 by decide] at e2; subst e2
    refine v_X12_rankIn_4 ⟨fun hc => absurd hc (by decide), fun _ y1 e1 y2 e2 => ?_⟩
    rw [d3] at e1; subst e1; rw [show addI 1 (-1) = 0 by decide] at e2; subst e2
    exact v_X12_rankIn_4 ⟨fun _ => by rw [r3]; exact h, fun hc => absurd (by decide) hc⟩
  · refine v_X12_rankIn_4 ⟨fun hc => absurd hc (by decide), fun _ y1 e1 y2 e2 => ?_⟩
    rw [d1] at e1; subst e1; rw [show addI 3 (-1) = 2 by decide] at e2; subst e2
    refine v_X12_rankIn_4 ⟨fun hc => absurd hc (by decide), fun _ y1 e1 y2 e2 => ?_⟩
    rw [d2] at e1; subst e1; rw [show addI 2 (-1) = 1 by decide] at e2; subst e2
    exact v_X12_rankIn_4 ⟨fun _ => by rw [r2]; exact h, fun hc => absurd (by decide) hc⟩
  · refine v_X12_rankIn_4 ⟨fun hc => absurd hc (by decide), fun _ y1 e1 y2 e2 => ?_⟩
    rw [d1] at e1; subst e1; rw [show addI 3 (-1) = 2 by decide] at e2; subst e2
    exact v_X12_rankIn_4 ⟨fun _ => by rw [r1]; exact h, fun hc => absurd (by decide) hc⟩
  · exact v_X12_rankIn_4 ⟨fun _ => by rw [r0]; exact h, fun hc => absurd (by decide) hc⟩
/-- how many brackets a key has -/
def dgI (x : Int) : Int := if rkI x 0 ≤ 0 then 0 else if rkI x 1 ≤ 0 then 1 else if rkI x 2 ≤ 0 then 2 else if rkI x 3 ≤ 0 then 3 else 4
theorem dgI_b {x : Int} : 0 ≤ dgI x ∧ dgI x ≤ 4 := by
  unfold dgI
  repeat' split
  all_goals omega
theorem R_dg {P : Int → Mem → Prop} {x : Int} (hx : 0 ≤ x ∧ x < 214358881) (hd : 1 ≤ d) (h : P (dgI x) σ) : CI l mX12_degreeOf d [(0, x)] N Λ σ P := by
  unfold dgI at h
  refine c_X12_degreeOf (v_X12_degreeOf_0 (v_X12_degreeOf_2 hd ⟨fun hc => absurd hc (by decide), fun _ => R_rk hx (by decide) ⟨fun q0 => ?_, fun q0 y e => ?_⟩⟩))
  · rw [if_pos q0] at h; exact h
  rw [if_neg q0] at h
  rw [show addI 0 1 = 1 by decide] at e
  subst e
  refine v_X12_degreeOf_2 hd ⟨fun hc => absurd hc (by decide), fun _ => R_rk hx (by decide) ⟨fun q1 => ?_, fun q1 y e => ?_⟩⟩
  · rw [if_pos q1] at h; exact h
  rw [if_neg q1] at h
  rw [show addI 1 1 = 2 by decide] at e
  subst e
  refine v_X12_degreeOf_2 hd ⟨fun hc => absurd hc (by decide), fun _ => R_rk hx (by decide) ⟨fun q2 => ?_, fun q2 y e => ?_⟩⟩
  · rw [if_pos q2] at h; exact h
  rw [if_neg q2] at h
  rw [show addI 2 1 = 3 by decide] at e
  subst e
  refine v_X12_degreeOf_2 hd ⟨fun hc => absurd hc (by decide), fun _ => R_rk hx (by decide) ⟨fun q3 => ?_, fun q3 y e => ?_⟩⟩
  · rw [if_pos q3] at h; exact h
  rw [if_neg q3] at h
  rw [show addI 3 1 = 4 by decide] at e
  subst e
  exact v_X12_degreeOf_2 hd ⟨fun _ => h, fun hc => absurd (by decide) hc⟩
/-- the first place at which one has the greater letter -/
def bkI (f : Int → Int) (x y : Int) : Int := if f (3 * y) < f (3 * x) then 1 else if f (3 * y + 1) < f (3 * x + 1) then 2 else if f (3 * y + 2) < f (3 * x + 2) then 3 else -1
theorem bkI_b {f : Int → Int} {x y : Int} : bkI f x y = -1 ∨ (1 ≤ bkI f x y ∧ bkI f x y ≤ 3) := by
  unfold bkI
  repeat' split
  all_goals omega
theorem R_bk {P : Int → Mem → Prop} {x y : Int} (hM : ModL N Λ b) (hx : 0 ≤ x ∧ x ≤ 120) (hy : 0 ≤ y ∧ y ≤ 120) (h : P (bkI (σ (b + 2)) x y) σ) : CI l mX12_breakOf d [(2, b), (0, x), (0, y)] N Λ σ P := by
  unfold bkI at h
  have ix : ∀ j : Int, 0 ≤ j → j < 363 → Ix N Λ (b + 2) 0 j := fun j u0 u1 => Ix.of (M_letterOf hM) u0 u1
  have m1 : mulI 3 x = 3 * x := mulI_e (by omega) (by omega)
  have m2 : mulI 3 y = 3 * y := mulI_e (by omega) (by omega)
  have a0 : ∀ z : Int, 0 ≤ z ∧ z ≤ 120 → addI (3 * z) 0 = 3 * z := fun z hz => by rw [addI_e (by omega) (by omega)]; omega
  have a1 : ∀ z : Int, 0 ≤ z ∧ z ≤ 120 → addI (3 * z) 1 = 3 * z + 1 := fun z hz => addI_e (by omega) (by omega)
  have a2 : ∀ z : Int, 0 ≤ z ∧ z ≤ 120 → addI (3 * z) 2 = 3 * z + 2 := fun z hz => addI_e (by omega) (by omega)
  refine c_X12_breakOf (v_X12_breakOf_0 (v_X12_breakOf_2 hM.1 (M_fletterOf hM) ⟨fun hc => absurd hc (by decide), fun _ => ?_⟩))
  rw [m1, m2, a0 x hx, a0 y hy]
  refine ⟨ix _ (by omega) (by omega), ix _ (by omega) (by omega), fun q0 y1 e1 => ?_, fun q0 => ?_⟩
  rotate_left
  · rw [if_pos (by omega)] at h; exact h
  rw [if_neg (by omega)] at h
  rw [show addI 0 1 = 1 by decide] at e1
  subst e1
  refine v_X12_breakOf_2 hM.1 (M_fletterOf hM) ⟨fun hc => absurd hc (by decide), fun _ => ?_⟩
  rw [m1, m2, a1 x hx, a1 y hy]
  refine ⟨ix _ (by omega) (by omega), ix _ (by omega) (by omega), fun q1 y1 e1 => ?_, fun q1 => ?_⟩
  rotate_left
  · rw [if_pos (by omega)] at h; exact h
  rw [if_neg (by omega)] at h
  rw [show addI 1 1 = 2 by decide] at e1
  subst e1
  refine v_X12_breakOf_2 hM.1 (M_fletterOf hM) ⟨fun hc => absurd hc (by decide), fun _ => ?_⟩
  rw [m1, m2, a2 x hx, a2 y hy]
  refine ⟨ix _ (by omega) (by omega), ix _ (by omega) (by omega), fun q2 y1 e1 => ?_, fun q2 => ?_⟩
  rotate_left
  · rw [if_pos (by omega)] at h; exact h
  rw [if_neg (by omega)] at h
  rw [show addI 2 1 = 3 by decide] at e1
  subst e1
  exact v_X12_breakOf_2 hM.1 (M_fletterOf hM) ⟨fun _ => h, fun hc => absurd (by decide) hc⟩
/-- which bracket isn't below the next one -/
def biI (f : Int → Int) (x : Int) : Int := if dgI x ≤ 1 then -1 else if ¬ bkI f (rkI x 0) (rkI x 1) = -1 then 0 else if dgI x ≤ 2 then -1 else if ¬ bkI f (rkI x 1) (rkI x 2) = -1 then 1 else if dgI x ≤ 3 then -1 else if ¬ bkI f (rkI x 2) (rkI x 3) = -1 then 2 else -1
theorem biI_b {f : Int → Int} {x : Int} : biI f x = -1 ∨ ((0 ≤ biI f x ∧ biI f x ≤ 2) ∧ ¬ bkI f (rkI x (biI f x)) (rkI x (biI f x + 1)) = -1 ∧ biI f x + 2 ≤ dgI x) := by
  unfold biI
  by_cases q1 : dgI x ≤ 1
  · rw [if_pos q1]; exact Or.inl rfl
  · rw [if_neg q1]
    by_cases k1 : ¬ bkI f (rkI x 0) (rkI x 1) = -1
    · rw [if_pos k1]; exact Or.inr ⟨by decide, k1, by omega⟩
    · rw [if_neg k1]
      by_cases q2 : dgI x ≤ 2
      · rw [if_pos q2]; exact Or.inl rfl
      · rw [if_neg q2]
        by_cases k2 : ¬ bkI f (rkI x 1) (rkI x 2) = -1
        · rw [if_pos k2]; exact Or.inr ⟨by decide, k2, by omega⟩
        · rw [if_neg k2]
          by_cases q3 : dgI x ≤ 3
          · rw [if_pos q3]; exact Or.inl rfl
          · rw [if_neg q3]
            by_cases k3 : ¬ bkI f (rkI x 2) (rkI x 3) = -1
            · rw [if_pos k3]; exact Or.inr ⟨by decide, k3, by omega⟩
            · rw [if_neg k3]; exact Or.inl rfl
theorem R_bi {P : Int → Mem → Prop} {x : Int} (hM : ModL N Λ b) (hx : 0 ≤ x ∧ x < 214358881) (hd : 2 ≤ d) (h : P (biI (σ (b + 2)) x) σ) : CI l mX12_brokenIn d [(2, b), (0, x)] N Λ σ P := by
  unfold biI at h
  have dg := dgI_b (x := x)
  refine c_X12_brokenIn (v_X12_brokenIn_0 (v_X12_brokenIn_2 hM.1 hd (R_dg hx (by omega) ⟨fun q => ?_, fun q => R_rk hx (by decide) (R_rk hx (by decide) (R_bk hM rkI_b rkI_b ⟨fun k y e => ?_, fun k => ?_⟩))⟩)))
  · rw [show addI 0 1 = 1 by decide] at q; rw [if_pos q] at h; exact h
  rotate_left
  · rw [show addI 0 1 = 1 by decide] at q k; rw [if_neg q, if_pos k] at h; exact h
  rw [show addI 0 1 = 1 by decide] at q k e
  subst e
  rw [if_neg q, if_neg (fun z => z k)] at h
  clear q k
  refine v_X12_brokenIn_2 hM.1 hd (R_dg hx (by omega) ⟨fun q => ?_, fun q => R_rk hx (by decide) (R_rk hx (by decide) (R_bk hM rkI_b rkI_b ⟨fun k y e => ?_, fun k => ?_⟩))⟩)
  · rw [show addI 1 1 = 2 by decide] at q; rw [if_pos q] at h; exact h
  rotate_left
  · rw [show addI 1 1 = 2 by decide] at q k; rw [if_neg q, if_pos k] at h; exact h
  rw [show addI 1 1 = 2 by decide] at q k e
  subst e
  rw [if_neg q, if_neg (fun z => z k)] at h
  clear q k
  refine v_X12_brokenIn_2 hM.1 hd (R_dg hx (by omega) ⟨fun q => ?_, fun q => R_rk hx (by decide) (R_rk hx (by decide) (R_bk hM rkI_b rkI_b ⟨fun k y e => ?_, fun k => ?_⟩))⟩)
  · rw [show addI 2 1 = 3 by decide] at q; rw [if_pos q] at h; exact h
  rotate_left
  · rw [show addI 2 1 = 3 by decide] at q k; rw [if_neg q, if_pos k] at h; exact h
  rw [show addI 2 1 = 3 by decide] at q k e
  subst e
  rw [if_neg q, if_neg (fun z => z k)] at h
  exact v_X12_brokenIn_2 hM.1 hd (R_dg hx (by omega) ⟨fun _ => h, fun z => absurd (by rw [show addI 3 1 = 4 by decide]; exact dg.2) z⟩)
end RP
