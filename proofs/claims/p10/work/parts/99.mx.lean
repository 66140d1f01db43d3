/-! exchange in the reference -/
def At (σ : Mem) (c : Int) (xs : List Int) : Prop := ∀ (i : Nat) (v : Int), xs[i]? = some v → σ c i = v
theorem At.same {σ σ' : Mem} {c : Int} {xs : List Int} (h : At σ c xs) (e : σ' c = σ c) : At σ' c xs := fun i v hv => by rw [e]; exact h i v hv
theorem At.snoc {σ : Mem} {c j v : Int} {xs : List Int} (h : At σ c xs) (e : j = (xs.length : Int)) : At (st σ c j v) c (xs ++ [v]) := by
  intro i u hu
  by_cases hi : i < xs.length
  · rw [List.getElem?_append_left hi] at hu
    rw [st_nj (by omega)]
    exact h i u hu
  · by_cases h2 : i = xs.length
    · subst h2
      rw [List.getElem?_append_right (Nat.le_refl _), Nat.sub_self] at hu
      cases hu
      rw [e, st_eq]
    · rw [List.getElem?_eq_none (by simp; omega)] at hu
      cases hu
def LwS (b : Int) (σ τ : Mem) (xs ys : List Int) : Prop := (∀ c', c' ≠ b + 11 → c' ≠ b + 12 → τ c' = σ c') ∧ At τ (b + 11) xs ∧ At τ (b + 12) ys
theorem LwS.x {b j v : Int} {σ τ τ' : Mem} {xs ys : List Int} (h : LwS b σ τ xs ys) (e : j = (xs.length : Int)) (et : τ' = st τ (b + 11) j v) : LwS b σ τ' (xs ++ [v]) ys := by
  subst et
  exact ⟨fun c' g0 g1 => by rw [st_ne g0]; exact h.1 c' g0 g1, h.2.1.snoc e, h.2.2.same (st_ne (by omega))⟩
theorem LwS.y {b j v : Int} {σ τ τ' : Mem} {xs ys : List Int} (h : LwS b σ τ xs ys) (e : j = (ys.length : Int)) (et : τ' = st τ (b + 12) j v) : LwS b σ τ' xs (ys ++ [v]) := by
  subst et
  exact ⟨fun c' g0 g1 => by rw [st_ne g1]; exact h.1 c' g0 g1, h.2.1.same (st_ne (by omega)), h.2.2.snoc e⟩
section MX
variable {l : Launch} {d N : Nat} {Λ : Lay} {b : Int}
theorem lw_a {P : Int → Mem → Prop} {σ τ : Mem} {x1 x2 x3 x4 x5 v x3' : Int} {xs ys : List Int} (hM : ModL N Λ b) (hS : LwS b σ τ xs ys) (hc : ¬ subI x1 1 ≤ x3) (e3 : x3 = (xs.length : Int)) (b3 : x3 < 3) (hv : σ (b + 8) x3 = v) (h3 : addI x3 1 = x3')
    (K : ∀ τ', LwS b σ τ' (xs ++ [v]) ys → WI l mX12_layWay d P 8 [(2, b), (0, x1), (0, x2), (0, x3'), (0, x4), (0, x5), (3, 0)] [] N Λ τ') : WI l mX12_layWay d P 8 [(2, b), (0, x1), (0, x2), (0, x3), (0, x4), (0, x5), (3, 0)] [] N Λ τ := by
  refine v_X12_layWay_8 hM.1 (M_fnewX hM) (M_frowX hM) ⟨fun h => absurd h hc, fun _ => ⟨Ix.of (M_rowX hM) (by omega) (by omega), Ix.of (M_newX hM) (by omega) (by omega), fun τ1 e1 y2 e2 => ?_⟩⟩
  rw [e2, h3]
  exact K τ1 (hS.x e3 (by rw [e1, hS.1 (b + 8) (by omega) (by omega), hv]))
theorem lw_y {P : Int → Mem → Prop} {σ τ : Mem} {x1 x2 x3 x4 x5 x6 v x3' x5' x6' : Int} {xs ys : List Int} (hM : ModL N Λ b) (hS : LwS b σ τ xs ys) (h6 : 0 ≤ x6 ∧ x6 < 4) (hb : andI (shrI x2 (subI 3 x6)) 1 = 1) (e3 : x3 = (xs.length : Int)) (b3 : x3 < 6) (hv : σ (b + 10) x6 = v) (h3 : addI x3 1 = x3') (h5 : addI x5 x4 = x5') (h7 : addI x6 1 = x6')
    (K : ∀ τ', LwS b σ τ' (xs ++ [v]) ys → WI l mX12_layWay d P 36 [(2, b), (0, x1), (0, x2), (0, x3'), (0, x4), (0, x5'), (0, x6')] [] N Λ τ') : WI l mX12_layWay d P 36 [(2, b), (0, x1), (0, x2), (0, x3), (0, x4), (0, x5), (0, x6)] [] N Λ τ := by
  refine v_X12_layWay_36 hM.1 (M_fnewY hM) (M_ffour hM) (M_fnewX hM) ⟨fun h => absurd h (by omega), fun _ => ⟨fun h => absurd hb h, fun _ => ⟨Ix.of (M_four hM) (by omega) (by omega), Ix.of (M_newX hM) (by omega) (by omega), fun τ1 e1 y2 e2 y4 e4 y5 e5 => ?_⟩⟩⟩
  rw [e2, e4, e5, h3, h5, h7]
  exact K τ1 (hS.x e3 (by rw [e1, hS.1 (b + 10) (by omega) (by omega), hv]))
theorem lw_n {P : Int → Mem → Prop} {σ τ : Mem} {x1 x2 x3 x4 x5 x6 v x4' x6' : Int} {xs ys : List Int} (hM : ModL N Λ b) (hS : LwS b σ τ xs ys) (h6 : 0 ≤ x6 ∧ x6 < 4) (hb : ¬ andI (shrI x2 (subI 3 x6)) 1 = 1) (e4 : x4 = (ys.length : Int)) (b4 : x4 < 6) (hv : σ (b + 10) x6 = v) (h4 : addI x4 1 = x4') (h7 : addI x6 1 = x6')
    (K : ∀ τ', LwS b σ τ' xs (ys ++ [v]) → WI l mX12_layWay d P 36 [(2, b), (0, x1), (0, x2), (0, x3), (0, x4'), (0, x5), (0, x6')] [] N Λ τ') : WI l mX12_layWay d P 36 [(2, b), (0, x1), (0, x2), (0, x3), (0, x4), (0, x5), (0, x6)] [] N Λ τ := by
  refine v_X12_layWay_36 hM.1 (M_fnewY hM) (M_ffour hM) (M_fnewX hM) ⟨fun h => absurd h (by omega), fun _ => ⟨fun _ => ⟨Ix.of (M_four hM) (by omega) (by omega), Ix.of (M_newY hM) (by omega) (by omega), fun τ1 e1 y2 e2 y3 e3 => ?_⟩, fun h => absurd h hb⟩⟩
  rw [e2, e3, h4, h7]
  exact K τ1 (hS.y e4 (by rw [e1, hS.1 (b + 10) (by omega) (by omega), hv]))
theorem lw_t {P : Int → Mem → Prop} {σ τ : Mem} {x1 x2 x3 x4 x5 x6 v x6' : Int} {xs ys : List Int} (hM : ModL N Λ b) (hS : LwS b σ τ xs ys) (h6 : 0 ≤ x6 ∧ x6 < 3) (e6 : x6 = (ys.length : Int)) (hv : σ (b + 9) x6 = v) (h7 : addI x6 1 = x6')
    (K : ∀ τ', LwS b σ τ' xs (ys ++ [v]) → WI l mX12_layWay d P 106 [(2, b), (0, x1), (0, x2), (0, x3), (0, x4), (0, x5), (0, x6')] [] N Λ τ') : WI l mX12_layWay d P 106 [(2, b), (0, x1), (0, x2), (0, x3), (0, x4), (0, x5), (0, x6)] [] N Λ τ := by
  refine v_X12_layWay_106 hM.1 (M_fnewY hM) (M_frowY hM) ⟨fun h => absurd h (by omega), fun _ => ⟨Ix.of (M_rowY hM) (by omega) (by omega), Ix.of (M_newY hM) (by omega) (by omega), fun τ1 e1 y2 e2 => ?_⟩⟩
  rw [e2, h7]
  exact K τ1 (hS.y e6 (by rw [e1, hS.1 (b + 9) (by omega) (by omega), hv]))
/-- the polynomial behind so many ways -/
def MxI (σ0 σ : Mem) (b : Int) (m : Nat) (ts : List (Int × Int)) : Prop := Inv m ts ∧ PM σ b 0 ts ∧ ∀ c', c' ≠ b + 6 → c' ≠ b + 7 → c' ≠ b + 11 → c' ≠ b + 12 → σ c' = σ0 c'
theorem PM.same {σ σ' : Mem} {p : Int} {ts : List (Int × Int)} (h : PM σ b p ts) (e : σ' (b + 6) = σ (b + 6)) : PM σ' b p ts := ⟨by rw [e]; exact h.1, fun i x hx => by rw [e]; exact h.2 i x hx⟩
theorem mx_skip {P : Mem → Prop} {σ0 σ : Mem} {x1 x6 x6' : Int} {m : Nat} {ts : List (Int × Int)} (hM : ModL N Λ b) (hd : 4 ≤ d) (h8 : σ0 b 8 = 0) (hI : MxI σ0 σ b m ts) (h0 : ¬ x6 ≤ 0) (hb : ¬ bcI x6 = subI 4 x1) (hi : addI x6 (-1) = x6')
    (K : WV l mX12_exchanges d P 59 [(2, b), (0, x1), (0, 0), (1, 1), (3, 0), (0, 0), (0, x6'), (3, 0), (3, 0), (3, 0), (3, 0), (3, 0), (3, 0)] [] N Λ σ) : WV l mX12_exchanges d P 59 [(2, b), (0, x1), (0, 0), (1, 1), (3, 0), (0, 0), (0, x6), (3, 0), (3, 0), (3, 0), (3, 0), (3, 0), (3, 0)] [] N Λ σ := by
  refine v_X12_exchanges_59 hM.1 (M_frankOf hM) (M_fnewX hM) (M_fnewY hM) (by omega) ⟨fun hc => absurd hc h0, fun _ => ⟨fun hc => absurd (by rw [hI.2.2 b (by omega) (by omega) (by omega) (by omega)]; exact h8) hc, fun _ => k_bit ⟨fun hc => absurd hc hb, fun _ y17 e17 => ?_⟩⟩⟩
  rw [e17, hi]
  exact K
theorem mx_do {P : Mem → Prop} {σ0 σ : Mem} {x1 x6 x6' tu : Int} {m : Nat} {ts : List (Int × Int)} {xs ys fs : List Int} (w : Way) (hM : ModL N Λ b) (hd : 4 ≤ d) (h8 : σ0 b 8 = 0) (hr : σ0 (b + 1) = RkT 120) (hX : At σ0 (b + 8) xs) (hY : At σ0 (b + 9) ys) (hF : At σ0 (b + 10) fs) (hI : MxI σ0 σ b m ts) (h0 : ¬ x6 ≤ 0) (hb : bcI x6 = subI 4 x1) (hi : addI x6 (-1) = x6') (hm : m ≤ 40) (hw : Wok w) (hs : (remI tu 2 = 0 ∧ w.1 = 1) ∨ (¬ remI tu 2 = 0 ∧ w.1 = -1))
    (hlw : ∀ (Q : Int → Mem → Prop), At σ (b + 8) xs → At σ (b + 9) ys → At σ (b + 10) fs → (∀ σ', LwS b σ σ' [w.2.1.1, w.2.1.2.1, w.2.1.2.2] [w.2.2.1, w.2.2.2.1, w.2.2.2.2] → Q tu σ') → CI l mX12_layWay (d - 1) [(2, b), (0, x1), (0, x6)] N Λ σ Q)
    (K : ∀ σ', MxI σ0 σ' b (m + 1) (putS ts (Wk w) (Wn w)).2 → WV l mX12_exchanges d P 59 [(2, b), (0, x1), (0, 0), (1, 1), (3, 0), (0, 0), (0, x6'), (3, 0), (3, 0), (3, 0), (3, 0), (3, 0), (3, 0)] [] N Λ σ') : WV l mX12_exchanges d P 59 [(2, b), (0, x1), (0, 0), (1, 1), (3, 0), (0, 0), (0, x6), (3, 0), (3, 0), (3, 0), (3, 0), (3, 0), (3, 0)] [] N Λ σ := by
  obtain ⟨q1, q2, q3⟩ := hI
  have z8 : σ b 8 = 0 := by rw [q3 b (by omega) (by omega) (by omega) (by omega)]; exact h8
  refine v_X12_exchanges_59 hM.1 (M_frankOf hM) (M_fnewX hM) (M_fnewY hM) (by omega) ⟨fun hc => absurd hc h0, fun _ => ⟨fun hc => absurd z8 hc, fun _ => k_bit ⟨fun _ => hlw _ (hX.same (q3 _ (by omega) (by omega) (by omega) (by omega))) (hY.same (q3 _ (by omega) (by omega) (by omega) (by omega))) (hF.same (q3 _ (by omega) (by omega) (by omega) (by omega))) fun σ3 hS => ?_, fun hc => absurd hb hc⟩⟩⟩
  clear hlw hX hY hF
  obtain ⟨k3, hx, hy⟩ := hS
  have x0 : σ3 (b + 11) 0 = w.2.1.1 := hx 0 _ rfl
  have x1' : σ3 (b + 11) 1 = w.2.1.2.1 := hx 1 _ rfl
  have x2' : σ3 (b + 11) 2 = w.2.1.2.2 := hx 2 _ rfl
  have y0 : σ3 (b + 12) 0 = w.2.2.1 := hy 0 _ rfl
  have y1 : σ3 (b + 12) 1 = w.2.2.2.1 := hy 1 _ rfl
  have y2 : σ3 (b + 12) 2 = w.2.2.2.2 := hy 2 _ rfl
  have r3 : σ3 (b + 1) = RkT 120 := by rw [k3 _ (by omega) (by omega), q3 _ (by omega) (by omega) (by omega) (by omega)]; exact hr
  rw [x0, x1', x2', y0, y1, y2, m_ix hw.2.1.1 hw.2.1.2.1 hw.2.1.2.2, m_ix hw.2.2.1 hw.2.2.2.1 hw.2.2.2.2, r3]
  clear hx hy x0 x1' x2' y0 y1 y2
  have f3 : ∀ c', c' ≠ b + 6 → c' ≠ b + 7 → c' ≠ b + 11 → c' ≠ b + 12 → σ3 c' = σ0 c' := fun c' g0 g1 g2 g3 => by rw [k3 c' g2 g3]; exact q3 c' g0 g1 g2 g3
  have p3 : σ3 (b + 6) = σ (b + 6) := k3 _ (by omega) (by omega)
  have W := W_put q1 hm hw
  have sk : Wn w = 0 → ∀ y, y = addI x6 (-1) → WV l mX12_exchanges d P 59 [(2, b), (0, x1), (0, 0), (1, 1), (3, 0), (0, 0), (0, y), (3, 0), (3, 0), (3, 0), (3, 0), (3, 0), (3, 0)] [] N Λ σ3 := fun hn y ey => by
    rw [ey, hi]
    refine K σ3 ⟨W.2, ?_, f3⟩
    rw [hn, putS_z]
    exact q2.same p3
  have ixX : ∀ j : Int, 0 ≤ j → j < 6 → Ix N Λ (b + 11) 0 j := fun j u0 u1 => Ix.of (M_newX hM) u0 u1
  have ixY : ∀ j : Int, 0 ≤ j → j < 6 → Ix N Λ (b + 12) 0 j := fun j u0 u1 => Ix.of (M_newY hM) u0 u1
  have hA := hw.2.1
  have hB := hw.2.2
  have ra := rk_r hA.1 hA.2.1 hA.2.2
  have rb := rk_r hB.1 hB.2.1 hB.2.2
  refine ⟨ixX 0 (by decide) (by decide), ixX 1 (by decide) (by decide), ixX 2 (by decide) (by decide), Ix.of (M_rankOf hM) (by omega) (by omega), fun y5 e5 => ⟨ixY 0 (by decide) (by decide), ixY 1 (by decide) (by decide), ixY 2 (by decide) (by decide), Ix.of (M_rankOf hM) (by omega) (by omega), fun y6 e6 => ?_⟩⟩
  have e5 : y5 = Wa w := e5
  have e6 : y6 = Wb w := e6
  have ra : -120 ≤ y5 ∧ y5 ≤ 120 := by rw [e5]; exact ra
  have rb : -120 ≤ y6 ∧ y6 ≤ 120 := by rw [e6]; exact rb
  refine ⟨fun hz y7 e7 => sk (by unfold Wn; rw [← e5, hz, sg_0, Int.zero_mul, Int.mul_zero]) y7 e7, fun hz => ⟨fun hz2 => ?_, fun hz2 y16 e16 => sk (by unfold Wn; rw [← e6, hz2, sg_0, Int.mul_zero, Int.mul_zero]) y16 e16⟩⟩
  have go : ∀ x10 : Int, x10 = Wn w → WV l mX12_exchanges d P 218 [(2, b), (0, x1), (0, 0), (1, 1), (3, 0), (0, 0), (0, x6), (0, tu), (0, y5), (0, y6), (1, x10), (3, 0), (0, 0)] [] N Λ σ3 := fun x10 e10 => by
    have hmul : mulL x10 1 = Wn w := by
      rw [e10]
      rcases Wn_c hw with e | e | e <;> rw [e] <;> decide
    have pa := ab_b ra.1 ra.2 hz
    have pb := ab_b rb.1 rb.2 hz2
    have ixr : ∀ j : Int, 0 ≤ j → j < 9 → Ix N Λ (b + 7) 0 j := fun j u0 u1 => Ix.of (M_ranks hM) u0 u1
    have put : ∀ τ2 : Mem, τ2 (b + 7) 0 = ab y5 → τ2 (b + 7) 1 = ab y6 → (∀ c', c' ≠ b + 7 → τ2 c' = σ3 c') → CI l mX12_keyOf (d - 1) [(2, b), (0, addI 0 2)] N Λ τ2 (fun v4 σ3 => (CI l mX12_puts (d - 1) [(2, b), (0, 0), (0, v4), (1, (mulL x10 1))] N Λ σ3 (fun v6 σ5 => (∀ y7, y7 = addI x6 (-1) → WV l mX12_exchanges d P 59 [(2, b), (0, x1), (0, 0), (1, 1), (3, 0), (0, 0), (0, y7), (3, 0), (3, 0), (3, 0), (3, 0), (3, 0), (3, 0)] [] N Λ σ5)))) := fun τ2 t0 t1 n2 => by
      rw [show addI 0 2 = 2 by decide, hmul]
      refine m_key2 hM (p := ab y5) (q := ab y6) (by omega) (by omega) t0 t1 fun σ4 k4 => ?_
      have n4 : ∀ c', c' ≠ b + 7 → σ4 c' = σ3 c' := fun c' g => by rw [k4 c' g, n2 c' g]
      have ek : mk2 (ab y5) (ab y6) = Wk w := by rw [e5, e6]; rfl
      rw [ek]
      have hl : ts.length ≤ 80 := by have := q1.1; omega
      refine k_puts hM (by omega) (by decide) (by decide) (ts := ts) ((q2.same p3).same (n4 _ (by omega))) hl (q1.r32 (by omega)) (by rw [n4 _ (by omega), f3 _ (by omega) (by omega) (by omega) (by omega)]; exact h8) (fun σ5 ts' ep hp hsame y7 e7 => ?_) (fun k ek hk => ?_)
      · rw [W.1] at ep
        have et := (Prod.mk.inj ep).2
        rw [← et] at hp
        rw [e7, hi]
        refine K σ5 ⟨W.2, hp, fun c' g0 g1 g2 g3 => ?_⟩
        rw [← f3 c' g0 g1 g2 g3, ← n4 c' g1]
        exact funext fun j => hsame c' j (fun z => g0 z.1)
      · rw [W.1] at ek
        exact absurd ek.symm hk
    refine v_X12_exchanges_218 hM.1 (M_franks hM) (M_fkept hM) (by omega) ⟨fun _ => ⟨fun g1 => ⟨ixr _ (by decide) (by decide), fun τ1 t1 => ⟨fun g2 => ⟨ixr _ (by decide) (by decide), fun τ2 t2 => ?_⟩, fun g2 => ⟨ixr _ (by decide) (by decide), fun τ2 t2 => ?_⟩⟩⟩, fun g1 => ⟨ixr _ (by decide) (by decide), fun τ1 t1 => ⟨fun g2 => ⟨ixr _ (by decide) (by decide), fun τ2 t2 => ?_⟩, fun g2 => ⟨ixr _ (by decide) (by decide), fun τ2 t2 => ?_⟩⟩⟩⟩, fun hc => absurd (Int.le_refl 0) hc⟩
    all_goals rw [show addI 0 1 = 1 by decide] at t2
    · exact put τ2 (by rw [t2, st_nj (by decide), t1, st_eq, ab_p g1]) (by rw [t2, st_eq, ab_p g2]) (fun c' g => by rw [t2, st_ne g, t1, st_ne g])
    · exact put τ2 (by rw [t2, st_nj (by decide), t1, st_eq, ab_p g1]) (by rw [t2, st_eq, negI_e (by omega) (by omega)]; unfold ab; rw [if_neg g2]) (fun c' g => by rw [t2, st_ne g, t1, st_ne g])
    · exact put τ2 (by rw [t2, st_nj (by decide), t1, st_eq, negI_e (by omega) (by omega)]; unfold ab; rw [if_neg g1]) (by rw [t2, st_eq, ab_p g2]) (fun c' g => by rw [t2, st_ne g, t1, st_ne g])
    · exact put τ2 (by rw [t2, st_nj (by decide), t1, st_eq, negI_e (by omega) (by omega)]; unfold ab; rw [if_neg g1]) (by rw [t2, st_eq, negI_e (by omega) (by omega)]; unfold ab; rw [if_neg g2]) (fun c' g => by rw [t2, st_ne g, t1, st_ne g])
  have sp : ∀ r : Int, ¬ r = 0 → 0 ≤ r → sg r = 1 := fun r h g => sg_p (by omega)
  have sn : ∀ r : Int, ¬ r = 0 → ¬ 0 ≤ r → sg r = -1 := fun r h g => by unfold sg; rw [if_neg h, if_neg (by omega)]
  have fin : ∀ x p q : Int, w.1 = x → sg y5 = p → sg y6 = q → ∀ x10, x10 = x * (p * q) → WV l mX12_exchanges d P 218 [(2, b), (0, x1), (0, 0), (1, 1), (3, 0), (0, 0), (0, x6), (0, tu), (0, y5), (0, y6), (1, x10), (3, 0), (0, 0)] [] N Λ σ3 := fun x p q ex ep eq x10 e10 => go x10 (by unfold Wn; rw [e10, ex, ← e5, ← e6, ep, eq])
  clear go sk W K
  rcases hs with ⟨ht, h1⟩ | ⟨ht, h1⟩
  · exact ⟨fun hc => absurd ht hc, fun _ => ⟨fun g1 => ⟨fun g2 y e => fin _ _ _ h1 (sp _ hz g1) (sp _ hz2 g2) y (e.trans (by decide)), fun g2 y e => fin _ _ _ h1 (sp _ hz g1) (sn _ hz2 g2) y (e.trans (by decide))⟩, fun g1 => ⟨fun g2 y e => fin _ _ _ h1 (sn _ hz g1) (sp _ hz2 g2) y (e.trans (by decide)), fun g2 y e => fin _ _ _ h1 (sn _ hz g1) (sn _ hz2 g2) y (e.trans (by decide))⟩⟩⟩
  · exact ⟨fun _ => ⟨fun g1 => ⟨fun g2 y e => fin _ _ _ h1 (sp _ hz g1) (sp _ hz2 g2) y (e.trans (by decide)), fun g2 y e => fin _ _ _ h1 (sp _ hz g1) (sn _ hz2 g2) y (e.trans (by decide))⟩, fun g1 => ⟨fun g2 y e => fin _ _ _ h1 (sn _ hz g1) (sp _ hz2 g2) y (e.trans (by decide)), fun g2 y e => fin _ _ _ h1 (sn _ hz g1) (sn _ hz2 g2) y (e.trans (by decide))⟩⟩, fun hc => absurd hc ht⟩
theorem m4x {P : Mem → Prop} {σ : Mem} {x1 x6 x6' v : Int} (hM : ModL N Λ b) (h6 : 0 ≤ x6 ∧ x6 < 4) (hc : ¬ subI 4 x1 ≤ x6) (hj : 0 ≤ addI (subI x1 1) x6 ∧ addI (subI x1 1) x6 < 3) (hv : σ (b + 8) (addI (subI x1 1) x6) = v) (hi : addI x6 1 = x6')
    (K : WV l mX12_exchanges d P 3 [(2, b), (0, x1), (0, 0), (1, 1), (3, 0), (0, 0), (0, x6'), (3, 0), (3, 0), (3, 0), (3, 0), (3, 0), (3, 0)] [] N Λ (st σ (b + 10) x6 v)) : WV l mX12_exchanges d P 3 [(2, b), (0, x1), (0, 0), (1, 1), (3, 0), (0, 0), (0, x6), (3, 0), (3, 0), (3, 0), (3, 0), (3, 0), (3, 0)] [] N Λ σ := by
  refine v_X12_exchanges_3 hM.1 (M_ffour hM) (M_frowY hM) (M_frowX hM) ⟨fun h => absurd h (by omega), fun _ => ⟨fun h => absurd h hc, fun _ => ⟨Ix.of (M_rowX hM) hj.1 hj.2, Ix.of (M_four hM) h6.1 h6.2, fun τ e y ey => ?_⟩⟩⟩
  rw [e, ey, hv, hi]
  exact K
theorem m4y {P : Mem → Prop} {σ : Mem} {x1 x6 x6' v : Int} (hM : ModL N Λ b) (h6 : 0 ≤ x6 ∧ x6 < 4) (hc : subI 4 x1 ≤ x6) (hj : 0 ≤ subI x6 (subI 4 x1) ∧ subI x6 (subI 4 x1) < 3) (hv : σ (b + 9) (subI x6 (subI 4 x1)) = v) (hi : addI x6 1 = x6')
    (K : WV l mX12_exchanges d P 3 [(2, b), (0, x1), (0, 0), (1, 1), (3, 0), (0, 0), (0, x6'), (3, 0), (3, 0), (3, 0), (3, 0), (3, 0), (3, 0)] [] N Λ (st σ (b + 10) x6 v)) : WV l mX12_exchanges d P 3 [(2, b), (0, x1), (0, 0), (1, 1), (3, 0), (0, 0), (0, x6), (3, 0), (3, 0), (3, 0), (3, 0), (3, 0), (3, 0)] [] N Λ σ := by
  refine v_X12_exchanges_3 hM.1 (M_ffour hM) (M_frowY hM) (M_frowX hM) ⟨fun h => absurd h (by omega), fun _ => ⟨fun _ => ⟨Ix.of (M_rowY hM) hj.1 hj.2, Ix.of (M_four hM) h6.1 h6.2, fun τ e y ey => ?_⟩, fun h => absurd hc h⟩⟩
  rw [e, ey, hv, hi]
  exact K
theorem lw_1_14 {P : Int → Mem → Prop} {σ : Mem} {a0 a1 a2 b0 b1 b2 : Int} (hM : ModL N Λ b) (hX : At σ (b + 8) [a0, a1, a2]) (hY : At σ (b + 9) [b0, b1, b2]) (hF : At σ (b + 10) [a0, a1, a2, b0]) (h : ∀ σ', LwS b σ σ' [a0, a1, a2] [b0, b1, b2] → P 0 σ') : CI l mX12_layWay d [(2, b), (0, 1), (0, 14)] N Λ σ P := by
  have S0 : LwS b σ σ [] [] := ⟨fun _ _ _ => rfl, fun i v hv => by simp at hv, fun i v hv => by simp at hv⟩
  refine c_X12_layWay (v_X12_layWay_0 ?_)
  refine v_X12_layWay_8 hM.1 (M_fnewX hM) (M_frowX hM) ⟨fun _ => ?_, fun hc => absurd (by decide) hc⟩
  refine lw_y hM S0 (by decide) (by decide) rfl (by decide) (hF 0 _ rfl) (x3' := 1) (by decide) (x5' := 0) (by decide) (x6' := 1) (by decide) fun τ1 S1 => ?_
  refine lw_y hM S1 (by decide) (by decide) rfl (by decide) (hF 1 _ rfl) (x3' := 2) (by decide) (x5' := 0) (by decide) (x6' := 2) (by decide) fun τ2 S2 => ?_
  refine lw_y hM S2 (by decide) (by decide) rfl (by decide) (hF 2 _ rfl) (x3' := 3) (by decide) (x5' := 0) (by decide) (x6' := 3) (by decide) fun τ3 S3 => ?_
  refine lw_n hM S3 (by decide) (by decide) rfl (by decide) (hF 3 _ rfl) (x4' := 1) (by decide) (x6' := 4) (by decide) fun τ4 S4 => ?_
  refine v_X12_layWay_36 hM.1 (M_fnewY hM) (M_ffour hM) (M_fnewX hM) ⟨fun _ => ?_, fun hc => absurd (by decide) hc⟩
  refine lw_t hM S4 (by decide) rfl (hY 1 _ rfl) (x6' := 2) (by decide) fun τ5 S5 => ?_
  refine lw_t hM S5 (by decide) rfl (hY 2 _ rfl) (x6' := 3) (by decide) fun τ6 S6 => ?_
  exact v_X12_layWay_106 hM.1 (M_fnewY hM) (M_frowY hM) ⟨fun _ => h _ S6, fun hc => absurd (by decide) hc⟩
theorem lw_1_13 {P : Int → Mem → Prop} {σ : Mem} {a0 a1 a2 b0 b1 b2 : Int} (hM : ModL N Λ b) (hX : At σ (b + 8) [a0, a1, a2]) (hY : At σ (b + 9) [b0, b1, b2]) (hF : At σ (b + 10) [a0, a1, a2, b0]) (h : ∀ σ', LwS b σ σ' [a0, a1, b0] [a2, b1, b2] → P 1 σ') : CI l mX12_layWay d [(2, b), (0, 1), (0, 13)] N Λ σ P := by
  have S0 : LwS b σ σ [] [] := ⟨fun _ _ _ => rfl, fun i v hv => by simp at hv, fun i v hv => by simp at hv⟩
  refine c_X12_layWay (v_X12_layWay_0 ?_)
  refine v_X12_layWay_8 hM.1 (M_fnewX hM) (M_frowX hM) ⟨fun _ => ?_, fun hc => absurd (by decide) hc⟩
  refine lw_y hM S0 (by decide) (by decide) rfl (by decide) (hF 0 _ rfl) (x3' := 1) (by decide) (x5' := 0) (by decide) (x6' := 1) (by decide) fun τ1 S1 => ?_
  refine lw_y hM S1 (by decide) (by decide) rfl (by decide) (hF 1 _ rfl) (x3' := 2) (by decide) (x5' := 0) (by decide) (x6' := 2) (by decide) fun τ2 S2 => ?_
  refine lw_n hM S2 (by decide) (by decide) rfl (by decide) (hF 2 _ rfl) (x4' := 1) (by decide) (x6' := 3) (by decide) fun τ3 S3 => ?_
  refine lw_y hM S3 (by decide) (by decide) rfl (by decide) (hF 3 _ rfl) (x3' := 3) (by decide) (x5' := 1) (by decide) (x6' := 4) (by decide) fun τ4 S4 => ?_
  refine v_X12_layWay_36 hM.1 (M_fnewY hM) (M_ffour hM) (M_fnewX hM) ⟨fun _ => ?_, fun hc => absurd (by decide) hc⟩
  refine lw_t hM S4 (by decide) rfl (hY 1 _ rfl) (x6' := 2) (by decide) fun τ5 S5 => ?_
  refine lw_t hM S5 (by decide) rfl (hY 2 _ rfl) (x6' := 3) (by decide) fun τ6 S6 => ?_
  exact v_X12_layWay_106 hM.1 (M_fnewY hM) (M_frowY hM) ⟨fun _ => h _ S6, fun hc => absurd (by decide) hc⟩
theorem lw_1_11 {P : Int → Mem → Prop} {σ : Mem} {a0 a1 a2 b0 b1 b2 : Int} (hM : ModL N Λ b) (hX : At σ (b + 8) [a0, a1, a2]) (hY : At σ (b + 9) [b0, b1, b2]) (hF : At σ (b + 10) [a0, a1, a2, b0]) (h : ∀ σ', LwS b σ σ' [a0, a2, b0] [a1, b1, b2] → P 2 σ') : CI l mX12_layWay d [(2, b), (0, 1), (0, 11)] N Λ σ P := by
  have S0 : LwS b σ σ [] [] := ⟨fun _ _ _ => rfl, fun i v hv => by simp at hv, fun i v hv => by simp at hv⟩
  refine c_X12_layWay (v_X12_layWay_0 ?_)
  refine v_X12_layWay_8 hM.1 (M_fnewX hM) (M_frowX hM) ⟨fun _ => ?_, fun hc => absurd (by decide) hc⟩
  refine lw_y hM S0 (by decide) (by decide) rfl (by decide) (hF 0 _ rfl) (x3' := 1) (by decide) (x5' := 0) (by decide) (x6' := 1) (by decide) fun τ1 S1 => ?_
  refine lw_n hM S1 (by decide) (by decide) rfl (by decide) (hF 1 _ rfl) (x4' := 1) (by decide) (x6' := 2) (by decide) fun τ2 S2 => ?_
  refine lw_y hM S2 (by decide) (by decide) rfl (by decide) (hF 2 _ rfl) (x3' := 2) (by decide) (x5' := 1) (by decide) (x6' := 3) (by decide) fun τ3 S3 => ?_
  refine lw_y hM S3 (by decide) (by decide) rfl (by decide) (hF 3 _ rfl) (x3' := 3) (by decide) (x5' := 2) (by decide) (x6' := 4) (by decide) fun τ4 S4 => ?_
  refine v_X12_layWay_36 hM.1 (M_fnewY hM) (M_ffour hM) (M_fnewX hM) ⟨fun _ => ?_, fun hc => absurd (by decide) hc⟩
  refine lw_t hM S4 (by decide) rfl (hY 1 _ rfl) (x6' := 2) (by decide) fun τ5 S5 => ?_
  refine lw_t hM S5 (by decide) rfl (hY 2 _ rfl) (x6' := 3) (by decide) fun τ6 S6 => ?_
  exact v_X12_layWay_106 hM.1 (M_fnewY hM) (M_frowY hM) ⟨fun _ => h _ S6, fun hc => absurd (by decide) hc⟩
theorem lw_1_7 {P : Int → Mem → Prop} {σ : Mem} {a0 a1 a2 b0 b1 b2 : Int} (hM : ModL N Λ b) (hX : At σ (b + 8) [a0, a1, a2]) (hY : At σ (b + 9) [b0, b1, b2]) (hF : At σ (b + 10) [a0, a1, a2, b0]) (h : ∀ σ', LwS b σ σ' [a1, a2, b0] [a0, b1, b2] → P 3 σ') : CI l mX12_layWay d [(2, b), (0, 1), (0, 7)] N Λ σ P := by
  have S0 : LwS b σ σ [] [] := ⟨fun _ _ _ => rfl, fun i v hv => by simp at hv, fun i v hv => by simp at hv⟩
  refine c_X12_layWay (v_X12_layWay_0 ?_)
  refine v_X12_layWay_8 hM.1 (M_fnewX hM) (M_frowX hM) ⟨fun _ => ?_, fun hc => absurd (by decide) hc⟩
  refine lw_n hM S0 (by decide) (by decide) rfl (by decide) (hF 0 _ rfl) (x4' := 1) (by decide) (x6' := 1) (by decide) fun τ1 S1 => ?_
  refine lw_y hM S1 (by decide) (by decide) rfl (by decide) (hF 1 _ rfl) (x3' := 1) (by decide) (x5' := 1) (by decide) (x6' := 2) (by decide) fun τ2 S2 => ?_
  refine lw_y hM S2 (by decide) (by decide) rfl (by decide) (hF 2 _ rfl) (x3' := 2) (by decide) (x5' := 2) (by decide) (x6' := 3) (by decide) fun τ3 S3 => ?_
  refine lw_y hM S3 (by decide) (by decide) rfl (by decide) (hF 3 _ rfl) (x3' := 3) (by decide) (x5' := 3) (by decide) (x6' := 4) (by decide) fun τ4 S4 => ?_
  refine v_X12_layWay_36 hM.1 (M_fnewY hM) (M_ffour hM) (M_fnewX hM) ⟨fun _ => ?_, fun hc => absurd (by decide) hc⟩
  refine lw_t hM S4 (by decide) rfl (hY 1 _ rfl) (x6' := 2) (by decide) fun τ5 S5 => ?_
  refine lw_t hM S5 (by decide) rfl (hY 2 _ rfl) (x6' := 3) (by decide) fun τ6 S6 => ?_
  exact v_X12_layWay_106 hM.1 (M_fnewY hM) (M_frowY hM) ⟨fun _ => h _ S6, fun hc => absurd (by decide) hc⟩
theorem mx_1 {P : Mem → Prop} {σ : Mem} {a0 a1 a2 b0 b1 b2 : Int} (hM : ModL N Λ b) (hd : 4 ≤ d) (A : (0 ≤ a0 ∧ a0 < 10) ∧ (0 ≤ a1 ∧ a1 < 10) ∧ (0 ≤ a2 ∧ a2 < 10) ∧ (0 ≤ b0 ∧ b0 < 10) ∧ (0 ≤ b1 ∧ b1 < 10) ∧ 0 ≤ b2 ∧ b2 < 10) (h8 : σ b 8 = 0) (hr : σ (b + 1) = RkT 120) (hX : At σ (b + 8) [a0, a1, a2]) (hY : At σ (b + 9) [b0, b1, b2]) (hp : σ (b + 6) 0 = 0) (h : ∀ σ' m ts, m ≤ 40 → ts = exR (ways1 a0 a1 a2 b0 b1 b2) [] → Inv m ts → PM σ' b 0 ts → σ' b 5 = σ b 5 → P σ') : CV l mX12_exchanges d [(2, b), (0, 1), (0, 0), (1, 1), (0, 0)] N Λ σ P := by
  refine c_X12_exchanges (v_X12_exchanges_0 ?_)
  refine m4x hM (by decide) (by decide) (by decide) (v := a0) (by exact hX 0 _ rfl) (x6' := 1) (by decide) ?_
  refine m4x hM (by decide) (by decide) (by decide) (v := a1) (by rw [st_ne (by omega)]; exact hX 1 _ rfl) (x6' := 2) (by decide) ?_
  refine m4x hM (by decide) (by decide) (by decide) (v := a2) (by rw [st_ne (by omega), st_ne (by omega)]; exact hX 2 _ rfl) (x6' := 3) (by decide) ?_
  refine m4y hM (by decide) (by decide) (by decide) (v := b0) (by rw [st_ne (by omega), st_ne (by omega), st_ne (by omega)]; exact hY 0 _ rfl) (x6' := 4) (by decide) ?_
  refine v_X12_exchanges_3 hM.1 (M_ffour hM) (M_frowY hM) (M_frowX hM) ⟨fun _ => ?_, fun hc => absurd (by decide) hc⟩
  have hF : At (st (st (st (st (σ) (b + 10) 0 a0) (b + 10) 1 a1) (b + 10) 2 a2) (b + 10) 3 b0) (b + 10) [a0, a1, a2, b0] := (((At.snoc (xs := [a0, a1, a2]) (At.snoc (xs := [a0, a1]) (At.snoc (xs := [a0]) (At.snoc (xs := []) (fun i v hv => by simp at hv) rfl) rfl) rfl) rfl)))
  have nf : ∀ c', c' ≠ b + 10 → (st (st (st (st (σ) (b + 10) 0 a0) (b + 10) 1 a1) (b + 10) 2 a2) (b + 10) 3 b0) c' = σ c' := fun c' g => by rw [st_ne g, st_ne g, st_ne g, st_ne g]
  generalize st (st (st (st (σ) (b + 10) 0 a0) (b + 10) 1 a1) (b + 10) 2 a2) (b + 10) 3 b0 = σf at hF nf ⊢
  have f8 : σf b 8 = 0 := by rw [nf _ (by omega)]; exact h8
  have fr : σf (b + 1) = RkT 120 := by rw [nf _ (by omega)]; exact hr
  have fX := hX.same (nf (b + 8) (by omega))
  have fY := hY.same (nf (b + 9) (by omega))
  have hI0 : MxI σf σf b 0 [] := ⟨⟨Nat.le_refl 0, fun e he => by simp at he⟩, ⟨by rw [nf _ (by omega)]; exact hp, fun i e he => by simp at he⟩, fun _ _ _ _ _ => rfl⟩
  refine mx_skip hM hd f8 hI0 (by decide) (by decide) (x6' := 14) (by decide) ?_
  refine mx_do (tu := 0) ((1 : Int), (a0, a1, a2), b0, b1, b2) hM hd f8 fr fX fY hF hI0 (by decide) (by decide) (x6' := 13) (by decide) (by decide) ⟨Or.inl rfl, ⟨A.1, A.2.1, A.2.2.1⟩, A.2.2.2.1, A.2.2.2.2.1, A.2.2.2.2.2⟩ (Or.inl ⟨by decide, rfl⟩) (fun Q z0 z1 z2 hq => lw_1_14 hM z0 z1 z2 hq) fun σ1 hI1 => ?_
  refine mx_do (tu := 1) ((-1 : Int), (a0, a1, b0), a2, b1, b2) hM hd f8 fr fX fY hF hI1 (by decide) (by decide) (x6' := 12) (by decide) (by decide) ⟨Or.inr rfl, ⟨A.1, A.2.1, A.2.2.2.1⟩, A.2.2.1, A.2.2.2.2.1, A.2.2.2.2.2⟩ (Or.inr ⟨by decide, rfl⟩) (fun Q z0 z1 z2 hq => lw_1_13 hM z0 z1 z2 hq) fun σ2 hI2 => ?_
  refine mx_skip hM hd f8 hI2 (by decide) (by decide) (x6' := 11) (by decide) ?_
  refine mx_do (tu := 2) ((1 : Int), (a0, a2, b0), a1, b1, b2) hM hd f8 fr fX fY hF hI2 (by decide) (by decide) (x6' := 10) (by decide) (by decide) ⟨Or.inl rfl, ⟨A.1, A.2.2.1, A.2.2.2.1⟩, A.2.1, A.2.2.2.2.1, A.2.2.2.2.2⟩ (Or.inl ⟨by decide, rfl⟩) (fun Q z0 z1 z2 hq => lw_1_11 hM z0 z1 z2 hq) fun σ3 hI3 => ?_
  refine mx_skip hM hd f8 hI3 (by decide) (by decide) (x6' := 9) (by decide) ?_
  refine mx_skip hM hd f8 hI3 (by decide) (by decide) (x6' := 8) (by decide) ?_
  refine mx_skip hM hd f8 hI3 (by decide) (by decide) (x6' := 7) (by decide) ?_
  refine mx_do (tu := 3) ((-1 : Int), (a1, a2, b0), a0, b1, b2) hM hd f8 fr fX fY hF hI3 (by decide) (by decide) (x6' := 6) (by decide) (by decide) ⟨Or.inr rfl, ⟨A.2.1, A.2.2.1, A.2.2.2.1⟩, A.1, A.2.2.2.2.1, A.2.2.2.2.2⟩ (Or.inr ⟨by decide, rfl⟩) (fun Q z0 z1 z2 hq => lw_1_7 hM z0 z1 z2 hq) fun σ4 hI4 => ?_
  refine mx_skip hM hd f8 hI4 (by decide) (by decide) (x6' := 5) (by decide) ?_
  refine mx_skip hM hd f8 hI4 (by decide) (by decide) (x6' := 4) (by decide) ?_
  refine mx_skip hM hd f8 hI4 (by decide) (by decide) (x6' := 3) (by decide) ?_
  refine mx_skip hM hd f8 hI4 (by decide) (by decide) (x6' := 2) (by decide) ?_
  refine mx_skip hM hd f8 hI4 (by decide) (by decide) (x6' := 1) (by decide) ?_
  refine mx_skip hM hd f8 hI4 (by decide) (by decide) (x6' := 0) (by decide) ?_
  exact v_X12_exchanges_59 hM.1 (M_frankOf hM) (M_fnewX hM) (M_fnewY hM) (by omega) ⟨fun _ => h _ _ _ (by decide) rfl hI4.1 hI4.2.1 (by rw [hI4.2.2 b (by omega) (by omega) (by omega) (by omega), nf b (by omega)]), fun hc => absurd (by decide) hc⟩
theorem lw_2_12 {P : Int → Mem → Prop} {σ : Mem} {a0 a1 a2 b0 b1 b2 : Int} (hM : ModL N Λ b) (hX : At σ (b + 8) [a0, a1, a2]) (hY : At σ (b + 9) [b0, b1, b2]) (hF : At σ (b + 10) [a1, a2, b0, b1]) (h : ∀ σ', LwS b σ σ' [a0, a1, a2] [b0, b1, b2] → P 0 σ') : CI l mX12_layWay d [(2, b), (0, 2), (0, 12)] N Λ σ P := by
  have S0 : LwS b σ σ [] [] := ⟨fun _ _ _ => rfl, fun i v hv => by simp at hv, fun i v hv => by simp at hv⟩
  refine c_X12_layWay (v_X12_layWay_0 ?_)
  refine lw_a hM S0 (by decide) rfl (by decide) (hX 0 _ rfl) (x3' := 1) (by decide) fun τ1 S1 => ?_
  refine v_X12_layWay_8 hM.1 (M_fnewX hM) (M_frowX hM) ⟨fun _ => ?_, fun hc => absurd (by decide) hc⟩
  refine lw_y hM S1 (by decide) (by decide) rfl (by decide) (hF 0 _ rfl) (x3' := 2) (by decide) (x5' := 0) (by decide) (x6' := 1) (by decide) fun τ2 S2 => ?_
  refine lw_y hM S2 (by decide) (by decide) rfl (by decide) (hF 1 _ rfl) (x3' := 3) (by decide) (x5' := 0) (by decide) (x6' := 2) (by decide) fun τ3 S3 => ?_
  refine lw_n hM S3 (by decide) (by decide) rfl (by decide) (hF 2 _ rfl) (x4' := 1) (by decide) (x6' := 3) (by decide) fun τ4 S4 => ?_
  refine lw_n hM S4 (by decide) (by decide) rfl (by decide) (hF 3 _ rfl) (x4' := 2) (by decide) (x6' := 4) (by decide) fun τ5 S5 => ?_
  refine v_X12_layWay_36 hM.1 (M_fnewY hM) (M_ffour hM) (M_fnewX hM) ⟨fun _ => ?_, fun hc => absurd (by decide) hc⟩
  refine lw_t hM S5 (by decide) rfl (hY 2 _ rfl) (x6' := 3) (by decide) fun τ6 S6 => ?_
  exact v_X12_layWay_106 hM.1 (M_fnewY hM) (M_frowY hM) ⟨fun _ => h _ S6, fun hc => absurd (by decide) hc⟩
theorem lw_2_10 {P : Int → Mem → Prop} {σ : Mem} {a0 a1 a2 b0 b1 b2 : Int} (hM : ModL N Λ b) (hX : At σ (b + 8) [a0, a1, a2]) (hY : At σ (b + 9) [b0, b1, b2]) (hF : At σ (b + 10) [a1, a2, b0, b1]) (h : ∀ σ', LwS b σ σ' [a0, a1, b0] [a2, b1, b2] → P 1 σ') : CI l mX12_layWay d [(2, b), (0, 2), (0, 10)] N Λ σ P := by
  have S0 : LwS b σ σ [] [] := ⟨fun _ _ _ => rfl, fun i v hv => by simp at hv, fun i v hv => by simp at hv⟩
  refine c_X12_layWay (v_X12_layWay_0 ?_)
  refine lw_a hM S0 (by decide) rfl (by decide) (hX 0 _ rfl) (x3' := 1) (by decide) fun τ1 S1 => ?_
  refine v_X12_layWay_8 hM.1 (M_fnewX hM) (M_frowX hM) ⟨fun _ => ?_, fun hc => absurd (by decide) hc⟩
  refine lw_y hM S1 (by decide) (by decide) rfl (by decide) (hF 0 _ rfl) (x3' := 2) (by decide) (x5' := 0) (by decide) (x6' := 1) (by decide) fun τ2 S2 => ?_
  refine lw_n hM S2 (by decide) (by decide) rfl (by decide) (hF 1 _ rfl) (x4' := 1) (by decide) (x6' := 2) (by decide) fun τ3 S3 => ?_
  refine lw_y hM S3 (by decide) (by decide) rfl (by decide) (hF 2 _ rfl) (x3' := 3) (by decide) (x5' := 1) (by decide) (x6' := 3) (by decide) fun τ4 S4 => ?_
  refine lw_n hM S4 (by decide) (by decide) rfl (by decide) (hF 3 _ rfl) (x4' := 2) (by decide) (x6' := 4) (by decide) fun τ5 S5 => ?_
  refine v_X12_layWay_36 hM.1 (M_fnewY hM) (M_ffour hM) (M_fnewX hM) ⟨fun _ => ?_, fun hc => absurd (by decide) hc⟩
  refine lw_t hM S5 (by decide) rfl (hY 2 _ rfl) (x6' := 3) (by decide) fun τ6 S6 => ?_
  exact v_X12_layWay_106 hM.1 (M_fnewY hM) (M_frowY hM) ⟨fun _ => h _ S6, fun hc => absurd (by decide) hc⟩
theorem lw_2_9 {P : Int → Mem → Prop} {σ : Mem} {a0 a1 a2 b0 b1 b2 : Int} (hM : ModL N Λ b) (hX : At σ (b + 8) [a0, a1, a2]) (hY : At σ (b + 9) [b0, b1, b2]) (hF : At σ (b + 10) [a1, a2, b0, b1]) (h : ∀ σ', LwS b σ σ' [a0, a1, b1] [a2, b0, b2] → P 2 σ') : CI l mX12_layWay d [(2, b), (0, 2), (0, 9)] N Λ σ P := by
  have S0 : LwS b σ σ [] [] := ⟨fun _ _ _ => rfl, fun i v hv => by simp at hv, fun i v hv => by simp at hv⟩
  refine c_X12_layWay (v_X12_layWay_0 ?_)
  refine lw_a hM S0 (by decide) rfl (by decide) (hX 0 _ rfl) (x3' := 1) (by decide) fun τ1 S1 => ?_
  refine v_X12_layWay_8 hM.1 (M_fnewX hM) (M_frowX hM) ⟨fun _ => ?_, fun hc => absurd (by decide) hc⟩
  refine lw_y hM S1 (by decide) (by decide) rfl (by decide) (hF 0 _ rfl) (x3' := 2) (by decide) (x5' := 0) (by decide) (x6' := 1) (by decide) fun τ2 S2 => ?_
  refine lw_n hM S2 (by decide) (by decide) rfl (by decide) (hF 1 _ rfl) (x4' := 1) (by decide) (x6' := 2) (by decide) fun τ3 S3 => ?_
  refine lw_n hM S3 (by decide) (by decide) rfl (by decide) (hF 2 _ rfl) (x4' := 2) (by decide) (x6' := 3) (by decide) fun τ4 S4 => ?_
  refine lw_y hM S4 (by decide) (by decide) rfl (by decide) (hF 3 _ rfl) (x3' := 3) (by decide) (x5' := 2) (by decide) (x6' := 4) (by decide) fun τ5 S5 => ?_
  refine v_X12_layWay_36 hM.1 (M_fnewY hM) (M_ffour hM) (M_fnewX hM) ⟨fun _ => ?_, fun hc => absurd (by decide) hc⟩
  refine lw_t hM S5 (by decide) rfl (hY 2 _ rfl) (x6' := 3) (by decide) fun τ6 S6 => ?_
  exact v_X12_layWay_106 hM.1 (M_fnewY hM) (M_frowY hM) ⟨fun _ => h _ S6, fun hc => absurd (by decide) hc⟩
theorem lw_2_6 {P : Int → Mem → Prop} {σ : Mem} {a0 a1 a2 b0 b1 b2 : Int} (hM : ModL N Λ b) (hX : At σ (b + 8) [a0, a1, a2]) (hY : At σ (b + 9) [b0, b1, b2]) (hF : At σ (b + 10) [a1, a2, b0, b1]) (h : ∀ σ', LwS b σ σ' [a0, a2, b0] [a1, b1, b2] → P 2 σ') : CI l mX12_layWay d [(2, b), (0, 2), (0, 6)] N Λ σ P := by
  have S0 : LwS b σ σ [] [] := ⟨fun _ _ _ => rfl, fun i v hv => by simp at hv, fun i v hv => by simp at hv⟩
  refine c_X12_layWay (v_X12_layWay_0 ?_)
  refine lw_a hM S0 (by decide) rfl (by decide) (hX 0 _ rfl) (x3' := 1) (by decide) fun τ1 S1 => ?_
  refine v_X12_layWay_8 hM.1 (M_fnewX hM) (M_frowX hM) ⟨fun _ => ?_, fun hc => absurd (by decide) hc⟩
  refine lw_n hM S1 (by decide) (by decide) rfl (by decide) (hF 0 _ rfl) (x4' := 1) (by decide) (x6' := 1) (by decide) fun τ2 S2 => ?_
  refine lw_y hM S2 (by decide) (by decide) rfl (by decide) (hF 1 _ rfl) (x3' := 2) (by decide) (x5' := 1) (by decide) (x6' := 2) (by decide) fun τ3 S3 => ?_
  refine lw_y hM S3 (by decide) (by decide) rfl (by decide) (hF 2 _ rfl) (x3' := 3) (by decide) (x5' := 2) (by decide) (x6' := 3) (by decide) fun τ4 S4 => ?_
  refine lw_n hM S4 (by decide) (by decide) rfl (by decide) (hF 3 _ rfl) (x4' := 2) (by decide) (x6' := 4) (by decide) fun τ5 S5 => ?_
  refine v_X12_layWay_36 hM.1 (M_fnewY hM) (M_ffour hM) (M_fnewX hM) ⟨fun _ => ?_, fun hc => absurd (by decide) hc⟩
  refine lw_t hM S5 (by decide) rfl (hY 2 _ rfl) (x6' := 3) (by decide) fun τ6 S6 => ?_
  exact v_X12_layWay_106 hM.1 (M_fnewY hM) (M_frowY hM) ⟨fun _ => h _ S6, fun hc => absurd (by decide) hc⟩
theorem lw_2_5 {P : Int → Mem → Prop} {σ : Mem} {a0 a1 a2 b0 b1 b2 : Int} (hM : ModL N Λ b) (hX : At σ (b + 8) [a0, a1, a2]) (hY : At σ (b + 9) [b0, b1, b2]) (hF : At σ (b + 10) [a1, a2, b0, b1]) (h : ∀ σ', LwS b σ σ' [a0, a2, b1] [a1, b0, b2] → P 3 σ') : CI l mX12_layWay d [(2, b), (0, 2), (0, 5)] N Λ σ P := by
  have S0 : LwS b σ σ [] [] := ⟨fun _ _ _ => rfl, fun i v hv => by simp at hv, fun i v hv => by simp at hv⟩
  refine c_X12_layWay (v_X12_layWay_0 ?_)
  refine lw_a hM S0 (by decide) rfl (by decide) (hX 0 _ rfl) (x3' := 1) (by decide) fun τ1 S1 => ?_
  refine v_X12_layWay_8 hM.1 (M_fnewX hM) (M_frowX hM) ⟨fun _ => ?_, fun hc => absurd (by decide) hc⟩
  refine lw_n hM S1 (by decide) (by decide) rfl (by decide) (hF 0 _ rfl) (x4' := 1) (by decide) (x6' := 1) (by decide) fun τ2 S2 => ?_
  refine lw_y hM S2 (by decide) (by decide) rfl (by decide) (hF 1 _ rfl) (x3' := 2) (by decide) (x5' := 1) (by decide) (x6' := 2) (by decide) fun τ3 S3 => ?_
  refine lw_n hM S3 (by decide) (by decide) rfl (by decide) (hF 2 _ rfl) (x4' := 2) (by decide) (x6' := 3) (by decide) fun τ4 S4 => ?_
  refine lw_y hM S4 (by decide) (by decide) rfl (by decide) (hF 3 _ rfl) (x3' := 3) (by decide) (x5' := 3) (by decide) (x6' := 4) (by decide) fun τ5 S5 => ?_
  refine v_X12_layWay_36 hM.1 (M_fnewY hM) (M_ffour hM) (M_fnewX hM) ⟨fun _ => ?_, fun hc => absurd (by decide) hc⟩
  refine lw_t hM S5 (by decide) rfl (hY 2 _ rfl) (x6' := 3) (by decide) fun τ6 S6 => ?_
  exact v_X12_layWay_106 hM.1 (M_fnewY hM) (M_frowY hM) ⟨fun _ => h _ S6, fun hc => absurd (by decide) hc⟩
theorem lw_2_3 {P : Int → Mem → Prop} {σ : Mem} {a0 a1 a2 b0 b1 b2 : Int} (hM : ModL N Λ b) (hX : At σ (b + 8) [a0, a1, a2]) (hY : At σ (b + 9) [b0, b1, b2]) (hF : At σ (b + 10) [a1, a2, b0, b1]) (h : ∀ σ', LwS b σ σ' [a0, b0, b1] [a1, a2, b2] → P 4 σ') : CI l mX12_layWay d [(2, b), (0, 2), (0, 3)] N Λ σ P := by
  have S0 : LwS b σ σ [] [] := ⟨fun _ _ _ => rfl, fun i v hv => by simp at hv, fun i v hv => by simp at hv⟩
  refine c_X12_layWay (v_X12_layWay_0 ?_)
  refine lw_a hM S0 (by decide) rfl (by decide) (hX 0 _ rfl) (x3' := 1) (by decide) fun τ1 S1 => ?_
  refine v_X12_layWay_8 hM.1 (M_fnewX hM) (M_frowX hM) ⟨fun _ => ?_, fun hc => absurd (by decide) hc⟩
  refine lw_n hM S1 (by decide) (by decide) rfl (by decide) (hF 0 _ rfl) (x4' := 1) (by decide) (x6' := 1) (by decide) fun τ2 S2 => ?_
  refine lw_n hM S2 (by decide) (by decide) rfl (by decide) (hF 1 _ rfl) (x4' := 2) (by decide) (x6' := 2) (by decide) fun τ3 S3 => ?_
  refine lw_y hM S3 (by decide) (by decide) rfl (by decide) (hF 2 _ rfl) (x3' := 2) (by decide) (x5' := 2) (by decide) (x6' := 3) (by decide) fun τ4 S4 => ?_
  refine lw_y hM S4 (by decide) (by decide) rfl (by decide) (hF 3 _ rfl) (x3' := 3) (by decide) (x5' := 4) (by decide) (x6' := 4) (by decide) fun τ5 S5 => ?_
  refine v_X12_layWay_36 hM.1 (M_fnewY hM) (M_ffour hM) (M_fnewX hM) ⟨fun _ => ?_, fun hc => absurd (by decide) hc⟩
  refine lw_t hM S5 (by decide) rfl (hY 2 _ rfl) (x6' := 3) (by decide) fun τ6 S6 => ?_
  exact v_X12_layWay_106 hM.1 (M_fnewY hM) (M_frowY hM) ⟨fun _ => h _ S6, fun hc => absurd (by decide) hc⟩
theorem mx_2 {P : Mem → Prop} {σ : Mem} {a0 a1 a2 b0 b1 b2 : Int} (hM : ModL N Λ b) (hd : 4 ≤ d) (A : (0 ≤ a0 ∧ a0 < 10) ∧ (0 ≤ a1 ∧ a1 < 10) ∧ (0 ≤ a2 ∧ a2 < 10) ∧ (0 ≤ b0 ∧ b0 < 10) ∧ (0 ≤ b1 ∧ b1 < 10) ∧ 0 ≤ b2 ∧ b2 < 10) (h8 : σ b 8 = 0) (hr : σ (b + 1) = RkT 120) (hX : At σ (b + 8) [a0, a1, a2]) (hY : At σ (b + 9) [b0, b1, b2]) (hp : σ (b + 6) 0 = 0) (h : ∀ σ' m ts, m ≤ 40 → ts = exR (ways2 a0 a1 a2 b0 b1 b2) [] → Inv m ts → PM σ' b 0 ts → σ' b 5 = σ b 5 → P σ') : CV l mX12_exchanges d [(2, b), (0, 2), (0, 0), (1, 1), (0, 0)] N Λ σ P := by
  refine c_X12_exchanges (v_X12_exchanges_0 ?_)
  refine m4x hM (by decide) (by decide) (by decide) (v := a1) (by exact hX 1 _ rfl) (x6' := 1) (by decide) ?_
  refine m4x hM (by decide) (by decide) (by decide) (v := a2) (by rw [st_ne (by omega)]; exact hX 2 _ rfl) (x6' := 2) (by decide) ?_
  refine m4y hM (by decide) (by decide) (by decide) (v := b0) (by rw [st_ne (by omega), st_ne (by omega)]; exact hY 0 _ rfl) (x6' := 3) (by decide) ?_
  refine m4y hM (by decide) (by decide) (by decide) (v := b1) (by rw [st_ne (by omega), st_ne (by omega), st_ne (by omega)]; exact hY 1 _ rfl) (x6' := 4) (by decide) ?_
  refine v_X12_exchanges_3 hM.1 (M_ffour hM) (M_frowY hM) (M_frowX hM) ⟨fun _ => ?_, fun hc => absurd (by decide) hc⟩
  have hF : At (st (st (st (st (σ) (b + 10) 0 a1) (b + 10) 1 a2) (b + 10) 2 b0) (b + 10) 3 b1) (b + 10) [a1, a2, b0, b1] := (((At.snoc (xs := [a1, a2, b0]) (At.snoc (xs := [a1, a2]) (At.snoc (xs := [a1]) (At.snoc (xs := []) (fun i v hv => by simp at hv) rfl) rfl) rfl) rfl)))
  have nf : ∀ c', c' ≠ b + 10 → (st (st (st (st (σ) (b + 10) 0 a1) (b + 10) 1 a2) (b + 10) 2 b0) (b + 10) 3 b1) c' = σ c' := fun c' g => by rw [st_ne g, st_ne g, st_ne g, st_ne g]
  generalize st (st (st (st (σ) (b + 10) 0 a1) (b + 10) 1 a2) (b + 10) 2 b0) (b + 10) 3 b1 = σf at hF nf ⊢
  have f8 : σf b 8 = 0 := by rw [nf _ (by omega)]; exact h8
  have fr : σf (b + 1) = RkT 120 := by rw [nf _ (by omega)]; exact hr
  have fX := hX.same (nf (b + 8) (by omega))
  have fY := hY.same (nf (b + 9) (by omega))
  have hI0 : MxI σf σf b 0 [] := ⟨⟨Nat.le_refl 0, fun e he => by simp at he⟩, ⟨by rw [nf _ (by omega)]; exact hp, fun i e he => by simp at he⟩, fun _ _ _ _ _ => rfl⟩
  refine mx_skip hM hd f8 hI0 (by decide) (by decide) (x6' := 14) (by decide) ?_
  refine mx_skip hM hd f8 hI0 (by decide) (by decide) (x6' := 13) (by decide) ?_
  refine mx_skip hM hd f8 hI0 (by decide) (by decide) (x6' := 12) (by decide) ?_
  refine mx_do (tu := 0) ((1 : Int), (a0, a1, a2), b0, b1, b2) hM hd f8 fr fX fY hF hI0 (by decide) (by decide) (x6' := 11) (by decide) (by decide) ⟨Or.inl rfl, ⟨A.1, A.2.1, A.2.2.1⟩, A.2.2.2.1, A.2.2.2.2.1, A.2.2.2.2.2⟩ (Or.inl ⟨by decide, rfl⟩) (fun Q z0 z1 z2 hq => lw_2_12 hM z0 z1 z2 hq) fun σ1 hI1 => ?_
  refine mx_skip hM hd f8 hI1 (by decide) (by decide) (x6' := 10) (by decide) ?_
  refine mx_do (tu := 1) ((-1 : Int), (a0, a1, b0), a2, b1, b2) hM hd f8 fr fX fY hF hI1 (by decide) (by decide) (x6' := 9) (by decide) (by decide) ⟨Or.inr rfl, ⟨A.1, A.2.1, A.2.2.2.1⟩, A.2.2.1, A.2.2.2.2.1, A.2.2.2.2.2⟩ (Or.inr ⟨by decide, rfl⟩) (fun Q z0 z1 z2 hq => lw_2_10 hM z0 z1 z2 hq) fun σ2 hI2 => ?_
  refine mx_do (tu := 2) ((1 : Int), (a0, a1, b1), a2, b0, b2) hM hd f8 fr fX fY hF hI2 (by decide) (by decide) (x6' := 8) (by decide) (by decide) ⟨Or.inl rfl, ⟨A.1, A.2.1, A.2.2.2.2.1⟩, A.2.2.1, A.2.2.2.1, A.2.2.2.2.2⟩ (Or.inl ⟨by decide, rfl⟩) (fun Q z0 z1 z2 hq => lw_2_9 hM z0 z1 z2 hq) fun σ3 hI3 => ?_
  refine mx_skip hM hd f8 hI3 (by decide) (by decide) (x6' := 7) (by decide) ?_
  refine mx_skip hM hd f8 hI3 (by decide) (by decide) (x6' := 6) (by decide) ?_
  refine mx_do (tu := 2) ((1 : Int), (a0, a2, b0), a1, b1, b2) hM hd f8 fr fX fY hF hI3 (by decide) (by decide) (x6' := 5) (by decide) (by decide) ⟨Or.inl rfl, ⟨A.1, A.2.2.1, A.2.2.2.1⟩, A.2.1, A.2.2.2.2.1, A.2.2.2.2.2⟩ (Or.inl ⟨by decide, rfl⟩) (fun Q z0 z1 z2 hq => lw_2_6 hM z0 z1 z2 hq) fun σ4 hI4 => ?_
  refine mx_do (tu := 3) ((-1 : Int), (a0, a2, b1), a1, b0, b2) hM hd f8 fr fX fY hF hI4 (by decide) (by decide) (x6' := 4) (by decide) (by decide) ⟨Or.inr rfl, ⟨A.1, A.2.2.1, A.2.2.2.2.1⟩, A.2.1, A.2.2.2.1, A.2.2.2.2.2⟩ (Or.inr ⟨by decide, rfl⟩) (fun Q z0 z1 z2 hq => lw_2_5 hM z0 z1 z2 hq) fun σ5 hI5 => ?_
  refine mx_skip hM hd f8 hI5 (by decide) (by decide) (x6' := 3) (by decide) ?_
  refine mx_do (tu := 4) ((1 : Int), (a0, b0, b1), a1, a2, b2) hM hd f8 fr fX fY hF hI5 (by decide) (by decide) (x6' := 2) (by decide) (by decide) ⟨Or.inl rfl, ⟨A.1, A.2.2.2.1, A.2.2.2.2.1⟩, A.2.1, A.2.2.1, A.2.2.2.2.2⟩ (Or.inl ⟨by decide, rfl⟩) (fun Q z0 z1 z2 hq => lw_2_3 hM z0 z1 z2 hq) fun σ6 hI6 => ?_
  refine mx_skip hM hd f8 hI6 (by decide) (by decide) (x6' := 1) (by decide) ?_
  refine mx_skip hM hd f8 hI6 (by decide) (by decide) (x6' := 0) (by decide) ?_
  exact v_X12_exchanges_59 hM.1 (M_frankOf hM) (M_fnewX hM) (M_fnewY hM) (by omega) ⟨fun _ => h _ _ _ (by decide) rfl hI6.1 hI6.2.1 (by rw [hI6.2.2 b (by omega) (by omega) (by omega) (by omega), nf b (by omega)]), fun hc => absurd (by decide) hc⟩
theorem lw_3_8 {P : Int → Mem → Prop} {σ : Mem} {a0 a1 a2 b0 b1 b2 : Int} (hM : ModL N Λ b) (hX : At σ (b + 8) [a0, a1, a2]) (hY : At σ (b + 9) [b0, b1, b2]) (hF : At σ (b + 10) [a2, b0, b1, b2]) (h : ∀ σ', LwS b σ σ' [a0, a1, a2] [b0, b1, b2] → P 0 σ') : CI l mX12_layWay d [(2, b), (0, 3), (0, 8)] N Λ σ P := by
  have S0 : LwS b σ σ [] [] := ⟨fun _ _ _ => rfl, fun i v hv => by simp at hv, fun i v hv => by simp at hv⟩
  refine c_X12_layWay (v_X12_layWay_0 ?_)
  refine lw_a hM S0 (by decide) rfl (by decide) (hX 0 _ rfl) (x3' := 1) (by decide) fun τ1 S1 => ?_
  refine lw_a hM S1 (by decide) rfl (by decide) (hX 1 _ rfl) (x3' := 2) (by decide) fun τ2 S2 => ?_
  refine v_X12_layWay_8 hM.1 (M_fnewX hM) (M_frowX hM) ⟨fun _ => ?_, fun hc => absurd (by decide) hc⟩
  refine lw_y hM S2 (by decide) (by decide) rfl (by decide) (hF 0 _ rfl) (x3' := 3) (by decide) (x5' := 0) (by decide) (x6' := 1) (by decide) fun τ3 S3 => ?_
  refine lw_n hM S3 (by decide) (by decide) rfl (by decide) (hF 1 _ rfl) (x4' := 1) (by decide) (x6' := 2) (by decide) fun τ4 S4 => ?_
  refine lw_n hM S4 (by decide) (by decide) rfl (by decide) (hF 2 _ rfl) (x4' := 2) (by decide) (x6' := 3) (by decide) fun τ5 S5 => ?_
  refine lw_n hM S5 (by decide) (by decide) rfl (by decide) (hF 3 _ rfl) (x4' := 3) (by decide) (x6' := 4) (by decide) fun τ6 S6 => ?_
  refine v_X12_layWay_36 hM.1 (M_fnewY hM) (M_ffour hM) (M_fnewX hM) ⟨fun _ => ?_, fun hc => absurd (by decide) hc⟩
  exact v_X12_layWay_106 hM.1 (M_fnewY hM) (M_frowY hM) ⟨fun _ => h _ S6, fun hc => absurd (by decide) hc⟩
theorem lw_3_4 {P : Int → Mem → Prop} {σ : Mem} {a0 a1 a2 b0 b1 b2 : Int} (hM : ModL N Λ b) (hX : At σ (b + 8) [a0, a1, a2]) (hY : At σ (b + 9) [b0, b1, b2]) (hF : At σ (b + 10) [a2, b0, b1, b2]) (h : ∀ σ', LwS b σ σ' [a0, a1, b0] [a2, b1, b2] → P 1 σ') : CI l mX12_layWay d [(2, b), (0, 3), (0, 4)] N Λ σ P := by
  have S0 : LwS b σ σ [] [] := ⟨fun _ _ _ => rfl, fun i v hv => by simp at hv, fun i v hv => by simp at hv⟩
  refine c_X12_layWay (v_X12_layWay_0 ?_)
  refine lw_a hM S0 (by decide) rfl (by decide) (hX 0 _ rfl) (x3' := 1) (by decide) fun τ1 S1 => ?_
  refine lw_a hM S1 (by decide) rfl (by decide) (hX 1 _ rfl) (x3' := 2) (by decide) fun τ2 S2 => ?_
  refine v_X12_layWay_8 hM.1 (M_fnewX hM) (M_frowX hM) ⟨fun _ => ?_, fun hc => absurd (by decide) hc⟩
  refine lw_n hM S2 (by decide) (by decide) rfl (by decide) (hF 0 _ rfl) (x4' := 1) (by decide) (x6' := 1) (by decide) fun τ3 S3 => ?_
  refine lw_y hM S3 (by decide) (by decide) rfl (by decide) (hF 1 _ rfl) (x3' := 3) (by decide) (x5' := 1) (by decide) (x6' := 2) (by decide) fun τ4 S4 => ?_
  refine lw_n hM S4 (by decide) (by decide) rfl (by decide) (hF 2 _ rfl) (x4' := 2) (by decide) (x6' := 3) (by decide) fun τ5 S5 => ?_
  refine lw_n hM S5 (by decide) (by decide) rfl (by decide) (hF 3 _ rfl) (x4' := 3) (by decide) (x6' := 4) (by decide) fun τ6 S6 => ?_
  refine v_X12_layWay_36 hM.1 (M_fnewY hM) (M_ffour hM) (M_fnewX hM) ⟨fun _ => ?_, fun hc => absurd (by decide) hc⟩
  exact v_X12_layWay_106 hM.1 (M_fnewY hM) (M_frowY hM) ⟨fun _ => h _ S6, fun hc => absurd (by decide) hc⟩
theorem lw_3_2 {P : Int → Mem → Prop} {σ : Mem} {a0 a1 a2 b0 b1 b2 : Int} (hM : ModL N Λ b) (hX : At σ (b + 8) [a0, a1, a2]) (hY : At σ (b + 9) [b0, b1, b2]) (hF : At σ (b + 10) [a2, b0, b1, b2]) (h : ∀ σ', LwS b σ σ' [a0, a1, b1] [a2, b0, b2] → P 2 σ') : CI l mX12_layWay d [(2, b), (0, 3), (0, 2)] N Λ σ P := by
  have S0 : LwS b σ σ [] [] := ⟨fun _ _ _ => rfl, fun i v hv => by simp at hv, fun i v hv => by simp at hv⟩
  refine c_X12_layWay (v_X12_layWay_0 ?_)
  refine lw_a hM S0 (by decide) rfl (by decide) (hX 0 _ rfl) (x3' := 1) (by decide) fun τ1 S1 => ?_
  refine lw_a hM S1 (by decide) rfl (by decide) (hX 1 _ rfl) (x3' := 2) (by decide) fun τ2 S2 => ?_
  refine v_X12_layWay_8 hM.1 (M_fnewX hM) (M_frowX hM) ⟨fun _ => ?_, fun hc => absurd (by decide) hc⟩
  refine lw_n hM S2 (by decide) (by decide) rfl (by decide) (hF 0 _ rfl) (x4' := 1) (by decide) (x6' := 1) (by decide) fun τ3 S3 => ?_
  refine lw_n hM S3 (by decide) (by decide) rfl (by decide) (hF 1 _ rfl) (x4' := 2) (by decide) (x6' := 2) (by decide) fun τ4 S4 => ?_
  refine lw_y hM S4 (by decide) (by decide) rfl (by decide) (hF 2 _ rfl) (x3' := 3) (by decide) (x5' := 2) (by decide) (x6' := 3) (by decide) fun τ5 S5 => ?_
  refine lw_n hM S5 (by decide) (by decide) rfl (by decide) (hF 3 _ rfl) (x4' := 3) (by decide) (x6' := 4) (by decide) fun τ6 S6 => ?_
  refine v_X12_layWay_36 hM.1 (M_fnewY hM) (M_ffour hM) (M_fnewX hM) ⟨fun _ => ?_, fun hc => absurd (by decide) hc⟩
  exact v_X12_layWay_106 hM.1 (M_fnewY hM) (M_frowY hM) ⟨fun _ => h _ S6, fun hc => absurd (by decide) hc⟩
theorem lw_3_1 {P : Int → Mem → Prop} {σ : Mem} {a0 a1 a2 b0 b1 b2 : Int} (hM : ModL N Λ b) (hX : At σ (b + 8) [a0, a1, a2]) (hY : At σ (b + 9) [b0, b1, b2]) (hF : At σ (b + 10) [a2, b0, b1, b2]) (h : ∀ σ', LwS b σ σ' [a0, a1, b2] [a2, b0, b1] → P 3 σ') : CI l mX12_layWay d [(2, b), (0, 3), (0, 1)] N Λ σ P := by
  have S0 : LwS b σ σ [] [] := ⟨fun _ _ _ => rfl, fun i v hv => by simp at hv, fun i v hv => by simp at hv⟩
  refine c_X12_layWay (v_X12_layWay_0 ?_)
  refine lw_a hM S0 (by decide) rfl (by decide) (hX 0 _ rfl) (x3' := 1) (by decide) fun τ1 S1 => ?_
  refine lw_a hM S1 (by decide) rfl (by decide) (hX 1 _ rfl) (x3' := 2) (by decide) fun τ2 S2 => ?_
  refine v_X12_layWay_8 hM.1 (M_fnewX hM) (M_frowX hM) ⟨fun _ => ?_, fun hc => absurd (by decide) hc⟩
  refine lw_n hM S2 (by decide) (by decide) rfl (by decide) (hF 0 _ rfl) (x4' := 1) (by decide) (x6' := 1) (by decide) fun τ3 S3 => ?_
  refine lw_n hM S3 (by decide) (by decide) rfl (by decide) (hF 1 _ rfl) (x4' := 2) (by decide) (x6' := 2) (by decide) fun τ4 S4 => ?_
  refine lw_n hM S4 (by decide) (by decide) rfl (by decide) (hF 2 _ rfl) (x4' := 3) (by decide) (x6' := 3) (by decide) fun τ5 S5 => ?_
  refine lw_y hM S5 (by decide) (by decide) rfl (by decide) (hF 3 _ rfl) (x3' := 3) (by decide) (x5' := 3) (by decide) (x6' := 4) (by decide) fun τ6 S6 => ?_
  refine v_X12_layWay_36 hM.1 (M_fnewY hM) (M_ffour hM) (M_fnewX hM) ⟨fun _ => ?_, fun hc => absurd (by decide) hc⟩
  exact v_X12_layWay_106 hM.1 (M_fnewY hM) (M_frowY hM) ⟨fun _ => h _ S6, fun hc => absurd (by decide) hc⟩
theorem mx_3 {P : Mem → Prop} {σ : Mem} {a0 a1 a2 b0 b1 b2 : Int} (hM : ModL N Λ b) (hd : 4 ≤ d) (A : (0 ≤ a0 ∧ a0 < 10) ∧ (0 ≤ a1 ∧ a1 < 10) ∧ (0 ≤ a2 ∧ a2 < 10) ∧ (0 ≤ b0 ∧ b0 < 10) ∧ (0 ≤ b1 ∧ b1 < 10) ∧ 0 ≤ b2 ∧ b2 < 10) (h8 : σ b 8 = 0) (hr : σ (b + 1) = RkT 120) (hX : At σ (b + 8) [a0, a1, a2]) (hY : At σ (b + 9) [b0, b1, b2]) (hp : σ (b + 6) 0 = 0) (h : ∀ σ' m ts, m ≤ 40 → ts = exR (ways3 a0 a1 a2 b0 b1 b2) [] → Inv m ts → PM σ' b 0 ts → σ' b 5 = σ b 5 → P σ') : CV l mX12_exchanges d [(2, b), (0, 3), (0, 0), (1, 1), (0, 0)] N Λ σ P := by
  refine c_X12_exchanges (v_X12_exchanges_0 ?_)
  refine m4x hM (by decide) (by decide) (by decide) (v := a2) (by exact hX 2 _ rfl) (x6' := 1) (by decide) ?_
  refine m4y hM (by decide) (by decide) (by decide) (v := b0) (by rw [st_ne (by omega)]; exact hY 0 _ rfl) (x6' := 2) (by decide) ?_
  refine m4y hM (by decide) (by decide) (by decide) (v := b1) (by rw [st_ne (by omega), st_ne (by omega)]; exact hY 1 _ rfl) (x6' := 3) (by decide) ?_
  refine m4y hM (by decide) (by decide) (by decide) (v := b2) (by rw [st_ne (by omega), st_ne (by omega), st_ne (by omega)]; exact hY 2 _ rfl) (x6' := 4) (by decide) ?_
  refine v_X12_exchanges_3 hM.1 (M_ffour hM) (M_frowY hM) (M_frowX hM) ⟨fun _ => ?_, fun hc => absurd (by decide) hc⟩
  have hF : At (st (st (st (st (σ) (b + 10) 0 a2) (b + 10) 1 b0) (b + 10) 2 b1) (b + 10) 3 b2) (b + 10) [a2, b0, b1, b2] := (((At.snoc (xs := [a2, b0, b1]) (At.snoc (xs := [a2, b0]) (At.snoc (xs := [a2]) (At.snoc (xs := []) (fun i v hv => by simp at hv) rfl) rfl) rfl) rfl)))
  have nf : ∀ c', c' ≠ b + 10 → (st (st (st (st (σ) (b + 10) 0 a2) (b + 10) 1 b0) (b + 10) 2 b1) (b + 10) 3 b2) c' = σ c' := fun c' g => by rw [st_ne g, st_ne g, st_ne g, st_ne g]
  generalize st (st (st (st (σ) (b + 10) 0 a2) (b + 10) 1 b0) (b + 10) 2 b1) (b + 10) 3 b2 = σf at hF nf ⊢
  have f8 : σf b 8 = 0 := by rw [nf _ (by omega)]; exact h8
  have fr : σf (b + 1) = RkT 120 := by rw [nf _ (by omega)]; exact hr
  have fX := hX.same (nf (b + 8) (by omega))
  have fY := hY.same (nf (b + 9) (by omega))
  have hI0 : MxI σf σf b 0 [] := ⟨⟨Nat.le_refl 0, fun e he => by simp at he⟩, ⟨by rw [nf _ (by omega)]; exact hp, fun i e he => by simp at he⟩, fun _ _ _ _ _ => rfl⟩
  refine mx_skip hM hd f8 hI0 (by decide) (by decide) (x6' := 14) (by decide) ?_
  refine mx_skip hM hd f8 hI0 (by decide) (by decide) (x6' := 13) (by decide) ?_
  refine mx_skip hM hd f8 hI0 (by decide) (by decide) (x6' := 12) (by decide) ?_
  refine mx_skip hM hd f8 hI0 (by decide) (by decide) (x6' := 11) (by decide) ?_
  refine mx_skip hM hd f8 hI0 (by decide) (by decide) (x6' := 10) (by decide) ?_
  refine mx_skip hM hd f8 hI0 (by decide) (by decide) (x6' := 9) (by decide) ?_
  refine mx_skip hM hd f8 hI0 (by decide) (by decide) (x6' := 8) (by decide) ?_
  refine mx_do (tu := 0) ((1 : Int), (a0, a1, a2), b0, b1, b2) hM hd f8 fr fX fY hF hI0 (by decide) (by decide) (x6' := 7) (by decide) (by decide) ⟨Or.inl rfl, ⟨A.1, A.2.1, A.2.2.1⟩, A.2.2.2.1, A.2.2.2.2.1, A.2.2.2.2.2⟩ (Or.inl ⟨by decide, rfl⟩) (fun Q z0 z1 z2 hq => lw_3_8 hM z0 z1 z2 hq) fun σ1 hI1 => ?_
  refine mx_skip hM hd f8 hI1 (by decide) (by decide) (x6' := 6) (by decide) ?_
  refine mx_skip hM hd f8 hI1 (by decide) (by decide) (x6' := 5) (by decide) ?_
  refine mx_skip hM hd f8 hI1 (by decide) (by decide) (x6' := 4) (by decide) ?_
  refine mx_do (tu := 1) ((-1 : Int), (a0, a1, b0), a2, b1, b2) hM hd f8 fr fX fY hF hI1 (by decide) (by decide) (x6' := 3) (by decide) (by decide) ⟨Or.inr rfl, ⟨A.1, A.2.1, A.2.2.2.1⟩, A.2.2.1, A.2.2.2.2.1, A.2.2.2.2.2⟩ (Or.inr ⟨by decide, rfl⟩) (fun Q z0 z1 z2 hq => lw_3_4 hM z0 z1 z2 hq) fun σ2 hI2 => ?_
  refine mx_skip hM hd f8 hI2 (by decide) (by decide) (x6' := 2) (by decide) ?_
  refine mx_do (tu := 2) ((1 : Int), (a0, a1, b1), a2, b0, b2) hM hd f8 fr fX fY hF hI2 (by decide) (by decide) (x6' := 1) (by decide) (by decide) ⟨Or.inl rfl, ⟨A.1, A.2.1, A.2.2.2.2.1⟩, A.2.2.1, A.2.2.2.1, A.2.2.2.2.2⟩ (Or.inl ⟨by decide, rfl⟩) (fun Q z0 z1 z2 hq => lw_3_2 hM z0 z1 z2 hq) fun σ3 hI3 => ?_
  refine mx_do (tu := 3) ((-1 : Int), (a0, a1, b2), a2, b0, b1) hM hd f8 fr fX fY hF hI3 (by decide) (by decide) (x6' := 0) (by decide) (by decide) ⟨Or.inr rfl, ⟨A.1, A.2.1, A.2.2.2.2.2⟩, A.2.2.1, A.2.2.2.1, A.2.2.2.2.1⟩ (Or.inr ⟨by decide, rfl⟩) (fun Q z0 z1 z2 hq => lw_3_1 hM z0 z1 z2 hq) fun σ4 hI4 => ?_
  exact v_X12_exchanges_59 hM.1 (M_frankOf hM) (M_fnewX hM) (M_fnewY hM) (by omega) ⟨fun _ => h _ _ _ (by decide) rfl hI4.1 hI4.2.1 (by rw [hI4.2.2 b (by omega) (by omega) (by omega) (by omega), nf b (by omega)]), fun hc => absurd (by decide) hc⟩
theorem mx {P : Mem → Prop} {σ : Mem} {a0 a1 a2 b0 b1 b2 k : Int} (hM : ModL N Λ b) (hd : 4 ≤ d) (A : (0 ≤ a0 ∧ a0 < 10) ∧ (0 ≤ a1 ∧ a1 < 10) ∧ (0 ≤ a2 ∧ a2 < 10) ∧ (0 ≤ b0 ∧ b0 < 10) ∧ (0 ≤ b1 ∧ b1 < 10) ∧ 0 ≤ b2 ∧ b2 < 10) (hk : 1 ≤ k ∧ k ≤ 3) (h8 : σ b 8 = 0) (hr : σ (b + 1) = RkT 120) (hX : At σ (b + 8) [a0, a1, a2]) (hY : At σ (b + 9) [b0, b1, b2]) (hp : σ (b + 6) 0 = 0) (h : ∀ σ' m ts, m ≤ 40 → ts = exR (ways k a0 a1 a2 b0 b1 b2) [] → Inv m ts → PM σ' b 0 ts → σ' b 5 = σ b 5 → P σ') : CV l mX12_exchanges d [(2, b), (0, k), (0, 0), (1, 1), (0, 0)] N Λ σ P := by
  have ck : k = 1 ∨ k = 2 ∨ k = 3 := by clear h A; omega
  rcases ck with e | e | e
  · subst e
    exact mx_1 hM hd A h8 hr hX hY hp h
  · subst e
    exact mx_2 hM hd A h8 hr hX hY hp h
  · subst e
    exact mx_3 hM hd A h8 hr hX hY hp h
theorem km_exchange {P : Int → Mem → Prop} {σ : Mem} {s x y k : Int} (hM : ModL N Λ b) (hZ : MZ σ b) (hd : 5 ≤ d) (h : ∀ σ', P (an_ex s x y k) σ') : CI l mX12_exchange d [(2, b), (0, s), (0, x), (0, y), (0, k)] N Λ σ P := by
  refine c_X12_exchange (v_X12_exchange_0 hM.1 (M_fpool hM) (by omega) fun τ1 e1 => ?_)
  simp only [cmpL_lt, cmpL_gt]
  have no : ∀ σ', ¬ (0 ≤ s ∧ s < 6) → P (-2) σ' := fun σ' q => by have := h σ'; rw [an_ex2 q] at this; exact this
  have no3 : ∀ σ', (0 ≤ s ∧ s < 6) → ¬ ((0 ≤ x ∧ x ≤ 999) ∧ (0 ≤ y ∧ y ≤ 999) ∧ 1 ≤ k ∧ k ≤ 3) → P (-3) σ' := fun σ' q q2 => by have := h σ'; rw [an_ex3 q q2] at this; exact this
  refine ⟨fun g => no _ (by omega), fun g1 => ⟨fun g => no _ (by omega), fun g2 => ⟨fun g => no3 _ (by omega) (by omega), fun g3 => ⟨fun g => no3 _ (by omega) (by omega), fun g4 => ⟨fun g => no3 _ (by omega) (by omega), fun g5 => ⟨fun g => no3 _ (by omega) (by omega), fun g6 => ⟨fun g => no3 _ (by omega) (by omega), fun g7 => ⟨fun g => no3 _ (by omega) (by omega), fun g8 τ2 e2 => ⟨ix0 hM, fun τ3 e3 => ?_⟩⟩⟩⟩⟩⟩⟩⟩⟩
  have ye : ∀ σ', P ((exR (ways k (x / 100) (x / 10 % 10) (x % 10) (y / 100) (y / 10 % 10) (y % 10)) []).length : Int) σ' := fun σ' => by have := h σ'; rw [an_exy (by omega) (by omega)] at this; exact this
  clear no no3 h
  have z5 : τ3 b 5 = 0 := by rw [e3, st_ne (by omega), e2, st_nj (by decide)]; exact (hZ.sh e1).2
  have z8 : τ3 b 8 = 0 := by rw [e3, st_ne (by omega), e2, st_eq]
  have zp : τ3 (b + 6) 0 = 0 := by rw [e3, m161_0, st_eq]
  have zr : τ3 (b + 1) = RkT 120 := by rw [e3, st_ne (by omega), e2, st_ne (by omega), e1, st_ne (by omega), hZ.1]
  clear e1 e2 e3 hZ
  have ixX : ∀ j : Int, 0 ≤ j → j < 3 → Ix N Λ (b + 8) 0 j := fun j u0 u1 => Ix.of (M_rowX hM) u0 u1
  have ixY : ∀ j : Int, 0 ≤ j → j < 3 → Ix N Λ (b + 9) 0 j := fun j u0 u1 => Ix.of (M_rowY hM) u0 u1
  have dg : ∀ z : Int, 0 ≤ z → z ≤ 999 → remI (divI z 100) 10 = z / 100 ∧ remI (divI z 10) 10 = z / 10 % 10 ∧ remI (divI z 1) 10 = z % 10 := fun z u0 u1 => by
    rw [divI_e (x := z) (y := 100) (by omega) (by omega) (by decide) (by decide), divI_e (x := z) (y := 10) (by omega) (by omega) (by decide) (by decide), divI_e (x := z) (y := 1) (by omega) (by omega) (by decide) (by decide), Int.ediv_one, remI_e (x := z / 100) (y := 10) (by omega) (by omega) (by decide) (by decide), remI_e (x := z / 10) (y := 10) (by omega) (by omega) (by decide) (by decide), remI_e (x := z) (y := 10) (by omega) (by omega) (by decide) (by decide)]
    omega
  have dx := dg x (by omega) (by omega)
  have dy := dg y (by omega) (by omega)
  clear dg
  have V : ∀ {τ : Mem} {i : Int} {h : _}, WI l mX12_exchange d P 62 [(2, b), (0, s), (0, x), (0, y), (0, k), (0, i), (3, 0)] [] N Λ τ := fun {τ i h} => v_X12_exchange_62 hM.1 (M_fstate hM) (M_fdeeds hM) (M_fpool hM) (M_frowX hM) (M_frowY hM) (by omega) h
  refine V (h := ⟨fun hc => absurd hc (by decide), fun _ => ⟨fun hc => absurd rfl hc, fun _ => ⟨ixX 0 (by decide) (by decide), fun τ4 e4 => ⟨ixY 0 (by decide) (by decide), fun τ5 e5 i6 e6 => ?_⟩⟩⟩⟩)
  rw [show i6 = 1 from e6.trans (by decide)]
  refine V (h := ⟨fun hc => absurd hc (by decide), fun _ => ⟨fun _ => ⟨fun hc => absurd rfl hc, fun _ => ⟨ixX 1 (by decide) (by decide), fun τ7 e7 => ⟨ixY 1 (by decide) (by decide), fun τ8 e8 i9 e9 => ?_⟩⟩⟩, fun hc => absurd hc (by decide)⟩⟩)
  rw [show i9 = 2 from e9.trans (by decide)]
  refine V (h := ⟨fun hc => absurd hc (by decide), fun _ => ⟨fun _ => ⟨fun _ => ⟨ixX 2 (by decide) (by decide), fun τ10 e10 => ⟨ixY 2 (by decide) (by decide), fun τ11 e11 i12 e12 => ?_⟩⟩, fun hc => absurd hc (by decide)⟩, fun hc => absurd hc (by decide)⟩⟩)
  rw [show i12 = 3 from e12.trans (by decide)]
  refine V (h := ⟨fun _ => ?_, fun hc => absurd (by decide) hc⟩)
  rw [dx.1] at e4
  rw [dy.1] at e5
  rw [dx.2.1] at e7
  rw [dy.2.1] at e8
  rw [dx.2.2] at e10
  rw [dy.2.2] at e11
  have n : ∀ c', c' ≠ b + 8 → c' ≠ b + 9 → τ11 c' = τ3 c' := fun c' u0 u1 => by rw [e11, st_ne u1, e10, st_ne u0, e8, st_ne u1, e7, st_ne u0, e5, st_ne u1, e4, st_ne u0]
  have hX : At τ11 (b + 8) [x / 100, x / 10 % 10, x % 10] := by
    have n8 : b + 8 ≠ b + 9 := by omega
    have q1 : At τ5 (b + 8) [x / 100] := At.same (σ := τ4) (by rw [e4]; exact At.snoc (xs := []) (fun i v hv => by simp at hv) rfl) (by rw [e5, st_ne n8])
    have q2 : At τ8 (b + 8) [x / 100, x / 10 % 10] := At.same (σ := τ7) (by rw [e7]; exact At.snoc (xs := [x / 100]) q1 rfl) (by rw [e8, st_ne n8])
    exact At.same (σ := τ10) (by rw [e10]; exact At.snoc (xs := [x / 100, x / 10 % 10]) q2 rfl) (by rw [e11, st_ne n8])
  have hY : At τ11 (b + 9) [y / 100, y / 10 % 10, y % 10] := by
    have n9 : b + 9 ≠ b + 8 := by omega
    have q1 : At τ7 (b + 9) [y / 100] := At.same (σ := τ5) (by rw [e5]; exact At.snoc (xs := []) (fun i v hv => by simp at hv) rfl) (by rw [e7, st_ne n9])
    have q2 : At τ10 (b + 9) [y / 100, y / 10 % 10] := At.same (σ := τ8) (by rw [e8]; exact At.snoc (xs := [y / 100]) q1 rfl) (by rw [e10, st_ne n9])
    rw [e11]
    exact At.snoc (xs := [y / 100, y / 10 % 10]) q2 rfl
  clear e4 e5 e6 e7 e8 e9 e10 e11 e12 dx dy
  refine mx hM (by omega) ⟨by omega, by omega, by omega, by omega, by omega, by omega⟩ (by omega) (by rw [n _ (by omega) (by omega)]; exact z8) (by rw [n _ (by omega) (by omega)]; exact zr) hX hY (by rw [n _ (by omega) (by omega)]; exact zp) fun σ' m ts hm ets hi hpm h5 => ?_
  rw [ets] at hpm
  exact becT hM (by omega) (by rw [h5, n _ (by omega) (by omega)]; exact z5) hpm.1 ye
end MX
