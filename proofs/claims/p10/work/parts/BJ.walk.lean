theorem u_X12_becomes_0 {l : Launch} {d N : Nat} {Λ : Lay} {P : Int → Mem → Prop} {σ : Mem} {x1 t t_pool t_state : Int} (o_t : Ob N Λ t 21 36) (f_t_pool : (Λ t).2.2 7 = t_pool) (f_t_state : (Λ t).2.2 3 = t_state) (h0d : 1 ≤ d)
    (h : (CV l mX12_notes (d - 1) [(2, t)] N Λ σ (fun σ1 => (CV l mX12_copies (d - 1) [(2, t_pool), (0, 0), (2, t_state), (0, (mulI 161 x1)), (0, 161)] N Λ σ1 (fun σ2 => (CI l mX12_many (d - 1) [(2, t), (0, 0)] N Λ σ2 (fun v4 σ3 => P v4 σ3))))))) :
    WI l mX12_becomes d P 0 [(2, t), (0, x1)] [] N Λ σ := by
  have hd_1 : 1 ≤ d := Nat.le_trans (by decide) h0d
  refine r_aload_n (x := t) d_X12_becomes_0 rfl o_t.1 ?_
  refine x_callVV (Y2 := mX12_notes) (c := t) (As := []) (S := []) d_X12_becomes_1 ok_mX12_notes ml_X12_196 rfl (Nat.le_of_ble_eq_true rfl) (Nat.le_of_ble_eq_true rfl) rfl hd_1 kX12 o_t (CV.mono h (fun σ1 h => ?_))
  refine r_aload_n (x := t) d_X12_becomes_4 rfl o_t.1 ?_
  refine r_getf (j := 7) (t := 2) (x := t_pool) d_X12_becomes_5 kX12 (by decide) fl_X12_30 o_t.1 o_t.2.1 o_t.2.2.1 o_t.2.2.2 rfl f_t_pool ?_
  refine r_iconst (x := 0) d_X12_becomes_8 ⟨by decide, by decide⟩ ?_
  refine r_aload_n (x := t) d_X12_becomes_9 rfl o_t.1 ?_
  refine r_getf (j := 3) (t := 2) (x := t_state) d_X12_becomes_10 kX12 (by decide) fl_X12_20 o_t.1 o_t.2.1 o_t.2.2.1 o_t.2.2.2 rfl f_t_state ?_
  refine r_sipush (x := 161) d_X12_becomes_13 ⟨by decide, by decide⟩ (by decide) ?_
  refine r_iload_n (x := x1) d_X12_becomes_16 rfl ?_
  refine r_imul d_X12_becomes_17 ?_
  refine r_sipush (x := 161) d_X12_becomes_18 ⟨by decide, by decide⟩ (by decide) ?_
  refine x_callSV (Y2 := mX12_copies) (As := [(2, t_pool), (0, 0), (2, t_state), (0, (mulI 161 x1)), (0, 161)]) (S := []) d_X12_becomes_21 ok_mX12_copies ml_X12_98 rfl (Nat.le_of_ble_eq_true rfl) (Nat.le_of_ble_eq_true rfl) rfl hd_1 (CV.mono h (fun σ2 h => ?_))
  refine r_aload_n (x := t) d_X12_becomes_24 rfl o_t.1 ?_
  refine r_iconst (x := 0) d_X12_becomes_25 ⟨by decide, by decide⟩ ?_
  refine x_callVI (Y2 := mX12_many) (c := t) (As := [(0, 0)]) (S := []) d_X12_becomes_26 ok_mX12_many ml_X12_113 rfl (Nat.le_of_ble_eq_true rfl) (Nat.le_of_ble_eq_true rfl) rfl hd_1 kX12 o_t (CI.mono h (fun v4 σ3 h => ?_))
  exact r_iret d_X12_becomes_29 rfl rfl (Nat.le_refl 0) (Nat.le_refl 0) ⟨_, rfl, rfl, rfl, h⟩
theorem u_X12_ends_0 {l : Launch} {d N : Nat} {Λ : Lay} {P : Int → Mem → Prop} {σ : Mem} {x1 t : Int} (o_t : Ob N Λ t 21 36) (h0d : 1 ≤ d)
    (h : (∀ τ1, τ1 = st σ t 16 (σ t 8) → ((¬ (τ1 t 8) = 0 → (CI l mX12_codeOf (d - 1) [(2, t), (0, (τ1 t 8))] N Λ τ1 (fun v3 σ2 => P v3 σ2))) ∧ ((τ1 t 8) = 0 → (CI l mX12_becomes (d - 1) [(2, t), (0, x1)] N Λ τ1 (fun v5 σ4 => P v5 σ4)))))) :
    WI l mX12_ends d P 0 [(2, t), (0, x1)] [] N Λ σ := by
  have hd_1 : 1 ≤ d := Nat.le_trans (by decide) h0d
  refine r_aload_n (x := t) d_X12_ends_0 rfl o_t.1 ?_
  refine r_aload_n (x := t) d_X12_ends_1 rfl o_t.1 ?_
  refine r_getf (j := 8) (t := 0) (x := (σ t 8)) d_X12_ends_2 kX12 (by decide) fl_X12_102 o_t.1 o_t.2.1 o_t.2.2.1 o_t.2.2.2 rfl rfl ?_
  refine r_putI (j := 16) d_X12_ends_5 kX12 (by decide) fl_X12_187 rfl o_t.1 o_t.2.1 o_t.2.2.1 o_t.2.2.2 rfl ?_
  refine r_nmM (fun τ1 eτ1 => ?_)
  have h := h τ1 eτ1
  refine r_aload_n (x := t) d_X12_ends_8 rfl o_t.1 ?_
  refine r_getf (j := 8) (t := 0) (x := (τ1 t 8)) d_X12_ends_9 kX12 (by decide) fl_X12_102 o_t.1 o_t.2.1 o_t.2.2.1 o_t.2.2.2 rfl rfl ?_
  refine r_if_ne (tgt := 23) d_X12_ends_12 rfl (fun hc => ?_) (fun hc => ?_)
  · have h := h.1 hc
    refine r_aload_n (x := t) d_X12_ends_23 rfl o_t.1 ?_
    refine r_aload_n (x := t) d_X12_ends_24 rfl o_t.1 ?_
    refine r_getf (j := 8) (t := 0) (x := (τ1 t 8)) d_X12_ends_25 kX12 (by decide) fl_X12_102 o_t.1 o_t.2.1 o_t.2.2.1 o_t.2.2.2 rfl rfl ?_
    refine x_callVI (Y2 := mX12_codeOf) (c := t) (As := [(0, (τ1 t 8))]) (S := []) d_X12_ends_28 ok_mX12_codeOf ml_X12_193 rfl (Nat.le_of_ble_eq_true rfl) (Nat.le_of_ble_eq_true rfl) rfl hd_1 kX12 o_t (CI.mono h (fun v3 σ2 h => ?_))
    exact r_iret d_X12_ends_31 rfl rfl (Nat.le_refl 0) (Nat.le_refl 0) ⟨_, rfl, rfl, rfl, h⟩
  · have h := h.2 hc
    refine r_aload_n (x := t) d_X12_ends_15 rfl o_t.1 ?_
    refine r_iload_n (x := x1) d_X12_ends_16 rfl ?_
    refine x_callVI (Y2 := mX12_becomes) (c := t) (As := [(0, x1)]) (S := []) d_X12_ends_17 ok_mX12_becomes ml_X12_190 rfl (Nat.le_of_ble_eq_true rfl) (Nat.le_of_ble_eq_true rfl) rfl hd_1 kX12 o_t (CI.mono h (fun v5 σ4 h => ?_))
    refine r_goto (tgt := 31) d_X12_ends_20 rfl ?_
    exact r_iret d_X12_ends_31 rfl rfl (Nat.le_refl 0) (Nat.le_refl 0) ⟨_, rfl, rfl, rfl, h⟩
theorem u_X12_straightInto_0 {l : Launch} {d N : Nat} {Λ : Lay} {P : Int → Mem → Prop} {σ : Mem} {x1 x2 t : Int} (o_t : Ob N Λ t 21 36) (h0d : 1 ≤ d)
    (h : (CV l mX12_takes (d - 1) [(2, t), (0, x1), (0, x2)] N Λ σ (fun σ1 => (CI l mX12_straightens (d - 1) [(2, t), (0, x2)] N Λ σ1 (fun v3 σ2 => (∀ τ4, τ4 = st σ2 t 24 v3 → (∀ τ5, τ5 = st τ4 t 16 (τ4 t 8) → ((¬ (τ5 t 8) = 0 → (CI l mX12_codeOf (d - 1) [(2, t), (0, (τ5 t 8))] N Λ τ5 (fun v7 σ6 => P v7 σ6))) ∧ ((τ5 t 8) = 0 → P 0 τ5))))))))) :
    WI l mX12_straightInto d P 0 [(2, t), (0, x1), (0, x2)] [] N Λ σ := by
  have hd_1 : 1 ≤ d := Nat.le_trans (by decide) h0d
  refine r_aload_n (x := t) d_X12_straightInto_0 rfl o_t.1 ?_
  refine r_iload_n (x := x1) d_X12_straightInto_1 rfl ?_
  refine r_iload_n (x := x2) d_X12_straightInto_2 rfl ?_
  refine x_callVV (Y2 := mX12_takes) (c := t) (As := [(0, x1), (0, x2)]) (S := []) d_X12_straightInto_3 ok_mX12_takes ml_X12_205 rfl (Nat.le_of_ble_eq_true rfl) (Nat.le_of_ble_eq_true rfl) rfl hd_1 kX12 o_t (CV.mono h (fun σ1 h => ?_))
  refine r_aload_n (x := t) d_X12_straightInto_6 rfl o_t.1 ?_
  refine r_aload_n (x := t) d_X12_straightInto_7 rfl o_t.1 ?_
  refine r_iload_n (x := x2) d_X12_straightInto_8 rfl ?_
  refine x_callVI (Y2 := mX12_straightens) (c := t) (As := [(0, x2)]) (S := [(2, t)]) d_X12_straightInto_9 ok_mX12_straightens ml_X12_241 rfl (Nat.le_of_ble_eq_true rfl) (Nat.le_of_ble_eq_true rfl) rfl hd_1 kX12 o_t (CI.mono h (fun v3 σ2 h => ?_))
  refine r_putI (j := 24) d_X12_straightInto_12 kX12 (by decide) fl_X12_346 rfl o_t.1 o_t.2.1 o_t.2.2.1 o_t.2.2.2 rfl ?_
  refine r_nmM (fun τ4 eτ4 => ?_)
  have h := h τ4 eτ4
  refine r_aload_n (x := t) d_X12_straightInto_15 rfl o_t.1 ?_
  refine r_aload_n (x := t) d_X12_straightInto_16 rfl o_t.1 ?_
  refine r_getf (j := 8) (t := 0) (x := (τ4 t 8)) d_X12_straightInto_17 kX12 (by decide) fl_X12_102 o_t.1 o_t.2.1 o_t.2.2.1 o_t.2.2.2 rfl rfl ?_
  refine r_putI (j := 16) d_X12_straightInto_20 kX12 (by decide) fl_X12_187 rfl o_t.1 o_t.2.1 o_t.2.2.1 o_t.2.2.2 rfl ?_
  refine r_nmM (fun τ5 eτ5 => ?_)
  have h := h τ5 eτ5
  refine r_aload_n (x := t) d_X12_straightInto_23 rfl o_t.1 ?_
  refine r_getf (j := 8) (t := 0) (x := (τ5 t 8)) d_X12_straightInto_24 kX12 (by decide) fl_X12_102 o_t.1 o_t.2.1 o_t.2.2.1 o_t.2.2.2 rfl rfl ?_
  refine r_if_ne (tgt := 34) d_X12_straightInto_27 rfl (fun hc => ?_) (fun hc => ?_)
  · have h := h.1 hc
    refine r_aload_n (x := t) d_X12_straightInto_34 rfl o_t.1 ?_
    refine r_aload_n (x := t) d_X12_straightInto_35 rfl o_t.1 ?_
    refine r_getf (j := 8) (t := 0) (x := (τ5 t 8)) d_X12_straightInto_36 kX12 (by decide) fl_X12_102 o_t.1 o_t.2.1 o_t.2.2.1 o_t.2.2.2 rfl rfl ?_
    refine x_callVI (Y2 := mX12_codeOf) (c := t) (As := [(0, (τ5 t 8))]) (S := []) d_X12_straightInto_39 ok_mX12_codeOf ml_X12_193 rfl (Nat.le_of_ble_eq_true rfl) (Nat.le_of_ble_eq_true rfl) rfl hd_1 kX12 o_t (CI.mono h (fun v7 σ6 h => ?_))
    exact r_iret d_X12_straightInto_42 rfl rfl (Nat.le_refl 0) (Nat.le_refl 0) ⟨_, rfl, rfl, rfl, h⟩
  · have h := h.2 hc
    refine r_iconst (x := 0) d_X12_straightInto_30 ⟨by decide, by decide⟩ ?_
    refine r_goto (tgt := 42) d_X12_straightInto_31 rfl ?_
    exact r_iret d_X12_straightInto_42 rfl rfl (Nat.le_refl 0) (Nat.le_refl 0) ⟨_, rfl, rfl, rfl, h⟩
theorem u_X12_putsTimes_0 {l : Launch} {d N : Nat} {Λ : Lay} {P : Mem → Prop} {σ : Mem} {x1 x2 t : Int} (o_t : Ob N Λ t 21 36) (h0d : 1 ≤ d)
    (h : (CV l mX12_takes (d - 1) [(2, t), (0, x1), (0, 1)] N Λ σ (fun σ1 => WV l mX12_putsTimes d P 8 [(2, t), (0, x1), (0, x2), (0, 0)] [] N Λ σ1))) :
    WV l mX12_putsTimes d P 0 [(2, t), (0, x1), (0, x2), (3, 0)] [] N Λ σ := by
  have hd_1 : 1 ≤ d := Nat.le_trans (by decide) h0d
  refine r_aload_n (x := t) d_X12_putsTimes_0 rfl o_t.1 ?_
  refine r_iload_n (x := x1) d_X12_putsTimes_1 rfl ?_
  refine r_iconst (x := 1) d_X12_putsTimes_2 ⟨by decide, by decide⟩ ?_
  refine x_callVV (Y2 := mX12_takes) (c := t) (As := [(0, x1), (0, 1)]) (S := []) d_X12_putsTimes_3 ok_mX12_takes ml_X12_205 rfl (Nat.le_of_ble_eq_true rfl) (Nat.le_of_ble_eq_true rfl) rfl hd_1 kX12 o_t (CV.mono h (fun σ1 h => ?_))
  refine r_iconst (x := 0) d_X12_putsTimes_6 ⟨by decide, by decide⟩ ?_
  refine r_istore_n (L2 := [(2, t), (0, x1), (0, x2), (0, 0)]) d_X12_putsTimes_7 (by decide) rfl rfl ?_
  exact h
theorem u_X12_putsTimes_8 {l : Launch} {d N : Nat} {Λ : Lay} {P : Mem → Prop} {σ : Mem} {x1 x2 x3 t : Int} (o_t : Ob N Λ t 21 36) (h0d : 1 ≤ d)
    (h : (CI l mX12_many (d - 1) [(2, t), (0, 1)] N Λ σ (fun v2 σ1 => ((v2 ≤ x3 → P σ1) ∧ (¬ (v2 ≤ x3) → (CI l mX12_key (d - 1) [(2, t), (0, 1), (0, x3)] N Λ σ1 (fun v4 σ3 => (CI l mX12_number (d - 1) [(2, t), (0, 1), (0, x3)] N Λ σ3 (fun v6 σ5 => (CI l mX12_puts (d - 1) [(2, t), (0, 0), (0, v4), (1, (mulL x2 v6))] N Λ σ5 (fun v8 σ7 => (∀ y9, y9 = addI x3 1 → WV l mX12_putsTimes d P 8 [(2, t), (0, x1), (0, x2), (0, y9)] [] N Λ σ7)))))))))))) :
    WV l mX12_putsTimes d P 8 [(2, t), (0, x1), (0, x2), (0, x3)] [] N Λ σ := by
  have hd_1 : 1 ≤ d := Nat.le_trans (by decide) h0d
  refine r_iload_n (x := x3) d_X12_putsTimes_8 rfl ?_
  refine r_aload_n (x := t) d_X12_putsTimes_9 rfl o_t.1 ?_
  refine r_iconst (x := 1) d_X12_putsTimes_10 ⟨by decide, by decide⟩ ?_
  refine x_callVI (Y2 := mX12_many) (c := t) (As := [(0, 1)]) (S := [(0, x3)]) d_X12_putsTimes_11 ok_mX12_many ml_X12_113 rfl (Nat.le_of_ble_eq_true rfl) (Nat.le_of_ble_eq_true rfl) rfl hd_1 kX12 o_t (CI.mono h (fun v2 σ1 h => ?_))
  refine r_ic_ge (tgt := 45) d_X12_putsTimes_14 rfl (fun hc => ?_) (fun hc => ?_)
  · have h := h.1 hc
    exact r_vret d_X12_putsTimes_45 rfl (Nat.le_refl 0) (Nat.le_refl 0) ⟨rfl, rfl, rfl, h⟩
  · have h := h.2 hc
    refine r_aload_n (x := t) d_X12_putsTimes_17 rfl o_t.1 ?_
    refine r_iconst (x := 0) d_X12_putsTimes_18 ⟨by decide, by decide⟩ ?_
    refine r_aload_n (x := t) d_X12_putsTimes_19 rfl o_t.1 ?_
    refine r_iconst (x := 1) d_X12_putsTimes_20 ⟨by decide, by decide⟩ ?_
    refine r_iload_n (x := x3) d_X12_putsTimes_21 rfl ?_
    refine x_callVI (Y2 := mX12_key) (c := t) (As := [(0, 1), (0, x3)]) (S := [(0, 0), (2, t)]) d_X12_putsTimes_22 ok_mX12_key ml_X12_117 rfl (Nat.le_of_ble_eq_true rfl) (Nat.le_of_ble_eq_true rfl) rfl hd_1 kX12 o_t (CI.mono h (fun v4 σ3 h => ?_))
    refine r_iload_n (x := x2) d_X12_putsTimes_25 rfl ?_
    refine r_i2l d_X12_putsTimes_26 ?_
    refine r_aload_n (x := t) d_X12_putsTimes_27 rfl o_t.1 ?_
    refine r_iconst (x := 1) d_X12_putsTimes_28 ⟨by decide, by decide⟩ ?_
    refine r_iload_n (x := x3) d_X12_putsTimes_29 rfl ?_
    refine x_callVI (Y2 := mX12_number) (c := t) (As := [(0, 1), (0, x3)]) (S := [(1, x2), (0, v4), (0, 0), (2, t)]) d_X12_putsTimes_30 ok_mX12_number ml_X12_132 rfl (Nat.le_of_ble_eq_true rfl) (Nat.le_of_ble_eq_true rfl) rfl hd_1 kX12 o_t (CI.mono h (fun v6 σ5 h => ?_))
    refine r_i2l d_X12_putsTimes_33 ?_
    refine r_lmul d_X12_putsTimes_34 ?_
    refine x_callVI (Y2 := mX12_puts) (c := t) (As := [(0, 0), (0, v4), (1, (mulL x2 v6))]) (S := []) d_X12_putsTimes_35 ok_mX12_puts ml_X12_147 rfl (Nat.le_of_ble_eq_true rfl) (Nat.le_of_ble_eq_true rfl) rfl hd_1 kX12 o_t (CI.mono h (fun v8 σ7 h => ?_))
    refine r_pop d_X12_putsTimes_38 rfl ?_
    refine x_iinc (x := x3) (L := [(2, t), (0, x1), (0, x2), (0, x3)]) d_X12_putsTimes_39 rfl (by decide) rfl (fun y9 ey9 => ?_)
    have h := h y9 ey9
    show WP _ _ _ _ _ _ _ _ [(2, t), (0, x1), (0, x2), (0, y9)] _ _ _ _
    refine r_goto (tgt := 8) d_X12_putsTimes_42 rfl ?_
    exact h
theorem u_X12_putsOther_0 {l : Launch} {d N : Nat} {Λ : Lay} {P : Mem → Prop} {σ : Mem} {x1 x2 a3 t : Int} (h0d : 1 ≤ d)
    (h : (CI l mX12_degreeOf (d - 1) [(0, x1)] N Λ σ (fun v2 σ1 => WV l mX12_putsOther d P 13 [(2, t), (0, x1), (0, x2), (2, a3), (0, v2), (1, x2), (3, 0), (0, 0), (3, 0), (3, 0)] [] N Λ σ1))) :
    WV l mX12_putsOther d P 0 [(2, t), (0, x1), (0, x2), (2, a3), (3, 0), (3, 0), (3, 0), (3, 0), (3, 0), (3, 0)] [] N Λ σ := by
  have hd_1 : 1 ≤ d := Nat.le_trans (by decide) h0d
  refine r_iload_n (x := x1) d_X12_putsOther_0 rfl ?_
  refine x_callSI (Y2 := mX12_degreeOf) (As := [(0, x1)]) (S := []) d_X12_putsOther_1 ok_mX12_degreeOf ml_X12_138 rfl (Nat.le_of_ble_eq_true rfl) (Nat.le_of_ble_eq_true rfl) rfl hd_1 (CI.mono h (fun v2 σ1 h => ?_))
  refine r_istore (L2 := [(2, t), (0, x1), (0, x2), (2, a3), (0, v2), (3, 0), (3, 0), (3, 0), (3, 0), (3, 0)]) d_X12_putsOther_4 (by decide) rfl rfl ?_
  refine r_iload_n (x := x2) d_X12_putsOther_6 rfl ?_
  refine r_i2l d_X12_putsOther_7 ?_
  refine r_lstore (L2 := [(2, t), (0, x1), (0, x2), (2, a3), (0, v2), (1, x2), (3, 0), (3, 0), (3, 0), (3, 0)]) d_X12_putsOther_8 (by decide) rfl rfl ?_
  refine r_iconst (x := 0) d_X12_putsOther_10 ⟨by decide, by decide⟩ ?_
  refine r_istore (L2 := [(2, t), (0, x1), (0, x2), (2, a3), (0, v2), (1, x2), (3, 0), (0, 0), (3, 0), (3, 0)]) d_X12_putsOther_11 (by decide) rfl rfl ?_
  exact h
theorem u_X12_putsOther_13 {l : Launch} {d N : Nat} {Λ : Lay} {P : Mem → Prop} {σ : Mem} {x1 x2 x4 x5 x7 a3 t t_letterOf t_rankOf t_ranks : Int} (o_t : Ob N Λ t 21 36) (f_t_rankOf : (Λ t).2.2 1 = t_rankOf) (z_a3 : 0 ≤ a3) (f_t_letterOf : (Λ t).2.2 2 = t_letterOf) (f_t_ranks : (Λ t).2.2 9 = t_ranks) (h0d : 1 ≤ d)
    (h : ((x4 ≤ x7 → (CI l mX12_keyOf (d - 1) [(2, t), (0, x4)] N Λ σ (fun v2 σ1 => (CI l mX12_puts (d - 1) [(2, t), (0, 0), (0, v2), (1, x5)] N Λ σ1 (fun v4 σ3 => P σ3))))) ∧ (¬ (x4 ≤ x7) → (CI l mX12_rankIn (d - 1) [(0, x1), (0, x7)] N Λ σ (fun v6 σ5 => (∀ y7, y7 = (mulI 3 v6) → (Ix N Λ t_letterOf 0 y7 ∧ (Ix N Λ a3 0 (σ5 t_letterOf y7) ∧ (Ix N Λ t_letterOf 0 (addI y7 1) ∧ (Ix N Λ a3 0 (σ5 t_letterOf (addI y7 1)) ∧ (Ix N Λ t_letterOf 0 (addI y7 2) ∧ (Ix N Λ a3 0 (σ5 t_letterOf (addI y7 2)) ∧ (Ix N Λ t_rankOf 0 (addI (addI (mulI 100 (σ5 a3 (σ5 t_letterOf y7))) (mulI 10 (σ5 a3 (σ5 t_letterOf (addI y7 1))))) (σ5 a3 (σ5 t_letterOf (addI y7 2)))) ∧ (∀ y8, y8 = (σ5 t_rankOf (addI (addI (mulI 100 (σ5 a3 (σ5 t_letterOf y7))) (mulI 10 (σ5 a3 (σ5 t_letterOf (addI y7 1))))) (σ5 a3 (σ5 t_letterOf (addI y7 2))))) → ((¬ y8 = 0 → ((0 ≤ y8 → ((0 ≤ y8 → (Ix N Λ t_ranks 0 x7 ∧ (∀ τ9, τ9 = st σ5 t_ranks x7 y8 → (∀ y10, y10 = addI x7 1 → WV l mX12_putsOther d P 13 [(2, t), (0, x1), (0, x2), (2, a3), (0, x4), (1, x5), (3, 0), (0, y10), (3, 0), (3, 0)] [] N Λ τ9)))) ∧ (¬ (0 ≤ y8) → (Ix N Λ t_ranks 0 x7 ∧ (∀ τ11, τ11 = st σ5 t_ranks x7 (negI y8) → (∀ y12, y12 = addI x7 1 → WV l mX12_putsOther d P 13 [(2, t), (0, x1), (0, x2), (2, a3), (0, x4), (1, x5), (3, 0), (0, y12), (3, 0), (3, 0)] [] N Λ τ11)))))) ∧ (¬ (0 ≤ y8) → (∀ y13, y13 = (negL x5) → ((0 ≤ y8 → (Ix N Λ t_ranks 0 x7 ∧ (∀ τ14, τ14 = st σ5 t_ranks x7 y8 → (∀ y15, y15 = addI x7 1 → WV l mX12_putsOther d P 13 [(2, t), (0, x1), (0, x2), (2, a3), (0, x4), (1, y13), (3, 0), (0, y15), (3, 0), (3, 0)] [] N Λ τ14)))) ∧ (¬ (0 ≤ y8) → (Ix N Λ t_ranks 0 x7 ∧ (∀ τ16, τ16 = st σ5 t_ranks x7 (negI y8) → (∀ y17, y17 = addI x7 1 → WV l mX12_putsOther d P 13 [(2, t), (0, x1), (0, x2), (2, a3), (0, x4), (1, y13), (3, 0), (0, y17), (3, 0), (3, 0)] [] N Λ τ16))))))))) ∧ (y8 = 0 → P σ5)))))))))))))))) :
    WV l mX12_putsOther d P 13 [(2, t), (0, x1), (0, x2), (2, a3), (0, x4), (1, x5), (3, 0), (0, x7), (3, 0), (3, 0)] [] N Λ σ := by
  have hd_1 : 1 ≤ d := Nat.le_trans (by decide) h0d
  refine r_iload (x := x7) d_X12_putsOther_13 rfl ?_
  refine r_iload (x := x4) d_X12_putsOther_15 rfl ?_
  refine r_ic_ge (tgt := 115) d_X12_putsOther_17 rfl (fun hc => ?_) (fun hc => ?_)
  · have h := h.1 hc
    refine r_aload_n (x := t) d_X12_putsOther_115 rfl o_t.1 ?_
    refine r_iconst (x := 0) d_X12_putsOther_116 ⟨by decide, by decide⟩ ?_
    refine r_aload_n (x := t) d_X12_putsOther_117 rfl o_t.1 ?_
    refine r_iload (x := x4) d_X12_putsOther_118 rfl ?_
    refine x_callVI (Y2 := mX12_keyOf) (c := t) (As := [(0, x4)]) (S := [(0, 0), (2, t)]) d_X12_putsOther_120 ok_mX12_keyOf ml_X12_141 rfl (Nat.le_of_ble_eq_true rfl) (Nat.le_of_ble_eq_true rfl) rfl hd_1 kX12 o_t (CI.mono h (fun v2 σ1 h => ?_))
    refine r_lload (x := x5) d_X12_putsOther_123 rfl ?_
    refine x_callVI (Y2 := mX12_puts) (c := t) (As := [(0, 0), (0, v2), (1, x5)]) (S := []) d_X12_putsOther_125 ok_mX12_puts ml_X12_147 rfl (Nat.le_of_ble_eq_true rfl) (Nat.le_of_ble_eq_true rfl) rfl hd_1 kX12 o_t (CI.mono h (fun v4 σ3 h => ?_))
    refine r_pop d_X12_putsOther_128 rfl ?_
    exact r_vret d_X12_putsOther_129 rfl (Nat.le_refl 0) (Nat.le_refl 0) ⟨rfl, rfl, rfl, h⟩
  · have h := h.2 hc
    refine r_iconst (x := 3) d_X12_putsOther_20 ⟨by decide, by decide⟩ ?_
    refine r_iload_n (x := x1) d_X12_putsOther_21 rfl ?_
    refine r_iload (x := x7) d_X12_putsOther_22 rfl ?_
    refine x_callSI (Y2 := mX12_rankIn) (As := [(0, x1), (0, x7)]) (S := [(0, 3)]) d_X12_putsOther_24 ok_mX12_rankIn ml_X12_135 rfl (Nat.le_of_ble_eq_true rfl) (Nat.le_of_ble_eq_true rfl) rfl hd_1 (CI.mono h (fun v6 σ5 h => ?_))
    refine r_imul d_X12_putsOther_27 ?_
    refine r_nm (fun y7 ey7 => ?_)
    have h := h y7 ey7
    refine r_istore (L2 := [(2, t), (0, x1), (0, x2), (2, a3), (0, x4), (1, x5), (3, 0), (0, x7), (0, y7), (3, 0)]) d_X12_putsOther_28 (by decide) rfl rfl ?_
    refine r_aload_n (x := t) d_X12_putsOther_30 rfl o_t.1 ?_
    refine r_getf (j := 1) (t := 2) (x := t_rankOf) d_X12_putsOther_31 kX12 (by decide) fl_X12_13 o_t.1 o_t.2.1 o_t.2.2.1 o_t.2.2.2 rfl f_t_rankOf ?_
    refine r_bipush (x := 100) d_X12_putsOther_34 ⟨by decide, by decide⟩ (by decide) ?_
    refine r_aload_n (x := a3) d_X12_putsOther_36 rfl z_a3 ?_
    refine r_aload_n (x := t) d_X12_putsOther_37 rfl o_t.1 ?_
    refine r_getf (j := 2) (t := 2) (x := t_letterOf) d_X12_putsOther_38 kX12 (by decide) fl_X12_17 o_t.1 o_t.2.1 o_t.2.2.1 o_t.2.2.2 rfl f_t_letterOf ?_
    refine r_iload (x := y7) d_X12_putsOther_41 rfl ?_
    refine x_iald d_X12_putsOther_43 h.1 ?_
    have h := h.2
    refine x_iald d_X12_putsOther_44 h.1 ?_
    have h := h.2
    refine r_imul d_X12_putsOther_45 ?_
    refine r_bipush (x := 10) d_X12_putsOther_46 ⟨by decide, by decide⟩ (by decide) ?_
    refine r_aload_n (x := a3) d_X12_putsOther_48 rfl z_a3 ?_
    refine r_aload_n (x := t) d_X12_putsOther_49 rfl o_t.1 ?_
    refine r_getf (j := 2) (t := 2) (x := t_letterOf) d_X12_putsOther_50 kX12 (by decide) fl_X12_17 o_t.1 o_t.2.1 o_t.2.2.1 o_t.2.2.2 rfl f_t_letterOf ?_
    refine r_iload (x := y7) d_X12_putsOther_53 rfl ?_
    refine r_iconst (x := 1) d_X12_putsOther_55 ⟨by decide, by decide⟩ ?_
    refine r_iadd d_X12_putsOther_56 ?_
    refine x_iald d_X12_putsOther_57 h.1 ?_
    have h := h.2
    refine x_iald d_X12_putsOther_58 h.1 ?_
    have h := h.2
    refine r_imul d_X12_putsOther_59 ?_
    refine r_iadd d_X12_putsOther_60 ?_
    refine r_aload_n (x := a3) d_X12_putsOther_61 rfl z_a3 ?_
    refine r_aload_n (x := t) d_X12_putsOther_62 rfl o_t.1 ?_
    refine r_getf (j := 2) (t := 2) (x := t_letterOf) d_X12_putsOther_63 kX12 (by decide) fl_X12_17 o_t.1 o_t.2.1 o_t.2.2.1 o_t.2.2.2 rfl f_t_letterOf ?_
    refine r_iload (x := y7) d_X12_putsOther_66 rfl ?_
    refine r_iconst (x := 2) d_X12_putsOther_68 ⟨by decide, by decide⟩ ?_
    refine r_iadd d_X12_putsOther_69 ?_
    refine x_iald d_X12_putsOther_70 h.1 ?_
    have h := h.2
    refine x_iald d_X12_putsOther_71 h.1 ?_
    have h := h.2
    refine r_iadd d_X12_putsOther_72 ?_
    refine x_iald d_X12_putsOther_73 h.1 ?_
    have h := h.2
    refine r_nm (fun y8 ey8 => ?_)
    have h := h y8 ey8
    refine r_istore (L2 := [(2, t), (0, x1), (0, x2), (2, a3), (0, x4), (1, x5), (3, 0), (0, x7), (0, y7), (0, y8)]) d_X12_putsOther_74 (by decide) rfl rfl ?_
    refine r_iload (x := y8) d_X12_putsOther_76 rfl ?_
    refine r_if_ne (tgt := 82) d_X12_putsOther_78 rfl (fun hc => ?_) (fun hc => ?_)
    · have h := h.1 hc
      refine r_iload (x := y8) d_X12_putsOther_82 rfl ?_
      refine r_if_ge (tgt := 93) d_X12_putsOther_84 rfl (fun hc => ?_) (fun hc => ?_)
      · have h := h.1 hc
        refine r_lload (x := x5) d_X12_putsOther_93 rfl ?_
        refine r_lstore (L2 := [(2, t), (0, x1), (0, x2), (2, a3), (0, x4), (1, x5), (3, 0), (0, x7), (0, y7), (0, y8)]) d_X12_putsOther_95 (by decide) rfl rfl ?_
        refine r_aload_n (x := t) d_X12_putsOther_97 rfl o_t.1 ?_
        refine r_getf (j := 9) (t := 2) (x := t_ranks) d_X12_putsOther_98 kX12 (by decide) fl_X12_33 o_t.1 o_t.2.1 o_t.2.2.1 o_t.2.2.2 rfl f_t_ranks ?_
        refine r_iload (x := x7) d_X12_putsOther_101 rfl ?_
        refine r_iload (x := y8) d_X12_putsOther_103 rfl ?_
        refine x_callSI (Y2 := mX12_sizeOf) (As := [(0, y8)]) (S := [(0, x7), (2, t_ranks)]) d_X12_putsOther_105 ok_mX12_sizeOf ml_X12_168 rfl (Nat.le_of_ble_eq_true rfl) (Nat.le_of_ble_eq_true rfl) rfl hd_1 (c_X12_sizeOf (v_X12_sizeOf_0 ?_))
        refine ⟨fun hc => ?_, fun hc => ?_⟩
        · have h := h.1 hc
          show WP l mX12_putsOther (rm d 0 0) noX _ 0 0 108 [(2, t), (0, x1), (0, x2), (2, a3), (0, x4), (1, x5), (3, 0), (0, x7), (0, y7), (0, y8)] [(0, y8), (0, x7), (2, t_ranks)] N Λ σ5
          refine x_iast d_X12_putsOther_108 h.1 ?_
          have h := h.2
          refine r_nmM (fun τ9 eτ9 => ?_)
          have h := h τ9 eτ9
          refine x_iinc (x := x7) (L := [(2, t), (0, x1), (0, x2), (2, a3), (0, x4), (1, x5), (3, 0), (0, x7), (0, y7), (0, y8)]) d_X12_putsOther_109 rfl (by decide) rfl (fun y10 ey10 => ?_)
          have h := h y10 ey10
          show WP _ _ _ _ _ _ _ _ [(2, t), (0, x1), (0, x2), (2, a3), (0, x4), (1, x5), (3, 0), (0, y10), (0, y7), (0, y8)] _ _ _ _
          refine r_goto (tgt := 13) d_X12_putsOther_112 rfl ?_
          exact x_mask h ⟨Or.inr rfl, Or.inr rfl, Or.inr rfl, Or.inr rfl, Or.inr rfl, Or.inr rfl, Or.inl rfl, Or.inr rfl, Or.inl rfl, Or.inl rfl, trivial⟩
        · have h := h.2 hc
          show WP l mX12_putsOther (rm d 0 0) noX _ 0 0 108 [(2, t), (0, x1), (0, x2), (2, a3), (0, x4), (1, x5), (3, 0), (0, x7), (0, y7), (0, y8)] [(0, (negI y8)), (0, x7), (2, t_ranks)] N Λ σ5
          refine x_iast d_X12_putsOther_108 h.1 ?_
          have h := h.2
          refine r_nmM (fun τ11 eτ11 => ?_)
          have h := h τ11 eτ11
          refine x_iinc (x := x7) (L := [(2, t), (0, x1), (0, x2), (2, a3), (0, x4), (1, x5), (3, 0), (0, x7), (0, y7), (0, y8)]) d_X12_putsOther_109 rfl (by decide) rfl (fun y12 ey12 => ?_)
          have h := h y12 ey12
          show WP _ _ _ _ _ _ _ _ [(2, t), (0, x1), (0, x2), (2, a3), (0, x4), (1, x5), (3, 0), (0, y12), (0, y7), (0, y8)] _ _ _ _
          refine r_goto (tgt := 13) d_X12_putsOther_112 rfl ?_
          exact x_mask h ⟨Or.inr rfl, Or.inr rfl, Or.inr rfl, Or.inr rfl, Or.inr rfl, Or.inr rfl, Or.inl rfl, Or.inr rfl, Or.inl rfl, Or.inl rfl, trivial⟩
      · have h := h.2 hc
        refine r_lload (x := x5) d_X12_putsOther_87 rfl ?_
        refine r_lneg d_X12_putsOther_89 ?_
        refine r_goto (tgt := 95) d_X12_putsOther_90 rfl ?_
        refine r_nm (fun y13 ey13 => ?_)
        have h := h y13 ey13
        refine r_lstore (L2 := [(2, t), (0, x1), (0, x2), (2, a3), (0, x4), (1, y13), (3, 0), (0, x7), (0, y7), (0, y8)]) d_X12_putsOther_95 (by decide) rfl rfl ?_
        refine r_aload_n (x := t) d_X12_putsOther_97 rfl o_t.1 ?_
        refine r_getf (j := 9) (t := 2) (x := t_ranks) d_X12_putsOther_98 kX12 (by decide) fl_X12_33 o_t.1 o_t.2.1 o_t.2.2.1 o_t.2.2.2 rfl f_t_ranks ?_
        refine r_iload (x := x7) d_X12_putsOther_101 rfl ?_
        refine r_iload (x := y8) d_X12_putsOther_103 rfl ?_
        refine x_callSI (Y2 := mX12_sizeOf) (As := [(0, y8)]) (S := [(0, x7), (2, t_ranks)]) d_X12_putsOther_105 ok_mX12_sizeOf ml_X12_168 rfl (Nat.le_of_ble_eq_true rfl) (Nat.le_of_ble_eq_true rfl) rfl hd_1 (c_X12_sizeOf (v_X12_sizeOf_0 ?_))
        refine ⟨fun hc => ?_, fun hc => ?_⟩
        · have h := h.1 hc
          show WP l mX12_putsOther (rm d 0 0) noX _ 0 0 108 [(2, t), (0, x1), (0, x2), (2, a3), (0, x4), (1, y13), (3, 0), (0, x7), (0, y7), (0, y8)] [(0, y8), (0, x7), (2, t_ranks)] N Λ σ5
          refine x_iast d_X12_putsOther_108 h.1 ?_
          have h := h.2
          refine r_nmM (fun τ14 eτ14 => ?_)
          have h := h τ14 eτ14
          refine x_iinc (x := x7) (L := [(2, t), (0, x1), (0, x2), (2, a3), (0, x4), (1, y13), (3, 0), (0, x7), (0, y7), (0, y8)]) d_X12_putsOther_109 rfl (by decide) rfl (fun y15 ey15 => ?_)
          have h := h y15 ey15
          show WP _ _ _ _ _ _ _ _ [(2, t), (0, x1), (0, x2), (2, a3), (0, x4), (1, y13), (3, 0), (0, y15), (0, y7), (0, y8)] _ _ _ _
          refine r_goto (tgt := 13) d_X12_putsOther_112 rfl ?_
          exact x_mask h ⟨Or.inr rfl, Or.inr rfl, Or.inr rfl, Or.inr rfl, Or.inr rfl, Or.inr rfl, Or.inl rfl, Or.inr rfl, Or.inl rfl, Or.inl rfl, trivial⟩
        · have h := h.2 hc
          show WP l mX12_putsOther (rm d 0 0) noX _ 0 0 108 [(2, t), (0, x1), (0, x2), (2, a3), (0, x4), (1, y13), (3, 0), (0, x7), (0, y7), (0, y8)] [(0, (negI y8)), (0, x7), (2, t_ranks)] N Λ σ5
          refine x_iast d_X12_putsOther_108 h.1 ?_
          have h := h.2
          refine r_nmM (fun τ16 eτ16 => ?_)
          have h := h τ16 eτ16
          refine x_iinc (x := x7) (L := [(2, t), (0, x1), (0, x2), (2, a3), (0, x4), (1, y13), (3, 0), (0, x7), (0, y7), (0, y8)]) d_X12_putsOther_109 rfl (by decide) rfl (fun y17 ey17 => ?_)
          have h := h y17 ey17
          show WP _ _ _ _ _ _ _ _ [(2, t), (0, x1), (0, x2), (2, a3), (0, x4), (1, y13), (3, 0), (0, y17), (0, y7), (0, y8)] _ _ _ _
          refine r_goto (tgt := 13) d_X12_putsOther_112 rfl ?_
          exact x_mask h ⟨Or.inr rfl, Or.inr rfl, Or.inr rfl, Or.inr rfl, Or.inr rfl, Or.inr rfl, Or.inl rfl, Or.inr rfl, Or.inl rfl, Or.inl rfl, trivial⟩
    · have h := h.2 hc
      exact r_vret d_X12_putsOther_81 rfl (Nat.le_refl 0) (Nat.le_refl 0) ⟨rfl, rfl, rfl, h⟩
theorem u_X12_puts__0 {l : Launch} {d N : Nat} {Λ : Lay} {P : Int → Mem → Prop} {σ : Mem} {x1 x2 x3 x4 x5 t : Int} (o_t : Ob N Λ t 21 36) (h0d : 2 ≤ d)
    (h : (((cmpL x1 0) < 0 → (CI l mX12_refused (d - 1) [(2, t), (0, (-2))] N Λ σ (fun v2 σ1 => P v2 σ1))) ∧ (¬ ((cmpL x1 0) < 0) → ((0 < (cmpL x1 5) → (CI l mX12_refused (d - 1) [(2, t), (0, (-2))] N Λ σ (fun v4 σ3 => P v4 σ3))) ∧ (¬ (0 < (cmpL x1 5)) → (((cmpL x2 0) < 0 → (CI l mX12_refused (d - 1) [(2, t), (0, (-2))] N Λ σ (fun v6 σ5 => P v6 σ5))) ∧ (¬ ((cmpL x2 0) < 0) → ((0 < (cmpL x2 5) → (CI l mX12_refused (d - 1) [(2, t), (0, (-2))] N Λ σ (fun v8 σ7 => P v8 σ7))) ∧ (¬ (0 < (cmpL x2 5)) → (((cmpL x3 0) < 0 → (CI l mX12_refused (d - 1) [(2, t), (0, (-2))] N Λ σ (fun v10 σ9 => P v10 σ9))) ∧ (¬ ((cmpL x3 0) < 0) → ((0 < (cmpL x3 9) → (CI l mX12_refused (d - 1) [(2, t), (0, (-2))] N Λ σ (fun v12 σ11 => P v12 σ11))) ∧ (¬ (0 < (cmpL x3 9)) → (((cmpL x4 0) < 0 → (CI l mX12_refused (d - 1) [(2, t), (0, (-2))] N Λ σ (fun v14 σ13 => P v14 σ13))) ∧ (¬ ((cmpL x4 0) < 0) → ((0 < (cmpL x4 9) → (CI l mX12_refused (d - 1) [(2, t), (0, (-2))] N Λ σ (fun v16 σ15 => P v16 σ15))) ∧ (¬ (0 < (cmpL x4 9)) → (CV l mX12_begins (d - 1) [(2, t)] N Λ σ (fun σ17 => (CV l mX12_takes (d - 1) [(2, t), (0, x2), (0, 1)] N Λ σ17 (fun σ18 => WI l mX12_puts_ d P 49 [(2, t), (0, x1), (0, x2), (0, x3), (0, x4), (0, x5), (0, 0)] [] N Λ σ18))))))))))))))))))))) :
    WI l mX12_puts_ d P 0 [(2, t), (0, x1), (0, x2), (0, x3), (0, x4), (0, x5), (3, 0)] [] N Λ σ := by
  have hd_1 : 1 ≤ d := Nat.le_trans (by decide) h0d
  have he_1 : 1 ≤ d - 1 := Nat.le_sub_of_add_le (Nat.le_trans (by decide) h0d)
  refine r_iload_n (x := x1) d_X12_puts__0 rfl ?_
  refine x_callSI (Y2 := mX12_isShelf) (As := [(0, x1)]) (S := []) d_X12_puts__1 ok_mX12_isShelf ml_X12_199 rfl (Nat.le_of_ble_eq_true rfl) (Nat.le_of_ble_eq_true rfl) rfl hd_1 (c_X12_isShelf (v_X12_isShelf_0 he_1 ?_))
  refine ⟨fun hc => ?_, fun hc => ?_⟩
  · have h := h.1 hc
    show WP l mX12_puts_ (rm d 0 0) noX _ 0 0 4 [(2, t), (0, x1), (0, x2), (0, x3), (0, x4), (0, x5), (3, 0)] [(0, 0)] N Λ σ
    refine r_if_eq (tgt := 29) d_X12_puts__4 rfl (fun _ => ?_) (fun hc => absurd hc (by decide))
    refine r_aload_n (x := t) d_X12_puts__29 rfl o_t.1 ?_
    refine r_bipush (x := (-2)) d_X12_puts__30 ⟨by decide, by decide⟩ (by decide) ?_
    refine x_callVI (Y2 := mX12_refused) (c := t) (As := [(0, (-2))]) (S := []) d_X12_puts__32 ok_mX12_refused ml_X12_218 rfl (Nat.le_of_ble_eq_true rfl) (Nat.le_of_ble_eq_true rfl) rfl hd_1 kX12 o_t (CI.mono h (fun v2 σ1 h => ?_))
    exact r_iret d_X12_puts__35 rfl rfl (Nat.le_refl 0) (Nat.le_refl 0) ⟨_, rfl, rfl, rfl, h⟩
  · have h := h.2 hc
    refine ⟨fun hc => ?_, fun hc => ?_⟩
    · have h := h.1 hc
      show WP l mX12_puts_ (rm d 0 0) noX _ 0 0 4 [(2, t), (0, x1), (0, x2), (0, x3), (0, x4), (0, x5), (3, 0)] [(0, 0)] N Λ σ
      refine r_if_eq (tgt := 29) d_X12_puts__4 rfl (fun _ => ?_) (fun hc => absurd hc (by decide))
      refine r_aload_n (x := t) d_X12_puts__29 rfl o_t.1 ?_
      refine r_bipush (x := (-2)) d_X12_puts__30 ⟨by decide, by decide⟩ (by decide) ?_
      refine x_callVI (Y2 := mX12_refused) (c := t) (As := [(0, (-2))]) (S := []) d_X12_puts__32 ok_mX12_refused ml_X12_218 rfl (Nat.le_of_ble_eq_true rfl) (Nat.le_of_ble_eq_true rfl) rfl hd_1 kX12 o_t (CI.mono h (fun v4 σ3 h => ?_))
      exact r_iret d_X12_puts__35 rfl rfl (Nat.le_refl 0) (Nat.le_refl 0) ⟨_, rfl, rfl, rfl, h⟩
    · have h := h.2 hc
      show WP l mX12_puts_ (rm d 0 0) noX _ 0 0 4 [(2, t), (0, x1), (0, x2), (0, x3), (0, x4), (0, x5), (3, 0)] [(0, 1)] N Λ σ
      refine r_if_eq (tgt := 29) d_X12_puts__4 rfl (fun hc => absurd hc (by decide)) (fun _ => ?_)
      refine r_iload_n (x := x2) d_X12_puts__7 rfl ?_
      refine x_callSI (Y2 := mX12_isShelf) (As := [(0, x2)]) (S := []) d_X12_puts__8 ok_mX12_isShelf ml_X12_199 rfl (Nat.le_of_ble_eq_true rfl) (Nat.le_of_ble_eq_true rfl) rfl hd_1 (c_X12_isShelf (v_X12_isShelf_0 he_1 ?_))
      refine ⟨fun hc => ?_, fun hc => ?_⟩
      · have h := h.1 hc
        show WP l mX12_puts_ (rm d 0 0) noX _ 0 0 11 [(2, t), (0, x1), (0, x2), (0, x3), (0, x4), (0, x5), (3, 0)] [(0, 0)] N Λ σ
        refine r_if_eq (tgt := 29) d_X12_puts__11 rfl (fun _ => ?_) (fun hc => absurd hc (by decide))
        refine r_aload_n (x := t) d_X12_puts__29 rfl o_t.1 ?_
        refine r_bipush (x := (-2)) d_X12_puts__30 ⟨by decide, by decide⟩ (by decide) ?_
        refine x_callVI (Y2 := mX12_refused) (c := t) (As := [(0, (-2))]) (S := []) d_X12_puts__32 ok_mX12_refused ml_X12_218 rfl (Nat.le_of_ble_eq_true rfl) (Nat.le_of_ble_eq_true rfl) rfl hd_1 kX12 o_t (CI.mono h (fun v6 σ5 h => ?_))
        exact r_iret d_X12_puts__35 rfl rfl (Nat.le_refl 0) (Nat.le_refl 0) ⟨_, rfl, rfl, rfl, h⟩
      · have h := h.2 hc
        refine ⟨fun hc => ?_, fun hc => ?_⟩
        · have h := h.1 hc
          show WP l mX12_puts_ (rm d 0 0) noX _ 0 0 11 [(2, t), (0, x1), (0, x2), (0, x3), (0, x4), (0, x5), (3, 0)] [(0, 0)] N Λ σ
          refine r_if_eq (tgt := 29) d_X12_puts__11 rfl (fun _ => ?_) (fun hc => absurd hc (by decide))
          refine r_aload_n (x := t) d_X12_puts__29 rfl o_t.1 ?_
          refine r_bipush (x := (-2)) d_X12_puts__30 ⟨by decide, by decide⟩ (by decide) ?_
          refine x_callVI (Y2 := mX12_refused) (c := t) (As := [(0, (-2))]) (S := []) d_X12_puts__32 ok_mX12_refused ml_X12_218 rfl (Nat.le_of_ble_eq_true rfl) (Nat.le_of_ble_eq_true rfl) rfl hd_1 kX12 o_t (CI.mono h (fun v8 σ7 h => ?_))
          exact r_iret d_X12_puts__35 rfl rfl (Nat.le_refl 0) (Nat.le_refl 0) ⟨_, rfl, rfl, rfl, h⟩
        · have h := h.2 hc
          show WP l mX12_puts_ (rm d 0 0) noX _ 0 0 11 [(2, t), (0, x1), (0, x2), (0, x3), (0, x4), (0, x5), (3, 0)] [(0, 1)] N Λ σ
          refine r_if_eq (tgt := 29) d_X12_puts__11 rfl (fun hc => absurd hc (by decide)) (fun _ => ?_)
          refine r_iload_n (x := x3) d_X12_puts__14 rfl ?_
          refine x_callSI (Y2 := mX12_isLetter) (As := [(0, x3)]) (S := []) d_X12_puts__15 ok_mX12_isLetter ml_X12_208 rfl (Nat.le_of_ble_eq_true rfl) (Nat.le_of_ble_eq_true rfl) rfl hd_1 (c_X12_isLetter (v_X12_isLetter_0 he_1 ?_))
          refine ⟨fun hc => ?_, fun hc => ?_⟩
          · have h := h.1 hc
            show WP l mX12_puts_ (rm d 0 0) noX _ 0 0 18 [(2, t), (0, x1), (0, x2), (0, x3), (0, x4), (0, x5), (3, 0)] [(0, 0)] N Λ σ
            refine r_if_eq (tgt := 29) d_X12_puts__18 rfl (fun _ => ?_) (fun hc => absurd hc (by decide))
            refine r_aload_n (x := t) d_X12_puts__29 rfl o_t.1 ?_
            refine r_bipush (x := (-2)) d_X12_puts__30 ⟨by decide, by decide⟩ (by decide) ?_
            refine x_callVI (Y2 := mX12_refused) (c := t) (As := [(0, (-2))]) (S := []) d_X12_puts__32 ok_mX12_refused ml_X12_218 rfl (Nat.le_of_ble_eq_true rfl) (Nat.le_of_ble_eq_true rfl) rfl hd_1 kX12 o_t (CI.mono h (fun v10 σ9 h => ?_))
            exact r_iret d_X12_puts__35 rfl rfl (Nat.le_refl 0) (Nat.le_refl 0) ⟨_, rfl, rfl, rfl, h⟩
          · have h := h.2 hc
            refine ⟨fun hc => ?_, fun hc => ?_⟩
            · have h := h.1 hc
              show WP l mX12_puts_ (rm d 0 0) noX _ 0 0 18 [(2, t), (0, x1), (0, x2), (0, x3), (0, x4), (0, x5), (3, 0)] [(0, 0)] N Λ σ
              refine r_if_eq (tgt := 29) d_X12_puts__18 rfl (fun _ => ?_) (fun hc => absurd hc (by decide))
              refine r_aload_n (x := t) d_X12_puts__29 rfl o_t.1 ?_
              refine r_bipush (x := (-2)) d_X12_puts__30 ⟨by decide, by decide⟩ (by decide) ?_
              refine x_callVI (Y2 := mX12_refused) (c := t) (As := [(0, (-2))]) (S := []) d_X12_puts__32 ok_mX12_refused ml_X12_218 rfl (Nat.le_of_ble_eq_true rfl) (Nat.le_of_ble_eq_true rfl) rfl hd_1 kX12 o_t (CI.mono h (fun v12 σ11 h => ?_))
              exact r_iret d_X12_puts__35 rfl rfl (Nat.le_refl 0) (Nat.le_refl 0) ⟨_, rfl, rfl, rfl, h⟩
            · have h := h.2 hc
              show WP l mX12_puts_ (rm d 0 0) noX _ 0 0 18 [(2, t), (0, x1), (0, x2), (0, x3), (0, x4), (0, x5), (3, 0)] [(0, 1)] N Λ σ
              refine r_if_eq (tgt := 29) d_X12_puts__18 rfl (fun hc => absurd hc (by decide)) (fun _ => ?_)
              refine r_iload (x := x4) d_X12_puts__21 rfl ?_
              refine x_callSI (Y2 := mX12_isLetter) (As := [(0, x4)]) (S := []) d_X12_puts__23 ok_mX12_isLetter ml_X12_208 rfl (Nat.le_of_ble_eq_true rfl) (Nat.le_of_ble_eq_true rfl) rfl hd_1 (c_X12_isLetter (v_X12_isLetter_0 he_1 ?_))
              refine ⟨fun hc => ?_, fun hc => ?_⟩
              · have h := h.1 hc
                show WP l mX12_puts_ (rm d 0 0) noX _ 0 0 26 [(2, t), (0, x1), (0, x2), (0, x3), (0, x4), (0, x5), (3, 0)] [(0, 0)] N Λ σ
                refine r_if_ne (tgt := 36) d_X12_puts__26 rfl (fun hc => absurd hc (by decide)) (fun _ => ?_)
                refine r_aload_n (x := t) d_X12_puts__29 rfl o_t.1 ?_
                refine r_bipush (x := (-2)) d_X12_puts__30 ⟨by decide, by decide⟩ (by decide) ?_
                refine x_callVI (Y2 := mX12_refused) (c := t) (As := [(0, (-2))]) (S := []) d_X12_puts__32 ok_mX12_refused ml_X12_218 rfl (Nat.le_of_ble_eq_true rfl) (Nat.le_of_ble_eq_true rfl) rfl hd_1 kX12 o_t (CI.mono h (fun v14 σ13 h => ?_))
                exact r_iret d_X12_puts__35 rfl rfl (Nat.le_refl 0) (Nat.le_refl 0) ⟨_, rfl, rfl, rfl, h⟩
              · have h := h.2 hc
                refine ⟨fun hc => ?_, fun hc => ?_⟩
                · have h := h.1 hc
                  show WP l mX12_puts_ (rm d 0 0) noX _ 0 0 26 [(2, t), (0, x1), (0, x2), (0, x3), (0, x4), (0, x5), (3, 0)] [(0, 0)] N Λ σ
                  refine r_if_ne (tgt := 36) d_X12_puts__26 rfl (fun hc => absurd hc (by decide)) (fun _ => ?_)
                  refine r_aload_n (x := t) d_X12_puts__29 rfl o_t.1 ?_
                  refine r_bipush (x := (-2)) d_X12_puts__30 ⟨by decide, by decide⟩ (by decide) ?_
                  refine x_callVI (Y2 := mX12_refused) (c := t) (As := [(0, (-2))]) (S := []) d_X12_puts__32 ok_mX12_refused ml_X12_218 rfl (Nat.le_of_ble_eq_true rfl) (Nat.le_of_ble_eq_true rfl) rfl hd_1 kX12 o_t (CI.mono h (fun v16 σ15 h => ?_))
                  exact r_iret d_X12_puts__35 rfl rfl (Nat.le_refl 0) (Nat.le_refl 0) ⟨_, rfl, rfl, rfl, h⟩
                · have h := h.2 hc
                  show WP l mX12_puts_ (rm d 0 0) noX _ 0 0 26 [(2, t), (0, x1), (0, x2), (0, x3), (0, x4), (0, x5), (3, 0)] [(0, 1)] N Λ σ
                  refine r_if_ne (tgt := 36) d_X12_puts__26 rfl (fun _ => ?_) (fun hc => absurd hc (by decide))
                  refine r_aload_n (x := t) d_X12_puts__36 rfl o_t.1 ?_
                  refine x_callVV (Y2 := mX12_begins) (c := t) (As := []) (S := []) d_X12_puts__37 ok_mX12_begins ml_X12_202 rfl (Nat.le_of_ble_eq_true rfl) (Nat.le_of_ble_eq_true rfl) rfl hd_1 kX12 o_t (CV.mono h (fun σ17 h => ?_))
                  refine r_aload_n (x := t) d_X12_puts__40 rfl o_t.1 ?_
                  refine r_iload_n (x := x2) d_X12_puts__41 rfl ?_
                  refine r_iconst (x := 1) d_X12_puts__42 ⟨by decide, by decide⟩ ?_
                  refine x_callVV (Y2 := mX12_takes) (c := t) (As := [(0, x2), (0, 1)]) (S := []) d_X12_puts__43 ok_mX12_takes ml_X12_205 rfl (Nat.le_of_ble_eq_true rfl) (Nat.le_of_ble_eq_true rfl) rfl hd_1 kX12 o_t (CV.mono h (fun σ18 h => ?_))
                  refine r_iconst (x := 0) d_X12_puts__46 ⟨by decide, by decide⟩ ?_
                  refine r_istore (L2 := [(2, t), (0, x1), (0, x2), (0, x3), (0, x4), (0, x5), (0, 0)]) d_X12_puts__47 (by decide) rfl rfl ?_
                  exact h
theorem u_X12_puts__49 {l : Launch} {d N : Nat} {Λ : Lay} {P : Int → Mem → Prop} {σ : Mem} {x1 x2 x3 x4 x5 x6 t t_row : Int} (o_t : Ob N Λ t 21 36) (f_t_row : (Λ t).2.2 17 = t_row)
    (h : ((10 ≤ x6 → WI l mX12_puts_ d P 101 [(2, t), (0, x1), (0, x2), (0, x3), (0, x4), (0, x5), (0, 0)] [] N Λ σ) ∧ (¬ (10 ≤ x6) → ((¬ x6 = x3 → ((x5 = 0 → (Ix N Λ t_row 0 x6 ∧ (∀ τ1, τ1 = st σ t_row x6 x6 → (∀ y2, y2 = addI x6 1 → WI l mX12_puts_ d P 49 [(2, t), (0, x1), (0, x2), (0, x3), (0, x4), (0, x5), (0, y2)] [] N Λ τ1)))) ∧ (¬ (x5 = 0) → ((¬ x6 = x4 → (Ix N Λ t_row 0 x6 ∧ (∀ τ3, τ3 = st σ t_row x6 x6 → (∀ y4, y4 = addI x6 1 → WI l mX12_puts_ d P 49 [(2, t), (0, x1), (0, x2), (0, x3), (0, x4), (0, x5), (0, y4)] [] N Λ τ3)))) ∧ (x6 = x4 → (Ix N Λ t_row 0 x6 ∧ (∀ τ5, τ5 = st σ t_row x6 x3 → (∀ y6, y6 = addI x6 1 → WI l mX12_puts_ d P 49 [(2, t), (0, x1), (0, x2), (0, x3), (0, x4), (0, x5), (0, y6)] [] N Λ τ5)))))))) ∧ (x6 = x3 → (Ix N Λ t_row 0 x6 ∧ (∀ τ7, τ7 = st σ t_row x6 x4 → (∀ y8, y8 = addI x6 1 → WI l mX12_puts_ d P 49 [(2, t), (0, x1), (0, x2), (0, x3), (0, x4), (0, x5), (0, y8)] [] N Λ τ7)))))))) :
    WI l mX12_puts_ d P 49 [(2, t), (0, x1), (0, x2), (0, x3), (0, x4), (0, x5), (0, x6)] [] N Λ σ := by
  refine r_iload (x := x6) d_X12_puts__49 rfl ?_
  refine r_bipush (x := 10) d_X12_puts__51 ⟨by decide, by decide⟩ (by decide) ?_
  refine r_ic_ge (tgt := 98) d_X12_puts__53 rfl (fun hc => ?_) (fun hc => ?_)
  · have h := h.1 hc
    refine r_iconst (x := 0) d_X12_puts__98 ⟨by decide, by decide⟩ ?_
    refine r_istore (L2 := [(2, t), (0, x1), (0, x2), (0, x3), (0, x4), (0, x5), (0, 0)]) d_X12_puts__99 (by decide) rfl rfl ?_
    exact h
  · have h := h.2 hc
    refine r_aload_n (x := t) d_X12_puts__56 rfl o_t.1 ?_
    refine r_getf (j := 17) (t := 2) (x := t_row) d_X12_puts__57 kX12 (by decide) fl_X12_54 o_t.1 o_t.2.1 o_t.2.2.1 o_t.2.2.2 rfl f_t_row ?_
    refine r_iload (x := x6) d_X12_puts__60 rfl ?_
    refine r_iload (x := x6) d_X12_puts__62 rfl ?_
    refine r_iload_n (x := x3) d_X12_puts__64 rfl ?_
    refine r_ic_ne (tgt := 73) d_X12_puts__65 rfl (fun hc => ?_) (fun hc => ?_)
    · have h := h.1 hc
      refine r_iload (x := x5) d_X12_puts__73 rfl ?_
      refine r_if_eq (tgt := 89) d_X12_puts__75 rfl (fun hc => ?_) (fun hc => ?_)
      · have h := h.1 hc
        refine r_iload (x := x6) d_X12_puts__89 rfl ?_
        refine x_iast d_X12_puts__91 h.1 ?_
        have h := h.2
        refine r_nmM (fun τ1 eτ1 => ?_)
        have h := h τ1 eτ1
        refine x_iinc (x := x6) (L := [(2, t), (0, x1), (0, x2), (0, x3), (0, x4), (0, x5), (0, x6)]) d_X12_puts__92 rfl (by decide) rfl (fun y2 ey2 => ?_)
        have h := h y2 ey2
        show WP _ _ _ _ _ _ _ _ [(2, t), (0, x1), (0, x2), (0, x3), (0, x4), (0, x5), (0, y2)] _ _ _ _
        refine r_goto (tgt := 49) d_X12_puts__95 rfl ?_
        exact h
      · have h := h.2 hc
        refine r_iload (x := x6) d_X12_puts__78 rfl ?_
        refine r_iload (x := x4) d_X12_puts__80 rfl ?_
        refine r_ic_ne (tgt := 89) d_X12_puts__82 rfl (fun hc => ?_) (fun hc => ?_)
        · have h := h.1 hc
          refine r_iload (x := x6) d_X12_puts__89 rfl ?_
          refine x_iast d_X12_puts__91 h.1 ?_
          have h := h.2
          refine r_nmM (fun τ3 eτ3 => ?_)
          have h := h τ3 eτ3
          refine x_iinc (x := x6) (L := [(2, t), (0, x1), (0, x2), (0, x3), (0, x4), (0, x5), (0, x6)]) d_X12_puts__92 rfl (by decide) rfl (fun y4 ey4 => ?_)
          have h := h y4 ey4
          show WP _ _ _ _ _ _ _ _ [(2, t), (0, x1), (0, x2), (0, x3), (0, x4), (0, x5), (0, y4)] _ _ _ _
          refine r_goto (tgt := 49) d_X12_puts__95 rfl ?_
          exact h
        · have h := h.2 hc
          refine r_iload_n (x := x3) d_X12_puts__85 rfl ?_
          refine r_goto (tgt := 91) d_X12_puts__86 rfl ?_
          refine x_iast d_X12_puts__91 h.1 ?_
          have h := h.2
          refine r_nmM (fun τ5 eτ5 => ?_)
          have h := h τ5 eτ5
          refine x_iinc (x := x6) (L := [(2, t), (0, x1), (0, x2), (0, x3), (0, x4), (0, x5), (0, x6)]) d_X12_puts__92 rfl (by decide) rfl (fun y6 ey6 => ?_)
          have h := h y6 ey6
          show WP _ _ _ _ _ _ _ _ [(2, t), (0, x1), (0, x2), (0, x3), (0, x4), (0, x5), (0, y6)] _ _ _ _
          refine r_goto (tgt := 49) d_X12_puts__95 rfl ?_
          exact h
    · have h := h.2 hc
      refine r_iload (x := x4) d_X12_puts__68 rfl ?_
      refine r_goto (tgt := 91) d_X12_puts__70 rfl ?_
      refine x_iast d_X12_puts__91 h.1 ?_
      have h := h.2
      refine r_nmM (fun τ7 eτ7 => ?_)
      have h := h τ7 eτ7
      refine x_iinc (x := x6) (L := [(2, t), (0, x1), (0, x2), (0, x3), (0, x4), (0, x5), (0, x6)]) d_X12_puts__92 rfl (by decide) rfl (fun y8 ey8 => ?_)
      have h := h y8 ey8
      show WP _ _ _ _ _ _ _ _ [(2, t), (0, x1), (0, x2), (0, x3), (0, x4), (0, x5), (0, y8)] _ _ _ _
      refine r_goto (tgt := 49) d_X12_puts__95 rfl ?_
      exact h
theorem u_X12_puts__101 {l : Launch} {d N : Nat} {Λ : Lay} {P : Int → Mem → Prop} {σ : Mem} {x1 x2 x3 x4 x5 x6 t t_row : Int} (o_t : Ob N Λ t 21 36) (f_t_row : (Λ t).2.2 17 = t_row) (h0d : 1 ≤ d)
    (h : (CI l mX12_many (d - 1) [(2, t), (0, 1)] N Λ σ (fun v2 σ1 => ((v2 ≤ x6 → (CI l mX12_ends (d - 1) [(2, t), (0, x1)] N Λ σ1 (fun v4 σ3 => P v4 σ3))) ∧ (¬ (v2 ≤ x6) → (CI l mX12_key (d - 1) [(2, t), (0, 1), (0, x6)] N Λ σ1 (fun v6 σ5 => (CI l mX12_number (d - 1) [(2, t), (0, 1), (0, x6)] N Λ σ5 (fun v8 σ7 => (CV l mX12_putsOther (d - 1) [(2, t), (0, v6), (0, v8), (2, t_row)] N Λ σ7 (fun σ9 => (∀ y10, y10 = addI x6 1 → WI l mX12_puts_ d P 101 [(2, t), (0, x1), (0, x2), (0, x3), (0, x4), (0, x5), (0, y10)] [] N Λ σ9)))))))))))) :
    WI l mX12_puts_ d P 101 [(2, t), (0, x1), (0, x2), (0, x3), (0, x4), (0, x5), (0, x6)] [] N Λ σ := by
  have hd_1 : 1 ≤ d := Nat.le_trans (by decide) h0d
  refine r_iload (x := x6) d_X12_puts__101 rfl ?_
  refine r_aload_n (x := t) d_X12_puts__103 rfl o_t.1 ?_
  refine r_iconst (x := 1) d_X12_puts__104 ⟨by decide, by decide⟩ ?_
  refine x_callVI (Y2 := mX12_many) (c := t) (As := [(0, 1)]) (S := [(0, x6)]) d_X12_puts__105 ok_mX12_many ml_X12_113 rfl (Nat.le_of_ble_eq_true rfl) (Nat.le_of_ble_eq_true rfl) rfl hd_1 kX12 o_t (CI.mono h (fun v2 σ1 h => ?_))
  refine r_ic_ge (tgt := 139) d_X12_puts__108 rfl (fun hc => ?_) (fun hc => ?_)
  · have h := h.1 hc
    refine r_aload_n (x := t) d_X12_puts__139 rfl o_t.1 ?_
    refine r_iload_n (x := x1) d_X12_puts__140 rfl ?_
    refine x_callVI (Y2 := mX12_ends) (c := t) (As := [(0, x1)]) (S := []) d_X12_puts__141 ok_mX12_ends ml_X12_228 rfl (Nat.le_of_ble_eq_true rfl) (Nat.le_of_ble_eq_true rfl) rfl hd_1 kX12 o_t (CI.mono h (fun v4 σ3 h => ?_))
    exact r_iret d_X12_puts__144 rfl rfl (Nat.le_refl 0) (Nat.le_refl 0) ⟨_, rfl, rfl, rfl, h⟩
  · have h := h.2 hc
    refine r_aload_n (x := t) d_X12_puts__111 rfl o_t.1 ?_
    refine r_aload_n (x := t) d_X12_puts__112 rfl o_t.1 ?_
    refine r_iconst (x := 1) d_X12_puts__113 ⟨by decide, by decide⟩ ?_
    refine r_iload (x := x6) d_X12_puts__114 rfl ?_
    refine x_callVI (Y2 := mX12_key) (c := t) (As := [(0, 1), (0, x6)]) (S := [(2, t)]) d_X12_puts__116 ok_mX12_key ml_X12_117 rfl (Nat.le_of_ble_eq_true rfl) (Nat.le_of_ble_eq_true rfl) rfl hd_1 kX12 o_t (CI.mono h (fun v6 σ5 h => ?_))
    refine r_aload_n (x := t) d_X12_puts__119 rfl o_t.1 ?_
    refine r_iconst (x := 1) d_X12_puts__120 ⟨by decide, by decide⟩ ?_
    refine r_iload (x := x6) d_X12_puts__121 rfl ?_
    refine x_callVI (Y2 := mX12_number) (c := t) (As := [(0, 1), (0, x6)]) (S := [(0, v6), (2, t)]) d_X12_puts__123 ok_mX12_number ml_X12_132 rfl (Nat.le_of_ble_eq_true rfl) (Nat.le_of_ble_eq_true rfl) rfl hd_1 kX12 o_t (CI.mono h (fun v8 σ7 h => ?_))
    refine r_aload_n (x := t) d_X12_puts__126 rfl o_t.1 ?_
    refine r_getf (j := 17) (t := 2) (x := t_row) d_X12_puts__127 kX12 (by decide) fl_X12_54 o_t.1 o_t.2.1 o_t.2.2.1 o_t.2.2.2 rfl f_t_row ?_
    refine x_callVV (Y2 := mX12_putsOther) (c := t) (As := [(0, v6), (0, v8), (2, t_row)]) (S := []) d_X12_puts__130 ok_mX12_putsOther ml_X12_234 rfl (Nat.le_of_ble_eq_true rfl) (Nat.le_of_ble_eq_true rfl) rfl hd_1 kX12 o_t (CV.mono h (fun σ9 h => ?_))
    refine x_iinc (x := x6) (L := [(2, t), (0, x1), (0, x2), (0, x3), (0, x4), (0, x5), (0, x6)]) d_X12_puts__133 rfl (by decide) rfl (fun y10 ey10 => ?_)
    have h := h y10 ey10
    show WP _ _ _ _ _ _ _ _ [(2, t), (0, x1), (0, x2), (0, x3), (0, x4), (0, x5), (0, y10)] _ _ _ _
    refine r_goto (tgt := 101) d_X12_puts__136 rfl ?_
    exact h
theorem u_X12_reduces_0 {l : Launch} {d N : Nat} {Λ : Lay} {P : Mem → Prop} {σ : Mem} {x1 t : Int} (o_t : Ob N Λ t 21 36) (h0d : 1 ≤ d)
    (h : (CV l mX12_takes (d - 1) [(2, t), (0, x1), (0, 1)] N Λ σ (fun σ1 => WV l mX12_reduces d P 8 [(2, t), (0, x1), (0, 0), (3, 0), (3, 0)] [] N Λ σ1))) :
    WV l mX12_reduces d P 0 [(2, t), (0, x1), (3, 0), (3, 0), (3, 0)] [] N Λ σ := by
  have hd_1 : 1 ≤ d := Nat.le_trans (by decide) h0d
  refine r_aload_n (x := t) d_X12_reduces_0 rfl o_t.1 ?_
  refine r_iload_n (x := x1) d_X12_reduces_1 rfl ?_
  refine r_iconst (x := 1) d_X12_reduces_2 ⟨by decide, by decide⟩ ?_
  refine x_callVV (Y2 := mX12_takes) (c := t) (As := [(0, x1), (0, 1)]) (S := []) d_X12_reduces_3 ok_mX12_takes ml_X12_205 rfl (Nat.le_of_ble_eq_true rfl) (Nat.le_of_ble_eq_true rfl) rfl hd_1 kX12 o_t (CV.mono h (fun σ1 h => ?_))
  refine r_iconst (x := 0) d_X12_reduces_6 ⟨by decide, by decide⟩ ?_
  refine r_istore_n (L2 := [(2, t), (0, x1), (0, 0), (3, 0), (3, 0)]) d_X12_reduces_7 (by decide) rfl rfl ?_
  exact h
theorem u_X12_reduces_8 {l : Launch} {d N : Nat} {Λ : Lay} {P : Mem → Prop} {σ : Mem} {x1 x2 t : Int} (o_t : Ob N Λ t 21 36) (h0d : 1 ≤ d)
    (h : (CI l mX12_many (d - 1) [(2, t), (0, 1)] N Λ σ (fun v2 σ1 => ((v2 ≤ x2 → P σ1) ∧ (¬ (v2 ≤ x2) → WV l mX12_reduces d P 22 [(2, t), (0, x1), (0, x2), (0, 1), (0, 0)] [] N Λ σ1))))) :
    WV l mX12_reduces d P 8 [(2, t), (0, x1), (0, x2), (3, 0), (3, 0)] [] N Λ σ := by
  have hd_1 : 1 ≤ d := Nat.le_trans (by decide) h0d
  refine r_iload_n (x := x2) d_X12_reduces_8 rfl ?_
  refine r_aload_n (x := t) d_X12_reduces_9 rfl o_t.1 ?_
  refine r_iconst (x := 1) d_X12_reduces_10 ⟨by decide, by decide⟩ ?_
  refine x_callVI (Y2 := mX12_many) (c := t) (As := [(0, 1)]) (S := [(0, x2)]) d_X12_reduces_11 ok_mX12_many ml_X12_113 rfl (Nat.le_of_ble_eq_true rfl) (Nat.le_of_ble_eq_true rfl) rfl hd_1 kX12 o_t (CI.mono h (fun v2 σ1 h => ?_))
  refine r_ic_ge (tgt := 99) d_X12_reduces_14 rfl (fun hc => ?_) (fun hc => ?_)
  · have h := h.1 hc
    exact r_vret d_X12_reduces_99 rfl (Nat.le_refl 0) (Nat.le_refl 0) ⟨rfl, rfl, rfl, h⟩
  · have h := h.2 hc
    refine r_iconst (x := 1) d_X12_reduces_17 ⟨by decide, by decide⟩ ?_
    refine r_istore_n (L2 := [(2, t), (0, x1), (0, x2), (0, 1), (3, 0)]) d_X12_reduces_18 (by decide) rfl rfl ?_
    refine r_iconst (x := 0) d_X12_reduces_19 ⟨by decide, by decide⟩ ?_
    refine r_istore (L2 := [(2, t), (0, x1), (0, x2), (0, 1), (0, 0)]) d_X12_reduces_20 (by decide) rfl rfl ?_
    exact h
theorem u_X12_reduces_22 {l : Launch} {d N : Nat} {Λ : Lay} {P : Mem → Prop} {σ : Mem} {x1 x2 x3 x4 t : Int} (o_t : Ob N Λ t 21 36) (h0d : 1 ≤ d)
    (h : (CI l mX12_key (d - 1) [(2, t), (0, 1), (0, x2)] N Λ σ (fun v2 σ1 => (CI l mX12_degreeOf (d - 1) [(0, v2)] N Λ σ1 (fun v4 σ3 => ((v4 ≤ x4 → ((x3 = 0 → (∀ y5, y5 = addI x2 1 → WV l mX12_reduces d P 8 [(2, t), (0, x1), (0, y5), (3, 0), (3, 0)] [] N Λ σ3)) ∧ (¬ (x3 = 0) → (CI l mX12_key (d - 1) [(2, t), (0, 1), (0, x2)] N Λ σ3 (fun v7 σ6 => (CI l mX12_number (d - 1) [(2, t), (0, 1), (0, x2)] N Λ σ6 (fun v9 σ8 => (CI l mX12_puts (d - 1) [(2, t), (0, 0), (0, v7), (1, v9)] N Λ σ8 (fun v11 σ10 => (∀ y12, y12 = addI x2 1 → WV l mX12_reduces d P 8 [(2, t), (0, x1), (0, y12), (3, 0), (3, 0)] [] N Λ σ10)))))))))) ∧ (¬ (v4 ≤ x4) → ((x3 = 0 → (∀ y13, y13 = addI x4 1 → WV l mX12_reduces d P 22 [(2, t), (0, x1), (0, x2), (0, 0), (0, y13)] [] N Λ σ3)) ∧ (¬ (x3 = 0) → (CI l mX12_key (d - 1) [(2, t), (0, 1), (0, x2)] N Λ σ3 (fun v15 σ14 => (CI l mX12_rankIn (d - 1) [(0, v15), (0, x4)] N Λ σ14 (fun v17 σ16 => (CI l mX12_factOf (d - 1) [(2, t), (0, v17)] N Λ σ16 (fun v19 σ18 => ((v19 = 0 → (∀ y20, y20 = addI x4 1 → WV l mX12_reduces d P 22 [(2, t), (0, x1), (0, x2), (0, 0), (0, y20)] [] N Λ σ18)) ∧ (¬ (v19 = 0) → (∀ y21, y21 = addI x4 1 → WV l mX12_reduces d P 22 [(2, t), (0, x1), (0, x2), (0, 1), (0, y21)] [] N Λ σ18)))))))))))))))))) :
    WV l mX12_reduces d P 22 [(2, t), (0, x1), (0, x2), (0, x3), (0, x4)] [] N Λ σ := by
  have hd_1 : 1 ≤ d := Nat.le_trans (by decide) h0d
  refine r_iload (x := x4) d_X12_reduces_22 rfl ?_
  refine r_aload_n (x := t) d_X12_reduces_24 rfl o_t.1 ?_
  refine r_iconst (x := 1) d_X12_reduces_25 ⟨by decide, by decide⟩ ?_
  refine r_iload_n (x := x2) d_X12_reduces_26 rfl ?_
  refine x_callVI (Y2 := mX12_key) (c := t) (As := [(0, 1), (0, x2)]) (S := [(0, x4)]) d_X12_reduces_27 ok_mX12_key ml_X12_117 rfl (Nat.le_of_ble_eq_true rfl) (Nat.le_of_ble_eq_true rfl) rfl hd_1 kX12 o_t (CI.mono h (fun v2 σ1 h => ?_))
  refine x_callSI (Y2 := mX12_degreeOf) (As := [(0, v2)]) (S := [(0, x4)]) d_X12_reduces_30 ok_mX12_degreeOf ml_X12_138 rfl (Nat.le_of_ble_eq_true rfl) (Nat.le_of_ble_eq_true rfl) rfl hd_1 (CI.mono h (fun v4 σ3 h => ?_))
  refine r_ic_ge (tgt := 70) d_X12_reduces_33 rfl (fun hc => ?_) (fun hc => ?_)
  · have h := h.1 hc
    refine r_iload_n (x := x3) d_X12_reduces_70 rfl ?_
    refine r_if_eq (tgt := 93) d_X12_reduces_71 rfl (fun hc => ?_) (fun hc => ?_)
    · have h := h.1 hc
      refine x_iinc (x := x2) (L := [(2, t), (0, x1), (0, x2), (0, x3), (0, x4)]) d_X12_reduces_93 rfl (by decide) rfl (fun y5 ey5 => ?_)
      have h := h y5 ey5
      show WP _ _ _ _ _ _ _ _ [(2, t), (0, x1), (0, y5), (0, x3), (0, x4)] _ _ _ _
      refine r_goto (tgt := 8) d_X12_reduces_96 rfl ?_
      exact x_mask h ⟨Or.inr rfl, Or.inr rfl, Or.inr rfl, Or.inl rfl, Or.inl rfl, trivial⟩
    · have h := h.2 hc
      refine r_aload_n (x := t) d_X12_reduces_74 rfl o_t.1 ?_
      refine r_iconst (x := 0) d_X12_reduces_75 ⟨by decide, by decide⟩ ?_
      refine r_aload_n (x := t) d_X12_reduces_76 rfl o_t.1 ?_
      refine r_iconst (x := 1) d_X12_reduces_77 ⟨by decide, by decide⟩ ?_
      refine r_iload_n (x := x2) d_X12_reduces_78 rfl ?_
      refine x_callVI (Y2 := mX12_key) (c := t) (As := [(0, 1), (0, x2)]) (S := [(0, 0), (2, t)]) d_X12_reduces_79 ok_mX12_key ml_X12_117 rfl (Nat.le_of_ble_eq_true rfl) (Nat.le_of_ble_eq_true rfl) rfl hd_1 kX12 o_t (CI.mono h (fun v7 σ6 h => ?_))
      refine r_aload_n (x := t) d_X12_reduces_82 rfl o_t.1 ?_
      refine r_iconst (x := 1) d_X12_reduces_83 ⟨by decide, by decide⟩ ?_
      refine r_iload_n (x := x2) d_X12_reduces_84 rfl ?_
      refine x_callVI (Y2 := mX12_number) (c := t) (As := [(0, 1), (0, x2)]) (S := [(0, v7), (0, 0), (2, t)]) d_X12_reduces_85 ok_mX12_number ml_X12_132 rfl (Nat.le_of_ble_eq_true rfl) (Nat.le_of_ble_eq_true rfl) rfl hd_1 kX12 o_t (CI.mono h (fun v9 σ8 h => ?_))
      refine r_i2l d_X12_reduces_88 ?_
      refine x_callVI (Y2 := mX12_puts) (c := t) (As := [(0, 0), (0, v7), (1, v9)]) (S := []) d_X12_reduces_89 ok_mX12_puts ml_X12_147 rfl (Nat.le_of_ble_eq_true rfl) (Nat.le_of_ble_eq_true rfl) rfl hd_1 kX12 o_t (CI.mono h (fun v11 σ10 h => ?_))
      refine r_pop d_X12_reduces_92 rfl ?_
      refine x_iinc (x := x2) (L := [(2, t), (0, x1), (0, x2), (0, x3), (0, x4)]) d_X12_reduces_93 rfl (by decide) rfl (fun y12 ey12 => ?_)
      have h := h y12 ey12
      show WP _ _ _ _ _ _ _ _ [(2, t), (0, x1), (0, y12), (0, x3), (0, x4)] _ _ _ _
      refine r_goto (tgt := 8) d_X12_reduces_96 rfl ?_
      exact x_mask h ⟨Or.inr rfl, Or.inr rfl, Or.inr rfl, Or.inl rfl, Or.inl rfl, trivial⟩
  · have h := h.2 hc
    refine r_iload_n (x := x3) d_X12_reduces_36 rfl ?_
    refine r_if_eq (tgt := 62) d_X12_reduces_37 rfl (fun hc => ?_) (fun hc => ?_)
    · have h := h.1 hc
      refine r_iconst (x := 0) d_X12_reduces_62 ⟨by decide, by decide⟩ ?_
      refine r_istore_n (L2 := [(2, t), (0, x1), (0, x2), (0, 0), (0, x4)]) d_X12_reduces_63 (by decide) rfl rfl ?_
      refine x_iinc (x := x4) (L := [(2, t), (0, x1), (0, x2), (0, 0), (0, x4)]) d_X12_reduces_64 rfl (by decide) rfl (fun y13 ey13 => ?_)
      have h := h y13 ey13
      show WP _ _ _ _ _ _ _ _ [(2, t), (0, x1), (0, x2), (0, 0), (0, y13)] _ _ _ _
      refine r_goto (tgt := 22) d_X12_reduces_67 rfl ?_
      exact h
    · have h := h.2 hc
      refine r_aload_n (x := t) d_X12_reduces_40 rfl o_t.1 ?_
      refine r_aload_n (x := t) d_X12_reduces_41 rfl o_t.1 ?_
      refine r_iconst (x := 1) d_X12_reduces_42 ⟨by decide, by decide⟩ ?_
      refine r_iload_n (x := x2) d_X12_reduces_43 rfl ?_
      refine x_callVI (Y2 := mX12_key) (c := t) (As := [(0, 1), (0, x2)]) (S := [(2, t)]) d_X12_reduces_44 ok_mX12_key ml_X12_117 rfl (Nat.le_of_ble_eq_true rfl) (Nat.le_of_ble_eq_true rfl) rfl hd_1 kX12 o_t (CI.mono h (fun v15 σ14 h => ?_))
      refine r_iload (x := x4) d_X12_reduces_47 rfl ?_
      refine x_callSI (Y2 := mX12_rankIn) (As := [(0, v15), (0, x4)]) (S := [(2, t)]) d_X12_reduces_49 ok_mX12_rankIn ml_X12_135 rfl (Nat.le_of_ble_eq_true rfl) (Nat.le_of_ble_eq_true rfl) rfl hd_1 (CI.mono h (fun v17 σ16 h => ?_))
      refine x_callVI (Y2 := mX12_factOf) (c := t) (As := [(0, v17)]) (S := []) d_X12_reduces_52 ok_mX12_factOf ml_X12_244 rfl (Nat.le_of_ble_eq_true rfl) (Nat.le_of_ble_eq_true rfl) rfl hd_1 kX12 o_t (CI.mono h (fun v19 σ18 h => ?_))
      refine r_if_eq (tgt := 62) d_X12_reduces_55 rfl (fun hc => ?_) (fun hc => ?_)
      · have h := h.1 hc
        refine r_iconst (x := 0) d_X12_reduces_62 ⟨by decide, by decide⟩ ?_
        refine r_istore_n (L2 := [(2, t), (0, x1), (0, x2), (0, 0), (0, x4)]) d_X12_reduces_63 (by decide) rfl rfl ?_
        refine x_iinc (x := x4) (L := [(2, t), (0, x1), (0, x2), (0, 0), (0, x4)]) d_X12_reduces_64 rfl (by decide) rfl (fun y20 ey20 => ?_)
        have h := h y20 ey20
        show WP _ _ _ _ _ _ _ _ [(2, t), (0, x1), (0, x2), (0, 0), (0, y20)] _ _ _ _
        refine r_goto (tgt := 22) d_X12_reduces_67 rfl ?_
        exact h
      · have h := h.2 hc
        refine r_iconst (x := 1) d_X12_reduces_58 ⟨by decide, by decide⟩ ?_
        refine r_goto (tgt := 63) d_X12_reduces_59 rfl ?_
        refine r_istore_n (L2 := [(2, t), (0, x1), (0, x2), (0, 1), (0, x4)]) d_X12_reduces_63 (by decide) rfl rfl ?_
        refine x_iinc (x := x4) (L := [(2, t), (0, x1), (0, x2), (0, 1), (0, x4)]) d_X12_reduces_64 rfl (by decide) rfl (fun y21 ey21 => ?_)
        have h := h y21 ey21
        show WP _ _ _ _ _ _ _ _ [(2, t), (0, x1), (0, x2), (0, 1), (0, y21)] _ _ _ _
        refine r_goto (tgt := 22) d_X12_reduces_67 rfl ?_
        exact h
theorem u_X12_areAlike_0 {l : Launch} {d N : Nat} {Λ : Lay} {P : Int → Mem → Prop} {σ : Mem} {x1 x2 t : Int}
    (h : WI l mX12_areAlike d P 2 [(2, t), (0, x1), (0, x2), (0, 0)] [] N Λ σ) :
    WI l mX12_areAlike d P 0 [(2, t), (0, x1), (0, x2), (3, 0)] [] N Λ σ := by
  refine r_iconst (x := 0) d_X12_areAlike_0 ⟨by decide, by decide⟩ ?_
  refine r_istore_n (L2 := [(2, t), (0, x1), (0, x2), (0, 0)]) d_X12_areAlike_1 (by decide) rfl rfl ?_
  exact h
theorem u_X12_areAlike_2 {l : Launch} {d N : Nat} {Λ : Lay} {P : Int → Mem → Prop} {σ : Mem} {x1 x2 x3 t t_pool : Int} (o_t : Ob N Λ t 21 36) (f_t_pool : (Λ t).2.2 7 = t_pool) (h0d : 1 ≤ d)
    (h : (CI l mX12_many (d - 1) [(2, t), (0, x1)] N Λ σ (fun v2 σ1 => (((mulI 2 v2) < x3 → P 1 σ1) ∧ (¬ ((mulI 2 v2) < x3) → (Ix N Λ t_pool 0 (addI (mulI 161 x1) x3) ∧ (Ix N Λ t_pool 0 (addI (mulI 161 x2) x3) ∧ (((σ1 t_pool (addI (mulI 161 x1) x3)) = (σ1 t_pool (addI (mulI 161 x2) x3)) → (∀ y3, y3 = addI x3 1 → WI l mX12_areAlike d P 2 [(2, t), (0, x1), (0, x2), (0, y3)] [] N Λ σ1)) ∧ (¬ ((σ1 t_pool (addI (mulI 161 x1) x3)) = (σ1 t_pool (addI (mulI 161 x2) x3))) → P 0 σ1))))))))) :
    WI l mX12_areAlike d P 2 [(2, t), (0, x1), (0, x2), (0, x3)] [] N Λ σ := by
  have hd_1 : 1 ≤ d := Nat.le_trans (by decide) h0d
  refine r_iload_n (x := x3) d_X12_areAlike_2 rfl ?_
  refine r_iconst (x := 2) d_X12_areAlike_3 ⟨by decide, by decide⟩ ?_
  refine r_aload_n (x := t) d_X12_areAlike_4 rfl o_t.1 ?_
  refine r_iload_n (x := x1) d_X12_areAlike_5 rfl ?_
  refine x_callVI (Y2 := mX12_many) (c := t) (As := [(0, x1)]) (S := [(0, 2), (0, x3)]) d_X12_areAlike_6 ok_mX12_many ml_X12_113 rfl (Nat.le_of_ble_eq_true rfl) (Nat.le_of_ble_eq_true rfl) rfl hd_1 kX12 o_t (CI.mono h (fun v2 σ1 h => ?_))
  refine r_imul d_X12_areAlike_9 ?_
  refine r_ic_gt (tgt := 48) d_X12_areAlike_10 rfl (fun hc => ?_) (fun hc => ?_)
  · have h := h.1 hc
    refine r_iconst (x := 1) d_X12_areAlike_48 ⟨by decide, by decide⟩ ?_
    exact r_iret d_X12_areAlike_49 rfl (by decide) (Nat.le_refl 0) (Nat.le_refl 0) ⟨_, rfl, rfl, rfl, h⟩
  · have h := h.2 hc
    refine r_aload_n (x := t) d_X12_areAlike_13 rfl o_t.1 ?_
    refine r_getf (j := 7) (t := 2) (x := t_pool) d_X12_areAlike_14 kX12 (by decide) fl_X12_30 o_t.1 o_t.2.1 o_t.2.2.1 o_t.2.2.2 rfl f_t_pool ?_
    refine r_sipush (x := 161) d_X12_areAlike_17 ⟨by decide, by decide⟩ (by decide) ?_
    refine r_iload_n (x := x1) d_X12_areAlike_20 rfl ?_
    refine r_imul d_X12_areAlike_21 ?_
    refine r_iload_n (x := x3) d_X12_areAlike_22 rfl ?_
    refine r_iadd d_X12_areAlike_23 ?_
    refine x_iald d_X12_areAlike_24 h.1 ?_
    have h := h.2
    refine r_aload_n (x := t) d_X12_areAlike_25 rfl o_t.1 ?_
    refine r_getf (j := 7) (t := 2) (x := t_pool) d_X12_areAlike_26 kX12 (by decide) fl_X12_30 o_t.1 o_t.2.1 o_t.2.2.1 o_t.2.2.2 rfl f_t_pool ?_
    refine r_sipush (x := 161) d_X12_areAlike_29 ⟨by decide, by decide⟩ (by decide) ?_
    refine r_iload_n (x := x2) d_X12_areAlike_32 rfl ?_
    refine r_imul d_X12_areAlike_33 ?_
    refine r_iload_n (x := x3) d_X12_areAlike_34 rfl ?_
    refine r_iadd d_X12_areAlike_35 ?_
    refine x_iald d_X12_areAlike_36 h.1 ?_
    have h := h.2
    refine r_ic_eq (tgt := 42) d_X12_areAlike_37 rfl (fun hc => ?_) (fun hc => ?_)
    · have h := h.1 hc
      refine x_iinc (x := x3) (L := [(2, t), (0, x1), (0, x2), (0, x3)]) d_X12_areAlike_42 rfl (by decide) rfl (fun y3 ey3 => ?_)
      have h := h y3 ey3
      show WP _ _ _ _ _ _ _ _ [(2, t), (0, x1), (0, x2), (0, y3)] _ _ _ _
      refine r_goto (tgt := 2) d_X12_areAlike_45 rfl ?_
      exact h
    · have h := h.2 hc
      refine r_iconst (x := 0) d_X12_areAlike_40 ⟨by decide, by decide⟩ ?_
      exact r_iret d_X12_areAlike_41 rfl (by decide) (Nat.le_refl 0) (Nat.le_refl 0) ⟨_, rfl, rfl, rfl, h⟩
theorem u_X12_timesRow_0 {l : Launch} {d N : Nat} {Λ : Lay} {P : Mem → Prop} {σ : Mem} {x1 t : Int} (o_t : Ob N Λ t 21 36) (h0d : 1 ≤ d)
    (h : (CV l mX12_empties (d - 1) [(2, t), (0, 5)] N Λ σ (fun σ1 => (CV l mX12_multiplies (d - 1) [(2, t), (0, 1), (0, x1), (0, 1), (0, 5)] N Λ σ1 (fun σ2 => (CV l mX12_copiesRow (d - 1) [(2, t), (0, 5), (0, 1)] N Λ σ2 (fun σ3 => P σ3))))))) :
    WV l mX12_timesRow d P 0 [(2, t), (0, x1)] [] N Λ σ := by
  have hd_1 : 1 ≤ d := Nat.le_trans (by decide) h0d
  refine r_aload_n (x := t) d_X12_timesRow_0 rfl o_t.1 ?_
  refine r_iconst (x := 5) d_X12_timesRow_1 ⟨by decide, by decide⟩ ?_
  refine x_callVV (Y2 := mX12_empties) (c := t) (As := [(0, 5)]) (S := []) d_X12_timesRow_2 ok_mX12_empties ml_X12_105 rfl (Nat.le_of_ble_eq_true rfl) (Nat.le_of_ble_eq_true rfl) rfl hd_1 kX12 o_t (CV.mono h (fun σ1 h => ?_))
  refine r_aload_n (x := t) d_X12_timesRow_5 rfl o_t.1 ?_
  refine r_iconst (x := 1) d_X12_timesRow_6 ⟨by decide, by decide⟩ ?_
  refine r_iload_n (x := x1) d_X12_timesRow_7 rfl ?_
  refine r_iconst (x := 1) d_X12_timesRow_8 ⟨by decide, by decide⟩ ?_
  refine r_iconst (x := 5) d_X12_timesRow_9 ⟨by decide, by decide⟩ ?_
  refine x_callVV (Y2 := mX12_multiplies) (c := t) (As := [(0, 1), (0, x1), (0, 1), (0, 5)]) (S := []) d_X12_timesRow_10 ok_mX12_multiplies ml_X12_231 rfl (Nat.le_of_ble_eq_true rfl) (Nat.le_of_ble_eq_true rfl) rfl hd_1 kX12 o_t (CV.mono h (fun σ2 h => ?_))
  refine r_aload_n (x := t) d_X12_timesRow_13 rfl o_t.1 ?_
  refine r_iconst (x := 5) d_X12_timesRow_14 ⟨by decide, by decide⟩ ?_
  refine r_iconst (x := 1) d_X12_timesRow_15 ⟨by decide, by decide⟩ ?_
  refine x_callVV (Y2 := mX12_copiesRow) (c := t) (As := [(0, 5), (0, 1)]) (S := []) d_X12_timesRow_16 ok_mX12_copiesRow ml_X12_328 rfl (Nat.le_of_ble_eq_true rfl) (Nat.le_of_ble_eq_true rfl) rfl hd_1 kX12 o_t (CV.mono h (fun σ3 h => ?_))
  exact r_vret d_X12_timesRow_19 rfl (Nat.le_refl 0) (Nat.le_refl 0) ⟨rfl, rfl, rfl, h⟩
theorem u_X12_addsBracket_0 {l : Launch} {d N : Nat} {Λ : Lay} {P : Mem → Prop} {σ : Mem} {x1 x2 x3 x4 x5 t : Int} (o_t : Ob N Λ t 21 36) (h0d : 1 ≤ d)
    (h : (CV l mX12_empties (d - 1) [(2, t), (0, 1)] N Λ σ (fun σ1 => (CV l mX12_putsBracket (d - 1) [(2, t), (0, (divI x4 100)), (0, (remI (divI x4 10) 10)), (0, (remI x4 10)), (0, 1)] N Λ σ1 (fun σ2 => (CV l mX12_timesRow (d - 1) [(2, t), (0, (addI (addI 6 (mulI 10 x1)) (divI x4 100)))] N Λ σ2 (fun σ3 => (CV l mX12_timesRow (d - 1) [(2, t), (0, (addI (addI 6 (mulI 10 x2)) (remI (divI x4 10) 10)))] N Λ σ3 (fun σ4 => (CV l mX12_timesRow (d - 1) [(2, t), (0, (addI (addI 6 (mulI 10 x3)) (remI x4 10)))] N Λ σ4 (fun σ5 => WV l mX12_addsBracket d P 73 [(2, t), (0, x1), (0, x2), (0, x3), (0, x4), (0, x5), (0, 0)] [] N Λ σ5))))))))))) :
    WV l mX12_addsBracket d P 0 [(2, t), (0, x1), (0, x2), (0, x3), (0, x4), (0, x5), (3, 0)] [] N Λ σ := by
  have hd_1 : 1 ≤ d := Nat.le_trans (by decide) h0d
  refine r_aload_n (x := t) d_X12_addsBracket_0 rfl o_t.1 ?_
  refine r_iconst (x := 1) d_X12_addsBracket_1 ⟨by decide, by decide⟩ ?_
  refine x_callVV (Y2 := mX12_empties) (c := t) (As := [(0, 1)]) (S := []) d_X12_addsBracket_2 ok_mX12_empties ml_X12_105 rfl (Nat.le_of_ble_eq_true rfl) (Nat.le_of_ble_eq_true rfl) rfl hd_1 kX12 o_t (CV.mono h (fun σ1 h => ?_))
  refine r_aload_n (x := t) d_X12_addsBracket_5 rfl o_t.1 ?_
  refine r_iload (x := x4) d_X12_addsBracket_6 rfl ?_
  refine r_bipush (x := 100) d_X12_addsBracket_8 ⟨by decide, by decide⟩ (by decide) ?_
  refine r_idiv d_X12_addsBracket_10 (by decide) ?_
  refine r_iload (x := x4) d_X12_addsBracket_11 rfl ?_
  refine r_bipush (x := 10) d_X12_addsBracket_13 ⟨by decide, by decide⟩ (by decide) ?_
  refine r_idiv d_X12_addsBracket_15 (by decide) ?_
  refine r_bipush (x := 10) d_X12_addsBracket_16 ⟨by decide, by decide⟩ (by decide) ?_
  refine r_irem d_X12_addsBracket_18 (by decide) ?_
  refine r_iload (x := x4) d_X12_addsBracket_19 rfl ?_
  refine r_bipush (x := 10) d_X12_addsBracket_21 ⟨by decide, by decide⟩ (by decide) ?_
  refine r_irem d_X12_addsBracket_23 (by decide) ?_
  refine r_iconst (x := 1) d_X12_addsBracket_24 ⟨by decide, by decide⟩ ?_
  refine x_callVV (Y2 := mX12_putsBracket) (c := t) (As := [(0, (divI x4 100)), (0, (remI (divI x4 10) 10)), (0, (remI x4 10)), (0, 1)]) (S := []) d_X12_addsBracket_25 ok_mX12_putsBracket ml_X12_211 rfl (Nat.le_of_ble_eq_true rfl) (Nat.le_of_ble_eq_true rfl) rfl hd_1 kX12 o_t (CV.mono h (fun σ2 h => ?_))
  refine r_aload_n (x := t) d_X12_addsBracket_28 rfl o_t.1 ?_
  refine r_iload_n (x := x1) d_X12_addsBracket_29 rfl ?_
  refine r_iload (x := x4) d_X12_addsBracket_30 rfl ?_
  refine r_bipush (x := 100) d_X12_addsBracket_32 ⟨by decide, by decide⟩ (by decide) ?_
  refine r_idiv d_X12_addsBracket_34 (by decide) ?_
  refine x_callSI (Y2 := mX12_rowOf) (As := [(0, x1), (0, (divI x4 100))]) (S := [(2, t)]) d_X12_addsBracket_35 ok_mX12_rowOf ml_X12_306 rfl (Nat.le_of_ble_eq_true rfl) (Nat.le_of_ble_eq_true rfl) rfl hd_1 (c_X12_rowOf (v_X12_rowOf_0 ?_))
  show WP l mX12_addsBracket (rm d 0 0) noX _ 0 0 38 [(2, t), (0, x1), (0, x2), (0, x3), (0, x4), (0, x5), (3, 0)] [(0, (addI (addI 6 (mulI 10 x1)) (divI x4 100))), (2, t)] N Λ σ2
  refine x_callVV (Y2 := mX12_timesRow) (c := t) (As := [(0, (addI (addI 6 (mulI 10 x1)) (divI x4 100)))]) (S := []) d_X12_addsBracket_38 ok_mX12_timesRow ml_X12_325 rfl (Nat.le_of_ble_eq_true rfl) (Nat.le_of_ble_eq_true rfl) rfl hd_1 kX12 o_t (CV.mono h (fun σ3 h => ?_))
  refine r_aload_n (x := t) d_X12_addsBracket_41 rfl o_t.1 ?_
  refine r_iload_n (x := x2) d_X12_addsBracket_42 rfl ?_
  refine r_iload (x := x4) d_X12_addsBracket_43 rfl ?_
  refine r_bipush (x := 10) d_X12_addsBracket_45 ⟨by decide, by decide⟩ (by decide) ?_
  refine r_idiv d_X12_addsBracket_47 (by decide) ?_
  refine r_bipush (x := 10) d_X12_addsBracket_48 ⟨by decide, by decide⟩ (by decide) ?_
  refine r_irem d_X12_addsBracket_50 (by decide) ?_
  refine x_callSI (Y2 := mX12_rowOf) (As := [(0, x2), (0, (remI (divI x4 10) 10))]) (S := [(2, t)]) d_X12_addsBracket_51 ok_mX12_rowOf ml_X12_306 rfl (Nat.le_of_ble_eq_true rfl) (Nat.le_of_ble_eq_true rfl) rfl hd_1 (c_X12_rowOf (v_X12_rowOf_0 ?_))
  show WP l mX12_addsBracket (rm d 0 0) noX _ 0 0 54 [(2, t), (0, x1), (0, x2), (0, x3), (0, x4), (0, x5), (3, 0)] [(0, (addI (addI 6 (mulI 10 x2)) (remI (divI x4 10) 10))), (2, t)] N Λ σ3
  refine x_callVV (Y2 := mX12_timesRow) (c := t) (As := [(0, (addI (addI 6 (mulI 10 x2)) (remI (divI x4 10) 10)))]) (S := []) d_X12_addsBracket_54 ok_mX12_timesRow ml_X12_325 rfl (Nat.le_of_ble_eq_true rfl) (Nat.le_of_ble_eq_true rfl) rfl hd_1 kX12 o_t (CV.mono h (fun σ4 h => ?_))
  refine r_aload_n (x := t) d_X12_addsBracket_57 rfl o_t.1 ?_
  refine r_iload_n (x := x3) d_X12_addsBracket_58 rfl ?_
  refine r_iload (x := x4) d_X12_addsBracket_59 rfl ?_
  refine r_bipush (x := 10) d_X12_addsBracket_61 ⟨by decide, by decide⟩ (by decide) ?_
  refine r_irem d_X12_addsBracket_63 (by decide) ?_
  refine x_callSI (Y2 := mX12_rowOf) (As := [(0, x3), (0, (remI x4 10))]) (S := [(2, t)]) d_X12_addsBracket_64 ok_mX12_rowOf ml_X12_306 rfl (Nat.le_of_ble_eq_true rfl) (Nat.le_of_ble_eq_true rfl) rfl hd_1 (c_X12_rowOf (v_X12_rowOf_0 ?_))
  show WP l mX12_addsBracket (rm d 0 0) noX _ 0 0 67 [(2, t), (0, x1), (0, x2), (0, x3), (0, x4), (0, x5), (3, 0)] [(0, (addI (addI 6 (mulI 10 x3)) (remI x4 10))), (2, t)] N Λ σ4
  refine x_callVV (Y2 := mX12_timesRow) (c := t) (As := [(0, (addI (addI 6 (mulI 10 x3)) (remI x4 10)))]) (S := []) d_X12_addsBracket_67 ok_mX12_timesRow ml_X12_325 rfl (Nat.le_of_ble_eq_true rfl) (Nat.le_of_ble_eq_true rfl) rfl hd_1 kX12 o_t (CV.mono h (fun σ5 h => ?_))
  refine r_iconst (x := 0) d_X12_addsBracket_70 ⟨by decide, by decide⟩ ?_
  refine r_istore (L2 := [(2, t), (0, x1), (0, x2), (0, x3), (0, x4), (0, x5), (0, 0)]) d_X12_addsBracket_71 (by decide) rfl rfl ?_
  exact h
theorem u_X12_addsBracket_73 {l : Launch} {d N : Nat} {Λ : Lay} {P : Mem → Prop} {σ : Mem} {x1 x2 x3 x4 x5 x6 t : Int} (o_t : Ob N Λ t 21 36) (h0d : 1 ≤ d)
    (h : (CI l mX12_many (d - 1) [(2, t), (0, 1)] N Λ σ (fun v2 σ1 => ((v2 ≤ x6 → P σ1) ∧ (¬ (v2 ≤ x6) → (CI l mX12_key (d - 1) [(2, t), (0, 1), (0, x6)] N Λ σ1 (fun v4 σ3 => (CI l mX12_number (d - 1) [(2, t), (0, 1), (0, x6)] N Λ σ3 (fun v6 σ5 => (CI l mX12_puts (d - 1) [(2, t), (0, x5), (0, v4), (1, v6)] N Λ σ5 (fun v8 σ7 => (∀ y9, y9 = addI x6 1 → WV l mX12_addsBracket d P 73 [(2, t), (0, x1), (0, x2), (0, x3), (0, x4), (0, x5), (0, y9)] [] N Λ σ7)))))))))))) :
    WV l mX12_addsBracket d P 73 [(2, t), (0, x1), (0, x2), (0, x3), (0, x4), (0, x5), (0, x6)] [] N Λ σ := by
  have hd_1 : 1 ≤ d := Nat.le_trans (by decide) h0d
  refine r_iload (x := x6) d_X12_addsBracket_73 rfl ?_
  refine r_aload_n (x := t) d_X12_addsBracket_75 rfl o_t.1 ?_
  refine r_iconst (x := 1) d_X12_addsBracket_76 ⟨by decide, by decide⟩ ?_
  refine x_callVI (Y2 := mX12_many) (c := t) (As := [(0, 1)]) (S := [(0, x6)]) d_X12_addsBracket_77 ok_mX12_many ml_X12_113 rfl (Nat.le_of_ble_eq_true rfl) (Nat.le_of_ble_eq_true rfl) rfl hd_1 kX12 o_t (CI.mono h (fun v2 σ1 h => ?_))
  refine r_ic_ge (tgt := 111) d_X12_addsBracket_80 rfl (fun hc => ?_) (fun hc => ?_)
  · have h := h.1 hc
    exact r_vret d_X12_addsBracket_111 rfl (Nat.le_refl 0) (Nat.le_refl 0) ⟨rfl, rfl, rfl, h⟩
  · have h := h.2 hc
    refine r_aload_n (x := t) d_X12_addsBracket_83 rfl o_t.1 ?_
    refine r_iload (x := x5) d_X12_addsBracket_84 rfl ?_
    refine r_aload_n (x := t) d_X12_addsBracket_86 rfl o_t.1 ?_
    refine r_iconst (x := 1) d_X12_addsBracket_87 ⟨by decide, by decide⟩ ?_
    refine r_iload (x := x6) d_X12_addsBracket_88 rfl ?_
    refine x_callVI (Y2 := mX12_key) (c := t) (As := [(0, 1), (0, x6)]) (S := [(0, x5), (2, t)]) d_X12_addsBracket_90 ok_mX12_key ml_X12_117 rfl (Nat.le_of_ble_eq_true rfl) (Nat.le_of_ble_eq_true rfl) rfl hd_1 kX12 o_t (CI.mono h (fun v4 σ3 h => ?_))
    refine r_aload_n (x := t) d_X12_addsBracket_93 rfl o_t.1 ?_
    refine r_iconst (x := 1) d_X12_addsBracket_94 ⟨by decide, by decide⟩ ?_
    refine r_iload (x := x6) d_X12_addsBracket_95 rfl ?_
    refine x_callVI (Y2 := mX12_number) (c := t) (As := [(0, 1), (0, x6)]) (S := [(0, v4), (0, x5), (2, t)]) d_X12_addsBracket_97 ok_mX12_number ml_X12_132 rfl (Nat.le_of_ble_eq_true rfl) (Nat.le_of_ble_eq_true rfl) rfl hd_1 kX12 o_t (CI.mono h (fun v6 σ5 h => ?_))
    refine r_i2l d_X12_addsBracket_100 ?_
    refine x_callVI (Y2 := mX12_puts) (c := t) (As := [(0, x5), (0, v4), (1, v6)]) (S := []) d_X12_addsBracket_101 ok_mX12_puts ml_X12_147 rfl (Nat.le_of_ble_eq_true rfl) (Nat.le_of_ble_eq_true rfl) rfl hd_1 kX12 o_t (CI.mono h (fun v8 σ7 h => ?_))
    refine r_pop d_X12_addsBracket_104 rfl ?_
    refine x_iinc (x := x6) (L := [(2, t), (0, x1), (0, x2), (0, x3), (0, x4), (0, x5), (0, x6)]) d_X12_addsBracket_105 rfl (by decide) rfl (fun y9 ey9 => ?_)
    have h := h y9 ey9
    show WP _ _ _ _ _ _ _ _ [(2, t), (0, x1), (0, x2), (0, x3), (0, x4), (0, x5), (0, y9)] _ _ _ _
    refine r_goto (tgt := 73) d_X12_addsBracket_108 rfl ?_
    exact h
theorem u_X12_brackets_0 {l : Launch} {d N : Nat} {Λ : Lay} {P : Mem → Prop} {σ : Mem} {x1 x2 x3 x4 t : Int} (o_t : Ob N Λ t 21 36) (h0d : 1 ≤ d)
    (h : (CV l mX12_empties (d - 1) [(2, t), (0, x4)] N Λ σ (fun σ1 => WV l mX12_brackets d P 9 [(2, t), (0, x1), (0, x2), (0, x3), (0, x4), (0, 0), (3, 0), (3, 0), (3, 0)] [] N Λ σ1))) :
    WV l mX12_brackets d P 0 [(2, t), (0, x1), (0, x2), (0, x3), (0, x4), (3, 0), (3, 0), (3, 0), (3, 0)] [] N Λ σ := by
  have hd_1 : 1 ≤ d := Nat.le_trans (by decide) h0d
  refine r_aload_n (x := t) d_X12_brackets_0 rfl o_t.1 ?_
  refine r_iload (x := x4) d_X12_brackets_1 rfl ?_
  refine x_callVV (Y2 := mX12_empties) (c := t) (As := [(0, x4)]) (S := []) d_X12_brackets_3 ok_mX12_empties ml_X12_105 rfl (Nat.le_of_ble_eq_true rfl) (Nat.le_of_ble_eq_true rfl) rfl hd_1 kX12 o_t (CV.mono h (fun σ1 h => ?_))
  refine r_iconst (x := 0) d_X12_brackets_6 ⟨by decide, by decide⟩ ?_
  refine r_istore (L2 := [(2, t), (0, x1), (0, x2), (0, x3), (0, x4), (0, 0), (3, 0), (3, 0), (3, 0)]) d_X12_brackets_7 (by decide) rfl rfl ?_
  exact h
theorem u_X12_brackets_9 {l : Launch} {d N : Nat} {Λ : Lay} {P : Mem → Prop} {σ : Mem} {x1 x2 x3 x4 x5 t : Int}
    (h : ((10 ≤ x5 → P σ) ∧ (¬ (10 ≤ x5) → WV l mX12_brackets d P 19 [(2, t), (0, x1), (0, x2), (0, x3), (0, x4), (0, x5), (0, 0), (3, 0), (3, 0)] [] N Λ σ))) :
    WV l mX12_brackets d P 9 [(2, t), (0, x1), (0, x2), (0, x3), (0, x4), (0, x5), (3, 0), (3, 0), (3, 0)] [] N Λ σ := by
  refine r_iload (x := x5) d_X12_brackets_9 rfl ?_
  refine r_bipush (x := 10) d_X12_brackets_11 ⟨by decide, by decide⟩ (by decide) ?_
  refine r_ic_ge (tgt := 157) d_X12_brackets_13 rfl (fun hc => ?_) (fun hc => ?_)
  · have h := h.1 hc
    exact r_vret d_X12_brackets_157 rfl (Nat.le_refl 0) (Nat.le_refl 0) ⟨rfl, rfl, rfl, h⟩
  · have h := h.2 hc
    refine r_iconst (x := 0) d_X12_brackets_16 ⟨by decide, by decide⟩ ?_
    refine r_istore (L2 := [(2, t), (0, x1), (0, x2), (0, x3), (0, x4), (0, x5), (0, 0), (3, 0), (3, 0)]) d_X12_brackets_17 (by decide) rfl rfl ?_
    exact h
theorem u_X12_brackets_19 {l : Launch} {d N : Nat} {Λ : Lay} {P : Mem → Prop} {σ : Mem} {x1 x2 x3 x4 x5 x6 t : Int}
    (h : ((10 ≤ x6 → (∀ y1, y1 = addI x5 1 → WV l mX12_brackets d P 9 [(2, t), (0, x1), (0, x2), (0, x3), (0, x4), (0, y1), (3, 0), (3, 0), (3, 0)] [] N Λ σ)) ∧ (¬ (10 ≤ x6) → WV l mX12_brackets d P 29 [(2, t), (0, x1), (0, x2), (0, x3), (0, x4), (0, x5), (0, x6), (0, 0), (3, 0)] [] N Λ σ))) :
    WV l mX12_brackets d P 19 [(2, t), (0, x1), (0, x2), (0, x3), (0, x4), (0, x5), (0, x6), (3, 0), (3, 0)] [] N Λ σ := by
  refine r_iload (x := x6) d_X12_brackets_19 rfl ?_
  refine r_bipush (x := 10) d_X12_brackets_21 ⟨by decide, by decide⟩ (by decide) ?_
  refine r_ic_ge (tgt := 151) d_X12_brackets_23 rfl (fun hc => ?_) (fun hc => ?_)
  · have h := h.1 hc
    refine x_iinc (x := x5) (L := [(2, t), (0, x1), (0, x2), (0, x3), (0, x4), (0, x5), (0, x6), (3, 0), (3, 0)]) d_X12_brackets_151 rfl (by decide) rfl (fun y1 ey1 => ?_)
    have h := h y1 ey1
    show WP _ _ _ _ _ _ _ _ [(2, t), (0, x1), (0, x2), (0, x3), (0, x4), (0, y1), (0, x6), (3, 0), (3, 0)] _ _ _ _
    refine r_goto (tgt := 9) d_X12_brackets_154 rfl ?_
    exact x_mask h ⟨Or.inr rfl, Or.inr rfl, Or.inr rfl, Or.inr rfl, Or.inr rfl, Or.inr rfl, Or.inl rfl, Or.inl rfl, Or.inl rfl, trivial⟩
  · have h := h.2 hc
    refine r_iconst (x := 0) d_X12_brackets_26 ⟨by decide, by decide⟩ ?_
    refine r_istore (L2 := [(2, t), (0, x1), (0, x2), (0, x3), (0, x4), (0, x5), (0, x6), (0, 0), (3, 0)]) d_X12_brackets_27 (by decide) rfl rfl ?_
    exact h
theorem u_X12_brackets_29 {l : Launch} {d N : Nat} {Λ : Lay} {P : Mem → Prop} {σ : Mem} {x1 x2 x3 x4 x5 x6 x7 t t_rankOf : Int} (o_t : Ob N Λ t 21 36) (f_t_rankOf : (Λ t).2.2 1 = t_rankOf) (h0d : 1 ≤ d)
    (h : ((10 ≤ x7 → (∀ y1, y1 = addI x6 1 → WV l mX12_brackets d P 19 [(2, t), (0, x1), (0, x2), (0, x3), (0, x4), (0, x5), (0, y1), (3, 0), (3, 0)] [] N Λ σ)) ∧ (¬ (10 ≤ x7) → ((¬ (σ t 8) = 0 → (∀ y2, y2 = addI x6 1 → WV l mX12_brackets d P 19 [(2, t), (0, x1), (0, x2), (0, x3), (0, x4), (0, x5), (0, y2), (3, 0), (3, 0)] [] N Λ σ)) ∧ ((σ t 8) = 0 → (CI l mX12_many (d - 1) [(2, t), (0, (addI (addI 6 (mulI 10 x1)) x5))] N Λ σ (fun v4 σ3 => ((v4 ≤ 0 → (∀ y5, y5 = addI x7 1 → WV l mX12_brackets d P 29 [(2, t), (0, x1), (0, x2), (0, x3), (0, x4), (0, x5), (0, x6), (0, y5), (3, 0)] [] N Λ σ3)) ∧ (¬ (v4 ≤ 0) → (CI l mX12_many (d - 1) [(2, t), (0, (addI (addI 6 (mulI 10 x2)) x6))] N Λ σ3 (fun v7 σ6 => ((v7 ≤ 0 → (∀ y8, y8 = addI x7 1 → WV l mX12_brackets d P 29 [(2, t), (0, x1), (0, x2), (0, x3), (0, x4), (0, x5), (0, x6), (0, y8), (3, 0)] [] N Λ σ6)) ∧ (¬ (v7 ≤ 0) → (CI l mX12_many (d - 1) [(2, t), (0, (addI (addI 6 (mulI 10 x3)) x7))] N Λ σ6 (fun v10 σ9 => ((v10 ≤ 0 → (∀ y11, y11 = addI x7 1 → WV l mX12_brackets d P 29 [(2, t), (0, x1), (0, x2), (0, x3), (0, x4), (0, x5), (0, x6), (0, y11), (3, 0)] [] N Λ σ9)) ∧ (¬ (v10 ≤ 0) → (Ix N Λ t_rankOf 0 (addI (addI (mulI 100 x5) (mulI 10 x6)) x7) ∧ (((σ9 t_rankOf (addI (addI (mulI 100 x5) (mulI 10 x6)) x7)) = 0 → (∀ y12, y12 = addI x7 1 → WV l mX12_brackets d P 29 [(2, t), (0, x1), (0, x2), (0, x3), (0, x4), (0, x5), (0, x6), (0, y12), (3, 0)] [] N Λ σ9)) ∧ (¬ ((σ9 t_rankOf (addI (addI (mulI 100 x5) (mulI 10 x6)) x7)) = 0) → (CV l mX12_addsBracket (d - 1) [(2, t), (0, x1), (0, x2), (0, x3), (0, (addI (addI (mulI 100 x5) (mulI 10 x6)) x7)), (0, x4)] N Λ σ9 (fun σ13 => (∀ y14, y14 = addI x7 1 → WV l mX12_brackets d P 29 [(2, t), (0, x1), (0, x2), (0, x3), (0, x4), (0, x5), (0, x6), (0, y14), (3, 0)] [] N Λ σ13))))))))))))))))))))))) :
    WV l mX12_brackets d P 29 [(2, t), (0, x1), (0, x2), (0, x3), (0, x4), (0, x5), (0, x6), (0, x7), (3, 0)] [] N Λ σ := by
  have hd_1 : 1 ≤ d := Nat.le_trans (by decide) h0d
  refine r_iload (x := x7) d_X12_brackets_29 rfl ?_
  refine r_bipush (x := 10) d_X12_brackets_31 ⟨by decide, by decide⟩ (by decide) ?_
  refine r_ic_ge (tgt := 145) d_X12_brackets_33 rfl (fun hc => ?_) (fun hc => ?_)
  · have h := h.1 hc
    refine x_iinc (x := x6) (L := [(2, t), (0, x1), (0, x2), (0, x3), (0, x4), (0, x5), (0, x6), (0, x7), (3, 0)]) d_X12_brackets_145 rfl (by decide) rfl (fun y1 ey1 => ?_)
    have h := h y1 ey1
    show WP _ _ _ _ _ _ _ _ [(2, t), (0, x1), (0, x2), (0, x3), (0, x4), (0, x5), (0, y1), (0, x7), (3, 0)] _ _ _ _
    refine r_goto (tgt := 19) d_X12_brackets_148 rfl ?_
    exact x_mask h ⟨Or.inr rfl, Or.inr rfl, Or.inr rfl, Or.inr rfl, Or.inr rfl, Or.inr rfl, Or.inr rfl, Or.inl rfl, Or.inl rfl, trivial⟩
  · have h := h.2 hc
    refine r_aload_n (x := t) d_X12_brackets_36 rfl o_t.1 ?_
    refine r_getf (j := 8) (t := 0) (x := (σ t 8)) d_X12_brackets_37 kX12 (by decide) fl_X12_102 o_t.1 o_t.2.1 o_t.2.2.1 o_t.2.2.2 rfl rfl ?_
    refine r_if_ne (tgt := 145) d_X12_brackets_40 rfl (fun hc => ?_) (fun hc => ?_)
    · have h := h.1 hc
      refine x_iinc (x := x6) (L := [(2, t), (0, x1), (0, x2), (0, x3), (0, x4), (0, x5), (0, x6), (0, x7), (3, 0)]) d_X12_brackets_145 rfl (by decide) rfl (fun y2 ey2 => ?_)
      have h := h y2 ey2
      show WP _ _ _ _ _ _ _ _ [(2, t), (0, x1), (0, x2), (0, x3), (0, x4), (0, x5), (0, y2), (0, x7), (3, 0)] _ _ _ _
      refine r_goto (tgt := 19) d_X12_brackets_148 rfl ?_
      exact x_mask h ⟨Or.inr rfl, Or.inr rfl, Or.inr rfl, Or.inr rfl, Or.inr rfl, Or.inr rfl, Or.inr rfl, Or.inl rfl, Or.inl rfl, trivial⟩
    · have h := h.2 hc
      refine r_aload_n (x := t) d_X12_brackets_43 rfl o_t.1 ?_
      refine r_iload_n (x := x1) d_X12_brackets_44 rfl ?_
      refine r_iload (x := x5) d_X12_brackets_45 rfl ?_
      refine x_callSI (Y2 := mX12_rowOf) (As := [(0, x1), (0, x5)]) (S := [(2, t)]) d_X12_brackets_47 ok_mX12_rowOf ml_X12_306 rfl (Nat.le_of_ble_eq_true rfl) (Nat.le_of_ble_eq_true rfl) rfl hd_1 (c_X12_rowOf (v_X12_rowOf_0 ?_))
      show WP l mX12_brackets (rm d 0 0) noX _ 0 0 50 [(2, t), (0, x1), (0, x2), (0, x3), (0, x4), (0, x5), (0, x6), (0, x7), (3, 0)] [(0, (addI (addI 6 (mulI 10 x1)) x5)), (2, t)] N Λ σ
      refine x_callVI (Y2 := mX12_many) (c := t) (As := [(0, (addI (addI 6 (mulI 10 x1)) x5))]) (S := []) d_X12_brackets_50 ok_mX12_many ml_X12_113 rfl (Nat.le_of_ble_eq_true rfl) (Nat.le_of_ble_eq_true rfl) rfl hd_1 kX12 o_t (CI.mono h (fun v4 σ3 h => ?_))
      refine r_if_le (tgt := 86) d_X12_brackets_53 rfl (fun hc => ?_) (fun hc => ?_)
      · have h := h.1 hc
        refine r_iconst (x := 0) d_X12_brackets_86 ⟨by decide, by decide⟩ ?_
        refine r_istore (L2 := [(2, t), (0, x1), (0, x2), (0, x3), (0, x4), (0, x5), (0, x6), (0, x7), (0, 0)]) d_X12_brackets_87 (by decide) rfl rfl ?_
        refine r_iload (x := 0) d_X12_brackets_89 rfl ?_
        refine r_if_eq (tgt := 139) d_X12_brackets_91 rfl (fun _ => ?_) (fun hc => absurd hc (by decide))
        refine x_iinc (x := x7) (L := [(2, t), (0, x1), (0, x2), (0, x3), (0, x4), (0, x5), (0, x6), (0, x7), (0, 0)]) d_X12_brackets_139 rfl (by decide) rfl (fun y5 ey5 => ?_)
        have h := h y5 ey5
        show WP _ _ _ _ _ _ _ _ [(2, t), (0, x1), (0, x2), (0, x3), (0, x4), (0, x5), (0, x6), (0, y5), (0, 0)] _ _ _ _
        refine r_goto (tgt := 29) d_X12_brackets_142 rfl ?_
        exact x_mask h ⟨Or.inr rfl, Or.inr rfl, Or.inr rfl, Or.inr rfl, Or.inr rfl, Or.inr rfl, Or.inr rfl, Or.inr rfl, Or.inl rfl, trivial⟩
      · have h := h.2 hc
        refine r_aload_n (x := t) d_X12_brackets_56 rfl o_t.1 ?_
        refine r_iload_n (x := x2) d_X12_brackets_57 rfl ?_
        refine r_iload (x := x6) d_X12_brackets_58 rfl ?_
        refine x_callSI (Y2 := mX12_rowOf) (As := [(0, x2), (0, x6)]) (S := [(2, t)]) d_X12_brackets_60 ok_mX12_rowOf ml_X12_306 rfl (Nat.le_of_ble_eq_true rfl) (Nat.le_of_ble_eq_true rfl) rfl hd_1 (c_X12_rowOf (v_X12_rowOf_0 ?_))
        show WP l mX12_brackets (rm d 0 0) noX _ 0 0 63 [(2, t), (0, x1), (0, x2), (0, x3), (0, x4), (0, x5), (0, x6), (0, x7), (3, 0)] [(0, (addI (addI 6 (mulI 10 x2)) x6)), (2, t)] N Λ σ3
        refine x_callVI (Y2 := mX12_many) (c := t) (As := [(0, (addI (addI 6 (mulI 10 x2)) x6))]) (S := []) d_X12_brackets_63 ok_mX12_many ml_X12_113 rfl (Nat.le_of_ble_eq_true rfl) (Nat.le_of_ble_eq_true rfl) rfl hd_1 kX12 o_t (CI.mono h (fun v7 σ6 h => ?_))
        refine r_if_le (tgt := 86) d_X12_brackets_66 rfl (fun hc => ?_) (fun hc => ?_)
        · have h := h.1 hc
          refine r_iconst (x := 0) d_X12_brackets_86 ⟨by decide, by decide⟩ ?_
          refine r_istore (L2 := [(2, t), (0, x1), (0, x2), (0, x3), (0, x4), (0, x5), (0, x6), (0, x7), (0, 0)]) d_X12_brackets_87 (by decide) rfl rfl ?_
          refine r_iload (x := 0) d_X12_brackets_89 rfl ?_
          refine r_if_eq (tgt := 139) d_X12_brackets_91 rfl (fun _ => ?_) (fun hc => absurd hc (by decide))
          refine x_iinc (x := x7) (L := [(2, t), (0, x1), (0, x2), (0, x3), (0, x4), (0, x5), (0, x6), (0, x7), (0, 0)]) d_X12_brackets_139 rfl (by decide) rfl (fun y8 ey8 => ?_)
          have h := h y8 ey8
          show WP _ _ _ _ _ _ _ _ [(2, t), (0, x1), (0, x2), (0, x3), (0, x4), (0, x5), (0, x6), (0, y8), (0, 0)] _ _ _ _
          refine r_goto (tgt := 29) d_X12_brackets_142 rfl ?_
          exact x_mask h ⟨Or.inr rfl, Or.inr rfl, Or.inr rfl, Or.inr rfl, Or.inr rfl, Or.inr rfl, Or.inr rfl, Or.inr rfl, Or.inl rfl, trivial⟩
        · have h := h.2 hc
          refine r_aload_n (x := t) d_X12_brackets_69 rfl o_t.1 ?_
          refine r_iload_n (x := x3) d_X12_brackets_70 rfl ?_
          refine r_iload (x := x7) d_X12_brackets_71 rfl ?_
          refine x_callSI (Y2 := mX12_rowOf) (As := [(0, x3), (0, x7)]) (S := [(2, t)]) d_X12_brackets_73 ok_mX12_rowOf ml_X12_306 rfl (Nat.le_of_ble_eq_true rfl) (Nat.le_of_ble_eq_true rfl) rfl hd_1 (c_X12_rowOf (v_X12_rowOf_0 ?_))
          show WP l mX12_brackets (rm d 0 0) noX _ 0 0 76 [(2, t), (0, x1), (0, x2), (0, x3), (0, x4), (0, x5), (0, x6), (0, x7), (3, 0)] [(0, (addI (addI 6 (mulI 10 x3)) x7)), (2, t)] N Λ σ6
          refine x_callVI (Y2 := mX12_many) (c := t) (As := [(0, (addI (addI 6 (mulI 10 x3)) x7))]) (S := []) d_X12_brackets_76 ok_mX12_many ml_X12_113 rfl (Nat.le_of_ble_eq_true rfl) (Nat.le_of_ble_eq_true rfl) rfl hd_1 kX12 o_t (CI.mono h (fun v10 σ9 h => ?_))
          refine r_if_le (tgt := 86) d_X12_brackets_79 rfl (fun hc => ?_) (fun hc => ?_)
          · have h := h.1 hc
            refine r_iconst (x := 0) d_X12_brackets_86 ⟨by decide, by decide⟩ ?_
            refine r_istore (L2 := [(2, t), (0, x1), (0, x2), (0, x3), (0, x4), (0, x5), (0, x6), (0, x7), (0, 0)]) d_X12_brackets_87 (by decide) rfl rfl ?_
            refine r_iload (x := 0) d_X12_brackets_89 rfl ?_
            refine r_if_eq (tgt := 139) d_X12_brackets_91 rfl (fun _ => ?_) (fun hc => absurd hc (by decide))
            refine x_iinc (x := x7) (L := [(2, t), (0, x1), (0, x2), (0, x3), (0, x4), (0, x5), (0, x6), (0, x7), (0, 0)]) d_X12_brackets_139 rfl (by decide) rfl (fun y11 ey11 => ?_)
            have h := h y11 ey11
            show WP _ _ _ _ _ _ _ _ [(2, t), (0, x1), (0, x2), (0, x3), (0, x4), (0, x5), (0, x6), (0, y11), (0, 0)] _ _ _ _
            refine r_goto (tgt := 29) d_X12_brackets_142 rfl ?_
            exact x_mask h ⟨Or.inr rfl, Or.inr rfl, Or.inr rfl, Or.inr rfl, Or.inr rfl, Or.inr rfl, Or.inr rfl, Or.inr rfl, Or.inl rfl, trivial⟩
          · have h := h.2 hc
            refine r_iconst (x := 1) d_X12_brackets_82 ⟨by decide, by decide⟩ ?_
            refine r_goto (tgt := 87) d_X12_brackets_83 rfl ?_
            refine r_istore (L2 := [(2, t), (0, x1), (0, x2), (0, x3), (0, x4), (0, x5), (0, x6), (0, x7), (0, 1)]) d_X12_brackets_87 (by decide) rfl rfl ?_
            refine r_iload (x := 1) d_X12_brackets_89 rfl ?_
            refine r_if_eq (tgt := 139) d_X12_brackets_91 rfl (fun hc => absurd hc (by decide)) (fun _ => ?_)
            refine r_aload_n (x := t) d_X12_brackets_94 rfl o_t.1 ?_
            refine r_getf (j := 1) (t := 2) (x := t_rankOf) d_X12_brackets_95 kX12 (by decide) fl_X12_13 o_t.1 o_t.2.1 o_t.2.2.1 o_t.2.2.2 rfl f_t_rankOf ?_
            refine r_bipush (x := 100) d_X12_brackets_98 ⟨by decide, by decide⟩ (by decide) ?_
            refine r_iload (x := x5) d_X12_brackets_100 rfl ?_
            refine r_imul d_X12_brackets_102 ?_
            refine r_bipush (x := 10) d_X12_brackets_103 ⟨by decide, by decide⟩ (by decide) ?_
            refine r_iload (x := x6) d_X12_brackets_105 rfl ?_
            refine r_imul d_X12_brackets_107 ?_
            refine r_iadd d_X12_brackets_108 ?_
            refine r_iload (x := x7) d_X12_brackets_109 rfl ?_
            refine r_iadd d_X12_brackets_111 ?_
            refine x_iald d_X12_brackets_112 h.1 ?_
            have h := h.2
            refine r_if_eq (tgt := 139) d_X12_brackets_113 rfl (fun hc => ?_) (fun hc => ?_)
            · have h := h.1 hc
              refine x_iinc (x := x7) (L := [(2, t), (0, x1), (0, x2), (0, x3), (0, x4), (0, x5), (0, x6), (0, x7), (0, 1)]) d_X12_brackets_139 rfl (by decide) rfl (fun y12 ey12 => ?_)
              have h := h y12 ey12
              show WP _ _ _ _ _ _ _ _ [(2, t), (0, x1), (0, x2), (0, x3), (0, x4), (0, x5), (0, x6), (0, y12), (0, 1)] _ _ _ _
              refine r_goto (tgt := 29) d_X12_brackets_142 rfl ?_
              exact x_mask h ⟨Or.inr rfl, Or.inr rfl, Or.inr rfl, Or.inr rfl, Or.inr rfl, Or.inr rfl, Or.inr rfl, Or.inr rfl, Or.inl rfl, trivial⟩
            · have h := h.2 hc
              refine r_aload_n (x := t) d_X12_brackets_116 rfl o_t.1 ?_
              refine r_iload_n (x := x1) d_X12_brackets_117 rfl ?_
              refine r_iload_n (x := x2) d_X12_brackets_118 rfl ?_
              refine r_iload_n (x := x3) d_X12_brackets_119 rfl ?_
              refine r_bipush (x := 100) d_X12_brackets_120 ⟨by decide, by decide⟩ (by decide) ?_
              refine r_iload (x := x5) d_X12_brackets_122 rfl ?_
              refine r_imul d_X12_brackets_124 ?_
              refine r_bipush (x := 10) d_X12_brackets_125 ⟨by decide, by decide⟩ (by decide) ?_
              refine r_iload (x := x6) d_X12_brackets_127 rfl ?_
              refine r_imul d_X12_brackets_129 ?_
              refine r_iadd d_X12_brackets_130 ?_
              refine r_iload (x := x7) d_X12_brackets_131 rfl ?_
              refine r_iadd d_X12_brackets_133 ?_
              refine r_iload (x := x4) d_X12_brackets_134 rfl ?_
              refine x_callVV (Y2 := mX12_addsBracket) (c := t) (As := [(0, x1), (0, x2), (0, x3), (0, (addI (addI (mulI 100 x5) (mulI 10 x6)) x7)), (0, x4)]) (S := []) d_X12_brackets_136 ok_mX12_addsBracket ml_X12_321 rfl (Nat.le_of_ble_eq_true rfl) (Nat.le_of_ble_eq_true rfl) rfl hd_1 kX12 o_t (CV.mono h (fun σ13 h => ?_))
              refine x_iinc (x := x7) (L := [(2, t), (0, x1), (0, x2), (0, x3), (0, x4), (0, x5), (0, x6), (0, x7), (0, 1)]) d_X12_brackets_139 rfl (by decide) rfl (fun y14 ey14 => ?_)
              have h := h y14 ey14
              show WP _ _ _ _ _ _ _ _ [(2, t), (0, x1), (0, x2), (0, x3), (0, x4), (0, x5), (0, x6), (0, y14), (0, 1)] _ _ _ _
              refine r_goto (tgt := 29) d_X12_brackets_142 rfl ?_
              exact x_mask h ⟨Or.inr rfl, Or.inr rfl, Or.inr rfl, Or.inr rfl, Or.inr rfl, Or.inr rfl, Or.inr rfl, Or.inr rfl, Or.inl rfl, trivial⟩
theorem u_X12_putsProduct_0 {l : Launch} {d N : Nat} {Λ : Lay} {P : Mem → Prop} {σ : Mem} {x1 x2 x3 x5 t : Int} (o_t : Ob N Λ t 21 36) (h0d : 1 ≤ d)
    (h : (CV l mX12_empties (d - 1) [(2, t), (0, 5)] N Λ σ (fun σ1 => (CV l mX12_multiplies (d - 1) [(2, t), (0, x1), (0, x2), (0, 1), (0, 5)] N Λ σ1 (fun σ2 => WV l mX12_putsProduct d P 16 [(2, t), (0, x1), (0, x2), (1, x3), (3, 0), (0, x5), (0, 0)] [] N Λ σ2))))) :
    WV l mX12_putsProduct d P 0 [(2, t), (0, x1), (0, x2), (1, x3), (3, 0), (0, x5), (3, 0)] [] N Λ σ := by
  have hd_1 : 1 ≤ d := Nat.le_trans (by decide) h0d
  refine r_aload_n (x := t) d_X12_putsProduct_0 rfl o_t.1 ?_
  refine r_iconst (x := 5) d_X12_putsProduct_1 ⟨by decide, by decide⟩ ?_
  refine x_callVV (Y2 := mX12_empties) (c := t) (As := [(0, 5)]) (S := []) d_X12_putsProduct_2 ok_mX12_empties ml_X12_105 rfl (Nat.le_of_ble_eq_true rfl) (Nat.le_of_ble_eq_true rfl) rfl hd_1 kX12 o_t (CV.mono h (fun σ1 h => ?_))
  refine r_aload_n (x := t) d_X12_putsProduct_5 rfl o_t.1 ?_
  refine r_iload_n (x := x1) d_X12_putsProduct_6 rfl ?_
  refine r_iload_n (x := x2) d_X12_putsProduct_7 rfl ?_
  refine r_iconst (x := 1) d_X12_putsProduct_8 ⟨by decide, by decide⟩ ?_
  refine r_iconst (x := 5) d_X12_putsProduct_9 ⟨by decide, by decide⟩ ?_
  refine x_callVV (Y2 := mX12_multiplies) (c := t) (As := [(0, x1), (0, x2), (0, 1), (0, 5)]) (S := []) d_X12_putsProduct_10 ok_mX12_multiplies ml_X12_231 rfl (Nat.le_of_ble_eq_true rfl) (Nat.le_of_ble_eq_true rfl) rfl hd_1 kX12 o_t (CV.mono h (fun σ2 h => ?_))
  refine r_iconst (x := 0) d_X12_putsProduct_13 ⟨by decide, by decide⟩ ?_
  refine r_istore (L2 := [(2, t), (0, x1), (0, x2), (1, x3), (3, 0), (0, x5), (0, 0)]) d_X12_putsProduct_14 (by decide) rfl rfl ?_
  exact h
theorem u_X12_putsProduct_16 {l : Launch} {d N : Nat} {Λ : Lay} {P : Mem → Prop} {σ : Mem} {x1 x2 x3 x5 x6 t : Int} (o_t : Ob N Λ t 21 36) (h0d : 1 ≤ d)
    (h : (CI l mX12_many (d - 1) [(2, t), (0, 5)] N Λ σ (fun v2 σ1 => ((v2 ≤ x6 → P σ1) ∧ (¬ (v2 ≤ x6) → (CI l mX12_key (d - 1) [(2, t), (0, 5), (0, x6)] N Λ σ1 (fun v4 σ3 => (CI l mX12_number (d - 1) [(2, t), (0, 5), (0, x6)] N Λ σ3 (fun v6 σ5 => (CI l mX12_puts (d - 1) [(2, t), (0, x5), (0, v4), (1, (mulL x3 v6))] N Λ σ5 (fun v8 σ7 => (∀ y9, y9 = addI x6 1 → WV l mX12_putsProduct d P 16 [(2, t), (0, x1), (0, x2), (1, x3), (3, 0), (0, x5), (0, y9)] [] N Λ σ7)))))))))))) :
    WV l mX12_putsProduct d P 16 [(2, t), (0, x1), (0, x2), (1, x3), (3, 0), (0, x5), (0, x6)] [] N Λ σ := by
  have hd_1 : 1 ≤ d := Nat.le_trans (by decide) h0d
  refine r_iload (x := x6) d_X12_putsProduct_16 rfl ?_
  refine r_aload_n (x := t) d_X12_putsProduct_18 rfl o_t.1 ?_
  refine r_iconst (x := 5) d_X12_putsProduct_19 ⟨by decide, by decide⟩ ?_
  refine x_callVI (Y2 := mX12_many) (c := t) (As := [(0, 5)]) (S := [(0, x6)]) d_X12_putsProduct_20 ok_mX12_many ml_X12_113 rfl (Nat.le_of_ble_eq_true rfl) (Nat.le_of_ble_eq_true rfl) rfl hd_1 kX12 o_t (CI.mono h (fun v2 σ1 h => ?_))
  refine r_ic_ge (tgt := 56) d_X12_putsProduct_23 rfl (fun hc => ?_) (fun hc => ?_)
  · have h := h.1 hc
    exact r_vret d_X12_putsProduct_56 rfl (Nat.le_refl 0) (Nat.le_refl 0) ⟨rfl, rfl, rfl, h⟩
  · have h := h.2 hc
    refine r_aload_n (x := t) d_X12_putsProduct_26 rfl o_t.1 ?_
    refine r_iload (x := x5) d_X12_putsProduct_27 rfl ?_
    refine r_aload_n (x := t) d_X12_putsProduct_29 rfl o_t.1 ?_
    refine r_iconst (x := 5) d_X12_putsProduct_30 ⟨by decide, by decide⟩ ?_
    refine r_iload (x := x6) d_X12_putsProduct_31 rfl ?_
    refine x_callVI (Y2 := mX12_key) (c := t) (As := [(0, 5), (0, x6)]) (S := [(0, x5), (2, t)]) d_X12_putsProduct_33 ok_mX12_key ml_X12_117 rfl (Nat.le_of_ble_eq_true rfl) (Nat.le_of_ble_eq_true rfl) rfl hd_1 kX12 o_t (CI.mono h (fun v4 σ3 h => ?_))
    refine r_lload_n (x := x3) d_X12_putsProduct_36 rfl ?_
    refine r_aload_n (x := t) d_X12_putsProduct_37 rfl o_t.1 ?_
    refine r_iconst (x := 5) d_X12_putsProduct_38 ⟨by decide, by decide⟩ ?_
    refine r_iload (x := x6) d_X12_putsProduct_39 rfl ?_
    refine x_callVI (Y2 := mX12_number) (c := t) (As := [(0, 5), (0, x6)]) (S := [(1, x3), (0, v4), (0, x5), (2, t)]) d_X12_putsProduct_41 ok_mX12_number ml_X12_132 rfl (Nat.le_of_ble_eq_true rfl) (Nat.le_of_ble_eq_true rfl) rfl hd_1 kX12 o_t (CI.mono h (fun v6 σ5 h => ?_))
    refine r_i2l d_X12_putsProduct_44 ?_
    refine r_lmul d_X12_putsProduct_45 ?_
    refine x_callVI (Y2 := mX12_puts) (c := t) (As := [(0, x5), (0, v4), (1, (mulL x3 v6))]) (S := []) d_X12_putsProduct_46 ok_mX12_puts ml_X12_147 rfl (Nat.le_of_ble_eq_true rfl) (Nat.le_of_ble_eq_true rfl) rfl hd_1 kX12 o_t (CI.mono h (fun v8 σ7 h => ?_))
    refine r_pop d_X12_putsProduct_49 rfl ?_
    refine x_iinc (x := x6) (L := [(2, t), (0, x1), (0, x2), (1, x3), (3, 0), (0, x5), (0, x6)]) d_X12_putsProduct_50 rfl (by decide) rfl (fun y9 ey9 => ?_)
    have h := h y9 ey9
    show WP _ _ _ _ _ _ _ _ [(2, t), (0, x1), (0, x2), (1, x3), (3, 0), (0, x5), (0, y9)] _ _ _ _
    refine r_goto (tgt := 16) d_X12_putsProduct_53 rfl ?_
    exact h
theorem u_X12_meets_0 {l : Launch} {d N : Nat} {Λ : Lay} {P : Mem → Prop} {σ : Mem} {x1 x2 t : Int} (o_t : Ob N Λ t 21 36) (h0d : 1 ≤ d)
    (h : (((σ t 8) = 0 → (CV l mX12_brackets (d - 1) [(2, t), (0, x1), (0, (addI x1 2)), (0, (addI x1 3)), (0, 3)] N Λ σ (fun σ1 => (CV l mX12_brackets (d - 1) [(2, t), (0, (addI x1 1)), (0, (addI x1 2)), (0, (addI x1 3)), (0, 4)] N Λ σ1 (fun σ2 => WV l mX12_meets d P 36 [(2, t), (0, x1), (0, x2), (0, 0)] [] N Λ σ2))))) ∧ (¬ ((σ t 8) = 0) → P σ))) :
    WV l mX12_meets d P 0 [(2, t), (0, x1), (0, x2), (3, 0)] [] N Λ σ := by
  have hd_1 : 1 ≤ d := Nat.le_trans (by decide) h0d
  refine r_aload_n (x := t) d_X12_meets_0 rfl o_t.1 ?_
  refine r_getf (j := 8) (t := 0) (x := (σ t 8)) d_X12_meets_1 kX12 (by decide) fl_X12_102 o_t.1 o_t.2.1 o_t.2.2.1 o_t.2.2.2 rfl rfl ?_
  refine r_if_eq (tgt := 8) d_X12_meets_4 rfl (fun hc => ?_) (fun hc => ?_)
  · have h := h.1 hc
    refine r_aload_n (x := t) d_X12_meets_8 rfl o_t.1 ?_
    refine r_iload_n (x := x1) d_X12_meets_9 rfl ?_
    refine r_iload_n (x := x1) d_X12_meets_10 rfl ?_
    refine r_iconst (x := 2) d_X12_meets_11 ⟨by decide, by decide⟩ ?_
    refine r_iadd d_X12_meets_12 ?_
    refine r_iload_n (x := x1) d_X12_meets_13 rfl ?_
    refine r_iconst (x := 3) d_X12_meets_14 ⟨by decide, by decide⟩ ?_
    refine r_iadd d_X12_meets_15 ?_
    refine r_iconst (x := 3) d_X12_meets_16 ⟨by decide, by decide⟩ ?_
    refine x_callVV (Y2 := mX12_brackets) (c := t) (As := [(0, x1), (0, (addI x1 2)), (0, (addI x1 3)), (0, 3)]) (S := []) d_X12_meets_17 ok_mX12_brackets ml_X12_315 rfl (Nat.le_of_ble_eq_true rfl) (Nat.le_of_ble_eq_true rfl) rfl hd_1 kX12 o_t (CV.mono h (fun σ1 h => ?_))
    refine r_aload_n (x := t) d_X12_meets_20 rfl o_t.1 ?_
    refine r_iload_n (x := x1) d_X12_meets_21 rfl ?_
    refine r_iconst (x := 1) d_X12_meets_22 ⟨by decide, by decide⟩ ?_
    refine r_iadd d_X12_meets_23 ?_
    refine r_iload_n (x := x1) d_X12_meets_24 rfl ?_
    refine r_iconst (x := 2) d_X12_meets_25 ⟨by decide, by decide⟩ ?_
    refine r_iadd d_X12_meets_26 ?_
    refine r_iload_n (x := x1) d_X12_meets_27 rfl ?_
    refine r_iconst (x := 3) d_X12_meets_28 ⟨by decide, by decide⟩ ?_
    refine r_iadd d_X12_meets_29 ?_
    refine r_iconst (x := 4) d_X12_meets_30 ⟨by decide, by decide⟩ ?_
    refine x_callVV (Y2 := mX12_brackets) (c := t) (As := [(0, (addI x1 1)), (0, (addI x1 2)), (0, (addI x1 3)), (0, 4)]) (S := []) d_X12_meets_31 ok_mX12_brackets ml_X12_315 rfl (Nat.le_of_ble_eq_true rfl) (Nat.le_of_ble_eq_true rfl) rfl hd_1 kX12 o_t (CV.mono h (fun σ2 h => ?_))
    refine r_iconst (x := 0) d_X12_meets_34 ⟨by decide, by decide⟩ ?_
    refine r_istore_n (L2 := [(2, t), (0, x1), (0, x2), (0, 0)]) d_X12_meets_35 (by decide) rfl rfl ?_
    exact h
  · have h := h.2 hc
    exact r_vret d_X12_meets_7 rfl (Nat.le_refl 0) (Nat.le_refl 0) ⟨rfl, rfl, rfl, h⟩
theorem u_X12_meets_36 {l : Launch} {d N : Nat} {Λ : Lay} {P : Mem → Prop} {σ : Mem} {x1 x2 x3 t : Int} (o_t : Ob N Λ t 21 36) (h0d : 1 ≤ d)
    (h : ((10 ≤ x3 → WV l mX12_meets d P 75 [(2, t), (0, x1), (0, x2), (0, 0)] [] N Λ σ) ∧ (¬ (10 ≤ x3) → ((¬ (σ t 8) = 0 → WV l mX12_meets d P 75 [(2, t), (0, x1), (0, x2), (0, 0)] [] N Λ σ) ∧ ((σ t 8) = 0 → (CV l mX12_putsProduct (d - 1) [(2, t), (0, 3), (0, (addI (addI 6 (mulI 10 (addI x1 1))) x3)), (1, 1), (0, (addI (addI 6 (mulI 10 x2)) x3))] N Λ σ (fun σ1 => (∀ y2, y2 = addI x3 1 → WV l mX12_meets d P 36 [(2, t), (0, x1), (0, x2), (0, y2)] [] N Λ σ1)))))))) :
    WV l mX12_meets d P 36 [(2, t), (0, x1), (0, x2), (0, x3)] [] N Λ σ := by
  have hd_1 : 1 ≤ d := Nat.le_trans (by decide) h0d
  refine r_iload_n (x := x3) d_X12_meets_36 rfl ?_
  refine r_bipush (x := 10) d_X12_meets_37 ⟨by decide, by decide⟩ (by decide) ?_
  refine r_ic_ge (tgt := 73) d_X12_meets_39 rfl (fun hc => ?_) (fun hc => ?_)
  · have h := h.1 hc
    refine r_iconst (x := 0) d_X12_meets_73 ⟨by decide, by decide⟩ ?_
    refine r_istore_n (L2 := [(2, t), (0, x1), (0, x2), (0, 0)]) d_X12_meets_74 (by decide) rfl rfl ?_
    exact h
  · have h := h.2 hc
    refine r_aload_n (x := t) d_X12_meets_42 rfl o_t.1 ?_
    refine r_getf (j := 8) (t := 0) (x := (σ t 8)) d_X12_meets_43 kX12 (by decide) fl_X12_102 o_t.1 o_t.2.1 o_t.2.2.1 o_t.2.2.2 rfl rfl ?_
    refine r_if_ne (tgt := 73) d_X12_meets_46 rfl (fun hc => ?_) (fun hc => ?_)
    · have h := h.1 hc
      refine r_iconst (x := 0) d_X12_meets_73 ⟨by decide, by decide⟩ ?_
      refine r_istore_n (L2 := [(2, t), (0, x1), (0, x2), (0, 0)]) d_X12_meets_74 (by decide) rfl rfl ?_
      exact h
    · have h := h.2 hc
      refine r_aload_n (x := t) d_X12_meets_49 rfl o_t.1 ?_
      refine r_iconst (x := 3) d_X12_meets_50 ⟨by decide, by decide⟩ ?_
      refine r_iload_n (x := x1) d_X12_meets_51 rfl ?_
      refine r_iconst (x := 1) d_X12_meets_52 ⟨by decide, by decide⟩ ?_
      refine r_iadd d_X12_meets_53 ?_
      refine r_iload_n (x := x3) d_X12_meets_54 rfl ?_
      refine x_callSI (Y2 := mX12_rowOf) (As := [(0, (addI x1 1)), (0, x3)]) (S := [(0, 3), (2, t)]) d_X12_meets_55 ok_mX12_rowOf ml_X12_306 rfl (Nat.le_of_ble_eq_true rfl) (Nat.le_of_ble_eq_true rfl) rfl hd_1 (c_X12_rowOf (v_X12_rowOf_0 ?_))
      show WP l mX12_meets (rm d 0 0) noX _ 0 0 58 [(2, t), (0, x1), (0, x2), (0, x3)] [(0, (addI (addI 6 (mulI 10 (addI x1 1))) x3)), (0, 3), (2, t)] N Λ σ
      refine r_lconst d_X12_meets_58 ?_
      skip
      refine r_iload_n (x := x2) d_X12_meets_59 rfl ?_
      refine r_iload_n (x := x3) d_X12_meets_60 rfl ?_
      refine x_callSI (Y2 := mX12_rowOf) (As := [(0, x2), (0, x3)]) (S := [(1, 1), (0, (addI (addI 6 (mulI 10 (addI x1 1))) x3)), (0, 3), (2, t)]) d_X12_meets_61 ok_mX12_rowOf ml_X12_306 rfl (Nat.le_of_ble_eq_true rfl) (Nat.le_of_ble_eq_true rfl) rfl hd_1 (c_X12_rowOf (v_X12_rowOf_0 ?_))
      show WP l mX12_meets (rm d 0 0) noX _ 0 0 64 [(2, t), (0, x1), (0, x2), (0, x3)] [(0, (addI (addI 6 (mulI 10 x2)) x3)), (1, 1), (0, (addI (addI 6 (mulI 10 (addI x1 1))) x3)), (0, 3), (2, t)] N Λ σ
      refine x_callVV (Y2 := mX12_putsProduct) (c := t) (As := [(0, 3), (0, (addI (addI 6 (mulI 10 (addI x1 1))) x3)), (1, 1), (0, (addI (addI 6 (mulI 10 x2)) x3))]) (S := []) d_X12_meets_64 ok_mX12_putsProduct ml_X12_318 rfl (Nat.le_of_ble_eq_true rfl) (Nat.le_of_ble_eq_true rfl) rfl hd_1 kX12 o_t (CV.mono h (fun σ1 h => ?_))
      refine x_iinc (x := x3) (L := [(2, t), (0, x1), (0, x2), (0, x3)]) d_X12_meets_67 rfl (by decide) rfl (fun y2 ey2 => ?_)
      have h := h y2 ey2
      show WP _ _ _ _ _ _ _ _ [(2, t), (0, x1), (0, x2), (0, y2)] _ _ _ _
      refine r_goto (tgt := 36) d_X12_meets_70 rfl ?_
      exact h
theorem u_X12_meets_75 {l : Launch} {d N : Nat} {Λ : Lay} {P : Mem → Prop} {σ : Mem} {x1 x2 x3 t : Int} (o_t : Ob N Λ t 21 36) (h0d : 1 ≤ d)
    (h : ((10 ≤ x3 → P σ) ∧ (¬ (10 ≤ x3) → ((¬ (σ t 8) = 0 → P σ) ∧ ((σ t 8) = 0 → (CV l mX12_putsProduct (d - 1) [(2, t), (0, 4), (0, (addI (addI 6 (mulI 10 x1)) x3)), (1, (-1)), (0, (addI (addI 6 (mulI 10 x2)) x3))] N Λ σ (fun σ1 => (∀ y2, y2 = addI x3 1 → WV l mX12_meets d P 75 [(2, t), (0, x1), (0, x2), (0, y2)] [] N Λ σ1)))))))) :
    WV l mX12_meets d P 75 [(2, t), (0, x1), (0, x2), (0, x3)] [] N Λ σ := by
  have hd_1 : 1 ≤ d := Nat.le_trans (by decide) h0d
  refine r_iload_n (x := x3) d_X12_meets_75 rfl ?_
  refine r_bipush (x := 10) d_X12_meets_76 ⟨by decide, by decide⟩ (by decide) ?_
  refine r_ic_ge (tgt := 112) d_X12_meets_78 rfl (fun hc => ?_) (fun hc => ?_)
  · have h := h.1 hc
    exact r_vret d_X12_meets_112 rfl (Nat.le_refl 0) (Nat.le_refl 0) ⟨rfl, rfl, rfl, h⟩
  · have h := h.2 hc
    refine r_aload_n (x := t) d_X12_meets_81 rfl o_t.1 ?_
    refine r_getf (j := 8) (t := 0) (x := (σ t 8)) d_X12_meets_82 kX12 (by decide) fl_X12_102 o_t.1 o_t.2.1 o_t.2.2.1 o_t.2.2.2 rfl rfl ?_
    refine r_if_ne (tgt := 112) d_X12_meets_85 rfl (fun hc => ?_) (fun hc => ?_)
    · have h := h.1 hc
      exact r_vret d_X12_meets_112 rfl (Nat.le_refl 0) (Nat.le_refl 0) ⟨rfl, rfl, rfl, h⟩
    · have h := h.2 hc
      refine r_aload_n (x := t) d_X12_meets_88 rfl o_t.1 ?_
      refine r_iconst (x := 4) d_X12_meets_89 ⟨by decide, by decide⟩ ?_
      refine r_iload_n (x := x1) d_X12_meets_90 rfl ?_
      refine r_iload_n (x := x3) d_X12_meets_91 rfl ?_
      refine x_callSI (Y2 := mX12_rowOf) (As := [(0, x1), (0, x3)]) (S := [(0, 4), (2, t)]) d_X12_meets_92 ok_mX12_rowOf ml_X12_306 rfl (Nat.le_of_ble_eq_true rfl) (Nat.le_of_ble_eq_true rfl) rfl hd_1 (c_X12_rowOf (v_X12_rowOf_0 ?_))
      show WP l mX12_meets (rm d 0 0) noX _ 0 0 95 [(2, t), (0, x1), (0, x2), (0, x3)] [(0, (addI (addI 6 (mulI 10 x1)) x3)), (0, 4), (2, t)] N Λ σ
      refine r_ldc2 (x := (-1)) d_X12_meets_95 ck_X12_166 (by decide) ?_
      refine r_iload_n (x := x2) d_X12_meets_98 rfl ?_
      refine r_iload_n (x := x3) d_X12_meets_99 rfl ?_
      refine x_callSI (Y2 := mX12_rowOf) (As := [(0, x2), (0, x3)]) (S := [(1, (-1)), (0, (addI (addI 6 (mulI 10 x1)) x3)), (0, 4), (2, t)]) d_X12_meets_100 ok_mX12_rowOf ml_X12_306 rfl (Nat.le_of_ble_eq_true rfl) (Nat.le_of_ble_eq_true rfl) rfl hd_1 (c_X12_rowOf (v_X12_rowOf_0 ?_))
      show WP l mX12_meets (rm d 0 0) noX _ 0 0 103 [(2, t), (0, x1), (0, x2), (0, x3)] [(0, (addI (addI 6 (mulI 10 x2)) x3)), (1, (-1)), (0, (addI (addI 6 (mulI 10 x1)) x3)), (0, 4), (2, t)] N Λ σ
      refine x_callVV (Y2 := mX12_putsProduct) (c := t) (As := [(0, 4), (0, (addI (addI 6 (mulI 10 x1)) x3)), (1, (-1)), (0, (addI (addI 6 (mulI 10 x2)) x3))]) (S := []) d_X12_meets_103 ok_mX12_putsProduct ml_X12_318 rfl (Nat.le_of_ble_eq_true rfl) (Nat.le_of_ble_eq_true rfl) rfl hd_1 kX12 o_t (CV.mono h (fun σ1 h => ?_))
      refine x_iinc (x := x3) (L := [(2, t), (0, x1), (0, x2), (0, x3)]) d_X12_meets_106 rfl (by decide) rfl (fun y2 ey2 => ?_)
      have h := h y2 ey2
      show WP _ _ _ _ _ _ _ _ [(2, t), (0, x1), (0, x2), (0, y2)] _ _ _ _
      refine r_goto (tgt := 75) d_X12_meets_109 rfl ?_
      exact h
theorem u_X12_point_0 {l : Launch} {d N : Nat} {Λ : Lay} {P : Mem → Prop} {σ : Mem} {x1 x2 t : Int} (o_t : Ob N Λ t 21 36)
    (h : (((σ t 8) = 0 → WV l mX12_point d P 10 [(2, t), (0, x1), (0, x2), (0, 0)] [] N Λ σ) ∧ (¬ ((σ t 8) = 0) → P σ))) :
    WV l mX12_point d P 0 [(2, t), (0, x1), (0, x2), (3, 0)] [] N Λ σ := by
  refine r_aload_n (x := t) d_X12_point_0 rfl o_t.1 ?_
  refine r_getf (j := 8) (t := 0) (x := (σ t 8)) d_X12_point_1 kX12 (by decide) fl_X12_102 o_t.1 o_t.2.1 o_t.2.2.1 o_t.2.2.2 rfl rfl ?_
  refine r_if_eq (tgt := 8) d_X12_point_4 rfl (fun hc => ?_) (fun hc => ?_)
  · have h := h.1 hc
    refine r_iconst (x := 0) d_X12_point_8 ⟨by decide, by decide⟩ ?_
    refine r_istore_n (L2 := [(2, t), (0, x1), (0, x2), (0, 0)]) d_X12_point_9 (by decide) rfl rfl ?_
    exact h
  · have h := h.2 hc
    exact r_vret d_X12_point_7 rfl (Nat.le_refl 0) (Nat.le_refl 0) ⟨rfl, rfl, rfl, h⟩
theorem u_X12_point_10 {l : Launch} {d N : Nat} {Λ : Lay} {P : Mem → Prop} {σ : Mem} {x1 x2 x3 t : Int} (o_t : Ob N Λ t 21 36) (h0d : 1 ≤ d)
    (h : ((10 ≤ x3 → (CI l mX12_see (d - 1) [(2, t)] N Λ σ (fun v2 σ1 => ((v2 = 40 → (∀ τ3, τ3 = st σ1 t 21 (addI (σ1 t 21) 1) → (CV l mX12_point (d - 1) [(2, t), (0, x2), (0, (addI x2 4))] N Λ τ3 (fun σ4 => (CV l mX12_point (d - 1) [(2, t), (0, (addI x2 1)), (0, (addI x2 4))] N Λ σ4 (fun σ5 => (∀ τ6, τ6 = st σ5 t 21 (addI (σ5 t 21) 1) → (CV l mX12_point (d - 1) [(2, t), (0, (addI x2 2)), (0, (addI x2 4))] N Λ τ6 (fun σ7 => (CV l mX12_point (d - 1) [(2, t), (0, (addI x2 3)), (0, (addI x2 4))] N Λ σ7 (fun σ8 => (∀ τ9, τ9 = st σ8 t 21 (addI (σ8 t 21) 1) → (CV l mX12_meets (d - 1) [(2, t), (0, x2), (0, x1)] N Λ τ9 (fun σ10 => P σ10)))))))))))))) ∧ (¬ (v2 = 40) → (CI l mX12_see (d - 1) [(2, t)] N Λ σ1 (fun v12 σ11 => (CI l mX12_puts (d - 1) [(2, t), (0, (addI (addI 6 (mulI 10 x1)) (subI v12 97))), (0, 0), (1, 1)] N Λ σ11 (fun v14 σ13 => (∀ τ15, τ15 = st σ13 t 21 (addI (σ13 t 21) 1) → P τ15)))))))))) ∧ (¬ (10 ≤ x3) → (CV l mX12_empties (d - 1) [(2, t), (0, (addI (addI 6 (mulI 10 x1)) x3))] N Λ σ (fun σ16 => (∀ y17, y17 = addI x3 1 → WV l mX12_point d P 10 [(2, t), (0, x1), (0, x2), (0, y17)] [] N Λ σ16)))))) :
    WV l mX12_point d P 10 [(2, t), (0, x1), (0, x2), (0, x3)] [] N Λ σ := by
  have hd_1 : 1 ≤ d := Nat.le_trans (by decide) h0d
  refine r_iload_n (x := x3) d_X12_point_10 rfl ?_
  refine r_bipush (x := 10) d_X12_point_11 ⟨by decide, by decide⟩ (by decide) ?_
  refine r_ic_ge (tgt := 31) d_X12_point_13 rfl (fun hc => ?_) (fun hc => ?_)
  · have h := h.1 hc
    refine r_aload_n (x := t) d_X12_point_31 rfl o_t.1 ?_
    refine x_callVI (Y2 := mX12_see) (c := t) (As := []) (S := []) d_X12_point_32 ok_mX12_see ml_X12_264 rfl (Nat.le_of_ble_eq_true rfl) (Nat.le_of_ble_eq_true rfl) rfl hd_1 kX12 o_t (CI.mono h (fun v2 σ1 h => ?_))
    refine r_bipush (x := 40) d_X12_point_35 ⟨by decide, by decide⟩ (by decide) ?_
    refine r_ic_eq (tgt := 69) d_X12_point_37 rfl (fun hc => ?_) (fun hc => ?_)
    · have h := h.1 hc
      refine r_aload_n (x := t) d_X12_point_69 rfl o_t.1 ?_
      refine r_dup d_X12_point_70 rfl ?_
      refine r_getf (j := 21) (t := 0) (x := (σ1 t 21)) d_X12_point_71 kX12 (by decide) fl_X12_255 o_t.1 o_t.2.1 o_t.2.2.1 o_t.2.2.2 rfl rfl ?_
      refine r_iconst (x := 1) d_X12_point_74 ⟨by decide, by decide⟩ ?_
      refine r_iadd d_X12_point_75 ?_
      refine r_putI (j := 21) d_X12_point_76 kX12 (by decide) fl_X12_255 rfl o_t.1 o_t.2.1 o_t.2.2.1 o_t.2.2.2 rfl ?_
      refine r_nmM (fun τ3 eτ3 => ?_)
      have h := h τ3 eτ3
      refine r_aload_n (x := t) d_X12_point_79 rfl o_t.1 ?_
      refine r_iload_n (x := x2) d_X12_point_80 rfl ?_
      refine r_iload_n (x := x2) d_X12_point_81 rfl ?_
      refine r_iconst (x := 4) d_X12_point_82 ⟨by decide, by decide⟩ ?_
      refine r_iadd d_X12_point_83 ?_
      refine x_callVV (Y2 := mX12_point) (c := t) (As := [(0, x2), (0, (addI x2 4))]) (S := []) d_X12_point_84 ok_mX12_point ml_X12_309 rfl (Nat.le_of_ble_eq_true rfl) (Nat.le_of_ble_eq_true rfl) rfl hd_1 kX12 o_t (CV.mono h (fun σ4 h => ?_))
      refine r_aload_n (x := t) d_X12_point_87 rfl o_t.1 ?_
      refine r_iload_n (x := x2) d_X12_point_88 rfl ?_
      refine r_iconst (x := 1) d_X12_point_89 ⟨by decide, by decide⟩ ?_
      refine r_iadd d_X12_point_90 ?_
      refine r_iload_n (x := x2) d_X12_point_91 rfl ?_
      refine r_iconst (x := 4) d_X12_point_92 ⟨by decide, by decide⟩ ?_
      refine r_iadd d_X12_point_93 ?_
      refine x_callVV (Y2 := mX12_point) (c := t) (As := [(0, (addI x2 1)), (0, (addI x2 4))]) (S := []) d_X12_point_94 ok_mX12_point ml_X12_309 rfl (Nat.le_of_ble_eq_true rfl) (Nat.le_of_ble_eq_true rfl) rfl hd_1 kX12 o_t (CV.mono h (fun σ5 h => ?_))
      refine r_aload_n (x := t) d_X12_point_97 rfl o_t.1 ?_
      refine r_dup d_X12_point_98 rfl ?_
      refine r_getf (j := 21) (t := 0) (x := (σ5 t 21)) d_X12_point_99 kX12 (by decide) fl_X12_255 o_t.1 o_t.2.1 o_t.2.2.1 o_t.2.2.2 rfl rfl ?_
      refine r_iconst (x := 1) d_X12_point_102 ⟨by decide, by decide⟩ ?_
      refine r_iadd d_X12_point_103 ?_
      refine r_putI (j := 21) d_X12_point_104 kX12 (by decide) fl_X12_255 rfl o_t.1 o_t.2.1 o_t.2.2.1 o_t.2.2.2 rfl ?_
      refine r_nmM (fun τ6 eτ6 => ?_)
      have h := h τ6 eτ6
      refine r_aload_n (x := t) d_X12_point_107 rfl o_t.1 ?_
      refine r_iload_n (x := x2) d_X12_point_108 rfl ?_
      refine r_iconst (x := 2) d_X12_point_109 ⟨by decide, by decide⟩ ?_
      refine r_iadd d_X12_point_110 ?_
      refine r_iload_n (x := x2) d_X12_point_111 rfl ?_
      refine r_iconst (x := 4) d_X12_point_112 ⟨by decide, by decide⟩ ?_
      refine r_iadd d_X12_point_113 ?_
      refine x_callVV (Y2 := mX12_point) (c := t) (As := [(0, (addI x2 2)), (0, (addI x2 4))]) (S := []) d_X12_point_114 ok_mX12_point ml_X12_309 rfl (Nat.le_of_ble_eq_true rfl) (Nat.le_of_ble_eq_true rfl) rfl hd_1 kX12 o_t (CV.mono h (fun σ7 h => ?_))
      refine r_aload_n (x := t) d_X12_point_117 rfl o_t.1 ?_
      refine r_iload_n (x := x2) d_X12_point_118 rfl ?_
      refine r_iconst (x := 3) d_X12_point_119 ⟨by decide, by decide⟩ ?_
      refine r_iadd d_X12_point_120 ?_
      refine r_iload_n (x := x2) d_X12_point_121 rfl ?_
      refine r_iconst (x := 4) d_X12_point_122 ⟨by decide, by decide⟩ ?_
      refine r_iadd d_X12_point_123 ?_
      refine x_callVV (Y2 := mX12_point) (c := t) (As := [(0, (addI x2 3)), (0, (addI x2 4))]) (S := []) d_X12_point_124 ok_mX12_point ml_X12_309 rfl (Nat.le_of_ble_eq_true rfl) (Nat.le_of_ble_eq_true rfl) rfl hd_1 kX12 o_t (CV.mono h (fun σ8 h => ?_))
      refine r_aload_n (x := t) d_X12_point_127 rfl o_t.1 ?_
      refine r_dup d_X12_point_128 rfl ?_
      refine r_getf (j := 21) (t := 0) (x := (σ8 t 21)) d_X12_point_129 kX12 (by decide) fl_X12_255 o_t.1 o_t.2.1 o_t.2.2.1 o_t.2.2.2 rfl rfl ?_
      refine r_iconst (x := 1) d_X12_point_132 ⟨by decide, by decide⟩ ?_
      refine r_iadd d_X12_point_133 ?_
      refine r_putI (j := 21) d_X12_point_134 kX12 (by decide) fl_X12_255 rfl o_t.1 o_t.2.1 o_t.2.2.1 o_t.2.2.2 rfl ?_
      refine r_nmM (fun τ9 eτ9 => ?_)
      have h := h τ9 eτ9
      refine r_aload_n (x := t) d_X12_point_137 rfl o_t.1 ?_
      refine r_iload_n (x := x2) d_X12_point_138 rfl ?_
      refine r_iload_n (x := x1) d_X12_point_139 rfl ?_
      refine x_callVV (Y2 := mX12_meets) (c := t) (As := [(0, x2), (0, x1)]) (S := []) d_X12_point_140 ok_mX12_meets ml_X12_312 rfl (Nat.le_of_ble_eq_true rfl) (Nat.le_of_ble_eq_true rfl) rfl hd_1 kX12 o_t (CV.mono h (fun σ10 h => ?_))
      exact r_vret d_X12_point_143 rfl (Nat.le_refl 0) (Nat.le_refl 0) ⟨rfl, rfl, rfl, h⟩
    · have h := h.2 hc
      refine r_aload_n (x := t) d_X12_point_40 rfl o_t.1 ?_
      refine r_iload_n (x := x1) d_X12_point_41 rfl ?_
      refine r_aload_n (x := t) d_X12_point_42 rfl o_t.1 ?_
      refine x_callVI (Y2 := mX12_see) (c := t) (As := []) (S := [(0, x1), (2, t)]) d_X12_point_43 ok_mX12_see ml_X12_264 rfl (Nat.le_of_ble_eq_true rfl) (Nat.le_of_ble_eq_true rfl) rfl hd_1 kX12 o_t (CI.mono h (fun v12 σ11 h => ?_))
      refine r_bipush (x := 97) d_X12_point_46 ⟨by decide, by decide⟩ (by decide) ?_
      refine r_isub d_X12_point_48 ?_
      refine x_callSI (Y2 := mX12_rowOf) (As := [(0, x1), (0, (subI v12 97))]) (S := [(2, t)]) d_X12_point_49 ok_mX12_rowOf ml_X12_306 rfl (Nat.le_of_ble_eq_true rfl) (Nat.le_of_ble_eq_true rfl) rfl hd_1 (c_X12_rowOf (v_X12_rowOf_0 ?_))
      show WP l mX12_point (rm d 0 0) noX _ 0 0 52 [(2, t), (0, x1), (0, x2), (0, x3)] [(0, (addI (addI 6 (mulI 10 x1)) (subI v12 97))), (2, t)] N Λ σ11
      refine r_iconst (x := 0) d_X12_point_52 ⟨by decide, by decide⟩ ?_
      refine r_lconst d_X12_point_53 ?_
      skip
      refine x_callVI (Y2 := mX12_puts) (c := t) (As := [(0, (addI (addI 6 (mulI 10 x1)) (subI v12 97))), (0, 0), (1, 1)]) (S := []) d_X12_point_54 ok_mX12_puts ml_X12_147 rfl (Nat.le_of_ble_eq_true rfl) (Nat.le_of_ble_eq_true rfl) rfl hd_1 kX12 o_t (CI.mono h (fun v14 σ13 h => ?_))
      refine r_pop d_X12_point_57 rfl ?_
      refine r_aload_n (x := t) d_X12_point_58 rfl o_t.1 ?_
      refine r_dup d_X12_point_59 rfl ?_
      refine r_getf (j := 21) (t := 0) (x := (σ13 t 21)) d_X12_point_60 kX12 (by decide) fl_X12_255 o_t.1 o_t.2.1 o_t.2.2.1 o_t.2.2.2 rfl rfl ?_
      refine r_iconst (x := 1) d_X12_point_63 ⟨by decide, by decide⟩ ?_
      refine r_iadd d_X12_point_64 ?_
      refine r_putI (j := 21) d_X12_point_65 kX12 (by decide) fl_X12_255 rfl o_t.1 o_t.2.1 o_t.2.2.1 o_t.2.2.2 rfl ?_
      refine r_nmM (fun τ15 eτ15 => ?_)
      have h := h τ15 eτ15
      exact r_vret d_X12_point_68 rfl (Nat.le_refl 0) (Nat.le_refl 0) ⟨rfl, rfl, rfl, h⟩
  · have h := h.2 hc
    refine r_aload_n (x := t) d_X12_point_16 rfl o_t.1 ?_
    refine r_iload_n (x := x1) d_X12_point_17 rfl ?_
    refine r_iload_n (x := x3) d_X12_point_18 rfl ?_
    refine x_callSI (Y2 := mX12_rowOf) (As := [(0, x1), (0, x3)]) (S := [(2, t)]) d_X12_point_19 ok_mX12_rowOf ml_X12_306 rfl (Nat.le_of_ble_eq_true rfl) (Nat.le_of_ble_eq_true rfl) rfl hd_1 (c_X12_rowOf (v_X12_rowOf_0 ?_))
    show WP l mX12_point (rm d 0 0) noX _ 0 0 22 [(2, t), (0, x1), (0, x2), (0, x3)] [(0, (addI (addI 6 (mulI 10 x1)) x3)), (2, t)] N Λ σ
    refine x_callVV (Y2 := mX12_empties) (c := t) (As := [(0, (addI (addI 6 (mulI 10 x1)) x3))]) (S := []) d_X12_point_22 ok_mX12_empties ml_X12_105 rfl (Nat.le_of_ble_eq_true rfl) (Nat.le_of_ble_eq_true rfl) rfl hd_1 kX12 o_t (CV.mono h (fun σ16 h => ?_))
    refine x_iinc (x := x3) (L := [(2, t), (0, x1), (0, x2), (0, x3)]) d_X12_point_25 rfl (by decide) rfl (fun y17 ey17 => ?_)
    have h := h y17 ey17
    show WP _ _ _ _ _ _ _ _ [(2, t), (0, x1), (0, x2), (0, y17)] _ _ _ _
    refine r_goto (tgt := 10) d_X12_point_28 rfl ?_
    exact h
theorem u_X12_figureText_0 {l : Launch} {d N : Nat} {Λ : Lay} {P : Mem → Prop} {σ : Mem} {t : Int}
    (h : WV l mX12_figureText d P 2 [(2, t), (0, 0)] [] N Λ σ) :
    WV l mX12_figureText d P 0 [(2, t), (3, 0)] [] N Λ σ := by
  refine r_iconst (x := 0) d_X12_figureText_0 ⟨by decide, by decide⟩ ?_
  refine r_istore_n (L2 := [(2, t), (0, 0)]) d_X12_figureText_1 (by decide) rfl rfl ?_
  exact h
theorem u_X12_figureText_2 {l : Launch} {d N : Nat} {Λ : Lay} {P : Mem → Prop} {σ : Mem} {x1 t : Int} (o_t : Ob N Λ t 21 36) (h0d : 1 ≤ d)
    (h : ((3 ≤ x1 → ((¬ (σ t 22) = 0 → P σ) ∧ ((σ t 22) = 0 → (((σ t 20) ≤ (σ t 21) → P σ) ∧ (¬ ((σ t 20) ≤ (σ t 21)) → (CV l mX12_wrongs (d - 1) [(2, t), (0, 1), (0, (σ t 21))] N Λ σ (fun σ1 => P σ1))))))) ∧ (¬ (3 ≤ x1) → (CV l mX12_pointText (d - 1) [(2, t), (0, 0)] N Λ σ (fun σ2 => (∀ y3, y3 = addI x1 1 → WV l mX12_figureText d P 2 [(2, t), (0, y3)] [] N Λ σ2)))))) :
    WV l mX12_figureText d P 2 [(2, t), (0, x1)] [] N Λ σ := by
  have hd_1 : 1 ≤ d := Nat.le_trans (by decide) h0d
  refine r_iload_n (x := x1) d_X12_figureText_2 rfl ?_
  refine r_iconst (x := 3) d_X12_figureText_3 ⟨by decide, by decide⟩ ?_
  refine r_ic_ge (tgt := 18) d_X12_figureText_4 rfl (fun hc => ?_) (fun hc => ?_)
  · have h := h.1 hc
    refine r_aload_n (x := t) d_X12_figureText_18 rfl o_t.1 ?_
    refine r_getf (j := 22) (t := 0) (x := (σ t 22)) d_X12_figureText_19 kX12 (by decide) fl_X12_261 o_t.1 o_t.2.1 o_t.2.2.1 o_t.2.2.2 rfl rfl ?_
    refine r_if_ne (tgt := 45) d_X12_figureText_22 rfl (fun hc => ?_) (fun hc => ?_)
    · have h := h.1 hc
      exact r_vret d_X12_figureText_45 rfl (Nat.le_refl 0) (Nat.le_refl 0) ⟨rfl, rfl, rfl, h⟩
    · have h := h.2 hc
      refine r_aload_n (x := t) d_X12_figureText_25 rfl o_t.1 ?_
      refine r_getf (j := 21) (t := 0) (x := (σ t 21)) d_X12_figureText_26 kX12 (by decide) fl_X12_255 o_t.1 o_t.2.1 o_t.2.2.1 o_t.2.2.2 rfl rfl ?_
      refine r_aload_n (x := t) d_X12_figureText_29 rfl o_t.1 ?_
      refine r_getf (j := 20) (t := 0) (x := (σ t 20)) d_X12_figureText_30 kX12 (by decide) fl_X12_258 o_t.1 o_t.2.1 o_t.2.2.1 o_t.2.2.2 rfl rfl ?_
      refine r_ic_ge (tgt := 45) d_X12_figureText_33 rfl (fun hc => ?_) (fun hc => ?_)
      · have h := h.1 hc
        exact r_vret d_X12_figureText_45 rfl (Nat.le_refl 0) (Nat.le_refl 0) ⟨rfl, rfl, rfl, h⟩
      · have h := h.2 hc
        refine r_aload_n (x := t) d_X12_figureText_36 rfl o_t.1 ?_
        refine r_iconst (x := 1) d_X12_figureText_37 ⟨by decide, by decide⟩ ?_
        refine r_aload_n (x := t) d_X12_figureText_38 rfl o_t.1 ?_
        refine r_getf (j := 21) (t := 0) (x := (σ t 21)) d_X12_figureText_39 kX12 (by decide) fl_X12_255 o_t.1 o_t.2.1 o_t.2.2.1 o_t.2.2.2 rfl rfl ?_
        refine x_callVV (Y2 := mX12_wrongs) (c := t) (As := [(0, 1), (0, (σ t 21))]) (S := []) d_X12_figureText_42 ok_mX12_wrongs ml_X12_276 rfl (Nat.le_of_ble_eq_true rfl) (Nat.le_of_ble_eq_true rfl) rfl hd_1 kX12 o_t (CV.mono h (fun σ1 h => ?_))
        exact r_vret d_X12_figureText_45 rfl (Nat.le_refl 0) (Nat.le_refl 0) ⟨rfl, rfl, rfl, h⟩
  · have h := h.2 hc
    refine r_aload_n (x := t) d_X12_figureText_7 rfl o_t.1 ?_
    refine r_iconst (x := 0) d_X12_figureText_8 ⟨by decide, by decide⟩ ?_
    refine x_callVV (Y2 := mX12_pointText) (c := t) (As := [(0, 0)]) (S := []) d_X12_figureText_9 ok_mX12_pointText ml_X12_303 rfl (Nat.le_of_ble_eq_true rfl) (Nat.le_of_ble_eq_true rfl) rfl hd_1 kX12 o_t (CV.mono h (fun σ2 h => ?_))
    refine x_iinc (x := x1) (L := [(2, t), (0, x1)]) d_X12_figureText_12 rfl (by decide) rfl (fun y3 ey3 => ?_)
    have h := h y3 ey3
    show WP _ _ _ _ _ _ _ _ [(2, t), (0, y3)] _ _ _ _
    refine r_goto (tgt := 2) d_X12_figureText_15 rfl ?_
    exact h
theorem u_X12_pointText_0 {l : Launch} {d N : Nat} {Λ : Lay} {P : Mem → Prop} {σ : Mem} {x1 t : Int} (o_t : Ob N Λ t 21 36) (h0d : 1 ≤ d)
    (h : (((σ t 22) = 0 → (CI l mX12_see (d - 1) [(2, t)] N Λ σ (fun v2 σ1 => ((v2 = 40 → ((¬ x1 = 2 → (∀ τ3, τ3 = st σ1 t 21 (addI (σ1 t 21) 1) → (CV l mX12_pointText (d - 1) [(2, t), (0, (addI x1 1))] N Λ τ3 (fun σ4 => (CV l mX12_pointText (d - 1) [(2, t), (0, (addI x1 1))] N Λ σ4 (fun σ5 => (CI l mX12_see (d - 1) [(2, t)] N Λ σ5 (fun v7 σ6 => ((¬ v7 = 94 → (CV l mX12_must (d - 1) [(2, t), (0, 0)] N Λ σ6 (fun σ8 => (CV l mX12_pointText (d - 1) [(2, t), (0, (addI x1 1))] N Λ σ8 (fun σ9 => (CV l mX12_pointText (d - 1) [(2, t), (0, (addI x1 1))] N Λ σ9 (fun σ10 => (CI l mX12_see (d - 1) [(2, t)] N Λ σ10 (fun v12 σ11 => ((¬ v12 = 41 → (CV l mX12_must (d - 1) [(2, t), (0, 0)] N Λ σ11 (fun σ13 => P σ13))) ∧ (v12 = 41 → (CV l mX12_must (d - 1) [(2, t), (0, 1)] N Λ σ11 (fun σ14 => P σ14))))))))))))) ∧ (v7 = 94 → (CV l mX12_must (d - 1) [(2, t), (0, 1)] N Λ σ6 (fun σ15 => (CV l mX12_pointText (d - 1) [(2, t), (0, (addI x1 1))] N Λ σ15 (fun σ16 => (CV l mX12_pointText (d - 1) [(2, t), (0, (addI x1 1))] N Λ σ16 (fun σ17 => (CI l mX12_see (d - 1) [(2, t)] N Λ σ17 (fun v19 σ18 => ((¬ v19 = 41 → (CV l mX12_must (d - 1) [(2, t), (0, 0)] N Λ σ18 (fun σ20 => P σ20))) ∧ (v19 = 41 → (CV l mX12_must (d - 1) [(2, t), (0, 1)] N Λ σ18 (fun σ21 => P σ21)))))))))))))))))))))) ∧ (x1 = 2 → (CV l mX12_wrongs (d - 1) [(2, t), (0, 4), (0, (σ1 t 21))] N Λ σ1 (fun σ22 => P σ22))))) ∧ (¬ (v2 = 40) → (CI l mX12_seesLetter (d - 1) [(2, t)] N Λ σ1 (fun v24 σ23 => (CV l mX12_must (d - 1) [(2, t), (0, v24)] N Λ σ23 (fun σ25 => P σ25))))))))) ∧ (¬ ((σ t 22) = 0) → P σ))) :
    WV l mX12_pointText d P 0 [(2, t), (0, x1)] [] N Λ σ := by
  have hd_1 : 1 ≤ d := Nat.le_trans (by decide) h0d
  refine r_aload_n (x := t) d_X12_pointText_0 rfl o_t.1 ?_
  refine r_getf (j := 22) (t := 0) (x := (σ t 22)) d_X12_pointText_1 kX12 (by decide) fl_X12_261 o_t.1 o_t.2.1 o_t.2.2.1 o_t.2.2.2 rfl rfl ?_
  refine r_if_eq (tgt := 8) d_X12_pointText_4 rfl (fun hc => ?_) (fun hc => ?_)
  · have h := h.1 hc
    refine r_aload_n (x := t) d_X12_pointText_8 rfl o_t.1 ?_
    refine x_callVI (Y2 := mX12_see) (c := t) (As := []) (S := []) d_X12_pointText_9 ok_mX12_see ml_X12_264 rfl (Nat.le_of_ble_eq_true rfl) (Nat.le_of_ble_eq_true rfl) rfl hd_1 kX12 o_t (CI.mono h (fun v2 σ1 h => ?_))
    refine r_bipush (x := 40) d_X12_pointText_12 ⟨by decide, by decide⟩ (by decide) ?_
    refine r_ic_eq (tgt := 26) d_X12_pointText_14 rfl (fun hc => ?_) (fun hc => ?_)
    · have h := h.1 hc
      refine r_iload_n (x := x1) d_X12_pointText_26 rfl ?_
      refine r_iconst (x := 2) d_X12_pointText_27 ⟨by decide, by decide⟩ ?_
      refine r_ic_ne (tgt := 41) d_X12_pointText_28 rfl (fun hc => ?_) (fun hc => ?_)
      · have h := h.1 hc
        refine r_aload_n (x := t) d_X12_pointText_41 rfl o_t.1 ?_
        refine r_dup d_X12_pointText_42 rfl ?_
        refine r_getf (j := 21) (t := 0) (x := (σ1 t 21)) d_X12_pointText_43 kX12 (by decide) fl_X12_255 o_t.1 o_t.2.1 o_t.2.2.1 o_t.2.2.2 rfl rfl ?_
        refine r_iconst (x := 1) d_X12_pointText_46 ⟨by decide, by decide⟩ ?_
        refine r_iadd d_X12_pointText_47 ?_
        refine r_putI (j := 21) d_X12_pointText_48 kX12 (by decide) fl_X12_255 rfl o_t.1 o_t.2.1 o_t.2.2.1 o_t.2.2.2 rfl ?_
        refine r_nmM (fun τ3 eτ3 => ?_)
        have h := h τ3 eτ3
        refine r_aload_n (x := t) d_X12_pointText_51 rfl o_t.1 ?_
        refine r_iload_n (x := x1) d_X12_pointText_52 rfl ?_
        refine r_iconst (x := 1) d_X12_pointText_53 ⟨by decide, by decide⟩ ?_
        refine r_iadd d_X12_pointText_54 ?_
        refine x_callVV (Y2 := mX12_pointText) (c := t) (As := [(0, (addI x1 1))]) (S := []) d_X12_pointText_55 ok_mX12_pointText ml_X12_303 rfl (Nat.le_of_ble_eq_true rfl) (Nat.le_of_ble_eq_true rfl) rfl hd_1 kX12 o_t (CV.mono h (fun σ4 h => ?_))
        refine r_aload_n (x := t) d_X12_pointText_58 rfl o_t.1 ?_
        refine r_iload_n (x := x1) d_X12_pointText_59 rfl ?_
        refine r_iconst (x := 1) d_X12_pointText_60 ⟨by decide, by decide⟩ ?_
        refine r_iadd d_X12_pointText_61 ?_
        refine x_callVV (Y2 := mX12_pointText) (c := t) (As := [(0, (addI x1 1))]) (S := []) d_X12_pointText_62 ok_mX12_pointText ml_X12_303 rfl (Nat.le_of_ble_eq_true rfl) (Nat.le_of_ble_eq_true rfl) rfl hd_1 kX12 o_t (CV.mono h (fun σ5 h => ?_))
        refine r_aload_n (x := t) d_X12_pointText_65 rfl o_t.1 ?_
        refine r_aload_n (x := t) d_X12_pointText_66 rfl o_t.1 ?_
        refine x_callVI (Y2 := mX12_see) (c := t) (As := []) (S := [(2, t)]) d_X12_pointText_67 ok_mX12_see ml_X12_264 rfl (Nat.le_of_ble_eq_true rfl) (Nat.le_of_ble_eq_true rfl) rfl hd_1 kX12 o_t (CI.mono h (fun v7 σ6 h => ?_))
        refine r_bipush (x := 94) d_X12_pointText_70 ⟨by decide, by decide⟩ (by decide) ?_
        refine r_ic_ne (tgt := 79) d_X12_pointText_72 rfl (fun hc => ?_) (fun hc => ?_)
        · have h := h.1 hc
          refine r_iconst (x := 0) d_X12_pointText_79 ⟨by decide, by decide⟩ ?_
          refine x_callVV (Y2 := mX12_must) (c := t) (As := [(0, 0)]) (S := []) d_X12_pointText_80 ok_mX12_must ml_X12_286 rfl (Nat.le_of_ble_eq_true rfl) (Nat.le_of_ble_eq_true rfl) rfl hd_1 kX12 o_t (CV.mono h (fun σ8 h => ?_))
          refine r_aload_n (x := t) d_X12_pointText_83 rfl o_t.1 ?_
          refine r_iload_n (x := x1) d_X12_pointText_84 rfl ?_
          refine r_iconst (x := 1) d_X12_pointText_85 ⟨by decide, by decide⟩ ?_
          refine r_iadd d_X12_pointText_86 ?_
          refine x_callVV (Y2 := mX12_pointText) (c := t) (As := [(0, (addI x1 1))]) (S := []) d_X12_pointText_87 ok_mX12_pointText ml_X12_303 rfl (Nat.le_of_ble_eq_true rfl) (Nat.le_of_ble_eq_true rfl) rfl hd_1 kX12 o_t (CV.mono h (fun σ9 h => ?_))
          refine r_aload_n (x := t) d_X12_pointText_90 rfl o_t.1 ?_
          refine r_iload_n (x := x1) d_X12_pointText_91 rfl ?_
          refine r_iconst (x := 1) d_X12_pointText_92 ⟨by decide, by decide⟩ ?_
          refine r_iadd d_X12_pointText_93 ?_
          refine x_callVV (Y2 := mX12_pointText) (c := t) (As := [(0, (addI x1 1))]) (S := []) d_X12_pointText_94 ok_mX12_pointText ml_X12_303 rfl (Nat.le_of_ble_eq_true rfl) (Nat.le_of_ble_eq_true rfl) rfl hd_1 kX12 o_t (CV.mono h (fun σ10 h => ?_))
          refine r_aload_n (x := t) d_X12_pointText_97 rfl o_t.1 ?_
          refine r_aload_n (x := t) d_X12_pointText_98 rfl o_t.1 ?_
          refine x_callVI (Y2 := mX12_see) (c := t) (As := []) (S := [(2, t)]) d_X12_pointText_99 ok_mX12_see ml_X12_264 rfl (Nat.le_of_ble_eq_true rfl) (Nat.le_of_ble_eq_true rfl) rfl hd_1 kX12 o_t (CI.mono h (fun v12 σ11 h => ?_))
          refine r_bipush (x := 41) d_X12_pointText_102 ⟨by decide, by decide⟩ (by decide) ?_
          refine r_ic_ne (tgt := 111) d_X12_pointText_104 rfl (fun hc => ?_) (fun hc => ?_)
          · have h := h.1 hc
            refine r_iconst (x := 0) d_X12_pointText_111 ⟨by decide, by decide⟩ ?_
            refine x_callVV (Y2 := mX12_must) (c := t) (As := [(0, 0)]) (S := []) d_X12_pointText_112 ok_mX12_must ml_X12_286 rfl (Nat.le_of_ble_eq_true rfl) (Nat.le_of_ble_eq_true rfl) rfl hd_1 kX12 o_t (CV.mono h (fun σ13 h => ?_))
            exact r_vret d_X12_pointText_115 rfl (Nat.le_refl 0) (Nat.le_refl 0) ⟨rfl, rfl, rfl, h⟩
          · have h := h.2 hc
            refine r_iconst (x := 1) d_X12_pointText_107 ⟨by decide, by decide⟩ ?_
            refine r_goto (tgt := 112) d_X12_pointText_108 rfl ?_
            refine x_callVV (Y2 := mX12_must) (c := t) (As := [(0, 1)]) (S := []) d_X12_pointText_112 ok_mX12_must ml_X12_286 rfl (Nat.le_of_ble_eq_true rfl) (Nat.le_of_ble_eq_true rfl) rfl hd_1 kX12 o_t (CV.mono h (fun σ14 h => ?_))
            exact r_vret d_X12_pointText_115 rfl (Nat.le_refl 0) (Nat.le_refl 0) ⟨rfl, rfl, rfl, h⟩
        · have h := h.2 hc
          refine r_iconst (x := 1) d_X12_pointText_75 ⟨by decide, by decide⟩ ?_
          refine r_goto (tgt := 80) d_X12_pointText_76 rfl ?_
          refine x_callVV (Y2 := mX12_must) (c := t) (As := [(0, 1)]) (S := []) d_X12_pointText_80 ok_mX12_must ml_X12_286 rfl (Nat.le_of_ble_eq_true rfl) (Nat.le_of_ble_eq_true rfl) rfl hd_1 kX12 o_t (CV.mono h (fun σ15 h => ?_))
          refine r_aload_n (x := t) d_X12_pointText_83 rfl o_t.1 ?_
          refine r_iload_n (x := x1) d_X12_pointText_84 rfl ?_
          refine r_iconst (x := 1) d_X12_pointText_85 ⟨by decide, by decide⟩ ?_
          refine r_iadd d_X12_pointText_86 ?_
          refine x_callVV (Y2 := mX12_pointText) (c := t) (As := [(0, (addI x1 1))]) (S := []) d_X12_pointText_87 ok_mX12_pointText ml_X12_303 rfl (Nat.le_of_ble_eq_true rfl) (Nat.le_of_ble_eq_true rfl) rfl hd_1 kX12 o_t (CV.mono h (fun σ16 h => ?_))
          refine r_aload_n (x := t) d_X12_pointText_90 rfl o_t.1 ?_
          refine r_iload_n (x := x1) d_X12_pointText_91 rfl ?_
          refine r_iconst (x := 1) d_X12_pointText_92 ⟨by decide, by decide⟩ ?_
          refine r_iadd d_X12_pointText_93 ?_
          refine x_callVV (Y2 := mX12_pointText) (c := t) (As := [(0, (addI x1 1))]) (S := []) d_X12_pointText_94 ok_mX12_pointText ml_X12_303 rfl (Nat.le_of_ble_eq_true rfl) (Nat.le_of_ble_eq_true rfl) rfl hd_1 kX12 o_t (CV.mono h (fun σ17 h => ?_))
          refine r_aload_n (x := t) d_X12_pointText_97 rfl o_t.1 ?_
          refine r_aload_n (x := t) d_X12_pointText_98 rfl o_t.1 ?_
          refine x_callVI (Y2 := mX12_see) (c := t) (As := []) (S := [(2, t)]) d_X12_pointText_99 ok_mX12_see ml_X12_264 rfl (Nat.le_of_ble_eq_true rfl) (Nat.le_of_ble_eq_true rfl) rfl hd_1 kX12 o_t (CI.mono h (fun v19 σ18 h => ?_))
          refine r_bipush (x := 41) d_X12_pointText_102 ⟨by decide, by decide⟩ (by decide) ?_
          refine r_ic_ne (tgt := 111) d_X12_pointText_104 rfl (fun hc => ?_) (fun hc => ?_)
          · have h := h.1 hc
            refine r_iconst (x := 0) d_X12_pointText_111 ⟨by decide, by decide⟩ ?_
            refine x_callVV (Y2 := mX12_must) (c := t) (As := [(0, 0)]) (S := []) d_X12_pointText_112 ok_mX12_must ml_X12_286 rfl (Nat.le_of_ble_eq_true rfl) (Nat.le_of_ble_eq_true rfl) rfl hd_1 kX12 o_t (CV.mono h (fun σ20 h => ?_))
            exact r_vret d_X12_pointText_115 rfl (Nat.le_refl 0) (Nat.le_refl 0) ⟨rfl, rfl, rfl, h⟩
          · have h := h.2 hc
            refine r_iconst (x := 1) d_X12_pointText_107 ⟨by decide, by decide⟩ ?_
            refine r_goto (tgt := 112) d_X12_pointText_108 rfl ?_
            refine x_callVV (Y2 := mX12_must) (c := t) (As := [(0, 1)]) (S := []) d_X12_pointText_112 ok_mX12_must ml_X12_286 rfl (Nat.le_of_ble_eq_true rfl) (Nat.le_of_ble_eq_true rfl) rfl hd_1 kX12 o_t (CV.mono h (fun σ21 h => ?_))
            exact r_vret d_X12_pointText_115 rfl (Nat.le_refl 0) (Nat.le_refl 0) ⟨rfl, rfl, rfl, h⟩
      · have h := h.2 hc
        refine r_aload_n (x := t) d_X12_pointText_31 rfl o_t.1 ?_
        refine r_iconst (x := 4) d_X12_pointText_32 ⟨by decide, by decide⟩ ?_
        refine r_aload_n (x := t) d_X12_pointText_33 rfl o_t.1 ?_
        refine r_getf (j := 21) (t := 0) (x := (σ1 t 21)) d_X12_pointText_34 kX12 (by decide) fl_X12_255 o_t.1 o_t.2.1 o_t.2.2.1 o_t.2.2.2 rfl rfl ?_
        refine x_callVV (Y2 := mX12_wrongs) (c := t) (As := [(0, 4), (0, (σ1 t 21))]) (S := []) d_X12_pointText_37 ok_mX12_wrongs ml_X12_276 rfl (Nat.le_of_ble_eq_true rfl) (Nat.le_of_ble_eq_true rfl) rfl hd_1 kX12 o_t (CV.mono h (fun σ22 h => ?_))
        exact r_vret d_X12_pointText_40 rfl (Nat.le_refl 0) (Nat.le_refl 0) ⟨rfl, rfl, rfl, h⟩
    · have h := h.2 hc
      refine r_aload_n (x := t) d_X12_pointText_17 rfl o_t.1 ?_
      refine r_aload_n (x := t) d_X12_pointText_18 rfl o_t.1 ?_
      refine x_callVI (Y2 := mX12_seesLetter) (c := t) (As := []) (S := [(2, t)]) d_X12_pointText_19 ok_mX12_seesLetter ml_X12_283 rfl (Nat.le_of_ble_eq_true rfl) (Nat.le_of_ble_eq_true rfl) rfl hd_1 kX12 o_t (CI.mono h (fun v24 σ23 h => ?_))
      refine x_callVV (Y2 := mX12_must) (c := t) (As := [(0, v24)]) (S := []) d_X12_pointText_22 ok_mX12_must ml_X12_286 rfl (Nat.le_of_ble_eq_true rfl) (Nat.le_of_ble_eq_true rfl) rfl hd_1 kX12 o_t (CV.mono h (fun σ25 h => ?_))
      exact r_vret d_X12_pointText_25 rfl (Nat.le_refl 0) (Nat.le_refl 0) ⟨rfl, rfl, rfl, h⟩
  · have h := h.2 hc
    exact r_vret d_X12_pointText_7 rfl (Nat.le_refl 0) (Nat.le_refl 0) ⟨rfl, rfl, rfl, h⟩
theorem u_X12_term_0 {l : Launch} {d N : Nat} {Λ : Lay} {P : Mem → Prop} {σ : Mem} {x1 x2 t : Int} (o_t : Ob N Λ t 21 36)
    (h : (∀ y1, y1 = (σ t 21) → WV l mX12_term d P 8 [(2, t), (0, x1), (0, x2), (0, y1), (0, 0), (3, 0), (3, 0), (3, 0), (3, 0), (3, 0)] [] N Λ σ)) :
    WV l mX12_term d P 0 [(2, t), (0, x1), (0, x2), (3, 0), (3, 0), (3, 0), (3, 0), (3, 0), (3, 0), (3, 0)] [] N Λ σ := by
  refine r_aload_n (x := t) d_X12_term_0 rfl o_t.1 ?_
  refine r_getf (j := 21) (t := 0) (x := (σ t 21)) d_X12_term_1 kX12 (by decide) fl_X12_255 o_t.1 o_t.2.1 o_t.2.2.1 o_t.2.2.2 rfl rfl ?_
  refine r_nm (fun y1 ey1 => ?_)
  have h := h y1 ey1
  refine r_istore_n (L2 := [(2, t), (0, x1), (0, x2), (0, y1), (3, 0), (3, 0), (3, 0), (3, 0), (3, 0), (3, 0)]) d_X12_term_4 (by decide) rfl rfl ?_
  refine r_iconst (x := 0) d_X12_term_5 ⟨by decide, by decide⟩ ?_
  refine r_istore (L2 := [(2, t), (0, x1), (0, x2), (0, y1), (0, 0), (3, 0), (3, 0), (3, 0), (3, 0), (3, 0)]) d_X12_term_6 (by decide) rfl rfl ?_
  exact h
theorem u_X12_term_8 {l : Launch} {d N : Nat} {Λ : Lay} {P : Mem → Prop} {σ : Mem} {x1 x2 x3 x4 t : Int} (o_t : Ob N Λ t 21 36) (h0d : 1 ≤ d)
    (h : (CI l mX12_isDigit (d - 1) [(2, t)] N Λ σ (fun v2 σ1 => ((v2 = 0 → (((σ1 t 21) ≤ (addI x3 4) → WV l mX12_term d P 72 [(2, t), (0, x1), (0, x2), (0, x3), (0, x4), (3, 0), (3, 0), (3, 0), (3, 0), (3, 0)] [] N Λ σ1) ∧ (¬ ((σ1 t 21) ≤ (addI x3 4)) → (CV l mX12_wrongs (d - 1) [(2, t), (0, 2), (0, x3)] N Λ σ1 (fun σ3 => WV l mX12_term d P 72 [(2, t), (0, x1), (0, x2), (0, x3), (0, x4), (3, 0), (3, 0), (3, 0), (3, 0), (3, 0)] [] N Λ σ3))))) ∧ (¬ (v2 = 0) → ((x4 ≤ 9999 → (CI l mX12_see (d - 1) [(2, t)] N Λ σ1 (fun v5 σ4 => WV l mX12_term d P 41 [(2, t), (0, x1), (0, x2), (0, x3), (0, x4), (3, 0), (3, 0), (3, 0), (3, 0), (3, 0)] [(0, (subI (addI (mulI 10 x4) v5) 48))] N Λ σ4))) ∧ (¬ (x4 ≤ 9999) → WV l mX12_term d P 41 [(2, t), (0, x1), (0, x2), (0, x3), (0, x4), (3, 0), (3, 0), (3, 0), (3, 0), (3, 0)] [(0, x4)] N Λ σ1))))))) :
    WV l mX12_term d P 8 [(2, t), (0, x1), (0, x2), (0, x3), (0, x4), (3, 0), (3, 0), (3, 0), (3, 0), (3, 0)] [] N Λ σ := by
  have hd_1 : 1 ≤ d := Nat.le_trans (by decide) h0d
  refine r_aload_n (x := t) d_X12_term_8 rfl o_t.1 ?_
  refine x_callVI (Y2 := mX12_isDigit) (c := t) (As := []) (S := []) d_X12_term_9 ok_mX12_isDigit ml_X12_279 rfl (Nat.le_of_ble_eq_true rfl) (Nat.le_of_ble_eq_true rfl) rfl hd_1 kX12 o_t (CI.mono h (fun v2 σ1 h => ?_))
  refine r_if_eq (tgt := 56) d_X12_term_12 rfl (fun hc => ?_) (fun hc => ?_)
  · have h := h.1 hc
    refine r_aload_n (x := t) d_X12_term_56 rfl o_t.1 ?_
    refine r_getf (j := 21) (t := 0) (x := (σ1 t 21)) d_X12_term_57 kX12 (by decide) fl_X12_255 o_t.1 o_t.2.1 o_t.2.2.1 o_t.2.2.2 rfl rfl ?_
    refine r_iload_n (x := x3) d_X12_term_60 rfl ?_
    refine r_iconst (x := 4) d_X12_term_61 ⟨by decide, by decide⟩ ?_
    refine r_iadd d_X12_term_62 ?_
    refine r_ic_le (tgt := 72) d_X12_term_63 rfl (fun hc => ?_) (fun hc => ?_)
    · have h := h.1 hc
      exact h
    · have h := h.2 hc
      refine r_aload_n (x := t) d_X12_term_66 rfl o_t.1 ?_
      refine r_iconst (x := 2) d_X12_term_67 ⟨by decide, by decide⟩ ?_
      refine r_iload_n (x := x3) d_X12_term_68 rfl ?_
      refine x_callVV (Y2 := mX12_wrongs) (c := t) (As := [(0, 2), (0, x3)]) (S := []) d_X12_term_69 ok_mX12_wrongs ml_X12_276 rfl (Nat.le_of_ble_eq_true rfl) (Nat.le_of_ble_eq_true rfl) rfl hd_1 kX12 o_t (CV.mono h (fun σ3 h => ?_))
      exact h
  · have h := h.2 hc
    refine r_iload (x := x4) d_X12_term_15 rfl ?_
    refine r_sipush (x := 9999) d_X12_term_17 ⟨by decide, by decide⟩ (by decide) ?_
    refine r_ic_le (tgt := 28) d_X12_term_20 rfl (fun hc => ?_) (fun hc => ?_)
    · have h := h.1 hc
      refine r_bipush (x := 10) d_X12_term_28 ⟨by decide, by decide⟩ (by decide) ?_
      refine r_iload (x := x4) d_X12_term_30 rfl ?_
      refine r_imul d_X12_term_32 ?_
      refine r_aload_n (x := t) d_X12_term_33 rfl o_t.1 ?_
      refine x_callVI (Y2 := mX12_see) (c := t) (As := []) (S := [(0, (mulI 10 x4))]) d_X12_term_34 ok_mX12_see ml_X12_264 rfl (Nat.le_of_ble_eq_true rfl) (Nat.le_of_ble_eq_true rfl) rfl hd_1 kX12 o_t (CI.mono h (fun v5 σ4 h => ?_))
      refine r_iadd d_X12_term_37 ?_
      refine r_bipush (x := 48) d_X12_term_38 ⟨by decide, by decide⟩ (by decide) ?_
      refine r_isub d_X12_term_40 ?_
      exact h
    · have h := h.2 hc
      refine r_iload (x := x4) d_X12_term_23 rfl ?_
      refine r_goto (tgt := 41) d_X12_term_25 rfl ?_
      exact h
theorem u_X12_term_41 {l : Launch} {d N : Nat} {Λ : Lay} {P : Mem → Prop} {σ : Mem} {x1 x2 x3 x4 w0 t : Int} (o_t : Ob N Λ t 21 36)
    (h : (∀ τ1, τ1 = st σ t 21 (addI (σ t 21) 1) → WV l mX12_term d P 8 [(2, t), (0, x1), (0, x2), (0, x3), (0, w0), (3, 0), (3, 0), (3, 0), (3, 0), (3, 0)] [] N Λ τ1)) :
    WV l mX12_term d P 41 [(2, t), (0, x1), (0, x2), (0, x3), (0, x4), (3, 0), (3, 0), (3, 0), (3, 0), (3, 0)] [(0, w0)] N Λ σ := by
  refine r_istore (L2 := [(2, t), (0, x1), (0, x2), (0, x3), (0, w0), (3, 0), (3, 0), (3, 0), (3, 0), (3, 0)]) d_X12_term_41 (by decide) rfl rfl ?_
  refine r_aload_n (x := t) d_X12_term_43 rfl o_t.1 ?_
  refine r_dup d_X12_term_44 rfl ?_
  refine r_getf (j := 21) (t := 0) (x := (σ t 21)) d_X12_term_45 kX12 (by decide) fl_X12_255 o_t.1 o_t.2.1 o_t.2.2.1 o_t.2.2.2 rfl rfl ?_
  refine r_iconst (x := 1) d_X12_term_48 ⟨by decide, by decide⟩ ?_
  refine r_iadd d_X12_term_49 ?_
  refine r_putI (j := 21) d_X12_term_50 kX12 (by decide) fl_X12_255 rfl o_t.1 o_t.2.1 o_t.2.2.1 o_t.2.2.2 rfl ?_
  refine r_nmM (fun τ1 eτ1 => ?_)
  have h := h τ1 eτ1
  refine r_goto (tgt := 8) d_X12_term_53 rfl ?_
  exact h
theorem u_X12_term_72 {l : Launch} {d N : Nat} {Λ : Lay} {P : Mem → Prop} {σ : Mem} {x1 x2 x3 x4 t : Int} (o_t : Ob N Λ t 21 36)
    (h : (((σ t 21) ≤ x3 → WV l mX12_term d P 85 [(2, t), (0, x1), (0, x2), (0, x3), (0, x4), (3, 0), (3, 0), (3, 0), (3, 0), (3, 0)] [(0, 0)] N Λ σ) ∧ (¬ ((σ t 21) ≤ x3) → WV l mX12_term d P 85 [(2, t), (0, x1), (0, x2), (0, x3), (0, x4), (3, 0), (3, 0), (3, 0), (3, 0), (3, 0)] [(0, 1)] N Λ σ))) :
    WV l mX12_term d P 72 [(2, t), (0, x1), (0, x2), (0, x3), (0, x4), (3, 0), (3, 0), (3, 0), (3, 0), (3, 0)] [] N Λ σ := by
  refine r_aload_n (x := t) d_X12_term_72 rfl o_t.1 ?_
  refine r_getf (j := 21) (t := 0) (x := (σ t 21)) d_X12_term_73 kX12 (by decide) fl_X12_255 o_t.1 o_t.2.1 o_t.2.2.1 o_t.2.2.2 rfl rfl ?_
  refine r_iload_n (x := x3) d_X12_term_76 rfl ?_
  refine r_ic_le (tgt := 84) d_X12_term_77 rfl (fun hc => ?_) (fun hc => ?_)
  · have h := h.1 hc
    refine r_iconst (x := 0) d_X12_term_84 ⟨by decide, by decide⟩ ?_
    exact h
  · have h := h.2 hc
    refine r_iconst (x := 1) d_X12_term_80 ⟨by decide, by decide⟩ ?_
    refine r_goto (tgt := 85) d_X12_term_81 rfl ?_
    exact h
theorem u_X12_term_85 {l : Launch} {d N : Nat} {Λ : Lay} {P : Mem → Prop} {σ : Mem} {x1 x2 x3 x4 w0 t : Int} (o_t : Ob N Λ t 21 36) (h0d : 1 ≤ d)
    (h : ((¬ w0 = 0 → WV l mX12_term d P 110 [(2, t), (0, x1), (0, x2), (0, x3), (0, x4), (0, w0), (3, 0), (3, 0), (3, 0), (3, 0)] [] N Λ σ) ∧ (w0 = 0 → (CI l mX12_see (d - 1) [(2, t)] N Λ σ (fun v2 σ1 => ((v2 = 91 → WV l mX12_term d P 110 [(2, t), (0, x1), (0, x2), (0, x3), (0, x4), (0, w0), (3, 0), (3, 0), (3, 0), (3, 0)] [] N Λ σ1) ∧ (¬ (v2 = 91) → (CV l mX12_wrongs (d - 1) [(2, t), (0, 1), (0, (σ1 t 21))] N Λ σ1 (fun σ3 => WV l mX12_term d P 110 [(2, t), (0, x1), (0, x2), (0, x3), (0, x4), (0, w0), (3, 0), (3, 0), (3, 0), (3, 0)] [] N Λ σ3))))))))) :
    WV l mX12_term d P 85 [(2, t), (0, x1), (0, x2), (0, x3), (0, x4), (3, 0), (3, 0), (3, 0), (3, 0), (3, 0)] [(0, w0)] N Λ σ := by
  have hd_1 : 1 ≤ d := Nat.le_trans (by decide) h0d
  refine r_istore (L2 := [(2, t), (0, x1), (0, x2), (0, x3), (0, x4), (0, w0), (3, 0), (3, 0), (3, 0), (3, 0)]) d_X12_term_85 (by decide) rfl rfl ?_
  refine r_iload (x := w0) d_X12_term_87 rfl ?_
  refine r_if_ne (tgt := 110) d_X12_term_89 rfl (fun hc => ?_) (fun hc => ?_)
  · have h := h.1 hc
    exact h
  · have h := h.2 hc
    refine r_aload_n (x := t) d_X12_term_92 rfl o_t.1 ?_
    refine x_callVI (Y2 := mX12_see) (c := t) (As := []) (S := []) d_X12_term_93 ok_mX12_see ml_X12_264 rfl (Nat.le_of_ble_eq_true rfl) (Nat.le_of_ble_eq_true rfl) rfl hd_1 kX12 o_t (CI.mono h (fun v2 σ1 h => ?_))
    refine r_bipush (x := 91) d_X12_term_96 ⟨by decide, by decide⟩ (by decide) ?_
    refine r_ic_eq (tgt := 110) d_X12_term_98 rfl (fun hc => ?_) (fun hc => ?_)
    · have h := h.1 hc
      exact h
    · have h := h.2 hc
      refine r_aload_n (x := t) d_X12_term_101 rfl o_t.1 ?_
      refine r_iconst (x := 1) d_X12_term_102 ⟨by decide, by decide⟩ ?_
      refine r_aload_n (x := t) d_X12_term_103 rfl o_t.1 ?_
      refine r_getf (j := 21) (t := 0) (x := (σ1 t 21)) d_X12_term_104 kX12 (by decide) fl_X12_255 o_t.1 o_t.2.1 o_t.2.2.1 o_t.2.2.2 rfl rfl ?_
      refine x_callVV (Y2 := mX12_wrongs) (c := t) (As := [(0, 1), (0, (σ1 t 21))]) (S := []) d_X12_term_107 ok_mX12_wrongs ml_X12_276 rfl (Nat.le_of_ble_eq_true rfl) (Nat.le_of_ble_eq_true rfl) rfl hd_1 kX12 o_t (CV.mono h (fun σ3 h => ?_))
      exact h
theorem u_X12_term_110 {l : Launch} {d N : Nat} {Λ : Lay} {P : Mem → Prop} {σ : Mem} {x1 x2 x3 x4 x5 t : Int}
    (h : ((x5 = 0 → WV l mX12_term d P 122 [(2, t), (0, x1), (0, x2), (0, x3), (0, x4), (0, x5), (3, 0), (3, 0), (3, 0), (3, 0)] [(0, 1), (0, x1)] N Λ σ) ∧ (¬ (x5 = 0) → WV l mX12_term d P 122 [(2, t), (0, x1), (0, x2), (0, x3), (0, x4), (0, x5), (3, 0), (3, 0), (3, 0), (3, 0)] [(0, x4), (0, x1)] N Λ σ))) :
    WV l mX12_term d P 110 [(2, t), (0, x1), (0, x2), (0, x3), (0, x4), (0, x5), (3, 0), (3, 0), (3, 0), (3, 0)] [] N Λ σ := by
  refine r_iload_n (x := x1) d_X12_term_110 rfl ?_
  refine r_iload (x := x5) d_X12_term_111 rfl ?_
  refine r_if_eq (tgt := 121) d_X12_term_113 rfl (fun hc => ?_) (fun hc => ?_)
  · have h := h.1 hc
    refine r_iconst (x := 1) d_X12_term_121 ⟨by decide, by decide⟩ ?_
    exact h
  · have h := h.2 hc
    refine r_iload (x := x4) d_X12_term_116 rfl ?_
    refine r_goto (tgt := 122) d_X12_term_118 rfl ?_
    exact h
theorem u_X12_term_122 {l : Launch} {d N : Nat} {Λ : Lay} {P : Mem → Prop} {σ : Mem} {x1 x2 x3 x4 x5 w0 w1 t : Int}
    (h : (∀ y1, y1 = (mulI w1 w0) → WV l mX12_term d P 129 [(2, t), (0, x1), (0, x2), (0, x3), (0, x4), (0, x5), (1, y1), (3, 0), (0, 0), (3, 0)] [] N Λ σ)) :
    WV l mX12_term d P 122 [(2, t), (0, x1), (0, x2), (0, x3), (0, x4), (0, x5), (3, 0), (3, 0), (3, 0), (3, 0)] [(0, w0), (0, w1)] N Λ σ := by
  refine r_imul d_X12_term_122 ?_
  refine r_i2l d_X12_term_123 ?_
  refine r_nm (fun y1 ey1 => ?_)
  have h := h y1 ey1
  refine r_lstore (L2 := [(2, t), (0, x1), (0, x2), (0, x3), (0, x4), (0, x5), (1, y1), (3, 0), (3, 0), (3, 0)]) d_X12_term_124 (by decide) rfl rfl ?_
  refine r_iconst (x := 0) d_X12_term_126 ⟨by decide, by decide⟩ ?_
  refine r_istore (L2 := [(2, t), (0, x1), (0, x2), (0, x3), (0, x4), (0, x5), (1, y1), (3, 0), (0, 0), (3, 0)]) d_X12_term_127 (by decide) rfl rfl ?_
  exact h
theorem u_X12_term_129 {l : Launch} {d N : Nat} {Λ : Lay} {P : Mem → Prop} {σ : Mem} {x1 x2 x3 x4 x5 x6 x8 t : Int} (o_t : Ob N Λ t 21 36) (h0d : 1 ≤ d)
    (h : ((¬ (σ t 22) = 0 → WV l mX12_term d P 307 [(2, t), (0, x1), (0, x2), (0, x3), (0, x4), (0, x5), (1, x6), (3, 0), (0, x8), (3, 0)] [] N Λ σ) ∧ ((σ t 22) = 0 → (CI l mX12_see (d - 1) [(2, t)] N Λ σ (fun v2 σ1 => ((¬ v2 = 91 → WV l mX12_term d P 307 [(2, t), (0, x1), (0, x2), (0, x3), (0, x4), (0, x5), (1, x6), (3, 0), (0, x8), (3, 0)] [] N Λ σ1) ∧ (v2 = 91 → ((¬ x8 = 4 → (∀ τ3, τ3 = st σ1 t 21 (addI (σ1 t 21) 1) → WV l mX12_term d P 174 [(2, t), (0, x1), (0, x2), (0, x3), (0, x4), (0, x5), (1, x6), (3, 0), (0, x8), (0, 0)] [] N Λ τ3)) ∧ (x8 = 4 → (CV l mX12_wrongs (d - 1) [(2, t), (0, 3), (0, (σ1 t 21))] N Λ σ1 (fun σ4 => P σ4))))))))))) :
    WV l mX12_term d P 129 [(2, t), (0, x1), (0, x2), (0, x3), (0, x4), (0, x5), (1, x6), (3, 0), (0, x8), (3, 0)] [] N Λ σ := by
  have hd_1 : 1 ≤ d := Nat.le_trans (by decide) h0d
  refine r_aload_n (x := t) d_X12_term_129 rfl o_t.1 ?_
  refine r_getf (j := 22) (t := 0) (x := (σ t 22)) d_X12_term_130 kX12 (by decide) fl_X12_261 o_t.1 o_t.2.1 o_t.2.2.1 o_t.2.2.2 rfl rfl ?_
  refine r_if_ne (tgt := 307) d_X12_term_133 rfl (fun hc => ?_) (fun hc => ?_)
  · have h := h.1 hc
    exact h
  · have h := h.2 hc
    refine r_aload_n (x := t) d_X12_term_136 rfl o_t.1 ?_
    refine x_callVI (Y2 := mX12_see) (c := t) (As := []) (S := []) d_X12_term_137 ok_mX12_see ml_X12_264 rfl (Nat.le_of_ble_eq_true rfl) (Nat.le_of_ble_eq_true rfl) rfl hd_1 kX12 o_t (CI.mono h (fun v2 σ1 h => ?_))
    refine r_bipush (x := 91) d_X12_term_140 ⟨by decide, by decide⟩ (by decide) ?_
    refine r_ic_ne (tgt := 307) d_X12_term_142 rfl (fun hc => ?_) (fun hc => ?_)
    · have h := h.1 hc
      exact h
    · have h := h.2 hc
      refine r_iload (x := x8) d_X12_term_145 rfl ?_
      refine r_iconst (x := 4) d_X12_term_147 ⟨by decide, by decide⟩ ?_
      refine r_ic_ne (tgt := 161) d_X12_term_148 rfl (fun hc => ?_) (fun hc => ?_)
      · have h := h.1 hc
        refine r_aload_n (x := t) d_X12_term_161 rfl o_t.1 ?_
        refine r_dup d_X12_term_162 rfl ?_
        refine r_getf (j := 21) (t := 0) (x := (σ1 t 21)) d_X12_term_163 kX12 (by decide) fl_X12_255 o_t.1 o_t.2.1 o_t.2.2.1 o_t.2.2.2 rfl rfl ?_
        refine r_iconst (x := 1) d_X12_term_166 ⟨by decide, by decide⟩ ?_
        refine r_iadd d_X12_term_167 ?_
        refine r_putI (j := 21) d_X12_term_168 kX12 (by decide) fl_X12_255 rfl o_t.1 o_t.2.1 o_t.2.2.1 o_t.2.2.2 rfl ?_
        refine r_nmM (fun τ3 eτ3 => ?_)
        have h := h τ3 eτ3
        refine r_iconst (x := 0) d_X12_term_171 ⟨by decide, by decide⟩ ?_
        refine r_istore (L2 := [(2, t), (0, x1), (0, x2), (0, x3), (0, x4), (0, x5), (1, x6), (3, 0), (0, x8), (0, 0)]) d_X12_term_172 (by decide) rfl rfl ?_
        exact h
      · have h := h.2 hc
        refine r_aload_n (x := t) d_X12_term_151 rfl o_t.1 ?_
        refine r_iconst (x := 3) d_X12_term_152 ⟨by decide, by decide⟩ ?_
        refine r_aload_n (x := t) d_X12_term_153 rfl o_t.1 ?_
        refine r_getf (j := 21) (t := 0) (x := (σ1 t 21)) d_X12_term_154 kX12 (by decide) fl_X12_255 o_t.1 o_t.2.1 o_t.2.2.1 o_t.2.2.2 rfl rfl ?_
        refine x_callVV (Y2 := mX12_wrongs) (c := t) (As := [(0, 3), (0, (σ1 t 21))]) (S := []) d_X12_term_157 ok_mX12_wrongs ml_X12_276 rfl (Nat.le_of_ble_eq_true rfl) (Nat.le_of_ble_eq_true rfl) rfl hd_1 kX12 o_t (CV.mono h (fun σ4 h => ?_))
        exact r_vret d_X12_term_160 rfl (Nat.le_refl 0) (Nat.le_refl 0) ⟨rfl, rfl, rfl, h⟩
theorem u_X12_term_174 {l : Launch} {d N : Nat} {Λ : Lay} {P : Mem → Prop} {σ : Mem} {x1 x2 x3 x4 x5 x6 x8 x9 t : Int} (o_t : Ob N Λ t 21 36) (h0d : 1 ≤ d)
    (h : ((3 ≤ x9 → (CI l mX12_see (d - 1) [(2, t)] N Λ σ (fun v2 σ1 => ((¬ v2 = 93 → WV l mX12_term d P 209 [(2, t), (0, x1), (0, x2), (0, x3), (0, x4), (0, x5), (1, x6), (3, 0), (0, x8), (0, x9)] [(0, 0), (2, t)] N Λ σ1) ∧ (v2 = 93 → WV l mX12_term d P 209 [(2, t), (0, x1), (0, x2), (0, x3), (0, x4), (0, x5), (1, x6), (3, 0), (0, x8), (0, x9)] [(0, 1), (2, t)] N Λ σ1))))) ∧ (¬ (3 ≤ x9) → (CI l mX12_seesLetter (d - 1) [(2, t)] N Λ σ (fun v4 σ3 => (CV l mX12_must (d - 1) [(2, t), (0, v4)] N Λ σ3 (fun σ5 => (∀ y6, y6 = addI x9 1 → WV l mX12_term d P 174 [(2, t), (0, x1), (0, x2), (0, x3), (0, x4), (0, x5), (1, x6), (3, 0), (0, x8), (0, y6)] [] N Λ σ5)))))))) :
    WV l mX12_term d P 174 [(2, t), (0, x1), (0, x2), (0, x3), (0, x4), (0, x5), (1, x6), (3, 0), (0, x8), (0, x9)] [] N Λ σ := by
  have hd_1 : 1 ≤ d := Nat.le_trans (by decide) h0d
  refine r_iload (x := x9) d_X12_term_174 rfl ?_
  refine r_iconst (x := 3) d_X12_term_176 ⟨by decide, by decide⟩ ?_
  refine r_ic_ge (tgt := 194) d_X12_term_177 rfl (fun hc => ?_) (fun hc => ?_)
  · have h := h.1 hc
    refine r_aload_n (x := t) d_X12_term_194 rfl o_t.1 ?_
    refine r_aload_n (x := t) d_X12_term_195 rfl o_t.1 ?_
    refine x_callVI (Y2 := mX12_see) (c := t) (As := []) (S := [(2, t)]) d_X12_term_196 ok_mX12_see ml_X12_264 rfl (Nat.le_of_ble_eq_true rfl) (Nat.le_of_ble_eq_true rfl) rfl hd_1 kX12 o_t (CI.mono h (fun v2 σ1 h => ?_))
    refine r_bipush (x := 93) d_X12_term_199 ⟨by decide, by decide⟩ (by decide) ?_
    refine r_ic_ne (tgt := 208) d_X12_term_201 rfl (fun hc => ?_) (fun hc => ?_)
    · have h := h.1 hc
      refine r_iconst (x := 0) d_X12_term_208 ⟨by decide, by decide⟩ ?_
      exact h
    · have h := h.2 hc
      refine r_iconst (x := 1) d_X12_term_204 ⟨by decide, by decide⟩ ?_
      refine r_goto (tgt := 209) d_X12_term_205 rfl ?_
      exact h
  · have h := h.2 hc
    refine r_aload_n (x := t) d_X12_term_180 rfl o_t.1 ?_
    refine r_aload_n (x := t) d_X12_term_181 rfl o_t.1 ?_
    refine x_callVI (Y2 := mX12_seesLetter) (c := t) (As := []) (S := [(2, t)]) d_X12_term_182 ok_mX12_seesLetter ml_X12_283 rfl (Nat.le_of_ble_eq_true rfl) (Nat.le_of_ble_eq_true rfl) rfl hd_1 kX12 o_t (CI.mono h (fun v4 σ3 h => ?_))
    refine x_callVV (Y2 := mX12_must) (c := t) (As := [(0, v4)]) (S := []) d_X12_term_185 ok_mX12_must ml_X12_286 rfl (Nat.le_of_ble_eq_true rfl) (Nat.le_of_ble_eq_true rfl) rfl hd_1 kX12 o_t (CV.mono h (fun σ5 h => ?_))
    refine x_iinc (x := x9) (L := [(2, t), (0, x1), (0, x2), (0, x3), (0, x4), (0, x5), (1, x6), (3, 0), (0, x8), (0, x9)]) d_X12_term_188 rfl (by decide) rfl (fun y6 ey6 => ?_)
    have h := h y6 ey6
    show WP _ _ _ _ _ _ _ _ [(2, t), (0, x1), (0, x2), (0, x3), (0, x4), (0, x5), (1, x6), (3, 0), (0, x8), (0, y6)] _ _ _ _
    refine r_goto (tgt := 174) d_X12_term_191 rfl ?_
    exact h
theorem u_X12_term_209 {l : Launch} {d N : Nat} {Λ : Lay} {P : Mem → Prop} {σ : Mem} {x1 x2 x3 x4 x5 x6 x8 x9 w0 t t_rankOf : Int} (o_t : Ob N Λ t 21 36) (f_t_rankOf : (Λ t).2.2 1 = t_rankOf) (h0d : 1 ≤ d)
    (h : (CV l mX12_must (d - 1) [(2, t), (0, w0)] N Λ σ (fun σ1 => (((σ1 t 22) = 0 → (CI l mX12_letterAt (d - 1) [(2, t), (0, (subI (σ1 t 21) 4))] N Λ σ1 (fun v3 σ2 => (CI l mX12_letterAt (d - 1) [(2, t), (0, (subI (σ2 t 21) 3))] N Λ σ2 (fun v5 σ4 => (CI l mX12_letterAt (d - 1) [(2, t), (0, (subI (σ4 t 21) 2))] N Λ σ4 (fun v7 σ6 => (Ix N Λ t_rankOf 0 (addI (addI (mulI 100 v3) (mulI 10 v5)) v7) ∧ (∀ y8, y8 = (σ6 t_rankOf (addI (addI (mulI 100 v3) (mulI 10 v5)) v7)) → ((0 ≤ y8 → ((¬ y8 = 0 → WV l mX12_term d P 287 [(2, t), (0, x1), (0, x2), (0, x3), (0, x4), (0, x5), (1, x6), (3, 0), (0, x8), (0, y8)] [(1, x6)] N Λ σ6) ∧ (y8 = 0 → WV l mX12_term d P 287 [(2, t), (0, x1), (0, x2), (0, x3), (0, x4), (0, x5), (1, x6), (3, 0), (0, x8), (0, y8)] [(1, 0)] N Λ σ6))) ∧ (¬ (0 ≤ y8) → WV l mX12_term d P 287 [(2, t), (0, x1), (0, x2), (0, x3), (0, x4), (0, x5), (1, x6), (3, 0), (0, x8), (0, y8)] [(1, (negL x6))] N Λ σ6))))))))))) ∧ (¬ ((σ1 t 22) = 0) → P σ1))))) :
    WV l mX12_term d P 209 [(2, t), (0, x1), (0, x2), (0, x3), (0, x4), (0, x5), (1, x6), (3, 0), (0, x8), (0, x9)] [(0, w0), (2, t)] N Λ σ := by
  have hd_1 : 1 ≤ d := Nat.le_trans (by decide) h0d
  refine x_callVV (Y2 := mX12_must) (c := t) (As := [(0, w0)]) (S := []) d_X12_term_209 ok_mX12_must ml_X12_286 rfl (Nat.le_of_ble_eq_true rfl) (Nat.le_of_ble_eq_true rfl) rfl hd_1 kX12 o_t (CV.mono h (fun σ1 h => ?_))
  refine r_aload_n (x := t) d_X12_term_212 rfl o_t.1 ?_
  refine r_getf (j := 22) (t := 0) (x := (σ1 t 22)) d_X12_term_213 kX12 (by decide) fl_X12_261 o_t.1 o_t.2.1 o_t.2.2.1 o_t.2.2.2 rfl rfl ?_
  refine r_if_eq (tgt := 220) d_X12_term_216 rfl (fun hc => ?_) (fun hc => ?_)
  · have h := h.1 hc
    refine r_aload_n (x := t) d_X12_term_220 rfl o_t.1 ?_
    refine r_getf (j := 1) (t := 2) (x := t_rankOf) d_X12_term_221 kX12 (by decide) fl_X12_13 o_t.1 o_t.2.1 o_t.2.2.1 o_t.2.2.2 rfl f_t_rankOf ?_
    refine r_bipush (x := 100) d_X12_term_224 ⟨by decide, by decide⟩ (by decide) ?_
    refine r_aload_n (x := t) d_X12_term_226 rfl o_t.1 ?_
    refine r_aload_n (x := t) d_X12_term_227 rfl o_t.1 ?_
    refine r_getf (j := 21) (t := 0) (x := (σ1 t 21)) d_X12_term_228 kX12 (by decide) fl_X12_255 o_t.1 o_t.2.1 o_t.2.2.1 o_t.2.2.2 rfl rfl ?_
    refine r_iconst (x := 4) d_X12_term_231 ⟨by decide, by decide⟩ ?_
    refine r_isub d_X12_term_232 ?_
    refine x_callVI (Y2 := mX12_letterAt) (c := t) (As := [(0, (subI (σ1 t 21) 4))]) (S := [(0, 100), (2, t_rankOf)]) d_X12_term_233 ok_mX12_letterAt ml_X12_290 rfl (Nat.le_of_ble_eq_true rfl) (Nat.le_of_ble_eq_true rfl) rfl hd_1 kX12 o_t (CI.mono h (fun v3 σ2 h => ?_))
    refine r_imul d_X12_term_236 ?_
    refine r_bipush (x := 10) d_X12_term_237 ⟨by decide, by decide⟩ (by decide) ?_
    refine r_aload_n (x := t) d_X12_term_239 rfl o_t.1 ?_
    refine r_aload_n (x := t) d_X12_term_240 rfl o_t.1 ?_
    refine r_getf (j := 21) (t := 0) (x := (σ2 t 21)) d_X12_term_241 kX12 (by decide) fl_X12_255 o_t.1 o_t.2.1 o_t.2.2.1 o_t.2.2.2 rfl rfl ?_
    refine r_iconst (x := 3) d_X12_term_244 ⟨by decide, by decide⟩ ?_
    refine r_isub d_X12_term_245 ?_
    refine x_callVI (Y2 := mX12_letterAt) (c := t) (As := [(0, (subI (σ2 t 21) 3))]) (S := [(0, 10), (0, (mulI 100 v3)), (2, t_rankOf)]) d_X12_term_246 ok_mX12_letterAt ml_X12_290 rfl (Nat.le_of_ble_eq_true rfl) (Nat.le_of_ble_eq_true rfl) rfl hd_1 kX12 o_t (CI.mono h (fun v5 σ4 h => ?_))
    refine r_imul d_X12_term_249 ?_
    refine r_iadd d_X12_term_250 ?_
    refine r_aload_n (x := t) d_X12_term_251 rfl o_t.1 ?_
    refine r_aload_n (x := t) d_X12_term_252 rfl o_t.1 ?_
    refine r_getf (j := 21) (t := 0) (x := (σ4 t 21)) d_X12_term_253 kX12 (by decide) fl_X12_255 o_t.1 o_t.2.1 o_t.2.2.1 o_t.2.2.2 rfl rfl ?_
    refine r_iconst (x := 2) d_X12_term_256 ⟨by decide, by decide⟩ ?_
    refine r_isub d_X12_term_257 ?_
    refine x_callVI (Y2 := mX12_letterAt) (c := t) (As := [(0, (subI (σ4 t 21) 2))]) (S := [(0, (addI (mulI 100 v3) (mulI 10 v5))), (2, t_rankOf)]) d_X12_term_258 ok_mX12_letterAt ml_X12_290 rfl (Nat.le_of_ble_eq_true rfl) (Nat.le_of_ble_eq_true rfl) rfl hd_1 kX12 o_t (CI.mono h (fun v7 σ6 h => ?_))
    refine r_iadd d_X12_term_261 ?_
    refine x_iald d_X12_term_262 h.1 ?_
    have h := h.2
    refine r_nm (fun y8 ey8 => ?_)
    have h := h y8 ey8
    refine r_istore (L2 := [(2, t), (0, x1), (0, x2), (0, x3), (0, x4), (0, x5), (1, x6), (3, 0), (0, x8), (0, y8)]) d_X12_term_263 (by decide) rfl rfl ?_
    refine r_iload (x := y8) d_X12_term_265 rfl ?_
    refine r_if_ge (tgt := 276) d_X12_term_267 rfl (fun hc => ?_) (fun hc => ?_)
    · have h := h.1 hc
      refine r_iload (x := y8) d_X12_term_276 rfl ?_
      refine r_if_ne (tgt := 285) d_X12_term_278 rfl (fun hc => ?_) (fun hc => ?_)
      · have h := h.1 hc
        refine r_lload (x := x6) d_X12_term_285 rfl ?_
        exact h
      · have h := h.2 hc
        refine r_lconst d_X12_term_281 ?_
        skip
        refine r_goto (tgt := 287) d_X12_term_282 rfl ?_
        exact h
    · have h := h.2 hc
      refine r_lload (x := x6) d_X12_term_270 rfl ?_
      refine r_lneg d_X12_term_272 ?_
      refine r_goto (tgt := 287) d_X12_term_273 rfl ?_
      exact h
  · have h := h.2 hc
    exact r_vret d_X12_term_219 rfl (Nat.le_refl 0) (Nat.le_refl 0) ⟨rfl, rfl, rfl, h⟩
theorem u_X12_term_287 {l : Launch} {d N : Nat} {Λ : Lay} {P : Mem → Prop} {σ : Mem} {x1 x2 x3 x4 x5 x6 x8 x9 w0 t t_ranks : Int} (o_t : Ob N Λ t 21 36) (f_t_ranks : (Λ t).2.2 9 = t_ranks) (h0d : 1 ≤ d)
    (h : ((0 ≤ x9 → (Ix N Λ t_ranks 0 x8 ∧ (∀ τ1, τ1 = st σ t_ranks x8 x9 → (∀ y2, y2 = addI x8 1 → WV l mX12_term d P 129 [(2, t), (0, x1), (0, x2), (0, x3), (0, x4), (0, x5), (1, w0), (3, 0), (0, y2), (3, 0)] [] N Λ τ1)))) ∧ (¬ (0 ≤ x9) → (Ix N Λ t_ranks 0 x8 ∧ (∀ τ3, τ3 = st σ t_ranks x8 (negI x9) → (∀ y4, y4 = addI x8 1 → WV l mX12_term d P 129 [(2, t), (0, x1), (0, x2), (0, x3), (0, x4), (0, x5), (1, w0), (3, 0), (0, y4), (3, 0)] [] N Λ τ3)))))) :
    WV l mX12_term d P 287 [(2, t), (0, x1), (0, x2), (0, x3), (0, x4), (0, x5), (1, x6), (3, 0), (0, x8), (0, x9)] [(1, w0)] N Λ σ := by
  have hd_1 : 1 ≤ d := Nat.le_trans (by decide) h0d
  refine r_lstore (L2 := [(2, t), (0, x1), (0, x2), (0, x3), (0, x4), (0, x5), (1, w0), (3, 0), (0, x8), (0, x9)]) d_X12_term_287 (by decide) rfl rfl ?_
  refine r_aload_n (x := t) d_X12_term_289 rfl o_t.1 ?_
  refine r_getf (j := 9) (t := 2) (x := t_ranks) d_X12_term_290 kX12 (by decide) fl_X12_33 o_t.1 o_t.2.1 o_t.2.2.1 o_t.2.2.2 rfl f_t_ranks ?_
  refine r_iload (x := x8) d_X12_term_293 rfl ?_
  refine r_iload (x := x9) d_X12_term_295 rfl ?_
  refine x_callSI (Y2 := mX12_sizeOf) (As := [(0, x9)]) (S := [(0, x8), (2, t_ranks)]) d_X12_term_297 ok_mX12_sizeOf ml_X12_168 rfl (Nat.le_of_ble_eq_true rfl) (Nat.le_of_ble_eq_true rfl) rfl hd_1 (c_X12_sizeOf (v_X12_sizeOf_0 ?_))
  refine ⟨fun hc => ?_, fun hc => ?_⟩
  · have h := h.1 hc
    show WP l mX12_term (rm d 0 0) noX _ 0 0 300 [(2, t), (0, x1), (0, x2), (0, x3), (0, x4), (0, x5), (1, w0), (3, 0), (0, x8), (0, x9)] [(0, x9), (0, x8), (2, t_ranks)] N Λ σ
    refine x_iast d_X12_term_300 h.1 ?_
    have h := h.2
    refine r_nmM (fun τ1 eτ1 => ?_)
    have h := h τ1 eτ1
    refine x_iinc (x := x8) (L := [(2, t), (0, x1), (0, x2), (0, x3), (0, x4), (0, x5), (1, w0), (3, 0), (0, x8), (0, x9)]) d_X12_term_301 rfl (by decide) rfl (fun y2 ey2 => ?_)
    have h := h y2 ey2
    show WP _ _ _ _ _ _ _ _ [(2, t), (0, x1), (0, x2), (0, x3), (0, x4), (0, x5), (1, w0), (3, 0), (0, y2), (0, x9)] _ _ _ _
    refine r_goto (tgt := 129) d_X12_term_304 rfl ?_
    exact x_mask h ⟨Or.inr rfl, Or.inr rfl, Or.inr rfl, Or.inr rfl, Or.inr rfl, Or.inr rfl, Or.inr rfl, Or.inl rfl, Or.inr rfl, Or.inl rfl, trivial⟩
  · have h := h.2 hc
    show WP l mX12_term (rm d 0 0) noX _ 0 0 300 [(2, t), (0, x1), (0, x2), (0, x3), (0, x4), (0, x5), (1, w0), (3, 0), (0, x8), (0, x9)] [(0, (negI x9)), (0, x8), (2, t_ranks)] N Λ σ
    refine x_iast d_X12_term_300 h.1 ?_
    have h := h.2
    refine r_nmM (fun τ3 eτ3 => ?_)
    have h := h τ3 eτ3
    refine x_iinc (x := x8) (L := [(2, t), (0, x1), (0, x2), (0, x3), (0, x4), (0, x5), (1, w0), (3, 0), (0, x8), (0, x9)]) d_X12_term_301 rfl (by decide) rfl (fun y4 ey4 => ?_)
    have h := h y4 ey4
    show WP _ _ _ _ _ _ _ _ [(2, t), (0, x1), (0, x2), (0, x3), (0, x4), (0, x5), (1, w0), (3, 0), (0, y4), (0, x9)] _ _ _ _
    refine r_goto (tgt := 129) d_X12_term_304 rfl ?_
    exact x_mask h ⟨Or.inr rfl, Or.inr rfl, Or.inr rfl, Or.inr rfl, Or.inr rfl, Or.inr rfl, Or.inr rfl, Or.inl rfl, Or.inr rfl, Or.inl rfl, trivial⟩
theorem u_X12_term_307 {l : Launch} {d N : Nat} {Λ : Lay} {P : Mem → Prop} {σ : Mem} {x1 x2 x3 x4 x5 x6 x8 t : Int} (o_t : Ob N Λ t 21 36) (h0d : 1 ≤ d)
    (h : ((x2 = 0 → WV l mX12_term d P 332 [(2, t), (0, x1), (0, x2), (0, x3), (0, x4), (0, x5), (1, x6), (3, 0), (0, x8), (3, 0)] [] N Λ σ) ∧ (¬ (x2 = 0) → (((cmpL x6 0) = 0 → WV l mX12_term d P 332 [(2, t), (0, x1), (0, x2), (0, x3), (0, x4), (0, x5), (1, x6), (3, 0), (0, x8), (3, 0)] [] N Λ σ) ∧ (¬ ((cmpL x6 0) = 0) → (CI l mX12_keyOf (d - 1) [(2, t), (0, x8)] N Λ σ (fun v2 σ1 => (CI l mX12_puts (d - 1) [(2, t), (0, 0), (0, v2), (1, x6)] N Λ σ1 (fun v4 σ3 => WV l mX12_term d P 332 [(2, t), (0, x1), (0, x2), (0, x3), (0, x4), (0, x5), (1, x6), (3, 0), (0, x8), (3, 0)] [] N Λ σ3))))))))) :
    WV l mX12_term d P 307 [(2, t), (0, x1), (0, x2), (0, x3), (0, x4), (0, x5), (1, x6), (3, 0), (0, x8), (3, 0)] [] N Λ σ := by
  have hd_1 : 1 ≤ d := Nat.le_trans (by decide) h0d
  refine r_iload_n (x := x2) d_X12_term_307 rfl ?_
  refine r_if_eq (tgt := 332) d_X12_term_308 rfl (fun hc => ?_) (fun hc => ?_)
  · have h := h.1 hc
    exact h
  · have h := h.2 hc
    refine r_lload (x := x6) d_X12_term_311 rfl ?_
    refine r_lconst d_X12_term_313 ?_
    skip
    refine r_lcmp d_X12_term_314 ?_
    refine r_if_eq (tgt := 332) d_X12_term_315 rfl (fun hc => ?_) (fun hc => ?_)
    · have h := h.1 hc
      exact h
    · have h := h.2 hc
      refine r_aload_n (x := t) d_X12_term_318 rfl o_t.1 ?_
      refine r_iconst (x := 0) d_X12_term_319 ⟨by decide, by decide⟩ ?_
      refine r_aload_n (x := t) d_X12_term_320 rfl o_t.1 ?_
      refine r_iload (x := x8) d_X12_term_321 rfl ?_
      refine x_callVI (Y2 := mX12_keyOf) (c := t) (As := [(0, x8)]) (S := [(0, 0), (2, t)]) d_X12_term_323 ok_mX12_keyOf ml_X12_141 rfl (Nat.le_of_ble_eq_true rfl) (Nat.le_of_ble_eq_true rfl) rfl hd_1 kX12 o_t (CI.mono h (fun v2 σ1 h => ?_))
      refine r_lload (x := x6) d_X12_term_326 rfl ?_
      refine x_callVI (Y2 := mX12_puts) (c := t) (As := [(0, 0), (0, v2), (1, x6)]) (S := []) d_X12_term_328 ok_mX12_puts ml_X12_147 rfl (Nat.le_of_ble_eq_true rfl) (Nat.le_of_ble_eq_true rfl) rfl hd_1 kX12 o_t (CI.mono h (fun v4 σ3 h => ?_))
      refine r_pop d_X12_term_331 rfl ?_
      exact h
theorem u_X12_term_332 {l : Launch} {d N : Nat} {Λ : Lay} {P : Mem → Prop} {σ : Mem} {x1 x2 x3 x4 x5 x6 x8 t : Int}
    (h : P σ) :
    WV l mX12_term d P 332 [(2, t), (0, x1), (0, x2), (0, x3), (0, x4), (0, x5), (1, x6), (3, 0), (0, x8), (3, 0)] [] N Λ σ := by
  exact r_vret d_X12_term_332 rfl (Nat.le_refl 0) (Nat.le_refl 0) ⟨rfl, rfl, rfl, h⟩
theorem u_X12_polynomial_0 {l : Launch} {d N : Nat} {Λ : Lay} {P : Mem → Prop} {σ : Mem} {x1 t : Int} (o_t : Ob N Λ t 21 36)
    (h : (∀ τ1, τ1 = st σ t 21 0 → (((τ1 t 20) ≤ 0 → WV l mX12_polynomial d P 17 [(2, t), (0, x1), (3, 0), (3, 0), (3, 0), (3, 0)] [(0, 0)] N Λ τ1) ∧ (¬ ((τ1 t 20) ≤ 0) → WV l mX12_polynomial d P 17 [(2, t), (0, x1), (3, 0), (3, 0), (3, 0), (3, 0)] [(0, 1)] N Λ τ1)))) :
    WV l mX12_polynomial d P 0 [(2, t), (0, x1), (3, 0), (3, 0), (3, 0), (3, 0)] [] N Λ σ := by
  refine r_aload_n (x := t) d_X12_polynomial_0 rfl o_t.1 ?_
  refine r_iconst (x := 0) d_X12_polynomial_1 ⟨by decide, by decide⟩ ?_
  refine r_putI (j := 21) d_X12_polynomial_2 kX12 (by decide) fl_X12_255 rfl o_t.1 o_t.2.1 o_t.2.2.1 o_t.2.2.2 rfl ?_
  refine r_nmM (fun τ1 eτ1 => ?_)
  have h := h τ1 eτ1
  refine r_aload_n (x := t) d_X12_polynomial_5 rfl o_t.1 ?_
  refine r_getf (j := 20) (t := 0) (x := (τ1 t 20)) d_X12_polynomial_6 kX12 (by decide) fl_X12_258 o_t.1 o_t.2.1 o_t.2.2.1 o_t.2.2.2 rfl rfl ?_
  refine r_if_le (tgt := 16) d_X12_polynomial_9 rfl (fun hc => ?_) (fun hc => ?_)
  · have h := h.1 hc
    refine r_iconst (x := 0) d_X12_polynomial_16 ⟨by decide, by decide⟩ ?_
    exact h
  · have h := h.2 hc
    refine r_iconst (x := 1) d_X12_polynomial_12 ⟨by decide, by decide⟩ ?_
    refine r_goto (tgt := 17) d_X12_polynomial_13 rfl ?_
    exact h
theorem u_X12_polynomial_17 {l : Launch} {d N : Nat} {Λ : Lay} {P : Mem → Prop} {σ : Mem} {x1 w0 t : Int}
    (h : WV l mX12_polynomial d P 20 [(2, t), (0, x1), (0, w0), (0, 1), (3, 0), (3, 0)] [] N Λ σ) :
    WV l mX12_polynomial d P 17 [(2, t), (0, x1), (3, 0), (3, 0), (3, 0), (3, 0)] [(0, w0)] N Λ σ := by
  refine r_istore_n (L2 := [(2, t), (0, x1), (0, w0), (3, 0), (3, 0), (3, 0)]) d_X12_polynomial_17 (by decide) rfl rfl ?_
  refine r_iconst (x := 1) d_X12_polynomial_18 ⟨by decide, by decide⟩ ?_
  refine r_istore_n (L2 := [(2, t), (0, x1), (0, w0), (0, 1), (3, 0), (3, 0)]) d_X12_polynomial_19 (by decide) rfl rfl ?_
  exact h
theorem u_X12_polynomial_20 {l : Launch} {d N : Nat} {Λ : Lay} {P : Mem → Prop} {σ : Mem} {x1 x2 x3 t : Int} (o_t : Ob N Λ t 21 36) (h0d : 1 ≤ d)
    (h : ((x2 = 0 → WV l mX12_polynomial d P 146 [(2, t), (0, x1), (0, x2), (0, x3), (3, 0), (3, 0)] [] N Λ σ) ∧ (¬ (x2 = 0) → ((¬ (σ t 22) = 0 → WV l mX12_polynomial d P 146 [(2, t), (0, x1), (0, x2), (0, x3), (3, 0), (3, 0)] [] N Λ σ) ∧ ((σ t 22) = 0 → (CI l mX12_see (d - 1) [(2, t)] N Λ σ (fun v2 σ1 => ((v2 = 43 → WV l mX12_polynomial d P 49 [(2, t), (0, x1), (0, x2), (0, x3), (3, 0), (3, 0)] [] N Λ σ1) ∧ (¬ (v2 = 43) → (CI l mX12_see (d - 1) [(2, t)] N Λ σ1 (fun v4 σ3 => ((¬ v4 = 45 → WV l mX12_polynomial d P 54 [(2, t), (0, x1), (0, x2), (0, x3), (3, 0), (3, 0)] [(0, 0)] N Λ σ3) ∧ (v4 = 45 → WV l mX12_polynomial d P 49 [(2, t), (0, x1), (0, x2), (0, x3), (3, 0), (3, 0)] [] N Λ σ3))))))))))))) :
    WV l mX12_polynomial d P 20 [(2, t), (0, x1), (0, x2), (0, x3), (3, 0), (3, 0)] [] N Λ σ := by
  have hd_1 : 1 ≤ d := Nat.le_trans (by decide) h0d
  refine r_iload_n (x := x2) d_X12_polynomial_20 rfl ?_
  refine r_if_eq (tgt := 146) d_X12_polynomial_21 rfl (fun hc => ?_) (fun hc => ?_)
  · have h := h.1 hc
    exact h
  · have h := h.2 hc
    refine r_aload_n (x := t) d_X12_polynomial_24 rfl o_t.1 ?_
    refine r_getf (j := 22) (t := 0) (x := (σ t 22)) d_X12_polynomial_25 kX12 (by decide) fl_X12_261 o_t.1 o_t.2.1 o_t.2.2.1 o_t.2.2.2 rfl rfl ?_
    refine r_if_ne (tgt := 146) d_X12_polynomial_28 rfl (fun hc => ?_) (fun hc => ?_)
    · have h := h.1 hc
      exact h
    · have h := h.2 hc
      refine r_aload_n (x := t) d_X12_polynomial_31 rfl o_t.1 ?_
      refine x_callVI (Y2 := mX12_see) (c := t) (As := []) (S := []) d_X12_polynomial_32 ok_mX12_see ml_X12_264 rfl (Nat.le_of_ble_eq_true rfl) (Nat.le_of_ble_eq_true rfl) rfl hd_1 kX12 o_t (CI.mono h (fun v2 σ1 h => ?_))
      refine r_bipush (x := 43) d_X12_polynomial_35 ⟨by decide, by decide⟩ (by decide) ?_
      refine r_ic_eq (tgt := 49) d_X12_polynomial_37 rfl (fun hc => ?_) (fun hc => ?_)
      · have h := h.1 hc
        exact h
      · have h := h.2 hc
        refine r_aload_n (x := t) d_X12_polynomial_40 rfl o_t.1 ?_
        refine x_callVI (Y2 := mX12_see) (c := t) (As := []) (S := []) d_X12_polynomial_41 ok_mX12_see ml_X12_264 rfl (Nat.le_of_ble_eq_true rfl) (Nat.le_of_ble_eq_true rfl) rfl hd_1 kX12 o_t (CI.mono h (fun v4 σ3 h => ?_))
        refine r_bipush (x := 45) d_X12_polynomial_44 ⟨by decide, by decide⟩ (by decide) ?_
        refine r_ic_ne (tgt := 53) d_X12_polynomial_46 rfl (fun hc => ?_) (fun hc => ?_)
        · have h := h.1 hc
          refine r_iconst (x := 0) d_X12_polynomial_53 ⟨by decide, by decide⟩ ?_
          exact h
        · have h := h.2 hc
          exact h
theorem u_X12_polynomial_49 {l : Launch} {d N : Nat} {Λ : Lay} {P : Mem → Prop} {σ : Mem} {x1 x2 x3 t : Int}
    (h : WV l mX12_polynomial d P 54 [(2, t), (0, x1), (0, x2), (0, x3), (3, 0), (3, 0)] [(0, 1)] N Λ σ) :
    WV l mX12_polynomial d P 49 [(2, t), (0, x1), (0, x2), (0, x3), (3, 0), (3, 0)] [] N Λ σ := by
  refine r_iconst (x := 1) d_X12_polynomial_49 ⟨by decide, by decide⟩ ?_
  refine r_goto (tgt := 54) d_X12_polynomial_50 rfl ?_
  exact h
theorem u_X12_polynomial_54 {l : Launch} {d N : Nat} {Λ : Lay} {P : Mem → Prop} {σ : Mem} {x1 x2 x3 w0 t : Int} (o_t : Ob N Λ t 21 36) (h0d : 1 ≤ d)
    (h : (CI l mX12_see (d - 1) [(2, t)] N Λ σ (fun v2 σ1 => ((¬ v2 = 45 → WV l mX12_polynomial d P 70 [(2, t), (0, x1), (0, x2), (0, x3), (0, w0), (3, 0)] [(0, 1)] N Λ σ1) ∧ (v2 = 45 → WV l mX12_polynomial d P 70 [(2, t), (0, x1), (0, x2), (0, x3), (0, w0), (3, 0)] [(0, (-1))] N Λ σ1))))) :
    WV l mX12_polynomial d P 54 [(2, t), (0, x1), (0, x2), (0, x3), (3, 0), (3, 0)] [(0, w0)] N Λ σ := by
  have hd_1 : 1 ≤ d := Nat.le_trans (by decide) h0d
  refine r_istore (L2 := [(2, t), (0, x1), (0, x2), (0, x3), (0, w0), (3, 0)]) d_X12_polynomial_54 (by decide) rfl rfl ?_
  refine r_aload_n (x := t) d_X12_polynomial_56 rfl o_t.1 ?_
  refine x_callVI (Y2 := mX12_see) (c := t) (As := []) (S := []) d_X12_polynomial_57 ok_mX12_see ml_X12_264 rfl (Nat.le_of_ble_eq_true rfl) (Nat.le_of_ble_eq_true rfl) rfl hd_1 kX12 o_t (CI.mono h (fun v2 σ1 h => ?_))
  refine r_bipush (x := 45) d_X12_polynomial_60 ⟨by decide, by decide⟩ (by decide) ?_
  refine r_ic_ne (tgt := 69) d_X12_polynomial_62 rfl (fun hc => ?_) (fun hc => ?_)
  · have h := h.1 hc
    refine r_iconst (x := 1) d_X12_polynomial_69 ⟨by decide, by decide⟩ ?_
    exact h
  · have h := h.2 hc
    refine r_iconst (x := (-1)) d_X12_polynomial_65 ⟨by decide, by decide⟩ ?_
    refine r_goto (tgt := 70) d_X12_polynomial_66 rfl ?_
    exact h
theorem u_X12_polynomial_70 {l : Launch} {d N : Nat} {Λ : Lay} {P : Mem → Prop} {σ : Mem} {x1 x2 x3 x4 w0 t : Int} (o_t : Ob N Λ t 21 36) (h0d : 1 ≤ d)
    (h : ((x4 = 0 → ((¬ x3 = 0 → WV l mX12_polynomial d P 103 [(2, t), (0, x1), (0, x2), (0, x3), (0, x4), (0, w0)] [] N Λ σ) ∧ (x3 = 0 → (CV l mX12_wrongs (d - 1) [(2, t), (0, 1), (0, (σ t 21))] N Λ σ (fun σ1 => WV l mX12_polynomial d P 103 [(2, t), (0, x1), (0, x2), (0, x3), (0, x4), (0, w0)] [] N Λ σ1))))) ∧ (¬ (x4 = 0) → (∀ τ2, τ2 = st σ t 21 (addI (σ t 21) 1) → WV l mX12_polynomial d P 103 [(2, t), (0, x1), (0, x2), (0, x3), (0, x4), (0, w0)] [] N Λ τ2)))) :
    WV l mX12_polynomial d P 70 [(2, t), (0, x1), (0, x2), (0, x3), (0, x4), (3, 0)] [(0, w0)] N Λ σ := by
  have hd_1 : 1 ≤ d := Nat.le_trans (by decide) h0d
  refine r_istore (L2 := [(2, t), (0, x1), (0, x2), (0, x3), (0, x4), (0, w0)]) d_X12_polynomial_70 (by decide) rfl rfl ?_
  refine r_iload (x := x4) d_X12_polynomial_72 rfl ?_
  refine r_if_eq (tgt := 90) d_X12_polynomial_74 rfl (fun hc => ?_) (fun hc => ?_)
  · have h := h.1 hc
    refine r_iload_n (x := x3) d_X12_polynomial_90 rfl ?_
    refine r_if_ne (tgt := 103) d_X12_polynomial_91 rfl (fun hc => ?_) (fun hc => ?_)
    · have h := h.1 hc
      exact h
    · have h := h.2 hc
      refine r_aload_n (x := t) d_X12_polynomial_94 rfl o_t.1 ?_
      refine r_iconst (x := 1) d_X12_polynomial_95 ⟨by decide, by decide⟩ ?_
      refine r_aload_n (x := t) d_X12_polynomial_96 rfl o_t.1 ?_
      refine r_getf (j := 21) (t := 0) (x := (σ t 21)) d_X12_polynomial_97 kX12 (by decide) fl_X12_255 o_t.1 o_t.2.1 o_t.2.2.1 o_t.2.2.2 rfl rfl ?_
      refine x_callVV (Y2 := mX12_wrongs) (c := t) (As := [(0, 1), (0, (σ t 21))]) (S := []) d_X12_polynomial_100 ok_mX12_wrongs ml_X12_276 rfl (Nat.le_of_ble_eq_true rfl) (Nat.le_of_ble_eq_true rfl) rfl hd_1 kX12 o_t (CV.mono h (fun σ1 h => ?_))
      exact h
  · have h := h.2 hc
    refine r_aload_n (x := t) d_X12_polynomial_77 rfl o_t.1 ?_
    refine r_dup d_X12_polynomial_78 rfl ?_
    refine r_getf (j := 21) (t := 0) (x := (σ t 21)) d_X12_polynomial_79 kX12 (by decide) fl_X12_255 o_t.1 o_t.2.1 o_t.2.2.1 o_t.2.2.2 rfl rfl ?_
    refine r_iconst (x := 1) d_X12_polynomial_82 ⟨by decide, by decide⟩ ?_
    refine r_iadd d_X12_polynomial_83 ?_
    refine r_putI (j := 21) d_X12_polynomial_84 kX12 (by decide) fl_X12_255 rfl o_t.1 o_t.2.1 o_t.2.2.1 o_t.2.2.2 rfl ?_
    refine r_nmM (fun τ2 eτ2 => ?_)
    have h := h τ2 eτ2
    refine r_goto (tgt := 103) d_X12_polynomial_87 rfl ?_
    exact h
theorem u_X12_polynomial_103 {l : Launch} {d N : Nat} {Λ : Lay} {P : Mem → Prop} {σ : Mem} {x1 x2 x3 x4 x5 t : Int} (o_t : Ob N Λ t 21 36) (h0d : 1 ≤ d)
    (h : ((¬ (σ t 22) = 0 → WV l mX12_polynomial d P 119 [(2, t), (0, x1), (0, x2), (0, 0), (0, x4), (0, x5)] [] N Λ σ) ∧ ((σ t 22) = 0 → (CV l mX12_term (d - 1) [(2, t), (0, x5), (0, x1)] N Λ σ (fun σ1 => WV l mX12_polynomial d P 119 [(2, t), (0, x1), (0, x2), (0, 0), (0, x4), (0, x5)] [] N Λ σ1))))) :
    WV l mX12_polynomial d P 103 [(2, t), (0, x1), (0, x2), (0, x3), (0, x4), (0, x5)] [] N Λ σ := by
  have hd_1 : 1 ≤ d := Nat.le_trans (by decide) h0d
  refine r_iconst (x := 0) d_X12_polynomial_103 ⟨by decide, by decide⟩ ?_
  refine r_istore_n (L2 := [(2, t), (0, x1), (0, x2), (0, 0), (0, x4), (0, x5)]) d_X12_polynomial_104 (by decide) rfl rfl ?_
  refine r_aload_n (x := t) d_X12_polynomial_105 rfl o_t.1 ?_
  refine r_getf (j := 22) (t := 0) (x := (σ t 22)) d_X12_polynomial_106 kX12 (by decide) fl_X12_261 o_t.1 o_t.2.1 o_t.2.2.1 o_t.2.2.2 rfl rfl ?_
  refine r_if_ne (tgt := 119) d_X12_polynomial_109 rfl (fun hc => ?_) (fun hc => ?_)
  · have h := h.1 hc
    exact h
  · have h := h.2 hc
    refine r_aload_n (x := t) d_X12_polynomial_112 rfl o_t.1 ?_
    refine r_iload (x := x5) d_X12_polynomial_113 rfl ?_
    refine r_iload_n (x := x1) d_X12_polynomial_115 rfl ?_
    refine x_callVV (Y2 := mX12_term) (c := t) (As := [(0, x5), (0, x1)]) (S := []) d_X12_polynomial_116 ok_mX12_term ml_X12_293 rfl (Nat.le_of_ble_eq_true rfl) (Nat.le_of_ble_eq_true rfl) rfl hd_1 kX12 o_t (CV.mono h (fun σ1 h => ?_))
    exact h
theorem u_X12_polynomial_119 {l : Launch} {d N : Nat} {Λ : Lay} {P : Mem → Prop} {σ : Mem} {x1 x2 x3 x4 x5 t : Int} (o_t : Ob N Λ t 21 36)
    (h : ((¬ (σ t 22) = 0 → WV l mX12_polynomial d P 141 [(2, t), (0, x1), (0, x2), (0, x3), (0, x4), (0, x5)] [] N Λ σ) ∧ ((σ t 22) = 0 → (((σ t 20) ≤ (σ t 21) → WV l mX12_polynomial d P 141 [(2, t), (0, x1), (0, x2), (0, x3), (0, x4), (0, x5)] [] N Λ σ) ∧ (¬ ((σ t 20) ≤ (σ t 21)) → WV l mX12_polynomial d P 142 [(2, t), (0, x1), (0, x2), (0, x3), (0, x4), (0, x5)] [(0, 1)] N Λ σ))))) :
    WV l mX12_polynomial d P 119 [(2, t), (0, x1), (0, x2), (0, x3), (0, x4), (0, x5)] [] N Λ σ := by
  refine r_aload_n (x := t) d_X12_polynomial_119 rfl o_t.1 ?_
  refine r_getf (j := 22) (t := 0) (x := (σ t 22)) d_X12_polynomial_120 kX12 (by decide) fl_X12_261 o_t.1 o_t.2.1 o_t.2.2.1 o_t.2.2.2 rfl rfl ?_
  refine r_if_ne (tgt := 141) d_X12_polynomial_123 rfl (fun hc => ?_) (fun hc => ?_)
  · have h := h.1 hc
    exact h
  · have h := h.2 hc
    refine r_aload_n (x := t) d_X12_polynomial_126 rfl o_t.1 ?_
    refine r_getf (j := 21) (t := 0) (x := (σ t 21)) d_X12_polynomial_127 kX12 (by decide) fl_X12_255 o_t.1 o_t.2.1 o_t.2.2.1 o_t.2.2.2 rfl rfl ?_
    refine r_aload_n (x := t) d_X12_polynomial_130 rfl o_t.1 ?_
    refine r_getf (j := 20) (t := 0) (x := (σ t 20)) d_X12_polynomial_131 kX12 (by decide) fl_X12_258 o_t.1 o_t.2.1 o_t.2.2.1 o_t.2.2.2 rfl rfl ?_
    refine r_ic_ge (tgt := 141) d_X12_polynomial_134 rfl (fun hc => ?_) (fun hc => ?_)
    · have h := h.1 hc
      exact h
    · have h := h.2 hc
      refine r_iconst (x := 1) d_X12_polynomial_137 ⟨by decide, by decide⟩ ?_
      refine r_goto (tgt := 142) d_X12_polynomial_138 rfl ?_
      exact h
theorem u_X12_polynomial_141 {l : Launch} {d N : Nat} {Λ : Lay} {P : Mem → Prop} {σ : Mem} {x1 x2 x3 x4 x5 t : Int}
    (h : WV l mX12_polynomial d P 142 [(2, t), (0, x1), (0, x2), (0, x3), (0, x4), (0, x5)] [(0, 0)] N Λ σ) :
    WV l mX12_polynomial d P 141 [(2, t), (0, x1), (0, x2), (0, x3), (0, x4), (0, x5)] [] N Λ σ := by
  refine r_iconst (x := 0) d_X12_polynomial_141 ⟨by decide, by decide⟩ ?_
  exact h
theorem u_X12_polynomial_142 {l : Launch} {d N : Nat} {Λ : Lay} {P : Mem → Prop} {σ : Mem} {x1 x2 x3 x4 x5 w0 t : Int}
    (h : WV l mX12_polynomial d P 20 [(2, t), (0, x1), (0, w0), (0, x3), (3, 0), (3, 0)] [] N Λ σ) :
    WV l mX12_polynomial d P 142 [(2, t), (0, x1), (0, x2), (0, x3), (0, x4), (0, x5)] [(0, w0)] N Λ σ := by
  refine r_istore_n (L2 := [(2, t), (0, x1), (0, w0), (0, x3), (0, x4), (0, x5)]) d_X12_polynomial_142 (by decide) rfl rfl ?_
  refine r_goto (tgt := 20) d_X12_polynomial_143 rfl ?_
  exact x_mask h ⟨Or.inr rfl, Or.inr rfl, Or.inr rfl, Or.inr rfl, Or.inl rfl, Or.inl rfl, trivial⟩
theorem u_X12_polynomial_146 {l : Launch} {d N : Nat} {Λ : Lay} {P : Mem → Prop} {σ : Mem} {x1 x2 x3 t : Int}
    (h : P σ) :
    WV l mX12_polynomial d P 146 [(2, t), (0, x1), (0, x2), (0, x3), (3, 0), (3, 0)] [] N Λ σ := by
  exact r_vret d_X12_polynomial_146 rfl (Nat.le_refl 0) (Nat.le_refl 0) ⟨rfl, rfl, rfl, h⟩
theorem u_X12_opensText_0 {l : Launch} {d N : Nat} {Λ : Lay} {P : Int → Mem → Prop} {σ : Mem} {x1 x2 t : Int} (o_t : Ob N Λ t 21 36) (h0d : 2 ≤ d)
    (h : (((cmpL x1 0) < 0 → (CI l mX12_refused (d - 1) [(2, t), (0, (-2))] N Λ σ (fun v2 σ1 => P v2 σ1))) ∧ (¬ ((cmpL x1 0) < 0) → ((0 < (cmpL x1 5) → (CI l mX12_refused (d - 1) [(2, t), (0, (-2))] N Λ σ (fun v4 σ3 => P v4 σ3))) ∧ (¬ (0 < (cmpL x1 5)) → (((cmpL x2 0) < 0 → (CI l mX12_refused (d - 1) [(2, t), (0, (-3))] N Λ σ (fun v6 σ5 => P v6 σ5))) ∧ (¬ ((cmpL x2 0) < 0) → ((0 < (cmpL x2 (σ t 19)) → (CI l mX12_refused (d - 1) [(2, t), (0, (-3))] N Λ σ (fun v8 σ7 => P v8 σ7))) ∧ (¬ (0 < (cmpL x2 (σ t 19))) → (∀ τ9, τ9 = st σ t 19 0 → (∀ τ10, τ10 = st τ9 t 20 x2 → (∀ τ11, τ11 = st τ10 t 21 0 → (∀ τ12, τ12 = st τ11 t 22 0 → (∀ τ13, τ13 = st τ12 t 23 (-1) → P 0 τ13)))))))))))))) :
    WI l mX12_opensText d P 0 [(2, t), (0, x1), (0, x2)] [] N Λ σ := by
  have hd_1 : 1 ≤ d := Nat.le_trans (by decide) h0d
  have he_1 : 1 ≤ d - 1 := Nat.le_sub_of_add_le (Nat.le_trans (by decide) h0d)
  refine r_iload_n (x := x1) d_X12_opensText_0 rfl ?_
  refine x_callSI (Y2 := mX12_isShelf) (As := [(0, x1)]) (S := []) d_X12_opensText_1 ok_mX12_isShelf ml_X12_199 rfl (Nat.le_of_ble_eq_true rfl) (Nat.le_of_ble_eq_true rfl) rfl hd_1 (c_X12_isShelf (v_X12_isShelf_0 he_1 ?_))
  refine ⟨fun hc => ?_, fun hc => ?_⟩
  · have h := h.1 hc
    show WP l mX12_opensText (rm d 0 0) noX _ 0 0 4 [(2, t), (0, x1), (0, x2)] [(0, 0)] N Λ σ
    refine r_if_ne (tgt := 14) d_X12_opensText_4 rfl (fun hc => absurd hc (by decide)) (fun _ => ?_)
    refine r_aload_n (x := t) d_X12_opensText_7 rfl o_t.1 ?_
    refine r_bipush (x := (-2)) d_X12_opensText_8 ⟨by decide, by decide⟩ (by decide) ?_
    refine x_callVI (Y2 := mX12_refused) (c := t) (As := [(0, (-2))]) (S := []) d_X12_opensText_10 ok_mX12_refused ml_X12_218 rfl (Nat.le_of_ble_eq_true rfl) (Nat.le_of_ble_eq_true rfl) rfl hd_1 kX12 o_t (CI.mono h (fun v2 σ1 h => ?_))
    exact r_iret d_X12_opensText_13 rfl rfl (Nat.le_refl 0) (Nat.le_refl 0) ⟨_, rfl, rfl, rfl, h⟩
  · have h := h.2 hc
    refine ⟨fun hc => ?_, fun hc => ?_⟩
    · have h := h.1 hc
      show WP l mX12_opensText (rm d 0 0) noX _ 0 0 4 [(2, t), (0, x1), (0, x2)] [(0, 0)] N Λ σ
      refine r_if_ne (tgt := 14) d_X12_opensText_4 rfl (fun hc => absurd hc (by decide)) (fun _ => ?_)
      refine r_aload_n (x := t) d_X12_opensText_7 rfl o_t.1 ?_
      refine r_bipush (x := (-2)) d_X12_opensText_8 ⟨by decide, by decide⟩ (by decide) ?_
      refine x_callVI (Y2 := mX12_refused) (c := t) (As := [(0, (-2))]) (S := []) d_X12_opensText_10 ok_mX12_refused ml_X12_218 rfl (Nat.le_of_ble_eq_true rfl) (Nat.le_of_ble_eq_true rfl) rfl hd_1 kX12 o_t (CI.mono h (fun v4 σ3 h => ?_))
      exact r_iret d_X12_opensText_13 rfl rfl (Nat.le_refl 0) (Nat.le_refl 0) ⟨_, rfl, rfl, rfl, h⟩
    · have h := h.2 hc
      show WP l mX12_opensText (rm d 0 0) noX _ 0 0 4 [(2, t), (0, x1), (0, x2)] [(0, 1)] N Λ σ
      refine r_if_ne (tgt := 14) d_X12_opensText_4 rfl (fun _ => ?_) (fun hc => absurd hc (by decide))
      refine r_iload_n (x := x2) d_X12_opensText_14 rfl ?_
      refine r_i2l d_X12_opensText_15 ?_
      refine r_lconst d_X12_opensText_16 ?_
      skip
      refine r_aload_n (x := t) d_X12_opensText_17 rfl o_t.1 ?_
      refine r_getf (j := 19) (t := 0) (x := (σ t 19)) d_X12_opensText_18 kX12 (by decide) fl_X12_252 o_t.1 o_t.2.1 o_t.2.2.1 o_t.2.2.2 rfl rfl ?_
      refine r_i2l d_X12_opensText_21 ?_
      refine x_callSI (Y2 := mX12_within) (As := [(1, x2), (1, 0), (1, (σ t 19))]) (S := []) d_X12_opensText_22 ok_mX12_within ml_X12_91 rfl (Nat.le_of_ble_eq_true rfl) (Nat.le_of_ble_eq_true rfl) rfl hd_1 (c_X12_within (v_X12_within_0 ?_))
      refine ⟨fun hc => ?_, fun hc => ?_⟩
      · have h := h.1 hc
        show WP l mX12_opensText (rm d 0 0) noX _ 0 0 25 [(2, t), (0, x1), (0, x2)] [(0, 0)] N Λ σ
        refine r_if_ne (tgt := 35) d_X12_opensText_25 rfl (fun hc => absurd hc (by decide)) (fun _ => ?_)
        refine r_aload_n (x := t) d_X12_opensText_28 rfl o_t.1 ?_
        refine r_bipush (x := (-3)) d_X12_opensText_29 ⟨by decide, by decide⟩ (by decide) ?_
        refine x_callVI (Y2 := mX12_refused) (c := t) (As := [(0, (-3))]) (S := []) d_X12_opensText_31 ok_mX12_refused ml_X12_218 rfl (Nat.le_of_ble_eq_true rfl) (Nat.le_of_ble_eq_true rfl) rfl hd_1 kX12 o_t (CI.mono h (fun v6 σ5 h => ?_))
        exact r_iret d_X12_opensText_34 rfl rfl (Nat.le_refl 0) (Nat.le_refl 0) ⟨_, rfl, rfl, rfl, h⟩
      · have h := h.2 hc
        refine ⟨fun hc => ?_, fun hc => ?_⟩
        · have h := h.1 hc
          show WP l mX12_opensText (rm d 0 0) noX _ 0 0 25 [(2, t), (0, x1), (0, x2)] [(0, 0)] N Λ σ
          refine r_if_ne (tgt := 35) d_X12_opensText_25 rfl (fun hc => absurd hc (by decide)) (fun _ => ?_)
          refine r_aload_n (x := t) d_X12_opensText_28 rfl o_t.1 ?_
          refine r_bipush (x := (-3)) d_X12_opensText_29 ⟨by decide, by decide⟩ (by decide) ?_
          refine x_callVI (Y2 := mX12_refused) (c := t) (As := [(0, (-3))]) (S := []) d_X12_opensText_31 ok_mX12_refused ml_X12_218 rfl (Nat.le_of_ble_eq_true rfl) (Nat.le_of_ble_eq_true rfl) rfl hd_1 kX12 o_t (CI.mono h (fun v8 σ7 h => ?_))
          exact r_iret d_X12_opensText_34 rfl rfl (Nat.le_refl 0) (Nat.le_refl 0) ⟨_, rfl, rfl, rfl, h⟩
        · have h := h.2 hc
          show WP l mX12_opensText (rm d 0 0) noX _ 0 0 25 [(2, t), (0, x1), (0, x2)] [(0, 1)] N Λ σ
          refine r_if_ne (tgt := 35) d_X12_opensText_25 rfl (fun _ => ?_) (fun hc => absurd hc (by decide))
          refine r_aload_n (x := t) d_X12_opensText_35 rfl o_t.1 ?_
          refine r_iconst (x := 0) d_X12_opensText_36 ⟨by decide, by decide⟩ ?_
          refine r_putI (j := 19) d_X12_opensText_37 kX12 (by decide) fl_X12_252 rfl o_t.1 o_t.2.1 o_t.2.2.1 o_t.2.2.2 rfl ?_
          refine r_nmM (fun τ9 eτ9 => ?_)
          have h := h τ9 eτ9
          refine r_aload_n (x := t) d_X12_opensText_40 rfl o_t.1 ?_
          refine r_iload_n (x := x2) d_X12_opensText_41 rfl ?_
          refine r_putI (j := 20) d_X12_opensText_42 kX12 (by decide) fl_X12_258 rfl o_t.1 o_t.2.1 o_t.2.2.1 o_t.2.2.2 rfl ?_
          refine r_nmM (fun τ10 eτ10 => ?_)
          have h := h τ10 eτ10
          refine r_aload_n (x := t) d_X12_opensText_45 rfl o_t.1 ?_
          refine r_iconst (x := 0) d_X12_opensText_46 ⟨by decide, by decide⟩ ?_
          refine r_putI (j := 21) d_X12_opensText_47 kX12 (by decide) fl_X12_255 rfl o_t.1 o_t.2.1 o_t.2.2.1 o_t.2.2.2 rfl ?_
          refine r_nmM (fun τ11 eτ11 => ?_)
          have h := h τ11 eτ11
          refine r_aload_n (x := t) d_X12_opensText_50 rfl o_t.1 ?_
          refine r_iconst (x := 0) d_X12_opensText_51 ⟨by decide, by decide⟩ ?_
          refine r_putI (j := 22) d_X12_opensText_52 kX12 (by decide) fl_X12_261 rfl o_t.1 o_t.2.1 o_t.2.2.1 o_t.2.2.2 rfl ?_
          refine r_nmM (fun τ12 eτ12 => ?_)
          have h := h τ12 eτ12
          refine r_aload_n (x := t) d_X12_opensText_55 rfl o_t.1 ?_
          refine r_iconst (x := (-1)) d_X12_opensText_56 ⟨by decide, by decide⟩ ?_
          refine r_putI (j := 23) d_X12_opensText_57 kX12 (by decide) fl_X12_61 rfl o_t.1 o_t.2.1 o_t.2.2.1 o_t.2.2.2 rfl ?_
          refine r_nmM (fun τ13 eτ13 => ?_)
          have h := h τ13 eτ13
          refine r_iconst (x := 0) d_X12_opensText_60 ⟨by decide, by decide⟩ ?_
          exact r_iret d_X12_opensText_61 rfl rfl (Nat.le_refl 0) (Nat.le_refl 0) ⟨_, rfl, rfl, rfl, h⟩
theorem u_X12_often_0 {l : Launch} {d N : Nat} {Λ : Lay} {P : Int → Mem → Prop} {σ : Mem} {x1 x2 t : Int}
    (h : WI l mX12_often d P 5 [(2, t), (0, x1), (0, x2), (0, 0), (0, 0), (3, 0)] [] N Λ σ) :
    WI l mX12_often d P 0 [(2, t), (0, x1), (0, x2), (3, 0), (3, 0), (3, 0)] [] N Λ σ := by
  refine r_iconst (x := 0) d_X12_often_0 ⟨by decide, by decide⟩ ?_
  refine r_istore_n (L2 := [(2, t), (0, x1), (0, x2), (0, 0), (3, 0), (3, 0)]) d_X12_often_1 (by decide) rfl rfl ?_
  refine r_iconst (x := 0) d_X12_often_2 ⟨by decide, by decide⟩ ?_
  refine r_istore (L2 := [(2, t), (0, x1), (0, x2), (0, 0), (0, 0), (3, 0)]) d_X12_often_3 (by decide) rfl rfl ?_
  exact h
theorem u_X12_often_5 {l : Launch} {d N : Nat} {Λ : Lay} {P : Int → Mem → Prop} {σ : Mem} {x1 x2 x3 x4 t : Int} (h0d : 1 ≤ d)
    (h : (CI l mX12_degreeOf (d - 1) [(0, x1)] N Λ σ (fun v2 σ1 => ((v2 ≤ x4 → P x3 σ1) ∧ (¬ (v2 ≤ x4) → WI l mX12_often d P 17 [(2, t), (0, x1), (0, x2), (0, x3), (0, x4), (0, 0)] [] N Λ σ1))))) :
    WI l mX12_often d P 5 [(2, t), (0, x1), (0, x2), (0, x3), (0, x4), (3, 0)] [] N Λ σ := by
  have hd_1 : 1 ≤ d := Nat.le_trans (by decide) h0d
  refine r_iload (x := x4) d_X12_often_5 rfl ?_
  refine r_iload_n (x := x1) d_X12_often_7 rfl ?_
  refine x_callSI (Y2 := mX12_degreeOf) (As := [(0, x1)]) (S := [(0, x4)]) d_X12_often_8 ok_mX12_degreeOf ml_X12_138 rfl (Nat.le_of_ble_eq_true rfl) (Nat.le_of_ble_eq_true rfl) rfl hd_1 (CI.mono h (fun v2 σ1 h => ?_))
  refine r_ic_ge (tgt := 63) d_X12_often_11 rfl (fun hc => ?_) (fun hc => ?_)
  · have h := h.1 hc
    refine r_iload_n (x := x3) d_X12_often_63 rfl ?_
    exact r_iret d_X12_often_64 rfl rfl (Nat.le_refl 0) (Nat.le_refl 0) ⟨_, rfl, rfl, rfl, h⟩
  · have h := h.2 hc
    refine r_iconst (x := 0) d_X12_often_14 ⟨by decide, by decide⟩ ?_
    refine r_istore (L2 := [(2, t), (0, x1), (0, x2), (0, x3), (0, x4), (0, 0)]) d_X12_often_15 (by decide) rfl rfl ?_
    exact h
theorem u_X12_often_17 {l : Launch} {d N : Nat} {Λ : Lay} {P : Int → Mem → Prop} {σ : Mem} {x1 x2 x3 x4 x5 t t_letterOf : Int} (o_t : Ob N Λ t 21 36) (f_t_letterOf : (Λ t).2.2 2 = t_letterOf) (h0d : 1 ≤ d)
    (h : ((3 ≤ x5 → (∀ y1, y1 = addI x4 1 → WI l mX12_often d P 5 [(2, t), (0, x1), (0, x2), (0, x3), (0, y1), (3, 0)] [] N Λ σ)) ∧ (¬ (3 ≤ x5) → (CI l mX12_rankIn (d - 1) [(0, x1), (0, x4)] N Λ σ (fun v3 σ2 => (Ix N Λ t_letterOf 0 (addI (mulI 3 v3) x5) ∧ ((¬ (σ2 t_letterOf (addI (mulI 3 v3) x5)) = x2 → (∀ y4, y4 = (addI x3 0) → (∀ y5, y5 = addI x5 1 → WI l mX12_often d P 17 [(2, t), (0, x1), (0, x2), (0, y4), (0, x4), (0, y5)] [] N Λ σ2))) ∧ ((σ2 t_letterOf (addI (mulI 3 v3) x5)) = x2 → (∀ y6, y6 = (addI x3 1) → (∀ y7, y7 = addI x5 1 → WI l mX12_often d P 17 [(2, t), (0, x1), (0, x2), (0, y6), (0, x4), (0, y7)] [] N Λ σ2)))))))))) :
    WI l mX12_often d P 17 [(2, t), (0, x1), (0, x2), (0, x3), (0, x4), (0, x5)] [] N Λ σ := by
  have hd_1 : 1 ≤ d := Nat.le_trans (by decide) h0d
  refine r_iload (x := x5) d_X12_often_17 rfl ?_
  refine r_iconst (x := 3) d_X12_often_19 ⟨by decide, by decide⟩ ?_
  refine r_ic_ge (tgt := 57) d_X12_often_20 rfl (fun hc => ?_) (fun hc => ?_)
  · have h := h.1 hc
    refine x_iinc (x := x4) (L := [(2, t), (0, x1), (0, x2), (0, x3), (0, x4), (0, x5)]) d_X12_often_57 rfl (by decide) rfl (fun y1 ey1 => ?_)
    have h := h y1 ey1
    show WP _ _ _ _ _ _ _ _ [(2, t), (0, x1), (0, x2), (0, x3), (0, y1), (0, x5)] _ _ _ _
    refine r_goto (tgt := 5) d_X12_often_60 rfl ?_
    exact x_mask h ⟨Or.inr rfl, Or.inr rfl, Or.inr rfl, Or.inr rfl, Or.inr rfl, Or.inl rfl, trivial⟩
  · have h := h.2 hc
    refine r_iload_n (x := x3) d_X12_often_23 rfl ?_
    refine r_aload_n (x := t) d_X12_often_24 rfl o_t.1 ?_
    refine r_getf (j := 2) (t := 2) (x := t_letterOf) d_X12_often_25 kX12 (by decide) fl_X12_17 o_t.1 o_t.2.1 o_t.2.2.1 o_t.2.2.2 rfl f_t_letterOf ?_
    refine r_iconst (x := 3) d_X12_often_28 ⟨by decide, by decide⟩ ?_
    refine r_iload_n (x := x1) d_X12_often_29 rfl ?_
    refine r_iload (x := x4) d_X12_often_30 rfl ?_
    refine x_callSI (Y2 := mX12_rankIn) (As := [(0, x1), (0, x4)]) (S := [(0, 3), (2, t_letterOf), (0, x3)]) d_X12_often_32 ok_mX12_rankIn ml_X12_135 rfl (Nat.le_of_ble_eq_true rfl) (Nat.le_of_ble_eq_true rfl) rfl hd_1 (CI.mono h (fun v3 σ2 h => ?_))
    refine r_imul d_X12_often_35 ?_
    refine r_iload (x := x5) d_X12_often_36 rfl ?_
    refine r_iadd d_X12_often_38 ?_
    refine x_iald d_X12_often_39 h.1 ?_
    have h := h.2
    refine r_iload_n (x := x2) d_X12_often_40 rfl ?_
    refine r_ic_ne (tgt := 48) d_X12_often_41 rfl (fun hc => ?_) (fun hc => ?_)
    · have h := h.1 hc
      refine r_iconst (x := 0) d_X12_often_48 ⟨by decide, by decide⟩ ?_
      refine r_iadd d_X12_often_49 ?_
      refine r_nm (fun y4 ey4 => ?_)
      have h := h y4 ey4
      refine r_istore_n (L2 := [(2, t), (0, x1), (0, x2), (0, y4), (0, x4), (0, x5)]) d_X12_often_50 (by decide) rfl rfl ?_
      refine x_iinc (x := x5) (L := [(2, t), (0, x1), (0, x2), (0, y4), (0, x4), (0, x5)]) d_X12_often_51 rfl (by decide) rfl (fun y5 ey5 => ?_)
      have h := h y5 ey5
      show WP _ _ _ _ _ _ _ _ [(2, t), (0, x1), (0, x2), (0, y4), (0, x4), (0, y5)] _ _ _ _
      refine r_goto (tgt := 17) d_X12_often_54 rfl ?_
      exact h
    · have h := h.2 hc
      refine r_iconst (x := 1) d_X12_often_44 ⟨by decide, by decide⟩ ?_
      refine r_goto (tgt := 49) d_X12_often_45 rfl ?_
      refine r_iadd d_X12_often_49 ?_
      refine r_nm (fun y6 ey6 => ?_)
      have h := h y6 ey6
      refine r_istore_n (L2 := [(2, t), (0, x1), (0, x2), (0, y6), (0, x4), (0, x5)]) d_X12_often_50 (by decide) rfl rfl ?_
      refine x_iinc (x := x5) (L := [(2, t), (0, x1), (0, x2), (0, y6), (0, x4), (0, x5)]) d_X12_often_51 rfl (by decide) rfl (fun y7 ey7 => ?_)
      have h := h y7 ey7
      show WP _ _ _ _ _ _ _ _ [(2, t), (0, x1), (0, x2), (0, y6), (0, x4), (0, y7)] _ _ _ _
      refine r_goto (tgt := 17) d_X12_often_54 rfl ?_
      exact h
theorem u_X12_counts_0 {l : Launch} {d N : Nat} {Λ : Lay} {P : Mem → Prop} {σ : Mem} {x1 x2 t : Int}
    (h : WV l mX12_counts d P 2 [(2, t), (0, x1), (0, x2), (0, 0)] [] N Λ σ) :
    WV l mX12_counts d P 0 [(2, t), (0, x1), (0, x2), (3, 0)] [] N Λ σ := by
  refine r_iconst (x := 0) d_X12_counts_0 ⟨by decide, by decide⟩ ?_
  refine r_istore_n (L2 := [(2, t), (0, x1), (0, x2), (0, 0)]) d_X12_counts_1 (by decide) rfl rfl ?_
  exact h
theorem u_X12_counts_2 {l : Launch} {d N : Nat} {Λ : Lay} {P : Mem → Prop} {σ : Mem} {x1 x2 x3 t t_counts : Int} (o_t : Ob N Λ t 21 36) (f_t_counts : (Λ t).2.2 25 = t_counts) (h0d : 1 ≤ d)
    (h : ((10 ≤ x3 → P σ) ∧ (¬ (10 ≤ x3) → (Ix N Λ t_counts 0 x3 ∧ (CI l mX12_often (d - 1) [(2, t), (0, x1), (0, x3)] N Λ σ (fun v2 σ1 => (Ix N Λ t_counts 0 x3 ∧ (∀ τ3, τ3 = st σ1 t_counts x3 (addI (σ t_counts x3) (mulI x2 v2)) → (∀ y4, y4 = addI x3 1 → WV l mX12_counts d P 2 [(2, t), (0, x1), (0, x2), (0, y4)] [] N Λ τ3))))))))) :
    WV l mX12_counts d P 2 [(2, t), (0, x1), (0, x2), (0, x3)] [] N Λ σ := by
  have hd_1 : 1 ≤ d := Nat.le_trans (by decide) h0d
  refine r_iload_n (x := x3) d_X12_counts_2 rfl ?_
  refine r_bipush (x := 10) d_X12_counts_3 ⟨by decide, by decide⟩ (by decide) ?_
  refine r_ic_ge (tgt := 31) d_X12_counts_5 rfl (fun hc => ?_) (fun hc => ?_)
  · have h := h.1 hc
    exact r_vret d_X12_counts_31 rfl (Nat.le_refl 0) (Nat.le_refl 0) ⟨rfl, rfl, rfl, h⟩
  · have h := h.2 hc
    refine r_aload_n (x := t) d_X12_counts_8 rfl o_t.1 ?_
    refine r_getf (j := 25) (t := 2) (x := t_counts) d_X12_counts_9 kX12 (by decide) fl_X12_64 o_t.1 o_t.2.1 o_t.2.2.1 o_t.2.2.2 rfl f_t_counts ?_
    refine r_iload_n (x := x3) d_X12_counts_12 rfl ?_
    refine r_dup2 d_X12_counts_13 rfl rfl ?_
    refine x_iald d_X12_counts_14 h.1 ?_
    have h := h.2
    refine r_iload_n (x := x2) d_X12_counts_15 rfl ?_
    refine r_aload_n (x := t) d_X12_counts_16 rfl o_t.1 ?_
    refine r_iload_n (x := x1) d_X12_counts_17 rfl ?_
    refine r_iload_n (x := x3) d_X12_counts_18 rfl ?_
    refine x_callVI (Y2 := mX12_often) (c := t) (As := [(0, x1), (0, x3)]) (S := [(0, x2), (0, (σ t_counts x3)), (0, x3), (2, t_counts)]) d_X12_counts_19 ok_mX12_often ml_X12_343 rfl (Nat.le_of_ble_eq_true rfl) (Nat.le_of_ble_eq_true rfl) rfl hd_1 kX12 o_t (CI.mono h (fun v2 σ1 h => ?_))
    refine r_imul d_X12_counts_22 ?_
    refine r_iadd d_X12_counts_23 ?_
    refine x_iast d_X12_counts_24 h.1 ?_
    have h := h.2
    refine r_nmM (fun τ3 eτ3 => ?_)
    have h := h τ3 eτ3
    refine x_iinc (x := x3) (L := [(2, t), (0, x1), (0, x2), (0, x3)]) d_X12_counts_25 rfl (by decide) rfl (fun y4 ey4 => ?_)
    have h := h y4 ey4
    show WP _ _ _ _ _ _ _ _ [(2, t), (0, x1), (0, x2), (0, y4)] _ _ _ _
    refine r_goto (tgt := 2) d_X12_counts_28 rfl ?_
    exact h
theorem u_X12_goesOn_0 {l : Launch} {d N : Nat} {Λ : Lay} {P : Int → Mem → Prop} {σ : Mem} {x1 t t_formRank : Int} (o_t : Ob N Λ t 21 36) (f_t_formRank : (Λ t).2.2 26 = t_formRank)
    (h : ((¬ x1 = (σ t 28) → ((¬ x1 = 0 → (Ix N Λ t_formRank 0 (subI x1 1) ∧ (∀ y1, y1 = (σ t_formRank (subI x1 1)) → WI l mX12_goesOn d P 58 [(2, t), (0, x1), (0, y1), (3, 0), (3, 0)] [] N Λ σ))) ∧ (x1 = 0 → WI l mX12_goesOn d P 58 [(2, t), (0, x1), (0, 1), (3, 0), (3, 0)] [] N Λ σ))) ∧ (x1 = (σ t 28) → (∀ τ2, τ2 = st σ t 29 (addI (σ t 29) 1) → (∀ τ3, τ3 = st τ2 t 27 (subI (τ2 t 27) 1) → ((0 ≤ (τ3 t 27) → P 0 τ3) ∧ (¬ (0 ≤ (τ3 t 27)) → P 1 τ3))))))) :
    WI l mX12_goesOn d P 0 [(2, t), (0, x1), (3, 0), (3, 0), (3, 0)] [] N Λ σ := by
  refine r_iload_n (x := x1) d_X12_goesOn_0 rfl ?_
  refine r_aload_n (x := t) d_X12_goesOn_1 rfl o_t.1 ?_
  refine r_getf (j := 28) (t := 0) (x := (σ t 28)) d_X12_goesOn_2 kX12 (by decide) fl_X12_355 o_t.1 o_t.2.1 o_t.2.2.1 o_t.2.2.2 rfl rfl ?_
  refine r_ic_ne (tgt := 41) d_X12_goesOn_5 rfl (fun hc => ?_) (fun hc => ?_)
  · have h := h.1 hc
    refine r_iload_n (x := x1) d_X12_goesOn_41 rfl ?_
    refine r_if_ne (tgt := 49) d_X12_goesOn_42 rfl (fun hc => ?_) (fun hc => ?_)
    · have h := h.1 hc
      refine r_aload_n (x := t) d_X12_goesOn_49 rfl o_t.1 ?_
      refine r_getf (j := 26) (t := 2) (x := t_formRank) d_X12_goesOn_50 kX12 (by decide) fl_X12_67 o_t.1 o_t.2.1 o_t.2.2.1 o_t.2.2.2 rfl f_t_formRank ?_
      refine r_iload_n (x := x1) d_X12_goesOn_53 rfl ?_
      refine r_iconst (x := 1) d_X12_goesOn_54 ⟨by decide, by decide⟩ ?_
      refine r_isub d_X12_goesOn_55 ?_
      refine x_iald d_X12_goesOn_56 h.1 ?_
      have h := h.2
      refine r_nm (fun y1 ey1 => ?_)
      have h := h y1 ey1
      refine r_istore_n (L2 := [(2, t), (0, x1), (0, y1), (3, 0), (3, 0)]) d_X12_goesOn_57 (by decide) rfl rfl ?_
      exact h
    · have h := h.2 hc
      refine r_iconst (x := 1) d_X12_goesOn_45 ⟨by decide, by decide⟩ ?_
      refine r_goto (tgt := 57) d_X12_goesOn_46 rfl ?_
      refine r_istore_n (L2 := [(2, t), (0, x1), (0, 1), (3, 0), (3, 0)]) d_X12_goesOn_57 (by decide) rfl rfl ?_
      exact h
  · have h := h.2 hc
    refine r_aload_n (x := t) d_X12_goesOn_8 rfl o_t.1 ?_
    refine r_dup d_X12_goesOn_9 rfl ?_
    refine r_getf (j := 29) (t := 0) (x := (σ t 29)) d_X12_goesOn_10 kX12 (by decide) fl_X12_358 o_t.1 o_t.2.1 o_t.2.2.1 o_t.2.2.2 rfl rfl ?_
    refine r_iconst (x := 1) d_X12_goesOn_13 ⟨by decide, by decide⟩ ?_
    refine r_iadd d_X12_goesOn_14 ?_
    refine r_putI (j := 29) d_X12_goesOn_15 kX12 (by decide) fl_X12_358 rfl o_t.1 o_t.2.1 o_t.2.2.1 o_t.2.2.2 rfl ?_
    refine r_nmM (fun τ2 eτ2 => ?_)
    have h := h τ2 eτ2
    refine r_aload_n (x := t) d_X12_goesOn_18 rfl o_t.1 ?_
    refine r_dup d_X12_goesOn_19 rfl ?_
    refine r_getf (j := 27) (t := 0) (x := (τ2 t 27)) d_X12_goesOn_20 kX12 (by decide) fl_X12_361 o_t.1 o_t.2.1 o_t.2.2.1 o_t.2.2.2 rfl rfl ?_
    refine r_iconst (x := 1) d_X12_goesOn_23 ⟨by decide, by decide⟩ ?_
    refine r_isub d_X12_goesOn_24 ?_
    refine r_putI (j := 27) d_X12_goesOn_25 kX12 (by decide) fl_X12_361 rfl o_t.1 o_t.2.1 o_t.2.2.1 o_t.2.2.2 rfl ?_
    refine r_nmM (fun τ3 eτ3 => ?_)
    have h := h τ3 eτ3
    refine r_aload_n (x := t) d_X12_goesOn_28 rfl o_t.1 ?_
    refine r_getf (j := 27) (t := 0) (x := (τ3 t 27)) d_X12_goesOn_29 kX12 (by decide) fl_X12_361 o_t.1 o_t.2.1 o_t.2.2.1 o_t.2.2.2 rfl rfl ?_
    refine r_if_ge (tgt := 39) d_X12_goesOn_32 rfl (fun hc => ?_) (fun hc => ?_)
    · have h := h.1 hc
      refine r_iconst (x := 0) d_X12_goesOn_39 ⟨by decide, by decide⟩ ?_
      exact r_iret d_X12_goesOn_40 rfl (by decide) (Nat.le_refl 0) (Nat.le_refl 0) ⟨_, rfl, rfl, rfl, h⟩
    · have h := h.2 hc
      refine r_iconst (x := 1) d_X12_goesOn_35 ⟨by decide, by decide⟩ ?_
      refine r_goto (tgt := 40) d_X12_goesOn_36 rfl ?_
      exact r_iret d_X12_goesOn_40 rfl (by decide) (Nat.le_refl 0) (Nat.le_refl 0) ⟨_, rfl, rfl, rfl, h⟩
theorem u_X12_goesOn_58 {l : Launch} {d N : Nat} {Λ : Lay} {P : Int → Mem → Prop} {σ : Mem} {x1 x2 t t_counts t_formRank t_letterOf : Int} (o_t : Ob N Λ t 21 36) (f_t_counts : (Λ t).2.2 25 = t_counts) (f_t_letterOf : (Λ t).2.2 2 = t_letterOf) (f_t_formRank : (Λ t).2.2 26 = t_formRank) (h0d : 1 ≤ d)
    (h : ((120 < x2 → P 0 σ) ∧ (¬ (120 < x2) → ((x1 ≤ 0 → (Ix N Λ t_letterOf 0 (mulI 3 x2) ∧ (Ix N Λ t_counts 0 (σ t_letterOf (mulI 3 x2)) ∧ (((σ t_counts (σ t_letterOf (mulI 3 x2))) ≤ 0 → (∀ y1, y1 = addI x2 1 → WI l mX12_goesOn d P 58 [(2, t), (0, x1), (0, y1), (3, 0), (3, 0)] [] N Λ σ)) ∧ (¬ ((σ t_counts (σ t_letterOf (mulI 3 x2))) ≤ 0) → (Ix N Λ t_letterOf 0 (addI (mulI 3 x2) 1) ∧ (Ix N Λ t_counts 0 (σ t_letterOf (addI (mulI 3 x2) 1)) ∧ (((σ t_counts (σ t_letterOf (addI (mulI 3 x2) 1))) ≤ 0 → (∀ y2, y2 = addI x2 1 → WI l mX12_goesOn d P 58 [(2, t), (0, x1), (0, y2), (3, 0), (3, 0)] [] N Λ σ)) ∧ (¬ ((σ t_counts (σ t_letterOf (addI (mulI 3 x2) 1))) ≤ 0) → (Ix N Λ t_letterOf 0 (addI (mulI 3 x2) 2) ∧ (Ix N Λ t_counts 0 (σ t_letterOf (addI (mulI 3 x2) 2)) ∧ (((σ t_counts (σ t_letterOf (addI (mulI 3 x2) 2))) ≤ 0 → (∀ y3, y3 = addI x2 1 → WI l mX12_goesOn d P 58 [(2, t), (0, x1), (0, y3), (3, 0), (3, 0)] [] N Λ σ)) ∧ (¬ ((σ t_counts (σ t_letterOf (addI (mulI 3 x2) 2))) ≤ 0) → (Ix N Λ t_formRank 0 x1 ∧ (∀ τ4, τ4 = st σ t_formRank x1 x2 → (CV l mX12_counts (d - 1) [(2, t), (0, (mulI (mulI (mulI x2 121) 121) 121)), (0, (-1))] N Λ τ4 (fun σ5 => (CI l mX12_goesOn (d - 1) [(2, t), (0, (addI x1 1))] N Λ σ5 (fun v7 σ6 => (CV l mX12_counts (d - 1) [(2, t), (0, (mulI (mulI (mulI x2 121) 121) 121)), (0, 1)] N Λ σ6 (fun σ8 => ((v7 = 0 → (∀ y9, y9 = addI x2 1 → WI l mX12_goesOn d P 58 [(2, t), (0, x1), (0, y9), (3, 0), (3, 0)] [] N Λ σ8)) ∧ (¬ (v7 = 0) → P 1 σ8))))))))))))))))))))))) ∧ (¬ (x1 ≤ 0) → (Ix N Λ t_formRank 0 (subI x1 1) ∧ (CI l mX12_isBroken (d - 1) [(2, t), (0, (σ t_formRank (subI x1 1))), (0, x2)] N Λ σ (fun v11 σ10 => ((v11 = 0 → (Ix N Λ t_letterOf 0 (mulI 3 x2) ∧ (Ix N Λ t_counts 0 (σ10 t_letterOf (mulI 3 x2)) ∧ (((σ10 t_counts (σ10 t_letterOf (mulI 3 x2))) ≤ 0 → (∀ y12, y12 = addI x2 1 → WI l mX12_goesOn d P 58 [(2, t), (0, x1), (0, y12), (3, 0), (3, 0)] [] N Λ σ10)) ∧ (¬ ((σ10 t_counts (σ10 t_letterOf (mulI 3 x2))) ≤ 0) → (Ix N Λ t_letterOf 0 (addI (mulI 3 x2) 1) ∧ (Ix N Λ t_counts 0 (σ10 t_letterOf (addI (mulI 3 x2) 1)) ∧ (((σ10 t_counts (σ10 t_letterOf (addI (mulI 3 x2) 1))) ≤ 0 → (∀ y13, y13 = addI x2 1 → WI l mX12_goesOn d P 58 [(2, t), (0, x1), (0, y13), (3, 0), (3, 0)] [] N Λ σ10)) ∧ (¬ ((σ10 t_counts (σ10 t_letterOf (addI (mulI 3 x2) 1))) ≤ 0) → (Ix N Λ t_letterOf 0 (addI (mulI 3 x2) 2) ∧ (Ix N Λ t_counts 0 (σ10 t_letterOf (addI (mulI 3 x2) 2)) ∧ (((σ10 t_counts (σ10 t_letterOf (addI (mulI 3 x2) 2))) ≤ 0 → (∀ y14, y14 = addI x2 1 → WI l mX12_goesOn d P 58 [(2, t), (0, x1), (0, y14), (3, 0), (3, 0)] [] N Λ σ10)) ∧ (¬ ((σ10 t_counts (σ10 t_letterOf (addI (mulI 3 x2) 2))) ≤ 0) → (Ix N Λ t_formRank 0 x1 ∧ (∀ τ15, τ15 = st σ10 t_formRank x1 x2 → (CV l mX12_counts (d - 1) [(2, t), (0, (mulI (mulI (mulI x2 121) 121) 121)), (0, (-1))] N Λ τ15 (fun σ16 => (CI l mX12_goesOn (d - 1) [(2, t), (0, (addI x1 1))] N Λ σ16 (fun v18 σ17 => (CV l mX12_counts (d - 1) [(2, t), (0, (mulI (mulI (mulI x2 121) 121) 121)), (0, 1)] N Λ σ17 (fun σ19 => ((v18 = 0 → (∀ y20, y20 = addI x2 1 → WI l mX12_goesOn d P 58 [(2, t), (0, x1), (0, y20), (3, 0), (3, 0)] [] N Λ σ19)) ∧ (¬ (v18 = 0) → P 1 σ19))))))))))))))))))))))) ∧ (¬ (v11 = 0) → (∀ y21, y21 = addI x2 1 → WI l mX12_goesOn d P 58 [(2, t), (0, x1), (0, y21), (3, 0), (3, 0)] [] N Λ σ10))))))))))) :
    WI l mX12_goesOn d P 58 [(2, t), (0, x1), (0, x2), (3, 0), (3, 0)] [] N Λ σ := by
  have hd_1 : 1 ≤ d := Nat.le_trans (by decide) h0d
  refine r_iload_n (x := x2) d_X12_goesOn_58 rfl ?_
  refine r_bipush (x := 120) d_X12_goesOn_59 ⟨by decide, by decide⟩ (by decide) ?_
  refine r_ic_gt (tgt := 211) d_X12_goesOn_61 rfl (fun hc => ?_) (fun hc => ?_)
  · have h := h.1 hc
    refine r_iconst (x := 0) d_X12_goesOn_211 ⟨by decide, by decide⟩ ?_
    exact r_iret d_X12_goesOn_212 rfl (by decide) (Nat.le_refl 0) (Nat.le_refl 0) ⟨_, rfl, rfl, rfl, h⟩
  · have h := h.2 hc
    refine r_iload_n (x := x1) d_X12_goesOn_64 rfl ?_
    refine r_if_le (tgt := 87) d_X12_goesOn_65 rfl (fun hc => ?_) (fun hc => ?_)
    · have h := h.1 hc
      refine r_aload_n (x := t) d_X12_goesOn_87 rfl o_t.1 ?_
      refine r_getf (j := 25) (t := 2) (x := t_counts) d_X12_goesOn_88 kX12 (by decide) fl_X12_64 o_t.1 o_t.2.1 o_t.2.2.1 o_t.2.2.2 rfl f_t_counts ?_
      refine r_aload_n (x := t) d_X12_goesOn_91 rfl o_t.1 ?_
      refine r_getf (j := 2) (t := 2) (x := t_letterOf) d_X12_goesOn_92 kX12 (by decide) fl_X12_17 o_t.1 o_t.2.1 o_t.2.2.1 o_t.2.2.2 rfl f_t_letterOf ?_
      refine r_iconst (x := 3) d_X12_goesOn_95 ⟨by decide, by decide⟩ ?_
      refine r_iload_n (x := x2) d_X12_goesOn_96 rfl ?_
      refine r_imul d_X12_goesOn_97 ?_
      refine x_iald d_X12_goesOn_98 h.1 ?_
      have h := h.2
      refine x_iald d_X12_goesOn_99 h.1 ?_
      have h := h.2
      refine r_if_le (tgt := 143) d_X12_goesOn_100 rfl (fun hc => ?_) (fun hc => ?_)
      · have h := h.1 hc
        refine r_iconst (x := 0) d_X12_goesOn_143 ⟨by decide, by decide⟩ ?_
        refine r_istore_n (L2 := [(2, t), (0, x1), (0, x2), (0, 0), (3, 0)]) d_X12_goesOn_144 (by decide) rfl rfl ?_
        refine r_iload_n (x := 0) d_X12_goesOn_145 rfl ?_
        refine r_if_ne (tgt := 152) d_X12_goesOn_146 rfl (fun hc => absurd hc (by decide)) (fun _ => ?_)
        refine r_goto (tgt := 205) d_X12_goesOn_149 rfl ?_
        refine x_iinc (x := x2) (L := [(2, t), (0, x1), (0, x2), (0, 0), (3, 0)]) d_X12_goesOn_205 rfl (by decide) rfl (fun y1 ey1 => ?_)
        have h := h y1 ey1
        show WP _ _ _ _ _ _ _ _ [(2, t), (0, x1), (0, y1), (0, 0), (3, 0)] _ _ _ _
        refine r_goto (tgt := 58) d_X12_goesOn_208 rfl ?_
        exact x_mask h ⟨Or.inr rfl, Or.inr rfl, Or.inr rfl, Or.inl rfl, Or.inl rfl, trivial⟩
      · have h := h.2 hc
        refine r_aload_n (x := t) d_X12_goesOn_103 rfl o_t.1 ?_
        refine r_getf (j := 25) (t := 2) (x := t_counts) d_X12_goesOn_104 kX12 (by decide) fl_X12_64 o_t.1 o_t.2.1 o_t.2.2.1 o_t.2.2.2 rfl f_t_counts ?_
        refine r_aload_n (x := t) d_X12_goesOn_107 rfl o_t.1 ?_
        refine r_getf (j := 2) (t := 2) (x := t_letterOf) d_X12_goesOn_108 kX12 (by decide) fl_X12_17 o_t.1 o_t.2.1 o_t.2.2.1 o_t.2.2.2 rfl f_t_letterOf ?_
        refine r_iconst (x := 3) d_X12_goesOn_111 ⟨by decide, by decide⟩ ?_
        refine r_iload_n (x := x2) d_X12_goesOn_112 rfl ?_
        refine r_imul d_X12_goesOn_113 ?_
        refine r_iconst (x := 1) d_X12_goesOn_114 ⟨by decide, by decide⟩ ?_
        refine r_iadd d_X12_goesOn_115 ?_
        refine x_iald d_X12_goesOn_116 h.1 ?_
        have h := h.2
        refine x_iald d_X12_goesOn_117 h.1 ?_
        have h := h.2
        refine r_if_le (tgt := 143) d_X12_goesOn_118 rfl (fun hc => ?_) (fun hc => ?_)
        · have h := h.1 hc
          refine r_iconst (x := 0) d_X12_goesOn_143 ⟨by decide, by decide⟩ ?_
          refine r_istore_n (L2 := [(2, t), (0, x1), (0, x2), (0, 0), (3, 0)]) d_X12_goesOn_144 (by decide) rfl rfl ?_
          refine r_iload_n (x := 0) d_X12_goesOn_145 rfl ?_
          refine r_if_ne (tgt := 152) d_X12_goesOn_146 rfl (fun hc => absurd hc (by decide)) (fun _ => ?_)
          refine r_goto (tgt := 205) d_X12_goesOn_149 rfl ?_
          refine x_iinc (x := x2) (L := [(2, t), (0, x1), (0, x2), (0, 0), (3, 0)]) d_X12_goesOn_205 rfl (by decide) rfl (fun y2 ey2 => ?_)
          have h := h y2 ey2
          show WP _ _ _ _ _ _ _ _ [(2, t), (0, x1), (0, y2), (0, 0), (3, 0)] _ _ _ _
          refine r_goto (tgt := 58) d_X12_goesOn_208 rfl ?_
          exact x_mask h ⟨Or.inr rfl, Or.inr rfl, Or.inr rfl, Or.inl rfl, Or.inl rfl, trivial⟩
        · have h := h.2 hc
          refine r_aload_n (x := t) d_X12_goesOn_121 rfl o_t.1 ?_
          refine r_getf (j := 25) (t := 2) (x := t_counts) d_X12_goesOn_122 kX12 (by decide) fl_X12_64 o_t.1 o_t.2.1 o_t.2.2.1 o_t.2.2.2 rfl f_t_counts ?_
          refine r_aload_n (x := t) d_X12_goesOn_125 rfl o_t.1 ?_
          refine r_getf (j := 2) (t := 2) (x := t_letterOf) d_X12_goesOn_126 kX12 (by decide) fl_X12_17 o_t.1 o_t.2.1 o_t.2.2.1 o_t.2.2.2 rfl f_t_letterOf ?_
          refine r_iconst (x := 3) d_X12_goesOn_129 ⟨by decide, by decide⟩ ?_
          refine r_iload_n (x := x2) d_X12_goesOn_130 rfl ?_
          refine r_imul d_X12_goesOn_131 ?_
          refine r_iconst (x := 2) d_X12_goesOn_132 ⟨by decide, by decide⟩ ?_
          refine r_iadd d_X12_goesOn_133 ?_
          refine x_iald d_X12_goesOn_134 h.1 ?_
          have h := h.2
          refine x_iald d_X12_goesOn_135 h.1 ?_
          have h := h.2
          refine r_if_le (tgt := 143) d_X12_goesOn_136 rfl (fun hc => ?_) (fun hc => ?_)
          · have h := h.1 hc
            refine r_iconst (x := 0) d_X12_goesOn_143 ⟨by decide, by decide⟩ ?_
            refine r_istore_n (L2 := [(2, t), (0, x1), (0, x2), (0, 0), (3, 0)]) d_X12_goesOn_144 (by decide) rfl rfl ?_
            refine r_iload_n (x := 0) d_X12_goesOn_145 rfl ?_
            refine r_if_ne (tgt := 152) d_X12_goesOn_146 rfl (fun hc => absurd hc (by decide)) (fun _ => ?_)
            refine r_goto (tgt := 205) d_X12_goesOn_149 rfl ?_
            refine x_iinc (x := x2) (L := [(2, t), (0, x1), (0, x2), (0, 0), (3, 0)]) d_X12_goesOn_205 rfl (by decide) rfl (fun y3 ey3 => ?_)
            have h := h y3 ey3
            show WP _ _ _ _ _ _ _ _ [(2, t), (0, x1), (0, y3), (0, 0), (3, 0)] _ _ _ _
            refine r_goto (tgt := 58) d_X12_goesOn_208 rfl ?_
            exact x_mask h ⟨Or.inr rfl, Or.inr rfl, Or.inr rfl, Or.inl rfl, Or.inl rfl, trivial⟩
          · have h := h.2 hc
            refine r_iconst (x := 1) d_X12_goesOn_139 ⟨by decide, by decide⟩ ?_
            refine r_goto (tgt := 144) d_X12_goesOn_140 rfl ?_
            refine r_istore_n (L2 := [(2, t), (0, x1), (0, x2), (0, 1), (3, 0)]) d_X12_goesOn_144 (by decide) rfl rfl ?_
            refine r_iload_n (x := 1) d_X12_goesOn_145 rfl ?_
            refine r_if_ne (tgt := 152) d_X12_goesOn_146 rfl (fun _ => ?_) (fun hc => absurd hc (by decide))
            refine r_aload_n (x := t) d_X12_goesOn_152 rfl o_t.1 ?_
            refine r_getf (j := 26) (t := 2) (x := t_formRank) d_X12_goesOn_153 kX12 (by decide) fl_X12_67 o_t.1 o_t.2.1 o_t.2.2.1 o_t.2.2.2 rfl f_t_formRank ?_
            refine r_iload_n (x := x1) d_X12_goesOn_156 rfl ?_
            refine r_iload_n (x := x2) d_X12_goesOn_157 rfl ?_
            refine x_iast d_X12_goesOn_158 h.1 ?_
            have h := h.2
            refine r_nmM (fun τ4 eτ4 => ?_)
            have h := h τ4 eτ4
            refine r_aload_n (x := t) d_X12_goesOn_159 rfl o_t.1 ?_
            refine r_iload_n (x := x2) d_X12_goesOn_160 rfl ?_
            refine r_bipush (x := 121) d_X12_goesOn_161 ⟨by decide, by decide⟩ (by decide) ?_
            refine r_imul d_X12_goesOn_163 ?_
            refine r_bipush (x := 121) d_X12_goesOn_164 ⟨by decide, by decide⟩ (by decide) ?_
            refine r_imul d_X12_goesOn_166 ?_
            refine r_bipush (x := 121) d_X12_goesOn_167 ⟨by decide, by decide⟩ (by decide) ?_
            refine r_imul d_X12_goesOn_169 ?_
            refine r_iconst (x := (-1)) d_X12_goesOn_170 ⟨by decide, by decide⟩ ?_
            refine x_callVV (Y2 := mX12_counts) (c := t) (As := [(0, (mulI (mulI (mulI x2 121) 121) 121)), (0, (-1))]) (S := []) d_X12_goesOn_171 ok_mX12_counts ml_X12_364 rfl (Nat.le_of_ble_eq_true rfl) (Nat.le_of_ble_eq_true rfl) rfl hd_1 kX12 o_t (CV.mono h (fun σ5 h => ?_))
            refine r_aload_n (x := t) d_X12_goesOn_174 rfl o_t.1 ?_
            refine r_iload_n (x := x1) d_X12_goesOn_175 rfl ?_
            refine r_iconst (x := 1) d_X12_goesOn_176 ⟨by decide, by decide⟩ ?_
            refine r_iadd d_X12_goesOn_177 ?_
            refine x_callVI (Y2 := mX12_goesOn) (c := t) (As := [(0, (addI x1 1))]) (S := []) d_X12_goesOn_178 ok_mX12_goesOn ml_X12_366 rfl (Nat.le_of_ble_eq_true rfl) (Nat.le_of_ble_eq_true rfl) rfl hd_1 kX12 o_t (CI.mono h (fun v7 σ6 h => ?_))
            refine r_istore (L2 := [(2, t), (0, x1), (0, x2), (0, 1), (0, v7)]) d_X12_goesOn_181 (by decide) rfl rfl ?_
            refine r_aload_n (x := t) d_X12_goesOn_183 rfl o_t.1 ?_
            refine r_iload_n (x := x2) d_X12_goesOn_184 rfl ?_
            refine r_bipush (x := 121) d_X12_goesOn_185 ⟨by decide, by decide⟩ (by decide) ?_
            refine r_imul d_X12_goesOn_187 ?_
            refine r_bipush (x := 121) d_X12_goesOn_188 ⟨by decide, by decide⟩ (by decide) ?_
            refine r_imul d_X12_goesOn_190 ?_
            refine r_bipush (x := 121) d_X12_goesOn_191 ⟨by decide, by decide⟩ (by decide) ?_
            refine r_imul d_X12_goesOn_193 ?_
            refine r_iconst (x := 1) d_X12_goesOn_194 ⟨by decide, by decide⟩ ?_
            refine x_callVV (Y2 := mX12_counts) (c := t) (As := [(0, (mulI (mulI (mulI x2 121) 121) 121)), (0, 1)]) (S := []) d_X12_goesOn_195 ok_mX12_counts ml_X12_364 rfl (Nat.le_of_ble_eq_true rfl) (Nat.le_of_ble_eq_true rfl) rfl hd_1 kX12 o_t (CV.mono h (fun σ8 h => ?_))
            refine r_iload (x := v7) d_X12_goesOn_198 rfl ?_
            refine r_if_eq (tgt := 205) d_X12_goesOn_200 rfl (fun hc => ?_) (fun hc => ?_)
            · have h := h.1 hc
              refine x_iinc (x := x2) (L := [(2, t), (0, x1), (0, x2), (0, 1), (0, v7)]) d_X12_goesOn_205 rfl (by decide) rfl (fun y9 ey9 => ?_)
              have h := h y9 ey9
              show WP _ _ _ _ _ _ _ _ [(2, t), (0, x1), (0, y9), (0, 1), (0, v7)] _ _ _ _
              refine r_goto (tgt := 58) d_X12_goesOn_208 rfl ?_
              exact x_mask h ⟨Or.inr rfl, Or.inr rfl, Or.inr rfl, Or.inl rfl, Or.inl rfl, trivial⟩
            · have h := h.2 hc
              refine r_iconst (x := 1) d_X12_goesOn_203 ⟨by decide, by decide⟩ ?_
              exact r_iret d_X12_goesOn_204 rfl (by decide) (Nat.le_refl 0) (Nat.le_refl 0) ⟨_, rfl, rfl, rfl, h⟩
    · have h := h.2 hc
      refine r_aload_n (x := t) d_X12_goesOn_68 rfl o_t.1 ?_
      refine r_aload_n (x := t) d_X12_goesOn_69 rfl o_t.1 ?_
      refine r_getf (j := 26) (t := 2) (x := t_formRank) d_X12_goesOn_70 kX12 (by decide) fl_X12_67 o_t.1 o_t.2.1 o_t.2.2.1 o_t.2.2.2 rfl f_t_formRank ?_
      refine r_iload_n (x := x1) d_X12_goesOn_73 rfl ?_
      refine r_iconst (x := 1) d_X12_goesOn_74 ⟨by decide, by decide⟩ ?_
      refine r_isub d_X12_goesOn_75 ?_
      refine x_iald d_X12_goesOn_76 h.1 ?_
      have h := h.2
      refine r_iload_n (x := x2) d_X12_goesOn_77 rfl ?_
      refine x_callVI (Y2 := mX12_isBroken) (c := t) (As := [(0, (σ t_formRank (subI x1 1))), (0, x2)]) (S := []) d_X12_goesOn_78 ok_mX12_isBroken ml_X12_154 rfl (Nat.le_of_ble_eq_true rfl) (Nat.le_of_ble_eq_true rfl) rfl hd_1 kX12 o_t (CI.mono h (fun v11 σ10 h => ?_))
      refine r_if_eq (tgt := 87) d_X12_goesOn_81 rfl (fun hc => ?_) (fun hc => ?_)
      · have h := h.1 hc
        refine r_aload_n (x := t) d_X12_goesOn_87 rfl o_t.1 ?_
        refine r_getf (j := 25) (t := 2) (x := t_counts) d_X12_goesOn_88 kX12 (by decide) fl_X12_64 o_t.1 o_t.2.1 o_t.2.2.1 o_t.2.2.2 rfl f_t_counts ?_
        refine r_aload_n (x := t) d_X12_goesOn_91 rfl o_t.1 ?_
        refine r_getf (j := 2) (t := 2) (x := t_letterOf) d_X12_goesOn_92 kX12 (by decide) fl_X12_17 o_t.1 o_t.2.1 o_t.2.2.1 o_t.2.2.2 rfl f_t_letterOf ?_
        refine r_iconst (x := 3) d_X12_goesOn_95 ⟨by decide, by decide⟩ ?_
        refine r_iload_n (x := x2) d_X12_goesOn_96 rfl ?_
        refine r_imul d_X12_goesOn_97 ?_
        refine x_iald d_X12_goesOn_98 h.1 ?_
        have h := h.2
        refine x_iald d_X12_goesOn_99 h.1 ?_
        have h := h.2
        refine r_if_le (tgt := 143) d_X12_goesOn_100 rfl (fun hc => ?_) (fun hc => ?_)
        · have h := h.1 hc
          refine r_iconst (x := 0) d_X12_goesOn_143 ⟨by decide, by decide⟩ ?_
          refine r_istore_n (L2 := [(2, t), (0, x1), (0, x2), (0, 0), (3, 0)]) d_X12_goesOn_144 (by decide) rfl rfl ?_
          refine r_iload_n (x := 0) d_X12_goesOn_145 rfl ?_
          refine r_if_ne (tgt := 152) d_X12_goesOn_146 rfl (fun hc => absurd hc (by decide)) (fun _ => ?_)
          refine r_goto (tgt := 205) d_X12_goesOn_149 rfl ?_
          refine x_iinc (x := x2) (L := [(2, t), (0, x1), (0, x2), (0, 0), (3, 0)]) d_X12_goesOn_205 rfl (by decide) rfl (fun y12 ey12 => ?_)
          have h := h y12 ey12
          show WP _ _ _ _ _ _ _ _ [(2, t), (0, x1), (0, y12), (0, 0), (3, 0)] _ _ _ _
          refine r_goto (tgt := 58) d_X12_goesOn_208 rfl ?_
          exact x_mask h ⟨Or.inr rfl, Or.inr rfl, Or.inr rfl, Or.inl rfl, Or.inl rfl, trivial⟩
        · have h := h.2 hc
          refine r_aload_n (x := t) d_X12_goesOn_103 rfl o_t.1 ?_
          refine r_getf (j := 25) (t := 2) (x := t_counts) d_X12_goesOn_104 kX12 (by decide) fl_X12_64 o_t.1 o_t.2.1 o_t.2.2.1 o_t.2.2.2 rfl f_t_counts ?_
          refine r_aload_n (x := t) d_X12_goesOn_107 rfl o_t.1 ?_
          refine r_getf (j := 2) (t := 2) (x := t_letterOf) d_X12_goesOn_108 kX12 (by decide) fl_X12_17 o_t.1 o_t.2.1 o_t.2.2.1 o_t.2.2.2 rfl f_t_letterOf ?_
          refine r_iconst (x := 3) d_X12_goesOn_111 ⟨by decide, by decide⟩ ?_
          refine r_iload_n (x := x2) d_X12_goesOn_112 rfl ?_
          refine r_imul d_X12_goesOn_113 ?_
          refine r_iconst (x := 1) d_X12_goesOn_114 ⟨by decide, by decide⟩ ?_
          refine r_iadd d_X12_goesOn_115 ?_
          refine x_iald d_X12_goesOn_116 h.1 ?_
          have h := h.2
          refine x_iald d_X12_goesOn_117 h.1 ?_
          have h := h.2
          refine r_if_le (tgt := 143) d_X12_goesOn_118 rfl (fun hc => ?_) (fun hc => ?_)
          · have h := h.1 hc
            refine r_iconst (x := 0) d_X12_goesOn_143 ⟨by decide, by decide⟩ ?_
            refine r_istore_n (L2 := [(2, t), (0, x1), (0, x2), (0, 0), (3, 0)]) d_X12_goesOn_144 (by decide) rfl rfl ?_
            refine r_iload_n (x := 0) d_X12_goesOn_145 rfl ?_
            refine r_if_ne (tgt := 152) d_X12_goesOn_146 rfl (fun hc => absurd hc (by decide)) (fun _ => ?_)
            refine r_goto (tgt := 205) d_X12_goesOn_149 rfl ?_
            refine x_iinc (x := x2) (L := [(2, t), (0, x1), (0, x2), (0, 0), (3, 0)]) d_X12_goesOn_205 rfl (by decide) rfl (fun y13 ey13 => ?_)
            have h := h y13 ey13
            show WP _ _ _ _ _ _ _ _ [(2, t), (0, x1), (0, y13), (0, 0), (3, 0)] _ _ _ _
            refine r_goto (tgt := 58) d_X12_goesOn_208 rfl ?_
            exact x_mask h ⟨Or.inr rfl, Or.inr rfl, Or.inr rfl, Or.inl rfl, Or.inl rfl, trivial⟩
          · have h := h.2 hc
            refine r_aload_n (x := t) d_X12_goesOn_121 rfl o_t.1 ?_
            refine r_getf (j := 25) (t := 2) (x := t_counts) d_X12_goesOn_122 kX12 (by decide) fl_X12_64 o_t.1 o_t.2.1 o_t.2.2.1 o_t.2.2.2 rfl f_t_counts ?_
            refine r_aload_n (x := t) d_X12_goesOn_125 rfl o_t.1 ?_
            refine r_getf (j := 2) (t := 2) (x := t_letterOf) d_X12_goesOn_126 kX12 (by decide) fl_X12_17 o_t.1 o_t.2.1 o_t.2.2.1 o_t.2.2.2 rfl f_t_letterOf ?_
            refine r_iconst (x := 3) d_X12_goesOn_129 ⟨by decide, by decide⟩ ?_
            refine r_iload_n (x := x2) d_X12_goesOn_130 rfl ?_
            refine r_imul d_X12_goesOn_131 ?_
            refine r_iconst (x := 2) d_X12_goesOn_132 ⟨by decide, by decide⟩ ?_
            refine r_iadd d_X12_goesOn_133 ?_
            refine x_iald d_X12_goesOn_134 h.1 ?_
            have h := h.2
            refine x_iald d_X12_goesOn_135 h.1 ?_
            have h := h.2
            refine r_if_le (tgt := 143) d_X12_goesOn_136 rfl (fun hc => ?_) (fun hc => ?_)
            · have h := h.1 hc
              refine r_iconst (x := 0) d_X12_goesOn_143 ⟨by decide, by decide⟩ ?_
              refine r_istore_n (L2 := [(2, t), (0, x1), (0, x2), (0, 0), (3, 0)]) d_X12_goesOn_144 (by decide) rfl rfl ?_
              refine r_iload_n (x := 0) d_X12_goesOn_145 rfl ?_
              refine r_if_ne (tgt := 152) d_X12_goesOn_146 rfl (fun hc => absurd hc (by decide)) (fun _ => ?_)
              refine r_goto (tgt := 205) d_X12_goesOn_149 rfl ?_
              refine x_iinc (x := x2) (L := [(2, t), (0, x1), (0, x2), (0, 0), (3, 0)]) d_X12_goesOn_205 rfl (by decide) rfl (fun y14 ey14 => ?_)
              have h := h y14 ey14
              show WP _ _ _ _ _ _ _ _ [(2, t), (0, x1), (0, y14), (0, 0), (3, 0)] _ _ _ _
              refine r_goto (tgt := 58) d_X12_goesOn_208 rfl ?_
              exact x_mask h ⟨Or.inr rfl, Or.inr rfl, Or.inr rfl, Or.inl rfl, Or.inl rfl, trivial⟩
            · have h := h.2 hc
              refine r_iconst (x := 1) d_X12_goesOn_139 ⟨by decide, by decide⟩ ?_
              refine r_goto (tgt := 144) d_X12_goesOn_140 rfl ?_
              refine r_istore_n (L2 := [(2, t), (0, x1), (0, x2), (0, 1), (3, 0)]) d_X12_goesOn_144 (by decide) rfl rfl ?_
              refine r_iload_n (x := 1) d_X12_goesOn_145 rfl ?_
              refine r_if_ne (tgt := 152) d_X12_goesOn_146 rfl (fun _ => ?_) (fun hc => absurd hc (by decide))
              refine r_aload_n (x := t) d_X12_goesOn_152 rfl o_t.1 ?_
              refine r_getf (j := 26) (t := 2) (x := t_formRank) d_X12_goesOn_153 kX12 (by decide) fl_X12_67 o_t.1 o_t.2.1 o_t.2.2.1 o_t.2.2.2 rfl f_t_formRank ?_
              refine r_iload_n (x := x1) d_X12_goesOn_156 rfl ?_
              refine r_iload_n (x := x2) d_X12_goesOn_157 rfl ?_
              refine x_iast d_X12_goesOn_158 h.1 ?_
              have h := h.2
              refine r_nmM (fun τ15 eτ15 => ?_)
              have h := h τ15 eτ15
              refine r_aload_n (x := t) d_X12_goesOn_159 rfl o_t.1 ?_
              refine r_iload_n (x := x2) d_X12_goesOn_160 rfl ?_
              refine r_bipush (x := 121) d_X12_goesOn_161 ⟨by decide, by decide⟩ (by decide) ?_
              refine r_imul d_X12_goesOn_163 ?_
              refine r_bipush (x := 121) d_X12_goesOn_164 ⟨by decide, by decide⟩ (by decide) ?_
              refine r_imul d_X12_goesOn_166 ?_
              refine r_bipush (x := 121) d_X12_goesOn_167 ⟨by decide, by decide⟩ (by decide) ?_
              refine r_imul d_X12_goesOn_169 ?_
              refine r_iconst (x := (-1)) d_X12_goesOn_170 ⟨by decide, by decide⟩ ?_
              refine x_callVV (Y2 := mX12_counts) (c := t) (As := [(0, (mulI (mulI (mulI x2 121) 121) 121)), (0, (-1))]) (S := []) d_X12_goesOn_171 ok_mX12_counts ml_X12_364 rfl (Nat.le_of_ble_eq_true rfl) (Nat.le_of_ble_eq_true rfl) rfl hd_1 kX12 o_t (CV.mono h (fun σ16 h => ?_))
              refine r_aload_n (x := t) d_X12_goesOn_174 rfl o_t.1 ?_
              refine r_iload_n (x := x1) d_X12_goesOn_175 rfl ?_
              refine r_iconst (x := 1) d_X12_goesOn_176 ⟨by decide, by decide⟩ ?_
              refine r_iadd d_X12_goesOn_177 ?_
              refine x_callVI (Y2 := mX12_goesOn) (c := t) (As := [(0, (addI x1 1))]) (S := []) d_X12_goesOn_178 ok_mX12_goesOn ml_X12_366 rfl (Nat.le_of_ble_eq_true rfl) (Nat.le_of_ble_eq_true rfl) rfl hd_1 kX12 o_t (CI.mono h (fun v18 σ17 h => ?_))
              refine r_istore (L2 := [(2, t), (0, x1), (0, x2), (0, 1), (0, v18)]) d_X12_goesOn_181 (by decide) rfl rfl ?_
              refine r_aload_n (x := t) d_X12_goesOn_183 rfl o_t.1 ?_
              refine r_iload_n (x := x2) d_X12_goesOn_184 rfl ?_
              refine r_bipush (x := 121) d_X12_goesOn_185 ⟨by decide, by decide⟩ (by decide) ?_
              refine r_imul d_X12_goesOn_187 ?_
              refine r_bipush (x := 121) d_X12_goesOn_188 ⟨by decide, by decide⟩ (by decide) ?_
              refine r_imul d_X12_goesOn_190 ?_
              refine r_bipush (x := 121) d_X12_goesOn_191 ⟨by decide, by decide⟩ (by decide) ?_
              refine r_imul d_X12_goesOn_193 ?_
              refine r_iconst (x := 1) d_X12_goesOn_194 ⟨by decide, by decide⟩ ?_
              refine x_callVV (Y2 := mX12_counts) (c := t) (As := [(0, (mulI (mulI (mulI x2 121) 121) 121)), (0, 1)]) (S := []) d_X12_goesOn_195 ok_mX12_counts ml_X12_364 rfl (Nat.le_of_ble_eq_true rfl) (Nat.le_of_ble_eq_true rfl) rfl hd_1 kX12 o_t (CV.mono h (fun σ19 h => ?_))
              refine r_iload (x := v18) d_X12_goesOn_198 rfl ?_
              refine r_if_eq (tgt := 205) d_X12_goesOn_200 rfl (fun hc => ?_) (fun hc => ?_)
              · have h := h.1 hc
                refine x_iinc (x := x2) (L := [(2, t), (0, x1), (0, x2), (0, 1), (0, v18)]) d_X12_goesOn_205 rfl (by decide) rfl (fun y20 ey20 => ?_)
                have h := h y20 ey20
                show WP _ _ _ _ _ _ _ _ [(2, t), (0, x1), (0, y20), (0, 1), (0, v18)] _ _ _ _
                refine r_goto (tgt := 58) d_X12_goesOn_208 rfl ?_
                exact x_mask h ⟨Or.inr rfl, Or.inr rfl, Or.inr rfl, Or.inl rfl, Or.inl rfl, trivial⟩
              · have h := h.2 hc
                refine r_iconst (x := 1) d_X12_goesOn_203 ⟨by decide, by decide⟩ ?_
                exact r_iret d_X12_goesOn_204 rfl (by decide) (Nat.le_refl 0) (Nat.le_refl 0) ⟨_, rfl, rfl, rfl, h⟩
      · have h := h.2 hc
        refine r_goto (tgt := 205) d_X12_goesOn_84 rfl ?_
        refine x_iinc (x := x2) (L := [(2, t), (0, x1), (0, x2), (3, 0), (3, 0)]) d_X12_goesOn_205 rfl (by decide) rfl (fun y21 ey21 => ?_)
        have h := h y21 ey21
        show WP _ _ _ _ _ _ _ _ [(2, t), (0, x1), (0, y21), (3, 0), (3, 0)] _ _ _ _
        refine r_goto (tgt := 58) d_X12_goesOn_208 rfl ?_
        exact h
theorem u_X12_laysForms_0 {l : Launch} {d N : Nat} {Λ : Lay} {P : Int → Mem → Prop} {σ : Mem} {x1 x2 t : Int}
    (h : WI l mX12_laysForms d P 2 [(2, t), (0, x1), (0, x2), (0, 0)] [] N Λ σ) :
    WI l mX12_laysForms d P 0 [(2, t), (0, x1), (0, x2), (3, 0)] [] N Λ σ := by
  refine r_iconst (x := 0) d_X12_laysForms_0 ⟨by decide, by decide⟩ ?_
  refine r_istore_n (L2 := [(2, t), (0, x1), (0, x2), (0, 0)]) d_X12_laysForms_1 (by decide) rfl rfl ?_
  exact h
theorem u_X12_laysForms_2 {l : Launch} {d N : Nat} {Λ : Lay} {P : Int → Mem → Prop} {σ : Mem} {x1 x2 x3 t t_counts t_state : Int} (o_t : Ob N Λ t 21 36) (f_t_state : (Λ t).2.2 3 = t_state) (f_t_counts : (Λ t).2.2 25 = t_counts) (h0d : 1 ≤ d)
    (h : ((10 ≤ x3 → (CI l mX12_keyOn (d - 1) [(2, t_state), (0, x1), (0, 0)] N Λ σ (fun v2 σ1 => (CV l mX12_counts (d - 1) [(2, t), (0, v2), (0, 1)] N Λ σ1 (fun σ3 => (CI l mX12_degreeOf (d - 1) [(0, v2)] N Λ σ3 (fun v5 σ4 => (∀ τ6, τ6 = st σ4 t 28 v5 → (∀ τ7, τ7 = st τ6 t 27 x2 → (∀ τ8, τ8 = st τ7 t 29 0 → (CI l mX12_goesOn (d - 1) [(2, t), (0, 0)] N Λ τ8 (fun v10 σ9 => (((v10 : Int) = 0 ∨ (v10 : Int) = 1) ∧ P v10 σ9))))))))))))) ∧ (¬ (10 ≤ x3) → (Ix N Λ t_counts 0 x3 ∧ (∀ τ11, τ11 = st σ t_counts x3 0 → (∀ y12, y12 = addI x3 1 → WI l mX12_laysForms d P 2 [(2, t), (0, x1), (0, x2), (0, y12)] [] N Λ τ11)))))) :
    WI l mX12_laysForms d P 2 [(2, t), (0, x1), (0, x2), (0, x3)] [] N Λ σ := by
  have hd_1 : 1 ≤ d := Nat.le_trans (by decide) h0d
  refine r_iload_n (x := x3) d_X12_laysForms_2 rfl ?_
  refine r_bipush (x := 10) d_X12_laysForms_3 ⟨by decide, by decide⟩ (by decide) ?_
  refine r_ic_ge (tgt := 21) d_X12_laysForms_5 rfl (fun hc => ?_) (fun hc => ?_)
  · have h := h.1 hc
    refine r_aload_n (x := t) d_X12_laysForms_21 rfl o_t.1 ?_
    refine r_getf (j := 3) (t := 2) (x := t_state) d_X12_laysForms_22 kX12 (by decide) fl_X12_20 o_t.1 o_t.2.1 o_t.2.2.1 o_t.2.2.2 rfl f_t_state ?_
    refine r_iload_n (x := x1) d_X12_laysForms_25 rfl ?_
    refine r_iconst (x := 0) d_X12_laysForms_26 ⟨by decide, by decide⟩ ?_
    refine x_callSI (Y2 := mX12_keyOn) (As := [(2, t_state), (0, x1), (0, 0)]) (S := []) d_X12_laysForms_27 ok_mX12_keyOn ml_X12_339 rfl (Nat.le_of_ble_eq_true rfl) (Nat.le_of_ble_eq_true rfl) rfl hd_1 (CI.mono h (fun v2 σ1 h => ?_))
    refine r_istore_n (L2 := [(2, t), (0, x1), (0, x2), (0, v2)]) d_X12_laysForms_30 (by decide) rfl rfl ?_
    refine r_aload_n (x := t) d_X12_laysForms_31 rfl o_t.1 ?_
    refine r_iload_n (x := v2) d_X12_laysForms_32 rfl ?_
    refine r_iconst (x := 1) d_X12_laysForms_33 ⟨by decide, by decide⟩ ?_
    refine x_callVV (Y2 := mX12_counts) (c := t) (As := [(0, v2), (0, 1)]) (S := []) d_X12_laysForms_34 ok_mX12_counts ml_X12_364 rfl (Nat.le_of_ble_eq_true rfl) (Nat.le_of_ble_eq_true rfl) rfl hd_1 kX12 o_t (CV.mono h (fun σ3 h => ?_))
    refine r_aload_n (x := t) d_X12_laysForms_37 rfl o_t.1 ?_
    refine r_iload_n (x := v2) d_X12_laysForms_38 rfl ?_
    refine x_callSI (Y2 := mX12_degreeOf) (As := [(0, v2)]) (S := [(2, t)]) d_X12_laysForms_39 ok_mX12_degreeOf ml_X12_138 rfl (Nat.le_of_ble_eq_true rfl) (Nat.le_of_ble_eq_true rfl) rfl hd_1 (CI.mono h (fun v5 σ4 h => ?_))
    refine r_putI (j := 28) d_X12_laysForms_42 kX12 (by decide) fl_X12_355 rfl o_t.1 o_t.2.1 o_t.2.2.1 o_t.2.2.2 rfl ?_
    refine r_nmM (fun τ6 eτ6 => ?_)
    have h := h τ6 eτ6
    refine r_aload_n (x := t) d_X12_laysForms_45 rfl o_t.1 ?_
    refine r_iload_n (x := x2) d_X12_laysForms_46 rfl ?_
    refine r_putI (j := 27) d_X12_laysForms_47 kX12 (by decide) fl_X12_361 rfl o_t.1 o_t.2.1 o_t.2.2.1 o_t.2.2.2 rfl ?_
    refine r_nmM (fun τ7 eτ7 => ?_)
    have h := h τ7 eτ7
    refine r_aload_n (x := t) d_X12_laysForms_50 rfl o_t.1 ?_
    refine r_iconst (x := 0) d_X12_laysForms_51 ⟨by decide, by decide⟩ ?_
    refine r_putI (j := 29) d_X12_laysForms_52 kX12 (by decide) fl_X12_358 rfl o_t.1 o_t.2.1 o_t.2.2.1 o_t.2.2.2 rfl ?_
    refine r_nmM (fun τ8 eτ8 => ?_)
    have h := h τ8 eτ8
    refine r_aload_n (x := t) d_X12_laysForms_55 rfl o_t.1 ?_
    refine r_iconst (x := 0) d_X12_laysForms_56 ⟨by decide, by decide⟩ ?_
    refine x_callVI (Y2 := mX12_goesOn) (c := t) (As := [(0, 0)]) (S := []) d_X12_laysForms_57 ok_mX12_goesOn ml_X12_366 rfl (Nat.le_of_ble_eq_true rfl) (Nat.le_of_ble_eq_true rfl) rfl hd_1 kX12 o_t (CI.mono h (fun v10 σ9 h => ?_))
    exact r_iret d_X12_laysForms_60 rfl (nbool h.1) (Nat.le_refl 0) (Nat.le_refl 0) ⟨_, rfl, rfl, rfl, h.2⟩
  · have h := h.2 hc
    refine r_aload_n (x := t) d_X12_laysForms_8 rfl o_t.1 ?_
    refine r_getf (j := 25) (t := 2) (x := t_counts) d_X12_laysForms_9 kX12 (by decide) fl_X12_64 o_t.1 o_t.2.1 o_t.2.2.1 o_t.2.2.2 rfl f_t_counts ?_
    refine r_iload_n (x := x3) d_X12_laysForms_12 rfl ?_
    refine r_iconst (x := 0) d_X12_laysForms_13 ⟨by decide, by decide⟩ ?_
    refine x_iast d_X12_laysForms_14 h.1 ?_
    have h := h.2
    refine r_nmM (fun τ11 eτ11 => ?_)
    have h := h τ11 eτ11
    refine x_iinc (x := x3) (L := [(2, t), (0, x1), (0, x2), (0, x3)]) d_X12_laysForms_15 rfl (by decide) rfl (fun y12 ey12 => ?_)
    have h := h y12 ey12
    show WP _ _ _ _ _ _ _ _ [(2, t), (0, x1), (0, x2), (0, y12)] _ _ _ _
    refine r_goto (tgt := 2) d_X12_laysForms_18 rfl ?_
    exact h
theorem u_X12_columnOf_0 {l : Launch} {d N : Nat} {Λ : Lay} {P : Int → Mem → Prop} {σ : Mem} {x1 t : Int}
    (h : WI l mX12_columnOf d P 2 [(2, t), (0, x1), (0, 0)] [] N Λ σ) :
    WI l mX12_columnOf d P 0 [(2, t), (0, x1), (3, 0)] [] N Λ σ := by
  refine r_iconst (x := 0) d_X12_columnOf_0 ⟨by decide, by decide⟩ ?_
  refine r_istore_n (L2 := [(2, t), (0, x1), (0, 0)]) d_X12_columnOf_1 (by decide) rfl rfl ?_
  exact h
theorem u_X12_columnOf_2 {l : Launch} {d N : Nat} {Λ : Lay} {P : Int → Mem → Prop} {σ : Mem} {x1 x2 t t_keys : Int} (o_t : Ob N Λ t 21 36) (f_t_keys : (Λ t).2.2 30 = t_keys)
    (h : (((σ t 32) ≤ x2 → (Ix N Λ t_keys 0 (σ t 32) ∧ (∀ τ1, τ1 = st σ t_keys (σ t 32) x1 → (∀ τ2, τ2 = st τ1 t 32 (addI (τ1 t 32) 1) → P (subI (τ2 t 32) 1) τ2)))) ∧ (¬ ((σ t 32) ≤ x2) → (Ix N Λ t_keys 0 x2 ∧ ((¬ (σ t_keys x2) = x1 → (∀ y3, y3 = addI x2 1 → WI l mX12_columnOf d P 2 [(2, t), (0, x1), (0, y3)] [] N Λ σ)) ∧ ((σ t_keys x2) = x1 → P x2 σ)))))) :
    WI l mX12_columnOf d P 2 [(2, t), (0, x1), (0, x2)] [] N Λ σ := by
  refine r_iload_n (x := x2) d_X12_columnOf_2 rfl ?_
  refine r_aload_n (x := t) d_X12_columnOf_3 rfl o_t.1 ?_
  refine r_getf (j := 32) (t := 0) (x := (σ t 32)) d_X12_columnOf_4 kX12 (by decide) fl_X12_373 o_t.1 o_t.2.1 o_t.2.2.1 o_t.2.2.2 rfl rfl ?_
  refine r_ic_ge (tgt := 28) d_X12_columnOf_7 rfl (fun hc => ?_) (fun hc => ?_)
  · have h := h.1 hc
    refine r_aload_n (x := t) d_X12_columnOf_28 rfl o_t.1 ?_
    refine r_getf (j := 30) (t := 2) (x := t_keys) d_X12_columnOf_29 kX12 (by decide) fl_X12_70 o_t.1 o_t.2.1 o_t.2.2.1 o_t.2.2.2 rfl f_t_keys ?_
    refine r_aload_n (x := t) d_X12_columnOf_32 rfl o_t.1 ?_
    refine r_getf (j := 32) (t := 0) (x := (σ t 32)) d_X12_columnOf_33 kX12 (by decide) fl_X12_373 o_t.1 o_t.2.1 o_t.2.2.1 o_t.2.2.2 rfl rfl ?_
    refine r_iload_n (x := x1) d_X12_columnOf_36 rfl ?_
    refine x_iast d_X12_columnOf_37 h.1 ?_
    have h := h.2
    refine r_nmM (fun τ1 eτ1 => ?_)
    have h := h τ1 eτ1
    refine r_aload_n (x := t) d_X12_columnOf_38 rfl o_t.1 ?_
    refine r_dup d_X12_columnOf_39 rfl ?_
    refine r_getf (j := 32) (t := 0) (x := (τ1 t 32)) d_X12_columnOf_40 kX12 (by decide) fl_X12_373 o_t.1 o_t.2.1 o_t.2.2.1 o_t.2.2.2 rfl rfl ?_
    refine r_iconst (x := 1) d_X12_columnOf_43 ⟨by decide, by decide⟩ ?_
    refine r_iadd d_X12_columnOf_44 ?_
    refine r_putI (j := 32) d_X12_columnOf_45 kX12 (by decide) fl_X12_373 rfl o_t.1 o_t.2.1 o_t.2.2.1 o_t.2.2.2 rfl ?_
    refine r_nmM (fun τ2 eτ2 => ?_)
    have h := h τ2 eτ2
    refine r_aload_n (x := t) d_X12_columnOf_48 rfl o_t.1 ?_
    refine r_getf (j := 32) (t := 0) (x := (τ2 t 32)) d_X12_columnOf_49 kX12 (by decide) fl_X12_373 o_t.1 o_t.2.1 o_t.2.2.1 o_t.2.2.2 rfl rfl ?_
    refine r_iconst (x := 1) d_X12_columnOf_52 ⟨by decide, by decide⟩ ?_
    refine r_isub d_X12_columnOf_53 ?_
    exact r_iret d_X12_columnOf_54 rfl rfl (Nat.le_refl 0) (Nat.le_refl 0) ⟨_, rfl, rfl, rfl, h⟩
  · have h := h.2 hc
    refine r_aload_n (x := t) d_X12_columnOf_10 rfl o_t.1 ?_
    refine r_getf (j := 30) (t := 2) (x := t_keys) d_X12_columnOf_11 kX12 (by decide) fl_X12_70 o_t.1 o_t.2.1 o_t.2.2.1 o_t.2.2.2 rfl f_t_keys ?_
    refine r_iload_n (x := x2) d_X12_columnOf_14 rfl ?_
    refine x_iald d_X12_columnOf_15 h.1 ?_
    have h := h.2
    refine r_iload_n (x := x1) d_X12_columnOf_16 rfl ?_
    refine r_ic_ne (tgt := 22) d_X12_columnOf_17 rfl (fun hc => ?_) (fun hc => ?_)
    · have h := h.1 hc
      refine x_iinc (x := x2) (L := [(2, t), (0, x1), (0, x2)]) d_X12_columnOf_22 rfl (by decide) rfl (fun y3 ey3 => ?_)
      have h := h y3 ey3
      show WP _ _ _ _ _ _ _ _ [(2, t), (0, x1), (0, y3)] _ _ _ _
      refine r_goto (tgt := 2) d_X12_columnOf_25 rfl ?_
      exact h
    · have h := h.2 hc
      refine r_iload_n (x := x2) d_X12_columnOf_20 rfl ?_
      exact r_iret d_X12_columnOf_21 rfl rfl (Nat.le_refl 0) (Nat.le_refl 0) ⟨_, rfl, rfl, rfl, h⟩
theorem u_X12_inverse_0 {l : Launch} {d N : Nat} {Λ : Lay} {P : Int → Mem → Prop} {σ : Mem} {x0 : Int}
    (h : WL l mX12_inverse d P 10 [(1, x0), (3, 0), (1, 1), (3, 0), (1, x0), (3, 0), (0, 1000001)] [] N Λ σ) :
    WL l mX12_inverse d P 0 [(1, x0), (3, 0), (3, 0), (3, 0), (3, 0), (3, 0), (3, 0)] [] N Λ σ := by
  refine r_lconst d_X12_inverse_0 ?_
  skip
  refine r_lstore_n (L2 := [(1, x0), (3, 0), (1, 1), (3, 0), (3, 0), (3, 0), (3, 0)]) d_X12_inverse_1 (by decide) rfl rfl ?_
  refine r_lload_n (x := x0) d_X12_inverse_2 rfl ?_
  refine r_lstore (L2 := [(1, x0), (3, 0), (1, 1), (3, 0), (1, x0), (3, 0), (3, 0)]) d_X12_inverse_3 (by decide) rfl rfl ?_
  refine r_ldcw (x := 1000001) d_X12_inverse_5 ck_X12_378 (by decide) ?_
  refine r_istore (L2 := [(1, x0), (3, 0), (1, 1), (3, 0), (1, x0), (3, 0), (0, 1000001)]) d_X12_inverse_8 (by decide) rfl rfl ?_
  exact h
theorem u_X12_inverse_10 {l : Launch} {d N : Nat} {Λ : Lay} {P : Int → Mem → Prop} {σ : Mem} {x0 x2 x4 x6 : Int}
    (h : ((x6 ≤ 0 → P x2 σ) ∧ (¬ (x6 ≤ 0) → ((¬ (remI x6 2) = 1 → (∀ y1, y1 = (remL (mulL x4 x4) 1000003) → (∀ y2, y2 = (divI x6 2) → WL l mX12_inverse d P 10 [(1, x0), (3, 0), (1, x2), (3, 0), (1, y1), (3, 0), (0, y2)] [] N Λ σ))) ∧ ((remI x6 2) = 1 → (∀ y3, y3 = (remL (mulL x2 x4) 1000003) → (∀ y4, y4 = (remL (mulL x4 x4) 1000003) → (∀ y5, y5 = (divI x6 2) → WL l mX12_inverse d P 10 [(1, x0), (3, 0), (1, y3), (3, 0), (1, y4), (3, 0), (0, y5)] [] N Λ σ)))))))) :
    WL l mX12_inverse d P 10 [(1, x0), (3, 0), (1, x2), (3, 0), (1, x4), (3, 0), (0, x6)] [] N Λ σ := by
  refine r_iload (x := x6) d_X12_inverse_10 rfl ?_
  refine r_if_le (tgt := 56) d_X12_inverse_12 rfl (fun hc => ?_) (fun hc => ?_)
  · have h := h.1 hc
    refine r_lload_n (x := x2) d_X12_inverse_56 rfl ?_
    exact r_lret d_X12_inverse_57 rfl (Nat.le_refl 0) (Nat.le_refl 0) ⟨_, rfl, rfl, rfl, h⟩
  · have h := h.2 hc
    refine r_iload (x := x6) d_X12_inverse_15 rfl ?_
    refine r_iconst (x := 2) d_X12_inverse_17 ⟨by decide, by decide⟩ ?_
    refine r_irem d_X12_inverse_18 (by decide) ?_
    refine r_iconst (x := 1) d_X12_inverse_19 ⟨by decide, by decide⟩ ?_
    refine r_ic_ne (tgt := 34) d_X12_inverse_20 rfl (fun hc => ?_) (fun hc => ?_)
    · have h := h.1 hc
      refine r_lload_n (x := x2) d_X12_inverse_34 rfl ?_
      refine r_lstore_n (L2 := [(1, x0), (3, 0), (1, x2), (3, 0), (1, x4), (3, 0), (0, x6)]) d_X12_inverse_35 (by decide) rfl rfl ?_
      refine r_lload (x := x4) d_X12_inverse_36 rfl ?_
      refine r_lload (x := x4) d_X12_inverse_38 rfl ?_
      refine r_lmul d_X12_inverse_40 ?_
      refine r_ldc2 (x := 1000003) d_X12_inverse_41 ck_X12_376 (by decide) ?_
      refine r_lrem d_X12_inverse_44 (by decide) ?_
      refine r_nm (fun y1 ey1 => ?_)
      have h := h y1 ey1
      refine r_lstore (L2 := [(1, x0), (3, 0), (1, x2), (3, 0), (1, y1), (3, 0), (0, x6)]) d_X12_inverse_45 (by decide) rfl rfl ?_
      refine r_iload (x := x6) d_X12_inverse_47 rfl ?_
      refine r_iconst (x := 2) d_X12_inverse_49 ⟨by decide, by decide⟩ ?_
      refine r_idiv d_X12_inverse_50 (by decide) ?_
      refine r_nm (fun y2 ey2 => ?_)
      have h := h y2 ey2
      refine r_istore (L2 := [(1, x0), (3, 0), (1, x2), (3, 0), (1, y1), (3, 0), (0, y2)]) d_X12_inverse_51 (by decide) rfl rfl ?_
      refine r_goto (tgt := 10) d_X12_inverse_53 rfl ?_
      exact h
    · have h := h.2 hc
      refine r_lload_n (x := x2) d_X12_inverse_23 rfl ?_
      refine r_lload (x := x4) d_X12_inverse_24 rfl ?_
      refine r_lmul d_X12_inverse_26 ?_
      refine r_ldc2 (x := 1000003) d_X12_inverse_27 ck_X12_376 (by decide) ?_
      refine r_lrem d_X12_inverse_30 (by decide) ?_
      refine r_goto (tgt := 35) d_X12_inverse_31 rfl ?_
      refine r_nm (fun y3 ey3 => ?_)
      have h := h y3 ey3
      refine r_lstore_n (L2 := [(1, x0), (3, 0), (1, y3), (3, 0), (1, x4), (3, 0), (0, x6)]) d_X12_inverse_35 (by decide) rfl rfl ?_
      refine r_lload (x := x4) d_X12_inverse_36 rfl ?_
      refine r_lload (x := x4) d_X12_inverse_38 rfl ?_
      refine r_lmul d_X12_inverse_40 ?_
      refine r_ldc2 (x := 1000003) d_X12_inverse_41 ck_X12_376 (by decide) ?_
      refine r_lrem d_X12_inverse_44 (by decide) ?_
      refine r_nm (fun y4 ey4 => ?_)
      have h := h y4 ey4
      refine r_lstore (L2 := [(1, x0), (3, 0), (1, y3), (3, 0), (1, y4), (3, 0), (0, x6)]) d_X12_inverse_45 (by decide) rfl rfl ?_
      refine r_iload (x := x6) d_X12_inverse_47 rfl ?_
      refine r_iconst (x := 2) d_X12_inverse_49 ⟨by decide, by decide⟩ ?_
      refine r_idiv d_X12_inverse_50 (by decide) ?_
      refine r_nm (fun y5 ey5 => ?_)
      have h := h y5 ey5
      refine r_istore (L2 := [(1, x0), (3, 0), (1, y3), (3, 0), (1, y4), (3, 0), (0, y5)]) d_X12_inverse_51 (by decide) rfl rfl ?_
      refine r_goto (tgt := 10) d_X12_inverse_53 rfl ?_
      exact h
theorem u_X12_clears_0 {l : Launch} {d N : Nat} {Λ : Lay} {P : Mem → Prop} {σ : Mem} {x1 x2 x3 t t_matrix : Int} (o_t : Ob N Λ t 21 36) (f_t_matrix : (Λ t).2.2 31 = t_matrix) (h0d : 1 ≤ d)
    (h : (Ix N Λ t_matrix 1 (addI (mulI 480 x1) x3) ∧ (CL l mX12_inverse (d - 1) [(1, (σ t_matrix (addI (mulI 480 x1) x3)))] N Λ σ (fun v2 σ1 => (∀ y3, y3 = (addI x1 1) → WV l mX12_clears d P 22 [(2, t), (0, x1), (0, x2), (0, x3), (1, v2), (3, 0), (0, y3), (3, 0), (3, 0), (3, 0)] [] N Λ σ1))))) :
    WV l mX12_clears d P 0 [(2, t), (0, x1), (0, x2), (0, x3), (3, 0), (3, 0), (3, 0), (3, 0), (3, 0), (3, 0)] [] N Λ σ := by
  have hd_1 : 1 ≤ d := Nat.le_trans (by decide) h0d
  refine r_aload_n (x := t) d_X12_clears_0 rfl o_t.1 ?_
  refine r_getf (j := 31) (t := 2) (x := t_matrix) d_X12_clears_1 kX12 (by decide) fl_X12_73 o_t.1 o_t.2.1 o_t.2.2.1 o_t.2.2.2 rfl f_t_matrix ?_
  refine r_sipush (x := 480) d_X12_clears_4 ⟨by decide, by decide⟩ (by decide) ?_
  refine r_iload_n (x := x1) d_X12_clears_7 rfl ?_
  refine r_imul d_X12_clears_8 ?_
  refine r_iload_n (x := x3) d_X12_clears_9 rfl ?_
  refine r_iadd d_X12_clears_10 ?_
  refine x_lald d_X12_clears_11 h.1 ?_
  have h := h.2
  refine x_callSL (Y2 := mX12_inverse) (As := [(1, (σ t_matrix (addI (mulI 480 x1) x3)))]) (S := []) d_X12_clears_12 ok_mX12_inverse ml_X12_379 rfl (Nat.le_of_ble_eq_true rfl) (Nat.le_of_ble_eq_true rfl) rfl hd_1 (CL.mono h (fun v2 σ1 h => ?_))
  refine r_lstore (L2 := [(2, t), (0, x1), (0, x2), (0, x3), (1, v2), (3, 0), (3, 0), (3, 0), (3, 0), (3, 0)]) d_X12_clears_15 (by decide) rfl rfl ?_
  refine r_iload_n (x := x1) d_X12_clears_17 rfl ?_
  refine r_iconst (x := 1) d_X12_clears_18 ⟨by decide, by decide⟩ ?_
  refine r_iadd d_X12_clears_19 ?_
  refine r_nm (fun y3 ey3 => ?_)
  have h := h y3 ey3
  refine r_istore (L2 := [(2, t), (0, x1), (0, x2), (0, x3), (1, v2), (3, 0), (0, y3), (3, 0), (3, 0), (3, 0)]) d_X12_clears_20 (by decide) rfl rfl ?_
  exact h
theorem u_X12_clears_22 {l : Launch} {d N : Nat} {Λ : Lay} {P : Mem → Prop} {σ : Mem} {x1 x2 x3 x4 x6 t t_matrix : Int} (o_t : Ob N Λ t 21 36) (f_t_matrix : (Λ t).2.2 31 = t_matrix)
    (h : ((x2 ≤ x6 → P σ) ∧ (¬ (x2 ≤ x6) → (Ix N Λ t_matrix 1 (addI (mulI 480 x6) x3) ∧ (∀ y1, y1 = (remL (mulL (σ t_matrix (addI (mulI 480 x6) x3)) x4) 1000003) → WV l mX12_clears d P 53 [(2, t), (0, x1), (0, x2), (0, x3), (1, x4), (3, 0), (0, x6), (1, y1), (3, 0), (0, 0)] [] N Λ σ))))) :
    WV l mX12_clears d P 22 [(2, t), (0, x1), (0, x2), (0, x3), (1, x4), (3, 0), (0, x6), (3, 0), (3, 0), (3, 0)] [] N Λ σ := by
  refine r_iload (x := x6) d_X12_clears_22 rfl ?_
  refine r_iload_n (x := x2) d_X12_clears_24 rfl ?_
  refine r_ic_ge (tgt := 126) d_X12_clears_25 rfl (fun hc => ?_) (fun hc => ?_)
  · have h := h.1 hc
    exact r_vret d_X12_clears_126 rfl (Nat.le_refl 0) (Nat.le_refl 0) ⟨rfl, rfl, rfl, h⟩
  · have h := h.2 hc
    refine r_aload_n (x := t) d_X12_clears_28 rfl o_t.1 ?_
    refine r_getf (j := 31) (t := 2) (x := t_matrix) d_X12_clears_29 kX12 (by decide) fl_X12_73 o_t.1 o_t.2.1 o_t.2.2.1 o_t.2.2.2 rfl f_t_matrix ?_
    refine r_sipush (x := 480) d_X12_clears_32 ⟨by decide, by decide⟩ (by decide) ?_
    refine r_iload (x := x6) d_X12_clears_35 rfl ?_
    refine r_imul d_X12_clears_37 ?_
    refine r_iload_n (x := x3) d_X12_clears_38 rfl ?_
    refine r_iadd d_X12_clears_39 ?_
    refine x_lald d_X12_clears_40 h.1 ?_
    have h := h.2
    refine r_lload (x := x4) d_X12_clears_41 rfl ?_
    refine r_lmul d_X12_clears_43 ?_
    refine r_ldc2 (x := 1000003) d_X12_clears_44 ck_X12_376 (by decide) ?_
    refine r_lrem d_X12_clears_47 (by decide) ?_
    refine r_nm (fun y1 ey1 => ?_)
    have h := h y1 ey1
    refine r_lstore (L2 := [(2, t), (0, x1), (0, x2), (0, x3), (1, x4), (3, 0), (0, x6), (1, y1), (3, 0), (3, 0)]) d_X12_clears_48 (by decide) rfl rfl ?_
    refine r_iconst (x := 0) d_X12_clears_50 ⟨by decide, by decide⟩ ?_
    refine r_istore (L2 := [(2, t), (0, x1), (0, x2), (0, x3), (1, x4), (3, 0), (0, x6), (1, y1), (3, 0), (0, 0)]) d_X12_clears_51 (by decide) rfl rfl ?_
    exact h
theorem u_X12_clears_53 {l : Launch} {d N : Nat} {Λ : Lay} {P : Mem → Prop} {σ : Mem} {x1 x2 x3 x4 x6 x7 x9 t t_matrix : Int} (o_t : Ob N Λ t 21 36) (f_t_matrix : (Λ t).2.2 31 = t_matrix) (h0d : 1 ≤ d)
    (h : (((σ t 32) ≤ x9 → (∀ y1, y1 = addI x6 1 → WV l mX12_clears d P 22 [(2, t), (0, x1), (0, x2), (0, x3), (1, x4), (3, 0), (0, y1), (3, 0), (3, 0), (3, 0)] [] N Λ σ)) ∧ (¬ ((σ t 32) ≤ x9) → (Ix N Λ t_matrix 1 (addI (mulI 480 x6) x9) ∧ (Ix N Λ t_matrix 1 (addI (mulI 480 x1) x9) ∧ (CL l mX12_modulo (d - 1) [(1, (subL (σ t_matrix (addI (mulI 480 x6) x9)) (remL (mulL x7 (σ t_matrix (addI (mulI 480 x1) x9))) 1000003)))] N Λ σ (fun v3 σ2 => (Ix N Λ t_matrix 1 (addI (mulI 480 x6) x9) ∧ (∀ τ4, τ4 = st σ2 t_matrix (addI (mulI 480 x6) x9) v3 → (∀ y5, y5 = addI x9 1 → WV l mX12_clears d P 53 [(2, t), (0, x1), (0, x2), (0, x3), (1, x4), (3, 0), (0, x6), (1, x7), (3, 0), (0, y5)] [] N Λ τ4)))))))))) :
    WV l mX12_clears d P 53 [(2, t), (0, x1), (0, x2), (0, x3), (1, x4), (3, 0), (0, x6), (1, x7), (3, 0), (0, x9)] [] N Λ σ := by
  have hd_1 : 1 ≤ d := Nat.le_trans (by decide) h0d
  refine r_iload (x := x9) d_X12_clears_53 rfl ?_
  refine r_aload_n (x := t) d_X12_clears_55 rfl o_t.1 ?_
  refine r_getf (j := 32) (t := 0) (x := (σ t 32)) d_X12_clears_56 kX12 (by decide) fl_X12_373 o_t.1 o_t.2.1 o_t.2.2.1 o_t.2.2.2 rfl rfl ?_
  refine r_ic_ge (tgt := 120) d_X12_clears_59 rfl (fun hc => ?_) (fun hc => ?_)
  · have h := h.1 hc
    refine x_iinc (x := x6) (L := [(2, t), (0, x1), (0, x2), (0, x3), (1, x4), (3, 0), (0, x6), (1, x7), (3, 0), (0, x9)]) d_X12_clears_120 rfl (by decide) rfl (fun y1 ey1 => ?_)
    have h := h y1 ey1
    show WP _ _ _ _ _ _ _ _ [(2, t), (0, x1), (0, x2), (0, x3), (1, x4), (3, 0), (0, y1), (1, x7), (3, 0), (0, x9)] _ _ _ _
    refine r_goto (tgt := 22) d_X12_clears_123 rfl ?_
    exact x_mask h ⟨Or.inr rfl, Or.inr rfl, Or.inr rfl, Or.inr rfl, Or.inr rfl, Or.inl rfl, Or.inr rfl, Or.inl rfl, Or.inl rfl, Or.inl rfl, trivial⟩
  · have h := h.2 hc
    refine r_aload_n (x := t) d_X12_clears_62 rfl o_t.1 ?_
    refine r_getf (j := 31) (t := 2) (x := t_matrix) d_X12_clears_63 kX12 (by decide) fl_X12_73 o_t.1 o_t.2.1 o_t.2.2.1 o_t.2.2.2 rfl f_t_matrix ?_
    refine r_sipush (x := 480) d_X12_clears_66 ⟨by decide, by decide⟩ (by decide) ?_
    refine r_iload (x := x6) d_X12_clears_69 rfl ?_
    refine r_imul d_X12_clears_71 ?_
    refine r_iload (x := x9) d_X12_clears_72 rfl ?_
    refine r_iadd d_X12_clears_74 ?_
    refine r_aload_n (x := t) d_X12_clears_75 rfl o_t.1 ?_
    refine r_getf (j := 31) (t := 2) (x := t_matrix) d_X12_clears_76 kX12 (by decide) fl_X12_73 o_t.1 o_t.2.1 o_t.2.2.1 o_t.2.2.2 rfl f_t_matrix ?_
    refine r_sipush (x := 480) d_X12_clears_79 ⟨by decide, by decide⟩ (by decide) ?_
    refine r_iload (x := x6) d_X12_clears_82 rfl ?_
    refine r_imul d_X12_clears_84 ?_
    refine r_iload (x := x9) d_X12_clears_85 rfl ?_
    refine r_iadd d_X12_clears_87 ?_
    refine x_lald d_X12_clears_88 h.1 ?_
    have h := h.2
    refine r_lload (x := x7) d_X12_clears_89 rfl ?_
    refine r_aload_n (x := t) d_X12_clears_91 rfl o_t.1 ?_
    refine r_getf (j := 31) (t := 2) (x := t_matrix) d_X12_clears_92 kX12 (by decide) fl_X12_73 o_t.1 o_t.2.1 o_t.2.2.1 o_t.2.2.2 rfl f_t_matrix ?_
    refine r_sipush (x := 480) d_X12_clears_95 ⟨by decide, by decide⟩ (by decide) ?_
    refine r_iload_n (x := x1) d_X12_clears_98 rfl ?_
    refine r_imul d_X12_clears_99 ?_
    refine r_iload (x := x9) d_X12_clears_100 rfl ?_
    refine r_iadd d_X12_clears_102 ?_
    refine x_lald d_X12_clears_103 h.1 ?_
    have h := h.2
    refine r_lmul d_X12_clears_104 ?_
    refine r_ldc2 (x := 1000003) d_X12_clears_105 ck_X12_376 (by decide) ?_
    refine r_lrem d_X12_clears_108 (by decide) ?_
    refine r_lsub d_X12_clears_109 ?_
    refine x_callSL (Y2 := mX12_modulo) (As := [(1, (subL (σ t_matrix (addI (mulI 480 x6) x9)) (remL (mulL x7 (σ t_matrix (addI (mulI 480 x1) x9))) 1000003)))]) (S := [(0, (addI (mulI 480 x6) x9)), (2, t_matrix)]) d_X12_clears_110 ok_mX12_modulo ml_X12_383 rfl (Nat.le_of_ble_eq_true rfl) (Nat.le_of_ble_eq_true rfl) rfl hd_1 (CL.mono h (fun v3 σ2 h => ?_))
    refine x_last d_X12_clears_113 h.1 ?_
    have h := h.2
    refine r_nmM (fun τ4 eτ4 => ?_)
    have h := h τ4 eτ4
    refine x_iinc (x := x9) (L := [(2, t), (0, x1), (0, x2), (0, x3), (1, x4), (3, 0), (0, x6), (1, x7), (3, 0), (0, x9)]) d_X12_clears_114 rfl (by decide) rfl (fun y5 ey5 => ?_)
    have h := h y5 ey5
    show WP _ _ _ _ _ _ _ _ [(2, t), (0, x1), (0, x2), (0, x3), (1, x4), (3, 0), (0, x6), (1, x7), (3, 0), (0, y5)] _ _ _ _
    refine r_goto (tgt := 53) d_X12_clears_117 rfl ?_
    exact h
theorem u_X12_swapsRows_0 {l : Launch} {d N : Nat} {Λ : Lay} {P : Mem → Prop} {σ : Mem} {x1 x2 t : Int}
    (h : WV l mX12_swapsRows d P 2 [(2, t), (0, x1), (0, x2), (0, 0), (3, 0), (3, 0)] [] N Λ σ) :
    WV l mX12_swapsRows d P 0 [(2, t), (0, x1), (0, x2), (3, 0), (3, 0), (3, 0)] [] N Λ σ := by
  refine r_iconst (x := 0) d_X12_swapsRows_0 ⟨by decide, by decide⟩ ?_
  refine r_istore_n (L2 := [(2, t), (0, x1), (0, x2), (0, 0), (3, 0), (3, 0)]) d_X12_swapsRows_1 (by decide) rfl rfl ?_
  exact h
theorem u_X12_swapsRows_2 {l : Launch} {d N : Nat} {Λ : Lay} {P : Mem → Prop} {σ : Mem} {x1 x2 x3 t t_matrix : Int} (o_t : Ob N Λ t 21 36) (f_t_matrix : (Λ t).2.2 31 = t_matrix)
    (h : (((σ t 32) ≤ x3 → P σ) ∧ (¬ ((σ t 32) ≤ x3) → (Ix N Λ t_matrix 1 (addI (mulI 480 x1) x3) ∧ (∀ y1, y1 = (σ t_matrix (addI (mulI 480 x1) x3)) → (Ix N Λ t_matrix 1 (addI (mulI 480 x2) x3) ∧ (Ix N Λ t_matrix 1 (addI (mulI 480 x1) x3) ∧ (∀ τ2, τ2 = st σ t_matrix (addI (mulI 480 x1) x3) (σ t_matrix (addI (mulI 480 x2) x3)) → (Ix N Λ t_matrix 1 (addI (mulI 480 x2) x3) ∧ (∀ τ3, τ3 = st τ2 t_matrix (addI (mulI 480 x2) x3) y1 → (∀ y4, y4 = addI x3 1 → WV l mX12_swapsRows d P 2 [(2, t), (0, x1), (0, x2), (0, y4), (3, 0), (3, 0)] [] N Λ τ3))))))))))) :
    WV l mX12_swapsRows d P 2 [(2, t), (0, x1), (0, x2), (0, x3), (3, 0), (3, 0)] [] N Λ σ := by
  refine r_iload_n (x := x3) d_X12_swapsRows_2 rfl ?_
  refine r_aload_n (x := t) d_X12_swapsRows_3 rfl o_t.1 ?_
  refine r_getf (j := 32) (t := 0) (x := (σ t 32)) d_X12_swapsRows_4 kX12 (by decide) fl_X12_373 o_t.1 o_t.2.1 o_t.2.2.1 o_t.2.2.2 rfl rfl ?_
  refine r_ic_ge (tgt := 68) d_X12_swapsRows_7 rfl (fun hc => ?_) (fun hc => ?_)
  · have h := h.1 hc
    exact r_vret d_X12_swapsRows_68 rfl (Nat.le_refl 0) (Nat.le_refl 0) ⟨rfl, rfl, rfl, h⟩
  · have h := h.2 hc
    refine r_aload_n (x := t) d_X12_swapsRows_10 rfl o_t.1 ?_
    refine r_getf (j := 31) (t := 2) (x := t_matrix) d_X12_swapsRows_11 kX12 (by decide) fl_X12_73 o_t.1 o_t.2.1 o_t.2.2.1 o_t.2.2.2 rfl f_t_matrix ?_
    refine r_sipush (x := 480) d_X12_swapsRows_14 ⟨by decide, by decide⟩ (by decide) ?_
    refine r_iload_n (x := x1) d_X12_swapsRows_17 rfl ?_
    refine r_imul d_X12_swapsRows_18 ?_
    refine r_iload_n (x := x3) d_X12_swapsRows_19 rfl ?_
    refine r_iadd d_X12_swapsRows_20 ?_
    refine x_lald d_X12_swapsRows_21 h.1 ?_
    have h := h.2
    refine r_nm (fun y1 ey1 => ?_)
    have h := h y1 ey1
    refine r_lstore (L2 := [(2, t), (0, x1), (0, x2), (0, x3), (1, y1), (3, 0)]) d_X12_swapsRows_22 (by decide) rfl rfl ?_
    refine r_aload_n (x := t) d_X12_swapsRows_24 rfl o_t.1 ?_
    refine r_getf (j := 31) (t := 2) (x := t_matrix) d_X12_swapsRows_25 kX12 (by decide) fl_X12_73 o_t.1 o_t.2.1 o_t.2.2.1 o_t.2.2.2 rfl f_t_matrix ?_
    refine r_sipush (x := 480) d_X12_swapsRows_28 ⟨by decide, by decide⟩ (by decide) ?_
    refine r_iload_n (x := x1) d_X12_swapsRows_31 rfl ?_
    refine r_imul d_X12_swapsRows_32 ?_
    refine r_iload_n (x := x3) d_X12_swapsRows_33 rfl ?_
    refine r_iadd d_X12_swapsRows_34 ?_
    refine r_aload_n (x := t) d_X12_swapsRows_35 rfl o_t.1 ?_
    refine r_getf (j := 31) (t := 2) (x := t_matrix) d_X12_swapsRows_36 kX12 (by decide) fl_X12_73 o_t.1 o_t.2.1 o_t.2.2.1 o_t.2.2.2 rfl f_t_matrix ?_
    refine r_sipush (x := 480) d_X12_swapsRows_39 ⟨by decide, by decide⟩ (by decide) ?_
    refine r_iload_n (x := x2) d_X12_swapsRows_42 rfl ?_
    refine r_imul d_X12_swapsRows_43 ?_
    refine r_iload_n (x := x3) d_X12_swapsRows_44 rfl ?_
    refine r_iadd d_X12_swapsRows_45 ?_
    refine x_lald d_X12_swapsRows_46 h.1 ?_
    have h := h.2
    refine x_last d_X12_swapsRows_47 h.1 ?_
    have h := h.2
    refine r_nmM (fun τ2 eτ2 => ?_)
    have h := h τ2 eτ2
    refine r_aload_n (x := t) d_X12_swapsRows_48 rfl o_t.1 ?_
    refine r_getf (j := 31) (t := 2) (x := t_matrix) d_X12_swapsRows_49 kX12 (by decide) fl_X12_73 o_t.1 o_t.2.1 o_t.2.2.1 o_t.2.2.2 rfl f_t_matrix ?_
    refine r_sipush (x := 480) d_X12_swapsRows_52 ⟨by decide, by decide⟩ (by decide) ?_
    refine r_iload_n (x := x2) d_X12_swapsRows_55 rfl ?_
    refine r_imul d_X12_swapsRows_56 ?_
    refine r_iload_n (x := x3) d_X12_swapsRows_57 rfl ?_
    refine r_iadd d_X12_swapsRows_58 ?_
    refine r_lload (x := y1) d_X12_swapsRows_59 rfl ?_
    refine x_last d_X12_swapsRows_61 h.1 ?_
    have h := h.2
    refine r_nmM (fun τ3 eτ3 => ?_)
    have h := h τ3 eτ3
    refine x_iinc (x := x3) (L := [(2, t), (0, x1), (0, x2), (0, x3), (1, y1), (3, 0)]) d_X12_swapsRows_62 rfl (by decide) rfl (fun y4 ey4 => ?_)
    have h := h y4 ey4
    show WP _ _ _ _ _ _ _ _ [(2, t), (0, x1), (0, x2), (0, y4), (1, y1), (3, 0)] _ _ _ _
    refine r_goto (tgt := 2) d_X12_swapsRows_65 rfl ?_
    exact x_mask h ⟨Or.inr rfl, Or.inr rfl, Or.inr rfl, Or.inr rfl, Or.inl rfl, Or.inl rfl, trivial⟩
theorem u_X12_areSix_0 {l : Launch} {d N : Nat} {Λ : Lay} {P : Int → Mem → Prop} {σ : Mem} {x1 t t_state : Int} (o_t : Ob N Λ t 21 36) (f_t_state : (Λ t).2.2 3 = t_state) (h0d : 1 ≤ d)
    (h : (Ix N Λ t_state 0 (mulI 161 x1) ∧ (((σ t_state (mulI 161 x1)) = 0 → P 0 σ) ∧ (¬ ((σ t_state (mulI 161 x1)) = 0) → (CI l mX12_keyOn (d - 1) [(2, t_state), (0, x1), (0, 0)] N Λ σ (fun v2 σ1 => (CI l mX12_degreeOf (d - 1) [(0, v2)] N Λ σ1 (fun v4 σ3 => ((v4 = 2 → WI l mX12_areSix d P 35 [(2, t), (0, x1), (0, 0), (0, 0), (3, 0)] [] N Λ σ3) ∧ (¬ (v4 = 2) → P 0 σ3)))))))))) :
    WI l mX12_areSix d P 0 [(2, t), (0, x1), (3, 0), (3, 0), (3, 0)] [] N Λ σ := by
  have hd_1 : 1 ≤ d := Nat.le_trans (by decide) h0d
  refine r_iconst (x := 0) d_X12_areSix_0 ⟨by decide, by decide⟩ ?_
  refine r_istore_n (L2 := [(2, t), (0, x1), (0, 0), (3, 0), (3, 0)]) d_X12_areSix_1 (by decide) rfl rfl ?_
  refine r_aload_n (x := t) d_X12_areSix_2 rfl o_t.1 ?_
  refine r_getf (j := 3) (t := 2) (x := t_state) d_X12_areSix_3 kX12 (by decide) fl_X12_20 o_t.1 o_t.2.1 o_t.2.2.1 o_t.2.2.2 rfl f_t_state ?_
  refine r_sipush (x := 161) d_X12_areSix_6 ⟨by decide, by decide⟩ (by decide) ?_
  refine r_iload_n (x := x1) d_X12_areSix_9 rfl ?_
  refine r_imul d_X12_areSix_10 ?_
  refine x_iald d_X12_areSix_11 h.1 ?_
  have h := h.2
  refine r_if_eq (tgt := 31) d_X12_areSix_12 rfl (fun hc => ?_) (fun hc => ?_)
  · have h := h.1 hc
    refine r_iconst (x := 0) d_X12_areSix_31 ⟨by decide, by decide⟩ ?_
    exact r_iret d_X12_areSix_32 rfl (by decide) (Nat.le_refl 0) (Nat.le_refl 0) ⟨_, rfl, rfl, rfl, h⟩
  · have h := h.2 hc
    refine r_aload_n (x := t) d_X12_areSix_15 rfl o_t.1 ?_
    refine r_getf (j := 3) (t := 2) (x := t_state) d_X12_areSix_16 kX12 (by decide) fl_X12_20 o_t.1 o_t.2.1 o_t.2.2.1 o_t.2.2.2 rfl f_t_state ?_
    refine r_iload_n (x := x1) d_X12_areSix_19 rfl ?_
    refine r_iconst (x := 0) d_X12_areSix_20 ⟨by decide, by decide⟩ ?_
    refine x_callSI (Y2 := mX12_keyOn) (As := [(2, t_state), (0, x1), (0, 0)]) (S := []) d_X12_areSix_21 ok_mX12_keyOn ml_X12_339 rfl (Nat.le_of_ble_eq_true rfl) (Nat.le_of_ble_eq_true rfl) rfl hd_1 (CI.mono h (fun v2 σ1 h => ?_))
    refine x_callSI (Y2 := mX12_degreeOf) (As := [(0, v2)]) (S := []) d_X12_areSix_24 ok_mX12_degreeOf ml_X12_138 rfl (Nat.le_of_ble_eq_true rfl) (Nat.le_of_ble_eq_true rfl) rfl hd_1 (CI.mono h (fun v4 σ3 h => ?_))
    refine r_iconst (x := 2) d_X12_areSix_27 ⟨by decide, by decide⟩ ?_
    refine r_ic_eq (tgt := 33) d_X12_areSix_28 rfl (fun hc => ?_) (fun hc => ?_)
    · have h := h.1 hc
      refine r_iconst (x := 0) d_X12_areSix_33 ⟨by decide, by decide⟩ ?_
      refine r_istore_n (L2 := [(2, t), (0, x1), (0, 0), (0, 0), (3, 0)]) d_X12_areSix_34 (by decide) rfl rfl ?_
      exact h
    · have h := h.2 hc
      refine r_iconst (x := 0) d_X12_areSix_31 ⟨by decide, by decide⟩ ?_
      exact r_iret d_X12_areSix_32 rfl (by decide) (Nat.le_refl 0) (Nat.le_refl 0) ⟨_, rfl, rfl, rfl, h⟩
theorem u_X12_areSix_35 {l : Launch} {d N : Nat} {Λ : Lay} {P : Int → Mem → Prop} {σ : Mem} {x1 x2 x3 t t_six t_state : Int} (o_t : Ob N Λ t 21 36) (f_t_state : (Λ t).2.2 3 = t_state) (f_t_six : (Λ t).2.2 33 = t_six) (h0d : 1 ≤ d)
    (h : ((10 ≤ x3 → ((¬ x2 = 6 → P 0 σ) ∧ (x2 = 6 → P 1 σ))) ∧ (¬ (10 ≤ x3) → (CI l mX12_keyOn (d - 1) [(2, t_state), (0, x1), (0, 0)] N Λ σ (fun v2 σ1 => (CI l mX12_often (d - 1) [(2, t), (0, v2), (0, x3)] N Λ σ1 (fun v4 σ3 => ((v4 ≤ 1 → ((¬ v4 = 0 → (Ix N Λ t_six 0 x2 ∧ (∀ τ5, τ5 = st σ3 t_six x2 x3 → (∀ y6, y6 = addI x2 1 → (∀ y7, y7 = addI x3 1 → WI l mX12_areSix d P 35 [(2, t), (0, x1), (0, y6), (0, y7), (3, 0)] [] N Λ τ5))))) ∧ (v4 = 0 → (∀ y8, y8 = addI x3 1 → WI l mX12_areSix d P 35 [(2, t), (0, x1), (0, x2), (0, y8), (3, 0)] [] N Λ σ3)))) ∧ (¬ (v4 ≤ 1) → P 0 σ3))))))))) :
    WI l mX12_areSix d P 35 [(2, t), (0, x1), (0, x2), (0, x3), (3, 0)] [] N Λ σ := by
  have hd_1 : 1 ≤ d := Nat.le_trans (by decide) h0d
  refine r_iload_n (x := x3) d_X12_areSix_35 rfl ?_
  refine r_bipush (x := 10) d_X12_areSix_36 ⟨by decide, by decide⟩ (by decide) ?_
  refine r_ic_ge (tgt := 89) d_X12_areSix_38 rfl (fun hc => ?_) (fun hc => ?_)
  · have h := h.1 hc
    refine r_iload_n (x := x2) d_X12_areSix_89 rfl ?_
    refine r_bipush (x := 6) d_X12_areSix_90 ⟨by decide, by decide⟩ (by decide) ?_
    refine r_ic_ne (tgt := 99) d_X12_areSix_92 rfl (fun hc => ?_) (fun hc => ?_)
    · have h := h.1 hc
      refine r_iconst (x := 0) d_X12_areSix_99 ⟨by decide, by decide⟩ ?_
      exact r_iret d_X12_areSix_100 rfl (by decide) (Nat.le_refl 0) (Nat.le_refl 0) ⟨_, rfl, rfl, rfl, h⟩
    · have h := h.2 hc
      refine r_iconst (x := 1) d_X12_areSix_95 ⟨by decide, by decide⟩ ?_
      refine r_goto (tgt := 100) d_X12_areSix_96 rfl ?_
      exact r_iret d_X12_areSix_100 rfl (by decide) (Nat.le_refl 0) (Nat.le_refl 0) ⟨_, rfl, rfl, rfl, h⟩
  · have h := h.2 hc
    refine r_aload_n (x := t) d_X12_areSix_41 rfl o_t.1 ?_
    refine r_aload_n (x := t) d_X12_areSix_42 rfl o_t.1 ?_
    refine r_getf (j := 3) (t := 2) (x := t_state) d_X12_areSix_43 kX12 (by decide) fl_X12_20 o_t.1 o_t.2.1 o_t.2.2.1 o_t.2.2.2 rfl f_t_state ?_
    refine r_iload_n (x := x1) d_X12_areSix_46 rfl ?_
    refine r_iconst (x := 0) d_X12_areSix_47 ⟨by decide, by decide⟩ ?_
    refine x_callSI (Y2 := mX12_keyOn) (As := [(2, t_state), (0, x1), (0, 0)]) (S := [(2, t)]) d_X12_areSix_48 ok_mX12_keyOn ml_X12_339 rfl (Nat.le_of_ble_eq_true rfl) (Nat.le_of_ble_eq_true rfl) rfl hd_1 (CI.mono h (fun v2 σ1 h => ?_))
    refine r_iload_n (x := x3) d_X12_areSix_51 rfl ?_
    refine x_callVI (Y2 := mX12_often) (c := t) (As := [(0, v2), (0, x3)]) (S := []) d_X12_areSix_52 ok_mX12_often ml_X12_343 rfl (Nat.le_of_ble_eq_true rfl) (Nat.le_of_ble_eq_true rfl) rfl hd_1 kX12 o_t (CI.mono h (fun v4 σ3 h => ?_))
    refine r_istore (L2 := [(2, t), (0, x1), (0, x2), (0, x3), (0, v4)]) d_X12_areSix_55 (by decide) rfl rfl ?_
    refine r_iload (x := v4) d_X12_areSix_57 rfl ?_
    refine r_iconst (x := 1) d_X12_areSix_59 ⟨by decide, by decide⟩ ?_
    refine r_ic_le (tgt := 65) d_X12_areSix_60 rfl (fun hc => ?_) (fun hc => ?_)
    · have h := h.1 hc
      refine r_iload (x := v4) d_X12_areSix_65 rfl ?_
      refine r_if_ne (tgt := 73) d_X12_areSix_67 rfl (fun hc => ?_) (fun hc => ?_)
      · have h := h.1 hc
        refine r_aload_n (x := t) d_X12_areSix_73 rfl o_t.1 ?_
        refine r_getf (j := 33) (t := 2) (x := t_six) d_X12_areSix_74 kX12 (by decide) fl_X12_77 o_t.1 o_t.2.1 o_t.2.2.1 o_t.2.2.2 rfl f_t_six ?_
        refine r_iload_n (x := x2) d_X12_areSix_77 rfl ?_
        refine r_iload_n (x := x3) d_X12_areSix_78 rfl ?_
        refine x_iast d_X12_areSix_79 h.1 ?_
        have h := h.2
        refine r_nmM (fun τ5 eτ5 => ?_)
        have h := h τ5 eτ5
        refine x_iinc (x := x2) (L := [(2, t), (0, x1), (0, x2), (0, x3), (0, v4)]) d_X12_areSix_80 rfl (by decide) rfl (fun y6 ey6 => ?_)
        have h := h y6 ey6
        show WP _ _ _ _ _ _ _ _ [(2, t), (0, x1), (0, y6), (0, x3), (0, v4)] _ _ _ _
        refine x_iinc (x := x3) (L := [(2, t), (0, x1), (0, y6), (0, x3), (0, v4)]) d_X12_areSix_83 rfl (by decide) rfl (fun y7 ey7 => ?_)
        have h := h y7 ey7
        show WP _ _ _ _ _ _ _ _ [(2, t), (0, x1), (0, y6), (0, y7), (0, v4)] _ _ _ _
        refine r_goto (tgt := 35) d_X12_areSix_86 rfl ?_
        exact x_mask h ⟨Or.inr rfl, Or.inr rfl, Or.inr rfl, Or.inr rfl, Or.inl rfl, trivial⟩
      · have h := h.2 hc
        refine r_goto (tgt := 83) d_X12_areSix_70 rfl ?_
        refine x_iinc (x := x3) (L := [(2, t), (0, x1), (0, x2), (0, x3), (0, v4)]) d_X12_areSix_83 rfl (by decide) rfl (fun y8 ey8 => ?_)
        have h := h y8 ey8
        show WP _ _ _ _ _ _ _ _ [(2, t), (0, x1), (0, x2), (0, y8), (0, v4)] _ _ _ _
        refine r_goto (tgt := 35) d_X12_areSix_86 rfl ?_
        exact x_mask h ⟨Or.inr rfl, Or.inr rfl, Or.inr rfl, Or.inr rfl, Or.inl rfl, trivial⟩
    · have h := h.2 hc
      refine r_iconst (x := 0) d_X12_areSix_63 ⟨by decide, by decide⟩ ?_
      exact r_iret d_X12_areSix_64 rfl (by decide) (Nat.le_refl 0) (Nat.le_refl 0) ⟨_, rfl, rfl, rfl, h⟩
theorem u_X12_laysSix_0 {l : Launch} {d N : Nat} {Λ : Lay} {P : Mem → Prop} {σ : Mem} {x1 t t_taken : Int} (o_t : Ob N Λ t 21 36) (f_t_taken : (Λ t).2.2 34 = t_taken) (h0d : 1 ≤ d)
    (h : (CV l mX12_empties (d - 1) [(2, t), (0, x1)] N Λ σ (fun σ1 => (CV l mX12_empties (d - 1) [(2, t), (0, 1)] N Λ σ1 (fun σ2 => (CV l mX12_empties (d - 1) [(2, t), (0, 2)] N Λ σ2 (fun σ3 => (Ix N Λ t_taken 0 0 ∧ (Ix N Λ t_taken 0 2 ∧ (Ix N Λ t_taken 0 3 ∧ (CV l mX12_putsBracket (d - 1) [(2, t), (0, (σ3 t_taken 0)), (0, (σ3 t_taken 2)), (0, (σ3 t_taken 3)), (0, 1)] N Λ σ3 (fun σ4 => (Ix N Λ t_taken 0 1 ∧ (Ix N Λ t_taken 0 4 ∧ (Ix N Λ t_taken 0 5 ∧ (CV l mX12_putsBracket (d - 1) [(2, t), (0, (σ4 t_taken 1)), (0, (σ4 t_taken 4)), (0, (σ4 t_taken 5)), (0, 2)] N Λ σ4 (fun σ5 => (CV l mX12_multiplies (d - 1) [(2, t), (0, 1), (0, 2), (0, 1), (0, x1)] N Λ σ5 (fun σ6 => (CV l mX12_empties (d - 1) [(2, t), (0, 1)] N Λ σ6 (fun σ7 => (CV l mX12_empties (d - 1) [(2, t), (0, 2)] N Λ σ7 (fun σ8 => (Ix N Λ t_taken 0 1 ∧ (Ix N Λ t_taken 0 2 ∧ (Ix N Λ t_taken 0 3 ∧ (CV l mX12_putsBracket (d - 1) [(2, t), (0, (σ8 t_taken 1)), (0, (σ8 t_taken 2)), (0, (σ8 t_taken 3)), (0, 1)] N Λ σ8 (fun σ9 => (Ix N Λ t_taken 0 0 ∧ (Ix N Λ t_taken 0 4 ∧ (Ix N Λ t_taken 0 5 ∧ (CV l mX12_putsBracket (d - 1) [(2, t), (0, (σ9 t_taken 0)), (0, (σ9 t_taken 4)), (0, (σ9 t_taken 5)), (0, 2)] N Λ σ9 (fun σ10 => (CV l mX12_multiplies (d - 1) [(2, t), (0, 1), (0, 2), (0, (-1)), (0, x1)] N Λ σ10 (fun σ11 => (CI l mX12_straightens (d - 1) [(2, t), (0, x1)] N Λ σ11 (fun v13 σ12 => P σ12))))))))))))))))))))))))))))))))))))) :
    WV l mX12_laysSix d P 0 [(2, t), (0, x1), (3, 0)] [] N Λ σ := by
  have hd_1 : 1 ≤ d := Nat.le_trans (by decide) h0d
  refine r_aload_n (x := t) d_X12_laysSix_0 rfl o_t.1 ?_
  refine r_iload_n (x := x1) d_X12_laysSix_1 rfl ?_
  refine x_callVV (Y2 := mX12_empties) (c := t) (As := [(0, x1)]) (S := []) d_X12_laysSix_2 ok_mX12_empties ml_X12_105 rfl (Nat.le_of_ble_eq_true rfl) (Nat.le_of_ble_eq_true rfl) rfl hd_1 kX12 o_t (CV.mono h (fun σ1 h => ?_))
  refine r_aload_n (x := t) d_X12_laysSix_5 rfl o_t.1 ?_
  refine r_iconst (x := 1) d_X12_laysSix_6 ⟨by decide, by decide⟩ ?_
  refine x_callVV (Y2 := mX12_empties) (c := t) (As := [(0, 1)]) (S := []) d_X12_laysSix_7 ok_mX12_empties ml_X12_105 rfl (Nat.le_of_ble_eq_true rfl) (Nat.le_of_ble_eq_true rfl) rfl hd_1 kX12 o_t (CV.mono h (fun σ2 h => ?_))
  refine r_aload_n (x := t) d_X12_laysSix_10 rfl o_t.1 ?_
  refine r_iconst (x := 2) d_X12_laysSix_11 ⟨by decide, by decide⟩ ?_
  refine x_callVV (Y2 := mX12_empties) (c := t) (As := [(0, 2)]) (S := []) d_X12_laysSix_12 ok_mX12_empties ml_X12_105 rfl (Nat.le_of_ble_eq_true rfl) (Nat.le_of_ble_eq_true rfl) rfl hd_1 kX12 o_t (CV.mono h (fun σ3 h => ?_))
  refine r_aload_n (x := t) d_X12_laysSix_15 rfl o_t.1 ?_
  refine r_aload_n (x := t) d_X12_laysSix_16 rfl o_t.1 ?_
  refine r_getf (j := 34) (t := 2) (x := t_taken) d_X12_laysSix_17 kX12 (by decide) fl_X12_80 o_t.1 o_t.2.1 o_t.2.2.1 o_t.2.2.2 rfl f_t_taken ?_
  refine r_iconst (x := 0) d_X12_laysSix_20 ⟨by decide, by decide⟩ ?_
  refine x_iald d_X12_laysSix_21 h.1 ?_
  have h := h.2
  refine r_aload_n (x := t) d_X12_laysSix_22 rfl o_t.1 ?_
  refine r_getf (j := 34) (t := 2) (x := t_taken) d_X12_laysSix_23 kX12 (by decide) fl_X12_80 o_t.1 o_t.2.1 o_t.2.2.1 o_t.2.2.2 rfl f_t_taken ?_
  refine r_iconst (x := 2) d_X12_laysSix_26 ⟨by decide, by decide⟩ ?_
  refine x_iald d_X12_laysSix_27 h.1 ?_
  have h := h.2
  refine r_aload_n (x := t) d_X12_laysSix_28 rfl o_t.1 ?_
  refine r_getf (j := 34) (t := 2) (x := t_taken) d_X12_laysSix_29 kX12 (by decide) fl_X12_80 o_t.1 o_t.2.1 o_t.2.2.1 o_t.2.2.2 rfl f_t_taken ?_
  refine r_iconst (x := 3) d_X12_laysSix_32 ⟨by decide, by decide⟩ ?_
  refine x_iald d_X12_laysSix_33 h.1 ?_
  have h := h.2
  refine r_iconst (x := 1) d_X12_laysSix_34 ⟨by decide, by decide⟩ ?_
  refine x_callVV (Y2 := mX12_putsBracket) (c := t) (As := [(0, (σ3 t_taken 0)), (0, (σ3 t_taken 2)), (0, (σ3 t_taken 3)), (0, 1)]) (S := []) d_X12_laysSix_35 ok_mX12_putsBracket ml_X12_211 rfl (Nat.le_of_ble_eq_true rfl) (Nat.le_of_ble_eq_true rfl) rfl hd_1 kX12 o_t (CV.mono h (fun σ4 h => ?_))
  refine r_aload_n (x := t) d_X12_laysSix_38 rfl o_t.1 ?_
  refine r_aload_n (x := t) d_X12_laysSix_39 rfl o_t.1 ?_
  refine r_getf (j := 34) (t := 2) (x := t_taken) d_X12_laysSix_40 kX12 (by decide) fl_X12_80 o_t.1 o_t.2.1 o_t.2.2.1 o_t.2.2.2 rfl f_t_taken ?_
  refine r_iconst (x := 1) d_X12_laysSix_43 ⟨by decide, by decide⟩ ?_
  refine x_iald d_X12_laysSix_44 h.1 ?_
  have h := h.2
  refine r_aload_n (x := t) d_X12_laysSix_45 rfl o_t.1 ?_
  refine r_getf (j := 34) (t := 2) (x := t_taken) d_X12_laysSix_46 kX12 (by decide) fl_X12_80 o_t.1 o_t.2.1 o_t.2.2.1 o_t.2.2.2 rfl f_t_taken ?_
  refine r_iconst (x := 4) d_X12_laysSix_49 ⟨by decide, by decide⟩ ?_
  refine x_iald d_X12_laysSix_50 h.1 ?_
  have h := h.2
  refine r_aload_n (x := t) d_X12_laysSix_51 rfl o_t.1 ?_
  refine r_getf (j := 34) (t := 2) (x := t_taken) d_X12_laysSix_52 kX12 (by decide) fl_X12_80 o_t.1 o_t.2.1 o_t.2.2.1 o_t.2.2.2 rfl f_t_taken ?_
  refine r_iconst (x := 5) d_X12_laysSix_55 ⟨by decide, by decide⟩ ?_
  refine x_iald d_X12_laysSix_56 h.1 ?_
  have h := h.2
  refine r_iconst (x := 2) d_X12_laysSix_57 ⟨by decide, by decide⟩ ?_
  refine x_callVV (Y2 := mX12_putsBracket) (c := t) (As := [(0, (σ4 t_taken 1)), (0, (σ4 t_taken 4)), (0, (σ4 t_taken 5)), (0, 2)]) (S := []) d_X12_laysSix_58 ok_mX12_putsBracket ml_X12_211 rfl (Nat.le_of_ble_eq_true rfl) (Nat.le_of_ble_eq_true rfl) rfl hd_1 kX12 o_t (CV.mono h (fun σ5 h => ?_))
  refine r_aload_n (x := t) d_X12_laysSix_61 rfl o_t.1 ?_
  refine r_iconst (x := 1) d_X12_laysSix_62 ⟨by decide, by decide⟩ ?_
  refine r_iconst (x := 2) d_X12_laysSix_63 ⟨by decide, by decide⟩ ?_
  refine r_iconst (x := 1) d_X12_laysSix_64 ⟨by decide, by decide⟩ ?_
  refine r_iload_n (x := x1) d_X12_laysSix_65 rfl ?_
  refine x_callVV (Y2 := mX12_multiplies) (c := t) (As := [(0, 1), (0, 2), (0, 1), (0, x1)]) (S := []) d_X12_laysSix_66 ok_mX12_multiplies ml_X12_231 rfl (Nat.le_of_ble_eq_true rfl) (Nat.le_of_ble_eq_true rfl) rfl hd_1 kX12 o_t (CV.mono h (fun σ6 h => ?_))
  refine r_aload_n (x := t) d_X12_laysSix_69 rfl o_t.1 ?_
  refine r_iconst (x := 1) d_X12_laysSix_70 ⟨by decide, by decide⟩ ?_
  refine x_callVV (Y2 := mX12_empties) (c := t) (As := [(0, 1)]) (S := []) d_X12_laysSix_71 ok_mX12_empties ml_X12_105 rfl (Nat.le_of_ble_eq_true rfl) (Nat.le_of_ble_eq_true rfl) rfl hd_1 kX12 o_t (CV.mono h (fun σ7 h => ?_))
  refine r_aload_n (x := t) d_X12_laysSix_74 rfl o_t.1 ?_
  refine r_iconst (x := 2) d_X12_laysSix_75 ⟨by decide, by decide⟩ ?_
  refine x_callVV (Y2 := mX12_empties) (c := t) (As := [(0, 2)]) (S := []) d_X12_laysSix_76 ok_mX12_empties ml_X12_105 rfl (Nat.le_of_ble_eq_true rfl) (Nat.le_of_ble_eq_true rfl) rfl hd_1 kX12 o_t (CV.mono h (fun σ8 h => ?_))
  refine r_aload_n (x := t) d_X12_laysSix_79 rfl o_t.1 ?_
  refine r_aload_n (x := t) d_X12_laysSix_80 rfl o_t.1 ?_
  refine r_getf (j := 34) (t := 2) (x := t_taken) d_X12_laysSix_81 kX12 (by decide) fl_X12_80 o_t.1 o_t.2.1 o_t.2.2.1 o_t.2.2.2 rfl f_t_taken ?_
  refine r_iconst (x := 1) d_X12_laysSix_84 ⟨by decide, by decide⟩ ?_
  refine x_iald d_X12_laysSix_85 h.1 ?_
  have h := h.2
  refine r_aload_n (x := t) d_X12_laysSix_86 rfl o_t.1 ?_
  refine r_getf (j := 34) (t := 2) (x := t_taken) d_X12_laysSix_87 kX12 (by decide) fl_X12_80 o_t.1 o_t.2.1 o_t.2.2.1 o_t.2.2.2 rfl f_t_taken ?_
  refine r_iconst (x := 2) d_X12_laysSix_90 ⟨by decide, by decide⟩ ?_
  refine x_iald d_X12_laysSix_91 h.1 ?_
  have h := h.2
  refine r_aload_n (x := t) d_X12_laysSix_92 rfl o_t.1 ?_
  refine r_getf (j := 34) (t := 2) (x := t_taken) d_X12_laysSix_93 kX12 (by decide) fl_X12_80 o_t.1 o_t.2.1 o_t.2.2.1 o_t.2.2.2 rfl f_t_taken ?_
  refine r_iconst (x := 3) d_X12_laysSix_96 ⟨by decide, by decide⟩ ?_
  refine x_iald d_X12_laysSix_97 h.1 ?_
  have h := h.2
  refine r_iconst (x := 1) d_X12_laysSix_98 ⟨by decide, by decide⟩ ?_
  refine x_callVV (Y2 := mX12_putsBracket) (c := t) (As := [(0, (σ8 t_taken 1)), (0, (σ8 t_taken 2)), (0, (σ8 t_taken 3)), (0, 1)]) (S := []) d_X12_laysSix_99 ok_mX12_putsBracket ml_X12_211 rfl (Nat.le_of_ble_eq_true rfl) (Nat.le_of_ble_eq_true rfl) rfl hd_1 kX12 o_t (CV.mono h (fun σ9 h => ?_))
  refine r_aload_n (x := t) d_X12_laysSix_102 rfl o_t.1 ?_
  refine r_aload_n (x := t) d_X12_laysSix_103 rfl o_t.1 ?_
  refine r_getf (j := 34) (t := 2) (x := t_taken) d_X12_laysSix_104 kX12 (by decide) fl_X12_80 o_t.1 o_t.2.1 o_t.2.2.1 o_t.2.2.2 rfl f_t_taken ?_
  refine r_iconst (x := 0) d_X12_laysSix_107 ⟨by decide, by decide⟩ ?_
  refine x_iald d_X12_laysSix_108 h.1 ?_
  have h := h.2
  refine r_aload_n (x := t) d_X12_laysSix_109 rfl o_t.1 ?_
  refine r_getf (j := 34) (t := 2) (x := t_taken) d_X12_laysSix_110 kX12 (by decide) fl_X12_80 o_t.1 o_t.2.1 o_t.2.2.1 o_t.2.2.2 rfl f_t_taken ?_
  refine r_iconst (x := 4) d_X12_laysSix_113 ⟨by decide, by decide⟩ ?_
  refine x_iald d_X12_laysSix_114 h.1 ?_
  have h := h.2
  refine r_aload_n (x := t) d_X12_laysSix_115 rfl o_t.1 ?_
  refine r_getf (j := 34) (t := 2) (x := t_taken) d_X12_laysSix_116 kX12 (by decide) fl_X12_80 o_t.1 o_t.2.1 o_t.2.2.1 o_t.2.2.2 rfl f_t_taken ?_
  refine r_iconst (x := 5) d_X12_laysSix_119 ⟨by decide, by decide⟩ ?_
  refine x_iald d_X12_laysSix_120 h.1 ?_
  have h := h.2
  refine r_iconst (x := 2) d_X12_laysSix_121 ⟨by decide, by decide⟩ ?_
  refine x_callVV (Y2 := mX12_putsBracket) (c := t) (As := [(0, (σ9 t_taken 0)), (0, (σ9 t_taken 4)), (0, (σ9 t_taken 5)), (0, 2)]) (S := []) d_X12_laysSix_122 ok_mX12_putsBracket ml_X12_211 rfl (Nat.le_of_ble_eq_true rfl) (Nat.le_of_ble_eq_true rfl) rfl hd_1 kX12 o_t (CV.mono h (fun σ10 h => ?_))
  refine r_aload_n (x := t) d_X12_laysSix_125 rfl o_t.1 ?_
  refine r_iconst (x := 1) d_X12_laysSix_126 ⟨by decide, by decide⟩ ?_
  refine r_iconst (x := 2) d_X12_laysSix_127 ⟨by decide, by decide⟩ ?_
  refine r_iconst (x := (-1)) d_X12_laysSix_128 ⟨by decide, by decide⟩ ?_
  refine r_iload_n (x := x1) d_X12_laysSix_129 rfl ?_
  refine x_callVV (Y2 := mX12_multiplies) (c := t) (As := [(0, 1), (0, 2), (0, (-1)), (0, x1)]) (S := []) d_X12_laysSix_130 ok_mX12_multiplies ml_X12_231 rfl (Nat.le_of_ble_eq_true rfl) (Nat.le_of_ble_eq_true rfl) rfl hd_1 kX12 o_t (CV.mono h (fun σ11 h => ?_))
  refine r_aload_n (x := t) d_X12_laysSix_133 rfl o_t.1 ?_
  refine r_iload_n (x := x1) d_X12_laysSix_134 rfl ?_
  refine x_callVI (Y2 := mX12_straightens) (c := t) (As := [(0, x1)]) (S := []) d_X12_laysSix_135 ok_mX12_straightens ml_X12_241 rfl (Nat.le_of_ble_eq_true rfl) (Nat.le_of_ble_eq_true rfl) rfl hd_1 kX12 o_t (CI.mono h (fun v13 σ12 h => ?_))
  refine r_istore_n (L2 := [(2, t), (0, x1), (0, v13)]) d_X12_laysSix_138 (by decide) rfl rfl ?_
  exact r_vret d_X12_laysSix_139 rfl (Nat.le_refl 0) (Nat.le_refl 0) ⟨rfl, rfl, rfl, h⟩
theorem u_X12_multiple_0 {l : Launch} {d N : Nat} {Λ : Lay} {P : Int → Mem → Prop} {σ : Mem} {x1 x2 t : Int} (o_t : Ob N Λ t 21 36) (h0d : 1 ≤ d)
    (h : (CI l mX12_many (d - 1) [(2, t), (0, x1)] N Λ σ (fun v2 σ1 => ((v2 = 0 → P 0 σ1) ∧ (¬ (v2 = 0) → (CI l mX12_many (d - 1) [(2, t), (0, x1)] N Λ σ1 (fun v4 σ3 => (CI l mX12_many (d - 1) [(2, t), (0, x2)] N Λ σ3 (fun v6 σ5 => ((¬ v4 = v6 → P 0 σ5) ∧ (v4 = v6 → (CI l mX12_number (d - 1) [(2, t), (0, x1), (0, 0)] N Λ σ5 (fun v8 σ7 => (CI l mX12_number (d - 1) [(2, t), (0, x2), (0, 0)] N Λ σ7 (fun v10 σ9 => (¬ v10 = 0 ∧ (((remI v8 v10) = 0 → (CI l mX12_number (d - 1) [(2, t), (0, x1), (0, 0)] N Λ σ9 (fun v12 σ11 => (CI l mX12_number (d - 1) [(2, t), (0, x2), (0, 0)] N Λ σ11 (fun v14 σ13 => (¬ v14 = 0 ∧ (∀ y15, y15 = (divI v12 v14) → WI l mX12_multiple d P 56 [(2, t), (0, x1), (0, x2), (0, y15), (0, 0)] [] N Λ σ13))))))) ∧ (¬ ((remI v8 v10) = 0) → P 0 σ9)))))))))))))))))) :
    WI l mX12_multiple d P 0 [(2, t), (0, x1), (0, x2), (3, 0), (3, 0)] [] N Λ σ := by
  have hd_1 : 1 ≤ d := Nat.le_trans (by decide) h0d
  refine r_aload_n (x := t) d_X12_multiple_0 rfl o_t.1 ?_
  refine r_iload_n (x := x1) d_X12_multiple_1 rfl ?_
  refine x_callVI (Y2 := mX12_many) (c := t) (As := [(0, x1)]) (S := []) d_X12_multiple_2 ok_mX12_many ml_X12_113 rfl (Nat.le_of_ble_eq_true rfl) (Nat.le_of_ble_eq_true rfl) rfl hd_1 kX12 o_t (CI.mono h (fun v2 σ1 h => ?_))
  refine r_if_eq (tgt := 37) d_X12_multiple_5 rfl (fun hc => ?_) (fun hc => ?_)
  · have h := h.1 hc
    refine r_iconst (x := 0) d_X12_multiple_37 ⟨by decide, by decide⟩ ?_
    exact r_iret d_X12_multiple_38 rfl rfl (Nat.le_refl 0) (Nat.le_refl 0) ⟨_, rfl, rfl, rfl, h⟩
  · have h := h.2 hc
    refine r_aload_n (x := t) d_X12_multiple_8 rfl o_t.1 ?_
    refine r_iload_n (x := x1) d_X12_multiple_9 rfl ?_
    refine x_callVI (Y2 := mX12_many) (c := t) (As := [(0, x1)]) (S := []) d_X12_multiple_10 ok_mX12_many ml_X12_113 rfl (Nat.le_of_ble_eq_true rfl) (Nat.le_of_ble_eq_true rfl) rfl hd_1 kX12 o_t (CI.mono h (fun v4 σ3 h => ?_))
    refine r_aload_n (x := t) d_X12_multiple_13 rfl o_t.1 ?_
    refine r_iload_n (x := x2) d_X12_multiple_14 rfl ?_
    refine x_callVI (Y2 := mX12_many) (c := t) (As := [(0, x2)]) (S := [(0, v4)]) d_X12_multiple_15 ok_mX12_many ml_X12_113 rfl (Nat.le_of_ble_eq_true rfl) (Nat.le_of_ble_eq_true rfl) rfl hd_1 kX12 o_t (CI.mono h (fun v6 σ5 h => ?_))
    refine r_ic_ne (tgt := 37) d_X12_multiple_18 rfl (fun hc => ?_) (fun hc => ?_)
    · have h := h.1 hc
      refine r_iconst (x := 0) d_X12_multiple_37 ⟨by decide, by decide⟩ ?_
      exact r_iret d_X12_multiple_38 rfl rfl (Nat.le_refl 0) (Nat.le_refl 0) ⟨_, rfl, rfl, rfl, h⟩
    · have h := h.2 hc
      refine r_aload_n (x := t) d_X12_multiple_21 rfl o_t.1 ?_
      refine r_iload_n (x := x1) d_X12_multiple_22 rfl ?_
      refine r_iconst (x := 0) d_X12_multiple_23 ⟨by decide, by decide⟩ ?_
      refine x_callVI (Y2 := mX12_number) (c := t) (As := [(0, x1), (0, 0)]) (S := []) d_X12_multiple_24 ok_mX12_number ml_X12_132 rfl (Nat.le_of_ble_eq_true rfl) (Nat.le_of_ble_eq_true rfl) rfl hd_1 kX12 o_t (CI.mono h (fun v8 σ7 h => ?_))
      refine r_aload_n (x := t) d_X12_multiple_27 rfl o_t.1 ?_
      refine r_iload_n (x := x2) d_X12_multiple_28 rfl ?_
      refine r_iconst (x := 0) d_X12_multiple_29 ⟨by decide, by decide⟩ ?_
      refine x_callVI (Y2 := mX12_number) (c := t) (As := [(0, x2), (0, 0)]) (S := [(0, v8)]) d_X12_multiple_30 ok_mX12_number ml_X12_132 rfl (Nat.le_of_ble_eq_true rfl) (Nat.le_of_ble_eq_true rfl) rfl hd_1 kX12 o_t (CI.mono h (fun v10 σ9 h => ?_))
      refine r_irem d_X12_multiple_33 h.1 ?_
      have h := h.2
      refine r_if_eq (tgt := 39) d_X12_multiple_34 rfl (fun hc => ?_) (fun hc => ?_)
      · have h := h.1 hc
        refine r_aload_n (x := t) d_X12_multiple_39 rfl o_t.1 ?_
        refine r_iload_n (x := x1) d_X12_multiple_40 rfl ?_
        refine r_iconst (x := 0) d_X12_multiple_41 ⟨by decide, by decide⟩ ?_
        refine x_callVI (Y2 := mX12_number) (c := t) (As := [(0, x1), (0, 0)]) (S := []) d_X12_multiple_42 ok_mX12_number ml_X12_132 rfl (Nat.le_of_ble_eq_true rfl) (Nat.le_of_ble_eq_true rfl) rfl hd_1 kX12 o_t (CI.mono h (fun v12 σ11 h => ?_))
        refine r_aload_n (x := t) d_X12_multiple_45 rfl o_t.1 ?_
        refine r_iload_n (x := x2) d_X12_multiple_46 rfl ?_
        refine r_iconst (x := 0) d_X12_multiple_47 ⟨by decide, by decide⟩ ?_
        refine x_callVI (Y2 := mX12_number) (c := t) (As := [(0, x2), (0, 0)]) (S := [(0, v12)]) d_X12_multiple_48 ok_mX12_number ml_X12_132 rfl (Nat.le_of_ble_eq_true rfl) (Nat.le_of_ble_eq_true rfl) rfl hd_1 kX12 o_t (CI.mono h (fun v14 σ13 h => ?_))
        refine r_idiv d_X12_multiple_51 h.1 ?_
        have h := h.2
        refine r_nm (fun y15 ey15 => ?_)
        have h := h y15 ey15
        refine r_istore_n (L2 := [(2, t), (0, x1), (0, x2), (0, y15), (3, 0)]) d_X12_multiple_52 (by decide) rfl rfl ?_
        refine r_iconst (x := 0) d_X12_multiple_53 ⟨by decide, by decide⟩ ?_
        refine r_istore (L2 := [(2, t), (0, x1), (0, x2), (0, y15), (0, 0)]) d_X12_multiple_54 (by decide) rfl rfl ?_
        exact h
      · have h := h.2 hc
        refine r_iconst (x := 0) d_X12_multiple_37 ⟨by decide, by decide⟩ ?_
        exact r_iret d_X12_multiple_38 rfl rfl (Nat.le_refl 0) (Nat.le_refl 0) ⟨_, rfl, rfl, rfl, h⟩
theorem u_X12_multiple_56 {l : Launch} {d N : Nat} {Λ : Lay} {P : Int → Mem → Prop} {σ : Mem} {x1 x2 x3 x4 t : Int} (o_t : Ob N Λ t 21 36) (h0d : 1 ≤ d)
    (h : (CI l mX12_many (d - 1) [(2, t), (0, x1)] N Λ σ (fun v2 σ1 => ((v2 ≤ x4 → P x3 σ1) ∧ (¬ (v2 ≤ x4) → (CI l mX12_key (d - 1) [(2, t), (0, x1), (0, x4)] N Λ σ1 (fun v4 σ3 => (CI l mX12_key (d - 1) [(2, t), (0, x2), (0, x4)] N Λ σ3 (fun v6 σ5 => ((¬ v4 = v6 → P 0 σ5) ∧ (v4 = v6 → (CI l mX12_number (d - 1) [(2, t), (0, x1), (0, x4)] N Λ σ5 (fun v8 σ7 => (CI l mX12_number (d - 1) [(2, t), (0, x2), (0, x4)] N Λ σ7 (fun v10 σ9 => (((cmpL v8 (mulL x3 v10)) = 0 → (∀ y11, y11 = addI x4 1 → WI l mX12_multiple d P 56 [(2, t), (0, x1), (0, x2), (0, x3), (0, y11)] [] N Λ σ9)) ∧ (¬ ((cmpL v8 (mulL x3 v10)) = 0) → P 0 σ9))))))))))))))))) :
    WI l mX12_multiple d P 56 [(2, t), (0, x1), (0, x2), (0, x3), (0, x4)] [] N Λ σ := by
  have hd_1 : 1 ≤ d := Nat.le_trans (by decide) h0d
  refine r_iload (x := x4) d_X12_multiple_56 rfl ?_
  refine r_aload_n (x := t) d_X12_multiple_58 rfl o_t.1 ?_
  refine r_iload_n (x := x1) d_X12_multiple_59 rfl ?_
  refine x_callVI (Y2 := mX12_many) (c := t) (As := [(0, x1)]) (S := [(0, x4)]) d_X12_multiple_60 ok_mX12_many ml_X12_113 rfl (Nat.le_of_ble_eq_true rfl) (Nat.le_of_ble_eq_true rfl) rfl hd_1 kX12 o_t (CI.mono h (fun v2 σ1 h => ?_))
  refine r_ic_ge (tgt := 114) d_X12_multiple_63 rfl (fun hc => ?_) (fun hc => ?_)
  · have h := h.1 hc
    refine r_iload_n (x := x3) d_X12_multiple_114 rfl ?_
    exact r_iret d_X12_multiple_115 rfl rfl (Nat.le_refl 0) (Nat.le_refl 0) ⟨_, rfl, rfl, rfl, h⟩
  · have h := h.2 hc
    refine r_aload_n (x := t) d_X12_multiple_66 rfl o_t.1 ?_
    refine r_iload_n (x := x1) d_X12_multiple_67 rfl ?_
    refine r_iload (x := x4) d_X12_multiple_68 rfl ?_
    refine x_callVI (Y2 := mX12_key) (c := t) (As := [(0, x1), (0, x4)]) (S := []) d_X12_multiple_70 ok_mX12_key ml_X12_117 rfl (Nat.le_of_ble_eq_true rfl) (Nat.le_of_ble_eq_true rfl) rfl hd_1 kX12 o_t (CI.mono h (fun v4 σ3 h => ?_))
    refine r_aload_n (x := t) d_X12_multiple_73 rfl o_t.1 ?_
    refine r_iload_n (x := x2) d_X12_multiple_74 rfl ?_
    refine r_iload (x := x4) d_X12_multiple_75 rfl ?_
    refine x_callVI (Y2 := mX12_key) (c := t) (As := [(0, x2), (0, x4)]) (S := [(0, v4)]) d_X12_multiple_77 ok_mX12_key ml_X12_117 rfl (Nat.le_of_ble_eq_true rfl) (Nat.le_of_ble_eq_true rfl) rfl hd_1 kX12 o_t (CI.mono h (fun v6 σ5 h => ?_))
    refine r_ic_ne (tgt := 106) d_X12_multiple_80 rfl (fun hc => ?_) (fun hc => ?_)
    · have h := h.1 hc
      refine r_iconst (x := 0) d_X12_multiple_106 ⟨by decide, by decide⟩ ?_
      exact r_iret d_X12_multiple_107 rfl rfl (Nat.le_refl 0) (Nat.le_refl 0) ⟨_, rfl, rfl, rfl, h⟩
    · have h := h.2 hc
      refine r_aload_n (x := t) d_X12_multiple_83 rfl o_t.1 ?_
      refine r_iload_n (x := x1) d_X12_multiple_84 rfl ?_
      refine r_iload (x := x4) d_X12_multiple_85 rfl ?_
      refine x_callVI (Y2 := mX12_number) (c := t) (As := [(0, x1), (0, x4)]) (S := []) d_X12_multiple_87 ok_mX12_number ml_X12_132 rfl (Nat.le_of_ble_eq_true rfl) (Nat.le_of_ble_eq_true rfl) rfl hd_1 kX12 o_t (CI.mono h (fun v8 σ7 h => ?_))
      refine r_i2l d_X12_multiple_90 ?_
      refine r_iload_n (x := x3) d_X12_multiple_91 rfl ?_
      refine r_i2l d_X12_multiple_92 ?_
      refine r_aload_n (x := t) d_X12_multiple_93 rfl o_t.1 ?_
      refine r_iload_n (x := x2) d_X12_multiple_94 rfl ?_
      refine r_iload (x := x4) d_X12_multiple_95 rfl ?_
      refine x_callVI (Y2 := mX12_number) (c := t) (As := [(0, x2), (0, x4)]) (S := [(1, x3), (1, v8)]) d_X12_multiple_97 ok_mX12_number ml_X12_132 rfl (Nat.le_of_ble_eq_true rfl) (Nat.le_of_ble_eq_true rfl) rfl hd_1 kX12 o_t (CI.mono h (fun v10 σ9 h => ?_))
      refine r_i2l d_X12_multiple_100 ?_
      refine r_lmul d_X12_multiple_101 ?_
      refine r_lcmp d_X12_multiple_102 ?_
      refine r_if_eq (tgt := 108) d_X12_multiple_103 rfl (fun hc => ?_) (fun hc => ?_)
      · have h := h.1 hc
        refine x_iinc (x := x4) (L := [(2, t), (0, x1), (0, x2), (0, x3), (0, x4)]) d_X12_multiple_108 rfl (by decide) rfl (fun y11 ey11 => ?_)
        have h := h y11 ey11
        show WP _ _ _ _ _ _ _ _ [(2, t), (0, x1), (0, x2), (0, x3), (0, y11)] _ _ _ _
        refine r_goto (tgt := 56) d_X12_multiple_111 rfl ?_
        exact h
      · have h := h.2 hc
        refine r_iconst (x := 0) d_X12_multiple_106 ⟨by decide, by decide⟩ ?_
        exact r_iret d_X12_multiple_107 rfl rfl (Nat.le_refl 0) (Nat.le_refl 0) ⟨_, rfl, rfl, rfl, h⟩
theorem u_X12_isFound_0 {l : Launch} {d N : Nat} {Λ : Lay} {P : Int → Mem → Prop} {σ : Mem} {x1 x2 t t_found : Int} (o_t : Ob N Λ t 21 36) (f_t_found : (Λ t).2.2 35 = t_found) (h0d : 1 ≤ d)
    (h : ((¬ x1 = 6 → WI l mX12_isFound d P 70 [(2, t), (0, x1), (0, x2), (0, 0)] [] N Λ σ) ∧ (x1 = 6 → (CV l mX12_laysSix (d - 1) [(2, t), (0, 4)] N Λ σ (fun σ1 => (CI l mX12_multiple (d - 1) [(2, t), (0, 3), (0, 4)] N Λ σ1 (fun v3 σ2 => (Ix N Λ t_found 0 0 ∧ (∀ τ4, τ4 = st σ2 t_found 0 v3 → WI l mX12_isFound d P 25 [(2, t), (0, x1), (0, x2), (0, 0)] [] N Λ τ4))))))))) :
    WI l mX12_isFound d P 0 [(2, t), (0, x1), (0, x2), (3, 0)] [] N Λ σ := by
  have hd_1 : 1 ≤ d := Nat.le_trans (by decide) h0d
  refine r_iload_n (x := x1) d_X12_isFound_0 rfl ?_
  refine r_bipush (x := 6) d_X12_isFound_1 ⟨by decide, by decide⟩ (by decide) ?_
  refine r_ic_ne (tgt := 68) d_X12_isFound_3 rfl (fun hc => ?_) (fun hc => ?_)
  · have h := h.1 hc
    refine r_iconst (x := 0) d_X12_isFound_68 ⟨by decide, by decide⟩ ?_
    refine r_istore_n (L2 := [(2, t), (0, x1), (0, x2), (0, 0)]) d_X12_isFound_69 (by decide) rfl rfl ?_
    exact h
  · have h := h.2 hc
    refine r_aload_n (x := t) d_X12_isFound_6 rfl o_t.1 ?_
    refine r_iconst (x := 4) d_X12_isFound_7 ⟨by decide, by decide⟩ ?_
    refine x_callVV (Y2 := mX12_laysSix) (c := t) (As := [(0, 4)]) (S := []) d_X12_isFound_8 ok_mX12_laysSix ml_X12_398 rfl (Nat.le_of_ble_eq_true rfl) (Nat.le_of_ble_eq_true rfl) rfl hd_1 kX12 o_t (CV.mono h (fun σ1 h => ?_))
    refine r_aload_n (x := t) d_X12_isFound_11 rfl o_t.1 ?_
    refine r_getf (j := 35) (t := 2) (x := t_found) d_X12_isFound_12 kX12 (by decide) fl_X12_83 o_t.1 o_t.2.1 o_t.2.2.1 o_t.2.2.2 rfl f_t_found ?_
    refine r_iconst (x := 0) d_X12_isFound_15 ⟨by decide, by decide⟩ ?_
    refine r_aload_n (x := t) d_X12_isFound_16 rfl o_t.1 ?_
    refine r_iconst (x := 3) d_X12_isFound_17 ⟨by decide, by decide⟩ ?_
    refine r_iconst (x := 4) d_X12_isFound_18 ⟨by decide, by decide⟩ ?_
    refine x_callVI (Y2 := mX12_multiple) (c := t) (As := [(0, 3), (0, 4)]) (S := [(0, 0), (2, t_found)]) d_X12_isFound_19 ok_mX12_multiple ml_X12_401 rfl (Nat.le_of_ble_eq_true rfl) (Nat.le_of_ble_eq_true rfl) rfl hd_1 kX12 o_t (CI.mono h (fun v3 σ2 h => ?_))
    refine x_iast d_X12_isFound_22 h.1 ?_
    have h := h.2
    refine r_nmM (fun τ4 eτ4 => ?_)
    have h := h τ4 eτ4
    refine r_iconst (x := 0) d_X12_isFound_23 ⟨by decide, by decide⟩ ?_
    refine r_istore_n (L2 := [(2, t), (0, x1), (0, x2), (0, 0)]) d_X12_isFound_24 (by decide) rfl rfl ?_
    exact h
theorem u_X12_isFound_25 {l : Launch} {d N : Nat} {Λ : Lay} {P : Int → Mem → Prop} {σ : Mem} {x1 x2 x3 t t_found t_taken : Int} (o_t : Ob N Λ t 21 36) (f_t_found : (Λ t).2.2 35 = t_found) (f_t_taken : (Λ t).2.2 34 = t_taken)
    (h : ((6 ≤ x3 → (Ix N Λ t_found 0 0 ∧ (((σ t_found 0) = 0 → P 0 σ) ∧ (¬ ((σ t_found 0) = 0) → P 1 σ)))) ∧ (¬ (6 ≤ x3) → (Ix N Λ t_taken 0 x3 ∧ (Ix N Λ t_found 0 (addI x3 1) ∧ (∀ τ1, τ1 = st σ t_found (addI x3 1) (addI (σ t_taken x3) 1) → (∀ y2, y2 = addI x3 1 → WI l mX12_isFound d P 25 [(2, t), (0, x1), (0, x2), (0, y2)] [] N Λ τ1))))))) :
    WI l mX12_isFound d P 25 [(2, t), (0, x1), (0, x2), (0, x3)] [] N Λ σ := by
  refine r_iload_n (x := x3) d_X12_isFound_25 rfl ?_
  refine r_bipush (x := 6) d_X12_isFound_26 ⟨by decide, by decide⟩ (by decide) ?_
  refine r_ic_ge (tgt := 53) d_X12_isFound_28 rfl (fun hc => ?_) (fun hc => ?_)
  · have h := h.1 hc
    refine r_aload_n (x := t) d_X12_isFound_53 rfl o_t.1 ?_
    refine r_getf (j := 35) (t := 2) (x := t_found) d_X12_isFound_54 kX12 (by decide) fl_X12_83 o_t.1 o_t.2.1 o_t.2.2.1 o_t.2.2.2 rfl f_t_found ?_
    refine r_iconst (x := 0) d_X12_isFound_57 ⟨by decide, by decide⟩ ?_
    refine x_iald d_X12_isFound_58 h.1 ?_
    have h := h.2
    refine r_if_eq (tgt := 66) d_X12_isFound_59 rfl (fun hc => ?_) (fun hc => ?_)
    · have h := h.1 hc
      refine r_iconst (x := 0) d_X12_isFound_66 ⟨by decide, by decide⟩ ?_
      exact r_iret d_X12_isFound_67 rfl (by decide) (Nat.le_refl 0) (Nat.le_refl 0) ⟨_, rfl, rfl, rfl, h⟩
    · have h := h.2 hc
      refine r_iconst (x := 1) d_X12_isFound_62 ⟨by decide, by decide⟩ ?_
      refine r_goto (tgt := 67) d_X12_isFound_63 rfl ?_
      exact r_iret d_X12_isFound_67 rfl (by decide) (Nat.le_refl 0) (Nat.le_refl 0) ⟨_, rfl, rfl, rfl, h⟩
  · have h := h.2 hc
    refine r_aload_n (x := t) d_X12_isFound_31 rfl o_t.1 ?_
    refine r_getf (j := 35) (t := 2) (x := t_found) d_X12_isFound_32 kX12 (by decide) fl_X12_83 o_t.1 o_t.2.1 o_t.2.2.1 o_t.2.2.2 rfl f_t_found ?_
    refine r_iload_n (x := x3) d_X12_isFound_35 rfl ?_
    refine r_iconst (x := 1) d_X12_isFound_36 ⟨by decide, by decide⟩ ?_
    refine r_iadd d_X12_isFound_37 ?_
    refine r_aload_n (x := t) d_X12_isFound_38 rfl o_t.1 ?_
    refine r_getf (j := 34) (t := 2) (x := t_taken) d_X12_isFound_39 kX12 (by decide) fl_X12_80 o_t.1 o_t.2.1 o_t.2.2.1 o_t.2.2.2 rfl f_t_taken ?_
    refine r_iload_n (x := x3) d_X12_isFound_42 rfl ?_
    refine x_iald d_X12_isFound_43 h.1 ?_
    have h := h.2
    refine r_iconst (x := 1) d_X12_isFound_44 ⟨by decide, by decide⟩ ?_
    refine r_iadd d_X12_isFound_45 ?_
    refine x_iast d_X12_isFound_46 h.1 ?_
    have h := h.2
    refine r_nmM (fun τ1 eτ1 => ?_)
    have h := h τ1 eτ1
    refine x_iinc (x := x3) (L := [(2, t), (0, x1), (0, x2), (0, x3)]) d_X12_isFound_47 rfl (by decide) rfl (fun y2 ey2 => ?_)
    have h := h y2 ey2
    show WP _ _ _ _ _ _ _ _ [(2, t), (0, x1), (0, x2), (0, y2)] _ _ _ _
    refine r_goto (tgt := 25) d_X12_isFound_50 rfl ?_
    exact h
theorem u_X12_isFound_70 {l : Launch} {d N : Nat} {Λ : Lay} {P : Int → Mem → Prop} {σ : Mem} {x1 x2 x3 t t_six t_taken : Int} (o_t : Ob N Λ t 21 36) (f_t_taken : (Λ t).2.2 34 = t_taken) (f_t_six : (Λ t).2.2 33 = t_six) (h0d : 1 ≤ d)
    (h : ((6 ≤ x3 → P 0 σ) ∧ (¬ (6 ≤ x3) → ((¬ (andI (shrI x2 x3) 1) = 1 → (Ix N Λ t_six 0 x3 ∧ (Ix N Λ t_taken 0 x1 ∧ (∀ τ1, τ1 = st σ t_taken x1 (σ t_six x3) → (CI l mX12_isFound (d - 1) [(2, t), (0, (addI x1 1)), (0, (orI x2 (shlI 1 x3)))] N Λ τ1 (fun v3 σ2 => ((v3 = 0 → (∀ y4, y4 = addI x3 1 → WI l mX12_isFound d P 70 [(2, t), (0, x1), (0, x2), (0, y4)] [] N Λ σ2)) ∧ (¬ (v3 = 0) → P 1 σ2)))))))) ∧ ((andI (shrI x2 x3) 1) = 1 → (∀ y5, y5 = addI x3 1 → WI l mX12_isFound d P 70 [(2, t), (0, x1), (0, x2), (0, y5)] [] N Λ σ)))))) :
    WI l mX12_isFound d P 70 [(2, t), (0, x1), (0, x2), (0, x3)] [] N Λ σ := by
  have hd_1 : 1 ≤ d := Nat.le_trans (by decide) h0d
  refine r_iload_n (x := x3) d_X12_isFound_70 rfl ?_
  refine r_bipush (x := 6) d_X12_isFound_71 ⟨by decide, by decide⟩ (by decide) ?_
  refine r_ic_ge (tgt := 123) d_X12_isFound_73 rfl (fun hc => ?_) (fun hc => ?_)
  · have h := h.1 hc
    refine r_iconst (x := 0) d_X12_isFound_123 ⟨by decide, by decide⟩ ?_
    exact r_iret d_X12_isFound_124 rfl (by decide) (Nat.le_refl 0) (Nat.le_refl 0) ⟨_, rfl, rfl, rfl, h⟩
  · have h := h.2 hc
    refine r_iload_n (x := x2) d_X12_isFound_76 rfl ?_
    refine r_iload_n (x := x3) d_X12_isFound_77 rfl ?_
    refine r_ishr d_X12_isFound_78 ?_
    refine r_iconst (x := 1) d_X12_isFound_79 ⟨by decide, by decide⟩ ?_
    refine r_iand d_X12_isFound_80 ?_
    refine r_iconst (x := 1) d_X12_isFound_81 ⟨by decide, by decide⟩ ?_
    refine r_ic_ne (tgt := 88) d_X12_isFound_82 rfl (fun hc => ?_) (fun hc => ?_)
    · have h := h.1 hc
      refine r_aload_n (x := t) d_X12_isFound_88 rfl o_t.1 ?_
      refine r_getf (j := 34) (t := 2) (x := t_taken) d_X12_isFound_89 kX12 (by decide) fl_X12_80 o_t.1 o_t.2.1 o_t.2.2.1 o_t.2.2.2 rfl f_t_taken ?_
      refine r_iload_n (x := x1) d_X12_isFound_92 rfl ?_
      refine r_aload_n (x := t) d_X12_isFound_93 rfl o_t.1 ?_
      refine r_getf (j := 33) (t := 2) (x := t_six) d_X12_isFound_94 kX12 (by decide) fl_X12_77 o_t.1 o_t.2.1 o_t.2.2.1 o_t.2.2.2 rfl f_t_six ?_
      refine r_iload_n (x := x3) d_X12_isFound_97 rfl ?_
      refine x_iald d_X12_isFound_98 h.1 ?_
      have h := h.2
      refine x_iast d_X12_isFound_99 h.1 ?_
      have h := h.2
      refine r_nmM (fun τ1 eτ1 => ?_)
      have h := h τ1 eτ1
      refine r_aload_n (x := t) d_X12_isFound_100 rfl o_t.1 ?_
      refine r_iload_n (x := x1) d_X12_isFound_101 rfl ?_
      refine r_iconst (x := 1) d_X12_isFound_102 ⟨by decide, by decide⟩ ?_
      refine r_iadd d_X12_isFound_103 ?_
      refine r_iload_n (x := x2) d_X12_isFound_104 rfl ?_
      refine r_iconst (x := 1) d_X12_isFound_105 ⟨by decide, by decide⟩ ?_
      refine r_iload_n (x := x3) d_X12_isFound_106 rfl ?_
      refine r_ishl d_X12_isFound_107 ?_
      refine r_ior d_X12_isFound_108 ?_
      refine x_callVI (Y2 := mX12_isFound) (c := t) (As := [(0, (addI x1 1)), (0, (orI x2 (shlI 1 x3)))]) (S := []) d_X12_isFound_109 ok_mX12_isFound ml_X12_404 rfl (Nat.le_of_ble_eq_true rfl) (Nat.le_of_ble_eq_true rfl) rfl hd_1 kX12 o_t (CI.mono h (fun v3 σ2 h => ?_))
      refine r_if_eq (tgt := 117) d_X12_isFound_112 rfl (fun hc => ?_) (fun hc => ?_)
      · have h := h.1 hc
        refine x_iinc (x := x3) (L := [(2, t), (0, x1), (0, x2), (0, x3)]) d_X12_isFound_117 rfl (by decide) rfl (fun y4 ey4 => ?_)
        have h := h y4 ey4
        show WP _ _ _ _ _ _ _ _ [(2, t), (0, x1), (0, x2), (0, y4)] _ _ _ _
        refine r_goto (tgt := 70) d_X12_isFound_120 rfl ?_
        exact h
      · have h := h.2 hc
        refine r_iconst (x := 1) d_X12_isFound_115 ⟨by decide, by decide⟩ ?_
        exact r_iret d_X12_isFound_116 rfl (by decide) (Nat.le_refl 0) (Nat.le_refl 0) ⟨_, rfl, rfl, rfl, h⟩
    · have h := h.2 hc
      refine r_goto (tgt := 117) d_X12_isFound_85 rfl ?_
      refine x_iinc (x := x3) (L := [(2, t), (0, x1), (0, x2), (0, x3)]) d_X12_isFound_117 rfl (by decide) rfl (fun y5 ey5 => ?_)
      have h := h y5 ey5
      show WP _ _ _ _ _ _ _ _ [(2, t), (0, x1), (0, x2), (0, y5)] _ _ _ _
      refine r_goto (tgt := 70) d_X12_isFound_120 rfl ?_
      exact h
theorem u_X12_facts_0 {l : Launch} {d N : Nat} {Λ : Lay} {P : Int → Mem → Prop} {σ : Mem} {x1 t : Int}
    (h : WI l mX12_facts d P 4 [(2, t), (0, x1), (0, 0), (0, 1)] [] N Λ σ) :
    WI l mX12_facts d P 0 [(2, t), (0, x1), (3, 0), (3, 0)] [] N Λ σ := by
  refine r_iconst (x := 0) d_X12_facts_0 ⟨by decide, by decide⟩ ?_
  refine r_istore_n (L2 := [(2, t), (0, x1), (0, 0), (3, 0)]) d_X12_facts_1 (by decide) rfl rfl ?_
  refine r_iconst (x := 1) d_X12_facts_2 ⟨by decide, by decide⟩ ?_
  refine r_istore_n (L2 := [(2, t), (0, x1), (0, 0), (0, 1)]) d_X12_facts_3 (by decide) rfl rfl ?_
  exact h
theorem u_X12_facts_4 {l : Launch} {d N : Nat} {Λ : Lay} {P : Int → Mem → Prop} {σ : Mem} {x1 x2 x3 t : Int} (o_t : Ob N Λ t 21 36) (h0d : 1 ≤ d)
    (h : ((120 < x3 → P x2 σ) ∧ (¬ (120 < x3) → (CI l mX12_factOf (d - 1) [(2, t), (0, x3)] N Λ σ (fun v2 σ1 => ((¬ v2 = x1 → (∀ y3, y3 = (addI x2 0) → (∀ y4, y4 = addI x3 1 → WI l mX12_facts d P 4 [(2, t), (0, x1), (0, y3), (0, y4)] [] N Λ σ1))) ∧ (v2 = x1 → (∀ y5, y5 = (addI x2 1) → (∀ y6, y6 = addI x3 1 → WI l mX12_facts d P 4 [(2, t), (0, x1), (0, y5), (0, y6)] [] N Λ σ1))))))))) :
    WI l mX12_facts d P 4 [(2, t), (0, x1), (0, x2), (0, x3)] [] N Λ σ := by
  have hd_1 : 1 ≤ d := Nat.le_trans (by decide) h0d
  refine r_iload_n (x := x3) d_X12_facts_4 rfl ?_
  refine r_bipush (x := 120) d_X12_facts_5 ⟨by decide, by decide⟩ (by decide) ?_
  refine r_ic_gt (tgt := 33) d_X12_facts_7 rfl (fun hc => ?_) (fun hc => ?_)
  · have h := h.1 hc
    refine r_iload_n (x := x2) d_X12_facts_33 rfl ?_
    exact r_iret d_X12_facts_34 rfl rfl (Nat.le_refl 0) (Nat.le_refl 0) ⟨_, rfl, rfl, rfl, h⟩
  · have h := h.2 hc
    refine r_iload_n (x := x2) d_X12_facts_10 rfl ?_
    refine r_aload_n (x := t) d_X12_facts_11 rfl o_t.1 ?_
    refine r_iload_n (x := x3) d_X12_facts_12 rfl ?_
    refine x_callVI (Y2 := mX12_factOf) (c := t) (As := [(0, x3)]) (S := [(0, x2)]) d_X12_facts_13 ok_mX12_factOf ml_X12_244 rfl (Nat.le_of_ble_eq_true rfl) (Nat.le_of_ble_eq_true rfl) rfl hd_1 kX12 o_t (CI.mono h (fun v2 σ1 h => ?_))
    refine r_iload_n (x := x1) d_X12_facts_16 rfl ?_
    refine r_ic_ne (tgt := 24) d_X12_facts_17 rfl (fun hc => ?_) (fun hc => ?_)
    · have h := h.1 hc
      refine r_iconst (x := 0) d_X12_facts_24 ⟨by decide, by decide⟩ ?_
      refine r_iadd d_X12_facts_25 ?_
      refine r_nm (fun y3 ey3 => ?_)
      have h := h y3 ey3
      refine r_istore_n (L2 := [(2, t), (0, x1), (0, y3), (0, x3)]) d_X12_facts_26 (by decide) rfl rfl ?_
      refine x_iinc (x := x3) (L := [(2, t), (0, x1), (0, y3), (0, x3)]) d_X12_facts_27 rfl (by decide) rfl (fun y4 ey4 => ?_)
      have h := h y4 ey4
      show WP _ _ _ _ _ _ _ _ [(2, t), (0, x1), (0, y3), (0, y4)] _ _ _ _
      refine r_goto (tgt := 4) d_X12_facts_30 rfl ?_
      exact h
    · have h := h.2 hc
      refine r_iconst (x := 1) d_X12_facts_20 ⟨by decide, by decide⟩ ?_
      refine r_goto (tgt := 25) d_X12_facts_21 rfl ?_
      refine r_iadd d_X12_facts_25 ?_
      refine r_nm (fun y5 ey5 => ?_)
      have h := h y5 ey5
      refine r_istore_n (L2 := [(2, t), (0, x1), (0, y5), (0, x3)]) d_X12_facts_26 (by decide) rfl rfl ?_
      refine x_iinc (x := x3) (L := [(2, t), (0, x1), (0, y5), (0, x3)]) d_X12_facts_27 rfl (by decide) rfl (fun y6 ey6 => ?_)
      have h := h y6 ey6
      show WP _ _ _ _ _ _ _ _ [(2, t), (0, x1), (0, y5), (0, y6)] _ _ _ _
      refine r_goto (tgt := 4) d_X12_facts_30 rfl ?_
      exact h
