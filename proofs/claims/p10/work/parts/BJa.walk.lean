theorem u_X12_feed_0 {l : Launch} {d N : Nat} {Λ : Lay} {P : Int → Mem → Prop} {σ : Mem} {x1 x2 x3 x4 x5 t : Int} (o_t : Ob N Λ t 21 36)
    (h : (∀ τ1, τ1 = st σ t 0 0 → (((addI (τ1 t 19) 20) ≤ 300 → WI l mX12_feed d P 24 [(2, t), (0, x1), (0, x2), (0, x3), (0, x4), (0, x5), (0, 0), (3, 0)] [] N Λ τ1) ∧ (¬ ((addI (τ1 t 19) 20) ≤ 300) → P (-4) τ1)))) :
    WI l mX12_feed d P 0 [(2, t), (0, x1), (0, x2), (0, x3), (0, x4), (0, x5), (3, 0), (3, 0)] [] N Λ σ := by
  refine r_aload_n (x := t) d_X12_feed_0 rfl o_t.1 ?_
  refine r_iconst (x := 0) d_X12_feed_1 ⟨by decide, by decide⟩ ?_
  refine r_putI (j := 0) d_X12_feed_2 kX12 (by decide) fl_X12_1 rfl o_t.1 o_t.2.1 o_t.2.2.1 o_t.2.2.2 rfl ?_
  refine r_nmM (fun τ1 eτ1 => ?_)
  have h := h τ1 eτ1
  refine r_aload_n (x := t) d_X12_feed_5 rfl o_t.1 ?_
  refine r_getf (j := 19) (t := 0) (x := (τ1 t 19)) d_X12_feed_6 kX12 (by decide) fl_X12_252 o_t.1 o_t.2.1 o_t.2.2.1 o_t.2.2.2 rfl rfl ?_
  refine r_bipush (x := 20) d_X12_feed_9 ⟨by decide, by decide⟩ (by decide) ?_
  refine r_iadd d_X12_feed_11 ?_
  refine r_sipush (x := 300) d_X12_feed_12 ⟨by decide, by decide⟩ (by decide) ?_
  refine r_ic_le (tgt := 21) d_X12_feed_15 rfl (fun hc => ?_) (fun hc => ?_)
  · have h := h.1 hc
    refine r_iconst (x := 0) d_X12_feed_21 ⟨by decide, by decide⟩ ?_
    refine r_istore (L2 := [(2, t), (0, x1), (0, x2), (0, x3), (0, x4), (0, x5), (0, 0), (3, 0)]) d_X12_feed_22 (by decide) rfl rfl ?_
    exact h
  · have h := h.2 hc
    refine r_bipush (x := (-4)) d_X12_feed_18 ⟨by decide, by decide⟩ (by decide) ?_
    exact r_iret d_X12_feed_20 rfl rfl (Nat.le_refl 0) (Nat.le_refl 0) ⟨_, rfl, rfl, rfl, h⟩
theorem u_X12_feed_24 {l : Launch} {d N : Nat} {Λ : Lay} {P : Int → Mem → Prop} {σ : Mem} {x1 x2 x3 x4 x5 x6 t t_tape : Int} (o_t : Ob N Λ t 21 36) (f_t_tape : (Λ t).2.2 18 = t_tape)
    (h : ((20 ≤ x6 → P (σ t 19) σ) ∧ (¬ (20 ≤ x6) → ((4 ≤ x6 → ((8 ≤ x6 → ((12 ≤ x6 → ((16 ≤ x6 → (Ix N Λ t_tape 6 (σ t 19) ∧ (narrow .byte (.int (Int32.ofInt (i2bI (shrI x5 (subI 24 (mulI 8 (remI x6 4))))))) = .int (Int32.ofInt (i2bI (shrI x5 (subI 24 (mulI 8 (remI x6 4)))))) ∧ (∀ τ1, τ1 = st σ t_tape (σ t 19) (i2bI (shrI x5 (subI 24 (mulI 8 (remI x6 4))))) → (∀ τ2, τ2 = st τ1 t 19 (addI (τ1 t 19) 1) → (∀ y3, y3 = addI x6 1 → WI l mX12_feed d P 24 [(2, t), (0, x1), (0, x2), (0, x3), (0, x4), (0, x5), (0, y3), (3, 0)] [] N Λ τ2)))))) ∧ (¬ (16 ≤ x6) → (Ix N Λ t_tape 6 (σ t 19) ∧ (narrow .byte (.int (Int32.ofInt (i2bI (shrI x4 (subI 24 (mulI 8 (remI x6 4))))))) = .int (Int32.ofInt (i2bI (shrI x4 (subI 24 (mulI 8 (remI x6 4)))))) ∧ (∀ τ4, τ4 = st σ t_tape (σ t 19) (i2bI (shrI x4 (subI 24 (mulI 8 (remI x6 4))))) → (∀ τ5, τ5 = st τ4 t 19 (addI (τ4 t 19) 1) → (∀ y6, y6 = addI x6 1 → WI l mX12_feed d P 24 [(2, t), (0, x1), (0, x2), (0, x3), (0, x4), (0, x5), (0, y6), (3, 0)] [] N Λ τ5)))))))) ∧ (¬ (12 ≤ x6) → (Ix N Λ t_tape 6 (σ t 19) ∧ (narrow .byte (.int (Int32.ofInt (i2bI (shrI x3 (subI 24 (mulI 8 (remI x6 4))))))) = .int (Int32.ofInt (i2bI (shrI x3 (subI 24 (mulI 8 (remI x6 4)))))) ∧ (∀ τ7, τ7 = st σ t_tape (σ t 19) (i2bI (shrI x3 (subI 24 (mulI 8 (remI x6 4))))) → (∀ τ8, τ8 = st τ7 t 19 (addI (τ7 t 19) 1) → (∀ y9, y9 = addI x6 1 → WI l mX12_feed d P 24 [(2, t), (0, x1), (0, x2), (0, x3), (0, x4), (0, x5), (0, y9), (3, 0)] [] N Λ τ8)))))))) ∧ (¬ (8 ≤ x6) → (Ix N Λ t_tape 6 (σ t 19) ∧ (narrow .byte (.int (Int32.ofInt (i2bI (shrI x2 (subI 24 (mulI 8 (remI x6 4))))))) = .int (Int32.ofInt (i2bI (shrI x2 (subI 24 (mulI 8 (remI x6 4)))))) ∧ (∀ τ10, τ10 = st σ t_tape (σ t 19) (i2bI (shrI x2 (subI 24 (mulI 8 (remI x6 4))))) → (∀ τ11, τ11 = st τ10 t 19 (addI (τ10 t 19) 1) → (∀ y12, y12 = addI x6 1 → WI l mX12_feed d P 24 [(2, t), (0, x1), (0, x2), (0, x3), (0, x4), (0, x5), (0, y12), (3, 0)] [] N Λ τ11)))))))) ∧ (¬ (4 ≤ x6) → (Ix N Λ t_tape 6 (σ t 19) ∧ (narrow .byte (.int (Int32.ofInt (i2bI (shrI x1 (subI 24 (mulI 8 (remI x6 4))))))) = .int (Int32.ofInt (i2bI (shrI x1 (subI 24 (mulI 8 (remI x6 4)))))) ∧ (∀ τ13, τ13 = st σ t_tape (σ t 19) (i2bI (shrI x1 (subI 24 (mulI 8 (remI x6 4))))) → (∀ τ14, τ14 = st τ13 t 19 (addI (τ13 t 19) 1) → (∀ y15, y15 = addI x6 1 → WI l mX12_feed d P 24 [(2, t), (0, x1), (0, x2), (0, x3), (0, x4), (0, x5), (0, y15), (3, 0)] [] N Λ τ14)))))))))) :
    WI l mX12_feed d P 24 [(2, t), (0, x1), (0, x2), (0, x3), (0, x4), (0, x5), (0, x6), (3, 0)] [] N Λ σ := by
  refine r_iload (x := x6) d_X12_feed_24 rfl ?_
  refine r_bipush (x := 20) d_X12_feed_26 ⟨by decide, by decide⟩ (by decide) ?_
  refine r_ic_ge (tgt := 118) d_X12_feed_28 rfl (fun hc => ?_) (fun hc => ?_)
  · have h := h.1 hc
    refine r_aload_n (x := t) d_X12_feed_118 rfl o_t.1 ?_
    refine r_getf (j := 19) (t := 0) (x := (σ t 19)) d_X12_feed_119 kX12 (by decide) fl_X12_252 o_t.1 o_t.2.1 o_t.2.2.1 o_t.2.2.2 rfl rfl ?_
    exact r_iret d_X12_feed_122 rfl rfl (Nat.le_refl 0) (Nat.le_refl 0) ⟨_, rfl, rfl, rfl, h⟩
  · have h := h.2 hc
    refine r_iload (x := x6) d_X12_feed_31 rfl ?_
    refine r_iconst (x := 4) d_X12_feed_33 ⟨by decide, by decide⟩ ?_
    refine r_ic_ge (tgt := 41) d_X12_feed_34 rfl (fun hc => ?_) (fun hc => ?_)
    · have h := h.1 hc
      refine r_iload (x := x6) d_X12_feed_41 rfl ?_
      refine r_bipush (x := 8) d_X12_feed_43 ⟨by decide, by decide⟩ (by decide) ?_
      refine r_ic_ge (tgt := 52) d_X12_feed_45 rfl (fun hc => ?_) (fun hc => ?_)
      · have h := h.1 hc
        refine r_iload (x := x6) d_X12_feed_52 rfl ?_
        refine r_bipush (x := 12) d_X12_feed_54 ⟨by decide, by decide⟩ (by decide) ?_
        refine r_ic_ge (tgt := 63) d_X12_feed_56 rfl (fun hc => ?_) (fun hc => ?_)
        · have h := h.1 hc
          refine r_iload (x := x6) d_X12_feed_63 rfl ?_
          refine r_bipush (x := 16) d_X12_feed_65 ⟨by decide, by decide⟩ (by decide) ?_
          refine r_ic_ge (tgt := 75) d_X12_feed_67 rfl (fun hc => ?_) (fun hc => ?_)
          · have h := h.1 hc
            refine r_iload (x := x5) d_X12_feed_75 rfl ?_
            refine r_istore (L2 := [(2, t), (0, x1), (0, x2), (0, x3), (0, x4), (0, x5), (0, x6), (0, x5)]) d_X12_feed_77 (by decide) rfl rfl ?_
            refine r_aload_n (x := t) d_X12_feed_79 rfl o_t.1 ?_
            refine r_getf (j := 18) (t := 2) (x := t_tape) d_X12_feed_80 kX12 (by decide) fl_X12_57 o_t.1 o_t.2.1 o_t.2.2.1 o_t.2.2.2 rfl f_t_tape ?_
            refine r_aload_n (x := t) d_X12_feed_83 rfl o_t.1 ?_
            refine r_getf (j := 19) (t := 0) (x := (σ t 19)) d_X12_feed_84 kX12 (by decide) fl_X12_252 o_t.1 o_t.2.1 o_t.2.2.1 o_t.2.2.2 rfl rfl ?_
            refine r_iload (x := x5) d_X12_feed_87 rfl ?_
            refine r_bipush (x := 24) d_X12_feed_89 ⟨by decide, by decide⟩ (by decide) ?_
            refine r_bipush (x := 8) d_X12_feed_91 ⟨by decide, by decide⟩ (by decide) ?_
            refine r_iload (x := x6) d_X12_feed_93 rfl ?_
            refine r_iconst (x := 4) d_X12_feed_95 ⟨by decide, by decide⟩ ?_
            refine r_irem d_X12_feed_96 (by decide) ?_
            refine r_imul d_X12_feed_97 ?_
            refine r_isub d_X12_feed_98 ?_
            refine r_ishr d_X12_feed_99 ?_
            refine r_i2b d_X12_feed_100 ?_
            refine x_bast d_X12_feed_101 h.1 h.2.1 ?_
            have h := h.2.2
            refine r_nmM (fun τ1 eτ1 => ?_)
            have h := h τ1 eτ1
            refine r_aload_n (x := t) d_X12_feed_102 rfl o_t.1 ?_
            refine r_dup d_X12_feed_103 rfl ?_
            refine r_getf (j := 19) (t := 0) (x := (τ1 t 19)) d_X12_feed_104 kX12 (by decide) fl_X12_252 o_t.1 o_t.2.1 o_t.2.2.1 o_t.2.2.2 rfl rfl ?_
            refine r_iconst (x := 1) d_X12_feed_107 ⟨by decide, by decide⟩ ?_
            refine r_iadd d_X12_feed_108 ?_
            refine r_putI (j := 19) d_X12_feed_109 kX12 (by decide) fl_X12_252 rfl o_t.1 o_t.2.1 o_t.2.2.1 o_t.2.2.2 rfl ?_
            refine r_nmM (fun τ2 eτ2 => ?_)
            have h := h τ2 eτ2
            refine x_iinc (x := x6) (L := [(2, t), (0, x1), (0, x2), (0, x3), (0, x4), (0, x5), (0, x6), (0, x5)]) d_X12_feed_112 rfl (by decide) rfl (fun y3 ey3 => ?_)
            have h := h y3 ey3
            show WP _ _ _ _ _ _ _ _ [(2, t), (0, x1), (0, x2), (0, x3), (0, x4), (0, x5), (0, y3), (0, x5)] _ _ _ _
            refine r_goto (tgt := 24) d_X12_feed_115 rfl ?_
            exact x_mask h ⟨Or.inr rfl, Or.inr rfl, Or.inr rfl, Or.inr rfl, Or.inr rfl, Or.inr rfl, Or.inr rfl, Or.inl rfl, trivial⟩
          · have h := h.2 hc
            refine r_iload (x := x4) d_X12_feed_70 rfl ?_
            refine r_goto (tgt := 77) d_X12_feed_72 rfl ?_
            refine r_istore (L2 := [(2, t), (0, x1), (0, x2), (0, x3), (0, x4), (0, x5), (0, x6), (0, x4)]) d_X12_feed_77 (by decide) rfl rfl ?_
            refine r_aload_n (x := t) d_X12_feed_79 rfl o_t.1 ?_
            refine r_getf (j := 18) (t := 2) (x := t_tape) d_X12_feed_80 kX12 (by decide) fl_X12_57 o_t.1 o_t.2.1 o_t.2.2.1 o_t.2.2.2 rfl f_t_tape ?_
            refine r_aload_n (x := t) d_X12_feed_83 rfl o_t.1 ?_
            refine r_getf (j := 19) (t := 0) (x := (σ t 19)) d_X12_feed_84 kX12 (by decide) fl_X12_252 o_t.1 o_t.2.1 o_t.2.2.1 o_t.2.2.2 rfl rfl ?_
            refine r_iload (x := x4) d_X12_feed_87 rfl ?_
            refine r_bipush (x := 24) d_X12_feed_89 ⟨by decide, by decide⟩ (by decide) ?_
            refine r_bipush (x := 8) d_X12_feed_91 ⟨by decide, by decide⟩ (by decide) ?_
            refine r_iload (x := x6) d_X12_feed_93 rfl ?_
            refine r_iconst (x := 4) d_X12_feed_95 ⟨by decide, by decide⟩ ?_
            refine r_irem d_X12_feed_96 (by decide) ?_
            refine r_imul d_X12_feed_97 ?_
            refine r_isub d_X12_feed_98 ?_
            refine r_ishr d_X12_feed_99 ?_
            refine r_i2b d_X12_feed_100 ?_
            refine x_bast d_X12_feed_101 h.1 h.2.1 ?_
            have h := h.2.2
            refine r_nmM (fun τ4 eτ4 => ?_)
            have h := h τ4 eτ4
            refine r_aload_n (x := t) d_X12_feed_102 rfl o_t.1 ?_
            refine r_dup d_X12_feed_103 rfl ?_
            refine r_getf (j := 19) (t := 0) (x := (τ4 t 19)) d_X12_feed_104 kX12 (by decide) fl_X12_252 o_t.1 o_t.2.1 o_t.2.2.1 o_t.2.2.2 rfl rfl ?_
            refine r_iconst (x := 1) d_X12_feed_107 ⟨by decide, by decide⟩ ?_
            refine r_iadd d_X12_feed_108 ?_
            refine r_putI (j := 19) d_X12_feed_109 kX12 (by decide) fl_X12_252 rfl o_t.1 o_t.2.1 o_t.2.2.1 o_t.2.2.2 rfl ?_
            refine r_nmM (fun τ5 eτ5 => ?_)
            have h := h τ5 eτ5
            refine x_iinc (x := x6) (L := [(2, t), (0, x1), (0, x2), (0, x3), (0, x4), (0, x5), (0, x6), (0, x4)]) d_X12_feed_112 rfl (by decide) rfl (fun y6 ey6 => ?_)
            have h := h y6 ey6
            show WP _ _ _ _ _ _ _ _ [(2, t), (0, x1), (0, x2), (0, x3), (0, x4), (0, x5), (0, y6), (0, x4)] _ _ _ _
            refine r_goto (tgt := 24) d_X12_feed_115 rfl ?_
            exact x_mask h ⟨Or.inr rfl, Or.inr rfl, Or.inr rfl, Or.inr rfl, Or.inr rfl, Or.inr rfl, Or.inr rfl, Or.inl rfl, trivial⟩
        · have h := h.2 hc
          refine r_iload_n (x := x3) d_X12_feed_59 rfl ?_
          refine r_goto (tgt := 77) d_X12_feed_60 rfl ?_
          refine r_istore (L2 := [(2, t), (0, x1), (0, x2), (0, x3), (0, x4), (0, x5), (0, x6), (0, x3)]) d_X12_feed_77 (by decide) rfl rfl ?_
          refine r_aload_n (x := t) d_X12_feed_79 rfl o_t.1 ?_
          refine r_getf (j := 18) (t := 2) (x := t_tape) d_X12_feed_80 kX12 (by decide) fl_X12_57 o_t.1 o_t.2.1 o_t.2.2.1 o_t.2.2.2 rfl f_t_tape ?_
          refine r_aload_n (x := t) d_X12_feed_83 rfl o_t.1 ?_
          refine r_getf (j := 19) (t := 0) (x := (σ t 19)) d_X12_feed_84 kX12 (by decide) fl_X12_252 o_t.1 o_t.2.1 o_t.2.2.1 o_t.2.2.2 rfl rfl ?_
          refine r_iload (x := x3) d_X12_feed_87 rfl ?_
          refine r_bipush (x := 24) d_X12_feed_89 ⟨by decide, by decide⟩ (by decide) ?_
          refine r_bipush (x := 8) d_X12_feed_91 ⟨by decide, by decide⟩ (by decide) ?_
          refine r_iload (x := x6) d_X12_feed_93 rfl ?_
          refine r_iconst (x := 4) d_X12_feed_95 ⟨by decide, by decide⟩ ?_
          refine r_irem d_X12_feed_96 (by decide) ?_
          refine r_imul d_X12_feed_97 ?_
          refine r_isub d_X12_feed_98 ?_
          refine r_ishr d_X12_feed_99 ?_
          refine r_i2b d_X12_feed_100 ?_
          refine x_bast d_X12_feed_101 h.1 h.2.1 ?_
          have h := h.2.2
          refine r_nmM (fun τ7 eτ7 => ?_)
          have h := h τ7 eτ7
          refine r_aload_n (x := t) d_X12_feed_102 rfl o_t.1 ?_
          refine r_dup d_X12_feed_103 rfl ?_
          refine r_getf (j := 19) (t := 0) (x := (τ7 t 19)) d_X12_feed_104 kX12 (by decide) fl_X12_252 o_t.1 o_t.2.1 o_t.2.2.1 o_t.2.2.2 rfl rfl ?_
          refine r_iconst (x := 1) d_X12_feed_107 ⟨by decide, by decide⟩ ?_
          refine r_iadd d_X12_feed_108 ?_
          refine r_putI (j := 19) d_X12_feed_109 kX12 (by decide) fl_X12_252 rfl o_t.1 o_t.2.1 o_t.2.2.1 o_t.2.2.2 rfl ?_
          refine r_nmM (fun τ8 eτ8 => ?_)
          have h := h τ8 eτ8
          refine x_iinc (x := x6) (L := [(2, t), (0, x1), (0, x2), (0, x3), (0, x4), (0, x5), (0, x6), (0, x3)]) d_X12_feed_112 rfl (by decide) rfl (fun y9 ey9 => ?_)
          have h := h y9 ey9
          show WP _ _ _ _ _ _ _ _ [(2, t), (0, x1), (0, x2), (0, x3), (0, x4), (0, x5), (0, y9), (0, x3)] _ _ _ _
          refine r_goto (tgt := 24) d_X12_feed_115 rfl ?_
          exact x_mask h ⟨Or.inr rfl, Or.inr rfl, Or.inr rfl, Or.inr rfl, Or.inr rfl, Or.inr rfl, Or.inr rfl, Or.inl rfl, trivial⟩
      · have h := h.2 hc
        refine r_iload_n (x := x2) d_X12_feed_48 rfl ?_
        refine r_goto (tgt := 77) d_X12_feed_49 rfl ?_
        refine r_istore (L2 := [(2, t), (0, x1), (0, x2), (0, x3), (0, x4), (0, x5), (0, x6), (0, x2)]) d_X12_feed_77 (by decide) rfl rfl ?_
        refine r_aload_n (x := t) d_X12_feed_79 rfl o_t.1 ?_
        refine r_getf (j := 18) (t := 2) (x := t_tape) d_X12_feed_80 kX12 (by decide) fl_X12_57 o_t.1 o_t.2.1 o_t.2.2.1 o_t.2.2.2 rfl f_t_tape ?_
        refine r_aload_n (x := t) d_X12_feed_83 rfl o_t.1 ?_
        refine r_getf (j := 19) (t := 0) (x := (σ t 19)) d_X12_feed_84 kX12 (by decide) fl_X12_252 o_t.1 o_t.2.1 o_t.2.2.1 o_t.2.2.2 rfl rfl ?_
        refine r_iload (x := x2) d_X12_feed_87 rfl ?_
        refine r_bipush (x := 24) d_X12_feed_89 ⟨by decide, by decide⟩ (by decide) ?_
        refine r_bipush (x := 8) d_X12_feed_91 ⟨by decide, by decide⟩ (by decide) ?_
        refine r_iload (x := x6) d_X12_feed_93 rfl ?_
        refine r_iconst (x := 4) d_X12_feed_95 ⟨by decide, by decide⟩ ?_
        refine r_irem d_X12_feed_96 (by decide) ?_
        refine r_imul d_X12_feed_97 ?_
        refine r_isub d_X12_feed_98 ?_
        refine r_ishr d_X12_feed_99 ?_
        refine r_i2b d_X12_feed_100 ?_
        refine x_bast d_X12_feed_101 h.1 h.2.1 ?_
        have h := h.2.2
        refine r_nmM (fun τ10 eτ10 => ?_)
        have h := h τ10 eτ10
        refine r_aload_n (x := t) d_X12_feed_102 rfl o_t.1 ?_
        refine r_dup d_X12_feed_103 rfl ?_
        refine r_getf (j := 19) (t := 0) (x := (τ10 t 19)) d_X12_feed_104 kX12 (by decide) fl_X12_252 o_t.1 o_t.2.1 o_t.2.2.1 o_t.2.2.2 rfl rfl ?_
        refine r_iconst (x := 1) d_X12_feed_107 ⟨by decide, by decide⟩ ?_
        refine r_iadd d_X12_feed_108 ?_
        refine r_putI (j := 19) d_X12_feed_109 kX12 (by decide) fl_X12_252 rfl o_t.1 o_t.2.1 o_t.2.2.1 o_t.2.2.2 rfl ?_
        refine r_nmM (fun τ11 eτ11 => ?_)
        have h := h τ11 eτ11
        refine x_iinc (x := x6) (L := [(2, t), (0, x1), (0, x2), (0, x3), (0, x4), (0, x5), (0, x6), (0, x2)]) d_X12_feed_112 rfl (by decide) rfl (fun y12 ey12 => ?_)
        have h := h y12 ey12
        show WP _ _ _ _ _ _ _ _ [(2, t), (0, x1), (0, x2), (0, x3), (0, x4), (0, x5), (0, y12), (0, x2)] _ _ _ _
        refine r_goto (tgt := 24) d_X12_feed_115 rfl ?_
        exact x_mask h ⟨Or.inr rfl, Or.inr rfl, Or.inr rfl, Or.inr rfl, Or.inr rfl, Or.inr rfl, Or.inr rfl, Or.inl rfl, trivial⟩
    · have h := h.2 hc
      refine r_iload_n (x := x1) d_X12_feed_37 rfl ?_
      refine r_goto (tgt := 77) d_X12_feed_38 rfl ?_
      refine r_istore (L2 := [(2, t), (0, x1), (0, x2), (0, x3), (0, x4), (0, x5), (0, x6), (0, x1)]) d_X12_feed_77 (by decide) rfl rfl ?_
      refine r_aload_n (x := t) d_X12_feed_79 rfl o_t.1 ?_
      refine r_getf (j := 18) (t := 2) (x := t_tape) d_X12_feed_80 kX12 (by decide) fl_X12_57 o_t.1 o_t.2.1 o_t.2.2.1 o_t.2.2.2 rfl f_t_tape ?_
      refine r_aload_n (x := t) d_X12_feed_83 rfl o_t.1 ?_
      refine r_getf (j := 19) (t := 0) (x := (σ t 19)) d_X12_feed_84 kX12 (by decide) fl_X12_252 o_t.1 o_t.2.1 o_t.2.2.1 o_t.2.2.2 rfl rfl ?_
      refine r_iload (x := x1) d_X12_feed_87 rfl ?_
      refine r_bipush (x := 24) d_X12_feed_89 ⟨by decide, by decide⟩ (by decide) ?_
      refine r_bipush (x := 8) d_X12_feed_91 ⟨by decide, by decide⟩ (by decide) ?_
      refine r_iload (x := x6) d_X12_feed_93 rfl ?_
      refine r_iconst (x := 4) d_X12_feed_95 ⟨by decide, by decide⟩ ?_
      refine r_irem d_X12_feed_96 (by decide) ?_
      refine r_imul d_X12_feed_97 ?_
      refine r_isub d_X12_feed_98 ?_
      refine r_ishr d_X12_feed_99 ?_
      refine r_i2b d_X12_feed_100 ?_
      refine x_bast d_X12_feed_101 h.1 h.2.1 ?_
      have h := h.2.2
      refine r_nmM (fun τ13 eτ13 => ?_)
      have h := h τ13 eτ13
      refine r_aload_n (x := t) d_X12_feed_102 rfl o_t.1 ?_
      refine r_dup d_X12_feed_103 rfl ?_
      refine r_getf (j := 19) (t := 0) (x := (τ13 t 19)) d_X12_feed_104 kX12 (by decide) fl_X12_252 o_t.1 o_t.2.1 o_t.2.2.1 o_t.2.2.2 rfl rfl ?_
      refine r_iconst (x := 1) d_X12_feed_107 ⟨by decide, by decide⟩ ?_
      refine r_iadd d_X12_feed_108 ?_
      refine r_putI (j := 19) d_X12_feed_109 kX12 (by decide) fl_X12_252 rfl o_t.1 o_t.2.1 o_t.2.2.1 o_t.2.2.2 rfl ?_
      refine r_nmM (fun τ14 eτ14 => ?_)
      have h := h τ14 eτ14
      refine x_iinc (x := x6) (L := [(2, t), (0, x1), (0, x2), (0, x3), (0, x4), (0, x5), (0, x6), (0, x1)]) d_X12_feed_112 rfl (by decide) rfl (fun y15 ey15 => ?_)
      have h := h y15 ey15
      show WP _ _ _ _ _ _ _ _ [(2, t), (0, x1), (0, x2), (0, x3), (0, x4), (0, x5), (0, y15), (0, x1)] _ _ _ _
      refine r_goto (tgt := 24) d_X12_feed_115 rfl ?_
      exact x_mask h ⟨Or.inr rfl, Or.inr rfl, Or.inr rfl, Or.inr rfl, Or.inr rfl, Or.inr rfl, Or.inr rfl, Or.inl rfl, trivial⟩
theorem u_X12_told_0 {l : Launch} {d N : Nat} {Λ : Lay} {P : Int → Mem → Prop} {σ : Mem} {x1 x2 t : Int} (o_t : Ob N Λ t 21 36) (h0d : 1 ≤ d)
    (h : (∀ τ1, τ1 = st σ t 0 0 → (CI l mX12_opensText (d - 1) [(2, t), (0, x1), (0, x2)] N Λ τ1 (fun v3 σ2 => ((v3 = 0 → (CV l mX12_polynomial (d - 1) [(2, t), (0, 0)] N Λ σ2 (fun σ4 => (((σ4 t 22) = 0 → (CV l mX12_begins (d - 1) [(2, t)] N Λ σ4 (fun σ5 => (CV l mX12_polynomial (d - 1) [(2, t), (0, 1)] N Λ σ5 (fun σ6 => (CI l mX12_ends (d - 1) [(2, t), (0, x1)] N Λ σ6 (fun v8 σ7 => P v8 σ7))))))) ∧ (¬ ((σ4 t 22) = 0) → (CI l mX12_refused (d - 1) [(2, t), (0, (subI (-30) (σ4 t 22)))] N Λ σ4 (fun v10 σ9 => P v10 σ9))))))) ∧ (¬ (v3 = 0) → P v3 σ2)))))) :
    WI l mX12_told d P 0 [(2, t), (0, x1), (0, x2), (3, 0)] [] N Λ σ := by
  have hd_1 : 1 ≤ d := Nat.le_trans (by decide) h0d
  refine r_aload_n (x := t) d_X12_told_0 rfl o_t.1 ?_
  refine r_iconst (x := 0) d_X12_told_1 ⟨by decide, by decide⟩ ?_
  refine r_putI (j := 0) d_X12_told_2 kX12 (by decide) fl_X12_1 rfl o_t.1 o_t.2.1 o_t.2.2.1 o_t.2.2.2 rfl ?_
  refine r_nmM (fun τ1 eτ1 => ?_)
  have h := h τ1 eτ1
  refine r_aload_n (x := t) d_X12_told_5 rfl o_t.1 ?_
  refine r_iload_n (x := x1) d_X12_told_6 rfl ?_
  refine r_iload_n (x := x2) d_X12_told_7 rfl ?_
  refine x_callVI (Y2 := mX12_opensText) (c := t) (As := [(0, x1), (0, x2)]) (S := []) d_X12_told_8 ok_mX12_opensText ml_X12_297 rfl (Nat.le_of_ble_eq_true rfl) (Nat.le_of_ble_eq_true rfl) rfl hd_1 kX12 o_t (CI.mono h (fun v3 σ2 h => ?_))
  refine r_istore_n (L2 := [(2, t), (0, x1), (0, x2), (0, v3)]) d_X12_told_11 (by decide) rfl rfl ?_
  refine r_iload_n (x := v3) d_X12_told_12 rfl ?_
  refine r_if_eq (tgt := 18) d_X12_told_13 rfl (fun hc => ?_) (fun hc => ?_)
  · have h := h.1 hc
    refine r_aload_n (x := t) d_X12_told_18 rfl o_t.1 ?_
    refine r_iconst (x := 0) d_X12_told_19 ⟨by decide, by decide⟩ ?_
    refine x_callVV (Y2 := mX12_polynomial) (c := t) (As := [(0, 0)]) (S := []) d_X12_told_20 ok_mX12_polynomial ml_X12_300 rfl (Nat.le_of_ble_eq_true rfl) (Nat.le_of_ble_eq_true rfl) rfl hd_1 kX12 o_t (CV.mono h (fun σ4 h => ?_))
    refine r_aload_n (x := t) d_X12_told_23 rfl o_t.1 ?_
    refine r_getf (j := 22) (t := 0) (x := (σ4 t 22)) d_X12_told_24 kX12 (by decide) fl_X12_261 o_t.1 o_t.2.1 o_t.2.2.1 o_t.2.2.2 rfl rfl ?_
    refine r_if_eq (tgt := 42) d_X12_told_27 rfl (fun hc => ?_) (fun hc => ?_)
    · have h := h.1 hc
      refine r_aload_n (x := t) d_X12_told_42 rfl o_t.1 ?_
      refine x_callVV (Y2 := mX12_begins) (c := t) (As := []) (S := []) d_X12_told_43 ok_mX12_begins ml_X12_202 rfl (Nat.le_of_ble_eq_true rfl) (Nat.le_of_ble_eq_true rfl) rfl hd_1 kX12 o_t (CV.mono h (fun σ5 h => ?_))
      refine r_aload_n (x := t) d_X12_told_46 rfl o_t.1 ?_
      refine r_iconst (x := 1) d_X12_told_47 ⟨by decide, by decide⟩ ?_
      refine x_callVV (Y2 := mX12_polynomial) (c := t) (As := [(0, 1)]) (S := []) d_X12_told_48 ok_mX12_polynomial ml_X12_300 rfl (Nat.le_of_ble_eq_true rfl) (Nat.le_of_ble_eq_true rfl) rfl hd_1 kX12 o_t (CV.mono h (fun σ6 h => ?_))
      refine r_aload_n (x := t) d_X12_told_51 rfl o_t.1 ?_
      refine r_iload_n (x := x1) d_X12_told_52 rfl ?_
      refine x_callVI (Y2 := mX12_ends) (c := t) (As := [(0, x1)]) (S := []) d_X12_told_53 ok_mX12_ends ml_X12_228 rfl (Nat.le_of_ble_eq_true rfl) (Nat.le_of_ble_eq_true rfl) rfl hd_1 kX12 o_t (CI.mono h (fun v8 σ7 h => ?_))
      exact r_iret d_X12_told_56 rfl rfl (Nat.le_refl 0) (Nat.le_refl 0) ⟨_, rfl, rfl, rfl, h⟩
    · have h := h.2 hc
      refine r_aload_n (x := t) d_X12_told_30 rfl o_t.1 ?_
      refine r_bipush (x := (-30)) d_X12_told_31 ⟨by decide, by decide⟩ (by decide) ?_
      refine r_aload_n (x := t) d_X12_told_33 rfl o_t.1 ?_
      refine r_getf (j := 22) (t := 0) (x := (σ4 t 22)) d_X12_told_34 kX12 (by decide) fl_X12_261 o_t.1 o_t.2.1 o_t.2.2.1 o_t.2.2.2 rfl rfl ?_
      refine r_isub d_X12_told_37 ?_
      refine x_callVI (Y2 := mX12_refused) (c := t) (As := [(0, (subI (-30) (σ4 t 22)))]) (S := []) d_X12_told_38 ok_mX12_refused ml_X12_218 rfl (Nat.le_of_ble_eq_true rfl) (Nat.le_of_ble_eq_true rfl) rfl hd_1 kX12 o_t (CI.mono h (fun v10 σ9 h => ?_))
      exact r_iret d_X12_told_41 rfl rfl (Nat.le_refl 0) (Nat.le_refl 0) ⟨_, rfl, rfl, rfl, h⟩
  · have h := h.2 hc
    refine r_iload_n (x := v3) d_X12_told_16 rfl ?_
    exact r_iret d_X12_told_17 rfl rfl (Nat.le_refl 0) (Nat.le_refl 0) ⟨_, rfl, rfl, rfl, h⟩
theorem u_X12_figure_0 {l : Launch} {d N : Nat} {Λ : Lay} {P : Int → Mem → Prop} {σ : Mem} {x1 x2 t : Int} (o_t : Ob N Λ t 21 36) (h0d : 1 ≤ d)
    (h : (∀ τ1, τ1 = st σ t 0 0 → (CI l mX12_opensText (d - 1) [(2, t), (0, x1), (0, x2)] N Λ τ1 (fun v3 σ2 => ((v3 = 0 → (CV l mX12_figureText (d - 1) [(2, t)] N Λ σ2 (fun σ4 => (((σ4 t 22) = 0 → (CV l mX12_begins (d - 1) [(2, t)] N Λ σ4 (fun σ5 => (∀ τ6, τ6 = st σ5 t 21 0 → WI l mX12_figure d P 53 [(2, t), (0, x1), (0, x2), (0, v3), (0, 0)] [] N Λ τ6)))) ∧ (¬ ((σ4 t 22) = 0) → (CI l mX12_refused (d - 1) [(2, t), (0, (subI (-30) (σ4 t 22)))] N Λ σ4 (fun v8 σ7 => P v8 σ7))))))) ∧ (¬ (v3 = 0) → P v3 σ2)))))) :
    WI l mX12_figure d P 0 [(2, t), (0, x1), (0, x2), (3, 0), (3, 0)] [] N Λ σ := by
  have hd_1 : 1 ≤ d := Nat.le_trans (by decide) h0d
  refine r_aload_n (x := t) d_X12_figure_0 rfl o_t.1 ?_
  refine r_iconst (x := 0) d_X12_figure_1 ⟨by decide, by decide⟩ ?_
  refine r_putI (j := 0) d_X12_figure_2 kX12 (by decide) fl_X12_1 rfl o_t.1 o_t.2.1 o_t.2.2.1 o_t.2.2.2 rfl ?_
  refine r_nmM (fun τ1 eτ1 => ?_)
  have h := h τ1 eτ1
  refine r_aload_n (x := t) d_X12_figure_5 rfl o_t.1 ?_
  refine r_iload_n (x := x1) d_X12_figure_6 rfl ?_
  refine r_iload_n (x := x2) d_X12_figure_7 rfl ?_
  refine x_callVI (Y2 := mX12_opensText) (c := t) (As := [(0, x1), (0, x2)]) (S := []) d_X12_figure_8 ok_mX12_opensText ml_X12_297 rfl (Nat.le_of_ble_eq_true rfl) (Nat.le_of_ble_eq_true rfl) rfl hd_1 kX12 o_t (CI.mono h (fun v3 σ2 h => ?_))
  refine r_istore_n (L2 := [(2, t), (0, x1), (0, x2), (0, v3), (3, 0)]) d_X12_figure_11 (by decide) rfl rfl ?_
  refine r_iload_n (x := v3) d_X12_figure_12 rfl ?_
  refine r_if_eq (tgt := 18) d_X12_figure_13 rfl (fun hc => ?_) (fun hc => ?_)
  · have h := h.1 hc
    refine r_aload_n (x := t) d_X12_figure_18 rfl o_t.1 ?_
    refine x_callVV (Y2 := mX12_figureText) (c := t) (As := []) (S := []) d_X12_figure_19 ok_mX12_figureText ml_X12_331 rfl (Nat.le_of_ble_eq_true rfl) (Nat.le_of_ble_eq_true rfl) rfl hd_1 kX12 o_t (CV.mono h (fun σ4 h => ?_))
    refine r_aload_n (x := t) d_X12_figure_22 rfl o_t.1 ?_
    refine r_getf (j := 22) (t := 0) (x := (σ4 t 22)) d_X12_figure_23 kX12 (by decide) fl_X12_261 o_t.1 o_t.2.1 o_t.2.2.1 o_t.2.2.2 rfl rfl ?_
    refine r_if_eq (tgt := 41) d_X12_figure_26 rfl (fun hc => ?_) (fun hc => ?_)
    · have h := h.1 hc
      refine r_aload_n (x := t) d_X12_figure_41 rfl o_t.1 ?_
      refine x_callVV (Y2 := mX12_begins) (c := t) (As := []) (S := []) d_X12_figure_42 ok_mX12_begins ml_X12_202 rfl (Nat.le_of_ble_eq_true rfl) (Nat.le_of_ble_eq_true rfl) rfl hd_1 kX12 o_t (CV.mono h (fun σ5 h => ?_))
      refine r_aload_n (x := t) d_X12_figure_45 rfl o_t.1 ?_
      refine r_iconst (x := 0) d_X12_figure_46 ⟨by decide, by decide⟩ ?_
      refine r_putI (j := 21) d_X12_figure_47 kX12 (by decide) fl_X12_255 rfl o_t.1 o_t.2.1 o_t.2.2.1 o_t.2.2.2 rfl ?_
      refine r_nmM (fun τ6 eτ6 => ?_)
      have h := h τ6 eτ6
      refine r_iconst (x := 0) d_X12_figure_50 ⟨by decide, by decide⟩ ?_
      refine r_istore (L2 := [(2, t), (0, x1), (0, x2), (0, v3), (0, 0)]) d_X12_figure_51 (by decide) rfl rfl ?_
      exact h
    · have h := h.2 hc
      refine r_aload_n (x := t) d_X12_figure_29 rfl o_t.1 ?_
      refine r_bipush (x := (-30)) d_X12_figure_30 ⟨by decide, by decide⟩ (by decide) ?_
      refine r_aload_n (x := t) d_X12_figure_32 rfl o_t.1 ?_
      refine r_getf (j := 22) (t := 0) (x := (σ4 t 22)) d_X12_figure_33 kX12 (by decide) fl_X12_261 o_t.1 o_t.2.1 o_t.2.2.1 o_t.2.2.2 rfl rfl ?_
      refine r_isub d_X12_figure_36 ?_
      refine x_callVI (Y2 := mX12_refused) (c := t) (As := [(0, (subI (-30) (σ4 t 22)))]) (S := []) d_X12_figure_37 ok_mX12_refused ml_X12_218 rfl (Nat.le_of_ble_eq_true rfl) (Nat.le_of_ble_eq_true rfl) rfl hd_1 kX12 o_t (CI.mono h (fun v8 σ7 h => ?_))
      exact r_iret d_X12_figure_40 rfl rfl (Nat.le_refl 0) (Nat.le_refl 0) ⟨_, rfl, rfl, rfl, h⟩
  · have h := h.2 hc
    refine r_iload_n (x := v3) d_X12_figure_16 rfl ?_
    exact r_iret d_X12_figure_17 rfl rfl (Nat.le_refl 0) (Nat.le_refl 0) ⟨_, rfl, rfl, rfl, h⟩
theorem u_X12_figure_53 {l : Launch} {d N : Nat} {Λ : Lay} {P : Int → Mem → Prop} {σ : Mem} {x1 x2 x3 x4 t : Int} (o_t : Ob N Λ t 21 36) (h0d : 1 ≤ d)
    (h : ((3 ≤ x4 → ((¬ (σ t 8) = 0 → (CI l mX12_ends (d - 1) [(2, t), (0, x1)] N Λ σ (fun v2 σ1 => P v2 σ1))) ∧ ((σ t 8) = 0 → (CV l mX12_brackets (d - 1) [(2, t), (0, 0), (0, 1), (0, 2), (0, 0)] N Λ σ (fun σ3 => (CI l mX12_ends (d - 1) [(2, t), (0, x1)] N Λ σ3 (fun v5 σ4 => P v5 σ4))))))) ∧ (¬ (3 ≤ x4) → (CV l mX12_point (d - 1) [(2, t), (0, x4), (0, 3)] N Λ σ (fun σ6 => (∀ y7, y7 = addI x4 1 → WI l mX12_figure d P 53 [(2, t), (0, x1), (0, x2), (0, x3), (0, y7)] [] N Λ σ6)))))) :
    WI l mX12_figure d P 53 [(2, t), (0, x1), (0, x2), (0, x3), (0, x4)] [] N Λ σ := by
  have hd_1 : 1 ≤ d := Nat.le_trans (by decide) h0d
  refine r_iload (x := x4) d_X12_figure_53 rfl ?_
  refine r_iconst (x := 3) d_X12_figure_55 ⟨by decide, by decide⟩ ?_
  refine r_ic_ge (tgt := 72) d_X12_figure_56 rfl (fun hc => ?_) (fun hc => ?_)
  · have h := h.1 hc
    refine r_aload_n (x := t) d_X12_figure_72 rfl o_t.1 ?_
    refine r_getf (j := 8) (t := 0) (x := (σ t 8)) d_X12_figure_73 kX12 (by decide) fl_X12_102 o_t.1 o_t.2.1 o_t.2.2.1 o_t.2.2.2 rfl rfl ?_
    refine r_if_ne (tgt := 87) d_X12_figure_76 rfl (fun hc => ?_) (fun hc => ?_)
    · have h := h.1 hc
      refine r_aload_n (x := t) d_X12_figure_87 rfl o_t.1 ?_
      refine r_iload_n (x := x1) d_X12_figure_88 rfl ?_
      refine x_callVI (Y2 := mX12_ends) (c := t) (As := [(0, x1)]) (S := []) d_X12_figure_89 ok_mX12_ends ml_X12_228 rfl (Nat.le_of_ble_eq_true rfl) (Nat.le_of_ble_eq_true rfl) rfl hd_1 kX12 o_t (CI.mono h (fun v2 σ1 h => ?_))
      exact r_iret d_X12_figure_92 rfl rfl (Nat.le_refl 0) (Nat.le_refl 0) ⟨_, rfl, rfl, rfl, h⟩
    · have h := h.2 hc
      refine r_aload_n (x := t) d_X12_figure_79 rfl o_t.1 ?_
      refine r_iconst (x := 0) d_X12_figure_80 ⟨by decide, by decide⟩ ?_
      refine r_iconst (x := 1) d_X12_figure_81 ⟨by decide, by decide⟩ ?_
      refine r_iconst (x := 2) d_X12_figure_82 ⟨by decide, by decide⟩ ?_
      refine r_iconst (x := 0) d_X12_figure_83 ⟨by decide, by decide⟩ ?_
      refine x_callVV (Y2 := mX12_brackets) (c := t) (As := [(0, 0), (0, 1), (0, 2), (0, 0)]) (S := []) d_X12_figure_84 ok_mX12_brackets ml_X12_315 rfl (Nat.le_of_ble_eq_true rfl) (Nat.le_of_ble_eq_true rfl) rfl hd_1 kX12 o_t (CV.mono h (fun σ3 h => ?_))
      refine r_aload_n (x := t) d_X12_figure_87 rfl o_t.1 ?_
      refine r_iload_n (x := x1) d_X12_figure_88 rfl ?_
      refine x_callVI (Y2 := mX12_ends) (c := t) (As := [(0, x1)]) (S := []) d_X12_figure_89 ok_mX12_ends ml_X12_228 rfl (Nat.le_of_ble_eq_true rfl) (Nat.le_of_ble_eq_true rfl) rfl hd_1 kX12 o_t (CI.mono h (fun v5 σ4 h => ?_))
      exact r_iret d_X12_figure_92 rfl rfl (Nat.le_refl 0) (Nat.le_refl 0) ⟨_, rfl, rfl, rfl, h⟩
  · have h := h.2 hc
    refine r_aload_n (x := t) d_X12_figure_59 rfl o_t.1 ?_
    refine r_iload (x := x4) d_X12_figure_60 rfl ?_
    refine r_iconst (x := 3) d_X12_figure_62 ⟨by decide, by decide⟩ ?_
    refine x_callVV (Y2 := mX12_point) (c := t) (As := [(0, x4), (0, 3)]) (S := []) d_X12_figure_63 ok_mX12_point ml_X12_309 rfl (Nat.le_of_ble_eq_true rfl) (Nat.le_of_ble_eq_true rfl) rfl hd_1 kX12 o_t (CV.mono h (fun σ6 h => ?_))
    refine x_iinc (x := x4) (L := [(2, t), (0, x1), (0, x2), (0, x3), (0, x4)]) d_X12_figure_66 rfl (by decide) rfl (fun y7 ey7 => ?_)
    have h := h y7 ey7
    show WP _ _ _ _ _ _ _ _ [(2, t), (0, x1), (0, x2), (0, x3), (0, y7)] _ _ _ _
    refine r_goto (tgt := 53) d_X12_figure_69 rfl ?_
    exact h
theorem u_X12_fault_0 {l : Launch} {d N : Nat} {Λ : Lay} {P : Int → Mem → Prop} {σ : Mem} {x1 t : Int} (o_t : Ob N Λ t 21 36)
    (h : (∀ τ1, τ1 = st σ t 0 0 → ((¬ x1 = 0 → ((¬ x1 = 1 → P (-1) τ1) ∧ (x1 = 1 → P (τ1 t 23) τ1))) ∧ (x1 = 0 → P (τ1 t 22) τ1)))) :
    WI l mX12_fault d P 0 [(2, t), (0, x1)] [] N Λ σ := by
  refine r_aload_n (x := t) d_X12_fault_0 rfl o_t.1 ?_
  refine r_iconst (x := 0) d_X12_fault_1 ⟨by decide, by decide⟩ ?_
  refine r_putI (j := 0) d_X12_fault_2 kX12 (by decide) fl_X12_1 rfl o_t.1 o_t.2.1 o_t.2.2.1 o_t.2.2.2 rfl ?_
  refine r_nmM (fun τ1 eτ1 => ?_)
  have h := h τ1 eτ1
  refine r_iload_n (x := x1) d_X12_fault_5 rfl ?_
  refine r_if_ne (tgt := 16) d_X12_fault_6 rfl (fun hc => ?_) (fun hc => ?_)
  · have h := h.1 hc
    refine r_iload_n (x := x1) d_X12_fault_16 rfl ?_
    refine r_iconst (x := 1) d_X12_fault_17 ⟨by decide, by decide⟩ ?_
    refine r_ic_ne (tgt := 28) d_X12_fault_18 rfl (fun hc => ?_) (fun hc => ?_)
    · have h := h.1 hc
      refine r_iconst (x := (-1)) d_X12_fault_28 ⟨by decide, by decide⟩ ?_
      exact r_iret d_X12_fault_29 rfl rfl (Nat.le_refl 0) (Nat.le_refl 0) ⟨_, rfl, rfl, rfl, h⟩
    · have h := h.2 hc
      refine r_aload_n (x := t) d_X12_fault_21 rfl o_t.1 ?_
      refine r_getf (j := 23) (t := 0) (x := (τ1 t 23)) d_X12_fault_22 kX12 (by decide) fl_X12_61 o_t.1 o_t.2.1 o_t.2.2.1 o_t.2.2.2 rfl rfl ?_
      refine r_goto (tgt := 29) d_X12_fault_25 rfl ?_
      exact r_iret d_X12_fault_29 rfl rfl (Nat.le_refl 0) (Nat.le_refl 0) ⟨_, rfl, rfl, rfl, h⟩
  · have h := h.2 hc
    refine r_aload_n (x := t) d_X12_fault_9 rfl o_t.1 ?_
    refine r_getf (j := 22) (t := 0) (x := (τ1 t 22)) d_X12_fault_10 kX12 (by decide) fl_X12_261 o_t.1 o_t.2.1 o_t.2.2.1 o_t.2.2.2 rfl rfl ?_
    refine r_goto (tgt := 29) d_X12_fault_13 rfl ?_
    exact r_iret d_X12_fault_29 rfl rfl (Nat.le_refl 0) (Nat.le_refl 0) ⟨_, rfl, rfl, rfl, h⟩
theorem u_X12_why_0 {l : Launch} {d N : Nat} {Λ : Lay} {P : Int → Mem → Prop} {σ : Mem} {t : Int} (o_t : Ob N Λ t 21 36)
    (h : (∀ τ1, τ1 = st σ t 0 0 → P (τ1 t 16) τ1)) :
    WI l mX12_why d P 0 [(2, t)] [] N Λ σ := by
  refine r_aload_n (x := t) d_X12_why_0 rfl o_t.1 ?_
  refine r_iconst (x := 0) d_X12_why_1 ⟨by decide, by decide⟩ ?_
  refine r_putI (j := 0) d_X12_why_2 kX12 (by decide) fl_X12_1 rfl o_t.1 o_t.2.1 o_t.2.2.1 o_t.2.2.2 rfl ?_
  refine r_nmM (fun τ1 eτ1 => ?_)
  have h := h τ1 eτ1
  refine r_aload_n (x := t) d_X12_why_5 rfl o_t.1 ?_
  refine r_getf (j := 16) (t := 0) (x := (τ1 t 16)) d_X12_why_6 kX12 (by decide) fl_X12_187 o_t.1 o_t.2.1 o_t.2.2.1 o_t.2.2.2 rfl rfl ?_
  exact r_iret d_X12_why_9 rfl rfl (Nat.le_refl 0) (Nat.le_refl 0) ⟨_, rfl, rfl, rfl, h⟩
theorem u_X12_clear_0 {l : Launch} {d N : Nat} {Λ : Lay} {P : Int → Mem → Prop} {σ : Mem} {x1 t t_state : Int} (o_t : Ob N Λ t 21 36) (f_t_state : (Λ t).2.2 3 = t_state) (h0d : 2 ≤ d)
    (h : (∀ τ1, τ1 = st σ t 0 0 → (((cmpL x1 0) < 0 → P (-2) τ1) ∧ (¬ ((cmpL x1 0) < 0) → ((0 < (cmpL x1 5) → P (-2) τ1) ∧ (¬ (0 < (cmpL x1 5)) → (CV l mX12_begins (d - 1) [(2, t)] N Λ τ1 (fun σ2 => (Ix N Λ t_state 0 (mulI 161 x1) ∧ (∀ y3, y3 = (σ2 t_state (mulI 161 x1)) → (CI l mX12_becomes (d - 1) [(2, t), (0, x1)] N Λ σ2 (fun v5 σ4 => P y3 σ4)))))))))))) :
    WI l mX12_clear d P 0 [(2, t), (0, x1), (3, 0), (3, 0)] [] N Λ σ := by
  have hd_1 : 1 ≤ d := Nat.le_trans (by decide) h0d
  have he_1 : 1 ≤ d - 1 := Nat.le_sub_of_add_le (Nat.le_trans (by decide) h0d)
  refine r_aload_n (x := t) d_X12_clear_0 rfl o_t.1 ?_
  refine r_iconst (x := 0) d_X12_clear_1 ⟨by decide, by decide⟩ ?_
  refine r_putI (j := 0) d_X12_clear_2 kX12 (by decide) fl_X12_1 rfl o_t.1 o_t.2.1 o_t.2.2.1 o_t.2.2.2 rfl ?_
  refine r_nmM (fun τ1 eτ1 => ?_)
  have h := h τ1 eτ1
  refine r_iload_n (x := x1) d_X12_clear_5 rfl ?_
  refine x_callSI (Y2 := mX12_isShelf) (As := [(0, x1)]) (S := []) d_X12_clear_6 ok_mX12_isShelf ml_X12_199 rfl (Nat.le_of_ble_eq_true rfl) (Nat.le_of_ble_eq_true rfl) rfl hd_1 (c_X12_isShelf (v_X12_isShelf_0 he_1 ?_))
  refine ⟨fun hc => ?_, fun hc => ?_⟩
  · have h := h.1 hc
    show WP l mX12_clear (rm d 0 0) noX _ 0 0 9 [(2, t), (0, x1), (3, 0), (3, 0)] [(0, 0)] N Λ τ1
    refine r_if_ne (tgt := 15) d_X12_clear_9 rfl (fun hc => absurd hc (by decide)) (fun _ => ?_)
    refine r_bipush (x := (-2)) d_X12_clear_12 ⟨by decide, by decide⟩ (by decide) ?_
    exact r_iret d_X12_clear_14 rfl rfl (Nat.le_refl 0) (Nat.le_refl 0) ⟨_, rfl, rfl, rfl, h⟩
  · have h := h.2 hc
    refine ⟨fun hc => ?_, fun hc => ?_⟩
    · have h := h.1 hc
      show WP l mX12_clear (rm d 0 0) noX _ 0 0 9 [(2, t), (0, x1), (3, 0), (3, 0)] [(0, 0)] N Λ τ1
      refine r_if_ne (tgt := 15) d_X12_clear_9 rfl (fun hc => absurd hc (by decide)) (fun _ => ?_)
      refine r_bipush (x := (-2)) d_X12_clear_12 ⟨by decide, by decide⟩ (by decide) ?_
      exact r_iret d_X12_clear_14 rfl rfl (Nat.le_refl 0) (Nat.le_refl 0) ⟨_, rfl, rfl, rfl, h⟩
    · have h := h.2 hc
      show WP l mX12_clear (rm d 0 0) noX _ 0 0 9 [(2, t), (0, x1), (3, 0), (3, 0)] [(0, 1)] N Λ τ1
      refine r_if_ne (tgt := 15) d_X12_clear_9 rfl (fun _ => ?_) (fun hc => absurd hc (by decide))
      refine r_aload_n (x := t) d_X12_clear_15 rfl o_t.1 ?_
      refine x_callVV (Y2 := mX12_begins) (c := t) (As := []) (S := []) d_X12_clear_16 ok_mX12_begins ml_X12_202 rfl (Nat.le_of_ble_eq_true rfl) (Nat.le_of_ble_eq_true rfl) rfl hd_1 kX12 o_t (CV.mono h (fun σ2 h => ?_))
      refine r_aload_n (x := t) d_X12_clear_19 rfl o_t.1 ?_
      refine r_getf (j := 3) (t := 2) (x := t_state) d_X12_clear_20 kX12 (by decide) fl_X12_20 o_t.1 o_t.2.1 o_t.2.2.1 o_t.2.2.2 rfl f_t_state ?_
      refine r_sipush (x := 161) d_X12_clear_23 ⟨by decide, by decide⟩ (by decide) ?_
      refine r_iload_n (x := x1) d_X12_clear_26 rfl ?_
      refine r_imul d_X12_clear_27 ?_
      refine x_iald d_X12_clear_28 h.1 ?_
      have h := h.2
      refine r_nm (fun y3 ey3 => ?_)
      have h := h y3 ey3
      refine r_istore_n (L2 := [(2, t), (0, x1), (0, y3), (3, 0)]) d_X12_clear_29 (by decide) rfl rfl ?_
      refine r_aload_n (x := t) d_X12_clear_30 rfl o_t.1 ?_
      refine r_iload_n (x := x1) d_X12_clear_31 rfl ?_
      refine x_callVI (Y2 := mX12_becomes) (c := t) (As := [(0, x1)]) (S := []) d_X12_clear_32 ok_mX12_becomes ml_X12_190 rfl (Nat.le_of_ble_eq_true rfl) (Nat.le_of_ble_eq_true rfl) rfl hd_1 kX12 o_t (CI.mono h (fun v5 σ4 h => ?_))
      refine r_istore_n (L2 := [(2, t), (0, x1), (0, y3), (0, v5)]) d_X12_clear_35 (by decide) rfl rfl ?_
      refine r_iload_n (x := y3) d_X12_clear_36 rfl ?_
      exact r_iret d_X12_clear_37 rfl rfl (Nat.le_refl 0) (Nat.le_refl 0) ⟨_, rfl, rfl, rfl, h⟩
theorem u_X12_copy_0 {l : Launch} {d N : Nat} {Λ : Lay} {P : Int → Mem → Prop} {σ : Mem} {x1 x2 t : Int} (o_t : Ob N Λ t 21 36) (h0d : 2 ≤ d)
    (h : (∀ τ1, τ1 = st σ t 0 0 → (((cmpL x1 0) < 0 → P (-2) τ1) ∧ (¬ ((cmpL x1 0) < 0) → ((0 < (cmpL x1 5) → P (-2) τ1) ∧ (¬ (0 < (cmpL x1 5)) → (((cmpL x2 0) < 0 → P (-2) τ1) ∧ (¬ ((cmpL x2 0) < 0) → ((0 < (cmpL x2 5) → P (-2) τ1) ∧ (¬ (0 < (cmpL x2 5)) → (CV l mX12_begins (d - 1) [(2, t)] N Λ τ1 (fun σ2 => (CV l mX12_takes (d - 1) [(2, t), (0, x2), (0, 0)] N Λ σ2 (fun σ3 => (CI l mX12_becomes (d - 1) [(2, t), (0, x1)] N Λ σ3 (fun v5 σ4 => P v5 σ4)))))))))))))))) :
    WI l mX12_copy d P 0 [(2, t), (0, x1), (0, x2)] [] N Λ σ := by
  have hd_1 : 1 ≤ d := Nat.le_trans (by decide) h0d
  have he_1 : 1 ≤ d - 1 := Nat.le_sub_of_add_le (Nat.le_trans (by decide) h0d)
  refine r_aload_n (x := t) d_X12_copy_0 rfl o_t.1 ?_
  refine r_iconst (x := 0) d_X12_copy_1 ⟨by decide, by decide⟩ ?_
  refine r_putI (j := 0) d_X12_copy_2 kX12 (by decide) fl_X12_1 rfl o_t.1 o_t.2.1 o_t.2.2.1 o_t.2.2.2 rfl ?_
  refine r_nmM (fun τ1 eτ1 => ?_)
  have h := h τ1 eτ1
  refine r_iload_n (x := x1) d_X12_copy_5 rfl ?_
  refine x_callSI (Y2 := mX12_isShelf) (As := [(0, x1)]) (S := []) d_X12_copy_6 ok_mX12_isShelf ml_X12_199 rfl (Nat.le_of_ble_eq_true rfl) (Nat.le_of_ble_eq_true rfl) rfl hd_1 (c_X12_isShelf (v_X12_isShelf_0 he_1 ?_))
  refine ⟨fun hc => ?_, fun hc => ?_⟩
  · have h := h.1 hc
    show WP l mX12_copy (rm d 0 0) noX _ 0 0 9 [(2, t), (0, x1), (0, x2)] [(0, 0)] N Λ τ1
    refine r_if_eq (tgt := 19) d_X12_copy_9 rfl (fun _ => ?_) (fun hc => absurd hc (by decide))
    refine r_bipush (x := (-2)) d_X12_copy_19 ⟨by decide, by decide⟩ (by decide) ?_
    exact r_iret d_X12_copy_21 rfl rfl (Nat.le_refl 0) (Nat.le_refl 0) ⟨_, rfl, rfl, rfl, h⟩
  · have h := h.2 hc
    refine ⟨fun hc => ?_, fun hc => ?_⟩
    · have h := h.1 hc
      show WP l mX12_copy (rm d 0 0) noX _ 0 0 9 [(2, t), (0, x1), (0, x2)] [(0, 0)] N Λ τ1
      refine r_if_eq (tgt := 19) d_X12_copy_9 rfl (fun _ => ?_) (fun hc => absurd hc (by decide))
      refine r_bipush (x := (-2)) d_X12_copy_19 ⟨by decide, by decide⟩ (by decide) ?_
      exact r_iret d_X12_copy_21 rfl rfl (Nat.le_refl 0) (Nat.le_refl 0) ⟨_, rfl, rfl, rfl, h⟩
    · have h := h.2 hc
      show WP l mX12_copy (rm d 0 0) noX _ 0 0 9 [(2, t), (0, x1), (0, x2)] [(0, 1)] N Λ τ1
      refine r_if_eq (tgt := 19) d_X12_copy_9 rfl (fun hc => absurd hc (by decide)) (fun _ => ?_)
      refine r_iload_n (x := x2) d_X12_copy_12 rfl ?_
      refine x_callSI (Y2 := mX12_isShelf) (As := [(0, x2)]) (S := []) d_X12_copy_13 ok_mX12_isShelf ml_X12_199 rfl (Nat.le_of_ble_eq_true rfl) (Nat.le_of_ble_eq_true rfl) rfl hd_1 (c_X12_isShelf (v_X12_isShelf_0 he_1 ?_))
      refine ⟨fun hc => ?_, fun hc => ?_⟩
      · have h := h.1 hc
        show WP l mX12_copy (rm d 0 0) noX _ 0 0 16 [(2, t), (0, x1), (0, x2)] [(0, 0)] N Λ τ1
        refine r_if_ne (tgt := 22) d_X12_copy_16 rfl (fun hc => absurd hc (by decide)) (fun _ => ?_)
        refine r_bipush (x := (-2)) d_X12_copy_19 ⟨by decide, by decide⟩ (by decide) ?_
        exact r_iret d_X12_copy_21 rfl rfl (Nat.le_refl 0) (Nat.le_refl 0) ⟨_, rfl, rfl, rfl, h⟩
      · have h := h.2 hc
        refine ⟨fun hc => ?_, fun hc => ?_⟩
        · have h := h.1 hc
          show WP l mX12_copy (rm d 0 0) noX _ 0 0 16 [(2, t), (0, x1), (0, x2)] [(0, 0)] N Λ τ1
          refine r_if_ne (tgt := 22) d_X12_copy_16 rfl (fun hc => absurd hc (by decide)) (fun _ => ?_)
          refine r_bipush (x := (-2)) d_X12_copy_19 ⟨by decide, by decide⟩ (by decide) ?_
          exact r_iret d_X12_copy_21 rfl rfl (Nat.le_refl 0) (Nat.le_refl 0) ⟨_, rfl, rfl, rfl, h⟩
        · have h := h.2 hc
          show WP l mX12_copy (rm d 0 0) noX _ 0 0 16 [(2, t), (0, x1), (0, x2)] [(0, 1)] N Λ τ1
          refine r_if_ne (tgt := 22) d_X12_copy_16 rfl (fun _ => ?_) (fun hc => absurd hc (by decide))
          refine r_aload_n (x := t) d_X12_copy_22 rfl o_t.1 ?_
          refine x_callVV (Y2 := mX12_begins) (c := t) (As := []) (S := []) d_X12_copy_23 ok_mX12_begins ml_X12_202 rfl (Nat.le_of_ble_eq_true rfl) (Nat.le_of_ble_eq_true rfl) rfl hd_1 kX12 o_t (CV.mono h (fun σ2 h => ?_))
          refine r_aload_n (x := t) d_X12_copy_26 rfl o_t.1 ?_
          refine r_iload_n (x := x2) d_X12_copy_27 rfl ?_
          refine r_iconst (x := 0) d_X12_copy_28 ⟨by decide, by decide⟩ ?_
          refine x_callVV (Y2 := mX12_takes) (c := t) (As := [(0, x2), (0, 0)]) (S := []) d_X12_copy_29 ok_mX12_takes ml_X12_205 rfl (Nat.le_of_ble_eq_true rfl) (Nat.le_of_ble_eq_true rfl) rfl hd_1 kX12 o_t (CV.mono h (fun σ3 h => ?_))
          refine r_aload_n (x := t) d_X12_copy_32 rfl o_t.1 ?_
          refine r_iload_n (x := x1) d_X12_copy_33 rfl ?_
          refine x_callVI (Y2 := mX12_becomes) (c := t) (As := [(0, x1)]) (S := []) d_X12_copy_34 ok_mX12_becomes ml_X12_190 rfl (Nat.le_of_ble_eq_true rfl) (Nat.le_of_ble_eq_true rfl) rfl hd_1 kX12 o_t (CI.mono h (fun v5 σ4 h => ?_))
          exact r_iret d_X12_copy_37 rfl rfl (Nat.le_refl 0) (Nat.le_refl 0) ⟨_, rfl, rfl, rfl, h⟩
theorem u_X12_bracket_0 {l : Launch} {d N : Nat} {Λ : Lay} {P : Int → Mem → Prop} {σ : Mem} {x1 x2 x3 x4 t : Int} (o_t : Ob N Λ t 21 36) (h0d : 2 ≤ d)
    (h : (∀ τ1, τ1 = st σ t 0 0 → (((cmpL x1 0) < 0 → P (-2) τ1) ∧ (¬ ((cmpL x1 0) < 0) → ((0 < (cmpL x1 5) → P (-2) τ1) ∧ (¬ (0 < (cmpL x1 5)) → (((cmpL x2 0) < 0 → P (-2) τ1) ∧ (¬ ((cmpL x2 0) < 0) → ((0 < (cmpL x2 9) → P (-2) τ1) ∧ (¬ (0 < (cmpL x2 9)) → (((cmpL x3 0) < 0 → P (-2) τ1) ∧ (¬ ((cmpL x3 0) < 0) → ((0 < (cmpL x3 9) → P (-2) τ1) ∧ (¬ (0 < (cmpL x3 9)) → (((cmpL x4 0) < 0 → P (-2) τ1) ∧ (¬ ((cmpL x4 0) < 0) → ((0 < (cmpL x4 9) → P (-2) τ1) ∧ (¬ (0 < (cmpL x4 9)) → (CV l mX12_begins (d - 1) [(2, t)] N Λ τ1 (fun σ2 => (CV l mX12_putsBracket (d - 1) [(2, t), (0, x2), (0, x3), (0, x4), (0, 0)] N Λ σ2 (fun σ3 => (CI l mX12_becomes (d - 1) [(2, t), (0, x1)] N Λ σ3 (fun v5 σ4 => P v5 σ4)))))))))))))))))))))))) :
    WI l mX12_bracket d P 0 [(2, t), (0, x1), (0, x2), (0, x3), (0, x4)] [] N Λ σ := by
  have hd_1 : 1 ≤ d := Nat.le_trans (by decide) h0d
  have he_1 : 1 ≤ d - 1 := Nat.le_sub_of_add_le (Nat.le_trans (by decide) h0d)
  refine r_aload_n (x := t) d_X12_bracket_0 rfl o_t.1 ?_
  refine r_iconst (x := 0) d_X12_bracket_1 ⟨by decide, by decide⟩ ?_
  refine r_putI (j := 0) d_X12_bracket_2 kX12 (by decide) fl_X12_1 rfl o_t.1 o_t.2.1 o_t.2.2.1 o_t.2.2.2 rfl ?_
  refine r_nmM (fun τ1 eτ1 => ?_)
  have h := h τ1 eτ1
  refine r_iload_n (x := x1) d_X12_bracket_5 rfl ?_
  refine x_callSI (Y2 := mX12_isShelf) (As := [(0, x1)]) (S := []) d_X12_bracket_6 ok_mX12_isShelf ml_X12_199 rfl (Nat.le_of_ble_eq_true rfl) (Nat.le_of_ble_eq_true rfl) rfl hd_1 (c_X12_isShelf (v_X12_isShelf_0 he_1 ?_))
  refine ⟨fun hc => ?_, fun hc => ?_⟩
  · have h := h.1 hc
    show WP l mX12_bracket (rm d 0 0) noX _ 0 0 9 [(2, t), (0, x1), (0, x2), (0, x3), (0, x4)] [(0, 0)] N Λ τ1
    refine r_if_eq (tgt := 34) d_X12_bracket_9 rfl (fun _ => ?_) (fun hc => absurd hc (by decide))
    refine r_bipush (x := (-2)) d_X12_bracket_34 ⟨by decide, by decide⟩ (by decide) ?_
    exact r_iret d_X12_bracket_36 rfl rfl (Nat.le_refl 0) (Nat.le_refl 0) ⟨_, rfl, rfl, rfl, h⟩
  · have h := h.2 hc
    refine ⟨fun hc => ?_, fun hc => ?_⟩
    · have h := h.1 hc
      show WP l mX12_bracket (rm d 0 0) noX _ 0 0 9 [(2, t), (0, x1), (0, x2), (0, x3), (0, x4)] [(0, 0)] N Λ τ1
      refine r_if_eq (tgt := 34) d_X12_bracket_9 rfl (fun _ => ?_) (fun hc => absurd hc (by decide))
      refine r_bipush (x := (-2)) d_X12_bracket_34 ⟨by decide, by decide⟩ (by decide) ?_
      exact r_iret d_X12_bracket_36 rfl rfl (Nat.le_refl 0) (Nat.le_refl 0) ⟨_, rfl, rfl, rfl, h⟩
    · have h := h.2 hc
      show WP l mX12_bracket (rm d 0 0) noX _ 0 0 9 [(2, t), (0, x1), (0, x2), (0, x3), (0, x4)] [(0, 1)] N Λ τ1
      refine r_if_eq (tgt := 34) d_X12_bracket_9 rfl (fun hc => absurd hc (by decide)) (fun _ => ?_)
      refine r_iload_n (x := x2) d_X12_bracket_12 rfl ?_
      refine x_callSI (Y2 := mX12_isLetter) (As := [(0, x2)]) (S := []) d_X12_bracket_13 ok_mX12_isLetter ml_X12_208 rfl (Nat.le_of_ble_eq_true rfl) (Nat.le_of_ble_eq_true rfl) rfl hd_1 (c_X12_isLetter (v_X12_isLetter_0 he_1 ?_))
      refine ⟨fun hc => ?_, fun hc => ?_⟩
      · have h := h.1 hc
        show WP l mX12_bracket (rm d 0 0) noX _ 0 0 16 [(2, t), (0, x1), (0, x2), (0, x3), (0, x4)] [(0, 0)] N Λ τ1
        refine r_if_eq (tgt := 34) d_X12_bracket_16 rfl (fun _ => ?_) (fun hc => absurd hc (by decide))
        refine r_bipush (x := (-2)) d_X12_bracket_34 ⟨by decide, by decide⟩ (by decide) ?_
        exact r_iret d_X12_bracket_36 rfl rfl (Nat.le_refl 0) (Nat.le_refl 0) ⟨_, rfl, rfl, rfl, h⟩
      · have h := h.2 hc
        refine ⟨fun hc => ?_, fun hc => ?_⟩
        · have h := h.1 hc
          show WP l mX12_bracket (rm d 0 0) noX _ 0 0 16 [(2, t), (0, x1), (0, x2), (0, x3), (0, x4)] [(0, 0)] N Λ τ1
          refine r_if_eq (tgt := 34) d_X12_bracket_16 rfl (fun _ => ?_) (fun hc => absurd hc (by decide))
          refine r_bipush (x := (-2)) d_X12_bracket_34 ⟨by decide, by decide⟩ (by decide) ?_
          exact r_iret d_X12_bracket_36 rfl rfl (Nat.le_refl 0) (Nat.le_refl 0) ⟨_, rfl, rfl, rfl, h⟩
        · have h := h.2 hc
          show WP l mX12_bracket (rm d 0 0) noX _ 0 0 16 [(2, t), (0, x1), (0, x2), (0, x3), (0, x4)] [(0, 1)] N Λ τ1
          refine r_if_eq (tgt := 34) d_X12_bracket_16 rfl (fun hc => absurd hc (by decide)) (fun _ => ?_)
          refine r_iload_n (x := x3) d_X12_bracket_19 rfl ?_
          refine x_callSI (Y2 := mX12_isLetter) (As := [(0, x3)]) (S := []) d_X12_bracket_20 ok_mX12_isLetter ml_X12_208 rfl (Nat.le_of_ble_eq_true rfl) (Nat.le_of_ble_eq_true rfl) rfl hd_1 (c_X12_isLetter (v_X12_isLetter_0 he_1 ?_))
          refine ⟨fun hc => ?_, fun hc => ?_⟩
          · have h := h.1 hc
            show WP l mX12_bracket (rm d 0 0) noX _ 0 0 23 [(2, t), (0, x1), (0, x2), (0, x3), (0, x4)] [(0, 0)] N Λ τ1
            refine r_if_eq (tgt := 34) d_X12_bracket_23 rfl (fun _ => ?_) (fun hc => absurd hc (by decide))
            refine r_bipush (x := (-2)) d_X12_bracket_34 ⟨by decide, by decide⟩ (by decide) ?_
            exact r_iret d_X12_bracket_36 rfl rfl (Nat.le_refl 0) (Nat.le_refl 0) ⟨_, rfl, rfl, rfl, h⟩
          · have h := h.2 hc
            refine ⟨fun hc => ?_, fun hc => ?_⟩
            · have h := h.1 hc
              show WP l mX12_bracket (rm d 0 0) noX _ 0 0 23 [(2, t), (0, x1), (0, x2), (0, x3), (0, x4)] [(0, 0)] N Λ τ1
              refine r_if_eq (tgt := 34) d_X12_bracket_23 rfl (fun _ => ?_) (fun hc => absurd hc (by decide))
              refine r_bipush (x := (-2)) d_X12_bracket_34 ⟨by decide, by decide⟩ (by decide) ?_
              exact r_iret d_X12_bracket_36 rfl rfl (Nat.le_refl 0) (Nat.le_refl 0) ⟨_, rfl, rfl, rfl, h⟩
            · have h := h.2 hc
              show WP l mX12_bracket (rm d 0 0) noX _ 0 0 23 [(2, t), (0, x1), (0, x2), (0, x3), (0, x4)] [(0, 1)] N Λ τ1
              refine r_if_eq (tgt := 34) d_X12_bracket_23 rfl (fun hc => absurd hc (by decide)) (fun _ => ?_)
              refine r_iload (x := x4) d_X12_bracket_26 rfl ?_
              refine x_callSI (Y2 := mX12_isLetter) (As := [(0, x4)]) (S := []) d_X12_bracket_28 ok_mX12_isLetter ml_X12_208 rfl (Nat.le_of_ble_eq_true rfl) (Nat.le_of_ble_eq_true rfl) rfl hd_1 (c_X12_isLetter (v_X12_isLetter_0 he_1 ?_))
              refine ⟨fun hc => ?_, fun hc => ?_⟩
              · have h := h.1 hc
                show WP l mX12_bracket (rm d 0 0) noX _ 0 0 31 [(2, t), (0, x1), (0, x2), (0, x3), (0, x4)] [(0, 0)] N Λ τ1
                refine r_if_ne (tgt := 37) d_X12_bracket_31 rfl (fun hc => absurd hc (by decide)) (fun _ => ?_)
                refine r_bipush (x := (-2)) d_X12_bracket_34 ⟨by decide, by decide⟩ (by decide) ?_
                exact r_iret d_X12_bracket_36 rfl rfl (Nat.le_refl 0) (Nat.le_refl 0) ⟨_, rfl, rfl, rfl, h⟩
              · have h := h.2 hc
                refine ⟨fun hc => ?_, fun hc => ?_⟩
                · have h := h.1 hc
                  show WP l mX12_bracket (rm d 0 0) noX _ 0 0 31 [(2, t), (0, x1), (0, x2), (0, x3), (0, x4)] [(0, 0)] N Λ τ1
                  refine r_if_ne (tgt := 37) d_X12_bracket_31 rfl (fun hc => absurd hc (by decide)) (fun _ => ?_)
                  refine r_bipush (x := (-2)) d_X12_bracket_34 ⟨by decide, by decide⟩ (by decide) ?_
                  exact r_iret d_X12_bracket_36 rfl rfl (Nat.le_refl 0) (Nat.le_refl 0) ⟨_, rfl, rfl, rfl, h⟩
                · have h := h.2 hc
                  show WP l mX12_bracket (rm d 0 0) noX _ 0 0 31 [(2, t), (0, x1), (0, x2), (0, x3), (0, x4)] [(0, 1)] N Λ τ1
                  refine r_if_ne (tgt := 37) d_X12_bracket_31 rfl (fun _ => ?_) (fun hc => absurd hc (by decide))
                  refine r_aload_n (x := t) d_X12_bracket_37 rfl o_t.1 ?_
                  refine x_callVV (Y2 := mX12_begins) (c := t) (As := []) (S := []) d_X12_bracket_38 ok_mX12_begins ml_X12_202 rfl (Nat.le_of_ble_eq_true rfl) (Nat.le_of_ble_eq_true rfl) rfl hd_1 kX12 o_t (CV.mono h (fun σ2 h => ?_))
                  refine r_aload_n (x := t) d_X12_bracket_41 rfl o_t.1 ?_
                  refine r_iload_n (x := x2) d_X12_bracket_42 rfl ?_
                  refine r_iload_n (x := x3) d_X12_bracket_43 rfl ?_
                  refine r_iload (x := x4) d_X12_bracket_44 rfl ?_
                  refine r_iconst (x := 0) d_X12_bracket_46 ⟨by decide, by decide⟩ ?_
                  refine x_callVV (Y2 := mX12_putsBracket) (c := t) (As := [(0, x2), (0, x3), (0, x4), (0, 0)]) (S := []) d_X12_bracket_47 ok_mX12_putsBracket ml_X12_211 rfl (Nat.le_of_ble_eq_true rfl) (Nat.le_of_ble_eq_true rfl) rfl hd_1 kX12 o_t (CV.mono h (fun σ3 h => ?_))
                  refine r_aload_n (x := t) d_X12_bracket_50 rfl o_t.1 ?_
                  refine r_iload_n (x := x1) d_X12_bracket_51 rfl ?_
                  refine x_callVI (Y2 := mX12_becomes) (c := t) (As := [(0, x1)]) (S := []) d_X12_bracket_52 ok_mX12_becomes ml_X12_190 rfl (Nat.le_of_ble_eq_true rfl) (Nat.le_of_ble_eq_true rfl) rfl hd_1 kX12 o_t (CI.mono h (fun v5 σ4 h => ?_))
                  exact r_iret d_X12_bracket_55 rfl rfl (Nat.le_refl 0) (Nat.le_refl 0) ⟨_, rfl, rfl, rfl, h⟩
theorem u_X12_exchange_0 {l : Launch} {d N : Nat} {Λ : Lay} {P : Int → Mem → Prop} {σ : Mem} {x1 x2 x3 x4 t : Int} (o_t : Ob N Λ t 21 36) (h0d : 2 ≤ d)
    (h : (∀ τ1, τ1 = st σ t 0 0 → (((cmpL x1 0) < 0 → P (-2) τ1) ∧ (¬ ((cmpL x1 0) < 0) → ((0 < (cmpL x1 5) → P (-2) τ1) ∧ (¬ (0 < (cmpL x1 5)) → (((cmpL x2 0) < 0 → P (-3) τ1) ∧ (¬ ((cmpL x2 0) < 0) → ((0 < (cmpL x2 999) → P (-3) τ1) ∧ (¬ (0 < (cmpL x2 999)) → (((cmpL x3 0) < 0 → P (-3) τ1) ∧ (¬ ((cmpL x3 0) < 0) → ((0 < (cmpL x3 999) → P (-3) τ1) ∧ (¬ (0 < (cmpL x3 999)) → (((cmpL x4 1) < 0 → P (-3) τ1) ∧ (¬ ((cmpL x4 1) < 0) → ((0 < (cmpL x4 3) → P (-3) τ1) ∧ (¬ (0 < (cmpL x4 3)) → (CV l mX12_begins (d - 1) [(2, t)] N Λ τ1 (fun σ2 => WI l mX12_exchange d P 62 [(2, t), (0, x1), (0, x2), (0, x3), (0, x4), (0, 0), (3, 0)] [] N Λ σ2)))))))))))))))))))) :
    WI l mX12_exchange d P 0 [(2, t), (0, x1), (0, x2), (0, x3), (0, x4), (3, 0), (3, 0)] [] N Λ σ := by
  have hd_1 : 1 ≤ d := Nat.le_trans (by decide) h0d
  have he_1 : 1 ≤ d - 1 := Nat.le_sub_of_add_le (Nat.le_trans (by decide) h0d)
  refine r_aload_n (x := t) d_X12_exchange_0 rfl o_t.1 ?_
  refine r_iconst (x := 0) d_X12_exchange_1 ⟨by decide, by decide⟩ ?_
  refine r_putI (j := 0) d_X12_exchange_2 kX12 (by decide) fl_X12_1 rfl o_t.1 o_t.2.1 o_t.2.2.1 o_t.2.2.2 rfl ?_
  refine r_nmM (fun τ1 eτ1 => ?_)
  have h := h τ1 eτ1
  refine r_iload_n (x := x1) d_X12_exchange_5 rfl ?_
  refine x_callSI (Y2 := mX12_isShelf) (As := [(0, x1)]) (S := []) d_X12_exchange_6 ok_mX12_isShelf ml_X12_199 rfl (Nat.le_of_ble_eq_true rfl) (Nat.le_of_ble_eq_true rfl) rfl hd_1 (c_X12_isShelf (v_X12_isShelf_0 he_1 ?_))
  refine ⟨fun hc => ?_, fun hc => ?_⟩
  · have h := h.1 hc
    show WP l mX12_exchange (rm d 0 0) noX _ 0 0 9 [(2, t), (0, x1), (0, x2), (0, x3), (0, x4), (3, 0), (3, 0)] [(0, 0)] N Λ τ1
    refine r_if_ne (tgt := 15) d_X12_exchange_9 rfl (fun hc => absurd hc (by decide)) (fun _ => ?_)
    refine r_bipush (x := (-2)) d_X12_exchange_12 ⟨by decide, by decide⟩ (by decide) ?_
    exact r_iret d_X12_exchange_14 rfl rfl (Nat.le_refl 0) (Nat.le_refl 0) ⟨_, rfl, rfl, rfl, h⟩
  · have h := h.2 hc
    refine ⟨fun hc => ?_, fun hc => ?_⟩
    · have h := h.1 hc
      show WP l mX12_exchange (rm d 0 0) noX _ 0 0 9 [(2, t), (0, x1), (0, x2), (0, x3), (0, x4), (3, 0), (3, 0)] [(0, 0)] N Λ τ1
      refine r_if_ne (tgt := 15) d_X12_exchange_9 rfl (fun hc => absurd hc (by decide)) (fun _ => ?_)
      refine r_bipush (x := (-2)) d_X12_exchange_12 ⟨by decide, by decide⟩ (by decide) ?_
      exact r_iret d_X12_exchange_14 rfl rfl (Nat.le_refl 0) (Nat.le_refl 0) ⟨_, rfl, rfl, rfl, h⟩
    · have h := h.2 hc
      show WP l mX12_exchange (rm d 0 0) noX _ 0 0 9 [(2, t), (0, x1), (0, x2), (0, x3), (0, x4), (3, 0), (3, 0)] [(0, 1)] N Λ τ1
      refine r_if_ne (tgt := 15) d_X12_exchange_9 rfl (fun _ => ?_) (fun hc => absurd hc (by decide))
      refine r_iload_n (x := x2) d_X12_exchange_15 rfl ?_
      refine r_i2l d_X12_exchange_16 ?_
      refine r_lconst d_X12_exchange_17 ?_
      skip
      refine r_ldc2 (x := 999) d_X12_exchange_18 ck_X12_214 (by decide) ?_
      refine x_callSI (Y2 := mX12_within) (As := [(1, x2), (1, 0), (1, 999)]) (S := []) d_X12_exchange_21 ok_mX12_within ml_X12_91 rfl (Nat.le_of_ble_eq_true rfl) (Nat.le_of_ble_eq_true rfl) rfl hd_1 (c_X12_within (v_X12_within_0 ?_))
      refine ⟨fun hc => ?_, fun hc => ?_⟩
      · have h := h.1 hc
        show WP l mX12_exchange (rm d 0 0) noX _ 0 0 24 [(2, t), (0, x1), (0, x2), (0, x3), (0, x4), (3, 0), (3, 0)] [(0, 0)] N Λ τ1
        refine r_if_eq (tgt := 52) d_X12_exchange_24 rfl (fun _ => ?_) (fun hc => absurd hc (by decide))
        refine r_bipush (x := (-3)) d_X12_exchange_52 ⟨by decide, by decide⟩ (by decide) ?_
        exact r_iret d_X12_exchange_54 rfl rfl (Nat.le_refl 0) (Nat.le_refl 0) ⟨_, rfl, rfl, rfl, h⟩
      · have h := h.2 hc
        refine ⟨fun hc => ?_, fun hc => ?_⟩
        · have h := h.1 hc
          show WP l mX12_exchange (rm d 0 0) noX _ 0 0 24 [(2, t), (0, x1), (0, x2), (0, x3), (0, x4), (3, 0), (3, 0)] [(0, 0)] N Λ τ1
          refine r_if_eq (tgt := 52) d_X12_exchange_24 rfl (fun _ => ?_) (fun hc => absurd hc (by decide))
          refine r_bipush (x := (-3)) d_X12_exchange_52 ⟨by decide, by decide⟩ (by decide) ?_
          exact r_iret d_X12_exchange_54 rfl rfl (Nat.le_refl 0) (Nat.le_refl 0) ⟨_, rfl, rfl, rfl, h⟩
        · have h := h.2 hc
          show WP l mX12_exchange (rm d 0 0) noX _ 0 0 24 [(2, t), (0, x1), (0, x2), (0, x3), (0, x4), (3, 0), (3, 0)] [(0, 1)] N Λ τ1
          refine r_if_eq (tgt := 52) d_X12_exchange_24 rfl (fun hc => absurd hc (by decide)) (fun _ => ?_)
          refine r_iload_n (x := x3) d_X12_exchange_27 rfl ?_
          refine r_i2l d_X12_exchange_28 ?_
          refine r_lconst d_X12_exchange_29 ?_
          skip
          refine r_ldc2 (x := 999) d_X12_exchange_30 ck_X12_214 (by decide) ?_
          refine x_callSI (Y2 := mX12_within) (As := [(1, x3), (1, 0), (1, 999)]) (S := []) d_X12_exchange_33 ok_mX12_within ml_X12_91 rfl (Nat.le_of_ble_eq_true rfl) (Nat.le_of_ble_eq_true rfl) rfl hd_1 (c_X12_within (v_X12_within_0 ?_))
          refine ⟨fun hc => ?_, fun hc => ?_⟩
          · have h := h.1 hc
            show WP l mX12_exchange (rm d 0 0) noX _ 0 0 36 [(2, t), (0, x1), (0, x2), (0, x3), (0, x4), (3, 0), (3, 0)] [(0, 0)] N Λ τ1
            refine r_if_eq (tgt := 52) d_X12_exchange_36 rfl (fun _ => ?_) (fun hc => absurd hc (by decide))
            refine r_bipush (x := (-3)) d_X12_exchange_52 ⟨by decide, by decide⟩ (by decide) ?_
            exact r_iret d_X12_exchange_54 rfl rfl (Nat.le_refl 0) (Nat.le_refl 0) ⟨_, rfl, rfl, rfl, h⟩
          · have h := h.2 hc
            refine ⟨fun hc => ?_, fun hc => ?_⟩
            · have h := h.1 hc
              show WP l mX12_exchange (rm d 0 0) noX _ 0 0 36 [(2, t), (0, x1), (0, x2), (0, x3), (0, x4), (3, 0), (3, 0)] [(0, 0)] N Λ τ1
              refine r_if_eq (tgt := 52) d_X12_exchange_36 rfl (fun _ => ?_) (fun hc => absurd hc (by decide))
              refine r_bipush (x := (-3)) d_X12_exchange_52 ⟨by decide, by decide⟩ (by decide) ?_
              exact r_iret d_X12_exchange_54 rfl rfl (Nat.le_refl 0) (Nat.le_refl 0) ⟨_, rfl, rfl, rfl, h⟩
            · have h := h.2 hc
              show WP l mX12_exchange (rm d 0 0) noX _ 0 0 36 [(2, t), (0, x1), (0, x2), (0, x3), (0, x4), (3, 0), (3, 0)] [(0, 1)] N Λ τ1
              refine r_if_eq (tgt := 52) d_X12_exchange_36 rfl (fun hc => absurd hc (by decide)) (fun _ => ?_)
              refine r_iload (x := x4) d_X12_exchange_39 rfl ?_
              refine r_i2l d_X12_exchange_41 ?_
              refine r_lconst d_X12_exchange_42 ?_
              skip
              refine r_ldc2 (x := 3) d_X12_exchange_43 ck_X12_216 (by decide) ?_
              refine x_callSI (Y2 := mX12_within) (As := [(1, x4), (1, 1), (1, 3)]) (S := []) d_X12_exchange_46 ok_mX12_within ml_X12_91 rfl (Nat.le_of_ble_eq_true rfl) (Nat.le_of_ble_eq_true rfl) rfl hd_1 (c_X12_within (v_X12_within_0 ?_))
              refine ⟨fun hc => ?_, fun hc => ?_⟩
              · have h := h.1 hc
                show WP l mX12_exchange (rm d 0 0) noX _ 0 0 49 [(2, t), (0, x1), (0, x2), (0, x3), (0, x4), (3, 0), (3, 0)] [(0, 0)] N Λ τ1
                refine r_if_ne (tgt := 55) d_X12_exchange_49 rfl (fun hc => absurd hc (by decide)) (fun _ => ?_)
                refine r_bipush (x := (-3)) d_X12_exchange_52 ⟨by decide, by decide⟩ (by decide) ?_
                exact r_iret d_X12_exchange_54 rfl rfl (Nat.le_refl 0) (Nat.le_refl 0) ⟨_, rfl, rfl, rfl, h⟩
              · have h := h.2 hc
                refine ⟨fun hc => ?_, fun hc => ?_⟩
                · have h := h.1 hc
                  show WP l mX12_exchange (rm d 0 0) noX _ 0 0 49 [(2, t), (0, x1), (0, x2), (0, x3), (0, x4), (3, 0), (3, 0)] [(0, 0)] N Λ τ1
                  refine r_if_ne (tgt := 55) d_X12_exchange_49 rfl (fun hc => absurd hc (by decide)) (fun _ => ?_)
                  refine r_bipush (x := (-3)) d_X12_exchange_52 ⟨by decide, by decide⟩ (by decide) ?_
                  exact r_iret d_X12_exchange_54 rfl rfl (Nat.le_refl 0) (Nat.le_refl 0) ⟨_, rfl, rfl, rfl, h⟩
                · have h := h.2 hc
                  show WP l mX12_exchange (rm d 0 0) noX _ 0 0 49 [(2, t), (0, x1), (0, x2), (0, x3), (0, x4), (3, 0), (3, 0)] [(0, 1)] N Λ τ1
                  refine r_if_ne (tgt := 55) d_X12_exchange_49 rfl (fun _ => ?_) (fun hc => absurd hc (by decide))
                  refine r_aload_n (x := t) d_X12_exchange_55 rfl o_t.1 ?_
                  refine x_callVV (Y2 := mX12_begins) (c := t) (As := []) (S := []) d_X12_exchange_56 ok_mX12_begins ml_X12_202 rfl (Nat.le_of_ble_eq_true rfl) (Nat.le_of_ble_eq_true rfl) rfl hd_1 kX12 o_t (CV.mono h (fun σ2 h => ?_))
                  refine r_iconst (x := 0) d_X12_exchange_59 ⟨by decide, by decide⟩ ?_
                  refine r_istore (L2 := [(2, t), (0, x1), (0, x2), (0, x3), (0, x4), (0, 0), (3, 0)]) d_X12_exchange_60 (by decide) rfl rfl ?_
                  exact h
theorem u_X12_exchange_62 {l : Launch} {d N : Nat} {Λ : Lay} {P : Int → Mem → Prop} {σ : Mem} {x1 x2 x3 x4 x5 t t_rowX t_rowY : Int} (o_t : Ob N Λ t 21 36) (f_t_rowX : (Λ t).2.2 10 = t_rowX) (f_t_rowY : (Λ t).2.2 11 = t_rowY) (h0d : 1 ≤ d)
    (h : ((3 ≤ x5 → (CV l mX12_exchanges (d - 1) [(2, t), (0, x4), (0, 0), (1, 1), (0, 0)] N Λ σ (fun σ1 => (CI l mX12_becomes (d - 1) [(2, t), (0, x1)] N Λ σ1 (fun v3 σ2 => P v3 σ2))))) ∧ (¬ (3 ≤ x5) → ((¬ x5 = 0 → ((¬ x5 = 1 → (Ix N Λ t_rowX 0 x5 ∧ (∀ τ4, τ4 = st σ t_rowX x5 (remI (divI x2 1) 10) → (Ix N Λ t_rowY 0 x5 ∧ (∀ τ5, τ5 = st τ4 t_rowY x5 (remI (divI x3 1) 10) → (∀ y6, y6 = addI x5 1 → WI l mX12_exchange d P 62 [(2, t), (0, x1), (0, x2), (0, x3), (0, x4), (0, y6), (3, 0)] [] N Λ τ5)))))) ∧ (x5 = 1 → (Ix N Λ t_rowX 0 x5 ∧ (∀ τ7, τ7 = st σ t_rowX x5 (remI (divI x2 10) 10) → (Ix N Λ t_rowY 0 x5 ∧ (∀ τ8, τ8 = st τ7 t_rowY x5 (remI (divI x3 10) 10) → (∀ y9, y9 = addI x5 1 → WI l mX12_exchange d P 62 [(2, t), (0, x1), (0, x2), (0, x3), (0, x4), (0, y9), (3, 0)] [] N Λ τ8)))))))) ∧ (x5 = 0 → (Ix N Λ t_rowX 0 x5 ∧ (∀ τ10, τ10 = st σ t_rowX x5 (remI (divI x2 100) 10) → (Ix N Λ t_rowY 0 x5 ∧ (∀ τ11, τ11 = st τ10 t_rowY x5 (remI (divI x3 100) 10) → (∀ y12, y12 = addI x5 1 → WI l mX12_exchange d P 62 [(2, t), (0, x1), (0, x2), (0, x3), (0, x4), (0, y12), (3, 0)] [] N Λ τ11)))))))))) :
    WI l mX12_exchange d P 62 [(2, t), (0, x1), (0, x2), (0, x3), (0, x4), (0, x5), (3, 0)] [] N Λ σ := by
  have hd_1 : 1 ≤ d := Nat.le_trans (by decide) h0d
  refine r_iload (x := x5) d_X12_exchange_62 rfl ?_
  refine r_iconst (x := 3) d_X12_exchange_64 ⟨by decide, by decide⟩ ?_
  refine r_ic_ge (tgt := 126) d_X12_exchange_65 rfl (fun hc => ?_) (fun hc => ?_)
  · have h := h.1 hc
    refine r_aload_n (x := t) d_X12_exchange_126 rfl o_t.1 ?_
    refine r_iload (x := x4) d_X12_exchange_127 rfl ?_
    refine r_iconst (x := 0) d_X12_exchange_129 ⟨by decide, by decide⟩ ?_
    refine r_lconst d_X12_exchange_130 ?_
    skip
    refine r_iconst (x := 0) d_X12_exchange_131 ⟨by decide, by decide⟩ ?_
    refine x_callVV (Y2 := mX12_exchanges) (c := t) (As := [(0, x4), (0, 0), (1, 1), (0, 0)]) (S := []) d_X12_exchange_132 ok_mX12_exchanges ml_X12_174 rfl (Nat.le_of_ble_eq_true rfl) (Nat.le_of_ble_eq_true rfl) rfl hd_1 kX12 o_t (CV.mono h (fun σ1 h => ?_))
    refine r_aload_n (x := t) d_X12_exchange_135 rfl o_t.1 ?_
    refine r_iload_n (x := x1) d_X12_exchange_136 rfl ?_
    refine x_callVI (Y2 := mX12_becomes) (c := t) (As := [(0, x1)]) (S := []) d_X12_exchange_137 ok_mX12_becomes ml_X12_190 rfl (Nat.le_of_ble_eq_true rfl) (Nat.le_of_ble_eq_true rfl) rfl hd_1 kX12 o_t (CI.mono h (fun v3 σ2 h => ?_))
    exact r_iret d_X12_exchange_140 rfl rfl (Nat.le_refl 0) (Nat.le_refl 0) ⟨_, rfl, rfl, rfl, h⟩
  · have h := h.2 hc
    refine r_iload (x := x5) d_X12_exchange_68 rfl ?_
    refine r_if_ne (tgt := 78) d_X12_exchange_70 rfl (fun hc => ?_) (fun hc => ?_)
    · have h := h.1 hc
      refine r_iload (x := x5) d_X12_exchange_78 rfl ?_
      refine r_iconst (x := 1) d_X12_exchange_80 ⟨by decide, by decide⟩ ?_
      refine r_ic_ne (tgt := 89) d_X12_exchange_81 rfl (fun hc => ?_) (fun hc => ?_)
      · have h := h.1 hc
        refine r_iconst (x := 1) d_X12_exchange_89 ⟨by decide, by decide⟩ ?_
        refine r_istore (L2 := [(2, t), (0, x1), (0, x2), (0, x3), (0, x4), (0, x5), (0, 1)]) d_X12_exchange_90 (by decide) rfl rfl ?_
        refine r_aload_n (x := t) d_X12_exchange_92 rfl o_t.1 ?_
        refine r_getf (j := 10) (t := 2) (x := t_rowX) d_X12_exchange_93 kX12 (by decide) fl_X12_36 o_t.1 o_t.2.1 o_t.2.2.1 o_t.2.2.2 rfl f_t_rowX ?_
        refine r_iload (x := x5) d_X12_exchange_96 rfl ?_
        refine r_iload_n (x := x2) d_X12_exchange_98 rfl ?_
        refine r_iload (x := 1) d_X12_exchange_99 rfl ?_
        refine r_idiv d_X12_exchange_101 (by decide) ?_
        refine r_bipush (x := 10) d_X12_exchange_102 ⟨by decide, by decide⟩ (by decide) ?_
        refine r_irem d_X12_exchange_104 (by decide) ?_
        refine x_iast d_X12_exchange_105 h.1 ?_
        have h := h.2
        refine r_nmM (fun τ4 eτ4 => ?_)
        have h := h τ4 eτ4
        refine r_aload_n (x := t) d_X12_exchange_106 rfl o_t.1 ?_
        refine r_getf (j := 11) (t := 2) (x := t_rowY) d_X12_exchange_107 kX12 (by decide) fl_X12_39 o_t.1 o_t.2.1 o_t.2.2.1 o_t.2.2.2 rfl f_t_rowY ?_
        refine r_iload (x := x5) d_X12_exchange_110 rfl ?_
        refine r_iload_n (x := x3) d_X12_exchange_112 rfl ?_
        refine r_iload (x := 1) d_X12_exchange_113 rfl ?_
        refine r_idiv d_X12_exchange_115 (by decide) ?_
        refine r_bipush (x := 10) d_X12_exchange_116 ⟨by decide, by decide⟩ (by decide) ?_
        refine r_irem d_X12_exchange_118 (by decide) ?_
        refine x_iast d_X12_exchange_119 h.1 ?_
        have h := h.2
        refine r_nmM (fun τ5 eτ5 => ?_)
        have h := h τ5 eτ5
        refine x_iinc (x := x5) (L := [(2, t), (0, x1), (0, x2), (0, x3), (0, x4), (0, x5), (0, 1)]) d_X12_exchange_120 rfl (by decide) rfl (fun y6 ey6 => ?_)
        have h := h y6 ey6
        show WP _ _ _ _ _ _ _ _ [(2, t), (0, x1), (0, x2), (0, x3), (0, x4), (0, y6), (0, 1)] _ _ _ _
        refine r_goto (tgt := 62) d_X12_exchange_123 rfl ?_
        exact x_mask h ⟨Or.inr rfl, Or.inr rfl, Or.inr rfl, Or.inr rfl, Or.inr rfl, Or.inr rfl, Or.inl rfl, trivial⟩
      · have h := h.2 hc
        refine r_bipush (x := 10) d_X12_exchange_84 ⟨by decide, by decide⟩ (by decide) ?_
        refine r_goto (tgt := 90) d_X12_exchange_86 rfl ?_
        refine r_istore (L2 := [(2, t), (0, x1), (0, x2), (0, x3), (0, x4), (0, x5), (0, 10)]) d_X12_exchange_90 (by decide) rfl rfl ?_
        refine r_aload_n (x := t) d_X12_exchange_92 rfl o_t.1 ?_
        refine r_getf (j := 10) (t := 2) (x := t_rowX) d_X12_exchange_93 kX12 (by decide) fl_X12_36 o_t.1 o_t.2.1 o_t.2.2.1 o_t.2.2.2 rfl f_t_rowX ?_
        refine r_iload (x := x5) d_X12_exchange_96 rfl ?_
        refine r_iload_n (x := x2) d_X12_exchange_98 rfl ?_
        refine r_iload (x := 10) d_X12_exchange_99 rfl ?_
        refine r_idiv d_X12_exchange_101 (by decide) ?_
        refine r_bipush (x := 10) d_X12_exchange_102 ⟨by decide, by decide⟩ (by decide) ?_
        refine r_irem d_X12_exchange_104 (by decide) ?_
        refine x_iast d_X12_exchange_105 h.1 ?_
        have h := h.2
        refine r_nmM (fun τ7 eτ7 => ?_)
        have h := h τ7 eτ7
        refine r_aload_n (x := t) d_X12_exchange_106 rfl o_t.1 ?_
        refine r_getf (j := 11) (t := 2) (x := t_rowY) d_X12_exchange_107 kX12 (by decide) fl_X12_39 o_t.1 o_t.2.1 o_t.2.2.1 o_t.2.2.2 rfl f_t_rowY ?_
        refine r_iload (x := x5) d_X12_exchange_110 rfl ?_
        refine r_iload_n (x := x3) d_X12_exchange_112 rfl ?_
        refine r_iload (x := 10) d_X12_exchange_113 rfl ?_
        refine r_idiv d_X12_exchange_115 (by decide) ?_
        refine r_bipush (x := 10) d_X12_exchange_116 ⟨by decide, by decide⟩ (by decide) ?_
        refine r_irem d_X12_exchange_118 (by decide) ?_
        refine x_iast d_X12_exchange_119 h.1 ?_
        have h := h.2
        refine r_nmM (fun τ8 eτ8 => ?_)
        have h := h τ8 eτ8
        refine x_iinc (x := x5) (L := [(2, t), (0, x1), (0, x2), (0, x3), (0, x4), (0, x5), (0, 10)]) d_X12_exchange_120 rfl (by decide) rfl (fun y9 ey9 => ?_)
        have h := h y9 ey9
        show WP _ _ _ _ _ _ _ _ [(2, t), (0, x1), (0, x2), (0, x3), (0, x4), (0, y9), (0, 10)] _ _ _ _
        refine r_goto (tgt := 62) d_X12_exchange_123 rfl ?_
        exact x_mask h ⟨Or.inr rfl, Or.inr rfl, Or.inr rfl, Or.inr rfl, Or.inr rfl, Or.inr rfl, Or.inl rfl, trivial⟩
    · have h := h.2 hc
      refine r_bipush (x := 100) d_X12_exchange_73 ⟨by decide, by decide⟩ (by decide) ?_
      refine r_goto (tgt := 90) d_X12_exchange_75 rfl ?_
      refine r_istore (L2 := [(2, t), (0, x1), (0, x2), (0, x3), (0, x4), (0, x5), (0, 100)]) d_X12_exchange_90 (by decide) rfl rfl ?_
      refine r_aload_n (x := t) d_X12_exchange_92 rfl o_t.1 ?_
      refine r_getf (j := 10) (t := 2) (x := t_rowX) d_X12_exchange_93 kX12 (by decide) fl_X12_36 o_t.1 o_t.2.1 o_t.2.2.1 o_t.2.2.2 rfl f_t_rowX ?_
      refine r_iload (x := x5) d_X12_exchange_96 rfl ?_
      refine r_iload_n (x := x2) d_X12_exchange_98 rfl ?_
      refine r_iload (x := 100) d_X12_exchange_99 rfl ?_
      refine r_idiv d_X12_exchange_101 (by decide) ?_
      refine r_bipush (x := 10) d_X12_exchange_102 ⟨by decide, by decide⟩ (by decide) ?_
      refine r_irem d_X12_exchange_104 (by decide) ?_
      refine x_iast d_X12_exchange_105 h.1 ?_
      have h := h.2
      refine r_nmM (fun τ10 eτ10 => ?_)
      have h := h τ10 eτ10
      refine r_aload_n (x := t) d_X12_exchange_106 rfl o_t.1 ?_
      refine r_getf (j := 11) (t := 2) (x := t_rowY) d_X12_exchange_107 kX12 (by decide) fl_X12_39 o_t.1 o_t.2.1 o_t.2.2.1 o_t.2.2.2 rfl f_t_rowY ?_
      refine r_iload (x := x5) d_X12_exchange_110 rfl ?_
      refine r_iload_n (x := x3) d_X12_exchange_112 rfl ?_
      refine r_iload (x := 100) d_X12_exchange_113 rfl ?_
      refine r_idiv d_X12_exchange_115 (by decide) ?_
      refine r_bipush (x := 10) d_X12_exchange_116 ⟨by decide, by decide⟩ (by decide) ?_
      refine r_irem d_X12_exchange_118 (by decide) ?_
      refine x_iast d_X12_exchange_119 h.1 ?_
      have h := h.2
      refine r_nmM (fun τ11 eτ11 => ?_)
      have h := h τ11 eτ11
      refine x_iinc (x := x5) (L := [(2, t), (0, x1), (0, x2), (0, x3), (0, x4), (0, x5), (0, 100)]) d_X12_exchange_120 rfl (by decide) rfl (fun y12 ey12 => ?_)
      have h := h y12 ey12
      show WP _ _ _ _ _ _ _ _ [(2, t), (0, x1), (0, x2), (0, x3), (0, x4), (0, y12), (0, 100)] _ _ _ _
      refine r_goto (tgt := 62) d_X12_exchange_123 rfl ?_
      exact x_mask h ⟨Or.inr rfl, Or.inr rfl, Or.inr rfl, Or.inr rfl, Or.inr rfl, Or.inr rfl, Or.inl rfl, trivial⟩
theorem u_X12_add_0 {l : Launch} {d N : Nat} {Λ : Lay} {P : Int → Mem → Prop} {σ : Mem} {x1 x2 x3 x4 x5 t : Int} (o_t : Ob N Λ t 21 36) (h0d : 2 ≤ d)
    (h : (∀ τ1, τ1 = st σ t 0 0 → (((cmpL x1 0) < 0 → (CI l mX12_refused (d - 1) [(2, t), (0, (-2))] N Λ τ1 (fun v3 σ2 => P v3 σ2))) ∧ (¬ ((cmpL x1 0) < 0) → ((0 < (cmpL x1 5) → (CI l mX12_refused (d - 1) [(2, t), (0, (-2))] N Λ τ1 (fun v5 σ4 => P v5 σ4))) ∧ (¬ (0 < (cmpL x1 5)) → (((cmpL x2 0) < 0 → (CI l mX12_refused (d - 1) [(2, t), (0, (-2))] N Λ τ1 (fun v7 σ6 => P v7 σ6))) ∧ (¬ ((cmpL x2 0) < 0) → ((0 < (cmpL x2 5) → (CI l mX12_refused (d - 1) [(2, t), (0, (-2))] N Λ τ1 (fun v9 σ8 => P v9 σ8))) ∧ (¬ (0 < (cmpL x2 5)) → (((cmpL x4 0) < 0 → (CI l mX12_refused (d - 1) [(2, t), (0, (-2))] N Λ τ1 (fun v11 σ10 => P v11 σ10))) ∧ (¬ ((cmpL x4 0) < 0) → ((0 < (cmpL x4 5) → (CI l mX12_refused (d - 1) [(2, t), (0, (-2))] N Λ τ1 (fun v13 σ12 => P v13 σ12))) ∧ (¬ (0 < (cmpL x4 5)) → (((cmpL x3 (-99)) < 0 → (CI l mX12_refused (d - 1) [(2, t), (0, (-3))] N Λ τ1 (fun v15 σ14 => P v15 σ14))) ∧ (¬ ((cmpL x3 (-99)) < 0) → ((0 < (cmpL x3 99) → (CI l mX12_refused (d - 1) [(2, t), (0, (-3))] N Λ τ1 (fun v17 σ16 => P v17 σ16))) ∧ (¬ (0 < (cmpL x3 99)) → (((cmpL x5 (-99)) < 0 → (CI l mX12_refused (d - 1) [(2, t), (0, (-3))] N Λ τ1 (fun v19 σ18 => P v19 σ18))) ∧ (¬ ((cmpL x5 (-99)) < 0) → ((0 < (cmpL x5 99) → (CI l mX12_refused (d - 1) [(2, t), (0, (-3))] N Λ τ1 (fun v21 σ20 => P v21 σ20))) ∧ (¬ (0 < (cmpL x5 99)) → (CV l mX12_begins (d - 1) [(2, t)] N Λ τ1 (fun σ22 => (CV l mX12_putsTimes (d - 1) [(2, t), (0, x2), (0, x3)] N Λ σ22 (fun σ23 => (CV l mX12_putsTimes (d - 1) [(2, t), (0, x4), (0, x5)] N Λ σ23 (fun σ24 => (CI l mX12_ends (d - 1) [(2, t), (0, x1)] N Λ σ24 (fun v26 σ25 => P v26 σ25)))))))))))))))))))))))))))))) :
    WI l mX12_add d P 0 [(2, t), (0, x1), (0, x2), (0, x3), (0, x4), (0, x5)] [] N Λ σ := by
  have hd_1 : 1 ≤ d := Nat.le_trans (by decide) h0d
  have he_1 : 1 ≤ d - 1 := Nat.le_sub_of_add_le (Nat.le_trans (by decide) h0d)
  refine r_aload_n (x := t) d_X12_add_0 rfl o_t.1 ?_
  refine r_iconst (x := 0) d_X12_add_1 ⟨by decide, by decide⟩ ?_
  refine r_putI (j := 0) d_X12_add_2 kX12 (by decide) fl_X12_1 rfl o_t.1 o_t.2.1 o_t.2.2.1 o_t.2.2.2 rfl ?_
  refine r_nmM (fun τ1 eτ1 => ?_)
  have h := h τ1 eτ1
  refine r_iload_n (x := x1) d_X12_add_5 rfl ?_
  refine x_callSI (Y2 := mX12_isShelf) (As := [(0, x1)]) (S := []) d_X12_add_6 ok_mX12_isShelf ml_X12_199 rfl (Nat.le_of_ble_eq_true rfl) (Nat.le_of_ble_eq_true rfl) rfl hd_1 (c_X12_isShelf (v_X12_isShelf_0 he_1 ?_))
  refine ⟨fun hc => ?_, fun hc => ?_⟩
  · have h := h.1 hc
    show WP l mX12_add (rm d 0 0) noX _ 0 0 9 [(2, t), (0, x1), (0, x2), (0, x3), (0, x4), (0, x5)] [(0, 0)] N Λ τ1
    refine r_if_eq (tgt := 27) d_X12_add_9 rfl (fun _ => ?_) (fun hc => absurd hc (by decide))
    refine r_aload_n (x := t) d_X12_add_27 rfl o_t.1 ?_
    refine r_bipush (x := (-2)) d_X12_add_28 ⟨by decide, by decide⟩ (by decide) ?_
    refine x_callVI (Y2 := mX12_refused) (c := t) (As := [(0, (-2))]) (S := []) d_X12_add_30 ok_mX12_refused ml_X12_218 rfl (Nat.le_of_ble_eq_true rfl) (Nat.le_of_ble_eq_true rfl) rfl hd_1 kX12 o_t (CI.mono h (fun v3 σ2 h => ?_))
    exact r_iret d_X12_add_33 rfl rfl (Nat.le_refl 0) (Nat.le_refl 0) ⟨_, rfl, rfl, rfl, h⟩
  · have h := h.2 hc
    refine ⟨fun hc => ?_, fun hc => ?_⟩
    · have h := h.1 hc
      show WP l mX12_add (rm d 0 0) noX _ 0 0 9 [(2, t), (0, x1), (0, x2), (0, x3), (0, x4), (0, x5)] [(0, 0)] N Λ τ1
      refine r_if_eq (tgt := 27) d_X12_add_9 rfl (fun _ => ?_) (fun hc => absurd hc (by decide))
      refine r_aload_n (x := t) d_X12_add_27 rfl o_t.1 ?_
      refine r_bipush (x := (-2)) d_X12_add_28 ⟨by decide, by decide⟩ (by decide) ?_
      refine x_callVI (Y2 := mX12_refused) (c := t) (As := [(0, (-2))]) (S := []) d_X12_add_30 ok_mX12_refused ml_X12_218 rfl (Nat.le_of_ble_eq_true rfl) (Nat.le_of_ble_eq_true rfl) rfl hd_1 kX12 o_t (CI.mono h (fun v5 σ4 h => ?_))
      exact r_iret d_X12_add_33 rfl rfl (Nat.le_refl 0) (Nat.le_refl 0) ⟨_, rfl, rfl, rfl, h⟩
    · have h := h.2 hc
      show WP l mX12_add (rm d 0 0) noX _ 0 0 9 [(2, t), (0, x1), (0, x2), (0, x3), (0, x4), (0, x5)] [(0, 1)] N Λ τ1
      refine r_if_eq (tgt := 27) d_X12_add_9 rfl (fun hc => absurd hc (by decide)) (fun _ => ?_)
      refine r_iload_n (x := x2) d_X12_add_12 rfl ?_
      refine x_callSI (Y2 := mX12_isShelf) (As := [(0, x2)]) (S := []) d_X12_add_13 ok_mX12_isShelf ml_X12_199 rfl (Nat.le_of_ble_eq_true rfl) (Nat.le_of_ble_eq_true rfl) rfl hd_1 (c_X12_isShelf (v_X12_isShelf_0 he_1 ?_))
      refine ⟨fun hc => ?_, fun hc => ?_⟩
      · have h := h.1 hc
        show WP l mX12_add (rm d 0 0) noX _ 0 0 16 [(2, t), (0, x1), (0, x2), (0, x3), (0, x4), (0, x5)] [(0, 0)] N Λ τ1
        refine r_if_eq (tgt := 27) d_X12_add_16 rfl (fun _ => ?_) (fun hc => absurd hc (by decide))
        refine r_aload_n (x := t) d_X12_add_27 rfl o_t.1 ?_
        refine r_bipush (x := (-2)) d_X12_add_28 ⟨by decide, by decide⟩ (by decide) ?_
        refine x_callVI (Y2 := mX12_refused) (c := t) (As := [(0, (-2))]) (S := []) d_X12_add_30 ok_mX12_refused ml_X12_218 rfl (Nat.le_of_ble_eq_true rfl) (Nat.le_of_ble_eq_true rfl) rfl hd_1 kX12 o_t (CI.mono h (fun v7 σ6 h => ?_))
        exact r_iret d_X12_add_33 rfl rfl (Nat.le_refl 0) (Nat.le_refl 0) ⟨_, rfl, rfl, rfl, h⟩
      · have h := h.2 hc
        refine ⟨fun hc => ?_, fun hc => ?_⟩
        · have h := h.1 hc
          show WP l mX12_add (rm d 0 0) noX _ 0 0 16 [(2, t), (0, x1), (0, x2), (0, x3), (0, x4), (0, x5)] [(0, 0)] N Λ τ1
          refine r_if_eq (tgt := 27) d_X12_add_16 rfl (fun _ => ?_) (fun hc => absurd hc (by decide))
          refine r_aload_n (x := t) d_X12_add_27 rfl o_t.1 ?_
          refine r_bipush (x := (-2)) d_X12_add_28 ⟨by decide, by decide⟩ (by decide) ?_
          refine x_callVI (Y2 := mX12_refused) (c := t) (As := [(0, (-2))]) (S := []) d_X12_add_30 ok_mX12_refused ml_X12_218 rfl (Nat.le_of_ble_eq_true rfl) (Nat.le_of_ble_eq_true rfl) rfl hd_1 kX12 o_t (CI.mono h (fun v9 σ8 h => ?_))
          exact r_iret d_X12_add_33 rfl rfl (Nat.le_refl 0) (Nat.le_refl 0) ⟨_, rfl, rfl, rfl, h⟩
        · have h := h.2 hc
          show WP l mX12_add (rm d 0 0) noX _ 0 0 16 [(2, t), (0, x1), (0, x2), (0, x3), (0, x4), (0, x5)] [(0, 1)] N Λ τ1
          refine r_if_eq (tgt := 27) d_X12_add_16 rfl (fun hc => absurd hc (by decide)) (fun _ => ?_)
          refine r_iload (x := x4) d_X12_add_19 rfl ?_
          refine x_callSI (Y2 := mX12_isShelf) (As := [(0, x4)]) (S := []) d_X12_add_21 ok_mX12_isShelf ml_X12_199 rfl (Nat.le_of_ble_eq_true rfl) (Nat.le_of_ble_eq_true rfl) rfl hd_1 (c_X12_isShelf (v_X12_isShelf_0 he_1 ?_))
          refine ⟨fun hc => ?_, fun hc => ?_⟩
          · have h := h.1 hc
            show WP l mX12_add (rm d 0 0) noX _ 0 0 24 [(2, t), (0, x1), (0, x2), (0, x3), (0, x4), (0, x5)] [(0, 0)] N Λ τ1
            refine r_if_ne (tgt := 34) d_X12_add_24 rfl (fun hc => absurd hc (by decide)) (fun _ => ?_)
            refine r_aload_n (x := t) d_X12_add_27 rfl o_t.1 ?_
            refine r_bipush (x := (-2)) d_X12_add_28 ⟨by decide, by decide⟩ (by decide) ?_
            refine x_callVI (Y2 := mX12_refused) (c := t) (As := [(0, (-2))]) (S := []) d_X12_add_30 ok_mX12_refused ml_X12_218 rfl (Nat.le_of_ble_eq_true rfl) (Nat.le_of_ble_eq_true rfl) rfl hd_1 kX12 o_t (CI.mono h (fun v11 σ10 h => ?_))
            exact r_iret d_X12_add_33 rfl rfl (Nat.le_refl 0) (Nat.le_refl 0) ⟨_, rfl, rfl, rfl, h⟩
          · have h := h.2 hc
            refine ⟨fun hc => ?_, fun hc => ?_⟩
            · have h := h.1 hc
              show WP l mX12_add (rm d 0 0) noX _ 0 0 24 [(2, t), (0, x1), (0, x2), (0, x3), (0, x4), (0, x5)] [(0, 0)] N Λ τ1
              refine r_if_ne (tgt := 34) d_X12_add_24 rfl (fun hc => absurd hc (by decide)) (fun _ => ?_)
              refine r_aload_n (x := t) d_X12_add_27 rfl o_t.1 ?_
              refine r_bipush (x := (-2)) d_X12_add_28 ⟨by decide, by decide⟩ (by decide) ?_
              refine x_callVI (Y2 := mX12_refused) (c := t) (As := [(0, (-2))]) (S := []) d_X12_add_30 ok_mX12_refused ml_X12_218 rfl (Nat.le_of_ble_eq_true rfl) (Nat.le_of_ble_eq_true rfl) rfl hd_1 kX12 o_t (CI.mono h (fun v13 σ12 h => ?_))
              exact r_iret d_X12_add_33 rfl rfl (Nat.le_refl 0) (Nat.le_refl 0) ⟨_, rfl, rfl, rfl, h⟩
            · have h := h.2 hc
              show WP l mX12_add (rm d 0 0) noX _ 0 0 24 [(2, t), (0, x1), (0, x2), (0, x3), (0, x4), (0, x5)] [(0, 1)] N Λ τ1
              refine r_if_ne (tgt := 34) d_X12_add_24 rfl (fun _ => ?_) (fun hc => absurd hc (by decide))
              refine r_iload_n (x := x3) d_X12_add_34 rfl ?_
              refine r_i2l d_X12_add_35 ?_
              refine r_ldc2 (x := (-99)) d_X12_add_36 ck_X12_221 (by decide) ?_
              refine r_ldc2 (x := 99) d_X12_add_39 ck_X12_223 (by decide) ?_
              refine x_callSI (Y2 := mX12_within) (As := [(1, x3), (1, (-99)), (1, 99)]) (S := []) d_X12_add_42 ok_mX12_within ml_X12_91 rfl (Nat.le_of_ble_eq_true rfl) (Nat.le_of_ble_eq_true rfl) rfl hd_1 (c_X12_within (v_X12_within_0 ?_))
              refine ⟨fun hc => ?_, fun hc => ?_⟩
              · have h := h.1 hc
                show WP l mX12_add (rm d 0 0) noX _ 0 0 45 [(2, t), (0, x1), (0, x2), (0, x3), (0, x4), (0, x5)] [(0, 0)] N Λ τ1
                refine r_if_eq (tgt := 63) d_X12_add_45 rfl (fun _ => ?_) (fun hc => absurd hc (by decide))
                refine r_aload_n (x := t) d_X12_add_63 rfl o_t.1 ?_
                refine r_bipush (x := (-3)) d_X12_add_64 ⟨by decide, by decide⟩ (by decide) ?_
                refine x_callVI (Y2 := mX12_refused) (c := t) (As := [(0, (-3))]) (S := []) d_X12_add_66 ok_mX12_refused ml_X12_218 rfl (Nat.le_of_ble_eq_true rfl) (Nat.le_of_ble_eq_true rfl) rfl hd_1 kX12 o_t (CI.mono h (fun v15 σ14 h => ?_))
                exact r_iret d_X12_add_69 rfl rfl (Nat.le_refl 0) (Nat.le_refl 0) ⟨_, rfl, rfl, rfl, h⟩
              · have h := h.2 hc
                refine ⟨fun hc => ?_, fun hc => ?_⟩
                · have h := h.1 hc
                  show WP l mX12_add (rm d 0 0) noX _ 0 0 45 [(2, t), (0, x1), (0, x2), (0, x3), (0, x4), (0, x5)] [(0, 0)] N Λ τ1
                  refine r_if_eq (tgt := 63) d_X12_add_45 rfl (fun _ => ?_) (fun hc => absurd hc (by decide))
                  refine r_aload_n (x := t) d_X12_add_63 rfl o_t.1 ?_
                  refine r_bipush (x := (-3)) d_X12_add_64 ⟨by decide, by decide⟩ (by decide) ?_
                  refine x_callVI (Y2 := mX12_refused) (c := t) (As := [(0, (-3))]) (S := []) d_X12_add_66 ok_mX12_refused ml_X12_218 rfl (Nat.le_of_ble_eq_true rfl) (Nat.le_of_ble_eq_true rfl) rfl hd_1 kX12 o_t (CI.mono h (fun v17 σ16 h => ?_))
                  exact r_iret d_X12_add_69 rfl rfl (Nat.le_refl 0) (Nat.le_refl 0) ⟨_, rfl, rfl, rfl, h⟩
                · have h := h.2 hc
                  show WP l mX12_add (rm d 0 0) noX _ 0 0 45 [(2, t), (0, x1), (0, x2), (0, x3), (0, x4), (0, x5)] [(0, 1)] N Λ τ1
                  refine r_if_eq (tgt := 63) d_X12_add_45 rfl (fun hc => absurd hc (by decide)) (fun _ => ?_)
                  refine r_iload (x := x5) d_X12_add_48 rfl ?_
                  refine r_i2l d_X12_add_50 ?_
                  refine r_ldc2 (x := (-99)) d_X12_add_51 ck_X12_221 (by decide) ?_
                  refine r_ldc2 (x := 99) d_X12_add_54 ck_X12_223 (by decide) ?_
                  refine x_callSI (Y2 := mX12_within) (As := [(1, x5), (1, (-99)), (1, 99)]) (S := []) d_X12_add_57 ok_mX12_within ml_X12_91 rfl (Nat.le_of_ble_eq_true rfl) (Nat.le_of_ble_eq_true rfl) rfl hd_1 (c_X12_within (v_X12_within_0 ?_))
                  refine ⟨fun hc => ?_, fun hc => ?_⟩
                  · have h := h.1 hc
                    show WP l mX12_add (rm d 0 0) noX _ 0 0 60 [(2, t), (0, x1), (0, x2), (0, x3), (0, x4), (0, x5)] [(0, 0)] N Λ τ1
                    refine r_if_ne (tgt := 70) d_X12_add_60 rfl (fun hc => absurd hc (by decide)) (fun _ => ?_)
                    refine r_aload_n (x := t) d_X12_add_63 rfl o_t.1 ?_
                    refine r_bipush (x := (-3)) d_X12_add_64 ⟨by decide, by decide⟩ (by decide) ?_
                    refine x_callVI (Y2 := mX12_refused) (c := t) (As := [(0, (-3))]) (S := []) d_X12_add_66 ok_mX12_refused ml_X12_218 rfl (Nat.le_of_ble_eq_true rfl) (Nat.le_of_ble_eq_true rfl) rfl hd_1 kX12 o_t (CI.mono h (fun v19 σ18 h => ?_))
                    exact r_iret d_X12_add_69 rfl rfl (Nat.le_refl 0) (Nat.le_refl 0) ⟨_, rfl, rfl, rfl, h⟩
                  · have h := h.2 hc
                    refine ⟨fun hc => ?_, fun hc => ?_⟩
                    · have h := h.1 hc
                      show WP l mX12_add (rm d 0 0) noX _ 0 0 60 [(2, t), (0, x1), (0, x2), (0, x3), (0, x4), (0, x5)] [(0, 0)] N Λ τ1
                      refine r_if_ne (tgt := 70) d_X12_add_60 rfl (fun hc => absurd hc (by decide)) (fun _ => ?_)
                      refine r_aload_n (x := t) d_X12_add_63 rfl o_t.1 ?_
                      refine r_bipush (x := (-3)) d_X12_add_64 ⟨by decide, by decide⟩ (by decide) ?_
                      refine x_callVI (Y2 := mX12_refused) (c := t) (As := [(0, (-3))]) (S := []) d_X12_add_66 ok_mX12_refused ml_X12_218 rfl (Nat.le_of_ble_eq_true rfl) (Nat.le_of_ble_eq_true rfl) rfl hd_1 kX12 o_t (CI.mono h (fun v21 σ20 h => ?_))
                      exact r_iret d_X12_add_69 rfl rfl (Nat.le_refl 0) (Nat.le_refl 0) ⟨_, rfl, rfl, rfl, h⟩
                    · have h := h.2 hc
                      show WP l mX12_add (rm d 0 0) noX _ 0 0 60 [(2, t), (0, x1), (0, x2), (0, x3), (0, x4), (0, x5)] [(0, 1)] N Λ τ1
                      refine r_if_ne (tgt := 70) d_X12_add_60 rfl (fun _ => ?_) (fun hc => absurd hc (by decide))
                      refine r_aload_n (x := t) d_X12_add_70 rfl o_t.1 ?_
                      refine x_callVV (Y2 := mX12_begins) (c := t) (As := []) (S := []) d_X12_add_71 ok_mX12_begins ml_X12_202 rfl (Nat.le_of_ble_eq_true rfl) (Nat.le_of_ble_eq_true rfl) rfl hd_1 kX12 o_t (CV.mono h (fun σ22 h => ?_))
                      refine r_aload_n (x := t) d_X12_add_74 rfl o_t.1 ?_
                      refine r_iload_n (x := x2) d_X12_add_75 rfl ?_
                      refine r_iload_n (x := x3) d_X12_add_76 rfl ?_
                      refine x_callVV (Y2 := mX12_putsTimes) (c := t) (As := [(0, x2), (0, x3)]) (S := []) d_X12_add_77 ok_mX12_putsTimes ml_X12_225 rfl (Nat.le_of_ble_eq_true rfl) (Nat.le_of_ble_eq_true rfl) rfl hd_1 kX12 o_t (CV.mono h (fun σ23 h => ?_))
                      refine r_aload_n (x := t) d_X12_add_80 rfl o_t.1 ?_
                      refine r_iload (x := x4) d_X12_add_81 rfl ?_
                      refine r_iload (x := x5) d_X12_add_83 rfl ?_
                      refine x_callVV (Y2 := mX12_putsTimes) (c := t) (As := [(0, x4), (0, x5)]) (S := []) d_X12_add_85 ok_mX12_putsTimes ml_X12_225 rfl (Nat.le_of_ble_eq_true rfl) (Nat.le_of_ble_eq_true rfl) rfl hd_1 kX12 o_t (CV.mono h (fun σ24 h => ?_))
                      refine r_aload_n (x := t) d_X12_add_88 rfl o_t.1 ?_
                      refine r_iload_n (x := x1) d_X12_add_89 rfl ?_
                      refine x_callVI (Y2 := mX12_ends) (c := t) (As := [(0, x1)]) (S := []) d_X12_add_90 ok_mX12_ends ml_X12_228 rfl (Nat.le_of_ble_eq_true rfl) (Nat.le_of_ble_eq_true rfl) rfl hd_1 kX12 o_t (CI.mono h (fun v26 σ25 h => ?_))
                      exact r_iret d_X12_add_93 rfl rfl (Nat.le_refl 0) (Nat.le_refl 0) ⟨_, rfl, rfl, rfl, h⟩
theorem u_X12_times_0 {l : Launch} {d N : Nat} {Λ : Lay} {P : Int → Mem → Prop} {σ : Mem} {x1 x2 x3 t : Int} (o_t : Ob N Λ t 21 36) (h0d : 2 ≤ d)
    (h : (∀ τ1, τ1 = st σ t 0 0 → (((cmpL x1 0) < 0 → (CI l mX12_refused (d - 1) [(2, t), (0, (-2))] N Λ τ1 (fun v3 σ2 => P v3 σ2))) ∧ (¬ ((cmpL x1 0) < 0) → ((0 < (cmpL x1 5) → (CI l mX12_refused (d - 1) [(2, t), (0, (-2))] N Λ τ1 (fun v5 σ4 => P v5 σ4))) ∧ (¬ (0 < (cmpL x1 5)) → (((cmpL x2 0) < 0 → (CI l mX12_refused (d - 1) [(2, t), (0, (-2))] N Λ τ1 (fun v7 σ6 => P v7 σ6))) ∧ (¬ ((cmpL x2 0) < 0) → ((0 < (cmpL x2 5) → (CI l mX12_refused (d - 1) [(2, t), (0, (-2))] N Λ τ1 (fun v9 σ8 => P v9 σ8))) ∧ (¬ (0 < (cmpL x2 5)) → (((cmpL x3 0) < 0 → (CI l mX12_refused (d - 1) [(2, t), (0, (-2))] N Λ τ1 (fun v11 σ10 => P v11 σ10))) ∧ (¬ ((cmpL x3 0) < 0) → ((0 < (cmpL x3 5) → (CI l mX12_refused (d - 1) [(2, t), (0, (-2))] N Λ τ1 (fun v13 σ12 => P v13 σ12))) ∧ (¬ (0 < (cmpL x3 5)) → (CV l mX12_begins (d - 1) [(2, t)] N Λ τ1 (fun σ14 => (CV l mX12_takes (d - 1) [(2, t), (0, x2), (0, 1)] N Λ σ14 (fun σ15 => (CV l mX12_takes (d - 1) [(2, t), (0, x3), (0, 2)] N Λ σ15 (fun σ16 => (CV l mX12_multiplies (d - 1) [(2, t), (0, 1), (0, 2), (0, 1), (0, 0)] N Λ σ16 (fun σ17 => (CI l mX12_ends (d - 1) [(2, t), (0, x1)] N Λ σ17 (fun v19 σ18 => P v19 σ18)))))))))))))))))))))))) :
    WI l mX12_times d P 0 [(2, t), (0, x1), (0, x2), (0, x3)] [] N Λ σ := by
  have hd_1 : 1 ≤ d := Nat.le_trans (by decide) h0d
  have he_1 : 1 ≤ d - 1 := Nat.le_sub_of_add_le (Nat.le_trans (by decide) h0d)
  refine r_aload_n (x := t) d_X12_times_0 rfl o_t.1 ?_
  refine r_iconst (x := 0) d_X12_times_1 ⟨by decide, by decide⟩ ?_
  refine r_putI (j := 0) d_X12_times_2 kX12 (by decide) fl_X12_1 rfl o_t.1 o_t.2.1 o_t.2.2.1 o_t.2.2.2 rfl ?_
  refine r_nmM (fun τ1 eτ1 => ?_)
  have h := h τ1 eτ1
  refine r_iload_n (x := x1) d_X12_times_5 rfl ?_
  refine x_callSI (Y2 := mX12_isShelf) (As := [(0, x1)]) (S := []) d_X12_times_6 ok_mX12_isShelf ml_X12_199 rfl (Nat.le_of_ble_eq_true rfl) (Nat.le_of_ble_eq_true rfl) rfl hd_1 (c_X12_isShelf (v_X12_isShelf_0 he_1 ?_))
  refine ⟨fun hc => ?_, fun hc => ?_⟩
  · have h := h.1 hc
    show WP l mX12_times (rm d 0 0) noX _ 0 0 9 [(2, t), (0, x1), (0, x2), (0, x3)] [(0, 0)] N Λ τ1
    refine r_if_eq (tgt := 26) d_X12_times_9 rfl (fun _ => ?_) (fun hc => absurd hc (by decide))
    refine r_aload_n (x := t) d_X12_times_26 rfl o_t.1 ?_
    refine r_bipush (x := (-2)) d_X12_times_27 ⟨by decide, by decide⟩ (by decide) ?_
    refine x_callVI (Y2 := mX12_refused) (c := t) (As := [(0, (-2))]) (S := []) d_X12_times_29 ok_mX12_refused ml_X12_218 rfl (Nat.le_of_ble_eq_true rfl) (Nat.le_of_ble_eq_true rfl) rfl hd_1 kX12 o_t (CI.mono h (fun v3 σ2 h => ?_))
    exact r_iret d_X12_times_32 rfl rfl (Nat.le_refl 0) (Nat.le_refl 0) ⟨_, rfl, rfl, rfl, h⟩
  · have h := h.2 hc
    refine ⟨fun hc => ?_, fun hc => ?_⟩
    · have h := h.1 hc
      show WP l mX12_times (rm d 0 0) noX _ 0 0 9 [(2, t), (0, x1), (0, x2), (0, x3)] [(0, 0)] N Λ τ1
      refine r_if_eq (tgt := 26) d_X12_times_9 rfl (fun _ => ?_) (fun hc => absurd hc (by decide))
      refine r_aload_n (x := t) d_X12_times_26 rfl o_t.1 ?_
      refine r_bipush (x := (-2)) d_X12_times_27 ⟨by decide, by decide⟩ (by decide) ?_
      refine x_callVI (Y2 := mX12_refused) (c := t) (As := [(0, (-2))]) (S := []) d_X12_times_29 ok_mX12_refused ml_X12_218 rfl (Nat.le_of_ble_eq_true rfl) (Nat.le_of_ble_eq_true rfl) rfl hd_1 kX12 o_t (CI.mono h (fun v5 σ4 h => ?_))
      exact r_iret d_X12_times_32 rfl rfl (Nat.le_refl 0) (Nat.le_refl 0) ⟨_, rfl, rfl, rfl, h⟩
    · have h := h.2 hc
      show WP l mX12_times (rm d 0 0) noX _ 0 0 9 [(2, t), (0, x1), (0, x2), (0, x3)] [(0, 1)] N Λ τ1
      refine r_if_eq (tgt := 26) d_X12_times_9 rfl (fun hc => absurd hc (by decide)) (fun _ => ?_)
      refine r_iload_n (x := x2) d_X12_times_12 rfl ?_
      refine x_callSI (Y2 := mX12_isShelf) (As := [(0, x2)]) (S := []) d_X12_times_13 ok_mX12_isShelf ml_X12_199 rfl (Nat.le_of_ble_eq_true rfl) (Nat.le_of_ble_eq_true rfl) rfl hd_1 (c_X12_isShelf (v_X12_isShelf_0 he_1 ?_))
      refine ⟨fun hc => ?_, fun hc => ?_⟩
      · have h := h.1 hc
        show WP l mX12_times (rm d 0 0) noX _ 0 0 16 [(2, t), (0, x1), (0, x2), (0, x3)] [(0, 0)] N Λ τ1
        refine r_if_eq (tgt := 26) d_X12_times_16 rfl (fun _ => ?_) (fun hc => absurd hc (by decide))
        refine r_aload_n (x := t) d_X12_times_26 rfl o_t.1 ?_
        refine r_bipush (x := (-2)) d_X12_times_27 ⟨by decide, by decide⟩ (by decide) ?_
        refine x_callVI (Y2 := mX12_refused) (c := t) (As := [(0, (-2))]) (S := []) d_X12_times_29 ok_mX12_refused ml_X12_218 rfl (Nat.le_of_ble_eq_true rfl) (Nat.le_of_ble_eq_true rfl) rfl hd_1 kX12 o_t (CI.mono h (fun v7 σ6 h => ?_))
        exact r_iret d_X12_times_32 rfl rfl (Nat.le_refl 0) (Nat.le_refl 0) ⟨_, rfl, rfl, rfl, h⟩
      · have h := h.2 hc
        refine ⟨fun hc => ?_, fun hc => ?_⟩
        · have h := h.1 hc
          show WP l mX12_times (rm d 0 0) noX _ 0 0 16 [(2, t), (0, x1), (0, x2), (0, x3)] [(0, 0)] N Λ τ1
          refine r_if_eq (tgt := 26) d_X12_times_16 rfl (fun _ => ?_) (fun hc => absurd hc (by decide))
          refine r_aload_n (x := t) d_X12_times_26 rfl o_t.1 ?_
          refine r_bipush (x := (-2)) d_X12_times_27 ⟨by decide, by decide⟩ (by decide) ?_
          refine x_callVI (Y2 := mX12_refused) (c := t) (As := [(0, (-2))]) (S := []) d_X12_times_29 ok_mX12_refused ml_X12_218 rfl (Nat.le_of_ble_eq_true rfl) (Nat.le_of_ble_eq_true rfl) rfl hd_1 kX12 o_t (CI.mono h (fun v9 σ8 h => ?_))
          exact r_iret d_X12_times_32 rfl rfl (Nat.le_refl 0) (Nat.le_refl 0) ⟨_, rfl, rfl, rfl, h⟩
        · have h := h.2 hc
          show WP l mX12_times (rm d 0 0) noX _ 0 0 16 [(2, t), (0, x1), (0, x2), (0, x3)] [(0, 1)] N Λ τ1
          refine r_if_eq (tgt := 26) d_X12_times_16 rfl (fun hc => absurd hc (by decide)) (fun _ => ?_)
          refine r_iload_n (x := x3) d_X12_times_19 rfl ?_
          refine x_callSI (Y2 := mX12_isShelf) (As := [(0, x3)]) (S := []) d_X12_times_20 ok_mX12_isShelf ml_X12_199 rfl (Nat.le_of_ble_eq_true rfl) (Nat.le_of_ble_eq_true rfl) rfl hd_1 (c_X12_isShelf (v_X12_isShelf_0 he_1 ?_))
          refine ⟨fun hc => ?_, fun hc => ?_⟩
          · have h := h.1 hc
            show WP l mX12_times (rm d 0 0) noX _ 0 0 23 [(2, t), (0, x1), (0, x2), (0, x3)] [(0, 0)] N Λ τ1
            refine r_if_ne (tgt := 33) d_X12_times_23 rfl (fun hc => absurd hc (by decide)) (fun _ => ?_)
            refine r_aload_n (x := t) d_X12_times_26 rfl o_t.1 ?_
            refine r_bipush (x := (-2)) d_X12_times_27 ⟨by decide, by decide⟩ (by decide) ?_
            refine x_callVI (Y2 := mX12_refused) (c := t) (As := [(0, (-2))]) (S := []) d_X12_times_29 ok_mX12_refused ml_X12_218 rfl (Nat.le_of_ble_eq_true rfl) (Nat.le_of_ble_eq_true rfl) rfl hd_1 kX12 o_t (CI.mono h (fun v11 σ10 h => ?_))
            exact r_iret d_X12_times_32 rfl rfl (Nat.le_refl 0) (Nat.le_refl 0) ⟨_, rfl, rfl, rfl, h⟩
          · have h := h.2 hc
            refine ⟨fun hc => ?_, fun hc => ?_⟩
            · have h := h.1 hc
              show WP l mX12_times (rm d 0 0) noX _ 0 0 23 [(2, t), (0, x1), (0, x2), (0, x3)] [(0, 0)] N Λ τ1
              refine r_if_ne (tgt := 33) d_X12_times_23 rfl (fun hc => absurd hc (by decide)) (fun _ => ?_)
              refine r_aload_n (x := t) d_X12_times_26 rfl o_t.1 ?_
              refine r_bipush (x := (-2)) d_X12_times_27 ⟨by decide, by decide⟩ (by decide) ?_
              refine x_callVI (Y2 := mX12_refused) (c := t) (As := [(0, (-2))]) (S := []) d_X12_times_29 ok_mX12_refused ml_X12_218 rfl (Nat.le_of_ble_eq_true rfl) (Nat.le_of_ble_eq_true rfl) rfl hd_1 kX12 o_t (CI.mono h (fun v13 σ12 h => ?_))
              exact r_iret d_X12_times_32 rfl rfl (Nat.le_refl 0) (Nat.le_refl 0) ⟨_, rfl, rfl, rfl, h⟩
            · have h := h.2 hc
              show WP l mX12_times (rm d 0 0) noX _ 0 0 23 [(2, t), (0, x1), (0, x2), (0, x3)] [(0, 1)] N Λ τ1
              refine r_if_ne (tgt := 33) d_X12_times_23 rfl (fun _ => ?_) (fun hc => absurd hc (by decide))
              refine r_aload_n (x := t) d_X12_times_33 rfl o_t.1 ?_
              refine x_callVV (Y2 := mX12_begins) (c := t) (As := []) (S := []) d_X12_times_34 ok_mX12_begins ml_X12_202 rfl (Nat.le_of_ble_eq_true rfl) (Nat.le_of_ble_eq_true rfl) rfl hd_1 kX12 o_t (CV.mono h (fun σ14 h => ?_))
              refine r_aload_n (x := t) d_X12_times_37 rfl o_t.1 ?_
              refine r_iload_n (x := x2) d_X12_times_38 rfl ?_
              refine r_iconst (x := 1) d_X12_times_39 ⟨by decide, by decide⟩ ?_
              refine x_callVV (Y2 := mX12_takes) (c := t) (As := [(0, x2), (0, 1)]) (S := []) d_X12_times_40 ok_mX12_takes ml_X12_205 rfl (Nat.le_of_ble_eq_true rfl) (Nat.le_of_ble_eq_true rfl) rfl hd_1 kX12 o_t (CV.mono h (fun σ15 h => ?_))
              refine r_aload_n (x := t) d_X12_times_43 rfl o_t.1 ?_
              refine r_iload_n (x := x3) d_X12_times_44 rfl ?_
              refine r_iconst (x := 2) d_X12_times_45 ⟨by decide, by decide⟩ ?_
              refine x_callVV (Y2 := mX12_takes) (c := t) (As := [(0, x3), (0, 2)]) (S := []) d_X12_times_46 ok_mX12_takes ml_X12_205 rfl (Nat.le_of_ble_eq_true rfl) (Nat.le_of_ble_eq_true rfl) rfl hd_1 kX12 o_t (CV.mono h (fun σ16 h => ?_))
              refine r_aload_n (x := t) d_X12_times_49 rfl o_t.1 ?_
              refine r_iconst (x := 1) d_X12_times_50 ⟨by decide, by decide⟩ ?_
              refine r_iconst (x := 2) d_X12_times_51 ⟨by decide, by decide⟩ ?_
              refine r_iconst (x := 1) d_X12_times_52 ⟨by decide, by decide⟩ ?_
              refine r_iconst (x := 0) d_X12_times_53 ⟨by decide, by decide⟩ ?_
              refine x_callVV (Y2 := mX12_multiplies) (c := t) (As := [(0, 1), (0, 2), (0, 1), (0, 0)]) (S := []) d_X12_times_54 ok_mX12_multiplies ml_X12_231 rfl (Nat.le_of_ble_eq_true rfl) (Nat.le_of_ble_eq_true rfl) rfl hd_1 kX12 o_t (CV.mono h (fun σ17 h => ?_))
              refine r_aload_n (x := t) d_X12_times_57 rfl o_t.1 ?_
              refine r_iload_n (x := x1) d_X12_times_58 rfl ?_
              refine x_callVI (Y2 := mX12_ends) (c := t) (As := [(0, x1)]) (S := []) d_X12_times_59 ok_mX12_ends ml_X12_228 rfl (Nat.le_of_ble_eq_true rfl) (Nat.le_of_ble_eq_true rfl) rfl hd_1 kX12 o_t (CI.mono h (fun v19 σ18 h => ?_))
              exact r_iret d_X12_times_62 rfl rfl (Nat.le_refl 0) (Nat.le_refl 0) ⟨_, rfl, rfl, rfl, h⟩
theorem u_X12_put_0 {l : Launch} {d N : Nat} {Λ : Lay} {P : Int → Mem → Prop} {σ : Mem} {x1 x2 x3 x4 t : Int} (o_t : Ob N Λ t 21 36) (h0d : 1 ≤ d)
    (h : (∀ τ1, τ1 = st σ t 0 0 → (CI l mX12_puts_ (d - 1) [(2, t), (0, x1), (0, x2), (0, x3), (0, x4), (0, 0)] N Λ τ1 (fun v3 σ2 => P v3 σ2)))) :
    WI l mX12_put d P 0 [(2, t), (0, x1), (0, x2), (0, x3), (0, x4)] [] N Λ σ := by
  have hd_1 : 1 ≤ d := Nat.le_trans (by decide) h0d
  refine r_aload_n (x := t) d_X12_put_0 rfl o_t.1 ?_
  refine r_iconst (x := 0) d_X12_put_1 ⟨by decide, by decide⟩ ?_
  refine r_putI (j := 0) d_X12_put_2 kX12 (by decide) fl_X12_1 rfl o_t.1 o_t.2.1 o_t.2.2.1 o_t.2.2.2 rfl ?_
  refine r_nmM (fun τ1 eτ1 => ?_)
  have h := h τ1 eτ1
  refine r_aload_n (x := t) d_X12_put_5 rfl o_t.1 ?_
  refine r_iload_n (x := x1) d_X12_put_6 rfl ?_
  refine r_iload_n (x := x2) d_X12_put_7 rfl ?_
  refine r_iload_n (x := x3) d_X12_put_8 rfl ?_
  refine r_iload (x := x4) d_X12_put_9 rfl ?_
  refine r_iconst (x := 0) d_X12_put_11 ⟨by decide, by decide⟩ ?_
  refine x_callVI (Y2 := mX12_puts_) (c := t) (As := [(0, x1), (0, x2), (0, x3), (0, x4), (0, 0)]) (S := []) d_X12_put_12 ok_mX12_puts_ ml_X12_238 rfl (Nat.le_of_ble_eq_true rfl) (Nat.le_of_ble_eq_true rfl) rfl hd_1 kX12 o_t (CI.mono h (fun v3 σ2 h => ?_))
  exact r_iret d_X12_put_15 rfl rfl (Nat.le_refl 0) (Nat.le_refl 0) ⟨_, rfl, rfl, rfl, h⟩
theorem u_X12_turn_0 {l : Launch} {d N : Nat} {Λ : Lay} {P : Int → Mem → Prop} {σ : Mem} {x1 x2 x3 x4 t : Int} (o_t : Ob N Λ t 21 36) (h0d : 1 ≤ d)
    (h : (∀ τ1, τ1 = st σ t 0 0 → (CI l mX12_puts_ (d - 1) [(2, t), (0, x1), (0, x2), (0, x3), (0, x4), (0, 1)] N Λ τ1 (fun v3 σ2 => P v3 σ2)))) :
    WI l mX12_turn d P 0 [(2, t), (0, x1), (0, x2), (0, x3), (0, x4)] [] N Λ σ := by
  have hd_1 : 1 ≤ d := Nat.le_trans (by decide) h0d
  refine r_aload_n (x := t) d_X12_turn_0 rfl o_t.1 ?_
  refine r_iconst (x := 0) d_X12_turn_1 ⟨by decide, by decide⟩ ?_
  refine r_putI (j := 0) d_X12_turn_2 kX12 (by decide) fl_X12_1 rfl o_t.1 o_t.2.1 o_t.2.2.1 o_t.2.2.2 rfl ?_
  refine r_nmM (fun τ1 eτ1 => ?_)
  have h := h τ1 eτ1
  refine r_aload_n (x := t) d_X12_turn_5 rfl o_t.1 ?_
  refine r_iload_n (x := x1) d_X12_turn_6 rfl ?_
  refine r_iload_n (x := x2) d_X12_turn_7 rfl ?_
  refine r_iload_n (x := x3) d_X12_turn_8 rfl ?_
  refine r_iload (x := x4) d_X12_turn_9 rfl ?_
  refine r_iconst (x := 1) d_X12_turn_11 ⟨by decide, by decide⟩ ?_
  refine x_callVI (Y2 := mX12_puts_) (c := t) (As := [(0, x1), (0, x2), (0, x3), (0, x4), (0, 1)]) (S := []) d_X12_turn_12 ok_mX12_puts_ ml_X12_238 rfl (Nat.le_of_ble_eq_true rfl) (Nat.le_of_ble_eq_true rfl) rfl hd_1 kX12 o_t (CI.mono h (fun v3 σ2 h => ?_))
  exact r_iret d_X12_turn_15 rfl rfl (Nat.le_refl 0) (Nat.le_refl 0) ⟨_, rfl, rfl, rfl, h⟩
theorem u_X12_straight_0 {l : Launch} {d N : Nat} {Λ : Lay} {P : Int → Mem → Prop} {σ : Mem} {x1 x2 t : Int} (o_t : Ob N Λ t 21 36) (h0d : 2 ≤ d)
    (h : (∀ τ1, τ1 = st σ t 0 0 → (((cmpL x1 0) < 0 → (CI l mX12_refused (d - 1) [(2, t), (0, (-2))] N Λ τ1 (fun v3 σ2 => P v3 σ2))) ∧ (¬ ((cmpL x1 0) < 0) → ((0 < (cmpL x1 5) → (CI l mX12_refused (d - 1) [(2, t), (0, (-2))] N Λ τ1 (fun v5 σ4 => P v5 σ4))) ∧ (¬ (0 < (cmpL x1 5)) → (((cmpL x2 0) < 0 → (CI l mX12_refused (d - 1) [(2, t), (0, (-2))] N Λ τ1 (fun v7 σ6 => P v7 σ6))) ∧ (¬ ((cmpL x2 0) < 0) → ((0 < (cmpL x2 5) → (CI l mX12_refused (d - 1) [(2, t), (0, (-2))] N Λ τ1 (fun v9 σ8 => P v9 σ8))) ∧ (¬ (0 < (cmpL x2 5)) → (CV l mX12_begins (d - 1) [(2, t)] N Λ τ1 (fun σ10 => (CV l mX12_takes (d - 1) [(2, t), (0, x2), (0, 0)] N Λ σ10 (fun σ11 => (CI l mX12_straightens (d - 1) [(2, t), (0, 0)] N Λ σ11 (fun v13 σ12 => (CI l mX12_ends (d - 1) [(2, t), (0, x1)] N Λ σ12 (fun v15 σ14 => P v15 σ14)))))))))))))))))) :
    WI l mX12_straight d P 0 [(2, t), (0, x1), (0, x2), (3, 0)] [] N Λ σ := by
  have hd_1 : 1 ≤ d := Nat.le_trans (by decide) h0d
  have he_1 : 1 ≤ d - 1 := Nat.le_sub_of_add_le (Nat.le_trans (by decide) h0d)
  refine r_aload_n (x := t) d_X12_straight_0 rfl o_t.1 ?_
  refine r_iconst (x := 0) d_X12_straight_1 ⟨by decide, by decide⟩ ?_
  refine r_putI (j := 0) d_X12_straight_2 kX12 (by decide) fl_X12_1 rfl o_t.1 o_t.2.1 o_t.2.2.1 o_t.2.2.2 rfl ?_
  refine r_nmM (fun τ1 eτ1 => ?_)
  have h := h τ1 eτ1
  refine r_iload_n (x := x1) d_X12_straight_5 rfl ?_
  refine x_callSI (Y2 := mX12_isShelf) (As := [(0, x1)]) (S := []) d_X12_straight_6 ok_mX12_isShelf ml_X12_199 rfl (Nat.le_of_ble_eq_true rfl) (Nat.le_of_ble_eq_true rfl) rfl hd_1 (c_X12_isShelf (v_X12_isShelf_0 he_1 ?_))
  refine ⟨fun hc => ?_, fun hc => ?_⟩
  · have h := h.1 hc
    show WP l mX12_straight (rm d 0 0) noX _ 0 0 9 [(2, t), (0, x1), (0, x2), (3, 0)] [(0, 0)] N Λ τ1
    refine r_if_eq (tgt := 19) d_X12_straight_9 rfl (fun _ => ?_) (fun hc => absurd hc (by decide))
    refine r_aload_n (x := t) d_X12_straight_19 rfl o_t.1 ?_
    refine r_bipush (x := (-2)) d_X12_straight_20 ⟨by decide, by decide⟩ (by decide) ?_
    refine x_callVI (Y2 := mX12_refused) (c := t) (As := [(0, (-2))]) (S := []) d_X12_straight_22 ok_mX12_refused ml_X12_218 rfl (Nat.le_of_ble_eq_true rfl) (Nat.le_of_ble_eq_true rfl) rfl hd_1 kX12 o_t (CI.mono h (fun v3 σ2 h => ?_))
    exact r_iret d_X12_straight_25 rfl rfl (Nat.le_refl 0) (Nat.le_refl 0) ⟨_, rfl, rfl, rfl, h⟩
  · have h := h.2 hc
    refine ⟨fun hc => ?_, fun hc => ?_⟩
    · have h := h.1 hc
      show WP l mX12_straight (rm d 0 0) noX _ 0 0 9 [(2, t), (0, x1), (0, x2), (3, 0)] [(0, 0)] N Λ τ1
      refine r_if_eq (tgt := 19) d_X12_straight_9 rfl (fun _ => ?_) (fun hc => absurd hc (by decide))
      refine r_aload_n (x := t) d_X12_straight_19 rfl o_t.1 ?_
      refine r_bipush (x := (-2)) d_X12_straight_20 ⟨by decide, by decide⟩ (by decide) ?_
      refine x_callVI (Y2 := mX12_refused) (c := t) (As := [(0, (-2))]) (S := []) d_X12_straight_22 ok_mX12_refused ml_X12_218 rfl (Nat.le_of_ble_eq_true rfl) (Nat.le_of_ble_eq_true rfl) rfl hd_1 kX12 o_t (CI.mono h (fun v5 σ4 h => ?_))
      exact r_iret d_X12_straight_25 rfl rfl (Nat.le_refl 0) (Nat.le_refl 0) ⟨_, rfl, rfl, rfl, h⟩
    · have h := h.2 hc
      show WP l mX12_straight (rm d 0 0) noX _ 0 0 9 [(2, t), (0, x1), (0, x2), (3, 0)] [(0, 1)] N Λ τ1
      refine r_if_eq (tgt := 19) d_X12_straight_9 rfl (fun hc => absurd hc (by decide)) (fun _ => ?_)
      refine r_iload_n (x := x2) d_X12_straight_12 rfl ?_
      refine x_callSI (Y2 := mX12_isShelf) (As := [(0, x2)]) (S := []) d_X12_straight_13 ok_mX12_isShelf ml_X12_199 rfl (Nat.le_of_ble_eq_true rfl) (Nat.le_of_ble_eq_true rfl) rfl hd_1 (c_X12_isShelf (v_X12_isShelf_0 he_1 ?_))
      refine ⟨fun hc => ?_, fun hc => ?_⟩
      · have h := h.1 hc
        show WP l mX12_straight (rm d 0 0) noX _ 0 0 16 [(2, t), (0, x1), (0, x2), (3, 0)] [(0, 0)] N Λ τ1
        refine r_if_ne (tgt := 26) d_X12_straight_16 rfl (fun hc => absurd hc (by decide)) (fun _ => ?_)
        refine r_aload_n (x := t) d_X12_straight_19 rfl o_t.1 ?_
        refine r_bipush (x := (-2)) d_X12_straight_20 ⟨by decide, by decide⟩ (by decide) ?_
        refine x_callVI (Y2 := mX12_refused) (c := t) (As := [(0, (-2))]) (S := []) d_X12_straight_22 ok_mX12_refused ml_X12_218 rfl (Nat.le_of_ble_eq_true rfl) (Nat.le_of_ble_eq_true rfl) rfl hd_1 kX12 o_t (CI.mono h (fun v7 σ6 h => ?_))
        exact r_iret d_X12_straight_25 rfl rfl (Nat.le_refl 0) (Nat.le_refl 0) ⟨_, rfl, rfl, rfl, h⟩
      · have h := h.2 hc
        refine ⟨fun hc => ?_, fun hc => ?_⟩
        · have h := h.1 hc
          show WP l mX12_straight (rm d 0 0) noX _ 0 0 16 [(2, t), (0, x1), (0, x2), (3, 0)] [(0, 0)] N Λ τ1
          refine r_if_ne (tgt := 26) d_X12_straight_16 rfl (fun hc => absurd hc (by decide)) (fun _ => ?_)
          refine r_aload_n (x := t) d_X12_straight_19 rfl o_t.1 ?_
          refine r_bipush (x := (-2)) d_X12_straight_20 ⟨by decide, by decide⟩ (by decide) ?_
          refine x_callVI (Y2 := mX12_refused) (c := t) (As := [(0, (-2))]) (S := []) d_X12_straight_22 ok_mX12_refused ml_X12_218 rfl (Nat.le_of_ble_eq_true rfl) (Nat.le_of_ble_eq_true rfl) rfl hd_1 kX12 o_t (CI.mono h (fun v9 σ8 h => ?_))
          exact r_iret d_X12_straight_25 rfl rfl (Nat.le_refl 0) (Nat.le_refl 0) ⟨_, rfl, rfl, rfl, h⟩
        · have h := h.2 hc
          show WP l mX12_straight (rm d 0 0) noX _ 0 0 16 [(2, t), (0, x1), (0, x2), (3, 0)] [(0, 1)] N Λ τ1
          refine r_if_ne (tgt := 26) d_X12_straight_16 rfl (fun _ => ?_) (fun hc => absurd hc (by decide))
          refine r_aload_n (x := t) d_X12_straight_26 rfl o_t.1 ?_
          refine x_callVV (Y2 := mX12_begins) (c := t) (As := []) (S := []) d_X12_straight_27 ok_mX12_begins ml_X12_202 rfl (Nat.le_of_ble_eq_true rfl) (Nat.le_of_ble_eq_true rfl) rfl hd_1 kX12 o_t (CV.mono h (fun σ10 h => ?_))
          refine r_aload_n (x := t) d_X12_straight_30 rfl o_t.1 ?_
          refine r_iload_n (x := x2) d_X12_straight_31 rfl ?_
          refine r_iconst (x := 0) d_X12_straight_32 ⟨by decide, by decide⟩ ?_
          refine x_callVV (Y2 := mX12_takes) (c := t) (As := [(0, x2), (0, 0)]) (S := []) d_X12_straight_33 ok_mX12_takes ml_X12_205 rfl (Nat.le_of_ble_eq_true rfl) (Nat.le_of_ble_eq_true rfl) rfl hd_1 kX12 o_t (CV.mono h (fun σ11 h => ?_))
          refine r_aload_n (x := t) d_X12_straight_36 rfl o_t.1 ?_
          refine r_iconst (x := 0) d_X12_straight_37 ⟨by decide, by decide⟩ ?_
          refine x_callVI (Y2 := mX12_straightens) (c := t) (As := [(0, 0)]) (S := []) d_X12_straight_38 ok_mX12_straightens ml_X12_241 rfl (Nat.le_of_ble_eq_true rfl) (Nat.le_of_ble_eq_true rfl) rfl hd_1 kX12 o_t (CI.mono h (fun v13 σ12 h => ?_))
          refine r_istore_n (L2 := [(2, t), (0, x1), (0, x2), (0, v13)]) d_X12_straight_41 (by decide) rfl rfl ?_
          refine r_aload_n (x := t) d_X12_straight_42 rfl o_t.1 ?_
          refine r_iload_n (x := x1) d_X12_straight_43 rfl ?_
          refine x_callVI (Y2 := mX12_ends) (c := t) (As := [(0, x1)]) (S := []) d_X12_straight_44 ok_mX12_ends ml_X12_228 rfl (Nat.le_of_ble_eq_true rfl) (Nat.le_of_ble_eq_true rfl) rfl hd_1 kX12 o_t (CI.mono h (fun v15 σ14 h => ?_))
          exact r_iret d_X12_straight_47 rfl rfl (Nat.le_refl 0) (Nat.le_refl 0) ⟨_, rfl, rfl, rfl, h⟩
theorem u_X12_reduce_0 {l : Launch} {d N : Nat} {Λ : Lay} {P : Int → Mem → Prop} {σ : Mem} {x1 x2 t : Int} (o_t : Ob N Λ t 21 36) (h0d : 2 ≤ d)
    (h : (∀ τ1, τ1 = st σ t 0 0 → (((cmpL x1 0) < 0 → P (-2) τ1) ∧ (¬ ((cmpL x1 0) < 0) → ((0 < (cmpL x1 5) → P (-2) τ1) ∧ (¬ (0 < (cmpL x1 5)) → (((cmpL x2 0) < 0 → P (-2) τ1) ∧ (¬ ((cmpL x2 0) < 0) → ((0 < (cmpL x2 5) → P (-2) τ1) ∧ (¬ (0 < (cmpL x2 5)) → (CV l mX12_begins (d - 1) [(2, t)] N Λ τ1 (fun σ2 => (CV l mX12_reduces (d - 1) [(2, t), (0, x2)] N Λ σ2 (fun σ3 => (CI l mX12_becomes (d - 1) [(2, t), (0, x1)] N Λ σ3 (fun v5 σ4 => P v5 σ4)))))))))))))))) :
    WI l mX12_reduce d P 0 [(2, t), (0, x1), (0, x2)] [] N Λ σ := by
  have hd_1 : 1 ≤ d := Nat.le_trans (by decide) h0d
  have he_1 : 1 ≤ d - 1 := Nat.le_sub_of_add_le (Nat.le_trans (by decide) h0d)
  refine r_aload_n (x := t) d_X12_reduce_0 rfl o_t.1 ?_
  refine r_iconst (x := 0) d_X12_reduce_1 ⟨by decide, by decide⟩ ?_
  refine r_putI (j := 0) d_X12_reduce_2 kX12 (by decide) fl_X12_1 rfl o_t.1 o_t.2.1 o_t.2.2.1 o_t.2.2.2 rfl ?_
  refine r_nmM (fun τ1 eτ1 => ?_)
  have h := h τ1 eτ1
  refine r_iload_n (x := x1) d_X12_reduce_5 rfl ?_
  refine x_callSI (Y2 := mX12_isShelf) (As := [(0, x1)]) (S := []) d_X12_reduce_6 ok_mX12_isShelf ml_X12_199 rfl (Nat.le_of_ble_eq_true rfl) (Nat.le_of_ble_eq_true rfl) rfl hd_1 (c_X12_isShelf (v_X12_isShelf_0 he_1 ?_))
  refine ⟨fun hc => ?_, fun hc => ?_⟩
  · have h := h.1 hc
    show WP l mX12_reduce (rm d 0 0) noX _ 0 0 9 [(2, t), (0, x1), (0, x2)] [(0, 0)] N Λ τ1
    refine r_if_eq (tgt := 19) d_X12_reduce_9 rfl (fun _ => ?_) (fun hc => absurd hc (by decide))
    refine r_bipush (x := (-2)) d_X12_reduce_19 ⟨by decide, by decide⟩ (by decide) ?_
    exact r_iret d_X12_reduce_21 rfl rfl (Nat.le_refl 0) (Nat.le_refl 0) ⟨_, rfl, rfl, rfl, h⟩
  · have h := h.2 hc
    refine ⟨fun hc => ?_, fun hc => ?_⟩
    · have h := h.1 hc
      show WP l mX12_reduce (rm d 0 0) noX _ 0 0 9 [(2, t), (0, x1), (0, x2)] [(0, 0)] N Λ τ1
      refine r_if_eq (tgt := 19) d_X12_reduce_9 rfl (fun _ => ?_) (fun hc => absurd hc (by decide))
      refine r_bipush (x := (-2)) d_X12_reduce_19 ⟨by decide, by decide⟩ (by decide) ?_
      exact r_iret d_X12_reduce_21 rfl rfl (Nat.le_refl 0) (Nat.le_refl 0) ⟨_, rfl, rfl, rfl, h⟩
    · have h := h.2 hc
      show WP l mX12_reduce (rm d 0 0) noX _ 0 0 9 [(2, t), (0, x1), (0, x2)] [(0, 1)] N Λ τ1
      refine r_if_eq (tgt := 19) d_X12_reduce_9 rfl (fun hc => absurd hc (by decide)) (fun _ => ?_)
      refine r_iload_n (x := x2) d_X12_reduce_12 rfl ?_
      refine x_callSI (Y2 := mX12_isShelf) (As := [(0, x2)]) (S := []) d_X12_reduce_13 ok_mX12_isShelf ml_X12_199 rfl (Nat.le_of_ble_eq_true rfl) (Nat.le_of_ble_eq_true rfl) rfl hd_1 (c_X12_isShelf (v_X12_isShelf_0 he_1 ?_))
      refine ⟨fun hc => ?_, fun hc => ?_⟩
      · have h := h.1 hc
        show WP l mX12_reduce (rm d 0 0) noX _ 0 0 16 [(2, t), (0, x1), (0, x2)] [(0, 0)] N Λ τ1
        refine r_if_ne (tgt := 22) d_X12_reduce_16 rfl (fun hc => absurd hc (by decide)) (fun _ => ?_)
        refine r_bipush (x := (-2)) d_X12_reduce_19 ⟨by decide, by decide⟩ (by decide) ?_
        exact r_iret d_X12_reduce_21 rfl rfl (Nat.le_refl 0) (Nat.le_refl 0) ⟨_, rfl, rfl, rfl, h⟩
      · have h := h.2 hc
        refine ⟨fun hc => ?_, fun hc => ?_⟩
        · have h := h.1 hc
          show WP l mX12_reduce (rm d 0 0) noX _ 0 0 16 [(2, t), (0, x1), (0, x2)] [(0, 0)] N Λ τ1
          refine r_if_ne (tgt := 22) d_X12_reduce_16 rfl (fun hc => absurd hc (by decide)) (fun _ => ?_)
          refine r_bipush (x := (-2)) d_X12_reduce_19 ⟨by decide, by decide⟩ (by decide) ?_
          exact r_iret d_X12_reduce_21 rfl rfl (Nat.le_refl 0) (Nat.le_refl 0) ⟨_, rfl, rfl, rfl, h⟩
        · have h := h.2 hc
          show WP l mX12_reduce (rm d 0 0) noX _ 0 0 16 [(2, t), (0, x1), (0, x2)] [(0, 1)] N Λ τ1
          refine r_if_ne (tgt := 22) d_X12_reduce_16 rfl (fun _ => ?_) (fun hc => absurd hc (by decide))
          refine r_aload_n (x := t) d_X12_reduce_22 rfl o_t.1 ?_
          refine x_callVV (Y2 := mX12_begins) (c := t) (As := []) (S := []) d_X12_reduce_23 ok_mX12_begins ml_X12_202 rfl (Nat.le_of_ble_eq_true rfl) (Nat.le_of_ble_eq_true rfl) rfl hd_1 kX12 o_t (CV.mono h (fun σ2 h => ?_))
          refine r_aload_n (x := t) d_X12_reduce_26 rfl o_t.1 ?_
          refine r_iload_n (x := x2) d_X12_reduce_27 rfl ?_
          refine x_callVV (Y2 := mX12_reduces) (c := t) (As := [(0, x2)]) (S := []) d_X12_reduce_28 ok_mX12_reduces ml_X12_247 rfl (Nat.le_of_ble_eq_true rfl) (Nat.le_of_ble_eq_true rfl) rfl hd_1 kX12 o_t (CV.mono h (fun σ3 h => ?_))
          refine r_aload_n (x := t) d_X12_reduce_31 rfl o_t.1 ?_
          refine r_iload_n (x := x1) d_X12_reduce_32 rfl ?_
          refine x_callVI (Y2 := mX12_becomes) (c := t) (As := [(0, x1)]) (S := []) d_X12_reduce_33 ok_mX12_becomes ml_X12_190 rfl (Nat.le_of_ble_eq_true rfl) (Nat.le_of_ble_eq_true rfl) rfl hd_1 kX12 o_t (CI.mono h (fun v5 σ4 h => ?_))
          exact r_iret d_X12_reduce_36 rfl rfl (Nat.le_refl 0) (Nat.le_refl 0) ⟨_, rfl, rfl, rfl, h⟩
theorem u_X12_fact_0 {l : Launch} {d N : Nat} {Λ : Lay} {P : Int → Mem → Prop} {σ : Mem} {x1 x2 x3 x4 t t_rankOf t_state : Int} (o_t : Ob N Λ t 21 36) (f_t_rankOf : (Λ t).2.2 1 = t_rankOf) (f_t_state : (Λ t).2.2 3 = t_state) (h0d : 2 ≤ d)
    (h : (∀ τ1, τ1 = st σ t 0 0 → (((cmpL x1 0) < 0 → P (-2) τ1) ∧ (¬ ((cmpL x1 0) < 0) → ((0 < (cmpL x1 9) → P (-2) τ1) ∧ (¬ (0 < (cmpL x1 9)) → (((cmpL x2 0) < 0 → P (-2) τ1) ∧ (¬ ((cmpL x2 0) < 0) → ((0 < (cmpL x2 9) → P (-2) τ1) ∧ (¬ (0 < (cmpL x2 9)) → (((cmpL x3 0) < 0 → P (-2) τ1) ∧ (¬ ((cmpL x3 0) < 0) → ((0 < (cmpL x3 9) → P (-2) τ1) ∧ (¬ (0 < (cmpL x3 9)) → (Ix N Λ t_rankOf 0 (addI (addI (mulI 100 x1) (mulI 10 x2)) x3) ∧ ((0 ≤ (τ1 t_rankOf (addI (addI (mulI 100 x1) (mulI 10 x2)) x3)) → (∀ y2, y2 = (τ1 t_rankOf (addI (addI (mulI 100 x1) (mulI 10 x2)) x3)) → (((cmpL x4 0) < 0 → P (-3) τ1) ∧ (¬ ((cmpL x4 0) < 0) → ((0 < (cmpL x4 2) → P (-3) τ1) ∧ (¬ (0 < (cmpL x4 2)) → ((¬ y2 = 0 → (CV l mX12_notes (d - 1) [(2, t)] N Λ τ1 (fun σ3 => (CI l mX12_factOf (d - 1) [(2, t), (0, y2)] N Λ σ3 (fun v5 σ4 => (Ix N Λ t_state 0 (subI (addI 996 y2) 1) ∧ (∀ τ6, τ6 = st σ4 t_state (subI (addI 996 y2) 1) x4 → P v5 τ6))))))) ∧ (y2 = 0 → P (-3) τ1)))))))) ∧ (¬ (0 ≤ (τ1 t_rankOf (addI (addI (mulI 100 x1) (mulI 10 x2)) x3))) → (∀ y7, y7 = (negI (τ1 t_rankOf (addI (addI (mulI 100 x1) (mulI 10 x2)) x3))) → (((cmpL x4 0) < 0 → P (-3) τ1) ∧ (¬ ((cmpL x4 0) < 0) → ((0 < (cmpL x4 2) → P (-3) τ1) ∧ (¬ (0 < (cmpL x4 2)) → ((¬ y7 = 0 → (CV l mX12_notes (d - 1) [(2, t)] N Λ τ1 (fun σ8 => (CI l mX12_factOf (d - 1) [(2, t), (0, y7)] N Λ σ8 (fun v10 σ9 => (Ix N Λ t_state 0 (subI (addI 996 y7) 1) ∧ (∀ τ11, τ11 = st σ9 t_state (subI (addI 996 y7) 1) x4 → P v10 τ11))))))) ∧ (y7 = 0 → P (-3) τ1)))))))))))))))))))))))) :
    WI l mX12_fact d P 0 [(2, t), (0, x1), (0, x2), (0, x3), (0, x4), (3, 0), (3, 0)] [] N Λ σ := by
  have hd_1 : 1 ≤ d := Nat.le_trans (by decide) h0d
  have he_1 : 1 ≤ d - 1 := Nat.le_sub_of_add_le (Nat.le_trans (by decide) h0d)
  refine r_aload_n (x := t) d_X12_fact_0 rfl o_t.1 ?_
  refine r_iconst (x := 0) d_X12_fact_1 ⟨by decide, by decide⟩ ?_
  refine r_putI (j := 0) d_X12_fact_2 kX12 (by decide) fl_X12_1 rfl o_t.1 o_t.2.1 o_t.2.2.1 o_t.2.2.2 rfl ?_
  refine r_nmM (fun τ1 eτ1 => ?_)
  have h := h τ1 eτ1
  refine r_iload_n (x := x1) d_X12_fact_5 rfl ?_
  refine x_callSI (Y2 := mX12_isLetter) (As := [(0, x1)]) (S := []) d_X12_fact_6 ok_mX12_isLetter ml_X12_208 rfl (Nat.le_of_ble_eq_true rfl) (Nat.le_of_ble_eq_true rfl) rfl hd_1 (c_X12_isLetter (v_X12_isLetter_0 he_1 ?_))
  refine ⟨fun hc => ?_, fun hc => ?_⟩
  · have h := h.1 hc
    show WP l mX12_fact (rm d 0 0) noX _ 0 0 9 [(2, t), (0, x1), (0, x2), (0, x3), (0, x4), (3, 0), (3, 0)] [(0, 0)] N Λ τ1
    refine r_if_eq (tgt := 26) d_X12_fact_9 rfl (fun _ => ?_) (fun hc => absurd hc (by decide))
    refine r_bipush (x := (-2)) d_X12_fact_26 ⟨by decide, by decide⟩ (by decide) ?_
    exact r_iret d_X12_fact_28 rfl rfl (Nat.le_refl 0) (Nat.le_refl 0) ⟨_, rfl, rfl, rfl, h⟩
  · have h := h.2 hc
    refine ⟨fun hc => ?_, fun hc => ?_⟩
    · have h := h.1 hc
      show WP l mX12_fact (rm d 0 0) noX _ 0 0 9 [(2, t), (0, x1), (0, x2), (0, x3), (0, x4), (3, 0), (3, 0)] [(0, 0)] N Λ τ1
      refine r_if_eq (tgt := 26) d_X12_fact_9 rfl (fun _ => ?_) (fun hc => absurd hc (by decide))
      refine r_bipush (x := (-2)) d_X12_fact_26 ⟨by decide, by decide⟩ (by decide) ?_
      exact r_iret d_X12_fact_28 rfl rfl (Nat.le_refl 0) (Nat.le_refl 0) ⟨_, rfl, rfl, rfl, h⟩
    · have h := h.2 hc
      show WP l mX12_fact (rm d 0 0) noX _ 0 0 9 [(2, t), (0, x1), (0, x2), (0, x3), (0, x4), (3, 0), (3, 0)] [(0, 1)] N Λ τ1
      refine r_if_eq (tgt := 26) d_X12_fact_9 rfl (fun hc => absurd hc (by decide)) (fun _ => ?_)
      refine r_iload_n (x := x2) d_X12_fact_12 rfl ?_
      refine x_callSI (Y2 := mX12_isLetter) (As := [(0, x2)]) (S := []) d_X12_fact_13 ok_mX12_isLetter ml_X12_208 rfl (Nat.le_of_ble_eq_true rfl) (Nat.le_of_ble_eq_true rfl) rfl hd_1 (c_X12_isLetter (v_X12_isLetter_0 he_1 ?_))
      refine ⟨fun hc => ?_, fun hc => ?_⟩
      · have h := h.1 hc
        show WP l mX12_fact (rm d 0 0) noX _ 0 0 16 [(2, t), (0, x1), (0, x2), (0, x3), (0, x4), (3, 0), (3, 0)] [(0, 0)] N Λ τ1
        refine r_if_eq (tgt := 26) d_X12_fact_16 rfl (fun _ => ?_) (fun hc => absurd hc (by decide))
        refine r_bipush (x := (-2)) d_X12_fact_26 ⟨by decide, by decide⟩ (by decide) ?_
        exact r_iret d_X12_fact_28 rfl rfl (Nat.le_refl 0) (Nat.le_refl 0) ⟨_, rfl, rfl, rfl, h⟩
      · have h := h.2 hc
        refine ⟨fun hc => ?_, fun hc => ?_⟩
        · have h := h.1 hc
          show WP l mX12_fact (rm d 0 0) noX _ 0 0 16 [(2, t), (0, x1), (0, x2), (0, x3), (0, x4), (3, 0), (3, 0)] [(0, 0)] N Λ τ1
          refine r_if_eq (tgt := 26) d_X12_fact_16 rfl (fun _ => ?_) (fun hc => absurd hc (by decide))
          refine r_bipush (x := (-2)) d_X12_fact_26 ⟨by decide, by decide⟩ (by decide) ?_
          exact r_iret d_X12_fact_28 rfl rfl (Nat.le_refl 0) (Nat.le_refl 0) ⟨_, rfl, rfl, rfl, h⟩
        · have h := h.2 hc
          show WP l mX12_fact (rm d 0 0) noX _ 0 0 16 [(2, t), (0, x1), (0, x2), (0, x3), (0, x4), (3, 0), (3, 0)] [(0, 1)] N Λ τ1
          refine r_if_eq (tgt := 26) d_X12_fact_16 rfl (fun hc => absurd hc (by decide)) (fun _ => ?_)
          refine r_iload_n (x := x3) d_X12_fact_19 rfl ?_
          refine x_callSI (Y2 := mX12_isLetter) (As := [(0, x3)]) (S := []) d_X12_fact_20 ok_mX12_isLetter ml_X12_208 rfl (Nat.le_of_ble_eq_true rfl) (Nat.le_of_ble_eq_true rfl) rfl hd_1 (c_X12_isLetter (v_X12_isLetter_0 he_1 ?_))
          refine ⟨fun hc => ?_, fun hc => ?_⟩
          · have h := h.1 hc
            show WP l mX12_fact (rm d 0 0) noX _ 0 0 23 [(2, t), (0, x1), (0, x2), (0, x3), (0, x4), (3, 0), (3, 0)] [(0, 0)] N Λ τ1
            refine r_if_ne (tgt := 29) d_X12_fact_23 rfl (fun hc => absurd hc (by decide)) (fun _ => ?_)
            refine r_bipush (x := (-2)) d_X12_fact_26 ⟨by decide, by decide⟩ (by decide) ?_
            exact r_iret d_X12_fact_28 rfl rfl (Nat.le_refl 0) (Nat.le_refl 0) ⟨_, rfl, rfl, rfl, h⟩
          · have h := h.2 hc
            refine ⟨fun hc => ?_, fun hc => ?_⟩
            · have h := h.1 hc
              show WP l mX12_fact (rm d 0 0) noX _ 0 0 23 [(2, t), (0, x1), (0, x2), (0, x3), (0, x4), (3, 0), (3, 0)] [(0, 0)] N Λ τ1
              refine r_if_ne (tgt := 29) d_X12_fact_23 rfl (fun hc => absurd hc (by decide)) (fun _ => ?_)
              refine r_bipush (x := (-2)) d_X12_fact_26 ⟨by decide, by decide⟩ (by decide) ?_
              exact r_iret d_X12_fact_28 rfl rfl (Nat.le_refl 0) (Nat.le_refl 0) ⟨_, rfl, rfl, rfl, h⟩
            · have h := h.2 hc
              show WP l mX12_fact (rm d 0 0) noX _ 0 0 23 [(2, t), (0, x1), (0, x2), (0, x3), (0, x4), (3, 0), (3, 0)] [(0, 1)] N Λ τ1
              refine r_if_ne (tgt := 29) d_X12_fact_23 rfl (fun _ => ?_) (fun hc => absurd hc (by decide))
              refine r_aload_n (x := t) d_X12_fact_29 rfl o_t.1 ?_
              refine r_getf (j := 1) (t := 2) (x := t_rankOf) d_X12_fact_30 kX12 (by decide) fl_X12_13 o_t.1 o_t.2.1 o_t.2.2.1 o_t.2.2.2 rfl f_t_rankOf ?_
              refine r_bipush (x := 100) d_X12_fact_33 ⟨by decide, by decide⟩ (by decide) ?_
              refine r_iload_n (x := x1) d_X12_fact_35 rfl ?_
              refine r_imul d_X12_fact_36 ?_
              refine r_bipush (x := 10) d_X12_fact_37 ⟨by decide, by decide⟩ (by decide) ?_
              refine r_iload_n (x := x2) d_X12_fact_39 rfl ?_
              refine r_imul d_X12_fact_40 ?_
              refine r_iadd d_X12_fact_41 ?_
              refine r_iload_n (x := x3) d_X12_fact_42 rfl ?_
              refine r_iadd d_X12_fact_43 ?_
              refine x_iald d_X12_fact_44 h.1 ?_
              have h := h.2
              refine x_callSI (Y2 := mX12_sizeOf) (As := [(0, (τ1 t_rankOf (addI (addI (mulI 100 x1) (mulI 10 x2)) x3)))]) (S := []) d_X12_fact_45 ok_mX12_sizeOf ml_X12_168 rfl (Nat.le_of_ble_eq_true rfl) (Nat.le_of_ble_eq_true rfl) rfl hd_1 (c_X12_sizeOf (v_X12_sizeOf_0 ?_))
              refine ⟨fun hc => ?_, fun hc => ?_⟩
              · have h := h.1 hc
                show WP l mX12_fact (rm d 0 0) noX _ 0 0 48 [(2, t), (0, x1), (0, x2), (0, x3), (0, x4), (3, 0), (3, 0)] [(0, (τ1 t_rankOf (addI (addI (mulI 100 x1) (mulI 10 x2)) x3)))] N Λ τ1
                refine r_nm (fun y2 ey2 => ?_)
                have h := h y2 ey2
                refine r_istore (L2 := [(2, t), (0, x1), (0, x2), (0, x3), (0, x4), (0, y2), (3, 0)]) d_X12_fact_48 (by decide) rfl rfl ?_
                refine r_iload (x := x4) d_X12_fact_50 rfl ?_
                refine r_i2l d_X12_fact_52 ?_
                refine r_lconst d_X12_fact_53 ?_
                skip
                refine r_ldc2 (x := 2) d_X12_fact_54 ck_X12_250 (by decide) ?_
                refine x_callSI (Y2 := mX12_within) (As := [(1, x4), (1, 0), (1, 2)]) (S := []) d_X12_fact_57 ok_mX12_within ml_X12_91 rfl (Nat.le_of_ble_eq_true rfl) (Nat.le_of_ble_eq_true rfl) rfl hd_1 (c_X12_within (v_X12_within_0 ?_))
                refine ⟨fun hc => ?_, fun hc => ?_⟩
                · have h := h.1 hc
                  show WP l mX12_fact (rm d 0 0) noX _ 0 0 60 [(2, t), (0, x1), (0, x2), (0, x3), (0, x4), (0, y2), (3, 0)] [(0, 0)] N Λ τ1
                  refine r_if_eq (tgt := 68) d_X12_fact_60 rfl (fun _ => ?_) (fun hc => absurd hc (by decide))
                  refine r_bipush (x := (-3)) d_X12_fact_68 ⟨by decide, by decide⟩ (by decide) ?_
                  exact r_iret d_X12_fact_70 rfl rfl (Nat.le_refl 0) (Nat.le_refl 0) ⟨_, rfl, rfl, rfl, h⟩
                · have h := h.2 hc
                  refine ⟨fun hc => ?_, fun hc => ?_⟩
                  · have h := h.1 hc
                    show WP l mX12_fact (rm d 0 0) noX _ 0 0 60 [(2, t), (0, x1), (0, x2), (0, x3), (0, x4), (0, y2), (3, 0)] [(0, 0)] N Λ τ1
                    refine r_if_eq (tgt := 68) d_X12_fact_60 rfl (fun _ => ?_) (fun hc => absurd hc (by decide))
                    refine r_bipush (x := (-3)) d_X12_fact_68 ⟨by decide, by decide⟩ (by decide) ?_
                    exact r_iret d_X12_fact_70 rfl rfl (Nat.le_refl 0) (Nat.le_refl 0) ⟨_, rfl, rfl, rfl, h⟩
                  · have h := h.2 hc
                    show WP l mX12_fact (rm d 0 0) noX _ 0 0 60 [(2, t), (0, x1), (0, x2), (0, x3), (0, x4), (0, y2), (3, 0)] [(0, 1)] N Λ τ1
                    refine r_if_eq (tgt := 68) d_X12_fact_60 rfl (fun hc => absurd hc (by decide)) (fun _ => ?_)
                    refine r_iload (x := y2) d_X12_fact_63 rfl ?_
                    refine r_if_ne (tgt := 71) d_X12_fact_65 rfl (fun hc => ?_) (fun hc => ?_)
                    · have h := h.1 hc
                      refine r_aload_n (x := t) d_X12_fact_71 rfl o_t.1 ?_
                      refine x_callVV (Y2 := mX12_notes) (c := t) (As := []) (S := []) d_X12_fact_72 ok_mX12_notes ml_X12_196 rfl (Nat.le_of_ble_eq_true rfl) (Nat.le_of_ble_eq_true rfl) rfl hd_1 kX12 o_t (CV.mono h (fun σ3 h => ?_))
                      refine r_aload_n (x := t) d_X12_fact_75 rfl o_t.1 ?_
                      refine r_iload (x := y2) d_X12_fact_76 rfl ?_
                      refine x_callVI (Y2 := mX12_factOf) (c := t) (As := [(0, y2)]) (S := []) d_X12_fact_78 ok_mX12_factOf ml_X12_244 rfl (Nat.le_of_ble_eq_true rfl) (Nat.le_of_ble_eq_true rfl) rfl hd_1 kX12 o_t (CI.mono h (fun v5 σ4 h => ?_))
                      refine r_istore (L2 := [(2, t), (0, x1), (0, x2), (0, x3), (0, x4), (0, y2), (0, v5)]) d_X12_fact_81 (by decide) rfl rfl ?_
                      refine r_aload_n (x := t) d_X12_fact_83 rfl o_t.1 ?_
                      refine r_getf (j := 3) (t := 2) (x := t_state) d_X12_fact_84 kX12 (by decide) fl_X12_20 o_t.1 o_t.2.1 o_t.2.2.1 o_t.2.2.2 rfl f_t_state ?_
                      refine r_sipush (x := 996) d_X12_fact_87 ⟨by decide, by decide⟩ (by decide) ?_
                      refine r_iload (x := y2) d_X12_fact_90 rfl ?_
                      refine r_iadd d_X12_fact_92 ?_
                      refine r_iconst (x := 1) d_X12_fact_93 ⟨by decide, by decide⟩ ?_
                      refine r_isub d_X12_fact_94 ?_
                      refine r_iload (x := x4) d_X12_fact_95 rfl ?_
                      refine x_iast d_X12_fact_97 h.1 ?_
                      have h := h.2
                      refine r_nmM (fun τ6 eτ6 => ?_)
                      have h := h τ6 eτ6
                      refine r_iload (x := v5) d_X12_fact_98 rfl ?_
                      exact r_iret d_X12_fact_100 rfl rfl (Nat.le_refl 0) (Nat.le_refl 0) ⟨_, rfl, rfl, rfl, h⟩
                    · have h := h.2 hc
                      refine r_bipush (x := (-3)) d_X12_fact_68 ⟨by decide, by decide⟩ (by decide) ?_
                      exact r_iret d_X12_fact_70 rfl rfl (Nat.le_refl 0) (Nat.le_refl 0) ⟨_, rfl, rfl, rfl, h⟩
              · have h := h.2 hc
                show WP l mX12_fact (rm d 0 0) noX _ 0 0 48 [(2, t), (0, x1), (0, x2), (0, x3), (0, x4), (3, 0), (3, 0)] [(0, (negI (τ1 t_rankOf (addI (addI (mulI 100 x1) (mulI 10 x2)) x3))))] N Λ τ1
                refine r_nm (fun y7 ey7 => ?_)
                have h := h y7 ey7
                refine r_istore (L2 := [(2, t), (0, x1), (0, x2), (0, x3), (0, x4), (0, y7), (3, 0)]) d_X12_fact_48 (by decide) rfl rfl ?_
                refine r_iload (x := x4) d_X12_fact_50 rfl ?_
                refine r_i2l d_X12_fact_52 ?_
                refine r_lconst d_X12_fact_53 ?_
                skip
                refine r_ldc2 (x := 2) d_X12_fact_54 ck_X12_250 (by decide) ?_
                refine x_callSI (Y2 := mX12_within) (As := [(1, x4), (1, 0), (1, 2)]) (S := []) d_X12_fact_57 ok_mX12_within ml_X12_91 rfl (Nat.le_of_ble_eq_true rfl) (Nat.le_of_ble_eq_true rfl) rfl hd_1 (c_X12_within (v_X12_within_0 ?_))
                refine ⟨fun hc => ?_, fun hc => ?_⟩
                · have h := h.1 hc
                  show WP l mX12_fact (rm d 0 0) noX _ 0 0 60 [(2, t), (0, x1), (0, x2), (0, x3), (0, x4), (0, y7), (3, 0)] [(0, 0)] N Λ τ1
                  refine r_if_eq (tgt := 68) d_X12_fact_60 rfl (fun _ => ?_) (fun hc => absurd hc (by decide))
                  refine r_bipush (x := (-3)) d_X12_fact_68 ⟨by decide, by decide⟩ (by decide) ?_
                  exact r_iret d_X12_fact_70 rfl rfl (Nat.le_refl 0) (Nat.le_refl 0) ⟨_, rfl, rfl, rfl, h⟩
                · have h := h.2 hc
                  refine ⟨fun hc => ?_, fun hc => ?_⟩
                  · have h := h.1 hc
                    show WP l mX12_fact (rm d 0 0) noX _ 0 0 60 [(2, t), (0, x1), (0, x2), (0, x3), (0, x4), (0, y7), (3, 0)] [(0, 0)] N Λ τ1
                    refine r_if_eq (tgt := 68) d_X12_fact_60 rfl (fun _ => ?_) (fun hc => absurd hc (by decide))
                    refine r_bipush (x := (-3)) d_X12_fact_68 ⟨by decide, by decide⟩ (by decide) ?_
                    exact r_iret d_X12_fact_70 rfl rfl (Nat.le_refl 0) (Nat.le_refl 0) ⟨_, rfl, rfl, rfl, h⟩
                  · have h := h.2 hc
                    show WP l mX12_fact (rm d 0 0) noX _ 0 0 60 [(2, t), (0, x1), (0, x2), (0, x3), (0, x4), (0, y7), (3, 0)] [(0, 1)] N Λ τ1
                    refine r_if_eq (tgt := 68) d_X12_fact_60 rfl (fun hc => absurd hc (by decide)) (fun _ => ?_)
                    refine r_iload (x := y7) d_X12_fact_63 rfl ?_
                    refine r_if_ne (tgt := 71) d_X12_fact_65 rfl (fun hc => ?_) (fun hc => ?_)
                    · have h := h.1 hc
                      refine r_aload_n (x := t) d_X12_fact_71 rfl o_t.1 ?_
                      refine x_callVV (Y2 := mX12_notes) (c := t) (As := []) (S := []) d_X12_fact_72 ok_mX12_notes ml_X12_196 rfl (Nat.le_of_ble_eq_true rfl) (Nat.le_of_ble_eq_true rfl) rfl hd_1 kX12 o_t (CV.mono h (fun σ8 h => ?_))
                      refine r_aload_n (x := t) d_X12_fact_75 rfl o_t.1 ?_
                      refine r_iload (x := y7) d_X12_fact_76 rfl ?_
                      refine x_callVI (Y2 := mX12_factOf) (c := t) (As := [(0, y7)]) (S := []) d_X12_fact_78 ok_mX12_factOf ml_X12_244 rfl (Nat.le_of_ble_eq_true rfl) (Nat.le_of_ble_eq_true rfl) rfl hd_1 kX12 o_t (CI.mono h (fun v10 σ9 h => ?_))
                      refine r_istore (L2 := [(2, t), (0, x1), (0, x2), (0, x3), (0, x4), (0, y7), (0, v10)]) d_X12_fact_81 (by decide) rfl rfl ?_
                      refine r_aload_n (x := t) d_X12_fact_83 rfl o_t.1 ?_
                      refine r_getf (j := 3) (t := 2) (x := t_state) d_X12_fact_84 kX12 (by decide) fl_X12_20 o_t.1 o_t.2.1 o_t.2.2.1 o_t.2.2.2 rfl f_t_state ?_
                      refine r_sipush (x := 996) d_X12_fact_87 ⟨by decide, by decide⟩ (by decide) ?_
                      refine r_iload (x := y7) d_X12_fact_90 rfl ?_
                      refine r_iadd d_X12_fact_92 ?_
                      refine r_iconst (x := 1) d_X12_fact_93 ⟨by decide, by decide⟩ ?_
                      refine r_isub d_X12_fact_94 ?_
                      refine r_iload (x := x4) d_X12_fact_95 rfl ?_
                      refine x_iast d_X12_fact_97 h.1 ?_
                      have h := h.2
                      refine r_nmM (fun τ11 eτ11 => ?_)
                      have h := h τ11 eτ11
                      refine r_iload (x := v10) d_X12_fact_98 rfl ?_
                      exact r_iret d_X12_fact_100 rfl rfl (Nat.le_refl 0) (Nat.le_refl 0) ⟨_, rfl, rfl, rfl, h⟩
                    · have h := h.2 hc
                      refine r_bipush (x := (-3)) d_X12_fact_68 ⟨by decide, by decide⟩ (by decide) ?_
                      exact r_iret d_X12_fact_70 rfl rfl (Nat.le_refl 0) (Nat.le_refl 0) ⟨_, rfl, rfl, rfl, h⟩
theorem u_X12_place_0 {l : Launch} {d N : Nat} {Λ : Lay} {P : Int → Mem → Prop} {σ : Mem} {x1 x2 x3 x4 t t_state : Int} (o_t : Ob N Λ t 21 36) (f_t_state : (Λ t).2.2 3 = t_state) (h0d : 2 ≤ d)
    (h : (∀ τ1, τ1 = st σ t 0 0 → (((cmpL x1 0) < 0 → P (-2) τ1) ∧ (¬ ((cmpL x1 0) < 0) → ((0 < (cmpL x1 9) → P (-2) τ1) ∧ (¬ (0 < (cmpL x1 9)) → (((cmpL x2 (-99)) < 0 → P (-3) τ1) ∧ (¬ ((cmpL x2 (-99)) < 0) → ((0 < (cmpL x2 99) → P (-3) τ1) ∧ (¬ (0 < (cmpL x2 99)) → (((cmpL x3 (-99)) < 0 → P (-3) τ1) ∧ (¬ ((cmpL x3 (-99)) < 0) → ((0 < (cmpL x3 99) → P (-3) τ1) ∧ (¬ (0 < (cmpL x3 99)) → (((cmpL x4 (-99)) < 0 → P (-3) τ1) ∧ (¬ ((cmpL x4 (-99)) < 0) → ((0 < (cmpL x4 99) → P (-3) τ1) ∧ (¬ (0 < (cmpL x4 99)) → (CV l mX12_notes (d - 1) [(2, t)] N Λ τ1 (fun σ2 => (Ix N Λ t_state 0 (addI 966 (mulI 3 x1)) ∧ (∀ τ3, τ3 = st σ2 t_state (addI 966 (mulI 3 x1)) x2 → (Ix N Λ t_state 0 (addI (addI 966 (mulI 3 x1)) 1) ∧ (∀ τ4, τ4 = st τ3 t_state (addI (addI 966 (mulI 3 x1)) 1) x3 → (Ix N Λ t_state 0 (addI (addI 966 (mulI 3 x1)) 2) ∧ (∀ τ5, τ5 = st τ4 t_state (addI (addI 966 (mulI 3 x1)) 2) x4 → P 0 τ5)))))))))))))))))))))))))) :
    WI l mX12_place d P 0 [(2, t), (0, x1), (0, x2), (0, x3), (0, x4)] [] N Λ σ := by
  have hd_1 : 1 ≤ d := Nat.le_trans (by decide) h0d
  have he_1 : 1 ≤ d - 1 := Nat.le_sub_of_add_le (Nat.le_trans (by decide) h0d)
  refine r_aload_n (x := t) d_X12_place_0 rfl o_t.1 ?_
  refine r_iconst (x := 0) d_X12_place_1 ⟨by decide, by decide⟩ ?_
  refine r_putI (j := 0) d_X12_place_2 kX12 (by decide) fl_X12_1 rfl o_t.1 o_t.2.1 o_t.2.2.1 o_t.2.2.2 rfl ?_
  refine r_nmM (fun τ1 eτ1 => ?_)
  have h := h τ1 eτ1
  refine r_iload_n (x := x1) d_X12_place_5 rfl ?_
  refine x_callSI (Y2 := mX12_isLetter) (As := [(0, x1)]) (S := []) d_X12_place_6 ok_mX12_isLetter ml_X12_208 rfl (Nat.le_of_ble_eq_true rfl) (Nat.le_of_ble_eq_true rfl) rfl hd_1 (c_X12_isLetter (v_X12_isLetter_0 he_1 ?_))
  refine ⟨fun hc => ?_, fun hc => ?_⟩
  · have h := h.1 hc
    show WP l mX12_place (rm d 0 0) noX _ 0 0 9 [(2, t), (0, x1), (0, x2), (0, x3), (0, x4)] [(0, 0)] N Λ τ1
    refine r_if_ne (tgt := 15) d_X12_place_9 rfl (fun hc => absurd hc (by decide)) (fun _ => ?_)
    refine r_bipush (x := (-2)) d_X12_place_12 ⟨by decide, by decide⟩ (by decide) ?_
    exact r_iret d_X12_place_14 rfl rfl (Nat.le_refl 0) (Nat.le_refl 0) ⟨_, rfl, rfl, rfl, h⟩
  · have h := h.2 hc
    refine ⟨fun hc => ?_, fun hc => ?_⟩
    · have h := h.1 hc
      show WP l mX12_place (rm d 0 0) noX _ 0 0 9 [(2, t), (0, x1), (0, x2), (0, x3), (0, x4)] [(0, 0)] N Λ τ1
      refine r_if_ne (tgt := 15) d_X12_place_9 rfl (fun hc => absurd hc (by decide)) (fun _ => ?_)
      refine r_bipush (x := (-2)) d_X12_place_12 ⟨by decide, by decide⟩ (by decide) ?_
      exact r_iret d_X12_place_14 rfl rfl (Nat.le_refl 0) (Nat.le_refl 0) ⟨_, rfl, rfl, rfl, h⟩
    · have h := h.2 hc
      show WP l mX12_place (rm d 0 0) noX _ 0 0 9 [(2, t), (0, x1), (0, x2), (0, x3), (0, x4)] [(0, 1)] N Λ τ1
      refine r_if_ne (tgt := 15) d_X12_place_9 rfl (fun _ => ?_) (fun hc => absurd hc (by decide))
      refine r_iload_n (x := x2) d_X12_place_15 rfl ?_
      refine r_i2l d_X12_place_16 ?_
      refine r_ldc2 (x := (-99)) d_X12_place_17 ck_X12_221 (by decide) ?_
      refine r_ldc2 (x := 99) d_X12_place_20 ck_X12_223 (by decide) ?_
      refine x_callSI (Y2 := mX12_within) (As := [(1, x2), (1, (-99)), (1, 99)]) (S := []) d_X12_place_23 ok_mX12_within ml_X12_91 rfl (Nat.le_of_ble_eq_true rfl) (Nat.le_of_ble_eq_true rfl) rfl hd_1 (c_X12_within (v_X12_within_0 ?_))
      refine ⟨fun hc => ?_, fun hc => ?_⟩
      · have h := h.1 hc
        show WP l mX12_place (rm d 0 0) noX _ 0 0 26 [(2, t), (0, x1), (0, x2), (0, x3), (0, x4)] [(0, 0)] N Λ τ1
        refine r_if_eq (tgt := 58) d_X12_place_26 rfl (fun _ => ?_) (fun hc => absurd hc (by decide))
        refine r_bipush (x := (-3)) d_X12_place_58 ⟨by decide, by decide⟩ (by decide) ?_
        exact r_iret d_X12_place_60 rfl rfl (Nat.le_refl 0) (Nat.le_refl 0) ⟨_, rfl, rfl, rfl, h⟩
      · have h := h.2 hc
        refine ⟨fun hc => ?_, fun hc => ?_⟩
        · have h := h.1 hc
          show WP l mX12_place (rm d 0 0) noX _ 0 0 26 [(2, t), (0, x1), (0, x2), (0, x3), (0, x4)] [(0, 0)] N Λ τ1
          refine r_if_eq (tgt := 58) d_X12_place_26 rfl (fun _ => ?_) (fun hc => absurd hc (by decide))
          refine r_bipush (x := (-3)) d_X12_place_58 ⟨by decide, by decide⟩ (by decide) ?_
          exact r_iret d_X12_place_60 rfl rfl (Nat.le_refl 0) (Nat.le_refl 0) ⟨_, rfl, rfl, rfl, h⟩
        · have h := h.2 hc
          show WP l mX12_place (rm d 0 0) noX _ 0 0 26 [(2, t), (0, x1), (0, x2), (0, x3), (0, x4)] [(0, 1)] N Λ τ1
          refine r_if_eq (tgt := 58) d_X12_place_26 rfl (fun hc => absurd hc (by decide)) (fun _ => ?_)
          refine r_iload_n (x := x3) d_X12_place_29 rfl ?_
          refine r_i2l d_X12_place_30 ?_
          refine r_ldc2 (x := (-99)) d_X12_place_31 ck_X12_221 (by decide) ?_
          refine r_ldc2 (x := 99) d_X12_place_34 ck_X12_223 (by decide) ?_
          refine x_callSI (Y2 := mX12_within) (As := [(1, x3), (1, (-99)), (1, 99)]) (S := []) d_X12_place_37 ok_mX12_within ml_X12_91 rfl (Nat.le_of_ble_eq_true rfl) (Nat.le_of_ble_eq_true rfl) rfl hd_1 (c_X12_within (v_X12_within_0 ?_))
          refine ⟨fun hc => ?_, fun hc => ?_⟩
          · have h := h.1 hc
            show WP l mX12_place (rm d 0 0) noX _ 0 0 40 [(2, t), (0, x1), (0, x2), (0, x3), (0, x4)] [(0, 0)] N Λ τ1
            refine r_if_eq (tgt := 58) d_X12_place_40 rfl (fun _ => ?_) (fun hc => absurd hc (by decide))
            refine r_bipush (x := (-3)) d_X12_place_58 ⟨by decide, by decide⟩ (by decide) ?_
            exact r_iret d_X12_place_60 rfl rfl (Nat.le_refl 0) (Nat.le_refl 0) ⟨_, rfl, rfl, rfl, h⟩
          · have h := h.2 hc
            refine ⟨fun hc => ?_, fun hc => ?_⟩
            · have h := h.1 hc
              show WP l mX12_place (rm d 0 0) noX _ 0 0 40 [(2, t), (0, x1), (0, x2), (0, x3), (0, x4)] [(0, 0)] N Λ τ1
              refine r_if_eq (tgt := 58) d_X12_place_40 rfl (fun _ => ?_) (fun hc => absurd hc (by decide))
              refine r_bipush (x := (-3)) d_X12_place_58 ⟨by decide, by decide⟩ (by decide) ?_
              exact r_iret d_X12_place_60 rfl rfl (Nat.le_refl 0) (Nat.le_refl 0) ⟨_, rfl, rfl, rfl, h⟩
            · have h := h.2 hc
              show WP l mX12_place (rm d 0 0) noX _ 0 0 40 [(2, t), (0, x1), (0, x2), (0, x3), (0, x4)] [(0, 1)] N Λ τ1
              refine r_if_eq (tgt := 58) d_X12_place_40 rfl (fun hc => absurd hc (by decide)) (fun _ => ?_)
              refine r_iload (x := x4) d_X12_place_43 rfl ?_
              refine r_i2l d_X12_place_45 ?_
              refine r_ldc2 (x := (-99)) d_X12_place_46 ck_X12_221 (by decide) ?_
              refine r_ldc2 (x := 99) d_X12_place_49 ck_X12_223 (by decide) ?_
              refine x_callSI (Y2 := mX12_within) (As := [(1, x4), (1, (-99)), (1, 99)]) (S := []) d_X12_place_52 ok_mX12_within ml_X12_91 rfl (Nat.le_of_ble_eq_true rfl) (Nat.le_of_ble_eq_true rfl) rfl hd_1 (c_X12_within (v_X12_within_0 ?_))
              refine ⟨fun hc => ?_, fun hc => ?_⟩
              · have h := h.1 hc
                show WP l mX12_place (rm d 0 0) noX _ 0 0 55 [(2, t), (0, x1), (0, x2), (0, x3), (0, x4)] [(0, 0)] N Λ τ1
                refine r_if_ne (tgt := 61) d_X12_place_55 rfl (fun hc => absurd hc (by decide)) (fun _ => ?_)
                refine r_bipush (x := (-3)) d_X12_place_58 ⟨by decide, by decide⟩ (by decide) ?_
                exact r_iret d_X12_place_60 rfl rfl (Nat.le_refl 0) (Nat.le_refl 0) ⟨_, rfl, rfl, rfl, h⟩
              · have h := h.2 hc
                refine ⟨fun hc => ?_, fun hc => ?_⟩
                · have h := h.1 hc
                  show WP l mX12_place (rm d 0 0) noX _ 0 0 55 [(2, t), (0, x1), (0, x2), (0, x3), (0, x4)] [(0, 0)] N Λ τ1
                  refine r_if_ne (tgt := 61) d_X12_place_55 rfl (fun hc => absurd hc (by decide)) (fun _ => ?_)
                  refine r_bipush (x := (-3)) d_X12_place_58 ⟨by decide, by decide⟩ (by decide) ?_
                  exact r_iret d_X12_place_60 rfl rfl (Nat.le_refl 0) (Nat.le_refl 0) ⟨_, rfl, rfl, rfl, h⟩
                · have h := h.2 hc
                  show WP l mX12_place (rm d 0 0) noX _ 0 0 55 [(2, t), (0, x1), (0, x2), (0, x3), (0, x4)] [(0, 1)] N Λ τ1
                  refine r_if_ne (tgt := 61) d_X12_place_55 rfl (fun _ => ?_) (fun hc => absurd hc (by decide))
                  refine r_aload_n (x := t) d_X12_place_61 rfl o_t.1 ?_
                  refine x_callVV (Y2 := mX12_notes) (c := t) (As := []) (S := []) d_X12_place_62 ok_mX12_notes ml_X12_196 rfl (Nat.le_of_ble_eq_true rfl) (Nat.le_of_ble_eq_true rfl) rfl hd_1 kX12 o_t (CV.mono h (fun σ2 h => ?_))
                  refine r_aload_n (x := t) d_X12_place_65 rfl o_t.1 ?_
                  refine r_getf (j := 3) (t := 2) (x := t_state) d_X12_place_66 kX12 (by decide) fl_X12_20 o_t.1 o_t.2.1 o_t.2.2.1 o_t.2.2.2 rfl f_t_state ?_
                  refine r_sipush (x := 966) d_X12_place_69 ⟨by decide, by decide⟩ (by decide) ?_
                  refine r_iconst (x := 3) d_X12_place_72 ⟨by decide, by decide⟩ ?_
                  refine r_iload_n (x := x1) d_X12_place_73 rfl ?_
                  refine r_imul d_X12_place_74 ?_
                  refine r_iadd d_X12_place_75 ?_
                  refine r_iload_n (x := x2) d_X12_place_76 rfl ?_
                  refine x_iast d_X12_place_77 h.1 ?_
                  have h := h.2
                  refine r_nmM (fun τ3 eτ3 => ?_)
                  have h := h τ3 eτ3
                  refine r_aload_n (x := t) d_X12_place_78 rfl o_t.1 ?_
                  refine r_getf (j := 3) (t := 2) (x := t_state) d_X12_place_79 kX12 (by decide) fl_X12_20 o_t.1 o_t.2.1 o_t.2.2.1 o_t.2.2.2 rfl f_t_state ?_
                  refine r_sipush (x := 966) d_X12_place_82 ⟨by decide, by decide⟩ (by decide) ?_
                  refine r_iconst (x := 3) d_X12_place_85 ⟨by decide, by decide⟩ ?_
                  refine r_iload_n (x := x1) d_X12_place_86 rfl ?_
                  refine r_imul d_X12_place_87 ?_
                  refine r_iadd d_X12_place_88 ?_
                  refine r_iconst (x := 1) d_X12_place_89 ⟨by decide, by decide⟩ ?_
                  refine r_iadd d_X12_place_90 ?_
                  refine r_iload_n (x := x3) d_X12_place_91 rfl ?_
                  refine x_iast d_X12_place_92 h.1 ?_
                  have h := h.2
                  refine r_nmM (fun τ4 eτ4 => ?_)
                  have h := h τ4 eτ4
                  refine r_aload_n (x := t) d_X12_place_93 rfl o_t.1 ?_
                  refine r_getf (j := 3) (t := 2) (x := t_state) d_X12_place_94 kX12 (by decide) fl_X12_20 o_t.1 o_t.2.1 o_t.2.2.1 o_t.2.2.2 rfl f_t_state ?_
                  refine r_sipush (x := 966) d_X12_place_97 ⟨by decide, by decide⟩ (by decide) ?_
                  refine r_iconst (x := 3) d_X12_place_100 ⟨by decide, by decide⟩ ?_
                  refine r_iload_n (x := x1) d_X12_place_101 rfl ?_
                  refine r_imul d_X12_place_102 ?_
                  refine r_iadd d_X12_place_103 ?_
                  refine r_iconst (x := 2) d_X12_place_104 ⟨by decide, by decide⟩ ?_
                  refine r_iadd d_X12_place_105 ?_
                  refine r_iload (x := x4) d_X12_place_106 rfl ?_
                  refine x_iast d_X12_place_108 h.1 ?_
                  have h := h.2
                  refine r_nmM (fun τ5 eτ5 => ?_)
                  have h := h τ5 eτ5
                  refine r_iconst (x := 0) d_X12_place_109 ⟨by decide, by decide⟩ ?_
                  exact r_iret d_X12_place_110 rfl rfl (Nat.le_refl 0) (Nat.le_refl 0) ⟨_, rfl, rfl, rfl, h⟩
theorem u_X12_terms_0 {l : Launch} {d N : Nat} {Λ : Lay} {P : Int → Mem → Prop} {σ : Mem} {x1 t t_state : Int} (o_t : Ob N Λ t 21 36) (f_t_state : (Λ t).2.2 3 = t_state) (h0d : 2 ≤ d)
    (h : (∀ τ1, τ1 = st σ t 0 0 → (((cmpL x1 0) < 0 → P (-2) τ1) ∧ (¬ ((cmpL x1 0) < 0) → ((0 < (cmpL x1 5) → P (-2) τ1) ∧ (¬ (0 < (cmpL x1 5)) → (Ix N Λ t_state 0 (mulI 161 x1) ∧ P (τ1 t_state (mulI 161 x1)) τ1))))))) :
    WI l mX12_terms d P 0 [(2, t), (0, x1)] [] N Λ σ := by
  have hd_1 : 1 ≤ d := Nat.le_trans (by decide) h0d
  have he_1 : 1 ≤ d - 1 := Nat.le_sub_of_add_le (Nat.le_trans (by decide) h0d)
  refine r_aload_n (x := t) d_X12_terms_0 rfl o_t.1 ?_
  refine r_iconst (x := 0) d_X12_terms_1 ⟨by decide, by decide⟩ ?_
  refine r_putI (j := 0) d_X12_terms_2 kX12 (by decide) fl_X12_1 rfl o_t.1 o_t.2.1 o_t.2.2.1 o_t.2.2.2 rfl ?_
  refine r_nmM (fun τ1 eτ1 => ?_)
  have h := h τ1 eτ1
  refine r_iload_n (x := x1) d_X12_terms_5 rfl ?_
  refine x_callSI (Y2 := mX12_isShelf) (As := [(0, x1)]) (S := []) d_X12_terms_6 ok_mX12_isShelf ml_X12_199 rfl (Nat.le_of_ble_eq_true rfl) (Nat.le_of_ble_eq_true rfl) rfl hd_1 (c_X12_isShelf (v_X12_isShelf_0 he_1 ?_))
  refine ⟨fun hc => ?_, fun hc => ?_⟩
  · have h := h.1 hc
    show WP l mX12_terms (rm d 0 0) noX _ 0 0 9 [(2, t), (0, x1)] [(0, 0)] N Λ τ1
    refine r_if_eq (tgt := 25) d_X12_terms_9 rfl (fun _ => ?_) (fun hc => absurd hc (by decide))
    refine r_bipush (x := (-2)) d_X12_terms_25 ⟨by decide, by decide⟩ (by decide) ?_
    exact r_iret d_X12_terms_27 rfl rfl (Nat.le_refl 0) (Nat.le_refl 0) ⟨_, rfl, rfl, rfl, h⟩
  · have h := h.2 hc
    refine ⟨fun hc => ?_, fun hc => ?_⟩
    · have h := h.1 hc
      show WP l mX12_terms (rm d 0 0) noX _ 0 0 9 [(2, t), (0, x1)] [(0, 0)] N Λ τ1
      refine r_if_eq (tgt := 25) d_X12_terms_9 rfl (fun _ => ?_) (fun hc => absurd hc (by decide))
      refine r_bipush (x := (-2)) d_X12_terms_25 ⟨by decide, by decide⟩ (by decide) ?_
      exact r_iret d_X12_terms_27 rfl rfl (Nat.le_refl 0) (Nat.le_refl 0) ⟨_, rfl, rfl, rfl, h⟩
    · have h := h.2 hc
      show WP l mX12_terms (rm d 0 0) noX _ 0 0 9 [(2, t), (0, x1)] [(0, 1)] N Λ τ1
      refine r_if_eq (tgt := 25) d_X12_terms_9 rfl (fun hc => absurd hc (by decide)) (fun _ => ?_)
      refine r_aload_n (x := t) d_X12_terms_12 rfl o_t.1 ?_
      refine r_getf (j := 3) (t := 2) (x := t_state) d_X12_terms_13 kX12 (by decide) fl_X12_20 o_t.1 o_t.2.1 o_t.2.2.1 o_t.2.2.2 rfl f_t_state ?_
      refine r_sipush (x := 161) d_X12_terms_16 ⟨by decide, by decide⟩ (by decide) ?_
      refine r_iload_n (x := x1) d_X12_terms_19 rfl ?_
      refine r_imul d_X12_terms_20 ?_
      refine x_iald d_X12_terms_21 h.1 ?_
      have h := h.2
      refine r_goto (tgt := 27) d_X12_terms_22 rfl ?_
      exact r_iret d_X12_terms_27 rfl rfl (Nat.le_refl 0) (Nat.le_refl 0) ⟨_, rfl, rfl, rfl, h⟩
theorem u_X12_term__0 {l : Launch} {d N : Nat} {Λ : Lay} {P : Int → Mem → Prop} {σ : Mem} {x1 x2 x3 t t_letterOf t_state : Int} (o_t : Ob N Λ t 21 36) (f_t_state : (Λ t).2.2 3 = t_state) (f_t_letterOf : (Λ t).2.2 2 = t_letterOf) (h0d : 2 ≤ d)
    (h : (∀ τ1, τ1 = st σ t 0 0 → (((cmpL x1 0) < 0 → P (-2147483648) τ1) ∧ (¬ ((cmpL x1 0) < 0) → ((0 < (cmpL x1 5) → P (-2147483648) τ1) ∧ (¬ (0 < (cmpL x1 5)) → (Ix N Λ t_state 0 (mulI 161 x1) ∧ (((cmpL x2 0) < 0 → P (-2147483648) τ1) ∧ (¬ ((cmpL x2 0) < 0) → ((0 < (cmpL x2 (subI (τ1 t_state (mulI 161 x1)) 1)) → P (-2147483648) τ1) ∧ (¬ (0 < (cmpL x2 (subI (τ1 t_state (mulI 161 x1)) 1))) → (Ix N Λ t_state 0 (addI (addI (mulI 161 x1) 1) (mulI 2 x2)) ∧ (∀ y2, y2 = (τ1 t_state (addI (addI (mulI 161 x1) 1) (mulI 2 x2))) → (CI l mX12_brokenIn (d - 1) [(2, t), (0, y2)] N Λ τ1 (fun v4 σ3 => (((cmpL x3 10) < 0 → ((x3 < 0 ∨ 4 < x3 → P (-2147483648) σ3) ∧ (x3 = 0 → (Ix N Λ t_state 0 (addI (addI (mulI 161 x1) 2) (mulI 2 x2)) ∧ P (σ3 t_state (addI (addI (mulI 161 x1) 2) (mulI 2 x2))) σ3)) ∧ (x3 = 1 → (CI l mX12_degreeOf (d - 1) [(0, y2)] N Λ σ3 (fun v6 σ5 => P v6 σ5))) ∧ (x3 = 2 → ((¬ v4 = (-1) → P 0 σ3) ∧ (v4 = (-1) → P 1 σ3))) ∧ (x3 = 3 → P v4 σ3) ∧ (x3 = 4 → ((¬ v4 = (-1) → (CI l mX12_rankIn (d - 1) [(0, y2), (0, v4)] N Λ σ3 (fun v8 σ7 => (CI l mX12_rankIn (d - 1) [(0, y2), (0, (addI v4 1))] N Λ σ7 (fun v10 σ9 => (CI l mX12_breakOf (d - 1) [(2, t), (0, v8), (0, v10)] N Λ σ9 (fun v12 σ11 => P v12 σ11))))))) ∧ (v4 = (-1) → P (-1) σ3))))) ∧ (¬ ((cmpL x3 10) < 0) → ((0 < (cmpL x3 21) → ((x3 < 0 ∨ 4 < x3 → P (-2147483648) σ3) ∧ (x3 = 0 → (Ix N Λ t_state 0 (addI (addI (mulI 161 x1) 2) (mulI 2 x2)) ∧ P (σ3 t_state (addI (addI (mulI 161 x1) 2) (mulI 2 x2))) σ3)) ∧ (x3 = 1 → (CI l mX12_degreeOf (d - 1) [(0, y2)] N Λ σ3 (fun v14 σ13 => P v14 σ13))) ∧ (x3 = 2 → ((¬ v4 = (-1) → P 0 σ3) ∧ (v4 = (-1) → P 1 σ3))) ∧ (x3 = 3 → P v4 σ3) ∧ (x3 = 4 → ((¬ v4 = (-1) → (CI l mX12_rankIn (d - 1) [(0, y2), (0, v4)] N Λ σ3 (fun v16 σ15 => (CI l mX12_rankIn (d - 1) [(0, y2), (0, (addI v4 1))] N Λ σ15 (fun v18 σ17 => (CI l mX12_breakOf (d - 1) [(2, t), (0, v16), (0, v18)] N Λ σ17 (fun v20 σ19 => P v20 σ19))))))) ∧ (v4 = (-1) → P (-1) σ3))))) ∧ (¬ (0 < (cmpL x3 21)) → (∀ y21, y21 = (divI (subI x3 10) 3) → (CI l mX12_degreeOf (d - 1) [(0, y2)] N Λ σ3 (fun v23 σ22 => ((v23 ≤ y21 → P (-1) σ22) ∧ (¬ (v23 ≤ y21) → (CI l mX12_rankIn (d - 1) [(0, y2), (0, y21)] N Λ σ22 (fun v25 σ24 => (Ix N Λ t_letterOf 0 (addI (mulI 3 v25) (remI (subI x3 10) 3)) ∧ P (σ24 t_letterOf (addI (mulI 3 v25) (remI (subI x3 10) 3))) σ24))))))))))))))))))))))))))) :
    WI l mX12_term_ d P 0 [(2, t), (0, x1), (0, x2), (0, x3), (3, 0), (3, 0), (3, 0)] [] N Λ σ := by
  have hd_1 : 1 ≤ d := Nat.le_trans (by decide) h0d
  have he_1 : 1 ≤ d - 1 := Nat.le_sub_of_add_le (Nat.le_trans (by decide) h0d)
  refine r_aload_n (x := t) d_X12_term__0 rfl o_t.1 ?_
  refine r_iconst (x := 0) d_X12_term__1 ⟨by decide, by decide⟩ ?_
  refine r_putI (j := 0) d_X12_term__2 kX12 (by decide) fl_X12_1 rfl o_t.1 o_t.2.1 o_t.2.2.1 o_t.2.2.2 rfl ?_
  refine r_nmM (fun τ1 eτ1 => ?_)
  have h := h τ1 eτ1
  refine r_iload_n (x := x1) d_X12_term__5 rfl ?_
  refine x_callSI (Y2 := mX12_isShelf) (As := [(0, x1)]) (S := []) d_X12_term__6 ok_mX12_isShelf ml_X12_199 rfl (Nat.le_of_ble_eq_true rfl) (Nat.le_of_ble_eq_true rfl) rfl hd_1 (c_X12_isShelf (v_X12_isShelf_0 he_1 ?_))
  refine ⟨fun hc => ?_, fun hc => ?_⟩
  · have h := h.1 hc
    show WP l mX12_term_ (rm d 0 0) noX _ 0 0 9 [(2, t), (0, x1), (0, x2), (0, x3), (3, 0), (3, 0), (3, 0)] [(0, 0)] N Λ τ1
    refine r_if_eq (tgt := 34) d_X12_term__9 rfl (fun _ => ?_) (fun hc => absurd hc (by decide))
    refine r_ldcw (x := (-2147483648)) d_X12_term__34 ck_X12_334 (by decide) ?_
    exact r_iret d_X12_term__37 rfl rfl (Nat.le_refl 0) (Nat.le_refl 0) ⟨_, rfl, rfl, rfl, h⟩
  · have h := h.2 hc
    refine ⟨fun hc => ?_, fun hc => ?_⟩
    · have h := h.1 hc
      show WP l mX12_term_ (rm d 0 0) noX _ 0 0 9 [(2, t), (0, x1), (0, x2), (0, x3), (3, 0), (3, 0), (3, 0)] [(0, 0)] N Λ τ1
      refine r_if_eq (tgt := 34) d_X12_term__9 rfl (fun _ => ?_) (fun hc => absurd hc (by decide))
      refine r_ldcw (x := (-2147483648)) d_X12_term__34 ck_X12_334 (by decide) ?_
      exact r_iret d_X12_term__37 rfl rfl (Nat.le_refl 0) (Nat.le_refl 0) ⟨_, rfl, rfl, rfl, h⟩
    · have h := h.2 hc
      show WP l mX12_term_ (rm d 0 0) noX _ 0 0 9 [(2, t), (0, x1), (0, x2), (0, x3), (3, 0), (3, 0), (3, 0)] [(0, 1)] N Λ τ1
      refine r_if_eq (tgt := 34) d_X12_term__9 rfl (fun hc => absurd hc (by decide)) (fun _ => ?_)
      refine r_iload_n (x := x2) d_X12_term__12 rfl ?_
      refine r_i2l d_X12_term__13 ?_
      refine r_lconst d_X12_term__14 ?_
      skip
      refine r_aload_n (x := t) d_X12_term__15 rfl o_t.1 ?_
      refine r_getf (j := 3) (t := 2) (x := t_state) d_X12_term__16 kX12 (by decide) fl_X12_20 o_t.1 o_t.2.1 o_t.2.2.1 o_t.2.2.2 rfl f_t_state ?_
      refine r_sipush (x := 161) d_X12_term__19 ⟨by decide, by decide⟩ (by decide) ?_
      refine r_iload_n (x := x1) d_X12_term__22 rfl ?_
      refine r_imul d_X12_term__23 ?_
      refine x_iald d_X12_term__24 h.1 ?_
      have h := h.2
      refine r_iconst (x := 1) d_X12_term__25 ⟨by decide, by decide⟩ ?_
      refine r_isub d_X12_term__26 ?_
      refine r_i2l d_X12_term__27 ?_
      refine x_callSI (Y2 := mX12_within) (As := [(1, x2), (1, 0), (1, (subI (τ1 t_state (mulI 161 x1)) 1))]) (S := []) d_X12_term__28 ok_mX12_within ml_X12_91 rfl (Nat.le_of_ble_eq_true rfl) (Nat.le_of_ble_eq_true rfl) rfl hd_1 (c_X12_within (v_X12_within_0 ?_))
      refine ⟨fun hc => ?_, fun hc => ?_⟩
      · have h := h.1 hc
        show WP l mX12_term_ (rm d 0 0) noX _ 0 0 31 [(2, t), (0, x1), (0, x2), (0, x3), (3, 0), (3, 0), (3, 0)] [(0, 0)] N Λ τ1
        refine r_if_ne (tgt := 38) d_X12_term__31 rfl (fun hc => absurd hc (by decide)) (fun _ => ?_)
        refine r_ldcw (x := (-2147483648)) d_X12_term__34 ck_X12_334 (by decide) ?_
        exact r_iret d_X12_term__37 rfl rfl (Nat.le_refl 0) (Nat.le_refl 0) ⟨_, rfl, rfl, rfl, h⟩
      · have h := h.2 hc
        refine ⟨fun hc => ?_, fun hc => ?_⟩
        · have h := h.1 hc
          show WP l mX12_term_ (rm d 0 0) noX _ 0 0 31 [(2, t), (0, x1), (0, x2), (0, x3), (3, 0), (3, 0), (3, 0)] [(0, 0)] N Λ τ1
          refine r_if_ne (tgt := 38) d_X12_term__31 rfl (fun hc => absurd hc (by decide)) (fun _ => ?_)
          refine r_ldcw (x := (-2147483648)) d_X12_term__34 ck_X12_334 (by decide) ?_
          exact r_iret d_X12_term__37 rfl rfl (Nat.le_refl 0) (Nat.le_refl 0) ⟨_, rfl, rfl, rfl, h⟩
        · have h := h.2 hc
          show WP l mX12_term_ (rm d 0 0) noX _ 0 0 31 [(2, t), (0, x1), (0, x2), (0, x3), (3, 0), (3, 0), (3, 0)] [(0, 1)] N Λ τ1
          refine r_if_ne (tgt := 38) d_X12_term__31 rfl (fun _ => ?_) (fun hc => absurd hc (by decide))
          refine r_aload_n (x := t) d_X12_term__38 rfl o_t.1 ?_
          refine r_getf (j := 3) (t := 2) (x := t_state) d_X12_term__39 kX12 (by decide) fl_X12_20 o_t.1 o_t.2.1 o_t.2.2.1 o_t.2.2.2 rfl f_t_state ?_
          refine r_sipush (x := 161) d_X12_term__42 ⟨by decide, by decide⟩ (by decide) ?_
          refine r_iload_n (x := x1) d_X12_term__45 rfl ?_
          refine r_imul d_X12_term__46 ?_
          refine r_iconst (x := 1) d_X12_term__47 ⟨by decide, by decide⟩ ?_
          refine r_iadd d_X12_term__48 ?_
          refine r_iconst (x := 2) d_X12_term__49 ⟨by decide, by decide⟩ ?_
          refine r_iload_n (x := x2) d_X12_term__50 rfl ?_
          refine r_imul d_X12_term__51 ?_
          refine r_iadd d_X12_term__52 ?_
          refine x_iald d_X12_term__53 h.1 ?_
          have h := h.2
          refine r_nm (fun y2 ey2 => ?_)
          have h := h y2 ey2
          refine r_istore (L2 := [(2, t), (0, x1), (0, x2), (0, x3), (0, y2), (3, 0), (3, 0)]) d_X12_term__54 (by decide) rfl rfl ?_
          refine r_aload_n (x := t) d_X12_term__56 rfl o_t.1 ?_
          refine r_iload (x := y2) d_X12_term__57 rfl ?_
          refine x_callVI (Y2 := mX12_brokenIn) (c := t) (As := [(0, y2)]) (S := []) d_X12_term__59 ok_mX12_brokenIn ml_X12_171 rfl (Nat.le_of_ble_eq_true rfl) (Nat.le_of_ble_eq_true rfl) rfl hd_1 kX12 o_t (CI.mono h (fun v4 σ3 h => ?_))
          refine r_istore (L2 := [(2, t), (0, x1), (0, x2), (0, x3), (0, y2), (0, v4), (3, 0)]) d_X12_term__62 (by decide) rfl rfl ?_
          refine r_iload_n (x := x3) d_X12_term__64 rfl ?_
          refine r_i2l d_X12_term__65 ?_
          refine r_ldc2 (x := 10) d_X12_term__66 ck_X12_335 (by decide) ?_
          refine r_ldc2 (x := 21) d_X12_term__69 ck_X12_337 (by decide) ?_
          refine x_callSI (Y2 := mX12_within) (As := [(1, x3), (1, 10), (1, 21)]) (S := []) d_X12_term__72 ok_mX12_within ml_X12_91 rfl (Nat.le_of_ble_eq_true rfl) (Nat.le_of_ble_eq_true rfl) rfl hd_1 (c_X12_within (v_X12_within_0 ?_))
          refine ⟨fun hc => ?_, fun hc => ?_⟩
          · have h := h.1 hc
            show WP l mX12_term_ (rm d 0 0) noX _ 0 0 75 [(2, t), (0, x1), (0, x2), (0, x3), (0, y2), (0, v4), (3, 0)] [(0, 0)] N Λ σ3
            refine r_if_eq (tgt := 122) d_X12_term__75 rfl (fun _ => ?_) (fun hc => absurd hc (by decide))
            refine r_iload_n (x := x3) d_X12_term__122 rfl ?_
            by_cases hr : x3 < 0 ∨ 4 < x3
            · have h := h.1 hr
              refine r_tout (tgt := 225) d_X12_term__123 hr rfl ?_
              refine r_ldcw (x := (-2147483648)) d_X12_term__225 ck_X12_334 (by decide) ?_
              exact r_iret d_X12_term__228 rfl rfl (Nat.le_refl 0) (Nat.le_refl 0) ⟨_, rfl, rfl, rfl, h⟩
            · have h := h.2
              by_cases hk0 : x3 = 0
              · have h := h.1 hk0
                refine r_tin (off := 33) (tgt := 156) d_X12_term__123 (by rw [hk0]; decide) (by rw [hk0]; decide) (by rw [hk0]; rfl) rfl ?_
                refine r_aload_n (x := t) d_X12_term__156 rfl o_t.1 ?_
                refine r_getf (j := 3) (t := 2) (x := t_state) d_X12_term__157 kX12 (by decide) fl_X12_20 o_t.1 o_t.2.1 o_t.2.2.1 o_t.2.2.2 rfl f_t_state ?_
                refine r_sipush (x := 161) d_X12_term__160 ⟨by decide, by decide⟩ (by decide) ?_
                refine r_iload_n (x := x1) d_X12_term__163 rfl ?_
                refine r_imul d_X12_term__164 ?_
                refine r_iconst (x := 2) d_X12_term__165 ⟨by decide, by decide⟩ ?_
                refine r_iadd d_X12_term__166 ?_
                refine r_iconst (x := 2) d_X12_term__167 ⟨by decide, by decide⟩ ?_
                refine r_iload_n (x := x2) d_X12_term__168 rfl ?_
                refine r_imul d_X12_term__169 ?_
                refine r_iadd d_X12_term__170 ?_
                refine x_iald d_X12_term__171 h.1 ?_
                have h := h.2
                exact r_iret d_X12_term__172 rfl rfl (Nat.le_refl 0) (Nat.le_refl 0) ⟨_, rfl, rfl, rfl, h⟩
              have h := h.2
              by_cases hk1 : x3 = 1
              · have h := h.1 hk1
                refine r_tin (off := 50) (tgt := 173) d_X12_term__123 (by rw [hk1]; decide) (by rw [hk1]; decide) (by rw [hk1]; rfl) rfl ?_
                refine r_iload (x := y2) d_X12_term__173 rfl ?_
                refine x_callSI (Y2 := mX12_degreeOf) (As := [(0, y2)]) (S := []) d_X12_term__175 ok_mX12_degreeOf ml_X12_138 rfl (Nat.le_of_ble_eq_true rfl) (Nat.le_of_ble_eq_true rfl) rfl hd_1 (CI.mono h (fun v6 σ5 h => ?_))
                exact r_iret d_X12_term__178 rfl rfl (Nat.le_refl 0) (Nat.le_refl 0) ⟨_, rfl, rfl, rfl, h⟩
              have h := h.2
              by_cases hk2 : x3 = 2
              · have h := h.1 hk2
                refine r_tin (off := 56) (tgt := 179) d_X12_term__123 (by rw [hk2]; decide) (by rw [hk2]; decide) (by rw [hk2]; rfl) rfl ?_
                refine r_iload (x := v4) d_X12_term__179 rfl ?_
                refine r_iconst (x := (-1)) d_X12_term__181 ⟨by decide, by decide⟩ ?_
                refine r_ic_ne (tgt := 189) d_X12_term__182 rfl (fun hc => ?_) (fun hc => ?_)
                · have h := h.1 hc
                  refine r_iconst (x := 0) d_X12_term__189 ⟨by decide, by decide⟩ ?_
                  exact r_iret d_X12_term__190 rfl rfl (Nat.le_refl 0) (Nat.le_refl 0) ⟨_, rfl, rfl, rfl, h⟩
                · have h := h.2 hc
                  refine r_iconst (x := 1) d_X12_term__185 ⟨by decide, by decide⟩ ?_
                  refine r_goto (tgt := 190) d_X12_term__186 rfl ?_
                  exact r_iret d_X12_term__190 rfl rfl (Nat.le_refl 0) (Nat.le_refl 0) ⟨_, rfl, rfl, rfl, h⟩
              have h := h.2
              by_cases hk3 : x3 = 3
              · have h := h.1 hk3
                refine r_tin (off := 68) (tgt := 191) d_X12_term__123 (by rw [hk3]; decide) (by rw [hk3]; decide) (by rw [hk3]; rfl) rfl ?_
                refine r_iload (x := v4) d_X12_term__191 rfl ?_
                exact r_iret d_X12_term__193 rfl rfl (Nat.le_refl 0) (Nat.le_refl 0) ⟨_, rfl, rfl, rfl, h⟩
              have h := h.2
              by_cases hk4 : x3 = 4
              · have h := h hk4
                refine r_tin (off := 71) (tgt := 194) d_X12_term__123 (by rw [hk4]; decide) (by rw [hk4]; decide) (by rw [hk4]; rfl) rfl ?_
                refine r_iload (x := v4) d_X12_term__194 rfl ?_
                refine r_iconst (x := (-1)) d_X12_term__196 ⟨by decide, by decide⟩ ?_
                refine r_ic_ne (tgt := 204) d_X12_term__197 rfl (fun hc => ?_) (fun hc => ?_)
                · have h := h.1 hc
                  refine r_aload_n (x := t) d_X12_term__204 rfl o_t.1 ?_
                  refine r_iload (x := y2) d_X12_term__205 rfl ?_
                  refine r_iload (x := v4) d_X12_term__207 rfl ?_
                  refine x_callSI (Y2 := mX12_rankIn) (As := [(0, y2), (0, v4)]) (S := [(2, t)]) d_X12_term__209 ok_mX12_rankIn ml_X12_135 rfl (Nat.le_of_ble_eq_true rfl) (Nat.le_of_ble_eq_true rfl) rfl hd_1 (CI.mono h (fun v8 σ7 h => ?_))
                  refine r_iload (x := y2) d_X12_term__212 rfl ?_
                  refine r_iload (x := v4) d_X12_term__214 rfl ?_
                  refine r_iconst (x := 1) d_X12_term__216 ⟨by decide, by decide⟩ ?_
                  refine r_iadd d_X12_term__217 ?_
                  refine x_callSI (Y2 := mX12_rankIn) (As := [(0, y2), (0, (addI v4 1))]) (S := [(0, v8), (2, t)]) d_X12_term__218 ok_mX12_rankIn ml_X12_135 rfl (Nat.le_of_ble_eq_true rfl) (Nat.le_of_ble_eq_true rfl) rfl hd_1 (CI.mono h (fun v10 σ9 h => ?_))
                  refine x_callVI (Y2 := mX12_breakOf) (c := t) (As := [(0, v8), (0, v10)]) (S := []) d_X12_term__221 ok_mX12_breakOf ml_X12_151 rfl (Nat.le_of_ble_eq_true rfl) (Nat.le_of_ble_eq_true rfl) rfl hd_1 kX12 o_t (CI.mono h (fun v12 σ11 h => ?_))
                  exact r_iret d_X12_term__224 rfl rfl (Nat.le_refl 0) (Nat.le_refl 0) ⟨_, rfl, rfl, rfl, h⟩
                · have h := h.2 hc
                  refine r_iconst (x := (-1)) d_X12_term__200 ⟨by decide, by decide⟩ ?_
                  refine r_goto (tgt := 224) d_X12_term__201 rfl ?_
                  exact r_iret d_X12_term__224 rfl rfl (Nat.le_refl 0) (Nat.le_refl 0) ⟨_, rfl, rfl, rfl, h⟩
              exact (tsw_4 hr hk0 hk1 hk2 hk3 hk4).elim
          · have h := h.2 hc
            refine ⟨fun hc => ?_, fun hc => ?_⟩
            · have h := h.1 hc
              show WP l mX12_term_ (rm d 0 0) noX _ 0 0 75 [(2, t), (0, x1), (0, x2), (0, x3), (0, y2), (0, v4), (3, 0)] [(0, 0)] N Λ σ3
              refine r_if_eq (tgt := 122) d_X12_term__75 rfl (fun _ => ?_) (fun hc => absurd hc (by decide))
              refine r_iload_n (x := x3) d_X12_term__122 rfl ?_
              by_cases hr : x3 < 0 ∨ 4 < x3
              · have h := h.1 hr
                refine r_tout (tgt := 225) d_X12_term__123 hr rfl ?_
                refine r_ldcw (x := (-2147483648)) d_X12_term__225 ck_X12_334 (by decide) ?_
                exact r_iret d_X12_term__228 rfl rfl (Nat.le_refl 0) (Nat.le_refl 0) ⟨_, rfl, rfl, rfl, h⟩
              · have h := h.2
                by_cases hk0 : x3 = 0
                · have h := h.1 hk0
                  refine r_tin (off := 33) (tgt := 156) d_X12_term__123 (by rw [hk0]; decide) (by rw [hk0]; decide) (by rw [hk0]; rfl) rfl ?_
                  refine r_aload_n (x := t) d_X12_term__156 rfl o_t.1 ?_
                  refine r_getf (j := 3) (t := 2) (x := t_state) d_X12_term__157 kX12 (by decide) fl_X12_20 o_t.1 o_t.2.1 o_t.2.2.1 o_t.2.2.2 rfl f_t_state ?_
                  refine r_sipush (x := 161) d_X12_term__160 ⟨by decide, by decide⟩ (by decide) ?_
                  refine r_iload_n (x := x1) d_X12_term__163 rfl ?_
                  refine r_imul d_X12_term__164 ?_
                  refine r_iconst (x := 2) d_X12_term__165 ⟨by decide, by decide⟩ ?_
                  refine r_iadd d_X12_term__166 ?_
                  refine r_iconst (x := 2) d_X12_term__167 ⟨by decide, by decide⟩ ?_
                  refine r_iload_n (x := x2) d_X12_term__168 rfl ?_
                  refine r_imul d_X12_term__169 ?_
                  refine r_iadd d_X12_term__170 ?_
                  refine x_iald d_X12_term__171 h.1 ?_
                  have h := h.2
                  exact r_iret d_X12_term__172 rfl rfl (Nat.le_refl 0) (Nat.le_refl 0) ⟨_, rfl, rfl, rfl, h⟩
                have h := h.2
                by_cases hk1 : x3 = 1
                · have h := h.1 hk1
                  refine r_tin (off := 50) (tgt := 173) d_X12_term__123 (by rw [hk1]; decide) (by rw [hk1]; decide) (by rw [hk1]; rfl) rfl ?_
                  refine r_iload (x := y2) d_X12_term__173 rfl ?_
                  refine x_callSI (Y2 := mX12_degreeOf) (As := [(0, y2)]) (S := []) d_X12_term__175 ok_mX12_degreeOf ml_X12_138 rfl (Nat.le_of_ble_eq_true rfl) (Nat.le_of_ble_eq_true rfl) rfl hd_1 (CI.mono h (fun v14 σ13 h => ?_))
                  exact r_iret d_X12_term__178 rfl rfl (Nat.le_refl 0) (Nat.le_refl 0) ⟨_, rfl, rfl, rfl, h⟩
                have h := h.2
                by_cases hk2 : x3 = 2
                · have h := h.1 hk2
                  refine r_tin (off := 56) (tgt := 179) d_X12_term__123 (by rw [hk2]; decide) (by rw [hk2]; decide) (by rw [hk2]; rfl) rfl ?_
                  refine r_iload (x := v4) d_X12_term__179 rfl ?_
                  refine r_iconst (x := (-1)) d_X12_term__181 ⟨by decide, by decide⟩ ?_
                  refine r_ic_ne (tgt := 189) d_X12_term__182 rfl (fun hc => ?_) (fun hc => ?_)
                  · have h := h.1 hc
                    refine r_iconst (x := 0) d_X12_term__189 ⟨by decide, by decide⟩ ?_
                    exact r_iret d_X12_term__190 rfl rfl (Nat.le_refl 0) (Nat.le_refl 0) ⟨_, rfl, rfl, rfl, h⟩
                  · have h := h.2 hc
                    refine r_iconst (x := 1) d_X12_term__185 ⟨by decide, by decide⟩ ?_
                    refine r_goto (tgt := 190) d_X12_term__186 rfl ?_
                    exact r_iret d_X12_term__190 rfl rfl (Nat.le_refl 0) (Nat.le_refl 0) ⟨_, rfl, rfl, rfl, h⟩
                have h := h.2
                by_cases hk3 : x3 = 3
                · have h := h.1 hk3
                  refine r_tin (off := 68) (tgt := 191) d_X12_term__123 (by rw [hk3]; decide) (by rw [hk3]; decide) (by rw [hk3]; rfl) rfl ?_
                  refine r_iload (x := v4) d_X12_term__191 rfl ?_
                  exact r_iret d_X12_term__193 rfl rfl (Nat.le_refl 0) (Nat.le_refl 0) ⟨_, rfl, rfl, rfl, h⟩
                have h := h.2
                by_cases hk4 : x3 = 4
                · have h := h hk4
                  refine r_tin (off := 71) (tgt := 194) d_X12_term__123 (by rw [hk4]; decide) (by rw [hk4]; decide) (by rw [hk4]; rfl) rfl ?_
                  refine r_iload (x := v4) d_X12_term__194 rfl ?_
                  refine r_iconst (x := (-1)) d_X12_term__196 ⟨by decide, by decide⟩ ?_
                  refine r_ic_ne (tgt := 204) d_X12_term__197 rfl (fun hc => ?_) (fun hc => ?_)
                  · have h := h.1 hc
                    refine r_aload_n (x := t) d_X12_term__204 rfl o_t.1 ?_
                    refine r_iload (x := y2) d_X12_term__205 rfl ?_
                    refine r_iload (x := v4) d_X12_term__207 rfl ?_
                    refine x_callSI (Y2 := mX12_rankIn) (As := [(0, y2), (0, v4)]) (S := [(2, t)]) d_X12_term__209 ok_mX12_rankIn ml_X12_135 rfl (Nat.le_of_ble_eq_true rfl) (Nat.le_of_ble_eq_true rfl) rfl hd_1 (CI.mono h (fun v16 σ15 h => ?_))
                    refine r_iload (x := y2) d_X12_term__212 rfl ?_
                    refine r_iload (x := v4) d_X12_term__214 rfl ?_
                    refine r_iconst (x := 1) d_X12_term__216 ⟨by decide, by decide⟩ ?_
                    refine r_iadd d_X12_term__217 ?_
                    refine x_callSI (Y2 := mX12_rankIn) (As := [(0, y2), (0, (addI v4 1))]) (S := [(0, v16), (2, t)]) d_X12_term__218 ok_mX12_rankIn ml_X12_135 rfl (Nat.le_of_ble_eq_true rfl) (Nat.le_of_ble_eq_true rfl) rfl hd_1 (CI.mono h (fun v18 σ17 h => ?_))
                    refine x_callVI (Y2 := mX12_breakOf) (c := t) (As := [(0, v16), (0, v18)]) (S := []) d_X12_term__221 ok_mX12_breakOf ml_X12_151 rfl (Nat.le_of_ble_eq_true rfl) (Nat.le_of_ble_eq_true rfl) rfl hd_1 kX12 o_t (CI.mono h (fun v20 σ19 h => ?_))
                    exact r_iret d_X12_term__224 rfl rfl (Nat.le_refl 0) (Nat.le_refl 0) ⟨_, rfl, rfl, rfl, h⟩
                  · have h := h.2 hc
                    refine r_iconst (x := (-1)) d_X12_term__200 ⟨by decide, by decide⟩ ?_
                    refine r_goto (tgt := 224) d_X12_term__201 rfl ?_
                    exact r_iret d_X12_term__224 rfl rfl (Nat.le_refl 0) (Nat.le_refl 0) ⟨_, rfl, rfl, rfl, h⟩
                exact (tsw_4 hr hk0 hk1 hk2 hk3 hk4).elim
            · have h := h.2 hc
              show WP l mX12_term_ (rm d 0 0) noX _ 0 0 75 [(2, t), (0, x1), (0, x2), (0, x3), (0, y2), (0, v4), (3, 0)] [(0, 1)] N Λ σ3
              refine r_if_eq (tgt := 122) d_X12_term__75 rfl (fun hc => absurd hc (by decide)) (fun _ => ?_)
              refine r_iload_n (x := x3) d_X12_term__78 rfl ?_
              refine r_bipush (x := 10) d_X12_term__79 ⟨by decide, by decide⟩ (by decide) ?_
              refine r_isub d_X12_term__81 ?_
              refine r_iconst (x := 3) d_X12_term__82 ⟨by decide, by decide⟩ ?_
              refine r_idiv d_X12_term__83 (by decide) ?_
              refine r_nm (fun y21 ey21 => ?_)
              have h := h y21 ey21
              refine r_istore (L2 := [(2, t), (0, x1), (0, x2), (0, x3), (0, y2), (0, v4), (0, y21)]) d_X12_term__84 (by decide) rfl rfl ?_
              refine r_iload (x := y21) d_X12_term__86 rfl ?_
              refine r_iload (x := y2) d_X12_term__88 rfl ?_
              refine x_callSI (Y2 := mX12_degreeOf) (As := [(0, y2)]) (S := [(0, y21)]) d_X12_term__90 ok_mX12_degreeOf ml_X12_138 rfl (Nat.le_of_ble_eq_true rfl) (Nat.le_of_ble_eq_true rfl) rfl hd_1 (CI.mono h (fun v23 σ22 h => ?_))
              refine r_ic_ge (tgt := 120) d_X12_term__93 rfl (fun hc => ?_) (fun hc => ?_)
              · have h := h.1 hc
                refine r_iconst (x := (-1)) d_X12_term__120 ⟨by decide, by decide⟩ ?_
                exact r_iret d_X12_term__121 rfl rfl (Nat.le_refl 0) (Nat.le_refl 0) ⟨_, rfl, rfl, rfl, h⟩
              · have h := h.2 hc
                refine r_aload_n (x := t) d_X12_term__96 rfl o_t.1 ?_
                refine r_getf (j := 2) (t := 2) (x := t_letterOf) d_X12_term__97 kX12 (by decide) fl_X12_17 o_t.1 o_t.2.1 o_t.2.2.1 o_t.2.2.2 rfl f_t_letterOf ?_
                refine r_iconst (x := 3) d_X12_term__100 ⟨by decide, by decide⟩ ?_
                refine r_iload (x := y2) d_X12_term__101 rfl ?_
                refine r_iload (x := y21) d_X12_term__103 rfl ?_
                refine x_callSI (Y2 := mX12_rankIn) (As := [(0, y2), (0, y21)]) (S := [(0, 3), (2, t_letterOf)]) d_X12_term__105 ok_mX12_rankIn ml_X12_135 rfl (Nat.le_of_ble_eq_true rfl) (Nat.le_of_ble_eq_true rfl) rfl hd_1 (CI.mono h (fun v25 σ24 h => ?_))
                refine r_imul d_X12_term__108 ?_
                refine r_iload_n (x := x3) d_X12_term__109 rfl ?_
                refine r_bipush (x := 10) d_X12_term__110 ⟨by decide, by decide⟩ (by decide) ?_
                refine r_isub d_X12_term__112 ?_
                refine r_iconst (x := 3) d_X12_term__113 ⟨by decide, by decide⟩ ?_
                refine r_irem d_X12_term__114 (by decide) ?_
                refine r_iadd d_X12_term__115 ?_
                refine x_iald d_X12_term__116 h.1 ?_
                have h := h.2
                refine r_goto (tgt := 121) d_X12_term__117 rfl ?_
                exact r_iret d_X12_term__121 rfl rfl (Nat.le_refl 0) (Nat.le_refl 0) ⟨_, rfl, rfl, rfl, h⟩
theorem u_X12_degree_0 {l : Launch} {d N : Nat} {Λ : Lay} {P : Int → Mem → Prop} {σ : Mem} {x1 x2 t : Int} (o_t : Ob N Λ t 21 36) (h0d : 2 ≤ d)
    (h : (∀ τ1, τ1 = st σ t 0 0 → (((cmpL x1 0) < 0 → P (-2) τ1) ∧ (¬ ((cmpL x1 0) < 0) → ((0 < (cmpL x1 5) → P (-2) τ1) ∧ (¬ (0 < (cmpL x1 5)) → (((cmpL x2 0) < 0 → P (-2) τ1) ∧ (¬ ((cmpL x2 0) < 0) → ((0 < (cmpL x2 9) → P (-2) τ1) ∧ (¬ (0 < (cmpL x2 9)) → WI l mX12_degree d P 27 [(2, t), (0, x1), (0, x2), (0, (-1)), (0, 0), (3, 0)] [] N Λ τ1)))))))))) :
    WI l mX12_degree d P 0 [(2, t), (0, x1), (0, x2), (3, 0), (3, 0), (3, 0)] [] N Λ σ := by
  have hd_1 : 1 ≤ d := Nat.le_trans (by decide) h0d
  have he_1 : 1 ≤ d - 1 := Nat.le_sub_of_add_le (Nat.le_trans (by decide) h0d)
  refine r_aload_n (x := t) d_X12_degree_0 rfl o_t.1 ?_
  refine r_iconst (x := 0) d_X12_degree_1 ⟨by decide, by decide⟩ ?_
  refine r_putI (j := 0) d_X12_degree_2 kX12 (by decide) fl_X12_1 rfl o_t.1 o_t.2.1 o_t.2.2.1 o_t.2.2.2 rfl ?_
  refine r_nmM (fun τ1 eτ1 => ?_)
  have h := h τ1 eτ1
  refine r_iload_n (x := x1) d_X12_degree_5 rfl ?_
  refine x_callSI (Y2 := mX12_isShelf) (As := [(0, x1)]) (S := []) d_X12_degree_6 ok_mX12_isShelf ml_X12_199 rfl (Nat.le_of_ble_eq_true rfl) (Nat.le_of_ble_eq_true rfl) rfl hd_1 (c_X12_isShelf (v_X12_isShelf_0 he_1 ?_))
  refine ⟨fun hc => ?_, fun hc => ?_⟩
  · have h := h.1 hc
    show WP l mX12_degree (rm d 0 0) noX _ 0 0 9 [(2, t), (0, x1), (0, x2), (3, 0), (3, 0), (3, 0)] [(0, 0)] N Λ τ1
    refine r_if_eq (tgt := 19) d_X12_degree_9 rfl (fun _ => ?_) (fun hc => absurd hc (by decide))
    refine r_bipush (x := (-2)) d_X12_degree_19 ⟨by decide, by decide⟩ (by decide) ?_
    exact r_iret d_X12_degree_21 rfl rfl (Nat.le_refl 0) (Nat.le_refl 0) ⟨_, rfl, rfl, rfl, h⟩
  · have h := h.2 hc
    refine ⟨fun hc => ?_, fun hc => ?_⟩
    · have h := h.1 hc
      show WP l mX12_degree (rm d 0 0) noX _ 0 0 9 [(2, t), (0, x1), (0, x2), (3, 0), (3, 0), (3, 0)] [(0, 0)] N Λ τ1
      refine r_if_eq (tgt := 19) d_X12_degree_9 rfl (fun _ => ?_) (fun hc => absurd hc (by decide))
      refine r_bipush (x := (-2)) d_X12_degree_19 ⟨by decide, by decide⟩ (by decide) ?_
      exact r_iret d_X12_degree_21 rfl rfl (Nat.le_refl 0) (Nat.le_refl 0) ⟨_, rfl, rfl, rfl, h⟩
    · have h := h.2 hc
      show WP l mX12_degree (rm d 0 0) noX _ 0 0 9 [(2, t), (0, x1), (0, x2), (3, 0), (3, 0), (3, 0)] [(0, 1)] N Λ τ1
      refine r_if_eq (tgt := 19) d_X12_degree_9 rfl (fun hc => absurd hc (by decide)) (fun _ => ?_)
      refine r_iload_n (x := x2) d_X12_degree_12 rfl ?_
      refine x_callSI (Y2 := mX12_isLetter) (As := [(0, x2)]) (S := []) d_X12_degree_13 ok_mX12_isLetter ml_X12_208 rfl (Nat.le_of_ble_eq_true rfl) (Nat.le_of_ble_eq_true rfl) rfl hd_1 (c_X12_isLetter (v_X12_isLetter_0 he_1 ?_))
      refine ⟨fun hc => ?_, fun hc => ?_⟩
      · have h := h.1 hc
        show WP l mX12_degree (rm d 0 0) noX _ 0 0 16 [(2, t), (0, x1), (0, x2), (3, 0), (3, 0), (3, 0)] [(0, 0)] N Λ τ1
        refine r_if_ne (tgt := 22) d_X12_degree_16 rfl (fun hc => absurd hc (by decide)) (fun _ => ?_)
        refine r_bipush (x := (-2)) d_X12_degree_19 ⟨by decide, by decide⟩ (by decide) ?_
        exact r_iret d_X12_degree_21 rfl rfl (Nat.le_refl 0) (Nat.le_refl 0) ⟨_, rfl, rfl, rfl, h⟩
      · have h := h.2 hc
        refine ⟨fun hc => ?_, fun hc => ?_⟩
        · have h := h.1 hc
          show WP l mX12_degree (rm d 0 0) noX _ 0 0 16 [(2, t), (0, x1), (0, x2), (3, 0), (3, 0), (3, 0)] [(0, 0)] N Λ τ1
          refine r_if_ne (tgt := 22) d_X12_degree_16 rfl (fun hc => absurd hc (by decide)) (fun _ => ?_)
          refine r_bipush (x := (-2)) d_X12_degree_19 ⟨by decide, by decide⟩ (by decide) ?_
          exact r_iret d_X12_degree_21 rfl rfl (Nat.le_refl 0) (Nat.le_refl 0) ⟨_, rfl, rfl, rfl, h⟩
        · have h := h.2 hc
          show WP l mX12_degree (rm d 0 0) noX _ 0 0 16 [(2, t), (0, x1), (0, x2), (3, 0), (3, 0), (3, 0)] [(0, 1)] N Λ τ1
          refine r_if_ne (tgt := 22) d_X12_degree_16 rfl (fun _ => ?_) (fun hc => absurd hc (by decide))
          refine r_iconst (x := (-1)) d_X12_degree_22 ⟨by decide, by decide⟩ ?_
          refine r_istore_n (L2 := [(2, t), (0, x1), (0, x2), (0, (-1)), (3, 0), (3, 0)]) d_X12_degree_23 (by decide) rfl rfl ?_
          refine r_iconst (x := 0) d_X12_degree_24 ⟨by decide, by decide⟩ ?_
          refine r_istore (L2 := [(2, t), (0, x1), (0, x2), (0, (-1)), (0, 0), (3, 0)]) d_X12_degree_25 (by decide) rfl rfl ?_
          exact h
theorem u_X12_degree_27 {l : Launch} {d N : Nat} {Λ : Lay} {P : Int → Mem → Prop} {σ : Mem} {x1 x2 x3 x4 t t_state : Int} (o_t : Ob N Λ t 21 36) (f_t_state : (Λ t).2.2 3 = t_state) (h0d : 1 ≤ d)
    (h : (Ix N Λ t_state 0 (mulI 161 x1) ∧ (((σ t_state (mulI 161 x1)) ≤ x4 → P x3 σ) ∧ (¬ ((σ t_state (mulI 161 x1)) ≤ x4) → (CI l mX12_keyOn (d - 1) [(2, t_state), (0, x1), (0, x4)] N Λ σ (fun v2 σ1 => (CI l mX12_often (d - 1) [(2, t), (0, v2), (0, x2)] N Λ σ1 (fun v4 σ3 => ((x4 ≤ 0 → (∀ y5, y5 = addI x4 1 → WI l mX12_degree d P 27 [(2, t), (0, x1), (0, x2), (0, v4), (0, y5), (3, 0)] [] N Λ σ3)) ∧ (¬ (x4 ≤ 0) → ((v4 = x3 → (∀ y6, y6 = addI x4 1 → WI l mX12_degree d P 27 [(2, t), (0, x1), (0, x2), (0, v4), (0, y6), (3, 0)] [] N Λ σ3)) ∧ (¬ (v4 = x3) → P (-1) σ3)))))))))))) :
    WI l mX12_degree d P 27 [(2, t), (0, x1), (0, x2), (0, x3), (0, x4), (3, 0)] [] N Λ σ := by
  have hd_1 : 1 ≤ d := Nat.le_trans (by decide) h0d
  refine r_iload (x := x4) d_X12_degree_27 rfl ?_
  refine r_aload_n (x := t) d_X12_degree_29 rfl o_t.1 ?_
  refine r_getf (j := 3) (t := 2) (x := t_state) d_X12_degree_30 kX12 (by decide) fl_X12_20 o_t.1 o_t.2.1 o_t.2.2.1 o_t.2.2.2 rfl f_t_state ?_
  refine r_sipush (x := 161) d_X12_degree_33 ⟨by decide, by decide⟩ (by decide) ?_
  refine r_iload_n (x := x1) d_X12_degree_36 rfl ?_
  refine r_imul d_X12_degree_37 ?_
  refine x_iald d_X12_degree_38 h.1 ?_
  have h := h.2
  refine r_ic_ge (tgt := 81) d_X12_degree_39 rfl (fun hc => ?_) (fun hc => ?_)
  · have h := h.1 hc
    refine r_iload_n (x := x3) d_X12_degree_81 rfl ?_
    exact r_iret d_X12_degree_82 rfl rfl (Nat.le_refl 0) (Nat.le_refl 0) ⟨_, rfl, rfl, rfl, h⟩
  · have h := h.2 hc
    refine r_aload_n (x := t) d_X12_degree_42 rfl o_t.1 ?_
    refine r_aload_n (x := t) d_X12_degree_43 rfl o_t.1 ?_
    refine r_getf (j := 3) (t := 2) (x := t_state) d_X12_degree_44 kX12 (by decide) fl_X12_20 o_t.1 o_t.2.1 o_t.2.2.1 o_t.2.2.2 rfl f_t_state ?_
    refine r_iload_n (x := x1) d_X12_degree_47 rfl ?_
    refine r_iload (x := x4) d_X12_degree_48 rfl ?_
    refine x_callSI (Y2 := mX12_keyOn) (As := [(2, t_state), (0, x1), (0, x4)]) (S := [(2, t)]) d_X12_degree_50 ok_mX12_keyOn ml_X12_339 rfl (Nat.le_of_ble_eq_true rfl) (Nat.le_of_ble_eq_true rfl) rfl hd_1 (CI.mono h (fun v2 σ1 h => ?_))
    refine r_iload_n (x := x2) d_X12_degree_53 rfl ?_
    refine x_callVI (Y2 := mX12_often) (c := t) (As := [(0, v2), (0, x2)]) (S := []) d_X12_degree_54 ok_mX12_often ml_X12_343 rfl (Nat.le_of_ble_eq_true rfl) (Nat.le_of_ble_eq_true rfl) rfl hd_1 kX12 o_t (CI.mono h (fun v4 σ3 h => ?_))
    refine r_istore (L2 := [(2, t), (0, x1), (0, x2), (0, x3), (0, x4), (0, v4)]) d_X12_degree_57 (by decide) rfl rfl ?_
    refine r_iload (x := x4) d_X12_degree_59 rfl ?_
    refine r_if_le (tgt := 72) d_X12_degree_61 rfl (fun hc => ?_) (fun hc => ?_)
    · have h := h.1 hc
      refine r_iload (x := v4) d_X12_degree_72 rfl ?_
      refine r_istore_n (L2 := [(2, t), (0, x1), (0, x2), (0, v4), (0, x4), (0, v4)]) d_X12_degree_74 (by decide) rfl rfl ?_
      refine x_iinc (x := x4) (L := [(2, t), (0, x1), (0, x2), (0, v4), (0, x4), (0, v4)]) d_X12_degree_75 rfl (by decide) rfl (fun y5 ey5 => ?_)
      have h := h y5 ey5
      show WP _ _ _ _ _ _ _ _ [(2, t), (0, x1), (0, x2), (0, v4), (0, y5), (0, v4)] _ _ _ _
      refine r_goto (tgt := 27) d_X12_degree_78 rfl ?_
      exact x_mask h ⟨Or.inr rfl, Or.inr rfl, Or.inr rfl, Or.inr rfl, Or.inr rfl, Or.inl rfl, trivial⟩
    · have h := h.2 hc
      refine r_iload (x := v4) d_X12_degree_64 rfl ?_
      refine r_iload_n (x := x3) d_X12_degree_66 rfl ?_
      refine r_ic_eq (tgt := 72) d_X12_degree_67 rfl (fun hc => ?_) (fun hc => ?_)
      · have h := h.1 hc
        refine r_iload (x := v4) d_X12_degree_72 rfl ?_
        refine r_istore_n (L2 := [(2, t), (0, x1), (0, x2), (0, v4), (0, x4), (0, v4)]) d_X12_degree_74 (by decide) rfl rfl ?_
        refine x_iinc (x := x4) (L := [(2, t), (0, x1), (0, x2), (0, v4), (0, x4), (0, v4)]) d_X12_degree_75 rfl (by decide) rfl (fun y6 ey6 => ?_)
        have h := h y6 ey6
        show WP _ _ _ _ _ _ _ _ [(2, t), (0, x1), (0, x2), (0, v4), (0, y6), (0, v4)] _ _ _ _
        refine r_goto (tgt := 27) d_X12_degree_78 rfl ?_
        exact x_mask h ⟨Or.inr rfl, Or.inr rfl, Or.inr rfl, Or.inr rfl, Or.inr rfl, Or.inl rfl, trivial⟩
      · have h := h.2 hc
        refine r_iconst (x := (-1)) d_X12_degree_70 ⟨by decide, by decide⟩ ?_
        exact r_iret d_X12_degree_71 rfl rfl (Nat.le_refl 0) (Nat.le_refl 0) ⟨_, rfl, rfl, rfl, h⟩
theorem u_X12_steps__0 {l : Launch} {d N : Nat} {Λ : Lay} {P : Int → Mem → Prop} {σ : Mem} {x1 t : Int} (o_t : Ob N Λ t 21 36) (h0d : 2 ≤ d)
    (h : (∀ τ1, τ1 = st σ t 0 0 → (((cmpL x1 0) < 0 → (CI l mX12_refused (d - 1) [(2, t), (0, (-2))] N Λ τ1 (fun v3 σ2 => P v3 σ2))) ∧ (¬ ((cmpL x1 0) < 0) → ((0 < (cmpL x1 5) → (CI l mX12_refused (d - 1) [(2, t), (0, (-2))] N Λ τ1 (fun v5 σ4 => P v5 σ4))) ∧ (¬ (0 < (cmpL x1 5)) → (CV l mX12_begins (d - 1) [(2, t)] N Λ τ1 (fun σ6 => (CI l mX12_straightInto (d - 1) [(2, t), (0, x1), (0, 0)] N Λ σ6 (fun v8 σ7 => ((v8 = 0 → P (σ7 t 24) σ7) ∧ (¬ (v8 = 0) → P v8 σ7)))))))))))) :
    WI l mX12_steps_ d P 0 [(2, t), (0, x1), (3, 0)] [] N Λ σ := by
  have hd_1 : 1 ≤ d := Nat.le_trans (by decide) h0d
  have he_1 : 1 ≤ d - 1 := Nat.le_sub_of_add_le (Nat.le_trans (by decide) h0d)
  refine r_aload_n (x := t) d_X12_steps__0 rfl o_t.1 ?_
  refine r_iconst (x := 0) d_X12_steps__1 ⟨by decide, by decide⟩ ?_
  refine r_putI (j := 0) d_X12_steps__2 kX12 (by decide) fl_X12_1 rfl o_t.1 o_t.2.1 o_t.2.2.1 o_t.2.2.2 rfl ?_
  refine r_nmM (fun τ1 eτ1 => ?_)
  have h := h τ1 eτ1
  refine r_iload_n (x := x1) d_X12_steps__5 rfl ?_
  refine x_callSI (Y2 := mX12_isShelf) (As := [(0, x1)]) (S := []) d_X12_steps__6 ok_mX12_isShelf ml_X12_199 rfl (Nat.le_of_ble_eq_true rfl) (Nat.le_of_ble_eq_true rfl) rfl hd_1 (c_X12_isShelf (v_X12_isShelf_0 he_1 ?_))
  refine ⟨fun hc => ?_, fun hc => ?_⟩
  · have h := h.1 hc
    show WP l mX12_steps_ (rm d 0 0) noX _ 0 0 9 [(2, t), (0, x1), (3, 0)] [(0, 0)] N Λ τ1
    refine r_if_ne (tgt := 19) d_X12_steps__9 rfl (fun hc => absurd hc (by decide)) (fun _ => ?_)
    refine r_aload_n (x := t) d_X12_steps__12 rfl o_t.1 ?_
    refine r_bipush (x := (-2)) d_X12_steps__13 ⟨by decide, by decide⟩ (by decide) ?_
    refine x_callVI (Y2 := mX12_refused) (c := t) (As := [(0, (-2))]) (S := []) d_X12_steps__15 ok_mX12_refused ml_X12_218 rfl (Nat.le_of_ble_eq_true rfl) (Nat.le_of_ble_eq_true rfl) rfl hd_1 kX12 o_t (CI.mono h (fun v3 σ2 h => ?_))
    exact r_iret d_X12_steps__18 rfl rfl (Nat.le_refl 0) (Nat.le_refl 0) ⟨_, rfl, rfl, rfl, h⟩
  · have h := h.2 hc
    refine ⟨fun hc => ?_, fun hc => ?_⟩
    · have h := h.1 hc
      show WP l mX12_steps_ (rm d 0 0) noX _ 0 0 9 [(2, t), (0, x1), (3, 0)] [(0, 0)] N Λ τ1
      refine r_if_ne (tgt := 19) d_X12_steps__9 rfl (fun hc => absurd hc (by decide)) (fun _ => ?_)
      refine r_aload_n (x := t) d_X12_steps__12 rfl o_t.1 ?_
      refine r_bipush (x := (-2)) d_X12_steps__13 ⟨by decide, by decide⟩ (by decide) ?_
      refine x_callVI (Y2 := mX12_refused) (c := t) (As := [(0, (-2))]) (S := []) d_X12_steps__15 ok_mX12_refused ml_X12_218 rfl (Nat.le_of_ble_eq_true rfl) (Nat.le_of_ble_eq_true rfl) rfl hd_1 kX12 o_t (CI.mono h (fun v5 σ4 h => ?_))
      exact r_iret d_X12_steps__18 rfl rfl (Nat.le_refl 0) (Nat.le_refl 0) ⟨_, rfl, rfl, rfl, h⟩
    · have h := h.2 hc
      show WP l mX12_steps_ (rm d 0 0) noX _ 0 0 9 [(2, t), (0, x1), (3, 0)] [(0, 1)] N Λ τ1
      refine r_if_ne (tgt := 19) d_X12_steps__9 rfl (fun _ => ?_) (fun hc => absurd hc (by decide))
      refine r_aload_n (x := t) d_X12_steps__19 rfl o_t.1 ?_
      refine x_callVV (Y2 := mX12_begins) (c := t) (As := []) (S := []) d_X12_steps__20 ok_mX12_begins ml_X12_202 rfl (Nat.le_of_ble_eq_true rfl) (Nat.le_of_ble_eq_true rfl) rfl hd_1 kX12 o_t (CV.mono h (fun σ6 h => ?_))
      refine r_aload_n (x := t) d_X12_steps__23 rfl o_t.1 ?_
      refine r_iload_n (x := x1) d_X12_steps__24 rfl ?_
      refine r_iconst (x := 0) d_X12_steps__25 ⟨by decide, by decide⟩ ?_
      refine x_callVI (Y2 := mX12_straightInto) (c := t) (As := [(0, x1), (0, 0)]) (S := []) d_X12_steps__26 ok_mX12_straightInto ml_X12_349 rfl (Nat.le_of_ble_eq_true rfl) (Nat.le_of_ble_eq_true rfl) rfl hd_1 kX12 o_t (CI.mono h (fun v8 σ7 h => ?_))
      refine r_istore_n (L2 := [(2, t), (0, x1), (0, v8)]) d_X12_steps__29 (by decide) rfl rfl ?_
      refine r_iload_n (x := v8) d_X12_steps__30 rfl ?_
      refine r_if_eq (tgt := 38) d_X12_steps__31 rfl (fun hc => ?_) (fun hc => ?_)
      · have h := h.1 hc
        refine r_aload_n (x := t) d_X12_steps__38 rfl o_t.1 ?_
        refine r_getf (j := 24) (t := 0) (x := (σ7 t 24)) d_X12_steps__39 kX12 (by decide) fl_X12_346 o_t.1 o_t.2.1 o_t.2.2.1 o_t.2.2.2 rfl rfl ?_
        exact r_iret d_X12_steps__42 rfl rfl (Nat.le_refl 0) (Nat.le_refl 0) ⟨_, rfl, rfl, rfl, h⟩
      · have h := h.2 hc
        refine r_iload_n (x := v8) d_X12_steps__34 rfl ?_
        refine r_goto (tgt := 42) d_X12_steps__35 rfl ?_
        exact r_iret d_X12_steps__42 rfl rfl (Nat.le_refl 0) (Nat.le_refl 0) ⟨_, rfl, rfl, rfl, h⟩
theorem u_X12_left_0 {l : Launch} {d N : Nat} {Λ : Lay} {P : Int → Mem → Prop} {σ : Mem} {x1 t : Int} (o_t : Ob N Λ t 21 36) (h0d : 2 ≤ d)
    (h : (∀ τ1, τ1 = st σ t 0 0 → (((cmpL x1 0) < 0 → (CI l mX12_refused (d - 1) [(2, t), (0, (-2))] N Λ τ1 (fun v3 σ2 => P v3 σ2))) ∧ (¬ ((cmpL x1 0) < 0) → ((0 < (cmpL x1 5) → (CI l mX12_refused (d - 1) [(2, t), (0, (-2))] N Λ τ1 (fun v5 σ4 => P v5 σ4))) ∧ (¬ (0 < (cmpL x1 5)) → (CV l mX12_begins (d - 1) [(2, t)] N Λ τ1 (fun σ6 => (CI l mX12_straightInto (d - 1) [(2, t), (0, x1), (0, 0)] N Λ σ6 (fun v8 σ7 => ((v8 = 0 → (CI l mX12_many (d - 1) [(2, t), (0, 0)] N Λ σ7 (fun v10 σ9 => P v10 σ9))) ∧ (¬ (v8 = 0) → P v8 σ7)))))))))))) :
    WI l mX12_left d P 0 [(2, t), (0, x1), (3, 0)] [] N Λ σ := by
  have hd_1 : 1 ≤ d := Nat.le_trans (by decide) h0d
  have he_1 : 1 ≤ d - 1 := Nat.le_sub_of_add_le (Nat.le_trans (by decide) h0d)
  refine r_aload_n (x := t) d_X12_left_0 rfl o_t.1 ?_
  refine r_iconst (x := 0) d_X12_left_1 ⟨by decide, by decide⟩ ?_
  refine r_putI (j := 0) d_X12_left_2 kX12 (by decide) fl_X12_1 rfl o_t.1 o_t.2.1 o_t.2.2.1 o_t.2.2.2 rfl ?_
  refine r_nmM (fun τ1 eτ1 => ?_)
  have h := h τ1 eτ1
  refine r_iload_n (x := x1) d_X12_left_5 rfl ?_
  refine x_callSI (Y2 := mX12_isShelf) (As := [(0, x1)]) (S := []) d_X12_left_6 ok_mX12_isShelf ml_X12_199 rfl (Nat.le_of_ble_eq_true rfl) (Nat.le_of_ble_eq_true rfl) rfl hd_1 (c_X12_isShelf (v_X12_isShelf_0 he_1 ?_))
  refine ⟨fun hc => ?_, fun hc => ?_⟩
  · have h := h.1 hc
    show WP l mX12_left (rm d 0 0) noX _ 0 0 9 [(2, t), (0, x1), (3, 0)] [(0, 0)] N Λ τ1
    refine r_if_ne (tgt := 19) d_X12_left_9 rfl (fun hc => absurd hc (by decide)) (fun _ => ?_)
    refine r_aload_n (x := t) d_X12_left_12 rfl o_t.1 ?_
    refine r_bipush (x := (-2)) d_X12_left_13 ⟨by decide, by decide⟩ (by decide) ?_
    refine x_callVI (Y2 := mX12_refused) (c := t) (As := [(0, (-2))]) (S := []) d_X12_left_15 ok_mX12_refused ml_X12_218 rfl (Nat.le_of_ble_eq_true rfl) (Nat.le_of_ble_eq_true rfl) rfl hd_1 kX12 o_t (CI.mono h (fun v3 σ2 h => ?_))
    exact r_iret d_X12_left_18 rfl rfl (Nat.le_refl 0) (Nat.le_refl 0) ⟨_, rfl, rfl, rfl, h⟩
  · have h := h.2 hc
    refine ⟨fun hc => ?_, fun hc => ?_⟩
    · have h := h.1 hc
      show WP l mX12_left (rm d 0 0) noX _ 0 0 9 [(2, t), (0, x1), (3, 0)] [(0, 0)] N Λ τ1
      refine r_if_ne (tgt := 19) d_X12_left_9 rfl (fun hc => absurd hc (by decide)) (fun _ => ?_)
      refine r_aload_n (x := t) d_X12_left_12 rfl o_t.1 ?_
      refine r_bipush (x := (-2)) d_X12_left_13 ⟨by decide, by decide⟩ (by decide) ?_
      refine x_callVI (Y2 := mX12_refused) (c := t) (As := [(0, (-2))]) (S := []) d_X12_left_15 ok_mX12_refused ml_X12_218 rfl (Nat.le_of_ble_eq_true rfl) (Nat.le_of_ble_eq_true rfl) rfl hd_1 kX12 o_t (CI.mono h (fun v5 σ4 h => ?_))
      exact r_iret d_X12_left_18 rfl rfl (Nat.le_refl 0) (Nat.le_refl 0) ⟨_, rfl, rfl, rfl, h⟩
    · have h := h.2 hc
      show WP l mX12_left (rm d 0 0) noX _ 0 0 9 [(2, t), (0, x1), (3, 0)] [(0, 1)] N Λ τ1
      refine r_if_ne (tgt := 19) d_X12_left_9 rfl (fun _ => ?_) (fun hc => absurd hc (by decide))
      refine r_aload_n (x := t) d_X12_left_19 rfl o_t.1 ?_
      refine x_callVV (Y2 := mX12_begins) (c := t) (As := []) (S := []) d_X12_left_20 ok_mX12_begins ml_X12_202 rfl (Nat.le_of_ble_eq_true rfl) (Nat.le_of_ble_eq_true rfl) rfl hd_1 kX12 o_t (CV.mono h (fun σ6 h => ?_))
      refine r_aload_n (x := t) d_X12_left_23 rfl o_t.1 ?_
      refine r_iload_n (x := x1) d_X12_left_24 rfl ?_
      refine r_iconst (x := 0) d_X12_left_25 ⟨by decide, by decide⟩ ?_
      refine x_callVI (Y2 := mX12_straightInto) (c := t) (As := [(0, x1), (0, 0)]) (S := []) d_X12_left_26 ok_mX12_straightInto ml_X12_349 rfl (Nat.le_of_ble_eq_true rfl) (Nat.le_of_ble_eq_true rfl) rfl hd_1 kX12 o_t (CI.mono h (fun v8 σ7 h => ?_))
      refine r_istore_n (L2 := [(2, t), (0, x1), (0, v8)]) d_X12_left_29 (by decide) rfl rfl ?_
      refine r_iload_n (x := v8) d_X12_left_30 rfl ?_
      refine r_if_eq (tgt := 38) d_X12_left_31 rfl (fun hc => ?_) (fun hc => ?_)
      · have h := h.1 hc
        refine r_aload_n (x := t) d_X12_left_38 rfl o_t.1 ?_
        refine r_iconst (x := 0) d_X12_left_39 ⟨by decide, by decide⟩ ?_
        refine x_callVI (Y2 := mX12_many) (c := t) (As := [(0, 0)]) (S := []) d_X12_left_40 ok_mX12_many ml_X12_113 rfl (Nat.le_of_ble_eq_true rfl) (Nat.le_of_ble_eq_true rfl) rfl hd_1 kX12 o_t (CI.mono h (fun v10 σ9 h => ?_))
        exact r_iret d_X12_left_43 rfl rfl (Nat.le_refl 0) (Nat.le_refl 0) ⟨_, rfl, rfl, rfl, h⟩
      · have h := h.2 hc
        refine r_iload_n (x := v8) d_X12_left_34 rfl ?_
        refine r_goto (tgt := 43) d_X12_left_35 rfl ?_
        exact r_iret d_X12_left_43 rfl rfl (Nat.le_refl 0) (Nat.le_refl 0) ⟨_, rfl, rfl, rfl, h⟩
theorem u_X12_equal_0 {l : Launch} {d N : Nat} {Λ : Lay} {P : Int → Mem → Prop} {σ : Mem} {x1 x2 t : Int} (o_t : Ob N Λ t 21 36) (h0d : 2 ≤ d)
    (h : (∀ τ1, τ1 = st σ t 0 0 → (((cmpL x1 0) < 0 → (CI l mX12_refused (d - 1) [(2, t), (0, (-2))] N Λ τ1 (fun v3 σ2 => P v3 σ2))) ∧ (¬ ((cmpL x1 0) < 0) → ((0 < (cmpL x1 5) → (CI l mX12_refused (d - 1) [(2, t), (0, (-2))] N Λ τ1 (fun v5 σ4 => P v5 σ4))) ∧ (¬ (0 < (cmpL x1 5)) → (((cmpL x2 0) < 0 → (CI l mX12_refused (d - 1) [(2, t), (0, (-2))] N Λ τ1 (fun v7 σ6 => P v7 σ6))) ∧ (¬ ((cmpL x2 0) < 0) → ((0 < (cmpL x2 5) → (CI l mX12_refused (d - 1) [(2, t), (0, (-2))] N Λ τ1 (fun v9 σ8 => P v9 σ8))) ∧ (¬ (0 < (cmpL x2 5)) → (CV l mX12_begins (d - 1) [(2, t)] N Λ τ1 (fun σ10 => (CI l mX12_straightInto (d - 1) [(2, t), (0, x1), (0, 3)] N Λ σ10 (fun v12 σ11 => ((v12 = 0 → (CI l mX12_straightInto (d - 1) [(2, t), (0, x2), (0, 4)] N Λ σ11 (fun v14 σ13 => ((v14 = 0 → (CI l mX12_areAlike (d - 1) [(2, t), (0, 3), (0, 4)] N Λ σ13 (fun v16 σ15 => ((v16 = 0 → P 0 σ15) ∧ (¬ (v16 = 0) → P 1 σ15))))) ∧ (¬ (v14 = 0) → P v14 σ13))))) ∧ (¬ (v12 = 0) → P v12 σ11)))))))))))))))) :
    WI l mX12_equal d P 0 [(2, t), (0, x1), (0, x2), (3, 0)] [] N Λ σ := by
  have hd_1 : 1 ≤ d := Nat.le_trans (by decide) h0d
  have he_1 : 1 ≤ d - 1 := Nat.le_sub_of_add_le (Nat.le_trans (by decide) h0d)
  refine r_aload_n (x := t) d_X12_equal_0 rfl o_t.1 ?_
  refine r_iconst (x := 0) d_X12_equal_1 ⟨by decide, by decide⟩ ?_
  refine r_putI (j := 0) d_X12_equal_2 kX12 (by decide) fl_X12_1 rfl o_t.1 o_t.2.1 o_t.2.2.1 o_t.2.2.2 rfl ?_
  refine r_nmM (fun τ1 eτ1 => ?_)
  have h := h τ1 eτ1
  refine r_iload_n (x := x1) d_X12_equal_5 rfl ?_
  refine x_callSI (Y2 := mX12_isShelf) (As := [(0, x1)]) (S := []) d_X12_equal_6 ok_mX12_isShelf ml_X12_199 rfl (Nat.le_of_ble_eq_true rfl) (Nat.le_of_ble_eq_true rfl) rfl hd_1 (c_X12_isShelf (v_X12_isShelf_0 he_1 ?_))
  refine ⟨fun hc => ?_, fun hc => ?_⟩
  · have h := h.1 hc
    show WP l mX12_equal (rm d 0 0) noX _ 0 0 9 [(2, t), (0, x1), (0, x2), (3, 0)] [(0, 0)] N Λ τ1
    refine r_if_eq (tgt := 19) d_X12_equal_9 rfl (fun _ => ?_) (fun hc => absurd hc (by decide))
    refine r_aload_n (x := t) d_X12_equal_19 rfl o_t.1 ?_
    refine r_bipush (x := (-2)) d_X12_equal_20 ⟨by decide, by decide⟩ (by decide) ?_
    refine x_callVI (Y2 := mX12_refused) (c := t) (As := [(0, (-2))]) (S := []) d_X12_equal_22 ok_mX12_refused ml_X12_218 rfl (Nat.le_of_ble_eq_true rfl) (Nat.le_of_ble_eq_true rfl) rfl hd_1 kX12 o_t (CI.mono h (fun v3 σ2 h => ?_))
    exact r_iret d_X12_equal_25 rfl rfl (Nat.le_refl 0) (Nat.le_refl 0) ⟨_, rfl, rfl, rfl, h⟩
  · have h := h.2 hc
    refine ⟨fun hc => ?_, fun hc => ?_⟩
    · have h := h.1 hc
      show WP l mX12_equal (rm d 0 0) noX _ 0 0 9 [(2, t), (0, x1), (0, x2), (3, 0)] [(0, 0)] N Λ τ1
      refine r_if_eq (tgt := 19) d_X12_equal_9 rfl (fun _ => ?_) (fun hc => absurd hc (by decide))
      refine r_aload_n (x := t) d_X12_equal_19 rfl o_t.1 ?_
      refine r_bipush (x := (-2)) d_X12_equal_20 ⟨by decide, by decide⟩ (by decide) ?_
      refine x_callVI (Y2 := mX12_refused) (c := t) (As := [(0, (-2))]) (S := []) d_X12_equal_22 ok_mX12_refused ml_X12_218 rfl (Nat.le_of_ble_eq_true rfl) (Nat.le_of_ble_eq_true rfl) rfl hd_1 kX12 o_t (CI.mono h (fun v5 σ4 h => ?_))
      exact r_iret d_X12_equal_25 rfl rfl (Nat.le_refl 0) (Nat.le_refl 0) ⟨_, rfl, rfl, rfl, h⟩
    · have h := h.2 hc
      show WP l mX12_equal (rm d 0 0) noX _ 0 0 9 [(2, t), (0, x1), (0, x2), (3, 0)] [(0, 1)] N Λ τ1
      refine r_if_eq (tgt := 19) d_X12_equal_9 rfl (fun hc => absurd hc (by decide)) (fun _ => ?_)
      refine r_iload_n (x := x2) d_X12_equal_12 rfl ?_
      refine x_callSI (Y2 := mX12_isShelf) (As := [(0, x2)]) (S := []) d_X12_equal_13 ok_mX12_isShelf ml_X12_199 rfl (Nat.le_of_ble_eq_true rfl) (Nat.le_of_ble_eq_true rfl) rfl hd_1 (c_X12_isShelf (v_X12_isShelf_0 he_1 ?_))
      refine ⟨fun hc => ?_, fun hc => ?_⟩
      · have h := h.1 hc
        show WP l mX12_equal (rm d 0 0) noX _ 0 0 16 [(2, t), (0, x1), (0, x2), (3, 0)] [(0, 0)] N Λ τ1
        refine r_if_ne (tgt := 26) d_X12_equal_16 rfl (fun hc => absurd hc (by decide)) (fun _ => ?_)
        refine r_aload_n (x := t) d_X12_equal_19 rfl o_t.1 ?_
        refine r_bipush (x := (-2)) d_X12_equal_20 ⟨by decide, by decide⟩ (by decide) ?_
        refine x_callVI (Y2 := mX12_refused) (c := t) (As := [(0, (-2))]) (S := []) d_X12_equal_22 ok_mX12_refused ml_X12_218 rfl (Nat.le_of_ble_eq_true rfl) (Nat.le_of_ble_eq_true rfl) rfl hd_1 kX12 o_t (CI.mono h (fun v7 σ6 h => ?_))
        exact r_iret d_X12_equal_25 rfl rfl (Nat.le_refl 0) (Nat.le_refl 0) ⟨_, rfl, rfl, rfl, h⟩
      · have h := h.2 hc
        refine ⟨fun hc => ?_, fun hc => ?_⟩
        · have h := h.1 hc
          show WP l mX12_equal (rm d 0 0) noX _ 0 0 16 [(2, t), (0, x1), (0, x2), (3, 0)] [(0, 0)] N Λ τ1
          refine r_if_ne (tgt := 26) d_X12_equal_16 rfl (fun hc => absurd hc (by decide)) (fun _ => ?_)
          refine r_aload_n (x := t) d_X12_equal_19 rfl o_t.1 ?_
          refine r_bipush (x := (-2)) d_X12_equal_20 ⟨by decide, by decide⟩ (by decide) ?_
          refine x_callVI (Y2 := mX12_refused) (c := t) (As := [(0, (-2))]) (S := []) d_X12_equal_22 ok_mX12_refused ml_X12_218 rfl (Nat.le_of_ble_eq_true rfl) (Nat.le_of_ble_eq_true rfl) rfl hd_1 kX12 o_t (CI.mono h (fun v9 σ8 h => ?_))
          exact r_iret d_X12_equal_25 rfl rfl (Nat.le_refl 0) (Nat.le_refl 0) ⟨_, rfl, rfl, rfl, h⟩
        · have h := h.2 hc
          show WP l mX12_equal (rm d 0 0) noX _ 0 0 16 [(2, t), (0, x1), (0, x2), (3, 0)] [(0, 1)] N Λ τ1
          refine r_if_ne (tgt := 26) d_X12_equal_16 rfl (fun _ => ?_) (fun hc => absurd hc (by decide))
          refine r_aload_n (x := t) d_X12_equal_26 rfl o_t.1 ?_
          refine x_callVV (Y2 := mX12_begins) (c := t) (As := []) (S := []) d_X12_equal_27 ok_mX12_begins ml_X12_202 rfl (Nat.le_of_ble_eq_true rfl) (Nat.le_of_ble_eq_true rfl) rfl hd_1 kX12 o_t (CV.mono h (fun σ10 h => ?_))
          refine r_aload_n (x := t) d_X12_equal_30 rfl o_t.1 ?_
          refine r_iload_n (x := x1) d_X12_equal_31 rfl ?_
          refine r_iconst (x := 3) d_X12_equal_32 ⟨by decide, by decide⟩ ?_
          refine x_callVI (Y2 := mX12_straightInto) (c := t) (As := [(0, x1), (0, 3)]) (S := []) d_X12_equal_33 ok_mX12_straightInto ml_X12_349 rfl (Nat.le_of_ble_eq_true rfl) (Nat.le_of_ble_eq_true rfl) rfl hd_1 kX12 o_t (CI.mono h (fun v12 σ11 h => ?_))
          refine r_istore_n (L2 := [(2, t), (0, x1), (0, x2), (0, v12)]) d_X12_equal_36 (by decide) rfl rfl ?_
          refine r_iload_n (x := v12) d_X12_equal_37 rfl ?_
          refine r_if_eq (tgt := 43) d_X12_equal_38 rfl (fun hc => ?_) (fun hc => ?_)
          · have h := h.1 hc
            refine r_aload_n (x := t) d_X12_equal_43 rfl o_t.1 ?_
            refine r_iload_n (x := x2) d_X12_equal_44 rfl ?_
            refine r_iconst (x := 4) d_X12_equal_45 ⟨by decide, by decide⟩ ?_
            refine x_callVI (Y2 := mX12_straightInto) (c := t) (As := [(0, x2), (0, 4)]) (S := []) d_X12_equal_46 ok_mX12_straightInto ml_X12_349 rfl (Nat.le_of_ble_eq_true rfl) (Nat.le_of_ble_eq_true rfl) rfl hd_1 kX12 o_t (CI.mono h (fun v14 σ13 h => ?_))
            refine r_istore_n (L2 := [(2, t), (0, x1), (0, x2), (0, v14)]) d_X12_equal_49 (by decide) rfl rfl ?_
            refine r_iload_n (x := v14) d_X12_equal_50 rfl ?_
            refine r_if_eq (tgt := 56) d_X12_equal_51 rfl (fun hc => ?_) (fun hc => ?_)
            · have h := h.1 hc
              refine r_aload_n (x := t) d_X12_equal_56 rfl o_t.1 ?_
              refine r_iconst (x := 3) d_X12_equal_57 ⟨by decide, by decide⟩ ?_
              refine r_iconst (x := 4) d_X12_equal_58 ⟨by decide, by decide⟩ ?_
              refine x_callVI (Y2 := mX12_areAlike) (c := t) (As := [(0, 3), (0, 4)]) (S := []) d_X12_equal_59 ok_mX12_areAlike ml_X12_352 rfl (Nat.le_of_ble_eq_true rfl) (Nat.le_of_ble_eq_true rfl) rfl hd_1 kX12 o_t (CI.mono h (fun v16 σ15 h => ?_))
              refine r_if_eq (tgt := 69) d_X12_equal_62 rfl (fun hc => ?_) (fun hc => ?_)
              · have h := h.1 hc
                refine r_iconst (x := 0) d_X12_equal_69 ⟨by decide, by decide⟩ ?_
                exact r_iret d_X12_equal_70 rfl rfl (Nat.le_refl 0) (Nat.le_refl 0) ⟨_, rfl, rfl, rfl, h⟩
              · have h := h.2 hc
                refine r_iconst (x := 1) d_X12_equal_65 ⟨by decide, by decide⟩ ?_
                refine r_goto (tgt := 70) d_X12_equal_66 rfl ?_
                exact r_iret d_X12_equal_70 rfl rfl (Nat.le_refl 0) (Nat.le_refl 0) ⟨_, rfl, rfl, rfl, h⟩
            · have h := h.2 hc
              refine r_iload_n (x := v14) d_X12_equal_54 rfl ?_
              exact r_iret d_X12_equal_55 rfl rfl (Nat.le_refl 0) (Nat.le_refl 0) ⟨_, rfl, rfl, rfl, h⟩
          · have h := h.2 hc
            refine r_iload_n (x := v12) d_X12_equal_41 rfl ?_
            exact r_iret d_X12_equal_42 rfl rfl (Nat.le_refl 0) (Nat.le_refl 0) ⟨_, rfl, rfl, rfl, h⟩
theorem u_X12_forms_0 {l : Launch} {d N : Nat} {Λ : Lay} {P : Int → Mem → Prop} {σ : Mem} {x1 t t_state : Int} (o_t : Ob N Λ t 21 36) (f_t_state : (Λ t).2.2 3 = t_state) (h0d : 2 ≤ d)
    (h : (∀ τ1, τ1 = st σ t 0 0 → (((cmpL x1 0) < 0 → P (-2) τ1) ∧ (¬ ((cmpL x1 0) < 0) → ((0 < (cmpL x1 5) → P (-2) τ1) ∧ (¬ (0 < (cmpL x1 5)) → (Ix N Λ t_state 0 (mulI 161 x1) ∧ ((¬ (τ1 t_state (mulI 161 x1)) = 0 → (CI l mX12_laysForms (d - 1) [(2, t), (0, x1), (0, 1048576)] N Λ τ1 (fun v3 σ2 => P (σ2 t 29) σ2))) ∧ ((τ1 t_state (mulI 161 x1)) = 0 → P (-1) τ1))))))))) :
    WI l mX12_forms d P 0 [(2, t), (0, x1), (3, 0)] [] N Λ σ := by
  have hd_1 : 1 ≤ d := Nat.le_trans (by decide) h0d
  have he_1 : 1 ≤ d - 1 := Nat.le_sub_of_add_le (Nat.le_trans (by decide) h0d)
  refine r_aload_n (x := t) d_X12_forms_0 rfl o_t.1 ?_
  refine r_iconst (x := 0) d_X12_forms_1 ⟨by decide, by decide⟩ ?_
  refine r_putI (j := 0) d_X12_forms_2 kX12 (by decide) fl_X12_1 rfl o_t.1 o_t.2.1 o_t.2.2.1 o_t.2.2.2 rfl ?_
  refine r_nmM (fun τ1 eτ1 => ?_)
  have h := h τ1 eτ1
  refine r_iload_n (x := x1) d_X12_forms_5 rfl ?_
  refine x_callSI (Y2 := mX12_isShelf) (As := [(0, x1)]) (S := []) d_X12_forms_6 ok_mX12_isShelf ml_X12_199 rfl (Nat.le_of_ble_eq_true rfl) (Nat.le_of_ble_eq_true rfl) rfl hd_1 (c_X12_isShelf (v_X12_isShelf_0 he_1 ?_))
  refine ⟨fun hc => ?_, fun hc => ?_⟩
  · have h := h.1 hc
    show WP l mX12_forms (rm d 0 0) noX _ 0 0 9 [(2, t), (0, x1), (3, 0)] [(0, 0)] N Λ τ1
    refine r_if_ne (tgt := 15) d_X12_forms_9 rfl (fun hc => absurd hc (by decide)) (fun _ => ?_)
    refine r_bipush (x := (-2)) d_X12_forms_12 ⟨by decide, by decide⟩ (by decide) ?_
    exact r_iret d_X12_forms_14 rfl rfl (Nat.le_refl 0) (Nat.le_refl 0) ⟨_, rfl, rfl, rfl, h⟩
  · have h := h.2 hc
    refine ⟨fun hc => ?_, fun hc => ?_⟩
    · have h := h.1 hc
      show WP l mX12_forms (rm d 0 0) noX _ 0 0 9 [(2, t), (0, x1), (3, 0)] [(0, 0)] N Λ τ1
      refine r_if_ne (tgt := 15) d_X12_forms_9 rfl (fun hc => absurd hc (by decide)) (fun _ => ?_)
      refine r_bipush (x := (-2)) d_X12_forms_12 ⟨by decide, by decide⟩ (by decide) ?_
      exact r_iret d_X12_forms_14 rfl rfl (Nat.le_refl 0) (Nat.le_refl 0) ⟨_, rfl, rfl, rfl, h⟩
    · have h := h.2 hc
      show WP l mX12_forms (rm d 0 0) noX _ 0 0 9 [(2, t), (0, x1), (3, 0)] [(0, 1)] N Λ τ1
      refine r_if_ne (tgt := 15) d_X12_forms_9 rfl (fun _ => ?_) (fun hc => absurd hc (by decide))
      refine r_aload_n (x := t) d_X12_forms_15 rfl o_t.1 ?_
      refine r_getf (j := 3) (t := 2) (x := t_state) d_X12_forms_16 kX12 (by decide) fl_X12_20 o_t.1 o_t.2.1 o_t.2.2.1 o_t.2.2.2 rfl f_t_state ?_
      refine r_sipush (x := 161) d_X12_forms_19 ⟨by decide, by decide⟩ (by decide) ?_
      refine r_iload_n (x := x1) d_X12_forms_22 rfl ?_
      refine r_imul d_X12_forms_23 ?_
      refine x_iald d_X12_forms_24 h.1 ?_
      have h := h.2
      refine r_if_ne (tgt := 30) d_X12_forms_25 rfl (fun hc => ?_) (fun hc => ?_)
      · have h := h.1 hc
        refine r_aload_n (x := t) d_X12_forms_30 rfl o_t.1 ?_
        refine r_iload_n (x := x1) d_X12_forms_31 rfl ?_
        refine r_ldcw (x := 1048576) d_X12_forms_32 ck_X12_369 (by decide) ?_
        refine x_callVI (Y2 := mX12_laysForms) (c := t) (As := [(0, x1), (0, 1048576)]) (S := []) d_X12_forms_35 ok_mX12_laysForms ml_X12_370 rfl (Nat.le_of_ble_eq_true rfl) (Nat.le_of_ble_eq_true rfl) rfl hd_1 kX12 o_t (CI.mono h (fun v3 σ2 h => ?_))
        refine r_istore_n (L2 := [(2, t), (0, x1), (0, v3)]) d_X12_forms_38 (by decide) rfl rfl ?_
        refine r_aload_n (x := t) d_X12_forms_39 rfl o_t.1 ?_
        refine r_getf (j := 29) (t := 0) (x := (σ2 t 29)) d_X12_forms_40 kX12 (by decide) fl_X12_358 o_t.1 o_t.2.1 o_t.2.2.1 o_t.2.2.2 rfl rfl ?_
        exact r_iret d_X12_forms_43 rfl rfl (Nat.le_refl 0) (Nat.le_refl 0) ⟨_, rfl, rfl, rfl, h⟩
      · have h := h.2 hc
        refine r_iconst (x := (-1)) d_X12_forms_28 ⟨by decide, by decide⟩ ?_
        exact r_iret d_X12_forms_29 rfl rfl (Nat.le_refl 0) (Nat.le_refl 0) ⟨_, rfl, rfl, rfl, h⟩
theorem u_X12_form_0 {l : Launch} {d N : Nat} {Λ : Lay} {P : Int → Mem → Prop} {σ : Mem} {x1 x2 x3 t t_formRank t_letterOf t_state : Int} (o_t : Ob N Λ t 21 36) (f_t_state : (Λ t).2.2 3 = t_state) (f_t_letterOf : (Λ t).2.2 2 = t_letterOf) (f_t_formRank : (Λ t).2.2 26 = t_formRank) (h0d : 2 ≤ d)
    (h : (∀ τ1, τ1 = st σ t 0 0 → (((cmpL x1 0) < 0 → P (-2) τ1) ∧ (¬ ((cmpL x1 0) < 0) → ((0 < (cmpL x1 5) → P (-2) τ1) ∧ (¬ (0 < (cmpL x1 5)) → ((x2 < 0 → P (-3) τ1) ∧ (¬ (x2 < 0) → ((0 ≤ x3 → (Ix N Λ t_state 0 (mulI 161 x1) ∧ (((τ1 t_state (mulI 161 x1)) = 0 → P (-1) τ1) ∧ (¬ ((τ1 t_state (mulI 161 x1)) = 0) → (CI l mX12_laysForms (d - 1) [(2, t), (0, x1), (0, x2)] N Λ τ1 (fun v3 σ2 => ((v3 = 0 → P (-1) σ2) ∧ (¬ (v3 = 0) → ((x3 < (mulI 3 (σ2 t 28)) → (Ix N Λ t_formRank 0 (divI x3 3) ∧ (Ix N Λ t_letterOf 0 (addI (mulI 3 (σ2 t_formRank (divI x3 3))) (remI x3 3)) ∧ P (σ2 t_letterOf (addI (mulI 3 (σ2 t_formRank (divI x3 3))) (remI x3 3))) σ2))) ∧ (¬ (x3 < (mulI 3 (σ2 t 28))) → P (-1) σ2)))))))))) ∧ (¬ (0 ≤ x3) → P (-3) τ1)))))))))) :
    WI l mX12_form d P 0 [(2, t), (0, x1), (0, x2), (0, x3)] [] N Λ σ := by
  have hd_1 : 1 ≤ d := Nat.le_trans (by decide) h0d
  have he_1 : 1 ≤ d - 1 := Nat.le_sub_of_add_le (Nat.le_trans (by decide) h0d)
  refine r_aload_n (x := t) d_X12_form_0 rfl o_t.1 ?_
  refine r_iconst (x := 0) d_X12_form_1 ⟨by decide, by decide⟩ ?_
  refine r_putI (j := 0) d_X12_form_2 kX12 (by decide) fl_X12_1 rfl o_t.1 o_t.2.1 o_t.2.2.1 o_t.2.2.2 rfl ?_
  refine r_nmM (fun τ1 eτ1 => ?_)
  have h := h τ1 eτ1
  refine r_iload_n (x := x1) d_X12_form_5 rfl ?_
  refine x_callSI (Y2 := mX12_isShelf) (As := [(0, x1)]) (S := []) d_X12_form_6 ok_mX12_isShelf ml_X12_199 rfl (Nat.le_of_ble_eq_true rfl) (Nat.le_of_ble_eq_true rfl) rfl hd_1 (c_X12_isShelf (v_X12_isShelf_0 he_1 ?_))
  refine ⟨fun hc => ?_, fun hc => ?_⟩
  · have h := h.1 hc
    show WP l mX12_form (rm d 0 0) noX _ 0 0 9 [(2, t), (0, x1), (0, x2), (0, x3)] [(0, 0)] N Λ τ1
    refine r_if_ne (tgt := 15) d_X12_form_9 rfl (fun hc => absurd hc (by decide)) (fun _ => ?_)
    refine r_bipush (x := (-2)) d_X12_form_12 ⟨by decide, by decide⟩ (by decide) ?_
    exact r_iret d_X12_form_14 rfl rfl (Nat.le_refl 0) (Nat.le_refl 0) ⟨_, rfl, rfl, rfl, h⟩
  · have h := h.2 hc
    refine ⟨fun hc => ?_, fun hc => ?_⟩
    · have h := h.1 hc
      show WP l mX12_form (rm d 0 0) noX _ 0 0 9 [(2, t), (0, x1), (0, x2), (0, x3)] [(0, 0)] N Λ τ1
      refine r_if_ne (tgt := 15) d_X12_form_9 rfl (fun hc => absurd hc (by decide)) (fun _ => ?_)
      refine r_bipush (x := (-2)) d_X12_form_12 ⟨by decide, by decide⟩ (by decide) ?_
      exact r_iret d_X12_form_14 rfl rfl (Nat.le_refl 0) (Nat.le_refl 0) ⟨_, rfl, rfl, rfl, h⟩
    · have h := h.2 hc
      show WP l mX12_form (rm d 0 0) noX _ 0 0 9 [(2, t), (0, x1), (0, x2), (0, x3)] [(0, 1)] N Λ τ1
      refine r_if_ne (tgt := 15) d_X12_form_9 rfl (fun _ => ?_) (fun hc => absurd hc (by decide))
      refine r_iload_n (x := x2) d_X12_form_15 rfl ?_
      refine r_if_lt (tgt := 23) d_X12_form_16 rfl (fun hc => ?_) (fun hc => ?_)
      · have h := h.1 hc
        refine r_bipush (x := (-3)) d_X12_form_23 ⟨by decide, by decide⟩ (by decide) ?_
        exact r_iret d_X12_form_25 rfl rfl (Nat.le_refl 0) (Nat.le_refl 0) ⟨_, rfl, rfl, rfl, h⟩
      · have h := h.2 hc
        refine r_iload_n (x := x3) d_X12_form_19 rfl ?_
        refine r_if_ge (tgt := 26) d_X12_form_20 rfl (fun hc => ?_) (fun hc => ?_)
        · have h := h.1 hc
          refine r_aload_n (x := t) d_X12_form_26 rfl o_t.1 ?_
          refine r_getf (j := 3) (t := 2) (x := t_state) d_X12_form_27 kX12 (by decide) fl_X12_20 o_t.1 o_t.2.1 o_t.2.2.1 o_t.2.2.2 rfl f_t_state ?_
          refine r_sipush (x := 161) d_X12_form_30 ⟨by decide, by decide⟩ (by decide) ?_
          refine r_iload_n (x := x1) d_X12_form_33 rfl ?_
          refine r_imul d_X12_form_34 ?_
          refine x_iald d_X12_form_35 h.1 ?_
          have h := h.2
          refine r_if_eq (tgt := 58) d_X12_form_36 rfl (fun hc => ?_) (fun hc => ?_)
          · have h := h.1 hc
            refine r_iconst (x := (-1)) d_X12_form_58 ⟨by decide, by decide⟩ ?_
            exact r_iret d_X12_form_59 rfl rfl (Nat.le_refl 0) (Nat.le_refl 0) ⟨_, rfl, rfl, rfl, h⟩
          · have h := h.2 hc
            refine r_aload_n (x := t) d_X12_form_39 rfl o_t.1 ?_
            refine r_iload_n (x := x1) d_X12_form_40 rfl ?_
            refine r_iload_n (x := x2) d_X12_form_41 rfl ?_
            refine x_callVI (Y2 := mX12_laysForms) (c := t) (As := [(0, x1), (0, x2)]) (S := []) d_X12_form_42 ok_mX12_laysForms ml_X12_370 rfl (Nat.le_of_ble_eq_true rfl) (Nat.le_of_ble_eq_true rfl) rfl hd_1 kX12 o_t (CI.mono h (fun v3 σ2 h => ?_))
            refine r_if_eq (tgt := 58) d_X12_form_45 rfl (fun hc => ?_) (fun hc => ?_)
            · have h := h.1 hc
              refine r_iconst (x := (-1)) d_X12_form_58 ⟨by decide, by decide⟩ ?_
              exact r_iret d_X12_form_59 rfl rfl (Nat.le_refl 0) (Nat.le_refl 0) ⟨_, rfl, rfl, rfl, h⟩
            · have h := h.2 hc
              refine r_iload_n (x := x3) d_X12_form_48 rfl ?_
              refine r_iconst (x := 3) d_X12_form_49 ⟨by decide, by decide⟩ ?_
              refine r_aload_n (x := t) d_X12_form_50 rfl o_t.1 ?_
              refine r_getf (j := 28) (t := 0) (x := (σ2 t 28)) d_X12_form_51 kX12 (by decide) fl_X12_355 o_t.1 o_t.2.1 o_t.2.2.1 o_t.2.2.2 rfl rfl ?_
              refine r_imul d_X12_form_54 ?_
              refine r_ic_lt (tgt := 60) d_X12_form_55 rfl (fun hc => ?_) (fun hc => ?_)
              · have h := h.1 hc
                refine r_aload_n (x := t) d_X12_form_60 rfl o_t.1 ?_
                refine r_getf (j := 2) (t := 2) (x := t_letterOf) d_X12_form_61 kX12 (by decide) fl_X12_17 o_t.1 o_t.2.1 o_t.2.2.1 o_t.2.2.2 rfl f_t_letterOf ?_
                refine r_iconst (x := 3) d_X12_form_64 ⟨by decide, by decide⟩ ?_
                refine r_aload_n (x := t) d_X12_form_65 rfl o_t.1 ?_
                refine r_getf (j := 26) (t := 2) (x := t_formRank) d_X12_form_66 kX12 (by decide) fl_X12_67 o_t.1 o_t.2.1 o_t.2.2.1 o_t.2.2.2 rfl f_t_formRank ?_
                refine r_iload_n (x := x3) d_X12_form_69 rfl ?_
                refine r_iconst (x := 3) d_X12_form_70 ⟨by decide, by decide⟩ ?_
                refine r_idiv d_X12_form_71 (by decide) ?_
                refine x_iald d_X12_form_72 h.1 ?_
                have h := h.2
                refine r_imul d_X12_form_73 ?_
                refine r_iload_n (x := x3) d_X12_form_74 rfl ?_
                refine r_iconst (x := 3) d_X12_form_75 ⟨by decide, by decide⟩ ?_
                refine r_irem d_X12_form_76 (by decide) ?_
                refine r_iadd d_X12_form_77 ?_
                refine x_iald d_X12_form_78 h.1 ?_
                have h := h.2
                exact r_iret d_X12_form_79 rfl rfl (Nat.le_refl 0) (Nat.le_refl 0) ⟨_, rfl, rfl, rfl, h⟩
              · have h := h.2 hc
                refine r_iconst (x := (-1)) d_X12_form_58 ⟨by decide, by decide⟩ ?_
                exact r_iret d_X12_form_59 rfl rfl (Nat.le_refl 0) (Nat.le_refl 0) ⟨_, rfl, rfl, rfl, h⟩
        · have h := h.2 hc
          refine r_bipush (x := (-3)) d_X12_form_23 ⟨by decide, by decide⟩ (by decide) ?_
          exact r_iret d_X12_form_25 rfl rfl (Nat.le_refl 0) (Nat.le_refl 0) ⟨_, rfl, rfl, rfl, h⟩
theorem u_X12_rank_0 {l : Launch} {d N : Nat} {Λ : Lay} {P : Int → Mem → Prop} {σ : Mem} {x1 t : Int} (o_t : Ob N Λ t 21 36) (h0d : 1 ≤ d)
    (h : (∀ τ1, τ1 = st σ t 0 0 → (((cmpL x1 0) < 0 → (CI l mX12_refused (d - 1) [(2, t), (0, (-2))] N Λ τ1 (fun v3 σ2 => P v3 σ2))) ∧ (¬ ((cmpL x1 0) < 0) → ((0 < (cmpL x1 63) → (CI l mX12_refused (d - 1) [(2, t), (0, (-2))] N Λ τ1 (fun v5 σ4 => P v5 σ4))) ∧ (¬ (0 < (cmpL x1 63)) → (CV l mX12_begins (d - 1) [(2, t)] N Λ τ1 (fun σ6 => (∀ τ7, τ7 = st σ6 t 16 0 → (∀ τ8, τ8 = st τ7 t 32 0 → WI l mX12_rank d P 42 [(2, t), (0, x1), (0, 0), (0, 0), (3, 0), (3, 0)] [] N Λ τ8)))))))))) :
    WI l mX12_rank d P 0 [(2, t), (0, x1), (3, 0), (3, 0), (3, 0), (3, 0)] [] N Λ σ := by
  have hd_1 : 1 ≤ d := Nat.le_trans (by decide) h0d
  refine r_aload_n (x := t) d_X12_rank_0 rfl o_t.1 ?_
  refine r_iconst (x := 0) d_X12_rank_1 ⟨by decide, by decide⟩ ?_
  refine r_putI (j := 0) d_X12_rank_2 kX12 (by decide) fl_X12_1 rfl o_t.1 o_t.2.1 o_t.2.2.1 o_t.2.2.2 rfl ?_
  refine r_nmM (fun τ1 eτ1 => ?_)
  have h := h τ1 eτ1
  refine r_iload_n (x := x1) d_X12_rank_5 rfl ?_
  refine r_i2l d_X12_rank_6 ?_
  refine r_lconst d_X12_rank_7 ?_
  skip
  refine r_ldc2 (x := 63) d_X12_rank_8 ck_X12_386 (by decide) ?_
  refine x_callSI (Y2 := mX12_within) (As := [(1, x1), (1, 0), (1, 63)]) (S := []) d_X12_rank_11 ok_mX12_within ml_X12_91 rfl (Nat.le_of_ble_eq_true rfl) (Nat.le_of_ble_eq_true rfl) rfl hd_1 (c_X12_within (v_X12_within_0 ?_))
  refine ⟨fun hc => ?_, fun hc => ?_⟩
  · have h := h.1 hc
    show WP l mX12_rank (rm d 0 0) noX _ 0 0 14 [(2, t), (0, x1), (3, 0), (3, 0), (3, 0), (3, 0)] [(0, 0)] N Λ τ1
    refine r_if_ne (tgt := 24) d_X12_rank_14 rfl (fun hc => absurd hc (by decide)) (fun _ => ?_)
    refine r_aload_n (x := t) d_X12_rank_17 rfl o_t.1 ?_
    refine r_bipush (x := (-2)) d_X12_rank_18 ⟨by decide, by decide⟩ (by decide) ?_
    refine x_callVI (Y2 := mX12_refused) (c := t) (As := [(0, (-2))]) (S := []) d_X12_rank_20 ok_mX12_refused ml_X12_218 rfl (Nat.le_of_ble_eq_true rfl) (Nat.le_of_ble_eq_true rfl) rfl hd_1 kX12 o_t (CI.mono h (fun v3 σ2 h => ?_))
    exact r_iret d_X12_rank_23 rfl rfl (Nat.le_refl 0) (Nat.le_refl 0) ⟨_, rfl, rfl, rfl, h⟩
  · have h := h.2 hc
    refine ⟨fun hc => ?_, fun hc => ?_⟩
    · have h := h.1 hc
      show WP l mX12_rank (rm d 0 0) noX _ 0 0 14 [(2, t), (0, x1), (3, 0), (3, 0), (3, 0), (3, 0)] [(0, 0)] N Λ τ1
      refine r_if_ne (tgt := 24) d_X12_rank_14 rfl (fun hc => absurd hc (by decide)) (fun _ => ?_)
      refine r_aload_n (x := t) d_X12_rank_17 rfl o_t.1 ?_
      refine r_bipush (x := (-2)) d_X12_rank_18 ⟨by decide, by decide⟩ (by decide) ?_
      refine x_callVI (Y2 := mX12_refused) (c := t) (As := [(0, (-2))]) (S := []) d_X12_rank_20 ok_mX12_refused ml_X12_218 rfl (Nat.le_of_ble_eq_true rfl) (Nat.le_of_ble_eq_true rfl) rfl hd_1 kX12 o_t (CI.mono h (fun v5 σ4 h => ?_))
      exact r_iret d_X12_rank_23 rfl rfl (Nat.le_refl 0) (Nat.le_refl 0) ⟨_, rfl, rfl, rfl, h⟩
    · have h := h.2 hc
      show WP l mX12_rank (rm d 0 0) noX _ 0 0 14 [(2, t), (0, x1), (3, 0), (3, 0), (3, 0), (3, 0)] [(0, 1)] N Λ τ1
      refine r_if_ne (tgt := 24) d_X12_rank_14 rfl (fun _ => ?_) (fun hc => absurd hc (by decide))
      refine r_aload_n (x := t) d_X12_rank_24 rfl o_t.1 ?_
      refine x_callVV (Y2 := mX12_begins) (c := t) (As := []) (S := []) d_X12_rank_25 ok_mX12_begins ml_X12_202 rfl (Nat.le_of_ble_eq_true rfl) (Nat.le_of_ble_eq_true rfl) rfl hd_1 kX12 o_t (CV.mono h (fun σ6 h => ?_))
      refine r_aload_n (x := t) d_X12_rank_28 rfl o_t.1 ?_
      refine r_iconst (x := 0) d_X12_rank_29 ⟨by decide, by decide⟩ ?_
      refine r_putI (j := 16) d_X12_rank_30 kX12 (by decide) fl_X12_187 rfl o_t.1 o_t.2.1 o_t.2.2.1 o_t.2.2.2 rfl ?_
      refine r_nmM (fun τ7 eτ7 => ?_)
      have h := h τ7 eτ7
      refine r_aload_n (x := t) d_X12_rank_33 rfl o_t.1 ?_
      refine r_iconst (x := 0) d_X12_rank_34 ⟨by decide, by decide⟩ ?_
      refine r_putI (j := 32) d_X12_rank_35 kX12 (by decide) fl_X12_373 rfl o_t.1 o_t.2.1 o_t.2.2.1 o_t.2.2.2 rfl ?_
      refine r_nmM (fun τ8 eτ8 => ?_)
      have h := h τ8 eτ8
      refine r_iconst (x := 0) d_X12_rank_38 ⟨by decide, by decide⟩ ?_
      refine r_istore_n (L2 := [(2, t), (0, x1), (0, 0), (3, 0), (3, 0), (3, 0)]) d_X12_rank_39 (by decide) rfl rfl ?_
      refine r_iconst (x := 0) d_X12_rank_40 ⟨by decide, by decide⟩ ?_
      refine r_istore_n (L2 := [(2, t), (0, x1), (0, 0), (0, 0), (3, 0), (3, 0)]) d_X12_rank_41 (by decide) rfl rfl ?_
      exact h
theorem u_X12_rank_42 {l : Launch} {d N : Nat} {Λ : Lay} {P : Int → Mem → Prop} {σ : Mem} {x1 x2 x3 t t_matrix : Int} (o_t : Ob N Λ t 21 36) (f_t_matrix : (Λ t).2.2 31 = t_matrix)
    (h : ((2880 ≤ x3 → WI l mX12_rank d P 64 [(2, t), (0, x1), (0, x2), (0, 0), (3, 0), (3, 0)] [] N Λ σ) ∧ (¬ (2880 ≤ x3) → (Ix N Λ t_matrix 1 x3 ∧ (∀ τ1, τ1 = st σ t_matrix x3 0 → (∀ y2, y2 = addI x3 1 → WI l mX12_rank d P 42 [(2, t), (0, x1), (0, x2), (0, y2), (3, 0), (3, 0)] [] N Λ τ1)))))) :
    WI l mX12_rank d P 42 [(2, t), (0, x1), (0, x2), (0, x3), (3, 0), (3, 0)] [] N Λ σ := by
  refine r_iload_n (x := x3) d_X12_rank_42 rfl ?_
  refine r_sipush (x := 2880) d_X12_rank_43 ⟨by decide, by decide⟩ (by decide) ?_
  refine r_ic_ge (tgt := 62) d_X12_rank_46 rfl (fun hc => ?_) (fun hc => ?_)
  · have h := h.1 hc
    refine r_iconst (x := 0) d_X12_rank_62 ⟨by decide, by decide⟩ ?_
    refine r_istore_n (L2 := [(2, t), (0, x1), (0, x2), (0, 0), (3, 0), (3, 0)]) d_X12_rank_63 (by decide) rfl rfl ?_
    exact h
  · have h := h.2 hc
    refine r_aload_n (x := t) d_X12_rank_49 rfl o_t.1 ?_
    refine r_getf (j := 31) (t := 2) (x := t_matrix) d_X12_rank_50 kX12 (by decide) fl_X12_73 o_t.1 o_t.2.1 o_t.2.2.1 o_t.2.2.2 rfl f_t_matrix ?_
    refine r_iload_n (x := x3) d_X12_rank_53 rfl ?_
    refine r_lconst d_X12_rank_54 ?_
    skip
    refine x_last d_X12_rank_55 h.1 ?_
    have h := h.2
    refine r_nmM (fun τ1 eτ1 => ?_)
    have h := h τ1 eτ1
    refine x_iinc (x := x3) (L := [(2, t), (0, x1), (0, x2), (0, x3), (3, 0), (3, 0)]) d_X12_rank_56 rfl (by decide) rfl (fun y2 ey2 => ?_)
    have h := h y2 ey2
    show WP _ _ _ _ _ _ _ _ [(2, t), (0, x1), (0, x2), (0, y2), (3, 0), (3, 0)] _ _ _ _
    refine r_goto (tgt := 42) d_X12_rank_59 rfl ?_
    exact h
theorem u_X12_rank_64 {l : Launch} {d N : Nat} {Λ : Lay} {P : Int → Mem → Prop} {σ : Mem} {x1 x2 x3 t : Int} (o_t : Ob N Λ t 21 36) (h0d : 1 ≤ d)
    (h : ((6 ≤ x3 → WI l mX12_rank d P 163 [(2, t), (0, x1), (0, x2), (0, 0), (0, 0), (3, 0)] [] N Λ σ) ∧ (¬ (6 ≤ x3) → ((¬ (andI (shrI x1 x3) 1) = 0 → (CI l mX12_straightInto (d - 1) [(2, t), (0, x3), (0, 3)] N Λ σ (fun v2 σ1 => ((v2 = 0 → WI l mX12_rank d P 100 [(2, t), (0, x1), (0, x2), (0, x3), (0, v2), (0, 0)] [] N Λ σ1) ∧ (¬ (v2 = 0) → P v2 σ1))))) ∧ ((andI (shrI x1 x3) 1) = 0 → (∀ y3, y3 = addI x3 1 → WI l mX12_rank d P 64 [(2, t), (0, x1), (0, x2), (0, y3), (3, 0), (3, 0)] [] N Λ σ)))))) :
    WI l mX12_rank d P 64 [(2, t), (0, x1), (0, x2), (0, x3), (3, 0), (3, 0)] [] N Λ σ := by
  have hd_1 : 1 ≤ d := Nat.le_trans (by decide) h0d
  refine r_iload_n (x := x3) d_X12_rank_64 rfl ?_
  refine r_bipush (x := 6) d_X12_rank_65 ⟨by decide, by decide⟩ (by decide) ?_
  refine r_ic_ge (tgt := 158) d_X12_rank_67 rfl (fun hc => ?_) (fun hc => ?_)
  · have h := h.1 hc
    refine r_iconst (x := 0) d_X12_rank_158 ⟨by decide, by decide⟩ ?_
    refine r_istore_n (L2 := [(2, t), (0, x1), (0, x2), (0, 0), (3, 0), (3, 0)]) d_X12_rank_159 (by decide) rfl rfl ?_
    refine r_iconst (x := 0) d_X12_rank_160 ⟨by decide, by decide⟩ ?_
    refine r_istore (L2 := [(2, t), (0, x1), (0, x2), (0, 0), (0, 0), (3, 0)]) d_X12_rank_161 (by decide) rfl rfl ?_
    exact h
  · have h := h.2 hc
    refine r_iload_n (x := x1) d_X12_rank_70 rfl ?_
    refine r_iload_n (x := x3) d_X12_rank_71 rfl ?_
    refine r_ishr d_X12_rank_72 ?_
    refine r_iconst (x := 1) d_X12_rank_73 ⟨by decide, by decide⟩ ?_
    refine r_iand d_X12_rank_74 ?_
    refine r_if_ne (tgt := 81) d_X12_rank_75 rfl (fun hc => ?_) (fun hc => ?_)
    · have h := h.1 hc
      refine r_aload_n (x := t) d_X12_rank_81 rfl o_t.1 ?_
      refine r_iload_n (x := x3) d_X12_rank_82 rfl ?_
      refine r_iconst (x := 3) d_X12_rank_83 ⟨by decide, by decide⟩ ?_
      refine x_callVI (Y2 := mX12_straightInto) (c := t) (As := [(0, x3), (0, 3)]) (S := []) d_X12_rank_84 ok_mX12_straightInto ml_X12_349 rfl (Nat.le_of_ble_eq_true rfl) (Nat.le_of_ble_eq_true rfl) rfl hd_1 kX12 o_t (CI.mono h (fun v2 σ1 h => ?_))
      refine r_istore (L2 := [(2, t), (0, x1), (0, x2), (0, x3), (0, v2), (3, 0)]) d_X12_rank_87 (by decide) rfl rfl ?_
      refine r_iload (x := v2) d_X12_rank_89 rfl ?_
      refine r_if_eq (tgt := 97) d_X12_rank_91 rfl (fun hc => ?_) (fun hc => ?_)
      · have h := h.1 hc
        refine r_iconst (x := 0) d_X12_rank_97 ⟨by decide, by decide⟩ ?_
        refine r_istore (L2 := [(2, t), (0, x1), (0, x2), (0, x3), (0, v2), (0, 0)]) d_X12_rank_98 (by decide) rfl rfl ?_
        exact h
      · have h := h.2 hc
        refine r_iload (x := v2) d_X12_rank_94 rfl ?_
        exact r_iret d_X12_rank_96 rfl rfl (Nat.le_refl 0) (Nat.le_refl 0) ⟨_, rfl, rfl, rfl, h⟩
    · have h := h.2 hc
      refine r_goto (tgt := 152) d_X12_rank_78 rfl ?_
      refine x_iinc (x := x3) (L := [(2, t), (0, x1), (0, x2), (0, x3), (3, 0), (3, 0)]) d_X12_rank_152 rfl (by decide) rfl (fun y3 ey3 => ?_)
      have h := h y3 ey3
      show WP _ _ _ _ _ _ _ _ [(2, t), (0, x1), (0, x2), (0, y3), (3, 0), (3, 0)] _ _ _ _
      refine r_goto (tgt := 64) d_X12_rank_155 rfl ?_
      exact h
theorem u_X12_rank_100 {l : Launch} {d N : Nat} {Λ : Lay} {P : Int → Mem → Prop} {σ : Mem} {x1 x2 x3 x4 x5 t t_matrix : Int} (o_t : Ob N Λ t 21 36) (f_t_matrix : (Λ t).2.2 31 = t_matrix) (h0d : 1 ≤ d)
    (h : (CI l mX12_many (d - 1) [(2, t), (0, 3)] N Λ σ (fun v2 σ1 => ((v2 ≤ x5 → (∀ y3, y3 = addI x2 1 → (∀ y4, y4 = addI x3 1 → WI l mX12_rank d P 64 [(2, t), (0, x1), (0, y3), (0, y4), (3, 0), (3, 0)] [] N Λ σ1))) ∧ (¬ (v2 ≤ x5) → (CI l mX12_key (d - 1) [(2, t), (0, 3), (0, x5)] N Λ σ1 (fun v6 σ5 => (CI l mX12_columnOf (d - 1) [(2, t), (0, v6)] N Λ σ5 (fun v8 σ7 => (CI l mX12_number (d - 1) [(2, t), (0, 3), (0, x5)] N Λ σ7 (fun v10 σ9 => (CL l mX12_modulo (d - 1) [(1, v10)] N Λ σ9 (fun v12 σ11 => (Ix N Λ t_matrix 1 (addI (mulI 480 x2) v8) ∧ (∀ τ13, τ13 = st σ11 t_matrix (addI (mulI 480 x2) v8) v12 → (∀ y14, y14 = addI x5 1 → WI l mX12_rank d P 100 [(2, t), (0, x1), (0, x2), (0, x3), (0, x4), (0, y14)] [] N Λ τ13)))))))))))))))) :
    WI l mX12_rank d P 100 [(2, t), (0, x1), (0, x2), (0, x3), (0, x4), (0, x5)] [] N Λ σ := by
  have hd_1 : 1 ≤ d := Nat.le_trans (by decide) h0d
  refine r_iload (x := x5) d_X12_rank_100 rfl ?_
  refine r_aload_n (x := t) d_X12_rank_102 rfl o_t.1 ?_
  refine r_iconst (x := 3) d_X12_rank_103 ⟨by decide, by decide⟩ ?_
  refine x_callVI (Y2 := mX12_many) (c := t) (As := [(0, 3)]) (S := [(0, x5)]) d_X12_rank_104 ok_mX12_many ml_X12_113 rfl (Nat.le_of_ble_eq_true rfl) (Nat.le_of_ble_eq_true rfl) rfl hd_1 kX12 o_t (CI.mono h (fun v2 σ1 h => ?_))
  refine r_ic_ge (tgt := 149) d_X12_rank_107 rfl (fun hc => ?_) (fun hc => ?_)
  · have h := h.1 hc
    refine x_iinc (x := x2) (L := [(2, t), (0, x1), (0, x2), (0, x3), (0, x4), (0, x5)]) d_X12_rank_149 rfl (by decide) rfl (fun y3 ey3 => ?_)
    have h := h y3 ey3
    show WP _ _ _ _ _ _ _ _ [(2, t), (0, x1), (0, y3), (0, x3), (0, x4), (0, x5)] _ _ _ _
    refine x_iinc (x := x3) (L := [(2, t), (0, x1), (0, y3), (0, x3), (0, x4), (0, x5)]) d_X12_rank_152 rfl (by decide) rfl (fun y4 ey4 => ?_)
    have h := h y4 ey4
    show WP _ _ _ _ _ _ _ _ [(2, t), (0, x1), (0, y3), (0, y4), (0, x4), (0, x5)] _ _ _ _
    refine r_goto (tgt := 64) d_X12_rank_155 rfl ?_
    exact x_mask h ⟨Or.inr rfl, Or.inr rfl, Or.inr rfl, Or.inr rfl, Or.inl rfl, Or.inl rfl, trivial⟩
  · have h := h.2 hc
    refine r_aload_n (x := t) d_X12_rank_110 rfl o_t.1 ?_
    refine r_getf (j := 31) (t := 2) (x := t_matrix) d_X12_rank_111 kX12 (by decide) fl_X12_73 o_t.1 o_t.2.1 o_t.2.2.1 o_t.2.2.2 rfl f_t_matrix ?_
    refine r_sipush (x := 480) d_X12_rank_114 ⟨by decide, by decide⟩ (by decide) ?_
    refine r_iload_n (x := x2) d_X12_rank_117 rfl ?_
    refine r_imul d_X12_rank_118 ?_
    refine r_aload_n (x := t) d_X12_rank_119 rfl o_t.1 ?_
    refine r_aload_n (x := t) d_X12_rank_120 rfl o_t.1 ?_
    refine r_iconst (x := 3) d_X12_rank_121 ⟨by decide, by decide⟩ ?_
    refine r_iload (x := x5) d_X12_rank_122 rfl ?_
    refine x_callVI (Y2 := mX12_key) (c := t) (As := [(0, 3), (0, x5)]) (S := [(2, t), (0, (mulI 480 x2)), (2, t_matrix)]) d_X12_rank_124 ok_mX12_key ml_X12_117 rfl (Nat.le_of_ble_eq_true rfl) (Nat.le_of_ble_eq_true rfl) rfl hd_1 kX12 o_t (CI.mono h (fun v6 σ5 h => ?_))
    refine x_callVI (Y2 := mX12_columnOf) (c := t) (As := [(0, v6)]) (S := [(0, (mulI 480 x2)), (2, t_matrix)]) d_X12_rank_127 ok_mX12_columnOf ml_X12_388 rfl (Nat.le_of_ble_eq_true rfl) (Nat.le_of_ble_eq_true rfl) rfl hd_1 kX12 o_t (CI.mono h (fun v8 σ7 h => ?_))
    refine r_iadd d_X12_rank_130 ?_
    refine r_aload_n (x := t) d_X12_rank_131 rfl o_t.1 ?_
    refine r_iconst (x := 3) d_X12_rank_132 ⟨by decide, by decide⟩ ?_
    refine r_iload (x := x5) d_X12_rank_133 rfl ?_
    refine x_callVI (Y2 := mX12_number) (c := t) (As := [(0, 3), (0, x5)]) (S := [(0, (addI (mulI 480 x2) v8)), (2, t_matrix)]) d_X12_rank_135 ok_mX12_number ml_X12_132 rfl (Nat.le_of_ble_eq_true rfl) (Nat.le_of_ble_eq_true rfl) rfl hd_1 kX12 o_t (CI.mono h (fun v10 σ9 h => ?_))
    refine r_i2l d_X12_rank_138 ?_
    refine x_callSL (Y2 := mX12_modulo) (As := [(1, v10)]) (S := [(0, (addI (mulI 480 x2) v8)), (2, t_matrix)]) d_X12_rank_139 ok_mX12_modulo ml_X12_383 rfl (Nat.le_of_ble_eq_true rfl) (Nat.le_of_ble_eq_true rfl) rfl hd_1 (CL.mono h (fun v12 σ11 h => ?_))
    refine x_last d_X12_rank_142 h.1 ?_
    have h := h.2
    refine r_nmM (fun τ13 eτ13 => ?_)
    have h := h τ13 eτ13
    refine x_iinc (x := x5) (L := [(2, t), (0, x1), (0, x2), (0, x3), (0, x4), (0, x5)]) d_X12_rank_143 rfl (by decide) rfl (fun y14 ey14 => ?_)
    have h := h y14 ey14
    show WP _ _ _ _ _ _ _ _ [(2, t), (0, x1), (0, x2), (0, x3), (0, x4), (0, y14)] _ _ _ _
    refine r_goto (tgt := 100) d_X12_rank_146 rfl ?_
    exact h
theorem u_X12_rank_163 {l : Launch} {d N : Nat} {Λ : Lay} {P : Int → Mem → Prop} {σ : Mem} {x1 x2 x3 x4 t : Int} (o_t : Ob N Λ t 21 36)
    (h : (((σ t 32) ≤ x4 → P x3 σ) ∧ (¬ ((σ t 32) ≤ x4) → ((x2 ≤ x3 → P x3 σ) ∧ (¬ (x2 ≤ x3) → WI l mX12_rank d P 180 [(2, t), (0, x1), (0, x2), (0, x3), (0, x4), (0, x3)] [] N Λ σ))))) :
    WI l mX12_rank d P 163 [(2, t), (0, x1), (0, x2), (0, x3), (0, x4), (3, 0)] [] N Λ σ := by
  refine r_iload (x := x4) d_X12_rank_163 rfl ?_
  refine r_aload_n (x := t) d_X12_rank_165 rfl o_t.1 ?_
  refine r_getf (j := 32) (t := 0) (x := (σ t 32)) d_X12_rank_166 kX12 (by decide) fl_X12_373 o_t.1 o_t.2.1 o_t.2.2.1 o_t.2.2.2 rfl rfl ?_
  refine r_ic_ge (tgt := 244) d_X12_rank_169 rfl (fun hc => ?_) (fun hc => ?_)
  · have h := h.1 hc
    refine r_iload_n (x := x3) d_X12_rank_244 rfl ?_
    exact r_iret d_X12_rank_245 rfl rfl (Nat.le_refl 0) (Nat.le_refl 0) ⟨_, rfl, rfl, rfl, h⟩
  · have h := h.2 hc
    refine r_iload_n (x := x3) d_X12_rank_172 rfl ?_
    refine r_iload_n (x := x2) d_X12_rank_173 rfl ?_
    refine r_ic_ge (tgt := 244) d_X12_rank_174 rfl (fun hc => ?_) (fun hc => ?_)
    · have h := h.1 hc
      refine r_iload_n (x := x3) d_X12_rank_244 rfl ?_
      exact r_iret d_X12_rank_245 rfl rfl (Nat.le_refl 0) (Nat.le_refl 0) ⟨_, rfl, rfl, rfl, h⟩
    · have h := h.2 hc
      refine r_iload_n (x := x3) d_X12_rank_177 rfl ?_
      refine r_istore (L2 := [(2, t), (0, x1), (0, x2), (0, x3), (0, x4), (0, x3)]) d_X12_rank_178 (by decide) rfl rfl ?_
      exact h
theorem u_X12_rank_180 {l : Launch} {d N : Nat} {Λ : Lay} {P : Int → Mem → Prop} {σ : Mem} {x1 x2 x3 x4 x5 t t_matrix : Int} (o_t : Ob N Λ t 21 36) (f_t_matrix : (Λ t).2.2 31 = t_matrix) (h0d : 1 ≤ d)
    (h : ((x2 ≤ x5 → ((¬ x5 = x2 → (CV l mX12_swapsRows (d - 1) [(2, t), (0, x5), (0, x3)] N Λ σ (fun σ1 => (CV l mX12_clears (d - 1) [(2, t), (0, x3), (0, x2), (0, x4)] N Λ σ1 (fun σ2 => (∀ y3, y3 = addI x3 1 → (∀ y4, y4 = addI x4 1 → WI l mX12_rank d P 163 [(2, t), (0, x1), (0, x2), (0, y3), (0, y4), (3, 0)] [] N Λ σ2))))))) ∧ (x5 = x2 → (∀ y5, y5 = addI x4 1 → WI l mX12_rank d P 163 [(2, t), (0, x1), (0, x2), (0, x3), (0, y5), (3, 0)] [] N Λ σ)))) ∧ (¬ (x2 ≤ x5) → (Ix N Λ t_matrix 1 (addI (mulI 480 x5) x4) ∧ ((¬ (cmpL (σ t_matrix (addI (mulI 480 x5) x4)) 0) = 0 → ((¬ x5 = x2 → (CV l mX12_swapsRows (d - 1) [(2, t), (0, x5), (0, x3)] N Λ σ (fun σ6 => (CV l mX12_clears (d - 1) [(2, t), (0, x3), (0, x2), (0, x4)] N Λ σ6 (fun σ7 => (∀ y8, y8 = addI x3 1 → (∀ y9, y9 = addI x4 1 → WI l mX12_rank d P 163 [(2, t), (0, x1), (0, x2), (0, y8), (0, y9), (3, 0)] [] N Λ σ7))))))) ∧ (x5 = x2 → (∀ y10, y10 = addI x4 1 → WI l mX12_rank d P 163 [(2, t), (0, x1), (0, x2), (0, x3), (0, y10), (3, 0)] [] N Λ σ)))) ∧ ((cmpL (σ t_matrix (addI (mulI 480 x5) x4)) 0) = 0 → (∀ y11, y11 = addI x5 1 → WI l mX12_rank d P 180 [(2, t), (0, x1), (0, x2), (0, x3), (0, x4), (0, y11)] [] N Λ σ))))))) :
    WI l mX12_rank d P 180 [(2, t), (0, x1), (0, x2), (0, x3), (0, x4), (0, x5)] [] N Λ σ := by
  have hd_1 : 1 ≤ d := Nat.le_trans (by decide) h0d
  refine r_iload (x := x5) d_X12_rank_180 rfl ?_
  refine r_iload_n (x := x2) d_X12_rank_182 rfl ?_
  refine r_ic_ge (tgt := 211) d_X12_rank_183 rfl (fun hc => ?_) (fun hc => ?_)
  · have h := h.1 hc
    refine r_iload (x := x5) d_X12_rank_211 rfl ?_
    refine r_iload_n (x := x2) d_X12_rank_213 rfl ?_
    refine r_ic_ne (tgt := 220) d_X12_rank_214 rfl (fun hc => ?_) (fun hc => ?_)
    · have h := h.1 hc
      refine r_aload_n (x := t) d_X12_rank_220 rfl o_t.1 ?_
      refine r_iload (x := x5) d_X12_rank_221 rfl ?_
      refine r_iload_n (x := x3) d_X12_rank_223 rfl ?_
      refine x_callVV (Y2 := mX12_swapsRows) (c := t) (As := [(0, x5), (0, x3)]) (S := []) d_X12_rank_224 ok_mX12_swapsRows ml_X12_391 rfl (Nat.le_of_ble_eq_true rfl) (Nat.le_of_ble_eq_true rfl) rfl hd_1 kX12 o_t (CV.mono h (fun σ1 h => ?_))
      refine r_aload_n (x := t) d_X12_rank_227 rfl o_t.1 ?_
      refine r_iload_n (x := x3) d_X12_rank_228 rfl ?_
      refine r_iload_n (x := x2) d_X12_rank_229 rfl ?_
      refine r_iload (x := x4) d_X12_rank_230 rfl ?_
      refine x_callVV (Y2 := mX12_clears) (c := t) (As := [(0, x3), (0, x2), (0, x4)]) (S := []) d_X12_rank_232 ok_mX12_clears ml_X12_394 rfl (Nat.le_of_ble_eq_true rfl) (Nat.le_of_ble_eq_true rfl) rfl hd_1 kX12 o_t (CV.mono h (fun σ2 h => ?_))
      refine x_iinc (x := x3) (L := [(2, t), (0, x1), (0, x2), (0, x3), (0, x4), (0, x5)]) d_X12_rank_235 rfl (by decide) rfl (fun y3 ey3 => ?_)
      have h := h y3 ey3
      show WP _ _ _ _ _ _ _ _ [(2, t), (0, x1), (0, x2), (0, y3), (0, x4), (0, x5)] _ _ _ _
      refine x_iinc (x := x4) (L := [(2, t), (0, x1), (0, x2), (0, y3), (0, x4), (0, x5)]) d_X12_rank_238 rfl (by decide) rfl (fun y4 ey4 => ?_)
      have h := h y4 ey4
      show WP _ _ _ _ _ _ _ _ [(2, t), (0, x1), (0, x2), (0, y3), (0, y4), (0, x5)] _ _ _ _
      refine r_goto (tgt := 163) d_X12_rank_241 rfl ?_
      exact x_mask h ⟨Or.inr rfl, Or.inr rfl, Or.inr rfl, Or.inr rfl, Or.inr rfl, Or.inl rfl, trivial⟩
    · have h := h.2 hc
      refine r_goto (tgt := 238) d_X12_rank_217 rfl ?_
      refine x_iinc (x := x4) (L := [(2, t), (0, x1), (0, x2), (0, x3), (0, x4), (0, x5)]) d_X12_rank_238 rfl (by decide) rfl (fun y5 ey5 => ?_)
      have h := h y5 ey5
      show WP _ _ _ _ _ _ _ _ [(2, t), (0, x1), (0, x2), (0, x3), (0, y5), (0, x5)] _ _ _ _
      refine r_goto (tgt := 163) d_X12_rank_241 rfl ?_
      exact x_mask h ⟨Or.inr rfl, Or.inr rfl, Or.inr rfl, Or.inr rfl, Or.inr rfl, Or.inl rfl, trivial⟩
  · have h := h.2 hc
    refine r_aload_n (x := t) d_X12_rank_186 rfl o_t.1 ?_
    refine r_getf (j := 31) (t := 2) (x := t_matrix) d_X12_rank_187 kX12 (by decide) fl_X12_73 o_t.1 o_t.2.1 o_t.2.2.1 o_t.2.2.2 rfl f_t_matrix ?_
    refine r_sipush (x := 480) d_X12_rank_190 ⟨by decide, by decide⟩ (by decide) ?_
    refine r_iload (x := x5) d_X12_rank_193 rfl ?_
    refine r_imul d_X12_rank_195 ?_
    refine r_iload (x := x4) d_X12_rank_196 rfl ?_
    refine r_iadd d_X12_rank_198 ?_
    refine x_lald d_X12_rank_199 h.1 ?_
    have h := h.2
    refine r_lconst d_X12_rank_200 ?_
    skip
    refine r_lcmp d_X12_rank_201 ?_
    refine r_if_ne (tgt := 211) d_X12_rank_202 rfl (fun hc => ?_) (fun hc => ?_)
    · have h := h.1 hc
      refine r_iload (x := x5) d_X12_rank_211 rfl ?_
      refine r_iload_n (x := x2) d_X12_rank_213 rfl ?_
      refine r_ic_ne (tgt := 220) d_X12_rank_214 rfl (fun hc => ?_) (fun hc => ?_)
      · have h := h.1 hc
        refine r_aload_n (x := t) d_X12_rank_220 rfl o_t.1 ?_
        refine r_iload (x := x5) d_X12_rank_221 rfl ?_
        refine r_iload_n (x := x3) d_X12_rank_223 rfl ?_
        refine x_callVV (Y2 := mX12_swapsRows) (c := t) (As := [(0, x5), (0, x3)]) (S := []) d_X12_rank_224 ok_mX12_swapsRows ml_X12_391 rfl (Nat.le_of_ble_eq_true rfl) (Nat.le_of_ble_eq_true rfl) rfl hd_1 kX12 o_t (CV.mono h (fun σ6 h => ?_))
        refine r_aload_n (x := t) d_X12_rank_227 rfl o_t.1 ?_
        refine r_iload_n (x := x3) d_X12_rank_228 rfl ?_
        refine r_iload_n (x := x2) d_X12_rank_229 rfl ?_
        refine r_iload (x := x4) d_X12_rank_230 rfl ?_
        refine x_callVV (Y2 := mX12_clears) (c := t) (As := [(0, x3), (0, x2), (0, x4)]) (S := []) d_X12_rank_232 ok_mX12_clears ml_X12_394 rfl (Nat.le_of_ble_eq_true rfl) (Nat.le_of_ble_eq_true rfl) rfl hd_1 kX12 o_t (CV.mono h (fun σ7 h => ?_))
        refine x_iinc (x := x3) (L := [(2, t), (0, x1), (0, x2), (0, x3), (0, x4), (0, x5)]) d_X12_rank_235 rfl (by decide) rfl (fun y8 ey8 => ?_)
        have h := h y8 ey8
        show WP _ _ _ _ _ _ _ _ [(2, t), (0, x1), (0, x2), (0, y8), (0, x4), (0, x5)] _ _ _ _
        refine x_iinc (x := x4) (L := [(2, t), (0, x1), (0, x2), (0, y8), (0, x4), (0, x5)]) d_X12_rank_238 rfl (by decide) rfl (fun y9 ey9 => ?_)
        have h := h y9 ey9
        show WP _ _ _ _ _ _ _ _ [(2, t), (0, x1), (0, x2), (0, y8), (0, y9), (0, x5)] _ _ _ _
        refine r_goto (tgt := 163) d_X12_rank_241 rfl ?_
        exact x_mask h ⟨Or.inr rfl, Or.inr rfl, Or.inr rfl, Or.inr rfl, Or.inr rfl, Or.inl rfl, trivial⟩
      · have h := h.2 hc
        refine r_goto (tgt := 238) d_X12_rank_217 rfl ?_
        refine x_iinc (x := x4) (L := [(2, t), (0, x1), (0, x2), (0, x3), (0, x4), (0, x5)]) d_X12_rank_238 rfl (by decide) rfl (fun y10 ey10 => ?_)
        have h := h y10 ey10
        show WP _ _ _ _ _ _ _ _ [(2, t), (0, x1), (0, x2), (0, x3), (0, y10), (0, x5)] _ _ _ _
        refine r_goto (tgt := 163) d_X12_rank_241 rfl ?_
        exact x_mask h ⟨Or.inr rfl, Or.inr rfl, Or.inr rfl, Or.inr rfl, Or.inr rfl, Or.inl rfl, trivial⟩
    · have h := h.2 hc
      refine x_iinc (x := x5) (L := [(2, t), (0, x1), (0, x2), (0, x3), (0, x4), (0, x5)]) d_X12_rank_205 rfl (by decide) rfl (fun y11 ey11 => ?_)
      have h := h y11 ey11
      show WP _ _ _ _ _ _ _ _ [(2, t), (0, x1), (0, x2), (0, x3), (0, x4), (0, y11)] _ _ _ _
      refine r_goto (tgt := 180) d_X12_rank_208 rfl ?_
      exact h
theorem u_X12_factor_0 {l : Launch} {d N : Nat} {Λ : Lay} {P : Int → Mem → Prop} {σ : Mem} {x1 x2 t t_found : Int} (o_t : Ob N Λ t 21 36) (f_t_found : (Λ t).2.2 35 = t_found) (h0d : 2 ≤ d)
    (h : (∀ τ1, τ1 = st σ t 0 0 → (((cmpL x1 0) < 0 → (CI l mX12_refused (d - 1) [(2, t), (0, (-2))] N Λ τ1 (fun v3 σ2 => P v3 σ2))) ∧ (¬ ((cmpL x1 0) < 0) → ((0 < (cmpL x1 5) → (CI l mX12_refused (d - 1) [(2, t), (0, (-2))] N Λ τ1 (fun v5 σ4 => P v5 σ4))) ∧ (¬ (0 < (cmpL x1 5)) → (((cmpL x2 0) < 0 → (CI l mX12_refused (d - 1) [(2, t), (0, (-2))] N Λ τ1 (fun v7 σ6 => P v7 σ6))) ∧ (¬ ((cmpL x2 0) < 0) → ((0 < (cmpL x2 6) → (CI l mX12_refused (d - 1) [(2, t), (0, (-2))] N Λ τ1 (fun v9 σ8 => P v9 σ8))) ∧ (¬ (0 < (cmpL x2 6)) → (CI l mX12_areSix (d - 1) [(2, t), (0, x1)] N Λ τ1 (fun v11 σ10 => ((¬ v11 = 0 → (CV l mX12_begins (d - 1) [(2, t)] N Λ σ10 (fun σ12 => (CI l mX12_straightInto (d - 1) [(2, t), (0, x1), (0, 3)] N Λ σ12 (fun v14 σ13 => ((v14 = 0 → (CI l mX12_isFound (d - 1) [(2, t), (0, 0), (0, 0)] N Λ σ13 (fun v16 σ15 => ((v16 = 0 → P 0 σ15) ∧ (¬ (v16 = 0) → (Ix N Λ t_found 0 x2 ∧ P (σ15 t_found x2) σ15)))))) ∧ (¬ (v14 = 0) → P v14 σ13))))))) ∧ (v11 = 0 → (CI l mX12_refused (d - 1) [(2, t), (0, 0)] N Λ σ10 (fun v18 σ17 => P v18 σ17)))))))))))))))) :
    WI l mX12_factor d P 0 [(2, t), (0, x1), (0, x2), (3, 0)] [] N Λ σ := by
  have hd_1 : 1 ≤ d := Nat.le_trans (by decide) h0d
  have he_1 : 1 ≤ d - 1 := Nat.le_sub_of_add_le (Nat.le_trans (by decide) h0d)
  refine r_aload_n (x := t) d_X12_factor_0 rfl o_t.1 ?_
  refine r_iconst (x := 0) d_X12_factor_1 ⟨by decide, by decide⟩ ?_
  refine r_putI (j := 0) d_X12_factor_2 kX12 (by decide) fl_X12_1 rfl o_t.1 o_t.2.1 o_t.2.2.1 o_t.2.2.2 rfl ?_
  refine r_nmM (fun τ1 eτ1 => ?_)
  have h := h τ1 eτ1
  refine r_iload_n (x := x1) d_X12_factor_5 rfl ?_
  refine x_callSI (Y2 := mX12_isShelf) (As := [(0, x1)]) (S := []) d_X12_factor_6 ok_mX12_isShelf ml_X12_199 rfl (Nat.le_of_ble_eq_true rfl) (Nat.le_of_ble_eq_true rfl) rfl hd_1 (c_X12_isShelf (v_X12_isShelf_0 he_1 ?_))
  refine ⟨fun hc => ?_, fun hc => ?_⟩
  · have h := h.1 hc
    show WP l mX12_factor (rm d 0 0) noX _ 0 0 9 [(2, t), (0, x1), (0, x2), (3, 0)] [(0, 0)] N Λ τ1
    refine r_if_eq (tgt := 24) d_X12_factor_9 rfl (fun _ => ?_) (fun hc => absurd hc (by decide))
    refine r_aload_n (x := t) d_X12_factor_24 rfl o_t.1 ?_
    refine r_bipush (x := (-2)) d_X12_factor_25 ⟨by decide, by decide⟩ (by decide) ?_
    refine x_callVI (Y2 := mX12_refused) (c := t) (As := [(0, (-2))]) (S := []) d_X12_factor_27 ok_mX12_refused ml_X12_218 rfl (Nat.le_of_ble_eq_true rfl) (Nat.le_of_ble_eq_true rfl) rfl hd_1 kX12 o_t (CI.mono h (fun v3 σ2 h => ?_))
    exact r_iret d_X12_factor_30 rfl rfl (Nat.le_refl 0) (Nat.le_refl 0) ⟨_, rfl, rfl, rfl, h⟩
  · have h := h.2 hc
    refine ⟨fun hc => ?_, fun hc => ?_⟩
    · have h := h.1 hc
      show WP l mX12_factor (rm d 0 0) noX _ 0 0 9 [(2, t), (0, x1), (0, x2), (3, 0)] [(0, 0)] N Λ τ1
      refine r_if_eq (tgt := 24) d_X12_factor_9 rfl (fun _ => ?_) (fun hc => absurd hc (by decide))
      refine r_aload_n (x := t) d_X12_factor_24 rfl o_t.1 ?_
      refine r_bipush (x := (-2)) d_X12_factor_25 ⟨by decide, by decide⟩ (by decide) ?_
      refine x_callVI (Y2 := mX12_refused) (c := t) (As := [(0, (-2))]) (S := []) d_X12_factor_27 ok_mX12_refused ml_X12_218 rfl (Nat.le_of_ble_eq_true rfl) (Nat.le_of_ble_eq_true rfl) rfl hd_1 kX12 o_t (CI.mono h (fun v5 σ4 h => ?_))
      exact r_iret d_X12_factor_30 rfl rfl (Nat.le_refl 0) (Nat.le_refl 0) ⟨_, rfl, rfl, rfl, h⟩
    · have h := h.2 hc
      show WP l mX12_factor (rm d 0 0) noX _ 0 0 9 [(2, t), (0, x1), (0, x2), (3, 0)] [(0, 1)] N Λ τ1
      refine r_if_eq (tgt := 24) d_X12_factor_9 rfl (fun hc => absurd hc (by decide)) (fun _ => ?_)
      refine r_iload_n (x := x2) d_X12_factor_12 rfl ?_
      refine r_i2l d_X12_factor_13 ?_
      refine r_lconst d_X12_factor_14 ?_
      skip
      refine r_ldc2 (x := 6) d_X12_factor_15 ck_X12_407 (by decide) ?_
      refine x_callSI (Y2 := mX12_within) (As := [(1, x2), (1, 0), (1, 6)]) (S := []) d_X12_factor_18 ok_mX12_within ml_X12_91 rfl (Nat.le_of_ble_eq_true rfl) (Nat.le_of_ble_eq_true rfl) rfl hd_1 (c_X12_within (v_X12_within_0 ?_))
      refine ⟨fun hc => ?_, fun hc => ?_⟩
      · have h := h.1 hc
        show WP l mX12_factor (rm d 0 0) noX _ 0 0 21 [(2, t), (0, x1), (0, x2), (3, 0)] [(0, 0)] N Λ τ1
        refine r_if_ne (tgt := 31) d_X12_factor_21 rfl (fun hc => absurd hc (by decide)) (fun _ => ?_)
        refine r_aload_n (x := t) d_X12_factor_24 rfl o_t.1 ?_
        refine r_bipush (x := (-2)) d_X12_factor_25 ⟨by decide, by decide⟩ (by decide) ?_
        refine x_callVI (Y2 := mX12_refused) (c := t) (As := [(0, (-2))]) (S := []) d_X12_factor_27 ok_mX12_refused ml_X12_218 rfl (Nat.le_of_ble_eq_true rfl) (Nat.le_of_ble_eq_true rfl) rfl hd_1 kX12 o_t (CI.mono h (fun v7 σ6 h => ?_))
        exact r_iret d_X12_factor_30 rfl rfl (Nat.le_refl 0) (Nat.le_refl 0) ⟨_, rfl, rfl, rfl, h⟩
      · have h := h.2 hc
        refine ⟨fun hc => ?_, fun hc => ?_⟩
        · have h := h.1 hc
          show WP l mX12_factor (rm d 0 0) noX _ 0 0 21 [(2, t), (0, x1), (0, x2), (3, 0)] [(0, 0)] N Λ τ1
          refine r_if_ne (tgt := 31) d_X12_factor_21 rfl (fun hc => absurd hc (by decide)) (fun _ => ?_)
          refine r_aload_n (x := t) d_X12_factor_24 rfl o_t.1 ?_
          refine r_bipush (x := (-2)) d_X12_factor_25 ⟨by decide, by decide⟩ (by decide) ?_
          refine x_callVI (Y2 := mX12_refused) (c := t) (As := [(0, (-2))]) (S := []) d_X12_factor_27 ok_mX12_refused ml_X12_218 rfl (Nat.le_of_ble_eq_true rfl) (Nat.le_of_ble_eq_true rfl) rfl hd_1 kX12 o_t (CI.mono h (fun v9 σ8 h => ?_))
          exact r_iret d_X12_factor_30 rfl rfl (Nat.le_refl 0) (Nat.le_refl 0) ⟨_, rfl, rfl, rfl, h⟩
        · have h := h.2 hc
          show WP l mX12_factor (rm d 0 0) noX _ 0 0 21 [(2, t), (0, x1), (0, x2), (3, 0)] [(0, 1)] N Λ τ1
          refine r_if_ne (tgt := 31) d_X12_factor_21 rfl (fun _ => ?_) (fun hc => absurd hc (by decide))
          refine r_aload_n (x := t) d_X12_factor_31 rfl o_t.1 ?_
          refine r_iload_n (x := x1) d_X12_factor_32 rfl ?_
          refine x_callVI (Y2 := mX12_areSix) (c := t) (As := [(0, x1)]) (S := []) d_X12_factor_33 ok_mX12_areSix ml_X12_409 rfl (Nat.le_of_ble_eq_true rfl) (Nat.le_of_ble_eq_true rfl) rfl hd_1 kX12 o_t (CI.mono h (fun v11 σ10 h => ?_))
          refine r_if_ne (tgt := 45) d_X12_factor_36 rfl (fun hc => ?_) (fun hc => ?_)
          · have h := h.1 hc
            refine r_aload_n (x := t) d_X12_factor_45 rfl o_t.1 ?_
            refine x_callVV (Y2 := mX12_begins) (c := t) (As := []) (S := []) d_X12_factor_46 ok_mX12_begins ml_X12_202 rfl (Nat.le_of_ble_eq_true rfl) (Nat.le_of_ble_eq_true rfl) rfl hd_1 kX12 o_t (CV.mono h (fun σ12 h => ?_))
            refine r_aload_n (x := t) d_X12_factor_49 rfl o_t.1 ?_
            refine r_iload_n (x := x1) d_X12_factor_50 rfl ?_
            refine r_iconst (x := 3) d_X12_factor_51 ⟨by decide, by decide⟩ ?_
            refine x_callVI (Y2 := mX12_straightInto) (c := t) (As := [(0, x1), (0, 3)]) (S := []) d_X12_factor_52 ok_mX12_straightInto ml_X12_349 rfl (Nat.le_of_ble_eq_true rfl) (Nat.le_of_ble_eq_true rfl) rfl hd_1 kX12 o_t (CI.mono h (fun v14 σ13 h => ?_))
            refine r_istore_n (L2 := [(2, t), (0, x1), (0, x2), (0, v14)]) d_X12_factor_55 (by decide) rfl rfl ?_
            refine r_iload_n (x := v14) d_X12_factor_56 rfl ?_
            refine r_if_eq (tgt := 62) d_X12_factor_57 rfl (fun hc => ?_) (fun hc => ?_)
            · have h := h.1 hc
              refine r_aload_n (x := t) d_X12_factor_62 rfl o_t.1 ?_
              refine r_iconst (x := 0) d_X12_factor_63 ⟨by decide, by decide⟩ ?_
              refine r_iconst (x := 0) d_X12_factor_64 ⟨by decide, by decide⟩ ?_
              refine x_callVI (Y2 := mX12_isFound) (c := t) (As := [(0, 0), (0, 0)]) (S := []) d_X12_factor_65 ok_mX12_isFound ml_X12_404 rfl (Nat.le_of_ble_eq_true rfl) (Nat.le_of_ble_eq_true rfl) rfl hd_1 kX12 o_t (CI.mono h (fun v16 σ15 h => ?_))
              refine r_if_eq (tgt := 80) d_X12_factor_68 rfl (fun hc => ?_) (fun hc => ?_)
              · have h := h.1 hc
                refine r_iconst (x := 0) d_X12_factor_80 ⟨by decide, by decide⟩ ?_
                exact r_iret d_X12_factor_81 rfl rfl (Nat.le_refl 0) (Nat.le_refl 0) ⟨_, rfl, rfl, rfl, h⟩
              · have h := h.2 hc
                refine r_aload_n (x := t) d_X12_factor_71 rfl o_t.1 ?_
                refine r_getf (j := 35) (t := 2) (x := t_found) d_X12_factor_72 kX12 (by decide) fl_X12_83 o_t.1 o_t.2.1 o_t.2.2.1 o_t.2.2.2 rfl f_t_found ?_
                refine r_iload_n (x := x2) d_X12_factor_75 rfl ?_
                refine x_iald d_X12_factor_76 h.1 ?_
                have h := h.2
                refine r_goto (tgt := 81) d_X12_factor_77 rfl ?_
                exact r_iret d_X12_factor_81 rfl rfl (Nat.le_refl 0) (Nat.le_refl 0) ⟨_, rfl, rfl, rfl, h⟩
            · have h := h.2 hc
              refine r_iload_n (x := v14) d_X12_factor_60 rfl ?_
              exact r_iret d_X12_factor_61 rfl rfl (Nat.le_refl 0) (Nat.le_refl 0) ⟨_, rfl, rfl, rfl, h⟩
          · have h := h.2 hc
            refine r_aload_n (x := t) d_X12_factor_39 rfl o_t.1 ?_
            refine r_iconst (x := 0) d_X12_factor_40 ⟨by decide, by decide⟩ ?_
            refine x_callVI (Y2 := mX12_refused) (c := t) (As := [(0, 0)]) (S := []) d_X12_factor_41 ok_mX12_refused ml_X12_218 rfl (Nat.le_of_ble_eq_true rfl) (Nat.le_of_ble_eq_true rfl) rfl hd_1 kX12 o_t (CI.mono h (fun v18 σ17 h => ?_))
            exact r_iret d_X12_factor_44 rfl rfl (Nat.le_refl 0) (Nat.le_refl 0) ⟨_, rfl, rfl, rfl, h⟩
theorem u_X12_isFinal_0 {l : Launch} {d N : Nat} {Λ : Lay} {P : Int → Mem → Prop} {σ : Mem} {x1 t : Int} (o_t : Ob N Λ t 21 36) (h0d : 2 ≤ d)
    (h : (∀ τ1, τ1 = st σ t 0 0 → (((cmpL x1 0) < 0 → (CI l mX12_refused (d - 1) [(2, t), (0, (-2))] N Λ τ1 (fun v3 σ2 => P v3 σ2))) ∧ (¬ ((cmpL x1 0) < 0) → ((0 < (cmpL x1 5) → (CI l mX12_refused (d - 1) [(2, t), (0, (-2))] N Λ τ1 (fun v5 σ4 => P v5 σ4))) ∧ (¬ (0 < (cmpL x1 5)) → (CV l mX12_begins (d - 1) [(2, t)] N Λ τ1 (fun σ6 => (CI l mX12_straightInto (d - 1) [(2, t), (0, x1), (0, 3)] N Λ σ6 (fun v8 σ7 => ((v8 = 0 → (CI l mX12_many (d - 1) [(2, t), (0, 3)] N Λ σ7 (fun v10 σ9 => ((v10 ≤ 0 → (CV l mX12_reduces (d - 1) [(2, t), (0, x1)] N Λ σ9 (fun σ11 => (CI l mX12_many (d - 1) [(2, t), (0, 0)] N Λ σ11 (fun v13 σ12 => ((v13 = 1 → (CI l mX12_key (d - 1) [(2, t), (0, 0), (0, 0)] N Λ σ12 (fun v15 σ14 => (CI l mX12_degreeOf (d - 1) [(0, v15)] N Λ σ14 (fun v17 σ16 => ((v17 ≤ 0 → WI l mX12_isFinal d P 86 [(2, t), (0, x1), (0, v8), (0, v15), (0, 0), (0, 0)] [] N Λ σ16) ∧ (¬ (v17 ≤ 0) → WI l mX12_isFinal d P 86 [(2, t), (0, x1), (0, v8), (0, v15), (0, 1), (0, 0)] [] N Λ σ16))))))) ∧ (¬ (v13 = 1) → P 0 σ12))))))) ∧ (¬ (v10 ≤ 0) → P 0 σ9))))) ∧ (¬ (v8 = 0) → P v8 σ7)))))))))))) :
    WI l mX12_isFinal d P 0 [(2, t), (0, x1), (3, 0), (3, 0), (3, 0), (3, 0)] [] N Λ σ := by
  have hd_1 : 1 ≤ d := Nat.le_trans (by decide) h0d
  have he_1 : 1 ≤ d - 1 := Nat.le_sub_of_add_le (Nat.le_trans (by decide) h0d)
  refine r_aload_n (x := t) d_X12_isFinal_0 rfl o_t.1 ?_
  refine r_iconst (x := 0) d_X12_isFinal_1 ⟨by decide, by decide⟩ ?_
  refine r_putI (j := 0) d_X12_isFinal_2 kX12 (by decide) fl_X12_1 rfl o_t.1 o_t.2.1 o_t.2.2.1 o_t.2.2.2 rfl ?_
  refine r_nmM (fun τ1 eτ1 => ?_)
  have h := h τ1 eτ1
  refine r_iload_n (x := x1) d_X12_isFinal_5 rfl ?_
  refine x_callSI (Y2 := mX12_isShelf) (As := [(0, x1)]) (S := []) d_X12_isFinal_6 ok_mX12_isShelf ml_X12_199 rfl (Nat.le_of_ble_eq_true rfl) (Nat.le_of_ble_eq_true rfl) rfl hd_1 (c_X12_isShelf (v_X12_isShelf_0 he_1 ?_))
  refine ⟨fun hc => ?_, fun hc => ?_⟩
  · have h := h.1 hc
    show WP l mX12_isFinal (rm d 0 0) noX _ 0 0 9 [(2, t), (0, x1), (3, 0), (3, 0), (3, 0), (3, 0)] [(0, 0)] N Λ τ1
    refine r_if_ne (tgt := 19) d_X12_isFinal_9 rfl (fun hc => absurd hc (by decide)) (fun _ => ?_)
    refine r_aload_n (x := t) d_X12_isFinal_12 rfl o_t.1 ?_
    refine r_bipush (x := (-2)) d_X12_isFinal_13 ⟨by decide, by decide⟩ (by decide) ?_
    refine x_callVI (Y2 := mX12_refused) (c := t) (As := [(0, (-2))]) (S := []) d_X12_isFinal_15 ok_mX12_refused ml_X12_218 rfl (Nat.le_of_ble_eq_true rfl) (Nat.le_of_ble_eq_true rfl) rfl hd_1 kX12 o_t (CI.mono h (fun v3 σ2 h => ?_))
    exact r_iret d_X12_isFinal_18 rfl rfl (Nat.le_refl 0) (Nat.le_refl 0) ⟨_, rfl, rfl, rfl, h⟩
  · have h := h.2 hc
    refine ⟨fun hc => ?_, fun hc => ?_⟩
    · have h := h.1 hc
      show WP l mX12_isFinal (rm d 0 0) noX _ 0 0 9 [(2, t), (0, x1), (3, 0), (3, 0), (3, 0), (3, 0)] [(0, 0)] N Λ τ1
      refine r_if_ne (tgt := 19) d_X12_isFinal_9 rfl (fun hc => absurd hc (by decide)) (fun _ => ?_)
      refine r_aload_n (x := t) d_X12_isFinal_12 rfl o_t.1 ?_
      refine r_bipush (x := (-2)) d_X12_isFinal_13 ⟨by decide, by decide⟩ (by decide) ?_
      refine x_callVI (Y2 := mX12_refused) (c := t) (As := [(0, (-2))]) (S := []) d_X12_isFinal_15 ok_mX12_refused ml_X12_218 rfl (Nat.le_of_ble_eq_true rfl) (Nat.le_of_ble_eq_true rfl) rfl hd_1 kX12 o_t (CI.mono h (fun v5 σ4 h => ?_))
      exact r_iret d_X12_isFinal_18 rfl rfl (Nat.le_refl 0) (Nat.le_refl 0) ⟨_, rfl, rfl, rfl, h⟩
    · have h := h.2 hc
      show WP l mX12_isFinal (rm d 0 0) noX _ 0 0 9 [(2, t), (0, x1), (3, 0), (3, 0), (3, 0), (3, 0)] [(0, 1)] N Λ τ1
      refine r_if_ne (tgt := 19) d_X12_isFinal_9 rfl (fun _ => ?_) (fun hc => absurd hc (by decide))
      refine r_aload_n (x := t) d_X12_isFinal_19 rfl o_t.1 ?_
      refine x_callVV (Y2 := mX12_begins) (c := t) (As := []) (S := []) d_X12_isFinal_20 ok_mX12_begins ml_X12_202 rfl (Nat.le_of_ble_eq_true rfl) (Nat.le_of_ble_eq_true rfl) rfl hd_1 kX12 o_t (CV.mono h (fun σ6 h => ?_))
      refine r_aload_n (x := t) d_X12_isFinal_23 rfl o_t.1 ?_
      refine r_iload_n (x := x1) d_X12_isFinal_24 rfl ?_
      refine r_iconst (x := 3) d_X12_isFinal_25 ⟨by decide, by decide⟩ ?_
      refine x_callVI (Y2 := mX12_straightInto) (c := t) (As := [(0, x1), (0, 3)]) (S := []) d_X12_isFinal_26 ok_mX12_straightInto ml_X12_349 rfl (Nat.le_of_ble_eq_true rfl) (Nat.le_of_ble_eq_true rfl) rfl hd_1 kX12 o_t (CI.mono h (fun v8 σ7 h => ?_))
      refine r_istore_n (L2 := [(2, t), (0, x1), (0, v8), (3, 0), (3, 0), (3, 0)]) d_X12_isFinal_29 (by decide) rfl rfl ?_
      refine r_iload_n (x := v8) d_X12_isFinal_30 rfl ?_
      refine r_if_eq (tgt := 36) d_X12_isFinal_31 rfl (fun hc => ?_) (fun hc => ?_)
      · have h := h.1 hc
        refine r_aload_n (x := t) d_X12_isFinal_36 rfl o_t.1 ?_
        refine r_iconst (x := 3) d_X12_isFinal_37 ⟨by decide, by decide⟩ ?_
        refine x_callVI (Y2 := mX12_many) (c := t) (As := [(0, 3)]) (S := []) d_X12_isFinal_38 ok_mX12_many ml_X12_113 rfl (Nat.le_of_ble_eq_true rfl) (Nat.le_of_ble_eq_true rfl) rfl hd_1 kX12 o_t (CI.mono h (fun v10 σ9 h => ?_))
        refine r_if_le (tgt := 46) d_X12_isFinal_41 rfl (fun hc => ?_) (fun hc => ?_)
        · have h := h.1 hc
          refine r_aload_n (x := t) d_X12_isFinal_46 rfl o_t.1 ?_
          refine r_iload_n (x := x1) d_X12_isFinal_47 rfl ?_
          refine x_callVV (Y2 := mX12_reduces) (c := t) (As := [(0, x1)]) (S := []) d_X12_isFinal_48 ok_mX12_reduces ml_X12_247 rfl (Nat.le_of_ble_eq_true rfl) (Nat.le_of_ble_eq_true rfl) rfl hd_1 kX12 o_t (CV.mono h (fun σ11 h => ?_))
          refine r_aload_n (x := t) d_X12_isFinal_51 rfl o_t.1 ?_
          refine r_iconst (x := 0) d_X12_isFinal_52 ⟨by decide, by decide⟩ ?_
          refine x_callVI (Y2 := mX12_many) (c := t) (As := [(0, 0)]) (S := []) d_X12_isFinal_53 ok_mX12_many ml_X12_113 rfl (Nat.le_of_ble_eq_true rfl) (Nat.le_of_ble_eq_true rfl) rfl hd_1 kX12 o_t (CI.mono h (fun v13 σ12 h => ?_))
          refine r_iconst (x := 1) d_X12_isFinal_56 ⟨by decide, by decide⟩ ?_
          refine r_ic_eq (tgt := 62) d_X12_isFinal_57 rfl (fun hc => ?_) (fun hc => ?_)
          · have h := h.1 hc
            refine r_aload_n (x := t) d_X12_isFinal_62 rfl o_t.1 ?_
            refine r_iconst (x := 0) d_X12_isFinal_63 ⟨by decide, by decide⟩ ?_
            refine r_iconst (x := 0) d_X12_isFinal_64 ⟨by decide, by decide⟩ ?_
            refine x_callVI (Y2 := mX12_key) (c := t) (As := [(0, 0), (0, 0)]) (S := []) d_X12_isFinal_65 ok_mX12_key ml_X12_117 rfl (Nat.le_of_ble_eq_true rfl) (Nat.le_of_ble_eq_true rfl) rfl hd_1 kX12 o_t (CI.mono h (fun v15 σ14 h => ?_))
            refine r_istore_n (L2 := [(2, t), (0, x1), (0, v8), (0, v15), (3, 0), (3, 0)]) d_X12_isFinal_68 (by decide) rfl rfl ?_
            refine r_iload_n (x := v15) d_X12_isFinal_69 rfl ?_
            refine x_callSI (Y2 := mX12_degreeOf) (As := [(0, v15)]) (S := []) d_X12_isFinal_70 ok_mX12_degreeOf ml_X12_138 rfl (Nat.le_of_ble_eq_true rfl) (Nat.le_of_ble_eq_true rfl) rfl hd_1 (CI.mono h (fun v17 σ16 h => ?_))
            refine r_if_le (tgt := 80) d_X12_isFinal_73 rfl (fun hc => ?_) (fun hc => ?_)
            · have h := h.1 hc
              refine r_iconst (x := 0) d_X12_isFinal_80 ⟨by decide, by decide⟩ ?_
              refine r_istore (L2 := [(2, t), (0, x1), (0, v8), (0, v15), (0, 0), (3, 0)]) d_X12_isFinal_81 (by decide) rfl rfl ?_
              refine r_iconst (x := 0) d_X12_isFinal_83 ⟨by decide, by decide⟩ ?_
              refine r_istore (L2 := [(2, t), (0, x1), (0, v8), (0, v15), (0, 0), (0, 0)]) d_X12_isFinal_84 (by decide) rfl rfl ?_
              exact h
            · have h := h.2 hc
              refine r_iconst (x := 1) d_X12_isFinal_76 ⟨by decide, by decide⟩ ?_
              refine r_goto (tgt := 81) d_X12_isFinal_77 rfl ?_
              refine r_istore (L2 := [(2, t), (0, x1), (0, v8), (0, v15), (0, 1), (3, 0)]) d_X12_isFinal_81 (by decide) rfl rfl ?_
              refine r_iconst (x := 0) d_X12_isFinal_83 ⟨by decide, by decide⟩ ?_
              refine r_istore (L2 := [(2, t), (0, x1), (0, v8), (0, v15), (0, 1), (0, 0)]) d_X12_isFinal_84 (by decide) rfl rfl ?_
              exact h
          · have h := h.2 hc
            refine r_iconst (x := 0) d_X12_isFinal_60 ⟨by decide, by decide⟩ ?_
            exact r_iret d_X12_isFinal_61 rfl rfl (Nat.le_refl 0) (Nat.le_refl 0) ⟨_, rfl, rfl, rfl, h⟩
        · have h := h.2 hc
          refine r_iconst (x := 0) d_X12_isFinal_44 ⟨by decide, by decide⟩ ?_
          exact r_iret d_X12_isFinal_45 rfl rfl (Nat.le_refl 0) (Nat.le_refl 0) ⟨_, rfl, rfl, rfl, h⟩
      · have h := h.2 hc
        refine r_iload_n (x := v8) d_X12_isFinal_34 rfl ?_
        exact r_iret d_X12_isFinal_35 rfl rfl (Nat.le_refl 0) (Nat.le_refl 0) ⟨_, rfl, rfl, rfl, h⟩
theorem u_X12_isFinal_86 {l : Launch} {d N : Nat} {Λ : Lay} {P : Int → Mem → Prop} {σ : Mem} {x1 x2 x3 x4 x5 t : Int} (o_t : Ob N Λ t 21 36) (h0d : 1 ≤ d)
    (h : (CI l mX12_degreeOf (d - 1) [(0, x3)] N Λ σ (fun v2 σ1 => ((v2 ≤ x5 → ((x4 = 0 → P 0 σ1) ∧ (¬ (x4 = 0) → P 1 σ1))) ∧ (¬ (v2 ≤ x5) → ((x4 = 0 → (∀ y3, y3 = addI x5 1 → WI l mX12_isFinal d P 86 [(2, t), (0, x1), (0, x2), (0, x3), (0, 0), (0, y3)] [] N Λ σ1)) ∧ (¬ (x4 = 0) → (CI l mX12_rankIn (d - 1) [(0, x3), (0, x5)] N Λ σ1 (fun v5 σ4 => (CI l mX12_factOf (d - 1) [(2, t), (0, v5)] N Λ σ4 (fun v7 σ6 => ((¬ v7 = 1 → (∀ y8, y8 = addI x5 1 → WI l mX12_isFinal d P 86 [(2, t), (0, x1), (0, x2), (0, x3), (0, 0), (0, y8)] [] N Λ σ6)) ∧ (v7 = 1 → (∀ y9, y9 = addI x5 1 → WI l mX12_isFinal d P 86 [(2, t), (0, x1), (0, x2), (0, x3), (0, 1), (0, y9)] [] N Λ σ6)))))))))))))) :
    WI l mX12_isFinal d P 86 [(2, t), (0, x1), (0, x2), (0, x3), (0, x4), (0, x5)] [] N Λ σ := by
  have hd_1 : 1 ≤ d := Nat.le_trans (by decide) h0d
  refine r_iload (x := x5) d_X12_isFinal_86 rfl ?_
  refine r_iload_n (x := x3) d_X12_isFinal_88 rfl ?_
  refine x_callSI (Y2 := mX12_degreeOf) (As := [(0, x3)]) (S := [(0, x5)]) d_X12_isFinal_89 ok_mX12_degreeOf ml_X12_138 rfl (Nat.le_of_ble_eq_true rfl) (Nat.le_of_ble_eq_true rfl) rfl hd_1 (CI.mono h (fun v2 σ1 h => ?_))
  refine r_ic_ge (tgt := 127) d_X12_isFinal_92 rfl (fun hc => ?_) (fun hc => ?_)
  · have h := h.1 hc
    refine r_iload (x := x4) d_X12_isFinal_127 rfl ?_
    refine r_if_eq (tgt := 136) d_X12_isFinal_129 rfl (fun hc => ?_) (fun hc => ?_)
    · have h := h.1 hc
      refine r_iconst (x := 0) d_X12_isFinal_136 ⟨by decide, by decide⟩ ?_
      exact r_iret d_X12_isFinal_137 rfl rfl (Nat.le_refl 0) (Nat.le_refl 0) ⟨_, rfl, rfl, rfl, h⟩
    · have h := h.2 hc
      refine r_iconst (x := 1) d_X12_isFinal_132 ⟨by decide, by decide⟩ ?_
      refine r_goto (tgt := 137) d_X12_isFinal_133 rfl ?_
      exact r_iret d_X12_isFinal_137 rfl rfl (Nat.le_refl 0) (Nat.le_refl 0) ⟨_, rfl, rfl, rfl, h⟩
  · have h := h.2 hc
    refine r_iload (x := x4) d_X12_isFinal_95 rfl ?_
    refine r_if_eq (tgt := 118) d_X12_isFinal_97 rfl (fun hc => ?_) (fun hc => ?_)
    · have h := h.1 hc
      refine r_iconst (x := 0) d_X12_isFinal_118 ⟨by decide, by decide⟩ ?_
      refine r_istore (L2 := [(2, t), (0, x1), (0, x2), (0, x3), (0, 0), (0, x5)]) d_X12_isFinal_119 (by decide) rfl rfl ?_
      refine x_iinc (x := x5) (L := [(2, t), (0, x1), (0, x2), (0, x3), (0, 0), (0, x5)]) d_X12_isFinal_121 rfl (by decide) rfl (fun y3 ey3 => ?_)
      have h := h y3 ey3
      show WP _ _ _ _ _ _ _ _ [(2, t), (0, x1), (0, x2), (0, x3), (0, 0), (0, y3)] _ _ _ _
      refine r_goto (tgt := 86) d_X12_isFinal_124 rfl ?_
      exact h
    · have h := h.2 hc
      refine r_aload_n (x := t) d_X12_isFinal_100 rfl o_t.1 ?_
      refine r_iload_n (x := x3) d_X12_isFinal_101 rfl ?_
      refine r_iload (x := x5) d_X12_isFinal_102 rfl ?_
      refine x_callSI (Y2 := mX12_rankIn) (As := [(0, x3), (0, x5)]) (S := [(2, t)]) d_X12_isFinal_104 ok_mX12_rankIn ml_X12_135 rfl (Nat.le_of_ble_eq_true rfl) (Nat.le_of_ble_eq_true rfl) rfl hd_1 (CI.mono h (fun v5 σ4 h => ?_))
      refine x_callVI (Y2 := mX12_factOf) (c := t) (As := [(0, v5)]) (S := []) d_X12_isFinal_107 ok_mX12_factOf ml_X12_244 rfl (Nat.le_of_ble_eq_true rfl) (Nat.le_of_ble_eq_true rfl) rfl hd_1 kX12 o_t (CI.mono h (fun v7 σ6 h => ?_))
      refine r_iconst (x := 1) d_X12_isFinal_110 ⟨by decide, by decide⟩ ?_
      refine r_ic_ne (tgt := 118) d_X12_isFinal_111 rfl (fun hc => ?_) (fun hc => ?_)
      · have h := h.1 hc
        refine r_iconst (x := 0) d_X12_isFinal_118 ⟨by decide, by decide⟩ ?_
        refine r_istore (L2 := [(2, t), (0, x1), (0, x2), (0, x3), (0, 0), (0, x5)]) d_X12_isFinal_119 (by decide) rfl rfl ?_
        refine x_iinc (x := x5) (L := [(2, t), (0, x1), (0, x2), (0, x3), (0, 0), (0, x5)]) d_X12_isFinal_121 rfl (by decide) rfl (fun y8 ey8 => ?_)
        have h := h y8 ey8
        show WP _ _ _ _ _ _ _ _ [(2, t), (0, x1), (0, x2), (0, x3), (0, 0), (0, y8)] _ _ _ _
        refine r_goto (tgt := 86) d_X12_isFinal_124 rfl ?_
        exact h
      · have h := h.2 hc
        refine r_iconst (x := 1) d_X12_isFinal_114 ⟨by decide, by decide⟩ ?_
        refine r_goto (tgt := 119) d_X12_isFinal_115 rfl ?_
        refine r_istore (L2 := [(2, t), (0, x1), (0, x2), (0, x3), (0, 1), (0, x5)]) d_X12_isFinal_119 (by decide) rfl rfl ?_
        refine x_iinc (x := x5) (L := [(2, t), (0, x1), (0, x2), (0, x3), (0, 1), (0, x5)]) d_X12_isFinal_121 rfl (by decide) rfl (fun y9 ey9 => ?_)
        have h := h y9 ey9
        show WP _ _ _ _ _ _ _ _ [(2, t), (0, x1), (0, x2), (0, x3), (0, 1), (0, y9)] _ _ _ _
        refine r_goto (tgt := 86) d_X12_isFinal_124 rfl ?_
        exact h
theorem u_X12_known_0 {l : Launch} {d N : Nat} {Λ : Lay} {P : Int → Mem → Prop} {σ : Mem} {x1 x2 x3 t t_rankOf : Int} (o_t : Ob N Λ t 21 36) (f_t_rankOf : (Λ t).2.2 1 = t_rankOf) (h0d : 2 ≤ d)
    (h : (∀ τ1, τ1 = st σ t 0 0 → (((cmpL x1 0) < 0 → P (-2) τ1) ∧ (¬ ((cmpL x1 0) < 0) → ((0 < (cmpL x1 9) → P (-2) τ1) ∧ (¬ (0 < (cmpL x1 9)) → (((cmpL x2 0) < 0 → P (-2) τ1) ∧ (¬ ((cmpL x2 0) < 0) → ((0 < (cmpL x2 9) → P (-2) τ1) ∧ (¬ (0 < (cmpL x2 9)) → (((cmpL x3 0) < 0 → P (-2) τ1) ∧ (¬ ((cmpL x3 0) < 0) → ((0 < (cmpL x3 9) → P (-2) τ1) ∧ (¬ (0 < (cmpL x3 9)) → (Ix N Λ t_rankOf 0 (addI (addI (mulI 100 x1) (mulI 10 x2)) x3) ∧ ((0 ≤ (τ1 t_rankOf (addI (addI (mulI 100 x1) (mulI 10 x2)) x3)) → (∀ y2, y2 = (τ1 t_rankOf (addI (addI (mulI 100 x1) (mulI 10 x2)) x3)) → ((¬ y2 = 0 → (CI l mX12_factOf (d - 1) [(2, t), (0, y2)] N Λ τ1 (fun v4 σ3 => P v4 σ3))) ∧ (y2 = 0 → P (-3) τ1)))) ∧ (¬ (0 ≤ (τ1 t_rankOf (addI (addI (mulI 100 x1) (mulI 10 x2)) x3))) → (∀ y5, y5 = (negI (τ1 t_rankOf (addI (addI (mulI 100 x1) (mulI 10 x2)) x3))) → ((¬ y5 = 0 → (CI l mX12_factOf (d - 1) [(2, t), (0, y5)] N Λ τ1 (fun v7 σ6 => P v7 σ6))) ∧ (y5 = 0 → P (-3) τ1)))))))))))))))))))) :
    WI l mX12_known d P 0 [(2, t), (0, x1), (0, x2), (0, x3), (3, 0)] [] N Λ σ := by
  have hd_1 : 1 ≤ d := Nat.le_trans (by decide) h0d
  have he_1 : 1 ≤ d - 1 := Nat.le_sub_of_add_le (Nat.le_trans (by decide) h0d)
  refine r_aload_n (x := t) d_X12_known_0 rfl o_t.1 ?_
  refine r_iconst (x := 0) d_X12_known_1 ⟨by decide, by decide⟩ ?_
  refine r_putI (j := 0) d_X12_known_2 kX12 (by decide) fl_X12_1 rfl o_t.1 o_t.2.1 o_t.2.2.1 o_t.2.2.2 rfl ?_
  refine r_nmM (fun τ1 eτ1 => ?_)
  have h := h τ1 eτ1
  refine r_iload_n (x := x1) d_X12_known_5 rfl ?_
  refine x_callSI (Y2 := mX12_isLetter) (As := [(0, x1)]) (S := []) d_X12_known_6 ok_mX12_isLetter ml_X12_208 rfl (Nat.le_of_ble_eq_true rfl) (Nat.le_of_ble_eq_true rfl) rfl hd_1 (c_X12_isLetter (v_X12_isLetter_0 he_1 ?_))
  refine ⟨fun hc => ?_, fun hc => ?_⟩
  · have h := h.1 hc
    show WP l mX12_known (rm d 0 0) noX _ 0 0 9 [(2, t), (0, x1), (0, x2), (0, x3), (3, 0)] [(0, 0)] N Λ τ1
    refine r_if_eq (tgt := 26) d_X12_known_9 rfl (fun _ => ?_) (fun hc => absurd hc (by decide))
    refine r_bipush (x := (-2)) d_X12_known_26 ⟨by decide, by decide⟩ (by decide) ?_
    exact r_iret d_X12_known_28 rfl rfl (Nat.le_refl 0) (Nat.le_refl 0) ⟨_, rfl, rfl, rfl, h⟩
  · have h := h.2 hc
    refine ⟨fun hc => ?_, fun hc => ?_⟩
    · have h := h.1 hc
      show WP l mX12_known (rm d 0 0) noX _ 0 0 9 [(2, t), (0, x1), (0, x2), (0, x3), (3, 0)] [(0, 0)] N Λ τ1
      refine r_if_eq (tgt := 26) d_X12_known_9 rfl (fun _ => ?_) (fun hc => absurd hc (by decide))
      refine r_bipush (x := (-2)) d_X12_known_26 ⟨by decide, by decide⟩ (by decide) ?_
      exact r_iret d_X12_known_28 rfl rfl (Nat.le_refl 0) (Nat.le_refl 0) ⟨_, rfl, rfl, rfl, h⟩
    · have h := h.2 hc
      show WP l mX12_known (rm d 0 0) noX _ 0 0 9 [(2, t), (0, x1), (0, x2), (0, x3), (3, 0)] [(0, 1)] N Λ τ1
      refine r_if_eq (tgt := 26) d_X12_known_9 rfl (fun hc => absurd hc (by decide)) (fun _ => ?_)
      refine r_iload_n (x := x2) d_X12_known_12 rfl ?_
      refine x_callSI (Y2 := mX12_isLetter) (As := [(0, x2)]) (S := []) d_X12_known_13 ok_mX12_isLetter ml_X12_208 rfl (Nat.le_of_ble_eq_true rfl) (Nat.le_of_ble_eq_true rfl) rfl hd_1 (c_X12_isLetter (v_X12_isLetter_0 he_1 ?_))
      refine ⟨fun hc => ?_, fun hc => ?_⟩
      · have h := h.1 hc
        show WP l mX12_known (rm d 0 0) noX _ 0 0 16 [(2, t), (0, x1), (0, x2), (0, x3), (3, 0)] [(0, 0)] N Λ τ1
        refine r_if_eq (tgt := 26) d_X12_known_16 rfl (fun _ => ?_) (fun hc => absurd hc (by decide))
        refine r_bipush (x := (-2)) d_X12_known_26 ⟨by decide, by decide⟩ (by decide) ?_
        exact r_iret d_X12_known_28 rfl rfl (Nat.le_refl 0) (Nat.le_refl 0) ⟨_, rfl, rfl, rfl, h⟩
      · have h := h.2 hc
        refine ⟨fun hc => ?_, fun hc => ?_⟩
        · have h := h.1 hc
          show WP l mX12_known (rm d 0 0) noX _ 0 0 16 [(2, t), (0, x1), (0, x2), (0, x3), (3, 0)] [(0, 0)] N Λ τ1
          refine r_if_eq (tgt := 26) d_X12_known_16 rfl (fun _ => ?_) (fun hc => absurd hc (by decide))
          refine r_bipush (x := (-2)) d_X12_known_26 ⟨by decide, by decide⟩ (by decide) ?_
          exact r_iret d_X12_known_28 rfl rfl (Nat.le_refl 0) (Nat.le_refl 0) ⟨_, rfl, rfl, rfl, h⟩
        · have h := h.2 hc
          show WP l mX12_known (rm d 0 0) noX _ 0 0 16 [(2, t), (0, x1), (0, x2), (0, x3), (3, 0)] [(0, 1)] N Λ τ1
          refine r_if_eq (tgt := 26) d_X12_known_16 rfl (fun hc => absurd hc (by decide)) (fun _ => ?_)
          refine r_iload_n (x := x3) d_X12_known_19 rfl ?_
          refine x_callSI (Y2 := mX12_isLetter) (As := [(0, x3)]) (S := []) d_X12_known_20 ok_mX12_isLetter ml_X12_208 rfl (Nat.le_of_ble_eq_true rfl) (Nat.le_of_ble_eq_true rfl) rfl hd_1 (c_X12_isLetter (v_X12_isLetter_0 he_1 ?_))
          refine ⟨fun hc => ?_, fun hc => ?_⟩
          · have h := h.1 hc
            show WP l mX12_known (rm d 0 0) noX _ 0 0 23 [(2, t), (0, x1), (0, x2), (0, x3), (3, 0)] [(0, 0)] N Λ τ1
            refine r_if_ne (tgt := 29) d_X12_known_23 rfl (fun hc => absurd hc (by decide)) (fun _ => ?_)
            refine r_bipush (x := (-2)) d_X12_known_26 ⟨by decide, by decide⟩ (by decide) ?_
            exact r_iret d_X12_known_28 rfl rfl (Nat.le_refl 0) (Nat.le_refl 0) ⟨_, rfl, rfl, rfl, h⟩
          · have h := h.2 hc
            refine ⟨fun hc => ?_, fun hc => ?_⟩
            · have h := h.1 hc
              show WP l mX12_known (rm d 0 0) noX _ 0 0 23 [(2, t), (0, x1), (0, x2), (0, x3), (3, 0)] [(0, 0)] N Λ τ1
              refine r_if_ne (tgt := 29) d_X12_known_23 rfl (fun hc => absurd hc (by decide)) (fun _ => ?_)
              refine r_bipush (x := (-2)) d_X12_known_26 ⟨by decide, by decide⟩ (by decide) ?_
              exact r_iret d_X12_known_28 rfl rfl (Nat.le_refl 0) (Nat.le_refl 0) ⟨_, rfl, rfl, rfl, h⟩
            · have h := h.2 hc
              show WP l mX12_known (rm d 0 0) noX _ 0 0 23 [(2, t), (0, x1), (0, x2), (0, x3), (3, 0)] [(0, 1)] N Λ τ1
              refine r_if_ne (tgt := 29) d_X12_known_23 rfl (fun _ => ?_) (fun hc => absurd hc (by decide))
              refine r_aload_n (x := t) d_X12_known_29 rfl o_t.1 ?_
              refine r_getf (j := 1) (t := 2) (x := t_rankOf) d_X12_known_30 kX12 (by decide) fl_X12_13 o_t.1 o_t.2.1 o_t.2.2.1 o_t.2.2.2 rfl f_t_rankOf ?_
              refine r_bipush (x := 100) d_X12_known_33 ⟨by decide, by decide⟩ (by decide) ?_
              refine r_iload_n (x := x1) d_X12_known_35 rfl ?_
              refine r_imul d_X12_known_36 ?_
              refine r_bipush (x := 10) d_X12_known_37 ⟨by decide, by decide⟩ (by decide) ?_
              refine r_iload_n (x := x2) d_X12_known_39 rfl ?_
              refine r_imul d_X12_known_40 ?_
              refine r_iadd d_X12_known_41 ?_
              refine r_iload_n (x := x3) d_X12_known_42 rfl ?_
              refine r_iadd d_X12_known_43 ?_
              refine x_iald d_X12_known_44 h.1 ?_
              have h := h.2
              refine x_callSI (Y2 := mX12_sizeOf) (As := [(0, (τ1 t_rankOf (addI (addI (mulI 100 x1) (mulI 10 x2)) x3)))]) (S := []) d_X12_known_45 ok_mX12_sizeOf ml_X12_168 rfl (Nat.le_of_ble_eq_true rfl) (Nat.le_of_ble_eq_true rfl) rfl hd_1 (c_X12_sizeOf (v_X12_sizeOf_0 ?_))
              refine ⟨fun hc => ?_, fun hc => ?_⟩
              · have h := h.1 hc
                show WP l mX12_known (rm d 0 0) noX _ 0 0 48 [(2, t), (0, x1), (0, x2), (0, x3), (3, 0)] [(0, (τ1 t_rankOf (addI (addI (mulI 100 x1) (mulI 10 x2)) x3)))] N Λ τ1
                refine r_nm (fun y2 ey2 => ?_)
                have h := h y2 ey2
                refine r_istore (L2 := [(2, t), (0, x1), (0, x2), (0, x3), (0, y2)]) d_X12_known_48 (by decide) rfl rfl ?_
                refine r_iload (x := y2) d_X12_known_50 rfl ?_
                refine r_if_ne (tgt := 60) d_X12_known_52 rfl (fun hc => ?_) (fun hc => ?_)
                · have h := h.1 hc
                  refine r_aload_n (x := t) d_X12_known_60 rfl o_t.1 ?_
                  refine r_iload (x := y2) d_X12_known_61 rfl ?_
                  refine x_callVI (Y2 := mX12_factOf) (c := t) (As := [(0, y2)]) (S := []) d_X12_known_63 ok_mX12_factOf ml_X12_244 rfl (Nat.le_of_ble_eq_true rfl) (Nat.le_of_ble_eq_true rfl) rfl hd_1 kX12 o_t (CI.mono h (fun v4 σ3 h => ?_))
                  exact r_iret d_X12_known_66 rfl rfl (Nat.le_refl 0) (Nat.le_refl 0) ⟨_, rfl, rfl, rfl, h⟩
                · have h := h.2 hc
                  refine r_bipush (x := (-3)) d_X12_known_55 ⟨by decide, by decide⟩ (by decide) ?_
                  refine r_goto (tgt := 66) d_X12_known_57 rfl ?_
                  exact r_iret d_X12_known_66 rfl rfl (Nat.le_refl 0) (Nat.le_refl 0) ⟨_, rfl, rfl, rfl, h⟩
              · have h := h.2 hc
                show WP l mX12_known (rm d 0 0) noX _ 0 0 48 [(2, t), (0, x1), (0, x2), (0, x3), (3, 0)] [(0, (negI (τ1 t_rankOf (addI (addI (mulI 100 x1) (mulI 10 x2)) x3))))] N Λ τ1
                refine r_nm (fun y5 ey5 => ?_)
                have h := h y5 ey5
                refine r_istore (L2 := [(2, t), (0, x1), (0, x2), (0, x3), (0, y5)]) d_X12_known_48 (by decide) rfl rfl ?_
                refine r_iload (x := y5) d_X12_known_50 rfl ?_
                refine r_if_ne (tgt := 60) d_X12_known_52 rfl (fun hc => ?_) (fun hc => ?_)
                · have h := h.1 hc
                  refine r_aload_n (x := t) d_X12_known_60 rfl o_t.1 ?_
                  refine r_iload (x := y5) d_X12_known_61 rfl ?_
                  refine x_callVI (Y2 := mX12_factOf) (c := t) (As := [(0, y5)]) (S := []) d_X12_known_63 ok_mX12_factOf ml_X12_244 rfl (Nat.le_of_ble_eq_true rfl) (Nat.le_of_ble_eq_true rfl) rfl hd_1 kX12 o_t (CI.mono h (fun v7 σ6 h => ?_))
                  exact r_iret d_X12_known_66 rfl rfl (Nat.le_refl 0) (Nat.le_refl 0) ⟨_, rfl, rfl, rfl, h⟩
                · have h := h.2 hc
                  refine r_bipush (x := (-3)) d_X12_known_55 ⟨by decide, by decide⟩ (by decide) ?_
                  refine r_goto (tgt := 66) d_X12_known_57 rfl ?_
                  exact r_iret d_X12_known_66 rfl rfl (Nat.le_refl 0) (Nat.le_refl 0) ⟨_, rfl, rfl, rfl, h⟩
theorem u_X12_at_0 {l : Launch} {d N : Nat} {Λ : Lay} {P : Int → Mem → Prop} {σ : Mem} {x1 x2 t t_state : Int} (o_t : Ob N Λ t 21 36) (f_t_state : (Λ t).2.2 3 = t_state) (h0d : 2 ≤ d)
    (h : (∀ τ1, τ1 = st σ t 0 0 → (((cmpL x1 0) < 0 → P (-100) τ1) ∧ (¬ ((cmpL x1 0) < 0) → ((0 < (cmpL x1 9) → P (-100) τ1) ∧ (¬ (0 < (cmpL x1 9)) → (((cmpL x2 0) < 0 → P (-100) τ1) ∧ (¬ ((cmpL x2 0) < 0) → ((0 < (cmpL x2 2) → P (-100) τ1) ∧ (¬ (0 < (cmpL x2 2)) → (Ix N Λ t_state 0 (addI (addI 966 (mulI 3 x1)) x2) ∧ P (τ1 t_state (addI (addI 966 (mulI 3 x1)) x2)) τ1))))))))))) :
    WI l mX12_at d P 0 [(2, t), (0, x1), (0, x2)] [] N Λ σ := by
  have hd_1 : 1 ≤ d := Nat.le_trans (by decide) h0d
  have he_1 : 1 ≤ d - 1 := Nat.le_sub_of_add_le (Nat.le_trans (by decide) h0d)
  refine r_aload_n (x := t) d_X12_at_0 rfl o_t.1 ?_
  refine r_iconst (x := 0) d_X12_at_1 ⟨by decide, by decide⟩ ?_
  refine r_putI (j := 0) d_X12_at_2 kX12 (by decide) fl_X12_1 rfl o_t.1 o_t.2.1 o_t.2.2.1 o_t.2.2.2 rfl ?_
  refine r_nmM (fun τ1 eτ1 => ?_)
  have h := h τ1 eτ1
  refine r_iload_n (x := x1) d_X12_at_5 rfl ?_
  refine x_callSI (Y2 := mX12_isLetter) (As := [(0, x1)]) (S := []) d_X12_at_6 ok_mX12_isLetter ml_X12_208 rfl (Nat.le_of_ble_eq_true rfl) (Nat.le_of_ble_eq_true rfl) rfl hd_1 (c_X12_isLetter (v_X12_isLetter_0 he_1 ?_))
  refine ⟨fun hc => ?_, fun hc => ?_⟩
  · have h := h.1 hc
    show WP l mX12_at (rm d 0 0) noX _ 0 0 9 [(2, t), (0, x1), (0, x2)] [(0, 0)] N Λ τ1
    refine r_if_eq (tgt := 41) d_X12_at_9 rfl (fun _ => ?_) (fun hc => absurd hc (by decide))
    refine r_bipush (x := (-100)) d_X12_at_41 ⟨by decide, by decide⟩ (by decide) ?_
    exact r_iret d_X12_at_43 rfl rfl (Nat.le_refl 0) (Nat.le_refl 0) ⟨_, rfl, rfl, rfl, h⟩
  · have h := h.2 hc
    refine ⟨fun hc => ?_, fun hc => ?_⟩
    · have h := h.1 hc
      show WP l mX12_at (rm d 0 0) noX _ 0 0 9 [(2, t), (0, x1), (0, x2)] [(0, 0)] N Λ τ1
      refine r_if_eq (tgt := 41) d_X12_at_9 rfl (fun _ => ?_) (fun hc => absurd hc (by decide))
      refine r_bipush (x := (-100)) d_X12_at_41 ⟨by decide, by decide⟩ (by decide) ?_
      exact r_iret d_X12_at_43 rfl rfl (Nat.le_refl 0) (Nat.le_refl 0) ⟨_, rfl, rfl, rfl, h⟩
    · have h := h.2 hc
      show WP l mX12_at (rm d 0 0) noX _ 0 0 9 [(2, t), (0, x1), (0, x2)] [(0, 1)] N Λ τ1
      refine r_if_eq (tgt := 41) d_X12_at_9 rfl (fun hc => absurd hc (by decide)) (fun _ => ?_)
      refine r_iload_n (x := x2) d_X12_at_12 rfl ?_
      refine r_i2l d_X12_at_13 ?_
      refine r_lconst d_X12_at_14 ?_
      skip
      refine r_ldc2 (x := 2) d_X12_at_15 ck_X12_250 (by decide) ?_
      refine x_callSI (Y2 := mX12_within) (As := [(1, x2), (1, 0), (1, 2)]) (S := []) d_X12_at_18 ok_mX12_within ml_X12_91 rfl (Nat.le_of_ble_eq_true rfl) (Nat.le_of_ble_eq_true rfl) rfl hd_1 (c_X12_within (v_X12_within_0 ?_))
      refine ⟨fun hc => ?_, fun hc => ?_⟩
      · have h := h.1 hc
        show WP l mX12_at (rm d 0 0) noX _ 0 0 21 [(2, t), (0, x1), (0, x2)] [(0, 0)] N Λ τ1
        refine r_if_eq (tgt := 41) d_X12_at_21 rfl (fun _ => ?_) (fun hc => absurd hc (by decide))
        refine r_bipush (x := (-100)) d_X12_at_41 ⟨by decide, by decide⟩ (by decide) ?_
        exact r_iret d_X12_at_43 rfl rfl (Nat.le_refl 0) (Nat.le_refl 0) ⟨_, rfl, rfl, rfl, h⟩
      · have h := h.2 hc
        refine ⟨fun hc => ?_, fun hc => ?_⟩
        · have h := h.1 hc
          show WP l mX12_at (rm d 0 0) noX _ 0 0 21 [(2, t), (0, x1), (0, x2)] [(0, 0)] N Λ τ1
          refine r_if_eq (tgt := 41) d_X12_at_21 rfl (fun _ => ?_) (fun hc => absurd hc (by decide))
          refine r_bipush (x := (-100)) d_X12_at_41 ⟨by decide, by decide⟩ (by decide) ?_
          exact r_iret d_X12_at_43 rfl rfl (Nat.le_refl 0) (Nat.le_refl 0) ⟨_, rfl, rfl, rfl, h⟩
        · have h := h.2 hc
          show WP l mX12_at (rm d 0 0) noX _ 0 0 21 [(2, t), (0, x1), (0, x2)] [(0, 1)] N Λ τ1
          refine r_if_eq (tgt := 41) d_X12_at_21 rfl (fun hc => absurd hc (by decide)) (fun _ => ?_)
          refine r_aload_n (x := t) d_X12_at_24 rfl o_t.1 ?_
          refine r_getf (j := 3) (t := 2) (x := t_state) d_X12_at_25 kX12 (by decide) fl_X12_20 o_t.1 o_t.2.1 o_t.2.2.1 o_t.2.2.2 rfl f_t_state ?_
          refine r_sipush (x := 966) d_X12_at_28 ⟨by decide, by decide⟩ (by decide) ?_
          refine r_iconst (x := 3) d_X12_at_31 ⟨by decide, by decide⟩ ?_
          refine r_iload_n (x := x1) d_X12_at_32 rfl ?_
          refine r_imul d_X12_at_33 ?_
          refine r_iadd d_X12_at_34 ?_
          refine r_iload_n (x := x2) d_X12_at_35 rfl ?_
          refine r_iadd d_X12_at_36 ?_
          refine x_iald d_X12_at_37 h.1 ?_
          have h := h.2
          refine r_goto (tgt := 43) d_X12_at_38 rfl ?_
          exact r_iret d_X12_at_43 rfl rfl (Nat.le_refl 0) (Nat.le_refl 0) ⟨_, rfl, rfl, rfl, h⟩
theorem u_X12_worth_0 {l : Launch} {d N : Nat} {Λ : Lay} {P : Int → Mem → Prop} {σ : Mem} {x1 x2 x3 t : Int} (o_t : Ob N Λ t 21 36) (h0d : 2 ≤ d)
    (h : (∀ τ1, τ1 = st σ t 0 0 → (((cmpL x1 0) < 0 → P (-2147483648) τ1) ∧ (¬ ((cmpL x1 0) < 0) → ((0 < (cmpL x1 9) → P (-2147483648) τ1) ∧ (¬ (0 < (cmpL x1 9)) → (((cmpL x2 0) < 0 → P (-2147483648) τ1) ∧ (¬ ((cmpL x2 0) < 0) → ((0 < (cmpL x2 9) → P (-2147483648) τ1) ∧ (¬ (0 < (cmpL x2 9)) → (((cmpL x3 0) < 0 → P (-2147483648) τ1) ∧ (¬ ((cmpL x3 0) < 0) → ((0 < (cmpL x3 9) → P (-2147483648) τ1) ∧ (¬ (0 < (cmpL x3 9)) → (CI l mX12_worthOf (d - 1) [(2, t), (0, x1), (0, x2), (0, x3)] N Λ τ1 (fun v3 σ2 => P v3 σ2)))))))))))))))) :
    WI l mX12_worth d P 0 [(2, t), (0, x1), (0, x2), (0, x3)] [] N Λ σ := by
  have hd_1 : 1 ≤ d := Nat.le_trans (by decide) h0d
  have he_1 : 1 ≤ d - 1 := Nat.le_sub_of_add_le (Nat.le_trans (by decide) h0d)
  refine r_aload_n (x := t) d_X12_worth_0 rfl o_t.1 ?_
  refine r_iconst (x := 0) d_X12_worth_1 ⟨by decide, by decide⟩ ?_
  refine r_putI (j := 0) d_X12_worth_2 kX12 (by decide) fl_X12_1 rfl o_t.1 o_t.2.1 o_t.2.2.1 o_t.2.2.2 rfl ?_
  refine r_nmM (fun τ1 eτ1 => ?_)
  have h := h τ1 eτ1
  refine r_iload_n (x := x1) d_X12_worth_5 rfl ?_
  refine x_callSI (Y2 := mX12_isLetter) (As := [(0, x1)]) (S := []) d_X12_worth_6 ok_mX12_isLetter ml_X12_208 rfl (Nat.le_of_ble_eq_true rfl) (Nat.le_of_ble_eq_true rfl) rfl hd_1 (c_X12_isLetter (v_X12_isLetter_0 he_1 ?_))
  refine ⟨fun hc => ?_, fun hc => ?_⟩
  · have h := h.1 hc
    show WP l mX12_worth (rm d 0 0) noX _ 0 0 9 [(2, t), (0, x1), (0, x2), (0, x3)] [(0, 0)] N Λ τ1
    refine r_if_eq (tgt := 36) d_X12_worth_9 rfl (fun _ => ?_) (fun hc => absurd hc (by decide))
    refine r_ldcw (x := (-2147483648)) d_X12_worth_36 ck_X12_334 (by decide) ?_
    exact r_iret d_X12_worth_39 rfl rfl (Nat.le_refl 0) (Nat.le_refl 0) ⟨_, rfl, rfl, rfl, h⟩
  · have h := h.2 hc
    refine ⟨fun hc => ?_, fun hc => ?_⟩
    · have h := h.1 hc
      show WP l mX12_worth (rm d 0 0) noX _ 0 0 9 [(2, t), (0, x1), (0, x2), (0, x3)] [(0, 0)] N Λ τ1
      refine r_if_eq (tgt := 36) d_X12_worth_9 rfl (fun _ => ?_) (fun hc => absurd hc (by decide))
      refine r_ldcw (x := (-2147483648)) d_X12_worth_36 ck_X12_334 (by decide) ?_
      exact r_iret d_X12_worth_39 rfl rfl (Nat.le_refl 0) (Nat.le_refl 0) ⟨_, rfl, rfl, rfl, h⟩
    · have h := h.2 hc
      show WP l mX12_worth (rm d 0 0) noX _ 0 0 9 [(2, t), (0, x1), (0, x2), (0, x3)] [(0, 1)] N Λ τ1
      refine r_if_eq (tgt := 36) d_X12_worth_9 rfl (fun hc => absurd hc (by decide)) (fun _ => ?_)
      refine r_iload_n (x := x2) d_X12_worth_12 rfl ?_
      refine x_callSI (Y2 := mX12_isLetter) (As := [(0, x2)]) (S := []) d_X12_worth_13 ok_mX12_isLetter ml_X12_208 rfl (Nat.le_of_ble_eq_true rfl) (Nat.le_of_ble_eq_true rfl) rfl hd_1 (c_X12_isLetter (v_X12_isLetter_0 he_1 ?_))
      refine ⟨fun hc => ?_, fun hc => ?_⟩
      · have h := h.1 hc
        show WP l mX12_worth (rm d 0 0) noX _ 0 0 16 [(2, t), (0, x1), (0, x2), (0, x3)] [(0, 0)] N Λ τ1
        refine r_if_eq (tgt := 36) d_X12_worth_16 rfl (fun _ => ?_) (fun hc => absurd hc (by decide))
        refine r_ldcw (x := (-2147483648)) d_X12_worth_36 ck_X12_334 (by decide) ?_
        exact r_iret d_X12_worth_39 rfl rfl (Nat.le_refl 0) (Nat.le_refl 0) ⟨_, rfl, rfl, rfl, h⟩
      · have h := h.2 hc
        refine ⟨fun hc => ?_, fun hc => ?_⟩
        · have h := h.1 hc
          show WP l mX12_worth (rm d 0 0) noX _ 0 0 16 [(2, t), (0, x1), (0, x2), (0, x3)] [(0, 0)] N Λ τ1
          refine r_if_eq (tgt := 36) d_X12_worth_16 rfl (fun _ => ?_) (fun hc => absurd hc (by decide))
          refine r_ldcw (x := (-2147483648)) d_X12_worth_36 ck_X12_334 (by decide) ?_
          exact r_iret d_X12_worth_39 rfl rfl (Nat.le_refl 0) (Nat.le_refl 0) ⟨_, rfl, rfl, rfl, h⟩
        · have h := h.2 hc
          show WP l mX12_worth (rm d 0 0) noX _ 0 0 16 [(2, t), (0, x1), (0, x2), (0, x3)] [(0, 1)] N Λ τ1
          refine r_if_eq (tgt := 36) d_X12_worth_16 rfl (fun hc => absurd hc (by decide)) (fun _ => ?_)
          refine r_iload_n (x := x3) d_X12_worth_19 rfl ?_
          refine x_callSI (Y2 := mX12_isLetter) (As := [(0, x3)]) (S := []) d_X12_worth_20 ok_mX12_isLetter ml_X12_208 rfl (Nat.le_of_ble_eq_true rfl) (Nat.le_of_ble_eq_true rfl) rfl hd_1 (c_X12_isLetter (v_X12_isLetter_0 he_1 ?_))
          refine ⟨fun hc => ?_, fun hc => ?_⟩
          · have h := h.1 hc
            show WP l mX12_worth (rm d 0 0) noX _ 0 0 23 [(2, t), (0, x1), (0, x2), (0, x3)] [(0, 0)] N Λ τ1
            refine r_if_eq (tgt := 36) d_X12_worth_23 rfl (fun _ => ?_) (fun hc => absurd hc (by decide))
            refine r_ldcw (x := (-2147483648)) d_X12_worth_36 ck_X12_334 (by decide) ?_
            exact r_iret d_X12_worth_39 rfl rfl (Nat.le_refl 0) (Nat.le_refl 0) ⟨_, rfl, rfl, rfl, h⟩
          · have h := h.2 hc
            refine ⟨fun hc => ?_, fun hc => ?_⟩
            · have h := h.1 hc
              show WP l mX12_worth (rm d 0 0) noX _ 0 0 23 [(2, t), (0, x1), (0, x2), (0, x3)] [(0, 0)] N Λ τ1
              refine r_if_eq (tgt := 36) d_X12_worth_23 rfl (fun _ => ?_) (fun hc => absurd hc (by decide))
              refine r_ldcw (x := (-2147483648)) d_X12_worth_36 ck_X12_334 (by decide) ?_
              exact r_iret d_X12_worth_39 rfl rfl (Nat.le_refl 0) (Nat.le_refl 0) ⟨_, rfl, rfl, rfl, h⟩
            · have h := h.2 hc
              show WP l mX12_worth (rm d 0 0) noX _ 0 0 23 [(2, t), (0, x1), (0, x2), (0, x3)] [(0, 1)] N Λ τ1
              refine r_if_eq (tgt := 36) d_X12_worth_23 rfl (fun hc => absurd hc (by decide)) (fun _ => ?_)
              refine r_aload_n (x := t) d_X12_worth_26 rfl o_t.1 ?_
              refine r_iload_n (x := x1) d_X12_worth_27 rfl ?_
              refine r_iload_n (x := x2) d_X12_worth_28 rfl ?_
              refine r_iload_n (x := x3) d_X12_worth_29 rfl ?_
              refine x_callVI (Y2 := mX12_worthOf) (c := t) (As := [(0, x1), (0, x2), (0, x3)]) (S := []) d_X12_worth_30 ok_mX12_worthOf ml_X12_412 rfl (Nat.le_of_ble_eq_true rfl) (Nat.le_of_ble_eq_true rfl) rfl hd_1 kX12 o_t (CI.mono h (fun v3 σ2 h => ?_))
              refine r_goto (tgt := 39) d_X12_worth_33 rfl ?_
              exact r_iret d_X12_worth_39 rfl rfl (Nat.le_refl 0) (Nat.le_refl 0) ⟨_, rfl, rfl, rfl, h⟩
theorem u_X12_value_0 {l : Launch} {d N : Nat} {Λ : Lay} {P : Int → Mem → Prop} {σ : Mem} {x1 t : Int} (o_t : Ob N Λ t 21 36) (h0d : 2 ≤ d)
    (h : (∀ τ1, τ1 = st σ t 0 0 → (((cmpL x1 0) < 0 → P (-9223372036854775808) τ1) ∧ (¬ ((cmpL x1 0) < 0) → ((0 < (cmpL x1 5) → P (-9223372036854775808) τ1) ∧ (¬ (0 < (cmpL x1 5)) → WL l mX12_value d P 21 [(2, t), (0, x1), (1, 0), (3, 0), (0, 0), (3, 0), (3, 0), (3, 0), (3, 0), (3, 0), (3, 0)] [] N Λ τ1)))))) :
    WL l mX12_value d P 0 [(2, t), (0, x1), (3, 0), (3, 0), (3, 0), (3, 0), (3, 0), (3, 0), (3, 0), (3, 0), (3, 0)] [] N Λ σ := by
  have hd_1 : 1 ≤ d := Nat.le_trans (by decide) h0d
  have he_1 : 1 ≤ d - 1 := Nat.le_sub_of_add_le (Nat.le_trans (by decide) h0d)
  refine r_aload_n (x := t) d_X12_value_0 rfl o_t.1 ?_
  refine r_iconst (x := 0) d_X12_value_1 ⟨by decide, by decide⟩ ?_
  refine r_putI (j := 0) d_X12_value_2 kX12 (by decide) fl_X12_1 rfl o_t.1 o_t.2.1 o_t.2.2.1 o_t.2.2.2 rfl ?_
  refine r_nmM (fun τ1 eτ1 => ?_)
  have h := h τ1 eτ1
  refine r_iload_n (x := x1) d_X12_value_5 rfl ?_
  refine x_callSI (Y2 := mX12_isShelf) (As := [(0, x1)]) (S := []) d_X12_value_6 ok_mX12_isShelf ml_X12_199 rfl (Nat.le_of_ble_eq_true rfl) (Nat.le_of_ble_eq_true rfl) rfl hd_1 (c_X12_isShelf (v_X12_isShelf_0 he_1 ?_))
  refine ⟨fun hc => ?_, fun hc => ?_⟩
  · have h := h.1 hc
    show WP l mX12_value (rm d 0 0) noX _ 0 0 9 [(2, t), (0, x1), (3, 0), (3, 0), (3, 0), (3, 0), (3, 0), (3, 0), (3, 0), (3, 0), (3, 0)] [(0, 0)] N Λ τ1
    refine r_if_ne (tgt := 16) d_X12_value_9 rfl (fun hc => absurd hc (by decide)) (fun _ => ?_)
    refine r_ldc2 (x := (-9223372036854775808)) d_X12_value_12 ck_X12_416 (by decide) ?_
    exact r_lret d_X12_value_15 rfl (Nat.le_refl 0) (Nat.le_refl 0) ⟨_, rfl, rfl, rfl, h⟩
  · have h := h.2 hc
    refine ⟨fun hc => ?_, fun hc => ?_⟩
    · have h := h.1 hc
      show WP l mX12_value (rm d 0 0) noX _ 0 0 9 [(2, t), (0, x1), (3, 0), (3, 0), (3, 0), (3, 0), (3, 0), (3, 0), (3, 0), (3, 0), (3, 0)] [(0, 0)] N Λ τ1
      refine r_if_ne (tgt := 16) d_X12_value_9 rfl (fun hc => absurd hc (by decide)) (fun _ => ?_)
      refine r_ldc2 (x := (-9223372036854775808)) d_X12_value_12 ck_X12_416 (by decide) ?_
      exact r_lret d_X12_value_15 rfl (Nat.le_refl 0) (Nat.le_refl 0) ⟨_, rfl, rfl, rfl, h⟩
    · have h := h.2 hc
      show WP l mX12_value (rm d 0 0) noX _ 0 0 9 [(2, t), (0, x1), (3, 0), (3, 0), (3, 0), (3, 0), (3, 0), (3, 0), (3, 0), (3, 0), (3, 0)] [(0, 1)] N Λ τ1
      refine r_if_ne (tgt := 16) d_X12_value_9 rfl (fun _ => ?_) (fun hc => absurd hc (by decide))
      refine r_lconst d_X12_value_16 ?_
      skip
      refine r_lstore_n (L2 := [(2, t), (0, x1), (1, 0), (3, 0), (3, 0), (3, 0), (3, 0), (3, 0), (3, 0), (3, 0), (3, 0)]) d_X12_value_17 (by decide) rfl rfl ?_
      refine r_iconst (x := 0) d_X12_value_18 ⟨by decide, by decide⟩ ?_
      refine r_istore (L2 := [(2, t), (0, x1), (1, 0), (3, 0), (0, 0), (3, 0), (3, 0), (3, 0), (3, 0), (3, 0), (3, 0)]) d_X12_value_19 (by decide) rfl rfl ?_
      exact h
theorem u_X12_value_21 {l : Launch} {d N : Nat} {Λ : Lay} {P : Int → Mem → Prop} {σ : Mem} {x1 x2 x4 t t_state : Int} (o_t : Ob N Λ t 21 36) (f_t_state : (Λ t).2.2 3 = t_state) (h0d : 1 ≤ d)
    (h : (Ix N Λ t_state 0 (mulI 161 x1) ∧ (((σ t_state (mulI 161 x1)) ≤ x4 → P x2 σ) ∧ (¬ ((σ t_state (mulI 161 x1)) ≤ x4) → (CI l mX12_keyOn (d - 1) [(2, t_state), (0, x1), (0, x4)] N Λ σ (fun v2 σ1 => (Ix N Λ t_state 0 (addI (addI (mulI 161 x1) 2) (mulI 2 x4)) ∧ (∀ y3, y3 = (σ1 t_state (addI (addI (mulI 161 x1) 2) (mulI 2 x4))) → WL l mX12_value d P 71 [(2, t), (0, x1), (1, x2), (3, 0), (0, x4), (0, v2), (1, y3), (3, 0), (0, 0), (3, 0), (3, 0)] [] N Λ σ1)))))))) :
    WL l mX12_value d P 21 [(2, t), (0, x1), (1, x2), (3, 0), (0, x4), (3, 0), (3, 0), (3, 0), (3, 0), (3, 0), (3, 0)] [] N Λ σ := by
  have hd_1 : 1 ≤ d := Nat.le_trans (by decide) h0d
  refine r_iload (x := x4) d_X12_value_21 rfl ?_
  refine r_aload_n (x := t) d_X12_value_23 rfl o_t.1 ?_
  refine r_getf (j := 3) (t := 2) (x := t_state) d_X12_value_24 kX12 (by decide) fl_X12_20 o_t.1 o_t.2.1 o_t.2.2.1 o_t.2.2.2 rfl f_t_state ?_
  refine r_sipush (x := 161) d_X12_value_27 ⟨by decide, by decide⟩ (by decide) ?_
  refine r_iload_n (x := x1) d_X12_value_30 rfl ?_
  refine r_imul d_X12_value_31 ?_
  refine x_iald d_X12_value_32 h.1 ?_
  have h := h.2
  refine r_ic_ge (tgt := 165) d_X12_value_33 rfl (fun hc => ?_) (fun hc => ?_)
  · have h := h.1 hc
    refine r_lload_n (x := x2) d_X12_value_165 rfl ?_
    exact r_lret d_X12_value_166 rfl (Nat.le_refl 0) (Nat.le_refl 0) ⟨_, rfl, rfl, rfl, h⟩
  · have h := h.2 hc
    refine r_aload_n (x := t) d_X12_value_36 rfl o_t.1 ?_
    refine r_getf (j := 3) (t := 2) (x := t_state) d_X12_value_37 kX12 (by decide) fl_X12_20 o_t.1 o_t.2.1 o_t.2.2.1 o_t.2.2.2 rfl f_t_state ?_
    refine r_iload_n (x := x1) d_X12_value_40 rfl ?_
    refine r_iload (x := x4) d_X12_value_41 rfl ?_
    refine x_callSI (Y2 := mX12_keyOn) (As := [(2, t_state), (0, x1), (0, x4)]) (S := []) d_X12_value_43 ok_mX12_keyOn ml_X12_339 rfl (Nat.le_of_ble_eq_true rfl) (Nat.le_of_ble_eq_true rfl) rfl hd_1 (CI.mono h (fun v2 σ1 h => ?_))
    refine r_istore (L2 := [(2, t), (0, x1), (1, x2), (3, 0), (0, x4), (0, v2), (3, 0), (3, 0), (3, 0), (3, 0), (3, 0)]) d_X12_value_46 (by decide) rfl rfl ?_
    refine r_aload_n (x := t) d_X12_value_48 rfl o_t.1 ?_
    refine r_getf (j := 3) (t := 2) (x := t_state) d_X12_value_49 kX12 (by decide) fl_X12_20 o_t.1 o_t.2.1 o_t.2.2.1 o_t.2.2.2 rfl f_t_state ?_
    refine r_sipush (x := 161) d_X12_value_52 ⟨by decide, by decide⟩ (by decide) ?_
    refine r_iload_n (x := x1) d_X12_value_55 rfl ?_
    refine r_imul d_X12_value_56 ?_
    refine r_iconst (x := 2) d_X12_value_57 ⟨by decide, by decide⟩ ?_
    refine r_iadd d_X12_value_58 ?_
    refine r_iconst (x := 2) d_X12_value_59 ⟨by decide, by decide⟩ ?_
    refine r_iload (x := x4) d_X12_value_60 rfl ?_
    refine r_imul d_X12_value_62 ?_
    refine r_iadd d_X12_value_63 ?_
    refine x_iald d_X12_value_64 h.1 ?_
    have h := h.2
    refine r_i2l d_X12_value_65 ?_
    refine r_nm (fun y3 ey3 => ?_)
    have h := h y3 ey3
    refine r_lstore (L2 := [(2, t), (0, x1), (1, x2), (3, 0), (0, x4), (0, v2), (1, y3), (3, 0), (3, 0), (3, 0), (3, 0)]) d_X12_value_66 (by decide) rfl rfl ?_
    refine r_iconst (x := 0) d_X12_value_68 ⟨by decide, by decide⟩ ?_
    refine r_istore (L2 := [(2, t), (0, x1), (1, x2), (3, 0), (0, x4), (0, v2), (1, y3), (3, 0), (0, 0), (3, 0), (3, 0)]) d_X12_value_69 (by decide) rfl rfl ?_
    exact h
theorem u_X12_value_71 {l : Launch} {d N : Nat} {Λ : Lay} {P : Int → Mem → Prop} {σ : Mem} {x1 x2 x4 x5 x6 x8 t : Int} (o_t : Ob N Λ t 21 36) (h0d : 1 ≤ d)
    (h : (CI l mX12_degreeOf (d - 1) [(0, x5)] N Λ σ (fun v2 σ1 => ((v2 ≤ x8 → (∀ y3, y3 = (addL x2 x6) → (((cmpL x6 0) ≤ 0 → (((cmpL y3 x2) ≤ 0 → (∀ y4, y4 = addI x4 1 → WL l mX12_value d P 21 [(2, t), (0, x1), (1, y3), (3, 0), (0, y4), (3, 0), (3, 0), (3, 0), (3, 0), (3, 0), (3, 0)] [] N Λ σ1)) ∧ (¬ ((cmpL y3 x2) ≤ 0) → P (-9223372036854775808) σ1))) ∧ (¬ ((cmpL x6 0) ≤ 0) → ((0 ≤ (cmpL y3 x2) → (∀ y5, y5 = addI x4 1 → WL l mX12_value d P 21 [(2, t), (0, x1), (1, y3), (3, 0), (0, y5), (3, 0), (3, 0), (3, 0), (3, 0), (3, 0), (3, 0)] [] N Λ σ1)) ∧ (¬ (0 ≤ (cmpL y3 x2)) → P (-9223372036854775808) σ1)))))) ∧ (¬ (v2 ≤ x8) → (CI l mX12_rankIn (d - 1) [(0, x5), (0, x8)] N Λ σ1 (fun v7 σ6 => (CI l mX12_worthOfRank (d - 1) [(2, t), (0, v7)] N Λ σ6 (fun v9 σ8 => (CI l mX12_fits (d - 1) [(1, x6), (1, v9)] N Λ σ8 (fun v11 σ10 => ((¬ v11 = 0 → (∀ y12, y12 = (mulL x6 v9) → (∀ y13, y13 = addI x8 1 → WL l mX12_value d P 71 [(2, t), (0, x1), (1, x2), (3, 0), (0, x4), (0, x5), (1, y12), (3, 0), (0, y13), (3, 0), (3, 0)] [] N Λ σ10))) ∧ (v11 = 0 → P (-9223372036854775808) σ10))))))))))))) :
    WL l mX12_value d P 71 [(2, t), (0, x1), (1, x2), (3, 0), (0, x4), (0, x5), (1, x6), (3, 0), (0, x8), (3, 0), (3, 0)] [] N Λ σ := by
  have hd_1 : 1 ≤ d := Nat.le_trans (by decide) h0d
  refine r_iload (x := x8) d_X12_value_71 rfl ?_
  refine r_iload (x := x5) d_X12_value_73 rfl ?_
  refine x_callSI (Y2 := mX12_degreeOf) (As := [(0, x5)]) (S := [(0, x8)]) d_X12_value_75 ok_mX12_degreeOf ml_X12_138 rfl (Nat.le_of_ble_eq_true rfl) (Nat.le_of_ble_eq_true rfl) rfl hd_1 (CI.mono h (fun v2 σ1 h => ?_))
  refine r_ic_ge (tgt := 122) d_X12_value_78 rfl (fun hc => ?_) (fun hc => ?_)
  · have h := h.1 hc
    refine r_lload_n (x := x2) d_X12_value_122 rfl ?_
    refine r_lload (x := x6) d_X12_value_123 rfl ?_
    refine r_ladd d_X12_value_125 ?_
    refine r_nm (fun y3 ey3 => ?_)
    have h := h y3 ey3
    refine r_lstore (L2 := [(2, t), (0, x1), (1, x2), (3, 0), (0, x4), (0, x5), (1, x6), (3, 0), (1, y3), (3, 0), (3, 0)]) d_X12_value_126 (by decide) rfl rfl ?_
    refine r_lload (x := x6) d_X12_value_128 rfl ?_
    refine r_lconst d_X12_value_130 ?_
    skip
    refine r_lcmp d_X12_value_131 ?_
    refine r_if_le (tgt := 145) d_X12_value_132 rfl (fun hc => ?_) (fun hc => ?_)
    · have h := h.1 hc
      refine r_lload (x := y3) d_X12_value_145 rfl ?_
      refine r_lload_n (x := x2) d_X12_value_147 rfl ?_
      refine r_lcmp d_X12_value_148 ?_
      refine r_if_le (tgt := 156) d_X12_value_149 rfl (fun hc => ?_) (fun hc => ?_)
      · have h := h.1 hc
        refine r_lload (x := y3) d_X12_value_156 rfl ?_
        refine r_lstore_n (L2 := [(2, t), (0, x1), (1, y3), (3, 0), (0, x4), (0, x5), (1, x6), (3, 0), (1, y3), (3, 0), (3, 0)]) d_X12_value_158 (by decide) rfl rfl ?_
        refine x_iinc (x := x4) (L := [(2, t), (0, x1), (1, y3), (3, 0), (0, x4), (0, x5), (1, x6), (3, 0), (1, y3), (3, 0), (3, 0)]) d_X12_value_159 rfl (by decide) rfl (fun y4 ey4 => ?_)
        have h := h y4 ey4
        show WP _ _ _ _ _ _ _ _ [(2, t), (0, x1), (1, y3), (3, 0), (0, y4), (0, x5), (1, x6), (3, 0), (1, y3), (3, 0), (3, 0)] _ _ _ _
        refine r_goto (tgt := 21) d_X12_value_162 rfl ?_
        exact x_mask h ⟨Or.inr rfl, Or.inr rfl, Or.inr rfl, Or.inl rfl, Or.inr rfl, Or.inl rfl, Or.inl rfl, Or.inl rfl, Or.inl rfl, Or.inl rfl, Or.inl rfl, trivial⟩
      · have h := h.2 hc
        refine r_ldc2 (x := (-9223372036854775808)) d_X12_value_152 ck_X12_416 (by decide) ?_
        exact r_lret d_X12_value_155 rfl (Nat.le_refl 0) (Nat.le_refl 0) ⟨_, rfl, rfl, rfl, h⟩
    · have h := h.2 hc
      refine r_lload (x := y3) d_X12_value_135 rfl ?_
      refine r_lload_n (x := x2) d_X12_value_137 rfl ?_
      refine r_lcmp d_X12_value_138 ?_
      refine r_if_ge (tgt := 156) d_X12_value_139 rfl (fun hc => ?_) (fun hc => ?_)
      · have h := h.1 hc
        refine r_lload (x := y3) d_X12_value_156 rfl ?_
        refine r_lstore_n (L2 := [(2, t), (0, x1), (1, y3), (3, 0), (0, x4), (0, x5), (1, x6), (3, 0), (1, y3), (3, 0), (3, 0)]) d_X12_value_158 (by decide) rfl rfl ?_
        refine x_iinc (x := x4) (L := [(2, t), (0, x1), (1, y3), (3, 0), (0, x4), (0, x5), (1, x6), (3, 0), (1, y3), (3, 0), (3, 0)]) d_X12_value_159 rfl (by decide) rfl (fun y5 ey5 => ?_)
        have h := h y5 ey5
        show WP _ _ _ _ _ _ _ _ [(2, t), (0, x1), (1, y3), (3, 0), (0, y5), (0, x5), (1, x6), (3, 0), (1, y3), (3, 0), (3, 0)] _ _ _ _
        refine r_goto (tgt := 21) d_X12_value_162 rfl ?_
        exact x_mask h ⟨Or.inr rfl, Or.inr rfl, Or.inr rfl, Or.inl rfl, Or.inr rfl, Or.inl rfl, Or.inl rfl, Or.inl rfl, Or.inl rfl, Or.inl rfl, Or.inl rfl, trivial⟩
      · have h := h.2 hc
        refine r_goto (tgt := 152) d_X12_value_142 rfl ?_
        refine r_ldc2 (x := (-9223372036854775808)) d_X12_value_152 ck_X12_416 (by decide) ?_
        exact r_lret d_X12_value_155 rfl (Nat.le_refl 0) (Nat.le_refl 0) ⟨_, rfl, rfl, rfl, h⟩
  · have h := h.2 hc
    refine r_aload_n (x := t) d_X12_value_81 rfl o_t.1 ?_
    refine r_iload (x := x5) d_X12_value_82 rfl ?_
    refine r_iload (x := x8) d_X12_value_84 rfl ?_
    refine x_callSI (Y2 := mX12_rankIn) (As := [(0, x5), (0, x8)]) (S := [(2, t)]) d_X12_value_86 ok_mX12_rankIn ml_X12_135 rfl (Nat.le_of_ble_eq_true rfl) (Nat.le_of_ble_eq_true rfl) rfl hd_1 (CI.mono h (fun v7 σ6 h => ?_))
    refine x_callVI (Y2 := mX12_worthOfRank) (c := t) (As := [(0, v7)]) (S := []) d_X12_value_89 ok_mX12_worthOfRank ml_X12_418 rfl (Nat.le_of_ble_eq_true rfl) (Nat.le_of_ble_eq_true rfl) rfl hd_1 kX12 o_t (CI.mono h (fun v9 σ8 h => ?_))
    refine r_i2l d_X12_value_92 ?_
    refine r_lstore (L2 := [(2, t), (0, x1), (1, x2), (3, 0), (0, x4), (0, x5), (1, x6), (3, 0), (0, x8), (1, v9), (3, 0)]) d_X12_value_93 (by decide) rfl rfl ?_
    refine r_lload (x := x6) d_X12_value_95 rfl ?_
    refine r_lload (x := v9) d_X12_value_97 rfl ?_
    refine x_callSI (Y2 := mX12_fits) (As := [(1, x6), (1, v9)]) (S := []) d_X12_value_99 ok_mX12_fits ml_X12_421 rfl (Nat.le_of_ble_eq_true rfl) (Nat.le_of_ble_eq_true rfl) rfl hd_1 (CI.mono h (fun v11 σ10 h => ?_))
    refine r_if_ne (tgt := 109) d_X12_value_102 rfl (fun hc => ?_) (fun hc => ?_)
    · have h := h.1 hc
      refine r_lload (x := x6) d_X12_value_109 rfl ?_
      refine r_lload (x := v9) d_X12_value_111 rfl ?_
      refine r_lmul d_X12_value_113 ?_
      refine r_nm (fun y12 ey12 => ?_)
      have h := h y12 ey12
      refine r_lstore (L2 := [(2, t), (0, x1), (1, x2), (3, 0), (0, x4), (0, x5), (1, y12), (3, 0), (0, x8), (1, v9), (3, 0)]) d_X12_value_114 (by decide) rfl rfl ?_
      refine x_iinc (x := x8) (L := [(2, t), (0, x1), (1, x2), (3, 0), (0, x4), (0, x5), (1, y12), (3, 0), (0, x8), (1, v9), (3, 0)]) d_X12_value_116 rfl (by decide) rfl (fun y13 ey13 => ?_)
      have h := h y13 ey13
      show WP _ _ _ _ _ _ _ _ [(2, t), (0, x1), (1, x2), (3, 0), (0, x4), (0, x5), (1, y12), (3, 0), (0, y13), (1, v9), (3, 0)] _ _ _ _
      refine r_goto (tgt := 71) d_X12_value_119 rfl ?_
      exact x_mask h ⟨Or.inr rfl, Or.inr rfl, Or.inr rfl, Or.inl rfl, Or.inr rfl, Or.inr rfl, Or.inr rfl, Or.inl rfl, Or.inr rfl, Or.inl rfl, Or.inl rfl, trivial⟩
    · have h := h.2 hc
      refine r_ldc2 (x := (-9223372036854775808)) d_X12_value_105 ck_X12_416 (by decide) ?_
      exact r_lret d_X12_value_108 rfl (Nat.le_refl 0) (Nat.le_refl 0) ⟨_, rfl, rfl, rfl, h⟩
theorem u_X12_undo_0 {l : Launch} {d N : Nat} {Λ : Lay} {P : Int → Mem → Prop} {σ : Mem} {x1 t t_deeds t_state : Int} (o_t : Ob N Λ t 21 36) (f_t_deeds : (Λ t).2.2 4 = t_deeds) (f_t_state : (Λ t).2.2 3 = t_state) (h0d : 1 ≤ d)
    (h : (∀ τ1, τ1 = st σ t 0 0 → (((cmpL x1 1) < 0 → P (-3) τ1) ∧ (¬ ((cmpL x1 1) < 0) → ((0 < (cmpL x1 10) → P (-3) τ1) ∧ (¬ (0 < (cmpL x1 10)) → ((x1 ≤ (τ1 t 5) → (∀ τ2, τ2 = st τ1 t 5 (subI (τ1 t 5) x1) → (CV l mX12_copies (d - 1) [(2, t_deeds), (0, (mulI 1116 (τ2 t 5))), (2, t_state), (0, 0), (0, 1116)] N Λ τ2 (fun σ3 => P (σ3 t 5) σ3)))) ∧ (¬ (x1 ≤ (τ1 t 5)) → P (-3) τ1)))))))) :
    WI l mX12_undo d P 0 [(2, t), (0, x1)] [] N Λ σ := by
  have hd_1 : 1 ≤ d := Nat.le_trans (by decide) h0d
  refine r_aload_n (x := t) d_X12_undo_0 rfl o_t.1 ?_
  refine r_iconst (x := 0) d_X12_undo_1 ⟨by decide, by decide⟩ ?_
  refine r_putI (j := 0) d_X12_undo_2 kX12 (by decide) fl_X12_1 rfl o_t.1 o_t.2.1 o_t.2.2.1 o_t.2.2.2 rfl ?_
  refine r_nmM (fun τ1 eτ1 => ?_)
  have h := h τ1 eτ1
  refine r_iload_n (x := x1) d_X12_undo_5 rfl ?_
  refine r_i2l d_X12_undo_6 ?_
  refine r_lconst d_X12_undo_7 ?_
  skip
  refine r_ldc2 (x := 10) d_X12_undo_8 ck_X12_335 (by decide) ?_
  refine x_callSI (Y2 := mX12_within) (As := [(1, x1), (1, 1), (1, 10)]) (S := []) d_X12_undo_11 ok_mX12_within ml_X12_91 rfl (Nat.le_of_ble_eq_true rfl) (Nat.le_of_ble_eq_true rfl) rfl hd_1 (c_X12_within (v_X12_within_0 ?_))
  refine ⟨fun hc => ?_, fun hc => ?_⟩
  · have h := h.1 hc
    show WP l mX12_undo (rm d 0 0) noX _ 0 0 14 [(2, t), (0, x1)] [(0, 0)] N Λ τ1
    refine r_if_eq (tgt := 25) d_X12_undo_14 rfl (fun _ => ?_) (fun hc => absurd hc (by decide))
    refine r_bipush (x := (-3)) d_X12_undo_25 ⟨by decide, by decide⟩ (by decide) ?_
    exact r_iret d_X12_undo_27 rfl rfl (Nat.le_refl 0) (Nat.le_refl 0) ⟨_, rfl, rfl, rfl, h⟩
  · have h := h.2 hc
    refine ⟨fun hc => ?_, fun hc => ?_⟩
    · have h := h.1 hc
      show WP l mX12_undo (rm d 0 0) noX _ 0 0 14 [(2, t), (0, x1)] [(0, 0)] N Λ τ1
      refine r_if_eq (tgt := 25) d_X12_undo_14 rfl (fun _ => ?_) (fun hc => absurd hc (by decide))
      refine r_bipush (x := (-3)) d_X12_undo_25 ⟨by decide, by decide⟩ (by decide) ?_
      exact r_iret d_X12_undo_27 rfl rfl (Nat.le_refl 0) (Nat.le_refl 0) ⟨_, rfl, rfl, rfl, h⟩
    · have h := h.2 hc
      show WP l mX12_undo (rm d 0 0) noX _ 0 0 14 [(2, t), (0, x1)] [(0, 1)] N Λ τ1
      refine r_if_eq (tgt := 25) d_X12_undo_14 rfl (fun hc => absurd hc (by decide)) (fun _ => ?_)
      refine r_iload_n (x := x1) d_X12_undo_17 rfl ?_
      refine r_aload_n (x := t) d_X12_undo_18 rfl o_t.1 ?_
      refine r_getf (j := 5) (t := 0) (x := (τ1 t 5)) d_X12_undo_19 kX12 (by decide) fl_X12_95 o_t.1 o_t.2.1 o_t.2.2.1 o_t.2.2.2 rfl rfl ?_
      refine r_ic_le (tgt := 28) d_X12_undo_22 rfl (fun hc => ?_) (fun hc => ?_)
      · have h := h.1 hc
        refine r_aload_n (x := t) d_X12_undo_28 rfl o_t.1 ?_
        refine r_dup d_X12_undo_29 rfl ?_
        refine r_getf (j := 5) (t := 0) (x := (τ1 t 5)) d_X12_undo_30 kX12 (by decide) fl_X12_95 o_t.1 o_t.2.1 o_t.2.2.1 o_t.2.2.2 rfl rfl ?_
        refine r_iload_n (x := x1) d_X12_undo_33 rfl ?_
        refine r_isub d_X12_undo_34 ?_
        refine r_putI (j := 5) d_X12_undo_35 kX12 (by decide) fl_X12_95 rfl o_t.1 o_t.2.1 o_t.2.2.1 o_t.2.2.2 rfl ?_
        refine r_nmM (fun τ2 eτ2 => ?_)
        have h := h τ2 eτ2
        refine r_aload_n (x := t) d_X12_undo_38 rfl o_t.1 ?_
        refine r_getf (j := 4) (t := 2) (x := t_deeds) d_X12_undo_39 kX12 (by decide) fl_X12_23 o_t.1 o_t.2.1 o_t.2.2.1 o_t.2.2.2 rfl f_t_deeds ?_
        refine r_sipush (x := 1116) d_X12_undo_42 ⟨by decide, by decide⟩ (by decide) ?_
        refine r_aload_n (x := t) d_X12_undo_45 rfl o_t.1 ?_
        refine r_getf (j := 5) (t := 0) (x := (τ2 t 5)) d_X12_undo_46 kX12 (by decide) fl_X12_95 o_t.1 o_t.2.1 o_t.2.2.1 o_t.2.2.2 rfl rfl ?_
        refine r_imul d_X12_undo_49 ?_
        refine r_aload_n (x := t) d_X12_undo_50 rfl o_t.1 ?_
        refine r_getf (j := 3) (t := 2) (x := t_state) d_X12_undo_51 kX12 (by decide) fl_X12_20 o_t.1 o_t.2.1 o_t.2.2.1 o_t.2.2.2 rfl f_t_state ?_
        refine r_iconst (x := 0) d_X12_undo_54 ⟨by decide, by decide⟩ ?_
        refine r_sipush (x := 1116) d_X12_undo_55 ⟨by decide, by decide⟩ (by decide) ?_
        refine x_callSV (Y2 := mX12_copies) (As := [(2, t_deeds), (0, (mulI 1116 (τ2 t 5))), (2, t_state), (0, 0), (0, 1116)]) (S := []) d_X12_undo_58 ok_mX12_copies ml_X12_98 rfl (Nat.le_of_ble_eq_true rfl) (Nat.le_of_ble_eq_true rfl) rfl hd_1 (CV.mono h (fun σ3 h => ?_))
        refine r_aload_n (x := t) d_X12_undo_61 rfl o_t.1 ?_
        refine r_getf (j := 5) (t := 0) (x := (σ3 t 5)) d_X12_undo_62 kX12 (by decide) fl_X12_95 o_t.1 o_t.2.1 o_t.2.2.1 o_t.2.2.2 rfl rfl ?_
        exact r_iret d_X12_undo_65 rfl rfl (Nat.le_refl 0) (Nat.le_refl 0) ⟨_, rfl, rfl, rfl, h⟩
      · have h := h.2 hc
        refine r_bipush (x := (-3)) d_X12_undo_25 ⟨by decide, by decide⟩ (by decide) ?_
        exact r_iret d_X12_undo_27 rfl rfl (Nat.le_refl 0) (Nat.le_refl 0) ⟨_, rfl, rfl, rfl, h⟩
theorem u_X12_image_0 {l : Launch} {d N : Nat} {Λ : Lay} {P : Int → Mem → Prop} {σ : Mem} {x1 t t_hasImage t_state : Int} (o_t : Ob N Λ t 21 36) (f_t_state : (Λ t).2.2 3 = t_state) (f_t_hasImage : (Λ t).2.2 6 = t_hasImage) (h0d : 1 ≤ d)
    (h : (∀ τ1, τ1 = st σ t 0 0 → (((cmpL x1 0) < 0 → P (-2) τ1) ∧ (¬ ((cmpL x1 0) < 0) → ((0 < (cmpL x1 1) → P (-2) τ1) ∧ (¬ (0 < (cmpL x1 1)) → (CV l mX12_copies (d - 1) [(2, t_state), (0, 0), (2, t_state), (0, (mulI 1116 (addI x1 1))), (0, 1116)] N Λ τ1 (fun σ2 => (Ix N Λ t_hasImage 2 x1 ∧ (((1 : Int) = 0 ∨ (1 : Int) = 1) ∧ (∀ τ3, τ3 = st σ2 t_hasImage x1 1 → P 0 τ3))))))))))) :
    WI l mX12_image d P 0 [(2, t), (0, x1)] [] N Λ σ := by
  have hd_1 : 1 ≤ d := Nat.le_trans (by decide) h0d
  refine r_aload_n (x := t) d_X12_image_0 rfl o_t.1 ?_
  refine r_iconst (x := 0) d_X12_image_1 ⟨by decide, by decide⟩ ?_
  refine r_putI (j := 0) d_X12_image_2 kX12 (by decide) fl_X12_1 rfl o_t.1 o_t.2.1 o_t.2.2.1 o_t.2.2.2 rfl ?_
  refine r_nmM (fun τ1 eτ1 => ?_)
  have h := h τ1 eτ1
  refine r_iload_n (x := x1) d_X12_image_5 rfl ?_
  refine r_i2l d_X12_image_6 ?_
  refine r_lconst d_X12_image_7 ?_
  skip
  refine r_lconst d_X12_image_8 ?_
  skip
  refine x_callSI (Y2 := mX12_within) (As := [(1, x1), (1, 0), (1, 1)]) (S := []) d_X12_image_9 ok_mX12_within ml_X12_91 rfl (Nat.le_of_ble_eq_true rfl) (Nat.le_of_ble_eq_true rfl) rfl hd_1 (c_X12_within (v_X12_within_0 ?_))
  refine ⟨fun hc => ?_, fun hc => ?_⟩
  · have h := h.1 hc
    show WP l mX12_image (rm d 0 0) noX _ 0 0 12 [(2, t), (0, x1)] [(0, 0)] N Λ τ1
    refine r_if_ne (tgt := 18) d_X12_image_12 rfl (fun hc => absurd hc (by decide)) (fun _ => ?_)
    refine r_bipush (x := (-2)) d_X12_image_15 ⟨by decide, by decide⟩ (by decide) ?_
    exact r_iret d_X12_image_17 rfl rfl (Nat.le_refl 0) (Nat.le_refl 0) ⟨_, rfl, rfl, rfl, h⟩
  · have h := h.2 hc
    refine ⟨fun hc => ?_, fun hc => ?_⟩
    · have h := h.1 hc
      show WP l mX12_image (rm d 0 0) noX _ 0 0 12 [(2, t), (0, x1)] [(0, 0)] N Λ τ1
      refine r_if_ne (tgt := 18) d_X12_image_12 rfl (fun hc => absurd hc (by decide)) (fun _ => ?_)
      refine r_bipush (x := (-2)) d_X12_image_15 ⟨by decide, by decide⟩ (by decide) ?_
      exact r_iret d_X12_image_17 rfl rfl (Nat.le_refl 0) (Nat.le_refl 0) ⟨_, rfl, rfl, rfl, h⟩
    · have h := h.2 hc
      show WP l mX12_image (rm d 0 0) noX _ 0 0 12 [(2, t), (0, x1)] [(0, 1)] N Λ τ1
      refine r_if_ne (tgt := 18) d_X12_image_12 rfl (fun _ => ?_) (fun hc => absurd hc (by decide))
      refine r_aload_n (x := t) d_X12_image_18 rfl o_t.1 ?_
      refine r_getf (j := 3) (t := 2) (x := t_state) d_X12_image_19 kX12 (by decide) fl_X12_20 o_t.1 o_t.2.1 o_t.2.2.1 o_t.2.2.2 rfl f_t_state ?_
      refine r_iconst (x := 0) d_X12_image_22 ⟨by decide, by decide⟩ ?_
      refine r_aload_n (x := t) d_X12_image_23 rfl o_t.1 ?_
      refine r_getf (j := 3) (t := 2) (x := t_state) d_X12_image_24 kX12 (by decide) fl_X12_20 o_t.1 o_t.2.1 o_t.2.2.1 o_t.2.2.2 rfl f_t_state ?_
      refine r_sipush (x := 1116) d_X12_image_27 ⟨by decide, by decide⟩ (by decide) ?_
      refine r_iload_n (x := x1) d_X12_image_30 rfl ?_
      refine r_iconst (x := 1) d_X12_image_31 ⟨by decide, by decide⟩ ?_
      refine r_iadd d_X12_image_32 ?_
      refine r_imul d_X12_image_33 ?_
      refine r_sipush (x := 1116) d_X12_image_34 ⟨by decide, by decide⟩ (by decide) ?_
      refine x_callSV (Y2 := mX12_copies) (As := [(2, t_state), (0, 0), (2, t_state), (0, (mulI 1116 (addI x1 1))), (0, 1116)]) (S := []) d_X12_image_37 ok_mX12_copies ml_X12_98 rfl (Nat.le_of_ble_eq_true rfl) (Nat.le_of_ble_eq_true rfl) rfl hd_1 (CV.mono h (fun σ2 h => ?_))
      refine r_aload_n (x := t) d_X12_image_40 rfl o_t.1 ?_
      refine r_getf (j := 6) (t := 2) (x := t_hasImage) d_X12_image_41 kX12 (by decide) fl_X12_26 o_t.1 o_t.2.1 o_t.2.2.1 o_t.2.2.2 rfl f_t_hasImage ?_
      refine r_iload_n (x := x1) d_X12_image_44 rfl ?_
      refine r_iconst (x := 1) d_X12_image_45 ⟨by decide, by decide⟩ ?_
      refine x_zast d_X12_image_46 h.1 h.2.1 ?_
      have h := h.2.2
      refine r_nmM (fun τ3 eτ3 => ?_)
      have h := h τ3 eτ3
      refine r_iconst (x := 0) d_X12_image_47 ⟨by decide, by decide⟩ ?_
      exact r_iret d_X12_image_48 rfl rfl (Nat.le_refl 0) (Nat.le_refl 0) ⟨_, rfl, rfl, rfl, h⟩
theorem u_X12_restore_0 {l : Launch} {d N : Nat} {Λ : Lay} {P : Int → Mem → Prop} {σ : Mem} {x1 t t_hasImage t_state : Int} (o_t : Ob N Λ t 21 36) (f_t_hasImage : (Λ t).2.2 6 = t_hasImage) (f_t_state : (Λ t).2.2 3 = t_state) (h0d : 1 ≤ d)
    (h : (∀ τ1, τ1 = st σ t 0 0 → (((cmpL x1 0) < 0 → P (-2) τ1) ∧ (¬ ((cmpL x1 0) < 0) → ((0 < (cmpL x1 1) → P (-2) τ1) ∧ (¬ (0 < (cmpL x1 1)) → (Ix N Λ t_hasImage 2 x1 ∧ ((¬ (τ1 t_hasImage x1) = 0 → (CV l mX12_copies (d - 1) [(2, t_state), (0, (mulI 1116 (addI x1 1))), (2, t_state), (0, 0), (0, 1116)] N Λ τ1 (fun σ2 => (∀ τ3, τ3 = st σ2 t 5 0 → P 0 τ3)))) ∧ ((τ1 t_hasImage x1) = 0 → P (-6) τ1))))))))) :
    WI l mX12_restore d P 0 [(2, t), (0, x1)] [] N Λ σ := by
  have hd_1 : 1 ≤ d := Nat.le_trans (by decide) h0d
  refine r_aload_n (x := t) d_X12_restore_0 rfl o_t.1 ?_
  refine r_iconst (x := 0) d_X12_restore_1 ⟨by decide, by decide⟩ ?_
  refine r_putI (j := 0) d_X12_restore_2 kX12 (by decide) fl_X12_1 rfl o_t.1 o_t.2.1 o_t.2.2.1 o_t.2.2.2 rfl ?_
  refine r_nmM (fun τ1 eτ1 => ?_)
  have h := h τ1 eτ1
  refine r_iload_n (x := x1) d_X12_restore_5 rfl ?_
  refine r_i2l d_X12_restore_6 ?_
  refine r_lconst d_X12_restore_7 ?_
  skip
  refine r_lconst d_X12_restore_8 ?_
  skip
  refine x_callSI (Y2 := mX12_within) (As := [(1, x1), (1, 0), (1, 1)]) (S := []) d_X12_restore_9 ok_mX12_within ml_X12_91 rfl (Nat.le_of_ble_eq_true rfl) (Nat.le_of_ble_eq_true rfl) rfl hd_1 (c_X12_within (v_X12_within_0 ?_))
  refine ⟨fun hc => ?_, fun hc => ?_⟩
  · have h := h.1 hc
    show WP l mX12_restore (rm d 0 0) noX _ 0 0 12 [(2, t), (0, x1)] [(0, 0)] N Λ τ1
    refine r_if_ne (tgt := 18) d_X12_restore_12 rfl (fun hc => absurd hc (by decide)) (fun _ => ?_)
    refine r_bipush (x := (-2)) d_X12_restore_15 ⟨by decide, by decide⟩ (by decide) ?_
    exact r_iret d_X12_restore_17 rfl rfl (Nat.le_refl 0) (Nat.le_refl 0) ⟨_, rfl, rfl, rfl, h⟩
  · have h := h.2 hc
    refine ⟨fun hc => ?_, fun hc => ?_⟩
    · have h := h.1 hc
      show WP l mX12_restore (rm d 0 0) noX _ 0 0 12 [(2, t), (0, x1)] [(0, 0)] N Λ τ1
      refine r_if_ne (tgt := 18) d_X12_restore_12 rfl (fun hc => absurd hc (by decide)) (fun _ => ?_)
      refine r_bipush (x := (-2)) d_X12_restore_15 ⟨by decide, by decide⟩ (by decide) ?_
      exact r_iret d_X12_restore_17 rfl rfl (Nat.le_refl 0) (Nat.le_refl 0) ⟨_, rfl, rfl, rfl, h⟩
    · have h := h.2 hc
      show WP l mX12_restore (rm d 0 0) noX _ 0 0 12 [(2, t), (0, x1)] [(0, 1)] N Λ τ1
      refine r_if_ne (tgt := 18) d_X12_restore_12 rfl (fun _ => ?_) (fun hc => absurd hc (by decide))
      refine r_aload_n (x := t) d_X12_restore_18 rfl o_t.1 ?_
      refine r_getf (j := 6) (t := 2) (x := t_hasImage) d_X12_restore_19 kX12 (by decide) fl_X12_26 o_t.1 o_t.2.1 o_t.2.2.1 o_t.2.2.2 rfl f_t_hasImage ?_
      refine r_iload_n (x := x1) d_X12_restore_22 rfl ?_
      refine x_zald d_X12_restore_23 h.1 ?_
      have h := h.2
      refine r_if_ne (tgt := 30) d_X12_restore_24 rfl (fun hc => ?_) (fun hc => ?_)
      · have h := h.1 hc
        refine r_aload_n (x := t) d_X12_restore_30 rfl o_t.1 ?_
        refine r_getf (j := 3) (t := 2) (x := t_state) d_X12_restore_31 kX12 (by decide) fl_X12_20 o_t.1 o_t.2.1 o_t.2.2.1 o_t.2.2.2 rfl f_t_state ?_
        refine r_sipush (x := 1116) d_X12_restore_34 ⟨by decide, by decide⟩ (by decide) ?_
        refine r_iload_n (x := x1) d_X12_restore_37 rfl ?_
        refine r_iconst (x := 1) d_X12_restore_38 ⟨by decide, by decide⟩ ?_
        refine r_iadd d_X12_restore_39 ?_
        refine r_imul d_X12_restore_40 ?_
        refine r_aload_n (x := t) d_X12_restore_41 rfl o_t.1 ?_
        refine r_getf (j := 3) (t := 2) (x := t_state) d_X12_restore_42 kX12 (by decide) fl_X12_20 o_t.1 o_t.2.1 o_t.2.2.1 o_t.2.2.2 rfl f_t_state ?_
        refine r_iconst (x := 0) d_X12_restore_45 ⟨by decide, by decide⟩ ?_
        refine r_sipush (x := 1116) d_X12_restore_46 ⟨by decide, by decide⟩ (by decide) ?_
        refine x_callSV (Y2 := mX12_copies) (As := [(2, t_state), (0, (mulI 1116 (addI x1 1))), (2, t_state), (0, 0), (0, 1116)]) (S := []) d_X12_restore_49 ok_mX12_copies ml_X12_98 rfl (Nat.le_of_ble_eq_true rfl) (Nat.le_of_ble_eq_true rfl) rfl hd_1 (CV.mono h (fun σ2 h => ?_))
        refine r_aload_n (x := t) d_X12_restore_52 rfl o_t.1 ?_
        refine r_iconst (x := 0) d_X12_restore_53 ⟨by decide, by decide⟩ ?_
        refine r_putI (j := 5) d_X12_restore_54 kX12 (by decide) fl_X12_95 rfl o_t.1 o_t.2.1 o_t.2.2.1 o_t.2.2.2 rfl ?_
        refine r_nmM (fun τ3 eτ3 => ?_)
        have h := h τ3 eτ3
        refine r_iconst (x := 0) d_X12_restore_57 ⟨by decide, by decide⟩ ?_
        exact r_iret d_X12_restore_58 rfl rfl (Nat.le_refl 0) (Nat.le_refl 0) ⟨_, rfl, rfl, rfl, h⟩
      · have h := h.2 hc
        refine r_bipush (x := (-6)) d_X12_restore_27 ⟨by decide, by decide⟩ (by decide) ?_
        exact r_iret d_X12_restore_29 rfl rfl (Nat.le_refl 0) (Nat.le_refl 0) ⟨_, rfl, rfl, rfl, h⟩
theorem u_X12_count_0 {l : Launch} {d N : Nat} {Λ : Lay} {P : Int → Mem → Prop} {σ : Mem} {x1 t : Int} (o_t : Ob N Λ t 21 36) (h0d : 1 ≤ d)
    (h : (∀ τ1, τ1 = st σ t 0 0 → ((x1 < 0 ∨ 5 < x1 → P (-1) τ1) ∧ (x1 = 0 → WI l mX12_count d P 50 [(2, t), (0, x1), (0, 0), (0, 0)] [] N Λ τ1) ∧ (x1 = 1 → (CI l mX12_facts (d - 1) [(2, t), (0, 0)] N Λ τ1 (fun v3 σ2 => P v3 σ2))) ∧ (x1 = 2 → (CI l mX12_facts (d - 1) [(2, t), (0, 1)] N Λ τ1 (fun v5 σ4 => P v5 σ4))) ∧ (x1 = 3 → P (τ1 t 19) τ1) ∧ (x1 = 4 → P (τ1 t 5) τ1) ∧ (x1 = 5 → WI l mX12_count d P 101 [(2, t), (0, x1), (0, 0), (0, 1)] [] N Λ τ1)))) :
    WI l mX12_count d P 0 [(2, t), (0, x1), (3, 0), (3, 0)] [] N Λ σ := by
  have hd_1 : 1 ≤ d := Nat.le_trans (by decide) h0d
  refine r_aload_n (x := t) d_X12_count_0 rfl o_t.1 ?_
  refine r_iconst (x := 0) d_X12_count_1 ⟨by decide, by decide⟩ ?_
  refine r_putI (j := 0) d_X12_count_2 kX12 (by decide) fl_X12_1 rfl o_t.1 o_t.2.1 o_t.2.2.1 o_t.2.2.2 rfl ?_
  refine r_nmM (fun τ1 eτ1 => ?_)
  have h := h τ1 eτ1
  refine r_iconst (x := 0) d_X12_count_5 ⟨by decide, by decide⟩ ?_
  refine r_istore_n (L2 := [(2, t), (0, x1), (0, 0), (3, 0)]) d_X12_count_6 (by decide) rfl rfl ?_
  refine r_iload_n (x := x1) d_X12_count_7 rfl ?_
  by_cases hr : x1 < 0 ∨ 5 < x1
  · have h := h.1 hr
    refine r_tout (tgt := 131) d_X12_count_8 hr rfl ?_
    refine r_iconst (x := (-1)) d_X12_count_131 ⟨by decide, by decide⟩ ?_
    exact r_iret d_X12_count_132 rfl rfl (Nat.le_refl 0) (Nat.le_refl 0) ⟨_, rfl, rfl, rfl, h⟩
  · have h := h.2
    by_cases hk0 : x1 = 0
    · have h := h.1 hk0
      refine r_tin (off := 40) (tgt := 48) d_X12_count_8 (by rw [hk0]; decide) (by rw [hk0]; decide) (by rw [hk0]; rfl) rfl ?_
      refine r_iconst (x := 0) d_X12_count_48 ⟨by decide, by decide⟩ ?_
      refine r_istore_n (L2 := [(2, t), (0, x1), (0, 0), (0, 0)]) d_X12_count_49 (by decide) rfl rfl ?_
      exact h
    have h := h.2
    by_cases hk1 : x1 = 1
    · have h := h.1 hk1
      refine r_tin (off := 69) (tgt := 77) d_X12_count_8 (by rw [hk1]; decide) (by rw [hk1]; decide) (by rw [hk1]; rfl) rfl ?_
      refine r_aload_n (x := t) d_X12_count_77 rfl o_t.1 ?_
      refine r_iconst (x := 0) d_X12_count_78 ⟨by decide, by decide⟩ ?_
      refine x_callVI (Y2 := mX12_facts) (c := t) (As := [(0, 0)]) (S := []) d_X12_count_79 ok_mX12_facts ml_X12_425 rfl (Nat.le_of_ble_eq_true rfl) (Nat.le_of_ble_eq_true rfl) rfl hd_1 kX12 o_t (CI.mono h (fun v3 σ2 h => ?_))
      exact r_iret d_X12_count_82 rfl rfl (Nat.le_refl 0) (Nat.le_refl 0) ⟨_, rfl, rfl, rfl, h⟩
    have h := h.2
    by_cases hk2 : x1 = 2
    · have h := h.1 hk2
      refine r_tin (off := 75) (tgt := 83) d_X12_count_8 (by rw [hk2]; decide) (by rw [hk2]; decide) (by rw [hk2]; rfl) rfl ?_
      refine r_aload_n (x := t) d_X12_count_83 rfl o_t.1 ?_
      refine r_iconst (x := 1) d_X12_count_84 ⟨by decide, by decide⟩ ?_
      refine x_callVI (Y2 := mX12_facts) (c := t) (As := [(0, 1)]) (S := []) d_X12_count_85 ok_mX12_facts ml_X12_425 rfl (Nat.le_of_ble_eq_true rfl) (Nat.le_of_ble_eq_true rfl) rfl hd_1 kX12 o_t (CI.mono h (fun v5 σ4 h => ?_))
      exact r_iret d_X12_count_88 rfl rfl (Nat.le_refl 0) (Nat.le_refl 0) ⟨_, rfl, rfl, rfl, h⟩
    have h := h.2
    by_cases hk3 : x1 = 3
    · have h := h.1 hk3
      refine r_tin (off := 81) (tgt := 89) d_X12_count_8 (by rw [hk3]; decide) (by rw [hk3]; decide) (by rw [hk3]; rfl) rfl ?_
      refine r_aload_n (x := t) d_X12_count_89 rfl o_t.1 ?_
      refine r_getf (j := 19) (t := 0) (x := (τ1 t 19)) d_X12_count_90 kX12 (by decide) fl_X12_252 o_t.1 o_t.2.1 o_t.2.2.1 o_t.2.2.2 rfl rfl ?_
      exact r_iret d_X12_count_93 rfl rfl (Nat.le_refl 0) (Nat.le_refl 0) ⟨_, rfl, rfl, rfl, h⟩
    have h := h.2
    by_cases hk4 : x1 = 4
    · have h := h.1 hk4
      refine r_tin (off := 86) (tgt := 94) d_X12_count_8 (by rw [hk4]; decide) (by rw [hk4]; decide) (by rw [hk4]; rfl) rfl ?_
      refine r_aload_n (x := t) d_X12_count_94 rfl o_t.1 ?_
      refine r_getf (j := 5) (t := 0) (x := (τ1 t 5)) d_X12_count_95 kX12 (by decide) fl_X12_95 o_t.1 o_t.2.1 o_t.2.2.1 o_t.2.2.2 rfl rfl ?_
      exact r_iret d_X12_count_98 rfl rfl (Nat.le_refl 0) (Nat.le_refl 0) ⟨_, rfl, rfl, rfl, h⟩
    have h := h.2
    by_cases hk5 : x1 = 5
    · have h := h hk5
      refine r_tin (off := 91) (tgt := 99) d_X12_count_8 (by rw [hk5]; decide) (by rw [hk5]; decide) (by rw [hk5]; rfl) rfl ?_
      refine r_iconst (x := 1) d_X12_count_99 ⟨by decide, by decide⟩ ?_
      refine r_istore_n (L2 := [(2, t), (0, x1), (0, 0), (0, 1)]) d_X12_count_100 (by decide) rfl rfl ?_
      exact h
    exact (tsw_5 hr hk0 hk1 hk2 hk3 hk4 hk5).elim
theorem u_X12_count_50 {l : Launch} {d N : Nat} {Λ : Lay} {P : Int → Mem → Prop} {σ : Mem} {x1 x2 x3 t t_state : Int} (o_t : Ob N Λ t 21 36) (f_t_state : (Λ t).2.2 3 = t_state)
    (h : ((6 ≤ x3 → P x2 σ) ∧ (¬ (6 ≤ x3) → (Ix N Λ t_state 0 (mulI 161 x3) ∧ (∀ y1, y1 = (addI x2 (σ t_state (mulI 161 x3))) → (∀ y2, y2 = addI x3 1 → WI l mX12_count d P 50 [(2, t), (0, x1), (0, y1), (0, y2)] [] N Λ σ)))))) :
    WI l mX12_count d P 50 [(2, t), (0, x1), (0, x2), (0, x3)] [] N Λ σ := by
  refine r_iload_n (x := x3) d_X12_count_50 rfl ?_
  refine r_bipush (x := 6) d_X12_count_51 ⟨by decide, by decide⟩ (by decide) ?_
  refine r_ic_ge (tgt := 75) d_X12_count_53 rfl (fun hc => ?_) (fun hc => ?_)
  · have h := h.1 hc
    refine r_iload_n (x := x2) d_X12_count_75 rfl ?_
    exact r_iret d_X12_count_76 rfl rfl (Nat.le_refl 0) (Nat.le_refl 0) ⟨_, rfl, rfl, rfl, h⟩
  · have h := h.2 hc
    refine r_iload_n (x := x2) d_X12_count_56 rfl ?_
    refine r_aload_n (x := t) d_X12_count_57 rfl o_t.1 ?_
    refine r_getf (j := 3) (t := 2) (x := t_state) d_X12_count_58 kX12 (by decide) fl_X12_20 o_t.1 o_t.2.1 o_t.2.2.1 o_t.2.2.2 rfl f_t_state ?_
    refine r_sipush (x := 161) d_X12_count_61 ⟨by decide, by decide⟩ (by decide) ?_
    refine r_iload_n (x := x3) d_X12_count_64 rfl ?_
    refine r_imul d_X12_count_65 ?_
    refine x_iald d_X12_count_66 h.1 ?_
    have h := h.2
    refine r_iadd d_X12_count_67 ?_
    refine r_nm (fun y1 ey1 => ?_)
    have h := h y1 ey1
    refine r_istore_n (L2 := [(2, t), (0, x1), (0, y1), (0, x3)]) d_X12_count_68 (by decide) rfl rfl ?_
    refine x_iinc (x := x3) (L := [(2, t), (0, x1), (0, y1), (0, x3)]) d_X12_count_69 rfl (by decide) rfl (fun y2 ey2 => ?_)
    have h := h y2 ey2
    show WP _ _ _ _ _ _ _ _ [(2, t), (0, x1), (0, y1), (0, y2)] _ _ _ _
    refine r_goto (tgt := 50) d_X12_count_72 rfl ?_
    exact h
theorem u_X12_count_101 {l : Launch} {d N : Nat} {Λ : Lay} {P : Int → Mem → Prop} {σ : Mem} {x1 x2 x3 t : Int} (o_t : Ob N Λ t 21 36) (h0d : 1 ≤ d)
    (h : ((120 < x3 → P x2 σ) ∧ (¬ (120 < x3) → (CI l mX12_worthOfRank (d - 1) [(2, t), (0, x3)] N Λ σ (fun v2 σ1 => ((¬ v2 = 0 → (∀ y3, y3 = (addI x2 0) → (∀ y4, y4 = addI x3 1 → WI l mX12_count d P 101 [(2, t), (0, x1), (0, y3), (0, y4)] [] N Λ σ1))) ∧ (v2 = 0 → (∀ y5, y5 = (addI x2 1) → (∀ y6, y6 = addI x3 1 → WI l mX12_count d P 101 [(2, t), (0, x1), (0, y5), (0, y6)] [] N Λ σ1))))))))) :
    WI l mX12_count d P 101 [(2, t), (0, x1), (0, x2), (0, x3)] [] N Λ σ := by
  have hd_1 : 1 ≤ d := Nat.le_trans (by decide) h0d
  refine r_iload_n (x := x3) d_X12_count_101 rfl ?_
  refine r_bipush (x := 120) d_X12_count_102 ⟨by decide, by decide⟩ (by decide) ?_
  refine r_ic_gt (tgt := 129) d_X12_count_104 rfl (fun hc => ?_) (fun hc => ?_)
  · have h := h.1 hc
    refine r_iload_n (x := x2) d_X12_count_129 rfl ?_
    exact r_iret d_X12_count_130 rfl rfl (Nat.le_refl 0) (Nat.le_refl 0) ⟨_, rfl, rfl, rfl, h⟩
  · have h := h.2 hc
    refine r_iload_n (x := x2) d_X12_count_107 rfl ?_
    refine r_aload_n (x := t) d_X12_count_108 rfl o_t.1 ?_
    refine r_iload_n (x := x3) d_X12_count_109 rfl ?_
    refine x_callVI (Y2 := mX12_worthOfRank) (c := t) (As := [(0, x3)]) (S := [(0, x2)]) d_X12_count_110 ok_mX12_worthOfRank ml_X12_418 rfl (Nat.le_of_ble_eq_true rfl) (Nat.le_of_ble_eq_true rfl) rfl hd_1 kX12 o_t (CI.mono h (fun v2 σ1 h => ?_))
    refine r_if_ne (tgt := 120) d_X12_count_113 rfl (fun hc => ?_) (fun hc => ?_)
    · have h := h.1 hc
      refine r_iconst (x := 0) d_X12_count_120 ⟨by decide, by decide⟩ ?_
      refine r_iadd d_X12_count_121 ?_
      refine r_nm (fun y3 ey3 => ?_)
      have h := h y3 ey3
      refine r_istore_n (L2 := [(2, t), (0, x1), (0, y3), (0, x3)]) d_X12_count_122 (by decide) rfl rfl ?_
      refine x_iinc (x := x3) (L := [(2, t), (0, x1), (0, y3), (0, x3)]) d_X12_count_123 rfl (by decide) rfl (fun y4 ey4 => ?_)
      have h := h y4 ey4
      show WP _ _ _ _ _ _ _ _ [(2, t), (0, x1), (0, y3), (0, y4)] _ _ _ _
      refine r_goto (tgt := 101) d_X12_count_126 rfl ?_
      exact h
    · have h := h.2 hc
      refine r_iconst (x := 1) d_X12_count_116 ⟨by decide, by decide⟩ ?_
      refine r_goto (tgt := 121) d_X12_count_117 rfl ?_
      refine r_iadd d_X12_count_121 ?_
      refine r_nm (fun y5 ey5 => ?_)
      have h := h y5 ey5
      refine r_istore_n (L2 := [(2, t), (0, x1), (0, y5), (0, x3)]) d_X12_count_122 (by decide) rfl rfl ?_
      refine x_iinc (x := x3) (L := [(2, t), (0, x1), (0, y5), (0, x3)]) d_X12_count_123 rfl (by decide) rfl (fun y6 ey6 => ?_)
      have h := h y6 ey6
      show WP _ _ _ _ _ _ _ _ [(2, t), (0, x1), (0, y5), (0, y6)] _ _ _ _
      refine r_goto (tgt := 101) d_X12_count_126 rfl ?_
      exact h
