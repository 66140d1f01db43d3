theorem d_J6_bitCount_0f7a4_0 : DC mJ6_bitCount_0f7a4 0 (.iload_n 0) 1 1 := ⟨by decide +kernel, rfl⟩
theorem d_J6_bitCount_0f7a4_1 : DC mJ6_bitCount_0f7a4 1 (.iload_n 0) 1 2 := ⟨by decide +kernel, rfl⟩
theorem d_J6_bitCount_0f7a4_2 : DC mJ6_bitCount_0f7a4 2 (.iconst 1) 1 3 := ⟨by decide +kernel, rfl⟩
theorem d_J6_bitCount_0f7a4_3 : DC mJ6_bitCount_0f7a4 3 (.iushr) 1 4 := ⟨by decide +kernel, rfl⟩
theorem d_J6_bitCount_0f7a4_4 : DC mJ6_bitCount_0f7a4 4 (.ldc_w 265) 3 7 := ⟨by decide +kernel, rfl⟩
theorem d_J6_bitCount_0f7a4_7 : DC mJ6_bitCount_0f7a4 7 (.iand) 1 8 := ⟨by decide +kernel, rfl⟩
theorem d_J6_bitCount_0f7a4_8 : DC mJ6_bitCount_0f7a4 8 (.isub) 1 9 := ⟨by decide +kernel, rfl⟩
theorem d_J6_bitCount_0f7a4_9 : DC mJ6_bitCount_0f7a4 9 (.istore_n 0) 1 10 := ⟨by decide +kernel, rfl⟩
theorem d_J6_bitCount_0f7a4_10 : DC mJ6_bitCount_0f7a4 10 (.iload_n 0) 1 11 := ⟨by decide +kernel, rfl⟩
theorem d_J6_bitCount_0f7a4_11 : DC mJ6_bitCount_0f7a4 11 (.ldc_w 266) 3 14 := ⟨by decide +kernel, rfl⟩
theorem d_J6_bitCount_0f7a4_14 : DC mJ6_bitCount_0f7a4 14 (.iand) 1 15 := ⟨by decide +kernel, rfl⟩
theorem d_J6_bitCount_0f7a4_15 : DC mJ6_bitCount_0f7a4 15 (.iload_n 0) 1 16 := ⟨by decide +kernel, rfl⟩
theorem d_J6_bitCount_0f7a4_16 : DC mJ6_bitCount_0f7a4 16 (.iconst 2) 1 17 := ⟨by decide +kernel, rfl⟩
theorem d_J6_bitCount_0f7a4_17 : DC mJ6_bitCount_0f7a4 17 (.iushr) 1 18 := ⟨by decide +kernel, rfl⟩
theorem d_J6_bitCount_0f7a4_18 : DC mJ6_bitCount_0f7a4 18 (.ldc_w 266) 3 21 := ⟨by decide +kernel, rfl⟩
theorem d_J6_bitCount_0f7a4_21 : DC mJ6_bitCount_0f7a4 21 (.iand) 1 22 := ⟨by decide +kernel, rfl⟩
theorem d_J6_bitCount_0f7a4_22 : DC mJ6_bitCount_0f7a4 22 (.iadd) 1 23 := ⟨by decide +kernel, rfl⟩
theorem d_J6_bitCount_0f7a4_23 : DC mJ6_bitCount_0f7a4 23 (.istore_n 0) 1 24 := ⟨by decide +kernel, rfl⟩
theorem d_J6_bitCount_0f7a4_24 : DC mJ6_bitCount_0f7a4 24 (.iload_n 0) 1 25 := ⟨by decide +kernel, rfl⟩
theorem d_J6_bitCount_0f7a4_25 : DC mJ6_bitCount_0f7a4 25 (.iload_n 0) 1 26 := ⟨by decide +kernel, rfl⟩
theorem d_J6_bitCount_0f7a4_26 : DC mJ6_bitCount_0f7a4 26 (.iconst 4) 1 27 := ⟨by decide +kernel, rfl⟩
theorem d_J6_bitCount_0f7a4_27 : DC mJ6_bitCount_0f7a4 27 (.iushr) 1 28 := ⟨by decide +kernel, rfl⟩
theorem d_J6_bitCount_0f7a4_28 : DC mJ6_bitCount_0f7a4 28 (.iadd) 1 29 := ⟨by decide +kernel, rfl⟩
theorem d_J6_bitCount_0f7a4_29 : DC mJ6_bitCount_0f7a4 29 (.ldc_w 267) 3 32 := ⟨by decide +kernel, rfl⟩
theorem d_J6_bitCount_0f7a4_32 : DC mJ6_bitCount_0f7a4 32 (.iand) 1 33 := ⟨by decide +kernel, rfl⟩
theorem d_J6_bitCount_0f7a4_33 : DC mJ6_bitCount_0f7a4 33 (.istore_n 0) 1 34 := ⟨by decide +kernel, rfl⟩
theorem d_J6_bitCount_0f7a4_34 : DC mJ6_bitCount_0f7a4 34 (.iload_n 0) 1 35 := ⟨by decide +kernel, rfl⟩
theorem d_J6_bitCount_0f7a4_35 : DC mJ6_bitCount_0f7a4 35 (.iload_n 0) 1 36 := ⟨by decide +kernel, rfl⟩
theorem d_J6_bitCount_0f7a4_36 : DC mJ6_bitCount_0f7a4 36 (.bipush 8) 2 38 := ⟨by decide +kernel, rfl⟩
theorem d_J6_bitCount_0f7a4_38 : DC mJ6_bitCount_0f7a4 38 (.iushr) 1 39 := ⟨by decide +kernel, rfl⟩
theorem d_J6_bitCount_0f7a4_39 : DC mJ6_bitCount_0f7a4 39 (.iadd) 1 40 := ⟨by decide +kernel, rfl⟩
theorem d_J6_bitCount_0f7a4_40 : DC mJ6_bitCount_0f7a4 40 (.istore_n 0) 1 41 := ⟨by decide +kernel, rfl⟩
theorem d_J6_bitCount_0f7a4_41 : DC mJ6_bitCount_0f7a4 41 (.iload_n 0) 1 42 := ⟨by decide +kernel, rfl⟩
theorem d_J6_bitCount_0f7a4_42 : DC mJ6_bitCount_0f7a4 42 (.iload_n 0) 1 43 := ⟨by decide +kernel, rfl⟩
theorem d_J6_bitCount_0f7a4_43 : DC mJ6_bitCount_0f7a4 43 (.bipush 16) 2 45 := ⟨by decide +kernel, rfl⟩
theorem d_J6_bitCount_0f7a4_45 : DC mJ6_bitCount_0f7a4 45 (.iushr) 1 46 := ⟨by decide +kernel, rfl⟩
theorem d_J6_bitCount_0f7a4_46 : DC mJ6_bitCount_0f7a4 46 (.iadd) 1 47 := ⟨by decide +kernel, rfl⟩
theorem d_J6_bitCount_0f7a4_47 : DC mJ6_bitCount_0f7a4 47 (.istore_n 0) 1 48 := ⟨by decide +kernel, rfl⟩
theorem d_J6_bitCount_0f7a4_48 : DC mJ6_bitCount_0f7a4 48 (.iload_n 0) 1 49 := ⟨by decide +kernel, rfl⟩
theorem d_J6_bitCount_0f7a4_49 : DC mJ6_bitCount_0f7a4 49 (.bipush 63) 2 51 := ⟨by decide +kernel, rfl⟩
theorem d_J6_bitCount_0f7a4_51 : DC mJ6_bitCount_0f7a4 51 (.iand) 1 52 := ⟨by decide +kernel, rfl⟩
theorem d_J6_bitCount_0f7a4_52 : DC mJ6_bitCount_0f7a4 52 (.ireturn) 1 53 := ⟨by decide +kernel, rfl⟩
theorem d_J9_floorMod_7cf53_0 : DC mJ9_floorMod_7cf53 0 (.iload_n 0) 1 1 := ⟨by decide +kernel, rfl⟩
theorem d_J9_floorMod_7cf53_1 : DC mJ9_floorMod_7cf53 1 (.iload_n 1) 1 2 := ⟨by decide +kernel, rfl⟩
theorem d_J9_floorMod_7cf53_2 : DC mJ9_floorMod_7cf53 2 (.irem) 1 3 := ⟨by decide +kernel, rfl⟩
theorem d_J9_floorMod_7cf53_3 : DC mJ9_floorMod_7cf53 3 (.istore_n 2) 1 4 := ⟨by decide +kernel, rfl⟩
theorem d_J9_floorMod_7cf53_4 : DC mJ9_floorMod_7cf53 4 (.iload_n 0) 1 5 := ⟨by decide +kernel, rfl⟩
theorem d_J9_floorMod_7cf53_5 : DC mJ9_floorMod_7cf53 5 (.iload_n 1) 1 6 := ⟨by decide +kernel, rfl⟩
theorem d_J9_floorMod_7cf53_6 : DC mJ9_floorMod_7cf53 6 (.ixor) 1 7 := ⟨by decide +kernel, rfl⟩
theorem d_J9_floorMod_7cf53_7 : DC mJ9_floorMod_7cf53 7 (.ifCond .ge 11) 3 10 := ⟨by decide +kernel, rfl⟩
theorem d_J9_floorMod_7cf53_10 : DC mJ9_floorMod_7cf53 10 (.iload_n 2) 1 11 := ⟨by decide +kernel, rfl⟩
theorem d_J9_floorMod_7cf53_11 : DC mJ9_floorMod_7cf53 11 (.ifCond .eq 7) 3 14 := ⟨by decide +kernel, rfl⟩
theorem d_J9_floorMod_7cf53_14 : DC mJ9_floorMod_7cf53 14 (.iload_n 2) 1 15 := ⟨by decide +kernel, rfl⟩
theorem d_J9_floorMod_7cf53_15 : DC mJ9_floorMod_7cf53 15 (.iload_n 1) 1 16 := ⟨by decide +kernel, rfl⟩
theorem d_J9_floorMod_7cf53_16 : DC mJ9_floorMod_7cf53 16 (.iadd) 1 17 := ⟨by decide +kernel, rfl⟩
theorem d_J9_floorMod_7cf53_17 : DC mJ9_floorMod_7cf53 17 (.ireturn) 1 18 := ⟨by decide +kernel, rfl⟩
theorem d_J9_floorMod_7cf53_18 : DC mJ9_floorMod_7cf53 18 (.iload_n 2) 1 19 := ⟨by decide +kernel, rfl⟩
theorem d_J9_floorMod_7cf53_19 : DC mJ9_floorMod_7cf53 19 (.ireturn) 1 20 := ⟨by decide +kernel, rfl⟩
theorem d_J9_floorMod_f86c9_0 : DC mJ9_floorMod_f86c9 0 (.lload_n 0) 1 1 := ⟨by decide +kernel, rfl⟩
theorem d_J9_floorMod_f86c9_1 : DC mJ9_floorMod_f86c9 1 (.lload_n 2) 1 2 := ⟨by decide +kernel, rfl⟩
theorem d_J9_floorMod_f86c9_2 : DC mJ9_floorMod_f86c9 2 (.lrem) 1 3 := ⟨by decide +kernel, rfl⟩
theorem d_J9_floorMod_f86c9_3 : DC mJ9_floorMod_f86c9 3 (.lstore 4) 2 5 := ⟨by decide +kernel, rfl⟩
theorem d_J9_floorMod_f86c9_5 : DC mJ9_floorMod_f86c9 5 (.lload_n 0) 1 6 := ⟨by decide +kernel, rfl⟩
theorem d_J9_floorMod_f86c9_6 : DC mJ9_floorMod_f86c9 6 (.lload_n 2) 1 7 := ⟨by decide +kernel, rfl⟩
theorem d_J9_floorMod_f86c9_7 : DC mJ9_floorMod_f86c9 7 (.lxor) 1 8 := ⟨by decide +kernel, rfl⟩
theorem d_J9_floorMod_f86c9_8 : DC mJ9_floorMod_f86c9 8 (.lconst 0) 1 9 := ⟨by decide +kernel, rfl⟩
theorem d_J9_floorMod_f86c9_9 : DC mJ9_floorMod_f86c9 9 (.lcmp) 1 10 := ⟨by decide +kernel, rfl⟩
theorem d_J9_floorMod_f86c9_10 : DC mJ9_floorMod_f86c9 10 (.ifCond .ge 15) 3 13 := ⟨by decide +kernel, rfl⟩
theorem d_J9_floorMod_f86c9_13 : DC mJ9_floorMod_f86c9 13 (.lload 4) 2 15 := ⟨by decide +kernel, rfl⟩
theorem d_J9_floorMod_f86c9_15 : DC mJ9_floorMod_f86c9 15 (.lconst 0) 1 16 := ⟨by decide +kernel, rfl⟩
theorem d_J9_floorMod_f86c9_16 : DC mJ9_floorMod_f86c9 16 (.lcmp) 1 17 := ⟨by decide +kernel, rfl⟩
theorem d_J9_floorMod_f86c9_17 : DC mJ9_floorMod_f86c9 17 (.ifCond .eq 8) 3 20 := ⟨by decide +kernel, rfl⟩
theorem d_J9_floorMod_f86c9_20 : DC mJ9_floorMod_f86c9 20 (.lload 4) 2 22 := ⟨by decide +kernel, rfl⟩
theorem d_J9_floorMod_f86c9_22 : DC mJ9_floorMod_f86c9 22 (.lload_n 2) 1 23 := ⟨by decide +kernel, rfl⟩
theorem d_J9_floorMod_f86c9_23 : DC mJ9_floorMod_f86c9 23 (.ladd) 1 24 := ⟨by decide +kernel, rfl⟩
theorem d_J9_floorMod_f86c9_24 : DC mJ9_floorMod_f86c9 24 (.lreturn) 1 25 := ⟨by decide +kernel, rfl⟩
theorem d_J9_floorMod_f86c9_25 : DC mJ9_floorMod_f86c9 25 (.lload 4) 2 27 := ⟨by decide +kernel, rfl⟩
theorem d_J9_floorMod_f86c9_27 : DC mJ9_floorMod_f86c9 27 (.lreturn) 1 28 := ⟨by decide +kernel, rfl⟩
theorem d_J9_abs_0f7a4_0 : DC mJ9_abs_0f7a4 0 (.iload_n 0) 1 1 := ⟨by decide +kernel, rfl⟩
theorem d_J9_abs_0f7a4_1 : DC mJ9_abs_0f7a4 1 (.ifCond .ge 8) 3 4 := ⟨by decide +kernel, rfl⟩
theorem d_J9_abs_0f7a4_4 : DC mJ9_abs_0f7a4 4 (.iload_n 0) 1 5 := ⟨by decide +kernel, rfl⟩
theorem d_J9_abs_0f7a4_5 : DC mJ9_abs_0f7a4 5 (.ineg) 1 6 := ⟨by decide +kernel, rfl⟩
theorem d_J9_abs_0f7a4_6 : DC mJ9_abs_0f7a4 6 (.goto 4) 3 9 := ⟨by decide +kernel, rfl⟩
theorem d_J9_abs_0f7a4_9 : DC mJ9_abs_0f7a4 9 (.iload_n 0) 1 10 := ⟨by decide +kernel, rfl⟩
theorem d_J9_abs_0f7a4_10 : DC mJ9_abs_0f7a4 10 (.ireturn) 1 11 := ⟨by decide +kernel, rfl⟩
theorem d_J9_max_7cf53_0 : DC mJ9_max_7cf53 0 (.iload_n 0) 1 1 := ⟨by decide +kernel, rfl⟩
theorem d_J9_max_7cf53_1 : DC mJ9_max_7cf53 1 (.iload_n 1) 1 2 := ⟨by decide +kernel, rfl⟩
theorem d_J9_max_7cf53_2 : DC mJ9_max_7cf53 2 (.if_icmp .lt 7) 3 5 := ⟨by decide +kernel, rfl⟩
theorem d_J9_max_7cf53_5 : DC mJ9_max_7cf53 5 (.iload_n 0) 1 6 := ⟨by decide +kernel, rfl⟩
theorem d_J9_max_7cf53_6 : DC mJ9_max_7cf53 6 (.goto 4) 3 9 := ⟨by decide +kernel, rfl⟩
theorem d_J9_max_7cf53_9 : DC mJ9_max_7cf53 9 (.iload_n 1) 1 10 := ⟨by decide +kernel, rfl⟩
theorem d_J9_max_7cf53_10 : DC mJ9_max_7cf53 10 (.ireturn) 1 11 := ⟨by decide +kernel, rfl⟩
theorem d_J9_min_7cf53_0 : DC mJ9_min_7cf53 0 (.iload_n 0) 1 1 := ⟨by decide +kernel, rfl⟩
theorem d_J9_min_7cf53_1 : DC mJ9_min_7cf53 1 (.iload_n 1) 1 2 := ⟨by decide +kernel, rfl⟩
theorem d_J9_min_7cf53_2 : DC mJ9_min_7cf53 2 (.if_icmp .gt 7) 3 5 := ⟨by decide +kernel, rfl⟩
theorem d_J9_min_7cf53_5 : DC mJ9_min_7cf53 5 (.iload_n 0) 1 6 := ⟨by decide +kernel, rfl⟩
theorem d_J9_min_7cf53_6 : DC mJ9_min_7cf53 6 (.goto 4) 3 9 := ⟨by decide +kernel, rfl⟩
theorem d_J9_min_7cf53_9 : DC mJ9_min_7cf53 9 (.iload_n 1) 1 10 := ⟨by decide +kernel, rfl⟩
theorem d_J9_min_7cf53_10 : DC mJ9_min_7cf53 10 (.ireturn) 1 11 := ⟨by decide +kernel, rfl⟩
theorem d_J7_fill_53178_0 : DC mJ7_fill_53178 0 (.iconst 0) 1 1 := ⟨by decide +kernel, rfl⟩
theorem d_J7_fill_53178_1 : DC mJ7_fill_53178 1 (.istore_n 2) 1 2 := ⟨by decide +kernel, rfl⟩
theorem d_J7_fill_53178_2 : DC mJ7_fill_53178 2 (.aload_n 0) 1 3 := ⟨by decide +kernel, rfl⟩
theorem d_J7_fill_53178_3 : DC mJ7_fill_53178 3 (.arraylength) 1 4 := ⟨by decide +kernel, rfl⟩
theorem d_J7_fill_53178_4 : DC mJ7_fill_53178 4 (.istore_n 3) 1 5 := ⟨by decide +kernel, rfl⟩
theorem d_J7_fill_53178_5 : DC mJ7_fill_53178 5 (.iload_n 2) 1 6 := ⟨by decide +kernel, rfl⟩
theorem d_J7_fill_53178_6 : DC mJ7_fill_53178 6 (.iload_n 3) 1 7 := ⟨by decide +kernel, rfl⟩
theorem d_J7_fill_53178_7 : DC mJ7_fill_53178 7 (.if_icmp .ge 13) 3 10 := ⟨by decide +kernel, rfl⟩
theorem d_J7_fill_53178_10 : DC mJ7_fill_53178 10 (.aload_n 0) 1 11 := ⟨by decide +kernel, rfl⟩
theorem d_J7_fill_53178_11 : DC mJ7_fill_53178 11 (.iload_n 2) 1 12 := ⟨by decide +kernel, rfl⟩
theorem d_J7_fill_53178_12 : DC mJ7_fill_53178 12 (.iload_n 1) 1 13 := ⟨by decide +kernel, rfl⟩
theorem d_J7_fill_53178_13 : DC mJ7_fill_53178 13 (.iastore) 1 14 := ⟨by decide +kernel, rfl⟩
theorem d_J7_fill_53178_14 : DC mJ7_fill_53178 14 (.iinc 2 1) 3 17 := ⟨by decide +kernel, rfl⟩
theorem d_J7_fill_53178_17 : DC mJ7_fill_53178 17 (.goto (-12)) 3 20 := ⟨by decide +kernel, rfl⟩
theorem d_J7_fill_53178_20 : DC mJ7_fill_53178 20 (.return_) 1 21 := ⟨by decide +kernel, rfl⟩
theorem v_J6_bitCount_0f7a4_0 {l : Launch} {d N : Nat} {Λ : Lay} {P : Int → Mem → Prop} {σ : Mem} {x0 : Int}
    (h : (∀ y1, y1 = (subI x0 (andI (ushrI x0 1) 1431655765)) → (∀ y2, y2 = (addI (andI y1 858993459) (andI (ushrI y1 2) 858993459)) → (∀ y3, y3 = (andI (addI y2 (ushrI y2 4)) 252645135) → (∀ y4, y4 = (addI y3 (ushrI y3 8)) → (∀ y5, y5 = (addI y4 (ushrI y4 16)) → P (andI y5 63) σ)))))) :
    WI l mJ6_bitCount_0f7a4 d P 0 [(0, x0)] [] N Λ σ := by
  refine r_iload_n (x := x0) d_J6_bitCount_0f7a4_0 rfl ?_
  refine r_iload_n (x := x0) d_J6_bitCount_0f7a4_1 rfl ?_
  refine r_iconst (x := 1) d_J6_bitCount_0f7a4_2 ⟨by decide, by decide⟩ ?_
  refine r_iushr d_J6_bitCount_0f7a4_3 ?_
  refine r_ldcw (x := 1431655765) d_J6_bitCount_0f7a4_4 ck_J6_265 (by decide) ?_
  refine r_iand d_J6_bitCount_0f7a4_7 ?_
  refine r_isub d_J6_bitCount_0f7a4_8 ?_
  refine r_nm (fun y1 ey1 => ?_)
  have h := h y1 ey1
  refine r_istore_n (L2 := [(0, y1)]) d_J6_bitCount_0f7a4_9 (by decide) rfl rfl ?_
  refine r_iload_n (x := y1) d_J6_bitCount_0f7a4_10 rfl ?_
  refine r_ldcw (x := 858993459) d_J6_bitCount_0f7a4_11 ck_J6_266 (by decide) ?_
  refine r_iand d_J6_bitCount_0f7a4_14 ?_
  refine r_iload_n (x := y1) d_J6_bitCount_0f7a4_15 rfl ?_
  refine r_iconst (x := 2) d_J6_bitCount_0f7a4_16 ⟨by decide, by decide⟩ ?_
  refine r_iushr d_J6_bitCount_0f7a4_17 ?_
  refine r_ldcw (x := 858993459) d_J6_bitCount_0f7a4_18 ck_J6_266 (by decide) ?_
  refine r_iand d_J6_bitCount_0f7a4_21 ?_
  refine r_iadd d_J6_bitCount_0f7a4_22 ?_
  refine r_nm (fun y2 ey2 => ?_)
  have h := h y2 ey2
  refine r_istore_n (L2 := [(0, y2)]) d_J6_bitCount_0f7a4_23 (by decide) rfl rfl ?_
  refine r_iload_n (x := y2) d_J6_bitCount_0f7a4_24 rfl ?_
  refine r_iload_n (x := y2) d_J6_bitCount_0f7a4_25 rfl ?_
  refine r_iconst (x := 4) d_J6_bitCount_0f7a4_26 ⟨by decide, by decide⟩ ?_
  refine r_iushr d_J6_bitCount_0f7a4_27 ?_
  refine r_iadd d_J6_bitCount_0f7a4_28 ?_
  refine r_ldcw (x := 252645135) d_J6_bitCount_0f7a4_29 ck_J6_267 (by decide) ?_
  refine r_iand d_J6_bitCount_0f7a4_32 ?_
  refine r_nm (fun y3 ey3 => ?_)
  have h := h y3 ey3
  refine r_istore_n (L2 := [(0, y3)]) d_J6_bitCount_0f7a4_33 (by decide) rfl rfl ?_
  refine r_iload_n (x := y3) d_J6_bitCount_0f7a4_34 rfl ?_
  refine r_iload_n (x := y3) d_J6_bitCount_0f7a4_35 rfl ?_
  refine r_bipush (x := 8) d_J6_bitCount_0f7a4_36 ⟨by decide, by decide⟩ (by decide) ?_
  refine r_iushr d_J6_bitCount_0f7a4_38 ?_
  refine r_iadd d_J6_bitCount_0f7a4_39 ?_
  refine r_nm (fun y4 ey4 => ?_)
  have h := h y4 ey4
  refine r_istore_n (L2 := [(0, y4)]) d_J6_bitCount_0f7a4_40 (by decide) rfl rfl ?_
  refine r_iload_n (x := y4) d_J6_bitCount_0f7a4_41 rfl ?_
  refine r_iload_n (x := y4) d_J6_bitCount_0f7a4_42 rfl ?_
  refine r_bipush (x := 16) d_J6_bitCount_0f7a4_43 ⟨by decide, by decide⟩ (by decide) ?_
  refine r_iushr d_J6_bitCount_0f7a4_45 ?_
  refine r_iadd d_J6_bitCount_0f7a4_46 ?_
  refine r_nm (fun y5 ey5 => ?_)
  have h := h y5 ey5
  refine r_istore_n (L2 := [(0, y5)]) d_J6_bitCount_0f7a4_47 (by decide) rfl rfl ?_
  refine r_iload_n (x := y5) d_J6_bitCount_0f7a4_48 rfl ?_
  refine r_bipush (x := 63) d_J6_bitCount_0f7a4_49 ⟨by decide, by decide⟩ (by decide) ?_
  refine r_iand d_J6_bitCount_0f7a4_51 ?_
  exact r_iret d_J6_bitCount_0f7a4_52 rfl rfl (Nat.le_refl 0) (Nat.le_refl 0) ⟨_, rfl, rfl, rfl, h⟩
theorem v_J9_floorMod_7cf53_0 {l : Launch} {d N : Nat} {Λ : Lay} {P : Int → Mem → Prop} {σ : Mem} {x0 x1 : Int}
    (h : (¬ x1 = 0 ∧ (∀ y1, y1 = (remI x0 x1) → ((0 ≤ (xorI x0 x1) → P y1 σ) ∧ (¬ (0 ≤ (xorI x0 x1)) → ((y1 = 0 → P y1 σ) ∧ (¬ (y1 = 0) → P (addI y1 x1) σ))))))) :
    WI l mJ9_floorMod_7cf53 d P 0 [(0, x0), (0, x1), (3, 0)] [] N Λ σ := by
  refine r_iload_n (x := x0) d_J9_floorMod_7cf53_0 rfl ?_
  refine r_iload_n (x := x1) d_J9_floorMod_7cf53_1 rfl ?_
  refine r_irem d_J9_floorMod_7cf53_2 h.1 ?_
  have h := h.2
  refine r_nm (fun y1 ey1 => ?_)
  have h := h y1 ey1
  refine r_istore_n (L2 := [(0, x0), (0, x1), (0, y1)]) d_J9_floorMod_7cf53_3 (by decide) rfl rfl ?_
  refine r_iload_n (x := x0) d_J9_floorMod_7cf53_4 rfl ?_
  refine r_iload_n (x := x1) d_J9_floorMod_7cf53_5 rfl ?_
  refine r_ixor d_J9_floorMod_7cf53_6 ?_
  refine r_if_ge (tgt := 18) d_J9_floorMod_7cf53_7 rfl (fun hc => ?_) (fun hc => ?_)
  · have h := h.1 hc
    refine r_iload_n (x := y1) d_J9_floorMod_7cf53_18 rfl ?_
    exact r_iret d_J9_floorMod_7cf53_19 rfl rfl (Nat.le_refl 0) (Nat.le_refl 0) ⟨_, rfl, rfl, rfl, h⟩
  · have h := h.2 hc
    refine r_iload_n (x := y1) d_J9_floorMod_7cf53_10 rfl ?_
    refine r_if_eq (tgt := 18) d_J9_floorMod_7cf53_11 rfl (fun hc => ?_) (fun hc => ?_)
    · have h := h.1 hc
      refine r_iload_n (x := y1) d_J9_floorMod_7cf53_18 rfl ?_
      exact r_iret d_J9_floorMod_7cf53_19 rfl rfl (Nat.le_refl 0) (Nat.le_refl 0) ⟨_, rfl, rfl, rfl, h⟩
    · have h := h.2 hc
      refine r_iload_n (x := y1) d_J9_floorMod_7cf53_14 rfl ?_
      refine r_iload_n (x := x1) d_J9_floorMod_7cf53_15 rfl ?_
      refine r_iadd d_J9_floorMod_7cf53_16 ?_
      exact r_iret d_J9_floorMod_7cf53_17 rfl rfl (Nat.le_refl 0) (Nat.le_refl 0) ⟨_, rfl, rfl, rfl, h⟩
theorem v_J9_floorMod_f86c9_0 {l : Launch} {d N : Nat} {Λ : Lay} {P : Int → Mem → Prop} {σ : Mem} {x0 x2 : Int}
    (h : (¬ x2 = 0 ∧ (∀ y1, y1 = (remL x0 x2) → ((0 ≤ (cmpL (xorL x0 x2) 0) → P y1 σ) ∧ (¬ (0 ≤ (cmpL (xorL x0 x2) 0)) → (((cmpL y1 0) = 0 → P y1 σ) ∧ (¬ ((cmpL y1 0) = 0) → P (addL y1 x2) σ))))))) :
    WL l mJ9_floorMod_f86c9 d P 0 [(1, x0), (3, 0), (1, x2), (3, 0), (3, 0), (3, 0)] [] N Λ σ := by
  refine r_lload_n (x := x0) d_J9_floorMod_f86c9_0 rfl ?_
  refine r_lload_n (x := x2) d_J9_floorMod_f86c9_1 rfl ?_
  refine r_lrem d_J9_floorMod_f86c9_2 h.1 ?_
  have h := h.2
  refine r_nm (fun y1 ey1 => ?_)
  have h := h y1 ey1
  refine r_lstore (L2 := [(1, x0), (3, 0), (1, x2), (3, 0), (1, y1), (3, 0)]) d_J9_floorMod_f86c9_3 (by decide) rfl rfl ?_
  refine r_lload_n (x := x0) d_J9_floorMod_f86c9_5 rfl ?_
  refine r_lload_n (x := x2) d_J9_floorMod_f86c9_6 rfl ?_
  refine r_lxor d_J9_floorMod_f86c9_7 ?_
  refine r_lconst d_J9_floorMod_f86c9_8 ?_
  skip
  refine r_lcmp d_J9_floorMod_f86c9_9 ?_
  refine r_if_ge (tgt := 25) d_J9_floorMod_f86c9_10 rfl (fun hc => ?_) (fun hc => ?_)
  · have h := h.1 hc
    refine r_lload (x := y1) d_J9_floorMod_f86c9_25 rfl ?_
    exact r_lret d_J9_floorMod_f86c9_27 rfl (Nat.le_refl 0) (Nat.le_refl 0) ⟨_, rfl, rfl, rfl, h⟩
  · have h := h.2 hc
    refine r_lload (x := y1) d_J9_floorMod_f86c9_13 rfl ?_
    refine r_lconst d_J9_floorMod_f86c9_15 ?_
    skip
    refine r_lcmp d_J9_floorMod_f86c9_16 ?_
    refine r_if_eq (tgt := 25) d_J9_floorMod_f86c9_17 rfl (fun hc => ?_) (fun hc => ?_)
    · have h := h.1 hc
      refine r_lload (x := y1) d_J9_floorMod_f86c9_25 rfl ?_
      exact r_lret d_J9_floorMod_f86c9_27 rfl (Nat.le_refl 0) (Nat.le_refl 0) ⟨_, rfl, rfl, rfl, h⟩
    · have h := h.2 hc
      refine r_lload (x := y1) d_J9_floorMod_f86c9_20 rfl ?_
      refine r_lload_n (x := x2) d_J9_floorMod_f86c9_22 rfl ?_
      refine r_ladd d_J9_floorMod_f86c9_23 ?_
      exact r_lret d_J9_floorMod_f86c9_24 rfl (Nat.le_refl 0) (Nat.le_refl 0) ⟨_, rfl, rfl, rfl, h⟩
theorem v_J9_abs_0f7a4_0 {l : Launch} {d N : Nat} {Λ : Lay} {P : Int → Mem → Prop} {σ : Mem} {x0 : Int}
    (h : ((0 ≤ x0 → P x0 σ) ∧ (¬ (0 ≤ x0) → P (negI x0) σ))) :
    WI l mJ9_abs_0f7a4 d P 0 [(0, x0)] [] N Λ σ := by
  refine r_iload_n (x := x0) d_J9_abs_0f7a4_0 rfl ?_
  refine r_if_ge (tgt := 9) d_J9_abs_0f7a4_1 rfl (fun hc => ?_) (fun hc => ?_)
  · have h := h.1 hc
    refine r_iload_n (x := x0) d_J9_abs_0f7a4_9 rfl ?_
    exact r_iret d_J9_abs_0f7a4_10 rfl rfl (Nat.le_refl 0) (Nat.le_refl 0) ⟨_, rfl, rfl, rfl, h⟩
  · have h := h.2 hc
    refine r_iload_n (x := x0) d_J9_abs_0f7a4_4 rfl ?_
    refine r_ineg d_J9_abs_0f7a4_5 ?_
    refine r_goto (tgt := 10) d_J9_abs_0f7a4_6 rfl ?_
    exact r_iret d_J9_abs_0f7a4_10 rfl rfl (Nat.le_refl 0) (Nat.le_refl 0) ⟨_, rfl, rfl, rfl, h⟩
theorem v_J9_max_7cf53_0 {l : Launch} {d N : Nat} {Λ : Lay} {P : Int → Mem → Prop} {σ : Mem} {x0 x1 : Int}
    (h : ((x0 < x1 → P x1 σ) ∧ (¬ (x0 < x1) → P x0 σ))) :
    WI l mJ9_max_7cf53 d P 0 [(0, x0), (0, x1)] [] N Λ σ := by
  refine r_iload_n (x := x0) d_J9_max_7cf53_0 rfl ?_
  refine r_iload_n (x := x1) d_J9_max_7cf53_1 rfl ?_
  refine r_ic_lt (tgt := 9) d_J9_max_7cf53_2 rfl (fun hc => ?_) (fun hc => ?_)
  · have h := h.1 hc
    refine r_iload_n (x := x1) d_J9_max_7cf53_9 rfl ?_
    exact r_iret d_J9_max_7cf53_10 rfl rfl (Nat.le_refl 0) (Nat.le_refl 0) ⟨_, rfl, rfl, rfl, h⟩
  · have h := h.2 hc
    refine r_iload_n (x := x0) d_J9_max_7cf53_5 rfl ?_
    refine r_goto (tgt := 10) d_J9_max_7cf53_6 rfl ?_
    exact r_iret d_J9_max_7cf53_10 rfl rfl (Nat.le_refl 0) (Nat.le_refl 0) ⟨_, rfl, rfl, rfl, h⟩
theorem v_J9_min_7cf53_0 {l : Launch} {d N : Nat} {Λ : Lay} {P : Int → Mem → Prop} {σ : Mem} {x0 x1 : Int}
    (h : ((x1 < x0 → P x1 σ) ∧ (¬ (x1 < x0) → P x0 σ))) :
    WI l mJ9_min_7cf53 d P 0 [(0, x0), (0, x1)] [] N Λ σ := by
  refine r_iload_n (x := x0) d_J9_min_7cf53_0 rfl ?_
  refine r_iload_n (x := x1) d_J9_min_7cf53_1 rfl ?_
  refine r_ic_gt (tgt := 9) d_J9_min_7cf53_2 rfl (fun hc => ?_) (fun hc => ?_)
  · have h := h.1 hc
    refine r_iload_n (x := x1) d_J9_min_7cf53_9 rfl ?_
    exact r_iret d_J9_min_7cf53_10 rfl rfl (Nat.le_refl 0) (Nat.le_refl 0) ⟨_, rfl, rfl, rfl, h⟩
  · have h := h.2 hc
    refine r_iload_n (x := x0) d_J9_min_7cf53_5 rfl ?_
    refine r_goto (tgt := 10) d_J9_min_7cf53_6 rfl ?_
    exact r_iret d_J9_min_7cf53_10 rfl rfl (Nat.le_refl 0) (Nat.le_refl 0) ⟨_, rfl, rfl, rfl, h⟩
theorem v_J7_fill_53178_0 {l : Launch} {d N : Nat} {Λ : Lay} {P : Mem → Prop} {σ : Mem} {x1 a0 n_a0 : Int} (z_a0 : 0 ≤ a0) (q_a0 : Ob N Λ a0 0 n_a0 ∧ 0 ≤ n_a0 ∧ n_a0 ≤ 2147483647)
    (h : WV l mJ7_fill_53178 d P 5 [(2, a0), (0, x1), (0, 0), (0, n_a0)] [] N Λ σ) :
    WV l mJ7_fill_53178 d P 0 [(2, a0), (0, x1), (3, 0), (3, 0)] [] N Λ σ := by
  refine r_iconst (x := 0) d_J7_fill_53178_0 ⟨by decide, by decide⟩ ?_
  refine r_istore_n (L2 := [(2, a0), (0, x1), (0, 0), (3, 0)]) d_J7_fill_53178_1 (by decide) rfl rfl ?_
  refine r_aload_n (x := a0) d_J7_fill_53178_2 rfl z_a0 ?_
  refine r_alen (len := n_a0) d_J7_fill_53178_3 q_a0.1.1 q_a0.1.2.1 (by rw [q_a0.1.2.2.1]; decide) q_a0.1.2.2.2 q_a0.2.1 q_a0.2.2 ?_
  refine r_istore_n (L2 := [(2, a0), (0, x1), (0, 0), (0, n_a0)]) d_J7_fill_53178_4 (by decide) rfl rfl ?_
  exact h
theorem v_J7_fill_53178_5 {l : Launch} {d N : Nat} {Λ : Lay} {P : Mem → Prop} {σ : Mem} {x1 x2 x3 a0 : Int} (z_a0 : 0 ≤ a0)
    (h : ((x3 ≤ x2 → P σ) ∧ (¬ (x3 ≤ x2) → (Ix N Λ a0 0 x2 ∧ (∀ τ1, τ1 = st σ a0 x2 x1 → (∀ y2, y2 = addI x2 1 → WV l mJ7_fill_53178 d P 5 [(2, a0), (0, x1), (0, y2), (0, x3)] [] N Λ τ1)))))) :
    WV l mJ7_fill_53178 d P 5 [(2, a0), (0, x1), (0, x2), (0, x3)] [] N Λ σ := by
  refine r_iload_n (x := x2) d_J7_fill_53178_5 rfl ?_
  refine r_iload_n (x := x3) d_J7_fill_53178_6 rfl ?_
  refine r_ic_ge (tgt := 20) d_J7_fill_53178_7 rfl (fun hc => ?_) (fun hc => ?_)
  · have h := h.1 hc
    exact r_vret d_J7_fill_53178_20 rfl (Nat.le_refl 0) (Nat.le_refl 0) ⟨rfl, rfl, rfl, h⟩
  · have h := h.2 hc
    refine r_aload_n (x := a0) d_J7_fill_53178_10 rfl z_a0 ?_
    refine r_iload_n (x := x2) d_J7_fill_53178_11 rfl ?_
    refine r_iload_n (x := x1) d_J7_fill_53178_12 rfl ?_
    refine x_iast d_J7_fill_53178_13 h.1 ?_
    have h := h.2
    refine r_nmM (fun τ1 eτ1 => ?_)
    have h := h τ1 eτ1
    refine x_iinc (x := x2) (L := [(2, a0), (0, x1), (0, x2), (0, x3)]) d_J7_fill_53178_14 rfl (by decide) rfl (fun y2 ey2 => ?_)
    have h := h y2 ey2
    show WP _ _ _ _ _ _ _ _ [(2, a0), (0, x1), (0, y2), (0, x3)] _ _ _ _
    refine r_goto (tgt := 5) d_J7_fill_53178_17 rfl ?_
    exact h
