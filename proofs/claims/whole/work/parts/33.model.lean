theorem d_X12_forms_0 : DC mX12_forms 0 (.aload_n 0) 1 1 := ⟨by decide +kernel, rfl⟩
theorem d_X12_forms_1 : DC mX12_forms 1 (.iconst 0) 1 2 := ⟨by decide +kernel, rfl⟩
theorem d_X12_forms_2 : DC mX12_forms 2 (.putfield 1) 3 5 := ⟨by decide +kernel, rfl⟩
theorem d_X12_forms_5 : DC mX12_forms 5 (.iload_n 1) 1 6 := ⟨by decide +kernel, rfl⟩
theorem d_X12_forms_6 : DC mX12_forms 6 (.invokestatic 199) 3 9 := ⟨by decide +kernel, rfl⟩
theorem d_X12_forms_9 : DC mX12_forms 9 (.ifCond .ne 6) 3 12 := ⟨by decide +kernel, rfl⟩
theorem d_X12_forms_12 : DC mX12_forms 12 (.bipush (-2)) 2 14 := ⟨by decide +kernel, rfl⟩
theorem d_X12_forms_14 : DC mX12_forms 14 (.ireturn) 1 15 := ⟨by decide +kernel, rfl⟩
theorem d_X12_forms_15 : DC mX12_forms 15 (.aload_n 0) 1 16 := ⟨by decide +kernel, rfl⟩
theorem d_X12_forms_16 : DC mX12_forms 16 (.getfield 20) 3 19 := ⟨by decide +kernel, rfl⟩
theorem d_X12_forms_19 : DC mX12_forms 19 (.sipush 161) 3 22 := ⟨by decide +kernel, rfl⟩
theorem d_X12_forms_22 : DC mX12_forms 22 (.iload_n 1) 1 23 := ⟨by decide +kernel, rfl⟩
theorem d_X12_forms_23 : DC mX12_forms 23 (.imul) 1 24 := ⟨by decide +kernel, rfl⟩
theorem d_X12_forms_24 : DC mX12_forms 24 (.iaload) 1 25 := ⟨by decide +kernel, rfl⟩
theorem d_X12_forms_25 : DC mX12_forms 25 (.ifCond .ne 5) 3 28 := ⟨by decide +kernel, rfl⟩
theorem d_X12_forms_28 : DC mX12_forms 28 (.iconst (-1)) 1 29 := ⟨by decide +kernel, rfl⟩
theorem d_X12_forms_29 : DC mX12_forms 29 (.ireturn) 1 30 := ⟨by decide +kernel, rfl⟩
theorem d_X12_forms_30 : DC mX12_forms 30 (.aload_n 0) 1 31 := ⟨by decide +kernel, rfl⟩
theorem d_X12_forms_31 : DC mX12_forms 31 (.iload_n 1) 1 32 := ⟨by decide +kernel, rfl⟩
theorem d_X12_forms_32 : DC mX12_forms 32 (.ldc_w 369) 3 35 := ⟨by decide +kernel, rfl⟩
theorem d_X12_forms_35 : DC mX12_forms 35 (.invokevirtual 370) 3 38 := ⟨by decide +kernel, rfl⟩
theorem d_X12_forms_38 : DC mX12_forms 38 (.istore_n 2) 1 39 := ⟨by decide +kernel, rfl⟩
theorem d_X12_forms_39 : DC mX12_forms 39 (.aload_n 0) 1 40 := ⟨by decide +kernel, rfl⟩
theorem d_X12_forms_40 : DC mX12_forms 40 (.getfield 358) 3 43 := ⟨by decide +kernel, rfl⟩
theorem d_X12_forms_43 : DC mX12_forms 43 (.ireturn) 1 44 := ⟨by decide +kernel, rfl⟩
theorem d_X12_form_0 : DC mX12_form 0 (.aload_n 0) 1 1 := ⟨by decide +kernel, rfl⟩
theorem d_X12_form_1 : DC mX12_form 1 (.iconst 0) 1 2 := ⟨by decide +kernel, rfl⟩
theorem d_X12_form_2 : DC mX12_form 2 (.putfield 1) 3 5 := ⟨by decide +kernel, rfl⟩
theorem d_X12_form_5 : DC mX12_form 5 (.iload_n 1) 1 6 := ⟨by decide +kernel, rfl⟩
theorem d_X12_form_6 : DC mX12_form 6 (.invokestatic 199) 3 9 := ⟨by decide +kernel, rfl⟩
theorem d_X12_form_9 : DC mX12_form 9 (.ifCond .ne 6) 3 12 := ⟨by decide +kernel, rfl⟩
theorem d_X12_form_12 : DC mX12_form 12 (.bipush (-2)) 2 14 := ⟨by decide +kernel, rfl⟩
theorem d_X12_form_14 : DC mX12_form 14 (.ireturn) 1 15 := ⟨by decide +kernel, rfl⟩
theorem d_X12_form_15 : DC mX12_form 15 (.iload_n 2) 1 16 := ⟨by decide +kernel, rfl⟩
theorem d_X12_form_16 : DC mX12_form 16 (.ifCond .lt 7) 3 19 := ⟨by decide +kernel, rfl⟩
theorem d_X12_form_19 : DC mX12_form 19 (.iload_n 3) 1 20 := ⟨by decide +kernel, rfl⟩
theorem d_X12_form_20 : DC mX12_form 20 (.ifCond .ge 6) 3 23 := ⟨by decide +kernel, rfl⟩
theorem d_X12_form_23 : DC mX12_form 23 (.bipush (-3)) 2 25 := ⟨by decide +kernel, rfl⟩
theorem d_X12_form_25 : DC mX12_form 25 (.ireturn) 1 26 := ⟨by decide +kernel, rfl⟩
theorem d_X12_form_26 : DC mX12_form 26 (.aload_n 0) 1 27 := ⟨by decide +kernel, rfl⟩
theorem d_X12_form_27 : DC mX12_form 27 (.getfield 20) 3 30 := ⟨by decide +kernel, rfl⟩
theorem d_X12_form_30 : DC mX12_form 30 (.sipush 161) 3 33 := ⟨by decide +kernel, rfl⟩
theorem d_X12_form_33 : DC mX12_form 33 (.iload_n 1) 1 34 := ⟨by decide +kernel, rfl⟩
theorem d_X12_form_34 : DC mX12_form 34 (.imul) 1 35 := ⟨by decide +kernel, rfl⟩
theorem d_X12_form_35 : DC mX12_form 35 (.iaload) 1 36 := ⟨by decide +kernel, rfl⟩
theorem d_X12_form_36 : DC mX12_form 36 (.ifCond .eq 22) 3 39 := ⟨by decide +kernel, rfl⟩
theorem d_X12_form_39 : DC mX12_form 39 (.aload_n 0) 1 40 := ⟨by decide +kernel, rfl⟩
theorem d_X12_form_40 : DC mX12_form 40 (.iload_n 1) 1 41 := ⟨by decide +kernel, rfl⟩
theorem d_X12_form_41 : DC mX12_form 41 (.iload_n 2) 1 42 := ⟨by decide +kernel, rfl⟩
theorem d_X12_form_42 : DC mX12_form 42 (.invokevirtual 370) 3 45 := ⟨by decide +kernel, rfl⟩
theorem d_X12_form_45 : DC mX12_form 45 (.ifCond .eq 13) 3 48 := ⟨by decide +kernel, rfl⟩
theorem d_X12_form_48 : DC mX12_form 48 (.iload_n 3) 1 49 := ⟨by decide +kernel, rfl⟩
theorem d_X12_form_49 : DC mX12_form 49 (.iconst 3) 1 50 := ⟨by decide +kernel, rfl⟩
theorem d_X12_form_50 : DC mX12_form 50 (.aload_n 0) 1 51 := ⟨by decide +kernel, rfl⟩
theorem d_X12_form_51 : DC mX12_form 51 (.getfield 355) 3 54 := ⟨by decide +kernel, rfl⟩
theorem d_X12_form_54 : DC mX12_form 54 (.imul) 1 55 := ⟨by decide +kernel, rfl⟩
theorem d_X12_form_55 : DC mX12_form 55 (.if_icmp .lt 5) 3 58 := ⟨by decide +kernel, rfl⟩
theorem d_X12_form_58 : DC mX12_form 58 (.iconst (-1)) 1 59 := ⟨by decide +kernel, rfl⟩
theorem d_X12_form_59 : DC mX12_form 59 (.ireturn) 1 60 := ⟨by decide +kernel, rfl⟩
theorem d_X12_form_60 : DC mX12_form 60 (.aload_n 0) 1 61 := ⟨by decide +kernel, rfl⟩
theorem d_X12_form_61 : DC mX12_form 61 (.getfield 17) 3 64 := ⟨by decide +kernel, rfl⟩
theorem d_X12_form_64 : DC mX12_form 64 (.iconst 3) 1 65 := ⟨by decide +kernel, rfl⟩
theorem d_X12_form_65 : DC mX12_form 65 (.aload_n 0) 1 66 := ⟨by decide +kernel, rfl⟩
theorem d_X12_form_66 : DC mX12_form 66 (.getfield 67) 3 69 := ⟨by decide +kernel, rfl⟩
theorem d_X12_form_69 : DC mX12_form 69 (.iload_n 3) 1 70 := ⟨by decide +kernel, rfl⟩
theorem d_X12_form_70 : DC mX12_form 70 (.iconst 3) 1 71 := ⟨by decide +kernel, rfl⟩
theorem d_X12_form_71 : DC mX12_form 71 (.idiv) 1 72 := ⟨by decide +kernel, rfl⟩
theorem d_X12_form_72 : DC mX12_form 72 (.iaload) 1 73 := ⟨by decide +kernel, rfl⟩
theorem d_X12_form_73 : DC mX12_form 73 (.imul) 1 74 := ⟨by decide +kernel, rfl⟩
theorem d_X12_form_74 : DC mX12_form 74 (.iload_n 3) 1 75 := ⟨by decide +kernel, rfl⟩
theorem d_X12_form_75 : DC mX12_form 75 (.iconst 3) 1 76 := ⟨by decide +kernel, rfl⟩
theorem d_X12_form_76 : DC mX12_form 76 (.irem) 1 77 := ⟨by decide +kernel, rfl⟩
theorem d_X12_form_77 : DC mX12_form 77 (.iadd) 1 78 := ⟨by decide +kernel, rfl⟩
theorem d_X12_form_78 : DC mX12_form 78 (.iaload) 1 79 := ⟨by decide +kernel, rfl⟩
theorem d_X12_form_79 : DC mX12_form 79 (.ireturn) 1 80 := ⟨by decide +kernel, rfl⟩
theorem d_X12_columnOf_0 : DC mX12_columnOf 0 (.iconst 0) 1 1 := ⟨by decide +kernel, rfl⟩
theorem d_X12_columnOf_1 : DC mX12_columnOf 1 (.istore_n 2) 1 2 := ⟨by decide +kernel, rfl⟩
theorem d_X12_columnOf_2 : DC mX12_columnOf 2 (.iload_n 2) 1 3 := ⟨by decide +kernel, rfl⟩
theorem d_X12_columnOf_3 : DC mX12_columnOf 3 (.aload_n 0) 1 4 := ⟨by decide +kernel, rfl⟩
theorem d_X12_columnOf_4 : DC mX12_columnOf 4 (.getfield 373) 3 7 := ⟨by decide +kernel, rfl⟩
theorem d_X12_columnOf_7 : DC mX12_columnOf 7 (.if_icmp .ge 21) 3 10 := ⟨by decide +kernel, rfl⟩
theorem d_X12_columnOf_10 : DC mX12_columnOf 10 (.aload_n 0) 1 11 := ⟨by decide +kernel, rfl⟩
theorem d_X12_columnOf_11 : DC mX12_columnOf 11 (.getfield 70) 3 14 := ⟨by decide +kernel, rfl⟩
theorem d_X12_columnOf_14 : DC mX12_columnOf 14 (.iload_n 2) 1 15 := ⟨by decide +kernel, rfl⟩
theorem d_X12_columnOf_15 : DC mX12_columnOf 15 (.iaload) 1 16 := ⟨by decide +kernel, rfl⟩
theorem d_X12_columnOf_16 : DC mX12_columnOf 16 (.iload_n 1) 1 17 := ⟨by decide +kernel, rfl⟩
theorem d_X12_columnOf_17 : DC mX12_columnOf 17 (.if_icmp .ne 5) 3 20 := ⟨by decide +kernel, rfl⟩
theorem d_X12_columnOf_20 : DC mX12_columnOf 20 (.iload_n 2) 1 21 := ⟨by decide +kernel, rfl⟩
theorem d_X12_columnOf_21 : DC mX12_columnOf 21 (.ireturn) 1 22 := ⟨by decide +kernel, rfl⟩
theorem d_X12_columnOf_22 : DC mX12_columnOf 22 (.iinc 2 1) 3 25 := ⟨by decide +kernel, rfl⟩
theorem d_X12_columnOf_25 : DC mX12_columnOf 25 (.goto (-23)) 3 28 := ⟨by decide +kernel, rfl⟩
theorem d_X12_columnOf_28 : DC mX12_columnOf 28 (.aload_n 0) 1 29 := ⟨by decide +kernel, rfl⟩
theorem d_X12_columnOf_29 : DC mX12_columnOf 29 (.getfield 70) 3 32 := ⟨by decide +kernel, rfl⟩
theorem d_X12_columnOf_32 : DC mX12_columnOf 32 (.aload_n 0) 1 33 := ⟨by decide +kernel, rfl⟩
theorem d_X12_columnOf_33 : DC mX12_columnOf 33 (.getfield 373) 3 36 := ⟨by decide +kernel, rfl⟩
theorem d_X12_columnOf_36 : DC mX12_columnOf 36 (.iload_n 1) 1 37 := ⟨by decide +kernel, rfl⟩
theorem d_X12_columnOf_37 : DC mX12_columnOf 37 (.iastore) 1 38 := ⟨by decide +kernel, rfl⟩
theorem d_X12_columnOf_38 : DC mX12_columnOf 38 (.aload_n 0) 1 39 := ⟨by decide +kernel, rfl⟩
theorem d_X12_columnOf_39 : DC mX12_columnOf 39 (.dup) 1 40 := ⟨by decide +kernel, rfl⟩
theorem d_X12_columnOf_40 : DC mX12_columnOf 40 (.getfield 373) 3 43 := ⟨by decide +kernel, rfl⟩
theorem d_X12_columnOf_43 : DC mX12_columnOf 43 (.iconst 1) 1 44 := ⟨by decide +kernel, rfl⟩
theorem d_X12_columnOf_44 : DC mX12_columnOf 44 (.iadd) 1 45 := ⟨by decide +kernel, rfl⟩
theorem d_X12_columnOf_45 : DC mX12_columnOf 45 (.putfield 373) 3 48 := ⟨by decide +kernel, rfl⟩
theorem d_X12_columnOf_48 : DC mX12_columnOf 48 (.aload_n 0) 1 49 := ⟨by decide +kernel, rfl⟩
theorem d_X12_columnOf_49 : DC mX12_columnOf 49 (.getfield 373) 3 52 := ⟨by decide +kernel, rfl⟩
theorem d_X12_columnOf_52 : DC mX12_columnOf 52 (.iconst 1) 1 53 := ⟨by decide +kernel, rfl⟩
theorem d_X12_columnOf_53 : DC mX12_columnOf 53 (.isub) 1 54 := ⟨by decide +kernel, rfl⟩
theorem d_X12_columnOf_54 : DC mX12_columnOf 54 (.ireturn) 1 55 := ⟨by decide +kernel, rfl⟩
theorem d_X12_modulo_0 : DC mX12_modulo 0 (.lload_n 0) 1 1 := ⟨by decide +kernel, rfl⟩
theorem d_X12_modulo_1 : DC mX12_modulo 1 (.ldc2_w 376) 3 4 := ⟨by decide +kernel, rfl⟩
theorem d_X12_modulo_4 : DC mX12_modulo 4 (.lrem) 1 5 := ⟨by decide +kernel, rfl⟩
theorem d_X12_modulo_5 : DC mX12_modulo 5 (.ldc2_w 376) 3 8 := ⟨by decide +kernel, rfl⟩
theorem d_X12_modulo_8 : DC mX12_modulo 8 (.ladd) 1 9 := ⟨by decide +kernel, rfl⟩
theorem d_X12_modulo_9 : DC mX12_modulo 9 (.ldc2_w 376) 3 12 := ⟨by decide +kernel, rfl⟩
theorem d_X12_modulo_12 : DC mX12_modulo 12 (.lrem) 1 13 := ⟨by decide +kernel, rfl⟩
theorem d_X12_modulo_13 : DC mX12_modulo 13 (.lreturn) 1 14 := ⟨by decide +kernel, rfl⟩
theorem d_X12_inverse_0 : DC mX12_inverse 0 (.lconst 1) 1 1 := ⟨by decide +kernel, rfl⟩
theorem d_X12_inverse_1 : DC mX12_inverse 1 (.lstore_n 2) 1 2 := ⟨by decide +kernel, rfl⟩
theorem d_X12_inverse_2 : DC mX12_inverse 2 (.lload_n 0) 1 3 := ⟨by decide +kernel, rfl⟩
theorem d_X12_inverse_3 : DC mX12_inverse 3 (.lstore 4) 2 5 := ⟨by decide +kernel, rfl⟩
theorem d_X12_inverse_5 : DC mX12_inverse 5 (.ldc_w 378) 3 8 := ⟨by decide +kernel, rfl⟩
theorem d_X12_inverse_8 : DC mX12_inverse 8 (.istore 6) 2 10 := ⟨by decide +kernel, rfl⟩
theorem d_X12_inverse_10 : DC mX12_inverse 10 (.iload 6) 2 12 := ⟨by decide +kernel, rfl⟩
theorem d_X12_inverse_12 : DC mX12_inverse 12 (.ifCond .le 44) 3 15 := ⟨by decide +kernel, rfl⟩
theorem d_X12_inverse_15 : DC mX12_inverse 15 (.iload 6) 2 17 := ⟨by decide +kernel, rfl⟩
theorem d_X12_inverse_17 : DC mX12_inverse 17 (.iconst 2) 1 18 := ⟨by decide +kernel, rfl⟩
theorem d_X12_inverse_18 : DC mX12_inverse 18 (.irem) 1 19 := ⟨by decide +kernel, rfl⟩
theorem d_X12_inverse_19 : DC mX12_inverse 19 (.iconst 1) 1 20 := ⟨by decide +kernel, rfl⟩
theorem d_X12_inverse_20 : DC mX12_inverse 20 (.if_icmp .ne 14) 3 23 := ⟨by decide +kernel, rfl⟩
theorem d_X12_inverse_23 : DC mX12_inverse 23 (.lload_n 2) 1 24 := ⟨by decide +kernel, rfl⟩
theorem d_X12_inverse_24 : DC mX12_inverse 24 (.lload 4) 2 26 := ⟨by decide +kernel, rfl⟩
theorem d_X12_inverse_26 : DC mX12_inverse 26 (.lmul) 1 27 := ⟨by decide +kernel, rfl⟩
theorem d_X12_inverse_27 : DC mX12_inverse 27 (.ldc2_w 376) 3 30 := ⟨by decide +kernel, rfl⟩
theorem d_X12_inverse_30 : DC mX12_inverse 30 (.lrem) 1 31 := ⟨by decide +kernel, rfl⟩
theorem d_X12_inverse_31 : DC mX12_inverse 31 (.goto 4) 3 34 := ⟨by decide +kernel, rfl⟩
theorem d_X12_inverse_34 : DC mX12_inverse 34 (.lload_n 2) 1 35 := ⟨by decide +kernel, rfl⟩
theorem d_X12_inverse_35 : DC mX12_inverse 35 (.lstore_n 2) 1 36 := ⟨by decide +kernel, rfl⟩
theorem d_X12_inverse_36 : DC mX12_inverse 36 (.lload 4) 2 38 := ⟨by decide +kernel, rfl⟩
theorem d_X12_inverse_38 : DC mX12_inverse 38 (.lload 4) 2 40 := ⟨by decide +kernel, rfl⟩
theorem d_X12_inverse_40 : DC mX12_inverse 40 (.lmul) 1 41 := ⟨by decide +kernel, rfl⟩
theorem d_X12_inverse_41 : DC mX12_inverse 41 (.ldc2_w 376) 3 44 := ⟨by decide +kernel, rfl⟩
theorem d_X12_inverse_44 : DC mX12_inverse 44 (.lrem) 1 45 := ⟨by decide +kernel, rfl⟩
theorem d_X12_inverse_45 : DC mX12_inverse 45 (.lstore 4) 2 47 := ⟨by decide +kernel, rfl⟩
theorem d_X12_inverse_47 : DC mX12_inverse 47 (.iload 6) 2 49 := ⟨by decide +kernel, rfl⟩
theorem d_X12_inverse_49 : DC mX12_inverse 49 (.iconst 2) 1 50 := ⟨by decide +kernel, rfl⟩
theorem d_X12_inverse_50 : DC mX12_inverse 50 (.idiv) 1 51 := ⟨by decide +kernel, rfl⟩
theorem d_X12_inverse_51 : DC mX12_inverse 51 (.istore 6) 2 53 := ⟨by decide +kernel, rfl⟩
theorem d_X12_inverse_53 : DC mX12_inverse 53 (.goto (-43)) 3 56 := ⟨by decide +kernel, rfl⟩
theorem d_X12_inverse_56 : DC mX12_inverse 56 (.lload_n 2) 1 57 := ⟨by decide +kernel, rfl⟩
theorem d_X12_inverse_57 : DC mX12_inverse 57 (.lreturn) 1 58 := ⟨by decide +kernel, rfl⟩
theorem d_X12_clears_0 : DC mX12_clears 0 (.aload_n 0) 1 1 := ⟨by decide +kernel, rfl⟩
theorem d_X12_clears_1 : DC mX12_clears 1 (.getfield 73) 3 4 := ⟨by decide +kernel, rfl⟩
theorem d_X12_clears_4 : DC mX12_clears 4 (.sipush 480) 3 7 := ⟨by decide +kernel, rfl⟩
theorem d_X12_clears_7 : DC mX12_clears 7 (.iload_n 1) 1 8 := ⟨by decide +kernel, rfl⟩
theorem d_X12_clears_8 : DC mX12_clears 8 (.imul) 1 9 := ⟨by decide +kernel, rfl⟩
theorem d_X12_clears_9 : DC mX12_clears 9 (.iload_n 3) 1 10 := ⟨by decide +kernel, rfl⟩
theorem d_X12_clears_10 : DC mX12_clears 10 (.iadd) 1 11 := ⟨by decide +kernel, rfl⟩
theorem d_X12_clears_11 : DC mX12_clears 11 (.laload) 1 12 := ⟨by decide +kernel, rfl⟩
theorem d_X12_clears_12 : DC mX12_clears 12 (.invokestatic 379) 3 15 := ⟨by decide +kernel, rfl⟩
theorem d_X12_clears_15 : DC mX12_clears 15 (.lstore 4) 2 17 := ⟨by decide +kernel, rfl⟩
theorem d_X12_clears_17 : DC mX12_clears 17 (.iload_n 1) 1 18 := ⟨by decide +kernel, rfl⟩
theorem d_X12_clears_18 : DC mX12_clears 18 (.iconst 1) 1 19 := ⟨by decide +kernel, rfl⟩
theorem d_X12_clears_19 : DC mX12_clears 19 (.iadd) 1 20 := ⟨by decide +kernel, rfl⟩
theorem d_X12_clears_20 : DC mX12_clears 20 (.istore 6) 2 22 := ⟨by decide +kernel, rfl⟩
theorem d_X12_clears_22 : DC mX12_clears 22 (.iload 6) 2 24 := ⟨by decide +kernel, rfl⟩
theorem d_X12_clears_24 : DC mX12_clears 24 (.iload_n 2) 1 25 := ⟨by decide +kernel, rfl⟩
theorem d_X12_clears_25 : DC mX12_clears 25 (.if_icmp .ge 101) 3 28 := ⟨by decide +kernel, rfl⟩
theorem d_X12_clears_28 : DC mX12_clears 28 (.aload_n 0) 1 29 := ⟨by decide +kernel, rfl⟩
theorem d_X12_clears_29 : DC mX12_clears 29 (.getfield 73) 3 32 := ⟨by decide +kernel, rfl⟩
theorem d_X12_clears_32 : DC mX12_clears 32 (.sipush 480) 3 35 := ⟨by decide +kernel, rfl⟩
theorem d_X12_clears_35 : DC mX12_clears 35 (.iload 6) 2 37 := ⟨by decide +kernel, rfl⟩
theorem d_X12_clears_37 : DC mX12_clears 37 (.imul) 1 38 := ⟨by decide +kernel, rfl⟩
theorem d_X12_clears_38 : DC mX12_clears 38 (.iload_n 3) 1 39 := ⟨by decide +kernel, rfl⟩
theorem d_X12_clears_39 : DC mX12_clears 39 (.iadd) 1 40 := ⟨by decide +kernel, rfl⟩
theorem d_X12_clears_40 : DC mX12_clears 40 (.laload) 1 41 := ⟨by decide +kernel, rfl⟩
theorem d_X12_clears_41 : DC mX12_clears 41 (.lload 4) 2 43 := ⟨by decide +kernel, rfl⟩
theorem d_X12_clears_43 : DC mX12_clears 43 (.lmul) 1 44 := ⟨by decide +kernel, rfl⟩
theorem d_X12_clears_44 : DC mX12_clears 44 (.ldc2_w 376) 3 47 := ⟨by decide +kernel, rfl⟩
theorem d_X12_clears_47 : DC mX12_clears 47 (.lrem) 1 48 := ⟨by decide +kernel, rfl⟩
theorem d_X12_clears_48 : DC mX12_clears 48 (.lstore 7) 2 50 := ⟨by decide +kernel, rfl⟩
theorem d_X12_clears_50 : DC mX12_clears 50 (.iconst 0) 1 51 := ⟨by decide +kernel, rfl⟩
theorem d_X12_clears_51 : DC mX12_clears 51 (.istore 9) 2 53 := ⟨by decide +kernel, rfl⟩
theorem d_X12_clears_53 : DC mX12_clears 53 (.iload 9) 2 55 := ⟨by decide +kernel, rfl⟩
theorem d_X12_clears_55 : DC mX12_clears 55 (.aload_n 0) 1 56 := ⟨by decide +kernel, rfl⟩
theorem d_X12_clears_56 : DC mX12_clears 56 (.getfield 373) 3 59 := ⟨by decide +kernel, rfl⟩
theorem d_X12_clears_59 : DC mX12_clears 59 (.if_icmp .ge 61) 3 62 := ⟨by decide +kernel, rfl⟩
theorem d_X12_clears_62 : DC mX12_clears 62 (.aload_n 0) 1 63 := ⟨by decide +kernel, rfl⟩
theorem d_X12_clears_63 : DC mX12_clears 63 (.getfield 73) 3 66 := ⟨by decide +kernel, rfl⟩
theorem d_X12_clears_66 : DC mX12_clears 66 (.sipush 480) 3 69 := ⟨by decide +kernel, rfl⟩
theorem d_X12_clears_69 : DC mX12_clears 69 (.iload 6) 2 71 := ⟨by decide +kernel, rfl⟩
theorem d_X12_clears_71 : DC mX12_clears 71 (.imul) 1 72 := ⟨by decide +kernel, rfl⟩
theorem d_X12_clears_72 : DC mX12_clears 72 (.iload 9) 2 74 := ⟨by decide +kernel, rfl⟩
theorem d_X12_clears_74 : DC mX12_clears 74 (.iadd) 1 75 := ⟨by decide +kernel, rfl⟩
theorem d_X12_clears_75 : DC mX12_clears 75 (.aload_n 0) 1 76 := ⟨by decide +kernel, rfl⟩
theorem d_X12_clears_76 : DC mX12_clears 76 (.getfield 73) 3 79 := ⟨by decide +kernel, rfl⟩
theorem d_X12_clears_79 : DC mX12_clears 79 (.sipush 480) 3 82 := ⟨by decide +kernel, rfl⟩
theorem d_X12_clears_82 : DC mX12_clears 82 (.iload 6) 2 84 := ⟨by decide +kernel, rfl⟩
theorem d_X12_clears_84 : DC mX12_clears 84 (.imul) 1 85 := ⟨by decide +kernel, rfl⟩
theorem d_X12_clears_85 : DC mX12_clears 85 (.iload 9) 2 87 := ⟨by decide +kernel, rfl⟩
theorem d_X12_clears_87 : DC mX12_clears 87 (.iadd) 1 88 := ⟨by decide +kernel, rfl⟩
theorem d_X12_clears_88 : DC mX12_clears 88 (.laload) 1 89 := ⟨by decide +kernel, rfl⟩
theorem d_X12_clears_89 : DC mX12_clears 89 (.lload 7) 2 91 := ⟨by decide +kernel, rfl⟩
theorem d_X12_clears_91 : DC mX12_clears 91 (.aload_n 0) 1 92 := ⟨by decide +kernel, rfl⟩
theorem d_X12_clears_92 : DC mX12_clears 92 (.getfield 73) 3 95 := ⟨by decide +kernel, rfl⟩
theorem d_X12_clears_95 : DC mX12_clears 95 (.sipush 480) 3 98 := ⟨by decide +kernel, rfl⟩
theorem d_X12_clears_98 : DC mX12_clears 98 (.iload_n 1) 1 99 := ⟨by decide +kernel, rfl⟩
theorem d_X12_clears_99 : DC mX12_clears 99 (.imul) 1 100 := ⟨by decide +kernel, rfl⟩
theorem d_X12_clears_100 : DC mX12_clears 100 (.iload 9) 2 102 := ⟨by decide +kernel, rfl⟩
theorem d_X12_clears_102 : DC mX12_clears 102 (.iadd) 1 103 := ⟨by decide +kernel, rfl⟩
theorem d_X12_clears_103 : DC mX12_clears 103 (.laload) 1 104 := ⟨by decide +kernel, rfl⟩
theorem d_X12_clears_104 : DC mX12_clears 104 (.lmul) 1 105 := ⟨by decide +kernel, rfl⟩
theorem d_X12_clears_105 : DC mX12_clears 105 (.ldc2_w 376) 3 108 := ⟨by decide +kernel, rfl⟩
theorem d_X12_clears_108 : DC mX12_clears 108 (.lrem) 1 109 := ⟨by decide +kernel, rfl⟩
theorem d_X12_clears_109 : DC mX12_clears 109 (.lsub) 1 110 := ⟨by decide +kernel, rfl⟩
theorem d_X12_clears_110 : DC mX12_clears 110 (.invokestatic 383) 3 113 := ⟨by decide +kernel, rfl⟩
theorem d_X12_clears_113 : DC mX12_clears 113 (.lastore) 1 114 := ⟨by decide +kernel, rfl⟩
theorem d_X12_clears_114 : DC mX12_clears 114 (.iinc 9 1) 3 117 := ⟨by decide +kernel, rfl⟩
theorem d_X12_clears_117 : DC mX12_clears 117 (.goto (-64)) 3 120 := ⟨by decide +kernel, rfl⟩
theorem d_X12_clears_120 : DC mX12_clears 120 (.iinc 6 1) 3 123 := ⟨by decide +kernel, rfl⟩
theorem d_X12_clears_123 : DC mX12_clears 123 (.goto (-101)) 3 126 := ⟨by decide +kernel, rfl⟩
theorem d_X12_clears_126 : DC mX12_clears 126 (.return_) 1 127 := ⟨by decide +kernel, rfl⟩
theorem d_X12_swapsRows_0 : DC mX12_swapsRows 0 (.iconst 0) 1 1 := ⟨by decide +kernel, rfl⟩
theorem d_X12_swapsRows_1 : DC mX12_swapsRows 1 (.istore_n 3) 1 2 := ⟨by decide +kernel, rfl⟩
theorem d_X12_swapsRows_2 : DC mX12_swapsRows 2 (.iload_n 3) 1 3 := ⟨by decide +kernel, rfl⟩
theorem d_X12_swapsRows_3 : DC mX12_swapsRows 3 (.aload_n 0) 1 4 := ⟨by decide +kernel, rfl⟩
theorem d_X12_swapsRows_4 : DC mX12_swapsRows 4 (.getfield 373) 3 7 := ⟨by decide +kernel, rfl⟩
theorem d_X12_swapsRows_7 : DC mX12_swapsRows 7 (.if_icmp .ge 61) 3 10 := ⟨by decide +kernel, rfl⟩
theorem d_X12_swapsRows_10 : DC mX12_swapsRows 10 (.aload_n 0) 1 11 := ⟨by decide +kernel, rfl⟩
theorem d_X12_swapsRows_11 : DC mX12_swapsRows 11 (.getfield 73) 3 14 := ⟨by decide +kernel, rfl⟩
theorem d_X12_swapsRows_14 : DC mX12_swapsRows 14 (.sipush 480) 3 17 := ⟨by decide +kernel, rfl⟩
theorem d_X12_swapsRows_17 : DC mX12_swapsRows 17 (.iload_n 1) 1 18 := ⟨by decide +kernel, rfl⟩
theorem d_X12_swapsRows_18 : DC mX12_swapsRows 18 (.imul) 1 19 := ⟨by decide +kernel, rfl⟩
theorem d_X12_swapsRows_19 : DC mX12_swapsRows 19 (.iload_n 3) 1 20 := ⟨by decide +kernel, rfl⟩
theorem d_X12_swapsRows_20 : DC mX12_swapsRows 20 (.iadd) 1 21 := ⟨by decide +kernel, rfl⟩
theorem d_X12_swapsRows_21 : DC mX12_swapsRows 21 (.laload) 1 22 := ⟨by decide +kernel, rfl⟩
theorem d_X12_swapsRows_22 : DC mX12_swapsRows 22 (.lstore 4) 2 24 := ⟨by decide +kernel, rfl⟩
theorem d_X12_swapsRows_24 : DC mX12_swapsRows 24 (.aload_n 0) 1 25 := ⟨by decide +kernel, rfl⟩
theorem d_X12_swapsRows_25 : DC mX12_swapsRows 25 (.getfield 73) 3 28 := ⟨by decide +kernel, rfl⟩
theorem d_X12_swapsRows_28 : DC mX12_swapsRows 28 (.sipush 480) 3 31 := ⟨by decide +kernel, rfl⟩
theorem d_X12_swapsRows_31 : DC mX12_swapsRows 31 (.iload_n 1) 1 32 := ⟨by decide +kernel, rfl⟩
theorem d_X12_swapsRows_32 : DC mX12_swapsRows 32 (.imul) 1 33 := ⟨by decide +kernel, rfl⟩
theorem d_X12_swapsRows_33 : DC mX12_swapsRows 33 (.iload_n 3) 1 34 := ⟨by decide +kernel, rfl⟩
theorem d_X12_swapsRows_34 : DC mX12_swapsRows 34 (.iadd) 1 35 := ⟨by decide +kernel, rfl⟩
theorem d_X12_swapsRows_35 : DC mX12_swapsRows 35 (.aload_n 0) 1 36 := ⟨by decide +kernel, rfl⟩
theorem d_X12_swapsRows_36 : DC mX12_swapsRows 36 (.getfield 73) 3 39 := ⟨by decide +kernel, rfl⟩
theorem d_X12_swapsRows_39 : DC mX12_swapsRows 39 (.sipush 480) 3 42 := ⟨by decide +kernel, rfl⟩
theorem d_X12_swapsRows_42 : DC mX12_swapsRows 42 (.iload_n 2) 1 43 := ⟨by decide +kernel, rfl⟩
theorem d_X12_swapsRows_43 : DC mX12_swapsRows 43 (.imul) 1 44 := ⟨by decide +kernel, rfl⟩
theorem d_X12_swapsRows_44 : DC mX12_swapsRows 44 (.iload_n 3) 1 45 := ⟨by decide +kernel, rfl⟩
theorem d_X12_swapsRows_45 : DC mX12_swapsRows 45 (.iadd) 1 46 := ⟨by decide +kernel, rfl⟩
theorem d_X12_swapsRows_46 : DC mX12_swapsRows 46 (.laload) 1 47 := ⟨by decide +kernel, rfl⟩
theorem d_X12_swapsRows_47 : DC mX12_swapsRows 47 (.lastore) 1 48 := ⟨by decide +kernel, rfl⟩
theorem d_X12_swapsRows_48 : DC mX12_swapsRows 48 (.aload_n 0) 1 49 := ⟨by decide +kernel, rfl⟩
theorem d_X12_swapsRows_49 : DC mX12_swapsRows 49 (.getfield 73) 3 52 := ⟨by decide +kernel, rfl⟩
theorem d_X12_swapsRows_52 : DC mX12_swapsRows 52 (.sipush 480) 3 55 := ⟨by decide +kernel, rfl⟩
theorem d_X12_swapsRows_55 : DC mX12_swapsRows 55 (.iload_n 2) 1 56 := ⟨by decide +kernel, rfl⟩
theorem d_X12_swapsRows_56 : DC mX12_swapsRows 56 (.imul) 1 57 := ⟨by decide +kernel, rfl⟩
theorem d_X12_swapsRows_57 : DC mX12_swapsRows 57 (.iload_n 3) 1 58 := ⟨by decide +kernel, rfl⟩
theorem d_X12_swapsRows_58 : DC mX12_swapsRows 58 (.iadd) 1 59 := ⟨by decide +kernel, rfl⟩
theorem d_X12_swapsRows_59 : DC mX12_swapsRows 59 (.lload 4) 2 61 := ⟨by decide +kernel, rfl⟩
theorem d_X12_swapsRows_61 : DC mX12_swapsRows 61 (.lastore) 1 62 := ⟨by decide +kernel, rfl⟩
theorem d_X12_swapsRows_62 : DC mX12_swapsRows 62 (.iinc 3 1) 3 65 := ⟨by decide +kernel, rfl⟩
theorem d_X12_swapsRows_65 : DC mX12_swapsRows 65 (.goto (-63)) 3 68 := ⟨by decide +kernel, rfl⟩
theorem d_X12_swapsRows_68 : DC mX12_swapsRows 68 (.return_) 1 69 := ⟨by decide +kernel, rfl⟩
theorem d_X12_rank_0 : DC mX12_rank 0 (.aload_n 0) 1 1 := ⟨by decide +kernel, rfl⟩
theorem d_X12_rank_1 : DC mX12_rank 1 (.iconst 0) 1 2 := ⟨by decide +kernel, rfl⟩
theorem d_X12_rank_2 : DC mX12_rank 2 (.putfield 1) 3 5 := ⟨by decide +kernel, rfl⟩
theorem d_X12_rank_5 : DC mX12_rank 5 (.iload_n 1) 1 6 := ⟨by decide +kernel, rfl⟩
theorem d_X12_rank_6 : DC mX12_rank 6 (.i2l) 1 7 := ⟨by decide +kernel, rfl⟩
theorem d_X12_rank_7 : DC mX12_rank 7 (.lconst 0) 1 8 := ⟨by decide +kernel, rfl⟩
theorem d_X12_rank_8 : DC mX12_rank 8 (.ldc2_w 386) 3 11 := ⟨by decide +kernel, rfl⟩
theorem d_X12_rank_11 : DC mX12_rank 11 (.invokestatic 91) 3 14 := ⟨by decide +kernel, rfl⟩
theorem d_X12_rank_14 : DC mX12_rank 14 (.ifCond .ne 10) 3 17 := ⟨by decide +kernel, rfl⟩
theorem d_X12_rank_17 : DC mX12_rank 17 (.aload_n 0) 1 18 := ⟨by decide +kernel, rfl⟩
theorem d_X12_rank_18 : DC mX12_rank 18 (.bipush (-2)) 2 20 := ⟨by decide +kernel, rfl⟩
theorem d_X12_rank_20 : DC mX12_rank 20 (.invokevirtual 218) 3 23 := ⟨by decide +kernel, rfl⟩
theorem d_X12_rank_23 : DC mX12_rank 23 (.ireturn) 1 24 := ⟨by decide +kernel, rfl⟩
theorem d_X12_rank_24 : DC mX12_rank 24 (.aload_n 0) 1 25 := ⟨by decide +kernel, rfl⟩
theorem d_X12_rank_25 : DC mX12_rank 25 (.invokevirtual 202) 3 28 := ⟨by decide +kernel, rfl⟩
theorem d_X12_rank_28 : DC mX12_rank 28 (.aload_n 0) 1 29 := ⟨by decide +kernel, rfl⟩
theorem d_X12_rank_29 : DC mX12_rank 29 (.iconst 0) 1 30 := ⟨by decide +kernel, rfl⟩
theorem d_X12_rank_30 : DC mX12_rank 30 (.putfield 187) 3 33 := ⟨by decide +kernel, rfl⟩
theorem d_X12_rank_33 : DC mX12_rank 33 (.aload_n 0) 1 34 := ⟨by decide +kernel, rfl⟩
theorem d_X12_rank_34 : DC mX12_rank 34 (.iconst 0) 1 35 := ⟨by decide +kernel, rfl⟩
theorem d_X12_rank_35 : DC mX12_rank 35 (.putfield 373) 3 38 := ⟨by decide +kernel, rfl⟩
theorem d_X12_rank_38 : DC mX12_rank 38 (.iconst 0) 1 39 := ⟨by decide +kernel, rfl⟩
theorem d_X12_rank_39 : DC mX12_rank 39 (.istore_n 2) 1 40 := ⟨by decide +kernel, rfl⟩
theorem d_X12_rank_40 : DC mX12_rank 40 (.iconst 0) 1 41 := ⟨by decide +kernel, rfl⟩
theorem d_X12_rank_41 : DC mX12_rank 41 (.istore_n 3) 1 42 := ⟨by decide +kernel, rfl⟩
theorem d_X12_rank_42 : DC mX12_rank 42 (.iload_n 3) 1 43 := ⟨by decide +kernel, rfl⟩
theorem d_X12_rank_43 : DC mX12_rank 43 (.sipush 2880) 3 46 := ⟨by decide +kernel, rfl⟩
theorem d_X12_rank_46 : DC mX12_rank 46 (.if_icmp .ge 16) 3 49 := ⟨by decide +kernel, rfl⟩
theorem d_X12_rank_49 : DC mX12_rank 49 (.aload_n 0) 1 50 := ⟨by decide +kernel, rfl⟩
theorem d_X12_rank_50 : DC mX12_rank 50 (.getfield 73) 3 53 := ⟨by decide +kernel, rfl⟩
theorem d_X12_rank_53 : DC mX12_rank 53 (.iload_n 3) 1 54 := ⟨by decide +kernel, rfl⟩
theorem d_X12_rank_54 : DC mX12_rank 54 (.lconst 0) 1 55 := ⟨by decide +kernel, rfl⟩
theorem d_X12_rank_55 : DC mX12_rank 55 (.lastore) 1 56 := ⟨by decide +kernel, rfl⟩
theorem d_X12_rank_56 : DC mX12_rank 56 (.iinc 3 1) 3 59 := ⟨by decide +kernel, rfl⟩
theorem d_X12_rank_59 : DC mX12_rank 59 (.goto (-17)) 3 62 := ⟨by decide +kernel, rfl⟩
theorem d_X12_rank_62 : DC mX12_rank 62 (.iconst 0) 1 63 := ⟨by decide +kernel, rfl⟩
theorem d_X12_rank_63 : DC mX12_rank 63 (.istore_n 3) 1 64 := ⟨by decide +kernel, rfl⟩
theorem d_X12_rank_64 : DC mX12_rank 64 (.iload_n 3) 1 65 := ⟨by decide +kernel, rfl⟩
theorem d_X12_rank_65 : DC mX12_rank 65 (.bipush 6) 2 67 := ⟨by decide +kernel, rfl⟩
theorem d_X12_rank_67 : DC mX12_rank 67 (.if_icmp .ge 91) 3 70 := ⟨by decide +kernel, rfl⟩
theorem d_X12_rank_70 : DC mX12_rank 70 (.iload_n 1) 1 71 := ⟨by decide +kernel, rfl⟩
theorem d_X12_rank_71 : DC mX12_rank 71 (.iload_n 3) 1 72 := ⟨by decide +kernel, rfl⟩
theorem d_X12_rank_72 : DC mX12_rank 72 (.ishr) 1 73 := ⟨by decide +kernel, rfl⟩
theorem d_X12_rank_73 : DC mX12_rank 73 (.iconst 1) 1 74 := ⟨by decide +kernel, rfl⟩
theorem d_X12_rank_74 : DC mX12_rank 74 (.iand) 1 75 := ⟨by decide +kernel, rfl⟩
theorem d_X12_rank_75 : DC mX12_rank 75 (.ifCond .ne 6) 3 78 := ⟨by decide +kernel, rfl⟩
theorem d_X12_rank_78 : DC mX12_rank 78 (.goto 74) 3 81 := ⟨by decide +kernel, rfl⟩
theorem d_X12_rank_81 : DC mX12_rank 81 (.aload_n 0) 1 82 := ⟨by decide +kernel, rfl⟩
theorem d_X12_rank_82 : DC mX12_rank 82 (.iload_n 3) 1 83 := ⟨by decide +kernel, rfl⟩
theorem d_X12_rank_83 : DC mX12_rank 83 (.iconst 3) 1 84 := ⟨by decide +kernel, rfl⟩
theorem d_X12_rank_84 : DC mX12_rank 84 (.invokevirtual 349) 3 87 := ⟨by decide +kernel, rfl⟩
theorem d_X12_rank_87 : DC mX12_rank 87 (.istore 4) 2 89 := ⟨by decide +kernel, rfl⟩
theorem d_X12_rank_89 : DC mX12_rank 89 (.iload 4) 2 91 := ⟨by decide +kernel, rfl⟩
theorem d_X12_rank_91 : DC mX12_rank 91 (.ifCond .eq 6) 3 94 := ⟨by decide +kernel, rfl⟩
theorem d_X12_rank_94 : DC mX12_rank 94 (.iload 4) 2 96 := ⟨by decide +kernel, rfl⟩
theorem d_X12_rank_96 : DC mX12_rank 96 (.ireturn) 1 97 := ⟨by decide +kernel, rfl⟩
theorem d_X12_rank_97 : DC mX12_rank 97 (.iconst 0) 1 98 := ⟨by decide +kernel, rfl⟩
theorem d_X12_rank_98 : DC mX12_rank 98 (.istore 5) 2 100 := ⟨by decide +kernel, rfl⟩
theorem d_X12_rank_100 : DC mX12_rank 100 (.iload 5) 2 102 := ⟨by decide +kernel, rfl⟩
theorem d_X12_rank_102 : DC mX12_rank 102 (.aload_n 0) 1 103 := ⟨by decide +kernel, rfl⟩
theorem d_X12_rank_103 : DC mX12_rank 103 (.iconst 3) 1 104 := ⟨by decide +kernel, rfl⟩
theorem d_X12_rank_104 : DC mX12_rank 104 (.invokevirtual 113) 3 107 := ⟨by decide +kernel, rfl⟩
theorem d_X12_rank_107 : DC mX12_rank 107 (.if_icmp .ge 42) 3 110 := ⟨by decide +kernel, rfl⟩
theorem d_X12_rank_110 : DC mX12_rank 110 (.aload_n 0) 1 111 := ⟨by decide +kernel, rfl⟩
theorem d_X12_rank_111 : DC mX12_rank 111 (.getfield 73) 3 114 := ⟨by decide +kernel, rfl⟩
theorem d_X12_rank_114 : DC mX12_rank 114 (.sipush 480) 3 117 := ⟨by decide +kernel, rfl⟩
theorem d_X12_rank_117 : DC mX12_rank 117 (.iload_n 2) 1 118 := ⟨by decide +kernel, rfl⟩
theorem d_X12_rank_118 : DC mX12_rank 118 (.imul) 1 119 := ⟨by decide +kernel, rfl⟩
theorem d_X12_rank_119 : DC mX12_rank 119 (.aload_n 0) 1 120 := ⟨by decide +kernel, rfl⟩
theorem d_X12_rank_120 : DC mX12_rank 120 (.aload_n 0) 1 121 := ⟨by decide +kernel, rfl⟩
theorem d_X12_rank_121 : DC mX12_rank 121 (.iconst 3) 1 122 := ⟨by decide +kernel, rfl⟩
theorem d_X12_rank_122 : DC mX12_rank 122 (.iload 5) 2 124 := ⟨by decide +kernel, rfl⟩
theorem d_X12_rank_124 : DC mX12_rank 124 (.invokevirtual 117) 3 127 := ⟨by decide +kernel, rfl⟩
theorem d_X12_rank_127 : DC mX12_rank 127 (.invokevirtual 388) 3 130 := ⟨by decide +kernel, rfl⟩
theorem d_X12_rank_130 : DC mX12_rank 130 (.iadd) 1 131 := ⟨by decide +kernel, rfl⟩
theorem d_X12_rank_131 : DC mX12_rank 131 (.aload_n 0) 1 132 := ⟨by decide +kernel, rfl⟩
theorem d_X12_rank_132 : DC mX12_rank 132 (.iconst 3) 1 133 := ⟨by decide +kernel, rfl⟩
theorem d_X12_rank_133 : DC mX12_rank 133 (.iload 5) 2 135 := ⟨by decide +kernel, rfl⟩
theorem d_X12_rank_135 : DC mX12_rank 135 (.invokevirtual 132) 3 138 := ⟨by decide +kernel, rfl⟩
theorem d_X12_rank_138 : DC mX12_rank 138 (.i2l) 1 139 := ⟨by decide +kernel, rfl⟩
theorem d_X12_rank_139 : DC mX12_rank 139 (.invokestatic 383) 3 142 := ⟨by decide +kernel, rfl⟩
theorem d_X12_rank_142 : DC mX12_rank 142 (.lastore) 1 143 := ⟨by decide +kernel, rfl⟩
theorem d_X12_rank_143 : DC mX12_rank 143 (.iinc 5 1) 3 146 := ⟨by decide +kernel, rfl⟩
theorem d_X12_rank_146 : DC mX12_rank 146 (.goto (-46)) 3 149 := ⟨by decide +kernel, rfl⟩
theorem d_X12_rank_149 : DC mX12_rank 149 (.iinc 2 1) 3 152 := ⟨by decide +kernel, rfl⟩
theorem d_X12_rank_152 : DC mX12_rank 152 (.iinc 3 1) 3 155 := ⟨by decide +kernel, rfl⟩
theorem d_X12_rank_155 : DC mX12_rank 155 (.goto (-91)) 3 158 := ⟨by decide +kernel, rfl⟩
theorem d_X12_rank_158 : DC mX12_rank 158 (.iconst 0) 1 159 := ⟨by decide +kernel, rfl⟩
theorem d_X12_rank_159 : DC mX12_rank 159 (.istore_n 3) 1 160 := ⟨by decide +kernel, rfl⟩
theorem d_X12_rank_160 : DC mX12_rank 160 (.iconst 0) 1 161 := ⟨by decide +kernel, rfl⟩
theorem d_X12_rank_161 : DC mX12_rank 161 (.istore 4) 2 163 := ⟨by decide +kernel, rfl⟩
theorem d_X12_rank_163 : DC mX12_rank 163 (.iload 4) 2 165 := ⟨by decide +kernel, rfl⟩
theorem d_X12_rank_165 : DC mX12_rank 165 (.aload_n 0) 1 166 := ⟨by decide +kernel, rfl⟩
theorem d_X12_rank_166 : DC mX12_rank 166 (.getfield 373) 3 169 := ⟨by decide +kernel, rfl⟩
theorem d_X12_rank_169 : DC mX12_rank 169 (.if_icmp .ge 75) 3 172 := ⟨by decide +kernel, rfl⟩
theorem d_X12_rank_172 : DC mX12_rank 172 (.iload_n 3) 1 173 := ⟨by decide +kernel, rfl⟩
theorem d_X12_rank_173 : DC mX12_rank 173 (.iload_n 2) 1 174 := ⟨by decide +kernel, rfl⟩
theorem d_X12_rank_174 : DC mX12_rank 174 (.if_icmp .ge 70) 3 177 := ⟨by decide +kernel, rfl⟩
theorem d_X12_rank_177 : DC mX12_rank 177 (.iload_n 3) 1 178 := ⟨by decide +kernel, rfl⟩
theorem d_X12_rank_178 : DC mX12_rank 178 (.istore 5) 2 180 := ⟨by decide +kernel, rfl⟩
theorem d_X12_rank_180 : DC mX12_rank 180 (.iload 5) 2 182 := ⟨by decide +kernel, rfl⟩
theorem d_X12_rank_182 : DC mX12_rank 182 (.iload_n 2) 1 183 := ⟨by decide +kernel, rfl⟩
theorem d_X12_rank_183 : DC mX12_rank 183 (.if_icmp .ge 28) 3 186 := ⟨by decide +kernel, rfl⟩
theorem d_X12_rank_186 : DC mX12_rank 186 (.aload_n 0) 1 187 := ⟨by decide +kernel, rfl⟩
theorem d_X12_rank_187 : DC mX12_rank 187 (.getfield 73) 3 190 := ⟨by decide +kernel, rfl⟩
theorem d_X12_rank_190 : DC mX12_rank 190 (.sipush 480) 3 193 := ⟨by decide +kernel, rfl⟩
theorem d_X12_rank_193 : DC mX12_rank 193 (.iload 5) 2 195 := ⟨by decide +kernel, rfl⟩
theorem d_X12_rank_195 : DC mX12_rank 195 (.imul) 1 196 := ⟨by decide +kernel, rfl⟩
theorem d_X12_rank_196 : DC mX12_rank 196 (.iload 4) 2 198 := ⟨by decide +kernel, rfl⟩
theorem d_X12_rank_198 : DC mX12_rank 198 (.iadd) 1 199 := ⟨by decide +kernel, rfl⟩
theorem d_X12_rank_199 : DC mX12_rank 199 (.laload) 1 200 := ⟨by decide +kernel, rfl⟩
theorem d_X12_rank_200 : DC mX12_rank 200 (.lconst 0) 1 201 := ⟨by decide +kernel, rfl⟩
theorem d_X12_rank_201 : DC mX12_rank 201 (.lcmp) 1 202 := ⟨by decide +kernel, rfl⟩
theorem d_X12_rank_202 : DC mX12_rank 202 (.ifCond .ne 9) 3 205 := ⟨by decide +kernel, rfl⟩
theorem d_X12_rank_205 : DC mX12_rank 205 (.iinc 5 1) 3 208 := ⟨by decide +kernel, rfl⟩
theorem d_X12_rank_208 : DC mX12_rank 208 (.goto (-28)) 3 211 := ⟨by decide +kernel, rfl⟩
theorem d_X12_rank_211 : DC mX12_rank 211 (.iload 5) 2 213 := ⟨by decide +kernel, rfl⟩
theorem d_X12_rank_213 : DC mX12_rank 213 (.iload_n 2) 1 214 := ⟨by decide +kernel, rfl⟩
theorem d_X12_rank_214 : DC mX12_rank 214 (.if_icmp .ne 6) 3 217 := ⟨by decide +kernel, rfl⟩
theorem d_X12_rank_217 : DC mX12_rank 217 (.goto 21) 3 220 := ⟨by decide +kernel, rfl⟩
theorem d_X12_rank_220 : DC mX12_rank 220 (.aload_n 0) 1 221 := ⟨by decide +kernel, rfl⟩
theorem d_X12_rank_221 : DC mX12_rank 221 (.iload 5) 2 223 := ⟨by decide +kernel, rfl⟩
theorem d_X12_rank_223 : DC mX12_rank 223 (.iload_n 3) 1 224 := ⟨by decide +kernel, rfl⟩
theorem d_X12_rank_224 : DC mX12_rank 224 (.invokevirtual 391) 3 227 := ⟨by decide +kernel, rfl⟩
theorem d_X12_rank_227 : DC mX12_rank 227 (.aload_n 0) 1 228 := ⟨by decide +kernel, rfl⟩
theorem d_X12_rank_228 : DC mX12_rank 228 (.iload_n 3) 1 229 := ⟨by decide +kernel, rfl⟩
theorem d_X12_rank_229 : DC mX12_rank 229 (.iload_n 2) 1 230 := ⟨by decide +kernel, rfl⟩
theorem d_X12_rank_230 : DC mX12_rank 230 (.iload 4) 2 232 := ⟨by decide +kernel, rfl⟩
theorem d_X12_rank_232 : DC mX12_rank 232 (.invokevirtual 394) 3 235 := ⟨by decide +kernel, rfl⟩
theorem d_X12_rank_235 : DC mX12_rank 235 (.iinc 3 1) 3 238 := ⟨by decide +kernel, rfl⟩
theorem d_X12_rank_238 : DC mX12_rank 238 (.iinc 4 1) 3 241 := ⟨by decide +kernel, rfl⟩
theorem d_X12_rank_241 : DC mX12_rank 241 (.goto (-78)) 3 244 := ⟨by decide +kernel, rfl⟩
theorem d_X12_rank_244 : DC mX12_rank 244 (.iload_n 3) 1 245 := ⟨by decide +kernel, rfl⟩
theorem d_X12_rank_245 : DC mX12_rank 245 (.ireturn) 1 246 := ⟨by decide +kernel, rfl⟩
theorem d_X12_areSix_0 : DC mX12_areSix 0 (.iconst 0) 1 1 := ⟨by decide +kernel, rfl⟩
theorem d_X12_areSix_1 : DC mX12_areSix 1 (.istore_n 2) 1 2 := ⟨by decide +kernel, rfl⟩
theorem d_X12_areSix_2 : DC mX12_areSix 2 (.aload_n 0) 1 3 := ⟨by decide +kernel, rfl⟩
theorem d_X12_areSix_3 : DC mX12_areSix 3 (.getfield 20) 3 6 := ⟨by decide +kernel, rfl⟩
theorem d_X12_areSix_6 : DC mX12_areSix 6 (.sipush 161) 3 9 := ⟨by decide +kernel, rfl⟩
theorem d_X12_areSix_9 : DC mX12_areSix 9 (.iload_n 1) 1 10 := ⟨by decide +kernel, rfl⟩
theorem d_X12_areSix_10 : DC mX12_areSix 10 (.imul) 1 11 := ⟨by decide +kernel, rfl⟩
theorem d_X12_areSix_11 : DC mX12_areSix 11 (.iaload) 1 12 := ⟨by decide +kernel, rfl⟩
theorem d_X12_areSix_12 : DC mX12_areSix 12 (.ifCond .eq 19) 3 15 := ⟨by decide +kernel, rfl⟩
theorem d_X12_areSix_15 : DC mX12_areSix 15 (.aload_n 0) 1 16 := ⟨by decide +kernel, rfl⟩
theorem d_X12_areSix_16 : DC mX12_areSix 16 (.getfield 20) 3 19 := ⟨by decide +kernel, rfl⟩
theorem d_X12_areSix_19 : DC mX12_areSix 19 (.iload_n 1) 1 20 := ⟨by decide +kernel, rfl⟩
theorem d_X12_areSix_20 : DC mX12_areSix 20 (.iconst 0) 1 21 := ⟨by decide +kernel, rfl⟩
theorem d_X12_areSix_21 : DC mX12_areSix 21 (.invokestatic 339) 3 24 := ⟨by decide +kernel, rfl⟩
theorem d_X12_areSix_24 : DC mX12_areSix 24 (.invokestatic 138) 3 27 := ⟨by decide +kernel, rfl⟩
theorem d_X12_areSix_27 : DC mX12_areSix 27 (.iconst 2) 1 28 := ⟨by decide +kernel, rfl⟩
theorem d_X12_areSix_28 : DC mX12_areSix 28 (.if_icmp .eq 5) 3 31 := ⟨by decide +kernel, rfl⟩
theorem d_X12_areSix_31 : DC mX12_areSix 31 (.iconst 0) 1 32 := ⟨by decide +kernel, rfl⟩
theorem d_X12_areSix_32 : DC mX12_areSix 32 (.ireturn) 1 33 := ⟨by decide +kernel, rfl⟩
theorem d_X12_areSix_33 : DC mX12_areSix 33 (.iconst 0) 1 34 := ⟨by decide +kernel, rfl⟩
theorem d_X12_areSix_34 : DC mX12_areSix 34 (.istore_n 3) 1 35 := ⟨by decide +kernel, rfl⟩
theorem d_X12_areSix_35 : DC mX12_areSix 35 (.iload_n 3) 1 36 := ⟨by decide +kernel, rfl⟩
theorem d_X12_areSix_36 : DC mX12_areSix 36 (.bipush 10) 2 38 := ⟨by decide +kernel, rfl⟩
theorem d_X12_areSix_38 : DC mX12_areSix 38 (.if_icmp .ge 51) 3 41 := ⟨by decide +kernel, rfl⟩
theorem d_X12_areSix_41 : DC mX12_areSix 41 (.aload_n 0) 1 42 := ⟨by decide +kernel, rfl⟩
theorem d_X12_areSix_42 : DC mX12_areSix 42 (.aload_n 0) 1 43 := ⟨by decide +kernel, rfl⟩
theorem d_X12_areSix_43 : DC mX12_areSix 43 (.getfield 20) 3 46 := ⟨by decide +kernel, rfl⟩
theorem d_X12_areSix_46 : DC mX12_areSix 46 (.iload_n 1) 1 47 := ⟨by decide +kernel, rfl⟩
theorem d_X12_areSix_47 : DC mX12_areSix 47 (.iconst 0) 1 48 := ⟨by decide +kernel, rfl⟩
theorem d_X12_areSix_48 : DC mX12_areSix 48 (.invokestatic 339) 3 51 := ⟨by decide +kernel, rfl⟩
theorem d_X12_areSix_51 : DC mX12_areSix 51 (.iload_n 3) 1 52 := ⟨by decide +kernel, rfl⟩
theorem d_X12_areSix_52 : DC mX12_areSix 52 (.invokevirtual 343) 3 55 := ⟨by decide +kernel, rfl⟩
theorem d_X12_areSix_55 : DC mX12_areSix 55 (.istore 4) 2 57 := ⟨by decide +kernel, rfl⟩
theorem d_X12_areSix_57 : DC mX12_areSix 57 (.iload 4) 2 59 := ⟨by decide +kernel, rfl⟩
theorem d_X12_areSix_59 : DC mX12_areSix 59 (.iconst 1) 1 60 := ⟨by decide +kernel, rfl⟩
theorem d_X12_areSix_60 : DC mX12_areSix 60 (.if_icmp .le 5) 3 63 := ⟨by decide +kernel, rfl⟩
theorem d_X12_areSix_63 : DC mX12_areSix 63 (.iconst 0) 1 64 := ⟨by decide +kernel, rfl⟩
theorem d_X12_areSix_64 : DC mX12_areSix 64 (.ireturn) 1 65 := ⟨by decide +kernel, rfl⟩
theorem d_X12_areSix_65 : DC mX12_areSix 65 (.iload 4) 2 67 := ⟨by decide +kernel, rfl⟩
theorem d_X12_areSix_67 : DC mX12_areSix 67 (.ifCond .ne 6) 3 70 := ⟨by decide +kernel, rfl⟩
theorem d_X12_areSix_70 : DC mX12_areSix 70 (.goto 13) 3 73 := ⟨by decide +kernel, rfl⟩
theorem d_X12_areSix_73 : DC mX12_areSix 73 (.aload_n 0) 1 74 := ⟨by decide +kernel, rfl⟩
theorem d_X12_areSix_74 : DC mX12_areSix 74 (.getfield 77) 3 77 := ⟨by decide +kernel, rfl⟩
theorem d_X12_areSix_77 : DC mX12_areSix 77 (.iload_n 2) 1 78 := ⟨by decide +kernel, rfl⟩
theorem d_X12_areSix_78 : DC mX12_areSix 78 (.iload_n 3) 1 79 := ⟨by decide +kernel, rfl⟩
theorem d_X12_areSix_79 : DC mX12_areSix 79 (.iastore) 1 80 := ⟨by decide +kernel, rfl⟩
theorem d_X12_areSix_80 : DC mX12_areSix 80 (.iinc 2 1) 3 83 := ⟨by decide +kernel, rfl⟩
theorem d_X12_areSix_83 : DC mX12_areSix 83 (.iinc 3 1) 3 86 := ⟨by decide +kernel, rfl⟩
theorem d_X12_areSix_86 : DC mX12_areSix 86 (.goto (-51)) 3 89 := ⟨by decide +kernel, rfl⟩
theorem d_X12_areSix_89 : DC mX12_areSix 89 (.iload_n 2) 1 90 := ⟨by decide +kernel, rfl⟩
theorem d_X12_areSix_90 : DC mX12_areSix 90 (.bipush 6) 2 92 := ⟨by decide +kernel, rfl⟩
theorem d_X12_areSix_92 : DC mX12_areSix 92 (.if_icmp .ne 7) 3 95 := ⟨by decide +kernel, rfl⟩
theorem d_X12_areSix_95 : DC mX12_areSix 95 (.iconst 1) 1 96 := ⟨by decide +kernel, rfl⟩
theorem d_X12_areSix_96 : DC mX12_areSix 96 (.goto 4) 3 99 := ⟨by decide +kernel, rfl⟩
theorem d_X12_areSix_99 : DC mX12_areSix 99 (.iconst 0) 1 100 := ⟨by decide +kernel, rfl⟩
theorem d_X12_areSix_100 : DC mX12_areSix 100 (.ireturn) 1 101 := ⟨by decide +kernel, rfl⟩
theorem d_X12_laysSix_0 : DC mX12_laysSix 0 (.aload_n 0) 1 1 := ⟨by decide +kernel, rfl⟩
theorem d_X12_laysSix_1 : DC mX12_laysSix 1 (.iload_n 1) 1 2 := ⟨by decide +kernel, rfl⟩
theorem d_X12_laysSix_2 : DC mX12_laysSix 2 (.invokevirtual 105) 3 5 := ⟨by decide +kernel, rfl⟩
theorem d_X12_laysSix_5 : DC mX12_laysSix 5 (.aload_n 0) 1 6 := ⟨by decide +kernel, rfl⟩
theorem d_X12_laysSix_6 : DC mX12_laysSix 6 (.iconst 1) 1 7 := ⟨by decide +kernel, rfl⟩
theorem d_X12_laysSix_7 : DC mX12_laysSix 7 (.invokevirtual 105) 3 10 := ⟨by decide +kernel, rfl⟩
theorem d_X12_laysSix_10 : DC mX12_laysSix 10 (.aload_n 0) 1 11 := ⟨by decide +kernel, rfl⟩
theorem d_X12_laysSix_11 : DC mX12_laysSix 11 (.iconst 2) 1 12 := ⟨by decide +kernel, rfl⟩
theorem d_X12_laysSix_12 : DC mX12_laysSix 12 (.invokevirtual 105) 3 15 := ⟨by decide +kernel, rfl⟩
theorem d_X12_laysSix_15 : DC mX12_laysSix 15 (.aload_n 0) 1 16 := ⟨by decide +kernel, rfl⟩
theorem d_X12_laysSix_16 : DC mX12_laysSix 16 (.aload_n 0) 1 17 := ⟨by decide +kernel, rfl⟩
theorem d_X12_laysSix_17 : DC mX12_laysSix 17 (.getfield 80) 3 20 := ⟨by decide +kernel, rfl⟩
theorem d_X12_laysSix_20 : DC mX12_laysSix 20 (.iconst 0) 1 21 := ⟨by decide +kernel, rfl⟩
theorem d_X12_laysSix_21 : DC mX12_laysSix 21 (.iaload) 1 22 := ⟨by decide +kernel, rfl⟩
theorem d_X12_laysSix_22 : DC mX12_laysSix 22 (.aload_n 0) 1 23 := ⟨by decide +kernel, rfl⟩
theorem d_X12_laysSix_23 : DC mX12_laysSix 23 (.getfield 80) 3 26 := ⟨by decide +kernel, rfl⟩
theorem d_X12_laysSix_26 : DC mX12_laysSix 26 (.iconst 2) 1 27 := ⟨by decide +kernel, rfl⟩
theorem d_X12_laysSix_27 : DC mX12_laysSix 27 (.iaload) 1 28 := ⟨by decide +kernel, rfl⟩
theorem d_X12_laysSix_28 : DC mX12_laysSix 28 (.aload_n 0) 1 29 := ⟨by decide +kernel, rfl⟩
theorem d_X12_laysSix_29 : DC mX12_laysSix 29 (.getfield 80) 3 32 := ⟨by decide +kernel, rfl⟩
theorem d_X12_laysSix_32 : DC mX12_laysSix 32 (.iconst 3) 1 33 := ⟨by decide +kernel, rfl⟩
theorem d_X12_laysSix_33 : DC mX12_laysSix 33 (.iaload) 1 34 := ⟨by decide +kernel, rfl⟩
theorem d_X12_laysSix_34 : DC mX12_laysSix 34 (.iconst 1) 1 35 := ⟨by decide +kernel, rfl⟩
theorem d_X12_laysSix_35 : DC mX12_laysSix 35 (.invokevirtual 211) 3 38 := ⟨by decide +kernel, rfl⟩
theorem d_X12_laysSix_38 : DC mX12_laysSix 38 (.aload_n 0) 1 39 := ⟨by decide +kernel, rfl⟩
theorem d_X12_laysSix_39 : DC mX12_laysSix 39 (.aload_n 0) 1 40 := ⟨by decide +kernel, rfl⟩
theorem d_X12_laysSix_40 : DC mX12_laysSix 40 (.getfield 80) 3 43 := ⟨by decide +kernel, rfl⟩
theorem d_X12_laysSix_43 : DC mX12_laysSix 43 (.iconst 1) 1 44 := ⟨by decide +kernel, rfl⟩
theorem d_X12_laysSix_44 : DC mX12_laysSix 44 (.iaload) 1 45 := ⟨by decide +kernel, rfl⟩
theorem d_X12_laysSix_45 : DC mX12_laysSix 45 (.aload_n 0) 1 46 := ⟨by decide +kernel, rfl⟩
theorem d_X12_laysSix_46 : DC mX12_laysSix 46 (.getfield 80) 3 49 := ⟨by decide +kernel, rfl⟩
theorem d_X12_laysSix_49 : DC mX12_laysSix 49 (.iconst 4) 1 50 := ⟨by decide +kernel, rfl⟩
theorem d_X12_laysSix_50 : DC mX12_laysSix 50 (.iaload) 1 51 := ⟨by decide +kernel, rfl⟩
theorem d_X12_laysSix_51 : DC mX12_laysSix 51 (.aload_n 0) 1 52 := ⟨by decide +kernel, rfl⟩
theorem d_X12_laysSix_52 : DC mX12_laysSix 52 (.getfield 80) 3 55 := ⟨by decide +kernel, rfl⟩
theorem d_X12_laysSix_55 : DC mX12_laysSix 55 (.iconst 5) 1 56 := ⟨by decide +kernel, rfl⟩
theorem d_X12_laysSix_56 : DC mX12_laysSix 56 (.iaload) 1 57 := ⟨by decide +kernel, rfl⟩
theorem d_X12_laysSix_57 : DC mX12_laysSix 57 (.iconst 2) 1 58 := ⟨by decide +kernel, rfl⟩
theorem d_X12_laysSix_58 : DC mX12_laysSix 58 (.invokevirtual 211) 3 61 := ⟨by decide +kernel, rfl⟩
theorem d_X12_laysSix_61 : DC mX12_laysSix 61 (.aload_n 0) 1 62 := ⟨by decide +kernel, rfl⟩
theorem d_X12_laysSix_62 : DC mX12_laysSix 62 (.iconst 1) 1 63 := ⟨by decide +kernel, rfl⟩
theorem d_X12_laysSix_63 : DC mX12_laysSix 63 (.iconst 2) 1 64 := ⟨by decide +kernel, rfl⟩
theorem d_X12_laysSix_64 : DC mX12_laysSix 64 (.iconst 1) 1 65 := ⟨by decide +kernel, rfl⟩
theorem d_X12_laysSix_65 : DC mX12_laysSix 65 (.iload_n 1) 1 66 := ⟨by decide +kernel, rfl⟩
theorem d_X12_laysSix_66 : DC mX12_laysSix 66 (.invokevirtual 231) 3 69 := ⟨by decide +kernel, rfl⟩
theorem d_X12_laysSix_69 : DC mX12_laysSix 69 (.aload_n 0) 1 70 := ⟨by decide +kernel, rfl⟩
theorem d_X12_laysSix_70 : DC mX12_laysSix 70 (.iconst 1) 1 71 := ⟨by decide +kernel, rfl⟩
theorem d_X12_laysSix_71 : DC mX12_laysSix 71 (.invokevirtual 105) 3 74 := ⟨by decide +kernel, rfl⟩
theorem d_X12_laysSix_74 : DC mX12_laysSix 74 (.aload_n 0) 1 75 := ⟨by decide +kernel, rfl⟩
theorem d_X12_laysSix_75 : DC mX12_laysSix 75 (.iconst 2) 1 76 := ⟨by decide +kernel, rfl⟩
theorem d_X12_laysSix_76 : DC mX12_laysSix 76 (.invokevirtual 105) 3 79 := ⟨by decide +kernel, rfl⟩
theorem d_X12_laysSix_79 : DC mX12_laysSix 79 (.aload_n 0) 1 80 := ⟨by decide +kernel, rfl⟩
theorem d_X12_laysSix_80 : DC mX12_laysSix 80 (.aload_n 0) 1 81 := ⟨by decide +kernel, rfl⟩
theorem d_X12_laysSix_81 : DC mX12_laysSix 81 (.getfield 80) 3 84 := ⟨by decide +kernel, rfl⟩
theorem d_X12_laysSix_84 : DC mX12_laysSix 84 (.iconst 1) 1 85 := ⟨by decide +kernel, rfl⟩
theorem d_X12_laysSix_85 : DC mX12_laysSix 85 (.iaload) 1 86 := ⟨by decide +kernel, rfl⟩
theorem d_X12_laysSix_86 : DC mX12_laysSix 86 (.aload_n 0) 1 87 := ⟨by decide +kernel, rfl⟩
theorem d_X12_laysSix_87 : DC mX12_laysSix 87 (.getfield 80) 3 90 := ⟨by decide +kernel, rfl⟩
theorem d_X12_laysSix_90 : DC mX12_laysSix 90 (.iconst 2) 1 91 := ⟨by decide +kernel, rfl⟩
theorem d_X12_laysSix_91 : DC mX12_laysSix 91 (.iaload) 1 92 := ⟨by decide +kernel, rfl⟩
theorem d_X12_laysSix_92 : DC mX12_laysSix 92 (.aload_n 0) 1 93 := ⟨by decide +kernel, rfl⟩
theorem d_X12_laysSix_93 : DC mX12_laysSix 93 (.getfield 80) 3 96 := ⟨by decide +kernel, rfl⟩
theorem d_X12_laysSix_96 : DC mX12_laysSix 96 (.iconst 3) 1 97 := ⟨by decide +kernel, rfl⟩
theorem d_X12_laysSix_97 : DC mX12_laysSix 97 (.iaload) 1 98 := ⟨by decide +kernel, rfl⟩
theorem d_X12_laysSix_98 : DC mX12_laysSix 98 (.iconst 1) 1 99 := ⟨by decide +kernel, rfl⟩
theorem d_X12_laysSix_99 : DC mX12_laysSix 99 (.invokevirtual 211) 3 102 := ⟨by decide +kernel, rfl⟩
theorem d_X12_laysSix_102 : DC mX12_laysSix 102 (.aload_n 0) 1 103 := ⟨by decide +kernel, rfl⟩
theorem d_X12_laysSix_103 : DC mX12_laysSix 103 (.aload_n 0) 1 104 := ⟨by decide +kernel, rfl⟩
theorem d_X12_laysSix_104 : DC mX12_laysSix 104 (.getfield 80) 3 107 := ⟨by decide +kernel, rfl⟩
theorem d_X12_laysSix_107 : DC mX12_laysSix 107 (.iconst 0) 1 108 := ⟨by decide +kernel, rfl⟩
theorem d_X12_laysSix_108 : DC mX12_laysSix 108 (.iaload) 1 109 := ⟨by decide +kernel, rfl⟩
theorem d_X12_laysSix_109 : DC mX12_laysSix 109 (.aload_n 0) 1 110 := ⟨by decide +kernel, rfl⟩
theorem d_X12_laysSix_110 : DC mX12_laysSix 110 (.getfield 80) 3 113 := ⟨by decide +kernel, rfl⟩
theorem d_X12_laysSix_113 : DC mX12_laysSix 113 (.iconst 4) 1 114 := ⟨by decide +kernel, rfl⟩
theorem d_X12_laysSix_114 : DC mX12_laysSix 114 (.iaload) 1 115 := ⟨by decide +kernel, rfl⟩
theorem d_X12_laysSix_115 : DC mX12_laysSix 115 (.aload_n 0) 1 116 := ⟨by decide +kernel, rfl⟩
theorem d_X12_laysSix_116 : DC mX12_laysSix 116 (.getfield 80) 3 119 := ⟨by decide +kernel, rfl⟩
theorem d_X12_laysSix_119 : DC mX12_laysSix 119 (.iconst 5) 1 120 := ⟨by decide +kernel, rfl⟩
theorem d_X12_laysSix_120 : DC mX12_laysSix 120 (.iaload) 1 121 := ⟨by decide +kernel, rfl⟩
theorem d_X12_laysSix_121 : DC mX12_laysSix 121 (.iconst 2) 1 122 := ⟨by decide +kernel, rfl⟩
theorem d_X12_laysSix_122 : DC mX12_laysSix 122 (.invokevirtual 211) 3 125 := ⟨by decide +kernel, rfl⟩
theorem d_X12_laysSix_125 : DC mX12_laysSix 125 (.aload_n 0) 1 126 := ⟨by decide +kernel, rfl⟩
theorem d_X12_laysSix_126 : DC mX12_laysSix 126 (.iconst 1) 1 127 := ⟨by decide +kernel, rfl⟩
theorem d_X12_laysSix_127 : DC mX12_laysSix 127 (.iconst 2) 1 128 := ⟨by decide +kernel, rfl⟩
theorem d_X12_laysSix_128 : DC mX12_laysSix 128 (.iconst (-1)) 1 129 := ⟨by decide +kernel, rfl⟩
theorem d_X12_laysSix_129 : DC mX12_laysSix 129 (.iload_n 1) 1 130 := ⟨by decide +kernel, rfl⟩
theorem d_X12_laysSix_130 : DC mX12_laysSix 130 (.invokevirtual 231) 3 133 := ⟨by decide +kernel, rfl⟩
theorem d_X12_laysSix_133 : DC mX12_laysSix 133 (.aload_n 0) 1 134 := ⟨by decide +kernel, rfl⟩
theorem d_X12_laysSix_134 : DC mX12_laysSix 134 (.iload_n 1) 1 135 := ⟨by decide +kernel, rfl⟩
theorem d_X12_laysSix_135 : DC mX12_laysSix 135 (.invokevirtual 241) 3 138 := ⟨by decide +kernel, rfl⟩
theorem d_X12_laysSix_138 : DC mX12_laysSix 138 (.istore_n 2) 1 139 := ⟨by decide +kernel, rfl⟩
theorem d_X12_laysSix_139 : DC mX12_laysSix 139 (.return_) 1 140 := ⟨by decide +kernel, rfl⟩
theorem d_X12_multiple_0 : DC mX12_multiple 0 (.aload_n 0) 1 1 := ⟨by decide +kernel, rfl⟩
theorem d_X12_multiple_1 : DC mX12_multiple 1 (.iload_n 1) 1 2 := ⟨by decide +kernel, rfl⟩
theorem d_X12_multiple_2 : DC mX12_multiple 2 (.invokevirtual 113) 3 5 := ⟨by decide +kernel, rfl⟩
theorem d_X12_multiple_5 : DC mX12_multiple 5 (.ifCond .eq 32) 3 8 := ⟨by decide +kernel, rfl⟩
theorem d_X12_multiple_8 : DC mX12_multiple 8 (.aload_n 0) 1 9 := ⟨by decide +kernel, rfl⟩
theorem d_X12_multiple_9 : DC mX12_multiple 9 (.iload_n 1) 1 10 := ⟨by decide +kernel, rfl⟩
theorem d_X12_multiple_10 : DC mX12_multiple 10 (.invokevirtual 113) 3 13 := ⟨by decide +kernel, rfl⟩
theorem d_X12_multiple_13 : DC mX12_multiple 13 (.aload_n 0) 1 14 := ⟨by decide +kernel, rfl⟩
theorem d_X12_multiple_14 : DC mX12_multiple 14 (.iload_n 2) 1 15 := ⟨by decide +kernel, rfl⟩
theorem d_X12_multiple_15 : DC mX12_multiple 15 (.invokevirtual 113) 3 18 := ⟨by decide +kernel, rfl⟩
theorem d_X12_multiple_18 : DC mX12_multiple 18 (.if_icmp .ne 19) 3 21 := ⟨by decide +kernel, rfl⟩
theorem d_X12_multiple_21 : DC mX12_multiple 21 (.aload_n 0) 1 22 := ⟨by decide +kernel, rfl⟩
theorem d_X12_multiple_22 : DC mX12_multiple 22 (.iload_n 1) 1 23 := ⟨by decide +kernel, rfl⟩
theorem d_X12_multiple_23 : DC mX12_multiple 23 (.iconst 0) 1 24 := ⟨by decide +kernel, rfl⟩
theorem d_X12_multiple_24 : DC mX12_multiple 24 (.invokevirtual 132) 3 27 := ⟨by decide +kernel, rfl⟩
theorem d_X12_multiple_27 : DC mX12_multiple 27 (.aload_n 0) 1 28 := ⟨by decide +kernel, rfl⟩
theorem d_X12_multiple_28 : DC mX12_multiple 28 (.iload_n 2) 1 29 := ⟨by decide +kernel, rfl⟩
theorem d_X12_multiple_29 : DC mX12_multiple 29 (.iconst 0) 1 30 := ⟨by decide +kernel, rfl⟩
theorem d_X12_multiple_30 : DC mX12_multiple 30 (.invokevirtual 132) 3 33 := ⟨by decide +kernel, rfl⟩
theorem d_X12_multiple_33 : DC mX12_multiple 33 (.irem) 1 34 := ⟨by decide +kernel, rfl⟩
theorem d_X12_multiple_34 : DC mX12_multiple 34 (.ifCond .eq 5) 3 37 := ⟨by decide +kernel, rfl⟩
theorem d_X12_multiple_37 : DC mX12_multiple 37 (.iconst 0) 1 38 := ⟨by decide +kernel, rfl⟩
theorem d_X12_multiple_38 : DC mX12_multiple 38 (.ireturn) 1 39 := ⟨by decide +kernel, rfl⟩
theorem d_X12_multiple_39 : DC mX12_multiple 39 (.aload_n 0) 1 40 := ⟨by decide +kernel, rfl⟩
theorem d_X12_multiple_40 : DC mX12_multiple 40 (.iload_n 1) 1 41 := ⟨by decide +kernel, rfl⟩
theorem d_X12_multiple_41 : DC mX12_multiple 41 (.iconst 0) 1 42 := ⟨by decide +kernel, rfl⟩
theorem d_X12_multiple_42 : DC mX12_multiple 42 (.invokevirtual 132) 3 45 := ⟨by decide +kernel, rfl⟩
theorem d_X12_multiple_45 : DC mX12_multiple 45 (.aload_n 0) 1 46 := ⟨by decide +kernel, rfl⟩
theorem d_X12_multiple_46 : DC mX12_multiple 46 (.iload_n 2) 1 47 := ⟨by decide +kernel, rfl⟩
theorem d_X12_multiple_47 : DC mX12_multiple 47 (.iconst 0) 1 48 := ⟨by decide +kernel, rfl⟩
theorem d_X12_multiple_48 : DC mX12_multiple 48 (.invokevirtual 132) 3 51 := ⟨by decide +kernel, rfl⟩
theorem d_X12_multiple_51 : DC mX12_multiple 51 (.idiv) 1 52 := ⟨by decide +kernel, rfl⟩
theorem d_X12_multiple_52 : DC mX12_multiple 52 (.istore_n 3) 1 53 := ⟨by decide +kernel, rfl⟩
theorem d_X12_multiple_53 : DC mX12_multiple 53 (.iconst 0) 1 54 := ⟨by decide +kernel, rfl⟩
theorem d_X12_multiple_54 : DC mX12_multiple 54 (.istore 4) 2 56 := ⟨by decide +kernel, rfl⟩
theorem d_X12_multiple_56 : DC mX12_multiple 56 (.iload 4) 2 58 := ⟨by decide +kernel, rfl⟩
theorem d_X12_multiple_58 : DC mX12_multiple 58 (.aload_n 0) 1 59 := ⟨by decide +kernel, rfl⟩
theorem d_X12_multiple_59 : DC mX12_multiple 59 (.iload_n 1) 1 60 := ⟨by decide +kernel, rfl⟩
theorem d_X12_multiple_60 : DC mX12_multiple 60 (.invokevirtual 113) 3 63 := ⟨by decide +kernel, rfl⟩
theorem d_X12_multiple_63 : DC mX12_multiple 63 (.if_icmp .ge 51) 3 66 := ⟨by decide +kernel, rfl⟩
theorem d_X12_multiple_66 : DC mX12_multiple 66 (.aload_n 0) 1 67 := ⟨by decide +kernel, rfl⟩
theorem d_X12_multiple_67 : DC mX12_multiple 67 (.iload_n 1) 1 68 := ⟨by decide +kernel, rfl⟩
theorem d_X12_multiple_68 : DC mX12_multiple 68 (.iload 4) 2 70 := ⟨by decide +kernel, rfl⟩
theorem d_X12_multiple_70 : DC mX12_multiple 70 (.invokevirtual 117) 3 73 := ⟨by decide +kernel, rfl⟩
theorem d_X12_multiple_73 : DC mX12_multiple 73 (.aload_n 0) 1 74 := ⟨by decide +kernel, rfl⟩
theorem d_X12_multiple_74 : DC mX12_multiple 74 (.iload_n 2) 1 75 := ⟨by decide +kernel, rfl⟩
theorem d_X12_multiple_75 : DC mX12_multiple 75 (.iload 4) 2 77 := ⟨by decide +kernel, rfl⟩
theorem d_X12_multiple_77 : DC mX12_multiple 77 (.invokevirtual 117) 3 80 := ⟨by decide +kernel, rfl⟩
theorem d_X12_multiple_80 : DC mX12_multiple 80 (.if_icmp .ne 26) 3 83 := ⟨by decide +kernel, rfl⟩
theorem d_X12_multiple_83 : DC mX12_multiple 83 (.aload_n 0) 1 84 := ⟨by decide +kernel, rfl⟩
theorem d_X12_multiple_84 : DC mX12_multiple 84 (.iload_n 1) 1 85 := ⟨by decide +kernel, rfl⟩
theorem d_X12_multiple_85 : DC mX12_multiple 85 (.iload 4) 2 87 := ⟨by decide +kernel, rfl⟩
theorem d_X12_multiple_87 : DC mX12_multiple 87 (.invokevirtual 132) 3 90 := ⟨by decide +kernel, rfl⟩
theorem d_X12_multiple_90 : DC mX12_multiple 90 (.i2l) 1 91 := ⟨by decide +kernel, rfl⟩
theorem d_X12_multiple_91 : DC mX12_multiple 91 (.iload_n 3) 1 92 := ⟨by decide +kernel, rfl⟩
theorem d_X12_multiple_92 : DC mX12_multiple 92 (.i2l) 1 93 := ⟨by decide +kernel, rfl⟩
theorem d_X12_multiple_93 : DC mX12_multiple 93 (.aload_n 0) 1 94 := ⟨by decide +kernel, rfl⟩
theorem d_X12_multiple_94 : DC mX12_multiple 94 (.iload_n 2) 1 95 := ⟨by decide +kernel, rfl⟩
theorem d_X12_multiple_95 : DC mX12_multiple 95 (.iload 4) 2 97 := ⟨by decide +kernel, rfl⟩
theorem d_X12_multiple_97 : DC mX12_multiple 97 (.invokevirtual 132) 3 100 := ⟨by decide +kernel, rfl⟩
theorem d_X12_multiple_100 : DC mX12_multiple 100 (.i2l) 1 101 := ⟨by decide +kernel, rfl⟩
theorem d_X12_multiple_101 : DC mX12_multiple 101 (.lmul) 1 102 := ⟨by decide +kernel, rfl⟩
theorem d_X12_multiple_102 : DC mX12_multiple 102 (.lcmp) 1 103 := ⟨by decide +kernel, rfl⟩
theorem d_X12_multiple_103 : DC mX12_multiple 103 (.ifCond .eq 5) 3 106 := ⟨by decide +kernel, rfl⟩
theorem d_X12_multiple_106 : DC mX12_multiple 106 (.iconst 0) 1 107 := ⟨by decide +kernel, rfl⟩
theorem d_X12_multiple_107 : DC mX12_multiple 107 (.ireturn) 1 108 := ⟨by decide +kernel, rfl⟩
theorem d_X12_multiple_108 : DC mX12_multiple 108 (.iinc 4 1) 3 111 := ⟨by decide +kernel, rfl⟩
theorem d_X12_multiple_111 : DC mX12_multiple 111 (.goto (-55)) 3 114 := ⟨by decide +kernel, rfl⟩
theorem d_X12_multiple_114 : DC mX12_multiple 114 (.iload_n 3) 1 115 := ⟨by decide +kernel, rfl⟩
theorem d_X12_multiple_115 : DC mX12_multiple 115 (.ireturn) 1 116 := ⟨by decide +kernel, rfl⟩
theorem d_X12_isFound_0 : DC mX12_isFound 0 (.iload_n 1) 1 1 := ⟨by decide +kernel, rfl⟩
theorem d_X12_isFound_1 : DC mX12_isFound 1 (.bipush 6) 2 3 := ⟨by decide +kernel, rfl⟩
theorem d_X12_isFound_3 : DC mX12_isFound 3 (.if_icmp .ne 65) 3 6 := ⟨by decide +kernel, rfl⟩
theorem d_X12_isFound_6 : DC mX12_isFound 6 (.aload_n 0) 1 7 := ⟨by decide +kernel, rfl⟩
theorem d_X12_isFound_7 : DC mX12_isFound 7 (.iconst 4) 1 8 := ⟨by decide +kernel, rfl⟩
theorem d_X12_isFound_8 : DC mX12_isFound 8 (.invokevirtual 398) 3 11 := ⟨by decide +kernel, rfl⟩
theorem d_X12_isFound_11 : DC mX12_isFound 11 (.aload_n 0) 1 12 := ⟨by decide +kernel, rfl⟩
theorem d_X12_isFound_12 : DC mX12_isFound 12 (.getfield 83) 3 15 := ⟨by decide +kernel, rfl⟩
theorem d_X12_isFound_15 : DC mX12_isFound 15 (.iconst 0) 1 16 := ⟨by decide +kernel, rfl⟩
theorem d_X12_isFound_16 : DC mX12_isFound 16 (.aload_n 0) 1 17 := ⟨by decide +kernel, rfl⟩
theorem d_X12_isFound_17 : DC mX12_isFound 17 (.iconst 3) 1 18 := ⟨by decide +kernel, rfl⟩
theorem d_X12_isFound_18 : DC mX12_isFound 18 (.iconst 4) 1 19 := ⟨by decide +kernel, rfl⟩
theorem d_X12_isFound_19 : DC mX12_isFound 19 (.invokevirtual 401) 3 22 := ⟨by decide +kernel, rfl⟩
theorem d_X12_isFound_22 : DC mX12_isFound 22 (.iastore) 1 23 := ⟨by decide +kernel, rfl⟩
theorem d_X12_isFound_23 : DC mX12_isFound 23 (.iconst 0) 1 24 := ⟨by decide +kernel, rfl⟩
theorem d_X12_isFound_24 : DC mX12_isFound 24 (.istore_n 3) 1 25 := ⟨by decide +kernel, rfl⟩
theorem d_X12_isFound_25 : DC mX12_isFound 25 (.iload_n 3) 1 26 := ⟨by decide +kernel, rfl⟩
theorem d_X12_isFound_26 : DC mX12_isFound 26 (.bipush 6) 2 28 := ⟨by decide +kernel, rfl⟩
theorem d_X12_isFound_28 : DC mX12_isFound 28 (.if_icmp .ge 25) 3 31 := ⟨by decide +kernel, rfl⟩
theorem d_X12_isFound_31 : DC mX12_isFound 31 (.aload_n 0) 1 32 := ⟨by decide +kernel, rfl⟩
theorem d_X12_isFound_32 : DC mX12_isFound 32 (.getfield 83) 3 35 := ⟨by decide +kernel, rfl⟩
theorem d_X12_isFound_35 : DC mX12_isFound 35 (.iload_n 3) 1 36 := ⟨by decide +kernel, rfl⟩
theorem d_X12_isFound_36 : DC mX12_isFound 36 (.iconst 1) 1 37 := ⟨by decide +kernel, rfl⟩
theorem d_X12_isFound_37 : DC mX12_isFound 37 (.iadd) 1 38 := ⟨by decide +kernel, rfl⟩
theorem d_X12_isFound_38 : DC mX12_isFound 38 (.aload_n 0) 1 39 := ⟨by decide +kernel, rfl⟩
theorem d_X12_isFound_39 : DC mX12_isFound 39 (.getfield 80) 3 42 := ⟨by decide +kernel, rfl⟩
theorem d_X12_isFound_42 : DC mX12_isFound 42 (.iload_n 3) 1 43 := ⟨by decide +kernel, rfl⟩
theorem d_X12_isFound_43 : DC mX12_isFound 43 (.iaload) 1 44 := ⟨by decide +kernel, rfl⟩
theorem d_X12_isFound_44 : DC mX12_isFound 44 (.iconst 1) 1 45 := ⟨by decide +kernel, rfl⟩
theorem d_X12_isFound_45 : DC mX12_isFound 45 (.iadd) 1 46 := ⟨by decide +kernel, rfl⟩
theorem d_X12_isFound_46 : DC mX12_isFound 46 (.iastore) 1 47 := ⟨by decide +kernel, rfl⟩
theorem d_X12_isFound_47 : DC mX12_isFound 47 (.iinc 3 1) 3 50 := ⟨by decide +kernel, rfl⟩
theorem d_X12_isFound_50 : DC mX12_isFound 50 (.goto (-25)) 3 53 := ⟨by decide +kernel, rfl⟩
theorem d_X12_isFound_53 : DC mX12_isFound 53 (.aload_n 0) 1 54 := ⟨by decide +kernel, rfl⟩
theorem d_X12_isFound_54 : DC mX12_isFound 54 (.getfield 83) 3 57 := ⟨by decide +kernel, rfl⟩
theorem d_X12_isFound_57 : DC mX12_isFound 57 (.iconst 0) 1 58 := ⟨by decide +kernel, rfl⟩
theorem d_X12_isFound_58 : DC mX12_isFound 58 (.iaload) 1 59 := ⟨by decide +kernel, rfl⟩
theorem d_X12_isFound_59 : DC mX12_isFound 59 (.ifCond .eq 7) 3 62 := ⟨by decide +kernel, rfl⟩
theorem d_X12_isFound_62 : DC mX12_isFound 62 (.iconst 1) 1 63 := ⟨by decide +kernel, rfl⟩
theorem d_X12_isFound_63 : DC mX12_isFound 63 (.goto 4) 3 66 := ⟨by decide +kernel, rfl⟩
theorem d_X12_isFound_66 : DC mX12_isFound 66 (.iconst 0) 1 67 := ⟨by decide +kernel, rfl⟩
theorem d_X12_isFound_67 : DC mX12_isFound 67 (.ireturn) 1 68 := ⟨by decide +kernel, rfl⟩
theorem d_X12_isFound_68 : DC mX12_isFound 68 (.iconst 0) 1 69 := ⟨by decide +kernel, rfl⟩
theorem d_X12_isFound_69 : DC mX12_isFound 69 (.istore_n 3) 1 70 := ⟨by decide +kernel, rfl⟩
theorem d_X12_isFound_70 : DC mX12_isFound 70 (.iload_n 3) 1 71 := ⟨by decide +kernel, rfl⟩
theorem d_X12_isFound_71 : DC mX12_isFound 71 (.bipush 6) 2 73 := ⟨by decide +kernel, rfl⟩
theorem d_X12_isFound_73 : DC mX12_isFound 73 (.if_icmp .ge 50) 3 76 := ⟨by decide +kernel, rfl⟩
theorem d_X12_isFound_76 : DC mX12_isFound 76 (.iload_n 2) 1 77 := ⟨by decide +kernel, rfl⟩
theorem d_X12_isFound_77 : DC mX12_isFound 77 (.iload_n 3) 1 78 := ⟨by decide +kernel, rfl⟩
theorem d_X12_isFound_78 : DC mX12_isFound 78 (.ishr) 1 79 := ⟨by decide +kernel, rfl⟩
theorem d_X12_isFound_79 : DC mX12_isFound 79 (.iconst 1) 1 80 := ⟨by decide +kernel, rfl⟩
theorem d_X12_isFound_80 : DC mX12_isFound 80 (.iand) 1 81 := ⟨by decide +kernel, rfl⟩
theorem d_X12_isFound_81 : DC mX12_isFound 81 (.iconst 1) 1 82 := ⟨by decide +kernel, rfl⟩
theorem d_X12_isFound_82 : DC mX12_isFound 82 (.if_icmp .ne 6) 3 85 := ⟨by decide +kernel, rfl⟩
theorem d_X12_isFound_85 : DC mX12_isFound 85 (.goto 32) 3 88 := ⟨by decide +kernel, rfl⟩
theorem d_X12_isFound_88 : DC mX12_isFound 88 (.aload_n 0) 1 89 := ⟨by decide +kernel, rfl⟩
theorem d_X12_isFound_89 : DC mX12_isFound 89 (.getfield 80) 3 92 := ⟨by decide +kernel, rfl⟩
theorem d_X12_isFound_92 : DC mX12_isFound 92 (.iload_n 1) 1 93 := ⟨by decide +kernel, rfl⟩
theorem d_X12_isFound_93 : DC mX12_isFound 93 (.aload_n 0) 1 94 := ⟨by decide +kernel, rfl⟩
theorem d_X12_isFound_94 : DC mX12_isFound 94 (.getfield 77) 3 97 := ⟨by decide +kernel, rfl⟩
theorem d_X12_isFound_97 : DC mX12_isFound 97 (.iload_n 3) 1 98 := ⟨by decide +kernel, rfl⟩
theorem d_X12_isFound_98 : DC mX12_isFound 98 (.iaload) 1 99 := ⟨by decide +kernel, rfl⟩
theorem d_X12_isFound_99 : DC mX12_isFound 99 (.iastore) 1 100 := ⟨by decide +kernel, rfl⟩
theorem d_X12_isFound_100 : DC mX12_isFound 100 (.aload_n 0) 1 101 := ⟨by decide +kernel, rfl⟩
theorem d_X12_isFound_101 : DC mX12_isFound 101 (.iload_n 1) 1 102 := ⟨by decide +kernel, rfl⟩
theorem d_X12_isFound_102 : DC mX12_isFound 102 (.iconst 1) 1 103 := ⟨by decide +kernel, rfl⟩
theorem d_X12_isFound_103 : DC mX12_isFound 103 (.iadd) 1 104 := ⟨by decide +kernel, rfl⟩
theorem d_X12_isFound_104 : DC mX12_isFound 104 (.iload_n 2) 1 105 := ⟨by decide +kernel, rfl⟩
theorem d_X12_isFound_105 : DC mX12_isFound 105 (.iconst 1) 1 106 := ⟨by decide +kernel, rfl⟩
theorem d_X12_isFound_106 : DC mX12_isFound 106 (.iload_n 3) 1 107 := ⟨by decide +kernel, rfl⟩
theorem d_X12_isFound_107 : DC mX12_isFound 107 (.ishl) 1 108 := ⟨by decide +kernel, rfl⟩
theorem d_X12_isFound_108 : DC mX12_isFound 108 (.ior) 1 109 := ⟨by decide +kernel, rfl⟩
theorem d_X12_isFound_109 : DC mX12_isFound 109 (.invokevirtual 404) 3 112 := ⟨by decide +kernel, rfl⟩
theorem d_X12_isFound_112 : DC mX12_isFound 112 (.ifCond .eq 5) 3 115 := ⟨by decide +kernel, rfl⟩
theorem d_X12_isFound_115 : DC mX12_isFound 115 (.iconst 1) 1 116 := ⟨by decide +kernel, rfl⟩
theorem d_X12_isFound_116 : DC mX12_isFound 116 (.ireturn) 1 117 := ⟨by decide +kernel, rfl⟩
theorem d_X12_isFound_117 : DC mX12_isFound 117 (.iinc 3 1) 3 120 := ⟨by decide +kernel, rfl⟩
theorem d_X12_isFound_120 : DC mX12_isFound 120 (.goto (-50)) 3 123 := ⟨by decide +kernel, rfl⟩
theorem d_X12_isFound_123 : DC mX12_isFound 123 (.iconst 0) 1 124 := ⟨by decide +kernel, rfl⟩
theorem d_X12_isFound_124 : DC mX12_isFound 124 (.ireturn) 1 125 := ⟨by decide +kernel, rfl⟩
theorem d_X12_factor_0 : DC mX12_factor 0 (.aload_n 0) 1 1 := ⟨by decide +kernel, rfl⟩
theorem d_X12_factor_1 : DC mX12_factor 1 (.iconst 0) 1 2 := ⟨by decide +kernel, rfl⟩
theorem d_X12_factor_2 : DC mX12_factor 2 (.putfield 1) 3 5 := ⟨by decide +kernel, rfl⟩
theorem d_X12_factor_5 : DC mX12_factor 5 (.iload_n 1) 1 6 := ⟨by decide +kernel, rfl⟩
theorem d_X12_factor_6 : DC mX12_factor 6 (.invokestatic 199) 3 9 := ⟨by decide +kernel, rfl⟩
theorem d_X12_factor_9 : DC mX12_factor 9 (.ifCond .eq 15) 3 12 := ⟨by decide +kernel, rfl⟩
theorem d_X12_factor_12 : DC mX12_factor 12 (.iload_n 2) 1 13 := ⟨by decide +kernel, rfl⟩
theorem d_X12_factor_13 : DC mX12_factor 13 (.i2l) 1 14 := ⟨by decide +kernel, rfl⟩
theorem d_X12_factor_14 : DC mX12_factor 14 (.lconst 0) 1 15 := ⟨by decide +kernel, rfl⟩
theorem d_X12_factor_15 : DC mX12_factor 15 (.ldc2_w 407) 3 18 := ⟨by decide +kernel, rfl⟩
theorem d_X12_factor_18 : DC mX12_factor 18 (.invokestatic 91) 3 21 := ⟨by decide +kernel, rfl⟩
theorem d_X12_factor_21 : DC mX12_factor 21 (.ifCond .ne 10) 3 24 := ⟨by decide +kernel, rfl⟩
theorem d_X12_factor_24 : DC mX12_factor 24 (.aload_n 0) 1 25 := ⟨by decide +kernel, rfl⟩
theorem d_X12_factor_25 : DC mX12_factor 25 (.bipush (-2)) 2 27 := ⟨by decide +kernel, rfl⟩
theorem d_X12_factor_27 : DC mX12_factor 27 (.invokevirtual 218) 3 30 := ⟨by decide +kernel, rfl⟩
theorem d_X12_factor_30 : DC mX12_factor 30 (.ireturn) 1 31 := ⟨by decide +kernel, rfl⟩
theorem d_X12_factor_31 : DC mX12_factor 31 (.aload_n 0) 1 32 := ⟨by decide +kernel, rfl⟩
theorem d_X12_factor_32 : DC mX12_factor 32 (.iload_n 1) 1 33 := ⟨by decide +kernel, rfl⟩
theorem d_X12_factor_33 : DC mX12_factor 33 (.invokevirtual 409) 3 36 := ⟨by decide +kernel, rfl⟩
theorem d_X12_factor_36 : DC mX12_factor 36 (.ifCond .ne 9) 3 39 := ⟨by decide +kernel, rfl⟩
theorem d_X12_factor_39 : DC mX12_factor 39 (.aload_n 0) 1 40 := ⟨by decide +kernel, rfl⟩
theorem d_X12_factor_40 : DC mX12_factor 40 (.iconst 0) 1 41 := ⟨by decide +kernel, rfl⟩
theorem d_X12_factor_41 : DC mX12_factor 41 (.invokevirtual 218) 3 44 := ⟨by decide +kernel, rfl⟩
theorem d_X12_factor_44 : DC mX12_factor 44 (.ireturn) 1 45 := ⟨by decide +kernel, rfl⟩
theorem d_X12_factor_45 : DC mX12_factor 45 (.aload_n 0) 1 46 := ⟨by decide +kernel, rfl⟩
theorem d_X12_factor_46 : DC mX12_factor 46 (.invokevirtual 202) 3 49 := ⟨by decide +kernel, rfl⟩
theorem d_X12_factor_49 : DC mX12_factor 49 (.aload_n 0) 1 50 := ⟨by decide +kernel, rfl⟩
theorem d_X12_factor_50 : DC mX12_factor 50 (.iload_n 1) 1 51 := ⟨by decide +kernel, rfl⟩
theorem d_X12_factor_51 : DC mX12_factor 51 (.iconst 3) 1 52 := ⟨by decide +kernel, rfl⟩
theorem d_X12_factor_52 : DC mX12_factor 52 (.invokevirtual 349) 3 55 := ⟨by decide +kernel, rfl⟩
theorem d_X12_factor_55 : DC mX12_factor 55 (.istore_n 3) 1 56 := ⟨by decide +kernel, rfl⟩
theorem d_X12_factor_56 : DC mX12_factor 56 (.iload_n 3) 1 57 := ⟨by decide +kernel, rfl⟩
theorem d_X12_factor_57 : DC mX12_factor 57 (.ifCond .eq 5) 3 60 := ⟨by decide +kernel, rfl⟩
theorem d_X12_factor_60 : DC mX12_factor 60 (.iload_n 3) 1 61 := ⟨by decide +kernel, rfl⟩
theorem d_X12_factor_61 : DC mX12_factor 61 (.ireturn) 1 62 := ⟨by decide +kernel, rfl⟩
theorem d_X12_factor_62 : DC mX12_factor 62 (.aload_n 0) 1 63 := ⟨by decide +kernel, rfl⟩
theorem d_X12_factor_63 : DC mX12_factor 63 (.iconst 0) 1 64 := ⟨by decide +kernel, rfl⟩
theorem d_X12_factor_64 : DC mX12_factor 64 (.iconst 0) 1 65 := ⟨by decide +kernel, rfl⟩
theorem d_X12_factor_65 : DC mX12_factor 65 (.invokevirtual 404) 3 68 := ⟨by decide +kernel, rfl⟩
theorem d_X12_factor_68 : DC mX12_factor 68 (.ifCond .eq 12) 3 71 := ⟨by decide +kernel, rfl⟩
theorem d_X12_factor_71 : DC mX12_factor 71 (.aload_n 0) 1 72 := ⟨by decide +kernel, rfl⟩
theorem d_X12_factor_72 : DC mX12_factor 72 (.getfield 83) 3 75 := ⟨by decide +kernel, rfl⟩
theorem d_X12_factor_75 : DC mX12_factor 75 (.iload_n 2) 1 76 := ⟨by decide +kernel, rfl⟩
theorem d_X12_factor_76 : DC mX12_factor 76 (.iaload) 1 77 := ⟨by decide +kernel, rfl⟩
theorem d_X12_factor_77 : DC mX12_factor 77 (.goto 4) 3 80 := ⟨by decide +kernel, rfl⟩
theorem d_X12_factor_80 : DC mX12_factor 80 (.iconst 0) 1 81 := ⟨by decide +kernel, rfl⟩
theorem d_X12_factor_81 : DC mX12_factor 81 (.ireturn) 1 82 := ⟨by decide +kernel, rfl⟩
theorem d_X12_isFinal_0 : DC mX12_isFinal 0 (.aload_n 0) 1 1 := ⟨by decide +kernel, rfl⟩
theorem d_X12_isFinal_1 : DC mX12_isFinal 1 (.iconst 0) 1 2 := ⟨by decide +kernel, rfl⟩
theorem d_X12_isFinal_2 : DC mX12_isFinal 2 (.putfield 1) 3 5 := ⟨by decide +kernel, rfl⟩
theorem d_X12_isFinal_5 : DC mX12_isFinal 5 (.iload_n 1) 1 6 := ⟨by decide +kernel, rfl⟩
theorem d_X12_isFinal_6 : DC mX12_isFinal 6 (.invokestatic 199) 3 9 := ⟨by decide +kernel, rfl⟩
theorem d_X12_isFinal_9 : DC mX12_isFinal 9 (.ifCond .ne 10) 3 12 := ⟨by decide +kernel, rfl⟩
theorem d_X12_isFinal_12 : DC mX12_isFinal 12 (.aload_n 0) 1 13 := ⟨by decide +kernel, rfl⟩
theorem d_X12_isFinal_13 : DC mX12_isFinal 13 (.bipush (-2)) 2 15 := ⟨by decide +kernel, rfl⟩
theorem d_X12_isFinal_15 : DC mX12_isFinal 15 (.invokevirtual 218) 3 18 := ⟨by decide +kernel, rfl⟩
theorem d_X12_isFinal_18 : DC mX12_isFinal 18 (.ireturn) 1 19 := ⟨by decide +kernel, rfl⟩
theorem d_X12_isFinal_19 : DC mX12_isFinal 19 (.aload_n 0) 1 20 := ⟨by decide +kernel, rfl⟩
theorem d_X12_isFinal_20 : DC mX12_isFinal 20 (.invokevirtual 202) 3 23 := ⟨by decide +kernel, rfl⟩
theorem d_X12_isFinal_23 : DC mX12_isFinal 23 (.aload_n 0) 1 24 := ⟨by decide +kernel, rfl⟩
theorem d_X12_isFinal_24 : DC mX12_isFinal 24 (.iload_n 1) 1 25 := ⟨by decide +kernel, rfl⟩
theorem d_X12_isFinal_25 : DC mX12_isFinal 25 (.iconst 3) 1 26 := ⟨by decide +kernel, rfl⟩
theorem d_X12_isFinal_26 : DC mX12_isFinal 26 (.invokevirtual 349) 3 29 := ⟨by decide +kernel, rfl⟩
theorem d_X12_isFinal_29 : DC mX12_isFinal 29 (.istore_n 2) 1 30 := ⟨by decide +kernel, rfl⟩
theorem d_X12_isFinal_30 : DC mX12_isFinal 30 (.iload_n 2) 1 31 := ⟨by decide +kernel, rfl⟩
theorem d_X12_isFinal_31 : DC mX12_isFinal 31 (.ifCond .eq 5) 3 34 := ⟨by decide +kernel, rfl⟩
theorem d_X12_isFinal_34 : DC mX12_isFinal 34 (.iload_n 2) 1 35 := ⟨by decide +kernel, rfl⟩
theorem d_X12_isFinal_35 : DC mX12_isFinal 35 (.ireturn) 1 36 := ⟨by decide +kernel, rfl⟩
theorem d_X12_isFinal_36 : DC mX12_isFinal 36 (.aload_n 0) 1 37 := ⟨by decide +kernel, rfl⟩
theorem d_X12_isFinal_37 : DC mX12_isFinal 37 (.iconst 3) 1 38 := ⟨by decide +kernel, rfl⟩
theorem d_X12_isFinal_38 : DC mX12_isFinal 38 (.invokevirtual 113) 3 41 := ⟨by decide +kernel, rfl⟩
theorem d_X12_isFinal_41 : DC mX12_isFinal 41 (.ifCond .le 5) 3 44 := ⟨by decide +kernel, rfl⟩
theorem d_X12_isFinal_44 : DC mX12_isFinal 44 (.iconst 0) 1 45 := ⟨by decide +kernel, rfl⟩
theorem d_X12_isFinal_45 : DC mX12_isFinal 45 (.ireturn) 1 46 := ⟨by decide +kernel, rfl⟩
theorem d_X12_isFinal_46 : DC mX12_isFinal 46 (.aload_n 0) 1 47 := ⟨by decide +kernel, rfl⟩
theorem d_X12_isFinal_47 : DC mX12_isFinal 47 (.iload_n 1) 1 48 := ⟨by decide +kernel, rfl⟩
theorem d_X12_isFinal_48 : DC mX12_isFinal 48 (.invokevirtual 247) 3 51 := ⟨by decide +kernel, rfl⟩
theorem d_X12_isFinal_51 : DC mX12_isFinal 51 (.aload_n 0) 1 52 := ⟨by decide +kernel, rfl⟩
theorem d_X12_isFinal_52 : DC mX12_isFinal 52 (.iconst 0) 1 53 := ⟨by decide +kernel, rfl⟩
theorem d_X12_isFinal_53 : DC mX12_isFinal 53 (.invokevirtual 113) 3 56 := ⟨by decide +kernel, rfl⟩
theorem d_X12_isFinal_56 : DC mX12_isFinal 56 (.iconst 1) 1 57 := ⟨by decide +kernel, rfl⟩
theorem d_X12_isFinal_57 : DC mX12_isFinal 57 (.if_icmp .eq 5) 3 60 := ⟨by decide +kernel, rfl⟩
theorem d_X12_isFinal_60 : DC mX12_isFinal 60 (.iconst 0) 1 61 := ⟨by decide +kernel, rfl⟩
theorem d_X12_isFinal_61 : DC mX12_isFinal 61 (.ireturn) 1 62 := ⟨by decide +kernel, rfl⟩
theorem d_X12_isFinal_62 : DC mX12_isFinal 62 (.aload_n 0) 1 63 := ⟨by decide +kernel, rfl⟩
theorem d_X12_isFinal_63 : DC mX12_isFinal 63 (.iconst 0) 1 64 := ⟨by decide +kernel, rfl⟩
theorem d_X12_isFinal_64 : DC mX12_isFinal 64 (.iconst 0) 1 65 := ⟨by decide +kernel, rfl⟩
theorem d_X12_isFinal_65 : DC mX12_isFinal 65 (.invokevirtual 117) 3 68 := ⟨by decide +kernel, rfl⟩
theorem d_X12_isFinal_68 : DC mX12_isFinal 68 (.istore_n 3) 1 69 := ⟨by decide +kernel, rfl⟩
theorem d_X12_isFinal_69 : DC mX12_isFinal 69 (.iload_n 3) 1 70 := ⟨by decide +kernel, rfl⟩
theorem d_X12_isFinal_70 : DC mX12_isFinal 70 (.invokestatic 138) 3 73 := ⟨by decide +kernel, rfl⟩
theorem d_X12_isFinal_73 : DC mX12_isFinal 73 (.ifCond .le 7) 3 76 := ⟨by decide +kernel, rfl⟩
theorem d_X12_isFinal_76 : DC mX12_isFinal 76 (.iconst 1) 1 77 := ⟨by decide +kernel, rfl⟩
theorem d_X12_isFinal_77 : DC mX12_isFinal 77 (.goto 4) 3 80 := ⟨by decide +kernel, rfl⟩
theorem d_X12_isFinal_80 : DC mX12_isFinal 80 (.iconst 0) 1 81 := ⟨by decide +kernel, rfl⟩
theorem d_X12_isFinal_81 : DC mX12_isFinal 81 (.istore 4) 2 83 := ⟨by decide +kernel, rfl⟩
theorem d_X12_isFinal_83 : DC mX12_isFinal 83 (.iconst 0) 1 84 := ⟨by decide +kernel, rfl⟩
theorem d_X12_isFinal_84 : DC mX12_isFinal 84 (.istore 5) 2 86 := ⟨by decide +kernel, rfl⟩
theorem d_X12_isFinal_86 : DC mX12_isFinal 86 (.iload 5) 2 88 := ⟨by decide +kernel, rfl⟩
theorem d_X12_isFinal_88 : DC mX12_isFinal 88 (.iload_n 3) 1 89 := ⟨by decide +kernel, rfl⟩
theorem d_X12_isFinal_89 : DC mX12_isFinal 89 (.invokestatic 138) 3 92 := ⟨by decide +kernel, rfl⟩
theorem d_X12_isFinal_92 : DC mX12_isFinal 92 (.if_icmp .ge 35) 3 95 := ⟨by decide +kernel, rfl⟩
theorem d_X12_isFinal_95 : DC mX12_isFinal 95 (.iload 4) 2 97 := ⟨by decide +kernel, rfl⟩
theorem d_X12_isFinal_97 : DC mX12_isFinal 97 (.ifCond .eq 21) 3 100 := ⟨by decide +kernel, rfl⟩
theorem d_X12_isFinal_100 : DC mX12_isFinal 100 (.aload_n 0) 1 101 := ⟨by decide +kernel, rfl⟩
theorem d_X12_isFinal_101 : DC mX12_isFinal 101 (.iload_n 3) 1 102 := ⟨by decide +kernel, rfl⟩
theorem d_X12_isFinal_102 : DC mX12_isFinal 102 (.iload 5) 2 104 := ⟨by decide +kernel, rfl⟩
theorem d_X12_isFinal_104 : DC mX12_isFinal 104 (.invokestatic 135) 3 107 := ⟨by decide +kernel, rfl⟩
theorem d_X12_isFinal_107 : DC mX12_isFinal 107 (.invokevirtual 244) 3 110 := ⟨by decide +kernel, rfl⟩
theorem d_X12_isFinal_110 : DC mX12_isFinal 110 (.iconst 1) 1 111 := ⟨by decide +kernel, rfl⟩
theorem d_X12_isFinal_111 : DC mX12_isFinal 111 (.if_icmp .ne 7) 3 114 := ⟨by decide +kernel, rfl⟩
theorem d_X12_isFinal_114 : DC mX12_isFinal 114 (.iconst 1) 1 115 := ⟨by decide +kernel, rfl⟩
theorem d_X12_isFinal_115 : DC mX12_isFinal 115 (.goto 4) 3 118 := ⟨by decide +kernel, rfl⟩
theorem d_X12_isFinal_118 : DC mX12_isFinal 118 (.iconst 0) 1 119 := ⟨by decide +kernel, rfl⟩
theorem d_X12_isFinal_119 : DC mX12_isFinal 119 (.istore 4) 2 121 := ⟨by decide +kernel, rfl⟩
theorem d_X12_isFinal_121 : DC mX12_isFinal 121 (.iinc 5 1) 3 124 := ⟨by decide +kernel, rfl⟩
theorem d_X12_isFinal_124 : DC mX12_isFinal 124 (.goto (-38)) 3 127 := ⟨by decide +kernel, rfl⟩
theorem d_X12_isFinal_127 : DC mX12_isFinal 127 (.iload 4) 2 129 := ⟨by decide +kernel, rfl⟩
theorem d_X12_isFinal_129 : DC mX12_isFinal 129 (.ifCond .eq 7) 3 132 := ⟨by decide +kernel, rfl⟩
theorem d_X12_isFinal_132 : DC mX12_isFinal 132 (.iconst 1) 1 133 := ⟨by decide +kernel, rfl⟩
theorem d_X12_isFinal_133 : DC mX12_isFinal 133 (.goto 4) 3 136 := ⟨by decide +kernel, rfl⟩
theorem d_X12_isFinal_136 : DC mX12_isFinal 136 (.iconst 0) 1 137 := ⟨by decide +kernel, rfl⟩
theorem d_X12_isFinal_137 : DC mX12_isFinal 137 (.ireturn) 1 138 := ⟨by decide +kernel, rfl⟩
theorem d_X12_known_0 : DC mX12_known 0 (.aload_n 0) 1 1 := ⟨by decide +kernel, rfl⟩
theorem d_X12_known_1 : DC mX12_known 1 (.iconst 0) 1 2 := ⟨by decide +kernel, rfl⟩
theorem d_X12_known_2 : DC mX12_known 2 (.putfield 1) 3 5 := ⟨by decide +kernel, rfl⟩
theorem d_X12_known_5 : DC mX12_known 5 (.iload_n 1) 1 6 := ⟨by decide +kernel, rfl⟩
theorem d_X12_known_6 : DC mX12_known 6 (.invokestatic 208) 3 9 := ⟨by decide +kernel, rfl⟩
theorem d_X12_known_9 : DC mX12_known 9 (.ifCond .eq 17) 3 12 := ⟨by decide +kernel, rfl⟩
theorem d_X12_known_12 : DC mX12_known 12 (.iload_n 2) 1 13 := ⟨by decide +kernel, rfl⟩
theorem d_X12_known_13 : DC mX12_known 13 (.invokestatic 208) 3 16 := ⟨by decide +kernel, rfl⟩
theorem d_X12_known_16 : DC mX12_known 16 (.ifCond .eq 10) 3 19 := ⟨by decide +kernel, rfl⟩
theorem d_X12_known_19 : DC mX12_known 19 (.iload_n 3) 1 20 := ⟨by decide +kernel, rfl⟩
theorem d_X12_known_20 : DC mX12_known 20 (.invokestatic 208) 3 23 := ⟨by decide +kernel, rfl⟩
theorem d_X12_known_23 : DC mX12_known 23 (.ifCond .ne 6) 3 26 := ⟨by decide +kernel, rfl⟩
theorem d_X12_known_26 : DC mX12_known 26 (.bipush (-2)) 2 28 := ⟨by decide +kernel, rfl⟩
theorem d_X12_known_28 : DC mX12_known 28 (.ireturn) 1 29 := ⟨by decide +kernel, rfl⟩
theorem d_X12_known_29 : DC mX12_known 29 (.aload_n 0) 1 30 := ⟨by decide +kernel, rfl⟩
theorem d_X12_known_30 : DC mX12_known 30 (.getfield 13) 3 33 := ⟨by decide +kernel, rfl⟩
theorem d_X12_known_33 : DC mX12_known 33 (.bipush 100) 2 35 := ⟨by decide +kernel, rfl⟩
theorem d_X12_known_35 : DC mX12_known 35 (.iload_n 1) 1 36 := ⟨by decide +kernel, rfl⟩
theorem d_X12_known_36 : DC mX12_known 36 (.imul) 1 37 := ⟨by decide +kernel, rfl⟩
theorem d_X12_known_37 : DC mX12_known 37 (.bipush 10) 2 39 := ⟨by decide +kernel, rfl⟩
theorem d_X12_known_39 : DC mX12_known 39 (.iload_n 2) 1 40 := ⟨by decide +kernel, rfl⟩
theorem d_X12_known_40 : DC mX12_known 40 (.imul) 1 41 := ⟨by decide +kernel, rfl⟩
theorem d_X12_known_41 : DC mX12_known 41 (.iadd) 1 42 := ⟨by decide +kernel, rfl⟩
theorem d_X12_known_42 : DC mX12_known 42 (.iload_n 3) 1 43 := ⟨by decide +kernel, rfl⟩
theorem d_X12_known_43 : DC mX12_known 43 (.iadd) 1 44 := ⟨by decide +kernel, rfl⟩
theorem d_X12_known_44 : DC mX12_known 44 (.iaload) 1 45 := ⟨by decide +kernel, rfl⟩
theorem d_X12_known_45 : DC mX12_known 45 (.invokestatic 168) 3 48 := ⟨by decide +kernel, rfl⟩
theorem d_X12_known_48 : DC mX12_known 48 (.istore 4) 2 50 := ⟨by decide +kernel, rfl⟩
theorem d_X12_known_50 : DC mX12_known 50 (.iload 4) 2 52 := ⟨by decide +kernel, rfl⟩
theorem d_X12_known_52 : DC mX12_known 52 (.ifCond .ne 8) 3 55 := ⟨by decide +kernel, rfl⟩
theorem d_X12_known_55 : DC mX12_known 55 (.bipush (-3)) 2 57 := ⟨by decide +kernel, rfl⟩
theorem d_X12_known_57 : DC mX12_known 57 (.goto 9) 3 60 := ⟨by decide +kernel, rfl⟩
theorem d_X12_known_60 : DC mX12_known 60 (.aload_n 0) 1 61 := ⟨by decide +kernel, rfl⟩
theorem d_X12_known_61 : DC mX12_known 61 (.iload 4) 2 63 := ⟨by decide +kernel, rfl⟩
theorem d_X12_known_63 : DC mX12_known 63 (.invokevirtual 244) 3 66 := ⟨by decide +kernel, rfl⟩
theorem d_X12_known_66 : DC mX12_known 66 (.ireturn) 1 67 := ⟨by decide +kernel, rfl⟩
theorem d_X12_at_0 : DC mX12_at 0 (.aload_n 0) 1 1 := ⟨by decide +kernel, rfl⟩
theorem d_X12_at_1 : DC mX12_at 1 (.iconst 0) 1 2 := ⟨by decide +kernel, rfl⟩
theorem d_X12_at_2 : DC mX12_at 2 (.putfield 1) 3 5 := ⟨by decide +kernel, rfl⟩
theorem d_X12_at_5 : DC mX12_at 5 (.iload_n 1) 1 6 := ⟨by decide +kernel, rfl⟩
theorem d_X12_at_6 : DC mX12_at 6 (.invokestatic 208) 3 9 := ⟨by decide +kernel, rfl⟩
theorem d_X12_at_9 : DC mX12_at 9 (.ifCond .eq 32) 3 12 := ⟨by decide +kernel, rfl⟩
theorem d_X12_at_12 : DC mX12_at 12 (.iload_n 2) 1 13 := ⟨by decide +kernel, rfl⟩
theorem d_X12_at_13 : DC mX12_at 13 (.i2l) 1 14 := ⟨by decide +kernel, rfl⟩
theorem d_X12_at_14 : DC mX12_at 14 (.lconst 0) 1 15 := ⟨by decide +kernel, rfl⟩
theorem d_X12_at_15 : DC mX12_at 15 (.ldc2_w 250) 3 18 := ⟨by decide +kernel, rfl⟩
theorem d_X12_at_18 : DC mX12_at 18 (.invokestatic 91) 3 21 := ⟨by decide +kernel, rfl⟩
theorem d_X12_at_21 : DC mX12_at 21 (.ifCond .eq 20) 3 24 := ⟨by decide +kernel, rfl⟩
theorem d_X12_at_24 : DC mX12_at 24 (.aload_n 0) 1 25 := ⟨by decide +kernel, rfl⟩
theorem d_X12_at_25 : DC mX12_at 25 (.getfield 20) 3 28 := ⟨by decide +kernel, rfl⟩
theorem d_X12_at_28 : DC mX12_at 28 (.sipush 966) 3 31 := ⟨by decide +kernel, rfl⟩
theorem d_X12_at_31 : DC mX12_at 31 (.iconst 3) 1 32 := ⟨by decide +kernel, rfl⟩
theorem d_X12_at_32 : DC mX12_at 32 (.iload_n 1) 1 33 := ⟨by decide +kernel, rfl⟩
theorem d_X12_at_33 : DC mX12_at 33 (.imul) 1 34 := ⟨by decide +kernel, rfl⟩
theorem d_X12_at_34 : DC mX12_at 34 (.iadd) 1 35 := ⟨by decide +kernel, rfl⟩
theorem d_X12_at_35 : DC mX12_at 35 (.iload_n 2) 1 36 := ⟨by decide +kernel, rfl⟩
theorem d_X12_at_36 : DC mX12_at 36 (.iadd) 1 37 := ⟨by decide +kernel, rfl⟩
theorem d_X12_at_37 : DC mX12_at 37 (.iaload) 1 38 := ⟨by decide +kernel, rfl⟩
theorem d_X12_at_38 : DC mX12_at 38 (.goto 5) 3 41 := ⟨by decide +kernel, rfl⟩
theorem d_X12_at_41 : DC mX12_at 41 (.bipush (-100)) 2 43 := ⟨by decide +kernel, rfl⟩
theorem d_X12_at_43 : DC mX12_at 43 (.ireturn) 1 44 := ⟨by decide +kernel, rfl⟩
theorem d_X12_worthOf_0 : DC mX12_worthOf 0 (.sipush 966) 3 3 := ⟨by decide +kernel, rfl⟩
theorem d_X12_worthOf_3 : DC mX12_worthOf 3 (.iconst 3) 1 4 := ⟨by decide +kernel, rfl⟩
theorem d_X12_worthOf_4 : DC mX12_worthOf 4 (.iload_n 1) 1 5 := ⟨by decide +kernel, rfl⟩
theorem d_X12_worthOf_5 : DC mX12_worthOf 5 (.imul) 1 6 := ⟨by decide +kernel, rfl⟩
theorem d_X12_worthOf_6 : DC mX12_worthOf 6 (.iadd) 1 7 := ⟨by decide +kernel, rfl⟩
theorem d_X12_worthOf_7 : DC mX12_worthOf 7 (.istore 4) 2 9 := ⟨by decide +kernel, rfl⟩
theorem d_X12_worthOf_9 : DC mX12_worthOf 9 (.sipush 966) 3 12 := ⟨by decide +kernel, rfl⟩
theorem d_X12_worthOf_12 : DC mX12_worthOf 12 (.iconst 3) 1 13 := ⟨by decide +kernel, rfl⟩
theorem d_X12_worthOf_13 : DC mX12_worthOf 13 (.iload_n 2) 1 14 := ⟨by decide +kernel, rfl⟩
theorem d_X12_worthOf_14 : DC mX12_worthOf 14 (.imul) 1 15 := ⟨by decide +kernel, rfl⟩
theorem d_X12_worthOf_15 : DC mX12_worthOf 15 (.iadd) 1 16 := ⟨by decide +kernel, rfl⟩
theorem d_X12_worthOf_16 : DC mX12_worthOf 16 (.istore 5) 2 18 := ⟨by decide +kernel, rfl⟩
theorem d_X12_worthOf_18 : DC mX12_worthOf 18 (.sipush 966) 3 21 := ⟨by decide +kernel, rfl⟩
theorem d_X12_worthOf_21 : DC mX12_worthOf 21 (.iconst 3) 1 22 := ⟨by decide +kernel, rfl⟩
theorem d_X12_worthOf_22 : DC mX12_worthOf 22 (.iload_n 3) 1 23 := ⟨by decide +kernel, rfl⟩
theorem d_X12_worthOf_23 : DC mX12_worthOf 23 (.imul) 1 24 := ⟨by decide +kernel, rfl⟩
theorem d_X12_worthOf_24 : DC mX12_worthOf 24 (.iadd) 1 25 := ⟨by decide +kernel, rfl⟩
theorem d_X12_worthOf_25 : DC mX12_worthOf 25 (.istore 6) 2 27 := ⟨by decide +kernel, rfl⟩
theorem d_X12_worthOf_27 : DC mX12_worthOf 27 (.aload_n 0) 1 28 := ⟨by decide +kernel, rfl⟩
theorem d_X12_worthOf_28 : DC mX12_worthOf 28 (.getfield 20) 3 31 := ⟨by decide +kernel, rfl⟩
theorem d_X12_worthOf_31 : DC mX12_worthOf 31 (.iload 4) 2 33 := ⟨by decide +kernel, rfl⟩
theorem d_X12_worthOf_33 : DC mX12_worthOf 33 (.iaload) 1 34 := ⟨by decide +kernel, rfl⟩
theorem d_X12_worthOf_34 : DC mX12_worthOf 34 (.aload_n 0) 1 35 := ⟨by decide +kernel, rfl⟩
theorem d_X12_worthOf_35 : DC mX12_worthOf 35 (.getfield 20) 3 38 := ⟨by decide +kernel, rfl⟩
theorem d_X12_worthOf_38 : DC mX12_worthOf 38 (.iload 5) 2 40 := ⟨by decide +kernel, rfl⟩
theorem d_X12_worthOf_40 : DC mX12_worthOf 40 (.iconst 1) 1 41 := ⟨by decide +kernel, rfl⟩
theorem d_X12_worthOf_41 : DC mX12_worthOf 41 (.iadd) 1 42 := ⟨by decide +kernel, rfl⟩
theorem d_X12_worthOf_42 : DC mX12_worthOf 42 (.iaload) 1 43 := ⟨by decide +kernel, rfl⟩
theorem d_X12_worthOf_43 : DC mX12_worthOf 43 (.aload_n 0) 1 44 := ⟨by decide +kernel, rfl⟩
theorem d_X12_worthOf_44 : DC mX12_worthOf 44 (.getfield 20) 3 47 := ⟨by decide +kernel, rfl⟩
theorem d_X12_worthOf_47 : DC mX12_worthOf 47 (.iload 6) 2 49 := ⟨by decide +kernel, rfl⟩
theorem d_X12_worthOf_49 : DC mX12_worthOf 49 (.iconst 2) 1 50 := ⟨by decide +kernel, rfl⟩
theorem d_X12_worthOf_50 : DC mX12_worthOf 50 (.iadd) 1 51 := ⟨by decide +kernel, rfl⟩
theorem d_X12_worthOf_51 : DC mX12_worthOf 51 (.iaload) 1 52 := ⟨by decide +kernel, rfl⟩
theorem d_X12_worthOf_52 : DC mX12_worthOf 52 (.imul) 1 53 := ⟨by decide +kernel, rfl⟩
theorem d_X12_worthOf_53 : DC mX12_worthOf 53 (.aload_n 0) 1 54 := ⟨by decide +kernel, rfl⟩
theorem d_X12_worthOf_54 : DC mX12_worthOf 54 (.getfield 20) 3 57 := ⟨by decide +kernel, rfl⟩
theorem d_X12_worthOf_57 : DC mX12_worthOf 57 (.iload 5) 2 59 := ⟨by decide +kernel, rfl⟩
theorem d_X12_worthOf_59 : DC mX12_worthOf 59 (.iconst 2) 1 60 := ⟨by decide +kernel, rfl⟩
theorem d_X12_worthOf_60 : DC mX12_worthOf 60 (.iadd) 1 61 := ⟨by decide +kernel, rfl⟩
theorem d_X12_worthOf_61 : DC mX12_worthOf 61 (.iaload) 1 62 := ⟨by decide +kernel, rfl⟩
theorem d_X12_worthOf_62 : DC mX12_worthOf 62 (.aload_n 0) 1 63 := ⟨by decide +kernel, rfl⟩
theorem d_X12_worthOf_63 : DC mX12_worthOf 63 (.getfield 20) 3 66 := ⟨by decide +kernel, rfl⟩
theorem d_X12_worthOf_66 : DC mX12_worthOf 66 (.iload 6) 2 68 := ⟨by decide +kernel, rfl⟩
theorem d_X12_worthOf_68 : DC mX12_worthOf 68 (.iconst 1) 1 69 := ⟨by decide +kernel, rfl⟩
theorem d_X12_worthOf_69 : DC mX12_worthOf 69 (.iadd) 1 70 := ⟨by decide +kernel, rfl⟩
theorem d_X12_worthOf_70 : DC mX12_worthOf 70 (.iaload) 1 71 := ⟨by decide +kernel, rfl⟩
theorem d_X12_worthOf_71 : DC mX12_worthOf 71 (.imul) 1 72 := ⟨by decide +kernel, rfl⟩
theorem d_X12_worthOf_72 : DC mX12_worthOf 72 (.isub) 1 73 := ⟨by decide +kernel, rfl⟩
theorem d_X12_worthOf_73 : DC mX12_worthOf 73 (.imul) 1 74 := ⟨by decide +kernel, rfl⟩
theorem d_X12_worthOf_74 : DC mX12_worthOf 74 (.aload_n 0) 1 75 := ⟨by decide +kernel, rfl⟩
theorem d_X12_worthOf_75 : DC mX12_worthOf 75 (.getfield 20) 3 78 := ⟨by decide +kernel, rfl⟩
theorem d_X12_worthOf_78 : DC mX12_worthOf 78 (.iload 4) 2 80 := ⟨by decide +kernel, rfl⟩
theorem d_X12_worthOf_80 : DC mX12_worthOf 80 (.iconst 1) 1 81 := ⟨by decide +kernel, rfl⟩
theorem d_X12_worthOf_81 : DC mX12_worthOf 81 (.iadd) 1 82 := ⟨by decide +kernel, rfl⟩
theorem d_X12_worthOf_82 : DC mX12_worthOf 82 (.iaload) 1 83 := ⟨by decide +kernel, rfl⟩
theorem d_X12_worthOf_83 : DC mX12_worthOf 83 (.aload_n 0) 1 84 := ⟨by decide +kernel, rfl⟩
theorem d_X12_worthOf_84 : DC mX12_worthOf 84 (.getfield 20) 3 87 := ⟨by decide +kernel, rfl⟩
theorem d_X12_worthOf_87 : DC mX12_worthOf 87 (.iload 5) 2 89 := ⟨by decide +kernel, rfl⟩
theorem d_X12_worthOf_89 : DC mX12_worthOf 89 (.iaload) 1 90 := ⟨by decide +kernel, rfl⟩
theorem d_X12_worthOf_90 : DC mX12_worthOf 90 (.aload_n 0) 1 91 := ⟨by decide +kernel, rfl⟩
theorem d_X12_worthOf_91 : DC mX12_worthOf 91 (.getfield 20) 3 94 := ⟨by decide +kernel, rfl⟩
theorem d_X12_worthOf_94 : DC mX12_worthOf 94 (.iload 6) 2 96 := ⟨by decide +kernel, rfl⟩
theorem d_X12_worthOf_96 : DC mX12_worthOf 96 (.iconst 2) 1 97 := ⟨by decide +kernel, rfl⟩
theorem d_X12_worthOf_97 : DC mX12_worthOf 97 (.iadd) 1 98 := ⟨by decide +kernel, rfl⟩
theorem d_X12_worthOf_98 : DC mX12_worthOf 98 (.iaload) 1 99 := ⟨by decide +kernel, rfl⟩
theorem d_X12_worthOf_99 : DC mX12_worthOf 99 (.imul) 1 100 := ⟨by decide +kernel, rfl⟩
theorem d_X12_worthOf_100 : DC mX12_worthOf 100 (.aload_n 0) 1 101 := ⟨by decide +kernel, rfl⟩
theorem d_X12_worthOf_101 : DC mX12_worthOf 101 (.getfield 20) 3 104 := ⟨by decide +kernel, rfl⟩
theorem d_X12_worthOf_104 : DC mX12_worthOf 104 (.iload 5) 2 106 := ⟨by decide +kernel, rfl⟩
theorem d_X12_worthOf_106 : DC mX12_worthOf 106 (.iconst 2) 1 107 := ⟨by decide +kernel, rfl⟩
theorem d_X12_worthOf_107 : DC mX12_worthOf 107 (.iadd) 1 108 := ⟨by decide +kernel, rfl⟩
theorem d_X12_worthOf_108 : DC mX12_worthOf 108 (.iaload) 1 109 := ⟨by decide +kernel, rfl⟩
theorem d_X12_worthOf_109 : DC mX12_worthOf 109 (.aload_n 0) 1 110 := ⟨by decide +kernel, rfl⟩
theorem d_X12_worthOf_110 : DC mX12_worthOf 110 (.getfield 20) 3 113 := ⟨by decide +kernel, rfl⟩
theorem d_X12_worthOf_113 : DC mX12_worthOf 113 (.iload 6) 2 115 := ⟨by decide +kernel, rfl⟩
theorem d_X12_worthOf_115 : DC mX12_worthOf 115 (.iaload) 1 116 := ⟨by decide +kernel, rfl⟩
theorem d_X12_worthOf_116 : DC mX12_worthOf 116 (.imul) 1 117 := ⟨by decide +kernel, rfl⟩
theorem d_X12_worthOf_117 : DC mX12_worthOf 117 (.isub) 1 118 := ⟨by decide +kernel, rfl⟩
theorem d_X12_worthOf_118 : DC mX12_worthOf 118 (.imul) 1 119 := ⟨by decide +kernel, rfl⟩
theorem d_X12_worthOf_119 : DC mX12_worthOf 119 (.isub) 1 120 := ⟨by decide +kernel, rfl⟩
theorem d_X12_worthOf_120 : DC mX12_worthOf 120 (.aload_n 0) 1 121 := ⟨by decide +kernel, rfl⟩
theorem d_X12_worthOf_121 : DC mX12_worthOf 121 (.getfield 20) 3 124 := ⟨by decide +kernel, rfl⟩
theorem d_X12_worthOf_124 : DC mX12_worthOf 124 (.iload 4) 2 126 := ⟨by decide +kernel, rfl⟩
theorem d_X12_worthOf_126 : DC mX12_worthOf 126 (.iconst 2) 1 127 := ⟨by decide +kernel, rfl⟩
theorem d_X12_worthOf_127 : DC mX12_worthOf 127 (.iadd) 1 128 := ⟨by decide +kernel, rfl⟩
theorem d_X12_worthOf_128 : DC mX12_worthOf 128 (.iaload) 1 129 := ⟨by decide +kernel, rfl⟩
theorem d_X12_worthOf_129 : DC mX12_worthOf 129 (.aload_n 0) 1 130 := ⟨by decide +kernel, rfl⟩
theorem d_X12_worthOf_130 : DC mX12_worthOf 130 (.getfield 20) 3 133 := ⟨by decide +kernel, rfl⟩
theorem d_X12_worthOf_133 : DC mX12_worthOf 133 (.iload 5) 2 135 := ⟨by decide +kernel, rfl⟩
theorem d_X12_worthOf_135 : DC mX12_worthOf 135 (.iaload) 1 136 := ⟨by decide +kernel, rfl⟩
theorem d_X12_worthOf_136 : DC mX12_worthOf 136 (.aload_n 0) 1 137 := ⟨by decide +kernel, rfl⟩
theorem d_X12_worthOf_137 : DC mX12_worthOf 137 (.getfield 20) 3 140 := ⟨by decide +kernel, rfl⟩
theorem d_X12_worthOf_140 : DC mX12_worthOf 140 (.iload 6) 2 142 := ⟨by decide +kernel, rfl⟩
theorem d_X12_worthOf_142 : DC mX12_worthOf 142 (.iconst 1) 1 143 := ⟨by decide +kernel, rfl⟩
theorem d_X12_worthOf_143 : DC mX12_worthOf 143 (.iadd) 1 144 := ⟨by decide +kernel, rfl⟩
theorem d_X12_worthOf_144 : DC mX12_worthOf 144 (.iaload) 1 145 := ⟨by decide +kernel, rfl⟩
theorem d_X12_worthOf_145 : DC mX12_worthOf 145 (.imul) 1 146 := ⟨by decide +kernel, rfl⟩
theorem d_X12_worthOf_146 : DC mX12_worthOf 146 (.aload_n 0) 1 147 := ⟨by decide +kernel, rfl⟩
theorem d_X12_worthOf_147 : DC mX12_worthOf 147 (.getfield 20) 3 150 := ⟨by decide +kernel, rfl⟩
theorem d_X12_worthOf_150 : DC mX12_worthOf 150 (.iload 5) 2 152 := ⟨by decide +kernel, rfl⟩
theorem d_X12_worthOf_152 : DC mX12_worthOf 152 (.iconst 1) 1 153 := ⟨by decide +kernel, rfl⟩
theorem d_X12_worthOf_153 : DC mX12_worthOf 153 (.iadd) 1 154 := ⟨by decide +kernel, rfl⟩
theorem d_X12_worthOf_154 : DC mX12_worthOf 154 (.iaload) 1 155 := ⟨by decide +kernel, rfl⟩
theorem d_X12_worthOf_155 : DC mX12_worthOf 155 (.aload_n 0) 1 156 := ⟨by decide +kernel, rfl⟩
theorem d_X12_worthOf_156 : DC mX12_worthOf 156 (.getfield 20) 3 159 := ⟨by decide +kernel, rfl⟩
theorem d_X12_worthOf_159 : DC mX12_worthOf 159 (.iload 6) 2 161 := ⟨by decide +kernel, rfl⟩
theorem d_X12_worthOf_161 : DC mX12_worthOf 161 (.iaload) 1 162 := ⟨by decide +kernel, rfl⟩
theorem d_X12_worthOf_162 : DC mX12_worthOf 162 (.imul) 1 163 := ⟨by decide +kernel, rfl⟩
theorem d_X12_worthOf_163 : DC mX12_worthOf 163 (.isub) 1 164 := ⟨by decide +kernel, rfl⟩
theorem d_X12_worthOf_164 : DC mX12_worthOf 164 (.imul) 1 165 := ⟨by decide +kernel, rfl⟩
theorem d_X12_worthOf_165 : DC mX12_worthOf 165 (.iadd) 1 166 := ⟨by decide +kernel, rfl⟩
theorem d_X12_worthOf_166 : DC mX12_worthOf 166 (.ireturn) 1 167 := ⟨by decide +kernel, rfl⟩
theorem d_X12_worth_0 : DC mX12_worth 0 (.aload_n 0) 1 1 := ⟨by decide +kernel, rfl⟩
theorem d_X12_worth_1 : DC mX12_worth 1 (.iconst 0) 1 2 := ⟨by decide +kernel, rfl⟩
theorem d_X12_worth_2 : DC mX12_worth 2 (.putfield 1) 3 5 := ⟨by decide +kernel, rfl⟩
theorem d_X12_worth_5 : DC mX12_worth 5 (.iload_n 1) 1 6 := ⟨by decide +kernel, rfl⟩
theorem d_X12_worth_6 : DC mX12_worth 6 (.invokestatic 208) 3 9 := ⟨by decide +kernel, rfl⟩
theorem d_X12_worth_9 : DC mX12_worth 9 (.ifCond .eq 27) 3 12 := ⟨by decide +kernel, rfl⟩
theorem d_X12_worth_12 : DC mX12_worth 12 (.iload_n 2) 1 13 := ⟨by decide +kernel, rfl⟩
theorem d_X12_worth_13 : DC mX12_worth 13 (.invokestatic 208) 3 16 := ⟨by decide +kernel, rfl⟩
theorem d_X12_worth_16 : DC mX12_worth 16 (.ifCond .eq 20) 3 19 := ⟨by decide +kernel, rfl⟩
theorem d_X12_worth_19 : DC mX12_worth 19 (.iload_n 3) 1 20 := ⟨by decide +kernel, rfl⟩
theorem d_X12_worth_20 : DC mX12_worth 20 (.invokestatic 208) 3 23 := ⟨by decide +kernel, rfl⟩
theorem d_X12_worth_23 : DC mX12_worth 23 (.ifCond .eq 13) 3 26 := ⟨by decide +kernel, rfl⟩
theorem d_X12_worth_26 : DC mX12_worth 26 (.aload_n 0) 1 27 := ⟨by decide +kernel, rfl⟩
theorem d_X12_worth_27 : DC mX12_worth 27 (.iload_n 1) 1 28 := ⟨by decide +kernel, rfl⟩
theorem d_X12_worth_28 : DC mX12_worth 28 (.iload_n 2) 1 29 := ⟨by decide +kernel, rfl⟩
theorem d_X12_worth_29 : DC mX12_worth 29 (.iload_n 3) 1 30 := ⟨by decide +kernel, rfl⟩
theorem d_X12_worth_30 : DC mX12_worth 30 (.invokevirtual 412) 3 33 := ⟨by decide +kernel, rfl⟩
theorem d_X12_worth_33 : DC mX12_worth 33 (.goto 6) 3 36 := ⟨by decide +kernel, rfl⟩
theorem d_X12_worth_36 : DC mX12_worth 36 (.ldc_w 334) 3 39 := ⟨by decide +kernel, rfl⟩
theorem d_X12_worth_39 : DC mX12_worth 39 (.ireturn) 1 40 := ⟨by decide +kernel, rfl⟩
theorem d_X12_worthOfRank_0 : DC mX12_worthOfRank 0 (.aload_n 0) 1 1 := ⟨by decide +kernel, rfl⟩
theorem d_X12_worthOfRank_1 : DC mX12_worthOfRank 1 (.aload_n 0) 1 2 := ⟨by decide +kernel, rfl⟩
theorem d_X12_worthOfRank_2 : DC mX12_worthOfRank 2 (.getfield 17) 3 5 := ⟨by decide +kernel, rfl⟩
theorem d_X12_worthOfRank_5 : DC mX12_worthOfRank 5 (.iconst 3) 1 6 := ⟨by decide +kernel, rfl⟩
theorem d_X12_worthOfRank_6 : DC mX12_worthOfRank 6 (.iload_n 1) 1 7 := ⟨by decide +kernel, rfl⟩
theorem d_X12_worthOfRank_7 : DC mX12_worthOfRank 7 (.imul) 1 8 := ⟨by decide +kernel, rfl⟩
theorem d_X12_worthOfRank_8 : DC mX12_worthOfRank 8 (.iaload) 1 9 := ⟨by decide +kernel, rfl⟩
theorem d_X12_worthOfRank_9 : DC mX12_worthOfRank 9 (.aload_n 0) 1 10 := ⟨by decide +kernel, rfl⟩
theorem d_X12_worthOfRank_10 : DC mX12_worthOfRank 10 (.getfield 17) 3 13 := ⟨by decide +kernel, rfl⟩
theorem d_X12_worthOfRank_13 : DC mX12_worthOfRank 13 (.iconst 3) 1 14 := ⟨by decide +kernel, rfl⟩
theorem d_X12_worthOfRank_14 : DC mX12_worthOfRank 14 (.iload_n 1) 1 15 := ⟨by decide +kernel, rfl⟩
theorem d_X12_worthOfRank_15 : DC mX12_worthOfRank 15 (.imul) 1 16 := ⟨by decide +kernel, rfl⟩
theorem d_X12_worthOfRank_16 : DC mX12_worthOfRank 16 (.iconst 1) 1 17 := ⟨by decide +kernel, rfl⟩
theorem d_X12_worthOfRank_17 : DC mX12_worthOfRank 17 (.iadd) 1 18 := ⟨by decide +kernel, rfl⟩
theorem d_X12_worthOfRank_18 : DC mX12_worthOfRank 18 (.iaload) 1 19 := ⟨by decide +kernel, rfl⟩
theorem d_X12_worthOfRank_19 : DC mX12_worthOfRank 19 (.aload_n 0) 1 20 := ⟨by decide +kernel, rfl⟩
theorem d_X12_worthOfRank_20 : DC mX12_worthOfRank 20 (.getfield 17) 3 23 := ⟨by decide +kernel, rfl⟩
theorem d_X12_worthOfRank_23 : DC mX12_worthOfRank 23 (.iconst 3) 1 24 := ⟨by decide +kernel, rfl⟩
theorem d_X12_worthOfRank_24 : DC mX12_worthOfRank 24 (.iload_n 1) 1 25 := ⟨by decide +kernel, rfl⟩
theorem d_X12_worthOfRank_25 : DC mX12_worthOfRank 25 (.imul) 1 26 := ⟨by decide +kernel, rfl⟩
theorem d_X12_worthOfRank_26 : DC mX12_worthOfRank 26 (.iconst 2) 1 27 := ⟨by decide +kernel, rfl⟩
theorem d_X12_worthOfRank_27 : DC mX12_worthOfRank 27 (.iadd) 1 28 := ⟨by decide +kernel, rfl⟩
theorem d_X12_worthOfRank_28 : DC mX12_worthOfRank 28 (.iaload) 1 29 := ⟨by decide +kernel, rfl⟩
theorem d_X12_worthOfRank_29 : DC mX12_worthOfRank 29 (.invokevirtual 412) 3 32 := ⟨by decide +kernel, rfl⟩
theorem d_X12_worthOfRank_32 : DC mX12_worthOfRank 32 (.ireturn) 1 33 := ⟨by decide +kernel, rfl⟩
theorem d_X12_fits_0 : DC mX12_fits 0 (.lload_n 0) 1 1 := ⟨by decide +kernel, rfl⟩
theorem d_X12_fits_1 : DC mX12_fits 1 (.lconst 0) 1 2 := ⟨by decide +kernel, rfl⟩
theorem d_X12_fits_2 : DC mX12_fits 2 (.lcmp) 1 3 := ⟨by decide +kernel, rfl⟩
theorem d_X12_fits_3 : DC mX12_fits 3 (.ifCond .eq 9) 3 6 := ⟨by decide +kernel, rfl⟩
theorem d_X12_fits_6 : DC mX12_fits 6 (.lload_n 2) 1 7 := ⟨by decide +kernel, rfl⟩
theorem d_X12_fits_7 : DC mX12_fits 7 (.lconst 0) 1 8 := ⟨by decide +kernel, rfl⟩
theorem d_X12_fits_8 : DC mX12_fits 8 (.lcmp) 1 9 := ⟨by decide +kernel, rfl⟩
theorem d_X12_fits_9 : DC mX12_fits 9 (.ifCond .ne 5) 3 12 := ⟨by decide +kernel, rfl⟩
theorem d_X12_fits_12 : DC mX12_fits 12 (.iconst 1) 1 13 := ⟨by decide +kernel, rfl⟩
theorem d_X12_fits_13 : DC mX12_fits 13 (.ireturn) 1 14 := ⟨by decide +kernel, rfl⟩
theorem d_X12_fits_14 : DC mX12_fits 14 (.lload_n 0) 1 15 := ⟨by decide +kernel, rfl⟩
theorem d_X12_fits_15 : DC mX12_fits 15 (.ldc2_w 416) 3 18 := ⟨by decide +kernel, rfl⟩
theorem d_X12_fits_18 : DC mX12_fits 18 (.lcmp) 1 19 := ⟨by decide +kernel, rfl⟩
theorem d_X12_fits_19 : DC mX12_fits 19 (.ifCond .ne 15) 3 22 := ⟨by decide +kernel, rfl⟩
theorem d_X12_fits_22 : DC mX12_fits 22 (.lload_n 2) 1 23 := ⟨by decide +kernel, rfl⟩
theorem d_X12_fits_23 : DC mX12_fits 23 (.lconst 1) 1 24 := ⟨by decide +kernel, rfl⟩
theorem d_X12_fits_24 : DC mX12_fits 24 (.lcmp) 1 25 := ⟨by decide +kernel, rfl⟩
theorem d_X12_fits_25 : DC mX12_fits 25 (.ifCond .ne 7) 3 28 := ⟨by decide +kernel, rfl⟩
theorem d_X12_fits_28 : DC mX12_fits 28 (.iconst 1) 1 29 := ⟨by decide +kernel, rfl⟩
theorem d_X12_fits_29 : DC mX12_fits 29 (.goto 4) 3 32 := ⟨by decide +kernel, rfl⟩
theorem d_X12_fits_32 : DC mX12_fits 32 (.iconst 0) 1 33 := ⟨by decide +kernel, rfl⟩
theorem d_X12_fits_33 : DC mX12_fits 33 (.ireturn) 1 34 := ⟨by decide +kernel, rfl⟩
theorem d_X12_fits_34 : DC mX12_fits 34 (.lload_n 0) 1 35 := ⟨by decide +kernel, rfl⟩
theorem d_X12_fits_35 : DC mX12_fits 35 (.lload_n 2) 1 36 := ⟨by decide +kernel, rfl⟩
theorem d_X12_fits_36 : DC mX12_fits 36 (.lmul) 1 37 := ⟨by decide +kernel, rfl⟩
theorem d_X12_fits_37 : DC mX12_fits 37 (.lload_n 2) 1 38 := ⟨by decide +kernel, rfl⟩
theorem d_X12_fits_38 : DC mX12_fits 38 (.ldiv) 1 39 := ⟨by decide +kernel, rfl⟩
theorem d_X12_fits_39 : DC mX12_fits 39 (.lload_n 0) 1 40 := ⟨by decide +kernel, rfl⟩
theorem d_X12_fits_40 : DC mX12_fits 40 (.lcmp) 1 41 := ⟨by decide +kernel, rfl⟩
theorem d_X12_fits_41 : DC mX12_fits 41 (.ifCond .ne 7) 3 44 := ⟨by decide +kernel, rfl⟩
theorem d_X12_fits_44 : DC mX12_fits 44 (.iconst 1) 1 45 := ⟨by decide +kernel, rfl⟩
theorem d_X12_fits_45 : DC mX12_fits 45 (.goto 4) 3 48 := ⟨by decide +kernel, rfl⟩
theorem d_X12_fits_48 : DC mX12_fits 48 (.iconst 0) 1 49 := ⟨by decide +kernel, rfl⟩
theorem d_X12_fits_49 : DC mX12_fits 49 (.ireturn) 1 50 := ⟨by decide +kernel, rfl⟩
theorem d_X12_value_0 : DC mX12_value 0 (.aload_n 0) 1 1 := ⟨by decide +kernel, rfl⟩
theorem d_X12_value_1 : DC mX12_value 1 (.iconst 0) 1 2 := ⟨by decide +kernel, rfl⟩
theorem d_X12_value_2 : DC mX12_value 2 (.putfield 1) 3 5 := ⟨by decide +kernel, rfl⟩
theorem d_X12_value_5 : DC mX12_value 5 (.iload_n 1) 1 6 := ⟨by decide +kernel, rfl⟩
theorem d_X12_value_6 : DC mX12_value 6 (.invokestatic 199) 3 9 := ⟨by decide +kernel, rfl⟩
theorem d_X12_value_9 : DC mX12_value 9 (.ifCond .ne 7) 3 12 := ⟨by decide +kernel, rfl⟩
theorem d_X12_value_12 : DC mX12_value 12 (.ldc2_w 416) 3 15 := ⟨by decide +kernel, rfl⟩
theorem d_X12_value_15 : DC mX12_value 15 (.lreturn) 1 16 := ⟨by decide +kernel, rfl⟩
theorem d_X12_value_16 : DC mX12_value 16 (.lconst 0) 1 17 := ⟨by decide +kernel, rfl⟩
theorem d_X12_value_17 : DC mX12_value 17 (.lstore_n 2) 1 18 := ⟨by decide +kernel, rfl⟩
theorem d_X12_value_18 : DC mX12_value 18 (.iconst 0) 1 19 := ⟨by decide +kernel, rfl⟩
theorem d_X12_value_19 : DC mX12_value 19 (.istore 4) 2 21 := ⟨by decide +kernel, rfl⟩
theorem d_X12_value_21 : DC mX12_value 21 (.iload 4) 2 23 := ⟨by decide +kernel, rfl⟩
theorem d_X12_value_23 : DC mX12_value 23 (.aload_n 0) 1 24 := ⟨by decide +kernel, rfl⟩
theorem d_X12_value_24 : DC mX12_value 24 (.getfield 20) 3 27 := ⟨by decide +kernel, rfl⟩
theorem d_X12_value_27 : DC mX12_value 27 (.sipush 161) 3 30 := ⟨by decide +kernel, rfl⟩
theorem d_X12_value_30 : DC mX12_value 30 (.iload_n 1) 1 31 := ⟨by decide +kernel, rfl⟩
theorem d_X12_value_31 : DC mX12_value 31 (.imul) 1 32 := ⟨by decide +kernel, rfl⟩
theorem d_X12_value_32 : DC mX12_value 32 (.iaload) 1 33 := ⟨by decide +kernel, rfl⟩
theorem d_X12_value_33 : DC mX12_value 33 (.if_icmp .ge 132) 3 36 := ⟨by decide +kernel, rfl⟩
theorem d_X12_value_36 : DC mX12_value 36 (.aload_n 0) 1 37 := ⟨by decide +kernel, rfl⟩
theorem d_X12_value_37 : DC mX12_value 37 (.getfield 20) 3 40 := ⟨by decide +kernel, rfl⟩
theorem d_X12_value_40 : DC mX12_value 40 (.iload_n 1) 1 41 := ⟨by decide +kernel, rfl⟩
theorem d_X12_value_41 : DC mX12_value 41 (.iload 4) 2 43 := ⟨by decide +kernel, rfl⟩
theorem d_X12_value_43 : DC mX12_value 43 (.invokestatic 339) 3 46 := ⟨by decide +kernel, rfl⟩
theorem d_X12_value_46 : DC mX12_value 46 (.istore 5) 2 48 := ⟨by decide +kernel, rfl⟩
theorem d_X12_value_48 : DC mX12_value 48 (.aload_n 0) 1 49 := ⟨by decide +kernel, rfl⟩
theorem d_X12_value_49 : DC mX12_value 49 (.getfield 20) 3 52 := ⟨by decide +kernel, rfl⟩
theorem d_X12_value_52 : DC mX12_value 52 (.sipush 161) 3 55 := ⟨by decide +kernel, rfl⟩
theorem d_X12_value_55 : DC mX12_value 55 (.iload_n 1) 1 56 := ⟨by decide +kernel, rfl⟩
theorem d_X12_value_56 : DC mX12_value 56 (.imul) 1 57 := ⟨by decide +kernel, rfl⟩
theorem d_X12_value_57 : DC mX12_value 57 (.iconst 2) 1 58 := ⟨by decide +kernel, rfl⟩
theorem d_X12_value_58 : DC mX12_value 58 (.iadd) 1 59 := ⟨by decide +kernel, rfl⟩
theorem d_X12_value_59 : DC mX12_value 59 (.iconst 2) 1 60 := ⟨by decide +kernel, rfl⟩
theorem d_X12_value_60 : DC mX12_value 60 (.iload 4) 2 62 := ⟨by decide +kernel, rfl⟩
theorem d_X12_value_62 : DC mX12_value 62 (.imul) 1 63 := ⟨by decide +kernel, rfl⟩
theorem d_X12_value_63 : DC mX12_value 63 (.iadd) 1 64 := ⟨by decide +kernel, rfl⟩
theorem d_X12_value_64 : DC mX12_value 64 (.iaload) 1 65 := ⟨by decide +kernel, rfl⟩
theorem d_X12_value_65 : DC mX12_value 65 (.i2l) 1 66 := ⟨by decide +kernel, rfl⟩
theorem d_X12_value_66 : DC mX12_value 66 (.lstore 6) 2 68 := ⟨by decide +kernel, rfl⟩
theorem d_X12_value_68 : DC mX12_value 68 (.iconst 0) 1 69 := ⟨by decide +kernel, rfl⟩
theorem d_X12_value_69 : DC mX12_value 69 (.istore 8) 2 71 := ⟨by decide +kernel, rfl⟩
theorem d_X12_value_71 : DC mX12_value 71 (.iload 8) 2 73 := ⟨by decide +kernel, rfl⟩
theorem d_X12_value_73 : DC mX12_value 73 (.iload 5) 2 75 := ⟨by decide +kernel, rfl⟩
theorem d_X12_value_75 : DC mX12_value 75 (.invokestatic 138) 3 78 := ⟨by decide +kernel, rfl⟩
theorem d_X12_value_78 : DC mX12_value 78 (.if_icmp .ge 44) 3 81 := ⟨by decide +kernel, rfl⟩
theorem d_X12_value_81 : DC mX12_value 81 (.aload_n 0) 1 82 := ⟨by decide +kernel, rfl⟩
theorem d_X12_value_82 : DC mX12_value 82 (.iload 5) 2 84 := ⟨by decide +kernel, rfl⟩
theorem d_X12_value_84 : DC mX12_value 84 (.iload 8) 2 86 := ⟨by decide +kernel, rfl⟩
theorem d_X12_value_86 : DC mX12_value 86 (.invokestatic 135) 3 89 := ⟨by decide +kernel, rfl⟩
theorem d_X12_value_89 : DC mX12_value 89 (.invokevirtual 418) 3 92 := ⟨by decide +kernel, rfl⟩
theorem d_X12_value_92 : DC mX12_value 92 (.i2l) 1 93 := ⟨by decide +kernel, rfl⟩
theorem d_X12_value_93 : DC mX12_value 93 (.lstore 9) 2 95 := ⟨by decide +kernel, rfl⟩
theorem d_X12_value_95 : DC mX12_value 95 (.lload 6) 2 97 := ⟨by decide +kernel, rfl⟩
theorem d_X12_value_97 : DC mX12_value 97 (.lload 9) 2 99 := ⟨by decide +kernel, rfl⟩
theorem d_X12_value_99 : DC mX12_value 99 (.invokestatic 421) 3 102 := ⟨by decide +kernel, rfl⟩
theorem d_X12_value_102 : DC mX12_value 102 (.ifCond .ne 7) 3 105 := ⟨by decide +kernel, rfl⟩
theorem d_X12_value_105 : DC mX12_value 105 (.ldc2_w 416) 3 108 := ⟨by decide +kernel, rfl⟩
theorem d_X12_value_108 : DC mX12_value 108 (.lreturn) 1 109 := ⟨by decide +kernel, rfl⟩
theorem d_X12_value_109 : DC mX12_value 109 (.lload 6) 2 111 := ⟨by decide +kernel, rfl⟩
theorem d_X12_value_111 : DC mX12_value 111 (.lload 9) 2 113 := ⟨by decide +kernel, rfl⟩
theorem d_X12_value_113 : DC mX12_value 113 (.lmul) 1 114 := ⟨by decide +kernel, rfl⟩
theorem d_X12_value_114 : DC mX12_value 114 (.lstore 6) 2 116 := ⟨by decide +kernel, rfl⟩
theorem d_X12_value_116 : DC mX12_value 116 (.iinc 8 1) 3 119 := ⟨by decide +kernel, rfl⟩
theorem d_X12_value_119 : DC mX12_value 119 (.goto (-48)) 3 122 := ⟨by decide +kernel, rfl⟩
theorem d_X12_value_122 : DC mX12_value 122 (.lload_n 2) 1 123 := ⟨by decide +kernel, rfl⟩
theorem d_X12_value_123 : DC mX12_value 123 (.lload 6) 2 125 := ⟨by decide +kernel, rfl⟩
theorem d_X12_value_125 : DC mX12_value 125 (.ladd) 1 126 := ⟨by decide +kernel, rfl⟩
theorem d_X12_value_126 : DC mX12_value 126 (.lstore 8) 2 128 := ⟨by decide +kernel, rfl⟩
theorem d_X12_value_128 : DC mX12_value 128 (.lload 6) 2 130 := ⟨by decide +kernel, rfl⟩
theorem d_X12_value_130 : DC mX12_value 130 (.lconst 0) 1 131 := ⟨by decide +kernel, rfl⟩
theorem d_X12_value_131 : DC mX12_value 131 (.lcmp) 1 132 := ⟨by decide +kernel, rfl⟩
theorem d_X12_value_132 : DC mX12_value 132 (.ifCond .le 13) 3 135 := ⟨by decide +kernel, rfl⟩
theorem d_X12_value_135 : DC mX12_value 135 (.lload 8) 2 137 := ⟨by decide +kernel, rfl⟩
theorem d_X12_value_137 : DC mX12_value 137 (.lload_n 2) 1 138 := ⟨by decide +kernel, rfl⟩
theorem d_X12_value_138 : DC mX12_value 138 (.lcmp) 1 139 := ⟨by decide +kernel, rfl⟩
theorem d_X12_value_139 : DC mX12_value 139 (.ifCond .ge 17) 3 142 := ⟨by decide +kernel, rfl⟩
theorem d_X12_value_142 : DC mX12_value 142 (.goto 10) 3 145 := ⟨by decide +kernel, rfl⟩
theorem d_X12_value_145 : DC mX12_value 145 (.lload 8) 2 147 := ⟨by decide +kernel, rfl⟩
theorem d_X12_value_147 : DC mX12_value 147 (.lload_n 2) 1 148 := ⟨by decide +kernel, rfl⟩
theorem d_X12_value_148 : DC mX12_value 148 (.lcmp) 1 149 := ⟨by decide +kernel, rfl⟩
theorem d_X12_value_149 : DC mX12_value 149 (.ifCond .le 7) 3 152 := ⟨by decide +kernel, rfl⟩
theorem d_X12_value_152 : DC mX12_value 152 (.ldc2_w 416) 3 155 := ⟨by decide +kernel, rfl⟩
theorem d_X12_value_155 : DC mX12_value 155 (.lreturn) 1 156 := ⟨by decide +kernel, rfl⟩
theorem d_X12_value_156 : DC mX12_value 156 (.lload 8) 2 158 := ⟨by decide +kernel, rfl⟩
theorem d_X12_value_158 : DC mX12_value 158 (.lstore_n 2) 1 159 := ⟨by decide +kernel, rfl⟩
theorem d_X12_value_159 : DC mX12_value 159 (.iinc 4 1) 3 162 := ⟨by decide +kernel, rfl⟩
theorem d_X12_value_162 : DC mX12_value 162 (.goto (-141)) 3 165 := ⟨by decide +kernel, rfl⟩
theorem d_X12_value_165 : DC mX12_value 165 (.lload_n 2) 1 166 := ⟨by decide +kernel, rfl⟩
theorem d_X12_value_166 : DC mX12_value 166 (.lreturn) 1 167 := ⟨by decide +kernel, rfl⟩
theorem v_X12_forms_0 {l : Launch} {d N : Nat} {Λ : Lay} {P : Int → Mem → Prop} {σ : Mem} {x1 t t_state : Int} (o_t : Ob N Λ t 21 36) (f_t_state : (Λ t).2.2 3 = t_state) (h0d : 1 ≤ d)
    (h : (∀ τ1, τ1 = st σ t 0 0 → (CI l mX12_isShelf (d - 1) [(0, x1)] N Λ τ1 (fun v3 σ2 => ((¬ v3 = 0 → (Ix N Λ t_state 0 (mulI 161 x1) ∧ ((¬ (σ2 t_state (mulI 161 x1)) = 0 → (CI l mX12_laysForms (d - 1) [(2, t), (0, x1), (0, 1048576)] N Λ σ2 (fun v5 σ4 => P (σ4 t 29) σ4))) ∧ ((σ2 t_state (mulI 161 x1)) = 0 → P (-1) σ2)))) ∧ (v3 = 0 → P (-2) σ2)))))) :
    WI l mX12_forms d P 0 [(2, t), (0, x1), (3, 0)] [] N Λ σ := by
  refine r_aload_n (x := t) d_X12_forms_0 rfl o_t.1 ?_
  refine r_iconst (x := 0) d_X12_forms_1 ⟨by decide, by decide⟩ ?_
  refine r_putI (j := 0) d_X12_forms_2 kX12 (by decide) fl_X12_1 rfl o_t.1 o_t.2.1 o_t.2.2.1 o_t.2.2.2 rfl ?_
  refine r_nmM (fun τ1 eτ1 => ?_)
  have h := h τ1 eτ1
  refine r_iload_n (x := x1) d_X12_forms_5 rfl ?_
  refine r_callS (Y2 := mX12_isShelf) (d := d - 1) (mc := 0) (ms := 0) (As := [(0, x1)]) (S := []) d_X12_forms_6 ok_mX12_isShelf ml_X12_199 rfl (rmc h0d (by decide)) rm00 (Nat.le_of_ble_eq_true rfl) rfl (MC.mono h (fun r N1 Λ1 σ2 hq => ?_))
  obtain ⟨v3, rfl, rfl, rfl, h⟩ := hq
  refine r_if_ne (tgt := 15) d_X12_forms_9 rfl (fun hc => ?_) (fun hc => ?_)
  · have h := h.1 hc
    refine r_aload_n (x := t) d_X12_forms_15 rfl o_t.1 ?_
    refine r_getf (j := 3) (t := 2) (x := t_state) d_X12_forms_16 kX12 (by decide) fl_X12_20 o_t.1 o_t.2.1 o_t.2.2.1 o_t.2.2.2 rfl f_t_state ?_
    refine r_sipush (x := 161) d_X12_forms_19 ⟨by decide, by decide⟩ (by decide) ?_
    refine r_iload_n (x := x1) d_X12_forms_22 rfl ?_
    refine r_imul d_X12_forms_23 ?_
    refine x_iald d_X12_forms_24 h.1 ?_
    have h := h.2
    refine r_if_ne (tgt := 30) d_X12_forms_25 rfl (fun hc => ?_) (fun hc => ?_)
    · have h := h.1 hc
      refine r_aload_n (x := t) d_X12_forms_30 rfl o_t.1 ?_
      refine r_iload_n (x := x1) d_X12_forms_31 rfl ?_
      refine r_ldcw (x := 1048576) d_X12_forms_32 ck_X12_369 (by decide) ?_
      refine r_callV (Y2 := mX12_laysForms) (d := d - 1) (mc := 0) (ms := 0) (c := t) (As := [(0, x1), (0, 1048576)]) (S := []) d_X12_forms_35 ok_mX12_laysForms ml_X12_370 rfl (rmc h0d (by decide)) rm00 (Nat.le_of_ble_eq_true rfl) rfl kX12 o_t.1 o_t.2.1 o_t.2.2.1 o_t.2.2.2 (MC.mono h (fun r N1 Λ1 σ4 hq => ?_))
      obtain ⟨v5, rfl, rfl, rfl, h⟩ := hq
      refine r_istore_n (L2 := [(2, t), (0, x1), (0, v5)]) d_X12_forms_38 (by decide) rfl rfl ?_
      refine r_aload_n (x := t) d_X12_forms_39 rfl o_t.1 ?_
      refine r_getf (j := 29) (t := 0) (x := (σ4 t 29)) d_X12_forms_40 kX12 (by decide) fl_X12_358 o_t.1 o_t.2.1 o_t.2.2.1 o_t.2.2.2 rfl rfl ?_
      exact r_iret d_X12_forms_43 rfl rfl (Nat.le_refl 0) (Nat.le_refl 0) ⟨_, rfl, rfl, rfl, h⟩
    · have h := h.2 hc
      refine r_iconst (x := (-1)) d_X12_forms_28 ⟨by decide, by decide⟩ ?_
      exact r_iret d_X12_forms_29 rfl rfl (Nat.le_refl 0) (Nat.le_refl 0) ⟨_, rfl, rfl, rfl, h⟩
  · have h := h.2 hc
    refine r_bipush (x := (-2)) d_X12_forms_12 ⟨by decide, by decide⟩ (by decide) ?_
    exact r_iret d_X12_forms_14 rfl rfl (Nat.le_refl 0) (Nat.le_refl 0) ⟨_, rfl, rfl, rfl, h⟩
theorem v_X12_form_0 {l : Launch} {d N : Nat} {Λ : Lay} {P : Int → Mem → Prop} {σ : Mem} {x1 x2 x3 t t_formRank t_letterOf t_state : Int} (o_t : Ob N Λ t 21 36) (f_t_state : (Λ t).2.2 3 = t_state) (f_t_letterOf : (Λ t).2.2 2 = t_letterOf) (f_t_formRank : (Λ t).2.2 26 = t_formRank) (h0d : 1 ≤ d)
    (h : (∀ τ1, τ1 = st σ t 0 0 → (CI l mX12_isShelf (d - 1) [(0, x1)] N Λ τ1 (fun v3 σ2 => ((¬ v3 = 0 → ((x2 < 0 → P (-3) σ2) ∧ (¬ (x2 < 0) → ((0 ≤ x3 → (Ix N Λ t_state 0 (mulI 161 x1) ∧ (((σ2 t_state (mulI 161 x1)) = 0 → P (-1) σ2) ∧ (¬ ((σ2 t_state (mulI 161 x1)) = 0) → (CI l mX12_laysForms (d - 1) [(2, t), (0, x1), (0, x2)] N Λ σ2 (fun v5 σ4 => ((v5 = 0 → P (-1) σ4) ∧ (¬ (v5 = 0) → ((x3 < (mulI 3 (σ4 t 28)) → (Ix N Λ t_formRank 0 (divI x3 3) ∧ (Ix N Λ t_letterOf 0 (addI (mulI 3 (σ4 t_formRank (divI x3 3))) (remI x3 3)) ∧ P (σ4 t_letterOf (addI (mulI 3 (σ4 t_formRank (divI x3 3))) (remI x3 3))) σ4))) ∧ (¬ (x3 < (mulI 3 (σ4 t 28))) → P (-1) σ4)))))))))) ∧ (¬ (0 ≤ x3) → P (-3) σ2))))) ∧ (v3 = 0 → P (-2) σ2)))))) :
    WI l mX12_form d P 0 [(2, t), (0, x1), (0, x2), (0, x3)] [] N Λ σ := by
  refine r_aload_n (x := t) d_X12_form_0 rfl o_t.1 ?_
  refine r_iconst (x := 0) d_X12_form_1 ⟨by decide, by decide⟩ ?_
  refine r_putI (j := 0) d_X12_form_2 kX12 (by decide) fl_X12_1 rfl o_t.1 o_t.2.1 o_t.2.2.1 o_t.2.2.2 rfl ?_
  refine r_nmM (fun τ1 eτ1 => ?_)
  have h := h τ1 eτ1
  refine r_iload_n (x := x1) d_X12_form_5 rfl ?_
  refine r_callS (Y2 := mX12_isShelf) (d := d - 1) (mc := 0) (ms := 0) (As := [(0, x1)]) (S := []) d_X12_form_6 ok_mX12_isShelf ml_X12_199 rfl (rmc h0d (by decide)) rm00 (Nat.le_of_ble_eq_true rfl) rfl (MC.mono h (fun r N1 Λ1 σ2 hq => ?_))
  obtain ⟨v3, rfl, rfl, rfl, h⟩ := hq
  refine r_if_ne (tgt := 15) d_X12_form_9 rfl (fun hc => ?_) (fun hc => ?_)
  · have h := h.1 hc
    refine r_iload_n (x := x2) d_X12_form_15 rfl ?_
    refine r_if_lt (tgt := 23) d_X12_form_16 rfl (fun hc => ?_) (fun hc => ?_)
    · have h := h.1 hc
      refine r_bipush (x := (-3)) d_X12_form_23 ⟨by decide, by decide⟩ (by decide) ?_
      exact r_iret d_X12_form_25 rfl rfl (Nat.le_refl 0) (Nat.le_refl 0) ⟨_, rfl, rfl, rfl, h⟩
    · have h := h.2 hc
      refine r_iload_n (x := x3) d_X12_form_19 rfl ?_
      refine r_if_ge (tgt := 26) d_X12_form_20 rfl (fun hc => ?_) (fun hc => ?_)
      · have h := h.1 hc
        refine r_aload_n (x := t) d_X12_form_26 rfl o_t.1 ?_
        refine r_getf (j := 3) (t := 2) (x := t_state) d_X12_form_27 kX12 (by decide) fl_X12_20 o_t.1 o_t.2.1 o_t.2.2.1 o_t.2.2.2 rfl f_t_state ?_
        refine r_sipush (x := 161) d_X12_form_30 ⟨by decide, by decide⟩ (by decide) ?_
        refine r_iload_n (x := x1) d_X12_form_33 rfl ?_
        refine r_imul d_X12_form_34 ?_
        refine x_iald d_X12_form_35 h.1 ?_
        have h := h.2
        refine r_if_eq (tgt := 58) d_X12_form_36 rfl (fun hc => ?_) (fun hc => ?_)
        · have h := h.1 hc
          refine r_iconst (x := (-1)) d_X12_form_58 ⟨by decide, by decide⟩ ?_
          exact r_iret d_X12_form_59 rfl rfl (Nat.le_refl 0) (Nat.le_refl 0) ⟨_, rfl, rfl, rfl, h⟩
        · have h := h.2 hc
          refine r_aload_n (x := t) d_X12_form_39 rfl o_t.1 ?_
          refine r_iload_n (x := x1) d_X12_form_40 rfl ?_
          refine r_iload_n (x := x2) d_X12_form_41 rfl ?_
          refine r_callV (Y2 := mX12_laysForms) (d := d - 1) (mc := 0) (ms := 0) (c := t) (As := [(0, x1), (0, x2)]) (S := []) d_X12_form_42 ok_mX12_laysForms ml_X12_370 rfl (rmc h0d (by decide)) rm00 (Nat.le_of_ble_eq_true rfl) rfl kX12 o_t.1 o_t.2.1 o_t.2.2.1 o_t.2.2.2 (MC.mono h (fun r N1 Λ1 σ4 hq => ?_))
          obtain ⟨v5, rfl, rfl, rfl, h⟩ := hq
          refine r_if_eq (tgt := 58) d_X12_form_45 rfl (fun hc => ?_) (fun hc => ?_)
          · have h := h.1 hc
            refine r_iconst (x := (-1)) d_X12_form_58 ⟨by decide, by decide⟩ ?_
            exact r_iret d_X12_form_59 rfl rfl (Nat.le_refl 0) (Nat.le_refl 0) ⟨_, rfl, rfl, rfl, h⟩
          · have h := h.2 hc
            refine r_iload_n (x := x3) d_X12_form_48 rfl ?_
            refine r_iconst (x := 3) d_X12_form_49 ⟨by decide, by decide⟩ ?_
            refine r_aload_n (x := t) d_X12_form_50 rfl o_t.1 ?_
            refine r_getf (j := 28) (t := 0) (x := (σ4 t 28)) d_X12_form_51 kX12 (by decide) fl_X12_355 o_t.1 o_t.2.1 o_t.2.2.1 o_t.2.2.2 rfl rfl ?_
            refine r_imul d_X12_form_54 ?_
            refine r_ic_lt (tgt := 60) d_X12_form_55 rfl (fun hc => ?_) (fun hc => ?_)
            · have h := h.1 hc
              refine r_aload_n (x := t) d_X12_form_60 rfl o_t.1 ?_
              refine r_getf (j := 2) (t := 2) (x := t_letterOf) d_X12_form_61 kX12 (by decide) fl_X12_17 o_t.1 o_t.2.1 o_t.2.2.1 o_t.2.2.2 rfl f_t_letterOf ?_
              refine r_iconst (x := 3) d_X12_form_64 ⟨by decide, by decide⟩ ?_
              refine r_aload_n (x := t) d_X12_form_65 rfl o_t.1 ?_
              refine r_getf (j := 26) (t := 2) (x := t_formRank) d_X12_form_66 kX12 (by decide) fl_X12_67 o_t.1 o_t.2.1 o_t.2.2.1 o_t.2.2.2 rfl f_t_formRank ?_
              refine r_iload_n (x := x3) d_X12_form_69 rfl ?_
              refine r_iconst (x := 3) d_X12_form_70 ⟨by decide, by decide⟩ ?_
              refine r_idiv d_X12_form_71 (by decide) ?_
              refine x_iald d_X12_form_72 h.1 ?_
              have h := h.2
              refine r_imul d_X12_form_73 ?_
              refine r_iload_n (x := x3) d_X12_form_74 rfl ?_
              refine r_iconst (x := 3) d_X12_form_75 ⟨by decide, by decide⟩ ?_
              refine r_irem d_X12_form_76 (by decide) ?_
              refine r_iadd d_X12_form_77 ?_
              refine x_iald d_X12_form_78 h.1 ?_
              have h := h.2
              exact r_iret d_X12_form_79 rfl rfl (Nat.le_refl 0) (Nat.le_refl 0) ⟨_, rfl, rfl, rfl, h⟩
            · have h := h.2 hc
              refine r_iconst (x := (-1)) d_X12_form_58 ⟨by decide, by decide⟩ ?_
              exact r_iret d_X12_form_59 rfl rfl (Nat.le_refl 0) (Nat.le_refl 0) ⟨_, rfl, rfl, rfl, h⟩
      · have h := h.2 hc
        refine r_bipush (x := (-3)) d_X12_form_23 ⟨by decide, by decide⟩ (by decide) ?_
        exact r_iret d_X12_form_25 rfl rfl (Nat.le_refl 0) (Nat.le_refl 0) ⟨_, rfl, rfl, rfl, h⟩
  · have h := h.2 hc
    refine r_bipush (x := (-2)) d_X12_form_12 ⟨by decide, by decide⟩ (by decide) ?_
    exact r_iret d_X12_form_14 rfl rfl (Nat.le_refl 0) (Nat.le_refl 0) ⟨_, rfl, rfl, rfl, h⟩
theorem v_X12_columnOf_0 {l : Launch} {d N : Nat} {Λ : Lay} {P : Int → Mem → Prop} {σ : Mem} {x1 t : Int}
    (h : WI l mX12_columnOf d P 2 [(2, t), (0, x1), (0, 0)] [] N Λ σ) :
    WI l mX12_columnOf d P 0 [(2, t), (0, x1), (3, 0)] [] N Λ σ := by
  refine r_iconst (x := 0) d_X12_columnOf_0 ⟨by decide, by decide⟩ ?_
  refine r_istore_n (L2 := [(2, t), (0, x1), (0, 0)]) d_X12_columnOf_1 (by decide) rfl rfl ?_
  exact h
theorem v_X12_columnOf_2 {l : Launch} {d N : Nat} {Λ : Lay} {P : Int → Mem → Prop} {σ : Mem} {x1 x2 t t_keys : Int} (o_t : Ob N Λ t 21 36) (f_t_keys : (Λ t).2.2 30 = t_keys)
    (h : (((σ t 32) ≤ x2 → (Ix N Λ t_keys 0 (σ t 32) ∧ (∀ τ1, τ1 = st σ t_keys (σ t 32) x1 → (∀ τ2, τ2 = st τ1 t 32 (addI (τ1 t 32) 1) → P (subI (τ2 t 32) 1) τ2)))) ∧ (¬ ((σ t 32) ≤ x2) → (Ix N Λ t_keys 0 x2 ∧ ((¬ (σ t_keys x2) = x1 → (∀ y3, y3 = addI x2 1 → WI l mX12_columnOf d P 2 [(2, t), (0, x1), (0, y3)] [] N Λ σ)) ∧ ((σ t_keys x2) = x1 → P x2 σ)))))) :
    WI l mX12_columnOf d P 2 [(2, t), (0, x1), (0, x2)] [] N Λ σ := by
  refine r_iload_n (x := x2) d_X12_columnOf_2 rfl ?_
  refine r_aload_n (x := t) d_X12_columnOf_3 rfl o_t.1 ?_
  refine r_getf (j := 32) (t := 0) (x := (σ t 32)) d_X12_columnOf_4 kX12 (by decide) fl_X12_373 o_t.1 o_t.2.1 o_t.2.2.1 o_t.2.2.2 rfl rfl ?_
  refine r_ic_ge (tgt := 28) d_X12_columnOf_7 rfl (fun hc => ?_) (fun hc => ?_)
  · have h := h.1 hc
    refine r_aload_n (x := t) d_X12_columnOf_28 rfl o_t.1 ?_
    refine r_getf (j := 30) (t := 2) (x := t_keys) d_X12_columnOf_29 kX12 (by decide) fl_X12_70 o_t.1 o_t.2.1 o_t.2.2.1 o_t.2.2.2 rfl f_t_keys ?_
    refine r_aload_n (x := t) d_X12_columnOf_32 rfl o_t.1 ?_
    refine r_getf (j := 32) (t := 0) (x := (σ t 32)) d_X12_columnOf_33 kX12 (by decide) fl_X12_373 o_t.1 o_t.2.1 o_t.2.2.1 o_t.2.2.2 rfl rfl ?_
    refine r_iload_n (x := x1) d_X12_columnOf_36 rfl ?_
    refine x_iast d_X12_columnOf_37 h.1 ?_
    have h := h.2
    refine r_nmM (fun τ1 eτ1 => ?_)
    have h := h τ1 eτ1
    refine r_aload_n (x := t) d_X12_columnOf_38 rfl o_t.1 ?_
    refine r_dup d_X12_columnOf_39 rfl ?_
    refine r_getf (j := 32) (t := 0) (x := (τ1 t 32)) d_X12_columnOf_40 kX12 (by decide) fl_X12_373 o_t.1 o_t.2.1 o_t.2.2.1 o_t.2.2.2 rfl rfl ?_
    refine r_iconst (x := 1) d_X12_columnOf_43 ⟨by decide, by decide⟩ ?_
    refine r_iadd d_X12_columnOf_44 ?_
    refine r_putI (j := 32) d_X12_columnOf_45 kX12 (by decide) fl_X12_373 rfl o_t.1 o_t.2.1 o_t.2.2.1 o_t.2.2.2 rfl ?_
    refine r_nmM (fun τ2 eτ2 => ?_)
    have h := h τ2 eτ2
    refine r_aload_n (x := t) d_X12_columnOf_48 rfl o_t.1 ?_
    refine r_getf (j := 32) (t := 0) (x := (τ2 t 32)) d_X12_columnOf_49 kX12 (by decide) fl_X12_373 o_t.1 o_t.2.1 o_t.2.2.1 o_t.2.2.2 rfl rfl ?_
    refine r_iconst (x := 1) d_X12_columnOf_52 ⟨by decide, by decide⟩ ?_
    refine r_isub d_X12_columnOf_53 ?_
    exact r_iret d_X12_columnOf_54 rfl rfl (Nat.le_refl 0) (Nat.le_refl 0) ⟨_, rfl, rfl, rfl, h⟩
  · have h := h.2 hc
    refine r_aload_n (x := t) d_X12_columnOf_10 rfl o_t.1 ?_
    refine r_getf (j := 30) (t := 2) (x := t_keys) d_X12_columnOf_11 kX12 (by decide) fl_X12_70 o_t.1 o_t.2.1 o_t.2.2.1 o_t.2.2.2 rfl f_t_keys ?_
    refine r_iload_n (x := x2) d_X12_columnOf_14 rfl ?_
    refine x_iald d_X12_columnOf_15 h.1 ?_
    have h := h.2
    refine r_iload_n (x := x1) d_X12_columnOf_16 rfl ?_
    refine r_ic_ne (tgt := 22) d_X12_columnOf_17 rfl (fun hc => ?_) (fun hc => ?_)
    · have h := h.1 hc
      refine x_iinc (x := x2) (L := [(2, t), (0, x1), (0, x2)]) d_X12_columnOf_22 rfl (by decide) rfl (fun y3 ey3 => ?_)
      have h := h y3 ey3
      show WP _ _ _ _ _ _ _ _ [(2, t), (0, x1), (0, y3)] _ _ _ _
      refine r_goto (tgt := 2) d_X12_columnOf_25 rfl ?_
      exact h
    · have h := h.2 hc
      refine r_iload_n (x := x2) d_X12_columnOf_20 rfl ?_
      exact r_iret d_X12_columnOf_21 rfl rfl (Nat.le_refl 0) (Nat.le_refl 0) ⟨_, rfl, rfl, rfl, h⟩
theorem v_X12_modulo_0 {l : Launch} {d N : Nat} {Λ : Lay} {P : Int → Mem → Prop} {σ : Mem} {x0 : Int}
    (h : P (remL (addL (remL x0 1000003) 1000003) 1000003) σ) :
    WL l mX12_modulo d P 0 [(1, x0), (3, 0)] [] N Λ σ := by
  refine r_lload_n (x := x0) d_X12_modulo_0 rfl ?_
  refine r_ldc2 (x := 1000003) d_X12_modulo_1 ck_X12_376 (by decide) ?_
  refine r_lrem d_X12_modulo_4 (by decide) ?_
  refine r_ldc2 (x := 1000003) d_X12_modulo_5 ck_X12_376 (by decide) ?_
  refine r_ladd d_X12_modulo_8 ?_
  refine r_ldc2 (x := 1000003) d_X12_modulo_9 ck_X12_376 (by decide) ?_
  refine r_lrem d_X12_modulo_12 (by decide) ?_
  exact r_lret d_X12_modulo_13 rfl (Nat.le_refl 0) (Nat.le_refl 0) ⟨_, rfl, rfl, rfl, h⟩
theorem v_X12_inverse_0 {l : Launch} {d N : Nat} {Λ : Lay} {P : Int → Mem → Prop} {σ : Mem} {x0 : Int}
    (h : WL l mX12_inverse d P 10 [(1, x0), (3, 0), (1, 1), (3, 0), (1, x0), (3, 0), (0, 1000001)] [] N Λ σ) :
    WL l mX12_inverse d P 0 [(1, x0), (3, 0), (3, 0), (3, 0), (3, 0), (3, 0), (3, 0)] [] N Λ σ := by
  refine r_lconst d_X12_inverse_0 ?_
  skip
  refine r_lstore_n (L2 := [(1, x0), (3, 0), (1, 1), (3, 0), (3, 0), (3, 0), (3, 0)]) d_X12_inverse_1 (by decide) rfl rfl ?_
  refine r_lload_n (x := x0) d_X12_inverse_2 rfl ?_
  refine r_lstore (L2 := [(1, x0), (3, 0), (1, 1), (3, 0), (1, x0), (3, 0), (3, 0)]) d_X12_inverse_3 (by decide) rfl rfl ?_
  refine r_ldcw (x := 1000001) d_X12_inverse_5 ck_X12_378 (by decide) ?_
  refine r_istore (L2 := [(1, x0), (3, 0), (1, 1), (3, 0), (1, x0), (3, 0), (0, 1000001)]) d_X12_inverse_8 (by decide) rfl rfl ?_
  exact h
theorem v_X12_inverse_10 {l : Launch} {d N : Nat} {Λ : Lay} {P : Int → Mem → Prop} {σ : Mem} {x0 x2 x4 x6 : Int}
    (h : ((x6 ≤ 0 → P x2 σ) ∧ (¬ (x6 ≤ 0) → ((¬ (remI x6 2) = 1 → (∀ y1, y1 = (remL (mulL x4 x4) 1000003) → (∀ y2, y2 = (divI x6 2) → WL l mX12_inverse d P 10 [(1, x0), (3, 0), (1, x2), (3, 0), (1, y1), (3, 0), (0, y2)] [] N Λ σ))) ∧ ((remI x6 2) = 1 → (∀ y3, y3 = (remL (mulL x2 x4) 1000003) → (∀ y4, y4 = (remL (mulL x4 x4) 1000003) → (∀ y5, y5 = (divI x6 2) → WL l mX12_inverse d P 10 [(1, x0), (3, 0), (1, y3), (3, 0), (1, y4), (3, 0), (0, y5)] [] N Λ σ)))))))) :
    WL l mX12_inverse d P 10 [(1, x0), (3, 0), (1, x2), (3, 0), (1, x4), (3, 0), (0, x6)] [] N Λ σ := by
  refine r_iload (x := x6) d_X12_inverse_10 rfl ?_
  refine r_if_le (tgt := 56) d_X12_inverse_12 rfl (fun hc => ?_) (fun hc => ?_)
  · have h := h.1 hc
    refine r_lload_n (x := x2) d_X12_inverse_56 rfl ?_
    exact r_lret d_X12_inverse_57 rfl (Nat.le_refl 0) (Nat.le_refl 0) ⟨_, rfl, rfl, rfl, h⟩
  · have h := h.2 hc
    refine r_iload (x := x6) d_X12_inverse_15 rfl ?_
    refine r_iconst (x := 2) d_X12_inverse_17 ⟨by decide, by decide⟩ ?_
    refine r_irem d_X12_inverse_18 (by decide) ?_
    refine r_iconst (x := 1) d_X12_inverse_19 ⟨by decide, by decide⟩ ?_
    refine r_ic_ne (tgt := 34) d_X12_inverse_20 rfl (fun hc => ?_) (fun hc => ?_)
    · have h := h.1 hc
      refine r_lload_n (x := x2) d_X12_inverse_34 rfl ?_
      refine r_lstore_n (L2 := [(1, x0), (3, 0), (1, x2), (3, 0), (1, x4), (3, 0), (0, x6)]) d_X12_inverse_35 (by decide) rfl rfl ?_
      refine r_lload (x := x4) d_X12_inverse_36 rfl ?_
      refine r_lload (x := x4) d_X12_inverse_38 rfl ?_
      refine r_lmul d_X12_inverse_40 ?_
      refine r_ldc2 (x := 1000003) d_X12_inverse_41 ck_X12_376 (by decide) ?_
      refine r_lrem d_X12_inverse_44 (by decide) ?_
      refine r_nm (fun y1 ey1 => ?_)
      have h := h y1 ey1
      refine r_lstore (L2 := [(1, x0), (3, 0), (1, x2), (3, 0), (1, y1), (3, 0), (0, x6)]) d_X12_inverse_45 (by decide) rfl rfl ?_
      refine r_iload (x := x6) d_X12_inverse_47 rfl ?_
      refine r_iconst (x := 2) d_X12_inverse_49 ⟨by decide, by decide⟩ ?_
      refine r_idiv d_X12_inverse_50 (by decide) ?_
      refine r_nm (fun y2 ey2 => ?_)
      have h := h y2 ey2
      refine r_istore (L2 := [(1, x0), (3, 0), (1, x2), (3, 0), (1, y1), (3, 0), (0, y2)]) d_X12_inverse_51 (by decide) rfl rfl ?_
      refine r_goto (tgt := 10) d_X12_inverse_53 rfl ?_
      exact h
    · have h := h.2 hc
      refine r_lload_n (x := x2) d_X12_inverse_23 rfl ?_
      refine r_lload (x := x4) d_X12_inverse_24 rfl ?_
      refine r_lmul d_X12_inverse_26 ?_
      refine r_ldc2 (x := 1000003) d_X12_inverse_27 ck_X12_376 (by decide) ?_
      refine r_lrem d_X12_inverse_30 (by decide) ?_
      refine r_goto (tgt := 35) d_X12_inverse_31 rfl ?_
      refine r_nm (fun y3 ey3 => ?_)
      have h := h y3 ey3
      refine r_lstore_n (L2 := [(1, x0), (3, 0), (1, y3), (3, 0), (1, x4), (3, 0), (0, x6)]) d_X12_inverse_35 (by decide) rfl rfl ?_
      refine r_lload (x := x4) d_X12_inverse_36 rfl ?_
      refine r_lload (x := x4) d_X12_inverse_38 rfl ?_
      refine r_lmul d_X12_inverse_40 ?_
      refine r_ldc2 (x := 1000003) d_X12_inverse_41 ck_X12_376 (by decide) ?_
      refine r_lrem d_X12_inverse_44 (by decide) ?_
      refine r_nm (fun y4 ey4 => ?_)
      have h := h y4 ey4
      refine r_lstore (L2 := [(1, x0), (3, 0), (1, y3), (3, 0), (1, y4), (3, 0), (0, x6)]) d_X12_inverse_45 (by decide) rfl rfl ?_
      refine r_iload (x := x6) d_X12_inverse_47 rfl ?_
      refine r_iconst (x := 2) d_X12_inverse_49 ⟨by decide, by decide⟩ ?_
      refine r_idiv d_X12_inverse_50 (by decide) ?_
      refine r_nm (fun y5 ey5 => ?_)
      have h := h y5 ey5
      refine r_istore (L2 := [(1, x0), (3, 0), (1, y3), (3, 0), (1, y4), (3, 0), (0, y5)]) d_X12_inverse_51 (by decide) rfl rfl ?_
      refine r_goto (tgt := 10) d_X12_inverse_53 rfl ?_
      exact h
theorem v_X12_clears_0 {l : Launch} {d N : Nat} {Λ : Lay} {P : Mem → Prop} {σ : Mem} {x1 x2 x3 t t_matrix : Int} (o_t : Ob N Λ t 21 36) (f_t_matrix : (Λ t).2.2 31 = t_matrix) (h0d : 1 ≤ d)
    (h : (Ix N Λ t_matrix 1 (addI (mulI 480 x1) x3) ∧ (CL l mX12_inverse (d - 1) [(1, (σ t_matrix (addI (mulI 480 x1) x3)))] N Λ σ (fun v2 σ1 => (∀ y3, y3 = (addI x1 1) → WV l mX12_clears d P 22 [(2, t), (0, x1), (0, x2), (0, x3), (1, v2), (3, 0), (0, y3), (3, 0), (3, 0), (3, 0)] [] N Λ σ1))))) :
    WV l mX12_clears d P 0 [(2, t), (0, x1), (0, x2), (0, x3), (3, 0), (3, 0), (3, 0), (3, 0), (3, 0), (3, 0)] [] N Λ σ := by
  refine r_aload_n (x := t) d_X12_clears_0 rfl o_t.1 ?_
  refine r_getf (j := 31) (t := 2) (x := t_matrix) d_X12_clears_1 kX12 (by decide) fl_X12_73 o_t.1 o_t.2.1 o_t.2.2.1 o_t.2.2.2 rfl f_t_matrix ?_
  refine r_sipush (x := 480) d_X12_clears_4 ⟨by decide, by decide⟩ (by decide) ?_
  refine r_iload_n (x := x1) d_X12_clears_7 rfl ?_
  refine r_imul d_X12_clears_8 ?_
  refine r_iload_n (x := x3) d_X12_clears_9 rfl ?_
  refine r_iadd d_X12_clears_10 ?_
  refine x_lald d_X12_clears_11 h.1 ?_
  have h := h.2
  refine r_callS (Y2 := mX12_inverse) (d := d - 1) (mc := 0) (ms := 0) (As := [(1, (σ t_matrix (addI (mulI 480 x1) x3)))]) (S := []) d_X12_clears_12 ok_mX12_inverse ml_X12_379 rfl (rmc h0d (by decide)) rm00 (Nat.le_of_ble_eq_true rfl) rfl (MC.mono h (fun r N1 Λ1 σ1 hq => ?_))
  obtain ⟨v2, rfl, rfl, rfl, h⟩ := hq
  refine r_lstore (L2 := [(2, t), (0, x1), (0, x2), (0, x3), (1, v2), (3, 0), (3, 0), (3, 0), (3, 0), (3, 0)]) d_X12_clears_15 (by decide) rfl rfl ?_
  refine r_iload_n (x := x1) d_X12_clears_17 rfl ?_
  refine r_iconst (x := 1) d_X12_clears_18 ⟨by decide, by decide⟩ ?_
  refine r_iadd d_X12_clears_19 ?_
  refine r_nm (fun y3 ey3 => ?_)
  have h := h y3 ey3
  refine r_istore (L2 := [(2, t), (0, x1), (0, x2), (0, x3), (1, v2), (3, 0), (0, y3), (3, 0), (3, 0), (3, 0)]) d_X12_clears_20 (by decide) rfl rfl ?_
  exact h
theorem v_X12_clears_22 {l : Launch} {d N : Nat} {Λ : Lay} {P : Mem → Prop} {σ : Mem} {x1 x2 x3 x4 x6 t t_matrix : Int} (o_t : Ob N Λ t 21 36) (f_t_matrix : (Λ t).2.2 31 = t_matrix)
    (h : ((x2 ≤ x6 → P σ) ∧ (¬ (x2 ≤ x6) → (Ix N Λ t_matrix 1 (addI (mulI 480 x6) x3) ∧ (∀ y1, y1 = (remL (mulL (σ t_matrix (addI (mulI 480 x6) x3)) x4) 1000003) → WV l mX12_clears d P 53 [(2, t), (0, x1), (0, x2), (0, x3), (1, x4), (3, 0), (0, x6), (1, y1), (3, 0), (0, 0)] [] N Λ σ))))) :
    WV l mX12_clears d P 22 [(2, t), (0, x1), (0, x2), (0, x3), (1, x4), (3, 0), (0, x6), (3, 0), (3, 0), (3, 0)] [] N Λ σ := by
  refine r_iload (x := x6) d_X12_clears_22 rfl ?_
  refine r_iload_n (x := x2) d_X12_clears_24 rfl ?_
  refine r_ic_ge (tgt := 126) d_X12_clears_25 rfl (fun hc => ?_) (fun hc => ?_)
  · have h := h.1 hc
    exact r_vret d_X12_clears_126 rfl (Nat.le_refl 0) (Nat.le_refl 0) ⟨rfl, rfl, rfl, h⟩
  · have h := h.2 hc
    refine r_aload_n (x := t) d_X12_clears_28 rfl o_t.1 ?_
    refine r_getf (j := 31) (t := 2) (x := t_matrix) d_X12_clears_29 kX12 (by decide) fl_X12_73 o_t.1 o_t.2.1 o_t.2.2.1 o_t.2.2.2 rfl f_t_matrix ?_
    refine r_sipush (x := 480) d_X12_clears_32 ⟨by decide, by decide⟩ (by decide) ?_
    refine r_iload (x := x6) d_X12_clears_35 rfl ?_
    refine r_imul d_X12_clears_37 ?_
    refine r_iload_n (x := x3) d_X12_clears_38 rfl ?_
    refine r_iadd d_X12_clears_39 ?_
    refine x_lald d_X12_clears_40 h.1 ?_
    have h := h.2
    refine r_lload (x := x4) d_X12_clears_41 rfl ?_
    refine r_lmul d_X12_clears_43 ?_
    refine r_ldc2 (x := 1000003) d_X12_clears_44 ck_X12_376 (by decide) ?_
    refine r_lrem d_X12_clears_47 (by decide) ?_
    refine r_nm (fun y1 ey1 => ?_)
    have h := h y1 ey1
    refine r_lstore (L2 := [(2, t), (0, x1), (0, x2), (0, x3), (1, x4), (3, 0), (0, x6), (1, y1), (3, 0), (3, 0)]) d_X12_clears_48 (by decide) rfl rfl ?_
    refine r_iconst (x := 0) d_X12_clears_50 ⟨by decide, by decide⟩ ?_
    refine r_istore (L2 := [(2, t), (0, x1), (0, x2), (0, x3), (1, x4), (3, 0), (0, x6), (1, y1), (3, 0), (0, 0)]) d_X12_clears_51 (by decide) rfl rfl ?_
    exact h
theorem v_X12_clears_53 {l : Launch} {d N : Nat} {Λ : Lay} {P : Mem → Prop} {σ : Mem} {x1 x2 x3 x4 x6 x7 x9 t t_matrix : Int} (o_t : Ob N Λ t 21 36) (f_t_matrix : (Λ t).2.2 31 = t_matrix) (h0d : 1 ≤ d)
    (h : (((σ t 32) ≤ x9 → (∀ y1, y1 = addI x6 1 → WV l mX12_clears d P 22 [(2, t), (0, x1), (0, x2), (0, x3), (1, x4), (3, 0), (0, y1), (3, 0), (3, 0), (3, 0)] [] N Λ σ)) ∧ (¬ ((σ t 32) ≤ x9) → (Ix N Λ t_matrix 1 (addI (mulI 480 x6) x9) ∧ (Ix N Λ t_matrix 1 (addI (mulI 480 x1) x9) ∧ (CL l mX12_modulo (d - 1) [(1, (subL (σ t_matrix (addI (mulI 480 x6) x9)) (remL (mulL x7 (σ t_matrix (addI (mulI 480 x1) x9))) 1000003)))] N Λ σ (fun v3 σ2 => (Ix N Λ t_matrix 1 (addI (mulI 480 x6) x9) ∧ (∀ τ4, τ4 = st σ2 t_matrix (addI (mulI 480 x6) x9) v3 → (∀ y5, y5 = addI x9 1 → WV l mX12_clears d P 53 [(2, t), (0, x1), (0, x2), (0, x3), (1, x4), (3, 0), (0, x6), (1, x7), (3, 0), (0, y5)] [] N Λ τ4)))))))))) :
    WV l mX12_clears d P 53 [(2, t), (0, x1), (0, x2), (0, x3), (1, x4), (3, 0), (0, x6), (1, x7), (3, 0), (0, x9)] [] N Λ σ := by
  refine r_iload (x := x9) d_X12_clears_53 rfl ?_
  refine r_aload_n (x := t) d_X12_clears_55 rfl o_t.1 ?_
  refine r_getf (j := 32) (t := 0) (x := (σ t 32)) d_X12_clears_56 kX12 (by decide) fl_X12_373 o_t.1 o_t.2.1 o_t.2.2.1 o_t.2.2.2 rfl rfl ?_
  refine r_ic_ge (tgt := 120) d_X12_clears_59 rfl (fun hc => ?_) (fun hc => ?_)
  · have h := h.1 hc
    refine x_iinc (x := x6) (L := [(2, t), (0, x1), (0, x2), (0, x3), (1, x4), (3, 0), (0, x6), (1, x7), (3, 0), (0, x9)]) d_X12_clears_120 rfl (by decide) rfl (fun y1 ey1 => ?_)
    have h := h y1 ey1
    show WP _ _ _ _ _ _ _ _ [(2, t), (0, x1), (0, x2), (0, x3), (1, x4), (3, 0), (0, y1), (1, x7), (3, 0), (0, x9)] _ _ _ _
    refine r_goto (tgt := 22) d_X12_clears_123 rfl ?_
    exact x_mask h ⟨Or.inr rfl, Or.inr rfl, Or.inr rfl, Or.inr rfl, Or.inr rfl, Or.inl rfl, Or.inr rfl, Or.inl rfl, Or.inl rfl, Or.inl rfl, trivial⟩
  · have h := h.2 hc
    refine r_aload_n (x := t) d_X12_clears_62 rfl o_t.1 ?_
    refine r_getf (j := 31) (t := 2) (x := t_matrix) d_X12_clears_63 kX12 (by decide) fl_X12_73 o_t.1 o_t.2.1 o_t.2.2.1 o_t.2.2.2 rfl f_t_matrix ?_
    refine r_sipush (x := 480) d_X12_clears_66 ⟨by decide, by decide⟩ (by decide) ?_
    refine r_iload (x := x6) d_X12_clears_69 rfl ?_
    refine r_imul d_X12_clears_71 ?_
    refine r_iload (x := x9) d_X12_clears_72 rfl ?_
    refine r_iadd d_X12_clears_74 ?_
    refine r_aload_n (x := t) d_X12_clears_75 rfl o_t.1 ?_
    refine r_getf (j := 31) (t := 2) (x := t_matrix) d_X12_clears_76 kX12 (by decide) fl_X12_73 o_t.1 o_t.2.1 o_t.2.2.1 o_t.2.2.2 rfl f_t_matrix ?_
    refine r_sipush (x := 480) d_X12_clears_79 ⟨by decide, by decide⟩ (by decide) ?_
    refine r_iload (x := x6) d_X12_clears_82 rfl ?_
    refine r_imul d_X12_clears_84 ?_
    refine r_iload (x := x9) d_X12_clears_85 rfl ?_
    refine r_iadd d_X12_clears_87 ?_
    refine x_lald d_X12_clears_88 h.1 ?_
    have h := h.2
    refine r_lload (x := x7) d_X12_clears_89 rfl ?_
    refine r_aload_n (x := t) d_X12_clears_91 rfl o_t.1 ?_
    refine r_getf (j := 31) (t := 2) (x := t_matrix) d_X12_clears_92 kX12 (by decide) fl_X12_73 o_t.1 o_t.2.1 o_t.2.2.1 o_t.2.2.2 rfl f_t_matrix ?_
    refine r_sipush (x := 480) d_X12_clears_95 ⟨by decide, by decide⟩ (by decide) ?_
    refine r_iload_n (x := x1) d_X12_clears_98 rfl ?_
    refine r_imul d_X12_clears_99 ?_
    refine r_iload (x := x9) d_X12_clears_100 rfl ?_
    refine r_iadd d_X12_clears_102 ?_
    refine x_lald d_X12_clears_103 h.1 ?_
    have h := h.2
    refine r_lmul d_X12_clears_104 ?_
    refine r_ldc2 (x := 1000003) d_X12_clears_105 ck_X12_376 (by decide) ?_
    refine r_lrem d_X12_clears_108 (by decide) ?_
    refine r_lsub d_X12_clears_109 ?_
    refine r_callS (Y2 := mX12_modulo) (d := d - 1) (mc := 0) (ms := 0) (As := [(1, (subL (σ t_matrix (addI (mulI 480 x6) x9)) (remL (mulL x7 (σ t_matrix (addI (mulI 480 x1) x9))) 1000003)))]) (S := [(0, (addI (mulI 480 x6) x9)), (2, t_matrix)]) d_X12_clears_110 ok_mX12_modulo ml_X12_383 rfl (rmc h0d (by decide)) rm00 (Nat.le_of_ble_eq_true rfl) rfl (MC.mono h (fun r N1 Λ1 σ2 hq => ?_))
    obtain ⟨v3, rfl, rfl, rfl, h⟩ := hq
    refine x_last d_X12_clears_113 h.1 ?_
    have h := h.2
    refine r_nmM (fun τ4 eτ4 => ?_)
    have h := h τ4 eτ4
    refine x_iinc (x := x9) (L := [(2, t), (0, x1), (0, x2), (0, x3), (1, x4), (3, 0), (0, x6), (1, x7), (3, 0), (0, x9)]) d_X12_clears_114 rfl (by decide) rfl (fun y5 ey5 => ?_)
    have h := h y5 ey5
    show WP _ _ _ _ _ _ _ _ [(2, t), (0, x1), (0, x2), (0, x3), (1, x4), (3, 0), (0, x6), (1, x7), (3, 0), (0, y5)] _ _ _ _
    refine r_goto (tgt := 53) d_X12_clears_117 rfl ?_
    exact h
theorem v_X12_swapsRows_0 {l : Launch} {d N : Nat} {Λ : Lay} {P : Mem → Prop} {σ : Mem} {x1 x2 t : Int}
    (h : WV l mX12_swapsRows d P 2 [(2, t), (0, x1), (0, x2), (0, 0), (3, 0), (3, 0)] [] N Λ σ) :
    WV l mX12_swapsRows d P 0 [(2, t), (0, x1), (0, x2), (3, 0), (3, 0), (3, 0)] [] N Λ σ := by
  refine r_iconst (x := 0) d_X12_swapsRows_0 ⟨by decide, by decide⟩ ?_
  refine r_istore_n (L2 := [(2, t), (0, x1), (0, x2), (0, 0), (3, 0), (3, 0)]) d_X12_swapsRows_1 (by decide) rfl rfl ?_
  exact h
theorem v_X12_swapsRows_2 {l : Launch} {d N : Nat} {Λ : Lay} {P : Mem → Prop} {σ : Mem} {x1 x2 x3 t t_matrix : Int} (o_t : Ob N Λ t 21 36) (f_t_matrix : (Λ t).2.2 31 = t_matrix)
    (h : (((σ t 32) ≤ x3 → P σ) ∧ (¬ ((σ t 32) ≤ x3) → (Ix N Λ t_matrix 1 (addI (mulI 480 x1) x3) ∧ (∀ y1, y1 = (σ t_matrix (addI (mulI 480 x1) x3)) → (Ix N Λ t_matrix 1 (addI (mulI 480 x2) x3) ∧ (Ix N Λ t_matrix 1 (addI (mulI 480 x1) x3) ∧ (∀ τ2, τ2 = st σ t_matrix (addI (mulI 480 x1) x3) (σ t_matrix (addI (mulI 480 x2) x3)) → (Ix N Λ t_matrix 1 (addI (mulI 480 x2) x3) ∧ (∀ τ3, τ3 = st τ2 t_matrix (addI (mulI 480 x2) x3) y1 → (∀ y4, y4 = addI x3 1 → WV l mX12_swapsRows d P 2 [(2, t), (0, x1), (0, x2), (0, y4), (3, 0), (3, 0)] [] N Λ τ3))))))))))) :
    WV l mX12_swapsRows d P 2 [(2, t), (0, x1), (0, x2), (0, x3), (3, 0), (3, 0)] [] N Λ σ := by
  refine r_iload_n (x := x3) d_X12_swapsRows_2 rfl ?_
  refine r_aload_n (x := t) d_X12_swapsRows_3 rfl o_t.1 ?_
  refine r_getf (j := 32) (t := 0) (x := (σ t 32)) d_X12_swapsRows_4 kX12 (by decide) fl_X12_373 o_t.1 o_t.2.1 o_t.2.2.1 o_t.2.2.2 rfl rfl ?_
  refine r_ic_ge (tgt := 68) d_X12_swapsRows_7 rfl (fun hc => ?_) (fun hc => ?_)
  · have h := h.1 hc
    exact r_vret d_X12_swapsRows_68 rfl (Nat.le_refl 0) (Nat.le_refl 0) ⟨rfl, rfl, rfl, h⟩
  · have h := h.2 hc
    refine r_aload_n (x := t) d_X12_swapsRows_10 rfl o_t.1 ?_
    refine r_getf (j := 31) (t := 2) (x := t_matrix) d_X12_swapsRows_11 kX12 (by decide) fl_X12_73 o_t.1 o_t.2.1 o_t.2.2.1 o_t.2.2.2 rfl f_t_matrix ?_
    refine r_sipush (x := 480) d_X12_swapsRows_14 ⟨by decide, by decide⟩ (by decide) ?_
    refine r_iload_n (x := x1) d_X12_swapsRows_17 rfl ?_
    refine r_imul d_X12_swapsRows_18 ?_
    refine r_iload_n (x := x3) d_X12_swapsRows_19 rfl ?_
    refine r_iadd d_X12_swapsRows_20 ?_
    refine x_lald d_X12_swapsRows_21 h.1 ?_
    have h := h.2
    refine r_nm (fun y1 ey1 => ?_)
    have h := h y1 ey1
    refine r_lstore (L2 := [(2, t), (0, x1), (0, x2), (0, x3), (1, y1), (3, 0)]) d_X12_swapsRows_22 (by decide) rfl rfl ?_
    refine r_aload_n (x := t) d_X12_swapsRows_24 rfl o_t.1 ?_
    refine r_getf (j := 31) (t := 2) (x := t_matrix) d_X12_swapsRows_25 kX12 (by decide) fl_X12_73 o_t.1 o_t.2.1 o_t.2.2.1 o_t.2.2.2 rfl f_t_matrix ?_
    refine r_sipush (x := 480) d_X12_swapsRows_28 ⟨by decide, by decide⟩ (by decide) ?_
    refine r_iload_n (x := x1) d_X12_swapsRows_31 rfl ?_
    refine r_imul d_X12_swapsRows_32 ?_
    refine r_iload_n (x := x3) d_X12_swapsRows_33 rfl ?_
    refine r_iadd d_X12_swapsRows_34 ?_
    refine r_aload_n (x := t) d_X12_swapsRows_35 rfl o_t.1 ?_
    refine r_getf (j := 31) (t := 2) (x := t_matrix) d_X12_swapsRows_36 kX12 (by decide) fl_X12_73 o_t.1 o_t.2.1 o_t.2.2.1 o_t.2.2.2 rfl f_t_matrix ?_
    refine r_sipush (x := 480) d_X12_swapsRows_39 ⟨by decide, by decide⟩ (by decide) ?_
    refine r_iload_n (x := x2) d_X12_swapsRows_42 rfl ?_
    refine r_imul d_X12_swapsRows_43 ?_
    refine r_iload_n (x := x3) d_X12_swapsRows_44 rfl ?_
    refine r_iadd d_X12_swapsRows_45 ?_
    refine x_lald d_X12_swapsRows_46 h.1 ?_
    have h := h.2
    refine x_last d_X12_swapsRows_47 h.1 ?_
    have h := h.2
    refine r_nmM (fun τ2 eτ2 => ?_)
    have h := h τ2 eτ2
    refine r_aload_n (x := t) d_X12_swapsRows_48 rfl o_t.1 ?_
    refine r_getf (j := 31) (t := 2) (x := t_matrix) d_X12_swapsRows_49 kX12 (by decide) fl_X12_73 o_t.1 o_t.2.1 o_t.2.2.1 o_t.2.2.2 rfl f_t_matrix ?_
    refine r_sipush (x := 480) d_X12_swapsRows_52 ⟨by decide, by decide⟩ (by decide) ?_
    refine r_iload_n (x := x2) d_X12_swapsRows_55 rfl ?_
    refine r_imul d_X12_swapsRows_56 ?_
    refine r_iload_n (x := x3) d_X12_swapsRows_57 rfl ?_
    refine r_iadd d_X12_swapsRows_58 ?_
    refine r_lload (x := y1) d_X12_swapsRows_59 rfl ?_
    refine x_last d_X12_swapsRows_61 h.1 ?_
    have h := h.2
    refine r_nmM (fun τ3 eτ3 => ?_)
    have h := h τ3 eτ3
    refine x_iinc (x := x3) (L := [(2, t), (0, x1), (0, x2), (0, x3), (1, y1), (3, 0)]) d_X12_swapsRows_62 rfl (by decide) rfl (fun y4 ey4 => ?_)
    have h := h y4 ey4
    show WP _ _ _ _ _ _ _ _ [(2, t), (0, x1), (0, x2), (0, y4), (1, y1), (3, 0)] _ _ _ _
    refine r_goto (tgt := 2) d_X12_swapsRows_65 rfl ?_
    exact x_mask h ⟨Or.inr rfl, Or.inr rfl, Or.inr rfl, Or.inr rfl, Or.inl rfl, Or.inl rfl, trivial⟩
theorem v_X12_rank_0 {l : Launch} {d N : Nat} {Λ : Lay} {P : Int → Mem → Prop} {σ : Mem} {x1 t : Int} (o_t : Ob N Λ t 21 36) (h0d : 1 ≤ d)
    (h : (∀ τ1, τ1 = st σ t 0 0 → (CI l mX12_within (d - 1) [(1, x1), (1, 0), (1, 63)] N Λ τ1 (fun v3 σ2 => ((¬ v3 = 0 → (CV l mX12_begins (d - 1) [(2, t)] N Λ σ2 (fun σ4 => (∀ τ5, τ5 = st σ4 t 16 0 → (∀ τ6, τ6 = st τ5 t 32 0 → WI l mX12_rank d P 42 [(2, t), (0, x1), (0, 0), (0, 0), (3, 0), (3, 0)] [] N Λ τ6))))) ∧ (v3 = 0 → (CI l mX12_refused (d - 1) [(2, t), (0, (-2))] N Λ σ2 (fun v8 σ7 => P v8 σ7)))))))) :
    WI l mX12_rank d P 0 [(2, t), (0, x1), (3, 0), (3, 0), (3, 0), (3, 0)] [] N Λ σ := by
  refine r_aload_n (x := t) d_X12_rank_0 rfl o_t.1 ?_
  refine r_iconst (x := 0) d_X12_rank_1 ⟨by decide, by decide⟩ ?_
  refine r_putI (j := 0) d_X12_rank_2 kX12 (by decide) fl_X12_1 rfl o_t.1 o_t.2.1 o_t.2.2.1 o_t.2.2.2 rfl ?_
  refine r_nmM (fun τ1 eτ1 => ?_)
  have h := h τ1 eτ1
  refine r_iload_n (x := x1) d_X12_rank_5 rfl ?_
  refine r_i2l d_X12_rank_6 ?_
  refine r_lconst d_X12_rank_7 ?_
  skip
  refine r_ldc2 (x := 63) d_X12_rank_8 ck_X12_386 (by decide) ?_
  refine r_callS (Y2 := mX12_within) (d := d - 1) (mc := 0) (ms := 0) (As := [(1, x1), (1, 0), (1, 63)]) (S := []) d_X12_rank_11 ok_mX12_within ml_X12_91 rfl (rmc h0d (by decide)) rm00 (Nat.le_of_ble_eq_true rfl) rfl (MC.mono h (fun r N1 Λ1 σ2 hq => ?_))
  obtain ⟨v3, rfl, rfl, rfl, h⟩ := hq
  refine r_if_ne (tgt := 24) d_X12_rank_14 rfl (fun hc => ?_) (fun hc => ?_)
  · have h := h.1 hc
    refine r_aload_n (x := t) d_X12_rank_24 rfl o_t.1 ?_
    refine r_callV (Y2 := mX12_begins) (d := d - 1) (mc := 0) (ms := 0) (c := t) (As := []) (S := []) d_X12_rank_25 ok_mX12_begins ml_X12_202 rfl (rmc h0d (by decide)) rm00 (Nat.le_of_ble_eq_true rfl) rfl kX12 o_t.1 o_t.2.1 o_t.2.2.1 o_t.2.2.2 (MC.mono h (fun r N1 Λ1 σ4 hq => ?_))
    obtain ⟨rfl, rfl, rfl, h⟩ := hq
    refine r_aload_n (x := t) d_X12_rank_28 rfl o_t.1 ?_
    refine r_iconst (x := 0) d_X12_rank_29 ⟨by decide, by decide⟩ ?_
    refine r_putI (j := 16) d_X12_rank_30 kX12 (by decide) fl_X12_187 rfl o_t.1 o_t.2.1 o_t.2.2.1 o_t.2.2.2 rfl ?_
    refine r_nmM (fun τ5 eτ5 => ?_)
    have h := h τ5 eτ5
    refine r_aload_n (x := t) d_X12_rank_33 rfl o_t.1 ?_
    refine r_iconst (x := 0) d_X12_rank_34 ⟨by decide, by decide⟩ ?_
    refine r_putI (j := 32) d_X12_rank_35 kX12 (by decide) fl_X12_373 rfl o_t.1 o_t.2.1 o_t.2.2.1 o_t.2.2.2 rfl ?_
    refine r_nmM (fun τ6 eτ6 => ?_)
    have h := h τ6 eτ6
    refine r_iconst (x := 0) d_X12_rank_38 ⟨by decide, by decide⟩ ?_
    refine r_istore_n (L2 := [(2, t), (0, x1), (0, 0), (3, 0), (3, 0), (3, 0)]) d_X12_rank_39 (by decide) rfl rfl ?_
    refine r_iconst (x := 0) d_X12_rank_40 ⟨by decide, by decide⟩ ?_
    refine r_istore_n (L2 := [(2, t), (0, x1), (0, 0), (0, 0), (3, 0), (3, 0)]) d_X12_rank_41 (by decide) rfl rfl ?_
    exact h
  · have h := h.2 hc
    refine r_aload_n (x := t) d_X12_rank_17 rfl o_t.1 ?_
    refine r_bipush (x := (-2)) d_X12_rank_18 ⟨by decide, by decide⟩ (by decide) ?_
    refine r_callV (Y2 := mX12_refused) (d := d - 1) (mc := 0) (ms := 0) (c := t) (As := [(0, (-2))]) (S := []) d_X12_rank_20 ok_mX12_refused ml_X12_218 rfl (rmc h0d (by decide)) rm00 (Nat.le_of_ble_eq_true rfl) rfl kX12 o_t.1 o_t.2.1 o_t.2.2.1 o_t.2.2.2 (MC.mono h (fun r N1 Λ1 σ7 hq => ?_))
    obtain ⟨v8, rfl, rfl, rfl, h⟩ := hq
    exact r_iret d_X12_rank_23 rfl rfl (Nat.le_refl 0) (Nat.le_refl 0) ⟨_, rfl, rfl, rfl, h⟩
theorem v_X12_rank_42 {l : Launch} {d N : Nat} {Λ : Lay} {P : Int → Mem → Prop} {σ : Mem} {x1 x2 x3 t t_matrix : Int} (o_t : Ob N Λ t 21 36) (f_t_matrix : (Λ t).2.2 31 = t_matrix)
    (h : ((2880 ≤ x3 → WI l mX12_rank d P 64 [(2, t), (0, x1), (0, x2), (0, 0), (3, 0), (3, 0)] [] N Λ σ) ∧ (¬ (2880 ≤ x3) → (Ix N Λ t_matrix 1 x3 ∧ (∀ τ1, τ1 = st σ t_matrix x3 0 → (∀ y2, y2 = addI x3 1 → WI l mX12_rank d P 42 [(2, t), (0, x1), (0, x2), (0, y2), (3, 0), (3, 0)] [] N Λ τ1)))))) :
    WI l mX12_rank d P 42 [(2, t), (0, x1), (0, x2), (0, x3), (3, 0), (3, 0)] [] N Λ σ := by
  refine r_iload_n (x := x3) d_X12_rank_42 rfl ?_
  refine r_sipush (x := 2880) d_X12_rank_43 ⟨by decide, by decide⟩ (by decide) ?_
  refine r_ic_ge (tgt := 62) d_X12_rank_46 rfl (fun hc => ?_) (fun hc => ?_)
  · have h := h.1 hc
    refine r_iconst (x := 0) d_X12_rank_62 ⟨by decide, by decide⟩ ?_
    refine r_istore_n (L2 := [(2, t), (0, x1), (0, x2), (0, 0), (3, 0), (3, 0)]) d_X12_rank_63 (by decide) rfl rfl ?_
    exact h
  · have h := h.2 hc
    refine r_aload_n (x := t) d_X12_rank_49 rfl o_t.1 ?_
    refine r_getf (j := 31) (t := 2) (x := t_matrix) d_X12_rank_50 kX12 (by decide) fl_X12_73 o_t.1 o_t.2.1 o_t.2.2.1 o_t.2.2.2 rfl f_t_matrix ?_
    refine r_iload_n (x := x3) d_X12_rank_53 rfl ?_
    refine r_lconst d_X12_rank_54 ?_
    skip
    refine x_last d_X12_rank_55 h.1 ?_
    have h := h.2
    refine r_nmM (fun τ1 eτ1 => ?_)
    have h := h τ1 eτ1
    refine x_iinc (x := x3) (L := [(2, t), (0, x1), (0, x2), (0, x3), (3, 0), (3, 0)]) d_X12_rank_56 rfl (by decide) rfl (fun y2 ey2 => ?_)
    have h := h y2 ey2
    show WP _ _ _ _ _ _ _ _ [(2, t), (0, x1), (0, x2), (0, y2), (3, 0), (3, 0)] _ _ _ _
    refine r_goto (tgt := 42) d_X12_rank_59 rfl ?_
    exact h
theorem v_X12_rank_64 {l : Launch} {d N : Nat} {Λ : Lay} {P : Int → Mem → Prop} {σ : Mem} {x1 x2 x3 t : Int} (o_t : Ob N Λ t 21 36) (h0d : 1 ≤ d)
    (h : ((6 ≤ x3 → WI l mX12_rank d P 163 [(2, t), (0, x1), (0, x2), (0, 0), (0, 0), (3, 0)] [] N Λ σ) ∧ (¬ (6 ≤ x3) → ((¬ (andI (shrI x1 x3) 1) = 0 → (CI l mX12_straightInto (d - 1) [(2, t), (0, x3), (0, 3)] N Λ σ (fun v2 σ1 => ((v2 = 0 → WI l mX12_rank d P 100 [(2, t), (0, x1), (0, x2), (0, x3), (0, v2), (0, 0)] [] N Λ σ1) ∧ (¬ (v2 = 0) → P v2 σ1))))) ∧ ((andI (shrI x1 x3) 1) = 0 → (∀ y3, y3 = addI x3 1 → WI l mX12_rank d P 64 [(2, t), (0, x1), (0, x2), (0, y3), (3, 0), (3, 0)] [] N Λ σ)))))) :
    WI l mX12_rank d P 64 [(2, t), (0, x1), (0, x2), (0, x3), (3, 0), (3, 0)] [] N Λ σ := by
  refine r_iload_n (x := x3) d_X12_rank_64 rfl ?_
  refine r_bipush (x := 6) d_X12_rank_65 ⟨by decide, by decide⟩ (by decide) ?_
  refine r_ic_ge (tgt := 158) d_X12_rank_67 rfl (fun hc => ?_) (fun hc => ?_)
  · have h := h.1 hc
    refine r_iconst (x := 0) d_X12_rank_158 ⟨by decide, by decide⟩ ?_
    refine r_istore_n (L2 := [(2, t), (0, x1), (0, x2), (0, 0), (3, 0), (3, 0)]) d_X12_rank_159 (by decide) rfl rfl ?_
    refine r_iconst (x := 0) d_X12_rank_160 ⟨by decide, by decide⟩ ?_
    refine r_istore (L2 := [(2, t), (0, x1), (0, x2), (0, 0), (0, 0), (3, 0)]) d_X12_rank_161 (by decide) rfl rfl ?_
    exact h
  · have h := h.2 hc
    refine r_iload_n (x := x1) d_X12_rank_70 rfl ?_
    refine r_iload_n (x := x3) d_X12_rank_71 rfl ?_
    refine r_ishr d_X12_rank_72 ?_
    refine r_iconst (x := 1) d_X12_rank_73 ⟨by decide, by decide⟩ ?_
    refine r_iand d_X12_rank_74 ?_
    refine r_if_ne (tgt := 81) d_X12_rank_75 rfl (fun hc => ?_) (fun hc => ?_)
    · have h := h.1 hc
      refine r_aload_n (x := t) d_X12_rank_81 rfl o_t.1 ?_
      refine r_iload_n (x := x3) d_X12_rank_82 rfl ?_
      refine r_iconst (x := 3) d_X12_rank_83 ⟨by decide, by decide⟩ ?_
      refine r_callV (Y2 := mX12_straightInto) (d := d - 1) (mc := 0) (ms := 0) (c := t) (As := [(0, x3), (0, 3)]) (S := []) d_X12_rank_84 ok_mX12_straightInto ml_X12_349 rfl (rmc h0d (by decide)) rm00 (Nat.le_of_ble_eq_true rfl) rfl kX12 o_t.1 o_t.2.1 o_t.2.2.1 o_t.2.2.2 (MC.mono h (fun r N1 Λ1 σ1 hq => ?_))
      obtain ⟨v2, rfl, rfl, rfl, h⟩ := hq
      refine r_istore (L2 := [(2, t), (0, x1), (0, x2), (0, x3), (0, v2), (3, 0)]) d_X12_rank_87 (by decide) rfl rfl ?_
      refine r_iload (x := v2) d_X12_rank_89 rfl ?_
      refine r_if_eq (tgt := 97) d_X12_rank_91 rfl (fun hc => ?_) (fun hc => ?_)
      · have h := h.1 hc
        refine r_iconst (x := 0) d_X12_rank_97 ⟨by decide, by decide⟩ ?_
        refine r_istore (L2 := [(2, t), (0, x1), (0, x2), (0, x3), (0, v2), (0, 0)]) d_X12_rank_98 (by decide) rfl rfl ?_
        exact h
      · have h := h.2 hc
        refine r_iload (x := v2) d_X12_rank_94 rfl ?_
        exact r_iret d_X12_rank_96 rfl rfl (Nat.le_refl 0) (Nat.le_refl 0) ⟨_, rfl, rfl, rfl, h⟩
    · have h := h.2 hc
      refine r_goto (tgt := 152) d_X12_rank_78 rfl ?_
      refine x_iinc (x := x3) (L := [(2, t), (0, x1), (0, x2), (0, x3), (3, 0), (3, 0)]) d_X12_rank_152 rfl (by decide) rfl (fun y3 ey3 => ?_)
      have h := h y3 ey3
      show WP _ _ _ _ _ _ _ _ [(2, t), (0, x1), (0, x2), (0, y3), (3, 0), (3, 0)] _ _ _ _
      refine r_goto (tgt := 64) d_X12_rank_155 rfl ?_
      exact h
theorem v_X12_rank_100 {l : Launch} {d N : Nat} {Λ : Lay} {P : Int → Mem → Prop} {σ : Mem} {x1 x2 x3 x4 x5 t t_matrix : Int} (o_t : Ob N Λ t 21 36) (f_t_matrix : (Λ t).2.2 31 = t_matrix) (h0d : 1 ≤ d)
    (h : (CI l mX12_many (d - 1) [(2, t), (0, 3)] N Λ σ (fun v2 σ1 => ((v2 ≤ x5 → (∀ y3, y3 = addI x2 1 → (∀ y4, y4 = addI x3 1 → WI l mX12_rank d P 64 [(2, t), (0, x1), (0, y3), (0, y4), (3, 0), (3, 0)] [] N Λ σ1))) ∧ (¬ (v2 ≤ x5) → (CI l mX12_key (d - 1) [(2, t), (0, 3), (0, x5)] N Λ σ1 (fun v6 σ5 => (CI l mX12_columnOf (d - 1) [(2, t), (0, v6)] N Λ σ5 (fun v8 σ7 => (CI l mX12_number (d - 1) [(2, t), (0, 3), (0, x5)] N Λ σ7 (fun v10 σ9 => (CL l mX12_modulo (d - 1) [(1, v10)] N Λ σ9 (fun v12 σ11 => (Ix N Λ t_matrix 1 (addI (mulI 480 x2) v8) ∧ (∀ τ13, τ13 = st σ11 t_matrix (addI (mulI 480 x2) v8) v12 → (∀ y14, y14 = addI x5 1 → WI l mX12_rank d P 100 [(2, t), (0, x1), (0, x2), (0, x3), (0, x4), (0, y14)] [] N Λ τ13)))))))))))))))) :
    WI l mX12_rank d P 100 [(2, t), (0, x1), (0, x2), (0, x3), (0, x4), (0, x5)] [] N Λ σ := by
  refine r_iload (x := x5) d_X12_rank_100 rfl ?_
  refine r_aload_n (x := t) d_X12_rank_102 rfl o_t.1 ?_
  refine r_iconst (x := 3) d_X12_rank_103 ⟨by decide, by decide⟩ ?_
  refine r_callV (Y2 := mX12_many) (d := d - 1) (mc := 0) (ms := 0) (c := t) (As := [(0, 3)]) (S := [(0, x5)]) d_X12_rank_104 ok_mX12_many ml_X12_113 rfl (rmc h0d (by decide)) rm00 (Nat.le_of_ble_eq_true rfl) rfl kX12 o_t.1 o_t.2.1 o_t.2.2.1 o_t.2.2.2 (MC.mono h (fun r N1 Λ1 σ1 hq => ?_))
  obtain ⟨v2, rfl, rfl, rfl, h⟩ := hq
  refine r_ic_ge (tgt := 149) d_X12_rank_107 rfl (fun hc => ?_) (fun hc => ?_)
  · have h := h.1 hc
    refine x_iinc (x := x2) (L := [(2, t), (0, x1), (0, x2), (0, x3), (0, x4), (0, x5)]) d_X12_rank_149 rfl (by decide) rfl (fun y3 ey3 => ?_)
    have h := h y3 ey3
    show WP _ _ _ _ _ _ _ _ [(2, t), (0, x1), (0, y3), (0, x3), (0, x4), (0, x5)] _ _ _ _
    refine x_iinc (x := x3) (L := [(2, t), (0, x1), (0, y3), (0, x3), (0, x4), (0, x5)]) d_X12_rank_152 rfl (by decide) rfl (fun y4 ey4 => ?_)
    have h := h y4 ey4
    show WP _ _ _ _ _ _ _ _ [(2, t), (0, x1), (0, y3), (0, y4), (0, x4), (0, x5)] _ _ _ _
    refine r_goto (tgt := 64) d_X12_rank_155 rfl ?_
    exact x_mask h ⟨Or.inr rfl, Or.inr rfl, Or.inr rfl, Or.inr rfl, Or.inl rfl, Or.inl rfl, trivial⟩
  · have h := h.2 hc
    refine r_aload_n (x := t) d_X12_rank_110 rfl o_t.1 ?_
    refine r_getf (j := 31) (t := 2) (x := t_matrix) d_X12_rank_111 kX12 (by decide) fl_X12_73 o_t.1 o_t.2.1 o_t.2.2.1 o_t.2.2.2 rfl f_t_matrix ?_
    refine r_sipush (x := 480) d_X12_rank_114 ⟨by decide, by decide⟩ (by decide) ?_
    refine r_iload_n (x := x2) d_X12_rank_117 rfl ?_
    refine r_imul d_X12_rank_118 ?_
    refine r_aload_n (x := t) d_X12_rank_119 rfl o_t.1 ?_
    refine r_aload_n (x := t) d_X12_rank_120 rfl o_t.1 ?_
    refine r_iconst (x := 3) d_X12_rank_121 ⟨by decide, by decide⟩ ?_
    refine r_iload (x := x5) d_X12_rank_122 rfl ?_
    refine r_callV (Y2 := mX12_key) (d := d - 1) (mc := 0) (ms := 0) (c := t) (As := [(0, 3), (0, x5)]) (S := [(2, t), (0, (mulI 480 x2)), (2, t_matrix)]) d_X12_rank_124 ok_mX12_key ml_X12_117 rfl (rmc h0d (by decide)) rm00 (Nat.le_of_ble_eq_true rfl) rfl kX12 o_t.1 o_t.2.1 o_t.2.2.1 o_t.2.2.2 (MC.mono h (fun r N1 Λ1 σ5 hq => ?_))
    obtain ⟨v6, rfl, rfl, rfl, h⟩ := hq
    refine r_callV (Y2 := mX12_columnOf) (d := d - 1) (mc := 0) (ms := 0) (c := t) (As := [(0, v6)]) (S := [(0, (mulI 480 x2)), (2, t_matrix)]) d_X12_rank_127 ok_mX12_columnOf ml_X12_388 rfl (rmc h0d (by decide)) rm00 (Nat.le_of_ble_eq_true rfl) rfl kX12 o_t.1 o_t.2.1 o_t.2.2.1 o_t.2.2.2 (MC.mono h (fun r N1 Λ1 σ7 hq => ?_))
    obtain ⟨v8, rfl, rfl, rfl, h⟩ := hq
    refine r_iadd d_X12_rank_130 ?_
    refine r_aload_n (x := t) d_X12_rank_131 rfl o_t.1 ?_
    refine r_iconst (x := 3) d_X12_rank_132 ⟨by decide, by decide⟩ ?_
    refine r_iload (x := x5) d_X12_rank_133 rfl ?_
    refine r_callV (Y2 := mX12_number) (d := d - 1) (mc := 0) (ms := 0) (c := t) (As := [(0, 3), (0, x5)]) (S := [(0, (addI (mulI 480 x2) v8)), (2, t_matrix)]) d_X12_rank_135 ok_mX12_number ml_X12_132 rfl (rmc h0d (by decide)) rm00 (Nat.le_of_ble_eq_true rfl) rfl kX12 o_t.1 o_t.2.1 o_t.2.2.1 o_t.2.2.2 (MC.mono h (fun r N1 Λ1 σ9 hq => ?_))
    obtain ⟨v10, rfl, rfl, rfl, h⟩ := hq
    refine r_i2l d_X12_rank_138 ?_
    refine r_callS (Y2 := mX12_modulo) (d := d - 1) (mc := 0) (ms := 0) (As := [(1, v10)]) (S := [(0, (addI (mulI 480 x2) v8)), (2, t_matrix)]) d_X12_rank_139 ok_mX12_modulo ml_X12_383 rfl (rmc h0d (by decide)) rm00 (Nat.le_of_ble_eq_true rfl) rfl (MC.mono h (fun r N1 Λ1 σ11 hq => ?_))
    obtain ⟨v12, rfl, rfl, rfl, h⟩ := hq
    refine x_last d_X12_rank_142 h.1 ?_
    have h := h.2
    refine r_nmM (fun τ13 eτ13 => ?_)
    have h := h τ13 eτ13
    refine x_iinc (x := x5) (L := [(2, t), (0, x1), (0, x2), (0, x3), (0, x4), (0, x5)]) d_X12_rank_143 rfl (by decide) rfl (fun y14 ey14 => ?_)
    have h := h y14 ey14
    show WP _ _ _ _ _ _ _ _ [(2, t), (0, x1), (0, x2), (0, x3), (0, x4), (0, y14)] _ _ _ _
    refine r_goto (tgt := 100) d_X12_rank_146 rfl ?_
    exact h
theorem v_X12_rank_163 {l : Launch} {d N : Nat} {Λ : Lay} {P : Int → Mem → Prop} {σ : Mem} {x1 x2 x3 x4 t : Int} (o_t : Ob N Λ t 21 36)
    (h : (((σ t 32) ≤ x4 → P x3 σ) ∧ (¬ ((σ t 32) ≤ x4) → ((x2 ≤ x3 → P x3 σ) ∧ (¬ (x2 ≤ x3) → WI l mX12_rank d P 180 [(2, t), (0, x1), (0, x2), (0, x3), (0, x4), (0, x3)] [] N Λ σ))))) :
    WI l mX12_rank d P 163 [(2, t), (0, x1), (0, x2), (0, x3), (0, x4), (3, 0)] [] N Λ σ := by
  refine r_iload (x := x4) d_X12_rank_163 rfl ?_
  refine r_aload_n (x := t) d_X12_rank_165 rfl o_t.1 ?_
  refine r_getf (j := 32) (t := 0) (x := (σ t 32)) d_X12_rank_166 kX12 (by decide) fl_X12_373 o_t.1 o_t.2.1 o_t.2.2.1 o_t.2.2.2 rfl rfl ?_
  refine r_ic_ge (tgt := 244) d_X12_rank_169 rfl (fun hc => ?_) (fun hc => ?_)
  · have h := h.1 hc
    refine r_iload_n (x := x3) d_X12_rank_244 rfl ?_
    exact r_iret d_X12_rank_245 rfl rfl (Nat.le_refl 0) (Nat.le_refl 0) ⟨_, rfl, rfl, rfl, h⟩
  · have h := h.2 hc
    refine r_iload_n (x := x3) d_X12_rank_172 rfl ?_
    refine r_iload_n (x := x2) d_X12_rank_173 rfl ?_
    refine r_ic_ge (tgt := 244) d_X12_rank_174 rfl (fun hc => ?_) (fun hc => ?_)
    · have h := h.1 hc
      refine r_iload_n (x := x3) d_X12_rank_244 rfl ?_
      exact r_iret d_X12_rank_245 rfl rfl (Nat.le_refl 0) (Nat.le_refl 0) ⟨_, rfl, rfl, rfl, h⟩
    · have h := h.2 hc
      refine r_iload_n (x := x3) d_X12_rank_177 rfl ?_
      refine r_istore (L2 := [(2, t), (0, x1), (0, x2), (0, x3), (0, x4), (0, x3)]) d_X12_rank_178 (by decide) rfl rfl ?_
      exact h
theorem v_X12_rank_180 {l : Launch} {d N : Nat} {Λ : Lay} {P : Int → Mem → Prop} {σ : Mem} {x1 x2 x3 x4 x5 t t_matrix : Int} (o_t : Ob N Λ t 21 36) (f_t_matrix : (Λ t).2.2 31 = t_matrix) (h0d : 1 ≤ d)
    (h : ((x2 ≤ x5 → ((¬ x5 = x2 → (CV l mX12_swapsRows (d - 1) [(2, t), (0, x5), (0, x3)] N Λ σ (fun σ1 => (CV l mX12_clears (d - 1) [(2, t), (0, x3), (0, x2), (0, x4)] N Λ σ1 (fun σ2 => (∀ y3, y3 = addI x3 1 → (∀ y4, y4 = addI x4 1 → WI l mX12_rank d P 163 [(2, t), (0, x1), (0, x2), (0, y3), (0, y4), (3, 0)] [] N Λ σ2))))))) ∧ (x5 = x2 → (∀ y5, y5 = addI x4 1 → WI l mX12_rank d P 163 [(2, t), (0, x1), (0, x2), (0, x3), (0, y5), (3, 0)] [] N Λ σ)))) ∧ (¬ (x2 ≤ x5) → (Ix N Λ t_matrix 1 (addI (mulI 480 x5) x4) ∧ ((¬ (cmpL (σ t_matrix (addI (mulI 480 x5) x4)) 0) = 0 → ((¬ x5 = x2 → (CV l mX12_swapsRows (d - 1) [(2, t), (0, x5), (0, x3)] N Λ σ (fun σ6 => (CV l mX12_clears (d - 1) [(2, t), (0, x3), (0, x2), (0, x4)] N Λ σ6 (fun σ7 => (∀ y8, y8 = addI x3 1 → (∀ y9, y9 = addI x4 1 → WI l mX12_rank d P 163 [(2, t), (0, x1), (0, x2), (0, y8), (0, y9), (3, 0)] [] N Λ σ7))))))) ∧ (x5 = x2 → (∀ y10, y10 = addI x4 1 → WI l mX12_rank d P 163 [(2, t), (0, x1), (0, x2), (0, x3), (0, y10), (3, 0)] [] N Λ σ)))) ∧ ((cmpL (σ t_matrix (addI (mulI 480 x5) x4)) 0) = 0 → (∀ y11, y11 = addI x5 1 → WI l mX12_rank d P 180 [(2, t), (0, x1), (0, x2), (0, x3), (0, x4), (0, y11)] [] N Λ σ))))))) :
    WI l mX12_rank d P 180 [(2, t), (0, x1), (0, x2), (0, x3), (0, x4), (0, x5)] [] N Λ σ := by
  refine r_iload (x := x5) d_X12_rank_180 rfl ?_
  refine r_iload_n (x := x2) d_X12_rank_182 rfl ?_
  refine r_ic_ge (tgt := 211) d_X12_rank_183 rfl (fun hc => ?_) (fun hc => ?_)
  · have h := h.1 hc
    refine r_iload (x := x5) d_X12_rank_211 rfl ?_
    refine r_iload_n (x := x2) d_X12_rank_213 rfl ?_
    refine r_ic_ne (tgt := 220) d_X12_rank_214 rfl (fun hc => ?_) (fun hc => ?_)
    · have h := h.1 hc
      refine r_aload_n (x := t) d_X12_rank_220 rfl o_t.1 ?_
      refine r_iload (x := x5) d_X12_rank_221 rfl ?_
      refine r_iload_n (x := x3) d_X12_rank_223 rfl ?_
      refine r_callV (Y2 := mX12_swapsRows) (d := d - 1) (mc := 0) (ms := 0) (c := t) (As := [(0, x5), (0, x3)]) (S := []) d_X12_rank_224 ok_mX12_swapsRows ml_X12_391 rfl (rmc h0d (by decide)) rm00 (Nat.le_of_ble_eq_true rfl) rfl kX12 o_t.1 o_t.2.1 o_t.2.2.1 o_t.2.2.2 (MC.mono h (fun r N1 Λ1 σ1 hq => ?_))
      obtain ⟨rfl, rfl, rfl, h⟩ := hq
      refine r_aload_n (x := t) d_X12_rank_227 rfl o_t.1 ?_
      refine r_iload_n (x := x3) d_X12_rank_228 rfl ?_
      refine r_iload_n (x := x2) d_X12_rank_229 rfl ?_
      refine r_iload (x := x4) d_X12_rank_230 rfl ?_
      refine r_callV (Y2 := mX12_clears) (d := d - 1) (mc := 0) (ms := 0) (c := t) (As := [(0, x3), (0, x2), (0, x4)]) (S := []) d_X12_rank_232 ok_mX12_clears ml_X12_394 rfl (rmc h0d (by decide)) rm00 (Nat.le_of_ble_eq_true rfl) rfl kX12 o_t.1 o_t.2.1 o_t.2.2.1 o_t.2.2.2 (MC.mono h (fun r N1 Λ1 σ2 hq => ?_))
      obtain ⟨rfl, rfl, rfl, h⟩ := hq
      refine x_iinc (x := x3) (L := [(2, t), (0, x1), (0, x2), (0, x3), (0, x4), (0, x5)]) d_X12_rank_235 rfl (by decide) rfl (fun y3 ey3 => ?_)
      have h := h y3 ey3
      show WP _ _ _ _ _ _ _ _ [(2, t), (0, x1), (0, x2), (0, y3), (0, x4), (0, x5)] _ _ _ _
      refine x_iinc (x := x4) (L := [(2, t), (0, x1), (0, x2), (0, y3), (0, x4), (0, x5)]) d_X12_rank_238 rfl (by decide) rfl (fun y4 ey4 => ?_)
      have h := h y4 ey4
      show WP _ _ _ _ _ _ _ _ [(2, t), (0, x1), (0, x2), (0, y3), (0, y4), (0, x5)] _ _ _ _
      refine r_goto (tgt := 163) d_X12_rank_241 rfl ?_
      exact x_mask h ⟨Or.inr rfl, Or.inr rfl, Or.inr rfl, Or.inr rfl, Or.inr rfl, Or.inl rfl, trivial⟩
    · have h := h.2 hc
      refine r_goto (tgt := 238) d_X12_rank_217 rfl ?_
      refine x_iinc (x := x4) (L := [(2, t), (0, x1), (0, x2), (0, x3), (0, x4), (0, x5)]) d_X12_rank_238 rfl (by decide) rfl (fun y5 ey5 => ?_)
      have h := h y5 ey5
      show WP _ _ _ _ _ _ _ _ [(2, t), (0, x1), (0, x2), (0, x3), (0, y5), (0, x5)] _ _ _ _
      refine r_goto (tgt := 163) d_X12_rank_241 rfl ?_
      exact x_mask h ⟨Or.inr rfl, Or.inr rfl, Or.inr rfl, Or.inr rfl, Or.inr rfl, Or.inl rfl, trivial⟩
  · have h := h.2 hc
    refine r_aload_n (x := t) d_X12_rank_186 rfl o_t.1 ?_
    refine r_getf (j := 31) (t := 2) (x := t_matrix) d_X12_rank_187 kX12 (by decide) fl_X12_73 o_t.1 o_t.2.1 o_t.2.2.1 o_t.2.2.2 rfl f_t_matrix ?_
    refine r_sipush (x := 480) d_X12_rank_190 ⟨by decide, by decide⟩ (by decide) ?_
    refine r_iload (x := x5) d_X12_rank_193 rfl ?_
    refine r_imul d_X12_rank_195 ?_
    refine r_iload (x := x4) d_X12_rank_196 rfl ?_
    refine r_iadd d_X12_rank_198 ?_
    refine x_lald d_X12_rank_199 h.1 ?_
    have h := h.2
    refine r_lconst d_X12_rank_200 ?_
    skip
    refine r_lcmp d_X12_rank_201 ?_
    refine r_if_ne (tgt := 211) d_X12_rank_202 rfl (fun hc => ?_) (fun hc => ?_)
    · have h := h.1 hc
      refine r_iload (x := x5) d_X12_rank_211 rfl ?_
      refine r_iload_n (x := x2) d_X12_rank_213 rfl ?_
      refine r_ic_ne (tgt := 220) d_X12_rank_214 rfl (fun hc => ?_) (fun hc => ?_)
      · have h := h.1 hc
        refine r_aload_n (x := t) d_X12_rank_220 rfl o_t.1 ?_
        refine r_iload (x := x5) d_X12_rank_221 rfl ?_
        refine r_iload_n (x := x3) d_X12_rank_223 rfl ?_
        refine r_callV (Y2 := mX12_swapsRows) (d := d - 1) (mc := 0) (ms := 0) (c := t) (As := [(0, x5), (0, x3)]) (S := []) d_X12_rank_224 ok_mX12_swapsRows ml_X12_391 rfl (rmc h0d (by decide)) rm00 (Nat.le_of_ble_eq_true rfl) rfl kX12 o_t.1 o_t.2.1 o_t.2.2.1 o_t.2.2.2 (MC.mono h (fun r N1 Λ1 σ6 hq => ?_))
        obtain ⟨rfl, rfl, rfl, h⟩ := hq
        refine r_aload_n (x := t) d_X12_rank_227 rfl o_t.1 ?_
        refine r_iload_n (x := x3) d_X12_rank_228 rfl ?_
        refine r_iload_n (x := x2) d_X12_rank_229 rfl ?_
        refine r_iload (x := x4) d_X12_rank_230 rfl ?_
        refine r_callV (Y2 := mX12_clears) (d := d - 1) (mc := 0) (ms := 0) (c := t) (As := [(0, x3), (0, x2), (0, x4)]) (S := []) d_X12_rank_232 ok_mX12_clears ml_X12_394 rfl (rmc h0d (by decide)) rm00 (Nat.le_of_ble_eq_true rfl) rfl kX12 o_t.1 o_t.2.1 o_t.2.2.1 o_t.2.2.2 (MC.mono h (fun r N1 Λ1 σ7 hq => ?_))
        obtain ⟨rfl, rfl, rfl, h⟩ := hq
        refine x_iinc (x := x3) (L := [(2, t), (0, x1), (0, x2), (0, x3), (0, x4), (0, x5)]) d_X12_rank_235 rfl (by decide) rfl (fun y8 ey8 => ?_)
        have h := h y8 ey8
        show WP _ _ _ _ _ _ _ _ [(2, t), (0, x1), (0, x2), (0, y8), (0, x4), (0, x5)] _ _ _ _
        refine x_iinc (x := x4) (L := [(2, t), (0, x1), (0, x2), (0, y8), (0, x4), (0, x5)]) d_X12_rank_238 rfl (by decide) rfl (fun y9 ey9 => ?_)
        have h := h y9 ey9
        show WP _ _ _ _ _ _ _ _ [(2, t), (0, x1), (0, x2), (0, y8), (0, y9), (0, x5)] _ _ _ _
        refine r_goto (tgt := 163) d_X12_rank_241 rfl ?_
        exact x_mask h ⟨Or.inr rfl, Or.inr rfl, Or.inr rfl, Or.inr rfl, Or.inr rfl, Or.inl rfl, trivial⟩
      · have h := h.2 hc
        refine r_goto (tgt := 238) d_X12_rank_217 rfl ?_
        refine x_iinc (x := x4) (L := [(2, t), (0, x1), (0, x2), (0, x3), (0, x4), (0, x5)]) d_X12_rank_238 rfl (by decide) rfl (fun y10 ey10 => ?_)
        have h := h y10 ey10
        show WP _ _ _ _ _ _ _ _ [(2, t), (0, x1), (0, x2), (0, x3), (0, y10), (0, x5)] _ _ _ _
        refine r_goto (tgt := 163) d_X12_rank_241 rfl ?_
        exact x_mask h ⟨Or.inr rfl, Or.inr rfl, Or.inr rfl, Or.inr rfl, Or.inr rfl, Or.inl rfl, trivial⟩
    · have h := h.2 hc
      refine x_iinc (x := x5) (L := [(2, t), (0, x1), (0, x2), (0, x3), (0, x4), (0, x5)]) d_X12_rank_205 rfl (by decide) rfl (fun y11 ey11 => ?_)
      have h := h y11 ey11
      show WP _ _ _ _ _ _ _ _ [(2, t), (0, x1), (0, x2), (0, x3), (0, x4), (0, y11)] _ _ _ _
      refine r_goto (tgt := 180) d_X12_rank_208 rfl ?_
      exact h
theorem v_X12_areSix_0 {l : Launch} {d N : Nat} {Λ : Lay} {P : Int → Mem → Prop} {σ : Mem} {x1 t t_state : Int} (o_t : Ob N Λ t 21 36) (f_t_state : (Λ t).2.2 3 = t_state) (h0d : 1 ≤ d)
    (h : (Ix N Λ t_state 0 (mulI 161 x1) ∧ (((σ t_state (mulI 161 x1)) = 0 → P 0 σ) ∧ (¬ ((σ t_state (mulI 161 x1)) = 0) → (CI l mX12_keyOn (d - 1) [(2, t_state), (0, x1), (0, 0)] N Λ σ (fun v2 σ1 => (CI l mX12_degreeOf (d - 1) [(0, v2)] N Λ σ1 (fun v4 σ3 => ((v4 = 2 → WI l mX12_areSix d P 35 [(2, t), (0, x1), (0, 0), (0, 0), (3, 0)] [] N Λ σ3) ∧ (¬ (v4 = 2) → P 0 σ3)))))))))) :
    WI l mX12_areSix d P 0 [(2, t), (0, x1), (3, 0), (3, 0), (3, 0)] [] N Λ σ := by
  refine r_iconst (x := 0) d_X12_areSix_0 ⟨by decide, by decide⟩ ?_
  refine r_istore_n (L2 := [(2, t), (0, x1), (0, 0), (3, 0), (3, 0)]) d_X12_areSix_1 (by decide) rfl rfl ?_
  refine r_aload_n (x := t) d_X12_areSix_2 rfl o_t.1 ?_
  refine r_getf (j := 3) (t := 2) (x := t_state) d_X12_areSix_3 kX12 (by decide) fl_X12_20 o_t.1 o_t.2.1 o_t.2.2.1 o_t.2.2.2 rfl f_t_state ?_
  refine r_sipush (x := 161) d_X12_areSix_6 ⟨by decide, by decide⟩ (by decide) ?_
  refine r_iload_n (x := x1) d_X12_areSix_9 rfl ?_
  refine r_imul d_X12_areSix_10 ?_
  refine x_iald d_X12_areSix_11 h.1 ?_
  have h := h.2
  refine r_if_eq (tgt := 31) d_X12_areSix_12 rfl (fun hc => ?_) (fun hc => ?_)
  · have h := h.1 hc
    refine r_iconst (x := 0) d_X12_areSix_31 ⟨by decide, by decide⟩ ?_
    exact r_iret d_X12_areSix_32 rfl (by decide) (Nat.le_refl 0) (Nat.le_refl 0) ⟨_, rfl, rfl, rfl, h⟩
  · have h := h.2 hc
    refine r_aload_n (x := t) d_X12_areSix_15 rfl o_t.1 ?_
    refine r_getf (j := 3) (t := 2) (x := t_state) d_X12_areSix_16 kX12 (by decide) fl_X12_20 o_t.1 o_t.2.1 o_t.2.2.1 o_t.2.2.2 rfl f_t_state ?_
    refine r_iload_n (x := x1) d_X12_areSix_19 rfl ?_
    refine r_iconst (x := 0) d_X12_areSix_20 ⟨by decide, by decide⟩ ?_
    refine r_callS (Y2 := mX12_keyOn) (d := d - 1) (mc := 0) (ms := 0) (As := [(2, t_state), (0, x1), (0, 0)]) (S := []) d_X12_areSix_21 ok_mX12_keyOn ml_X12_339 rfl (rmc h0d (by decide)) rm00 (Nat.le_of_ble_eq_true rfl) rfl (MC.mono h (fun r N1 Λ1 σ1 hq => ?_))
    obtain ⟨v2, rfl, rfl, rfl, h⟩ := hq
    refine r_callS (Y2 := mX12_degreeOf) (d := d - 1) (mc := 0) (ms := 0) (As := [(0, v2)]) (S := []) d_X12_areSix_24 ok_mX12_degreeOf ml_X12_138 rfl (rmc h0d (by decide)) rm00 (Nat.le_of_ble_eq_true rfl) rfl (MC.mono h (fun r N1 Λ1 σ3 hq => ?_))
    obtain ⟨v4, rfl, rfl, rfl, h⟩ := hq
    refine r_iconst (x := 2) d_X12_areSix_27 ⟨by decide, by decide⟩ ?_
    refine r_ic_eq (tgt := 33) d_X12_areSix_28 rfl (fun hc => ?_) (fun hc => ?_)
    · have h := h.1 hc
      refine r_iconst (x := 0) d_X12_areSix_33 ⟨by decide, by decide⟩ ?_
      refine r_istore_n (L2 := [(2, t), (0, x1), (0, 0), (0, 0), (3, 0)]) d_X12_areSix_34 (by decide) rfl rfl ?_
      exact h
    · have h := h.2 hc
      refine r_iconst (x := 0) d_X12_areSix_31 ⟨by decide, by decide⟩ ?_
      exact r_iret d_X12_areSix_32 rfl (by decide) (Nat.le_refl 0) (Nat.le_refl 0) ⟨_, rfl, rfl, rfl, h⟩
theorem v_X12_areSix_35 {l : Launch} {d N : Nat} {Λ : Lay} {P : Int → Mem → Prop} {σ : Mem} {x1 x2 x3 t t_six t_state : Int} (o_t : Ob N Λ t 21 36) (f_t_state : (Λ t).2.2 3 = t_state) (f_t_six : (Λ t).2.2 33 = t_six) (h0d : 1 ≤ d)
    (h : ((10 ≤ x3 → ((¬ x2 = 6 → P 0 σ) ∧ (x2 = 6 → P 1 σ))) ∧ (¬ (10 ≤ x3) → (CI l mX12_keyOn (d - 1) [(2, t_state), (0, x1), (0, 0)] N Λ σ (fun v2 σ1 => (CI l mX12_often (d - 1) [(2, t), (0, v2), (0, x3)] N Λ σ1 (fun v4 σ3 => ((v4 ≤ 1 → ((¬ v4 = 0 → (Ix N Λ t_six 0 x2 ∧ (∀ τ5, τ5 = st σ3 t_six x2 x3 → (∀ y6, y6 = addI x2 1 → (∀ y7, y7 = addI x3 1 → WI l mX12_areSix d P 35 [(2, t), (0, x1), (0, y6), (0, y7), (3, 0)] [] N Λ τ5))))) ∧ (v4 = 0 → (∀ y8, y8 = addI x3 1 → WI l mX12_areSix d P 35 [(2, t), (0, x1), (0, x2), (0, y8), (3, 0)] [] N Λ σ3)))) ∧ (¬ (v4 ≤ 1) → P 0 σ3))))))))) :
    WI l mX12_areSix d P 35 [(2, t), (0, x1), (0, x2), (0, x3), (3, 0)] [] N Λ σ := by
  refine r_iload_n (x := x3) d_X12_areSix_35 rfl ?_
  refine r_bipush (x := 10) d_X12_areSix_36 ⟨by decide, by decide⟩ (by decide) ?_
  refine r_ic_ge (tgt := 89) d_X12_areSix_38 rfl (fun hc => ?_) (fun hc => ?_)
  · have h := h.1 hc
    refine r_iload_n (x := x2) d_X12_areSix_89 rfl ?_
    refine r_bipush (x := 6) d_X12_areSix_90 ⟨by decide, by decide⟩ (by decide) ?_
    refine r_ic_ne (tgt := 99) d_X12_areSix_92 rfl (fun hc => ?_) (fun hc => ?_)
    · have h := h.1 hc
      refine r_iconst (x := 0) d_X12_areSix_99 ⟨by decide, by decide⟩ ?_
      exact r_iret d_X12_areSix_100 rfl (by decide) (Nat.le_refl 0) (Nat.le_refl 0) ⟨_, rfl, rfl, rfl, h⟩
    · have h := h.2 hc
      refine r_iconst (x := 1) d_X12_areSix_95 ⟨by decide, by decide⟩ ?_
      refine r_goto (tgt := 100) d_X12_areSix_96 rfl ?_
      exact r_iret d_X12_areSix_100 rfl (by decide) (Nat.le_refl 0) (Nat.le_refl 0) ⟨_, rfl, rfl, rfl, h⟩
  · have h := h.2 hc
    refine r_aload_n (x := t) d_X12_areSix_41 rfl o_t.1 ?_
    refine r_aload_n (x := t) d_X12_areSix_42 rfl o_t.1 ?_
    refine r_getf (j := 3) (t := 2) (x := t_state) d_X12_areSix_43 kX12 (by decide) fl_X12_20 o_t.1 o_t.2.1 o_t.2.2.1 o_t.2.2.2 rfl f_t_state ?_
    refine r_iload_n (x := x1) d_X12_areSix_46 rfl ?_
    refine r_iconst (x := 0) d_X12_areSix_47 ⟨by decide, by decide⟩ ?_
    refine r_callS (Y2 := mX12_keyOn) (d := d - 1) (mc := 0) (ms := 0) (As := [(2, t_state), (0, x1), (0, 0)]) (S := [(2, t)]) d_X12_areSix_48 ok_mX12_keyOn ml_X12_339 rfl (rmc h0d (by decide)) rm00 (Nat.le_of_ble_eq_true rfl) rfl (MC.mono h (fun r N1 Λ1 σ1 hq => ?_))
    obtain ⟨v2, rfl, rfl, rfl, h⟩ := hq
    refine r_iload_n (x := x3) d_X12_areSix_51 rfl ?_
    refine r_callV (Y2 := mX12_often) (d := d - 1) (mc := 0) (ms := 0) (c := t) (As := [(0, v2), (0, x3)]) (S := []) d_X12_areSix_52 ok_mX12_often ml_X12_343 rfl (rmc h0d (by decide)) rm00 (Nat.le_of_ble_eq_true rfl) rfl kX12 o_t.1 o_t.2.1 o_t.2.2.1 o_t.2.2.2 (MC.mono h (fun r N1 Λ1 σ3 hq => ?_))
    obtain ⟨v4, rfl, rfl, rfl, h⟩ := hq
    refine r_istore (L2 := [(2, t), (0, x1), (0, x2), (0, x3), (0, v4)]) d_X12_areSix_55 (by decide) rfl rfl ?_
    refine r_iload (x := v4) d_X12_areSix_57 rfl ?_
    refine r_iconst (x := 1) d_X12_areSix_59 ⟨by decide, by decide⟩ ?_
    refine r_ic_le (tgt := 65) d_X12_areSix_60 rfl (fun hc => ?_) (fun hc => ?_)
    · have h := h.1 hc
      refine r_iload (x := v4) d_X12_areSix_65 rfl ?_
      refine r_if_ne (tgt := 73) d_X12_areSix_67 rfl (fun hc => ?_) (fun hc => ?_)
      · have h := h.1 hc
        refine r_aload_n (x := t) d_X12_areSix_73 rfl o_t.1 ?_
        refine r_getf (j := 33) (t := 2) (x := t_six) d_X12_areSix_74 kX12 (by decide) fl_X12_77 o_t.1 o_t.2.1 o_t.2.2.1 o_t.2.2.2 rfl f_t_six ?_
        refine r_iload_n (x := x2) d_X12_areSix_77 rfl ?_
        refine r_iload_n (x := x3) d_X12_areSix_78 rfl ?_
        refine x_iast d_X12_areSix_79 h.1 ?_
        have h := h.2
        refine r_nmM (fun τ5 eτ5 => ?_)
        have h := h τ5 eτ5
        refine x_iinc (x := x2) (L := [(2, t), (0, x1), (0, x2), (0, x3), (0, v4)]) d_X12_areSix_80 rfl (by decide) rfl (fun y6 ey6 => ?_)
        have h := h y6 ey6
        show WP _ _ _ _ _ _ _ _ [(2, t), (0, x1), (0, y6), (0, x3), (0, v4)] _ _ _ _
        refine x_iinc (x := x3) (L := [(2, t), (0, x1), (0, y6), (0, x3), (0, v4)]) d_X12_areSix_83 rfl (by decide) rfl (fun y7 ey7 => ?_)
        have h := h y7 ey7
        show WP _ _ _ _ _ _ _ _ [(2, t), (0, x1), (0, y6), (0, y7), (0, v4)] _ _ _ _
        refine r_goto (tgt := 35) d_X12_areSix_86 rfl ?_
        exact x_mask h ⟨Or.inr rfl, Or.inr rfl, Or.inr rfl, Or.inr rfl, Or.inl rfl, trivial⟩
      · have h := h.2 hc
        refine r_goto (tgt := 83) d_X12_areSix_70 rfl ?_
        refine x_iinc (x := x3) (L := [(2, t), (0, x1), (0, x2), (0, x3), (0, v4)]) d_X12_areSix_83 rfl (by decide) rfl (fun y8 ey8 => ?_)
        have h := h y8 ey8
        show WP _ _ _ _ _ _ _ _ [(2, t), (0, x1), (0, x2), (0, y8), (0, v4)] _ _ _ _
        refine r_goto (tgt := 35) d_X12_areSix_86 rfl ?_
        exact x_mask h ⟨Or.inr rfl, Or.inr rfl, Or.inr rfl, Or.inr rfl, Or.inl rfl, trivial⟩
    · have h := h.2 hc
      refine r_iconst (x := 0) d_X12_areSix_63 ⟨by decide, by decide⟩ ?_
      exact r_iret d_X12_areSix_64 rfl (by decide) (Nat.le_refl 0) (Nat.le_refl 0) ⟨_, rfl, rfl, rfl, h⟩
theorem v_X12_laysSix_0 {l : Launch} {d N : Nat} {Λ : Lay} {P : Mem → Prop} {σ : Mem} {x1 t t_taken : Int} (o_t : Ob N Λ t 21 36) (f_t_taken : (Λ t).2.2 34 = t_taken) (h0d : 1 ≤ d)
    (h : (CV l mX12_empties (d - 1) [(2, t), (0, x1)] N Λ σ (fun σ1 => (CV l mX12_empties (d - 1) [(2, t), (0, 1)] N Λ σ1 (fun σ2 => (CV l mX12_empties (d - 1) [(2, t), (0, 2)] N Λ σ2 (fun σ3 => (Ix N Λ t_taken 0 0 ∧ (Ix N Λ t_taken 0 2 ∧ (Ix N Λ t_taken 0 3 ∧ (CV l mX12_putsBracket (d - 1) [(2, t), (0, (σ3 t_taken 0)), (0, (σ3 t_taken 2)), (0, (σ3 t_taken 3)), (0, 1)] N Λ σ3 (fun σ4 => (Ix N Λ t_taken 0 1 ∧ (Ix N Λ t_taken 0 4 ∧ (Ix N Λ t_taken 0 5 ∧ (CV l mX12_putsBracket (d - 1) [(2, t), (0, (σ4 t_taken 1)), (0, (σ4 t_taken 4)), (0, (σ4 t_taken 5)), (0, 2)] N Λ σ4 (fun σ5 => (CV l mX12_multiplies (d - 1) [(2, t), (0, 1), (0, 2), (0, 1), (0, x1)] N Λ σ5 (fun σ6 => (CV l mX12_empties (d - 1) [(2, t), (0, 1)] N Λ σ6 (fun σ7 => (CV l mX12_empties (d - 1) [(2, t), (0, 2)] N Λ σ7 (fun σ8 => (Ix N Λ t_taken 0 1 ∧ (Ix N Λ t_taken 0 2 ∧ (Ix N Λ t_taken 0 3 ∧ (CV l mX12_putsBracket (d - 1) [(2, t), (0, (σ8 t_taken 1)), (0, (σ8 t_taken 2)), (0, (σ8 t_taken 3)), (0, 1)] N Λ σ8 (fun σ9 => (Ix N Λ t_taken 0 0 ∧ (Ix N Λ t_taken 0 4 ∧ (Ix N Λ t_taken 0 5 ∧ (CV l mX12_putsBracket (d - 1) [(2, t), (0, (σ9 t_taken 0)), (0, (σ9 t_taken 4)), (0, (σ9 t_taken 5)), (0, 2)] N Λ σ9 (fun σ10 => (CV l mX12_multiplies (d - 1) [(2, t), (0, 1), (0, 2), (0, (-1)), (0, x1)] N Λ σ10 (fun σ11 => (CI l mX12_straightens (d - 1) [(2, t), (0, x1)] N Λ σ11 (fun v13 σ12 => P σ12))))))))))))))))))))))))))))))))))))) :
    WV l mX12_laysSix d P 0 [(2, t), (0, x1), (3, 0)] [] N Λ σ := by
  refine r_aload_n (x := t) d_X12_laysSix_0 rfl o_t.1 ?_
  refine r_iload_n (x := x1) d_X12_laysSix_1 rfl ?_
  refine r_callV (Y2 := mX12_empties) (d := d - 1) (mc := 0) (ms := 0) (c := t) (As := [(0, x1)]) (S := []) d_X12_laysSix_2 ok_mX12_empties ml_X12_105 rfl (rmc h0d (by decide)) rm00 (Nat.le_of_ble_eq_true rfl) rfl kX12 o_t.1 o_t.2.1 o_t.2.2.1 o_t.2.2.2 (MC.mono h (fun r N1 Λ1 σ1 hq => ?_))
  obtain ⟨rfl, rfl, rfl, h⟩ := hq
  refine r_aload_n (x := t) d_X12_laysSix_5 rfl o_t.1 ?_
  refine r_iconst (x := 1) d_X12_laysSix_6 ⟨by decide, by decide⟩ ?_
  refine r_callV (Y2 := mX12_empties) (d := d - 1) (mc := 0) (ms := 0) (c := t) (As := [(0, 1)]) (S := []) d_X12_laysSix_7 ok_mX12_empties ml_X12_105 rfl (rmc h0d (by decide)) rm00 (Nat.le_of_ble_eq_true rfl) rfl kX12 o_t.1 o_t.2.1 o_t.2.2.1 o_t.2.2.2 (MC.mono h (fun r N1 Λ1 σ2 hq => ?_))
  obtain ⟨rfl, rfl, rfl, h⟩ := hq
  refine r_aload_n (x := t) d_X12_laysSix_10 rfl o_t.1 ?_
  refine r_iconst (x := 2) d_X12_laysSix_11 ⟨by decide, by decide⟩ ?_
  refine r_callV (Y2 := mX12_empties) (d := d - 1) (mc := 0) (ms := 0) (c := t) (As := [(0, 2)]) (S := []) d_X12_laysSix_12 ok_mX12_empties ml_X12_105 rfl (rmc h0d (by decide)) rm00 (Nat.le_of_ble_eq_true rfl) rfl kX12 o_t.1 o_t.2.1 o_t.2.2.1 o_t.2.2.2 (MC.mono h (fun r N1 Λ1 σ3 hq => ?_))
  obtain ⟨rfl, rfl, rfl, h⟩ := hq
  refine r_aload_n (x := t) d_X12_laysSix_15 rfl o_t.1 ?_
  refine r_aload_n (x := t) d_X12_laysSix_16 rfl o_t.1 ?_
  refine r_getf (j := 34) (t := 2) (x := t_taken) d_X12_laysSix_17 kX12 (by decide) fl_X12_80 o_t.1 o_t.2.1 o_t.2.2.1 o_t.2.2.2 rfl f_t_taken ?_
  refine r_iconst (x := 0) d_X12_laysSix_20 ⟨by decide, by decide⟩ ?_
  refine x_iald d_X12_laysSix_21 h.1 ?_
  have h := h.2
  refine r_aload_n (x := t) d_X12_laysSix_22 rfl o_t.1 ?_
  refine r_getf (j := 34) (t := 2) (x := t_taken) d_X12_laysSix_23 kX12 (by decide) fl_X12_80 o_t.1 o_t.2.1 o_t.2.2.1 o_t.2.2.2 rfl f_t_taken ?_
  refine r_iconst (x := 2) d_X12_laysSix_26 ⟨by decide, by decide⟩ ?_
  refine x_iald d_X12_laysSix_27 h.1 ?_
  have h := h.2
  refine r_aload_n (x := t) d_X12_laysSix_28 rfl o_t.1 ?_
  refine r_getf (j := 34) (t := 2) (x := t_taken) d_X12_laysSix_29 kX12 (by decide) fl_X12_80 o_t.1 o_t.2.1 o_t.2.2.1 o_t.2.2.2 rfl f_t_taken ?_
  refine r_iconst (x := 3) d_X12_laysSix_32 ⟨by decide, by decide⟩ ?_
  refine x_iald d_X12_laysSix_33 h.1 ?_
  have h := h.2
  refine r_iconst (x := 1) d_X12_laysSix_34 ⟨by decide, by decide⟩ ?_
  refine r_callV (Y2 := mX12_putsBracket) (d := d - 1) (mc := 0) (ms := 0) (c := t) (As := [(0, (σ3 t_taken 0)), (0, (σ3 t_taken 2)), (0, (σ3 t_taken 3)), (0, 1)]) (S := []) d_X12_laysSix_35 ok_mX12_putsBracket ml_X12_211 rfl (rmc h0d (by decide)) rm00 (Nat.le_of_ble_eq_true rfl) rfl kX12 o_t.1 o_t.2.1 o_t.2.2.1 o_t.2.2.2 (MC.mono h (fun r N1 Λ1 σ4 hq => ?_))
  obtain ⟨rfl, rfl, rfl, h⟩ := hq
  refine r_aload_n (x := t) d_X12_laysSix_38 rfl o_t.1 ?_
  refine r_aload_n (x := t) d_X12_laysSix_39 rfl o_t.1 ?_
  refine r_getf (j := 34) (t := 2) (x := t_taken) d_X12_laysSix_40 kX12 (by decide) fl_X12_80 o_t.1 o_t.2.1 o_t.2.2.1 o_t.2.2.2 rfl f_t_taken ?_
  refine r_iconst (x := 1) d_X12_laysSix_43 ⟨by decide, by decide⟩ ?_
  refine x_iald d_X12_laysSix_44 h.1 ?_
  have h := h.2
  refine r_aload_n (x := t) d_X12_laysSix_45 rfl o_t.1 ?_
  refine r_getf (j := 34) (t := 2) (x := t_taken) d_X12_laysSix_46 kX12 (by decide) fl_X12_80 o_t.1 o_t.2.1 o_t.2.2.1 o_t.2.2.2 rfl f_t_taken ?_
  refine r_iconst (x := 4) d_X12_laysSix_49 ⟨by decide, by decide⟩ ?_
  refine x_iald d_X12_laysSix_50 h.1 ?_
  have h := h.2
  refine r_aload_n (x := t) d_X12_laysSix_51 rfl o_t.1 ?_
  refine r_getf (j := 34) (t := 2) (x := t_taken) d_X12_laysSix_52 kX12 (by decide) fl_X12_80 o_t.1 o_t.2.1 o_t.2.2.1 o_t.2.2.2 rfl f_t_taken ?_
  refine r_iconst (x := 5) d_X12_laysSix_55 ⟨by decide, by decide⟩ ?_
  refine x_iald d_X12_laysSix_56 h.1 ?_
  have h := h.2
  refine r_iconst (x := 2) d_X12_laysSix_57 ⟨by decide, by decide⟩ ?_
  refine r_callV (Y2 := mX12_putsBracket) (d := d - 1) (mc := 0) (ms := 0) (c := t) (As := [(0, (σ4 t_taken 1)), (0, (σ4 t_taken 4)), (0, (σ4 t_taken 5)), (0, 2)]) (S := []) d_X12_laysSix_58 ok_mX12_putsBracket ml_X12_211 rfl (rmc h0d (by decide)) rm00 (Nat.le_of_ble_eq_true rfl) rfl kX12 o_t.1 o_t.2.1 o_t.2.2.1 o_t.2.2.2 (MC.mono h (fun r N1 Λ1 σ5 hq => ?_))
  obtain ⟨rfl, rfl, rfl, h⟩ := hq
  refine r_aload_n (x := t) d_X12_laysSix_61 rfl o_t.1 ?_
  refine r_iconst (x := 1) d_X12_laysSix_62 ⟨by decide, by decide⟩ ?_
  refine r_iconst (x := 2) d_X12_laysSix_63 ⟨by decide, by decide⟩ ?_
  refine r_iconst (x := 1) d_X12_laysSix_64 ⟨by decide, by decide⟩ ?_
  refine r_iload_n (x := x1) d_X12_laysSix_65 rfl ?_
  refine r_callV (Y2 := mX12_multiplies) (d := d - 1) (mc := 0) (ms := 0) (c := t) (As := [(0, 1), (0, 2), (0, 1), (0, x1)]) (S := []) d_X12_laysSix_66 ok_mX12_multiplies ml_X12_231 rfl (rmc h0d (by decide)) rm00 (Nat.le_of_ble_eq_true rfl) rfl kX12 o_t.1 o_t.2.1 o_t.2.2.1 o_t.2.2.2 (MC.mono h (fun r N1 Λ1 σ6 hq => ?_))
  obtain ⟨rfl, rfl, rfl, h⟩ := hq
  refine r_aload_n (x := t) d_X12_laysSix_69 rfl o_t.1 ?_
  refine r_iconst (x := 1) d_X12_laysSix_70 ⟨by decide, by decide⟩ ?_
  refine r_callV (Y2 := mX12_empties) (d := d - 1) (mc := 0) (ms := 0) (c := t) (As := [(0, 1)]) (S := []) d_X12_laysSix_71 ok_mX12_empties ml_X12_105 rfl (rmc h0d (by decide)) rm00 (Nat.le_of_ble_eq_true rfl) rfl kX12 o_t.1 o_t.2.1 o_t.2.2.1 o_t.2.2.2 (MC.mono h (fun r N1 Λ1 σ7 hq => ?_))
  obtain ⟨rfl, rfl, rfl, h⟩ := hq
  refine r_aload_n (x := t) d_X12_laysSix_74 rfl o_t.1 ?_
  refine r_iconst (x := 2) d_X12_laysSix_75 ⟨by decide, by decide⟩ ?_
  refine r_callV (Y2 := mX12_empties) (d := d - 1) (mc := 0) (ms := 0) (c := t) (As := [(0, 2)]) (S := []) d_X12_laysSix_76 ok_mX12_empties ml_X12_105 rfl (rmc h0d (by decide)) rm00 (Nat.le_of_ble_eq_true rfl) rfl kX12 o_t.1 o_t.2.1 o_t.2.2.1 o_t.2.2.2 (MC.mono h (fun r N1 Λ1 σ8 hq => ?_))
  obtain ⟨rfl, rfl, rfl, h⟩ := hq
  refine r_aload_n (x := t) d_X12_laysSix_79 rfl o_t.1 ?_
  refine r_aload_n (x := t) d_X12_laysSix_80 rfl o_t.1 ?_
  refine r_getf (j := 34) (t := 2) (x := t_taken) d_X12_laysSix_81 kX12 (by decide) fl_X12_80 o_t.1 o_t.2.1 o_t.2.2.1 o_t.2.2.2 rfl f_t_taken ?_
  refine r_iconst (x := 1) d_X12_laysSix_84 ⟨by decide, by decide⟩ ?_
  refine x_iald d_X12_laysSix_85 h.1 ?_
  have h := h.2
  refine r_aload_n (x := t) d_X12_laysSix_86 rfl o_t.1 ?_
  refine r_getf (j := 34) (t := 2) (x := t_taken) d_X12_laysSix_87 kX12 (by decide) fl_X12_80 o_t.1 o_t.2.1 o_t.2.2.1 o_t.2.2.2 rfl f_t_taken ?_
  refine r_iconst (x := 2) d_X12_laysSix_90 ⟨by decide, by decide⟩ ?_
  refine x_iald d_X12_laysSix_91 h.1 ?_
  have h := h.2
  refine r_aload_n (x := t) d_X12_laysSix_92 rfl o_t.1 ?_
  refine r_getf (j := 34) (t := 2) (x := t_taken) d_X12_laysSix_93 kX12 (by decide) fl_X12_80 o_t.1 o_t.2.1 o_t.2.2.1 o_t.2.2.2 rfl f_t_taken ?_
  refine r_iconst (x := 3) d_X12_laysSix_96 ⟨by decide, by decide⟩ ?_
  refine x_iald d_X12_laysSix_97 h.1 ?_
  have h := h.2
  refine r_iconst (x := 1) d_X12_laysSix_98 ⟨by decide, by decide⟩ ?_
  refine r_callV (Y2 := mX12_putsBracket) (d := d - 1) (mc := 0) (ms := 0) (c := t) (As := [(0, (σ8 t_taken 1)), (0, (σ8 t_taken 2)), (0, (σ8 t_taken 3)), (0, 1)]) (S := []) d_X12_laysSix_99 ok_mX12_putsBracket ml_X12_211 rfl (rmc h0d (by decide)) rm00 (Nat.le_of_ble_eq_true rfl) rfl kX12 o_t.1 o_t.2.1 o_t.2.2.1 o_t.2.2.2 (MC.mono h (fun r N1 Λ1 σ9 hq => ?_))
  obtain ⟨rfl, rfl, rfl, h⟩ := hq
  refine r_aload_n (x := t) d_X12_laysSix_102 rfl o_t.1 ?_
  refine r_aload_n (x := t) d_X12_laysSix_103 rfl o_t.1 ?_
  refine r_getf (j := 34) (t := 2) (x := t_taken) d_X12_laysSix_104 kX12 (by decide) fl_X12_80 o_t.1 o_t.2.1 o_t.2.2.1 o_t.2.2.2 rfl f_t_taken ?_
  refine r_iconst (x := 0) d_X12_laysSix_107 ⟨by decide, by decide⟩ ?_
  refine x_iald d_X12_laysSix_108 h.1 ?_
  have h := h.2
  refine r_aload_n (x := t) d_X12_laysSix_109 rfl o_t.1 ?_
  refine r_getf (j := 34) (t := 2) (x := t_taken) d_X12_laysSix_110 kX12 (by decide) fl_X12_80 o_t.1 o_t.2.1 o_t.2.2.1 o_t.2.2.2 rfl f_t_taken ?_
  refine r_iconst (x := 4) d_X12_laysSix_113 ⟨by decide, by decide⟩ ?_
  refine x_iald d_X12_laysSix_114 h.1 ?_
  have h := h.2
  refine r_aload_n (x := t) d_X12_laysSix_115 rfl o_t.1 ?_
  refine r_getf (j := 34) (t := 2) (x := t_taken) d_X12_laysSix_116 kX12 (by decide) fl_X12_80 o_t.1 o_t.2.1 o_t.2.2.1 o_t.2.2.2 rfl f_t_taken ?_
  refine r_iconst (x := 5) d_X12_laysSix_119 ⟨by decide, by decide⟩ ?_
  refine x_iald d_X12_laysSix_120 h.1 ?_
  have h := h.2
  refine r_iconst (x := 2) d_X12_laysSix_121 ⟨by decide, by decide⟩ ?_
  refine r_callV (Y2 := mX12_putsBracket) (d := d - 1) (mc := 0) (ms := 0) (c := t) (As := [(0, (σ9 t_taken 0)), (0, (σ9 t_taken 4)), (0, (σ9 t_taken 5)), (0, 2)]) (S := []) d_X12_laysSix_122 ok_mX12_putsBracket ml_X12_211 rfl (rmc h0d (by decide)) rm00 (Nat.le_of_ble_eq_true rfl) rfl kX12 o_t.1 o_t.2.1 o_t.2.2.1 o_t.2.2.2 (MC.mono h (fun r N1 Λ1 σ10 hq => ?_))
  obtain ⟨rfl, rfl, rfl, h⟩ := hq
  refine r_aload_n (x := t) d_X12_laysSix_125 rfl o_t.1 ?_
  refine r_iconst (x := 1) d_X12_laysSix_126 ⟨by decide, by decide⟩ ?_
  refine r_iconst (x := 2) d_X12_laysSix_127 ⟨by decide, by decide⟩ ?_
  refine r_iconst (x := (-1)) d_X12_laysSix_128 ⟨by decide, by decide⟩ ?_
  refine r_iload_n (x := x1) d_X12_laysSix_129 rfl ?_
  refine r_callV (Y2 := mX12_multiplies) (d := d - 1) (mc := 0) (ms := 0) (c := t) (As := [(0, 1), (0, 2), (0, (-1)), (0, x1)]) (S := []) d_X12_laysSix_130 ok_mX12_multiplies ml_X12_231 rfl (rmc h0d (by decide)) rm00 (Nat.le_of_ble_eq_true rfl) rfl kX12 o_t.1 o_t.2.1 o_t.2.2.1 o_t.2.2.2 (MC.mono h (fun r N1 Λ1 σ11 hq => ?_))
  obtain ⟨rfl, rfl, rfl, h⟩ := hq
  refine r_aload_n (x := t) d_X12_laysSix_133 rfl o_t.1 ?_
  refine r_iload_n (x := x1) d_X12_laysSix_134 rfl ?_
  refine r_callV (Y2 := mX12_straightens) (d := d - 1) (mc := 0) (ms := 0) (c := t) (As := [(0, x1)]) (S := []) d_X12_laysSix_135 ok_mX12_straightens ml_X12_241 rfl (rmc h0d (by decide)) rm00 (Nat.le_of_ble_eq_true rfl) rfl kX12 o_t.1 o_t.2.1 o_t.2.2.1 o_t.2.2.2 (MC.mono h (fun r N1 Λ1 σ12 hq => ?_))
  obtain ⟨v13, rfl, rfl, rfl, h⟩ := hq
  refine r_istore_n (L2 := [(2, t), (0, x1), (0, v13)]) d_X12_laysSix_138 (by decide) rfl rfl ?_
  exact r_vret d_X12_laysSix_139 rfl (Nat.le_refl 0) (Nat.le_refl 0) ⟨rfl, rfl, rfl, h⟩
theorem v_X12_multiple_0 {l : Launch} {d N : Nat} {Λ : Lay} {P : Int → Mem → Prop} {σ : Mem} {x1 x2 t : Int} (o_t : Ob N Λ t 21 36) (h0d : 1 ≤ d)
    (h : (CI l mX12_many (d - 1) [(2, t), (0, x1)] N Λ σ (fun v2 σ1 => ((v2 = 0 → P 0 σ1) ∧ (¬ (v2 = 0) → (CI l mX12_many (d - 1) [(2, t), (0, x1)] N Λ σ1 (fun v4 σ3 => (CI l mX12_many (d - 1) [(2, t), (0, x2)] N Λ σ3 (fun v6 σ5 => ((¬ v4 = v6 → P 0 σ5) ∧ (v4 = v6 → (CI l mX12_number (d - 1) [(2, t), (0, x1), (0, 0)] N Λ σ5 (fun v8 σ7 => (CI l mX12_number (d - 1) [(2, t), (0, x2), (0, 0)] N Λ σ7 (fun v10 σ9 => (¬ v10 = 0 ∧ (((remI v8 v10) = 0 → (CI l mX12_number (d - 1) [(2, t), (0, x1), (0, 0)] N Λ σ9 (fun v12 σ11 => (CI l mX12_number (d - 1) [(2, t), (0, x2), (0, 0)] N Λ σ11 (fun v14 σ13 => (¬ v14 = 0 ∧ (∀ y15, y15 = (divI v12 v14) → WI l mX12_multiple d P 56 [(2, t), (0, x1), (0, x2), (0, y15), (0, 0)] [] N Λ σ13))))))) ∧ (¬ ((remI v8 v10) = 0) → P 0 σ9)))))))))))))))))) :
    WI l mX12_multiple d P 0 [(2, t), (0, x1), (0, x2), (3, 0), (3, 0)] [] N Λ σ := by
  refine r_aload_n (x := t) d_X12_multiple_0 rfl o_t.1 ?_
  refine r_iload_n (x := x1) d_X12_multiple_1 rfl ?_
  refine r_callV (Y2 := mX12_many) (d := d - 1) (mc := 0) (ms := 0) (c := t) (As := [(0, x1)]) (S := []) d_X12_multiple_2 ok_mX12_many ml_X12_113 rfl (rmc h0d (by decide)) rm00 (Nat.le_of_ble_eq_true rfl) rfl kX12 o_t.1 o_t.2.1 o_t.2.2.1 o_t.2.2.2 (MC.mono h (fun r N1 Λ1 σ1 hq => ?_))
  obtain ⟨v2, rfl, rfl, rfl, h⟩ := hq
  refine r_if_eq (tgt := 37) d_X12_multiple_5 rfl (fun hc => ?_) (fun hc => ?_)
  · have h := h.1 hc
    refine r_iconst (x := 0) d_X12_multiple_37 ⟨by decide, by decide⟩ ?_
    exact r_iret d_X12_multiple_38 rfl rfl (Nat.le_refl 0) (Nat.le_refl 0) ⟨_, rfl, rfl, rfl, h⟩
  · have h := h.2 hc
    refine r_aload_n (x := t) d_X12_multiple_8 rfl o_t.1 ?_
    refine r_iload_n (x := x1) d_X12_multiple_9 rfl ?_
    refine r_callV (Y2 := mX12_many) (d := d - 1) (mc := 0) (ms := 0) (c := t) (As := [(0, x1)]) (S := []) d_X12_multiple_10 ok_mX12_many ml_X12_113 rfl (rmc h0d (by decide)) rm00 (Nat.le_of_ble_eq_true rfl) rfl kX12 o_t.1 o_t.2.1 o_t.2.2.1 o_t.2.2.2 (MC.mono h (fun r N1 Λ1 σ3 hq => ?_))
    obtain ⟨v4, rfl, rfl, rfl, h⟩ := hq
    refine r_aload_n (x := t) d_X12_multiple_13 rfl o_t.1 ?_
    refine r_iload_n (x := x2) d_X12_multiple_14 rfl ?_
    refine r_callV (Y2 := mX12_many) (d := d - 1) (mc := 0) (ms := 0) (c := t) (As := [(0, x2)]) (S := [(0, v4)]) d_X12_multiple_15 ok_mX12_many ml_X12_113 rfl (rmc h0d (by decide)) rm00 (Nat.le_of_ble_eq_true rfl) rfl kX12 o_t.1 o_t.2.1 o_t.2.2.1 o_t.2.2.2 (MC.mono h (fun r N1 Λ1 σ5 hq => ?_))
    obtain ⟨v6, rfl, rfl, rfl, h⟩ := hq
    refine r_ic_ne (tgt := 37) d_X12_multiple_18 rfl (fun hc => ?_) (fun hc => ?_)
    · have h := h.1 hc
      refine r_iconst (x := 0) d_X12_multiple_37 ⟨by decide, by decide⟩ ?_
      exact r_iret d_X12_multiple_38 rfl rfl (Nat.le_refl 0) (Nat.le_refl 0) ⟨_, rfl, rfl, rfl, h⟩
    · have h := h.2 hc
      refine r_aload_n (x := t) d_X12_multiple_21 rfl o_t.1 ?_
      refine r_iload_n (x := x1) d_X12_multiple_22 rfl ?_
      refine r_iconst (x := 0) d_X12_multiple_23 ⟨by decide, by decide⟩ ?_
      refine r_callV (Y2 := mX12_number) (d := d - 1) (mc := 0) (ms := 0) (c := t) (As := [(0, x1), (0, 0)]) (S := []) d_X12_multiple_24 ok_mX12_number ml_X12_132 rfl (rmc h0d (by decide)) rm00 (Nat.le_of_ble_eq_true rfl) rfl kX12 o_t.1 o_t.2.1 o_t.2.2.1 o_t.2.2.2 (MC.mono h (fun r N1 Λ1 σ7 hq => ?_))
      obtain ⟨v8, rfl, rfl, rfl, h⟩ := hq
      refine r_aload_n (x := t) d_X12_multiple_27 rfl o_t.1 ?_
      refine r_iload_n (x := x2) d_X12_multiple_28 rfl ?_
      refine r_iconst (x := 0) d_X12_multiple_29 ⟨by decide, by decide⟩ ?_
      refine r_callV (Y2 := mX12_number) (d := d - 1) (mc := 0) (ms := 0) (c := t) (As := [(0, x2), (0, 0)]) (S := [(0, v8)]) d_X12_multiple_30 ok_mX12_number ml_X12_132 rfl (rmc h0d (by decide)) rm00 (Nat.le_of_ble_eq_true rfl) rfl kX12 o_t.1 o_t.2.1 o_t.2.2.1 o_t.2.2.2 (MC.mono h (fun r N1 Λ1 σ9 hq => ?_))
      obtain ⟨v10, rfl, rfl, rfl, h⟩ := hq
      refine r_irem d_X12_multiple_33 h.1 ?_
      have h := h.2
      refine r_if_eq (tgt := 39) d_X12_multiple_34 rfl (fun hc => ?_) (fun hc => ?_)
      · have h := h.1 hc
        refine r_aload_n (x := t) d_X12_multiple_39 rfl o_t.1 ?_
        refine r_iload_n (x := x1) d_X12_multiple_40 rfl ?_
        refine r_iconst (x := 0) d_X12_multiple_41 ⟨by decide, by decide⟩ ?_
        refine r_callV (Y2 := mX12_number) (d := d - 1) (mc := 0) (ms := 0) (c := t) (As := [(0, x1), (0, 0)]) (S := []) d_X12_multiple_42 ok_mX12_number ml_X12_132 rfl (rmc h0d (by decide)) rm00 (Nat.le_of_ble_eq_true rfl) rfl kX12 o_t.1 o_t.2.1 o_t.2.2.1 o_t.2.2.2 (MC.mono h (fun r N1 Λ1 σ11 hq => ?_))
        obtain ⟨v12, rfl, rfl, rfl, h⟩ := hq
        refine r_aload_n (x := t) d_X12_multiple_45 rfl o_t.1 ?_
        refine r_iload_n (x := x2) d_X12_multiple_46 rfl ?_
        refine r_iconst (x := 0) d_X12_multiple_47 ⟨by decide, by decide⟩ ?_
        refine r_callV (Y2 := mX12_number) (d := d - 1) (mc := 0) (ms := 0) (c := t) (As := [(0, x2), (0, 0)]) (S := [(0, v12)]) d_X12_multiple_48 ok_mX12_number ml_X12_132 rfl (rmc h0d (by decide)) rm00 (Nat.le_of_ble_eq_true rfl) rfl kX12 o_t.1 o_t.2.1 o_t.2.2.1 o_t.2.2.2 (MC.mono h (fun r N1 Λ1 σ13 hq => ?_))
        obtain ⟨v14, rfl, rfl, rfl, h⟩ := hq
        refine r_idiv d_X12_multiple_51 h.1 ?_
        have h := h.2
        refine r_nm (fun y15 ey15 => ?_)
        have h := h y15 ey15
        refine r_istore_n (L2 := [(2, t), (0, x1), (0, x2), (0, y15), (3, 0)]) d_X12_multiple_52 (by decide) rfl rfl ?_
        refine r_iconst (x := 0) d_X12_multiple_53 ⟨by decide, by decide⟩ ?_
        refine r_istore (L2 := [(2, t), (0, x1), (0, x2), (0, y15), (0, 0)]) d_X12_multiple_54 (by decide) rfl rfl ?_
        exact h
      · have h := h.2 hc
        refine r_iconst (x := 0) d_X12_multiple_37 ⟨by decide, by decide⟩ ?_
        exact r_iret d_X12_multiple_38 rfl rfl (Nat.le_refl 0) (Nat.le_refl 0) ⟨_, rfl, rfl, rfl, h⟩
theorem v_X12_multiple_56 {l : Launch} {d N : Nat} {Λ : Lay} {P : Int → Mem → Prop} {σ : Mem} {x1 x2 x3 x4 t : Int} (o_t : Ob N Λ t 21 36) (h0d : 1 ≤ d)
    (h : (CI l mX12_many (d - 1) [(2, t), (0, x1)] N Λ σ (fun v2 σ1 => ((v2 ≤ x4 → P x3 σ1) ∧ (¬ (v2 ≤ x4) → (CI l mX12_key (d - 1) [(2, t), (0, x1), (0, x4)] N Λ σ1 (fun v4 σ3 => (CI l mX12_key (d - 1) [(2, t), (0, x2), (0, x4)] N Λ σ3 (fun v6 σ5 => ((¬ v4 = v6 → P 0 σ5) ∧ (v4 = v6 → (CI l mX12_number (d - 1) [(2, t), (0, x1), (0, x4)] N Λ σ5 (fun v8 σ7 => (CI l mX12_number (d - 1) [(2, t), (0, x2), (0, x4)] N Λ σ7 (fun v10 σ9 => (((cmpL v8 (mulL x3 v10)) = 0 → (∀ y11, y11 = addI x4 1 → WI l mX12_multiple d P 56 [(2, t), (0, x1), (0, x2), (0, x3), (0, y11)] [] N Λ σ9)) ∧ (¬ ((cmpL v8 (mulL x3 v10)) = 0) → P 0 σ9))))))))))))))))) :
    WI l mX12_multiple d P 56 [(2, t), (0, x1), (0, x2), (0, x3), (0, x4)] [] N Λ σ := by
  refine r_iload (x := x4) d_X12_multiple_56 rfl ?_
  refine r_aload_n (x := t) d_X12_multiple_58 rfl o_t.1 ?_
  refine r_iload_n (x := x1) d_X12_multiple_59 rfl ?_
  refine r_callV (Y2 := mX12_many) (d := d - 1) (mc := 0) (ms := 0) (c := t) (As := [(0, x1)]) (S := [(0, x4)]) d_X12_multiple_60 ok_mX12_many ml_X12_113 rfl (rmc h0d (by decide)) rm00 (Nat.le_of_ble_eq_true rfl) rfl kX12 o_t.1 o_t.2.1 o_t.2.2.1 o_t.2.2.2 (MC.mono h (fun r N1 Λ1 σ1 hq => ?_))
  obtain ⟨v2, rfl, rfl, rfl, h⟩ := hq
  refine r_ic_ge (tgt := 114) d_X12_multiple_63 rfl (fun hc => ?_) (fun hc => ?_)
  · have h := h.1 hc
    refine r_iload_n (x := x3) d_X12_multiple_114 rfl ?_
    exact r_iret d_X12_multiple_115 rfl rfl (Nat.le_refl 0) (Nat.le_refl 0) ⟨_, rfl, rfl, rfl, h⟩
  · have h := h.2 hc
    refine r_aload_n (x := t) d_X12_multiple_66 rfl o_t.1 ?_
    refine r_iload_n (x := x1) d_X12_multiple_67 rfl ?_
    refine r_iload (x := x4) d_X12_multiple_68 rfl ?_
    refine r_callV (Y2 := mX12_key) (d := d - 1) (mc := 0) (ms := 0) (c := t) (As := [(0, x1), (0, x4)]) (S := []) d_X12_multiple_70 ok_mX12_key ml_X12_117 rfl (rmc h0d (by decide)) rm00 (Nat.le_of_ble_eq_true rfl) rfl kX12 o_t.1 o_t.2.1 o_t.2.2.1 o_t.2.2.2 (MC.mono h (fun r N1 Λ1 σ3 hq => ?_))
    obtain ⟨v4, rfl, rfl, rfl, h⟩ := hq
    refine r_aload_n (x := t) d_X12_multiple_73 rfl o_t.1 ?_
    refine r_iload_n (x := x2) d_X12_multiple_74 rfl ?_
    refine r_iload (x := x4) d_X12_multiple_75 rfl ?_
    refine r_callV (Y2 := mX12_key) (d := d - 1) (mc := 0) (ms := 0) (c := t) (As := [(0, x2), (0, x4)]) (S := [(0, v4)]) d_X12_multiple_77 ok_mX12_key ml_X12_117 rfl (rmc h0d (by decide)) rm00 (Nat.le_of_ble_eq_true rfl) rfl kX12 o_t.1 o_t.2.1 o_t.2.2.1 o_t.2.2.2 (MC.mono h (fun r N1 Λ1 σ5 hq => ?_))
    obtain ⟨v6, rfl, rfl, rfl, h⟩ := hq
    refine r_ic_ne (tgt := 106) d_X12_multiple_80 rfl (fun hc => ?_) (fun hc => ?_)
    · have h := h.1 hc
      refine r_iconst (x := 0) d_X12_multiple_106 ⟨by decide, by decide⟩ ?_
      exact r_iret d_X12_multiple_107 rfl rfl (Nat.le_refl 0) (Nat.le_refl 0) ⟨_, rfl, rfl, rfl, h⟩
    · have h := h.2 hc
      refine r_aload_n (x := t) d_X12_multiple_83 rfl o_t.1 ?_
      refine r_iload_n (x := x1) d_X12_multiple_84 rfl ?_
      refine r_iload (x := x4) d_X12_multiple_85 rfl ?_
      refine r_callV (Y2 := mX12_number) (d := d - 1) (mc := 0) (ms := 0) (c := t) (As := [(0, x1), (0, x4)]) (S := []) d_X12_multiple_87 ok_mX12_number ml_X12_132 rfl (rmc h0d (by decide)) rm00 (Nat.le_of_ble_eq_true rfl) rfl kX12 o_t.1 o_t.2.1 o_t.2.2.1 o_t.2.2.2 (MC.mono h (fun r N1 Λ1 σ7 hq => ?_))
      obtain ⟨v8, rfl, rfl, rfl, h⟩ := hq
      refine r_i2l d_X12_multiple_90 ?_
      refine r_iload_n (x := x3) d_X12_multiple_91 rfl ?_
      refine r_i2l d_X12_multiple_92 ?_
      refine r_aload_n (x := t) d_X12_multiple_93 rfl o_t.1 ?_
      refine r_iload_n (x := x2) d_X12_multiple_94 rfl ?_
      refine r_iload (x := x4) d_X12_multiple_95 rfl ?_
      refine r_callV (Y2 := mX12_number) (d := d - 1) (mc := 0) (ms := 0) (c := t) (As := [(0, x2), (0, x4)]) (S := [(1, x3), (1, v8)]) d_X12_multiple_97 ok_mX12_number ml_X12_132 rfl (rmc h0d (by decide)) rm00 (Nat.le_of_ble_eq_true rfl) rfl kX12 o_t.1 o_t.2.1 o_t.2.2.1 o_t.2.2.2 (MC.mono h (fun r N1 Λ1 σ9 hq => ?_))
      obtain ⟨v10, rfl, rfl, rfl, h⟩ := hq
      refine r_i2l d_X12_multiple_100 ?_
      refine r_lmul d_X12_multiple_101 ?_
      refine r_lcmp d_X12_multiple_102 ?_
      refine r_if_eq (tgt := 108) d_X12_multiple_103 rfl (fun hc => ?_) (fun hc => ?_)
      · have h := h.1 hc
        refine x_iinc (x := x4) (L := [(2, t), (0, x1), (0, x2), (0, x3), (0, x4)]) d_X12_multiple_108 rfl (by decide) rfl (fun y11 ey11 => ?_)
        have h := h y11 ey11
        show WP _ _ _ _ _ _ _ _ [(2, t), (0, x1), (0, x2), (0, x3), (0, y11)] _ _ _ _
        refine r_goto (tgt := 56) d_X12_multiple_111 rfl ?_
        exact h
      · have h := h.2 hc
        refine r_iconst (x := 0) d_X12_multiple_106 ⟨by decide, by decide⟩ ?_
        exact r_iret d_X12_multiple_107 rfl rfl (Nat.le_refl 0) (Nat.le_refl 0) ⟨_, rfl, rfl, rfl, h⟩
theorem v_X12_isFound_0 {l : Launch} {d N : Nat} {Λ : Lay} {P : Int → Mem → Prop} {σ : Mem} {x1 x2 t t_found : Int} (o_t : Ob N Λ t 21 36) (f_t_found : (Λ t).2.2 35 = t_found) (h0d : 1 ≤ d)
    (h : ((¬ x1 = 6 → WI l mX12_isFound d P 70 [(2, t), (0, x1), (0, x2), (0, 0)] [] N Λ σ) ∧ (x1 = 6 → (CV l mX12_laysSix (d - 1) [(2, t), (0, 4)] N Λ σ (fun σ1 => (CI l mX12_multiple (d - 1) [(2, t), (0, 3), (0, 4)] N Λ σ1 (fun v3 σ2 => (Ix N Λ t_found 0 0 ∧ (∀ τ4, τ4 = st σ2 t_found 0 v3 → WI l mX12_isFound d P 25 [(2, t), (0, x1), (0, x2), (0, 0)] [] N Λ τ4))))))))) :
    WI l mX12_isFound d P 0 [(2, t), (0, x1), (0, x2), (3, 0)] [] N Λ σ := by
  refine r_iload_n (x := x1) d_X12_isFound_0 rfl ?_
  refine r_bipush (x := 6) d_X12_isFound_1 ⟨by decide, by decide⟩ (by decide) ?_
  refine r_ic_ne (tgt := 68) d_X12_isFound_3 rfl (fun hc => ?_) (fun hc => ?_)
  · have h := h.1 hc
    refine r_iconst (x := 0) d_X12_isFound_68 ⟨by decide, by decide⟩ ?_
    refine r_istore_n (L2 := [(2, t), (0, x1), (0, x2), (0, 0)]) d_X12_isFound_69 (by decide) rfl rfl ?_
    exact h
  · have h := h.2 hc
    refine r_aload_n (x := t) d_X12_isFound_6 rfl o_t.1 ?_
    refine r_iconst (x := 4) d_X12_isFound_7 ⟨by decide, by decide⟩ ?_
    refine r_callV (Y2 := mX12_laysSix) (d := d - 1) (mc := 0) (ms := 0) (c := t) (As := [(0, 4)]) (S := []) d_X12_isFound_8 ok_mX12_laysSix ml_X12_398 rfl (rmc h0d (by decide)) rm00 (Nat.le_of_ble_eq_true rfl) rfl kX12 o_t.1 o_t.2.1 o_t.2.2.1 o_t.2.2.2 (MC.mono h (fun r N1 Λ1 σ1 hq => ?_))
    obtain ⟨rfl, rfl, rfl, h⟩ := hq
    refine r_aload_n (x := t) d_X12_isFound_11 rfl o_t.1 ?_
    refine r_getf (j := 35) (t := 2) (x := t_found) d_X12_isFound_12 kX12 (by decide) fl_X12_83 o_t.1 o_t.2.1 o_t.2.2.1 o_t.2.2.2 rfl f_t_found ?_
    refine r_iconst (x := 0) d_X12_isFound_15 ⟨by decide, by decide⟩ ?_
    refine r_aload_n (x := t) d_X12_isFound_16 rfl o_t.1 ?_
    refine r_iconst (x := 3) d_X12_isFound_17 ⟨by decide, by decide⟩ ?_
    refine r_iconst (x := 4) d_X12_isFound_18 ⟨by decide, by decide⟩ ?_
    refine r_callV (Y2 := mX12_multiple) (d := d - 1) (mc := 0) (ms := 0) (c := t) (As := [(0, 3), (0, 4)]) (S := [(0, 0), (2, t_found)]) d_X12_isFound_19 ok_mX12_multiple ml_X12_401 rfl (rmc h0d (by decide)) rm00 (Nat.le_of_ble_eq_true rfl) rfl kX12 o_t.1 o_t.2.1 o_t.2.2.1 o_t.2.2.2 (MC.mono h (fun r N1 Λ1 σ2 hq => ?_))
    obtain ⟨v3, rfl, rfl, rfl, h⟩ := hq
    refine x_iast d_X12_isFound_22 h.1 ?_
    have h := h.2
    refine r_nmM (fun τ4 eτ4 => ?_)
    have h := h τ4 eτ4
    refine r_iconst (x := 0) d_X12_isFound_23 ⟨by decide, by decide⟩ ?_
    refine r_istore_n (L2 := [(2, t), (0, x1), (0, x2), (0, 0)]) d_X12_isFound_24 (by decide) rfl rfl ?_
    exact h
theorem v_X12_isFound_25 {l : Launch} {d N : Nat} {Λ : Lay} {P : Int → Mem → Prop} {σ : Mem} {x1 x2 x3 t t_found t_taken : Int} (o_t : Ob N Λ t 21 36) (f_t_found : (Λ t).2.2 35 = t_found) (f_t_taken : (Λ t).2.2 34 = t_taken)
    (h : ((6 ≤ x3 → (Ix N Λ t_found 0 0 ∧ (((σ t_found 0) = 0 → P 0 σ) ∧ (¬ ((σ t_found 0) = 0) → P 1 σ)))) ∧ (¬ (6 ≤ x3) → (Ix N Λ t_taken 0 x3 ∧ (Ix N Λ t_found 0 (addI x3 1) ∧ (∀ τ1, τ1 = st σ t_found (addI x3 1) (addI (σ t_taken x3) 1) → (∀ y2, y2 = addI x3 1 → WI l mX12_isFound d P 25 [(2, t), (0, x1), (0, x2), (0, y2)] [] N Λ τ1))))))) :
    WI l mX12_isFound d P 25 [(2, t), (0, x1), (0, x2), (0, x3)] [] N Λ σ := by
  refine r_iload_n (x := x3) d_X12_isFound_25 rfl ?_
  refine r_bipush (x := 6) d_X12_isFound_26 ⟨by decide, by decide⟩ (by decide) ?_
  refine r_ic_ge (tgt := 53) d_X12_isFound_28 rfl (fun hc => ?_) (fun hc => ?_)
  · have h := h.1 hc
    refine r_aload_n (x := t) d_X12_isFound_53 rfl o_t.1 ?_
    refine r_getf (j := 35) (t := 2) (x := t_found) d_X12_isFound_54 kX12 (by decide) fl_X12_83 o_t.1 o_t.2.1 o_t.2.2.1 o_t.2.2.2 rfl f_t_found ?_
    refine r_iconst (x := 0) d_X12_isFound_57 ⟨by decide, by decide⟩ ?_
    refine x_iald d_X12_isFound_58 h.1 ?_
    have h := h.2
    refine r_if_eq (tgt := 66) d_X12_isFound_59 rfl (fun hc => ?_) (fun hc => ?_)
    · have h := h.1 hc
      refine r_iconst (x := 0) d_X12_isFound_66 ⟨by decide, by decide⟩ ?_
      exact r_iret d_X12_isFound_67 rfl (by decide) (Nat.le_refl 0) (Nat.le_refl 0) ⟨_, rfl, rfl, rfl, h⟩
    · have h := h.2 hc
      refine r_iconst (x := 1) d_X12_isFound_62 ⟨by decide, by decide⟩ ?_
      refine r_goto (tgt := 67) d_X12_isFound_63 rfl ?_
      exact r_iret d_X12_isFound_67 rfl (by decide) (Nat.le_refl 0) (Nat.le_refl 0) ⟨_, rfl, rfl, rfl, h⟩
  · have h := h.2 hc
    refine r_aload_n (x := t) d_X12_isFound_31 rfl o_t.1 ?_
    refine r_getf (j := 35) (t := 2) (x := t_found) d_X12_isFound_32 kX12 (by decide) fl_X12_83 o_t.1 o_t.2.1 o_t.2.2.1 o_t.2.2.2 rfl f_t_found ?_
    refine r_iload_n (x := x3) d_X12_isFound_35 rfl ?_
    refine r_iconst (x := 1) d_X12_isFound_36 ⟨by decide, by decide⟩ ?_
    refine r_iadd d_X12_isFound_37 ?_
    refine r_aload_n (x := t) d_X12_isFound_38 rfl o_t.1 ?_
    refine r_getf (j := 34) (t := 2) (x := t_taken) d_X12_isFound_39 kX12 (by decide) fl_X12_80 o_t.1 o_t.2.1 o_t.2.2.1 o_t.2.2.2 rfl f_t_taken ?_
    refine r_iload_n (x := x3) d_X12_isFound_42 rfl ?_
    refine x_iald d_X12_isFound_43 h.1 ?_
    have h := h.2
    refine r_iconst (x := 1) d_X12_isFound_44 ⟨by decide, by decide⟩ ?_
    refine r_iadd d_X12_isFound_45 ?_
    refine x_iast d_X12_isFound_46 h.1 ?_
    have h := h.2
    refine r_nmM (fun τ1 eτ1 => ?_)
    have h := h τ1 eτ1
    refine x_iinc (x := x3) (L := [(2, t), (0, x1), (0, x2), (0, x3)]) d_X12_isFound_47 rfl (by decide) rfl (fun y2 ey2 => ?_)
    have h := h y2 ey2
    show WP _ _ _ _ _ _ _ _ [(2, t), (0, x1), (0, x2), (0, y2)] _ _ _ _
    refine r_goto (tgt := 25) d_X12_isFound_50 rfl ?_
    exact h
theorem v_X12_isFound_70 {l : Launch} {d N : Nat} {Λ : Lay} {P : Int → Mem → Prop} {σ : Mem} {x1 x2 x3 t t_six t_taken : Int} (o_t : Ob N Λ t 21 36) (f_t_taken : (Λ t).2.2 34 = t_taken) (f_t_six : (Λ t).2.2 33 = t_six) (h0d : 1 ≤ d)
    (h : ((6 ≤ x3 → P 0 σ) ∧ (¬ (6 ≤ x3) → ((¬ (andI (shrI x2 x3) 1) = 1 → (Ix N Λ t_six 0 x3 ∧ (Ix N Λ t_taken 0 x1 ∧ (∀ τ1, τ1 = st σ t_taken x1 (σ t_six x3) → (CI l mX12_isFound (d - 1) [(2, t), (0, (addI x1 1)), (0, (orI x2 (shlI 1 x3)))] N Λ τ1 (fun v3 σ2 => ((v3 = 0 → (∀ y4, y4 = addI x3 1 → WI l mX12_isFound d P 70 [(2, t), (0, x1), (0, x2), (0, y4)] [] N Λ σ2)) ∧ (¬ (v3 = 0) → P 1 σ2)))))))) ∧ ((andI (shrI x2 x3) 1) = 1 → (∀ y5, y5 = addI x3 1 → WI l mX12_isFound d P 70 [(2, t), (0, x1), (0, x2), (0, y5)] [] N Λ σ)))))) :
    WI l mX12_isFound d P 70 [(2, t), (0, x1), (0, x2), (0, x3)] [] N Λ σ := by
  refine r_iload_n (x := x3) d_X12_isFound_70 rfl ?_
  refine r_bipush (x := 6) d_X12_isFound_71 ⟨by decide, by decide⟩ (by decide) ?_
  refine r_ic_ge (tgt := 123) d_X12_isFound_73 rfl (fun hc => ?_) (fun hc => ?_)
  · have h := h.1 hc
    refine r_iconst (x := 0) d_X12_isFound_123 ⟨by decide, by decide⟩ ?_
    exact r_iret d_X12_isFound_124 rfl (by decide) (Nat.le_refl 0) (Nat.le_refl 0) ⟨_, rfl, rfl, rfl, h⟩
  · have h := h.2 hc
    refine r_iload_n (x := x2) d_X12_isFound_76 rfl ?_
    refine r_iload_n (x := x3) d_X12_isFound_77 rfl ?_
    refine r_ishr d_X12_isFound_78 ?_
    refine r_iconst (x := 1) d_X12_isFound_79 ⟨by decide, by decide⟩ ?_
    refine r_iand d_X12_isFound_80 ?_
    refine r_iconst (x := 1) d_X12_isFound_81 ⟨by decide, by decide⟩ ?_
    refine r_ic_ne (tgt := 88) d_X12_isFound_82 rfl (fun hc => ?_) (fun hc => ?_)
    · have h := h.1 hc
      refine r_aload_n (x := t) d_X12_isFound_88 rfl o_t.1 ?_
      refine r_getf (j := 34) (t := 2) (x := t_taken) d_X12_isFound_89 kX12 (by decide) fl_X12_80 o_t.1 o_t.2.1 o_t.2.2.1 o_t.2.2.2 rfl f_t_taken ?_
      refine r_iload_n (x := x1) d_X12_isFound_92 rfl ?_
      refine r_aload_n (x := t) d_X12_isFound_93 rfl o_t.1 ?_
      refine r_getf (j := 33) (t := 2) (x := t_six) d_X12_isFound_94 kX12 (by decide) fl_X12_77 o_t.1 o_t.2.1 o_t.2.2.1 o_t.2.2.2 rfl f_t_six ?_
      refine r_iload_n (x := x3) d_X12_isFound_97 rfl ?_
      refine x_iald d_X12_isFound_98 h.1 ?_
      have h := h.2
      refine x_iast d_X12_isFound_99 h.1 ?_
      have h := h.2
      refine r_nmM (fun τ1 eτ1 => ?_)
      have h := h τ1 eτ1
      refine r_aload_n (x := t) d_X12_isFound_100 rfl o_t.1 ?_
      refine r_iload_n (x := x1) d_X12_isFound_101 rfl ?_
      refine r_iconst (x := 1) d_X12_isFound_102 ⟨by decide, by decide⟩ ?_
      refine r_iadd d_X12_isFound_103 ?_
      refine r_iload_n (x := x2) d_X12_isFound_104 rfl ?_
      refine r_iconst (x := 1) d_X12_isFound_105 ⟨by decide, by decide⟩ ?_
      refine r_iload_n (x := x3) d_X12_isFound_106 rfl ?_
      refine r_ishl d_X12_isFound_107 ?_
      refine r_ior d_X12_isFound_108 ?_
      refine r_callV (Y2 := mX12_isFound) (d := d - 1) (mc := 0) (ms := 0) (c := t) (As := [(0, (addI x1 1)), (0, (orI x2 (shlI 1 x3)))]) (S := []) d_X12_isFound_109 ok_mX12_isFound ml_X12_404 rfl (rmc h0d (by decide)) rm00 (Nat.le_of_ble_eq_true rfl) rfl kX12 o_t.1 o_t.2.1 o_t.2.2.1 o_t.2.2.2 (MC.mono h (fun r N1 Λ1 σ2 hq => ?_))
      obtain ⟨v3, rfl, rfl, rfl, h⟩ := hq
      refine r_if_eq (tgt := 117) d_X12_isFound_112 rfl (fun hc => ?_) (fun hc => ?_)
      · have h := h.1 hc
        refine x_iinc (x := x3) (L := [(2, t), (0, x1), (0, x2), (0, x3)]) d_X12_isFound_117 rfl (by decide) rfl (fun y4 ey4 => ?_)
        have h := h y4 ey4
        show WP _ _ _ _ _ _ _ _ [(2, t), (0, x1), (0, x2), (0, y4)] _ _ _ _
        refine r_goto (tgt := 70) d_X12_isFound_120 rfl ?_
        exact h
      · have h := h.2 hc
        refine r_iconst (x := 1) d_X12_isFound_115 ⟨by decide, by decide⟩ ?_
        exact r_iret d_X12_isFound_116 rfl (by decide) (Nat.le_refl 0) (Nat.le_refl 0) ⟨_, rfl, rfl, rfl, h⟩
    · have h := h.2 hc
      refine r_goto (tgt := 117) d_X12_isFound_85 rfl ?_
      refine x_iinc (x := x3) (L := [(2, t), (0, x1), (0, x2), (0, x3)]) d_X12_isFound_117 rfl (by decide) rfl (fun y5 ey5 => ?_)
      have h := h y5 ey5
      show WP _ _ _ _ _ _ _ _ [(2, t), (0, x1), (0, x2), (0, y5)] _ _ _ _
      refine r_goto (tgt := 70) d_X12_isFound_120 rfl ?_
      exact h
theorem v_X12_factor_0 {l : Launch} {d N : Nat} {Λ : Lay} {P : Int → Mem → Prop} {σ : Mem} {x1 x2 t t_found : Int} (o_t : Ob N Λ t 21 36) (f_t_found : (Λ t).2.2 35 = t_found) (h0d : 1 ≤ d)
    (h : (∀ τ1, τ1 = st σ t 0 0 → (CI l mX12_isShelf (d - 1) [(0, x1)] N Λ τ1 (fun v3 σ2 => ((v3 = 0 → (CI l mX12_refused (d - 1) [(2, t), (0, (-2))] N Λ σ2 (fun v5 σ4 => P v5 σ4))) ∧ (¬ (v3 = 0) → (CI l mX12_within (d - 1) [(1, x2), (1, 0), (1, 6)] N Λ σ2 (fun v7 σ6 => ((¬ v7 = 0 → (CI l mX12_areSix (d - 1) [(2, t), (0, x1)] N Λ σ6 (fun v9 σ8 => ((¬ v9 = 0 → (CV l mX12_begins (d - 1) [(2, t)] N Λ σ8 (fun σ10 => (CI l mX12_straightInto (d - 1) [(2, t), (0, x1), (0, 3)] N Λ σ10 (fun v12 σ11 => ((v12 = 0 → (CI l mX12_isFound (d - 1) [(2, t), (0, 0), (0, 0)] N Λ σ11 (fun v14 σ13 => ((v14 = 0 → P 0 σ13) ∧ (¬ (v14 = 0) → (Ix N Λ t_found 0 x2 ∧ P (σ13 t_found x2) σ13)))))) ∧ (¬ (v12 = 0) → P v12 σ11))))))) ∧ (v9 = 0 → (CI l mX12_refused (d - 1) [(2, t), (0, 0)] N Λ σ8 (fun v16 σ15 => P v16 σ15))))))) ∧ (v7 = 0 → (CI l mX12_refused (d - 1) [(2, t), (0, (-2))] N Λ σ6 (fun v18 σ17 => P v18 σ17)))))))))))) :
    WI l mX12_factor d P 0 [(2, t), (0, x1), (0, x2), (3, 0)] [] N Λ σ := by
  refine r_aload_n (x := t) d_X12_factor_0 rfl o_t.1 ?_
  refine r_iconst (x := 0) d_X12_factor_1 ⟨by decide, by decide⟩ ?_
  refine r_putI (j := 0) d_X12_factor_2 kX12 (by decide) fl_X12_1 rfl o_t.1 o_t.2.1 o_t.2.2.1 o_t.2.2.2 rfl ?_
  refine r_nmM (fun τ1 eτ1 => ?_)
  have h := h τ1 eτ1
  refine r_iload_n (x := x1) d_X12_factor_5 rfl ?_
  refine r_callS (Y2 := mX12_isShelf) (d := d - 1) (mc := 0) (ms := 0) (As := [(0, x1)]) (S := []) d_X12_factor_6 ok_mX12_isShelf ml_X12_199 rfl (rmc h0d (by decide)) rm00 (Nat.le_of_ble_eq_true rfl) rfl (MC.mono h (fun r N1 Λ1 σ2 hq => ?_))
  obtain ⟨v3, rfl, rfl, rfl, h⟩ := hq
  refine r_if_eq (tgt := 24) d_X12_factor_9 rfl (fun hc => ?_) (fun hc => ?_)
  · have h := h.1 hc
    refine r_aload_n (x := t) d_X12_factor_24 rfl o_t.1 ?_
    refine r_bipush (x := (-2)) d_X12_factor_25 ⟨by decide, by decide⟩ (by decide) ?_
    refine r_callV (Y2 := mX12_refused) (d := d - 1) (mc := 0) (ms := 0) (c := t) (As := [(0, (-2))]) (S := []) d_X12_factor_27 ok_mX12_refused ml_X12_218 rfl (rmc h0d (by decide)) rm00 (Nat.le_of_ble_eq_true rfl) rfl kX12 o_t.1 o_t.2.1 o_t.2.2.1 o_t.2.2.2 (MC.mono h (fun r N1 Λ1 σ4 hq => ?_))
    obtain ⟨v5, rfl, rfl, rfl, h⟩ := hq
    exact r_iret d_X12_factor_30 rfl rfl (Nat.le_refl 0) (Nat.le_refl 0) ⟨_, rfl, rfl, rfl, h⟩
  · have h := h.2 hc
    refine r_iload_n (x := x2) d_X12_factor_12 rfl ?_
    refine r_i2l d_X12_factor_13 ?_
    refine r_lconst d_X12_factor_14 ?_
    skip
    refine r_ldc2 (x := 6) d_X12_factor_15 ck_X12_407 (by decide) ?_
    refine r_callS (Y2 := mX12_within) (d := d - 1) (mc := 0) (ms := 0) (As := [(1, x2), (1, 0), (1, 6)]) (S := []) d_X12_factor_18 ok_mX12_within ml_X12_91 rfl (rmc h0d (by decide)) rm00 (Nat.le_of_ble_eq_true rfl) rfl (MC.mono h (fun r N1 Λ1 σ6 hq => ?_))
    obtain ⟨v7, rfl, rfl, rfl, h⟩ := hq
    refine r_if_ne (tgt := 31) d_X12_factor_21 rfl (fun hc => ?_) (fun hc => ?_)
    · have h := h.1 hc
      refine r_aload_n (x := t) d_X12_factor_31 rfl o_t.1 ?_
      refine r_iload_n (x := x1) d_X12_factor_32 rfl ?_
      refine r_callV (Y2 := mX12_areSix) (d := d - 1) (mc := 0) (ms := 0) (c := t) (As := [(0, x1)]) (S := []) d_X12_factor_33 ok_mX12_areSix ml_X12_409 rfl (rmc h0d (by decide)) rm00 (Nat.le_of_ble_eq_true rfl) rfl kX12 o_t.1 o_t.2.1 o_t.2.2.1 o_t.2.2.2 (MC.mono h (fun r N1 Λ1 σ8 hq => ?_))
      obtain ⟨v9, rfl, rfl, rfl, h⟩ := hq
      refine r_if_ne (tgt := 45) d_X12_factor_36 rfl (fun hc => ?_) (fun hc => ?_)
      · have h := h.1 hc
        refine r_aload_n (x := t) d_X12_factor_45 rfl o_t.1 ?_
        refine r_callV (Y2 := mX12_begins) (d := d - 1) (mc := 0) (ms := 0) (c := t) (As := []) (S := []) d_X12_factor_46 ok_mX12_begins ml_X12_202 rfl (rmc h0d (by decide)) rm00 (Nat.le_of_ble_eq_true rfl) rfl kX12 o_t.1 o_t.2.1 o_t.2.2.1 o_t.2.2.2 (MC.mono h (fun r N1 Λ1 σ10 hq => ?_))
        obtain ⟨rfl, rfl, rfl, h⟩ := hq
        refine r_aload_n (x := t) d_X12_factor_49 rfl o_t.1 ?_
        refine r_iload_n (x := x1) d_X12_factor_50 rfl ?_
        refine r_iconst (x := 3) d_X12_factor_51 ⟨by decide, by decide⟩ ?_
        refine r_callV (Y2 := mX12_straightInto) (d := d - 1) (mc := 0) (ms := 0) (c := t) (As := [(0, x1), (0, 3)]) (S := []) d_X12_factor_52 ok_mX12_straightInto ml_X12_349 rfl (rmc h0d (by decide)) rm00 (Nat.le_of_ble_eq_true rfl) rfl kX12 o_t.1 o_t.2.1 o_t.2.2.1 o_t.2.2.2 (MC.mono h (fun r N1 Λ1 σ11 hq => ?_))
        obtain ⟨v12, rfl, rfl, rfl, h⟩ := hq
        refine r_istore_n (L2 := [(2, t), (0, x1), (0, x2), (0, v12)]) d_X12_factor_55 (by decide) rfl rfl ?_
        refine r_iload_n (x := v12) d_X12_factor_56 rfl ?_
        refine r_if_eq (tgt := 62) d_X12_factor_57 rfl (fun hc => ?_) (fun hc => ?_)
        · have h := h.1 hc
          refine r_aload_n (x := t) d_X12_factor_62 rfl o_t.1 ?_
          refine r_iconst (x := 0) d_X12_factor_63 ⟨by decide, by decide⟩ ?_
          refine r_iconst (x := 0) d_X12_factor_64 ⟨by decide, by decide⟩ ?_
          refine r_callV (Y2 := mX12_isFound) (d := d - 1) (mc := 0) (ms := 0) (c := t) (As := [(0, 0), (0, 0)]) (S := []) d_X12_factor_65 ok_mX12_isFound ml_X12_404 rfl (rmc h0d (by decide)) rm00 (Nat.le_of_ble_eq_true rfl) rfl kX12 o_t.1 o_t.2.1 o_t.2.2.1 o_t.2.2.2 (MC.mono h (fun r N1 Λ1 σ13 hq => ?_))
          obtain ⟨v14, rfl, rfl, rfl, h⟩ := hq
          refine r_if_eq (tgt := 80) d_X12_factor_68 rfl (fun hc => ?_) (fun hc => ?_)
          · have h := h.1 hc
            refine r_iconst (x := 0) d_X12_factor_80 ⟨by decide, by decide⟩ ?_
            exact r_iret d_X12_factor_81 rfl rfl (Nat.le_refl 0) (Nat.le_refl 0) ⟨_, rfl, rfl, rfl, h⟩
          · have h := h.2 hc
            refine r_aload_n (x := t) d_X12_factor_71 rfl o_t.1 ?_
            refine r_getf (j := 35) (t := 2) (x := t_found) d_X12_factor_72 kX12 (by decide) fl_X12_83 o_t.1 o_t.2.1 o_t.2.2.1 o_t.2.2.2 rfl f_t_found ?_
            refine r_iload_n (x := x2) d_X12_factor_75 rfl ?_
            refine x_iald d_X12_factor_76 h.1 ?_
            have h := h.2
            refine r_goto (tgt := 81) d_X12_factor_77 rfl ?_
            exact r_iret d_X12_factor_81 rfl rfl (Nat.le_refl 0) (Nat.le_refl 0) ⟨_, rfl, rfl, rfl, h⟩
        · have h := h.2 hc
          refine r_iload_n (x := v12) d_X12_factor_60 rfl ?_
          exact r_iret d_X12_factor_61 rfl rfl (Nat.le_refl 0) (Nat.le_refl 0) ⟨_, rfl, rfl, rfl, h⟩
      · have h := h.2 hc
        refine r_aload_n (x := t) d_X12_factor_39 rfl o_t.1 ?_
        refine r_iconst (x := 0) d_X12_factor_40 ⟨by decide, by decide⟩ ?_
        refine r_callV (Y2 := mX12_refused) (d := d - 1) (mc := 0) (ms := 0) (c := t) (As := [(0, 0)]) (S := []) d_X12_factor_41 ok_mX12_refused ml_X12_218 rfl (rmc h0d (by decide)) rm00 (Nat.le_of_ble_eq_true rfl) rfl kX12 o_t.1 o_t.2.1 o_t.2.2.1 o_t.2.2.2 (MC.mono h (fun r N1 Λ1 σ15 hq => ?_))
        obtain ⟨v16, rfl, rfl, rfl, h⟩ := hq
        exact r_iret d_X12_factor_44 rfl rfl (Nat.le_refl 0) (Nat.le_refl 0) ⟨_, rfl, rfl, rfl, h⟩
    · have h := h.2 hc
      refine r_aload_n (x := t) d_X12_factor_24 rfl o_t.1 ?_
      refine r_bipush (x := (-2)) d_X12_factor_25 ⟨by decide, by decide⟩ (by decide) ?_
      refine r_callV (Y2 := mX12_refused) (d := d - 1) (mc := 0) (ms := 0) (c := t) (As := [(0, (-2))]) (S := []) d_X12_factor_27 ok_mX12_refused ml_X12_218 rfl (rmc h0d (by decide)) rm00 (Nat.le_of_ble_eq_true rfl) rfl kX12 o_t.1 o_t.2.1 o_t.2.2.1 o_t.2.2.2 (MC.mono h (fun r N1 Λ1 σ17 hq => ?_))
      obtain ⟨v18, rfl, rfl, rfl, h⟩ := hq
      exact r_iret d_X12_factor_30 rfl rfl (Nat.le_refl 0) (Nat.le_refl 0) ⟨_, rfl, rfl, rfl, h⟩
theorem v_X12_isFinal_0 {l : Launch} {d N : Nat} {Λ : Lay} {P : Int → Mem → Prop} {σ : Mem} {x1 t : Int} (o_t : Ob N Λ t 21 36) (h0d : 1 ≤ d)
    (h : (∀ τ1, τ1 = st σ t 0 0 → (CI l mX12_isShelf (d - 1) [(0, x1)] N Λ τ1 (fun v3 σ2 => ((¬ v3 = 0 → (CV l mX12_begins (d - 1) [(2, t)] N Λ σ2 (fun σ4 => (CI l mX12_straightInto (d - 1) [(2, t), (0, x1), (0, 3)] N Λ σ4 (fun v6 σ5 => ((v6 = 0 → (CI l mX12_many (d - 1) [(2, t), (0, 3)] N Λ σ5 (fun v8 σ7 => ((v8 ≤ 0 → (CV l mX12_reduces (d - 1) [(2, t), (0, x1)] N Λ σ7 (fun σ9 => (CI l mX12_many (d - 1) [(2, t), (0, 0)] N Λ σ9 (fun v11 σ10 => ((v11 = 1 → (CI l mX12_key (d - 1) [(2, t), (0, 0), (0, 0)] N Λ σ10 (fun v13 σ12 => (CI l mX12_degreeOf (d - 1) [(0, v13)] N Λ σ12 (fun v15 σ14 => ((v15 ≤ 0 → WI l mX12_isFinal d P 86 [(2, t), (0, x1), (0, v6), (0, v13), (0, 0), (0, 0)] [] N Λ σ14) ∧ (¬ (v15 ≤ 0) → WI l mX12_isFinal d P 86 [(2, t), (0, x1), (0, v6), (0, v13), (0, 1), (0, 0)] [] N Λ σ14))))))) ∧ (¬ (v11 = 1) → P 0 σ10))))))) ∧ (¬ (v8 ≤ 0) → P 0 σ7))))) ∧ (¬ (v6 = 0) → P v6 σ5))))))) ∧ (v3 = 0 → (CI l mX12_refused (d - 1) [(2, t), (0, (-2))] N Λ σ2 (fun v17 σ16 => P v17 σ16)))))))) :
    WI l mX12_isFinal d P 0 [(2, t), (0, x1), (3, 0), (3, 0), (3, 0), (3, 0)] [] N Λ σ := by
  refine r_aload_n (x := t) d_X12_isFinal_0 rfl o_t.1 ?_
  refine r_iconst (x := 0) d_X12_isFinal_1 ⟨by decide, by decide⟩ ?_
  refine r_putI (j := 0) d_X12_isFinal_2 kX12 (by decide) fl_X12_1 rfl o_t.1 o_t.2.1 o_t.2.2.1 o_t.2.2.2 rfl ?_
  refine r_nmM (fun τ1 eτ1 => ?_)
  have h := h τ1 eτ1
  refine r_iload_n (x := x1) d_X12_isFinal_5 rfl ?_
  refine r_callS (Y2 := mX12_isShelf) (d := d - 1) (mc := 0) (ms := 0) (As := [(0, x1)]) (S := []) d_X12_isFinal_6 ok_mX12_isShelf ml_X12_199 rfl (rmc h0d (by decide)) rm00 (Nat.le_of_ble_eq_true rfl) rfl (MC.mono h (fun r N1 Λ1 σ2 hq => ?_))
  obtain ⟨v3, rfl, rfl, rfl, h⟩ := hq
  refine r_if_ne (tgt := 19) d_X12_isFinal_9 rfl (fun hc => ?_) (fun hc => ?_)
  · have h := h.1 hc
    refine r_aload_n (x := t) d_X12_isFinal_19 rfl o_t.1 ?_
    refine r_callV (Y2 := mX12_begins) (d := d - 1) (mc := 0) (ms := 0) (c := t) (As := []) (S := []) d_X12_isFinal_20 ok_mX12_begins ml_X12_202 rfl (rmc h0d (by decide)) rm00 (Nat.le_of_ble_eq_true rfl) rfl kX12 o_t.1 o_t.2.1 o_t.2.2.1 o_t.2.2.2 (MC.mono h (fun r N1 Λ1 σ4 hq => ?_))
    obtain ⟨rfl, rfl, rfl, h⟩ := hq
    refine r_aload_n (x := t) d_X12_isFinal_23 rfl o_t.1 ?_
    refine r_iload_n (x := x1) d_X12_isFinal_24 rfl ?_
    refine r_iconst (x := 3) d_X12_isFinal_25 ⟨by decide, by decide⟩ ?_
    refine r_callV (Y2 := mX12_straightInto) (d := d - 1) (mc := 0) (ms := 0) (c := t) (As := [(0, x1), (0, 3)]) (S := []) d_X12_isFinal_26 ok_mX12_straightInto ml_X12_349 rfl (rmc h0d (by decide)) rm00 (Nat.le_of_ble_eq_true rfl) rfl kX12 o_t.1 o_t.2.1 o_t.2.2.1 o_t.2.2.2 (MC.mono h (fun r N1 Λ1 σ5 hq => ?_))
    obtain ⟨v6, rfl, rfl, rfl, h⟩ := hq
    refine r_istore_n (L2 := [(2, t), (0, x1), (0, v6), (3, 0), (3, 0), (3, 0)]) d_X12_isFinal_29 (by decide) rfl rfl ?_
    refine r_iload_n (x := v6) d_X12_isFinal_30 rfl ?_
    refine r_if_eq (tgt := 36) d_X12_isFinal_31 rfl (fun hc => ?_) (fun hc => ?_)
    · have h := h.1 hc
      refine r_aload_n (x := t) d_X12_isFinal_36 rfl o_t.1 ?_
      refine r_iconst (x := 3) d_X12_isFinal_37 ⟨by decide, by decide⟩ ?_
      refine r_callV (Y2 := mX12_many) (d := d - 1) (mc := 0) (ms := 0) (c := t) (As := [(0, 3)]) (S := []) d_X12_isFinal_38 ok_mX12_many ml_X12_113 rfl (rmc h0d (by decide)) rm00 (Nat.le_of_ble_eq_true rfl) rfl kX12 o_t.1 o_t.2.1 o_t.2.2.1 o_t.2.2.2 (MC.mono h (fun r N1 Λ1 σ7 hq => ?_))
      obtain ⟨v8, rfl, rfl, rfl, h⟩ := hq
      refine r_if_le (tgt := 46) d_X12_isFinal_41 rfl (fun hc => ?_) (fun hc => ?_)
      · have h := h.1 hc
        refine r_aload_n (x := t) d_X12_isFinal_46 rfl o_t.1 ?_
        refine r_iload_n (x := x1) d_X12_isFinal_47 rfl ?_
        refine r_callV (Y2 := mX12_reduces) (d := d - 1) (mc := 0) (ms := 0) (c := t) (As := [(0, x1)]) (S := []) d_X12_isFinal_48 ok_mX12_reduces ml_X12_247 rfl (rmc h0d (by decide)) rm00 (Nat.le_of_ble_eq_true rfl) rfl kX12 o_t.1 o_t.2.1 o_t.2.2.1 o_t.2.2.2 (MC.mono h (fun r N1 Λ1 σ9 hq => ?_))
        obtain ⟨rfl, rfl, rfl, h⟩ := hq
        refine r_aload_n (x := t) d_X12_isFinal_51 rfl o_t.1 ?_
        refine r_iconst (x := 0) d_X12_isFinal_52 ⟨by decide, by decide⟩ ?_
        refine r_callV (Y2 := mX12_many) (d := d - 1) (mc := 0) (ms := 0) (c := t) (As := [(0, 0)]) (S := []) d_X12_isFinal_53 ok_mX12_many ml_X12_113 rfl (rmc h0d (by decide)) rm00 (Nat.le_of_ble_eq_true rfl) rfl kX12 o_t.1 o_t.2.1 o_t.2.2.1 o_t.2.2.2 (MC.mono h (fun r N1 Λ1 σ10 hq => ?_))
        obtain ⟨v11, rfl, rfl, rfl, h⟩ := hq
        refine r_iconst (x := 1) d_X12_isFinal_56 ⟨by decide, by decide⟩ ?_
        refine r_ic_eq (tgt := 62) d_X12_isFinal_57 rfl (fun hc => ?_) (fun hc => ?_)
        · have h := h.1 hc
          refine r_aload_n (x := t) d_X12_isFinal_62 rfl o_t.1 ?_
          refine r_iconst (x := 0) d_X12_isFinal_63 ⟨by decide, by decide⟩ ?_
          refine r_iconst (x := 0) d_X12_isFinal_64 ⟨by decide, by decide⟩ ?_
          refine r_callV (Y2 := mX12_key) (d := d - 1) (mc := 0) (ms := 0) (c := t) (As := [(0, 0), (0, 0)]) (S := []) d_X12_isFinal_65 ok_mX12_key ml_X12_117 rfl (rmc h0d (by decide)) rm00 (Nat.le_of_ble_eq_true rfl) rfl kX12 o_t.1 o_t.2.1 o_t.2.2.1 o_t.2.2.2 (MC.mono h (fun r N1 Λ1 σ12 hq => ?_))
          obtain ⟨v13, rfl, rfl, rfl, h⟩ := hq
          refine r_istore_n (L2 := [(2, t), (0, x1), (0, v6), (0, v13), (3, 0), (3, 0)]) d_X12_isFinal_68 (by decide) rfl rfl ?_
          refine r_iload_n (x := v13) d_X12_isFinal_69 rfl ?_
          refine r_callS (Y2 := mX12_degreeOf) (d := d - 1) (mc := 0) (ms := 0) (As := [(0, v13)]) (S := []) d_X12_isFinal_70 ok_mX12_degreeOf ml_X12_138 rfl (rmc h0d (by decide)) rm00 (Nat.le_of_ble_eq_true rfl) rfl (MC.mono h (fun r N1 Λ1 σ14 hq => ?_))
          obtain ⟨v15, rfl, rfl, rfl, h⟩ := hq
          refine r_if_le (tgt := 80) d_X12_isFinal_73 rfl (fun hc => ?_) (fun hc => ?_)
          · have h := h.1 hc
            refine r_iconst (x := 0) d_X12_isFinal_80 ⟨by decide, by decide⟩ ?_
            refine r_istore (L2 := [(2, t), (0, x1), (0, v6), (0, v13), (0, 0), (3, 0)]) d_X12_isFinal_81 (by decide) rfl rfl ?_
            refine r_iconst (x := 0) d_X12_isFinal_83 ⟨by decide, by decide⟩ ?_
            refine r_istore (L2 := [(2, t), (0, x1), (0, v6), (0, v13), (0, 0), (0, 0)]) d_X12_isFinal_84 (by decide) rfl rfl ?_
            exact h
          · have h := h.2 hc
            refine r_iconst (x := 1) d_X12_isFinal_76 ⟨by decide, by decide⟩ ?_
            refine r_goto (tgt := 81) d_X12_isFinal_77 rfl ?_
            refine r_istore (L2 := [(2, t), (0, x1), (0, v6), (0, v13), (0, 1), (3, 0)]) d_X12_isFinal_81 (by decide) rfl rfl ?_
            refine r_iconst (x := 0) d_X12_isFinal_83 ⟨by decide, by decide⟩ ?_
            refine r_istore (L2 := [(2, t), (0, x1), (0, v6), (0, v13), (0, 1), (0, 0)]) d_X12_isFinal_84 (by decide) rfl rfl ?_
            exact h
        · have h := h.2 hc
          refine r_iconst (x := 0) d_X12_isFinal_60 ⟨by decide, by decide⟩ ?_
          exact r_iret d_X12_isFinal_61 rfl rfl (Nat.le_refl 0) (Nat.le_refl 0) ⟨_, rfl, rfl, rfl, h⟩
      · have h := h.2 hc
        refine r_iconst (x := 0) d_X12_isFinal_44 ⟨by decide, by decide⟩ ?_
        exact r_iret d_X12_isFinal_45 rfl rfl (Nat.le_refl 0) (Nat.le_refl 0) ⟨_, rfl, rfl, rfl, h⟩
    · have h := h.2 hc
      refine r_iload_n (x := v6) d_X12_isFinal_34 rfl ?_
      exact r_iret d_X12_isFinal_35 rfl rfl (Nat.le_refl 0) (Nat.le_refl 0) ⟨_, rfl, rfl, rfl, h⟩
  · have h := h.2 hc
    refine r_aload_n (x := t) d_X12_isFinal_12 rfl o_t.1 ?_
    refine r_bipush (x := (-2)) d_X12_isFinal_13 ⟨by decide, by decide⟩ (by decide) ?_
    refine r_callV (Y2 := mX12_refused) (d := d - 1) (mc := 0) (ms := 0) (c := t) (As := [(0, (-2))]) (S := []) d_X12_isFinal_15 ok_mX12_refused ml_X12_218 rfl (rmc h0d (by decide)) rm00 (Nat.le_of_ble_eq_true rfl) rfl kX12 o_t.1 o_t.2.1 o_t.2.2.1 o_t.2.2.2 (MC.mono h (fun r N1 Λ1 σ16 hq => ?_))
    obtain ⟨v17, rfl, rfl, rfl, h⟩ := hq
    exact r_iret d_X12_isFinal_18 rfl rfl (Nat.le_refl 0) (Nat.le_refl 0) ⟨_, rfl, rfl, rfl, h⟩
theorem v_X12_isFinal_86 {l : Launch} {d N : Nat} {Λ : Lay} {P : Int → Mem → Prop} {σ : Mem} {x1 x2 x3 x4 x5 t : Int} (o_t : Ob N Λ t 21 36) (h0d : 1 ≤ d)
    (h : (CI l mX12_degreeOf (d - 1) [(0, x3)] N Λ σ (fun v2 σ1 => ((v2 ≤ x5 → ((x4 = 0 → P 0 σ1) ∧ (¬ (x4 = 0) → P 1 σ1))) ∧ (¬ (v2 ≤ x5) → ((x4 = 0 → (∀ y3, y3 = addI x5 1 → WI l mX12_isFinal d P 86 [(2, t), (0, x1), (0, x2), (0, x3), (0, 0), (0, y3)] [] N Λ σ1)) ∧ (¬ (x4 = 0) → (CI l mX12_rankIn (d - 1) [(0, x3), (0, x5)] N Λ σ1 (fun v5 σ4 => (CI l mX12_factOf (d - 1) [(2, t), (0, v5)] N Λ σ4 (fun v7 σ6 => ((¬ v7 = 1 → (∀ y8, y8 = addI x5 1 → WI l mX12_isFinal d P 86 [(2, t), (0, x1), (0, x2), (0, x3), (0, 0), (0, y8)] [] N Λ σ6)) ∧ (v7 = 1 → (∀ y9, y9 = addI x5 1 → WI l mX12_isFinal d P 86 [(2, t), (0, x1), (0, x2), (0, x3), (0, 1), (0, y9)] [] N Λ σ6)))))))))))))) :
    WI l mX12_isFinal d P 86 [(2, t), (0, x1), (0, x2), (0, x3), (0, x4), (0, x5)] [] N Λ σ := by
  refine r_iload (x := x5) d_X12_isFinal_86 rfl ?_
  refine r_iload_n (x := x3) d_X12_isFinal_88 rfl ?_
  refine r_callS (Y2 := mX12_degreeOf) (d := d - 1) (mc := 0) (ms := 0) (As := [(0, x3)]) (S := [(0, x5)]) d_X12_isFinal_89 ok_mX12_degreeOf ml_X12_138 rfl (rmc h0d (by decide)) rm00 (Nat.le_of_ble_eq_true rfl) rfl (MC.mono h (fun r N1 Λ1 σ1 hq => ?_))
  obtain ⟨v2, rfl, rfl, rfl, h⟩ := hq
  refine r_ic_ge (tgt := 127) d_X12_isFinal_92 rfl (fun hc => ?_) (fun hc => ?_)
  · have h := h.1 hc
    refine r_iload (x := x4) d_X12_isFinal_127 rfl ?_
    refine r_if_eq (tgt := 136) d_X12_isFinal_129 rfl (fun hc => ?_) (fun hc => ?_)
    · have h := h.1 hc
      refine r_iconst (x := 0) d_X12_isFinal_136 ⟨by decide, by decide⟩ ?_
      exact r_iret d_X12_isFinal_137 rfl rfl (Nat.le_refl 0) (Nat.le_refl 0) ⟨_, rfl, rfl, rfl, h⟩
    · have h := h.2 hc
      refine r_iconst (x := 1) d_X12_isFinal_132 ⟨by decide, by decide⟩ ?_
      refine r_goto (tgt := 137) d_X12_isFinal_133 rfl ?_
      exact r_iret d_X12_isFinal_137 rfl rfl (Nat.le_refl 0) (Nat.le_refl 0) ⟨_, rfl, rfl, rfl, h⟩
  · have h := h.2 hc
    refine r_iload (x := x4) d_X12_isFinal_95 rfl ?_
    refine r_if_eq (tgt := 118) d_X12_isFinal_97 rfl (fun hc => ?_) (fun hc => ?_)
    · have h := h.1 hc
      refine r_iconst (x := 0) d_X12_isFinal_118 ⟨by decide, by decide⟩ ?_
      refine r_istore (L2 := [(2, t), (0, x1), (0, x2), (0, x3), (0, 0), (0, x5)]) d_X12_isFinal_119 (by decide) rfl rfl ?_
      refine x_iinc (x := x5) (L := [(2, t), (0, x1), (0, x2), (0, x3), (0, 0), (0, x5)]) d_X12_isFinal_121 rfl (by decide) rfl (fun y3 ey3 => ?_)
      have h := h y3 ey3
      show WP _ _ _ _ _ _ _ _ [(2, t), (0, x1), (0, x2), (0, x3), (0, 0), (0, y3)] _ _ _ _
      refine r_goto (tgt := 86) d_X12_isFinal_124 rfl ?_
      exact h
    · have h := h.2 hc
      refine r_aload_n (x := t) d_X12_isFinal_100 rfl o_t.1 ?_
      refine r_iload_n (x := x3) d_X12_isFinal_101 rfl ?_
      refine r_iload (x := x5) d_X12_isFinal_102 rfl ?_
      refine r_callS (Y2 := mX12_rankIn) (d := d - 1) (mc := 0) (ms := 0) (As := [(0, x3), (0, x5)]) (S := [(2, t)]) d_X12_isFinal_104 ok_mX12_rankIn ml_X12_135 rfl (rmc h0d (by decide)) rm00 (Nat.le_of_ble_eq_true rfl) rfl (MC.mono h (fun r N1 Λ1 σ4 hq => ?_))
      obtain ⟨v5, rfl, rfl, rfl, h⟩ := hq
      refine r_callV (Y2 := mX12_factOf) (d := d - 1) (mc := 0) (ms := 0) (c := t) (As := [(0, v5)]) (S := []) d_X12_isFinal_107 ok_mX12_factOf ml_X12_244 rfl (rmc h0d (by decide)) rm00 (Nat.le_of_ble_eq_true rfl) rfl kX12 o_t.1 o_t.2.1 o_t.2.2.1 o_t.2.2.2 (MC.mono h (fun r N1 Λ1 σ6 hq => ?_))
      obtain ⟨v7, rfl, rfl, rfl, h⟩ := hq
      refine r_iconst (x := 1) d_X12_isFinal_110 ⟨by decide, by decide⟩ ?_
      refine r_ic_ne (tgt := 118) d_X12_isFinal_111 rfl (fun hc => ?_) (fun hc => ?_)
      · have h := h.1 hc
        refine r_iconst (x := 0) d_X12_isFinal_118 ⟨by decide, by decide⟩ ?_
        refine r_istore (L2 := [(2, t), (0, x1), (0, x2), (0, x3), (0, 0), (0, x5)]) d_X12_isFinal_119 (by decide) rfl rfl ?_
        refine x_iinc (x := x5) (L := [(2, t), (0, x1), (0, x2), (0, x3), (0, 0), (0, x5)]) d_X12_isFinal_121 rfl (by decide) rfl (fun y8 ey8 => ?_)
        have h := h y8 ey8
        show WP _ _ _ _ _ _ _ _ [(2, t), (0, x1), (0, x2), (0, x3), (0, 0), (0, y8)] _ _ _ _
        refine r_goto (tgt := 86) d_X12_isFinal_124 rfl ?_
        exact h
      · have h := h.2 hc
        refine r_iconst (x := 1) d_X12_isFinal_114 ⟨by decide, by decide⟩ ?_
        refine r_goto (tgt := 119) d_X12_isFinal_115 rfl ?_
        refine r_istore (L2 := [(2, t), (0, x1), (0, x2), (0, x3), (0, 1), (0, x5)]) d_X12_isFinal_119 (by decide) rfl rfl ?_
        refine x_iinc (x := x5) (L := [(2, t), (0, x1), (0, x2), (0, x3), (0, 1), (0, x5)]) d_X12_isFinal_121 rfl (by decide) rfl (fun y9 ey9 => ?_)
        have h := h y9 ey9
        show WP _ _ _ _ _ _ _ _ [(2, t), (0, x1), (0, x2), (0, x3), (0, 1), (0, y9)] _ _ _ _
        refine r_goto (tgt := 86) d_X12_isFinal_124 rfl ?_
        exact h
theorem v_X12_known_0 {l : Launch} {d N : Nat} {Λ : Lay} {P : Int → Mem → Prop} {σ : Mem} {x1 x2 x3 t t_rankOf : Int} (o_t : Ob N Λ t 21 36) (f_t_rankOf : (Λ t).2.2 1 = t_rankOf) (h0d : 1 ≤ d)
    (h : (∀ τ1, τ1 = st σ t 0 0 → (CI l mX12_isLetter (d - 1) [(0, x1)] N Λ τ1 (fun v3 σ2 => ((v3 = 0 → P (-2) σ2) ∧ (¬ (v3 = 0) → (CI l mX12_isLetter (d - 1) [(0, x2)] N Λ σ2 (fun v5 σ4 => ((v5 = 0 → P (-2) σ4) ∧ (¬ (v5 = 0) → (CI l mX12_isLetter (d - 1) [(0, x3)] N Λ σ4 (fun v7 σ6 => ((¬ v7 = 0 → (Ix N Λ t_rankOf 0 (addI (addI (mulI 100 x1) (mulI 10 x2)) x3) ∧ (CI l mX12_sizeOf (d - 1) [(0, (σ6 t_rankOf (addI (addI (mulI 100 x1) (mulI 10 x2)) x3)))] N Λ σ6 (fun v9 σ8 => ((¬ v9 = 0 → (CI l mX12_factOf (d - 1) [(2, t), (0, v9)] N Λ σ8 (fun v11 σ10 => P v11 σ10))) ∧ (v9 = 0 → P (-3) σ8)))))) ∧ (v7 = 0 → P (-2) σ6)))))))))))))) :
    WI l mX12_known d P 0 [(2, t), (0, x1), (0, x2), (0, x3), (3, 0)] [] N Λ σ := by
  refine r_aload_n (x := t) d_X12_known_0 rfl o_t.1 ?_
  refine r_iconst (x := 0) d_X12_known_1 ⟨by decide, by decide⟩ ?_
  refine r_putI (j := 0) d_X12_known_2 kX12 (by decide) fl_X12_1 rfl o_t.1 o_t.2.1 o_t.2.2.1 o_t.2.2.2 rfl ?_
  refine r_nmM (fun τ1 eτ1 => ?_)
  have h := h τ1 eτ1
  refine r_iload_n (x := x1) d_X12_known_5 rfl ?_
  refine r_callS (Y2 := mX12_isLetter) (d := d - 1) (mc := 0) (ms := 0) (As := [(0, x1)]) (S := []) d_X12_known_6 ok_mX12_isLetter ml_X12_208 rfl (rmc h0d (by decide)) rm00 (Nat.le_of_ble_eq_true rfl) rfl (MC.mono h (fun r N1 Λ1 σ2 hq => ?_))
  obtain ⟨v3, rfl, rfl, rfl, h⟩ := hq
  refine r_if_eq (tgt := 26) d_X12_known_9 rfl (fun hc => ?_) (fun hc => ?_)
  · have h := h.1 hc
    refine r_bipush (x := (-2)) d_X12_known_26 ⟨by decide, by decide⟩ (by decide) ?_
    exact r_iret d_X12_known_28 rfl rfl (Nat.le_refl 0) (Nat.le_refl 0) ⟨_, rfl, rfl, rfl, h⟩
  · have h := h.2 hc
    refine r_iload_n (x := x2) d_X12_known_12 rfl ?_
    refine r_callS (Y2 := mX12_isLetter) (d := d - 1) (mc := 0) (ms := 0) (As := [(0, x2)]) (S := []) d_X12_known_13 ok_mX12_isLetter ml_X12_208 rfl (rmc h0d (by decide)) rm00 (Nat.le_of_ble_eq_true rfl) rfl (MC.mono h (fun r N1 Λ1 σ4 hq => ?_))
    obtain ⟨v5, rfl, rfl, rfl, h⟩ := hq
    refine r_if_eq (tgt := 26) d_X12_known_16 rfl (fun hc => ?_) (fun hc => ?_)
    · have h := h.1 hc
      refine r_bipush (x := (-2)) d_X12_known_26 ⟨by decide, by decide⟩ (by decide) ?_
      exact r_iret d_X12_known_28 rfl rfl (Nat.le_refl 0) (Nat.le_refl 0) ⟨_, rfl, rfl, rfl, h⟩
    · have h := h.2 hc
      refine r_iload_n (x := x3) d_X12_known_19 rfl ?_
      refine r_callS (Y2 := mX12_isLetter) (d := d - 1) (mc := 0) (ms := 0) (As := [(0, x3)]) (S := []) d_X12_known_20 ok_mX12_isLetter ml_X12_208 rfl (rmc h0d (by decide)) rm00 (Nat.le_of_ble_eq_true rfl) rfl (MC.mono h (fun r N1 Λ1 σ6 hq => ?_))
      obtain ⟨v7, rfl, rfl, rfl, h⟩ := hq
      refine r_if_ne (tgt := 29) d_X12_known_23 rfl (fun hc => ?_) (fun hc => ?_)
      · have h := h.1 hc
        refine r_aload_n (x := t) d_X12_known_29 rfl o_t.1 ?_
        refine r_getf (j := 1) (t := 2) (x := t_rankOf) d_X12_known_30 kX12 (by decide) fl_X12_13 o_t.1 o_t.2.1 o_t.2.2.1 o_t.2.2.2 rfl f_t_rankOf ?_
        refine r_bipush (x := 100) d_X12_known_33 ⟨by decide, by decide⟩ (by decide) ?_
        refine r_iload_n (x := x1) d_X12_known_35 rfl ?_
        refine r_imul d_X12_known_36 ?_
        refine r_bipush (x := 10) d_X12_known_37 ⟨by decide, by decide⟩ (by decide) ?_
        refine r_iload_n (x := x2) d_X12_known_39 rfl ?_
        refine r_imul d_X12_known_40 ?_
        refine r_iadd d_X12_known_41 ?_
        refine r_iload_n (x := x3) d_X12_known_42 rfl ?_
        refine r_iadd d_X12_known_43 ?_
        refine x_iald d_X12_known_44 h.1 ?_
        have h := h.2
        refine r_callS (Y2 := mX12_sizeOf) (d := d - 1) (mc := 0) (ms := 0) (As := [(0, (σ6 t_rankOf (addI (addI (mulI 100 x1) (mulI 10 x2)) x3)))]) (S := []) d_X12_known_45 ok_mX12_sizeOf ml_X12_168 rfl (rmc h0d (by decide)) rm00 (Nat.le_of_ble_eq_true rfl) rfl (MC.mono h (fun r N1 Λ1 σ8 hq => ?_))
        obtain ⟨v9, rfl, rfl, rfl, h⟩ := hq
        refine r_istore (L2 := [(2, t), (0, x1), (0, x2), (0, x3), (0, v9)]) d_X12_known_48 (by decide) rfl rfl ?_
        refine r_iload (x := v9) d_X12_known_50 rfl ?_
        refine r_if_ne (tgt := 60) d_X12_known_52 rfl (fun hc => ?_) (fun hc => ?_)
        · have h := h.1 hc
          refine r_aload_n (x := t) d_X12_known_60 rfl o_t.1 ?_
          refine r_iload (x := v9) d_X12_known_61 rfl ?_
          refine r_callV (Y2 := mX12_factOf) (d := d - 1) (mc := 0) (ms := 0) (c := t) (As := [(0, v9)]) (S := []) d_X12_known_63 ok_mX12_factOf ml_X12_244 rfl (rmc h0d (by decide)) rm00 (Nat.le_of_ble_eq_true rfl) rfl kX12 o_t.1 o_t.2.1 o_t.2.2.1 o_t.2.2.2 (MC.mono h (fun r N1 Λ1 σ10 hq => ?_))
          obtain ⟨v11, rfl, rfl, rfl, h⟩ := hq
          exact r_iret d_X12_known_66 rfl rfl (Nat.le_refl 0) (Nat.le_refl 0) ⟨_, rfl, rfl, rfl, h⟩
        · have h := h.2 hc
          refine r_bipush (x := (-3)) d_X12_known_55 ⟨by decide, by decide⟩ (by decide) ?_
          refine r_goto (tgt := 66) d_X12_known_57 rfl ?_
          exact r_iret d_X12_known_66 rfl rfl (Nat.le_refl 0) (Nat.le_refl 0) ⟨_, rfl, rfl, rfl, h⟩
      · have h := h.2 hc
        refine r_bipush (x := (-2)) d_X12_known_26 ⟨by decide, by decide⟩ (by decide) ?_
        exact r_iret d_X12_known_28 rfl rfl (Nat.le_refl 0) (Nat.le_refl 0) ⟨_, rfl, rfl, rfl, h⟩
theorem v_X12_at_0 {l : Launch} {d N : Nat} {Λ : Lay} {P : Int → Mem → Prop} {σ : Mem} {x1 x2 t t_state : Int} (o_t : Ob N Λ t 21 36) (f_t_state : (Λ t).2.2 3 = t_state) (h0d : 1 ≤ d)
    (h : (∀ τ1, τ1 = st σ t 0 0 → (CI l mX12_isLetter (d - 1) [(0, x1)] N Λ τ1 (fun v3 σ2 => ((v3 = 0 → P (-100) σ2) ∧ (¬ (v3 = 0) → (CI l mX12_within (d - 1) [(1, x2), (1, 0), (1, 2)] N Λ σ2 (fun v5 σ4 => ((v5 = 0 → P (-100) σ4) ∧ (¬ (v5 = 0) → (Ix N Λ t_state 0 (addI (addI 966 (mulI 3 x1)) x2) ∧ P (σ4 t_state (addI (addI 966 (mulI 3 x1)) x2)) σ4))))))))))) :
    WI l mX12_at d P 0 [(2, t), (0, x1), (0, x2)] [] N Λ σ := by
  refine r_aload_n (x := t) d_X12_at_0 rfl o_t.1 ?_
  refine r_iconst (x := 0) d_X12_at_1 ⟨by decide, by decide⟩ ?_
  refine r_putI (j := 0) d_X12_at_2 kX12 (by decide) fl_X12_1 rfl o_t.1 o_t.2.1 o_t.2.2.1 o_t.2.2.2 rfl ?_
  refine r_nmM (fun τ1 eτ1 => ?_)
  have h := h τ1 eτ1
  refine r_iload_n (x := x1) d_X12_at_5 rfl ?_
  refine r_callS (Y2 := mX12_isLetter) (d := d - 1) (mc := 0) (ms := 0) (As := [(0, x1)]) (S := []) d_X12_at_6 ok_mX12_isLetter ml_X12_208 rfl (rmc h0d (by decide)) rm00 (Nat.le_of_ble_eq_true rfl) rfl (MC.mono h (fun r N1 Λ1 σ2 hq => ?_))
  obtain ⟨v3, rfl, rfl, rfl, h⟩ := hq
  refine r_if_eq (tgt := 41) d_X12_at_9 rfl (fun hc => ?_) (fun hc => ?_)
  · have h := h.1 hc
    refine r_bipush (x := (-100)) d_X12_at_41 ⟨by decide, by decide⟩ (by decide) ?_
    exact r_iret d_X12_at_43 rfl rfl (Nat.le_refl 0) (Nat.le_refl 0) ⟨_, rfl, rfl, rfl, h⟩
  · have h := h.2 hc
    refine r_iload_n (x := x2) d_X12_at_12 rfl ?_
    refine r_i2l d_X12_at_13 ?_
    refine r_lconst d_X12_at_14 ?_
    skip
    refine r_ldc2 (x := 2) d_X12_at_15 ck_X12_250 (by decide) ?_
    refine r_callS (Y2 := mX12_within) (d := d - 1) (mc := 0) (ms := 0) (As := [(1, x2), (1, 0), (1, 2)]) (S := []) d_X12_at_18 ok_mX12_within ml_X12_91 rfl (rmc h0d (by decide)) rm00 (Nat.le_of_ble_eq_true rfl) rfl (MC.mono h (fun r N1 Λ1 σ4 hq => ?_))
    obtain ⟨v5, rfl, rfl, rfl, h⟩ := hq
    refine r_if_eq (tgt := 41) d_X12_at_21 rfl (fun hc => ?_) (fun hc => ?_)
    · have h := h.1 hc
      refine r_bipush (x := (-100)) d_X12_at_41 ⟨by decide, by decide⟩ (by decide) ?_
      exact r_iret d_X12_at_43 rfl rfl (Nat.le_refl 0) (Nat.le_refl 0) ⟨_, rfl, rfl, rfl, h⟩
    · have h := h.2 hc
      refine r_aload_n (x := t) d_X12_at_24 rfl o_t.1 ?_
      refine r_getf (j := 3) (t := 2) (x := t_state) d_X12_at_25 kX12 (by decide) fl_X12_20 o_t.1 o_t.2.1 o_t.2.2.1 o_t.2.2.2 rfl f_t_state ?_
      refine r_sipush (x := 966) d_X12_at_28 ⟨by decide, by decide⟩ (by decide) ?_
      refine r_iconst (x := 3) d_X12_at_31 ⟨by decide, by decide⟩ ?_
      refine r_iload_n (x := x1) d_X12_at_32 rfl ?_
      refine r_imul d_X12_at_33 ?_
      refine r_iadd d_X12_at_34 ?_
      refine r_iload_n (x := x2) d_X12_at_35 rfl ?_
      refine r_iadd d_X12_at_36 ?_
      refine x_iald d_X12_at_37 h.1 ?_
      have h := h.2
      refine r_goto (tgt := 43) d_X12_at_38 rfl ?_
      exact r_iret d_X12_at_43 rfl rfl (Nat.le_refl 0) (Nat.le_refl 0) ⟨_, rfl, rfl, rfl, h⟩
theorem v_X12_worthOf_0 {l : Launch} {d N : Nat} {Λ : Lay} {P : Int → Mem → Prop} {σ : Mem} {x1 x2 x3 t t_state : Int} (o_t : Ob N Λ t 21 36) (f_t_state : (Λ t).2.2 3 = t_state)
    (h : (∀ y1, y1 = (addI 966 (mulI 3 x1)) → (∀ y2, y2 = (addI 966 (mulI 3 x2)) → (∀ y3, y3 = (addI 966 (mulI 3 x3)) → (Ix N Λ t_state 0 y1 ∧ (Ix N Λ t_state 0 (addI y2 1) ∧ (Ix N Λ t_state 0 (addI y3 2) ∧ (Ix N Λ t_state 0 (addI y2 2) ∧ (Ix N Λ t_state 0 (addI y3 1) ∧ (Ix N Λ t_state 0 (addI y1 1) ∧ (Ix N Λ t_state 0 y2 ∧ (Ix N Λ t_state 0 (addI y3 2) ∧ (Ix N Λ t_state 0 (addI y2 2) ∧ (Ix N Λ t_state 0 y3 ∧ (Ix N Λ t_state 0 (addI y1 2) ∧ (Ix N Λ t_state 0 y2 ∧ (Ix N Λ t_state 0 (addI y3 1) ∧ (Ix N Λ t_state 0 (addI y2 1) ∧ (Ix N Λ t_state 0 y3 ∧ P (addI (subI (mulI (σ t_state y1) (subI (mulI (σ t_state (addI y2 1)) (σ t_state (addI y3 2))) (mulI (σ t_state (addI y2 2)) (σ t_state (addI y3 1))))) (mulI (σ t_state (addI y1 1)) (subI (mulI (σ t_state y2) (σ t_state (addI y3 2))) (mulI (σ t_state (addI y2 2)) (σ t_state y3))))) (mulI (σ t_state (addI y1 2)) (subI (mulI (σ t_state y2) (σ t_state (addI y3 1))) (mulI (σ t_state (addI y2 1)) (σ t_state y3))))) σ))))))))))))))))))) :
    WI l mX12_worthOf d P 0 [(2, t), (0, x1), (0, x2), (0, x3), (3, 0), (3, 0), (3, 0)] [] N Λ σ := by
  refine r_sipush (x := 966) d_X12_worthOf_0 ⟨by decide, by decide⟩ (by decide) ?_
  refine r_iconst (x := 3) d_X12_worthOf_3 ⟨by decide, by decide⟩ ?_
  refine r_iload_n (x := x1) d_X12_worthOf_4 rfl ?_
  refine r_imul d_X12_worthOf_5 ?_
  refine r_iadd d_X12_worthOf_6 ?_
  refine r_nm (fun y1 ey1 => ?_)
  have h := h y1 ey1
  refine r_istore (L2 := [(2, t), (0, x1), (0, x2), (0, x3), (0, y1), (3, 0), (3, 0)]) d_X12_worthOf_7 (by decide) rfl rfl ?_
  refine r_sipush (x := 966) d_X12_worthOf_9 ⟨by decide, by decide⟩ (by decide) ?_
  refine r_iconst (x := 3) d_X12_worthOf_12 ⟨by decide, by decide⟩ ?_
  refine r_iload_n (x := x2) d_X12_worthOf_13 rfl ?_
  refine r_imul d_X12_worthOf_14 ?_
  refine r_iadd d_X12_worthOf_15 ?_
  refine r_nm (fun y2 ey2 => ?_)
  have h := h y2 ey2
  refine r_istore (L2 := [(2, t), (0, x1), (0, x2), (0, x3), (0, y1), (0, y2), (3, 0)]) d_X12_worthOf_16 (by decide) rfl rfl ?_
  refine r_sipush (x := 966) d_X12_worthOf_18 ⟨by decide, by decide⟩ (by decide) ?_
  refine r_iconst (x := 3) d_X12_worthOf_21 ⟨by decide, by decide⟩ ?_
  refine r_iload_n (x := x3) d_X12_worthOf_22 rfl ?_
  refine r_imul d_X12_worthOf_23 ?_
  refine r_iadd d_X12_worthOf_24 ?_
  refine r_nm (fun y3 ey3 => ?_)
  have h := h y3 ey3
  refine r_istore (L2 := [(2, t), (0, x1), (0, x2), (0, x3), (0, y1), (0, y2), (0, y3)]) d_X12_worthOf_25 (by decide) rfl rfl ?_
  refine r_aload_n (x := t) d_X12_worthOf_27 rfl o_t.1 ?_
  refine r_getf (j := 3) (t := 2) (x := t_state) d_X12_worthOf_28 kX12 (by decide) fl_X12_20 o_t.1 o_t.2.1 o_t.2.2.1 o_t.2.2.2 rfl f_t_state ?_
  refine r_iload (x := y1) d_X12_worthOf_31 rfl ?_
  refine x_iald d_X12_worthOf_33 h.1 ?_
  have h := h.2
  refine r_aload_n (x := t) d_X12_worthOf_34 rfl o_t.1 ?_
  refine r_getf (j := 3) (t := 2) (x := t_state) d_X12_worthOf_35 kX12 (by decide) fl_X12_20 o_t.1 o_t.2.1 o_t.2.2.1 o_t.2.2.2 rfl f_t_state ?_
  refine r_iload (x := y2) d_X12_worthOf_38 rfl ?_
  refine r_iconst (x := 1) d_X12_worthOf_40 ⟨by decide, by decide⟩ ?_
  refine r_iadd d_X12_worthOf_41 ?_
  refine x_iald d_X12_worthOf_42 h.1 ?_
  have h := h.2
  refine r_aload_n (x := t) d_X12_worthOf_43 rfl o_t.1 ?_
  refine r_getf (j := 3) (t := 2) (x := t_state) d_X12_worthOf_44 kX12 (by decide) fl_X12_20 o_t.1 o_t.2.1 o_t.2.2.1 o_t.2.2.2 rfl f_t_state ?_
  refine r_iload (x := y3) d_X12_worthOf_47 rfl ?_
  refine r_iconst (x := 2) d_X12_worthOf_49 ⟨by decide, by decide⟩ ?_
  refine r_iadd d_X12_worthOf_50 ?_
  refine x_iald d_X12_worthOf_51 h.1 ?_
  have h := h.2
  refine r_imul d_X12_worthOf_52 ?_
  refine r_aload_n (x := t) d_X12_worthOf_53 rfl o_t.1 ?_
  refine r_getf (j := 3) (t := 2) (x := t_state) d_X12_worthOf_54 kX12 (by decide) fl_X12_20 o_t.1 o_t.2.1 o_t.2.2.1 o_t.2.2.2 rfl f_t_state ?_
  refine r_iload (x := y2) d_X12_worthOf_57 rfl ?_
  refine r_iconst (x := 2) d_X12_worthOf_59 ⟨by decide, by decide⟩ ?_
  refine r_iadd d_X12_worthOf_60 ?_
  refine x_iald d_X12_worthOf_61 h.1 ?_
  have h := h.2
  refine r_aload_n (x := t) d_X12_worthOf_62 rfl o_t.1 ?_
  refine r_getf (j := 3) (t := 2) (x := t_state) d_X12_worthOf_63 kX12 (by decide) fl_X12_20 o_t.1 o_t.2.1 o_t.2.2.1 o_t.2.2.2 rfl f_t_state ?_
  refine r_iload (x := y3) d_X12_worthOf_66 rfl ?_
  refine r_iconst (x := 1) d_X12_worthOf_68 ⟨by decide, by decide⟩ ?_
  refine r_iadd d_X12_worthOf_69 ?_
  refine x_iald d_X12_worthOf_70 h.1 ?_
  have h := h.2
  refine r_imul d_X12_worthOf_71 ?_
  refine r_isub d_X12_worthOf_72 ?_
  refine r_imul d_X12_worthOf_73 ?_
  refine r_aload_n (x := t) d_X12_worthOf_74 rfl o_t.1 ?_
  refine r_getf (j := 3) (t := 2) (x := t_state) d_X12_worthOf_75 kX12 (by decide) fl_X12_20 o_t.1 o_t.2.1 o_t.2.2.1 o_t.2.2.2 rfl f_t_state ?_
  refine r_iload (x := y1) d_X12_worthOf_78 rfl ?_
  refine r_iconst (x := 1) d_X12_worthOf_80 ⟨by decide, by decide⟩ ?_
  refine r_iadd d_X12_worthOf_81 ?_
  refine x_iald d_X12_worthOf_82 h.1 ?_
  have h := h.2
  refine r_aload_n (x := t) d_X12_worthOf_83 rfl o_t.1 ?_
  refine r_getf (j := 3) (t := 2) (x := t_state) d_X12_worthOf_84 kX12 (by decide) fl_X12_20 o_t.1 o_t.2.1 o_t.2.2.1 o_t.2.2.2 rfl f_t_state ?_
  refine r_iload (x := y2) d_X12_worthOf_87 rfl ?_
  refine x_iald d_X12_worthOf_89 h.1 ?_
  have h := h.2
  refine r_aload_n (x := t) d_X12_worthOf_90 rfl o_t.1 ?_
  refine r_getf (j := 3) (t := 2) (x := t_state) d_X12_worthOf_91 kX12 (by decide) fl_X12_20 o_t.1 o_t.2.1 o_t.2.2.1 o_t.2.2.2 rfl f_t_state ?_
  refine r_iload (x := y3) d_X12_worthOf_94 rfl ?_
  refine r_iconst (x := 2) d_X12_worthOf_96 ⟨by decide, by decide⟩ ?_
  refine r_iadd d_X12_worthOf_97 ?_
  refine x_iald d_X12_worthOf_98 h.1 ?_
  have h := h.2
  refine r_imul d_X12_worthOf_99 ?_
  refine r_aload_n (x := t) d_X12_worthOf_100 rfl o_t.1 ?_
  refine r_getf (j := 3) (t := 2) (x := t_state) d_X12_worthOf_101 kX12 (by decide) fl_X12_20 o_t.1 o_t.2.1 o_t.2.2.1 o_t.2.2.2 rfl f_t_state ?_
  refine r_iload (x := y2) d_X12_worthOf_104 rfl ?_
  refine r_iconst (x := 2) d_X12_worthOf_106 ⟨by decide, by decide⟩ ?_
  refine r_iadd d_X12_worthOf_107 ?_
  refine x_iald d_X12_worthOf_108 h.1 ?_
  have h := h.2
  refine r_aload_n (x := t) d_X12_worthOf_109 rfl o_t.1 ?_
  refine r_getf (j := 3) (t := 2) (x := t_state) d_X12_worthOf_110 kX12 (by decide) fl_X12_20 o_t.1 o_t.2.1 o_t.2.2.1 o_t.2.2.2 rfl f_t_state ?_
  refine r_iload (x := y3) d_X12_worthOf_113 rfl ?_
  refine x_iald d_X12_worthOf_115 h.1 ?_
  have h := h.2
  refine r_imul d_X12_worthOf_116 ?_
  refine r_isub d_X12_worthOf_117 ?_
  refine r_imul d_X12_worthOf_118 ?_
  refine r_isub d_X12_worthOf_119 ?_
  refine r_aload_n (x := t) d_X12_worthOf_120 rfl o_t.1 ?_
  refine r_getf (j := 3) (t := 2) (x := t_state) d_X12_worthOf_121 kX12 (by decide) fl_X12_20 o_t.1 o_t.2.1 o_t.2.2.1 o_t.2.2.2 rfl f_t_state ?_
  refine r_iload (x := y1) d_X12_worthOf_124 rfl ?_
  refine r_iconst (x := 2) d_X12_worthOf_126 ⟨by decide, by decide⟩ ?_
  refine r_iadd d_X12_worthOf_127 ?_
  refine x_iald d_X12_worthOf_128 h.1 ?_
  have h := h.2
  refine r_aload_n (x := t) d_X12_worthOf_129 rfl o_t.1 ?_
  refine r_getf (j := 3) (t := 2) (x := t_state) d_X12_worthOf_130 kX12 (by decide) fl_X12_20 o_t.1 o_t.2.1 o_t.2.2.1 o_t.2.2.2 rfl f_t_state ?_
  refine r_iload (x := y2) d_X12_worthOf_133 rfl ?_
  refine x_iald d_X12_worthOf_135 h.1 ?_
  have h := h.2
  refine r_aload_n (x := t) d_X12_worthOf_136 rfl o_t.1 ?_
  refine r_getf (j := 3) (t := 2) (x := t_state) d_X12_worthOf_137 kX12 (by decide) fl_X12_20 o_t.1 o_t.2.1 o_t.2.2.1 o_t.2.2.2 rfl f_t_state ?_
  refine r_iload (x := y3) d_X12_worthOf_140 rfl ?_
  refine r_iconst (x := 1) d_X12_worthOf_142 ⟨by decide, by decide⟩ ?_
  refine r_iadd d_X12_worthOf_143 ?_
  refine x_iald d_X12_worthOf_144 h.1 ?_
  have h := h.2
  refine r_imul d_X12_worthOf_145 ?_
  refine r_aload_n (x := t) d_X12_worthOf_146 rfl o_t.1 ?_
  refine r_getf (j := 3) (t := 2) (x := t_state) d_X12_worthOf_147 kX12 (by decide) fl_X12_20 o_t.1 o_t.2.1 o_t.2.2.1 o_t.2.2.2 rfl f_t_state ?_
  refine r_iload (x := y2) d_X12_worthOf_150 rfl ?_
  refine r_iconst (x := 1) d_X12_worthOf_152 ⟨by decide, by decide⟩ ?_
  refine r_iadd d_X12_worthOf_153 ?_
  refine x_iald d_X12_worthOf_154 h.1 ?_
  have h := h.2
  refine r_aload_n (x := t) d_X12_worthOf_155 rfl o_t.1 ?_
  refine r_getf (j := 3) (t := 2) (x := t_state) d_X12_worthOf_156 kX12 (by decide) fl_X12_20 o_t.1 o_t.2.1 o_t.2.2.1 o_t.2.2.2 rfl f_t_state ?_
  refine r_iload (x := y3) d_X12_worthOf_159 rfl ?_
  refine x_iald d_X12_worthOf_161 h.1 ?_
  have h := h.2
  refine r_imul d_X12_worthOf_162 ?_
  refine r_isub d_X12_worthOf_163 ?_
  refine r_imul d_X12_worthOf_164 ?_
  refine r_iadd d_X12_worthOf_165 ?_
  exact r_iret d_X12_worthOf_166 rfl rfl (Nat.le_refl 0) (Nat.le_refl 0) ⟨_, rfl, rfl, rfl, h⟩
theorem v_X12_worth_0 {l : Launch} {d N : Nat} {Λ : Lay} {P : Int → Mem → Prop} {σ : Mem} {x1 x2 x3 t : Int} (o_t : Ob N Λ t 21 36) (h0d : 1 ≤ d)
    (h : (∀ τ1, τ1 = st σ t 0 0 → (CI l mX12_isLetter (d - 1) [(0, x1)] N Λ τ1 (fun v3 σ2 => ((v3 = 0 → P (-2147483648) σ2) ∧ (¬ (v3 = 0) → (CI l mX12_isLetter (d - 1) [(0, x2)] N Λ σ2 (fun v5 σ4 => ((v5 = 0 → P (-2147483648) σ4) ∧ (¬ (v5 = 0) → (CI l mX12_isLetter (d - 1) [(0, x3)] N Λ σ4 (fun v7 σ6 => ((v7 = 0 → P (-2147483648) σ6) ∧ (¬ (v7 = 0) → (CI l mX12_worthOf (d - 1) [(2, t), (0, x1), (0, x2), (0, x3)] N Λ σ6 (fun v9 σ8 => P v9 σ8)))))))))))))))) :
    WI l mX12_worth d P 0 [(2, t), (0, x1), (0, x2), (0, x3)] [] N Λ σ := by
  refine r_aload_n (x := t) d_X12_worth_0 rfl o_t.1 ?_
  refine r_iconst (x := 0) d_X12_worth_1 ⟨by decide, by decide⟩ ?_
  refine r_putI (j := 0) d_X12_worth_2 kX12 (by decide) fl_X12_1 rfl o_t.1 o_t.2.1 o_t.2.2.1 o_t.2.2.2 rfl ?_
  refine r_nmM (fun τ1 eτ1 => ?_)
  have h := h τ1 eτ1
  refine r_iload_n (x := x1) d_X12_worth_5 rfl ?_
  refine r_callS (Y2 := mX12_isLetter) (d := d - 1) (mc := 0) (ms := 0) (As := [(0, x1)]) (S := []) d_X12_worth_6 ok_mX12_isLetter ml_X12_208 rfl (rmc h0d (by decide)) rm00 (Nat.le_of_ble_eq_true rfl) rfl (MC.mono h (fun r N1 Λ1 σ2 hq => ?_))
  obtain ⟨v3, rfl, rfl, rfl, h⟩ := hq
  refine r_if_eq (tgt := 36) d_X12_worth_9 rfl (fun hc => ?_) (fun hc => ?_)
  · have h := h.1 hc
    refine r_ldcw (x := (-2147483648)) d_X12_worth_36 ck_X12_334 (by decide) ?_
    exact r_iret d_X12_worth_39 rfl rfl (Nat.le_refl 0) (Nat.le_refl 0) ⟨_, rfl, rfl, rfl, h⟩
  · have h := h.2 hc
    refine r_iload_n (x := x2) d_X12_worth_12 rfl ?_
    refine r_callS (Y2 := mX12_isLetter) (d := d - 1) (mc := 0) (ms := 0) (As := [(0, x2)]) (S := []) d_X12_worth_13 ok_mX12_isLetter ml_X12_208 rfl (rmc h0d (by decide)) rm00 (Nat.le_of_ble_eq_true rfl) rfl (MC.mono h (fun r N1 Λ1 σ4 hq => ?_))
    obtain ⟨v5, rfl, rfl, rfl, h⟩ := hq
    refine r_if_eq (tgt := 36) d_X12_worth_16 rfl (fun hc => ?_) (fun hc => ?_)
    · have h := h.1 hc
      refine r_ldcw (x := (-2147483648)) d_X12_worth_36 ck_X12_334 (by decide) ?_
      exact r_iret d_X12_worth_39 rfl rfl (Nat.le_refl 0) (Nat.le_refl 0) ⟨_, rfl, rfl, rfl, h⟩
    · have h := h.2 hc
      refine r_iload_n (x := x3) d_X12_worth_19 rfl ?_
      refine r_callS (Y2 := mX12_isLetter) (d := d - 1) (mc := 0) (ms := 0) (As := [(0, x3)]) (S := []) d_X12_worth_20 ok_mX12_isLetter ml_X12_208 rfl (rmc h0d (by decide)) rm00 (Nat.le_of_ble_eq_true rfl) rfl (MC.mono h (fun r N1 Λ1 σ6 hq => ?_))
      obtain ⟨v7, rfl, rfl, rfl, h⟩ := hq
      refine r_if_eq (tgt := 36) d_X12_worth_23 rfl (fun hc => ?_) (fun hc => ?_)
      · have h := h.1 hc
        refine r_ldcw (x := (-2147483648)) d_X12_worth_36 ck_X12_334 (by decide) ?_
        exact r_iret d_X12_worth_39 rfl rfl (Nat.le_refl 0) (Nat.le_refl 0) ⟨_, rfl, rfl, rfl, h⟩
      · have h := h.2 hc
        refine r_aload_n (x := t) d_X12_worth_26 rfl o_t.1 ?_
        refine r_iload_n (x := x1) d_X12_worth_27 rfl ?_
        refine r_iload_n (x := x2) d_X12_worth_28 rfl ?_
        refine r_iload_n (x := x3) d_X12_worth_29 rfl ?_
        refine r_callV (Y2 := mX12_worthOf) (d := d - 1) (mc := 0) (ms := 0) (c := t) (As := [(0, x1), (0, x2), (0, x3)]) (S := []) d_X12_worth_30 ok_mX12_worthOf ml_X12_412 rfl (rmc h0d (by decide)) rm00 (Nat.le_of_ble_eq_true rfl) rfl kX12 o_t.1 o_t.2.1 o_t.2.2.1 o_t.2.2.2 (MC.mono h (fun r N1 Λ1 σ8 hq => ?_))
        obtain ⟨v9, rfl, rfl, rfl, h⟩ := hq
        refine r_goto (tgt := 39) d_X12_worth_33 rfl ?_
        exact r_iret d_X12_worth_39 rfl rfl (Nat.le_refl 0) (Nat.le_refl 0) ⟨_, rfl, rfl, rfl, h⟩
theorem v_X12_worthOfRank_0 {l : Launch} {d N : Nat} {Λ : Lay} {P : Int → Mem → Prop} {σ : Mem} {x1 t t_letterOf : Int} (o_t : Ob N Λ t 21 36) (f_t_letterOf : (Λ t).2.2 2 = t_letterOf) (h0d : 1 ≤ d)
    (h : (Ix N Λ t_letterOf 0 (mulI 3 x1) ∧ (Ix N Λ t_letterOf 0 (addI (mulI 3 x1) 1) ∧ (Ix N Λ t_letterOf 0 (addI (mulI 3 x1) 2) ∧ (CI l mX12_worthOf (d - 1) [(2, t), (0, (σ t_letterOf (mulI 3 x1))), (0, (σ t_letterOf (addI (mulI 3 x1) 1))), (0, (σ t_letterOf (addI (mulI 3 x1) 2)))] N Λ σ (fun v2 σ1 => P v2 σ1)))))) :
    WI l mX12_worthOfRank d P 0 [(2, t), (0, x1)] [] N Λ σ := by
  refine r_aload_n (x := t) d_X12_worthOfRank_0 rfl o_t.1 ?_
  refine r_aload_n (x := t) d_X12_worthOfRank_1 rfl o_t.1 ?_
  refine r_getf (j := 2) (t := 2) (x := t_letterOf) d_X12_worthOfRank_2 kX12 (by decide) fl_X12_17 o_t.1 o_t.2.1 o_t.2.2.1 o_t.2.2.2 rfl f_t_letterOf ?_
  refine r_iconst (x := 3) d_X12_worthOfRank_5 ⟨by decide, by decide⟩ ?_
  refine r_iload_n (x := x1) d_X12_worthOfRank_6 rfl ?_
  refine r_imul d_X12_worthOfRank_7 ?_
  refine x_iald d_X12_worthOfRank_8 h.1 ?_
  have h := h.2
  refine r_aload_n (x := t) d_X12_worthOfRank_9 rfl o_t.1 ?_
  refine r_getf (j := 2) (t := 2) (x := t_letterOf) d_X12_worthOfRank_10 kX12 (by decide) fl_X12_17 o_t.1 o_t.2.1 o_t.2.2.1 o_t.2.2.2 rfl f_t_letterOf ?_
  refine r_iconst (x := 3) d_X12_worthOfRank_13 ⟨by decide, by decide⟩ ?_
  refine r_iload_n (x := x1) d_X12_worthOfRank_14 rfl ?_
  refine r_imul d_X12_worthOfRank_15 ?_
  refine r_iconst (x := 1) d_X12_worthOfRank_16 ⟨by decide, by decide⟩ ?_
  refine r_iadd d_X12_worthOfRank_17 ?_
  refine x_iald d_X12_worthOfRank_18 h.1 ?_
  have h := h.2
  refine r_aload_n (x := t) d_X12_worthOfRank_19 rfl o_t.1 ?_
  refine r_getf (j := 2) (t := 2) (x := t_letterOf) d_X12_worthOfRank_20 kX12 (by decide) fl_X12_17 o_t.1 o_t.2.1 o_t.2.2.1 o_t.2.2.2 rfl f_t_letterOf ?_
  refine r_iconst (x := 3) d_X12_worthOfRank_23 ⟨by decide, by decide⟩ ?_
  refine r_iload_n (x := x1) d_X12_worthOfRank_24 rfl ?_
  refine r_imul d_X12_worthOfRank_25 ?_
  refine r_iconst (x := 2) d_X12_worthOfRank_26 ⟨by decide, by decide⟩ ?_
  refine r_iadd d_X12_worthOfRank_27 ?_
  refine x_iald d_X12_worthOfRank_28 h.1 ?_
  have h := h.2
  refine r_callV (Y2 := mX12_worthOf) (d := d - 1) (mc := 0) (ms := 0) (c := t) (As := [(0, (σ t_letterOf (mulI 3 x1))), (0, (σ t_letterOf (addI (mulI 3 x1) 1))), (0, (σ t_letterOf (addI (mulI 3 x1) 2)))]) (S := []) d_X12_worthOfRank_29 ok_mX12_worthOf ml_X12_412 rfl (rmc h0d (by decide)) rm00 (Nat.le_of_ble_eq_true rfl) rfl kX12 o_t.1 o_t.2.1 o_t.2.2.1 o_t.2.2.2 (MC.mono h (fun r N1 Λ1 σ1 hq => ?_))
  obtain ⟨v2, rfl, rfl, rfl, h⟩ := hq
  exact r_iret d_X12_worthOfRank_32 rfl rfl (Nat.le_refl 0) (Nat.le_refl 0) ⟨_, rfl, rfl, rfl, h⟩
theorem v_X12_fits_0 {l : Launch} {d N : Nat} {Λ : Lay} {P : Int → Mem → Prop} {σ : Mem} {x0 x2 : Int}
    (h : (((cmpL x0 0) = 0 → P 1 σ) ∧ (¬ ((cmpL x0 0) = 0) → ((¬ (cmpL x2 0) = 0 → ((¬ (cmpL x0 (-9223372036854775808)) = 0 → (¬ x2 = 0 ∧ ((¬ (cmpL (divL (mulL x0 x2) x2) x0) = 0 → P 0 σ) ∧ ((cmpL (divL (mulL x0 x2) x2) x0) = 0 → P 1 σ)))) ∧ ((cmpL x0 (-9223372036854775808)) = 0 → ((¬ (cmpL x2 1) = 0 → P 0 σ) ∧ ((cmpL x2 1) = 0 → P 1 σ))))) ∧ ((cmpL x2 0) = 0 → P 1 σ))))) :
    WI l mX12_fits d P 0 [(1, x0), (3, 0), (1, x2), (3, 0)] [] N Λ σ := by
  refine r_lload_n (x := x0) d_X12_fits_0 rfl ?_
  refine r_lconst d_X12_fits_1 ?_
  skip
  refine r_lcmp d_X12_fits_2 ?_
  refine r_if_eq (tgt := 12) d_X12_fits_3 rfl (fun hc => ?_) (fun hc => ?_)
  · have h := h.1 hc
    refine r_iconst (x := 1) d_X12_fits_12 ⟨by decide, by decide⟩ ?_
    exact r_iret d_X12_fits_13 rfl (by decide) (Nat.le_refl 0) (Nat.le_refl 0) ⟨_, rfl, rfl, rfl, h⟩
  · have h := h.2 hc
    refine r_lload_n (x := x2) d_X12_fits_6 rfl ?_
    refine r_lconst d_X12_fits_7 ?_
    skip
    refine r_lcmp d_X12_fits_8 ?_
    refine r_if_ne (tgt := 14) d_X12_fits_9 rfl (fun hc => ?_) (fun hc => ?_)
    · have h := h.1 hc
      refine r_lload_n (x := x0) d_X12_fits_14 rfl ?_
      refine r_ldc2 (x := (-9223372036854775808)) d_X12_fits_15 ck_X12_416 (by decide) ?_
      refine r_lcmp d_X12_fits_18 ?_
      refine r_if_ne (tgt := 34) d_X12_fits_19 rfl (fun hc => ?_) (fun hc => ?_)
      · have h := h.1 hc
        refine r_lload_n (x := x0) d_X12_fits_34 rfl ?_
        refine r_lload_n (x := x2) d_X12_fits_35 rfl ?_
        refine r_lmul d_X12_fits_36 ?_
        refine r_lload_n (x := x2) d_X12_fits_37 rfl ?_
        refine r_ldiv d_X12_fits_38 h.1 ?_
        have h := h.2
        refine r_lload_n (x := x0) d_X12_fits_39 rfl ?_
        refine r_lcmp d_X12_fits_40 ?_
        refine r_if_ne (tgt := 48) d_X12_fits_41 rfl (fun hc => ?_) (fun hc => ?_)
        · have h := h.1 hc
          refine r_iconst (x := 0) d_X12_fits_48 ⟨by decide, by decide⟩ ?_
          exact r_iret d_X12_fits_49 rfl (by decide) (Nat.le_refl 0) (Nat.le_refl 0) ⟨_, rfl, rfl, rfl, h⟩
        · have h := h.2 hc
          refine r_iconst (x := 1) d_X12_fits_44 ⟨by decide, by decide⟩ ?_
          refine r_goto (tgt := 49) d_X12_fits_45 rfl ?_
          exact r_iret d_X12_fits_49 rfl (by decide) (Nat.le_refl 0) (Nat.le_refl 0) ⟨_, rfl, rfl, rfl, h⟩
      · have h := h.2 hc
        refine r_lload_n (x := x2) d_X12_fits_22 rfl ?_
        refine r_lconst d_X12_fits_23 ?_
        skip
        refine r_lcmp d_X12_fits_24 ?_
        refine r_if_ne (tgt := 32) d_X12_fits_25 rfl (fun hc => ?_) (fun hc => ?_)
        · have h := h.1 hc
          refine r_iconst (x := 0) d_X12_fits_32 ⟨by decide, by decide⟩ ?_
          exact r_iret d_X12_fits_33 rfl (by decide) (Nat.le_refl 0) (Nat.le_refl 0) ⟨_, rfl, rfl, rfl, h⟩
        · have h := h.2 hc
          refine r_iconst (x := 1) d_X12_fits_28 ⟨by decide, by decide⟩ ?_
          refine r_goto (tgt := 33) d_X12_fits_29 rfl ?_
          exact r_iret d_X12_fits_33 rfl (by decide) (Nat.le_refl 0) (Nat.le_refl 0) ⟨_, rfl, rfl, rfl, h⟩
    · have h := h.2 hc
      refine r_iconst (x := 1) d_X12_fits_12 ⟨by decide, by decide⟩ ?_
      exact r_iret d_X12_fits_13 rfl (by decide) (Nat.le_refl 0) (Nat.le_refl 0) ⟨_, rfl, rfl, rfl, h⟩
theorem v_X12_value_0 {l : Launch} {d N : Nat} {Λ : Lay} {P : Int → Mem → Prop} {σ : Mem} {x1 t : Int} (o_t : Ob N Λ t 21 36) (h0d : 1 ≤ d)
    (h : (∀ τ1, τ1 = st σ t 0 0 → (CI l mX12_isShelf (d - 1) [(0, x1)] N Λ τ1 (fun v3 σ2 => ((¬ v3 = 0 → WL l mX12_value d P 21 [(2, t), (0, x1), (1, 0), (3, 0), (0, 0), (3, 0), (3, 0), (3, 0), (3, 0), (3, 0), (3, 0)] [] N Λ σ2) ∧ (v3 = 0 → P (-9223372036854775808) σ2)))))) :
    WL l mX12_value d P 0 [(2, t), (0, x1), (3, 0), (3, 0), (3, 0), (3, 0), (3, 0), (3, 0), (3, 0), (3, 0), (3, 0)] [] N Λ σ := by
  refine r_aload_n (x := t) d_X12_value_0 rfl o_t.1 ?_
  refine r_iconst (x := 0) d_X12_value_1 ⟨by decide, by decide⟩ ?_
  refine r_putI (j := 0) d_X12_value_2 kX12 (by decide) fl_X12_1 rfl o_t.1 o_t.2.1 o_t.2.2.1 o_t.2.2.2 rfl ?_
  refine r_nmM (fun τ1 eτ1 => ?_)
  have h := h τ1 eτ1
  refine r_iload_n (x := x1) d_X12_value_5 rfl ?_
  refine r_callS (Y2 := mX12_isShelf) (d := d - 1) (mc := 0) (ms := 0) (As := [(0, x1)]) (S := []) d_X12_value_6 ok_mX12_isShelf ml_X12_199 rfl (rmc h0d (by decide)) rm00 (Nat.le_of_ble_eq_true rfl) rfl (MC.mono h (fun r N1 Λ1 σ2 hq => ?_))
  obtain ⟨v3, rfl, rfl, rfl, h⟩ := hq
  refine r_if_ne (tgt := 16) d_X12_value_9 rfl (fun hc => ?_) (fun hc => ?_)
  · have h := h.1 hc
    refine r_lconst d_X12_value_16 ?_
    skip
    refine r_lstore_n (L2 := [(2, t), (0, x1), (1, 0), (3, 0), (3, 0), (3, 0), (3, 0), (3, 0), (3, 0), (3, 0), (3, 0)]) d_X12_value_17 (by decide) rfl rfl ?_
    refine r_iconst (x := 0) d_X12_value_18 ⟨by decide, by decide⟩ ?_
    refine r_istore (L2 := [(2, t), (0, x1), (1, 0), (3, 0), (0, 0), (3, 0), (3, 0), (3, 0), (3, 0), (3, 0), (3, 0)]) d_X12_value_19 (by decide) rfl rfl ?_
    exact h
  · have h := h.2 hc
    refine r_ldc2 (x := (-9223372036854775808)) d_X12_value_12 ck_X12_416 (by decide) ?_
    exact r_lret d_X12_value_15 rfl (Nat.le_refl 0) (Nat.le_refl 0) ⟨_, rfl, rfl, rfl, h⟩
theorem v_X12_value_21 {l : Launch} {d N : Nat} {Λ : Lay} {P : Int → Mem → Prop} {σ : Mem} {x1 x2 x4 t t_state : Int} (o_t : Ob N Λ t 21 36) (f_t_state : (Λ t).2.2 3 = t_state) (h0d : 1 ≤ d)
    (h : (Ix N Λ t_state 0 (mulI 161 x1) ∧ (((σ t_state (mulI 161 x1)) ≤ x4 → P x2 σ) ∧ (¬ ((σ t_state (mulI 161 x1)) ≤ x4) → (CI l mX12_keyOn (d - 1) [(2, t_state), (0, x1), (0, x4)] N Λ σ (fun v2 σ1 => (Ix N Λ t_state 0 (addI (addI (mulI 161 x1) 2) (mulI 2 x4)) ∧ (∀ y3, y3 = (σ1 t_state (addI (addI (mulI 161 x1) 2) (mulI 2 x4))) → WL l mX12_value d P 71 [(2, t), (0, x1), (1, x2), (3, 0), (0, x4), (0, v2), (1, y3), (3, 0), (0, 0), (3, 0), (3, 0)] [] N Λ σ1)))))))) :
    WL l mX12_value d P 21 [(2, t), (0, x1), (1, x2), (3, 0), (0, x4), (3, 0), (3, 0), (3, 0), (3, 0), (3, 0), (3, 0)] [] N Λ σ := by
  refine r_iload (x := x4) d_X12_value_21 rfl ?_
  refine r_aload_n (x := t) d_X12_value_23 rfl o_t.1 ?_
  refine r_getf (j := 3) (t := 2) (x := t_state) d_X12_value_24 kX12 (by decide) fl_X12_20 o_t.1 o_t.2.1 o_t.2.2.1 o_t.2.2.2 rfl f_t_state ?_
  refine r_sipush (x := 161) d_X12_value_27 ⟨by decide, by decide⟩ (by decide) ?_
  refine r_iload_n (x := x1) d_X12_value_30 rfl ?_
  refine r_imul d_X12_value_31 ?_
  refine x_iald d_X12_value_32 h.1 ?_
  have h := h.2
  refine r_ic_ge (tgt := 165) d_X12_value_33 rfl (fun hc => ?_) (fun hc => ?_)
  · have h := h.1 hc
    refine r_lload_n (x := x2) d_X12_value_165 rfl ?_
    exact r_lret d_X12_value_166 rfl (Nat.le_refl 0) (Nat.le_refl 0) ⟨_, rfl, rfl, rfl, h⟩
  · have h := h.2 hc
    refine r_aload_n (x := t) d_X12_value_36 rfl o_t.1 ?_
    refine r_getf (j := 3) (t := 2) (x := t_state) d_X12_value_37 kX12 (by decide) fl_X12_20 o_t.1 o_t.2.1 o_t.2.2.1 o_t.2.2.2 rfl f_t_state ?_
    refine r_iload_n (x := x1) d_X12_value_40 rfl ?_
    refine r_iload (x := x4) d_X12_value_41 rfl ?_
    refine r_callS (Y2 := mX12_keyOn) (d := d - 1) (mc := 0) (ms := 0) (As := [(2, t_state), (0, x1), (0, x4)]) (S := []) d_X12_value_43 ok_mX12_keyOn ml_X12_339 rfl (rmc h0d (by decide)) rm00 (Nat.le_of_ble_eq_true rfl) rfl (MC.mono h (fun r N1 Λ1 σ1 hq => ?_))
    obtain ⟨v2, rfl, rfl, rfl, h⟩ := hq
    refine r_istore (L2 := [(2, t), (0, x1), (1, x2), (3, 0), (0, x4), (0, v2), (3, 0), (3, 0), (3, 0), (3, 0), (3, 0)]) d_X12_value_46 (by decide) rfl rfl ?_
    refine r_aload_n (x := t) d_X12_value_48 rfl o_t.1 ?_
    refine r_getf (j := 3) (t := 2) (x := t_state) d_X12_value_49 kX12 (by decide) fl_X12_20 o_t.1 o_t.2.1 o_t.2.2.1 o_t.2.2.2 rfl f_t_state ?_
    refine r_sipush (x := 161) d_X12_value_52 ⟨by decide, by decide⟩ (by decide) ?_
    refine r_iload_n (x := x1) d_X12_value_55 rfl ?_
    refine r_imul d_X12_value_56 ?_
    refine r_iconst (x := 2) d_X12_value_57 ⟨by decide, by decide⟩ ?_
    refine r_iadd d_X12_value_58 ?_
    refine r_iconst (x := 2) d_X12_value_59 ⟨by decide, by decide⟩ ?_
    refine r_iload (x := x4) d_X12_value_60 rfl ?_
    refine r_imul d_X12_value_62 ?_
    refine r_iadd d_X12_value_63 ?_
    refine x_iald d_X12_value_64 h.1 ?_
    have h := h.2
    refine r_i2l d_X12_value_65 ?_
    refine r_nm (fun y3 ey3 => ?_)
    have h := h y3 ey3
    refine r_lstore (L2 := [(2, t), (0, x1), (1, x2), (3, 0), (0, x4), (0, v2), (1, y3), (3, 0), (3, 0), (3, 0), (3, 0)]) d_X12_value_66 (by decide) rfl rfl ?_
    refine r_iconst (x := 0) d_X12_value_68 ⟨by decide, by decide⟩ ?_
    refine r_istore (L2 := [(2, t), (0, x1), (1, x2), (3, 0), (0, x4), (0, v2), (1, y3), (3, 0), (0, 0), (3, 0), (3, 0)]) d_X12_value_69 (by decide) rfl rfl ?_
    exact h
theorem v_X12_value_71 {l : Launch} {d N : Nat} {Λ : Lay} {P : Int → Mem → Prop} {σ : Mem} {x1 x2 x4 x5 x6 x8 t : Int} (o_t : Ob N Λ t 21 36) (h0d : 1 ≤ d)
    (h : (CI l mX12_degreeOf (d - 1) [(0, x5)] N Λ σ (fun v2 σ1 => ((v2 ≤ x8 → (∀ y3, y3 = (addL x2 x6) → (((cmpL x6 0) ≤ 0 → (((cmpL y3 x2) ≤ 0 → (∀ y4, y4 = addI x4 1 → WL l mX12_value d P 21 [(2, t), (0, x1), (1, y3), (3, 0), (0, y4), (3, 0), (3, 0), (3, 0), (3, 0), (3, 0), (3, 0)] [] N Λ σ1)) ∧ (¬ ((cmpL y3 x2) ≤ 0) → P (-9223372036854775808) σ1))) ∧ (¬ ((cmpL x6 0) ≤ 0) → ((0 ≤ (cmpL y3 x2) → (∀ y5, y5 = addI x4 1 → WL l mX12_value d P 21 [(2, t), (0, x1), (1, y3), (3, 0), (0, y5), (3, 0), (3, 0), (3, 0), (3, 0), (3, 0), (3, 0)] [] N Λ σ1)) ∧ (¬ (0 ≤ (cmpL y3 x2)) → P (-9223372036854775808) σ1)))))) ∧ (¬ (v2 ≤ x8) → (CI l mX12_rankIn (d - 1) [(0, x5), (0, x8)] N Λ σ1 (fun v7 σ6 => (CI l mX12_worthOfRank (d - 1) [(2, t), (0, v7)] N Λ σ6 (fun v9 σ8 => (CI l mX12_fits (d - 1) [(1, x6), (1, v9)] N Λ σ8 (fun v11 σ10 => ((¬ v11 = 0 → (∀ y12, y12 = (mulL x6 v9) → (∀ y13, y13 = addI x8 1 → WL l mX12_value d P 71 [(2, t), (0, x1), (1, x2), (3, 0), (0, x4), (0, x5), (1, y12), (3, 0), (0, y13), (3, 0), (3, 0)] [] N Λ σ10))) ∧ (v11 = 0 → P (-9223372036854775808) σ10))))))))))))) :
    WL l mX12_value d P 71 [(2, t), (0, x1), (1, x2), (3, 0), (0, x4), (0, x5), (1, x6), (3, 0), (0, x8), (3, 0), (3, 0)] [] N Λ σ := by
  refine r_iload (x := x8) d_X12_value_71 rfl ?_
  refine r_iload (x := x5) d_X12_value_73 rfl ?_
  refine r_callS (Y2 := mX12_degreeOf) (d := d - 1) (mc := 0) (ms := 0) (As := [(0, x5)]) (S := [(0, x8)]) d_X12_value_75 ok_mX12_degreeOf ml_X12_138 rfl (rmc h0d (by decide)) rm00 (Nat.le_of_ble_eq_true rfl) rfl (MC.mono h (fun r N1 Λ1 σ1 hq => ?_))
  obtain ⟨v2, rfl, rfl, rfl, h⟩ := hq
  refine r_ic_ge (tgt := 122) d_X12_value_78 rfl (fun hc => ?_) (fun hc => ?_)
  · have h := h.1 hc
    refine r_lload_n (x := x2) d_X12_value_122 rfl ?_
    refine r_lload (x := x6) d_X12_value_123 rfl ?_
    refine r_ladd d_X12_value_125 ?_
    refine r_nm (fun y3 ey3 => ?_)
    have h := h y3 ey3
    refine r_lstore (L2 := [(2, t), (0, x1), (1, x2), (3, 0), (0, x4), (0, x5), (1, x6), (3, 0), (1, y3), (3, 0), (3, 0)]) d_X12_value_126 (by decide) rfl rfl ?_
    refine r_lload (x := x6) d_X12_value_128 rfl ?_
    refine r_lconst d_X12_value_130 ?_
    skip
    refine r_lcmp d_X12_value_131 ?_
    refine r_if_le (tgt := 145) d_X12_value_132 rfl (fun hc => ?_) (fun hc => ?_)
    · have h := h.1 hc
      refine r_lload (x := y3) d_X12_value_145 rfl ?_
      refine r_lload_n (x := x2) d_X12_value_147 rfl ?_
      refine r_lcmp d_X12_value_148 ?_
      refine r_if_le (tgt := 156) d_X12_value_149 rfl (fun hc => ?_) (fun hc => ?_)
      · have h := h.1 hc
        refine r_lload (x := y3) d_X12_value_156 rfl ?_
        refine r_lstore_n (L2 := [(2, t), (0, x1), (1, y3), (3, 0), (0, x4), (0, x5), (1, x6), (3, 0), (1, y3), (3, 0), (3, 0)]) d_X12_value_158 (by decide) rfl rfl ?_
        refine x_iinc (x := x4) (L := [(2, t), (0, x1), (1, y3), (3, 0), (0, x4), (0, x5), (1, x6), (3, 0), (1, y3), (3, 0), (3, 0)]) d_X12_value_159 rfl (by decide) rfl (fun y4 ey4 => ?_)
        have h := h y4 ey4
        show WP _ _ _ _ _ _ _ _ [(2, t), (0, x1), (1, y3), (3, 0), (0, y4), (0, x5), (1, x6), (3, 0), (1, y3), (3, 0), (3, 0)] _ _ _ _
        refine r_goto (tgt := 21) d_X12_value_162 rfl ?_
        exact x_mask h ⟨Or.inr rfl, Or.inr rfl, Or.inr rfl, Or.inl rfl, Or.inr rfl, Or.inl rfl, Or.inl rfl, Or.inl rfl, Or.inl rfl, Or.inl rfl, Or.inl rfl, trivial⟩
      · have h := h.2 hc
        refine r_ldc2 (x := (-9223372036854775808)) d_X12_value_152 ck_X12_416 (by decide) ?_
        exact r_lret d_X12_value_155 rfl (Nat.le_refl 0) (Nat.le_refl 0) ⟨_, rfl, rfl, rfl, h⟩
    · have h := h.2 hc
      refine r_lload (x := y3) d_X12_value_135 rfl ?_
      refine r_lload_n (x := x2) d_X12_value_137 rfl ?_
      refine r_lcmp d_X12_value_138 ?_
      refine r_if_ge (tgt := 156) d_X12_value_139 rfl (fun hc => ?_) (fun hc => ?_)
      · have h := h.1 hc
        refine r_lload (x := y3) d_X12_value_156 rfl ?_
        refine r_lstore_n (L2 := [(2, t), (0, x1), (1, y3), (3, 0), (0, x4), (0, x5), (1, x6), (3, 0), (1, y3), (3, 0), (3, 0)]) d_X12_value_158 (by decide) rfl rfl ?_
        refine x_iinc (x := x4) (L := [(2, t), (0, x1), (1, y3), (3, 0), (0, x4), (0, x5), (1, x6), (3, 0), (1, y3), (3, 0), (3, 0)]) d_X12_value_159 rfl (by decide) rfl (fun y5 ey5 => ?_)
        have h := h y5 ey5
        show WP _ _ _ _ _ _ _ _ [(2, t), (0, x1), (1, y3), (3, 0), (0, y5), (0, x5), (1, x6), (3, 0), (1, y3), (3, 0), (3, 0)] _ _ _ _
        refine r_goto (tgt := 21) d_X12_value_162 rfl ?_
        exact x_mask h ⟨Or.inr rfl, Or.inr rfl, Or.inr rfl, Or.inl rfl, Or.inr rfl, Or.inl rfl, Or.inl rfl, Or.inl rfl, Or.inl rfl, Or.inl rfl, Or.inl rfl, trivial⟩
      · have h := h.2 hc
        refine r_goto (tgt := 152) d_X12_value_142 rfl ?_
        refine r_ldc2 (x := (-9223372036854775808)) d_X12_value_152 ck_X12_416 (by decide) ?_
        exact r_lret d_X12_value_155 rfl (Nat.le_refl 0) (Nat.le_refl 0) ⟨_, rfl, rfl, rfl, h⟩
  · have h := h.2 hc
    refine r_aload_n (x := t) d_X12_value_81 rfl o_t.1 ?_
    refine r_iload (x := x5) d_X12_value_82 rfl ?_
    refine r_iload (x := x8) d_X12_value_84 rfl ?_
    refine r_callS (Y2 := mX12_rankIn) (d := d - 1) (mc := 0) (ms := 0) (As := [(0, x5), (0, x8)]) (S := [(2, t)]) d_X12_value_86 ok_mX12_rankIn ml_X12_135 rfl (rmc h0d (by decide)) rm00 (Nat.le_of_ble_eq_true rfl) rfl (MC.mono h (fun r N1 Λ1 σ6 hq => ?_))
    obtain ⟨v7, rfl, rfl, rfl, h⟩ := hq
    refine r_callV (Y2 := mX12_worthOfRank) (d := d - 1) (mc := 0) (ms := 0) (c := t) (As := [(0, v7)]) (S := []) d_X12_value_89 ok_mX12_worthOfRank ml_X12_418 rfl (rmc h0d (by decide)) rm00 (Nat.le_of_ble_eq_true rfl) rfl kX12 o_t.1 o_t.2.1 o_t.2.2.1 o_t.2.2.2 (MC.mono h (fun r N1 Λ1 σ8 hq => ?_))
    obtain ⟨v9, rfl, rfl, rfl, h⟩ := hq
    refine r_i2l d_X12_value_92 ?_
    refine r_lstore (L2 := [(2, t), (0, x1), (1, x2), (3, 0), (0, x4), (0, x5), (1, x6), (3, 0), (0, x8), (1, v9), (3, 0)]) d_X12_value_93 (by decide) rfl rfl ?_
    refine r_lload (x := x6) d_X12_value_95 rfl ?_
    refine r_lload (x := v9) d_X12_value_97 rfl ?_
    refine r_callS (Y2 := mX12_fits) (d := d - 1) (mc := 0) (ms := 0) (As := [(1, x6), (1, v9)]) (S := []) d_X12_value_99 ok_mX12_fits ml_X12_421 rfl (rmc h0d (by decide)) rm00 (Nat.le_of_ble_eq_true rfl) rfl (MC.mono h (fun r N1 Λ1 σ10 hq => ?_))
    obtain ⟨v11, rfl, rfl, rfl, h⟩ := hq
    refine r_if_ne (tgt := 109) d_X12_value_102 rfl (fun hc => ?_) (fun hc => ?_)
    · have h := h.1 hc
      refine r_lload (x := x6) d_X12_value_109 rfl ?_
      refine r_lload (x := v9) d_X12_value_111 rfl ?_
      refine r_lmul d_X12_value_113 ?_
      refine r_nm (fun y12 ey12 => ?_)
      have h := h y12 ey12
      refine r_lstore (L2 := [(2, t), (0, x1), (1, x2), (3, 0), (0, x4), (0, x5), (1, y12), (3, 0), (0, x8), (1, v9), (3, 0)]) d_X12_value_114 (by decide) rfl rfl ?_
      refine x_iinc (x := x8) (L := [(2, t), (0, x1), (1, x2), (3, 0), (0, x4), (0, x5), (1, y12), (3, 0), (0, x8), (1, v9), (3, 0)]) d_X12_value_116 rfl (by decide) rfl (fun y13 ey13 => ?_)
      have h := h y13 ey13
      show WP _ _ _ _ _ _ _ _ [(2, t), (0, x1), (1, x2), (3, 0), (0, x4), (0, x5), (1, y12), (3, 0), (0, y13), (1, v9), (3, 0)] _ _ _ _
      refine r_goto (tgt := 71) d_X12_value_119 rfl ?_
      exact x_mask h ⟨Or.inr rfl, Or.inr rfl, Or.inr rfl, Or.inl rfl, Or.inr rfl, Or.inr rfl, Or.inr rfl, Or.inl rfl, Or.inr rfl, Or.inl rfl, Or.inl rfl, trivial⟩
    · have h := h.2 hc
      refine r_ldc2 (x := (-9223372036854775808)) d_X12_value_105 ck_X12_416 (by decide) ?_
      exact r_lret d_X12_value_108 rfl (Nat.le_refl 0) (Nat.le_refl 0) ⟨_, rfl, rfl, rfl, h⟩
