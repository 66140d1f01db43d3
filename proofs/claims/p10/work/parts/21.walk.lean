theorem d_J6_bitCount_0f7a4_0 : DC mJ6_bitCount_0f7a4 0 (.iload_n 0) 1 1 := ⟨by decide +kernel, rfl⟩
theorem d_J6_bitCount_0f7a4_1 : DC mJ6_bitCount_0f7a4 1 (.iload_n 0) 1 2 := ⟨by decide +kernel, rfl⟩
theorem d_J6_bitCount_0f7a4_2 : DC mJ6_bitCount_0f7a4 2 (.iconst 1) 1 3 := ⟨by decide +kernel, rfl⟩
theorem d_J6_bitCount_0f7a4_3 : DC mJ6_bitCount_0f7a4 3 (.iushr) 1 4 := ⟨by decide +kernel, rfl⟩
theorem d_J6_bitCount_0f7a4_4 : DC mJ6_bitCount_0f7a4 4 (.ldc_w 265) 3 7 := ⟨by decide +kernel, rfl⟩
theorem d_J6_bitCount_0f7a4_7 : DC mJ6_bitCount_0f7a4 7 (.iand) 1 8 := ⟨by decide +kernel, rfl⟩
theorem d_J6_bitCount_0f7a4_8 : DC mJ6_bitCount_0f7a4 8 (.isub) 1 9 := ⟨by decide +kernel, rfl⟩
theorem d_J6_bitCount_0f7a4_9 : DC mJ6_bitCount_0f7a4 9 (.istore_n 0) 1 10 := ⟨by decide +kernel, rfl⟩
theorem d_J6_bitCount_0f7a4_10 : DC mJ6_bitCount_0f7a4 10 (.iload_n 0) 1 11 := ⟨by decide +kernel, rfl⟩
theorem d_J6_bitCount_0f7a4_11 : DC mJ6_bitCount_0f7a4 11 (.ldc_w 266) 3 14 := ⟨by decide +kernel, rfl⟩
theorem d_J6_bitCount_0f7a4_14 : DC mJ6_bitCount_0f7a4 14 (.iand) 1 15 := ⟨by decide +kernel, rfl⟩
theorem d_J6_bitCount_0f7a4_15 : DC mJ6_bitCount_0f7a4 15 (.iload_n 0) 1 16 := ⟨by decide +kernel, rfl⟩
theorem d_J6_bitCount_0f7a4_16 : DC mJ6_bitCount_0f7a4 16 (.iconst 2) 1 17 := ⟨by decide +kernel, rfl⟩
theorem d_J6_bitCount_0f7a4_17 : DC mJ6_bitCount_0f7a4 17 (.iushr) 1 18 := ⟨by decide +kernel, rfl⟩
theorem d_J6_bitCount_0f7a4_18 : DC mJ6_bitCount_0f7a4 18 (.ldc_w 266) 3 21 := ⟨by decide +kernel, rfl⟩
theorem d_J6_bitCount_0f7a4_21 : DC mJ6_bitCount_0f7a4 21 (.iand) 1 22 := ⟨by decide +kernel, rfl⟩
theorem d_J6_bitCount_0f7a4_22 : DC mJ6_bitCount_0f7a4 22 (.iadd) 1 23 := ⟨by decide +kernel, rfl⟩
theorem d_J6_bitCount_0f7a4_23 : DC mJ6_bitCount_0f7a4 23 (.istore_n 0) 1 24 := ⟨by decide +kernel, rfl⟩
theorem d_J6_bitCount_0f7a4_24 : DC mJ6_bitCount_0f7a4 24 (.iload_n 0) 1 25 := ⟨by decide +kernel, rfl⟩
theorem d_J6_bitCount_0f7a4_25 : DC mJ6_bitCount_0f7a4 25 (.iload_n 0) 1 26 := ⟨by decide +kernel, rfl⟩
theorem d_J6_bitCount_0f7a4_26 : DC mJ6_bitCount_0f7a4 26 (.iconst 4) 1 27 := ⟨by decide +kernel, rfl⟩
theorem d_J6_bitCount_0f7a4_27 : DC mJ6_bitCount_0f7a4 27 (.iushr) 1 28 := ⟨by decide +kernel, rfl⟩
theorem d_J6_bitCount_0f7a4_28 : DC mJ6_bitCount_0f7a4 28 (.iadd) 1 29 := ⟨by decide +kernel, rfl⟩
theorem d_J6_bitCount_0f7a4_29 : DC mJ6_bitCount_0f7a4 29 (.ldc_w 267) 3 32 := ⟨by decide +kernel, rfl⟩
theorem d_J6_bitCount_0f7a4_32 : DC mJ6_bitCount_0f7a4 32 (.iand) 1 33 := ⟨by decide +kernel, rfl⟩
theorem d_J6_bitCount_0f7a4_33 : DC mJ6_bitCount_0f7a4 33 (.istore_n 0) 1 34 := ⟨by decide +kernel, rfl⟩
theorem d_J6_bitCount_0f7a4_34 : DC mJ6_bitCount_0f7a4 34 (.iload_n 0) 1 35 := ⟨by decide +kernel, rfl⟩
theorem d_J6_bitCount_0f7a4_35 : DC mJ6_bitCount_0f7a4 35 (.iload_n 0) 1 36 := ⟨by decide +kernel, rfl⟩
theorem d_J6_bitCount_0f7a4_36 : DC mJ6_bitCount_0f7a4 36 (.bipush 8) 2 38 := ⟨by decide +kernel, rfl⟩
theorem d_J6_bitCount_0f7a4_38 : DC mJ6_bitCount_0f7a4 38 (.iushr) 1 39 := ⟨by decide +kernel, rfl⟩
theorem d_J6_bitCount_0f7a4_39 : DC mJ6_bitCount_0f7a4 39 (.iadd) 1 40 := ⟨by decide +kernel, rfl⟩
theorem d_J6_bitCount_0f7a4_40 : DC mJ6_bitCount_0f7a4 40 (.istore_n 0) 1 41 := ⟨by decide +kernel, rfl⟩
theorem d_J6_bitCount_0f7a4_41 : DC mJ6_bitCount_0f7a4 41 (.iload_n 0) 1 42 := ⟨by decide +kernel, rfl⟩
theorem d_J6_bitCount_0f7a4_42 : DC mJ6_bitCount_0f7a4 42 (.iload_n 0) 1 43 := ⟨by decide +kernel, rfl⟩
theorem d_J6_bitCount_0f7a4_43 : DC mJ6_bitCount_0f7a4 43 (.bipush 16) 2 45 := ⟨by decide +kernel, rfl⟩
theorem d_J6_bitCount_0f7a4_45 : DC mJ6_bitCount_0f7a4 45 (.iushr) 1 46 := ⟨by decide +kernel, rfl⟩
theorem d_J6_bitCount_0f7a4_46 : DC mJ6_bitCount_0f7a4 46 (.iadd) 1 47 := ⟨by decide +kernel, rfl⟩
theorem d_J6_bitCount_0f7a4_47 : DC mJ6_bitCount_0f7a4 47 (.istore_n 0) 1 48 := ⟨by decide +kernel, rfl⟩
theorem d_J6_bitCount_0f7a4_48 : DC mJ6_bitCount_0f7a4 48 (.iload_n 0) 1 49 := ⟨by decide +kernel, rfl⟩
theorem d_J6_bitCount_0f7a4_49 : DC mJ6_bitCount_0f7a4 49 (.bipush 63) 2 51 := ⟨by decide +kernel, rfl⟩
theorem d_J6_bitCount_0f7a4_51 : DC mJ6_bitCount_0f7a4 51 (.iand) 1 52 := ⟨by decide +kernel, rfl⟩
theorem d_J6_bitCount_0f7a4_52 : DC mJ6_bitCount_0f7a4 52 (.ireturn) 1 53 := ⟨by decide +kernel, rfl⟩
theorem d_X1_keyOf_0 : DC mX1_keyOf 0 (.iload_n 0) 1 1 := ⟨by decide +kernel, rfl⟩
theorem d_X1_keyOf_1 : DC mX1_keyOf 1 (.invokestatic 110) 3 4 := ⟨by decide +kernel, rfl⟩
theorem d_X1_keyOf_4 : DC mX1_keyOf 4 (.iconst 2) 1 5 := ⟨by decide +kernel, rfl⟩
theorem d_X1_keyOf_5 : DC mX1_keyOf 5 (.if_icmp .eq 5) 3 8 := ⟨by decide +kernel, rfl⟩
theorem d_X1_keyOf_8 : DC mX1_keyOf 8 (.lconst 0) 1 9 := ⟨by decide +kernel, rfl⟩
theorem d_X1_keyOf_9 : DC mX1_keyOf 9 (.lreturn) 1 10 := ⟨by decide +kernel, rfl⟩
theorem d_X1_keyOf_10 : DC mX1_keyOf 10 (.iconst 0) 1 11 := ⟨by decide +kernel, rfl⟩
theorem d_X1_keyOf_11 : DC mX1_keyOf 11 (.istore_n 1) 1 12 := ⟨by decide +kernel, rfl⟩
theorem d_X1_keyOf_12 : DC mX1_keyOf 12 (.iconst 0) 1 13 := ⟨by decide +kernel, rfl⟩
theorem d_X1_keyOf_13 : DC mX1_keyOf 13 (.istore_n 2) 1 14 := ⟨by decide +kernel, rfl⟩
theorem d_X1_keyOf_14 : DC mX1_keyOf 14 (.iconst 0) 1 15 := ⟨by decide +kernel, rfl⟩
theorem d_X1_keyOf_15 : DC mX1_keyOf 15 (.istore_n 3) 1 16 := ⟨by decide +kernel, rfl⟩
theorem d_X1_keyOf_16 : DC mX1_keyOf 16 (.iload_n 3) 1 17 := ⟨by decide +kernel, rfl⟩
theorem d_X1_keyOf_17 : DC mX1_keyOf 17 (.bipush 6) 2 19 := ⟨by decide +kernel, rfl⟩
theorem d_X1_keyOf_19 : DC mX1_keyOf 19 (.if_icmp .ge 39) 3 22 := ⟨by decide +kernel, rfl⟩
theorem d_X1_keyOf_22 : DC mX1_keyOf 22 (.iload_n 3) 1 23 := ⟨by decide +kernel, rfl⟩
theorem d_X1_keyOf_23 : DC mX1_keyOf 23 (.ifCond .eq 14) 3 26 := ⟨by decide +kernel, rfl⟩
theorem d_X1_keyOf_26 : DC mX1_keyOf 26 (.iload_n 0) 1 27 := ⟨by decide +kernel, rfl⟩
theorem d_X1_keyOf_27 : DC mX1_keyOf 27 (.iload_n 3) 1 28 := ⟨by decide +kernel, rfl⟩
theorem d_X1_keyOf_28 : DC mX1_keyOf 28 (.iconst 1) 1 29 := ⟨by decide +kernel, rfl⟩
theorem d_X1_keyOf_29 : DC mX1_keyOf 29 (.isub) 1 30 := ⟨by decide +kernel, rfl⟩
theorem d_X1_keyOf_30 : DC mX1_keyOf 30 (.ishr) 1 31 := ⟨by decide +kernel, rfl⟩
theorem d_X1_keyOf_31 : DC mX1_keyOf 31 (.iconst 1) 1 32 := ⟨by decide +kernel, rfl⟩
theorem d_X1_keyOf_32 : DC mX1_keyOf 32 (.iand) 1 33 := ⟨by decide +kernel, rfl⟩
theorem d_X1_keyOf_33 : DC mX1_keyOf 33 (.iconst 1) 1 34 := ⟨by decide +kernel, rfl⟩
theorem d_X1_keyOf_34 : DC mX1_keyOf 34 (.if_icmp .ne 12) 3 37 := ⟨by decide +kernel, rfl⟩
theorem d_X1_keyOf_37 : DC mX1_keyOf 37 (.iload_n 1) 1 38 := ⟨by decide +kernel, rfl⟩
theorem d_X1_keyOf_38 : DC mX1_keyOf 38 (.iconst 4) 1 39 := ⟨by decide +kernel, rfl⟩
theorem d_X1_keyOf_39 : DC mX1_keyOf 39 (.ishl) 1 40 := ⟨by decide +kernel, rfl⟩
theorem d_X1_keyOf_40 : DC mX1_keyOf 40 (.iload_n 3) 1 41 := ⟨by decide +kernel, rfl⟩
theorem d_X1_keyOf_41 : DC mX1_keyOf 41 (.ior) 1 42 := ⟨by decide +kernel, rfl⟩
theorem d_X1_keyOf_42 : DC mX1_keyOf 42 (.istore_n 1) 1 43 := ⟨by decide +kernel, rfl⟩
theorem d_X1_keyOf_43 : DC mX1_keyOf 43 (.goto 9) 3 46 := ⟨by decide +kernel, rfl⟩
theorem d_X1_keyOf_46 : DC mX1_keyOf 46 (.iload_n 2) 1 47 := ⟨by decide +kernel, rfl⟩
theorem d_X1_keyOf_47 : DC mX1_keyOf 47 (.iconst 4) 1 48 := ⟨by decide +kernel, rfl⟩
theorem d_X1_keyOf_48 : DC mX1_keyOf 48 (.ishl) 1 49 := ⟨by decide +kernel, rfl⟩
theorem d_X1_keyOf_49 : DC mX1_keyOf 49 (.iload_n 3) 1 50 := ⟨by decide +kernel, rfl⟩
theorem d_X1_keyOf_50 : DC mX1_keyOf 50 (.ior) 1 51 := ⟨by decide +kernel, rfl⟩
theorem d_X1_keyOf_51 : DC mX1_keyOf 51 (.istore_n 2) 1 52 := ⟨by decide +kernel, rfl⟩
theorem d_X1_keyOf_52 : DC mX1_keyOf 52 (.iinc 3 1) 3 55 := ⟨by decide +kernel, rfl⟩
theorem d_X1_keyOf_55 : DC mX1_keyOf 55 (.goto (-39)) 3 58 := ⟨by decide +kernel, rfl⟩
theorem d_X1_keyOf_58 : DC mX1_keyOf 58 (.lconst 0) 1 59 := ⟨by decide +kernel, rfl⟩
theorem d_X1_keyOf_59 : DC mX1_keyOf 59 (.iload_n 1) 1 60 := ⟨by decide +kernel, rfl⟩
theorem d_X1_keyOf_60 : DC mX1_keyOf 60 (.invokestatic 106) 3 63 := ⟨by decide +kernel, rfl⟩
theorem d_X1_keyOf_63 : DC mX1_keyOf 63 (.iload_n 2) 1 64 := ⟨by decide +kernel, rfl⟩
theorem d_X1_keyOf_64 : DC mX1_keyOf 64 (.invokestatic 106) 3 67 := ⟨by decide +kernel, rfl⟩
theorem d_X1_keyOf_67 : DC mX1_keyOf 67 (.lreturn) 1 68 := ⟨by decide +kernel, rfl⟩
theorem d_X2_begin_0 : DC mX2_begin 0 (.aload_n 0) 1 1 := ⟨by decide +kernel, rfl⟩
theorem d_X2_begin_1 : DC mX2_begin 1 (.iconst 0) 1 2 := ⟨by decide +kernel, rfl⟩
theorem d_X2_begin_2 : DC mX2_begin 2 (.putfield 21) 3 5 := ⟨by decide +kernel, rfl⟩
theorem d_X2_begin_5 : DC mX2_begin 5 (.return_) 1 6 := ⟨by decide +kernel, rfl⟩
theorem d_X9_isLetterByte_0 : DC mX9_isLetterByte 0 (.iload_n 0) 1 1 := ⟨by decide +kernel, rfl⟩
theorem d_X9_isLetterByte_1 : DC mX9_isLetterByte 1 (.bipush 97) 2 3 := ⟨by decide +kernel, rfl⟩
theorem d_X9_isLetterByte_3 : DC mX9_isLetterByte 3 (.if_icmp .lt 13) 3 6 := ⟨by decide +kernel, rfl⟩
theorem d_X9_isLetterByte_6 : DC mX9_isLetterByte 6 (.iload_n 0) 1 7 := ⟨by decide +kernel, rfl⟩
theorem d_X9_isLetterByte_7 : DC mX9_isLetterByte 7 (.bipush 106) 2 9 := ⟨by decide +kernel, rfl⟩
theorem d_X9_isLetterByte_9 : DC mX9_isLetterByte 9 (.if_icmp .gt 7) 3 12 := ⟨by decide +kernel, rfl⟩
theorem d_X9_isLetterByte_12 : DC mX9_isLetterByte 12 (.iconst 1) 1 13 := ⟨by decide +kernel, rfl⟩
theorem d_X9_isLetterByte_13 : DC mX9_isLetterByte 13 (.goto 4) 3 16 := ⟨by decide +kernel, rfl⟩
theorem d_X9_isLetterByte_16 : DC mX9_isLetterByte 16 (.iconst 0) 1 17 := ⟨by decide +kernel, rfl⟩
theorem d_X9_isLetterByte_17 : DC mX9_isLetterByte 17 (.ireturn) 1 18 := ⟨by decide +kernel, rfl⟩
theorem d_X5_empty_0 : DC mX5_empty 0 (.aload_n 0) 1 1 := ⟨by decide +kernel, rfl⟩
theorem d_X5_empty_1 : DC mX5_empty 1 (.iconst 0) 1 2 := ⟨by decide +kernel, rfl⟩
theorem d_X5_empty_2 : DC mX5_empty 2 (.putfield 19) 3 5 := ⟨by decide +kernel, rfl⟩
theorem d_X5_empty_5 : DC mX5_empty 5 (.return_) 1 6 := ⟨by decide +kernel, rfl⟩
theorem d_X2_empty_0 : DC mX2_empty 0 (.iconst 0) 1 1 := ⟨by decide +kernel, rfl⟩
theorem d_X2_empty_1 : DC mX2_empty 1 (.istore_n 2) 1 2 := ⟨by decide +kernel, rfl⟩
theorem d_X2_empty_2 : DC mX2_empty 2 (.iload_n 2) 1 3 := ⟨by decide +kernel, rfl⟩
theorem d_X2_empty_3 : DC mX2_empty 3 (.bipush 10) 2 5 := ⟨by decide +kernel, rfl⟩
theorem d_X2_empty_5 : DC mX2_empty 5 (.if_icmp .ge 20) 3 8 := ⟨by decide +kernel, rfl⟩
theorem d_X2_empty_8 : DC mX2_empty 8 (.aload_n 0) 1 9 := ⟨by decide +kernel, rfl⟩
theorem d_X2_empty_9 : DC mX2_empty 9 (.getfield 13) 3 12 := ⟨by decide +kernel, rfl⟩
theorem d_X2_empty_12 : DC mX2_empty 12 (.iload_n 1) 1 13 := ⟨by decide +kernel, rfl⟩
theorem d_X2_empty_13 : DC mX2_empty 13 (.iload_n 2) 1 14 := ⟨by decide +kernel, rfl⟩
theorem d_X2_empty_14 : DC mX2_empty 14 (.iadd) 1 15 := ⟨by decide +kernel, rfl⟩
theorem d_X2_empty_15 : DC mX2_empty 15 (.aaload) 1 16 := ⟨by decide +kernel, rfl⟩
theorem d_X2_empty_16 : DC mX2_empty 16 (.invokevirtual 71) 3 19 := ⟨by decide +kernel, rfl⟩
theorem d_X2_empty_19 : DC mX2_empty 19 (.iinc 2 1) 3 22 := ⟨by decide +kernel, rfl⟩
theorem d_X2_empty_22 : DC mX2_empty 22 (.goto (-20)) 3 25 := ⟨by decide +kernel, rfl⟩
theorem d_X2_empty_25 : DC mX2_empty 25 (.return_) 1 26 := ⟨by decide +kernel, rfl⟩
theorem d_X5_find_0 : DC mX5_find 0 (.iconst 0) 1 1 := ⟨by decide +kernel, rfl⟩
theorem d_X5_find_1 : DC mX5_find 1 (.istore_n 3) 1 2 := ⟨by decide +kernel, rfl⟩
theorem d_X5_find_2 : DC mX5_find 2 (.bipush 64) 2 4 := ⟨by decide +kernel, rfl⟩
theorem d_X5_find_4 : DC mX5_find 4 (.istore 4) 2 6 := ⟨by decide +kernel, rfl⟩
theorem d_X5_find_6 : DC mX5_find 6 (.iload 4) 2 8 := ⟨by decide +kernel, rfl⟩
theorem d_X5_find_8 : DC mX5_find 8 (.ifCond .le 44) 3 11 := ⟨by decide +kernel, rfl⟩
theorem d_X5_find_11 : DC mX5_find 11 (.iload_n 3) 1 12 := ⟨by decide +kernel, rfl⟩
theorem d_X5_find_12 : DC mX5_find 12 (.iload 4) 2 14 := ⟨by decide +kernel, rfl⟩
theorem d_X5_find_14 : DC mX5_find 14 (.iadd) 1 15 := ⟨by decide +kernel, rfl⟩
theorem d_X5_find_15 : DC mX5_find 15 (.aload_n 0) 1 16 := ⟨by decide +kernel, rfl⟩
theorem d_X5_find_16 : DC mX5_find 16 (.getfield 19) 3 19 := ⟨by decide +kernel, rfl⟩
theorem d_X5_find_19 : DC mX5_find 19 (.if_icmp .gt 24) 3 22 := ⟨by decide +kernel, rfl⟩
theorem d_X5_find_22 : DC mX5_find 22 (.aload_n 0) 1 23 := ⟨by decide +kernel, rfl⟩
theorem d_X5_find_23 : DC mX5_find 23 (.getfield 9) 3 26 := ⟨by decide +kernel, rfl⟩
theorem d_X5_find_26 : DC mX5_find 26 (.iload_n 3) 1 27 := ⟨by decide +kernel, rfl⟩
theorem d_X5_find_27 : DC mX5_find 27 (.iload 4) 2 29 := ⟨by decide +kernel, rfl⟩
theorem d_X5_find_29 : DC mX5_find 29 (.iadd) 1 30 := ⟨by decide +kernel, rfl⟩
theorem d_X5_find_30 : DC mX5_find 30 (.iconst 1) 1 31 := ⟨by decide +kernel, rfl⟩
theorem d_X5_find_31 : DC mX5_find 31 (.isub) 1 32 := ⟨by decide +kernel, rfl⟩
theorem d_X5_find_32 : DC mX5_find 32 (.laload) 1 33 := ⟨by decide +kernel, rfl⟩
theorem d_X5_find_33 : DC mX5_find 33 (.lload_n 1) 1 34 := ⟨by decide +kernel, rfl⟩
theorem d_X5_find_34 : DC mX5_find 34 (.lcmp) 1 35 := ⟨by decide +kernel, rfl⟩
theorem d_X5_find_35 : DC mX5_find 35 (.ifCond .ge 8) 3 38 := ⟨by decide +kernel, rfl⟩
theorem d_X5_find_38 : DC mX5_find 38 (.iload_n 3) 1 39 := ⟨by decide +kernel, rfl⟩
theorem d_X5_find_39 : DC mX5_find 39 (.iload 4) 2 41 := ⟨by decide +kernel, rfl⟩
theorem d_X5_find_41 : DC mX5_find 41 (.iadd) 1 42 := ⟨by decide +kernel, rfl⟩
theorem d_X5_find_42 : DC mX5_find 42 (.istore_n 3) 1 43 := ⟨by decide +kernel, rfl⟩
theorem d_X5_find_43 : DC mX5_find 43 (.iload 4) 2 45 := ⟨by decide +kernel, rfl⟩
theorem d_X5_find_45 : DC mX5_find 45 (.iconst 1) 1 46 := ⟨by decide +kernel, rfl⟩
theorem d_X5_find_46 : DC mX5_find 46 (.ishr) 1 47 := ⟨by decide +kernel, rfl⟩
theorem d_X5_find_47 : DC mX5_find 47 (.istore 4) 2 49 := ⟨by decide +kernel, rfl⟩
theorem d_X5_find_49 : DC mX5_find 49 (.goto (-43)) 3 52 := ⟨by decide +kernel, rfl⟩
theorem d_X5_find_52 : DC mX5_find 52 (.iload_n 3) 1 53 := ⟨by decide +kernel, rfl⟩
theorem d_X5_find_53 : DC mX5_find 53 (.ireturn) 1 54 := ⟨by decide +kernel, rfl⟩
theorem d_X5_layUpon_0 : DC mX5_layUpon 0 (.lload_n 2) 1 1 := ⟨by decide +kernel, rfl⟩
theorem d_X5_layUpon_1 : DC mX5_layUpon 1 (.lload_n 2) 1 2 := ⟨by decide +kernel, rfl⟩
theorem d_X5_layUpon_2 : DC mX5_layUpon 2 (.l2i) 1 3 := ⟨by decide +kernel, rfl⟩
theorem d_X5_layUpon_3 : DC mX5_layUpon 3 (.i2l) 1 4 := ⟨by decide +kernel, rfl⟩
theorem d_X5_layUpon_4 : DC mX5_layUpon 4 (.lcmp) 1 5 := ⟨by decide +kernel, rfl⟩
theorem d_X5_layUpon_5 : DC mX5_layUpon 5 (.ifCond .eq 5) 3 8 := ⟨by decide +kernel, rfl⟩
theorem d_X5_layUpon_8 : DC mX5_layUpon 8 (.iconst 4) 1 9 := ⟨by decide +kernel, rfl⟩
theorem d_X5_layUpon_9 : DC mX5_layUpon 9 (.ireturn) 1 10 := ⟨by decide +kernel, rfl⟩
theorem d_X5_layUpon_10 : DC mX5_layUpon 10 (.aload_n 0) 1 11 := ⟨by decide +kernel, rfl⟩
theorem d_X5_layUpon_11 : DC mX5_layUpon 11 (.getfield 15) 3 14 := ⟨by decide +kernel, rfl⟩
theorem d_X5_layUpon_14 : DC mX5_layUpon 14 (.iload_n 1) 1 15 := ⟨by decide +kernel, rfl⟩
theorem d_X5_layUpon_15 : DC mX5_layUpon 15 (.lload_n 2) 1 16 := ⟨by decide +kernel, rfl⟩
theorem d_X5_layUpon_16 : DC mX5_layUpon 16 (.l2i) 1 17 := ⟨by decide +kernel, rfl⟩
theorem d_X5_layUpon_17 : DC mX5_layUpon 17 (.iastore) 1 18 := ⟨by decide +kernel, rfl⟩
theorem d_X5_layUpon_18 : DC mX5_layUpon 18 (.lload_n 2) 1 19 := ⟨by decide +kernel, rfl⟩
theorem d_X5_layUpon_19 : DC mX5_layUpon 19 (.lconst 0) 1 20 := ⟨by decide +kernel, rfl⟩
theorem d_X5_layUpon_20 : DC mX5_layUpon 20 (.lcmp) 1 21 := ⟨by decide +kernel, rfl⟩
theorem d_X5_layUpon_21 : DC mX5_layUpon 21 (.ifCond .ne 55) 3 24 := ⟨by decide +kernel, rfl⟩
theorem d_X5_layUpon_24 : DC mX5_layUpon 24 (.aload_n 0) 1 25 := ⟨by decide +kernel, rfl⟩
theorem d_X5_layUpon_25 : DC mX5_layUpon 25 (.dup) 1 26 := ⟨by decide +kernel, rfl⟩
theorem d_X5_layUpon_26 : DC mX5_layUpon 26 (.getfield 19) 3 29 := ⟨by decide +kernel, rfl⟩
theorem d_X5_layUpon_29 : DC mX5_layUpon 29 (.iconst 1) 1 30 := ⟨by decide +kernel, rfl⟩
theorem d_X5_layUpon_30 : DC mX5_layUpon 30 (.isub) 1 31 := ⟨by decide +kernel, rfl⟩
theorem d_X5_layUpon_31 : DC mX5_layUpon 31 (.putfield 19) 3 34 := ⟨by decide +kernel, rfl⟩
theorem d_X5_layUpon_34 : DC mX5_layUpon 34 (.aload_n 0) 1 35 := ⟨by decide +kernel, rfl⟩
theorem d_X5_layUpon_35 : DC mX5_layUpon 35 (.getfield 9) 3 38 := ⟨by decide +kernel, rfl⟩
theorem d_X5_layUpon_38 : DC mX5_layUpon 38 (.iload_n 1) 1 39 := ⟨by decide +kernel, rfl⟩
theorem d_X5_layUpon_39 : DC mX5_layUpon 39 (.iconst 1) 1 40 := ⟨by decide +kernel, rfl⟩
theorem d_X5_layUpon_40 : DC mX5_layUpon 40 (.iadd) 1 41 := ⟨by decide +kernel, rfl⟩
theorem d_X5_layUpon_41 : DC mX5_layUpon 41 (.aload_n 0) 1 42 := ⟨by decide +kernel, rfl⟩
theorem d_X5_layUpon_42 : DC mX5_layUpon 42 (.getfield 9) 3 45 := ⟨by decide +kernel, rfl⟩
theorem d_X5_layUpon_45 : DC mX5_layUpon 45 (.iload_n 1) 1 46 := ⟨by decide +kernel, rfl⟩
theorem d_X5_layUpon_46 : DC mX5_layUpon 46 (.aload_n 0) 1 47 := ⟨by decide +kernel, rfl⟩
theorem d_X5_layUpon_47 : DC mX5_layUpon 47 (.getfield 19) 3 50 := ⟨by decide +kernel, rfl⟩
theorem d_X5_layUpon_50 : DC mX5_layUpon 50 (.iload_n 1) 1 51 := ⟨by decide +kernel, rfl⟩
theorem d_X5_layUpon_51 : DC mX5_layUpon 51 (.isub) 1 52 := ⟨by decide +kernel, rfl⟩
theorem d_X5_layUpon_52 : DC mX5_layUpon 52 (.invokestatic 23) 3 55 := ⟨by decide +kernel, rfl⟩
theorem d_X5_layUpon_55 : DC mX5_layUpon 55 (.aload_n 0) 1 56 := ⟨by decide +kernel, rfl⟩
theorem d_X5_layUpon_56 : DC mX5_layUpon 56 (.getfield 15) 3 59 := ⟨by decide +kernel, rfl⟩
theorem d_X5_layUpon_59 : DC mX5_layUpon 59 (.iload_n 1) 1 60 := ⟨by decide +kernel, rfl⟩
theorem d_X5_layUpon_60 : DC mX5_layUpon 60 (.iconst 1) 1 61 := ⟨by decide +kernel, rfl⟩
theorem d_X5_layUpon_61 : DC mX5_layUpon 61 (.iadd) 1 62 := ⟨by decide +kernel, rfl⟩
theorem d_X5_layUpon_62 : DC mX5_layUpon 62 (.aload_n 0) 1 63 := ⟨by decide +kernel, rfl⟩
theorem d_X5_layUpon_63 : DC mX5_layUpon 63 (.getfield 15) 3 66 := ⟨by decide +kernel, rfl⟩
theorem d_X5_layUpon_66 : DC mX5_layUpon 66 (.iload_n 1) 1 67 := ⟨by decide +kernel, rfl⟩
theorem d_X5_layUpon_67 : DC mX5_layUpon 67 (.aload_n 0) 1 68 := ⟨by decide +kernel, rfl⟩
theorem d_X5_layUpon_68 : DC mX5_layUpon 68 (.getfield 19) 3 71 := ⟨by decide +kernel, rfl⟩
theorem d_X5_layUpon_71 : DC mX5_layUpon 71 (.iload_n 1) 1 72 := ⟨by decide +kernel, rfl⟩
theorem d_X5_layUpon_72 : DC mX5_layUpon 72 (.isub) 1 73 := ⟨by decide +kernel, rfl⟩
theorem d_X5_layUpon_73 : DC mX5_layUpon 73 (.invokestatic 23) 3 76 := ⟨by decide +kernel, rfl⟩
theorem d_X5_layUpon_76 : DC mX5_layUpon 76 (.iconst 0) 1 77 := ⟨by decide +kernel, rfl⟩
theorem d_X5_layUpon_77 : DC mX5_layUpon 77 (.ireturn) 1 78 := ⟨by decide +kernel, rfl⟩
theorem d_X5_lay_0 : DC mX5_lay 0 (.lload_n 3) 1 1 := ⟨by decide +kernel, rfl⟩
theorem d_X5_lay_1 : DC mX5_lay 1 (.lconst 0) 1 2 := ⟨by decide +kernel, rfl⟩
theorem d_X5_lay_2 : DC mX5_lay 2 (.lcmp) 1 3 := ⟨by decide +kernel, rfl⟩
theorem d_X5_lay_3 : DC mX5_lay 3 (.ifCond .ne 5) 3 6 := ⟨by decide +kernel, rfl⟩
theorem d_X5_lay_6 : DC mX5_lay 6 (.iconst 0) 1 7 := ⟨by decide +kernel, rfl⟩
theorem d_X5_lay_7 : DC mX5_lay 7 (.ireturn) 1 8 := ⟨by decide +kernel, rfl⟩
theorem d_X5_lay_8 : DC mX5_lay 8 (.lload_n 3) 1 9 := ⟨by decide +kernel, rfl⟩
theorem d_X5_lay_9 : DC mX5_lay 9 (.lload_n 3) 1 10 := ⟨by decide +kernel, rfl⟩
theorem d_X5_lay_10 : DC mX5_lay 10 (.l2i) 1 11 := ⟨by decide +kernel, rfl⟩
theorem d_X5_lay_11 : DC mX5_lay 11 (.i2l) 1 12 := ⟨by decide +kernel, rfl⟩
theorem d_X5_lay_12 : DC mX5_lay 12 (.lcmp) 1 13 := ⟨by decide +kernel, rfl⟩
theorem d_X5_lay_13 : DC mX5_lay 13 (.ifCond .eq 5) 3 16 := ⟨by decide +kernel, rfl⟩
theorem d_X5_lay_16 : DC mX5_lay 16 (.iconst 4) 1 17 := ⟨by decide +kernel, rfl⟩
theorem d_X5_lay_17 : DC mX5_lay 17 (.ireturn) 1 18 := ⟨by decide +kernel, rfl⟩
theorem d_X5_lay_18 : DC mX5_lay 18 (.aload_n 0) 1 19 := ⟨by decide +kernel, rfl⟩
theorem d_X5_lay_19 : DC mX5_lay 19 (.lload_n 1) 1 20 := ⟨by decide +kernel, rfl⟩
theorem d_X5_lay_20 : DC mX5_lay 20 (.invokevirtual 29) 3 23 := ⟨by decide +kernel, rfl⟩
theorem d_X5_lay_23 : DC mX5_lay 23 (.istore 5) 2 25 := ⟨by decide +kernel, rfl⟩
theorem d_X5_lay_25 : DC mX5_lay 25 (.iload 5) 2 27 := ⟨by decide +kernel, rfl⟩
theorem d_X5_lay_27 : DC mX5_lay 27 (.aload_n 0) 1 28 := ⟨by decide +kernel, rfl⟩
theorem d_X5_lay_28 : DC mX5_lay 28 (.getfield 19) 3 31 := ⟨by decide +kernel, rfl⟩
theorem d_X5_lay_31 : DC mX5_lay 31 (.if_icmp .ge 32) 3 34 := ⟨by decide +kernel, rfl⟩
theorem d_X5_lay_34 : DC mX5_lay 34 (.aload_n 0) 1 35 := ⟨by decide +kernel, rfl⟩
theorem d_X5_lay_35 : DC mX5_lay 35 (.getfield 9) 3 38 := ⟨by decide +kernel, rfl⟩
theorem d_X5_lay_38 : DC mX5_lay 38 (.iload 5) 2 40 := ⟨by decide +kernel, rfl⟩
theorem d_X5_lay_40 : DC mX5_lay 40 (.laload) 1 41 := ⟨by decide +kernel, rfl⟩
theorem d_X5_lay_41 : DC mX5_lay 41 (.lload_n 1) 1 42 := ⟨by decide +kernel, rfl⟩
theorem d_X5_lay_42 : DC mX5_lay 42 (.lcmp) 1 43 := ⟨by decide +kernel, rfl⟩
theorem d_X5_lay_43 : DC mX5_lay 43 (.ifCond .ne 20) 3 46 := ⟨by decide +kernel, rfl⟩
theorem d_X5_lay_46 : DC mX5_lay 46 (.aload_n 0) 1 47 := ⟨by decide +kernel, rfl⟩
theorem d_X5_lay_47 : DC mX5_lay 47 (.iload 5) 2 49 := ⟨by decide +kernel, rfl⟩
theorem d_X5_lay_49 : DC mX5_lay 49 (.lload_n 3) 1 50 := ⟨by decide +kernel, rfl⟩
theorem d_X5_lay_50 : DC mX5_lay 50 (.aload_n 0) 1 51 := ⟨by decide +kernel, rfl⟩
theorem d_X5_lay_51 : DC mX5_lay 51 (.getfield 15) 3 54 := ⟨by decide +kernel, rfl⟩
theorem d_X5_lay_54 : DC mX5_lay 54 (.iload 5) 2 56 := ⟨by decide +kernel, rfl⟩
theorem d_X5_lay_56 : DC mX5_lay 56 (.iaload) 1 57 := ⟨by decide +kernel, rfl⟩
theorem d_X5_lay_57 : DC mX5_lay 57 (.i2l) 1 58 := ⟨by decide +kernel, rfl⟩
theorem d_X5_lay_58 : DC mX5_lay 58 (.ladd) 1 59 := ⟨by decide +kernel, rfl⟩
theorem d_X5_lay_59 : DC mX5_lay 59 (.invokevirtual 33) 3 62 := ⟨by decide +kernel, rfl⟩
theorem d_X5_lay_62 : DC mX5_lay 62 (.ireturn) 1 63 := ⟨by decide +kernel, rfl⟩
theorem d_X5_lay_63 : DC mX5_lay 63 (.aload_n 0) 1 64 := ⟨by decide +kernel, rfl⟩
theorem d_X5_lay_64 : DC mX5_lay 64 (.getfield 19) 3 67 := ⟨by decide +kernel, rfl⟩
theorem d_X5_lay_67 : DC mX5_lay 67 (.bipush 80) 2 69 := ⟨by decide +kernel, rfl⟩
theorem d_X5_lay_69 : DC mX5_lay 69 (.if_icmp .lt 5) 3 72 := ⟨by decide +kernel, rfl⟩
theorem d_X5_lay_72 : DC mX5_lay 72 (.iconst 1) 1 73 := ⟨by decide +kernel, rfl⟩
theorem d_X5_lay_73 : DC mX5_lay 73 (.ireturn) 1 74 := ⟨by decide +kernel, rfl⟩
theorem d_X5_lay_74 : DC mX5_lay 74 (.aload_n 0) 1 75 := ⟨by decide +kernel, rfl⟩
theorem d_X5_lay_75 : DC mX5_lay 75 (.getfield 9) 3 78 := ⟨by decide +kernel, rfl⟩
theorem d_X5_lay_78 : DC mX5_lay 78 (.iload 5) 2 80 := ⟨by decide +kernel, rfl⟩
theorem d_X5_lay_80 : DC mX5_lay 80 (.aload_n 0) 1 81 := ⟨by decide +kernel, rfl⟩
theorem d_X5_lay_81 : DC mX5_lay 81 (.getfield 9) 3 84 := ⟨by decide +kernel, rfl⟩
theorem d_X5_lay_84 : DC mX5_lay 84 (.iload 5) 2 86 := ⟨by decide +kernel, rfl⟩
theorem d_X5_lay_86 : DC mX5_lay 86 (.iconst 1) 1 87 := ⟨by decide +kernel, rfl⟩
theorem d_X5_lay_87 : DC mX5_lay 87 (.iadd) 1 88 := ⟨by decide +kernel, rfl⟩
theorem d_X5_lay_88 : DC mX5_lay 88 (.aload_n 0) 1 89 := ⟨by decide +kernel, rfl⟩
theorem d_X5_lay_89 : DC mX5_lay 89 (.getfield 19) 3 92 := ⟨by decide +kernel, rfl⟩
theorem d_X5_lay_92 : DC mX5_lay 92 (.iload 5) 2 94 := ⟨by decide +kernel, rfl⟩
theorem d_X5_lay_94 : DC mX5_lay 94 (.isub) 1 95 := ⟨by decide +kernel, rfl⟩
theorem d_X5_lay_95 : DC mX5_lay 95 (.invokestatic 23) 3 98 := ⟨by decide +kernel, rfl⟩
theorem d_X5_lay_98 : DC mX5_lay 98 (.aload_n 0) 1 99 := ⟨by decide +kernel, rfl⟩
theorem d_X5_lay_99 : DC mX5_lay 99 (.getfield 15) 3 102 := ⟨by decide +kernel, rfl⟩
theorem d_X5_lay_102 : DC mX5_lay 102 (.iload 5) 2 104 := ⟨by decide +kernel, rfl⟩
theorem d_X5_lay_104 : DC mX5_lay 104 (.aload_n 0) 1 105 := ⟨by decide +kernel, rfl⟩
theorem d_X5_lay_105 : DC mX5_lay 105 (.getfield 15) 3 108 := ⟨by decide +kernel, rfl⟩
theorem d_X5_lay_108 : DC mX5_lay 108 (.iload 5) 2 110 := ⟨by decide +kernel, rfl⟩
theorem d_X5_lay_110 : DC mX5_lay 110 (.iconst 1) 1 111 := ⟨by decide +kernel, rfl⟩
theorem d_X5_lay_111 : DC mX5_lay 111 (.iadd) 1 112 := ⟨by decide +kernel, rfl⟩
theorem d_X5_lay_112 : DC mX5_lay 112 (.aload_n 0) 1 113 := ⟨by decide +kernel, rfl⟩
theorem d_X5_lay_113 : DC mX5_lay 113 (.getfield 19) 3 116 := ⟨by decide +kernel, rfl⟩
theorem d_X5_lay_116 : DC mX5_lay 116 (.iload 5) 2 118 := ⟨by decide +kernel, rfl⟩
theorem d_X5_lay_118 : DC mX5_lay 118 (.isub) 1 119 := ⟨by decide +kernel, rfl⟩
theorem d_X5_lay_119 : DC mX5_lay 119 (.invokestatic 23) 3 122 := ⟨by decide +kernel, rfl⟩
theorem d_X5_lay_122 : DC mX5_lay 122 (.aload_n 0) 1 123 := ⟨by decide +kernel, rfl⟩
theorem d_X5_lay_123 : DC mX5_lay 123 (.getfield 9) 3 126 := ⟨by decide +kernel, rfl⟩
theorem d_X5_lay_126 : DC mX5_lay 126 (.iload 5) 2 128 := ⟨by decide +kernel, rfl⟩
theorem d_X5_lay_128 : DC mX5_lay 128 (.lload_n 1) 1 129 := ⟨by decide +kernel, rfl⟩
theorem d_X5_lay_129 : DC mX5_lay 129 (.lastore) 1 130 := ⟨by decide +kernel, rfl⟩
theorem d_X5_lay_130 : DC mX5_lay 130 (.aload_n 0) 1 131 := ⟨by decide +kernel, rfl⟩
theorem d_X5_lay_131 : DC mX5_lay 131 (.getfield 15) 3 134 := ⟨by decide +kernel, rfl⟩
theorem d_X5_lay_134 : DC mX5_lay 134 (.iload 5) 2 136 := ⟨by decide +kernel, rfl⟩
theorem d_X5_lay_136 : DC mX5_lay 136 (.lload_n 3) 1 137 := ⟨by decide +kernel, rfl⟩
theorem d_X5_lay_137 : DC mX5_lay 137 (.l2i) 1 138 := ⟨by decide +kernel, rfl⟩
theorem d_X5_lay_138 : DC mX5_lay 138 (.iastore) 1 139 := ⟨by decide +kernel, rfl⟩
theorem d_X5_lay_139 : DC mX5_lay 139 (.aload_n 0) 1 140 := ⟨by decide +kernel, rfl⟩
theorem d_X5_lay_140 : DC mX5_lay 140 (.dup) 1 141 := ⟨by decide +kernel, rfl⟩
theorem d_X5_lay_141 : DC mX5_lay 141 (.getfield 19) 3 144 := ⟨by decide +kernel, rfl⟩
theorem d_X5_lay_144 : DC mX5_lay 144 (.iconst 1) 1 145 := ⟨by decide +kernel, rfl⟩
theorem d_X5_lay_145 : DC mX5_lay 145 (.iadd) 1 146 := ⟨by decide +kernel, rfl⟩
theorem d_X5_lay_146 : DC mX5_lay 146 (.putfield 19) 3 149 := ⟨by decide +kernel, rfl⟩
theorem d_X5_lay_149 : DC mX5_lay 149 (.iconst 0) 1 150 := ⟨by decide +kernel, rfl⟩
theorem d_X5_lay_150 : DC mX5_lay 150 (.ireturn) 1 151 := ⟨by decide +kernel, rfl⟩
theorem d_X10_begin_0 : DC mX10_begin 0 (.aload_n 0) 1 1 := ⟨by decide +kernel, rfl⟩
theorem d_X10_begin_1 : DC mX10_begin 1 (.lload_n 1) 1 2 := ⟨by decide +kernel, rfl⟩
theorem d_X10_begin_2 : DC mX10_begin 2 (.putfield 7) 3 5 := ⟨by decide +kernel, rfl⟩
theorem d_X10_begin_5 : DC mX10_begin 5 (.aload_n 0) 1 6 := ⟨by decide +kernel, rfl⟩
theorem d_X10_begin_6 : DC mX10_begin 6 (.iconst 1) 1 7 := ⟨by decide +kernel, rfl⟩
theorem d_X10_begin_7 : DC mX10_begin 7 (.putfield 13) 3 10 := ⟨by decide +kernel, rfl⟩
theorem d_X10_begin_10 : DC mX10_begin 10 (.return_) 1 11 := ⟨by decide +kernel, rfl⟩
theorem d_J9_abs_0f7a4_0 : DC mJ9_abs_0f7a4 0 (.iload_n 0) 1 1 := ⟨by decide +kernel, rfl⟩
theorem d_J9_abs_0f7a4_1 : DC mJ9_abs_0f7a4 1 (.ifCond .ge 8) 3 4 := ⟨by decide +kernel, rfl⟩
theorem d_J9_abs_0f7a4_4 : DC mJ9_abs_0f7a4 4 (.iload_n 0) 1 5 := ⟨by decide +kernel, rfl⟩
theorem d_J9_abs_0f7a4_5 : DC mJ9_abs_0f7a4 5 (.ineg) 1 6 := ⟨by decide +kernel, rfl⟩
theorem d_J9_abs_0f7a4_6 : DC mJ9_abs_0f7a4 6 (.goto 4) 3 9 := ⟨by decide +kernel, rfl⟩
theorem d_J9_abs_0f7a4_9 : DC mJ9_abs_0f7a4 9 (.iload_n 0) 1 10 := ⟨by decide +kernel, rfl⟩
theorem d_J9_abs_0f7a4_10 : DC mJ9_abs_0f7a4 10 (.ireturn) 1 11 := ⟨by decide +kernel, rfl⟩
theorem d_X10_attach_0 : DC mX10_attach 0 (.iload_n 1) 1 1 := ⟨by decide +kernel, rfl⟩
theorem d_X10_attach_1 : DC mX10_attach 1 (.invokestatic 17) 3 4 := ⟨by decide +kernel, rfl⟩
theorem d_X10_attach_4 : DC mX10_attach 4 (.istore_n 2) 1 5 := ⟨by decide +kernel, rfl⟩
theorem d_X10_attach_5 : DC mX10_attach 5 (.iload_n 2) 1 6 := ⟨by decide +kernel, rfl⟩
theorem d_X10_attach_6 : DC mX10_attach 6 (.ifCond .ne 11) 3 9 := ⟨by decide +kernel, rfl⟩
theorem d_X10_attach_9 : DC mX10_attach 9 (.aload_n 0) 1 10 := ⟨by decide +kernel, rfl⟩
theorem d_X10_attach_10 : DC mX10_attach 10 (.iconst 0) 1 11 := ⟨by decide +kernel, rfl⟩
theorem d_X10_attach_11 : DC mX10_attach 11 (.putfield 13) 3 14 := ⟨by decide +kernel, rfl⟩
theorem d_X10_attach_14 : DC mX10_attach 14 (.goto 38) 3 17 := ⟨by decide +kernel, rfl⟩
theorem d_X10_attach_17 : DC mX10_attach 17 (.aload_n 0) 1 18 := ⟨by decide +kernel, rfl⟩
theorem d_X10_attach_18 : DC mX10_attach 18 (.aload_n 0) 1 19 := ⟨by decide +kernel, rfl⟩
theorem d_X10_attach_19 : DC mX10_attach 19 (.getfield 7) 3 22 := ⟨by decide +kernel, rfl⟩
theorem d_X10_attach_22 : DC mX10_attach 22 (.iload_n 2) 1 23 := ⟨by decide +kernel, rfl⟩
theorem d_X10_attach_23 : DC mX10_attach 23 (.invokestatic 23) 3 26 := ⟨by decide +kernel, rfl⟩
theorem d_X10_attach_26 : DC mX10_attach 26 (.invokestatic 28) 3 29 := ⟨by decide +kernel, rfl⟩
theorem d_X10_attach_29 : DC mX10_attach 29 (.putfield 7) 3 32 := ⟨by decide +kernel, rfl⟩
theorem d_X10_attach_32 : DC mX10_attach 32 (.aload_n 0) 1 33 := ⟨by decide +kernel, rfl⟩
theorem d_X10_attach_33 : DC mX10_attach 33 (.iload_n 2) 1 34 := ⟨by decide +kernel, rfl⟩
theorem d_X10_attach_34 : DC mX10_attach 34 (.ifCond .ge 11) 3 37 := ⟨by decide +kernel, rfl⟩
theorem d_X10_attach_37 : DC mX10_attach 37 (.aload_n 0) 1 38 := ⟨by decide +kernel, rfl⟩
theorem d_X10_attach_38 : DC mX10_attach 38 (.getfield 13) 3 41 := ⟨by decide +kernel, rfl⟩
theorem d_X10_attach_41 : DC mX10_attach 41 (.ineg) 1 42 := ⟨by decide +kernel, rfl⟩
theorem d_X10_attach_42 : DC mX10_attach 42 (.goto 7) 3 45 := ⟨by decide +kernel, rfl⟩
theorem d_X10_attach_45 : DC mX10_attach 45 (.aload_n 0) 1 46 := ⟨by decide +kernel, rfl⟩
theorem d_X10_attach_46 : DC mX10_attach 46 (.getfield 13) 3 49 := ⟨by decide +kernel, rfl⟩
theorem d_X10_attach_49 : DC mX10_attach 49 (.putfield 13) 3 52 := ⟨by decide +kernel, rfl⟩
theorem d_X10_attach_52 : DC mX10_attach 52 (.return_) 1 53 := ⟨by decide +kernel, rfl⟩
theorem d_X6_joined_0 : DC mX6_joined 0 (.lload_n 0) 1 1 := ⟨by decide +kernel, rfl⟩
theorem d_X6_joined_1 : DC mX6_joined 1 (.lstore 4) 2 3 := ⟨by decide +kernel, rfl⟩
theorem d_X6_joined_3 : DC mX6_joined 3 (.iconst 0) 1 4 := ⟨by decide +kernel, rfl⟩
theorem d_X6_joined_4 : DC mX6_joined 4 (.istore 6) 2 6 := ⟨by decide +kernel, rfl⟩
theorem d_X6_joined_6 : DC mX6_joined 6 (.iload 6) 2 8 := ⟨by decide +kernel, rfl⟩
theorem d_X6_joined_8 : DC mX6_joined 8 (.iconst 4) 1 9 := ⟨by decide +kernel, rfl⟩
theorem d_X6_joined_9 : DC mX6_joined 9 (.if_icmp .ge 31) 3 12 := ⟨by decide +kernel, rfl⟩
theorem d_X6_joined_12 : DC mX6_joined 12 (.lload_n 2) 1 13 := ⟨by decide +kernel, rfl⟩
theorem d_X6_joined_13 : DC mX6_joined 13 (.iload 6) 2 15 := ⟨by decide +kernel, rfl⟩
theorem d_X6_joined_15 : DC mX6_joined 15 (.invokestatic 15) 3 18 := ⟨by decide +kernel, rfl⟩
theorem d_X6_joined_18 : DC mX6_joined 18 (.istore 7) 2 20 := ⟨by decide +kernel, rfl⟩
theorem d_X6_joined_20 : DC mX6_joined 20 (.iload 7) 2 22 := ⟨by decide +kernel, rfl⟩
theorem d_X6_joined_22 : DC mX6_joined 22 (.ifCond .eq 12) 3 25 := ⟨by decide +kernel, rfl⟩
theorem d_X6_joined_25 : DC mX6_joined 25 (.lload 4) 2 27 := ⟨by decide +kernel, rfl⟩
theorem d_X6_joined_27 : DC mX6_joined 27 (.iload 7) 2 29 := ⟨by decide +kernel, rfl⟩
theorem d_X6_joined_29 : DC mX6_joined 29 (.invokestatic 22) 3 32 := ⟨by decide +kernel, rfl⟩
theorem d_X6_joined_32 : DC mX6_joined 32 (.lstore 4) 2 34 := ⟨by decide +kernel, rfl⟩
theorem d_X6_joined_34 : DC mX6_joined 34 (.iinc 6 1) 3 37 := ⟨by decide +kernel, rfl⟩
theorem d_X6_joined_37 : DC mX6_joined 37 (.goto (-31)) 3 40 := ⟨by decide +kernel, rfl⟩
theorem d_X6_joined_40 : DC mX6_joined 40 (.lload 4) 2 42 := ⟨by decide +kernel, rfl⟩
theorem d_X6_joined_42 : DC mX6_joined 42 (.lreturn) 1 43 := ⟨by decide +kernel, rfl⟩
theorem d_X5_layProduct_0 : DC mX5_layProduct 0 (.iconst 0) 1 1 := ⟨by decide +kernel, rfl⟩
theorem d_X5_layProduct_1 : DC mX5_layProduct 1 (.istore_n 3) 1 2 := ⟨by decide +kernel, rfl⟩
theorem d_X5_layProduct_2 : DC mX5_layProduct 2 (.iconst 0) 1 3 := ⟨by decide +kernel, rfl⟩
theorem d_X5_layProduct_3 : DC mX5_layProduct 3 (.istore 4) 2 5 := ⟨by decide +kernel, rfl⟩
theorem d_X5_layProduct_5 : DC mX5_layProduct 5 (.iload 4) 2 7 := ⟨by decide +kernel, rfl⟩
theorem d_X5_layProduct_7 : DC mX5_layProduct 7 (.aload_n 1) 1 8 := ⟨by decide +kernel, rfl⟩
theorem d_X5_layProduct_8 : DC mX5_layProduct 8 (.getfield 19) 3 11 := ⟨by decide +kernel, rfl⟩
theorem d_X5_layProduct_11 : DC mX5_layProduct 11 (.if_icmp .ge 100) 3 14 := ⟨by decide +kernel, rfl⟩
theorem d_X5_layProduct_14 : DC mX5_layProduct 14 (.iload_n 3) 1 15 := ⟨by decide +kernel, rfl⟩
theorem d_X5_layProduct_15 : DC mX5_layProduct 15 (.ifCond .ne 96) 3 18 := ⟨by decide +kernel, rfl⟩
theorem d_X5_layProduct_18 : DC mX5_layProduct 18 (.iconst 0) 1 19 := ⟨by decide +kernel, rfl⟩
theorem d_X5_layProduct_19 : DC mX5_layProduct 19 (.istore 5) 2 21 := ⟨by decide +kernel, rfl⟩
theorem d_X5_layProduct_21 : DC mX5_layProduct 21 (.iload 5) 2 23 := ⟨by decide +kernel, rfl⟩
theorem d_X5_layProduct_23 : DC mX5_layProduct 23 (.aload_n 2) 1 24 := ⟨by decide +kernel, rfl⟩
theorem d_X5_layProduct_24 : DC mX5_layProduct 24 (.getfield 19) 3 27 := ⟨by decide +kernel, rfl⟩
theorem d_X5_layProduct_27 : DC mX5_layProduct 27 (.if_icmp .ge 78) 3 30 := ⟨by decide +kernel, rfl⟩
theorem d_X5_layProduct_30 : DC mX5_layProduct 30 (.iload_n 3) 1 31 := ⟨by decide +kernel, rfl⟩
theorem d_X5_layProduct_31 : DC mX5_layProduct 31 (.ifCond .ne 74) 3 34 := ⟨by decide +kernel, rfl⟩
theorem d_X5_layProduct_34 : DC mX5_layProduct 34 (.aload_n 1) 1 35 := ⟨by decide +kernel, rfl⟩
theorem d_X5_layProduct_35 : DC mX5_layProduct 35 (.getfield 9) 3 38 := ⟨by decide +kernel, rfl⟩
theorem d_X5_layProduct_38 : DC mX5_layProduct 38 (.iload 4) 2 40 := ⟨by decide +kernel, rfl⟩
theorem d_X5_layProduct_40 : DC mX5_layProduct 40 (.laload) 1 41 := ⟨by decide +kernel, rfl⟩
theorem d_X5_layProduct_41 : DC mX5_layProduct 41 (.lstore 6) 2 43 := ⟨by decide +kernel, rfl⟩
theorem d_X5_layProduct_43 : DC mX5_layProduct 43 (.lload 6) 2 45 := ⟨by decide +kernel, rfl⟩
theorem d_X5_layProduct_45 : DC mX5_layProduct 45 (.invokestatic 41) 3 48 := ⟨by decide +kernel, rfl⟩
theorem d_X5_layProduct_48 : DC mX5_layProduct 48 (.aload_n 2) 1 49 := ⟨by decide +kernel, rfl⟩
theorem d_X5_layProduct_49 : DC mX5_layProduct 49 (.getfield 9) 3 52 := ⟨by decide +kernel, rfl⟩
theorem d_X5_layProduct_52 : DC mX5_layProduct 52 (.iload 5) 2 54 := ⟨by decide +kernel, rfl⟩
theorem d_X5_layProduct_54 : DC mX5_layProduct 54 (.laload) 1 55 := ⟨by decide +kernel, rfl⟩
theorem d_X5_layProduct_55 : DC mX5_layProduct 55 (.invokestatic 41) 3 58 := ⟨by decide +kernel, rfl⟩
theorem d_X5_layProduct_58 : DC mX5_layProduct 58 (.iadd) 1 59 := ⟨by decide +kernel, rfl⟩
theorem d_X5_layProduct_59 : DC mX5_layProduct 59 (.iconst 4) 1 60 := ⟨by decide +kernel, rfl⟩
theorem d_X5_layProduct_60 : DC mX5_layProduct 60 (.if_icmp .le 5) 3 63 := ⟨by decide +kernel, rfl⟩
theorem d_X5_layProduct_63 : DC mX5_layProduct 63 (.iconst 2) 1 64 := ⟨by decide +kernel, rfl⟩
theorem d_X5_layProduct_64 : DC mX5_layProduct 64 (.ireturn) 1 65 := ⟨by decide +kernel, rfl⟩
theorem d_X5_layProduct_65 : DC mX5_layProduct 65 (.aload_n 0) 1 66 := ⟨by decide +kernel, rfl⟩
theorem d_X5_layProduct_66 : DC mX5_layProduct 66 (.lload 6) 2 68 := ⟨by decide +kernel, rfl⟩
theorem d_X5_layProduct_68 : DC mX5_layProduct 68 (.aload_n 2) 1 69 := ⟨by decide +kernel, rfl⟩
theorem d_X5_layProduct_69 : DC mX5_layProduct 69 (.getfield 9) 3 72 := ⟨by decide +kernel, rfl⟩
theorem d_X5_layProduct_72 : DC mX5_layProduct 72 (.iload 5) 2 74 := ⟨by decide +kernel, rfl⟩
theorem d_X5_layProduct_74 : DC mX5_layProduct 74 (.laload) 1 75 := ⟨by decide +kernel, rfl⟩
theorem d_X5_layProduct_75 : DC mX5_layProduct 75 (.invokestatic 46) 3 78 := ⟨by decide +kernel, rfl⟩
theorem d_X5_layProduct_78 : DC mX5_layProduct 78 (.aload_n 1) 1 79 := ⟨by decide +kernel, rfl⟩
theorem d_X5_layProduct_79 : DC mX5_layProduct 79 (.getfield 15) 3 82 := ⟨by decide +kernel, rfl⟩
theorem d_X5_layProduct_82 : DC mX5_layProduct 82 (.iload 4) 2 84 := ⟨by decide +kernel, rfl⟩
theorem d_X5_layProduct_84 : DC mX5_layProduct 84 (.iaload) 1 85 := ⟨by decide +kernel, rfl⟩
theorem d_X5_layProduct_85 : DC mX5_layProduct 85 (.i2l) 1 86 := ⟨by decide +kernel, rfl⟩
theorem d_X5_layProduct_86 : DC mX5_layProduct 86 (.aload_n 2) 1 87 := ⟨by decide +kernel, rfl⟩
theorem d_X5_layProduct_87 : DC mX5_layProduct 87 (.getfield 15) 3 90 := ⟨by decide +kernel, rfl⟩
theorem d_X5_layProduct_90 : DC mX5_layProduct 90 (.iload 5) 2 92 := ⟨by decide +kernel, rfl⟩
theorem d_X5_layProduct_92 : DC mX5_layProduct 92 (.iaload) 1 93 := ⟨by decide +kernel, rfl⟩
theorem d_X5_layProduct_93 : DC mX5_layProduct 93 (.i2l) 1 94 := ⟨by decide +kernel, rfl⟩
theorem d_X5_layProduct_94 : DC mX5_layProduct 94 (.lmul) 1 95 := ⟨by decide +kernel, rfl⟩
theorem d_X5_layProduct_95 : DC mX5_layProduct 95 (.invokevirtual 37) 3 98 := ⟨by decide +kernel, rfl⟩
theorem d_X5_layProduct_98 : DC mX5_layProduct 98 (.istore_n 3) 1 99 := ⟨by decide +kernel, rfl⟩
theorem d_X5_layProduct_99 : DC mX5_layProduct 99 (.iinc 5 1) 3 102 := ⟨by decide +kernel, rfl⟩
theorem d_X5_layProduct_102 : DC mX5_layProduct 102 (.goto (-81)) 3 105 := ⟨by decide +kernel, rfl⟩
theorem d_X5_layProduct_105 : DC mX5_layProduct 105 (.iinc 4 1) 3 108 := ⟨by decide +kernel, rfl⟩
theorem d_X5_layProduct_108 : DC mX5_layProduct 108 (.goto (-103)) 3 111 := ⟨by decide +kernel, rfl⟩
theorem d_X5_layProduct_111 : DC mX5_layProduct 111 (.iload_n 3) 1 112 := ⟨by decide +kernel, rfl⟩
theorem d_X5_layProduct_112 : DC mX5_layProduct 112 (.ireturn) 1 113 := ⟨by decide +kernel, rfl⟩
theorem d_X5_laySum_0 : DC mX5_laySum 0 (.iconst 0) 1 1 := ⟨by decide +kernel, rfl⟩
theorem d_X5_laySum_1 : DC mX5_laySum 1 (.istore_n 3) 1 2 := ⟨by decide +kernel, rfl⟩
theorem d_X5_laySum_2 : DC mX5_laySum 2 (.iconst 0) 1 3 := ⟨by decide +kernel, rfl⟩
theorem d_X5_laySum_3 : DC mX5_laySum 3 (.istore 4) 2 5 := ⟨by decide +kernel, rfl⟩
theorem d_X5_laySum_5 : DC mX5_laySum 5 (.iload 4) 2 7 := ⟨by decide +kernel, rfl⟩
theorem d_X5_laySum_7 : DC mX5_laySum 7 (.aload_n 1) 1 8 := ⟨by decide +kernel, rfl⟩
theorem d_X5_laySum_8 : DC mX5_laySum 8 (.getfield 19) 3 11 := ⟨by decide +kernel, rfl⟩
theorem d_X5_laySum_11 : DC mX5_laySum 11 (.if_icmp .ge 36) 3 14 := ⟨by decide +kernel, rfl⟩
theorem d_X5_laySum_14 : DC mX5_laySum 14 (.iload_n 3) 1 15 := ⟨by decide +kernel, rfl⟩
theorem d_X5_laySum_15 : DC mX5_laySum 15 (.ifCond .ne 32) 3 18 := ⟨by decide +kernel, rfl⟩
theorem d_X5_laySum_18 : DC mX5_laySum 18 (.aload_n 0) 1 19 := ⟨by decide +kernel, rfl⟩
theorem d_X5_laySum_19 : DC mX5_laySum 19 (.aload_n 1) 1 20 := ⟨by decide +kernel, rfl⟩
theorem d_X5_laySum_20 : DC mX5_laySum 20 (.getfield 9) 3 23 := ⟨by decide +kernel, rfl⟩
theorem d_X5_laySum_23 : DC mX5_laySum 23 (.iload 4) 2 25 := ⟨by decide +kernel, rfl⟩
theorem d_X5_laySum_25 : DC mX5_laySum 25 (.laload) 1 26 := ⟨by decide +kernel, rfl⟩
theorem d_X5_laySum_26 : DC mX5_laySum 26 (.aload_n 1) 1 27 := ⟨by decide +kernel, rfl⟩
theorem d_X5_laySum_27 : DC mX5_laySum 27 (.getfield 15) 3 30 := ⟨by decide +kernel, rfl⟩
theorem d_X5_laySum_30 : DC mX5_laySum 30 (.iload 4) 2 32 := ⟨by decide +kernel, rfl⟩
theorem d_X5_laySum_32 : DC mX5_laySum 32 (.iaload) 1 33 := ⟨by decide +kernel, rfl⟩
theorem d_X5_laySum_33 : DC mX5_laySum 33 (.i2l) 1 34 := ⟨by decide +kernel, rfl⟩
theorem d_X5_laySum_34 : DC mX5_laySum 34 (.iload_n 2) 1 35 := ⟨by decide +kernel, rfl⟩
theorem d_X5_laySum_35 : DC mX5_laySum 35 (.i2l) 1 36 := ⟨by decide +kernel, rfl⟩
theorem d_X5_laySum_36 : DC mX5_laySum 36 (.lmul) 1 37 := ⟨by decide +kernel, rfl⟩
theorem d_X5_laySum_37 : DC mX5_laySum 37 (.invokevirtual 37) 3 40 := ⟨by decide +kernel, rfl⟩
theorem d_X5_laySum_40 : DC mX5_laySum 40 (.istore_n 3) 1 41 := ⟨by decide +kernel, rfl⟩
theorem d_X5_laySum_41 : DC mX5_laySum 41 (.iinc 4 1) 3 44 := ⟨by decide +kernel, rfl⟩
theorem d_X5_laySum_44 : DC mX5_laySum 44 (.goto (-39)) 3 47 := ⟨by decide +kernel, rfl⟩
theorem d_X5_laySum_47 : DC mX5_laySum 47 (.iload_n 3) 1 48 := ⟨by decide +kernel, rfl⟩
theorem d_X5_laySum_48 : DC mX5_laySum 48 (.ireturn) 1 49 := ⟨by decide +kernel, rfl⟩
theorem d_X2_layTimesThree_0 : DC mX2_layTimesThree 0 (.aload_n 0) 1 1 := ⟨by decide +kernel, rfl⟩
theorem d_X2_layTimesThree_1 : DC mX2_layTimesThree 1 (.getfield 29) 3 4 := ⟨by decide +kernel, rfl⟩
theorem d_X2_layTimesThree_4 : DC mX2_layTimesThree 4 (.invokevirtual 71) 3 7 := ⟨by decide +kernel, rfl⟩
theorem d_X2_layTimesThree_7 : DC mX2_layTimesThree 7 (.aload_n 0) 1 8 := ⟨by decide +kernel, rfl⟩
theorem d_X2_layTimesThree_8 : DC mX2_layTimesThree 8 (.getfield 29) 3 11 := ⟨by decide +kernel, rfl⟩
theorem d_X2_layTimesThree_11 : DC mX2_layTimesThree 11 (.aload_n 0) 1 12 := ⟨by decide +kernel, rfl⟩
theorem d_X2_layTimesThree_12 : DC mX2_layTimesThree 12 (.getfield 45) 3 15 := ⟨by decide +kernel, rfl⟩
theorem d_X2_layTimesThree_15 : DC mX2_layTimesThree 15 (.getfield 101) 3 18 := ⟨by decide +kernel, rfl⟩
theorem d_X2_layTimesThree_18 : DC mX2_layTimesThree 18 (.aload_n 0) 1 19 := ⟨by decide +kernel, rfl⟩
theorem d_X2_layTimesThree_19 : DC mX2_layTimesThree 19 (.getfield 45) 3 22 := ⟨by decide +kernel, rfl⟩
theorem d_X2_layTimesThree_22 : DC mX2_layTimesThree 22 (.getfield 105) 3 25 := ⟨by decide +kernel, rfl⟩
theorem d_X2_layTimesThree_25 : DC mX2_layTimesThree 25 (.i2l) 1 26 := ⟨by decide +kernel, rfl⟩
theorem d_X2_layTimesThree_26 : DC mX2_layTimesThree 26 (.invokevirtual 59) 3 29 := ⟨by decide +kernel, rfl⟩
theorem d_X2_layTimesThree_29 : DC mX2_layTimesThree 29 (.pop) 1 30 := ⟨by decide +kernel, rfl⟩
theorem d_X2_layTimesThree_30 : DC mX2_layTimesThree 30 (.aload_n 0) 1 31 := ⟨by decide +kernel, rfl⟩
theorem d_X2_layTimesThree_31 : DC mX2_layTimesThree 31 (.getfield 33) 3 34 := ⟨by decide +kernel, rfl⟩
theorem d_X2_layTimesThree_34 : DC mX2_layTimesThree 34 (.invokevirtual 71) 3 37 := ⟨by decide +kernel, rfl⟩
theorem d_X2_layTimesThree_37 : DC mX2_layTimesThree 37 (.aload_n 0) 1 38 := ⟨by decide +kernel, rfl⟩
theorem d_X2_layTimesThree_38 : DC mX2_layTimesThree 38 (.getfield 33) 3 41 := ⟨by decide +kernel, rfl⟩
theorem d_X2_layTimesThree_41 : DC mX2_layTimesThree 41 (.aload_n 0) 1 42 := ⟨by decide +kernel, rfl⟩
theorem d_X2_layTimesThree_42 : DC mX2_layTimesThree 42 (.getfield 29) 3 45 := ⟨by decide +kernel, rfl⟩
theorem d_X2_layTimesThree_45 : DC mX2_layTimesThree 45 (.aload_n 2) 1 46 := ⟨by decide +kernel, rfl⟩
theorem d_X2_layTimesThree_46 : DC mX2_layTimesThree 46 (.invokevirtual 73) 3 49 := ⟨by decide +kernel, rfl⟩
theorem d_X2_layTimesThree_49 : DC mX2_layTimesThree 49 (.istore 5) 2 51 := ⟨by decide +kernel, rfl⟩
theorem d_X2_layTimesThree_51 : DC mX2_layTimesThree 51 (.iload 5) 2 53 := ⟨by decide +kernel, rfl⟩
theorem d_X2_layTimesThree_53 : DC mX2_layTimesThree 53 (.ifCond .ne 24) 3 56 := ⟨by decide +kernel, rfl⟩
theorem d_X2_layTimesThree_56 : DC mX2_layTimesThree 56 (.aload_n 0) 1 57 := ⟨by decide +kernel, rfl⟩
theorem d_X2_layTimesThree_57 : DC mX2_layTimesThree 57 (.getfield 29) 3 60 := ⟨by decide +kernel, rfl⟩
theorem d_X2_layTimesThree_60 : DC mX2_layTimesThree 60 (.invokevirtual 71) 3 63 := ⟨by decide +kernel, rfl⟩
theorem d_X2_layTimesThree_63 : DC mX2_layTimesThree 63 (.aload_n 0) 1 64 := ⟨by decide +kernel, rfl⟩
theorem d_X2_layTimesThree_64 : DC mX2_layTimesThree 64 (.getfield 29) 3 67 := ⟨by decide +kernel, rfl⟩
theorem d_X2_layTimesThree_67 : DC mX2_layTimesThree 67 (.aload_n 0) 1 68 := ⟨by decide +kernel, rfl⟩
theorem d_X2_layTimesThree_68 : DC mX2_layTimesThree 68 (.getfield 33) 3 71 := ⟨by decide +kernel, rfl⟩
theorem d_X2_layTimesThree_71 : DC mX2_layTimesThree 71 (.aload_n 3) 1 72 := ⟨by decide +kernel, rfl⟩
theorem d_X2_layTimesThree_72 : DC mX2_layTimesThree 72 (.invokevirtual 73) 3 75 := ⟨by decide +kernel, rfl⟩
theorem d_X2_layTimesThree_75 : DC mX2_layTimesThree 75 (.istore 5) 2 77 := ⟨by decide +kernel, rfl⟩
theorem d_X2_layTimesThree_77 : DC mX2_layTimesThree 77 (.iload 5) 2 79 := ⟨by decide +kernel, rfl⟩
theorem d_X2_layTimesThree_79 : DC mX2_layTimesThree 79 (.ifCond .ne 25) 3 82 := ⟨by decide +kernel, rfl⟩
theorem d_X2_layTimesThree_82 : DC mX2_layTimesThree 82 (.aload_n 0) 1 83 := ⟨by decide +kernel, rfl⟩
theorem d_X2_layTimesThree_83 : DC mX2_layTimesThree 83 (.getfield 33) 3 86 := ⟨by decide +kernel, rfl⟩
theorem d_X2_layTimesThree_86 : DC mX2_layTimesThree 86 (.invokevirtual 71) 3 89 := ⟨by decide +kernel, rfl⟩
theorem d_X2_layTimesThree_89 : DC mX2_layTimesThree 89 (.aload_n 0) 1 90 := ⟨by decide +kernel, rfl⟩
theorem d_X2_layTimesThree_90 : DC mX2_layTimesThree 90 (.getfield 33) 3 93 := ⟨by decide +kernel, rfl⟩
theorem d_X2_layTimesThree_93 : DC mX2_layTimesThree 93 (.aload_n 0) 1 94 := ⟨by decide +kernel, rfl⟩
theorem d_X2_layTimesThree_94 : DC mX2_layTimesThree 94 (.getfield 29) 3 97 := ⟨by decide +kernel, rfl⟩
theorem d_X2_layTimesThree_97 : DC mX2_layTimesThree 97 (.aload 4) 2 99 := ⟨by decide +kernel, rfl⟩
theorem d_X2_layTimesThree_99 : DC mX2_layTimesThree 99 (.invokevirtual 73) 3 102 := ⟨by decide +kernel, rfl⟩
theorem d_X2_layTimesThree_102 : DC mX2_layTimesThree 102 (.istore 5) 2 104 := ⟨by decide +kernel, rfl⟩
theorem d_X2_layTimesThree_104 : DC mX2_layTimesThree 104 (.iload 5) 2 106 := ⟨by decide +kernel, rfl⟩
theorem d_X2_layTimesThree_106 : DC mX2_layTimesThree 106 (.ifCond .ne 15) 3 109 := ⟨by decide +kernel, rfl⟩
theorem d_X2_layTimesThree_109 : DC mX2_layTimesThree 109 (.aload_n 1) 1 110 := ⟨by decide +kernel, rfl⟩
theorem d_X2_layTimesThree_110 : DC mX2_layTimesThree 110 (.aload_n 0) 1 111 := ⟨by decide +kernel, rfl⟩
theorem d_X2_layTimesThree_111 : DC mX2_layTimesThree 111 (.getfield 33) 3 114 := ⟨by decide +kernel, rfl⟩
theorem d_X2_layTimesThree_114 : DC mX2_layTimesThree 114 (.iconst 1) 1 115 := ⟨by decide +kernel, rfl⟩
theorem d_X2_layTimesThree_115 : DC mX2_layTimesThree 115 (.invokevirtual 77) 3 118 := ⟨by decide +kernel, rfl⟩
theorem d_X2_layTimesThree_118 : DC mX2_layTimesThree 118 (.goto 5) 3 121 := ⟨by decide +kernel, rfl⟩
theorem d_X2_layTimesThree_121 : DC mX2_layTimesThree 121 (.iload 5) 2 123 := ⟨by decide +kernel, rfl⟩
theorem d_X2_layTimesThree_123 : DC mX2_layTimesThree 123 (.ireturn) 1 124 := ⟨by decide +kernel, rfl⟩
theorem d_X2_makeBracket_0 : DC mX2_makeBracket 0 (.aload_n 1) 1 1 := ⟨by decide +kernel, rfl⟩
theorem d_X2_makeBracket_1 : DC mX2_makeBracket 1 (.invokevirtual 71) 3 4 := ⟨by decide +kernel, rfl⟩
theorem d_X2_makeBracket_4 : DC mX2_makeBracket 4 (.iconst 0) 1 5 := ⟨by decide +kernel, rfl⟩
theorem d_X2_makeBracket_5 : DC mX2_makeBracket 5 (.istore 5) 2 7 := ⟨by decide +kernel, rfl⟩
theorem d_X2_makeBracket_7 : DC mX2_makeBracket 7 (.iconst 0) 1 8 := ⟨by decide +kernel, rfl⟩
theorem d_X2_makeBracket_8 : DC mX2_makeBracket 8 (.istore 6) 2 10 := ⟨by decide +kernel, rfl⟩
theorem d_X2_makeBracket_10 : DC mX2_makeBracket 10 (.iload 6) 2 12 := ⟨by decide +kernel, rfl⟩
theorem d_X2_makeBracket_12 : DC mX2_makeBracket 12 (.bipush 10) 2 14 := ⟨by decide +kernel, rfl⟩
theorem d_X2_makeBracket_14 : DC mX2_makeBracket 14 (.if_icmp .ge 178) 3 17 := ⟨by decide +kernel, rfl⟩
theorem d_X2_makeBracket_17 : DC mX2_makeBracket 17 (.aload_n 0) 1 18 := ⟨by decide +kernel, rfl⟩
theorem d_X2_makeBracket_18 : DC mX2_makeBracket 18 (.getfield 13) 3 21 := ⟨by decide +kernel, rfl⟩
theorem d_X2_makeBracket_21 : DC mX2_makeBracket 21 (.iload_n 2) 1 22 := ⟨by decide +kernel, rfl⟩
theorem d_X2_makeBracket_22 : DC mX2_makeBracket 22 (.iload 6) 2 24 := ⟨by decide +kernel, rfl⟩
theorem d_X2_makeBracket_24 : DC mX2_makeBracket 24 (.iadd) 1 25 := ⟨by decide +kernel, rfl⟩
theorem d_X2_makeBracket_25 : DC mX2_makeBracket 25 (.aaload) 1 26 := ⟨by decide +kernel, rfl⟩
theorem d_X2_makeBracket_26 : DC mX2_makeBracket 26 (.getfield 81) 3 29 := ⟨by decide +kernel, rfl⟩
theorem d_X2_makeBracket_29 : DC mX2_makeBracket 29 (.ifCond .ne 6) 3 32 := ⟨by decide +kernel, rfl⟩
theorem d_X2_makeBracket_32 : DC mX2_makeBracket 32 (.goto 154) 3 35 := ⟨by decide +kernel, rfl⟩
theorem d_X2_makeBracket_35 : DC mX2_makeBracket 35 (.iconst 0) 1 36 := ⟨by decide +kernel, rfl⟩
theorem d_X2_makeBracket_36 : DC mX2_makeBracket 36 (.istore 7) 2 38 := ⟨by decide +kernel, rfl⟩
theorem d_X2_makeBracket_38 : DC mX2_makeBracket 38 (.iload 7) 2 40 := ⟨by decide +kernel, rfl⟩
theorem d_X2_makeBracket_40 : DC mX2_makeBracket 40 (.bipush 10) 2 42 := ⟨by decide +kernel, rfl⟩
theorem d_X2_makeBracket_42 : DC mX2_makeBracket 42 (.if_icmp .ge 144) 3 45 := ⟨by decide +kernel, rfl⟩
theorem d_X2_makeBracket_45 : DC mX2_makeBracket 45 (.aload_n 0) 1 46 := ⟨by decide +kernel, rfl⟩
theorem d_X2_makeBracket_46 : DC mX2_makeBracket 46 (.getfield 13) 3 49 := ⟨by decide +kernel, rfl⟩
theorem d_X2_makeBracket_49 : DC mX2_makeBracket 49 (.iload_n 3) 1 50 := ⟨by decide +kernel, rfl⟩
theorem d_X2_makeBracket_50 : DC mX2_makeBracket 50 (.iload 7) 2 52 := ⟨by decide +kernel, rfl⟩
theorem d_X2_makeBracket_52 : DC mX2_makeBracket 52 (.iadd) 1 53 := ⟨by decide +kernel, rfl⟩
theorem d_X2_makeBracket_53 : DC mX2_makeBracket 53 (.aaload) 1 54 := ⟨by decide +kernel, rfl⟩
theorem d_X2_makeBracket_54 : DC mX2_makeBracket 54 (.getfield 81) 3 57 := ⟨by decide +kernel, rfl⟩
theorem d_X2_makeBracket_57 : DC mX2_makeBracket 57 (.ifCond .eq 123) 3 60 := ⟨by decide +kernel, rfl⟩
theorem d_X2_makeBracket_60 : DC mX2_makeBracket 60 (.iload 6) 2 62 := ⟨by decide +kernel, rfl⟩
theorem d_X2_makeBracket_62 : DC mX2_makeBracket 62 (.iload 7) 2 64 := ⟨by decide +kernel, rfl⟩
theorem d_X2_makeBracket_64 : DC mX2_makeBracket 64 (.if_icmp .ne 6) 3 67 := ⟨by decide +kernel, rfl⟩
theorem d_X2_makeBracket_67 : DC mX2_makeBracket 67 (.goto 113) 3 70 := ⟨by decide +kernel, rfl⟩
theorem d_X2_makeBracket_70 : DC mX2_makeBracket 70 (.iconst 0) 1 71 := ⟨by decide +kernel, rfl⟩
theorem d_X2_makeBracket_71 : DC mX2_makeBracket 71 (.istore 8) 2 73 := ⟨by decide +kernel, rfl⟩
theorem d_X2_makeBracket_73 : DC mX2_makeBracket 73 (.iload 8) 2 75 := ⟨by decide +kernel, rfl⟩
theorem d_X2_makeBracket_75 : DC mX2_makeBracket 75 (.bipush 10) 2 77 := ⟨by decide +kernel, rfl⟩
theorem d_X2_makeBracket_77 : DC mX2_makeBracket 77 (.if_icmp .ge 103) 3 80 := ⟨by decide +kernel, rfl⟩
theorem d_X2_makeBracket_80 : DC mX2_makeBracket 80 (.iload 5) 2 82 := ⟨by decide +kernel, rfl⟩
theorem d_X2_makeBracket_82 : DC mX2_makeBracket 82 (.ifCond .ne 98) 3 85 := ⟨by decide +kernel, rfl⟩
theorem d_X2_makeBracket_85 : DC mX2_makeBracket 85 (.aload_n 0) 1 86 := ⟨by decide +kernel, rfl⟩
theorem d_X2_makeBracket_86 : DC mX2_makeBracket 86 (.getfield 13) 3 89 := ⟨by decide +kernel, rfl⟩
theorem d_X2_makeBracket_89 : DC mX2_makeBracket 89 (.iload 4) 2 91 := ⟨by decide +kernel, rfl⟩
theorem d_X2_makeBracket_91 : DC mX2_makeBracket 91 (.iload 8) 2 93 := ⟨by decide +kernel, rfl⟩
theorem d_X2_makeBracket_93 : DC mX2_makeBracket 93 (.iadd) 1 94 := ⟨by decide +kernel, rfl⟩
theorem d_X2_makeBracket_94 : DC mX2_makeBracket 94 (.aaload) 1 95 := ⟨by decide +kernel, rfl⟩
theorem d_X2_makeBracket_95 : DC mX2_makeBracket 95 (.getfield 81) 3 98 := ⟨by decide +kernel, rfl⟩
theorem d_X2_makeBracket_98 : DC mX2_makeBracket 98 (.ifCond .eq 76) 3 101 := ⟨by decide +kernel, rfl⟩
theorem d_X2_makeBracket_101 : DC mX2_makeBracket 101 (.iload 6) 2 103 := ⟨by decide +kernel, rfl⟩
theorem d_X2_makeBracket_103 : DC mX2_makeBracket 103 (.iload 8) 2 105 := ⟨by decide +kernel, rfl⟩
theorem d_X2_makeBracket_105 : DC mX2_makeBracket 105 (.if_icmp .eq 69) 3 108 := ⟨by decide +kernel, rfl⟩
theorem d_X2_makeBracket_108 : DC mX2_makeBracket 108 (.iload 7) 2 110 := ⟨by decide +kernel, rfl⟩
theorem d_X2_makeBracket_110 : DC mX2_makeBracket 110 (.iload 8) 2 112 := ⟨by decide +kernel, rfl⟩
theorem d_X2_makeBracket_112 : DC mX2_makeBracket 112 (.if_icmp .eq 62) 3 115 := ⟨by decide +kernel, rfl⟩
theorem d_X2_makeBracket_115 : DC mX2_makeBracket 115 (.aload_n 0) 1 116 := ⟨by decide +kernel, rfl⟩
theorem d_X2_makeBracket_116 : DC mX2_makeBracket 116 (.getfield 45) 3 119 := ⟨by decide +kernel, rfl⟩
theorem d_X2_makeBracket_119 : DC mX2_makeBracket 119 (.lconst 0) 1 120 := ⟨by decide +kernel, rfl⟩
theorem d_X2_makeBracket_120 : DC mX2_makeBracket 120 (.invokevirtual 84) 3 123 := ⟨by decide +kernel, rfl⟩
theorem d_X2_makeBracket_123 : DC mX2_makeBracket 123 (.aload_n 0) 1 124 := ⟨by decide +kernel, rfl⟩
theorem d_X2_makeBracket_124 : DC mX2_makeBracket 124 (.getfield 45) 3 127 := ⟨by decide +kernel, rfl⟩
theorem d_X2_makeBracket_127 : DC mX2_makeBracket 127 (.iload 6) 2 129 := ⟨by decide +kernel, rfl⟩
theorem d_X2_makeBracket_129 : DC mX2_makeBracket 129 (.iload 7) 2 131 := ⟨by decide +kernel, rfl⟩
theorem d_X2_makeBracket_131 : DC mX2_makeBracket 131 (.iload 8) 2 133 := ⟨by decide +kernel, rfl⟩
theorem d_X2_makeBracket_133 : DC mX2_makeBracket 133 (.invokestatic 88) 3 136 := ⟨by decide +kernel, rfl⟩
theorem d_X2_makeBracket_136 : DC mX2_makeBracket 136 (.invokevirtual 94) 3 139 := ⟨by decide +kernel, rfl⟩
theorem d_X2_makeBracket_139 : DC mX2_makeBracket 139 (.aload_n 0) 1 140 := ⟨by decide +kernel, rfl⟩
theorem d_X2_makeBracket_140 : DC mX2_makeBracket 140 (.aload_n 1) 1 141 := ⟨by decide +kernel, rfl⟩
theorem d_X2_makeBracket_141 : DC mX2_makeBracket 141 (.aload_n 0) 1 142 := ⟨by decide +kernel, rfl⟩
theorem d_X2_makeBracket_142 : DC mX2_makeBracket 142 (.getfield 13) 3 145 := ⟨by decide +kernel, rfl⟩
theorem d_X2_makeBracket_145 : DC mX2_makeBracket 145 (.iload_n 2) 1 146 := ⟨by decide +kernel, rfl⟩
theorem d_X2_makeBracket_146 : DC mX2_makeBracket 146 (.iload 6) 2 148 := ⟨by decide +kernel, rfl⟩
theorem d_X2_makeBracket_148 : DC mX2_makeBracket 148 (.iadd) 1 149 := ⟨by decide +kernel, rfl⟩
theorem d_X2_makeBracket_149 : DC mX2_makeBracket 149 (.aaload) 1 150 := ⟨by decide +kernel, rfl⟩
theorem d_X2_makeBracket_150 : DC mX2_makeBracket 150 (.aload_n 0) 1 151 := ⟨by decide +kernel, rfl⟩
theorem d_X2_makeBracket_151 : DC mX2_makeBracket 151 (.getfield 13) 3 154 := ⟨by decide +kernel, rfl⟩
theorem d_X2_makeBracket_154 : DC mX2_makeBracket 154 (.iload_n 3) 1 155 := ⟨by decide +kernel, rfl⟩
theorem d_X2_makeBracket_155 : DC mX2_makeBracket 155 (.iload 7) 2 157 := ⟨by decide +kernel, rfl⟩
theorem d_X2_makeBracket_157 : DC mX2_makeBracket 157 (.iadd) 1 158 := ⟨by decide +kernel, rfl⟩
theorem d_X2_makeBracket_158 : DC mX2_makeBracket 158 (.aaload) 1 159 := ⟨by decide +kernel, rfl⟩
theorem d_X2_makeBracket_159 : DC mX2_makeBracket 159 (.aload_n 0) 1 160 := ⟨by decide +kernel, rfl⟩
theorem d_X2_makeBracket_160 : DC mX2_makeBracket 160 (.getfield 13) 3 163 := ⟨by decide +kernel, rfl⟩
theorem d_X2_makeBracket_163 : DC mX2_makeBracket 163 (.iload 4) 2 165 := ⟨by decide +kernel, rfl⟩
theorem d_X2_makeBracket_165 : DC mX2_makeBracket 165 (.iload 8) 2 167 := ⟨by decide +kernel, rfl⟩
theorem d_X2_makeBracket_167 : DC mX2_makeBracket 167 (.iadd) 1 168 := ⟨by decide +kernel, rfl⟩
theorem d_X2_makeBracket_168 : DC mX2_makeBracket 168 (.aaload) 1 169 := ⟨by decide +kernel, rfl⟩
theorem d_X2_makeBracket_169 : DC mX2_makeBracket 169 (.invokevirtual 97) 3 172 := ⟨by decide +kernel, rfl⟩
theorem d_X2_makeBracket_172 : DC mX2_makeBracket 172 (.istore 5) 2 174 := ⟨by decide +kernel, rfl⟩
theorem d_X2_makeBracket_174 : DC mX2_makeBracket 174 (.iinc 8 1) 3 177 := ⟨by decide +kernel, rfl⟩
theorem d_X2_makeBracket_177 : DC mX2_makeBracket 177 (.goto (-104)) 3 180 := ⟨by decide +kernel, rfl⟩
theorem d_X2_makeBracket_180 : DC mX2_makeBracket 180 (.iinc 7 1) 3 183 := ⟨by decide +kernel, rfl⟩
theorem d_X2_makeBracket_183 : DC mX2_makeBracket 183 (.goto (-145)) 3 186 := ⟨by decide +kernel, rfl⟩
theorem d_X2_makeBracket_186 : DC mX2_makeBracket 186 (.iinc 6 1) 3 189 := ⟨by decide +kernel, rfl⟩
theorem d_X2_makeBracket_189 : DC mX2_makeBracket 189 (.goto (-179)) 3 192 := ⟨by decide +kernel, rfl⟩
theorem d_X2_makeBracket_192 : DC mX2_makeBracket 192 (.iload 5) 2 194 := ⟨by decide +kernel, rfl⟩
theorem d_X2_makeBracket_194 : DC mX2_makeBracket 194 (.ireturn) 1 195 := ⟨by decide +kernel, rfl⟩
theorem d_X2_makeSpare_0 : DC mX2_makeSpare 0 (.aload_n 0) 1 1 := ⟨by decide +kernel, rfl⟩
theorem d_X2_makeSpare_1 : DC mX2_makeSpare 1 (.aload_n 0) 1 2 := ⟨by decide +kernel, rfl⟩
theorem d_X2_makeSpare_2 : DC mX2_makeSpare 2 (.getfield 25) 3 5 := ⟨by decide +kernel, rfl⟩
theorem d_X2_makeSpare_5 : DC mX2_makeSpare 5 (.invokevirtual 55) 3 8 := ⟨by decide +kernel, rfl⟩
theorem d_X2_makeSpare_8 : DC mX2_makeSpare 8 (.iconst 0) 1 9 := ⟨by decide +kernel, rfl⟩
theorem d_X2_makeSpare_9 : DC mX2_makeSpare 9 (.istore_n 3) 1 10 := ⟨by decide +kernel, rfl⟩
theorem d_X2_makeSpare_10 : DC mX2_makeSpare 10 (.iconst 0) 1 11 := ⟨by decide +kernel, rfl⟩
theorem d_X2_makeSpare_11 : DC mX2_makeSpare 11 (.istore 4) 2 13 := ⟨by decide +kernel, rfl⟩
theorem d_X2_makeSpare_13 : DC mX2_makeSpare 13 (.iload 4) 2 15 := ⟨by decide +kernel, rfl⟩
theorem d_X2_makeSpare_15 : DC mX2_makeSpare 15 (.bipush 10) 2 17 := ⟨by decide +kernel, rfl⟩
theorem d_X2_makeSpare_17 : DC mX2_makeSpare 17 (.if_icmp .ge 42) 3 20 := ⟨by decide +kernel, rfl⟩
theorem d_X2_makeSpare_20 : DC mX2_makeSpare 20 (.iload_n 3) 1 21 := ⟨by decide +kernel, rfl⟩
theorem d_X2_makeSpare_21 : DC mX2_makeSpare 21 (.ifCond .ne 38) 3 24 := ⟨by decide +kernel, rfl⟩
theorem d_X2_makeSpare_24 : DC mX2_makeSpare 24 (.aload_n 0) 1 25 := ⟨by decide +kernel, rfl⟩
theorem d_X2_makeSpare_25 : DC mX2_makeSpare 25 (.getfield 13) 3 28 := ⟨by decide +kernel, rfl⟩
theorem d_X2_makeSpare_28 : DC mX2_makeSpare 28 (.aload_n 0) 1 29 := ⟨by decide +kernel, rfl⟩
theorem d_X2_makeSpare_29 : DC mX2_makeSpare 29 (.getfield 25) 3 32 := ⟨by decide +kernel, rfl⟩
theorem d_X2_makeSpare_32 : DC mX2_makeSpare 32 (.iload 4) 2 34 := ⟨by decide +kernel, rfl⟩
theorem d_X2_makeSpare_34 : DC mX2_makeSpare 34 (.iadd) 1 35 := ⟨by decide +kernel, rfl⟩
theorem d_X2_makeSpare_35 : DC mX2_makeSpare 35 (.aaload) 1 36 := ⟨by decide +kernel, rfl⟩
theorem d_X2_makeSpare_36 : DC mX2_makeSpare 36 (.aload_n 0) 1 37 := ⟨by decide +kernel, rfl⟩
theorem d_X2_makeSpare_37 : DC mX2_makeSpare 37 (.getfield 36) 3 40 := ⟨by decide +kernel, rfl⟩
theorem d_X2_makeSpare_40 : DC mX2_makeSpare 40 (.aload_n 0) 1 41 := ⟨by decide +kernel, rfl⟩
theorem d_X2_makeSpare_41 : DC mX2_makeSpare 41 (.getfield 13) 3 44 := ⟨by decide +kernel, rfl⟩
theorem d_X2_makeSpare_44 : DC mX2_makeSpare 44 (.iload_n 2) 1 45 := ⟨by decide +kernel, rfl⟩
theorem d_X2_makeSpare_45 : DC mX2_makeSpare 45 (.iload 4) 2 47 := ⟨by decide +kernel, rfl⟩
theorem d_X2_makeSpare_47 : DC mX2_makeSpare 47 (.iadd) 1 48 := ⟨by decide +kernel, rfl⟩
theorem d_X2_makeSpare_48 : DC mX2_makeSpare 48 (.aaload) 1 49 := ⟨by decide +kernel, rfl⟩
theorem d_X2_makeSpare_49 : DC mX2_makeSpare 49 (.invokevirtual 73) 3 52 := ⟨by decide +kernel, rfl⟩
theorem d_X2_makeSpare_52 : DC mX2_makeSpare 52 (.istore_n 3) 1 53 := ⟨by decide +kernel, rfl⟩
theorem d_X2_makeSpare_53 : DC mX2_makeSpare 53 (.iinc 4 1) 3 56 := ⟨by decide +kernel, rfl⟩
theorem d_X2_makeSpare_56 : DC mX2_makeSpare 56 (.goto (-43)) 3 59 := ⟨by decide +kernel, rfl⟩
theorem d_X2_makeSpare_59 : DC mX2_makeSpare 59 (.iconst 0) 1 60 := ⟨by decide +kernel, rfl⟩
theorem d_X2_makeSpare_60 : DC mX2_makeSpare 60 (.istore 4) 2 62 := ⟨by decide +kernel, rfl⟩
theorem d_X2_makeSpare_62 : DC mX2_makeSpare 62 (.iload 4) 2 64 := ⟨by decide +kernel, rfl⟩
theorem d_X2_makeSpare_64 : DC mX2_makeSpare 64 (.bipush 10) 2 66 := ⟨by decide +kernel, rfl⟩
theorem d_X2_makeSpare_66 : DC mX2_makeSpare 66 (.if_icmp .ge 66) 3 69 := ⟨by decide +kernel, rfl⟩
theorem d_X2_makeSpare_69 : DC mX2_makeSpare 69 (.iload_n 3) 1 70 := ⟨by decide +kernel, rfl⟩
theorem d_X2_makeSpare_70 : DC mX2_makeSpare 70 (.ifCond .ne 62) 3 73 := ⟨by decide +kernel, rfl⟩
theorem d_X2_makeSpare_73 : DC mX2_makeSpare 73 (.aload_n 0) 1 74 := ⟨by decide +kernel, rfl⟩
theorem d_X2_makeSpare_74 : DC mX2_makeSpare 74 (.getfield 29) 3 77 := ⟨by decide +kernel, rfl⟩
theorem d_X2_makeSpare_77 : DC mX2_makeSpare 77 (.invokevirtual 71) 3 80 := ⟨by decide +kernel, rfl⟩
theorem d_X2_makeSpare_80 : DC mX2_makeSpare 80 (.aload_n 0) 1 81 := ⟨by decide +kernel, rfl⟩
theorem d_X2_makeSpare_81 : DC mX2_makeSpare 81 (.getfield 29) 3 84 := ⟨by decide +kernel, rfl⟩
theorem d_X2_makeSpare_84 : DC mX2_makeSpare 84 (.aload_n 0) 1 85 := ⟨by decide +kernel, rfl⟩
theorem d_X2_makeSpare_85 : DC mX2_makeSpare 85 (.getfield 39) 3 88 := ⟨by decide +kernel, rfl⟩
theorem d_X2_makeSpare_88 : DC mX2_makeSpare 88 (.aload_n 0) 1 89 := ⟨by decide +kernel, rfl⟩
theorem d_X2_makeSpare_89 : DC mX2_makeSpare 89 (.getfield 13) 3 92 := ⟨by decide +kernel, rfl⟩
theorem d_X2_makeSpare_92 : DC mX2_makeSpare 92 (.iload_n 1) 1 93 := ⟨by decide +kernel, rfl⟩
theorem d_X2_makeSpare_93 : DC mX2_makeSpare 93 (.iload 4) 2 95 := ⟨by decide +kernel, rfl⟩
theorem d_X2_makeSpare_95 : DC mX2_makeSpare 95 (.iadd) 1 96 := ⟨by decide +kernel, rfl⟩
theorem d_X2_makeSpare_96 : DC mX2_makeSpare 96 (.aaload) 1 97 := ⟨by decide +kernel, rfl⟩
theorem d_X2_makeSpare_97 : DC mX2_makeSpare 97 (.invokevirtual 73) 3 100 := ⟨by decide +kernel, rfl⟩
theorem d_X2_makeSpare_100 : DC mX2_makeSpare 100 (.istore_n 3) 1 101 := ⟨by decide +kernel, rfl⟩
theorem d_X2_makeSpare_101 : DC mX2_makeSpare 101 (.iload_n 3) 1 102 := ⟨by decide +kernel, rfl⟩
theorem d_X2_makeSpare_102 : DC mX2_makeSpare 102 (.ifCond .ne 24) 3 105 := ⟨by decide +kernel, rfl⟩
theorem d_X2_makeSpare_105 : DC mX2_makeSpare 105 (.aload_n 0) 1 106 := ⟨by decide +kernel, rfl⟩
theorem d_X2_makeSpare_106 : DC mX2_makeSpare 106 (.getfield 13) 3 109 := ⟨by decide +kernel, rfl⟩
theorem d_X2_makeSpare_109 : DC mX2_makeSpare 109 (.aload_n 0) 1 110 := ⟨by decide +kernel, rfl⟩
theorem d_X2_makeSpare_110 : DC mX2_makeSpare 110 (.getfield 25) 3 113 := ⟨by decide +kernel, rfl⟩
theorem d_X2_makeSpare_113 : DC mX2_makeSpare 113 (.iload 4) 2 115 := ⟨by decide +kernel, rfl⟩
theorem d_X2_makeSpare_115 : DC mX2_makeSpare 115 (.iadd) 1 116 := ⟨by decide +kernel, rfl⟩
theorem d_X2_makeSpare_116 : DC mX2_makeSpare 116 (.aaload) 1 117 := ⟨by decide +kernel, rfl⟩
theorem d_X2_makeSpare_117 : DC mX2_makeSpare 117 (.aload_n 0) 1 118 := ⟨by decide +kernel, rfl⟩
theorem d_X2_makeSpare_118 : DC mX2_makeSpare 118 (.getfield 29) 3 121 := ⟨by decide +kernel, rfl⟩
theorem d_X2_makeSpare_121 : DC mX2_makeSpare 121 (.iconst (-1)) 1 122 := ⟨by decide +kernel, rfl⟩
theorem d_X2_makeSpare_122 : DC mX2_makeSpare 122 (.invokevirtual 77) 3 125 := ⟨by decide +kernel, rfl⟩
theorem d_X2_makeSpare_125 : DC mX2_makeSpare 125 (.istore_n 3) 1 126 := ⟨by decide +kernel, rfl⟩
theorem d_X2_makeSpare_126 : DC mX2_makeSpare 126 (.iinc 4 1) 3 129 := ⟨by decide +kernel, rfl⟩
theorem d_X2_makeSpare_129 : DC mX2_makeSpare 129 (.goto (-67)) 3 132 := ⟨by decide +kernel, rfl⟩
theorem d_X2_makeSpare_132 : DC mX2_makeSpare 132 (.iload_n 3) 1 133 := ⟨by decide +kernel, rfl⟩
theorem d_X2_makeSpare_133 : DC mX2_makeSpare 133 (.ireturn) 1 134 := ⟨by decide +kernel, rfl⟩
theorem d_X2_take_0 : DC mX2_take 0 (.iload_n 1) 1 1 := ⟨by decide +kernel, rfl⟩
theorem d_X2_take_1 : DC mX2_take 1 (.invokestatic 49) 3 4 := ⟨by decide +kernel, rfl⟩
theorem d_X2_take_4 : DC mX2_take 4 (.ifCond .eq 62) 3 7 := ⟨by decide +kernel, rfl⟩
theorem d_X2_take_7 : DC mX2_take 7 (.aload_n 0) 1 8 := ⟨by decide +kernel, rfl⟩
theorem d_X2_take_8 : DC mX2_take 8 (.getfield 21) 3 11 := ⟨by decide +kernel, rfl⟩
theorem d_X2_take_11 : DC mX2_take 11 (.bipush 9) 2 13 := ⟨by decide +kernel, rfl⟩
theorem d_X2_take_13 : DC mX2_take 13 (.if_icmp .ge 53) 3 16 := ⟨by decide +kernel, rfl⟩
theorem d_X2_take_16 : DC mX2_take 16 (.aload_n 0) 1 17 := ⟨by decide +kernel, rfl⟩
theorem d_X2_take_17 : DC mX2_take 17 (.aload_n 0) 1 18 := ⟨by decide +kernel, rfl⟩
theorem d_X2_take_18 : DC mX2_take 18 (.getfield 17) 3 21 := ⟨by decide +kernel, rfl⟩
theorem d_X2_take_21 : DC mX2_take 21 (.aload_n 0) 1 22 := ⟨by decide +kernel, rfl⟩
theorem d_X2_take_22 : DC mX2_take 22 (.getfield 21) 3 25 := ⟨by decide +kernel, rfl⟩
theorem d_X2_take_25 : DC mX2_take 25 (.iaload) 1 26 := ⟨by decide +kernel, rfl⟩
theorem d_X2_take_26 : DC mX2_take 26 (.invokevirtual 55) 3 29 := ⟨by decide +kernel, rfl⟩
theorem d_X2_take_29 : DC mX2_take 29 (.aload_n 0) 1 30 := ⟨by decide +kernel, rfl⟩
theorem d_X2_take_30 : DC mX2_take 30 (.dup) 1 31 := ⟨by decide +kernel, rfl⟩
theorem d_X2_take_31 : DC mX2_take 31 (.getfield 21) 3 34 := ⟨by decide +kernel, rfl⟩
theorem d_X2_take_34 : DC mX2_take 34 (.iconst 1) 1 35 := ⟨by decide +kernel, rfl⟩
theorem d_X2_take_35 : DC mX2_take 35 (.iadd) 1 36 := ⟨by decide +kernel, rfl⟩
theorem d_X2_take_36 : DC mX2_take 36 (.putfield 21) 3 39 := ⟨by decide +kernel, rfl⟩
theorem d_X2_take_39 : DC mX2_take 39 (.aload_n 0) 1 40 := ⟨by decide +kernel, rfl⟩
theorem d_X2_take_40 : DC mX2_take 40 (.getfield 13) 3 43 := ⟨by decide +kernel, rfl⟩
theorem d_X2_take_43 : DC mX2_take 43 (.aload_n 0) 1 44 := ⟨by decide +kernel, rfl⟩
theorem d_X2_take_44 : DC mX2_take 44 (.getfield 17) 3 47 := ⟨by decide +kernel, rfl⟩
theorem d_X2_take_47 : DC mX2_take 47 (.aload_n 0) 1 48 := ⟨by decide +kernel, rfl⟩
theorem d_X2_take_48 : DC mX2_take 48 (.getfield 21) 3 51 := ⟨by decide +kernel, rfl⟩
theorem d_X2_take_51 : DC mX2_take 51 (.iconst 1) 1 52 := ⟨by decide +kernel, rfl⟩
theorem d_X2_take_52 : DC mX2_take 52 (.isub) 1 53 := ⟨by decide +kernel, rfl⟩
theorem d_X2_take_53 : DC mX2_take 53 (.iaload) 1 54 := ⟨by decide +kernel, rfl⟩
theorem d_X2_take_54 : DC mX2_take 54 (.iload_n 1) 1 55 := ⟨by decide +kernel, rfl⟩
theorem d_X2_take_55 : DC mX2_take 55 (.iadd) 1 56 := ⟨by decide +kernel, rfl⟩
theorem d_X2_take_56 : DC mX2_take 56 (.bipush 97) 2 58 := ⟨by decide +kernel, rfl⟩
theorem d_X2_take_58 : DC mX2_take 58 (.isub) 1 59 := ⟨by decide +kernel, rfl⟩
theorem d_X2_take_59 : DC mX2_take 59 (.aaload) 1 60 := ⟨by decide +kernel, rfl⟩
theorem d_X2_take_60 : DC mX2_take 60 (.lconst 0) 1 61 := ⟨by decide +kernel, rfl⟩
theorem d_X2_take_61 : DC mX2_take 61 (.lconst 1) 1 62 := ⟨by decide +kernel, rfl⟩
theorem d_X2_take_62 : DC mX2_take 62 (.invokevirtual 59) 3 65 := ⟨by decide +kernel, rfl⟩
theorem d_X2_take_65 : DC mX2_take 65 (.ireturn) 1 66 := ⟨by decide +kernel, rfl⟩
theorem d_X2_take_66 : DC mX2_take 66 (.iload_n 1) 1 67 := ⟨by decide +kernel, rfl⟩
theorem d_X2_take_67 : DC mX2_take 67 (.bipush 41) 2 69 := ⟨by decide +kernel, rfl⟩
theorem d_X2_take_69 : DC mX2_take 69 (.if_icmp .ne 11) 3 72 := ⟨by decide +kernel, rfl⟩
theorem d_X2_take_72 : DC mX2_take 72 (.aload_n 0) 1 73 := ⟨by decide +kernel, rfl⟩
theorem d_X2_take_73 : DC mX2_take 73 (.getfield 21) 3 76 := ⟨by decide +kernel, rfl⟩
theorem d_X2_take_76 : DC mX2_take 76 (.iconst 4) 1 77 := ⟨by decide +kernel, rfl⟩
theorem d_X2_take_77 : DC mX2_take 77 (.if_icmp .ge 5) 3 80 := ⟨by decide +kernel, rfl⟩
theorem d_X2_take_80 : DC mX2_take 80 (.iconst 0) 1 81 := ⟨by decide +kernel, rfl⟩
theorem d_X2_take_81 : DC mX2_take 81 (.ireturn) 1 82 := ⟨by decide +kernel, rfl⟩
theorem d_X2_take_82 : DC mX2_take 82 (.aload_n 0) 1 83 := ⟨by decide +kernel, rfl⟩
theorem d_X2_take_83 : DC mX2_take 83 (.getfield 17) 3 86 := ⟨by decide +kernel, rfl⟩
theorem d_X2_take_86 : DC mX2_take 86 (.aload_n 0) 1 87 := ⟨by decide +kernel, rfl⟩
theorem d_X2_take_87 : DC mX2_take 87 (.getfield 21) 3 90 := ⟨by decide +kernel, rfl⟩
theorem d_X2_take_90 : DC mX2_take 90 (.iconst 4) 1 91 := ⟨by decide +kernel, rfl⟩
theorem d_X2_take_91 : DC mX2_take 91 (.isub) 1 92 := ⟨by decide +kernel, rfl⟩
theorem d_X2_take_92 : DC mX2_take 92 (.iaload) 1 93 := ⟨by decide +kernel, rfl⟩
theorem d_X2_take_93 : DC mX2_take 93 (.istore_n 2) 1 94 := ⟨by decide +kernel, rfl⟩
theorem d_X2_take_94 : DC mX2_take 94 (.aload_n 0) 1 95 := ⟨by decide +kernel, rfl⟩
theorem d_X2_take_95 : DC mX2_take 95 (.getfield 17) 3 98 := ⟨by decide +kernel, rfl⟩
theorem d_X2_take_98 : DC mX2_take 98 (.aload_n 0) 1 99 := ⟨by decide +kernel, rfl⟩
theorem d_X2_take_99 : DC mX2_take 99 (.getfield 21) 3 102 := ⟨by decide +kernel, rfl⟩
theorem d_X2_take_102 : DC mX2_take 102 (.iconst 3) 1 103 := ⟨by decide +kernel, rfl⟩
theorem d_X2_take_103 : DC mX2_take 103 (.isub) 1 104 := ⟨by decide +kernel, rfl⟩
theorem d_X2_take_104 : DC mX2_take 104 (.iaload) 1 105 := ⟨by decide +kernel, rfl⟩
theorem d_X2_take_105 : DC mX2_take 105 (.istore_n 3) 1 106 := ⟨by decide +kernel, rfl⟩
theorem d_X2_take_106 : DC mX2_take 106 (.aload_n 0) 1 107 := ⟨by decide +kernel, rfl⟩
theorem d_X2_take_107 : DC mX2_take 107 (.getfield 17) 3 110 := ⟨by decide +kernel, rfl⟩
theorem d_X2_take_110 : DC mX2_take 110 (.aload_n 0) 1 111 := ⟨by decide +kernel, rfl⟩
theorem d_X2_take_111 : DC mX2_take 111 (.getfield 21) 3 114 := ⟨by decide +kernel, rfl⟩
theorem d_X2_take_114 : DC mX2_take 114 (.iconst 2) 1 115 := ⟨by decide +kernel, rfl⟩
theorem d_X2_take_115 : DC mX2_take 115 (.isub) 1 116 := ⟨by decide +kernel, rfl⟩
theorem d_X2_take_116 : DC mX2_take 116 (.iaload) 1 117 := ⟨by decide +kernel, rfl⟩
theorem d_X2_take_117 : DC mX2_take 117 (.istore 4) 2 119 := ⟨by decide +kernel, rfl⟩
theorem d_X2_take_119 : DC mX2_take 119 (.aload_n 0) 1 120 := ⟨by decide +kernel, rfl⟩
theorem d_X2_take_120 : DC mX2_take 120 (.getfield 17) 3 123 := ⟨by decide +kernel, rfl⟩
theorem d_X2_take_123 : DC mX2_take 123 (.aload_n 0) 1 124 := ⟨by decide +kernel, rfl⟩
theorem d_X2_take_124 : DC mX2_take 124 (.getfield 21) 3 127 := ⟨by decide +kernel, rfl⟩
theorem d_X2_take_127 : DC mX2_take 127 (.iconst 1) 1 128 := ⟨by decide +kernel, rfl⟩
theorem d_X2_take_128 : DC mX2_take 128 (.isub) 1 129 := ⟨by decide +kernel, rfl⟩
theorem d_X2_take_129 : DC mX2_take 129 (.iaload) 1 130 := ⟨by decide +kernel, rfl⟩
theorem d_X2_take_130 : DC mX2_take 130 (.istore 5) 2 132 := ⟨by decide +kernel, rfl⟩
theorem d_X2_take_132 : DC mX2_take 132 (.aload_n 0) 1 133 := ⟨by decide +kernel, rfl⟩
theorem d_X2_take_133 : DC mX2_take 133 (.aload_n 0) 1 134 := ⟨by decide +kernel, rfl⟩
theorem d_X2_take_134 : DC mX2_take 134 (.getfield 36) 3 137 := ⟨by decide +kernel, rfl⟩
theorem d_X2_take_137 : DC mX2_take 137 (.iload_n 2) 1 138 := ⟨by decide +kernel, rfl⟩
theorem d_X2_take_138 : DC mX2_take 138 (.iload 4) 2 140 := ⟨by decide +kernel, rfl⟩
theorem d_X2_take_140 : DC mX2_take 140 (.iload 5) 2 142 := ⟨by decide +kernel, rfl⟩
theorem d_X2_take_142 : DC mX2_take 142 (.invokevirtual 63) 3 145 := ⟨by decide +kernel, rfl⟩
theorem d_X2_take_145 : DC mX2_take 145 (.istore 6) 2 147 := ⟨by decide +kernel, rfl⟩
theorem d_X2_take_147 : DC mX2_take 147 (.iload 6) 2 149 := ⟨by decide +kernel, rfl⟩
theorem d_X2_take_149 : DC mX2_take 149 (.ifCond .ne 18) 3 152 := ⟨by decide +kernel, rfl⟩
theorem d_X2_take_152 : DC mX2_take 152 (.aload_n 0) 1 153 := ⟨by decide +kernel, rfl⟩
theorem d_X2_take_153 : DC mX2_take 153 (.aload_n 0) 1 154 := ⟨by decide +kernel, rfl⟩
theorem d_X2_take_154 : DC mX2_take 154 (.getfield 39) 3 157 := ⟨by decide +kernel, rfl⟩
theorem d_X2_take_157 : DC mX2_take 157 (.iload_n 3) 1 158 := ⟨by decide +kernel, rfl⟩
theorem d_X2_take_158 : DC mX2_take 158 (.iload 4) 2 160 := ⟨by decide +kernel, rfl⟩
theorem d_X2_take_160 : DC mX2_take 160 (.iload 5) 2 162 := ⟨by decide +kernel, rfl⟩
theorem d_X2_take_162 : DC mX2_take 162 (.invokevirtual 63) 3 165 := ⟨by decide +kernel, rfl⟩
theorem d_X2_take_165 : DC mX2_take 165 (.istore 6) 2 167 := ⟨by decide +kernel, rfl⟩
theorem d_X2_take_167 : DC mX2_take 167 (.iload 6) 2 169 := ⟨by decide +kernel, rfl⟩
theorem d_X2_take_169 : DC mX2_take 169 (.ifCond .ne 11) 3 172 := ⟨by decide +kernel, rfl⟩
theorem d_X2_take_172 : DC mX2_take 172 (.aload_n 0) 1 173 := ⟨by decide +kernel, rfl⟩
theorem d_X2_take_173 : DC mX2_take 173 (.iload_n 2) 1 174 := ⟨by decide +kernel, rfl⟩
theorem d_X2_take_174 : DC mX2_take 174 (.iload_n 3) 1 175 := ⟨by decide +kernel, rfl⟩
theorem d_X2_take_175 : DC mX2_take 175 (.invokevirtual 67) 3 178 := ⟨by decide +kernel, rfl⟩
theorem d_X2_take_178 : DC mX2_take 178 (.istore 6) 2 180 := ⟨by decide +kernel, rfl⟩
theorem d_X2_take_180 : DC mX2_take 180 (.aload_n 0) 1 181 := ⟨by decide +kernel, rfl⟩
theorem d_X2_take_181 : DC mX2_take 181 (.getfield 17) 3 184 := ⟨by decide +kernel, rfl⟩
theorem d_X2_take_184 : DC mX2_take 184 (.aload_n 0) 1 185 := ⟨by decide +kernel, rfl⟩
theorem d_X2_take_185 : DC mX2_take 185 (.getfield 21) 3 188 := ⟨by decide +kernel, rfl⟩
theorem d_X2_take_188 : DC mX2_take 188 (.iconst 4) 1 189 := ⟨by decide +kernel, rfl⟩
theorem d_X2_take_189 : DC mX2_take 189 (.isub) 1 190 := ⟨by decide +kernel, rfl⟩
theorem d_X2_take_190 : DC mX2_take 190 (.aload_n 0) 1 191 := ⟨by decide +kernel, rfl⟩
theorem d_X2_take_191 : DC mX2_take 191 (.getfield 25) 3 194 := ⟨by decide +kernel, rfl⟩
theorem d_X2_take_194 : DC mX2_take 194 (.iastore) 1 195 := ⟨by decide +kernel, rfl⟩
theorem d_X2_take_195 : DC mX2_take 195 (.aload_n 0) 1 196 := ⟨by decide +kernel, rfl⟩
theorem d_X2_take_196 : DC mX2_take 196 (.iload_n 2) 1 197 := ⟨by decide +kernel, rfl⟩
theorem d_X2_take_197 : DC mX2_take 197 (.putfield 25) 3 200 := ⟨by decide +kernel, rfl⟩
theorem d_X2_take_200 : DC mX2_take 200 (.aload_n 0) 1 201 := ⟨by decide +kernel, rfl⟩
theorem d_X2_take_201 : DC mX2_take 201 (.dup) 1 202 := ⟨by decide +kernel, rfl⟩
theorem d_X2_take_202 : DC mX2_take 202 (.getfield 21) 3 205 := ⟨by decide +kernel, rfl⟩
theorem d_X2_take_205 : DC mX2_take 205 (.iconst 3) 1 206 := ⟨by decide +kernel, rfl⟩
theorem d_X2_take_206 : DC mX2_take 206 (.isub) 1 207 := ⟨by decide +kernel, rfl⟩
theorem d_X2_take_207 : DC mX2_take 207 (.putfield 21) 3 210 := ⟨by decide +kernel, rfl⟩
theorem d_X2_take_210 : DC mX2_take 210 (.iload 6) 2 212 := ⟨by decide +kernel, rfl⟩
theorem d_X2_take_212 : DC mX2_take 212 (.ireturn) 1 213 := ⟨by decide +kernel, rfl⟩
theorem d_X2_makeFigure_0 : DC mX2_makeFigure 0 (.aload_n 0) 1 1 := ⟨by decide +kernel, rfl⟩
theorem d_X2_makeFigure_1 : DC mX2_makeFigure 1 (.aload_n 1) 1 2 := ⟨by decide +kernel, rfl⟩
theorem d_X2_makeFigure_2 : DC mX2_makeFigure 2 (.aload_n 0) 1 3 := ⟨by decide +kernel, rfl⟩
theorem d_X2_makeFigure_3 : DC mX2_makeFigure 3 (.getfield 17) 3 6 := ⟨by decide +kernel, rfl⟩
theorem d_X2_makeFigure_6 : DC mX2_makeFigure 6 (.iconst 0) 1 7 := ⟨by decide +kernel, rfl⟩
theorem d_X2_makeFigure_7 : DC mX2_makeFigure 7 (.iaload) 1 8 := ⟨by decide +kernel, rfl⟩
theorem d_X2_makeFigure_8 : DC mX2_makeFigure 8 (.aload_n 0) 1 9 := ⟨by decide +kernel, rfl⟩
theorem d_X2_makeFigure_9 : DC mX2_makeFigure 9 (.getfield 17) 3 12 := ⟨by decide +kernel, rfl⟩
theorem d_X2_makeFigure_12 : DC mX2_makeFigure 12 (.iconst 1) 1 13 := ⟨by decide +kernel, rfl⟩
theorem d_X2_makeFigure_13 : DC mX2_makeFigure 13 (.iaload) 1 14 := ⟨by decide +kernel, rfl⟩
theorem d_X2_makeFigure_14 : DC mX2_makeFigure 14 (.aload_n 0) 1 15 := ⟨by decide +kernel, rfl⟩
theorem d_X2_makeFigure_15 : DC mX2_makeFigure 15 (.getfield 17) 3 18 := ⟨by decide +kernel, rfl⟩
theorem d_X2_makeFigure_18 : DC mX2_makeFigure 18 (.iconst 2) 1 19 := ⟨by decide +kernel, rfl⟩
theorem d_X2_makeFigure_19 : DC mX2_makeFigure 19 (.iaload) 1 20 := ⟨by decide +kernel, rfl⟩
theorem d_X2_makeFigure_20 : DC mX2_makeFigure 20 (.invokevirtual 63) 3 23 := ⟨by decide +kernel, rfl⟩
theorem d_X2_makeFigure_23 : DC mX2_makeFigure 23 (.ireturn) 1 24 := ⟨by decide +kernel, rfl⟩
theorem d_X3_begin_0 : DC mX3_begin 0 (.aload_n 0) 1 1 := ⟨by decide +kernel, rfl⟩
theorem d_X3_begin_1 : DC mX3_begin 1 (.iconst 3) 1 2 := ⟨by decide +kernel, rfl⟩
theorem d_X3_begin_2 : DC mX3_begin 2 (.lload_n 1) 1 3 := ⟨by decide +kernel, rfl⟩
theorem d_X3_begin_3 : DC mX3_begin 3 (.invokestatic 37) 3 6 := ⟨by decide +kernel, rfl⟩
theorem d_X3_begin_6 : DC mX3_begin 6 (.imul) 1 7 := ⟨by decide +kernel, rfl⟩
theorem d_X3_begin_7 : DC mX3_begin 7 (.putfield 18) 3 10 := ⟨by decide +kernel, rfl⟩
theorem d_X3_begin_10 : DC mX3_begin 10 (.aload_n 0) 1 11 := ⟨by decide +kernel, rfl⟩
theorem d_X3_begin_11 : DC mX3_begin 11 (.iload_n 3) 1 12 := ⟨by decide +kernel, rfl⟩
theorem d_X3_begin_12 : DC mX3_begin 12 (.putfield 23) 3 15 := ⟨by decide +kernel, rfl⟩
theorem d_X3_begin_15 : DC mX3_begin 15 (.aload_n 0) 1 16 := ⟨by decide +kernel, rfl⟩
theorem d_X3_begin_16 : DC mX3_begin 16 (.iconst 0) 1 17 := ⟨by decide +kernel, rfl⟩
theorem d_X3_begin_17 : DC mX3_begin 17 (.putfield 26) 3 20 := ⟨by decide +kernel, rfl⟩
theorem d_X3_begin_20 : DC mX3_begin 20 (.iconst 0) 1 21 := ⟨by decide +kernel, rfl⟩
theorem d_X3_begin_21 : DC mX3_begin 21 (.istore 4) 2 23 := ⟨by decide +kernel, rfl⟩
theorem d_X3_begin_23 : DC mX3_begin 23 (.iload 4) 2 25 := ⟨by decide +kernel, rfl⟩
theorem d_X3_begin_25 : DC mX3_begin 25 (.bipush 10) 2 27 := ⟨by decide +kernel, rfl⟩
theorem d_X3_begin_27 : DC mX3_begin 27 (.if_icmp .ge 22) 3 30 := ⟨by decide +kernel, rfl⟩
theorem d_X3_begin_30 : DC mX3_begin 30 (.aload_n 0) 1 31 := ⟨by decide +kernel, rfl⟩
theorem d_X3_begin_31 : DC mX3_begin 31 (.getfield 9) 3 34 := ⟨by decide +kernel, rfl⟩
theorem d_X3_begin_34 : DC mX3_begin 34 (.iload 4) 2 36 := ⟨by decide +kernel, rfl⟩
theorem d_X3_begin_36 : DC mX3_begin 36 (.lload_n 1) 1 37 := ⟨by decide +kernel, rfl⟩
theorem d_X3_begin_37 : DC mX3_begin 37 (.iload 4) 2 39 := ⟨by decide +kernel, rfl⟩
theorem d_X3_begin_39 : DC mX3_begin 39 (.invokestatic 43) 3 42 := ⟨by decide +kernel, rfl⟩
theorem d_X3_begin_42 : DC mX3_begin 42 (.iastore) 1 43 := ⟨by decide +kernel, rfl⟩
theorem d_X3_begin_43 : DC mX3_begin 43 (.iinc 4 1) 3 46 := ⟨by decide +kernel, rfl⟩
theorem d_X3_begin_46 : DC mX3_begin 46 (.goto (-23)) 3 49 := ⟨by decide +kernel, rfl⟩
theorem d_X3_begin_49 : DC mX3_begin 49 (.return_) 1 50 := ⟨by decide +kernel, rfl⟩
theorem d_J9_max_7cf53_0 : DC mJ9_max_7cf53 0 (.iload_n 0) 1 1 := ⟨by decide +kernel, rfl⟩
theorem d_J9_max_7cf53_1 : DC mJ9_max_7cf53 1 (.iload_n 1) 1 2 := ⟨by decide +kernel, rfl⟩
theorem d_J9_max_7cf53_2 : DC mJ9_max_7cf53 2 (.if_icmp .lt 7) 3 5 := ⟨by decide +kernel, rfl⟩
theorem d_J9_max_7cf53_5 : DC mJ9_max_7cf53 5 (.iload_n 0) 1 6 := ⟨by decide +kernel, rfl⟩
theorem d_J9_max_7cf53_6 : DC mJ9_max_7cf53 6 (.goto 4) 3 9 := ⟨by decide +kernel, rfl⟩
theorem d_J9_max_7cf53_9 : DC mJ9_max_7cf53 9 (.iload_n 1) 1 10 := ⟨by decide +kernel, rfl⟩
theorem d_J9_max_7cf53_10 : DC mJ9_max_7cf53 10 (.ireturn) 1 11 := ⟨by decide +kernel, rfl⟩
theorem d_X3_fill_0 : DC mX3_fill 0 (.iload_n 1) 1 1 := ⟨by decide +kernel, rfl⟩
theorem d_X3_fill_1 : DC mX3_fill 1 (.aload_n 0) 1 2 := ⟨by decide +kernel, rfl⟩
theorem d_X3_fill_2 : DC mX3_fill 2 (.getfield 18) 3 5 := ⟨by decide +kernel, rfl⟩
theorem d_X3_fill_5 : DC mX3_fill 5 (.if_icmp .lt 32) 3 8 := ⟨by decide +kernel, rfl⟩
theorem d_X3_fill_8 : DC mX3_fill 8 (.aload_n 0) 1 9 := ⟨by decide +kernel, rfl⟩
theorem d_X3_fill_9 : DC mX3_fill 9 (.dup) 1 10 := ⟨by decide +kernel, rfl⟩
theorem d_X3_fill_10 : DC mX3_fill 10 (.getfield 26) 3 13 := ⟨by decide +kernel, rfl⟩
theorem d_X3_fill_13 : DC mX3_fill 13 (.iconst 1) 1 14 := ⟨by decide +kernel, rfl⟩
theorem d_X3_fill_14 : DC mX3_fill 14 (.iadd) 1 15 := ⟨by decide +kernel, rfl⟩
theorem d_X3_fill_15 : DC mX3_fill 15 (.putfield 26) 3 18 := ⟨by decide +kernel, rfl⟩
theorem d_X3_fill_18 : DC mX3_fill 18 (.aload_n 0) 1 19 := ⟨by decide +kernel, rfl⟩
theorem d_X3_fill_19 : DC mX3_fill 19 (.getfield 26) 3 22 := ⟨by decide +kernel, rfl⟩
theorem d_X3_fill_22 : DC mX3_fill 22 (.iconst 1) 1 23 := ⟨by decide +kernel, rfl⟩
theorem d_X3_fill_23 : DC mX3_fill 23 (.isub) 1 24 := ⟨by decide +kernel, rfl⟩
theorem d_X3_fill_24 : DC mX3_fill 24 (.aload_n 0) 1 25 := ⟨by decide +kernel, rfl⟩
theorem d_X3_fill_25 : DC mX3_fill 25 (.getfield 23) 3 28 := ⟨by decide +kernel, rfl⟩
theorem d_X3_fill_28 : DC mX3_fill 28 (.if_icmp .ne 7) 3 31 := ⟨by decide +kernel, rfl⟩
theorem d_X3_fill_31 : DC mX3_fill 31 (.iconst 1) 1 32 := ⟨by decide +kernel, rfl⟩
theorem d_X3_fill_32 : DC mX3_fill 32 (.goto 4) 3 35 := ⟨by decide +kernel, rfl⟩
theorem d_X3_fill_35 : DC mX3_fill 35 (.iconst 0) 1 36 := ⟨by decide +kernel, rfl⟩
theorem d_X3_fill_36 : DC mX3_fill 36 (.ireturn) 1 37 := ⟨by decide +kernel, rfl⟩
theorem d_X3_fill_37 : DC mX3_fill 37 (.iload_n 1) 1 38 := ⟨by decide +kernel, rfl⟩
theorem d_X3_fill_38 : DC mX3_fill 38 (.iconst 3) 1 39 := ⟨by decide +kernel, rfl⟩
theorem d_X3_fill_39 : DC mX3_fill 39 (.irem) 1 40 := ⟨by decide +kernel, rfl⟩
theorem d_X3_fill_40 : DC mX3_fill 40 (.ifCond .ne 7) 3 43 := ⟨by decide +kernel, rfl⟩
theorem d_X3_fill_43 : DC mX3_fill 43 (.iconst 1) 1 44 := ⟨by decide +kernel, rfl⟩
theorem d_X3_fill_44 : DC mX3_fill 44 (.goto 4) 3 47 := ⟨by decide +kernel, rfl⟩
theorem d_X3_fill_47 : DC mX3_fill 47 (.iconst 0) 1 48 := ⟨by decide +kernel, rfl⟩
theorem d_X3_fill_48 : DC mX3_fill 48 (.istore_n 2) 1 49 := ⟨by decide +kernel, rfl⟩
theorem d_X3_fill_49 : DC mX3_fill 49 (.iload_n 2) 1 50 := ⟨by decide +kernel, rfl⟩
theorem d_X3_fill_50 : DC mX3_fill 50 (.ifCond .eq 7) 3 53 := ⟨by decide +kernel, rfl⟩
theorem d_X3_fill_53 : DC mX3_fill 53 (.iconst 0) 1 54 := ⟨by decide +kernel, rfl⟩
theorem d_X3_fill_54 : DC mX3_fill 54 (.goto 13) 3 57 := ⟨by decide +kernel, rfl⟩
theorem d_X3_fill_57 : DC mX3_fill 57 (.aload_n 0) 1 58 := ⟨by decide +kernel, rfl⟩
theorem d_X3_fill_58 : DC mX3_fill 58 (.getfield 15) 3 61 := ⟨by decide +kernel, rfl⟩
theorem d_X3_fill_61 : DC mX3_fill 61 (.iload_n 1) 1 62 := ⟨by decide +kernel, rfl⟩
theorem d_X3_fill_62 : DC mX3_fill 62 (.iconst 1) 1 63 := ⟨by decide +kernel, rfl⟩
theorem d_X3_fill_63 : DC mX3_fill 63 (.isub) 1 64 := ⟨by decide +kernel, rfl⟩
theorem d_X3_fill_64 : DC mX3_fill 64 (.iaload) 1 65 := ⟨by decide +kernel, rfl⟩
theorem d_X3_fill_65 : DC mX3_fill 65 (.iconst 1) 1 66 := ⟨by decide +kernel, rfl⟩
theorem d_X3_fill_66 : DC mX3_fill 66 (.iadd) 1 67 := ⟨by decide +kernel, rfl⟩
theorem d_X3_fill_67 : DC mX3_fill 67 (.istore_n 3) 1 68 := ⟨by decide +kernel, rfl⟩
theorem d_X3_fill_68 : DC mX3_fill 68 (.iload_n 1) 1 69 := ⟨by decide +kernel, rfl⟩
theorem d_X3_fill_69 : DC mX3_fill 69 (.iconst 3) 1 70 := ⟨by decide +kernel, rfl⟩
theorem d_X3_fill_70 : DC mX3_fill 70 (.if_icmp .lt 16) 3 73 := ⟨by decide +kernel, rfl⟩
theorem d_X3_fill_73 : DC mX3_fill 73 (.iload_n 3) 1 74 := ⟨by decide +kernel, rfl⟩
theorem d_X3_fill_74 : DC mX3_fill 74 (.aload_n 0) 1 75 := ⟨by decide +kernel, rfl⟩
theorem d_X3_fill_75 : DC mX3_fill 75 (.getfield 15) 3 78 := ⟨by decide +kernel, rfl⟩
theorem d_X3_fill_78 : DC mX3_fill 78 (.iload_n 1) 1 79 := ⟨by decide +kernel, rfl⟩
theorem d_X3_fill_79 : DC mX3_fill 79 (.iconst 3) 1 80 := ⟨by decide +kernel, rfl⟩
theorem d_X3_fill_80 : DC mX3_fill 80 (.isub) 1 81 := ⟨by decide +kernel, rfl⟩
theorem d_X3_fill_81 : DC mX3_fill 81 (.iaload) 1 82 := ⟨by decide +kernel, rfl⟩
theorem d_X3_fill_82 : DC mX3_fill 82 (.invokestatic 47) 3 85 := ⟨by decide +kernel, rfl⟩
theorem d_X3_fill_85 : DC mX3_fill 85 (.istore_n 3) 1 86 := ⟨by decide +kernel, rfl⟩
theorem d_X3_fill_86 : DC mX3_fill 86 (.iload_n 3) 1 87 := ⟨by decide +kernel, rfl⟩
theorem d_X3_fill_87 : DC mX3_fill 87 (.istore 4) 2 89 := ⟨by decide +kernel, rfl⟩
theorem d_X3_fill_89 : DC mX3_fill 89 (.iload 4) 2 91 := ⟨by decide +kernel, rfl⟩
theorem d_X3_fill_91 : DC mX3_fill 91 (.bipush 10) 2 93 := ⟨by decide +kernel, rfl⟩
theorem d_X3_fill_93 : DC mX3_fill 93 (.if_icmp .ge 67) 3 96 := ⟨by decide +kernel, rfl⟩
theorem d_X3_fill_96 : DC mX3_fill 96 (.aload_n 0) 1 97 := ⟨by decide +kernel, rfl⟩
theorem d_X3_fill_97 : DC mX3_fill 97 (.getfield 9) 3 100 := ⟨by decide +kernel, rfl⟩
theorem d_X3_fill_100 : DC mX3_fill 100 (.iload 4) 2 102 := ⟨by decide +kernel, rfl⟩
theorem d_X3_fill_102 : DC mX3_fill 102 (.iaload) 1 103 := ⟨by decide +kernel, rfl⟩
theorem d_X3_fill_103 : DC mX3_fill 103 (.ifCond .le 51) 3 106 := ⟨by decide +kernel, rfl⟩
theorem d_X3_fill_106 : DC mX3_fill 106 (.aload_n 0) 1 107 := ⟨by decide +kernel, rfl⟩
theorem d_X3_fill_107 : DC mX3_fill 107 (.getfield 15) 3 110 := ⟨by decide +kernel, rfl⟩
theorem d_X3_fill_110 : DC mX3_fill 110 (.iload_n 1) 1 111 := ⟨by decide +kernel, rfl⟩
theorem d_X3_fill_111 : DC mX3_fill 111 (.iload 4) 2 113 := ⟨by decide +kernel, rfl⟩
theorem d_X3_fill_113 : DC mX3_fill 113 (.iastore) 1 114 := ⟨by decide +kernel, rfl⟩
theorem d_X3_fill_114 : DC mX3_fill 114 (.aload_n 0) 1 115 := ⟨by decide +kernel, rfl⟩
theorem d_X3_fill_115 : DC mX3_fill 115 (.getfield 9) 3 118 := ⟨by decide +kernel, rfl⟩
theorem d_X3_fill_118 : DC mX3_fill 118 (.iload 4) 2 120 := ⟨by decide +kernel, rfl⟩
theorem d_X3_fill_120 : DC mX3_fill 120 (.dup2) 1 121 := ⟨by decide +kernel, rfl⟩
theorem d_X3_fill_121 : DC mX3_fill 121 (.iaload) 1 122 := ⟨by decide +kernel, rfl⟩
theorem d_X3_fill_122 : DC mX3_fill 122 (.iconst 1) 1 123 := ⟨by decide +kernel, rfl⟩
theorem d_X3_fill_123 : DC mX3_fill 123 (.isub) 1 124 := ⟨by decide +kernel, rfl⟩
theorem d_X3_fill_124 : DC mX3_fill 124 (.iastore) 1 125 := ⟨by decide +kernel, rfl⟩
theorem d_X3_fill_125 : DC mX3_fill 125 (.aload_n 0) 1 126 := ⟨by decide +kernel, rfl⟩
theorem d_X3_fill_126 : DC mX3_fill 126 (.iload_n 1) 1 127 := ⟨by decide +kernel, rfl⟩
theorem d_X3_fill_127 : DC mX3_fill 127 (.iconst 1) 1 128 := ⟨by decide +kernel, rfl⟩
theorem d_X3_fill_128 : DC mX3_fill 128 (.iadd) 1 129 := ⟨by decide +kernel, rfl⟩
theorem d_X3_fill_129 : DC mX3_fill 129 (.invokevirtual 33) 3 132 := ⟨by decide +kernel, rfl⟩
theorem d_X3_fill_132 : DC mX3_fill 132 (.ifCond .eq 5) 3 135 := ⟨by decide +kernel, rfl⟩
theorem d_X3_fill_135 : DC mX3_fill 135 (.iconst 1) 1 136 := ⟨by decide +kernel, rfl⟩
theorem d_X3_fill_136 : DC mX3_fill 136 (.ireturn) 1 137 := ⟨by decide +kernel, rfl⟩
theorem d_X3_fill_137 : DC mX3_fill 137 (.aload_n 0) 1 138 := ⟨by decide +kernel, rfl⟩
theorem d_X3_fill_138 : DC mX3_fill 138 (.getfield 9) 3 141 := ⟨by decide +kernel, rfl⟩
theorem d_X3_fill_141 : DC mX3_fill 141 (.iload 4) 2 143 := ⟨by decide +kernel, rfl⟩
theorem d_X3_fill_143 : DC mX3_fill 143 (.dup2) 1 144 := ⟨by decide +kernel, rfl⟩
theorem d_X3_fill_144 : DC mX3_fill 144 (.iaload) 1 145 := ⟨by decide +kernel, rfl⟩
theorem d_X3_fill_145 : DC mX3_fill 145 (.iconst 1) 1 146 := ⟨by decide +kernel, rfl⟩
theorem d_X3_fill_146 : DC mX3_fill 146 (.iadd) 1 147 := ⟨by decide +kernel, rfl⟩
theorem d_X3_fill_147 : DC mX3_fill 147 (.iastore) 1 148 := ⟨by decide +kernel, rfl⟩
theorem d_X3_fill_148 : DC mX3_fill 148 (.iload_n 2) 1 149 := ⟨by decide +kernel, rfl⟩
theorem d_X3_fill_149 : DC mX3_fill 149 (.ifCond .eq 5) 3 152 := ⟨by decide +kernel, rfl⟩
theorem d_X3_fill_152 : DC mX3_fill 152 (.iconst 0) 1 153 := ⟨by decide +kernel, rfl⟩
theorem d_X3_fill_153 : DC mX3_fill 153 (.ireturn) 1 154 := ⟨by decide +kernel, rfl⟩
theorem d_X3_fill_154 : DC mX3_fill 154 (.iinc 4 1) 3 157 := ⟨by decide +kernel, rfl⟩
theorem d_X3_fill_157 : DC mX3_fill 157 (.goto (-68)) 3 160 := ⟨by decide +kernel, rfl⟩
theorem d_X3_fill_160 : DC mX3_fill 160 (.iconst 0) 1 161 := ⟨by decide +kernel, rfl⟩
theorem d_X3_fill_161 : DC mX3_fill 161 (.ireturn) 1 162 := ⟨by decide +kernel, rfl⟩
theorem v_J6_bitCount_0f7a4_0 {l : Launch} {d N : Nat} {Λ : Lay} {P : Int → Mem → Prop} {σ : Mem} {x0 : Int}
    (h : (∀ y1, y1 = (subI x0 (andI (ushrI x0 1) 1431655765)) → (∀ y2, y2 = (addI (andI y1 858993459) (andI (ushrI y1 2) 858993459)) → (∀ y3, y3 = (andI (addI y2 (ushrI y2 4)) 252645135) → (∀ y4, y4 = (addI y3 (ushrI y3 8)) → (∀ y5, y5 = (addI y4 (ushrI y4 16)) → P (andI y5 63) σ)))))) :
    WI l mJ6_bitCount_0f7a4 d P 0 [(0, x0)] [] N Λ σ := by
  refine r_iload_n (x := x0) d_J6_bitCount_0f7a4_0 rfl ?_
  refine r_iload_n (x := x0) d_J6_bitCount_0f7a4_1 rfl ?_
  refine r_iconst (x := 1) d_J6_bitCount_0f7a4_2 ⟨by decide, by decide⟩ ?_
  refine r_iushr d_J6_bitCount_0f7a4_3 ?_
  refine r_ldcw (x := 1431655765) d_J6_bitCount_0f7a4_4 ck_J6_265 (by decide) ?_
  refine r_iand d_J6_bitCount_0f7a4_7 ?_
  refine r_isub d_J6_bitCount_0f7a4_8 ?_
  refine r_nm (fun y1 ey1 => ?_)
  have h := h y1 ey1
  refine r_istore_n (L2 := [(0, y1)]) d_J6_bitCount_0f7a4_9 (by decide) rfl rfl ?_
  refine r_iload_n (x := y1) d_J6_bitCount_0f7a4_10 rfl ?_
  refine r_ldcw (x := 858993459) d_J6_bitCount_0f7a4_11 ck_J6_266 (by decide) ?_
  refine r_iand d_J6_bitCount_0f7a4_14 ?_
  refine r_iload_n (x := y1) d_J6_bitCount_0f7a4_15 rfl ?_
  refine r_iconst (x := 2) d_J6_bitCount_0f7a4_16 ⟨by decide, by decide⟩ ?_
  refine r_iushr d_J6_bitCount_0f7a4_17 ?_
  refine r_ldcw (x := 858993459) d_J6_bitCount_0f7a4_18 ck_J6_266 (by decide) ?_
  refine r_iand d_J6_bitCount_0f7a4_21 ?_
  refine r_iadd d_J6_bitCount_0f7a4_22 ?_
  refine r_nm (fun y2 ey2 => ?_)
  have h := h y2 ey2
  refine r_istore_n (L2 := [(0, y2)]) d_J6_bitCount_0f7a4_23 (by decide) rfl rfl ?_
  refine r_iload_n (x := y2) d_J6_bitCount_0f7a4_24 rfl ?_
  refine r_iload_n (x := y2) d_J6_bitCount_0f7a4_25 rfl ?_
  refine r_iconst (x := 4) d_J6_bitCount_0f7a4_26 ⟨by decide, by decide⟩ ?_
  refine r_iushr d_J6_bitCount_0f7a4_27 ?_
  refine r_iadd d_J6_bitCount_0f7a4_28 ?_
  refine r_ldcw (x := 252645135) d_J6_bitCount_0f7a4_29 ck_J6_267 (by decide) ?_
  refine r_iand d_J6_bitCount_0f7a4_32 ?_
  refine r_nm (fun y3 ey3 => ?_)
  have h := h y3 ey3
  refine r_istore_n (L2 := [(0, y3)]) d_J6_bitCount_0f7a4_33 (by decide) rfl rfl ?_
  refine r_iload_n (x := y3) d_J6_bitCount_0f7a4_34 rfl ?_
  refine r_iload_n (x := y3) d_J6_bitCount_0f7a4_35 rfl ?_
  refine r_bipush (x := 8) d_J6_bitCount_0f7a4_36 ⟨by decide, by decide⟩ (by decide) ?_
  refine r_iushr d_J6_bitCount_0f7a4_38 ?_
  refine r_iadd d_J6_bitCount_0f7a4_39 ?_
  refine r_nm (fun y4 ey4 => ?_)
  have h := h y4 ey4
  refine r_istore_n (L2 := [(0, y4)]) d_J6_bitCount_0f7a4_40 (by decide) rfl rfl ?_
  refine r_iload_n (x := y4) d_J6_bitCount_0f7a4_41 rfl ?_
  refine r_iload_n (x := y4) d_J6_bitCount_0f7a4_42 rfl ?_
  refine r_bipush (x := 16) d_J6_bitCount_0f7a4_43 ⟨by decide, by decide⟩ (by decide) ?_
  refine r_iushr d_J6_bitCount_0f7a4_45 ?_
  refine r_iadd d_J6_bitCount_0f7a4_46 ?_
  refine r_nm (fun y5 ey5 => ?_)
  have h := h y5 ey5
  refine r_istore_n (L2 := [(0, y5)]) d_J6_bitCount_0f7a4_47 (by decide) rfl rfl ?_
  refine r_iload_n (x := y5) d_J6_bitCount_0f7a4_48 rfl ?_
  refine r_bipush (x := 63) d_J6_bitCount_0f7a4_49 ⟨by decide, by decide⟩ (by decide) ?_
  refine r_iand d_J6_bitCount_0f7a4_51 ?_
  exact r_iret d_J6_bitCount_0f7a4_52 rfl rfl (Nat.le_refl 0) (Nat.le_refl 0) ⟨_, rfl, rfl, rfl, h⟩
theorem v_X1_keyOf_0 {l : Launch} {d N : Nat} {Λ : Lay} {P : Int → Mem → Prop} {σ : Mem} {x0 : Int} (h0d : 1 ≤ d)
    (h : (CI l mJ6_bitCount_0f7a4 (d - 1) [(0, x0)] N Λ σ (fun v2 σ1 => ((v2 = 2 → WL l mX1_keyOf d P 16 [(0, x0), (0, 0), (0, 0), (0, 0)] [] N Λ σ1) ∧ (¬ (v2 = 2) → P 0 σ1))))) :
    WL l mX1_keyOf d P 0 [(0, x0), (3, 0), (3, 0), (3, 0)] [] N Λ σ := by
  have hd_1 : 1 ≤ d := Nat.le_trans (by decide) h0d
  refine r_iload_n (x := x0) d_X1_keyOf_0 rfl ?_
  refine x_callSI (Y2 := mJ6_bitCount_0f7a4) (As := [(0, x0)]) (S := []) d_X1_keyOf_1 ok_mJ6_bitCount_0f7a4 ml_X1_110 rfl (Nat.le_of_ble_eq_true rfl) (Nat.le_of_ble_eq_true rfl) rfl hd_1 (CI.mono h (fun v2 σ1 h => ?_))
  refine r_iconst (x := 2) d_X1_keyOf_4 ⟨by decide, by decide⟩ ?_
  refine r_ic_eq (tgt := 10) d_X1_keyOf_5 rfl (fun hc => ?_) (fun hc => ?_)
  · have h := h.1 hc
    refine r_iconst (x := 0) d_X1_keyOf_10 ⟨by decide, by decide⟩ ?_
    refine r_istore_n (L2 := [(0, x0), (0, 0), (3, 0), (3, 0)]) d_X1_keyOf_11 (by decide) rfl rfl ?_
    refine r_iconst (x := 0) d_X1_keyOf_12 ⟨by decide, by decide⟩ ?_
    refine r_istore_n (L2 := [(0, x0), (0, 0), (0, 0), (3, 0)]) d_X1_keyOf_13 (by decide) rfl rfl ?_
    refine r_iconst (x := 0) d_X1_keyOf_14 ⟨by decide, by decide⟩ ?_
    refine r_istore_n (L2 := [(0, x0), (0, 0), (0, 0), (0, 0)]) d_X1_keyOf_15 (by decide) rfl rfl ?_
    exact h
  · have h := h.2 hc
    refine r_lconst d_X1_keyOf_8 ?_
    skip
    exact r_lret d_X1_keyOf_9 rfl (Nat.le_refl 0) (Nat.le_refl 0) ⟨_, rfl, rfl, rfl, h⟩
theorem v_X1_keyOf_16 {l : Launch} {d N : Nat} {Λ : Lay} {P : Int → Mem → Prop} {σ : Mem} {x0 x1 x2 x3 : Int} (h0d : 1 ≤ d)
    (h : ((6 ≤ x3 → (CL l mX6_with (d - 1) [(1, 0), (0, x1)] N Λ σ (fun v2 σ1 => (CL l mX6_with (d - 1) [(1, v2), (0, x2)] N Λ σ1 (fun v4 σ3 => P v4 σ3))))) ∧ (¬ (6 ≤ x3) → ((x3 = 0 → (∀ y5, y5 = (orI (shlI x1 4) x3) → (∀ y6, y6 = addI x3 1 → WL l mX1_keyOf d P 16 [(0, x0), (0, y5), (0, x2), (0, y6)] [] N Λ σ))) ∧ (¬ (x3 = 0) → ((¬ (andI (shrI x0 (subI x3 1)) 1) = 1 → (∀ y7, y7 = (orI (shlI x2 4) x3) → (∀ y8, y8 = addI x3 1 → WL l mX1_keyOf d P 16 [(0, x0), (0, x1), (0, y7), (0, y8)] [] N Λ σ))) ∧ ((andI (shrI x0 (subI x3 1)) 1) = 1 → (∀ y9, y9 = (orI (shlI x1 4) x3) → (∀ y10, y10 = addI x3 1 → WL l mX1_keyOf d P 16 [(0, x0), (0, y9), (0, x2), (0, y10)] [] N Λ σ))))))))) :
    WL l mX1_keyOf d P 16 [(0, x0), (0, x1), (0, x2), (0, x3)] [] N Λ σ := by
  have hd_1 : 1 ≤ d := Nat.le_trans (by decide) h0d
  refine r_iload_n (x := x3) d_X1_keyOf_16 rfl ?_
  refine r_bipush (x := 6) d_X1_keyOf_17 ⟨by decide, by decide⟩ (by decide) ?_
  refine r_ic_ge (tgt := 58) d_X1_keyOf_19 rfl (fun hc => ?_) (fun hc => ?_)
  · have h := h.1 hc
    refine r_lconst d_X1_keyOf_58 ?_
    skip
    refine r_iload_n (x := x1) d_X1_keyOf_59 rfl ?_
    refine x_callSL (Y2 := mX6_with) (As := [(1, 0), (0, x1)]) (S := []) d_X1_keyOf_60 ok_mX6_with ml_X1_106 rfl (Nat.le_of_ble_eq_true rfl) (Nat.le_of_ble_eq_true rfl) rfl hd_1 (CL.mono h (fun v2 σ1 h => ?_))
    refine r_iload_n (x := x2) d_X1_keyOf_63 rfl ?_
    refine x_callSL (Y2 := mX6_with) (As := [(1, v2), (0, x2)]) (S := []) d_X1_keyOf_64 ok_mX6_with ml_X1_106 rfl (Nat.le_of_ble_eq_true rfl) (Nat.le_of_ble_eq_true rfl) rfl hd_1 (CL.mono h (fun v4 σ3 h => ?_))
    exact r_lret d_X1_keyOf_67 rfl (Nat.le_refl 0) (Nat.le_refl 0) ⟨_, rfl, rfl, rfl, h⟩
  · have h := h.2 hc
    refine r_iload_n (x := x3) d_X1_keyOf_22 rfl ?_
    refine r_if_eq (tgt := 37) d_X1_keyOf_23 rfl (fun hc => ?_) (fun hc => ?_)
    · have h := h.1 hc
      refine r_iload_n (x := x1) d_X1_keyOf_37 rfl ?_
      refine r_iconst (x := 4) d_X1_keyOf_38 ⟨by decide, by decide⟩ ?_
      refine r_ishl d_X1_keyOf_39 ?_
      refine r_iload_n (x := x3) d_X1_keyOf_40 rfl ?_
      refine r_ior d_X1_keyOf_41 ?_
      refine r_nm (fun y5 ey5 => ?_)
      have h := h y5 ey5
      refine r_istore_n (L2 := [(0, x0), (0, y5), (0, x2), (0, x3)]) d_X1_keyOf_42 (by decide) rfl rfl ?_
      refine r_goto (tgt := 52) d_X1_keyOf_43 rfl ?_
      refine x_iinc (x := x3) (L := [(0, x0), (0, y5), (0, x2), (0, x3)]) d_X1_keyOf_52 rfl (by decide) rfl (fun y6 ey6 => ?_)
      have h := h y6 ey6
      show WP _ _ _ _ _ _ _ _ [(0, x0), (0, y5), (0, x2), (0, y6)] _ _ _ _
      refine r_goto (tgt := 16) d_X1_keyOf_55 rfl ?_
      exact h
    · have h := h.2 hc
      refine r_iload_n (x := x0) d_X1_keyOf_26 rfl ?_
      refine r_iload_n (x := x3) d_X1_keyOf_27 rfl ?_
      refine r_iconst (x := 1) d_X1_keyOf_28 ⟨by decide, by decide⟩ ?_
      refine r_isub d_X1_keyOf_29 ?_
      refine r_ishr d_X1_keyOf_30 ?_
      refine r_iconst (x := 1) d_X1_keyOf_31 ⟨by decide, by decide⟩ ?_
      refine r_iand d_X1_keyOf_32 ?_
      refine r_iconst (x := 1) d_X1_keyOf_33 ⟨by decide, by decide⟩ ?_
      refine r_ic_ne (tgt := 46) d_X1_keyOf_34 rfl (fun hc => ?_) (fun hc => ?_)
      · have h := h.1 hc
        refine r_iload_n (x := x2) d_X1_keyOf_46 rfl ?_
        refine r_iconst (x := 4) d_X1_keyOf_47 ⟨by decide, by decide⟩ ?_
        refine r_ishl d_X1_keyOf_48 ?_
        refine r_iload_n (x := x3) d_X1_keyOf_49 rfl ?_
        refine r_ior d_X1_keyOf_50 ?_
        refine r_nm (fun y7 ey7 => ?_)
        have h := h y7 ey7
        refine r_istore_n (L2 := [(0, x0), (0, x1), (0, y7), (0, x3)]) d_X1_keyOf_51 (by decide) rfl rfl ?_
        refine x_iinc (x := x3) (L := [(0, x0), (0, x1), (0, y7), (0, x3)]) d_X1_keyOf_52 rfl (by decide) rfl (fun y8 ey8 => ?_)
        have h := h y8 ey8
        show WP _ _ _ _ _ _ _ _ [(0, x0), (0, x1), (0, y7), (0, y8)] _ _ _ _
        refine r_goto (tgt := 16) d_X1_keyOf_55 rfl ?_
        exact h
      · have h := h.2 hc
        refine r_iload_n (x := x1) d_X1_keyOf_37 rfl ?_
        refine r_iconst (x := 4) d_X1_keyOf_38 ⟨by decide, by decide⟩ ?_
        refine r_ishl d_X1_keyOf_39 ?_
        refine r_iload_n (x := x3) d_X1_keyOf_40 rfl ?_
        refine r_ior d_X1_keyOf_41 ?_
        refine r_nm (fun y9 ey9 => ?_)
        have h := h y9 ey9
        refine r_istore_n (L2 := [(0, x0), (0, y9), (0, x2), (0, x3)]) d_X1_keyOf_42 (by decide) rfl rfl ?_
        refine r_goto (tgt := 52) d_X1_keyOf_43 rfl ?_
        refine x_iinc (x := x3) (L := [(0, x0), (0, y9), (0, x2), (0, x3)]) d_X1_keyOf_52 rfl (by decide) rfl (fun y10 ey10 => ?_)
        have h := h y10 ey10
        show WP _ _ _ _ _ _ _ _ [(0, x0), (0, y9), (0, x2), (0, y10)] _ _ _ _
        refine r_goto (tgt := 16) d_X1_keyOf_55 rfl ?_
        exact h
theorem v_X2_begin_0 {l : Launch} {d N : Nat} {Λ : Lay} {P : Mem → Prop} {σ : Mem} {t : Int} (o_t : Ob N Λ t 12 9)
    (h : (∀ τ1, τ1 = st σ t 2 0 → P τ1)) :
    WV l mX2_begin d P 0 [(2, t)] [] N Λ σ := by
  refine r_aload_n (x := t) d_X2_begin_0 rfl o_t.1 ?_
  refine r_iconst (x := 0) d_X2_begin_1 ⟨by decide, by decide⟩ ?_
  refine r_putI (j := 2) d_X2_begin_2 kX2 (by decide) fl_X2_21 rfl o_t.1 o_t.2.1 o_t.2.2.1 o_t.2.2.2 rfl ?_
  refine r_nmM (fun τ1 eτ1 => ?_)
  have h := h τ1 eτ1
  exact r_vret d_X2_begin_5 rfl (Nat.le_refl 0) (Nat.le_refl 0) ⟨rfl, rfl, rfl, h⟩
theorem v_X9_isLetterByte_0 {l : Launch} {d N : Nat} {Λ : Lay} {P : Int → Mem → Prop} {σ : Mem} {x0 : Int}
    (h : ((x0 < 97 → P 0 σ) ∧ (¬ (x0 < 97) → ((106 < x0 → P 0 σ) ∧ (¬ (106 < x0) → P 1 σ))))) :
    WI l mX9_isLetterByte d P 0 [(0, x0)] [] N Λ σ := by
  refine r_iload_n (x := x0) d_X9_isLetterByte_0 rfl ?_
  refine r_bipush (x := 97) d_X9_isLetterByte_1 ⟨by decide, by decide⟩ (by decide) ?_
  refine r_ic_lt (tgt := 16) d_X9_isLetterByte_3 rfl (fun hc => ?_) (fun hc => ?_)
  · have h := h.1 hc
    refine r_iconst (x := 0) d_X9_isLetterByte_16 ⟨by decide, by decide⟩ ?_
    exact r_iret d_X9_isLetterByte_17 rfl (by decide) (Nat.le_refl 0) (Nat.le_refl 0) ⟨_, rfl, rfl, rfl, h⟩
  · have h := h.2 hc
    refine r_iload_n (x := x0) d_X9_isLetterByte_6 rfl ?_
    refine r_bipush (x := 106) d_X9_isLetterByte_7 ⟨by decide, by decide⟩ (by decide) ?_
    refine r_ic_gt (tgt := 16) d_X9_isLetterByte_9 rfl (fun hc => ?_) (fun hc => ?_)
    · have h := h.1 hc
      refine r_iconst (x := 0) d_X9_isLetterByte_16 ⟨by decide, by decide⟩ ?_
      exact r_iret d_X9_isLetterByte_17 rfl (by decide) (Nat.le_refl 0) (Nat.le_refl 0) ⟨_, rfl, rfl, rfl, h⟩
    · have h := h.2 hc
      refine r_iconst (x := 1) d_X9_isLetterByte_12 ⟨by decide, by decide⟩ ?_
      refine r_goto (tgt := 17) d_X9_isLetterByte_13 rfl ?_
      exact r_iret d_X9_isLetterByte_17 rfl (by decide) (Nat.le_refl 0) (Nat.le_refl 0) ⟨_, rfl, rfl, rfl, h⟩
theorem v_X5_empty_0 {l : Launch} {d N : Nat} {Λ : Lay} {P : Mem → Prop} {σ : Mem} {t : Int} (o_t : Ob N Λ t 15 3)
    (h : (∀ τ1, τ1 = st σ t 2 0 → P τ1)) :
    WV l mX5_empty d P 0 [(2, t)] [] N Λ σ := by
  refine r_aload_n (x := t) d_X5_empty_0 rfl o_t.1 ?_
  refine r_iconst (x := 0) d_X5_empty_1 ⟨by decide, by decide⟩ ?_
  refine r_putI (j := 2) d_X5_empty_2 kX5 (by decide) fl_X5_19 rfl o_t.1 o_t.2.1 o_t.2.2.1 o_t.2.2.2 rfl ?_
  refine r_nmM (fun τ1 eτ1 => ?_)
  have h := h τ1 eτ1
  exact r_vret d_X5_empty_5 rfl (Nat.le_refl 0) (Nat.le_refl 0) ⟨rfl, rfl, rfl, h⟩
theorem v_X2_empty_0 {l : Launch} {d N : Nat} {Λ : Lay} {P : Mem → Prop} {σ : Mem} {x1 t : Int}
    (h : WV l mX2_empty d P 2 [(2, t), (0, x1), (0, 0)] [] N Λ σ) :
    WV l mX2_empty d P 0 [(2, t), (0, x1), (3, 0)] [] N Λ σ := by
  refine r_iconst (x := 0) d_X2_empty_0 ⟨by decide, by decide⟩ ?_
  refine r_istore_n (L2 := [(2, t), (0, x1), (0, 0)]) d_X2_empty_1 (by decide) rfl rfl ?_
  exact h
theorem v_X2_empty_2 {l : Launch} {d N : Nat} {Λ : Lay} {P : Mem → Prop} {σ : Mem} {x1 x2 t t_polys : Int} (o_t : Ob N Λ t 12 9) (f_t_polys : (Λ t).2.2 0 = t_polys) (h0d : 1 ≤ d)
    (h : ((10 ≤ x2 → P σ) ∧ (¬ (10 ≤ x2) → (Ix N Λ t_polys 3 (addI x1 x2) ∧ (∀ b1, b1 = (Λ t_polys).2.2 (addI x1 x2) → (Ob N Λ b1 15 3 ∧ (CV l mX5_empty (d - 1) [(2, b1)] N Λ σ (fun σ2 => (∀ y3, y3 = addI x2 1 → WV l mX2_empty d P 2 [(2, t), (0, x1), (0, y3)] [] N Λ σ2))))))))) :
    WV l mX2_empty d P 2 [(2, t), (0, x1), (0, x2)] [] N Λ σ := by
  have hd_1 : 1 ≤ d := Nat.le_trans (by decide) h0d
  refine r_iload_n (x := x2) d_X2_empty_2 rfl ?_
  refine r_bipush (x := 10) d_X2_empty_3 ⟨by decide, by decide⟩ (by decide) ?_
  refine r_ic_ge (tgt := 25) d_X2_empty_5 rfl (fun hc => ?_) (fun hc => ?_)
  · have h := h.1 hc
    exact r_vret d_X2_empty_25 rfl (Nat.le_refl 0) (Nat.le_refl 0) ⟨rfl, rfl, rfl, h⟩
  · have h := h.2 hc
    refine r_aload_n (x := t) d_X2_empty_8 rfl o_t.1 ?_
    refine r_getf (j := 0) (t := 2) (x := t_polys) d_X2_empty_9 kX2 (by decide) fl_X2_13 o_t.1 o_t.2.1 o_t.2.2.1 o_t.2.2.2 rfl f_t_polys ?_
    refine r_iload_n (x := x1) d_X2_empty_12 rfl ?_
    refine r_iload_n (x := x2) d_X2_empty_13 rfl ?_
    refine r_iadd d_X2_empty_14 ?_
    refine x_aald (t := 3) (by decide) d_X2_empty_15 h.1 (fun b1 eb1 => ?_)
    have h := h.2 b1 eb1
    have oob1 := h.1
    have h := h.2
    refine x_callVV (Y2 := mX5_empty) (c := b1) (As := []) (S := []) d_X2_empty_16 ok_mX5_empty ml_X2_71 rfl (Nat.le_of_ble_eq_true rfl) (Nat.le_of_ble_eq_true rfl) rfl hd_1 kX5 oob1 (CV.mono h (fun σ2 h => ?_))
    refine x_iinc (x := x2) (L := [(2, t), (0, x1), (0, x2)]) d_X2_empty_19 rfl (by decide) rfl (fun y3 ey3 => ?_)
    have h := h y3 ey3
    show WP _ _ _ _ _ _ _ _ [(2, t), (0, x1), (0, y3)] _ _ _ _
    refine r_goto (tgt := 2) d_X2_empty_22 rfl ?_
    exact h
theorem v_X5_find_0 {l : Launch} {d N : Nat} {Λ : Lay} {P : Int → Mem → Prop} {σ : Mem} {x1 t : Int}
    (h : WI l mX5_find d P 6 [(2, t), (1, x1), (3, 0), (0, 0), (0, 64)] [] N Λ σ) :
    WI l mX5_find d P 0 [(2, t), (1, x1), (3, 0), (3, 0), (3, 0)] [] N Λ σ := by
  refine r_iconst (x := 0) d_X5_find_0 ⟨by decide, by decide⟩ ?_
  refine r_istore_n (L2 := [(2, t), (1, x1), (3, 0), (0, 0), (3, 0)]) d_X5_find_1 (by decide) rfl rfl ?_
  refine r_bipush (x := 64) d_X5_find_2 ⟨by decide, by decide⟩ (by decide) ?_
  refine r_istore (L2 := [(2, t), (1, x1), (3, 0), (0, 0), (0, 64)]) d_X5_find_4 (by decide) rfl rfl ?_
  exact h
theorem v_X5_find_6 {l : Launch} {d N : Nat} {Λ : Lay} {P : Int → Mem → Prop} {σ : Mem} {x1 x3 x4 t t_keys : Int} (o_t : Ob N Λ t 15 3) (f_t_keys : (Λ t).2.2 0 = t_keys)
    (h : ((x4 ≤ 0 → P x3 σ) ∧ (¬ (x4 ≤ 0) → (((σ t 2) < (addI x3 x4) → (∀ y1, y1 = (shrI x4 1) → WI l mX5_find d P 6 [(2, t), (1, x1), (3, 0), (0, x3), (0, y1)] [] N Λ σ)) ∧ (¬ ((σ t 2) < (addI x3 x4)) → (Ix N Λ t_keys 1 (subI (addI x3 x4) 1) ∧ ((0 ≤ (cmpL (σ t_keys (subI (addI x3 x4) 1)) x1) → (∀ y2, y2 = (shrI x4 1) → WI l mX5_find d P 6 [(2, t), (1, x1), (3, 0), (0, x3), (0, y2)] [] N Λ σ)) ∧ (¬ (0 ≤ (cmpL (σ t_keys (subI (addI x3 x4) 1)) x1)) → (∀ y3, y3 = (addI x3 x4) → (∀ y4, y4 = (shrI x4 1) → WI l mX5_find d P 6 [(2, t), (1, x1), (3, 0), (0, y3), (0, y4)] [] N Λ σ)))))))))) :
    WI l mX5_find d P 6 [(2, t), (1, x1), (3, 0), (0, x3), (0, x4)] [] N Λ σ := by
  refine r_iload (x := x4) d_X5_find_6 rfl ?_
  refine r_if_le (tgt := 52) d_X5_find_8 rfl (fun hc => ?_) (fun hc => ?_)
  · have h := h.1 hc
    refine r_iload_n (x := x3) d_X5_find_52 rfl ?_
    exact r_iret d_X5_find_53 rfl rfl (Nat.le_refl 0) (Nat.le_refl 0) ⟨_, rfl, rfl, rfl, h⟩
  · have h := h.2 hc
    refine r_iload_n (x := x3) d_X5_find_11 rfl ?_
    refine r_iload (x := x4) d_X5_find_12 rfl ?_
    refine r_iadd d_X5_find_14 ?_
    refine r_aload_n (x := t) d_X5_find_15 rfl o_t.1 ?_
    refine r_getf (j := 2) (t := 0) (x := (σ t 2)) d_X5_find_16 kX5 (by decide) fl_X5_19 o_t.1 o_t.2.1 o_t.2.2.1 o_t.2.2.2 rfl rfl ?_
    refine r_ic_gt (tgt := 43) d_X5_find_19 rfl (fun hc => ?_) (fun hc => ?_)
    · have h := h.1 hc
      refine r_iload (x := x4) d_X5_find_43 rfl ?_
      refine r_iconst (x := 1) d_X5_find_45 ⟨by decide, by decide⟩ ?_
      refine r_ishr d_X5_find_46 ?_
      refine r_nm (fun y1 ey1 => ?_)
      have h := h y1 ey1
      refine r_istore (L2 := [(2, t), (1, x1), (3, 0), (0, x3), (0, y1)]) d_X5_find_47 (by decide) rfl rfl ?_
      refine r_goto (tgt := 6) d_X5_find_49 rfl ?_
      exact h
    · have h := h.2 hc
      refine r_aload_n (x := t) d_X5_find_22 rfl o_t.1 ?_
      refine r_getf (j := 0) (t := 2) (x := t_keys) d_X5_find_23 kX5 (by decide) fl_X5_9 o_t.1 o_t.2.1 o_t.2.2.1 o_t.2.2.2 rfl f_t_keys ?_
      refine r_iload_n (x := x3) d_X5_find_26 rfl ?_
      refine r_iload (x := x4) d_X5_find_27 rfl ?_
      refine r_iadd d_X5_find_29 ?_
      refine r_iconst (x := 1) d_X5_find_30 ⟨by decide, by decide⟩ ?_
      refine r_isub d_X5_find_31 ?_
      refine x_lald d_X5_find_32 h.1 ?_
      have h := h.2
      refine r_lload_n (x := x1) d_X5_find_33 rfl ?_
      refine r_lcmp d_X5_find_34 ?_
      refine r_if_ge (tgt := 43) d_X5_find_35 rfl (fun hc => ?_) (fun hc => ?_)
      · have h := h.1 hc
        refine r_iload (x := x4) d_X5_find_43 rfl ?_
        refine r_iconst (x := 1) d_X5_find_45 ⟨by decide, by decide⟩ ?_
        refine r_ishr d_X5_find_46 ?_
        refine r_nm (fun y2 ey2 => ?_)
        have h := h y2 ey2
        refine r_istore (L2 := [(2, t), (1, x1), (3, 0), (0, x3), (0, y2)]) d_X5_find_47 (by decide) rfl rfl ?_
        refine r_goto (tgt := 6) d_X5_find_49 rfl ?_
        exact h
      · have h := h.2 hc
        refine r_iload_n (x := x3) d_X5_find_38 rfl ?_
        refine r_iload (x := x4) d_X5_find_39 rfl ?_
        refine r_iadd d_X5_find_41 ?_
        refine r_nm (fun y3 ey3 => ?_)
        have h := h y3 ey3
        refine r_istore_n (L2 := [(2, t), (1, x1), (3, 0), (0, y3), (0, x4)]) d_X5_find_42 (by decide) rfl rfl ?_
        refine r_iload (x := x4) d_X5_find_43 rfl ?_
        refine r_iconst (x := 1) d_X5_find_45 ⟨by decide, by decide⟩ ?_
        refine r_ishr d_X5_find_46 ?_
        refine r_nm (fun y4 ey4 => ?_)
        have h := h y4 ey4
        refine r_istore (L2 := [(2, t), (1, x1), (3, 0), (0, y3), (0, y4)]) d_X5_find_47 (by decide) rfl rfl ?_
        refine r_goto (tgt := 6) d_X5_find_49 rfl ?_
        exact h
theorem v_X5_layUpon_0 {l : Launch} {d N : Nat} {Λ : Lay} {P : Int → Mem → Prop} {σ : Mem} {x1 x2 t t_keys t_numbers : Int} (o_t : Ob N Λ t 15 3) (f_t_numbers : (Λ t).2.2 1 = t_numbers) (f_t_keys : (Λ t).2.2 0 = t_keys) (h0d : 1 ≤ d)
    (h : (((cmpL x2 (l2iI x2)) = 0 → (Ix N Λ t_numbers 0 x1 ∧ (∀ τ1, τ1 = st σ t_numbers x1 (l2iI x2) → ((¬ (cmpL x2 0) = 0 → P 0 τ1) ∧ ((cmpL x2 0) = 0 → (∀ τ2, τ2 = st τ1 t 2 (subI (τ1 t 2) 1) → (Cp N Λ t_keys t_keys 1 (addI x1 1) x1 (subI (τ2 t 2) x1) ∧ (∀ τ3, τ3 = cpM τ2 t_keys (addI x1 1) t_keys x1 (subI (τ2 t 2) x1) → (Cp N Λ t_numbers t_numbers 0 (addI x1 1) x1 (subI (τ3 t 2) x1) ∧ (∀ τ4, τ4 = cpM τ3 t_numbers (addI x1 1) t_numbers x1 (subI (τ3 t 2) x1) → P 0 τ4)))))))))) ∧ (¬ ((cmpL x2 (l2iI x2)) = 0) → P 4 σ))) :
    WI l mX5_layUpon d P 0 [(2, t), (0, x1), (1, x2), (3, 0)] [] N Λ σ := by
  have hd_1 : 1 ≤ d := Nat.le_trans (by decide) h0d
  refine r_lload_n (x := x2) d_X5_layUpon_0 rfl ?_
  refine r_lload_n (x := x2) d_X5_layUpon_1 rfl ?_
  refine r_l2i d_X5_layUpon_2 ?_
  refine r_i2l d_X5_layUpon_3 ?_
  refine r_lcmp d_X5_layUpon_4 ?_
  refine r_if_eq (tgt := 10) d_X5_layUpon_5 rfl (fun hc => ?_) (fun hc => ?_)
  · have h := h.1 hc
    refine r_aload_n (x := t) d_X5_layUpon_10 rfl o_t.1 ?_
    refine r_getf (j := 1) (t := 2) (x := t_numbers) d_X5_layUpon_11 kX5 (by decide) fl_X5_15 o_t.1 o_t.2.1 o_t.2.2.1 o_t.2.2.2 rfl f_t_numbers ?_
    refine r_iload_n (x := x1) d_X5_layUpon_14 rfl ?_
    refine r_lload_n (x := x2) d_X5_layUpon_15 rfl ?_
    refine r_l2i d_X5_layUpon_16 ?_
    refine x_iast d_X5_layUpon_17 h.1 ?_
    have h := h.2
    refine r_nmM (fun τ1 eτ1 => ?_)
    have h := h τ1 eτ1
    refine r_lload_n (x := x2) d_X5_layUpon_18 rfl ?_
    refine r_lconst d_X5_layUpon_19 ?_
    skip
    refine r_lcmp d_X5_layUpon_20 ?_
    refine r_if_ne (tgt := 76) d_X5_layUpon_21 rfl (fun hc => ?_) (fun hc => ?_)
    · have h := h.1 hc
      refine r_iconst (x := 0) d_X5_layUpon_76 ⟨by decide, by decide⟩ ?_
      exact r_iret d_X5_layUpon_77 rfl rfl (Nat.le_refl 0) (Nat.le_refl 0) ⟨_, rfl, rfl, rfl, h⟩
    · have h := h.2 hc
      refine r_aload_n (x := t) d_X5_layUpon_24 rfl o_t.1 ?_
      refine r_dup d_X5_layUpon_25 rfl ?_
      refine r_getf (j := 2) (t := 0) (x := (τ1 t 2)) d_X5_layUpon_26 kX5 (by decide) fl_X5_19 o_t.1 o_t.2.1 o_t.2.2.1 o_t.2.2.2 rfl rfl ?_
      refine r_iconst (x := 1) d_X5_layUpon_29 ⟨by decide, by decide⟩ ?_
      refine r_isub d_X5_layUpon_30 ?_
      refine r_putI (j := 2) d_X5_layUpon_31 kX5 (by decide) fl_X5_19 rfl o_t.1 o_t.2.1 o_t.2.2.1 o_t.2.2.2 rfl ?_
      refine r_nmM (fun τ2 eτ2 => ?_)
      have h := h τ2 eτ2
      refine r_aload_n (x := t) d_X5_layUpon_34 rfl o_t.1 ?_
      refine r_getf (j := 0) (t := 2) (x := t_keys) d_X5_layUpon_35 kX5 (by decide) fl_X5_9 o_t.1 o_t.2.1 o_t.2.2.1 o_t.2.2.2 rfl f_t_keys ?_
      refine r_iload_n (x := x1) d_X5_layUpon_38 rfl ?_
      refine r_iconst (x := 1) d_X5_layUpon_39 ⟨by decide, by decide⟩ ?_
      refine r_iadd d_X5_layUpon_40 ?_
      refine r_aload_n (x := t) d_X5_layUpon_41 rfl o_t.1 ?_
      refine r_getf (j := 0) (t := 2) (x := t_keys) d_X5_layUpon_42 kX5 (by decide) fl_X5_9 o_t.1 o_t.2.1 o_t.2.2.1 o_t.2.2.2 rfl f_t_keys ?_
      refine r_iload_n (x := x1) d_X5_layUpon_45 rfl ?_
      refine r_aload_n (x := t) d_X5_layUpon_46 rfl o_t.1 ?_
      refine r_getf (j := 2) (t := 0) (x := (τ2 t 2)) d_X5_layUpon_47 kX5 (by decide) fl_X5_19 o_t.1 o_t.2.1 o_t.2.2.1 o_t.2.2.2 rfl rfl ?_
      refine r_iload_n (x := x1) d_X5_layUpon_50 rfl ?_
      refine r_isub d_X5_layUpon_51 ?_
      refine x_acp1 d_X5_layUpon_52 ml_X5_23 hd_1 (Nat.le_of_ble_eq_true rfl) h.1 ?_
      have h := h.2
      refine r_nmM (fun τ3 eτ3 => ?_)
      have h := h τ3 eτ3
      refine r_aload_n (x := t) d_X5_layUpon_55 rfl o_t.1 ?_
      refine r_getf (j := 1) (t := 2) (x := t_numbers) d_X5_layUpon_56 kX5 (by decide) fl_X5_15 o_t.1 o_t.2.1 o_t.2.2.1 o_t.2.2.2 rfl f_t_numbers ?_
      refine r_iload_n (x := x1) d_X5_layUpon_59 rfl ?_
      refine r_iconst (x := 1) d_X5_layUpon_60 ⟨by decide, by decide⟩ ?_
      refine r_iadd d_X5_layUpon_61 ?_
      refine r_aload_n (x := t) d_X5_layUpon_62 rfl o_t.1 ?_
      refine r_getf (j := 1) (t := 2) (x := t_numbers) d_X5_layUpon_63 kX5 (by decide) fl_X5_15 o_t.1 o_t.2.1 o_t.2.2.1 o_t.2.2.2 rfl f_t_numbers ?_
      refine r_iload_n (x := x1) d_X5_layUpon_66 rfl ?_
      refine r_aload_n (x := t) d_X5_layUpon_67 rfl o_t.1 ?_
      refine r_getf (j := 2) (t := 0) (x := (τ3 t 2)) d_X5_layUpon_68 kX5 (by decide) fl_X5_19 o_t.1 o_t.2.1 o_t.2.2.1 o_t.2.2.2 rfl rfl ?_
      refine r_iload_n (x := x1) d_X5_layUpon_71 rfl ?_
      refine r_isub d_X5_layUpon_72 ?_
      refine x_acp0 d_X5_layUpon_73 ml_X5_23 hd_1 (Nat.le_of_ble_eq_true rfl) h.1 ?_
      have h := h.2
      refine r_nmM (fun τ4 eτ4 => ?_)
      have h := h τ4 eτ4
      refine r_iconst (x := 0) d_X5_layUpon_76 ⟨by decide, by decide⟩ ?_
      exact r_iret d_X5_layUpon_77 rfl rfl (Nat.le_refl 0) (Nat.le_refl 0) ⟨_, rfl, rfl, rfl, h⟩
  · have h := h.2 hc
    refine r_iconst (x := 4) d_X5_layUpon_8 ⟨by decide, by decide⟩ ?_
    exact r_iret d_X5_layUpon_9 rfl rfl (Nat.le_refl 0) (Nat.le_refl 0) ⟨_, rfl, rfl, rfl, h⟩
theorem v_X5_lay_0 {l : Launch} {d N : Nat} {Λ : Lay} {P : Int → Mem → Prop} {σ : Mem} {x1 x3 t t_keys t_numbers : Int} (o_t : Ob N Λ t 15 3) (f_t_keys : (Λ t).2.2 0 = t_keys) (f_t_numbers : (Λ t).2.2 1 = t_numbers) (h0d : 1 ≤ d)
    (h : ((¬ (cmpL x3 0) = 0 → (((cmpL x3 (l2iI x3)) = 0 → (CI l mX5_find (d - 1) [(2, t), (1, x1)] N Λ σ (fun v2 σ1 => (((σ1 t 2) ≤ v2 → (((σ1 t 2) < 80 → (Cp N Λ t_keys t_keys 1 v2 (addI v2 1) (subI (σ1 t 2) v2) ∧ (∀ τ3, τ3 = cpM σ1 t_keys v2 t_keys (addI v2 1) (subI (σ1 t 2) v2) → (Cp N Λ t_numbers t_numbers 0 v2 (addI v2 1) (subI (τ3 t 2) v2) ∧ (∀ τ4, τ4 = cpM τ3 t_numbers v2 t_numbers (addI v2 1) (subI (τ3 t 2) v2) → (Ix N Λ t_keys 1 v2 ∧ (∀ τ5, τ5 = st τ4 t_keys v2 x1 → (Ix N Λ t_numbers 0 v2 ∧ (∀ τ6, τ6 = st τ5 t_numbers v2 (l2iI x3) → (∀ τ7, τ7 = st τ6 t 2 (addI (τ6 t 2) 1) → P 0 τ7)))))))))) ∧ (¬ ((σ1 t 2) < 80) → P 1 σ1))) ∧ (¬ ((σ1 t 2) ≤ v2) → (Ix N Λ t_keys 1 v2 ∧ ((¬ (cmpL (σ1 t_keys v2) x1) = 0 → (((σ1 t 2) < 80 → (Cp N Λ t_keys t_keys 1 v2 (addI v2 1) (subI (σ1 t 2) v2) ∧ (∀ τ8, τ8 = cpM σ1 t_keys v2 t_keys (addI v2 1) (subI (σ1 t 2) v2) → (Cp N Λ t_numbers t_numbers 0 v2 (addI v2 1) (subI (τ8 t 2) v2) ∧ (∀ τ9, τ9 = cpM τ8 t_numbers v2 t_numbers (addI v2 1) (subI (τ8 t 2) v2) → (Ix N Λ t_keys 1 v2 ∧ (∀ τ10, τ10 = st τ9 t_keys v2 x1 → (Ix N Λ t_numbers 0 v2 ∧ (∀ τ11, τ11 = st τ10 t_numbers v2 (l2iI x3) → (∀ τ12, τ12 = st τ11 t 2 (addI (τ11 t 2) 1) → P 0 τ12)))))))))) ∧ (¬ ((σ1 t 2) < 80) → P 1 σ1))) ∧ ((cmpL (σ1 t_keys v2) x1) = 0 → (Ix N Λ t_numbers 0 v2 ∧ (CI l mX5_layUpon (d - 1) [(2, t), (0, v2), (1, (addL x3 (σ1 t_numbers v2)))] N Λ σ1 (fun v14 σ13 => P v14 σ13))))))))))) ∧ (¬ ((cmpL x3 (l2iI x3)) = 0) → P 4 σ))) ∧ ((cmpL x3 0) = 0 → P 0 σ))) :
    WI l mX5_lay d P 0 [(2, t), (1, x1), (3, 0), (1, x3), (3, 0), (3, 0)] [] N Λ σ := by
  have hd_1 : 1 ≤ d := Nat.le_trans (by decide) h0d
  refine r_lload_n (x := x3) d_X5_lay_0 rfl ?_
  refine r_lconst d_X5_lay_1 ?_
  skip
  refine r_lcmp d_X5_lay_2 ?_
  refine r_if_ne (tgt := 8) d_X5_lay_3 rfl (fun hc => ?_) (fun hc => ?_)
  · have h := h.1 hc
    refine r_lload_n (x := x3) d_X5_lay_8 rfl ?_
    refine r_lload_n (x := x3) d_X5_lay_9 rfl ?_
    refine r_l2i d_X5_lay_10 ?_
    refine r_i2l d_X5_lay_11 ?_
    refine r_lcmp d_X5_lay_12 ?_
    refine r_if_eq (tgt := 18) d_X5_lay_13 rfl (fun hc => ?_) (fun hc => ?_)
    · have h := h.1 hc
      refine r_aload_n (x := t) d_X5_lay_18 rfl o_t.1 ?_
      refine r_lload_n (x := x1) d_X5_lay_19 rfl ?_
      refine x_callVI (Y2 := mX5_find) (c := t) (As := [(1, x1)]) (S := []) d_X5_lay_20 ok_mX5_find ml_X5_29 rfl (Nat.le_of_ble_eq_true rfl) (Nat.le_of_ble_eq_true rfl) rfl hd_1 kX5 o_t (CI.mono h (fun v2 σ1 h => ?_))
      refine r_istore (L2 := [(2, t), (1, x1), (3, 0), (1, x3), (3, 0), (0, v2)]) d_X5_lay_23 (by decide) rfl rfl ?_
      refine r_iload (x := v2) d_X5_lay_25 rfl ?_
      refine r_aload_n (x := t) d_X5_lay_27 rfl o_t.1 ?_
      refine r_getf (j := 2) (t := 0) (x := (σ1 t 2)) d_X5_lay_28 kX5 (by decide) fl_X5_19 o_t.1 o_t.2.1 o_t.2.2.1 o_t.2.2.2 rfl rfl ?_
      refine r_ic_ge (tgt := 63) d_X5_lay_31 rfl (fun hc => ?_) (fun hc => ?_)
      · have h := h.1 hc
        refine r_aload_n (x := t) d_X5_lay_63 rfl o_t.1 ?_
        refine r_getf (j := 2) (t := 0) (x := (σ1 t 2)) d_X5_lay_64 kX5 (by decide) fl_X5_19 o_t.1 o_t.2.1 o_t.2.2.1 o_t.2.2.2 rfl rfl ?_
        refine r_bipush (x := 80) d_X5_lay_67 ⟨by decide, by decide⟩ (by decide) ?_
        refine r_ic_lt (tgt := 74) d_X5_lay_69 rfl (fun hc => ?_) (fun hc => ?_)
        · have h := h.1 hc
          refine r_aload_n (x := t) d_X5_lay_74 rfl o_t.1 ?_
          refine r_getf (j := 0) (t := 2) (x := t_keys) d_X5_lay_75 kX5 (by decide) fl_X5_9 o_t.1 o_t.2.1 o_t.2.2.1 o_t.2.2.2 rfl f_t_keys ?_
          refine r_iload (x := v2) d_X5_lay_78 rfl ?_
          refine r_aload_n (x := t) d_X5_lay_80 rfl o_t.1 ?_
          refine r_getf (j := 0) (t := 2) (x := t_keys) d_X5_lay_81 kX5 (by decide) fl_X5_9 o_t.1 o_t.2.1 o_t.2.2.1 o_t.2.2.2 rfl f_t_keys ?_
          refine r_iload (x := v2) d_X5_lay_84 rfl ?_
          refine r_iconst (x := 1) d_X5_lay_86 ⟨by decide, by decide⟩ ?_
          refine r_iadd d_X5_lay_87 ?_
          refine r_aload_n (x := t) d_X5_lay_88 rfl o_t.1 ?_
          refine r_getf (j := 2) (t := 0) (x := (σ1 t 2)) d_X5_lay_89 kX5 (by decide) fl_X5_19 o_t.1 o_t.2.1 o_t.2.2.1 o_t.2.2.2 rfl rfl ?_
          refine r_iload (x := v2) d_X5_lay_92 rfl ?_
          refine r_isub d_X5_lay_94 ?_
          refine x_acp1 d_X5_lay_95 ml_X5_23 hd_1 (Nat.le_of_ble_eq_true rfl) h.1 ?_
          have h := h.2
          refine r_nmM (fun τ3 eτ3 => ?_)
          have h := h τ3 eτ3
          refine r_aload_n (x := t) d_X5_lay_98 rfl o_t.1 ?_
          refine r_getf (j := 1) (t := 2) (x := t_numbers) d_X5_lay_99 kX5 (by decide) fl_X5_15 o_t.1 o_t.2.1 o_t.2.2.1 o_t.2.2.2 rfl f_t_numbers ?_
          refine r_iload (x := v2) d_X5_lay_102 rfl ?_
          refine r_aload_n (x := t) d_X5_lay_104 rfl o_t.1 ?_
          refine r_getf (j := 1) (t := 2) (x := t_numbers) d_X5_lay_105 kX5 (by decide) fl_X5_15 o_t.1 o_t.2.1 o_t.2.2.1 o_t.2.2.2 rfl f_t_numbers ?_
          refine r_iload (x := v2) d_X5_lay_108 rfl ?_
          refine r_iconst (x := 1) d_X5_lay_110 ⟨by decide, by decide⟩ ?_
          refine r_iadd d_X5_lay_111 ?_
          refine r_aload_n (x := t) d_X5_lay_112 rfl o_t.1 ?_
          refine r_getf (j := 2) (t := 0) (x := (τ3 t 2)) d_X5_lay_113 kX5 (by decide) fl_X5_19 o_t.1 o_t.2.1 o_t.2.2.1 o_t.2.2.2 rfl rfl ?_
          refine r_iload (x := v2) d_X5_lay_116 rfl ?_
          refine r_isub d_X5_lay_118 ?_
          refine x_acp0 d_X5_lay_119 ml_X5_23 hd_1 (Nat.le_of_ble_eq_true rfl) h.1 ?_
          have h := h.2
          refine r_nmM (fun τ4 eτ4 => ?_)
          have h := h τ4 eτ4
          refine r_aload_n (x := t) d_X5_lay_122 rfl o_t.1 ?_
          refine r_getf (j := 0) (t := 2) (x := t_keys) d_X5_lay_123 kX5 (by decide) fl_X5_9 o_t.1 o_t.2.1 o_t.2.2.1 o_t.2.2.2 rfl f_t_keys ?_
          refine r_iload (x := v2) d_X5_lay_126 rfl ?_
          refine r_lload_n (x := x1) d_X5_lay_128 rfl ?_
          refine x_last d_X5_lay_129 h.1 ?_
          have h := h.2
          refine r_nmM (fun τ5 eτ5 => ?_)
          have h := h τ5 eτ5
          refine r_aload_n (x := t) d_X5_lay_130 rfl o_t.1 ?_
          refine r_getf (j := 1) (t := 2) (x := t_numbers) d_X5_lay_131 kX5 (by decide) fl_X5_15 o_t.1 o_t.2.1 o_t.2.2.1 o_t.2.2.2 rfl f_t_numbers ?_
          refine r_iload (x := v2) d_X5_lay_134 rfl ?_
          refine r_lload_n (x := x3) d_X5_lay_136 rfl ?_
          refine r_l2i d_X5_lay_137 ?_
          refine x_iast d_X5_lay_138 h.1 ?_
          have h := h.2
          refine r_nmM (fun τ6 eτ6 => ?_)
          have h := h τ6 eτ6
          refine r_aload_n (x := t) d_X5_lay_139 rfl o_t.1 ?_
          refine r_dup d_X5_lay_140 rfl ?_
          refine r_getf (j := 2) (t := 0) (x := (τ6 t 2)) d_X5_lay_141 kX5 (by decide) fl_X5_19 o_t.1 o_t.2.1 o_t.2.2.1 o_t.2.2.2 rfl rfl ?_
          refine r_iconst (x := 1) d_X5_lay_144 ⟨by decide, by decide⟩ ?_
          refine r_iadd d_X5_lay_145 ?_
          refine r_putI (j := 2) d_X5_lay_146 kX5 (by decide) fl_X5_19 rfl o_t.1 o_t.2.1 o_t.2.2.1 o_t.2.2.2 rfl ?_
          refine r_nmM (fun τ7 eτ7 => ?_)
          have h := h τ7 eτ7
          refine r_iconst (x := 0) d_X5_lay_149 ⟨by decide, by decide⟩ ?_
          exact r_iret d_X5_lay_150 rfl rfl (Nat.le_refl 0) (Nat.le_refl 0) ⟨_, rfl, rfl, rfl, h⟩
        · have h := h.2 hc
          refine r_iconst (x := 1) d_X5_lay_72 ⟨by decide, by decide⟩ ?_
          exact r_iret d_X5_lay_73 rfl rfl (Nat.le_refl 0) (Nat.le_refl 0) ⟨_, rfl, rfl, rfl, h⟩
      · have h := h.2 hc
        refine r_aload_n (x := t) d_X5_lay_34 rfl o_t.1 ?_
        refine r_getf (j := 0) (t := 2) (x := t_keys) d_X5_lay_35 kX5 (by decide) fl_X5_9 o_t.1 o_t.2.1 o_t.2.2.1 o_t.2.2.2 rfl f_t_keys ?_
        refine r_iload (x := v2) d_X5_lay_38 rfl ?_
        refine x_lald d_X5_lay_40 h.1 ?_
        have h := h.2
        refine r_lload_n (x := x1) d_X5_lay_41 rfl ?_
        refine r_lcmp d_X5_lay_42 ?_
        refine r_if_ne (tgt := 63) d_X5_lay_43 rfl (fun hc => ?_) (fun hc => ?_)
        · have h := h.1 hc
          refine r_aload_n (x := t) d_X5_lay_63 rfl o_t.1 ?_
          refine r_getf (j := 2) (t := 0) (x := (σ1 t 2)) d_X5_lay_64 kX5 (by decide) fl_X5_19 o_t.1 o_t.2.1 o_t.2.2.1 o_t.2.2.2 rfl rfl ?_
          refine r_bipush (x := 80) d_X5_lay_67 ⟨by decide, by decide⟩ (by decide) ?_
          refine r_ic_lt (tgt := 74) d_X5_lay_69 rfl (fun hc => ?_) (fun hc => ?_)
          · have h := h.1 hc
            refine r_aload_n (x := t) d_X5_lay_74 rfl o_t.1 ?_
            refine r_getf (j := 0) (t := 2) (x := t_keys) d_X5_lay_75 kX5 (by decide) fl_X5_9 o_t.1 o_t.2.1 o_t.2.2.1 o_t.2.2.2 rfl f_t_keys ?_
            refine r_iload (x := v2) d_X5_lay_78 rfl ?_
            refine r_aload_n (x := t) d_X5_lay_80 rfl o_t.1 ?_
            refine r_getf (j := 0) (t := 2) (x := t_keys) d_X5_lay_81 kX5 (by decide) fl_X5_9 o_t.1 o_t.2.1 o_t.2.2.1 o_t.2.2.2 rfl f_t_keys ?_
            refine r_iload (x := v2) d_X5_lay_84 rfl ?_
            refine r_iconst (x := 1) d_X5_lay_86 ⟨by decide, by decide⟩ ?_
            refine r_iadd d_X5_lay_87 ?_
            refine r_aload_n (x := t) d_X5_lay_88 rfl o_t.1 ?_
            refine r_getf (j := 2) (t := 0) (x := (σ1 t 2)) d_X5_lay_89 kX5 (by decide) fl_X5_19 o_t.1 o_t.2.1 o_t.2.2.1 o_t.2.2.2 rfl rfl ?_
            refine r_iload (x := v2) d_X5_lay_92 rfl ?_
            refine r_isub d_X5_lay_94 ?_
            refine x_acp1 d_X5_lay_95 ml_X5_23 hd_1 (Nat.le_of_ble_eq_true rfl) h.1 ?_
            have h := h.2
            refine r_nmM (fun τ8 eτ8 => ?_)
            have h := h τ8 eτ8
            refine r_aload_n (x := t) d_X5_lay_98 rfl o_t.1 ?_
            refine r_getf (j := 1) (t := 2) (x := t_numbers) d_X5_lay_99 kX5 (by decide) fl_X5_15 o_t.1 o_t.2.1 o_t.2.2.1 o_t.2.2.2 rfl f_t_numbers ?_
            refine r_iload (x := v2) d_X5_lay_102 rfl ?_
            refine r_aload_n (x := t) d_X5_lay_104 rfl o_t.1 ?_
            refine r_getf (j := 1) (t := 2) (x := t_numbers) d_X5_lay_105 kX5 (by decide) fl_X5_15 o_t.1 o_t.2.1 o_t.2.2.1 o_t.2.2.2 rfl f_t_numbers ?_
            refine r_iload (x := v2) d_X5_lay_108 rfl ?_
            refine r_iconst (x := 1) d_X5_lay_110 ⟨by decide, by decide⟩ ?_
            refine r_iadd d_X5_lay_111 ?_
            refine r_aload_n (x := t) d_X5_lay_112 rfl o_t.1 ?_
            refine r_getf (j := 2) (t := 0) (x := (τ8 t 2)) d_X5_lay_113 kX5 (by decide) fl_X5_19 o_t.1 o_t.2.1 o_t.2.2.1 o_t.2.2.2 rfl rfl ?_
            refine r_iload (x := v2) d_X5_lay_116 rfl ?_
            refine r_isub d_X5_lay_118 ?_
            refine x_acp0 d_X5_lay_119 ml_X5_23 hd_1 (Nat.le_of_ble_eq_true rfl) h.1 ?_
            have h := h.2
            refine r_nmM (fun τ9 eτ9 => ?_)
            have h := h τ9 eτ9
            refine r_aload_n (x := t) d_X5_lay_122 rfl o_t.1 ?_
            refine r_getf (j := 0) (t := 2) (x := t_keys) d_X5_lay_123 kX5 (by decide) fl_X5_9 o_t.1 o_t.2.1 o_t.2.2.1 o_t.2.2.2 rfl f_t_keys ?_
            refine r_iload (x := v2) d_X5_lay_126 rfl ?_
            refine r_lload_n (x := x1) d_X5_lay_128 rfl ?_
            refine x_last d_X5_lay_129 h.1 ?_
            have h := h.2
            refine r_nmM (fun τ10 eτ10 => ?_)
            have h := h τ10 eτ10
            refine r_aload_n (x := t) d_X5_lay_130 rfl o_t.1 ?_
            refine r_getf (j := 1) (t := 2) (x := t_numbers) d_X5_lay_131 kX5 (by decide) fl_X5_15 o_t.1 o_t.2.1 o_t.2.2.1 o_t.2.2.2 rfl f_t_numbers ?_
            refine r_iload (x := v2) d_X5_lay_134 rfl ?_
            refine r_lload_n (x := x3) d_X5_lay_136 rfl ?_
            refine r_l2i d_X5_lay_137 ?_
            refine x_iast d_X5_lay_138 h.1 ?_
            have h := h.2
            refine r_nmM (fun τ11 eτ11 => ?_)
            have h := h τ11 eτ11
            refine r_aload_n (x := t) d_X5_lay_139 rfl o_t.1 ?_
            refine r_dup d_X5_lay_140 rfl ?_
            refine r_getf (j := 2) (t := 0) (x := (τ11 t 2)) d_X5_lay_141 kX5 (by decide) fl_X5_19 o_t.1 o_t.2.1 o_t.2.2.1 o_t.2.2.2 rfl rfl ?_
            refine r_iconst (x := 1) d_X5_lay_144 ⟨by decide, by decide⟩ ?_
            refine r_iadd d_X5_lay_145 ?_
            refine r_putI (j := 2) d_X5_lay_146 kX5 (by decide) fl_X5_19 rfl o_t.1 o_t.2.1 o_t.2.2.1 o_t.2.2.2 rfl ?_
            refine r_nmM (fun τ12 eτ12 => ?_)
            have h := h τ12 eτ12
            refine r_iconst (x := 0) d_X5_lay_149 ⟨by decide, by decide⟩ ?_
            exact r_iret d_X5_lay_150 rfl rfl (Nat.le_refl 0) (Nat.le_refl 0) ⟨_, rfl, rfl, rfl, h⟩
          · have h := h.2 hc
            refine r_iconst (x := 1) d_X5_lay_72 ⟨by decide, by decide⟩ ?_
            exact r_iret d_X5_lay_73 rfl rfl (Nat.le_refl 0) (Nat.le_refl 0) ⟨_, rfl, rfl, rfl, h⟩
        · have h := h.2 hc
          refine r_aload_n (x := t) d_X5_lay_46 rfl o_t.1 ?_
          refine r_iload (x := v2) d_X5_lay_47 rfl ?_
          refine r_lload_n (x := x3) d_X5_lay_49 rfl ?_
          refine r_aload_n (x := t) d_X5_lay_50 rfl o_t.1 ?_
          refine r_getf (j := 1) (t := 2) (x := t_numbers) d_X5_lay_51 kX5 (by decide) fl_X5_15 o_t.1 o_t.2.1 o_t.2.2.1 o_t.2.2.2 rfl f_t_numbers ?_
          refine r_iload (x := v2) d_X5_lay_54 rfl ?_
          refine x_iald d_X5_lay_56 h.1 ?_
          have h := h.2
          refine r_i2l d_X5_lay_57 ?_
          refine r_ladd d_X5_lay_58 ?_
          refine x_callVI (Y2 := mX5_layUpon) (c := t) (As := [(0, v2), (1, (addL x3 (σ1 t_numbers v2)))]) (S := []) d_X5_lay_59 ok_mX5_layUpon ml_X5_33 rfl (Nat.le_of_ble_eq_true rfl) (Nat.le_of_ble_eq_true rfl) rfl hd_1 kX5 o_t (CI.mono h (fun v14 σ13 h => ?_))
          exact r_iret d_X5_lay_62 rfl rfl (Nat.le_refl 0) (Nat.le_refl 0) ⟨_, rfl, rfl, rfl, h⟩
    · have h := h.2 hc
      refine r_iconst (x := 4) d_X5_lay_16 ⟨by decide, by decide⟩ ?_
      exact r_iret d_X5_lay_17 rfl rfl (Nat.le_refl 0) (Nat.le_refl 0) ⟨_, rfl, rfl, rfl, h⟩
  · have h := h.2 hc
    refine r_iconst (x := 0) d_X5_lay_6 ⟨by decide, by decide⟩ ?_
    exact r_iret d_X5_lay_7 rfl rfl (Nat.le_refl 0) (Nat.le_refl 0) ⟨_, rfl, rfl, rfl, h⟩
theorem v_X10_begin_0 {l : Launch} {d N : Nat} {Λ : Lay} {P : Mem → Prop} {σ : Mem} {x1 t : Int} (o_t : Ob N Λ t 19 2)
    (h : (∀ τ1, τ1 = st σ t 0 x1 → (∀ τ2, τ2 = st τ1 t 1 1 → P τ2))) :
    WV l mX10_begin d P 0 [(2, t), (1, x1), (3, 0)] [] N Λ σ := by
  refine r_aload_n (x := t) d_X10_begin_0 rfl o_t.1 ?_
  refine r_lload_n (x := x1) d_X10_begin_1 rfl ?_
  refine r_putL (j := 0) d_X10_begin_2 kX10 (by decide) fl_X10_7 rfl o_t.1 o_t.2.1 o_t.2.2.1 o_t.2.2.2 rfl ?_
  refine r_nmM (fun τ1 eτ1 => ?_)
  have h := h τ1 eτ1
  refine r_aload_n (x := t) d_X10_begin_5 rfl o_t.1 ?_
  refine r_iconst (x := 1) d_X10_begin_6 ⟨by decide, by decide⟩ ?_
  refine r_putI (j := 1) d_X10_begin_7 kX10 (by decide) fl_X10_13 rfl o_t.1 o_t.2.1 o_t.2.2.1 o_t.2.2.2 rfl ?_
  refine r_nmM (fun τ2 eτ2 => ?_)
  have h := h τ2 eτ2
  exact r_vret d_X10_begin_10 rfl (Nat.le_refl 0) (Nat.le_refl 0) ⟨rfl, rfl, rfl, h⟩
theorem v_J9_abs_0f7a4_0 {l : Launch} {d N : Nat} {Λ : Lay} {P : Int → Mem → Prop} {σ : Mem} {x0 : Int}
    (h : ((0 ≤ x0 → P x0 σ) ∧ (¬ (0 ≤ x0) → P (negI x0) σ))) :
    WI l mJ9_abs_0f7a4 d P 0 [(0, x0)] [] N Λ σ := by
  refine r_iload_n (x := x0) d_J9_abs_0f7a4_0 rfl ?_
  refine r_if_ge (tgt := 9) d_J9_abs_0f7a4_1 rfl (fun hc => ?_) (fun hc => ?_)
  · have h := h.1 hc
    refine r_iload_n (x := x0) d_J9_abs_0f7a4_9 rfl ?_
    exact r_iret d_J9_abs_0f7a4_10 rfl rfl (Nat.le_refl 0) (Nat.le_refl 0) ⟨_, rfl, rfl, rfl, h⟩
  · have h := h.2 hc
    refine r_iload_n (x := x0) d_J9_abs_0f7a4_4 rfl ?_
    refine r_ineg d_J9_abs_0f7a4_5 ?_
    refine r_goto (tgt := 10) d_J9_abs_0f7a4_6 rfl ?_
    exact r_iret d_J9_abs_0f7a4_10 rfl rfl (Nat.le_refl 0) (Nat.le_refl 0) ⟨_, rfl, rfl, rfl, h⟩
theorem v_X10_attach_0 {l : Launch} {d N : Nat} {Λ : Lay} {P : Mem → Prop} {σ : Mem} {x1 t : Int} (o_t : Ob N Λ t 19 2) (h0d : 1 ≤ d)
    (h : (CI l mX6_ordered (d - 1) [(0, x1)] N Λ σ (fun v2 σ1 => ((¬ v2 = 0 → ((0 ≤ v2 → (CL l mX6_with (d - 1) [(1, (σ1 t 0)), (0, v2)] N Λ σ1 (fun v4 σ3 => (∀ τ5, τ5 = st σ3 t 0 v4 → ((0 ≤ v2 → (∀ τ6, τ6 = st τ5 t 1 (τ5 t 1) → P τ6)) ∧ (¬ (0 ≤ v2) → (∀ τ7, τ7 = st τ5 t 1 (negI (τ5 t 1)) → P τ7))))))) ∧ (¬ (0 ≤ v2) → (CL l mX6_with (d - 1) [(1, (σ1 t 0)), (0, (negI v2))] N Λ σ1 (fun v9 σ8 => (∀ τ10, τ10 = st σ8 t 0 v9 → ((0 ≤ v2 → (∀ τ11, τ11 = st τ10 t 1 (τ10 t 1) → P τ11)) ∧ (¬ (0 ≤ v2) → (∀ τ12, τ12 = st τ10 t 1 (negI (τ10 t 1)) → P τ12))))))))) ∧ (v2 = 0 → (∀ τ13, τ13 = st σ1 t 1 0 → P τ13)))))) :
    WV l mX10_attach d P 0 [(2, t), (0, x1), (3, 0)] [] N Λ σ := by
  have hd_1 : 1 ≤ d := Nat.le_trans (by decide) h0d
  refine r_iload_n (x := x1) d_X10_attach_0 rfl ?_
  refine x_callSI (Y2 := mX6_ordered) (As := [(0, x1)]) (S := []) d_X10_attach_1 ok_mX6_ordered ml_X10_17 rfl (Nat.le_of_ble_eq_true rfl) (Nat.le_of_ble_eq_true rfl) rfl hd_1 (CI.mono h (fun v2 σ1 h => ?_))
  refine r_istore_n (L2 := [(2, t), (0, x1), (0, v2)]) d_X10_attach_4 (by decide) rfl rfl ?_
  refine r_iload_n (x := v2) d_X10_attach_5 rfl ?_
  refine r_if_ne (tgt := 17) d_X10_attach_6 rfl (fun hc => ?_) (fun hc => ?_)
  · have h := h.1 hc
    refine r_aload_n (x := t) d_X10_attach_17 rfl o_t.1 ?_
    refine r_aload_n (x := t) d_X10_attach_18 rfl o_t.1 ?_
    refine r_getf (j := 0) (t := 1) (x := (σ1 t 0)) d_X10_attach_19 kX10 (by decide) fl_X10_7 o_t.1 o_t.2.1 o_t.2.2.1 o_t.2.2.2 rfl rfl ?_
    refine r_iload_n (x := v2) d_X10_attach_22 rfl ?_
    refine x_callSI (Y2 := mJ9_abs_0f7a4) (As := [(0, v2)]) (S := [(1, (σ1 t 0)), (2, t)]) d_X10_attach_23 ok_mJ9_abs_0f7a4 ml_X10_23 rfl (Nat.le_of_ble_eq_true rfl) (Nat.le_of_ble_eq_true rfl) rfl hd_1 (c_J9_abs_0f7a4 (v_J9_abs_0f7a4_0 ?_))
    refine ⟨fun hc => ?_, fun hc => ?_⟩
    · have h := h.1 hc
      show WP l mX10_attach (rm d 0 0) noX _ 0 0 26 [(2, t), (0, x1), (0, v2)] [(0, v2), (1, (σ1 t 0)), (2, t)] N Λ σ1
      refine x_callSL (Y2 := mX6_with) (As := [(1, (σ1 t 0)), (0, v2)]) (S := [(2, t)]) d_X10_attach_26 ok_mX6_with ml_X10_28 rfl (Nat.le_of_ble_eq_true rfl) (Nat.le_of_ble_eq_true rfl) rfl hd_1 (CL.mono h (fun v4 σ3 h => ?_))
      refine r_putL (j := 0) d_X10_attach_29 kX10 (by decide) fl_X10_7 rfl o_t.1 o_t.2.1 o_t.2.2.1 o_t.2.2.2 rfl ?_
      refine r_nmM (fun τ5 eτ5 => ?_)
      have h := h τ5 eτ5
      refine r_aload_n (x := t) d_X10_attach_32 rfl o_t.1 ?_
      refine r_iload_n (x := v2) d_X10_attach_33 rfl ?_
      refine r_if_ge (tgt := 45) d_X10_attach_34 rfl (fun hc => ?_) (fun hc => ?_)
      · have h := h.1 hc
        refine r_aload_n (x := t) d_X10_attach_45 rfl o_t.1 ?_
        refine r_getf (j := 1) (t := 0) (x := (τ5 t 1)) d_X10_attach_46 kX10 (by decide) fl_X10_13 o_t.1 o_t.2.1 o_t.2.2.1 o_t.2.2.2 rfl rfl ?_
        refine r_putI (j := 1) d_X10_attach_49 kX10 (by decide) fl_X10_13 rfl o_t.1 o_t.2.1 o_t.2.2.1 o_t.2.2.2 rfl ?_
        refine r_nmM (fun τ6 eτ6 => ?_)
        have h := h τ6 eτ6
        exact r_vret d_X10_attach_52 rfl (Nat.le_refl 0) (Nat.le_refl 0) ⟨rfl, rfl, rfl, h⟩
      · have h := h.2 hc
        refine r_aload_n (x := t) d_X10_attach_37 rfl o_t.1 ?_
        refine r_getf (j := 1) (t := 0) (x := (τ5 t 1)) d_X10_attach_38 kX10 (by decide) fl_X10_13 o_t.1 o_t.2.1 o_t.2.2.1 o_t.2.2.2 rfl rfl ?_
        refine r_ineg d_X10_attach_41 ?_
        refine r_goto (tgt := 49) d_X10_attach_42 rfl ?_
        refine r_putI (j := 1) d_X10_attach_49 kX10 (by decide) fl_X10_13 rfl o_t.1 o_t.2.1 o_t.2.2.1 o_t.2.2.2 rfl ?_
        refine r_nmM (fun τ7 eτ7 => ?_)
        have h := h τ7 eτ7
        exact r_vret d_X10_attach_52 rfl (Nat.le_refl 0) (Nat.le_refl 0) ⟨rfl, rfl, rfl, h⟩
    · have h := h.2 hc
      show WP l mX10_attach (rm d 0 0) noX _ 0 0 26 [(2, t), (0, x1), (0, v2)] [(0, (negI v2)), (1, (σ1 t 0)), (2, t)] N Λ σ1
      refine x_callSL (Y2 := mX6_with) (As := [(1, (σ1 t 0)), (0, (negI v2))]) (S := [(2, t)]) d_X10_attach_26 ok_mX6_with ml_X10_28 rfl (Nat.le_of_ble_eq_true rfl) (Nat.le_of_ble_eq_true rfl) rfl hd_1 (CL.mono h (fun v9 σ8 h => ?_))
      refine r_putL (j := 0) d_X10_attach_29 kX10 (by decide) fl_X10_7 rfl o_t.1 o_t.2.1 o_t.2.2.1 o_t.2.2.2 rfl ?_
      refine r_nmM (fun τ10 eτ10 => ?_)
      have h := h τ10 eτ10
      refine r_aload_n (x := t) d_X10_attach_32 rfl o_t.1 ?_
      refine r_iload_n (x := v2) d_X10_attach_33 rfl ?_
      refine r_if_ge (tgt := 45) d_X10_attach_34 rfl (fun hc => ?_) (fun hc => ?_)
      · have h := h.1 hc
        refine r_aload_n (x := t) d_X10_attach_45 rfl o_t.1 ?_
        refine r_getf (j := 1) (t := 0) (x := (τ10 t 1)) d_X10_attach_46 kX10 (by decide) fl_X10_13 o_t.1 o_t.2.1 o_t.2.2.1 o_t.2.2.2 rfl rfl ?_
        refine r_putI (j := 1) d_X10_attach_49 kX10 (by decide) fl_X10_13 rfl o_t.1 o_t.2.1 o_t.2.2.1 o_t.2.2.2 rfl ?_
        refine r_nmM (fun τ11 eτ11 => ?_)
        have h := h τ11 eτ11
        exact r_vret d_X10_attach_52 rfl (Nat.le_refl 0) (Nat.le_refl 0) ⟨rfl, rfl, rfl, h⟩
      · have h := h.2 hc
        refine r_aload_n (x := t) d_X10_attach_37 rfl o_t.1 ?_
        refine r_getf (j := 1) (t := 0) (x := (τ10 t 1)) d_X10_attach_38 kX10 (by decide) fl_X10_13 o_t.1 o_t.2.1 o_t.2.2.1 o_t.2.2.2 rfl rfl ?_
        refine r_ineg d_X10_attach_41 ?_
        refine r_goto (tgt := 49) d_X10_attach_42 rfl ?_
        refine r_putI (j := 1) d_X10_attach_49 kX10 (by decide) fl_X10_13 rfl o_t.1 o_t.2.1 o_t.2.2.1 o_t.2.2.2 rfl ?_
        refine r_nmM (fun τ12 eτ12 => ?_)
        have h := h τ12 eτ12
        exact r_vret d_X10_attach_52 rfl (Nat.le_refl 0) (Nat.le_refl 0) ⟨rfl, rfl, rfl, h⟩
  · have h := h.2 hc
    refine r_aload_n (x := t) d_X10_attach_9 rfl o_t.1 ?_
    refine r_iconst (x := 0) d_X10_attach_10 ⟨by decide, by decide⟩ ?_
    refine r_putI (j := 1) d_X10_attach_11 kX10 (by decide) fl_X10_13 rfl o_t.1 o_t.2.1 o_t.2.2.1 o_t.2.2.2 rfl ?_
    refine r_nmM (fun τ13 eτ13 => ?_)
    have h := h τ13 eτ13
    refine r_goto (tgt := 52) d_X10_attach_14 rfl ?_
    exact r_vret d_X10_attach_52 rfl (Nat.le_refl 0) (Nat.le_refl 0) ⟨rfl, rfl, rfl, h⟩
theorem v_X6_joined_0 {l : Launch} {d N : Nat} {Λ : Lay} {P : Int → Mem → Prop} {σ : Mem} {x0 x2 : Int}
    (h : WL l mX6_joined d P 6 [(1, x0), (3, 0), (1, x2), (3, 0), (1, x0), (3, 0), (0, 0), (3, 0)] [] N Λ σ) :
    WL l mX6_joined d P 0 [(1, x0), (3, 0), (1, x2), (3, 0), (3, 0), (3, 0), (3, 0), (3, 0)] [] N Λ σ := by
  refine r_lload_n (x := x0) d_X6_joined_0 rfl ?_
  refine r_lstore (L2 := [(1, x0), (3, 0), (1, x2), (3, 0), (1, x0), (3, 0), (3, 0), (3, 0)]) d_X6_joined_1 (by decide) rfl rfl ?_
  refine r_iconst (x := 0) d_X6_joined_3 ⟨by decide, by decide⟩ ?_
  refine r_istore (L2 := [(1, x0), (3, 0), (1, x2), (3, 0), (1, x0), (3, 0), (0, 0), (3, 0)]) d_X6_joined_4 (by decide) rfl rfl ?_
  exact h
theorem v_X6_joined_6 {l : Launch} {d N : Nat} {Λ : Lay} {P : Int → Mem → Prop} {σ : Mem} {x0 x2 x4 x6 : Int} (h0d : 1 ≤ d)
    (h : ((4 ≤ x6 → P x4 σ) ∧ (¬ (4 ≤ x6) → (∀ y1, y1 = (andI (l2iI (ushrL x2 (mulI 12 (subI 3 x6)))) 4095) → ((y1 = 0 → (∀ y2, y2 = addI x6 1 → WL l mX6_joined d P 6 [(1, x0), (3, 0), (1, x2), (3, 0), (1, x4), (3, 0), (0, y2), (3, 0)] [] N Λ σ)) ∧ (¬ (y1 = 0) → (CL l mX6_with (d - 1) [(1, x4), (0, y1)] N Λ σ (fun v4 σ3 => (∀ y5, y5 = addI x6 1 → WL l mX6_joined d P 6 [(1, x0), (3, 0), (1, x2), (3, 0), (1, v4), (3, 0), (0, y5), (3, 0)] [] N Λ σ3))))))))) :
    WL l mX6_joined d P 6 [(1, x0), (3, 0), (1, x2), (3, 0), (1, x4), (3, 0), (0, x6), (3, 0)] [] N Λ σ := by
  have hd_1 : 1 ≤ d := Nat.le_trans (by decide) h0d
  refine r_iload (x := x6) d_X6_joined_6 rfl ?_
  refine r_iconst (x := 4) d_X6_joined_8 ⟨by decide, by decide⟩ ?_
  refine r_ic_ge (tgt := 40) d_X6_joined_9 rfl (fun hc => ?_) (fun hc => ?_)
  · have h := h.1 hc
    refine r_lload (x := x4) d_X6_joined_40 rfl ?_
    exact r_lret d_X6_joined_42 rfl (Nat.le_refl 0) (Nat.le_refl 0) ⟨_, rfl, rfl, rfl, h⟩
  · have h := h.2 hc
    refine r_lload_n (x := x2) d_X6_joined_12 rfl ?_
    refine r_iload (x := x6) d_X6_joined_13 rfl ?_
    refine x_callSI (Y2 := mX6_bracketAt) (As := [(1, x2), (0, x6)]) (S := []) d_X6_joined_15 ok_mX6_bracketAt ml_X6_15 rfl (Nat.le_of_ble_eq_true rfl) (Nat.le_of_ble_eq_true rfl) rfl hd_1 (c_X6_bracketAt (v_X6_bracketAt_0 ?_))
    show WP l mX6_joined (rm d 0 0) noX _ 0 0 18 [(1, x0), (3, 0), (1, x2), (3, 0), (1, x4), (3, 0), (0, x6), (3, 0)] [(0, (andI (l2iI (ushrL x2 (mulI 12 (subI 3 x6)))) 4095))] N Λ σ
    refine r_nm (fun y1 ey1 => ?_)
    have h := h y1 ey1
    refine r_istore (L2 := [(1, x0), (3, 0), (1, x2), (3, 0), (1, x4), (3, 0), (0, x6), (0, y1)]) d_X6_joined_18 (by decide) rfl rfl ?_
    refine r_iload (x := y1) d_X6_joined_20 rfl ?_
    refine r_if_eq (tgt := 34) d_X6_joined_22 rfl (fun hc => ?_) (fun hc => ?_)
    · have h := h.1 hc
      refine x_iinc (x := x6) (L := [(1, x0), (3, 0), (1, x2), (3, 0), (1, x4), (3, 0), (0, x6), (0, y1)]) d_X6_joined_34 rfl (by decide) rfl (fun y2 ey2 => ?_)
      have h := h y2 ey2
      show WP _ _ _ _ _ _ _ _ [(1, x0), (3, 0), (1, x2), (3, 0), (1, x4), (3, 0), (0, y2), (0, y1)] _ _ _ _
      refine r_goto (tgt := 6) d_X6_joined_37 rfl ?_
      exact x_mask h ⟨Or.inr rfl, Or.inl rfl, Or.inr rfl, Or.inl rfl, Or.inr rfl, Or.inl rfl, Or.inr rfl, Or.inl rfl, trivial⟩
    · have h := h.2 hc
      refine r_lload (x := x4) d_X6_joined_25 rfl ?_
      refine r_iload (x := y1) d_X6_joined_27 rfl ?_
      refine x_callSL (Y2 := mX6_with) (As := [(1, x4), (0, y1)]) (S := []) d_X6_joined_29 ok_mX6_with ml_X6_22 rfl (Nat.le_of_ble_eq_true rfl) (Nat.le_of_ble_eq_true rfl) rfl hd_1 (CL.mono h (fun v4 σ3 h => ?_))
      refine r_lstore (L2 := [(1, x0), (3, 0), (1, x2), (3, 0), (1, v4), (3, 0), (0, x6), (0, y1)]) d_X6_joined_32 (by decide) rfl rfl ?_
      refine x_iinc (x := x6) (L := [(1, x0), (3, 0), (1, x2), (3, 0), (1, v4), (3, 0), (0, x6), (0, y1)]) d_X6_joined_34 rfl (by decide) rfl (fun y5 ey5 => ?_)
      have h := h y5 ey5
      show WP _ _ _ _ _ _ _ _ [(1, x0), (3, 0), (1, x2), (3, 0), (1, v4), (3, 0), (0, y5), (0, y1)] _ _ _ _
      refine r_goto (tgt := 6) d_X6_joined_37 rfl ?_
      exact x_mask h ⟨Or.inr rfl, Or.inl rfl, Or.inr rfl, Or.inl rfl, Or.inr rfl, Or.inl rfl, Or.inr rfl, Or.inl rfl, trivial⟩
theorem v_X5_layProduct_0 {l : Launch} {d N : Nat} {Λ : Lay} {P : Int → Mem → Prop} {σ : Mem} {a1 a2 t : Int}
    (h : WI l mX5_layProduct d P 5 [(2, t), (2, a1), (2, a2), (0, 0), (0, 0), (3, 0), (3, 0), (3, 0)] [] N Λ σ) :
    WI l mX5_layProduct d P 0 [(2, t), (2, a1), (2, a2), (3, 0), (3, 0), (3, 0), (3, 0), (3, 0)] [] N Λ σ := by
  refine r_iconst (x := 0) d_X5_layProduct_0 ⟨by decide, by decide⟩ ?_
  refine r_istore_n (L2 := [(2, t), (2, a1), (2, a2), (0, 0), (3, 0), (3, 0), (3, 0), (3, 0)]) d_X5_layProduct_1 (by decide) rfl rfl ?_
  refine r_iconst (x := 0) d_X5_layProduct_2 ⟨by decide, by decide⟩ ?_
  refine r_istore (L2 := [(2, t), (2, a1), (2, a2), (0, 0), (0, 0), (3, 0), (3, 0), (3, 0)]) d_X5_layProduct_3 (by decide) rfl rfl ?_
  exact h
theorem v_X5_layProduct_5 {l : Launch} {d N : Nat} {Λ : Lay} {P : Int → Mem → Prop} {σ : Mem} {x3 x4 a1 a2 t : Int} (o_a1 : Ob N Λ a1 15 3)
    (h : (((σ a1 2) ≤ x4 → P x3 σ) ∧ (¬ ((σ a1 2) ≤ x4) → ((¬ x3 = 0 → P x3 σ) ∧ (x3 = 0 → WI l mX5_layProduct d P 21 [(2, t), (2, a1), (2, a2), (0, x3), (0, x4), (0, 0), (3, 0), (3, 0)] [] N Λ σ))))) :
    WI l mX5_layProduct d P 5 [(2, t), (2, a1), (2, a2), (0, x3), (0, x4), (3, 0), (3, 0), (3, 0)] [] N Λ σ := by
  refine r_iload (x := x4) d_X5_layProduct_5 rfl ?_
  refine r_aload_n (x := a1) d_X5_layProduct_7 rfl o_a1.1 ?_
  refine r_getf (j := 2) (t := 0) (x := (σ a1 2)) d_X5_layProduct_8 kX5 (by decide) fl_X5_19 o_a1.1 o_a1.2.1 o_a1.2.2.1 o_a1.2.2.2 rfl rfl ?_
  refine r_ic_ge (tgt := 111) d_X5_layProduct_11 rfl (fun hc => ?_) (fun hc => ?_)
  · have h := h.1 hc
    refine r_iload_n (x := x3) d_X5_layProduct_111 rfl ?_
    exact r_iret d_X5_layProduct_112 rfl rfl (Nat.le_refl 0) (Nat.le_refl 0) ⟨_, rfl, rfl, rfl, h⟩
  · have h := h.2 hc
    refine r_iload_n (x := x3) d_X5_layProduct_14 rfl ?_
    refine r_if_ne (tgt := 111) d_X5_layProduct_15 rfl (fun hc => ?_) (fun hc => ?_)
    · have h := h.1 hc
      refine r_iload_n (x := x3) d_X5_layProduct_111 rfl ?_
      exact r_iret d_X5_layProduct_112 rfl rfl (Nat.le_refl 0) (Nat.le_refl 0) ⟨_, rfl, rfl, rfl, h⟩
    · have h := h.2 hc
      refine r_iconst (x := 0) d_X5_layProduct_18 ⟨by decide, by decide⟩ ?_
      refine r_istore (L2 := [(2, t), (2, a1), (2, a2), (0, x3), (0, x4), (0, 0), (3, 0), (3, 0)]) d_X5_layProduct_19 (by decide) rfl rfl ?_
      exact h
theorem v_X5_layProduct_21 {l : Launch} {d N : Nat} {Λ : Lay} {P : Int → Mem → Prop} {σ : Mem} {x3 x4 x5 a1 a1_keys a1_numbers a2 a2_keys a2_numbers t : Int} (o_a2 : Ob N Λ a2 15 3) (o_a1 : Ob N Λ a1 15 3) (f_a1_keys : (Λ a1).2.2 0 = a1_keys) (f_a2_keys : (Λ a2).2.2 0 = a2_keys) (o_t : Ob N Λ t 15 3) (f_a1_numbers : (Λ a1).2.2 1 = a1_numbers) (f_a2_numbers : (Λ a2).2.2 1 = a2_numbers) (h0d : 1 ≤ d)
    (h : (((σ a2 2) ≤ x5 → (∀ y1, y1 = addI x4 1 → WI l mX5_layProduct d P 5 [(2, t), (2, a1), (2, a2), (0, x3), (0, y1), (3, 0), (3, 0), (3, 0)] [] N Λ σ)) ∧ (¬ ((σ a2 2) ≤ x5) → ((¬ x3 = 0 → (∀ y2, y2 = addI x4 1 → WI l mX5_layProduct d P 5 [(2, t), (2, a1), (2, a2), (0, x3), (0, y2), (3, 0), (3, 0), (3, 0)] [] N Λ σ)) ∧ (x3 = 0 → (Ix N Λ a1_keys 1 x4 ∧ (∀ y3, y3 = (σ a1_keys x4) → (CI l mX6_bracketsIn (d - 1) [(1, y3)] N Λ σ (fun v5 σ4 => (Ix N Λ a2_keys 1 x5 ∧ (CI l mX6_bracketsIn (d - 1) [(1, (σ4 a2_keys x5))] N Λ σ4 (fun v7 σ6 => (((addI v5 v7) ≤ 4 → (Ix N Λ a2_keys 1 x5 ∧ (CL l mX6_joined (d - 1) [(1, y3), (1, (σ6 a2_keys x5))] N Λ σ6 (fun v9 σ8 => (Ix N Λ a1_numbers 0 x4 ∧ (Ix N Λ a2_numbers 0 x5 ∧ (CI l mX5_lay (d - 1) [(2, t), (1, v9), (1, (mulL (σ8 a1_numbers x4) (σ8 a2_numbers x5)))] N Λ σ8 (fun v11 σ10 => (∀ y12, y12 = addI x5 1 → WI l mX5_layProduct d P 21 [(2, t), (2, a1), (2, a2), (0, v11), (0, x4), (0, y12), (3, 0), (3, 0)] [] N Λ σ10))))))))) ∧ (¬ ((addI v5 v7) ≤ 4) → P 2 σ6)))))))))))))) :
    WI l mX5_layProduct d P 21 [(2, t), (2, a1), (2, a2), (0, x3), (0, x4), (0, x5), (3, 0), (3, 0)] [] N Λ σ := by
  have hd_1 : 1 ≤ d := Nat.le_trans (by decide) h0d
  refine r_iload (x := x5) d_X5_layProduct_21 rfl ?_
  refine r_aload_n (x := a2) d_X5_layProduct_23 rfl o_a2.1 ?_
  refine r_getf (j := 2) (t := 0) (x := (σ a2 2)) d_X5_layProduct_24 kX5 (by decide) fl_X5_19 o_a2.1 o_a2.2.1 o_a2.2.2.1 o_a2.2.2.2 rfl rfl ?_
  refine r_ic_ge (tgt := 105) d_X5_layProduct_27 rfl (fun hc => ?_) (fun hc => ?_)
  · have h := h.1 hc
    refine x_iinc (x := x4) (L := [(2, t), (2, a1), (2, a2), (0, x3), (0, x4), (0, x5), (3, 0), (3, 0)]) d_X5_layProduct_105 rfl (by decide) rfl (fun y1 ey1 => ?_)
    have h := h y1 ey1
    show WP _ _ _ _ _ _ _ _ [(2, t), (2, a1), (2, a2), (0, x3), (0, y1), (0, x5), (3, 0), (3, 0)] _ _ _ _
    refine r_goto (tgt := 5) d_X5_layProduct_108 rfl ?_
    exact x_mask h ⟨Or.inr rfl, Or.inr rfl, Or.inr rfl, Or.inr rfl, Or.inr rfl, Or.inl rfl, Or.inl rfl, Or.inl rfl, trivial⟩
  · have h := h.2 hc
    refine r_iload_n (x := x3) d_X5_layProduct_30 rfl ?_
    refine r_if_ne (tgt := 105) d_X5_layProduct_31 rfl (fun hc => ?_) (fun hc => ?_)
    · have h := h.1 hc
      refine x_iinc (x := x4) (L := [(2, t), (2, a1), (2, a2), (0, x3), (0, x4), (0, x5), (3, 0), (3, 0)]) d_X5_layProduct_105 rfl (by decide) rfl (fun y2 ey2 => ?_)
      have h := h y2 ey2
      show WP _ _ _ _ _ _ _ _ [(2, t), (2, a1), (2, a2), (0, x3), (0, y2), (0, x5), (3, 0), (3, 0)] _ _ _ _
      refine r_goto (tgt := 5) d_X5_layProduct_108 rfl ?_
      exact x_mask h ⟨Or.inr rfl, Or.inr rfl, Or.inr rfl, Or.inr rfl, Or.inr rfl, Or.inl rfl, Or.inl rfl, Or.inl rfl, trivial⟩
    · have h := h.2 hc
      refine r_aload_n (x := a1) d_X5_layProduct_34 rfl o_a1.1 ?_
      refine r_getf (j := 0) (t := 2) (x := a1_keys) d_X5_layProduct_35 kX5 (by decide) fl_X5_9 o_a1.1 o_a1.2.1 o_a1.2.2.1 o_a1.2.2.2 rfl f_a1_keys ?_
      refine r_iload (x := x4) d_X5_layProduct_38 rfl ?_
      refine x_lald d_X5_layProduct_40 h.1 ?_
      have h := h.2
      refine r_nm (fun y3 ey3 => ?_)
      have h := h y3 ey3
      refine r_lstore (L2 := [(2, t), (2, a1), (2, a2), (0, x3), (0, x4), (0, x5), (1, y3), (3, 0)]) d_X5_layProduct_41 (by decide) rfl rfl ?_
      refine r_lload (x := y3) d_X5_layProduct_43 rfl ?_
      refine x_callSI (Y2 := mX6_bracketsIn) (As := [(1, y3)]) (S := []) d_X5_layProduct_45 ok_mX6_bracketsIn ml_X5_41 rfl (Nat.le_of_ble_eq_true rfl) (Nat.le_of_ble_eq_true rfl) rfl hd_1 (CI.mono h (fun v5 σ4 h => ?_))
      refine r_aload_n (x := a2) d_X5_layProduct_48 rfl o_a2.1 ?_
      refine r_getf (j := 0) (t := 2) (x := a2_keys) d_X5_layProduct_49 kX5 (by decide) fl_X5_9 o_a2.1 o_a2.2.1 o_a2.2.2.1 o_a2.2.2.2 rfl f_a2_keys ?_
      refine r_iload (x := x5) d_X5_layProduct_52 rfl ?_
      refine x_lald d_X5_layProduct_54 h.1 ?_
      have h := h.2
      refine x_callSI (Y2 := mX6_bracketsIn) (As := [(1, (σ4 a2_keys x5))]) (S := [(0, v5)]) d_X5_layProduct_55 ok_mX6_bracketsIn ml_X5_41 rfl (Nat.le_of_ble_eq_true rfl) (Nat.le_of_ble_eq_true rfl) rfl hd_1 (CI.mono h (fun v7 σ6 h => ?_))
      refine r_iadd d_X5_layProduct_58 ?_
      refine r_iconst (x := 4) d_X5_layProduct_59 ⟨by decide, by decide⟩ ?_
      refine r_ic_le (tgt := 65) d_X5_layProduct_60 rfl (fun hc => ?_) (fun hc => ?_)
      · have h := h.1 hc
        refine r_aload_n (x := t) d_X5_layProduct_65 rfl o_t.1 ?_
        refine r_lload (x := y3) d_X5_layProduct_66 rfl ?_
        refine r_aload_n (x := a2) d_X5_layProduct_68 rfl o_a2.1 ?_
        refine r_getf (j := 0) (t := 2) (x := a2_keys) d_X5_layProduct_69 kX5 (by decide) fl_X5_9 o_a2.1 o_a2.2.1 o_a2.2.2.1 o_a2.2.2.2 rfl f_a2_keys ?_
        refine r_iload (x := x5) d_X5_layProduct_72 rfl ?_
        refine x_lald d_X5_layProduct_74 h.1 ?_
        have h := h.2
        refine x_callSL (Y2 := mX6_joined) (As := [(1, y3), (1, (σ6 a2_keys x5))]) (S := [(2, t)]) d_X5_layProduct_75 ok_mX6_joined ml_X5_46 rfl (Nat.le_of_ble_eq_true rfl) (Nat.le_of_ble_eq_true rfl) rfl hd_1 (CL.mono h (fun v9 σ8 h => ?_))
        refine r_aload_n (x := a1) d_X5_layProduct_78 rfl o_a1.1 ?_
        refine r_getf (j := 1) (t := 2) (x := a1_numbers) d_X5_layProduct_79 kX5 (by decide) fl_X5_15 o_a1.1 o_a1.2.1 o_a1.2.2.1 o_a1.2.2.2 rfl f_a1_numbers ?_
        refine r_iload (x := x4) d_X5_layProduct_82 rfl ?_
        refine x_iald d_X5_layProduct_84 h.1 ?_
        have h := h.2
        refine r_i2l d_X5_layProduct_85 ?_
        refine r_aload_n (x := a2) d_X5_layProduct_86 rfl o_a2.1 ?_
        refine r_getf (j := 1) (t := 2) (x := a2_numbers) d_X5_layProduct_87 kX5 (by decide) fl_X5_15 o_a2.1 o_a2.2.1 o_a2.2.2.1 o_a2.2.2.2 rfl f_a2_numbers ?_
        refine r_iload (x := x5) d_X5_layProduct_90 rfl ?_
        refine x_iald d_X5_layProduct_92 h.1 ?_
        have h := h.2
        refine r_i2l d_X5_layProduct_93 ?_
        refine r_lmul d_X5_layProduct_94 ?_
        refine x_callVI (Y2 := mX5_lay) (c := t) (As := [(1, v9), (1, (mulL (σ8 a1_numbers x4) (σ8 a2_numbers x5)))]) (S := []) d_X5_layProduct_95 ok_mX5_lay ml_X5_37 rfl (Nat.le_of_ble_eq_true rfl) (Nat.le_of_ble_eq_true rfl) rfl hd_1 kX5 o_t (CI.mono h (fun v11 σ10 h => ?_))
        refine r_istore_n (L2 := [(2, t), (2, a1), (2, a2), (0, v11), (0, x4), (0, x5), (1, y3), (3, 0)]) d_X5_layProduct_98 (by decide) rfl rfl ?_
        refine x_iinc (x := x5) (L := [(2, t), (2, a1), (2, a2), (0, v11), (0, x4), (0, x5), (1, y3), (3, 0)]) d_X5_layProduct_99 rfl (by decide) rfl (fun y12 ey12 => ?_)
        have h := h y12 ey12
        show WP _ _ _ _ _ _ _ _ [(2, t), (2, a1), (2, a2), (0, v11), (0, x4), (0, y12), (1, y3), (3, 0)] _ _ _ _
        refine r_goto (tgt := 21) d_X5_layProduct_102 rfl ?_
        exact x_mask h ⟨Or.inr rfl, Or.inr rfl, Or.inr rfl, Or.inr rfl, Or.inr rfl, Or.inr rfl, Or.inl rfl, Or.inl rfl, trivial⟩
      · have h := h.2 hc
        refine r_iconst (x := 2) d_X5_layProduct_63 ⟨by decide, by decide⟩ ?_
        exact r_iret d_X5_layProduct_64 rfl rfl (Nat.le_refl 0) (Nat.le_refl 0) ⟨_, rfl, rfl, rfl, h⟩
theorem v_X5_laySum_0 {l : Launch} {d N : Nat} {Λ : Lay} {P : Int → Mem → Prop} {σ : Mem} {x2 a1 t : Int}
    (h : WI l mX5_laySum d P 5 [(2, t), (2, a1), (0, x2), (0, 0), (0, 0)] [] N Λ σ) :
    WI l mX5_laySum d P 0 [(2, t), (2, a1), (0, x2), (3, 0), (3, 0)] [] N Λ σ := by
  refine r_iconst (x := 0) d_X5_laySum_0 ⟨by decide, by decide⟩ ?_
  refine r_istore_n (L2 := [(2, t), (2, a1), (0, x2), (0, 0), (3, 0)]) d_X5_laySum_1 (by decide) rfl rfl ?_
  refine r_iconst (x := 0) d_X5_laySum_2 ⟨by decide, by decide⟩ ?_
  refine r_istore (L2 := [(2, t), (2, a1), (0, x2), (0, 0), (0, 0)]) d_X5_laySum_3 (by decide) rfl rfl ?_
  exact h
theorem v_X5_laySum_5 {l : Launch} {d N : Nat} {Λ : Lay} {P : Int → Mem → Prop} {σ : Mem} {x2 x3 x4 a1 a1_keys a1_numbers t : Int} (o_a1 : Ob N Λ a1 15 3) (o_t : Ob N Λ t 15 3) (f_a1_keys : (Λ a1).2.2 0 = a1_keys) (f_a1_numbers : (Λ a1).2.2 1 = a1_numbers) (h0d : 1 ≤ d)
    (h : (((σ a1 2) ≤ x4 → P x3 σ) ∧ (¬ ((σ a1 2) ≤ x4) → ((¬ x3 = 0 → P x3 σ) ∧ (x3 = 0 → (Ix N Λ a1_keys 1 x4 ∧ (Ix N Λ a1_numbers 0 x4 ∧ (CI l mX5_lay (d - 1) [(2, t), (1, (σ a1_keys x4)), (1, (mulL (σ a1_numbers x4) x2))] N Λ σ (fun v2 σ1 => (∀ y3, y3 = addI x4 1 → WI l mX5_laySum d P 5 [(2, t), (2, a1), (0, x2), (0, v2), (0, y3)] [] N Λ σ1)))))))))) :
    WI l mX5_laySum d P 5 [(2, t), (2, a1), (0, x2), (0, x3), (0, x4)] [] N Λ σ := by
  have hd_1 : 1 ≤ d := Nat.le_trans (by decide) h0d
  refine r_iload (x := x4) d_X5_laySum_5 rfl ?_
  refine r_aload_n (x := a1) d_X5_laySum_7 rfl o_a1.1 ?_
  refine r_getf (j := 2) (t := 0) (x := (σ a1 2)) d_X5_laySum_8 kX5 (by decide) fl_X5_19 o_a1.1 o_a1.2.1 o_a1.2.2.1 o_a1.2.2.2 rfl rfl ?_
  refine r_ic_ge (tgt := 47) d_X5_laySum_11 rfl (fun hc => ?_) (fun hc => ?_)
  · have h := h.1 hc
    refine r_iload_n (x := x3) d_X5_laySum_47 rfl ?_
    exact r_iret d_X5_laySum_48 rfl rfl (Nat.le_refl 0) (Nat.le_refl 0) ⟨_, rfl, rfl, rfl, h⟩
  · have h := h.2 hc
    refine r_iload_n (x := x3) d_X5_laySum_14 rfl ?_
    refine r_if_ne (tgt := 47) d_X5_laySum_15 rfl (fun hc => ?_) (fun hc => ?_)
    · have h := h.1 hc
      refine r_iload_n (x := x3) d_X5_laySum_47 rfl ?_
      exact r_iret d_X5_laySum_48 rfl rfl (Nat.le_refl 0) (Nat.le_refl 0) ⟨_, rfl, rfl, rfl, h⟩
    · have h := h.2 hc
      refine r_aload_n (x := t) d_X5_laySum_18 rfl o_t.1 ?_
      refine r_aload_n (x := a1) d_X5_laySum_19 rfl o_a1.1 ?_
      refine r_getf (j := 0) (t := 2) (x := a1_keys) d_X5_laySum_20 kX5 (by decide) fl_X5_9 o_a1.1 o_a1.2.1 o_a1.2.2.1 o_a1.2.2.2 rfl f_a1_keys ?_
      refine r_iload (x := x4) d_X5_laySum_23 rfl ?_
      refine x_lald d_X5_laySum_25 h.1 ?_
      have h := h.2
      refine r_aload_n (x := a1) d_X5_laySum_26 rfl o_a1.1 ?_
      refine r_getf (j := 1) (t := 2) (x := a1_numbers) d_X5_laySum_27 kX5 (by decide) fl_X5_15 o_a1.1 o_a1.2.1 o_a1.2.2.1 o_a1.2.2.2 rfl f_a1_numbers ?_
      refine r_iload (x := x4) d_X5_laySum_30 rfl ?_
      refine x_iald d_X5_laySum_32 h.1 ?_
      have h := h.2
      refine r_i2l d_X5_laySum_33 ?_
      refine r_iload_n (x := x2) d_X5_laySum_34 rfl ?_
      refine r_i2l d_X5_laySum_35 ?_
      refine r_lmul d_X5_laySum_36 ?_
      refine x_callVI (Y2 := mX5_lay) (c := t) (As := [(1, (σ a1_keys x4)), (1, (mulL (σ a1_numbers x4) x2))]) (S := []) d_X5_laySum_37 ok_mX5_lay ml_X5_37 rfl (Nat.le_of_ble_eq_true rfl) (Nat.le_of_ble_eq_true rfl) rfl hd_1 kX5 o_t (CI.mono h (fun v2 σ1 h => ?_))
      refine r_istore_n (L2 := [(2, t), (2, a1), (0, x2), (0, v2), (0, x4)]) d_X5_laySum_40 (by decide) rfl rfl ?_
      refine x_iinc (x := x4) (L := [(2, t), (2, a1), (0, x2), (0, v2), (0, x4)]) d_X5_laySum_41 rfl (by decide) rfl (fun y3 ey3 => ?_)
      have h := h y3 ey3
      show WP _ _ _ _ _ _ _ _ [(2, t), (2, a1), (0, x2), (0, v2), (0, y3)] _ _ _ _
      refine r_goto (tgt := 5) d_X5_laySum_44 rfl ?_
      exact h
theorem v_X2_layTimesThree_0 {l : Launch} {d N : Nat} {Λ : Lay} {P : Int → Mem → Prop} {σ : Mem} {a1 a2 a3 a4 t t_first t_second t_term : Int} (o_t : Ob N Λ t 12 9) (f_t_first : (Λ t).2.2 4 = t_first) (o_t_first : Ob N Λ t_first 15 3) (f_t_term : (Λ t).2.2 8 = t_term) (o_t_term : Ob N Λ t_term 19 2) (f_t_second : (Λ t).2.2 5 = t_second) (o_t_second : Ob N Λ t_second 15 3) (o_a2 : Ob N Λ a2 15 3) (o_a1 : Ob N Λ a1 15 3) (o_a4 : Ob N Λ a4 15 3) (o_a3 : Ob N Λ a3 15 3) (h0d : 1 ≤ d)
    (h : (∀ τ1, τ1 = st σ t_first 2 0 → (CI l mX5_lay (d - 1) [(2, t_first), (1, (τ1 t_term 0)), (1, (τ1 t_term 1))] N Λ τ1 (fun v3 σ2 => (∀ τ4, τ4 = st σ2 t_second 2 0 → (CI l mX5_layProduct (d - 1) [(2, t_second), (2, t_first), (2, a2)] N Λ τ4 (fun v6 σ5 => ((¬ v6 = 0 → ((¬ v6 = 0 → ((¬ v6 = 0 → P v6 σ5) ∧ (v6 = 0 → (CI l mX5_laySum (d - 1) [(2, a1), (2, t_second), (0, 1)] N Λ σ5 (fun v8 σ7 => P v8 σ7))))) ∧ (v6 = 0 → (∀ τ9, τ9 = st σ5 t_second 2 0 → (CI l mX5_layProduct (d - 1) [(2, t_second), (2, t_first), (2, a4)] N Λ τ9 (fun v11 σ10 => ((¬ v11 = 0 → P v11 σ10) ∧ (v11 = 0 → (CI l mX5_laySum (d - 1) [(2, a1), (2, t_second), (0, 1)] N Λ σ10 (fun v13 σ12 => P v13 σ12)))))))))) ∧ (v6 = 0 → (∀ τ14, τ14 = st σ5 t_first 2 0 → (CI l mX5_layProduct (d - 1) [(2, t_first), (2, t_second), (2, a3)] N Λ τ14 (fun v16 σ15 => ((¬ v16 = 0 → ((¬ v16 = 0 → P v16 σ15) ∧ (v16 = 0 → (CI l mX5_laySum (d - 1) [(2, a1), (2, t_second), (0, 1)] N Λ σ15 (fun v18 σ17 => P v18 σ17))))) ∧ (v16 = 0 → (∀ τ19, τ19 = st σ15 t_second 2 0 → (CI l mX5_layProduct (d - 1) [(2, t_second), (2, t_first), (2, a4)] N Λ τ19 (fun v21 σ20 => ((¬ v21 = 0 → P v21 σ20) ∧ (v21 = 0 → (CI l mX5_laySum (d - 1) [(2, a1), (2, t_second), (0, 1)] N Λ σ20 (fun v23 σ22 => P v23 σ22))))))))))))))))))))) :
    WI l mX2_layTimesThree d P 0 [(2, t), (2, a1), (2, a2), (2, a3), (2, a4), (3, 0)] [] N Λ σ := by
  have hd_1 : 1 ≤ d := Nat.le_trans (by decide) h0d
  refine r_aload_n (x := t) d_X2_layTimesThree_0 rfl o_t.1 ?_
  refine r_getf (j := 4) (t := 2) (x := t_first) d_X2_layTimesThree_1 kX2 (by decide) fl_X2_29 o_t.1 o_t.2.1 o_t.2.2.1 o_t.2.2.2 rfl f_t_first ?_
  refine x_callVV (Y2 := mX5_empty) (c := t_first) (As := []) (S := []) d_X2_layTimesThree_4 ok_mX5_empty ml_X2_71 rfl (Nat.le_of_ble_eq_true rfl) (Nat.le_of_ble_eq_true rfl) rfl hd_1 kX5 o_t_first (c_X5_empty (v_X5_empty_0 o_t_first ?_))
  intro τ1 eτ1
  have h := h τ1 eτ1
  show WP l mX2_layTimesThree (rm d 0 0) noX _ 0 0 7 [(2, t), (2, a1), (2, a2), (2, a3), (2, a4), (3, 0)] [] N Λ τ1
  refine r_aload_n (x := t) d_X2_layTimesThree_7 rfl o_t.1 ?_
  refine r_getf (j := 4) (t := 2) (x := t_first) d_X2_layTimesThree_8 kX2 (by decide) fl_X2_29 o_t.1 o_t.2.1 o_t.2.2.1 o_t.2.2.2 rfl f_t_first ?_
  refine r_aload_n (x := t) d_X2_layTimesThree_11 rfl o_t.1 ?_
  refine r_getf (j := 8) (t := 2) (x := t_term) d_X2_layTimesThree_12 kX2 (by decide) fl_X2_45 o_t.1 o_t.2.1 o_t.2.2.1 o_t.2.2.2 rfl f_t_term ?_
  refine r_getf (j := 0) (t := 1) (x := (τ1 t_term 0)) d_X2_layTimesThree_15 kX10 (by decide) fl_X2_101 o_t_term.1 o_t_term.2.1 o_t_term.2.2.1 o_t_term.2.2.2 rfl rfl ?_
  refine r_aload_n (x := t) d_X2_layTimesThree_18 rfl o_t.1 ?_
  refine r_getf (j := 8) (t := 2) (x := t_term) d_X2_layTimesThree_19 kX2 (by decide) fl_X2_45 o_t.1 o_t.2.1 o_t.2.2.1 o_t.2.2.2 rfl f_t_term ?_
  refine r_getf (j := 1) (t := 0) (x := (τ1 t_term 1)) d_X2_layTimesThree_22 kX10 (by decide) fl_X2_105 o_t_term.1 o_t_term.2.1 o_t_term.2.2.1 o_t_term.2.2.2 rfl rfl ?_
  refine r_i2l d_X2_layTimesThree_25 ?_
  refine x_callVI (Y2 := mX5_lay) (c := t_first) (As := [(1, (τ1 t_term 0)), (1, (τ1 t_term 1))]) (S := []) d_X2_layTimesThree_26 ok_mX5_lay ml_X2_59 rfl (Nat.le_of_ble_eq_true rfl) (Nat.le_of_ble_eq_true rfl) rfl hd_1 kX5 o_t_first (CI.mono h (fun v3 σ2 h => ?_))
  refine r_pop d_X2_layTimesThree_29 rfl ?_
  refine r_aload_n (x := t) d_X2_layTimesThree_30 rfl o_t.1 ?_
  refine r_getf (j := 5) (t := 2) (x := t_second) d_X2_layTimesThree_31 kX2 (by decide) fl_X2_33 o_t.1 o_t.2.1 o_t.2.2.1 o_t.2.2.2 rfl f_t_second ?_
  refine x_callVV (Y2 := mX5_empty) (c := t_second) (As := []) (S := []) d_X2_layTimesThree_34 ok_mX5_empty ml_X2_71 rfl (Nat.le_of_ble_eq_true rfl) (Nat.le_of_ble_eq_true rfl) rfl hd_1 kX5 o_t_second (c_X5_empty (v_X5_empty_0 o_t_second ?_))
  intro τ4 eτ4
  have h := h τ4 eτ4
  show WP l mX2_layTimesThree (rm d 0 0) noX _ 0 0 37 [(2, t), (2, a1), (2, a2), (2, a3), (2, a4), (3, 0)] [] N Λ τ4
  refine r_aload_n (x := t) d_X2_layTimesThree_37 rfl o_t.1 ?_
  refine r_getf (j := 5) (t := 2) (x := t_second) d_X2_layTimesThree_38 kX2 (by decide) fl_X2_33 o_t.1 o_t.2.1 o_t.2.2.1 o_t.2.2.2 rfl f_t_second ?_
  refine r_aload_n (x := t) d_X2_layTimesThree_41 rfl o_t.1 ?_
  refine r_getf (j := 4) (t := 2) (x := t_first) d_X2_layTimesThree_42 kX2 (by decide) fl_X2_29 o_t.1 o_t.2.1 o_t.2.2.1 o_t.2.2.2 rfl f_t_first ?_
  refine r_aload_n (x := a2) d_X2_layTimesThree_45 rfl o_a2.1 ?_
  refine x_callVI (Y2 := mX5_layProduct) (c := t_second) (As := [(2, t_first), (2, a2)]) (S := []) d_X2_layTimesThree_46 ok_mX5_layProduct ml_X2_73 rfl (Nat.le_of_ble_eq_true rfl) (Nat.le_of_ble_eq_true rfl) rfl hd_1 kX5 o_t_second (CI.mono h (fun v6 σ5 h => ?_))
  refine r_istore (L2 := [(2, t), (2, a1), (2, a2), (2, a3), (2, a4), (0, v6)]) d_X2_layTimesThree_49 (by decide) rfl rfl ?_
  refine r_iload (x := v6) d_X2_layTimesThree_51 rfl ?_
  refine r_if_ne (tgt := 77) d_X2_layTimesThree_53 rfl (fun hc => ?_) (fun hc => ?_)
  · have h := h.1 hc
    refine r_iload (x := v6) d_X2_layTimesThree_77 rfl ?_
    refine r_if_ne (tgt := 104) d_X2_layTimesThree_79 rfl (fun hc => ?_) (fun hc => ?_)
    · have h := h.1 hc
      refine r_iload (x := v6) d_X2_layTimesThree_104 rfl ?_
      refine r_if_ne (tgt := 121) d_X2_layTimesThree_106 rfl (fun hc => ?_) (fun hc => ?_)
      · have h := h.1 hc
        refine r_iload (x := v6) d_X2_layTimesThree_121 rfl ?_
        exact r_iret d_X2_layTimesThree_123 rfl rfl (Nat.le_refl 0) (Nat.le_refl 0) ⟨_, rfl, rfl, rfl, h⟩
      · have h := h.2 hc
        refine r_aload_n (x := a1) d_X2_layTimesThree_109 rfl o_a1.1 ?_
        refine r_aload_n (x := t) d_X2_layTimesThree_110 rfl o_t.1 ?_
        refine r_getf (j := 5) (t := 2) (x := t_second) d_X2_layTimesThree_111 kX2 (by decide) fl_X2_33 o_t.1 o_t.2.1 o_t.2.2.1 o_t.2.2.2 rfl f_t_second ?_
        refine r_iconst (x := 1) d_X2_layTimesThree_114 ⟨by decide, by decide⟩ ?_
        refine x_callVI (Y2 := mX5_laySum) (c := a1) (As := [(2, t_second), (0, 1)]) (S := []) d_X2_layTimesThree_115 ok_mX5_laySum ml_X2_77 rfl (Nat.le_of_ble_eq_true rfl) (Nat.le_of_ble_eq_true rfl) rfl hd_1 kX5 o_a1 (CI.mono h (fun v8 σ7 h => ?_))
        refine r_goto (tgt := 123) d_X2_layTimesThree_118 rfl ?_
        exact r_iret d_X2_layTimesThree_123 rfl rfl (Nat.le_refl 0) (Nat.le_refl 0) ⟨_, rfl, rfl, rfl, h⟩
    · have h := h.2 hc
      refine r_aload_n (x := t) d_X2_layTimesThree_82 rfl o_t.1 ?_
      refine r_getf (j := 5) (t := 2) (x := t_second) d_X2_layTimesThree_83 kX2 (by decide) fl_X2_33 o_t.1 o_t.2.1 o_t.2.2.1 o_t.2.2.2 rfl f_t_second ?_
      refine x_callVV (Y2 := mX5_empty) (c := t_second) (As := []) (S := []) d_X2_layTimesThree_86 ok_mX5_empty ml_X2_71 rfl (Nat.le_of_ble_eq_true rfl) (Nat.le_of_ble_eq_true rfl) rfl hd_1 kX5 o_t_second (c_X5_empty (v_X5_empty_0 o_t_second ?_))
      intro τ9 eτ9
      have h := h τ9 eτ9
      show WP l mX2_layTimesThree (rm d 0 0) noX _ 0 0 89 [(2, t), (2, a1), (2, a2), (2, a3), (2, a4), (0, v6)] [] N Λ τ9
      refine r_aload_n (x := t) d_X2_layTimesThree_89 rfl o_t.1 ?_
      refine r_getf (j := 5) (t := 2) (x := t_second) d_X2_layTimesThree_90 kX2 (by decide) fl_X2_33 o_t.1 o_t.2.1 o_t.2.2.1 o_t.2.2.2 rfl f_t_second ?_
      refine r_aload_n (x := t) d_X2_layTimesThree_93 rfl o_t.1 ?_
      refine r_getf (j := 4) (t := 2) (x := t_first) d_X2_layTimesThree_94 kX2 (by decide) fl_X2_29 o_t.1 o_t.2.1 o_t.2.2.1 o_t.2.2.2 rfl f_t_first ?_
      refine r_aload (x := a4) d_X2_layTimesThree_97 rfl o_a4.1 ?_
      refine x_callVI (Y2 := mX5_layProduct) (c := t_second) (As := [(2, t_first), (2, a4)]) (S := []) d_X2_layTimesThree_99 ok_mX5_layProduct ml_X2_73 rfl (Nat.le_of_ble_eq_true rfl) (Nat.le_of_ble_eq_true rfl) rfl hd_1 kX5 o_t_second (CI.mono h (fun v11 σ10 h => ?_))
      refine r_istore (L2 := [(2, t), (2, a1), (2, a2), (2, a3), (2, a4), (0, v11)]) d_X2_layTimesThree_102 (by decide) rfl rfl ?_
      refine r_iload (x := v11) d_X2_layTimesThree_104 rfl ?_
      refine r_if_ne (tgt := 121) d_X2_layTimesThree_106 rfl (fun hc => ?_) (fun hc => ?_)
      · have h := h.1 hc
        refine r_iload (x := v11) d_X2_layTimesThree_121 rfl ?_
        exact r_iret d_X2_layTimesThree_123 rfl rfl (Nat.le_refl 0) (Nat.le_refl 0) ⟨_, rfl, rfl, rfl, h⟩
      · have h := h.2 hc
        refine r_aload_n (x := a1) d_X2_layTimesThree_109 rfl o_a1.1 ?_
        refine r_aload_n (x := t) d_X2_layTimesThree_110 rfl o_t.1 ?_
        refine r_getf (j := 5) (t := 2) (x := t_second) d_X2_layTimesThree_111 kX2 (by decide) fl_X2_33 o_t.1 o_t.2.1 o_t.2.2.1 o_t.2.2.2 rfl f_t_second ?_
        refine r_iconst (x := 1) d_X2_layTimesThree_114 ⟨by decide, by decide⟩ ?_
        refine x_callVI (Y2 := mX5_laySum) (c := a1) (As := [(2, t_second), (0, 1)]) (S := []) d_X2_layTimesThree_115 ok_mX5_laySum ml_X2_77 rfl (Nat.le_of_ble_eq_true rfl) (Nat.le_of_ble_eq_true rfl) rfl hd_1 kX5 o_a1 (CI.mono h (fun v13 σ12 h => ?_))
        refine r_goto (tgt := 123) d_X2_layTimesThree_118 rfl ?_
        exact r_iret d_X2_layTimesThree_123 rfl rfl (Nat.le_refl 0) (Nat.le_refl 0) ⟨_, rfl, rfl, rfl, h⟩
  · have h := h.2 hc
    refine r_aload_n (x := t) d_X2_layTimesThree_56 rfl o_t.1 ?_
    refine r_getf (j := 4) (t := 2) (x := t_first) d_X2_layTimesThree_57 kX2 (by decide) fl_X2_29 o_t.1 o_t.2.1 o_t.2.2.1 o_t.2.2.2 rfl f_t_first ?_
    refine x_callVV (Y2 := mX5_empty) (c := t_first) (As := []) (S := []) d_X2_layTimesThree_60 ok_mX5_empty ml_X2_71 rfl (Nat.le_of_ble_eq_true rfl) (Nat.le_of_ble_eq_true rfl) rfl hd_1 kX5 o_t_first (c_X5_empty (v_X5_empty_0 o_t_first ?_))
    intro τ14 eτ14
    have h := h τ14 eτ14
    show WP l mX2_layTimesThree (rm d 0 0) noX _ 0 0 63 [(2, t), (2, a1), (2, a2), (2, a3), (2, a4), (0, v6)] [] N Λ τ14
    refine r_aload_n (x := t) d_X2_layTimesThree_63 rfl o_t.1 ?_
    refine r_getf (j := 4) (t := 2) (x := t_first) d_X2_layTimesThree_64 kX2 (by decide) fl_X2_29 o_t.1 o_t.2.1 o_t.2.2.1 o_t.2.2.2 rfl f_t_first ?_
    refine r_aload_n (x := t) d_X2_layTimesThree_67 rfl o_t.1 ?_
    refine r_getf (j := 5) (t := 2) (x := t_second) d_X2_layTimesThree_68 kX2 (by decide) fl_X2_33 o_t.1 o_t.2.1 o_t.2.2.1 o_t.2.2.2 rfl f_t_second ?_
    refine r_aload_n (x := a3) d_X2_layTimesThree_71 rfl o_a3.1 ?_
    refine x_callVI (Y2 := mX5_layProduct) (c := t_first) (As := [(2, t_second), (2, a3)]) (S := []) d_X2_layTimesThree_72 ok_mX5_layProduct ml_X2_73 rfl (Nat.le_of_ble_eq_true rfl) (Nat.le_of_ble_eq_true rfl) rfl hd_1 kX5 o_t_first (CI.mono h (fun v16 σ15 h => ?_))
    refine r_istore (L2 := [(2, t), (2, a1), (2, a2), (2, a3), (2, a4), (0, v16)]) d_X2_layTimesThree_75 (by decide) rfl rfl ?_
    refine r_iload (x := v16) d_X2_layTimesThree_77 rfl ?_
    refine r_if_ne (tgt := 104) d_X2_layTimesThree_79 rfl (fun hc => ?_) (fun hc => ?_)
    · have h := h.1 hc
      refine r_iload (x := v16) d_X2_layTimesThree_104 rfl ?_
      refine r_if_ne (tgt := 121) d_X2_layTimesThree_106 rfl (fun hc => ?_) (fun hc => ?_)
      · have h := h.1 hc
        refine r_iload (x := v16) d_X2_layTimesThree_121 rfl ?_
        exact r_iret d_X2_layTimesThree_123 rfl rfl (Nat.le_refl 0) (Nat.le_refl 0) ⟨_, rfl, rfl, rfl, h⟩
      · have h := h.2 hc
        refine r_aload_n (x := a1) d_X2_layTimesThree_109 rfl o_a1.1 ?_
        refine r_aload_n (x := t) d_X2_layTimesThree_110 rfl o_t.1 ?_
        refine r_getf (j := 5) (t := 2) (x := t_second) d_X2_layTimesThree_111 kX2 (by decide) fl_X2_33 o_t.1 o_t.2.1 o_t.2.2.1 o_t.2.2.2 rfl f_t_second ?_
        refine r_iconst (x := 1) d_X2_layTimesThree_114 ⟨by decide, by decide⟩ ?_
        refine x_callVI (Y2 := mX5_laySum) (c := a1) (As := [(2, t_second), (0, 1)]) (S := []) d_X2_layTimesThree_115 ok_mX5_laySum ml_X2_77 rfl (Nat.le_of_ble_eq_true rfl) (Nat.le_of_ble_eq_true rfl) rfl hd_1 kX5 o_a1 (CI.mono h (fun v18 σ17 h => ?_))
        refine r_goto (tgt := 123) d_X2_layTimesThree_118 rfl ?_
        exact r_iret d_X2_layTimesThree_123 rfl rfl (Nat.le_refl 0) (Nat.le_refl 0) ⟨_, rfl, rfl, rfl, h⟩
    · have h := h.2 hc
      refine r_aload_n (x := t) d_X2_layTimesThree_82 rfl o_t.1 ?_
      refine r_getf (j := 5) (t := 2) (x := t_second) d_X2_layTimesThree_83 kX2 (by decide) fl_X2_33 o_t.1 o_t.2.1 o_t.2.2.1 o_t.2.2.2 rfl f_t_second ?_
      refine x_callVV (Y2 := mX5_empty) (c := t_second) (As := []) (S := []) d_X2_layTimesThree_86 ok_mX5_empty ml_X2_71 rfl (Nat.le_of_ble_eq_true rfl) (Nat.le_of_ble_eq_true rfl) rfl hd_1 kX5 o_t_second (c_X5_empty (v_X5_empty_0 o_t_second ?_))
      intro τ19 eτ19
      have h := h τ19 eτ19
      show WP l mX2_layTimesThree (rm d 0 0) noX _ 0 0 89 [(2, t), (2, a1), (2, a2), (2, a3), (2, a4), (0, v16)] [] N Λ τ19
      refine r_aload_n (x := t) d_X2_layTimesThree_89 rfl o_t.1 ?_
      refine r_getf (j := 5) (t := 2) (x := t_second) d_X2_layTimesThree_90 kX2 (by decide) fl_X2_33 o_t.1 o_t.2.1 o_t.2.2.1 o_t.2.2.2 rfl f_t_second ?_
      refine r_aload_n (x := t) d_X2_layTimesThree_93 rfl o_t.1 ?_
      refine r_getf (j := 4) (t := 2) (x := t_first) d_X2_layTimesThree_94 kX2 (by decide) fl_X2_29 o_t.1 o_t.2.1 o_t.2.2.1 o_t.2.2.2 rfl f_t_first ?_
      refine r_aload (x := a4) d_X2_layTimesThree_97 rfl o_a4.1 ?_
      refine x_callVI (Y2 := mX5_layProduct) (c := t_second) (As := [(2, t_first), (2, a4)]) (S := []) d_X2_layTimesThree_99 ok_mX5_layProduct ml_X2_73 rfl (Nat.le_of_ble_eq_true rfl) (Nat.le_of_ble_eq_true rfl) rfl hd_1 kX5 o_t_second (CI.mono h (fun v21 σ20 h => ?_))
      refine r_istore (L2 := [(2, t), (2, a1), (2, a2), (2, a3), (2, a4), (0, v21)]) d_X2_layTimesThree_102 (by decide) rfl rfl ?_
      refine r_iload (x := v21) d_X2_layTimesThree_104 rfl ?_
      refine r_if_ne (tgt := 121) d_X2_layTimesThree_106 rfl (fun hc => ?_) (fun hc => ?_)
      · have h := h.1 hc
        refine r_iload (x := v21) d_X2_layTimesThree_121 rfl ?_
        exact r_iret d_X2_layTimesThree_123 rfl rfl (Nat.le_refl 0) (Nat.le_refl 0) ⟨_, rfl, rfl, rfl, h⟩
      · have h := h.2 hc
        refine r_aload_n (x := a1) d_X2_layTimesThree_109 rfl o_a1.1 ?_
        refine r_aload_n (x := t) d_X2_layTimesThree_110 rfl o_t.1 ?_
        refine r_getf (j := 5) (t := 2) (x := t_second) d_X2_layTimesThree_111 kX2 (by decide) fl_X2_33 o_t.1 o_t.2.1 o_t.2.2.1 o_t.2.2.2 rfl f_t_second ?_
        refine r_iconst (x := 1) d_X2_layTimesThree_114 ⟨by decide, by decide⟩ ?_
        refine x_callVI (Y2 := mX5_laySum) (c := a1) (As := [(2, t_second), (0, 1)]) (S := []) d_X2_layTimesThree_115 ok_mX5_laySum ml_X2_77 rfl (Nat.le_of_ble_eq_true rfl) (Nat.le_of_ble_eq_true rfl) rfl hd_1 kX5 o_a1 (CI.mono h (fun v23 σ22 h => ?_))
        refine r_goto (tgt := 123) d_X2_layTimesThree_118 rfl ?_
        exact r_iret d_X2_layTimesThree_123 rfl rfl (Nat.le_refl 0) (Nat.le_refl 0) ⟨_, rfl, rfl, rfl, h⟩
theorem v_X2_makeBracket_0 {l : Launch} {d N : Nat} {Λ : Lay} {P : Int → Mem → Prop} {σ : Mem} {x2 x3 x4 a1 t : Int} (o_a1 : Ob N Λ a1 15 3) (h0d : 1 ≤ d)
    (h : (∀ τ1, τ1 = st σ a1 2 0 → WI l mX2_makeBracket d P 10 [(2, t), (2, a1), (0, x2), (0, x3), (0, x4), (0, 0), (0, 0), (3, 0), (3, 0)] [] N Λ τ1)) :
    WI l mX2_makeBracket d P 0 [(2, t), (2, a1), (0, x2), (0, x3), (0, x4), (3, 0), (3, 0), (3, 0), (3, 0)] [] N Λ σ := by
  have hd_1 : 1 ≤ d := Nat.le_trans (by decide) h0d
  refine r_aload_n (x := a1) d_X2_makeBracket_0 rfl o_a1.1 ?_
  refine x_callVV (Y2 := mX5_empty) (c := a1) (As := []) (S := []) d_X2_makeBracket_1 ok_mX5_empty ml_X2_71 rfl (Nat.le_of_ble_eq_true rfl) (Nat.le_of_ble_eq_true rfl) rfl hd_1 kX5 o_a1 (c_X5_empty (v_X5_empty_0 o_a1 ?_))
  intro τ1 eτ1
  have h := h τ1 eτ1
  show WP l mX2_makeBracket (rm d 0 0) noX _ 0 0 4 [(2, t), (2, a1), (0, x2), (0, x3), (0, x4), (3, 0), (3, 0), (3, 0), (3, 0)] [] N Λ τ1
  refine r_iconst (x := 0) d_X2_makeBracket_4 ⟨by decide, by decide⟩ ?_
  refine r_istore (L2 := [(2, t), (2, a1), (0, x2), (0, x3), (0, x4), (0, 0), (3, 0), (3, 0), (3, 0)]) d_X2_makeBracket_5 (by decide) rfl rfl ?_
  refine r_iconst (x := 0) d_X2_makeBracket_7 ⟨by decide, by decide⟩ ?_
  refine r_istore (L2 := [(2, t), (2, a1), (0, x2), (0, x3), (0, x4), (0, 0), (0, 0), (3, 0), (3, 0)]) d_X2_makeBracket_8 (by decide) rfl rfl ?_
  exact h
theorem v_X2_makeBracket_10 {l : Launch} {d N : Nat} {Λ : Lay} {P : Int → Mem → Prop} {σ : Mem} {x2 x3 x4 x5 x6 a1 t t_polys : Int} (o_t : Ob N Λ t 12 9) (f_t_polys : (Λ t).2.2 0 = t_polys)
    (h : ((10 ≤ x6 → P x5 σ) ∧ (¬ (10 ≤ x6) → (Ix N Λ t_polys 3 (addI x2 x6) ∧ (∀ b1, b1 = (Λ t_polys).2.2 (addI x2 x6) → (Ob N Λ b1 15 3 ∧ ((¬ (σ b1 2) = 0 → WI l mX2_makeBracket d P 38 [(2, t), (2, a1), (0, x2), (0, x3), (0, x4), (0, x5), (0, x6), (0, 0), (3, 0)] [] N Λ σ) ∧ ((σ b1 2) = 0 → (∀ y2, y2 = addI x6 1 → WI l mX2_makeBracket d P 10 [(2, t), (2, a1), (0, x2), (0, x3), (0, x4), (0, x5), (0, y2), (3, 0), (3, 0)] [] N Λ σ))))))))) :
    WI l mX2_makeBracket d P 10 [(2, t), (2, a1), (0, x2), (0, x3), (0, x4), (0, x5), (0, x6), (3, 0), (3, 0)] [] N Λ σ := by
  refine r_iload (x := x6) d_X2_makeBracket_10 rfl ?_
  refine r_bipush (x := 10) d_X2_makeBracket_12 ⟨by decide, by decide⟩ (by decide) ?_
  refine r_ic_ge (tgt := 192) d_X2_makeBracket_14 rfl (fun hc => ?_) (fun hc => ?_)
  · have h := h.1 hc
    refine r_iload (x := x5) d_X2_makeBracket_192 rfl ?_
    exact r_iret d_X2_makeBracket_194 rfl rfl (Nat.le_refl 0) (Nat.le_refl 0) ⟨_, rfl, rfl, rfl, h⟩
  · have h := h.2 hc
    refine r_aload_n (x := t) d_X2_makeBracket_17 rfl o_t.1 ?_
    refine r_getf (j := 0) (t := 2) (x := t_polys) d_X2_makeBracket_18 kX2 (by decide) fl_X2_13 o_t.1 o_t.2.1 o_t.2.2.1 o_t.2.2.2 rfl f_t_polys ?_
    refine r_iload_n (x := x2) d_X2_makeBracket_21 rfl ?_
    refine r_iload (x := x6) d_X2_makeBracket_22 rfl ?_
    refine r_iadd d_X2_makeBracket_24 ?_
    refine x_aald (t := 3) (by decide) d_X2_makeBracket_25 h.1 (fun b1 eb1 => ?_)
    have h := h.2 b1 eb1
    have oob1 := h.1
    have h := h.2
    refine r_getf (j := 2) (t := 0) (x := (σ b1 2)) d_X2_makeBracket_26 kX5 (by decide) fl_X2_81 oob1.1 oob1.2.1 oob1.2.2.1 oob1.2.2.2 rfl rfl ?_
    refine r_if_ne (tgt := 35) d_X2_makeBracket_29 rfl (fun hc => ?_) (fun hc => ?_)
    · have h := h.1 hc
      refine r_iconst (x := 0) d_X2_makeBracket_35 ⟨by decide, by decide⟩ ?_
      refine r_istore (L2 := [(2, t), (2, a1), (0, x2), (0, x3), (0, x4), (0, x5), (0, x6), (0, 0), (3, 0)]) d_X2_makeBracket_36 (by decide) rfl rfl ?_
      exact h
    · have h := h.2 hc
      refine r_goto (tgt := 186) d_X2_makeBracket_32 rfl ?_
      refine x_iinc (x := x6) (L := [(2, t), (2, a1), (0, x2), (0, x3), (0, x4), (0, x5), (0, x6), (3, 0), (3, 0)]) d_X2_makeBracket_186 rfl (by decide) rfl (fun y2 ey2 => ?_)
      have h := h y2 ey2
      show WP _ _ _ _ _ _ _ _ [(2, t), (2, a1), (0, x2), (0, x3), (0, x4), (0, x5), (0, y2), (3, 0), (3, 0)] _ _ _ _
      refine r_goto (tgt := 10) d_X2_makeBracket_189 rfl ?_
      exact h
theorem v_X2_makeBracket_38 {l : Launch} {d N : Nat} {Λ : Lay} {P : Int → Mem → Prop} {σ : Mem} {x2 x3 x4 x5 x6 x7 a1 t t_polys : Int} (o_t : Ob N Λ t 12 9) (f_t_polys : (Λ t).2.2 0 = t_polys)
    (h : ((10 ≤ x7 → (∀ y1, y1 = addI x6 1 → WI l mX2_makeBracket d P 10 [(2, t), (2, a1), (0, x2), (0, x3), (0, x4), (0, x5), (0, y1), (3, 0), (3, 0)] [] N Λ σ)) ∧ (¬ (10 ≤ x7) → (Ix N Λ t_polys 3 (addI x3 x7) ∧ (∀ b2, b2 = (Λ t_polys).2.2 (addI x3 x7) → (Ob N Λ b2 15 3 ∧ (((σ b2 2) = 0 → (∀ y3, y3 = addI x7 1 → WI l mX2_makeBracket d P 38 [(2, t), (2, a1), (0, x2), (0, x3), (0, x4), (0, x5), (0, x6), (0, y3), (3, 0)] [] N Λ σ)) ∧ (¬ ((σ b2 2) = 0) → ((¬ x6 = x7 → WI l mX2_makeBracket d P 73 [(2, t), (2, a1), (0, x2), (0, x3), (0, x4), (0, x5), (0, x6), (0, x7), (0, 0)] [] N Λ σ) ∧ (x6 = x7 → (∀ y4, y4 = addI x7 1 → WI l mX2_makeBracket d P 38 [(2, t), (2, a1), (0, x2), (0, x3), (0, x4), (0, x5), (0, x6), (0, y4), (3, 0)] [] N Λ σ))))))))))) :
    WI l mX2_makeBracket d P 38 [(2, t), (2, a1), (0, x2), (0, x3), (0, x4), (0, x5), (0, x6), (0, x7), (3, 0)] [] N Λ σ := by
  refine r_iload (x := x7) d_X2_makeBracket_38 rfl ?_
  refine r_bipush (x := 10) d_X2_makeBracket_40 ⟨by decide, by decide⟩ (by decide) ?_
  refine r_ic_ge (tgt := 186) d_X2_makeBracket_42 rfl (fun hc => ?_) (fun hc => ?_)
  · have h := h.1 hc
    refine x_iinc (x := x6) (L := [(2, t), (2, a1), (0, x2), (0, x3), (0, x4), (0, x5), (0, x6), (0, x7), (3, 0)]) d_X2_makeBracket_186 rfl (by decide) rfl (fun y1 ey1 => ?_)
    have h := h y1 ey1
    show WP _ _ _ _ _ _ _ _ [(2, t), (2, a1), (0, x2), (0, x3), (0, x4), (0, x5), (0, y1), (0, x7), (3, 0)] _ _ _ _
    refine r_goto (tgt := 10) d_X2_makeBracket_189 rfl ?_
    exact x_mask h ⟨Or.inr rfl, Or.inr rfl, Or.inr rfl, Or.inr rfl, Or.inr rfl, Or.inr rfl, Or.inr rfl, Or.inl rfl, Or.inl rfl, trivial⟩
  · have h := h.2 hc
    refine r_aload_n (x := t) d_X2_makeBracket_45 rfl o_t.1 ?_
    refine r_getf (j := 0) (t := 2) (x := t_polys) d_X2_makeBracket_46 kX2 (by decide) fl_X2_13 o_t.1 o_t.2.1 o_t.2.2.1 o_t.2.2.2 rfl f_t_polys ?_
    refine r_iload_n (x := x3) d_X2_makeBracket_49 rfl ?_
    refine r_iload (x := x7) d_X2_makeBracket_50 rfl ?_
    refine r_iadd d_X2_makeBracket_52 ?_
    refine x_aald (t := 3) (by decide) d_X2_makeBracket_53 h.1 (fun b2 eb2 => ?_)
    have h := h.2 b2 eb2
    have oob2 := h.1
    have h := h.2
    refine r_getf (j := 2) (t := 0) (x := (σ b2 2)) d_X2_makeBracket_54 kX5 (by decide) fl_X2_81 oob2.1 oob2.2.1 oob2.2.2.1 oob2.2.2.2 rfl rfl ?_
    refine r_if_eq (tgt := 180) d_X2_makeBracket_57 rfl (fun hc => ?_) (fun hc => ?_)
    · have h := h.1 hc
      refine x_iinc (x := x7) (L := [(2, t), (2, a1), (0, x2), (0, x3), (0, x4), (0, x5), (0, x6), (0, x7), (3, 0)]) d_X2_makeBracket_180 rfl (by decide) rfl (fun y3 ey3 => ?_)
      have h := h y3 ey3
      show WP _ _ _ _ _ _ _ _ [(2, t), (2, a1), (0, x2), (0, x3), (0, x4), (0, x5), (0, x6), (0, y3), (3, 0)] _ _ _ _
      refine r_goto (tgt := 38) d_X2_makeBracket_183 rfl ?_
      exact h
    · have h := h.2 hc
      refine r_iload (x := x6) d_X2_makeBracket_60 rfl ?_
      refine r_iload (x := x7) d_X2_makeBracket_62 rfl ?_
      refine r_ic_ne (tgt := 70) d_X2_makeBracket_64 rfl (fun hc => ?_) (fun hc => ?_)
      · have h := h.1 hc
        refine r_iconst (x := 0) d_X2_makeBracket_70 ⟨by decide, by decide⟩ ?_
        refine r_istore (L2 := [(2, t), (2, a1), (0, x2), (0, x3), (0, x4), (0, x5), (0, x6), (0, x7), (0, 0)]) d_X2_makeBracket_71 (by decide) rfl rfl ?_
        exact h
      · have h := h.2 hc
        refine r_goto (tgt := 180) d_X2_makeBracket_67 rfl ?_
        refine x_iinc (x := x7) (L := [(2, t), (2, a1), (0, x2), (0, x3), (0, x4), (0, x5), (0, x6), (0, x7), (3, 0)]) d_X2_makeBracket_180 rfl (by decide) rfl (fun y4 ey4 => ?_)
        have h := h y4 ey4
        show WP _ _ _ _ _ _ _ _ [(2, t), (2, a1), (0, x2), (0, x3), (0, x4), (0, x5), (0, x6), (0, y4), (3, 0)] _ _ _ _
        refine r_goto (tgt := 38) d_X2_makeBracket_183 rfl ?_
        exact h
theorem v_X2_makeBracket_73 {l : Launch} {d N : Nat} {Λ : Lay} {P : Int → Mem → Prop} {σ : Mem} {x2 x3 x4 x5 x6 x7 x8 a1 t t_polys t_term : Int} (o_t : Ob N Λ t 12 9) (f_t_polys : (Λ t).2.2 0 = t_polys) (f_t_term : (Λ t).2.2 8 = t_term) (o_t_term : Ob N Λ t_term 19 2) (o_a1 : Ob N Λ a1 15 3) (h0d : 1 ≤ d)
    (h : ((10 ≤ x8 → (∀ y1, y1 = addI x7 1 → WI l mX2_makeBracket d P 38 [(2, t), (2, a1), (0, x2), (0, x3), (0, x4), (0, x5), (0, x6), (0, y1), (3, 0)] [] N Λ σ)) ∧ (¬ (10 ≤ x8) → ((¬ x5 = 0 → (∀ y2, y2 = addI x7 1 → WI l mX2_makeBracket d P 38 [(2, t), (2, a1), (0, x2), (0, x3), (0, x4), (0, x5), (0, x6), (0, y2), (3, 0)] [] N Λ σ)) ∧ (x5 = 0 → (Ix N Λ t_polys 3 (addI x4 x8) ∧ (∀ b3, b3 = (Λ t_polys).2.2 (addI x4 x8) → (Ob N Λ b3 15 3 ∧ (((σ b3 2) = 0 → (∀ y4, y4 = addI x8 1 → WI l mX2_makeBracket d P 73 [(2, t), (2, a1), (0, x2), (0, x3), (0, x4), (0, x5), (0, x6), (0, x7), (0, y4)] [] N Λ σ)) ∧ (¬ ((σ b3 2) = 0) → ((x6 = x8 → (∀ y5, y5 = addI x8 1 → WI l mX2_makeBracket d P 73 [(2, t), (2, a1), (0, x2), (0, x3), (0, x4), (0, x5), (0, x6), (0, x7), (0, y5)] [] N Λ σ)) ∧ (¬ (x6 = x8) → ((x7 = x8 → (∀ y6, y6 = addI x8 1 → WI l mX2_makeBracket d P 73 [(2, t), (2, a1), (0, x2), (0, x3), (0, x4), (0, x5), (0, x6), (0, x7), (0, y6)] [] N Λ σ)) ∧ (¬ (x7 = x8) → (∀ τ7, τ7 = st σ t_term 0 0 → (∀ τ8, τ8 = st τ7 t_term 1 1 → (CV l mX10_attach (d - 1) [(2, t_term), (0, (orI (orI (shlI x6 8) (shlI x7 4)) x8))] N Λ τ8 (fun σ9 => (Ix N Λ t_polys 3 (addI x2 x6) ∧ (∀ b10, b10 = (Λ t_polys).2.2 (addI x2 x6) → (Ob N Λ b10 15 3 ∧ (Ix N Λ t_polys 3 (addI x3 x7) ∧ (∀ b11, b11 = (Λ t_polys).2.2 (addI x3 x7) → (Ob N Λ b11 15 3 ∧ (Ix N Λ t_polys 3 (addI x4 x8) ∧ (∀ b12, b12 = (Λ t_polys).2.2 (addI x4 x8) → (Ob N Λ b12 15 3 ∧ (CI l mX2_layTimesThree (d - 1) [(2, t), (2, a1), (2, b10), (2, b11), (2, b12)] N Λ σ9 (fun v14 σ13 => (∀ y15, y15 = addI x8 1 → WI l mX2_makeBracket d P 73 [(2, t), (2, a1), (0, x2), (0, x3), (0, x4), (0, v14), (0, x6), (0, x7), (0, y15)] [] N Λ σ13)))))))))))))))))))))))))))))) :
    WI l mX2_makeBracket d P 73 [(2, t), (2, a1), (0, x2), (0, x3), (0, x4), (0, x5), (0, x6), (0, x7), (0, x8)] [] N Λ σ := by
  have hd_1 : 1 ≤ d := Nat.le_trans (by decide) h0d
  refine r_iload (x := x8) d_X2_makeBracket_73 rfl ?_
  refine r_bipush (x := 10) d_X2_makeBracket_75 ⟨by decide, by decide⟩ (by decide) ?_
  refine r_ic_ge (tgt := 180) d_X2_makeBracket_77 rfl (fun hc => ?_) (fun hc => ?_)
  · have h := h.1 hc
    refine x_iinc (x := x7) (L := [(2, t), (2, a1), (0, x2), (0, x3), (0, x4), (0, x5), (0, x6), (0, x7), (0, x8)]) d_X2_makeBracket_180 rfl (by decide) rfl (fun y1 ey1 => ?_)
    have h := h y1 ey1
    show WP _ _ _ _ _ _ _ _ [(2, t), (2, a1), (0, x2), (0, x3), (0, x4), (0, x5), (0, x6), (0, y1), (0, x8)] _ _ _ _
    refine r_goto (tgt := 38) d_X2_makeBracket_183 rfl ?_
    exact x_mask h ⟨Or.inr rfl, Or.inr rfl, Or.inr rfl, Or.inr rfl, Or.inr rfl, Or.inr rfl, Or.inr rfl, Or.inr rfl, Or.inl rfl, trivial⟩
  · have h := h.2 hc
    refine r_iload (x := x5) d_X2_makeBracket_80 rfl ?_
    refine r_if_ne (tgt := 180) d_X2_makeBracket_82 rfl (fun hc => ?_) (fun hc => ?_)
    · have h := h.1 hc
      refine x_iinc (x := x7) (L := [(2, t), (2, a1), (0, x2), (0, x3), (0, x4), (0, x5), (0, x6), (0, x7), (0, x8)]) d_X2_makeBracket_180 rfl (by decide) rfl (fun y2 ey2 => ?_)
      have h := h y2 ey2
      show WP _ _ _ _ _ _ _ _ [(2, t), (2, a1), (0, x2), (0, x3), (0, x4), (0, x5), (0, x6), (0, y2), (0, x8)] _ _ _ _
      refine r_goto (tgt := 38) d_X2_makeBracket_183 rfl ?_
      exact x_mask h ⟨Or.inr rfl, Or.inr rfl, Or.inr rfl, Or.inr rfl, Or.inr rfl, Or.inr rfl, Or.inr rfl, Or.inr rfl, Or.inl rfl, trivial⟩
    · have h := h.2 hc
      refine r_aload_n (x := t) d_X2_makeBracket_85 rfl o_t.1 ?_
      refine r_getf (j := 0) (t := 2) (x := t_polys) d_X2_makeBracket_86 kX2 (by decide) fl_X2_13 o_t.1 o_t.2.1 o_t.2.2.1 o_t.2.2.2 rfl f_t_polys ?_
      refine r_iload (x := x4) d_X2_makeBracket_89 rfl ?_
      refine r_iload (x := x8) d_X2_makeBracket_91 rfl ?_
      refine r_iadd d_X2_makeBracket_93 ?_
      refine x_aald (t := 3) (by decide) d_X2_makeBracket_94 h.1 (fun b3 eb3 => ?_)
      have h := h.2 b3 eb3
      have oob3 := h.1
      have h := h.2
      refine r_getf (j := 2) (t := 0) (x := (σ b3 2)) d_X2_makeBracket_95 kX5 (by decide) fl_X2_81 oob3.1 oob3.2.1 oob3.2.2.1 oob3.2.2.2 rfl rfl ?_
      refine r_if_eq (tgt := 174) d_X2_makeBracket_98 rfl (fun hc => ?_) (fun hc => ?_)
      · have h := h.1 hc
        refine x_iinc (x := x8) (L := [(2, t), (2, a1), (0, x2), (0, x3), (0, x4), (0, x5), (0, x6), (0, x7), (0, x8)]) d_X2_makeBracket_174 rfl (by decide) rfl (fun y4 ey4 => ?_)
        have h := h y4 ey4
        show WP _ _ _ _ _ _ _ _ [(2, t), (2, a1), (0, x2), (0, x3), (0, x4), (0, x5), (0, x6), (0, x7), (0, y4)] _ _ _ _
        refine r_goto (tgt := 73) d_X2_makeBracket_177 rfl ?_
        exact h
      · have h := h.2 hc
        refine r_iload (x := x6) d_X2_makeBracket_101 rfl ?_
        refine r_iload (x := x8) d_X2_makeBracket_103 rfl ?_
        refine r_ic_eq (tgt := 174) d_X2_makeBracket_105 rfl (fun hc => ?_) (fun hc => ?_)
        · have h := h.1 hc
          refine x_iinc (x := x8) (L := [(2, t), (2, a1), (0, x2), (0, x3), (0, x4), (0, x5), (0, x6), (0, x7), (0, x8)]) d_X2_makeBracket_174 rfl (by decide) rfl (fun y5 ey5 => ?_)
          have h := h y5 ey5
          show WP _ _ _ _ _ _ _ _ [(2, t), (2, a1), (0, x2), (0, x3), (0, x4), (0, x5), (0, x6), (0, x7), (0, y5)] _ _ _ _
          refine r_goto (tgt := 73) d_X2_makeBracket_177 rfl ?_
          exact h
        · have h := h.2 hc
          refine r_iload (x := x7) d_X2_makeBracket_108 rfl ?_
          refine r_iload (x := x8) d_X2_makeBracket_110 rfl ?_
          refine r_ic_eq (tgt := 174) d_X2_makeBracket_112 rfl (fun hc => ?_) (fun hc => ?_)
          · have h := h.1 hc
            refine x_iinc (x := x8) (L := [(2, t), (2, a1), (0, x2), (0, x3), (0, x4), (0, x5), (0, x6), (0, x7), (0, x8)]) d_X2_makeBracket_174 rfl (by decide) rfl (fun y6 ey6 => ?_)
            have h := h y6 ey6
            show WP _ _ _ _ _ _ _ _ [(2, t), (2, a1), (0, x2), (0, x3), (0, x4), (0, x5), (0, x6), (0, x7), (0, y6)] _ _ _ _
            refine r_goto (tgt := 73) d_X2_makeBracket_177 rfl ?_
            exact h
          · have h := h.2 hc
            refine r_aload_n (x := t) d_X2_makeBracket_115 rfl o_t.1 ?_
            refine r_getf (j := 8) (t := 2) (x := t_term) d_X2_makeBracket_116 kX2 (by decide) fl_X2_45 o_t.1 o_t.2.1 o_t.2.2.1 o_t.2.2.2 rfl f_t_term ?_
            refine r_lconst d_X2_makeBracket_119 ?_
            skip
            refine x_callVV (Y2 := mX10_begin) (c := t_term) (As := [(1, 0)]) (S := []) d_X2_makeBracket_120 ok_mX10_begin ml_X2_84 rfl (Nat.le_of_ble_eq_true rfl) (Nat.le_of_ble_eq_true rfl) rfl hd_1 kX10 o_t_term (c_X10_begin (v_X10_begin_0 o_t_term ?_))
            intro τ7 eτ7
            have h := h τ7 eτ7
            intro τ8 eτ8
            have h := h τ8 eτ8
            show WP l mX2_makeBracket (rm d 0 0) noX _ 0 0 123 [(2, t), (2, a1), (0, x2), (0, x3), (0, x4), (0, x5), (0, x6), (0, x7), (0, x8)] [] N Λ τ8
            refine r_aload_n (x := t) d_X2_makeBracket_123 rfl o_t.1 ?_
            refine r_getf (j := 8) (t := 2) (x := t_term) d_X2_makeBracket_124 kX2 (by decide) fl_X2_45 o_t.1 o_t.2.1 o_t.2.2.1 o_t.2.2.2 rfl f_t_term ?_
            refine r_iload (x := x6) d_X2_makeBracket_127 rfl ?_
            refine r_iload (x := x7) d_X2_makeBracket_129 rfl ?_
            refine r_iload (x := x8) d_X2_makeBracket_131 rfl ?_
            refine x_callSI (Y2 := mX6_row) (As := [(0, x6), (0, x7), (0, x8)]) (S := [(2, t_term)]) d_X2_makeBracket_133 ok_mX6_row ml_X2_88 rfl (Nat.le_of_ble_eq_true rfl) (Nat.le_of_ble_eq_true rfl) rfl hd_1 (c_X6_row (v_X6_row_0 ?_))
            show WP l mX2_makeBracket (rm d 0 0) noX _ 0 0 136 [(2, t), (2, a1), (0, x2), (0, x3), (0, x4), (0, x5), (0, x6), (0, x7), (0, x8)] [(0, (orI (orI (shlI x6 8) (shlI x7 4)) x8)), (2, t_term)] N Λ τ8
            refine x_callVV (Y2 := mX10_attach) (c := t_term) (As := [(0, (orI (orI (shlI x6 8) (shlI x7 4)) x8))]) (S := []) d_X2_makeBracket_136 ok_mX10_attach ml_X2_94 rfl (Nat.le_of_ble_eq_true rfl) (Nat.le_of_ble_eq_true rfl) rfl hd_1 kX10 o_t_term (CV.mono h (fun σ9 h => ?_))
            refine r_aload_n (x := t) d_X2_makeBracket_139 rfl o_t.1 ?_
            refine r_aload_n (x := a1) d_X2_makeBracket_140 rfl o_a1.1 ?_
            refine r_aload_n (x := t) d_X2_makeBracket_141 rfl o_t.1 ?_
            refine r_getf (j := 0) (t := 2) (x := t_polys) d_X2_makeBracket_142 kX2 (by decide) fl_X2_13 o_t.1 o_t.2.1 o_t.2.2.1 o_t.2.2.2 rfl f_t_polys ?_
            refine r_iload_n (x := x2) d_X2_makeBracket_145 rfl ?_
            refine r_iload (x := x6) d_X2_makeBracket_146 rfl ?_
            refine r_iadd d_X2_makeBracket_148 ?_
            refine x_aald (t := 3) (by decide) d_X2_makeBracket_149 h.1 (fun b10 eb10 => ?_)
            have h := h.2 b10 eb10
            have oob10 := h.1
            have h := h.2
            refine r_aload_n (x := t) d_X2_makeBracket_150 rfl o_t.1 ?_
            refine r_getf (j := 0) (t := 2) (x := t_polys) d_X2_makeBracket_151 kX2 (by decide) fl_X2_13 o_t.1 o_t.2.1 o_t.2.2.1 o_t.2.2.2 rfl f_t_polys ?_
            refine r_iload_n (x := x3) d_X2_makeBracket_154 rfl ?_
            refine r_iload (x := x7) d_X2_makeBracket_155 rfl ?_
            refine r_iadd d_X2_makeBracket_157 ?_
            refine x_aald (t := 3) (by decide) d_X2_makeBracket_158 h.1 (fun b11 eb11 => ?_)
            have h := h.2 b11 eb11
            have oob11 := h.1
            have h := h.2
            refine r_aload_n (x := t) d_X2_makeBracket_159 rfl o_t.1 ?_
            refine r_getf (j := 0) (t := 2) (x := t_polys) d_X2_makeBracket_160 kX2 (by decide) fl_X2_13 o_t.1 o_t.2.1 o_t.2.2.1 o_t.2.2.2 rfl f_t_polys ?_
            refine r_iload (x := x4) d_X2_makeBracket_163 rfl ?_
            refine r_iload (x := x8) d_X2_makeBracket_165 rfl ?_
            refine r_iadd d_X2_makeBracket_167 ?_
            refine x_aald (t := 3) (by decide) d_X2_makeBracket_168 h.1 (fun b12 eb12 => ?_)
            have h := h.2 b12 eb12
            have oob12 := h.1
            have h := h.2
            refine x_callVI (Y2 := mX2_layTimesThree) (c := t) (As := [(2, a1), (2, b10), (2, b11), (2, b12)]) (S := []) d_X2_makeBracket_169 ok_mX2_layTimesThree ml_X2_97 rfl (Nat.le_of_ble_eq_true rfl) (Nat.le_of_ble_eq_true rfl) rfl hd_1 kX2 o_t (CI.mono h (fun v14 σ13 h => ?_))
            refine r_istore (L2 := [(2, t), (2, a1), (0, x2), (0, x3), (0, x4), (0, v14), (0, x6), (0, x7), (0, x8)]) d_X2_makeBracket_172 (by decide) rfl rfl ?_
            refine x_iinc (x := x8) (L := [(2, t), (2, a1), (0, x2), (0, x3), (0, x4), (0, v14), (0, x6), (0, x7), (0, x8)]) d_X2_makeBracket_174 rfl (by decide) rfl (fun y15 ey15 => ?_)
            have h := h y15 ey15
            show WP _ _ _ _ _ _ _ _ [(2, t), (2, a1), (0, x2), (0, x3), (0, x4), (0, v14), (0, x6), (0, x7), (0, y15)] _ _ _ _
            refine r_goto (tgt := 73) d_X2_makeBracket_177 rfl ?_
            exact h
theorem v_X2_makeSpare_0 {l : Launch} {d N : Nat} {Λ : Lay} {P : Int → Mem → Prop} {σ : Mem} {x1 x2 t : Int} (o_t : Ob N Λ t 12 9) (h0d : 1 ≤ d)
    (h : (CV l mX2_empty (d - 1) [(2, t), (0, (σ t 3))] N Λ σ (fun σ1 => WI l mX2_makeSpare d P 13 [(2, t), (0, x1), (0, x2), (0, 0), (0, 0)] [] N Λ σ1))) :
    WI l mX2_makeSpare d P 0 [(2, t), (0, x1), (0, x2), (3, 0), (3, 0)] [] N Λ σ := by
  have hd_1 : 1 ≤ d := Nat.le_trans (by decide) h0d
  refine r_aload_n (x := t) d_X2_makeSpare_0 rfl o_t.1 ?_
  refine r_aload_n (x := t) d_X2_makeSpare_1 rfl o_t.1 ?_
  refine r_getf (j := 3) (t := 0) (x := (σ t 3)) d_X2_makeSpare_2 kX2 (by decide) fl_X2_25 o_t.1 o_t.2.1 o_t.2.2.1 o_t.2.2.2 rfl rfl ?_
  refine x_callVV (Y2 := mX2_empty) (c := t) (As := [(0, (σ t 3))]) (S := []) d_X2_makeSpare_5 ok_mX2_empty ml_X2_55 rfl (Nat.le_of_ble_eq_true rfl) (Nat.le_of_ble_eq_true rfl) rfl hd_1 kX2 o_t (CV.mono h (fun σ1 h => ?_))
  refine r_iconst (x := 0) d_X2_makeSpare_8 ⟨by decide, by decide⟩ ?_
  refine r_istore_n (L2 := [(2, t), (0, x1), (0, x2), (0, 0), (3, 0)]) d_X2_makeSpare_9 (by decide) rfl rfl ?_
  refine r_iconst (x := 0) d_X2_makeSpare_10 ⟨by decide, by decide⟩ ?_
  refine r_istore (L2 := [(2, t), (0, x1), (0, x2), (0, 0), (0, 0)]) d_X2_makeSpare_11 (by decide) rfl rfl ?_
  exact h
theorem v_X2_makeSpare_13 {l : Launch} {d N : Nat} {Λ : Lay} {P : Int → Mem → Prop} {σ : Mem} {x1 x2 x3 x4 t t_firstBracket t_polys : Int} (o_t : Ob N Λ t 12 9) (f_t_polys : (Λ t).2.2 0 = t_polys) (f_t_firstBracket : (Λ t).2.2 6 = t_firstBracket) (h0d : 1 ≤ d)
    (h : ((10 ≤ x4 → WI l mX2_makeSpare d P 62 [(2, t), (0, x1), (0, x2), (0, x3), (0, 0)] [] N Λ σ) ∧ (¬ (10 ≤ x4) → ((¬ x3 = 0 → WI l mX2_makeSpare d P 62 [(2, t), (0, x1), (0, x2), (0, x3), (0, 0)] [] N Λ σ) ∧ (x3 = 0 → (Ix N Λ t_polys 3 (addI (σ t 3) x4) ∧ (∀ b1, b1 = (Λ t_polys).2.2 (addI (σ t 3) x4) → (Ob N Λ b1 15 3 ∧ (Ix N Λ t_polys 3 (addI x2 x4) ∧ (∀ b2, b2 = (Λ t_polys).2.2 (addI x2 x4) → (Ob N Λ b2 15 3 ∧ (CI l mX5_layProduct (d - 1) [(2, b1), (2, t_firstBracket), (2, b2)] N Λ σ (fun v4 σ3 => (∀ y5, y5 = addI x4 1 → WI l mX2_makeSpare d P 13 [(2, t), (0, x1), (0, x2), (0, v4), (0, y5)] [] N Λ σ3)))))))))))))) :
    WI l mX2_makeSpare d P 13 [(2, t), (0, x1), (0, x2), (0, x3), (0, x4)] [] N Λ σ := by
  have hd_1 : 1 ≤ d := Nat.le_trans (by decide) h0d
  refine r_iload (x := x4) d_X2_makeSpare_13 rfl ?_
  refine r_bipush (x := 10) d_X2_makeSpare_15 ⟨by decide, by decide⟩ (by decide) ?_
  refine r_ic_ge (tgt := 59) d_X2_makeSpare_17 rfl (fun hc => ?_) (fun hc => ?_)
  · have h := h.1 hc
    refine r_iconst (x := 0) d_X2_makeSpare_59 ⟨by decide, by decide⟩ ?_
    refine r_istore (L2 := [(2, t), (0, x1), (0, x2), (0, x3), (0, 0)]) d_X2_makeSpare_60 (by decide) rfl rfl ?_
    exact h
  · have h := h.2 hc
    refine r_iload_n (x := x3) d_X2_makeSpare_20 rfl ?_
    refine r_if_ne (tgt := 59) d_X2_makeSpare_21 rfl (fun hc => ?_) (fun hc => ?_)
    · have h := h.1 hc
      refine r_iconst (x := 0) d_X2_makeSpare_59 ⟨by decide, by decide⟩ ?_
      refine r_istore (L2 := [(2, t), (0, x1), (0, x2), (0, x3), (0, 0)]) d_X2_makeSpare_60 (by decide) rfl rfl ?_
      exact h
    · have h := h.2 hc
      refine r_aload_n (x := t) d_X2_makeSpare_24 rfl o_t.1 ?_
      refine r_getf (j := 0) (t := 2) (x := t_polys) d_X2_makeSpare_25 kX2 (by decide) fl_X2_13 o_t.1 o_t.2.1 o_t.2.2.1 o_t.2.2.2 rfl f_t_polys ?_
      refine r_aload_n (x := t) d_X2_makeSpare_28 rfl o_t.1 ?_
      refine r_getf (j := 3) (t := 0) (x := (σ t 3)) d_X2_makeSpare_29 kX2 (by decide) fl_X2_25 o_t.1 o_t.2.1 o_t.2.2.1 o_t.2.2.2 rfl rfl ?_
      refine r_iload (x := x4) d_X2_makeSpare_32 rfl ?_
      refine r_iadd d_X2_makeSpare_34 ?_
      refine x_aald (t := 3) (by decide) d_X2_makeSpare_35 h.1 (fun b1 eb1 => ?_)
      have h := h.2 b1 eb1
      have oob1 := h.1
      have h := h.2
      refine r_aload_n (x := t) d_X2_makeSpare_36 rfl o_t.1 ?_
      refine r_getf (j := 6) (t := 2) (x := t_firstBracket) d_X2_makeSpare_37 kX2 (by decide) fl_X2_36 o_t.1 o_t.2.1 o_t.2.2.1 o_t.2.2.2 rfl f_t_firstBracket ?_
      refine r_aload_n (x := t) d_X2_makeSpare_40 rfl o_t.1 ?_
      refine r_getf (j := 0) (t := 2) (x := t_polys) d_X2_makeSpare_41 kX2 (by decide) fl_X2_13 o_t.1 o_t.2.1 o_t.2.2.1 o_t.2.2.2 rfl f_t_polys ?_
      refine r_iload_n (x := x2) d_X2_makeSpare_44 rfl ?_
      refine r_iload (x := x4) d_X2_makeSpare_45 rfl ?_
      refine r_iadd d_X2_makeSpare_47 ?_
      refine x_aald (t := 3) (by decide) d_X2_makeSpare_48 h.1 (fun b2 eb2 => ?_)
      have h := h.2 b2 eb2
      have oob2 := h.1
      have h := h.2
      refine x_callVI (Y2 := mX5_layProduct) (c := b1) (As := [(2, t_firstBracket), (2, b2)]) (S := []) d_X2_makeSpare_49 ok_mX5_layProduct ml_X2_73 rfl (Nat.le_of_ble_eq_true rfl) (Nat.le_of_ble_eq_true rfl) rfl hd_1 kX5 oob1 (CI.mono h (fun v4 σ3 h => ?_))
      refine r_istore_n (L2 := [(2, t), (0, x1), (0, x2), (0, v4), (0, x4)]) d_X2_makeSpare_52 (by decide) rfl rfl ?_
      refine x_iinc (x := x4) (L := [(2, t), (0, x1), (0, x2), (0, v4), (0, x4)]) d_X2_makeSpare_53 rfl (by decide) rfl (fun y5 ey5 => ?_)
      have h := h y5 ey5
      show WP _ _ _ _ _ _ _ _ [(2, t), (0, x1), (0, x2), (0, v4), (0, y5)] _ _ _ _
      refine r_goto (tgt := 13) d_X2_makeSpare_56 rfl ?_
      exact h
theorem v_X2_makeSpare_62 {l : Launch} {d N : Nat} {Λ : Lay} {P : Int → Mem → Prop} {σ : Mem} {x1 x2 x3 x4 t t_first t_polys t_secondBracket : Int} (o_t : Ob N Λ t 12 9) (f_t_first : (Λ t).2.2 4 = t_first) (o_t_first : Ob N Λ t_first 15 3) (f_t_secondBracket : (Λ t).2.2 7 = t_secondBracket) (f_t_polys : (Λ t).2.2 0 = t_polys) (h0d : 1 ≤ d)
    (h : ((10 ≤ x4 → P x3 σ) ∧ (¬ (10 ≤ x4) → ((¬ x3 = 0 → P x3 σ) ∧ (x3 = 0 → (∀ τ1, τ1 = st σ t_first 2 0 → (Ix N Λ t_polys 3 (addI x1 x4) ∧ (∀ b2, b2 = (Λ t_polys).2.2 (addI x1 x4) → (Ob N Λ b2 15 3 ∧ (CI l mX5_layProduct (d - 1) [(2, t_first), (2, t_secondBracket), (2, b2)] N Λ τ1 (fun v4 σ3 => ((¬ v4 = 0 → (∀ y5, y5 = addI x4 1 → WI l mX2_makeSpare d P 62 [(2, t), (0, x1), (0, x2), (0, v4), (0, y5)] [] N Λ σ3)) ∧ (v4 = 0 → (Ix N Λ t_polys 3 (addI (σ3 t 3) x4) ∧ (∀ b6, b6 = (Λ t_polys).2.2 (addI (σ3 t 3) x4) → (Ob N Λ b6 15 3 ∧ (CI l mX5_laySum (d - 1) [(2, b6), (2, t_first), (0, (-1))] N Λ σ3 (fun v8 σ7 => (∀ y9, y9 = addI x4 1 → WI l mX2_makeSpare d P 62 [(2, t), (0, x1), (0, x2), (0, v8), (0, y9)] [] N Λ σ7))))))))))))))))))) :
    WI l mX2_makeSpare d P 62 [(2, t), (0, x1), (0, x2), (0, x3), (0, x4)] [] N Λ σ := by
  have hd_1 : 1 ≤ d := Nat.le_trans (by decide) h0d
  refine r_iload (x := x4) d_X2_makeSpare_62 rfl ?_
  refine r_bipush (x := 10) d_X2_makeSpare_64 ⟨by decide, by decide⟩ (by decide) ?_
  refine r_ic_ge (tgt := 132) d_X2_makeSpare_66 rfl (fun hc => ?_) (fun hc => ?_)
  · have h := h.1 hc
    refine r_iload_n (x := x3) d_X2_makeSpare_132 rfl ?_
    exact r_iret d_X2_makeSpare_133 rfl rfl (Nat.le_refl 0) (Nat.le_refl 0) ⟨_, rfl, rfl, rfl, h⟩
  · have h := h.2 hc
    refine r_iload_n (x := x3) d_X2_makeSpare_69 rfl ?_
    refine r_if_ne (tgt := 132) d_X2_makeSpare_70 rfl (fun hc => ?_) (fun hc => ?_)
    · have h := h.1 hc
      refine r_iload_n (x := x3) d_X2_makeSpare_132 rfl ?_
      exact r_iret d_X2_makeSpare_133 rfl rfl (Nat.le_refl 0) (Nat.le_refl 0) ⟨_, rfl, rfl, rfl, h⟩
    · have h := h.2 hc
      refine r_aload_n (x := t) d_X2_makeSpare_73 rfl o_t.1 ?_
      refine r_getf (j := 4) (t := 2) (x := t_first) d_X2_makeSpare_74 kX2 (by decide) fl_X2_29 o_t.1 o_t.2.1 o_t.2.2.1 o_t.2.2.2 rfl f_t_first ?_
      refine x_callVV (Y2 := mX5_empty) (c := t_first) (As := []) (S := []) d_X2_makeSpare_77 ok_mX5_empty ml_X2_71 rfl (Nat.le_of_ble_eq_true rfl) (Nat.le_of_ble_eq_true rfl) rfl hd_1 kX5 o_t_first (c_X5_empty (v_X5_empty_0 o_t_first ?_))
      intro τ1 eτ1
      have h := h τ1 eτ1
      show WP l mX2_makeSpare (rm d 0 0) noX _ 0 0 80 [(2, t), (0, x1), (0, x2), (0, x3), (0, x4)] [] N Λ τ1
      refine r_aload_n (x := t) d_X2_makeSpare_80 rfl o_t.1 ?_
      refine r_getf (j := 4) (t := 2) (x := t_first) d_X2_makeSpare_81 kX2 (by decide) fl_X2_29 o_t.1 o_t.2.1 o_t.2.2.1 o_t.2.2.2 rfl f_t_first ?_
      refine r_aload_n (x := t) d_X2_makeSpare_84 rfl o_t.1 ?_
      refine r_getf (j := 7) (t := 2) (x := t_secondBracket) d_X2_makeSpare_85 kX2 (by decide) fl_X2_39 o_t.1 o_t.2.1 o_t.2.2.1 o_t.2.2.2 rfl f_t_secondBracket ?_
      refine r_aload_n (x := t) d_X2_makeSpare_88 rfl o_t.1 ?_
      refine r_getf (j := 0) (t := 2) (x := t_polys) d_X2_makeSpare_89 kX2 (by decide) fl_X2_13 o_t.1 o_t.2.1 o_t.2.2.1 o_t.2.2.2 rfl f_t_polys ?_
      refine r_iload_n (x := x1) d_X2_makeSpare_92 rfl ?_
      refine r_iload (x := x4) d_X2_makeSpare_93 rfl ?_
      refine r_iadd d_X2_makeSpare_95 ?_
      refine x_aald (t := 3) (by decide) d_X2_makeSpare_96 h.1 (fun b2 eb2 => ?_)
      have h := h.2 b2 eb2
      have oob2 := h.1
      have h := h.2
      refine x_callVI (Y2 := mX5_layProduct) (c := t_first) (As := [(2, t_secondBracket), (2, b2)]) (S := []) d_X2_makeSpare_97 ok_mX5_layProduct ml_X2_73 rfl (Nat.le_of_ble_eq_true rfl) (Nat.le_of_ble_eq_true rfl) rfl hd_1 kX5 o_t_first (CI.mono h (fun v4 σ3 h => ?_))
      refine r_istore_n (L2 := [(2, t), (0, x1), (0, x2), (0, v4), (0, x4)]) d_X2_makeSpare_100 (by decide) rfl rfl ?_
      refine r_iload_n (x := v4) d_X2_makeSpare_101 rfl ?_
      refine r_if_ne (tgt := 126) d_X2_makeSpare_102 rfl (fun hc => ?_) (fun hc => ?_)
      · have h := h.1 hc
        refine x_iinc (x := x4) (L := [(2, t), (0, x1), (0, x2), (0, v4), (0, x4)]) d_X2_makeSpare_126 rfl (by decide) rfl (fun y5 ey5 => ?_)
        have h := h y5 ey5
        show WP _ _ _ _ _ _ _ _ [(2, t), (0, x1), (0, x2), (0, v4), (0, y5)] _ _ _ _
        refine r_goto (tgt := 62) d_X2_makeSpare_129 rfl ?_
        exact h
      · have h := h.2 hc
        refine r_aload_n (x := t) d_X2_makeSpare_105 rfl o_t.1 ?_
        refine r_getf (j := 0) (t := 2) (x := t_polys) d_X2_makeSpare_106 kX2 (by decide) fl_X2_13 o_t.1 o_t.2.1 o_t.2.2.1 o_t.2.2.2 rfl f_t_polys ?_
        refine r_aload_n (x := t) d_X2_makeSpare_109 rfl o_t.1 ?_
        refine r_getf (j := 3) (t := 0) (x := (σ3 t 3)) d_X2_makeSpare_110 kX2 (by decide) fl_X2_25 o_t.1 o_t.2.1 o_t.2.2.1 o_t.2.2.2 rfl rfl ?_
        refine r_iload (x := x4) d_X2_makeSpare_113 rfl ?_
        refine r_iadd d_X2_makeSpare_115 ?_
        refine x_aald (t := 3) (by decide) d_X2_makeSpare_116 h.1 (fun b6 eb6 => ?_)
        have h := h.2 b6 eb6
        have oob6 := h.1
        have h := h.2
        refine r_aload_n (x := t) d_X2_makeSpare_117 rfl o_t.1 ?_
        refine r_getf (j := 4) (t := 2) (x := t_first) d_X2_makeSpare_118 kX2 (by decide) fl_X2_29 o_t.1 o_t.2.1 o_t.2.2.1 o_t.2.2.2 rfl f_t_first ?_
        refine r_iconst (x := (-1)) d_X2_makeSpare_121 ⟨by decide, by decide⟩ ?_
        refine x_callVI (Y2 := mX5_laySum) (c := b6) (As := [(2, t_first), (0, (-1))]) (S := []) d_X2_makeSpare_122 ok_mX5_laySum ml_X2_77 rfl (Nat.le_of_ble_eq_true rfl) (Nat.le_of_ble_eq_true rfl) rfl hd_1 kX5 oob6 (CI.mono h (fun v8 σ7 h => ?_))
        refine r_istore_n (L2 := [(2, t), (0, x1), (0, x2), (0, v8), (0, x4)]) d_X2_makeSpare_125 (by decide) rfl rfl ?_
        refine x_iinc (x := x4) (L := [(2, t), (0, x1), (0, x2), (0, v8), (0, x4)]) d_X2_makeSpare_126 rfl (by decide) rfl (fun y9 ey9 => ?_)
        have h := h y9 ey9
        show WP _ _ _ _ _ _ _ _ [(2, t), (0, x1), (0, x2), (0, v8), (0, y9)] _ _ _ _
        refine r_goto (tgt := 62) d_X2_makeSpare_129 rfl ?_
        exact h
theorem v_X2_take_0 {l : Launch} {d N : Nat} {Λ : Lay} {P : Int → Mem → Prop} {σ : Mem} {x1 t t_firstBracket t_polys t_secondBracket t_stack : Int} (o_t : Ob N Λ t 12 9) (f_t_stack : (Λ t).2.2 1 = t_stack) (f_t_firstBracket : (Λ t).2.2 6 = t_firstBracket) (f_t_secondBracket : (Λ t).2.2 7 = t_secondBracket) (f_t_polys : (Λ t).2.2 0 = t_polys) (h0d : 1 ≤ d)
    (h : ((x1 < 97 → ((¬ x1 = 41 → P 0 σ) ∧ (x1 = 41 → ((4 ≤ (σ t 2) → (Ix N Λ t_stack 0 (subI (σ t 2) 4) ∧ (∀ y1, y1 = (σ t_stack (subI (σ t 2) 4)) → (Ix N Λ t_stack 0 (subI (σ t 2) 3) ∧ (∀ y2, y2 = (σ t_stack (subI (σ t 2) 3)) → (Ix N Λ t_stack 0 (subI (σ t 2) 2) ∧ (∀ y3, y3 = (σ t_stack (subI (σ t 2) 2)) → (Ix N Λ t_stack 0 (subI (σ t 2) 1) ∧ (∀ y4, y4 = (σ t_stack (subI (σ t 2) 1)) → (CI l mX2_makeBracket (d - 1) [(2, t), (2, t_firstBracket), (0, y1), (0, y3), (0, y4)] N Λ σ (fun v6 σ5 => ((¬ v6 = 0 → ((¬ v6 = 0 → (Ix N Λ t_stack 0 (subI (σ5 t 2) 4) ∧ (∀ τ7, τ7 = st σ5 t_stack (subI (σ5 t 2) 4) (σ5 t 3) → (∀ τ8, τ8 = st τ7 t 3 y1 → (∀ τ9, τ9 = st τ8 t 2 (subI (τ8 t 2) 3) → P v6 τ9))))) ∧ (v6 = 0 → (CI l mX2_makeSpare (d - 1) [(2, t), (0, y1), (0, y2)] N Λ σ5 (fun v11 σ10 => (Ix N Λ t_stack 0 (subI (σ10 t 2) 4) ∧ (∀ τ12, τ12 = st σ10 t_stack (subI (σ10 t 2) 4) (σ10 t 3) → (∀ τ13, τ13 = st τ12 t 3 y1 → (∀ τ14, τ14 = st τ13 t 2 (subI (τ13 t 2) 3) → P v11 τ14))))))))) ∧ (v6 = 0 → (CI l mX2_makeBracket (d - 1) [(2, t), (2, t_secondBracket), (0, y2), (0, y3), (0, y4)] N Λ σ5 (fun v16 σ15 => ((¬ v16 = 0 → (Ix N Λ t_stack 0 (subI (σ15 t 2) 4) ∧ (∀ τ17, τ17 = st σ15 t_stack (subI (σ15 t 2) 4) (σ15 t 3) → (∀ τ18, τ18 = st τ17 t 3 y1 → (∀ τ19, τ19 = st τ18 t 2 (subI (τ18 t 2) 3) → P v16 τ19))))) ∧ (v16 = 0 → (CI l mX2_makeSpare (d - 1) [(2, t), (0, y1), (0, y2)] N Λ σ15 (fun v21 σ20 => (Ix N Λ t_stack 0 (subI (σ20 t 2) 4) ∧ (∀ τ22, τ22 = st σ20 t_stack (subI (σ20 t 2) 4) (σ20 t 3) → (∀ τ23, τ23 = st τ22 t 3 y1 → (∀ τ24, τ24 = st τ23 t 2 (subI (τ23 t 2) 3) → P v21 τ24))))))))))))))))))))))) ∧ (¬ (4 ≤ (σ t 2)) → P 0 σ))))) ∧ (¬ (x1 < 97) → ((106 < x1 → ((¬ x1 = 41 → P 0 σ) ∧ (x1 = 41 → ((4 ≤ (σ t 2) → (Ix N Λ t_stack 0 (subI (σ t 2) 4) ∧ (∀ y25, y25 = (σ t_stack (subI (σ t 2) 4)) → (Ix N Λ t_stack 0 (subI (σ t 2) 3) ∧ (∀ y26, y26 = (σ t_stack (subI (σ t 2) 3)) → (Ix N Λ t_stack 0 (subI (σ t 2) 2) ∧ (∀ y27, y27 = (σ t_stack (subI (σ t 2) 2)) → (Ix N Λ t_stack 0 (subI (σ t 2) 1) ∧ (∀ y28, y28 = (σ t_stack (subI (σ t 2) 1)) → (CI l mX2_makeBracket (d - 1) [(2, t), (2, t_firstBracket), (0, y25), (0, y27), (0, y28)] N Λ σ (fun v30 σ29 => ((¬ v30 = 0 → ((¬ v30 = 0 → (Ix N Λ t_stack 0 (subI (σ29 t 2) 4) ∧ (∀ τ31, τ31 = st σ29 t_stack (subI (σ29 t 2) 4) (σ29 t 3) → (∀ τ32, τ32 = st τ31 t 3 y25 → (∀ τ33, τ33 = st τ32 t 2 (subI (τ32 t 2) 3) → P v30 τ33))))) ∧ (v30 = 0 → (CI l mX2_makeSpare (d - 1) [(2, t), (0, y25), (0, y26)] N Λ σ29 (fun v35 σ34 => (Ix N Λ t_stack 0 (subI (σ34 t 2) 4) ∧ (∀ τ36, τ36 = st σ34 t_stack (subI (σ34 t 2) 4) (σ34 t 3) → (∀ τ37, τ37 = st τ36 t 3 y25 → (∀ τ38, τ38 = st τ37 t 2 (subI (τ37 t 2) 3) → P v35 τ38))))))))) ∧ (v30 = 0 → (CI l mX2_makeBracket (d - 1) [(2, t), (2, t_secondBracket), (0, y26), (0, y27), (0, y28)] N Λ σ29 (fun v40 σ39 => ((¬ v40 = 0 → (Ix N Λ t_stack 0 (subI (σ39 t 2) 4) ∧ (∀ τ41, τ41 = st σ39 t_stack (subI (σ39 t 2) 4) (σ39 t 3) → (∀ τ42, τ42 = st τ41 t 3 y25 → (∀ τ43, τ43 = st τ42 t 2 (subI (τ42 t 2) 3) → P v40 τ43))))) ∧ (v40 = 0 → (CI l mX2_makeSpare (d - 1) [(2, t), (0, y25), (0, y26)] N Λ σ39 (fun v45 σ44 => (Ix N Λ t_stack 0 (subI (σ44 t 2) 4) ∧ (∀ τ46, τ46 = st σ44 t_stack (subI (σ44 t 2) 4) (σ44 t 3) → (∀ τ47, τ47 = st τ46 t 3 y25 → (∀ τ48, τ48 = st τ47 t 2 (subI (τ47 t 2) 3) → P v45 τ48))))))))))))))))))))))) ∧ (¬ (4 ≤ (σ t 2)) → P 0 σ))))) ∧ (¬ (106 < x1) → ((9 ≤ (σ t 2) → ((¬ x1 = 41 → P 0 σ) ∧ (x1 = 41 → ((4 ≤ (σ t 2) → (Ix N Λ t_stack 0 (subI (σ t 2) 4) ∧ (∀ y49, y49 = (σ t_stack (subI (σ t 2) 4)) → (Ix N Λ t_stack 0 (subI (σ t 2) 3) ∧ (∀ y50, y50 = (σ t_stack (subI (σ t 2) 3)) → (Ix N Λ t_stack 0 (subI (σ t 2) 2) ∧ (∀ y51, y51 = (σ t_stack (subI (σ t 2) 2)) → (Ix N Λ t_stack 0 (subI (σ t 2) 1) ∧ (∀ y52, y52 = (σ t_stack (subI (σ t 2) 1)) → (CI l mX2_makeBracket (d - 1) [(2, t), (2, t_firstBracket), (0, y49), (0, y51), (0, y52)] N Λ σ (fun v54 σ53 => ((¬ v54 = 0 → ((¬ v54 = 0 → (Ix N Λ t_stack 0 (subI (σ53 t 2) 4) ∧ (∀ τ55, τ55 = st σ53 t_stack (subI (σ53 t 2) 4) (σ53 t 3) → (∀ τ56, τ56 = st τ55 t 3 y49 → (∀ τ57, τ57 = st τ56 t 2 (subI (τ56 t 2) 3) → P v54 τ57))))) ∧ (v54 = 0 → (CI l mX2_makeSpare (d - 1) [(2, t), (0, y49), (0, y50)] N Λ σ53 (fun v59 σ58 => (Ix N Λ t_stack 0 (subI (σ58 t 2) 4) ∧ (∀ τ60, τ60 = st σ58 t_stack (subI (σ58 t 2) 4) (σ58 t 3) → (∀ τ61, τ61 = st τ60 t 3 y49 → (∀ τ62, τ62 = st τ61 t 2 (subI (τ61 t 2) 3) → P v59 τ62))))))))) ∧ (v54 = 0 → (CI l mX2_makeBracket (d - 1) [(2, t), (2, t_secondBracket), (0, y50), (0, y51), (0, y52)] N Λ σ53 (fun v64 σ63 => ((¬ v64 = 0 → (Ix N Λ t_stack 0 (subI (σ63 t 2) 4) ∧ (∀ τ65, τ65 = st σ63 t_stack (subI (σ63 t 2) 4) (σ63 t 3) → (∀ τ66, τ66 = st τ65 t 3 y49 → (∀ τ67, τ67 = st τ66 t 2 (subI (τ66 t 2) 3) → P v64 τ67))))) ∧ (v64 = 0 → (CI l mX2_makeSpare (d - 1) [(2, t), (0, y49), (0, y50)] N Λ σ63 (fun v69 σ68 => (Ix N Λ t_stack 0 (subI (σ68 t 2) 4) ∧ (∀ τ70, τ70 = st σ68 t_stack (subI (σ68 t 2) 4) (σ68 t 3) → (∀ τ71, τ71 = st τ70 t 3 y49 → (∀ τ72, τ72 = st τ71 t 2 (subI (τ71 t 2) 3) → P v69 τ72))))))))))))))))))))))) ∧ (¬ (4 ≤ (σ t 2)) → P 0 σ))))) ∧ (¬ (9 ≤ (σ t 2)) → (Ix N Λ t_stack 0 (σ t 2) ∧ (CV l mX2_empty (d - 1) [(2, t), (0, (σ t_stack (σ t 2)))] N Λ σ (fun σ73 => (∀ τ74, τ74 = st σ73 t 2 (addI (σ73 t 2) 1) → (Ix N Λ t_stack 0 (subI (τ74 t 2) 1) ∧ (Ix N Λ t_polys 3 (subI (addI (τ74 t_stack (subI (τ74 t 2) 1)) x1) 97) ∧ (∀ b75, b75 = (Λ t_polys).2.2 (subI (addI (τ74 t_stack (subI (τ74 t 2) 1)) x1) 97) → (Ob N Λ b75 15 3 ∧ (CI l mX5_lay (d - 1) [(2, b75), (1, 0), (1, 1)] N Λ τ74 (fun v77 σ76 => P v77 σ76))))))))))))))))) :
    WI l mX2_take d P 0 [(2, t), (0, x1), (3, 0), (3, 0), (3, 0), (3, 0), (3, 0)] [] N Λ σ := by
  have hd_1 : 1 ≤ d := Nat.le_trans (by decide) h0d
  refine r_iload_n (x := x1) d_X2_take_0 rfl ?_
  refine x_callSI (Y2 := mX9_isLetterByte) (As := [(0, x1)]) (S := []) d_X2_take_1 ok_mX9_isLetterByte ml_X2_49 rfl (Nat.le_of_ble_eq_true rfl) (Nat.le_of_ble_eq_true rfl) rfl hd_1 (c_X9_isLetterByte (v_X9_isLetterByte_0 ?_))
  refine ⟨fun hc => ?_, fun hc => ?_⟩
  · have h := h.1 hc
    show WP l mX2_take (rm d 0 0) noX _ 0 0 4 [(2, t), (0, x1), (3, 0), (3, 0), (3, 0), (3, 0), (3, 0)] [(0, 0)] N Λ σ
    refine r_if_eq (tgt := 66) d_X2_take_4 rfl (fun _ => ?_) (fun hc => absurd hc (by decide))
    refine r_iload_n (x := x1) d_X2_take_66 rfl ?_
    refine r_bipush (x := 41) d_X2_take_67 ⟨by decide, by decide⟩ (by decide) ?_
    refine r_ic_ne (tgt := 80) d_X2_take_69 rfl (fun hc => ?_) (fun hc => ?_)
    · have h := h.1 hc
      refine r_iconst (x := 0) d_X2_take_80 ⟨by decide, by decide⟩ ?_
      exact r_iret d_X2_take_81 rfl rfl (Nat.le_refl 0) (Nat.le_refl 0) ⟨_, rfl, rfl, rfl, h⟩
    · have h := h.2 hc
      refine r_aload_n (x := t) d_X2_take_72 rfl o_t.1 ?_
      refine r_getf (j := 2) (t := 0) (x := (σ t 2)) d_X2_take_73 kX2 (by decide) fl_X2_21 o_t.1 o_t.2.1 o_t.2.2.1 o_t.2.2.2 rfl rfl ?_
      refine r_iconst (x := 4) d_X2_take_76 ⟨by decide, by decide⟩ ?_
      refine r_ic_ge (tgt := 82) d_X2_take_77 rfl (fun hc => ?_) (fun hc => ?_)
      · have h := h.1 hc
        refine r_aload_n (x := t) d_X2_take_82 rfl o_t.1 ?_
        refine r_getf (j := 1) (t := 2) (x := t_stack) d_X2_take_83 kX2 (by decide) fl_X2_17 o_t.1 o_t.2.1 o_t.2.2.1 o_t.2.2.2 rfl f_t_stack ?_
        refine r_aload_n (x := t) d_X2_take_86 rfl o_t.1 ?_
        refine r_getf (j := 2) (t := 0) (x := (σ t 2)) d_X2_take_87 kX2 (by decide) fl_X2_21 o_t.1 o_t.2.1 o_t.2.2.1 o_t.2.2.2 rfl rfl ?_
        refine r_iconst (x := 4) d_X2_take_90 ⟨by decide, by decide⟩ ?_
        refine r_isub d_X2_take_91 ?_
        refine x_iald d_X2_take_92 h.1 ?_
        have h := h.2
        refine r_nm (fun y1 ey1 => ?_)
        have h := h y1 ey1
        refine r_istore_n (L2 := [(2, t), (0, x1), (0, y1), (3, 0), (3, 0), (3, 0), (3, 0)]) d_X2_take_93 (by decide) rfl rfl ?_
        refine r_aload_n (x := t) d_X2_take_94 rfl o_t.1 ?_
        refine r_getf (j := 1) (t := 2) (x := t_stack) d_X2_take_95 kX2 (by decide) fl_X2_17 o_t.1 o_t.2.1 o_t.2.2.1 o_t.2.2.2 rfl f_t_stack ?_
        refine r_aload_n (x := t) d_X2_take_98 rfl o_t.1 ?_
        refine r_getf (j := 2) (t := 0) (x := (σ t 2)) d_X2_take_99 kX2 (by decide) fl_X2_21 o_t.1 o_t.2.1 o_t.2.2.1 o_t.2.2.2 rfl rfl ?_
        refine r_iconst (x := 3) d_X2_take_102 ⟨by decide, by decide⟩ ?_
        refine r_isub d_X2_take_103 ?_
        refine x_iald d_X2_take_104 h.1 ?_
        have h := h.2
        refine r_nm (fun y2 ey2 => ?_)
        have h := h y2 ey2
        refine r_istore_n (L2 := [(2, t), (0, x1), (0, y1), (0, y2), (3, 0), (3, 0), (3, 0)]) d_X2_take_105 (by decide) rfl rfl ?_
        refine r_aload_n (x := t) d_X2_take_106 rfl o_t.1 ?_
        refine r_getf (j := 1) (t := 2) (x := t_stack) d_X2_take_107 kX2 (by decide) fl_X2_17 o_t.1 o_t.2.1 o_t.2.2.1 o_t.2.2.2 rfl f_t_stack ?_
        refine r_aload_n (x := t) d_X2_take_110 rfl o_t.1 ?_
        refine r_getf (j := 2) (t := 0) (x := (σ t 2)) d_X2_take_111 kX2 (by decide) fl_X2_21 o_t.1 o_t.2.1 o_t.2.2.1 o_t.2.2.2 rfl rfl ?_
        refine r_iconst (x := 2) d_X2_take_114 ⟨by decide, by decide⟩ ?_
        refine r_isub d_X2_take_115 ?_
        refine x_iald d_X2_take_116 h.1 ?_
        have h := h.2
        refine r_nm (fun y3 ey3 => ?_)
        have h := h y3 ey3
        refine r_istore (L2 := [(2, t), (0, x1), (0, y1), (0, y2), (0, y3), (3, 0), (3, 0)]) d_X2_take_117 (by decide) rfl rfl ?_
        refine r_aload_n (x := t) d_X2_take_119 rfl o_t.1 ?_
        refine r_getf (j := 1) (t := 2) (x := t_stack) d_X2_take_120 kX2 (by decide) fl_X2_17 o_t.1 o_t.2.1 o_t.2.2.1 o_t.2.2.2 rfl f_t_stack ?_
        refine r_aload_n (x := t) d_X2_take_123 rfl o_t.1 ?_
        refine r_getf (j := 2) (t := 0) (x := (σ t 2)) d_X2_take_124 kX2 (by decide) fl_X2_21 o_t.1 o_t.2.1 o_t.2.2.1 o_t.2.2.2 rfl rfl ?_
        refine r_iconst (x := 1) d_X2_take_127 ⟨by decide, by decide⟩ ?_
        refine r_isub d_X2_take_128 ?_
        refine x_iald d_X2_take_129 h.1 ?_
        have h := h.2
        refine r_nm (fun y4 ey4 => ?_)
        have h := h y4 ey4
        refine r_istore (L2 := [(2, t), (0, x1), (0, y1), (0, y2), (0, y3), (0, y4), (3, 0)]) d_X2_take_130 (by decide) rfl rfl ?_
        refine r_aload_n (x := t) d_X2_take_132 rfl o_t.1 ?_
        refine r_aload_n (x := t) d_X2_take_133 rfl o_t.1 ?_
        refine r_getf (j := 6) (t := 2) (x := t_firstBracket) d_X2_take_134 kX2 (by decide) fl_X2_36 o_t.1 o_t.2.1 o_t.2.2.1 o_t.2.2.2 rfl f_t_firstBracket ?_
        refine r_iload_n (x := y1) d_X2_take_137 rfl ?_
        refine r_iload (x := y3) d_X2_take_138 rfl ?_
        refine r_iload (x := y4) d_X2_take_140 rfl ?_
        refine x_callVI (Y2 := mX2_makeBracket) (c := t) (As := [(2, t_firstBracket), (0, y1), (0, y3), (0, y4)]) (S := []) d_X2_take_142 ok_mX2_makeBracket ml_X2_63 rfl (Nat.le_of_ble_eq_true rfl) (Nat.le_of_ble_eq_true rfl) rfl hd_1 kX2 o_t (CI.mono h (fun v6 σ5 h => ?_))
        refine r_istore (L2 := [(2, t), (0, x1), (0, y1), (0, y2), (0, y3), (0, y4), (0, v6)]) d_X2_take_145 (by decide) rfl rfl ?_
        refine r_iload (x := v6) d_X2_take_147 rfl ?_
        refine r_if_ne (tgt := 167) d_X2_take_149 rfl (fun hc => ?_) (fun hc => ?_)
        · have h := h.1 hc
          refine r_iload (x := v6) d_X2_take_167 rfl ?_
          refine r_if_ne (tgt := 180) d_X2_take_169 rfl (fun hc => ?_) (fun hc => ?_)
          · have h := h.1 hc
            refine r_aload_n (x := t) d_X2_take_180 rfl o_t.1 ?_
            refine r_getf (j := 1) (t := 2) (x := t_stack) d_X2_take_181 kX2 (by decide) fl_X2_17 o_t.1 o_t.2.1 o_t.2.2.1 o_t.2.2.2 rfl f_t_stack ?_
            refine r_aload_n (x := t) d_X2_take_184 rfl o_t.1 ?_
            refine r_getf (j := 2) (t := 0) (x := (σ5 t 2)) d_X2_take_185 kX2 (by decide) fl_X2_21 o_t.1 o_t.2.1 o_t.2.2.1 o_t.2.2.2 rfl rfl ?_
            refine r_iconst (x := 4) d_X2_take_188 ⟨by decide, by decide⟩ ?_
            refine r_isub d_X2_take_189 ?_
            refine r_aload_n (x := t) d_X2_take_190 rfl o_t.1 ?_
            refine r_getf (j := 3) (t := 0) (x := (σ5 t 3)) d_X2_take_191 kX2 (by decide) fl_X2_25 o_t.1 o_t.2.1 o_t.2.2.1 o_t.2.2.2 rfl rfl ?_
            refine x_iast d_X2_take_194 h.1 ?_
            have h := h.2
            refine r_nmM (fun τ7 eτ7 => ?_)
            have h := h τ7 eτ7
            refine r_aload_n (x := t) d_X2_take_195 rfl o_t.1 ?_
            refine r_iload_n (x := y1) d_X2_take_196 rfl ?_
            refine r_putI (j := 3) d_X2_take_197 kX2 (by decide) fl_X2_25 rfl o_t.1 o_t.2.1 o_t.2.2.1 o_t.2.2.2 rfl ?_
            refine r_nmM (fun τ8 eτ8 => ?_)
            have h := h τ8 eτ8
            refine r_aload_n (x := t) d_X2_take_200 rfl o_t.1 ?_
            refine r_dup d_X2_take_201 rfl ?_
            refine r_getf (j := 2) (t := 0) (x := (τ8 t 2)) d_X2_take_202 kX2 (by decide) fl_X2_21 o_t.1 o_t.2.1 o_t.2.2.1 o_t.2.2.2 rfl rfl ?_
            refine r_iconst (x := 3) d_X2_take_205 ⟨by decide, by decide⟩ ?_
            refine r_isub d_X2_take_206 ?_
            refine r_putI (j := 2) d_X2_take_207 kX2 (by decide) fl_X2_21 rfl o_t.1 o_t.2.1 o_t.2.2.1 o_t.2.2.2 rfl ?_
            refine r_nmM (fun τ9 eτ9 => ?_)
            have h := h τ9 eτ9
            refine r_iload (x := v6) d_X2_take_210 rfl ?_
            exact r_iret d_X2_take_212 rfl rfl (Nat.le_refl 0) (Nat.le_refl 0) ⟨_, rfl, rfl, rfl, h⟩
          · have h := h.2 hc
            refine r_aload_n (x := t) d_X2_take_172 rfl o_t.1 ?_
            refine r_iload_n (x := y1) d_X2_take_173 rfl ?_
            refine r_iload_n (x := y2) d_X2_take_174 rfl ?_
            refine x_callVI (Y2 := mX2_makeSpare) (c := t) (As := [(0, y1), (0, y2)]) (S := []) d_X2_take_175 ok_mX2_makeSpare ml_X2_67 rfl (Nat.le_of_ble_eq_true rfl) (Nat.le_of_ble_eq_true rfl) rfl hd_1 kX2 o_t (CI.mono h (fun v11 σ10 h => ?_))
            refine r_istore (L2 := [(2, t), (0, x1), (0, y1), (0, y2), (0, y3), (0, y4), (0, v11)]) d_X2_take_178 (by decide) rfl rfl ?_
            refine r_aload_n (x := t) d_X2_take_180 rfl o_t.1 ?_
            refine r_getf (j := 1) (t := 2) (x := t_stack) d_X2_take_181 kX2 (by decide) fl_X2_17 o_t.1 o_t.2.1 o_t.2.2.1 o_t.2.2.2 rfl f_t_stack ?_
            refine r_aload_n (x := t) d_X2_take_184 rfl o_t.1 ?_
            refine r_getf (j := 2) (t := 0) (x := (σ10 t 2)) d_X2_take_185 kX2 (by decide) fl_X2_21 o_t.1 o_t.2.1 o_t.2.2.1 o_t.2.2.2 rfl rfl ?_
            refine r_iconst (x := 4) d_X2_take_188 ⟨by decide, by decide⟩ ?_
            refine r_isub d_X2_take_189 ?_
            refine r_aload_n (x := t) d_X2_take_190 rfl o_t.1 ?_
            refine r_getf (j := 3) (t := 0) (x := (σ10 t 3)) d_X2_take_191 kX2 (by decide) fl_X2_25 o_t.1 o_t.2.1 o_t.2.2.1 o_t.2.2.2 rfl rfl ?_
            refine x_iast d_X2_take_194 h.1 ?_
            have h := h.2
            refine r_nmM (fun τ12 eτ12 => ?_)
            have h := h τ12 eτ12
            refine r_aload_n (x := t) d_X2_take_195 rfl o_t.1 ?_
            refine r_iload_n (x := y1) d_X2_take_196 rfl ?_
            refine r_putI (j := 3) d_X2_take_197 kX2 (by decide) fl_X2_25 rfl o_t.1 o_t.2.1 o_t.2.2.1 o_t.2.2.2 rfl ?_
            refine r_nmM (fun τ13 eτ13 => ?_)
            have h := h τ13 eτ13
            refine r_aload_n (x := t) d_X2_take_200 rfl o_t.1 ?_
            refine r_dup d_X2_take_201 rfl ?_
            refine r_getf (j := 2) (t := 0) (x := (τ13 t 2)) d_X2_take_202 kX2 (by decide) fl_X2_21 o_t.1 o_t.2.1 o_t.2.2.1 o_t.2.2.2 rfl rfl ?_
            refine r_iconst (x := 3) d_X2_take_205 ⟨by decide, by decide⟩ ?_
            refine r_isub d_X2_take_206 ?_
            refine r_putI (j := 2) d_X2_take_207 kX2 (by decide) fl_X2_21 rfl o_t.1 o_t.2.1 o_t.2.2.1 o_t.2.2.2 rfl ?_
            refine r_nmM (fun τ14 eτ14 => ?_)
            have h := h τ14 eτ14
            refine r_iload (x := v11) d_X2_take_210 rfl ?_
            exact r_iret d_X2_take_212 rfl rfl (Nat.le_refl 0) (Nat.le_refl 0) ⟨_, rfl, rfl, rfl, h⟩
        · have h := h.2 hc
          refine r_aload_n (x := t) d_X2_take_152 rfl o_t.1 ?_
          refine r_aload_n (x := t) d_X2_take_153 rfl o_t.1 ?_
          refine r_getf (j := 7) (t := 2) (x := t_secondBracket) d_X2_take_154 kX2 (by decide) fl_X2_39 o_t.1 o_t.2.1 o_t.2.2.1 o_t.2.2.2 rfl f_t_secondBracket ?_
          refine r_iload_n (x := y2) d_X2_take_157 rfl ?_
          refine r_iload (x := y3) d_X2_take_158 rfl ?_
          refine r_iload (x := y4) d_X2_take_160 rfl ?_
          refine x_callVI (Y2 := mX2_makeBracket) (c := t) (As := [(2, t_secondBracket), (0, y2), (0, y3), (0, y4)]) (S := []) d_X2_take_162 ok_mX2_makeBracket ml_X2_63 rfl (Nat.le_of_ble_eq_true rfl) (Nat.le_of_ble_eq_true rfl) rfl hd_1 kX2 o_t (CI.mono h (fun v16 σ15 h => ?_))
          refine r_istore (L2 := [(2, t), (0, x1), (0, y1), (0, y2), (0, y3), (0, y4), (0, v16)]) d_X2_take_165 (by decide) rfl rfl ?_
          refine r_iload (x := v16) d_X2_take_167 rfl ?_
          refine r_if_ne (tgt := 180) d_X2_take_169 rfl (fun hc => ?_) (fun hc => ?_)
          · have h := h.1 hc
            refine r_aload_n (x := t) d_X2_take_180 rfl o_t.1 ?_
            refine r_getf (j := 1) (t := 2) (x := t_stack) d_X2_take_181 kX2 (by decide) fl_X2_17 o_t.1 o_t.2.1 o_t.2.2.1 o_t.2.2.2 rfl f_t_stack ?_
            refine r_aload_n (x := t) d_X2_take_184 rfl o_t.1 ?_
            refine r_getf (j := 2) (t := 0) (x := (σ15 t 2)) d_X2_take_185 kX2 (by decide) fl_X2_21 o_t.1 o_t.2.1 o_t.2.2.1 o_t.2.2.2 rfl rfl ?_
            refine r_iconst (x := 4) d_X2_take_188 ⟨by decide, by decide⟩ ?_
            refine r_isub d_X2_take_189 ?_
            refine r_aload_n (x := t) d_X2_take_190 rfl o_t.1 ?_
            refine r_getf (j := 3) (t := 0) (x := (σ15 t 3)) d_X2_take_191 kX2 (by decide) fl_X2_25 o_t.1 o_t.2.1 o_t.2.2.1 o_t.2.2.2 rfl rfl ?_
            refine x_iast d_X2_take_194 h.1 ?_
            have h := h.2
            refine r_nmM (fun τ17 eτ17 => ?_)
            have h := h τ17 eτ17
            refine r_aload_n (x := t) d_X2_take_195 rfl o_t.1 ?_
            refine r_iload_n (x := y1) d_X2_take_196 rfl ?_
            refine r_putI (j := 3) d_X2_take_197 kX2 (by decide) fl_X2_25 rfl o_t.1 o_t.2.1 o_t.2.2.1 o_t.2.2.2 rfl ?_
            refine r_nmM (fun τ18 eτ18 => ?_)
            have h := h τ18 eτ18
            refine r_aload_n (x := t) d_X2_take_200 rfl o_t.1 ?_
            refine r_dup d_X2_take_201 rfl ?_
            refine r_getf (j := 2) (t := 0) (x := (τ18 t 2)) d_X2_take_202 kX2 (by decide) fl_X2_21 o_t.1 o_t.2.1 o_t.2.2.1 o_t.2.2.2 rfl rfl ?_
            refine r_iconst (x := 3) d_X2_take_205 ⟨by decide, by decide⟩ ?_
            refine r_isub d_X2_take_206 ?_
            refine r_putI (j := 2) d_X2_take_207 kX2 (by decide) fl_X2_21 rfl o_t.1 o_t.2.1 o_t.2.2.1 o_t.2.2.2 rfl ?_
            refine r_nmM (fun τ19 eτ19 => ?_)
            have h := h τ19 eτ19
            refine r_iload (x := v16) d_X2_take_210 rfl ?_
            exact r_iret d_X2_take_212 rfl rfl (Nat.le_refl 0) (Nat.le_refl 0) ⟨_, rfl, rfl, rfl, h⟩
          · have h := h.2 hc
            refine r_aload_n (x := t) d_X2_take_172 rfl o_t.1 ?_
            refine r_iload_n (x := y1) d_X2_take_173 rfl ?_
            refine r_iload_n (x := y2) d_X2_take_174 rfl ?_
            refine x_callVI (Y2 := mX2_makeSpare) (c := t) (As := [(0, y1), (0, y2)]) (S := []) d_X2_take_175 ok_mX2_makeSpare ml_X2_67 rfl (Nat.le_of_ble_eq_true rfl) (Nat.le_of_ble_eq_true rfl) rfl hd_1 kX2 o_t (CI.mono h (fun v21 σ20 h => ?_))
            refine r_istore (L2 := [(2, t), (0, x1), (0, y1), (0, y2), (0, y3), (0, y4), (0, v21)]) d_X2_take_178 (by decide) rfl rfl ?_
            refine r_aload_n (x := t) d_X2_take_180 rfl o_t.1 ?_
            refine r_getf (j := 1) (t := 2) (x := t_stack) d_X2_take_181 kX2 (by decide) fl_X2_17 o_t.1 o_t.2.1 o_t.2.2.1 o_t.2.2.2 rfl f_t_stack ?_
            refine r_aload_n (x := t) d_X2_take_184 rfl o_t.1 ?_
            refine r_getf (j := 2) (t := 0) (x := (σ20 t 2)) d_X2_take_185 kX2 (by decide) fl_X2_21 o_t.1 o_t.2.1 o_t.2.2.1 o_t.2.2.2 rfl rfl ?_
            refine r_iconst (x := 4) d_X2_take_188 ⟨by decide, by decide⟩ ?_
            refine r_isub d_X2_take_189 ?_
            refine r_aload_n (x := t) d_X2_take_190 rfl o_t.1 ?_
            refine r_getf (j := 3) (t := 0) (x := (σ20 t 3)) d_X2_take_191 kX2 (by decide) fl_X2_25 o_t.1 o_t.2.1 o_t.2.2.1 o_t.2.2.2 rfl rfl ?_
            refine x_iast d_X2_take_194 h.1 ?_
            have h := h.2
            refine r_nmM (fun τ22 eτ22 => ?_)
            have h := h τ22 eτ22
            refine r_aload_n (x := t) d_X2_take_195 rfl o_t.1 ?_
            refine r_iload_n (x := y1) d_X2_take_196 rfl ?_
            refine r_putI (j := 3) d_X2_take_197 kX2 (by decide) fl_X2_25 rfl o_t.1 o_t.2.1 o_t.2.2.1 o_t.2.2.2 rfl ?_
            refine r_nmM (fun τ23 eτ23 => ?_)
            have h := h τ23 eτ23
            refine r_aload_n (x := t) d_X2_take_200 rfl o_t.1 ?_
            refine r_dup d_X2_take_201 rfl ?_
            refine r_getf (j := 2) (t := 0) (x := (τ23 t 2)) d_X2_take_202 kX2 (by decide) fl_X2_21 o_t.1 o_t.2.1 o_t.2.2.1 o_t.2.2.2 rfl rfl ?_
            refine r_iconst (x := 3) d_X2_take_205 ⟨by decide, by decide⟩ ?_
            refine r_isub d_X2_take_206 ?_
            refine r_putI (j := 2) d_X2_take_207 kX2 (by decide) fl_X2_21 rfl o_t.1 o_t.2.1 o_t.2.2.1 o_t.2.2.2 rfl ?_
            refine r_nmM (fun τ24 eτ24 => ?_)
            have h := h τ24 eτ24
            refine r_iload (x := v21) d_X2_take_210 rfl ?_
            exact r_iret d_X2_take_212 rfl rfl (Nat.le_refl 0) (Nat.le_refl 0) ⟨_, rfl, rfl, rfl, h⟩
      · have h := h.2 hc
        refine r_iconst (x := 0) d_X2_take_80 ⟨by decide, by decide⟩ ?_
        exact r_iret d_X2_take_81 rfl rfl (Nat.le_refl 0) (Nat.le_refl 0) ⟨_, rfl, rfl, rfl, h⟩
  · have h := h.2 hc
    refine ⟨fun hc => ?_, fun hc => ?_⟩
    · have h := h.1 hc
      show WP l mX2_take (rm d 0 0) noX _ 0 0 4 [(2, t), (0, x1), (3, 0), (3, 0), (3, 0), (3, 0), (3, 0)] [(0, 0)] N Λ σ
      refine r_if_eq (tgt := 66) d_X2_take_4 rfl (fun _ => ?_) (fun hc => absurd hc (by decide))
      refine r_iload_n (x := x1) d_X2_take_66 rfl ?_
      refine r_bipush (x := 41) d_X2_take_67 ⟨by decide, by decide⟩ (by decide) ?_
      refine r_ic_ne (tgt := 80) d_X2_take_69 rfl (fun hc => ?_) (fun hc => ?_)
      · have h := h.1 hc
        refine r_iconst (x := 0) d_X2_take_80 ⟨by decide, by decide⟩ ?_
        exact r_iret d_X2_take_81 rfl rfl (Nat.le_refl 0) (Nat.le_refl 0) ⟨_, rfl, rfl, rfl, h⟩
      · have h := h.2 hc
        refine r_aload_n (x := t) d_X2_take_72 rfl o_t.1 ?_
        refine r_getf (j := 2) (t := 0) (x := (σ t 2)) d_X2_take_73 kX2 (by decide) fl_X2_21 o_t.1 o_t.2.1 o_t.2.2.1 o_t.2.2.2 rfl rfl ?_
        refine r_iconst (x := 4) d_X2_take_76 ⟨by decide, by decide⟩ ?_
        refine r_ic_ge (tgt := 82) d_X2_take_77 rfl (fun hc => ?_) (fun hc => ?_)
        · have h := h.1 hc
          refine r_aload_n (x := t) d_X2_take_82 rfl o_t.1 ?_
          refine r_getf (j := 1) (t := 2) (x := t_stack) d_X2_take_83 kX2 (by decide) fl_X2_17 o_t.1 o_t.2.1 o_t.2.2.1 o_t.2.2.2 rfl f_t_stack ?_
          refine r_aload_n (x := t) d_X2_take_86 rfl o_t.1 ?_
          refine r_getf (j := 2) (t := 0) (x := (σ t 2)) d_X2_take_87 kX2 (by decide) fl_X2_21 o_t.1 o_t.2.1 o_t.2.2.1 o_t.2.2.2 rfl rfl ?_
          refine r_iconst (x := 4) d_X2_take_90 ⟨by decide, by decide⟩ ?_
          refine r_isub d_X2_take_91 ?_
          refine x_iald d_X2_take_92 h.1 ?_
          have h := h.2
          refine r_nm (fun y25 ey25 => ?_)
          have h := h y25 ey25
          refine r_istore_n (L2 := [(2, t), (0, x1), (0, y25), (3, 0), (3, 0), (3, 0), (3, 0)]) d_X2_take_93 (by decide) rfl rfl ?_
          refine r_aload_n (x := t) d_X2_take_94 rfl o_t.1 ?_
          refine r_getf (j := 1) (t := 2) (x := t_stack) d_X2_take_95 kX2 (by decide) fl_X2_17 o_t.1 o_t.2.1 o_t.2.2.1 o_t.2.2.2 rfl f_t_stack ?_
          refine r_aload_n (x := t) d_X2_take_98 rfl o_t.1 ?_
          refine r_getf (j := 2) (t := 0) (x := (σ t 2)) d_X2_take_99 kX2 (by decide) fl_X2_21 o_t.1 o_t.2.1 o_t.2.2.1 o_t.2.2.2 rfl rfl ?_
          refine r_iconst (x := 3) d_X2_take_102 ⟨by decide, by decide⟩ ?_
          refine r_isub d_X2_take_103 ?_
          refine x_iald d_X2_take_104 h.1 ?_
          have h := h.2
          refine r_nm (fun y26 ey26 => ?_)
          have h := h y26 ey26
          refine r_istore_n (L2 := [(2, t), (0, x1), (0, y25), (0, y26), (3, 0), (3, 0), (3, 0)]) d_X2_take_105 (by decide) rfl rfl ?_
          refine r_aload_n (x := t) d_X2_take_106 rfl o_t.1 ?_
          refine r_getf (j := 1) (t := 2) (x := t_stack) d_X2_take_107 kX2 (by decide) fl_X2_17 o_t.1 o_t.2.1 o_t.2.2.1 o_t.2.2.2 rfl f_t_stack ?_
          refine r_aload_n (x := t) d_X2_take_110 rfl o_t.1 ?_
          refine r_getf (j := 2) (t := 0) (x := (σ t 2)) d_X2_take_111 kX2 (by decide) fl_X2_21 o_t.1 o_t.2.1 o_t.2.2.1 o_t.2.2.2 rfl rfl ?_
          refine r_iconst (x := 2) d_X2_take_114 ⟨by decide, by decide⟩ ?_
          refine r_isub d_X2_take_115 ?_
          refine x_iald d_X2_take_116 h.1 ?_
          have h := h.2
          refine r_nm (fun y27 ey27 => ?_)
          have h := h y27 ey27
          refine r_istore (L2 := [(2, t), (0, x1), (0, y25), (0, y26), (0, y27), (3, 0), (3, 0)]) d_X2_take_117 (by decide) rfl rfl ?_
          refine r_aload_n (x := t) d_X2_take_119 rfl o_t.1 ?_
          refine r_getf (j := 1) (t := 2) (x := t_stack) d_X2_take_120 kX2 (by decide) fl_X2_17 o_t.1 o_t.2.1 o_t.2.2.1 o_t.2.2.2 rfl f_t_stack ?_
          refine r_aload_n (x := t) d_X2_take_123 rfl o_t.1 ?_
          refine r_getf (j := 2) (t := 0) (x := (σ t 2)) d_X2_take_124 kX2 (by decide) fl_X2_21 o_t.1 o_t.2.1 o_t.2.2.1 o_t.2.2.2 rfl rfl ?_
          refine r_iconst (x := 1) d_X2_take_127 ⟨by decide, by decide⟩ ?_
          refine r_isub d_X2_take_128 ?_
          refine x_iald d_X2_take_129 h.1 ?_
          have h := h.2
          refine r_nm (fun y28 ey28 => ?_)
          have h := h y28 ey28
          refine r_istore (L2 := [(2, t), (0, x1), (0, y25), (0, y26), (0, y27), (0, y28), (3, 0)]) d_X2_take_130 (by decide) rfl rfl ?_
          refine r_aload_n (x := t) d_X2_take_132 rfl o_t.1 ?_
          refine r_aload_n (x := t) d_X2_take_133 rfl o_t.1 ?_
          refine r_getf (j := 6) (t := 2) (x := t_firstBracket) d_X2_take_134 kX2 (by decide) fl_X2_36 o_t.1 o_t.2.1 o_t.2.2.1 o_t.2.2.2 rfl f_t_firstBracket ?_
          refine r_iload_n (x := y25) d_X2_take_137 rfl ?_
          refine r_iload (x := y27) d_X2_take_138 rfl ?_
          refine r_iload (x := y28) d_X2_take_140 rfl ?_
          refine x_callVI (Y2 := mX2_makeBracket) (c := t) (As := [(2, t_firstBracket), (0, y25), (0, y27), (0, y28)]) (S := []) d_X2_take_142 ok_mX2_makeBracket ml_X2_63 rfl (Nat.le_of_ble_eq_true rfl) (Nat.le_of_ble_eq_true rfl) rfl hd_1 kX2 o_t (CI.mono h (fun v30 σ29 h => ?_))
          refine r_istore (L2 := [(2, t), (0, x1), (0, y25), (0, y26), (0, y27), (0, y28), (0, v30)]) d_X2_take_145 (by decide) rfl rfl ?_
          refine r_iload (x := v30) d_X2_take_147 rfl ?_
          refine r_if_ne (tgt := 167) d_X2_take_149 rfl (fun hc => ?_) (fun hc => ?_)
          · have h := h.1 hc
            refine r_iload (x := v30) d_X2_take_167 rfl ?_
            refine r_if_ne (tgt := 180) d_X2_take_169 rfl (fun hc => ?_) (fun hc => ?_)
            · have h := h.1 hc
              refine r_aload_n (x := t) d_X2_take_180 rfl o_t.1 ?_
              refine r_getf (j := 1) (t := 2) (x := t_stack) d_X2_take_181 kX2 (by decide) fl_X2_17 o_t.1 o_t.2.1 o_t.2.2.1 o_t.2.2.2 rfl f_t_stack ?_
              refine r_aload_n (x := t) d_X2_take_184 rfl o_t.1 ?_
              refine r_getf (j := 2) (t := 0) (x := (σ29 t 2)) d_X2_take_185 kX2 (by decide) fl_X2_21 o_t.1 o_t.2.1 o_t.2.2.1 o_t.2.2.2 rfl rfl ?_
              refine r_iconst (x := 4) d_X2_take_188 ⟨by decide, by decide⟩ ?_
              refine r_isub d_X2_take_189 ?_
              refine r_aload_n (x := t) d_X2_take_190 rfl o_t.1 ?_
              refine r_getf (j := 3) (t := 0) (x := (σ29 t 3)) d_X2_take_191 kX2 (by decide) fl_X2_25 o_t.1 o_t.2.1 o_t.2.2.1 o_t.2.2.2 rfl rfl ?_
              refine x_iast d_X2_take_194 h.1 ?_
              have h := h.2
              refine r_nmM (fun τ31 eτ31 => ?_)
              have h := h τ31 eτ31
              refine r_aload_n (x := t) d_X2_take_195 rfl o_t.1 ?_
              refine r_iload_n (x := y25) d_X2_take_196 rfl ?_
              refine r_putI (j := 3) d_X2_take_197 kX2 (by decide) fl_X2_25 rfl o_t.1 o_t.2.1 o_t.2.2.1 o_t.2.2.2 rfl ?_
              refine r_nmM (fun τ32 eτ32 => ?_)
              have h := h τ32 eτ32
              refine r_aload_n (x := t) d_X2_take_200 rfl o_t.1 ?_
              refine r_dup d_X2_take_201 rfl ?_
              refine r_getf (j := 2) (t := 0) (x := (τ32 t 2)) d_X2_take_202 kX2 (by decide) fl_X2_21 o_t.1 o_t.2.1 o_t.2.2.1 o_t.2.2.2 rfl rfl ?_
              refine r_iconst (x := 3) d_X2_take_205 ⟨by decide, by decide⟩ ?_
              refine r_isub d_X2_take_206 ?_
              refine r_putI (j := 2) d_X2_take_207 kX2 (by decide) fl_X2_21 rfl o_t.1 o_t.2.1 o_t.2.2.1 o_t.2.2.2 rfl ?_
              refine r_nmM (fun τ33 eτ33 => ?_)
              have h := h τ33 eτ33
              refine r_iload (x := v30) d_X2_take_210 rfl ?_
              exact r_iret d_X2_take_212 rfl rfl (Nat.le_refl 0) (Nat.le_refl 0) ⟨_, rfl, rfl, rfl, h⟩
            · have h := h.2 hc
              refine r_aload_n (x := t) d_X2_take_172 rfl o_t.1 ?_
              refine r_iload_n (x := y25) d_X2_take_173 rfl ?_
              refine r_iload_n (x := y26) d_X2_take_174 rfl ?_
              refine x_callVI (Y2 := mX2_makeSpare) (c := t) (As := [(0, y25), (0, y26)]) (S := []) d_X2_take_175 ok_mX2_makeSpare ml_X2_67 rfl (Nat.le_of_ble_eq_true rfl) (Nat.le_of_ble_eq_true rfl) rfl hd_1 kX2 o_t (CI.mono h (fun v35 σ34 h => ?_))
              refine r_istore (L2 := [(2, t), (0, x1), (0, y25), (0, y26), (0, y27), (0, y28), (0, v35)]) d_X2_take_178 (by decide) rfl rfl ?_
              refine r_aload_n (x := t) d_X2_take_180 rfl o_t.1 ?_
              refine r_getf (j := 1) (t := 2) (x := t_stack) d_X2_take_181 kX2 (by decide) fl_X2_17 o_t.1 o_t.2.1 o_t.2.2.1 o_t.2.2.2 rfl f_t_stack ?_
              refine r_aload_n (x := t) d_X2_take_184 rfl o_t.1 ?_
              refine r_getf (j := 2) (t := 0) (x := (σ34 t 2)) d_X2_take_185 kX2 (by decide) fl_X2_21 o_t.1 o_t.2.1 o_t.2.2.1 o_t.2.2.2 rfl rfl ?_
              refine r_iconst (x := 4) d_X2_take_188 ⟨by decide, by decide⟩ ?_
              refine r_isub d_X2_take_189 ?_
              refine r_aload_n (x := t) d_X2_take_190 rfl o_t.1 ?_
              refine r_getf (j := 3) (t := 0) (x := (σ34 t 3)) d_X2_take_191 kX2 (by decide) fl_X2_25 o_t.1 o_t.2.1 o_t.2.2.1 o_t.2.2.2 rfl rfl ?_
              refine x_iast d_X2_take_194 h.1 ?_
              have h := h.2
              refine r_nmM (fun τ36 eτ36 => ?_)
              have h := h τ36 eτ36
              refine r_aload_n (x := t) d_X2_take_195 rfl o_t.1 ?_
              refine r_iload_n (x := y25) d_X2_take_196 rfl ?_
              refine r_putI (j := 3) d_X2_take_197 kX2 (by decide) fl_X2_25 rfl o_t.1 o_t.2.1 o_t.2.2.1 o_t.2.2.2 rfl ?_
              refine r_nmM (fun τ37 eτ37 => ?_)
              have h := h τ37 eτ37
              refine r_aload_n (x := t) d_X2_take_200 rfl o_t.1 ?_
              refine r_dup d_X2_take_201 rfl ?_
              refine r_getf (j := 2) (t := 0) (x := (τ37 t 2)) d_X2_take_202 kX2 (by decide) fl_X2_21 o_t.1 o_t.2.1 o_t.2.2.1 o_t.2.2.2 rfl rfl ?_
              refine r_iconst (x := 3) d_X2_take_205 ⟨by decide, by decide⟩ ?_
              refine r_isub d_X2_take_206 ?_
              refine r_putI (j := 2) d_X2_take_207 kX2 (by decide) fl_X2_21 rfl o_t.1 o_t.2.1 o_t.2.2.1 o_t.2.2.2 rfl ?_
              refine r_nmM (fun τ38 eτ38 => ?_)
              have h := h τ38 eτ38
              refine r_iload (x := v35) d_X2_take_210 rfl ?_
              exact r_iret d_X2_take_212 rfl rfl (Nat.le_refl 0) (Nat.le_refl 0) ⟨_, rfl, rfl, rfl, h⟩
          · have h := h.2 hc
            refine r_aload_n (x := t) d_X2_take_152 rfl o_t.1 ?_
            refine r_aload_n (x := t) d_X2_take_153 rfl o_t.1 ?_
            refine r_getf (j := 7) (t := 2) (x := t_secondBracket) d_X2_take_154 kX2 (by decide) fl_X2_39 o_t.1 o_t.2.1 o_t.2.2.1 o_t.2.2.2 rfl f_t_secondBracket ?_
            refine r_iload_n (x := y26) d_X2_take_157 rfl ?_
            refine r_iload (x := y27) d_X2_take_158 rfl ?_
            refine r_iload (x := y28) d_X2_take_160 rfl ?_
            refine x_callVI (Y2 := mX2_makeBracket) (c := t) (As := [(2, t_secondBracket), (0, y26), (0, y27), (0, y28)]) (S := []) d_X2_take_162 ok_mX2_makeBracket ml_X2_63 rfl (Nat.le_of_ble_eq_true rfl) (Nat.le_of_ble_eq_true rfl) rfl hd_1 kX2 o_t (CI.mono h (fun v40 σ39 h => ?_))
            refine r_istore (L2 := [(2, t), (0, x1), (0, y25), (0, y26), (0, y27), (0, y28), (0, v40)]) d_X2_take_165 (by decide) rfl rfl ?_
            refine r_iload (x := v40) d_X2_take_167 rfl ?_
            refine r_if_ne (tgt := 180) d_X2_take_169 rfl (fun hc => ?_) (fun hc => ?_)
            · have h := h.1 hc
              refine r_aload_n (x := t) d_X2_take_180 rfl o_t.1 ?_
              refine r_getf (j := 1) (t := 2) (x := t_stack) d_X2_take_181 kX2 (by decide) fl_X2_17 o_t.1 o_t.2.1 o_t.2.2.1 o_t.2.2.2 rfl f_t_stack ?_
              refine r_aload_n (x := t) d_X2_take_184 rfl o_t.1 ?_
              refine r_getf (j := 2) (t := 0) (x := (σ39 t 2)) d_X2_take_185 kX2 (by decide) fl_X2_21 o_t.1 o_t.2.1 o_t.2.2.1 o_t.2.2.2 rfl rfl ?_
              refine r_iconst (x := 4) d_X2_take_188 ⟨by decide, by decide⟩ ?_
              refine r_isub d_X2_take_189 ?_
              refine r_aload_n (x := t) d_X2_take_190 rfl o_t.1 ?_
              refine r_getf (j := 3) (t := 0) (x := (σ39 t 3)) d_X2_take_191 kX2 (by decide) fl_X2_25 o_t.1 o_t.2.1 o_t.2.2.1 o_t.2.2.2 rfl rfl ?_
              refine x_iast d_X2_take_194 h.1 ?_
              have h := h.2
              refine r_nmM (fun τ41 eτ41 => ?_)
              have h := h τ41 eτ41
              refine r_aload_n (x := t) d_X2_take_195 rfl o_t.1 ?_
              refine r_iload_n (x := y25) d_X2_take_196 rfl ?_
              refine r_putI (j := 3) d_X2_take_197 kX2 (by decide) fl_X2_25 rfl o_t.1 o_t.2.1 o_t.2.2.1 o_t.2.2.2 rfl ?_
              refine r_nmM (fun τ42 eτ42 => ?_)
              have h := h τ42 eτ42
              refine r_aload_n (x := t) d_X2_take_200 rfl o_t.1 ?_
              refine r_dup d_X2_take_201 rfl ?_
              refine r_getf (j := 2) (t := 0) (x := (τ42 t 2)) d_X2_take_202 kX2 (by decide) fl_X2_21 o_t.1 o_t.2.1 o_t.2.2.1 o_t.2.2.2 rfl rfl ?_
              refine r_iconst (x := 3) d_X2_take_205 ⟨by decide, by decide⟩ ?_
              refine r_isub d_X2_take_206 ?_
              refine r_putI (j := 2) d_X2_take_207 kX2 (by decide) fl_X2_21 rfl o_t.1 o_t.2.1 o_t.2.2.1 o_t.2.2.2 rfl ?_
              refine r_nmM (fun τ43 eτ43 => ?_)
              have h := h τ43 eτ43
              refine r_iload (x := v40) d_X2_take_210 rfl ?_
              exact r_iret d_X2_take_212 rfl rfl (Nat.le_refl 0) (Nat.le_refl 0) ⟨_, rfl, rfl, rfl, h⟩
            · have h := h.2 hc
              refine r_aload_n (x := t) d_X2_take_172 rfl o_t.1 ?_
              refine r_iload_n (x := y25) d_X2_take_173 rfl ?_
              refine r_iload_n (x := y26) d_X2_take_174 rfl ?_
              refine x_callVI (Y2 := mX2_makeSpare) (c := t) (As := [(0, y25), (0, y26)]) (S := []) d_X2_take_175 ok_mX2_makeSpare ml_X2_67 rfl (Nat.le_of_ble_eq_true rfl) (Nat.le_of_ble_eq_true rfl) rfl hd_1 kX2 o_t (CI.mono h (fun v45 σ44 h => ?_))
              refine r_istore (L2 := [(2, t), (0, x1), (0, y25), (0, y26), (0, y27), (0, y28), (0, v45)]) d_X2_take_178 (by decide) rfl rfl ?_
              refine r_aload_n (x := t) d_X2_take_180 rfl o_t.1 ?_
              refine r_getf (j := 1) (t := 2) (x := t_stack) d_X2_take_181 kX2 (by decide) fl_X2_17 o_t.1 o_t.2.1 o_t.2.2.1 o_t.2.2.2 rfl f_t_stack ?_
              refine r_aload_n (x := t) d_X2_take_184 rfl o_t.1 ?_
              refine r_getf (j := 2) (t := 0) (x := (σ44 t 2)) d_X2_take_185 kX2 (by decide) fl_X2_21 o_t.1 o_t.2.1 o_t.2.2.1 o_t.2.2.2 rfl rfl ?_
              refine r_iconst (x := 4) d_X2_take_188 ⟨by decide, by decide⟩ ?_
              refine r_isub d_X2_take_189 ?_
              refine r_aload_n (x := t) d_X2_take_190 rfl o_t.1 ?_
              refine r_getf (j := 3) (t := 0) (x := (σ44 t 3)) d_X2_take_191 kX2 (by decide) fl_X2_25 o_t.1 o_t.2.1 o_t.2.2.1 o_t.2.2.2 rfl rfl ?_
              refine x_iast d_X2_take_194 h.1 ?_
              have h := h.2
              refine r_nmM (fun τ46 eτ46 => ?_)
              have h := h τ46 eτ46
              refine r_aload_n (x := t) d_X2_take_195 rfl o_t.1 ?_
              refine r_iload_n (x := y25) d_X2_take_196 rfl ?_
              refine r_putI (j := 3) d_X2_take_197 kX2 (by decide) fl_X2_25 rfl o_t.1 o_t.2.1 o_t.2.2.1 o_t.2.2.2 rfl ?_
              refine r_nmM (fun τ47 eτ47 => ?_)
              have h := h τ47 eτ47
              refine r_aload_n (x := t) d_X2_take_200 rfl o_t.1 ?_
              refine r_dup d_X2_take_201 rfl ?_
              refine r_getf (j := 2) (t := 0) (x := (τ47 t 2)) d_X2_take_202 kX2 (by decide) fl_X2_21 o_t.1 o_t.2.1 o_t.2.2.1 o_t.2.2.2 rfl rfl ?_
              refine r_iconst (x := 3) d_X2_take_205 ⟨by decide, by decide⟩ ?_
              refine r_isub d_X2_take_206 ?_
              refine r_putI (j := 2) d_X2_take_207 kX2 (by decide) fl_X2_21 rfl o_t.1 o_t.2.1 o_t.2.2.1 o_t.2.2.2 rfl ?_
              refine r_nmM (fun τ48 eτ48 => ?_)
              have h := h τ48 eτ48
              refine r_iload (x := v45) d_X2_take_210 rfl ?_
              exact r_iret d_X2_take_212 rfl rfl (Nat.le_refl 0) (Nat.le_refl 0) ⟨_, rfl, rfl, rfl, h⟩
        · have h := h.2 hc
          refine r_iconst (x := 0) d_X2_take_80 ⟨by decide, by decide⟩ ?_
          exact r_iret d_X2_take_81 rfl rfl (Nat.le_refl 0) (Nat.le_refl 0) ⟨_, rfl, rfl, rfl, h⟩
    · have h := h.2 hc
      show WP l mX2_take (rm d 0 0) noX _ 0 0 4 [(2, t), (0, x1), (3, 0), (3, 0), (3, 0), (3, 0), (3, 0)] [(0, 1)] N Λ σ
      refine r_if_eq (tgt := 66) d_X2_take_4 rfl (fun hc => absurd hc (by decide)) (fun _ => ?_)
      refine r_aload_n (x := t) d_X2_take_7 rfl o_t.1 ?_
      refine r_getf (j := 2) (t := 0) (x := (σ t 2)) d_X2_take_8 kX2 (by decide) fl_X2_21 o_t.1 o_t.2.1 o_t.2.2.1 o_t.2.2.2 rfl rfl ?_
      refine r_bipush (x := 9) d_X2_take_11 ⟨by decide, by decide⟩ (by decide) ?_
      refine r_ic_ge (tgt := 66) d_X2_take_13 rfl (fun hc => ?_) (fun hc => ?_)
      · have h := h.1 hc
        refine r_iload_n (x := x1) d_X2_take_66 rfl ?_
        refine r_bipush (x := 41) d_X2_take_67 ⟨by decide, by decide⟩ (by decide) ?_
        refine r_ic_ne (tgt := 80) d_X2_take_69 rfl (fun hc => ?_) (fun hc => ?_)
        · have h := h.1 hc
          refine r_iconst (x := 0) d_X2_take_80 ⟨by decide, by decide⟩ ?_
          exact r_iret d_X2_take_81 rfl rfl (Nat.le_refl 0) (Nat.le_refl 0) ⟨_, rfl, rfl, rfl, h⟩
        · have h := h.2 hc
          refine r_aload_n (x := t) d_X2_take_72 rfl o_t.1 ?_
          refine r_getf (j := 2) (t := 0) (x := (σ t 2)) d_X2_take_73 kX2 (by decide) fl_X2_21 o_t.1 o_t.2.1 o_t.2.2.1 o_t.2.2.2 rfl rfl ?_
          refine r_iconst (x := 4) d_X2_take_76 ⟨by decide, by decide⟩ ?_
          refine r_ic_ge (tgt := 82) d_X2_take_77 rfl (fun hc => ?_) (fun hc => ?_)
          · have h := h.1 hc
            refine r_aload_n (x := t) d_X2_take_82 rfl o_t.1 ?_
            refine r_getf (j := 1) (t := 2) (x := t_stack) d_X2_take_83 kX2 (by decide) fl_X2_17 o_t.1 o_t.2.1 o_t.2.2.1 o_t.2.2.2 rfl f_t_stack ?_
            refine r_aload_n (x := t) d_X2_take_86 rfl o_t.1 ?_
            refine r_getf (j := 2) (t := 0) (x := (σ t 2)) d_X2_take_87 kX2 (by decide) fl_X2_21 o_t.1 o_t.2.1 o_t.2.2.1 o_t.2.2.2 rfl rfl ?_
            refine r_iconst (x := 4) d_X2_take_90 ⟨by decide, by decide⟩ ?_
            refine r_isub d_X2_take_91 ?_
            refine x_iald d_X2_take_92 h.1 ?_
            have h := h.2
            refine r_nm (fun y49 ey49 => ?_)
            have h := h y49 ey49
            refine r_istore_n (L2 := [(2, t), (0, x1), (0, y49), (3, 0), (3, 0), (3, 0), (3, 0)]) d_X2_take_93 (by decide) rfl rfl ?_
            refine r_aload_n (x := t) d_X2_take_94 rfl o_t.1 ?_
            refine r_getf (j := 1) (t := 2) (x := t_stack) d_X2_take_95 kX2 (by decide) fl_X2_17 o_t.1 o_t.2.1 o_t.2.2.1 o_t.2.2.2 rfl f_t_stack ?_
            refine r_aload_n (x := t) d_X2_take_98 rfl o_t.1 ?_
            refine r_getf (j := 2) (t := 0) (x := (σ t 2)) d_X2_take_99 kX2 (by decide) fl_X2_21 o_t.1 o_t.2.1 o_t.2.2.1 o_t.2.2.2 rfl rfl ?_
            refine r_iconst (x := 3) d_X2_take_102 ⟨by decide, by decide⟩ ?_
            refine r_isub d_X2_take_103 ?_
            refine x_iald d_X2_take_104 h.1 ?_
            have h := h.2
            refine r_nm (fun y50 ey50 => ?_)
            have h := h y50 ey50
            refine r_istore_n (L2 := [(2, t), (0, x1), (0, y49), (0, y50), (3, 0), (3, 0), (3, 0)]) d_X2_take_105 (by decide) rfl rfl ?_
            refine r_aload_n (x := t) d_X2_take_106 rfl o_t.1 ?_
            refine r_getf (j := 1) (t := 2) (x := t_stack) d_X2_take_107 kX2 (by decide) fl_X2_17 o_t.1 o_t.2.1 o_t.2.2.1 o_t.2.2.2 rfl f_t_stack ?_
            refine r_aload_n (x := t) d_X2_take_110 rfl o_t.1 ?_
            refine r_getf (j := 2) (t := 0) (x := (σ t 2)) d_X2_take_111 kX2 (by decide) fl_X2_21 o_t.1 o_t.2.1 o_t.2.2.1 o_t.2.2.2 rfl rfl ?_
            refine r_iconst (x := 2) d_X2_take_114 ⟨by decide, by decide⟩ ?_
            refine r_isub d_X2_take_115 ?_
            refine x_iald d_X2_take_116 h.1 ?_
            have h := h.2
            refine r_nm (fun y51 ey51 => ?_)
            have h := h y51 ey51
            refine r_istore (L2 := [(2, t), (0, x1), (0, y49), (0, y50), (0, y51), (3, 0), (3, 0)]) d_X2_take_117 (by decide) rfl rfl ?_
            refine r_aload_n (x := t) d_X2_take_119 rfl o_t.1 ?_
            refine r_getf (j := 1) (t := 2) (x := t_stack) d_X2_take_120 kX2 (by decide) fl_X2_17 o_t.1 o_t.2.1 o_t.2.2.1 o_t.2.2.2 rfl f_t_stack ?_
            refine r_aload_n (x := t) d_X2_take_123 rfl o_t.1 ?_
            refine r_getf (j := 2) (t := 0) (x := (σ t 2)) d_X2_take_124 kX2 (by decide) fl_X2_21 o_t.1 o_t.2.1 o_t.2.2.1 o_t.2.2.2 rfl rfl ?_
            refine r_iconst (x := 1) d_X2_take_127 ⟨by decide, by decide⟩ ?_
            refine r_isub d_X2_take_128 ?_
            refine x_iald d_X2_take_129 h.1 ?_
            have h := h.2
            refine r_nm (fun y52 ey52 => ?_)
            have h := h y52 ey52
            refine r_istore (L2 := [(2, t), (0, x1), (0, y49), (0, y50), (0, y51), (0, y52), (3, 0)]) d_X2_take_130 (by decide) rfl rfl ?_
            refine r_aload_n (x := t) d_X2_take_132 rfl o_t.1 ?_
            refine r_aload_n (x := t) d_X2_take_133 rfl o_t.1 ?_
            refine r_getf (j := 6) (t := 2) (x := t_firstBracket) d_X2_take_134 kX2 (by decide) fl_X2_36 o_t.1 o_t.2.1 o_t.2.2.1 o_t.2.2.2 rfl f_t_firstBracket ?_
            refine r_iload_n (x := y49) d_X2_take_137 rfl ?_
            refine r_iload (x := y51) d_X2_take_138 rfl ?_
            refine r_iload (x := y52) d_X2_take_140 rfl ?_
            refine x_callVI (Y2 := mX2_makeBracket) (c := t) (As := [(2, t_firstBracket), (0, y49), (0, y51), (0, y52)]) (S := []) d_X2_take_142 ok_mX2_makeBracket ml_X2_63 rfl (Nat.le_of_ble_eq_true rfl) (Nat.le_of_ble_eq_true rfl) rfl hd_1 kX2 o_t (CI.mono h (fun v54 σ53 h => ?_))
            refine r_istore (L2 := [(2, t), (0, x1), (0, y49), (0, y50), (0, y51), (0, y52), (0, v54)]) d_X2_take_145 (by decide) rfl rfl ?_
            refine r_iload (x := v54) d_X2_take_147 rfl ?_
            refine r_if_ne (tgt := 167) d_X2_take_149 rfl (fun hc => ?_) (fun hc => ?_)
            · have h := h.1 hc
              refine r_iload (x := v54) d_X2_take_167 rfl ?_
              refine r_if_ne (tgt := 180) d_X2_take_169 rfl (fun hc => ?_) (fun hc => ?_)
              · have h := h.1 hc
                refine r_aload_n (x := t) d_X2_take_180 rfl o_t.1 ?_
                refine r_getf (j := 1) (t := 2) (x := t_stack) d_X2_take_181 kX2 (by decide) fl_X2_17 o_t.1 o_t.2.1 o_t.2.2.1 o_t.2.2.2 rfl f_t_stack ?_
                refine r_aload_n (x := t) d_X2_take_184 rfl o_t.1 ?_
                refine r_getf (j := 2) (t := 0) (x := (σ53 t 2)) d_X2_take_185 kX2 (by decide) fl_X2_21 o_t.1 o_t.2.1 o_t.2.2.1 o_t.2.2.2 rfl rfl ?_
                refine r_iconst (x := 4) d_X2_take_188 ⟨by decide, by decide⟩ ?_
                refine r_isub d_X2_take_189 ?_
                refine r_aload_n (x := t) d_X2_take_190 rfl o_t.1 ?_
                refine r_getf (j := 3) (t := 0) (x := (σ53 t 3)) d_X2_take_191 kX2 (by decide) fl_X2_25 o_t.1 o_t.2.1 o_t.2.2.1 o_t.2.2.2 rfl rfl ?_
                refine x_iast d_X2_take_194 h.1 ?_
                have h := h.2
                refine r_nmM (fun τ55 eτ55 => ?_)
                have h := h τ55 eτ55
                refine r_aload_n (x := t) d_X2_take_195 rfl o_t.1 ?_
                refine r_iload_n (x := y49) d_X2_take_196 rfl ?_
                refine r_putI (j := 3) d_X2_take_197 kX2 (by decide) fl_X2_25 rfl o_t.1 o_t.2.1 o_t.2.2.1 o_t.2.2.2 rfl ?_
                refine r_nmM (fun τ56 eτ56 => ?_)
                have h := h τ56 eτ56
                refine r_aload_n (x := t) d_X2_take_200 rfl o_t.1 ?_
                refine r_dup d_X2_take_201 rfl ?_
                refine r_getf (j := 2) (t := 0) (x := (τ56 t 2)) d_X2_take_202 kX2 (by decide) fl_X2_21 o_t.1 o_t.2.1 o_t.2.2.1 o_t.2.2.2 rfl rfl ?_
                refine r_iconst (x := 3) d_X2_take_205 ⟨by decide, by decide⟩ ?_
                refine r_isub d_X2_take_206 ?_
                refine r_putI (j := 2) d_X2_take_207 kX2 (by decide) fl_X2_21 rfl o_t.1 o_t.2.1 o_t.2.2.1 o_t.2.2.2 rfl ?_
                refine r_nmM (fun τ57 eτ57 => ?_)
                have h := h τ57 eτ57
                refine r_iload (x := v54) d_X2_take_210 rfl ?_
                exact r_iret d_X2_take_212 rfl rfl (Nat.le_refl 0) (Nat.le_refl 0) ⟨_, rfl, rfl, rfl, h⟩
              · have h := h.2 hc
                refine r_aload_n (x := t) d_X2_take_172 rfl o_t.1 ?_
                refine r_iload_n (x := y49) d_X2_take_173 rfl ?_
                refine r_iload_n (x := y50) d_X2_take_174 rfl ?_
                refine x_callVI (Y2 := mX2_makeSpare) (c := t) (As := [(0, y49), (0, y50)]) (S := []) d_X2_take_175 ok_mX2_makeSpare ml_X2_67 rfl (Nat.le_of_ble_eq_true rfl) (Nat.le_of_ble_eq_true rfl) rfl hd_1 kX2 o_t (CI.mono h (fun v59 σ58 h => ?_))
                refine r_istore (L2 := [(2, t), (0, x1), (0, y49), (0, y50), (0, y51), (0, y52), (0, v59)]) d_X2_take_178 (by decide) rfl rfl ?_
                refine r_aload_n (x := t) d_X2_take_180 rfl o_t.1 ?_
                refine r_getf (j := 1) (t := 2) (x := t_stack) d_X2_take_181 kX2 (by decide) fl_X2_17 o_t.1 o_t.2.1 o_t.2.2.1 o_t.2.2.2 rfl f_t_stack ?_
                refine r_aload_n (x := t) d_X2_take_184 rfl o_t.1 ?_
                refine r_getf (j := 2) (t := 0) (x := (σ58 t 2)) d_X2_take_185 kX2 (by decide) fl_X2_21 o_t.1 o_t.2.1 o_t.2.2.1 o_t.2.2.2 rfl rfl ?_
                refine r_iconst (x := 4) d_X2_take_188 ⟨by decide, by decide⟩ ?_
                refine r_isub d_X2_take_189 ?_
                refine r_aload_n (x := t) d_X2_take_190 rfl o_t.1 ?_
                refine r_getf (j := 3) (t := 0) (x := (σ58 t 3)) d_X2_take_191 kX2 (by decide) fl_X2_25 o_t.1 o_t.2.1 o_t.2.2.1 o_t.2.2.2 rfl rfl ?_
                refine x_iast d_X2_take_194 h.1 ?_
                have h := h.2
                refine r_nmM (fun τ60 eτ60 => ?_)
                have h := h τ60 eτ60
                refine r_aload_n (x := t) d_X2_take_195 rfl o_t.1 ?_
                refine r_iload_n (x := y49) d_X2_take_196 rfl ?_
                refine r_putI (j := 3) d_X2_take_197 kX2 (by decide) fl_X2_25 rfl o_t.1 o_t.2.1 o_t.2.2.1 o_t.2.2.2 rfl ?_
                refine r_nmM (fun τ61 eτ61 => ?_)
                have h := h τ61 eτ61
                refine r_aload_n (x := t) d_X2_take_200 rfl o_t.1 ?_
                refine r_dup d_X2_take_201 rfl ?_
                refine r_getf (j := 2) (t := 0) (x := (τ61 t 2)) d_X2_take_202 kX2 (by decide) fl_X2_21 o_t.1 o_t.2.1 o_t.2.2.1 o_t.2.2.2 rfl rfl ?_
                refine r_iconst (x := 3) d_X2_take_205 ⟨by decide, by decide⟩ ?_
                refine r_isub d_X2_take_206 ?_
                refine r_putI (j := 2) d_X2_take_207 kX2 (by decide) fl_X2_21 rfl o_t.1 o_t.2.1 o_t.2.2.1 o_t.2.2.2 rfl ?_
                refine r_nmM (fun τ62 eτ62 => ?_)
                have h := h τ62 eτ62
                refine r_iload (x := v59) d_X2_take_210 rfl ?_
                exact r_iret d_X2_take_212 rfl rfl (Nat.le_refl 0) (Nat.le_refl 0) ⟨_, rfl, rfl, rfl, h⟩
            · have h := h.2 hc
              refine r_aload_n (x := t) d_X2_take_152 rfl o_t.1 ?_
              refine r_aload_n (x := t) d_X2_take_153 rfl o_t.1 ?_
              refine r_getf (j := 7) (t := 2) (x := t_secondBracket) d_X2_take_154 kX2 (by decide) fl_X2_39 o_t.1 o_t.2.1 o_t.2.2.1 o_t.2.2.2 rfl f_t_secondBracket ?_
              refine r_iload_n (x := y50) d_X2_take_157 rfl ?_
              refine r_iload (x := y51) d_X2_take_158 rfl ?_
              refine r_iload (x := y52) d_X2_take_160 rfl ?_
              refine x_callVI (Y2 := mX2_makeBracket) (c := t) (As := [(2, t_secondBracket), (0, y50), (0, y51), (0, y52)]) (S := []) d_X2_take_162 ok_mX2_makeBracket ml_X2_63 rfl (Nat.le_of_ble_eq_true rfl) (Nat.le_of_ble_eq_true rfl) rfl hd_1 kX2 o_t (CI.mono h (fun v64 σ63 h => ?_))
              refine r_istore (L2 := [(2, t), (0, x1), (0, y49), (0, y50), (0, y51), (0, y52), (0, v64)]) d_X2_take_165 (by decide) rfl rfl ?_
              refine r_iload (x := v64) d_X2_take_167 rfl ?_
              refine r_if_ne (tgt := 180) d_X2_take_169 rfl (fun hc => ?_) (fun hc => ?_)
              · have h := h.1 hc
                refine r_aload_n (x := t) d_X2_take_180 rfl o_t.1 ?_
                refine r_getf (j := 1) (t := 2) (x := t_stack) d_X2_take_181 kX2 (by decide) fl_X2_17 o_t.1 o_t.2.1 o_t.2.2.1 o_t.2.2.2 rfl f_t_stack ?_
                refine r_aload_n (x := t) d_X2_take_184 rfl o_t.1 ?_
                refine r_getf (j := 2) (t := 0) (x := (σ63 t 2)) d_X2_take_185 kX2 (by decide) fl_X2_21 o_t.1 o_t.2.1 o_t.2.2.1 o_t.2.2.2 rfl rfl ?_
                refine r_iconst (x := 4) d_X2_take_188 ⟨by decide, by decide⟩ ?_
                refine r_isub d_X2_take_189 ?_
                refine r_aload_n (x := t) d_X2_take_190 rfl o_t.1 ?_
                refine r_getf (j := 3) (t := 0) (x := (σ63 t 3)) d_X2_take_191 kX2 (by decide) fl_X2_25 o_t.1 o_t.2.1 o_t.2.2.1 o_t.2.2.2 rfl rfl ?_
                refine x_iast d_X2_take_194 h.1 ?_
                have h := h.2
                refine r_nmM (fun τ65 eτ65 => ?_)
                have h := h τ65 eτ65
                refine r_aload_n (x := t) d_X2_take_195 rfl o_t.1 ?_
                refine r_iload_n (x := y49) d_X2_take_196 rfl ?_
                refine r_putI (j := 3) d_X2_take_197 kX2 (by decide) fl_X2_25 rfl o_t.1 o_t.2.1 o_t.2.2.1 o_t.2.2.2 rfl ?_
                refine r_nmM (fun τ66 eτ66 => ?_)
                have h := h τ66 eτ66
                refine r_aload_n (x := t) d_X2_take_200 rfl o_t.1 ?_
                refine r_dup d_X2_take_201 rfl ?_
                refine r_getf (j := 2) (t := 0) (x := (τ66 t 2)) d_X2_take_202 kX2 (by decide) fl_X2_21 o_t.1 o_t.2.1 o_t.2.2.1 o_t.2.2.2 rfl rfl ?_
                refine r_iconst (x := 3) d_X2_take_205 ⟨by decide, by decide⟩ ?_
                refine r_isub d_X2_take_206 ?_
                refine r_putI (j := 2) d_X2_take_207 kX2 (by decide) fl_X2_21 rfl o_t.1 o_t.2.1 o_t.2.2.1 o_t.2.2.2 rfl ?_
                refine r_nmM (fun τ67 eτ67 => ?_)
                have h := h τ67 eτ67
                refine r_iload (x := v64) d_X2_take_210 rfl ?_
                exact r_iret d_X2_take_212 rfl rfl (Nat.le_refl 0) (Nat.le_refl 0) ⟨_, rfl, rfl, rfl, h⟩
              · have h := h.2 hc
                refine r_aload_n (x := t) d_X2_take_172 rfl o_t.1 ?_
                refine r_iload_n (x := y49) d_X2_take_173 rfl ?_
                refine r_iload_n (x := y50) d_X2_take_174 rfl ?_
                refine x_callVI (Y2 := mX2_makeSpare) (c := t) (As := [(0, y49), (0, y50)]) (S := []) d_X2_take_175 ok_mX2_makeSpare ml_X2_67 rfl (Nat.le_of_ble_eq_true rfl) (Nat.le_of_ble_eq_true rfl) rfl hd_1 kX2 o_t (CI.mono h (fun v69 σ68 h => ?_))
                refine r_istore (L2 := [(2, t), (0, x1), (0, y49), (0, y50), (0, y51), (0, y52), (0, v69)]) d_X2_take_178 (by decide) rfl rfl ?_
                refine r_aload_n (x := t) d_X2_take_180 rfl o_t.1 ?_
                refine r_getf (j := 1) (t := 2) (x := t_stack) d_X2_take_181 kX2 (by decide) fl_X2_17 o_t.1 o_t.2.1 o_t.2.2.1 o_t.2.2.2 rfl f_t_stack ?_
                refine r_aload_n (x := t) d_X2_take_184 rfl o_t.1 ?_
                refine r_getf (j := 2) (t := 0) (x := (σ68 t 2)) d_X2_take_185 kX2 (by decide) fl_X2_21 o_t.1 o_t.2.1 o_t.2.2.1 o_t.2.2.2 rfl rfl ?_
                refine r_iconst (x := 4) d_X2_take_188 ⟨by decide, by decide⟩ ?_
                refine r_isub d_X2_take_189 ?_
                refine r_aload_n (x := t) d_X2_take_190 rfl o_t.1 ?_
                refine r_getf (j := 3) (t := 0) (x := (σ68 t 3)) d_X2_take_191 kX2 (by decide) fl_X2_25 o_t.1 o_t.2.1 o_t.2.2.1 o_t.2.2.2 rfl rfl ?_
                refine x_iast d_X2_take_194 h.1 ?_
                have h := h.2
                refine r_nmM (fun τ70 eτ70 => ?_)
                have h := h τ70 eτ70
                refine r_aload_n (x := t) d_X2_take_195 rfl o_t.1 ?_
                refine r_iload_n (x := y49) d_X2_take_196 rfl ?_
                refine r_putI (j := 3) d_X2_take_197 kX2 (by decide) fl_X2_25 rfl o_t.1 o_t.2.1 o_t.2.2.1 o_t.2.2.2 rfl ?_
                refine r_nmM (fun τ71 eτ71 => ?_)
                have h := h τ71 eτ71
                refine r_aload_n (x := t) d_X2_take_200 rfl o_t.1 ?_
                refine r_dup d_X2_take_201 rfl ?_
                refine r_getf (j := 2) (t := 0) (x := (τ71 t 2)) d_X2_take_202 kX2 (by decide) fl_X2_21 o_t.1 o_t.2.1 o_t.2.2.1 o_t.2.2.2 rfl rfl ?_
                refine r_iconst (x := 3) d_X2_take_205 ⟨by decide, by decide⟩ ?_
                refine r_isub d_X2_take_206 ?_
                refine r_putI (j := 2) d_X2_take_207 kX2 (by decide) fl_X2_21 rfl o_t.1 o_t.2.1 o_t.2.2.1 o_t.2.2.2 rfl ?_
                refine r_nmM (fun τ72 eτ72 => ?_)
                have h := h τ72 eτ72
                refine r_iload (x := v69) d_X2_take_210 rfl ?_
                exact r_iret d_X2_take_212 rfl rfl (Nat.le_refl 0) (Nat.le_refl 0) ⟨_, rfl, rfl, rfl, h⟩
          · have h := h.2 hc
            refine r_iconst (x := 0) d_X2_take_80 ⟨by decide, by decide⟩ ?_
            exact r_iret d_X2_take_81 rfl rfl (Nat.le_refl 0) (Nat.le_refl 0) ⟨_, rfl, rfl, rfl, h⟩
      · have h := h.2 hc
        refine r_aload_n (x := t) d_X2_take_16 rfl o_t.1 ?_
        refine r_aload_n (x := t) d_X2_take_17 rfl o_t.1 ?_
        refine r_getf (j := 1) (t := 2) (x := t_stack) d_X2_take_18 kX2 (by decide) fl_X2_17 o_t.1 o_t.2.1 o_t.2.2.1 o_t.2.2.2 rfl f_t_stack ?_
        refine r_aload_n (x := t) d_X2_take_21 rfl o_t.1 ?_
        refine r_getf (j := 2) (t := 0) (x := (σ t 2)) d_X2_take_22 kX2 (by decide) fl_X2_21 o_t.1 o_t.2.1 o_t.2.2.1 o_t.2.2.2 rfl rfl ?_
        refine x_iald d_X2_take_25 h.1 ?_
        have h := h.2
        refine x_callVV (Y2 := mX2_empty) (c := t) (As := [(0, (σ t_stack (σ t 2)))]) (S := []) d_X2_take_26 ok_mX2_empty ml_X2_55 rfl (Nat.le_of_ble_eq_true rfl) (Nat.le_of_ble_eq_true rfl) rfl hd_1 kX2 o_t (CV.mono h (fun σ73 h => ?_))
        refine r_aload_n (x := t) d_X2_take_29 rfl o_t.1 ?_
        refine r_dup d_X2_take_30 rfl ?_
        refine r_getf (j := 2) (t := 0) (x := (σ73 t 2)) d_X2_take_31 kX2 (by decide) fl_X2_21 o_t.1 o_t.2.1 o_t.2.2.1 o_t.2.2.2 rfl rfl ?_
        refine r_iconst (x := 1) d_X2_take_34 ⟨by decide, by decide⟩ ?_
        refine r_iadd d_X2_take_35 ?_
        refine r_putI (j := 2) d_X2_take_36 kX2 (by decide) fl_X2_21 rfl o_t.1 o_t.2.1 o_t.2.2.1 o_t.2.2.2 rfl ?_
        refine r_nmM (fun τ74 eτ74 => ?_)
        have h := h τ74 eτ74
        refine r_aload_n (x := t) d_X2_take_39 rfl o_t.1 ?_
        refine r_getf (j := 0) (t := 2) (x := t_polys) d_X2_take_40 kX2 (by decide) fl_X2_13 o_t.1 o_t.2.1 o_t.2.2.1 o_t.2.2.2 rfl f_t_polys ?_
        refine r_aload_n (x := t) d_X2_take_43 rfl o_t.1 ?_
        refine r_getf (j := 1) (t := 2) (x := t_stack) d_X2_take_44 kX2 (by decide) fl_X2_17 o_t.1 o_t.2.1 o_t.2.2.1 o_t.2.2.2 rfl f_t_stack ?_
        refine r_aload_n (x := t) d_X2_take_47 rfl o_t.1 ?_
        refine r_getf (j := 2) (t := 0) (x := (τ74 t 2)) d_X2_take_48 kX2 (by decide) fl_X2_21 o_t.1 o_t.2.1 o_t.2.2.1 o_t.2.2.2 rfl rfl ?_
        refine r_iconst (x := 1) d_X2_take_51 ⟨by decide, by decide⟩ ?_
        refine r_isub d_X2_take_52 ?_
        refine x_iald d_X2_take_53 h.1 ?_
        have h := h.2
        refine r_iload_n (x := x1) d_X2_take_54 rfl ?_
        refine r_iadd d_X2_take_55 ?_
        refine r_bipush (x := 97) d_X2_take_56 ⟨by decide, by decide⟩ (by decide) ?_
        refine r_isub d_X2_take_58 ?_
        refine x_aald (t := 3) (by decide) d_X2_take_59 h.1 (fun b75 eb75 => ?_)
        have h := h.2 b75 eb75
        have oob75 := h.1
        have h := h.2
        refine r_lconst d_X2_take_60 ?_
        skip
        refine r_lconst d_X2_take_61 ?_
        skip
        refine x_callVI (Y2 := mX5_lay) (c := b75) (As := [(1, 0), (1, 1)]) (S := []) d_X2_take_62 ok_mX5_lay ml_X2_59 rfl (Nat.le_of_ble_eq_true rfl) (Nat.le_of_ble_eq_true rfl) rfl hd_1 kX5 oob75 (CI.mono h (fun v77 σ76 h => ?_))
        exact r_iret d_X2_take_65 rfl rfl (Nat.le_refl 0) (Nat.le_refl 0) ⟨_, rfl, rfl, rfl, h⟩
theorem v_X2_makeFigure_0 {l : Launch} {d N : Nat} {Λ : Lay} {P : Int → Mem → Prop} {σ : Mem} {a1 t t_stack : Int} (o_t : Ob N Λ t 12 9) (o_a1 : Ob N Λ a1 15 3) (f_t_stack : (Λ t).2.2 1 = t_stack) (h0d : 1 ≤ d)
    (h : (Ix N Λ t_stack 0 0 ∧ (Ix N Λ t_stack 0 1 ∧ (Ix N Λ t_stack 0 2 ∧ (CI l mX2_makeBracket (d - 1) [(2, t), (2, a1), (0, (σ t_stack 0)), (0, (σ t_stack 1)), (0, (σ t_stack 2))] N Λ σ (fun v2 σ1 => P v2 σ1)))))) :
    WI l mX2_makeFigure d P 0 [(2, t), (2, a1)] [] N Λ σ := by
  have hd_1 : 1 ≤ d := Nat.le_trans (by decide) h0d
  refine r_aload_n (x := t) d_X2_makeFigure_0 rfl o_t.1 ?_
  refine r_aload_n (x := a1) d_X2_makeFigure_1 rfl o_a1.1 ?_
  refine r_aload_n (x := t) d_X2_makeFigure_2 rfl o_t.1 ?_
  refine r_getf (j := 1) (t := 2) (x := t_stack) d_X2_makeFigure_3 kX2 (by decide) fl_X2_17 o_t.1 o_t.2.1 o_t.2.2.1 o_t.2.2.2 rfl f_t_stack ?_
  refine r_iconst (x := 0) d_X2_makeFigure_6 ⟨by decide, by decide⟩ ?_
  refine x_iald d_X2_makeFigure_7 h.1 ?_
  have h := h.2
  refine r_aload_n (x := t) d_X2_makeFigure_8 rfl o_t.1 ?_
  refine r_getf (j := 1) (t := 2) (x := t_stack) d_X2_makeFigure_9 kX2 (by decide) fl_X2_17 o_t.1 o_t.2.1 o_t.2.2.1 o_t.2.2.2 rfl f_t_stack ?_
  refine r_iconst (x := 1) d_X2_makeFigure_12 ⟨by decide, by decide⟩ ?_
  refine x_iald d_X2_makeFigure_13 h.1 ?_
  have h := h.2
  refine r_aload_n (x := t) d_X2_makeFigure_14 rfl o_t.1 ?_
  refine r_getf (j := 1) (t := 2) (x := t_stack) d_X2_makeFigure_15 kX2 (by decide) fl_X2_17 o_t.1 o_t.2.1 o_t.2.2.1 o_t.2.2.2 rfl f_t_stack ?_
  refine r_iconst (x := 2) d_X2_makeFigure_18 ⟨by decide, by decide⟩ ?_
  refine x_iald d_X2_makeFigure_19 h.1 ?_
  have h := h.2
  refine x_callVI (Y2 := mX2_makeBracket) (c := t) (As := [(2, a1), (0, (σ t_stack 0)), (0, (σ t_stack 1)), (0, (σ t_stack 2))]) (S := []) d_X2_makeFigure_20 ok_mX2_makeBracket ml_X2_63 rfl (Nat.le_of_ble_eq_true rfl) (Nat.le_of_ble_eq_true rfl) rfl hd_1 kX2 o_t (CI.mono h (fun v2 σ1 h => ?_))
  exact r_iret d_X2_makeFigure_23 rfl rfl (Nat.le_refl 0) (Nat.le_refl 0) ⟨_, rfl, rfl, rfl, h⟩
theorem v_X3_begin_0 {l : Launch} {d N : Nat} {Λ : Lay} {P : Mem → Prop} {σ : Mem} {x1 x3 t : Int} (o_t : Ob N Λ t 13 5) (h0d : 1 ≤ d)
    (h : (CI l mX6_bracketsIn (d - 1) [(1, x1)] N Λ σ (fun v2 σ1 => (∀ τ3, τ3 = st σ1 t 2 (mulI 3 v2) → (∀ τ4, τ4 = st τ3 t 3 x3 → (∀ τ5, τ5 = st τ4 t 4 0 → WV l mX3_begin d P 23 [(2, t), (1, x1), (3, 0), (0, x3), (0, 0)] [] N Λ τ5)))))) :
    WV l mX3_begin d P 0 [(2, t), (1, x1), (3, 0), (0, x3), (3, 0)] [] N Λ σ := by
  have hd_1 : 1 ≤ d := Nat.le_trans (by decide) h0d
  refine r_aload_n (x := t) d_X3_begin_0 rfl o_t.1 ?_
  refine r_iconst (x := 3) d_X3_begin_1 ⟨by decide, by decide⟩ ?_
  refine r_lload_n (x := x1) d_X3_begin_2 rfl ?_
  refine x_callSI (Y2 := mX6_bracketsIn) (As := [(1, x1)]) (S := [(0, 3), (2, t)]) d_X3_begin_3 ok_mX6_bracketsIn ml_X3_37 rfl (Nat.le_of_ble_eq_true rfl) (Nat.le_of_ble_eq_true rfl) rfl hd_1 (CI.mono h (fun v2 σ1 h => ?_))
  refine r_imul d_X3_begin_6 ?_
  refine r_putI (j := 2) d_X3_begin_7 kX3 (by decide) fl_X3_18 rfl o_t.1 o_t.2.1 o_t.2.2.1 o_t.2.2.2 rfl ?_
  refine r_nmM (fun τ3 eτ3 => ?_)
  have h := h τ3 eτ3
  refine r_aload_n (x := t) d_X3_begin_10 rfl o_t.1 ?_
  refine r_iload_n (x := x3) d_X3_begin_11 rfl ?_
  refine r_putI (j := 3) d_X3_begin_12 kX3 (by decide) fl_X3_23 rfl o_t.1 o_t.2.1 o_t.2.2.1 o_t.2.2.2 rfl ?_
  refine r_nmM (fun τ4 eτ4 => ?_)
  have h := h τ4 eτ4
  refine r_aload_n (x := t) d_X3_begin_15 rfl o_t.1 ?_
  refine r_iconst (x := 0) d_X3_begin_16 ⟨by decide, by decide⟩ ?_
  refine r_putI (j := 4) d_X3_begin_17 kX3 (by decide) fl_X3_26 rfl o_t.1 o_t.2.1 o_t.2.2.1 o_t.2.2.2 rfl ?_
  refine r_nmM (fun τ5 eτ5 => ?_)
  have h := h τ5 eτ5
  refine r_iconst (x := 0) d_X3_begin_20 ⟨by decide, by decide⟩ ?_
  refine r_istore (L2 := [(2, t), (1, x1), (3, 0), (0, x3), (0, 0)]) d_X3_begin_21 (by decide) rfl rfl ?_
  exact h
theorem v_X3_begin_23 {l : Launch} {d N : Nat} {Λ : Lay} {P : Mem → Prop} {σ : Mem} {x1 x3 x4 t t_unused : Int} (o_t : Ob N Λ t 13 5) (f_t_unused : (Λ t).2.2 0 = t_unused) (h0d : 1 ≤ d)
    (h : ((10 ≤ x4 → P σ) ∧ (¬ (10 ≤ x4) → (CI l mX6_timesOf (d - 1) [(1, x1), (0, x4)] N Λ σ (fun v2 σ1 => (Ix N Λ t_unused 0 x4 ∧ (∀ τ3, τ3 = st σ1 t_unused x4 v2 → (∀ y4, y4 = addI x4 1 → WV l mX3_begin d P 23 [(2, t), (1, x1), (3, 0), (0, x3), (0, y4)] [] N Λ τ3)))))))) :
    WV l mX3_begin d P 23 [(2, t), (1, x1), (3, 0), (0, x3), (0, x4)] [] N Λ σ := by
  have hd_1 : 1 ≤ d := Nat.le_trans (by decide) h0d
  refine r_iload (x := x4) d_X3_begin_23 rfl ?_
  refine r_bipush (x := 10) d_X3_begin_25 ⟨by decide, by decide⟩ (by decide) ?_
  refine r_ic_ge (tgt := 49) d_X3_begin_27 rfl (fun hc => ?_) (fun hc => ?_)
  · have h := h.1 hc
    exact r_vret d_X3_begin_49 rfl (Nat.le_refl 0) (Nat.le_refl 0) ⟨rfl, rfl, rfl, h⟩
  · have h := h.2 hc
    refine r_aload_n (x := t) d_X3_begin_30 rfl o_t.1 ?_
    refine r_getf (j := 0) (t := 2) (x := t_unused) d_X3_begin_31 kX3 (by decide) fl_X3_9 o_t.1 o_t.2.1 o_t.2.2.1 o_t.2.2.2 rfl f_t_unused ?_
    refine r_iload (x := x4) d_X3_begin_34 rfl ?_
    refine r_lload_n (x := x1) d_X3_begin_36 rfl ?_
    refine r_iload (x := x4) d_X3_begin_37 rfl ?_
    refine x_callSI (Y2 := mX6_timesOf) (As := [(1, x1), (0, x4)]) (S := [(0, x4), (2, t_unused)]) d_X3_begin_39 ok_mX6_timesOf ml_X3_43 rfl (Nat.le_of_ble_eq_true rfl) (Nat.le_of_ble_eq_true rfl) rfl hd_1 (CI.mono h (fun v2 σ1 h => ?_))
    refine x_iast d_X3_begin_42 h.1 ?_
    have h := h.2
    refine r_nmM (fun τ3 eτ3 => ?_)
    have h := h τ3 eτ3
    refine x_iinc (x := x4) (L := [(2, t), (1, x1), (3, 0), (0, x3), (0, x4)]) d_X3_begin_43 rfl (by decide) rfl (fun y4 ey4 => ?_)
    have h := h y4 ey4
    show WP _ _ _ _ _ _ _ _ [(2, t), (1, x1), (3, 0), (0, x3), (0, y4)] _ _ _ _
    refine r_goto (tgt := 23) d_X3_begin_46 rfl ?_
    exact h
theorem v_J9_max_7cf53_0 {l : Launch} {d N : Nat} {Λ : Lay} {P : Int → Mem → Prop} {σ : Mem} {x0 x1 : Int}
    (h : ((x0 < x1 → P x1 σ) ∧ (¬ (x0 < x1) → P x0 σ))) :
    WI l mJ9_max_7cf53 d P 0 [(0, x0), (0, x1)] [] N Λ σ := by
  refine r_iload_n (x := x0) d_J9_max_7cf53_0 rfl ?_
  refine r_iload_n (x := x1) d_J9_max_7cf53_1 rfl ?_
  refine r_ic_lt (tgt := 9) d_J9_max_7cf53_2 rfl (fun hc => ?_) (fun hc => ?_)
  · have h := h.1 hc
    refine r_iload_n (x := x1) d_J9_max_7cf53_9 rfl ?_
    exact r_iret d_J9_max_7cf53_10 rfl rfl (Nat.le_refl 0) (Nat.le_refl 0) ⟨_, rfl, rfl, rfl, h⟩
  · have h := h.2 hc
    refine r_iload_n (x := x0) d_J9_max_7cf53_5 rfl ?_
    refine r_goto (tgt := 10) d_J9_max_7cf53_6 rfl ?_
    exact r_iret d_J9_max_7cf53_10 rfl rfl (Nat.le_refl 0) (Nat.le_refl 0) ⟨_, rfl, rfl, rfl, h⟩
theorem v_X3_fill_0 {l : Launch} {d N : Nat} {Λ : Lay} {P : Int → Mem → Prop} {σ : Mem} {x1 t t_cells : Int} (o_t : Ob N Λ t 13 5) (f_t_cells : (Λ t).2.2 1 = t_cells) (h0d : 1 ≤ d)
    (h : ((x1 < (σ t 2) → ((¬ (remI x1 3) = 0 → (Ix N Λ t_cells 0 (subI x1 1) ∧ (∀ y1, y1 = (addI (σ t_cells (subI x1 1)) 1) → ((x1 < 3 → WI l mX3_fill d P 89 [(2, t), (0, x1), (0, 0), (0, y1), (0, y1)] [] N Λ σ) ∧ (¬ (x1 < 3) → (Ix N Λ t_cells 0 (subI x1 3) ∧ ((y1 < (σ t_cells (subI x1 3)) → (∀ y2, y2 = (σ t_cells (subI x1 3)) → WI l mX3_fill d P 89 [(2, t), (0, x1), (0, 0), (0, y2), (0, y2)] [] N Λ σ)) ∧ (¬ (y1 < (σ t_cells (subI x1 3))) → WI l mX3_fill d P 89 [(2, t), (0, x1), (0, 0), (0, y1), (0, y1)] [] N Λ σ)))))))) ∧ ((remI x1 3) = 0 → ((x1 < 3 → WI l mX3_fill d P 89 [(2, t), (0, x1), (0, 1), (0, 0), (0, 0)] [] N Λ σ) ∧ (¬ (x1 < 3) → (Ix N Λ t_cells 0 (subI x1 3) ∧ ((0 < (σ t_cells (subI x1 3)) → (∀ y3, y3 = (σ t_cells (subI x1 3)) → WI l mX3_fill d P 89 [(2, t), (0, x1), (0, 1), (0, y3), (0, y3)] [] N Λ σ)) ∧ (¬ (0 < (σ t_cells (subI x1 3))) → WI l mX3_fill d P 89 [(2, t), (0, x1), (0, 1), (0, 0), (0, 0)] [] N Λ σ)))))))) ∧ (¬ (x1 < (σ t 2)) → (∀ τ4, τ4 = st σ t 4 (addI (σ t 4) 1) → ((¬ (subI (τ4 t 4) 1) = (τ4 t 3) → P 0 τ4) ∧ ((subI (τ4 t 4) 1) = (τ4 t 3) → P 1 τ4)))))) :
    WI l mX3_fill d P 0 [(2, t), (0, x1), (3, 0), (3, 0), (3, 0)] [] N Λ σ := by
  have hd_1 : 1 ≤ d := Nat.le_trans (by decide) h0d
  refine r_iload_n (x := x1) d_X3_fill_0 rfl ?_
  refine r_aload_n (x := t) d_X3_fill_1 rfl o_t.1 ?_
  refine r_getf (j := 2) (t := 0) (x := (σ t 2)) d_X3_fill_2 kX3 (by decide) fl_X3_18 o_t.1 o_t.2.1 o_t.2.2.1 o_t.2.2.2 rfl rfl ?_
  refine r_ic_lt (tgt := 37) d_X3_fill_5 rfl (fun hc => ?_) (fun hc => ?_)
  · have h := h.1 hc
    refine r_iload_n (x := x1) d_X3_fill_37 rfl ?_
    refine r_iconst (x := 3) d_X3_fill_38 ⟨by decide, by decide⟩ ?_
    refine r_irem d_X3_fill_39 (by decide) ?_
    refine r_if_ne (tgt := 47) d_X3_fill_40 rfl (fun hc => ?_) (fun hc => ?_)
    · have h := h.1 hc
      refine r_iconst (x := 0) d_X3_fill_47 ⟨by decide, by decide⟩ ?_
      refine r_istore_n (L2 := [(2, t), (0, x1), (0, 0), (3, 0), (3, 0)]) d_X3_fill_48 (by decide) rfl rfl ?_
      refine r_iload_n (x := 0) d_X3_fill_49 rfl ?_
      refine r_if_eq (tgt := 57) d_X3_fill_50 rfl (fun _ => ?_) (fun hc => absurd hc (by decide))
      refine r_aload_n (x := t) d_X3_fill_57 rfl o_t.1 ?_
      refine r_getf (j := 1) (t := 2) (x := t_cells) d_X3_fill_58 kX3 (by decide) fl_X3_15 o_t.1 o_t.2.1 o_t.2.2.1 o_t.2.2.2 rfl f_t_cells ?_
      refine r_iload_n (x := x1) d_X3_fill_61 rfl ?_
      refine r_iconst (x := 1) d_X3_fill_62 ⟨by decide, by decide⟩ ?_
      refine r_isub d_X3_fill_63 ?_
      refine x_iald d_X3_fill_64 h.1 ?_
      have h := h.2
      refine r_iconst (x := 1) d_X3_fill_65 ⟨by decide, by decide⟩ ?_
      refine r_iadd d_X3_fill_66 ?_
      refine r_nm (fun y1 ey1 => ?_)
      have h := h y1 ey1
      refine r_istore_n (L2 := [(2, t), (0, x1), (0, 0), (0, y1), (3, 0)]) d_X3_fill_67 (by decide) rfl rfl ?_
      refine r_iload_n (x := x1) d_X3_fill_68 rfl ?_
      refine r_iconst (x := 3) d_X3_fill_69 ⟨by decide, by decide⟩ ?_
      refine r_ic_lt (tgt := 86) d_X3_fill_70 rfl (fun hc => ?_) (fun hc => ?_)
      · have h := h.1 hc
        refine r_iload_n (x := y1) d_X3_fill_86 rfl ?_
        refine r_istore (L2 := [(2, t), (0, x1), (0, 0), (0, y1), (0, y1)]) d_X3_fill_87 (by decide) rfl rfl ?_
        exact h
      · have h := h.2 hc
        refine r_iload_n (x := y1) d_X3_fill_73 rfl ?_
        refine r_aload_n (x := t) d_X3_fill_74 rfl o_t.1 ?_
        refine r_getf (j := 1) (t := 2) (x := t_cells) d_X3_fill_75 kX3 (by decide) fl_X3_15 o_t.1 o_t.2.1 o_t.2.2.1 o_t.2.2.2 rfl f_t_cells ?_
        refine r_iload_n (x := x1) d_X3_fill_78 rfl ?_
        refine r_iconst (x := 3) d_X3_fill_79 ⟨by decide, by decide⟩ ?_
        refine r_isub d_X3_fill_80 ?_
        refine x_iald d_X3_fill_81 h.1 ?_
        have h := h.2
        refine x_callSI (Y2 := mJ9_max_7cf53) (As := [(0, y1), (0, (σ t_cells (subI x1 3)))]) (S := []) d_X3_fill_82 ok_mJ9_max_7cf53 ml_X3_47 rfl (Nat.le_of_ble_eq_true rfl) (Nat.le_of_ble_eq_true rfl) rfl hd_1 (c_J9_max_7cf53 (v_J9_max_7cf53_0 ?_))
        refine ⟨fun hc => ?_, fun hc => ?_⟩
        · have h := h.1 hc
          show WP l mX3_fill (rm d 0 0) noX _ 0 0 85 [(2, t), (0, x1), (0, 0), (0, y1), (3, 0)] [(0, (σ t_cells (subI x1 3)))] N Λ σ
          refine r_nm (fun y2 ey2 => ?_)
          have h := h y2 ey2
          refine r_istore_n (L2 := [(2, t), (0, x1), (0, 0), (0, y2), (3, 0)]) d_X3_fill_85 (by decide) rfl rfl ?_
          refine r_iload_n (x := y2) d_X3_fill_86 rfl ?_
          refine r_istore (L2 := [(2, t), (0, x1), (0, 0), (0, y2), (0, y2)]) d_X3_fill_87 (by decide) rfl rfl ?_
          exact h
        · have h := h.2 hc
          show WP l mX3_fill (rm d 0 0) noX _ 0 0 85 [(2, t), (0, x1), (0, 0), (0, y1), (3, 0)] [(0, y1)] N Λ σ
          refine r_istore_n (L2 := [(2, t), (0, x1), (0, 0), (0, y1), (3, 0)]) d_X3_fill_85 (by decide) rfl rfl ?_
          refine r_iload_n (x := y1) d_X3_fill_86 rfl ?_
          refine r_istore (L2 := [(2, t), (0, x1), (0, 0), (0, y1), (0, y1)]) d_X3_fill_87 (by decide) rfl rfl ?_
          exact h
    · have h := h.2 hc
      refine r_iconst (x := 1) d_X3_fill_43 ⟨by decide, by decide⟩ ?_
      refine r_goto (tgt := 48) d_X3_fill_44 rfl ?_
      refine r_istore_n (L2 := [(2, t), (0, x1), (0, 1), (3, 0), (3, 0)]) d_X3_fill_48 (by decide) rfl rfl ?_
      refine r_iload_n (x := 1) d_X3_fill_49 rfl ?_
      refine r_if_eq (tgt := 57) d_X3_fill_50 rfl (fun hc => absurd hc (by decide)) (fun _ => ?_)
      refine r_iconst (x := 0) d_X3_fill_53 ⟨by decide, by decide⟩ ?_
      refine r_goto (tgt := 67) d_X3_fill_54 rfl ?_
      refine r_istore_n (L2 := [(2, t), (0, x1), (0, 1), (0, 0), (3, 0)]) d_X3_fill_67 (by decide) rfl rfl ?_
      refine r_iload_n (x := x1) d_X3_fill_68 rfl ?_
      refine r_iconst (x := 3) d_X3_fill_69 ⟨by decide, by decide⟩ ?_
      refine r_ic_lt (tgt := 86) d_X3_fill_70 rfl (fun hc => ?_) (fun hc => ?_)
      · have h := h.1 hc
        refine r_iload_n (x := 0) d_X3_fill_86 rfl ?_
        refine r_istore (L2 := [(2, t), (0, x1), (0, 1), (0, 0), (0, 0)]) d_X3_fill_87 (by decide) rfl rfl ?_
        exact h
      · have h := h.2 hc
        refine r_iload_n (x := 0) d_X3_fill_73 rfl ?_
        refine r_aload_n (x := t) d_X3_fill_74 rfl o_t.1 ?_
        refine r_getf (j := 1) (t := 2) (x := t_cells) d_X3_fill_75 kX3 (by decide) fl_X3_15 o_t.1 o_t.2.1 o_t.2.2.1 o_t.2.2.2 rfl f_t_cells ?_
        refine r_iload_n (x := x1) d_X3_fill_78 rfl ?_
        refine r_iconst (x := 3) d_X3_fill_79 ⟨by decide, by decide⟩ ?_
        refine r_isub d_X3_fill_80 ?_
        refine x_iald d_X3_fill_81 h.1 ?_
        have h := h.2
        refine x_callSI (Y2 := mJ9_max_7cf53) (As := [(0, 0), (0, (σ t_cells (subI x1 3)))]) (S := []) d_X3_fill_82 ok_mJ9_max_7cf53 ml_X3_47 rfl (Nat.le_of_ble_eq_true rfl) (Nat.le_of_ble_eq_true rfl) rfl hd_1 (c_J9_max_7cf53 (v_J9_max_7cf53_0 ?_))
        refine ⟨fun hc => ?_, fun hc => ?_⟩
        · have h := h.1 hc
          show WP l mX3_fill (rm d 0 0) noX _ 0 0 85 [(2, t), (0, x1), (0, 1), (0, 0), (3, 0)] [(0, (σ t_cells (subI x1 3)))] N Λ σ
          refine r_nm (fun y3 ey3 => ?_)
          have h := h y3 ey3
          refine r_istore_n (L2 := [(2, t), (0, x1), (0, 1), (0, y3), (3, 0)]) d_X3_fill_85 (by decide) rfl rfl ?_
          refine r_iload_n (x := y3) d_X3_fill_86 rfl ?_
          refine r_istore (L2 := [(2, t), (0, x1), (0, 1), (0, y3), (0, y3)]) d_X3_fill_87 (by decide) rfl rfl ?_
          exact h
        · have h := h.2 hc
          show WP l mX3_fill (rm d 0 0) noX _ 0 0 85 [(2, t), (0, x1), (0, 1), (0, 0), (3, 0)] [(0, 0)] N Λ σ
          refine r_istore_n (L2 := [(2, t), (0, x1), (0, 1), (0, 0), (3, 0)]) d_X3_fill_85 (by decide) rfl rfl ?_
          refine r_iload_n (x := 0) d_X3_fill_86 rfl ?_
          refine r_istore (L2 := [(2, t), (0, x1), (0, 1), (0, 0), (0, 0)]) d_X3_fill_87 (by decide) rfl rfl ?_
          exact h
  · have h := h.2 hc
    refine r_aload_n (x := t) d_X3_fill_8 rfl o_t.1 ?_
    refine r_dup d_X3_fill_9 rfl ?_
    refine r_getf (j := 4) (t := 0) (x := (σ t 4)) d_X3_fill_10 kX3 (by decide) fl_X3_26 o_t.1 o_t.2.1 o_t.2.2.1 o_t.2.2.2 rfl rfl ?_
    refine r_iconst (x := 1) d_X3_fill_13 ⟨by decide, by decide⟩ ?_
    refine r_iadd d_X3_fill_14 ?_
    refine r_putI (j := 4) d_X3_fill_15 kX3 (by decide) fl_X3_26 rfl o_t.1 o_t.2.1 o_t.2.2.1 o_t.2.2.2 rfl ?_
    refine r_nmM (fun τ4 eτ4 => ?_)
    have h := h τ4 eτ4
    refine r_aload_n (x := t) d_X3_fill_18 rfl o_t.1 ?_
    refine r_getf (j := 4) (t := 0) (x := (τ4 t 4)) d_X3_fill_19 kX3 (by decide) fl_X3_26 o_t.1 o_t.2.1 o_t.2.2.1 o_t.2.2.2 rfl rfl ?_
    refine r_iconst (x := 1) d_X3_fill_22 ⟨by decide, by decide⟩ ?_
    refine r_isub d_X3_fill_23 ?_
    refine r_aload_n (x := t) d_X3_fill_24 rfl o_t.1 ?_
    refine r_getf (j := 3) (t := 0) (x := (τ4 t 3)) d_X3_fill_25 kX3 (by decide) fl_X3_23 o_t.1 o_t.2.1 o_t.2.2.1 o_t.2.2.2 rfl rfl ?_
    refine r_ic_ne (tgt := 35) d_X3_fill_28 rfl (fun hc => ?_) (fun hc => ?_)
    · have h := h.1 hc
      refine r_iconst (x := 0) d_X3_fill_35 ⟨by decide, by decide⟩ ?_
      exact r_iret d_X3_fill_36 rfl (by decide) (Nat.le_refl 0) (Nat.le_refl 0) ⟨_, rfl, rfl, rfl, h⟩
    · have h := h.2 hc
      refine r_iconst (x := 1) d_X3_fill_31 ⟨by decide, by decide⟩ ?_
      refine r_goto (tgt := 36) d_X3_fill_32 rfl ?_
      exact r_iret d_X3_fill_36 rfl (by decide) (Nat.le_refl 0) (Nat.le_refl 0) ⟨_, rfl, rfl, rfl, h⟩
theorem v_X3_fill_89 {l : Launch} {d N : Nat} {Λ : Lay} {P : Int → Mem → Prop} {σ : Mem} {x1 x2 x3 x4 t t_cells t_unused : Int} (o_t : Ob N Λ t 13 5) (f_t_unused : (Λ t).2.2 0 = t_unused) (f_t_cells : (Λ t).2.2 1 = t_cells) (h0d : 1 ≤ d)
    (h : ((10 ≤ x4 → P 0 σ) ∧ (¬ (10 ≤ x4) → (Ix N Λ t_unused 0 x4 ∧ (((σ t_unused x4) ≤ 0 → (∀ y1, y1 = addI x4 1 → WI l mX3_fill d P 89 [(2, t), (0, x1), (0, x2), (0, x3), (0, y1)] [] N Λ σ)) ∧ (¬ ((σ t_unused x4) ≤ 0) → (Ix N Λ t_cells 0 x1 ∧ (∀ τ2, τ2 = st σ t_cells x1 x4 → (Ix N Λ t_unused 0 x4 ∧ (Ix N Λ t_unused 0 x4 ∧ (∀ τ3, τ3 = st τ2 t_unused x4 (subI (τ2 t_unused x4) 1) → (CI l mX3_fill (d - 1) [(2, t), (0, (addI x1 1))] N Λ τ3 (fun v5 σ4 => ((v5 = 0 → (Ix N Λ t_unused 0 x4 ∧ (Ix N Λ t_unused 0 x4 ∧ (∀ τ6, τ6 = st σ4 t_unused x4 (addI (σ4 t_unused x4) 1) → ((x2 = 0 → (∀ y7, y7 = addI x4 1 → WI l mX3_fill d P 89 [(2, t), (0, x1), (0, x2), (0, x3), (0, y7)] [] N Λ τ6)) ∧ (¬ (x2 = 0) → P 0 τ6)))))) ∧ (¬ (v5 = 0) → P 1 σ4))))))))))))))) :
    WI l mX3_fill d P 89 [(2, t), (0, x1), (0, x2), (0, x3), (0, x4)] [] N Λ σ := by
  have hd_1 : 1 ≤ d := Nat.le_trans (by decide) h0d
  refine r_iload (x := x4) d_X3_fill_89 rfl ?_
  refine r_bipush (x := 10) d_X3_fill_91 ⟨by decide, by decide⟩ (by decide) ?_
  refine r_ic_ge (tgt := 160) d_X3_fill_93 rfl (fun hc => ?_) (fun hc => ?_)
  · have h := h.1 hc
    refine r_iconst (x := 0) d_X3_fill_160 ⟨by decide, by decide⟩ ?_
    exact r_iret d_X3_fill_161 rfl (by decide) (Nat.le_refl 0) (Nat.le_refl 0) ⟨_, rfl, rfl, rfl, h⟩
  · have h := h.2 hc
    refine r_aload_n (x := t) d_X3_fill_96 rfl o_t.1 ?_
    refine r_getf (j := 0) (t := 2) (x := t_unused) d_X3_fill_97 kX3 (by decide) fl_X3_9 o_t.1 o_t.2.1 o_t.2.2.1 o_t.2.2.2 rfl f_t_unused ?_
    refine r_iload (x := x4) d_X3_fill_100 rfl ?_
    refine x_iald d_X3_fill_102 h.1 ?_
    have h := h.2
    refine r_if_le (tgt := 154) d_X3_fill_103 rfl (fun hc => ?_) (fun hc => ?_)
    · have h := h.1 hc
      refine x_iinc (x := x4) (L := [(2, t), (0, x1), (0, x2), (0, x3), (0, x4)]) d_X3_fill_154 rfl (by decide) rfl (fun y1 ey1 => ?_)
      have h := h y1 ey1
      show WP _ _ _ _ _ _ _ _ [(2, t), (0, x1), (0, x2), (0, x3), (0, y1)] _ _ _ _
      refine r_goto (tgt := 89) d_X3_fill_157 rfl ?_
      exact h
    · have h := h.2 hc
      refine r_aload_n (x := t) d_X3_fill_106 rfl o_t.1 ?_
      refine r_getf (j := 1) (t := 2) (x := t_cells) d_X3_fill_107 kX3 (by decide) fl_X3_15 o_t.1 o_t.2.1 o_t.2.2.1 o_t.2.2.2 rfl f_t_cells ?_
      refine r_iload_n (x := x1) d_X3_fill_110 rfl ?_
      refine r_iload (x := x4) d_X3_fill_111 rfl ?_
      refine x_iast d_X3_fill_113 h.1 ?_
      have h := h.2
      refine r_nmM (fun τ2 eτ2 => ?_)
      have h := h τ2 eτ2
      refine r_aload_n (x := t) d_X3_fill_114 rfl o_t.1 ?_
      refine r_getf (j := 0) (t := 2) (x := t_unused) d_X3_fill_115 kX3 (by decide) fl_X3_9 o_t.1 o_t.2.1 o_t.2.2.1 o_t.2.2.2 rfl f_t_unused ?_
      refine r_iload (x := x4) d_X3_fill_118 rfl ?_
      refine r_dup2 d_X3_fill_120 rfl rfl ?_
      refine x_iald d_X3_fill_121 h.1 ?_
      have h := h.2
      refine r_iconst (x := 1) d_X3_fill_122 ⟨by decide, by decide⟩ ?_
      refine r_isub d_X3_fill_123 ?_
      refine x_iast d_X3_fill_124 h.1 ?_
      have h := h.2
      refine r_nmM (fun τ3 eτ3 => ?_)
      have h := h τ3 eτ3
      refine r_aload_n (x := t) d_X3_fill_125 rfl o_t.1 ?_
      refine r_iload_n (x := x1) d_X3_fill_126 rfl ?_
      refine r_iconst (x := 1) d_X3_fill_127 ⟨by decide, by decide⟩ ?_
      refine r_iadd d_X3_fill_128 ?_
      refine x_callVI (Y2 := mX3_fill) (c := t) (As := [(0, (addI x1 1))]) (S := []) d_X3_fill_129 ok_mX3_fill ml_X3_33 rfl (Nat.le_of_ble_eq_true rfl) (Nat.le_of_ble_eq_true rfl) rfl hd_1 kX3 o_t (CI.mono h (fun v5 σ4 h => ?_))
      refine r_if_eq (tgt := 137) d_X3_fill_132 rfl (fun hc => ?_) (fun hc => ?_)
      · have h := h.1 hc
        refine r_aload_n (x := t) d_X3_fill_137 rfl o_t.1 ?_
        refine r_getf (j := 0) (t := 2) (x := t_unused) d_X3_fill_138 kX3 (by decide) fl_X3_9 o_t.1 o_t.2.1 o_t.2.2.1 o_t.2.2.2 rfl f_t_unused ?_
        refine r_iload (x := x4) d_X3_fill_141 rfl ?_
        refine r_dup2 d_X3_fill_143 rfl rfl ?_
        refine x_iald d_X3_fill_144 h.1 ?_
        have h := h.2
        refine r_iconst (x := 1) d_X3_fill_145 ⟨by decide, by decide⟩ ?_
        refine r_iadd d_X3_fill_146 ?_
        refine x_iast d_X3_fill_147 h.1 ?_
        have h := h.2
        refine r_nmM (fun τ6 eτ6 => ?_)
        have h := h τ6 eτ6
        refine r_iload_n (x := x2) d_X3_fill_148 rfl ?_
        refine r_if_eq (tgt := 154) d_X3_fill_149 rfl (fun hc => ?_) (fun hc => ?_)
        · have h := h.1 hc
          refine x_iinc (x := x4) (L := [(2, t), (0, x1), (0, x2), (0, x3), (0, x4)]) d_X3_fill_154 rfl (by decide) rfl (fun y7 ey7 => ?_)
          have h := h y7 ey7
          show WP _ _ _ _ _ _ _ _ [(2, t), (0, x1), (0, x2), (0, x3), (0, y7)] _ _ _ _
          refine r_goto (tgt := 89) d_X3_fill_157 rfl ?_
          exact h
        · have h := h.2 hc
          refine r_iconst (x := 0) d_X3_fill_152 ⟨by decide, by decide⟩ ?_
          exact r_iret d_X3_fill_153 rfl (by decide) (Nat.le_refl 0) (Nat.le_refl 0) ⟨_, rfl, rfl, rfl, h⟩
      · have h := h.2 hc
        refine r_iconst (x := 1) d_X3_fill_135 ⟨by decide, by decide⟩ ?_
        exact r_iret d_X3_fill_136 rfl (by decide) (Nat.le_refl 0) (Nat.le_refl 0) ⟨_, rfl, rfl, rfl, h⟩
