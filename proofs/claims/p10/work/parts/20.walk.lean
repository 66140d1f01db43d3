theorem d_X0_begin_0 : DC mX0_begin 0 (.aload_n 0) 1 1 := ⟨by decide +kernel, rfl⟩
theorem d_X0_begin_1 : DC mX0_begin 1 (.iconst 0) 1 2 := ⟨by decide +kernel, rfl⟩
theorem d_X0_begin_2 : DC mX0_begin 2 (.putfield 20) 3 5 := ⟨by decide +kernel, rfl⟩
theorem d_X0_begin_5 : DC mX0_begin 5 (.aload_n 0) 1 6 := ⟨by decide +kernel, rfl⟩
theorem d_X0_begin_6 : DC mX0_begin 6 (.iconst 0) 1 7 := ⟨by decide +kernel, rfl⟩
theorem d_X0_begin_7 : DC mX0_begin 7 (.putfield 24) 3 10 := ⟨by decide +kernel, rfl⟩
theorem d_X0_begin_10 : DC mX0_begin 10 (.return_) 1 11 := ⟨by decide +kernel, rfl⟩
theorem d_J7_fill_53178_0 : DC mJ7_fill_53178 0 (.iconst 0) 1 1 := ⟨by decide +kernel, rfl⟩
theorem d_J7_fill_53178_1 : DC mJ7_fill_53178 1 (.istore_n 2) 1 2 := ⟨by decide +kernel, rfl⟩
theorem d_J7_fill_53178_2 : DC mJ7_fill_53178 2 (.aload_n 0) 1 3 := ⟨by decide +kernel, rfl⟩
theorem d_J7_fill_53178_3 : DC mJ7_fill_53178 3 (.arraylength) 1 4 := ⟨by decide +kernel, rfl⟩
theorem d_J7_fill_53178_4 : DC mJ7_fill_53178 4 (.istore_n 3) 1 5 := ⟨by decide +kernel, rfl⟩
theorem d_J7_fill_53178_5 : DC mJ7_fill_53178 5 (.iload_n 2) 1 6 := ⟨by decide +kernel, rfl⟩
theorem d_J7_fill_53178_6 : DC mJ7_fill_53178 6 (.iload_n 3) 1 7 := ⟨by decide +kernel, rfl⟩
theorem d_J7_fill_53178_7 : DC mJ7_fill_53178 7 (.if_icmp .ge 13) 3 10 := ⟨by decide +kernel, rfl⟩
theorem d_J7_fill_53178_10 : DC mJ7_fill_53178 10 (.aload_n 0) 1 11 := ⟨by decide +kernel, rfl⟩
theorem d_J7_fill_53178_11 : DC mJ7_fill_53178 11 (.iload_n 2) 1 12 := ⟨by decide +kernel, rfl⟩
theorem d_J7_fill_53178_12 : DC mJ7_fill_53178 12 (.iload_n 1) 1 13 := ⟨by decide +kernel, rfl⟩
theorem d_J7_fill_53178_13 : DC mJ7_fill_53178 13 (.iastore) 1 14 := ⟨by decide +kernel, rfl⟩
theorem d_J7_fill_53178_14 : DC mJ7_fill_53178 14 (.iinc 2 1) 3 17 := ⟨by decide +kernel, rfl⟩
theorem d_J7_fill_53178_17 : DC mJ7_fill_53178 17 (.goto (-12)) 3 20 := ⟨by decide +kernel, rfl⟩
theorem d_J7_fill_53178_20 : DC mJ7_fill_53178 20 (.return_) 1 21 := ⟨by decide +kernel, rfl⟩
theorem d_X0_columnOf_0 : DC mX0_columnOf 0 (.iconst 0) 1 1 := ⟨by decide +kernel, rfl⟩
theorem d_X0_columnOf_1 : DC mX0_columnOf 1 (.istore_n 3) 1 2 := ⟨by decide +kernel, rfl⟩
theorem d_X0_columnOf_2 : DC mX0_columnOf 2 (.iload_n 3) 1 3 := ⟨by decide +kernel, rfl⟩
theorem d_X0_columnOf_3 : DC mX0_columnOf 3 (.aload_n 0) 1 4 := ⟨by decide +kernel, rfl⟩
theorem d_X0_columnOf_4 : DC mX0_columnOf 4 (.getfield 20) 3 7 := ⟨by decide +kernel, rfl⟩
theorem d_X0_columnOf_7 : DC mX0_columnOf 7 (.if_icmp .ge 20) 3 10 := ⟨by decide +kernel, rfl⟩
theorem d_X0_columnOf_10 : DC mX0_columnOf 10 (.aload_n 0) 1 11 := ⟨by decide +kernel, rfl⟩
theorem d_X0_columnOf_11 : DC mX0_columnOf 11 (.getfield 11) 3 14 := ⟨by decide +kernel, rfl⟩
theorem d_X0_columnOf_14 : DC mX0_columnOf 14 (.iload_n 3) 1 15 := ⟨by decide +kernel, rfl⟩
theorem d_X0_columnOf_15 : DC mX0_columnOf 15 (.laload) 1 16 := ⟨by decide +kernel, rfl⟩
theorem d_X0_columnOf_16 : DC mX0_columnOf 16 (.lload_n 1) 1 17 := ⟨by decide +kernel, rfl⟩
theorem d_X0_columnOf_17 : DC mX0_columnOf 17 (.lcmp) 1 18 := ⟨by decide +kernel, rfl⟩
theorem d_X0_columnOf_18 : DC mX0_columnOf 18 (.ifCond .eq 9) 3 21 := ⟨by decide +kernel, rfl⟩
theorem d_X0_columnOf_21 : DC mX0_columnOf 21 (.iinc 3 1) 3 24 := ⟨by decide +kernel, rfl⟩
theorem d_X0_columnOf_24 : DC mX0_columnOf 24 (.goto (-22)) 3 27 := ⟨by decide +kernel, rfl⟩
theorem d_X0_columnOf_27 : DC mX0_columnOf 27 (.iload_n 3) 1 28 := ⟨by decide +kernel, rfl⟩
theorem d_X0_columnOf_28 : DC mX0_columnOf 28 (.aload_n 0) 1 29 := ⟨by decide +kernel, rfl⟩
theorem d_X0_columnOf_29 : DC mX0_columnOf 29 (.getfield 20) 3 32 := ⟨by decide +kernel, rfl⟩
theorem d_X0_columnOf_32 : DC mX0_columnOf 32 (.if_icmp .ne 30) 3 35 := ⟨by decide +kernel, rfl⟩
theorem d_X0_columnOf_35 : DC mX0_columnOf 35 (.aload_n 0) 1 36 := ⟨by decide +kernel, rfl⟩
theorem d_X0_columnOf_36 : DC mX0_columnOf 36 (.getfield 20) 3 39 := ⟨by decide +kernel, rfl⟩
theorem d_X0_columnOf_39 : DC mX0_columnOf 39 (.sipush 480) 3 42 := ⟨by decide +kernel, rfl⟩
theorem d_X0_columnOf_42 : DC mX0_columnOf 42 (.if_icmp .ge 20) 3 45 := ⟨by decide +kernel, rfl⟩
theorem d_X0_columnOf_45 : DC mX0_columnOf 45 (.aload_n 0) 1 46 := ⟨by decide +kernel, rfl⟩
theorem d_X0_columnOf_46 : DC mX0_columnOf 46 (.getfield 11) 3 49 := ⟨by decide +kernel, rfl⟩
theorem d_X0_columnOf_49 : DC mX0_columnOf 49 (.iload_n 3) 1 50 := ⟨by decide +kernel, rfl⟩
theorem d_X0_columnOf_50 : DC mX0_columnOf 50 (.lload_n 1) 1 51 := ⟨by decide +kernel, rfl⟩
theorem d_X0_columnOf_51 : DC mX0_columnOf 51 (.lastore) 1 52 := ⟨by decide +kernel, rfl⟩
theorem d_X0_columnOf_52 : DC mX0_columnOf 52 (.aload_n 0) 1 53 := ⟨by decide +kernel, rfl⟩
theorem d_X0_columnOf_53 : DC mX0_columnOf 53 (.dup) 1 54 := ⟨by decide +kernel, rfl⟩
theorem d_X0_columnOf_54 : DC mX0_columnOf 54 (.getfield 20) 3 57 := ⟨by decide +kernel, rfl⟩
theorem d_X0_columnOf_57 : DC mX0_columnOf 57 (.iconst 1) 1 58 := ⟨by decide +kernel, rfl⟩
theorem d_X0_columnOf_58 : DC mX0_columnOf 58 (.iadd) 1 59 := ⟨by decide +kernel, rfl⟩
theorem d_X0_columnOf_59 : DC mX0_columnOf 59 (.putfield 20) 3 62 := ⟨by decide +kernel, rfl⟩
theorem d_X0_columnOf_62 : DC mX0_columnOf 62 (.iload_n 3) 1 63 := ⟨by decide +kernel, rfl⟩
theorem d_X0_columnOf_63 : DC mX0_columnOf 63 (.ireturn) 1 64 := ⟨by decide +kernel, rfl⟩
theorem d_J9_floorMod_7cf53_0 : DC mJ9_floorMod_7cf53 0 (.iload_n 0) 1 1 := ⟨by decide +kernel, rfl⟩
theorem d_J9_floorMod_7cf53_1 : DC mJ9_floorMod_7cf53 1 (.iload_n 1) 1 2 := ⟨by decide +kernel, rfl⟩
theorem d_J9_floorMod_7cf53_2 : DC mJ9_floorMod_7cf53 2 (.irem) 1 3 := ⟨by decide +kernel, rfl⟩
theorem d_J9_floorMod_7cf53_3 : DC mJ9_floorMod_7cf53 3 (.istore_n 2) 1 4 := ⟨by decide +kernel, rfl⟩
theorem d_J9_floorMod_7cf53_4 : DC mJ9_floorMod_7cf53 4 (.iload_n 0) 1 5 := ⟨by decide +kernel, rfl⟩
theorem d_J9_floorMod_7cf53_5 : DC mJ9_floorMod_7cf53 5 (.iload_n 1) 1 6 := ⟨by decide +kernel, rfl⟩
theorem d_J9_floorMod_7cf53_6 : DC mJ9_floorMod_7cf53 6 (.ixor) 1 7 := ⟨by decide +kernel, rfl⟩
theorem d_J9_floorMod_7cf53_7 : DC mJ9_floorMod_7cf53 7 (.ifCond .ge 11) 3 10 := ⟨by decide +kernel, rfl⟩
theorem d_J9_floorMod_7cf53_10 : DC mJ9_floorMod_7cf53 10 (.iload_n 2) 1 11 := ⟨by decide +kernel, rfl⟩
theorem d_J9_floorMod_7cf53_11 : DC mJ9_floorMod_7cf53 11 (.ifCond .eq 7) 3 14 := ⟨by decide +kernel, rfl⟩
theorem d_J9_floorMod_7cf53_14 : DC mJ9_floorMod_7cf53 14 (.iload_n 2) 1 15 := ⟨by decide +kernel, rfl⟩
theorem d_J9_floorMod_7cf53_15 : DC mJ9_floorMod_7cf53 15 (.iload_n 1) 1 16 := ⟨by decide +kernel, rfl⟩
theorem d_J9_floorMod_7cf53_16 : DC mJ9_floorMod_7cf53 16 (.iadd) 1 17 := ⟨by decide +kernel, rfl⟩
theorem d_J9_floorMod_7cf53_17 : DC mJ9_floorMod_7cf53 17 (.ireturn) 1 18 := ⟨by decide +kernel, rfl⟩
theorem d_J9_floorMod_7cf53_18 : DC mJ9_floorMod_7cf53 18 (.iload_n 2) 1 19 := ⟨by decide +kernel, rfl⟩
theorem d_J9_floorMod_7cf53_19 : DC mJ9_floorMod_7cf53 19 (.ireturn) 1 20 := ⟨by decide +kernel, rfl⟩
theorem d_X0_takeRow_0 : DC mX0_takeRow 0 (.aload_n 0) 1 1 := ⟨by decide +kernel, rfl⟩
theorem d_X0_takeRow_1 : DC mX0_takeRow 1 (.getfield 24) 3 4 := ⟨by decide +kernel, rfl⟩
theorem d_X0_takeRow_4 : DC mX0_takeRow 4 (.bipush 6) 2 6 := ⟨by decide +kernel, rfl⟩
theorem d_X0_takeRow_6 : DC mX0_takeRow 6 (.if_icmp .lt 4) 3 9 := ⟨by decide +kernel, rfl⟩
theorem d_X0_takeRow_9 : DC mX0_takeRow 9 (.return_) 1 10 := ⟨by decide +kernel, rfl⟩
theorem d_X0_takeRow_10 : DC mX0_takeRow 10 (.aload_n 0) 1 11 := ⟨by decide +kernel, rfl⟩
theorem d_X0_takeRow_11 : DC mX0_takeRow 11 (.getfield 17) 3 14 := ⟨by decide +kernel, rfl⟩
theorem d_X0_takeRow_14 : DC mX0_takeRow 14 (.aload_n 0) 1 15 := ⟨by decide +kernel, rfl⟩
theorem d_X0_takeRow_15 : DC mX0_takeRow 15 (.getfield 24) 3 18 := ⟨by decide +kernel, rfl⟩
theorem d_X0_takeRow_18 : DC mX0_takeRow 18 (.aaload) 1 19 := ⟨by decide +kernel, rfl⟩
theorem d_X0_takeRow_19 : DC mX0_takeRow 19 (.iconst 0) 1 20 := ⟨by decide +kernel, rfl⟩
theorem d_X0_takeRow_20 : DC mX0_takeRow 20 (.invokestatic 27) 3 23 := ⟨by decide +kernel, rfl⟩
theorem d_X0_takeRow_23 : DC mX0_takeRow 23 (.iconst 0) 1 24 := ⟨by decide +kernel, rfl⟩
theorem d_X0_takeRow_24 : DC mX0_takeRow 24 (.istore_n 2) 1 25 := ⟨by decide +kernel, rfl⟩
theorem d_X0_takeRow_25 : DC mX0_takeRow 25 (.iload_n 2) 1 26 := ⟨by decide +kernel, rfl⟩
theorem d_X0_takeRow_26 : DC mX0_takeRow 26 (.aload_n 1) 1 27 := ⟨by decide +kernel, rfl⟩
theorem d_X0_takeRow_27 : DC mX0_takeRow 27 (.getfield 33) 3 30 := ⟨by decide +kernel, rfl⟩
theorem d_X0_takeRow_30 : DC mX0_takeRow 30 (.if_icmp .ge 49) 3 33 := ⟨by decide +kernel, rfl⟩
theorem d_X0_takeRow_33 : DC mX0_takeRow 33 (.aload_n 0) 1 34 := ⟨by decide +kernel, rfl⟩
theorem d_X0_takeRow_34 : DC mX0_takeRow 34 (.aload_n 1) 1 35 := ⟨by decide +kernel, rfl⟩
theorem d_X0_takeRow_35 : DC mX0_takeRow 35 (.getfield 38) 3 38 := ⟨by decide +kernel, rfl⟩
theorem d_X0_takeRow_38 : DC mX0_takeRow 38 (.iload_n 2) 1 39 := ⟨by decide +kernel, rfl⟩
theorem d_X0_takeRow_39 : DC mX0_takeRow 39 (.laload) 1 40 := ⟨by decide +kernel, rfl⟩
theorem d_X0_takeRow_40 : DC mX0_takeRow 40 (.invokevirtual 41) 3 43 := ⟨by decide +kernel, rfl⟩
theorem d_X0_takeRow_43 : DC mX0_takeRow 43 (.istore_n 3) 1 44 := ⟨by decide +kernel, rfl⟩
theorem d_X0_takeRow_44 : DC mX0_takeRow 44 (.iload_n 3) 1 45 := ⟨by decide +kernel, rfl⟩
theorem d_X0_takeRow_45 : DC mX0_takeRow 45 (.sipush 480) 3 48 := ⟨by decide +kernel, rfl⟩
theorem d_X0_takeRow_48 : DC mX0_takeRow 48 (.if_icmp .ge 25) 3 51 := ⟨by decide +kernel, rfl⟩
theorem d_X0_takeRow_51 : DC mX0_takeRow 51 (.aload_n 0) 1 52 := ⟨by decide +kernel, rfl⟩
theorem d_X0_takeRow_52 : DC mX0_takeRow 52 (.getfield 17) 3 55 := ⟨by decide +kernel, rfl⟩
theorem d_X0_takeRow_55 : DC mX0_takeRow 55 (.aload_n 0) 1 56 := ⟨by decide +kernel, rfl⟩
theorem d_X0_takeRow_56 : DC mX0_takeRow 56 (.getfield 24) 3 59 := ⟨by decide +kernel, rfl⟩
theorem d_X0_takeRow_59 : DC mX0_takeRow 59 (.aaload) 1 60 := ⟨by decide +kernel, rfl⟩
theorem d_X0_takeRow_60 : DC mX0_takeRow 60 (.iload_n 3) 1 61 := ⟨by decide +kernel, rfl⟩
theorem d_X0_takeRow_61 : DC mX0_takeRow 61 (.aload_n 1) 1 62 := ⟨by decide +kernel, rfl⟩
theorem d_X0_takeRow_62 : DC mX0_takeRow 62 (.getfield 45) 3 65 := ⟨by decide +kernel, rfl⟩
theorem d_X0_takeRow_65 : DC mX0_takeRow 65 (.iload_n 2) 1 66 := ⟨by decide +kernel, rfl⟩
theorem d_X0_takeRow_66 : DC mX0_takeRow 66 (.iaload) 1 67 := ⟨by decide +kernel, rfl⟩
theorem d_X0_takeRow_67 : DC mX0_takeRow 67 (.ldc 49) 2 69 := ⟨by decide +kernel, rfl⟩
theorem d_X0_takeRow_69 : DC mX0_takeRow 69 (.invokestatic 50) 3 72 := ⟨by decide +kernel, rfl⟩
theorem d_X0_takeRow_72 : DC mX0_takeRow 72 (.iastore) 1 73 := ⟨by decide +kernel, rfl⟩
theorem d_X0_takeRow_73 : DC mX0_takeRow 73 (.iinc 2 1) 3 76 := ⟨by decide +kernel, rfl⟩
theorem d_X0_takeRow_76 : DC mX0_takeRow 76 (.goto (-51)) 3 79 := ⟨by decide +kernel, rfl⟩
theorem d_X0_takeRow_79 : DC mX0_takeRow 79 (.aload_n 0) 1 80 := ⟨by decide +kernel, rfl⟩
theorem d_X0_takeRow_80 : DC mX0_takeRow 80 (.dup) 1 81 := ⟨by decide +kernel, rfl⟩
theorem d_X0_takeRow_81 : DC mX0_takeRow 81 (.getfield 24) 3 84 := ⟨by decide +kernel, rfl⟩
theorem d_X0_takeRow_84 : DC mX0_takeRow 84 (.iconst 1) 1 85 := ⟨by decide +kernel, rfl⟩
theorem d_X0_takeRow_85 : DC mX0_takeRow 85 (.iadd) 1 86 := ⟨by decide +kernel, rfl⟩
theorem d_X0_takeRow_86 : DC mX0_takeRow 86 (.putfield 24) 3 89 := ⟨by decide +kernel, rfl⟩
theorem d_X0_takeRow_89 : DC mX0_takeRow 89 (.return_) 1 90 := ⟨by decide +kernel, rfl⟩
theorem d_J9_floorMod_f86c9_0 : DC mJ9_floorMod_f86c9 0 (.lload_n 0) 1 1 := ⟨by decide +kernel, rfl⟩
theorem d_J9_floorMod_f86c9_1 : DC mJ9_floorMod_f86c9 1 (.lload_n 2) 1 2 := ⟨by decide +kernel, rfl⟩
theorem d_J9_floorMod_f86c9_2 : DC mJ9_floorMod_f86c9 2 (.lrem) 1 3 := ⟨by decide +kernel, rfl⟩
theorem d_J9_floorMod_f86c9_3 : DC mJ9_floorMod_f86c9 3 (.lstore 4) 2 5 := ⟨by decide +kernel, rfl⟩
theorem d_J9_floorMod_f86c9_5 : DC mJ9_floorMod_f86c9 5 (.lload_n 0) 1 6 := ⟨by decide +kernel, rfl⟩
theorem d_J9_floorMod_f86c9_6 : DC mJ9_floorMod_f86c9 6 (.lload_n 2) 1 7 := ⟨by decide +kernel, rfl⟩
theorem d_J9_floorMod_f86c9_7 : DC mJ9_floorMod_f86c9 7 (.lxor) 1 8 := ⟨by decide +kernel, rfl⟩
theorem d_J9_floorMod_f86c9_8 : DC mJ9_floorMod_f86c9 8 (.lconst 0) 1 9 := ⟨by decide +kernel, rfl⟩
theorem d_J9_floorMod_f86c9_9 : DC mJ9_floorMod_f86c9 9 (.lcmp) 1 10 := ⟨by decide +kernel, rfl⟩
theorem d_J9_floorMod_f86c9_10 : DC mJ9_floorMod_f86c9 10 (.ifCond .ge 15) 3 13 := ⟨by decide +kernel, rfl⟩
theorem d_J9_floorMod_f86c9_13 : DC mJ9_floorMod_f86c9 13 (.lload 4) 2 15 := ⟨by decide +kernel, rfl⟩
theorem d_J9_floorMod_f86c9_15 : DC mJ9_floorMod_f86c9 15 (.lconst 0) 1 16 := ⟨by decide +kernel, rfl⟩
theorem d_J9_floorMod_f86c9_16 : DC mJ9_floorMod_f86c9 16 (.lcmp) 1 17 := ⟨by decide +kernel, rfl⟩
theorem d_J9_floorMod_f86c9_17 : DC mJ9_floorMod_f86c9 17 (.ifCond .eq 8) 3 20 := ⟨by decide +kernel, rfl⟩
theorem d_J9_floorMod_f86c9_20 : DC mJ9_floorMod_f86c9 20 (.lload 4) 2 22 := ⟨by decide +kernel, rfl⟩
theorem d_J9_floorMod_f86c9_22 : DC mJ9_floorMod_f86c9 22 (.lload_n 2) 1 23 := ⟨by decide +kernel, rfl⟩
theorem d_J9_floorMod_f86c9_23 : DC mJ9_floorMod_f86c9 23 (.ladd) 1 24 := ⟨by decide +kernel, rfl⟩
theorem d_J9_floorMod_f86c9_24 : DC mJ9_floorMod_f86c9 24 (.lreturn) 1 25 := ⟨by decide +kernel, rfl⟩
theorem d_J9_floorMod_f86c9_25 : DC mJ9_floorMod_f86c9 25 (.lload 4) 2 27 := ⟨by decide +kernel, rfl⟩
theorem d_J9_floorMod_f86c9_27 : DC mJ9_floorMod_f86c9 27 (.lreturn) 1 28 := ⟨by decide +kernel, rfl⟩
theorem d_X0_clearColumn_0 : DC mX0_clearColumn 0 (.aload_n 0) 1 1 := ⟨by decide +kernel, rfl⟩
theorem d_X0_clearColumn_1 : DC mX0_clearColumn 1 (.getfield 17) 3 4 := ⟨by decide +kernel, rfl⟩
theorem d_X0_clearColumn_4 : DC mX0_clearColumn 4 (.iload_n 3) 1 5 := ⟨by decide +kernel, rfl⟩
theorem d_X0_clearColumn_5 : DC mX0_clearColumn 5 (.aaload) 1 6 := ⟨by decide +kernel, rfl⟩
theorem d_X0_clearColumn_6 : DC mX0_clearColumn 6 (.iload_n 1) 1 7 := ⟨by decide +kernel, rfl⟩
theorem d_X0_clearColumn_7 : DC mX0_clearColumn 7 (.iaload) 1 8 := ⟨by decide +kernel, rfl⟩
theorem d_X0_clearColumn_8 : DC mX0_clearColumn 8 (.i2l) 1 9 := ⟨by decide +kernel, rfl⟩
theorem d_X0_clearColumn_9 : DC mX0_clearColumn 9 (.lstore 4) 2 11 := ⟨by decide +kernel, rfl⟩
theorem d_X0_clearColumn_11 : DC mX0_clearColumn 11 (.aload_n 0) 1 12 := ⟨by decide +kernel, rfl⟩
theorem d_X0_clearColumn_12 : DC mX0_clearColumn 12 (.getfield 17) 3 15 := ⟨by decide +kernel, rfl⟩
theorem d_X0_clearColumn_15 : DC mX0_clearColumn 15 (.iload_n 2) 1 16 := ⟨by decide +kernel, rfl⟩
theorem d_X0_clearColumn_16 : DC mX0_clearColumn 16 (.aaload) 1 17 := ⟨by decide +kernel, rfl⟩
theorem d_X0_clearColumn_17 : DC mX0_clearColumn 17 (.iload_n 1) 1 18 := ⟨by decide +kernel, rfl⟩
theorem d_X0_clearColumn_18 : DC mX0_clearColumn 18 (.iaload) 1 19 := ⟨by decide +kernel, rfl⟩
theorem d_X0_clearColumn_19 : DC mX0_clearColumn 19 (.i2l) 1 20 := ⟨by decide +kernel, rfl⟩
theorem d_X0_clearColumn_20 : DC mX0_clearColumn 20 (.lstore 6) 2 22 := ⟨by decide +kernel, rfl⟩
theorem d_X0_clearColumn_22 : DC mX0_clearColumn 22 (.iload_n 1) 1 23 := ⟨by decide +kernel, rfl⟩
theorem d_X0_clearColumn_23 : DC mX0_clearColumn 23 (.istore 8) 2 25 := ⟨by decide +kernel, rfl⟩
theorem d_X0_clearColumn_25 : DC mX0_clearColumn 25 (.iload 8) 2 27 := ⟨by decide +kernel, rfl⟩
theorem d_X0_clearColumn_27 : DC mX0_clearColumn 27 (.aload_n 0) 1 28 := ⟨by decide +kernel, rfl⟩
theorem d_X0_clearColumn_28 : DC mX0_clearColumn 28 (.getfield 20) 3 31 := ⟨by decide +kernel, rfl⟩
theorem d_X0_clearColumn_31 : DC mX0_clearColumn 31 (.if_icmp .ge 59) 3 34 := ⟨by decide +kernel, rfl⟩
theorem d_X0_clearColumn_34 : DC mX0_clearColumn 34 (.lload 4) 2 36 := ⟨by decide +kernel, rfl⟩
theorem d_X0_clearColumn_36 : DC mX0_clearColumn 36 (.lconst 0) 1 37 := ⟨by decide +kernel, rfl⟩
theorem d_X0_clearColumn_37 : DC mX0_clearColumn 37 (.lcmp) 1 38 := ⟨by decide +kernel, rfl⟩
theorem d_X0_clearColumn_38 : DC mX0_clearColumn 38 (.ifCond .eq 52) 3 41 := ⟨by decide +kernel, rfl⟩
theorem d_X0_clearColumn_41 : DC mX0_clearColumn 41 (.aload_n 0) 1 42 := ⟨by decide +kernel, rfl⟩
theorem d_X0_clearColumn_42 : DC mX0_clearColumn 42 (.getfield 17) 3 45 := ⟨by decide +kernel, rfl⟩
theorem d_X0_clearColumn_45 : DC mX0_clearColumn 45 (.iload_n 3) 1 46 := ⟨by decide +kernel, rfl⟩
theorem d_X0_clearColumn_46 : DC mX0_clearColumn 46 (.aaload) 1 47 := ⟨by decide +kernel, rfl⟩
theorem d_X0_clearColumn_47 : DC mX0_clearColumn 47 (.iload 8) 2 49 := ⟨by decide +kernel, rfl⟩
theorem d_X0_clearColumn_49 : DC mX0_clearColumn 49 (.aload_n 0) 1 50 := ⟨by decide +kernel, rfl⟩
theorem d_X0_clearColumn_50 : DC mX0_clearColumn 50 (.getfield 17) 3 53 := ⟨by decide +kernel, rfl⟩
theorem d_X0_clearColumn_53 : DC mX0_clearColumn 53 (.iload_n 3) 1 54 := ⟨by decide +kernel, rfl⟩
theorem d_X0_clearColumn_54 : DC mX0_clearColumn 54 (.aaload) 1 55 := ⟨by decide +kernel, rfl⟩
theorem d_X0_clearColumn_55 : DC mX0_clearColumn 55 (.iload 8) 2 57 := ⟨by decide +kernel, rfl⟩
theorem d_X0_clearColumn_57 : DC mX0_clearColumn 57 (.iaload) 1 58 := ⟨by decide +kernel, rfl⟩
theorem d_X0_clearColumn_58 : DC mX0_clearColumn 58 (.i2l) 1 59 := ⟨by decide +kernel, rfl⟩
theorem d_X0_clearColumn_59 : DC mX0_clearColumn 59 (.lload 6) 2 61 := ⟨by decide +kernel, rfl⟩
theorem d_X0_clearColumn_61 : DC mX0_clearColumn 61 (.lmul) 1 62 := ⟨by decide +kernel, rfl⟩
theorem d_X0_clearColumn_62 : DC mX0_clearColumn 62 (.aload_n 0) 1 63 := ⟨by decide +kernel, rfl⟩
theorem d_X0_clearColumn_63 : DC mX0_clearColumn 63 (.getfield 17) 3 66 := ⟨by decide +kernel, rfl⟩
theorem d_X0_clearColumn_66 : DC mX0_clearColumn 66 (.iload_n 2) 1 67 := ⟨by decide +kernel, rfl⟩
theorem d_X0_clearColumn_67 : DC mX0_clearColumn 67 (.aaload) 1 68 := ⟨by decide +kernel, rfl⟩
theorem d_X0_clearColumn_68 : DC mX0_clearColumn 68 (.iload 8) 2 70 := ⟨by decide +kernel, rfl⟩
theorem d_X0_clearColumn_70 : DC mX0_clearColumn 70 (.iaload) 1 71 := ⟨by decide +kernel, rfl⟩
theorem d_X0_clearColumn_71 : DC mX0_clearColumn 71 (.i2l) 1 72 := ⟨by decide +kernel, rfl⟩
theorem d_X0_clearColumn_72 : DC mX0_clearColumn 72 (.lload 4) 2 74 := ⟨by decide +kernel, rfl⟩
theorem d_X0_clearColumn_74 : DC mX0_clearColumn 74 (.lmul) 1 75 := ⟨by decide +kernel, rfl⟩
theorem d_X0_clearColumn_75 : DC mX0_clearColumn 75 (.lsub) 1 76 := ⟨by decide +kernel, rfl⟩
theorem d_X0_clearColumn_76 : DC mX0_clearColumn 76 (.ldc2_w 64) 3 79 := ⟨by decide +kernel, rfl⟩
theorem d_X0_clearColumn_79 : DC mX0_clearColumn 79 (.invokestatic 66) 3 82 := ⟨by decide +kernel, rfl⟩
theorem d_X0_clearColumn_82 : DC mX0_clearColumn 82 (.l2i) 1 83 := ⟨by decide +kernel, rfl⟩
theorem d_X0_clearColumn_83 : DC mX0_clearColumn 83 (.iastore) 1 84 := ⟨by decide +kernel, rfl⟩
theorem d_X0_clearColumn_84 : DC mX0_clearColumn 84 (.iinc 8 1) 3 87 := ⟨by decide +kernel, rfl⟩
theorem d_X0_clearColumn_87 : DC mX0_clearColumn 87 (.goto (-62)) 3 90 := ⟨by decide +kernel, rfl⟩
theorem d_X0_clearColumn_90 : DC mX0_clearColumn 90 (.return_) 1 91 := ⟨by decide +kernel, rfl⟩
theorem d_X0_independentRows_0 : DC mX0_independentRows 0 (.iconst 0) 1 1 := ⟨by decide +kernel, rfl⟩
theorem d_X0_independentRows_1 : DC mX0_independentRows 1 (.istore_n 1) 1 2 := ⟨by decide +kernel, rfl⟩
theorem d_X0_independentRows_2 : DC mX0_independentRows 2 (.iconst 0) 1 3 := ⟨by decide +kernel, rfl⟩
theorem d_X0_independentRows_3 : DC mX0_independentRows 3 (.istore_n 2) 1 4 := ⟨by decide +kernel, rfl⟩
theorem d_X0_independentRows_4 : DC mX0_independentRows 4 (.iload_n 2) 1 5 := ⟨by decide +kernel, rfl⟩
theorem d_X0_independentRows_5 : DC mX0_independentRows 5 (.aload_n 0) 1 6 := ⟨by decide +kernel, rfl⟩
theorem d_X0_independentRows_6 : DC mX0_independentRows 6 (.getfield 20) 3 9 := ⟨by decide +kernel, rfl⟩
theorem d_X0_independentRows_9 : DC mX0_independentRows 9 (.if_icmp .ge 54) 3 12 := ⟨by decide +kernel, rfl⟩
theorem d_X0_independentRows_12 : DC mX0_independentRows 12 (.iload_n 1) 1 13 := ⟨by decide +kernel, rfl⟩
theorem d_X0_independentRows_13 : DC mX0_independentRows 13 (.aload_n 0) 1 14 := ⟨by decide +kernel, rfl⟩
theorem d_X0_independentRows_14 : DC mX0_independentRows 14 (.getfield 24) 3 17 := ⟨by decide +kernel, rfl⟩
theorem d_X0_independentRows_17 : DC mX0_independentRows 17 (.if_icmp .ge 46) 3 20 := ⟨by decide +kernel, rfl⟩
theorem d_X0_independentRows_20 : DC mX0_independentRows 20 (.aload_n 0) 1 21 := ⟨by decide +kernel, rfl⟩
theorem d_X0_independentRows_21 : DC mX0_independentRows 21 (.iload_n 2) 1 22 := ⟨by decide +kernel, rfl⟩
theorem d_X0_independentRows_22 : DC mX0_independentRows 22 (.iload_n 1) 1 23 := ⟨by decide +kernel, rfl⟩
theorem d_X0_independentRows_23 : DC mX0_independentRows 23 (.invokevirtual 56) 3 26 := ⟨by decide +kernel, rfl⟩
theorem d_X0_independentRows_26 : DC mX0_independentRows 26 (.ifCond .eq 31) 3 29 := ⟨by decide +kernel, rfl⟩
theorem d_X0_independentRows_29 : DC mX0_independentRows 29 (.iload_n 1) 1 30 := ⟨by decide +kernel, rfl⟩
theorem d_X0_independentRows_30 : DC mX0_independentRows 30 (.iconst 1) 1 31 := ⟨by decide +kernel, rfl⟩
theorem d_X0_independentRows_31 : DC mX0_independentRows 31 (.iadd) 1 32 := ⟨by decide +kernel, rfl⟩
theorem d_X0_independentRows_32 : DC mX0_independentRows 32 (.istore_n 3) 1 33 := ⟨by decide +kernel, rfl⟩
theorem d_X0_independentRows_33 : DC mX0_independentRows 33 (.iload_n 3) 1 34 := ⟨by decide +kernel, rfl⟩
theorem d_X0_independentRows_34 : DC mX0_independentRows 34 (.aload_n 0) 1 35 := ⟨by decide +kernel, rfl⟩
theorem d_X0_independentRows_35 : DC mX0_independentRows 35 (.getfield 24) 3 38 := ⟨by decide +kernel, rfl⟩
theorem d_X0_independentRows_38 : DC mX0_independentRows 38 (.if_icmp .ge 16) 3 41 := ⟨by decide +kernel, rfl⟩
theorem d_X0_independentRows_41 : DC mX0_independentRows 41 (.aload_n 0) 1 42 := ⟨by decide +kernel, rfl⟩
theorem d_X0_independentRows_42 : DC mX0_independentRows 42 (.iload_n 2) 1 43 := ⟨by decide +kernel, rfl⟩
theorem d_X0_independentRows_43 : DC mX0_independentRows 43 (.iload_n 1) 1 44 := ⟨by decide +kernel, rfl⟩
theorem d_X0_independentRows_44 : DC mX0_independentRows 44 (.iload_n 3) 1 45 := ⟨by decide +kernel, rfl⟩
theorem d_X0_independentRows_45 : DC mX0_independentRows 45 (.invokevirtual 60) 3 48 := ⟨by decide +kernel, rfl⟩
theorem d_X0_independentRows_48 : DC mX0_independentRows 48 (.iinc 3 1) 3 51 := ⟨by decide +kernel, rfl⟩
theorem d_X0_independentRows_51 : DC mX0_independentRows 51 (.goto (-18)) 3 54 := ⟨by decide +kernel, rfl⟩
theorem d_X0_independentRows_54 : DC mX0_independentRows 54 (.iinc 1 1) 3 57 := ⟨by decide +kernel, rfl⟩
theorem d_X0_independentRows_57 : DC mX0_independentRows 57 (.iinc 2 1) 3 60 := ⟨by decide +kernel, rfl⟩
theorem d_X0_independentRows_60 : DC mX0_independentRows 60 (.goto (-56)) 3 63 := ⟨by decide +kernel, rfl⟩
theorem d_X0_independentRows_63 : DC mX0_independentRows 63 (.iload_n 1) 1 64 := ⟨by decide +kernel, rfl⟩
theorem d_X0_independentRows_64 : DC mX0_independentRows 64 (.ireturn) 1 65 := ⟨by decide +kernel, rfl⟩
theorem d_X6_bracketAt_0 : DC mX6_bracketAt 0 (.lload_n 0) 1 1 := ⟨by decide +kernel, rfl⟩
theorem d_X6_bracketAt_1 : DC mX6_bracketAt 1 (.bipush 12) 2 3 := ⟨by decide +kernel, rfl⟩
theorem d_X6_bracketAt_3 : DC mX6_bracketAt 3 (.iconst 3) 1 4 := ⟨by decide +kernel, rfl⟩
theorem d_X6_bracketAt_4 : DC mX6_bracketAt 4 (.iload_n 2) 1 5 := ⟨by decide +kernel, rfl⟩
theorem d_X6_bracketAt_5 : DC mX6_bracketAt 5 (.isub) 1 6 := ⟨by decide +kernel, rfl⟩
theorem d_X6_bracketAt_6 : DC mX6_bracketAt 6 (.imul) 1 7 := ⟨by decide +kernel, rfl⟩
theorem d_X6_bracketAt_7 : DC mX6_bracketAt 7 (.lushr) 1 8 := ⟨by decide +kernel, rfl⟩
theorem d_X6_bracketAt_8 : DC mX6_bracketAt 8 (.l2i) 1 9 := ⟨by decide +kernel, rfl⟩
theorem d_X6_bracketAt_9 : DC mX6_bracketAt 9 (.sipush 4095) 3 12 := ⟨by decide +kernel, rfl⟩
theorem d_X6_bracketAt_12 : DC mX6_bracketAt 12 (.iand) 1 13 := ⟨by decide +kernel, rfl⟩
theorem d_X6_bracketAt_13 : DC mX6_bracketAt 13 (.ireturn) 1 14 := ⟨by decide +kernel, rfl⟩
theorem d_X6_bracketsIn_0 : DC mX6_bracketsIn 0 (.iconst 0) 1 1 := ⟨by decide +kernel, rfl⟩
theorem d_X6_bracketsIn_1 : DC mX6_bracketsIn 1 (.istore_n 2) 1 2 := ⟨by decide +kernel, rfl⟩
theorem d_X6_bracketsIn_2 : DC mX6_bracketsIn 2 (.iload_n 2) 1 3 := ⟨by decide +kernel, rfl⟩
theorem d_X6_bracketsIn_3 : DC mX6_bracketsIn 3 (.iconst 4) 1 4 := ⟨by decide +kernel, rfl⟩
theorem d_X6_bracketsIn_4 : DC mX6_bracketsIn 4 (.if_icmp .ge 17) 3 7 := ⟨by decide +kernel, rfl⟩
theorem d_X6_bracketsIn_7 : DC mX6_bracketsIn 7 (.lload_n 0) 1 8 := ⟨by decide +kernel, rfl⟩
theorem d_X6_bracketsIn_8 : DC mX6_bracketsIn 8 (.iload_n 2) 1 9 := ⟨by decide +kernel, rfl⟩
theorem d_X6_bracketsIn_9 : DC mX6_bracketsIn 9 (.invokestatic 15) 3 12 := ⟨by decide +kernel, rfl⟩
theorem d_X6_bracketsIn_12 : DC mX6_bracketsIn 12 (.ifCond .eq 9) 3 15 := ⟨by decide +kernel, rfl⟩
theorem d_X6_bracketsIn_15 : DC mX6_bracketsIn 15 (.iinc 2 1) 3 18 := ⟨by decide +kernel, rfl⟩
theorem d_X6_bracketsIn_18 : DC mX6_bracketsIn 18 (.goto (-16)) 3 21 := ⟨by decide +kernel, rfl⟩
theorem d_X6_bracketsIn_21 : DC mX6_bracketsIn 21 (.iload_n 2) 1 22 := ⟨by decide +kernel, rfl⟩
theorem d_X6_bracketsIn_22 : DC mX6_bracketsIn 22 (.ireturn) 1 23 := ⟨by decide +kernel, rfl⟩
theorem d_X6_letter_0 : DC mX6_letter 0 (.iload_n 0) 1 1 := ⟨by decide +kernel, rfl⟩
theorem d_X6_letter_1 : DC mX6_letter 1 (.iconst 4) 1 2 := ⟨by decide +kernel, rfl⟩
theorem d_X6_letter_2 : DC mX6_letter 2 (.iconst 2) 1 3 := ⟨by decide +kernel, rfl⟩
theorem d_X6_letter_3 : DC mX6_letter 3 (.iload_n 1) 1 4 := ⟨by decide +kernel, rfl⟩
theorem d_X6_letter_4 : DC mX6_letter 4 (.isub) 1 5 := ⟨by decide +kernel, rfl⟩
theorem d_X6_letter_5 : DC mX6_letter 5 (.imul) 1 6 := ⟨by decide +kernel, rfl⟩
theorem d_X6_letter_6 : DC mX6_letter 6 (.ishr) 1 7 := ⟨by decide +kernel, rfl⟩
theorem d_X6_letter_7 : DC mX6_letter 7 (.bipush 15) 2 9 := ⟨by decide +kernel, rfl⟩
theorem d_X6_letter_9 : DC mX6_letter 9 (.iand) 1 10 := ⟨by decide +kernel, rfl⟩
theorem d_X6_letter_10 : DC mX6_letter 10 (.ireturn) 1 11 := ⟨by decide +kernel, rfl⟩
theorem d_X6_letterOfKey_0 : DC mX6_letterOfKey 0 (.lload_n 0) 1 1 := ⟨by decide +kernel, rfl⟩
theorem d_X6_letterOfKey_1 : DC mX6_letterOfKey 1 (.iload_n 2) 1 2 := ⟨by decide +kernel, rfl⟩
theorem d_X6_letterOfKey_2 : DC mX6_letterOfKey 2 (.iconst 3) 1 3 := ⟨by decide +kernel, rfl⟩
theorem d_X6_letterOfKey_3 : DC mX6_letterOfKey 3 (.idiv) 1 4 := ⟨by decide +kernel, rfl⟩
theorem d_X6_letterOfKey_4 : DC mX6_letterOfKey 4 (.invokestatic 15) 3 7 := ⟨by decide +kernel, rfl⟩
theorem d_X6_letterOfKey_7 : DC mX6_letterOfKey 7 (.istore_n 3) 1 8 := ⟨by decide +kernel, rfl⟩
theorem d_X6_letterOfKey_8 : DC mX6_letterOfKey 8 (.iload_n 3) 1 9 := ⟨by decide +kernel, rfl⟩
theorem d_X6_letterOfKey_9 : DC mX6_letterOfKey 9 (.ifCond .ne 7) 3 12 := ⟨by decide +kernel, rfl⟩
theorem d_X6_letterOfKey_12 : DC mX6_letterOfKey 12 (.iconst (-1)) 1 13 := ⟨by decide +kernel, rfl⟩
theorem d_X6_letterOfKey_13 : DC mX6_letterOfKey 13 (.goto 10) 3 16 := ⟨by decide +kernel, rfl⟩
theorem d_X6_letterOfKey_16 : DC mX6_letterOfKey 16 (.iload_n 3) 1 17 := ⟨by decide +kernel, rfl⟩
theorem d_X6_letterOfKey_17 : DC mX6_letterOfKey 17 (.iload_n 2) 1 18 := ⟨by decide +kernel, rfl⟩
theorem d_X6_letterOfKey_18 : DC mX6_letterOfKey 18 (.iconst 3) 1 19 := ⟨by decide +kernel, rfl⟩
theorem d_X6_letterOfKey_19 : DC mX6_letterOfKey 19 (.irem) 1 20 := ⟨by decide +kernel, rfl⟩
theorem d_X6_letterOfKey_20 : DC mX6_letterOfKey 20 (.invokestatic 9) 3 23 := ⟨by decide +kernel, rfl⟩
theorem d_X6_letterOfKey_23 : DC mX6_letterOfKey 23 (.ireturn) 1 24 := ⟨by decide +kernel, rfl⟩
theorem d_X6_timesOf_0 : DC mX6_timesOf 0 (.iconst 0) 1 1 := ⟨by decide +kernel, rfl⟩
theorem d_X6_timesOf_1 : DC mX6_timesOf 1 (.istore_n 3) 1 2 := ⟨by decide +kernel, rfl⟩
theorem d_X6_timesOf_2 : DC mX6_timesOf 2 (.iconst 0) 1 3 := ⟨by decide +kernel, rfl⟩
theorem d_X6_timesOf_3 : DC mX6_timesOf 3 (.istore 4) 2 5 := ⟨by decide +kernel, rfl⟩
theorem d_X6_timesOf_5 : DC mX6_timesOf 5 (.iload 4) 2 7 := ⟨by decide +kernel, rfl⟩
theorem d_X6_timesOf_7 : DC mX6_timesOf 7 (.bipush 12) 2 9 := ⟨by decide +kernel, rfl⟩
theorem d_X6_timesOf_9 : DC mX6_timesOf 9 (.if_icmp .ge 22) 3 12 := ⟨by decide +kernel, rfl⟩
theorem d_X6_timesOf_12 : DC mX6_timesOf 12 (.lload_n 0) 1 13 := ⟨by decide +kernel, rfl⟩
theorem d_X6_timesOf_13 : DC mX6_timesOf 13 (.iload 4) 2 15 := ⟨by decide +kernel, rfl⟩
theorem d_X6_timesOf_15 : DC mX6_timesOf 15 (.invokestatic 19) 3 18 := ⟨by decide +kernel, rfl⟩
theorem d_X6_timesOf_18 : DC mX6_timesOf 18 (.iload_n 2) 1 19 := ⟨by decide +kernel, rfl⟩
theorem d_X6_timesOf_19 : DC mX6_timesOf 19 (.if_icmp .ne 6) 3 22 := ⟨by decide +kernel, rfl⟩
theorem d_X6_timesOf_22 : DC mX6_timesOf 22 (.iinc 3 1) 3 25 := ⟨by decide +kernel, rfl⟩
theorem d_X6_timesOf_25 : DC mX6_timesOf 25 (.iinc 4 1) 3 28 := ⟨by decide +kernel, rfl⟩
theorem d_X6_timesOf_28 : DC mX6_timesOf 28 (.goto (-23)) 3 31 := ⟨by decide +kernel, rfl⟩
theorem d_X6_timesOf_31 : DC mX6_timesOf 31 (.iload_n 3) 1 32 := ⟨by decide +kernel, rfl⟩
theorem d_X6_timesOf_32 : DC mX6_timesOf 32 (.ireturn) 1 33 := ⟨by decide +kernel, rfl⟩
theorem d_X1_takeLetters_0 : DC mX1_takeLetters 0 (.lload_n 1) 1 1 := ⟨by decide +kernel, rfl⟩
theorem d_X1_takeLetters_1 : DC mX1_takeLetters 1 (.invokestatic 71) 3 4 := ⟨by decide +kernel, rfl⟩
theorem d_X1_takeLetters_4 : DC mX1_takeLetters 4 (.iconst 2) 1 5 := ⟨by decide +kernel, rfl⟩
theorem d_X1_takeLetters_5 : DC mX1_takeLetters 5 (.if_icmp .eq 5) 3 8 := ⟨by decide +kernel, rfl⟩
theorem d_X1_takeLetters_8 : DC mX1_takeLetters 8 (.iconst 0) 1 9 := ⟨by decide +kernel, rfl⟩
theorem d_X1_takeLetters_9 : DC mX1_takeLetters 9 (.ireturn) 1 10 := ⟨by decide +kernel, rfl⟩
theorem d_X1_takeLetters_10 : DC mX1_takeLetters 10 (.iconst 0) 1 11 := ⟨by decide +kernel, rfl⟩
theorem d_X1_takeLetters_11 : DC mX1_takeLetters 11 (.istore_n 3) 1 12 := ⟨by decide +kernel, rfl⟩
theorem d_X1_takeLetters_12 : DC mX1_takeLetters 12 (.iconst 0) 1 13 := ⟨by decide +kernel, rfl⟩
theorem d_X1_takeLetters_13 : DC mX1_takeLetters 13 (.istore 4) 2 15 := ⟨by decide +kernel, rfl⟩
theorem d_X1_takeLetters_15 : DC mX1_takeLetters 15 (.iload 4) 2 17 := ⟨by decide +kernel, rfl⟩
theorem d_X1_takeLetters_17 : DC mX1_takeLetters 17 (.bipush 10) 2 19 := ⟨by decide +kernel, rfl⟩
theorem d_X1_takeLetters_19 : DC mX1_takeLetters 19 (.if_icmp .ge 36) 3 22 := ⟨by decide +kernel, rfl⟩
theorem d_X1_takeLetters_22 : DC mX1_takeLetters 22 (.iload_n 3) 1 23 := ⟨by decide +kernel, rfl⟩
theorem d_X1_takeLetters_23 : DC mX1_takeLetters 23 (.bipush 6) 2 25 := ⟨by decide +kernel, rfl⟩
theorem d_X1_takeLetters_25 : DC mX1_takeLetters 25 (.if_icmp .ge 24) 3 28 := ⟨by decide +kernel, rfl⟩
theorem d_X1_takeLetters_28 : DC mX1_takeLetters 28 (.lload_n 1) 1 29 := ⟨by decide +kernel, rfl⟩
theorem d_X1_takeLetters_29 : DC mX1_takeLetters 29 (.iload 4) 2 31 := ⟨by decide +kernel, rfl⟩
theorem d_X1_takeLetters_31 : DC mX1_takeLetters 31 (.invokestatic 74) 3 34 := ⟨by decide +kernel, rfl⟩
theorem d_X1_takeLetters_34 : DC mX1_takeLetters 34 (.iconst 1) 1 35 := ⟨by decide +kernel, rfl⟩
theorem d_X1_takeLetters_35 : DC mX1_takeLetters 35 (.if_icmp .ne 14) 3 38 := ⟨by decide +kernel, rfl⟩
theorem d_X1_takeLetters_38 : DC mX1_takeLetters 38 (.aload_n 0) 1 39 := ⟨by decide +kernel, rfl⟩
theorem d_X1_takeLetters_39 : DC mX1_takeLetters 39 (.getfield 15) 3 42 := ⟨by decide +kernel, rfl⟩
theorem d_X1_takeLetters_42 : DC mX1_takeLetters 42 (.iload_n 3) 1 43 := ⟨by decide +kernel, rfl⟩
theorem d_X1_takeLetters_43 : DC mX1_takeLetters 43 (.iload 4) 2 45 := ⟨by decide +kernel, rfl⟩
theorem d_X1_takeLetters_45 : DC mX1_takeLetters 45 (.iastore) 1 46 := ⟨by decide +kernel, rfl⟩
theorem d_X1_takeLetters_46 : DC mX1_takeLetters 46 (.iinc 3 1) 3 49 := ⟨by decide +kernel, rfl⟩
theorem d_X1_takeLetters_49 : DC mX1_takeLetters 49 (.iinc 4 1) 3 52 := ⟨by decide +kernel, rfl⟩
theorem d_X1_takeLetters_52 : DC mX1_takeLetters 52 (.goto (-37)) 3 55 := ⟨by decide +kernel, rfl⟩
theorem d_X1_takeLetters_55 : DC mX1_takeLetters 55 (.iload_n 3) 1 56 := ⟨by decide +kernel, rfl⟩
theorem d_X1_takeLetters_56 : DC mX1_takeLetters 56 (.bipush 6) 2 58 := ⟨by decide +kernel, rfl⟩
theorem d_X1_takeLetters_58 : DC mX1_takeLetters 58 (.if_icmp .ne 7) 3 61 := ⟨by decide +kernel, rfl⟩
theorem d_X1_takeLetters_61 : DC mX1_takeLetters 61 (.iconst 1) 1 62 := ⟨by decide +kernel, rfl⟩
theorem d_X1_takeLetters_62 : DC mX1_takeLetters 62 (.goto 4) 3 65 := ⟨by decide +kernel, rfl⟩
theorem d_X1_takeLetters_65 : DC mX1_takeLetters 65 (.iconst 0) 1 66 := ⟨by decide +kernel, rfl⟩
theorem d_X1_takeLetters_66 : DC mX1_takeLetters 66 (.ireturn) 1 67 := ⟨by decide +kernel, rfl⟩
theorem d_X1_letterOfRow_0 : DC mX1_letterOfRow 0 (.iload_n 1) 1 1 := ⟨by decide +kernel, rfl⟩
theorem d_X1_letterOfRow_1 : DC mX1_letterOfRow 1 (.ifCond .lt 9) 3 4 := ⟨by decide +kernel, rfl⟩
theorem d_X1_letterOfRow_4 : DC mX1_letterOfRow 4 (.iload_n 1) 1 5 := ⟨by decide +kernel, rfl⟩
theorem d_X1_letterOfRow_5 : DC mX1_letterOfRow 5 (.bipush 6) 2 7 := ⟨by decide +kernel, rfl⟩
theorem d_X1_letterOfRow_7 : DC mX1_letterOfRow 7 (.if_icmp .lt 7) 3 10 := ⟨by decide +kernel, rfl⟩
theorem d_X1_letterOfRow_10 : DC mX1_letterOfRow 10 (.iconst (-1)) 1 11 := ⟨by decide +kernel, rfl⟩
theorem d_X1_letterOfRow_11 : DC mX1_letterOfRow 11 (.goto 14) 3 14 := ⟨by decide +kernel, rfl⟩
theorem d_X1_letterOfRow_14 : DC mX1_letterOfRow 14 (.aload_n 0) 1 15 := ⟨by decide +kernel, rfl⟩
theorem d_X1_letterOfRow_15 : DC mX1_letterOfRow 15 (.getfield 15) 3 18 := ⟨by decide +kernel, rfl⟩
theorem d_X1_letterOfRow_18 : DC mX1_letterOfRow 18 (.aload_n 0) 1 19 := ⟨by decide +kernel, rfl⟩
theorem d_X1_letterOfRow_19 : DC mX1_letterOfRow 19 (.getfield 19) 3 22 := ⟨by decide +kernel, rfl⟩
theorem d_X1_letterOfRow_22 : DC mX1_letterOfRow 22 (.iload_n 1) 1 23 := ⟨by decide +kernel, rfl⟩
theorem d_X1_letterOfRow_23 : DC mX1_letterOfRow 23 (.iaload) 1 24 := ⟨by decide +kernel, rfl⟩
theorem d_X1_letterOfRow_24 : DC mX1_letterOfRow 24 (.iaload) 1 25 := ⟨by decide +kernel, rfl⟩
theorem d_X1_letterOfRow_25 : DC mX1_letterOfRow 25 (.ireturn) 1 26 := ⟨by decide +kernel, rfl⟩
theorem d_X1_placeOf_0 : DC mX1_placeOf 0 (.iconst 0) 1 1 := ⟨by decide +kernel, rfl⟩
theorem d_X1_placeOf_1 : DC mX1_placeOf 1 (.istore_n 2) 1 2 := ⟨by decide +kernel, rfl⟩
theorem d_X1_placeOf_2 : DC mX1_placeOf 2 (.iload_n 2) 1 3 := ⟨by decide +kernel, rfl⟩
theorem d_X1_placeOf_3 : DC mX1_placeOf 3 (.bipush 6) 2 5 := ⟨by decide +kernel, rfl⟩
theorem d_X1_placeOf_5 : DC mX1_placeOf 5 (.if_icmp .ge 21) 3 8 := ⟨by decide +kernel, rfl⟩
theorem d_X1_placeOf_8 : DC mX1_placeOf 8 (.aload_n 0) 1 9 := ⟨by decide +kernel, rfl⟩
theorem d_X1_placeOf_9 : DC mX1_placeOf 9 (.getfield 15) 3 12 := ⟨by decide +kernel, rfl⟩
theorem d_X1_placeOf_12 : DC mX1_placeOf 12 (.iload_n 2) 1 13 := ⟨by decide +kernel, rfl⟩
theorem d_X1_placeOf_13 : DC mX1_placeOf 13 (.iaload) 1 14 := ⟨by decide +kernel, rfl⟩
theorem d_X1_placeOf_14 : DC mX1_placeOf 14 (.iload_n 1) 1 15 := ⟨by decide +kernel, rfl⟩
theorem d_X1_placeOf_15 : DC mX1_placeOf 15 (.if_icmp .ne 5) 3 18 := ⟨by decide +kernel, rfl⟩
theorem d_X1_placeOf_18 : DC mX1_placeOf 18 (.iload_n 2) 1 19 := ⟨by decide +kernel, rfl⟩
theorem d_X1_placeOf_19 : DC mX1_placeOf 19 (.ireturn) 1 20 := ⟨by decide +kernel, rfl⟩
theorem d_X1_placeOf_20 : DC mX1_placeOf 20 (.iinc 2 1) 3 23 := ⟨by decide +kernel, rfl⟩
theorem d_X1_placeOf_23 : DC mX1_placeOf 23 (.goto (-21)) 3 26 := ⟨by decide +kernel, rfl⟩
theorem d_X1_placeOf_26 : DC mX1_placeOf 26 (.iconst (-1)) 1 27 := ⟨by decide +kernel, rfl⟩
theorem d_X1_placeOf_27 : DC mX1_placeOf 27 (.ireturn) 1 28 := ⟨by decide +kernel, rfl⟩
theorem d_X6_with_0 : DC mX6_with 0 (.bipush 36) 2 2 := ⟨by decide +kernel, rfl⟩
theorem d_X6_with_2 : DC mX6_with 2 (.istore_n 3) 1 3 := ⟨by decide +kernel, rfl⟩
theorem d_X6_with_3 : DC mX6_with 3 (.iload_n 3) 1 4 := ⟨by decide +kernel, rfl⟩
theorem d_X6_with_4 : DC mX6_with 4 (.ifCond .lt 58) 3 7 := ⟨by decide +kernel, rfl⟩
theorem d_X6_with_7 : DC mX6_with 7 (.lload_n 0) 1 8 := ⟨by decide +kernel, rfl⟩
theorem d_X6_with_8 : DC mX6_with 8 (.iload_n 3) 1 9 := ⟨by decide +kernel, rfl⟩
theorem d_X6_with_9 : DC mX6_with 9 (.lushr) 1 10 := ⟨by decide +kernel, rfl⟩
theorem d_X6_with_10 : DC mX6_with 10 (.l2i) 1 11 := ⟨by decide +kernel, rfl⟩
theorem d_X6_with_11 : DC mX6_with 11 (.sipush 4095) 3 14 := ⟨by decide +kernel, rfl⟩
theorem d_X6_with_14 : DC mX6_with 14 (.iand) 1 15 := ⟨by decide +kernel, rfl⟩
theorem d_X6_with_15 : DC mX6_with 15 (.istore 4) 2 17 := ⟨by decide +kernel, rfl⟩
theorem d_X6_with_17 : DC mX6_with 17 (.iload 4) 2 19 := ⟨by decide +kernel, rfl⟩
theorem d_X6_with_19 : DC mX6_with 19 (.ifCond .eq 9) 3 22 := ⟨by decide +kernel, rfl⟩
theorem d_X6_with_22 : DC mX6_with 22 (.iload 4) 2 24 := ⟨by decide +kernel, rfl⟩
theorem d_X6_with_24 : DC mX6_with 24 (.iload_n 2) 1 25 := ⟨by decide +kernel, rfl⟩
theorem d_X6_with_25 : DC mX6_with 25 (.if_icmp .le 31) 3 28 := ⟨by decide +kernel, rfl⟩
theorem d_X6_with_28 : DC mX6_with 28 (.lload_n 0) 1 29 := ⟨by decide +kernel, rfl⟩
theorem d_X6_with_29 : DC mX6_with 29 (.lconst 1) 1 30 := ⟨by decide +kernel, rfl⟩
theorem d_X6_with_30 : DC mX6_with 30 (.iload_n 3) 1 31 := ⟨by decide +kernel, rfl⟩
theorem d_X6_with_31 : DC mX6_with 31 (.bipush 12) 2 33 := ⟨by decide +kernel, rfl⟩
theorem d_X6_with_33 : DC mX6_with 33 (.iadd) 1 34 := ⟨by decide +kernel, rfl⟩
theorem d_X6_with_34 : DC mX6_with 34 (.lshl) 1 35 := ⟨by decide +kernel, rfl⟩
theorem d_X6_with_35 : DC mX6_with 35 (.lconst 1) 1 36 := ⟨by decide +kernel, rfl⟩
theorem d_X6_with_36 : DC mX6_with 36 (.lsub) 1 37 := ⟨by decide +kernel, rfl⟩
theorem d_X6_with_37 : DC mX6_with 37 (.land) 1 38 := ⟨by decide +kernel, rfl⟩
theorem d_X6_with_38 : DC mX6_with 38 (.lstore 5) 2 40 := ⟨by decide +kernel, rfl⟩
theorem d_X6_with_40 : DC mX6_with 40 (.lload_n 0) 1 41 := ⟨by decide +kernel, rfl⟩
theorem d_X6_with_41 : DC mX6_with 41 (.lload 5) 2 43 := ⟨by decide +kernel, rfl⟩
theorem d_X6_with_43 : DC mX6_with 43 (.lsub) 1 44 := ⟨by decide +kernel, rfl⟩
theorem d_X6_with_44 : DC mX6_with 44 (.iload_n 2) 1 45 := ⟨by decide +kernel, rfl⟩
theorem d_X6_with_45 : DC mX6_with 45 (.i2l) 1 46 := ⟨by decide +kernel, rfl⟩
theorem d_X6_with_46 : DC mX6_with 46 (.iload_n 3) 1 47 := ⟨by decide +kernel, rfl⟩
theorem d_X6_with_47 : DC mX6_with 47 (.lshl) 1 48 := ⟨by decide +kernel, rfl⟩
theorem d_X6_with_48 : DC mX6_with 48 (.lor) 1 49 := ⟨by decide +kernel, rfl⟩
theorem d_X6_with_49 : DC mX6_with 49 (.lload 5) 2 51 := ⟨by decide +kernel, rfl⟩
theorem d_X6_with_51 : DC mX6_with 51 (.bipush 12) 2 53 := ⟨by decide +kernel, rfl⟩
theorem d_X6_with_53 : DC mX6_with 53 (.lushr) 1 54 := ⟨by decide +kernel, rfl⟩
theorem d_X6_with_54 : DC mX6_with 54 (.lor) 1 55 := ⟨by decide +kernel, rfl⟩
theorem d_X6_with_55 : DC mX6_with 55 (.lreturn) 1 56 := ⟨by decide +kernel, rfl⟩
theorem d_X6_with_56 : DC mX6_with 56 (.iinc 3 (-12)) 3 59 := ⟨by decide +kernel, rfl⟩
theorem d_X6_with_59 : DC mX6_with 59 (.goto (-56)) 3 62 := ⟨by decide +kernel, rfl⟩
theorem d_X6_with_62 : DC mX6_with 62 (.lload_n 0) 1 63 := ⟨by decide +kernel, rfl⟩
theorem d_X6_with_63 : DC mX6_with 63 (.lreturn) 1 64 := ⟨by decide +kernel, rfl⟩
theorem d_X1_byPlaces_0 : DC mX1_byPlaces 0 (.lload_n 1) 1 1 := ⟨by decide +kernel, rfl⟩
theorem d_X1_byPlaces_1 : DC mX1_byPlaces 1 (.invokestatic 71) 3 4 := ⟨by decide +kernel, rfl⟩
theorem d_X1_byPlaces_4 : DC mX1_byPlaces 4 (.iconst 2) 1 5 := ⟨by decide +kernel, rfl⟩
theorem d_X1_byPlaces_5 : DC mX1_byPlaces 5 (.if_icmp .eq 5) 3 8 := ⟨by decide +kernel, rfl⟩
theorem d_X1_byPlaces_8 : DC mX1_byPlaces 8 (.lconst 0) 1 9 := ⟨by decide +kernel, rfl⟩
theorem d_X1_byPlaces_9 : DC mX1_byPlaces 9 (.lreturn) 1 10 := ⟨by decide +kernel, rfl⟩
theorem d_X1_byPlaces_10 : DC mX1_byPlaces 10 (.lconst 0) 1 11 := ⟨by decide +kernel, rfl⟩
theorem d_X1_byPlaces_11 : DC mX1_byPlaces 11 (.lstore_n 3) 1 12 := ⟨by decide +kernel, rfl⟩
theorem d_X1_byPlaces_12 : DC mX1_byPlaces 12 (.iconst 0) 1 13 := ⟨by decide +kernel, rfl⟩
theorem d_X1_byPlaces_13 : DC mX1_byPlaces 13 (.istore 5) 2 15 := ⟨by decide +kernel, rfl⟩
theorem d_X1_byPlaces_15 : DC mX1_byPlaces 15 (.iload 5) 2 17 := ⟨by decide +kernel, rfl⟩
theorem d_X1_byPlaces_17 : DC mX1_byPlaces 17 (.iconst 2) 1 18 := ⟨by decide +kernel, rfl⟩
theorem d_X1_byPlaces_18 : DC mX1_byPlaces 18 (.if_icmp .ge 68) 3 21 := ⟨by decide +kernel, rfl⟩
theorem d_X1_byPlaces_21 : DC mX1_byPlaces 21 (.iconst 0) 1 22 := ⟨by decide +kernel, rfl⟩
theorem d_X1_byPlaces_22 : DC mX1_byPlaces 22 (.istore 6) 2 24 := ⟨by decide +kernel, rfl⟩
theorem d_X1_byPlaces_24 : DC mX1_byPlaces 24 (.iconst 0) 1 25 := ⟨by decide +kernel, rfl⟩
theorem d_X1_byPlaces_25 : DC mX1_byPlaces 25 (.istore 7) 2 27 := ⟨by decide +kernel, rfl⟩
theorem d_X1_byPlaces_27 : DC mX1_byPlaces 27 (.iload 7) 2 29 := ⟨by decide +kernel, rfl⟩
theorem d_X1_byPlaces_29 : DC mX1_byPlaces 29 (.iconst 3) 1 30 := ⟨by decide +kernel, rfl⟩
theorem d_X1_byPlaces_30 : DC mX1_byPlaces 30 (.if_icmp .ge 43) 3 33 := ⟨by decide +kernel, rfl⟩
theorem d_X1_byPlaces_33 : DC mX1_byPlaces 33 (.aload_n 0) 1 34 := ⟨by decide +kernel, rfl⟩
theorem d_X1_byPlaces_34 : DC mX1_byPlaces 34 (.lload_n 1) 1 35 := ⟨by decide +kernel, rfl⟩
theorem d_X1_byPlaces_35 : DC mX1_byPlaces 35 (.iconst 3) 1 36 := ⟨by decide +kernel, rfl⟩
theorem d_X1_byPlaces_36 : DC mX1_byPlaces 36 (.iload 5) 2 38 := ⟨by decide +kernel, rfl⟩
theorem d_X1_byPlaces_38 : DC mX1_byPlaces 38 (.imul) 1 39 := ⟨by decide +kernel, rfl⟩
theorem d_X1_byPlaces_39 : DC mX1_byPlaces 39 (.iload 7) 2 41 := ⟨by decide +kernel, rfl⟩
theorem d_X1_byPlaces_41 : DC mX1_byPlaces 41 (.iadd) 1 42 := ⟨by decide +kernel, rfl⟩
theorem d_X1_byPlaces_42 : DC mX1_byPlaces 42 (.invokestatic 99) 3 45 := ⟨by decide +kernel, rfl⟩
theorem d_X1_byPlaces_45 : DC mX1_byPlaces 45 (.invokevirtual 102) 3 48 := ⟨by decide +kernel, rfl⟩
theorem d_X1_byPlaces_48 : DC mX1_byPlaces 48 (.istore 8) 2 50 := ⟨by decide +kernel, rfl⟩
theorem d_X1_byPlaces_50 : DC mX1_byPlaces 50 (.iload 8) 2 52 := ⟨by decide +kernel, rfl⟩
theorem d_X1_byPlaces_52 : DC mX1_byPlaces 52 (.iconst (-1)) 1 53 := ⟨by decide +kernel, rfl⟩
theorem d_X1_byPlaces_53 : DC mX1_byPlaces 53 (.if_icmp .ne 5) 3 56 := ⟨by decide +kernel, rfl⟩
theorem d_X1_byPlaces_56 : DC mX1_byPlaces 56 (.lconst 0) 1 57 := ⟨by decide +kernel, rfl⟩
theorem d_X1_byPlaces_57 : DC mX1_byPlaces 57 (.lreturn) 1 58 := ⟨by decide +kernel, rfl⟩
theorem d_X1_byPlaces_58 : DC mX1_byPlaces 58 (.iload 6) 2 60 := ⟨by decide +kernel, rfl⟩
theorem d_X1_byPlaces_60 : DC mX1_byPlaces 60 (.iconst 4) 1 61 := ⟨by decide +kernel, rfl⟩
theorem d_X1_byPlaces_61 : DC mX1_byPlaces 61 (.ishl) 1 62 := ⟨by decide +kernel, rfl⟩
theorem d_X1_byPlaces_62 : DC mX1_byPlaces 62 (.iload 8) 2 64 := ⟨by decide +kernel, rfl⟩
theorem d_X1_byPlaces_64 : DC mX1_byPlaces 64 (.ior) 1 65 := ⟨by decide +kernel, rfl⟩
theorem d_X1_byPlaces_65 : DC mX1_byPlaces 65 (.istore 6) 2 67 := ⟨by decide +kernel, rfl⟩
theorem d_X1_byPlaces_67 : DC mX1_byPlaces 67 (.iinc 7 1) 3 70 := ⟨by decide +kernel, rfl⟩
theorem d_X1_byPlaces_70 : DC mX1_byPlaces 70 (.goto (-43)) 3 73 := ⟨by decide +kernel, rfl⟩
theorem d_X1_byPlaces_73 : DC mX1_byPlaces 73 (.lload_n 3) 1 74 := ⟨by decide +kernel, rfl⟩
theorem d_X1_byPlaces_74 : DC mX1_byPlaces 74 (.iload 6) 2 76 := ⟨by decide +kernel, rfl⟩
theorem d_X1_byPlaces_76 : DC mX1_byPlaces 76 (.invokestatic 106) 3 79 := ⟨by decide +kernel, rfl⟩
theorem d_X1_byPlaces_79 : DC mX1_byPlaces 79 (.lstore_n 3) 1 80 := ⟨by decide +kernel, rfl⟩
theorem d_X1_byPlaces_80 : DC mX1_byPlaces 80 (.iinc 5 1) 3 83 := ⟨by decide +kernel, rfl⟩
theorem d_X1_byPlaces_83 : DC mX1_byPlaces 83 (.goto (-68)) 3 86 := ⟨by decide +kernel, rfl⟩
theorem d_X1_byPlaces_86 : DC mX1_byPlaces 86 (.lload_n 3) 1 87 := ⟨by decide +kernel, rfl⟩
theorem d_X1_byPlaces_87 : DC mX1_byPlaces 87 (.lreturn) 1 88 := ⟨by decide +kernel, rfl⟩
theorem d_X1_formOf_0 : DC mX1_formOf 0 (.iconst 0) 1 1 := ⟨by decide +kernel, rfl⟩
theorem d_X1_formOf_1 : DC mX1_formOf 1 (.istore_n 3) 1 2 := ⟨by decide +kernel, rfl⟩
theorem d_X1_formOf_2 : DC mX1_formOf 2 (.iload_n 3) 1 3 := ⟨by decide +kernel, rfl⟩
theorem d_X1_formOf_3 : DC mX1_formOf 3 (.iconst 5) 1 4 := ⟨by decide +kernel, rfl⟩
theorem d_X1_formOf_4 : DC mX1_formOf 4 (.if_icmp .ge 22) 3 7 := ⟨by decide +kernel, rfl⟩
theorem d_X1_formOf_7 : DC mX1_formOf 7 (.aload_n 0) 1 8 := ⟨by decide +kernel, rfl⟩
theorem d_X1_formOf_8 : DC mX1_formOf 8 (.getfield 22) 3 11 := ⟨by decide +kernel, rfl⟩
theorem d_X1_formOf_11 : DC mX1_formOf 11 (.iload_n 3) 1 12 := ⟨by decide +kernel, rfl⟩
theorem d_X1_formOf_12 : DC mX1_formOf 12 (.laload) 1 13 := ⟨by decide +kernel, rfl⟩
theorem d_X1_formOf_13 : DC mX1_formOf 13 (.lload_n 1) 1 14 := ⟨by decide +kernel, rfl⟩
theorem d_X1_formOf_14 : DC mX1_formOf 14 (.lcmp) 1 15 := ⟨by decide +kernel, rfl⟩
theorem d_X1_formOf_15 : DC mX1_formOf 15 (.ifCond .ne 5) 3 18 := ⟨by decide +kernel, rfl⟩
theorem d_X1_formOf_18 : DC mX1_formOf 18 (.iload_n 3) 1 19 := ⟨by decide +kernel, rfl⟩
theorem d_X1_formOf_19 : DC mX1_formOf 19 (.ireturn) 1 20 := ⟨by decide +kernel, rfl⟩
theorem d_X1_formOf_20 : DC mX1_formOf 20 (.iinc 3 1) 3 23 := ⟨by decide +kernel, rfl⟩
theorem d_X1_formOf_23 : DC mX1_formOf 23 (.goto (-21)) 3 26 := ⟨by decide +kernel, rfl⟩
theorem d_X1_formOf_26 : DC mX1_formOf 26 (.iconst (-1)) 1 27 := ⟨by decide +kernel, rfl⟩
theorem d_X1_formOf_27 : DC mX1_formOf 27 (.ireturn) 1 28 := ⟨by decide +kernel, rfl⟩
theorem d_X1_takeAsked_0 : DC mX1_takeAsked 0 (.aload_n 0) 1 1 := ⟨by decide +kernel, rfl⟩
theorem d_X1_takeAsked_1 : DC mX1_takeAsked 1 (.getfield 29) 3 4 := ⟨by decide +kernel, rfl⟩
theorem d_X1_takeAsked_4 : DC mX1_takeAsked 4 (.iconst 0) 1 5 := ⟨by decide +kernel, rfl⟩
theorem d_X1_takeAsked_5 : DC mX1_takeAsked 5 (.invokestatic 89) 3 8 := ⟨by decide +kernel, rfl⟩
theorem d_X1_takeAsked_8 : DC mX1_takeAsked 8 (.iconst 0) 1 9 := ⟨by decide +kernel, rfl⟩
theorem d_X1_takeAsked_9 : DC mX1_takeAsked 9 (.istore_n 2) 1 10 := ⟨by decide +kernel, rfl⟩
theorem d_X1_takeAsked_10 : DC mX1_takeAsked 10 (.iload_n 2) 1 11 := ⟨by decide +kernel, rfl⟩
theorem d_X1_takeAsked_11 : DC mX1_takeAsked 11 (.aload_n 1) 1 12 := ⟨by decide +kernel, rfl⟩
theorem d_X1_takeAsked_12 : DC mX1_takeAsked 12 (.getfield 59) 3 15 := ⟨by decide +kernel, rfl⟩
theorem d_X1_takeAsked_15 : DC mX1_takeAsked 15 (.if_icmp .ge 43) 3 18 := ⟨by decide +kernel, rfl⟩
theorem d_X1_takeAsked_18 : DC mX1_takeAsked 18 (.aload_n 0) 1 19 := ⟨by decide +kernel, rfl⟩
theorem d_X1_takeAsked_19 : DC mX1_takeAsked 19 (.aload_n 0) 1 20 := ⟨by decide +kernel, rfl⟩
theorem d_X1_takeAsked_20 : DC mX1_takeAsked 20 (.aload_n 1) 1 21 := ⟨by decide +kernel, rfl⟩
theorem d_X1_takeAsked_21 : DC mX1_takeAsked 21 (.getfield 62) 3 24 := ⟨by decide +kernel, rfl⟩
theorem d_X1_takeAsked_24 : DC mX1_takeAsked 24 (.iload_n 2) 1 25 := ⟨by decide +kernel, rfl⟩
theorem d_X1_takeAsked_25 : DC mX1_takeAsked 25 (.laload) 1 26 := ⟨by decide +kernel, rfl⟩
theorem d_X1_takeAsked_26 : DC mX1_takeAsked 26 (.invokevirtual 95) 3 29 := ⟨by decide +kernel, rfl⟩
theorem d_X1_takeAsked_29 : DC mX1_takeAsked 29 (.invokevirtual 65) 3 32 := ⟨by decide +kernel, rfl⟩
theorem d_X1_takeAsked_32 : DC mX1_takeAsked 32 (.istore_n 3) 1 33 := ⟨by decide +kernel, rfl⟩
theorem d_X1_takeAsked_33 : DC mX1_takeAsked 33 (.iload_n 3) 1 34 := ⟨by decide +kernel, rfl⟩
theorem d_X1_takeAsked_34 : DC mX1_takeAsked 34 (.iconst (-1)) 1 35 := ⟨by decide +kernel, rfl⟩
theorem d_X1_takeAsked_35 : DC mX1_takeAsked 35 (.if_icmp .ne 5) 3 38 := ⟨by decide +kernel, rfl⟩
theorem d_X1_takeAsked_38 : DC mX1_takeAsked 38 (.iconst 0) 1 39 := ⟨by decide +kernel, rfl⟩
theorem d_X1_takeAsked_39 : DC mX1_takeAsked 39 (.ireturn) 1 40 := ⟨by decide +kernel, rfl⟩
theorem d_X1_takeAsked_40 : DC mX1_takeAsked 40 (.aload_n 0) 1 41 := ⟨by decide +kernel, rfl⟩
theorem d_X1_takeAsked_41 : DC mX1_takeAsked 41 (.getfield 29) 3 44 := ⟨by decide +kernel, rfl⟩
theorem d_X1_takeAsked_44 : DC mX1_takeAsked 44 (.iload_n 3) 1 45 := ⟨by decide +kernel, rfl⟩
theorem d_X1_takeAsked_45 : DC mX1_takeAsked 45 (.aload_n 1) 1 46 := ⟨by decide +kernel, rfl⟩
theorem d_X1_takeAsked_46 : DC mX1_takeAsked 46 (.getfield 68) 3 49 := ⟨by decide +kernel, rfl⟩
theorem d_X1_takeAsked_49 : DC mX1_takeAsked 49 (.iload_n 2) 1 50 := ⟨by decide +kernel, rfl⟩
theorem d_X1_takeAsked_50 : DC mX1_takeAsked 50 (.iaload) 1 51 := ⟨by decide +kernel, rfl⟩
theorem d_X1_takeAsked_51 : DC mX1_takeAsked 51 (.iastore) 1 52 := ⟨by decide +kernel, rfl⟩
theorem d_X1_takeAsked_52 : DC mX1_takeAsked 52 (.iinc 2 1) 3 55 := ⟨by decide +kernel, rfl⟩
theorem d_X1_takeAsked_55 : DC mX1_takeAsked 55 (.goto (-45)) 3 58 := ⟨by decide +kernel, rfl⟩
theorem d_X1_takeAsked_58 : DC mX1_takeAsked 58 (.iconst 1) 1 59 := ⟨by decide +kernel, rfl⟩
theorem d_X1_takeAsked_59 : DC mX1_takeAsked 59 (.ireturn) 1 60 := ⟨by decide +kernel, rfl⟩
theorem d_X6_row_0 : DC mX6_row 0 (.iload_n 0) 1 1 := ⟨by decide +kernel, rfl⟩
theorem d_X6_row_1 : DC mX6_row 1 (.bipush 8) 2 3 := ⟨by decide +kernel, rfl⟩
theorem d_X6_row_3 : DC mX6_row 3 (.ishl) 1 4 := ⟨by decide +kernel, rfl⟩
theorem d_X6_row_4 : DC mX6_row 4 (.iload_n 1) 1 5 := ⟨by decide +kernel, rfl⟩
theorem d_X6_row_5 : DC mX6_row 5 (.iconst 4) 1 6 := ⟨by decide +kernel, rfl⟩
theorem d_X6_row_6 : DC mX6_row 6 (.ishl) 1 7 := ⟨by decide +kernel, rfl⟩
theorem d_X6_row_7 : DC mX6_row 7 (.ior) 1 8 := ⟨by decide +kernel, rfl⟩
theorem d_X6_row_8 : DC mX6_row 8 (.iload_n 2) 1 9 := ⟨by decide +kernel, rfl⟩
theorem d_X6_row_9 : DC mX6_row 9 (.ior) 1 10 := ⟨by decide +kernel, rfl⟩
theorem d_X6_row_10 : DC mX6_row 10 (.ireturn) 1 11 := ⟨by decide +kernel, rfl⟩
theorem d_X6_ordered_0 : DC mX6_ordered 0 (.iload_n 0) 1 1 := ⟨by decide +kernel, rfl⟩
theorem d_X6_ordered_1 : DC mX6_ordered 1 (.bipush 8) 2 3 := ⟨by decide +kernel, rfl⟩
theorem d_X6_ordered_3 : DC mX6_ordered 3 (.ishr) 1 4 := ⟨by decide +kernel, rfl⟩
theorem d_X6_ordered_4 : DC mX6_ordered 4 (.bipush 15) 2 6 := ⟨by decide +kernel, rfl⟩
theorem d_X6_ordered_6 : DC mX6_ordered 6 (.iand) 1 7 := ⟨by decide +kernel, rfl⟩
theorem d_X6_ordered_7 : DC mX6_ordered 7 (.istore_n 1) 1 8 := ⟨by decide +kernel, rfl⟩
theorem d_X6_ordered_8 : DC mX6_ordered 8 (.iload_n 0) 1 9 := ⟨by decide +kernel, rfl⟩
theorem d_X6_ordered_9 : DC mX6_ordered 9 (.iconst 4) 1 10 := ⟨by decide +kernel, rfl⟩
theorem d_X6_ordered_10 : DC mX6_ordered 10 (.ishr) 1 11 := ⟨by decide +kernel, rfl⟩
theorem d_X6_ordered_11 : DC mX6_ordered 11 (.bipush 15) 2 13 := ⟨by decide +kernel, rfl⟩
theorem d_X6_ordered_13 : DC mX6_ordered 13 (.iand) 1 14 := ⟨by decide +kernel, rfl⟩
theorem d_X6_ordered_14 : DC mX6_ordered 14 (.istore_n 2) 1 15 := ⟨by decide +kernel, rfl⟩
theorem d_X6_ordered_15 : DC mX6_ordered 15 (.iload_n 0) 1 16 := ⟨by decide +kernel, rfl⟩
theorem d_X6_ordered_16 : DC mX6_ordered 16 (.bipush 15) 2 18 := ⟨by decide +kernel, rfl⟩
theorem d_X6_ordered_18 : DC mX6_ordered 18 (.iand) 1 19 := ⟨by decide +kernel, rfl⟩
theorem d_X6_ordered_19 : DC mX6_ordered 19 (.istore_n 3) 1 20 := ⟨by decide +kernel, rfl⟩
theorem d_X6_ordered_20 : DC mX6_ordered 20 (.iload_n 1) 1 21 := ⟨by decide +kernel, rfl⟩
theorem d_X6_ordered_21 : DC mX6_ordered 21 (.iload_n 2) 1 22 := ⟨by decide +kernel, rfl⟩
theorem d_X6_ordered_22 : DC mX6_ordered 22 (.if_icmp .eq 13) 3 25 := ⟨by decide +kernel, rfl⟩
theorem d_X6_ordered_25 : DC mX6_ordered 25 (.iload_n 1) 1 26 := ⟨by decide +kernel, rfl⟩
theorem d_X6_ordered_26 : DC mX6_ordered 26 (.iload_n 3) 1 27 := ⟨by decide +kernel, rfl⟩
theorem d_X6_ordered_27 : DC mX6_ordered 27 (.if_icmp .eq 8) 3 30 := ⟨by decide +kernel, rfl⟩
theorem d_X6_ordered_30 : DC mX6_ordered 30 (.iload_n 2) 1 31 := ⟨by decide +kernel, rfl⟩
theorem d_X6_ordered_31 : DC mX6_ordered 31 (.iload_n 3) 1 32 := ⟨by decide +kernel, rfl⟩
theorem d_X6_ordered_32 : DC mX6_ordered 32 (.if_icmp .ne 5) 3 35 := ⟨by decide +kernel, rfl⟩
theorem d_X6_ordered_35 : DC mX6_ordered 35 (.iconst 0) 1 36 := ⟨by decide +kernel, rfl⟩
theorem d_X6_ordered_36 : DC mX6_ordered 36 (.ireturn) 1 37 := ⟨by decide +kernel, rfl⟩
theorem d_X6_ordered_37 : DC mX6_ordered 37 (.iload_n 1) 1 38 := ⟨by decide +kernel, rfl⟩
theorem d_X6_ordered_38 : DC mX6_ordered 38 (.iload_n 2) 1 39 := ⟨by decide +kernel, rfl⟩
theorem d_X6_ordered_39 : DC mX6_ordered 39 (.if_icmp .ge 7) 3 42 := ⟨by decide +kernel, rfl⟩
theorem d_X6_ordered_42 : DC mX6_ordered 42 (.iload_n 1) 1 43 := ⟨by decide +kernel, rfl⟩
theorem d_X6_ordered_43 : DC mX6_ordered 43 (.goto 4) 3 46 := ⟨by decide +kernel, rfl⟩
theorem d_X6_ordered_46 : DC mX6_ordered 46 (.iload_n 2) 1 47 := ⟨by decide +kernel, rfl⟩
theorem d_X6_ordered_47 : DC mX6_ordered 47 (.istore 4) 2 49 := ⟨by decide +kernel, rfl⟩
theorem d_X6_ordered_49 : DC mX6_ordered 49 (.iload 4) 2 51 := ⟨by decide +kernel, rfl⟩
theorem d_X6_ordered_51 : DC mX6_ordered 51 (.iload_n 3) 1 52 := ⟨by decide +kernel, rfl⟩
theorem d_X6_ordered_52 : DC mX6_ordered 52 (.if_icmp .ge 8) 3 55 := ⟨by decide +kernel, rfl⟩
theorem d_X6_ordered_55 : DC mX6_ordered 55 (.iload 4) 2 57 := ⟨by decide +kernel, rfl⟩
theorem d_X6_ordered_57 : DC mX6_ordered 57 (.goto 4) 3 60 := ⟨by decide +kernel, rfl⟩
theorem d_X6_ordered_60 : DC mX6_ordered 60 (.iload_n 3) 1 61 := ⟨by decide +kernel, rfl⟩
theorem d_X6_ordered_61 : DC mX6_ordered 61 (.istore 4) 2 63 := ⟨by decide +kernel, rfl⟩
theorem d_X6_ordered_63 : DC mX6_ordered 63 (.iload_n 1) 1 64 := ⟨by decide +kernel, rfl⟩
theorem d_X6_ordered_64 : DC mX6_ordered 64 (.iload_n 2) 1 65 := ⟨by decide +kernel, rfl⟩
theorem d_X6_ordered_65 : DC mX6_ordered 65 (.if_icmp .le 7) 3 68 := ⟨by decide +kernel, rfl⟩
theorem d_X6_ordered_68 : DC mX6_ordered 68 (.iload_n 1) 1 69 := ⟨by decide +kernel, rfl⟩
theorem d_X6_ordered_69 : DC mX6_ordered 69 (.goto 4) 3 72 := ⟨by decide +kernel, rfl⟩
theorem d_X6_ordered_72 : DC mX6_ordered 72 (.iload_n 2) 1 73 := ⟨by decide +kernel, rfl⟩
theorem d_X6_ordered_73 : DC mX6_ordered 73 (.istore 5) 2 75 := ⟨by decide +kernel, rfl⟩
theorem d_X6_ordered_75 : DC mX6_ordered 75 (.iload 5) 2 77 := ⟨by decide +kernel, rfl⟩
theorem d_X6_ordered_77 : DC mX6_ordered 77 (.iload_n 3) 1 78 := ⟨by decide +kernel, rfl⟩
theorem d_X6_ordered_78 : DC mX6_ordered 78 (.if_icmp .le 8) 3 81 := ⟨by decide +kernel, rfl⟩
theorem d_X6_ordered_81 : DC mX6_ordered 81 (.iload 5) 2 83 := ⟨by decide +kernel, rfl⟩
theorem d_X6_ordered_83 : DC mX6_ordered 83 (.goto 4) 3 86 := ⟨by decide +kernel, rfl⟩
theorem d_X6_ordered_86 : DC mX6_ordered 86 (.iload_n 3) 1 87 := ⟨by decide +kernel, rfl⟩
theorem d_X6_ordered_87 : DC mX6_ordered 87 (.istore 5) 2 89 := ⟨by decide +kernel, rfl⟩
theorem d_X6_ordered_89 : DC mX6_ordered 89 (.iload 4) 2 91 := ⟨by decide +kernel, rfl⟩
theorem d_X6_ordered_91 : DC mX6_ordered 91 (.bipush 8) 2 93 := ⟨by decide +kernel, rfl⟩
theorem d_X6_ordered_93 : DC mX6_ordered 93 (.ishl) 1 94 := ⟨by decide +kernel, rfl⟩
theorem d_X6_ordered_94 : DC mX6_ordered 94 (.iload_n 1) 1 95 := ⟨by decide +kernel, rfl⟩
theorem d_X6_ordered_95 : DC mX6_ordered 95 (.iload_n 2) 1 96 := ⟨by decide +kernel, rfl⟩
theorem d_X6_ordered_96 : DC mX6_ordered 96 (.iadd) 1 97 := ⟨by decide +kernel, rfl⟩
theorem d_X6_ordered_97 : DC mX6_ordered 97 (.iload_n 3) 1 98 := ⟨by decide +kernel, rfl⟩
theorem d_X6_ordered_98 : DC mX6_ordered 98 (.iadd) 1 99 := ⟨by decide +kernel, rfl⟩
theorem d_X6_ordered_99 : DC mX6_ordered 99 (.iload 4) 2 101 := ⟨by decide +kernel, rfl⟩
theorem d_X6_ordered_101 : DC mX6_ordered 101 (.isub) 1 102 := ⟨by decide +kernel, rfl⟩
theorem d_X6_ordered_102 : DC mX6_ordered 102 (.iload 5) 2 104 := ⟨by decide +kernel, rfl⟩
theorem d_X6_ordered_104 : DC mX6_ordered 104 (.isub) 1 105 := ⟨by decide +kernel, rfl⟩
theorem d_X6_ordered_105 : DC mX6_ordered 105 (.iconst 4) 1 106 := ⟨by decide +kernel, rfl⟩
theorem d_X6_ordered_106 : DC mX6_ordered 106 (.ishl) 1 107 := ⟨by decide +kernel, rfl⟩
theorem d_X6_ordered_107 : DC mX6_ordered 107 (.ior) 1 108 := ⟨by decide +kernel, rfl⟩
theorem d_X6_ordered_108 : DC mX6_ordered 108 (.iload 5) 2 110 := ⟨by decide +kernel, rfl⟩
theorem d_X6_ordered_110 : DC mX6_ordered 110 (.ior) 1 111 := ⟨by decide +kernel, rfl⟩
theorem d_X6_ordered_111 : DC mX6_ordered 111 (.istore 6) 2 113 := ⟨by decide +kernel, rfl⟩
theorem d_X6_ordered_113 : DC mX6_ordered 113 (.iload_n 1) 1 114 := ⟨by decide +kernel, rfl⟩
theorem d_X6_ordered_114 : DC mX6_ordered 114 (.iload_n 2) 1 115 := ⟨by decide +kernel, rfl⟩
theorem d_X6_ordered_115 : DC mX6_ordered 115 (.if_icmp .le 7) 3 118 := ⟨by decide +kernel, rfl⟩
theorem d_X6_ordered_118 : DC mX6_ordered 118 (.iconst 1) 1 119 := ⟨by decide +kernel, rfl⟩
theorem d_X6_ordered_119 : DC mX6_ordered 119 (.goto 4) 3 122 := ⟨by decide +kernel, rfl⟩
theorem d_X6_ordered_122 : DC mX6_ordered 122 (.iconst 0) 1 123 := ⟨by decide +kernel, rfl⟩
theorem d_X6_ordered_123 : DC mX6_ordered 123 (.iload_n 1) 1 124 := ⟨by decide +kernel, rfl⟩
theorem d_X6_ordered_124 : DC mX6_ordered 124 (.iload_n 3) 1 125 := ⟨by decide +kernel, rfl⟩
theorem d_X6_ordered_125 : DC mX6_ordered 125 (.if_icmp .le 7) 3 128 := ⟨by decide +kernel, rfl⟩
theorem d_X6_ordered_128 : DC mX6_ordered 128 (.iconst 1) 1 129 := ⟨by decide +kernel, rfl⟩
theorem d_X6_ordered_129 : DC mX6_ordered 129 (.goto 4) 3 132 := ⟨by decide +kernel, rfl⟩
theorem d_X6_ordered_132 : DC mX6_ordered 132 (.iconst 0) 1 133 := ⟨by decide +kernel, rfl⟩
theorem d_X6_ordered_133 : DC mX6_ordered 133 (.iadd) 1 134 := ⟨by decide +kernel, rfl⟩
theorem d_X6_ordered_134 : DC mX6_ordered 134 (.iload_n 2) 1 135 := ⟨by decide +kernel, rfl⟩
theorem d_X6_ordered_135 : DC mX6_ordered 135 (.iload_n 3) 1 136 := ⟨by decide +kernel, rfl⟩
theorem d_X6_ordered_136 : DC mX6_ordered 136 (.if_icmp .le 7) 3 139 := ⟨by decide +kernel, rfl⟩
theorem d_X6_ordered_139 : DC mX6_ordered 139 (.iconst 1) 1 140 := ⟨by decide +kernel, rfl⟩
theorem d_X6_ordered_140 : DC mX6_ordered 140 (.goto 4) 3 143 := ⟨by decide +kernel, rfl⟩
theorem d_X6_ordered_143 : DC mX6_ordered 143 (.iconst 0) 1 144 := ⟨by decide +kernel, rfl⟩
theorem d_X6_ordered_144 : DC mX6_ordered 144 (.iadd) 1 145 := ⟨by decide +kernel, rfl⟩
theorem d_X6_ordered_145 : DC mX6_ordered 145 (.istore 7) 2 147 := ⟨by decide +kernel, rfl⟩
theorem d_X6_ordered_147 : DC mX6_ordered 147 (.iload 7) 2 149 := ⟨by decide +kernel, rfl⟩
theorem d_X6_ordered_149 : DC mX6_ordered 149 (.iconst 2) 1 150 := ⟨by decide +kernel, rfl⟩
theorem d_X6_ordered_150 : DC mX6_ordered 150 (.irem) 1 151 := ⟨by decide +kernel, rfl⟩
theorem d_X6_ordered_151 : DC mX6_ordered 151 (.ifCond .ne 8) 3 154 := ⟨by decide +kernel, rfl⟩
theorem d_X6_ordered_154 : DC mX6_ordered 154 (.iload 6) 2 156 := ⟨by decide +kernel, rfl⟩
theorem d_X6_ordered_156 : DC mX6_ordered 156 (.goto 6) 3 159 := ⟨by decide +kernel, rfl⟩
theorem d_X6_ordered_159 : DC mX6_ordered 159 (.iload 6) 2 161 := ⟨by decide +kernel, rfl⟩
theorem d_X6_ordered_161 : DC mX6_ordered 161 (.ineg) 1 162 := ⟨by decide +kernel, rfl⟩
theorem d_X6_ordered_162 : DC mX6_ordered 162 (.ireturn) 1 163 := ⟨by decide +kernel, rfl⟩
theorem d_X1_signOf_0 : DC mX1_signOf 0 (.aload_n 0) 1 1 := ⟨by decide +kernel, rfl⟩
theorem d_X1_signOf_1 : DC mX1_signOf 1 (.getfield 19) 3 4 := ⟨by decide +kernel, rfl⟩
theorem d_X1_signOf_4 : DC mX1_signOf 4 (.iload_n 1) 1 5 := ⟨by decide +kernel, rfl⟩
theorem d_X1_signOf_5 : DC mX1_signOf 5 (.iaload) 1 6 := ⟨by decide +kernel, rfl⟩
theorem d_X1_signOf_6 : DC mX1_signOf 6 (.aload_n 0) 1 7 := ⟨by decide +kernel, rfl⟩
theorem d_X1_signOf_7 : DC mX1_signOf 7 (.getfield 19) 3 10 := ⟨by decide +kernel, rfl⟩
theorem d_X1_signOf_10 : DC mX1_signOf 10 (.iload_n 2) 1 11 := ⟨by decide +kernel, rfl⟩
theorem d_X1_signOf_11 : DC mX1_signOf 11 (.iaload) 1 12 := ⟨by decide +kernel, rfl⟩
theorem d_X1_signOf_12 : DC mX1_signOf 12 (.aload_n 0) 1 13 := ⟨by decide +kernel, rfl⟩
theorem d_X1_signOf_13 : DC mX1_signOf 13 (.getfield 19) 3 16 := ⟨by decide +kernel, rfl⟩
theorem d_X1_signOf_16 : DC mX1_signOf 16 (.iload_n 3) 1 17 := ⟨by decide +kernel, rfl⟩
theorem d_X1_signOf_17 : DC mX1_signOf 17 (.iaload) 1 18 := ⟨by decide +kernel, rfl⟩
theorem d_X1_signOf_18 : DC mX1_signOf 18 (.invokestatic 122) 3 21 := ⟨by decide +kernel, rfl⟩
theorem d_X1_signOf_21 : DC mX1_signOf 21 (.invokestatic 124) 3 24 := ⟨by decide +kernel, rfl⟩
theorem d_X1_signOf_24 : DC mX1_signOf 24 (.ifCond .ge 7) 3 27 := ⟨by decide +kernel, rfl⟩
theorem d_X1_signOf_27 : DC mX1_signOf 27 (.iconst (-1)) 1 28 := ⟨by decide +kernel, rfl⟩
theorem d_X1_signOf_28 : DC mX1_signOf 28 (.goto 4) 3 31 := ⟨by decide +kernel, rfl⟩
theorem d_X1_signOf_31 : DC mX1_signOf 31 (.iconst 1) 1 32 := ⟨by decide +kernel, rfl⟩
theorem d_X1_signOf_32 : DC mX1_signOf 32 (.ireturn) 1 33 := ⟨by decide +kernel, rfl⟩
theorem d_X1_besideFirst_0 : DC mX1_besideFirst 0 (.iconst 1) 1 1 := ⟨by decide +kernel, rfl⟩
theorem d_X1_besideFirst_1 : DC mX1_besideFirst 1 (.aload_n 0) 1 2 := ⟨by decide +kernel, rfl⟩
theorem d_X1_besideFirst_2 : DC mX1_besideFirst 2 (.getfield 19) 3 5 := ⟨by decide +kernel, rfl⟩
theorem d_X1_besideFirst_5 : DC mX1_besideFirst 5 (.iload_n 1) 1 6 := ⟨by decide +kernel, rfl⟩
theorem d_X1_besideFirst_6 : DC mX1_besideFirst 6 (.iaload) 1 7 := ⟨by decide +kernel, rfl⟩
theorem d_X1_besideFirst_7 : DC mX1_besideFirst 7 (.ishl) 1 8 := ⟨by decide +kernel, rfl⟩
theorem d_X1_besideFirst_8 : DC mX1_besideFirst 8 (.iconst 1) 1 9 := ⟨by decide +kernel, rfl⟩
theorem d_X1_besideFirst_9 : DC mX1_besideFirst 9 (.aload_n 0) 1 10 := ⟨by decide +kernel, rfl⟩
theorem d_X1_besideFirst_10 : DC mX1_besideFirst 10 (.getfield 19) 3 13 := ⟨by decide +kernel, rfl⟩
theorem d_X1_besideFirst_13 : DC mX1_besideFirst 13 (.iload_n 2) 1 14 := ⟨by decide +kernel, rfl⟩
theorem d_X1_besideFirst_14 : DC mX1_besideFirst 14 (.iaload) 1 15 := ⟨by decide +kernel, rfl⟩
theorem d_X1_besideFirst_15 : DC mX1_besideFirst 15 (.ishl) 1 16 := ⟨by decide +kernel, rfl⟩
theorem d_X1_besideFirst_16 : DC mX1_besideFirst 16 (.ior) 1 17 := ⟨by decide +kernel, rfl⟩
theorem d_X1_besideFirst_17 : DC mX1_besideFirst 17 (.iconst 1) 1 18 := ⟨by decide +kernel, rfl⟩
theorem d_X1_besideFirst_18 : DC mX1_besideFirst 18 (.aload_n 0) 1 19 := ⟨by decide +kernel, rfl⟩
theorem d_X1_besideFirst_19 : DC mX1_besideFirst 19 (.getfield 19) 3 22 := ⟨by decide +kernel, rfl⟩
theorem d_X1_besideFirst_22 : DC mX1_besideFirst 22 (.iload_n 3) 1 23 := ⟨by decide +kernel, rfl⟩
theorem d_X1_besideFirst_23 : DC mX1_besideFirst 23 (.iaload) 1 24 := ⟨by decide +kernel, rfl⟩
theorem d_X1_besideFirst_24 : DC mX1_besideFirst 24 (.ishl) 1 25 := ⟨by decide +kernel, rfl⟩
theorem d_X1_besideFirst_25 : DC mX1_besideFirst 25 (.ior) 1 26 := ⟨by decide +kernel, rfl⟩
theorem d_X1_besideFirst_26 : DC mX1_besideFirst 26 (.istore 4) 2 28 := ⟨by decide +kernel, rfl⟩
theorem d_X1_besideFirst_28 : DC mX1_besideFirst 28 (.iload 4) 2 30 := ⟨by decide +kernel, rfl⟩
theorem d_X1_besideFirst_30 : DC mX1_besideFirst 30 (.iconst 1) 1 31 := ⟨by decide +kernel, rfl⟩
theorem d_X1_besideFirst_31 : DC mX1_besideFirst 31 (.iand) 1 32 := ⟨by decide +kernel, rfl⟩
theorem d_X1_besideFirst_32 : DC mX1_besideFirst 32 (.iconst 1) 1 33 := ⟨by decide +kernel, rfl⟩
theorem d_X1_besideFirst_33 : DC mX1_besideFirst 33 (.if_icmp .ne 8) 3 36 := ⟨by decide +kernel, rfl⟩
theorem d_X1_besideFirst_36 : DC mX1_besideFirst 36 (.iload 4) 2 38 := ⟨by decide +kernel, rfl⟩
theorem d_X1_besideFirst_38 : DC mX1_besideFirst 38 (.goto 8) 3 41 := ⟨by decide +kernel, rfl⟩
theorem d_X1_besideFirst_41 : DC mX1_besideFirst 41 (.bipush 63) 2 43 := ⟨by decide +kernel, rfl⟩
theorem d_X1_besideFirst_43 : DC mX1_besideFirst 43 (.iload 4) 2 45 := ⟨by decide +kernel, rfl⟩
theorem d_X1_besideFirst_45 : DC mX1_besideFirst 45 (.isub) 1 46 := ⟨by decide +kernel, rfl⟩
theorem d_X1_besideFirst_46 : DC mX1_besideFirst 46 (.iconst 1) 1 47 := ⟨by decide +kernel, rfl⟩
theorem d_X1_besideFirst_47 : DC mX1_besideFirst 47 (.ishr) 1 48 := ⟨by decide +kernel, rfl⟩
theorem d_X1_besideFirst_48 : DC mX1_besideFirst 48 (.ireturn) 1 49 := ⟨by decide +kernel, rfl⟩
theorem d_X1_isMultiple_0 : DC mX1_isMultiple 0 (.aload_n 0) 1 1 := ⟨by decide +kernel, rfl⟩
theorem d_X1_isMultiple_1 : DC mX1_isMultiple 1 (.iconst 0) 1 2 := ⟨by decide +kernel, rfl⟩
theorem d_X1_isMultiple_2 : DC mX1_isMultiple 2 (.iconst 2) 1 3 := ⟨by decide +kernel, rfl⟩
theorem d_X1_isMultiple_3 : DC mX1_isMultiple 3 (.iconst 3) 1 4 := ⟨by decide +kernel, rfl⟩
theorem d_X1_isMultiple_4 : DC mX1_isMultiple 4 (.invokevirtual 115) 3 7 := ⟨by decide +kernel, rfl⟩
theorem d_X1_isMultiple_7 : DC mX1_isMultiple 7 (.aload_n 0) 1 8 := ⟨by decide +kernel, rfl⟩
theorem d_X1_isMultiple_8 : DC mX1_isMultiple 8 (.iconst 1) 1 9 := ⟨by decide +kernel, rfl⟩
theorem d_X1_isMultiple_9 : DC mX1_isMultiple 9 (.iconst 4) 1 10 := ⟨by decide +kernel, rfl⟩
theorem d_X1_isMultiple_10 : DC mX1_isMultiple 10 (.iconst 5) 1 11 := ⟨by decide +kernel, rfl⟩
theorem d_X1_isMultiple_11 : DC mX1_isMultiple 11 (.invokevirtual 115) 3 14 := ⟨by decide +kernel, rfl⟩
theorem d_X1_isMultiple_14 : DC mX1_isMultiple 14 (.imul) 1 15 := ⟨by decide +kernel, rfl⟩
theorem d_X1_isMultiple_15 : DC mX1_isMultiple 15 (.istore_n 1) 1 16 := ⟨by decide +kernel, rfl⟩
theorem d_X1_isMultiple_16 : DC mX1_isMultiple 16 (.aload_n 0) 1 17 := ⟨by decide +kernel, rfl⟩
theorem d_X1_isMultiple_17 : DC mX1_isMultiple 17 (.iconst 1) 1 18 := ⟨by decide +kernel, rfl⟩
theorem d_X1_isMultiple_18 : DC mX1_isMultiple 18 (.iconst 2) 1 19 := ⟨by decide +kernel, rfl⟩
theorem d_X1_isMultiple_19 : DC mX1_isMultiple 19 (.iconst 3) 1 20 := ⟨by decide +kernel, rfl⟩
theorem d_X1_isMultiple_20 : DC mX1_isMultiple 20 (.invokevirtual 115) 3 23 := ⟨by decide +kernel, rfl⟩
theorem d_X1_isMultiple_23 : DC mX1_isMultiple 23 (.aload_n 0) 1 24 := ⟨by decide +kernel, rfl⟩
theorem d_X1_isMultiple_24 : DC mX1_isMultiple 24 (.iconst 0) 1 25 := ⟨by decide +kernel, rfl⟩
theorem d_X1_isMultiple_25 : DC mX1_isMultiple 25 (.iconst 4) 1 26 := ⟨by decide +kernel, rfl⟩
theorem d_X1_isMultiple_26 : DC mX1_isMultiple 26 (.iconst 5) 1 27 := ⟨by decide +kernel, rfl⟩
theorem d_X1_isMultiple_27 : DC mX1_isMultiple 27 (.invokevirtual 115) 3 30 := ⟨by decide +kernel, rfl⟩
theorem d_X1_isMultiple_30 : DC mX1_isMultiple 30 (.imul) 1 31 := ⟨by decide +kernel, rfl⟩
theorem d_X1_isMultiple_31 : DC mX1_isMultiple 31 (.istore_n 2) 1 32 := ⟨by decide +kernel, rfl⟩
theorem d_X1_isMultiple_32 : DC mX1_isMultiple 32 (.iconst 5) 1 33 := ⟨by decide +kernel, rfl⟩
theorem d_X1_isMultiple_33 : DC mX1_isMultiple 33 (.aload_n 0) 1 34 := ⟨by decide +kernel, rfl⟩
theorem d_X1_isMultiple_34 : DC mX1_isMultiple 34 (.iconst 0) 1 35 := ⟨by decide +kernel, rfl⟩
theorem d_X1_isMultiple_35 : DC mX1_isMultiple 35 (.iconst 2) 1 36 := ⟨by decide +kernel, rfl⟩
theorem d_X1_isMultiple_36 : DC mX1_isMultiple 36 (.iconst 3) 1 37 := ⟨by decide +kernel, rfl⟩
theorem d_X1_isMultiple_37 : DC mX1_isMultiple 37 (.invokevirtual 119) 3 40 := ⟨by decide +kernel, rfl⟩
theorem d_X1_isMultiple_40 : DC mX1_isMultiple 40 (.imul) 1 41 := ⟨by decide +kernel, rfl⟩
theorem d_X1_isMultiple_41 : DC mX1_isMultiple 41 (.istore_n 3) 1 42 := ⟨by decide +kernel, rfl⟩
theorem d_X1_isMultiple_42 : DC mX1_isMultiple 42 (.iconst 5) 1 43 := ⟨by decide +kernel, rfl⟩
theorem d_X1_isMultiple_43 : DC mX1_isMultiple 43 (.aload_n 0) 1 44 := ⟨by decide +kernel, rfl⟩
theorem d_X1_isMultiple_44 : DC mX1_isMultiple 44 (.iconst 1) 1 45 := ⟨by decide +kernel, rfl⟩
theorem d_X1_isMultiple_45 : DC mX1_isMultiple 45 (.iconst 2) 1 46 := ⟨by decide +kernel, rfl⟩
theorem d_X1_isMultiple_46 : DC mX1_isMultiple 46 (.iconst 3) 1 47 := ⟨by decide +kernel, rfl⟩
theorem d_X1_isMultiple_47 : DC mX1_isMultiple 47 (.invokevirtual 119) 3 50 := ⟨by decide +kernel, rfl⟩
theorem d_X1_isMultiple_50 : DC mX1_isMultiple 50 (.imul) 1 51 := ⟨by decide +kernel, rfl⟩
theorem d_X1_isMultiple_51 : DC mX1_isMultiple 51 (.istore 4) 2 53 := ⟨by decide +kernel, rfl⟩
theorem d_X1_isMultiple_53 : DC mX1_isMultiple 53 (.lconst 0) 1 54 := ⟨by decide +kernel, rfl⟩
theorem d_X1_isMultiple_54 : DC mX1_isMultiple 54 (.lstore 5) 2 56 := ⟨by decide +kernel, rfl⟩
theorem d_X1_isMultiple_56 : DC mX1_isMultiple 56 (.iconst 0) 1 57 := ⟨by decide +kernel, rfl⟩
theorem d_X1_isMultiple_57 : DC mX1_isMultiple 57 (.istore 7) 2 59 := ⟨by decide +kernel, rfl⟩
theorem d_X1_isMultiple_59 : DC mX1_isMultiple 59 (.iload 7) 2 61 := ⟨by decide +kernel, rfl⟩
theorem d_X1_isMultiple_61 : DC mX1_isMultiple 61 (.iconst 5) 1 62 := ⟨by decide +kernel, rfl⟩
theorem d_X1_isMultiple_62 : DC mX1_isMultiple 62 (.if_icmp .ge 90) 3 65 := ⟨by decide +kernel, rfl⟩
theorem d_X1_isMultiple_65 : DC mX1_isMultiple 65 (.iload_n 1) 1 66 := ⟨by decide +kernel, rfl⟩
theorem d_X1_isMultiple_66 : DC mX1_isMultiple 66 (.aload_n 0) 1 67 := ⟨by decide +kernel, rfl⟩
theorem d_X1_isMultiple_67 : DC mX1_isMultiple 67 (.getfield 26) 3 70 := ⟨by decide +kernel, rfl⟩
theorem d_X1_isMultiple_70 : DC mX1_isMultiple 70 (.iload_n 3) 1 71 := ⟨by decide +kernel, rfl⟩
theorem d_X1_isMultiple_71 : DC mX1_isMultiple 71 (.iload 7) 2 73 := ⟨by decide +kernel, rfl⟩
theorem d_X1_isMultiple_73 : DC mX1_isMultiple 73 (.iadd) 1 74 := ⟨by decide +kernel, rfl⟩
theorem d_X1_isMultiple_74 : DC mX1_isMultiple 74 (.iaload) 1 75 := ⟨by decide +kernel, rfl⟩
theorem d_X1_isMultiple_75 : DC mX1_isMultiple 75 (.imul) 1 76 := ⟨by decide +kernel, rfl⟩
theorem d_X1_isMultiple_76 : DC mX1_isMultiple 76 (.iload_n 2) 1 77 := ⟨by decide +kernel, rfl⟩
theorem d_X1_isMultiple_77 : DC mX1_isMultiple 77 (.aload_n 0) 1 78 := ⟨by decide +kernel, rfl⟩
theorem d_X1_isMultiple_78 : DC mX1_isMultiple 78 (.getfield 26) 3 81 := ⟨by decide +kernel, rfl⟩
theorem d_X1_isMultiple_81 : DC mX1_isMultiple 81 (.iload 4) 2 83 := ⟨by decide +kernel, rfl⟩
theorem d_X1_isMultiple_83 : DC mX1_isMultiple 83 (.iload 7) 2 85 := ⟨by decide +kernel, rfl⟩
theorem d_X1_isMultiple_85 : DC mX1_isMultiple 85 (.iadd) 1 86 := ⟨by decide +kernel, rfl⟩
theorem d_X1_isMultiple_86 : DC mX1_isMultiple 86 (.iaload) 1 87 := ⟨by decide +kernel, rfl⟩
theorem d_X1_isMultiple_87 : DC mX1_isMultiple 87 (.imul) 1 88 := ⟨by decide +kernel, rfl⟩
theorem d_X1_isMultiple_88 : DC mX1_isMultiple 88 (.isub) 1 89 := ⟨by decide +kernel, rfl⟩
theorem d_X1_isMultiple_89 : DC mX1_isMultiple 89 (.istore 8) 2 91 := ⟨by decide +kernel, rfl⟩
theorem d_X1_isMultiple_91 : DC mX1_isMultiple 91 (.lload 5) 2 93 := ⟨by decide +kernel, rfl⟩
theorem d_X1_isMultiple_93 : DC mX1_isMultiple 93 (.lconst 0) 1 94 := ⟨by decide +kernel, rfl⟩
theorem d_X1_isMultiple_94 : DC mX1_isMultiple 94 (.lcmp) 1 95 := ⟨by decide +kernel, rfl⟩
theorem d_X1_isMultiple_95 : DC mX1_isMultiple 95 (.ifCond .ne 31) 3 98 := ⟨by decide +kernel, rfl⟩
theorem d_X1_isMultiple_98 : DC mX1_isMultiple 98 (.iload 8) 2 100 := ⟨by decide +kernel, rfl⟩
theorem d_X1_isMultiple_100 : DC mX1_isMultiple 100 (.ifCond .eq 26) 3 103 := ⟨by decide +kernel, rfl⟩
theorem d_X1_isMultiple_103 : DC mX1_isMultiple 103 (.aload_n 0) 1 104 := ⟨by decide +kernel, rfl⟩
theorem d_X1_isMultiple_104 : DC mX1_isMultiple 104 (.getfield 29) 3 107 := ⟨by decide +kernel, rfl⟩
theorem d_X1_isMultiple_107 : DC mX1_isMultiple 107 (.iload 7) 2 109 := ⟨by decide +kernel, rfl⟩
theorem d_X1_isMultiple_109 : DC mX1_isMultiple 109 (.iaload) 1 110 := ⟨by decide +kernel, rfl⟩
theorem d_X1_isMultiple_110 : DC mX1_isMultiple 110 (.i2l) 1 111 := ⟨by decide +kernel, rfl⟩
theorem d_X1_isMultiple_111 : DC mX1_isMultiple 111 (.iload 8) 2 113 := ⟨by decide +kernel, rfl⟩
theorem d_X1_isMultiple_113 : DC mX1_isMultiple 113 (.i2l) 1 114 := ⟨by decide +kernel, rfl⟩
theorem d_X1_isMultiple_114 : DC mX1_isMultiple 114 (.ldiv) 1 115 := ⟨by decide +kernel, rfl⟩
theorem d_X1_isMultiple_115 : DC mX1_isMultiple 115 (.lstore 5) 2 117 := ⟨by decide +kernel, rfl⟩
theorem d_X1_isMultiple_117 : DC mX1_isMultiple 117 (.lload 5) 2 119 := ⟨by decide +kernel, rfl⟩
theorem d_X1_isMultiple_119 : DC mX1_isMultiple 119 (.lconst 0) 1 120 := ⟨by decide +kernel, rfl⟩
theorem d_X1_isMultiple_120 : DC mX1_isMultiple 120 (.lcmp) 1 121 := ⟨by decide +kernel, rfl⟩
theorem d_X1_isMultiple_121 : DC mX1_isMultiple 121 (.ifCond .ne 5) 3 124 := ⟨by decide +kernel, rfl⟩
theorem d_X1_isMultiple_124 : DC mX1_isMultiple 124 (.iconst 0) 1 125 := ⟨by decide +kernel, rfl⟩
theorem d_X1_isMultiple_125 : DC mX1_isMultiple 125 (.ireturn) 1 126 := ⟨by decide +kernel, rfl⟩
theorem d_X1_isMultiple_126 : DC mX1_isMultiple 126 (.lload 5) 2 128 := ⟨by decide +kernel, rfl⟩
theorem d_X1_isMultiple_128 : DC mX1_isMultiple 128 (.iload 8) 2 130 := ⟨by decide +kernel, rfl⟩
theorem d_X1_isMultiple_130 : DC mX1_isMultiple 130 (.i2l) 1 131 := ⟨by decide +kernel, rfl⟩
theorem d_X1_isMultiple_131 : DC mX1_isMultiple 131 (.lmul) 1 132 := ⟨by decide +kernel, rfl⟩
theorem d_X1_isMultiple_132 : DC mX1_isMultiple 132 (.aload_n 0) 1 133 := ⟨by decide +kernel, rfl⟩
theorem d_X1_isMultiple_133 : DC mX1_isMultiple 133 (.getfield 29) 3 136 := ⟨by decide +kernel, rfl⟩
theorem d_X1_isMultiple_136 : DC mX1_isMultiple 136 (.iload 7) 2 138 := ⟨by decide +kernel, rfl⟩
theorem d_X1_isMultiple_138 : DC mX1_isMultiple 138 (.iaload) 1 139 := ⟨by decide +kernel, rfl⟩
theorem d_X1_isMultiple_139 : DC mX1_isMultiple 139 (.i2l) 1 140 := ⟨by decide +kernel, rfl⟩
theorem d_X1_isMultiple_140 : DC mX1_isMultiple 140 (.lcmp) 1 141 := ⟨by decide +kernel, rfl⟩
theorem d_X1_isMultiple_141 : DC mX1_isMultiple 141 (.ifCond .eq 5) 3 144 := ⟨by decide +kernel, rfl⟩
theorem d_X1_isMultiple_144 : DC mX1_isMultiple 144 (.iconst 0) 1 145 := ⟨by decide +kernel, rfl⟩
theorem d_X1_isMultiple_145 : DC mX1_isMultiple 145 (.ireturn) 1 146 := ⟨by decide +kernel, rfl⟩
theorem d_X1_isMultiple_146 : DC mX1_isMultiple 146 (.iinc 7 1) 3 149 := ⟨by decide +kernel, rfl⟩
theorem d_X1_isMultiple_149 : DC mX1_isMultiple 149 (.goto (-90)) 3 152 := ⟨by decide +kernel, rfl⟩
theorem d_X1_isMultiple_152 : DC mX1_isMultiple 152 (.aload_n 0) 1 153 := ⟨by decide +kernel, rfl⟩
theorem d_X1_isMultiple_153 : DC mX1_isMultiple 153 (.lload 5) 2 155 := ⟨by decide +kernel, rfl⟩
theorem d_X1_isMultiple_155 : DC mX1_isMultiple 155 (.l2i) 1 156 := ⟨by decide +kernel, rfl⟩
theorem d_X1_isMultiple_156 : DC mX1_isMultiple 156 (.putfield 9) 3 159 := ⟨by decide +kernel, rfl⟩
theorem d_X1_isMultiple_159 : DC mX1_isMultiple 159 (.lload 5) 2 161 := ⟨by decide +kernel, rfl⟩
theorem d_X1_isMultiple_161 : DC mX1_isMultiple 161 (.lconst 0) 1 162 := ⟨by decide +kernel, rfl⟩
theorem d_X1_isMultiple_162 : DC mX1_isMultiple 162 (.lcmp) 1 163 := ⟨by decide +kernel, rfl⟩
theorem d_X1_isMultiple_163 : DC mX1_isMultiple 163 (.ifCond .eq 18) 3 166 := ⟨by decide +kernel, rfl⟩
theorem d_X1_isMultiple_166 : DC mX1_isMultiple 166 (.lload 5) 2 168 := ⟨by decide +kernel, rfl⟩
theorem d_X1_isMultiple_168 : DC mX1_isMultiple 168 (.aload_n 0) 1 169 := ⟨by decide +kernel, rfl⟩
theorem d_X1_isMultiple_169 : DC mX1_isMultiple 169 (.getfield 9) 3 172 := ⟨by decide +kernel, rfl⟩
theorem d_X1_isMultiple_172 : DC mX1_isMultiple 172 (.i2l) 1 173 := ⟨by decide +kernel, rfl⟩
theorem d_X1_isMultiple_173 : DC mX1_isMultiple 173 (.lcmp) 1 174 := ⟨by decide +kernel, rfl⟩
theorem d_X1_isMultiple_174 : DC mX1_isMultiple 174 (.ifCond .ne 7) 3 177 := ⟨by decide +kernel, rfl⟩
theorem d_X1_isMultiple_177 : DC mX1_isMultiple 177 (.iconst 1) 1 178 := ⟨by decide +kernel, rfl⟩
theorem d_X1_isMultiple_178 : DC mX1_isMultiple 178 (.goto 4) 3 181 := ⟨by decide +kernel, rfl⟩
theorem d_X1_isMultiple_181 : DC mX1_isMultiple 181 (.iconst 0) 1 182 := ⟨by decide +kernel, rfl⟩
theorem d_X1_isMultiple_182 : DC mX1_isMultiple 182 (.ireturn) 1 183 := ⟨by decide +kernel, rfl⟩
theorem d_X1_swap_0 : DC mX1_swap 0 (.aload_n 0) 1 1 := ⟨by decide +kernel, rfl⟩
theorem d_X1_swap_1 : DC mX1_swap 1 (.getfield 19) 3 4 := ⟨by decide +kernel, rfl⟩
theorem d_X1_swap_4 : DC mX1_swap 4 (.iload_n 1) 1 5 := ⟨by decide +kernel, rfl⟩
theorem d_X1_swap_5 : DC mX1_swap 5 (.iaload) 1 6 := ⟨by decide +kernel, rfl⟩
theorem d_X1_swap_6 : DC mX1_swap 6 (.istore_n 3) 1 7 := ⟨by decide +kernel, rfl⟩
theorem d_X1_swap_7 : DC mX1_swap 7 (.aload_n 0) 1 8 := ⟨by decide +kernel, rfl⟩
theorem d_X1_swap_8 : DC mX1_swap 8 (.getfield 19) 3 11 := ⟨by decide +kernel, rfl⟩
theorem d_X1_swap_11 : DC mX1_swap 11 (.iload_n 1) 1 12 := ⟨by decide +kernel, rfl⟩
theorem d_X1_swap_12 : DC mX1_swap 12 (.aload_n 0) 1 13 := ⟨by decide +kernel, rfl⟩
theorem d_X1_swap_13 : DC mX1_swap 13 (.getfield 19) 3 16 := ⟨by decide +kernel, rfl⟩
theorem d_X1_swap_16 : DC mX1_swap 16 (.iload_n 2) 1 17 := ⟨by decide +kernel, rfl⟩
theorem d_X1_swap_17 : DC mX1_swap 17 (.iaload) 1 18 := ⟨by decide +kernel, rfl⟩
theorem d_X1_swap_18 : DC mX1_swap 18 (.iastore) 1 19 := ⟨by decide +kernel, rfl⟩
theorem d_X1_swap_19 : DC mX1_swap 19 (.aload_n 0) 1 20 := ⟨by decide +kernel, rfl⟩
theorem d_X1_swap_20 : DC mX1_swap 20 (.getfield 19) 3 23 := ⟨by decide +kernel, rfl⟩
theorem d_X1_swap_23 : DC mX1_swap 23 (.iload_n 2) 1 24 := ⟨by decide +kernel, rfl⟩
theorem d_X1_swap_24 : DC mX1_swap 24 (.iload_n 3) 1 25 := ⟨by decide +kernel, rfl⟩
theorem d_X1_swap_25 : DC mX1_swap 25 (.iastore) 1 26 := ⟨by decide +kernel, rfl⟩
theorem d_X1_swap_26 : DC mX1_swap 26 (.return_) 1 27 := ⟨by decide +kernel, rfl⟩
theorem d_X1_nextRow_0 : DC mX1_nextRow 0 (.iconst 4) 1 1 := ⟨by decide +kernel, rfl⟩
theorem d_X1_nextRow_1 : DC mX1_nextRow 1 (.istore_n 1) 1 2 := ⟨by decide +kernel, rfl⟩
theorem d_X1_nextRow_2 : DC mX1_nextRow 2 (.iload_n 1) 1 3 := ⟨by decide +kernel, rfl⟩
theorem d_X1_nextRow_3 : DC mX1_nextRow 3 (.ifCond .lt 26) 3 6 := ⟨by decide +kernel, rfl⟩
theorem d_X1_nextRow_6 : DC mX1_nextRow 6 (.aload_n 0) 1 7 := ⟨by decide +kernel, rfl⟩
theorem d_X1_nextRow_7 : DC mX1_nextRow 7 (.getfield 19) 3 10 := ⟨by decide +kernel, rfl⟩
theorem d_X1_nextRow_10 : DC mX1_nextRow 10 (.iload_n 1) 1 11 := ⟨by decide +kernel, rfl⟩
theorem d_X1_nextRow_11 : DC mX1_nextRow 11 (.iaload) 1 12 := ⟨by decide +kernel, rfl⟩
theorem d_X1_nextRow_12 : DC mX1_nextRow 12 (.aload_n 0) 1 13 := ⟨by decide +kernel, rfl⟩
theorem d_X1_nextRow_13 : DC mX1_nextRow 13 (.getfield 19) 3 16 := ⟨by decide +kernel, rfl⟩
theorem d_X1_nextRow_16 : DC mX1_nextRow 16 (.iload_n 1) 1 17 := ⟨by decide +kernel, rfl⟩
theorem d_X1_nextRow_17 : DC mX1_nextRow 17 (.iconst 1) 1 18 := ⟨by decide +kernel, rfl⟩
theorem d_X1_nextRow_18 : DC mX1_nextRow 18 (.iadd) 1 19 := ⟨by decide +kernel, rfl⟩
theorem d_X1_nextRow_19 : DC mX1_nextRow 19 (.iaload) 1 20 := ⟨by decide +kernel, rfl⟩
theorem d_X1_nextRow_20 : DC mX1_nextRow 20 (.if_icmp .le 9) 3 23 := ⟨by decide +kernel, rfl⟩
theorem d_X1_nextRow_23 : DC mX1_nextRow 23 (.iinc 1 (-1)) 3 26 := ⟨by decide +kernel, rfl⟩
theorem d_X1_nextRow_26 : DC mX1_nextRow 26 (.goto (-24)) 3 29 := ⟨by decide +kernel, rfl⟩
theorem d_X1_nextRow_29 : DC mX1_nextRow 29 (.iload_n 1) 1 30 := ⟨by decide +kernel, rfl⟩
theorem d_X1_nextRow_30 : DC mX1_nextRow 30 (.ifCond .ge 4) 3 33 := ⟨by decide +kernel, rfl⟩
theorem d_X1_nextRow_33 : DC mX1_nextRow 33 (.return_) 1 34 := ⟨by decide +kernel, rfl⟩
theorem d_X1_nextRow_34 : DC mX1_nextRow 34 (.iconst 5) 1 35 := ⟨by decide +kernel, rfl⟩
theorem d_X1_nextRow_35 : DC mX1_nextRow 35 (.istore_n 2) 1 36 := ⟨by decide +kernel, rfl⟩
theorem d_X1_nextRow_36 : DC mX1_nextRow 36 (.iload_n 2) 1 37 := ⟨by decide +kernel, rfl⟩
theorem d_X1_nextRow_37 : DC mX1_nextRow 37 (.iload_n 1) 1 38 := ⟨by decide +kernel, rfl⟩
theorem d_X1_nextRow_38 : DC mX1_nextRow 38 (.if_icmp .le 24) 3 41 := ⟨by decide +kernel, rfl⟩
theorem d_X1_nextRow_41 : DC mX1_nextRow 41 (.aload_n 0) 1 42 := ⟨by decide +kernel, rfl⟩
theorem d_X1_nextRow_42 : DC mX1_nextRow 42 (.getfield 19) 3 45 := ⟨by decide +kernel, rfl⟩
theorem d_X1_nextRow_45 : DC mX1_nextRow 45 (.iload_n 2) 1 46 := ⟨by decide +kernel, rfl⟩
theorem d_X1_nextRow_46 : DC mX1_nextRow 46 (.iaload) 1 47 := ⟨by decide +kernel, rfl⟩
theorem d_X1_nextRow_47 : DC mX1_nextRow 47 (.aload_n 0) 1 48 := ⟨by decide +kernel, rfl⟩
theorem d_X1_nextRow_48 : DC mX1_nextRow 48 (.getfield 19) 3 51 := ⟨by decide +kernel, rfl⟩
theorem d_X1_nextRow_51 : DC mX1_nextRow 51 (.iload_n 1) 1 52 := ⟨by decide +kernel, rfl⟩
theorem d_X1_nextRow_52 : DC mX1_nextRow 52 (.iaload) 1 53 := ⟨by decide +kernel, rfl⟩
theorem d_X1_nextRow_53 : DC mX1_nextRow 53 (.if_icmp .ge 9) 3 56 := ⟨by decide +kernel, rfl⟩
theorem d_X1_nextRow_56 : DC mX1_nextRow 56 (.iinc 2 (-1)) 3 59 := ⟨by decide +kernel, rfl⟩
theorem d_X1_nextRow_59 : DC mX1_nextRow 59 (.goto (-23)) 3 62 := ⟨by decide +kernel, rfl⟩
theorem d_X1_nextRow_62 : DC mX1_nextRow 62 (.aload_n 0) 1 63 := ⟨by decide +kernel, rfl⟩
theorem d_X1_nextRow_63 : DC mX1_nextRow 63 (.iload_n 1) 1 64 := ⟨by decide +kernel, rfl⟩
theorem d_X1_nextRow_64 : DC mX1_nextRow 64 (.iload_n 2) 1 65 := ⟨by decide +kernel, rfl⟩
theorem d_X1_nextRow_65 : DC mX1_nextRow 65 (.invokevirtual 127) 3 68 := ⟨by decide +kernel, rfl⟩
theorem d_X1_nextRow_68 : DC mX1_nextRow 68 (.iload_n 1) 1 69 := ⟨by decide +kernel, rfl⟩
theorem d_X1_nextRow_69 : DC mX1_nextRow 69 (.iconst 1) 1 70 := ⟨by decide +kernel, rfl⟩
theorem d_X1_nextRow_70 : DC mX1_nextRow 70 (.iadd) 1 71 := ⟨by decide +kernel, rfl⟩
theorem d_X1_nextRow_71 : DC mX1_nextRow 71 (.istore_n 3) 1 72 := ⟨by decide +kernel, rfl⟩
theorem d_X1_nextRow_72 : DC mX1_nextRow 72 (.iconst 5) 1 73 := ⟨by decide +kernel, rfl⟩
theorem d_X1_nextRow_73 : DC mX1_nextRow 73 (.istore 4) 2 75 := ⟨by decide +kernel, rfl⟩
theorem d_X1_nextRow_75 : DC mX1_nextRow 75 (.iload_n 3) 1 76 := ⟨by decide +kernel, rfl⟩
theorem d_X1_nextRow_76 : DC mX1_nextRow 76 (.iload 4) 2 78 := ⟨by decide +kernel, rfl⟩
theorem d_X1_nextRow_78 : DC mX1_nextRow 78 (.if_icmp .ge 19) 3 81 := ⟨by decide +kernel, rfl⟩
theorem d_X1_nextRow_81 : DC mX1_nextRow 81 (.aload_n 0) 1 82 := ⟨by decide +kernel, rfl⟩
theorem d_X1_nextRow_82 : DC mX1_nextRow 82 (.iload_n 3) 1 83 := ⟨by decide +kernel, rfl⟩
theorem d_X1_nextRow_83 : DC mX1_nextRow 83 (.iload 4) 2 85 := ⟨by decide +kernel, rfl⟩
theorem d_X1_nextRow_85 : DC mX1_nextRow 85 (.invokevirtual 127) 3 88 := ⟨by decide +kernel, rfl⟩
theorem d_X1_nextRow_88 : DC mX1_nextRow 88 (.iinc 3 1) 3 91 := ⟨by decide +kernel, rfl⟩
theorem d_X1_nextRow_91 : DC mX1_nextRow 91 (.iinc 4 (-1)) 3 94 := ⟨by decide +kernel, rfl⟩
theorem d_X1_nextRow_94 : DC mX1_nextRow 94 (.goto (-19)) 3 97 := ⟨by decide +kernel, rfl⟩
theorem d_X1_nextRow_97 : DC mX1_nextRow 97 (.return_) 1 98 := ⟨by decide +kernel, rfl⟩
theorem d_X1_search_0 : DC mX1_search 0 (.aload_n 1) 1 1 := ⟨by decide +kernel, rfl⟩
theorem d_X1_search_1 : DC mX1_search 1 (.getfield 59) 3 4 := ⟨by decide +kernel, rfl⟩
theorem d_X1_search_4 : DC mX1_search 4 (.ifCond .eq 11) 3 7 := ⟨by decide +kernel, rfl⟩
theorem d_X1_search_7 : DC mX1_search 7 (.aload_n 0) 1 8 := ⟨by decide +kernel, rfl⟩
theorem d_X1_search_8 : DC mX1_search 8 (.aload_n 1) 1 9 := ⟨by decide +kernel, rfl⟩
theorem d_X1_search_9 : DC mX1_search 9 (.invokevirtual 78) 3 12 := ⟨by decide +kernel, rfl⟩
theorem d_X1_search_12 : DC mX1_search 12 (.ifCond .ne 5) 3 15 := ⟨by decide +kernel, rfl⟩
theorem d_X1_search_15 : DC mX1_search 15 (.iconst 0) 1 16 := ⟨by decide +kernel, rfl⟩
theorem d_X1_search_16 : DC mX1_search 16 (.ireturn) 1 17 := ⟨by decide +kernel, rfl⟩
theorem d_X1_search_17 : DC mX1_search 17 (.iconst 0) 1 18 := ⟨by decide +kernel, rfl⟩
theorem d_X1_search_18 : DC mX1_search 18 (.istore_n 2) 1 19 := ⟨by decide +kernel, rfl⟩
theorem d_X1_search_19 : DC mX1_search 19 (.iload_n 2) 1 20 := ⟨by decide +kernel, rfl⟩
theorem d_X1_search_20 : DC mX1_search 20 (.bipush 6) 2 22 := ⟨by decide +kernel, rfl⟩
theorem d_X1_search_22 : DC mX1_search 22 (.if_icmp .ge 16) 3 25 := ⟨by decide +kernel, rfl⟩
theorem d_X1_search_25 : DC mX1_search 25 (.aload_n 0) 1 26 := ⟨by decide +kernel, rfl⟩
theorem d_X1_search_26 : DC mX1_search 26 (.getfield 19) 3 29 := ⟨by decide +kernel, rfl⟩
theorem d_X1_search_29 : DC mX1_search 29 (.iload_n 2) 1 30 := ⟨by decide +kernel, rfl⟩
theorem d_X1_search_30 : DC mX1_search 30 (.iload_n 2) 1 31 := ⟨by decide +kernel, rfl⟩
theorem d_X1_search_31 : DC mX1_search 31 (.iastore) 1 32 := ⟨by decide +kernel, rfl⟩
theorem d_X1_search_32 : DC mX1_search 32 (.iinc 2 1) 3 35 := ⟨by decide +kernel, rfl⟩
theorem d_X1_search_35 : DC mX1_search 35 (.goto (-16)) 3 38 := ⟨by decide +kernel, rfl⟩
theorem d_X1_search_38 : DC mX1_search 38 (.iconst 0) 1 39 := ⟨by decide +kernel, rfl⟩
theorem d_X1_search_39 : DC mX1_search 39 (.istore_n 2) 1 40 := ⟨by decide +kernel, rfl⟩
theorem d_X1_search_40 : DC mX1_search 40 (.iload_n 2) 1 41 := ⟨by decide +kernel, rfl⟩
theorem d_X1_search_41 : DC mX1_search 41 (.sipush 720) 3 44 := ⟨by decide +kernel, rfl⟩
theorem d_X1_search_44 : DC mX1_search 44 (.if_icmp .ge 22) 3 47 := ⟨by decide +kernel, rfl⟩
theorem d_X1_search_47 : DC mX1_search 47 (.aload_n 0) 1 48 := ⟨by decide +kernel, rfl⟩
theorem d_X1_search_48 : DC mX1_search 48 (.invokevirtual 82) 3 51 := ⟨by decide +kernel, rfl⟩
theorem d_X1_search_51 : DC mX1_search 51 (.ifCond .eq 5) 3 54 := ⟨by decide +kernel, rfl⟩
theorem d_X1_search_54 : DC mX1_search 54 (.iconst 1) 1 55 := ⟨by decide +kernel, rfl⟩
theorem d_X1_search_55 : DC mX1_search 55 (.ireturn) 1 56 := ⟨by decide +kernel, rfl⟩
theorem d_X1_search_56 : DC mX1_search 56 (.aload_n 0) 1 57 := ⟨by decide +kernel, rfl⟩
theorem d_X1_search_57 : DC mX1_search 57 (.invokevirtual 86) 3 60 := ⟨by decide +kernel, rfl⟩
theorem d_X1_search_60 : DC mX1_search 60 (.iinc 2 1) 3 63 := ⟨by decide +kernel, rfl⟩
theorem d_X1_search_63 : DC mX1_search 63 (.goto (-23)) 3 66 := ⟨by decide +kernel, rfl⟩
theorem d_X1_search_66 : DC mX1_search 66 (.iconst 0) 1 67 := ⟨by decide +kernel, rfl⟩
theorem d_X1_search_67 : DC mX1_search 67 (.ireturn) 1 68 := ⟨by decide +kernel, rfl⟩
theorem v_X0_begin_0 {l : Launch} {d N : Nat} {Λ : Lay} {P : Mem → Prop} {σ : Mem} {t : Int} (o_t : Ob N Λ t 10 4)
    (h : (∀ τ1, τ1 = st σ t 2 0 → (∀ τ2, τ2 = st τ1 t 3 0 → P τ2))) :
    WV l mX0_begin d P 0 [(2, t)] [] N Λ σ := by
  refine r_aload_n (x := t) d_X0_begin_0 rfl o_t.1 ?_
  refine r_iconst (x := 0) d_X0_begin_1 ⟨by decide, by decide⟩ ?_
  refine r_putI (j := 2) d_X0_begin_2 kX0 (by decide) fl_X0_20 rfl o_t.1 o_t.2.1 o_t.2.2.1 o_t.2.2.2 rfl ?_
  refine r_nmM (fun τ1 eτ1 => ?_)
  have h := h τ1 eτ1
  refine r_aload_n (x := t) d_X0_begin_5 rfl o_t.1 ?_
  refine r_iconst (x := 0) d_X0_begin_6 ⟨by decide, by decide⟩ ?_
  refine r_putI (j := 3) d_X0_begin_7 kX0 (by decide) fl_X0_24 rfl o_t.1 o_t.2.1 o_t.2.2.1 o_t.2.2.2 rfl ?_
  refine r_nmM (fun τ2 eτ2 => ?_)
  have h := h τ2 eτ2
  exact r_vret d_X0_begin_10 rfl (Nat.le_refl 0) (Nat.le_refl 0) ⟨rfl, rfl, rfl, h⟩
theorem v_J7_fill_53178_0 {l : Launch} {d N : Nat} {Λ : Lay} {P : Mem → Prop} {σ : Mem} {x1 a0 n_a0 : Int} (z_a0 : 0 ≤ a0) (q_a0 : Ob N Λ a0 0 n_a0 ∧ 0 ≤ n_a0 ∧ n_a0 ≤ 2147483647)
    (h : WV l mJ7_fill_53178 d P 5 [(2, a0), (0, x1), (0, 0), (0, n_a0)] [] N Λ σ) :
    WV l mJ7_fill_53178 d P 0 [(2, a0), (0, x1), (3, 0), (3, 0)] [] N Λ σ := by
  refine r_iconst (x := 0) d_J7_fill_53178_0 ⟨by decide, by decide⟩ ?_
  refine r_istore_n (L2 := [(2, a0), (0, x1), (0, 0), (3, 0)]) d_J7_fill_53178_1 (by decide) rfl rfl ?_
  refine r_aload_n (x := a0) d_J7_fill_53178_2 rfl z_a0 ?_
  refine r_alen (len := n_a0) d_J7_fill_53178_3 q_a0.1.1 q_a0.1.2.1 (by rw [q_a0.1.2.2.1]; decide) q_a0.1.2.2.2 q_a0.2.1 q_a0.2.2 ?_
  refine r_istore_n (L2 := [(2, a0), (0, x1), (0, 0), (0, n_a0)]) d_J7_fill_53178_4 (by decide) rfl rfl ?_
  exact h
theorem v_J7_fill_53178_5 {l : Launch} {d N : Nat} {Λ : Lay} {P : Mem → Prop} {σ : Mem} {x1 x2 x3 a0 : Int} (z_a0 : 0 ≤ a0)
    (h : ((x3 ≤ x2 → P σ) ∧ (¬ (x3 ≤ x2) → (Ix N Λ a0 0 x2 ∧ (∀ τ1, τ1 = st σ a0 x2 x1 → (∀ y2, y2 = addI x2 1 → WV l mJ7_fill_53178 d P 5 [(2, a0), (0, x1), (0, y2), (0, x3)] [] N Λ τ1)))))) :
    WV l mJ7_fill_53178 d P 5 [(2, a0), (0, x1), (0, x2), (0, x3)] [] N Λ σ := by
  refine r_iload_n (x := x2) d_J7_fill_53178_5 rfl ?_
  refine r_iload_n (x := x3) d_J7_fill_53178_6 rfl ?_
  refine r_ic_ge (tgt := 20) d_J7_fill_53178_7 rfl (fun hc => ?_) (fun hc => ?_)
  · have h := h.1 hc
    exact r_vret d_J7_fill_53178_20 rfl (Nat.le_refl 0) (Nat.le_refl 0) ⟨rfl, rfl, rfl, h⟩
  · have h := h.2 hc
    refine r_aload_n (x := a0) d_J7_fill_53178_10 rfl z_a0 ?_
    refine r_iload_n (x := x2) d_J7_fill_53178_11 rfl ?_
    refine r_iload_n (x := x1) d_J7_fill_53178_12 rfl ?_
    refine x_iast d_J7_fill_53178_13 h.1 ?_
    have h := h.2
    refine r_nmM (fun τ1 eτ1 => ?_)
    have h := h τ1 eτ1
    refine x_iinc (x := x2) (L := [(2, a0), (0, x1), (0, x2), (0, x3)]) d_J7_fill_53178_14 rfl (by decide) rfl (fun y2 ey2 => ?_)
    have h := h y2 ey2
    show WP _ _ _ _ _ _ _ _ [(2, a0), (0, x1), (0, y2), (0, x3)] _ _ _ _
    refine r_goto (tgt := 5) d_J7_fill_53178_17 rfl ?_
    exact h
theorem v_X0_columnOf_0 {l : Launch} {d N : Nat} {Λ : Lay} {P : Int → Mem → Prop} {σ : Mem} {x1 t : Int}
    (h : WI l mX0_columnOf d P 2 [(2, t), (1, x1), (3, 0), (0, 0)] [] N Λ σ) :
    WI l mX0_columnOf d P 0 [(2, t), (1, x1), (3, 0), (3, 0)] [] N Λ σ := by
  refine r_iconst (x := 0) d_X0_columnOf_0 ⟨by decide, by decide⟩ ?_
  refine r_istore_n (L2 := [(2, t), (1, x1), (3, 0), (0, 0)]) d_X0_columnOf_1 (by decide) rfl rfl ?_
  exact h
theorem v_X0_columnOf_2 {l : Launch} {d N : Nat} {Λ : Lay} {P : Int → Mem → Prop} {σ : Mem} {x1 x3 t t_columns : Int} (o_t : Ob N Λ t 10 4) (f_t_columns : (Λ t).2.2 0 = t_columns)
    (h : (((σ t 2) ≤ x3 → ((¬ x3 = (σ t 2) → P x3 σ) ∧ (x3 = (σ t 2) → ((480 ≤ (σ t 2) → P x3 σ) ∧ (¬ (480 ≤ (σ t 2)) → (Ix N Λ t_columns 1 x3 ∧ (∀ τ1, τ1 = st σ t_columns x3 x1 → (∀ τ2, τ2 = st τ1 t 2 (addI (τ1 t 2) 1) → P x3 τ2)))))))) ∧ (¬ ((σ t 2) ≤ x3) → (Ix N Λ t_columns 1 x3 ∧ (((cmpL (σ t_columns x3) x1) = 0 → ((¬ x3 = (σ t 2) → P x3 σ) ∧ (x3 = (σ t 2) → ((480 ≤ (σ t 2) → P x3 σ) ∧ (¬ (480 ≤ (σ t 2)) → (Ix N Λ t_columns 1 x3 ∧ (∀ τ3, τ3 = st σ t_columns x3 x1 → (∀ τ4, τ4 = st τ3 t 2 (addI (τ3 t 2) 1) → P x3 τ4)))))))) ∧ (¬ ((cmpL (σ t_columns x3) x1) = 0) → (∀ y5, y5 = addI x3 1 → WI l mX0_columnOf d P 2 [(2, t), (1, x1), (3, 0), (0, y5)] [] N Λ σ))))))) :
    WI l mX0_columnOf d P 2 [(2, t), (1, x1), (3, 0), (0, x3)] [] N Λ σ := by
  refine r_iload_n (x := x3) d_X0_columnOf_2 rfl ?_
  refine r_aload_n (x := t) d_X0_columnOf_3 rfl o_t.1 ?_
  refine r_getf (j := 2) (t := 0) (x := (σ t 2)) d_X0_columnOf_4 kX0 (by decide) fl_X0_20 o_t.1 o_t.2.1 o_t.2.2.1 o_t.2.2.2 rfl rfl ?_
  refine r_ic_ge (tgt := 27) d_X0_columnOf_7 rfl (fun hc => ?_) (fun hc => ?_)
  · have h := h.1 hc
    refine r_iload_n (x := x3) d_X0_columnOf_27 rfl ?_
    refine r_aload_n (x := t) d_X0_columnOf_28 rfl o_t.1 ?_
    refine r_getf (j := 2) (t := 0) (x := (σ t 2)) d_X0_columnOf_29 kX0 (by decide) fl_X0_20 o_t.1 o_t.2.1 o_t.2.2.1 o_t.2.2.2 rfl rfl ?_
    refine r_ic_ne (tgt := 62) d_X0_columnOf_32 rfl (fun hc => ?_) (fun hc => ?_)
    · have h := h.1 hc
      refine r_iload_n (x := x3) d_X0_columnOf_62 rfl ?_
      exact r_iret d_X0_columnOf_63 rfl rfl (Nat.le_refl 0) (Nat.le_refl 0) ⟨_, rfl, rfl, rfl, h⟩
    · have h := h.2 hc
      refine r_aload_n (x := t) d_X0_columnOf_35 rfl o_t.1 ?_
      refine r_getf (j := 2) (t := 0) (x := (σ t 2)) d_X0_columnOf_36 kX0 (by decide) fl_X0_20 o_t.1 o_t.2.1 o_t.2.2.1 o_t.2.2.2 rfl rfl ?_
      refine r_sipush (x := 480) d_X0_columnOf_39 ⟨by decide, by decide⟩ (by decide) ?_
      refine r_ic_ge (tgt := 62) d_X0_columnOf_42 rfl (fun hc => ?_) (fun hc => ?_)
      · have h := h.1 hc
        refine r_iload_n (x := x3) d_X0_columnOf_62 rfl ?_
        exact r_iret d_X0_columnOf_63 rfl rfl (Nat.le_refl 0) (Nat.le_refl 0) ⟨_, rfl, rfl, rfl, h⟩
      · have h := h.2 hc
        refine r_aload_n (x := t) d_X0_columnOf_45 rfl o_t.1 ?_
        refine r_getf (j := 0) (t := 2) (x := t_columns) d_X0_columnOf_46 kX0 (by decide) fl_X0_11 o_t.1 o_t.2.1 o_t.2.2.1 o_t.2.2.2 rfl f_t_columns ?_
        refine r_iload_n (x := x3) d_X0_columnOf_49 rfl ?_
        refine r_lload_n (x := x1) d_X0_columnOf_50 rfl ?_
        refine x_last d_X0_columnOf_51 h.1 ?_
        have h := h.2
        refine r_nmM (fun τ1 eτ1 => ?_)
        have h := h τ1 eτ1
        refine r_aload_n (x := t) d_X0_columnOf_52 rfl o_t.1 ?_
        refine r_dup d_X0_columnOf_53 rfl ?_
        refine r_getf (j := 2) (t := 0) (x := (τ1 t 2)) d_X0_columnOf_54 kX0 (by decide) fl_X0_20 o_t.1 o_t.2.1 o_t.2.2.1 o_t.2.2.2 rfl rfl ?_
        refine r_iconst (x := 1) d_X0_columnOf_57 ⟨by decide, by decide⟩ ?_
        refine r_iadd d_X0_columnOf_58 ?_
        refine r_putI (j := 2) d_X0_columnOf_59 kX0 (by decide) fl_X0_20 rfl o_t.1 o_t.2.1 o_t.2.2.1 o_t.2.2.2 rfl ?_
        refine r_nmM (fun τ2 eτ2 => ?_)
        have h := h τ2 eτ2
        refine r_iload_n (x := x3) d_X0_columnOf_62 rfl ?_
        exact r_iret d_X0_columnOf_63 rfl rfl (Nat.le_refl 0) (Nat.le_refl 0) ⟨_, rfl, rfl, rfl, h⟩
  · have h := h.2 hc
    refine r_aload_n (x := t) d_X0_columnOf_10 rfl o_t.1 ?_
    refine r_getf (j := 0) (t := 2) (x := t_columns) d_X0_columnOf_11 kX0 (by decide) fl_X0_11 o_t.1 o_t.2.1 o_t.2.2.1 o_t.2.2.2 rfl f_t_columns ?_
    refine r_iload_n (x := x3) d_X0_columnOf_14 rfl ?_
    refine x_lald d_X0_columnOf_15 h.1 ?_
    have h := h.2
    refine r_lload_n (x := x1) d_X0_columnOf_16 rfl ?_
    refine r_lcmp d_X0_columnOf_17 ?_
    refine r_if_eq (tgt := 27) d_X0_columnOf_18 rfl (fun hc => ?_) (fun hc => ?_)
    · have h := h.1 hc
      refine r_iload_n (x := x3) d_X0_columnOf_27 rfl ?_
      refine r_aload_n (x := t) d_X0_columnOf_28 rfl o_t.1 ?_
      refine r_getf (j := 2) (t := 0) (x := (σ t 2)) d_X0_columnOf_29 kX0 (by decide) fl_X0_20 o_t.1 o_t.2.1 o_t.2.2.1 o_t.2.2.2 rfl rfl ?_
      refine r_ic_ne (tgt := 62) d_X0_columnOf_32 rfl (fun hc => ?_) (fun hc => ?_)
      · have h := h.1 hc
        refine r_iload_n (x := x3) d_X0_columnOf_62 rfl ?_
        exact r_iret d_X0_columnOf_63 rfl rfl (Nat.le_refl 0) (Nat.le_refl 0) ⟨_, rfl, rfl, rfl, h⟩
      · have h := h.2 hc
        refine r_aload_n (x := t) d_X0_columnOf_35 rfl o_t.1 ?_
        refine r_getf (j := 2) (t := 0) (x := (σ t 2)) d_X0_columnOf_36 kX0 (by decide) fl_X0_20 o_t.1 o_t.2.1 o_t.2.2.1 o_t.2.2.2 rfl rfl ?_
        refine r_sipush (x := 480) d_X0_columnOf_39 ⟨by decide, by decide⟩ (by decide) ?_
        refine r_ic_ge (tgt := 62) d_X0_columnOf_42 rfl (fun hc => ?_) (fun hc => ?_)
        · have h := h.1 hc
          refine r_iload_n (x := x3) d_X0_columnOf_62 rfl ?_
          exact r_iret d_X0_columnOf_63 rfl rfl (Nat.le_refl 0) (Nat.le_refl 0) ⟨_, rfl, rfl, rfl, h⟩
        · have h := h.2 hc
          refine r_aload_n (x := t) d_X0_columnOf_45 rfl o_t.1 ?_
          refine r_getf (j := 0) (t := 2) (x := t_columns) d_X0_columnOf_46 kX0 (by decide) fl_X0_11 o_t.1 o_t.2.1 o_t.2.2.1 o_t.2.2.2 rfl f_t_columns ?_
          refine r_iload_n (x := x3) d_X0_columnOf_49 rfl ?_
          refine r_lload_n (x := x1) d_X0_columnOf_50 rfl ?_
          refine x_last d_X0_columnOf_51 h.1 ?_
          have h := h.2
          refine r_nmM (fun τ3 eτ3 => ?_)
          have h := h τ3 eτ3
          refine r_aload_n (x := t) d_X0_columnOf_52 rfl o_t.1 ?_
          refine r_dup d_X0_columnOf_53 rfl ?_
          refine r_getf (j := 2) (t := 0) (x := (τ3 t 2)) d_X0_columnOf_54 kX0 (by decide) fl_X0_20 o_t.1 o_t.2.1 o_t.2.2.1 o_t.2.2.2 rfl rfl ?_
          refine r_iconst (x := 1) d_X0_columnOf_57 ⟨by decide, by decide⟩ ?_
          refine r_iadd d_X0_columnOf_58 ?_
          refine r_putI (j := 2) d_X0_columnOf_59 kX0 (by decide) fl_X0_20 rfl o_t.1 o_t.2.1 o_t.2.2.1 o_t.2.2.2 rfl ?_
          refine r_nmM (fun τ4 eτ4 => ?_)
          have h := h τ4 eτ4
          refine r_iload_n (x := x3) d_X0_columnOf_62 rfl ?_
          exact r_iret d_X0_columnOf_63 rfl rfl (Nat.le_refl 0) (Nat.le_refl 0) ⟨_, rfl, rfl, rfl, h⟩
    · have h := h.2 hc
      refine x_iinc (x := x3) (L := [(2, t), (1, x1), (3, 0), (0, x3)]) d_X0_columnOf_21 rfl (by decide) rfl (fun y5 ey5 => ?_)
      have h := h y5 ey5
      show WP _ _ _ _ _ _ _ _ [(2, t), (1, x1), (3, 0), (0, y5)] _ _ _ _
      refine r_goto (tgt := 2) d_X0_columnOf_24 rfl ?_
      exact h
theorem v_J9_floorMod_7cf53_0 {l : Launch} {d N : Nat} {Λ : Lay} {P : Int → Mem → Prop} {σ : Mem} {x0 x1 : Int}
    (h : (¬ x1 = 0 ∧ (∀ y1, y1 = (remI x0 x1) → ((0 ≤ (xorI x0 x1) → P y1 σ) ∧ (¬ (0 ≤ (xorI x0 x1)) → ((y1 = 0 → P y1 σ) ∧ (¬ (y1 = 0) → P (addI y1 x1) σ))))))) :
    WI l mJ9_floorMod_7cf53 d P 0 [(0, x0), (0, x1), (3, 0)] [] N Λ σ := by
  refine r_iload_n (x := x0) d_J9_floorMod_7cf53_0 rfl ?_
  refine r_iload_n (x := x1) d_J9_floorMod_7cf53_1 rfl ?_
  refine r_irem d_J9_floorMod_7cf53_2 h.1 ?_
  have h := h.2
  refine r_nm (fun y1 ey1 => ?_)
  have h := h y1 ey1
  refine r_istore_n (L2 := [(0, x0), (0, x1), (0, y1)]) d_J9_floorMod_7cf53_3 (by decide) rfl rfl ?_
  refine r_iload_n (x := x0) d_J9_floorMod_7cf53_4 rfl ?_
  refine r_iload_n (x := x1) d_J9_floorMod_7cf53_5 rfl ?_
  refine r_ixor d_J9_floorMod_7cf53_6 ?_
  refine r_if_ge (tgt := 18) d_J9_floorMod_7cf53_7 rfl (fun hc => ?_) (fun hc => ?_)
  · have h := h.1 hc
    refine r_iload_n (x := y1) d_J9_floorMod_7cf53_18 rfl ?_
    exact r_iret d_J9_floorMod_7cf53_19 rfl rfl (Nat.le_refl 0) (Nat.le_refl 0) ⟨_, rfl, rfl, rfl, h⟩
  · have h := h.2 hc
    refine r_iload_n (x := y1) d_J9_floorMod_7cf53_10 rfl ?_
    refine r_if_eq (tgt := 18) d_J9_floorMod_7cf53_11 rfl (fun hc => ?_) (fun hc => ?_)
    · have h := h.1 hc
      refine r_iload_n (x := y1) d_J9_floorMod_7cf53_18 rfl ?_
      exact r_iret d_J9_floorMod_7cf53_19 rfl rfl (Nat.le_refl 0) (Nat.le_refl 0) ⟨_, rfl, rfl, rfl, h⟩
    · have h := h.2 hc
      refine r_iload_n (x := y1) d_J9_floorMod_7cf53_14 rfl ?_
      refine r_iload_n (x := x1) d_J9_floorMod_7cf53_15 rfl ?_
      refine r_iadd d_J9_floorMod_7cf53_16 ?_
      exact r_iret d_J9_floorMod_7cf53_17 rfl rfl (Nat.le_refl 0) (Nat.le_refl 0) ⟨_, rfl, rfl, rfl, h⟩
theorem v_X0_takeRow_0 {l : Launch} {d N : Nat} {Λ : Lay} {P : Mem → Prop} {σ : Mem} {a1 t t_rows : Int} (o_t : Ob N Λ t 10 4) (f_t_rows : (Λ t).2.2 1 = t_rows) (h0d : 1 ≤ d)
    (h : (((σ t 3) < 6 → (Ix N Λ t_rows 5 (σ t 3) ∧ (∀ b1, b1 = (Λ t_rows).2.2 (σ t 3) → (0 ≤ b1 ∧ (CV l mJ7_fill_53178 (d - 1) [(2, b1), (0, 0)] N Λ σ (fun σ2 => WV l mX0_takeRow d P 25 [(2, t), (2, a1), (0, 0), (3, 0)] [] N Λ σ2)))))) ∧ (¬ ((σ t 3) < 6) → P σ))) :
    WV l mX0_takeRow d P 0 [(2, t), (2, a1), (3, 0), (3, 0)] [] N Λ σ := by
  have hd_1 : 1 ≤ d := Nat.le_trans (by decide) h0d
  refine r_aload_n (x := t) d_X0_takeRow_0 rfl o_t.1 ?_
  refine r_getf (j := 3) (t := 0) (x := (σ t 3)) d_X0_takeRow_1 kX0 (by decide) fl_X0_24 o_t.1 o_t.2.1 o_t.2.2.1 o_t.2.2.2 rfl rfl ?_
  refine r_bipush (x := 6) d_X0_takeRow_4 ⟨by decide, by decide⟩ (by decide) ?_
  refine r_ic_lt (tgt := 10) d_X0_takeRow_6 rfl (fun hc => ?_) (fun hc => ?_)
  · have h := h.1 hc
    refine r_aload_n (x := t) d_X0_takeRow_10 rfl o_t.1 ?_
    refine r_getf (j := 1) (t := 2) (x := t_rows) d_X0_takeRow_11 kX0 (by decide) fl_X0_17 o_t.1 o_t.2.1 o_t.2.2.1 o_t.2.2.2 rfl f_t_rows ?_
    refine r_aload_n (x := t) d_X0_takeRow_14 rfl o_t.1 ?_
    refine r_getf (j := 3) (t := 0) (x := (σ t 3)) d_X0_takeRow_15 kX0 (by decide) fl_X0_24 o_t.1 o_t.2.1 o_t.2.2.1 o_t.2.2.2 rfl rfl ?_
    refine x_aald (t := 5) (by decide) d_X0_takeRow_18 h.1 (fun b1 eb1 => ?_)
    have h := h.2 b1 eb1
    have oob1 := h.1
    have h := h.2
    refine r_iconst (x := 0) d_X0_takeRow_19 ⟨by decide, by decide⟩ ?_
    refine x_callSV (Y2 := mJ7_fill_53178) (As := [(2, b1), (0, 0)]) (S := []) d_X0_takeRow_20 ok_mJ7_fill_53178 ml_X0_27 rfl (Nat.le_of_ble_eq_true rfl) (Nat.le_of_ble_eq_true rfl) rfl hd_1 (CV.mono h (fun σ2 h => ?_))
    refine r_iconst (x := 0) d_X0_takeRow_23 ⟨by decide, by decide⟩ ?_
    refine r_istore_n (L2 := [(2, t), (2, a1), (0, 0), (3, 0)]) d_X0_takeRow_24 (by decide) rfl rfl ?_
    exact h
  · have h := h.2 hc
    exact r_vret d_X0_takeRow_9 rfl (Nat.le_refl 0) (Nat.le_refl 0) ⟨rfl, rfl, rfl, h⟩
theorem v_X0_takeRow_25 {l : Launch} {d N : Nat} {Λ : Lay} {P : Mem → Prop} {σ : Mem} {x2 a1 a1_keys a1_numbers t t_rows : Int} (o_a1 : Ob N Λ a1 15 3) (o_t : Ob N Λ t 10 4) (f_a1_keys : (Λ a1).2.2 0 = a1_keys) (f_t_rows : (Λ t).2.2 1 = t_rows) (f_a1_numbers : (Λ a1).2.2 1 = a1_numbers) (h0d : 1 ≤ d)
    (h : (((σ a1 2) ≤ x2 → (∀ τ1, τ1 = st σ t 3 (addI (σ t 3) 1) → P τ1)) ∧ (¬ ((σ a1 2) ≤ x2) → (Ix N Λ a1_keys 1 x2 ∧ (CI l mX0_columnOf (d - 1) [(2, t), (1, (σ a1_keys x2))] N Λ σ (fun v3 σ2 => ((480 ≤ v3 → (∀ y4, y4 = addI x2 1 → WV l mX0_takeRow d P 25 [(2, t), (2, a1), (0, y4), (3, 0)] [] N Λ σ2)) ∧ (¬ (480 ≤ v3) → (Ix N Λ t_rows 5 (σ2 t 3) ∧ (∀ b5, b5 = (Λ t_rows).2.2 (σ2 t 3) → (0 ≤ b5 ∧ (Ix N Λ a1_numbers 0 x2 ∧ (¬ (1000003 : Int) = 0 ∧ (∀ y6, y6 = (remI (σ2 a1_numbers x2) 1000003) → ((0 ≤ (xorI (σ2 a1_numbers x2) 1000003) → (Ix N Λ b5 0 v3 ∧ (∀ τ7, τ7 = st σ2 b5 v3 y6 → (∀ y8, y8 = addI x2 1 → WV l mX0_takeRow d P 25 [(2, t), (2, a1), (0, y8), (3, 0)] [] N Λ τ7)))) ∧ (¬ (0 ≤ (xorI (σ2 a1_numbers x2) 1000003)) → ((y6 = 0 → (Ix N Λ b5 0 v3 ∧ (∀ τ9, τ9 = st σ2 b5 v3 y6 → (∀ y10, y10 = addI x2 1 → WV l mX0_takeRow d P 25 [(2, t), (2, a1), (0, y10), (3, 0)] [] N Λ τ9)))) ∧ (¬ (y6 = 0) → (Ix N Λ b5 0 v3 ∧ (∀ τ11, τ11 = st σ2 b5 v3 (addI y6 1000003) → (∀ y12, y12 = addI x2 1 → WV l mX0_takeRow d P 25 [(2, t), (2, a1), (0, y12), (3, 0)] [] N Λ τ11))))))))))))))))))))) :
    WV l mX0_takeRow d P 25 [(2, t), (2, a1), (0, x2), (3, 0)] [] N Λ σ := by
  have hd_1 : 1 ≤ d := Nat.le_trans (by decide) h0d
  refine r_iload_n (x := x2) d_X0_takeRow_25 rfl ?_
  refine r_aload_n (x := a1) d_X0_takeRow_26 rfl o_a1.1 ?_
  refine r_getf (j := 2) (t := 0) (x := (σ a1 2)) d_X0_takeRow_27 kX5 (by decide) fl_X0_33 o_a1.1 o_a1.2.1 o_a1.2.2.1 o_a1.2.2.2 rfl rfl ?_
  refine r_ic_ge (tgt := 79) d_X0_takeRow_30 rfl (fun hc => ?_) (fun hc => ?_)
  · have h := h.1 hc
    refine r_aload_n (x := t) d_X0_takeRow_79 rfl o_t.1 ?_
    refine r_dup d_X0_takeRow_80 rfl ?_
    refine r_getf (j := 3) (t := 0) (x := (σ t 3)) d_X0_takeRow_81 kX0 (by decide) fl_X0_24 o_t.1 o_t.2.1 o_t.2.2.1 o_t.2.2.2 rfl rfl ?_
    refine r_iconst (x := 1) d_X0_takeRow_84 ⟨by decide, by decide⟩ ?_
    refine r_iadd d_X0_takeRow_85 ?_
    refine r_putI (j := 3) d_X0_takeRow_86 kX0 (by decide) fl_X0_24 rfl o_t.1 o_t.2.1 o_t.2.2.1 o_t.2.2.2 rfl ?_
    refine r_nmM (fun τ1 eτ1 => ?_)
    have h := h τ1 eτ1
    exact r_vret d_X0_takeRow_89 rfl (Nat.le_refl 0) (Nat.le_refl 0) ⟨rfl, rfl, rfl, h⟩
  · have h := h.2 hc
    refine r_aload_n (x := t) d_X0_takeRow_33 rfl o_t.1 ?_
    refine r_aload_n (x := a1) d_X0_takeRow_34 rfl o_a1.1 ?_
    refine r_getf (j := 0) (t := 2) (x := a1_keys) d_X0_takeRow_35 kX5 (by decide) fl_X0_38 o_a1.1 o_a1.2.1 o_a1.2.2.1 o_a1.2.2.2 rfl f_a1_keys ?_
    refine r_iload_n (x := x2) d_X0_takeRow_38 rfl ?_
    refine x_lald d_X0_takeRow_39 h.1 ?_
    have h := h.2
    refine x_callVI (Y2 := mX0_columnOf) (c := t) (As := [(1, (σ a1_keys x2))]) (S := []) d_X0_takeRow_40 ok_mX0_columnOf ml_X0_41 rfl (Nat.le_of_ble_eq_true rfl) (Nat.le_of_ble_eq_true rfl) rfl hd_1 kX0 o_t (CI.mono h (fun v3 σ2 h => ?_))
    refine r_istore_n (L2 := [(2, t), (2, a1), (0, x2), (0, v3)]) d_X0_takeRow_43 (by decide) rfl rfl ?_
    refine r_iload_n (x := v3) d_X0_takeRow_44 rfl ?_
    refine r_sipush (x := 480) d_X0_takeRow_45 ⟨by decide, by decide⟩ (by decide) ?_
    refine r_ic_ge (tgt := 73) d_X0_takeRow_48 rfl (fun hc => ?_) (fun hc => ?_)
    · have h := h.1 hc
      refine x_iinc (x := x2) (L := [(2, t), (2, a1), (0, x2), (0, v3)]) d_X0_takeRow_73 rfl (by decide) rfl (fun y4 ey4 => ?_)
      have h := h y4 ey4
      show WP _ _ _ _ _ _ _ _ [(2, t), (2, a1), (0, y4), (0, v3)] _ _ _ _
      refine r_goto (tgt := 25) d_X0_takeRow_76 rfl ?_
      exact x_mask h ⟨Or.inr rfl, Or.inr rfl, Or.inr rfl, Or.inl rfl, trivial⟩
    · have h := h.2 hc
      refine r_aload_n (x := t) d_X0_takeRow_51 rfl o_t.1 ?_
      refine r_getf (j := 1) (t := 2) (x := t_rows) d_X0_takeRow_52 kX0 (by decide) fl_X0_17 o_t.1 o_t.2.1 o_t.2.2.1 o_t.2.2.2 rfl f_t_rows ?_
      refine r_aload_n (x := t) d_X0_takeRow_55 rfl o_t.1 ?_
      refine r_getf (j := 3) (t := 0) (x := (σ2 t 3)) d_X0_takeRow_56 kX0 (by decide) fl_X0_24 o_t.1 o_t.2.1 o_t.2.2.1 o_t.2.2.2 rfl rfl ?_
      refine x_aald (t := 5) (by decide) d_X0_takeRow_59 h.1 (fun b5 eb5 => ?_)
      have h := h.2 b5 eb5
      have oob5 := h.1
      have h := h.2
      refine r_iload_n (x := v3) d_X0_takeRow_60 rfl ?_
      refine r_aload_n (x := a1) d_X0_takeRow_61 rfl o_a1.1 ?_
      refine r_getf (j := 1) (t := 2) (x := a1_numbers) d_X0_takeRow_62 kX5 (by decide) fl_X0_45 o_a1.1 o_a1.2.1 o_a1.2.2.1 o_a1.2.2.2 rfl f_a1_numbers ?_
      refine r_iload_n (x := x2) d_X0_takeRow_65 rfl ?_
      refine x_iald d_X0_takeRow_66 h.1 ?_
      have h := h.2
      refine r_ldc (x := 1000003) d_X0_takeRow_67 ck_X0_49 (by decide) ?_
      refine x_callSI (Y2 := mJ9_floorMod_7cf53) (As := [(0, (σ2 a1_numbers x2)), (0, 1000003)]) (S := [(0, v3), (2, b5)]) d_X0_takeRow_69 ok_mJ9_floorMod_7cf53 ml_X0_50 rfl (Nat.le_of_ble_eq_true rfl) (Nat.le_of_ble_eq_true rfl) rfl hd_1 (c_J9_floorMod_7cf53 (v_J9_floorMod_7cf53_0 ?_))
      refine ⟨h.1, ?_⟩
      have h := h.2
      intro y6 ey6
      have h := h y6 ey6
      refine ⟨fun hc => ?_, fun hc => ?_⟩
      · have h := h.1 hc
        show WP l mX0_takeRow (rm d 0 0) noX _ 0 0 72 [(2, t), (2, a1), (0, x2), (0, v3)] [(0, y6), (0, v3), (2, b5)] N Λ σ2
        refine x_iast d_X0_takeRow_72 h.1 ?_
        have h := h.2
        refine r_nmM (fun τ7 eτ7 => ?_)
        have h := h τ7 eτ7
        refine x_iinc (x := x2) (L := [(2, t), (2, a1), (0, x2), (0, v3)]) d_X0_takeRow_73 rfl (by decide) rfl (fun y8 ey8 => ?_)
        have h := h y8 ey8
        show WP _ _ _ _ _ _ _ _ [(2, t), (2, a1), (0, y8), (0, v3)] _ _ _ _
        refine r_goto (tgt := 25) d_X0_takeRow_76 rfl ?_
        exact x_mask h ⟨Or.inr rfl, Or.inr rfl, Or.inr rfl, Or.inl rfl, trivial⟩
      · have h := h.2 hc
        refine ⟨fun hc => ?_, fun hc => ?_⟩
        · have h := h.1 hc
          show WP l mX0_takeRow (rm d 0 0) noX _ 0 0 72 [(2, t), (2, a1), (0, x2), (0, v3)] [(0, y6), (0, v3), (2, b5)] N Λ σ2
          refine x_iast d_X0_takeRow_72 h.1 ?_
          have h := h.2
          refine r_nmM (fun τ9 eτ9 => ?_)
          have h := h τ9 eτ9
          refine x_iinc (x := x2) (L := [(2, t), (2, a1), (0, x2), (0, v3)]) d_X0_takeRow_73 rfl (by decide) rfl (fun y10 ey10 => ?_)
          have h := h y10 ey10
          show WP _ _ _ _ _ _ _ _ [(2, t), (2, a1), (0, y10), (0, v3)] _ _ _ _
          refine r_goto (tgt := 25) d_X0_takeRow_76 rfl ?_
          exact x_mask h ⟨Or.inr rfl, Or.inr rfl, Or.inr rfl, Or.inl rfl, trivial⟩
        · have h := h.2 hc
          show WP l mX0_takeRow (rm d 0 0) noX _ 0 0 72 [(2, t), (2, a1), (0, x2), (0, v3)] [(0, (addI y6 1000003)), (0, v3), (2, b5)] N Λ σ2
          refine x_iast d_X0_takeRow_72 h.1 ?_
          have h := h.2
          refine r_nmM (fun τ11 eτ11 => ?_)
          have h := h τ11 eτ11
          refine x_iinc (x := x2) (L := [(2, t), (2, a1), (0, x2), (0, v3)]) d_X0_takeRow_73 rfl (by decide) rfl (fun y12 ey12 => ?_)
          have h := h y12 ey12
          show WP _ _ _ _ _ _ _ _ [(2, t), (2, a1), (0, y12), (0, v3)] _ _ _ _
          refine r_goto (tgt := 25) d_X0_takeRow_76 rfl ?_
          exact x_mask h ⟨Or.inr rfl, Or.inr rfl, Or.inr rfl, Or.inl rfl, trivial⟩
theorem v_J9_floorMod_f86c9_0 {l : Launch} {d N : Nat} {Λ : Lay} {P : Int → Mem → Prop} {σ : Mem} {x0 x2 : Int}
    (h : (¬ x2 = 0 ∧ (∀ y1, y1 = (remL x0 x2) → ((0 ≤ (cmpL (xorL x0 x2) 0) → P y1 σ) ∧ (¬ (0 ≤ (cmpL (xorL x0 x2) 0)) → (((cmpL y1 0) = 0 → P y1 σ) ∧ (¬ ((cmpL y1 0) = 0) → P (addL y1 x2) σ))))))) :
    WL l mJ9_floorMod_f86c9 d P 0 [(1, x0), (3, 0), (1, x2), (3, 0), (3, 0), (3, 0)] [] N Λ σ := by
  refine r_lload_n (x := x0) d_J9_floorMod_f86c9_0 rfl ?_
  refine r_lload_n (x := x2) d_J9_floorMod_f86c9_1 rfl ?_
  refine r_lrem d_J9_floorMod_f86c9_2 h.1 ?_
  have h := h.2
  refine r_nm (fun y1 ey1 => ?_)
  have h := h y1 ey1
  refine r_lstore (L2 := [(1, x0), (3, 0), (1, x2), (3, 0), (1, y1), (3, 0)]) d_J9_floorMod_f86c9_3 (by decide) rfl rfl ?_
  refine r_lload_n (x := x0) d_J9_floorMod_f86c9_5 rfl ?_
  refine r_lload_n (x := x2) d_J9_floorMod_f86c9_6 rfl ?_
  refine r_lxor d_J9_floorMod_f86c9_7 ?_
  refine r_lconst d_J9_floorMod_f86c9_8 ?_
  skip
  refine r_lcmp d_J9_floorMod_f86c9_9 ?_
  refine r_if_ge (tgt := 25) d_J9_floorMod_f86c9_10 rfl (fun hc => ?_) (fun hc => ?_)
  · have h := h.1 hc
    refine r_lload (x := y1) d_J9_floorMod_f86c9_25 rfl ?_
    exact r_lret d_J9_floorMod_f86c9_27 rfl (Nat.le_refl 0) (Nat.le_refl 0) ⟨_, rfl, rfl, rfl, h⟩
  · have h := h.2 hc
    refine r_lload (x := y1) d_J9_floorMod_f86c9_13 rfl ?_
    refine r_lconst d_J9_floorMod_f86c9_15 ?_
    skip
    refine r_lcmp d_J9_floorMod_f86c9_16 ?_
    refine r_if_eq (tgt := 25) d_J9_floorMod_f86c9_17 rfl (fun hc => ?_) (fun hc => ?_)
    · have h := h.1 hc
      refine r_lload (x := y1) d_J9_floorMod_f86c9_25 rfl ?_
      exact r_lret d_J9_floorMod_f86c9_27 rfl (Nat.le_refl 0) (Nat.le_refl 0) ⟨_, rfl, rfl, rfl, h⟩
    · have h := h.2 hc
      refine r_lload (x := y1) d_J9_floorMod_f86c9_20 rfl ?_
      refine r_lload_n (x := x2) d_J9_floorMod_f86c9_22 rfl ?_
      refine r_ladd d_J9_floorMod_f86c9_23 ?_
      exact r_lret d_J9_floorMod_f86c9_24 rfl (Nat.le_refl 0) (Nat.le_refl 0) ⟨_, rfl, rfl, rfl, h⟩
theorem v_X0_clearColumn_0 {l : Launch} {d N : Nat} {Λ : Lay} {P : Mem → Prop} {σ : Mem} {x1 x2 x3 t t_rows : Int} (o_t : Ob N Λ t 10 4) (f_t_rows : (Λ t).2.2 1 = t_rows)
    (h : (Ix N Λ t_rows 5 x3 ∧ (∀ b1, b1 = (Λ t_rows).2.2 x3 → (0 ≤ b1 ∧ (Ix N Λ b1 0 x1 ∧ (∀ y2, y2 = (σ b1 x1) → (Ix N Λ t_rows 5 x2 ∧ (∀ b3, b3 = (Λ t_rows).2.2 x2 → (0 ≤ b3 ∧ (Ix N Λ b3 0 x1 ∧ (∀ y4, y4 = (σ b3 x1) → WV l mX0_clearColumn d P 25 [(2, t), (0, x1), (0, x2), (0, x3), (1, y2), (3, 0), (1, y4), (3, 0), (0, x1)] [] N Λ σ))))))))))) :
    WV l mX0_clearColumn d P 0 [(2, t), (0, x1), (0, x2), (0, x3), (3, 0), (3, 0), (3, 0), (3, 0), (3, 0)] [] N Λ σ := by
  refine r_aload_n (x := t) d_X0_clearColumn_0 rfl o_t.1 ?_
  refine r_getf (j := 1) (t := 2) (x := t_rows) d_X0_clearColumn_1 kX0 (by decide) fl_X0_17 o_t.1 o_t.2.1 o_t.2.2.1 o_t.2.2.2 rfl f_t_rows ?_
  refine r_iload_n (x := x3) d_X0_clearColumn_4 rfl ?_
  refine x_aald (t := 5) (by decide) d_X0_clearColumn_5 h.1 (fun b1 eb1 => ?_)
  have h := h.2 b1 eb1
  have oob1 := h.1
  have h := h.2
  refine r_iload_n (x := x1) d_X0_clearColumn_6 rfl ?_
  refine x_iald d_X0_clearColumn_7 h.1 ?_
  have h := h.2
  refine r_i2l d_X0_clearColumn_8 ?_
  refine r_nm (fun y2 ey2 => ?_)
  have h := h y2 ey2
  refine r_lstore (L2 := [(2, t), (0, x1), (0, x2), (0, x3), (1, y2), (3, 0), (3, 0), (3, 0), (3, 0)]) d_X0_clearColumn_9 (by decide) rfl rfl ?_
  refine r_aload_n (x := t) d_X0_clearColumn_11 rfl o_t.1 ?_
  refine r_getf (j := 1) (t := 2) (x := t_rows) d_X0_clearColumn_12 kX0 (by decide) fl_X0_17 o_t.1 o_t.2.1 o_t.2.2.1 o_t.2.2.2 rfl f_t_rows ?_
  refine r_iload_n (x := x2) d_X0_clearColumn_15 rfl ?_
  refine x_aald (t := 5) (by decide) d_X0_clearColumn_16 h.1 (fun b3 eb3 => ?_)
  have h := h.2 b3 eb3
  have oob3 := h.1
  have h := h.2
  refine r_iload_n (x := x1) d_X0_clearColumn_17 rfl ?_
  refine x_iald d_X0_clearColumn_18 h.1 ?_
  have h := h.2
  refine r_i2l d_X0_clearColumn_19 ?_
  refine r_nm (fun y4 ey4 => ?_)
  have h := h y4 ey4
  refine r_lstore (L2 := [(2, t), (0, x1), (0, x2), (0, x3), (1, y2), (3, 0), (1, y4), (3, 0), (3, 0)]) d_X0_clearColumn_20 (by decide) rfl rfl ?_
  refine r_iload_n (x := x1) d_X0_clearColumn_22 rfl ?_
  refine r_istore (L2 := [(2, t), (0, x1), (0, x2), (0, x3), (1, y2), (3, 0), (1, y4), (3, 0), (0, x1)]) d_X0_clearColumn_23 (by decide) rfl rfl ?_
  exact h
theorem v_X0_clearColumn_25 {l : Launch} {d N : Nat} {Λ : Lay} {P : Mem → Prop} {σ : Mem} {x1 x2 x3 x4 x6 x8 t t_rows : Int} (o_t : Ob N Λ t 10 4) (f_t_rows : (Λ t).2.2 1 = t_rows) (h0d : 1 ≤ d)
    (h : (((σ t 2) ≤ x8 → P σ) ∧ (¬ ((σ t 2) ≤ x8) → (((cmpL x4 0) = 0 → P σ) ∧ (¬ ((cmpL x4 0) = 0) → (Ix N Λ t_rows 5 x3 ∧ (∀ b1, b1 = (Λ t_rows).2.2 x3 → (0 ≤ b1 ∧ (Ix N Λ t_rows 5 x3 ∧ (∀ b2, b2 = (Λ t_rows).2.2 x3 → (0 ≤ b2 ∧ (Ix N Λ b2 0 x8 ∧ (Ix N Λ t_rows 5 x2 ∧ (∀ b3, b3 = (Λ t_rows).2.2 x2 → (0 ≤ b3 ∧ (Ix N Λ b3 0 x8 ∧ (¬ (1000003 : Int) = 0 ∧ (∀ y4, y4 = (remL (subL (mulL (σ b2 x8) x6) (mulL (σ b3 x8) x4)) 1000003) → ((0 ≤ (cmpL (xorL (subL (mulL (σ b2 x8) x6) (mulL (σ b3 x8) x4)) 1000003) 0) → (Ix N Λ b1 0 x8 ∧ (∀ τ5, τ5 = st σ b1 x8 (l2iI y4) → (∀ y6, y6 = addI x8 1 → WV l mX0_clearColumn d P 25 [(2, t), (0, x1), (0, x2), (0, x3), (1, x4), (3, 0), (1, x6), (3, 0), (0, y6)] [] N Λ τ5)))) ∧ (¬ (0 ≤ (cmpL (xorL (subL (mulL (σ b2 x8) x6) (mulL (σ b3 x8) x4)) 1000003) 0)) → (((cmpL y4 0) = 0 → (Ix N Λ b1 0 x8 ∧ (∀ τ7, τ7 = st σ b1 x8 (l2iI y4) → (∀ y8, y8 = addI x8 1 → WV l mX0_clearColumn d P 25 [(2, t), (0, x1), (0, x2), (0, x3), (1, x4), (3, 0), (1, x6), (3, 0), (0, y8)] [] N Λ τ7)))) ∧ (¬ ((cmpL y4 0) = 0) → (Ix N Λ b1 0 x8 ∧ (∀ τ9, τ9 = st σ b1 x8 (l2iI (addL y4 1000003)) → (∀ y10, y10 = addI x8 1 → WV l mX0_clearColumn d P 25 [(2, t), (0, x1), (0, x2), (0, x3), (1, x4), (3, 0), (1, x6), (3, 0), (0, y10)] [] N Λ τ9))))))))))))))))))))))))) :
    WV l mX0_clearColumn d P 25 [(2, t), (0, x1), (0, x2), (0, x3), (1, x4), (3, 0), (1, x6), (3, 0), (0, x8)] [] N Λ σ := by
  have hd_1 : 1 ≤ d := Nat.le_trans (by decide) h0d
  refine r_iload (x := x8) d_X0_clearColumn_25 rfl ?_
  refine r_aload_n (x := t) d_X0_clearColumn_27 rfl o_t.1 ?_
  refine r_getf (j := 2) (t := 0) (x := (σ t 2)) d_X0_clearColumn_28 kX0 (by decide) fl_X0_20 o_t.1 o_t.2.1 o_t.2.2.1 o_t.2.2.2 rfl rfl ?_
  refine r_ic_ge (tgt := 90) d_X0_clearColumn_31 rfl (fun hc => ?_) (fun hc => ?_)
  · have h := h.1 hc
    exact r_vret d_X0_clearColumn_90 rfl (Nat.le_refl 0) (Nat.le_refl 0) ⟨rfl, rfl, rfl, h⟩
  · have h := h.2 hc
    refine r_lload (x := x4) d_X0_clearColumn_34 rfl ?_
    refine r_lconst d_X0_clearColumn_36 ?_
    skip
    refine r_lcmp d_X0_clearColumn_37 ?_
    refine r_if_eq (tgt := 90) d_X0_clearColumn_38 rfl (fun hc => ?_) (fun hc => ?_)
    · have h := h.1 hc
      exact r_vret d_X0_clearColumn_90 rfl (Nat.le_refl 0) (Nat.le_refl 0) ⟨rfl, rfl, rfl, h⟩
    · have h := h.2 hc
      refine r_aload_n (x := t) d_X0_clearColumn_41 rfl o_t.1 ?_
      refine r_getf (j := 1) (t := 2) (x := t_rows) d_X0_clearColumn_42 kX0 (by decide) fl_X0_17 o_t.1 o_t.2.1 o_t.2.2.1 o_t.2.2.2 rfl f_t_rows ?_
      refine r_iload_n (x := x3) d_X0_clearColumn_45 rfl ?_
      refine x_aald (t := 5) (by decide) d_X0_clearColumn_46 h.1 (fun b1 eb1 => ?_)
      have h := h.2 b1 eb1
      have oob1 := h.1
      have h := h.2
      refine r_iload (x := x8) d_X0_clearColumn_47 rfl ?_
      refine r_aload_n (x := t) d_X0_clearColumn_49 rfl o_t.1 ?_
      refine r_getf (j := 1) (t := 2) (x := t_rows) d_X0_clearColumn_50 kX0 (by decide) fl_X0_17 o_t.1 o_t.2.1 o_t.2.2.1 o_t.2.2.2 rfl f_t_rows ?_
      refine r_iload_n (x := x3) d_X0_clearColumn_53 rfl ?_
      refine x_aald (t := 5) (by decide) d_X0_clearColumn_54 h.1 (fun b2 eb2 => ?_)
      have h := h.2 b2 eb2
      have oob2 := h.1
      have h := h.2
      refine r_iload (x := x8) d_X0_clearColumn_55 rfl ?_
      refine x_iald d_X0_clearColumn_57 h.1 ?_
      have h := h.2
      refine r_i2l d_X0_clearColumn_58 ?_
      refine r_lload (x := x6) d_X0_clearColumn_59 rfl ?_
      refine r_lmul d_X0_clearColumn_61 ?_
      refine r_aload_n (x := t) d_X0_clearColumn_62 rfl o_t.1 ?_
      refine r_getf (j := 1) (t := 2) (x := t_rows) d_X0_clearColumn_63 kX0 (by decide) fl_X0_17 o_t.1 o_t.2.1 o_t.2.2.1 o_t.2.2.2 rfl f_t_rows ?_
      refine r_iload_n (x := x2) d_X0_clearColumn_66 rfl ?_
      refine x_aald (t := 5) (by decide) d_X0_clearColumn_67 h.1 (fun b3 eb3 => ?_)
      have h := h.2 b3 eb3
      have oob3 := h.1
      have h := h.2
      refine r_iload (x := x8) d_X0_clearColumn_68 rfl ?_
      refine x_iald d_X0_clearColumn_70 h.1 ?_
      have h := h.2
      refine r_i2l d_X0_clearColumn_71 ?_
      refine r_lload (x := x4) d_X0_clearColumn_72 rfl ?_
      refine r_lmul d_X0_clearColumn_74 ?_
      refine r_lsub d_X0_clearColumn_75 ?_
      refine r_ldc2 (x := 1000003) d_X0_clearColumn_76 ck_X0_64 (by decide) ?_
      refine x_callSL (Y2 := mJ9_floorMod_f86c9) (As := [(1, (subL (mulL (σ b2 x8) x6) (mulL (σ b3 x8) x4))), (1, 1000003)]) (S := [(0, x8), (2, b1)]) d_X0_clearColumn_79 ok_mJ9_floorMod_f86c9 ml_X0_66 rfl (Nat.le_of_ble_eq_true rfl) (Nat.le_of_ble_eq_true rfl) rfl hd_1 (c_J9_floorMod_f86c9 (v_J9_floorMod_f86c9_0 ?_))
      refine ⟨h.1, ?_⟩
      have h := h.2
      intro y4 ey4
      have h := h y4 ey4
      refine ⟨fun hc => ?_, fun hc => ?_⟩
      · have h := h.1 hc
        show WP l mX0_clearColumn (rm d 0 0) noX _ 0 0 82 [(2, t), (0, x1), (0, x2), (0, x3), (1, x4), (3, 0), (1, x6), (3, 0), (0, x8)] [(1, y4), (0, x8), (2, b1)] N Λ σ
        refine r_l2i d_X0_clearColumn_82 ?_
        refine x_iast d_X0_clearColumn_83 h.1 ?_
        have h := h.2
        refine r_nmM (fun τ5 eτ5 => ?_)
        have h := h τ5 eτ5
        refine x_iinc (x := x8) (L := [(2, t), (0, x1), (0, x2), (0, x3), (1, x4), (3, 0), (1, x6), (3, 0), (0, x8)]) d_X0_clearColumn_84 rfl (by decide) rfl (fun y6 ey6 => ?_)
        have h := h y6 ey6
        show WP _ _ _ _ _ _ _ _ [(2, t), (0, x1), (0, x2), (0, x3), (1, x4), (3, 0), (1, x6), (3, 0), (0, y6)] _ _ _ _
        refine r_goto (tgt := 25) d_X0_clearColumn_87 rfl ?_
        exact h
      · have h := h.2 hc
        refine ⟨fun hc => ?_, fun hc => ?_⟩
        · have h := h.1 hc
          show WP l mX0_clearColumn (rm d 0 0) noX _ 0 0 82 [(2, t), (0, x1), (0, x2), (0, x3), (1, x4), (3, 0), (1, x6), (3, 0), (0, x8)] [(1, y4), (0, x8), (2, b1)] N Λ σ
          refine r_l2i d_X0_clearColumn_82 ?_
          refine x_iast d_X0_clearColumn_83 h.1 ?_
          have h := h.2
          refine r_nmM (fun τ7 eτ7 => ?_)
          have h := h τ7 eτ7
          refine x_iinc (x := x8) (L := [(2, t), (0, x1), (0, x2), (0, x3), (1, x4), (3, 0), (1, x6), (3, 0), (0, x8)]) d_X0_clearColumn_84 rfl (by decide) rfl (fun y8 ey8 => ?_)
          have h := h y8 ey8
          show WP _ _ _ _ _ _ _ _ [(2, t), (0, x1), (0, x2), (0, x3), (1, x4), (3, 0), (1, x6), (3, 0), (0, y8)] _ _ _ _
          refine r_goto (tgt := 25) d_X0_clearColumn_87 rfl ?_
          exact h
        · have h := h.2 hc
          show WP l mX0_clearColumn (rm d 0 0) noX _ 0 0 82 [(2, t), (0, x1), (0, x2), (0, x3), (1, x4), (3, 0), (1, x6), (3, 0), (0, x8)] [(1, (addL y4 1000003)), (0, x8), (2, b1)] N Λ σ
          refine r_l2i d_X0_clearColumn_82 ?_
          refine x_iast d_X0_clearColumn_83 h.1 ?_
          have h := h.2
          refine r_nmM (fun τ9 eτ9 => ?_)
          have h := h τ9 eτ9
          refine x_iinc (x := x8) (L := [(2, t), (0, x1), (0, x2), (0, x3), (1, x4), (3, 0), (1, x6), (3, 0), (0, x8)]) d_X0_clearColumn_84 rfl (by decide) rfl (fun y10 ey10 => ?_)
          have h := h y10 ey10
          show WP _ _ _ _ _ _ _ _ [(2, t), (0, x1), (0, x2), (0, x3), (1, x4), (3, 0), (1, x6), (3, 0), (0, y10)] _ _ _ _
          refine r_goto (tgt := 25) d_X0_clearColumn_87 rfl ?_
          exact h
theorem v_X0_independentRows_0 {l : Launch} {d N : Nat} {Λ : Lay} {P : Int → Mem → Prop} {σ : Mem} {t : Int}
    (h : WI l mX0_independentRows d P 4 [(2, t), (0, 0), (0, 0), (3, 0)] [] N Λ σ) :
    WI l mX0_independentRows d P 0 [(2, t), (3, 0), (3, 0), (3, 0)] [] N Λ σ := by
  refine r_iconst (x := 0) d_X0_independentRows_0 ⟨by decide, by decide⟩ ?_
  refine r_istore_n (L2 := [(2, t), (0, 0), (3, 0), (3, 0)]) d_X0_independentRows_1 (by decide) rfl rfl ?_
  refine r_iconst (x := 0) d_X0_independentRows_2 ⟨by decide, by decide⟩ ?_
  refine r_istore_n (L2 := [(2, t), (0, 0), (0, 0), (3, 0)]) d_X0_independentRows_3 (by decide) rfl rfl ?_
  exact h
theorem v_X0_independentRows_4 {l : Launch} {d N : Nat} {Λ : Lay} {P : Int → Mem → Prop} {σ : Mem} {x1 x2 t : Int} (o_t : Ob N Λ t 10 4) (h0d : 1 ≤ d)
    (h : (((σ t 2) ≤ x2 → P x1 σ) ∧ (¬ ((σ t 2) ≤ x2) → (((σ t 3) ≤ x1 → P x1 σ) ∧ (¬ ((σ t 3) ≤ x1) → (CI l mX0_bringUp (d - 1) [(2, t), (0, x2), (0, x1)] N Λ σ (fun v2 σ1 => ((v2 = 0 → (∀ y3, y3 = addI x2 1 → WI l mX0_independentRows d P 4 [(2, t), (0, x1), (0, y3), (3, 0)] [] N Λ σ1)) ∧ (¬ (v2 = 0) → (∀ y4, y4 = (addI x1 1) → WI l mX0_independentRows d P 33 [(2, t), (0, x1), (0, x2), (0, y4)] [] N Λ σ1)))))))))) :
    WI l mX0_independentRows d P 4 [(2, t), (0, x1), (0, x2), (3, 0)] [] N Λ σ := by
  have hd_1 : 1 ≤ d := Nat.le_trans (by decide) h0d
  refine r_iload_n (x := x2) d_X0_independentRows_4 rfl ?_
  refine r_aload_n (x := t) d_X0_independentRows_5 rfl o_t.1 ?_
  refine r_getf (j := 2) (t := 0) (x := (σ t 2)) d_X0_independentRows_6 kX0 (by decide) fl_X0_20 o_t.1 o_t.2.1 o_t.2.2.1 o_t.2.2.2 rfl rfl ?_
  refine r_ic_ge (tgt := 63) d_X0_independentRows_9 rfl (fun hc => ?_) (fun hc => ?_)
  · have h := h.1 hc
    refine r_iload_n (x := x1) d_X0_independentRows_63 rfl ?_
    exact r_iret d_X0_independentRows_64 rfl rfl (Nat.le_refl 0) (Nat.le_refl 0) ⟨_, rfl, rfl, rfl, h⟩
  · have h := h.2 hc
    refine r_iload_n (x := x1) d_X0_independentRows_12 rfl ?_
    refine r_aload_n (x := t) d_X0_independentRows_13 rfl o_t.1 ?_
    refine r_getf (j := 3) (t := 0) (x := (σ t 3)) d_X0_independentRows_14 kX0 (by decide) fl_X0_24 o_t.1 o_t.2.1 o_t.2.2.1 o_t.2.2.2 rfl rfl ?_
    refine r_ic_ge (tgt := 63) d_X0_independentRows_17 rfl (fun hc => ?_) (fun hc => ?_)
    · have h := h.1 hc
      refine r_iload_n (x := x1) d_X0_independentRows_63 rfl ?_
      exact r_iret d_X0_independentRows_64 rfl rfl (Nat.le_refl 0) (Nat.le_refl 0) ⟨_, rfl, rfl, rfl, h⟩
    · have h := h.2 hc
      refine r_aload_n (x := t) d_X0_independentRows_20 rfl o_t.1 ?_
      refine r_iload_n (x := x2) d_X0_independentRows_21 rfl ?_
      refine r_iload_n (x := x1) d_X0_independentRows_22 rfl ?_
      refine x_callVI (Y2 := mX0_bringUp) (c := t) (As := [(0, x2), (0, x1)]) (S := []) d_X0_independentRows_23 ok_mX0_bringUp ml_X0_56 rfl (Nat.le_of_ble_eq_true rfl) (Nat.le_of_ble_eq_true rfl) rfl hd_1 kX0 o_t (CI.mono h (fun v2 σ1 h => ?_))
      refine r_if_eq (tgt := 57) d_X0_independentRows_26 rfl (fun hc => ?_) (fun hc => ?_)
      · have h := h.1 hc
        refine x_iinc (x := x2) (L := [(2, t), (0, x1), (0, x2), (3, 0)]) d_X0_independentRows_57 rfl (by decide) rfl (fun y3 ey3 => ?_)
        have h := h y3 ey3
        show WP _ _ _ _ _ _ _ _ [(2, t), (0, x1), (0, y3), (3, 0)] _ _ _ _
        refine r_goto (tgt := 4) d_X0_independentRows_60 rfl ?_
        exact h
      · have h := h.2 hc
        refine r_iload_n (x := x1) d_X0_independentRows_29 rfl ?_
        refine r_iconst (x := 1) d_X0_independentRows_30 ⟨by decide, by decide⟩ ?_
        refine r_iadd d_X0_independentRows_31 ?_
        refine r_nm (fun y4 ey4 => ?_)
        have h := h y4 ey4
        refine r_istore_n (L2 := [(2, t), (0, x1), (0, x2), (0, y4)]) d_X0_independentRows_32 (by decide) rfl rfl ?_
        exact h
theorem v_X0_independentRows_33 {l : Launch} {d N : Nat} {Λ : Lay} {P : Int → Mem → Prop} {σ : Mem} {x1 x2 x3 t : Int} (o_t : Ob N Λ t 10 4) (h0d : 1 ≤ d)
    (h : (((σ t 3) ≤ x3 → (∀ y1, y1 = addI x1 1 → (∀ y2, y2 = addI x2 1 → WI l mX0_independentRows d P 4 [(2, t), (0, y1), (0, y2), (3, 0)] [] N Λ σ))) ∧ (¬ ((σ t 3) ≤ x3) → (CV l mX0_clearColumn (d - 1) [(2, t), (0, x2), (0, x1), (0, x3)] N Λ σ (fun σ3 => (∀ y4, y4 = addI x3 1 → WI l mX0_independentRows d P 33 [(2, t), (0, x1), (0, x2), (0, y4)] [] N Λ σ3)))))) :
    WI l mX0_independentRows d P 33 [(2, t), (0, x1), (0, x2), (0, x3)] [] N Λ σ := by
  have hd_1 : 1 ≤ d := Nat.le_trans (by decide) h0d
  refine r_iload_n (x := x3) d_X0_independentRows_33 rfl ?_
  refine r_aload_n (x := t) d_X0_independentRows_34 rfl o_t.1 ?_
  refine r_getf (j := 3) (t := 0) (x := (σ t 3)) d_X0_independentRows_35 kX0 (by decide) fl_X0_24 o_t.1 o_t.2.1 o_t.2.2.1 o_t.2.2.2 rfl rfl ?_
  refine r_ic_ge (tgt := 54) d_X0_independentRows_38 rfl (fun hc => ?_) (fun hc => ?_)
  · have h := h.1 hc
    refine x_iinc (x := x1) (L := [(2, t), (0, x1), (0, x2), (0, x3)]) d_X0_independentRows_54 rfl (by decide) rfl (fun y1 ey1 => ?_)
    have h := h y1 ey1
    show WP _ _ _ _ _ _ _ _ [(2, t), (0, y1), (0, x2), (0, x3)] _ _ _ _
    refine x_iinc (x := x2) (L := [(2, t), (0, y1), (0, x2), (0, x3)]) d_X0_independentRows_57 rfl (by decide) rfl (fun y2 ey2 => ?_)
    have h := h y2 ey2
    show WP _ _ _ _ _ _ _ _ [(2, t), (0, y1), (0, y2), (0, x3)] _ _ _ _
    refine r_goto (tgt := 4) d_X0_independentRows_60 rfl ?_
    exact x_mask h ⟨Or.inr rfl, Or.inr rfl, Or.inr rfl, Or.inl rfl, trivial⟩
  · have h := h.2 hc
    refine r_aload_n (x := t) d_X0_independentRows_41 rfl o_t.1 ?_
    refine r_iload_n (x := x2) d_X0_independentRows_42 rfl ?_
    refine r_iload_n (x := x1) d_X0_independentRows_43 rfl ?_
    refine r_iload_n (x := x3) d_X0_independentRows_44 rfl ?_
    refine x_callVV (Y2 := mX0_clearColumn) (c := t) (As := [(0, x2), (0, x1), (0, x3)]) (S := []) d_X0_independentRows_45 ok_mX0_clearColumn ml_X0_60 rfl (Nat.le_of_ble_eq_true rfl) (Nat.le_of_ble_eq_true rfl) rfl hd_1 kX0 o_t (CV.mono h (fun σ3 h => ?_))
    refine x_iinc (x := x3) (L := [(2, t), (0, x1), (0, x2), (0, x3)]) d_X0_independentRows_48 rfl (by decide) rfl (fun y4 ey4 => ?_)
    have h := h y4 ey4
    show WP _ _ _ _ _ _ _ _ [(2, t), (0, x1), (0, x2), (0, y4)] _ _ _ _
    refine r_goto (tgt := 33) d_X0_independentRows_51 rfl ?_
    exact h
theorem v_X6_bracketAt_0 {l : Launch} {d N : Nat} {Λ : Lay} {P : Int → Mem → Prop} {σ : Mem} {x0 x2 : Int}
    (h : P (andI (l2iI (ushrL x0 (mulI 12 (subI 3 x2)))) 4095) σ) :
    WI l mX6_bracketAt d P 0 [(1, x0), (3, 0), (0, x2)] [] N Λ σ := by
  refine r_lload_n (x := x0) d_X6_bracketAt_0 rfl ?_
  refine r_bipush (x := 12) d_X6_bracketAt_1 ⟨by decide, by decide⟩ (by decide) ?_
  refine r_iconst (x := 3) d_X6_bracketAt_3 ⟨by decide, by decide⟩ ?_
  refine r_iload_n (x := x2) d_X6_bracketAt_4 rfl ?_
  refine r_isub d_X6_bracketAt_5 ?_
  refine r_imul d_X6_bracketAt_6 ?_
  refine r_lushr d_X6_bracketAt_7 ?_
  refine r_l2i d_X6_bracketAt_8 ?_
  refine r_sipush (x := 4095) d_X6_bracketAt_9 ⟨by decide, by decide⟩ (by decide) ?_
  refine r_iand d_X6_bracketAt_12 ?_
  exact r_iret d_X6_bracketAt_13 rfl rfl (Nat.le_refl 0) (Nat.le_refl 0) ⟨_, rfl, rfl, rfl, h⟩
theorem v_X6_bracketsIn_0 {l : Launch} {d N : Nat} {Λ : Lay} {P : Int → Mem → Prop} {σ : Mem} {x0 : Int}
    (h : WI l mX6_bracketsIn d P 2 [(1, x0), (3, 0), (0, 0)] [] N Λ σ) :
    WI l mX6_bracketsIn d P 0 [(1, x0), (3, 0), (3, 0)] [] N Λ σ := by
  refine r_iconst (x := 0) d_X6_bracketsIn_0 ⟨by decide, by decide⟩ ?_
  refine r_istore_n (L2 := [(1, x0), (3, 0), (0, 0)]) d_X6_bracketsIn_1 (by decide) rfl rfl ?_
  exact h
theorem v_X6_bracketsIn_2 {l : Launch} {d N : Nat} {Λ : Lay} {P : Int → Mem → Prop} {σ : Mem} {x0 x2 : Int} (h0d : 1 ≤ d)
    (h : ((4 ≤ x2 → P x2 σ) ∧ (¬ (4 ≤ x2) → (((andI (l2iI (ushrL x0 (mulI 12 (subI 3 x2)))) 4095) = 0 → P x2 σ) ∧ (¬ ((andI (l2iI (ushrL x0 (mulI 12 (subI 3 x2)))) 4095) = 0) → (∀ y1, y1 = addI x2 1 → WI l mX6_bracketsIn d P 2 [(1, x0), (3, 0), (0, y1)] [] N Λ σ)))))) :
    WI l mX6_bracketsIn d P 2 [(1, x0), (3, 0), (0, x2)] [] N Λ σ := by
  have hd_1 : 1 ≤ d := Nat.le_trans (by decide) h0d
  refine r_iload_n (x := x2) d_X6_bracketsIn_2 rfl ?_
  refine r_iconst (x := 4) d_X6_bracketsIn_3 ⟨by decide, by decide⟩ ?_
  refine r_ic_ge (tgt := 21) d_X6_bracketsIn_4 rfl (fun hc => ?_) (fun hc => ?_)
  · have h := h.1 hc
    refine r_iload_n (x := x2) d_X6_bracketsIn_21 rfl ?_
    exact r_iret d_X6_bracketsIn_22 rfl rfl (Nat.le_refl 0) (Nat.le_refl 0) ⟨_, rfl, rfl, rfl, h⟩
  · have h := h.2 hc
    refine r_lload_n (x := x0) d_X6_bracketsIn_7 rfl ?_
    refine r_iload_n (x := x2) d_X6_bracketsIn_8 rfl ?_
    refine x_callSI (Y2 := mX6_bracketAt) (As := [(1, x0), (0, x2)]) (S := []) d_X6_bracketsIn_9 ok_mX6_bracketAt ml_X6_15 rfl (Nat.le_of_ble_eq_true rfl) (Nat.le_of_ble_eq_true rfl) rfl hd_1 (c_X6_bracketAt (v_X6_bracketAt_0 ?_))
    show WP l mX6_bracketsIn (rm d 0 0) noX _ 0 0 12 [(1, x0), (3, 0), (0, x2)] [(0, (andI (l2iI (ushrL x0 (mulI 12 (subI 3 x2)))) 4095))] N Λ σ
    refine r_if_eq (tgt := 21) d_X6_bracketsIn_12 rfl (fun hc => ?_) (fun hc => ?_)
    · have h := h.1 hc
      refine r_iload_n (x := x2) d_X6_bracketsIn_21 rfl ?_
      exact r_iret d_X6_bracketsIn_22 rfl rfl (Nat.le_refl 0) (Nat.le_refl 0) ⟨_, rfl, rfl, rfl, h⟩
    · have h := h.2 hc
      refine x_iinc (x := x2) (L := [(1, x0), (3, 0), (0, x2)]) d_X6_bracketsIn_15 rfl (by decide) rfl (fun y1 ey1 => ?_)
      have h := h y1 ey1
      show WP _ _ _ _ _ _ _ _ [(1, x0), (3, 0), (0, y1)] _ _ _ _
      refine r_goto (tgt := 2) d_X6_bracketsIn_18 rfl ?_
      exact h
theorem v_X6_letter_0 {l : Launch} {d N : Nat} {Λ : Lay} {P : Int → Mem → Prop} {σ : Mem} {x0 x1 : Int}
    (h : P (andI (shrI x0 (mulI 4 (subI 2 x1))) 15) σ) :
    WI l mX6_letter d P 0 [(0, x0), (0, x1)] [] N Λ σ := by
  refine r_iload_n (x := x0) d_X6_letter_0 rfl ?_
  refine r_iconst (x := 4) d_X6_letter_1 ⟨by decide, by decide⟩ ?_
  refine r_iconst (x := 2) d_X6_letter_2 ⟨by decide, by decide⟩ ?_
  refine r_iload_n (x := x1) d_X6_letter_3 rfl ?_
  refine r_isub d_X6_letter_4 ?_
  refine r_imul d_X6_letter_5 ?_
  refine r_ishr d_X6_letter_6 ?_
  refine r_bipush (x := 15) d_X6_letter_7 ⟨by decide, by decide⟩ (by decide) ?_
  refine r_iand d_X6_letter_9 ?_
  exact r_iret d_X6_letter_10 rfl rfl (Nat.le_refl 0) (Nat.le_refl 0) ⟨_, rfl, rfl, rfl, h⟩
theorem v_X6_letterOfKey_0 {l : Launch} {d N : Nat} {Λ : Lay} {P : Int → Mem → Prop} {σ : Mem} {x0 x2 : Int} (h0d : 1 ≤ d)
    (h : (∀ y1, y1 = (andI (l2iI (ushrL x0 (mulI 12 (subI 3 (divI x2 3))))) 4095) → ((¬ y1 = 0 → P (andI (shrI y1 (mulI 4 (subI 2 (remI x2 3)))) 15) σ) ∧ (y1 = 0 → P (-1) σ)))) :
    WI l mX6_letterOfKey d P 0 [(1, x0), (3, 0), (0, x2), (3, 0)] [] N Λ σ := by
  have hd_1 : 1 ≤ d := Nat.le_trans (by decide) h0d
  refine r_lload_n (x := x0) d_X6_letterOfKey_0 rfl ?_
  refine r_iload_n (x := x2) d_X6_letterOfKey_1 rfl ?_
  refine r_iconst (x := 3) d_X6_letterOfKey_2 ⟨by decide, by decide⟩ ?_
  refine r_idiv d_X6_letterOfKey_3 (by decide) ?_
  refine x_callSI (Y2 := mX6_bracketAt) (As := [(1, x0), (0, (divI x2 3))]) (S := []) d_X6_letterOfKey_4 ok_mX6_bracketAt ml_X6_15 rfl (Nat.le_of_ble_eq_true rfl) (Nat.le_of_ble_eq_true rfl) rfl hd_1 (c_X6_bracketAt (v_X6_bracketAt_0 ?_))
  show WP l mX6_letterOfKey (rm d 0 0) noX _ 0 0 7 [(1, x0), (3, 0), (0, x2), (3, 0)] [(0, (andI (l2iI (ushrL x0 (mulI 12 (subI 3 (divI x2 3))))) 4095))] N Λ σ
  refine r_nm (fun y1 ey1 => ?_)
  have h := h y1 ey1
  refine r_istore_n (L2 := [(1, x0), (3, 0), (0, x2), (0, y1)]) d_X6_letterOfKey_7 (by decide) rfl rfl ?_
  refine r_iload_n (x := y1) d_X6_letterOfKey_8 rfl ?_
  refine r_if_ne (tgt := 16) d_X6_letterOfKey_9 rfl (fun hc => ?_) (fun hc => ?_)
  · have h := h.1 hc
    refine r_iload_n (x := y1) d_X6_letterOfKey_16 rfl ?_
    refine r_iload_n (x := x2) d_X6_letterOfKey_17 rfl ?_
    refine r_iconst (x := 3) d_X6_letterOfKey_18 ⟨by decide, by decide⟩ ?_
    refine r_irem d_X6_letterOfKey_19 (by decide) ?_
    refine x_callSI (Y2 := mX6_letter) (As := [(0, y1), (0, (remI x2 3))]) (S := []) d_X6_letterOfKey_20 ok_mX6_letter ml_X6_9 rfl (Nat.le_of_ble_eq_true rfl) (Nat.le_of_ble_eq_true rfl) rfl hd_1 (c_X6_letter (v_X6_letter_0 ?_))
    show WP l mX6_letterOfKey (rm d 0 0) noX _ 0 0 23 [(1, x0), (3, 0), (0, x2), (0, y1)] [(0, (andI (shrI y1 (mulI 4 (subI 2 (remI x2 3)))) 15))] N Λ σ
    exact r_iret d_X6_letterOfKey_23 rfl rfl (Nat.le_refl 0) (Nat.le_refl 0) ⟨_, rfl, rfl, rfl, h⟩
  · have h := h.2 hc
    refine r_iconst (x := (-1)) d_X6_letterOfKey_12 ⟨by decide, by decide⟩ ?_
    refine r_goto (tgt := 23) d_X6_letterOfKey_13 rfl ?_
    exact r_iret d_X6_letterOfKey_23 rfl rfl (Nat.le_refl 0) (Nat.le_refl 0) ⟨_, rfl, rfl, rfl, h⟩
theorem v_X6_timesOf_0 {l : Launch} {d N : Nat} {Λ : Lay} {P : Int → Mem → Prop} {σ : Mem} {x0 x2 : Int}
    (h : WI l mX6_timesOf d P 5 [(1, x0), (3, 0), (0, x2), (0, 0), (0, 0)] [] N Λ σ) :
    WI l mX6_timesOf d P 0 [(1, x0), (3, 0), (0, x2), (3, 0), (3, 0)] [] N Λ σ := by
  refine r_iconst (x := 0) d_X6_timesOf_0 ⟨by decide, by decide⟩ ?_
  refine r_istore_n (L2 := [(1, x0), (3, 0), (0, x2), (0, 0), (3, 0)]) d_X6_timesOf_1 (by decide) rfl rfl ?_
  refine r_iconst (x := 0) d_X6_timesOf_2 ⟨by decide, by decide⟩ ?_
  refine r_istore (L2 := [(1, x0), (3, 0), (0, x2), (0, 0), (0, 0)]) d_X6_timesOf_3 (by decide) rfl rfl ?_
  exact h
theorem v_X6_timesOf_5 {l : Launch} {d N : Nat} {Λ : Lay} {P : Int → Mem → Prop} {σ : Mem} {x0 x2 x3 x4 : Int} (h0d : 2 ≤ d)
    (h : ((12 ≤ x4 → P x3 σ) ∧ (¬ (12 ≤ x4) → (∀ y1, y1 = (andI (l2iI (ushrL x0 (mulI 12 (subI 3 (divI x4 3))))) 4095) → ((¬ y1 = 0 → ((¬ (andI (shrI y1 (mulI 4 (subI 2 (remI x4 3)))) 15) = x2 → (∀ y2, y2 = addI x4 1 → WI l mX6_timesOf d P 5 [(1, x0), (3, 0), (0, x2), (0, x3), (0, y2)] [] N Λ σ)) ∧ ((andI (shrI y1 (mulI 4 (subI 2 (remI x4 3)))) 15) = x2 → (∀ y3, y3 = addI x3 1 → (∀ y4, y4 = addI x4 1 → WI l mX6_timesOf d P 5 [(1, x0), (3, 0), (0, x2), (0, y3), (0, y4)] [] N Λ σ))))) ∧ (y1 = 0 → ((¬ (-1) = x2 → (∀ y5, y5 = addI x4 1 → WI l mX6_timesOf d P 5 [(1, x0), (3, 0), (0, x2), (0, x3), (0, y5)] [] N Λ σ)) ∧ ((-1) = x2 → (∀ y6, y6 = addI x3 1 → (∀ y7, y7 = addI x4 1 → WI l mX6_timesOf d P 5 [(1, x0), (3, 0), (0, x2), (0, y6), (0, y7)] [] N Λ σ)))))))))) :
    WI l mX6_timesOf d P 5 [(1, x0), (3, 0), (0, x2), (0, x3), (0, x4)] [] N Λ σ := by
  have hd_1 : 1 ≤ d := Nat.le_trans (by decide) h0d
  have he_1 : 1 ≤ d - 1 := Nat.le_sub_of_add_le (Nat.le_trans (by decide) h0d)
  refine r_iload (x := x4) d_X6_timesOf_5 rfl ?_
  refine r_bipush (x := 12) d_X6_timesOf_7 ⟨by decide, by decide⟩ (by decide) ?_
  refine r_ic_ge (tgt := 31) d_X6_timesOf_9 rfl (fun hc => ?_) (fun hc => ?_)
  · have h := h.1 hc
    refine r_iload_n (x := x3) d_X6_timesOf_31 rfl ?_
    exact r_iret d_X6_timesOf_32 rfl rfl (Nat.le_refl 0) (Nat.le_refl 0) ⟨_, rfl, rfl, rfl, h⟩
  · have h := h.2 hc
    refine r_lload_n (x := x0) d_X6_timesOf_12 rfl ?_
    refine r_iload (x := x4) d_X6_timesOf_13 rfl ?_
    refine x_callSI (Y2 := mX6_letterOfKey) (As := [(1, x0), (0, x4)]) (S := []) d_X6_timesOf_15 ok_mX6_letterOfKey ml_X6_19 rfl (Nat.le_of_ble_eq_true rfl) (Nat.le_of_ble_eq_true rfl) rfl hd_1 (c_X6_letterOfKey (v_X6_letterOfKey_0 he_1 ?_))
    intro y1 ey1
    have h := h y1 ey1
    refine ⟨fun hc => ?_, fun hc => ?_⟩
    · have h := h.1 hc
      show WP l mX6_timesOf (rm d 0 0) noX _ 0 0 18 [(1, x0), (3, 0), (0, x2), (0, x3), (0, x4)] [(0, (andI (shrI y1 (mulI 4 (subI 2 (remI x4 3)))) 15))] N Λ σ
      refine r_iload_n (x := x2) d_X6_timesOf_18 rfl ?_
      refine r_ic_ne (tgt := 25) d_X6_timesOf_19 rfl (fun hc => ?_) (fun hc => ?_)
      · have h := h.1 hc
        refine x_iinc (x := x4) (L := [(1, x0), (3, 0), (0, x2), (0, x3), (0, x4)]) d_X6_timesOf_25 rfl (by decide) rfl (fun y2 ey2 => ?_)
        have h := h y2 ey2
        show WP _ _ _ _ _ _ _ _ [(1, x0), (3, 0), (0, x2), (0, x3), (0, y2)] _ _ _ _
        refine r_goto (tgt := 5) d_X6_timesOf_28 rfl ?_
        exact h
      · have h := h.2 hc
        refine x_iinc (x := x3) (L := [(1, x0), (3, 0), (0, x2), (0, x3), (0, x4)]) d_X6_timesOf_22 rfl (by decide) rfl (fun y3 ey3 => ?_)
        have h := h y3 ey3
        show WP _ _ _ _ _ _ _ _ [(1, x0), (3, 0), (0, x2), (0, y3), (0, x4)] _ _ _ _
        refine x_iinc (x := x4) (L := [(1, x0), (3, 0), (0, x2), (0, y3), (0, x4)]) d_X6_timesOf_25 rfl (by decide) rfl (fun y4 ey4 => ?_)
        have h := h y4 ey4
        show WP _ _ _ _ _ _ _ _ [(1, x0), (3, 0), (0, x2), (0, y3), (0, y4)] _ _ _ _
        refine r_goto (tgt := 5) d_X6_timesOf_28 rfl ?_
        exact h
    · have h := h.2 hc
      show WP l mX6_timesOf (rm d 0 0) noX _ 0 0 18 [(1, x0), (3, 0), (0, x2), (0, x3), (0, x4)] [(0, (-1))] N Λ σ
      refine r_iload_n (x := x2) d_X6_timesOf_18 rfl ?_
      refine r_ic_ne (tgt := 25) d_X6_timesOf_19 rfl (fun hc => ?_) (fun hc => ?_)
      · have h := h.1 hc
        refine x_iinc (x := x4) (L := [(1, x0), (3, 0), (0, x2), (0, x3), (0, x4)]) d_X6_timesOf_25 rfl (by decide) rfl (fun y5 ey5 => ?_)
        have h := h y5 ey5
        show WP _ _ _ _ _ _ _ _ [(1, x0), (3, 0), (0, x2), (0, x3), (0, y5)] _ _ _ _
        refine r_goto (tgt := 5) d_X6_timesOf_28 rfl ?_
        exact h
      · have h := h.2 hc
        refine x_iinc (x := x3) (L := [(1, x0), (3, 0), (0, x2), (0, x3), (0, x4)]) d_X6_timesOf_22 rfl (by decide) rfl (fun y6 ey6 => ?_)
        have h := h y6 ey6
        show WP _ _ _ _ _ _ _ _ [(1, x0), (3, 0), (0, x2), (0, y6), (0, x4)] _ _ _ _
        refine x_iinc (x := x4) (L := [(1, x0), (3, 0), (0, x2), (0, y6), (0, x4)]) d_X6_timesOf_25 rfl (by decide) rfl (fun y7 ey7 => ?_)
        have h := h y7 ey7
        show WP _ _ _ _ _ _ _ _ [(1, x0), (3, 0), (0, x2), (0, y6), (0, y7)] _ _ _ _
        refine r_goto (tgt := 5) d_X6_timesOf_28 rfl ?_
        exact h
theorem v_X1_takeLetters_0 {l : Launch} {d N : Nat} {Λ : Lay} {P : Int → Mem → Prop} {σ : Mem} {x1 t : Int} (h0d : 1 ≤ d)
    (h : (CI l mX6_bracketsIn (d - 1) [(1, x1)] N Λ σ (fun v2 σ1 => ((v2 = 2 → WI l mX1_takeLetters d P 15 [(2, t), (1, x1), (3, 0), (0, 0), (0, 0)] [] N Λ σ1) ∧ (¬ (v2 = 2) → P 0 σ1))))) :
    WI l mX1_takeLetters d P 0 [(2, t), (1, x1), (3, 0), (3, 0), (3, 0)] [] N Λ σ := by
  have hd_1 : 1 ≤ d := Nat.le_trans (by decide) h0d
  refine r_lload_n (x := x1) d_X1_takeLetters_0 rfl ?_
  refine x_callSI (Y2 := mX6_bracketsIn) (As := [(1, x1)]) (S := []) d_X1_takeLetters_1 ok_mX6_bracketsIn ml_X1_71 rfl (Nat.le_of_ble_eq_true rfl) (Nat.le_of_ble_eq_true rfl) rfl hd_1 (CI.mono h (fun v2 σ1 h => ?_))
  refine r_iconst (x := 2) d_X1_takeLetters_4 ⟨by decide, by decide⟩ ?_
  refine r_ic_eq (tgt := 10) d_X1_takeLetters_5 rfl (fun hc => ?_) (fun hc => ?_)
  · have h := h.1 hc
    refine r_iconst (x := 0) d_X1_takeLetters_10 ⟨by decide, by decide⟩ ?_
    refine r_istore_n (L2 := [(2, t), (1, x1), (3, 0), (0, 0), (3, 0)]) d_X1_takeLetters_11 (by decide) rfl rfl ?_
    refine r_iconst (x := 0) d_X1_takeLetters_12 ⟨by decide, by decide⟩ ?_
    refine r_istore (L2 := [(2, t), (1, x1), (3, 0), (0, 0), (0, 0)]) d_X1_takeLetters_13 (by decide) rfl rfl ?_
    exact h
  · have h := h.2 hc
    refine r_iconst (x := 0) d_X1_takeLetters_8 ⟨by decide, by decide⟩ ?_
    exact r_iret d_X1_takeLetters_9 rfl (by decide) (Nat.le_refl 0) (Nat.le_refl 0) ⟨_, rfl, rfl, rfl, h⟩
theorem v_X1_takeLetters_15 {l : Launch} {d N : Nat} {Λ : Lay} {P : Int → Mem → Prop} {σ : Mem} {x1 x3 x4 t t_letters : Int} (o_t : Ob N Λ t 11 6) (f_t_letters : (Λ t).2.2 1 = t_letters) (h0d : 1 ≤ d)
    (h : ((10 ≤ x4 → ((¬ x3 = 6 → P 0 σ) ∧ (x3 = 6 → P 1 σ))) ∧ (¬ (10 ≤ x4) → ((6 ≤ x3 → (∀ y1, y1 = addI x4 1 → WI l mX1_takeLetters d P 15 [(2, t), (1, x1), (3, 0), (0, x3), (0, y1)] [] N Λ σ)) ∧ (¬ (6 ≤ x3) → (CI l mX6_timesOf (d - 1) [(1, x1), (0, x4)] N Λ σ (fun v3 σ2 => ((¬ v3 = 1 → (∀ y4, y4 = addI x4 1 → WI l mX1_takeLetters d P 15 [(2, t), (1, x1), (3, 0), (0, x3), (0, y4)] [] N Λ σ2)) ∧ (v3 = 1 → (Ix N Λ t_letters 0 x3 ∧ (∀ τ5, τ5 = st σ2 t_letters x3 x4 → (∀ y6, y6 = addI x3 1 → (∀ y7, y7 = addI x4 1 → WI l mX1_takeLetters d P 15 [(2, t), (1, x1), (3, 0), (0, y6), (0, y7)] [] N Λ τ5))))))))))))) :
    WI l mX1_takeLetters d P 15 [(2, t), (1, x1), (3, 0), (0, x3), (0, x4)] [] N Λ σ := by
  have hd_1 : 1 ≤ d := Nat.le_trans (by decide) h0d
  refine r_iload (x := x4) d_X1_takeLetters_15 rfl ?_
  refine r_bipush (x := 10) d_X1_takeLetters_17 ⟨by decide, by decide⟩ (by decide) ?_
  refine r_ic_ge (tgt := 55) d_X1_takeLetters_19 rfl (fun hc => ?_) (fun hc => ?_)
  · have h := h.1 hc
    refine r_iload_n (x := x3) d_X1_takeLetters_55 rfl ?_
    refine r_bipush (x := 6) d_X1_takeLetters_56 ⟨by decide, by decide⟩ (by decide) ?_
    refine r_ic_ne (tgt := 65) d_X1_takeLetters_58 rfl (fun hc => ?_) (fun hc => ?_)
    · have h := h.1 hc
      refine r_iconst (x := 0) d_X1_takeLetters_65 ⟨by decide, by decide⟩ ?_
      exact r_iret d_X1_takeLetters_66 rfl (by decide) (Nat.le_refl 0) (Nat.le_refl 0) ⟨_, rfl, rfl, rfl, h⟩
    · have h := h.2 hc
      refine r_iconst (x := 1) d_X1_takeLetters_61 ⟨by decide, by decide⟩ ?_
      refine r_goto (tgt := 66) d_X1_takeLetters_62 rfl ?_
      exact r_iret d_X1_takeLetters_66 rfl (by decide) (Nat.le_refl 0) (Nat.le_refl 0) ⟨_, rfl, rfl, rfl, h⟩
  · have h := h.2 hc
    refine r_iload_n (x := x3) d_X1_takeLetters_22 rfl ?_
    refine r_bipush (x := 6) d_X1_takeLetters_23 ⟨by decide, by decide⟩ (by decide) ?_
    refine r_ic_ge (tgt := 49) d_X1_takeLetters_25 rfl (fun hc => ?_) (fun hc => ?_)
    · have h := h.1 hc
      refine x_iinc (x := x4) (L := [(2, t), (1, x1), (3, 0), (0, x3), (0, x4)]) d_X1_takeLetters_49 rfl (by decide) rfl (fun y1 ey1 => ?_)
      have h := h y1 ey1
      show WP _ _ _ _ _ _ _ _ [(2, t), (1, x1), (3, 0), (0, x3), (0, y1)] _ _ _ _
      refine r_goto (tgt := 15) d_X1_takeLetters_52 rfl ?_
      exact h
    · have h := h.2 hc
      refine r_lload_n (x := x1) d_X1_takeLetters_28 rfl ?_
      refine r_iload (x := x4) d_X1_takeLetters_29 rfl ?_
      refine x_callSI (Y2 := mX6_timesOf) (As := [(1, x1), (0, x4)]) (S := []) d_X1_takeLetters_31 ok_mX6_timesOf ml_X1_74 rfl (Nat.le_of_ble_eq_true rfl) (Nat.le_of_ble_eq_true rfl) rfl hd_1 (CI.mono h (fun v3 σ2 h => ?_))
      refine r_iconst (x := 1) d_X1_takeLetters_34 ⟨by decide, by decide⟩ ?_
      refine r_ic_ne (tgt := 49) d_X1_takeLetters_35 rfl (fun hc => ?_) (fun hc => ?_)
      · have h := h.1 hc
        refine x_iinc (x := x4) (L := [(2, t), (1, x1), (3, 0), (0, x3), (0, x4)]) d_X1_takeLetters_49 rfl (by decide) rfl (fun y4 ey4 => ?_)
        have h := h y4 ey4
        show WP _ _ _ _ _ _ _ _ [(2, t), (1, x1), (3, 0), (0, x3), (0, y4)] _ _ _ _
        refine r_goto (tgt := 15) d_X1_takeLetters_52 rfl ?_
        exact h
      · have h := h.2 hc
        refine r_aload_n (x := t) d_X1_takeLetters_38 rfl o_t.1 ?_
        refine r_getf (j := 1) (t := 2) (x := t_letters) d_X1_takeLetters_39 kX1 (by decide) fl_X1_15 o_t.1 o_t.2.1 o_t.2.2.1 o_t.2.2.2 rfl f_t_letters ?_
        refine r_iload_n (x := x3) d_X1_takeLetters_42 rfl ?_
        refine r_iload (x := x4) d_X1_takeLetters_43 rfl ?_
        refine x_iast d_X1_takeLetters_45 h.1 ?_
        have h := h.2
        refine r_nmM (fun τ5 eτ5 => ?_)
        have h := h τ5 eτ5
        refine x_iinc (x := x3) (L := [(2, t), (1, x1), (3, 0), (0, x3), (0, x4)]) d_X1_takeLetters_46 rfl (by decide) rfl (fun y6 ey6 => ?_)
        have h := h y6 ey6
        show WP _ _ _ _ _ _ _ _ [(2, t), (1, x1), (3, 0), (0, y6), (0, x4)] _ _ _ _
        refine x_iinc (x := x4) (L := [(2, t), (1, x1), (3, 0), (0, y6), (0, x4)]) d_X1_takeLetters_49 rfl (by decide) rfl (fun y7 ey7 => ?_)
        have h := h y7 ey7
        show WP _ _ _ _ _ _ _ _ [(2, t), (1, x1), (3, 0), (0, y6), (0, y7)] _ _ _ _
        refine r_goto (tgt := 15) d_X1_takeLetters_52 rfl ?_
        exact h
theorem v_X1_letterOfRow_0 {l : Launch} {d N : Nat} {Λ : Lay} {P : Int → Mem → Prop} {σ : Mem} {x1 t t_letters t_row : Int} (o_t : Ob N Λ t 11 6) (f_t_letters : (Λ t).2.2 1 = t_letters) (f_t_row : (Λ t).2.2 2 = t_row)
    (h : ((x1 < 0 → P (-1) σ) ∧ (¬ (x1 < 0) → ((x1 < 6 → (Ix N Λ t_row 0 x1 ∧ (Ix N Λ t_letters 0 (σ t_row x1) ∧ P (σ t_letters (σ t_row x1)) σ))) ∧ (¬ (x1 < 6) → P (-1) σ))))) :
    WI l mX1_letterOfRow d P 0 [(2, t), (0, x1)] [] N Λ σ := by
  refine r_iload_n (x := x1) d_X1_letterOfRow_0 rfl ?_
  refine r_if_lt (tgt := 10) d_X1_letterOfRow_1 rfl (fun hc => ?_) (fun hc => ?_)
  · have h := h.1 hc
    refine r_iconst (x := (-1)) d_X1_letterOfRow_10 ⟨by decide, by decide⟩ ?_
    refine r_goto (tgt := 25) d_X1_letterOfRow_11 rfl ?_
    exact r_iret d_X1_letterOfRow_25 rfl rfl (Nat.le_refl 0) (Nat.le_refl 0) ⟨_, rfl, rfl, rfl, h⟩
  · have h := h.2 hc
    refine r_iload_n (x := x1) d_X1_letterOfRow_4 rfl ?_
    refine r_bipush (x := 6) d_X1_letterOfRow_5 ⟨by decide, by decide⟩ (by decide) ?_
    refine r_ic_lt (tgt := 14) d_X1_letterOfRow_7 rfl (fun hc => ?_) (fun hc => ?_)
    · have h := h.1 hc
      refine r_aload_n (x := t) d_X1_letterOfRow_14 rfl o_t.1 ?_
      refine r_getf (j := 1) (t := 2) (x := t_letters) d_X1_letterOfRow_15 kX1 (by decide) fl_X1_15 o_t.1 o_t.2.1 o_t.2.2.1 o_t.2.2.2 rfl f_t_letters ?_
      refine r_aload_n (x := t) d_X1_letterOfRow_18 rfl o_t.1 ?_
      refine r_getf (j := 2) (t := 2) (x := t_row) d_X1_letterOfRow_19 kX1 (by decide) fl_X1_19 o_t.1 o_t.2.1 o_t.2.2.1 o_t.2.2.2 rfl f_t_row ?_
      refine r_iload_n (x := x1) d_X1_letterOfRow_22 rfl ?_
      refine x_iald d_X1_letterOfRow_23 h.1 ?_
      have h := h.2
      refine x_iald d_X1_letterOfRow_24 h.1 ?_
      have h := h.2
      exact r_iret d_X1_letterOfRow_25 rfl rfl (Nat.le_refl 0) (Nat.le_refl 0) ⟨_, rfl, rfl, rfl, h⟩
    · have h := h.2 hc
      refine r_iconst (x := (-1)) d_X1_letterOfRow_10 ⟨by decide, by decide⟩ ?_
      refine r_goto (tgt := 25) d_X1_letterOfRow_11 rfl ?_
      exact r_iret d_X1_letterOfRow_25 rfl rfl (Nat.le_refl 0) (Nat.le_refl 0) ⟨_, rfl, rfl, rfl, h⟩
theorem v_X1_placeOf_0 {l : Launch} {d N : Nat} {Λ : Lay} {P : Int → Mem → Prop} {σ : Mem} {x1 t : Int}
    (h : WI l mX1_placeOf d P 2 [(2, t), (0, x1), (0, 0)] [] N Λ σ) :
    WI l mX1_placeOf d P 0 [(2, t), (0, x1), (3, 0)] [] N Λ σ := by
  refine r_iconst (x := 0) d_X1_placeOf_0 ⟨by decide, by decide⟩ ?_
  refine r_istore_n (L2 := [(2, t), (0, x1), (0, 0)]) d_X1_placeOf_1 (by decide) rfl rfl ?_
  exact h
theorem v_X1_placeOf_2 {l : Launch} {d N : Nat} {Λ : Lay} {P : Int → Mem → Prop} {σ : Mem} {x1 x2 t t_letters : Int} (o_t : Ob N Λ t 11 6) (f_t_letters : (Λ t).2.2 1 = t_letters)
    (h : ((6 ≤ x2 → P (-1) σ) ∧ (¬ (6 ≤ x2) → (Ix N Λ t_letters 0 x2 ∧ ((¬ (σ t_letters x2) = x1 → (∀ y1, y1 = addI x2 1 → WI l mX1_placeOf d P 2 [(2, t), (0, x1), (0, y1)] [] N Λ σ)) ∧ ((σ t_letters x2) = x1 → P x2 σ)))))) :
    WI l mX1_placeOf d P 2 [(2, t), (0, x1), (0, x2)] [] N Λ σ := by
  refine r_iload_n (x := x2) d_X1_placeOf_2 rfl ?_
  refine r_bipush (x := 6) d_X1_placeOf_3 ⟨by decide, by decide⟩ (by decide) ?_
  refine r_ic_ge (tgt := 26) d_X1_placeOf_5 rfl (fun hc => ?_) (fun hc => ?_)
  · have h := h.1 hc
    refine r_iconst (x := (-1)) d_X1_placeOf_26 ⟨by decide, by decide⟩ ?_
    exact r_iret d_X1_placeOf_27 rfl rfl (Nat.le_refl 0) (Nat.le_refl 0) ⟨_, rfl, rfl, rfl, h⟩
  · have h := h.2 hc
    refine r_aload_n (x := t) d_X1_placeOf_8 rfl o_t.1 ?_
    refine r_getf (j := 1) (t := 2) (x := t_letters) d_X1_placeOf_9 kX1 (by decide) fl_X1_15 o_t.1 o_t.2.1 o_t.2.2.1 o_t.2.2.2 rfl f_t_letters ?_
    refine r_iload_n (x := x2) d_X1_placeOf_12 rfl ?_
    refine x_iald d_X1_placeOf_13 h.1 ?_
    have h := h.2
    refine r_iload_n (x := x1) d_X1_placeOf_14 rfl ?_
    refine r_ic_ne (tgt := 20) d_X1_placeOf_15 rfl (fun hc => ?_) (fun hc => ?_)
    · have h := h.1 hc
      refine x_iinc (x := x2) (L := [(2, t), (0, x1), (0, x2)]) d_X1_placeOf_20 rfl (by decide) rfl (fun y1 ey1 => ?_)
      have h := h y1 ey1
      show WP _ _ _ _ _ _ _ _ [(2, t), (0, x1), (0, y1)] _ _ _ _
      refine r_goto (tgt := 2) d_X1_placeOf_23 rfl ?_
      exact h
    · have h := h.2 hc
      refine r_iload_n (x := x2) d_X1_placeOf_18 rfl ?_
      exact r_iret d_X1_placeOf_19 rfl rfl (Nat.le_refl 0) (Nat.le_refl 0) ⟨_, rfl, rfl, rfl, h⟩
theorem v_X6_with_0 {l : Launch} {d N : Nat} {Λ : Lay} {P : Int → Mem → Prop} {σ : Mem} {x0 x2 : Int}
    (h : WL l mX6_with d P 3 [(1, x0), (3, 0), (0, x2), (0, 36), (3, 0), (3, 0), (3, 0)] [] N Λ σ) :
    WL l mX6_with d P 0 [(1, x0), (3, 0), (0, x2), (3, 0), (3, 0), (3, 0), (3, 0)] [] N Λ σ := by
  refine r_bipush (x := 36) d_X6_with_0 ⟨by decide, by decide⟩ (by decide) ?_
  refine r_istore_n (L2 := [(1, x0), (3, 0), (0, x2), (0, 36), (3, 0), (3, 0), (3, 0)]) d_X6_with_2 (by decide) rfl rfl ?_
  exact h
theorem v_X6_with_3 {l : Launch} {d N : Nat} {Λ : Lay} {P : Int → Mem → Prop} {σ : Mem} {x0 x2 x3 : Int}
    (h : ((x3 < 0 → P x0 σ) ∧ (¬ (x3 < 0) → (∀ y1, y1 = (andI (l2iI (ushrL x0 x3)) 4095) → ((y1 = 0 → (∀ y2, y2 = (andL x0 (subL (shlL 1 (addI x3 12)) 1)) → P (orL (orL (subL x0 y2) (shlL x2 x3)) (ushrL y2 12)) σ)) ∧ (¬ (y1 = 0) → ((y1 ≤ x2 → (∀ y3, y3 = addI x3 (-12) → WL l mX6_with d P 3 [(1, x0), (3, 0), (0, x2), (0, y3), (3, 0), (3, 0), (3, 0)] [] N Λ σ)) ∧ (¬ (y1 ≤ x2) → (∀ y4, y4 = (andL x0 (subL (shlL 1 (addI x3 12)) 1)) → P (orL (orL (subL x0 y4) (shlL x2 x3)) (ushrL y4 12)) σ))))))))) :
    WL l mX6_with d P 3 [(1, x0), (3, 0), (0, x2), (0, x3), (3, 0), (3, 0), (3, 0)] [] N Λ σ := by
  refine r_iload_n (x := x3) d_X6_with_3 rfl ?_
  refine r_if_lt (tgt := 62) d_X6_with_4 rfl (fun hc => ?_) (fun hc => ?_)
  · have h := h.1 hc
    refine r_lload_n (x := x0) d_X6_with_62 rfl ?_
    exact r_lret d_X6_with_63 rfl (Nat.le_refl 0) (Nat.le_refl 0) ⟨_, rfl, rfl, rfl, h⟩
  · have h := h.2 hc
    refine r_lload_n (x := x0) d_X6_with_7 rfl ?_
    refine r_iload_n (x := x3) d_X6_with_8 rfl ?_
    refine r_lushr d_X6_with_9 ?_
    refine r_l2i d_X6_with_10 ?_
    refine r_sipush (x := 4095) d_X6_with_11 ⟨by decide, by decide⟩ (by decide) ?_
    refine r_iand d_X6_with_14 ?_
    refine r_nm (fun y1 ey1 => ?_)
    have h := h y1 ey1
    refine r_istore (L2 := [(1, x0), (3, 0), (0, x2), (0, x3), (0, y1), (3, 0), (3, 0)]) d_X6_with_15 (by decide) rfl rfl ?_
    refine r_iload (x := y1) d_X6_with_17 rfl ?_
    refine r_if_eq (tgt := 28) d_X6_with_19 rfl (fun hc => ?_) (fun hc => ?_)
    · have h := h.1 hc
      refine r_lload_n (x := x0) d_X6_with_28 rfl ?_
      refine r_lconst d_X6_with_29 ?_
      skip
      refine r_iload_n (x := x3) d_X6_with_30 rfl ?_
      refine r_bipush (x := 12) d_X6_with_31 ⟨by decide, by decide⟩ (by decide) ?_
      refine r_iadd d_X6_with_33 ?_
      refine r_lshl d_X6_with_34 ?_
      refine r_lconst d_X6_with_35 ?_
      skip
      refine r_lsub d_X6_with_36 ?_
      refine r_land d_X6_with_37 ?_
      refine r_nm (fun y2 ey2 => ?_)
      have h := h y2 ey2
      refine r_lstore (L2 := [(1, x0), (3, 0), (0, x2), (0, x3), (0, y1), (1, y2), (3, 0)]) d_X6_with_38 (by decide) rfl rfl ?_
      refine r_lload_n (x := x0) d_X6_with_40 rfl ?_
      refine r_lload (x := y2) d_X6_with_41 rfl ?_
      refine r_lsub d_X6_with_43 ?_
      refine r_iload_n (x := x2) d_X6_with_44 rfl ?_
      refine r_i2l d_X6_with_45 ?_
      refine r_iload_n (x := x3) d_X6_with_46 rfl ?_
      refine r_lshl d_X6_with_47 ?_
      refine r_lor d_X6_with_48 ?_
      refine r_lload (x := y2) d_X6_with_49 rfl ?_
      refine r_bipush (x := 12) d_X6_with_51 ⟨by decide, by decide⟩ (by decide) ?_
      refine r_lushr d_X6_with_53 ?_
      refine r_lor d_X6_with_54 ?_
      exact r_lret d_X6_with_55 rfl (Nat.le_refl 0) (Nat.le_refl 0) ⟨_, rfl, rfl, rfl, h⟩
    · have h := h.2 hc
      refine r_iload (x := y1) d_X6_with_22 rfl ?_
      refine r_iload_n (x := x2) d_X6_with_24 rfl ?_
      refine r_ic_le (tgt := 56) d_X6_with_25 rfl (fun hc => ?_) (fun hc => ?_)
      · have h := h.1 hc
        refine x_iinc (x := x3) (L := [(1, x0), (3, 0), (0, x2), (0, x3), (0, y1), (3, 0), (3, 0)]) d_X6_with_56 rfl (by decide) rfl (fun y3 ey3 => ?_)
        have h := h y3 ey3
        show WP _ _ _ _ _ _ _ _ [(1, x0), (3, 0), (0, x2), (0, y3), (0, y1), (3, 0), (3, 0)] _ _ _ _
        refine r_goto (tgt := 3) d_X6_with_59 rfl ?_
        exact x_mask h ⟨Or.inr rfl, Or.inl rfl, Or.inr rfl, Or.inr rfl, Or.inl rfl, Or.inl rfl, Or.inl rfl, trivial⟩
      · have h := h.2 hc
        refine r_lload_n (x := x0) d_X6_with_28 rfl ?_
        refine r_lconst d_X6_with_29 ?_
        skip
        refine r_iload_n (x := x3) d_X6_with_30 rfl ?_
        refine r_bipush (x := 12) d_X6_with_31 ⟨by decide, by decide⟩ (by decide) ?_
        refine r_iadd d_X6_with_33 ?_
        refine r_lshl d_X6_with_34 ?_
        refine r_lconst d_X6_with_35 ?_
        skip
        refine r_lsub d_X6_with_36 ?_
        refine r_land d_X6_with_37 ?_
        refine r_nm (fun y4 ey4 => ?_)
        have h := h y4 ey4
        refine r_lstore (L2 := [(1, x0), (3, 0), (0, x2), (0, x3), (0, y1), (1, y4), (3, 0)]) d_X6_with_38 (by decide) rfl rfl ?_
        refine r_lload_n (x := x0) d_X6_with_40 rfl ?_
        refine r_lload (x := y4) d_X6_with_41 rfl ?_
        refine r_lsub d_X6_with_43 ?_
        refine r_iload_n (x := x2) d_X6_with_44 rfl ?_
        refine r_i2l d_X6_with_45 ?_
        refine r_iload_n (x := x3) d_X6_with_46 rfl ?_
        refine r_lshl d_X6_with_47 ?_
        refine r_lor d_X6_with_48 ?_
        refine r_lload (x := y4) d_X6_with_49 rfl ?_
        refine r_bipush (x := 12) d_X6_with_51 ⟨by decide, by decide⟩ (by decide) ?_
        refine r_lushr d_X6_with_53 ?_
        refine r_lor d_X6_with_54 ?_
        exact r_lret d_X6_with_55 rfl (Nat.le_refl 0) (Nat.le_refl 0) ⟨_, rfl, rfl, rfl, h⟩
theorem v_X1_byPlaces_0 {l : Launch} {d N : Nat} {Λ : Lay} {P : Int → Mem → Prop} {σ : Mem} {x1 t : Int} (h0d : 1 ≤ d)
    (h : (CI l mX6_bracketsIn (d - 1) [(1, x1)] N Λ σ (fun v2 σ1 => ((v2 = 2 → WL l mX1_byPlaces d P 15 [(2, t), (1, x1), (3, 0), (1, 0), (3, 0), (0, 0), (3, 0), (3, 0), (3, 0)] [] N Λ σ1) ∧ (¬ (v2 = 2) → P 0 σ1))))) :
    WL l mX1_byPlaces d P 0 [(2, t), (1, x1), (3, 0), (3, 0), (3, 0), (3, 0), (3, 0), (3, 0), (3, 0)] [] N Λ σ := by
  have hd_1 : 1 ≤ d := Nat.le_trans (by decide) h0d
  refine r_lload_n (x := x1) d_X1_byPlaces_0 rfl ?_
  refine x_callSI (Y2 := mX6_bracketsIn) (As := [(1, x1)]) (S := []) d_X1_byPlaces_1 ok_mX6_bracketsIn ml_X1_71 rfl (Nat.le_of_ble_eq_true rfl) (Nat.le_of_ble_eq_true rfl) rfl hd_1 (CI.mono h (fun v2 σ1 h => ?_))
  refine r_iconst (x := 2) d_X1_byPlaces_4 ⟨by decide, by decide⟩ ?_
  refine r_ic_eq (tgt := 10) d_X1_byPlaces_5 rfl (fun hc => ?_) (fun hc => ?_)
  · have h := h.1 hc
    refine r_lconst d_X1_byPlaces_10 ?_
    skip
    refine r_lstore_n (L2 := [(2, t), (1, x1), (3, 0), (1, 0), (3, 0), (3, 0), (3, 0), (3, 0), (3, 0)]) d_X1_byPlaces_11 (by decide) rfl rfl ?_
    refine r_iconst (x := 0) d_X1_byPlaces_12 ⟨by decide, by decide⟩ ?_
    refine r_istore (L2 := [(2, t), (1, x1), (3, 0), (1, 0), (3, 0), (0, 0), (3, 0), (3, 0), (3, 0)]) d_X1_byPlaces_13 (by decide) rfl rfl ?_
    exact h
  · have h := h.2 hc
    refine r_lconst d_X1_byPlaces_8 ?_
    skip
    exact r_lret d_X1_byPlaces_9 rfl (Nat.le_refl 0) (Nat.le_refl 0) ⟨_, rfl, rfl, rfl, h⟩
theorem v_X1_byPlaces_15 {l : Launch} {d N : Nat} {Λ : Lay} {P : Int → Mem → Prop} {σ : Mem} {x1 x3 x5 t : Int}
    (h : ((2 ≤ x5 → P x3 σ) ∧ (¬ (2 ≤ x5) → WL l mX1_byPlaces d P 27 [(2, t), (1, x1), (3, 0), (1, x3), (3, 0), (0, x5), (0, 0), (0, 0), (3, 0)] [] N Λ σ))) :
    WL l mX1_byPlaces d P 15 [(2, t), (1, x1), (3, 0), (1, x3), (3, 0), (0, x5), (3, 0), (3, 0), (3, 0)] [] N Λ σ := by
  refine r_iload (x := x5) d_X1_byPlaces_15 rfl ?_
  refine r_iconst (x := 2) d_X1_byPlaces_17 ⟨by decide, by decide⟩ ?_
  refine r_ic_ge (tgt := 86) d_X1_byPlaces_18 rfl (fun hc => ?_) (fun hc => ?_)
  · have h := h.1 hc
    refine r_lload_n (x := x3) d_X1_byPlaces_86 rfl ?_
    exact r_lret d_X1_byPlaces_87 rfl (Nat.le_refl 0) (Nat.le_refl 0) ⟨_, rfl, rfl, rfl, h⟩
  · have h := h.2 hc
    refine r_iconst (x := 0) d_X1_byPlaces_21 ⟨by decide, by decide⟩ ?_
    refine r_istore (L2 := [(2, t), (1, x1), (3, 0), (1, x3), (3, 0), (0, x5), (0, 0), (3, 0), (3, 0)]) d_X1_byPlaces_22 (by decide) rfl rfl ?_
    refine r_iconst (x := 0) d_X1_byPlaces_24 ⟨by decide, by decide⟩ ?_
    refine r_istore (L2 := [(2, t), (1, x1), (3, 0), (1, x3), (3, 0), (0, x5), (0, 0), (0, 0), (3, 0)]) d_X1_byPlaces_25 (by decide) rfl rfl ?_
    exact h
theorem v_X1_byPlaces_27 {l : Launch} {d N : Nat} {Λ : Lay} {P : Int → Mem → Prop} {σ : Mem} {x1 x3 x5 x6 x7 t : Int} (o_t : Ob N Λ t 11 6) (h0d : 2 ≤ d)
    (h : ((3 ≤ x7 → (CL l mX6_with (d - 1) [(1, x3), (0, x6)] N Λ σ (fun v2 σ1 => (∀ y3, y3 = addI x5 1 → WL l mX1_byPlaces d P 15 [(2, t), (1, x1), (3, 0), (1, v2), (3, 0), (0, y3), (3, 0), (3, 0), (3, 0)] [] N Λ σ1)))) ∧ (¬ (3 ≤ x7) → (∀ y4, y4 = (andI (l2iI (ushrL x1 (mulI 12 (subI 3 (divI (addI (mulI 3 x5) x7) 3))))) 4095) → ((¬ y4 = 0 → (CI l mX1_placeOf (d - 1) [(2, t), (0, (andI (shrI y4 (mulI 4 (subI 2 (remI (addI (mulI 3 x5) x7) 3)))) 15))] N Λ σ (fun v6 σ5 => ((¬ v6 = (-1) → (∀ y7, y7 = (orI (shlI x6 4) v6) → (∀ y8, y8 = addI x7 1 → WL l mX1_byPlaces d P 27 [(2, t), (1, x1), (3, 0), (1, x3), (3, 0), (0, x5), (0, y7), (0, y8), (3, 0)] [] N Λ σ5))) ∧ (v6 = (-1) → P 0 σ5))))) ∧ (y4 = 0 → (CI l mX1_placeOf (d - 1) [(2, t), (0, (-1))] N Λ σ (fun v10 σ9 => ((¬ v10 = (-1) → (∀ y11, y11 = (orI (shlI x6 4) v10) → (∀ y12, y12 = addI x7 1 → WL l mX1_byPlaces d P 27 [(2, t), (1, x1), (3, 0), (1, x3), (3, 0), (0, x5), (0, y11), (0, y12), (3, 0)] [] N Λ σ9))) ∧ (v10 = (-1) → P 0 σ9)))))))))) :
    WL l mX1_byPlaces d P 27 [(2, t), (1, x1), (3, 0), (1, x3), (3, 0), (0, x5), (0, x6), (0, x7), (3, 0)] [] N Λ σ := by
  have hd_1 : 1 ≤ d := Nat.le_trans (by decide) h0d
  have he_1 : 1 ≤ d - 1 := Nat.le_sub_of_add_le (Nat.le_trans (by decide) h0d)
  refine r_iload (x := x7) d_X1_byPlaces_27 rfl ?_
  refine r_iconst (x := 3) d_X1_byPlaces_29 ⟨by decide, by decide⟩ ?_
  refine r_ic_ge (tgt := 73) d_X1_byPlaces_30 rfl (fun hc => ?_) (fun hc => ?_)
  · have h := h.1 hc
    refine r_lload_n (x := x3) d_X1_byPlaces_73 rfl ?_
    refine r_iload (x := x6) d_X1_byPlaces_74 rfl ?_
    refine x_callSL (Y2 := mX6_with) (As := [(1, x3), (0, x6)]) (S := []) d_X1_byPlaces_76 ok_mX6_with ml_X1_106 rfl (Nat.le_of_ble_eq_true rfl) (Nat.le_of_ble_eq_true rfl) rfl hd_1 (CL.mono h (fun v2 σ1 h => ?_))
    refine r_lstore_n (L2 := [(2, t), (1, x1), (3, 0), (1, v2), (3, 0), (0, x5), (0, x6), (0, x7), (3, 0)]) d_X1_byPlaces_79 (by decide) rfl rfl ?_
    refine x_iinc (x := x5) (L := [(2, t), (1, x1), (3, 0), (1, v2), (3, 0), (0, x5), (0, x6), (0, x7), (3, 0)]) d_X1_byPlaces_80 rfl (by decide) rfl (fun y3 ey3 => ?_)
    have h := h y3 ey3
    show WP _ _ _ _ _ _ _ _ [(2, t), (1, x1), (3, 0), (1, v2), (3, 0), (0, y3), (0, x6), (0, x7), (3, 0)] _ _ _ _
    refine r_goto (tgt := 15) d_X1_byPlaces_83 rfl ?_
    exact x_mask h ⟨Or.inr rfl, Or.inr rfl, Or.inl rfl, Or.inr rfl, Or.inl rfl, Or.inr rfl, Or.inl rfl, Or.inl rfl, Or.inl rfl, trivial⟩
  · have h := h.2 hc
    refine r_aload_n (x := t) d_X1_byPlaces_33 rfl o_t.1 ?_
    refine r_lload_n (x := x1) d_X1_byPlaces_34 rfl ?_
    refine r_iconst (x := 3) d_X1_byPlaces_35 ⟨by decide, by decide⟩ ?_
    refine r_iload (x := x5) d_X1_byPlaces_36 rfl ?_
    refine r_imul d_X1_byPlaces_38 ?_
    refine r_iload (x := x7) d_X1_byPlaces_39 rfl ?_
    refine r_iadd d_X1_byPlaces_41 ?_
    refine x_callSI (Y2 := mX6_letterOfKey) (As := [(1, x1), (0, (addI (mulI 3 x5) x7))]) (S := [(2, t)]) d_X1_byPlaces_42 ok_mX6_letterOfKey ml_X1_99 rfl (Nat.le_of_ble_eq_true rfl) (Nat.le_of_ble_eq_true rfl) rfl hd_1 (c_X6_letterOfKey (v_X6_letterOfKey_0 he_1 ?_))
    intro y4 ey4
    have h := h y4 ey4
    refine ⟨fun hc => ?_, fun hc => ?_⟩
    · have h := h.1 hc
      show WP l mX1_byPlaces (rm d 0 0) noX _ 0 0 45 [(2, t), (1, x1), (3, 0), (1, x3), (3, 0), (0, x5), (0, x6), (0, x7), (3, 0)] [(0, (andI (shrI y4 (mulI 4 (subI 2 (remI (addI (mulI 3 x5) x7) 3)))) 15)), (2, t)] N Λ σ
      refine x_callVI (Y2 := mX1_placeOf) (c := t) (As := [(0, (andI (shrI y4 (mulI 4 (subI 2 (remI (addI (mulI 3 x5) x7) 3)))) 15))]) (S := []) d_X1_byPlaces_45 ok_mX1_placeOf ml_X1_102 rfl (Nat.le_of_ble_eq_true rfl) (Nat.le_of_ble_eq_true rfl) rfl hd_1 kX1 o_t (CI.mono h (fun v6 σ5 h => ?_))
      refine r_istore (L2 := [(2, t), (1, x1), (3, 0), (1, x3), (3, 0), (0, x5), (0, x6), (0, x7), (0, v6)]) d_X1_byPlaces_48 (by decide) rfl rfl ?_
      refine r_iload (x := v6) d_X1_byPlaces_50 rfl ?_
      refine r_iconst (x := (-1)) d_X1_byPlaces_52 ⟨by decide, by decide⟩ ?_
      refine r_ic_ne (tgt := 58) d_X1_byPlaces_53 rfl (fun hc => ?_) (fun hc => ?_)
      · have h := h.1 hc
        refine r_iload (x := x6) d_X1_byPlaces_58 rfl ?_
        refine r_iconst (x := 4) d_X1_byPlaces_60 ⟨by decide, by decide⟩ ?_
        refine r_ishl d_X1_byPlaces_61 ?_
        refine r_iload (x := v6) d_X1_byPlaces_62 rfl ?_
        refine r_ior d_X1_byPlaces_64 ?_
        refine r_nm (fun y7 ey7 => ?_)
        have h := h y7 ey7
        refine r_istore (L2 := [(2, t), (1, x1), (3, 0), (1, x3), (3, 0), (0, x5), (0, y7), (0, x7), (0, v6)]) d_X1_byPlaces_65 (by decide) rfl rfl ?_
        refine x_iinc (x := x7) (L := [(2, t), (1, x1), (3, 0), (1, x3), (3, 0), (0, x5), (0, y7), (0, x7), (0, v6)]) d_X1_byPlaces_67 rfl (by decide) rfl (fun y8 ey8 => ?_)
        have h := h y8 ey8
        show WP _ _ _ _ _ _ _ _ [(2, t), (1, x1), (3, 0), (1, x3), (3, 0), (0, x5), (0, y7), (0, y8), (0, v6)] _ _ _ _
        refine r_goto (tgt := 27) d_X1_byPlaces_70 rfl ?_
        exact x_mask h ⟨Or.inr rfl, Or.inr rfl, Or.inl rfl, Or.inr rfl, Or.inl rfl, Or.inr rfl, Or.inr rfl, Or.inr rfl, Or.inl rfl, trivial⟩
      · have h := h.2 hc
        refine r_lconst d_X1_byPlaces_56 ?_
        skip
        exact r_lret d_X1_byPlaces_57 rfl (Nat.le_refl 0) (Nat.le_refl 0) ⟨_, rfl, rfl, rfl, h⟩
    · have h := h.2 hc
      show WP l mX1_byPlaces (rm d 0 0) noX _ 0 0 45 [(2, t), (1, x1), (3, 0), (1, x3), (3, 0), (0, x5), (0, x6), (0, x7), (3, 0)] [(0, (-1)), (2, t)] N Λ σ
      refine x_callVI (Y2 := mX1_placeOf) (c := t) (As := [(0, (-1))]) (S := []) d_X1_byPlaces_45 ok_mX1_placeOf ml_X1_102 rfl (Nat.le_of_ble_eq_true rfl) (Nat.le_of_ble_eq_true rfl) rfl hd_1 kX1 o_t (CI.mono h (fun v10 σ9 h => ?_))
      refine r_istore (L2 := [(2, t), (1, x1), (3, 0), (1, x3), (3, 0), (0, x5), (0, x6), (0, x7), (0, v10)]) d_X1_byPlaces_48 (by decide) rfl rfl ?_
      refine r_iload (x := v10) d_X1_byPlaces_50 rfl ?_
      refine r_iconst (x := (-1)) d_X1_byPlaces_52 ⟨by decide, by decide⟩ ?_
      refine r_ic_ne (tgt := 58) d_X1_byPlaces_53 rfl (fun hc => ?_) (fun hc => ?_)
      · have h := h.1 hc
        refine r_iload (x := x6) d_X1_byPlaces_58 rfl ?_
        refine r_iconst (x := 4) d_X1_byPlaces_60 ⟨by decide, by decide⟩ ?_
        refine r_ishl d_X1_byPlaces_61 ?_
        refine r_iload (x := v10) d_X1_byPlaces_62 rfl ?_
        refine r_ior d_X1_byPlaces_64 ?_
        refine r_nm (fun y11 ey11 => ?_)
        have h := h y11 ey11
        refine r_istore (L2 := [(2, t), (1, x1), (3, 0), (1, x3), (3, 0), (0, x5), (0, y11), (0, x7), (0, v10)]) d_X1_byPlaces_65 (by decide) rfl rfl ?_
        refine x_iinc (x := x7) (L := [(2, t), (1, x1), (3, 0), (1, x3), (3, 0), (0, x5), (0, y11), (0, x7), (0, v10)]) d_X1_byPlaces_67 rfl (by decide) rfl (fun y12 ey12 => ?_)
        have h := h y12 ey12
        show WP _ _ _ _ _ _ _ _ [(2, t), (1, x1), (3, 0), (1, x3), (3, 0), (0, x5), (0, y11), (0, y12), (0, v10)] _ _ _ _
        refine r_goto (tgt := 27) d_X1_byPlaces_70 rfl ?_
        exact x_mask h ⟨Or.inr rfl, Or.inr rfl, Or.inl rfl, Or.inr rfl, Or.inl rfl, Or.inr rfl, Or.inr rfl, Or.inr rfl, Or.inl rfl, trivial⟩
      · have h := h.2 hc
        refine r_lconst d_X1_byPlaces_56 ?_
        skip
        exact r_lret d_X1_byPlaces_57 rfl (Nat.le_refl 0) (Nat.le_refl 0) ⟨_, rfl, rfl, rfl, h⟩
theorem v_X1_formOf_0 {l : Launch} {d N : Nat} {Λ : Lay} {P : Int → Mem → Prop} {σ : Mem} {x1 t : Int}
    (h : WI l mX1_formOf d P 2 [(2, t), (1, x1), (3, 0), (0, 0)] [] N Λ σ) :
    WI l mX1_formOf d P 0 [(2, t), (1, x1), (3, 0), (3, 0)] [] N Λ σ := by
  refine r_iconst (x := 0) d_X1_formOf_0 ⟨by decide, by decide⟩ ?_
  refine r_istore_n (L2 := [(2, t), (1, x1), (3, 0), (0, 0)]) d_X1_formOf_1 (by decide) rfl rfl ?_
  exact h
theorem v_X1_formOf_2 {l : Launch} {d N : Nat} {Λ : Lay} {P : Int → Mem → Prop} {σ : Mem} {x1 x3 t t_forms : Int} (o_t : Ob N Λ t 11 6) (f_t_forms : (Λ t).2.2 3 = t_forms)
    (h : ((5 ≤ x3 → P (-1) σ) ∧ (¬ (5 ≤ x3) → (Ix N Λ t_forms 1 x3 ∧ ((¬ (cmpL (σ t_forms x3) x1) = 0 → (∀ y1, y1 = addI x3 1 → WI l mX1_formOf d P 2 [(2, t), (1, x1), (3, 0), (0, y1)] [] N Λ σ)) ∧ ((cmpL (σ t_forms x3) x1) = 0 → P x3 σ)))))) :
    WI l mX1_formOf d P 2 [(2, t), (1, x1), (3, 0), (0, x3)] [] N Λ σ := by
  refine r_iload_n (x := x3) d_X1_formOf_2 rfl ?_
  refine r_iconst (x := 5) d_X1_formOf_3 ⟨by decide, by decide⟩ ?_
  refine r_ic_ge (tgt := 26) d_X1_formOf_4 rfl (fun hc => ?_) (fun hc => ?_)
  · have h := h.1 hc
    refine r_iconst (x := (-1)) d_X1_formOf_26 ⟨by decide, by decide⟩ ?_
    exact r_iret d_X1_formOf_27 rfl rfl (Nat.le_refl 0) (Nat.le_refl 0) ⟨_, rfl, rfl, rfl, h⟩
  · have h := h.2 hc
    refine r_aload_n (x := t) d_X1_formOf_7 rfl o_t.1 ?_
    refine r_getf (j := 3) (t := 2) (x := t_forms) d_X1_formOf_8 kX1 (by decide) fl_X1_22 o_t.1 o_t.2.1 o_t.2.2.1 o_t.2.2.2 rfl f_t_forms ?_
    refine r_iload_n (x := x3) d_X1_formOf_11 rfl ?_
    refine x_lald d_X1_formOf_12 h.1 ?_
    have h := h.2
    refine r_lload_n (x := x1) d_X1_formOf_13 rfl ?_
    refine r_lcmp d_X1_formOf_14 ?_
    refine r_if_ne (tgt := 20) d_X1_formOf_15 rfl (fun hc => ?_) (fun hc => ?_)
    · have h := h.1 hc
      refine x_iinc (x := x3) (L := [(2, t), (1, x1), (3, 0), (0, x3)]) d_X1_formOf_20 rfl (by decide) rfl (fun y1 ey1 => ?_)
      have h := h y1 ey1
      show WP _ _ _ _ _ _ _ _ [(2, t), (1, x1), (3, 0), (0, y1)] _ _ _ _
      refine r_goto (tgt := 2) d_X1_formOf_23 rfl ?_
      exact h
    · have h := h.2 hc
      refine r_iload_n (x := x3) d_X1_formOf_18 rfl ?_
      exact r_iret d_X1_formOf_19 rfl rfl (Nat.le_refl 0) (Nat.le_refl 0) ⟨_, rfl, rfl, rfl, h⟩
theorem v_X1_takeAsked_0 {l : Launch} {d N : Nat} {Λ : Lay} {P : Int → Mem → Prop} {σ : Mem} {a1 t t_asked : Int} (o_t : Ob N Λ t 11 6) (f_t_asked : (Λ t).2.2 5 = t_asked) (h0d : 1 ≤ d)
    (h : (CV l mJ7_fill_53178 (d - 1) [(2, t_asked), (0, 0)] N Λ σ (fun σ1 => WI l mX1_takeAsked d P 10 [(2, t), (2, a1), (0, 0), (3, 0)] [] N Λ σ1))) :
    WI l mX1_takeAsked d P 0 [(2, t), (2, a1), (3, 0), (3, 0)] [] N Λ σ := by
  have hd_1 : 1 ≤ d := Nat.le_trans (by decide) h0d
  refine r_aload_n (x := t) d_X1_takeAsked_0 rfl o_t.1 ?_
  refine r_getf (j := 5) (t := 2) (x := t_asked) d_X1_takeAsked_1 kX1 (by decide) fl_X1_29 o_t.1 o_t.2.1 o_t.2.2.1 o_t.2.2.2 rfl f_t_asked ?_
  refine r_iconst (x := 0) d_X1_takeAsked_4 ⟨by decide, by decide⟩ ?_
  refine x_callSV (Y2 := mJ7_fill_53178) (As := [(2, t_asked), (0, 0)]) (S := []) d_X1_takeAsked_5 ok_mJ7_fill_53178 ml_X1_89 rfl (Nat.le_of_ble_eq_true rfl) (Nat.le_of_ble_eq_true rfl) rfl hd_1 (CV.mono h (fun σ1 h => ?_))
  refine r_iconst (x := 0) d_X1_takeAsked_8 ⟨by decide, by decide⟩ ?_
  refine r_istore_n (L2 := [(2, t), (2, a1), (0, 0), (3, 0)]) d_X1_takeAsked_9 (by decide) rfl rfl ?_
  exact h
theorem v_X1_takeAsked_10 {l : Launch} {d N : Nat} {Λ : Lay} {P : Int → Mem → Prop} {σ : Mem} {x2 a1 a1_keys a1_numbers t t_asked : Int} (o_a1 : Ob N Λ a1 15 3) (o_t : Ob N Λ t 11 6) (f_a1_keys : (Λ a1).2.2 0 = a1_keys) (f_t_asked : (Λ t).2.2 5 = t_asked) (f_a1_numbers : (Λ a1).2.2 1 = a1_numbers) (h0d : 1 ≤ d)
    (h : (((σ a1 2) ≤ x2 → P 1 σ) ∧ (¬ ((σ a1 2) ≤ x2) → (Ix N Λ a1_keys 1 x2 ∧ (CL l mX1_byPlaces (d - 1) [(2, t), (1, (σ a1_keys x2))] N Λ σ (fun v2 σ1 => (CI l mX1_formOf (d - 1) [(2, t), (1, v2)] N Λ σ1 (fun v4 σ3 => ((¬ v4 = (-1) → (Ix N Λ a1_numbers 0 x2 ∧ (Ix N Λ t_asked 0 v4 ∧ (∀ τ5, τ5 = st σ3 t_asked v4 (σ3 a1_numbers x2) → (∀ y6, y6 = addI x2 1 → WI l mX1_takeAsked d P 10 [(2, t), (2, a1), (0, y6), (3, 0)] [] N Λ τ5))))) ∧ (v4 = (-1) → P 0 σ3)))))))))) :
    WI l mX1_takeAsked d P 10 [(2, t), (2, a1), (0, x2), (3, 0)] [] N Λ σ := by
  have hd_1 : 1 ≤ d := Nat.le_trans (by decide) h0d
  refine r_iload_n (x := x2) d_X1_takeAsked_10 rfl ?_
  refine r_aload_n (x := a1) d_X1_takeAsked_11 rfl o_a1.1 ?_
  refine r_getf (j := 2) (t := 0) (x := (σ a1 2)) d_X1_takeAsked_12 kX5 (by decide) fl_X1_59 o_a1.1 o_a1.2.1 o_a1.2.2.1 o_a1.2.2.2 rfl rfl ?_
  refine r_ic_ge (tgt := 58) d_X1_takeAsked_15 rfl (fun hc => ?_) (fun hc => ?_)
  · have h := h.1 hc
    refine r_iconst (x := 1) d_X1_takeAsked_58 ⟨by decide, by decide⟩ ?_
    exact r_iret d_X1_takeAsked_59 rfl (by decide) (Nat.le_refl 0) (Nat.le_refl 0) ⟨_, rfl, rfl, rfl, h⟩
  · have h := h.2 hc
    refine r_aload_n (x := t) d_X1_takeAsked_18 rfl o_t.1 ?_
    refine r_aload_n (x := t) d_X1_takeAsked_19 rfl o_t.1 ?_
    refine r_aload_n (x := a1) d_X1_takeAsked_20 rfl o_a1.1 ?_
    refine r_getf (j := 0) (t := 2) (x := a1_keys) d_X1_takeAsked_21 kX5 (by decide) fl_X1_62 o_a1.1 o_a1.2.1 o_a1.2.2.1 o_a1.2.2.2 rfl f_a1_keys ?_
    refine r_iload_n (x := x2) d_X1_takeAsked_24 rfl ?_
    refine x_lald d_X1_takeAsked_25 h.1 ?_
    have h := h.2
    refine x_callVL (Y2 := mX1_byPlaces) (c := t) (As := [(1, (σ a1_keys x2))]) (S := [(2, t)]) d_X1_takeAsked_26 ok_mX1_byPlaces ml_X1_95 rfl (Nat.le_of_ble_eq_true rfl) (Nat.le_of_ble_eq_true rfl) rfl hd_1 kX1 o_t (CL.mono h (fun v2 σ1 h => ?_))
    refine x_callVI (Y2 := mX1_formOf) (c := t) (As := [(1, v2)]) (S := []) d_X1_takeAsked_29 ok_mX1_formOf ml_X1_65 rfl (Nat.le_of_ble_eq_true rfl) (Nat.le_of_ble_eq_true rfl) rfl hd_1 kX1 o_t (CI.mono h (fun v4 σ3 h => ?_))
    refine r_istore_n (L2 := [(2, t), (2, a1), (0, x2), (0, v4)]) d_X1_takeAsked_32 (by decide) rfl rfl ?_
    refine r_iload_n (x := v4) d_X1_takeAsked_33 rfl ?_
    refine r_iconst (x := (-1)) d_X1_takeAsked_34 ⟨by decide, by decide⟩ ?_
    refine r_ic_ne (tgt := 40) d_X1_takeAsked_35 rfl (fun hc => ?_) (fun hc => ?_)
    · have h := h.1 hc
      refine r_aload_n (x := t) d_X1_takeAsked_40 rfl o_t.1 ?_
      refine r_getf (j := 5) (t := 2) (x := t_asked) d_X1_takeAsked_41 kX1 (by decide) fl_X1_29 o_t.1 o_t.2.1 o_t.2.2.1 o_t.2.2.2 rfl f_t_asked ?_
      refine r_iload_n (x := v4) d_X1_takeAsked_44 rfl ?_
      refine r_aload_n (x := a1) d_X1_takeAsked_45 rfl o_a1.1 ?_
      refine r_getf (j := 1) (t := 2) (x := a1_numbers) d_X1_takeAsked_46 kX5 (by decide) fl_X1_68 o_a1.1 o_a1.2.1 o_a1.2.2.1 o_a1.2.2.2 rfl f_a1_numbers ?_
      refine r_iload_n (x := x2) d_X1_takeAsked_49 rfl ?_
      refine x_iald d_X1_takeAsked_50 h.1 ?_
      have h := h.2
      refine x_iast d_X1_takeAsked_51 h.1 ?_
      have h := h.2
      refine r_nmM (fun τ5 eτ5 => ?_)
      have h := h τ5 eτ5
      refine x_iinc (x := x2) (L := [(2, t), (2, a1), (0, x2), (0, v4)]) d_X1_takeAsked_52 rfl (by decide) rfl (fun y6 ey6 => ?_)
      have h := h y6 ey6
      show WP _ _ _ _ _ _ _ _ [(2, t), (2, a1), (0, y6), (0, v4)] _ _ _ _
      refine r_goto (tgt := 10) d_X1_takeAsked_55 rfl ?_
      exact x_mask h ⟨Or.inr rfl, Or.inr rfl, Or.inr rfl, Or.inl rfl, trivial⟩
    · have h := h.2 hc
      refine r_iconst (x := 0) d_X1_takeAsked_38 ⟨by decide, by decide⟩ ?_
      exact r_iret d_X1_takeAsked_39 rfl (by decide) (Nat.le_refl 0) (Nat.le_refl 0) ⟨_, rfl, rfl, rfl, h⟩
theorem v_X6_row_0 {l : Launch} {d N : Nat} {Λ : Lay} {P : Int → Mem → Prop} {σ : Mem} {x0 x1 x2 : Int}
    (h : P (orI (orI (shlI x0 8) (shlI x1 4)) x2) σ) :
    WI l mX6_row d P 0 [(0, x0), (0, x1), (0, x2)] [] N Λ σ := by
  refine r_iload_n (x := x0) d_X6_row_0 rfl ?_
  refine r_bipush (x := 8) d_X6_row_1 ⟨by decide, by decide⟩ (by decide) ?_
  refine r_ishl d_X6_row_3 ?_
  refine r_iload_n (x := x1) d_X6_row_4 rfl ?_
  refine r_iconst (x := 4) d_X6_row_5 ⟨by decide, by decide⟩ ?_
  refine r_ishl d_X6_row_6 ?_
  refine r_ior d_X6_row_7 ?_
  refine r_iload_n (x := x2) d_X6_row_8 rfl ?_
  refine r_ior d_X6_row_9 ?_
  exact r_iret d_X6_row_10 rfl rfl (Nat.le_refl 0) (Nat.le_refl 0) ⟨_, rfl, rfl, rfl, h⟩
theorem v_X6_ordered_0 {l : Launch} {d N : Nat} {Λ : Lay} {P : Int → Mem → Prop} {σ : Mem} {x0 : Int}
    (h : (∀ y1, y1 = (andI (shrI x0 8) 15) → (∀ y2, y2 = (andI (shrI x0 4) 15) → (∀ y3, y3 = (andI x0 15) → ((y1 = y2 → WI l mX6_ordered d P 35 [(0, x0), (0, y1), (0, y2), (0, y3), (3, 0), (3, 0), (3, 0), (3, 0)] [] N Λ σ) ∧ (¬ (y1 = y2) → ((y1 = y3 → WI l mX6_ordered d P 35 [(0, x0), (0, y1), (0, y2), (0, y3), (3, 0), (3, 0), (3, 0), (3, 0)] [] N Λ σ) ∧ (¬ (y1 = y3) → ((¬ y2 = y3 → ((y2 ≤ y1 → WI l mX6_ordered d P 47 [(0, x0), (0, y1), (0, y2), (0, y3), (3, 0), (3, 0), (3, 0), (3, 0)] [(0, y2)] N Λ σ) ∧ (¬ (y2 ≤ y1) → WI l mX6_ordered d P 47 [(0, x0), (0, y1), (0, y2), (0, y3), (3, 0), (3, 0), (3, 0), (3, 0)] [(0, y1)] N Λ σ))) ∧ (y2 = y3 → WI l mX6_ordered d P 35 [(0, x0), (0, y1), (0, y2), (0, y3), (3, 0), (3, 0), (3, 0), (3, 0)] [] N Λ σ)))))))))) :
    WI l mX6_ordered d P 0 [(0, x0), (3, 0), (3, 0), (3, 0), (3, 0), (3, 0), (3, 0), (3, 0)] [] N Λ σ := by
  refine r_iload_n (x := x0) d_X6_ordered_0 rfl ?_
  refine r_bipush (x := 8) d_X6_ordered_1 ⟨by decide, by decide⟩ (by decide) ?_
  refine r_ishr d_X6_ordered_3 ?_
  refine r_bipush (x := 15) d_X6_ordered_4 ⟨by decide, by decide⟩ (by decide) ?_
  refine r_iand d_X6_ordered_6 ?_
  refine r_nm (fun y1 ey1 => ?_)
  have h := h y1 ey1
  refine r_istore_n (L2 := [(0, x0), (0, y1), (3, 0), (3, 0), (3, 0), (3, 0), (3, 0), (3, 0)]) d_X6_ordered_7 (by decide) rfl rfl ?_
  refine r_iload_n (x := x0) d_X6_ordered_8 rfl ?_
  refine r_iconst (x := 4) d_X6_ordered_9 ⟨by decide, by decide⟩ ?_
  refine r_ishr d_X6_ordered_10 ?_
  refine r_bipush (x := 15) d_X6_ordered_11 ⟨by decide, by decide⟩ (by decide) ?_
  refine r_iand d_X6_ordered_13 ?_
  refine r_nm (fun y2 ey2 => ?_)
  have h := h y2 ey2
  refine r_istore_n (L2 := [(0, x0), (0, y1), (0, y2), (3, 0), (3, 0), (3, 0), (3, 0), (3, 0)]) d_X6_ordered_14 (by decide) rfl rfl ?_
  refine r_iload_n (x := x0) d_X6_ordered_15 rfl ?_
  refine r_bipush (x := 15) d_X6_ordered_16 ⟨by decide, by decide⟩ (by decide) ?_
  refine r_iand d_X6_ordered_18 ?_
  refine r_nm (fun y3 ey3 => ?_)
  have h := h y3 ey3
  refine r_istore_n (L2 := [(0, x0), (0, y1), (0, y2), (0, y3), (3, 0), (3, 0), (3, 0), (3, 0)]) d_X6_ordered_19 (by decide) rfl rfl ?_
  refine r_iload_n (x := y1) d_X6_ordered_20 rfl ?_
  refine r_iload_n (x := y2) d_X6_ordered_21 rfl ?_
  refine r_ic_eq (tgt := 35) d_X6_ordered_22 rfl (fun hc => ?_) (fun hc => ?_)
  · have h := h.1 hc
    exact h
  · have h := h.2 hc
    refine r_iload_n (x := y1) d_X6_ordered_25 rfl ?_
    refine r_iload_n (x := y3) d_X6_ordered_26 rfl ?_
    refine r_ic_eq (tgt := 35) d_X6_ordered_27 rfl (fun hc => ?_) (fun hc => ?_)
    · have h := h.1 hc
      exact h
    · have h := h.2 hc
      refine r_iload_n (x := y2) d_X6_ordered_30 rfl ?_
      refine r_iload_n (x := y3) d_X6_ordered_31 rfl ?_
      refine r_ic_ne (tgt := 37) d_X6_ordered_32 rfl (fun hc => ?_) (fun hc => ?_)
      · have h := h.1 hc
        refine r_iload_n (x := y1) d_X6_ordered_37 rfl ?_
        refine r_iload_n (x := y2) d_X6_ordered_38 rfl ?_
        refine r_ic_ge (tgt := 46) d_X6_ordered_39 rfl (fun hc => ?_) (fun hc => ?_)
        · have h := h.1 hc
          refine r_iload_n (x := y2) d_X6_ordered_46 rfl ?_
          exact h
        · have h := h.2 hc
          refine r_iload_n (x := y1) d_X6_ordered_42 rfl ?_
          refine r_goto (tgt := 47) d_X6_ordered_43 rfl ?_
          exact h
      · have h := h.2 hc
        exact h
theorem v_X6_ordered_35 {l : Launch} {d N : Nat} {Λ : Lay} {P : Int → Mem → Prop} {σ : Mem} {x0 x1 x2 x3 : Int}
    (h : P 0 σ) :
    WI l mX6_ordered d P 35 [(0, x0), (0, x1), (0, x2), (0, x3), (3, 0), (3, 0), (3, 0), (3, 0)] [] N Λ σ := by
  refine r_iconst (x := 0) d_X6_ordered_35 ⟨by decide, by decide⟩ ?_
  exact r_iret d_X6_ordered_36 rfl rfl (Nat.le_refl 0) (Nat.le_refl 0) ⟨_, rfl, rfl, rfl, h⟩
theorem v_X6_ordered_47 {l : Launch} {d N : Nat} {Λ : Lay} {P : Int → Mem → Prop} {σ : Mem} {x0 x1 x2 x3 w0 : Int}
    (h : ((x3 ≤ w0 → WI l mX6_ordered d P 61 [(0, x0), (0, x1), (0, x2), (0, x3), (0, w0), (3, 0), (3, 0), (3, 0)] [(0, x3)] N Λ σ) ∧ (¬ (x3 ≤ w0) → WI l mX6_ordered d P 61 [(0, x0), (0, x1), (0, x2), (0, x3), (0, w0), (3, 0), (3, 0), (3, 0)] [(0, w0)] N Λ σ))) :
    WI l mX6_ordered d P 47 [(0, x0), (0, x1), (0, x2), (0, x3), (3, 0), (3, 0), (3, 0), (3, 0)] [(0, w0)] N Λ σ := by
  refine r_istore (L2 := [(0, x0), (0, x1), (0, x2), (0, x3), (0, w0), (3, 0), (3, 0), (3, 0)]) d_X6_ordered_47 (by decide) rfl rfl ?_
  refine r_iload (x := w0) d_X6_ordered_49 rfl ?_
  refine r_iload_n (x := x3) d_X6_ordered_51 rfl ?_
  refine r_ic_ge (tgt := 60) d_X6_ordered_52 rfl (fun hc => ?_) (fun hc => ?_)
  · have h := h.1 hc
    refine r_iload_n (x := x3) d_X6_ordered_60 rfl ?_
    exact h
  · have h := h.2 hc
    refine r_iload (x := w0) d_X6_ordered_55 rfl ?_
    refine r_goto (tgt := 61) d_X6_ordered_57 rfl ?_
    exact h
theorem v_X6_ordered_61 {l : Launch} {d N : Nat} {Λ : Lay} {P : Int → Mem → Prop} {σ : Mem} {x0 x1 x2 x3 x4 w0 : Int}
    (h : ((x1 ≤ x2 → WI l mX6_ordered d P 73 [(0, x0), (0, x1), (0, x2), (0, x3), (0, w0), (3, 0), (3, 0), (3, 0)] [(0, x2)] N Λ σ) ∧ (¬ (x1 ≤ x2) → WI l mX6_ordered d P 73 [(0, x0), (0, x1), (0, x2), (0, x3), (0, w0), (3, 0), (3, 0), (3, 0)] [(0, x1)] N Λ σ))) :
    WI l mX6_ordered d P 61 [(0, x0), (0, x1), (0, x2), (0, x3), (0, x4), (3, 0), (3, 0), (3, 0)] [(0, w0)] N Λ σ := by
  refine r_istore (L2 := [(0, x0), (0, x1), (0, x2), (0, x3), (0, w0), (3, 0), (3, 0), (3, 0)]) d_X6_ordered_61 (by decide) rfl rfl ?_
  refine r_iload_n (x := x1) d_X6_ordered_63 rfl ?_
  refine r_iload_n (x := x2) d_X6_ordered_64 rfl ?_
  refine r_ic_le (tgt := 72) d_X6_ordered_65 rfl (fun hc => ?_) (fun hc => ?_)
  · have h := h.1 hc
    refine r_iload_n (x := x2) d_X6_ordered_72 rfl ?_
    exact h
  · have h := h.2 hc
    refine r_iload_n (x := x1) d_X6_ordered_68 rfl ?_
    refine r_goto (tgt := 73) d_X6_ordered_69 rfl ?_
    exact h
theorem v_X6_ordered_73 {l : Launch} {d N : Nat} {Λ : Lay} {P : Int → Mem → Prop} {σ : Mem} {x0 x1 x2 x3 x4 w0 : Int}
    (h : ((w0 ≤ x3 → WI l mX6_ordered d P 87 [(0, x0), (0, x1), (0, x2), (0, x3), (0, x4), (0, w0), (3, 0), (3, 0)] [(0, x3)] N Λ σ) ∧ (¬ (w0 ≤ x3) → WI l mX6_ordered d P 87 [(0, x0), (0, x1), (0, x2), (0, x3), (0, x4), (0, w0), (3, 0), (3, 0)] [(0, w0)] N Λ σ))) :
    WI l mX6_ordered d P 73 [(0, x0), (0, x1), (0, x2), (0, x3), (0, x4), (3, 0), (3, 0), (3, 0)] [(0, w0)] N Λ σ := by
  refine r_istore (L2 := [(0, x0), (0, x1), (0, x2), (0, x3), (0, x4), (0, w0), (3, 0), (3, 0)]) d_X6_ordered_73 (by decide) rfl rfl ?_
  refine r_iload (x := w0) d_X6_ordered_75 rfl ?_
  refine r_iload_n (x := x3) d_X6_ordered_77 rfl ?_
  refine r_ic_le (tgt := 86) d_X6_ordered_78 rfl (fun hc => ?_) (fun hc => ?_)
  · have h := h.1 hc
    refine r_iload_n (x := x3) d_X6_ordered_86 rfl ?_
    exact h
  · have h := h.2 hc
    refine r_iload (x := w0) d_X6_ordered_81 rfl ?_
    refine r_goto (tgt := 87) d_X6_ordered_83 rfl ?_
    exact h
theorem v_X6_ordered_87 {l : Launch} {d N : Nat} {Λ : Lay} {P : Int → Mem → Prop} {σ : Mem} {x0 x1 x2 x3 x4 x5 w0 : Int}
    (h : (∀ y1, y1 = (orI (orI (shlI x4 8) (shlI (subI (subI (addI (addI x1 x2) x3) x4) w0) 4)) w0) → ((x1 ≤ x2 → WI l mX6_ordered d P 123 [(0, x0), (0, x1), (0, x2), (0, x3), (0, x4), (0, w0), (0, y1), (3, 0)] [(0, 0)] N Λ σ) ∧ (¬ (x1 ≤ x2) → WI l mX6_ordered d P 123 [(0, x0), (0, x1), (0, x2), (0, x3), (0, x4), (0, w0), (0, y1), (3, 0)] [(0, 1)] N Λ σ)))) :
    WI l mX6_ordered d P 87 [(0, x0), (0, x1), (0, x2), (0, x3), (0, x4), (0, x5), (3, 0), (3, 0)] [(0, w0)] N Λ σ := by
  refine r_istore (L2 := [(0, x0), (0, x1), (0, x2), (0, x3), (0, x4), (0, w0), (3, 0), (3, 0)]) d_X6_ordered_87 (by decide) rfl rfl ?_
  refine r_iload (x := x4) d_X6_ordered_89 rfl ?_
  refine r_bipush (x := 8) d_X6_ordered_91 ⟨by decide, by decide⟩ (by decide) ?_
  refine r_ishl d_X6_ordered_93 ?_
  refine r_iload_n (x := x1) d_X6_ordered_94 rfl ?_
  refine r_iload_n (x := x2) d_X6_ordered_95 rfl ?_
  refine r_iadd d_X6_ordered_96 ?_
  refine r_iload_n (x := x3) d_X6_ordered_97 rfl ?_
  refine r_iadd d_X6_ordered_98 ?_
  refine r_iload (x := x4) d_X6_ordered_99 rfl ?_
  refine r_isub d_X6_ordered_101 ?_
  refine r_iload (x := w0) d_X6_ordered_102 rfl ?_
  refine r_isub d_X6_ordered_104 ?_
  refine r_iconst (x := 4) d_X6_ordered_105 ⟨by decide, by decide⟩ ?_
  refine r_ishl d_X6_ordered_106 ?_
  refine r_ior d_X6_ordered_107 ?_
  refine r_iload (x := w0) d_X6_ordered_108 rfl ?_
  refine r_ior d_X6_ordered_110 ?_
  refine r_nm (fun y1 ey1 => ?_)
  have h := h y1 ey1
  refine r_istore (L2 := [(0, x0), (0, x1), (0, x2), (0, x3), (0, x4), (0, w0), (0, y1), (3, 0)]) d_X6_ordered_111 (by decide) rfl rfl ?_
  refine r_iload_n (x := x1) d_X6_ordered_113 rfl ?_
  refine r_iload_n (x := x2) d_X6_ordered_114 rfl ?_
  refine r_ic_le (tgt := 122) d_X6_ordered_115 rfl (fun hc => ?_) (fun hc => ?_)
  · have h := h.1 hc
    refine r_iconst (x := 0) d_X6_ordered_122 ⟨by decide, by decide⟩ ?_
    exact h
  · have h := h.2 hc
    refine r_iconst (x := 1) d_X6_ordered_118 ⟨by decide, by decide⟩ ?_
    refine r_goto (tgt := 123) d_X6_ordered_119 rfl ?_
    exact h
theorem v_X6_ordered_123 {l : Launch} {d N : Nat} {Λ : Lay} {P : Int → Mem → Prop} {σ : Mem} {x0 x1 x2 x3 x4 x5 x6 w0 : Int}
    (h : ((x1 ≤ x3 → WI l mX6_ordered d P 133 [(0, x0), (0, x1), (0, x2), (0, x3), (0, x4), (0, x5), (0, x6), (3, 0)] [(0, 0), (0, w0)] N Λ σ) ∧ (¬ (x1 ≤ x3) → WI l mX6_ordered d P 133 [(0, x0), (0, x1), (0, x2), (0, x3), (0, x4), (0, x5), (0, x6), (3, 0)] [(0, 1), (0, w0)] N Λ σ))) :
    WI l mX6_ordered d P 123 [(0, x0), (0, x1), (0, x2), (0, x3), (0, x4), (0, x5), (0, x6), (3, 0)] [(0, w0)] N Λ σ := by
  refine r_iload_n (x := x1) d_X6_ordered_123 rfl ?_
  refine r_iload_n (x := x3) d_X6_ordered_124 rfl ?_
  refine r_ic_le (tgt := 132) d_X6_ordered_125 rfl (fun hc => ?_) (fun hc => ?_)
  · have h := h.1 hc
    refine r_iconst (x := 0) d_X6_ordered_132 ⟨by decide, by decide⟩ ?_
    exact h
  · have h := h.2 hc
    refine r_iconst (x := 1) d_X6_ordered_128 ⟨by decide, by decide⟩ ?_
    refine r_goto (tgt := 133) d_X6_ordered_129 rfl ?_
    exact h
theorem v_X6_ordered_133 {l : Launch} {d N : Nat} {Λ : Lay} {P : Int → Mem → Prop} {σ : Mem} {x0 x1 x2 x3 x4 x5 x6 w0 w1 : Int}
    (h : ((x2 ≤ x3 → WI l mX6_ordered d P 144 [(0, x0), (0, x1), (0, x2), (0, x3), (0, x4), (0, x5), (0, x6), (3, 0)] [(0, 0), (0, (addI w1 w0))] N Λ σ) ∧ (¬ (x2 ≤ x3) → WI l mX6_ordered d P 144 [(0, x0), (0, x1), (0, x2), (0, x3), (0, x4), (0, x5), (0, x6), (3, 0)] [(0, 1), (0, (addI w1 w0))] N Λ σ))) :
    WI l mX6_ordered d P 133 [(0, x0), (0, x1), (0, x2), (0, x3), (0, x4), (0, x5), (0, x6), (3, 0)] [(0, w0), (0, w1)] N Λ σ := by
  refine r_iadd d_X6_ordered_133 ?_
  refine r_iload_n (x := x2) d_X6_ordered_134 rfl ?_
  refine r_iload_n (x := x3) d_X6_ordered_135 rfl ?_
  refine r_ic_le (tgt := 143) d_X6_ordered_136 rfl (fun hc => ?_) (fun hc => ?_)
  · have h := h.1 hc
    refine r_iconst (x := 0) d_X6_ordered_143 ⟨by decide, by decide⟩ ?_
    exact h
  · have h := h.2 hc
    refine r_iconst (x := 1) d_X6_ordered_139 ⟨by decide, by decide⟩ ?_
    refine r_goto (tgt := 144) d_X6_ordered_140 rfl ?_
    exact h
theorem v_X6_ordered_144 {l : Launch} {d N : Nat} {Λ : Lay} {P : Int → Mem → Prop} {σ : Mem} {x0 x1 x2 x3 x4 x5 x6 w0 w1 : Int}
    (h : (∀ y1, y1 = (addI w1 w0) → ((¬ (remI y1 2) = 0 → WI l mX6_ordered d P 162 [(0, x0), (0, x1), (0, x2), (0, x3), (0, x4), (0, x5), (0, x6), (0, y1)] [(0, (negI x6))] N Λ σ) ∧ ((remI y1 2) = 0 → WI l mX6_ordered d P 162 [(0, x0), (0, x1), (0, x2), (0, x3), (0, x4), (0, x5), (0, x6), (0, y1)] [(0, x6)] N Λ σ)))) :
    WI l mX6_ordered d P 144 [(0, x0), (0, x1), (0, x2), (0, x3), (0, x4), (0, x5), (0, x6), (3, 0)] [(0, w0), (0, w1)] N Λ σ := by
  refine r_iadd d_X6_ordered_144 ?_
  refine r_nm (fun y1 ey1 => ?_)
  have h := h y1 ey1
  refine r_istore (L2 := [(0, x0), (0, x1), (0, x2), (0, x3), (0, x4), (0, x5), (0, x6), (0, y1)]) d_X6_ordered_145 (by decide) rfl rfl ?_
  refine r_iload (x := y1) d_X6_ordered_147 rfl ?_
  refine r_iconst (x := 2) d_X6_ordered_149 ⟨by decide, by decide⟩ ?_
  refine r_irem d_X6_ordered_150 (by decide) ?_
  refine r_if_ne (tgt := 159) d_X6_ordered_151 rfl (fun hc => ?_) (fun hc => ?_)
  · have h := h.1 hc
    refine r_iload (x := x6) d_X6_ordered_159 rfl ?_
    refine r_ineg d_X6_ordered_161 ?_
    exact h
  · have h := h.2 hc
    refine r_iload (x := x6) d_X6_ordered_154 rfl ?_
    refine r_goto (tgt := 162) d_X6_ordered_156 rfl ?_
    exact h
theorem v_X6_ordered_162 {l : Launch} {d N : Nat} {Λ : Lay} {P : Int → Mem → Prop} {σ : Mem} {x0 x1 x2 x3 x4 x5 x6 x7 w0 : Int}
    (h : P w0 σ) :
    WI l mX6_ordered d P 162 [(0, x0), (0, x1), (0, x2), (0, x3), (0, x4), (0, x5), (0, x6), (0, x7)] [(0, w0)] N Λ σ := by
  exact r_iret d_X6_ordered_162 rfl rfl (Nat.le_refl 0) (Nat.le_refl 0) ⟨_, rfl, rfl, rfl, h⟩
theorem v_X1_signOf_0 {l : Launch} {d N : Nat} {Λ : Lay} {P : Int → Mem → Prop} {σ : Mem} {x1 x2 x3 t t_row : Int} (o_t : Ob N Λ t 11 6) (f_t_row : (Λ t).2.2 2 = t_row) (h0d : 1 ≤ d)
    (h : (Ix N Λ t_row 0 x1 ∧ (Ix N Λ t_row 0 x2 ∧ (Ix N Λ t_row 0 x3 ∧ (CI l mX6_ordered (d - 1) [(0, (orI (orI (shlI (σ t_row x1) 8) (shlI (σ t_row x2) 4)) (σ t_row x3)))] N Λ σ (fun v2 σ1 => ((0 ≤ v2 → P 1 σ1) ∧ (¬ (0 ≤ v2) → P (-1) σ1)))))))) :
    WI l mX1_signOf d P 0 [(2, t), (0, x1), (0, x2), (0, x3)] [] N Λ σ := by
  have hd_1 : 1 ≤ d := Nat.le_trans (by decide) h0d
  refine r_aload_n (x := t) d_X1_signOf_0 rfl o_t.1 ?_
  refine r_getf (j := 2) (t := 2) (x := t_row) d_X1_signOf_1 kX1 (by decide) fl_X1_19 o_t.1 o_t.2.1 o_t.2.2.1 o_t.2.2.2 rfl f_t_row ?_
  refine r_iload_n (x := x1) d_X1_signOf_4 rfl ?_
  refine x_iald d_X1_signOf_5 h.1 ?_
  have h := h.2
  refine r_aload_n (x := t) d_X1_signOf_6 rfl o_t.1 ?_
  refine r_getf (j := 2) (t := 2) (x := t_row) d_X1_signOf_7 kX1 (by decide) fl_X1_19 o_t.1 o_t.2.1 o_t.2.2.1 o_t.2.2.2 rfl f_t_row ?_
  refine r_iload_n (x := x2) d_X1_signOf_10 rfl ?_
  refine x_iald d_X1_signOf_11 h.1 ?_
  have h := h.2
  refine r_aload_n (x := t) d_X1_signOf_12 rfl o_t.1 ?_
  refine r_getf (j := 2) (t := 2) (x := t_row) d_X1_signOf_13 kX1 (by decide) fl_X1_19 o_t.1 o_t.2.1 o_t.2.2.1 o_t.2.2.2 rfl f_t_row ?_
  refine r_iload_n (x := x3) d_X1_signOf_16 rfl ?_
  refine x_iald d_X1_signOf_17 h.1 ?_
  have h := h.2
  refine x_callSI (Y2 := mX6_row) (As := [(0, (σ t_row x1)), (0, (σ t_row x2)), (0, (σ t_row x3))]) (S := []) d_X1_signOf_18 ok_mX6_row ml_X1_122 rfl (Nat.le_of_ble_eq_true rfl) (Nat.le_of_ble_eq_true rfl) rfl hd_1 (c_X6_row (v_X6_row_0 ?_))
  show WP l mX1_signOf (rm d 0 0) noX _ 0 0 21 [(2, t), (0, x1), (0, x2), (0, x3)] [(0, (orI (orI (shlI (σ t_row x1) 8) (shlI (σ t_row x2) 4)) (σ t_row x3)))] N Λ σ
  refine x_callSI (Y2 := mX6_ordered) (As := [(0, (orI (orI (shlI (σ t_row x1) 8) (shlI (σ t_row x2) 4)) (σ t_row x3)))]) (S := []) d_X1_signOf_21 ok_mX6_ordered ml_X1_124 rfl (Nat.le_of_ble_eq_true rfl) (Nat.le_of_ble_eq_true rfl) rfl hd_1 (CI.mono h (fun v2 σ1 h => ?_))
  refine r_if_ge (tgt := 31) d_X1_signOf_24 rfl (fun hc => ?_) (fun hc => ?_)
  · have h := h.1 hc
    refine r_iconst (x := 1) d_X1_signOf_31 ⟨by decide, by decide⟩ ?_
    exact r_iret d_X1_signOf_32 rfl rfl (Nat.le_refl 0) (Nat.le_refl 0) ⟨_, rfl, rfl, rfl, h⟩
  · have h := h.2 hc
    refine r_iconst (x := (-1)) d_X1_signOf_27 ⟨by decide, by decide⟩ ?_
    refine r_goto (tgt := 32) d_X1_signOf_28 rfl ?_
    exact r_iret d_X1_signOf_32 rfl rfl (Nat.le_refl 0) (Nat.le_refl 0) ⟨_, rfl, rfl, rfl, h⟩
theorem v_X1_besideFirst_0 {l : Launch} {d N : Nat} {Λ : Lay} {P : Int → Mem → Prop} {σ : Mem} {x1 x2 x3 t t_row : Int} (o_t : Ob N Λ t 11 6) (f_t_row : (Λ t).2.2 2 = t_row)
    (h : (Ix N Λ t_row 0 x1 ∧ (Ix N Λ t_row 0 x2 ∧ (Ix N Λ t_row 0 x3 ∧ (∀ y1, y1 = (orI (orI (shlI 1 (σ t_row x1)) (shlI 1 (σ t_row x2))) (shlI 1 (σ t_row x3))) → ((¬ (andI y1 1) = 1 → P (shrI (subI 63 y1) 1) σ) ∧ ((andI y1 1) = 1 → P (shrI y1 1) σ))))))) :
    WI l mX1_besideFirst d P 0 [(2, t), (0, x1), (0, x2), (0, x3), (3, 0)] [] N Λ σ := by
  refine r_iconst (x := 1) d_X1_besideFirst_0 ⟨by decide, by decide⟩ ?_
  refine r_aload_n (x := t) d_X1_besideFirst_1 rfl o_t.1 ?_
  refine r_getf (j := 2) (t := 2) (x := t_row) d_X1_besideFirst_2 kX1 (by decide) fl_X1_19 o_t.1 o_t.2.1 o_t.2.2.1 o_t.2.2.2 rfl f_t_row ?_
  refine r_iload_n (x := x1) d_X1_besideFirst_5 rfl ?_
  refine x_iald d_X1_besideFirst_6 h.1 ?_
  have h := h.2
  refine r_ishl d_X1_besideFirst_7 ?_
  refine r_iconst (x := 1) d_X1_besideFirst_8 ⟨by decide, by decide⟩ ?_
  refine r_aload_n (x := t) d_X1_besideFirst_9 rfl o_t.1 ?_
  refine r_getf (j := 2) (t := 2) (x := t_row) d_X1_besideFirst_10 kX1 (by decide) fl_X1_19 o_t.1 o_t.2.1 o_t.2.2.1 o_t.2.2.2 rfl f_t_row ?_
  refine r_iload_n (x := x2) d_X1_besideFirst_13 rfl ?_
  refine x_iald d_X1_besideFirst_14 h.1 ?_
  have h := h.2
  refine r_ishl d_X1_besideFirst_15 ?_
  refine r_ior d_X1_besideFirst_16 ?_
  refine r_iconst (x := 1) d_X1_besideFirst_17 ⟨by decide, by decide⟩ ?_
  refine r_aload_n (x := t) d_X1_besideFirst_18 rfl o_t.1 ?_
  refine r_getf (j := 2) (t := 2) (x := t_row) d_X1_besideFirst_19 kX1 (by decide) fl_X1_19 o_t.1 o_t.2.1 o_t.2.2.1 o_t.2.2.2 rfl f_t_row ?_
  refine r_iload_n (x := x3) d_X1_besideFirst_22 rfl ?_
  refine x_iald d_X1_besideFirst_23 h.1 ?_
  have h := h.2
  refine r_ishl d_X1_besideFirst_24 ?_
  refine r_ior d_X1_besideFirst_25 ?_
  refine r_nm (fun y1 ey1 => ?_)
  have h := h y1 ey1
  refine r_istore (L2 := [(2, t), (0, x1), (0, x2), (0, x3), (0, y1)]) d_X1_besideFirst_26 (by decide) rfl rfl ?_
  refine r_iload (x := y1) d_X1_besideFirst_28 rfl ?_
  refine r_iconst (x := 1) d_X1_besideFirst_30 ⟨by decide, by decide⟩ ?_
  refine r_iand d_X1_besideFirst_31 ?_
  refine r_iconst (x := 1) d_X1_besideFirst_32 ⟨by decide, by decide⟩ ?_
  refine r_ic_ne (tgt := 41) d_X1_besideFirst_33 rfl (fun hc => ?_) (fun hc => ?_)
  · have h := h.1 hc
    refine r_bipush (x := 63) d_X1_besideFirst_41 ⟨by decide, by decide⟩ (by decide) ?_
    refine r_iload (x := y1) d_X1_besideFirst_43 rfl ?_
    refine r_isub d_X1_besideFirst_45 ?_
    refine r_iconst (x := 1) d_X1_besideFirst_46 ⟨by decide, by decide⟩ ?_
    refine r_ishr d_X1_besideFirst_47 ?_
    exact r_iret d_X1_besideFirst_48 rfl rfl (Nat.le_refl 0) (Nat.le_refl 0) ⟨_, rfl, rfl, rfl, h⟩
  · have h := h.2 hc
    refine r_iload (x := y1) d_X1_besideFirst_36 rfl ?_
    refine r_goto (tgt := 46) d_X1_besideFirst_38 rfl ?_
    refine r_iconst (x := 1) d_X1_besideFirst_46 ⟨by decide, by decide⟩ ?_
    refine r_ishr d_X1_besideFirst_47 ?_
    exact r_iret d_X1_besideFirst_48 rfl rfl (Nat.le_refl 0) (Nat.le_refl 0) ⟨_, rfl, rfl, rfl, h⟩
theorem v_X1_isMultiple_0 {l : Launch} {d N : Nat} {Λ : Lay} {P : Int → Mem → Prop} {σ : Mem} {t t_row : Int} (o_t : Ob N Λ t 11 6) (f_t_row : (Λ t).2.2 2 = t_row) (h0d : 2 ≤ d)
    (h : (Ix N Λ t_row 0 0 ∧ (Ix N Λ t_row 0 2 ∧ (Ix N Λ t_row 0 3 ∧ (CI l mX6_ordered (d - 1 - 1) [(0, (orI (orI (shlI (σ t_row 0) 8) (shlI (σ t_row 2) 4)) (σ t_row 3)))] N Λ σ (fun v1 σ2 => ((0 ≤ v1 → (Ix N Λ t_row 0 1 ∧ (Ix N Λ t_row 0 4 ∧ (Ix N Λ t_row 0 5 ∧ (CI l mX6_ordered (d - 1 - 1) [(0, (orI (orI (shlI (σ2 t_row 1) 8) (shlI (σ2 t_row 4) 4)) (σ2 t_row 5)))] N Λ σ2 (fun v3 σ4 => ((0 ≤ v3 → (∀ y5, y5 = (mulI 1 1) → (Ix N Λ t_row 0 1 ∧ (Ix N Λ t_row 0 2 ∧ (Ix N Λ t_row 0 3 ∧ (CI l mX6_ordered (d - 1 - 1) [(0, (orI (orI (shlI (σ4 t_row 1) 8) (shlI (σ4 t_row 2) 4)) (σ4 t_row 3)))] N Λ σ4 (fun v6 σ7 => ((0 ≤ v6 → (Ix N Λ t_row 0 0 ∧ (Ix N Λ t_row 0 4 ∧ (Ix N Λ t_row 0 5 ∧ (CI l mX6_ordered (d - 1 - 1) [(0, (orI (orI (shlI (σ7 t_row 0) 8) (shlI (σ7 t_row 4) 4)) (σ7 t_row 5)))] N Λ σ7 (fun v8 σ9 => ((0 ≤ v8 → (∀ y10, y10 = (mulI 1 1) → (Ix N Λ t_row 0 0 ∧ (Ix N Λ t_row 0 2 ∧ (Ix N Λ t_row 0 3 ∧ (∀ y11, y11 = (orI (orI (shlI 1 (σ9 t_row 0)) (shlI 1 (σ9 t_row 2))) (shlI 1 (σ9 t_row 3))) → ((¬ (andI y11 1) = 1 → (∀ y12, y12 = (mulI 5 (shrI (subI 63 y11) 1)) → (Ix N Λ t_row 0 1 ∧ (Ix N Λ t_row 0 2 ∧ (Ix N Λ t_row 0 3 ∧ (∀ y13, y13 = (orI (orI (shlI 1 (σ9 t_row 1)) (shlI 1 (σ9 t_row 2))) (shlI 1 (σ9 t_row 3))) → ((¬ (andI y13 1) = 1 → (∀ y14, y14 = (mulI 5 (shrI (subI 63 y13) 1)) → WI l mX1_isMultiple d P 59 [(2, t), (0, y5), (0, y10), (0, y12), (0, y14), (1, 0), (3, 0), (0, 0), (3, 0)] [] N Λ σ9)) ∧ ((andI y13 1) = 1 → (∀ y15, y15 = (mulI 5 (shrI y13 1)) → WI l mX1_isMultiple d P 59 [(2, t), (0, y5), (0, y10), (0, y12), (0, y15), (1, 0), (3, 0), (0, 0), (3, 0)] [] N Λ σ9))))))))) ∧ ((andI y11 1) = 1 → (∀ y16, y16 = (mulI 5 (shrI y11 1)) → (Ix N Λ t_row 0 1 ∧ (Ix N Λ t_row 0 2 ∧ (Ix N Λ t_row 0 3 ∧ (∀ y17, y17 = (orI (orI (shlI 1 (σ9 t_row 1)) (shlI 1 (σ9 t_row 2))) (shlI 1 (σ9 t_row 3))) → ((¬ (andI y17 1) = 1 → (∀ y18, y18 = (mulI 5 (shrI (subI 63 y17) 1)) → WI l mX1_isMultiple d P 59 [(2, t), (0, y5), (0, y10), (0, y16), (0, y18), (1, 0), (3, 0), (0, 0), (3, 0)] [] N Λ σ9)) ∧ ((andI y17 1) = 1 → (∀ y19, y19 = (mulI 5 (shrI y17 1)) → WI l mX1_isMultiple d P 59 [(2, t), (0, y5), (0, y10), (0, y16), (0, y19), (1, 0), (3, 0), (0, 0), (3, 0)] [] N Λ σ9)))))))))))))))) ∧ (¬ (0 ≤ v8) → (∀ y20, y20 = (mulI 1 (-1)) → (Ix N Λ t_row 0 0 ∧ (Ix N Λ t_row 0 2 ∧ (Ix N Λ t_row 0 3 ∧ (∀ y21, y21 = (orI (orI (shlI 1 (σ9 t_row 0)) (shlI 1 (σ9 t_row 2))) (shlI 1 (σ9 t_row 3))) → ((¬ (andI y21 1) = 1 → (∀ y22, y22 = (mulI 5 (shrI (subI 63 y21) 1)) → (Ix N Λ t_row 0 1 ∧ (Ix N Λ t_row 0 2 ∧ (Ix N Λ t_row 0 3 ∧ (∀ y23, y23 = (orI (orI (shlI 1 (σ9 t_row 1)) (shlI 1 (σ9 t_row 2))) (shlI 1 (σ9 t_row 3))) → ((¬ (andI y23 1) = 1 → (∀ y24, y24 = (mulI 5 (shrI (subI 63 y23) 1)) → WI l mX1_isMultiple d P 59 [(2, t), (0, y5), (0, y20), (0, y22), (0, y24), (1, 0), (3, 0), (0, 0), (3, 0)] [] N Λ σ9)) ∧ ((andI y23 1) = 1 → (∀ y25, y25 = (mulI 5 (shrI y23 1)) → WI l mX1_isMultiple d P 59 [(2, t), (0, y5), (0, y20), (0, y22), (0, y25), (1, 0), (3, 0), (0, 0), (3, 0)] [] N Λ σ9))))))))) ∧ ((andI y21 1) = 1 → (∀ y26, y26 = (mulI 5 (shrI y21 1)) → (Ix N Λ t_row 0 1 ∧ (Ix N Λ t_row 0 2 ∧ (Ix N Λ t_row 0 3 ∧ (∀ y27, y27 = (orI (orI (shlI 1 (σ9 t_row 1)) (shlI 1 (σ9 t_row 2))) (shlI 1 (σ9 t_row 3))) → ((¬ (andI y27 1) = 1 → (∀ y28, y28 = (mulI 5 (shrI (subI 63 y27) 1)) → WI l mX1_isMultiple d P 59 [(2, t), (0, y5), (0, y20), (0, y26), (0, y28), (1, 0), (3, 0), (0, 0), (3, 0)] [] N Λ σ9)) ∧ ((andI y27 1) = 1 → (∀ y29, y29 = (mulI 5 (shrI y27 1)) → WI l mX1_isMultiple d P 59 [(2, t), (0, y5), (0, y20), (0, y26), (0, y29), (1, 0), (3, 0), (0, 0), (3, 0)] [] N Λ σ9))))))))))))))))))))))) ∧ (¬ (0 ≤ v6) → (Ix N Λ t_row 0 0 ∧ (Ix N Λ t_row 0 4 ∧ (Ix N Λ t_row 0 5 ∧ (CI l mX6_ordered (d - 1 - 1) [(0, (orI (orI (shlI (σ7 t_row 0) 8) (shlI (σ7 t_row 4) 4)) (σ7 t_row 5)))] N Λ σ7 (fun v30 σ31 => ((0 ≤ v30 → (∀ y32, y32 = (mulI (-1) 1) → (Ix N Λ t_row 0 0 ∧ (Ix N Λ t_row 0 2 ∧ (Ix N Λ t_row 0 3 ∧ (∀ y33, y33 = (orI (orI (shlI 1 (σ31 t_row 0)) (shlI 1 (σ31 t_row 2))) (shlI 1 (σ31 t_row 3))) → ((¬ (andI y33 1) = 1 → (∀ y34, y34 = (mulI 5 (shrI (subI 63 y33) 1)) → (Ix N Λ t_row 0 1 ∧ (Ix N Λ t_row 0 2 ∧ (Ix N Λ t_row 0 3 ∧ (∀ y35, y35 = (orI (orI (shlI 1 (σ31 t_row 1)) (shlI 1 (σ31 t_row 2))) (shlI 1 (σ31 t_row 3))) → ((¬ (andI y35 1) = 1 → (∀ y36, y36 = (mulI 5 (shrI (subI 63 y35) 1)) → WI l mX1_isMultiple d P 59 [(2, t), (0, y5), (0, y32), (0, y34), (0, y36), (1, 0), (3, 0), (0, 0), (3, 0)] [] N Λ σ31)) ∧ ((andI y35 1) = 1 → (∀ y37, y37 = (mulI 5 (shrI y35 1)) → WI l mX1_isMultiple d P 59 [(2, t), (0, y5), (0, y32), (0, y34), (0, y37), (1, 0), (3, 0), (0, 0), (3, 0)] [] N Λ σ31))))))))) ∧ ((andI y33 1) = 1 → (∀ y38, y38 = (mulI 5 (shrI y33 1)) → (Ix N Λ t_row 0 1 ∧ (Ix N Λ t_row 0 2 ∧ (Ix N Λ t_row 0 3 ∧ (∀ y39, y39 = (orI (orI (shlI 1 (σ31 t_row 1)) (shlI 1 (σ31 t_row 2))) (shlI 1 (σ31 t_row 3))) → ((¬ (andI y39 1) = 1 → (∀ y40, y40 = (mulI 5 (shrI (subI 63 y39) 1)) → WI l mX1_isMultiple d P 59 [(2, t), (0, y5), (0, y32), (0, y38), (0, y40), (1, 0), (3, 0), (0, 0), (3, 0)] [] N Λ σ31)) ∧ ((andI y39 1) = 1 → (∀ y41, y41 = (mulI 5 (shrI y39 1)) → WI l mX1_isMultiple d P 59 [(2, t), (0, y5), (0, y32), (0, y38), (0, y41), (1, 0), (3, 0), (0, 0), (3, 0)] [] N Λ σ31)))))))))))))))) ∧ (¬ (0 ≤ v30) → (∀ y42, y42 = (mulI (-1) (-1)) → (Ix N Λ t_row 0 0 ∧ (Ix N Λ t_row 0 2 ∧ (Ix N Λ t_row 0 3 ∧ (∀ y43, y43 = (orI (orI (shlI 1 (σ31 t_row 0)) (shlI 1 (σ31 t_row 2))) (shlI 1 (σ31 t_row 3))) → ((¬ (andI y43 1) = 1 → (∀ y44, y44 = (mulI 5 (shrI (subI 63 y43) 1)) → (Ix N Λ t_row 0 1 ∧ (Ix N Λ t_row 0 2 ∧ (Ix N Λ t_row 0 3 ∧ (∀ y45, y45 = (orI (orI (shlI 1 (σ31 t_row 1)) (shlI 1 (σ31 t_row 2))) (shlI 1 (σ31 t_row 3))) → ((¬ (andI y45 1) = 1 → (∀ y46, y46 = (mulI 5 (shrI (subI 63 y45) 1)) → WI l mX1_isMultiple d P 59 [(2, t), (0, y5), (0, y42), (0, y44), (0, y46), (1, 0), (3, 0), (0, 0), (3, 0)] [] N Λ σ31)) ∧ ((andI y45 1) = 1 → (∀ y47, y47 = (mulI 5 (shrI y45 1)) → WI l mX1_isMultiple d P 59 [(2, t), (0, y5), (0, y42), (0, y44), (0, y47), (1, 0), (3, 0), (0, 0), (3, 0)] [] N Λ σ31))))))))) ∧ ((andI y43 1) = 1 → (∀ y48, y48 = (mulI 5 (shrI y43 1)) → (Ix N Λ t_row 0 1 ∧ (Ix N Λ t_row 0 2 ∧ (Ix N Λ t_row 0 3 ∧ (∀ y49, y49 = (orI (orI (shlI 1 (σ31 t_row 1)) (shlI 1 (σ31 t_row 2))) (shlI 1 (σ31 t_row 3))) → ((¬ (andI y49 1) = 1 → (∀ y50, y50 = (mulI 5 (shrI (subI 63 y49) 1)) → WI l mX1_isMultiple d P 59 [(2, t), (0, y5), (0, y42), (0, y48), (0, y50), (1, 0), (3, 0), (0, 0), (3, 0)] [] N Λ σ31)) ∧ ((andI y49 1) = 1 → (∀ y51, y51 = (mulI 5 (shrI y49 1)) → WI l mX1_isMultiple d P 59 [(2, t), (0, y5), (0, y42), (0, y48), (0, y51), (1, 0), (3, 0), (0, 0), (3, 0)] [] N Λ σ31))))))))))))))))))))))))))))))) ∧ (¬ (0 ≤ v3) → (∀ y52, y52 = (mulI 1 (-1)) → (Ix N Λ t_row 0 1 ∧ (Ix N Λ t_row 0 2 ∧ (Ix N Λ t_row 0 3 ∧ (CI l mX6_ordered (d - 1 - 1) [(0, (orI (orI (shlI (σ4 t_row 1) 8) (shlI (σ4 t_row 2) 4)) (σ4 t_row 3)))] N Λ σ4 (fun v53 σ54 => ((0 ≤ v53 → (Ix N Λ t_row 0 0 ∧ (Ix N Λ t_row 0 4 ∧ (Ix N Λ t_row 0 5 ∧ (CI l mX6_ordered (d - 1 - 1) [(0, (orI (orI (shlI (σ54 t_row 0) 8) (shlI (σ54 t_row 4) 4)) (σ54 t_row 5)))] N Λ σ54 (fun v55 σ56 => ((0 ≤ v55 → (∀ y57, y57 = (mulI 1 1) → (Ix N Λ t_row 0 0 ∧ (Ix N Λ t_row 0 2 ∧ (Ix N Λ t_row 0 3 ∧ (∀ y58, y58 = (orI (orI (shlI 1 (σ56 t_row 0)) (shlI 1 (σ56 t_row 2))) (shlI 1 (σ56 t_row 3))) → ((¬ (andI y58 1) = 1 → (∀ y59, y59 = (mulI 5 (shrI (subI 63 y58) 1)) → (Ix N Λ t_row 0 1 ∧ (Ix N Λ t_row 0 2 ∧ (Ix N Λ t_row 0 3 ∧ (∀ y60, y60 = (orI (orI (shlI 1 (σ56 t_row 1)) (shlI 1 (σ56 t_row 2))) (shlI 1 (σ56 t_row 3))) → ((¬ (andI y60 1) = 1 → (∀ y61, y61 = (mulI 5 (shrI (subI 63 y60) 1)) → WI l mX1_isMultiple d P 59 [(2, t), (0, y52), (0, y57), (0, y59), (0, y61), (1, 0), (3, 0), (0, 0), (3, 0)] [] N Λ σ56)) ∧ ((andI y60 1) = 1 → (∀ y62, y62 = (mulI 5 (shrI y60 1)) → WI l mX1_isMultiple d P 59 [(2, t), (0, y52), (0, y57), (0, y59), (0, y62), (1, 0), (3, 0), (0, 0), (3, 0)] [] N Λ σ56))))))))) ∧ ((andI y58 1) = 1 → (∀ y63, y63 = (mulI 5 (shrI y58 1)) → (Ix N Λ t_row 0 1 ∧ (Ix N Λ t_row 0 2 ∧ (Ix N Λ t_row 0 3 ∧ (∀ y64, y64 = (orI (orI (shlI 1 (σ56 t_row 1)) (shlI 1 (σ56 t_row 2))) (shlI 1 (σ56 t_row 3))) → ((¬ (andI y64 1) = 1 → (∀ y65, y65 = (mulI 5 (shrI (subI 63 y64) 1)) → WI l mX1_isMultiple d P 59 [(2, t), (0, y52), (0, y57), (0, y63), (0, y65), (1, 0), (3, 0), (0, 0), (3, 0)] [] N Λ σ56)) ∧ ((andI y64 1) = 1 → (∀ y66, y66 = (mulI 5 (shrI y64 1)) → WI l mX1_isMultiple d P 59 [(2, t), (0, y52), (0, y57), (0, y63), (0, y66), (1, 0), (3, 0), (0, 0), (3, 0)] [] N Λ σ56)))))))))))))))) ∧ (¬ (0 ≤ v55) → (∀ y67, y67 = (mulI 1 (-1)) → (Ix N Λ t_row 0 0 ∧ (Ix N Λ t_row 0 2 ∧ (Ix N Λ t_row 0 3 ∧ (∀ y68, y68 = (orI (orI (shlI 1 (σ56 t_row 0)) (shlI 1 (σ56 t_row 2))) (shlI 1 (σ56 t_row 3))) → ((¬ (andI y68 1) = 1 → (∀ y69, y69 = (mulI 5 (shrI (subI 63 y68) 1)) → (Ix N Λ t_row 0 1 ∧ (Ix N Λ t_row 0 2 ∧ (Ix N Λ t_row 0 3 ∧ (∀ y70, y70 = (orI (orI (shlI 1 (σ56 t_row 1)) (shlI 1 (σ56 t_row 2))) (shlI 1 (σ56 t_row 3))) → ((¬ (andI y70 1) = 1 → (∀ y71, y71 = (mulI 5 (shrI (subI 63 y70) 1)) → WI l mX1_isMultiple d P 59 [(2, t), (0, y52), (0, y67), (0, y69), (0, y71), (1, 0), (3, 0), (0, 0), (3, 0)] [] N Λ σ56)) ∧ ((andI y70 1) = 1 → (∀ y72, y72 = (mulI 5 (shrI y70 1)) → WI l mX1_isMultiple d P 59 [(2, t), (0, y52), (0, y67), (0, y69), (0, y72), (1, 0), (3, 0), (0, 0), (3, 0)] [] N Λ σ56))))))))) ∧ ((andI y68 1) = 1 → (∀ y73, y73 = (mulI 5 (shrI y68 1)) → (Ix N Λ t_row 0 1 ∧ (Ix N Λ t_row 0 2 ∧ (Ix N Λ t_row 0 3 ∧ (∀ y74, y74 = (orI (orI (shlI 1 (σ56 t_row 1)) (shlI 1 (σ56 t_row 2))) (shlI 1 (σ56 t_row 3))) → ((¬ (andI y74 1) = 1 → (∀ y75, y75 = (mulI 5 (shrI (subI 63 y74) 1)) → WI l mX1_isMultiple d P 59 [(2, t), (0, y52), (0, y67), (0, y73), (0, y75), (1, 0), (3, 0), (0, 0), (3, 0)] [] N Λ σ56)) ∧ ((andI y74 1) = 1 → (∀ y76, y76 = (mulI 5 (shrI y74 1)) → WI l mX1_isMultiple d P 59 [(2, t), (0, y52), (0, y67), (0, y73), (0, y76), (1, 0), (3, 0), (0, 0), (3, 0)] [] N Λ σ56))))))))))))))))))))))) ∧ (¬ (0 ≤ v53) → (Ix N Λ t_row 0 0 ∧ (Ix N Λ t_row 0 4 ∧ (Ix N Λ t_row 0 5 ∧ (CI l mX6_ordered (d - 1 - 1) [(0, (orI (orI (shlI (σ54 t_row 0) 8) (shlI (σ54 t_row 4) 4)) (σ54 t_row 5)))] N Λ σ54 (fun v77 σ78 => ((0 ≤ v77 → (∀ y79, y79 = (mulI (-1) 1) → (Ix N Λ t_row 0 0 ∧ (Ix N Λ t_row 0 2 ∧ (Ix N Λ t_row 0 3 ∧ (∀ y80, y80 = (orI (orI (shlI 1 (σ78 t_row 0)) (shlI 1 (σ78 t_row 2))) (shlI 1 (σ78 t_row 3))) → ((¬ (andI y80 1) = 1 → (∀ y81, y81 = (mulI 5 (shrI (subI 63 y80) 1)) → (Ix N Λ t_row 0 1 ∧ (Ix N Λ t_row 0 2 ∧ (Ix N Λ t_row 0 3 ∧ (∀ y82, y82 = (orI (orI (shlI 1 (σ78 t_row 1)) (shlI 1 (σ78 t_row 2))) (shlI 1 (σ78 t_row 3))) → ((¬ (andI y82 1) = 1 → (∀ y83, y83 = (mulI 5 (shrI (subI 63 y82) 1)) → WI l mX1_isMultiple d P 59 [(2, t), (0, y52), (0, y79), (0, y81), (0, y83), (1, 0), (3, 0), (0, 0), (3, 0)] [] N Λ σ78)) ∧ ((andI y82 1) = 1 → (∀ y84, y84 = (mulI 5 (shrI y82 1)) → WI l mX1_isMultiple d P 59 [(2, t), (0, y52), (0, y79), (0, y81), (0, y84), (1, 0), (3, 0), (0, 0), (3, 0)] [] N Λ σ78))))))))) ∧ ((andI y80 1) = 1 → (∀ y85, y85 = (mulI 5 (shrI y80 1)) → (Ix N Λ t_row 0 1 ∧ (Ix N Λ t_row 0 2 ∧ (Ix N Λ t_row 0 3 ∧ (∀ y86, y86 = (orI (orI (shlI 1 (σ78 t_row 1)) (shlI 1 (σ78 t_row 2))) (shlI 1 (σ78 t_row 3))) → ((¬ (andI y86 1) = 1 → (∀ y87, y87 = (mulI 5 (shrI (subI 63 y86) 1)) → WI l mX1_isMultiple d P 59 [(2, t), (0, y52), (0, y79), (0, y85), (0, y87), (1, 0), (3, 0), (0, 0), (3, 0)] [] N Λ σ78)) ∧ ((andI y86 1) = 1 → (∀ y88, y88 = (mulI 5 (shrI y86 1)) → WI l mX1_isMultiple d P 59 [(2, t), (0, y52), (0, y79), (0, y85), (0, y88), (1, 0), (3, 0), (0, 0), (3, 0)] [] N Λ σ78)))))))))))))))) ∧ (¬ (0 ≤ v77) → (∀ y89, y89 = (mulI (-1) (-1)) → (Ix N Λ t_row 0 0 ∧ (Ix N Λ t_row 0 2 ∧ (Ix N Λ t_row 0 3 ∧ (∀ y90, y90 = (orI (orI (shlI 1 (σ78 t_row 0)) (shlI 1 (σ78 t_row 2))) (shlI 1 (σ78 t_row 3))) → ((¬ (andI y90 1) = 1 → (∀ y91, y91 = (mulI 5 (shrI (subI 63 y90) 1)) → (Ix N Λ t_row 0 1 ∧ (Ix N Λ t_row 0 2 ∧ (Ix N Λ t_row 0 3 ∧ (∀ y92, y92 = (orI (orI (shlI 1 (σ78 t_row 1)) (shlI 1 (σ78 t_row 2))) (shlI 1 (σ78 t_row 3))) → ((¬ (andI y92 1) = 1 → (∀ y93, y93 = (mulI 5 (shrI (subI 63 y92) 1)) → WI l mX1_isMultiple d P 59 [(2, t), (0, y52), (0, y89), (0, y91), (0, y93), (1, 0), (3, 0), (0, 0), (3, 0)] [] N Λ σ78)) ∧ ((andI y92 1) = 1 → (∀ y94, y94 = (mulI 5 (shrI y92 1)) → WI l mX1_isMultiple d P 59 [(2, t), (0, y52), (0, y89), (0, y91), (0, y94), (1, 0), (3, 0), (0, 0), (3, 0)] [] N Λ σ78))))))))) ∧ ((andI y90 1) = 1 → (∀ y95, y95 = (mulI 5 (shrI y90 1)) → (Ix N Λ t_row 0 1 ∧ (Ix N Λ t_row 0 2 ∧ (Ix N Λ t_row 0 3 ∧ (∀ y96, y96 = (orI (orI (shlI 1 (σ78 t_row 1)) (shlI 1 (σ78 t_row 2))) (shlI 1 (σ78 t_row 3))) → ((¬ (andI y96 1) = 1 → (∀ y97, y97 = (mulI 5 (shrI (subI 63 y96) 1)) → WI l mX1_isMultiple d P 59 [(2, t), (0, y52), (0, y89), (0, y95), (0, y97), (1, 0), (3, 0), (0, 0), (3, 0)] [] N Λ σ78)) ∧ ((andI y96 1) = 1 → (∀ y98, y98 = (mulI 5 (shrI y96 1)) → WI l mX1_isMultiple d P 59 [(2, t), (0, y52), (0, y89), (0, y95), (0, y98), (1, 0), (3, 0), (0, 0), (3, 0)] [] N Λ σ78)))))))))))))))))))))))))))))))))))))) ∧ (¬ (0 ≤ v1) → (Ix N Λ t_row 0 1 ∧ (Ix N Λ t_row 0 4 ∧ (Ix N Λ t_row 0 5 ∧ (CI l mX6_ordered (d - 1 - 1) [(0, (orI (orI (shlI (σ2 t_row 1) 8) (shlI (σ2 t_row 4) 4)) (σ2 t_row 5)))] N Λ σ2 (fun v99 σ100 => ((0 ≤ v99 → (∀ y101, y101 = (mulI (-1) 1) → (Ix N Λ t_row 0 1 ∧ (Ix N Λ t_row 0 2 ∧ (Ix N Λ t_row 0 3 ∧ (CI l mX6_ordered (d - 1 - 1) [(0, (orI (orI (shlI (σ100 t_row 1) 8) (shlI (σ100 t_row 2) 4)) (σ100 t_row 3)))] N Λ σ100 (fun v102 σ103 => ((0 ≤ v102 → (Ix N Λ t_row 0 0 ∧ (Ix N Λ t_row 0 4 ∧ (Ix N Λ t_row 0 5 ∧ (CI l mX6_ordered (d - 1 - 1) [(0, (orI (orI (shlI (σ103 t_row 0) 8) (shlI (σ103 t_row 4) 4)) (σ103 t_row 5)))] N Λ σ103 (fun v104 σ105 => ((0 ≤ v104 → (∀ y106, y106 = (mulI 1 1) → (Ix N Λ t_row 0 0 ∧ (Ix N Λ t_row 0 2 ∧ (Ix N Λ t_row 0 3 ∧ (∀ y107, y107 = (orI (orI (shlI 1 (σ105 t_row 0)) (shlI 1 (σ105 t_row 2))) (shlI 1 (σ105 t_row 3))) → ((¬ (andI y107 1) = 1 → (∀ y108, y108 = (mulI 5 (shrI (subI 63 y107) 1)) → (Ix N Λ t_row 0 1 ∧ (Ix N Λ t_row 0 2 ∧ (Ix N Λ t_row 0 3 ∧ (∀ y109, y109 = (orI (orI (shlI 1 (σ105 t_row 1)) (shlI 1 (σ105 t_row 2))) (shlI 1 (σ105 t_row 3))) → ((¬ (andI y109 1) = 1 → (∀ y110, y110 = (mulI 5 (shrI (subI 63 y109) 1)) → WI l mX1_isMultiple d P 59 [(2, t), (0, y101), (0, y106), (0, y108), (0, y110), (1, 0), (3, 0), (0, 0), (3, 0)] [] N Λ σ105)) ∧ ((andI y109 1) = 1 → (∀ y111, y111 = (mulI 5 (shrI y109 1)) → WI l mX1_isMultiple d P 59 [(2, t), (0, y101), (0, y106), (0, y108), (0, y111), (1, 0), (3, 0), (0, 0), (3, 0)] [] N Λ σ105))))))))) ∧ ((andI y107 1) = 1 → (∀ y112, y112 = (mulI 5 (shrI y107 1)) → (Ix N Λ t_row 0 1 ∧ (Ix N Λ t_row 0 2 ∧ (Ix N Λ t_row 0 3 ∧ (∀ y113, y113 = (orI (orI (shlI 1 (σ105 t_row 1)) (shlI 1 (σ105 t_row 2))) (shlI 1 (σ105 t_row 3))) → ((¬ (andI y113 1) = 1 → (∀ y114, y114 = (mulI 5 (shrI (subI 63 y113) 1)) → WI l mX1_isMultiple d P 59 [(2, t), (0, y101), (0, y106), (0, y112), (0, y114), (1, 0), (3, 0), (0, 0), (3, 0)] [] N Λ σ105)) ∧ ((andI y113 1) = 1 → (∀ y115, y115 = (mulI 5 (shrI y113 1)) → WI l mX1_isMultiple d P 59 [(2, t), (0, y101), (0, y106), (0, y112), (0, y115), (1, 0), (3, 0), (0, 0), (3, 0)] [] N Λ σ105)))))))))))))))) ∧ (¬ (0 ≤ v104) → (∀ y116, y116 = (mulI 1 (-1)) → (Ix N Λ t_row 0 0 ∧ (Ix N Λ t_row 0 2 ∧ (Ix N Λ t_row 0 3 ∧ (∀ y117, y117 = (orI (orI (shlI 1 (σ105 t_row 0)) (shlI 1 (σ105 t_row 2))) (shlI 1 (σ105 t_row 3))) → ((¬ (andI y117 1) = 1 → (∀ y118, y118 = (mulI 5 (shrI (subI 63 y117) 1)) → (Ix N Λ t_row 0 1 ∧ (Ix N Λ t_row 0 2 ∧ (Ix N Λ t_row 0 3 ∧ (∀ y119, y119 = (orI (orI (shlI 1 (σ105 t_row 1)) (shlI 1 (σ105 t_row 2))) (shlI 1 (σ105 t_row 3))) → ((¬ (andI y119 1) = 1 → (∀ y120, y120 = (mulI 5 (shrI (subI 63 y119) 1)) → WI l mX1_isMultiple d P 59 [(2, t), (0, y101), (0, y116), (0, y118), (0, y120), (1, 0), (3, 0), (0, 0), (3, 0)] [] N Λ σ105)) ∧ ((andI y119 1) = 1 → (∀ y121, y121 = (mulI 5 (shrI y119 1)) → WI l mX1_isMultiple d P 59 [(2, t), (0, y101), (0, y116), (0, y118), (0, y121), (1, 0), (3, 0), (0, 0), (3, 0)] [] N Λ σ105))))))))) ∧ ((andI y117 1) = 1 → (∀ y122, y122 = (mulI 5 (shrI y117 1)) → (Ix N Λ t_row 0 1 ∧ (Ix N Λ t_row 0 2 ∧ (Ix N Λ t_row 0 3 ∧ (∀ y123, y123 = (orI (orI (shlI 1 (σ105 t_row 1)) (shlI 1 (σ105 t_row 2))) (shlI 1 (σ105 t_row 3))) → ((¬ (andI y123 1) = 1 → (∀ y124, y124 = (mulI 5 (shrI (subI 63 y123) 1)) → WI l mX1_isMultiple d P 59 [(2, t), (0, y101), (0, y116), (0, y122), (0, y124), (1, 0), (3, 0), (0, 0), (3, 0)] [] N Λ σ105)) ∧ ((andI y123 1) = 1 → (∀ y125, y125 = (mulI 5 (shrI y123 1)) → WI l mX1_isMultiple d P 59 [(2, t), (0, y101), (0, y116), (0, y122), (0, y125), (1, 0), (3, 0), (0, 0), (3, 0)] [] N Λ σ105))))))))))))))))))))))) ∧ (¬ (0 ≤ v102) → (Ix N Λ t_row 0 0 ∧ (Ix N Λ t_row 0 4 ∧ (Ix N Λ t_row 0 5 ∧ (CI l mX6_ordered (d - 1 - 1) [(0, (orI (orI (shlI (σ103 t_row 0) 8) (shlI (σ103 t_row 4) 4)) (σ103 t_row 5)))] N Λ σ103 (fun v126 σ127 => ((0 ≤ v126 → (∀ y128, y128 = (mulI (-1) 1) → (Ix N Λ t_row 0 0 ∧ (Ix N Λ t_row 0 2 ∧ (Ix N Λ t_row 0 3 ∧ (∀ y129, y129 = (orI (orI (shlI 1 (σ127 t_row 0)) (shlI 1 (σ127 t_row 2))) (shlI 1 (σ127 t_row 3))) → ((¬ (andI y129 1) = 1 → (∀ y130, y130 = (mulI 5 (shrI (subI 63 y129) 1)) → (Ix N Λ t_row 0 1 ∧ (Ix N Λ t_row 0 2 ∧ (Ix N Λ t_row 0 3 ∧ (∀ y131, y131 = (orI (orI (shlI 1 (σ127 t_row 1)) (shlI 1 (σ127 t_row 2))) (shlI 1 (σ127 t_row 3))) → ((¬ (andI y131 1) = 1 → (∀ y132, y132 = (mulI 5 (shrI (subI 63 y131) 1)) → WI l mX1_isMultiple d P 59 [(2, t), (0, y101), (0, y128), (0, y130), (0, y132), (1, 0), (3, 0), (0, 0), (3, 0)] [] N Λ σ127)) ∧ ((andI y131 1) = 1 → (∀ y133, y133 = (mulI 5 (shrI y131 1)) → WI l mX1_isMultiple d P 59 [(2, t), (0, y101), (0, y128), (0, y130), (0, y133), (1, 0), (3, 0), (0, 0), (3, 0)] [] N Λ σ127))))))))) ∧ ((andI y129 1) = 1 → (∀ y134, y134 = (mulI 5 (shrI y129 1)) → (Ix N Λ t_row 0 1 ∧ (Ix N Λ t_row 0 2 ∧ (Ix N Λ t_row 0 3 ∧ (∀ y135, y135 = (orI (orI (shlI 1 (σ127 t_row 1)) (shlI 1 (σ127 t_row 2))) (shlI 1 (σ127 t_row 3))) → ((¬ (andI y135 1) = 1 → (∀ y136, y136 = (mulI 5 (shrI (subI 63 y135) 1)) → WI l mX1_isMultiple d P 59 [(2, t), (0, y101), (0, y128), (0, y134), (0, y136), (1, 0), (3, 0), (0, 0), (3, 0)] [] N Λ σ127)) ∧ ((andI y135 1) = 1 → (∀ y137, y137 = (mulI 5 (shrI y135 1)) → WI l mX1_isMultiple d P 59 [(2, t), (0, y101), (0, y128), (0, y134), (0, y137), (1, 0), (3, 0), (0, 0), (3, 0)] [] N Λ σ127)))))))))))))))) ∧ (¬ (0 ≤ v126) → (∀ y138, y138 = (mulI (-1) (-1)) → (Ix N Λ t_row 0 0 ∧ (Ix N Λ t_row 0 2 ∧ (Ix N Λ t_row 0 3 ∧ (∀ y139, y139 = (orI (orI (shlI 1 (σ127 t_row 0)) (shlI 1 (σ127 t_row 2))) (shlI 1 (σ127 t_row 3))) → ((¬ (andI y139 1) = 1 → (∀ y140, y140 = (mulI 5 (shrI (subI 63 y139) 1)) → (Ix N Λ t_row 0 1 ∧ (Ix N Λ t_row 0 2 ∧ (Ix N Λ t_row 0 3 ∧ (∀ y141, y141 = (orI (orI (shlI 1 (σ127 t_row 1)) (shlI 1 (σ127 t_row 2))) (shlI 1 (σ127 t_row 3))) → ((¬ (andI y141 1) = 1 → (∀ y142, y142 = (mulI 5 (shrI (subI 63 y141) 1)) → WI l mX1_isMultiple d P 59 [(2, t), (0, y101), (0, y138), (0, y140), (0, y142), (1, 0), (3, 0), (0, 0), (3, 0)] [] N Λ σ127)) ∧ ((andI y141 1) = 1 → (∀ y143, y143 = (mulI 5 (shrI y141 1)) → WI l mX1_isMultiple d P 59 [(2, t), (0, y101), (0, y138), (0, y140), (0, y143), (1, 0), (3, 0), (0, 0), (3, 0)] [] N Λ σ127))))))))) ∧ ((andI y139 1) = 1 → (∀ y144, y144 = (mulI 5 (shrI y139 1)) → (Ix N Λ t_row 0 1 ∧ (Ix N Λ t_row 0 2 ∧ (Ix N Λ t_row 0 3 ∧ (∀ y145, y145 = (orI (orI (shlI 1 (σ127 t_row 1)) (shlI 1 (σ127 t_row 2))) (shlI 1 (σ127 t_row 3))) → ((¬ (andI y145 1) = 1 → (∀ y146, y146 = (mulI 5 (shrI (subI 63 y145) 1)) → WI l mX1_isMultiple d P 59 [(2, t), (0, y101), (0, y138), (0, y144), (0, y146), (1, 0), (3, 0), (0, 0), (3, 0)] [] N Λ σ127)) ∧ ((andI y145 1) = 1 → (∀ y147, y147 = (mulI 5 (shrI y145 1)) → WI l mX1_isMultiple d P 59 [(2, t), (0, y101), (0, y138), (0, y144), (0, y147), (1, 0), (3, 0), (0, 0), (3, 0)] [] N Λ σ127))))))))))))))))))))))))))))))) ∧ (¬ (0 ≤ v99) → (∀ y148, y148 = (mulI (-1) (-1)) → (Ix N Λ t_row 0 1 ∧ (Ix N Λ t_row 0 2 ∧ (Ix N Λ t_row 0 3 ∧ (CI l mX6_ordered (d - 1 - 1) [(0, (orI (orI (shlI (σ100 t_row 1) 8) (shlI (σ100 t_row 2) 4)) (σ100 t_row 3)))] N Λ σ100 (fun v149 σ150 => ((0 ≤ v149 → (Ix N Λ t_row 0 0 ∧ (Ix N Λ t_row 0 4 ∧ (Ix N Λ t_row 0 5 ∧ (CI l mX6_ordered (d - 1 - 1) [(0, (orI (orI (shlI (σ150 t_row 0) 8) (shlI (σ150 t_row 4) 4)) (σ150 t_row 5)))] N Λ σ150 (fun v151 σ152 => ((0 ≤ v151 → (∀ y153, y153 = (mulI 1 1) → (Ix N Λ t_row 0 0 ∧ (Ix N Λ t_row 0 2 ∧ (Ix N Λ t_row 0 3 ∧ (∀ y154, y154 = (orI (orI (shlI 1 (σ152 t_row 0)) (shlI 1 (σ152 t_row 2))) (shlI 1 (σ152 t_row 3))) → ((¬ (andI y154 1) = 1 → (∀ y155, y155 = (mulI 5 (shrI (subI 63 y154) 1)) → (Ix N Λ t_row 0 1 ∧ (Ix N Λ t_row 0 2 ∧ (Ix N Λ t_row 0 3 ∧ (∀ y156, y156 = (orI (orI (shlI 1 (σ152 t_row 1)) (shlI 1 (σ152 t_row 2))) (shlI 1 (σ152 t_row 3))) → ((¬ (andI y156 1) = 1 → (∀ y157, y157 = (mulI 5 (shrI (subI 63 y156) 1)) → WI l mX1_isMultiple d P 59 [(2, t), (0, y148), (0, y153), (0, y155), (0, y157), (1, 0), (3, 0), (0, 0), (3, 0)] [] N Λ σ152)) ∧ ((andI y156 1) = 1 → (∀ y158, y158 = (mulI 5 (shrI y156 1)) → WI l mX1_isMultiple d P 59 [(2, t), (0, y148), (0, y153), (0, y155), (0, y158), (1, 0), (3, 0), (0, 0), (3, 0)] [] N Λ σ152))))))))) ∧ ((andI y154 1) = 1 → (∀ y159, y159 = (mulI 5 (shrI y154 1)) → (Ix N Λ t_row 0 1 ∧ (Ix N Λ t_row 0 2 ∧ (Ix N Λ t_row 0 3 ∧ (∀ y160, y160 = (orI (orI (shlI 1 (σ152 t_row 1)) (shlI 1 (σ152 t_row 2))) (shlI 1 (σ152 t_row 3))) → ((¬ (andI y160 1) = 1 → (∀ y161, y161 = (mulI 5 (shrI (subI 63 y160) 1)) → WI l mX1_isMultiple d P 59 [(2, t), (0, y148), (0, y153), (0, y159), (0, y161), (1, 0), (3, 0), (0, 0), (3, 0)] [] N Λ σ152)) ∧ ((andI y160 1) = 1 → (∀ y162, y162 = (mulI 5 (shrI y160 1)) → WI l mX1_isMultiple d P 59 [(2, t), (0, y148), (0, y153), (0, y159), (0, y162), (1, 0), (3, 0), (0, 0), (3, 0)] [] N Λ σ152)))))))))))))))) ∧ (¬ (0 ≤ v151) → (∀ y163, y163 = (mulI 1 (-1)) → (Ix N Λ t_row 0 0 ∧ (Ix N Λ t_row 0 2 ∧ (Ix N Λ t_row 0 3 ∧ (∀ y164, y164 = (orI (orI (shlI 1 (σ152 t_row 0)) (shlI 1 (σ152 t_row 2))) (shlI 1 (σ152 t_row 3))) → ((¬ (andI y164 1) = 1 → (∀ y165, y165 = (mulI 5 (shrI (subI 63 y164) 1)) → (Ix N Λ t_row 0 1 ∧ (Ix N Λ t_row 0 2 ∧ (Ix N Λ t_row 0 3 ∧ (∀ y166, y166 = (orI (orI (shlI 1 (σ152 t_row 1)) (shlI 1 (σ152 t_row 2))) (shlI 1 (σ152 t_row 3))) → ((¬ (andI y166 1) = 1 → (∀ y167, y167 = (mulI 5 (shrI (subI 63 y166) 1)) → WI l mX1_isMultiple d P 59 [(2, t), (0, y148), (0, y163), (0, y165), (0, y167), (1, 0), (3, 0), (0, 0), (3, 0)] [] N Λ σ152)) ∧ ((andI y166 1) = 1 → (∀ y168, y168 = (mulI 5 (shrI y166 1)) → WI l mX1_isMultiple d P 59 [(2, t), (0, y148), (0, y163), (0, y165), (0, y168), (1, 0), (3, 0), (0, 0), (3, 0)] [] N Λ σ152))))))))) ∧ ((andI y164 1) = 1 → (∀ y169, y169 = (mulI 5 (shrI y164 1)) → (Ix N Λ t_row 0 1 ∧ (Ix N Λ t_row 0 2 ∧ (Ix N Λ t_row 0 3 ∧ (∀ y170, y170 = (orI (orI (shlI 1 (σ152 t_row 1)) (shlI 1 (σ152 t_row 2))) (shlI 1 (σ152 t_row 3))) → ((¬ (andI y170 1) = 1 → (∀ y171, y171 = (mulI 5 (shrI (subI 63 y170) 1)) → WI l mX1_isMultiple d P 59 [(2, t), (0, y148), (0, y163), (0, y169), (0, y171), (1, 0), (3, 0), (0, 0), (3, 0)] [] N Λ σ152)) ∧ ((andI y170 1) = 1 → (∀ y172, y172 = (mulI 5 (shrI y170 1)) → WI l mX1_isMultiple d P 59 [(2, t), (0, y148), (0, y163), (0, y169), (0, y172), (1, 0), (3, 0), (0, 0), (3, 0)] [] N Λ σ152))))))))))))))))))))))) ∧ (¬ (0 ≤ v149) → (Ix N Λ t_row 0 0 ∧ (Ix N Λ t_row 0 4 ∧ (Ix N Λ t_row 0 5 ∧ (CI l mX6_ordered (d - 1 - 1) [(0, (orI (orI (shlI (σ150 t_row 0) 8) (shlI (σ150 t_row 4) 4)) (σ150 t_row 5)))] N Λ σ150 (fun v173 σ174 => ((0 ≤ v173 → (∀ y175, y175 = (mulI (-1) 1) → (Ix N Λ t_row 0 0 ∧ (Ix N Λ t_row 0 2 ∧ (Ix N Λ t_row 0 3 ∧ (∀ y176, y176 = (orI (orI (shlI 1 (σ174 t_row 0)) (shlI 1 (σ174 t_row 2))) (shlI 1 (σ174 t_row 3))) → ((¬ (andI y176 1) = 1 → (∀ y177, y177 = (mulI 5 (shrI (subI 63 y176) 1)) → (Ix N Λ t_row 0 1 ∧ (Ix N Λ t_row 0 2 ∧ (Ix N Λ t_row 0 3 ∧ (∀ y178, y178 = (orI (orI (shlI 1 (σ174 t_row 1)) (shlI 1 (σ174 t_row 2))) (shlI 1 (σ174 t_row 3))) → ((¬ (andI y178 1) = 1 → (∀ y179, y179 = (mulI 5 (shrI (subI 63 y178) 1)) → WI l mX1_isMultiple d P 59 [(2, t), (0, y148), (0, y175), (0, y177), (0, y179), (1, 0), (3, 0), (0, 0), (3, 0)] [] N Λ σ174)) ∧ ((andI y178 1) = 1 → (∀ y180, y180 = (mulI 5 (shrI y178 1)) → WI l mX1_isMultiple d P 59 [(2, t), (0, y148), (0, y175), (0, y177), (0, y180), (1, 0), (3, 0), (0, 0), (3, 0)] [] N Λ σ174))))))))) ∧ ((andI y176 1) = 1 → (∀ y181, y181 = (mulI 5 (shrI y176 1)) → (Ix N Λ t_row 0 1 ∧ (Ix N Λ t_row 0 2 ∧ (Ix N Λ t_row 0 3 ∧ (∀ y182, y182 = (orI (orI (shlI 1 (σ174 t_row 1)) (shlI 1 (σ174 t_row 2))) (shlI 1 (σ174 t_row 3))) → ((¬ (andI y182 1) = 1 → (∀ y183, y183 = (mulI 5 (shrI (subI 63 y182) 1)) → WI l mX1_isMultiple d P 59 [(2, t), (0, y148), (0, y175), (0, y181), (0, y183), (1, 0), (3, 0), (0, 0), (3, 0)] [] N Λ σ174)) ∧ ((andI y182 1) = 1 → (∀ y184, y184 = (mulI 5 (shrI y182 1)) → WI l mX1_isMultiple d P 59 [(2, t), (0, y148), (0, y175), (0, y181), (0, y184), (1, 0), (3, 0), (0, 0), (3, 0)] [] N Λ σ174)))))))))))))))) ∧ (¬ (0 ≤ v173) → (∀ y185, y185 = (mulI (-1) (-1)) → (Ix N Λ t_row 0 0 ∧ (Ix N Λ t_row 0 2 ∧ (Ix N Λ t_row 0 3 ∧ (∀ y186, y186 = (orI (orI (shlI 1 (σ174 t_row 0)) (shlI 1 (σ174 t_row 2))) (shlI 1 (σ174 t_row 3))) → ((¬ (andI y186 1) = 1 → (∀ y187, y187 = (mulI 5 (shrI (subI 63 y186) 1)) → (Ix N Λ t_row 0 1 ∧ (Ix N Λ t_row 0 2 ∧ (Ix N Λ t_row 0 3 ∧ (∀ y188, y188 = (orI (orI (shlI 1 (σ174 t_row 1)) (shlI 1 (σ174 t_row 2))) (shlI 1 (σ174 t_row 3))) → ((¬ (andI y188 1) = 1 → (∀ y189, y189 = (mulI 5 (shrI (subI 63 y188) 1)) → WI l mX1_isMultiple d P 59 [(2, t), (0, y148), (0, y185), (0, y187), (0, y189), (1, 0), (3, 0), (0, 0), (3, 0)] [] N Λ σ174)) ∧ ((andI y188 1) = 1 → (∀ y190, y190 = (mulI 5 (shrI y188 1)) → WI l mX1_isMultiple d P 59 [(2, t), (0, y148), (0, y185), (0, y187), (0, y190), (1, 0), (3, 0), (0, 0), (3, 0)] [] N Λ σ174))))))))) ∧ ((andI y186 1) = 1 → (∀ y191, y191 = (mulI 5 (shrI y186 1)) → (Ix N Λ t_row 0 1 ∧ (Ix N Λ t_row 0 2 ∧ (Ix N Λ t_row 0 3 ∧ (∀ y192, y192 = (orI (orI (shlI 1 (σ174 t_row 1)) (shlI 1 (σ174 t_row 2))) (shlI 1 (σ174 t_row 3))) → ((¬ (andI y192 1) = 1 → (∀ y193, y193 = (mulI 5 (shrI (subI 63 y192) 1)) → WI l mX1_isMultiple d P 59 [(2, t), (0, y148), (0, y185), (0, y191), (0, y193), (1, 0), (3, 0), (0, 0), (3, 0)] [] N Λ σ174)) ∧ ((andI y192 1) = 1 → (∀ y194, y194 = (mulI 5 (shrI y192 1)) → WI l mX1_isMultiple d P 59 [(2, t), (0, y148), (0, y185), (0, y191), (0, y194), (1, 0), (3, 0), (0, 0), (3, 0)] [] N Λ σ174))))))))))))))))))))))))))))))))))))))))))))) :
    WI l mX1_isMultiple d P 0 [(2, t), (3, 0), (3, 0), (3, 0), (3, 0), (3, 0), (3, 0), (3, 0), (3, 0)] [] N Λ σ := by
  have hd_1 : 1 ≤ d := Nat.le_trans (by decide) h0d
  have he_1 : 1 ≤ d - 1 := Nat.le_sub_of_add_le (Nat.le_trans (by decide) h0d)
  refine r_aload_n (x := t) d_X1_isMultiple_0 rfl o_t.1 ?_
  refine r_iconst (x := 0) d_X1_isMultiple_1 ⟨by decide, by decide⟩ ?_
  refine r_iconst (x := 2) d_X1_isMultiple_2 ⟨by decide, by decide⟩ ?_
  refine r_iconst (x := 3) d_X1_isMultiple_3 ⟨by decide, by decide⟩ ?_
  refine x_callVI (Y2 := mX1_signOf) (c := t) (As := [(0, 0), (0, 2), (0, 3)]) (S := []) d_X1_isMultiple_4 ok_mX1_signOf ml_X1_115 rfl (Nat.le_of_ble_eq_true rfl) (Nat.le_of_ble_eq_true rfl) rfl hd_1 kX1 o_t (c_X1_signOf (v_X1_signOf_0 o_t f_t_row he_1 ?_))
  refine ⟨h.1, ?_⟩
  have h := h.2
  refine ⟨h.1, ?_⟩
  have h := h.2
  refine ⟨h.1, ?_⟩
  have h := h.2
  refine CI.mono h (fun v1 σ2 h => ?_)
  refine ⟨fun hc => ?_, fun hc => ?_⟩
  · have h := h.1 hc
    show WP l mX1_isMultiple (rm d 0 0) noX _ 0 0 7 [(2, t), (3, 0), (3, 0), (3, 0), (3, 0), (3, 0), (3, 0), (3, 0), (3, 0)] [(0, 1)] N Λ σ2
    refine r_aload_n (x := t) d_X1_isMultiple_7 rfl o_t.1 ?_
    refine r_iconst (x := 1) d_X1_isMultiple_8 ⟨by decide, by decide⟩ ?_
    refine r_iconst (x := 4) d_X1_isMultiple_9 ⟨by decide, by decide⟩ ?_
    refine r_iconst (x := 5) d_X1_isMultiple_10 ⟨by decide, by decide⟩ ?_
    refine x_callVI (Y2 := mX1_signOf) (c := t) (As := [(0, 1), (0, 4), (0, 5)]) (S := [(0, 1)]) d_X1_isMultiple_11 ok_mX1_signOf ml_X1_115 rfl (Nat.le_of_ble_eq_true rfl) (Nat.le_of_ble_eq_true rfl) rfl hd_1 kX1 o_t (c_X1_signOf (v_X1_signOf_0 o_t f_t_row he_1 ?_))
    refine ⟨h.1, ?_⟩
    have h := h.2
    refine ⟨h.1, ?_⟩
    have h := h.2
    refine ⟨h.1, ?_⟩
    have h := h.2
    refine CI.mono h (fun v3 σ4 h => ?_)
    refine ⟨fun hc => ?_, fun hc => ?_⟩
    · have h := h.1 hc
      show WP l mX1_isMultiple (rm d 0 0) noX _ 0 0 14 [(2, t), (3, 0), (3, 0), (3, 0), (3, 0), (3, 0), (3, 0), (3, 0), (3, 0)] [(0, 1), (0, 1)] N Λ σ4
      refine r_imul d_X1_isMultiple_14 ?_
      refine r_nm (fun y5 ey5 => ?_)
      have h := h y5 ey5
      refine r_istore_n (L2 := [(2, t), (0, y5), (3, 0), (3, 0), (3, 0), (3, 0), (3, 0), (3, 0), (3, 0)]) d_X1_isMultiple_15 (by decide) rfl rfl ?_
      refine r_aload_n (x := t) d_X1_isMultiple_16 rfl o_t.1 ?_
      refine r_iconst (x := 1) d_X1_isMultiple_17 ⟨by decide, by decide⟩ ?_
      refine r_iconst (x := 2) d_X1_isMultiple_18 ⟨by decide, by decide⟩ ?_
      refine r_iconst (x := 3) d_X1_isMultiple_19 ⟨by decide, by decide⟩ ?_
      refine x_callVI (Y2 := mX1_signOf) (c := t) (As := [(0, 1), (0, 2), (0, 3)]) (S := []) d_X1_isMultiple_20 ok_mX1_signOf ml_X1_115 rfl (Nat.le_of_ble_eq_true rfl) (Nat.le_of_ble_eq_true rfl) rfl hd_1 kX1 o_t (c_X1_signOf (v_X1_signOf_0 o_t f_t_row he_1 ?_))
      refine ⟨h.1, ?_⟩
      have h := h.2
      refine ⟨h.1, ?_⟩
      have h := h.2
      refine ⟨h.1, ?_⟩
      have h := h.2
      refine CI.mono h (fun v6 σ7 h => ?_)
      refine ⟨fun hc => ?_, fun hc => ?_⟩
      · have h := h.1 hc
        show WP l mX1_isMultiple (rm d 0 0) noX _ 0 0 23 [(2, t), (0, y5), (3, 0), (3, 0), (3, 0), (3, 0), (3, 0), (3, 0), (3, 0)] [(0, 1)] N Λ σ7
        refine r_aload_n (x := t) d_X1_isMultiple_23 rfl o_t.1 ?_
        refine r_iconst (x := 0) d_X1_isMultiple_24 ⟨by decide, by decide⟩ ?_
        refine r_iconst (x := 4) d_X1_isMultiple_25 ⟨by decide, by decide⟩ ?_
        refine r_iconst (x := 5) d_X1_isMultiple_26 ⟨by decide, by decide⟩ ?_
        refine x_callVI (Y2 := mX1_signOf) (c := t) (As := [(0, 0), (0, 4), (0, 5)]) (S := [(0, 1)]) d_X1_isMultiple_27 ok_mX1_signOf ml_X1_115 rfl (Nat.le_of_ble_eq_true rfl) (Nat.le_of_ble_eq_true rfl) rfl hd_1 kX1 o_t (c_X1_signOf (v_X1_signOf_0 o_t f_t_row he_1 ?_))
        refine ⟨h.1, ?_⟩
        have h := h.2
        refine ⟨h.1, ?_⟩
        have h := h.2
        refine ⟨h.1, ?_⟩
        have h := h.2
        refine CI.mono h (fun v8 σ9 h => ?_)
        refine ⟨fun hc => ?_, fun hc => ?_⟩
        · have h := h.1 hc
          show WP l mX1_isMultiple (rm d 0 0) noX _ 0 0 30 [(2, t), (0, y5), (3, 0), (3, 0), (3, 0), (3, 0), (3, 0), (3, 0), (3, 0)] [(0, 1), (0, 1)] N Λ σ9
          refine r_imul d_X1_isMultiple_30 ?_
          refine r_nm (fun y10 ey10 => ?_)
          have h := h y10 ey10
          refine r_istore_n (L2 := [(2, t), (0, y5), (0, y10), (3, 0), (3, 0), (3, 0), (3, 0), (3, 0), (3, 0)]) d_X1_isMultiple_31 (by decide) rfl rfl ?_
          refine r_iconst (x := 5) d_X1_isMultiple_32 ⟨by decide, by decide⟩ ?_
          refine r_aload_n (x := t) d_X1_isMultiple_33 rfl o_t.1 ?_
          refine r_iconst (x := 0) d_X1_isMultiple_34 ⟨by decide, by decide⟩ ?_
          refine r_iconst (x := 2) d_X1_isMultiple_35 ⟨by decide, by decide⟩ ?_
          refine r_iconst (x := 3) d_X1_isMultiple_36 ⟨by decide, by decide⟩ ?_
          refine x_callVI (Y2 := mX1_besideFirst) (c := t) (As := [(0, 0), (0, 2), (0, 3)]) (S := [(0, 5)]) d_X1_isMultiple_37 ok_mX1_besideFirst ml_X1_119 rfl (Nat.le_of_ble_eq_true rfl) (Nat.le_of_ble_eq_true rfl) rfl hd_1 kX1 o_t (c_X1_besideFirst (v_X1_besideFirst_0 o_t f_t_row ?_))
          refine ⟨h.1, ?_⟩
          have h := h.2
          refine ⟨h.1, ?_⟩
          have h := h.2
          refine ⟨h.1, ?_⟩
          have h := h.2
          intro y11 ey11
          have h := h y11 ey11
          refine ⟨fun hc => ?_, fun hc => ?_⟩
          · have h := h.1 hc
            show WP l mX1_isMultiple (rm d 0 0) noX _ 0 0 40 [(2, t), (0, y5), (0, y10), (3, 0), (3, 0), (3, 0), (3, 0), (3, 0), (3, 0)] [(0, (shrI (subI 63 y11) 1)), (0, 5)] N Λ σ9
            refine r_imul d_X1_isMultiple_40 ?_
            refine r_nm (fun y12 ey12 => ?_)
            have h := h y12 ey12
            refine r_istore_n (L2 := [(2, t), (0, y5), (0, y10), (0, y12), (3, 0), (3, 0), (3, 0), (3, 0), (3, 0)]) d_X1_isMultiple_41 (by decide) rfl rfl ?_
            refine r_iconst (x := 5) d_X1_isMultiple_42 ⟨by decide, by decide⟩ ?_
            refine r_aload_n (x := t) d_X1_isMultiple_43 rfl o_t.1 ?_
            refine r_iconst (x := 1) d_X1_isMultiple_44 ⟨by decide, by decide⟩ ?_
            refine r_iconst (x := 2) d_X1_isMultiple_45 ⟨by decide, by decide⟩ ?_
            refine r_iconst (x := 3) d_X1_isMultiple_46 ⟨by decide, by decide⟩ ?_
            refine x_callVI (Y2 := mX1_besideFirst) (c := t) (As := [(0, 1), (0, 2), (0, 3)]) (S := [(0, 5)]) d_X1_isMultiple_47 ok_mX1_besideFirst ml_X1_119 rfl (Nat.le_of_ble_eq_true rfl) (Nat.le_of_ble_eq_true rfl) rfl hd_1 kX1 o_t (c_X1_besideFirst (v_X1_besideFirst_0 o_t f_t_row ?_))
            refine ⟨h.1, ?_⟩
            have h := h.2
            refine ⟨h.1, ?_⟩
            have h := h.2
            refine ⟨h.1, ?_⟩
            have h := h.2
            intro y13 ey13
            have h := h y13 ey13
            refine ⟨fun hc => ?_, fun hc => ?_⟩
            · have h := h.1 hc
              show WP l mX1_isMultiple (rm d 0 0) noX _ 0 0 50 [(2, t), (0, y5), (0, y10), (0, y12), (3, 0), (3, 0), (3, 0), (3, 0), (3, 0)] [(0, (shrI (subI 63 y13) 1)), (0, 5)] N Λ σ9
              refine r_imul d_X1_isMultiple_50 ?_
              refine r_nm (fun y14 ey14 => ?_)
              have h := h y14 ey14
              refine r_istore (L2 := [(2, t), (0, y5), (0, y10), (0, y12), (0, y14), (3, 0), (3, 0), (3, 0), (3, 0)]) d_X1_isMultiple_51 (by decide) rfl rfl ?_
              refine r_lconst d_X1_isMultiple_53 ?_
              skip
              refine r_lstore (L2 := [(2, t), (0, y5), (0, y10), (0, y12), (0, y14), (1, 0), (3, 0), (3, 0), (3, 0)]) d_X1_isMultiple_54 (by decide) rfl rfl ?_
              refine r_iconst (x := 0) d_X1_isMultiple_56 ⟨by decide, by decide⟩ ?_
              refine r_istore (L2 := [(2, t), (0, y5), (0, y10), (0, y12), (0, y14), (1, 0), (3, 0), (0, 0), (3, 0)]) d_X1_isMultiple_57 (by decide) rfl rfl ?_
              exact h
            · have h := h.2 hc
              show WP l mX1_isMultiple (rm d 0 0) noX _ 0 0 50 [(2, t), (0, y5), (0, y10), (0, y12), (3, 0), (3, 0), (3, 0), (3, 0), (3, 0)] [(0, (shrI y13 1)), (0, 5)] N Λ σ9
              refine r_imul d_X1_isMultiple_50 ?_
              refine r_nm (fun y15 ey15 => ?_)
              have h := h y15 ey15
              refine r_istore (L2 := [(2, t), (0, y5), (0, y10), (0, y12), (0, y15), (3, 0), (3, 0), (3, 0), (3, 0)]) d_X1_isMultiple_51 (by decide) rfl rfl ?_
              refine r_lconst d_X1_isMultiple_53 ?_
              skip
              refine r_lstore (L2 := [(2, t), (0, y5), (0, y10), (0, y12), (0, y15), (1, 0), (3, 0), (3, 0), (3, 0)]) d_X1_isMultiple_54 (by decide) rfl rfl ?_
              refine r_iconst (x := 0) d_X1_isMultiple_56 ⟨by decide, by decide⟩ ?_
              refine r_istore (L2 := [(2, t), (0, y5), (0, y10), (0, y12), (0, y15), (1, 0), (3, 0), (0, 0), (3, 0)]) d_X1_isMultiple_57 (by decide) rfl rfl ?_
              exact h
          · have h := h.2 hc
            show WP l mX1_isMultiple (rm d 0 0) noX _ 0 0 40 [(2, t), (0, y5), (0, y10), (3, 0), (3, 0), (3, 0), (3, 0), (3, 0), (3, 0)] [(0, (shrI y11 1)), (0, 5)] N Λ σ9
            refine r_imul d_X1_isMultiple_40 ?_
            refine r_nm (fun y16 ey16 => ?_)
            have h := h y16 ey16
            refine r_istore_n (L2 := [(2, t), (0, y5), (0, y10), (0, y16), (3, 0), (3, 0), (3, 0), (3, 0), (3, 0)]) d_X1_isMultiple_41 (by decide) rfl rfl ?_
            refine r_iconst (x := 5) d_X1_isMultiple_42 ⟨by decide, by decide⟩ ?_
            refine r_aload_n (x := t) d_X1_isMultiple_43 rfl o_t.1 ?_
            refine r_iconst (x := 1) d_X1_isMultiple_44 ⟨by decide, by decide⟩ ?_
            refine r_iconst (x := 2) d_X1_isMultiple_45 ⟨by decide, by decide⟩ ?_
            refine r_iconst (x := 3) d_X1_isMultiple_46 ⟨by decide, by decide⟩ ?_
            refine x_callVI (Y2 := mX1_besideFirst) (c := t) (As := [(0, 1), (0, 2), (0, 3)]) (S := [(0, 5)]) d_X1_isMultiple_47 ok_mX1_besideFirst ml_X1_119 rfl (Nat.le_of_ble_eq_true rfl) (Nat.le_of_ble_eq_true rfl) rfl hd_1 kX1 o_t (c_X1_besideFirst (v_X1_besideFirst_0 o_t f_t_row ?_))
            refine ⟨h.1, ?_⟩
            have h := h.2
            refine ⟨h.1, ?_⟩
            have h := h.2
            refine ⟨h.1, ?_⟩
            have h := h.2
            intro y17 ey17
            have h := h y17 ey17
            refine ⟨fun hc => ?_, fun hc => ?_⟩
            · have h := h.1 hc
              show WP l mX1_isMultiple (rm d 0 0) noX _ 0 0 50 [(2, t), (0, y5), (0, y10), (0, y16), (3, 0), (3, 0), (3, 0), (3, 0), (3, 0)] [(0, (shrI (subI 63 y17) 1)), (0, 5)] N Λ σ9
              refine r_imul d_X1_isMultiple_50 ?_
              refine r_nm (fun y18 ey18 => ?_)
              have h := h y18 ey18
              refine r_istore (L2 := [(2, t), (0, y5), (0, y10), (0, y16), (0, y18), (3, 0), (3, 0), (3, 0), (3, 0)]) d_X1_isMultiple_51 (by decide) rfl rfl ?_
              refine r_lconst d_X1_isMultiple_53 ?_
              skip
              refine r_lstore (L2 := [(2, t), (0, y5), (0, y10), (0, y16), (0, y18), (1, 0), (3, 0), (3, 0), (3, 0)]) d_X1_isMultiple_54 (by decide) rfl rfl ?_
              refine r_iconst (x := 0) d_X1_isMultiple_56 ⟨by decide, by decide⟩ ?_
              refine r_istore (L2 := [(2, t), (0, y5), (0, y10), (0, y16), (0, y18), (1, 0), (3, 0), (0, 0), (3, 0)]) d_X1_isMultiple_57 (by decide) rfl rfl ?_
              exact h
            · have h := h.2 hc
              show WP l mX1_isMultiple (rm d 0 0) noX _ 0 0 50 [(2, t), (0, y5), (0, y10), (0, y16), (3, 0), (3, 0), (3, 0), (3, 0), (3, 0)] [(0, (shrI y17 1)), (0, 5)] N Λ σ9
              refine r_imul d_X1_isMultiple_50 ?_
              refine r_nm (fun y19 ey19 => ?_)
              have h := h y19 ey19
              refine r_istore (L2 := [(2, t), (0, y5), (0, y10), (0, y16), (0, y19), (3, 0), (3, 0), (3, 0), (3, 0)]) d_X1_isMultiple_51 (by decide) rfl rfl ?_
              refine r_lconst d_X1_isMultiple_53 ?_
              skip
              refine r_lstore (L2 := [(2, t), (0, y5), (0, y10), (0, y16), (0, y19), (1, 0), (3, 0), (3, 0), (3, 0)]) d_X1_isMultiple_54 (by decide) rfl rfl ?_
              refine r_iconst (x := 0) d_X1_isMultiple_56 ⟨by decide, by decide⟩ ?_
              refine r_istore (L2 := [(2, t), (0, y5), (0, y10), (0, y16), (0, y19), (1, 0), (3, 0), (0, 0), (3, 0)]) d_X1_isMultiple_57 (by decide) rfl rfl ?_
              exact h
        · have h := h.2 hc
          show WP l mX1_isMultiple (rm d 0 0) noX _ 0 0 30 [(2, t), (0, y5), (3, 0), (3, 0), (3, 0), (3, 0), (3, 0), (3, 0), (3, 0)] [(0, (-1)), (0, 1)] N Λ σ9
          refine r_imul d_X1_isMultiple_30 ?_
          refine r_nm (fun y20 ey20 => ?_)
          have h := h y20 ey20
          refine r_istore_n (L2 := [(2, t), (0, y5), (0, y20), (3, 0), (3, 0), (3, 0), (3, 0), (3, 0), (3, 0)]) d_X1_isMultiple_31 (by decide) rfl rfl ?_
          refine r_iconst (x := 5) d_X1_isMultiple_32 ⟨by decide, by decide⟩ ?_
          refine r_aload_n (x := t) d_X1_isMultiple_33 rfl o_t.1 ?_
          refine r_iconst (x := 0) d_X1_isMultiple_34 ⟨by decide, by decide⟩ ?_
          refine r_iconst (x := 2) d_X1_isMultiple_35 ⟨by decide, by decide⟩ ?_
          refine r_iconst (x := 3) d_X1_isMultiple_36 ⟨by decide, by decide⟩ ?_
          refine x_callVI (Y2 := mX1_besideFirst) (c := t) (As := [(0, 0), (0, 2), (0, 3)]) (S := [(0, 5)]) d_X1_isMultiple_37 ok_mX1_besideFirst ml_X1_119 rfl (Nat.le_of_ble_eq_true rfl) (Nat.le_of_ble_eq_true rfl) rfl hd_1 kX1 o_t (c_X1_besideFirst (v_X1_besideFirst_0 o_t f_t_row ?_))
          refine ⟨h.1, ?_⟩
          have h := h.2
          refine ⟨h.1, ?_⟩
          have h := h.2
          refine ⟨h.1, ?_⟩
          have h := h.2
          intro y21 ey21
          have h := h y21 ey21
          refine ⟨fun hc => ?_, fun hc => ?_⟩
          · have h := h.1 hc
            show WP l mX1_isMultiple (rm d 0 0) noX _ 0 0 40 [(2, t), (0, y5), (0, y20), (3, 0), (3, 0), (3, 0), (3, 0), (3, 0), (3, 0)] [(0, (shrI (subI 63 y21) 1)), (0, 5)] N Λ σ9
            refine r_imul d_X1_isMultiple_40 ?_
            refine r_nm (fun y22 ey22 => ?_)
            have h := h y22 ey22
            refine r_istore_n (L2 := [(2, t), (0, y5), (0, y20), (0, y22), (3, 0), (3, 0), (3, 0), (3, 0), (3, 0)]) d_X1_isMultiple_41 (by decide) rfl rfl ?_
            refine r_iconst (x := 5) d_X1_isMultiple_42 ⟨by decide, by decide⟩ ?_
            refine r_aload_n (x := t) d_X1_isMultiple_43 rfl o_t.1 ?_
            refine r_iconst (x := 1) d_X1_isMultiple_44 ⟨by decide, by decide⟩ ?_
            refine r_iconst (x := 2) d_X1_isMultiple_45 ⟨by decide, by decide⟩ ?_
            refine r_iconst (x := 3) d_X1_isMultiple_46 ⟨by decide, by decide⟩ ?_
            refine x_callVI (Y2 := mX1_besideFirst) (c := t) (As := [(0, 1), (0, 2), (0, 3)]) (S := [(0, 5)]) d_X1_isMultiple_47 ok_mX1_besideFirst ml_X1_119 rfl (Nat.le_of_ble_eq_true rfl) (Nat.le_of_ble_eq_true rfl) rfl hd_1 kX1 o_t (c_X1_besideFirst (v_X1_besideFirst_0 o_t f_t_row ?_))
            refine ⟨h.1, ?_⟩
            have h := h.2
            refine ⟨h.1, ?_⟩
            have h := h.2
            refine ⟨h.1, ?_⟩
            have h := h.2
            intro y23 ey23
            have h := h y23 ey23
            refine ⟨fun hc => ?_, fun hc => ?_⟩
            · have h := h.1 hc
              show WP l mX1_isMultiple (rm d 0 0) noX _ 0 0 50 [(2, t), (0, y5), (0, y20), (0, y22), (3, 0), (3, 0), (3, 0), (3, 0), (3, 0)] [(0, (shrI (subI 63 y23) 1)), (0, 5)] N Λ σ9
              refine r_imul d_X1_isMultiple_50 ?_
              refine r_nm (fun y24 ey24 => ?_)
              have h := h y24 ey24
              refine r_istore (L2 := [(2, t), (0, y5), (0, y20), (0, y22), (0, y24), (3, 0), (3, 0), (3, 0), (3, 0)]) d_X1_isMultiple_51 (by decide) rfl rfl ?_
              refine r_lconst d_X1_isMultiple_53 ?_
              skip
              refine r_lstore (L2 := [(2, t), (0, y5), (0, y20), (0, y22), (0, y24), (1, 0), (3, 0), (3, 0), (3, 0)]) d_X1_isMultiple_54 (by decide) rfl rfl ?_
              refine r_iconst (x := 0) d_X1_isMultiple_56 ⟨by decide, by decide⟩ ?_
              refine r_istore (L2 := [(2, t), (0, y5), (0, y20), (0, y22), (0, y24), (1, 0), (3, 0), (0, 0), (3, 0)]) d_X1_isMultiple_57 (by decide) rfl rfl ?_
              exact h
            · have h := h.2 hc
              show WP l mX1_isMultiple (rm d 0 0) noX _ 0 0 50 [(2, t), (0, y5), (0, y20), (0, y22), (3, 0), (3, 0), (3, 0), (3, 0), (3, 0)] [(0, (shrI y23 1)), (0, 5)] N Λ σ9
              refine r_imul d_X1_isMultiple_50 ?_
              refine r_nm (fun y25 ey25 => ?_)
              have h := h y25 ey25
              refine r_istore (L2 := [(2, t), (0, y5), (0, y20), (0, y22), (0, y25), (3, 0), (3, 0), (3, 0), (3, 0)]) d_X1_isMultiple_51 (by decide) rfl rfl ?_
              refine r_lconst d_X1_isMultiple_53 ?_
              skip
              refine r_lstore (L2 := [(2, t), (0, y5), (0, y20), (0, y22), (0, y25), (1, 0), (3, 0), (3, 0), (3, 0)]) d_X1_isMultiple_54 (by decide) rfl rfl ?_
              refine r_iconst (x := 0) d_X1_isMultiple_56 ⟨by decide, by decide⟩ ?_
              refine r_istore (L2 := [(2, t), (0, y5), (0, y20), (0, y22), (0, y25), (1, 0), (3, 0), (0, 0), (3, 0)]) d_X1_isMultiple_57 (by decide) rfl rfl ?_
              exact h
          · have h := h.2 hc
            show WP l mX1_isMultiple (rm d 0 0) noX _ 0 0 40 [(2, t), (0, y5), (0, y20), (3, 0), (3, 0), (3, 0), (3, 0), (3, 0), (3, 0)] [(0, (shrI y21 1)), (0, 5)] N Λ σ9
            refine r_imul d_X1_isMultiple_40 ?_
            refine r_nm (fun y26 ey26 => ?_)
            have h := h y26 ey26
            refine r_istore_n (L2 := [(2, t), (0, y5), (0, y20), (0, y26), (3, 0), (3, 0), (3, 0), (3, 0), (3, 0)]) d_X1_isMultiple_41 (by decide) rfl rfl ?_
            refine r_iconst (x := 5) d_X1_isMultiple_42 ⟨by decide, by decide⟩ ?_
            refine r_aload_n (x := t) d_X1_isMultiple_43 rfl o_t.1 ?_
            refine r_iconst (x := 1) d_X1_isMultiple_44 ⟨by decide, by decide⟩ ?_
            refine r_iconst (x := 2) d_X1_isMultiple_45 ⟨by decide, by decide⟩ ?_
            refine r_iconst (x := 3) d_X1_isMultiple_46 ⟨by decide, by decide⟩ ?_
            refine x_callVI (Y2 := mX1_besideFirst) (c := t) (As := [(0, 1), (0, 2), (0, 3)]) (S := [(0, 5)]) d_X1_isMultiple_47 ok_mX1_besideFirst ml_X1_119 rfl (Nat.le_of_ble_eq_true rfl) (Nat.le_of_ble_eq_true rfl) rfl hd_1 kX1 o_t (c_X1_besideFirst (v_X1_besideFirst_0 o_t f_t_row ?_))
            refine ⟨h.1, ?_⟩
            have h := h.2
            refine ⟨h.1, ?_⟩
            have h := h.2
            refine ⟨h.1, ?_⟩
            have h := h.2
            intro y27 ey27
            have h := h y27 ey27
            refine ⟨fun hc => ?_, fun hc => ?_⟩
            · have h := h.1 hc
              show WP l mX1_isMultiple (rm d 0 0) noX _ 0 0 50 [(2, t), (0, y5), (0, y20), (0, y26), (3, 0), (3, 0), (3, 0), (3, 0), (3, 0)] [(0, (shrI (subI 63 y27) 1)), (0, 5)] N Λ σ9
              refine r_imul d_X1_isMultiple_50 ?_
              refine r_nm (fun y28 ey28 => ?_)
              have h := h y28 ey28
              refine r_istore (L2 := [(2, t), (0, y5), (0, y20), (0, y26), (0, y28), (3, 0), (3, 0), (3, 0), (3, 0)]) d_X1_isMultiple_51 (by decide) rfl rfl ?_
              refine r_lconst d_X1_isMultiple_53 ?_
              skip
              refine r_lstore (L2 := [(2, t), (0, y5), (0, y20), (0, y26), (0, y28), (1, 0), (3, 0), (3, 0), (3, 0)]) d_X1_isMultiple_54 (by decide) rfl rfl ?_
              refine r_iconst (x := 0) d_X1_isMultiple_56 ⟨by decide, by decide⟩ ?_
              refine r_istore (L2 := [(2, t), (0, y5), (0, y20), (0, y26), (0, y28), (1, 0), (3, 0), (0, 0), (3, 0)]) d_X1_isMultiple_57 (by decide) rfl rfl ?_
              exact h
            · have h := h.2 hc
              show WP l mX1_isMultiple (rm d 0 0) noX _ 0 0 50 [(2, t), (0, y5), (0, y20), (0, y26), (3, 0), (3, 0), (3, 0), (3, 0), (3, 0)] [(0, (shrI y27 1)), (0, 5)] N Λ σ9
              refine r_imul d_X1_isMultiple_50 ?_
              refine r_nm (fun y29 ey29 => ?_)
              have h := h y29 ey29
              refine r_istore (L2 := [(2, t), (0, y5), (0, y20), (0, y26), (0, y29), (3, 0), (3, 0), (3, 0), (3, 0)]) d_X1_isMultiple_51 (by decide) rfl rfl ?_
              refine r_lconst d_X1_isMultiple_53 ?_
              skip
              refine r_lstore (L2 := [(2, t), (0, y5), (0, y20), (0, y26), (0, y29), (1, 0), (3, 0), (3, 0), (3, 0)]) d_X1_isMultiple_54 (by decide) rfl rfl ?_
              refine r_iconst (x := 0) d_X1_isMultiple_56 ⟨by decide, by decide⟩ ?_
              refine r_istore (L2 := [(2, t), (0, y5), (0, y20), (0, y26), (0, y29), (1, 0), (3, 0), (0, 0), (3, 0)]) d_X1_isMultiple_57 (by decide) rfl rfl ?_
              exact h
      · have h := h.2 hc
        show WP l mX1_isMultiple (rm d 0 0) noX _ 0 0 23 [(2, t), (0, y5), (3, 0), (3, 0), (3, 0), (3, 0), (3, 0), (3, 0), (3, 0)] [(0, (-1))] N Λ σ7
        refine r_aload_n (x := t) d_X1_isMultiple_23 rfl o_t.1 ?_
        refine r_iconst (x := 0) d_X1_isMultiple_24 ⟨by decide, by decide⟩ ?_
        refine r_iconst (x := 4) d_X1_isMultiple_25 ⟨by decide, by decide⟩ ?_
        refine r_iconst (x := 5) d_X1_isMultiple_26 ⟨by decide, by decide⟩ ?_
        refine x_callVI (Y2 := mX1_signOf) (c := t) (As := [(0, 0), (0, 4), (0, 5)]) (S := [(0, (-1))]) d_X1_isMultiple_27 ok_mX1_signOf ml_X1_115 rfl (Nat.le_of_ble_eq_true rfl) (Nat.le_of_ble_eq_true rfl) rfl hd_1 kX1 o_t (c_X1_signOf (v_X1_signOf_0 o_t f_t_row he_1 ?_))
        refine ⟨h.1, ?_⟩
        have h := h.2
        refine ⟨h.1, ?_⟩
        have h := h.2
        refine ⟨h.1, ?_⟩
        have h := h.2
        refine CI.mono h (fun v30 σ31 h => ?_)
        refine ⟨fun hc => ?_, fun hc => ?_⟩
        · have h := h.1 hc
          show WP l mX1_isMultiple (rm d 0 0) noX _ 0 0 30 [(2, t), (0, y5), (3, 0), (3, 0), (3, 0), (3, 0), (3, 0), (3, 0), (3, 0)] [(0, 1), (0, (-1))] N Λ σ31
          refine r_imul d_X1_isMultiple_30 ?_
          refine r_nm (fun y32 ey32 => ?_)
          have h := h y32 ey32
          refine r_istore_n (L2 := [(2, t), (0, y5), (0, y32), (3, 0), (3, 0), (3, 0), (3, 0), (3, 0), (3, 0)]) d_X1_isMultiple_31 (by decide) rfl rfl ?_
          refine r_iconst (x := 5) d_X1_isMultiple_32 ⟨by decide, by decide⟩ ?_
          refine r_aload_n (x := t) d_X1_isMultiple_33 rfl o_t.1 ?_
          refine r_iconst (x := 0) d_X1_isMultiple_34 ⟨by decide, by decide⟩ ?_
          refine r_iconst (x := 2) d_X1_isMultiple_35 ⟨by decide, by decide⟩ ?_
          refine r_iconst (x := 3) d_X1_isMultiple_36 ⟨by decide, by decide⟩ ?_
          refine x_callVI (Y2 := mX1_besideFirst) (c := t) (As := [(0, 0), (0, 2), (0, 3)]) (S := [(0, 5)]) d_X1_isMultiple_37 ok_mX1_besideFirst ml_X1_119 rfl (Nat.le_of_ble_eq_true rfl) (Nat.le_of_ble_eq_true rfl) rfl hd_1 kX1 o_t (c_X1_besideFirst (v_X1_besideFirst_0 o_t f_t_row ?_))
          refine ⟨h.1, ?_⟩
          have h := h.2
          refine ⟨h.1, ?_⟩
          have h := h.2
          refine ⟨h.1, ?_⟩
          have h := h.2
          intro y33 ey33
          have h := h y33 ey33
          refine ⟨fun hc => ?_, fun hc => ?_⟩
          · have h := h.1 hc
            show WP l mX1_isMultiple (rm d 0 0) noX _ 0 0 40 [(2, t), (0, y5), (0, y32), (3, 0), (3, 0), (3, 0), (3, 0), (3, 0), (3, 0)] [(0, (shrI (subI 63 y33) 1)), (0, 5)] N Λ σ31
            refine r_imul d_X1_isMultiple_40 ?_
            refine r_nm (fun y34 ey34 => ?_)
            have h := h y34 ey34
            refine r_istore_n (L2 := [(2, t), (0, y5), (0, y32), (0, y34), (3, 0), (3, 0), (3, 0), (3, 0), (3, 0)]) d_X1_isMultiple_41 (by decide) rfl rfl ?_
            refine r_iconst (x := 5) d_X1_isMultiple_42 ⟨by decide, by decide⟩ ?_
            refine r_aload_n (x := t) d_X1_isMultiple_43 rfl o_t.1 ?_
            refine r_iconst (x := 1) d_X1_isMultiple_44 ⟨by decide, by decide⟩ ?_
            refine r_iconst (x := 2) d_X1_isMultiple_45 ⟨by decide, by decide⟩ ?_
            refine r_iconst (x := 3) d_X1_isMultiple_46 ⟨by decide, by decide⟩ ?_
            refine x_callVI (Y2 := mX1_besideFirst) (c := t) (As := [(0, 1), (0, 2), (0, 3)]) (S := [(0, 5)]) d_X1_isMultiple_47 ok_mX1_besideFirst ml_X1_119 rfl (Nat.le_of_ble_eq_true rfl) (Nat.le_of_ble_eq_true rfl) rfl hd_1 kX1 o_t (c_X1_besideFirst (v_X1_besideFirst_0 o_t f_t_row ?_))
            refine ⟨h.1, ?_⟩
            have h := h.2
            refine ⟨h.1, ?_⟩
            have h := h.2
            refine ⟨h.1, ?_⟩
            have h := h.2
            intro y35 ey35
            have h := h y35 ey35
            refine ⟨fun hc => ?_, fun hc => ?_⟩
            · have h := h.1 hc
              show WP l mX1_isMultiple (rm d 0 0) noX _ 0 0 50 [(2, t), (0, y5), (0, y32), (0, y34), (3, 0), (3, 0), (3, 0), (3, 0), (3, 0)] [(0, (shrI (subI 63 y35) 1)), (0, 5)] N Λ σ31
              refine r_imul d_X1_isMultiple_50 ?_
              refine r_nm (fun y36 ey36 => ?_)
              have h := h y36 ey36
              refine r_istore (L2 := [(2, t), (0, y5), (0, y32), (0, y34), (0, y36), (3, 0), (3, 0), (3, 0), (3, 0)]) d_X1_isMultiple_51 (by decide) rfl rfl ?_
              refine r_lconst d_X1_isMultiple_53 ?_
              skip
              refine r_lstore (L2 := [(2, t), (0, y5), (0, y32), (0, y34), (0, y36), (1, 0), (3, 0), (3, 0), (3, 0)]) d_X1_isMultiple_54 (by decide) rfl rfl ?_
              refine r_iconst (x := 0) d_X1_isMultiple_56 ⟨by decide, by decide⟩ ?_
              refine r_istore (L2 := [(2, t), (0, y5), (0, y32), (0, y34), (0, y36), (1, 0), (3, 0), (0, 0), (3, 0)]) d_X1_isMultiple_57 (by decide) rfl rfl ?_
              exact h
            · have h := h.2 hc
              show WP l mX1_isMultiple (rm d 0 0) noX _ 0 0 50 [(2, t), (0, y5), (0, y32), (0, y34), (3, 0), (3, 0), (3, 0), (3, 0), (3, 0)] [(0, (shrI y35 1)), (0, 5)] N Λ σ31
              refine r_imul d_X1_isMultiple_50 ?_
              refine r_nm (fun y37 ey37 => ?_)
              have h := h y37 ey37
              refine r_istore (L2 := [(2, t), (0, y5), (0, y32), (0, y34), (0, y37), (3, 0), (3, 0), (3, 0), (3, 0)]) d_X1_isMultiple_51 (by decide) rfl rfl ?_
              refine r_lconst d_X1_isMultiple_53 ?_
              skip
              refine r_lstore (L2 := [(2, t), (0, y5), (0, y32), (0, y34), (0, y37), (1, 0), (3, 0), (3, 0), (3, 0)]) d_X1_isMultiple_54 (by decide) rfl rfl ?_
              refine r_iconst (x := 0) d_X1_isMultiple_56 ⟨by decide, by decide⟩ ?_
              refine r_istore (L2 := [(2, t), (0, y5), (0, y32), (0, y34), (0, y37), (1, 0), (3, 0), (0, 0), (3, 0)]) d_X1_isMultiple_57 (by decide) rfl rfl ?_
              exact h
          · have h := h.2 hc
            show WP l mX1_isMultiple (rm d 0 0) noX _ 0 0 40 [(2, t), (0, y5), (0, y32), (3, 0), (3, 0), (3, 0), (3, 0), (3, 0), (3, 0)] [(0, (shrI y33 1)), (0, 5)] N Λ σ31
            refine r_imul d_X1_isMultiple_40 ?_
            refine r_nm (fun y38 ey38 => ?_)
            have h := h y38 ey38
            refine r_istore_n (L2 := [(2, t), (0, y5), (0, y32), (0, y38), (3, 0), (3, 0), (3, 0), (3, 0), (3, 0)]) d_X1_isMultiple_41 (by decide) rfl rfl ?_
            refine r_iconst (x := 5) d_X1_isMultiple_42 ⟨by decide, by decide⟩ ?_
            refine r_aload_n (x := t) d_X1_isMultiple_43 rfl o_t.1 ?_
            refine r_iconst (x := 1) d_X1_isMultiple_44 ⟨by decide, by decide⟩ ?_
            refine r_iconst (x := 2) d_X1_isMultiple_45 ⟨by decide, by decide⟩ ?_
            refine r_iconst (x := 3) d_X1_isMultiple_46 ⟨by decide, by decide⟩ ?_
            refine x_callVI (Y2 := mX1_besideFirst) (c := t) (As := [(0, 1), (0, 2), (0, 3)]) (S := [(0, 5)]) d_X1_isMultiple_47 ok_mX1_besideFirst ml_X1_119 rfl (Nat.le_of_ble_eq_true rfl) (Nat.le_of_ble_eq_true rfl) rfl hd_1 kX1 o_t (c_X1_besideFirst (v_X1_besideFirst_0 o_t f_t_row ?_))
            refine ⟨h.1, ?_⟩
            have h := h.2
            refine ⟨h.1, ?_⟩
            have h := h.2
            refine ⟨h.1, ?_⟩
            have h := h.2
            intro y39 ey39
            have h := h y39 ey39
            refine ⟨fun hc => ?_, fun hc => ?_⟩
            · have h := h.1 hc
              show WP l mX1_isMultiple (rm d 0 0) noX _ 0 0 50 [(2, t), (0, y5), (0, y32), (0, y38), (3, 0), (3, 0), (3, 0), (3, 0), (3, 0)] [(0, (shrI (subI 63 y39) 1)), (0, 5)] N Λ σ31
              refine r_imul d_X1_isMultiple_50 ?_
              refine r_nm (fun y40 ey40 => ?_)
              have h := h y40 ey40
              refine r_istore (L2 := [(2, t), (0, y5), (0, y32), (0, y38), (0, y40), (3, 0), (3, 0), (3, 0), (3, 0)]) d_X1_isMultiple_51 (by decide) rfl rfl ?_
              refine r_lconst d_X1_isMultiple_53 ?_
              skip
              refine r_lstore (L2 := [(2, t), (0, y5), (0, y32), (0, y38), (0, y40), (1, 0), (3, 0), (3, 0), (3, 0)]) d_X1_isMultiple_54 (by decide) rfl rfl ?_
              refine r_iconst (x := 0) d_X1_isMultiple_56 ⟨by decide, by decide⟩ ?_
              refine r_istore (L2 := [(2, t), (0, y5), (0, y32), (0, y38), (0, y40), (1, 0), (3, 0), (0, 0), (3, 0)]) d_X1_isMultiple_57 (by decide) rfl rfl ?_
              exact h
            · have h := h.2 hc
              show WP l mX1_isMultiple (rm d 0 0) noX _ 0 0 50 [(2, t), (0, y5), (0, y32), (0, y38), (3, 0), (3, 0), (3, 0), (3, 0), (3, 0)] [(0, (shrI y39 1)), (0, 5)] N Λ σ31
              refine r_imul d_X1_isMultiple_50 ?_
              refine r_nm (fun y41 ey41 => ?_)
              have h := h y41 ey41
              refine r_istore (L2 := [(2, t), (0, y5), (0, y32), (0, y38), (0, y41), (3, 0), (3, 0), (3, 0), (3, 0)]) d_X1_isMultiple_51 (by decide) rfl rfl ?_
              refine r_lconst d_X1_isMultiple_53 ?_
              skip
              refine r_lstore (L2 := [(2, t), (0, y5), (0, y32), (0, y38), (0, y41), (1, 0), (3, 0), (3, 0), (3, 0)]) d_X1_isMultiple_54 (by decide) rfl rfl ?_
              refine r_iconst (x := 0) d_X1_isMultiple_56 ⟨by decide, by decide⟩ ?_
              refine r_istore (L2 := [(2, t), (0, y5), (0, y32), (0, y38), (0, y41), (1, 0), (3, 0), (0, 0), (3, 0)]) d_X1_isMultiple_57 (by decide) rfl rfl ?_
              exact h
        · have h := h.2 hc
          show WP l mX1_isMultiple (rm d 0 0) noX _ 0 0 30 [(2, t), (0, y5), (3, 0), (3, 0), (3, 0), (3, 0), (3, 0), (3, 0), (3, 0)] [(0, (-1)), (0, (-1))] N Λ σ31
          refine r_imul d_X1_isMultiple_30 ?_
          refine r_nm (fun y42 ey42 => ?_)
          have h := h y42 ey42
          refine r_istore_n (L2 := [(2, t), (0, y5), (0, y42), (3, 0), (3, 0), (3, 0), (3, 0), (3, 0), (3, 0)]) d_X1_isMultiple_31 (by decide) rfl rfl ?_
          refine r_iconst (x := 5) d_X1_isMultiple_32 ⟨by decide, by decide⟩ ?_
          refine r_aload_n (x := t) d_X1_isMultiple_33 rfl o_t.1 ?_
          refine r_iconst (x := 0) d_X1_isMultiple_34 ⟨by decide, by decide⟩ ?_
          refine r_iconst (x := 2) d_X1_isMultiple_35 ⟨by decide, by decide⟩ ?_
          refine r_iconst (x := 3) d_X1_isMultiple_36 ⟨by decide, by decide⟩ ?_
          refine x_callVI (Y2 := mX1_besideFirst) (c := t) (As := [(0, 0), (0, 2), (0, 3)]) (S := [(0, 5)]) d_X1_isMultiple_37 ok_mX1_besideFirst ml_X1_119 rfl (Nat.le_of_ble_eq_true rfl) (Nat.le_of_ble_eq_true rfl) rfl hd_1 kX1 o_t (c_X1_besideFirst (v_X1_besideFirst_0 o_t f_t_row ?_))
          refine ⟨h.1, ?_⟩
          have h := h.2
          refine ⟨h.1, ?_⟩
          have h := h.2
          refine ⟨h.1, ?_⟩
          have h := h.2
          intro y43 ey43
          have h := h y43 ey43
          refine ⟨fun hc => ?_, fun hc => ?_⟩
          · have h := h.1 hc
            show WP l mX1_isMultiple (rm d 0 0) noX _ 0 0 40 [(2, t), (0, y5), (0, y42), (3, 0), (3, 0), (3, 0), (3, 0), (3, 0), (3, 0)] [(0, (shrI (subI 63 y43) 1)), (0, 5)] N Λ σ31
            refine r_imul d_X1_isMultiple_40 ?_
            refine r_nm (fun y44 ey44 => ?_)
            have h := h y44 ey44
            refine r_istore_n (L2 := [(2, t), (0, y5), (0, y42), (0, y44), (3, 0), (3, 0), (3, 0), (3, 0), (3, 0)]) d_X1_isMultiple_41 (by decide) rfl rfl ?_
            refine r_iconst (x := 5) d_X1_isMultiple_42 ⟨by decide, by decide⟩ ?_
            refine r_aload_n (x := t) d_X1_isMultiple_43 rfl o_t.1 ?_
            refine r_iconst (x := 1) d_X1_isMultiple_44 ⟨by decide, by decide⟩ ?_
            refine r_iconst (x := 2) d_X1_isMultiple_45 ⟨by decide, by decide⟩ ?_
            refine r_iconst (x := 3) d_X1_isMultiple_46 ⟨by decide, by decide⟩ ?_
            refine x_callVI (Y2 := mX1_besideFirst) (c := t) (As := [(0, 1), (0, 2), (0, 3)]) (S := [(0, 5)]) d_X1_isMultiple_47 ok_mX1_besideFirst ml_X1_119 rfl (Nat.le_of_ble_eq_true rfl) (Nat.le_of_ble_eq_true rfl) rfl hd_1 kX1 o_t (c_X1_besideFirst (v_X1_besideFirst_0 o_t f_t_row ?_))
            refine ⟨h.1, ?_⟩
            have h := h.2
            refine ⟨h.1, ?_⟩
            have h := h.2
            refine ⟨h.1, ?_⟩
            have h := h.2
            intro y45 ey45
            have h := h y45 ey45
            refine ⟨fun hc => ?_, fun hc => ?_⟩
            · have h := h.1 hc
              show WP l mX1_isMultiple (rm d 0 0) noX _ 0 0 50 [(2, t), (0, y5), (0, y42), (0, y44), (3, 0), (3, 0), (3, 0), (3, 0), (3, 0)] [(0, (shrI (subI 63 y45) 1)), (0, 5)] N Λ σ31
              refine r_imul d_X1_isMultiple_50 ?_
              refine r_nm (fun y46 ey46 => ?_)
              have h := h y46 ey46
              refine r_istore (L2 := [(2, t), (0, y5), (0, y42), (0, y44), (0, y46), (3, 0), (3, 0), (3, 0), (3, 0)]) d_X1_isMultiple_51 (by decide) rfl rfl ?_
              refine r_lconst d_X1_isMultiple_53 ?_
              skip
              refine r_lstore (L2 := [(2, t), (0, y5), (0, y42), (0, y44), (0, y46), (1, 0), (3, 0), (3, 0), (3, 0)]) d_X1_isMultiple_54 (by decide) rfl rfl ?_
              refine r_iconst (x := 0) d_X1_isMultiple_56 ⟨by decide, by decide⟩ ?_
              refine r_istore (L2 := [(2, t), (0, y5), (0, y42), (0, y44), (0, y46), (1, 0), (3, 0), (0, 0), (3, 0)]) d_X1_isMultiple_57 (by decide) rfl rfl ?_
              exact h
            · have h := h.2 hc
              show WP l mX1_isMultiple (rm d 0 0) noX _ 0 0 50 [(2, t), (0, y5), (0, y42), (0, y44), (3, 0), (3, 0), (3, 0), (3, 0), (3, 0)] [(0, (shrI y45 1)), (0, 5)] N Λ σ31
              refine r_imul d_X1_isMultiple_50 ?_
              refine r_nm (fun y47 ey47 => ?_)
              have h := h y47 ey47
              refine r_istore (L2 := [(2, t), (0, y5), (0, y42), (0, y44), (0, y47), (3, 0), (3, 0), (3, 0), (3, 0)]) d_X1_isMultiple_51 (by decide) rfl rfl ?_
              refine r_lconst d_X1_isMultiple_53 ?_
              skip
              refine r_lstore (L2 := [(2, t), (0, y5), (0, y42), (0, y44), (0, y47), (1, 0), (3, 0), (3, 0), (3, 0)]) d_X1_isMultiple_54 (by decide) rfl rfl ?_
              refine r_iconst (x := 0) d_X1_isMultiple_56 ⟨by decide, by decide⟩ ?_
              refine r_istore (L2 := [(2, t), (0, y5), (0, y42), (0, y44), (0, y47), (1, 0), (3, 0), (0, 0), (3, 0)]) d_X1_isMultiple_57 (by decide) rfl rfl ?_
              exact h
          · have h := h.2 hc
            show WP l mX1_isMultiple (rm d 0 0) noX _ 0 0 40 [(2, t), (0, y5), (0, y42), (3, 0), (3, 0), (3, 0), (3, 0), (3, 0), (3, 0)] [(0, (shrI y43 1)), (0, 5)] N Λ σ31
            refine r_imul d_X1_isMultiple_40 ?_
            refine r_nm (fun y48 ey48 => ?_)
            have h := h y48 ey48
            refine r_istore_n (L2 := [(2, t), (0, y5), (0, y42), (0, y48), (3, 0), (3, 0), (3, 0), (3, 0), (3, 0)]) d_X1_isMultiple_41 (by decide) rfl rfl ?_
            refine r_iconst (x := 5) d_X1_isMultiple_42 ⟨by decide, by decide⟩ ?_
            refine r_aload_n (x := t) d_X1_isMultiple_43 rfl o_t.1 ?_
            refine r_iconst (x := 1) d_X1_isMultiple_44 ⟨by decide, by decide⟩ ?_
            refine r_iconst (x := 2) d_X1_isMultiple_45 ⟨by decide, by decide⟩ ?_
            refine r_iconst (x := 3) d_X1_isMultiple_46 ⟨by decide, by decide⟩ ?_
            refine x_callVI (Y2 := mX1_besideFirst) (c := t) (As := [(0, 1), (0, 2), (0, 3)]) (S := [(0, 5)]) d_X1_isMultiple_47 ok_mX1_besideFirst ml_X1_119 rfl (Nat.le_of_ble_eq_true rfl) (Nat.le_of_ble_eq_true rfl) rfl hd_1 kX1 o_t (c_X1_besideFirst (v_X1_besideFirst_0 o_t f_t_row ?_))
            refine ⟨h.1, ?_⟩
            have h := h.2
            refine ⟨h.1, ?_⟩
            have h := h.2
            refine ⟨h.1, ?_⟩
            have h := h.2
            intro y49 ey49
            have h := h y49 ey49
            refine ⟨fun hc => ?_, fun hc => ?_⟩
            · have h := h.1 hc
              show WP l mX1_isMultiple (rm d 0 0) noX _ 0 0 50 [(2, t), (0, y5), (0, y42), (0, y48), (3, 0), (3, 0), (3, 0), (3, 0), (3, 0)] [(0, (shrI (subI 63 y49) 1)), (0, 5)] N Λ σ31
              refine r_imul d_X1_isMultiple_50 ?_
              refine r_nm (fun y50 ey50 => ?_)
              have h := h y50 ey50
              refine r_istore (L2 := [(2, t), (0, y5), (0, y42), (0, y48), (0, y50), (3, 0), (3, 0), (3, 0), (3, 0)]) d_X1_isMultiple_51 (by decide) rfl rfl ?_
              refine r_lconst d_X1_isMultiple_53 ?_
              skip
              refine r_lstore (L2 := [(2, t), (0, y5), (0, y42), (0, y48), (0, y50), (1, 0), (3, 0), (3, 0), (3, 0)]) d_X1_isMultiple_54 (by decide) rfl rfl ?_
              refine r_iconst (x := 0) d_X1_isMultiple_56 ⟨by decide, by decide⟩ ?_
              refine r_istore (L2 := [(2, t), (0, y5), (0, y42), (0, y48), (0, y50), (1, 0), (3, 0), (0, 0), (3, 0)]) d_X1_isMultiple_57 (by decide) rfl rfl ?_
              exact h
            · have h := h.2 hc
              show WP l mX1_isMultiple (rm d 0 0) noX _ 0 0 50 [(2, t), (0, y5), (0, y42), (0, y48), (3, 0), (3, 0), (3, 0), (3, 0), (3, 0)] [(0, (shrI y49 1)), (0, 5)] N Λ σ31
              refine r_imul d_X1_isMultiple_50 ?_
              refine r_nm (fun y51 ey51 => ?_)
              have h := h y51 ey51
              refine r_istore (L2 := [(2, t), (0, y5), (0, y42), (0, y48), (0, y51), (3, 0), (3, 0), (3, 0), (3, 0)]) d_X1_isMultiple_51 (by decide) rfl rfl ?_
              refine r_lconst d_X1_isMultiple_53 ?_
              skip
              refine r_lstore (L2 := [(2, t), (0, y5), (0, y42), (0, y48), (0, y51), (1, 0), (3, 0), (3, 0), (3, 0)]) d_X1_isMultiple_54 (by decide) rfl rfl ?_
              refine r_iconst (x := 0) d_X1_isMultiple_56 ⟨by decide, by decide⟩ ?_
              refine r_istore (L2 := [(2, t), (0, y5), (0, y42), (0, y48), (0, y51), (1, 0), (3, 0), (0, 0), (3, 0)]) d_X1_isMultiple_57 (by decide) rfl rfl ?_
              exact h
    · have h := h.2 hc
      show WP l mX1_isMultiple (rm d 0 0) noX _ 0 0 14 [(2, t), (3, 0), (3, 0), (3, 0), (3, 0), (3, 0), (3, 0), (3, 0), (3, 0)] [(0, (-1)), (0, 1)] N Λ σ4
      refine r_imul d_X1_isMultiple_14 ?_
      refine r_nm (fun y52 ey52 => ?_)
      have h := h y52 ey52
      refine r_istore_n (L2 := [(2, t), (0, y52), (3, 0), (3, 0), (3, 0), (3, 0), (3, 0), (3, 0), (3, 0)]) d_X1_isMultiple_15 (by decide) rfl rfl ?_
      refine r_aload_n (x := t) d_X1_isMultiple_16 rfl o_t.1 ?_
      refine r_iconst (x := 1) d_X1_isMultiple_17 ⟨by decide, by decide⟩ ?_
      refine r_iconst (x := 2) d_X1_isMultiple_18 ⟨by decide, by decide⟩ ?_
      refine r_iconst (x := 3) d_X1_isMultiple_19 ⟨by decide, by decide⟩ ?_
      refine x_callVI (Y2 := mX1_signOf) (c := t) (As := [(0, 1), (0, 2), (0, 3)]) (S := []) d_X1_isMultiple_20 ok_mX1_signOf ml_X1_115 rfl (Nat.le_of_ble_eq_true rfl) (Nat.le_of_ble_eq_true rfl) rfl hd_1 kX1 o_t (c_X1_signOf (v_X1_signOf_0 o_t f_t_row he_1 ?_))
      refine ⟨h.1, ?_⟩
      have h := h.2
      refine ⟨h.1, ?_⟩
      have h := h.2
      refine ⟨h.1, ?_⟩
      have h := h.2
      refine CI.mono h (fun v53 σ54 h => ?_)
      refine ⟨fun hc => ?_, fun hc => ?_⟩
      · have h := h.1 hc
        show WP l mX1_isMultiple (rm d 0 0) noX _ 0 0 23 [(2, t), (0, y52), (3, 0), (3, 0), (3, 0), (3, 0), (3, 0), (3, 0), (3, 0)] [(0, 1)] N Λ σ54
        refine r_aload_n (x := t) d_X1_isMultiple_23 rfl o_t.1 ?_
        refine r_iconst (x := 0) d_X1_isMultiple_24 ⟨by decide, by decide⟩ ?_
        refine r_iconst (x := 4) d_X1_isMultiple_25 ⟨by decide, by decide⟩ ?_
        refine r_iconst (x := 5) d_X1_isMultiple_26 ⟨by decide, by decide⟩ ?_
        refine x_callVI (Y2 := mX1_signOf) (c := t) (As := [(0, 0), (0, 4), (0, 5)]) (S := [(0, 1)]) d_X1_isMultiple_27 ok_mX1_signOf ml_X1_115 rfl (Nat.le_of_ble_eq_true rfl) (Nat.le_of_ble_eq_true rfl) rfl hd_1 kX1 o_t (c_X1_signOf (v_X1_signOf_0 o_t f_t_row he_1 ?_))
        refine ⟨h.1, ?_⟩
        have h := h.2
        refine ⟨h.1, ?_⟩
        have h := h.2
        refine ⟨h.1, ?_⟩
        have h := h.2
        refine CI.mono h (fun v55 σ56 h => ?_)
        refine ⟨fun hc => ?_, fun hc => ?_⟩
        · have h := h.1 hc
          show WP l mX1_isMultiple (rm d 0 0) noX _ 0 0 30 [(2, t), (0, y52), (3, 0), (3, 0), (3, 0), (3, 0), (3, 0), (3, 0), (3, 0)] [(0, 1), (0, 1)] N Λ σ56
          refine r_imul d_X1_isMultiple_30 ?_
          refine r_nm (fun y57 ey57 => ?_)
          have h := h y57 ey57
          refine r_istore_n (L2 := [(2, t), (0, y52), (0, y57), (3, 0), (3, 0), (3, 0), (3, 0), (3, 0), (3, 0)]) d_X1_isMultiple_31 (by decide) rfl rfl ?_
          refine r_iconst (x := 5) d_X1_isMultiple_32 ⟨by decide, by decide⟩ ?_
          refine r_aload_n (x := t) d_X1_isMultiple_33 rfl o_t.1 ?_
          refine r_iconst (x := 0) d_X1_isMultiple_34 ⟨by decide, by decide⟩ ?_
          refine r_iconst (x := 2) d_X1_isMultiple_35 ⟨by decide, by decide⟩ ?_
          refine r_iconst (x := 3) d_X1_isMultiple_36 ⟨by decide, by decide⟩ ?_
          refine x_callVI (Y2 := mX1_besideFirst) (c := t) (As := [(0, 0), (0, 2), (0, 3)]) (S := [(0, 5)]) d_X1_isMultiple_37 ok_mX1_besideFirst ml_X1_119 rfl (Nat.le_of_ble_eq_true rfl) (Nat.le_of_ble_eq_true rfl) rfl hd_1 kX1 o_t (c_X1_besideFirst (v_X1_besideFirst_0 o_t f_t_row ?_))
          refine ⟨h.1, ?_⟩
          have h := h.2
          refine ⟨h.1, ?_⟩
          have h := h.2
          refine ⟨h.1, ?_⟩
          have h := h.2
          intro y58 ey58
          have h := h y58 ey58
          refine ⟨fun hc => ?_, fun hc => ?_⟩
          · have h := h.1 hc
            show WP l mX1_isMultiple (rm d 0 0) noX _ 0 0 40 [(2, t), (0, y52), (0, y57), (3, 0), (3, 0), (3, 0), (3, 0), (3, 0), (3, 0)] [(0, (shrI (subI 63 y58) 1)), (0, 5)] N Λ σ56
            refine r_imul d_X1_isMultiple_40 ?_
            refine r_nm (fun y59 ey59 => ?_)
            have h := h y59 ey59
            refine r_istore_n (L2 := [(2, t), (0, y52), (0, y57), (0, y59), (3, 0), (3, 0), (3, 0), (3, 0), (3, 0)]) d_X1_isMultiple_41 (by decide) rfl rfl ?_
            refine r_iconst (x := 5) d_X1_isMultiple_42 ⟨by decide, by decide⟩ ?_
            refine r_aload_n (x := t) d_X1_isMultiple_43 rfl o_t.1 ?_
            refine r_iconst (x := 1) d_X1_isMultiple_44 ⟨by decide, by decide⟩ ?_
            refine r_iconst (x := 2) d_X1_isMultiple_45 ⟨by decide, by decide⟩ ?_
            refine r_iconst (x := 3) d_X1_isMultiple_46 ⟨by decide, by decide⟩ ?_
            refine x_callVI (Y2 := mX1_besideFirst) (c := t) (As := [(0, 1), (0, 2), (0, 3)]) (S := [(0, 5)]) d_X1_isMultiple_47 ok_mX1_besideFirst ml_X1_119 rfl (Nat.le_of_ble_eq_true rfl) (Nat.le_of_ble_eq_true rfl) rfl hd_1 kX1 o_t (c_X1_besideFirst (v_X1_besideFirst_0 o_t f_t_row ?_))
            refine ⟨h.1, ?_⟩
            have h := h.2
            refine ⟨h.1, ?_⟩
            have h := h.2
            refine ⟨h.1, ?_⟩
            have h := h.2
            intro y60 ey60
            have h := h y60 ey60
            refine ⟨fun hc => ?_, fun hc => ?_⟩
            · have h := h.1 hc
              show WP l mX1_isMultiple (rm d 0 0) noX _ 0 0 50 [(2, t), (0, y52), (0, y57), (0, y59), (3, 0), (3, 0), (3, 0), (3, 0), (3, 0)] [(0, (shrI (subI 63 y60) 1)), (0, 5)] N Λ σ56
              refine r_imul d_X1_isMultiple_50 ?_
              refine r_nm (fun y61 ey61 => ?_)
              have h := h y61 ey61
              refine r_istore (L2 := [(2, t), (0, y52), (0, y57), (0, y59), (0, y61), (3, 0), (3, 0), (3, 0), (3, 0)]) d_X1_isMultiple_51 (by decide) rfl rfl ?_
              refine r_lconst d_X1_isMultiple_53 ?_
              skip
              refine r_lstore (L2 := [(2, t), (0, y52), (0, y57), (0, y59), (0, y61), (1, 0), (3, 0), (3, 0), (3, 0)]) d_X1_isMultiple_54 (by decide) rfl rfl ?_
              refine r_iconst (x := 0) d_X1_isMultiple_56 ⟨by decide, by decide⟩ ?_
              refine r_istore (L2 := [(2, t), (0, y52), (0, y57), (0, y59), (0, y61), (1, 0), (3, 0), (0, 0), (3, 0)]) d_X1_isMultiple_57 (by decide) rfl rfl ?_
              exact h
            · have h := h.2 hc
              show WP l mX1_isMultiple (rm d 0 0) noX _ 0 0 50 [(2, t), (0, y52), (0, y57), (0, y59), (3, 0), (3, 0), (3, 0), (3, 0), (3, 0)] [(0, (shrI y60 1)), (0, 5)] N Λ σ56
              refine r_imul d_X1_isMultiple_50 ?_
              refine r_nm (fun y62 ey62 => ?_)
              have h := h y62 ey62
              refine r_istore (L2 := [(2, t), (0, y52), (0, y57), (0, y59), (0, y62), (3, 0), (3, 0), (3, 0), (3, 0)]) d_X1_isMultiple_51 (by decide) rfl rfl ?_
              refine r_lconst d_X1_isMultiple_53 ?_
              skip
              refine r_lstore (L2 := [(2, t), (0, y52), (0, y57), (0, y59), (0, y62), (1, 0), (3, 0), (3, 0), (3, 0)]) d_X1_isMultiple_54 (by decide) rfl rfl ?_
              refine r_iconst (x := 0) d_X1_isMultiple_56 ⟨by decide, by decide⟩ ?_
              refine r_istore (L2 := [(2, t), (0, y52), (0, y57), (0, y59), (0, y62), (1, 0), (3, 0), (0, 0), (3, 0)]) d_X1_isMultiple_57 (by decide) rfl rfl ?_
              exact h
          · have h := h.2 hc
            show WP l mX1_isMultiple (rm d 0 0) noX _ 0 0 40 [(2, t), (0, y52), (0, y57), (3, 0), (3, 0), (3, 0), (3, 0), (3, 0), (3, 0)] [(0, (shrI y58 1)), (0, 5)] N Λ σ56
            refine r_imul d_X1_isMultiple_40 ?_
            refine r_nm (fun y63 ey63 => ?_)
            have h := h y63 ey63
            refine r_istore_n (L2 := [(2, t), (0, y52), (0, y57), (0, y63), (3, 0), (3, 0), (3, 0), (3, 0), (3, 0)]) d_X1_isMultiple_41 (by decide) rfl rfl ?_
            refine r_iconst (x := 5) d_X1_isMultiple_42 ⟨by decide, by decide⟩ ?_
            refine r_aload_n (x := t) d_X1_isMultiple_43 rfl o_t.1 ?_
            refine r_iconst (x := 1) d_X1_isMultiple_44 ⟨by decide, by decide⟩ ?_
            refine r_iconst (x := 2) d_X1_isMultiple_45 ⟨by decide, by decide⟩ ?_
            refine r_iconst (x := 3) d_X1_isMultiple_46 ⟨by decide, by decide⟩ ?_
            refine x_callVI (Y2 := mX1_besideFirst) (c := t) (As := [(0, 1), (0, 2), (0, 3)]) (S := [(0, 5)]) d_X1_isMultiple_47 ok_mX1_besideFirst ml_X1_119 rfl (Nat.le_of_ble_eq_true rfl) (Nat.le_of_ble_eq_true rfl) rfl hd_1 kX1 o_t (c_X1_besideFirst (v_X1_besideFirst_0 o_t f_t_row ?_))
            refine ⟨h.1, ?_⟩
            have h := h.2
            refine ⟨h.1, ?_⟩
            have h := h.2
            refine ⟨h.1, ?_⟩
            have h := h.2
            intro y64 ey64
            have h := h y64 ey64
            refine ⟨fun hc => ?_, fun hc => ?_⟩
            · have h := h.1 hc
              show WP l mX1_isMultiple (rm d 0 0) noX _ 0 0 50 [(2, t), (0, y52), (0, y57), (0, y63), (3, 0), (3, 0), (3, 0), (3, 0), (3, 0)] [(0, (shrI (subI 63 y64) 1)), (0, 5)] N Λ σ56
              refine r_imul d_X1_isMultiple_50 ?_
              refine r_nm (fun y65 ey65 => ?_)
              have h := h y65 ey65
              refine r_istore (L2 := [(2, t), (0, y52), (0, y57), (0, y63), (0, y65), (3, 0), (3, 0), (3, 0), (3, 0)]) d_X1_isMultiple_51 (by decide) rfl rfl ?_
              refine r_lconst d_X1_isMultiple_53 ?_
              skip
              refine r_lstore (L2 := [(2, t), (0, y52), (0, y57), (0, y63), (0, y65), (1, 0), (3, 0), (3, 0), (3, 0)]) d_X1_isMultiple_54 (by decide) rfl rfl ?_
              refine r_iconst (x := 0) d_X1_isMultiple_56 ⟨by decide, by decide⟩ ?_
              refine r_istore (L2 := [(2, t), (0, y52), (0, y57), (0, y63), (0, y65), (1, 0), (3, 0), (0, 0), (3, 0)]) d_X1_isMultiple_57 (by decide) rfl rfl ?_
              exact h
            · have h := h.2 hc
              show WP l mX1_isMultiple (rm d 0 0) noX _ 0 0 50 [(2, t), (0, y52), (0, y57), (0, y63), (3, 0), (3, 0), (3, 0), (3, 0), (3, 0)] [(0, (shrI y64 1)), (0, 5)] N Λ σ56
              refine r_imul d_X1_isMultiple_50 ?_
              refine r_nm (fun y66 ey66 => ?_)
              have h := h y66 ey66
              refine r_istore (L2 := [(2, t), (0, y52), (0, y57), (0, y63), (0, y66), (3, 0), (3, 0), (3, 0), (3, 0)]) d_X1_isMultiple_51 (by decide) rfl rfl ?_
              refine r_lconst d_X1_isMultiple_53 ?_
              skip
              refine r_lstore (L2 := [(2, t), (0, y52), (0, y57), (0, y63), (0, y66), (1, 0), (3, 0), (3, 0), (3, 0)]) d_X1_isMultiple_54 (by decide) rfl rfl ?_
              refine r_iconst (x := 0) d_X1_isMultiple_56 ⟨by decide, by decide⟩ ?_
              refine r_istore (L2 := [(2, t), (0, y52), (0, y57), (0, y63), (0, y66), (1, 0), (3, 0), (0, 0), (3, 0)]) d_X1_isMultiple_57 (by decide) rfl rfl ?_
              exact h
        · have h := h.2 hc
          show WP l mX1_isMultiple (rm d 0 0) noX _ 0 0 30 [(2, t), (0, y52), (3, 0), (3, 0), (3, 0), (3, 0), (3, 0), (3, 0), (3, 0)] [(0, (-1)), (0, 1)] N Λ σ56
          refine r_imul d_X1_isMultiple_30 ?_
          refine r_nm (fun y67 ey67 => ?_)
          have h := h y67 ey67
          refine r_istore_n (L2 := [(2, t), (0, y52), (0, y67), (3, 0), (3, 0), (3, 0), (3, 0), (3, 0), (3, 0)]) d_X1_isMultiple_31 (by decide) rfl rfl ?_
          refine r_iconst (x := 5) d_X1_isMultiple_32 ⟨by decide, by decide⟩ ?_
          refine r_aload_n (x := t) d_X1_isMultiple_33 rfl o_t.1 ?_
          refine r_iconst (x := 0) d_X1_isMultiple_34 ⟨by decide, by decide⟩ ?_
          refine r_iconst (x := 2) d_X1_isMultiple_35 ⟨by decide, by decide⟩ ?_
          refine r_iconst (x := 3) d_X1_isMultiple_36 ⟨by decide, by decide⟩ ?_
          refine x_callVI (Y2 := mX1_besideFirst) (c := t) (As := [(0, 0), (0, 2), (0, 3)]) (S := [(0, 5)]) d_X1_isMultiple_37 ok_mX1_besideFirst ml_X1_119 rfl (Nat.le_of_ble_eq_true rfl) (Nat.le_of_ble_eq_true rfl) rfl hd_1 kX1 o_t (c_X1_besideFirst (v_X1_besideFirst_0 o_t f_t_row ?_))
          refine ⟨h.1, ?_⟩
          have h := h.2
          refine ⟨h.1, ?_⟩
          have h := h.2
          refine ⟨h.1, ?_⟩
          have h := h.2
          intro y68 ey68
          have h := h y68 ey68
          refine ⟨fun hc => ?_, fun hc => ?_⟩
          · have h := h.1 hc
            show WP l mX1_isMultiple (rm d 0 0) noX _ 0 0 40 [(2, t), (0, y52), (0, y67), (3, 0), (3, 0), (3, 0), (3, 0), (3, 0), (3, 0)] [(0, (shrI (subI 63 y68) 1)), (0, 5)] N Λ σ56
            refine r_imul d_X1_isMultiple_40 ?_
            refine r_nm (fun y69 ey69 => ?_)
            have h := h y69 ey69
            refine r_istore_n (L2 := [(2, t), (0, y52), (0, y67), (0, y69), (3, 0), (3, 0), (3, 0), (3, 0), (3, 0)]) d_X1_isMultiple_41 (by decide) rfl rfl ?_
            refine r_iconst (x := 5) d_X1_isMultiple_42 ⟨by decide, by decide⟩ ?_
            refine r_aload_n (x := t) d_X1_isMultiple_43 rfl o_t.1 ?_
            refine r_iconst (x := 1) d_X1_isMultiple_44 ⟨by decide, by decide⟩ ?_
            refine r_iconst (x := 2) d_X1_isMultiple_45 ⟨by decide, by decide⟩ ?_
            refine r_iconst (x := 3) d_X1_isMultiple_46 ⟨by decide, by decide⟩ ?_
            refine x_callVI (Y2 := mX1_besideFirst) (c := t) (As := [(0, 1), (0, 2), (0, 3)]) (S := [(0, 5)]) d_X1_isMultiple_47 ok_mX1_besideFirst ml_X1_119 rfl (Nat.le_of_ble_eq_true rfl) (Nat.le_of_ble_eq_true rfl) rfl hd_1 kX1 o_t (c_X1_besideFirst (v_X1_besideFirst_0 o_t f_t_row ?_))
            refine ⟨h.1, ?_⟩
            have h := h.2
            refine ⟨h.1, ?_⟩
            have h := h.2
            refine ⟨h.1, ?_⟩
            have h := h.2
            intro y70 ey70
            have h := h y70 ey70
            refine ⟨fun hc => ?_, fun hc => ?_⟩
            · have h := h.1 hc
              show WP l mX1_isMultiple (rm d 0 0) noX _ 0 0 50 [(2, t), (0, y52), (0, y67), (0, y69), (3, 0), (3, 0), (3, 0), (3, 0), (3, 0)] [(0, (shrI (subI 63 y70) 1)), (0, 5)] N Λ σ56
              refine r_imul d_X1_isMultiple_50 ?_
              refine r_nm (fun y71 ey71 => ?_)
              have h := h y71 ey71
              refine r_istore (L2 := [(2, t), (0, y52), (0, y67), (0, y69), (0, y71), (3, 0), (3, 0), (3, 0), (3, 0)]) d_X1_isMultiple_51 (by decide) rfl rfl ?_
              refine r_lconst d_X1_isMultiple_53 ?_
              skip
              refine r_lstore (L2 := [(2, t), (0, y52), (0, y67), (0, y69), (0, y71), (1, 0), (3, 0), (3, 0), (3, 0)]) d_X1_isMultiple_54 (by decide) rfl rfl ?_
              refine r_iconst (x := 0) d_X1_isMultiple_56 ⟨by decide, by decide⟩ ?_
              refine r_istore (L2 := [(2, t), (0, y52), (0, y67), (0, y69), (0, y71), (1, 0), (3, 0), (0, 0), (3, 0)]) d_X1_isMultiple_57 (by decide) rfl rfl ?_
              exact h
            · have h := h.2 hc
              show WP l mX1_isMultiple (rm d 0 0) noX _ 0 0 50 [(2, t), (0, y52), (0, y67), (0, y69), (3, 0), (3, 0), (3, 0), (3, 0), (3, 0)] [(0, (shrI y70 1)), (0, 5)] N Λ σ56
              refine r_imul d_X1_isMultiple_50 ?_
              refine r_nm (fun y72 ey72 => ?_)
              have h := h y72 ey72
              refine r_istore (L2 := [(2, t), (0, y52), (0, y67), (0, y69), (0, y72), (3, 0), (3, 0), (3, 0), (3, 0)]) d_X1_isMultiple_51 (by decide) rfl rfl ?_
              refine r_lconst d_X1_isMultiple_53 ?_
              skip
              refine r_lstore (L2 := [(2, t), (0, y52), (0, y67), (0, y69), (0, y72), (1, 0), (3, 0), (3, 0), (3, 0)]) d_X1_isMultiple_54 (by decide) rfl rfl ?_
              refine r_iconst (x := 0) d_X1_isMultiple_56 ⟨by decide, by decide⟩ ?_
              refine r_istore (L2 := [(2, t), (0, y52), (0, y67), (0, y69), (0, y72), (1, 0), (3, 0), (0, 0), (3, 0)]) d_X1_isMultiple_57 (by decide) rfl rfl ?_
              exact h
          · have h := h.2 hc
            show WP l mX1_isMultiple (rm d 0 0) noX _ 0 0 40 [(2, t), (0, y52), (0, y67), (3, 0), (3, 0), (3, 0), (3, 0), (3, 0), (3, 0)] [(0, (shrI y68 1)), (0, 5)] N Λ σ56
            refine r_imul d_X1_isMultiple_40 ?_
            refine r_nm (fun y73 ey73 => ?_)
            have h := h y73 ey73
            refine r_istore_n (L2 := [(2, t), (0, y52), (0, y67), (0, y73), (3, 0), (3, 0), (3, 0), (3, 0), (3, 0)]) d_X1_isMultiple_41 (by decide) rfl rfl ?_
            refine r_iconst (x := 5) d_X1_isMultiple_42 ⟨by decide, by decide⟩ ?_
            refine r_aload_n (x := t) d_X1_isMultiple_43 rfl o_t.1 ?_
            refine r_iconst (x := 1) d_X1_isMultiple_44 ⟨by decide, by decide⟩ ?_
            refine r_iconst (x := 2) d_X1_isMultiple_45 ⟨by decide, by decide⟩ ?_
            refine r_iconst (x := 3) d_X1_isMultiple_46 ⟨by decide, by decide⟩ ?_
            refine x_callVI (Y2 := mX1_besideFirst) (c := t) (As := [(0, 1), (0, 2), (0, 3)]) (S := [(0, 5)]) d_X1_isMultiple_47 ok_mX1_besideFirst ml_X1_119 rfl (Nat.le_of_ble_eq_true rfl) (Nat.le_of_ble_eq_true rfl) rfl hd_1 kX1 o_t (c_X1_besideFirst (v_X1_besideFirst_0 o_t f_t_row ?_))
            refine ⟨h.1, ?_⟩
            have h := h.2
            refine ⟨h.1, ?_⟩
            have h := h.2
            refine ⟨h.1, ?_⟩
            have h := h.2
            intro y74 ey74
            have h := h y74 ey74
            refine ⟨fun hc => ?_, fun hc => ?_⟩
            · have h := h.1 hc
              show WP l mX1_isMultiple (rm d 0 0) noX _ 0 0 50 [(2, t), (0, y52), (0, y67), (0, y73), (3, 0), (3, 0), (3, 0), (3, 0), (3, 0)] [(0, (shrI (subI 63 y74) 1)), (0, 5)] N Λ σ56
              refine r_imul d_X1_isMultiple_50 ?_
              refine r_nm (fun y75 ey75 => ?_)
              have h := h y75 ey75
              refine r_istore (L2 := [(2, t), (0, y52), (0, y67), (0, y73), (0, y75), (3, 0), (3, 0), (3, 0), (3, 0)]) d_X1_isMultiple_51 (by decide) rfl rfl ?_
              refine r_lconst d_X1_isMultiple_53 ?_
              skip
              refine r_lstore (L2 := [(2, t), (0, y52), (0, y67), (0, y73), (0, y75), (1, 0), (3, 0), (3, 0), (3, 0)]) d_X1_isMultiple_54 (by decide) rfl rfl ?_
              refine r_iconst (x := 0) d_X1_isMultiple_56 ⟨by decide, by decide⟩ ?_
              refine r_istore (L2 := [(2, t), (0, y52), (0, y67), (0, y73), (0, y75), (1, 0), (3, 0), (0, 0), (3, 0)]) d_X1_isMultiple_57 (by decide) rfl rfl ?_
              exact h
            · have h := h.2 hc
              show WP l mX1_isMultiple (rm d 0 0) noX _ 0 0 50 [(2, t), (0, y52), (0, y67), (0, y73), (3, 0), (3, 0), (3, 0), (3, 0), (3, 0)] [(0, (shrI y74 1)), (0, 5)] N Λ σ56
              refine r_imul d_X1_isMultiple_50 ?_
              refine r_nm (fun y76 ey76 => ?_)
              have h := h y76 ey76
              refine r_istore (L2 := [(2, t), (0, y52), (0, y67), (0, y73), (0, y76), (3, 0), (3, 0), (3, 0), (3, 0)]) d_X1_isMultiple_51 (by decide) rfl rfl ?_
              refine r_lconst d_X1_isMultiple_53 ?_
              skip
              refine r_lstore (L2 := [(2, t), (0, y52), (0, y67), (0, y73), (0, y76), (1, 0), (3, 0), (3, 0), (3, 0)]) d_X1_isMultiple_54 (by decide) rfl rfl ?_
              refine r_iconst (x := 0) d_X1_isMultiple_56 ⟨by decide, by decide⟩ ?_
              refine r_istore (L2 := [(2, t), (0, y52), (0, y67), (0, y73), (0, y76), (1, 0), (3, 0), (0, 0), (3, 0)]) d_X1_isMultiple_57 (by decide) rfl rfl ?_
              exact h
      · have h := h.2 hc
        show WP l mX1_isMultiple (rm d 0 0) noX _ 0 0 23 [(2, t), (0, y52), (3, 0), (3, 0), (3, 0), (3, 0), (3, 0), (3, 0), (3, 0)] [(0, (-1))] N Λ σ54
        refine r_aload_n (x := t) d_X1_isMultiple_23 rfl o_t.1 ?_
        refine r_iconst (x := 0) d_X1_isMultiple_24 ⟨by decide, by decide⟩ ?_
        refine r_iconst (x := 4) d_X1_isMultiple_25 ⟨by decide, by decide⟩ ?_
        refine r_iconst (x := 5) d_X1_isMultiple_26 ⟨by decide, by decide⟩ ?_
        refine x_callVI (Y2 := mX1_signOf) (c := t) (As := [(0, 0), (0, 4), (0, 5)]) (S := [(0, (-1))]) d_X1_isMultiple_27 ok_mX1_signOf ml_X1_115 rfl (Nat.le_of_ble_eq_true rfl) (Nat.le_of_ble_eq_true rfl) rfl hd_1 kX1 o_t (c_X1_signOf (v_X1_signOf_0 o_t f_t_row he_1 ?_))
        refine ⟨h.1, ?_⟩
        have h := h.2
        refine ⟨h.1, ?_⟩
        have h := h.2
        refine ⟨h.1, ?_⟩
        have h := h.2
        refine CI.mono h (fun v77 σ78 h => ?_)
        refine ⟨fun hc => ?_, fun hc => ?_⟩
        · have h := h.1 hc
          show WP l mX1_isMultiple (rm d 0 0) noX _ 0 0 30 [(2, t), (0, y52), (3, 0), (3, 0), (3, 0), (3, 0), (3, 0), (3, 0), (3, 0)] [(0, 1), (0, (-1))] N Λ σ78
          refine r_imul d_X1_isMultiple_30 ?_
          refine r_nm (fun y79 ey79 => ?_)
          have h := h y79 ey79
          refine r_istore_n (L2 := [(2, t), (0, y52), (0, y79), (3, 0), (3, 0), (3, 0), (3, 0), (3, 0), (3, 0)]) d_X1_isMultiple_31 (by decide) rfl rfl ?_
          refine r_iconst (x := 5) d_X1_isMultiple_32 ⟨by decide, by decide⟩ ?_
          refine r_aload_n (x := t) d_X1_isMultiple_33 rfl o_t.1 ?_
          refine r_iconst (x := 0) d_X1_isMultiple_34 ⟨by decide, by decide⟩ ?_
          refine r_iconst (x := 2) d_X1_isMultiple_35 ⟨by decide, by decide⟩ ?_
          refine r_iconst (x := 3) d_X1_isMultiple_36 ⟨by decide, by decide⟩ ?_
          refine x_callVI (Y2 := mX1_besideFirst) (c := t) (As := [(0, 0), (0, 2), (0, 3)]) (S := [(0, 5)]) d_X1_isMultiple_37 ok_mX1_besideFirst ml_X1_119 rfl (Nat.le_of_ble_eq_true rfl) (Nat.le_of_ble_eq_true rfl) rfl hd_1 kX1 o_t (c_X1_besideFirst (v_X1_besideFirst_0 o_t f_t_row ?_))
          refine ⟨h.1, ?_⟩
          have h := h.2
          refine ⟨h.1, ?_⟩
          have h := h.2
          refine ⟨h.1, ?_⟩
          have h := h.2
          intro y80 ey80
          have h := h y80 ey80
          refine ⟨fun hc => ?_, fun hc => ?_⟩
          · have h := h.1 hc
            show WP l mX1_isMultiple (rm d 0 0) noX _ 0 0 40 [(2, t), (0, y52), (0, y79), (3, 0), (3, 0), (3, 0), (3, 0), (3, 0), (3, 0)] [(0, (shrI (subI 63 y80) 1)), (0, 5)] N Λ σ78
            refine r_imul d_X1_isMultiple_40 ?_
            refine r_nm (fun y81 ey81 => ?_)
            have h := h y81 ey81
            refine r_istore_n (L2 := [(2, t), (0, y52), (0, y79), (0, y81), (3, 0), (3, 0), (3, 0), (3, 0), (3, 0)]) d_X1_isMultiple_41 (by decide) rfl rfl ?_
            refine r_iconst (x := 5) d_X1_isMultiple_42 ⟨by decide, by decide⟩ ?_
            refine r_aload_n (x := t) d_X1_isMultiple_43 rfl o_t.1 ?_
            refine r_iconst (x := 1) d_X1_isMultiple_44 ⟨by decide, by decide⟩ ?_
            refine r_iconst (x := 2) d_X1_isMultiple_45 ⟨by decide, by decide⟩ ?_
            refine r_iconst (x := 3) d_X1_isMultiple_46 ⟨by decide, by decide⟩ ?_
            refine x_callVI (Y2 := mX1_besideFirst) (c := t) (As := [(0, 1), (0, 2), (0, 3)]) (S := [(0, 5)]) d_X1_isMultiple_47 ok_mX1_besideFirst ml_X1_119 rfl (Nat.le_of_ble_eq_true rfl) (Nat.le_of_ble_eq_true rfl) rfl hd_1 kX1 o_t (c_X1_besideFirst (v_X1_besideFirst_0 o_t f_t_row ?_))
            refine ⟨h.1, ?_⟩
            have h := h.2
            refine ⟨h.1, ?_⟩
            have h := h.2
            refine ⟨h.1, ?_⟩
            have h := h.2
            intro y82 ey82
            have h := h y82 ey82
            refine ⟨fun hc => ?_, fun hc => ?_⟩
            · have h := h.1 hc
              show WP l mX1_isMultiple (rm d 0 0) noX _ 0 0 50 [(2, t), (0, y52), (0, y79), (0, y81), (3, 0), (3, 0), (3, 0), (3, 0), (3, 0)] [(0, (shrI (subI 63 y82) 1)), (0, 5)] N Λ σ78
              refine r_imul d_X1_isMultiple_50 ?_
              refine r_nm (fun y83 ey83 => ?_)
              have h := h y83 ey83
              refine r_istore (L2 := [(2, t), (0, y52), (0, y79), (0, y81), (0, y83), (3, 0), (3, 0), (3, 0), (3, 0)]) d_X1_isMultiple_51 (by decide) rfl rfl ?_
              refine r_lconst d_X1_isMultiple_53 ?_
              skip
              refine r_lstore (L2 := [(2, t), (0, y52), (0, y79), (0, y81), (0, y83), (1, 0), (3, 0), (3, 0), (3, 0)]) d_X1_isMultiple_54 (by decide) rfl rfl ?_
              refine r_iconst (x := 0) d_X1_isMultiple_56 ⟨by decide, by decide⟩ ?_
              refine r_istore (L2 := [(2, t), (0, y52), (0, y79), (0, y81), (0, y83), (1, 0), (3, 0), (0, 0), (3, 0)]) d_X1_isMultiple_57 (by decide) rfl rfl ?_
              exact h
            · have h := h.2 hc
              show WP l mX1_isMultiple (rm d 0 0) noX _ 0 0 50 [(2, t), (0, y52), (0, y79), (0, y81), (3, 0), (3, 0), (3, 0), (3, 0), (3, 0)] [(0, (shrI y82 1)), (0, 5)] N Λ σ78
              refine r_imul d_X1_isMultiple_50 ?_
              refine r_nm (fun y84 ey84 => ?_)
              have h := h y84 ey84
              refine r_istore (L2 := [(2, t), (0, y52), (0, y79), (0, y81), (0, y84), (3, 0), (3, 0), (3, 0), (3, 0)]) d_X1_isMultiple_51 (by decide) rfl rfl ?_
              refine r_lconst d_X1_isMultiple_53 ?_
              skip
              refine r_lstore (L2 := [(2, t), (0, y52), (0, y79), (0, y81), (0, y84), (1, 0), (3, 0), (3, 0), (3, 0)]) d_X1_isMultiple_54 (by decide) rfl rfl ?_
              refine r_iconst (x := 0) d_X1_isMultiple_56 ⟨by decide, by decide⟩ ?_
              refine r_istore (L2 := [(2, t), (0, y52), (0, y79), (0, y81), (0, y84), (1, 0), (3, 0), (0, 0), (3, 0)]) d_X1_isMultiple_57 (by decide) rfl rfl ?_
              exact h
          · have h := h.2 hc
            show WP l mX1_isMultiple (rm d 0 0) noX _ 0 0 40 [(2, t), (0, y52), (0, y79), (3, 0), (3, 0), (3, 0), (3, 0), (3, 0), (3, 0)] [(0, (shrI y80 1)), (0, 5)] N Λ σ78
            refine r_imul d_X1_isMultiple_40 ?_
            refine r_nm (fun y85 ey85 => ?_)
            have h := h y85 ey85
            refine r_istore_n (L2 := [(2, t), (0, y52), (0, y79), (0, y85), (3, 0), (3, 0), (3, 0), (3, 0), (3, 0)]) d_X1_isMultiple_41 (by decide) rfl rfl ?_
            refine r_iconst (x := 5) d_X1_isMultiple_42 ⟨by decide, by decide⟩ ?_
            refine r_aload_n (x := t) d_X1_isMultiple_43 rfl o_t.1 ?_
            refine r_iconst (x := 1) d_X1_isMultiple_44 ⟨by decide, by decide⟩ ?_
            refine r_iconst (x := 2) d_X1_isMultiple_45 ⟨by decide, by decide⟩ ?_
            refine r_iconst (x := 3) d_X1_isMultiple_46 ⟨by decide, by decide⟩ ?_
            refine x_callVI (Y2 := mX1_besideFirst) (c := t) (As := [(0, 1), (0, 2), (0, 3)]) (S := [(0, 5)]) d_X1_isMultiple_47 ok_mX1_besideFirst ml_X1_119 rfl (Nat.le_of_ble_eq_true rfl) (Nat.le_of_ble_eq_true rfl) rfl hd_1 kX1 o_t (c_X1_besideFirst (v_X1_besideFirst_0 o_t f_t_row ?_))
            refine ⟨h.1, ?_⟩
            have h := h.2
            refine ⟨h.1, ?_⟩
            have h := h.2
            refine ⟨h.1, ?_⟩
            have h := h.2
            intro y86 ey86
            have h := h y86 ey86
            refine ⟨fun hc => ?_, fun hc => ?_⟩
            · have h := h.1 hc
              show WP l mX1_isMultiple (rm d 0 0) noX _ 0 0 50 [(2, t), (0, y52), (0, y79), (0, y85), (3, 0), (3, 0), (3, 0), (3, 0), (3, 0)] [(0, (shrI (subI 63 y86) 1)), (0, 5)] N Λ σ78
              refine r_imul d_X1_isMultiple_50 ?_
              refine r_nm (fun y87 ey87 => ?_)
              have h := h y87 ey87
              refine r_istore (L2 := [(2, t), (0, y52), (0, y79), (0, y85), (0, y87), (3, 0), (3, 0), (3, 0), (3, 0)]) d_X1_isMultiple_51 (by decide) rfl rfl ?_
              refine r_lconst d_X1_isMultiple_53 ?_
              skip
              refine r_lstore (L2 := [(2, t), (0, y52), (0, y79), (0, y85), (0, y87), (1, 0), (3, 0), (3, 0), (3, 0)]) d_X1_isMultiple_54 (by decide) rfl rfl ?_
              refine r_iconst (x := 0) d_X1_isMultiple_56 ⟨by decide, by decide⟩ ?_
              refine r_istore (L2 := [(2, t), (0, y52), (0, y79), (0, y85), (0, y87), (1, 0), (3, 0), (0, 0), (3, 0)]) d_X1_isMultiple_57 (by decide) rfl rfl ?_
              exact h
            · have h := h.2 hc
              show WP l mX1_isMultiple (rm d 0 0) noX _ 0 0 50 [(2, t), (0, y52), (0, y79), (0, y85), (3, 0), (3, 0), (3, 0), (3, 0), (3, 0)] [(0, (shrI y86 1)), (0, 5)] N Λ σ78
              refine r_imul d_X1_isMultiple_50 ?_
              refine r_nm (fun y88 ey88 => ?_)
              have h := h y88 ey88
              refine r_istore (L2 := [(2, t), (0, y52), (0, y79), (0, y85), (0, y88), (3, 0), (3, 0), (3, 0), (3, 0)]) d_X1_isMultiple_51 (by decide) rfl rfl ?_
              refine r_lconst d_X1_isMultiple_53 ?_
              skip
              refine r_lstore (L2 := [(2, t), (0, y52), (0, y79), (0, y85), (0, y88), (1, 0), (3, 0), (3, 0), (3, 0)]) d_X1_isMultiple_54 (by decide) rfl rfl ?_
              refine r_iconst (x := 0) d_X1_isMultiple_56 ⟨by decide, by decide⟩ ?_
              refine r_istore (L2 := [(2, t), (0, y52), (0, y79), (0, y85), (0, y88), (1, 0), (3, 0), (0, 0), (3, 0)]) d_X1_isMultiple_57 (by decide) rfl rfl ?_
              exact h
        · have h := h.2 hc
          show WP l mX1_isMultiple (rm d 0 0) noX _ 0 0 30 [(2, t), (0, y52), (3, 0), (3, 0), (3, 0), (3, 0), (3, 0), (3, 0), (3, 0)] [(0, (-1)), (0, (-1))] N Λ σ78
          refine r_imul d_X1_isMultiple_30 ?_
          refine r_nm (fun y89 ey89 => ?_)
          have h := h y89 ey89
          refine r_istore_n (L2 := [(2, t), (0, y52), (0, y89), (3, 0), (3, 0), (3, 0), (3, 0), (3, 0), (3, 0)]) d_X1_isMultiple_31 (by decide) rfl rfl ?_
          refine r_iconst (x := 5) d_X1_isMultiple_32 ⟨by decide, by decide⟩ ?_
          refine r_aload_n (x := t) d_X1_isMultiple_33 rfl o_t.1 ?_
          refine r_iconst (x := 0) d_X1_isMultiple_34 ⟨by decide, by decide⟩ ?_
          refine r_iconst (x := 2) d_X1_isMultiple_35 ⟨by decide, by decide⟩ ?_
          refine r_iconst (x := 3) d_X1_isMultiple_36 ⟨by decide, by decide⟩ ?_
          refine x_callVI (Y2 := mX1_besideFirst) (c := t) (As := [(0, 0), (0, 2), (0, 3)]) (S := [(0, 5)]) d_X1_isMultiple_37 ok_mX1_besideFirst ml_X1_119 rfl (Nat.le_of_ble_eq_true rfl) (Nat.le_of_ble_eq_true rfl) rfl hd_1 kX1 o_t (c_X1_besideFirst (v_X1_besideFirst_0 o_t f_t_row ?_))
          refine ⟨h.1, ?_⟩
          have h := h.2
          refine ⟨h.1, ?_⟩
          have h := h.2
          refine ⟨h.1, ?_⟩
          have h := h.2
          intro y90 ey90
          have h := h y90 ey90
          refine ⟨fun hc => ?_, fun hc => ?_⟩
          · have h := h.1 hc
            show WP l mX1_isMultiple (rm d 0 0) noX _ 0 0 40 [(2, t), (0, y52), (0, y89), (3, 0), (3, 0), (3, 0), (3, 0), (3, 0), (3, 0)] [(0, (shrI (subI 63 y90) 1)), (0, 5)] N Λ σ78
            refine r_imul d_X1_isMultiple_40 ?_
            refine r_nm (fun y91 ey91 => ?_)
            have h := h y91 ey91
            refine r_istore_n (L2 := [(2, t), (0, y52), (0, y89), (0, y91), (3, 0), (3, 0), (3, 0), (3, 0), (3, 0)]) d_X1_isMultiple_41 (by decide) rfl rfl ?_
            refine r_iconst (x := 5) d_X1_isMultiple_42 ⟨by decide, by decide⟩ ?_
            refine r_aload_n (x := t) d_X1_isMultiple_43 rfl o_t.1 ?_
            refine r_iconst (x := 1) d_X1_isMultiple_44 ⟨by decide, by decide⟩ ?_
            refine r_iconst (x := 2) d_X1_isMultiple_45 ⟨by decide, by decide⟩ ?_
            refine r_iconst (x := 3) d_X1_isMultiple_46 ⟨by decide, by decide⟩ ?_
            refine x_callVI (Y2 := mX1_besideFirst) (c := t) (As := [(0, 1), (0, 2), (0, 3)]) (S := [(0, 5)]) d_X1_isMultiple_47 ok_mX1_besideFirst ml_X1_119 rfl (Nat.le_of_ble_eq_true rfl) (Nat.le_of_ble_eq_true rfl) rfl hd_1 kX1 o_t (c_X1_besideFirst (v_X1_besideFirst_0 o_t f_t_row ?_))
            refine ⟨h.1, ?_⟩
            have h := h.2
            refine ⟨h.1, ?_⟩
            have h := h.2
            refine ⟨h.1, ?_⟩
            have h := h.2
            intro y92 ey92
            have h := h y92 ey92
            refine ⟨fun hc => ?_, fun hc => ?_⟩
            · have h := h.1 hc
              show WP l mX1_isMultiple (rm d 0 0) noX _ 0 0 50 [(2, t), (0, y52), (0, y89), (0, y91), (3, 0), (3, 0), (3, 0), (3, 0), (3, 0)] [(0, (shrI (subI 63 y92) 1)), (0, 5)] N Λ σ78
              refine r_imul d_X1_isMultiple_50 ?_
              refine r_nm (fun y93 ey93 => ?_)
              have h := h y93 ey93
              refine r_istore (L2 := [(2, t), (0, y52), (0, y89), (0, y91), (0, y93), (3, 0), (3, 0), (3, 0), (3, 0)]) d_X1_isMultiple_51 (by decide) rfl rfl ?_
              refine r_lconst d_X1_isMultiple_53 ?_
              skip
              refine r_lstore (L2 := [(2, t), (0, y52), (0, y89), (0, y91), (0, y93), (1, 0), (3, 0), (3, 0), (3, 0)]) d_X1_isMultiple_54 (by decide) rfl rfl ?_
              refine r_iconst (x := 0) d_X1_isMultiple_56 ⟨by decide, by decide⟩ ?_
              refine r_istore (L2 := [(2, t), (0, y52), (0, y89), (0, y91), (0, y93), (1, 0), (3, 0), (0, 0), (3, 0)]) d_X1_isMultiple_57 (by decide) rfl rfl ?_
              exact h
            · have h := h.2 hc
              show WP l mX1_isMultiple (rm d 0 0) noX _ 0 0 50 [(2, t), (0, y52), (0, y89), (0, y91), (3, 0), (3, 0), (3, 0), (3, 0), (3, 0)] [(0, (shrI y92 1)), (0, 5)] N Λ σ78
              refine r_imul d_X1_isMultiple_50 ?_
              refine r_nm (fun y94 ey94 => ?_)
              have h := h y94 ey94
              refine r_istore (L2 := [(2, t), (0, y52), (0, y89), (0, y91), (0, y94), (3, 0), (3, 0), (3, 0), (3, 0)]) d_X1_isMultiple_51 (by decide) rfl rfl ?_
              refine r_lconst d_X1_isMultiple_53 ?_
              skip
              refine r_lstore (L2 := [(2, t), (0, y52), (0, y89), (0, y91), (0, y94), (1, 0), (3, 0), (3, 0), (3, 0)]) d_X1_isMultiple_54 (by decide) rfl rfl ?_
              refine r_iconst (x := 0) d_X1_isMultiple_56 ⟨by decide, by decide⟩ ?_
              refine r_istore (L2 := [(2, t), (0, y52), (0, y89), (0, y91), (0, y94), (1, 0), (3, 0), (0, 0), (3, 0)]) d_X1_isMultiple_57 (by decide) rfl rfl ?_
              exact h
          · have h := h.2 hc
            show WP l mX1_isMultiple (rm d 0 0) noX _ 0 0 40 [(2, t), (0, y52), (0, y89), (3, 0), (3, 0), (3, 0), (3, 0), (3, 0), (3, 0)] [(0, (shrI y90 1)), (0, 5)] N Λ σ78
            refine r_imul d_X1_isMultiple_40 ?_
            refine r_nm (fun y95 ey95 => ?_)
            have h := h y95 ey95
            refine r_istore_n (L2 := [(2, t), (0, y52), (0, y89), (0, y95), (3, 0), (3, 0), (3, 0), (3, 0), (3, 0)]) d_X1_isMultiple_41 (by decide) rfl rfl ?_
            refine r_iconst (x := 5) d_X1_isMultiple_42 ⟨by decide, by decide⟩ ?_
            refine r_aload_n (x := t) d_X1_isMultiple_43 rfl o_t.1 ?_
            refine r_iconst (x := 1) d_X1_isMultiple_44 ⟨by decide, by decide⟩ ?_
            refine r_iconst (x := 2) d_X1_isMultiple_45 ⟨by decide, by decide⟩ ?_
            refine r_iconst (x := 3) d_X1_isMultiple_46 ⟨by decide, by decide⟩ ?_
            refine x_callVI (Y2 := mX1_besideFirst) (c := t) (As := [(0, 1), (0, 2), (0, 3)]) (S := [(0, 5)]) d_X1_isMultiple_47 ok_mX1_besideFirst ml_X1_119 rfl (Nat.le_of_ble_eq_true rfl) (Nat.le_of_ble_eq_true rfl) rfl hd_1 kX1 o_t (c_X1_besideFirst (v_X1_besideFirst_0 o_t f_t_row ?_))
            refine ⟨h.1, ?_⟩
            have h := h.2
            refine ⟨h.1, ?_⟩
            have h := h.2
            refine ⟨h.1, ?_⟩
            have h := h.2
            intro y96 ey96
            have h := h y96 ey96
            refine ⟨fun hc => ?_, fun hc => ?_⟩
            · have h := h.1 hc
              show WP l mX1_isMultiple (rm d 0 0) noX _ 0 0 50 [(2, t), (0, y52), (0, y89), (0, y95), (3, 0), (3, 0), (3, 0), (3, 0), (3, 0)] [(0, (shrI (subI 63 y96) 1)), (0, 5)] N Λ σ78
              refine r_imul d_X1_isMultiple_50 ?_
              refine r_nm (fun y97 ey97 => ?_)
              have h := h y97 ey97
              refine r_istore (L2 := [(2, t), (0, y52), (0, y89), (0, y95), (0, y97), (3, 0), (3, 0), (3, 0), (3, 0)]) d_X1_isMultiple_51 (by decide) rfl rfl ?_
              refine r_lconst d_X1_isMultiple_53 ?_
              skip
              refine r_lstore (L2 := [(2, t), (0, y52), (0, y89), (0, y95), (0, y97), (1, 0), (3, 0), (3, 0), (3, 0)]) d_X1_isMultiple_54 (by decide) rfl rfl ?_
              refine r_iconst (x := 0) d_X1_isMultiple_56 ⟨by decide, by decide⟩ ?_
              refine r_istore (L2 := [(2, t), (0, y52), (0, y89), (0, y95), (0, y97), (1, 0), (3, 0), (0, 0), (3, 0)]) d_X1_isMultiple_57 (by decide) rfl rfl ?_
              exact h
            · have h := h.2 hc
              show WP l mX1_isMultiple (rm d 0 0) noX _ 0 0 50 [(2, t), (0, y52), (0, y89), (0, y95), (3, 0), (3, 0), (3, 0), (3, 0), (3, 0)] [(0, (shrI y96 1)), (0, 5)] N Λ σ78
              refine r_imul d_X1_isMultiple_50 ?_
              refine r_nm (fun y98 ey98 => ?_)
              have h := h y98 ey98
              refine r_istore (L2 := [(2, t), (0, y52), (0, y89), (0, y95), (0, y98), (3, 0), (3, 0), (3, 0), (3, 0)]) d_X1_isMultiple_51 (by decide) rfl rfl ?_
              refine r_lconst d_X1_isMultiple_53 ?_
              skip
              refine r_lstore (L2 := [(2, t), (0, y52), (0, y89), (0, y95), (0, y98), (1, 0), (3, 0), (3, 0), (3, 0)]) d_X1_isMultiple_54 (by decide) rfl rfl ?_
              refine r_iconst (x := 0) d_X1_isMultiple_56 ⟨by decide, by decide⟩ ?_
              refine r_istore (L2 := [(2, t), (0, y52), (0, y89), (0, y95), (0, y98), (1, 0), (3, 0), (0, 0), (3, 0)]) d_X1_isMultiple_57 (by decide) rfl rfl ?_
              exact h
  · have h := h.2 hc
    show WP l mX1_isMultiple (rm d 0 0) noX _ 0 0 7 [(2, t), (3, 0), (3, 0), (3, 0), (3, 0), (3, 0), (3, 0), (3, 0), (3, 0)] [(0, (-1))] N Λ σ2
    refine r_aload_n (x := t) d_X1_isMultiple_7 rfl o_t.1 ?_
    refine r_iconst (x := 1) d_X1_isMultiple_8 ⟨by decide, by decide⟩ ?_
    refine r_iconst (x := 4) d_X1_isMultiple_9 ⟨by decide, by decide⟩ ?_
    refine r_iconst (x := 5) d_X1_isMultiple_10 ⟨by decide, by decide⟩ ?_
    refine x_callVI (Y2 := mX1_signOf) (c := t) (As := [(0, 1), (0, 4), (0, 5)]) (S := [(0, (-1))]) d_X1_isMultiple_11 ok_mX1_signOf ml_X1_115 rfl (Nat.le_of_ble_eq_true rfl) (Nat.le_of_ble_eq_true rfl) rfl hd_1 kX1 o_t (c_X1_signOf (v_X1_signOf_0 o_t f_t_row he_1 ?_))
    refine ⟨h.1, ?_⟩
    have h := h.2
    refine ⟨h.1, ?_⟩
    have h := h.2
    refine ⟨h.1, ?_⟩
    have h := h.2
    refine CI.mono h (fun v99 σ100 h => ?_)
    refine ⟨fun hc => ?_, fun hc => ?_⟩
    · have h := h.1 hc
      show WP l mX1_isMultiple (rm d 0 0) noX _ 0 0 14 [(2, t), (3, 0), (3, 0), (3, 0), (3, 0), (3, 0), (3, 0), (3, 0), (3, 0)] [(0, 1), (0, (-1))] N Λ σ100
      refine r_imul d_X1_isMultiple_14 ?_
      refine r_nm (fun y101 ey101 => ?_)
      have h := h y101 ey101
      refine r_istore_n (L2 := [(2, t), (0, y101), (3, 0), (3, 0), (3, 0), (3, 0), (3, 0), (3, 0), (3, 0)]) d_X1_isMultiple_15 (by decide) rfl rfl ?_
      refine r_aload_n (x := t) d_X1_isMultiple_16 rfl o_t.1 ?_
      refine r_iconst (x := 1) d_X1_isMultiple_17 ⟨by decide, by decide⟩ ?_
      refine r_iconst (x := 2) d_X1_isMultiple_18 ⟨by decide, by decide⟩ ?_
      refine r_iconst (x := 3) d_X1_isMultiple_19 ⟨by decide, by decide⟩ ?_
      refine x_callVI (Y2 := mX1_signOf) (c := t) (As := [(0, 1), (0, 2), (0, 3)]) (S := []) d_X1_isMultiple_20 ok_mX1_signOf ml_X1_115 rfl (Nat.le_of_ble_eq_true rfl) (Nat.le_of_ble_eq_true rfl) rfl hd_1 kX1 o_t (c_X1_signOf (v_X1_signOf_0 o_t f_t_row he_1 ?_))
      refine ⟨h.1, ?_⟩
      have h := h.2
      refine ⟨h.1, ?_⟩
      have h := h.2
      refine ⟨h.1, ?_⟩
      have h := h.2
      refine CI.mono h (fun v102 σ103 h => ?_)
      refine ⟨fun hc => ?_, fun hc => ?_⟩
      · have h := h.1 hc
        show WP l mX1_isMultiple (rm d 0 0) noX _ 0 0 23 [(2, t), (0, y101), (3, 0), (3, 0), (3, 0), (3, 0), (3, 0), (3, 0), (3, 0)] [(0, 1)] N Λ σ103
        refine r_aload_n (x := t) d_X1_isMultiple_23 rfl o_t.1 ?_
        refine r_iconst (x := 0) d_X1_isMultiple_24 ⟨by decide, by decide⟩ ?_
        refine r_iconst (x := 4) d_X1_isMultiple_25 ⟨by decide, by decide⟩ ?_
        refine r_iconst (x := 5) d_X1_isMultiple_26 ⟨by decide, by decide⟩ ?_
        refine x_callVI (Y2 := mX1_signOf) (c := t) (As := [(0, 0), (0, 4), (0, 5)]) (S := [(0, 1)]) d_X1_isMultiple_27 ok_mX1_signOf ml_X1_115 rfl (Nat.le_of_ble_eq_true rfl) (Nat.le_of_ble_eq_true rfl) rfl hd_1 kX1 o_t (c_X1_signOf (v_X1_signOf_0 o_t f_t_row he_1 ?_))
        refine ⟨h.1, ?_⟩
        have h := h.2
        refine ⟨h.1, ?_⟩
        have h := h.2
        refine ⟨h.1, ?_⟩
        have h := h.2
        refine CI.mono h (fun v104 σ105 h => ?_)
        refine ⟨fun hc => ?_, fun hc => ?_⟩
        · have h := h.1 hc
          show WP l mX1_isMultiple (rm d 0 0) noX _ 0 0 30 [(2, t), (0, y101), (3, 0), (3, 0), (3, 0), (3, 0), (3, 0), (3, 0), (3, 0)] [(0, 1), (0, 1)] N Λ σ105
          refine r_imul d_X1_isMultiple_30 ?_
          refine r_nm (fun y106 ey106 => ?_)
          have h := h y106 ey106
          refine r_istore_n (L2 := [(2, t), (0, y101), (0, y106), (3, 0), (3, 0), (3, 0), (3, 0), (3, 0), (3, 0)]) d_X1_isMultiple_31 (by decide) rfl rfl ?_
          refine r_iconst (x := 5) d_X1_isMultiple_32 ⟨by decide, by decide⟩ ?_
          refine r_aload_n (x := t) d_X1_isMultiple_33 rfl o_t.1 ?_
          refine r_iconst (x := 0) d_X1_isMultiple_34 ⟨by decide, by decide⟩ ?_
          refine r_iconst (x := 2) d_X1_isMultiple_35 ⟨by decide, by decide⟩ ?_
          refine r_iconst (x := 3) d_X1_isMultiple_36 ⟨by decide, by decide⟩ ?_
          refine x_callVI (Y2 := mX1_besideFirst) (c := t) (As := [(0, 0), (0, 2), (0, 3)]) (S := [(0, 5)]) d_X1_isMultiple_37 ok_mX1_besideFirst ml_X1_119 rfl (Nat.le_of_ble_eq_true rfl) (Nat.le_of_ble_eq_true rfl) rfl hd_1 kX1 o_t (c_X1_besideFirst (v_X1_besideFirst_0 o_t f_t_row ?_))
          refine ⟨h.1, ?_⟩
          have h := h.2
          refine ⟨h.1, ?_⟩
          have h := h.2
          refine ⟨h.1, ?_⟩
          have h := h.2
          intro y107 ey107
          have h := h y107 ey107
          refine ⟨fun hc => ?_, fun hc => ?_⟩
          · have h := h.1 hc
            show WP l mX1_isMultiple (rm d 0 0) noX _ 0 0 40 [(2, t), (0, y101), (0, y106), (3, 0), (3, 0), (3, 0), (3, 0), (3, 0), (3, 0)] [(0, (shrI (subI 63 y107) 1)), (0, 5)] N Λ σ105
            refine r_imul d_X1_isMultiple_40 ?_
            refine r_nm (fun y108 ey108 => ?_)
            have h := h y108 ey108
            refine r_istore_n (L2 := [(2, t), (0, y101), (0, y106), (0, y108), (3, 0), (3, 0), (3, 0), (3, 0), (3, 0)]) d_X1_isMultiple_41 (by decide) rfl rfl ?_
            refine r_iconst (x := 5) d_X1_isMultiple_42 ⟨by decide, by decide⟩ ?_
            refine r_aload_n (x := t) d_X1_isMultiple_43 rfl o_t.1 ?_
            refine r_iconst (x := 1) d_X1_isMultiple_44 ⟨by decide, by decide⟩ ?_
            refine r_iconst (x := 2) d_X1_isMultiple_45 ⟨by decide, by decide⟩ ?_
            refine r_iconst (x := 3) d_X1_isMultiple_46 ⟨by decide, by decide⟩ ?_
            refine x_callVI (Y2 := mX1_besideFirst) (c := t) (As := [(0, 1), (0, 2), (0, 3)]) (S := [(0, 5)]) d_X1_isMultiple_47 ok_mX1_besideFirst ml_X1_119 rfl (Nat.le_of_ble_eq_true rfl) (Nat.le_of_ble_eq_true rfl) rfl hd_1 kX1 o_t (c_X1_besideFirst (v_X1_besideFirst_0 o_t f_t_row ?_))
            refine ⟨h.1, ?_⟩
            have h := h.2
            refine ⟨h.1, ?_⟩
            have h := h.2
            refine ⟨h.1, ?_⟩
            have h := h.2
            intro y109 ey109
            have h := h y109 ey109
            refine ⟨fun hc => ?_, fun hc => ?_⟩
            · have h := h.1 hc
              show WP l mX1_isMultiple (rm d 0 0) noX _ 0 0 50 [(2, t), (0, y101), (0, y106), (0, y108), (3, 0), (3, 0), (3, 0), (3, 0), (3, 0)] [(0, (shrI (subI 63 y109) 1)), (0, 5)] N Λ σ105
              refine r_imul d_X1_isMultiple_50 ?_
              refine r_nm (fun y110 ey110 => ?_)
              have h := h y110 ey110
              refine r_istore (L2 := [(2, t), (0, y101), (0, y106), (0, y108), (0, y110), (3, 0), (3, 0), (3, 0), (3, 0)]) d_X1_isMultiple_51 (by decide) rfl rfl ?_
              refine r_lconst d_X1_isMultiple_53 ?_
              skip
              refine r_lstore (L2 := [(2, t), (0, y101), (0, y106), (0, y108), (0, y110), (1, 0), (3, 0), (3, 0), (3, 0)]) d_X1_isMultiple_54 (by decide) rfl rfl ?_
              refine r_iconst (x := 0) d_X1_isMultiple_56 ⟨by decide, by decide⟩ ?_
              refine r_istore (L2 := [(2, t), (0, y101), (0, y106), (0, y108), (0, y110), (1, 0), (3, 0), (0, 0), (3, 0)]) d_X1_isMultiple_57 (by decide) rfl rfl ?_
              exact h
            · have h := h.2 hc
              show WP l mX1_isMultiple (rm d 0 0) noX _ 0 0 50 [(2, t), (0, y101), (0, y106), (0, y108), (3, 0), (3, 0), (3, 0), (3, 0), (3, 0)] [(0, (shrI y109 1)), (0, 5)] N Λ σ105
              refine r_imul d_X1_isMultiple_50 ?_
              refine r_nm (fun y111 ey111 => ?_)
              have h := h y111 ey111
              refine r_istore (L2 := [(2, t), (0, y101), (0, y106), (0, y108), (0, y111), (3, 0), (3, 0), (3, 0), (3, 0)]) d_X1_isMultiple_51 (by decide) rfl rfl ?_
              refine r_lconst d_X1_isMultiple_53 ?_
              skip
              refine r_lstore (L2 := [(2, t), (0, y101), (0, y106), (0, y108), (0, y111), (1, 0), (3, 0), (3, 0), (3, 0)]) d_X1_isMultiple_54 (by decide) rfl rfl ?_
              refine r_iconst (x := 0) d_X1_isMultiple_56 ⟨by decide, by decide⟩ ?_
              refine r_istore (L2 := [(2, t), (0, y101), (0, y106), (0, y108), (0, y111), (1, 0), (3, 0), (0, 0), (3, 0)]) d_X1_isMultiple_57 (by decide) rfl rfl ?_
              exact h
          · have h := h.2 hc
            show WP l mX1_isMultiple (rm d 0 0) noX _ 0 0 40 [(2, t), (0, y101), (0, y106), (3, 0), (3, 0), (3, 0), (3, 0), (3, 0), (3, 0)] [(0, (shrI y107 1)), (0, 5)] N Λ σ105
            refine r_imul d_X1_isMultiple_40 ?_
            refine r_nm (fun y112 ey112 => ?_)
            have h := h y112 ey112
            refine r_istore_n (L2 := [(2, t), (0, y101), (0, y106), (0, y112), (3, 0), (3, 0), (3, 0), (3, 0), (3, 0)]) d_X1_isMultiple_41 (by decide) rfl rfl ?_
            refine r_iconst (x := 5) d_X1_isMultiple_42 ⟨by decide, by decide⟩ ?_
            refine r_aload_n (x := t) d_X1_isMultiple_43 rfl o_t.1 ?_
            refine r_iconst (x := 1) d_X1_isMultiple_44 ⟨by decide, by decide⟩ ?_
            refine r_iconst (x := 2) d_X1_isMultiple_45 ⟨by decide, by decide⟩ ?_
            refine r_iconst (x := 3) d_X1_isMultiple_46 ⟨by decide, by decide⟩ ?_
            refine x_callVI (Y2 := mX1_besideFirst) (c := t) (As := [(0, 1), (0, 2), (0, 3)]) (S := [(0, 5)]) d_X1_isMultiple_47 ok_mX1_besideFirst ml_X1_119 rfl (Nat.le_of_ble_eq_true rfl) (Nat.le_of_ble_eq_true rfl) rfl hd_1 kX1 o_t (c_X1_besideFirst (v_X1_besideFirst_0 o_t f_t_row ?_))
            refine ⟨h.1, ?_⟩
            have h := h.2
            refine ⟨h.1, ?_⟩
            have h := h.2
            refine ⟨h.1, ?_⟩
            have h := h.2
            intro y113 ey113
            have h := h y113 ey113
            refine ⟨fun hc => ?_, fun hc => ?_⟩
            · have h := h.1 hc
              show WP l mX1_isMultiple (rm d 0 0) noX _ 0 0 50 [(2, t), (0, y101), (0, y106), (0, y112), (3, 0), (3, 0), (3, 0), (3, 0), (3, 0)] [(0, (shrI (subI 63 y113) 1)), (0, 5)] N Λ σ105
              refine r_imul d_X1_isMultiple_50 ?_
              refine r_nm (fun y114 ey114 => ?_)
              have h := h y114 ey114
              refine r_istore (L2 := [(2, t), (0, y101), (0, y106), (0, y112), (0, y114), (3, 0), (3, 0), (3, 0), (3, 0)]) d_X1_isMultiple_51 (by decide) rfl rfl ?_
              refine r_lconst d_X1_isMultiple_53 ?_
              skip
              refine r_lstore (L2 := [(2, t), (0, y101), (0, y106), (0, y112), (0, y114), (1, 0), (3, 0), (3, 0), (3, 0)]) d_X1_isMultiple_54 (by decide) rfl rfl ?_
              refine r_iconst (x := 0) d_X1_isMultiple_56 ⟨by decide, by decide⟩ ?_
              refine r_istore (L2 := [(2, t), (0, y101), (0, y106), (0, y112), (0, y114), (1, 0), (3, 0), (0, 0), (3, 0)]) d_X1_isMultiple_57 (by decide) rfl rfl ?_
              exact h
            · have h := h.2 hc
              show WP l mX1_isMultiple (rm d 0 0) noX _ 0 0 50 [(2, t), (0, y101), (0, y106), (0, y112), (3, 0), (3, 0), (3, 0), (3, 0), (3, 0)] [(0, (shrI y113 1)), (0, 5)] N Λ σ105
              refine r_imul d_X1_isMultiple_50 ?_
              refine r_nm (fun y115 ey115 => ?_)
              have h := h y115 ey115
              refine r_istore (L2 := [(2, t), (0, y101), (0, y106), (0, y112), (0, y115), (3, 0), (3, 0), (3, 0), (3, 0)]) d_X1_isMultiple_51 (by decide) rfl rfl ?_
              refine r_lconst d_X1_isMultiple_53 ?_
              skip
              refine r_lstore (L2 := [(2, t), (0, y101), (0, y106), (0, y112), (0, y115), (1, 0), (3, 0), (3, 0), (3, 0)]) d_X1_isMultiple_54 (by decide) rfl rfl ?_
              refine r_iconst (x := 0) d_X1_isMultiple_56 ⟨by decide, by decide⟩ ?_
              refine r_istore (L2 := [(2, t), (0, y101), (0, y106), (0, y112), (0, y115), (1, 0), (3, 0), (0, 0), (3, 0)]) d_X1_isMultiple_57 (by decide) rfl rfl ?_
              exact h
        · have h := h.2 hc
          show WP l mX1_isMultiple (rm d 0 0) noX _ 0 0 30 [(2, t), (0, y101), (3, 0), (3, 0), (3, 0), (3, 0), (3, 0), (3, 0), (3, 0)] [(0, (-1)), (0, 1)] N Λ σ105
          refine r_imul d_X1_isMultiple_30 ?_
          refine r_nm (fun y116 ey116 => ?_)
          have h := h y116 ey116
          refine r_istore_n (L2 := [(2, t), (0, y101), (0, y116), (3, 0), (3, 0), (3, 0), (3, 0), (3, 0), (3, 0)]) d_X1_isMultiple_31 (by decide) rfl rfl ?_
          refine r_iconst (x := 5) d_X1_isMultiple_32 ⟨by decide, by decide⟩ ?_
          refine r_aload_n (x := t) d_X1_isMultiple_33 rfl o_t.1 ?_
          refine r_iconst (x := 0) d_X1_isMultiple_34 ⟨by decide, by decide⟩ ?_
          refine r_iconst (x := 2) d_X1_isMultiple_35 ⟨by decide, by decide⟩ ?_
          refine r_iconst (x := 3) d_X1_isMultiple_36 ⟨by decide, by decide⟩ ?_
          refine x_callVI (Y2 := mX1_besideFirst) (c := t) (As := [(0, 0), (0, 2), (0, 3)]) (S := [(0, 5)]) d_X1_isMultiple_37 ok_mX1_besideFirst ml_X1_119 rfl (Nat.le_of_ble_eq_true rfl) (Nat.le_of_ble_eq_true rfl) rfl hd_1 kX1 o_t (c_X1_besideFirst (v_X1_besideFirst_0 o_t f_t_row ?_))
          refine ⟨h.1, ?_⟩
          have h := h.2
          refine ⟨h.1, ?_⟩
          have h := h.2
          refine ⟨h.1, ?_⟩
          have h := h.2
          intro y117 ey117
          have h := h y117 ey117
          refine ⟨fun hc => ?_, fun hc => ?_⟩
          · have h := h.1 hc
            show WP l mX1_isMultiple (rm d 0 0) noX _ 0 0 40 [(2, t), (0, y101), (0, y116), (3, 0), (3, 0), (3, 0), (3, 0), (3, 0), (3, 0)] [(0, (shrI (subI 63 y117) 1)), (0, 5)] N Λ σ105
            refine r_imul d_X1_isMultiple_40 ?_
            refine r_nm (fun y118 ey118 => ?_)
            have h := h y118 ey118
            refine r_istore_n (L2 := [(2, t), (0, y101), (0, y116), (0, y118), (3, 0), (3, 0), (3, 0), (3, 0), (3, 0)]) d_X1_isMultiple_41 (by decide) rfl rfl ?_
            refine r_iconst (x := 5) d_X1_isMultiple_42 ⟨by decide, by decide⟩ ?_
            refine r_aload_n (x := t) d_X1_isMultiple_43 rfl o_t.1 ?_
            refine r_iconst (x := 1) d_X1_isMultiple_44 ⟨by decide, by decide⟩ ?_
            refine r_iconst (x := 2) d_X1_isMultiple_45 ⟨by decide, by decide⟩ ?_
            refine r_iconst (x := 3) d_X1_isMultiple_46 ⟨by decide, by decide⟩ ?_
            refine x_callVI (Y2 := mX1_besideFirst) (c := t) (As := [(0, 1), (0, 2), (0, 3)]) (S := [(0, 5)]) d_X1_isMultiple_47 ok_mX1_besideFirst ml_X1_119 rfl (Nat.le_of_ble_eq_true rfl) (Nat.le_of_ble_eq_true rfl) rfl hd_1 kX1 o_t (c_X1_besideFirst (v_X1_besideFirst_0 o_t f_t_row ?_))
            refine ⟨h.1, ?_⟩
            have h := h.2
            refine ⟨h.1, ?_⟩
            have h := h.2
            refine ⟨h.1, ?_⟩
            have h := h.2
            intro y119 ey119
            have h := h y119 ey119
            refine ⟨fun hc => ?_, fun hc => ?_⟩
            · have h := h.1 hc
              show WP l mX1_isMultiple (rm d 0 0) noX _ 0 0 50 [(2, t), (0, y101), (0, y116), (0, y118), (3, 0), (3, 0), (3, 0), (3, 0), (3, 0)] [(0, (shrI (subI 63 y119) 1)), (0, 5)] N Λ σ105
              refine r_imul d_X1_isMultiple_50 ?_
              refine r_nm (fun y120 ey120 => ?_)
              have h := h y120 ey120
              refine r_istore (L2 := [(2, t), (0, y101), (0, y116), (0, y118), (0, y120), (3, 0), (3, 0), (3, 0), (3, 0)]) d_X1_isMultiple_51 (by decide) rfl rfl ?_
              refine r_lconst d_X1_isMultiple_53 ?_
              skip
              refine r_lstore (L2 := [(2, t), (0, y101), (0, y116), (0, y118), (0, y120), (1, 0), (3, 0), (3, 0), (3, 0)]) d_X1_isMultiple_54 (by decide) rfl rfl ?_
              refine r_iconst (x := 0) d_X1_isMultiple_56 ⟨by decide, by decide⟩ ?_
              refine r_istore (L2 := [(2, t), (0, y101), (0, y116), (0, y118), (0, y120), (1, 0), (3, 0), (0, 0), (3, 0)]) d_X1_isMultiple_57 (by decide) rfl rfl ?_
              exact h
            · have h := h.2 hc
              show WP l mX1_isMultiple (rm d 0 0) noX _ 0 0 50 [(2, t), (0, y101), (0, y116), (0, y118), (3, 0), (3, 0), (3, 0), (3, 0), (3, 0)] [(0, (shrI y119 1)), (0, 5)] N Λ σ105
              refine r_imul d_X1_isMultiple_50 ?_
              refine r_nm (fun y121 ey121 => ?_)
              have h := h y121 ey121
              refine r_istore (L2 := [(2, t), (0, y101), (0, y116), (0, y118), (0, y121), (3, 0), (3, 0), (3, 0), (3, 0)]) d_X1_isMultiple_51 (by decide) rfl rfl ?_
              refine r_lconst d_X1_isMultiple_53 ?_
              skip
              refine r_lstore (L2 := [(2, t), (0, y101), (0, y116), (0, y118), (0, y121), (1, 0), (3, 0), (3, 0), (3, 0)]) d_X1_isMultiple_54 (by decide) rfl rfl ?_
              refine r_iconst (x := 0) d_X1_isMultiple_56 ⟨by decide, by decide⟩ ?_
              refine r_istore (L2 := [(2, t), (0, y101), (0, y116), (0, y118), (0, y121), (1, 0), (3, 0), (0, 0), (3, 0)]) d_X1_isMultiple_57 (by decide) rfl rfl ?_
              exact h
          · have h := h.2 hc
            show WP l mX1_isMultiple (rm d 0 0) noX _ 0 0 40 [(2, t), (0, y101), (0, y116), (3, 0), (3, 0), (3, 0), (3, 0), (3, 0), (3, 0)] [(0, (shrI y117 1)), (0, 5)] N Λ σ105
            refine r_imul d_X1_isMultiple_40 ?_
            refine r_nm (fun y122 ey122 => ?_)
            have h := h y122 ey122
            refine r_istore_n (L2 := [(2, t), (0, y101), (0, y116), (0, y122), (3, 0), (3, 0), (3, 0), (3, 0), (3, 0)]) d_X1_isMultiple_41 (by decide) rfl rfl ?_
            refine r_iconst (x := 5) d_X1_isMultiple_42 ⟨by decide, by decide⟩ ?_
            refine r_aload_n (x := t) d_X1_isMultiple_43 rfl o_t.1 ?_
            refine r_iconst (x := 1) d_X1_isMultiple_44 ⟨by decide, by decide⟩ ?_
            refine r_iconst (x := 2) d_X1_isMultiple_45 ⟨by decide, by decide⟩ ?_
            refine r_iconst (x := 3) d_X1_isMultiple_46 ⟨by decide, by decide⟩ ?_
            refine x_callVI (Y2 := mX1_besideFirst) (c := t) (As := [(0, 1), (0, 2), (0, 3)]) (S := [(0, 5)]) d_X1_isMultiple_47 ok_mX1_besideFirst ml_X1_119 rfl (Nat.le_of_ble_eq_true rfl) (Nat.le_of_ble_eq_true rfl) rfl hd_1 kX1 o_t (c_X1_besideFirst (v_X1_besideFirst_0 o_t f_t_row ?_))
            refine ⟨h.1, ?_⟩
            have h := h.2
            refine ⟨h.1, ?_⟩
            have h := h.2
            refine ⟨h.1, ?_⟩
            have h := h.2
            intro y123 ey123
            have h := h y123 ey123
            refine ⟨fun hc => ?_, fun hc => ?_⟩
            · have h := h.1 hc
              show WP l mX1_isMultiple (rm d 0 0) noX _ 0 0 50 [(2, t), (0, y101), (0, y116), (0, y122), (3, 0), (3, 0), (3, 0), (3, 0), (3, 0)] [(0, (shrI (subI 63 y123) 1)), (0, 5)] N Λ σ105
              refine r_imul d_X1_isMultiple_50 ?_
              refine r_nm (fun y124 ey124 => ?_)
              have h := h y124 ey124
              refine r_istore (L2 := [(2, t), (0, y101), (0, y116), (0, y122), (0, y124), (3, 0), (3, 0), (3, 0), (3, 0)]) d_X1_isMultiple_51 (by decide) rfl rfl ?_
              refine r_lconst d_X1_isMultiple_53 ?_
              skip
              refine r_lstore (L2 := [(2, t), (0, y101), (0, y116), (0, y122), (0, y124), (1, 0), (3, 0), (3, 0), (3, 0)]) d_X1_isMultiple_54 (by decide) rfl rfl ?_
              refine r_iconst (x := 0) d_X1_isMultiple_56 ⟨by decide, by decide⟩ ?_
              refine r_istore (L2 := [(2, t), (0, y101), (0, y116), (0, y122), (0, y124), (1, 0), (3, 0), (0, 0), (3, 0)]) d_X1_isMultiple_57 (by decide) rfl rfl ?_
              exact h
            · have h := h.2 hc
              show WP l mX1_isMultiple (rm d 0 0) noX _ 0 0 50 [(2, t), (0, y101), (0, y116), (0, y122), (3, 0), (3, 0), (3, 0), (3, 0), (3, 0)] [(0, (shrI y123 1)), (0, 5)] N Λ σ105
              refine r_imul d_X1_isMultiple_50 ?_
              refine r_nm (fun y125 ey125 => ?_)
              have h := h y125 ey125
              refine r_istore (L2 := [(2, t), (0, y101), (0, y116), (0, y122), (0, y125), (3, 0), (3, 0), (3, 0), (3, 0)]) d_X1_isMultiple_51 (by decide) rfl rfl ?_
              refine r_lconst d_X1_isMultiple_53 ?_
              skip
              refine r_lstore (L2 := [(2, t), (0, y101), (0, y116), (0, y122), (0, y125), (1, 0), (3, 0), (3, 0), (3, 0)]) d_X1_isMultiple_54 (by decide) rfl rfl ?_
              refine r_iconst (x := 0) d_X1_isMultiple_56 ⟨by decide, by decide⟩ ?_
              refine r_istore (L2 := [(2, t), (0, y101), (0, y116), (0, y122), (0, y125), (1, 0), (3, 0), (0, 0), (3, 0)]) d_X1_isMultiple_57 (by decide) rfl rfl ?_
              exact h
      · have h := h.2 hc
        show WP l mX1_isMultiple (rm d 0 0) noX _ 0 0 23 [(2, t), (0, y101), (3, 0), (3, 0), (3, 0), (3, 0), (3, 0), (3, 0), (3, 0)] [(0, (-1))] N Λ σ103
        refine r_aload_n (x := t) d_X1_isMultiple_23 rfl o_t.1 ?_
        refine r_iconst (x := 0) d_X1_isMultiple_24 ⟨by decide, by decide⟩ ?_
        refine r_iconst (x := 4) d_X1_isMultiple_25 ⟨by decide, by decide⟩ ?_
        refine r_iconst (x := 5) d_X1_isMultiple_26 ⟨by decide, by decide⟩ ?_
        refine x_callVI (Y2 := mX1_signOf) (c := t) (As := [(0, 0), (0, 4), (0, 5)]) (S := [(0, (-1))]) d_X1_isMultiple_27 ok_mX1_signOf ml_X1_115 rfl (Nat.le_of_ble_eq_true rfl) (Nat.le_of_ble_eq_true rfl) rfl hd_1 kX1 o_t (c_X1_signOf (v_X1_signOf_0 o_t f_t_row he_1 ?_))
        refine ⟨h.1, ?_⟩
        have h := h.2
        refine ⟨h.1, ?_⟩
        have h := h.2
        refine ⟨h.1, ?_⟩
        have h := h.2
        refine CI.mono h (fun v126 σ127 h => ?_)
        refine ⟨fun hc => ?_, fun hc => ?_⟩
        · have h := h.1 hc
          show WP l mX1_isMultiple (rm d 0 0) noX _ 0 0 30 [(2, t), (0, y101), (3, 0), (3, 0), (3, 0), (3, 0), (3, 0), (3, 0), (3, 0)] [(0, 1), (0, (-1))] N Λ σ127
          refine r_imul d_X1_isMultiple_30 ?_
          refine r_nm (fun y128 ey128 => ?_)
          have h := h y128 ey128
          refine r_istore_n (L2 := [(2, t), (0, y101), (0, y128), (3, 0), (3, 0), (3, 0), (3, 0), (3, 0), (3, 0)]) d_X1_isMultiple_31 (by decide) rfl rfl ?_
          refine r_iconst (x := 5) d_X1_isMultiple_32 ⟨by decide, by decide⟩ ?_
          refine r_aload_n (x := t) d_X1_isMultiple_33 rfl o_t.1 ?_
          refine r_iconst (x := 0) d_X1_isMultiple_34 ⟨by decide, by decide⟩ ?_
          refine r_iconst (x := 2) d_X1_isMultiple_35 ⟨by decide, by decide⟩ ?_
          refine r_iconst (x := 3) d_X1_isMultiple_36 ⟨by decide, by decide⟩ ?_
          refine x_callVI (Y2 := mX1_besideFirst) (c := t) (As := [(0, 0), (0, 2), (0, 3)]) (S := [(0, 5)]) d_X1_isMultiple_37 ok_mX1_besideFirst ml_X1_119 rfl (Nat.le_of_ble_eq_true rfl) (Nat.le_of_ble_eq_true rfl) rfl hd_1 kX1 o_t (c_X1_besideFirst (v_X1_besideFirst_0 o_t f_t_row ?_))
          refine ⟨h.1, ?_⟩
          have h := h.2
          refine ⟨h.1, ?_⟩
          have h := h.2
          refine ⟨h.1, ?_⟩
          have h := h.2
          intro y129 ey129
          have h := h y129 ey129
          refine ⟨fun hc => ?_, fun hc => ?_⟩
          · have h := h.1 hc
            show WP l mX1_isMultiple (rm d 0 0) noX _ 0 0 40 [(2, t), (0, y101), (0, y128), (3, 0), (3, 0), (3, 0), (3, 0), (3, 0), (3, 0)] [(0, (shrI (subI 63 y129) 1)), (0, 5)] N Λ σ127
            refine r_imul d_X1_isMultiple_40 ?_
            refine r_nm (fun y130 ey130 => ?_)
            have h := h y130 ey130
            refine r_istore_n (L2 := [(2, t), (0, y101), (0, y128), (0, y130), (3, 0), (3, 0), (3, 0), (3, 0), (3, 0)]) d_X1_isMultiple_41 (by decide) rfl rfl ?_
            refine r_iconst (x := 5) d_X1_isMultiple_42 ⟨by decide, by decide⟩ ?_
            refine r_aload_n (x := t) d_X1_isMultiple_43 rfl o_t.1 ?_
            refine r_iconst (x := 1) d_X1_isMultiple_44 ⟨by decide, by decide⟩ ?_
            refine r_iconst (x := 2) d_X1_isMultiple_45 ⟨by decide, by decide⟩ ?_
            refine r_iconst (x := 3) d_X1_isMultiple_46 ⟨by decide, by decide⟩ ?_
            refine x_callVI (Y2 := mX1_besideFirst) (c := t) (As := [(0, 1), (0, 2), (0, 3)]) (S := [(0, 5)]) d_X1_isMultiple_47 ok_mX1_besideFirst ml_X1_119 rfl (Nat.le_of_ble_eq_true rfl) (Nat.le_of_ble_eq_true rfl) rfl hd_1 kX1 o_t (c_X1_besideFirst (v_X1_besideFirst_0 o_t f_t_row ?_))
            refine ⟨h.1, ?_⟩
            have h := h.2
            refine ⟨h.1, ?_⟩
            have h := h.2
            refine ⟨h.1, ?_⟩
            have h := h.2
            intro y131 ey131
            have h := h y131 ey131
            refine ⟨fun hc => ?_, fun hc => ?_⟩
            · have h := h.1 hc
              show WP l mX1_isMultiple (rm d 0 0) noX _ 0 0 50 [(2, t), (0, y101), (0, y128), (0, y130), (3, 0), (3, 0), (3, 0), (3, 0), (3, 0)] [(0, (shrI (subI 63 y131) 1)), (0, 5)] N Λ σ127
              refine r_imul d_X1_isMultiple_50 ?_
              refine r_nm (fun y132 ey132 => ?_)
              have h := h y132 ey132
              refine r_istore (L2 := [(2, t), (0, y101), (0, y128), (0, y130), (0, y132), (3, 0), (3, 0), (3, 0), (3, 0)]) d_X1_isMultiple_51 (by decide) rfl rfl ?_
              refine r_lconst d_X1_isMultiple_53 ?_
              skip
              refine r_lstore (L2 := [(2, t), (0, y101), (0, y128), (0, y130), (0, y132), (1, 0), (3, 0), (3, 0), (3, 0)]) d_X1_isMultiple_54 (by decide) rfl rfl ?_
              refine r_iconst (x := 0) d_X1_isMultiple_56 ⟨by decide, by decide⟩ ?_
              refine r_istore (L2 := [(2, t), (0, y101), (0, y128), (0, y130), (0, y132), (1, 0), (3, 0), (0, 0), (3, 0)]) d_X1_isMultiple_57 (by decide) rfl rfl ?_
              exact h
            · have h := h.2 hc
              show WP l mX1_isMultiple (rm d 0 0) noX _ 0 0 50 [(2, t), (0, y101), (0, y128), (0, y130), (3, 0), (3, 0), (3, 0), (3, 0), (3, 0)] [(0, (shrI y131 1)), (0, 5)] N Λ σ127
              refine r_imul d_X1_isMultiple_50 ?_
              refine r_nm (fun y133 ey133 => ?_)
              have h := h y133 ey133
              refine r_istore (L2 := [(2, t), (0, y101), (0, y128), (0, y130), (0, y133), (3, 0), (3, 0), (3, 0), (3, 0)]) d_X1_isMultiple_51 (by decide) rfl rfl ?_
              refine r_lconst d_X1_isMultiple_53 ?_
              skip
              refine r_lstore (L2 := [(2, t), (0, y101), (0, y128), (0, y130), (0, y133), (1, 0), (3, 0), (3, 0), (3, 0)]) d_X1_isMultiple_54 (by decide) rfl rfl ?_
              refine r_iconst (x := 0) d_X1_isMultiple_56 ⟨by decide, by decide⟩ ?_
              refine r_istore (L2 := [(2, t), (0, y101), (0, y128), (0, y130), (0, y133), (1, 0), (3, 0), (0, 0), (3, 0)]) d_X1_isMultiple_57 (by decide) rfl rfl ?_
              exact h
          · have h := h.2 hc
            show WP l mX1_isMultiple (rm d 0 0) noX _ 0 0 40 [(2, t), (0, y101), (0, y128), (3, 0), (3, 0), (3, 0), (3, 0), (3, 0), (3, 0)] [(0, (shrI y129 1)), (0, 5)] N Λ σ127
            refine r_imul d_X1_isMultiple_40 ?_
            refine r_nm (fun y134 ey134 => ?_)
            have h := h y134 ey134
            refine r_istore_n (L2 := [(2, t), (0, y101), (0, y128), (0, y134), (3, 0), (3, 0), (3, 0), (3, 0), (3, 0)]) d_X1_isMultiple_41 (by decide) rfl rfl ?_
            refine r_iconst (x := 5) d_X1_isMultiple_42 ⟨by decide, by decide⟩ ?_
            refine r_aload_n (x := t) d_X1_isMultiple_43 rfl o_t.1 ?_
            refine r_iconst (x := 1) d_X1_isMultiple_44 ⟨by decide, by decide⟩ ?_
            refine r_iconst (x := 2) d_X1_isMultiple_45 ⟨by decide, by decide⟩ ?_
            refine r_iconst (x := 3) d_X1_isMultiple_46 ⟨by decide, by decide⟩ ?_
            refine x_callVI (Y2 := mX1_besideFirst) (c := t) (As := [(0, 1), (0, 2), (0, 3)]) (S := [(0, 5)]) d_X1_isMultiple_47 ok_mX1_besideFirst ml_X1_119 rfl (Nat.le_of_ble_eq_true rfl) (Nat.le_of_ble_eq_true rfl) rfl hd_1 kX1 o_t (c_X1_besideFirst (v_X1_besideFirst_0 o_t f_t_row ?_))
            refine ⟨h.1, ?_⟩
            have h := h.2
            refine ⟨h.1, ?_⟩
            have h := h.2
            refine ⟨h.1, ?_⟩
            have h := h.2
            intro y135 ey135
            have h := h y135 ey135
            refine ⟨fun hc => ?_, fun hc => ?_⟩
            · have h := h.1 hc
              show WP l mX1_isMultiple (rm d 0 0) noX _ 0 0 50 [(2, t), (0, y101), (0, y128), (0, y134), (3, 0), (3, 0), (3, 0), (3, 0), (3, 0)] [(0, (shrI (subI 63 y135) 1)), (0, 5)] N Λ σ127
              refine r_imul d_X1_isMultiple_50 ?_
              refine r_nm (fun y136 ey136 => ?_)
              have h := h y136 ey136
              refine r_istore (L2 := [(2, t), (0, y101), (0, y128), (0, y134), (0, y136), (3, 0), (3, 0), (3, 0), (3, 0)]) d_X1_isMultiple_51 (by decide) rfl rfl ?_
              refine r_lconst d_X1_isMultiple_53 ?_
              skip
              refine r_lstore (L2 := [(2, t), (0, y101), (0, y128), (0, y134), (0, y136), (1, 0), (3, 0), (3, 0), (3, 0)]) d_X1_isMultiple_54 (by decide) rfl rfl ?_
              refine r_iconst (x := 0) d_X1_isMultiple_56 ⟨by decide, by decide⟩ ?_
              refine r_istore (L2 := [(2, t), (0, y101), (0, y128), (0, y134), (0, y136), (1, 0), (3, 0), (0, 0), (3, 0)]) d_X1_isMultiple_57 (by decide) rfl rfl ?_
              exact h
            · have h := h.2 hc
              show WP l mX1_isMultiple (rm d 0 0) noX _ 0 0 50 [(2, t), (0, y101), (0, y128), (0, y134), (3, 0), (3, 0), (3, 0), (3, 0), (3, 0)] [(0, (shrI y135 1)), (0, 5)] N Λ σ127
              refine r_imul d_X1_isMultiple_50 ?_
              refine r_nm (fun y137 ey137 => ?_)
              have h := h y137 ey137
              refine r_istore (L2 := [(2, t), (0, y101), (0, y128), (0, y134), (0, y137), (3, 0), (3, 0), (3, 0), (3, 0)]) d_X1_isMultiple_51 (by decide) rfl rfl ?_
              refine r_lconst d_X1_isMultiple_53 ?_
              skip
              refine r_lstore (L2 := [(2, t), (0, y101), (0, y128), (0, y134), (0, y137), (1, 0), (3, 0), (3, 0), (3, 0)]) d_X1_isMultiple_54 (by decide) rfl rfl ?_
              refine r_iconst (x := 0) d_X1_isMultiple_56 ⟨by decide, by decide⟩ ?_
              refine r_istore (L2 := [(2, t), (0, y101), (0, y128), (0, y134), (0, y137), (1, 0), (3, 0), (0, 0), (3, 0)]) d_X1_isMultiple_57 (by decide) rfl rfl ?_
              exact h
        · have h := h.2 hc
          show WP l mX1_isMultiple (rm d 0 0) noX _ 0 0 30 [(2, t), (0, y101), (3, 0), (3, 0), (3, 0), (3, 0), (3, 0), (3, 0), (3, 0)] [(0, (-1)), (0, (-1))] N Λ σ127
          refine r_imul d_X1_isMultiple_30 ?_
          refine r_nm (fun y138 ey138 => ?_)
          have h := h y138 ey138
          refine r_istore_n (L2 := [(2, t), (0, y101), (0, y138), (3, 0), (3, 0), (3, 0), (3, 0), (3, 0), (3, 0)]) d_X1_isMultiple_31 (by decide) rfl rfl ?_
          refine r_iconst (x := 5) d_X1_isMultiple_32 ⟨by decide, by decide⟩ ?_
          refine r_aload_n (x := t) d_X1_isMultiple_33 rfl o_t.1 ?_
          refine r_iconst (x := 0) d_X1_isMultiple_34 ⟨by decide, by decide⟩ ?_
          refine r_iconst (x := 2) d_X1_isMultiple_35 ⟨by decide, by decide⟩ ?_
          refine r_iconst (x := 3) d_X1_isMultiple_36 ⟨by decide, by decide⟩ ?_
          refine x_callVI (Y2 := mX1_besideFirst) (c := t) (As := [(0, 0), (0, 2), (0, 3)]) (S := [(0, 5)]) d_X1_isMultiple_37 ok_mX1_besideFirst ml_X1_119 rfl (Nat.le_of_ble_eq_true rfl) (Nat.le_of_ble_eq_true rfl) rfl hd_1 kX1 o_t (c_X1_besideFirst (v_X1_besideFirst_0 o_t f_t_row ?_))
          refine ⟨h.1, ?_⟩
          have h := h.2
          refine ⟨h.1, ?_⟩
          have h := h.2
          refine ⟨h.1, ?_⟩
          have h := h.2
          intro y139 ey139
          have h := h y139 ey139
          refine ⟨fun hc => ?_, fun hc => ?_⟩
          · have h := h.1 hc
            show WP l mX1_isMultiple (rm d 0 0) noX _ 0 0 40 [(2, t), (0, y101), (0, y138), (3, 0), (3, 0), (3, 0), (3, 0), (3, 0), (3, 0)] [(0, (shrI (subI 63 y139) 1)), (0, 5)] N Λ σ127
            refine r_imul d_X1_isMultiple_40 ?_
            refine r_nm (fun y140 ey140 => ?_)
            have h := h y140 ey140
            refine r_istore_n (L2 := [(2, t), (0, y101), (0, y138), (0, y140), (3, 0), (3, 0), (3, 0), (3, 0), (3, 0)]) d_X1_isMultiple_41 (by decide) rfl rfl ?_
            refine r_iconst (x := 5) d_X1_isMultiple_42 ⟨by decide, by decide⟩ ?_
            refine r_aload_n (x := t) d_X1_isMultiple_43 rfl o_t.1 ?_
            refine r_iconst (x := 1) d_X1_isMultiple_44 ⟨by decide, by decide⟩ ?_
            refine r_iconst (x := 2) d_X1_isMultiple_45 ⟨by decide, by decide⟩ ?_
            refine r_iconst (x := 3) d_X1_isMultiple_46 ⟨by decide, by decide⟩ ?_
            refine x_callVI (Y2 := mX1_besideFirst) (c := t) (As := [(0, 1), (0, 2), (0, 3)]) (S := [(0, 5)]) d_X1_isMultiple_47 ok_mX1_besideFirst ml_X1_119 rfl (Nat.le_of_ble_eq_true rfl) (Nat.le_of_ble_eq_true rfl) rfl hd_1 kX1 o_t (c_X1_besideFirst (v_X1_besideFirst_0 o_t f_t_row ?_))
            refine ⟨h.1, ?_⟩
            have h := h.2
            refine ⟨h.1, ?_⟩
            have h := h.2
            refine ⟨h.1, ?_⟩
            have h := h.2
            intro y141 ey141
            have h := h y141 ey141
            refine ⟨fun hc => ?_, fun hc => ?_⟩
            · have h := h.1 hc
              show WP l mX1_isMultiple (rm d 0 0) noX _ 0 0 50 [(2, t), (0, y101), (0, y138), (0, y140), (3, 0), (3, 0), (3, 0), (3, 0), (3, 0)] [(0, (shrI (subI 63 y141) 1)), (0, 5)] N Λ σ127
              refine r_imul d_X1_isMultiple_50 ?_
              refine r_nm (fun y142 ey142 => ?_)
              have h := h y142 ey142
              refine r_istore (L2 := [(2, t), (0, y101), (0, y138), (0, y140), (0, y142), (3, 0), (3, 0), (3, 0), (3, 0)]) d_X1_isMultiple_51 (by decide) rfl rfl ?_
              refine r_lconst d_X1_isMultiple_53 ?_
              skip
              refine r_lstore (L2 := [(2, t), (0, y101), (0, y138), (0, y140), (0, y142), (1, 0), (3, 0), (3, 0), (3, 0)]) d_X1_isMultiple_54 (by decide) rfl rfl ?_
              refine r_iconst (x := 0) d_X1_isMultiple_56 ⟨by decide, by decide⟩ ?_
              refine r_istore (L2 := [(2, t), (0, y101), (0, y138), (0, y140), (0, y142), (1, 0), (3, 0), (0, 0), (3, 0)]) d_X1_isMultiple_57 (by decide) rfl rfl ?_
              exact h
            · have h := h.2 hc
              show WP l mX1_isMultiple (rm d 0 0) noX _ 0 0 50 [(2, t), (0, y101), (0, y138), (0, y140), (3, 0), (3, 0), (3, 0), (3, 0), (3, 0)] [(0, (shrI y141 1)), (0, 5)] N Λ σ127
              refine r_imul d_X1_isMultiple_50 ?_
              refine r_nm (fun y143 ey143 => ?_)
              have h := h y143 ey143
              refine r_istore (L2 := [(2, t), (0, y101), (0, y138), (0, y140), (0, y143), (3, 0), (3, 0), (3, 0), (3, 0)]) d_X1_isMultiple_51 (by decide) rfl rfl ?_
              refine r_lconst d_X1_isMultiple_53 ?_
              skip
              refine r_lstore (L2 := [(2, t), (0, y101), (0, y138), (0, y140), (0, y143), (1, 0), (3, 0), (3, 0), (3, 0)]) d_X1_isMultiple_54 (by decide) rfl rfl ?_
              refine r_iconst (x := 0) d_X1_isMultiple_56 ⟨by decide, by decide⟩ ?_
              refine r_istore (L2 := [(2, t), (0, y101), (0, y138), (0, y140), (0, y143), (1, 0), (3, 0), (0, 0), (3, 0)]) d_X1_isMultiple_57 (by decide) rfl rfl ?_
              exact h
          · have h := h.2 hc
            show WP l mX1_isMultiple (rm d 0 0) noX _ 0 0 40 [(2, t), (0, y101), (0, y138), (3, 0), (3, 0), (3, 0), (3, 0), (3, 0), (3, 0)] [(0, (shrI y139 1)), (0, 5)] N Λ σ127
            refine r_imul d_X1_isMultiple_40 ?_
            refine r_nm (fun y144 ey144 => ?_)
            have h := h y144 ey144
            refine r_istore_n (L2 := [(2, t), (0, y101), (0, y138), (0, y144), (3, 0), (3, 0), (3, 0), (3, 0), (3, 0)]) d_X1_isMultiple_41 (by decide) rfl rfl ?_
            refine r_iconst (x := 5) d_X1_isMultiple_42 ⟨by decide, by decide⟩ ?_
            refine r_aload_n (x := t) d_X1_isMultiple_43 rfl o_t.1 ?_
            refine r_iconst (x := 1) d_X1_isMultiple_44 ⟨by decide, by decide⟩ ?_
            refine r_iconst (x := 2) d_X1_isMultiple_45 ⟨by decide, by decide⟩ ?_
            refine r_iconst (x := 3) d_X1_isMultiple_46 ⟨by decide, by decide⟩ ?_
            refine x_callVI (Y2 := mX1_besideFirst) (c := t) (As := [(0, 1), (0, 2), (0, 3)]) (S := [(0, 5)]) d_X1_isMultiple_47 ok_mX1_besideFirst ml_X1_119 rfl (Nat.le_of_ble_eq_true rfl) (Nat.le_of_ble_eq_true rfl) rfl hd_1 kX1 o_t (c_X1_besideFirst (v_X1_besideFirst_0 o_t f_t_row ?_))
            refine ⟨h.1, ?_⟩
            have h := h.2
            refine ⟨h.1, ?_⟩
            have h := h.2
            refine ⟨h.1, ?_⟩
            have h := h.2
            intro y145 ey145
            have h := h y145 ey145
            refine ⟨fun hc => ?_, fun hc => ?_⟩
            · have h := h.1 hc
              show WP l mX1_isMultiple (rm d 0 0) noX _ 0 0 50 [(2, t), (0, y101), (0, y138), (0, y144), (3, 0), (3, 0), (3, 0), (3, 0), (3, 0)] [(0, (shrI (subI 63 y145) 1)), (0, 5)] N Λ σ127
              refine r_imul d_X1_isMultiple_50 ?_
              refine r_nm (fun y146 ey146 => ?_)
              have h := h y146 ey146
              refine r_istore (L2 := [(2, t), (0, y101), (0, y138), (0, y144), (0, y146), (3, 0), (3, 0), (3, 0), (3, 0)]) d_X1_isMultiple_51 (by decide) rfl rfl ?_
              refine r_lconst d_X1_isMultiple_53 ?_
              skip
              refine r_lstore (L2 := [(2, t), (0, y101), (0, y138), (0, y144), (0, y146), (1, 0), (3, 0), (3, 0), (3, 0)]) d_X1_isMultiple_54 (by decide) rfl rfl ?_
              refine r_iconst (x := 0) d_X1_isMultiple_56 ⟨by decide, by decide⟩ ?_
              refine r_istore (L2 := [(2, t), (0, y101), (0, y138), (0, y144), (0, y146), (1, 0), (3, 0), (0, 0), (3, 0)]) d_X1_isMultiple_57 (by decide) rfl rfl ?_
              exact h
            · have h := h.2 hc
              show WP l mX1_isMultiple (rm d 0 0) noX _ 0 0 50 [(2, t), (0, y101), (0, y138), (0, y144), (3, 0), (3, 0), (3, 0), (3, 0), (3, 0)] [(0, (shrI y145 1)), (0, 5)] N Λ σ127
              refine r_imul d_X1_isMultiple_50 ?_
              refine r_nm (fun y147 ey147 => ?_)
              have h := h y147 ey147
              refine r_istore (L2 := [(2, t), (0, y101), (0, y138), (0, y144), (0, y147), (3, 0), (3, 0), (3, 0), (3, 0)]) d_X1_isMultiple_51 (by decide) rfl rfl ?_
              refine r_lconst d_X1_isMultiple_53 ?_
              skip
              refine r_lstore (L2 := [(2, t), (0, y101), (0, y138), (0, y144), (0, y147), (1, 0), (3, 0), (3, 0), (3, 0)]) d_X1_isMultiple_54 (by decide) rfl rfl ?_
              refine r_iconst (x := 0) d_X1_isMultiple_56 ⟨by decide, by decide⟩ ?_
              refine r_istore (L2 := [(2, t), (0, y101), (0, y138), (0, y144), (0, y147), (1, 0), (3, 0), (0, 0), (3, 0)]) d_X1_isMultiple_57 (by decide) rfl rfl ?_
              exact h
    · have h := h.2 hc
      show WP l mX1_isMultiple (rm d 0 0) noX _ 0 0 14 [(2, t), (3, 0), (3, 0), (3, 0), (3, 0), (3, 0), (3, 0), (3, 0), (3, 0)] [(0, (-1)), (0, (-1))] N Λ σ100
      refine r_imul d_X1_isMultiple_14 ?_
      refine r_nm (fun y148 ey148 => ?_)
      have h := h y148 ey148
      refine r_istore_n (L2 := [(2, t), (0, y148), (3, 0), (3, 0), (3, 0), (3, 0), (3, 0), (3, 0), (3, 0)]) d_X1_isMultiple_15 (by decide) rfl rfl ?_
      refine r_aload_n (x := t) d_X1_isMultiple_16 rfl o_t.1 ?_
      refine r_iconst (x := 1) d_X1_isMultiple_17 ⟨by decide, by decide⟩ ?_
      refine r_iconst (x := 2) d_X1_isMultiple_18 ⟨by decide, by decide⟩ ?_
      refine r_iconst (x := 3) d_X1_isMultiple_19 ⟨by decide, by decide⟩ ?_
      refine x_callVI (Y2 := mX1_signOf) (c := t) (As := [(0, 1), (0, 2), (0, 3)]) (S := []) d_X1_isMultiple_20 ok_mX1_signOf ml_X1_115 rfl (Nat.le_of_ble_eq_true rfl) (Nat.le_of_ble_eq_true rfl) rfl hd_1 kX1 o_t (c_X1_signOf (v_X1_signOf_0 o_t f_t_row he_1 ?_))
      refine ⟨h.1, ?_⟩
      have h := h.2
      refine ⟨h.1, ?_⟩
      have h := h.2
      refine ⟨h.1, ?_⟩
      have h := h.2
      refine CI.mono h (fun v149 σ150 h => ?_)
      refine ⟨fun hc => ?_, fun hc => ?_⟩
      · have h := h.1 hc
        show WP l mX1_isMultiple (rm d 0 0) noX _ 0 0 23 [(2, t), (0, y148), (3, 0), (3, 0), (3, 0), (3, 0), (3, 0), (3, 0), (3, 0)] [(0, 1)] N Λ σ150
        refine r_aload_n (x := t) d_X1_isMultiple_23 rfl o_t.1 ?_
        refine r_iconst (x := 0) d_X1_isMultiple_24 ⟨by decide, by decide⟩ ?_
        refine r_iconst (x := 4) d_X1_isMultiple_25 ⟨by decide, by decide⟩ ?_
        refine r_iconst (x := 5) d_X1_isMultiple_26 ⟨by decide, by decide⟩ ?_
        refine x_callVI (Y2 := mX1_signOf) (c := t) (As := [(0, 0), (0, 4), (0, 5)]) (S := [(0, 1)]) d_X1_isMultiple_27 ok_mX1_signOf ml_X1_115 rfl (Nat.le_of_ble_eq_true rfl) (Nat.le_of_ble_eq_true rfl) rfl hd_1 kX1 o_t (c_X1_signOf (v_X1_signOf_0 o_t f_t_row he_1 ?_))
        refine ⟨h.1, ?_⟩
        have h := h.2
        refine ⟨h.1, ?_⟩
        have h := h.2
        refine ⟨h.1, ?_⟩
        have h := h.2
        refine CI.mono h (fun v151 σ152 h => ?_)
        refine ⟨fun hc => ?_, fun hc => ?_⟩
        · have h := h.1 hc
          show WP l mX1_isMultiple (rm d 0 0) noX _ 0 0 30 [(2, t), (0, y148), (3, 0), (3, 0), (3, 0), (3, 0), (3, 0), (3, 0), (3, 0)] [(0, 1), (0, 1)] N Λ σ152
          refine r_imul d_X1_isMultiple_30 ?_
          refine r_nm (fun y153 ey153 => ?_)
          have h := h y153 ey153
          refine r_istore_n (L2 := [(2, t), (0, y148), (0, y153), (3, 0), (3, 0), (3, 0), (3, 0), (3, 0), (3, 0)]) d_X1_isMultiple_31 (by decide) rfl rfl ?_
          refine r_iconst (x := 5) d_X1_isMultiple_32 ⟨by decide, by decide⟩ ?_
          refine r_aload_n (x := t) d_X1_isMultiple_33 rfl o_t.1 ?_
          refine r_iconst (x := 0) d_X1_isMultiple_34 ⟨by decide, by decide⟩ ?_
          refine r_iconst (x := 2) d_X1_isMultiple_35 ⟨by decide, by decide⟩ ?_
          refine r_iconst (x := 3) d_X1_isMultiple_36 ⟨by decide, by decide⟩ ?_
          refine x_callVI (Y2 := mX1_besideFirst) (c := t) (As := [(0, 0), (0, 2), (0, 3)]) (S := [(0, 5)]) d_X1_isMultiple_37 ok_mX1_besideFirst ml_X1_119 rfl (Nat.le_of_ble_eq_true rfl) (Nat.le_of_ble_eq_true rfl) rfl hd_1 kX1 o_t (c_X1_besideFirst (v_X1_besideFirst_0 o_t f_t_row ?_))
          refine ⟨h.1, ?_⟩
          have h := h.2
          refine ⟨h.1, ?_⟩
          have h := h.2
          refine ⟨h.1, ?_⟩
          have h := h.2
          intro y154 ey154
          have h := h y154 ey154
          refine ⟨fun hc => ?_, fun hc => ?_⟩
          · have h := h.1 hc
            show WP l mX1_isMultiple (rm d 0 0) noX _ 0 0 40 [(2, t), (0, y148), (0, y153), (3, 0), (3, 0), (3, 0), (3, 0), (3, 0), (3, 0)] [(0, (shrI (subI 63 y154) 1)), (0, 5)] N Λ σ152
            refine r_imul d_X1_isMultiple_40 ?_
            refine r_nm (fun y155 ey155 => ?_)
            have h := h y155 ey155
            refine r_istore_n (L2 := [(2, t), (0, y148), (0, y153), (0, y155), (3, 0), (3, 0), (3, 0), (3, 0), (3, 0)]) d_X1_isMultiple_41 (by decide) rfl rfl ?_
            refine r_iconst (x := 5) d_X1_isMultiple_42 ⟨by decide, by decide⟩ ?_
            refine r_aload_n (x := t) d_X1_isMultiple_43 rfl o_t.1 ?_
            refine r_iconst (x := 1) d_X1_isMultiple_44 ⟨by decide, by decide⟩ ?_
            refine r_iconst (x := 2) d_X1_isMultiple_45 ⟨by decide, by decide⟩ ?_
            refine r_iconst (x := 3) d_X1_isMultiple_46 ⟨by decide, by decide⟩ ?_
            refine x_callVI (Y2 := mX1_besideFirst) (c := t) (As := [(0, 1), (0, 2), (0, 3)]) (S := [(0, 5)]) d_X1_isMultiple_47 ok_mX1_besideFirst ml_X1_119 rfl (Nat.le_of_ble_eq_true rfl) (Nat.le_of_ble_eq_true rfl) rfl hd_1 kX1 o_t (c_X1_besideFirst (v_X1_besideFirst_0 o_t f_t_row ?_))
            refine ⟨h.1, ?_⟩
            have h := h.2
            refine ⟨h.1, ?_⟩
            have h := h.2
            refine ⟨h.1, ?_⟩
            have h := h.2
            intro y156 ey156
            have h := h y156 ey156
            refine ⟨fun hc => ?_, fun hc => ?_⟩
            · have h := h.1 hc
              show WP l mX1_isMultiple (rm d 0 0) noX _ 0 0 50 [(2, t), (0, y148), (0, y153), (0, y155), (3, 0), (3, 0), (3, 0), (3, 0), (3, 0)] [(0, (shrI (subI 63 y156) 1)), (0, 5)] N Λ σ152
              refine r_imul d_X1_isMultiple_50 ?_
              refine r_nm (fun y157 ey157 => ?_)
              have h := h y157 ey157
              refine r_istore (L2 := [(2, t), (0, y148), (0, y153), (0, y155), (0, y157), (3, 0), (3, 0), (3, 0), (3, 0)]) d_X1_isMultiple_51 (by decide) rfl rfl ?_
              refine r_lconst d_X1_isMultiple_53 ?_
              skip
              refine r_lstore (L2 := [(2, t), (0, y148), (0, y153), (0, y155), (0, y157), (1, 0), (3, 0), (3, 0), (3, 0)]) d_X1_isMultiple_54 (by decide) rfl rfl ?_
              refine r_iconst (x := 0) d_X1_isMultiple_56 ⟨by decide, by decide⟩ ?_
              refine r_istore (L2 := [(2, t), (0, y148), (0, y153), (0, y155), (0, y157), (1, 0), (3, 0), (0, 0), (3, 0)]) d_X1_isMultiple_57 (by decide) rfl rfl ?_
              exact h
            · have h := h.2 hc
              show WP l mX1_isMultiple (rm d 0 0) noX _ 0 0 50 [(2, t), (0, y148), (0, y153), (0, y155), (3, 0), (3, 0), (3, 0), (3, 0), (3, 0)] [(0, (shrI y156 1)), (0, 5)] N Λ σ152
              refine r_imul d_X1_isMultiple_50 ?_
              refine r_nm (fun y158 ey158 => ?_)
              have h := h y158 ey158
              refine r_istore (L2 := [(2, t), (0, y148), (0, y153), (0, y155), (0, y158), (3, 0), (3, 0), (3, 0), (3, 0)]) d_X1_isMultiple_51 (by decide) rfl rfl ?_
              refine r_lconst d_X1_isMultiple_53 ?_
              skip
              refine r_lstore (L2 := [(2, t), (0, y148), (0, y153), (0, y155), (0, y158), (1, 0), (3, 0), (3, 0), (3, 0)]) d_X1_isMultiple_54 (by decide) rfl rfl ?_
              refine r_iconst (x := 0) d_X1_isMultiple_56 ⟨by decide, by decide⟩ ?_
              refine r_istore (L2 := [(2, t), (0, y148), (0, y153), (0, y155), (0, y158), (1, 0), (3, 0), (0, 0), (3, 0)]) d_X1_isMultiple_57 (by decide) rfl rfl ?_
              exact h
          · have h := h.2 hc
            show WP l mX1_isMultiple (rm d 0 0) noX _ 0 0 40 [(2, t), (0, y148), (0, y153), (3, 0), (3, 0), (3, 0), (3, 0), (3, 0), (3, 0)] [(0, (shrI y154 1)), (0, 5)] N Λ σ152
            refine r_imul d_X1_isMultiple_40 ?_
            refine r_nm (fun y159 ey159 => ?_)
            have h := h y159 ey159
            refine r_istore_n (L2 := [(2, t), (0, y148), (0, y153), (0, y159), (3, 0), (3, 0), (3, 0), (3, 0), (3, 0)]) d_X1_isMultiple_41 (by decide) rfl rfl ?_
            refine r_iconst (x := 5) d_X1_isMultiple_42 ⟨by decide, by decide⟩ ?_
            refine r_aload_n (x := t) d_X1_isMultiple_43 rfl o_t.1 ?_
            refine r_iconst (x := 1) d_X1_isMultiple_44 ⟨by decide, by decide⟩ ?_
            refine r_iconst (x := 2) d_X1_isMultiple_45 ⟨by decide, by decide⟩ ?_
            refine r_iconst (x := 3) d_X1_isMultiple_46 ⟨by decide, by decide⟩ ?_
            refine x_callVI (Y2 := mX1_besideFirst) (c := t) (As := [(0, 1), (0, 2), (0, 3)]) (S := [(0, 5)]) d_X1_isMultiple_47 ok_mX1_besideFirst ml_X1_119 rfl (Nat.le_of_ble_eq_true rfl) (Nat.le_of_ble_eq_true rfl) rfl hd_1 kX1 o_t (c_X1_besideFirst (v_X1_besideFirst_0 o_t f_t_row ?_))
            refine ⟨h.1, ?_⟩
            have h := h.2
            refine ⟨h.1, ?_⟩
            have h := h.2
            refine ⟨h.1, ?_⟩
            have h := h.2
            intro y160 ey160
            have h := h y160 ey160
            refine ⟨fun hc => ?_, fun hc => ?_⟩
            · have h := h.1 hc
              show WP l mX1_isMultiple (rm d 0 0) noX _ 0 0 50 [(2, t), (0, y148), (0, y153), (0, y159), (3, 0), (3, 0), (3, 0), (3, 0), (3, 0)] [(0, (shrI (subI 63 y160) 1)), (0, 5)] N Λ σ152
              refine r_imul d_X1_isMultiple_50 ?_
              refine r_nm (fun y161 ey161 => ?_)
              have h := h y161 ey161
              refine r_istore (L2 := [(2, t), (0, y148), (0, y153), (0, y159), (0, y161), (3, 0), (3, 0), (3, 0), (3, 0)]) d_X1_isMultiple_51 (by decide) rfl rfl ?_
              refine r_lconst d_X1_isMultiple_53 ?_
              skip
              refine r_lstore (L2 := [(2, t), (0, y148), (0, y153), (0, y159), (0, y161), (1, 0), (3, 0), (3, 0), (3, 0)]) d_X1_isMultiple_54 (by decide) rfl rfl ?_
              refine r_iconst (x := 0) d_X1_isMultiple_56 ⟨by decide, by decide⟩ ?_
              refine r_istore (L2 := [(2, t), (0, y148), (0, y153), (0, y159), (0, y161), (1, 0), (3, 0), (0, 0), (3, 0)]) d_X1_isMultiple_57 (by decide) rfl rfl ?_
              exact h
            · have h := h.2 hc
              show WP l mX1_isMultiple (rm d 0 0) noX _ 0 0 50 [(2, t), (0, y148), (0, y153), (0, y159), (3, 0), (3, 0), (3, 0), (3, 0), (3, 0)] [(0, (shrI y160 1)), (0, 5)] N Λ σ152
              refine r_imul d_X1_isMultiple_50 ?_
              refine r_nm (fun y162 ey162 => ?_)
              have h := h y162 ey162
              refine r_istore (L2 := [(2, t), (0, y148), (0, y153), (0, y159), (0, y162), (3, 0), (3, 0), (3, 0), (3, 0)]) d_X1_isMultiple_51 (by decide) rfl rfl ?_
              refine r_lconst d_X1_isMultiple_53 ?_
              skip
              refine r_lstore (L2 := [(2, t), (0, y148), (0, y153), (0, y159), (0, y162), (1, 0), (3, 0), (3, 0), (3, 0)]) d_X1_isMultiple_54 (by decide) rfl rfl ?_
              refine r_iconst (x := 0) d_X1_isMultiple_56 ⟨by decide, by decide⟩ ?_
              refine r_istore (L2 := [(2, t), (0, y148), (0, y153), (0, y159), (0, y162), (1, 0), (3, 0), (0, 0), (3, 0)]) d_X1_isMultiple_57 (by decide) rfl rfl ?_
              exact h
        · have h := h.2 hc
          show WP l mX1_isMultiple (rm d 0 0) noX _ 0 0 30 [(2, t), (0, y148), (3, 0), (3, 0), (3, 0), (3, 0), (3, 0), (3, 0), (3, 0)] [(0, (-1)), (0, 1)] N Λ σ152
          refine r_imul d_X1_isMultiple_30 ?_
          refine r_nm (fun y163 ey163 => ?_)
          have h := h y163 ey163
          refine r_istore_n (L2 := [(2, t), (0, y148), (0, y163), (3, 0), (3, 0), (3, 0), (3, 0), (3, 0), (3, 0)]) d_X1_isMultiple_31 (by decide) rfl rfl ?_
          refine r_iconst (x := 5) d_X1_isMultiple_32 ⟨by decide, by decide⟩ ?_
          refine r_aload_n (x := t) d_X1_isMultiple_33 rfl o_t.1 ?_
          refine r_iconst (x := 0) d_X1_isMultiple_34 ⟨by decide, by decide⟩ ?_
          refine r_iconst (x := 2) d_X1_isMultiple_35 ⟨by decide, by decide⟩ ?_
          refine r_iconst (x := 3) d_X1_isMultiple_36 ⟨by decide, by decide⟩ ?_
          refine x_callVI (Y2 := mX1_besideFirst) (c := t) (As := [(0, 0), (0, 2), (0, 3)]) (S := [(0, 5)]) d_X1_isMultiple_37 ok_mX1_besideFirst ml_X1_119 rfl (Nat.le_of_ble_eq_true rfl) (Nat.le_of_ble_eq_true rfl) rfl hd_1 kX1 o_t (c_X1_besideFirst (v_X1_besideFirst_0 o_t f_t_row ?_))
          refine ⟨h.1, ?_⟩
          have h := h.2
          refine ⟨h.1, ?_⟩
          have h := h.2
          refine ⟨h.1, ?_⟩
          have h := h.2
          intro y164 ey164
          have h := h y164 ey164
          refine ⟨fun hc => ?_, fun hc => ?_⟩
          · have h := h.1 hc
            show WP l mX1_isMultiple (rm d 0 0) noX _ 0 0 40 [(2, t), (0, y148), (0, y163), (3, 0), (3, 0), (3, 0), (3, 0), (3, 0), (3, 0)] [(0, (shrI (subI 63 y164) 1)), (0, 5)] N Λ σ152
            refine r_imul d_X1_isMultiple_40 ?_
            refine r_nm (fun y165 ey165 => ?_)
            have h := h y165 ey165
            refine r_istore_n (L2 := [(2, t), (0, y148), (0, y163), (0, y165), (3, 0), (3, 0), (3, 0), (3, 0), (3, 0)]) d_X1_isMultiple_41 (by decide) rfl rfl ?_
            refine r_iconst (x := 5) d_X1_isMultiple_42 ⟨by decide, by decide⟩ ?_
            refine r_aload_n (x := t) d_X1_isMultiple_43 rfl o_t.1 ?_
            refine r_iconst (x := 1) d_X1_isMultiple_44 ⟨by decide, by decide⟩ ?_
            refine r_iconst (x := 2) d_X1_isMultiple_45 ⟨by decide, by decide⟩ ?_
            refine r_iconst (x := 3) d_X1_isMultiple_46 ⟨by decide, by decide⟩ ?_
            refine x_callVI (Y2 := mX1_besideFirst) (c := t) (As := [(0, 1), (0, 2), (0, 3)]) (S := [(0, 5)]) d_X1_isMultiple_47 ok_mX1_besideFirst ml_X1_119 rfl (Nat.le_of_ble_eq_true rfl) (Nat.le_of_ble_eq_true rfl) rfl hd_1 kX1 o_t (c_X1_besideFirst (v_X1_besideFirst_0 o_t f_t_row ?_))
            refine ⟨h.1, ?_⟩
            have h := h.2
            refine ⟨h.1, ?_⟩
            have h := h.2
            refine ⟨h.1, ?_⟩
            have h := h.2
            intro y166 ey166
            have h := h y166 ey166
            refine ⟨fun hc => ?_, fun hc => ?_⟩
            · have h := h.1 hc
              show WP l mX1_isMultiple (rm d 0 0) noX _ 0 0 50 [(2, t), (0, y148), (0, y163), (0, y165), (3, 0), (3, 0), (3, 0), (3, 0), (3, 0)] [(0, (shrI (subI 63 y166) 1)), (0, 5)] N Λ σ152
              refine r_imul d_X1_isMultiple_50 ?_
              refine r_nm (fun y167 ey167 => ?_)
              have h := h y167 ey167
              refine r_istore (L2 := [(2, t), (0, y148), (0, y163), (0, y165), (0, y167), (3, 0), (3, 0), (3, 0), (3, 0)]) d_X1_isMultiple_51 (by decide) rfl rfl ?_
              refine r_lconst d_X1_isMultiple_53 ?_
              skip
              refine r_lstore (L2 := [(2, t), (0, y148), (0, y163), (0, y165), (0, y167), (1, 0), (3, 0), (3, 0), (3, 0)]) d_X1_isMultiple_54 (by decide) rfl rfl ?_
              refine r_iconst (x := 0) d_X1_isMultiple_56 ⟨by decide, by decide⟩ ?_
              refine r_istore (L2 := [(2, t), (0, y148), (0, y163), (0, y165), (0, y167), (1, 0), (3, 0), (0, 0), (3, 0)]) d_X1_isMultiple_57 (by decide) rfl rfl ?_
              exact h
            · have h := h.2 hc
              show WP l mX1_isMultiple (rm d 0 0) noX _ 0 0 50 [(2, t), (0, y148), (0, y163), (0, y165), (3, 0), (3, 0), (3, 0), (3, 0), (3, 0)] [(0, (shrI y166 1)), (0, 5)] N Λ σ152
              refine r_imul d_X1_isMultiple_50 ?_
              refine r_nm (fun y168 ey168 => ?_)
              have h := h y168 ey168
              refine r_istore (L2 := [(2, t), (0, y148), (0, y163), (0, y165), (0, y168), (3, 0), (3, 0), (3, 0), (3, 0)]) d_X1_isMultiple_51 (by decide) rfl rfl ?_
              refine r_lconst d_X1_isMultiple_53 ?_
              skip
              refine r_lstore (L2 := [(2, t), (0, y148), (0, y163), (0, y165), (0, y168), (1, 0), (3, 0), (3, 0), (3, 0)]) d_X1_isMultiple_54 (by decide) rfl rfl ?_
              refine r_iconst (x := 0) d_X1_isMultiple_56 ⟨by decide, by decide⟩ ?_
              refine r_istore (L2 := [(2, t), (0, y148), (0, y163), (0, y165), (0, y168), (1, 0), (3, 0), (0, 0), (3, 0)]) d_X1_isMultiple_57 (by decide) rfl rfl ?_
              exact h
          · have h := h.2 hc
            show WP l mX1_isMultiple (rm d 0 0) noX _ 0 0 40 [(2, t), (0, y148), (0, y163), (3, 0), (3, 0), (3, 0), (3, 0), (3, 0), (3, 0)] [(0, (shrI y164 1)), (0, 5)] N Λ σ152
            refine r_imul d_X1_isMultiple_40 ?_
            refine r_nm (fun y169 ey169 => ?_)
            have h := h y169 ey169
            refine r_istore_n (L2 := [(2, t), (0, y148), (0, y163), (0, y169), (3, 0), (3, 0), (3, 0), (3, 0), (3, 0)]) d_X1_isMultiple_41 (by decide) rfl rfl ?_
            refine r_iconst (x := 5) d_X1_isMultiple_42 ⟨by decide, by decide⟩ ?_
            refine r_aload_n (x := t) d_X1_isMultiple_43 rfl o_t.1 ?_
            refine r_iconst (x := 1) d_X1_isMultiple_44 ⟨by decide, by decide⟩ ?_
            refine r_iconst (x := 2) d_X1_isMultiple_45 ⟨by decide, by decide⟩ ?_
            refine r_iconst (x := 3) d_X1_isMultiple_46 ⟨by decide, by decide⟩ ?_
            refine x_callVI (Y2 := mX1_besideFirst) (c := t) (As := [(0, 1), (0, 2), (0, 3)]) (S := [(0, 5)]) d_X1_isMultiple_47 ok_mX1_besideFirst ml_X1_119 rfl (Nat.le_of_ble_eq_true rfl) (Nat.le_of_ble_eq_true rfl) rfl hd_1 kX1 o_t (c_X1_besideFirst (v_X1_besideFirst_0 o_t f_t_row ?_))
            refine ⟨h.1, ?_⟩
            have h := h.2
            refine ⟨h.1, ?_⟩
            have h := h.2
            refine ⟨h.1, ?_⟩
            have h := h.2
            intro y170 ey170
            have h := h y170 ey170
            refine ⟨fun hc => ?_, fun hc => ?_⟩
            · have h := h.1 hc
              show WP l mX1_isMultiple (rm d 0 0) noX _ 0 0 50 [(2, t), (0, y148), (0, y163), (0, y169), (3, 0), (3, 0), (3, 0), (3, 0), (3, 0)] [(0, (shrI (subI 63 y170) 1)), (0, 5)] N Λ σ152
              refine r_imul d_X1_isMultiple_50 ?_
              refine r_nm (fun y171 ey171 => ?_)
              have h := h y171 ey171
              refine r_istore (L2 := [(2, t), (0, y148), (0, y163), (0, y169), (0, y171), (3, 0), (3, 0), (3, 0), (3, 0)]) d_X1_isMultiple_51 (by decide) rfl rfl ?_
              refine r_lconst d_X1_isMultiple_53 ?_
              skip
              refine r_lstore (L2 := [(2, t), (0, y148), (0, y163), (0, y169), (0, y171), (1, 0), (3, 0), (3, 0), (3, 0)]) d_X1_isMultiple_54 (by decide) rfl rfl ?_
              refine r_iconst (x := 0) d_X1_isMultiple_56 ⟨by decide, by decide⟩ ?_
              refine r_istore (L2 := [(2, t), (0, y148), (0, y163), (0, y169), (0, y171), (1, 0), (3, 0), (0, 0), (3, 0)]) d_X1_isMultiple_57 (by decide) rfl rfl ?_
              exact h
            · have h := h.2 hc
              show WP l mX1_isMultiple (rm d 0 0) noX _ 0 0 50 [(2, t), (0, y148), (0, y163), (0, y169), (3, 0), (3, 0), (3, 0), (3, 0), (3, 0)] [(0, (shrI y170 1)), (0, 5)] N Λ σ152
              refine r_imul d_X1_isMultiple_50 ?_
              refine r_nm (fun y172 ey172 => ?_)
              have h := h y172 ey172
              refine r_istore (L2 := [(2, t), (0, y148), (0, y163), (0, y169), (0, y172), (3, 0), (3, 0), (3, 0), (3, 0)]) d_X1_isMultiple_51 (by decide) rfl rfl ?_
              refine r_lconst d_X1_isMultiple_53 ?_
              skip
              refine r_lstore (L2 := [(2, t), (0, y148), (0, y163), (0, y169), (0, y172), (1, 0), (3, 0), (3, 0), (3, 0)]) d_X1_isMultiple_54 (by decide) rfl rfl ?_
              refine r_iconst (x := 0) d_X1_isMultiple_56 ⟨by decide, by decide⟩ ?_
              refine r_istore (L2 := [(2, t), (0, y148), (0, y163), (0, y169), (0, y172), (1, 0), (3, 0), (0, 0), (3, 0)]) d_X1_isMultiple_57 (by decide) rfl rfl ?_
              exact h
      · have h := h.2 hc
        show WP l mX1_isMultiple (rm d 0 0) noX _ 0 0 23 [(2, t), (0, y148), (3, 0), (3, 0), (3, 0), (3, 0), (3, 0), (3, 0), (3, 0)] [(0, (-1))] N Λ σ150
        refine r_aload_n (x := t) d_X1_isMultiple_23 rfl o_t.1 ?_
        refine r_iconst (x := 0) d_X1_isMultiple_24 ⟨by decide, by decide⟩ ?_
        refine r_iconst (x := 4) d_X1_isMultiple_25 ⟨by decide, by decide⟩ ?_
        refine r_iconst (x := 5) d_X1_isMultiple_26 ⟨by decide, by decide⟩ ?_
        refine x_callVI (Y2 := mX1_signOf) (c := t) (As := [(0, 0), (0, 4), (0, 5)]) (S := [(0, (-1))]) d_X1_isMultiple_27 ok_mX1_signOf ml_X1_115 rfl (Nat.le_of_ble_eq_true rfl) (Nat.le_of_ble_eq_true rfl) rfl hd_1 kX1 o_t (c_X1_signOf (v_X1_signOf_0 o_t f_t_row he_1 ?_))
        refine ⟨h.1, ?_⟩
        have h := h.2
        refine ⟨h.1, ?_⟩
        have h := h.2
        refine ⟨h.1, ?_⟩
        have h := h.2
        refine CI.mono h (fun v173 σ174 h => ?_)
        refine ⟨fun hc => ?_, fun hc => ?_⟩
        · have h := h.1 hc
          show WP l mX1_isMultiple (rm d 0 0) noX _ 0 0 30 [(2, t), (0, y148), (3, 0), (3, 0), (3, 0), (3, 0), (3, 0), (3, 0), (3, 0)] [(0, 1), (0, (-1))] N Λ σ174
          refine r_imul d_X1_isMultiple_30 ?_
          refine r_nm (fun y175 ey175 => ?_)
          have h := h y175 ey175
          refine r_istore_n (L2 := [(2, t), (0, y148), (0, y175), (3, 0), (3, 0), (3, 0), (3, 0), (3, 0), (3, 0)]) d_X1_isMultiple_31 (by decide) rfl rfl ?_
          refine r_iconst (x := 5) d_X1_isMultiple_32 ⟨by decide, by decide⟩ ?_
          refine r_aload_n (x := t) d_X1_isMultiple_33 rfl o_t.1 ?_
          refine r_iconst (x := 0) d_X1_isMultiple_34 ⟨by decide, by decide⟩ ?_
          refine r_iconst (x := 2) d_X1_isMultiple_35 ⟨by decide, by decide⟩ ?_
          refine r_iconst (x := 3) d_X1_isMultiple_36 ⟨by decide, by decide⟩ ?_
          refine x_callVI (Y2 := mX1_besideFirst) (c := t) (As := [(0, 0), (0, 2), (0, 3)]) (S := [(0, 5)]) d_X1_isMultiple_37 ok_mX1_besideFirst ml_X1_119 rfl (Nat.le_of_ble_eq_true rfl) (Nat.le_of_ble_eq_true rfl) rfl hd_1 kX1 o_t (c_X1_besideFirst (v_X1_besideFirst_0 o_t f_t_row ?_))
          refine ⟨h.1, ?_⟩
          have h := h.2
          refine ⟨h.1, ?_⟩
          have h := h.2
          refine ⟨h.1, ?_⟩
          have h := h.2
          intro y176 ey176
          have h := h y176 ey176
          refine ⟨fun hc => ?_, fun hc => ?_⟩
          · have h := h.1 hc
            show WP l mX1_isMultiple (rm d 0 0) noX _ 0 0 40 [(2, t), (0, y148), (0, y175), (3, 0), (3, 0), (3, 0), (3, 0), (3, 0), (3, 0)] [(0, (shrI (subI 63 y176) 1)), (0, 5)] N Λ σ174
            refine r_imul d_X1_isMultiple_40 ?_
            refine r_nm (fun y177 ey177 => ?_)
            have h := h y177 ey177
            refine r_istore_n (L2 := [(2, t), (0, y148), (0, y175), (0, y177), (3, 0), (3, 0), (3, 0), (3, 0), (3, 0)]) d_X1_isMultiple_41 (by decide) rfl rfl ?_
            refine r_iconst (x := 5) d_X1_isMultiple_42 ⟨by decide, by decide⟩ ?_
            refine r_aload_n (x := t) d_X1_isMultiple_43 rfl o_t.1 ?_
            refine r_iconst (x := 1) d_X1_isMultiple_44 ⟨by decide, by decide⟩ ?_
            refine r_iconst (x := 2) d_X1_isMultiple_45 ⟨by decide, by decide⟩ ?_
            refine r_iconst (x := 3) d_X1_isMultiple_46 ⟨by decide, by decide⟩ ?_
            refine x_callVI (Y2 := mX1_besideFirst) (c := t) (As := [(0, 1), (0, 2), (0, 3)]) (S := [(0, 5)]) d_X1_isMultiple_47 ok_mX1_besideFirst ml_X1_119 rfl (Nat.le_of_ble_eq_true rfl) (Nat.le_of_ble_eq_true rfl) rfl hd_1 kX1 o_t (c_X1_besideFirst (v_X1_besideFirst_0 o_t f_t_row ?_))
            refine ⟨h.1, ?_⟩
            have h := h.2
            refine ⟨h.1, ?_⟩
            have h := h.2
            refine ⟨h.1, ?_⟩
            have h := h.2
            intro y178 ey178
            have h := h y178 ey178
            refine ⟨fun hc => ?_, fun hc => ?_⟩
            · have h := h.1 hc
              show WP l mX1_isMultiple (rm d 0 0) noX _ 0 0 50 [(2, t), (0, y148), (0, y175), (0, y177), (3, 0), (3, 0), (3, 0), (3, 0), (3, 0)] [(0, (shrI (subI 63 y178) 1)), (0, 5)] N Λ σ174
              refine r_imul d_X1_isMultiple_50 ?_
              refine r_nm (fun y179 ey179 => ?_)
              have h := h y179 ey179
              refine r_istore (L2 := [(2, t), (0, y148), (0, y175), (0, y177), (0, y179), (3, 0), (3, 0), (3, 0), (3, 0)]) d_X1_isMultiple_51 (by decide) rfl rfl ?_
              refine r_lconst d_X1_isMultiple_53 ?_
              skip
              refine r_lstore (L2 := [(2, t), (0, y148), (0, y175), (0, y177), (0, y179), (1, 0), (3, 0), (3, 0), (3, 0)]) d_X1_isMultiple_54 (by decide) rfl rfl ?_
              refine r_iconst (x := 0) d_X1_isMultiple_56 ⟨by decide, by decide⟩ ?_
              refine r_istore (L2 := [(2, t), (0, y148), (0, y175), (0, y177), (0, y179), (1, 0), (3, 0), (0, 0), (3, 0)]) d_X1_isMultiple_57 (by decide) rfl rfl ?_
              exact h
            · have h := h.2 hc
              show WP l mX1_isMultiple (rm d 0 0) noX _ 0 0 50 [(2, t), (0, y148), (0, y175), (0, y177), (3, 0), (3, 0), (3, 0), (3, 0), (3, 0)] [(0, (shrI y178 1)), (0, 5)] N Λ σ174
              refine r_imul d_X1_isMultiple_50 ?_
              refine r_nm (fun y180 ey180 => ?_)
              have h := h y180 ey180
              refine r_istore (L2 := [(2, t), (0, y148), (0, y175), (0, y177), (0, y180), (3, 0), (3, 0), (3, 0), (3, 0)]) d_X1_isMultiple_51 (by decide) rfl rfl ?_
              refine r_lconst d_X1_isMultiple_53 ?_
              skip
              refine r_lstore (L2 := [(2, t), (0, y148), (0, y175), (0, y177), (0, y180), (1, 0), (3, 0), (3, 0), (3, 0)]) d_X1_isMultiple_54 (by decide) rfl rfl ?_
              refine r_iconst (x := 0) d_X1_isMultiple_56 ⟨by decide, by decide⟩ ?_
              refine r_istore (L2 := [(2, t), (0, y148), (0, y175), (0, y177), (0, y180), (1, 0), (3, 0), (0, 0), (3, 0)]) d_X1_isMultiple_57 (by decide) rfl rfl ?_
              exact h
          · have h := h.2 hc
            show WP l mX1_isMultiple (rm d 0 0) noX _ 0 0 40 [(2, t), (0, y148), (0, y175), (3, 0), (3, 0), (3, 0), (3, 0), (3, 0), (3, 0)] [(0, (shrI y176 1)), (0, 5)] N Λ σ174
            refine r_imul d_X1_isMultiple_40 ?_
            refine r_nm (fun y181 ey181 => ?_)
            have h := h y181 ey181
            refine r_istore_n (L2 := [(2, t), (0, y148), (0, y175), (0, y181), (3, 0), (3, 0), (3, 0), (3, 0), (3, 0)]) d_X1_isMultiple_41 (by decide) rfl rfl ?_
            refine r_iconst (x := 5) d_X1_isMultiple_42 ⟨by decide, by decide⟩ ?_
            refine r_aload_n (x := t) d_X1_isMultiple_43 rfl o_t.1 ?_
            refine r_iconst (x := 1) d_X1_isMultiple_44 ⟨by decide, by decide⟩ ?_
            refine r_iconst (x := 2) d_X1_isMultiple_45 ⟨by decide, by decide⟩ ?_
            refine r_iconst (x := 3) d_X1_isMultiple_46 ⟨by decide, by decide⟩ ?_
            refine x_callVI (Y2 := mX1_besideFirst) (c := t) (As := [(0, 1), (0, 2), (0, 3)]) (S := [(0, 5)]) d_X1_isMultiple_47 ok_mX1_besideFirst ml_X1_119 rfl (Nat.le_of_ble_eq_true rfl) (Nat.le_of_ble_eq_true rfl) rfl hd_1 kX1 o_t (c_X1_besideFirst (v_X1_besideFirst_0 o_t f_t_row ?_))
            refine ⟨h.1, ?_⟩
            have h := h.2
            refine ⟨h.1, ?_⟩
            have h := h.2
            refine ⟨h.1, ?_⟩
            have h := h.2
            intro y182 ey182
            have h := h y182 ey182
            refine ⟨fun hc => ?_, fun hc => ?_⟩
            · have h := h.1 hc
              show WP l mX1_isMultiple (rm d 0 0) noX _ 0 0 50 [(2, t), (0, y148), (0, y175), (0, y181), (3, 0), (3, 0), (3, 0), (3, 0), (3, 0)] [(0, (shrI (subI 63 y182) 1)), (0, 5)] N Λ σ174
              refine r_imul d_X1_isMultiple_50 ?_
              refine r_nm (fun y183 ey183 => ?_)
              have h := h y183 ey183
              refine r_istore (L2 := [(2, t), (0, y148), (0, y175), (0, y181), (0, y183), (3, 0), (3, 0), (3, 0), (3, 0)]) d_X1_isMultiple_51 (by decide) rfl rfl ?_
              refine r_lconst d_X1_isMultiple_53 ?_
              skip
              refine r_lstore (L2 := [(2, t), (0, y148), (0, y175), (0, y181), (0, y183), (1, 0), (3, 0), (3, 0), (3, 0)]) d_X1_isMultiple_54 (by decide) rfl rfl ?_
              refine r_iconst (x := 0) d_X1_isMultiple_56 ⟨by decide, by decide⟩ ?_
              refine r_istore (L2 := [(2, t), (0, y148), (0, y175), (0, y181), (0, y183), (1, 0), (3, 0), (0, 0), (3, 0)]) d_X1_isMultiple_57 (by decide) rfl rfl ?_
              exact h
            · have h := h.2 hc
              show WP l mX1_isMultiple (rm d 0 0) noX _ 0 0 50 [(2, t), (0, y148), (0, y175), (0, y181), (3, 0), (3, 0), (3, 0), (3, 0), (3, 0)] [(0, (shrI y182 1)), (0, 5)] N Λ σ174
              refine r_imul d_X1_isMultiple_50 ?_
              refine r_nm (fun y184 ey184 => ?_)
              have h := h y184 ey184
              refine r_istore (L2 := [(2, t), (0, y148), (0, y175), (0, y181), (0, y184), (3, 0), (3, 0), (3, 0), (3, 0)]) d_X1_isMultiple_51 (by decide) rfl rfl ?_
              refine r_lconst d_X1_isMultiple_53 ?_
              skip
              refine r_lstore (L2 := [(2, t), (0, y148), (0, y175), (0, y181), (0, y184), (1, 0), (3, 0), (3, 0), (3, 0)]) d_X1_isMultiple_54 (by decide) rfl rfl ?_
              refine r_iconst (x := 0) d_X1_isMultiple_56 ⟨by decide, by decide⟩ ?_
              refine r_istore (L2 := [(2, t), (0, y148), (0, y175), (0, y181), (0, y184), (1, 0), (3, 0), (0, 0), (3, 0)]) d_X1_isMultiple_57 (by decide) rfl rfl ?_
              exact h
        · have h := h.2 hc
          show WP l mX1_isMultiple (rm d 0 0) noX _ 0 0 30 [(2, t), (0, y148), (3, 0), (3, 0), (3, 0), (3, 0), (3, 0), (3, 0), (3, 0)] [(0, (-1)), (0, (-1))] N Λ σ174
          refine r_imul d_X1_isMultiple_30 ?_
          refine r_nm (fun y185 ey185 => ?_)
          have h := h y185 ey185
          refine r_istore_n (L2 := [(2, t), (0, y148), (0, y185), (3, 0), (3, 0), (3, 0), (3, 0), (3, 0), (3, 0)]) d_X1_isMultiple_31 (by decide) rfl rfl ?_
          refine r_iconst (x := 5) d_X1_isMultiple_32 ⟨by decide, by decide⟩ ?_
          refine r_aload_n (x := t) d_X1_isMultiple_33 rfl o_t.1 ?_
          refine r_iconst (x := 0) d_X1_isMultiple_34 ⟨by decide, by decide⟩ ?_
          refine r_iconst (x := 2) d_X1_isMultiple_35 ⟨by decide, by decide⟩ ?_
          refine r_iconst (x := 3) d_X1_isMultiple_36 ⟨by decide, by decide⟩ ?_
          refine x_callVI (Y2 := mX1_besideFirst) (c := t) (As := [(0, 0), (0, 2), (0, 3)]) (S := [(0, 5)]) d_X1_isMultiple_37 ok_mX1_besideFirst ml_X1_119 rfl (Nat.le_of_ble_eq_true rfl) (Nat.le_of_ble_eq_true rfl) rfl hd_1 kX1 o_t (c_X1_besideFirst (v_X1_besideFirst_0 o_t f_t_row ?_))
          refine ⟨h.1, ?_⟩
          have h := h.2
          refine ⟨h.1, ?_⟩
          have h := h.2
          refine ⟨h.1, ?_⟩
          have h := h.2
          intro y186 ey186
          have h := h y186 ey186
          refine ⟨fun hc => ?_, fun hc => ?_⟩
          · have h := h.1 hc
            show WP l mX1_isMultiple (rm d 0 0) noX _ 0 0 40 [(2, t), (0, y148), (0, y185), (3, 0), (3, 0), (3, 0), (3, 0), (3, 0), (3, 0)] [(0, (shrI (subI 63 y186) 1)), (0, 5)] N Λ σ174
            refine r_imul d_X1_isMultiple_40 ?_
            refine r_nm (fun y187 ey187 => ?_)
            have h := h y187 ey187
            refine r_istore_n (L2 := [(2, t), (0, y148), (0, y185), (0, y187), (3, 0), (3, 0), (3, 0), (3, 0), (3, 0)]) d_X1_isMultiple_41 (by decide) rfl rfl ?_
            refine r_iconst (x := 5) d_X1_isMultiple_42 ⟨by decide, by decide⟩ ?_
            refine r_aload_n (x := t) d_X1_isMultiple_43 rfl o_t.1 ?_
            refine r_iconst (x := 1) d_X1_isMultiple_44 ⟨by decide, by decide⟩ ?_
            refine r_iconst (x := 2) d_X1_isMultiple_45 ⟨by decide, by decide⟩ ?_
            refine r_iconst (x := 3) d_X1_isMultiple_46 ⟨by decide, by decide⟩ ?_
            refine x_callVI (Y2 := mX1_besideFirst) (c := t) (As := [(0, 1), (0, 2), (0, 3)]) (S := [(0, 5)]) d_X1_isMultiple_47 ok_mX1_besideFirst ml_X1_119 rfl (Nat.le_of_ble_eq_true rfl) (Nat.le_of_ble_eq_true rfl) rfl hd_1 kX1 o_t (c_X1_besideFirst (v_X1_besideFirst_0 o_t f_t_row ?_))
            refine ⟨h.1, ?_⟩
            have h := h.2
            refine ⟨h.1, ?_⟩
            have h := h.2
            refine ⟨h.1, ?_⟩
            have h := h.2
            intro y188 ey188
            have h := h y188 ey188
            refine ⟨fun hc => ?_, fun hc => ?_⟩
            · have h := h.1 hc
              show WP l mX1_isMultiple (rm d 0 0) noX _ 0 0 50 [(2, t), (0, y148), (0, y185), (0, y187), (3, 0), (3, 0), (3, 0), (3, 0), (3, 0)] [(0, (shrI (subI 63 y188) 1)), (0, 5)] N Λ σ174
              refine r_imul d_X1_isMultiple_50 ?_
              refine r_nm (fun y189 ey189 => ?_)
              have h := h y189 ey189
              refine r_istore (L2 := [(2, t), (0, y148), (0, y185), (0, y187), (0, y189), (3, 0), (3, 0), (3, 0), (3, 0)]) d_X1_isMultiple_51 (by decide) rfl rfl ?_
              refine r_lconst d_X1_isMultiple_53 ?_
              skip
              refine r_lstore (L2 := [(2, t), (0, y148), (0, y185), (0, y187), (0, y189), (1, 0), (3, 0), (3, 0), (3, 0)]) d_X1_isMultiple_54 (by decide) rfl rfl ?_
              refine r_iconst (x := 0) d_X1_isMultiple_56 ⟨by decide, by decide⟩ ?_
              refine r_istore (L2 := [(2, t), (0, y148), (0, y185), (0, y187), (0, y189), (1, 0), (3, 0), (0, 0), (3, 0)]) d_X1_isMultiple_57 (by decide) rfl rfl ?_
              exact h
            · have h := h.2 hc
              show WP l mX1_isMultiple (rm d 0 0) noX _ 0 0 50 [(2, t), (0, y148), (0, y185), (0, y187), (3, 0), (3, 0), (3, 0), (3, 0), (3, 0)] [(0, (shrI y188 1)), (0, 5)] N Λ σ174
              refine r_imul d_X1_isMultiple_50 ?_
              refine r_nm (fun y190 ey190 => ?_)
              have h := h y190 ey190
              refine r_istore (L2 := [(2, t), (0, y148), (0, y185), (0, y187), (0, y190), (3, 0), (3, 0), (3, 0), (3, 0)]) d_X1_isMultiple_51 (by decide) rfl rfl ?_
              refine r_lconst d_X1_isMultiple_53 ?_
              skip
              refine r_lstore (L2 := [(2, t), (0, y148), (0, y185), (0, y187), (0, y190), (1, 0), (3, 0), (3, 0), (3, 0)]) d_X1_isMultiple_54 (by decide) rfl rfl ?_
              refine r_iconst (x := 0) d_X1_isMultiple_56 ⟨by decide, by decide⟩ ?_
              refine r_istore (L2 := [(2, t), (0, y148), (0, y185), (0, y187), (0, y190), (1, 0), (3, 0), (0, 0), (3, 0)]) d_X1_isMultiple_57 (by decide) rfl rfl ?_
              exact h
          · have h := h.2 hc
            show WP l mX1_isMultiple (rm d 0 0) noX _ 0 0 40 [(2, t), (0, y148), (0, y185), (3, 0), (3, 0), (3, 0), (3, 0), (3, 0), (3, 0)] [(0, (shrI y186 1)), (0, 5)] N Λ σ174
            refine r_imul d_X1_isMultiple_40 ?_
            refine r_nm (fun y191 ey191 => ?_)
            have h := h y191 ey191
            refine r_istore_n (L2 := [(2, t), (0, y148), (0, y185), (0, y191), (3, 0), (3, 0), (3, 0), (3, 0), (3, 0)]) d_X1_isMultiple_41 (by decide) rfl rfl ?_
            refine r_iconst (x := 5) d_X1_isMultiple_42 ⟨by decide, by decide⟩ ?_
            refine r_aload_n (x := t) d_X1_isMultiple_43 rfl o_t.1 ?_
            refine r_iconst (x := 1) d_X1_isMultiple_44 ⟨by decide, by decide⟩ ?_
            refine r_iconst (x := 2) d_X1_isMultiple_45 ⟨by decide, by decide⟩ ?_
            refine r_iconst (x := 3) d_X1_isMultiple_46 ⟨by decide, by decide⟩ ?_
            refine x_callVI (Y2 := mX1_besideFirst) (c := t) (As := [(0, 1), (0, 2), (0, 3)]) (S := [(0, 5)]) d_X1_isMultiple_47 ok_mX1_besideFirst ml_X1_119 rfl (Nat.le_of_ble_eq_true rfl) (Nat.le_of_ble_eq_true rfl) rfl hd_1 kX1 o_t (c_X1_besideFirst (v_X1_besideFirst_0 o_t f_t_row ?_))
            refine ⟨h.1, ?_⟩
            have h := h.2
            refine ⟨h.1, ?_⟩
            have h := h.2
            refine ⟨h.1, ?_⟩
            have h := h.2
            intro y192 ey192
            have h := h y192 ey192
            refine ⟨fun hc => ?_, fun hc => ?_⟩
            · have h := h.1 hc
              show WP l mX1_isMultiple (rm d 0 0) noX _ 0 0 50 [(2, t), (0, y148), (0, y185), (0, y191), (3, 0), (3, 0), (3, 0), (3, 0), (3, 0)] [(0, (shrI (subI 63 y192) 1)), (0, 5)] N Λ σ174
              refine r_imul d_X1_isMultiple_50 ?_
              refine r_nm (fun y193 ey193 => ?_)
              have h := h y193 ey193
              refine r_istore (L2 := [(2, t), (0, y148), (0, y185), (0, y191), (0, y193), (3, 0), (3, 0), (3, 0), (3, 0)]) d_X1_isMultiple_51 (by decide) rfl rfl ?_
              refine r_lconst d_X1_isMultiple_53 ?_
              skip
              refine r_lstore (L2 := [(2, t), (0, y148), (0, y185), (0, y191), (0, y193), (1, 0), (3, 0), (3, 0), (3, 0)]) d_X1_isMultiple_54 (by decide) rfl rfl ?_
              refine r_iconst (x := 0) d_X1_isMultiple_56 ⟨by decide, by decide⟩ ?_
              refine r_istore (L2 := [(2, t), (0, y148), (0, y185), (0, y191), (0, y193), (1, 0), (3, 0), (0, 0), (3, 0)]) d_X1_isMultiple_57 (by decide) rfl rfl ?_
              exact h
            · have h := h.2 hc
              show WP l mX1_isMultiple (rm d 0 0) noX _ 0 0 50 [(2, t), (0, y148), (0, y185), (0, y191), (3, 0), (3, 0), (3, 0), (3, 0), (3, 0)] [(0, (shrI y192 1)), (0, 5)] N Λ σ174
              refine r_imul d_X1_isMultiple_50 ?_
              refine r_nm (fun y194 ey194 => ?_)
              have h := h y194 ey194
              refine r_istore (L2 := [(2, t), (0, y148), (0, y185), (0, y191), (0, y194), (3, 0), (3, 0), (3, 0), (3, 0)]) d_X1_isMultiple_51 (by decide) rfl rfl ?_
              refine r_lconst d_X1_isMultiple_53 ?_
              skip
              refine r_lstore (L2 := [(2, t), (0, y148), (0, y185), (0, y191), (0, y194), (1, 0), (3, 0), (3, 0), (3, 0)]) d_X1_isMultiple_54 (by decide) rfl rfl ?_
              refine r_iconst (x := 0) d_X1_isMultiple_56 ⟨by decide, by decide⟩ ?_
              refine r_istore (L2 := [(2, t), (0, y148), (0, y185), (0, y191), (0, y194), (1, 0), (3, 0), (0, 0), (3, 0)]) d_X1_isMultiple_57 (by decide) rfl rfl ?_
              exact h
theorem v_X1_isMultiple_59 {l : Launch} {d N : Nat} {Λ : Lay} {P : Int → Mem → Prop} {σ : Mem} {x1 x2 x3 x4 x5 x7 t t_asked t_straight : Int} (o_t : Ob N Λ t 11 6) (f_t_straight : (Λ t).2.2 4 = t_straight) (f_t_asked : (Λ t).2.2 5 = t_asked)
    (h : ((5 ≤ x7 → (∀ τ1, τ1 = st σ t 0 (l2iI x5) → (((cmpL x5 0) = 0 → P 0 τ1) ∧ (¬ ((cmpL x5 0) = 0) → ((¬ (cmpL x5 (τ1 t 0)) = 0 → P 0 τ1) ∧ ((cmpL x5 (τ1 t 0)) = 0 → P 1 τ1)))))) ∧ (¬ (5 ≤ x7) → (Ix N Λ t_straight 0 (addI x3 x7) ∧ (Ix N Λ t_straight 0 (addI x4 x7) ∧ (∀ y2, y2 = (subI (mulI x1 (σ t_straight (addI x3 x7))) (mulI x2 (σ t_straight (addI x4 x7)))) → ((¬ (cmpL x5 0) = 0 → (Ix N Λ t_asked 0 x7 ∧ (((cmpL (mulL x5 y2) (σ t_asked x7)) = 0 → (∀ y3, y3 = addI x7 1 → WI l mX1_isMultiple d P 59 [(2, t), (0, x1), (0, x2), (0, x3), (0, x4), (1, x5), (3, 0), (0, y3), (3, 0)] [] N Λ σ)) ∧ (¬ ((cmpL (mulL x5 y2) (σ t_asked x7)) = 0) → P 0 σ)))) ∧ ((cmpL x5 0) = 0 → ((y2 = 0 → (Ix N Λ t_asked 0 x7 ∧ (((cmpL (mulL x5 y2) (σ t_asked x7)) = 0 → (∀ y4, y4 = addI x7 1 → WI l mX1_isMultiple d P 59 [(2, t), (0, x1), (0, x2), (0, x3), (0, x4), (1, x5), (3, 0), (0, y4), (3, 0)] [] N Λ σ)) ∧ (¬ ((cmpL (mulL x5 y2) (σ t_asked x7)) = 0) → P 0 σ)))) ∧ (¬ (y2 = 0) → (Ix N Λ t_asked 0 x7 ∧ (¬ y2 = 0 ∧ (∀ y5, y5 = (divL (σ t_asked x7) y2) → ((¬ (cmpL y5 0) = 0 → (Ix N Λ t_asked 0 x7 ∧ (((cmpL (mulL y5 y2) (σ t_asked x7)) = 0 → (∀ y6, y6 = addI x7 1 → WI l mX1_isMultiple d P 59 [(2, t), (0, x1), (0, x2), (0, x3), (0, x4), (1, y5), (3, 0), (0, y6), (3, 0)] [] N Λ σ)) ∧ (¬ ((cmpL (mulL y5 y2) (σ t_asked x7)) = 0) → P 0 σ)))) ∧ ((cmpL y5 0) = 0 → P 0 σ))))))))))))))) :
    WI l mX1_isMultiple d P 59 [(2, t), (0, x1), (0, x2), (0, x3), (0, x4), (1, x5), (3, 0), (0, x7), (3, 0)] [] N Λ σ := by
  refine r_iload (x := x7) d_X1_isMultiple_59 rfl ?_
  refine r_iconst (x := 5) d_X1_isMultiple_61 ⟨by decide, by decide⟩ ?_
  refine r_ic_ge (tgt := 152) d_X1_isMultiple_62 rfl (fun hc => ?_) (fun hc => ?_)
  · have h := h.1 hc
    refine r_aload_n (x := t) d_X1_isMultiple_152 rfl o_t.1 ?_
    refine r_lload (x := x5) d_X1_isMultiple_153 rfl ?_
    refine r_l2i d_X1_isMultiple_155 ?_
    refine r_putI (j := 0) d_X1_isMultiple_156 kX1 (by decide) fl_X1_9 rfl o_t.1 o_t.2.1 o_t.2.2.1 o_t.2.2.2 rfl ?_
    refine r_nmM (fun τ1 eτ1 => ?_)
    have h := h τ1 eτ1
    refine r_lload (x := x5) d_X1_isMultiple_159 rfl ?_
    refine r_lconst d_X1_isMultiple_161 ?_
    skip
    refine r_lcmp d_X1_isMultiple_162 ?_
    refine r_if_eq (tgt := 181) d_X1_isMultiple_163 rfl (fun hc => ?_) (fun hc => ?_)
    · have h := h.1 hc
      refine r_iconst (x := 0) d_X1_isMultiple_181 ⟨by decide, by decide⟩ ?_
      exact r_iret d_X1_isMultiple_182 rfl (by decide) (Nat.le_refl 0) (Nat.le_refl 0) ⟨_, rfl, rfl, rfl, h⟩
    · have h := h.2 hc
      refine r_lload (x := x5) d_X1_isMultiple_166 rfl ?_
      refine r_aload_n (x := t) d_X1_isMultiple_168 rfl o_t.1 ?_
      refine r_getf (j := 0) (t := 0) (x := (τ1 t 0)) d_X1_isMultiple_169 kX1 (by decide) fl_X1_9 o_t.1 o_t.2.1 o_t.2.2.1 o_t.2.2.2 rfl rfl ?_
      refine r_i2l d_X1_isMultiple_172 ?_
      refine r_lcmp d_X1_isMultiple_173 ?_
      refine r_if_ne (tgt := 181) d_X1_isMultiple_174 rfl (fun hc => ?_) (fun hc => ?_)
      · have h := h.1 hc
        refine r_iconst (x := 0) d_X1_isMultiple_181 ⟨by decide, by decide⟩ ?_
        exact r_iret d_X1_isMultiple_182 rfl (by decide) (Nat.le_refl 0) (Nat.le_refl 0) ⟨_, rfl, rfl, rfl, h⟩
      · have h := h.2 hc
        refine r_iconst (x := 1) d_X1_isMultiple_177 ⟨by decide, by decide⟩ ?_
        refine r_goto (tgt := 182) d_X1_isMultiple_178 rfl ?_
        exact r_iret d_X1_isMultiple_182 rfl (by decide) (Nat.le_refl 0) (Nat.le_refl 0) ⟨_, rfl, rfl, rfl, h⟩
  · have h := h.2 hc
    refine r_iload_n (x := x1) d_X1_isMultiple_65 rfl ?_
    refine r_aload_n (x := t) d_X1_isMultiple_66 rfl o_t.1 ?_
    refine r_getf (j := 4) (t := 2) (x := t_straight) d_X1_isMultiple_67 kX1 (by decide) fl_X1_26 o_t.1 o_t.2.1 o_t.2.2.1 o_t.2.2.2 rfl f_t_straight ?_
    refine r_iload_n (x := x3) d_X1_isMultiple_70 rfl ?_
    refine r_iload (x := x7) d_X1_isMultiple_71 rfl ?_
    refine r_iadd d_X1_isMultiple_73 ?_
    refine x_iald d_X1_isMultiple_74 h.1 ?_
    have h := h.2
    refine r_imul d_X1_isMultiple_75 ?_
    refine r_iload_n (x := x2) d_X1_isMultiple_76 rfl ?_
    refine r_aload_n (x := t) d_X1_isMultiple_77 rfl o_t.1 ?_
    refine r_getf (j := 4) (t := 2) (x := t_straight) d_X1_isMultiple_78 kX1 (by decide) fl_X1_26 o_t.1 o_t.2.1 o_t.2.2.1 o_t.2.2.2 rfl f_t_straight ?_
    refine r_iload (x := x4) d_X1_isMultiple_81 rfl ?_
    refine r_iload (x := x7) d_X1_isMultiple_83 rfl ?_
    refine r_iadd d_X1_isMultiple_85 ?_
    refine x_iald d_X1_isMultiple_86 h.1 ?_
    have h := h.2
    refine r_imul d_X1_isMultiple_87 ?_
    refine r_isub d_X1_isMultiple_88 ?_
    refine r_nm (fun y2 ey2 => ?_)
    have h := h y2 ey2
    refine r_istore (L2 := [(2, t), (0, x1), (0, x2), (0, x3), (0, x4), (1, x5), (3, 0), (0, x7), (0, y2)]) d_X1_isMultiple_89 (by decide) rfl rfl ?_
    refine r_lload (x := x5) d_X1_isMultiple_91 rfl ?_
    refine r_lconst d_X1_isMultiple_93 ?_
    skip
    refine r_lcmp d_X1_isMultiple_94 ?_
    refine r_if_ne (tgt := 126) d_X1_isMultiple_95 rfl (fun hc => ?_) (fun hc => ?_)
    · have h := h.1 hc
      refine r_lload (x := x5) d_X1_isMultiple_126 rfl ?_
      refine r_iload (x := y2) d_X1_isMultiple_128 rfl ?_
      refine r_i2l d_X1_isMultiple_130 ?_
      refine r_lmul d_X1_isMultiple_131 ?_
      refine r_aload_n (x := t) d_X1_isMultiple_132 rfl o_t.1 ?_
      refine r_getf (j := 5) (t := 2) (x := t_asked) d_X1_isMultiple_133 kX1 (by decide) fl_X1_29 o_t.1 o_t.2.1 o_t.2.2.1 o_t.2.2.2 rfl f_t_asked ?_
      refine r_iload (x := x7) d_X1_isMultiple_136 rfl ?_
      refine x_iald d_X1_isMultiple_138 h.1 ?_
      have h := h.2
      refine r_i2l d_X1_isMultiple_139 ?_
      refine r_lcmp d_X1_isMultiple_140 ?_
      refine r_if_eq (tgt := 146) d_X1_isMultiple_141 rfl (fun hc => ?_) (fun hc => ?_)
      · have h := h.1 hc
        refine x_iinc (x := x7) (L := [(2, t), (0, x1), (0, x2), (0, x3), (0, x4), (1, x5), (3, 0), (0, x7), (0, y2)]) d_X1_isMultiple_146 rfl (by decide) rfl (fun y3 ey3 => ?_)
        have h := h y3 ey3
        show WP _ _ _ _ _ _ _ _ [(2, t), (0, x1), (0, x2), (0, x3), (0, x4), (1, x5), (3, 0), (0, y3), (0, y2)] _ _ _ _
        refine r_goto (tgt := 59) d_X1_isMultiple_149 rfl ?_
        exact x_mask h ⟨Or.inr rfl, Or.inr rfl, Or.inr rfl, Or.inr rfl, Or.inr rfl, Or.inr rfl, Or.inl rfl, Or.inr rfl, Or.inl rfl, trivial⟩
      · have h := h.2 hc
        refine r_iconst (x := 0) d_X1_isMultiple_144 ⟨by decide, by decide⟩ ?_
        exact r_iret d_X1_isMultiple_145 rfl (by decide) (Nat.le_refl 0) (Nat.le_refl 0) ⟨_, rfl, rfl, rfl, h⟩
    · have h := h.2 hc
      refine r_iload (x := y2) d_X1_isMultiple_98 rfl ?_
      refine r_if_eq (tgt := 126) d_X1_isMultiple_100 rfl (fun hc => ?_) (fun hc => ?_)
      · have h := h.1 hc
        refine r_lload (x := x5) d_X1_isMultiple_126 rfl ?_
        refine r_iload (x := y2) d_X1_isMultiple_128 rfl ?_
        refine r_i2l d_X1_isMultiple_130 ?_
        refine r_lmul d_X1_isMultiple_131 ?_
        refine r_aload_n (x := t) d_X1_isMultiple_132 rfl o_t.1 ?_
        refine r_getf (j := 5) (t := 2) (x := t_asked) d_X1_isMultiple_133 kX1 (by decide) fl_X1_29 o_t.1 o_t.2.1 o_t.2.2.1 o_t.2.2.2 rfl f_t_asked ?_
        refine r_iload (x := x7) d_X1_isMultiple_136 rfl ?_
        refine x_iald d_X1_isMultiple_138 h.1 ?_
        have h := h.2
        refine r_i2l d_X1_isMultiple_139 ?_
        refine r_lcmp d_X1_isMultiple_140 ?_
        refine r_if_eq (tgt := 146) d_X1_isMultiple_141 rfl (fun hc => ?_) (fun hc => ?_)
        · have h := h.1 hc
          refine x_iinc (x := x7) (L := [(2, t), (0, x1), (0, x2), (0, x3), (0, x4), (1, x5), (3, 0), (0, x7), (0, y2)]) d_X1_isMultiple_146 rfl (by decide) rfl (fun y4 ey4 => ?_)
          have h := h y4 ey4
          show WP _ _ _ _ _ _ _ _ [(2, t), (0, x1), (0, x2), (0, x3), (0, x4), (1, x5), (3, 0), (0, y4), (0, y2)] _ _ _ _
          refine r_goto (tgt := 59) d_X1_isMultiple_149 rfl ?_
          exact x_mask h ⟨Or.inr rfl, Or.inr rfl, Or.inr rfl, Or.inr rfl, Or.inr rfl, Or.inr rfl, Or.inl rfl, Or.inr rfl, Or.inl rfl, trivial⟩
        · have h := h.2 hc
          refine r_iconst (x := 0) d_X1_isMultiple_144 ⟨by decide, by decide⟩ ?_
          exact r_iret d_X1_isMultiple_145 rfl (by decide) (Nat.le_refl 0) (Nat.le_refl 0) ⟨_, rfl, rfl, rfl, h⟩
      · have h := h.2 hc
        refine r_aload_n (x := t) d_X1_isMultiple_103 rfl o_t.1 ?_
        refine r_getf (j := 5) (t := 2) (x := t_asked) d_X1_isMultiple_104 kX1 (by decide) fl_X1_29 o_t.1 o_t.2.1 o_t.2.2.1 o_t.2.2.2 rfl f_t_asked ?_
        refine r_iload (x := x7) d_X1_isMultiple_107 rfl ?_
        refine x_iald d_X1_isMultiple_109 h.1 ?_
        have h := h.2
        refine r_i2l d_X1_isMultiple_110 ?_
        refine r_iload (x := y2) d_X1_isMultiple_111 rfl ?_
        refine r_i2l d_X1_isMultiple_113 ?_
        refine r_ldiv d_X1_isMultiple_114 h.1 ?_
        have h := h.2
        refine r_nm (fun y5 ey5 => ?_)
        have h := h y5 ey5
        refine r_lstore (L2 := [(2, t), (0, x1), (0, x2), (0, x3), (0, x4), (1, y5), (3, 0), (0, x7), (0, y2)]) d_X1_isMultiple_115 (by decide) rfl rfl ?_
        refine r_lload (x := y5) d_X1_isMultiple_117 rfl ?_
        refine r_lconst d_X1_isMultiple_119 ?_
        skip
        refine r_lcmp d_X1_isMultiple_120 ?_
        refine r_if_ne (tgt := 126) d_X1_isMultiple_121 rfl (fun hc => ?_) (fun hc => ?_)
        · have h := h.1 hc
          refine r_lload (x := y5) d_X1_isMultiple_126 rfl ?_
          refine r_iload (x := y2) d_X1_isMultiple_128 rfl ?_
          refine r_i2l d_X1_isMultiple_130 ?_
          refine r_lmul d_X1_isMultiple_131 ?_
          refine r_aload_n (x := t) d_X1_isMultiple_132 rfl o_t.1 ?_
          refine r_getf (j := 5) (t := 2) (x := t_asked) d_X1_isMultiple_133 kX1 (by decide) fl_X1_29 o_t.1 o_t.2.1 o_t.2.2.1 o_t.2.2.2 rfl f_t_asked ?_
          refine r_iload (x := x7) d_X1_isMultiple_136 rfl ?_
          refine x_iald d_X1_isMultiple_138 h.1 ?_
          have h := h.2
          refine r_i2l d_X1_isMultiple_139 ?_
          refine r_lcmp d_X1_isMultiple_140 ?_
          refine r_if_eq (tgt := 146) d_X1_isMultiple_141 rfl (fun hc => ?_) (fun hc => ?_)
          · have h := h.1 hc
            refine x_iinc (x := x7) (L := [(2, t), (0, x1), (0, x2), (0, x3), (0, x4), (1, y5), (3, 0), (0, x7), (0, y2)]) d_X1_isMultiple_146 rfl (by decide) rfl (fun y6 ey6 => ?_)
            have h := h y6 ey6
            show WP _ _ _ _ _ _ _ _ [(2, t), (0, x1), (0, x2), (0, x3), (0, x4), (1, y5), (3, 0), (0, y6), (0, y2)] _ _ _ _
            refine r_goto (tgt := 59) d_X1_isMultiple_149 rfl ?_
            exact x_mask h ⟨Or.inr rfl, Or.inr rfl, Or.inr rfl, Or.inr rfl, Or.inr rfl, Or.inr rfl, Or.inl rfl, Or.inr rfl, Or.inl rfl, trivial⟩
          · have h := h.2 hc
            refine r_iconst (x := 0) d_X1_isMultiple_144 ⟨by decide, by decide⟩ ?_
            exact r_iret d_X1_isMultiple_145 rfl (by decide) (Nat.le_refl 0) (Nat.le_refl 0) ⟨_, rfl, rfl, rfl, h⟩
        · have h := h.2 hc
          refine r_iconst (x := 0) d_X1_isMultiple_124 ⟨by decide, by decide⟩ ?_
          exact r_iret d_X1_isMultiple_125 rfl (by decide) (Nat.le_refl 0) (Nat.le_refl 0) ⟨_, rfl, rfl, rfl, h⟩
theorem v_X1_swap_0 {l : Launch} {d N : Nat} {Λ : Lay} {P : Mem → Prop} {σ : Mem} {x1 x2 t t_row : Int} (o_t : Ob N Λ t 11 6) (f_t_row : (Λ t).2.2 2 = t_row)
    (h : (Ix N Λ t_row 0 x1 ∧ (∀ y1, y1 = (σ t_row x1) → (Ix N Λ t_row 0 x2 ∧ (Ix N Λ t_row 0 x1 ∧ (∀ τ2, τ2 = st σ t_row x1 (σ t_row x2) → (Ix N Λ t_row 0 x2 ∧ (∀ τ3, τ3 = st τ2 t_row x2 y1 → P τ3)))))))) :
    WV l mX1_swap d P 0 [(2, t), (0, x1), (0, x2), (3, 0)] [] N Λ σ := by
  refine r_aload_n (x := t) d_X1_swap_0 rfl o_t.1 ?_
  refine r_getf (j := 2) (t := 2) (x := t_row) d_X1_swap_1 kX1 (by decide) fl_X1_19 o_t.1 o_t.2.1 o_t.2.2.1 o_t.2.2.2 rfl f_t_row ?_
  refine r_iload_n (x := x1) d_X1_swap_4 rfl ?_
  refine x_iald d_X1_swap_5 h.1 ?_
  have h := h.2
  refine r_nm (fun y1 ey1 => ?_)
  have h := h y1 ey1
  refine r_istore_n (L2 := [(2, t), (0, x1), (0, x2), (0, y1)]) d_X1_swap_6 (by decide) rfl rfl ?_
  refine r_aload_n (x := t) d_X1_swap_7 rfl o_t.1 ?_
  refine r_getf (j := 2) (t := 2) (x := t_row) d_X1_swap_8 kX1 (by decide) fl_X1_19 o_t.1 o_t.2.1 o_t.2.2.1 o_t.2.2.2 rfl f_t_row ?_
  refine r_iload_n (x := x1) d_X1_swap_11 rfl ?_
  refine r_aload_n (x := t) d_X1_swap_12 rfl o_t.1 ?_
  refine r_getf (j := 2) (t := 2) (x := t_row) d_X1_swap_13 kX1 (by decide) fl_X1_19 o_t.1 o_t.2.1 o_t.2.2.1 o_t.2.2.2 rfl f_t_row ?_
  refine r_iload_n (x := x2) d_X1_swap_16 rfl ?_
  refine x_iald d_X1_swap_17 h.1 ?_
  have h := h.2
  refine x_iast d_X1_swap_18 h.1 ?_
  have h := h.2
  refine r_nmM (fun τ2 eτ2 => ?_)
  have h := h τ2 eτ2
  refine r_aload_n (x := t) d_X1_swap_19 rfl o_t.1 ?_
  refine r_getf (j := 2) (t := 2) (x := t_row) d_X1_swap_20 kX1 (by decide) fl_X1_19 o_t.1 o_t.2.1 o_t.2.2.1 o_t.2.2.2 rfl f_t_row ?_
  refine r_iload_n (x := x2) d_X1_swap_23 rfl ?_
  refine r_iload_n (x := y1) d_X1_swap_24 rfl ?_
  refine x_iast d_X1_swap_25 h.1 ?_
  have h := h.2
  refine r_nmM (fun τ3 eτ3 => ?_)
  have h := h τ3 eτ3
  exact r_vret d_X1_swap_26 rfl (Nat.le_refl 0) (Nat.le_refl 0) ⟨rfl, rfl, rfl, h⟩
theorem v_X1_nextRow_0 {l : Launch} {d N : Nat} {Λ : Lay} {P : Mem → Prop} {σ : Mem} {t : Int}
    (h : WV l mX1_nextRow d P 2 [(2, t), (0, 4), (3, 0), (3, 0), (3, 0)] [] N Λ σ) :
    WV l mX1_nextRow d P 0 [(2, t), (3, 0), (3, 0), (3, 0), (3, 0)] [] N Λ σ := by
  refine r_iconst (x := 4) d_X1_nextRow_0 ⟨by decide, by decide⟩ ?_
  refine r_istore_n (L2 := [(2, t), (0, 4), (3, 0), (3, 0), (3, 0)]) d_X1_nextRow_1 (by decide) rfl rfl ?_
  exact h
theorem v_X1_nextRow_2 {l : Launch} {d N : Nat} {Λ : Lay} {P : Mem → Prop} {σ : Mem} {x1 t t_row : Int} (o_t : Ob N Λ t 11 6) (f_t_row : (Λ t).2.2 2 = t_row)
    (h : ((x1 < 0 → ((0 ≤ x1 → WV l mX1_nextRow d P 36 [(2, t), (0, x1), (0, 5), (3, 0), (3, 0)] [] N Λ σ) ∧ (¬ (0 ≤ x1) → P σ))) ∧ (¬ (x1 < 0) → (Ix N Λ t_row 0 x1 ∧ (Ix N Λ t_row 0 (addI x1 1) ∧ (((σ t_row x1) ≤ (σ t_row (addI x1 1)) → ((0 ≤ x1 → WV l mX1_nextRow d P 36 [(2, t), (0, x1), (0, 5), (3, 0), (3, 0)] [] N Λ σ) ∧ (¬ (0 ≤ x1) → P σ))) ∧ (¬ ((σ t_row x1) ≤ (σ t_row (addI x1 1))) → (∀ y1, y1 = addI x1 (-1) → WV l mX1_nextRow d P 2 [(2, t), (0, y1), (3, 0), (3, 0), (3, 0)] [] N Λ σ)))))))) :
    WV l mX1_nextRow d P 2 [(2, t), (0, x1), (3, 0), (3, 0), (3, 0)] [] N Λ σ := by
  refine r_iload_n (x := x1) d_X1_nextRow_2 rfl ?_
  refine r_if_lt (tgt := 29) d_X1_nextRow_3 rfl (fun hc => ?_) (fun hc => ?_)
  · have h := h.1 hc
    refine r_iload_n (x := x1) d_X1_nextRow_29 rfl ?_
    refine r_if_ge (tgt := 34) d_X1_nextRow_30 rfl (fun hc => ?_) (fun hc => ?_)
    · have h := h.1 hc
      refine r_iconst (x := 5) d_X1_nextRow_34 ⟨by decide, by decide⟩ ?_
      refine r_istore_n (L2 := [(2, t), (0, x1), (0, 5), (3, 0), (3, 0)]) d_X1_nextRow_35 (by decide) rfl rfl ?_
      exact h
    · have h := h.2 hc
      exact r_vret d_X1_nextRow_33 rfl (Nat.le_refl 0) (Nat.le_refl 0) ⟨rfl, rfl, rfl, h⟩
  · have h := h.2 hc
    refine r_aload_n (x := t) d_X1_nextRow_6 rfl o_t.1 ?_
    refine r_getf (j := 2) (t := 2) (x := t_row) d_X1_nextRow_7 kX1 (by decide) fl_X1_19 o_t.1 o_t.2.1 o_t.2.2.1 o_t.2.2.2 rfl f_t_row ?_
    refine r_iload_n (x := x1) d_X1_nextRow_10 rfl ?_
    refine x_iald d_X1_nextRow_11 h.1 ?_
    have h := h.2
    refine r_aload_n (x := t) d_X1_nextRow_12 rfl o_t.1 ?_
    refine r_getf (j := 2) (t := 2) (x := t_row) d_X1_nextRow_13 kX1 (by decide) fl_X1_19 o_t.1 o_t.2.1 o_t.2.2.1 o_t.2.2.2 rfl f_t_row ?_
    refine r_iload_n (x := x1) d_X1_nextRow_16 rfl ?_
    refine r_iconst (x := 1) d_X1_nextRow_17 ⟨by decide, by decide⟩ ?_
    refine r_iadd d_X1_nextRow_18 ?_
    refine x_iald d_X1_nextRow_19 h.1 ?_
    have h := h.2
    refine r_ic_le (tgt := 29) d_X1_nextRow_20 rfl (fun hc => ?_) (fun hc => ?_)
    · have h := h.1 hc
      refine r_iload_n (x := x1) d_X1_nextRow_29 rfl ?_
      refine r_if_ge (tgt := 34) d_X1_nextRow_30 rfl (fun hc => ?_) (fun hc => ?_)
      · have h := h.1 hc
        refine r_iconst (x := 5) d_X1_nextRow_34 ⟨by decide, by decide⟩ ?_
        refine r_istore_n (L2 := [(2, t), (0, x1), (0, 5), (3, 0), (3, 0)]) d_X1_nextRow_35 (by decide) rfl rfl ?_
        exact h
      · have h := h.2 hc
        exact r_vret d_X1_nextRow_33 rfl (Nat.le_refl 0) (Nat.le_refl 0) ⟨rfl, rfl, rfl, h⟩
    · have h := h.2 hc
      refine x_iinc (x := x1) (L := [(2, t), (0, x1), (3, 0), (3, 0), (3, 0)]) d_X1_nextRow_23 rfl (by decide) rfl (fun y1 ey1 => ?_)
      have h := h y1 ey1
      show WP _ _ _ _ _ _ _ _ [(2, t), (0, y1), (3, 0), (3, 0), (3, 0)] _ _ _ _
      refine r_goto (tgt := 2) d_X1_nextRow_26 rfl ?_
      exact h
theorem v_X1_nextRow_36 {l : Launch} {d N : Nat} {Λ : Lay} {P : Mem → Prop} {σ : Mem} {x1 x2 t t_row : Int} (o_t : Ob N Λ t 11 6) (f_t_row : (Λ t).2.2 2 = t_row) (h0d : 1 ≤ d)
    (h : ((x2 ≤ x1 → (Ix N Λ t_row 0 x1 ∧ (∀ y1, y1 = (σ t_row x1) → (Ix N Λ t_row 0 x2 ∧ (Ix N Λ t_row 0 x1 ∧ (∀ τ2, τ2 = st σ t_row x1 (σ t_row x2) → (Ix N Λ t_row 0 x2 ∧ (∀ τ3, τ3 = st τ2 t_row x2 y1 → (∀ y4, y4 = (addI x1 1) → WV l mX1_nextRow d P 75 [(2, t), (0, x1), (0, x2), (0, y4), (0, 5)] [] N Λ τ3))))))))) ∧ (¬ (x2 ≤ x1) → (Ix N Λ t_row 0 x2 ∧ (Ix N Λ t_row 0 x1 ∧ (((σ t_row x1) ≤ (σ t_row x2) → (Ix N Λ t_row 0 x1 ∧ (∀ y5, y5 = (σ t_row x1) → (Ix N Λ t_row 0 x2 ∧ (Ix N Λ t_row 0 x1 ∧ (∀ τ6, τ6 = st σ t_row x1 (σ t_row x2) → (Ix N Λ t_row 0 x2 ∧ (∀ τ7, τ7 = st τ6 t_row x2 y5 → (∀ y8, y8 = (addI x1 1) → WV l mX1_nextRow d P 75 [(2, t), (0, x1), (0, x2), (0, y8), (0, 5)] [] N Λ τ7))))))))) ∧ (¬ ((σ t_row x1) ≤ (σ t_row x2)) → (∀ y9, y9 = addI x2 (-1) → WV l mX1_nextRow d P 36 [(2, t), (0, x1), (0, y9), (3, 0), (3, 0)] [] N Λ σ)))))))) :
    WV l mX1_nextRow d P 36 [(2, t), (0, x1), (0, x2), (3, 0), (3, 0)] [] N Λ σ := by
  have hd_1 : 1 ≤ d := Nat.le_trans (by decide) h0d
  refine r_iload_n (x := x2) d_X1_nextRow_36 rfl ?_
  refine r_iload_n (x := x1) d_X1_nextRow_37 rfl ?_
  refine r_ic_le (tgt := 62) d_X1_nextRow_38 rfl (fun hc => ?_) (fun hc => ?_)
  · have h := h.1 hc
    refine r_aload_n (x := t) d_X1_nextRow_62 rfl o_t.1 ?_
    refine r_iload_n (x := x1) d_X1_nextRow_63 rfl ?_
    refine r_iload_n (x := x2) d_X1_nextRow_64 rfl ?_
    refine x_callVV (Y2 := mX1_swap) (c := t) (As := [(0, x1), (0, x2)]) (S := []) d_X1_nextRow_65 ok_mX1_swap ml_X1_127 rfl (Nat.le_of_ble_eq_true rfl) (Nat.le_of_ble_eq_true rfl) rfl hd_1 kX1 o_t (c_X1_swap (v_X1_swap_0 o_t f_t_row ?_))
    refine ⟨h.1, ?_⟩
    have h := h.2
    intro y1 ey1
    have h := h y1 ey1
    refine ⟨h.1, ?_⟩
    have h := h.2
    refine ⟨h.1, ?_⟩
    have h := h.2
    intro τ2 eτ2
    have h := h τ2 eτ2
    refine ⟨h.1, ?_⟩
    have h := h.2
    intro τ3 eτ3
    have h := h τ3 eτ3
    show WP l mX1_nextRow (rm d 0 0) noX _ 0 0 68 [(2, t), (0, x1), (0, x2), (3, 0), (3, 0)] [] N Λ τ3
    refine r_iload_n (x := x1) d_X1_nextRow_68 rfl ?_
    refine r_iconst (x := 1) d_X1_nextRow_69 ⟨by decide, by decide⟩ ?_
    refine r_iadd d_X1_nextRow_70 ?_
    refine r_nm (fun y4 ey4 => ?_)
    have h := h y4 ey4
    refine r_istore_n (L2 := [(2, t), (0, x1), (0, x2), (0, y4), (3, 0)]) d_X1_nextRow_71 (by decide) rfl rfl ?_
    refine r_iconst (x := 5) d_X1_nextRow_72 ⟨by decide, by decide⟩ ?_
    refine r_istore (L2 := [(2, t), (0, x1), (0, x2), (0, y4), (0, 5)]) d_X1_nextRow_73 (by decide) rfl rfl ?_
    exact h
  · have h := h.2 hc
    refine r_aload_n (x := t) d_X1_nextRow_41 rfl o_t.1 ?_
    refine r_getf (j := 2) (t := 2) (x := t_row) d_X1_nextRow_42 kX1 (by decide) fl_X1_19 o_t.1 o_t.2.1 o_t.2.2.1 o_t.2.2.2 rfl f_t_row ?_
    refine r_iload_n (x := x2) d_X1_nextRow_45 rfl ?_
    refine x_iald d_X1_nextRow_46 h.1 ?_
    have h := h.2
    refine r_aload_n (x := t) d_X1_nextRow_47 rfl o_t.1 ?_
    refine r_getf (j := 2) (t := 2) (x := t_row) d_X1_nextRow_48 kX1 (by decide) fl_X1_19 o_t.1 o_t.2.1 o_t.2.2.1 o_t.2.2.2 rfl f_t_row ?_
    refine r_iload_n (x := x1) d_X1_nextRow_51 rfl ?_
    refine x_iald d_X1_nextRow_52 h.1 ?_
    have h := h.2
    refine r_ic_ge (tgt := 62) d_X1_nextRow_53 rfl (fun hc => ?_) (fun hc => ?_)
    · have h := h.1 hc
      refine r_aload_n (x := t) d_X1_nextRow_62 rfl o_t.1 ?_
      refine r_iload_n (x := x1) d_X1_nextRow_63 rfl ?_
      refine r_iload_n (x := x2) d_X1_nextRow_64 rfl ?_
      refine x_callVV (Y2 := mX1_swap) (c := t) (As := [(0, x1), (0, x2)]) (S := []) d_X1_nextRow_65 ok_mX1_swap ml_X1_127 rfl (Nat.le_of_ble_eq_true rfl) (Nat.le_of_ble_eq_true rfl) rfl hd_1 kX1 o_t (c_X1_swap (v_X1_swap_0 o_t f_t_row ?_))
      refine ⟨h.1, ?_⟩
      have h := h.2
      intro y5 ey5
      have h := h y5 ey5
      refine ⟨h.1, ?_⟩
      have h := h.2
      refine ⟨h.1, ?_⟩
      have h := h.2
      intro τ6 eτ6
      have h := h τ6 eτ6
      refine ⟨h.1, ?_⟩
      have h := h.2
      intro τ7 eτ7
      have h := h τ7 eτ7
      show WP l mX1_nextRow (rm d 0 0) noX _ 0 0 68 [(2, t), (0, x1), (0, x2), (3, 0), (3, 0)] [] N Λ τ7
      refine r_iload_n (x := x1) d_X1_nextRow_68 rfl ?_
      refine r_iconst (x := 1) d_X1_nextRow_69 ⟨by decide, by decide⟩ ?_
      refine r_iadd d_X1_nextRow_70 ?_
      refine r_nm (fun y8 ey8 => ?_)
      have h := h y8 ey8
      refine r_istore_n (L2 := [(2, t), (0, x1), (0, x2), (0, y8), (3, 0)]) d_X1_nextRow_71 (by decide) rfl rfl ?_
      refine r_iconst (x := 5) d_X1_nextRow_72 ⟨by decide, by decide⟩ ?_
      refine r_istore (L2 := [(2, t), (0, x1), (0, x2), (0, y8), (0, 5)]) d_X1_nextRow_73 (by decide) rfl rfl ?_
      exact h
    · have h := h.2 hc
      refine x_iinc (x := x2) (L := [(2, t), (0, x1), (0, x2), (3, 0), (3, 0)]) d_X1_nextRow_56 rfl (by decide) rfl (fun y9 ey9 => ?_)
      have h := h y9 ey9
      show WP _ _ _ _ _ _ _ _ [(2, t), (0, x1), (0, y9), (3, 0), (3, 0)] _ _ _ _
      refine r_goto (tgt := 36) d_X1_nextRow_59 rfl ?_
      exact h
theorem v_X1_nextRow_75 {l : Launch} {d N : Nat} {Λ : Lay} {P : Mem → Prop} {σ : Mem} {x1 x2 x3 x4 t t_row : Int} (o_t : Ob N Λ t 11 6) (f_t_row : (Λ t).2.2 2 = t_row) (h0d : 1 ≤ d)
    (h : ((x4 ≤ x3 → P σ) ∧ (¬ (x4 ≤ x3) → (Ix N Λ t_row 0 x3 ∧ (∀ y1, y1 = (σ t_row x3) → (Ix N Λ t_row 0 x4 ∧ (Ix N Λ t_row 0 x3 ∧ (∀ τ2, τ2 = st σ t_row x3 (σ t_row x4) → (Ix N Λ t_row 0 x4 ∧ (∀ τ3, τ3 = st τ2 t_row x4 y1 → (∀ y4, y4 = addI x3 1 → (∀ y5, y5 = addI x4 (-1) → WV l mX1_nextRow d P 75 [(2, t), (0, x1), (0, x2), (0, y4), (0, y5)] [] N Λ τ3)))))))))))) :
    WV l mX1_nextRow d P 75 [(2, t), (0, x1), (0, x2), (0, x3), (0, x4)] [] N Λ σ := by
  have hd_1 : 1 ≤ d := Nat.le_trans (by decide) h0d
  refine r_iload_n (x := x3) d_X1_nextRow_75 rfl ?_
  refine r_iload (x := x4) d_X1_nextRow_76 rfl ?_
  refine r_ic_ge (tgt := 97) d_X1_nextRow_78 rfl (fun hc => ?_) (fun hc => ?_)
  · have h := h.1 hc
    exact r_vret d_X1_nextRow_97 rfl (Nat.le_refl 0) (Nat.le_refl 0) ⟨rfl, rfl, rfl, h⟩
  · have h := h.2 hc
    refine r_aload_n (x := t) d_X1_nextRow_81 rfl o_t.1 ?_
    refine r_iload_n (x := x3) d_X1_nextRow_82 rfl ?_
    refine r_iload (x := x4) d_X1_nextRow_83 rfl ?_
    refine x_callVV (Y2 := mX1_swap) (c := t) (As := [(0, x3), (0, x4)]) (S := []) d_X1_nextRow_85 ok_mX1_swap ml_X1_127 rfl (Nat.le_of_ble_eq_true rfl) (Nat.le_of_ble_eq_true rfl) rfl hd_1 kX1 o_t (c_X1_swap (v_X1_swap_0 o_t f_t_row ?_))
    refine ⟨h.1, ?_⟩
    have h := h.2
    intro y1 ey1
    have h := h y1 ey1
    refine ⟨h.1, ?_⟩
    have h := h.2
    refine ⟨h.1, ?_⟩
    have h := h.2
    intro τ2 eτ2
    have h := h τ2 eτ2
    refine ⟨h.1, ?_⟩
    have h := h.2
    intro τ3 eτ3
    have h := h τ3 eτ3
    show WP l mX1_nextRow (rm d 0 0) noX _ 0 0 88 [(2, t), (0, x1), (0, x2), (0, x3), (0, x4)] [] N Λ τ3
    refine x_iinc (x := x3) (L := [(2, t), (0, x1), (0, x2), (0, x3), (0, x4)]) d_X1_nextRow_88 rfl (by decide) rfl (fun y4 ey4 => ?_)
    have h := h y4 ey4
    show WP _ _ _ _ _ _ _ _ [(2, t), (0, x1), (0, x2), (0, y4), (0, x4)] _ _ _ _
    refine x_iinc (x := x4) (L := [(2, t), (0, x1), (0, x2), (0, y4), (0, x4)]) d_X1_nextRow_91 rfl (by decide) rfl (fun y5 ey5 => ?_)
    have h := h y5 ey5
    show WP _ _ _ _ _ _ _ _ [(2, t), (0, x1), (0, x2), (0, y4), (0, y5)] _ _ _ _
    refine r_goto (tgt := 75) d_X1_nextRow_94 rfl ?_
    exact h
theorem v_X1_search_0 {l : Launch} {d N : Nat} {Λ : Lay} {P : Int → Mem → Prop} {σ : Mem} {a1 t : Int} (o_a1 : Ob N Λ a1 15 3) (o_t : Ob N Λ t 11 6) (h0d : 1 ≤ d)
    (h : (((σ a1 2) = 0 → P 0 σ) ∧ (¬ ((σ a1 2) = 0) → (CI l mX1_takeAsked (d - 1) [(2, t), (2, a1)] N Λ σ (fun v2 σ1 => ((¬ v2 = 0 → WI l mX1_search d P 19 [(2, t), (2, a1), (0, 0)] [] N Λ σ1) ∧ (v2 = 0 → P 0 σ1))))))) :
    WI l mX1_search d P 0 [(2, t), (2, a1), (3, 0)] [] N Λ σ := by
  have hd_1 : 1 ≤ d := Nat.le_trans (by decide) h0d
  refine r_aload_n (x := a1) d_X1_search_0 rfl o_a1.1 ?_
  refine r_getf (j := 2) (t := 0) (x := (σ a1 2)) d_X1_search_1 kX5 (by decide) fl_X1_59 o_a1.1 o_a1.2.1 o_a1.2.2.1 o_a1.2.2.2 rfl rfl ?_
  refine r_if_eq (tgt := 15) d_X1_search_4 rfl (fun hc => ?_) (fun hc => ?_)
  · have h := h.1 hc
    refine r_iconst (x := 0) d_X1_search_15 ⟨by decide, by decide⟩ ?_
    exact r_iret d_X1_search_16 rfl (by decide) (Nat.le_refl 0) (Nat.le_refl 0) ⟨_, rfl, rfl, rfl, h⟩
  · have h := h.2 hc
    refine r_aload_n (x := t) d_X1_search_7 rfl o_t.1 ?_
    refine r_aload_n (x := a1) d_X1_search_8 rfl o_a1.1 ?_
    refine x_callVI (Y2 := mX1_takeAsked) (c := t) (As := [(2, a1)]) (S := []) d_X1_search_9 ok_mX1_takeAsked ml_X1_78 rfl (Nat.le_of_ble_eq_true rfl) (Nat.le_of_ble_eq_true rfl) rfl hd_1 kX1 o_t (CI.mono h (fun v2 σ1 h => ?_))
    refine r_if_ne (tgt := 17) d_X1_search_12 rfl (fun hc => ?_) (fun hc => ?_)
    · have h := h.1 hc
      refine r_iconst (x := 0) d_X1_search_17 ⟨by decide, by decide⟩ ?_
      refine r_istore_n (L2 := [(2, t), (2, a1), (0, 0)]) d_X1_search_18 (by decide) rfl rfl ?_
      exact h
    · have h := h.2 hc
      refine r_iconst (x := 0) d_X1_search_15 ⟨by decide, by decide⟩ ?_
      exact r_iret d_X1_search_16 rfl (by decide) (Nat.le_refl 0) (Nat.le_refl 0) ⟨_, rfl, rfl, rfl, h⟩
theorem v_X1_search_19 {l : Launch} {d N : Nat} {Λ : Lay} {P : Int → Mem → Prop} {σ : Mem} {x2 a1 t t_row : Int} (o_t : Ob N Λ t 11 6) (f_t_row : (Λ t).2.2 2 = t_row)
    (h : ((6 ≤ x2 → WI l mX1_search d P 40 [(2, t), (2, a1), (0, 0)] [] N Λ σ) ∧ (¬ (6 ≤ x2) → (Ix N Λ t_row 0 x2 ∧ (∀ τ1, τ1 = st σ t_row x2 x2 → (∀ y2, y2 = addI x2 1 → WI l mX1_search d P 19 [(2, t), (2, a1), (0, y2)] [] N Λ τ1)))))) :
    WI l mX1_search d P 19 [(2, t), (2, a1), (0, x2)] [] N Λ σ := by
  refine r_iload_n (x := x2) d_X1_search_19 rfl ?_
  refine r_bipush (x := 6) d_X1_search_20 ⟨by decide, by decide⟩ (by decide) ?_
  refine r_ic_ge (tgt := 38) d_X1_search_22 rfl (fun hc => ?_) (fun hc => ?_)
  · have h := h.1 hc
    refine r_iconst (x := 0) d_X1_search_38 ⟨by decide, by decide⟩ ?_
    refine r_istore_n (L2 := [(2, t), (2, a1), (0, 0)]) d_X1_search_39 (by decide) rfl rfl ?_
    exact h
  · have h := h.2 hc
    refine r_aload_n (x := t) d_X1_search_25 rfl o_t.1 ?_
    refine r_getf (j := 2) (t := 2) (x := t_row) d_X1_search_26 kX1 (by decide) fl_X1_19 o_t.1 o_t.2.1 o_t.2.2.1 o_t.2.2.2 rfl f_t_row ?_
    refine r_iload_n (x := x2) d_X1_search_29 rfl ?_
    refine r_iload_n (x := x2) d_X1_search_30 rfl ?_
    refine x_iast d_X1_search_31 h.1 ?_
    have h := h.2
    refine r_nmM (fun τ1 eτ1 => ?_)
    have h := h τ1 eτ1
    refine x_iinc (x := x2) (L := [(2, t), (2, a1), (0, x2)]) d_X1_search_32 rfl (by decide) rfl (fun y2 ey2 => ?_)
    have h := h y2 ey2
    show WP _ _ _ _ _ _ _ _ [(2, t), (2, a1), (0, y2)] _ _ _ _
    refine r_goto (tgt := 19) d_X1_search_35 rfl ?_
    exact h
theorem v_X1_search_40 {l : Launch} {d N : Nat} {Λ : Lay} {P : Int → Mem → Prop} {σ : Mem} {x2 a1 t : Int} (o_t : Ob N Λ t 11 6) (h0d : 1 ≤ d)
    (h : ((720 ≤ x2 → P 0 σ) ∧ (¬ (720 ≤ x2) → (CI l mX1_isMultiple (d - 1) [(2, t)] N Λ σ (fun v2 σ1 => ((v2 = 0 → (CV l mX1_nextRow (d - 1) [(2, t)] N Λ σ1 (fun σ3 => (∀ y4, y4 = addI x2 1 → WI l mX1_search d P 40 [(2, t), (2, a1), (0, y4)] [] N Λ σ3)))) ∧ (¬ (v2 = 0) → P 1 σ1))))))) :
    WI l mX1_search d P 40 [(2, t), (2, a1), (0, x2)] [] N Λ σ := by
  have hd_1 : 1 ≤ d := Nat.le_trans (by decide) h0d
  refine r_iload_n (x := x2) d_X1_search_40 rfl ?_
  refine r_sipush (x := 720) d_X1_search_41 ⟨by decide, by decide⟩ (by decide) ?_
  refine r_ic_ge (tgt := 66) d_X1_search_44 rfl (fun hc => ?_) (fun hc => ?_)
  · have h := h.1 hc
    refine r_iconst (x := 0) d_X1_search_66 ⟨by decide, by decide⟩ ?_
    exact r_iret d_X1_search_67 rfl (by decide) (Nat.le_refl 0) (Nat.le_refl 0) ⟨_, rfl, rfl, rfl, h⟩
  · have h := h.2 hc
    refine r_aload_n (x := t) d_X1_search_47 rfl o_t.1 ?_
    refine x_callVI (Y2 := mX1_isMultiple) (c := t) (As := []) (S := []) d_X1_search_48 ok_mX1_isMultiple ml_X1_82 rfl (Nat.le_of_ble_eq_true rfl) (Nat.le_of_ble_eq_true rfl) rfl hd_1 kX1 o_t (CI.mono h (fun v2 σ1 h => ?_))
    refine r_if_eq (tgt := 56) d_X1_search_51 rfl (fun hc => ?_) (fun hc => ?_)
    · have h := h.1 hc
      refine r_aload_n (x := t) d_X1_search_56 rfl o_t.1 ?_
      refine x_callVV (Y2 := mX1_nextRow) (c := t) (As := []) (S := []) d_X1_search_57 ok_mX1_nextRow ml_X1_86 rfl (Nat.le_of_ble_eq_true rfl) (Nat.le_of_ble_eq_true rfl) rfl hd_1 kX1 o_t (CV.mono h (fun σ3 h => ?_))
      refine x_iinc (x := x2) (L := [(2, t), (2, a1), (0, x2)]) d_X1_search_60 rfl (by decide) rfl (fun y4 ey4 => ?_)
      have h := h y4 ey4
      show WP _ _ _ _ _ _ _ _ [(2, t), (2, a1), (0, y4)] _ _ _ _
      refine r_goto (tgt := 40) d_X1_search_63 rfl ?_
      exact h
    · have h := h.2 hc
      refine r_iconst (x := 1) d_X1_search_54 ⟨by decide, by decide⟩ ?_
      exact r_iret d_X1_search_55 rfl (by decide) (Nat.le_refl 0) (Nat.le_refl 0) ⟨_, rfl, rfl, rfl, h⟩
