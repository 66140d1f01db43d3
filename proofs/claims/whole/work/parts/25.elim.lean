theorem d_X0_begin_0 : DC mX0_begin 0 (.aload_n 0) 1 1 := ⟨by decide +kernel, rfl⟩
theorem d_X0_begin_1 : DC mX0_begin 1 (.iconst 0) 1 2 := ⟨by decide +kernel, rfl⟩
theorem d_X0_begin_2 : DC mX0_begin 2 (.putfield 20) 3 5 := ⟨by decide +kernel, rfl⟩
theorem d_X0_begin_5 : DC mX0_begin 5 (.aload_n 0) 1 6 := ⟨by decide +kernel, rfl⟩
theorem d_X0_begin_6 : DC mX0_begin 6 (.iconst 0) 1 7 := ⟨by decide +kernel, rfl⟩
theorem d_X0_begin_7 : DC mX0_begin 7 (.putfield 24) 3 10 := ⟨by decide +kernel, rfl⟩
theorem d_X0_begin_10 : DC mX0_begin 10 (.return_) 1 11 := ⟨by decide +kernel, rfl⟩
theorem d_X0_takeRow_0 : DC mX0_takeRow 0 (.aload_n 0) 1 1 := ⟨by decide +kernel, rfl⟩
theorem d_X0_takeRow_1 : DC mX0_takeRow 1 (.getfield 24) 3 4 := ⟨by decide +kernel, rfl⟩
theorem d_X0_takeRow_4 : DC mX0_takeRow 4 (.bipush 6) 2 6 := ⟨by decide +kernel, rfl⟩
theorem d_X0_takeRow_6 : DC mX0_takeRow 6 (.if_icmp .lt 4) 3 9 := ⟨by decide +kernel, rfl⟩
theorem d_X0_takeRow_9 : DC mX0_takeRow 9 (.return_) 1 10 := ⟨by decide +kernel, rfl⟩
theorem d_X0_takeRow_10 : DC mX0_takeRow 10 (.aload_n 0) 1 11 := ⟨by decide +kernel, rfl⟩
theorem d_X0_takeRow_11 : DC mX0_takeRow 11 (.getfield 17) 3 14 := ⟨by decide +kernel, rfl⟩
theorem d_X0_takeRow_14 : DC mX0_takeRow 14 (.aload_n 0) 1 15 := ⟨by decide +kernel, rfl⟩
theorem d_X0_takeRow_15 : DC mX0_takeRow 15 (.getfield 24) 3 18 := ⟨by decide +kernel, rfl⟩
theorem d_X0_takeRow_18 : DC mX0_takeRow 18 (.aaload) 1 19 := ⟨by decide +kernel, rfl⟩
theorem d_X0_takeRow_19 : DC mX0_takeRow 19 (.iconst 0) 1 20 := ⟨by decide +kernel, rfl⟩
theorem d_X0_takeRow_20 : DC mX0_takeRow 20 (.invokestatic 27) 3 23 := ⟨by decide +kernel, rfl⟩
theorem d_X0_takeRow_23 : DC mX0_takeRow 23 (.iconst 0) 1 24 := ⟨by decide +kernel, rfl⟩
theorem d_X0_takeRow_24 : DC mX0_takeRow 24 (.istore_n 2) 1 25 := ⟨by decide +kernel, rfl⟩
theorem d_X0_takeRow_25 : DC mX0_takeRow 25 (.iload_n 2) 1 26 := ⟨by decide +kernel, rfl⟩
theorem d_X0_takeRow_26 : DC mX0_takeRow 26 (.aload_n 1) 1 27 := ⟨by decide +kernel, rfl⟩
theorem d_X0_takeRow_27 : DC mX0_takeRow 27 (.getfield 33) 3 30 := ⟨by decide +kernel, rfl⟩
theorem d_X0_takeRow_30 : DC mX0_takeRow 30 (.if_icmp .ge 49) 3 33 := ⟨by decide +kernel, rfl⟩
theorem d_X0_takeRow_33 : DC mX0_takeRow 33 (.aload_n 0) 1 34 := ⟨by decide +kernel, rfl⟩
theorem d_X0_takeRow_34 : DC mX0_takeRow 34 (.aload_n 1) 1 35 := ⟨by decide +kernel, rfl⟩
theorem d_X0_takeRow_35 : DC mX0_takeRow 35 (.getfield 38) 3 38 := ⟨by decide +kernel, rfl⟩
theorem d_X0_takeRow_38 : DC mX0_takeRow 38 (.iload_n 2) 1 39 := ⟨by decide +kernel, rfl⟩
theorem d_X0_takeRow_39 : DC mX0_takeRow 39 (.laload) 1 40 := ⟨by decide +kernel, rfl⟩
theorem d_X0_takeRow_40 : DC mX0_takeRow 40 (.invokevirtual 41) 3 43 := ⟨by decide +kernel, rfl⟩
theorem d_X0_takeRow_43 : DC mX0_takeRow 43 (.istore_n 3) 1 44 := ⟨by decide +kernel, rfl⟩
theorem d_X0_takeRow_44 : DC mX0_takeRow 44 (.iload_n 3) 1 45 := ⟨by decide +kernel, rfl⟩
theorem d_X0_takeRow_45 : DC mX0_takeRow 45 (.sipush 480) 3 48 := ⟨by decide +kernel, rfl⟩
theorem d_X0_takeRow_48 : DC mX0_takeRow 48 (.if_icmp .ge 25) 3 51 := ⟨by decide +kernel, rfl⟩
theorem d_X0_takeRow_51 : DC mX0_takeRow 51 (.aload_n 0) 1 52 := ⟨by decide +kernel, rfl⟩
theorem d_X0_takeRow_52 : DC mX0_takeRow 52 (.getfield 17) 3 55 := ⟨by decide +kernel, rfl⟩
theorem d_X0_takeRow_55 : DC mX0_takeRow 55 (.aload_n 0) 1 56 := ⟨by decide +kernel, rfl⟩
theorem d_X0_takeRow_56 : DC mX0_takeRow 56 (.getfield 24) 3 59 := ⟨by decide +kernel, rfl⟩
theorem d_X0_takeRow_59 : DC mX0_takeRow 59 (.aaload) 1 60 := ⟨by decide +kernel, rfl⟩
theorem d_X0_takeRow_60 : DC mX0_takeRow 60 (.iload_n 3) 1 61 := ⟨by decide +kernel, rfl⟩
theorem d_X0_takeRow_61 : DC mX0_takeRow 61 (.aload_n 1) 1 62 := ⟨by decide +kernel, rfl⟩
theorem d_X0_takeRow_62 : DC mX0_takeRow 62 (.getfield 45) 3 65 := ⟨by decide +kernel, rfl⟩
theorem d_X0_takeRow_65 : DC mX0_takeRow 65 (.iload_n 2) 1 66 := ⟨by decide +kernel, rfl⟩
theorem d_X0_takeRow_66 : DC mX0_takeRow 66 (.iaload) 1 67 := ⟨by decide +kernel, rfl⟩
theorem d_X0_takeRow_67 : DC mX0_takeRow 67 (.ldc 49) 2 69 := ⟨by decide +kernel, rfl⟩
theorem d_X0_takeRow_69 : DC mX0_takeRow 69 (.invokestatic 50) 3 72 := ⟨by decide +kernel, rfl⟩
theorem d_X0_takeRow_72 : DC mX0_takeRow 72 (.iastore) 1 73 := ⟨by decide +kernel, rfl⟩
theorem d_X0_takeRow_73 : DC mX0_takeRow 73 (.iinc 2 1) 3 76 := ⟨by decide +kernel, rfl⟩
theorem d_X0_takeRow_76 : DC mX0_takeRow 76 (.goto (-51)) 3 79 := ⟨by decide +kernel, rfl⟩
theorem d_X0_takeRow_79 : DC mX0_takeRow 79 (.aload_n 0) 1 80 := ⟨by decide +kernel, rfl⟩
theorem d_X0_takeRow_80 : DC mX0_takeRow 80 (.dup) 1 81 := ⟨by decide +kernel, rfl⟩
theorem d_X0_takeRow_81 : DC mX0_takeRow 81 (.getfield 24) 3 84 := ⟨by decide +kernel, rfl⟩
theorem d_X0_takeRow_84 : DC mX0_takeRow 84 (.iconst 1) 1 85 := ⟨by decide +kernel, rfl⟩
theorem d_X0_takeRow_85 : DC mX0_takeRow 85 (.iadd) 1 86 := ⟨by decide +kernel, rfl⟩
theorem d_X0_takeRow_86 : DC mX0_takeRow 86 (.putfield 24) 3 89 := ⟨by decide +kernel, rfl⟩
theorem d_X0_takeRow_89 : DC mX0_takeRow 89 (.return_) 1 90 := ⟨by decide +kernel, rfl⟩
theorem d_X0_independentRows_0 : DC mX0_independentRows 0 (.iconst 0) 1 1 := ⟨by decide +kernel, rfl⟩
theorem d_X0_independentRows_1 : DC mX0_independentRows 1 (.istore_n 1) 1 2 := ⟨by decide +kernel, rfl⟩
theorem d_X0_independentRows_2 : DC mX0_independentRows 2 (.iconst 0) 1 3 := ⟨by decide +kernel, rfl⟩
theorem d_X0_independentRows_3 : DC mX0_independentRows 3 (.istore_n 2) 1 4 := ⟨by decide +kernel, rfl⟩
theorem d_X0_independentRows_4 : DC mX0_independentRows 4 (.iload_n 2) 1 5 := ⟨by decide +kernel, rfl⟩
theorem d_X0_independentRows_5 : DC mX0_independentRows 5 (.aload_n 0) 1 6 := ⟨by decide +kernel, rfl⟩
theorem d_X0_independentRows_6 : DC mX0_independentRows 6 (.getfield 20) 3 9 := ⟨by decide +kernel, rfl⟩
theorem d_X0_independentRows_9 : DC mX0_independentRows 9 (.if_icmp .ge 54) 3 12 := ⟨by decide +kernel, rfl⟩
theorem d_X0_independentRows_12 : DC mX0_independentRows 12 (.iload_n 1) 1 13 := ⟨by decide +kernel, rfl⟩
theorem d_X0_independentRows_13 : DC mX0_independentRows 13 (.aload_n 0) 1 14 := ⟨by decide +kernel, rfl⟩
theorem d_X0_independentRows_14 : DC mX0_independentRows 14 (.getfield 24) 3 17 := ⟨by decide +kernel, rfl⟩
theorem d_X0_independentRows_17 : DC mX0_independentRows 17 (.if_icmp .ge 46) 3 20 := ⟨by decide +kernel, rfl⟩
theorem d_X0_independentRows_20 : DC mX0_independentRows 20 (.aload_n 0) 1 21 := ⟨by decide +kernel, rfl⟩
theorem d_X0_independentRows_21 : DC mX0_independentRows 21 (.iload_n 2) 1 22 := ⟨by decide +kernel, rfl⟩
theorem d_X0_independentRows_22 : DC mX0_independentRows 22 (.iload_n 1) 1 23 := ⟨by decide +kernel, rfl⟩
theorem d_X0_independentRows_23 : DC mX0_independentRows 23 (.invokevirtual 56) 3 26 := ⟨by decide +kernel, rfl⟩
theorem d_X0_independentRows_26 : DC mX0_independentRows 26 (.ifCond .eq 31) 3 29 := ⟨by decide +kernel, rfl⟩
theorem d_X0_independentRows_29 : DC mX0_independentRows 29 (.iload_n 1) 1 30 := ⟨by decide +kernel, rfl⟩
theorem d_X0_independentRows_30 : DC mX0_independentRows 30 (.iconst 1) 1 31 := ⟨by decide +kernel, rfl⟩
theorem d_X0_independentRows_31 : DC mX0_independentRows 31 (.iadd) 1 32 := ⟨by decide +kernel, rfl⟩
theorem d_X0_independentRows_32 : DC mX0_independentRows 32 (.istore_n 3) 1 33 := ⟨by decide +kernel, rfl⟩
theorem d_X0_independentRows_33 : DC mX0_independentRows 33 (.iload_n 3) 1 34 := ⟨by decide +kernel, rfl⟩
theorem d_X0_independentRows_34 : DC mX0_independentRows 34 (.aload_n 0) 1 35 := ⟨by decide +kernel, rfl⟩
theorem d_X0_independentRows_35 : DC mX0_independentRows 35 (.getfield 24) 3 38 := ⟨by decide +kernel, rfl⟩
theorem d_X0_independentRows_38 : DC mX0_independentRows 38 (.if_icmp .ge 16) 3 41 := ⟨by decide +kernel, rfl⟩
theorem d_X0_independentRows_41 : DC mX0_independentRows 41 (.aload_n 0) 1 42 := ⟨by decide +kernel, rfl⟩
theorem d_X0_independentRows_42 : DC mX0_independentRows 42 (.iload_n 2) 1 43 := ⟨by decide +kernel, rfl⟩
theorem d_X0_independentRows_43 : DC mX0_independentRows 43 (.iload_n 1) 1 44 := ⟨by decide +kernel, rfl⟩
theorem d_X0_independentRows_44 : DC mX0_independentRows 44 (.iload_n 3) 1 45 := ⟨by decide +kernel, rfl⟩
theorem d_X0_independentRows_45 : DC mX0_independentRows 45 (.invokevirtual 60) 3 48 := ⟨by decide +kernel, rfl⟩
theorem d_X0_independentRows_48 : DC mX0_independentRows 48 (.iinc 3 1) 3 51 := ⟨by decide +kernel, rfl⟩
theorem d_X0_independentRows_51 : DC mX0_independentRows 51 (.goto (-18)) 3 54 := ⟨by decide +kernel, rfl⟩
theorem d_X0_independentRows_54 : DC mX0_independentRows 54 (.iinc 1 1) 3 57 := ⟨by decide +kernel, rfl⟩
theorem d_X0_independentRows_57 : DC mX0_independentRows 57 (.iinc 2 1) 3 60 := ⟨by decide +kernel, rfl⟩
theorem d_X0_independentRows_60 : DC mX0_independentRows 60 (.goto (-56)) 3 63 := ⟨by decide +kernel, rfl⟩
theorem d_X0_independentRows_63 : DC mX0_independentRows 63 (.iload_n 1) 1 64 := ⟨by decide +kernel, rfl⟩
theorem d_X0_independentRows_64 : DC mX0_independentRows 64 (.ireturn) 1 65 := ⟨by decide +kernel, rfl⟩
theorem d_X0_clearColumn_0 : DC mX0_clearColumn 0 (.aload_n 0) 1 1 := ⟨by decide +kernel, rfl⟩
theorem d_X0_clearColumn_1 : DC mX0_clearColumn 1 (.getfield 17) 3 4 := ⟨by decide +kernel, rfl⟩
theorem d_X0_clearColumn_4 : DC mX0_clearColumn 4 (.iload_n 3) 1 5 := ⟨by decide +kernel, rfl⟩
theorem d_X0_clearColumn_5 : DC mX0_clearColumn 5 (.aaload) 1 6 := ⟨by decide +kernel, rfl⟩
theorem d_X0_clearColumn_6 : DC mX0_clearColumn 6 (.iload_n 1) 1 7 := ⟨by decide +kernel, rfl⟩
theorem d_X0_clearColumn_7 : DC mX0_clearColumn 7 (.iaload) 1 8 := ⟨by decide +kernel, rfl⟩
theorem d_X0_clearColumn_8 : DC mX0_clearColumn 8 (.i2l) 1 9 := ⟨by decide +kernel, rfl⟩
theorem d_X0_clearColumn_9 : DC mX0_clearColumn 9 (.lstore 4) 2 11 := ⟨by decide +kernel, rfl⟩
theorem d_X0_clearColumn_11 : DC mX0_clearColumn 11 (.aload_n 0) 1 12 := ⟨by decide +kernel, rfl⟩
theorem d_X0_clearColumn_12 : DC mX0_clearColumn 12 (.getfield 17) 3 15 := ⟨by decide +kernel, rfl⟩
theorem d_X0_clearColumn_15 : DC mX0_clearColumn 15 (.iload_n 2) 1 16 := ⟨by decide +kernel, rfl⟩
theorem d_X0_clearColumn_16 : DC mX0_clearColumn 16 (.aaload) 1 17 := ⟨by decide +kernel, rfl⟩
theorem d_X0_clearColumn_17 : DC mX0_clearColumn 17 (.iload_n 1) 1 18 := ⟨by decide +kernel, rfl⟩
theorem d_X0_clearColumn_18 : DC mX0_clearColumn 18 (.iaload) 1 19 := ⟨by decide +kernel, rfl⟩
theorem d_X0_clearColumn_19 : DC mX0_clearColumn 19 (.i2l) 1 20 := ⟨by decide +kernel, rfl⟩
theorem d_X0_clearColumn_20 : DC mX0_clearColumn 20 (.lstore 6) 2 22 := ⟨by decide +kernel, rfl⟩
theorem d_X0_clearColumn_22 : DC mX0_clearColumn 22 (.iload_n 1) 1 23 := ⟨by decide +kernel, rfl⟩
theorem d_X0_clearColumn_23 : DC mX0_clearColumn 23 (.istore 8) 2 25 := ⟨by decide +kernel, rfl⟩
theorem d_X0_clearColumn_25 : DC mX0_clearColumn 25 (.iload 8) 2 27 := ⟨by decide +kernel, rfl⟩
theorem d_X0_clearColumn_27 : DC mX0_clearColumn 27 (.aload_n 0) 1 28 := ⟨by decide +kernel, rfl⟩
theorem d_X0_clearColumn_28 : DC mX0_clearColumn 28 (.getfield 20) 3 31 := ⟨by decide +kernel, rfl⟩
theorem d_X0_clearColumn_31 : DC mX0_clearColumn 31 (.if_icmp .ge 59) 3 34 := ⟨by decide +kernel, rfl⟩
theorem d_X0_clearColumn_34 : DC mX0_clearColumn 34 (.lload 4) 2 36 := ⟨by decide +kernel, rfl⟩
theorem d_X0_clearColumn_36 : DC mX0_clearColumn 36 (.lconst 0) 1 37 := ⟨by decide +kernel, rfl⟩
theorem d_X0_clearColumn_37 : DC mX0_clearColumn 37 (.lcmp) 1 38 := ⟨by decide +kernel, rfl⟩
theorem d_X0_clearColumn_38 : DC mX0_clearColumn 38 (.ifCond .eq 52) 3 41 := ⟨by decide +kernel, rfl⟩
theorem d_X0_clearColumn_41 : DC mX0_clearColumn 41 (.aload_n 0) 1 42 := ⟨by decide +kernel, rfl⟩
theorem d_X0_clearColumn_42 : DC mX0_clearColumn 42 (.getfield 17) 3 45 := ⟨by decide +kernel, rfl⟩
theorem d_X0_clearColumn_45 : DC mX0_clearColumn 45 (.iload_n 3) 1 46 := ⟨by decide +kernel, rfl⟩
theorem d_X0_clearColumn_46 : DC mX0_clearColumn 46 (.aaload) 1 47 := ⟨by decide +kernel, rfl⟩
theorem d_X0_clearColumn_47 : DC mX0_clearColumn 47 (.iload 8) 2 49 := ⟨by decide +kernel, rfl⟩
theorem d_X0_clearColumn_49 : DC mX0_clearColumn 49 (.aload_n 0) 1 50 := ⟨by decide +kernel, rfl⟩
theorem d_X0_clearColumn_50 : DC mX0_clearColumn 50 (.getfield 17) 3 53 := ⟨by decide +kernel, rfl⟩
theorem d_X0_clearColumn_53 : DC mX0_clearColumn 53 (.iload_n 3) 1 54 := ⟨by decide +kernel, rfl⟩
theorem d_X0_clearColumn_54 : DC mX0_clearColumn 54 (.aaload) 1 55 := ⟨by decide +kernel, rfl⟩
theorem d_X0_clearColumn_55 : DC mX0_clearColumn 55 (.iload 8) 2 57 := ⟨by decide +kernel, rfl⟩
theorem d_X0_clearColumn_57 : DC mX0_clearColumn 57 (.iaload) 1 58 := ⟨by decide +kernel, rfl⟩
theorem d_X0_clearColumn_58 : DC mX0_clearColumn 58 (.i2l) 1 59 := ⟨by decide +kernel, rfl⟩
theorem d_X0_clearColumn_59 : DC mX0_clearColumn 59 (.lload 6) 2 61 := ⟨by decide +kernel, rfl⟩
theorem d_X0_clearColumn_61 : DC mX0_clearColumn 61 (.lmul) 1 62 := ⟨by decide +kernel, rfl⟩
theorem d_X0_clearColumn_62 : DC mX0_clearColumn 62 (.aload_n 0) 1 63 := ⟨by decide +kernel, rfl⟩
theorem d_X0_clearColumn_63 : DC mX0_clearColumn 63 (.getfield 17) 3 66 := ⟨by decide +kernel, rfl⟩
theorem d_X0_clearColumn_66 : DC mX0_clearColumn 66 (.iload_n 2) 1 67 := ⟨by decide +kernel, rfl⟩
theorem d_X0_clearColumn_67 : DC mX0_clearColumn 67 (.aaload) 1 68 := ⟨by decide +kernel, rfl⟩
theorem d_X0_clearColumn_68 : DC mX0_clearColumn 68 (.iload 8) 2 70 := ⟨by decide +kernel, rfl⟩
theorem d_X0_clearColumn_70 : DC mX0_clearColumn 70 (.iaload) 1 71 := ⟨by decide +kernel, rfl⟩
theorem d_X0_clearColumn_71 : DC mX0_clearColumn 71 (.i2l) 1 72 := ⟨by decide +kernel, rfl⟩
theorem d_X0_clearColumn_72 : DC mX0_clearColumn 72 (.lload 4) 2 74 := ⟨by decide +kernel, rfl⟩
theorem d_X0_clearColumn_74 : DC mX0_clearColumn 74 (.lmul) 1 75 := ⟨by decide +kernel, rfl⟩
theorem d_X0_clearColumn_75 : DC mX0_clearColumn 75 (.lsub) 1 76 := ⟨by decide +kernel, rfl⟩
theorem d_X0_clearColumn_76 : DC mX0_clearColumn 76 (.ldc2_w 64) 3 79 := ⟨by decide +kernel, rfl⟩
theorem d_X0_clearColumn_79 : DC mX0_clearColumn 79 (.invokestatic 66) 3 82 := ⟨by decide +kernel, rfl⟩
theorem d_X0_clearColumn_82 : DC mX0_clearColumn 82 (.l2i) 1 83 := ⟨by decide +kernel, rfl⟩
theorem d_X0_clearColumn_83 : DC mX0_clearColumn 83 (.iastore) 1 84 := ⟨by decide +kernel, rfl⟩
theorem d_X0_clearColumn_84 : DC mX0_clearColumn 84 (.iinc 8 1) 3 87 := ⟨by decide +kernel, rfl⟩
theorem d_X0_clearColumn_87 : DC mX0_clearColumn 87 (.goto (-62)) 3 90 := ⟨by decide +kernel, rfl⟩
theorem d_X0_clearColumn_90 : DC mX0_clearColumn 90 (.return_) 1 91 := ⟨by decide +kernel, rfl⟩
theorem d_X0_columnOf_0 : DC mX0_columnOf 0 (.iconst 0) 1 1 := ⟨by decide +kernel, rfl⟩
theorem d_X0_columnOf_1 : DC mX0_columnOf 1 (.istore_n 3) 1 2 := ⟨by decide +kernel, rfl⟩
theorem d_X0_columnOf_2 : DC mX0_columnOf 2 (.iload_n 3) 1 3 := ⟨by decide +kernel, rfl⟩
theorem d_X0_columnOf_3 : DC mX0_columnOf 3 (.aload_n 0) 1 4 := ⟨by decide +kernel, rfl⟩
theorem d_X0_columnOf_4 : DC mX0_columnOf 4 (.getfield 20) 3 7 := ⟨by decide +kernel, rfl⟩
theorem d_X0_columnOf_7 : DC mX0_columnOf 7 (.if_icmp .ge 20) 3 10 := ⟨by decide +kernel, rfl⟩
theorem d_X0_columnOf_10 : DC mX0_columnOf 10 (.aload_n 0) 1 11 := ⟨by decide +kernel, rfl⟩
theorem d_X0_columnOf_11 : DC mX0_columnOf 11 (.getfield 11) 3 14 := ⟨by decide +kernel, rfl⟩
theorem d_X0_columnOf_14 : DC mX0_columnOf 14 (.iload_n 3) 1 15 := ⟨by decide +kernel, rfl⟩
theorem d_X0_columnOf_15 : DC mX0_columnOf 15 (.laload) 1 16 := ⟨by decide +kernel, rfl⟩
theorem d_X0_columnOf_16 : DC mX0_columnOf 16 (.lload_n 1) 1 17 := ⟨by decide +kernel, rfl⟩
theorem d_X0_columnOf_17 : DC mX0_columnOf 17 (.lcmp) 1 18 := ⟨by decide +kernel, rfl⟩
theorem d_X0_columnOf_18 : DC mX0_columnOf 18 (.ifCond .eq 9) 3 21 := ⟨by decide +kernel, rfl⟩
theorem d_X0_columnOf_21 : DC mX0_columnOf 21 (.iinc 3 1) 3 24 := ⟨by decide +kernel, rfl⟩
theorem d_X0_columnOf_24 : DC mX0_columnOf 24 (.goto (-22)) 3 27 := ⟨by decide +kernel, rfl⟩
theorem d_X0_columnOf_27 : DC mX0_columnOf 27 (.iload_n 3) 1 28 := ⟨by decide +kernel, rfl⟩
theorem d_X0_columnOf_28 : DC mX0_columnOf 28 (.aload_n 0) 1 29 := ⟨by decide +kernel, rfl⟩
theorem d_X0_columnOf_29 : DC mX0_columnOf 29 (.getfield 20) 3 32 := ⟨by decide +kernel, rfl⟩
theorem d_X0_columnOf_32 : DC mX0_columnOf 32 (.if_icmp .ne 30) 3 35 := ⟨by decide +kernel, rfl⟩
theorem d_X0_columnOf_35 : DC mX0_columnOf 35 (.aload_n 0) 1 36 := ⟨by decide +kernel, rfl⟩
theorem d_X0_columnOf_36 : DC mX0_columnOf 36 (.getfield 20) 3 39 := ⟨by decide +kernel, rfl⟩
theorem d_X0_columnOf_39 : DC mX0_columnOf 39 (.sipush 480) 3 42 := ⟨by decide +kernel, rfl⟩
theorem d_X0_columnOf_42 : DC mX0_columnOf 42 (.if_icmp .ge 20) 3 45 := ⟨by decide +kernel, rfl⟩
theorem d_X0_columnOf_45 : DC mX0_columnOf 45 (.aload_n 0) 1 46 := ⟨by decide +kernel, rfl⟩
theorem d_X0_columnOf_46 : DC mX0_columnOf 46 (.getfield 11) 3 49 := ⟨by decide +kernel, rfl⟩
theorem d_X0_columnOf_49 : DC mX0_columnOf 49 (.iload_n 3) 1 50 := ⟨by decide +kernel, rfl⟩
theorem d_X0_columnOf_50 : DC mX0_columnOf 50 (.lload_n 1) 1 51 := ⟨by decide +kernel, rfl⟩
theorem d_X0_columnOf_51 : DC mX0_columnOf 51 (.lastore) 1 52 := ⟨by decide +kernel, rfl⟩
theorem d_X0_columnOf_52 : DC mX0_columnOf 52 (.aload_n 0) 1 53 := ⟨by decide +kernel, rfl⟩
theorem d_X0_columnOf_53 : DC mX0_columnOf 53 (.dup) 1 54 := ⟨by decide +kernel, rfl⟩
theorem d_X0_columnOf_54 : DC mX0_columnOf 54 (.getfield 20) 3 57 := ⟨by decide +kernel, rfl⟩
theorem d_X0_columnOf_57 : DC mX0_columnOf 57 (.iconst 1) 1 58 := ⟨by decide +kernel, rfl⟩
theorem d_X0_columnOf_58 : DC mX0_columnOf 58 (.iadd) 1 59 := ⟨by decide +kernel, rfl⟩
theorem d_X0_columnOf_59 : DC mX0_columnOf 59 (.putfield 20) 3 62 := ⟨by decide +kernel, rfl⟩
theorem d_X0_columnOf_62 : DC mX0_columnOf 62 (.iload_n 3) 1 63 := ⟨by decide +kernel, rfl⟩
theorem d_X0_columnOf_63 : DC mX0_columnOf 63 (.ireturn) 1 64 := ⟨by decide +kernel, rfl⟩
theorem v_X0_begin_0 {l : Launch} {d N : Nat} {Λ : Lay} {P : Mem → Prop} {σ : Mem} {t : Int} (o_t : Ob N Λ t 10 4)
    (h : (∀ τ1, τ1 = st σ t 2 0 → (∀ τ2, τ2 = st τ1 t 3 0 → P τ2))) :
    WV l mX0_begin d P 0 [(2, t)] [] N Λ σ := by
  refine r_aload_n (x := t) d_X0_begin_0 rfl o_t.1 ?_
  refine r_iconst (x := 0) d_X0_begin_1 ⟨by decide, by decide⟩ ?_
  refine r_putI (j := 2) d_X0_begin_2 kX0 (by decide) fl_X0_20 rfl o_t.1 o_t.2.1 o_t.2.2.1 o_t.2.2.2 rfl ?_
  refine r_nmM (fun τ1 eτ1 => ?_)
  have h := h τ1 eτ1
  refine r_aload_n (x := t) d_X0_begin_5 rfl o_t.1 ?_
  refine r_iconst (x := 0) d_X0_begin_6 ⟨by decide, by decide⟩ ?_
  refine r_putI (j := 3) d_X0_begin_7 kX0 (by decide) fl_X0_24 rfl o_t.1 o_t.2.1 o_t.2.2.1 o_t.2.2.2 rfl ?_
  refine r_nmM (fun τ2 eτ2 => ?_)
  have h := h τ2 eτ2
  exact r_vret d_X0_begin_10 rfl (Nat.le_refl 0) (Nat.le_refl 0) ⟨rfl, rfl, rfl, h⟩
theorem v_X0_takeRow_0 {l : Launch} {d N : Nat} {Λ : Lay} {P : Mem → Prop} {σ : Mem} {a1 t t_rows : Int} (o_t : Ob N Λ t 10 4) (f_t_rows : (Λ t).2.2 1 = t_rows) (h0d : 1 ≤ d)
    (h : (((σ t 3) < 6 → (Ix N Λ t_rows 5 (σ t 3) ∧ ∀ b1, b1 = (Λ t_rows).2.2 (σ t 3) → 0 ≤ b1 ∧ (CV l mJ7_fill_53178 (d - 1) [(2, b1), (0, 0)] N Λ σ (fun σ2 => WV l mX0_takeRow d P 25 [(2, t), (2, a1), (0, 0), (3, 0)] [] N Λ σ2)))) ∧ (¬ ((σ t 3) < 6) → P σ))) :
    WV l mX0_takeRow d P 0 [(2, t), (2, a1), (3, 0), (3, 0)] [] N Λ σ := by
  refine r_aload_n (x := t) d_X0_takeRow_0 rfl o_t.1 ?_
  refine r_getf (j := 3) (t := 0) (x := (σ t 3)) d_X0_takeRow_1 kX0 (by decide) fl_X0_24 o_t.1 o_t.2.1 o_t.2.2.1 o_t.2.2.2 rfl rfl ?_
  refine r_bipush (x := 6) d_X0_takeRow_4 ⟨by decide, by decide⟩ (by decide) ?_
  refine r_ic_lt (tgt := 10) d_X0_takeRow_6 rfl (fun hc => ?_) (fun hc => ?_)
  · have h := h.1 hc
    refine r_aload_n (x := t) d_X0_takeRow_10 rfl o_t.1 ?_
    refine r_getf (j := 1) (t := 2) (x := t_rows) d_X0_takeRow_11 kX0 (by decide) fl_X0_17 o_t.1 o_t.2.1 o_t.2.2.1 o_t.2.2.2 rfl f_t_rows ?_
    refine r_aload_n (x := t) d_X0_takeRow_14 rfl o_t.1 ?_
    refine r_getf (j := 3) (t := 0) (x := (σ t 3)) d_X0_takeRow_15 kX0 (by decide) fl_X0_24 o_t.1 o_t.2.1 o_t.2.2.1 o_t.2.2.2 rfl rfl ?_
    refine x_aald (t := 5) (by decide) d_X0_takeRow_18 h.1 (fun b1 eb1 => ?_)
    have h := h.2 b1 eb1
    have oob1 := h.1
    have h := h.2
    refine r_iconst (x := 0) d_X0_takeRow_19 ⟨by decide, by decide⟩ ?_
    refine r_callS (Y2 := mJ7_fill_53178) (d := d - 1) (mc := 0) (ms := 0) (As := [(2, b1), (0, 0)]) (S := []) d_X0_takeRow_20 ok_mJ7_fill_53178 ml_X0_27 rfl (rmc h0d (by decide)) rm00 (Nat.le_of_ble_eq_true rfl) rfl (MC.mono h (fun r N1 Λ1 σ2 hq => ?_))
    obtain ⟨rfl, rfl, rfl, h⟩ := hq
    refine r_iconst (x := 0) d_X0_takeRow_23 ⟨by decide, by decide⟩ ?_
    refine r_istore_n (L2 := [(2, t), (2, a1), (0, 0), (3, 0)]) d_X0_takeRow_24 (by decide) rfl rfl ?_
    exact h
  · have h := h.2 hc
    exact r_vret d_X0_takeRow_9 rfl (Nat.le_refl 0) (Nat.le_refl 0) ⟨rfl, rfl, rfl, h⟩
theorem v_X0_takeRow_25 {l : Launch} {d N : Nat} {Λ : Lay} {P : Mem → Prop} {σ : Mem} {x2 a1 a1_keys a1_numbers t t_rows : Int} (o_a1 : Ob N Λ a1 15 3) (o_t : Ob N Λ t 10 4) (f_a1_keys : (Λ a1).2.2 0 = a1_keys) (f_t_rows : (Λ t).2.2 1 = t_rows) (f_a1_numbers : (Λ a1).2.2 1 = a1_numbers) (h0d : 1 ≤ d)
    (h : (((σ a1 2) ≤ x2 → (∀ τ1, τ1 = st σ t 3 (addI (σ t 3) 1) → P τ1)) ∧ (¬ ((σ a1 2) ≤ x2) → (Ix N Λ a1_keys 1 x2 ∧ (CI l mX0_columnOf (d - 1) [(2, t), (1, (σ a1_keys x2))] N Λ σ (fun v3 σ2 => ((480 ≤ v3 → (∀ y4, y4 = addI x2 1 → WV l mX0_takeRow d P 25 [(2, t), (2, a1), (0, y4), (3, 0)] [] N Λ σ2)) ∧ (¬ (480 ≤ v3) → (Ix N Λ t_rows 5 (σ2 t 3) ∧ ∀ b5, b5 = (Λ t_rows).2.2 (σ2 t 3) → 0 ≤ b5 ∧ (Ix N Λ a1_numbers 0 x2 ∧ (CI l mJ9_floorMod_7cf53 (d - 1) [(0, (σ2 a1_numbers x2)), (0, 1000003)] N Λ σ2 (fun v7 σ6 => (Ix N Λ b5 0 v3 ∧ (∀ τ8, τ8 = st σ6 b5 v3 v7 → (∀ y9, y9 = addI x2 1 → WV l mX0_takeRow d P 25 [(2, t), (2, a1), (0, y9), (3, 0)] [] N Λ τ8))))))))))))))) :
    WV l mX0_takeRow d P 25 [(2, t), (2, a1), (0, x2), (3, 0)] [] N Λ σ := by
  refine r_iload_n (x := x2) d_X0_takeRow_25 rfl ?_
  refine r_aload_n (x := a1) d_X0_takeRow_26 rfl o_a1.1 ?_
  refine r_getf (j := 2) (t := 0) (x := (σ a1 2)) d_X0_takeRow_27 kX5 (by decide) fl_X0_33 o_a1.1 o_a1.2.1 o_a1.2.2.1 o_a1.2.2.2 rfl rfl ?_
  refine r_ic_ge (tgt := 79) d_X0_takeRow_30 rfl (fun hc => ?_) (fun hc => ?_)
  · have h := h.1 hc
    refine r_aload_n (x := t) d_X0_takeRow_79 rfl o_t.1 ?_
    refine r_dup d_X0_takeRow_80 rfl ?_
    refine r_getf (j := 3) (t := 0) (x := (σ t 3)) d_X0_takeRow_81 kX0 (by decide) fl_X0_24 o_t.1 o_t.2.1 o_t.2.2.1 o_t.2.2.2 rfl rfl ?_
    refine r_iconst (x := 1) d_X0_takeRow_84 ⟨by decide, by decide⟩ ?_
    refine r_iadd d_X0_takeRow_85 ?_
    refine r_putI (j := 3) d_X0_takeRow_86 kX0 (by decide) fl_X0_24 rfl o_t.1 o_t.2.1 o_t.2.2.1 o_t.2.2.2 rfl ?_
    refine r_nmM (fun τ1 eτ1 => ?_)
    have h := h τ1 eτ1
    exact r_vret d_X0_takeRow_89 rfl (Nat.le_refl 0) (Nat.le_refl 0) ⟨rfl, rfl, rfl, h⟩
  · have h := h.2 hc
    refine r_aload_n (x := t) d_X0_takeRow_33 rfl o_t.1 ?_
    refine r_aload_n (x := a1) d_X0_takeRow_34 rfl o_a1.1 ?_
    refine r_getf (j := 0) (t := 2) (x := a1_keys) d_X0_takeRow_35 kX5 (by decide) fl_X0_38 o_a1.1 o_a1.2.1 o_a1.2.2.1 o_a1.2.2.2 rfl f_a1_keys ?_
    refine r_iload_n (x := x2) d_X0_takeRow_38 rfl ?_
    refine x_lald d_X0_takeRow_39 h.1 ?_
    have h := h.2
    refine r_callV (Y2 := mX0_columnOf) (d := d - 1) (mc := 0) (ms := 0) (c := t) (As := [(1, (σ a1_keys x2))]) (S := []) d_X0_takeRow_40 ok_mX0_columnOf ml_X0_41 rfl (rmc h0d (by decide)) rm00 (Nat.le_of_ble_eq_true rfl) rfl kX0 o_t.1 o_t.2.1 o_t.2.2.1 o_t.2.2.2 (MC.mono h (fun r N1 Λ1 σ2 hq => ?_))
    obtain ⟨v3, rfl, rfl, rfl, h⟩ := hq
    refine r_istore_n (L2 := [(2, t), (2, a1), (0, x2), (0, v3)]) d_X0_takeRow_43 (by decide) rfl rfl ?_
    refine r_iload_n (x := v3) d_X0_takeRow_44 rfl ?_
    refine r_sipush (x := 480) d_X0_takeRow_45 ⟨by decide, by decide⟩ (by decide) ?_
    refine r_ic_ge (tgt := 73) d_X0_takeRow_48 rfl (fun hc => ?_) (fun hc => ?_)
    · have h := h.1 hc
      refine x_iinc (x := x2) (L := [(2, t), (2, a1), (0, x2), (0, v3)]) d_X0_takeRow_73 rfl (by decide) rfl (fun y4 ey4 => ?_)
      have h := h y4 ey4
      show WP _ _ _ _ _ _ _ _ [(2, t), (2, a1), (0, y4), (0, v3)] _ _ _ _
      refine r_goto (tgt := 25) d_X0_takeRow_76 rfl ?_
      exact x_mask h ⟨Or.inr rfl, Or.inr rfl, Or.inr rfl, Or.inl rfl, trivial⟩
    · have h := h.2 hc
      refine r_aload_n (x := t) d_X0_takeRow_51 rfl o_t.1 ?_
      refine r_getf (j := 1) (t := 2) (x := t_rows) d_X0_takeRow_52 kX0 (by decide) fl_X0_17 o_t.1 o_t.2.1 o_t.2.2.1 o_t.2.2.2 rfl f_t_rows ?_
      refine r_aload_n (x := t) d_X0_takeRow_55 rfl o_t.1 ?_
      refine r_getf (j := 3) (t := 0) (x := (σ2 t 3)) d_X0_takeRow_56 kX0 (by decide) fl_X0_24 o_t.1 o_t.2.1 o_t.2.2.1 o_t.2.2.2 rfl rfl ?_
      refine x_aald (t := 5) (by decide) d_X0_takeRow_59 h.1 (fun b5 eb5 => ?_)
      have h := h.2 b5 eb5
      have oob5 := h.1
      have h := h.2
      refine r_iload_n (x := v3) d_X0_takeRow_60 rfl ?_
      refine r_aload_n (x := a1) d_X0_takeRow_61 rfl o_a1.1 ?_
      refine r_getf (j := 1) (t := 2) (x := a1_numbers) d_X0_takeRow_62 kX5 (by decide) fl_X0_45 o_a1.1 o_a1.2.1 o_a1.2.2.1 o_a1.2.2.2 rfl f_a1_numbers ?_
      refine r_iload_n (x := x2) d_X0_takeRow_65 rfl ?_
      refine x_iald d_X0_takeRow_66 h.1 ?_
      have h := h.2
      refine r_ldc (x := 1000003) d_X0_takeRow_67 ck_X0_49 (by decide) ?_
      refine r_callS (Y2 := mJ9_floorMod_7cf53) (d := d - 1) (mc := 0) (ms := 0) (As := [(0, (σ2 a1_numbers x2)), (0, 1000003)]) (S := [(0, v3), (2, b5)]) d_X0_takeRow_69 ok_mJ9_floorMod_7cf53 ml_X0_50 rfl (rmc h0d (by decide)) rm00 (Nat.le_of_ble_eq_true rfl) rfl (MC.mono h (fun r N1 Λ1 σ6 hq => ?_))
      obtain ⟨v7, rfl, rfl, rfl, h⟩ := hq
      refine x_iast d_X0_takeRow_72 h.1 ?_
      have h := h.2
      refine r_nmM (fun τ8 eτ8 => ?_)
      have h := h τ8 eτ8
      refine x_iinc (x := x2) (L := [(2, t), (2, a1), (0, x2), (0, v3)]) d_X0_takeRow_73 rfl (by decide) rfl (fun y9 ey9 => ?_)
      have h := h y9 ey9
      show WP _ _ _ _ _ _ _ _ [(2, t), (2, a1), (0, y9), (0, v3)] _ _ _ _
      refine r_goto (tgt := 25) d_X0_takeRow_76 rfl ?_
      exact x_mask h ⟨Or.inr rfl, Or.inr rfl, Or.inr rfl, Or.inl rfl, trivial⟩
theorem v_X0_independentRows_0 {l : Launch} {d N : Nat} {Λ : Lay} {P : Int → Mem → Prop} {σ : Mem} {t : Int}
    (h : WI l mX0_independentRows d P 4 [(2, t), (0, 0), (0, 0), (3, 0)] [] N Λ σ) :
    WI l mX0_independentRows d P 0 [(2, t), (3, 0), (3, 0), (3, 0)] [] N Λ σ := by
  refine r_iconst (x := 0) d_X0_independentRows_0 ⟨by decide, by decide⟩ ?_
  refine r_istore_n (L2 := [(2, t), (0, 0), (3, 0), (3, 0)]) d_X0_independentRows_1 (by decide) rfl rfl ?_
  refine r_iconst (x := 0) d_X0_independentRows_2 ⟨by decide, by decide⟩ ?_
  refine r_istore_n (L2 := [(2, t), (0, 0), (0, 0), (3, 0)]) d_X0_independentRows_3 (by decide) rfl rfl ?_
  exact h
theorem v_X0_independentRows_4 {l : Launch} {d N : Nat} {Λ : Lay} {P : Int → Mem → Prop} {σ : Mem} {x1 x2 t : Int} (o_t : Ob N Λ t 10 4) (h0d : 1 ≤ d)
    (h : (((σ t 2) ≤ x2 → P x1 σ) ∧ (¬ ((σ t 2) ≤ x2) → (((σ t 3) ≤ x1 → P x1 σ) ∧ (¬ ((σ t 3) ≤ x1) → (CI l mX0_bringUp (d - 1) [(2, t), (0, x2), (0, x1)] N Λ σ (fun v2 σ1 => ((v2 = 0 → (∀ y3, y3 = addI x2 1 → WI l mX0_independentRows d P 4 [(2, t), (0, x1), (0, y3), (3, 0)] [] N Λ σ1)) ∧ (¬ (v2 = 0) → (∀ y4, y4 = (addI x1 1) → WI l mX0_independentRows d P 33 [(2, t), (0, x1), (0, x2), (0, y4)] [] N Λ σ1)))))))))) :
    WI l mX0_independentRows d P 4 [(2, t), (0, x1), (0, x2), (3, 0)] [] N Λ σ := by
  refine r_iload_n (x := x2) d_X0_independentRows_4 rfl ?_
  refine r_aload_n (x := t) d_X0_independentRows_5 rfl o_t.1 ?_
  refine r_getf (j := 2) (t := 0) (x := (σ t 2)) d_X0_independentRows_6 kX0 (by decide) fl_X0_20 o_t.1 o_t.2.1 o_t.2.2.1 o_t.2.2.2 rfl rfl ?_
  refine r_ic_ge (tgt := 63) d_X0_independentRows_9 rfl (fun hc => ?_) (fun hc => ?_)
  · have h := h.1 hc
    refine r_iload_n (x := x1) d_X0_independentRows_63 rfl ?_
    exact r_iret d_X0_independentRows_64 rfl rfl (Nat.le_refl 0) (Nat.le_refl 0) ⟨_, rfl, rfl, rfl, h⟩
  · have h := h.2 hc
    refine r_iload_n (x := x1) d_X0_independentRows_12 rfl ?_
    refine r_aload_n (x := t) d_X0_independentRows_13 rfl o_t.1 ?_
    refine r_getf (j := 3) (t := 0) (x := (σ t 3)) d_X0_independentRows_14 kX0 (by decide) fl_X0_24 o_t.1 o_t.2.1 o_t.2.2.1 o_t.2.2.2 rfl rfl ?_
    refine r_ic_ge (tgt := 63) d_X0_independentRows_17 rfl (fun hc => ?_) (fun hc => ?_)
    · have h := h.1 hc
      refine r_iload_n (x := x1) d_X0_independentRows_63 rfl ?_
      exact r_iret d_X0_independentRows_64 rfl rfl (Nat.le_refl 0) (Nat.le_refl 0) ⟨_, rfl, rfl, rfl, h⟩
    · have h := h.2 hc
      refine r_aload_n (x := t) d_X0_independentRows_20 rfl o_t.1 ?_
      refine r_iload_n (x := x2) d_X0_independentRows_21 rfl ?_
      refine r_iload_n (x := x1) d_X0_independentRows_22 rfl ?_
      refine r_callV (Y2 := mX0_bringUp) (d := d - 1) (mc := 0) (ms := 0) (c := t) (As := [(0, x2), (0, x1)]) (S := []) d_X0_independentRows_23 ok_mX0_bringUp ml_X0_56 rfl (rmc h0d (by decide)) rm00 (Nat.le_of_ble_eq_true rfl) rfl kX0 o_t.1 o_t.2.1 o_t.2.2.1 o_t.2.2.2 (MC.mono h (fun r N1 Λ1 σ1 hq => ?_))
      obtain ⟨v2, rfl, rfl, rfl, h⟩ := hq
      refine r_if_eq (tgt := 57) d_X0_independentRows_26 rfl (fun hc => ?_) (fun hc => ?_)
      · have h := h.1 hc
        refine x_iinc (x := x2) (L := [(2, t), (0, x1), (0, x2), (3, 0)]) d_X0_independentRows_57 rfl (by decide) rfl (fun y3 ey3 => ?_)
        have h := h y3 ey3
        show WP _ _ _ _ _ _ _ _ [(2, t), (0, x1), (0, y3), (3, 0)] _ _ _ _
        refine r_goto (tgt := 4) d_X0_independentRows_60 rfl ?_
        exact h
      · have h := h.2 hc
        refine r_iload_n (x := x1) d_X0_independentRows_29 rfl ?_
        refine r_iconst (x := 1) d_X0_independentRows_30 ⟨by decide, by decide⟩ ?_
        refine r_iadd d_X0_independentRows_31 ?_
        refine r_nm (fun y4 ey4 => ?_)
        have h := h y4 ey4
        refine r_istore_n (L2 := [(2, t), (0, x1), (0, x2), (0, y4)]) d_X0_independentRows_32 (by decide) rfl rfl ?_
        exact h
theorem v_X0_independentRows_33 {l : Launch} {d N : Nat} {Λ : Lay} {P : Int → Mem → Prop} {σ : Mem} {x1 x2 x3 t : Int} (o_t : Ob N Λ t 10 4) (h0d : 1 ≤ d)
    (h : (((σ t 3) ≤ x3 → (∀ y1, y1 = addI x1 1 → (∀ y2, y2 = addI x2 1 → WI l mX0_independentRows d P 4 [(2, t), (0, y1), (0, y2), (3, 0)] [] N Λ σ))) ∧ (¬ ((σ t 3) ≤ x3) → (CV l mX0_clearColumn (d - 1) [(2, t), (0, x2), (0, x1), (0, x3)] N Λ σ (fun σ3 => (∀ y4, y4 = addI x3 1 → WI l mX0_independentRows d P 33 [(2, t), (0, x1), (0, x2), (0, y4)] [] N Λ σ3)))))) :
    WI l mX0_independentRows d P 33 [(2, t), (0, x1), (0, x2), (0, x3)] [] N Λ σ := by
  refine r_iload_n (x := x3) d_X0_independentRows_33 rfl ?_
  refine r_aload_n (x := t) d_X0_independentRows_34 rfl o_t.1 ?_
  refine r_getf (j := 3) (t := 0) (x := (σ t 3)) d_X0_independentRows_35 kX0 (by decide) fl_X0_24 o_t.1 o_t.2.1 o_t.2.2.1 o_t.2.2.2 rfl rfl ?_
  refine r_ic_ge (tgt := 54) d_X0_independentRows_38 rfl (fun hc => ?_) (fun hc => ?_)
  · have h := h.1 hc
    refine x_iinc (x := x1) (L := [(2, t), (0, x1), (0, x2), (0, x3)]) d_X0_independentRows_54 rfl (by decide) rfl (fun y1 ey1 => ?_)
    have h := h y1 ey1
    show WP _ _ _ _ _ _ _ _ [(2, t), (0, y1), (0, x2), (0, x3)] _ _ _ _
    refine x_iinc (x := x2) (L := [(2, t), (0, y1), (0, x2), (0, x3)]) d_X0_independentRows_57 rfl (by decide) rfl (fun y2 ey2 => ?_)
    have h := h y2 ey2
    show WP _ _ _ _ _ _ _ _ [(2, t), (0, y1), (0, y2), (0, x3)] _ _ _ _
    refine r_goto (tgt := 4) d_X0_independentRows_60 rfl ?_
    exact x_mask h ⟨Or.inr rfl, Or.inr rfl, Or.inr rfl, Or.inl rfl, trivial⟩
  · have h := h.2 hc
    refine r_aload_n (x := t) d_X0_independentRows_41 rfl o_t.1 ?_
    refine r_iload_n (x := x2) d_X0_independentRows_42 rfl ?_
    refine r_iload_n (x := x1) d_X0_independentRows_43 rfl ?_
    refine r_iload_n (x := x3) d_X0_independentRows_44 rfl ?_
    refine r_callV (Y2 := mX0_clearColumn) (d := d - 1) (mc := 0) (ms := 0) (c := t) (As := [(0, x2), (0, x1), (0, x3)]) (S := []) d_X0_independentRows_45 ok_mX0_clearColumn ml_X0_60 rfl (rmc h0d (by decide)) rm00 (Nat.le_of_ble_eq_true rfl) rfl kX0 o_t.1 o_t.2.1 o_t.2.2.1 o_t.2.2.2 (MC.mono h (fun r N1 Λ1 σ3 hq => ?_))
    obtain ⟨rfl, rfl, rfl, h⟩ := hq
    refine x_iinc (x := x3) (L := [(2, t), (0, x1), (0, x2), (0, x3)]) d_X0_independentRows_48 rfl (by decide) rfl (fun y4 ey4 => ?_)
    have h := h y4 ey4
    show WP _ _ _ _ _ _ _ _ [(2, t), (0, x1), (0, x2), (0, y4)] _ _ _ _
    refine r_goto (tgt := 33) d_X0_independentRows_51 rfl ?_
    exact h
theorem v_X0_clearColumn_0 {l : Launch} {d N : Nat} {Λ : Lay} {P : Mem → Prop} {σ : Mem} {x1 x2 x3 t t_rows : Int} (o_t : Ob N Λ t 10 4) (f_t_rows : (Λ t).2.2 1 = t_rows)
    (h : (Ix N Λ t_rows 5 x3 ∧ ∀ b1, b1 = (Λ t_rows).2.2 x3 → 0 ≤ b1 ∧ (Ix N Λ b1 0 x1 ∧ (∀ y2, y2 = (σ b1 x1) → (Ix N Λ t_rows 5 x2 ∧ ∀ b3, b3 = (Λ t_rows).2.2 x2 → 0 ≤ b3 ∧ (Ix N Λ b3 0 x1 ∧ (∀ y4, y4 = (σ b3 x1) → WV l mX0_clearColumn d P 25 [(2, t), (0, x1), (0, x2), (0, x3), (1, y2), (3, 0), (1, y4), (3, 0), (0, x1)] [] N Λ σ))))))) :
    WV l mX0_clearColumn d P 0 [(2, t), (0, x1), (0, x2), (0, x3), (3, 0), (3, 0), (3, 0), (3, 0), (3, 0)] [] N Λ σ := by
  refine r_aload_n (x := t) d_X0_clearColumn_0 rfl o_t.1 ?_
  refine r_getf (j := 1) (t := 2) (x := t_rows) d_X0_clearColumn_1 kX0 (by decide) fl_X0_17 o_t.1 o_t.2.1 o_t.2.2.1 o_t.2.2.2 rfl f_t_rows ?_
  refine r_iload_n (x := x3) d_X0_clearColumn_4 rfl ?_
  refine x_aald (t := 5) (by decide) d_X0_clearColumn_5 h.1 (fun b1 eb1 => ?_)
  have h := h.2 b1 eb1
  have oob1 := h.1
  have h := h.2
  refine r_iload_n (x := x1) d_X0_clearColumn_6 rfl ?_
  refine x_iald d_X0_clearColumn_7 h.1 ?_
  have h := h.2
  refine r_i2l d_X0_clearColumn_8 ?_
  refine r_nm (fun y2 ey2 => ?_)
  have h := h y2 ey2
  refine r_lstore (L2 := [(2, t), (0, x1), (0, x2), (0, x3), (1, y2), (3, 0), (3, 0), (3, 0), (3, 0)]) d_X0_clearColumn_9 (by decide) rfl rfl ?_
  refine r_aload_n (x := t) d_X0_clearColumn_11 rfl o_t.1 ?_
  refine r_getf (j := 1) (t := 2) (x := t_rows) d_X0_clearColumn_12 kX0 (by decide) fl_X0_17 o_t.1 o_t.2.1 o_t.2.2.1 o_t.2.2.2 rfl f_t_rows ?_
  refine r_iload_n (x := x2) d_X0_clearColumn_15 rfl ?_
  refine x_aald (t := 5) (by decide) d_X0_clearColumn_16 h.1 (fun b3 eb3 => ?_)
  have h := h.2 b3 eb3
  have oob3 := h.1
  have h := h.2
  refine r_iload_n (x := x1) d_X0_clearColumn_17 rfl ?_
  refine x_iald d_X0_clearColumn_18 h.1 ?_
  have h := h.2
  refine r_i2l d_X0_clearColumn_19 ?_
  refine r_nm (fun y4 ey4 => ?_)
  have h := h y4 ey4
  refine r_lstore (L2 := [(2, t), (0, x1), (0, x2), (0, x3), (1, y2), (3, 0), (1, y4), (3, 0), (3, 0)]) d_X0_clearColumn_20 (by decide) rfl rfl ?_
  refine r_iload_n (x := x1) d_X0_clearColumn_22 rfl ?_
  refine r_istore (L2 := [(2, t), (0, x1), (0, x2), (0, x3), (1, y2), (3, 0), (1, y4), (3, 0), (0, x1)]) d_X0_clearColumn_23 (by decide) rfl rfl ?_
  exact h
theorem v_X0_clearColumn_25 {l : Launch} {d N : Nat} {Λ : Lay} {P : Mem → Prop} {σ : Mem} {x1 x2 x3 x4 x6 x8 t t_rows : Int} (o_t : Ob N Λ t 10 4) (f_t_rows : (Λ t).2.2 1 = t_rows) (h0d : 1 ≤ d)
    (h : (((σ t 2) ≤ x8 → P σ) ∧ (¬ ((σ t 2) ≤ x8) → (((cmpL x4 0) = 0 → P σ) ∧ (¬ ((cmpL x4 0) = 0) → (Ix N Λ t_rows 5 x3 ∧ ∀ b1, b1 = (Λ t_rows).2.2 x3 → 0 ≤ b1 ∧ (Ix N Λ t_rows 5 x3 ∧ ∀ b2, b2 = (Λ t_rows).2.2 x3 → 0 ≤ b2 ∧ (Ix N Λ b2 0 x8 ∧ (Ix N Λ t_rows 5 x2 ∧ ∀ b3, b3 = (Λ t_rows).2.2 x2 → 0 ≤ b3 ∧ (Ix N Λ b3 0 x8 ∧ (CL l mJ9_floorMod_f86c9 (d - 1) [(1, (subL (mulL (σ b2 x8) x6) (mulL (σ b3 x8) x4))), (1, 1000003)] N Λ σ (fun v5 σ4 => (Ix N Λ b1 0 x8 ∧ (∀ τ6, τ6 = st σ4 b1 x8 (l2iI v5) → (∀ y7, y7 = addI x8 1 → WV l mX0_clearColumn d P 25 [(2, t), (0, x1), (0, x2), (0, x3), (1, x4), (3, 0), (1, x6), (3, 0), (0, y7)] [] N Λ τ6))))))))))))))) :
    WV l mX0_clearColumn d P 25 [(2, t), (0, x1), (0, x2), (0, x3), (1, x4), (3, 0), (1, x6), (3, 0), (0, x8)] [] N Λ σ := by
  refine r_iload (x := x8) d_X0_clearColumn_25 rfl ?_
  refine r_aload_n (x := t) d_X0_clearColumn_27 rfl o_t.1 ?_
  refine r_getf (j := 2) (t := 0) (x := (σ t 2)) d_X0_clearColumn_28 kX0 (by decide) fl_X0_20 o_t.1 o_t.2.1 o_t.2.2.1 o_t.2.2.2 rfl rfl ?_
  refine r_ic_ge (tgt := 90) d_X0_clearColumn_31 rfl (fun hc => ?_) (fun hc => ?_)
  · have h := h.1 hc
    exact r_vret d_X0_clearColumn_90 rfl (Nat.le_refl 0) (Nat.le_refl 0) ⟨rfl, rfl, rfl, h⟩
  · have h := h.2 hc
    refine r_lload (x := x4) d_X0_clearColumn_34 rfl ?_
    refine r_lconst d_X0_clearColumn_36 ?_
    skip
    refine r_lcmp d_X0_clearColumn_37 ?_
    refine r_if_eq (tgt := 90) d_X0_clearColumn_38 rfl (fun hc => ?_) (fun hc => ?_)
    · have h := h.1 hc
      exact r_vret d_X0_clearColumn_90 rfl (Nat.le_refl 0) (Nat.le_refl 0) ⟨rfl, rfl, rfl, h⟩
    · have h := h.2 hc
      refine r_aload_n (x := t) d_X0_clearColumn_41 rfl o_t.1 ?_
      refine r_getf (j := 1) (t := 2) (x := t_rows) d_X0_clearColumn_42 kX0 (by decide) fl_X0_17 o_t.1 o_t.2.1 o_t.2.2.1 o_t.2.2.2 rfl f_t_rows ?_
      refine r_iload_n (x := x3) d_X0_clearColumn_45 rfl ?_
      refine x_aald (t := 5) (by decide) d_X0_clearColumn_46 h.1 (fun b1 eb1 => ?_)
      have h := h.2 b1 eb1
      have oob1 := h.1
      have h := h.2
      refine r_iload (x := x8) d_X0_clearColumn_47 rfl ?_
      refine r_aload_n (x := t) d_X0_clearColumn_49 rfl o_t.1 ?_
      refine r_getf (j := 1) (t := 2) (x := t_rows) d_X0_clearColumn_50 kX0 (by decide) fl_X0_17 o_t.1 o_t.2.1 o_t.2.2.1 o_t.2.2.2 rfl f_t_rows ?_
      refine r_iload_n (x := x3) d_X0_clearColumn_53 rfl ?_
      refine x_aald (t := 5) (by decide) d_X0_clearColumn_54 h.1 (fun b2 eb2 => ?_)
      have h := h.2 b2 eb2
      have oob2 := h.1
      have h := h.2
      refine r_iload (x := x8) d_X0_clearColumn_55 rfl ?_
      refine x_iald d_X0_clearColumn_57 h.1 ?_
      have h := h.2
      refine r_i2l d_X0_clearColumn_58 ?_
      refine r_lload (x := x6) d_X0_clearColumn_59 rfl ?_
      refine r_lmul d_X0_clearColumn_61 ?_
      refine r_aload_n (x := t) d_X0_clearColumn_62 rfl o_t.1 ?_
      refine r_getf (j := 1) (t := 2) (x := t_rows) d_X0_clearColumn_63 kX0 (by decide) fl_X0_17 o_t.1 o_t.2.1 o_t.2.2.1 o_t.2.2.2 rfl f_t_rows ?_
      refine r_iload_n (x := x2) d_X0_clearColumn_66 rfl ?_
      refine x_aald (t := 5) (by decide) d_X0_clearColumn_67 h.1 (fun b3 eb3 => ?_)
      have h := h.2 b3 eb3
      have oob3 := h.1
      have h := h.2
      refine r_iload (x := x8) d_X0_clearColumn_68 rfl ?_
      refine x_iald d_X0_clearColumn_70 h.1 ?_
      have h := h.2
      refine r_i2l d_X0_clearColumn_71 ?_
      refine r_lload (x := x4) d_X0_clearColumn_72 rfl ?_
      refine r_lmul d_X0_clearColumn_74 ?_
      refine r_lsub d_X0_clearColumn_75 ?_
      refine r_ldc2 (x := 1000003) d_X0_clearColumn_76 ck_X0_64 (by decide) ?_
      refine r_callS (Y2 := mJ9_floorMod_f86c9) (d := d - 1) (mc := 0) (ms := 0) (As := [(1, (subL (mulL (σ b2 x8) x6) (mulL (σ b3 x8) x4))), (1, 1000003)]) (S := [(0, x8), (2, b1)]) d_X0_clearColumn_79 ok_mJ9_floorMod_f86c9 ml_X0_66 rfl (rmc h0d (by decide)) rm00 (Nat.le_of_ble_eq_true rfl) rfl (MC.mono h (fun r N1 Λ1 σ4 hq => ?_))
      obtain ⟨v5, rfl, rfl, rfl, h⟩ := hq
      refine r_l2i d_X0_clearColumn_82 ?_
      refine x_iast d_X0_clearColumn_83 h.1 ?_
      have h := h.2
      refine r_nmM (fun τ6 eτ6 => ?_)
      have h := h τ6 eτ6
      refine x_iinc (x := x8) (L := [(2, t), (0, x1), (0, x2), (0, x3), (1, x4), (3, 0), (1, x6), (3, 0), (0, x8)]) d_X0_clearColumn_84 rfl (by decide) rfl (fun y7 ey7 => ?_)
      have h := h y7 ey7
      show WP _ _ _ _ _ _ _ _ [(2, t), (0, x1), (0, x2), (0, x3), (1, x4), (3, 0), (1, x6), (3, 0), (0, y7)] _ _ _ _
      refine r_goto (tgt := 25) d_X0_clearColumn_87 rfl ?_
      exact h
theorem v_X0_columnOf_0 {l : Launch} {d N : Nat} {Λ : Lay} {P : Int → Mem → Prop} {σ : Mem} {x1 t : Int}
    (h : WI l mX0_columnOf d P 2 [(2, t), (1, x1), (3, 0), (0, 0)] [] N Λ σ) :
    WI l mX0_columnOf d P 0 [(2, t), (1, x1), (3, 0), (3, 0)] [] N Λ σ := by
  refine r_iconst (x := 0) d_X0_columnOf_0 ⟨by decide, by decide⟩ ?_
  refine r_istore_n (L2 := [(2, t), (1, x1), (3, 0), (0, 0)]) d_X0_columnOf_1 (by decide) rfl rfl ?_
  exact h
theorem v_X0_columnOf_2 {l : Launch} {d N : Nat} {Λ : Lay} {P : Int → Mem → Prop} {σ : Mem} {x1 x3 t t_columns : Int} (o_t : Ob N Λ t 10 4) (f_t_columns : (Λ t).2.2 0 = t_columns)
    (h : (((σ t 2) ≤ x3 → ((¬ x3 = (σ t 2) → P x3 σ) ∧ (x3 = (σ t 2) → ((480 ≤ (σ t 2) → P x3 σ) ∧ (¬ (480 ≤ (σ t 2)) → (Ix N Λ t_columns 1 x3 ∧ (∀ τ1, τ1 = st σ t_columns x3 x1 → (∀ τ2, τ2 = st τ1 t 2 (addI (τ1 t 2) 1) → P x3 τ2)))))))) ∧ (¬ ((σ t 2) ≤ x3) → (Ix N Λ t_columns 1 x3 ∧ (((cmpL (σ t_columns x3) x1) = 0 → ((¬ x3 = (σ t 2) → P x3 σ) ∧ (x3 = (σ t 2) → ((480 ≤ (σ t 2) → P x3 σ) ∧ (¬ (480 ≤ (σ t 2)) → (Ix N Λ t_columns 1 x3 ∧ (∀ τ3, τ3 = st σ t_columns x3 x1 → (∀ τ4, τ4 = st τ3 t 2 (addI (τ3 t 2) 1) → P x3 τ4)))))))) ∧ (¬ ((cmpL (σ t_columns x3) x1) = 0) → (∀ y5, y5 = addI x3 1 → WI l mX0_columnOf d P 2 [(2, t), (1, x1), (3, 0), (0, y5)] [] N Λ σ))))))) :
    WI l mX0_columnOf d P 2 [(2, t), (1, x1), (3, 0), (0, x3)] [] N Λ σ := by
  refine r_iload_n (x := x3) d_X0_columnOf_2 rfl ?_
  refine r_aload_n (x := t) d_X0_columnOf_3 rfl o_t.1 ?_
  refine r_getf (j := 2) (t := 0) (x := (σ t 2)) d_X0_columnOf_4 kX0 (by decide) fl_X0_20 o_t.1 o_t.2.1 o_t.2.2.1 o_t.2.2.2 rfl rfl ?_
  refine r_ic_ge (tgt := 27) d_X0_columnOf_7 rfl (fun hc => ?_) (fun hc => ?_)
  · have h := h.1 hc
    refine r_iload_n (x := x3) d_X0_columnOf_27 rfl ?_
    refine r_aload_n (x := t) d_X0_columnOf_28 rfl o_t.1 ?_
    refine r_getf (j := 2) (t := 0) (x := (σ t 2)) d_X0_columnOf_29 kX0 (by decide) fl_X0_20 o_t.1 o_t.2.1 o_t.2.2.1 o_t.2.2.2 rfl rfl ?_
    refine r_ic_ne (tgt := 62) d_X0_columnOf_32 rfl (fun hc => ?_) (fun hc => ?_)
    · have h := h.1 hc
      refine r_iload_n (x := x3) d_X0_columnOf_62 rfl ?_
      exact r_iret d_X0_columnOf_63 rfl rfl (Nat.le_refl 0) (Nat.le_refl 0) ⟨_, rfl, rfl, rfl, h⟩
    · have h := h.2 hc
      refine r_aload_n (x := t) d_X0_columnOf_35 rfl o_t.1 ?_
      refine r_getf (j := 2) (t := 0) (x := (σ t 2)) d_X0_columnOf_36 kX0 (by decide) fl_X0_20 o_t.1 o_t.2.1 o_t.2.2.1 o_t.2.2.2 rfl rfl ?_
      refine r_sipush (x := 480) d_X0_columnOf_39 ⟨by decide, by decide⟩ (by decide) ?_
      refine r_ic_ge (tgt := 62) d_X0_columnOf_42 rfl (fun hc => ?_) (fun hc => ?_)
      · have h := h.1 hc
        refine r_iload_n (x := x3) d_X0_columnOf_62 rfl ?_
        exact r_iret d_X0_columnOf_63 rfl rfl (Nat.le_refl 0) (Nat.le_refl 0) ⟨_, rfl, rfl, rfl, h⟩
      · have h := h.2 hc
        refine r_aload_n (x := t) d_X0_columnOf_45 rfl o_t.1 ?_
        refine r_getf (j := 0) (t := 2) (x := t_columns) d_X0_columnOf_46 kX0 (by decide) fl_X0_11 o_t.1 o_t.2.1 o_t.2.2.1 o_t.2.2.2 rfl f_t_columns ?_
        refine r_iload_n (x := x3) d_X0_columnOf_49 rfl ?_
        refine r_lload_n (x := x1) d_X0_columnOf_50 rfl ?_
        refine x_last d_X0_columnOf_51 h.1 ?_
        have h := h.2
        refine r_nmM (fun τ1 eτ1 => ?_)
        have h := h τ1 eτ1
        refine r_aload_n (x := t) d_X0_columnOf_52 rfl o_t.1 ?_
        refine r_dup d_X0_columnOf_53 rfl ?_
        refine r_getf (j := 2) (t := 0) (x := (τ1 t 2)) d_X0_columnOf_54 kX0 (by decide) fl_X0_20 o_t.1 o_t.2.1 o_t.2.2.1 o_t.2.2.2 rfl rfl ?_
        refine r_iconst (x := 1) d_X0_columnOf_57 ⟨by decide, by decide⟩ ?_
        refine r_iadd d_X0_columnOf_58 ?_
        refine r_putI (j := 2) d_X0_columnOf_59 kX0 (by decide) fl_X0_20 rfl o_t.1 o_t.2.1 o_t.2.2.1 o_t.2.2.2 rfl ?_
        refine r_nmM (fun τ2 eτ2 => ?_)
        have h := h τ2 eτ2
        refine r_iload_n (x := x3) d_X0_columnOf_62 rfl ?_
        exact r_iret d_X0_columnOf_63 rfl rfl (Nat.le_refl 0) (Nat.le_refl 0) ⟨_, rfl, rfl, rfl, h⟩
  · have h := h.2 hc
    refine r_aload_n (x := t) d_X0_columnOf_10 rfl o_t.1 ?_
    refine r_getf (j := 0) (t := 2) (x := t_columns) d_X0_columnOf_11 kX0 (by decide) fl_X0_11 o_t.1 o_t.2.1 o_t.2.2.1 o_t.2.2.2 rfl f_t_columns ?_
    refine r_iload_n (x := x3) d_X0_columnOf_14 rfl ?_
    refine x_lald d_X0_columnOf_15 h.1 ?_
    have h := h.2
    refine r_lload_n (x := x1) d_X0_columnOf_16 rfl ?_
    refine r_lcmp d_X0_columnOf_17 ?_
    refine r_if_eq (tgt := 27) d_X0_columnOf_18 rfl (fun hc => ?_) (fun hc => ?_)
    · have h := h.1 hc
      refine r_iload_n (x := x3) d_X0_columnOf_27 rfl ?_
      refine r_aload_n (x := t) d_X0_columnOf_28 rfl o_t.1 ?_
      refine r_getf (j := 2) (t := 0) (x := (σ t 2)) d_X0_columnOf_29 kX0 (by decide) fl_X0_20 o_t.1 o_t.2.1 o_t.2.2.1 o_t.2.2.2 rfl rfl ?_
      refine r_ic_ne (tgt := 62) d_X0_columnOf_32 rfl (fun hc => ?_) (fun hc => ?_)
      · have h := h.1 hc
        refine r_iload_n (x := x3) d_X0_columnOf_62 rfl ?_
        exact r_iret d_X0_columnOf_63 rfl rfl (Nat.le_refl 0) (Nat.le_refl 0) ⟨_, rfl, rfl, rfl, h⟩
      · have h := h.2 hc
        refine r_aload_n (x := t) d_X0_columnOf_35 rfl o_t.1 ?_
        refine r_getf (j := 2) (t := 0) (x := (σ t 2)) d_X0_columnOf_36 kX0 (by decide) fl_X0_20 o_t.1 o_t.2.1 o_t.2.2.1 o_t.2.2.2 rfl rfl ?_
        refine r_sipush (x := 480) d_X0_columnOf_39 ⟨by decide, by decide⟩ (by decide) ?_
        refine r_ic_ge (tgt := 62) d_X0_columnOf_42 rfl (fun hc => ?_) (fun hc => ?_)
        · have h := h.1 hc
          refine r_iload_n (x := x3) d_X0_columnOf_62 rfl ?_
          exact r_iret d_X0_columnOf_63 rfl rfl (Nat.le_refl 0) (Nat.le_refl 0) ⟨_, rfl, rfl, rfl, h⟩
        · have h := h.2 hc
          refine r_aload_n (x := t) d_X0_columnOf_45 rfl o_t.1 ?_
          refine r_getf (j := 0) (t := 2) (x := t_columns) d_X0_columnOf_46 kX0 (by decide) fl_X0_11 o_t.1 o_t.2.1 o_t.2.2.1 o_t.2.2.2 rfl f_t_columns ?_
          refine r_iload_n (x := x3) d_X0_columnOf_49 rfl ?_
          refine r_lload_n (x := x1) d_X0_columnOf_50 rfl ?_
          refine x_last d_X0_columnOf_51 h.1 ?_
          have h := h.2
          refine r_nmM (fun τ3 eτ3 => ?_)
          have h := h τ3 eτ3
          refine r_aload_n (x := t) d_X0_columnOf_52 rfl o_t.1 ?_
          refine r_dup d_X0_columnOf_53 rfl ?_
          refine r_getf (j := 2) (t := 0) (x := (τ3 t 2)) d_X0_columnOf_54 kX0 (by decide) fl_X0_20 o_t.1 o_t.2.1 o_t.2.2.1 o_t.2.2.2 rfl rfl ?_
          refine r_iconst (x := 1) d_X0_columnOf_57 ⟨by decide, by decide⟩ ?_
          refine r_iadd d_X0_columnOf_58 ?_
          refine r_putI (j := 2) d_X0_columnOf_59 kX0 (by decide) fl_X0_20 rfl o_t.1 o_t.2.1 o_t.2.2.1 o_t.2.2.2 rfl ?_
          refine r_nmM (fun τ4 eτ4 => ?_)
          have h := h τ4 eτ4
          refine r_iload_n (x := x3) d_X0_columnOf_62 rfl ?_
          exact r_iret d_X0_columnOf_63 rfl rfl (Nat.le_refl 0) (Nat.le_refl 0) ⟨_, rfl, rfl, rfl, h⟩
    · have h := h.2 hc
      refine x_iinc (x := x3) (L := [(2, t), (1, x1), (3, 0), (0, x3)]) d_X0_columnOf_21 rfl (by decide) rfl (fun y5 ey5 => ?_)
      have h := h y5 ey5
      show WP _ _ _ _ _ _ _ _ [(2, t), (1, x1), (3, 0), (0, y5)] _ _ _ _
      refine r_goto (tgt := 2) d_X0_columnOf_24 rfl ?_
      exact h
