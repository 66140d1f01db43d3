theorem d_X5_init_0 : DC mX5_init 0 (.aload_n 0) 1 1 := ⟨by decide +kernel, rfl⟩
theorem d_X5_init_1 : DC mX5_init 1 (.invokespecial 3) 3 4 := ⟨by decide +kernel, rfl⟩
theorem d_X5_init_4 : DC mX5_init 4 (.aload_n 0) 1 5 := ⟨by decide +kernel, rfl⟩
theorem d_X5_init_5 : DC mX5_init 5 (.bipush 80) 2 7 := ⟨by decide +kernel, rfl⟩
theorem d_X5_init_7 : DC mX5_init 7 (.newarray .long) 2 9 := ⟨by decide +kernel, rfl⟩
theorem d_X5_init_9 : DC mX5_init 9 (.putfield 9) 3 12 := ⟨by decide +kernel, rfl⟩
theorem d_X5_init_12 : DC mX5_init 12 (.aload_n 0) 1 13 := ⟨by decide +kernel, rfl⟩
theorem d_X5_init_13 : DC mX5_init 13 (.bipush 80) 2 15 := ⟨by decide +kernel, rfl⟩
theorem d_X5_init_15 : DC mX5_init 15 (.newarray .int) 2 17 := ⟨by decide +kernel, rfl⟩
theorem d_X5_init_17 : DC mX5_init 17 (.putfield 15) 3 20 := ⟨by decide +kernel, rfl⟩
theorem d_X5_init_20 : DC mX5_init 20 (.aload_n 0) 1 21 := ⟨by decide +kernel, rfl⟩
theorem d_X5_init_21 : DC mX5_init 21 (.iconst 0) 1 22 := ⟨by decide +kernel, rfl⟩
theorem d_X5_init_22 : DC mX5_init 22 (.putfield 19) 3 25 := ⟨by decide +kernel, rfl⟩
theorem d_X5_init_25 : DC mX5_init 25 (.return_) 1 26 := ⟨by decide +kernel, rfl⟩
theorem d_X10_init_0 : DC mX10_init 0 (.aload_n 0) 1 1 := ⟨by decide +kernel, rfl⟩
theorem d_X10_init_1 : DC mX10_init 1 (.invokespecial 1) 3 4 := ⟨by decide +kernel, rfl⟩
theorem d_X10_init_4 : DC mX10_init 4 (.aload_n 0) 1 5 := ⟨by decide +kernel, rfl⟩
theorem d_X10_init_5 : DC mX10_init 5 (.lconst 0) 1 6 := ⟨by decide +kernel, rfl⟩
theorem d_X10_init_6 : DC mX10_init 6 (.putfield 7) 3 9 := ⟨by decide +kernel, rfl⟩
theorem d_X10_init_9 : DC mX10_init 9 (.aload_n 0) 1 10 := ⟨by decide +kernel, rfl⟩
theorem d_X10_init_10 : DC mX10_init 10 (.iconst 1) 1 11 := ⟨by decide +kernel, rfl⟩
theorem d_X10_init_11 : DC mX10_init 11 (.putfield 13) 3 14 := ⟨by decide +kernel, rfl⟩
theorem d_X10_init_14 : DC mX10_init 14 (.return_) 1 15 := ⟨by decide +kernel, rfl⟩
theorem d_X8_init_0 : DC mX8_init 0 (.aload_n 0) 1 1 := ⟨by decide +kernel, rfl⟩
theorem d_X8_init_1 : DC mX8_init 1 (.invokespecial 3) 3 4 := ⟨by decide +kernel, rfl⟩
theorem d_X8_init_4 : DC mX8_init 4 (.aload_n 0) 1 5 := ⟨by decide +kernel, rfl⟩
theorem d_X8_init_5 : DC mX8_init 5 (.iconst 0) 1 6 := ⟨by decide +kernel, rfl⟩
theorem d_X8_init_6 : DC mX8_init 6 (.putfield 9) 3 9 := ⟨by decide +kernel, rfl⟩
theorem d_X8_init_9 : DC mX8_init 9 (.aload_n 0) 1 10 := ⟨by decide +kernel, rfl⟩
theorem d_X8_init_10 : DC mX8_init 10 (.new 15) 3 13 := ⟨by decide +kernel, rfl⟩
theorem d_X8_init_13 : DC mX8_init 13 (.dup) 1 14 := ⟨by decide +kernel, rfl⟩
theorem d_X8_init_14 : DC mX8_init 14 (.invokespecial 17) 3 17 := ⟨by decide +kernel, rfl⟩
theorem d_X8_init_17 : DC mX8_init 17 (.putfield 18) 3 20 := ⟨by decide +kernel, rfl⟩
theorem d_X8_init_20 : DC mX8_init 20 (.return_) 1 21 := ⟨by decide +kernel, rfl⟩
theorem d_X9_init_0 : DC mX9_init 0 (.aload_n 0) 1 1 := ⟨by decide +kernel, rfl⟩
theorem d_X9_init_1 : DC mX9_init 1 (.invokespecial 3) 3 4 := ⟨by decide +kernel, rfl⟩
theorem d_X9_init_4 : DC mX9_init 4 (.aload_n 0) 1 5 := ⟨by decide +kernel, rfl⟩
theorem d_X9_init_5 : DC mX9_init 5 (.sipush 300) 3 8 := ⟨by decide +kernel, rfl⟩
theorem d_X9_init_8 : DC mX9_init 8 (.newarray .int) 2 10 := ⟨by decide +kernel, rfl⟩
theorem d_X9_init_10 : DC mX9_init 10 (.putfield 9) 3 13 := ⟨by decide +kernel, rfl⟩
theorem d_X9_init_13 : DC mX9_init 13 (.aload_n 0) 1 14 := ⟨by decide +kernel, rfl⟩
theorem d_X9_init_14 : DC mX9_init 14 (.iconst 0) 1 15 := ⟨by decide +kernel, rfl⟩
theorem d_X9_init_15 : DC mX9_init 15 (.putfield 15) 3 18 := ⟨by decide +kernel, rfl⟩
theorem d_X9_init_18 : DC mX9_init 18 (.aload_n 0) 1 19 := ⟨by decide +kernel, rfl⟩
theorem d_X9_init_19 : DC mX9_init 19 (.iconst 0) 1 20 := ⟨by decide +kernel, rfl⟩
theorem d_X9_init_20 : DC mX9_init 20 (.putfield 19) 3 23 := ⟨by decide +kernel, rfl⟩
theorem d_X9_init_23 : DC mX9_init 23 (.aload_n 0) 1 24 := ⟨by decide +kernel, rfl⟩
theorem d_X9_init_24 : DC mX9_init 24 (.iconst (-1)) 1 25 := ⟨by decide +kernel, rfl⟩
theorem d_X9_init_25 : DC mX9_init 25 (.putfield 22) 3 28 := ⟨by decide +kernel, rfl⟩
theorem d_X9_init_28 : DC mX9_init 28 (.aload_n 0) 1 29 := ⟨by decide +kernel, rfl⟩
theorem d_X9_init_29 : DC mX9_init 29 (.iconst 3) 1 30 := ⟨by decide +kernel, rfl⟩
theorem d_X9_init_30 : DC mX9_init 30 (.newarray .int) 2 32 := ⟨by decide +kernel, rfl⟩
theorem d_X9_init_32 : DC mX9_init 32 (.putfield 25) 3 35 := ⟨by decide +kernel, rfl⟩
theorem d_X9_init_35 : DC mX9_init 35 (.aload_n 0) 1 36 := ⟨by decide +kernel, rfl⟩
theorem d_X9_init_36 : DC mX9_init 36 (.new 28) 3 39 := ⟨by decide +kernel, rfl⟩
theorem d_X9_init_39 : DC mX9_init 39 (.dup) 1 40 := ⟨by decide +kernel, rfl⟩
theorem d_X9_init_40 : DC mX9_init 40 (.invokespecial 30) 3 43 := ⟨by decide +kernel, rfl⟩
theorem d_X9_init_43 : DC mX9_init 43 (.putfield 31) 3 46 := ⟨by decide +kernel, rfl⟩
theorem d_X9_init_46 : DC mX9_init 46 (.return_) 1 47 := ⟨by decide +kernel, rfl⟩
theorem d_X7_init_0 : DC mX7_init 0 (.aload_n 0) 1 1 := ⟨by decide +kernel, rfl⟩
theorem d_X7_init_1 : DC mX7_init 1 (.invokespecial 3) 3 4 := ⟨by decide +kernel, rfl⟩
theorem d_X7_init_4 : DC mX7_init 4 (.aload_n 0) 1 5 := ⟨by decide +kernel, rfl⟩
theorem d_X7_init_5 : DC mX7_init 5 (.bipush 6) 2 7 := ⟨by decide +kernel, rfl⟩
theorem d_X7_init_7 : DC mX7_init 7 (.anewarray 9) 3 10 := ⟨by decide +kernel, rfl⟩
theorem d_X7_init_10 : DC mX7_init 10 (.putfield 11) 3 13 := ⟨by decide +kernel, rfl⟩
theorem d_X7_init_13 : DC mX7_init 13 (.aload_n 0) 1 14 := ⟨by decide +kernel, rfl⟩
theorem d_X7_init_14 : DC mX7_init 14 (.bipush 30) 2 16 := ⟨by decide +kernel, rfl⟩
theorem d_X7_init_16 : DC mX7_init 16 (.newarray .int) 2 18 := ⟨by decide +kernel, rfl⟩
theorem d_X7_init_18 : DC mX7_init 18 (.putfield 17) 3 21 := ⟨by decide +kernel, rfl⟩
theorem d_X7_init_21 : DC mX7_init 21 (.aload_n 0) 1 22 := ⟨by decide +kernel, rfl⟩
theorem d_X7_init_22 : DC mX7_init 22 (.bipush 120) 2 24 := ⟨by decide +kernel, rfl⟩
theorem d_X7_init_24 : DC mX7_init 24 (.newarray .int) 2 26 := ⟨by decide +kernel, rfl⟩
theorem d_X7_init_26 : DC mX7_init 26 (.putfield 21) 3 29 := ⟨by decide +kernel, rfl⟩
theorem d_X7_init_29 : DC mX7_init 29 (.iconst 0) 1 30 := ⟨by decide +kernel, rfl⟩
theorem d_X7_init_30 : DC mX7_init 30 (.istore_n 1) 1 31 := ⟨by decide +kernel, rfl⟩
theorem d_X7_init_31 : DC mX7_init 31 (.iload_n 1) 1 32 := ⟨by decide +kernel, rfl⟩
theorem d_X7_init_32 : DC mX7_init 32 (.bipush 6) 2 34 := ⟨by decide +kernel, rfl⟩
theorem d_X7_init_34 : DC mX7_init 34 (.if_icmp .ge 22) 3 37 := ⟨by decide +kernel, rfl⟩
theorem d_X7_init_37 : DC mX7_init 37 (.aload_n 0) 1 38 := ⟨by decide +kernel, rfl⟩
theorem d_X7_init_38 : DC mX7_init 38 (.getfield 11) 3 41 := ⟨by decide +kernel, rfl⟩
theorem d_X7_init_41 : DC mX7_init 41 (.iload_n 1) 1 42 := ⟨by decide +kernel, rfl⟩
theorem d_X7_init_42 : DC mX7_init 42 (.new 9) 3 45 := ⟨by decide +kernel, rfl⟩
theorem d_X7_init_45 : DC mX7_init 45 (.dup) 1 46 := ⟨by decide +kernel, rfl⟩
theorem d_X7_init_46 : DC mX7_init 46 (.invokespecial 24) 3 49 := ⟨by decide +kernel, rfl⟩
theorem d_X7_init_49 : DC mX7_init 49 (.aastore) 1 50 := ⟨by decide +kernel, rfl⟩
theorem d_X7_init_50 : DC mX7_init 50 (.iinc 1 1) 3 53 := ⟨by decide +kernel, rfl⟩
theorem d_X7_init_53 : DC mX7_init 53 (.goto (-22)) 3 56 := ⟨by decide +kernel, rfl⟩
theorem d_X7_init_56 : DC mX7_init 56 (.aload_n 0) 1 57 := ⟨by decide +kernel, rfl⟩
theorem d_X7_init_57 : DC mX7_init 57 (.getfield 21) 3 60 := ⟨by decide +kernel, rfl⟩
theorem d_X7_init_60 : DC mX7_init 60 (.iconst 2) 1 61 := ⟨by decide +kernel, rfl⟩
theorem d_X7_init_61 : DC mX7_init 61 (.invokestatic 25) 3 64 := ⟨by decide +kernel, rfl⟩
theorem d_X7_init_64 : DC mX7_init 64 (.return_) 1 65 := ⟨by decide +kernel, rfl⟩
theorem d_X4_init_0 : DC mX4_init 0 (.aload_n 0) 1 1 := ⟨by decide +kernel, rfl⟩
theorem d_X4_init_1 : DC mX4_init 1 (.invokespecial 3) 3 4 := ⟨by decide +kernel, rfl⟩
theorem d_X4_init_4 : DC mX4_init 4 (.aload_n 0) 1 5 := ⟨by decide +kernel, rfl⟩
theorem d_X4_init_5 : DC mX4_init 5 (.iconst 0) 1 6 := ⟨by decide +kernel, rfl⟩
theorem d_X4_init_6 : DC mX4_init 6 (.putfield 9) 3 9 := ⟨by decide +kernel, rfl⟩
theorem d_X4_init_9 : DC mX4_init 9 (.aload_n 0) 1 10 := ⟨by decide +kernel, rfl⟩
theorem d_X4_init_10 : DC mX4_init 10 (.bipush 10) 2 12 := ⟨by decide +kernel, rfl⟩
theorem d_X4_init_12 : DC mX4_init 12 (.anewarray 15) 3 15 := ⟨by decide +kernel, rfl⟩
theorem d_X4_init_15 : DC mX4_init 15 (.putfield 17) 3 18 := ⟨by decide +kernel, rfl⟩
theorem d_X4_init_18 : DC mX4_init 18 (.aload_n 0) 1 19 := ⟨by decide +kernel, rfl⟩
theorem d_X4_init_19 : DC mX4_init 19 (.iconst 0) 1 20 := ⟨by decide +kernel, rfl⟩
theorem d_X4_init_20 : DC mX4_init 20 (.putfield 21) 3 23 := ⟨by decide +kernel, rfl⟩
theorem d_X4_init_23 : DC mX4_init 23 (.iconst 0) 1 24 := ⟨by decide +kernel, rfl⟩
theorem d_X4_init_24 : DC mX4_init 24 (.istore_n 1) 1 25 := ⟨by decide +kernel, rfl⟩
theorem d_X4_init_25 : DC mX4_init 25 (.iload_n 1) 1 26 := ⟨by decide +kernel, rfl⟩
theorem d_X4_init_26 : DC mX4_init 26 (.bipush 10) 2 28 := ⟨by decide +kernel, rfl⟩
theorem d_X4_init_28 : DC mX4_init 28 (.if_icmp .ge 22) 3 31 := ⟨by decide +kernel, rfl⟩
theorem d_X4_init_31 : DC mX4_init 31 (.aload_n 0) 1 32 := ⟨by decide +kernel, rfl⟩
theorem d_X4_init_32 : DC mX4_init 32 (.getfield 17) 3 35 := ⟨by decide +kernel, rfl⟩
theorem d_X4_init_35 : DC mX4_init 35 (.iload_n 1) 1 36 := ⟨by decide +kernel, rfl⟩
theorem d_X4_init_36 : DC mX4_init 36 (.new 15) 3 39 := ⟨by decide +kernel, rfl⟩
theorem d_X4_init_39 : DC mX4_init 39 (.dup) 1 40 := ⟨by decide +kernel, rfl⟩
theorem d_X4_init_40 : DC mX4_init 40 (.invokespecial 24) 3 43 := ⟨by decide +kernel, rfl⟩
theorem d_X4_init_43 : DC mX4_init 43 (.aastore) 1 44 := ⟨by decide +kernel, rfl⟩
theorem d_X4_init_44 : DC mX4_init 44 (.iinc 1 1) 3 47 := ⟨by decide +kernel, rfl⟩
theorem d_X4_init_47 : DC mX4_init 47 (.goto (-22)) 3 50 := ⟨by decide +kernel, rfl⟩
theorem d_X4_init_50 : DC mX4_init 50 (.return_) 1 51 := ⟨by decide +kernel, rfl⟩
theorem d_X2_init_0 : DC mX2_init 0 (.aload_n 0) 1 1 := ⟨by decide +kernel, rfl⟩
theorem d_X2_init_1 : DC mX2_init 1 (.invokespecial 3) 3 4 := ⟨by decide +kernel, rfl⟩
theorem d_X2_init_4 : DC mX2_init 4 (.aload_n 0) 1 5 := ⟨by decide +kernel, rfl⟩
theorem d_X2_init_5 : DC mX2_init 5 (.bipush 100) 2 7 := ⟨by decide +kernel, rfl⟩
theorem d_X2_init_7 : DC mX2_init 7 (.anewarray 11) 3 10 := ⟨by decide +kernel, rfl⟩
theorem d_X2_init_10 : DC mX2_init 10 (.putfield 13) 3 13 := ⟨by decide +kernel, rfl⟩
theorem d_X2_init_13 : DC mX2_init 13 (.aload_n 0) 1 14 := ⟨by decide +kernel, rfl⟩
theorem d_X2_init_14 : DC mX2_init 14 (.bipush 9) 2 16 := ⟨by decide +kernel, rfl⟩
theorem d_X2_init_16 : DC mX2_init 16 (.newarray .int) 2 18 := ⟨by decide +kernel, rfl⟩
theorem d_X2_init_18 : DC mX2_init 18 (.putfield 17) 3 21 := ⟨by decide +kernel, rfl⟩
theorem d_X2_init_21 : DC mX2_init 21 (.aload_n 0) 1 22 := ⟨by decide +kernel, rfl⟩
theorem d_X2_init_22 : DC mX2_init 22 (.iconst 0) 1 23 := ⟨by decide +kernel, rfl⟩
theorem d_X2_init_23 : DC mX2_init 23 (.putfield 21) 3 26 := ⟨by decide +kernel, rfl⟩
theorem d_X2_init_26 : DC mX2_init 26 (.aload_n 0) 1 27 := ⟨by decide +kernel, rfl⟩
theorem d_X2_init_27 : DC mX2_init 27 (.bipush 90) 2 29 := ⟨by decide +kernel, rfl⟩
theorem d_X2_init_29 : DC mX2_init 29 (.putfield 25) 3 32 := ⟨by decide +kernel, rfl⟩
theorem d_X2_init_32 : DC mX2_init 32 (.aload_n 0) 1 33 := ⟨by decide +kernel, rfl⟩
theorem d_X2_init_33 : DC mX2_init 33 (.new 11) 3 36 := ⟨by decide +kernel, rfl⟩
theorem d_X2_init_36 : DC mX2_init 36 (.dup) 1 37 := ⟨by decide +kernel, rfl⟩
theorem d_X2_init_37 : DC mX2_init 37 (.invokespecial 28) 3 40 := ⟨by decide +kernel, rfl⟩
theorem d_X2_init_40 : DC mX2_init 40 (.putfield 29) 3 43 := ⟨by decide +kernel, rfl⟩
theorem d_X2_init_43 : DC mX2_init 43 (.aload_n 0) 1 44 := ⟨by decide +kernel, rfl⟩
theorem d_X2_init_44 : DC mX2_init 44 (.new 11) 3 47 := ⟨by decide +kernel, rfl⟩
theorem d_X2_init_47 : DC mX2_init 47 (.dup) 1 48 := ⟨by decide +kernel, rfl⟩
theorem d_X2_init_48 : DC mX2_init 48 (.invokespecial 28) 3 51 := ⟨by decide +kernel, rfl⟩
theorem d_X2_init_51 : DC mX2_init 51 (.putfield 33) 3 54 := ⟨by decide +kernel, rfl⟩
theorem d_X2_init_54 : DC mX2_init 54 (.aload_n 0) 1 55 := ⟨by decide +kernel, rfl⟩
theorem d_X2_init_55 : DC mX2_init 55 (.new 11) 3 58 := ⟨by decide +kernel, rfl⟩
theorem d_X2_init_58 : DC mX2_init 58 (.dup) 1 59 := ⟨by decide +kernel, rfl⟩
theorem d_X2_init_59 : DC mX2_init 59 (.invokespecial 28) 3 62 := ⟨by decide +kernel, rfl⟩
theorem d_X2_init_62 : DC mX2_init 62 (.putfield 36) 3 65 := ⟨by decide +kernel, rfl⟩
theorem d_X2_init_65 : DC mX2_init 65 (.aload_n 0) 1 66 := ⟨by decide +kernel, rfl⟩
theorem d_X2_init_66 : DC mX2_init 66 (.new 11) 3 69 := ⟨by decide +kernel, rfl⟩
theorem d_X2_init_69 : DC mX2_init 69 (.dup) 1 70 := ⟨by decide +kernel, rfl⟩
theorem d_X2_init_70 : DC mX2_init 70 (.invokespecial 28) 3 73 := ⟨by decide +kernel, rfl⟩
theorem d_X2_init_73 : DC mX2_init 73 (.putfield 39) 3 76 := ⟨by decide +kernel, rfl⟩
theorem d_X2_init_76 : DC mX2_init 76 (.aload_n 0) 1 77 := ⟨by decide +kernel, rfl⟩
theorem d_X2_init_77 : DC mX2_init 77 (.new 42) 3 80 := ⟨by decide +kernel, rfl⟩
theorem d_X2_init_80 : DC mX2_init 80 (.dup) 1 81 := ⟨by decide +kernel, rfl⟩
theorem d_X2_init_81 : DC mX2_init 81 (.invokespecial 44) 3 84 := ⟨by decide +kernel, rfl⟩
theorem d_X2_init_84 : DC mX2_init 84 (.putfield 45) 3 87 := ⟨by decide +kernel, rfl⟩
theorem d_X2_init_87 : DC mX2_init 87 (.iconst 0) 1 88 := ⟨by decide +kernel, rfl⟩
theorem d_X2_init_88 : DC mX2_init 88 (.istore_n 1) 1 89 := ⟨by decide +kernel, rfl⟩
theorem d_X2_init_89 : DC mX2_init 89 (.iload_n 1) 1 90 := ⟨by decide +kernel, rfl⟩
theorem d_X2_init_90 : DC mX2_init 90 (.aload_n 0) 1 91 := ⟨by decide +kernel, rfl⟩
theorem d_X2_init_91 : DC mX2_init 91 (.getfield 13) 3 94 := ⟨by decide +kernel, rfl⟩
theorem d_X2_init_94 : DC mX2_init 94 (.arraylength) 1 95 := ⟨by decide +kernel, rfl⟩
theorem d_X2_init_95 : DC mX2_init 95 (.if_icmp .ge 22) 3 98 := ⟨by decide +kernel, rfl⟩
theorem d_X2_init_98 : DC mX2_init 98 (.aload_n 0) 1 99 := ⟨by decide +kernel, rfl⟩
theorem d_X2_init_99 : DC mX2_init 99 (.getfield 13) 3 102 := ⟨by decide +kernel, rfl⟩
theorem d_X2_init_102 : DC mX2_init 102 (.iload_n 1) 1 103 := ⟨by decide +kernel, rfl⟩
theorem d_X2_init_103 : DC mX2_init 103 (.new 11) 3 106 := ⟨by decide +kernel, rfl⟩
theorem d_X2_init_106 : DC mX2_init 106 (.dup) 1 107 := ⟨by decide +kernel, rfl⟩
theorem d_X2_init_107 : DC mX2_init 107 (.invokespecial 28) 3 110 := ⟨by decide +kernel, rfl⟩
theorem d_X2_init_110 : DC mX2_init 110 (.aastore) 1 111 := ⟨by decide +kernel, rfl⟩
theorem d_X2_init_111 : DC mX2_init 111 (.iinc 1 1) 3 114 := ⟨by decide +kernel, rfl⟩
theorem d_X2_init_114 : DC mX2_init 114 (.goto (-25)) 3 117 := ⟨by decide +kernel, rfl⟩
theorem d_X2_init_117 : DC mX2_init 117 (.iconst 0) 1 118 := ⟨by decide +kernel, rfl⟩
theorem d_X2_init_118 : DC mX2_init 118 (.istore_n 1) 1 119 := ⟨by decide +kernel, rfl⟩
theorem d_X2_init_119 : DC mX2_init 119 (.iload_n 1) 1 120 := ⟨by decide +kernel, rfl⟩
theorem d_X2_init_120 : DC mX2_init 120 (.bipush 9) 2 122 := ⟨by decide +kernel, rfl⟩
theorem d_X2_init_122 : DC mX2_init 122 (.if_icmp .ge 19) 3 125 := ⟨by decide +kernel, rfl⟩
theorem d_X2_init_125 : DC mX2_init 125 (.aload_n 0) 1 126 := ⟨by decide +kernel, rfl⟩
theorem d_X2_init_126 : DC mX2_init 126 (.getfield 17) 3 129 := ⟨by decide +kernel, rfl⟩
theorem d_X2_init_129 : DC mX2_init 129 (.iload_n 1) 1 130 := ⟨by decide +kernel, rfl⟩
theorem d_X2_init_130 : DC mX2_init 130 (.bipush 10) 2 132 := ⟨by decide +kernel, rfl⟩
theorem d_X2_init_132 : DC mX2_init 132 (.iload_n 1) 1 133 := ⟨by decide +kernel, rfl⟩
theorem d_X2_init_133 : DC mX2_init 133 (.imul) 1 134 := ⟨by decide +kernel, rfl⟩
theorem d_X2_init_134 : DC mX2_init 134 (.iastore) 1 135 := ⟨by decide +kernel, rfl⟩
theorem d_X2_init_135 : DC mX2_init 135 (.iinc 1 1) 3 138 := ⟨by decide +kernel, rfl⟩
theorem d_X2_init_138 : DC mX2_init 138 (.goto (-19)) 3 141 := ⟨by decide +kernel, rfl⟩
theorem d_X2_init_141 : DC mX2_init 141 (.return_) 1 142 := ⟨by decide +kernel, rfl⟩
theorem d_X3_init_0 : DC mX3_init 0 (.aload_n 0) 1 1 := ⟨by decide +kernel, rfl⟩
theorem d_X3_init_1 : DC mX3_init 1 (.invokespecial 3) 3 4 := ⟨by decide +kernel, rfl⟩
theorem d_X3_init_4 : DC mX3_init 4 (.aload_n 0) 1 5 := ⟨by decide +kernel, rfl⟩
theorem d_X3_init_5 : DC mX3_init 5 (.bipush 10) 2 7 := ⟨by decide +kernel, rfl⟩
theorem d_X3_init_7 : DC mX3_init 7 (.newarray .int) 2 9 := ⟨by decide +kernel, rfl⟩
theorem d_X3_init_9 : DC mX3_init 9 (.putfield 9) 3 12 := ⟨by decide +kernel, rfl⟩
theorem d_X3_init_12 : DC mX3_init 12 (.aload_n 0) 1 13 := ⟨by decide +kernel, rfl⟩
theorem d_X3_init_13 : DC mX3_init 13 (.bipush 12) 2 15 := ⟨by decide +kernel, rfl⟩
theorem d_X3_init_15 : DC mX3_init 15 (.newarray .int) 2 17 := ⟨by decide +kernel, rfl⟩
theorem d_X3_init_17 : DC mX3_init 17 (.putfield 15) 3 20 := ⟨by decide +kernel, rfl⟩
theorem d_X3_init_20 : DC mX3_init 20 (.aload_n 0) 1 21 := ⟨by decide +kernel, rfl⟩
theorem d_X3_init_21 : DC mX3_init 21 (.iconst 0) 1 22 := ⟨by decide +kernel, rfl⟩
theorem d_X3_init_22 : DC mX3_init 22 (.putfield 18) 3 25 := ⟨by decide +kernel, rfl⟩
theorem d_X3_init_25 : DC mX3_init 25 (.aload_n 0) 1 26 := ⟨by decide +kernel, rfl⟩
theorem d_X3_init_26 : DC mX3_init 26 (.ldc 22) 2 28 := ⟨by decide +kernel, rfl⟩
theorem d_X3_init_28 : DC mX3_init 28 (.putfield 23) 3 31 := ⟨by decide +kernel, rfl⟩
theorem d_X3_init_31 : DC mX3_init 31 (.aload_n 0) 1 32 := ⟨by decide +kernel, rfl⟩
theorem d_X3_init_32 : DC mX3_init 32 (.iconst 0) 1 33 := ⟨by decide +kernel, rfl⟩
theorem d_X3_init_33 : DC mX3_init 33 (.putfield 26) 3 36 := ⟨by decide +kernel, rfl⟩
theorem d_X3_init_36 : DC mX3_init 36 (.return_) 1 37 := ⟨by decide +kernel, rfl⟩
theorem d_X0_init_0 : DC mX0_init 0 (.aload_n 0) 1 1 := ⟨by decide +kernel, rfl⟩
theorem d_X0_init_1 : DC mX0_init 1 (.invokespecial 3) 3 4 := ⟨by decide +kernel, rfl⟩
theorem d_X0_init_4 : DC mX0_init 4 (.aload_n 0) 1 5 := ⟨by decide +kernel, rfl⟩
theorem d_X0_init_5 : DC mX0_init 5 (.sipush 480) 3 8 := ⟨by decide +kernel, rfl⟩
theorem d_X0_init_8 : DC mX0_init 8 (.newarray .long) 2 10 := ⟨by decide +kernel, rfl⟩
theorem d_X0_init_10 : DC mX0_init 10 (.putfield 11) 3 13 := ⟨by decide +kernel, rfl⟩
theorem d_X0_init_13 : DC mX0_init 13 (.aload_n 0) 1 14 := ⟨by decide +kernel, rfl⟩
theorem d_X0_init_14 : DC mX0_init 14 (.bipush 6) 2 16 := ⟨by decide +kernel, rfl⟩
theorem d_X0_init_16 : DC mX0_init 16 (.sipush 480) 3 19 := ⟨by decide +kernel, rfl⟩
theorem d_X0_init_19 : DC mX0_init 19 (.multianewarray 15 2) 4 23 := ⟨by decide +kernel, rfl⟩
theorem d_X0_init_23 : DC mX0_init 23 (.putfield 17) 3 26 := ⟨by decide +kernel, rfl⟩
theorem d_X0_init_26 : DC mX0_init 26 (.aload_n 0) 1 27 := ⟨by decide +kernel, rfl⟩
theorem d_X0_init_27 : DC mX0_init 27 (.iconst 0) 1 28 := ⟨by decide +kernel, rfl⟩
theorem d_X0_init_28 : DC mX0_init 28 (.putfield 20) 3 31 := ⟨by decide +kernel, rfl⟩
theorem d_X0_init_31 : DC mX0_init 31 (.aload_n 0) 1 32 := ⟨by decide +kernel, rfl⟩
theorem d_X0_init_32 : DC mX0_init 32 (.iconst 0) 1 33 := ⟨by decide +kernel, rfl⟩
theorem d_X0_init_33 : DC mX0_init 33 (.putfield 24) 3 36 := ⟨by decide +kernel, rfl⟩
theorem d_X0_init_36 : DC mX0_init 36 (.return_) 1 37 := ⟨by decide +kernel, rfl⟩
theorem d_X1_init_0 : DC mX1_init 0 (.aload_n 0) 1 1 := ⟨by decide +kernel, rfl⟩
theorem d_X1_init_1 : DC mX1_init 1 (.invokespecial 3) 3 4 := ⟨by decide +kernel, rfl⟩
theorem d_X1_init_4 : DC mX1_init 4 (.aload_n 0) 1 5 := ⟨by decide +kernel, rfl⟩
theorem d_X1_init_5 : DC mX1_init 5 (.iconst 0) 1 6 := ⟨by decide +kernel, rfl⟩
theorem d_X1_init_6 : DC mX1_init 6 (.putfield 9) 3 9 := ⟨by decide +kernel, rfl⟩
theorem d_X1_init_9 : DC mX1_init 9 (.aload_n 0) 1 10 := ⟨by decide +kernel, rfl⟩
theorem d_X1_init_10 : DC mX1_init 10 (.bipush 6) 2 12 := ⟨by decide +kernel, rfl⟩
theorem d_X1_init_12 : DC mX1_init 12 (.newarray .int) 2 14 := ⟨by decide +kernel, rfl⟩
theorem d_X1_init_14 : DC mX1_init 14 (.putfield 15) 3 17 := ⟨by decide +kernel, rfl⟩
theorem d_X1_init_17 : DC mX1_init 17 (.aload_n 0) 1 18 := ⟨by decide +kernel, rfl⟩
theorem d_X1_init_18 : DC mX1_init 18 (.bipush 6) 2 20 := ⟨by decide +kernel, rfl⟩
theorem d_X1_init_20 : DC mX1_init 20 (.newarray .int) 2 22 := ⟨by decide +kernel, rfl⟩
theorem d_X1_init_22 : DC mX1_init 22 (.putfield 19) 3 25 := ⟨by decide +kernel, rfl⟩
theorem d_X1_init_25 : DC mX1_init 25 (.aload_n 0) 1 26 := ⟨by decide +kernel, rfl⟩
theorem d_X1_init_26 : DC mX1_init 26 (.iconst 5) 1 27 := ⟨by decide +kernel, rfl⟩
theorem d_X1_init_27 : DC mX1_init 27 (.newarray .long) 2 29 := ⟨by decide +kernel, rfl⟩
theorem d_X1_init_29 : DC mX1_init 29 (.putfield 22) 3 32 := ⟨by decide +kernel, rfl⟩
theorem d_X1_init_32 : DC mX1_init 32 (.aload_n 0) 1 33 := ⟨by decide +kernel, rfl⟩
theorem d_X1_init_33 : DC mX1_init 33 (.sipush 160) 3 36 := ⟨by decide +kernel, rfl⟩
theorem d_X1_init_36 : DC mX1_init 36 (.newarray .int) 2 38 := ⟨by decide +kernel, rfl⟩
theorem d_X1_init_38 : DC mX1_init 38 (.putfield 26) 3 41 := ⟨by decide +kernel, rfl⟩
theorem d_X1_init_41 : DC mX1_init 41 (.aload_n 0) 1 42 := ⟨by decide +kernel, rfl⟩
theorem d_X1_init_42 : DC mX1_init 42 (.iconst 5) 1 43 := ⟨by decide +kernel, rfl⟩
theorem d_X1_init_43 : DC mX1_init 43 (.newarray .int) 2 45 := ⟨by decide +kernel, rfl⟩
theorem d_X1_init_45 : DC mX1_init 45 (.putfield 29) 3 48 := ⟨by decide +kernel, rfl⟩
theorem d_X1_init_48 : DC mX1_init 48 (.iconst 0) 1 49 := ⟨by decide +kernel, rfl⟩
theorem d_X1_init_49 : DC mX1_init 49 (.istore_n 1) 1 50 := ⟨by decide +kernel, rfl⟩
theorem d_X1_init_50 : DC mX1_init 50 (.iconst 0) 1 51 := ⟨by decide +kernel, rfl⟩
theorem d_X1_init_51 : DC mX1_init 51 (.istore_n 2) 1 52 := ⟨by decide +kernel, rfl⟩
theorem d_X1_init_52 : DC mX1_init 52 (.iload_n 2) 1 53 := ⟨by decide +kernel, rfl⟩
theorem d_X1_init_53 : DC mX1_init 53 (.bipush 32) 2 55 := ⟨by decide +kernel, rfl⟩
theorem d_X1_init_55 : DC mX1_init 55 (.if_icmp .ge 42) 3 58 := ⟨by decide +kernel, rfl⟩
theorem d_X1_init_58 : DC mX1_init 58 (.iload_n 2) 1 59 := ⟨by decide +kernel, rfl⟩
theorem d_X1_init_59 : DC mX1_init 59 (.invokestatic 32) 3 62 := ⟨by decide +kernel, rfl⟩
theorem d_X1_init_62 : DC mX1_init 62 (.lstore_n 3) 1 63 := ⟨by decide +kernel, rfl⟩
theorem d_X1_init_63 : DC mX1_init 63 (.lload_n 3) 1 64 := ⟨by decide +kernel, rfl⟩
theorem d_X1_init_64 : DC mX1_init 64 (.lconst 0) 1 65 := ⟨by decide +kernel, rfl⟩
theorem d_X1_init_65 : DC mX1_init 65 (.lcmp) 1 66 := ⟨by decide +kernel, rfl⟩
theorem d_X1_init_66 : DC mX1_init 66 (.ifCond .eq 25) 3 69 := ⟨by decide +kernel, rfl⟩
theorem d_X1_init_69 : DC mX1_init 69 (.lload_n 3) 1 70 := ⟨by decide +kernel, rfl⟩
theorem d_X1_init_70 : DC mX1_init 70 (.invokestatic 36) 3 73 := ⟨by decide +kernel, rfl⟩
theorem d_X1_init_73 : DC mX1_init 73 (.ifCond .ne 18) 3 76 := ⟨by decide +kernel, rfl⟩
theorem d_X1_init_76 : DC mX1_init 76 (.iload_n 1) 1 77 := ⟨by decide +kernel, rfl⟩
theorem d_X1_init_77 : DC mX1_init 77 (.iconst 5) 1 78 := ⟨by decide +kernel, rfl⟩
theorem d_X1_init_78 : DC mX1_init 78 (.if_icmp .ge 13) 3 81 := ⟨by decide +kernel, rfl⟩
theorem d_X1_init_81 : DC mX1_init 81 (.aload_n 0) 1 82 := ⟨by decide +kernel, rfl⟩
theorem d_X1_init_82 : DC mX1_init 82 (.getfield 22) 3 85 := ⟨by decide +kernel, rfl⟩
theorem d_X1_init_85 : DC mX1_init 85 (.iload_n 1) 1 86 := ⟨by decide +kernel, rfl⟩
theorem d_X1_init_86 : DC mX1_init 86 (.lload_n 3) 1 87 := ⟨by decide +kernel, rfl⟩
theorem d_X1_init_87 : DC mX1_init 87 (.lastore) 1 88 := ⟨by decide +kernel, rfl⟩
theorem d_X1_init_88 : DC mX1_init 88 (.iinc 1 1) 3 91 := ⟨by decide +kernel, rfl⟩
theorem d_X1_init_91 : DC mX1_init 91 (.iinc 2 1) 3 94 := ⟨by decide +kernel, rfl⟩
theorem d_X1_init_94 : DC mX1_init 94 (.goto (-42)) 3 97 := ⟨by decide +kernel, rfl⟩
theorem d_X1_init_97 : DC mX1_init 97 (.new 42) 3 100 := ⟨by decide +kernel, rfl⟩
theorem d_X1_init_100 : DC mX1_init 100 (.dup) 1 101 := ⟨by decide +kernel, rfl⟩
theorem d_X1_init_101 : DC mX1_init 101 (.invokespecial 44) 3 104 := ⟨by decide +kernel, rfl⟩
theorem d_X1_init_104 : DC mX1_init 104 (.astore_n 2) 1 105 := ⟨by decide +kernel, rfl⟩
theorem d_X1_init_105 : DC mX1_init 105 (.new 42) 3 108 := ⟨by decide +kernel, rfl⟩
theorem d_X1_init_108 : DC mX1_init 108 (.dup) 1 109 := ⟨by decide +kernel, rfl⟩
theorem d_X1_init_109 : DC mX1_init 109 (.invokespecial 44) 3 112 := ⟨by decide +kernel, rfl⟩
theorem d_X1_init_112 : DC mX1_init 112 (.astore_n 3) 1 113 := ⟨by decide +kernel, rfl⟩
theorem d_X1_init_113 : DC mX1_init 113 (.new 45) 3 116 := ⟨by decide +kernel, rfl⟩
theorem d_X1_init_116 : DC mX1_init 116 (.dup) 1 117 := ⟨by decide +kernel, rfl⟩
theorem d_X1_init_117 : DC mX1_init 117 (.invokespecial 47) 3 120 := ⟨by decide +kernel, rfl⟩
theorem d_X1_init_120 : DC mX1_init 120 (.astore 4) 2 122 := ⟨by decide +kernel, rfl⟩
theorem d_X1_init_122 : DC mX1_init 122 (.iconst 0) 1 123 := ⟨by decide +kernel, rfl⟩
theorem d_X1_init_123 : DC mX1_init 123 (.istore 5) 2 125 := ⟨by decide +kernel, rfl⟩
theorem d_X1_init_125 : DC mX1_init 125 (.iload 5) 2 127 := ⟨by decide +kernel, rfl⟩
theorem d_X1_init_127 : DC mX1_init 127 (.bipush 32) 2 129 := ⟨by decide +kernel, rfl⟩
theorem d_X1_init_129 : DC mX1_init 129 (.if_icmp .ge 88) 3 132 := ⟨by decide +kernel, rfl⟩
theorem d_X1_init_132 : DC mX1_init 132 (.aload_n 2) 1 133 := ⟨by decide +kernel, rfl⟩
theorem d_X1_init_133 : DC mX1_init 133 (.invokevirtual 48) 3 136 := ⟨by decide +kernel, rfl⟩
theorem d_X1_init_136 : DC mX1_init 136 (.aload_n 2) 1 137 := ⟨by decide +kernel, rfl⟩
theorem d_X1_init_137 : DC mX1_init 137 (.iload 5) 2 139 := ⟨by decide +kernel, rfl⟩
theorem d_X1_init_139 : DC mX1_init 139 (.invokestatic 32) 3 142 := ⟨by decide +kernel, rfl⟩
theorem d_X1_init_142 : DC mX1_init 142 (.lconst 1) 1 143 := ⟨by decide +kernel, rfl⟩
theorem d_X1_init_143 : DC mX1_init 143 (.invokevirtual 51) 3 146 := ⟨by decide +kernel, rfl⟩
theorem d_X1_init_146 : DC mX1_init 146 (.pop) 1 147 := ⟨by decide +kernel, rfl⟩
theorem d_X1_init_147 : DC mX1_init 147 (.aload 4) 2 149 := ⟨by decide +kernel, rfl⟩
theorem d_X1_init_149 : DC mX1_init 149 (.aload_n 2) 1 150 := ⟨by decide +kernel, rfl⟩
theorem d_X1_init_150 : DC mX1_init 150 (.aload_n 3) 1 151 := ⟨by decide +kernel, rfl⟩
theorem d_X1_init_151 : DC mX1_init 151 (.invokevirtual 55) 3 154 := ⟨by decide +kernel, rfl⟩
theorem d_X1_init_154 : DC mX1_init 154 (.pop) 1 155 := ⟨by decide +kernel, rfl⟩
theorem d_X1_init_155 : DC mX1_init 155 (.iconst 0) 1 156 := ⟨by decide +kernel, rfl⟩
theorem d_X1_init_156 : DC mX1_init 156 (.istore 6) 2 158 := ⟨by decide +kernel, rfl⟩
theorem d_X1_init_158 : DC mX1_init 158 (.iload 6) 2 160 := ⟨by decide +kernel, rfl⟩
theorem d_X1_init_160 : DC mX1_init 160 (.aload_n 3) 1 161 := ⟨by decide +kernel, rfl⟩
theorem d_X1_init_161 : DC mX1_init 161 (.getfield 59) 3 164 := ⟨by decide +kernel, rfl⟩
theorem d_X1_init_164 : DC mX1_init 164 (.if_icmp .ge 47) 3 167 := ⟨by decide +kernel, rfl⟩
theorem d_X1_init_167 : DC mX1_init 167 (.aload_n 0) 1 168 := ⟨by decide +kernel, rfl⟩
theorem d_X1_init_168 : DC mX1_init 168 (.aload_n 3) 1 169 := ⟨by decide +kernel, rfl⟩
theorem d_X1_init_169 : DC mX1_init 169 (.getfield 62) 3 172 := ⟨by decide +kernel, rfl⟩
theorem d_X1_init_172 : DC mX1_init 172 (.iload 6) 2 174 := ⟨by decide +kernel, rfl⟩
theorem d_X1_init_174 : DC mX1_init 174 (.laload) 1 175 := ⟨by decide +kernel, rfl⟩
theorem d_X1_init_175 : DC mX1_init 175 (.invokevirtual 65) 3 178 := ⟨by decide +kernel, rfl⟩
theorem d_X1_init_178 : DC mX1_init 178 (.istore 7) 2 180 := ⟨by decide +kernel, rfl⟩
theorem d_X1_init_180 : DC mX1_init 180 (.iload 7) 2 182 := ⟨by decide +kernel, rfl⟩
theorem d_X1_init_182 : DC mX1_init 182 (.iconst (-1)) 1 183 := ⟨by decide +kernel, rfl⟩
theorem d_X1_init_183 : DC mX1_init 183 (.if_icmp .eq 22) 3 186 := ⟨by decide +kernel, rfl⟩
theorem d_X1_init_186 : DC mX1_init 186 (.aload_n 0) 1 187 := ⟨by decide +kernel, rfl⟩
theorem d_X1_init_187 : DC mX1_init 187 (.getfield 26) 3 190 := ⟨by decide +kernel, rfl⟩
theorem d_X1_init_190 : DC mX1_init 190 (.iconst 5) 1 191 := ⟨by decide +kernel, rfl⟩
theorem d_X1_init_191 : DC mX1_init 191 (.iload 5) 2 193 := ⟨by decide +kernel, rfl⟩
theorem d_X1_init_193 : DC mX1_init 193 (.imul) 1 194 := ⟨by decide +kernel, rfl⟩
theorem d_X1_init_194 : DC mX1_init 194 (.iload 7) 2 196 := ⟨by decide +kernel, rfl⟩
theorem d_X1_init_196 : DC mX1_init 196 (.iadd) 1 197 := ⟨by decide +kernel, rfl⟩
theorem d_X1_init_197 : DC mX1_init 197 (.aload_n 3) 1 198 := ⟨by decide +kernel, rfl⟩
theorem d_X1_init_198 : DC mX1_init 198 (.getfield 68) 3 201 := ⟨by decide +kernel, rfl⟩
theorem d_X1_init_201 : DC mX1_init 201 (.iload 6) 2 203 := ⟨by decide +kernel, rfl⟩
theorem d_X1_init_203 : DC mX1_init 203 (.iaload) 1 204 := ⟨by decide +kernel, rfl⟩
theorem d_X1_init_204 : DC mX1_init 204 (.iastore) 1 205 := ⟨by decide +kernel, rfl⟩
theorem d_X1_init_205 : DC mX1_init 205 (.iinc 6 1) 3 208 := ⟨by decide +kernel, rfl⟩
theorem d_X1_init_208 : DC mX1_init 208 (.goto (-50)) 3 211 := ⟨by decide +kernel, rfl⟩
theorem d_X1_init_211 : DC mX1_init 211 (.iinc 5 1) 3 214 := ⟨by decide +kernel, rfl⟩
theorem d_X1_init_214 : DC mX1_init 214 (.goto (-89)) 3 217 := ⟨by decide +kernel, rfl⟩
theorem d_X1_init_217 : DC mX1_init 217 (.return_) 1 218 := ⟨by decide +kernel, rfl⟩
theorem d_X11_init_0 : DC mX11_init 0 (.aload_n 0) 1 1 := ⟨by decide +kernel, rfl⟩
theorem d_X11_init_1 : DC mX11_init 1 (.invokespecial 1) 3 4 := ⟨by decide +kernel, rfl⟩
theorem d_X11_init_4 : DC mX11_init 4 (.aload_n 0) 1 5 := ⟨by decide +kernel, rfl⟩
theorem d_X11_init_5 : DC mX11_init 5 (.new 7) 3 8 := ⟨by decide +kernel, rfl⟩
theorem d_X11_init_8 : DC mX11_init 8 (.dup) 1 9 := ⟨by decide +kernel, rfl⟩
theorem d_X11_init_9 : DC mX11_init 9 (.invokespecial 9) 3 12 := ⟨by decide +kernel, rfl⟩
theorem d_X11_init_12 : DC mX11_init 12 (.putfield 10) 3 15 := ⟨by decide +kernel, rfl⟩
theorem d_X11_init_15 : DC mX11_init 15 (.aload_n 0) 1 16 := ⟨by decide +kernel, rfl⟩
theorem d_X11_init_16 : DC mX11_init 16 (.new 16) 3 19 := ⟨by decide +kernel, rfl⟩
theorem d_X11_init_19 : DC mX11_init 19 (.dup) 1 20 := ⟨by decide +kernel, rfl⟩
theorem d_X11_init_20 : DC mX11_init 20 (.invokespecial 18) 3 23 := ⟨by decide +kernel, rfl⟩
theorem d_X11_init_23 : DC mX11_init 23 (.putfield 19) 3 26 := ⟨by decide +kernel, rfl⟩
theorem d_X11_init_26 : DC mX11_init 26 (.aload_n 0) 1 27 := ⟨by decide +kernel, rfl⟩
theorem d_X11_init_27 : DC mX11_init 27 (.iconst 2) 1 28 := ⟨by decide +kernel, rfl⟩
theorem d_X11_init_28 : DC mX11_init 28 (.anewarray 7) 3 31 := ⟨by decide +kernel, rfl⟩
theorem d_X11_init_31 : DC mX11_init 31 (.putfield 23) 3 34 := ⟨by decide +kernel, rfl⟩
theorem d_X11_init_34 : DC mX11_init 34 (.aload_n 0) 1 35 := ⟨by decide +kernel, rfl⟩
theorem d_X11_init_35 : DC mX11_init 35 (.iconst 2) 1 36 := ⟨by decide +kernel, rfl⟩
theorem d_X11_init_36 : DC mX11_init 36 (.newarray .boolean) 2 38 := ⟨by decide +kernel, rfl⟩
theorem d_X11_init_38 : DC mX11_init 38 (.putfield 27) 3 41 := ⟨by decide +kernel, rfl⟩
theorem d_X11_init_41 : DC mX11_init 41 (.aload_n 0) 1 42 := ⟨by decide +kernel, rfl⟩
theorem d_X11_init_42 : DC mX11_init 42 (.new 31) 3 45 := ⟨by decide +kernel, rfl⟩
theorem d_X11_init_45 : DC mX11_init 45 (.dup) 1 46 := ⟨by decide +kernel, rfl⟩
theorem d_X11_init_46 : DC mX11_init 46 (.invokespecial 33) 3 49 := ⟨by decide +kernel, rfl⟩
theorem d_X11_init_49 : DC mX11_init 49 (.putfield 34) 3 52 := ⟨by decide +kernel, rfl⟩
theorem d_X11_init_52 : DC mX11_init 52 (.aload_n 0) 1 53 := ⟨by decide +kernel, rfl⟩
theorem d_X11_init_53 : DC mX11_init 53 (.new 38) 3 56 := ⟨by decide +kernel, rfl⟩
theorem d_X11_init_56 : DC mX11_init 56 (.dup) 1 57 := ⟨by decide +kernel, rfl⟩
theorem d_X11_init_57 : DC mX11_init 57 (.invokespecial 40) 3 60 := ⟨by decide +kernel, rfl⟩
theorem d_X11_init_60 : DC mX11_init 60 (.putfield 41) 3 63 := ⟨by decide +kernel, rfl⟩
theorem d_X11_init_63 : DC mX11_init 63 (.aload_n 0) 1 64 := ⟨by decide +kernel, rfl⟩
theorem d_X11_init_64 : DC mX11_init 64 (.new 45) 3 67 := ⟨by decide +kernel, rfl⟩
theorem d_X11_init_67 : DC mX11_init 67 (.dup) 1 68 := ⟨by decide +kernel, rfl⟩
theorem d_X11_init_68 : DC mX11_init 68 (.invokespecial 47) 3 71 := ⟨by decide +kernel, rfl⟩
theorem d_X11_init_71 : DC mX11_init 71 (.putfield 48) 3 74 := ⟨by decide +kernel, rfl⟩
theorem d_X11_init_74 : DC mX11_init 74 (.aload_n 0) 1 75 := ⟨by decide +kernel, rfl⟩
theorem d_X11_init_75 : DC mX11_init 75 (.new 52) 3 78 := ⟨by decide +kernel, rfl⟩
theorem d_X11_init_78 : DC mX11_init 78 (.dup) 1 79 := ⟨by decide +kernel, rfl⟩
theorem d_X11_init_79 : DC mX11_init 79 (.invokespecial 54) 3 82 := ⟨by decide +kernel, rfl⟩
theorem d_X11_init_82 : DC mX11_init 82 (.putfield 55) 3 85 := ⟨by decide +kernel, rfl⟩
theorem d_X11_init_85 : DC mX11_init 85 (.aload_n 0) 1 86 := ⟨by decide +kernel, rfl⟩
theorem d_X11_init_86 : DC mX11_init 86 (.new 59) 3 89 := ⟨by decide +kernel, rfl⟩
theorem d_X11_init_89 : DC mX11_init 89 (.dup) 1 90 := ⟨by decide +kernel, rfl⟩
theorem d_X11_init_90 : DC mX11_init 90 (.invokespecial 61) 3 93 := ⟨by decide +kernel, rfl⟩
theorem d_X11_init_93 : DC mX11_init 93 (.putfield 62) 3 96 := ⟨by decide +kernel, rfl⟩
theorem d_X11_init_96 : DC mX11_init 96 (.aload_n 0) 1 97 := ⟨by decide +kernel, rfl⟩
theorem d_X11_init_97 : DC mX11_init 97 (.new 66) 3 100 := ⟨by decide +kernel, rfl⟩
theorem d_X11_init_100 : DC mX11_init 100 (.dup) 1 101 := ⟨by decide +kernel, rfl⟩
theorem d_X11_init_101 : DC mX11_init 101 (.invokespecial 68) 3 104 := ⟨by decide +kernel, rfl⟩
theorem d_X11_init_104 : DC mX11_init 104 (.putfield 69) 3 107 := ⟨by decide +kernel, rfl⟩
theorem d_X11_init_107 : DC mX11_init 107 (.aload_n 0) 1 108 := ⟨by decide +kernel, rfl⟩
theorem d_X11_init_108 : DC mX11_init 108 (.new 73) 3 111 := ⟨by decide +kernel, rfl⟩
theorem d_X11_init_111 : DC mX11_init 111 (.dup) 1 112 := ⟨by decide +kernel, rfl⟩
theorem d_X11_init_112 : DC mX11_init 112 (.invokespecial 75) 3 115 := ⟨by decide +kernel, rfl⟩
theorem d_X11_init_115 : DC mX11_init 115 (.putfield 76) 3 118 := ⟨by decide +kernel, rfl⟩
theorem d_X11_init_118 : DC mX11_init 118 (.aload_n 0) 1 119 := ⟨by decide +kernel, rfl⟩
theorem d_X11_init_119 : DC mX11_init 119 (.new 80) 3 122 := ⟨by decide +kernel, rfl⟩
theorem d_X11_init_122 : DC mX11_init 122 (.dup) 1 123 := ⟨by decide +kernel, rfl⟩
theorem d_X11_init_123 : DC mX11_init 123 (.invokespecial 82) 3 126 := ⟨by decide +kernel, rfl⟩
theorem d_X11_init_126 : DC mX11_init 126 (.putfield 83) 3 129 := ⟨by decide +kernel, rfl⟩
theorem d_X11_init_129 : DC mX11_init 129 (.aload_n 0) 1 130 := ⟨by decide +kernel, rfl⟩
theorem d_X11_init_130 : DC mX11_init 130 (.new 80) 3 133 := ⟨by decide +kernel, rfl⟩
theorem d_X11_init_133 : DC mX11_init 133 (.dup) 1 134 := ⟨by decide +kernel, rfl⟩
theorem d_X11_init_134 : DC mX11_init 134 (.invokespecial 82) 3 137 := ⟨by decide +kernel, rfl⟩
theorem d_X11_init_137 : DC mX11_init 137 (.putfield 87) 3 140 := ⟨by decide +kernel, rfl⟩
theorem d_X11_init_140 : DC mX11_init 140 (.aload_n 0) 1 141 := ⟨by decide +kernel, rfl⟩
theorem d_X11_init_141 : DC mX11_init 141 (.iconst 0) 1 142 := ⟨by decide +kernel, rfl⟩
theorem d_X11_init_142 : DC mX11_init 142 (.putfield 90) 3 145 := ⟨by decide +kernel, rfl⟩
theorem d_X11_init_145 : DC mX11_init 145 (.iconst 0) 1 146 := ⟨by decide +kernel, rfl⟩
theorem d_X11_init_146 : DC mX11_init 146 (.istore_n 1) 1 147 := ⟨by decide +kernel, rfl⟩
theorem d_X11_init_147 : DC mX11_init 147 (.iload_n 1) 1 148 := ⟨by decide +kernel, rfl⟩
theorem d_X11_init_148 : DC mX11_init 148 (.iconst 2) 1 149 := ⟨by decide +kernel, rfl⟩
theorem d_X11_init_149 : DC mX11_init 149 (.if_icmp .ge 22) 3 152 := ⟨by decide +kernel, rfl⟩
theorem d_X11_init_152 : DC mX11_init 152 (.aload_n 0) 1 153 := ⟨by decide +kernel, rfl⟩
theorem d_X11_init_153 : DC mX11_init 153 (.getfield 23) 3 156 := ⟨by decide +kernel, rfl⟩
theorem d_X11_init_156 : DC mX11_init 156 (.iload_n 1) 1 157 := ⟨by decide +kernel, rfl⟩
theorem d_X11_init_157 : DC mX11_init 157 (.new 7) 3 160 := ⟨by decide +kernel, rfl⟩
theorem d_X11_init_160 : DC mX11_init 160 (.dup) 1 161 := ⟨by decide +kernel, rfl⟩
theorem d_X11_init_161 : DC mX11_init 161 (.invokespecial 9) 3 164 := ⟨by decide +kernel, rfl⟩
theorem d_X11_init_164 : DC mX11_init 164 (.aastore) 1 165 := ⟨by decide +kernel, rfl⟩
theorem d_X11_init_165 : DC mX11_init 165 (.iinc 1 1) 3 168 := ⟨by decide +kernel, rfl⟩
theorem d_X11_init_168 : DC mX11_init 168 (.goto (-21)) 3 171 := ⟨by decide +kernel, rfl⟩
theorem d_X11_init_171 : DC mX11_init 171 (.return_) 1 172 := ⟨by decide +kernel, rfl⟩
theorem d_X12_init_0 : DC mX12_init 0 (.aload_n 0) 1 1 := ⟨by decide +kernel, rfl⟩
theorem d_X12_init_1 : DC mX12_init 1 (.invokespecial 7) 3 4 := ⟨by decide +kernel, rfl⟩
theorem d_X12_init_4 : DC mX12_init 4 (.aload_n 0) 1 5 := ⟨by decide +kernel, rfl⟩
theorem d_X12_init_5 : DC mX12_init 5 (.sipush 1000) 3 8 := ⟨by decide +kernel, rfl⟩
theorem d_X12_init_8 : DC mX12_init 8 (.newarray .int) 2 10 := ⟨by decide +kernel, rfl⟩
theorem d_X12_init_10 : DC mX12_init 10 (.putfield 13) 3 13 := ⟨by decide +kernel, rfl⟩
theorem d_X12_init_13 : DC mX12_init 13 (.aload_n 0) 1 14 := ⟨by decide +kernel, rfl⟩
theorem d_X12_init_14 : DC mX12_init 14 (.sipush 363) 3 17 := ⟨by decide +kernel, rfl⟩
theorem d_X12_init_17 : DC mX12_init 17 (.newarray .int) 2 19 := ⟨by decide +kernel, rfl⟩
theorem d_X12_init_19 : DC mX12_init 19 (.putfield 17) 3 22 := ⟨by decide +kernel, rfl⟩
theorem d_X12_init_22 : DC mX12_init 22 (.aload_n 0) 1 23 := ⟨by decide +kernel, rfl⟩
theorem d_X12_init_23 : DC mX12_init 23 (.sipush 3348) 3 26 := ⟨by decide +kernel, rfl⟩
theorem d_X12_init_26 : DC mX12_init 26 (.newarray .int) 2 28 := ⟨by decide +kernel, rfl⟩
theorem d_X12_init_28 : DC mX12_init 28 (.putfield 20) 3 31 := ⟨by decide +kernel, rfl⟩
theorem d_X12_init_31 : DC mX12_init 31 (.aload_n 0) 1 32 := ⟨by decide +kernel, rfl⟩
theorem d_X12_init_32 : DC mX12_init 32 (.sipush 11160) 3 35 := ⟨by decide +kernel, rfl⟩
theorem d_X12_init_35 : DC mX12_init 35 (.newarray .int) 2 37 := ⟨by decide +kernel, rfl⟩
theorem d_X12_init_37 : DC mX12_init 37 (.putfield 23) 3 40 := ⟨by decide +kernel, rfl⟩
theorem d_X12_init_40 : DC mX12_init 40 (.aload_n 0) 1 41 := ⟨by decide +kernel, rfl⟩
theorem d_X12_init_41 : DC mX12_init 41 (.iconst 2) 1 42 := ⟨by decide +kernel, rfl⟩
theorem d_X12_init_42 : DC mX12_init 42 (.newarray .boolean) 2 44 := ⟨by decide +kernel, rfl⟩
theorem d_X12_init_44 : DC mX12_init 44 (.putfield 26) 3 47 := ⟨by decide +kernel, rfl⟩
theorem d_X12_init_47 : DC mX12_init 47 (.aload_n 0) 1 48 := ⟨by decide +kernel, rfl⟩
theorem d_X12_init_48 : DC mX12_init 48 (.sipush 31556) 3 51 := ⟨by decide +kernel, rfl⟩
theorem d_X12_init_51 : DC mX12_init 51 (.newarray .int) 2 53 := ⟨by decide +kernel, rfl⟩
theorem d_X12_init_53 : DC mX12_init 53 (.putfield 30) 3 56 := ⟨by decide +kernel, rfl⟩
theorem d_X12_init_56 : DC mX12_init 56 (.aload_n 0) 1 57 := ⟨by decide +kernel, rfl⟩
theorem d_X12_init_57 : DC mX12_init 57 (.bipush 9) 2 59 := ⟨by decide +kernel, rfl⟩
theorem d_X12_init_59 : DC mX12_init 59 (.newarray .int) 2 61 := ⟨by decide +kernel, rfl⟩
theorem d_X12_init_61 : DC mX12_init 61 (.putfield 33) 3 64 := ⟨by decide +kernel, rfl⟩
theorem d_X12_init_64 : DC mX12_init 64 (.aload_n 0) 1 65 := ⟨by decide +kernel, rfl⟩
theorem d_X12_init_65 : DC mX12_init 65 (.iconst 3) 1 66 := ⟨by decide +kernel, rfl⟩
theorem d_X12_init_66 : DC mX12_init 66 (.newarray .int) 2 68 := ⟨by decide +kernel, rfl⟩
theorem d_X12_init_68 : DC mX12_init 68 (.putfield 36) 3 71 := ⟨by decide +kernel, rfl⟩
theorem d_X12_init_71 : DC mX12_init 71 (.aload_n 0) 1 72 := ⟨by decide +kernel, rfl⟩
theorem d_X12_init_72 : DC mX12_init 72 (.iconst 3) 1 73 := ⟨by decide +kernel, rfl⟩
theorem d_X12_init_73 : DC mX12_init 73 (.newarray .int) 2 75 := ⟨by decide +kernel, rfl⟩
theorem d_X12_init_75 : DC mX12_init 75 (.putfield 39) 3 78 := ⟨by decide +kernel, rfl⟩
theorem d_X12_init_78 : DC mX12_init 78 (.aload_n 0) 1 79 := ⟨by decide +kernel, rfl⟩
theorem d_X12_init_79 : DC mX12_init 79 (.iconst 4) 1 80 := ⟨by decide +kernel, rfl⟩
theorem d_X12_init_80 : DC mX12_init 80 (.newarray .int) 2 82 := ⟨by decide +kernel, rfl⟩
theorem d_X12_init_82 : DC mX12_init 82 (.putfield 42) 3 85 := ⟨by decide +kernel, rfl⟩
theorem d_X12_init_85 : DC mX12_init 85 (.aload_n 0) 1 86 := ⟨by decide +kernel, rfl⟩
theorem d_X12_init_86 : DC mX12_init 86 (.bipush 6) 2 88 := ⟨by decide +kernel, rfl⟩
theorem d_X12_init_88 : DC mX12_init 88 (.newarray .int) 2 90 := ⟨by decide +kernel, rfl⟩
theorem d_X12_init_90 : DC mX12_init 90 (.putfield 45) 3 93 := ⟨by decide +kernel, rfl⟩
theorem d_X12_init_93 : DC mX12_init 93 (.aload_n 0) 1 94 := ⟨by decide +kernel, rfl⟩
theorem d_X12_init_94 : DC mX12_init 94 (.bipush 6) 2 96 := ⟨by decide +kernel, rfl⟩
theorem d_X12_init_96 : DC mX12_init 96 (.newarray .int) 2 98 := ⟨by decide +kernel, rfl⟩
theorem d_X12_init_98 : DC mX12_init 98 (.putfield 48) 3 101 := ⟨by decide +kernel, rfl⟩
theorem d_X12_init_101 : DC mX12_init 101 (.aload_n 0) 1 102 := ⟨by decide +kernel, rfl⟩
theorem d_X12_init_102 : DC mX12_init 102 (.iconst 4) 1 103 := ⟨by decide +kernel, rfl⟩
theorem d_X12_init_103 : DC mX12_init 103 (.newarray .int) 2 105 := ⟨by decide +kernel, rfl⟩
theorem d_X12_init_105 : DC mX12_init 105 (.putfield 51) 3 108 := ⟨by decide +kernel, rfl⟩
theorem d_X12_init_108 : DC mX12_init 108 (.aload_n 0) 1 109 := ⟨by decide +kernel, rfl⟩
theorem d_X12_init_109 : DC mX12_init 109 (.bipush 10) 2 111 := ⟨by decide +kernel, rfl⟩
theorem d_X12_init_111 : DC mX12_init 111 (.newarray .int) 2 113 := ⟨by decide +kernel, rfl⟩
theorem d_X12_init_113 : DC mX12_init 113 (.putfield 54) 3 116 := ⟨by decide +kernel, rfl⟩
theorem d_X12_init_116 : DC mX12_init 116 (.aload_n 0) 1 117 := ⟨by decide +kernel, rfl⟩
theorem d_X12_init_117 : DC mX12_init 117 (.sipush 300) 3 120 := ⟨by decide +kernel, rfl⟩
theorem d_X12_init_120 : DC mX12_init 120 (.newarray .byte) 2 122 := ⟨by decide +kernel, rfl⟩
theorem d_X12_init_122 : DC mX12_init 122 (.putfield 57) 3 125 := ⟨by decide +kernel, rfl⟩
theorem d_X12_init_125 : DC mX12_init 125 (.aload_n 0) 1 126 := ⟨by decide +kernel, rfl⟩
theorem d_X12_init_126 : DC mX12_init 126 (.iconst (-1)) 1 127 := ⟨by decide +kernel, rfl⟩
theorem d_X12_init_127 : DC mX12_init 127 (.putfield 61) 3 130 := ⟨by decide +kernel, rfl⟩
theorem d_X12_init_130 : DC mX12_init 130 (.aload_n 0) 1 131 := ⟨by decide +kernel, rfl⟩
theorem d_X12_init_131 : DC mX12_init 131 (.bipush 10) 2 133 := ⟨by decide +kernel, rfl⟩
theorem d_X12_init_133 : DC mX12_init 133 (.newarray .int) 2 135 := ⟨by decide +kernel, rfl⟩
theorem d_X12_init_135 : DC mX12_init 135 (.putfield 64) 3 138 := ⟨by decide +kernel, rfl⟩
theorem d_X12_init_138 : DC mX12_init 138 (.aload_n 0) 1 139 := ⟨by decide +kernel, rfl⟩
theorem d_X12_init_139 : DC mX12_init 139 (.iconst 4) 1 140 := ⟨by decide +kernel, rfl⟩
theorem d_X12_init_140 : DC mX12_init 140 (.newarray .int) 2 142 := ⟨by decide +kernel, rfl⟩
theorem d_X12_init_142 : DC mX12_init 142 (.putfield 67) 3 145 := ⟨by decide +kernel, rfl⟩
theorem d_X12_init_145 : DC mX12_init 145 (.aload_n 0) 1 146 := ⟨by decide +kernel, rfl⟩
theorem d_X12_init_146 : DC mX12_init 146 (.sipush 480) 3 149 := ⟨by decide +kernel, rfl⟩
theorem d_X12_init_149 : DC mX12_init 149 (.newarray .int) 2 151 := ⟨by decide +kernel, rfl⟩
theorem d_X12_init_151 : DC mX12_init 151 (.putfield 70) 3 154 := ⟨by decide +kernel, rfl⟩
theorem d_X12_init_154 : DC mX12_init 154 (.aload_n 0) 1 155 := ⟨by decide +kernel, rfl⟩
theorem d_X12_init_155 : DC mX12_init 155 (.sipush 2880) 3 158 := ⟨by decide +kernel, rfl⟩
theorem d_X12_init_158 : DC mX12_init 158 (.newarray .long) 2 160 := ⟨by decide +kernel, rfl⟩
theorem d_X12_init_160 : DC mX12_init 160 (.putfield 73) 3 163 := ⟨by decide +kernel, rfl⟩
theorem d_X12_init_163 : DC mX12_init 163 (.aload_n 0) 1 164 := ⟨by decide +kernel, rfl⟩
theorem d_X12_init_164 : DC mX12_init 164 (.bipush 6) 2 166 := ⟨by decide +kernel, rfl⟩
theorem d_X12_init_166 : DC mX12_init 166 (.newarray .int) 2 168 := ⟨by decide +kernel, rfl⟩
theorem d_X12_init_168 : DC mX12_init 168 (.putfield 77) 3 171 := ⟨by decide +kernel, rfl⟩
theorem d_X12_init_171 : DC mX12_init 171 (.aload_n 0) 1 172 := ⟨by decide +kernel, rfl⟩
theorem d_X12_init_172 : DC mX12_init 172 (.bipush 6) 2 174 := ⟨by decide +kernel, rfl⟩
theorem d_X12_init_174 : DC mX12_init 174 (.newarray .int) 2 176 := ⟨by decide +kernel, rfl⟩
theorem d_X12_init_176 : DC mX12_init 176 (.putfield 80) 3 179 := ⟨by decide +kernel, rfl⟩
theorem d_X12_init_179 : DC mX12_init 179 (.aload_n 0) 1 180 := ⟨by decide +kernel, rfl⟩
theorem d_X12_init_180 : DC mX12_init 180 (.bipush 7) 2 182 := ⟨by decide +kernel, rfl⟩
theorem d_X12_init_182 : DC mX12_init 182 (.newarray .int) 2 184 := ⟨by decide +kernel, rfl⟩
theorem d_X12_init_184 : DC mX12_init 184 (.putfield 83) 3 187 := ⟨by decide +kernel, rfl⟩
theorem d_X12_init_187 : DC mX12_init 187 (.iconst 0) 1 188 := ⟨by decide +kernel, rfl⟩
theorem d_X12_init_188 : DC mX12_init 188 (.istore_n 1) 1 189 := ⟨by decide +kernel, rfl⟩
theorem d_X12_init_189 : DC mX12_init 189 (.iconst 0) 1 190 := ⟨by decide +kernel, rfl⟩
theorem d_X12_init_190 : DC mX12_init 190 (.istore_n 2) 1 191 := ⟨by decide +kernel, rfl⟩
theorem d_X12_init_191 : DC mX12_init 191 (.iload_n 2) 1 192 := ⟨by decide +kernel, rfl⟩
theorem d_X12_init_192 : DC mX12_init 192 (.bipush 10) 2 194 := ⟨by decide +kernel, rfl⟩
theorem d_X12_init_194 : DC mX12_init 194 (.if_icmp .ge 105) 3 197 := ⟨by decide +kernel, rfl⟩
theorem d_X12_init_197 : DC mX12_init 197 (.iload_n 2) 1 198 := ⟨by decide +kernel, rfl⟩
theorem d_X12_init_198 : DC mX12_init 198 (.iconst 1) 1 199 := ⟨by decide +kernel, rfl⟩
theorem d_X12_init_199 : DC mX12_init 199 (.iadd) 1 200 := ⟨by decide +kernel, rfl⟩
theorem d_X12_init_200 : DC mX12_init 200 (.istore_n 3) 1 201 := ⟨by decide +kernel, rfl⟩
theorem d_X12_init_201 : DC mX12_init 201 (.iload_n 3) 1 202 := ⟨by decide +kernel, rfl⟩
theorem d_X12_init_202 : DC mX12_init 202 (.bipush 10) 2 204 := ⟨by decide +kernel, rfl⟩
theorem d_X12_init_204 : DC mX12_init 204 (.if_icmp .ge 89) 3 207 := ⟨by decide +kernel, rfl⟩
theorem d_X12_init_207 : DC mX12_init 207 (.iload_n 3) 1 208 := ⟨by decide +kernel, rfl⟩
theorem d_X12_init_208 : DC mX12_init 208 (.iconst 1) 1 209 := ⟨by decide +kernel, rfl⟩
theorem d_X12_init_209 : DC mX12_init 209 (.iadd) 1 210 := ⟨by decide +kernel, rfl⟩
theorem d_X12_init_210 : DC mX12_init 210 (.istore 4) 2 212 := ⟨by decide +kernel, rfl⟩
theorem d_X12_init_212 : DC mX12_init 212 (.iload 4) 2 214 := ⟨by decide +kernel, rfl⟩
theorem d_X12_init_214 : DC mX12_init 214 (.bipush 10) 2 216 := ⟨by decide +kernel, rfl⟩
theorem d_X12_init_216 : DC mX12_init 216 (.if_icmp .ge 71) 3 219 := ⟨by decide +kernel, rfl⟩
theorem d_X12_init_219 : DC mX12_init 219 (.iinc 1 1) 3 222 := ⟨by decide +kernel, rfl⟩
theorem d_X12_init_222 : DC mX12_init 222 (.aload_n 0) 1 223 := ⟨by decide +kernel, rfl⟩
theorem d_X12_init_223 : DC mX12_init 223 (.getfield 17) 3 226 := ⟨by decide +kernel, rfl⟩
theorem d_X12_init_226 : DC mX12_init 226 (.iconst 3) 1 227 := ⟨by decide +kernel, rfl⟩
theorem d_X12_init_227 : DC mX12_init 227 (.iload_n 1) 1 228 := ⟨by decide +kernel, rfl⟩
theorem d_X12_init_228 : DC mX12_init 228 (.imul) 1 229 := ⟨by decide +kernel, rfl⟩
theorem d_X12_init_229 : DC mX12_init 229 (.iload_n 2) 1 230 := ⟨by decide +kernel, rfl⟩
theorem d_X12_init_230 : DC mX12_init 230 (.iastore) 1 231 := ⟨by decide +kernel, rfl⟩
theorem d_X12_init_231 : DC mX12_init 231 (.aload_n 0) 1 232 := ⟨by decide +kernel, rfl⟩
theorem d_X12_init_232 : DC mX12_init 232 (.getfield 17) 3 235 := ⟨by decide +kernel, rfl⟩
theorem d_X12_init_235 : DC mX12_init 235 (.iconst 3) 1 236 := ⟨by decide +kernel, rfl⟩
theorem d_X12_init_236 : DC mX12_init 236 (.iload_n 1) 1 237 := ⟨by decide +kernel, rfl⟩
theorem d_X12_init_237 : DC mX12_init 237 (.imul) 1 238 := ⟨by decide +kernel, rfl⟩
theorem d_X12_init_238 : DC mX12_init 238 (.iconst 1) 1 239 := ⟨by decide +kernel, rfl⟩
theorem d_X12_init_239 : DC mX12_init 239 (.iadd) 1 240 := ⟨by decide +kernel, rfl⟩
theorem d_X12_init_240 : DC mX12_init 240 (.iload_n 3) 1 241 := ⟨by decide +kernel, rfl⟩
theorem d_X12_init_241 : DC mX12_init 241 (.iastore) 1 242 := ⟨by decide +kernel, rfl⟩
theorem d_X12_init_242 : DC mX12_init 242 (.aload_n 0) 1 243 := ⟨by decide +kernel, rfl⟩
theorem d_X12_init_243 : DC mX12_init 243 (.getfield 17) 3 246 := ⟨by decide +kernel, rfl⟩
theorem d_X12_init_246 : DC mX12_init 246 (.iconst 3) 1 247 := ⟨by decide +kernel, rfl⟩
theorem d_X12_init_247 : DC mX12_init 247 (.iload_n 1) 1 248 := ⟨by decide +kernel, rfl⟩
theorem d_X12_init_248 : DC mX12_init 248 (.imul) 1 249 := ⟨by decide +kernel, rfl⟩
theorem d_X12_init_249 : DC mX12_init 249 (.iconst 2) 1 250 := ⟨by decide +kernel, rfl⟩
theorem d_X12_init_250 : DC mX12_init 250 (.iadd) 1 251 := ⟨by decide +kernel, rfl⟩
theorem d_X12_init_251 : DC mX12_init 251 (.iload 4) 2 253 := ⟨by decide +kernel, rfl⟩
theorem d_X12_init_253 : DC mX12_init 253 (.iastore) 1 254 := ⟨by decide +kernel, rfl⟩
theorem d_X12_init_254 : DC mX12_init 254 (.aload_n 0) 1 255 := ⟨by decide +kernel, rfl⟩
theorem d_X12_init_255 : DC mX12_init 255 (.iload_n 2) 1 256 := ⟨by decide +kernel, rfl⟩
theorem d_X12_init_256 : DC mX12_init 256 (.iload_n 3) 1 257 := ⟨by decide +kernel, rfl⟩
theorem d_X12_init_257 : DC mX12_init 257 (.iload 4) 2 259 := ⟨by decide +kernel, rfl⟩
theorem d_X12_init_259 : DC mX12_init 259 (.iload_n 1) 1 260 := ⟨by decide +kernel, rfl⟩
theorem d_X12_init_260 : DC mX12_init 260 (.invokevirtual 86) 3 263 := ⟨by decide +kernel, rfl⟩
theorem d_X12_init_263 : DC mX12_init 263 (.aload_n 0) 1 264 := ⟨by decide +kernel, rfl⟩
theorem d_X12_init_264 : DC mX12_init 264 (.iload_n 3) 1 265 := ⟨by decide +kernel, rfl⟩
theorem d_X12_init_265 : DC mX12_init 265 (.iload 4) 2 267 := ⟨by decide +kernel, rfl⟩
theorem d_X12_init_267 : DC mX12_init 267 (.iload_n 2) 1 268 := ⟨by decide +kernel, rfl⟩
theorem d_X12_init_268 : DC mX12_init 268 (.iload_n 1) 1 269 := ⟨by decide +kernel, rfl⟩
theorem d_X12_init_269 : DC mX12_init 269 (.invokevirtual 86) 3 272 := ⟨by decide +kernel, rfl⟩
theorem d_X12_init_272 : DC mX12_init 272 (.aload_n 0) 1 273 := ⟨by decide +kernel, rfl⟩
theorem d_X12_init_273 : DC mX12_init 273 (.iload 4) 2 275 := ⟨by decide +kernel, rfl⟩
theorem d_X12_init_275 : DC mX12_init 275 (.iload_n 2) 1 276 := ⟨by decide +kernel, rfl⟩
theorem d_X12_init_276 : DC mX12_init 276 (.iload_n 3) 1 277 := ⟨by decide +kernel, rfl⟩
theorem d_X12_init_277 : DC mX12_init 277 (.iload_n 1) 1 278 := ⟨by decide +kernel, rfl⟩
theorem d_X12_init_278 : DC mX12_init 278 (.invokevirtual 86) 3 281 := ⟨by decide +kernel, rfl⟩
theorem d_X12_init_281 : DC mX12_init 281 (.iinc 4 1) 3 284 := ⟨by decide +kernel, rfl⟩
theorem d_X12_init_284 : DC mX12_init 284 (.goto (-72)) 3 287 := ⟨by decide +kernel, rfl⟩
theorem d_X12_init_287 : DC mX12_init 287 (.iinc 3 1) 3 290 := ⟨by decide +kernel, rfl⟩
theorem d_X12_init_290 : DC mX12_init 290 (.goto (-89)) 3 293 := ⟨by decide +kernel, rfl⟩
theorem d_X12_init_293 : DC mX12_init 293 (.iinc 2 1) 3 296 := ⟨by decide +kernel, rfl⟩
theorem d_X12_init_296 : DC mX12_init 296 (.goto (-105)) 3 299 := ⟨by decide +kernel, rfl⟩
theorem d_X12_init_299 : DC mX12_init 299 (.iconst 0) 1 300 := ⟨by decide +kernel, rfl⟩
theorem d_X12_init_300 : DC mX12_init 300 (.istore_n 2) 1 301 := ⟨by decide +kernel, rfl⟩
theorem d_X12_init_301 : DC mX12_init 301 (.iload_n 2) 1 302 := ⟨by decide +kernel, rfl⟩
theorem d_X12_init_302 : DC mX12_init 302 (.bipush 120) 2 304 := ⟨by decide +kernel, rfl⟩
theorem d_X12_init_304 : DC mX12_init 304 (.if_icmp .ge 20) 3 307 := ⟨by decide +kernel, rfl⟩
theorem d_X12_init_307 : DC mX12_init 307 (.aload_n 0) 1 308 := ⟨by decide +kernel, rfl⟩
theorem d_X12_init_308 : DC mX12_init 308 (.getfield 20) 3 311 := ⟨by decide +kernel, rfl⟩
theorem d_X12_init_311 : DC mX12_init 311 (.sipush 996) 3 314 := ⟨by decide +kernel, rfl⟩
theorem d_X12_init_314 : DC mX12_init 314 (.iload_n 2) 1 315 := ⟨by decide +kernel, rfl⟩
theorem d_X12_init_315 : DC mX12_init 315 (.iadd) 1 316 := ⟨by decide +kernel, rfl⟩
theorem d_X12_init_316 : DC mX12_init 316 (.iconst 2) 1 317 := ⟨by decide +kernel, rfl⟩
theorem d_X12_init_317 : DC mX12_init 317 (.iastore) 1 318 := ⟨by decide +kernel, rfl⟩
theorem d_X12_init_318 : DC mX12_init 318 (.iinc 2 1) 3 321 := ⟨by decide +kernel, rfl⟩
theorem d_X12_init_321 : DC mX12_init 321 (.goto (-20)) 3 324 := ⟨by decide +kernel, rfl⟩
theorem d_X12_init_324 : DC mX12_init 324 (.return_) 1 325 := ⟨by decide +kernel, rfl⟩
theorem v_X5_init_0 {l : Launch} {d mc ms N : Nat} {Λ : Lay} {P : Nat → Lay → Mem → Prop} {σ : Mem} {t : Int} (o_t : Ob N Λ t 15 3) (h0d : 1 ≤ d)
    (h : ((0 + 1 ≤ mc ∧ 0 + 80 ≤ ms) ∧ ∀ a1 : Int, a1 = ((N : Nat) : Int) → ∀ Λ2, Λ2 = newL Λ N 1 80 → ∀ σ3, σ3 = newM σ N → (∀ Λ4, Λ4 = stR Λ2 t 0 a1 → (((0 + 1) + 1 ≤ mc ∧ (0 + 80) + 80 ≤ ms) ∧ ∀ a5 : Int, a5 = (((N + 1) : Nat) : Int) → ∀ Λ6, Λ6 = newL Λ4 (N + 1) 0 80 → ∀ σ7, σ7 = newM σ3 (N + 1) → (∀ Λ8, Λ8 = stR Λ6 t 1 a5 → (∀ τ9, τ9 = st σ7 t 2 0 → ((((0 + 1) + 1) ≤ mc ∧ ((0 + 80) + 80) ≤ ms) ∧ P ((N + 1) + 1) Λ8 τ9))))))) :
    WC l mX5_init d mc ms P 0 0 0 [(2, t)] [] N Λ σ := by
  refine r_aload_n (x := t) d_X5_init_0 rfl o_t.1 ?_
  refine y_obj d_X5_init_1 ml_X5_3 o_t.1 h0d (Nat.le_of_ble_eq_true rfl) ?_
  refine r_aload_n (x := t) d_X5_init_4 rfl o_t.1 ?_
  refine r_bipush (x := 80) d_X5_init_5 ⟨by decide, by decide⟩ (by decide) ?_
  refine y_newa (t := 1) (ln := 80) d_X5_init_7 rfl (by decide) ac_long rfl (by decide) (by decide) h.1 (fun a1 ea1 Λ2 eΛ2 σ3 eσ3 => ?_)
  have h := h.2 a1 ea1 Λ2 eΛ2 σ3 eσ3
  have o_t := Ob_new eΛ2 o_t
  have o_a1 := Ob_newS eΛ2 ea1
  refine r_putR (j := 0) d_X5_init_9 rfl kX5 (by decide) fl_X5_9 rfl rfl o_t.1 o_t.2.1 o_a1.1 o_t.2.2.1 o_t.2.2.2 rfl ⟨rfl, fun _ => ⟨rfl, rfl⟩⟩ ?_
  refine y_nmL (fun Λ4 eΛ4 => ?_)
  have h := h Λ4 eΛ4
  have o_t := Ob_stR eΛ4 o_t
  have o_a1 := Ob_stR eΛ4 o_a1
  refine r_aload_n (x := t) d_X5_init_12 rfl o_t.1 ?_
  refine r_bipush (x := 80) d_X5_init_13 ⟨by decide, by decide⟩ (by decide) ?_
  refine y_newa (t := 0) (ln := 80) d_X5_init_15 rfl (by decide) ac_int rfl (by decide) (by decide) h.1 (fun a5 ea5 Λ6 eΛ6 σ7 eσ7 => ?_)
  have h := h.2 a5 ea5 Λ6 eΛ6 σ7 eσ7
  have o_t := Ob_new eΛ6 o_t
  have o_a1 := Ob_new eΛ6 o_a1
  have o_a5 := Ob_newS eΛ6 ea5
  refine r_putR (j := 1) d_X5_init_17 rfl kX5 (by decide) fl_X5_15 rfl rfl o_t.1 o_t.2.1 o_a5.1 o_t.2.2.1 o_t.2.2.2 rfl ⟨rfl, fun _ => ⟨rfl, rfl⟩⟩ ?_
  refine y_nmL (fun Λ8 eΛ8 => ?_)
  have h := h Λ8 eΛ8
  have o_t := Ob_stR eΛ8 o_t
  have o_a1 := Ob_stR eΛ8 o_a1
  have o_a5 := Ob_stR eΛ8 o_a5
  refine r_aload_n (x := t) d_X5_init_20 rfl o_t.1 ?_
  refine r_iconst (x := 0) d_X5_init_21 ⟨by decide, by decide⟩ ?_
  refine r_putI (j := 2) d_X5_init_22 kX5 (by decide) fl_X5_19 rfl o_t.1 o_t.2.1 o_t.2.2.1 o_t.2.2.2 rfl ?_
  refine r_nmM (fun τ9 eτ9 => ?_)
  have h := h τ9 eτ9
  exact y_vret d_X5_init_25 rfl h.1 h.2
theorem v_X10_init_0 {l : Launch} {d mc ms N : Nat} {Λ : Lay} {P : Nat → Lay → Mem → Prop} {σ : Mem} {t : Int} (o_t : Ob N Λ t 19 2) (h0d : 1 ≤ d)
    (h : (∀ τ1, τ1 = st σ t 0 0 → (∀ τ2, τ2 = st τ1 t 1 1 → ((0 ≤ mc ∧ 0 ≤ ms) ∧ P N Λ τ2)))) :
    WC l mX10_init d mc ms P 0 0 0 [(2, t)] [] N Λ σ := by
  refine r_aload_n (x := t) d_X10_init_0 rfl o_t.1 ?_
  refine y_obj d_X10_init_1 ml_X10_1 o_t.1 h0d (Nat.le_of_ble_eq_true rfl) ?_
  refine r_aload_n (x := t) d_X10_init_4 rfl o_t.1 ?_
  refine r_lconst d_X10_init_5 ?_
  refine r_putL (j := 0) d_X10_init_6 kX10 (by decide) fl_X10_7 rfl o_t.1 o_t.2.1 o_t.2.2.1 o_t.2.2.2 rfl ?_
  refine r_nmM (fun τ1 eτ1 => ?_)
  have h := h τ1 eτ1
  refine r_aload_n (x := t) d_X10_init_9 rfl o_t.1 ?_
  refine r_iconst (x := 1) d_X10_init_10 ⟨by decide, by decide⟩ ?_
  refine r_putI (j := 1) d_X10_init_11 kX10 (by decide) fl_X10_13 rfl o_t.1 o_t.2.1 o_t.2.2.1 o_t.2.2.2 rfl ?_
  refine r_nmM (fun τ2 eτ2 => ?_)
  have h := h τ2 eτ2
  exact y_vret d_X10_init_14 rfl h.1 h.2
theorem v_X8_init_0 {l : Launch} {d mc ms N : Nat} {Λ : Lay} {P : Nat → Lay → Mem → Prop} {σ : Mem} {t : Int} (o_t : Ob N Λ t 17 2) (h0d : 1 ≤ d)
    (h : (∀ τ1, τ1 = st σ t 0 0 → ((0 + 1 ≤ mc ∧ 0 + 2 ≤ ms) ∧ ∀ a2 : Int, a2 = ((N : Nat) : Int) → ∀ Λ3, Λ3 = newL Λ N 19 2 → ∀ σ4, σ4 = newM τ1 N → (((0 + 1) + 0 ≤ mc ∧ (0 + 2) + 0 ≤ ms) ∧ CC l mX10_init (d - 1) 0 0 [(2, a2)] (N + 1) Λ3 σ4 (fun N5 Λ6 σ7 => (Ob N5 Λ6 t 17 2 ∧ Ob N5 Λ6 a2 19 2 ∧ (∀ Λ8, Λ8 = stR Λ6 t 1 a2 → ((((0 + 1) + 0) ≤ mc ∧ ((0 + 2) + 0) ≤ ms) ∧ P N5 Λ8 σ7)))))))) :
    WC l mX8_init d mc ms P 0 0 0 [(2, t)] [] N Λ σ := by
  refine r_aload_n (x := t) d_X8_init_0 rfl o_t.1 ?_
  refine y_obj d_X8_init_1 ml_X8_3 o_t.1 h0d (Nat.le_of_ble_eq_true rfl) ?_
  refine r_aload_n (x := t) d_X8_init_4 rfl o_t.1 ?_
  refine r_iconst (x := 0) d_X8_init_5 ⟨by decide, by decide⟩ ?_
  refine r_putI (j := 0) d_X8_init_6 kX8 (by decide) fl_X8_9 rfl o_t.1 o_t.2.1 o_t.2.2.1 o_t.2.2.2 rfl ?_
  refine r_nmM (fun τ1 eτ1 => ?_)
  have h := h τ1 eτ1
  refine r_aload_n (x := t) d_X8_init_9 rfl o_t.1 ?_
  refine y_new (ci := 9) (nf := 2) d_X8_init_10 kX10 cl_X8_15 nw_X10 (by decide) h.1 (fun a2 ea2 Λ3 eΛ3 σ4 eσ4 => ?_)
  have h := h.2 a2 ea2 Λ3 eΛ3 σ4 eσ4
  have o_t := Ob_new eΛ3 o_t
  have o_a2 := Ob_newS eΛ3 ea2
  refine r_dup d_X8_init_13 rfl ?_
  refine y_init (Y2 := mX10_init) (mc2 := 0) (ms2 := 0) (c := a2) (As := []) (S := [(2, a2), (2, t)]) d_X8_init_14 ok_mX10_init rfl ml_X8_17 rfl (Nat.le_of_ble_eq_true rfl) (Nat.le_of_ble_eq_true rfl) rfl o_a2.1 h0d h.1 (CC.mono h.2 (fun N5 Λ6 σ7 h => ?_))
  have o_t := h.1
  have h := h.2
  have o_a2 := h.1
  have h := h.2
  refine r_putR (j := 1) d_X8_init_17 rfl kX8 (by decide) fl_X8_18 rfl rfl o_t.1 o_t.2.1 o_a2.1 o_t.2.2.1 o_t.2.2.2 rfl ⟨rfl, fun _ => ⟨rfl, rfl⟩⟩ ?_
  refine y_nmL (fun Λ8 eΛ8 => ?_)
  have h := h Λ8 eΛ8
  have o_t := Ob_stR eΛ8 o_t
  have o_a2 := Ob_stR eΛ8 o_a2
  exact y_vret d_X8_init_20 rfl h.1 h.2
theorem v_X9_init_0 {l : Launch} {d mc ms N : Nat} {Λ : Lay} {P : Nat → Lay → Mem → Prop} {σ : Mem} {t : Int} (o_t : Ob N Λ t 18 6) (h0d : 1 ≤ d)
    (h : ((0 + 1 ≤ mc ∧ 0 + 300 ≤ ms) ∧ ∀ a1 : Int, a1 = ((N : Nat) : Int) → ∀ Λ2, Λ2 = newL Λ N 0 300 → ∀ σ3, σ3 = newM σ N → (∀ Λ4, Λ4 = stR Λ2 t 0 a1 → (∀ τ5, τ5 = st σ3 t 1 0 → (∀ τ6, τ6 = st τ5 t 2 0 → (∀ τ7, τ7 = st τ6 t 3 (-1) → (((0 + 1) + 1 ≤ mc ∧ (0 + 300) + 3 ≤ ms) ∧ ∀ a8 : Int, a8 = (((N + 1) : Nat) : Int) → ∀ Λ9, Λ9 = newL Λ4 (N + 1) 0 3 → ∀ σ10, σ10 = newM τ7 (N + 1) → (∀ Λ11, Λ11 = stR Λ9 t 4 a8 → ((((0 + 1) + 1) + 1 ≤ mc ∧ ((0 + 300) + 3) + 2 ≤ ms) ∧ ∀ a12 : Int, a12 = ((((N + 1) + 1) : Nat) : Int) → ∀ Λ13, Λ13 = newL Λ11 ((N + 1) + 1) 19 2 → ∀ σ14, σ14 = newM σ10 ((N + 1) + 1) → (((((0 + 1) + 1) + 1) + 0 ≤ mc ∧ (((0 + 300) + 3) + 2) + 0 ≤ ms) ∧ CC l mX10_init (d - 1) 0 0 [(2, a12)] (((N + 1) + 1) + 1) Λ13 σ14 (fun N15 Λ16 σ17 => (Ob N15 Λ16 t 18 6 ∧ Ob N15 Λ16 a1 0 300 ∧ Ob N15 Λ16 a8 0 3 ∧ Ob N15 Λ16 a12 19 2 ∧ (∀ Λ18, Λ18 = stR Λ16 t 5 a12 → ((((((0 + 1) + 1) + 1) + 0) ≤ mc ∧ ((((0 + 300) + 3) + 2) + 0) ≤ ms) ∧ P N15 Λ18 σ17)))))))))))))) :
    WC l mX9_init d mc ms P 0 0 0 [(2, t)] [] N Λ σ := by
  refine r_aload_n (x := t) d_X9_init_0 rfl o_t.1 ?_
  refine y_obj d_X9_init_1 ml_X9_3 o_t.1 h0d (Nat.le_of_ble_eq_true rfl) ?_
  refine r_aload_n (x := t) d_X9_init_4 rfl o_t.1 ?_
  refine r_sipush (x := 300) d_X9_init_5 ⟨by decide, by decide⟩ (by decide) ?_
  refine y_newa (t := 0) (ln := 300) d_X9_init_8 rfl (by decide) ac_int rfl (by decide) (by decide) h.1 (fun a1 ea1 Λ2 eΛ2 σ3 eσ3 => ?_)
  have h := h.2 a1 ea1 Λ2 eΛ2 σ3 eσ3
  have o_t := Ob_new eΛ2 o_t
  have o_a1 := Ob_newS eΛ2 ea1
  refine r_putR (j := 0) d_X9_init_10 rfl kX9 (by decide) fl_X9_9 rfl rfl o_t.1 o_t.2.1 o_a1.1 o_t.2.2.1 o_t.2.2.2 rfl ⟨rfl, fun _ => ⟨rfl, rfl⟩⟩ ?_
  refine y_nmL (fun Λ4 eΛ4 => ?_)
  have h := h Λ4 eΛ4
  have o_t := Ob_stR eΛ4 o_t
  have o_a1 := Ob_stR eΛ4 o_a1
  refine r_aload_n (x := t) d_X9_init_13 rfl o_t.1 ?_
  refine r_iconst (x := 0) d_X9_init_14 ⟨by decide, by decide⟩ ?_
  refine r_putI (j := 1) d_X9_init_15 kX9 (by decide) fl_X9_15 rfl o_t.1 o_t.2.1 o_t.2.2.1 o_t.2.2.2 rfl ?_
  refine r_nmM (fun τ5 eτ5 => ?_)
  have h := h τ5 eτ5
  refine r_aload_n (x := t) d_X9_init_18 rfl o_t.1 ?_
  refine r_iconst (x := 0) d_X9_init_19 ⟨by decide, by decide⟩ ?_
  refine r_putI (j := 2) d_X9_init_20 kX9 (by decide) fl_X9_19 rfl o_t.1 o_t.2.1 o_t.2.2.1 o_t.2.2.2 rfl ?_
  refine r_nmM (fun τ6 eτ6 => ?_)
  have h := h τ6 eτ6
  refine r_aload_n (x := t) d_X9_init_23 rfl o_t.1 ?_
  refine r_iconst (x := (-1)) d_X9_init_24 ⟨by decide, by decide⟩ ?_
  refine r_putI (j := 3) d_X9_init_25 kX9 (by decide) fl_X9_22 rfl o_t.1 o_t.2.1 o_t.2.2.1 o_t.2.2.2 rfl ?_
  refine r_nmM (fun τ7 eτ7 => ?_)
  have h := h τ7 eτ7
  refine r_aload_n (x := t) d_X9_init_28 rfl o_t.1 ?_
  refine r_iconst (x := 3) d_X9_init_29 ⟨by decide, by decide⟩ ?_
  refine y_newa (t := 0) (ln := 3) d_X9_init_30 rfl (by decide) ac_int rfl (by decide) (by decide) h.1 (fun a8 ea8 Λ9 eΛ9 σ10 eσ10 => ?_)
  have h := h.2 a8 ea8 Λ9 eΛ9 σ10 eσ10
  have o_t := Ob_new eΛ9 o_t
  have o_a1 := Ob_new eΛ9 o_a1
  have o_a8 := Ob_newS eΛ9 ea8
  refine r_putR (j := 4) d_X9_init_32 rfl kX9 (by decide) fl_X9_25 rfl rfl o_t.1 o_t.2.1 o_a8.1 o_t.2.2.1 o_t.2.2.2 rfl ⟨rfl, fun _ => ⟨rfl, rfl⟩⟩ ?_
  refine y_nmL (fun Λ11 eΛ11 => ?_)
  have h := h Λ11 eΛ11
  have o_t := Ob_stR eΛ11 o_t
  have o_a1 := Ob_stR eΛ11 o_a1
  have o_a8 := Ob_stR eΛ11 o_a8
  refine r_aload_n (x := t) d_X9_init_35 rfl o_t.1 ?_
  refine y_new (ci := 9) (nf := 2) d_X9_init_36 kX10 cl_X9_28 nw_X10 (by decide) h.1 (fun a12 ea12 Λ13 eΛ13 σ14 eσ14 => ?_)
  have h := h.2 a12 ea12 Λ13 eΛ13 σ14 eσ14
  have o_t := Ob_new eΛ13 o_t
  have o_a1 := Ob_new eΛ13 o_a1
  have o_a8 := Ob_new eΛ13 o_a8
  have o_a12 := Ob_newS eΛ13 ea12
  refine r_dup d_X9_init_39 rfl ?_
  refine y_init (Y2 := mX10_init) (mc2 := 0) (ms2 := 0) (c := a12) (As := []) (S := [(2, a12), (2, t)]) d_X9_init_40 ok_mX10_init rfl ml_X9_30 rfl (Nat.le_of_ble_eq_true rfl) (Nat.le_of_ble_eq_true rfl) rfl o_a12.1 h0d h.1 (CC.mono h.2 (fun N15 Λ16 σ17 h => ?_))
  have o_t := h.1
  have h := h.2
  have o_a1 := h.1
  have h := h.2
  have o_a8 := h.1
  have h := h.2
  have o_a12 := h.1
  have h := h.2
  refine r_putR (j := 5) d_X9_init_43 rfl kX9 (by decide) fl_X9_31 rfl rfl o_t.1 o_t.2.1 o_a12.1 o_t.2.2.1 o_t.2.2.2 rfl ⟨rfl, fun _ => ⟨rfl, rfl⟩⟩ ?_
  refine y_nmL (fun Λ18 eΛ18 => ?_)
  have h := h Λ18 eΛ18
  have o_t := Ob_stR eΛ18 o_t
  have o_a1 := Ob_stR eΛ18 o_a1
  have o_a8 := Ob_stR eΛ18 o_a8
  have o_a12 := Ob_stR eΛ18 o_a12
  exact y_vret d_X9_init_46 rfl h.1 h.2
theorem v_X7_init_0 {l : Launch} {d mc ms N : Nat} {Λ : Lay} {P : Nat → Lay → Mem → Prop} {σ : Mem} {t : Int} (o_t : Ob N Λ t 16 3) (h0d : 1 ≤ d)
    (h : ((0 + 1 ≤ mc ∧ 0 + 6 ≤ ms) ∧ ∀ a1 : Int, a1 = ((N : Nat) : Int) → ∀ Λ2, Λ2 = newL Λ N 3 6 → ∀ σ3, σ3 = newM σ N → (∀ Λ4, Λ4 = stR Λ2 t 0 a1 → (((0 + 1) + 1 ≤ mc ∧ (0 + 6) + 30 ≤ ms) ∧ ∀ a5 : Int, a5 = (((N + 1) : Nat) : Int) → ∀ Λ6, Λ6 = newL Λ4 (N + 1) 0 30 → ∀ σ7, σ7 = newM σ3 (N + 1) → (∀ Λ8, Λ8 = stR Λ6 t 1 a5 → ((((0 + 1) + 1) + 1 ≤ mc ∧ ((0 + 6) + 30) + 120 ≤ ms) ∧ ∀ a9 : Int, a9 = ((((N + 1) + 1) : Nat) : Int) → ∀ Λ10, Λ10 = newL Λ8 ((N + 1) + 1) 0 120 → ∀ σ11, σ11 = newM σ7 ((N + 1) + 1) → (∀ Λ12, Λ12 = stR Λ10 t 2 a9 → WC l mX7_init d mc ms P (((0 + 1) + 1) + 1) (((0 + 6) + 30) + 120) 31 [(2, t), (0, 0)] [] (((N + 1) + 1) + 1) Λ12 σ11))))))) :
    WC l mX7_init d mc ms P 0 0 0 [(2, t), (3, 0)] [] N Λ σ := by
  refine r_aload_n (x := t) d_X7_init_0 rfl o_t.1 ?_
  refine y_obj d_X7_init_1 ml_X7_3 o_t.1 h0d (Nat.le_of_ble_eq_true rfl) ?_
  refine r_aload_n (x := t) d_X7_init_4 rfl o_t.1 ?_
  refine r_bipush (x := 6) d_X7_init_5 ⟨by decide, by decide⟩ (by decide) ?_
  refine y_anew (t := 3) (ln := 6) (C := "BracketDesk$Poly") d_X7_init_7 cl_X7_9 (by decide) rfl (by decide) (by decide) h.1 (fun a1 ea1 Λ2 eΛ2 σ3 eσ3 => ?_)
  have h := h.2 a1 ea1 Λ2 eΛ2 σ3 eσ3
  have o_t := Ob_new eΛ2 o_t
  have o_a1 := Ob_newS eΛ2 ea1
  refine r_putR (j := 0) d_X7_init_10 rfl kX7 (by decide) fl_X7_11 rfl rfl o_t.1 o_t.2.1 o_a1.1 o_t.2.2.1 o_t.2.2.2 rfl ⟨rfl, fun _ => ⟨rfl, rfl⟩⟩ ?_
  refine y_nmL (fun Λ4 eΛ4 => ?_)
  have h := h Λ4 eΛ4
  have o_t := Ob_stR eΛ4 o_t
  have o_a1 := Ob_stR eΛ4 o_a1
  refine r_aload_n (x := t) d_X7_init_13 rfl o_t.1 ?_
  refine r_bipush (x := 30) d_X7_init_14 ⟨by decide, by decide⟩ (by decide) ?_
  refine y_newa (t := 0) (ln := 30) d_X7_init_16 rfl (by decide) ac_int rfl (by decide) (by decide) h.1 (fun a5 ea5 Λ6 eΛ6 σ7 eσ7 => ?_)
  have h := h.2 a5 ea5 Λ6 eΛ6 σ7 eσ7
  have o_t := Ob_new eΛ6 o_t
  have o_a1 := Ob_new eΛ6 o_a1
  have o_a5 := Ob_newS eΛ6 ea5
  refine r_putR (j := 1) d_X7_init_18 rfl kX7 (by decide) fl_X7_17 rfl rfl o_t.1 o_t.2.1 o_a5.1 o_t.2.2.1 o_t.2.2.2 rfl ⟨rfl, fun _ => ⟨rfl, rfl⟩⟩ ?_
  refine y_nmL (fun Λ8 eΛ8 => ?_)
  have h := h Λ8 eΛ8
  have o_t := Ob_stR eΛ8 o_t
  have o_a1 := Ob_stR eΛ8 o_a1
  have o_a5 := Ob_stR eΛ8 o_a5
  refine r_aload_n (x := t) d_X7_init_21 rfl o_t.1 ?_
  refine r_bipush (x := 120) d_X7_init_22 ⟨by decide, by decide⟩ (by decide) ?_
  refine y_newa (t := 0) (ln := 120) d_X7_init_24 rfl (by decide) ac_int rfl (by decide) (by decide) h.1 (fun a9 ea9 Λ10 eΛ10 σ11 eσ11 => ?_)
  have h := h.2 a9 ea9 Λ10 eΛ10 σ11 eσ11
  have o_t := Ob_new eΛ10 o_t
  have o_a1 := Ob_new eΛ10 o_a1
  have o_a5 := Ob_new eΛ10 o_a5
  have o_a9 := Ob_newS eΛ10 ea9
  refine r_putR (j := 2) d_X7_init_26 rfl kX7 (by decide) fl_X7_21 rfl rfl o_t.1 o_t.2.1 o_a9.1 o_t.2.2.1 o_t.2.2.2 rfl ⟨rfl, fun _ => ⟨rfl, rfl⟩⟩ ?_
  refine y_nmL (fun Λ12 eΛ12 => ?_)
  have h := h Λ12 eΛ12
  have o_t := Ob_stR eΛ12 o_t
  have o_a1 := Ob_stR eΛ12 o_a1
  have o_a5 := Ob_stR eΛ12 o_a5
  have o_a9 := Ob_stR eΛ12 o_a9
  refine r_iconst (x := 0) d_X7_init_29 ⟨by decide, by decide⟩ ?_
  refine r_istore_n (L2 := [(2, t), (0, 0)]) d_X7_init_30 (by decide) rfl rfl ?_
  exact h
theorem v_X7_init_31 {l : Launch} {d mc ms k n N : Nat} {Λ : Lay} {P : Nat → Lay → Mem → Prop} {σ : Mem} {t x1 : Int} (o_t : Ob N Λ t 16 3) (h0d : 1 ≤ d)
    (h : ((6 ≤ x1 → (∀ b1, b1 = (Λ t).2.2 2 → ∃ n2 : Int, Ob N Λ b1 0 n2 ∧ ((k ≤ mc ∧ n ≤ ms) ∧ CV l mJ7_fill_53178 (d - 1) [(2, b1), (0, 2)] N Λ σ (fun σ3 => ((k ≤ mc ∧ n ≤ ms) ∧ P N Λ σ3))))) ∧ (¬ (6 ≤ x1) → (∀ b4, b4 = (Λ t).2.2 0 → ∃ n5 : Int, Ob N Λ b4 3 n5 ∧ ((k + 1 ≤ mc ∧ n + 3 ≤ ms) ∧ ∀ a6 : Int, a6 = ((N : Nat) : Int) → ∀ Λ7, Λ7 = newL Λ N 15 3 → ∀ σ8, σ8 = newM σ N → (((k + 1) + 2 ≤ mc ∧ (n + 3) + 160 ≤ ms) ∧ CC l mX5_init (d - 1) 2 160 [(2, a6)] (N + 1) Λ7 σ8 (fun N9 Λ10 σ11 => (Ob N9 Λ10 t 16 3 ∧ Ob N9 Λ10 b4 3 n5 ∧ Ob N9 Λ10 a6 15 3 ∧ ((0 ≤ x1 ∧ x1 < n5) ∧ ∀ Λ12, Λ12 = stR Λ10 b4 x1 a6 → (∀ y13, y13 = addI x1 1 → WC l mX7_init d mc ms P ((k + 1) + 2) ((n + 3) + 160) 31 [(2, t), (0, y13)] [] N9 Λ12 σ11)))))))))) :
    WC l mX7_init d mc ms P k n 31 [(2, t), (0, x1)] [] N Λ σ := by
  refine r_iload_n (x := x1) d_X7_init_31 rfl ?_
  refine r_bipush (x := 6) d_X7_init_32 ⟨by decide, by decide⟩ (by decide) ?_
  refine r_ic_ge (tgt := 56) d_X7_init_34 rfl (fun hc => ?_) (fun hc => ?_)
  · have h := h.1 hc
    refine r_aload_n (x := t) d_X7_init_56 rfl o_t.1 ?_
    refine r_nmR (j := 2) d_X7_init_57 kX7 (by decide) fl_X7_21 o_t rfl (fun b1 eb1 => ?_)
    have h := h b1 eb1
    obtain ⟨n2, o_b1, h⟩ := h
    refine r_iconst (x := 2) d_X7_init_60 ⟨by decide, by decide⟩ ?_
    refine y_callSV (Y2 := mJ7_fill_53178) (As := [(2, b1), (0, 2)]) (S := []) d_X7_init_61 ok_mJ7_fill_53178 ml_X7_25 rfl (Nat.le_of_ble_eq_true rfl) (Nat.le_of_ble_eq_true rfl) rfl h0d h.1 (CV.mono h.2 (fun σ3 h => ?_))
    exact y_vret d_X7_init_64 rfl h.1 h.2
  · have h := h.2 hc
    refine r_aload_n (x := t) d_X7_init_37 rfl o_t.1 ?_
    refine r_nmR (j := 0) d_X7_init_38 kX7 (by decide) fl_X7_11 o_t rfl (fun b4 eb4 => ?_)
    have h := h b4 eb4
    obtain ⟨n5, o_b4, h⟩ := h
    refine r_iload_n (x := x1) d_X7_init_41 rfl ?_
    refine y_new (ci := 5) (nf := 3) d_X7_init_42 kX5 cl_X7_9 nw_X5 (by decide) h.1 (fun a6 ea6 Λ7 eΛ7 σ8 eσ8 => ?_)
    have h := h.2 a6 ea6 Λ7 eΛ7 σ8 eσ8
    have o_t := Ob_new eΛ7 o_t
    have o_b4 := Ob_new eΛ7 o_b4
    have o_a6 := Ob_newS eΛ7 ea6
    refine r_dup d_X7_init_45 rfl ?_
    refine y_init (Y2 := mX5_init) (mc2 := 2) (ms2 := 160) (c := a6) (As := []) (S := [(2, a6), (0, x1), (2, b4)]) d_X7_init_46 ok_mX5_init rfl ml_X7_24 rfl (Nat.le_of_ble_eq_true rfl) (Nat.le_of_ble_eq_true rfl) rfl o_a6.1 h0d h.1 (CC.mono h.2 (fun N9 Λ10 σ11 h => ?_))
    have o_t := h.1
    have h := h.2
    have o_b4 := h.1
    have h := h.2
    have o_a6 := h.1
    have h := h.2
    refine r_aast (t := 3) d_X7_init_49 kX5 (by decide) o_b4 h.1.1 h.1.2 o_a6 ?_
    have h := h.2
    refine y_nmL (fun Λ12 eΛ12 => ?_)
    have h := h Λ12 eΛ12
    have o_t := Ob_stR eΛ12 o_t
    have o_b4 := Ob_stR eΛ12 o_b4
    have o_a6 := Ob_stR eΛ12 o_a6
    refine x_iinc (x := x1) (L := [(2, t), (0, x1)]) d_X7_init_50 rfl (by decide) rfl (fun y13 ey13 => ?_)
    have h := h y13 ey13
    show WP _ _ _ _ _ _ _ _ [(2, t), (0, y13)] _ _ _ _
    refine r_goto (tgt := 31) d_X7_init_53 rfl ?_
    exact h
theorem v_X4_init_0 {l : Launch} {d mc ms N : Nat} {Λ : Lay} {P : Nat → Lay → Mem → Prop} {σ : Mem} {t : Int} (o_t : Ob N Λ t 14 3) (h0d : 1 ≤ d)
    (h : (∀ τ1, τ1 = st σ t 0 0 → ((0 + 1 ≤ mc ∧ 0 + 10 ≤ ms) ∧ ∀ a2 : Int, a2 = ((N : Nat) : Int) → ∀ Λ3, Λ3 = newL Λ N 4 10 → ∀ σ4, σ4 = newM τ1 N → (∀ Λ5, Λ5 = stR Λ3 t 1 a2 → (∀ τ6, τ6 = st σ4 t 2 0 → WC l mX4_init d mc ms P (0 + 1) (0 + 10) 25 [(2, t), (0, 0)] [] (N + 1) Λ5 τ6))))) :
    WC l mX4_init d mc ms P 0 0 0 [(2, t), (3, 0)] [] N Λ σ := by
  refine r_aload_n (x := t) d_X4_init_0 rfl o_t.1 ?_
  refine y_obj d_X4_init_1 ml_X4_3 o_t.1 h0d (Nat.le_of_ble_eq_true rfl) ?_
  refine r_aload_n (x := t) d_X4_init_4 rfl o_t.1 ?_
  refine r_iconst (x := 0) d_X4_init_5 ⟨by decide, by decide⟩ ?_
  refine r_putI (j := 0) d_X4_init_6 kX4 (by decide) fl_X4_9 rfl o_t.1 o_t.2.1 o_t.2.2.1 o_t.2.2.2 rfl ?_
  refine r_nmM (fun τ1 eτ1 => ?_)
  have h := h τ1 eτ1
  refine r_aload_n (x := t) d_X4_init_9 rfl o_t.1 ?_
  refine r_bipush (x := 10) d_X4_init_10 ⟨by decide, by decide⟩ (by decide) ?_
  refine y_anew (t := 4) (ln := 10) (C := "BracketDesk$State") d_X4_init_12 cl_X4_15 (by decide) rfl (by decide) (by decide) h.1 (fun a2 ea2 Λ3 eΛ3 σ4 eσ4 => ?_)
  have h := h.2 a2 ea2 Λ3 eΛ3 σ4 eσ4
  have o_t := Ob_new eΛ3 o_t
  have o_a2 := Ob_newS eΛ3 ea2
  refine r_putR (j := 1) d_X4_init_15 rfl kX4 (by decide) fl_X4_17 rfl rfl o_t.1 o_t.2.1 o_a2.1 o_t.2.2.1 o_t.2.2.2 rfl ⟨rfl, fun _ => ⟨rfl, rfl⟩⟩ ?_
  refine y_nmL (fun Λ5 eΛ5 => ?_)
  have h := h Λ5 eΛ5
  have o_t := Ob_stR eΛ5 o_t
  have o_a2 := Ob_stR eΛ5 o_a2
  refine r_aload_n (x := t) d_X4_init_18 rfl o_t.1 ?_
  refine r_iconst (x := 0) d_X4_init_19 ⟨by decide, by decide⟩ ?_
  refine r_putI (j := 2) d_X4_init_20 kX4 (by decide) fl_X4_21 rfl o_t.1 o_t.2.1 o_t.2.2.1 o_t.2.2.2 rfl ?_
  refine r_nmM (fun τ6 eτ6 => ?_)
  have h := h τ6 eτ6
  refine r_iconst (x := 0) d_X4_init_23 ⟨by decide, by decide⟩ ?_
  refine r_istore_n (L2 := [(2, t), (0, 0)]) d_X4_init_24 (by decide) rfl rfl ?_
  exact h
theorem v_X4_init_25 {l : Launch} {d mc ms k n N : Nat} {Λ : Lay} {P : Nat → Lay → Mem → Prop} {σ : Mem} {t x1 : Int} (o_t : Ob N Λ t 14 3) (h0d : 1 ≤ d)
    (h : ((10 ≤ x1 → ((k ≤ mc ∧ n ≤ ms) ∧ P N Λ σ)) ∧ (¬ (10 ≤ x1) → (∀ b1, b1 = (Λ t).2.2 1 → ∃ n2 : Int, Ob N Λ b1 4 n2 ∧ ((k + 1 ≤ mc ∧ n + 3 ≤ ms) ∧ ∀ a3 : Int, a3 = ((N : Nat) : Int) → ∀ Λ4, Λ4 = newL Λ N 16 3 → ∀ σ5, σ5 = newM σ N → (((k + 1) + 21 ≤ mc ∧ (n + 3) + 1134 ≤ ms) ∧ CC l mX7_init (d - 1) 21 1134 [(2, a3)] (N + 1) Λ4 σ5 (fun N6 Λ7 σ8 => (Ob N6 Λ7 t 14 3 ∧ Ob N6 Λ7 b1 4 n2 ∧ Ob N6 Λ7 a3 16 3 ∧ ((0 ≤ x1 ∧ x1 < n2) ∧ ∀ Λ9, Λ9 = stR Λ7 b1 x1 a3 → (∀ y10, y10 = addI x1 1 → WC l mX4_init d mc ms P ((k + 1) + 21) ((n + 3) + 1134) 25 [(2, t), (0, y10)] [] N6 Λ9 σ8)))))))))) :
    WC l mX4_init d mc ms P k n 25 [(2, t), (0, x1)] [] N Λ σ := by
  refine r_iload_n (x := x1) d_X4_init_25 rfl ?_
  refine r_bipush (x := 10) d_X4_init_26 ⟨by decide, by decide⟩ (by decide) ?_
  refine r_ic_ge (tgt := 50) d_X4_init_28 rfl (fun hc => ?_) (fun hc => ?_)
  · have h := h.1 hc
    exact y_vret d_X4_init_50 rfl h.1 h.2
  · have h := h.2 hc
    refine r_aload_n (x := t) d_X4_init_31 rfl o_t.1 ?_
    refine r_nmR (j := 1) d_X4_init_32 kX4 (by decide) fl_X4_17 o_t rfl (fun b1 eb1 => ?_)
    have h := h b1 eb1
    obtain ⟨n2, o_b1, h⟩ := h
    refine r_iload_n (x := x1) d_X4_init_35 rfl ?_
    refine y_new (ci := 6) (nf := 3) d_X4_init_36 kX7 cl_X4_15 nw_X7 (by decide) h.1 (fun a3 ea3 Λ4 eΛ4 σ5 eσ5 => ?_)
    have h := h.2 a3 ea3 Λ4 eΛ4 σ5 eσ5
    have o_t := Ob_new eΛ4 o_t
    have o_b1 := Ob_new eΛ4 o_b1
    have o_a3 := Ob_newS eΛ4 ea3
    refine r_dup d_X4_init_39 rfl ?_
    refine y_init (Y2 := mX7_init) (mc2 := 21) (ms2 := 1134) (c := a3) (As := []) (S := [(2, a3), (0, x1), (2, b1)]) d_X4_init_40 ok_mX7_init rfl ml_X4_24 rfl (Nat.le_of_ble_eq_true rfl) (Nat.le_of_ble_eq_true rfl) rfl o_a3.1 h0d h.1 (CC.mono h.2 (fun N6 Λ7 σ8 h => ?_))
    have o_t := h.1
    have h := h.2
    have o_b1 := h.1
    have h := h.2
    have o_a3 := h.1
    have h := h.2
    refine r_aast (t := 4) d_X4_init_43 kX7 (by decide) o_b1 h.1.1 h.1.2 o_a3 ?_
    have h := h.2
    refine y_nmL (fun Λ9 eΛ9 => ?_)
    have h := h Λ9 eΛ9
    have o_t := Ob_stR eΛ9 o_t
    have o_b1 := Ob_stR eΛ9 o_b1
    have o_a3 := Ob_stR eΛ9 o_a3
    refine x_iinc (x := x1) (L := [(2, t), (0, x1)]) d_X4_init_44 rfl (by decide) rfl (fun y10 ey10 => ?_)
    have h := h y10 ey10
    show WP _ _ _ _ _ _ _ _ [(2, t), (0, y10)] _ _ _ _
    refine r_goto (tgt := 25) d_X4_init_47 rfl ?_
    exact h
theorem v_X2_init_0 {l : Launch} {d mc ms N : Nat} {Λ : Lay} {P : Nat → Lay → Mem → Prop} {σ : Mem} {t : Int} (o_t : Ob N Λ t 12 9) (h0d : 1 ≤ d)
    (h : ((0 + 1 ≤ mc ∧ 0 + 100 ≤ ms) ∧ ∀ a1 : Int, a1 = ((N : Nat) : Int) → ∀ Λ2, Λ2 = newL Λ N 3 100 → ∀ σ3, σ3 = newM σ N → (∀ Λ4, Λ4 = stR Λ2 t 0 a1 → (((0 + 1) + 1 ≤ mc ∧ (0 + 100) + 9 ≤ ms) ∧ ∀ a5 : Int, a5 = (((N + 1) : Nat) : Int) → ∀ Λ6, Λ6 = newL Λ4 (N + 1) 0 9 → ∀ σ7, σ7 = newM σ3 (N + 1) → (∀ Λ8, Λ8 = stR Λ6 t 1 a5 → (∀ τ9, τ9 = st σ7 t 2 0 → (∀ τ10, τ10 = st τ9 t 3 90 → ((((0 + 1) + 1) + 1 ≤ mc ∧ ((0 + 100) + 9) + 3 ≤ ms) ∧ ∀ a11 : Int, a11 = ((((N + 1) + 1) : Nat) : Int) → ∀ Λ12, Λ12 = newL Λ8 ((N + 1) + 1) 15 3 → ∀ σ13, σ13 = newM τ10 ((N + 1) + 1) → (((((0 + 1) + 1) + 1) + 2 ≤ mc ∧ (((0 + 100) + 9) + 3) + 160 ≤ ms) ∧ CC l mX5_init (d - 1) 2 160 [(2, a11)] (((N + 1) + 1) + 1) Λ12 σ13 (fun N14 Λ15 σ16 => (Ob N14 Λ15 t 12 9 ∧ Ob N14 Λ15 a1 3 100 ∧ Ob N14 Λ15 a5 0 9 ∧ Ob N14 Λ15 a11 15 3 ∧ (∀ Λ17, Λ17 = stR Λ15 t 4 a11 → ((((((0 + 1) + 1) + 1) + 2) + 1 ≤ mc ∧ ((((0 + 100) + 9) + 3) + 160) + 3 ≤ ms) ∧ ∀ a18 : Int, a18 = ((N14 : Nat) : Int) → ∀ Λ19, Λ19 = newL Λ17 N14 15 3 → ∀ σ20, σ20 = newM σ16 N14 → (((((((0 + 1) + 1) + 1) + 2) + 1) + 2 ≤ mc ∧ (((((0 + 100) + 9) + 3) + 160) + 3) + 160 ≤ ms) ∧ CC l mX5_init (d - 1) 2 160 [(2, a18)] (N14 + 1) Λ19 σ20 (fun N21 Λ22 σ23 => (Ob N21 Λ22 t 12 9 ∧ Ob N21 Λ22 a1 3 100 ∧ Ob N21 Λ22 a5 0 9 ∧ Ob N21 Λ22 a11 15 3 ∧ Ob N21 Λ22 a18 15 3 ∧ (∀ Λ24, Λ24 = stR Λ22 t 5 a18 → ((((((((0 + 1) + 1) + 1) + 2) + 1) + 2) + 1 ≤ mc ∧ ((((((0 + 100) + 9) + 3) + 160) + 3) + 160) + 3 ≤ ms) ∧ ∀ a25 : Int, a25 = ((N21 : Nat) : Int) → ∀ Λ26, Λ26 = newL Λ24 N21 15 3 → ∀ σ27, σ27 = newM σ23 N21 → (((((((((0 + 1) + 1) + 1) + 2) + 1) + 2) + 1) + 2 ≤ mc ∧ (((((((0 + 100) + 9) + 3) + 160) + 3) + 160) + 3) + 160 ≤ ms) ∧ CC l mX5_init (d - 1) 2 160 [(2, a25)] (N21 + 1) Λ26 σ27 (fun N28 Λ29 σ30 => (Ob N28 Λ29 t 12 9 ∧ Ob N28 Λ29 a1 3 100 ∧ Ob N28 Λ29 a5 0 9 ∧ Ob N28 Λ29 a11 15 3 ∧ Ob N28 Λ29 a18 15 3 ∧ Ob N28 Λ29 a25 15 3 ∧ (∀ Λ31, Λ31 = stR Λ29 t 6 a25 → ((((((((((0 + 1) + 1) + 1) + 2) + 1) + 2) + 1) + 2) + 1 ≤ mc ∧ ((((((((0 + 100) + 9) + 3) + 160) + 3) + 160) + 3) + 160) + 3 ≤ ms) ∧ ∀ a32 : Int, a32 = ((N28 : Nat) : Int) → ∀ Λ33, Λ33 = newL Λ31 N28 15 3 → ∀ σ34, σ34 = newM σ30 N28 → (((((((((((0 + 1) + 1) + 1) + 2) + 1) + 2) + 1) + 2) + 1) + 2 ≤ mc ∧ (((((((((0 + 100) + 9) + 3) + 160) + 3) + 160) + 3) + 160) + 3) + 160 ≤ ms) ∧ CC l mX5_init (d - 1) 2 160 [(2, a32)] (N28 + 1) Λ33 σ34 (fun N35 Λ36 σ37 => (Ob N35 Λ36 t 12 9 ∧ Ob N35 Λ36 a1 3 100 ∧ Ob N35 Λ36 a5 0 9 ∧ Ob N35 Λ36 a11 15 3 ∧ Ob N35 Λ36 a18 15 3 ∧ Ob N35 Λ36 a25 15 3 ∧ Ob N35 Λ36 a32 15 3 ∧ (∀ Λ38, Λ38 = stR Λ36 t 7 a32 → ((((((((((((0 + 1) + 1) + 1) + 2) + 1) + 2) + 1) + 2) + 1) + 2) + 1 ≤ mc ∧ ((((((((((0 + 100) + 9) + 3) + 160) + 3) + 160) + 3) + 160) + 3) + 160) + 2 ≤ ms) ∧ ∀ a39 : Int, a39 = ((N35 : Nat) : Int) → ∀ Λ40, Λ40 = newL Λ38 N35 19 2 → ∀ σ41, σ41 = newM σ37 N35 → (((((((((((((0 + 1) + 1) + 1) + 2) + 1) + 2) + 1) + 2) + 1) + 2) + 1) + 0 ≤ mc ∧ (((((((((((0 + 100) + 9) + 3) + 160) + 3) + 160) + 3) + 160) + 3) + 160) + 2) + 0 ≤ ms) ∧ CC l mX10_init (d - 1) 0 0 [(2, a39)] (N35 + 1) Λ40 σ41 (fun N42 Λ43 σ44 => (Ob N42 Λ43 t 12 9 ∧ Ob N42 Λ43 a1 3 100 ∧ Ob N42 Λ43 a5 0 9 ∧ Ob N42 Λ43 a11 15 3 ∧ Ob N42 Λ43 a18 15 3 ∧ Ob N42 Λ43 a25 15 3 ∧ Ob N42 Λ43 a32 15 3 ∧ Ob N42 Λ43 a39 19 2 ∧ (∀ Λ45, Λ45 = stR Λ43 t 8 a39 → WC l mX2_init d mc ms P ((((((((((((0 + 1) + 1) + 1) + 2) + 1) + 2) + 1) + 2) + 1) + 2) + 1) + 0) ((((((((((((0 + 100) + 9) + 3) + 160) + 3) + 160) + 3) + 160) + 3) + 160) + 2) + 0) 89 [(2, t), (0, 0)] [] N42 Λ45 σ44)))))))))))))))))))))))))))))))) :
    WC l mX2_init d mc ms P 0 0 0 [(2, t), (3, 0)] [] N Λ σ := by
  refine r_aload_n (x := t) d_X2_init_0 rfl o_t.1 ?_
  refine y_obj d_X2_init_1 ml_X2_3 o_t.1 h0d (Nat.le_of_ble_eq_true rfl) ?_
  refine r_aload_n (x := t) d_X2_init_4 rfl o_t.1 ?_
  refine r_bipush (x := 100) d_X2_init_5 ⟨by decide, by decide⟩ (by decide) ?_
  refine y_anew (t := 3) (ln := 100) (C := "BracketDesk$Poly") d_X2_init_7 cl_X2_11 (by decide) rfl (by decide) (by decide) h.1 (fun a1 ea1 Λ2 eΛ2 σ3 eσ3 => ?_)
  have h := h.2 a1 ea1 Λ2 eΛ2 σ3 eσ3
  have o_t := Ob_new eΛ2 o_t
  have o_a1 := Ob_newS eΛ2 ea1
  refine r_putR (j := 0) d_X2_init_10 rfl kX2 (by decide) fl_X2_13 rfl rfl o_t.1 o_t.2.1 o_a1.1 o_t.2.2.1 o_t.2.2.2 rfl ⟨rfl, fun _ => ⟨rfl, rfl⟩⟩ ?_
  refine y_nmL (fun Λ4 eΛ4 => ?_)
  have h := h Λ4 eΛ4
  have o_t := Ob_stR eΛ4 o_t
  have o_a1 := Ob_stR eΛ4 o_a1
  refine r_aload_n (x := t) d_X2_init_13 rfl o_t.1 ?_
  refine r_bipush (x := 9) d_X2_init_14 ⟨by decide, by decide⟩ (by decide) ?_
  refine y_newa (t := 0) (ln := 9) d_X2_init_16 rfl (by decide) ac_int rfl (by decide) (by decide) h.1 (fun a5 ea5 Λ6 eΛ6 σ7 eσ7 => ?_)
  have h := h.2 a5 ea5 Λ6 eΛ6 σ7 eσ7
  have o_t := Ob_new eΛ6 o_t
  have o_a1 := Ob_new eΛ6 o_a1
  have o_a5 := Ob_newS eΛ6 ea5
  refine r_putR (j := 1) d_X2_init_18 rfl kX2 (by decide) fl_X2_17 rfl rfl o_t.1 o_t.2.1 o_a5.1 o_t.2.2.1 o_t.2.2.2 rfl ⟨rfl, fun _ => ⟨rfl, rfl⟩⟩ ?_
  refine y_nmL (fun Λ8 eΛ8 => ?_)
  have h := h Λ8 eΛ8
  have o_t := Ob_stR eΛ8 o_t
  have o_a1 := Ob_stR eΛ8 o_a1
  have o_a5 := Ob_stR eΛ8 o_a5
  refine r_aload_n (x := t) d_X2_init_21 rfl o_t.1 ?_
  refine r_iconst (x := 0) d_X2_init_22 ⟨by decide, by decide⟩ ?_
  refine r_putI (j := 2) d_X2_init_23 kX2 (by decide) fl_X2_21 rfl o_t.1 o_t.2.1 o_t.2.2.1 o_t.2.2.2 rfl ?_
  refine r_nmM (fun τ9 eτ9 => ?_)
  have h := h τ9 eτ9
  refine r_aload_n (x := t) d_X2_init_26 rfl o_t.1 ?_
  refine r_bipush (x := 90) d_X2_init_27 ⟨by decide, by decide⟩ (by decide) ?_
  refine r_putI (j := 3) d_X2_init_29 kX2 (by decide) fl_X2_25 rfl o_t.1 o_t.2.1 o_t.2.2.1 o_t.2.2.2 rfl ?_
  refine r_nmM (fun τ10 eτ10 => ?_)
  have h := h τ10 eτ10
  refine r_aload_n (x := t) d_X2_init_32 rfl o_t.1 ?_
  refine y_new (ci := 5) (nf := 3) d_X2_init_33 kX5 cl_X2_11 nw_X5 (by decide) h.1 (fun a11 ea11 Λ12 eΛ12 σ13 eσ13 => ?_)
  have h := h.2 a11 ea11 Λ12 eΛ12 σ13 eσ13
  have o_t := Ob_new eΛ12 o_t
  have o_a1 := Ob_new eΛ12 o_a1
  have o_a5 := Ob_new eΛ12 o_a5
  have o_a11 := Ob_newS eΛ12 ea11
  refine r_dup d_X2_init_36 rfl ?_
  refine y_init (Y2 := mX5_init) (mc2 := 2) (ms2 := 160) (c := a11) (As := []) (S := [(2, a11), (2, t)]) d_X2_init_37 ok_mX5_init rfl ml_X2_28 rfl (Nat.le_of_ble_eq_true rfl) (Nat.le_of_ble_eq_true rfl) rfl o_a11.1 h0d h.1 (CC.mono h.2 (fun N14 Λ15 σ16 h => ?_))
  have o_t := h.1
  have h := h.2
  have o_a1 := h.1
  have h := h.2
  have o_a5 := h.1
  have h := h.2
  have o_a11 := h.1
  have h := h.2
  refine r_putR (j := 4) d_X2_init_40 rfl kX2 (by decide) fl_X2_29 rfl rfl o_t.1 o_t.2.1 o_a11.1 o_t.2.2.1 o_t.2.2.2 rfl ⟨rfl, fun _ => ⟨rfl, rfl⟩⟩ ?_
  refine y_nmL (fun Λ17 eΛ17 => ?_)
  have h := h Λ17 eΛ17
  have o_t := Ob_stR eΛ17 o_t
  have o_a1 := Ob_stR eΛ17 o_a1
  have o_a5 := Ob_stR eΛ17 o_a5
  have o_a11 := Ob_stR eΛ17 o_a11
  refine r_aload_n (x := t) d_X2_init_43 rfl o_t.1 ?_
  refine y_new (ci := 5) (nf := 3) d_X2_init_44 kX5 cl_X2_11 nw_X5 (by decide) h.1 (fun a18 ea18 Λ19 eΛ19 σ20 eσ20 => ?_)
  have h := h.2 a18 ea18 Λ19 eΛ19 σ20 eσ20
  have o_t := Ob_new eΛ19 o_t
  have o_a1 := Ob_new eΛ19 o_a1
  have o_a5 := Ob_new eΛ19 o_a5
  have o_a11 := Ob_new eΛ19 o_a11
  have o_a18 := Ob_newS eΛ19 ea18
  refine r_dup d_X2_init_47 rfl ?_
  refine y_init (Y2 := mX5_init) (mc2 := 2) (ms2 := 160) (c := a18) (As := []) (S := [(2, a18), (2, t)]) d_X2_init_48 ok_mX5_init rfl ml_X2_28 rfl (Nat.le_of_ble_eq_true rfl) (Nat.le_of_ble_eq_true rfl) rfl o_a18.1 h0d h.1 (CC.mono h.2 (fun N21 Λ22 σ23 h => ?_))
  have o_t := h.1
  have h := h.2
  have o_a1 := h.1
  have h := h.2
  have o_a5 := h.1
  have h := h.2
  have o_a11 := h.1
  have h := h.2
  have o_a18 := h.1
  have h := h.2
  refine r_putR (j := 5) d_X2_init_51 rfl kX2 (by decide) fl_X2_33 rfl rfl o_t.1 o_t.2.1 o_a18.1 o_t.2.2.1 o_t.2.2.2 rfl ⟨rfl, fun _ => ⟨rfl, rfl⟩⟩ ?_
  refine y_nmL (fun Λ24 eΛ24 => ?_)
  have h := h Λ24 eΛ24
  have o_t := Ob_stR eΛ24 o_t
  have o_a1 := Ob_stR eΛ24 o_a1
  have o_a5 := Ob_stR eΛ24 o_a5
  have o_a11 := Ob_stR eΛ24 o_a11
  have o_a18 := Ob_stR eΛ24 o_a18
  refine r_aload_n (x := t) d_X2_init_54 rfl o_t.1 ?_
  refine y_new (ci := 5) (nf := 3) d_X2_init_55 kX5 cl_X2_11 nw_X5 (by decide) h.1 (fun a25 ea25 Λ26 eΛ26 σ27 eσ27 => ?_)
  have h := h.2 a25 ea25 Λ26 eΛ26 σ27 eσ27
  have o_t := Ob_new eΛ26 o_t
  have o_a1 := Ob_new eΛ26 o_a1
  have o_a5 := Ob_new eΛ26 o_a5
  have o_a11 := Ob_new eΛ26 o_a11
  have o_a18 := Ob_new eΛ26 o_a18
  have o_a25 := Ob_newS eΛ26 ea25
  refine r_dup d_X2_init_58 rfl ?_
  refine y_init (Y2 := mX5_init) (mc2 := 2) (ms2 := 160) (c := a25) (As := []) (S := [(2, a25), (2, t)]) d_X2_init_59 ok_mX5_init rfl ml_X2_28 rfl (Nat.le_of_ble_eq_true rfl) (Nat.le_of_ble_eq_true rfl) rfl o_a25.1 h0d h.1 (CC.mono h.2 (fun N28 Λ29 σ30 h => ?_))
  have o_t := h.1
  have h := h.2
  have o_a1 := h.1
  have h := h.2
  have o_a5 := h.1
  have h := h.2
  have o_a11 := h.1
  have h := h.2
  have o_a18 := h.1
  have h := h.2
  have o_a25 := h.1
  have h := h.2
  refine r_putR (j := 6) d_X2_init_62 rfl kX2 (by decide) fl_X2_36 rfl rfl o_t.1 o_t.2.1 o_a25.1 o_t.2.2.1 o_t.2.2.2 rfl ⟨rfl, fun _ => ⟨rfl, rfl⟩⟩ ?_
  refine y_nmL (fun Λ31 eΛ31 => ?_)
  have h := h Λ31 eΛ31
  have o_t := Ob_stR eΛ31 o_t
  have o_a1 := Ob_stR eΛ31 o_a1
  have o_a5 := Ob_stR eΛ31 o_a5
  have o_a11 := Ob_stR eΛ31 o_a11
  have o_a18 := Ob_stR eΛ31 o_a18
  have o_a25 := Ob_stR eΛ31 o_a25
  refine r_aload_n (x := t) d_X2_init_65 rfl o_t.1 ?_
  refine y_new (ci := 5) (nf := 3) d_X2_init_66 kX5 cl_X2_11 nw_X5 (by decide) h.1 (fun a32 ea32 Λ33 eΛ33 σ34 eσ34 => ?_)
  have h := h.2 a32 ea32 Λ33 eΛ33 σ34 eσ34
  have o_t := Ob_new eΛ33 o_t
  have o_a1 := Ob_new eΛ33 o_a1
  have o_a5 := Ob_new eΛ33 o_a5
  have o_a11 := Ob_new eΛ33 o_a11
  have o_a18 := Ob_new eΛ33 o_a18
  have o_a25 := Ob_new eΛ33 o_a25
  have o_a32 := Ob_newS eΛ33 ea32
  refine r_dup d_X2_init_69 rfl ?_
  refine y_init (Y2 := mX5_init) (mc2 := 2) (ms2 := 160) (c := a32) (As := []) (S := [(2, a32), (2, t)]) d_X2_init_70 ok_mX5_init rfl ml_X2_28 rfl (Nat.le_of_ble_eq_true rfl) (Nat.le_of_ble_eq_true rfl) rfl o_a32.1 h0d h.1 (CC.mono h.2 (fun N35 Λ36 σ37 h => ?_))
  have o_t := h.1
  have h := h.2
  have o_a1 := h.1
  have h := h.2
  have o_a5 := h.1
  have h := h.2
  have o_a11 := h.1
  have h := h.2
  have o_a18 := h.1
  have h := h.2
  have o_a25 := h.1
  have h := h.2
  have o_a32 := h.1
  have h := h.2
  refine r_putR (j := 7) d_X2_init_73 rfl kX2 (by decide) fl_X2_39 rfl rfl o_t.1 o_t.2.1 o_a32.1 o_t.2.2.1 o_t.2.2.2 rfl ⟨rfl, fun _ => ⟨rfl, rfl⟩⟩ ?_
  refine y_nmL (fun Λ38 eΛ38 => ?_)
  have h := h Λ38 eΛ38
  have o_t := Ob_stR eΛ38 o_t
  have o_a1 := Ob_stR eΛ38 o_a1
  have o_a5 := Ob_stR eΛ38 o_a5
  have o_a11 := Ob_stR eΛ38 o_a11
  have o_a18 := Ob_stR eΛ38 o_a18
  have o_a25 := Ob_stR eΛ38 o_a25
  have o_a32 := Ob_stR eΛ38 o_a32
  refine r_aload_n (x := t) d_X2_init_76 rfl o_t.1 ?_
  refine y_new (ci := 9) (nf := 2) d_X2_init_77 kX10 cl_X2_42 nw_X10 (by decide) h.1 (fun a39 ea39 Λ40 eΛ40 σ41 eσ41 => ?_)
  have h := h.2 a39 ea39 Λ40 eΛ40 σ41 eσ41
  have o_t := Ob_new eΛ40 o_t
  have o_a1 := Ob_new eΛ40 o_a1
  have o_a5 := Ob_new eΛ40 o_a5
  have o_a11 := Ob_new eΛ40 o_a11
  have o_a18 := Ob_new eΛ40 o_a18
  have o_a25 := Ob_new eΛ40 o_a25
  have o_a32 := Ob_new eΛ40 o_a32
  have o_a39 := Ob_newS eΛ40 ea39
  refine r_dup d_X2_init_80 rfl ?_
  refine y_init (Y2 := mX10_init) (mc2 := 0) (ms2 := 0) (c := a39) (As := []) (S := [(2, a39), (2, t)]) d_X2_init_81 ok_mX10_init rfl ml_X2_44 rfl (Nat.le_of_ble_eq_true rfl) (Nat.le_of_ble_eq_true rfl) rfl o_a39.1 h0d h.1 (CC.mono h.2 (fun N42 Λ43 σ44 h => ?_))
  have o_t := h.1
  have h := h.2
  have o_a1 := h.1
  have h := h.2
  have o_a5 := h.1
  have h := h.2
  have o_a11 := h.1
  have h := h.2
  have o_a18 := h.1
  have h := h.2
  have o_a25 := h.1
  have h := h.2
  have o_a32 := h.1
  have h := h.2
  have o_a39 := h.1
  have h := h.2
  refine r_putR (j := 8) d_X2_init_84 rfl kX2 (by decide) fl_X2_45 rfl rfl o_t.1 o_t.2.1 o_a39.1 o_t.2.2.1 o_t.2.2.2 rfl ⟨rfl, fun _ => ⟨rfl, rfl⟩⟩ ?_
  refine y_nmL (fun Λ45 eΛ45 => ?_)
  have h := h Λ45 eΛ45
  have o_t := Ob_stR eΛ45 o_t
  have o_a1 := Ob_stR eΛ45 o_a1
  have o_a5 := Ob_stR eΛ45 o_a5
  have o_a11 := Ob_stR eΛ45 o_a11
  have o_a18 := Ob_stR eΛ45 o_a18
  have o_a25 := Ob_stR eΛ45 o_a25
  have o_a32 := Ob_stR eΛ45 o_a32
  have o_a39 := Ob_stR eΛ45 o_a39
  refine r_iconst (x := 0) d_X2_init_87 ⟨by decide, by decide⟩ ?_
  refine r_istore_n (L2 := [(2, t), (0, 0)]) d_X2_init_88 (by decide) rfl rfl ?_
  exact h
theorem v_X2_init_89 {l : Launch} {d mc ms k n N : Nat} {Λ : Lay} {P : Nat → Lay → Mem → Prop} {σ : Mem} {t x1 : Int} (o_t : Ob N Λ t 12 9) (h0d : 1 ≤ d)
    (h : (∀ b1, b1 = (Λ t).2.2 0 → ∃ n2 : Int, Ob N Λ b1 3 n2 ∧ ((0 ≤ n2 ∧ n2 ≤ 2147483647) ∧ ((n2 ≤ x1 → WC l mX2_init d mc ms P k n 119 [(2, t), (0, 0)] [] N Λ σ) ∧ (¬ (n2 ≤ x1) → (∀ b3, b3 = (Λ t).2.2 0 → ∃ n4 : Int, Ob N Λ b3 3 n4 ∧ ((k + 1 ≤ mc ∧ n + 3 ≤ ms) ∧ ∀ a5 : Int, a5 = ((N : Nat) : Int) → ∀ Λ6, Λ6 = newL Λ N 15 3 → ∀ σ7, σ7 = newM σ N → (((k + 1) + 2 ≤ mc ∧ (n + 3) + 160 ≤ ms) ∧ CC l mX5_init (d - 1) 2 160 [(2, a5)] (N + 1) Λ6 σ7 (fun N8 Λ9 σ10 => (Ob N8 Λ9 t 12 9 ∧ Ob N8 Λ9 b1 3 n2 ∧ Ob N8 Λ9 b3 3 n4 ∧ Ob N8 Λ9 a5 15 3 ∧ ((0 ≤ x1 ∧ x1 < n4) ∧ ∀ Λ11, Λ11 = stR Λ9 b3 x1 a5 → (∀ y12, y12 = addI x1 1 → WC l mX2_init d mc ms P ((k + 1) + 2) ((n + 3) + 160) 89 [(2, t), (0, y12)] [] N8 Λ11 σ10)))))))))))) :
    WC l mX2_init d mc ms P k n 89 [(2, t), (0, x1)] [] N Λ σ := by
  refine r_iload_n (x := x1) d_X2_init_89 rfl ?_
  refine r_aload_n (x := t) d_X2_init_90 rfl o_t.1 ?_
  refine r_nmR (j := 0) d_X2_init_91 kX2 (by decide) fl_X2_13 o_t rfl (fun b1 eb1 => ?_)
  have h := h b1 eb1
  obtain ⟨n2, o_b1, h⟩ := h
  refine r_alen (len := n2) d_X2_init_94 o_b1.1 o_b1.2.1 (by rw [o_b1.2.2.1]; decide) o_b1.2.2.2 h.1.1 h.1.2 ?_
  have h := h.2
  refine r_ic_ge (tgt := 117) d_X2_init_95 rfl (fun hc => ?_) (fun hc => ?_)
  · have h := h.1 hc
    refine r_iconst (x := 0) d_X2_init_117 ⟨by decide, by decide⟩ ?_
    refine r_istore_n (L2 := [(2, t), (0, 0)]) d_X2_init_118 (by decide) rfl rfl ?_
    exact h
  · have h := h.2 hc
    refine r_aload_n (x := t) d_X2_init_98 rfl o_t.1 ?_
    refine r_nmR (j := 0) d_X2_init_99 kX2 (by decide) fl_X2_13 o_t rfl (fun b3 eb3 => ?_)
    have h := h b3 eb3
    obtain ⟨n4, o_b3, h⟩ := h
    refine r_iload_n (x := x1) d_X2_init_102 rfl ?_
    refine y_new (ci := 5) (nf := 3) d_X2_init_103 kX5 cl_X2_11 nw_X5 (by decide) h.1 (fun a5 ea5 Λ6 eΛ6 σ7 eσ7 => ?_)
    have h := h.2 a5 ea5 Λ6 eΛ6 σ7 eσ7
    have o_t := Ob_new eΛ6 o_t
    have o_b1 := Ob_new eΛ6 o_b1
    have o_b3 := Ob_new eΛ6 o_b3
    have o_a5 := Ob_newS eΛ6 ea5
    refine r_dup d_X2_init_106 rfl ?_
    refine y_init (Y2 := mX5_init) (mc2 := 2) (ms2 := 160) (c := a5) (As := []) (S := [(2, a5), (0, x1), (2, b3)]) d_X2_init_107 ok_mX5_init rfl ml_X2_28 rfl (Nat.le_of_ble_eq_true rfl) (Nat.le_of_ble_eq_true rfl) rfl o_a5.1 h0d h.1 (CC.mono h.2 (fun N8 Λ9 σ10 h => ?_))
    have o_t := h.1
    have h := h.2
    have o_b1 := h.1
    have h := h.2
    have o_b3 := h.1
    have h := h.2
    have o_a5 := h.1
    have h := h.2
    refine r_aast (t := 3) d_X2_init_110 kX5 (by decide) o_b3 h.1.1 h.1.2 o_a5 ?_
    have h := h.2
    refine y_nmL (fun Λ11 eΛ11 => ?_)
    have h := h Λ11 eΛ11
    have o_t := Ob_stR eΛ11 o_t
    have o_b1 := Ob_stR eΛ11 o_b1
    have o_b3 := Ob_stR eΛ11 o_b3
    have o_a5 := Ob_stR eΛ11 o_a5
    refine x_iinc (x := x1) (L := [(2, t), (0, x1)]) d_X2_init_111 rfl (by decide) rfl (fun y12 ey12 => ?_)
    have h := h y12 ey12
    show WP _ _ _ _ _ _ _ _ [(2, t), (0, y12)] _ _ _ _
    refine r_goto (tgt := 89) d_X2_init_114 rfl ?_
    exact h
theorem v_X2_init_119 {l : Launch} {d mc ms k n N : Nat} {Λ : Lay} {P : Nat → Lay → Mem → Prop} {σ : Mem} {t x1 : Int} (o_t : Ob N Λ t 12 9) (h0d : 1 ≤ d)
    (h : ((9 ≤ x1 → ((k ≤ mc ∧ n ≤ ms) ∧ P N Λ σ)) ∧ (¬ (9 ≤ x1) → (∀ b1, b1 = (Λ t).2.2 1 → ∃ n2 : Int, Ob N Λ b1 0 n2 ∧ (Ix N Λ b1 0 x1 ∧ ∀ τ3, τ3 = st σ b1 x1 (mulI 10 x1) → (∀ y4, y4 = addI x1 1 → WC l mX2_init d mc ms P k n 119 [(2, t), (0, y4)] [] N Λ τ3)))))) :
    WC l mX2_init d mc ms P k n 119 [(2, t), (0, x1)] [] N Λ σ := by
  refine r_iload_n (x := x1) d_X2_init_119 rfl ?_
  refine r_bipush (x := 9) d_X2_init_120 ⟨by decide, by decide⟩ (by decide) ?_
  refine r_ic_ge (tgt := 141) d_X2_init_122 rfl (fun hc => ?_) (fun hc => ?_)
  · have h := h.1 hc
    exact y_vret d_X2_init_141 rfl h.1 h.2
  · have h := h.2 hc
    refine r_aload_n (x := t) d_X2_init_125 rfl o_t.1 ?_
    refine r_nmR (j := 1) d_X2_init_126 kX2 (by decide) fl_X2_17 o_t rfl (fun b1 eb1 => ?_)
    have h := h b1 eb1
    obtain ⟨n2, o_b1, h⟩ := h
    refine r_iload_n (x := x1) d_X2_init_129 rfl ?_
    refine r_bipush (x := 10) d_X2_init_130 ⟨by decide, by decide⟩ (by decide) ?_
    refine r_iload_n (x := x1) d_X2_init_132 rfl ?_
    refine r_imul d_X2_init_133 ?_
    refine x_iast d_X2_init_134 h.1 ?_
    have h := h.2
    refine r_nmM (fun τ3 eτ3 => ?_)
    have h := h τ3 eτ3
    refine x_iinc (x := x1) (L := [(2, t), (0, x1)]) d_X2_init_135 rfl (by decide) rfl (fun y4 ey4 => ?_)
    have h := h y4 ey4
    show WP _ _ _ _ _ _ _ _ [(2, t), (0, y4)] _ _ _ _
    refine r_goto (tgt := 119) d_X2_init_138 rfl ?_
    exact h
theorem v_X3_init_0 {l : Launch} {d mc ms N : Nat} {Λ : Lay} {P : Nat → Lay → Mem → Prop} {σ : Mem} {t : Int} (o_t : Ob N Λ t 13 5) (h0d : 1 ≤ d)
    (h : ((0 + 1 ≤ mc ∧ 0 + 10 ≤ ms) ∧ ∀ a1 : Int, a1 = ((N : Nat) : Int) → ∀ Λ2, Λ2 = newL Λ N 0 10 → ∀ σ3, σ3 = newM σ N → (∀ Λ4, Λ4 = stR Λ2 t 0 a1 → (((0 + 1) + 1 ≤ mc ∧ (0 + 10) + 12 ≤ ms) ∧ ∀ a5 : Int, a5 = (((N + 1) : Nat) : Int) → ∀ Λ6, Λ6 = newL Λ4 (N + 1) 0 12 → ∀ σ7, σ7 = newM σ3 (N + 1) → (∀ Λ8, Λ8 = stR Λ6 t 1 a5 → (∀ τ9, τ9 = st σ7 t 2 0 → (∀ τ10, τ10 = st τ9 t 3 1000000 → (∀ τ11, τ11 = st τ10 t 4 0 → ((((0 + 1) + 1) ≤ mc ∧ ((0 + 10) + 12) ≤ ms) ∧ P ((N + 1) + 1) Λ8 τ11))))))))) :
    WC l mX3_init d mc ms P 0 0 0 [(2, t)] [] N Λ σ := by
  refine r_aload_n (x := t) d_X3_init_0 rfl o_t.1 ?_
  refine y_obj d_X3_init_1 ml_X3_3 o_t.1 h0d (Nat.le_of_ble_eq_true rfl) ?_
  refine r_aload_n (x := t) d_X3_init_4 rfl o_t.1 ?_
  refine r_bipush (x := 10) d_X3_init_5 ⟨by decide, by decide⟩ (by decide) ?_
  refine y_newa (t := 0) (ln := 10) d_X3_init_7 rfl (by decide) ac_int rfl (by decide) (by decide) h.1 (fun a1 ea1 Λ2 eΛ2 σ3 eσ3 => ?_)
  have h := h.2 a1 ea1 Λ2 eΛ2 σ3 eσ3
  have o_t := Ob_new eΛ2 o_t
  have o_a1 := Ob_newS eΛ2 ea1
  refine r_putR (j := 0) d_X3_init_9 rfl kX3 (by decide) fl_X3_9 rfl rfl o_t.1 o_t.2.1 o_a1.1 o_t.2.2.1 o_t.2.2.2 rfl ⟨rfl, fun _ => ⟨rfl, rfl⟩⟩ ?_
  refine y_nmL (fun Λ4 eΛ4 => ?_)
  have h := h Λ4 eΛ4
  have o_t := Ob_stR eΛ4 o_t
  have o_a1 := Ob_stR eΛ4 o_a1
  refine r_aload_n (x := t) d_X3_init_12 rfl o_t.1 ?_
  refine r_bipush (x := 12) d_X3_init_13 ⟨by decide, by decide⟩ (by decide) ?_
  refine y_newa (t := 0) (ln := 12) d_X3_init_15 rfl (by decide) ac_int rfl (by decide) (by decide) h.1 (fun a5 ea5 Λ6 eΛ6 σ7 eσ7 => ?_)
  have h := h.2 a5 ea5 Λ6 eΛ6 σ7 eσ7
  have o_t := Ob_new eΛ6 o_t
  have o_a1 := Ob_new eΛ6 o_a1
  have o_a5 := Ob_newS eΛ6 ea5
  refine r_putR (j := 1) d_X3_init_17 rfl kX3 (by decide) fl_X3_15 rfl rfl o_t.1 o_t.2.1 o_a5.1 o_t.2.2.1 o_t.2.2.2 rfl ⟨rfl, fun _ => ⟨rfl, rfl⟩⟩ ?_
  refine y_nmL (fun Λ8 eΛ8 => ?_)
  have h := h Λ8 eΛ8
  have o_t := Ob_stR eΛ8 o_t
  have o_a1 := Ob_stR eΛ8 o_a1
  have o_a5 := Ob_stR eΛ8 o_a5
  refine r_aload_n (x := t) d_X3_init_20 rfl o_t.1 ?_
  refine r_iconst (x := 0) d_X3_init_21 ⟨by decide, by decide⟩ ?_
  refine r_putI (j := 2) d_X3_init_22 kX3 (by decide) fl_X3_18 rfl o_t.1 o_t.2.1 o_t.2.2.1 o_t.2.2.2 rfl ?_
  refine r_nmM (fun τ9 eτ9 => ?_)
  have h := h τ9 eτ9
  refine r_aload_n (x := t) d_X3_init_25 rfl o_t.1 ?_
  refine r_ldc (x := 1000000) d_X3_init_26 ck_X3_22 (by decide) ?_
  refine r_putI (j := 3) d_X3_init_28 kX3 (by decide) fl_X3_23 rfl o_t.1 o_t.2.1 o_t.2.2.1 o_t.2.2.2 rfl ?_
  refine r_nmM (fun τ10 eτ10 => ?_)
  have h := h τ10 eτ10
  refine r_aload_n (x := t) d_X3_init_31 rfl o_t.1 ?_
  refine r_iconst (x := 0) d_X3_init_32 ⟨by decide, by decide⟩ ?_
  refine r_putI (j := 4) d_X3_init_33 kX3 (by decide) fl_X3_26 rfl o_t.1 o_t.2.1 o_t.2.2.1 o_t.2.2.2 rfl ?_
  refine r_nmM (fun τ11 eτ11 => ?_)
  have h := h τ11 eτ11
  exact y_vret d_X3_init_36 rfl h.1 h.2
theorem v_X0_init_0 {l : Launch} {d mc ms N : Nat} {Λ : Lay} {P : Nat → Lay → Mem → Prop} {σ : Mem} {t : Int} (o_t : Ob N Λ t 10 4) (h0d : 1 ≤ d)
    (h : ((0 + 1 ≤ mc ∧ 0 + 480 ≤ ms) ∧ ∀ a1 : Int, a1 = ((N : Nat) : Int) → ∀ Λ2, Λ2 = newL Λ N 1 480 → ∀ σ3, σ3 = newM σ N → (∀ Λ4, Λ4 = stR Λ2 t 0 a1 → (((0 + 1) + 7 ≤ mc ∧ (0 + 480) + 2886 ≤ ms) ∧ ∀ a5 : Int, a5 = (((N + 1) : Nat) : Int) → ∀ Λ6, Λ6 = mnaL Λ4 (N + 1) → ∀ σ7, σ7 = mnaM σ3 (N + 1) → (∀ Λ8, Λ8 = stR Λ6 t 1 a5 → (∀ τ9, τ9 = st σ7 t 2 0 → (∀ τ10, τ10 = st τ9 t 3 0 → ((((0 + 1) + 7) ≤ mc ∧ ((0 + 480) + 2886) ≤ ms) ∧ P ((N + 1) + 7) Λ8 τ10)))))))) :
    WC l mX0_init d mc ms P 0 0 0 [(2, t)] [] N Λ σ := by
  refine r_aload_n (x := t) d_X0_init_0 rfl o_t.1 ?_
  refine y_obj d_X0_init_1 ml_X0_3 o_t.1 h0d (Nat.le_of_ble_eq_true rfl) ?_
  refine r_aload_n (x := t) d_X0_init_4 rfl o_t.1 ?_
  refine r_sipush (x := 480) d_X0_init_5 ⟨by decide, by decide⟩ (by decide) ?_
  refine y_newa (t := 1) (ln := 480) d_X0_init_8 rfl (by decide) ac_long rfl (by decide) (by decide) h.1 (fun a1 ea1 Λ2 eΛ2 σ3 eσ3 => ?_)
  have h := h.2 a1 ea1 Λ2 eΛ2 σ3 eσ3
  have o_t := Ob_new eΛ2 o_t
  have o_a1 := Ob_newS eΛ2 ea1
  refine r_putR (j := 0) d_X0_init_10 rfl kX0 (by decide) fl_X0_11 rfl rfl o_t.1 o_t.2.1 o_a1.1 o_t.2.2.1 o_t.2.2.2 rfl ⟨rfl, fun _ => ⟨rfl, rfl⟩⟩ ?_
  refine y_nmL (fun Λ4 eΛ4 => ?_)
  have h := h Λ4 eΛ4
  have o_t := Ob_stR eΛ4 o_t
  have o_a1 := Ob_stR eΛ4 o_a1
  refine r_aload_n (x := t) d_X0_init_13 rfl o_t.1 ?_
  refine r_bipush (x := 6) d_X0_init_14 ⟨by decide, by decide⟩ (by decide) ?_
  refine r_sipush (x := 480) d_X0_init_16 ⟨by decide, by decide⟩ (by decide) ?_
  refine y_mna d_X0_init_19 cl_X0_15 ac_int h.1 (fun a5 ea5 Λ6 eΛ6 σ7 eσ7 => ?_)
  have h := h.2 a5 ea5 Λ6 eΛ6 σ7 eσ7
  have o_t := Ob_mna eΛ6 o_t
  have o_a1 := Ob_mna eΛ6 o_a1
  have o_a5 := Ob_mnaS eΛ6 ea5
  refine r_putR (j := 1) d_X0_init_23 rfl kX0 (by decide) fl_X0_17 rfl rfl o_t.1 o_t.2.1 o_a5.1 o_t.2.2.1 o_t.2.2.2 rfl ⟨rfl, fun _ => ⟨rfl, rfl⟩⟩ ?_
  refine y_nmL (fun Λ8 eΛ8 => ?_)
  have h := h Λ8 eΛ8
  have o_t := Ob_stR eΛ8 o_t
  have o_a1 := Ob_stR eΛ8 o_a1
  have o_a5 := Ob_stR eΛ8 o_a5
  refine r_aload_n (x := t) d_X0_init_26 rfl o_t.1 ?_
  refine r_iconst (x := 0) d_X0_init_27 ⟨by decide, by decide⟩ ?_
  refine r_putI (j := 2) d_X0_init_28 kX0 (by decide) fl_X0_20 rfl o_t.1 o_t.2.1 o_t.2.2.1 o_t.2.2.2 rfl ?_
  refine r_nmM (fun τ9 eτ9 => ?_)
  have h := h τ9 eτ9
  refine r_aload_n (x := t) d_X0_init_31 rfl o_t.1 ?_
  refine r_iconst (x := 0) d_X0_init_32 ⟨by decide, by decide⟩ ?_
  refine r_putI (j := 3) d_X0_init_33 kX0 (by decide) fl_X0_24 rfl o_t.1 o_t.2.1 o_t.2.2.1 o_t.2.2.2 rfl ?_
  refine r_nmM (fun τ10 eτ10 => ?_)
  have h := h τ10 eτ10
  exact y_vret d_X0_init_36 rfl h.1 h.2
theorem v_X1_init_0 {l : Launch} {d mc ms N : Nat} {Λ : Lay} {P : Nat → Lay → Mem → Prop} {σ : Mem} {t : Int} (o_t : Ob N Λ t 11 6) (h0d : 1 ≤ d)
    (h : (∀ τ1, τ1 = st σ t 0 0 → ((0 + 1 ≤ mc ∧ 0 + 6 ≤ ms) ∧ ∀ a2 : Int, a2 = ((N : Nat) : Int) → ∀ Λ3, Λ3 = newL Λ N 0 6 → ∀ σ4, σ4 = newM τ1 N → (∀ Λ5, Λ5 = stR Λ3 t 1 a2 → (((0 + 1) + 1 ≤ mc ∧ (0 + 6) + 6 ≤ ms) ∧ ∀ a6 : Int, a6 = (((N + 1) : Nat) : Int) → ∀ Λ7, Λ7 = newL Λ5 (N + 1) 0 6 → ∀ σ8, σ8 = newM σ4 (N + 1) → (∀ Λ9, Λ9 = stR Λ7 t 2 a6 → ((((0 + 1) + 1) + 1 ≤ mc ∧ ((0 + 6) + 6) + 5 ≤ ms) ∧ ∀ a10 : Int, a10 = ((((N + 1) + 1) : Nat) : Int) → ∀ Λ11, Λ11 = newL Λ9 ((N + 1) + 1) 1 5 → ∀ σ12, σ12 = newM σ8 ((N + 1) + 1) → (∀ Λ13, Λ13 = stR Λ11 t 3 a10 → (((((0 + 1) + 1) + 1) + 1 ≤ mc ∧ (((0 + 6) + 6) + 5) + 160 ≤ ms) ∧ ∀ a14 : Int, a14 = (((((N + 1) + 1) + 1) : Nat) : Int) → ∀ Λ15, Λ15 = newL Λ13 (((N + 1) + 1) + 1) 0 160 → ∀ σ16, σ16 = newM σ12 (((N + 1) + 1) + 1) → (∀ Λ17, Λ17 = stR Λ15 t 4 a14 → ((((((0 + 1) + 1) + 1) + 1) + 1 ≤ mc ∧ ((((0 + 6) + 6) + 5) + 160) + 5 ≤ ms) ∧ ∀ a18 : Int, a18 = ((((((N + 1) + 1) + 1) + 1) : Nat) : Int) → ∀ Λ19, Λ19 = newL Λ17 ((((N + 1) + 1) + 1) + 1) 0 5 → ∀ σ20, σ20 = newM σ16 ((((N + 1) + 1) + 1) + 1) → (∀ Λ21, Λ21 = stR Λ19 t 5 a18 → WC l mX1_init d mc ms P (((((0 + 1) + 1) + 1) + 1) + 1) (((((0 + 6) + 6) + 5) + 160) + 5) 52 [(2, t), (0, 0), (0, 0), (3, 0), (3, 0), (3, 0), (3, 0), (3, 0)] [] (((((N + 1) + 1) + 1) + 1) + 1) Λ21 σ20)))))))))))) :
    WC l mX1_init d mc ms P 0 0 0 [(2, t), (3, 0), (3, 0), (3, 0), (3, 0), (3, 0), (3, 0), (3, 0)] [] N Λ σ := by
  refine r_aload_n (x := t) d_X1_init_0 rfl o_t.1 ?_
  refine y_obj d_X1_init_1 ml_X1_3 o_t.1 h0d (Nat.le_of_ble_eq_true rfl) ?_
  refine r_aload_n (x := t) d_X1_init_4 rfl o_t.1 ?_
  refine r_iconst (x := 0) d_X1_init_5 ⟨by decide, by decide⟩ ?_
  refine r_putI (j := 0) d_X1_init_6 kX1 (by decide) fl_X1_9 rfl o_t.1 o_t.2.1 o_t.2.2.1 o_t.2.2.2 rfl ?_
  refine r_nmM (fun τ1 eτ1 => ?_)
  have h := h τ1 eτ1
  refine r_aload_n (x := t) d_X1_init_9 rfl o_t.1 ?_
  refine r_bipush (x := 6) d_X1_init_10 ⟨by decide, by decide⟩ (by decide) ?_
  refine y_newa (t := 0) (ln := 6) d_X1_init_12 rfl (by decide) ac_int rfl (by decide) (by decide) h.1 (fun a2 ea2 Λ3 eΛ3 σ4 eσ4 => ?_)
  have h := h.2 a2 ea2 Λ3 eΛ3 σ4 eσ4
  have o_t := Ob_new eΛ3 o_t
  have o_a2 := Ob_newS eΛ3 ea2
  refine r_putR (j := 1) d_X1_init_14 rfl kX1 (by decide) fl_X1_15 rfl rfl o_t.1 o_t.2.1 o_a2.1 o_t.2.2.1 o_t.2.2.2 rfl ⟨rfl, fun _ => ⟨rfl, rfl⟩⟩ ?_
  refine y_nmL (fun Λ5 eΛ5 => ?_)
  have h := h Λ5 eΛ5
  have o_t := Ob_stR eΛ5 o_t
  have o_a2 := Ob_stR eΛ5 o_a2
  refine r_aload_n (x := t) d_X1_init_17 rfl o_t.1 ?_
  refine r_bipush (x := 6) d_X1_init_18 ⟨by decide, by decide⟩ (by decide) ?_
  refine y_newa (t := 0) (ln := 6) d_X1_init_20 rfl (by decide) ac_int rfl (by decide) (by decide) h.1 (fun a6 ea6 Λ7 eΛ7 σ8 eσ8 => ?_)
  have h := h.2 a6 ea6 Λ7 eΛ7 σ8 eσ8
  have o_t := Ob_new eΛ7 o_t
  have o_a2 := Ob_new eΛ7 o_a2
  have o_a6 := Ob_newS eΛ7 ea6
  refine r_putR (j := 2) d_X1_init_22 rfl kX1 (by decide) fl_X1_19 rfl rfl o_t.1 o_t.2.1 o_a6.1 o_t.2.2.1 o_t.2.2.2 rfl ⟨rfl, fun _ => ⟨rfl, rfl⟩⟩ ?_
  refine y_nmL (fun Λ9 eΛ9 => ?_)
  have h := h Λ9 eΛ9
  have o_t := Ob_stR eΛ9 o_t
  have o_a2 := Ob_stR eΛ9 o_a2
  have o_a6 := Ob_stR eΛ9 o_a6
  refine r_aload_n (x := t) d_X1_init_25 rfl o_t.1 ?_
  refine r_iconst (x := 5) d_X1_init_26 ⟨by decide, by decide⟩ ?_
  refine y_newa (t := 1) (ln := 5) d_X1_init_27 rfl (by decide) ac_long rfl (by decide) (by decide) h.1 (fun a10 ea10 Λ11 eΛ11 σ12 eσ12 => ?_)
  have h := h.2 a10 ea10 Λ11 eΛ11 σ12 eσ12
  have o_t := Ob_new eΛ11 o_t
  have o_a2 := Ob_new eΛ11 o_a2
  have o_a6 := Ob_new eΛ11 o_a6
  have o_a10 := Ob_newS eΛ11 ea10
  refine r_putR (j := 3) d_X1_init_29 rfl kX1 (by decide) fl_X1_22 rfl rfl o_t.1 o_t.2.1 o_a10.1 o_t.2.2.1 o_t.2.2.2 rfl ⟨rfl, fun _ => ⟨rfl, rfl⟩⟩ ?_
  refine y_nmL (fun Λ13 eΛ13 => ?_)
  have h := h Λ13 eΛ13
  have o_t := Ob_stR eΛ13 o_t
  have o_a2 := Ob_stR eΛ13 o_a2
  have o_a6 := Ob_stR eΛ13 o_a6
  have o_a10 := Ob_stR eΛ13 o_a10
  refine r_aload_n (x := t) d_X1_init_32 rfl o_t.1 ?_
  refine r_sipush (x := 160) d_X1_init_33 ⟨by decide, by decide⟩ (by decide) ?_
  refine y_newa (t := 0) (ln := 160) d_X1_init_36 rfl (by decide) ac_int rfl (by decide) (by decide) h.1 (fun a14 ea14 Λ15 eΛ15 σ16 eσ16 => ?_)
  have h := h.2 a14 ea14 Λ15 eΛ15 σ16 eσ16
  have o_t := Ob_new eΛ15 o_t
  have o_a2 := Ob_new eΛ15 o_a2
  have o_a6 := Ob_new eΛ15 o_a6
  have o_a10 := Ob_new eΛ15 o_a10
  have o_a14 := Ob_newS eΛ15 ea14
  refine r_putR (j := 4) d_X1_init_38 rfl kX1 (by decide) fl_X1_26 rfl rfl o_t.1 o_t.2.1 o_a14.1 o_t.2.2.1 o_t.2.2.2 rfl ⟨rfl, fun _ => ⟨rfl, rfl⟩⟩ ?_
  refine y_nmL (fun Λ17 eΛ17 => ?_)
  have h := h Λ17 eΛ17
  have o_t := Ob_stR eΛ17 o_t
  have o_a2 := Ob_stR eΛ17 o_a2
  have o_a6 := Ob_stR eΛ17 o_a6
  have o_a10 := Ob_stR eΛ17 o_a10
  have o_a14 := Ob_stR eΛ17 o_a14
  refine r_aload_n (x := t) d_X1_init_41 rfl o_t.1 ?_
  refine r_iconst (x := 5) d_X1_init_42 ⟨by decide, by decide⟩ ?_
  refine y_newa (t := 0) (ln := 5) d_X1_init_43 rfl (by decide) ac_int rfl (by decide) (by decide) h.1 (fun a18 ea18 Λ19 eΛ19 σ20 eσ20 => ?_)
  have h := h.2 a18 ea18 Λ19 eΛ19 σ20 eσ20
  have o_t := Ob_new eΛ19 o_t
  have o_a2 := Ob_new eΛ19 o_a2
  have o_a6 := Ob_new eΛ19 o_a6
  have o_a10 := Ob_new eΛ19 o_a10
  have o_a14 := Ob_new eΛ19 o_a14
  have o_a18 := Ob_newS eΛ19 ea18
  refine r_putR (j := 5) d_X1_init_45 rfl kX1 (by decide) fl_X1_29 rfl rfl o_t.1 o_t.2.1 o_a18.1 o_t.2.2.1 o_t.2.2.2 rfl ⟨rfl, fun _ => ⟨rfl, rfl⟩⟩ ?_
  refine y_nmL (fun Λ21 eΛ21 => ?_)
  have h := h Λ21 eΛ21
  have o_t := Ob_stR eΛ21 o_t
  have o_a2 := Ob_stR eΛ21 o_a2
  have o_a6 := Ob_stR eΛ21 o_a6
  have o_a10 := Ob_stR eΛ21 o_a10
  have o_a14 := Ob_stR eΛ21 o_a14
  have o_a18 := Ob_stR eΛ21 o_a18
  refine r_iconst (x := 0) d_X1_init_48 ⟨by decide, by decide⟩ ?_
  refine r_istore_n (L2 := [(2, t), (0, 0), (3, 0), (3, 0), (3, 0), (3, 0), (3, 0), (3, 0)]) d_X1_init_49 (by decide) rfl rfl ?_
  refine r_iconst (x := 0) d_X1_init_50 ⟨by decide, by decide⟩ ?_
  refine r_istore_n (L2 := [(2, t), (0, 0), (0, 0), (3, 0), (3, 0), (3, 0), (3, 0), (3, 0)]) d_X1_init_51 (by decide) rfl rfl ?_
  exact h
theorem v_X1_init_52 {l : Launch} {d mc ms k n N : Nat} {Λ : Lay} {P : Nat → Lay → Mem → Prop} {σ : Mem} {t x1 x2 : Int} (o_t : Ob N Λ t 11 6) (h0d : 1 ≤ d)
    (h : ((32 ≤ x2 → ((k + 1 ≤ mc ∧ n + 3 ≤ ms) ∧ ∀ a1 : Int, a1 = ((N : Nat) : Int) → ∀ Λ2, Λ2 = newL Λ N 15 3 → ∀ σ3, σ3 = newM σ N → (((k + 1) + 2 ≤ mc ∧ (n + 3) + 160 ≤ ms) ∧ CC l mX5_init (d - 1) 2 160 [(2, a1)] (N + 1) Λ2 σ3 (fun N4 Λ5 σ6 => (Ob N4 Λ5 t 11 6 ∧ Ob N4 Λ5 a1 15 3 ∧ ((((k + 1) + 2) + 1 ≤ mc ∧ ((n + 3) + 160) + 3 ≤ ms) ∧ ∀ a7 : Int, a7 = ((N4 : Nat) : Int) → ∀ Λ8, Λ8 = newL Λ5 N4 15 3 → ∀ σ9, σ9 = newM σ6 N4 → (((((k + 1) + 2) + 1) + 2 ≤ mc ∧ (((n + 3) + 160) + 3) + 160 ≤ ms) ∧ CC l mX5_init (d - 1) 2 160 [(2, a7)] (N4 + 1) Λ8 σ9 (fun N10 Λ11 σ12 => (Ob N10 Λ11 t 11 6 ∧ Ob N10 Λ11 a1 15 3 ∧ Ob N10 Λ11 a7 15 3 ∧ ((((((k + 1) + 2) + 1) + 2) + 1 ≤ mc ∧ ((((n + 3) + 160) + 3) + 160) + 2 ≤ ms) ∧ ∀ a13 : Int, a13 = ((N10 : Nat) : Int) → ∀ Λ14, Λ14 = newL Λ11 N10 17 2 → ∀ σ15, σ15 = newM σ12 N10 → (((((((k + 1) + 2) + 1) + 2) + 1) + 1 ≤ mc ∧ (((((n + 3) + 160) + 3) + 160) + 2) + 2 ≤ ms) ∧ CC l mX8_init (d - 1) 1 2 [(2, a13)] (N10 + 1) Λ14 σ15 (fun N16 Λ17 σ18 => (Ob N16 Λ17 t 11 6 ∧ Ob N16 Λ17 a1 15 3 ∧ Ob N16 Λ17 a7 15 3 ∧ Ob N16 Λ17 a13 17 2 ∧ WC l mX1_init d mc ms P ((((((k + 1) + 2) + 1) + 2) + 1) + 1) ((((((n + 3) + 160) + 3) + 160) + 2) + 2) 125 [(2, t), (0, x1), (2, a1), (2, a7), (2, a13), (0, 0), (3, 0), (3, 0)] [] N16 Λ17 σ18))))))))))))) ∧ (¬ (32 ≤ x2) → ((k ≤ mc ∧ n ≤ ms) ∧ CL l mX1_keyOf (d - 1) [(0, x2)] N Λ σ (fun v20 σ19 => (((cmpL v20 0) = 0 → (∀ y21, y21 = addI x2 1 → WC l mX1_init d mc ms P k n 52 [(2, t), (0, x1), (0, y21), (3, 0), (3, 0), (3, 0), (3, 0), (3, 0)] [] N Λ σ19)) ∧ (¬ ((cmpL v20 0) = 0) → ((k ≤ mc ∧ n ≤ ms) ∧ CI l mX6_breakOf (d - 1) [(1, v20)] N Λ σ19 (fun v23 σ22 => ((¬ v23 = 0 → (∀ y24, y24 = addI x2 1 → WC l mX1_init d mc ms P k n 52 [(2, t), (0, x1), (0, y24), (3, 0), (3, 0), (3, 0), (3, 0), (3, 0)] [] N Λ σ22)) ∧ (v23 = 0 → ((5 ≤ x1 → (∀ y25, y25 = addI x2 1 → WC l mX1_init d mc ms P k n 52 [(2, t), (0, x1), (0, y25), (3, 0), (3, 0), (3, 0), (3, 0), (3, 0)] [] N Λ σ22)) ∧ (¬ (5 ≤ x1) → (∀ b26, b26 = (Λ t).2.2 3 → ∃ n27 : Int, Ob N Λ b26 1 n27 ∧ (Ix N Λ b26 1 x1 ∧ ∀ τ28, τ28 = st σ22 b26 x1 v20 → (∀ y29, y29 = addI x1 1 → (∀ y30, y30 = addI x2 1 → WC l mX1_init d mc ms P k n 52 [(2, t), (0, y29), (0, y30), (3, 0), (3, 0), (3, 0), (3, 0), (3, 0)] [] N Λ τ28))))))))))))))))) :
    WC l mX1_init d mc ms P k n 52 [(2, t), (0, x1), (0, x2), (3, 0), (3, 0), (3, 0), (3, 0), (3, 0)] [] N Λ σ := by
  refine r_iload_n (x := x2) d_X1_init_52 rfl ?_
  refine r_bipush (x := 32) d_X1_init_53 ⟨by decide, by decide⟩ (by decide) ?_
  refine r_ic_ge (tgt := 97) d_X1_init_55 rfl (fun hc => ?_) (fun hc => ?_)
  · have h := h.1 hc
    refine y_new (ci := 5) (nf := 3) d_X1_init_97 kX5 cl_X1_42 nw_X5 (by decide) h.1 (fun a1 ea1 Λ2 eΛ2 σ3 eσ3 => ?_)
    have h := h.2 a1 ea1 Λ2 eΛ2 σ3 eσ3
    have o_t := Ob_new eΛ2 o_t
    have o_a1 := Ob_newS eΛ2 ea1
    refine r_dup d_X1_init_100 rfl ?_
    refine y_init (Y2 := mX5_init) (mc2 := 2) (ms2 := 160) (c := a1) (As := []) (S := [(2, a1)]) d_X1_init_101 ok_mX5_init rfl ml_X1_44 rfl (Nat.le_of_ble_eq_true rfl) (Nat.le_of_ble_eq_true rfl) rfl o_a1.1 h0d h.1 (CC.mono h.2 (fun N4 Λ5 σ6 h => ?_))
    have o_t := h.1
    have h := h.2
    have o_a1 := h.1
    have h := h.2
    refine r_astore_n (L2 := [(2, t), (0, x1), (2, a1), (3, 0), (3, 0), (3, 0), (3, 0), (3, 0)]) d_X1_init_104 (by decide) rfl rfl o_a1.1 ?_
    refine y_new (ci := 5) (nf := 3) d_X1_init_105 kX5 cl_X1_42 nw_X5 (by decide) h.1 (fun a7 ea7 Λ8 eΛ8 σ9 eσ9 => ?_)
    have h := h.2 a7 ea7 Λ8 eΛ8 σ9 eσ9
    have o_t := Ob_new eΛ8 o_t
    have o_a1 := Ob_new eΛ8 o_a1
    have o_a7 := Ob_newS eΛ8 ea7
    refine r_dup d_X1_init_108 rfl ?_
    refine y_init (Y2 := mX5_init) (mc2 := 2) (ms2 := 160) (c := a7) (As := []) (S := [(2, a7)]) d_X1_init_109 ok_mX5_init rfl ml_X1_44 rfl (Nat.le_of_ble_eq_true rfl) (Nat.le_of_ble_eq_true rfl) rfl o_a7.1 h0d h.1 (CC.mono h.2 (fun N10 Λ11 σ12 h => ?_))
    have o_t := h.1
    have h := h.2
    have o_a1 := h.1
    have h := h.2
    have o_a7 := h.1
    have h := h.2
    refine r_astore_n (L2 := [(2, t), (0, x1), (2, a1), (2, a7), (3, 0), (3, 0), (3, 0), (3, 0)]) d_X1_init_112 (by decide) rfl rfl o_a7.1 ?_
    refine y_new (ci := 7) (nf := 2) d_X1_init_113 kX8 cl_X1_45 nw_X8 (by decide) h.1 (fun a13 ea13 Λ14 eΛ14 σ15 eσ15 => ?_)
    have h := h.2 a13 ea13 Λ14 eΛ14 σ15 eσ15
    have o_t := Ob_new eΛ14 o_t
    have o_a1 := Ob_new eΛ14 o_a1
    have o_a7 := Ob_new eΛ14 o_a7
    have o_a13 := Ob_newS eΛ14 ea13
    refine r_dup d_X1_init_116 rfl ?_
    refine y_init (Y2 := mX8_init) (mc2 := 1) (ms2 := 2) (c := a13) (As := []) (S := [(2, a13)]) d_X1_init_117 ok_mX8_init rfl ml_X1_47 rfl (Nat.le_of_ble_eq_true rfl) (Nat.le_of_ble_eq_true rfl) rfl o_a13.1 h0d h.1 (CC.mono h.2 (fun N16 Λ17 σ18 h => ?_))
    have o_t := h.1
    have h := h.2
    have o_a1 := h.1
    have h := h.2
    have o_a7 := h.1
    have h := h.2
    have o_a13 := h.1
    have h := h.2
    refine r_astore (L2 := [(2, t), (0, x1), (2, a1), (2, a7), (2, a13), (3, 0), (3, 0), (3, 0)]) d_X1_init_120 (by decide) rfl rfl o_a13.1 ?_
    refine r_iconst (x := 0) d_X1_init_122 ⟨by decide, by decide⟩ ?_
    refine r_istore (L2 := [(2, t), (0, x1), (2, a1), (2, a7), (2, a13), (0, 0), (3, 0), (3, 0)]) d_X1_init_123 (by decide) rfl rfl ?_
    exact h
  · have h := h.2 hc
    refine r_iload_n (x := x2) d_X1_init_58 rfl ?_
    refine y_callSL (Y2 := mX1_keyOf) (As := [(0, x2)]) (S := []) d_X1_init_59 ok_mX1_keyOf ml_X1_32 rfl (Nat.le_of_ble_eq_true rfl) (Nat.le_of_ble_eq_true rfl) rfl h0d h.1 (CL.mono h.2 (fun v20 σ19 h => ?_))
    refine r_lstore_n (L2 := [(2, t), (0, x1), (0, x2), (1, v20), (3, 0), (3, 0), (3, 0), (3, 0)]) d_X1_init_62 (by decide) rfl rfl ?_
    refine r_lload_n (x := v20) d_X1_init_63 rfl ?_
    refine r_lconst d_X1_init_64 ?_
    refine r_lcmp d_X1_init_65 ?_
    refine r_if_eq (tgt := 91) d_X1_init_66 rfl (fun hc => ?_) (fun hc => ?_)
    · have h := h.1 hc
      refine x_iinc (x := x2) (L := [(2, t), (0, x1), (0, x2), (1, v20), (3, 0), (3, 0), (3, 0), (3, 0)]) d_X1_init_91 rfl (by decide) rfl (fun y21 ey21 => ?_)
      have h := h y21 ey21
      show WP _ _ _ _ _ _ _ _ [(2, t), (0, x1), (0, y21), (1, v20), (3, 0), (3, 0), (3, 0), (3, 0)] _ _ _ _
      refine r_goto (tgt := 52) d_X1_init_94 rfl ?_
      exact x_mask h ⟨Or.inr rfl, Or.inr rfl, Or.inr rfl, Or.inl rfl, Or.inl rfl, Or.inl rfl, Or.inl rfl, Or.inl rfl, trivial⟩
    · have h := h.2 hc
      refine r_lload_n (x := v20) d_X1_init_69 rfl ?_
      refine y_callSI (Y2 := mX6_breakOf) (As := [(1, v20)]) (S := []) d_X1_init_70 ok_mX6_breakOf ml_X1_36 rfl (Nat.le_of_ble_eq_true rfl) (Nat.le_of_ble_eq_true rfl) rfl h0d h.1 (CI.mono h.2 (fun v23 σ22 h => ?_))
      refine r_if_ne (tgt := 91) d_X1_init_73 rfl (fun hc => ?_) (fun hc => ?_)
      · have h := h.1 hc
        refine x_iinc (x := x2) (L := [(2, t), (0, x1), (0, x2), (1, v20), (3, 0), (3, 0), (3, 0), (3, 0)]) d_X1_init_91 rfl (by decide) rfl (fun y24 ey24 => ?_)
        have h := h y24 ey24
        show WP _ _ _ _ _ _ _ _ [(2, t), (0, x1), (0, y24), (1, v20), (3, 0), (3, 0), (3, 0), (3, 0)] _ _ _ _
        refine r_goto (tgt := 52) d_X1_init_94 rfl ?_
        exact x_mask h ⟨Or.inr rfl, Or.inr rfl, Or.inr rfl, Or.inl rfl, Or.inl rfl, Or.inl rfl, Or.inl rfl, Or.inl rfl, trivial⟩
      · have h := h.2 hc
        refine r_iload_n (x := x1) d_X1_init_76 rfl ?_
        refine r_iconst (x := 5) d_X1_init_77 ⟨by decide, by decide⟩ ?_
        refine r_ic_ge (tgt := 91) d_X1_init_78 rfl (fun hc => ?_) (fun hc => ?_)
        · have h := h.1 hc
          refine x_iinc (x := x2) (L := [(2, t), (0, x1), (0, x2), (1, v20), (3, 0), (3, 0), (3, 0), (3, 0)]) d_X1_init_91 rfl (by decide) rfl (fun y25 ey25 => ?_)
          have h := h y25 ey25
          show WP _ _ _ _ _ _ _ _ [(2, t), (0, x1), (0, y25), (1, v20), (3, 0), (3, 0), (3, 0), (3, 0)] _ _ _ _
          refine r_goto (tgt := 52) d_X1_init_94 rfl ?_
          exact x_mask h ⟨Or.inr rfl, Or.inr rfl, Or.inr rfl, Or.inl rfl, Or.inl rfl, Or.inl rfl, Or.inl rfl, Or.inl rfl, trivial⟩
        · have h := h.2 hc
          refine r_aload_n (x := t) d_X1_init_81 rfl o_t.1 ?_
          refine r_nmR (j := 3) d_X1_init_82 kX1 (by decide) fl_X1_22 o_t rfl (fun b26 eb26 => ?_)
          have h := h b26 eb26
          obtain ⟨n27, o_b26, h⟩ := h
          refine r_iload_n (x := x1) d_X1_init_85 rfl ?_
          refine r_lload_n (x := v20) d_X1_init_86 rfl ?_
          refine x_last d_X1_init_87 h.1 ?_
          have h := h.2
          refine r_nmM (fun τ28 eτ28 => ?_)
          have h := h τ28 eτ28
          refine x_iinc (x := x1) (L := [(2, t), (0, x1), (0, x2), (1, v20), (3, 0), (3, 0), (3, 0), (3, 0)]) d_X1_init_88 rfl (by decide) rfl (fun y29 ey29 => ?_)
          have h := h y29 ey29
          show WP _ _ _ _ _ _ _ _ [(2, t), (0, y29), (0, x2), (1, v20), (3, 0), (3, 0), (3, 0), (3, 0)] _ _ _ _
          refine x_iinc (x := x2) (L := [(2, t), (0, y29), (0, x2), (1, v20), (3, 0), (3, 0), (3, 0), (3, 0)]) d_X1_init_91 rfl (by decide) rfl (fun y30 ey30 => ?_)
          have h := h y30 ey30
          show WP _ _ _ _ _ _ _ _ [(2, t), (0, y29), (0, y30), (1, v20), (3, 0), (3, 0), (3, 0), (3, 0)] _ _ _ _
          refine r_goto (tgt := 52) d_X1_init_94 rfl ?_
          exact x_mask h ⟨Or.inr rfl, Or.inr rfl, Or.inr rfl, Or.inl rfl, Or.inl rfl, Or.inl rfl, Or.inl rfl, Or.inl rfl, trivial⟩
theorem v_X1_init_125 {l : Launch} {d mc ms k n N : Nat} {Λ : Lay} {P : Nat → Lay → Mem → Prop} {σ : Mem} {t x1 a1 a7 a13 x5 : Int} (o_t : Ob N Λ t 11 6) (o_a1 : Ob N Λ a1 15 3) (o_a7 : Ob N Λ a7 15 3) (o_a13 : Ob N Λ a13 17 2) (h0d : 1 ≤ d)
    (h : ((32 ≤ x5 → ((k ≤ mc ∧ n ≤ ms) ∧ P N Λ σ)) ∧ (¬ (32 ≤ x5) → ((k ≤ mc ∧ n ≤ ms) ∧ CV l mX5_empty (d - 1) [(2, a1)] N Λ σ (fun σ1 => ((k ≤ mc ∧ n ≤ ms) ∧ CL l mX1_keyOf (d - 1) [(0, x5)] N Λ σ1 (fun v3 σ2 => ((k ≤ mc ∧ n ≤ ms) ∧ CI l mX5_lay (d - 1) [(2, a1), (1, v3), (1, 1)] N Λ σ2 (fun v5 σ4 => ((k ≤ mc ∧ n ≤ ms) ∧ CI l mX8_straighten (d - 1) [(2, a13), (2, a1), (2, a7)] N Λ σ4 (fun v7 σ6 => WC l mX1_init d mc ms P k n 158 [(2, t), (0, x1), (2, a1), (2, a7), (2, a13), (0, x5), (0, 0), (3, 0)] [] N Λ σ6))))))))))) :
    WC l mX1_init d mc ms P k n 125 [(2, t), (0, x1), (2, a1), (2, a7), (2, a13), (0, x5), (3, 0), (3, 0)] [] N Λ σ := by
  refine r_iload (x := x5) d_X1_init_125 rfl ?_
  refine r_bipush (x := 32) d_X1_init_127 ⟨by decide, by decide⟩ (by decide) ?_
  refine r_ic_ge (tgt := 217) d_X1_init_129 rfl (fun hc => ?_) (fun hc => ?_)
  · have h := h.1 hc
    exact y_vret d_X1_init_217 rfl h.1 h.2
  · have h := h.2 hc
    refine r_aload_n (x := a1) d_X1_init_132 rfl o_a1.1 ?_
    refine y_callVV (Y2 := mX5_empty) (c := a1) (As := []) (S := []) d_X1_init_133 ok_mX5_empty ml_X1_48 rfl (Nat.le_of_ble_eq_true rfl) (Nat.le_of_ble_eq_true rfl) rfl h0d h.1 kX5 o_a1 (CV.mono h.2 (fun σ1 h => ?_))
    refine r_aload_n (x := a1) d_X1_init_136 rfl o_a1.1 ?_
    refine r_iload (x := x5) d_X1_init_137 rfl ?_
    refine y_callSL (Y2 := mX1_keyOf) (As := [(0, x5)]) (S := [(2, a1)]) d_X1_init_139 ok_mX1_keyOf ml_X1_32 rfl (Nat.le_of_ble_eq_true rfl) (Nat.le_of_ble_eq_true rfl) rfl h0d h.1 (CL.mono h.2 (fun v3 σ2 h => ?_))
    refine r_lconst d_X1_init_142 ?_
    refine y_callVI (Y2 := mX5_lay) (c := a1) (As := [(1, v3), (1, 1)]) (S := []) d_X1_init_143 ok_mX5_lay ml_X1_51 rfl (Nat.le_of_ble_eq_true rfl) (Nat.le_of_ble_eq_true rfl) rfl h0d h.1 kX5 o_a1 (CI.mono h.2 (fun v5 σ4 h => ?_))
    refine r_pop d_X1_init_146 rfl ?_
    refine r_aload (x := a13) d_X1_init_147 rfl o_a13.1 ?_
    refine r_aload_n (x := a1) d_X1_init_149 rfl o_a1.1 ?_
    refine r_aload_n (x := a7) d_X1_init_150 rfl o_a7.1 ?_
    refine y_callVI (Y2 := mX8_straighten) (c := a13) (As := [(2, a1), (2, a7)]) (S := []) d_X1_init_151 ok_mX8_straighten ml_X1_55 rfl (Nat.le_of_ble_eq_true rfl) (Nat.le_of_ble_eq_true rfl) rfl h0d h.1 kX8 o_a13 (CI.mono h.2 (fun v7 σ6 h => ?_))
    refine r_pop d_X1_init_154 rfl ?_
    refine r_iconst (x := 0) d_X1_init_155 ⟨by decide, by decide⟩ ?_
    refine r_istore (L2 := [(2, t), (0, x1), (2, a1), (2, a7), (2, a13), (0, x5), (0, 0), (3, 0)]) d_X1_init_156 (by decide) rfl rfl ?_
    exact h
theorem v_X1_init_158 {l : Launch} {d mc ms k n N : Nat} {Λ : Lay} {P : Nat → Lay → Mem → Prop} {σ : Mem} {t x1 a1 a7 a13 x5 x6 : Int} (o_t : Ob N Λ t 11 6) (o_a1 : Ob N Λ a1 15 3) (o_a7 : Ob N Λ a7 15 3) (o_a13 : Ob N Λ a13 17 2) (h0d : 1 ≤ d)
    (h : (((σ a7 2) ≤ x6 → (∀ y1, y1 = addI x5 1 → WC l mX1_init d mc ms P k n 125 [(2, t), (0, x1), (2, a1), (2, a7), (2, a13), (0, y1), (3, 0), (3, 0)] [] N Λ σ)) ∧ (¬ ((σ a7 2) ≤ x6) → (∀ b2, b2 = (Λ a7).2.2 0 → ∃ n3 : Int, Ob N Λ b2 1 n3 ∧ (Ix N Λ b2 1 x6 ∧ ((k ≤ mc ∧ n ≤ ms) ∧ CI l mX1_formOf (d - 1) [(2, t), (1, (σ b2 x6))] N Λ σ (fun v5 σ4 => ((v5 = (-1) → (∀ y6, y6 = addI x6 1 → WC l mX1_init d mc ms P k n 158 [(2, t), (0, x1), (2, a1), (2, a7), (2, a13), (0, x5), (0, y6), (3, 0)] [] N Λ σ4)) ∧ (¬ (v5 = (-1)) → (∀ b7, b7 = (Λ t).2.2 4 → ∃ n8 : Int, Ob N Λ b7 0 n8 ∧ (∀ b9, b9 = (Λ a7).2.2 1 → ∃ n10 : Int, Ob N Λ b9 0 n10 ∧ (Ix N Λ b9 0 x6 ∧ (Ix N Λ b7 0 (addI (mulI 5 x5) v5) ∧ ∀ τ11, τ11 = st σ4 b7 (addI (mulI 5 x5) v5) (σ4 b9 x6) → (∀ y12, y12 = addI x6 1 → WC l mX1_init d mc ms P k n 158 [(2, t), (0, x1), (2, a1), (2, a7), (2, a13), (0, x5), (0, y12), (3, 0)] [] N Λ τ11)))))))))))))) :
    WC l mX1_init d mc ms P k n 158 [(2, t), (0, x1), (2, a1), (2, a7), (2, a13), (0, x5), (0, x6), (3, 0)] [] N Λ σ := by
  refine r_iload (x := x6) d_X1_init_158 rfl ?_
  refine r_aload_n (x := a7) d_X1_init_160 rfl o_a7.1 ?_
  refine r_getf (j := 2) (t := 0) (x := (σ a7 2)) d_X1_init_161 kX5 (by decide) fl_X1_59 o_a7.1 o_a7.2.1 o_a7.2.2.1 o_a7.2.2.2 rfl rfl ?_
  refine r_ic_ge (tgt := 211) d_X1_init_164 rfl (fun hc => ?_) (fun hc => ?_)
  · have h := h.1 hc
    refine x_iinc (x := x5) (L := [(2, t), (0, x1), (2, a1), (2, a7), (2, a13), (0, x5), (0, x6), (3, 0)]) d_X1_init_211 rfl (by decide) rfl (fun y1 ey1 => ?_)
    have h := h y1 ey1
    show WP _ _ _ _ _ _ _ _ [(2, t), (0, x1), (2, a1), (2, a7), (2, a13), (0, y1), (0, x6), (3, 0)] _ _ _ _
    refine r_goto (tgt := 125) d_X1_init_214 rfl ?_
    exact x_mask h ⟨Or.inr rfl, Or.inr rfl, Or.inr rfl, Or.inr rfl, Or.inr rfl, Or.inr rfl, Or.inl rfl, Or.inl rfl, trivial⟩
  · have h := h.2 hc
    refine r_aload_n (x := t) d_X1_init_167 rfl o_t.1 ?_
    refine r_aload_n (x := a7) d_X1_init_168 rfl o_a7.1 ?_
    refine r_nmR (j := 0) d_X1_init_169 kX5 (by decide) fl_X1_62 o_a7 rfl (fun b2 eb2 => ?_)
    have h := h b2 eb2
    obtain ⟨n3, o_b2, h⟩ := h
    refine r_iload (x := x6) d_X1_init_172 rfl ?_
    refine x_lald d_X1_init_174 h.1 ?_
    have h := h.2
    refine y_callVI (Y2 := mX1_formOf) (c := t) (As := [(1, (σ b2 x6))]) (S := []) d_X1_init_175 ok_mX1_formOf ml_X1_65 rfl (Nat.le_of_ble_eq_true rfl) (Nat.le_of_ble_eq_true rfl) rfl h0d h.1 kX1 o_t (CI.mono h.2 (fun v5 σ4 h => ?_))
    refine r_istore (L2 := [(2, t), (0, x1), (2, a1), (2, a7), (2, a13), (0, x5), (0, x6), (0, v5)]) d_X1_init_178 (by decide) rfl rfl ?_
    refine r_iload (x := v5) d_X1_init_180 rfl ?_
    refine r_iconst (x := (-1)) d_X1_init_182 ⟨by decide, by decide⟩ ?_
    refine r_ic_eq (tgt := 205) d_X1_init_183 rfl (fun hc => ?_) (fun hc => ?_)
    · have h := h.1 hc
      refine x_iinc (x := x6) (L := [(2, t), (0, x1), (2, a1), (2, a7), (2, a13), (0, x5), (0, x6), (0, v5)]) d_X1_init_205 rfl (by decide) rfl (fun y6 ey6 => ?_)
      have h := h y6 ey6
      show WP _ _ _ _ _ _ _ _ [(2, t), (0, x1), (2, a1), (2, a7), (2, a13), (0, x5), (0, y6), (0, v5)] _ _ _ _
      refine r_goto (tgt := 158) d_X1_init_208 rfl ?_
      exact x_mask h ⟨Or.inr rfl, Or.inr rfl, Or.inr rfl, Or.inr rfl, Or.inr rfl, Or.inr rfl, Or.inr rfl, Or.inl rfl, trivial⟩
    · have h := h.2 hc
      refine r_aload_n (x := t) d_X1_init_186 rfl o_t.1 ?_
      refine r_nmR (j := 4) d_X1_init_187 kX1 (by decide) fl_X1_26 o_t rfl (fun b7 eb7 => ?_)
      have h := h b7 eb7
      obtain ⟨n8, o_b7, h⟩ := h
      refine r_iconst (x := 5) d_X1_init_190 ⟨by decide, by decide⟩ ?_
      refine r_iload (x := x5) d_X1_init_191 rfl ?_
      refine r_imul d_X1_init_193 ?_
      refine r_iload (x := v5) d_X1_init_194 rfl ?_
      refine r_iadd d_X1_init_196 ?_
      refine r_aload_n (x := a7) d_X1_init_197 rfl o_a7.1 ?_
      refine r_nmR (j := 1) d_X1_init_198 kX5 (by decide) fl_X1_68 o_a7 rfl (fun b9 eb9 => ?_)
      have h := h b9 eb9
      obtain ⟨n10, o_b9, h⟩ := h
      refine r_iload (x := x6) d_X1_init_201 rfl ?_
      refine x_iald d_X1_init_203 h.1 ?_
      have h := h.2
      refine x_iast d_X1_init_204 h.1 ?_
      have h := h.2
      refine r_nmM (fun τ11 eτ11 => ?_)
      have h := h τ11 eτ11
      refine x_iinc (x := x6) (L := [(2, t), (0, x1), (2, a1), (2, a7), (2, a13), (0, x5), (0, x6), (0, v5)]) d_X1_init_205 rfl (by decide) rfl (fun y12 ey12 => ?_)
      have h := h y12 ey12
      show WP _ _ _ _ _ _ _ _ [(2, t), (0, x1), (2, a1), (2, a7), (2, a13), (0, x5), (0, y12), (0, v5)] _ _ _ _
      refine r_goto (tgt := 158) d_X1_init_208 rfl ?_
      exact x_mask h ⟨Or.inr rfl, Or.inr rfl, Or.inr rfl, Or.inr rfl, Or.inr rfl, Or.inr rfl, Or.inr rfl, Or.inl rfl, trivial⟩
theorem v_X11_init_0 {l : Launch} {d mc ms N : Nat} {Λ : Lay} {P : Nat → Lay → Mem → Prop} {σ : Mem} {t : Int} (o_t : Ob N Λ t 20 14) (h0d : 1 ≤ d)
    (h : ((0 + 1 ≤ mc ∧ 0 + 3 ≤ ms) ∧ ∀ a1 : Int, a1 = ((N : Nat) : Int) → ∀ Λ2, Λ2 = newL Λ N 16 3 → ∀ σ3, σ3 = newM σ N → (((0 + 1) + 21 ≤ mc ∧ (0 + 3) + 1134 ≤ ms) ∧ CC l mX7_init (d - 1) 21 1134 [(2, a1)] (N + 1) Λ2 σ3 (fun N4 Λ5 σ6 => (Ob N4 Λ5 t 20 14 ∧ Ob N4 Λ5 a1 16 3 ∧ (∀ Λ7, Λ7 = stR Λ5 t 0 a1 → ((((0 + 1) + 21) + 1 ≤ mc ∧ ((0 + 3) + 1134) + 3 ≤ ms) ∧ ∀ a8 : Int, a8 = ((N4 : Nat) : Int) → ∀ Λ9, Λ9 = newL Λ7 N4 14 3 → ∀ σ10, σ10 = newM σ6 N4 → (((((0 + 1) + 21) + 1) + 221 ≤ mc ∧ (((0 + 3) + 1134) + 3) + 11380 ≤ ms) ∧ CC l mX4_init (d - 1) 221 11380 [(2, a8)] (N4 + 1) Λ9 σ10 (fun N11 Λ12 σ13 => (Ob N11 Λ12 t 20 14 ∧ Ob N11 Λ12 a1 16 3 ∧ Ob N11 Λ12 a8 14 3 ∧ (∀ Λ14, Λ14 = stR Λ12 t 1 a8 → ((((((0 + 1) + 21) + 1) + 221) + 1 ≤ mc ∧ ((((0 + 3) + 1134) + 3) + 11380) + 2 ≤ ms) ∧ ∀ a15 : Int, a15 = ((N11 : Nat) : Int) → ∀ Λ16, Λ16 = newL Λ14 N11 4 2 → ∀ σ17, σ17 = newM σ13 N11 → (∀ Λ18, Λ18 = stR Λ16 t 2 a15 → (((((((0 + 1) + 21) + 1) + 221) + 1) + 1 ≤ mc ∧ (((((0 + 3) + 1134) + 3) + 11380) + 2) + 2 ≤ ms) ∧ ∀ a19 : Int, a19 = (((N11 + 1) : Nat) : Int) → ∀ Λ20, Λ20 = newL Λ18 (N11 + 1) 2 2 → ∀ σ21, σ21 = newM σ17 (N11 + 1) → (∀ Λ22, Λ22 = stR Λ20 t 3 a19 → ((((((((0 + 1) + 21) + 1) + 221) + 1) + 1) + 1 ≤ mc ∧ ((((((0 + 3) + 1134) + 3) + 11380) + 2) + 2) + 6 ≤ ms) ∧ ∀ a23 : Int, a23 = ((((N11 + 1) + 1) : Nat) : Int) → ∀ Λ24, Λ24 = newL Λ22 ((N11 + 1) + 1) 18 6 → ∀ σ25, σ25 = newM σ21 ((N11 + 1) + 1) → (((((((((0 + 1) + 21) + 1) + 221) + 1) + 1) + 1) + 3 ≤ mc ∧ (((((((0 + 3) + 1134) + 3) + 11380) + 2) + 2) + 6) + 305 ≤ ms) ∧ CC l mX9_init (d - 1) 3 305 [(2, a23)] (((N11 + 1) + 1) + 1) Λ24 σ25 (fun N26 Λ27 σ28 => (Ob N26 Λ27 t 20 14 ∧ Ob N26 Λ27 a1 16 3 ∧ Ob N26 Λ27 a8 14 3 ∧ Ob N26 Λ27 a15 4 2 ∧ Ob N26 Λ27 a19 2 2 ∧ Ob N26 Λ27 a23 18 6 ∧ (∀ Λ29, Λ29 = stR Λ27 t 4 a23 → ((((((((((0 + 1) + 21) + 1) + 221) + 1) + 1) + 1) + 3) + 1 ≤ mc ∧ ((((((((0 + 3) + 1134) + 3) + 11380) + 2) + 2) + 6) + 305) + 2 ≤ ms) ∧ ∀ a30 : Int, a30 = ((N26 : Nat) : Int) → ∀ Λ31, Λ31 = newL Λ29 N26 17 2 → ∀ σ32, σ32 = newM σ28 N26 → (((((((((((0 + 1) + 21) + 1) + 221) + 1) + 1) + 1) + 3) + 1) + 1 ≤ mc ∧ (((((((((0 + 3) + 1134) + 3) + 11380) + 2) + 2) + 6) + 305) + 2) + 2 ≤ ms) ∧ CC l mX8_init (d - 1) 1 2 [(2, a30)] (N26 + 1) Λ31 σ32 (fun N33 Λ34 σ35 => (Ob N33 Λ34 t 20 14 ∧ Ob N33 Λ34 a1 16 3 ∧ Ob N33 Λ34 a8 14 3 ∧ Ob N33 Λ34 a15 4 2 ∧ Ob N33 Λ34 a19 2 2 ∧ Ob N33 Λ34 a23 18 6 ∧ Ob N33 Λ34 a30 17 2 ∧ (∀ Λ36, Λ36 = stR Λ34 t 5 a30 → ((((((((((((0 + 1) + 21) + 1) + 221) + 1) + 1) + 1) + 3) + 1) + 1) + 1 ≤ mc ∧ ((((((((((0 + 3) + 1134) + 3) + 11380) + 2) + 2) + 6) + 305) + 2) + 2) + 9 ≤ ms) ∧ ∀ a37 : Int, a37 = ((N33 : Nat) : Int) → ∀ Λ38, Λ38 = newL Λ36 N33 12 9 → ∀ σ39, σ39 = newM σ35 N33 → (((((((((((((0 + 1) + 21) + 1) + 221) + 1) + 1) + 1) + 3) + 1) + 1) + 1) + 315 ≤ mc ∧ (((((((((((0 + 3) + 1134) + 3) + 11380) + 2) + 2) + 6) + 305) + 2) + 2) + 9) + 17063 ≤ ms) ∧ CC l mX2_init (d - 1) 315 17063 [(2, a37)] (N33 + 1) Λ38 σ39 (fun N40 Λ41 σ42 => (Ob N40 Λ41 t 20 14 ∧ Ob N40 Λ41 a1 16 3 ∧ Ob N40 Λ41 a8 14 3 ∧ Ob N40 Λ41 a15 4 2 ∧ Ob N40 Λ41 a19 2 2 ∧ Ob N40 Λ41 a23 18 6 ∧ Ob N40 Λ41 a30 17 2 ∧ Ob N40 Λ41 a37 12 9 ∧ (∀ Λ43, Λ43 = stR Λ41 t 6 a37 → ((((((((((((((0 + 1) + 21) + 1) + 221) + 1) + 1) + 1) + 3) + 1) + 1) + 1) + 315) + 1 ≤ mc ∧ ((((((((((((0 + 3) + 1134) + 3) + 11380) + 2) + 2) + 6) + 305) + 2) + 2) + 9) + 17063) + 5 ≤ ms) ∧ ∀ a44 : Int, a44 = ((N40 : Nat) : Int) → ∀ Λ45, Λ45 = newL Λ43 N40 13 5 → ∀ σ46, σ46 = newM σ42 N40 → (((((((((((((((0 + 1) + 21) + 1) + 221) + 1) + 1) + 1) + 3) + 1) + 1) + 1) + 315) + 1) + 2 ≤ mc ∧ (((((((((((((0 + 3) + 1134) + 3) + 11380) + 2) + 2) + 6) + 305) + 2) + 2) + 9) + 17063) + 5) + 22 ≤ ms) ∧ CC l mX3_init (d - 1) 2 22 [(2, a44)] (N40 + 1) Λ45 σ46 (fun N47 Λ48 σ49 => (Ob N47 Λ48 t 20 14 ∧ Ob N47 Λ48 a1 16 3 ∧ Ob N47 Λ48 a8 14 3 ∧ Ob N47 Λ48 a15 4 2 ∧ Ob N47 Λ48 a19 2 2 ∧ Ob N47 Λ48 a23 18 6 ∧ Ob N47 Λ48 a30 17 2 ∧ Ob N47 Λ48 a37 12 9 ∧ Ob N47 Λ48 a44 13 5 ∧ (∀ Λ50, Λ50 = stR Λ48 t 7 a44 → ((((((((((((((((0 + 1) + 21) + 1) + 221) + 1) + 1) + 1) + 3) + 1) + 1) + 1) + 315) + 1) + 2) + 1 ≤ mc ∧ ((((((((((((((0 + 3) + 1134) + 3) + 11380) + 2) + 2) + 6) + 305) + 2) + 2) + 9) + 17063) + 5) + 22) + 4 ≤ ms) ∧ ∀ a51 : Int, a51 = ((N47 : Nat) : Int) → ∀ Λ52, Λ52 = newL Λ50 N47 10 4 → ∀ σ53, σ53 = newM σ49 N47 → (((((((((((((((((0 + 1) + 21) + 1) + 221) + 1) + 1) + 1) + 3) + 1) + 1) + 1) + 315) + 1) + 2) + 1) + 8 ≤ mc ∧ (((((((((((((((0 + 3) + 1134) + 3) + 11380) + 2) + 2) + 6) + 305) + 2) + 2) + 9) + 17063) + 5) + 22) + 4) + 3366 ≤ ms) ∧ CC l mX0_init (d - 1) 8 3366 [(2, a51)] (N47 + 1) Λ52 σ53 (fun N54 Λ55 σ56 => (Ob N54 Λ55 t 20 14 ∧ Ob N54 Λ55 a1 16 3 ∧ Ob N54 Λ55 a8 14 3 ∧ Ob N54 Λ55 a15 4 2 ∧ Ob N54 Λ55 a19 2 2 ∧ Ob N54 Λ55 a23 18 6 ∧ Ob N54 Λ55 a30 17 2 ∧ Ob N54 Λ55 a37 12 9 ∧ Ob N54 Λ55 a44 13 5 ∧ Ob N54 Λ55 a51 10 4 ∧ (∀ Λ57, Λ57 = stR Λ55 t 8 a51 → ((((((((((((((((((0 + 1) + 21) + 1) + 221) + 1) + 1) + 1) + 3) + 1) + 1) + 1) + 315) + 1) + 2) + 1) + 8) + 1 ≤ mc ∧ ((((((((((((((((0 + 3) + 1134) + 3) + 11380) + 2) + 2) + 6) + 305) + 2) + 2) + 9) + 17063) + 5) + 22) + 4) + 3366) + 6 ≤ ms) ∧ ∀ a58 : Int, a58 = ((N54 : Nat) : Int) → ∀ Λ59, Λ59 = newL Λ57 N54 11 6 → ∀ σ60, σ60 = newM σ56 N54 → (((((((((((((((((((0 + 1) + 21) + 1) + 221) + 1) + 1) + 1) + 3) + 1) + 1) + 1) + 315) + 1) + 2) + 1) + 8) + 1) + 13 ≤ mc ∧ (((((((((((((((((0 + 3) + 1134) + 3) + 11380) + 2) + 2) + 6) + 305) + 2) + 2) + 9) + 17063) + 5) + 22) + 4) + 3366) + 6) + 512 ≤ ms) ∧ CC l mX1_init (d - 1) 13 512 [(2, a58)] (N54 + 1) Λ59 σ60 (fun N61 Λ62 σ63 => (Ob N61 Λ62 t 20 14 ∧ Ob N61 Λ62 a1 16 3 ∧ Ob N61 Λ62 a8 14 3 ∧ Ob N61 Λ62 a15 4 2 ∧ Ob N61 Λ62 a19 2 2 ∧ Ob N61 Λ62 a23 18 6 ∧ Ob N61 Λ62 a30 17 2 ∧ Ob N61 Λ62 a37 12 9 ∧ Ob N61 Λ62 a44 13 5 ∧ Ob N61 Λ62 a51 10 4 ∧ Ob N61 Λ62 a58 11 6 ∧ (∀ Λ64, Λ64 = stR Λ62 t 9 a58 → ((((((((((((((((((((0 + 1) + 21) + 1) + 221) + 1) + 1) + 1) + 3) + 1) + 1) + 1) + 315) + 1) + 2) + 1) + 8) + 1) + 13) + 1 ≤ mc ∧ ((((((((((((((((((0 + 3) + 1134) + 3) + 11380) + 2) + 2) + 6) + 305) + 2) + 2) + 9) + 17063) + 5) + 22) + 4) + 3366) + 6) + 512) + 2 ≤ ms) ∧ ∀ a65 : Int, a65 = ((N61 : Nat) : Int) → ∀ Λ66, Λ66 = newL Λ64 N61 19 2 → ∀ σ67, σ67 = newM σ63 N61 → (((((((((((((((((((((0 + 1) + 21) + 1) + 221) + 1) + 1) + 1) + 3) + 1) + 1) + 1) + 315) + 1) + 2) + 1) + 8) + 1) + 13) + 1) + 0 ≤ mc ∧ (((((((((((((((((((0 + 3) + 1134) + 3) + 11380) + 2) + 2) + 6) + 305) + 2) + 2) + 9) + 17063) + 5) + 22) + 4) + 3366) + 6) + 512) + 2) + 0 ≤ ms) ∧ CC l mX10_init (d - 1) 0 0 [(2, a65)] (N61 + 1) Λ66 σ67 (fun N68 Λ69 σ70 => (Ob N68 Λ69 t 20 14 ∧ Ob N68 Λ69 a1 16 3 ∧ Ob N68 Λ69 a8 14 3 ∧ Ob N68 Λ69 a15 4 2 ∧ Ob N68 Λ69 a19 2 2 ∧ Ob N68 Λ69 a23 18 6 ∧ Ob N68 Λ69 a30 17 2 ∧ Ob N68 Λ69 a37 12 9 ∧ Ob N68 Λ69 a44 13 5 ∧ Ob N68 Λ69 a51 10 4 ∧ Ob N68 Λ69 a58 11 6 ∧ Ob N68 Λ69 a65 19 2 ∧ (∀ Λ71, Λ71 = stR Λ69 t 10 a65 → ((((((((((((((((((((((0 + 1) + 21) + 1) + 221) + 1) + 1) + 1) + 3) + 1) + 1) + 1) + 315) + 1) + 2) + 1) + 8) + 1) + 13) + 1) + 0) + 1 ≤ mc ∧ ((((((((((((((((((((0 + 3) + 1134) + 3) + 11380) + 2) + 2) + 6) + 305) + 2) + 2) + 9) + 17063) + 5) + 22) + 4) + 3366) + 6) + 512) + 2) + 0) + 3 ≤ ms) ∧ ∀ a72 : Int, a72 = ((N68 : Nat) : Int) → ∀ Λ73, Λ73 = newL Λ71 N68 15 3 → ∀ σ74, σ74 = newM σ70 N68 → (((((((((((((((((((((((0 + 1) + 21) + 1) + 221) + 1) + 1) + 1) + 3) + 1) + 1) + 1) + 315) + 1) + 2) + 1) + 8) + 1) + 13) + 1) + 0) + 1) + 2 ≤ mc ∧ (((((((((((((((((((((0 + 3) + 1134) + 3) + 11380) + 2) + 2) + 6) + 305) + 2) + 2) + 9) + 17063) + 5) + 22) + 4) + 3366) + 6) + 512) + 2) + 0) + 3) + 160 ≤ ms) ∧ CC l mX5_init (d - 1) 2 160 [(2, a72)] (N68 + 1) Λ73 σ74 (fun N75 Λ76 σ77 => (Ob N75 Λ76 t 20 14 ∧ Ob N75 Λ76 a1 16 3 ∧ Ob N75 Λ76 a8 14 3 ∧ Ob N75 Λ76 a15 4 2 ∧ Ob N75 Λ76 a19 2 2 ∧ Ob N75 Λ76 a23 18 6 ∧ Ob N75 Λ76 a30 17 2 ∧ Ob N75 Λ76 a37 12 9 ∧ Ob N75 Λ76 a44 13 5 ∧ Ob N75 Λ76 a51 10 4 ∧ Ob N75 Λ76 a58 11 6 ∧ Ob N75 Λ76 a65 19 2 ∧ Ob N75 Λ76 a72 15 3 ∧ (∀ Λ78, Λ78 = stR Λ76 t 11 a72 → ((((((((((((((((((((((((0 + 1) + 21) + 1) + 221) + 1) + 1) + 1) + 3) + 1) + 1) + 1) + 315) + 1) + 2) + 1) + 8) + 1) + 13) + 1) + 0) + 1) + 2) + 1 ≤ mc ∧ ((((((((((((((((((((((0 + 3) + 1134) + 3) + 11380) + 2) + 2) + 6) + 305) + 2) + 2) + 9) + 17063) + 5) + 22) + 4) + 3366) + 6) + 512) + 2) + 0) + 3) + 160) + 3 ≤ ms) ∧ ∀ a79 : Int, a79 = ((N75 : Nat) : Int) → ∀ Λ80, Λ80 = newL Λ78 N75 15 3 → ∀ σ81, σ81 = newM σ77 N75 → (((((((((((((((((((((((((0 + 1) + 21) + 1) + 221) + 1) + 1) + 1) + 3) + 1) + 1) + 1) + 315) + 1) + 2) + 1) + 8) + 1) + 13) + 1) + 0) + 1) + 2) + 1) + 2 ≤ mc ∧ (((((((((((((((((((((((0 + 3) + 1134) + 3) + 11380) + 2) + 2) + 6) + 305) + 2) + 2) + 9) + 17063) + 5) + 22) + 4) + 3366) + 6) + 512) + 2) + 0) + 3) + 160) + 3) + 160 ≤ ms) ∧ CC l mX5_init (d - 1) 2 160 [(2, a79)] (N75 + 1) Λ80 σ81 (fun N82 Λ83 σ84 => (Ob N82 Λ83 t 20 14 ∧ Ob N82 Λ83 a1 16 3 ∧ Ob N82 Λ83 a8 14 3 ∧ Ob N82 Λ83 a15 4 2 ∧ Ob N82 Λ83 a19 2 2 ∧ Ob N82 Λ83 a23 18 6 ∧ Ob N82 Λ83 a30 17 2 ∧ Ob N82 Λ83 a37 12 9 ∧ Ob N82 Λ83 a44 13 5 ∧ Ob N82 Λ83 a51 10 4 ∧ Ob N82 Λ83 a58 11 6 ∧ Ob N82 Λ83 a65 19 2 ∧ Ob N82 Λ83 a72 15 3 ∧ Ob N82 Λ83 a79 15 3 ∧ (∀ Λ85, Λ85 = stR Λ83 t 12 a79 → (∀ τ86, τ86 = st σ84 t 13 0 → WC l mX11_init d mc ms P ((((((((((((((((((((((((0 + 1) + 21) + 1) + 221) + 1) + 1) + 1) + 3) + 1) + 1) + 1) + 315) + 1) + 2) + 1) + 8) + 1) + 13) + 1) + 0) + 1) + 2) + 1) + 2) ((((((((((((((((((((((((0 + 3) + 1134) + 3) + 11380) + 2) + 2) + 6) + 305) + 2) + 2) + 9) + 17063) + 5) + 22) + 4) + 3366) + 6) + 512) + 2) + 0) + 3) + 160) + 3) + 160) 147 [(2, t), (0, 0)] [] N82 Λ85 τ86))))))))))))))))))))))))))))))))))))))))))))))))))))))))))))) :
    WC l mX11_init d mc ms P 0 0 0 [(2, t), (3, 0)] [] N Λ σ := by
  refine r_aload_n (x := t) d_X11_init_0 rfl o_t.1 ?_
  refine y_obj d_X11_init_1 ml_X11_1 o_t.1 h0d (Nat.le_of_ble_eq_true rfl) ?_
  refine r_aload_n (x := t) d_X11_init_4 rfl o_t.1 ?_
  refine y_new (ci := 6) (nf := 3) d_X11_init_5 kX7 cl_X11_7 nw_X7 (by decide) h.1 (fun a1 ea1 Λ2 eΛ2 σ3 eσ3 => ?_)
  have h := h.2 a1 ea1 Λ2 eΛ2 σ3 eσ3
  have o_t := Ob_new eΛ2 o_t
  have o_a1 := Ob_newS eΛ2 ea1
  refine r_dup d_X11_init_8 rfl ?_
  refine y_init (Y2 := mX7_init) (mc2 := 21) (ms2 := 1134) (c := a1) (As := []) (S := [(2, a1), (2, t)]) d_X11_init_9 ok_mX7_init rfl ml_X11_9 rfl (Nat.le_of_ble_eq_true rfl) (Nat.le_of_ble_eq_true rfl) rfl o_a1.1 h0d h.1 (CC.mono h.2 (fun N4 Λ5 σ6 h => ?_))
  have o_t := h.1
  have h := h.2
  have o_a1 := h.1
  have h := h.2
  refine r_putR (j := 0) d_X11_init_12 rfl kX11 (by decide) fl_X11_10 rfl rfl o_t.1 o_t.2.1 o_a1.1 o_t.2.2.1 o_t.2.2.2 rfl ⟨rfl, fun _ => ⟨rfl, rfl⟩⟩ ?_
  refine y_nmL (fun Λ7 eΛ7 => ?_)
  have h := h Λ7 eΛ7
  have o_t := Ob_stR eΛ7 o_t
  have o_a1 := Ob_stR eΛ7 o_a1
  refine r_aload_n (x := t) d_X11_init_15 rfl o_t.1 ?_
  refine y_new (ci := 4) (nf := 3) d_X11_init_16 kX4 cl_X11_16 nw_X4 (by decide) h.1 (fun a8 ea8 Λ9 eΛ9 σ10 eσ10 => ?_)
  have h := h.2 a8 ea8 Λ9 eΛ9 σ10 eσ10
  have o_t := Ob_new eΛ9 o_t
  have o_a1 := Ob_new eΛ9 o_a1
  have o_a8 := Ob_newS eΛ9 ea8
  refine r_dup d_X11_init_19 rfl ?_
  refine y_init (Y2 := mX4_init) (mc2 := 221) (ms2 := 11380) (c := a8) (As := []) (S := [(2, a8), (2, t)]) d_X11_init_20 ok_mX4_init rfl ml_X11_18 rfl (Nat.le_of_ble_eq_true rfl) (Nat.le_of_ble_eq_true rfl) rfl o_a8.1 h0d h.1 (CC.mono h.2 (fun N11 Λ12 σ13 h => ?_))
  have o_t := h.1
  have h := h.2
  have o_a1 := h.1
  have h := h.2
  have o_a8 := h.1
  have h := h.2
  refine r_putR (j := 1) d_X11_init_23 rfl kX11 (by decide) fl_X11_19 rfl rfl o_t.1 o_t.2.1 o_a8.1 o_t.2.2.1 o_t.2.2.2 rfl ⟨rfl, fun _ => ⟨rfl, rfl⟩⟩ ?_
  refine y_nmL (fun Λ14 eΛ14 => ?_)
  have h := h Λ14 eΛ14
  have o_t := Ob_stR eΛ14 o_t
  have o_a1 := Ob_stR eΛ14 o_a1
  have o_a8 := Ob_stR eΛ14 o_a8
  refine r_aload_n (x := t) d_X11_init_26 rfl o_t.1 ?_
  refine r_iconst (x := 2) d_X11_init_27 ⟨by decide, by decide⟩ ?_
  refine y_anew (t := 4) (ln := 2) (C := "BracketDesk$State") d_X11_init_28 cl_X11_7 (by decide) rfl (by decide) (by decide) h.1 (fun a15 ea15 Λ16 eΛ16 σ17 eσ17 => ?_)
  have h := h.2 a15 ea15 Λ16 eΛ16 σ17 eσ17
  have o_t := Ob_new eΛ16 o_t
  have o_a1 := Ob_new eΛ16 o_a1
  have o_a8 := Ob_new eΛ16 o_a8
  have o_a15 := Ob_newS eΛ16 ea15
  refine r_putR (j := 2) d_X11_init_31 rfl kX11 (by decide) fl_X11_23 rfl rfl o_t.1 o_t.2.1 o_a15.1 o_t.2.2.1 o_t.2.2.2 rfl ⟨rfl, fun _ => ⟨rfl, rfl⟩⟩ ?_
  refine y_nmL (fun Λ18 eΛ18 => ?_)
  have h := h Λ18 eΛ18
  have o_t := Ob_stR eΛ18 o_t
  have o_a1 := Ob_stR eΛ18 o_a1
  have o_a8 := Ob_stR eΛ18 o_a8
  have o_a15 := Ob_stR eΛ18 o_a15
  refine r_aload_n (x := t) d_X11_init_34 rfl o_t.1 ?_
  refine r_iconst (x := 2) d_X11_init_35 ⟨by decide, by decide⟩ ?_
  refine y_newa (t := 2) (ln := 2) d_X11_init_36 rfl (by decide) ac_boolean rfl (by decide) (by decide) h.1 (fun a19 ea19 Λ20 eΛ20 σ21 eσ21 => ?_)
  have h := h.2 a19 ea19 Λ20 eΛ20 σ21 eσ21
  have o_t := Ob_new eΛ20 o_t
  have o_a1 := Ob_new eΛ20 o_a1
  have o_a8 := Ob_new eΛ20 o_a8
  have o_a15 := Ob_new eΛ20 o_a15
  have o_a19 := Ob_newS eΛ20 ea19
  refine r_putR (j := 3) d_X11_init_38 rfl kX11 (by decide) fl_X11_27 rfl rfl o_t.1 o_t.2.1 o_a19.1 o_t.2.2.1 o_t.2.2.2 rfl ⟨rfl, fun _ => ⟨rfl, rfl⟩⟩ ?_
  refine y_nmL (fun Λ22 eΛ22 => ?_)
  have h := h Λ22 eΛ22
  have o_t := Ob_stR eΛ22 o_t
  have o_a1 := Ob_stR eΛ22 o_a1
  have o_a8 := Ob_stR eΛ22 o_a8
  have o_a15 := Ob_stR eΛ22 o_a15
  have o_a19 := Ob_stR eΛ22 o_a19
  refine r_aload_n (x := t) d_X11_init_41 rfl o_t.1 ?_
  refine y_new (ci := 8) (nf := 6) d_X11_init_42 kX9 cl_X11_31 nw_X9 (by decide) h.1 (fun a23 ea23 Λ24 eΛ24 σ25 eσ25 => ?_)
  have h := h.2 a23 ea23 Λ24 eΛ24 σ25 eσ25
  have o_t := Ob_new eΛ24 o_t
  have o_a1 := Ob_new eΛ24 o_a1
  have o_a8 := Ob_new eΛ24 o_a8
  have o_a15 := Ob_new eΛ24 o_a15
  have o_a19 := Ob_new eΛ24 o_a19
  have o_a23 := Ob_newS eΛ24 ea23
  refine r_dup d_X11_init_45 rfl ?_
  refine y_init (Y2 := mX9_init) (mc2 := 3) (ms2 := 305) (c := a23) (As := []) (S := [(2, a23), (2, t)]) d_X11_init_46 ok_mX9_init rfl ml_X11_33 rfl (Nat.le_of_ble_eq_true rfl) (Nat.le_of_ble_eq_true rfl) rfl o_a23.1 h0d h.1 (CC.mono h.2 (fun N26 Λ27 σ28 h => ?_))
  have o_t := h.1
  have h := h.2
  have o_a1 := h.1
  have h := h.2
  have o_a8 := h.1
  have h := h.2
  have o_a15 := h.1
  have h := h.2
  have o_a19 := h.1
  have h := h.2
  have o_a23 := h.1
  have h := h.2
  refine r_putR (j := 4) d_X11_init_49 rfl kX11 (by decide) fl_X11_34 rfl rfl o_t.1 o_t.2.1 o_a23.1 o_t.2.2.1 o_t.2.2.2 rfl ⟨rfl, fun _ => ⟨rfl, rfl⟩⟩ ?_
  refine y_nmL (fun Λ29 eΛ29 => ?_)
  have h := h Λ29 eΛ29
  have o_t := Ob_stR eΛ29 o_t
  have o_a1 := Ob_stR eΛ29 o_a1
  have o_a8 := Ob_stR eΛ29 o_a8
  have o_a15 := Ob_stR eΛ29 o_a15
  have o_a19 := Ob_stR eΛ29 o_a19
  have o_a23 := Ob_stR eΛ29 o_a23
  refine r_aload_n (x := t) d_X11_init_52 rfl o_t.1 ?_
  refine y_new (ci := 7) (nf := 2) d_X11_init_53 kX8 cl_X11_38 nw_X8 (by decide) h.1 (fun a30 ea30 Λ31 eΛ31 σ32 eσ32 => ?_)
  have h := h.2 a30 ea30 Λ31 eΛ31 σ32 eσ32
  have o_t := Ob_new eΛ31 o_t
  have o_a1 := Ob_new eΛ31 o_a1
  have o_a8 := Ob_new eΛ31 o_a8
  have o_a15 := Ob_new eΛ31 o_a15
  have o_a19 := Ob_new eΛ31 o_a19
  have o_a23 := Ob_new eΛ31 o_a23
  have o_a30 := Ob_newS eΛ31 ea30
  refine r_dup d_X11_init_56 rfl ?_
  refine y_init (Y2 := mX8_init) (mc2 := 1) (ms2 := 2) (c := a30) (As := []) (S := [(2, a30), (2, t)]) d_X11_init_57 ok_mX8_init rfl ml_X11_40 rfl (Nat.le_of_ble_eq_true rfl) (Nat.le_of_ble_eq_true rfl) rfl o_a30.1 h0d h.1 (CC.mono h.2 (fun N33 Λ34 σ35 h => ?_))
  have o_t := h.1
  have h := h.2
  have o_a1 := h.1
  have h := h.2
  have o_a8 := h.1
  have h := h.2
  have o_a15 := h.1
  have h := h.2
  have o_a19 := h.1
  have h := h.2
  have o_a23 := h.1
  have h := h.2
  have o_a30 := h.1
  have h := h.2
  refine r_putR (j := 5) d_X11_init_60 rfl kX11 (by decide) fl_X11_41 rfl rfl o_t.1 o_t.2.1 o_a30.1 o_t.2.2.1 o_t.2.2.2 rfl ⟨rfl, fun _ => ⟨rfl, rfl⟩⟩ ?_
  refine y_nmL (fun Λ36 eΛ36 => ?_)
  have h := h Λ36 eΛ36
  have o_t := Ob_stR eΛ36 o_t
  have o_a1 := Ob_stR eΛ36 o_a1
  have o_a8 := Ob_stR eΛ36 o_a8
  have o_a15 := Ob_stR eΛ36 o_a15
  have o_a19 := Ob_stR eΛ36 o_a19
  have o_a23 := Ob_stR eΛ36 o_a23
  have o_a30 := Ob_stR eΛ36 o_a30
  refine r_aload_n (x := t) d_X11_init_63 rfl o_t.1 ?_
  refine y_new (ci := 2) (nf := 9) d_X11_init_64 kX2 cl_X11_45 nw_X2 (by decide) h.1 (fun a37 ea37 Λ38 eΛ38 σ39 eσ39 => ?_)
  have h := h.2 a37 ea37 Λ38 eΛ38 σ39 eσ39
  have o_t := Ob_new eΛ38 o_t
  have o_a1 := Ob_new eΛ38 o_a1
  have o_a8 := Ob_new eΛ38 o_a8
  have o_a15 := Ob_new eΛ38 o_a15
  have o_a19 := Ob_new eΛ38 o_a19
  have o_a23 := Ob_new eΛ38 o_a23
  have o_a30 := Ob_new eΛ38 o_a30
  have o_a37 := Ob_newS eΛ38 ea37
  refine r_dup d_X11_init_67 rfl ?_
  refine y_init (Y2 := mX2_init) (mc2 := 315) (ms2 := 17063) (c := a37) (As := []) (S := [(2, a37), (2, t)]) d_X11_init_68 ok_mX2_init rfl ml_X11_47 rfl (Nat.le_of_ble_eq_true rfl) (Nat.le_of_ble_eq_true rfl) rfl o_a37.1 h0d h.1 (CC.mono h.2 (fun N40 Λ41 σ42 h => ?_))
  have o_t := h.1
  have h := h.2
  have o_a1 := h.1
  have h := h.2
  have o_a8 := h.1
  have h := h.2
  have o_a15 := h.1
  have h := h.2
  have o_a19 := h.1
  have h := h.2
  have o_a23 := h.1
  have h := h.2
  have o_a30 := h.1
  have h := h.2
  have o_a37 := h.1
  have h := h.2
  refine r_putR (j := 6) d_X11_init_71 rfl kX11 (by decide) fl_X11_48 rfl rfl o_t.1 o_t.2.1 o_a37.1 o_t.2.2.1 o_t.2.2.2 rfl ⟨rfl, fun _ => ⟨rfl, rfl⟩⟩ ?_
  refine y_nmL (fun Λ43 eΛ43 => ?_)
  have h := h Λ43 eΛ43
  have o_t := Ob_stR eΛ43 o_t
  have o_a1 := Ob_stR eΛ43 o_a1
  have o_a8 := Ob_stR eΛ43 o_a8
  have o_a15 := Ob_stR eΛ43 o_a15
  have o_a19 := Ob_stR eΛ43 o_a19
  have o_a23 := Ob_stR eΛ43 o_a23
  have o_a30 := Ob_stR eΛ43 o_a30
  have o_a37 := Ob_stR eΛ43 o_a37
  refine r_aload_n (x := t) d_X11_init_74 rfl o_t.1 ?_
  refine y_new (ci := 3) (nf := 5) d_X11_init_75 kX3 cl_X11_52 nw_X3 (by decide) h.1 (fun a44 ea44 Λ45 eΛ45 σ46 eσ46 => ?_)
  have h := h.2 a44 ea44 Λ45 eΛ45 σ46 eσ46
  have o_t := Ob_new eΛ45 o_t
  have o_a1 := Ob_new eΛ45 o_a1
  have o_a8 := Ob_new eΛ45 o_a8
  have o_a15 := Ob_new eΛ45 o_a15
  have o_a19 := Ob_new eΛ45 o_a19
  have o_a23 := Ob_new eΛ45 o_a23
  have o_a30 := Ob_new eΛ45 o_a30
  have o_a37 := Ob_new eΛ45 o_a37
  have o_a44 := Ob_newS eΛ45 ea44
  refine r_dup d_X11_init_78 rfl ?_
  refine y_init (Y2 := mX3_init) (mc2 := 2) (ms2 := 22) (c := a44) (As := []) (S := [(2, a44), (2, t)]) d_X11_init_79 ok_mX3_init rfl ml_X11_54 rfl (Nat.le_of_ble_eq_true rfl) (Nat.le_of_ble_eq_true rfl) rfl o_a44.1 h0d h.1 (CC.mono h.2 (fun N47 Λ48 σ49 h => ?_))
  have o_t := h.1
  have h := h.2
  have o_a1 := h.1
  have h := h.2
  have o_a8 := h.1
  have h := h.2
  have o_a15 := h.1
  have h := h.2
  have o_a19 := h.1
  have h := h.2
  have o_a23 := h.1
  have h := h.2
  have o_a30 := h.1
  have h := h.2
  have o_a37 := h.1
  have h := h.2
  have o_a44 := h.1
  have h := h.2
  refine r_putR (j := 7) d_X11_init_82 rfl kX11 (by decide) fl_X11_55 rfl rfl o_t.1 o_t.2.1 o_a44.1 o_t.2.2.1 o_t.2.2.2 rfl ⟨rfl, fun _ => ⟨rfl, rfl⟩⟩ ?_
  refine y_nmL (fun Λ50 eΛ50 => ?_)
  have h := h Λ50 eΛ50
  have o_t := Ob_stR eΛ50 o_t
  have o_a1 := Ob_stR eΛ50 o_a1
  have o_a8 := Ob_stR eΛ50 o_a8
  have o_a15 := Ob_stR eΛ50 o_a15
  have o_a19 := Ob_stR eΛ50 o_a19
  have o_a23 := Ob_stR eΛ50 o_a23
  have o_a30 := Ob_stR eΛ50 o_a30
  have o_a37 := Ob_stR eΛ50 o_a37
  have o_a44 := Ob_stR eΛ50 o_a44
  refine r_aload_n (x := t) d_X11_init_85 rfl o_t.1 ?_
  refine y_new (ci := 0) (nf := 4) d_X11_init_86 kX0 cl_X11_59 nw_X0 (by decide) h.1 (fun a51 ea51 Λ52 eΛ52 σ53 eσ53 => ?_)
  have h := h.2 a51 ea51 Λ52 eΛ52 σ53 eσ53
  have o_t := Ob_new eΛ52 o_t
  have o_a1 := Ob_new eΛ52 o_a1
  have o_a8 := Ob_new eΛ52 o_a8
  have o_a15 := Ob_new eΛ52 o_a15
  have o_a19 := Ob_new eΛ52 o_a19
  have o_a23 := Ob_new eΛ52 o_a23
  have o_a30 := Ob_new eΛ52 o_a30
  have o_a37 := Ob_new eΛ52 o_a37
  have o_a44 := Ob_new eΛ52 o_a44
  have o_a51 := Ob_newS eΛ52 ea51
  refine r_dup d_X11_init_89 rfl ?_
  refine y_init (Y2 := mX0_init) (mc2 := 8) (ms2 := 3366) (c := a51) (As := []) (S := [(2, a51), (2, t)]) d_X11_init_90 ok_mX0_init rfl ml_X11_61 rfl (Nat.le_of_ble_eq_true rfl) (Nat.le_of_ble_eq_true rfl) rfl o_a51.1 h0d h.1 (CC.mono h.2 (fun N54 Λ55 σ56 h => ?_))
  have o_t := h.1
  have h := h.2
  have o_a1 := h.1
  have h := h.2
  have o_a8 := h.1
  have h := h.2
  have o_a15 := h.1
  have h := h.2
  have o_a19 := h.1
  have h := h.2
  have o_a23 := h.1
  have h := h.2
  have o_a30 := h.1
  have h := h.2
  have o_a37 := h.1
  have h := h.2
  have o_a44 := h.1
  have h := h.2
  have o_a51 := h.1
  have h := h.2
  refine r_putR (j := 8) d_X11_init_93 rfl kX11 (by decide) fl_X11_62 rfl rfl o_t.1 o_t.2.1 o_a51.1 o_t.2.2.1 o_t.2.2.2 rfl ⟨rfl, fun _ => ⟨rfl, rfl⟩⟩ ?_
  refine y_nmL (fun Λ57 eΛ57 => ?_)
  have h := h Λ57 eΛ57
  have o_t := Ob_stR eΛ57 o_t
  have o_a1 := Ob_stR eΛ57 o_a1
  have o_a8 := Ob_stR eΛ57 o_a8
  have o_a15 := Ob_stR eΛ57 o_a15
  have o_a19 := Ob_stR eΛ57 o_a19
  have o_a23 := Ob_stR eΛ57 o_a23
  have o_a30 := Ob_stR eΛ57 o_a30
  have o_a37 := Ob_stR eΛ57 o_a37
  have o_a44 := Ob_stR eΛ57 o_a44
  have o_a51 := Ob_stR eΛ57 o_a51
  refine r_aload_n (x := t) d_X11_init_96 rfl o_t.1 ?_
  refine y_new (ci := 1) (nf := 6) d_X11_init_97 kX1 cl_X11_66 nw_X1 (by decide) h.1 (fun a58 ea58 Λ59 eΛ59 σ60 eσ60 => ?_)
  have h := h.2 a58 ea58 Λ59 eΛ59 σ60 eσ60
  have o_t := Ob_new eΛ59 o_t
  have o_a1 := Ob_new eΛ59 o_a1
  have o_a8 := Ob_new eΛ59 o_a8
  have o_a15 := Ob_new eΛ59 o_a15
  have o_a19 := Ob_new eΛ59 o_a19
  have o_a23 := Ob_new eΛ59 o_a23
  have o_a30 := Ob_new eΛ59 o_a30
  have o_a37 := Ob_new eΛ59 o_a37
  have o_a44 := Ob_new eΛ59 o_a44
  have o_a51 := Ob_new eΛ59 o_a51
  have o_a58 := Ob_newS eΛ59 ea58
  refine r_dup d_X11_init_100 rfl ?_
  refine y_init (Y2 := mX1_init) (mc2 := 13) (ms2 := 512) (c := a58) (As := []) (S := [(2, a58), (2, t)]) d_X11_init_101 ok_mX1_init rfl ml_X11_68 rfl (Nat.le_of_ble_eq_true rfl) (Nat.le_of_ble_eq_true rfl) rfl o_a58.1 h0d h.1 (CC.mono h.2 (fun N61 Λ62 σ63 h => ?_))
  have o_t := h.1
  have h := h.2
  have o_a1 := h.1
  have h := h.2
  have o_a8 := h.1
  have h := h.2
  have o_a15 := h.1
  have h := h.2
  have o_a19 := h.1
  have h := h.2
  have o_a23 := h.1
  have h := h.2
  have o_a30 := h.1
  have h := h.2
  have o_a37 := h.1
  have h := h.2
  have o_a44 := h.1
  have h := h.2
  have o_a51 := h.1
  have h := h.2
  have o_a58 := h.1
  have h := h.2
  refine r_putR (j := 9) d_X11_init_104 rfl kX11 (by decide) fl_X11_69 rfl rfl o_t.1 o_t.2.1 o_a58.1 o_t.2.2.1 o_t.2.2.2 rfl ⟨rfl, fun _ => ⟨rfl, rfl⟩⟩ ?_
  refine y_nmL (fun Λ64 eΛ64 => ?_)
  have h := h Λ64 eΛ64
  have o_t := Ob_stR eΛ64 o_t
  have o_a1 := Ob_stR eΛ64 o_a1
  have o_a8 := Ob_stR eΛ64 o_a8
  have o_a15 := Ob_stR eΛ64 o_a15
  have o_a19 := Ob_stR eΛ64 o_a19
  have o_a23 := Ob_stR eΛ64 o_a23
  have o_a30 := Ob_stR eΛ64 o_a30
  have o_a37 := Ob_stR eΛ64 o_a37
  have o_a44 := Ob_stR eΛ64 o_a44
  have o_a51 := Ob_stR eΛ64 o_a51
  have o_a58 := Ob_stR eΛ64 o_a58
  refine r_aload_n (x := t) d_X11_init_107 rfl o_t.1 ?_
  refine y_new (ci := 9) (nf := 2) d_X11_init_108 kX10 cl_X11_73 nw_X10 (by decide) h.1 (fun a65 ea65 Λ66 eΛ66 σ67 eσ67 => ?_)
  have h := h.2 a65 ea65 Λ66 eΛ66 σ67 eσ67
  have o_t := Ob_new eΛ66 o_t
  have o_a1 := Ob_new eΛ66 o_a1
  have o_a8 := Ob_new eΛ66 o_a8
  have o_a15 := Ob_new eΛ66 o_a15
  have o_a19 := Ob_new eΛ66 o_a19
  have o_a23 := Ob_new eΛ66 o_a23
  have o_a30 := Ob_new eΛ66 o_a30
  have o_a37 := Ob_new eΛ66 o_a37
  have o_a44 := Ob_new eΛ66 o_a44
  have o_a51 := Ob_new eΛ66 o_a51
  have o_a58 := Ob_new eΛ66 o_a58
  have o_a65 := Ob_newS eΛ66 ea65
  refine r_dup d_X11_init_111 rfl ?_
  refine y_init (Y2 := mX10_init) (mc2 := 0) (ms2 := 0) (c := a65) (As := []) (S := [(2, a65), (2, t)]) d_X11_init_112 ok_mX10_init rfl ml_X11_75 rfl (Nat.le_of_ble_eq_true rfl) (Nat.le_of_ble_eq_true rfl) rfl o_a65.1 h0d h.1 (CC.mono h.2 (fun N68 Λ69 σ70 h => ?_))
  have o_t := h.1
  have h := h.2
  have o_a1 := h.1
  have h := h.2
  have o_a8 := h.1
  have h := h.2
  have o_a15 := h.1
  have h := h.2
  have o_a19 := h.1
  have h := h.2
  have o_a23 := h.1
  have h := h.2
  have o_a30 := h.1
  have h := h.2
  have o_a37 := h.1
  have h := h.2
  have o_a44 := h.1
  have h := h.2
  have o_a51 := h.1
  have h := h.2
  have o_a58 := h.1
  have h := h.2
  have o_a65 := h.1
  have h := h.2
  refine r_putR (j := 10) d_X11_init_115 rfl kX11 (by decide) fl_X11_76 rfl rfl o_t.1 o_t.2.1 o_a65.1 o_t.2.2.1 o_t.2.2.2 rfl ⟨rfl, fun _ => ⟨rfl, rfl⟩⟩ ?_
  refine y_nmL (fun Λ71 eΛ71 => ?_)
  have h := h Λ71 eΛ71
  have o_t := Ob_stR eΛ71 o_t
  have o_a1 := Ob_stR eΛ71 o_a1
  have o_a8 := Ob_stR eΛ71 o_a8
  have o_a15 := Ob_stR eΛ71 o_a15
  have o_a19 := Ob_stR eΛ71 o_a19
  have o_a23 := Ob_stR eΛ71 o_a23
  have o_a30 := Ob_stR eΛ71 o_a30
  have o_a37 := Ob_stR eΛ71 o_a37
  have o_a44 := Ob_stR eΛ71 o_a44
  have o_a51 := Ob_stR eΛ71 o_a51
  have o_a58 := Ob_stR eΛ71 o_a58
  have o_a65 := Ob_stR eΛ71 o_a65
  refine r_aload_n (x := t) d_X11_init_118 rfl o_t.1 ?_
  refine y_new (ci := 5) (nf := 3) d_X11_init_119 kX5 cl_X11_80 nw_X5 (by decide) h.1 (fun a72 ea72 Λ73 eΛ73 σ74 eσ74 => ?_)
  have h := h.2 a72 ea72 Λ73 eΛ73 σ74 eσ74
  have o_t := Ob_new eΛ73 o_t
  have o_a1 := Ob_new eΛ73 o_a1
  have o_a8 := Ob_new eΛ73 o_a8
  have o_a15 := Ob_new eΛ73 o_a15
  have o_a19 := Ob_new eΛ73 o_a19
  have o_a23 := Ob_new eΛ73 o_a23
  have o_a30 := Ob_new eΛ73 o_a30
  have o_a37 := Ob_new eΛ73 o_a37
  have o_a44 := Ob_new eΛ73 o_a44
  have o_a51 := Ob_new eΛ73 o_a51
  have o_a58 := Ob_new eΛ73 o_a58
  have o_a65 := Ob_new eΛ73 o_a65
  have o_a72 := Ob_newS eΛ73 ea72
  refine r_dup d_X11_init_122 rfl ?_
  refine y_init (Y2 := mX5_init) (mc2 := 2) (ms2 := 160) (c := a72) (As := []) (S := [(2, a72), (2, t)]) d_X11_init_123 ok_mX5_init rfl ml_X11_82 rfl (Nat.le_of_ble_eq_true rfl) (Nat.le_of_ble_eq_true rfl) rfl o_a72.1 h0d h.1 (CC.mono h.2 (fun N75 Λ76 σ77 h => ?_))
  have o_t := h.1
  have h := h.2
  have o_a1 := h.1
  have h := h.2
  have o_a8 := h.1
  have h := h.2
  have o_a15 := h.1
  have h := h.2
  have o_a19 := h.1
  have h := h.2
  have o_a23 := h.1
  have h := h.2
  have o_a30 := h.1
  have h := h.2
  have o_a37 := h.1
  have h := h.2
  have o_a44 := h.1
  have h := h.2
  have o_a51 := h.1
  have h := h.2
  have o_a58 := h.1
  have h := h.2
  have o_a65 := h.1
  have h := h.2
  have o_a72 := h.1
  have h := h.2
  refine r_putR (j := 11) d_X11_init_126 rfl kX11 (by decide) fl_X11_83 rfl rfl o_t.1 o_t.2.1 o_a72.1 o_t.2.2.1 o_t.2.2.2 rfl ⟨rfl, fun _ => ⟨rfl, rfl⟩⟩ ?_
  refine y_nmL (fun Λ78 eΛ78 => ?_)
  have h := h Λ78 eΛ78
  have o_t := Ob_stR eΛ78 o_t
  have o_a1 := Ob_stR eΛ78 o_a1
  have o_a8 := Ob_stR eΛ78 o_a8
  have o_a15 := Ob_stR eΛ78 o_a15
  have o_a19 := Ob_stR eΛ78 o_a19
  have o_a23 := Ob_stR eΛ78 o_a23
  have o_a30 := Ob_stR eΛ78 o_a30
  have o_a37 := Ob_stR eΛ78 o_a37
  have o_a44 := Ob_stR eΛ78 o_a44
  have o_a51 := Ob_stR eΛ78 o_a51
  have o_a58 := Ob_stR eΛ78 o_a58
  have o_a65 := Ob_stR eΛ78 o_a65
  have o_a72 := Ob_stR eΛ78 o_a72
  refine r_aload_n (x := t) d_X11_init_129 rfl o_t.1 ?_
  refine y_new (ci := 5) (nf := 3) d_X11_init_130 kX5 cl_X11_80 nw_X5 (by decide) h.1 (fun a79 ea79 Λ80 eΛ80 σ81 eσ81 => ?_)
  have h := h.2 a79 ea79 Λ80 eΛ80 σ81 eσ81
  have o_t := Ob_new eΛ80 o_t
  have o_a1 := Ob_new eΛ80 o_a1
  have o_a8 := Ob_new eΛ80 o_a8
  have o_a15 := Ob_new eΛ80 o_a15
  have o_a19 := Ob_new eΛ80 o_a19
  have o_a23 := Ob_new eΛ80 o_a23
  have o_a30 := Ob_new eΛ80 o_a30
  have o_a37 := Ob_new eΛ80 o_a37
  have o_a44 := Ob_new eΛ80 o_a44
  have o_a51 := Ob_new eΛ80 o_a51
  have o_a58 := Ob_new eΛ80 o_a58
  have o_a65 := Ob_new eΛ80 o_a65
  have o_a72 := Ob_new eΛ80 o_a72
  have o_a79 := Ob_newS eΛ80 ea79
  refine r_dup d_X11_init_133 rfl ?_
  refine y_init (Y2 := mX5_init) (mc2 := 2) (ms2 := 160) (c := a79) (As := []) (S := [(2, a79), (2, t)]) d_X11_init_134 ok_mX5_init rfl ml_X11_82 rfl (Nat.le_of_ble_eq_true rfl) (Nat.le_of_ble_eq_true rfl) rfl o_a79.1 h0d h.1 (CC.mono h.2 (fun N82 Λ83 σ84 h => ?_))
  have o_t := h.1
  have h := h.2
  have o_a1 := h.1
  have h := h.2
  have o_a8 := h.1
  have h := h.2
  have o_a15 := h.1
  have h := h.2
  have o_a19 := h.1
  have h := h.2
  have o_a23 := h.1
  have h := h.2
  have o_a30 := h.1
  have h := h.2
  have o_a37 := h.1
  have h := h.2
  have o_a44 := h.1
  have h := h.2
  have o_a51 := h.1
  have h := h.2
  have o_a58 := h.1
  have h := h.2
  have o_a65 := h.1
  have h := h.2
  have o_a72 := h.1
  have h := h.2
  have o_a79 := h.1
  have h := h.2
  refine r_putR (j := 12) d_X11_init_137 rfl kX11 (by decide) fl_X11_87 rfl rfl o_t.1 o_t.2.1 o_a79.1 o_t.2.2.1 o_t.2.2.2 rfl ⟨rfl, fun _ => ⟨rfl, rfl⟩⟩ ?_
  refine y_nmL (fun Λ85 eΛ85 => ?_)
  have h := h Λ85 eΛ85
  have o_t := Ob_stR eΛ85 o_t
  have o_a1 := Ob_stR eΛ85 o_a1
  have o_a8 := Ob_stR eΛ85 o_a8
  have o_a15 := Ob_stR eΛ85 o_a15
  have o_a19 := Ob_stR eΛ85 o_a19
  have o_a23 := Ob_stR eΛ85 o_a23
  have o_a30 := Ob_stR eΛ85 o_a30
  have o_a37 := Ob_stR eΛ85 o_a37
  have o_a44 := Ob_stR eΛ85 o_a44
  have o_a51 := Ob_stR eΛ85 o_a51
  have o_a58 := Ob_stR eΛ85 o_a58
  have o_a65 := Ob_stR eΛ85 o_a65
  have o_a72 := Ob_stR eΛ85 o_a72
  have o_a79 := Ob_stR eΛ85 o_a79
  refine r_aload_n (x := t) d_X11_init_140 rfl o_t.1 ?_
  refine r_iconst (x := 0) d_X11_init_141 ⟨by decide, by decide⟩ ?_
  refine r_putI (j := 13) d_X11_init_142 kX11 (by decide) fl_X11_90 rfl o_t.1 o_t.2.1 o_t.2.2.1 o_t.2.2.2 rfl ?_
  refine r_nmM (fun τ86 eτ86 => ?_)
  have h := h τ86 eτ86
  refine r_iconst (x := 0) d_X11_init_145 ⟨by decide, by decide⟩ ?_
  refine r_istore_n (L2 := [(2, t), (0, 0)]) d_X11_init_146 (by decide) rfl rfl ?_
  exact h
theorem v_X11_init_147 {l : Launch} {d mc ms k n N : Nat} {Λ : Lay} {P : Nat → Lay → Mem → Prop} {σ : Mem} {t x1 : Int} (o_t : Ob N Λ t 20 14) (h0d : 1 ≤ d)
    (h : ((2 ≤ x1 → ((k ≤ mc ∧ n ≤ ms) ∧ P N Λ σ)) ∧ (¬ (2 ≤ x1) → (∀ b1, b1 = (Λ t).2.2 2 → ∃ n2 : Int, Ob N Λ b1 4 n2 ∧ ((k + 1 ≤ mc ∧ n + 3 ≤ ms) ∧ ∀ a3 : Int, a3 = ((N : Nat) : Int) → ∀ Λ4, Λ4 = newL Λ N 16 3 → ∀ σ5, σ5 = newM σ N → (((k + 1) + 21 ≤ mc ∧ (n + 3) + 1134 ≤ ms) ∧ CC l mX7_init (d - 1) 21 1134 [(2, a3)] (N + 1) Λ4 σ5 (fun N6 Λ7 σ8 => (Ob N6 Λ7 t 20 14 ∧ Ob N6 Λ7 b1 4 n2 ∧ Ob N6 Λ7 a3 16 3 ∧ ((0 ≤ x1 ∧ x1 < n2) ∧ ∀ Λ9, Λ9 = stR Λ7 b1 x1 a3 → (∀ y10, y10 = addI x1 1 → WC l mX11_init d mc ms P ((k + 1) + 21) ((n + 3) + 1134) 147 [(2, t), (0, y10)] [] N6 Λ9 σ8)))))))))) :
    WC l mX11_init d mc ms P k n 147 [(2, t), (0, x1)] [] N Λ σ := by
  refine r_iload_n (x := x1) d_X11_init_147 rfl ?_
  refine r_iconst (x := 2) d_X11_init_148 ⟨by decide, by decide⟩ ?_
  refine r_ic_ge (tgt := 171) d_X11_init_149 rfl (fun hc => ?_) (fun hc => ?_)
  · have h := h.1 hc
    exact y_vret d_X11_init_171 rfl h.1 h.2
  · have h := h.2 hc
    refine r_aload_n (x := t) d_X11_init_152 rfl o_t.1 ?_
    refine r_nmR (j := 2) d_X11_init_153 kX11 (by decide) fl_X11_23 o_t rfl (fun b1 eb1 => ?_)
    have h := h b1 eb1
    obtain ⟨n2, o_b1, h⟩ := h
    refine r_iload_n (x := x1) d_X11_init_156 rfl ?_
    refine y_new (ci := 6) (nf := 3) d_X11_init_157 kX7 cl_X11_7 nw_X7 (by decide) h.1 (fun a3 ea3 Λ4 eΛ4 σ5 eσ5 => ?_)
    have h := h.2 a3 ea3 Λ4 eΛ4 σ5 eσ5
    have o_t := Ob_new eΛ4 o_t
    have o_b1 := Ob_new eΛ4 o_b1
    have o_a3 := Ob_newS eΛ4 ea3
    refine r_dup d_X11_init_160 rfl ?_
    refine y_init (Y2 := mX7_init) (mc2 := 21) (ms2 := 1134) (c := a3) (As := []) (S := [(2, a3), (0, x1), (2, b1)]) d_X11_init_161 ok_mX7_init rfl ml_X11_9 rfl (Nat.le_of_ble_eq_true rfl) (Nat.le_of_ble_eq_true rfl) rfl o_a3.1 h0d h.1 (CC.mono h.2 (fun N6 Λ7 σ8 h => ?_))
    have o_t := h.1
    have h := h.2
    have o_b1 := h.1
    have h := h.2
    have o_a3 := h.1
    have h := h.2
    refine r_aast (t := 4) d_X11_init_164 kX7 (by decide) o_b1 h.1.1 h.1.2 o_a3 ?_
    have h := h.2
    refine y_nmL (fun Λ9 eΛ9 => ?_)
    have h := h Λ9 eΛ9
    have o_t := Ob_stR eΛ9 o_t
    have o_b1 := Ob_stR eΛ9 o_b1
    have o_a3 := Ob_stR eΛ9 o_a3
    refine x_iinc (x := x1) (L := [(2, t), (0, x1)]) d_X11_init_165 rfl (by decide) rfl (fun y10 ey10 => ?_)
    have h := h y10 ey10
    show WP _ _ _ _ _ _ _ _ [(2, t), (0, y10)] _ _ _ _
    refine r_goto (tgt := 147) d_X11_init_168 rfl ?_
    exact h
theorem v_X12_init_0 {l : Launch} {d mc ms N : Nat} {Λ : Lay} {P : Nat → Lay → Mem → Prop} {σ : Mem} {t : Int} (o_t : Ob N Λ t 21 36) (h0d : 1 ≤ d)
    (h : ((0 + 1 ≤ mc ∧ 0 + 1000 ≤ ms) ∧ ∀ a1 : Int, a1 = ((N : Nat) : Int) → ∀ Λ2, Λ2 = newL Λ N 0 1000 → ∀ σ3, σ3 = newM σ N → (∀ Λ4, Λ4 = stR Λ2 t 1 a1 → (((0 + 1) + 1 ≤ mc ∧ (0 + 1000) + 363 ≤ ms) ∧ ∀ a5 : Int, a5 = (((N + 1) : Nat) : Int) → ∀ Λ6, Λ6 = newL Λ4 (N + 1) 0 363 → ∀ σ7, σ7 = newM σ3 (N + 1) → (∀ Λ8, Λ8 = stR Λ6 t 2 a5 → ((((0 + 1) + 1) + 1 ≤ mc ∧ ((0 + 1000) + 363) + 3348 ≤ ms) ∧ ∀ a9 : Int, a9 = ((((N + 1) + 1) : Nat) : Int) → ∀ Λ10, Λ10 = newL Λ8 ((N + 1) + 1) 0 3348 → ∀ σ11, σ11 = newM σ7 ((N + 1) + 1) → (∀ Λ12, Λ12 = stR Λ10 t 3 a9 → (((((0 + 1) + 1) + 1) + 1 ≤ mc ∧ (((0 + 1000) + 363) + 3348) + 11160 ≤ ms) ∧ ∀ a13 : Int, a13 = (((((N + 1) + 1) + 1) : Nat) : Int) → ∀ Λ14, Λ14 = newL Λ12 (((N + 1) + 1) + 1) 0 11160 → ∀ σ15, σ15 = newM σ11 (((N + 1) + 1) + 1) → (∀ Λ16, Λ16 = stR Λ14 t 4 a13 → ((((((0 + 1) + 1) + 1) + 1) + 1 ≤ mc ∧ ((((0 + 1000) + 363) + 3348) + 11160) + 2 ≤ ms) ∧ ∀ a17 : Int, a17 = ((((((N + 1) + 1) + 1) + 1) : Nat) : Int) → ∀ Λ18, Λ18 = newL Λ16 ((((N + 1) + 1) + 1) + 1) 2 2 → ∀ σ19, σ19 = newM σ15 ((((N + 1) + 1) + 1) + 1) → (∀ Λ20, Λ20 = stR Λ18 t 6 a17 → (((((((0 + 1) + 1) + 1) + 1) + 1) + 1 ≤ mc ∧ (((((0 + 1000) + 363) + 3348) + 11160) + 2) + 31556 ≤ ms) ∧ ∀ a21 : Int, a21 = (((((((N + 1) + 1) + 1) + 1) + 1) : Nat) : Int) → ∀ Λ22, Λ22 = newL Λ20 (((((N + 1) + 1) + 1) + 1) + 1) 0 31556 → ∀ σ23, σ23 = newM σ19 (((((N + 1) + 1) + 1) + 1) + 1) → (∀ Λ24, Λ24 = stR Λ22 t 7 a21 → ((((((((0 + 1) + 1) + 1) + 1) + 1) + 1) + 1 ≤ mc ∧ ((((((0 + 1000) + 363) + 3348) + 11160) + 2) + 31556) + 9 ≤ ms) ∧ ∀ a25 : Int, a25 = ((((((((N + 1) + 1) + 1) + 1) + 1) + 1) : Nat) : Int) → ∀ Λ26, Λ26 = newL Λ24 ((((((N + 1) + 1) + 1) + 1) + 1) + 1) 0 9 → ∀ σ27, σ27 = newM σ23 ((((((N + 1) + 1) + 1) + 1) + 1) + 1) → (∀ Λ28, Λ28 = stR Λ26 t 9 a25 → (((((((((0 + 1) + 1) + 1) + 1) + 1) + 1) + 1) + 1 ≤ mc ∧ (((((((0 + 1000) + 363) + 3348) + 11160) + 2) + 31556) + 9) + 3 ≤ ms) ∧ ∀ a29 : Int, a29 = (((((((((N + 1) + 1) + 1) + 1) + 1) + 1) + 1) : Nat) : Int) → ∀ Λ30, Λ30 = newL Λ28 (((((((N + 1) + 1) + 1) + 1) + 1) + 1) + 1) 0 3 → ∀ σ31, σ31 = newM σ27 (((((((N + 1) + 1) + 1) + 1) + 1) + 1) + 1) → (∀ Λ32, Λ32 = stR Λ30 t 10 a29 → ((((((((((0 + 1) + 1) + 1) + 1) + 1) + 1) + 1) + 1) + 1 ≤ mc ∧ ((((((((0 + 1000) + 363) + 3348) + 11160) + 2) + 31556) + 9) + 3) + 3 ≤ ms) ∧ ∀ a33 : Int, a33 = ((((((((((N + 1) + 1) + 1) + 1) + 1) + 1) + 1) + 1) : Nat) : Int) → ∀ Λ34, Λ34 = newL Λ32 ((((((((N + 1) + 1) + 1) + 1) + 1) + 1) + 1) + 1) 0 3 → ∀ σ35, σ35 = newM σ31 ((((((((N + 1) + 1) + 1) + 1) + 1) + 1) + 1) + 1) → (∀ Λ36, Λ36 = stR Λ34 t 11 a33 → (((((((((((0 + 1) + 1) + 1) + 1) + 1) + 1) + 1) + 1) + 1) + 1 ≤ mc ∧ (((((((((0 + 1000) + 363) + 3348) + 11160) + 2) + 31556) + 9) + 3) + 3) + 4 ≤ ms) ∧ ∀ a37 : Int, a37 = (((((((((((N + 1) + 1) + 1) + 1) + 1) + 1) + 1) + 1) + 1) : Nat) : Int) → ∀ Λ38, Λ38 = newL Λ36 (((((((((N + 1) + 1) + 1) + 1) + 1) + 1) + 1) + 1) + 1) 0 4 → ∀ σ39, σ39 = newM σ35 (((((((((N + 1) + 1) + 1) + 1) + 1) + 1) + 1) + 1) + 1) → (∀ Λ40, Λ40 = stR Λ38 t 12 a37 → ((((((((((((0 + 1) + 1) + 1) + 1) + 1) + 1) + 1) + 1) + 1) + 1) + 1 ≤ mc ∧ ((((((((((0 + 1000) + 363) + 3348) + 11160) + 2) + 31556) + 9) + 3) + 3) + 4) + 6 ≤ ms) ∧ ∀ a41 : Int, a41 = ((((((((((((N + 1) + 1) + 1) + 1) + 1) + 1) + 1) + 1) + 1) + 1) : Nat) : Int) → ∀ Λ42, Λ42 = newL Λ40 ((((((((((N + 1) + 1) + 1) + 1) + 1) + 1) + 1) + 1) + 1) + 1) 0 6 → ∀ σ43, σ43 = newM σ39 ((((((((((N + 1) + 1) + 1) + 1) + 1) + 1) + 1) + 1) + 1) + 1) → (∀ Λ44, Λ44 = stR Λ42 t 13 a41 → (((((((((((((0 + 1) + 1) + 1) + 1) + 1) + 1) + 1) + 1) + 1) + 1) + 1) + 1 ≤ mc ∧ (((((((((((0 + 1000) + 363) + 3348) + 11160) + 2) + 31556) + 9) + 3) + 3) + 4) + 6) + 6 ≤ ms) ∧ ∀ a45 : Int, a45 = (((((((((((((N + 1) + 1) + 1) + 1) + 1) + 1) + 1) + 1) + 1) + 1) + 1) : Nat) : Int) → ∀ Λ46, Λ46 = newL Λ44 (((((((((((N + 1) + 1) + 1) + 1) + 1) + 1) + 1) + 1) + 1) + 1) + 1) 0 6 → ∀ σ47, σ47 = newM σ43 (((((((((((N + 1) + 1) + 1) + 1) + 1) + 1) + 1) + 1) + 1) + 1) + 1) → (∀ Λ48, Λ48 = stR Λ46 t 14 a45 → ((((((((((((((0 + 1) + 1) + 1) + 1) + 1) + 1) + 1) + 1) + 1) + 1) + 1) + 1) + 1 ≤ mc ∧ ((((((((((((0 + 1000) + 363) + 3348) + 11160) + 2) + 31556) + 9) + 3) + 3) + 4) + 6) + 6) + 4 ≤ ms) ∧ ∀ a49 : Int, a49 = ((((((((((((((N + 1) + 1) + 1) + 1) + 1) + 1) + 1) + 1) + 1) + 1) + 1) + 1) : Nat) : Int) → ∀ Λ50, Λ50 = newL Λ48 ((((((((((((N + 1) + 1) + 1) + 1) + 1) + 1) + 1) + 1) + 1) + 1) + 1) + 1) 0 4 → ∀ σ51, σ51 = newM σ47 ((((((((((((N + 1) + 1) + 1) + 1) + 1) + 1) + 1) + 1) + 1) + 1) + 1) + 1) → (∀ Λ52, Λ52 = stR Λ50 t 15 a49 → (((((((((((((((0 + 1) + 1) + 1) + 1) + 1) + 1) + 1) + 1) + 1) + 1) + 1) + 1) + 1) + 1 ≤ mc ∧ (((((((((((((0 + 1000) + 363) + 3348) + 11160) + 2) + 31556) + 9) + 3) + 3) + 4) + 6) + 6) + 4) + 10 ≤ ms) ∧ ∀ a53 : Int, a53 = (((((((((((((((N + 1) + 1) + 1) + 1) + 1) + 1) + 1) + 1) + 1) + 1) + 1) + 1) + 1) : Nat) : Int) → ∀ Λ54, Λ54 = newL Λ52 (((((((((((((N + 1) + 1) + 1) + 1) + 1) + 1) + 1) + 1) + 1) + 1) + 1) + 1) + 1) 0 10 → ∀ σ55, σ55 = newM σ51 (((((((((((((N + 1) + 1) + 1) + 1) + 1) + 1) + 1) + 1) + 1) + 1) + 1) + 1) + 1) → (∀ Λ56, Λ56 = stR Λ54 t 17 a53 → ((((((((((((((((0 + 1) + 1) + 1) + 1) + 1) + 1) + 1) + 1) + 1) + 1) + 1) + 1) + 1) + 1) + 1 ≤ mc ∧ ((((((((((((((0 + 1000) + 363) + 3348) + 11160) + 2) + 31556) + 9) + 3) + 3) + 4) + 6) + 6) + 4) + 10) + 300 ≤ ms) ∧ ∀ a57 : Int, a57 = ((((((((((((((((N + 1) + 1) + 1) + 1) + 1) + 1) + 1) + 1) + 1) + 1) + 1) + 1) + 1) + 1) : Nat) : Int) → ∀ Λ58, Λ58 = newL Λ56 ((((((((((((((N + 1) + 1) + 1) + 1) + 1) + 1) + 1) + 1) + 1) + 1) + 1) + 1) + 1) + 1) 6 300 → ∀ σ59, σ59 = newM σ55 ((((((((((((((N + 1) + 1) + 1) + 1) + 1) + 1) + 1) + 1) + 1) + 1) + 1) + 1) + 1) + 1) → (∀ Λ60, Λ60 = stR Λ58 t 18 a57 → (∀ τ61, τ61 = st σ59 t 23 (-1) → (((((((((((((((((0 + 1) + 1) + 1) + 1) + 1) + 1) + 1) + 1) + 1) + 1) + 1) + 1) + 1) + 1) + 1) + 1 ≤ mc ∧ (((((((((((((((0 + 1000) + 363) + 3348) + 11160) + 2) + 31556) + 9) + 3) + 3) + 4) + 6) + 6) + 4) + 10) + 300) + 10 ≤ ms) ∧ ∀ a62 : Int, a62 = (((((((((((((((((N + 1) + 1) + 1) + 1) + 1) + 1) + 1) + 1) + 1) + 1) + 1) + 1) + 1) + 1) + 1) : Nat) : Int) → ∀ Λ63, Λ63 = newL Λ60 (((((((((((((((N + 1) + 1) + 1) + 1) + 1) + 1) + 1) + 1) + 1) + 1) + 1) + 1) + 1) + 1) + 1) 0 10 → ∀ σ64, σ64 = newM τ61 (((((((((((((((N + 1) + 1) + 1) + 1) + 1) + 1) + 1) + 1) + 1) + 1) + 1) + 1) + 1) + 1) + 1) → (∀ Λ65, Λ65 = stR Λ63 t 25 a62 → ((((((((((((((((((0 + 1) + 1) + 1) + 1) + 1) + 1) + 1) + 1) + 1) + 1) + 1) + 1) + 1) + 1) + 1) + 1) + 1 ≤ mc ∧ ((((((((((((((((0 + 1000) + 363) + 3348) + 11160) + 2) + 31556) + 9) + 3) + 3) + 4) + 6) + 6) + 4) + 10) + 300) + 10) + 4 ≤ ms) ∧ ∀ a66 : Int, a66 = ((((((((((((((((((N + 1) + 1) + 1) + 1) + 1) + 1) + 1) + 1) + 1) + 1) + 1) + 1) + 1) + 1) + 1) + 1) : Nat) : Int) → ∀ Λ67, Λ67 = newL Λ65 ((((((((((((((((N + 1) + 1) + 1) + 1) + 1) + 1) + 1) + 1) + 1) + 1) + 1) + 1) + 1) + 1) + 1) + 1) 0 4 → ∀ σ68, σ68 = newM σ64 ((((((((((((((((N + 1) + 1) + 1) + 1) + 1) + 1) + 1) + 1) + 1) + 1) + 1) + 1) + 1) + 1) + 1) + 1) → (∀ Λ69, Λ69 = stR Λ67 t 26 a66 → (((((((((((((((((((0 + 1) + 1) + 1) + 1) + 1) + 1) + 1) + 1) + 1) + 1) + 1) + 1) + 1) + 1) + 1) + 1) + 1) + 1 ≤ mc ∧ (((((((((((((((((0 + 1000) + 363) + 3348) + 11160) + 2) + 31556) + 9) + 3) + 3) + 4) + 6) + 6) + 4) + 10) + 300) + 10) + 4) + 480 ≤ ms) ∧ ∀ a70 : Int, a70 = (((((((((((((((((((N + 1) + 1) + 1) + 1) + 1) + 1) + 1) + 1) + 1) + 1) + 1) + 1) + 1) + 1) + 1) + 1) + 1) : Nat) : Int) → ∀ Λ71, Λ71 = newL Λ69 (((((((((((((((((N + 1) + 1) + 1) + 1) + 1) + 1) + 1) + 1) + 1) + 1) + 1) + 1) + 1) + 1) + 1) + 1) + 1) 0 480 → ∀ σ72, σ72 = newM σ68 (((((((((((((((((N + 1) + 1) + 1) + 1) + 1) + 1) + 1) + 1) + 1) + 1) + 1) + 1) + 1) + 1) + 1) + 1) + 1) → (∀ Λ73, Λ73 = stR Λ71 t 30 a70 → ((((((((((((((((((((0 + 1) + 1) + 1) + 1) + 1) + 1) + 1) + 1) + 1) + 1) + 1) + 1) + 1) + 1) + 1) + 1) + 1) + 1) + 1 ≤ mc ∧ ((((((((((((((((((0 + 1000) + 363) + 3348) + 11160) + 2) + 31556) + 9) + 3) + 3) + 4) + 6) + 6) + 4) + 10) + 300) + 10) + 4) + 480) + 2880 ≤ ms) ∧ ∀ a74 : Int, a74 = ((((((((((((((((((((N + 1) + 1) + 1) + 1) + 1) + 1) + 1) + 1) + 1) + 1) + 1) + 1) + 1) + 1) + 1) + 1) + 1) + 1) : Nat) : Int) → ∀ Λ75, Λ75 = newL Λ73 ((((((((((((((((((N + 1) + 1) + 1) + 1) + 1) + 1) + 1) + 1) + 1) + 1) + 1) + 1) + 1) + 1) + 1) + 1) + 1) + 1) 1 2880 → ∀ σ76, σ76 = newM σ72 ((((((((((((((((((N + 1) + 1) + 1) + 1) + 1) + 1) + 1) + 1) + 1) + 1) + 1) + 1) + 1) + 1) + 1) + 1) + 1) + 1) → (∀ Λ77, Λ77 = stR Λ75 t 31 a74 → (((((((((((((((((((((0 + 1) + 1) + 1) + 1) + 1) + 1) + 1) + 1) + 1) + 1) + 1) + 1) + 1) + 1) + 1) + 1) + 1) + 1) + 1) + 1 ≤ mc ∧ (((((((((((((((((((0 + 1000) + 363) + 3348) + 11160) + 2) + 31556) + 9) + 3) + 3) + 4) + 6) + 6) + 4) + 10) + 300) + 10) + 4) + 480) + 2880) + 6 ≤ ms) ∧ ∀ a78 : Int, a78 = (((((((((((((((((((((N + 1) + 1) + 1) + 1) + 1) + 1) + 1) + 1) + 1) + 1) + 1) + 1) + 1) + 1) + 1) + 1) + 1) + 1) + 1) : Nat) : Int) → ∀ Λ79, Λ79 = newL Λ77 (((((((((((((((((((N + 1) + 1) + 1) + 1) + 1) + 1) + 1) + 1) + 1) + 1) + 1) + 1) + 1) + 1) + 1) + 1) + 1) + 1) + 1) 0 6 → ∀ σ80, σ80 = newM σ76 (((((((((((((((((((N + 1) + 1) + 1) + 1) + 1) + 1) + 1) + 1) + 1) + 1) + 1) + 1) + 1) + 1) + 1) + 1) + 1) + 1) + 1) → (∀ Λ81, Λ81 = stR Λ79 t 33 a78 → ((((((((((((((((((((((0 + 1) + 1) + 1) + 1) + 1) + 1) + 1) + 1) + 1) + 1) + 1) + 1) + 1) + 1) + 1) + 1) + 1) + 1) + 1) + 1) + 1 ≤ mc ∧ ((((((((((((((((((((0 + 1000) + 363) + 3348) + 11160) + 2) + 31556) + 9) + 3) + 3) + 4) + 6) + 6) + 4) + 10) + 300) + 10) + 4) + 480) + 2880) + 6) + 6 ≤ ms) ∧ ∀ a82 : Int, a82 = ((((((((((((((((((((((N + 1) + 1) + 1) + 1) + 1) + 1) + 1) + 1) + 1) + 1) + 1) + 1) + 1) + 1) + 1) + 1) + 1) + 1) + 1) + 1) : Nat) : Int) → ∀ Λ83, Λ83 = newL Λ81 ((((((((((((((((((((N + 1) + 1) + 1) + 1) + 1) + 1) + 1) + 1) + 1) + 1) + 1) + 1) + 1) + 1) + 1) + 1) + 1) + 1) + 1) + 1) 0 6 → ∀ σ84, σ84 = newM σ80 ((((((((((((((((((((N + 1) + 1) + 1) + 1) + 1) + 1) + 1) + 1) + 1) + 1) + 1) + 1) + 1) + 1) + 1) + 1) + 1) + 1) + 1) + 1) → (∀ Λ85, Λ85 = stR Λ83 t 34 a82 → (((((((((((((((((((((((0 + 1) + 1) + 1) + 1) + 1) + 1) + 1) + 1) + 1) + 1) + 1) + 1) + 1) + 1) + 1) + 1) + 1) + 1) + 1) + 1) + 1) + 1 ≤ mc ∧ (((((((((((((((((((((0 + 1000) + 363) + 3348) + 11160) + 2) + 31556) + 9) + 3) + 3) + 4) + 6) + 6) + 4) + 10) + 300) + 10) + 4) + 480) + 2880) + 6) + 6) + 7 ≤ ms) ∧ ∀ a86 : Int, a86 = (((((((((((((((((((((((N + 1) + 1) + 1) + 1) + 1) + 1) + 1) + 1) + 1) + 1) + 1) + 1) + 1) + 1) + 1) + 1) + 1) + 1) + 1) + 1) + 1) : Nat) : Int) → ∀ Λ87, Λ87 = newL Λ85 (((((((((((((((((((((N + 1) + 1) + 1) + 1) + 1) + 1) + 1) + 1) + 1) + 1) + 1) + 1) + 1) + 1) + 1) + 1) + 1) + 1) + 1) + 1) + 1) 0 7 → ∀ σ88, σ88 = newM σ84 (((((((((((((((((((((N + 1) + 1) + 1) + 1) + 1) + 1) + 1) + 1) + 1) + 1) + 1) + 1) + 1) + 1) + 1) + 1) + 1) + 1) + 1) + 1) + 1) → (∀ Λ89, Λ89 = stR Λ87 t 35 a86 → WC l mX12_init d mc ms P ((((((((((((((((((((((0 + 1) + 1) + 1) + 1) + 1) + 1) + 1) + 1) + 1) + 1) + 1) + 1) + 1) + 1) + 1) + 1) + 1) + 1) + 1) + 1) + 1) + 1) ((((((((((((((((((((((0 + 1000) + 363) + 3348) + 11160) + 2) + 31556) + 9) + 3) + 3) + 4) + 6) + 6) + 4) + 10) + 300) + 10) + 4) + 480) + 2880) + 6) + 6) + 7) 191 [(2, t), (0, 0), (0, 0), (3, 0), (3, 0)] [] ((((((((((((((((((((((N + 1) + 1) + 1) + 1) + 1) + 1) + 1) + 1) + 1) + 1) + 1) + 1) + 1) + 1) + 1) + 1) + 1) + 1) + 1) + 1) + 1) + 1) Λ89 σ88)))))))))))))))))))))))))))))))))))))))))))))) :
    WC l mX12_init d mc ms P 0 0 0 [(2, t), (3, 0), (3, 0), (3, 0), (3, 0)] [] N Λ σ := by
  refine r_aload_n (x := t) d_X12_init_0 rfl o_t.1 ?_
  refine y_obj d_X12_init_1 ml_X12_7 o_t.1 h0d (Nat.le_of_ble_eq_true rfl) ?_
  refine r_aload_n (x := t) d_X12_init_4 rfl o_t.1 ?_
  refine r_sipush (x := 1000) d_X12_init_5 ⟨by decide, by decide⟩ (by decide) ?_
  refine y_newa (t := 0) (ln := 1000) d_X12_init_8 rfl (by decide) ac_int rfl (by decide) (by decide) h.1 (fun a1 ea1 Λ2 eΛ2 σ3 eσ3 => ?_)
  have h := h.2 a1 ea1 Λ2 eΛ2 σ3 eσ3
  have o_t := Ob_new eΛ2 o_t
  have o_a1 := Ob_newS eΛ2 ea1
  refine r_putR (j := 1) d_X12_init_10 rfl kX12 (by decide) fl_X12_13 rfl rfl o_t.1 o_t.2.1 o_a1.1 o_t.2.2.1 o_t.2.2.2 rfl ⟨rfl, fun _ => ⟨rfl, rfl⟩⟩ ?_
  refine y_nmL (fun Λ4 eΛ4 => ?_)
  have h := h Λ4 eΛ4
  have o_t := Ob_stR eΛ4 o_t
  have o_a1 := Ob_stR eΛ4 o_a1
  refine r_aload_n (x := t) d_X12_init_13 rfl o_t.1 ?_
  refine r_sipush (x := 363) d_X12_init_14 ⟨by decide, by decide⟩ (by decide) ?_
  refine y_newa (t := 0) (ln := 363) d_X12_init_17 rfl (by decide) ac_int rfl (by decide) (by decide) h.1 (fun a5 ea5 Λ6 eΛ6 σ7 eσ7 => ?_)
  have h := h.2 a5 ea5 Λ6 eΛ6 σ7 eσ7
  have o_t := Ob_new eΛ6 o_t
  have o_a1 := Ob_new eΛ6 o_a1
  have o_a5 := Ob_newS eΛ6 ea5
  refine r_putR (j := 2) d_X12_init_19 rfl kX12 (by decide) fl_X12_17 rfl rfl o_t.1 o_t.2.1 o_a5.1 o_t.2.2.1 o_t.2.2.2 rfl ⟨rfl, fun _ => ⟨rfl, rfl⟩⟩ ?_
  refine y_nmL (fun Λ8 eΛ8 => ?_)
  have h := h Λ8 eΛ8
  have o_t := Ob_stR eΛ8 o_t
  have o_a1 := Ob_stR eΛ8 o_a1
  have o_a5 := Ob_stR eΛ8 o_a5
  refine r_aload_n (x := t) d_X12_init_22 rfl o_t.1 ?_
  refine r_sipush (x := 3348) d_X12_init_23 ⟨by decide, by decide⟩ (by decide) ?_
  refine y_newa (t := 0) (ln := 3348) d_X12_init_26 rfl (by decide) ac_int rfl (by decide) (by decide) h.1 (fun a9 ea9 Λ10 eΛ10 σ11 eσ11 => ?_)
  have h := h.2 a9 ea9 Λ10 eΛ10 σ11 eσ11
  have o_t := Ob_new eΛ10 o_t
  have o_a1 := Ob_new eΛ10 o_a1
  have o_a5 := Ob_new eΛ10 o_a5
  have o_a9 := Ob_newS eΛ10 ea9
  refine r_putR (j := 3) d_X12_init_28 rfl kX12 (by decide) fl_X12_20 rfl rfl o_t.1 o_t.2.1 o_a9.1 o_t.2.2.1 o_t.2.2.2 rfl ⟨rfl, fun _ => ⟨rfl, rfl⟩⟩ ?_
  refine y_nmL (fun Λ12 eΛ12 => ?_)
  have h := h Λ12 eΛ12
  have o_t := Ob_stR eΛ12 o_t
  have o_a1 := Ob_stR eΛ12 o_a1
  have o_a5 := Ob_stR eΛ12 o_a5
  have o_a9 := Ob_stR eΛ12 o_a9
  refine r_aload_n (x := t) d_X12_init_31 rfl o_t.1 ?_
  refine r_sipush (x := 11160) d_X12_init_32 ⟨by decide, by decide⟩ (by decide) ?_
  refine y_newa (t := 0) (ln := 11160) d_X12_init_35 rfl (by decide) ac_int rfl (by decide) (by decide) h.1 (fun a13 ea13 Λ14 eΛ14 σ15 eσ15 => ?_)
  have h := h.2 a13 ea13 Λ14 eΛ14 σ15 eσ15
  have o_t := Ob_new eΛ14 o_t
  have o_a1 := Ob_new eΛ14 o_a1
  have o_a5 := Ob_new eΛ14 o_a5
  have o_a9 := Ob_new eΛ14 o_a9
  have o_a13 := Ob_newS eΛ14 ea13
  refine r_putR (j := 4) d_X12_init_37 rfl kX12 (by decide) fl_X12_23 rfl rfl o_t.1 o_t.2.1 o_a13.1 o_t.2.2.1 o_t.2.2.2 rfl ⟨rfl, fun _ => ⟨rfl, rfl⟩⟩ ?_
  refine y_nmL (fun Λ16 eΛ16 => ?_)
  have h := h Λ16 eΛ16
  have o_t := Ob_stR eΛ16 o_t
  have o_a1 := Ob_stR eΛ16 o_a1
  have o_a5 := Ob_stR eΛ16 o_a5
  have o_a9 := Ob_stR eΛ16 o_a9
  have o_a13 := Ob_stR eΛ16 o_a13
  refine r_aload_n (x := t) d_X12_init_40 rfl o_t.1 ?_
  refine r_iconst (x := 2) d_X12_init_41 ⟨by decide, by decide⟩ ?_
  refine y_newa (t := 2) (ln := 2) d_X12_init_42 rfl (by decide) ac_boolean rfl (by decide) (by decide) h.1 (fun a17 ea17 Λ18 eΛ18 σ19 eσ19 => ?_)
  have h := h.2 a17 ea17 Λ18 eΛ18 σ19 eσ19
  have o_t := Ob_new eΛ18 o_t
  have o_a1 := Ob_new eΛ18 o_a1
  have o_a5 := Ob_new eΛ18 o_a5
  have o_a9 := Ob_new eΛ18 o_a9
  have o_a13 := Ob_new eΛ18 o_a13
  have o_a17 := Ob_newS eΛ18 ea17
  refine r_putR (j := 6) d_X12_init_44 rfl kX12 (by decide) fl_X12_26 rfl rfl o_t.1 o_t.2.1 o_a17.1 o_t.2.2.1 o_t.2.2.2 rfl ⟨rfl, fun _ => ⟨rfl, rfl⟩⟩ ?_
  refine y_nmL (fun Λ20 eΛ20 => ?_)
  have h := h Λ20 eΛ20
  have o_t := Ob_stR eΛ20 o_t
  have o_a1 := Ob_stR eΛ20 o_a1
  have o_a5 := Ob_stR eΛ20 o_a5
  have o_a9 := Ob_stR eΛ20 o_a9
  have o_a13 := Ob_stR eΛ20 o_a13
  have o_a17 := Ob_stR eΛ20 o_a17
  refine r_aload_n (x := t) d_X12_init_47 rfl o_t.1 ?_
  refine r_sipush (x := 31556) d_X12_init_48 ⟨by decide, by decide⟩ (by decide) ?_
  refine y_newa (t := 0) (ln := 31556) d_X12_init_51 rfl (by decide) ac_int rfl (by decide) (by decide) h.1 (fun a21 ea21 Λ22 eΛ22 σ23 eσ23 => ?_)
  have h := h.2 a21 ea21 Λ22 eΛ22 σ23 eσ23
  have o_t := Ob_new eΛ22 o_t
  have o_a1 := Ob_new eΛ22 o_a1
  have o_a5 := Ob_new eΛ22 o_a5
  have o_a9 := Ob_new eΛ22 o_a9
  have o_a13 := Ob_new eΛ22 o_a13
  have o_a17 := Ob_new eΛ22 o_a17
  have o_a21 := Ob_newS eΛ22 ea21
  refine r_putR (j := 7) d_X12_init_53 rfl kX12 (by decide) fl_X12_30 rfl rfl o_t.1 o_t.2.1 o_a21.1 o_t.2.2.1 o_t.2.2.2 rfl ⟨rfl, fun _ => ⟨rfl, rfl⟩⟩ ?_
  refine y_nmL (fun Λ24 eΛ24 => ?_)
  have h := h Λ24 eΛ24
  have o_t := Ob_stR eΛ24 o_t
  have o_a1 := Ob_stR eΛ24 o_a1
  have o_a5 := Ob_stR eΛ24 o_a5
  have o_a9 := Ob_stR eΛ24 o_a9
  have o_a13 := Ob_stR eΛ24 o_a13
  have o_a17 := Ob_stR eΛ24 o_a17
  have o_a21 := Ob_stR eΛ24 o_a21
  refine r_aload_n (x := t) d_X12_init_56 rfl o_t.1 ?_
  refine r_bipush (x := 9) d_X12_init_57 ⟨by decide, by decide⟩ (by decide) ?_
  refine y_newa (t := 0) (ln := 9) d_X12_init_59 rfl (by decide) ac_int rfl (by decide) (by decide) h.1 (fun a25 ea25 Λ26 eΛ26 σ27 eσ27 => ?_)
  have h := h.2 a25 ea25 Λ26 eΛ26 σ27 eσ27
  have o_t := Ob_new eΛ26 o_t
  have o_a1 := Ob_new eΛ26 o_a1
  have o_a5 := Ob_new eΛ26 o_a5
  have o_a9 := Ob_new eΛ26 o_a9
  have o_a13 := Ob_new eΛ26 o_a13
  have o_a17 := Ob_new eΛ26 o_a17
  have o_a21 := Ob_new eΛ26 o_a21
  have o_a25 := Ob_newS eΛ26 ea25
  refine r_putR (j := 9) d_X12_init_61 rfl kX12 (by decide) fl_X12_33 rfl rfl o_t.1 o_t.2.1 o_a25.1 o_t.2.2.1 o_t.2.2.2 rfl ⟨rfl, fun _ => ⟨rfl, rfl⟩⟩ ?_
  refine y_nmL (fun Λ28 eΛ28 => ?_)
  have h := h Λ28 eΛ28
  have o_t := Ob_stR eΛ28 o_t
  have o_a1 := Ob_stR eΛ28 o_a1
  have o_a5 := Ob_stR eΛ28 o_a5
  have o_a9 := Ob_stR eΛ28 o_a9
  have o_a13 := Ob_stR eΛ28 o_a13
  have o_a17 := Ob_stR eΛ28 o_a17
  have o_a21 := Ob_stR eΛ28 o_a21
  have o_a25 := Ob_stR eΛ28 o_a25
  refine r_aload_n (x := t) d_X12_init_64 rfl o_t.1 ?_
  refine r_iconst (x := 3) d_X12_init_65 ⟨by decide, by decide⟩ ?_
  refine y_newa (t := 0) (ln := 3) d_X12_init_66 rfl (by decide) ac_int rfl (by decide) (by decide) h.1 (fun a29 ea29 Λ30 eΛ30 σ31 eσ31 => ?_)
  have h := h.2 a29 ea29 Λ30 eΛ30 σ31 eσ31
  have o_t := Ob_new eΛ30 o_t
  have o_a1 := Ob_new eΛ30 o_a1
  have o_a5 := Ob_new eΛ30 o_a5
  have o_a9 := Ob_new eΛ30 o_a9
  have o_a13 := Ob_new eΛ30 o_a13
  have o_a17 := Ob_new eΛ30 o_a17
  have o_a21 := Ob_new eΛ30 o_a21
  have o_a25 := Ob_new eΛ30 o_a25
  have o_a29 := Ob_newS eΛ30 ea29
  refine r_putR (j := 10) d_X12_init_68 rfl kX12 (by decide) fl_X12_36 rfl rfl o_t.1 o_t.2.1 o_a29.1 o_t.2.2.1 o_t.2.2.2 rfl ⟨rfl, fun _ => ⟨rfl, rfl⟩⟩ ?_
  refine y_nmL (fun Λ32 eΛ32 => ?_)
  have h := h Λ32 eΛ32
  have o_t := Ob_stR eΛ32 o_t
  have o_a1 := Ob_stR eΛ32 o_a1
  have o_a5 := Ob_stR eΛ32 o_a5
  have o_a9 := Ob_stR eΛ32 o_a9
  have o_a13 := Ob_stR eΛ32 o_a13
  have o_a17 := Ob_stR eΛ32 o_a17
  have o_a21 := Ob_stR eΛ32 o_a21
  have o_a25 := Ob_stR eΛ32 o_a25
  have o_a29 := Ob_stR eΛ32 o_a29
  refine r_aload_n (x := t) d_X12_init_71 rfl o_t.1 ?_
  refine r_iconst (x := 3) d_X12_init_72 ⟨by decide, by decide⟩ ?_
  refine y_newa (t := 0) (ln := 3) d_X12_init_73 rfl (by decide) ac_int rfl (by decide) (by decide) h.1 (fun a33 ea33 Λ34 eΛ34 σ35 eσ35 => ?_)
  have h := h.2 a33 ea33 Λ34 eΛ34 σ35 eσ35
  have o_t := Ob_new eΛ34 o_t
  have o_a1 := Ob_new eΛ34 o_a1
  have o_a5 := Ob_new eΛ34 o_a5
  have o_a9 := Ob_new eΛ34 o_a9
  have o_a13 := Ob_new eΛ34 o_a13
  have o_a17 := Ob_new eΛ34 o_a17
  have o_a21 := Ob_new eΛ34 o_a21
  have o_a25 := Ob_new eΛ34 o_a25
  have o_a29 := Ob_new eΛ34 o_a29
  have o_a33 := Ob_newS eΛ34 ea33
  refine r_putR (j := 11) d_X12_init_75 rfl kX12 (by decide) fl_X12_39 rfl rfl o_t.1 o_t.2.1 o_a33.1 o_t.2.2.1 o_t.2.2.2 rfl ⟨rfl, fun _ => ⟨rfl, rfl⟩⟩ ?_
  refine y_nmL (fun Λ36 eΛ36 => ?_)
  have h := h Λ36 eΛ36
  have o_t := Ob_stR eΛ36 o_t
  have o_a1 := Ob_stR eΛ36 o_a1
  have o_a5 := Ob_stR eΛ36 o_a5
  have o_a9 := Ob_stR eΛ36 o_a9
  have o_a13 := Ob_stR eΛ36 o_a13
  have o_a17 := Ob_stR eΛ36 o_a17
  have o_a21 := Ob_stR eΛ36 o_a21
  have o_a25 := Ob_stR eΛ36 o_a25
  have o_a29 := Ob_stR eΛ36 o_a29
  have o_a33 := Ob_stR eΛ36 o_a33
  refine r_aload_n (x := t) d_X12_init_78 rfl o_t.1 ?_
  refine r_iconst (x := 4) d_X12_init_79 ⟨by decide, by decide⟩ ?_
  refine y_newa (t := 0) (ln := 4) d_X12_init_80 rfl (by decide) ac_int rfl (by decide) (by decide) h.1 (fun a37 ea37 Λ38 eΛ38 σ39 eσ39 => ?_)
  have h := h.2 a37 ea37 Λ38 eΛ38 σ39 eσ39
  have o_t := Ob_new eΛ38 o_t
  have o_a1 := Ob_new eΛ38 o_a1
  have o_a5 := Ob_new eΛ38 o_a5
  have o_a9 := Ob_new eΛ38 o_a9
  have o_a13 := Ob_new eΛ38 o_a13
  have o_a17 := Ob_new eΛ38 o_a17
  have o_a21 := Ob_new eΛ38 o_a21
  have o_a25 := Ob_new eΛ38 o_a25
  have o_a29 := Ob_new eΛ38 o_a29
  have o_a33 := Ob_new eΛ38 o_a33
  have o_a37 := Ob_newS eΛ38 ea37
  refine r_putR (j := 12) d_X12_init_82 rfl kX12 (by decide) fl_X12_42 rfl rfl o_t.1 o_t.2.1 o_a37.1 o_t.2.2.1 o_t.2.2.2 rfl ⟨rfl, fun _ => ⟨rfl, rfl⟩⟩ ?_
  refine y_nmL (fun Λ40 eΛ40 => ?_)
  have h := h Λ40 eΛ40
  have o_t := Ob_stR eΛ40 o_t
  have o_a1 := Ob_stR eΛ40 o_a1
  have o_a5 := Ob_stR eΛ40 o_a5
  have o_a9 := Ob_stR eΛ40 o_a9
  have o_a13 := Ob_stR eΛ40 o_a13
  have o_a17 := Ob_stR eΛ40 o_a17
  have o_a21 := Ob_stR eΛ40 o_a21
  have o_a25 := Ob_stR eΛ40 o_a25
  have o_a29 := Ob_stR eΛ40 o_a29
  have o_a33 := Ob_stR eΛ40 o_a33
  have o_a37 := Ob_stR eΛ40 o_a37
  refine r_aload_n (x := t) d_X12_init_85 rfl o_t.1 ?_
  refine r_bipush (x := 6) d_X12_init_86 ⟨by decide, by decide⟩ (by decide) ?_
  refine y_newa (t := 0) (ln := 6) d_X12_init_88 rfl (by decide) ac_int rfl (by decide) (by decide) h.1 (fun a41 ea41 Λ42 eΛ42 σ43 eσ43 => ?_)
  have h := h.2 a41 ea41 Λ42 eΛ42 σ43 eσ43
  have o_t := Ob_new eΛ42 o_t
  have o_a1 := Ob_new eΛ42 o_a1
  have o_a5 := Ob_new eΛ42 o_a5
  have o_a9 := Ob_new eΛ42 o_a9
  have o_a13 := Ob_new eΛ42 o_a13
  have o_a17 := Ob_new eΛ42 o_a17
  have o_a21 := Ob_new eΛ42 o_a21
  have o_a25 := Ob_new eΛ42 o_a25
  have o_a29 := Ob_new eΛ42 o_a29
  have o_a33 := Ob_new eΛ42 o_a33
  have o_a37 := Ob_new eΛ42 o_a37
  have o_a41 := Ob_newS eΛ42 ea41
  refine r_putR (j := 13) d_X12_init_90 rfl kX12 (by decide) fl_X12_45 rfl rfl o_t.1 o_t.2.1 o_a41.1 o_t.2.2.1 o_t.2.2.2 rfl ⟨rfl, fun _ => ⟨rfl, rfl⟩⟩ ?_
  refine y_nmL (fun Λ44 eΛ44 => ?_)
  have h := h Λ44 eΛ44
  have o_t := Ob_stR eΛ44 o_t
  have o_a1 := Ob_stR eΛ44 o_a1
  have o_a5 := Ob_stR eΛ44 o_a5
  have o_a9 := Ob_stR eΛ44 o_a9
  have o_a13 := Ob_stR eΛ44 o_a13
  have o_a17 := Ob_stR eΛ44 o_a17
  have o_a21 := Ob_stR eΛ44 o_a21
  have o_a25 := Ob_stR eΛ44 o_a25
  have o_a29 := Ob_stR eΛ44 o_a29
  have o_a33 := Ob_stR eΛ44 o_a33
  have o_a37 := Ob_stR eΛ44 o_a37
  have o_a41 := Ob_stR eΛ44 o_a41
  refine r_aload_n (x := t) d_X12_init_93 rfl o_t.1 ?_
  refine r_bipush (x := 6) d_X12_init_94 ⟨by decide, by decide⟩ (by decide) ?_
  refine y_newa (t := 0) (ln := 6) d_X12_init_96 rfl (by decide) ac_int rfl (by decide) (by decide) h.1 (fun a45 ea45 Λ46 eΛ46 σ47 eσ47 => ?_)
  have h := h.2 a45 ea45 Λ46 eΛ46 σ47 eσ47
  have o_t := Ob_new eΛ46 o_t
  have o_a1 := Ob_new eΛ46 o_a1
  have o_a5 := Ob_new eΛ46 o_a5
  have o_a9 := Ob_new eΛ46 o_a9
  have o_a13 := Ob_new eΛ46 o_a13
  have o_a17 := Ob_new eΛ46 o_a17
  have o_a21 := Ob_new eΛ46 o_a21
  have o_a25 := Ob_new eΛ46 o_a25
  have o_a29 := Ob_new eΛ46 o_a29
  have o_a33 := Ob_new eΛ46 o_a33
  have o_a37 := Ob_new eΛ46 o_a37
  have o_a41 := Ob_new eΛ46 o_a41
  have o_a45 := Ob_newS eΛ46 ea45
  refine r_putR (j := 14) d_X12_init_98 rfl kX12 (by decide) fl_X12_48 rfl rfl o_t.1 o_t.2.1 o_a45.1 o_t.2.2.1 o_t.2.2.2 rfl ⟨rfl, fun _ => ⟨rfl, rfl⟩⟩ ?_
  refine y_nmL (fun Λ48 eΛ48 => ?_)
  have h := h Λ48 eΛ48
  have o_t := Ob_stR eΛ48 o_t
  have o_a1 := Ob_stR eΛ48 o_a1
  have o_a5 := Ob_stR eΛ48 o_a5
  have o_a9 := Ob_stR eΛ48 o_a9
  have o_a13 := Ob_stR eΛ48 o_a13
  have o_a17 := Ob_stR eΛ48 o_a17
  have o_a21 := Ob_stR eΛ48 o_a21
  have o_a25 := Ob_stR eΛ48 o_a25
  have o_a29 := Ob_stR eΛ48 o_a29
  have o_a33 := Ob_stR eΛ48 o_a33
  have o_a37 := Ob_stR eΛ48 o_a37
  have o_a41 := Ob_stR eΛ48 o_a41
  have o_a45 := Ob_stR eΛ48 o_a45
  refine r_aload_n (x := t) d_X12_init_101 rfl o_t.1 ?_
  refine r_iconst (x := 4) d_X12_init_102 ⟨by decide, by decide⟩ ?_
  refine y_newa (t := 0) (ln := 4) d_X12_init_103 rfl (by decide) ac_int rfl (by decide) (by decide) h.1 (fun a49 ea49 Λ50 eΛ50 σ51 eσ51 => ?_)
  have h := h.2 a49 ea49 Λ50 eΛ50 σ51 eσ51
  have o_t := Ob_new eΛ50 o_t
  have o_a1 := Ob_new eΛ50 o_a1
  have o_a5 := Ob_new eΛ50 o_a5
  have o_a9 := Ob_new eΛ50 o_a9
  have o_a13 := Ob_new eΛ50 o_a13
  have o_a17 := Ob_new eΛ50 o_a17
  have o_a21 := Ob_new eΛ50 o_a21
  have o_a25 := Ob_new eΛ50 o_a25
  have o_a29 := Ob_new eΛ50 o_a29
  have o_a33 := Ob_new eΛ50 o_a33
  have o_a37 := Ob_new eΛ50 o_a37
  have o_a41 := Ob_new eΛ50 o_a41
  have o_a45 := Ob_new eΛ50 o_a45
  have o_a49 := Ob_newS eΛ50 ea49
  refine r_putR (j := 15) d_X12_init_105 rfl kX12 (by decide) fl_X12_51 rfl rfl o_t.1 o_t.2.1 o_a49.1 o_t.2.2.1 o_t.2.2.2 rfl ⟨rfl, fun _ => ⟨rfl, rfl⟩⟩ ?_
  refine y_nmL (fun Λ52 eΛ52 => ?_)
  have h := h Λ52 eΛ52
  have o_t := Ob_stR eΛ52 o_t
  have o_a1 := Ob_stR eΛ52 o_a1
  have o_a5 := Ob_stR eΛ52 o_a5
  have o_a9 := Ob_stR eΛ52 o_a9
  have o_a13 := Ob_stR eΛ52 o_a13
  have o_a17 := Ob_stR eΛ52 o_a17
  have o_a21 := Ob_stR eΛ52 o_a21
  have o_a25 := Ob_stR eΛ52 o_a25
  have o_a29 := Ob_stR eΛ52 o_a29
  have o_a33 := Ob_stR eΛ52 o_a33
  have o_a37 := Ob_stR eΛ52 o_a37
  have o_a41 := Ob_stR eΛ52 o_a41
  have o_a45 := Ob_stR eΛ52 o_a45
  have o_a49 := Ob_stR eΛ52 o_a49
  refine r_aload_n (x := t) d_X12_init_108 rfl o_t.1 ?_
  refine r_bipush (x := 10) d_X12_init_109 ⟨by decide, by decide⟩ (by decide) ?_
  refine y_newa (t := 0) (ln := 10) d_X12_init_111 rfl (by decide) ac_int rfl (by decide) (by decide) h.1 (fun a53 ea53 Λ54 eΛ54 σ55 eσ55 => ?_)
  have h := h.2 a53 ea53 Λ54 eΛ54 σ55 eσ55
  have o_t := Ob_new eΛ54 o_t
  have o_a1 := Ob_new eΛ54 o_a1
  have o_a5 := Ob_new eΛ54 o_a5
  have o_a9 := Ob_new eΛ54 o_a9
  have o_a13 := Ob_new eΛ54 o_a13
  have o_a17 := Ob_new eΛ54 o_a17
  have o_a21 := Ob_new eΛ54 o_a21
  have o_a25 := Ob_new eΛ54 o_a25
  have o_a29 := Ob_new eΛ54 o_a29
  have o_a33 := Ob_new eΛ54 o_a33
  have o_a37 := Ob_new eΛ54 o_a37
  have o_a41 := Ob_new eΛ54 o_a41
  have o_a45 := Ob_new eΛ54 o_a45
  have o_a49 := Ob_new eΛ54 o_a49
  have o_a53 := Ob_newS eΛ54 ea53
  refine r_putR (j := 17) d_X12_init_113 rfl kX12 (by decide) fl_X12_54 rfl rfl o_t.1 o_t.2.1 o_a53.1 o_t.2.2.1 o_t.2.2.2 rfl ⟨rfl, fun _ => ⟨rfl, rfl⟩⟩ ?_
  refine y_nmL (fun Λ56 eΛ56 => ?_)
  have h := h Λ56 eΛ56
  have o_t := Ob_stR eΛ56 o_t
  have o_a1 := Ob_stR eΛ56 o_a1
  have o_a5 := Ob_stR eΛ56 o_a5
  have o_a9 := Ob_stR eΛ56 o_a9
  have o_a13 := Ob_stR eΛ56 o_a13
  have o_a17 := Ob_stR eΛ56 o_a17
  have o_a21 := Ob_stR eΛ56 o_a21
  have o_a25 := Ob_stR eΛ56 o_a25
  have o_a29 := Ob_stR eΛ56 o_a29
  have o_a33 := Ob_stR eΛ56 o_a33
  have o_a37 := Ob_stR eΛ56 o_a37
  have o_a41 := Ob_stR eΛ56 o_a41
  have o_a45 := Ob_stR eΛ56 o_a45
  have o_a49 := Ob_stR eΛ56 o_a49
  have o_a53 := Ob_stR eΛ56 o_a53
  refine r_aload_n (x := t) d_X12_init_116 rfl o_t.1 ?_
  refine r_sipush (x := 300) d_X12_init_117 ⟨by decide, by decide⟩ (by decide) ?_
  refine y_newa (t := 6) (ln := 300) d_X12_init_120 rfl (by decide) ac_byte rfl (by decide) (by decide) h.1 (fun a57 ea57 Λ58 eΛ58 σ59 eσ59 => ?_)
  have h := h.2 a57 ea57 Λ58 eΛ58 σ59 eσ59
  have o_t := Ob_new eΛ58 o_t
  have o_a1 := Ob_new eΛ58 o_a1
  have o_a5 := Ob_new eΛ58 o_a5
  have o_a9 := Ob_new eΛ58 o_a9
  have o_a13 := Ob_new eΛ58 o_a13
  have o_a17 := Ob_new eΛ58 o_a17
  have o_a21 := Ob_new eΛ58 o_a21
  have o_a25 := Ob_new eΛ58 o_a25
  have o_a29 := Ob_new eΛ58 o_a29
  have o_a33 := Ob_new eΛ58 o_a33
  have o_a37 := Ob_new eΛ58 o_a37
  have o_a41 := Ob_new eΛ58 o_a41
  have o_a45 := Ob_new eΛ58 o_a45
  have o_a49 := Ob_new eΛ58 o_a49
  have o_a53 := Ob_new eΛ58 o_a53
  have o_a57 := Ob_newS eΛ58 ea57
  refine r_putR (j := 18) d_X12_init_122 rfl kX12 (by decide) fl_X12_57 rfl rfl o_t.1 o_t.2.1 o_a57.1 o_t.2.2.1 o_t.2.2.2 rfl ⟨rfl, fun _ => ⟨rfl, rfl⟩⟩ ?_
  refine y_nmL (fun Λ60 eΛ60 => ?_)
  have h := h Λ60 eΛ60
  have o_t := Ob_stR eΛ60 o_t
  have o_a1 := Ob_stR eΛ60 o_a1
  have o_a5 := Ob_stR eΛ60 o_a5
  have o_a9 := Ob_stR eΛ60 o_a9
  have o_a13 := Ob_stR eΛ60 o_a13
  have o_a17 := Ob_stR eΛ60 o_a17
  have o_a21 := Ob_stR eΛ60 o_a21
  have o_a25 := Ob_stR eΛ60 o_a25
  have o_a29 := Ob_stR eΛ60 o_a29
  have o_a33 := Ob_stR eΛ60 o_a33
  have o_a37 := Ob_stR eΛ60 o_a37
  have o_a41 := Ob_stR eΛ60 o_a41
  have o_a45 := Ob_stR eΛ60 o_a45
  have o_a49 := Ob_stR eΛ60 o_a49
  have o_a53 := Ob_stR eΛ60 o_a53
  have o_a57 := Ob_stR eΛ60 o_a57
  refine r_aload_n (x := t) d_X12_init_125 rfl o_t.1 ?_
  refine r_iconst (x := (-1)) d_X12_init_126 ⟨by decide, by decide⟩ ?_
  refine r_putI (j := 23) d_X12_init_127 kX12 (by decide) fl_X12_61 rfl o_t.1 o_t.2.1 o_t.2.2.1 o_t.2.2.2 rfl ?_
  refine r_nmM (fun τ61 eτ61 => ?_)
  have h := h τ61 eτ61
  refine r_aload_n (x := t) d_X12_init_130 rfl o_t.1 ?_
  refine r_bipush (x := 10) d_X12_init_131 ⟨by decide, by decide⟩ (by decide) ?_
  refine y_newa (t := 0) (ln := 10) d_X12_init_133 rfl (by decide) ac_int rfl (by decide) (by decide) h.1 (fun a62 ea62 Λ63 eΛ63 σ64 eσ64 => ?_)
  have h := h.2 a62 ea62 Λ63 eΛ63 σ64 eσ64
  have o_t := Ob_new eΛ63 o_t
  have o_a1 := Ob_new eΛ63 o_a1
  have o_a5 := Ob_new eΛ63 o_a5
  have o_a9 := Ob_new eΛ63 o_a9
  have o_a13 := Ob_new eΛ63 o_a13
  have o_a17 := Ob_new eΛ63 o_a17
  have o_a21 := Ob_new eΛ63 o_a21
  have o_a25 := Ob_new eΛ63 o_a25
  have o_a29 := Ob_new eΛ63 o_a29
  have o_a33 := Ob_new eΛ63 o_a33
  have o_a37 := Ob_new eΛ63 o_a37
  have o_a41 := Ob_new eΛ63 o_a41
  have o_a45 := Ob_new eΛ63 o_a45
  have o_a49 := Ob_new eΛ63 o_a49
  have o_a53 := Ob_new eΛ63 o_a53
  have o_a57 := Ob_new eΛ63 o_a57
  have o_a62 := Ob_newS eΛ63 ea62
  refine r_putR (j := 25) d_X12_init_135 rfl kX12 (by decide) fl_X12_64 rfl rfl o_t.1 o_t.2.1 o_a62.1 o_t.2.2.1 o_t.2.2.2 rfl ⟨rfl, fun _ => ⟨rfl, rfl⟩⟩ ?_
  refine y_nmL (fun Λ65 eΛ65 => ?_)
  have h := h Λ65 eΛ65
  have o_t := Ob_stR eΛ65 o_t
  have o_a1 := Ob_stR eΛ65 o_a1
  have o_a5 := Ob_stR eΛ65 o_a5
  have o_a9 := Ob_stR eΛ65 o_a9
  have o_a13 := Ob_stR eΛ65 o_a13
  have o_a17 := Ob_stR eΛ65 o_a17
  have o_a21 := Ob_stR eΛ65 o_a21
  have o_a25 := Ob_stR eΛ65 o_a25
  have o_a29 := Ob_stR eΛ65 o_a29
  have o_a33 := Ob_stR eΛ65 o_a33
  have o_a37 := Ob_stR eΛ65 o_a37
  have o_a41 := Ob_stR eΛ65 o_a41
  have o_a45 := Ob_stR eΛ65 o_a45
  have o_a49 := Ob_stR eΛ65 o_a49
  have o_a53 := Ob_stR eΛ65 o_a53
  have o_a57 := Ob_stR eΛ65 o_a57
  have o_a62 := Ob_stR eΛ65 o_a62
  refine r_aload_n (x := t) d_X12_init_138 rfl o_t.1 ?_
  refine r_iconst (x := 4) d_X12_init_139 ⟨by decide, by decide⟩ ?_
  refine y_newa (t := 0) (ln := 4) d_X12_init_140 rfl (by decide) ac_int rfl (by decide) (by decide) h.1 (fun a66 ea66 Λ67 eΛ67 σ68 eσ68 => ?_)
  have h := h.2 a66 ea66 Λ67 eΛ67 σ68 eσ68
  have o_t := Ob_new eΛ67 o_t
  have o_a1 := Ob_new eΛ67 o_a1
  have o_a5 := Ob_new eΛ67 o_a5
  have o_a9 := Ob_new eΛ67 o_a9
  have o_a13 := Ob_new eΛ67 o_a13
  have o_a17 := Ob_new eΛ67 o_a17
  have o_a21 := Ob_new eΛ67 o_a21
  have o_a25 := Ob_new eΛ67 o_a25
  have o_a29 := Ob_new eΛ67 o_a29
  have o_a33 := Ob_new eΛ67 o_a33
  have o_a37 := Ob_new eΛ67 o_a37
  have o_a41 := Ob_new eΛ67 o_a41
  have o_a45 := Ob_new eΛ67 o_a45
  have o_a49 := Ob_new eΛ67 o_a49
  have o_a53 := Ob_new eΛ67 o_a53
  have o_a57 := Ob_new eΛ67 o_a57
  have o_a62 := Ob_new eΛ67 o_a62
  have o_a66 := Ob_newS eΛ67 ea66
  refine r_putR (j := 26) d_X12_init_142 rfl kX12 (by decide) fl_X12_67 rfl rfl o_t.1 o_t.2.1 o_a66.1 o_t.2.2.1 o_t.2.2.2 rfl ⟨rfl, fun _ => ⟨rfl, rfl⟩⟩ ?_
  refine y_nmL (fun Λ69 eΛ69 => ?_)
  have h := h Λ69 eΛ69
  have o_t := Ob_stR eΛ69 o_t
  have o_a1 := Ob_stR eΛ69 o_a1
  have o_a5 := Ob_stR eΛ69 o_a5
  have o_a9 := Ob_stR eΛ69 o_a9
  have o_a13 := Ob_stR eΛ69 o_a13
  have o_a17 := Ob_stR eΛ69 o_a17
  have o_a21 := Ob_stR eΛ69 o_a21
  have o_a25 := Ob_stR eΛ69 o_a25
  have o_a29 := Ob_stR eΛ69 o_a29
  have o_a33 := Ob_stR eΛ69 o_a33
  have o_a37 := Ob_stR eΛ69 o_a37
  have o_a41 := Ob_stR eΛ69 o_a41
  have o_a45 := Ob_stR eΛ69 o_a45
  have o_a49 := Ob_stR eΛ69 o_a49
  have o_a53 := Ob_stR eΛ69 o_a53
  have o_a57 := Ob_stR eΛ69 o_a57
  have o_a62 := Ob_stR eΛ69 o_a62
  have o_a66 := Ob_stR eΛ69 o_a66
  refine r_aload_n (x := t) d_X12_init_145 rfl o_t.1 ?_
  refine r_sipush (x := 480) d_X12_init_146 ⟨by decide, by decide⟩ (by decide) ?_
  refine y_newa (t := 0) (ln := 480) d_X12_init_149 rfl (by decide) ac_int rfl (by decide) (by decide) h.1 (fun a70 ea70 Λ71 eΛ71 σ72 eσ72 => ?_)
  have h := h.2 a70 ea70 Λ71 eΛ71 σ72 eσ72
  have o_t := Ob_new eΛ71 o_t
  have o_a1 := Ob_new eΛ71 o_a1
  have o_a5 := Ob_new eΛ71 o_a5
  have o_a9 := Ob_new eΛ71 o_a9
  have o_a13 := Ob_new eΛ71 o_a13
  have o_a17 := Ob_new eΛ71 o_a17
  have o_a21 := Ob_new eΛ71 o_a21
  have o_a25 := Ob_new eΛ71 o_a25
  have o_a29 := Ob_new eΛ71 o_a29
  have o_a33 := Ob_new eΛ71 o_a33
  have o_a37 := Ob_new eΛ71 o_a37
  have o_a41 := Ob_new eΛ71 o_a41
  have o_a45 := Ob_new eΛ71 o_a45
  have o_a49 := Ob_new eΛ71 o_a49
  have o_a53 := Ob_new eΛ71 o_a53
  have o_a57 := Ob_new eΛ71 o_a57
  have o_a62 := Ob_new eΛ71 o_a62
  have o_a66 := Ob_new eΛ71 o_a66
  have o_a70 := Ob_newS eΛ71 ea70
  refine r_putR (j := 30) d_X12_init_151 rfl kX12 (by decide) fl_X12_70 rfl rfl o_t.1 o_t.2.1 o_a70.1 o_t.2.2.1 o_t.2.2.2 rfl ⟨rfl, fun _ => ⟨rfl, rfl⟩⟩ ?_
  refine y_nmL (fun Λ73 eΛ73 => ?_)
  have h := h Λ73 eΛ73
  have o_t := Ob_stR eΛ73 o_t
  have o_a1 := Ob_stR eΛ73 o_a1
  have o_a5 := Ob_stR eΛ73 o_a5
  have o_a9 := Ob_stR eΛ73 o_a9
  have o_a13 := Ob_stR eΛ73 o_a13
  have o_a17 := Ob_stR eΛ73 o_a17
  have o_a21 := Ob_stR eΛ73 o_a21
  have o_a25 := Ob_stR eΛ73 o_a25
  have o_a29 := Ob_stR eΛ73 o_a29
  have o_a33 := Ob_stR eΛ73 o_a33
  have o_a37 := Ob_stR eΛ73 o_a37
  have o_a41 := Ob_stR eΛ73 o_a41
  have o_a45 := Ob_stR eΛ73 o_a45
  have o_a49 := Ob_stR eΛ73 o_a49
  have o_a53 := Ob_stR eΛ73 o_a53
  have o_a57 := Ob_stR eΛ73 o_a57
  have o_a62 := Ob_stR eΛ73 o_a62
  have o_a66 := Ob_stR eΛ73 o_a66
  have o_a70 := Ob_stR eΛ73 o_a70
  refine r_aload_n (x := t) d_X12_init_154 rfl o_t.1 ?_
  refine r_sipush (x := 2880) d_X12_init_155 ⟨by decide, by decide⟩ (by decide) ?_
  refine y_newa (t := 1) (ln := 2880) d_X12_init_158 rfl (by decide) ac_long rfl (by decide) (by decide) h.1 (fun a74 ea74 Λ75 eΛ75 σ76 eσ76 => ?_)
  have h := h.2 a74 ea74 Λ75 eΛ75 σ76 eσ76
  have o_t := Ob_new eΛ75 o_t
  have o_a1 := Ob_new eΛ75 o_a1
  have o_a5 := Ob_new eΛ75 o_a5
  have o_a9 := Ob_new eΛ75 o_a9
  have o_a13 := Ob_new eΛ75 o_a13
  have o_a17 := Ob_new eΛ75 o_a17
  have o_a21 := Ob_new eΛ75 o_a21
  have o_a25 := Ob_new eΛ75 o_a25
  have o_a29 := Ob_new eΛ75 o_a29
  have o_a33 := Ob_new eΛ75 o_a33
  have o_a37 := Ob_new eΛ75 o_a37
  have o_a41 := Ob_new eΛ75 o_a41
  have o_a45 := Ob_new eΛ75 o_a45
  have o_a49 := Ob_new eΛ75 o_a49
  have o_a53 := Ob_new eΛ75 o_a53
  have o_a57 := Ob_new eΛ75 o_a57
  have o_a62 := Ob_new eΛ75 o_a62
  have o_a66 := Ob_new eΛ75 o_a66
  have o_a70 := Ob_new eΛ75 o_a70
  have o_a74 := Ob_newS eΛ75 ea74
  refine r_putR (j := 31) d_X12_init_160 rfl kX12 (by decide) fl_X12_73 rfl rfl o_t.1 o_t.2.1 o_a74.1 o_t.2.2.1 o_t.2.2.2 rfl ⟨rfl, fun _ => ⟨rfl, rfl⟩⟩ ?_
  refine y_nmL (fun Λ77 eΛ77 => ?_)
  have h := h Λ77 eΛ77
  have o_t := Ob_stR eΛ77 o_t
  have o_a1 := Ob_stR eΛ77 o_a1
  have o_a5 := Ob_stR eΛ77 o_a5
  have o_a9 := Ob_stR eΛ77 o_a9
  have o_a13 := Ob_stR eΛ77 o_a13
  have o_a17 := Ob_stR eΛ77 o_a17
  have o_a21 := Ob_stR eΛ77 o_a21
  have o_a25 := Ob_stR eΛ77 o_a25
  have o_a29 := Ob_stR eΛ77 o_a29
  have o_a33 := Ob_stR eΛ77 o_a33
  have o_a37 := Ob_stR eΛ77 o_a37
  have o_a41 := Ob_stR eΛ77 o_a41
  have o_a45 := Ob_stR eΛ77 o_a45
  have o_a49 := Ob_stR eΛ77 o_a49
  have o_a53 := Ob_stR eΛ77 o_a53
  have o_a57 := Ob_stR eΛ77 o_a57
  have o_a62 := Ob_stR eΛ77 o_a62
  have o_a66 := Ob_stR eΛ77 o_a66
  have o_a70 := Ob_stR eΛ77 o_a70
  have o_a74 := Ob_stR eΛ77 o_a74
  refine r_aload_n (x := t) d_X12_init_163 rfl o_t.1 ?_
  refine r_bipush (x := 6) d_X12_init_164 ⟨by decide, by decide⟩ (by decide) ?_
  refine y_newa (t := 0) (ln := 6) d_X12_init_166 rfl (by decide) ac_int rfl (by decide) (by decide) h.1 (fun a78 ea78 Λ79 eΛ79 σ80 eσ80 => ?_)
  have h := h.2 a78 ea78 Λ79 eΛ79 σ80 eσ80
  have o_t := Ob_new eΛ79 o_t
  have o_a1 := Ob_new eΛ79 o_a1
  have o_a5 := Ob_new eΛ79 o_a5
  have o_a9 := Ob_new eΛ79 o_a9
  have o_a13 := Ob_new eΛ79 o_a13
  have o_a17 := Ob_new eΛ79 o_a17
  have o_a21 := Ob_new eΛ79 o_a21
  have o_a25 := Ob_new eΛ79 o_a25
  have o_a29 := Ob_new eΛ79 o_a29
  have o_a33 := Ob_new eΛ79 o_a33
  have o_a37 := Ob_new eΛ79 o_a37
  have o_a41 := Ob_new eΛ79 o_a41
  have o_a45 := Ob_new eΛ79 o_a45
  have o_a49 := Ob_new eΛ79 o_a49
  have o_a53 := Ob_new eΛ79 o_a53
  have o_a57 := Ob_new eΛ79 o_a57
  have o_a62 := Ob_new eΛ79 o_a62
  have o_a66 := Ob_new eΛ79 o_a66
  have o_a70 := Ob_new eΛ79 o_a70
  have o_a74 := Ob_new eΛ79 o_a74
  have o_a78 := Ob_newS eΛ79 ea78
  refine r_putR (j := 33) d_X12_init_168 rfl kX12 (by decide) fl_X12_77 rfl rfl o_t.1 o_t.2.1 o_a78.1 o_t.2.2.1 o_t.2.2.2 rfl ⟨rfl, fun _ => ⟨rfl, rfl⟩⟩ ?_
  refine y_nmL (fun Λ81 eΛ81 => ?_)
  have h := h Λ81 eΛ81
  have o_t := Ob_stR eΛ81 o_t
  have o_a1 := Ob_stR eΛ81 o_a1
  have o_a5 := Ob_stR eΛ81 o_a5
  have o_a9 := Ob_stR eΛ81 o_a9
  have o_a13 := Ob_stR eΛ81 o_a13
  have o_a17 := Ob_stR eΛ81 o_a17
  have o_a21 := Ob_stR eΛ81 o_a21
  have o_a25 := Ob_stR eΛ81 o_a25
  have o_a29 := Ob_stR eΛ81 o_a29
  have o_a33 := Ob_stR eΛ81 o_a33
  have o_a37 := Ob_stR eΛ81 o_a37
  have o_a41 := Ob_stR eΛ81 o_a41
  have o_a45 := Ob_stR eΛ81 o_a45
  have o_a49 := Ob_stR eΛ81 o_a49
  have o_a53 := Ob_stR eΛ81 o_a53
  have o_a57 := Ob_stR eΛ81 o_a57
  have o_a62 := Ob_stR eΛ81 o_a62
  have o_a66 := Ob_stR eΛ81 o_a66
  have o_a70 := Ob_stR eΛ81 o_a70
  have o_a74 := Ob_stR eΛ81 o_a74
  have o_a78 := Ob_stR eΛ81 o_a78
  refine r_aload_n (x := t) d_X12_init_171 rfl o_t.1 ?_
  refine r_bipush (x := 6) d_X12_init_172 ⟨by decide, by decide⟩ (by decide) ?_
  refine y_newa (t := 0) (ln := 6) d_X12_init_174 rfl (by decide) ac_int rfl (by decide) (by decide) h.1 (fun a82 ea82 Λ83 eΛ83 σ84 eσ84 => ?_)
  have h := h.2 a82 ea82 Λ83 eΛ83 σ84 eσ84
  have o_t := Ob_new eΛ83 o_t
  have o_a1 := Ob_new eΛ83 o_a1
  have o_a5 := Ob_new eΛ83 o_a5
  have o_a9 := Ob_new eΛ83 o_a9
  have o_a13 := Ob_new eΛ83 o_a13
  have o_a17 := Ob_new eΛ83 o_a17
  have o_a21 := Ob_new eΛ83 o_a21
  have o_a25 := Ob_new eΛ83 o_a25
  have o_a29 := Ob_new eΛ83 o_a29
  have o_a33 := Ob_new eΛ83 o_a33
  have o_a37 := Ob_new eΛ83 o_a37
  have o_a41 := Ob_new eΛ83 o_a41
  have o_a45 := Ob_new eΛ83 o_a45
  have o_a49 := Ob_new eΛ83 o_a49
  have o_a53 := Ob_new eΛ83 o_a53
  have o_a57 := Ob_new eΛ83 o_a57
  have o_a62 := Ob_new eΛ83 o_a62
  have o_a66 := Ob_new eΛ83 o_a66
  have o_a70 := Ob_new eΛ83 o_a70
  have o_a74 := Ob_new eΛ83 o_a74
  have o_a78 := Ob_new eΛ83 o_a78
  have o_a82 := Ob_newS eΛ83 ea82
  refine r_putR (j := 34) d_X12_init_176 rfl kX12 (by decide) fl_X12_80 rfl rfl o_t.1 o_t.2.1 o_a82.1 o_t.2.2.1 o_t.2.2.2 rfl ⟨rfl, fun _ => ⟨rfl, rfl⟩⟩ ?_
  refine y_nmL (fun Λ85 eΛ85 => ?_)
  have h := h Λ85 eΛ85
  have o_t := Ob_stR eΛ85 o_t
  have o_a1 := Ob_stR eΛ85 o_a1
  have o_a5 := Ob_stR eΛ85 o_a5
  have o_a9 := Ob_stR eΛ85 o_a9
  have o_a13 := Ob_stR eΛ85 o_a13
  have o_a17 := Ob_stR eΛ85 o_a17
  have o_a21 := Ob_stR eΛ85 o_a21
  have o_a25 := Ob_stR eΛ85 o_a25
  have o_a29 := Ob_stR eΛ85 o_a29
  have o_a33 := Ob_stR eΛ85 o_a33
  have o_a37 := Ob_stR eΛ85 o_a37
  have o_a41 := Ob_stR eΛ85 o_a41
  have o_a45 := Ob_stR eΛ85 o_a45
  have o_a49 := Ob_stR eΛ85 o_a49
  have o_a53 := Ob_stR eΛ85 o_a53
  have o_a57 := Ob_stR eΛ85 o_a57
  have o_a62 := Ob_stR eΛ85 o_a62
  have o_a66 := Ob_stR eΛ85 o_a66
  have o_a70 := Ob_stR eΛ85 o_a70
  have o_a74 := Ob_stR eΛ85 o_a74
  have o_a78 := Ob_stR eΛ85 o_a78
  have o_a82 := Ob_stR eΛ85 o_a82
  refine r_aload_n (x := t) d_X12_init_179 rfl o_t.1 ?_
  refine r_bipush (x := 7) d_X12_init_180 ⟨by decide, by decide⟩ (by decide) ?_
  refine y_newa (t := 0) (ln := 7) d_X12_init_182 rfl (by decide) ac_int rfl (by decide) (by decide) h.1 (fun a86 ea86 Λ87 eΛ87 σ88 eσ88 => ?_)
  have h := h.2 a86 ea86 Λ87 eΛ87 σ88 eσ88
  have o_t := Ob_new eΛ87 o_t
  have o_a1 := Ob_new eΛ87 o_a1
  have o_a5 := Ob_new eΛ87 o_a5
  have o_a9 := Ob_new eΛ87 o_a9
  have o_a13 := Ob_new eΛ87 o_a13
  have o_a17 := Ob_new eΛ87 o_a17
  have o_a21 := Ob_new eΛ87 o_a21
  have o_a25 := Ob_new eΛ87 o_a25
  have o_a29 := Ob_new eΛ87 o_a29
  have o_a33 := Ob_new eΛ87 o_a33
  have o_a37 := Ob_new eΛ87 o_a37
  have o_a41 := Ob_new eΛ87 o_a41
  have o_a45 := Ob_new eΛ87 o_a45
  have o_a49 := Ob_new eΛ87 o_a49
  have o_a53 := Ob_new eΛ87 o_a53
  have o_a57 := Ob_new eΛ87 o_a57
  have o_a62 := Ob_new eΛ87 o_a62
  have o_a66 := Ob_new eΛ87 o_a66
  have o_a70 := Ob_new eΛ87 o_a70
  have o_a74 := Ob_new eΛ87 o_a74
  have o_a78 := Ob_new eΛ87 o_a78
  have o_a82 := Ob_new eΛ87 o_a82
  have o_a86 := Ob_newS eΛ87 ea86
  refine r_putR (j := 35) d_X12_init_184 rfl kX12 (by decide) fl_X12_83 rfl rfl o_t.1 o_t.2.1 o_a86.1 o_t.2.2.1 o_t.2.2.2 rfl ⟨rfl, fun _ => ⟨rfl, rfl⟩⟩ ?_
  refine y_nmL (fun Λ89 eΛ89 => ?_)
  have h := h Λ89 eΛ89
  have o_t := Ob_stR eΛ89 o_t
  have o_a1 := Ob_stR eΛ89 o_a1
  have o_a5 := Ob_stR eΛ89 o_a5
  have o_a9 := Ob_stR eΛ89 o_a9
  have o_a13 := Ob_stR eΛ89 o_a13
  have o_a17 := Ob_stR eΛ89 o_a17
  have o_a21 := Ob_stR eΛ89 o_a21
  have o_a25 := Ob_stR eΛ89 o_a25
  have o_a29 := Ob_stR eΛ89 o_a29
  have o_a33 := Ob_stR eΛ89 o_a33
  have o_a37 := Ob_stR eΛ89 o_a37
  have o_a41 := Ob_stR eΛ89 o_a41
  have o_a45 := Ob_stR eΛ89 o_a45
  have o_a49 := Ob_stR eΛ89 o_a49
  have o_a53 := Ob_stR eΛ89 o_a53
  have o_a57 := Ob_stR eΛ89 o_a57
  have o_a62 := Ob_stR eΛ89 o_a62
  have o_a66 := Ob_stR eΛ89 o_a66
  have o_a70 := Ob_stR eΛ89 o_a70
  have o_a74 := Ob_stR eΛ89 o_a74
  have o_a78 := Ob_stR eΛ89 o_a78
  have o_a82 := Ob_stR eΛ89 o_a82
  have o_a86 := Ob_stR eΛ89 o_a86
  refine r_iconst (x := 0) d_X12_init_187 ⟨by decide, by decide⟩ ?_
  refine r_istore_n (L2 := [(2, t), (0, 0), (3, 0), (3, 0), (3, 0)]) d_X12_init_188 (by decide) rfl rfl ?_
  refine r_iconst (x := 0) d_X12_init_189 ⟨by decide, by decide⟩ ?_
  refine r_istore_n (L2 := [(2, t), (0, 0), (0, 0), (3, 0), (3, 0)]) d_X12_init_190 (by decide) rfl rfl ?_
  exact h
theorem v_X12_init_191 {l : Launch} {d mc ms k n N : Nat} {Λ : Lay} {P : Nat → Lay → Mem → Prop} {σ : Mem} {t x1 x2 : Int} (o_t : Ob N Λ t 21 36) (h0d : 1 ≤ d)
    (h : ((10 ≤ x2 → WC l mX12_init d mc ms P k n 301 [(2, t), (0, x1), (0, 0), (3, 0), (3, 0)] [] N Λ σ) ∧ (¬ (10 ≤ x2) → (∀ y1, y1 = (addI x2 1) → WC l mX12_init d mc ms P k n 201 [(2, t), (0, x1), (0, x2), (0, y1), (3, 0)] [] N Λ σ)))) :
    WC l mX12_init d mc ms P k n 191 [(2, t), (0, x1), (0, x2), (3, 0), (3, 0)] [] N Λ σ := by
  refine r_iload_n (x := x2) d_X12_init_191 rfl ?_
  refine r_bipush (x := 10) d_X12_init_192 ⟨by decide, by decide⟩ (by decide) ?_
  refine r_ic_ge (tgt := 299) d_X12_init_194 rfl (fun hc => ?_) (fun hc => ?_)
  · have h := h.1 hc
    refine r_iconst (x := 0) d_X12_init_299 ⟨by decide, by decide⟩ ?_
    refine r_istore_n (L2 := [(2, t), (0, x1), (0, 0), (3, 0), (3, 0)]) d_X12_init_300 (by decide) rfl rfl ?_
    exact h
  · have h := h.2 hc
    refine r_iload_n (x := x2) d_X12_init_197 rfl ?_
    refine r_iconst (x := 1) d_X12_init_198 ⟨by decide, by decide⟩ ?_
    refine r_iadd d_X12_init_199 ?_
    refine r_nm (fun y1 ey1 => ?_)
    have h := h y1 ey1
    refine r_istore_n (L2 := [(2, t), (0, x1), (0, x2), (0, y1), (3, 0)]) d_X12_init_200 (by decide) rfl rfl ?_
    exact h
theorem v_X12_init_201 {l : Launch} {d mc ms k n N : Nat} {Λ : Lay} {P : Nat → Lay → Mem → Prop} {σ : Mem} {t x1 x2 x3 : Int} (o_t : Ob N Λ t 21 36) (h0d : 1 ≤ d)
    (h : ((10 ≤ x3 → (∀ y1, y1 = addI x2 1 → WC l mX12_init d mc ms P k n 191 [(2, t), (0, x1), (0, y1), (3, 0), (3, 0)] [] N Λ σ)) ∧ (¬ (10 ≤ x3) → (∀ y2, y2 = (addI x3 1) → WC l mX12_init d mc ms P k n 212 [(2, t), (0, x1), (0, x2), (0, x3), (0, y2)] [] N Λ σ)))) :
    WC l mX12_init d mc ms P k n 201 [(2, t), (0, x1), (0, x2), (0, x3), (3, 0)] [] N Λ σ := by
  refine r_iload_n (x := x3) d_X12_init_201 rfl ?_
  refine r_bipush (x := 10) d_X12_init_202 ⟨by decide, by decide⟩ (by decide) ?_
  refine r_ic_ge (tgt := 293) d_X12_init_204 rfl (fun hc => ?_) (fun hc => ?_)
  · have h := h.1 hc
    refine x_iinc (x := x2) (L := [(2, t), (0, x1), (0, x2), (0, x3), (3, 0)]) d_X12_init_293 rfl (by decide) rfl (fun y1 ey1 => ?_)
    have h := h y1 ey1
    show WP _ _ _ _ _ _ _ _ [(2, t), (0, x1), (0, y1), (0, x3), (3, 0)] _ _ _ _
    refine r_goto (tgt := 191) d_X12_init_296 rfl ?_
    exact x_mask h ⟨Or.inr rfl, Or.inr rfl, Or.inr rfl, Or.inl rfl, Or.inl rfl, trivial⟩
  · have h := h.2 hc
    refine r_iload_n (x := x3) d_X12_init_207 rfl ?_
    refine r_iconst (x := 1) d_X12_init_208 ⟨by decide, by decide⟩ ?_
    refine r_iadd d_X12_init_209 ?_
    refine r_nm (fun y2 ey2 => ?_)
    have h := h y2 ey2
    refine r_istore (L2 := [(2, t), (0, x1), (0, x2), (0, x3), (0, y2)]) d_X12_init_210 (by decide) rfl rfl ?_
    exact h
theorem v_X12_init_212 {l : Launch} {d mc ms k n N : Nat} {Λ : Lay} {P : Nat → Lay → Mem → Prop} {σ : Mem} {t x1 x2 x3 x4 : Int} (o_t : Ob N Λ t 21 36) (h0d : 1 ≤ d)
    (h : ((10 ≤ x4 → (∀ y1, y1 = addI x3 1 → WC l mX12_init d mc ms P k n 201 [(2, t), (0, x1), (0, x2), (0, y1), (3, 0)] [] N Λ σ)) ∧ (¬ (10 ≤ x4) → (∀ y2, y2 = addI x1 1 → (∀ b3, b3 = (Λ t).2.2 2 → ∃ n4 : Int, Ob N Λ b3 0 n4 ∧ (Ix N Λ b3 0 (mulI 3 y2) ∧ ∀ τ5, τ5 = st σ b3 (mulI 3 y2) x2 → (∀ b6, b6 = (Λ t).2.2 2 → ∃ n7 : Int, Ob N Λ b6 0 n7 ∧ (Ix N Λ b6 0 (addI (mulI 3 y2) 1) ∧ ∀ τ8, τ8 = st τ5 b6 (addI (mulI 3 y2) 1) x3 → (∀ b9, b9 = (Λ t).2.2 2 → ∃ n10 : Int, Ob N Λ b9 0 n10 ∧ (Ix N Λ b9 0 (addI (mulI 3 y2) 2) ∧ ∀ τ11, τ11 = st τ8 b9 (addI (mulI 3 y2) 2) x4 → ((k ≤ mc ∧ n ≤ ms) ∧ CV l mX12_ranks (d - 1) [(2, t), (0, x2), (0, x3), (0, x4), (0, y2)] N Λ τ11 (fun σ12 => ((k ≤ mc ∧ n ≤ ms) ∧ CV l mX12_ranks (d - 1) [(2, t), (0, x3), (0, x4), (0, x2), (0, y2)] N Λ σ12 (fun σ13 => ((k ≤ mc ∧ n ≤ ms) ∧ CV l mX12_ranks (d - 1) [(2, t), (0, x4), (0, x2), (0, x3), (0, y2)] N Λ σ13 (fun σ14 => (∀ y15, y15 = addI x4 1 → WC l mX12_init d mc ms P k n 212 [(2, t), (0, y2), (0, x2), (0, x3), (0, y15)] [] N Λ σ14))))))))))))))))) :
    WC l mX12_init d mc ms P k n 212 [(2, t), (0, x1), (0, x2), (0, x3), (0, x4)] [] N Λ σ := by
  refine r_iload (x := x4) d_X12_init_212 rfl ?_
  refine r_bipush (x := 10) d_X12_init_214 ⟨by decide, by decide⟩ (by decide) ?_
  refine r_ic_ge (tgt := 287) d_X12_init_216 rfl (fun hc => ?_) (fun hc => ?_)
  · have h := h.1 hc
    refine x_iinc (x := x3) (L := [(2, t), (0, x1), (0, x2), (0, x3), (0, x4)]) d_X12_init_287 rfl (by decide) rfl (fun y1 ey1 => ?_)
    have h := h y1 ey1
    show WP _ _ _ _ _ _ _ _ [(2, t), (0, x1), (0, x2), (0, y1), (0, x4)] _ _ _ _
    refine r_goto (tgt := 201) d_X12_init_290 rfl ?_
    exact x_mask h ⟨Or.inr rfl, Or.inr rfl, Or.inr rfl, Or.inr rfl, Or.inl rfl, trivial⟩
  · have h := h.2 hc
    refine x_iinc (x := x1) (L := [(2, t), (0, x1), (0, x2), (0, x3), (0, x4)]) d_X12_init_219 rfl (by decide) rfl (fun y2 ey2 => ?_)
    have h := h y2 ey2
    show WP _ _ _ _ _ _ _ _ [(2, t), (0, y2), (0, x2), (0, x3), (0, x4)] _ _ _ _
    refine r_aload_n (x := t) d_X12_init_222 rfl o_t.1 ?_
    refine r_nmR (j := 2) d_X12_init_223 kX12 (by decide) fl_X12_17 o_t rfl (fun b3 eb3 => ?_)
    have h := h b3 eb3
    obtain ⟨n4, o_b3, h⟩ := h
    refine r_iconst (x := 3) d_X12_init_226 ⟨by decide, by decide⟩ ?_
    refine r_iload_n (x := y2) d_X12_init_227 rfl ?_
    refine r_imul d_X12_init_228 ?_
    refine r_iload_n (x := x2) d_X12_init_229 rfl ?_
    refine x_iast d_X12_init_230 h.1 ?_
    have h := h.2
    refine r_nmM (fun τ5 eτ5 => ?_)
    have h := h τ5 eτ5
    refine r_aload_n (x := t) d_X12_init_231 rfl o_t.1 ?_
    refine r_nmR (j := 2) d_X12_init_232 kX12 (by decide) fl_X12_17 o_t rfl (fun b6 eb6 => ?_)
    have h := h b6 eb6
    obtain ⟨n7, o_b6, h⟩ := h
    refine r_iconst (x := 3) d_X12_init_235 ⟨by decide, by decide⟩ ?_
    refine r_iload_n (x := y2) d_X12_init_236 rfl ?_
    refine r_imul d_X12_init_237 ?_
    refine r_iconst (x := 1) d_X12_init_238 ⟨by decide, by decide⟩ ?_
    refine r_iadd d_X12_init_239 ?_
    refine r_iload_n (x := x3) d_X12_init_240 rfl ?_
    refine x_iast d_X12_init_241 h.1 ?_
    have h := h.2
    refine r_nmM (fun τ8 eτ8 => ?_)
    have h := h τ8 eτ8
    refine r_aload_n (x := t) d_X12_init_242 rfl o_t.1 ?_
    refine r_nmR (j := 2) d_X12_init_243 kX12 (by decide) fl_X12_17 o_t rfl (fun b9 eb9 => ?_)
    have h := h b9 eb9
    obtain ⟨n10, o_b9, h⟩ := h
    refine r_iconst (x := 3) d_X12_init_246 ⟨by decide, by decide⟩ ?_
    refine r_iload_n (x := y2) d_X12_init_247 rfl ?_
    refine r_imul d_X12_init_248 ?_
    refine r_iconst (x := 2) d_X12_init_249 ⟨by decide, by decide⟩ ?_
    refine r_iadd d_X12_init_250 ?_
    refine r_iload (x := x4) d_X12_init_251 rfl ?_
    refine x_iast d_X12_init_253 h.1 ?_
    have h := h.2
    refine r_nmM (fun τ11 eτ11 => ?_)
    have h := h τ11 eτ11
    refine r_aload_n (x := t) d_X12_init_254 rfl o_t.1 ?_
    refine r_iload_n (x := x2) d_X12_init_255 rfl ?_
    refine r_iload_n (x := x3) d_X12_init_256 rfl ?_
    refine r_iload (x := x4) d_X12_init_257 rfl ?_
    refine r_iload_n (x := y2) d_X12_init_259 rfl ?_
    refine y_callVV (Y2 := mX12_ranks) (c := t) (As := [(0, x2), (0, x3), (0, x4), (0, y2)]) (S := []) d_X12_init_260 ok_mX12_ranks ml_X12_86 rfl (Nat.le_of_ble_eq_true rfl) (Nat.le_of_ble_eq_true rfl) rfl h0d h.1 kX12 o_t (CV.mono h.2 (fun σ12 h => ?_))
    refine r_aload_n (x := t) d_X12_init_263 rfl o_t.1 ?_
    refine r_iload_n (x := x3) d_X12_init_264 rfl ?_
    refine r_iload (x := x4) d_X12_init_265 rfl ?_
    refine r_iload_n (x := x2) d_X12_init_267 rfl ?_
    refine r_iload_n (x := y2) d_X12_init_268 rfl ?_
    refine y_callVV (Y2 := mX12_ranks) (c := t) (As := [(0, x3), (0, x4), (0, x2), (0, y2)]) (S := []) d_X12_init_269 ok_mX12_ranks ml_X12_86 rfl (Nat.le_of_ble_eq_true rfl) (Nat.le_of_ble_eq_true rfl) rfl h0d h.1 kX12 o_t (CV.mono h.2 (fun σ13 h => ?_))
    refine r_aload_n (x := t) d_X12_init_272 rfl o_t.1 ?_
    refine r_iload (x := x4) d_X12_init_273 rfl ?_
    refine r_iload_n (x := x2) d_X12_init_275 rfl ?_
    refine r_iload_n (x := x3) d_X12_init_276 rfl ?_
    refine r_iload_n (x := y2) d_X12_init_277 rfl ?_
    refine y_callVV (Y2 := mX12_ranks) (c := t) (As := [(0, x4), (0, x2), (0, x3), (0, y2)]) (S := []) d_X12_init_278 ok_mX12_ranks ml_X12_86 rfl (Nat.le_of_ble_eq_true rfl) (Nat.le_of_ble_eq_true rfl) rfl h0d h.1 kX12 o_t (CV.mono h.2 (fun σ14 h => ?_))
    refine x_iinc (x := x4) (L := [(2, t), (0, y2), (0, x2), (0, x3), (0, x4)]) d_X12_init_281 rfl (by decide) rfl (fun y15 ey15 => ?_)
    have h := h y15 ey15
    show WP _ _ _ _ _ _ _ _ [(2, t), (0, y2), (0, x2), (0, x3), (0, y15)] _ _ _ _
    refine r_goto (tgt := 212) d_X12_init_284 rfl ?_
    exact h
theorem v_X12_init_301 {l : Launch} {d mc ms k n N : Nat} {Λ : Lay} {P : Nat → Lay → Mem → Prop} {σ : Mem} {t x1 x2 : Int} (o_t : Ob N Λ t 21 36) (h0d : 1 ≤ d)
    (h : ((120 ≤ x2 → ((k ≤ mc ∧ n ≤ ms) ∧ P N Λ σ)) ∧ (¬ (120 ≤ x2) → (∀ b1, b1 = (Λ t).2.2 3 → ∃ n2 : Int, Ob N Λ b1 0 n2 ∧ (Ix N Λ b1 0 (addI 996 x2) ∧ ∀ τ3, τ3 = st σ b1 (addI 996 x2) 2 → (∀ y4, y4 = addI x2 1 → WC l mX12_init d mc ms P k n 301 [(2, t), (0, x1), (0, y4), (3, 0), (3, 0)] [] N Λ τ3)))))) :
    WC l mX12_init d mc ms P k n 301 [(2, t), (0, x1), (0, x2), (3, 0), (3, 0)] [] N Λ σ := by
  refine r_iload_n (x := x2) d_X12_init_301 rfl ?_
  refine r_bipush (x := 120) d_X12_init_302 ⟨by decide, by decide⟩ (by decide) ?_
  refine r_ic_ge (tgt := 324) d_X12_init_304 rfl (fun hc => ?_) (fun hc => ?_)
  · have h := h.1 hc
    exact y_vret d_X12_init_324 rfl h.1 h.2
  · have h := h.2 hc
    refine r_aload_n (x := t) d_X12_init_307 rfl o_t.1 ?_
    refine r_nmR (j := 3) d_X12_init_308 kX12 (by decide) fl_X12_20 o_t rfl (fun b1 eb1 => ?_)
    have h := h b1 eb1
    obtain ⟨n2, o_b1, h⟩ := h
    refine r_sipush (x := 996) d_X12_init_311 ⟨by decide, by decide⟩ (by decide) ?_
    refine r_iload_n (x := x2) d_X12_init_314 rfl ?_
    refine r_iadd d_X12_init_315 ?_
    refine r_iconst (x := 2) d_X12_init_316 ⟨by decide, by decide⟩ ?_
    refine x_iast d_X12_init_317 h.1 ?_
    have h := h.2
    refine r_nmM (fun τ3 eτ3 => ?_)
    have h := h τ3 eτ3
    refine x_iinc (x := x2) (L := [(2, t), (0, x1), (0, x2), (3, 0), (3, 0)]) d_X12_init_318 rfl (by decide) rfl (fun y4 ey4 => ?_)
    have h := h y4 ey4
    show WP _ _ _ _ _ _ _ _ [(2, t), (0, x1), (0, y4), (3, 0), (3, 0)] _ _ _ _
    refine r_goto (tgt := 301) d_X12_init_321 rfl ?_
    exact h
