theorem d_X12_opensText_0 : DC mX12_opensText 0 (.iload_n 1) 1 1 := ⟨by decide +kernel, rfl⟩
theorem d_X12_opensText_1 : DC mX12_opensText 1 (.invokestatic 199) 3 4 := ⟨by decide +kernel, rfl⟩
theorem d_X12_opensText_4 : DC mX12_opensText 4 (.ifCond .ne 10) 3 7 := ⟨by decide +kernel, rfl⟩
theorem d_X12_opensText_7 : DC mX12_opensText 7 (.aload_n 0) 1 8 := ⟨by decide +kernel, rfl⟩
theorem d_X12_opensText_8 : DC mX12_opensText 8 (.bipush (-2)) 2 10 := ⟨by decide +kernel, rfl⟩
theorem d_X12_opensText_10 : DC mX12_opensText 10 (.invokevirtual 218) 3 13 := ⟨by decide +kernel, rfl⟩
theorem d_X12_opensText_13 : DC mX12_opensText 13 (.ireturn) 1 14 := ⟨by decide +kernel, rfl⟩
theorem d_X12_opensText_14 : DC mX12_opensText 14 (.iload_n 2) 1 15 := ⟨by decide +kernel, rfl⟩
theorem d_X12_opensText_15 : DC mX12_opensText 15 (.i2l) 1 16 := ⟨by decide +kernel, rfl⟩
theorem d_X12_opensText_16 : DC mX12_opensText 16 (.lconst 0) 1 17 := ⟨by decide +kernel, rfl⟩
theorem d_X12_opensText_17 : DC mX12_opensText 17 (.aload_n 0) 1 18 := ⟨by decide +kernel, rfl⟩
theorem d_X12_opensText_18 : DC mX12_opensText 18 (.getfield 252) 3 21 := ⟨by decide +kernel, rfl⟩
theorem d_X12_opensText_21 : DC mX12_opensText 21 (.i2l) 1 22 := ⟨by decide +kernel, rfl⟩
theorem d_X12_opensText_22 : DC mX12_opensText 22 (.invokestatic 91) 3 25 := ⟨by decide +kernel, rfl⟩
theorem d_X12_opensText_25 : DC mX12_opensText 25 (.ifCond .ne 10) 3 28 := ⟨by decide +kernel, rfl⟩
theorem d_X12_opensText_28 : DC mX12_opensText 28 (.aload_n 0) 1 29 := ⟨by decide +kernel, rfl⟩
theorem d_X12_opensText_29 : DC mX12_opensText 29 (.bipush (-3)) 2 31 := ⟨by decide +kernel, rfl⟩
theorem d_X12_opensText_31 : DC mX12_opensText 31 (.invokevirtual 218) 3 34 := ⟨by decide +kernel, rfl⟩
theorem d_X12_opensText_34 : DC mX12_opensText 34 (.ireturn) 1 35 := ⟨by decide +kernel, rfl⟩
theorem d_X12_opensText_35 : DC mX12_opensText 35 (.aload_n 0) 1 36 := ⟨by decide +kernel, rfl⟩
theorem d_X12_opensText_36 : DC mX12_opensText 36 (.iconst 0) 1 37 := ⟨by decide +kernel, rfl⟩
theorem d_X12_opensText_37 : DC mX12_opensText 37 (.putfield 252) 3 40 := ⟨by decide +kernel, rfl⟩
theorem d_X12_opensText_40 : DC mX12_opensText 40 (.aload_n 0) 1 41 := ⟨by decide +kernel, rfl⟩
theorem d_X12_opensText_41 : DC mX12_opensText 41 (.iload_n 2) 1 42 := ⟨by decide +kernel, rfl⟩
theorem d_X12_opensText_42 : DC mX12_opensText 42 (.putfield 258) 3 45 := ⟨by decide +kernel, rfl⟩
theorem d_X12_opensText_45 : DC mX12_opensText 45 (.aload_n 0) 1 46 := ⟨by decide +kernel, rfl⟩
theorem d_X12_opensText_46 : DC mX12_opensText 46 (.iconst 0) 1 47 := ⟨by decide +kernel, rfl⟩
theorem d_X12_opensText_47 : DC mX12_opensText 47 (.putfield 255) 3 50 := ⟨by decide +kernel, rfl⟩
theorem d_X12_opensText_50 : DC mX12_opensText 50 (.aload_n 0) 1 51 := ⟨by decide +kernel, rfl⟩
theorem d_X12_opensText_51 : DC mX12_opensText 51 (.iconst 0) 1 52 := ⟨by decide +kernel, rfl⟩
theorem d_X12_opensText_52 : DC mX12_opensText 52 (.putfield 261) 3 55 := ⟨by decide +kernel, rfl⟩
theorem d_X12_opensText_55 : DC mX12_opensText 55 (.aload_n 0) 1 56 := ⟨by decide +kernel, rfl⟩
theorem d_X12_opensText_56 : DC mX12_opensText 56 (.iconst (-1)) 1 57 := ⟨by decide +kernel, rfl⟩
theorem d_X12_opensText_57 : DC mX12_opensText 57 (.putfield 61) 3 60 := ⟨by decide +kernel, rfl⟩
theorem d_X12_opensText_60 : DC mX12_opensText 60 (.iconst 0) 1 61 := ⟨by decide +kernel, rfl⟩
theorem d_X12_opensText_61 : DC mX12_opensText 61 (.ireturn) 1 62 := ⟨by decide +kernel, rfl⟩
theorem d_X12_told_0 : DC mX12_told 0 (.aload_n 0) 1 1 := ⟨by decide +kernel, rfl⟩
theorem d_X12_told_1 : DC mX12_told 1 (.iconst 0) 1 2 := ⟨by decide +kernel, rfl⟩
theorem d_X12_told_2 : DC mX12_told 2 (.putfield 1) 3 5 := ⟨by decide +kernel, rfl⟩
theorem d_X12_told_5 : DC mX12_told 5 (.aload_n 0) 1 6 := ⟨by decide +kernel, rfl⟩
theorem d_X12_told_6 : DC mX12_told 6 (.iload_n 1) 1 7 := ⟨by decide +kernel, rfl⟩
theorem d_X12_told_7 : DC mX12_told 7 (.iload_n 2) 1 8 := ⟨by decide +kernel, rfl⟩
theorem d_X12_told_8 : DC mX12_told 8 (.invokevirtual 297) 3 11 := ⟨by decide +kernel, rfl⟩
theorem d_X12_told_11 : DC mX12_told 11 (.istore_n 3) 1 12 := ⟨by decide +kernel, rfl⟩
theorem d_X12_told_12 : DC mX12_told 12 (.iload_n 3) 1 13 := ⟨by decide +kernel, rfl⟩
theorem d_X12_told_13 : DC mX12_told 13 (.ifCond .eq 5) 3 16 := ⟨by decide +kernel, rfl⟩
theorem d_X12_told_16 : DC mX12_told 16 (.iload_n 3) 1 17 := ⟨by decide +kernel, rfl⟩
theorem d_X12_told_17 : DC mX12_told 17 (.ireturn) 1 18 := ⟨by decide +kernel, rfl⟩
theorem d_X12_told_18 : DC mX12_told 18 (.aload_n 0) 1 19 := ⟨by decide +kernel, rfl⟩
theorem d_X12_told_19 : DC mX12_told 19 (.iconst 0) 1 20 := ⟨by decide +kernel, rfl⟩
theorem d_X12_told_20 : DC mX12_told 20 (.invokevirtual 300) 3 23 := ⟨by decide +kernel, rfl⟩
theorem d_X12_told_23 : DC mX12_told 23 (.aload_n 0) 1 24 := ⟨by decide +kernel, rfl⟩
theorem d_X12_told_24 : DC mX12_told 24 (.getfield 261) 3 27 := ⟨by decide +kernel, rfl⟩
theorem d_X12_told_27 : DC mX12_told 27 (.ifCond .eq 15) 3 30 := ⟨by decide +kernel, rfl⟩
theorem d_X12_told_30 : DC mX12_told 30 (.aload_n 0) 1 31 := ⟨by decide +kernel, rfl⟩
theorem d_X12_told_31 : DC mX12_told 31 (.bipush (-30)) 2 33 := ⟨by decide +kernel, rfl⟩
theorem d_X12_told_33 : DC mX12_told 33 (.aload_n 0) 1 34 := ⟨by decide +kernel, rfl⟩
theorem d_X12_told_34 : DC mX12_told 34 (.getfield 261) 3 37 := ⟨by decide +kernel, rfl⟩
theorem d_X12_told_37 : DC mX12_told 37 (.isub) 1 38 := ⟨by decide +kernel, rfl⟩
theorem d_X12_told_38 : DC mX12_told 38 (.invokevirtual 218) 3 41 := ⟨by decide +kernel, rfl⟩
theorem d_X12_told_41 : DC mX12_told 41 (.ireturn) 1 42 := ⟨by decide +kernel, rfl⟩
theorem d_X12_told_42 : DC mX12_told 42 (.aload_n 0) 1 43 := ⟨by decide +kernel, rfl⟩
theorem d_X12_told_43 : DC mX12_told 43 (.invokevirtual 202) 3 46 := ⟨by decide +kernel, rfl⟩
theorem d_X12_told_46 : DC mX12_told 46 (.aload_n 0) 1 47 := ⟨by decide +kernel, rfl⟩
theorem d_X12_told_47 : DC mX12_told 47 (.iconst 1) 1 48 := ⟨by decide +kernel, rfl⟩
theorem d_X12_told_48 : DC mX12_told 48 (.invokevirtual 300) 3 51 := ⟨by decide +kernel, rfl⟩
theorem d_X12_told_51 : DC mX12_told 51 (.aload_n 0) 1 52 := ⟨by decide +kernel, rfl⟩
theorem d_X12_told_52 : DC mX12_told 52 (.iload_n 1) 1 53 := ⟨by decide +kernel, rfl⟩
theorem d_X12_told_53 : DC mX12_told 53 (.invokevirtual 228) 3 56 := ⟨by decide +kernel, rfl⟩
theorem d_X12_told_56 : DC mX12_told 56 (.ireturn) 1 57 := ⟨by decide +kernel, rfl⟩
theorem d_X12_fault_0 : DC mX12_fault 0 (.aload_n 0) 1 1 := ⟨by decide +kernel, rfl⟩
theorem d_X12_fault_1 : DC mX12_fault 1 (.iconst 0) 1 2 := ⟨by decide +kernel, rfl⟩
theorem d_X12_fault_2 : DC mX12_fault 2 (.putfield 1) 3 5 := ⟨by decide +kernel, rfl⟩
theorem d_X12_fault_5 : DC mX12_fault 5 (.iload_n 1) 1 6 := ⟨by decide +kernel, rfl⟩
theorem d_X12_fault_6 : DC mX12_fault 6 (.ifCond .ne 10) 3 9 := ⟨by decide +kernel, rfl⟩
theorem d_X12_fault_9 : DC mX12_fault 9 (.aload_n 0) 1 10 := ⟨by decide +kernel, rfl⟩
theorem d_X12_fault_10 : DC mX12_fault 10 (.getfield 261) 3 13 := ⟨by decide +kernel, rfl⟩
theorem d_X12_fault_13 : DC mX12_fault 13 (.goto 16) 3 16 := ⟨by decide +kernel, rfl⟩
theorem d_X12_fault_16 : DC mX12_fault 16 (.iload_n 1) 1 17 := ⟨by decide +kernel, rfl⟩
theorem d_X12_fault_17 : DC mX12_fault 17 (.iconst 1) 1 18 := ⟨by decide +kernel, rfl⟩
theorem d_X12_fault_18 : DC mX12_fault 18 (.if_icmp .ne 10) 3 21 := ⟨by decide +kernel, rfl⟩
theorem d_X12_fault_21 : DC mX12_fault 21 (.aload_n 0) 1 22 := ⟨by decide +kernel, rfl⟩
theorem d_X12_fault_22 : DC mX12_fault 22 (.getfield 61) 3 25 := ⟨by decide +kernel, rfl⟩
theorem d_X12_fault_25 : DC mX12_fault 25 (.goto 4) 3 28 := ⟨by decide +kernel, rfl⟩
theorem d_X12_fault_28 : DC mX12_fault 28 (.iconst (-1)) 1 29 := ⟨by decide +kernel, rfl⟩
theorem d_X12_fault_29 : DC mX12_fault 29 (.ireturn) 1 30 := ⟨by decide +kernel, rfl⟩
theorem d_X12_figureText_0 : DC mX12_figureText 0 (.iconst 0) 1 1 := ⟨by decide +kernel, rfl⟩
theorem d_X12_figureText_1 : DC mX12_figureText 1 (.istore_n 1) 1 2 := ⟨by decide +kernel, rfl⟩
theorem d_X12_figureText_2 : DC mX12_figureText 2 (.iload_n 1) 1 3 := ⟨by decide +kernel, rfl⟩
theorem d_X12_figureText_3 : DC mX12_figureText 3 (.iconst 3) 1 4 := ⟨by decide +kernel, rfl⟩
theorem d_X12_figureText_4 : DC mX12_figureText 4 (.if_icmp .ge 14) 3 7 := ⟨by decide +kernel, rfl⟩
theorem d_X12_figureText_7 : DC mX12_figureText 7 (.aload_n 0) 1 8 := ⟨by decide +kernel, rfl⟩
theorem d_X12_figureText_8 : DC mX12_figureText 8 (.iconst 0) 1 9 := ⟨by decide +kernel, rfl⟩
theorem d_X12_figureText_9 : DC mX12_figureText 9 (.invokevirtual 303) 3 12 := ⟨by decide +kernel, rfl⟩
theorem d_X12_figureText_12 : DC mX12_figureText 12 (.iinc 1 1) 3 15 := ⟨by decide +kernel, rfl⟩
theorem d_X12_figureText_15 : DC mX12_figureText 15 (.goto (-13)) 3 18 := ⟨by decide +kernel, rfl⟩
theorem d_X12_figureText_18 : DC mX12_figureText 18 (.aload_n 0) 1 19 := ⟨by decide +kernel, rfl⟩
theorem d_X12_figureText_19 : DC mX12_figureText 19 (.getfield 261) 3 22 := ⟨by decide +kernel, rfl⟩
theorem d_X12_figureText_22 : DC mX12_figureText 22 (.ifCond .ne 23) 3 25 := ⟨by decide +kernel, rfl⟩
theorem d_X12_figureText_25 : DC mX12_figureText 25 (.aload_n 0) 1 26 := ⟨by decide +kernel, rfl⟩
theorem d_X12_figureText_26 : DC mX12_figureText 26 (.getfield 255) 3 29 := ⟨by decide +kernel, rfl⟩
theorem d_X12_figureText_29 : DC mX12_figureText 29 (.aload_n 0) 1 30 := ⟨by decide +kernel, rfl⟩
theorem d_X12_figureText_30 : DC mX12_figureText 30 (.getfield 258) 3 33 := ⟨by decide +kernel, rfl⟩
theorem d_X12_figureText_33 : DC mX12_figureText 33 (.if_icmp .ge 12) 3 36 := ⟨by decide +kernel, rfl⟩
theorem d_X12_figureText_36 : DC mX12_figureText 36 (.aload_n 0) 1 37 := ⟨by decide +kernel, rfl⟩
theorem d_X12_figureText_37 : DC mX12_figureText 37 (.iconst 1) 1 38 := ⟨by decide +kernel, rfl⟩
theorem d_X12_figureText_38 : DC mX12_figureText 38 (.aload_n 0) 1 39 := ⟨by decide +kernel, rfl⟩
theorem d_X12_figureText_39 : DC mX12_figureText 39 (.getfield 255) 3 42 := ⟨by decide +kernel, rfl⟩
theorem d_X12_figureText_42 : DC mX12_figureText 42 (.invokevirtual 276) 3 45 := ⟨by decide +kernel, rfl⟩
theorem d_X12_figureText_45 : DC mX12_figureText 45 (.return_) 1 46 := ⟨by decide +kernel, rfl⟩
theorem d_X12_pointText_0 : DC mX12_pointText 0 (.aload_n 0) 1 1 := ⟨by decide +kernel, rfl⟩
theorem d_X12_pointText_1 : DC mX12_pointText 1 (.getfield 261) 3 4 := ⟨by decide +kernel, rfl⟩
theorem d_X12_pointText_4 : DC mX12_pointText 4 (.ifCond .eq 4) 3 7 := ⟨by decide +kernel, rfl⟩
theorem d_X12_pointText_7 : DC mX12_pointText 7 (.return_) 1 8 := ⟨by decide +kernel, rfl⟩
theorem d_X12_pointText_8 : DC mX12_pointText 8 (.aload_n 0) 1 9 := ⟨by decide +kernel, rfl⟩
theorem d_X12_pointText_9 : DC mX12_pointText 9 (.invokevirtual 264) 3 12 := ⟨by decide +kernel, rfl⟩
theorem d_X12_pointText_12 : DC mX12_pointText 12 (.bipush 40) 2 14 := ⟨by decide +kernel, rfl⟩
theorem d_X12_pointText_14 : DC mX12_pointText 14 (.if_icmp .eq 12) 3 17 := ⟨by decide +kernel, rfl⟩
theorem d_X12_pointText_17 : DC mX12_pointText 17 (.aload_n 0) 1 18 := ⟨by decide +kernel, rfl⟩
theorem d_X12_pointText_18 : DC mX12_pointText 18 (.aload_n 0) 1 19 := ⟨by decide +kernel, rfl⟩
theorem d_X12_pointText_19 : DC mX12_pointText 19 (.invokevirtual 283) 3 22 := ⟨by decide +kernel, rfl⟩
theorem d_X12_pointText_22 : DC mX12_pointText 22 (.invokevirtual 286) 3 25 := ⟨by decide +kernel, rfl⟩
theorem d_X12_pointText_25 : DC mX12_pointText 25 (.return_) 1 26 := ⟨by decide +kernel, rfl⟩
theorem d_X12_pointText_26 : DC mX12_pointText 26 (.iload_n 1) 1 27 := ⟨by decide +kernel, rfl⟩
theorem d_X12_pointText_27 : DC mX12_pointText 27 (.iconst 2) 1 28 := ⟨by decide +kernel, rfl⟩
theorem d_X12_pointText_28 : DC mX12_pointText 28 (.if_icmp .ne 13) 3 31 := ⟨by decide +kernel, rfl⟩
theorem d_X12_pointText_31 : DC mX12_pointText 31 (.aload_n 0) 1 32 := ⟨by decide +kernel, rfl⟩
theorem d_X12_pointText_32 : DC mX12_pointText 32 (.iconst 4) 1 33 := ⟨by decide +kernel, rfl⟩
theorem d_X12_pointText_33 : DC mX12_pointText 33 (.aload_n 0) 1 34 := ⟨by decide +kernel, rfl⟩
theorem d_X12_pointText_34 : DC mX12_pointText 34 (.getfield 255) 3 37 := ⟨by decide +kernel, rfl⟩
theorem d_X12_pointText_37 : DC mX12_pointText 37 (.invokevirtual 276) 3 40 := ⟨by decide +kernel, rfl⟩
theorem d_X12_pointText_40 : DC mX12_pointText 40 (.return_) 1 41 := ⟨by decide +kernel, rfl⟩
theorem d_X12_pointText_41 : DC mX12_pointText 41 (.aload_n 0) 1 42 := ⟨by decide +kernel, rfl⟩
theorem d_X12_pointText_42 : DC mX12_pointText 42 (.dup) 1 43 := ⟨by decide +kernel, rfl⟩
theorem d_X12_pointText_43 : DC mX12_pointText 43 (.getfield 255) 3 46 := ⟨by decide +kernel, rfl⟩
theorem d_X12_pointText_46 : DC mX12_pointText 46 (.iconst 1) 1 47 := ⟨by decide +kernel, rfl⟩
theorem d_X12_pointText_47 : DC mX12_pointText 47 (.iadd) 1 48 := ⟨by decide +kernel, rfl⟩
theorem d_X12_pointText_48 : DC mX12_pointText 48 (.putfield 255) 3 51 := ⟨by decide +kernel, rfl⟩
theorem d_X12_pointText_51 : DC mX12_pointText 51 (.aload_n 0) 1 52 := ⟨by decide +kernel, rfl⟩
theorem d_X12_pointText_52 : DC mX12_pointText 52 (.iload_n 1) 1 53 := ⟨by decide +kernel, rfl⟩
theorem d_X12_pointText_53 : DC mX12_pointText 53 (.iconst 1) 1 54 := ⟨by decide +kernel, rfl⟩
theorem d_X12_pointText_54 : DC mX12_pointText 54 (.iadd) 1 55 := ⟨by decide +kernel, rfl⟩
theorem d_X12_pointText_55 : DC mX12_pointText 55 (.invokevirtual 303) 3 58 := ⟨by decide +kernel, rfl⟩
theorem d_X12_pointText_58 : DC mX12_pointText 58 (.aload_n 0) 1 59 := ⟨by decide +kernel, rfl⟩
theorem d_X12_pointText_59 : DC mX12_pointText 59 (.iload_n 1) 1 60 := ⟨by decide +kernel, rfl⟩
theorem d_X12_pointText_60 : DC mX12_pointText 60 (.iconst 1) 1 61 := ⟨by decide +kernel, rfl⟩
theorem d_X12_pointText_61 : DC mX12_pointText 61 (.iadd) 1 62 := ⟨by decide +kernel, rfl⟩
theorem d_X12_pointText_62 : DC mX12_pointText 62 (.invokevirtual 303) 3 65 := ⟨by decide +kernel, rfl⟩
theorem d_X12_pointText_65 : DC mX12_pointText 65 (.aload_n 0) 1 66 := ⟨by decide +kernel, rfl⟩
theorem d_X12_pointText_66 : DC mX12_pointText 66 (.aload_n 0) 1 67 := ⟨by decide +kernel, rfl⟩
theorem d_X12_pointText_67 : DC mX12_pointText 67 (.invokevirtual 264) 3 70 := ⟨by decide +kernel, rfl⟩
theorem d_X12_pointText_70 : DC mX12_pointText 70 (.bipush 94) 2 72 := ⟨by decide +kernel, rfl⟩
theorem d_X12_pointText_72 : DC mX12_pointText 72 (.if_icmp .ne 7) 3 75 := ⟨by decide +kernel, rfl⟩
theorem d_X12_pointText_75 : DC mX12_pointText 75 (.iconst 1) 1 76 := ⟨by decide +kernel, rfl⟩
theorem d_X12_pointText_76 : DC mX12_pointText 76 (.goto 4) 3 79 := ⟨by decide +kernel, rfl⟩
theorem d_X12_pointText_79 : DC mX12_pointText 79 (.iconst 0) 1 80 := ⟨by decide +kernel, rfl⟩
theorem d_X12_pointText_80 : DC mX12_pointText 80 (.invokevirtual 286) 3 83 := ⟨by decide +kernel, rfl⟩
theorem d_X12_pointText_83 : DC mX12_pointText 83 (.aload_n 0) 1 84 := ⟨by decide +kernel, rfl⟩
theorem d_X12_pointText_84 : DC mX12_pointText 84 (.iload_n 1) 1 85 := ⟨by decide +kernel, rfl⟩
theorem d_X12_pointText_85 : DC mX12_pointText 85 (.iconst 1) 1 86 := ⟨by decide +kernel, rfl⟩
theorem d_X12_pointText_86 : DC mX12_pointText 86 (.iadd) 1 87 := ⟨by decide +kernel, rfl⟩
theorem d_X12_pointText_87 : DC mX12_pointText 87 (.invokevirtual 303) 3 90 := ⟨by decide +kernel, rfl⟩
theorem d_X12_pointText_90 : DC mX12_pointText 90 (.aload_n 0) 1 91 := ⟨by decide +kernel, rfl⟩
theorem d_X12_pointText_91 : DC mX12_pointText 91 (.iload_n 1) 1 92 := ⟨by decide +kernel, rfl⟩
theorem d_X12_pointText_92 : DC mX12_pointText 92 (.iconst 1) 1 93 := ⟨by decide +kernel, rfl⟩
theorem d_X12_pointText_93 : DC mX12_pointText 93 (.iadd) 1 94 := ⟨by decide +kernel, rfl⟩
theorem d_X12_pointText_94 : DC mX12_pointText 94 (.invokevirtual 303) 3 97 := ⟨by decide +kernel, rfl⟩
theorem d_X12_pointText_97 : DC mX12_pointText 97 (.aload_n 0) 1 98 := ⟨by decide +kernel, rfl⟩
theorem d_X12_pointText_98 : DC mX12_pointText 98 (.aload_n 0) 1 99 := ⟨by decide +kernel, rfl⟩
theorem d_X12_pointText_99 : DC mX12_pointText 99 (.invokevirtual 264) 3 102 := ⟨by decide +kernel, rfl⟩
theorem d_X12_pointText_102 : DC mX12_pointText 102 (.bipush 41) 2 104 := ⟨by decide +kernel, rfl⟩
theorem d_X12_pointText_104 : DC mX12_pointText 104 (.if_icmp .ne 7) 3 107 := ⟨by decide +kernel, rfl⟩
theorem d_X12_pointText_107 : DC mX12_pointText 107 (.iconst 1) 1 108 := ⟨by decide +kernel, rfl⟩
theorem d_X12_pointText_108 : DC mX12_pointText 108 (.goto 4) 3 111 := ⟨by decide +kernel, rfl⟩
theorem d_X12_pointText_111 : DC mX12_pointText 111 (.iconst 0) 1 112 := ⟨by decide +kernel, rfl⟩
theorem d_X12_pointText_112 : DC mX12_pointText 112 (.invokevirtual 286) 3 115 := ⟨by decide +kernel, rfl⟩
theorem d_X12_pointText_115 : DC mX12_pointText 115 (.return_) 1 116 := ⟨by decide +kernel, rfl⟩
theorem d_X12_rowOf_0 : DC mX12_rowOf 0 (.bipush 6) 2 2 := ⟨by decide +kernel, rfl⟩
theorem d_X12_rowOf_2 : DC mX12_rowOf 2 (.bipush 10) 2 4 := ⟨by decide +kernel, rfl⟩
theorem d_X12_rowOf_4 : DC mX12_rowOf 4 (.iload_n 0) 1 5 := ⟨by decide +kernel, rfl⟩
theorem d_X12_rowOf_5 : DC mX12_rowOf 5 (.imul) 1 6 := ⟨by decide +kernel, rfl⟩
theorem d_X12_rowOf_6 : DC mX12_rowOf 6 (.iadd) 1 7 := ⟨by decide +kernel, rfl⟩
theorem d_X12_rowOf_7 : DC mX12_rowOf 7 (.iload_n 1) 1 8 := ⟨by decide +kernel, rfl⟩
theorem d_X12_rowOf_8 : DC mX12_rowOf 8 (.iadd) 1 9 := ⟨by decide +kernel, rfl⟩
theorem d_X12_rowOf_9 : DC mX12_rowOf 9 (.ireturn) 1 10 := ⟨by decide +kernel, rfl⟩
theorem d_X12_point_0 : DC mX12_point 0 (.aload_n 0) 1 1 := ⟨by decide +kernel, rfl⟩
theorem d_X12_point_1 : DC mX12_point 1 (.getfield 102) 3 4 := ⟨by decide +kernel, rfl⟩
theorem d_X12_point_4 : DC mX12_point 4 (.ifCond .eq 4) 3 7 := ⟨by decide +kernel, rfl⟩
theorem d_X12_point_7 : DC mX12_point 7 (.return_) 1 8 := ⟨by decide +kernel, rfl⟩
theorem d_X12_point_8 : DC mX12_point 8 (.iconst 0) 1 9 := ⟨by decide +kernel, rfl⟩
theorem d_X12_point_9 : DC mX12_point 9 (.istore_n 3) 1 10 := ⟨by decide +kernel, rfl⟩
theorem d_X12_point_10 : DC mX12_point 10 (.iload_n 3) 1 11 := ⟨by decide +kernel, rfl⟩
theorem d_X12_point_11 : DC mX12_point 11 (.bipush 10) 2 13 := ⟨by decide +kernel, rfl⟩
theorem d_X12_point_13 : DC mX12_point 13 (.if_icmp .ge 18) 3 16 := ⟨by decide +kernel, rfl⟩
theorem d_X12_point_16 : DC mX12_point 16 (.aload_n 0) 1 17 := ⟨by decide +kernel, rfl⟩
theorem d_X12_point_17 : DC mX12_point 17 (.iload_n 1) 1 18 := ⟨by decide +kernel, rfl⟩
theorem d_X12_point_18 : DC mX12_point 18 (.iload_n 3) 1 19 := ⟨by decide +kernel, rfl⟩
theorem d_X12_point_19 : DC mX12_point 19 (.invokestatic 306) 3 22 := ⟨by decide +kernel, rfl⟩
theorem d_X12_point_22 : DC mX12_point 22 (.invokevirtual 105) 3 25 := ⟨by decide +kernel, rfl⟩
theorem d_X12_point_25 : DC mX12_point 25 (.iinc 3 1) 3 28 := ⟨by decide +kernel, rfl⟩
theorem d_X12_point_28 : DC mX12_point 28 (.goto (-18)) 3 31 := ⟨by decide +kernel, rfl⟩
theorem d_X12_point_31 : DC mX12_point 31 (.aload_n 0) 1 32 := ⟨by decide +kernel, rfl⟩
theorem d_X12_point_32 : DC mX12_point 32 (.invokevirtual 264) 3 35 := ⟨by decide +kernel, rfl⟩
theorem d_X12_point_35 : DC mX12_point 35 (.bipush 40) 2 37 := ⟨by decide +kernel, rfl⟩
theorem d_X12_point_37 : DC mX12_point 37 (.if_icmp .eq 32) 3 40 := ⟨by decide +kernel, rfl⟩
theorem d_X12_point_40 : DC mX12_point 40 (.aload_n 0) 1 41 := ⟨by decide +kernel, rfl⟩
theorem d_X12_point_41 : DC mX12_point 41 (.iload_n 1) 1 42 := ⟨by decide +kernel, rfl⟩
theorem d_X12_point_42 : DC mX12_point 42 (.aload_n 0) 1 43 := ⟨by decide +kernel, rfl⟩
theorem d_X12_point_43 : DC mX12_point 43 (.invokevirtual 264) 3 46 := ⟨by decide +kernel, rfl⟩
theorem d_X12_point_46 : DC mX12_point 46 (.bipush 97) 2 48 := ⟨by decide +kernel, rfl⟩
theorem d_X12_point_48 : DC mX12_point 48 (.isub) 1 49 := ⟨by decide +kernel, rfl⟩
theorem d_X12_point_49 : DC mX12_point 49 (.invokestatic 306) 3 52 := ⟨by decide +kernel, rfl⟩
theorem d_X12_point_52 : DC mX12_point 52 (.iconst 0) 1 53 := ⟨by decide +kernel, rfl⟩
theorem d_X12_point_53 : DC mX12_point 53 (.lconst 1) 1 54 := ⟨by decide +kernel, rfl⟩
theorem d_X12_point_54 : DC mX12_point 54 (.invokevirtual 147) 3 57 := ⟨by decide +kernel, rfl⟩
theorem d_X12_point_57 : DC mX12_point 57 (.pop) 1 58 := ⟨by decide +kernel, rfl⟩
theorem d_X12_point_58 : DC mX12_point 58 (.aload_n 0) 1 59 := ⟨by decide +kernel, rfl⟩
theorem d_X12_point_59 : DC mX12_point 59 (.dup) 1 60 := ⟨by decide +kernel, rfl⟩
theorem d_X12_point_60 : DC mX12_point 60 (.getfield 255) 3 63 := ⟨by decide +kernel, rfl⟩
theorem d_X12_point_63 : DC mX12_point 63 (.iconst 1) 1 64 := ⟨by decide +kernel, rfl⟩
theorem d_X12_point_64 : DC mX12_point 64 (.iadd) 1 65 := ⟨by decide +kernel, rfl⟩
theorem d_X12_point_65 : DC mX12_point 65 (.putfield 255) 3 68 := ⟨by decide +kernel, rfl⟩
theorem d_X12_point_68 : DC mX12_point 68 (.return_) 1 69 := ⟨by decide +kernel, rfl⟩
theorem d_X12_point_69 : DC mX12_point 69 (.aload_n 0) 1 70 := ⟨by decide +kernel, rfl⟩
theorem d_X12_point_70 : DC mX12_point 70 (.dup) 1 71 := ⟨by decide +kernel, rfl⟩
theorem d_X12_point_71 : DC mX12_point 71 (.getfield 255) 3 74 := ⟨by decide +kernel, rfl⟩
theorem d_X12_point_74 : DC mX12_point 74 (.iconst 1) 1 75 := ⟨by decide +kernel, rfl⟩
theorem d_X12_point_75 : DC mX12_point 75 (.iadd) 1 76 := ⟨by decide +kernel, rfl⟩
theorem d_X12_point_76 : DC mX12_point 76 (.putfield 255) 3 79 := ⟨by decide +kernel, rfl⟩
theorem d_X12_point_79 : DC mX12_point 79 (.aload_n 0) 1 80 := ⟨by decide +kernel, rfl⟩
theorem d_X12_point_80 : DC mX12_point 80 (.iload_n 2) 1 81 := ⟨by decide +kernel, rfl⟩
theorem d_X12_point_81 : DC mX12_point 81 (.iload_n 2) 1 82 := ⟨by decide +kernel, rfl⟩
theorem d_X12_point_82 : DC mX12_point 82 (.iconst 4) 1 83 := ⟨by decide +kernel, rfl⟩
theorem d_X12_point_83 : DC mX12_point 83 (.iadd) 1 84 := ⟨by decide +kernel, rfl⟩
theorem d_X12_point_84 : DC mX12_point 84 (.invokevirtual 309) 3 87 := ⟨by decide +kernel, rfl⟩
theorem d_X12_point_87 : DC mX12_point 87 (.aload_n 0) 1 88 := ⟨by decide +kernel, rfl⟩
theorem d_X12_point_88 : DC mX12_point 88 (.iload_n 2) 1 89 := ⟨by decide +kernel, rfl⟩
theorem d_X12_point_89 : DC mX12_point 89 (.iconst 1) 1 90 := ⟨by decide +kernel, rfl⟩
theorem d_X12_point_90 : DC mX12_point 90 (.iadd) 1 91 := ⟨by decide +kernel, rfl⟩
theorem d_X12_point_91 : DC mX12_point 91 (.iload_n 2) 1 92 := ⟨by decide +kernel, rfl⟩
theorem d_X12_point_92 : DC mX12_point 92 (.iconst 4) 1 93 := ⟨by decide +kernel, rfl⟩
theorem d_X12_point_93 : DC mX12_point 93 (.iadd) 1 94 := ⟨by decide +kernel, rfl⟩
theorem d_X12_point_94 : DC mX12_point 94 (.invokevirtual 309) 3 97 := ⟨by decide +kernel, rfl⟩
theorem d_X12_point_97 : DC mX12_point 97 (.aload_n 0) 1 98 := ⟨by decide +kernel, rfl⟩
theorem d_X12_point_98 : DC mX12_point 98 (.dup) 1 99 := ⟨by decide +kernel, rfl⟩
theorem d_X12_point_99 : DC mX12_point 99 (.getfield 255) 3 102 := ⟨by decide +kernel, rfl⟩
theorem d_X12_point_102 : DC mX12_point 102 (.iconst 1) 1 103 := ⟨by decide +kernel, rfl⟩
theorem d_X12_point_103 : DC mX12_point 103 (.iadd) 1 104 := ⟨by decide +kernel, rfl⟩
theorem d_X12_point_104 : DC mX12_point 104 (.putfield 255) 3 107 := ⟨by decide +kernel, rfl⟩
theorem d_X12_point_107 : DC mX12_point 107 (.aload_n 0) 1 108 := ⟨by decide +kernel, rfl⟩
theorem d_X12_point_108 : DC mX12_point 108 (.iload_n 2) 1 109 := ⟨by decide +kernel, rfl⟩
theorem d_X12_point_109 : DC mX12_point 109 (.iconst 2) 1 110 := ⟨by decide +kernel, rfl⟩
theorem d_X12_point_110 : DC mX12_point 110 (.iadd) 1 111 := ⟨by decide +kernel, rfl⟩
theorem d_X12_point_111 : DC mX12_point 111 (.iload_n 2) 1 112 := ⟨by decide +kernel, rfl⟩
theorem d_X12_point_112 : DC mX12_point 112 (.iconst 4) 1 113 := ⟨by decide +kernel, rfl⟩
theorem d_X12_point_113 : DC mX12_point 113 (.iadd) 1 114 := ⟨by decide +kernel, rfl⟩
theorem d_X12_point_114 : DC mX12_point 114 (.invokevirtual 309) 3 117 := ⟨by decide +kernel, rfl⟩
theorem d_X12_point_117 : DC mX12_point 117 (.aload_n 0) 1 118 := ⟨by decide +kernel, rfl⟩
theorem d_X12_point_118 : DC mX12_point 118 (.iload_n 2) 1 119 := ⟨by decide +kernel, rfl⟩
theorem d_X12_point_119 : DC mX12_point 119 (.iconst 3) 1 120 := ⟨by decide +kernel, rfl⟩
theorem d_X12_point_120 : DC mX12_point 120 (.iadd) 1 121 := ⟨by decide +kernel, rfl⟩
theorem d_X12_point_121 : DC mX12_point 121 (.iload_n 2) 1 122 := ⟨by decide +kernel, rfl⟩
theorem d_X12_point_122 : DC mX12_point 122 (.iconst 4) 1 123 := ⟨by decide +kernel, rfl⟩
theorem d_X12_point_123 : DC mX12_point 123 (.iadd) 1 124 := ⟨by decide +kernel, rfl⟩
theorem d_X12_point_124 : DC mX12_point 124 (.invokevirtual 309) 3 127 := ⟨by decide +kernel, rfl⟩
theorem d_X12_point_127 : DC mX12_point 127 (.aload_n 0) 1 128 := ⟨by decide +kernel, rfl⟩
theorem d_X12_point_128 : DC mX12_point 128 (.dup) 1 129 := ⟨by decide +kernel, rfl⟩
theorem d_X12_point_129 : DC mX12_point 129 (.getfield 255) 3 132 := ⟨by decide +kernel, rfl⟩
theorem d_X12_point_132 : DC mX12_point 132 (.iconst 1) 1 133 := ⟨by decide +kernel, rfl⟩
theorem d_X12_point_133 : DC mX12_point 133 (.iadd) 1 134 := ⟨by decide +kernel, rfl⟩
theorem d_X12_point_134 : DC mX12_point 134 (.putfield 255) 3 137 := ⟨by decide +kernel, rfl⟩
theorem d_X12_point_137 : DC mX12_point 137 (.aload_n 0) 1 138 := ⟨by decide +kernel, rfl⟩
theorem d_X12_point_138 : DC mX12_point 138 (.iload_n 2) 1 139 := ⟨by decide +kernel, rfl⟩
theorem d_X12_point_139 : DC mX12_point 139 (.iload_n 1) 1 140 := ⟨by decide +kernel, rfl⟩
theorem d_X12_point_140 : DC mX12_point 140 (.invokevirtual 312) 3 143 := ⟨by decide +kernel, rfl⟩
theorem d_X12_point_143 : DC mX12_point 143 (.return_) 1 144 := ⟨by decide +kernel, rfl⟩
theorem d_X12_meets_0 : DC mX12_meets 0 (.aload_n 0) 1 1 := ⟨by decide +kernel, rfl⟩
theorem d_X12_meets_1 : DC mX12_meets 1 (.getfield 102) 3 4 := ⟨by decide +kernel, rfl⟩
theorem d_X12_meets_4 : DC mX12_meets 4 (.ifCond .eq 4) 3 7 := ⟨by decide +kernel, rfl⟩
theorem d_X12_meets_7 : DC mX12_meets 7 (.return_) 1 8 := ⟨by decide +kernel, rfl⟩
theorem d_X12_meets_8 : DC mX12_meets 8 (.aload_n 0) 1 9 := ⟨by decide +kernel, rfl⟩
theorem d_X12_meets_9 : DC mX12_meets 9 (.iload_n 1) 1 10 := ⟨by decide +kernel, rfl⟩
theorem d_X12_meets_10 : DC mX12_meets 10 (.iload_n 1) 1 11 := ⟨by decide +kernel, rfl⟩
theorem d_X12_meets_11 : DC mX12_meets 11 (.iconst 2) 1 12 := ⟨by decide +kernel, rfl⟩
theorem d_X12_meets_12 : DC mX12_meets 12 (.iadd) 1 13 := ⟨by decide +kernel, rfl⟩
theorem d_X12_meets_13 : DC mX12_meets 13 (.iload_n 1) 1 14 := ⟨by decide +kernel, rfl⟩
theorem d_X12_meets_14 : DC mX12_meets 14 (.iconst 3) 1 15 := ⟨by decide +kernel, rfl⟩
theorem d_X12_meets_15 : DC mX12_meets 15 (.iadd) 1 16 := ⟨by decide +kernel, rfl⟩
theorem d_X12_meets_16 : DC mX12_meets 16 (.iconst 3) 1 17 := ⟨by decide +kernel, rfl⟩
theorem d_X12_meets_17 : DC mX12_meets 17 (.invokevirtual 315) 3 20 := ⟨by decide +kernel, rfl⟩
theorem d_X12_meets_20 : DC mX12_meets 20 (.aload_n 0) 1 21 := ⟨by decide +kernel, rfl⟩
theorem d_X12_meets_21 : DC mX12_meets 21 (.iload_n 1) 1 22 := ⟨by decide +kernel, rfl⟩
theorem d_X12_meets_22 : DC mX12_meets 22 (.iconst 1) 1 23 := ⟨by decide +kernel, rfl⟩
theorem d_X12_meets_23 : DC mX12_meets 23 (.iadd) 1 24 := ⟨by decide +kernel, rfl⟩
theorem d_X12_meets_24 : DC mX12_meets 24 (.iload_n 1) 1 25 := ⟨by decide +kernel, rfl⟩
theorem d_X12_meets_25 : DC mX12_meets 25 (.iconst 2) 1 26 := ⟨by decide +kernel, rfl⟩
theorem d_X12_meets_26 : DC mX12_meets 26 (.iadd) 1 27 := ⟨by decide +kernel, rfl⟩
theorem d_X12_meets_27 : DC mX12_meets 27 (.iload_n 1) 1 28 := ⟨by decide +kernel, rfl⟩
theorem d_X12_meets_28 : DC mX12_meets 28 (.iconst 3) 1 29 := ⟨by decide +kernel, rfl⟩
theorem d_X12_meets_29 : DC mX12_meets 29 (.iadd) 1 30 := ⟨by decide +kernel, rfl⟩
theorem d_X12_meets_30 : DC mX12_meets 30 (.iconst 4) 1 31 := ⟨by decide +kernel, rfl⟩
theorem d_X12_meets_31 : DC mX12_meets 31 (.invokevirtual 315) 3 34 := ⟨by decide +kernel, rfl⟩
theorem d_X12_meets_34 : DC mX12_meets 34 (.iconst 0) 1 35 := ⟨by decide +kernel, rfl⟩
theorem d_X12_meets_35 : DC mX12_meets 35 (.istore_n 3) 1 36 := ⟨by decide +kernel, rfl⟩
theorem d_X12_meets_36 : DC mX12_meets 36 (.iload_n 3) 1 37 := ⟨by decide +kernel, rfl⟩
theorem d_X12_meets_37 : DC mX12_meets 37 (.bipush 10) 2 39 := ⟨by decide +kernel, rfl⟩
theorem d_X12_meets_39 : DC mX12_meets 39 (.if_icmp .ge 34) 3 42 := ⟨by decide +kernel, rfl⟩
theorem d_X12_meets_42 : DC mX12_meets 42 (.aload_n 0) 1 43 := ⟨by decide +kernel, rfl⟩
theorem d_X12_meets_43 : DC mX12_meets 43 (.getfield 102) 3 46 := ⟨by decide +kernel, rfl⟩
theorem d_X12_meets_46 : DC mX12_meets 46 (.ifCond .ne 27) 3 49 := ⟨by decide +kernel, rfl⟩
theorem d_X12_meets_49 : DC mX12_meets 49 (.aload_n 0) 1 50 := ⟨by decide +kernel, rfl⟩
theorem d_X12_meets_50 : DC mX12_meets 50 (.iconst 3) 1 51 := ⟨by decide +kernel, rfl⟩
theorem d_X12_meets_51 : DC mX12_meets 51 (.iload_n 1) 1 52 := ⟨by decide +kernel, rfl⟩
theorem d_X12_meets_52 : DC mX12_meets 52 (.iconst 1) 1 53 := ⟨by decide +kernel, rfl⟩
theorem d_X12_meets_53 : DC mX12_meets 53 (.iadd) 1 54 := ⟨by decide +kernel, rfl⟩
theorem d_X12_meets_54 : DC mX12_meets 54 (.iload_n 3) 1 55 := ⟨by decide +kernel, rfl⟩
theorem d_X12_meets_55 : DC mX12_meets 55 (.invokestatic 306) 3 58 := ⟨by decide +kernel, rfl⟩
theorem d_X12_meets_58 : DC mX12_meets 58 (.lconst 1) 1 59 := ⟨by decide +kernel, rfl⟩
theorem d_X12_meets_59 : DC mX12_meets 59 (.iload_n 2) 1 60 := ⟨by decide +kernel, rfl⟩
theorem d_X12_meets_60 : DC mX12_meets 60 (.iload_n 3) 1 61 := ⟨by decide +kernel, rfl⟩
theorem d_X12_meets_61 : DC mX12_meets 61 (.invokestatic 306) 3 64 := ⟨by decide +kernel, rfl⟩
theorem d_X12_meets_64 : DC mX12_meets 64 (.invokevirtual 318) 3 67 := ⟨by decide +kernel, rfl⟩
theorem d_X12_meets_67 : DC mX12_meets 67 (.iinc 3 1) 3 70 := ⟨by decide +kernel, rfl⟩
theorem d_X12_meets_70 : DC mX12_meets 70 (.goto (-34)) 3 73 := ⟨by decide +kernel, rfl⟩
theorem d_X12_meets_73 : DC mX12_meets 73 (.iconst 0) 1 74 := ⟨by decide +kernel, rfl⟩
theorem d_X12_meets_74 : DC mX12_meets 74 (.istore_n 3) 1 75 := ⟨by decide +kernel, rfl⟩
theorem d_X12_meets_75 : DC mX12_meets 75 (.iload_n 3) 1 76 := ⟨by decide +kernel, rfl⟩
theorem d_X12_meets_76 : DC mX12_meets 76 (.bipush 10) 2 78 := ⟨by decide +kernel, rfl⟩
theorem d_X12_meets_78 : DC mX12_meets 78 (.if_icmp .ge 34) 3 81 := ⟨by decide +kernel, rfl⟩
theorem d_X12_meets_81 : DC mX12_meets 81 (.aload_n 0) 1 82 := ⟨by decide +kernel, rfl⟩
theorem d_X12_meets_82 : DC mX12_meets 82 (.getfield 102) 3 85 := ⟨by decide +kernel, rfl⟩
theorem d_X12_meets_85 : DC mX12_meets 85 (.ifCond .ne 27) 3 88 := ⟨by decide +kernel, rfl⟩
theorem d_X12_meets_88 : DC mX12_meets 88 (.aload_n 0) 1 89 := ⟨by decide +kernel, rfl⟩
theorem d_X12_meets_89 : DC mX12_meets 89 (.iconst 4) 1 90 := ⟨by decide +kernel, rfl⟩
theorem d_X12_meets_90 : DC mX12_meets 90 (.iload_n 1) 1 91 := ⟨by decide +kernel, rfl⟩
theorem d_X12_meets_91 : DC mX12_meets 91 (.iload_n 3) 1 92 := ⟨by decide +kernel, rfl⟩
theorem d_X12_meets_92 : DC mX12_meets 92 (.invokestatic 306) 3 95 := ⟨by decide +kernel, rfl⟩
theorem d_X12_meets_95 : DC mX12_meets 95 (.ldc2_w 166) 3 98 := ⟨by decide +kernel, rfl⟩
theorem d_X12_meets_98 : DC mX12_meets 98 (.iload_n 2) 1 99 := ⟨by decide +kernel, rfl⟩
theorem d_X12_meets_99 : DC mX12_meets 99 (.iload_n 3) 1 100 := ⟨by decide +kernel, rfl⟩
theorem d_X12_meets_100 : DC mX12_meets 100 (.invokestatic 306) 3 103 := ⟨by decide +kernel, rfl⟩
theorem d_X12_meets_103 : DC mX12_meets 103 (.invokevirtual 318) 3 106 := ⟨by decide +kernel, rfl⟩
theorem d_X12_meets_106 : DC mX12_meets 106 (.iinc 3 1) 3 109 := ⟨by decide +kernel, rfl⟩
theorem d_X12_meets_109 : DC mX12_meets 109 (.goto (-34)) 3 112 := ⟨by decide +kernel, rfl⟩
theorem d_X12_meets_112 : DC mX12_meets 112 (.return_) 1 113 := ⟨by decide +kernel, rfl⟩
theorem d_X12_putsProduct_0 : DC mX12_putsProduct 0 (.aload_n 0) 1 1 := ⟨by decide +kernel, rfl⟩
theorem d_X12_putsProduct_1 : DC mX12_putsProduct 1 (.iconst 5) 1 2 := ⟨by decide +kernel, rfl⟩
theorem d_X12_putsProduct_2 : DC mX12_putsProduct 2 (.invokevirtual 105) 3 5 := ⟨by decide +kernel, rfl⟩
theorem d_X12_putsProduct_5 : DC mX12_putsProduct 5 (.aload_n 0) 1 6 := ⟨by decide +kernel, rfl⟩
theorem d_X12_putsProduct_6 : DC mX12_putsProduct 6 (.iload_n 1) 1 7 := ⟨by decide +kernel, rfl⟩
theorem d_X12_putsProduct_7 : DC mX12_putsProduct 7 (.iload_n 2) 1 8 := ⟨by decide +kernel, rfl⟩
theorem d_X12_putsProduct_8 : DC mX12_putsProduct 8 (.iconst 1) 1 9 := ⟨by decide +kernel, rfl⟩
theorem d_X12_putsProduct_9 : DC mX12_putsProduct 9 (.iconst 5) 1 10 := ⟨by decide +kernel, rfl⟩
theorem d_X12_putsProduct_10 : DC mX12_putsProduct 10 (.invokevirtual 231) 3 13 := ⟨by decide +kernel, rfl⟩
theorem d_X12_putsProduct_13 : DC mX12_putsProduct 13 (.iconst 0) 1 14 := ⟨by decide +kernel, rfl⟩
theorem d_X12_putsProduct_14 : DC mX12_putsProduct 14 (.istore 6) 2 16 := ⟨by decide +kernel, rfl⟩
theorem d_X12_putsProduct_16 : DC mX12_putsProduct 16 (.iload 6) 2 18 := ⟨by decide +kernel, rfl⟩
theorem d_X12_putsProduct_18 : DC mX12_putsProduct 18 (.aload_n 0) 1 19 := ⟨by decide +kernel, rfl⟩
theorem d_X12_putsProduct_19 : DC mX12_putsProduct 19 (.iconst 5) 1 20 := ⟨by decide +kernel, rfl⟩
theorem d_X12_putsProduct_20 : DC mX12_putsProduct 20 (.invokevirtual 113) 3 23 := ⟨by decide +kernel, rfl⟩
theorem d_X12_putsProduct_23 : DC mX12_putsProduct 23 (.if_icmp .ge 33) 3 26 := ⟨by decide +kernel, rfl⟩
theorem d_X12_putsProduct_26 : DC mX12_putsProduct 26 (.aload_n 0) 1 27 := ⟨by decide +kernel, rfl⟩
theorem d_X12_putsProduct_27 : DC mX12_putsProduct 27 (.iload 5) 2 29 := ⟨by decide +kernel, rfl⟩
theorem d_X12_putsProduct_29 : DC mX12_putsProduct 29 (.aload_n 0) 1 30 := ⟨by decide +kernel, rfl⟩
theorem d_X12_putsProduct_30 : DC mX12_putsProduct 30 (.iconst 5) 1 31 := ⟨by decide +kernel, rfl⟩
theorem d_X12_putsProduct_31 : DC mX12_putsProduct 31 (.iload 6) 2 33 := ⟨by decide +kernel, rfl⟩
theorem d_X12_putsProduct_33 : DC mX12_putsProduct 33 (.invokevirtual 117) 3 36 := ⟨by decide +kernel, rfl⟩
theorem d_X12_putsProduct_36 : DC mX12_putsProduct 36 (.lload_n 3) 1 37 := ⟨by decide +kernel, rfl⟩
theorem d_X12_putsProduct_37 : DC mX12_putsProduct 37 (.aload_n 0) 1 38 := ⟨by decide +kernel, rfl⟩
theorem d_X12_putsProduct_38 : DC mX12_putsProduct 38 (.iconst 5) 1 39 := ⟨by decide +kernel, rfl⟩
theorem d_X12_putsProduct_39 : DC mX12_putsProduct 39 (.iload 6) 2 41 := ⟨by decide +kernel, rfl⟩
theorem d_X12_putsProduct_41 : DC mX12_putsProduct 41 (.invokevirtual 132) 3 44 := ⟨by decide +kernel, rfl⟩
theorem d_X12_putsProduct_44 : DC mX12_putsProduct 44 (.i2l) 1 45 := ⟨by decide +kernel, rfl⟩
theorem d_X12_putsProduct_45 : DC mX12_putsProduct 45 (.lmul) 1 46 := ⟨by decide +kernel, rfl⟩
theorem d_X12_putsProduct_46 : DC mX12_putsProduct 46 (.invokevirtual 147) 3 49 := ⟨by decide +kernel, rfl⟩
theorem d_X12_putsProduct_49 : DC mX12_putsProduct 49 (.pop) 1 50 := ⟨by decide +kernel, rfl⟩
theorem d_X12_putsProduct_50 : DC mX12_putsProduct 50 (.iinc 6 1) 3 53 := ⟨by decide +kernel, rfl⟩
theorem d_X12_putsProduct_53 : DC mX12_putsProduct 53 (.goto (-37)) 3 56 := ⟨by decide +kernel, rfl⟩
theorem d_X12_putsProduct_56 : DC mX12_putsProduct 56 (.return_) 1 57 := ⟨by decide +kernel, rfl⟩
theorem d_X12_brackets_0 : DC mX12_brackets 0 (.aload_n 0) 1 1 := ⟨by decide +kernel, rfl⟩
theorem d_X12_brackets_1 : DC mX12_brackets 1 (.iload 4) 2 3 := ⟨by decide +kernel, rfl⟩
theorem d_X12_brackets_3 : DC mX12_brackets 3 (.invokevirtual 105) 3 6 := ⟨by decide +kernel, rfl⟩
theorem d_X12_brackets_6 : DC mX12_brackets 6 (.iconst 0) 1 7 := ⟨by decide +kernel, rfl⟩
theorem d_X12_brackets_7 : DC mX12_brackets 7 (.istore 5) 2 9 := ⟨by decide +kernel, rfl⟩
theorem d_X12_brackets_9 : DC mX12_brackets 9 (.iload 5) 2 11 := ⟨by decide +kernel, rfl⟩
theorem d_X12_brackets_11 : DC mX12_brackets 11 (.bipush 10) 2 13 := ⟨by decide +kernel, rfl⟩
theorem d_X12_brackets_13 : DC mX12_brackets 13 (.if_icmp .ge 144) 3 16 := ⟨by decide +kernel, rfl⟩
theorem d_X12_brackets_16 : DC mX12_brackets 16 (.iconst 0) 1 17 := ⟨by decide +kernel, rfl⟩
theorem d_X12_brackets_17 : DC mX12_brackets 17 (.istore 6) 2 19 := ⟨by decide +kernel, rfl⟩
theorem d_X12_brackets_19 : DC mX12_brackets 19 (.iload 6) 2 21 := ⟨by decide +kernel, rfl⟩
theorem d_X12_brackets_21 : DC mX12_brackets 21 (.bipush 10) 2 23 := ⟨by decide +kernel, rfl⟩
theorem d_X12_brackets_23 : DC mX12_brackets 23 (.if_icmp .ge 128) 3 26 := ⟨by decide +kernel, rfl⟩
theorem d_X12_brackets_26 : DC mX12_brackets 26 (.iconst 0) 1 27 := ⟨by decide +kernel, rfl⟩
theorem d_X12_brackets_27 : DC mX12_brackets 27 (.istore 7) 2 29 := ⟨by decide +kernel, rfl⟩
theorem d_X12_brackets_29 : DC mX12_brackets 29 (.iload 7) 2 31 := ⟨by decide +kernel, rfl⟩
theorem d_X12_brackets_31 : DC mX12_brackets 31 (.bipush 10) 2 33 := ⟨by decide +kernel, rfl⟩
theorem d_X12_brackets_33 : DC mX12_brackets 33 (.if_icmp .ge 112) 3 36 := ⟨by decide +kernel, rfl⟩
theorem d_X12_brackets_36 : DC mX12_brackets 36 (.aload_n 0) 1 37 := ⟨by decide +kernel, rfl⟩
theorem d_X12_brackets_37 : DC mX12_brackets 37 (.getfield 102) 3 40 := ⟨by decide +kernel, rfl⟩
theorem d_X12_brackets_40 : DC mX12_brackets 40 (.ifCond .ne 105) 3 43 := ⟨by decide +kernel, rfl⟩
theorem d_X12_brackets_43 : DC mX12_brackets 43 (.aload_n 0) 1 44 := ⟨by decide +kernel, rfl⟩
theorem d_X12_brackets_44 : DC mX12_brackets 44 (.iload_n 1) 1 45 := ⟨by decide +kernel, rfl⟩
theorem d_X12_brackets_45 : DC mX12_brackets 45 (.iload 5) 2 47 := ⟨by decide +kernel, rfl⟩
theorem d_X12_brackets_47 : DC mX12_brackets 47 (.invokestatic 306) 3 50 := ⟨by decide +kernel, rfl⟩
theorem d_X12_brackets_50 : DC mX12_brackets 50 (.invokevirtual 113) 3 53 := ⟨by decide +kernel, rfl⟩
theorem d_X12_brackets_53 : DC mX12_brackets 53 (.ifCond .le 33) 3 56 := ⟨by decide +kernel, rfl⟩
theorem d_X12_brackets_56 : DC mX12_brackets 56 (.aload_n 0) 1 57 := ⟨by decide +kernel, rfl⟩
theorem d_X12_brackets_57 : DC mX12_brackets 57 (.iload_n 2) 1 58 := ⟨by decide +kernel, rfl⟩
theorem d_X12_brackets_58 : DC mX12_brackets 58 (.iload 6) 2 60 := ⟨by decide +kernel, rfl⟩
theorem d_X12_brackets_60 : DC mX12_brackets 60 (.invokestatic 306) 3 63 := ⟨by decide +kernel, rfl⟩
theorem d_X12_brackets_63 : DC mX12_brackets 63 (.invokevirtual 113) 3 66 := ⟨by decide +kernel, rfl⟩
theorem d_X12_brackets_66 : DC mX12_brackets 66 (.ifCond .le 20) 3 69 := ⟨by decide +kernel, rfl⟩
theorem d_X12_brackets_69 : DC mX12_brackets 69 (.aload_n 0) 1 70 := ⟨by decide +kernel, rfl⟩
theorem d_X12_brackets_70 : DC mX12_brackets 70 (.iload_n 3) 1 71 := ⟨by decide +kernel, rfl⟩
theorem d_X12_brackets_71 : DC mX12_brackets 71 (.iload 7) 2 73 := ⟨by decide +kernel, rfl⟩
theorem d_X12_brackets_73 : DC mX12_brackets 73 (.invokestatic 306) 3 76 := ⟨by decide +kernel, rfl⟩
theorem d_X12_brackets_76 : DC mX12_brackets 76 (.invokevirtual 113) 3 79 := ⟨by decide +kernel, rfl⟩
theorem d_X12_brackets_79 : DC mX12_brackets 79 (.ifCond .le 7) 3 82 := ⟨by decide +kernel, rfl⟩
theorem d_X12_brackets_82 : DC mX12_brackets 82 (.iconst 1) 1 83 := ⟨by decide +kernel, rfl⟩
theorem d_X12_brackets_83 : DC mX12_brackets 83 (.goto 4) 3 86 := ⟨by decide +kernel, rfl⟩
theorem d_X12_brackets_86 : DC mX12_brackets 86 (.iconst 0) 1 87 := ⟨by decide +kernel, rfl⟩
theorem d_X12_brackets_87 : DC mX12_brackets 87 (.istore 8) 2 89 := ⟨by decide +kernel, rfl⟩
theorem d_X12_brackets_89 : DC mX12_brackets 89 (.iload 8) 2 91 := ⟨by decide +kernel, rfl⟩
theorem d_X12_brackets_91 : DC mX12_brackets 91 (.ifCond .eq 48) 3 94 := ⟨by decide +kernel, rfl⟩
theorem d_X12_brackets_94 : DC mX12_brackets 94 (.aload_n 0) 1 95 := ⟨by decide +kernel, rfl⟩
theorem d_X12_brackets_95 : DC mX12_brackets 95 (.getfield 13) 3 98 := ⟨by decide +kernel, rfl⟩
theorem d_X12_brackets_98 : DC mX12_brackets 98 (.bipush 100) 2 100 := ⟨by decide +kernel, rfl⟩
theorem d_X12_brackets_100 : DC mX12_brackets 100 (.iload 5) 2 102 := ⟨by decide +kernel, rfl⟩
theorem d_X12_brackets_102 : DC mX12_brackets 102 (.imul) 1 103 := ⟨by decide +kernel, rfl⟩
theorem d_X12_brackets_103 : DC mX12_brackets 103 (.bipush 10) 2 105 := ⟨by decide +kernel, rfl⟩
theorem d_X12_brackets_105 : DC mX12_brackets 105 (.iload 6) 2 107 := ⟨by decide +kernel, rfl⟩
theorem d_X12_brackets_107 : DC mX12_brackets 107 (.imul) 1 108 := ⟨by decide +kernel, rfl⟩
theorem d_X12_brackets_108 : DC mX12_brackets 108 (.iadd) 1 109 := ⟨by decide +kernel, rfl⟩
theorem d_X12_brackets_109 : DC mX12_brackets 109 (.iload 7) 2 111 := ⟨by decide +kernel, rfl⟩
theorem d_X12_brackets_111 : DC mX12_brackets 111 (.iadd) 1 112 := ⟨by decide +kernel, rfl⟩
theorem d_X12_brackets_112 : DC mX12_brackets 112 (.iaload) 1 113 := ⟨by decide +kernel, rfl⟩
theorem d_X12_brackets_113 : DC mX12_brackets 113 (.ifCond .eq 26) 3 116 := ⟨by decide +kernel, rfl⟩
theorem d_X12_brackets_116 : DC mX12_brackets 116 (.aload_n 0) 1 117 := ⟨by decide +kernel, rfl⟩
theorem d_X12_brackets_117 : DC mX12_brackets 117 (.iload_n 1) 1 118 := ⟨by decide +kernel, rfl⟩
theorem d_X12_brackets_118 : DC mX12_brackets 118 (.iload_n 2) 1 119 := ⟨by decide +kernel, rfl⟩
theorem d_X12_brackets_119 : DC mX12_brackets 119 (.iload_n 3) 1 120 := ⟨by decide +kernel, rfl⟩
theorem d_X12_brackets_120 : DC mX12_brackets 120 (.bipush 100) 2 122 := ⟨by decide +kernel, rfl⟩
theorem d_X12_brackets_122 : DC mX12_brackets 122 (.iload 5) 2 124 := ⟨by decide +kernel, rfl⟩
theorem d_X12_brackets_124 : DC mX12_brackets 124 (.imul) 1 125 := ⟨by decide +kernel, rfl⟩
theorem d_X12_brackets_125 : DC mX12_brackets 125 (.bipush 10) 2 127 := ⟨by decide +kernel, rfl⟩
theorem d_X12_brackets_127 : DC mX12_brackets 127 (.iload 6) 2 129 := ⟨by decide +kernel, rfl⟩
theorem d_X12_brackets_129 : DC mX12_brackets 129 (.imul) 1 130 := ⟨by decide +kernel, rfl⟩
theorem d_X12_brackets_130 : DC mX12_brackets 130 (.iadd) 1 131 := ⟨by decide +kernel, rfl⟩
theorem d_X12_brackets_131 : DC mX12_brackets 131 (.iload 7) 2 133 := ⟨by decide +kernel, rfl⟩
theorem d_X12_brackets_133 : DC mX12_brackets 133 (.iadd) 1 134 := ⟨by decide +kernel, rfl⟩
theorem d_X12_brackets_134 : DC mX12_brackets 134 (.iload 4) 2 136 := ⟨by decide +kernel, rfl⟩
theorem d_X12_brackets_136 : DC mX12_brackets 136 (.invokevirtual 321) 3 139 := ⟨by decide +kernel, rfl⟩
theorem d_X12_brackets_139 : DC mX12_brackets 139 (.iinc 7 1) 3 142 := ⟨by decide +kernel, rfl⟩
theorem d_X12_brackets_142 : DC mX12_brackets 142 (.goto (-113)) 3 145 := ⟨by decide +kernel, rfl⟩
theorem d_X12_brackets_145 : DC mX12_brackets 145 (.iinc 6 1) 3 148 := ⟨by decide +kernel, rfl⟩
theorem d_X12_brackets_148 : DC mX12_brackets 148 (.goto (-129)) 3 151 := ⟨by decide +kernel, rfl⟩
theorem d_X12_brackets_151 : DC mX12_brackets 151 (.iinc 5 1) 3 154 := ⟨by decide +kernel, rfl⟩
theorem d_X12_brackets_154 : DC mX12_brackets 154 (.goto (-145)) 3 157 := ⟨by decide +kernel, rfl⟩
theorem d_X12_brackets_157 : DC mX12_brackets 157 (.return_) 1 158 := ⟨by decide +kernel, rfl⟩
theorem d_X12_addsBracket_0 : DC mX12_addsBracket 0 (.aload_n 0) 1 1 := ⟨by decide +kernel, rfl⟩
theorem d_X12_addsBracket_1 : DC mX12_addsBracket 1 (.iconst 1) 1 2 := ⟨by decide +kernel, rfl⟩
theorem d_X12_addsBracket_2 : DC mX12_addsBracket 2 (.invokevirtual 105) 3 5 := ⟨by decide +kernel, rfl⟩
theorem d_X12_addsBracket_5 : DC mX12_addsBracket 5 (.aload_n 0) 1 6 := ⟨by decide +kernel, rfl⟩
theorem d_X12_addsBracket_6 : DC mX12_addsBracket 6 (.iload 4) 2 8 := ⟨by decide +kernel, rfl⟩
theorem d_X12_addsBracket_8 : DC mX12_addsBracket 8 (.bipush 100) 2 10 := ⟨by decide +kernel, rfl⟩
theorem d_X12_addsBracket_10 : DC mX12_addsBracket 10 (.idiv) 1 11 := ⟨by decide +kernel, rfl⟩
theorem d_X12_addsBracket_11 : DC mX12_addsBracket 11 (.iload 4) 2 13 := ⟨by decide +kernel, rfl⟩
theorem d_X12_addsBracket_13 : DC mX12_addsBracket 13 (.bipush 10) 2 15 := ⟨by decide +kernel, rfl⟩
theorem d_X12_addsBracket_15 : DC mX12_addsBracket 15 (.idiv) 1 16 := ⟨by decide +kernel, rfl⟩
theorem d_X12_addsBracket_16 : DC mX12_addsBracket 16 (.bipush 10) 2 18 := ⟨by decide +kernel, rfl⟩
theorem d_X12_addsBracket_18 : DC mX12_addsBracket 18 (.irem) 1 19 := ⟨by decide +kernel, rfl⟩
theorem d_X12_addsBracket_19 : DC mX12_addsBracket 19 (.iload 4) 2 21 := ⟨by decide +kernel, rfl⟩
theorem d_X12_addsBracket_21 : DC mX12_addsBracket 21 (.bipush 10) 2 23 := ⟨by decide +kernel, rfl⟩
theorem d_X12_addsBracket_23 : DC mX12_addsBracket 23 (.irem) 1 24 := ⟨by decide +kernel, rfl⟩
theorem d_X12_addsBracket_24 : DC mX12_addsBracket 24 (.iconst 1) 1 25 := ⟨by decide +kernel, rfl⟩
theorem d_X12_addsBracket_25 : DC mX12_addsBracket 25 (.invokevirtual 211) 3 28 := ⟨by decide +kernel, rfl⟩
theorem d_X12_addsBracket_28 : DC mX12_addsBracket 28 (.aload_n 0) 1 29 := ⟨by decide +kernel, rfl⟩
theorem d_X12_addsBracket_29 : DC mX12_addsBracket 29 (.iload_n 1) 1 30 := ⟨by decide +kernel, rfl⟩
theorem d_X12_addsBracket_30 : DC mX12_addsBracket 30 (.iload 4) 2 32 := ⟨by decide +kernel, rfl⟩
theorem d_X12_addsBracket_32 : DC mX12_addsBracket 32 (.bipush 100) 2 34 := ⟨by decide +kernel, rfl⟩
theorem d_X12_addsBracket_34 : DC mX12_addsBracket 34 (.idiv) 1 35 := ⟨by decide +kernel, rfl⟩
theorem d_X12_addsBracket_35 : DC mX12_addsBracket 35 (.invokestatic 306) 3 38 := ⟨by decide +kernel, rfl⟩
theorem d_X12_addsBracket_38 : DC mX12_addsBracket 38 (.invokevirtual 325) 3 41 := ⟨by decide +kernel, rfl⟩
theorem d_X12_addsBracket_41 : DC mX12_addsBracket 41 (.aload_n 0) 1 42 := ⟨by decide +kernel, rfl⟩
theorem d_X12_addsBracket_42 : DC mX12_addsBracket 42 (.iload_n 2) 1 43 := ⟨by decide +kernel, rfl⟩
theorem d_X12_addsBracket_43 : DC mX12_addsBracket 43 (.iload 4) 2 45 := ⟨by decide +kernel, rfl⟩
theorem d_X12_addsBracket_45 : DC mX12_addsBracket 45 (.bipush 10) 2 47 := ⟨by decide +kernel, rfl⟩
theorem d_X12_addsBracket_47 : DC mX12_addsBracket 47 (.idiv) 1 48 := ⟨by decide +kernel, rfl⟩
theorem d_X12_addsBracket_48 : DC mX12_addsBracket 48 (.bipush 10) 2 50 := ⟨by decide +kernel, rfl⟩
theorem d_X12_addsBracket_50 : DC mX12_addsBracket 50 (.irem) 1 51 := ⟨by decide +kernel, rfl⟩
theorem d_X12_addsBracket_51 : DC mX12_addsBracket 51 (.invokestatic 306) 3 54 := ⟨by decide +kernel, rfl⟩
theorem d_X12_addsBracket_54 : DC mX12_addsBracket 54 (.invokevirtual 325) 3 57 := ⟨by decide +kernel, rfl⟩
theorem d_X12_addsBracket_57 : DC mX12_addsBracket 57 (.aload_n 0) 1 58 := ⟨by decide +kernel, rfl⟩
theorem d_X12_addsBracket_58 : DC mX12_addsBracket 58 (.iload_n 3) 1 59 := ⟨by decide +kernel, rfl⟩
theorem d_X12_addsBracket_59 : DC mX12_addsBracket 59 (.iload 4) 2 61 := ⟨by decide +kernel, rfl⟩
theorem d_X12_addsBracket_61 : DC mX12_addsBracket 61 (.bipush 10) 2 63 := ⟨by decide +kernel, rfl⟩
theorem d_X12_addsBracket_63 : DC mX12_addsBracket 63 (.irem) 1 64 := ⟨by decide +kernel, rfl⟩
theorem d_X12_addsBracket_64 : DC mX12_addsBracket 64 (.invokestatic 306) 3 67 := ⟨by decide +kernel, rfl⟩
theorem d_X12_addsBracket_67 : DC mX12_addsBracket 67 (.invokevirtual 325) 3 70 := ⟨by decide +kernel, rfl⟩
theorem d_X12_addsBracket_70 : DC mX12_addsBracket 70 (.iconst 0) 1 71 := ⟨by decide +kernel, rfl⟩
theorem d_X12_addsBracket_71 : DC mX12_addsBracket 71 (.istore 6) 2 73 := ⟨by decide +kernel, rfl⟩
theorem d_X12_addsBracket_73 : DC mX12_addsBracket 73 (.iload 6) 2 75 := ⟨by decide +kernel, rfl⟩
theorem d_X12_addsBracket_75 : DC mX12_addsBracket 75 (.aload_n 0) 1 76 := ⟨by decide +kernel, rfl⟩
theorem d_X12_addsBracket_76 : DC mX12_addsBracket 76 (.iconst 1) 1 77 := ⟨by decide +kernel, rfl⟩
theorem d_X12_addsBracket_77 : DC mX12_addsBracket 77 (.invokevirtual 113) 3 80 := ⟨by decide +kernel, rfl⟩
theorem d_X12_addsBracket_80 : DC mX12_addsBracket 80 (.if_icmp .ge 31) 3 83 := ⟨by decide +kernel, rfl⟩
theorem d_X12_addsBracket_83 : DC mX12_addsBracket 83 (.aload_n 0) 1 84 := ⟨by decide +kernel, rfl⟩
theorem d_X12_addsBracket_84 : DC mX12_addsBracket 84 (.iload 5) 2 86 := ⟨by decide +kernel, rfl⟩
theorem d_X12_addsBracket_86 : DC mX12_addsBracket 86 (.aload_n 0) 1 87 := ⟨by decide +kernel, rfl⟩
theorem d_X12_addsBracket_87 : DC mX12_addsBracket 87 (.iconst 1) 1 88 := ⟨by decide +kernel, rfl⟩
theorem d_X12_addsBracket_88 : DC mX12_addsBracket 88 (.iload 6) 2 90 := ⟨by decide +kernel, rfl⟩
theorem d_X12_addsBracket_90 : DC mX12_addsBracket 90 (.invokevirtual 117) 3 93 := ⟨by decide +kernel, rfl⟩
theorem d_X12_addsBracket_93 : DC mX12_addsBracket 93 (.aload_n 0) 1 94 := ⟨by decide +kernel, rfl⟩
theorem d_X12_addsBracket_94 : DC mX12_addsBracket 94 (.iconst 1) 1 95 := ⟨by decide +kernel, rfl⟩
theorem d_X12_addsBracket_95 : DC mX12_addsBracket 95 (.iload 6) 2 97 := ⟨by decide +kernel, rfl⟩
theorem d_X12_addsBracket_97 : DC mX12_addsBracket 97 (.invokevirtual 132) 3 100 := ⟨by decide +kernel, rfl⟩
theorem d_X12_addsBracket_100 : DC mX12_addsBracket 100 (.i2l) 1 101 := ⟨by decide +kernel, rfl⟩
theorem d_X12_addsBracket_101 : DC mX12_addsBracket 101 (.invokevirtual 147) 3 104 := ⟨by decide +kernel, rfl⟩
theorem d_X12_addsBracket_104 : DC mX12_addsBracket 104 (.pop) 1 105 := ⟨by decide +kernel, rfl⟩
theorem d_X12_addsBracket_105 : DC mX12_addsBracket 105 (.iinc 6 1) 3 108 := ⟨by decide +kernel, rfl⟩
theorem d_X12_addsBracket_108 : DC mX12_addsBracket 108 (.goto (-35)) 3 111 := ⟨by decide +kernel, rfl⟩
theorem d_X12_addsBracket_111 : DC mX12_addsBracket 111 (.return_) 1 112 := ⟨by decide +kernel, rfl⟩
theorem d_X12_timesRow_0 : DC mX12_timesRow 0 (.aload_n 0) 1 1 := ⟨by decide +kernel, rfl⟩
theorem d_X12_timesRow_1 : DC mX12_timesRow 1 (.iconst 5) 1 2 := ⟨by decide +kernel, rfl⟩
theorem d_X12_timesRow_2 : DC mX12_timesRow 2 (.invokevirtual 105) 3 5 := ⟨by decide +kernel, rfl⟩
theorem d_X12_timesRow_5 : DC mX12_timesRow 5 (.aload_n 0) 1 6 := ⟨by decide +kernel, rfl⟩
theorem d_X12_timesRow_6 : DC mX12_timesRow 6 (.iconst 1) 1 7 := ⟨by decide +kernel, rfl⟩
theorem d_X12_timesRow_7 : DC mX12_timesRow 7 (.iload_n 1) 1 8 := ⟨by decide +kernel, rfl⟩
theorem d_X12_timesRow_8 : DC mX12_timesRow 8 (.iconst 1) 1 9 := ⟨by decide +kernel, rfl⟩
theorem d_X12_timesRow_9 : DC mX12_timesRow 9 (.iconst 5) 1 10 := ⟨by decide +kernel, rfl⟩
theorem d_X12_timesRow_10 : DC mX12_timesRow 10 (.invokevirtual 231) 3 13 := ⟨by decide +kernel, rfl⟩
theorem d_X12_timesRow_13 : DC mX12_timesRow 13 (.aload_n 0) 1 14 := ⟨by decide +kernel, rfl⟩
theorem d_X12_timesRow_14 : DC mX12_timesRow 14 (.iconst 5) 1 15 := ⟨by decide +kernel, rfl⟩
theorem d_X12_timesRow_15 : DC mX12_timesRow 15 (.iconst 1) 1 16 := ⟨by decide +kernel, rfl⟩
theorem d_X12_timesRow_16 : DC mX12_timesRow 16 (.invokevirtual 328) 3 19 := ⟨by decide +kernel, rfl⟩
theorem d_X12_timesRow_19 : DC mX12_timesRow 19 (.return_) 1 20 := ⟨by decide +kernel, rfl⟩
theorem d_X12_figure_0 : DC mX12_figure 0 (.aload_n 0) 1 1 := ⟨by decide +kernel, rfl⟩
theorem d_X12_figure_1 : DC mX12_figure 1 (.iconst 0) 1 2 := ⟨by decide +kernel, rfl⟩
theorem d_X12_figure_2 : DC mX12_figure 2 (.putfield 1) 3 5 := ⟨by decide +kernel, rfl⟩
theorem d_X12_figure_5 : DC mX12_figure 5 (.aload_n 0) 1 6 := ⟨by decide +kernel, rfl⟩
theorem d_X12_figure_6 : DC mX12_figure 6 (.iload_n 1) 1 7 := ⟨by decide +kernel, rfl⟩
theorem d_X12_figure_7 : DC mX12_figure 7 (.iload_n 2) 1 8 := ⟨by decide +kernel, rfl⟩
theorem d_X12_figure_8 : DC mX12_figure 8 (.invokevirtual 297) 3 11 := ⟨by decide +kernel, rfl⟩
theorem d_X12_figure_11 : DC mX12_figure 11 (.istore_n 3) 1 12 := ⟨by decide +kernel, rfl⟩
theorem d_X12_figure_12 : DC mX12_figure 12 (.iload_n 3) 1 13 := ⟨by decide +kernel, rfl⟩
theorem d_X12_figure_13 : DC mX12_figure 13 (.ifCond .eq 5) 3 16 := ⟨by decide +kernel, rfl⟩
theorem d_X12_figure_16 : DC mX12_figure 16 (.iload_n 3) 1 17 := ⟨by decide +kernel, rfl⟩
theorem d_X12_figure_17 : DC mX12_figure 17 (.ireturn) 1 18 := ⟨by decide +kernel, rfl⟩
theorem d_X12_figure_18 : DC mX12_figure 18 (.aload_n 0) 1 19 := ⟨by decide +kernel, rfl⟩
theorem d_X12_figure_19 : DC mX12_figure 19 (.invokevirtual 331) 3 22 := ⟨by decide +kernel, rfl⟩
theorem d_X12_figure_22 : DC mX12_figure 22 (.aload_n 0) 1 23 := ⟨by decide +kernel, rfl⟩
theorem d_X12_figure_23 : DC mX12_figure 23 (.getfield 261) 3 26 := ⟨by decide +kernel, rfl⟩
theorem d_X12_figure_26 : DC mX12_figure 26 (.ifCond .eq 15) 3 29 := ⟨by decide +kernel, rfl⟩
theorem d_X12_figure_29 : DC mX12_figure 29 (.aload_n 0) 1 30 := ⟨by decide +kernel, rfl⟩
theorem d_X12_figure_30 : DC mX12_figure 30 (.bipush (-30)) 2 32 := ⟨by decide +kernel, rfl⟩
theorem d_X12_figure_32 : DC mX12_figure 32 (.aload_n 0) 1 33 := ⟨by decide +kernel, rfl⟩
theorem d_X12_figure_33 : DC mX12_figure 33 (.getfield 261) 3 36 := ⟨by decide +kernel, rfl⟩
theorem d_X12_figure_36 : DC mX12_figure 36 (.isub) 1 37 := ⟨by decide +kernel, rfl⟩
theorem d_X12_figure_37 : DC mX12_figure 37 (.invokevirtual 218) 3 40 := ⟨by decide +kernel, rfl⟩
theorem d_X12_figure_40 : DC mX12_figure 40 (.ireturn) 1 41 := ⟨by decide +kernel, rfl⟩
theorem d_X12_figure_41 : DC mX12_figure 41 (.aload_n 0) 1 42 := ⟨by decide +kernel, rfl⟩
theorem d_X12_figure_42 : DC mX12_figure 42 (.invokevirtual 202) 3 45 := ⟨by decide +kernel, rfl⟩
theorem d_X12_figure_45 : DC mX12_figure 45 (.aload_n 0) 1 46 := ⟨by decide +kernel, rfl⟩
theorem d_X12_figure_46 : DC mX12_figure 46 (.iconst 0) 1 47 := ⟨by decide +kernel, rfl⟩
theorem d_X12_figure_47 : DC mX12_figure 47 (.putfield 255) 3 50 := ⟨by decide +kernel, rfl⟩
theorem d_X12_figure_50 : DC mX12_figure 50 (.iconst 0) 1 51 := ⟨by decide +kernel, rfl⟩
theorem d_X12_figure_51 : DC mX12_figure 51 (.istore 4) 2 53 := ⟨by decide +kernel, rfl⟩
theorem d_X12_figure_53 : DC mX12_figure 53 (.iload 4) 2 55 := ⟨by decide +kernel, rfl⟩
theorem d_X12_figure_55 : DC mX12_figure 55 (.iconst 3) 1 56 := ⟨by decide +kernel, rfl⟩
theorem d_X12_figure_56 : DC mX12_figure 56 (.if_icmp .ge 16) 3 59 := ⟨by decide +kernel, rfl⟩
theorem d_X12_figure_59 : DC mX12_figure 59 (.aload_n 0) 1 60 := ⟨by decide +kernel, rfl⟩
theorem d_X12_figure_60 : DC mX12_figure 60 (.iload 4) 2 62 := ⟨by decide +kernel, rfl⟩
theorem d_X12_figure_62 : DC mX12_figure 62 (.iconst 3) 1 63 := ⟨by decide +kernel, rfl⟩
theorem d_X12_figure_63 : DC mX12_figure 63 (.invokevirtual 309) 3 66 := ⟨by decide +kernel, rfl⟩
theorem d_X12_figure_66 : DC mX12_figure 66 (.iinc 4 1) 3 69 := ⟨by decide +kernel, rfl⟩
theorem d_X12_figure_69 : DC mX12_figure 69 (.goto (-16)) 3 72 := ⟨by decide +kernel, rfl⟩
theorem d_X12_figure_72 : DC mX12_figure 72 (.aload_n 0) 1 73 := ⟨by decide +kernel, rfl⟩
theorem d_X12_figure_73 : DC mX12_figure 73 (.getfield 102) 3 76 := ⟨by decide +kernel, rfl⟩
theorem d_X12_figure_76 : DC mX12_figure 76 (.ifCond .ne 11) 3 79 := ⟨by decide +kernel, rfl⟩
theorem d_X12_figure_79 : DC mX12_figure 79 (.aload_n 0) 1 80 := ⟨by decide +kernel, rfl⟩
theorem d_X12_figure_80 : DC mX12_figure 80 (.iconst 0) 1 81 := ⟨by decide +kernel, rfl⟩
theorem d_X12_figure_81 : DC mX12_figure 81 (.iconst 1) 1 82 := ⟨by decide +kernel, rfl⟩
theorem d_X12_figure_82 : DC mX12_figure 82 (.iconst 2) 1 83 := ⟨by decide +kernel, rfl⟩
theorem d_X12_figure_83 : DC mX12_figure 83 (.iconst 0) 1 84 := ⟨by decide +kernel, rfl⟩
theorem d_X12_figure_84 : DC mX12_figure 84 (.invokevirtual 315) 3 87 := ⟨by decide +kernel, rfl⟩
theorem d_X12_figure_87 : DC mX12_figure 87 (.aload_n 0) 1 88 := ⟨by decide +kernel, rfl⟩
theorem d_X12_figure_88 : DC mX12_figure 88 (.iload_n 1) 1 89 := ⟨by decide +kernel, rfl⟩
theorem d_X12_figure_89 : DC mX12_figure 89 (.invokevirtual 228) 3 92 := ⟨by decide +kernel, rfl⟩
theorem d_X12_figure_92 : DC mX12_figure 92 (.ireturn) 1 93 := ⟨by decide +kernel, rfl⟩
theorem d_X12_terms_0 : DC mX12_terms 0 (.aload_n 0) 1 1 := ⟨by decide +kernel, rfl⟩
theorem d_X12_terms_1 : DC mX12_terms 1 (.iconst 0) 1 2 := ⟨by decide +kernel, rfl⟩
theorem d_X12_terms_2 : DC mX12_terms 2 (.putfield 1) 3 5 := ⟨by decide +kernel, rfl⟩
theorem d_X12_terms_5 : DC mX12_terms 5 (.iload_n 1) 1 6 := ⟨by decide +kernel, rfl⟩
theorem d_X12_terms_6 : DC mX12_terms 6 (.invokestatic 199) 3 9 := ⟨by decide +kernel, rfl⟩
theorem d_X12_terms_9 : DC mX12_terms 9 (.ifCond .eq 16) 3 12 := ⟨by decide +kernel, rfl⟩
theorem d_X12_terms_12 : DC mX12_terms 12 (.aload_n 0) 1 13 := ⟨by decide +kernel, rfl⟩
theorem d_X12_terms_13 : DC mX12_terms 13 (.getfield 20) 3 16 := ⟨by decide +kernel, rfl⟩
theorem d_X12_terms_16 : DC mX12_terms 16 (.sipush 161) 3 19 := ⟨by decide +kernel, rfl⟩
theorem d_X12_terms_19 : DC mX12_terms 19 (.iload_n 1) 1 20 := ⟨by decide +kernel, rfl⟩
theorem d_X12_terms_20 : DC mX12_terms 20 (.imul) 1 21 := ⟨by decide +kernel, rfl⟩
theorem d_X12_terms_21 : DC mX12_terms 21 (.iaload) 1 22 := ⟨by decide +kernel, rfl⟩
theorem d_X12_terms_22 : DC mX12_terms 22 (.goto 5) 3 25 := ⟨by decide +kernel, rfl⟩
theorem d_X12_terms_25 : DC mX12_terms 25 (.bipush (-2)) 2 27 := ⟨by decide +kernel, rfl⟩
theorem d_X12_terms_27 : DC mX12_terms 27 (.ireturn) 1 28 := ⟨by decide +kernel, rfl⟩
theorem d_X12_term__0 : DC mX12_term_ 0 (.aload_n 0) 1 1 := ⟨by decide +kernel, rfl⟩
theorem d_X12_term__1 : DC mX12_term_ 1 (.iconst 0) 1 2 := ⟨by decide +kernel, rfl⟩
theorem d_X12_term__2 : DC mX12_term_ 2 (.putfield 1) 3 5 := ⟨by decide +kernel, rfl⟩
theorem d_X12_term__5 : DC mX12_term_ 5 (.iload_n 1) 1 6 := ⟨by decide +kernel, rfl⟩
theorem d_X12_term__6 : DC mX12_term_ 6 (.invokestatic 199) 3 9 := ⟨by decide +kernel, rfl⟩
theorem d_X12_term__9 : DC mX12_term_ 9 (.ifCond .eq 25) 3 12 := ⟨by decide +kernel, rfl⟩
theorem d_X12_term__12 : DC mX12_term_ 12 (.iload_n 2) 1 13 := ⟨by decide +kernel, rfl⟩
theorem d_X12_term__13 : DC mX12_term_ 13 (.i2l) 1 14 := ⟨by decide +kernel, rfl⟩
theorem d_X12_term__14 : DC mX12_term_ 14 (.lconst 0) 1 15 := ⟨by decide +kernel, rfl⟩
theorem d_X12_term__15 : DC mX12_term_ 15 (.aload_n 0) 1 16 := ⟨by decide +kernel, rfl⟩
theorem d_X12_term__16 : DC mX12_term_ 16 (.getfield 20) 3 19 := ⟨by decide +kernel, rfl⟩
theorem d_X12_term__19 : DC mX12_term_ 19 (.sipush 161) 3 22 := ⟨by decide +kernel, rfl⟩
theorem d_X12_term__22 : DC mX12_term_ 22 (.iload_n 1) 1 23 := ⟨by decide +kernel, rfl⟩
theorem d_X12_term__23 : DC mX12_term_ 23 (.imul) 1 24 := ⟨by decide +kernel, rfl⟩
theorem d_X12_term__24 : DC mX12_term_ 24 (.iaload) 1 25 := ⟨by decide +kernel, rfl⟩
theorem d_X12_term__25 : DC mX12_term_ 25 (.iconst 1) 1 26 := ⟨by decide +kernel, rfl⟩
theorem d_X12_term__26 : DC mX12_term_ 26 (.isub) 1 27 := ⟨by decide +kernel, rfl⟩
theorem d_X12_term__27 : DC mX12_term_ 27 (.i2l) 1 28 := ⟨by decide +kernel, rfl⟩
theorem d_X12_term__28 : DC mX12_term_ 28 (.invokestatic 91) 3 31 := ⟨by decide +kernel, rfl⟩
theorem d_X12_term__31 : DC mX12_term_ 31 (.ifCond .ne 7) 3 34 := ⟨by decide +kernel, rfl⟩
theorem d_X12_term__34 : DC mX12_term_ 34 (.ldc_w 334) 3 37 := ⟨by decide +kernel, rfl⟩
theorem d_X12_term__37 : DC mX12_term_ 37 (.ireturn) 1 38 := ⟨by decide +kernel, rfl⟩
theorem d_X12_term__38 : DC mX12_term_ 38 (.aload_n 0) 1 39 := ⟨by decide +kernel, rfl⟩
theorem d_X12_term__39 : DC mX12_term_ 39 (.getfield 20) 3 42 := ⟨by decide +kernel, rfl⟩
theorem d_X12_term__42 : DC mX12_term_ 42 (.sipush 161) 3 45 := ⟨by decide +kernel, rfl⟩
theorem d_X12_term__45 : DC mX12_term_ 45 (.iload_n 1) 1 46 := ⟨by decide +kernel, rfl⟩
theorem d_X12_term__46 : DC mX12_term_ 46 (.imul) 1 47 := ⟨by decide +kernel, rfl⟩
theorem d_X12_term__47 : DC mX12_term_ 47 (.iconst 1) 1 48 := ⟨by decide +kernel, rfl⟩
theorem d_X12_term__48 : DC mX12_term_ 48 (.iadd) 1 49 := ⟨by decide +kernel, rfl⟩
theorem d_X12_term__49 : DC mX12_term_ 49 (.iconst 2) 1 50 := ⟨by decide +kernel, rfl⟩
theorem d_X12_term__50 : DC mX12_term_ 50 (.iload_n 2) 1 51 := ⟨by decide +kernel, rfl⟩
theorem d_X12_term__51 : DC mX12_term_ 51 (.imul) 1 52 := ⟨by decide +kernel, rfl⟩
theorem d_X12_term__52 : DC mX12_term_ 52 (.iadd) 1 53 := ⟨by decide +kernel, rfl⟩
theorem d_X12_term__53 : DC mX12_term_ 53 (.iaload) 1 54 := ⟨by decide +kernel, rfl⟩
theorem d_X12_term__54 : DC mX12_term_ 54 (.istore 4) 2 56 := ⟨by decide +kernel, rfl⟩
theorem d_X12_term__56 : DC mX12_term_ 56 (.aload_n 0) 1 57 := ⟨by decide +kernel, rfl⟩
theorem d_X12_term__57 : DC mX12_term_ 57 (.iload 4) 2 59 := ⟨by decide +kernel, rfl⟩
theorem d_X12_term__59 : DC mX12_term_ 59 (.invokevirtual 171) 3 62 := ⟨by decide +kernel, rfl⟩
theorem d_X12_term__62 : DC mX12_term_ 62 (.istore 5) 2 64 := ⟨by decide +kernel, rfl⟩
theorem d_X12_term__64 : DC mX12_term_ 64 (.iload_n 3) 1 65 := ⟨by decide +kernel, rfl⟩
theorem d_X12_term__65 : DC mX12_term_ 65 (.i2l) 1 66 := ⟨by decide +kernel, rfl⟩
theorem d_X12_term__66 : DC mX12_term_ 66 (.ldc2_w 335) 3 69 := ⟨by decide +kernel, rfl⟩
theorem d_X12_term__69 : DC mX12_term_ 69 (.ldc2_w 337) 3 72 := ⟨by decide +kernel, rfl⟩
theorem d_X12_term__72 : DC mX12_term_ 72 (.invokestatic 91) 3 75 := ⟨by decide +kernel, rfl⟩
theorem d_X12_term__75 : DC mX12_term_ 75 (.ifCond .eq 47) 3 78 := ⟨by decide +kernel, rfl⟩
theorem d_X12_term__78 : DC mX12_term_ 78 (.iload_n 3) 1 79 := ⟨by decide +kernel, rfl⟩
theorem d_X12_term__79 : DC mX12_term_ 79 (.bipush 10) 2 81 := ⟨by decide +kernel, rfl⟩
theorem d_X12_term__81 : DC mX12_term_ 81 (.isub) 1 82 := ⟨by decide +kernel, rfl⟩
theorem d_X12_term__82 : DC mX12_term_ 82 (.iconst 3) 1 83 := ⟨by decide +kernel, rfl⟩
theorem d_X12_term__83 : DC mX12_term_ 83 (.idiv) 1 84 := ⟨by decide +kernel, rfl⟩
theorem d_X12_term__84 : DC mX12_term_ 84 (.istore 6) 2 86 := ⟨by decide +kernel, rfl⟩
theorem d_X12_term__86 : DC mX12_term_ 86 (.iload 6) 2 88 := ⟨by decide +kernel, rfl⟩
theorem d_X12_term__88 : DC mX12_term_ 88 (.iload 4) 2 90 := ⟨by decide +kernel, rfl⟩
theorem d_X12_term__90 : DC mX12_term_ 90 (.invokestatic 138) 3 93 := ⟨by decide +kernel, rfl⟩
theorem d_X12_term__93 : DC mX12_term_ 93 (.if_icmp .ge 27) 3 96 := ⟨by decide +kernel, rfl⟩
theorem d_X12_term__96 : DC mX12_term_ 96 (.aload_n 0) 1 97 := ⟨by decide +kernel, rfl⟩
theorem d_X12_term__97 : DC mX12_term_ 97 (.getfield 17) 3 100 := ⟨by decide +kernel, rfl⟩
theorem d_X12_term__100 : DC mX12_term_ 100 (.iconst 3) 1 101 := ⟨by decide +kernel, rfl⟩
theorem d_X12_term__101 : DC mX12_term_ 101 (.iload 4) 2 103 := ⟨by decide +kernel, rfl⟩
theorem d_X12_term__103 : DC mX12_term_ 103 (.iload 6) 2 105 := ⟨by decide +kernel, rfl⟩
theorem d_X12_term__105 : DC mX12_term_ 105 (.invokestatic 135) 3 108 := ⟨by decide +kernel, rfl⟩
theorem d_X12_term__108 : DC mX12_term_ 108 (.imul) 1 109 := ⟨by decide +kernel, rfl⟩
theorem d_X12_term__109 : DC mX12_term_ 109 (.iload_n 3) 1 110 := ⟨by decide +kernel, rfl⟩
theorem d_X12_term__110 : DC mX12_term_ 110 (.bipush 10) 2 112 := ⟨by decide +kernel, rfl⟩
theorem d_X12_term__112 : DC mX12_term_ 112 (.isub) 1 113 := ⟨by decide +kernel, rfl⟩
theorem d_X12_term__113 : DC mX12_term_ 113 (.iconst 3) 1 114 := ⟨by decide +kernel, rfl⟩
theorem d_X12_term__114 : DC mX12_term_ 114 (.irem) 1 115 := ⟨by decide +kernel, rfl⟩
theorem d_X12_term__115 : DC mX12_term_ 115 (.iadd) 1 116 := ⟨by decide +kernel, rfl⟩
theorem d_X12_term__116 : DC mX12_term_ 116 (.iaload) 1 117 := ⟨by decide +kernel, rfl⟩
theorem d_X12_term__117 : DC mX12_term_ 117 (.goto 4) 3 120 := ⟨by decide +kernel, rfl⟩
theorem d_X12_term__120 : DC mX12_term_ 120 (.iconst (-1)) 1 121 := ⟨by decide +kernel, rfl⟩
theorem d_X12_term__121 : DC mX12_term_ 121 (.ireturn) 1 122 := ⟨by decide +kernel, rfl⟩
theorem d_X12_term__122 : DC mX12_term_ 122 (.iload_n 3) 1 123 := ⟨by decide +kernel, rfl⟩
theorem d_X12_term__123 : DC mX12_term_ 123 (.tableswitch 102 0 4 #[33, 50, 56, 68, 71]) 33 156 := ⟨by decide +kernel, rfl⟩
theorem d_X12_term__156 : DC mX12_term_ 156 (.aload_n 0) 1 157 := ⟨by decide +kernel, rfl⟩
theorem d_X12_term__157 : DC mX12_term_ 157 (.getfield 20) 3 160 := ⟨by decide +kernel, rfl⟩
theorem d_X12_term__160 : DC mX12_term_ 160 (.sipush 161) 3 163 := ⟨by decide +kernel, rfl⟩
theorem d_X12_term__163 : DC mX12_term_ 163 (.iload_n 1) 1 164 := ⟨by decide +kernel, rfl⟩
theorem d_X12_term__164 : DC mX12_term_ 164 (.imul) 1 165 := ⟨by decide +kernel, rfl⟩
theorem d_X12_term__165 : DC mX12_term_ 165 (.iconst 2) 1 166 := ⟨by decide +kernel, rfl⟩
theorem d_X12_term__166 : DC mX12_term_ 166 (.iadd) 1 167 := ⟨by decide +kernel, rfl⟩
theorem d_X12_term__167 : DC mX12_term_ 167 (.iconst 2) 1 168 := ⟨by decide +kernel, rfl⟩
theorem d_X12_term__168 : DC mX12_term_ 168 (.iload_n 2) 1 169 := ⟨by decide +kernel, rfl⟩
theorem d_X12_term__169 : DC mX12_term_ 169 (.imul) 1 170 := ⟨by decide +kernel, rfl⟩
theorem d_X12_term__170 : DC mX12_term_ 170 (.iadd) 1 171 := ⟨by decide +kernel, rfl⟩
theorem d_X12_term__171 : DC mX12_term_ 171 (.iaload) 1 172 := ⟨by decide +kernel, rfl⟩
theorem d_X12_term__172 : DC mX12_term_ 172 (.ireturn) 1 173 := ⟨by decide +kernel, rfl⟩
theorem d_X12_term__173 : DC mX12_term_ 173 (.iload 4) 2 175 := ⟨by decide +kernel, rfl⟩
theorem d_X12_term__175 : DC mX12_term_ 175 (.invokestatic 138) 3 178 := ⟨by decide +kernel, rfl⟩
theorem d_X12_term__178 : DC mX12_term_ 178 (.ireturn) 1 179 := ⟨by decide +kernel, rfl⟩
theorem d_X12_term__179 : DC mX12_term_ 179 (.iload 5) 2 181 := ⟨by decide +kernel, rfl⟩
theorem d_X12_term__181 : DC mX12_term_ 181 (.iconst (-1)) 1 182 := ⟨by decide +kernel, rfl⟩
theorem d_X12_term__182 : DC mX12_term_ 182 (.if_icmp .ne 7) 3 185 := ⟨by decide +kernel, rfl⟩
theorem d_X12_term__185 : DC mX12_term_ 185 (.iconst 1) 1 186 := ⟨by decide +kernel, rfl⟩
theorem d_X12_term__186 : DC mX12_term_ 186 (.goto 4) 3 189 := ⟨by decide +kernel, rfl⟩
theorem d_X12_term__189 : DC mX12_term_ 189 (.iconst 0) 1 190 := ⟨by decide +kernel, rfl⟩
theorem d_X12_term__190 : DC mX12_term_ 190 (.ireturn) 1 191 := ⟨by decide +kernel, rfl⟩
theorem d_X12_term__191 : DC mX12_term_ 191 (.iload 5) 2 193 := ⟨by decide +kernel, rfl⟩
theorem d_X12_term__193 : DC mX12_term_ 193 (.ireturn) 1 194 := ⟨by decide +kernel, rfl⟩
theorem d_X12_term__194 : DC mX12_term_ 194 (.iload 5) 2 196 := ⟨by decide +kernel, rfl⟩
theorem d_X12_term__196 : DC mX12_term_ 196 (.iconst (-1)) 1 197 := ⟨by decide +kernel, rfl⟩
theorem d_X12_term__197 : DC mX12_term_ 197 (.if_icmp .ne 7) 3 200 := ⟨by decide +kernel, rfl⟩
theorem d_X12_term__200 : DC mX12_term_ 200 (.iconst (-1)) 1 201 := ⟨by decide +kernel, rfl⟩
theorem d_X12_term__201 : DC mX12_term_ 201 (.goto 23) 3 204 := ⟨by decide +kernel, rfl⟩
theorem d_X12_term__204 : DC mX12_term_ 204 (.aload_n 0) 1 205 := ⟨by decide +kernel, rfl⟩
theorem d_X12_term__205 : DC mX12_term_ 205 (.iload 4) 2 207 := ⟨by decide +kernel, rfl⟩
theorem d_X12_term__207 : DC mX12_term_ 207 (.iload 5) 2 209 := ⟨by decide +kernel, rfl⟩
theorem d_X12_term__209 : DC mX12_term_ 209 (.invokestatic 135) 3 212 := ⟨by decide +kernel, rfl⟩
theorem d_X12_term__212 : DC mX12_term_ 212 (.iload 4) 2 214 := ⟨by decide +kernel, rfl⟩
theorem d_X12_term__214 : DC mX12_term_ 214 (.iload 5) 2 216 := ⟨by decide +kernel, rfl⟩
theorem d_X12_term__216 : DC mX12_term_ 216 (.iconst 1) 1 217 := ⟨by decide +kernel, rfl⟩
theorem d_X12_term__217 : DC mX12_term_ 217 (.iadd) 1 218 := ⟨by decide +kernel, rfl⟩
theorem d_X12_term__218 : DC mX12_term_ 218 (.invokestatic 135) 3 221 := ⟨by decide +kernel, rfl⟩
theorem d_X12_term__221 : DC mX12_term_ 221 (.invokevirtual 151) 3 224 := ⟨by decide +kernel, rfl⟩
theorem d_X12_term__224 : DC mX12_term_ 224 (.ireturn) 1 225 := ⟨by decide +kernel, rfl⟩
theorem d_X12_term__225 : DC mX12_term_ 225 (.ldc_w 334) 3 228 := ⟨by decide +kernel, rfl⟩
theorem d_X12_term__228 : DC mX12_term_ 228 (.ireturn) 1 229 := ⟨by decide +kernel, rfl⟩
theorem d_X12_keyOn_0 : DC mX12_keyOn 0 (.aload_n 0) 1 1 := ⟨by decide +kernel, rfl⟩
theorem d_X12_keyOn_1 : DC mX12_keyOn 1 (.sipush 161) 3 4 := ⟨by decide +kernel, rfl⟩
theorem d_X12_keyOn_4 : DC mX12_keyOn 4 (.iload_n 1) 1 5 := ⟨by decide +kernel, rfl⟩
theorem d_X12_keyOn_5 : DC mX12_keyOn 5 (.imul) 1 6 := ⟨by decide +kernel, rfl⟩
theorem d_X12_keyOn_6 : DC mX12_keyOn 6 (.iconst 1) 1 7 := ⟨by decide +kernel, rfl⟩
theorem d_X12_keyOn_7 : DC mX12_keyOn 7 (.iadd) 1 8 := ⟨by decide +kernel, rfl⟩
theorem d_X12_keyOn_8 : DC mX12_keyOn 8 (.iconst 2) 1 9 := ⟨by decide +kernel, rfl⟩
theorem d_X12_keyOn_9 : DC mX12_keyOn 9 (.iload_n 2) 1 10 := ⟨by decide +kernel, rfl⟩
theorem d_X12_keyOn_10 : DC mX12_keyOn 10 (.imul) 1 11 := ⟨by decide +kernel, rfl⟩
theorem d_X12_keyOn_11 : DC mX12_keyOn 11 (.iadd) 1 12 := ⟨by decide +kernel, rfl⟩
theorem d_X12_keyOn_12 : DC mX12_keyOn 12 (.iaload) 1 13 := ⟨by decide +kernel, rfl⟩
theorem d_X12_keyOn_13 : DC mX12_keyOn 13 (.ireturn) 1 14 := ⟨by decide +kernel, rfl⟩
theorem d_X12_often_0 : DC mX12_often 0 (.iconst 0) 1 1 := ⟨by decide +kernel, rfl⟩
theorem d_X12_often_1 : DC mX12_often 1 (.istore_n 3) 1 2 := ⟨by decide +kernel, rfl⟩
theorem d_X12_often_2 : DC mX12_often 2 (.iconst 0) 1 3 := ⟨by decide +kernel, rfl⟩
theorem d_X12_often_3 : DC mX12_often 3 (.istore 4) 2 5 := ⟨by decide +kernel, rfl⟩
theorem d_X12_often_5 : DC mX12_often 5 (.iload 4) 2 7 := ⟨by decide +kernel, rfl⟩
theorem d_X12_often_7 : DC mX12_often 7 (.iload_n 1) 1 8 := ⟨by decide +kernel, rfl⟩
theorem d_X12_often_8 : DC mX12_often 8 (.invokestatic 138) 3 11 := ⟨by decide +kernel, rfl⟩
theorem d_X12_often_11 : DC mX12_often 11 (.if_icmp .ge 52) 3 14 := ⟨by decide +kernel, rfl⟩
theorem d_X12_often_14 : DC mX12_often 14 (.iconst 0) 1 15 := ⟨by decide +kernel, rfl⟩
theorem d_X12_often_15 : DC mX12_often 15 (.istore 5) 2 17 := ⟨by decide +kernel, rfl⟩
theorem d_X12_often_17 : DC mX12_often 17 (.iload 5) 2 19 := ⟨by decide +kernel, rfl⟩
theorem d_X12_often_19 : DC mX12_often 19 (.iconst 3) 1 20 := ⟨by decide +kernel, rfl⟩
theorem d_X12_often_20 : DC mX12_often 20 (.if_icmp .ge 37) 3 23 := ⟨by decide +kernel, rfl⟩
theorem d_X12_often_23 : DC mX12_often 23 (.iload_n 3) 1 24 := ⟨by decide +kernel, rfl⟩
theorem d_X12_often_24 : DC mX12_often 24 (.aload_n 0) 1 25 := ⟨by decide +kernel, rfl⟩
theorem d_X12_often_25 : DC mX12_often 25 (.getfield 17) 3 28 := ⟨by decide +kernel, rfl⟩
theorem d_X12_often_28 : DC mX12_often 28 (.iconst 3) 1 29 := ⟨by decide +kernel, rfl⟩
theorem d_X12_often_29 : DC mX12_often 29 (.iload_n 1) 1 30 := ⟨by decide +kernel, rfl⟩
theorem d_X12_often_30 : DC mX12_often 30 (.iload 4) 2 32 := ⟨by decide +kernel, rfl⟩
theorem d_X12_often_32 : DC mX12_often 32 (.invokestatic 135) 3 35 := ⟨by decide +kernel, rfl⟩
theorem d_X12_often_35 : DC mX12_often 35 (.imul) 1 36 := ⟨by decide +kernel, rfl⟩
theorem d_X12_often_36 : DC mX12_often 36 (.iload 5) 2 38 := ⟨by decide +kernel, rfl⟩
theorem d_X12_often_38 : DC mX12_often 38 (.iadd) 1 39 := ⟨by decide +kernel, rfl⟩
theorem d_X12_often_39 : DC mX12_often 39 (.iaload) 1 40 := ⟨by decide +kernel, rfl⟩
theorem d_X12_often_40 : DC mX12_often 40 (.iload_n 2) 1 41 := ⟨by decide +kernel, rfl⟩
theorem d_X12_often_41 : DC mX12_often 41 (.if_icmp .ne 7) 3 44 := ⟨by decide +kernel, rfl⟩
theorem d_X12_often_44 : DC mX12_often 44 (.iconst 1) 1 45 := ⟨by decide +kernel, rfl⟩
theorem d_X12_often_45 : DC mX12_often 45 (.goto 4) 3 48 := ⟨by decide +kernel, rfl⟩
theorem d_X12_often_48 : DC mX12_often 48 (.iconst 0) 1 49 := ⟨by decide +kernel, rfl⟩
theorem d_X12_often_49 : DC mX12_often 49 (.iadd) 1 50 := ⟨by decide +kernel, rfl⟩
theorem d_X12_often_50 : DC mX12_often 50 (.istore_n 3) 1 51 := ⟨by decide +kernel, rfl⟩
theorem d_X12_often_51 : DC mX12_often 51 (.iinc 5 1) 3 54 := ⟨by decide +kernel, rfl⟩
theorem d_X12_often_54 : DC mX12_often 54 (.goto (-37)) 3 57 := ⟨by decide +kernel, rfl⟩
theorem d_X12_often_57 : DC mX12_often 57 (.iinc 4 1) 3 60 := ⟨by decide +kernel, rfl⟩
theorem d_X12_often_60 : DC mX12_often 60 (.goto (-55)) 3 63 := ⟨by decide +kernel, rfl⟩
theorem d_X12_often_63 : DC mX12_often 63 (.iload_n 3) 1 64 := ⟨by decide +kernel, rfl⟩
theorem d_X12_often_64 : DC mX12_often 64 (.ireturn) 1 65 := ⟨by decide +kernel, rfl⟩
theorem d_X12_degree_0 : DC mX12_degree 0 (.aload_n 0) 1 1 := ⟨by decide +kernel, rfl⟩
theorem d_X12_degree_1 : DC mX12_degree 1 (.iconst 0) 1 2 := ⟨by decide +kernel, rfl⟩
theorem d_X12_degree_2 : DC mX12_degree 2 (.putfield 1) 3 5 := ⟨by decide +kernel, rfl⟩
theorem d_X12_degree_5 : DC mX12_degree 5 (.iload_n 1) 1 6 := ⟨by decide +kernel, rfl⟩
theorem d_X12_degree_6 : DC mX12_degree 6 (.invokestatic 199) 3 9 := ⟨by decide +kernel, rfl⟩
theorem d_X12_degree_9 : DC mX12_degree 9 (.ifCond .eq 10) 3 12 := ⟨by decide +kernel, rfl⟩
theorem d_X12_degree_12 : DC mX12_degree 12 (.iload_n 2) 1 13 := ⟨by decide +kernel, rfl⟩
theorem d_X12_degree_13 : DC mX12_degree 13 (.invokestatic 208) 3 16 := ⟨by decide +kernel, rfl⟩
theorem d_X12_degree_16 : DC mX12_degree 16 (.ifCond .ne 6) 3 19 := ⟨by decide +kernel, rfl⟩
theorem d_X12_degree_19 : DC mX12_degree 19 (.bipush (-2)) 2 21 := ⟨by decide +kernel, rfl⟩
theorem d_X12_degree_21 : DC mX12_degree 21 (.ireturn) 1 22 := ⟨by decide +kernel, rfl⟩
theorem d_X12_degree_22 : DC mX12_degree 22 (.iconst (-1)) 1 23 := ⟨by decide +kernel, rfl⟩
theorem d_X12_degree_23 : DC mX12_degree 23 (.istore_n 3) 1 24 := ⟨by decide +kernel, rfl⟩
theorem d_X12_degree_24 : DC mX12_degree 24 (.iconst 0) 1 25 := ⟨by decide +kernel, rfl⟩
theorem d_X12_degree_25 : DC mX12_degree 25 (.istore 4) 2 27 := ⟨by decide +kernel, rfl⟩
theorem d_X12_degree_27 : DC mX12_degree 27 (.iload 4) 2 29 := ⟨by decide +kernel, rfl⟩
theorem d_X12_degree_29 : DC mX12_degree 29 (.aload_n 0) 1 30 := ⟨by decide +kernel, rfl⟩
theorem d_X12_degree_30 : DC mX12_degree 30 (.getfield 20) 3 33 := ⟨by decide +kernel, rfl⟩
theorem d_X12_degree_33 : DC mX12_degree 33 (.sipush 161) 3 36 := ⟨by decide +kernel, rfl⟩
theorem d_X12_degree_36 : DC mX12_degree 36 (.iload_n 1) 1 37 := ⟨by decide +kernel, rfl⟩
theorem d_X12_degree_37 : DC mX12_degree 37 (.imul) 1 38 := ⟨by decide +kernel, rfl⟩
theorem d_X12_degree_38 : DC mX12_degree 38 (.iaload) 1 39 := ⟨by decide +kernel, rfl⟩
theorem d_X12_degree_39 : DC mX12_degree 39 (.if_icmp .ge 42) 3 42 := ⟨by decide +kernel, rfl⟩
theorem d_X12_degree_42 : DC mX12_degree 42 (.aload_n 0) 1 43 := ⟨by decide +kernel, rfl⟩
theorem d_X12_degree_43 : DC mX12_degree 43 (.aload_n 0) 1 44 := ⟨by decide +kernel, rfl⟩
theorem d_X12_degree_44 : DC mX12_degree 44 (.getfield 20) 3 47 := ⟨by decide +kernel, rfl⟩
theorem d_X12_degree_47 : DC mX12_degree 47 (.iload_n 1) 1 48 := ⟨by decide +kernel, rfl⟩
theorem d_X12_degree_48 : DC mX12_degree 48 (.iload 4) 2 50 := ⟨by decide +kernel, rfl⟩
theorem d_X12_degree_50 : DC mX12_degree 50 (.invokestatic 339) 3 53 := ⟨by decide +kernel, rfl⟩
theorem d_X12_degree_53 : DC mX12_degree 53 (.iload_n 2) 1 54 := ⟨by decide +kernel, rfl⟩
theorem d_X12_degree_54 : DC mX12_degree 54 (.invokevirtual 343) 3 57 := ⟨by decide +kernel, rfl⟩
theorem d_X12_degree_57 : DC mX12_degree 57 (.istore 5) 2 59 := ⟨by decide +kernel, rfl⟩
theorem d_X12_degree_59 : DC mX12_degree 59 (.iload 4) 2 61 := ⟨by decide +kernel, rfl⟩
theorem d_X12_degree_61 : DC mX12_degree 61 (.ifCond .le 11) 3 64 := ⟨by decide +kernel, rfl⟩
theorem d_X12_degree_64 : DC mX12_degree 64 (.iload 5) 2 66 := ⟨by decide +kernel, rfl⟩
theorem d_X12_degree_66 : DC mX12_degree 66 (.iload_n 3) 1 67 := ⟨by decide +kernel, rfl⟩
theorem d_X12_degree_67 : DC mX12_degree 67 (.if_icmp .eq 5) 3 70 := ⟨by decide +kernel, rfl⟩
theorem d_X12_degree_70 : DC mX12_degree 70 (.iconst (-1)) 1 71 := ⟨by decide +kernel, rfl⟩
theorem d_X12_degree_71 : DC mX12_degree 71 (.ireturn) 1 72 := ⟨by decide +kernel, rfl⟩
theorem d_X12_degree_72 : DC mX12_degree 72 (.iload 5) 2 74 := ⟨by decide +kernel, rfl⟩
theorem d_X12_degree_74 : DC mX12_degree 74 (.istore_n 3) 1 75 := ⟨by decide +kernel, rfl⟩
theorem d_X12_degree_75 : DC mX12_degree 75 (.iinc 4 1) 3 78 := ⟨by decide +kernel, rfl⟩
theorem d_X12_degree_78 : DC mX12_degree 78 (.goto (-51)) 3 81 := ⟨by decide +kernel, rfl⟩
theorem d_X12_degree_81 : DC mX12_degree 81 (.iload_n 3) 1 82 := ⟨by decide +kernel, rfl⟩
theorem d_X12_degree_82 : DC mX12_degree 82 (.ireturn) 1 83 := ⟨by decide +kernel, rfl⟩
theorem d_X12_straightInto_0 : DC mX12_straightInto 0 (.aload_n 0) 1 1 := ⟨by decide +kernel, rfl⟩
theorem d_X12_straightInto_1 : DC mX12_straightInto 1 (.iload_n 1) 1 2 := ⟨by decide +kernel, rfl⟩
theorem d_X12_straightInto_2 : DC mX12_straightInto 2 (.iload_n 2) 1 3 := ⟨by decide +kernel, rfl⟩
theorem d_X12_straightInto_3 : DC mX12_straightInto 3 (.invokevirtual 205) 3 6 := ⟨by decide +kernel, rfl⟩
theorem d_X12_straightInto_6 : DC mX12_straightInto 6 (.aload_n 0) 1 7 := ⟨by decide +kernel, rfl⟩
theorem d_X12_straightInto_7 : DC mX12_straightInto 7 (.aload_n 0) 1 8 := ⟨by decide +kernel, rfl⟩
theorem d_X12_straightInto_8 : DC mX12_straightInto 8 (.iload_n 2) 1 9 := ⟨by decide +kernel, rfl⟩
theorem d_X12_straightInto_9 : DC mX12_straightInto 9 (.invokevirtual 241) 3 12 := ⟨by decide +kernel, rfl⟩
theorem d_X12_straightInto_12 : DC mX12_straightInto 12 (.putfield 346) 3 15 := ⟨by decide +kernel, rfl⟩
theorem d_X12_straightInto_15 : DC mX12_straightInto 15 (.aload_n 0) 1 16 := ⟨by decide +kernel, rfl⟩
theorem d_X12_straightInto_16 : DC mX12_straightInto 16 (.aload_n 0) 1 17 := ⟨by decide +kernel, rfl⟩
theorem d_X12_straightInto_17 : DC mX12_straightInto 17 (.getfield 102) 3 20 := ⟨by decide +kernel, rfl⟩
theorem d_X12_straightInto_20 : DC mX12_straightInto 20 (.putfield 187) 3 23 := ⟨by decide +kernel, rfl⟩
theorem d_X12_straightInto_23 : DC mX12_straightInto 23 (.aload_n 0) 1 24 := ⟨by decide +kernel, rfl⟩
theorem d_X12_straightInto_24 : DC mX12_straightInto 24 (.getfield 102) 3 27 := ⟨by decide +kernel, rfl⟩
theorem d_X12_straightInto_27 : DC mX12_straightInto 27 (.ifCond .ne 7) 3 30 := ⟨by decide +kernel, rfl⟩
theorem d_X12_straightInto_30 : DC mX12_straightInto 30 (.iconst 0) 1 31 := ⟨by decide +kernel, rfl⟩
theorem d_X12_straightInto_31 : DC mX12_straightInto 31 (.goto 11) 3 34 := ⟨by decide +kernel, rfl⟩
theorem d_X12_straightInto_34 : DC mX12_straightInto 34 (.aload_n 0) 1 35 := ⟨by decide +kernel, rfl⟩
theorem d_X12_straightInto_35 : DC mX12_straightInto 35 (.aload_n 0) 1 36 := ⟨by decide +kernel, rfl⟩
theorem d_X12_straightInto_36 : DC mX12_straightInto 36 (.getfield 102) 3 39 := ⟨by decide +kernel, rfl⟩
theorem d_X12_straightInto_39 : DC mX12_straightInto 39 (.invokevirtual 193) 3 42 := ⟨by decide +kernel, rfl⟩
theorem d_X12_straightInto_42 : DC mX12_straightInto 42 (.ireturn) 1 43 := ⟨by decide +kernel, rfl⟩
theorem d_X12_steps__0 : DC mX12_steps_ 0 (.aload_n 0) 1 1 := ⟨by decide +kernel, rfl⟩
theorem d_X12_steps__1 : DC mX12_steps_ 1 (.iconst 0) 1 2 := ⟨by decide +kernel, rfl⟩
theorem d_X12_steps__2 : DC mX12_steps_ 2 (.putfield 1) 3 5 := ⟨by decide +kernel, rfl⟩
theorem d_X12_steps__5 : DC mX12_steps_ 5 (.iload_n 1) 1 6 := ⟨by decide +kernel, rfl⟩
theorem d_X12_steps__6 : DC mX12_steps_ 6 (.invokestatic 199) 3 9 := ⟨by decide +kernel, rfl⟩
theorem d_X12_steps__9 : DC mX12_steps_ 9 (.ifCond .ne 10) 3 12 := ⟨by decide +kernel, rfl⟩
theorem d_X12_steps__12 : DC mX12_steps_ 12 (.aload_n 0) 1 13 := ⟨by decide +kernel, rfl⟩
theorem d_X12_steps__13 : DC mX12_steps_ 13 (.bipush (-2)) 2 15 := ⟨by decide +kernel, rfl⟩
theorem d_X12_steps__15 : DC mX12_steps_ 15 (.invokevirtual 218) 3 18 := ⟨by decide +kernel, rfl⟩
theorem d_X12_steps__18 : DC mX12_steps_ 18 (.ireturn) 1 19 := ⟨by decide +kernel, rfl⟩
theorem d_X12_steps__19 : DC mX12_steps_ 19 (.aload_n 0) 1 20 := ⟨by decide +kernel, rfl⟩
theorem d_X12_steps__20 : DC mX12_steps_ 20 (.invokevirtual 202) 3 23 := ⟨by decide +kernel, rfl⟩
theorem d_X12_steps__23 : DC mX12_steps_ 23 (.aload_n 0) 1 24 := ⟨by decide +kernel, rfl⟩
theorem d_X12_steps__24 : DC mX12_steps_ 24 (.iload_n 1) 1 25 := ⟨by decide +kernel, rfl⟩
theorem d_X12_steps__25 : DC mX12_steps_ 25 (.iconst 0) 1 26 := ⟨by decide +kernel, rfl⟩
theorem d_X12_steps__26 : DC mX12_steps_ 26 (.invokevirtual 349) 3 29 := ⟨by decide +kernel, rfl⟩
theorem d_X12_steps__29 : DC mX12_steps_ 29 (.istore_n 2) 1 30 := ⟨by decide +kernel, rfl⟩
theorem d_X12_steps__30 : DC mX12_steps_ 30 (.iload_n 2) 1 31 := ⟨by decide +kernel, rfl⟩
theorem d_X12_steps__31 : DC mX12_steps_ 31 (.ifCond .eq 7) 3 34 := ⟨by decide +kernel, rfl⟩
theorem d_X12_steps__34 : DC mX12_steps_ 34 (.iload_n 2) 1 35 := ⟨by decide +kernel, rfl⟩
theorem d_X12_steps__35 : DC mX12_steps_ 35 (.goto 7) 3 38 := ⟨by decide +kernel, rfl⟩
theorem d_X12_steps__38 : DC mX12_steps_ 38 (.aload_n 0) 1 39 := ⟨by decide +kernel, rfl⟩
theorem d_X12_steps__39 : DC mX12_steps_ 39 (.getfield 346) 3 42 := ⟨by decide +kernel, rfl⟩
theorem d_X12_steps__42 : DC mX12_steps_ 42 (.ireturn) 1 43 := ⟨by decide +kernel, rfl⟩
theorem d_X12_left_0 : DC mX12_left 0 (.aload_n 0) 1 1 := ⟨by decide +kernel, rfl⟩
theorem d_X12_left_1 : DC mX12_left 1 (.iconst 0) 1 2 := ⟨by decide +kernel, rfl⟩
theorem d_X12_left_2 : DC mX12_left 2 (.putfield 1) 3 5 := ⟨by decide +kernel, rfl⟩
theorem d_X12_left_5 : DC mX12_left 5 (.iload_n 1) 1 6 := ⟨by decide +kernel, rfl⟩
theorem d_X12_left_6 : DC mX12_left 6 (.invokestatic 199) 3 9 := ⟨by decide +kernel, rfl⟩
theorem d_X12_left_9 : DC mX12_left 9 (.ifCond .ne 10) 3 12 := ⟨by decide +kernel, rfl⟩
theorem d_X12_left_12 : DC mX12_left 12 (.aload_n 0) 1 13 := ⟨by decide +kernel, rfl⟩
theorem d_X12_left_13 : DC mX12_left 13 (.bipush (-2)) 2 15 := ⟨by decide +kernel, rfl⟩
theorem d_X12_left_15 : DC mX12_left 15 (.invokevirtual 218) 3 18 := ⟨by decide +kernel, rfl⟩
theorem d_X12_left_18 : DC mX12_left 18 (.ireturn) 1 19 := ⟨by decide +kernel, rfl⟩
theorem d_X12_left_19 : DC mX12_left 19 (.aload_n 0) 1 20 := ⟨by decide +kernel, rfl⟩
theorem d_X12_left_20 : DC mX12_left 20 (.invokevirtual 202) 3 23 := ⟨by decide +kernel, rfl⟩
theorem d_X12_left_23 : DC mX12_left 23 (.aload_n 0) 1 24 := ⟨by decide +kernel, rfl⟩
theorem d_X12_left_24 : DC mX12_left 24 (.iload_n 1) 1 25 := ⟨by decide +kernel, rfl⟩
theorem d_X12_left_25 : DC mX12_left 25 (.iconst 0) 1 26 := ⟨by decide +kernel, rfl⟩
theorem d_X12_left_26 : DC mX12_left 26 (.invokevirtual 349) 3 29 := ⟨by decide +kernel, rfl⟩
theorem d_X12_left_29 : DC mX12_left 29 (.istore_n 2) 1 30 := ⟨by decide +kernel, rfl⟩
theorem d_X12_left_30 : DC mX12_left 30 (.iload_n 2) 1 31 := ⟨by decide +kernel, rfl⟩
theorem d_X12_left_31 : DC mX12_left 31 (.ifCond .eq 7) 3 34 := ⟨by decide +kernel, rfl⟩
theorem d_X12_left_34 : DC mX12_left 34 (.iload_n 2) 1 35 := ⟨by decide +kernel, rfl⟩
theorem d_X12_left_35 : DC mX12_left 35 (.goto 8) 3 38 := ⟨by decide +kernel, rfl⟩
theorem d_X12_left_38 : DC mX12_left 38 (.aload_n 0) 1 39 := ⟨by decide +kernel, rfl⟩
theorem d_X12_left_39 : DC mX12_left 39 (.iconst 0) 1 40 := ⟨by decide +kernel, rfl⟩
theorem d_X12_left_40 : DC mX12_left 40 (.invokevirtual 113) 3 43 := ⟨by decide +kernel, rfl⟩
theorem d_X12_left_43 : DC mX12_left 43 (.ireturn) 1 44 := ⟨by decide +kernel, rfl⟩
theorem d_X12_equal_0 : DC mX12_equal 0 (.aload_n 0) 1 1 := ⟨by decide +kernel, rfl⟩
theorem d_X12_equal_1 : DC mX12_equal 1 (.iconst 0) 1 2 := ⟨by decide +kernel, rfl⟩
theorem d_X12_equal_2 : DC mX12_equal 2 (.putfield 1) 3 5 := ⟨by decide +kernel, rfl⟩
theorem d_X12_equal_5 : DC mX12_equal 5 (.iload_n 1) 1 6 := ⟨by decide +kernel, rfl⟩
theorem d_X12_equal_6 : DC mX12_equal 6 (.invokestatic 199) 3 9 := ⟨by decide +kernel, rfl⟩
theorem d_X12_equal_9 : DC mX12_equal 9 (.ifCond .eq 10) 3 12 := ⟨by decide +kernel, rfl⟩
theorem d_X12_equal_12 : DC mX12_equal 12 (.iload_n 2) 1 13 := ⟨by decide +kernel, rfl⟩
theorem d_X12_equal_13 : DC mX12_equal 13 (.invokestatic 199) 3 16 := ⟨by decide +kernel, rfl⟩
theorem d_X12_equal_16 : DC mX12_equal 16 (.ifCond .ne 10) 3 19 := ⟨by decide +kernel, rfl⟩
theorem d_X12_equal_19 : DC mX12_equal 19 (.aload_n 0) 1 20 := ⟨by decide +kernel, rfl⟩
theorem d_X12_equal_20 : DC mX12_equal 20 (.bipush (-2)) 2 22 := ⟨by decide +kernel, rfl⟩
theorem d_X12_equal_22 : DC mX12_equal 22 (.invokevirtual 218) 3 25 := ⟨by decide +kernel, rfl⟩
theorem d_X12_equal_25 : DC mX12_equal 25 (.ireturn) 1 26 := ⟨by decide +kernel, rfl⟩
theorem d_X12_equal_26 : DC mX12_equal 26 (.aload_n 0) 1 27 := ⟨by decide +kernel, rfl⟩
theorem d_X12_equal_27 : DC mX12_equal 27 (.invokevirtual 202) 3 30 := ⟨by decide +kernel, rfl⟩
theorem d_X12_equal_30 : DC mX12_equal 30 (.aload_n 0) 1 31 := ⟨by decide +kernel, rfl⟩
theorem d_X12_equal_31 : DC mX12_equal 31 (.iload_n 1) 1 32 := ⟨by decide +kernel, rfl⟩
theorem d_X12_equal_32 : DC mX12_equal 32 (.iconst 3) 1 33 := ⟨by decide +kernel, rfl⟩
theorem d_X12_equal_33 : DC mX12_equal 33 (.invokevirtual 349) 3 36 := ⟨by decide +kernel, rfl⟩
theorem d_X12_equal_36 : DC mX12_equal 36 (.istore_n 3) 1 37 := ⟨by decide +kernel, rfl⟩
theorem d_X12_equal_37 : DC mX12_equal 37 (.iload_n 3) 1 38 := ⟨by decide +kernel, rfl⟩
theorem d_X12_equal_38 : DC mX12_equal 38 (.ifCond .eq 5) 3 41 := ⟨by decide +kernel, rfl⟩
theorem d_X12_equal_41 : DC mX12_equal 41 (.iload_n 3) 1 42 := ⟨by decide +kernel, rfl⟩
theorem d_X12_equal_42 : DC mX12_equal 42 (.ireturn) 1 43 := ⟨by decide +kernel, rfl⟩
theorem d_X12_equal_43 : DC mX12_equal 43 (.aload_n 0) 1 44 := ⟨by decide +kernel, rfl⟩
theorem d_X12_equal_44 : DC mX12_equal 44 (.iload_n 2) 1 45 := ⟨by decide +kernel, rfl⟩
theorem d_X12_equal_45 : DC mX12_equal 45 (.iconst 4) 1 46 := ⟨by decide +kernel, rfl⟩
theorem d_X12_equal_46 : DC mX12_equal 46 (.invokevirtual 349) 3 49 := ⟨by decide +kernel, rfl⟩
theorem d_X12_equal_49 : DC mX12_equal 49 (.istore_n 3) 1 50 := ⟨by decide +kernel, rfl⟩
theorem d_X12_equal_50 : DC mX12_equal 50 (.iload_n 3) 1 51 := ⟨by decide +kernel, rfl⟩
theorem d_X12_equal_51 : DC mX12_equal 51 (.ifCond .eq 5) 3 54 := ⟨by decide +kernel, rfl⟩
theorem d_X12_equal_54 : DC mX12_equal 54 (.iload_n 3) 1 55 := ⟨by decide +kernel, rfl⟩
theorem d_X12_equal_55 : DC mX12_equal 55 (.ireturn) 1 56 := ⟨by decide +kernel, rfl⟩
theorem d_X12_equal_56 : DC mX12_equal 56 (.aload_n 0) 1 57 := ⟨by decide +kernel, rfl⟩
theorem d_X12_equal_57 : DC mX12_equal 57 (.iconst 3) 1 58 := ⟨by decide +kernel, rfl⟩
theorem d_X12_equal_58 : DC mX12_equal 58 (.iconst 4) 1 59 := ⟨by decide +kernel, rfl⟩
theorem d_X12_equal_59 : DC mX12_equal 59 (.invokevirtual 352) 3 62 := ⟨by decide +kernel, rfl⟩
theorem d_X12_equal_62 : DC mX12_equal 62 (.ifCond .eq 7) 3 65 := ⟨by decide +kernel, rfl⟩
theorem d_X12_equal_65 : DC mX12_equal 65 (.iconst 1) 1 66 := ⟨by decide +kernel, rfl⟩
theorem d_X12_equal_66 : DC mX12_equal 66 (.goto 4) 3 69 := ⟨by decide +kernel, rfl⟩
theorem d_X12_equal_69 : DC mX12_equal 69 (.iconst 0) 1 70 := ⟨by decide +kernel, rfl⟩
theorem d_X12_equal_70 : DC mX12_equal 70 (.ireturn) 1 71 := ⟨by decide +kernel, rfl⟩
theorem d_X12_counts_0 : DC mX12_counts 0 (.iconst 0) 1 1 := ⟨by decide +kernel, rfl⟩
theorem d_X12_counts_1 : DC mX12_counts 1 (.istore_n 3) 1 2 := ⟨by decide +kernel, rfl⟩
theorem d_X12_counts_2 : DC mX12_counts 2 (.iload_n 3) 1 3 := ⟨by decide +kernel, rfl⟩
theorem d_X12_counts_3 : DC mX12_counts 3 (.bipush 10) 2 5 := ⟨by decide +kernel, rfl⟩
theorem d_X12_counts_5 : DC mX12_counts 5 (.if_icmp .ge 26) 3 8 := ⟨by decide +kernel, rfl⟩
theorem d_X12_counts_8 : DC mX12_counts 8 (.aload_n 0) 1 9 := ⟨by decide +kernel, rfl⟩
theorem d_X12_counts_9 : DC mX12_counts 9 (.getfield 64) 3 12 := ⟨by decide +kernel, rfl⟩
theorem d_X12_counts_12 : DC mX12_counts 12 (.iload_n 3) 1 13 := ⟨by decide +kernel, rfl⟩
theorem d_X12_counts_13 : DC mX12_counts 13 (.dup2) 1 14 := ⟨by decide +kernel, rfl⟩
theorem d_X12_counts_14 : DC mX12_counts 14 (.iaload) 1 15 := ⟨by decide +kernel, rfl⟩
theorem d_X12_counts_15 : DC mX12_counts 15 (.iload_n 2) 1 16 := ⟨by decide +kernel, rfl⟩
theorem d_X12_counts_16 : DC mX12_counts 16 (.aload_n 0) 1 17 := ⟨by decide +kernel, rfl⟩
theorem d_X12_counts_17 : DC mX12_counts 17 (.iload_n 1) 1 18 := ⟨by decide +kernel, rfl⟩
theorem d_X12_counts_18 : DC mX12_counts 18 (.iload_n 3) 1 19 := ⟨by decide +kernel, rfl⟩
theorem d_X12_counts_19 : DC mX12_counts 19 (.invokevirtual 343) 3 22 := ⟨by decide +kernel, rfl⟩
theorem d_X12_counts_22 : DC mX12_counts 22 (.imul) 1 23 := ⟨by decide +kernel, rfl⟩
theorem d_X12_counts_23 : DC mX12_counts 23 (.iadd) 1 24 := ⟨by decide +kernel, rfl⟩
theorem d_X12_counts_24 : DC mX12_counts 24 (.iastore) 1 25 := ⟨by decide +kernel, rfl⟩
theorem d_X12_counts_25 : DC mX12_counts 25 (.iinc 3 1) 3 28 := ⟨by decide +kernel, rfl⟩
theorem d_X12_counts_28 : DC mX12_counts 28 (.goto (-26)) 3 31 := ⟨by decide +kernel, rfl⟩
theorem d_X12_counts_31 : DC mX12_counts 31 (.return_) 1 32 := ⟨by decide +kernel, rfl⟩
theorem d_X12_goesOn_0 : DC mX12_goesOn 0 (.iload_n 1) 1 1 := ⟨by decide +kernel, rfl⟩
theorem d_X12_goesOn_1 : DC mX12_goesOn 1 (.aload_n 0) 1 2 := ⟨by decide +kernel, rfl⟩
theorem d_X12_goesOn_2 : DC mX12_goesOn 2 (.getfield 355) 3 5 := ⟨by decide +kernel, rfl⟩
theorem d_X12_goesOn_5 : DC mX12_goesOn 5 (.if_icmp .ne 36) 3 8 := ⟨by decide +kernel, rfl⟩
theorem d_X12_goesOn_8 : DC mX12_goesOn 8 (.aload_n 0) 1 9 := ⟨by decide +kernel, rfl⟩
theorem d_X12_goesOn_9 : DC mX12_goesOn 9 (.dup) 1 10 := ⟨by decide +kernel, rfl⟩
theorem d_X12_goesOn_10 : DC mX12_goesOn 10 (.getfield 358) 3 13 := ⟨by decide +kernel, rfl⟩
theorem d_X12_goesOn_13 : DC mX12_goesOn 13 (.iconst 1) 1 14 := ⟨by decide +kernel, rfl⟩
theorem d_X12_goesOn_14 : DC mX12_goesOn 14 (.iadd) 1 15 := ⟨by decide +kernel, rfl⟩
theorem d_X12_goesOn_15 : DC mX12_goesOn 15 (.putfield 358) 3 18 := ⟨by decide +kernel, rfl⟩
theorem d_X12_goesOn_18 : DC mX12_goesOn 18 (.aload_n 0) 1 19 := ⟨by decide +kernel, rfl⟩
theorem d_X12_goesOn_19 : DC mX12_goesOn 19 (.dup) 1 20 := ⟨by decide +kernel, rfl⟩
theorem d_X12_goesOn_20 : DC mX12_goesOn 20 (.getfield 361) 3 23 := ⟨by decide +kernel, rfl⟩
theorem d_X12_goesOn_23 : DC mX12_goesOn 23 (.iconst 1) 1 24 := ⟨by decide +kernel, rfl⟩
theorem d_X12_goesOn_24 : DC mX12_goesOn 24 (.isub) 1 25 := ⟨by decide +kernel, rfl⟩
theorem d_X12_goesOn_25 : DC mX12_goesOn 25 (.putfield 361) 3 28 := ⟨by decide +kernel, rfl⟩
theorem d_X12_goesOn_28 : DC mX12_goesOn 28 (.aload_n 0) 1 29 := ⟨by decide +kernel, rfl⟩
theorem d_X12_goesOn_29 : DC mX12_goesOn 29 (.getfield 361) 3 32 := ⟨by decide +kernel, rfl⟩
theorem d_X12_goesOn_32 : DC mX12_goesOn 32 (.ifCond .ge 7) 3 35 := ⟨by decide +kernel, rfl⟩
theorem d_X12_goesOn_35 : DC mX12_goesOn 35 (.iconst 1) 1 36 := ⟨by decide +kernel, rfl⟩
theorem d_X12_goesOn_36 : DC mX12_goesOn 36 (.goto 4) 3 39 := ⟨by decide +kernel, rfl⟩
theorem d_X12_goesOn_39 : DC mX12_goesOn 39 (.iconst 0) 1 40 := ⟨by decide +kernel, rfl⟩
theorem d_X12_goesOn_40 : DC mX12_goesOn 40 (.ireturn) 1 41 := ⟨by decide +kernel, rfl⟩
theorem d_X12_goesOn_41 : DC mX12_goesOn 41 (.iload_n 1) 1 42 := ⟨by decide +kernel, rfl⟩
theorem d_X12_goesOn_42 : DC mX12_goesOn 42 (.ifCond .ne 7) 3 45 := ⟨by decide +kernel, rfl⟩
theorem d_X12_goesOn_45 : DC mX12_goesOn 45 (.iconst 1) 1 46 := ⟨by decide +kernel, rfl⟩
theorem d_X12_goesOn_46 : DC mX12_goesOn 46 (.goto 11) 3 49 := ⟨by decide +kernel, rfl⟩
theorem d_X12_goesOn_49 : DC mX12_goesOn 49 (.aload_n 0) 1 50 := ⟨by decide +kernel, rfl⟩
theorem d_X12_goesOn_50 : DC mX12_goesOn 50 (.getfield 67) 3 53 := ⟨by decide +kernel, rfl⟩
theorem d_X12_goesOn_53 : DC mX12_goesOn 53 (.iload_n 1) 1 54 := ⟨by decide +kernel, rfl⟩
theorem d_X12_goesOn_54 : DC mX12_goesOn 54 (.iconst 1) 1 55 := ⟨by decide +kernel, rfl⟩
theorem d_X12_goesOn_55 : DC mX12_goesOn 55 (.isub) 1 56 := ⟨by decide +kernel, rfl⟩
theorem d_X12_goesOn_56 : DC mX12_goesOn 56 (.iaload) 1 57 := ⟨by decide +kernel, rfl⟩
theorem d_X12_goesOn_57 : DC mX12_goesOn 57 (.istore_n 2) 1 58 := ⟨by decide +kernel, rfl⟩
theorem d_X12_goesOn_58 : DC mX12_goesOn 58 (.iload_n 2) 1 59 := ⟨by decide +kernel, rfl⟩
theorem d_X12_goesOn_59 : DC mX12_goesOn 59 (.bipush 120) 2 61 := ⟨by decide +kernel, rfl⟩
theorem d_X12_goesOn_61 : DC mX12_goesOn 61 (.if_icmp .gt 150) 3 64 := ⟨by decide +kernel, rfl⟩
theorem d_X12_goesOn_64 : DC mX12_goesOn 64 (.iload_n 1) 1 65 := ⟨by decide +kernel, rfl⟩
theorem d_X12_goesOn_65 : DC mX12_goesOn 65 (.ifCond .le 22) 3 68 := ⟨by decide +kernel, rfl⟩
theorem d_X12_goesOn_68 : DC mX12_goesOn 68 (.aload_n 0) 1 69 := ⟨by decide +kernel, rfl⟩
theorem d_X12_goesOn_69 : DC mX12_goesOn 69 (.aload_n 0) 1 70 := ⟨by decide +kernel, rfl⟩
theorem d_X12_goesOn_70 : DC mX12_goesOn 70 (.getfield 67) 3 73 := ⟨by decide +kernel, rfl⟩
theorem d_X12_goesOn_73 : DC mX12_goesOn 73 (.iload_n 1) 1 74 := ⟨by decide +kernel, rfl⟩
theorem d_X12_goesOn_74 : DC mX12_goesOn 74 (.iconst 1) 1 75 := ⟨by decide +kernel, rfl⟩
theorem d_X12_goesOn_75 : DC mX12_goesOn 75 (.isub) 1 76 := ⟨by decide +kernel, rfl⟩
theorem d_X12_goesOn_76 : DC mX12_goesOn 76 (.iaload) 1 77 := ⟨by decide +kernel, rfl⟩
theorem d_X12_goesOn_77 : DC mX12_goesOn 77 (.iload_n 2) 1 78 := ⟨by decide +kernel, rfl⟩
theorem d_X12_goesOn_78 : DC mX12_goesOn 78 (.invokevirtual 154) 3 81 := ⟨by decide +kernel, rfl⟩
theorem d_X12_goesOn_81 : DC mX12_goesOn 81 (.ifCond .eq 6) 3 84 := ⟨by decide +kernel, rfl⟩
theorem d_X12_goesOn_84 : DC mX12_goesOn 84 (.goto 121) 3 87 := ⟨by decide +kernel, rfl⟩
theorem d_X12_goesOn_87 : DC mX12_goesOn 87 (.aload_n 0) 1 88 := ⟨by decide +kernel, rfl⟩
theorem d_X12_goesOn_88 : DC mX12_goesOn 88 (.getfield 64) 3 91 := ⟨by decide +kernel, rfl⟩
theorem d_X12_goesOn_91 : DC mX12_goesOn 91 (.aload_n 0) 1 92 := ⟨by decide +kernel, rfl⟩
theorem d_X12_goesOn_92 : DC mX12_goesOn 92 (.getfield 17) 3 95 := ⟨by decide +kernel, rfl⟩
theorem d_X12_goesOn_95 : DC mX12_goesOn 95 (.iconst 3) 1 96 := ⟨by decide +kernel, rfl⟩
theorem d_X12_goesOn_96 : DC mX12_goesOn 96 (.iload_n 2) 1 97 := ⟨by decide +kernel, rfl⟩
theorem d_X12_goesOn_97 : DC mX12_goesOn 97 (.imul) 1 98 := ⟨by decide +kernel, rfl⟩
theorem d_X12_goesOn_98 : DC mX12_goesOn 98 (.iaload) 1 99 := ⟨by decide +kernel, rfl⟩
theorem d_X12_goesOn_99 : DC mX12_goesOn 99 (.iaload) 1 100 := ⟨by decide +kernel, rfl⟩
theorem d_X12_goesOn_100 : DC mX12_goesOn 100 (.ifCond .le 43) 3 103 := ⟨by decide +kernel, rfl⟩
theorem d_X12_goesOn_103 : DC mX12_goesOn 103 (.aload_n 0) 1 104 := ⟨by decide +kernel, rfl⟩
theorem d_X12_goesOn_104 : DC mX12_goesOn 104 (.getfield 64) 3 107 := ⟨by decide +kernel, rfl⟩
theorem d_X12_goesOn_107 : DC mX12_goesOn 107 (.aload_n 0) 1 108 := ⟨by decide +kernel, rfl⟩
theorem d_X12_goesOn_108 : DC mX12_goesOn 108 (.getfield 17) 3 111 := ⟨by decide +kernel, rfl⟩
theorem d_X12_goesOn_111 : DC mX12_goesOn 111 (.iconst 3) 1 112 := ⟨by decide +kernel, rfl⟩
theorem d_X12_goesOn_112 : DC mX12_goesOn 112 (.iload_n 2) 1 113 := ⟨by decide +kernel, rfl⟩
theorem d_X12_goesOn_113 : DC mX12_goesOn 113 (.imul) 1 114 := ⟨by decide +kernel, rfl⟩
theorem d_X12_goesOn_114 : DC mX12_goesOn 114 (.iconst 1) 1 115 := ⟨by decide +kernel, rfl⟩
theorem d_X12_goesOn_115 : DC mX12_goesOn 115 (.iadd) 1 116 := ⟨by decide +kernel, rfl⟩
theorem d_X12_goesOn_116 : DC mX12_goesOn 116 (.iaload) 1 117 := ⟨by decide +kernel, rfl⟩
theorem d_X12_goesOn_117 : DC mX12_goesOn 117 (.iaload) 1 118 := ⟨by decide +kernel, rfl⟩
theorem d_X12_goesOn_118 : DC mX12_goesOn 118 (.ifCond .le 25) 3 121 := ⟨by decide +kernel, rfl⟩
theorem d_X12_goesOn_121 : DC mX12_goesOn 121 (.aload_n 0) 1 122 := ⟨by decide +kernel, rfl⟩
theorem d_X12_goesOn_122 : DC mX12_goesOn 122 (.getfield 64) 3 125 := ⟨by decide +kernel, rfl⟩
theorem d_X12_goesOn_125 : DC mX12_goesOn 125 (.aload_n 0) 1 126 := ⟨by decide +kernel, rfl⟩
theorem d_X12_goesOn_126 : DC mX12_goesOn 126 (.getfield 17) 3 129 := ⟨by decide +kernel, rfl⟩
theorem d_X12_goesOn_129 : DC mX12_goesOn 129 (.iconst 3) 1 130 := ⟨by decide +kernel, rfl⟩
theorem d_X12_goesOn_130 : DC mX12_goesOn 130 (.iload_n 2) 1 131 := ⟨by decide +kernel, rfl⟩
theorem d_X12_goesOn_131 : DC mX12_goesOn 131 (.imul) 1 132 := ⟨by decide +kernel, rfl⟩
theorem d_X12_goesOn_132 : DC mX12_goesOn 132 (.iconst 2) 1 133 := ⟨by decide +kernel, rfl⟩
theorem d_X12_goesOn_133 : DC mX12_goesOn 133 (.iadd) 1 134 := ⟨by decide +kernel, rfl⟩
theorem d_X12_goesOn_134 : DC mX12_goesOn 134 (.iaload) 1 135 := ⟨by decide +kernel, rfl⟩
theorem d_X12_goesOn_135 : DC mX12_goesOn 135 (.iaload) 1 136 := ⟨by decide +kernel, rfl⟩
theorem d_X12_goesOn_136 : DC mX12_goesOn 136 (.ifCond .le 7) 3 139 := ⟨by decide +kernel, rfl⟩
theorem d_X12_goesOn_139 : DC mX12_goesOn 139 (.iconst 1) 1 140 := ⟨by decide +kernel, rfl⟩
theorem d_X12_goesOn_140 : DC mX12_goesOn 140 (.goto 4) 3 143 := ⟨by decide +kernel, rfl⟩
theorem d_X12_goesOn_143 : DC mX12_goesOn 143 (.iconst 0) 1 144 := ⟨by decide +kernel, rfl⟩
theorem d_X12_goesOn_144 : DC mX12_goesOn 144 (.istore_n 3) 1 145 := ⟨by decide +kernel, rfl⟩
theorem d_X12_goesOn_145 : DC mX12_goesOn 145 (.iload_n 3) 1 146 := ⟨by decide +kernel, rfl⟩
theorem d_X12_goesOn_146 : DC mX12_goesOn 146 (.ifCond .ne 6) 3 149 := ⟨by decide +kernel, rfl⟩
theorem d_X12_goesOn_149 : DC mX12_goesOn 149 (.goto 56) 3 152 := ⟨by decide +kernel, rfl⟩
theorem d_X12_goesOn_152 : DC mX12_goesOn 152 (.aload_n 0) 1 153 := ⟨by decide +kernel, rfl⟩
theorem d_X12_goesOn_153 : DC mX12_goesOn 153 (.getfield 67) 3 156 := ⟨by decide +kernel, rfl⟩
theorem d_X12_goesOn_156 : DC mX12_goesOn 156 (.iload_n 1) 1 157 := ⟨by decide +kernel, rfl⟩
theorem d_X12_goesOn_157 : DC mX12_goesOn 157 (.iload_n 2) 1 158 := ⟨by decide +kernel, rfl⟩
theorem d_X12_goesOn_158 : DC mX12_goesOn 158 (.iastore) 1 159 := ⟨by decide +kernel, rfl⟩
theorem d_X12_goesOn_159 : DC mX12_goesOn 159 (.aload_n 0) 1 160 := ⟨by decide +kernel, rfl⟩
theorem d_X12_goesOn_160 : DC mX12_goesOn 160 (.iload_n 2) 1 161 := ⟨by decide +kernel, rfl⟩
theorem d_X12_goesOn_161 : DC mX12_goesOn 161 (.bipush 121) 2 163 := ⟨by decide +kernel, rfl⟩
theorem d_X12_goesOn_163 : DC mX12_goesOn 163 (.imul) 1 164 := ⟨by decide +kernel, rfl⟩
theorem d_X12_goesOn_164 : DC mX12_goesOn 164 (.bipush 121) 2 166 := ⟨by decide +kernel, rfl⟩
theorem d_X12_goesOn_166 : DC mX12_goesOn 166 (.imul) 1 167 := ⟨by decide +kernel, rfl⟩
theorem d_X12_goesOn_167 : DC mX12_goesOn 167 (.bipush 121) 2 169 := ⟨by decide +kernel, rfl⟩
theorem d_X12_goesOn_169 : DC mX12_goesOn 169 (.imul) 1 170 := ⟨by decide +kernel, rfl⟩
theorem d_X12_goesOn_170 : DC mX12_goesOn 170 (.iconst (-1)) 1 171 := ⟨by decide +kernel, rfl⟩
theorem d_X12_goesOn_171 : DC mX12_goesOn 171 (.invokevirtual 364) 3 174 := ⟨by decide +kernel, rfl⟩
theorem d_X12_goesOn_174 : DC mX12_goesOn 174 (.aload_n 0) 1 175 := ⟨by decide +kernel, rfl⟩
theorem d_X12_goesOn_175 : DC mX12_goesOn 175 (.iload_n 1) 1 176 := ⟨by decide +kernel, rfl⟩
theorem d_X12_goesOn_176 : DC mX12_goesOn 176 (.iconst 1) 1 177 := ⟨by decide +kernel, rfl⟩
theorem d_X12_goesOn_177 : DC mX12_goesOn 177 (.iadd) 1 178 := ⟨by decide +kernel, rfl⟩
theorem d_X12_goesOn_178 : DC mX12_goesOn 178 (.invokevirtual 366) 3 181 := ⟨by decide +kernel, rfl⟩
theorem d_X12_goesOn_181 : DC mX12_goesOn 181 (.istore 4) 2 183 := ⟨by decide +kernel, rfl⟩
theorem d_X12_goesOn_183 : DC mX12_goesOn 183 (.aload_n 0) 1 184 := ⟨by decide +kernel, rfl⟩
theorem d_X12_goesOn_184 : DC mX12_goesOn 184 (.iload_n 2) 1 185 := ⟨by decide +kernel, rfl⟩
theorem d_X12_goesOn_185 : DC mX12_goesOn 185 (.bipush 121) 2 187 := ⟨by decide +kernel, rfl⟩
theorem d_X12_goesOn_187 : DC mX12_goesOn 187 (.imul) 1 188 := ⟨by decide +kernel, rfl⟩
theorem d_X12_goesOn_188 : DC mX12_goesOn 188 (.bipush 121) 2 190 := ⟨by decide +kernel, rfl⟩
theorem d_X12_goesOn_190 : DC mX12_goesOn 190 (.imul) 1 191 := ⟨by decide +kernel, rfl⟩
theorem d_X12_goesOn_191 : DC mX12_goesOn 191 (.bipush 121) 2 193 := ⟨by decide +kernel, rfl⟩
theorem d_X12_goesOn_193 : DC mX12_goesOn 193 (.imul) 1 194 := ⟨by decide +kernel, rfl⟩
theorem d_X12_goesOn_194 : DC mX12_goesOn 194 (.iconst 1) 1 195 := ⟨by decide +kernel, rfl⟩
theorem d_X12_goesOn_195 : DC mX12_goesOn 195 (.invokevirtual 364) 3 198 := ⟨by decide +kernel, rfl⟩
theorem d_X12_goesOn_198 : DC mX12_goesOn 198 (.iload 4) 2 200 := ⟨by decide +kernel, rfl⟩
theorem d_X12_goesOn_200 : DC mX12_goesOn 200 (.ifCond .eq 5) 3 203 := ⟨by decide +kernel, rfl⟩
theorem d_X12_goesOn_203 : DC mX12_goesOn 203 (.iconst 1) 1 204 := ⟨by decide +kernel, rfl⟩
theorem d_X12_goesOn_204 : DC mX12_goesOn 204 (.ireturn) 1 205 := ⟨by decide +kernel, rfl⟩
theorem d_X12_goesOn_205 : DC mX12_goesOn 205 (.iinc 2 1) 3 208 := ⟨by decide +kernel, rfl⟩
theorem d_X12_goesOn_208 : DC mX12_goesOn 208 (.goto (-150)) 3 211 := ⟨by decide +kernel, rfl⟩
theorem d_X12_goesOn_211 : DC mX12_goesOn 211 (.iconst 0) 1 212 := ⟨by decide +kernel, rfl⟩
theorem d_X12_goesOn_212 : DC mX12_goesOn 212 (.ireturn) 1 213 := ⟨by decide +kernel, rfl⟩
theorem d_X12_laysForms_0 : DC mX12_laysForms 0 (.iconst 0) 1 1 := ⟨by decide +kernel, rfl⟩
theorem d_X12_laysForms_1 : DC mX12_laysForms 1 (.istore_n 3) 1 2 := ⟨by decide +kernel, rfl⟩
theorem d_X12_laysForms_2 : DC mX12_laysForms 2 (.iload_n 3) 1 3 := ⟨by decide +kernel, rfl⟩
theorem d_X12_laysForms_3 : DC mX12_laysForms 3 (.bipush 10) 2 5 := ⟨by decide +kernel, rfl⟩
theorem d_X12_laysForms_5 : DC mX12_laysForms 5 (.if_icmp .ge 16) 3 8 := ⟨by decide +kernel, rfl⟩
theorem d_X12_laysForms_8 : DC mX12_laysForms 8 (.aload_n 0) 1 9 := ⟨by decide +kernel, rfl⟩
theorem d_X12_laysForms_9 : DC mX12_laysForms 9 (.getfield 64) 3 12 := ⟨by decide +kernel, rfl⟩
theorem d_X12_laysForms_12 : DC mX12_laysForms 12 (.iload_n 3) 1 13 := ⟨by decide +kernel, rfl⟩
theorem d_X12_laysForms_13 : DC mX12_laysForms 13 (.iconst 0) 1 14 := ⟨by decide +kernel, rfl⟩
theorem d_X12_laysForms_14 : DC mX12_laysForms 14 (.iastore) 1 15 := ⟨by decide +kernel, rfl⟩
theorem d_X12_laysForms_15 : DC mX12_laysForms 15 (.iinc 3 1) 3 18 := ⟨by decide +kernel, rfl⟩
theorem d_X12_laysForms_18 : DC mX12_laysForms 18 (.goto (-16)) 3 21 := ⟨by decide +kernel, rfl⟩
theorem d_X12_laysForms_21 : DC mX12_laysForms 21 (.aload_n 0) 1 22 := ⟨by decide +kernel, rfl⟩
theorem d_X12_laysForms_22 : DC mX12_laysForms 22 (.getfield 20) 3 25 := ⟨by decide +kernel, rfl⟩
theorem d_X12_laysForms_25 : DC mX12_laysForms 25 (.iload_n 1) 1 26 := ⟨by decide +kernel, rfl⟩
theorem d_X12_laysForms_26 : DC mX12_laysForms 26 (.iconst 0) 1 27 := ⟨by decide +kernel, rfl⟩
theorem d_X12_laysForms_27 : DC mX12_laysForms 27 (.invokestatic 339) 3 30 := ⟨by decide +kernel, rfl⟩
theorem d_X12_laysForms_30 : DC mX12_laysForms 30 (.istore_n 3) 1 31 := ⟨by decide +kernel, rfl⟩
theorem d_X12_laysForms_31 : DC mX12_laysForms 31 (.aload_n 0) 1 32 := ⟨by decide +kernel, rfl⟩
theorem d_X12_laysForms_32 : DC mX12_laysForms 32 (.iload_n 3) 1 33 := ⟨by decide +kernel, rfl⟩
theorem d_X12_laysForms_33 : DC mX12_laysForms 33 (.iconst 1) 1 34 := ⟨by decide +kernel, rfl⟩
theorem d_X12_laysForms_34 : DC mX12_laysForms 34 (.invokevirtual 364) 3 37 := ⟨by decide +kernel, rfl⟩
theorem d_X12_laysForms_37 : DC mX12_laysForms 37 (.aload_n 0) 1 38 := ⟨by decide +kernel, rfl⟩
theorem d_X12_laysForms_38 : DC mX12_laysForms 38 (.iload_n 3) 1 39 := ⟨by decide +kernel, rfl⟩
theorem d_X12_laysForms_39 : DC mX12_laysForms 39 (.invokestatic 138) 3 42 := ⟨by decide +kernel, rfl⟩
theorem d_X12_laysForms_42 : DC mX12_laysForms 42 (.putfield 355) 3 45 := ⟨by decide +kernel, rfl⟩
theorem d_X12_laysForms_45 : DC mX12_laysForms 45 (.aload_n 0) 1 46 := ⟨by decide +kernel, rfl⟩
theorem d_X12_laysForms_46 : DC mX12_laysForms 46 (.iload_n 2) 1 47 := ⟨by decide +kernel, rfl⟩
theorem d_X12_laysForms_47 : DC mX12_laysForms 47 (.putfield 361) 3 50 := ⟨by decide +kernel, rfl⟩
theorem d_X12_laysForms_50 : DC mX12_laysForms 50 (.aload_n 0) 1 51 := ⟨by decide +kernel, rfl⟩
theorem d_X12_laysForms_51 : DC mX12_laysForms 51 (.iconst 0) 1 52 := ⟨by decide +kernel, rfl⟩
theorem d_X12_laysForms_52 : DC mX12_laysForms 52 (.putfield 358) 3 55 := ⟨by decide +kernel, rfl⟩
theorem d_X12_laysForms_55 : DC mX12_laysForms 55 (.aload_n 0) 1 56 := ⟨by decide +kernel, rfl⟩
theorem d_X12_laysForms_56 : DC mX12_laysForms 56 (.iconst 0) 1 57 := ⟨by decide +kernel, rfl⟩
theorem d_X12_laysForms_57 : DC mX12_laysForms 57 (.invokevirtual 366) 3 60 := ⟨by decide +kernel, rfl⟩
theorem d_X12_laysForms_60 : DC mX12_laysForms 60 (.ireturn) 1 61 := ⟨by decide +kernel, rfl⟩
theorem v_X12_opensText_0 {l : Launch} {d N : Nat} {Λ : Lay} {P : Int → Mem → Prop} {σ : Mem} {x1 x2 t : Int} (o_t : Ob N Λ t 21 36) (h0d : 1 ≤ d)
    (h : (CI l mX12_isShelf (d - 1) [(0, x1)] N Λ σ (fun v2 σ1 => ((¬ v2 = 0 → (CI l mX12_within (d - 1) [(1, x2), (1, 0), (1, (σ1 t 19))] N Λ σ1 (fun v4 σ3 => ((¬ v4 = 0 → (∀ τ5, τ5 = st σ3 t 19 0 → (∀ τ6, τ6 = st τ5 t 20 x2 → (∀ τ7, τ7 = st τ6 t 21 0 → (∀ τ8, τ8 = st τ7 t 22 0 → (∀ τ9, τ9 = st τ8 t 23 (-1) → P 0 τ9)))))) ∧ (v4 = 0 → (CI l mX12_refused (d - 1) [(2, t), (0, (-3))] N Λ σ3 (fun v11 σ10 => P v11 σ10))))))) ∧ (v2 = 0 → (CI l mX12_refused (d - 1) [(2, t), (0, (-2))] N Λ σ1 (fun v13 σ12 => P v13 σ12))))))) :
    WI l mX12_opensText d P 0 [(2, t), (0, x1), (0, x2)] [] N Λ σ := by
  refine r_iload_n (x := x1) d_X12_opensText_0 rfl ?_
  refine r_callS (Y2 := mX12_isShelf) (d := d - 1) (mc := 0) (ms := 0) (As := [(0, x1)]) (S := []) d_X12_opensText_1 ok_mX12_isShelf ml_X12_199 rfl (rmc h0d (by decide)) rm00 (Nat.le_of_ble_eq_true rfl) rfl (MC.mono h (fun r N1 Λ1 σ1 hq => ?_))
  obtain ⟨v2, rfl, rfl, rfl, h⟩ := hq
  refine r_if_ne (tgt := 14) d_X12_opensText_4 rfl (fun hc => ?_) (fun hc => ?_)
  · have h := h.1 hc
    refine r_iload_n (x := x2) d_X12_opensText_14 rfl ?_
    refine r_i2l d_X12_opensText_15 ?_
    refine r_lconst d_X12_opensText_16 ?_
    skip
    refine r_aload_n (x := t) d_X12_opensText_17 rfl o_t.1 ?_
    refine r_getf (j := 19) (t := 0) (x := (σ1 t 19)) d_X12_opensText_18 kX12 (by decide) fl_X12_252 o_t.1 o_t.2.1 o_t.2.2.1 o_t.2.2.2 rfl rfl ?_
    refine r_i2l d_X12_opensText_21 ?_
    refine r_callS (Y2 := mX12_within) (d := d - 1) (mc := 0) (ms := 0) (As := [(1, x2), (1, 0), (1, (σ1 t 19))]) (S := []) d_X12_opensText_22 ok_mX12_within ml_X12_91 rfl (rmc h0d (by decide)) rm00 (Nat.le_of_ble_eq_true rfl) rfl (MC.mono h (fun r N1 Λ1 σ3 hq => ?_))
    obtain ⟨v4, rfl, rfl, rfl, h⟩ := hq
    refine r_if_ne (tgt := 35) d_X12_opensText_25 rfl (fun hc => ?_) (fun hc => ?_)
    · have h := h.1 hc
      refine r_aload_n (x := t) d_X12_opensText_35 rfl o_t.1 ?_
      refine r_iconst (x := 0) d_X12_opensText_36 ⟨by decide, by decide⟩ ?_
      refine r_putI (j := 19) d_X12_opensText_37 kX12 (by decide) fl_X12_252 rfl o_t.1 o_t.2.1 o_t.2.2.1 o_t.2.2.2 rfl ?_
      refine r_nmM (fun τ5 eτ5 => ?_)
      have h := h τ5 eτ5
      refine r_aload_n (x := t) d_X12_opensText_40 rfl o_t.1 ?_
      refine r_iload_n (x := x2) d_X12_opensText_41 rfl ?_
      refine r_putI (j := 20) d_X12_opensText_42 kX12 (by decide) fl_X12_258 rfl o_t.1 o_t.2.1 o_t.2.2.1 o_t.2.2.2 rfl ?_
      refine r_nmM (fun τ6 eτ6 => ?_)
      have h := h τ6 eτ6
      refine r_aload_n (x := t) d_X12_opensText_45 rfl o_t.1 ?_
      refine r_iconst (x := 0) d_X12_opensText_46 ⟨by decide, by decide⟩ ?_
      refine r_putI (j := 21) d_X12_opensText_47 kX12 (by decide) fl_X12_255 rfl o_t.1 o_t.2.1 o_t.2.2.1 o_t.2.2.2 rfl ?_
      refine r_nmM (fun τ7 eτ7 => ?_)
      have h := h τ7 eτ7
      refine r_aload_n (x := t) d_X12_opensText_50 rfl o_t.1 ?_
      refine r_iconst (x := 0) d_X12_opensText_51 ⟨by decide, by decide⟩ ?_
      refine r_putI (j := 22) d_X12_opensText_52 kX12 (by decide) fl_X12_261 rfl o_t.1 o_t.2.1 o_t.2.2.1 o_t.2.2.2 rfl ?_
      refine r_nmM (fun τ8 eτ8 => ?_)
      have h := h τ8 eτ8
      refine r_aload_n (x := t) d_X12_opensText_55 rfl o_t.1 ?_
      refine r_iconst (x := (-1)) d_X12_opensText_56 ⟨by decide, by decide⟩ ?_
      refine r_putI (j := 23) d_X12_opensText_57 kX12 (by decide) fl_X12_61 rfl o_t.1 o_t.2.1 o_t.2.2.1 o_t.2.2.2 rfl ?_
      refine r_nmM (fun τ9 eτ9 => ?_)
      have h := h τ9 eτ9
      refine r_iconst (x := 0) d_X12_opensText_60 ⟨by decide, by decide⟩ ?_
      exact r_iret d_X12_opensText_61 rfl rfl (Nat.le_refl 0) (Nat.le_refl 0) ⟨_, rfl, rfl, rfl, h⟩
    · have h := h.2 hc
      refine r_aload_n (x := t) d_X12_opensText_28 rfl o_t.1 ?_
      refine r_bipush (x := (-3)) d_X12_opensText_29 ⟨by decide, by decide⟩ (by decide) ?_
      refine r_callV (Y2 := mX12_refused) (d := d - 1) (mc := 0) (ms := 0) (c := t) (As := [(0, (-3))]) (S := []) d_X12_opensText_31 ok_mX12_refused ml_X12_218 rfl (rmc h0d (by decide)) rm00 (Nat.le_of_ble_eq_true rfl) rfl kX12 o_t.1 o_t.2.1 o_t.2.2.1 o_t.2.2.2 (MC.mono h (fun r N1 Λ1 σ10 hq => ?_))
      obtain ⟨v11, rfl, rfl, rfl, h⟩ := hq
      exact r_iret d_X12_opensText_34 rfl rfl (Nat.le_refl 0) (Nat.le_refl 0) ⟨_, rfl, rfl, rfl, h⟩
  · have h := h.2 hc
    refine r_aload_n (x := t) d_X12_opensText_7 rfl o_t.1 ?_
    refine r_bipush (x := (-2)) d_X12_opensText_8 ⟨by decide, by decide⟩ (by decide) ?_
    refine r_callV (Y2 := mX12_refused) (d := d - 1) (mc := 0) (ms := 0) (c := t) (As := [(0, (-2))]) (S := []) d_X12_opensText_10 ok_mX12_refused ml_X12_218 rfl (rmc h0d (by decide)) rm00 (Nat.le_of_ble_eq_true rfl) rfl kX12 o_t.1 o_t.2.1 o_t.2.2.1 o_t.2.2.2 (MC.mono h (fun r N1 Λ1 σ12 hq => ?_))
    obtain ⟨v13, rfl, rfl, rfl, h⟩ := hq
    exact r_iret d_X12_opensText_13 rfl rfl (Nat.le_refl 0) (Nat.le_refl 0) ⟨_, rfl, rfl, rfl, h⟩
theorem v_X12_told_0 {l : Launch} {d N : Nat} {Λ : Lay} {P : Int → Mem → Prop} {σ : Mem} {x1 x2 t : Int} (o_t : Ob N Λ t 21 36) (h0d : 1 ≤ d)
    (h : (∀ τ1, τ1 = st σ t 0 0 → (CI l mX12_opensText (d - 1) [(2, t), (0, x1), (0, x2)] N Λ τ1 (fun v3 σ2 => ((v3 = 0 → (CV l mX12_polynomial (d - 1) [(2, t), (0, 0)] N Λ σ2 (fun σ4 => (((σ4 t 22) = 0 → (CV l mX12_begins (d - 1) [(2, t)] N Λ σ4 (fun σ5 => (CV l mX12_polynomial (d - 1) [(2, t), (0, 1)] N Λ σ5 (fun σ6 => (CI l mX12_ends (d - 1) [(2, t), (0, x1)] N Λ σ6 (fun v8 σ7 => P v8 σ7))))))) ∧ (¬ ((σ4 t 22) = 0) → (CI l mX12_refused (d - 1) [(2, t), (0, (subI (-30) (σ4 t 22)))] N Λ σ4 (fun v10 σ9 => P v10 σ9))))))) ∧ (¬ (v3 = 0) → P v3 σ2)))))) :
    WI l mX12_told d P 0 [(2, t), (0, x1), (0, x2), (3, 0)] [] N Λ σ := by
  refine r_aload_n (x := t) d_X12_told_0 rfl o_t.1 ?_
  refine r_iconst (x := 0) d_X12_told_1 ⟨by decide, by decide⟩ ?_
  refine r_putI (j := 0) d_X12_told_2 kX12 (by decide) fl_X12_1 rfl o_t.1 o_t.2.1 o_t.2.2.1 o_t.2.2.2 rfl ?_
  refine r_nmM (fun τ1 eτ1 => ?_)
  have h := h τ1 eτ1
  refine r_aload_n (x := t) d_X12_told_5 rfl o_t.1 ?_
  refine r_iload_n (x := x1) d_X12_told_6 rfl ?_
  refine r_iload_n (x := x2) d_X12_told_7 rfl ?_
  refine r_callV (Y2 := mX12_opensText) (d := d - 1) (mc := 0) (ms := 0) (c := t) (As := [(0, x1), (0, x2)]) (S := []) d_X12_told_8 ok_mX12_opensText ml_X12_297 rfl (rmc h0d (by decide)) rm00 (Nat.le_of_ble_eq_true rfl) rfl kX12 o_t.1 o_t.2.1 o_t.2.2.1 o_t.2.2.2 (MC.mono h (fun r N1 Λ1 σ2 hq => ?_))
  obtain ⟨v3, rfl, rfl, rfl, h⟩ := hq
  refine r_istore_n (L2 := [(2, t), (0, x1), (0, x2), (0, v3)]) d_X12_told_11 (by decide) rfl rfl ?_
  refine r_iload_n (x := v3) d_X12_told_12 rfl ?_
  refine r_if_eq (tgt := 18) d_X12_told_13 rfl (fun hc => ?_) (fun hc => ?_)
  · have h := h.1 hc
    refine r_aload_n (x := t) d_X12_told_18 rfl o_t.1 ?_
    refine r_iconst (x := 0) d_X12_told_19 ⟨by decide, by decide⟩ ?_
    refine r_callV (Y2 := mX12_polynomial) (d := d - 1) (mc := 0) (ms := 0) (c := t) (As := [(0, 0)]) (S := []) d_X12_told_20 ok_mX12_polynomial ml_X12_300 rfl (rmc h0d (by decide)) rm00 (Nat.le_of_ble_eq_true rfl) rfl kX12 o_t.1 o_t.2.1 o_t.2.2.1 o_t.2.2.2 (MC.mono h (fun r N1 Λ1 σ4 hq => ?_))
    obtain ⟨rfl, rfl, rfl, h⟩ := hq
    refine r_aload_n (x := t) d_X12_told_23 rfl o_t.1 ?_
    refine r_getf (j := 22) (t := 0) (x := (σ4 t 22)) d_X12_told_24 kX12 (by decide) fl_X12_261 o_t.1 o_t.2.1 o_t.2.2.1 o_t.2.2.2 rfl rfl ?_
    refine r_if_eq (tgt := 42) d_X12_told_27 rfl (fun hc => ?_) (fun hc => ?_)
    · have h := h.1 hc
      refine r_aload_n (x := t) d_X12_told_42 rfl o_t.1 ?_
      refine r_callV (Y2 := mX12_begins) (d := d - 1) (mc := 0) (ms := 0) (c := t) (As := []) (S := []) d_X12_told_43 ok_mX12_begins ml_X12_202 rfl (rmc h0d (by decide)) rm00 (Nat.le_of_ble_eq_true rfl) rfl kX12 o_t.1 o_t.2.1 o_t.2.2.1 o_t.2.2.2 (MC.mono h (fun r N1 Λ1 σ5 hq => ?_))
      obtain ⟨rfl, rfl, rfl, h⟩ := hq
      refine r_aload_n (x := t) d_X12_told_46 rfl o_t.1 ?_
      refine r_iconst (x := 1) d_X12_told_47 ⟨by decide, by decide⟩ ?_
      refine r_callV (Y2 := mX12_polynomial) (d := d - 1) (mc := 0) (ms := 0) (c := t) (As := [(0, 1)]) (S := []) d_X12_told_48 ok_mX12_polynomial ml_X12_300 rfl (rmc h0d (by decide)) rm00 (Nat.le_of_ble_eq_true rfl) rfl kX12 o_t.1 o_t.2.1 o_t.2.2.1 o_t.2.2.2 (MC.mono h (fun r N1 Λ1 σ6 hq => ?_))
      obtain ⟨rfl, rfl, rfl, h⟩ := hq
      refine r_aload_n (x := t) d_X12_told_51 rfl o_t.1 ?_
      refine r_iload_n (x := x1) d_X12_told_52 rfl ?_
      refine r_callV (Y2 := mX12_ends) (d := d - 1) (mc := 0) (ms := 0) (c := t) (As := [(0, x1)]) (S := []) d_X12_told_53 ok_mX12_ends ml_X12_228 rfl (rmc h0d (by decide)) rm00 (Nat.le_of_ble_eq_true rfl) rfl kX12 o_t.1 o_t.2.1 o_t.2.2.1 o_t.2.2.2 (MC.mono h (fun r N1 Λ1 σ7 hq => ?_))
      obtain ⟨v8, rfl, rfl, rfl, h⟩ := hq
      exact r_iret d_X12_told_56 rfl rfl (Nat.le_refl 0) (Nat.le_refl 0) ⟨_, rfl, rfl, rfl, h⟩
    · have h := h.2 hc
      refine r_aload_n (x := t) d_X12_told_30 rfl o_t.1 ?_
      refine r_bipush (x := (-30)) d_X12_told_31 ⟨by decide, by decide⟩ (by decide) ?_
      refine r_aload_n (x := t) d_X12_told_33 rfl o_t.1 ?_
      refine r_getf (j := 22) (t := 0) (x := (σ4 t 22)) d_X12_told_34 kX12 (by decide) fl_X12_261 o_t.1 o_t.2.1 o_t.2.2.1 o_t.2.2.2 rfl rfl ?_
      refine r_isub d_X12_told_37 ?_
      refine r_callV (Y2 := mX12_refused) (d := d - 1) (mc := 0) (ms := 0) (c := t) (As := [(0, (subI (-30) (σ4 t 22)))]) (S := []) d_X12_told_38 ok_mX12_refused ml_X12_218 rfl (rmc h0d (by decide)) rm00 (Nat.le_of_ble_eq_true rfl) rfl kX12 o_t.1 o_t.2.1 o_t.2.2.1 o_t.2.2.2 (MC.mono h (fun r N1 Λ1 σ9 hq => ?_))
      obtain ⟨v10, rfl, rfl, rfl, h⟩ := hq
      exact r_iret d_X12_told_41 rfl rfl (Nat.le_refl 0) (Nat.le_refl 0) ⟨_, rfl, rfl, rfl, h⟩
  · have h := h.2 hc
    refine r_iload_n (x := v3) d_X12_told_16 rfl ?_
    exact r_iret d_X12_told_17 rfl rfl (Nat.le_refl 0) (Nat.le_refl 0) ⟨_, rfl, rfl, rfl, h⟩
theorem v_X12_fault_0 {l : Launch} {d N : Nat} {Λ : Lay} {P : Int → Mem → Prop} {σ : Mem} {x1 t : Int} (o_t : Ob N Λ t 21 36)
    (h : (∀ τ1, τ1 = st σ t 0 0 → ((¬ x1 = 0 → ((¬ x1 = 1 → P (-1) τ1) ∧ (x1 = 1 → P (τ1 t 23) τ1))) ∧ (x1 = 0 → P (τ1 t 22) τ1)))) :
    WI l mX12_fault d P 0 [(2, t), (0, x1)] [] N Λ σ := by
  refine r_aload_n (x := t) d_X12_fault_0 rfl o_t.1 ?_
  refine r_iconst (x := 0) d_X12_fault_1 ⟨by decide, by decide⟩ ?_
  refine r_putI (j := 0) d_X12_fault_2 kX12 (by decide) fl_X12_1 rfl o_t.1 o_t.2.1 o_t.2.2.1 o_t.2.2.2 rfl ?_
  refine r_nmM (fun τ1 eτ1 => ?_)
  have h := h τ1 eτ1
  refine r_iload_n (x := x1) d_X12_fault_5 rfl ?_
  refine r_if_ne (tgt := 16) d_X12_fault_6 rfl (fun hc => ?_) (fun hc => ?_)
  · have h := h.1 hc
    refine r_iload_n (x := x1) d_X12_fault_16 rfl ?_
    refine r_iconst (x := 1) d_X12_fault_17 ⟨by decide, by decide⟩ ?_
    refine r_ic_ne (tgt := 28) d_X12_fault_18 rfl (fun hc => ?_) (fun hc => ?_)
    · have h := h.1 hc
      refine r_iconst (x := (-1)) d_X12_fault_28 ⟨by decide, by decide⟩ ?_
      exact r_iret d_X12_fault_29 rfl rfl (Nat.le_refl 0) (Nat.le_refl 0) ⟨_, rfl, rfl, rfl, h⟩
    · have h := h.2 hc
      refine r_aload_n (x := t) d_X12_fault_21 rfl o_t.1 ?_
      refine r_getf (j := 23) (t := 0) (x := (τ1 t 23)) d_X12_fault_22 kX12 (by decide) fl_X12_61 o_t.1 o_t.2.1 o_t.2.2.1 o_t.2.2.2 rfl rfl ?_
      refine r_goto (tgt := 29) d_X12_fault_25 rfl ?_
      exact r_iret d_X12_fault_29 rfl rfl (Nat.le_refl 0) (Nat.le_refl 0) ⟨_, rfl, rfl, rfl, h⟩
  · have h := h.2 hc
    refine r_aload_n (x := t) d_X12_fault_9 rfl o_t.1 ?_
    refine r_getf (j := 22) (t := 0) (x := (τ1 t 22)) d_X12_fault_10 kX12 (by decide) fl_X12_261 o_t.1 o_t.2.1 o_t.2.2.1 o_t.2.2.2 rfl rfl ?_
    refine r_goto (tgt := 29) d_X12_fault_13 rfl ?_
    exact r_iret d_X12_fault_29 rfl rfl (Nat.le_refl 0) (Nat.le_refl 0) ⟨_, rfl, rfl, rfl, h⟩
theorem v_X12_figureText_0 {l : Launch} {d N : Nat} {Λ : Lay} {P : Mem → Prop} {σ : Mem} {t : Int}
    (h : WV l mX12_figureText d P 2 [(2, t), (0, 0)] [] N Λ σ) :
    WV l mX12_figureText d P 0 [(2, t), (3, 0)] [] N Λ σ := by
  refine r_iconst (x := 0) d_X12_figureText_0 ⟨by decide, by decide⟩ ?_
  refine r_istore_n (L2 := [(2, t), (0, 0)]) d_X12_figureText_1 (by decide) rfl rfl ?_
  exact h
theorem v_X12_figureText_2 {l : Launch} {d N : Nat} {Λ : Lay} {P : Mem → Prop} {σ : Mem} {x1 t : Int} (o_t : Ob N Λ t 21 36) (h0d : 1 ≤ d)
    (h : ((3 ≤ x1 → ((¬ (σ t 22) = 0 → P σ) ∧ ((σ t 22) = 0 → (((σ t 20) ≤ (σ t 21) → P σ) ∧ (¬ ((σ t 20) ≤ (σ t 21)) → (CV l mX12_wrongs (d - 1) [(2, t), (0, 1), (0, (σ t 21))] N Λ σ (fun σ1 => P σ1))))))) ∧ (¬ (3 ≤ x1) → (CV l mX12_pointText (d - 1) [(2, t), (0, 0)] N Λ σ (fun σ2 => (∀ y3, y3 = addI x1 1 → WV l mX12_figureText d P 2 [(2, t), (0, y3)] [] N Λ σ2)))))) :
    WV l mX12_figureText d P 2 [(2, t), (0, x1)] [] N Λ σ := by
  refine r_iload_n (x := x1) d_X12_figureText_2 rfl ?_
  refine r_iconst (x := 3) d_X12_figureText_3 ⟨by decide, by decide⟩ ?_
  refine r_ic_ge (tgt := 18) d_X12_figureText_4 rfl (fun hc => ?_) (fun hc => ?_)
  · have h := h.1 hc
    refine r_aload_n (x := t) d_X12_figureText_18 rfl o_t.1 ?_
    refine r_getf (j := 22) (t := 0) (x := (σ t 22)) d_X12_figureText_19 kX12 (by decide) fl_X12_261 o_t.1 o_t.2.1 o_t.2.2.1 o_t.2.2.2 rfl rfl ?_
    refine r_if_ne (tgt := 45) d_X12_figureText_22 rfl (fun hc => ?_) (fun hc => ?_)
    · have h := h.1 hc
      exact r_vret d_X12_figureText_45 rfl (Nat.le_refl 0) (Nat.le_refl 0) ⟨rfl, rfl, rfl, h⟩
    · have h := h.2 hc
      refine r_aload_n (x := t) d_X12_figureText_25 rfl o_t.1 ?_
      refine r_getf (j := 21) (t := 0) (x := (σ t 21)) d_X12_figureText_26 kX12 (by decide) fl_X12_255 o_t.1 o_t.2.1 o_t.2.2.1 o_t.2.2.2 rfl rfl ?_
      refine r_aload_n (x := t) d_X12_figureText_29 rfl o_t.1 ?_
      refine r_getf (j := 20) (t := 0) (x := (σ t 20)) d_X12_figureText_30 kX12 (by decide) fl_X12_258 o_t.1 o_t.2.1 o_t.2.2.1 o_t.2.2.2 rfl rfl ?_
      refine r_ic_ge (tgt := 45) d_X12_figureText_33 rfl (fun hc => ?_) (fun hc => ?_)
      · have h := h.1 hc
        exact r_vret d_X12_figureText_45 rfl (Nat.le_refl 0) (Nat.le_refl 0) ⟨rfl, rfl, rfl, h⟩
      · have h := h.2 hc
        refine r_aload_n (x := t) d_X12_figureText_36 rfl o_t.1 ?_
        refine r_iconst (x := 1) d_X12_figureText_37 ⟨by decide, by decide⟩ ?_
        refine r_aload_n (x := t) d_X12_figureText_38 rfl o_t.1 ?_
        refine r_getf (j := 21) (t := 0) (x := (σ t 21)) d_X12_figureText_39 kX12 (by decide) fl_X12_255 o_t.1 o_t.2.1 o_t.2.2.1 o_t.2.2.2 rfl rfl ?_
        refine r_callV (Y2 := mX12_wrongs) (d := d - 1) (mc := 0) (ms := 0) (c := t) (As := [(0, 1), (0, (σ t 21))]) (S := []) d_X12_figureText_42 ok_mX12_wrongs ml_X12_276 rfl (rmc h0d (by decide)) rm00 (Nat.le_of_ble_eq_true rfl) rfl kX12 o_t.1 o_t.2.1 o_t.2.2.1 o_t.2.2.2 (MC.mono h (fun r N1 Λ1 σ1 hq => ?_))
        obtain ⟨rfl, rfl, rfl, h⟩ := hq
        exact r_vret d_X12_figureText_45 rfl (Nat.le_refl 0) (Nat.le_refl 0) ⟨rfl, rfl, rfl, h⟩
  · have h := h.2 hc
    refine r_aload_n (x := t) d_X12_figureText_7 rfl o_t.1 ?_
    refine r_iconst (x := 0) d_X12_figureText_8 ⟨by decide, by decide⟩ ?_
    refine r_callV (Y2 := mX12_pointText) (d := d - 1) (mc := 0) (ms := 0) (c := t) (As := [(0, 0)]) (S := []) d_X12_figureText_9 ok_mX12_pointText ml_X12_303 rfl (rmc h0d (by decide)) rm00 (Nat.le_of_ble_eq_true rfl) rfl kX12 o_t.1 o_t.2.1 o_t.2.2.1 o_t.2.2.2 (MC.mono h (fun r N1 Λ1 σ2 hq => ?_))
    obtain ⟨rfl, rfl, rfl, h⟩ := hq
    refine x_iinc (x := x1) (L := [(2, t), (0, x1)]) d_X12_figureText_12 rfl (by decide) rfl (fun y3 ey3 => ?_)
    have h := h y3 ey3
    show WP _ _ _ _ _ _ _ _ [(2, t), (0, y3)] _ _ _ _
    refine r_goto (tgt := 2) d_X12_figureText_15 rfl ?_
    exact h
theorem v_X12_pointText_0 {l : Launch} {d N : Nat} {Λ : Lay} {P : Mem → Prop} {σ : Mem} {x1 t : Int} (o_t : Ob N Λ t 21 36) (h0d : 1 ≤ d)
    (h : (((σ t 22) = 0 → (CI l mX12_see (d - 1) [(2, t)] N Λ σ (fun v2 σ1 => ((v2 = 40 → ((¬ x1 = 2 → (∀ τ3, τ3 = st σ1 t 21 (addI (σ1 t 21) 1) → (CV l mX12_pointText (d - 1) [(2, t), (0, (addI x1 1))] N Λ τ3 (fun σ4 => (CV l mX12_pointText (d - 1) [(2, t), (0, (addI x1 1))] N Λ σ4 (fun σ5 => (CI l mX12_see (d - 1) [(2, t)] N Λ σ5 (fun v7 σ6 => ((¬ v7 = 94 → (CV l mX12_must (d - 1) [(2, t), (0, 0)] N Λ σ6 (fun σ8 => (CV l mX12_pointText (d - 1) [(2, t), (0, (addI x1 1))] N Λ σ8 (fun σ9 => (CV l mX12_pointText (d - 1) [(2, t), (0, (addI x1 1))] N Λ σ9 (fun σ10 => (CI l mX12_see (d - 1) [(2, t)] N Λ σ10 (fun v12 σ11 => ((¬ v12 = 41 → (CV l mX12_must (d - 1) [(2, t), (0, 0)] N Λ σ11 (fun σ13 => P σ13))) ∧ (v12 = 41 → (CV l mX12_must (d - 1) [(2, t), (0, 1)] N Λ σ11 (fun σ14 => P σ14))))))))))))) ∧ (v7 = 94 → (CV l mX12_must (d - 1) [(2, t), (0, 1)] N Λ σ6 (fun σ15 => (CV l mX12_pointText (d - 1) [(2, t), (0, (addI x1 1))] N Λ σ15 (fun σ16 => (CV l mX12_pointText (d - 1) [(2, t), (0, (addI x1 1))] N Λ σ16 (fun σ17 => (CI l mX12_see (d - 1) [(2, t)] N Λ σ17 (fun v19 σ18 => ((¬ v19 = 41 → (CV l mX12_must (d - 1) [(2, t), (0, 0)] N Λ σ18 (fun σ20 => P σ20))) ∧ (v19 = 41 → (CV l mX12_must (d - 1) [(2, t), (0, 1)] N Λ σ18 (fun σ21 => P σ21)))))))))))))))))))))) ∧ (x1 = 2 → (CV l mX12_wrongs (d - 1) [(2, t), (0, 4), (0, (σ1 t 21))] N Λ σ1 (fun σ22 => P σ22))))) ∧ (¬ (v2 = 40) → (CI l mX12_seesLetter (d - 1) [(2, t)] N Λ σ1 (fun v24 σ23 => (CV l mX12_must (d - 1) [(2, t), (0, v24)] N Λ σ23 (fun σ25 => P σ25))))))))) ∧ (¬ ((σ t 22) = 0) → P σ))) :
    WV l mX12_pointText d P 0 [(2, t), (0, x1)] [] N Λ σ := by
  refine r_aload_n (x := t) d_X12_pointText_0 rfl o_t.1 ?_
  refine r_getf (j := 22) (t := 0) (x := (σ t 22)) d_X12_pointText_1 kX12 (by decide) fl_X12_261 o_t.1 o_t.2.1 o_t.2.2.1 o_t.2.2.2 rfl rfl ?_
  refine r_if_eq (tgt := 8) d_X12_pointText_4 rfl (fun hc => ?_) (fun hc => ?_)
  · have h := h.1 hc
    refine r_aload_n (x := t) d_X12_pointText_8 rfl o_t.1 ?_
    refine r_callV (Y2 := mX12_see) (d := d - 1) (mc := 0) (ms := 0) (c := t) (As := []) (S := []) d_X12_pointText_9 ok_mX12_see ml_X12_264 rfl (rmc h0d (by decide)) rm00 (Nat.le_of_ble_eq_true rfl) rfl kX12 o_t.1 o_t.2.1 o_t.2.2.1 o_t.2.2.2 (MC.mono h (fun r N1 Λ1 σ1 hq => ?_))
    obtain ⟨v2, rfl, rfl, rfl, h⟩ := hq
    refine r_bipush (x := 40) d_X12_pointText_12 ⟨by decide, by decide⟩ (by decide) ?_
    refine r_ic_eq (tgt := 26) d_X12_pointText_14 rfl (fun hc => ?_) (fun hc => ?_)
    · have h := h.1 hc
      refine r_iload_n (x := x1) d_X12_pointText_26 rfl ?_
      refine r_iconst (x := 2) d_X12_pointText_27 ⟨by decide, by decide⟩ ?_
      refine r_ic_ne (tgt := 41) d_X12_pointText_28 rfl (fun hc => ?_) (fun hc => ?_)
      · have h := h.1 hc
        refine r_aload_n (x := t) d_X12_pointText_41 rfl o_t.1 ?_
        refine r_dup d_X12_pointText_42 rfl ?_
        refine r_getf (j := 21) (t := 0) (x := (σ1 t 21)) d_X12_pointText_43 kX12 (by decide) fl_X12_255 o_t.1 o_t.2.1 o_t.2.2.1 o_t.2.2.2 rfl rfl ?_
        refine r_iconst (x := 1) d_X12_pointText_46 ⟨by decide, by decide⟩ ?_
        refine r_iadd d_X12_pointText_47 ?_
        refine r_putI (j := 21) d_X12_pointText_48 kX12 (by decide) fl_X12_255 rfl o_t.1 o_t.2.1 o_t.2.2.1 o_t.2.2.2 rfl ?_
        refine r_nmM (fun τ3 eτ3 => ?_)
        have h := h τ3 eτ3
        refine r_aload_n (x := t) d_X12_pointText_51 rfl o_t.1 ?_
        refine r_iload_n (x := x1) d_X12_pointText_52 rfl ?_
        refine r_iconst (x := 1) d_X12_pointText_53 ⟨by decide, by decide⟩ ?_
        refine r_iadd d_X12_pointText_54 ?_
        refine r_callV (Y2 := mX12_pointText) (d := d - 1) (mc := 0) (ms := 0) (c := t) (As := [(0, (addI x1 1))]) (S := []) d_X12_pointText_55 ok_mX12_pointText ml_X12_303 rfl (rmc h0d (by decide)) rm00 (Nat.le_of_ble_eq_true rfl) rfl kX12 o_t.1 o_t.2.1 o_t.2.2.1 o_t.2.2.2 (MC.mono h (fun r N1 Λ1 σ4 hq => ?_))
        obtain ⟨rfl, rfl, rfl, h⟩ := hq
        refine r_aload_n (x := t) d_X12_pointText_58 rfl o_t.1 ?_
        refine r_iload_n (x := x1) d_X12_pointText_59 rfl ?_
        refine r_iconst (x := 1) d_X12_pointText_60 ⟨by decide, by decide⟩ ?_
        refine r_iadd d_X12_pointText_61 ?_
        refine r_callV (Y2 := mX12_pointText) (d := d - 1) (mc := 0) (ms := 0) (c := t) (As := [(0, (addI x1 1))]) (S := []) d_X12_pointText_62 ok_mX12_pointText ml_X12_303 rfl (rmc h0d (by decide)) rm00 (Nat.le_of_ble_eq_true rfl) rfl kX12 o_t.1 o_t.2.1 o_t.2.2.1 o_t.2.2.2 (MC.mono h (fun r N1 Λ1 σ5 hq => ?_))
        obtain ⟨rfl, rfl, rfl, h⟩ := hq
        refine r_aload_n (x := t) d_X12_pointText_65 rfl o_t.1 ?_
        refine r_aload_n (x := t) d_X12_pointText_66 rfl o_t.1 ?_
        refine r_callV (Y2 := mX12_see) (d := d - 1) (mc := 0) (ms := 0) (c := t) (As := []) (S := [(2, t)]) d_X12_pointText_67 ok_mX12_see ml_X12_264 rfl (rmc h0d (by decide)) rm00 (Nat.le_of_ble_eq_true rfl) rfl kX12 o_t.1 o_t.2.1 o_t.2.2.1 o_t.2.2.2 (MC.mono h (fun r N1 Λ1 σ6 hq => ?_))
        obtain ⟨v7, rfl, rfl, rfl, h⟩ := hq
        refine r_bipush (x := 94) d_X12_pointText_70 ⟨by decide, by decide⟩ (by decide) ?_
        refine r_ic_ne (tgt := 79) d_X12_pointText_72 rfl (fun hc => ?_) (fun hc => ?_)
        · have h := h.1 hc
          refine r_iconst (x := 0) d_X12_pointText_79 ⟨by decide, by decide⟩ ?_
          refine r_callV (Y2 := mX12_must) (d := d - 1) (mc := 0) (ms := 0) (c := t) (As := [(0, 0)]) (S := []) d_X12_pointText_80 ok_mX12_must ml_X12_286 rfl (rmc h0d (by decide)) rm00 (Nat.le_of_ble_eq_true rfl) rfl kX12 o_t.1 o_t.2.1 o_t.2.2.1 o_t.2.2.2 (MC.mono h (fun r N1 Λ1 σ8 hq => ?_))
          obtain ⟨rfl, rfl, rfl, h⟩ := hq
          refine r_aload_n (x := t) d_X12_pointText_83 rfl o_t.1 ?_
          refine r_iload_n (x := x1) d_X12_pointText_84 rfl ?_
          refine r_iconst (x := 1) d_X12_pointText_85 ⟨by decide, by decide⟩ ?_
          refine r_iadd d_X12_pointText_86 ?_
          refine r_callV (Y2 := mX12_pointText) (d := d - 1) (mc := 0) (ms := 0) (c := t) (As := [(0, (addI x1 1))]) (S := []) d_X12_pointText_87 ok_mX12_pointText ml_X12_303 rfl (rmc h0d (by decide)) rm00 (Nat.le_of_ble_eq_true rfl) rfl kX12 o_t.1 o_t.2.1 o_t.2.2.1 o_t.2.2.2 (MC.mono h (fun r N1 Λ1 σ9 hq => ?_))
          obtain ⟨rfl, rfl, rfl, h⟩ := hq
          refine r_aload_n (x := t) d_X12_pointText_90 rfl o_t.1 ?_
          refine r_iload_n (x := x1) d_X12_pointText_91 rfl ?_
          refine r_iconst (x := 1) d_X12_pointText_92 ⟨by decide, by decide⟩ ?_
          refine r_iadd d_X12_pointText_93 ?_
          refine r_callV (Y2 := mX12_pointText) (d := d - 1) (mc := 0) (ms := 0) (c := t) (As := [(0, (addI x1 1))]) (S := []) d_X12_pointText_94 ok_mX12_pointText ml_X12_303 rfl (rmc h0d (by decide)) rm00 (Nat.le_of_ble_eq_true rfl) rfl kX12 o_t.1 o_t.2.1 o_t.2.2.1 o_t.2.2.2 (MC.mono h (fun r N1 Λ1 σ10 hq => ?_))
          obtain ⟨rfl, rfl, rfl, h⟩ := hq
          refine r_aload_n (x := t) d_X12_pointText_97 rfl o_t.1 ?_
          refine r_aload_n (x := t) d_X12_pointText_98 rfl o_t.1 ?_
          refine r_callV (Y2 := mX12_see) (d := d - 1) (mc := 0) (ms := 0) (c := t) (As := []) (S := [(2, t)]) d_X12_pointText_99 ok_mX12_see ml_X12_264 rfl (rmc h0d (by decide)) rm00 (Nat.le_of_ble_eq_true rfl) rfl kX12 o_t.1 o_t.2.1 o_t.2.2.1 o_t.2.2.2 (MC.mono h (fun r N1 Λ1 σ11 hq => ?_))
          obtain ⟨v12, rfl, rfl, rfl, h⟩ := hq
          refine r_bipush (x := 41) d_X12_pointText_102 ⟨by decide, by decide⟩ (by decide) ?_
          refine r_ic_ne (tgt := 111) d_X12_pointText_104 rfl (fun hc => ?_) (fun hc => ?_)
          · have h := h.1 hc
            refine r_iconst (x := 0) d_X12_pointText_111 ⟨by decide, by decide⟩ ?_
            refine r_callV (Y2 := mX12_must) (d := d - 1) (mc := 0) (ms := 0) (c := t) (As := [(0, 0)]) (S := []) d_X12_pointText_112 ok_mX12_must ml_X12_286 rfl (rmc h0d (by decide)) rm00 (Nat.le_of_ble_eq_true rfl) rfl kX12 o_t.1 o_t.2.1 o_t.2.2.1 o_t.2.2.2 (MC.mono h (fun r N1 Λ1 σ13 hq => ?_))
            obtain ⟨rfl, rfl, rfl, h⟩ := hq
            exact r_vret d_X12_pointText_115 rfl (Nat.le_refl 0) (Nat.le_refl 0) ⟨rfl, rfl, rfl, h⟩
          · have h := h.2 hc
            refine r_iconst (x := 1) d_X12_pointText_107 ⟨by decide, by decide⟩ ?_
            refine r_goto (tgt := 112) d_X12_pointText_108 rfl ?_
            refine r_callV (Y2 := mX12_must) (d := d - 1) (mc := 0) (ms := 0) (c := t) (As := [(0, 1)]) (S := []) d_X12_pointText_112 ok_mX12_must ml_X12_286 rfl (rmc h0d (by decide)) rm00 (Nat.le_of_ble_eq_true rfl) rfl kX12 o_t.1 o_t.2.1 o_t.2.2.1 o_t.2.2.2 (MC.mono h (fun r N1 Λ1 σ14 hq => ?_))
            obtain ⟨rfl, rfl, rfl, h⟩ := hq
            exact r_vret d_X12_pointText_115 rfl (Nat.le_refl 0) (Nat.le_refl 0) ⟨rfl, rfl, rfl, h⟩
        · have h := h.2 hc
          refine r_iconst (x := 1) d_X12_pointText_75 ⟨by decide, by decide⟩ ?_
          refine r_goto (tgt := 80) d_X12_pointText_76 rfl ?_
          refine r_callV (Y2 := mX12_must) (d := d - 1) (mc := 0) (ms := 0) (c := t) (As := [(0, 1)]) (S := []) d_X12_pointText_80 ok_mX12_must ml_X12_286 rfl (rmc h0d (by decide)) rm00 (Nat.le_of_ble_eq_true rfl) rfl kX12 o_t.1 o_t.2.1 o_t.2.2.1 o_t.2.2.2 (MC.mono h (fun r N1 Λ1 σ15 hq => ?_))
          obtain ⟨rfl, rfl, rfl, h⟩ := hq
          refine r_aload_n (x := t) d_X12_pointText_83 rfl o_t.1 ?_
          refine r_iload_n (x := x1) d_X12_pointText_84 rfl ?_
          refine r_iconst (x := 1) d_X12_pointText_85 ⟨by decide, by decide⟩ ?_
          refine r_iadd d_X12_pointText_86 ?_
          refine r_callV (Y2 := mX12_pointText) (d := d - 1) (mc := 0) (ms := 0) (c := t) (As := [(0, (addI x1 1))]) (S := []) d_X12_pointText_87 ok_mX12_pointText ml_X12_303 rfl (rmc h0d (by decide)) rm00 (Nat.le_of_ble_eq_true rfl) rfl kX12 o_t.1 o_t.2.1 o_t.2.2.1 o_t.2.2.2 (MC.mono h (fun r N1 Λ1 σ16 hq => ?_))
          obtain ⟨rfl, rfl, rfl, h⟩ := hq
          refine r_aload_n (x := t) d_X12_pointText_90 rfl o_t.1 ?_
          refine r_iload_n (x := x1) d_X12_pointText_91 rfl ?_
          refine r_iconst (x := 1) d_X12_pointText_92 ⟨by decide, by decide⟩ ?_
          refine r_iadd d_X12_pointText_93 ?_
          refine r_callV (Y2 := mX12_pointText) (d := d - 1) (mc := 0) (ms := 0) (c := t) (As := [(0, (addI x1 1))]) (S := []) d_X12_pointText_94 ok_mX12_pointText ml_X12_303 rfl (rmc h0d (by decide)) rm00 (Nat.le_of_ble_eq_true rfl) rfl kX12 o_t.1 o_t.2.1 o_t.2.2.1 o_t.2.2.2 (MC.mono h (fun r N1 Λ1 σ17 hq => ?_))
          obtain ⟨rfl, rfl, rfl, h⟩ := hq
          refine r_aload_n (x := t) d_X12_pointText_97 rfl o_t.1 ?_
          refine r_aload_n (x := t) d_X12_pointText_98 rfl o_t.1 ?_
          refine r_callV (Y2 := mX12_see) (d := d - 1) (mc := 0) (ms := 0) (c := t) (As := []) (S := [(2, t)]) d_X12_pointText_99 ok_mX12_see ml_X12_264 rfl (rmc h0d (by decide)) rm00 (Nat.le_of_ble_eq_true rfl) rfl kX12 o_t.1 o_t.2.1 o_t.2.2.1 o_t.2.2.2 (MC.mono h (fun r N1 Λ1 σ18 hq => ?_))
          obtain ⟨v19, rfl, rfl, rfl, h⟩ := hq
          refine r_bipush (x := 41) d_X12_pointText_102 ⟨by decide, by decide⟩ (by decide) ?_
          refine r_ic_ne (tgt := 111) d_X12_pointText_104 rfl (fun hc => ?_) (fun hc => ?_)
          · have h := h.1 hc
            refine r_iconst (x := 0) d_X12_pointText_111 ⟨by decide, by decide⟩ ?_
            refine r_callV (Y2 := mX12_must) (d := d - 1) (mc := 0) (ms := 0) (c := t) (As := [(0, 0)]) (S := []) d_X12_pointText_112 ok_mX12_must ml_X12_286 rfl (rmc h0d (by decide)) rm00 (Nat.le_of_ble_eq_true rfl) rfl kX12 o_t.1 o_t.2.1 o_t.2.2.1 o_t.2.2.2 (MC.mono h (fun r N1 Λ1 σ20 hq => ?_))
            obtain ⟨rfl, rfl, rfl, h⟩ := hq
            exact r_vret d_X12_pointText_115 rfl (Nat.le_refl 0) (Nat.le_refl 0) ⟨rfl, rfl, rfl, h⟩
          · have h := h.2 hc
            refine r_iconst (x := 1) d_X12_pointText_107 ⟨by decide, by decide⟩ ?_
            refine r_goto (tgt := 112) d_X12_pointText_108 rfl ?_
            refine r_callV (Y2 := mX12_must) (d := d - 1) (mc := 0) (ms := 0) (c := t) (As := [(0, 1)]) (S := []) d_X12_pointText_112 ok_mX12_must ml_X12_286 rfl (rmc h0d (by decide)) rm00 (Nat.le_of_ble_eq_true rfl) rfl kX12 o_t.1 o_t.2.1 o_t.2.2.1 o_t.2.2.2 (MC.mono h (fun r N1 Λ1 σ21 hq => ?_))
            obtain ⟨rfl, rfl, rfl, h⟩ := hq
            exact r_vret d_X12_pointText_115 rfl (Nat.le_refl 0) (Nat.le_refl 0) ⟨rfl, rfl, rfl, h⟩
      · have h := h.2 hc
        refine r_aload_n (x := t) d_X12_pointText_31 rfl o_t.1 ?_
        refine r_iconst (x := 4) d_X12_pointText_32 ⟨by decide, by decide⟩ ?_
        refine r_aload_n (x := t) d_X12_pointText_33 rfl o_t.1 ?_
        refine r_getf (j := 21) (t := 0) (x := (σ1 t 21)) d_X12_pointText_34 kX12 (by decide) fl_X12_255 o_t.1 o_t.2.1 o_t.2.2.1 o_t.2.2.2 rfl rfl ?_
        refine r_callV (Y2 := mX12_wrongs) (d := d - 1) (mc := 0) (ms := 0) (c := t) (As := [(0, 4), (0, (σ1 t 21))]) (S := []) d_X12_pointText_37 ok_mX12_wrongs ml_X12_276 rfl (rmc h0d (by decide)) rm00 (Nat.le_of_ble_eq_true rfl) rfl kX12 o_t.1 o_t.2.1 o_t.2.2.1 o_t.2.2.2 (MC.mono h (fun r N1 Λ1 σ22 hq => ?_))
        obtain ⟨rfl, rfl, rfl, h⟩ := hq
        exact r_vret d_X12_pointText_40 rfl (Nat.le_refl 0) (Nat.le_refl 0) ⟨rfl, rfl, rfl, h⟩
    · have h := h.2 hc
      refine r_aload_n (x := t) d_X12_pointText_17 rfl o_t.1 ?_
      refine r_aload_n (x := t) d_X12_pointText_18 rfl o_t.1 ?_
      refine r_callV (Y2 := mX12_seesLetter) (d := d - 1) (mc := 0) (ms := 0) (c := t) (As := []) (S := [(2, t)]) d_X12_pointText_19 ok_mX12_seesLetter ml_X12_283 rfl (rmc h0d (by decide)) rm00 (Nat.le_of_ble_eq_true rfl) rfl kX12 o_t.1 o_t.2.1 o_t.2.2.1 o_t.2.2.2 (MC.mono h (fun r N1 Λ1 σ23 hq => ?_))
      obtain ⟨v24, rfl, rfl, rfl, h⟩ := hq
      refine r_callV (Y2 := mX12_must) (d := d - 1) (mc := 0) (ms := 0) (c := t) (As := [(0, v24)]) (S := []) d_X12_pointText_22 ok_mX12_must ml_X12_286 rfl (rmc h0d (by decide)) rm00 (Nat.le_of_ble_eq_true rfl) rfl kX12 o_t.1 o_t.2.1 o_t.2.2.1 o_t.2.2.2 (MC.mono h (fun r N1 Λ1 σ25 hq => ?_))
      obtain ⟨rfl, rfl, rfl, h⟩ := hq
      exact r_vret d_X12_pointText_25 rfl (Nat.le_refl 0) (Nat.le_refl 0) ⟨rfl, rfl, rfl, h⟩
  · have h := h.2 hc
    exact r_vret d_X12_pointText_7 rfl (Nat.le_refl 0) (Nat.le_refl 0) ⟨rfl, rfl, rfl, h⟩
theorem v_X12_rowOf_0 {l : Launch} {d N : Nat} {Λ : Lay} {P : Int → Mem → Prop} {σ : Mem} {x0 x1 : Int}
    (h : P (addI (addI 6 (mulI 10 x0)) x1) σ) :
    WI l mX12_rowOf d P 0 [(0, x0), (0, x1)] [] N Λ σ := by
  refine r_bipush (x := 6) d_X12_rowOf_0 ⟨by decide, by decide⟩ (by decide) ?_
  refine r_bipush (x := 10) d_X12_rowOf_2 ⟨by decide, by decide⟩ (by decide) ?_
  refine r_iload_n (x := x0) d_X12_rowOf_4 rfl ?_
  refine r_imul d_X12_rowOf_5 ?_
  refine r_iadd d_X12_rowOf_6 ?_
  refine r_iload_n (x := x1) d_X12_rowOf_7 rfl ?_
  refine r_iadd d_X12_rowOf_8 ?_
  exact r_iret d_X12_rowOf_9 rfl rfl (Nat.le_refl 0) (Nat.le_refl 0) ⟨_, rfl, rfl, rfl, h⟩
theorem v_X12_point_0 {l : Launch} {d N : Nat} {Λ : Lay} {P : Mem → Prop} {σ : Mem} {x1 x2 t : Int} (o_t : Ob N Λ t 21 36)
    (h : (((σ t 8) = 0 → WV l mX12_point d P 10 [(2, t), (0, x1), (0, x2), (0, 0)] [] N Λ σ) ∧ (¬ ((σ t 8) = 0) → P σ))) :
    WV l mX12_point d P 0 [(2, t), (0, x1), (0, x2), (3, 0)] [] N Λ σ := by
  refine r_aload_n (x := t) d_X12_point_0 rfl o_t.1 ?_
  refine r_getf (j := 8) (t := 0) (x := (σ t 8)) d_X12_point_1 kX12 (by decide) fl_X12_102 o_t.1 o_t.2.1 o_t.2.2.1 o_t.2.2.2 rfl rfl ?_
  refine r_if_eq (tgt := 8) d_X12_point_4 rfl (fun hc => ?_) (fun hc => ?_)
  · have h := h.1 hc
    refine r_iconst (x := 0) d_X12_point_8 ⟨by decide, by decide⟩ ?_
    refine r_istore_n (L2 := [(2, t), (0, x1), (0, x2), (0, 0)]) d_X12_point_9 (by decide) rfl rfl ?_
    exact h
  · have h := h.2 hc
    exact r_vret d_X12_point_7 rfl (Nat.le_refl 0) (Nat.le_refl 0) ⟨rfl, rfl, rfl, h⟩
theorem v_X12_point_10 {l : Launch} {d N : Nat} {Λ : Lay} {P : Mem → Prop} {σ : Mem} {x1 x2 x3 t : Int} (o_t : Ob N Λ t 21 36) (h0d : 1 ≤ d)
    (h : ((10 ≤ x3 → (CI l mX12_see (d - 1) [(2, t)] N Λ σ (fun v2 σ1 => ((v2 = 40 → (∀ τ3, τ3 = st σ1 t 21 (addI (σ1 t 21) 1) → (CV l mX12_point (d - 1) [(2, t), (0, x2), (0, (addI x2 4))] N Λ τ3 (fun σ4 => (CV l mX12_point (d - 1) [(2, t), (0, (addI x2 1)), (0, (addI x2 4))] N Λ σ4 (fun σ5 => (∀ τ6, τ6 = st σ5 t 21 (addI (σ5 t 21) 1) → (CV l mX12_point (d - 1) [(2, t), (0, (addI x2 2)), (0, (addI x2 4))] N Λ τ6 (fun σ7 => (CV l mX12_point (d - 1) [(2, t), (0, (addI x2 3)), (0, (addI x2 4))] N Λ σ7 (fun σ8 => (∀ τ9, τ9 = st σ8 t 21 (addI (σ8 t 21) 1) → (CV l mX12_meets (d - 1) [(2, t), (0, x2), (0, x1)] N Λ τ9 (fun σ10 => P σ10)))))))))))))) ∧ (¬ (v2 = 40) → (CI l mX12_see (d - 1) [(2, t)] N Λ σ1 (fun v12 σ11 => (CI l mX12_rowOf (d - 1) [(0, x1), (0, (subI v12 97))] N Λ σ11 (fun v14 σ13 => (CI l mX12_puts (d - 1) [(2, t), (0, v14), (0, 0), (1, 1)] N Λ σ13 (fun v16 σ15 => (∀ τ17, τ17 = st σ15 t 21 (addI (σ15 t 21) 1) → P τ17)))))))))))) ∧ (¬ (10 ≤ x3) → (CI l mX12_rowOf (d - 1) [(0, x1), (0, x3)] N Λ σ (fun v19 σ18 => (CV l mX12_empties (d - 1) [(2, t), (0, v19)] N Λ σ18 (fun σ20 => (∀ y21, y21 = addI x3 1 → WV l mX12_point d P 10 [(2, t), (0, x1), (0, x2), (0, y21)] [] N Λ σ20)))))))) :
    WV l mX12_point d P 10 [(2, t), (0, x1), (0, x2), (0, x3)] [] N Λ σ := by
  refine r_iload_n (x := x3) d_X12_point_10 rfl ?_
  refine r_bipush (x := 10) d_X12_point_11 ⟨by decide, by decide⟩ (by decide) ?_
  refine r_ic_ge (tgt := 31) d_X12_point_13 rfl (fun hc => ?_) (fun hc => ?_)
  · have h := h.1 hc
    refine r_aload_n (x := t) d_X12_point_31 rfl o_t.1 ?_
    refine r_callV (Y2 := mX12_see) (d := d - 1) (mc := 0) (ms := 0) (c := t) (As := []) (S := []) d_X12_point_32 ok_mX12_see ml_X12_264 rfl (rmc h0d (by decide)) rm00 (Nat.le_of_ble_eq_true rfl) rfl kX12 o_t.1 o_t.2.1 o_t.2.2.1 o_t.2.2.2 (MC.mono h (fun r N1 Λ1 σ1 hq => ?_))
    obtain ⟨v2, rfl, rfl, rfl, h⟩ := hq
    refine r_bipush (x := 40) d_X12_point_35 ⟨by decide, by decide⟩ (by decide) ?_
    refine r_ic_eq (tgt := 69) d_X12_point_37 rfl (fun hc => ?_) (fun hc => ?_)
    · have h := h.1 hc
      refine r_aload_n (x := t) d_X12_point_69 rfl o_t.1 ?_
      refine r_dup d_X12_point_70 rfl ?_
      refine r_getf (j := 21) (t := 0) (x := (σ1 t 21)) d_X12_point_71 kX12 (by decide) fl_X12_255 o_t.1 o_t.2.1 o_t.2.2.1 o_t.2.2.2 rfl rfl ?_
      refine r_iconst (x := 1) d_X12_point_74 ⟨by decide, by decide⟩ ?_
      refine r_iadd d_X12_point_75 ?_
      refine r_putI (j := 21) d_X12_point_76 kX12 (by decide) fl_X12_255 rfl o_t.1 o_t.2.1 o_t.2.2.1 o_t.2.2.2 rfl ?_
      refine r_nmM (fun τ3 eτ3 => ?_)
      have h := h τ3 eτ3
      refine r_aload_n (x := t) d_X12_point_79 rfl o_t.1 ?_
      refine r_iload_n (x := x2) d_X12_point_80 rfl ?_
      refine r_iload_n (x := x2) d_X12_point_81 rfl ?_
      refine r_iconst (x := 4) d_X12_point_82 ⟨by decide, by decide⟩ ?_
      refine r_iadd d_X12_point_83 ?_
      refine r_callV (Y2 := mX12_point) (d := d - 1) (mc := 0) (ms := 0) (c := t) (As := [(0, x2), (0, (addI x2 4))]) (S := []) d_X12_point_84 ok_mX12_point ml_X12_309 rfl (rmc h0d (by decide)) rm00 (Nat.le_of_ble_eq_true rfl) rfl kX12 o_t.1 o_t.2.1 o_t.2.2.1 o_t.2.2.2 (MC.mono h (fun r N1 Λ1 σ4 hq => ?_))
      obtain ⟨rfl, rfl, rfl, h⟩ := hq
      refine r_aload_n (x := t) d_X12_point_87 rfl o_t.1 ?_
      refine r_iload_n (x := x2) d_X12_point_88 rfl ?_
      refine r_iconst (x := 1) d_X12_point_89 ⟨by decide, by decide⟩ ?_
      refine r_iadd d_X12_point_90 ?_
      refine r_iload_n (x := x2) d_X12_point_91 rfl ?_
      refine r_iconst (x := 4) d_X12_point_92 ⟨by decide, by decide⟩ ?_
      refine r_iadd d_X12_point_93 ?_
      refine r_callV (Y2 := mX12_point) (d := d - 1) (mc := 0) (ms := 0) (c := t) (As := [(0, (addI x2 1)), (0, (addI x2 4))]) (S := []) d_X12_point_94 ok_mX12_point ml_X12_309 rfl (rmc h0d (by decide)) rm00 (Nat.le_of_ble_eq_true rfl) rfl kX12 o_t.1 o_t.2.1 o_t.2.2.1 o_t.2.2.2 (MC.mono h (fun r N1 Λ1 σ5 hq => ?_))
      obtain ⟨rfl, rfl, rfl, h⟩ := hq
      refine r_aload_n (x := t) d_X12_point_97 rfl o_t.1 ?_
      refine r_dup d_X12_point_98 rfl ?_
      refine r_getf (j := 21) (t := 0) (x := (σ5 t 21)) d_X12_point_99 kX12 (by decide) fl_X12_255 o_t.1 o_t.2.1 o_t.2.2.1 o_t.2.2.2 rfl rfl ?_
      refine r_iconst (x := 1) d_X12_point_102 ⟨by decide, by decide⟩ ?_
      refine r_iadd d_X12_point_103 ?_
      refine r_putI (j := 21) d_X12_point_104 kX12 (by decide) fl_X12_255 rfl o_t.1 o_t.2.1 o_t.2.2.1 o_t.2.2.2 rfl ?_
      refine r_nmM (fun τ6 eτ6 => ?_)
      have h := h τ6 eτ6
      refine r_aload_n (x := t) d_X12_point_107 rfl o_t.1 ?_
      refine r_iload_n (x := x2) d_X12_point_108 rfl ?_
      refine r_iconst (x := 2) d_X12_point_109 ⟨by decide, by decide⟩ ?_
      refine r_iadd d_X12_point_110 ?_
      refine r_iload_n (x := x2) d_X12_point_111 rfl ?_
      refine r_iconst (x := 4) d_X12_point_112 ⟨by decide, by decide⟩ ?_
      refine r_iadd d_X12_point_113 ?_
      refine r_callV (Y2 := mX12_point) (d := d - 1) (mc := 0) (ms := 0) (c := t) (As := [(0, (addI x2 2)), (0, (addI x2 4))]) (S := []) d_X12_point_114 ok_mX12_point ml_X12_309 rfl (rmc h0d (by decide)) rm00 (Nat.le_of_ble_eq_true rfl) rfl kX12 o_t.1 o_t.2.1 o_t.2.2.1 o_t.2.2.2 (MC.mono h (fun r N1 Λ1 σ7 hq => ?_))
      obtain ⟨rfl, rfl, rfl, h⟩ := hq
      refine r_aload_n (x := t) d_X12_point_117 rfl o_t.1 ?_
      refine r_iload_n (x := x2) d_X12_point_118 rfl ?_
      refine r_iconst (x := 3) d_X12_point_119 ⟨by decide, by decide⟩ ?_
      refine r_iadd d_X12_point_120 ?_
      refine r_iload_n (x := x2) d_X12_point_121 rfl ?_
      refine r_iconst (x := 4) d_X12_point_122 ⟨by decide, by decide⟩ ?_
      refine r_iadd d_X12_point_123 ?_
      refine r_callV (Y2 := mX12_point) (d := d - 1) (mc := 0) (ms := 0) (c := t) (As := [(0, (addI x2 3)), (0, (addI x2 4))]) (S := []) d_X12_point_124 ok_mX12_point ml_X12_309 rfl (rmc h0d (by decide)) rm00 (Nat.le_of_ble_eq_true rfl) rfl kX12 o_t.1 o_t.2.1 o_t.2.2.1 o_t.2.2.2 (MC.mono h (fun r N1 Λ1 σ8 hq => ?_))
      obtain ⟨rfl, rfl, rfl, h⟩ := hq
      refine r_aload_n (x := t) d_X12_point_127 rfl o_t.1 ?_
      refine r_dup d_X12_point_128 rfl ?_
      refine r_getf (j := 21) (t := 0) (x := (σ8 t 21)) d_X12_point_129 kX12 (by decide) fl_X12_255 o_t.1 o_t.2.1 o_t.2.2.1 o_t.2.2.2 rfl rfl ?_
      refine r_iconst (x := 1) d_X12_point_132 ⟨by decide, by decide⟩ ?_
      refine r_iadd d_X12_point_133 ?_
      refine r_putI (j := 21) d_X12_point_134 kX12 (by decide) fl_X12_255 rfl o_t.1 o_t.2.1 o_t.2.2.1 o_t.2.2.2 rfl ?_
      refine r_nmM (fun τ9 eτ9 => ?_)
      have h := h τ9 eτ9
      refine r_aload_n (x := t) d_X12_point_137 rfl o_t.1 ?_
      refine r_iload_n (x := x2) d_X12_point_138 rfl ?_
      refine r_iload_n (x := x1) d_X12_point_139 rfl ?_
      refine r_callV (Y2 := mX12_meets) (d := d - 1) (mc := 0) (ms := 0) (c := t) (As := [(0, x2), (0, x1)]) (S := []) d_X12_point_140 ok_mX12_meets ml_X12_312 rfl (rmc h0d (by decide)) rm00 (Nat.le_of_ble_eq_true rfl) rfl kX12 o_t.1 o_t.2.1 o_t.2.2.1 o_t.2.2.2 (MC.mono h (fun r N1 Λ1 σ10 hq => ?_))
      obtain ⟨rfl, rfl, rfl, h⟩ := hq
      exact r_vret d_X12_point_143 rfl (Nat.le_refl 0) (Nat.le_refl 0) ⟨rfl, rfl, rfl, h⟩
    · have h := h.2 hc
      refine r_aload_n (x := t) d_X12_point_40 rfl o_t.1 ?_
      refine r_iload_n (x := x1) d_X12_point_41 rfl ?_
      refine r_aload_n (x := t) d_X12_point_42 rfl o_t.1 ?_
      refine r_callV (Y2 := mX12_see) (d := d - 1) (mc := 0) (ms := 0) (c := t) (As := []) (S := [(0, x1), (2, t)]) d_X12_point_43 ok_mX12_see ml_X12_264 rfl (rmc h0d (by decide)) rm00 (Nat.le_of_ble_eq_true rfl) rfl kX12 o_t.1 o_t.2.1 o_t.2.2.1 o_t.2.2.2 (MC.mono h (fun r N1 Λ1 σ11 hq => ?_))
      obtain ⟨v12, rfl, rfl, rfl, h⟩ := hq
      refine r_bipush (x := 97) d_X12_point_46 ⟨by decide, by decide⟩ (by decide) ?_
      refine r_isub d_X12_point_48 ?_
      refine r_callS (Y2 := mX12_rowOf) (d := d - 1) (mc := 0) (ms := 0) (As := [(0, x1), (0, (subI v12 97))]) (S := [(2, t)]) d_X12_point_49 ok_mX12_rowOf ml_X12_306 rfl (rmc h0d (by decide)) rm00 (Nat.le_of_ble_eq_true rfl) rfl (MC.mono h (fun r N1 Λ1 σ13 hq => ?_))
      obtain ⟨v14, rfl, rfl, rfl, h⟩ := hq
      refine r_iconst (x := 0) d_X12_point_52 ⟨by decide, by decide⟩ ?_
      refine r_lconst d_X12_point_53 ?_
      skip
      refine r_callV (Y2 := mX12_puts) (d := d - 1) (mc := 0) (ms := 0) (c := t) (As := [(0, v14), (0, 0), (1, 1)]) (S := []) d_X12_point_54 ok_mX12_puts ml_X12_147 rfl (rmc h0d (by decide)) rm00 (Nat.le_of_ble_eq_true rfl) rfl kX12 o_t.1 o_t.2.1 o_t.2.2.1 o_t.2.2.2 (MC.mono h (fun r N1 Λ1 σ15 hq => ?_))
      obtain ⟨v16, rfl, rfl, rfl, h⟩ := hq
      refine r_pop d_X12_point_57 rfl ?_
      refine r_aload_n (x := t) d_X12_point_58 rfl o_t.1 ?_
      refine r_dup d_X12_point_59 rfl ?_
      refine r_getf (j := 21) (t := 0) (x := (σ15 t 21)) d_X12_point_60 kX12 (by decide) fl_X12_255 o_t.1 o_t.2.1 o_t.2.2.1 o_t.2.2.2 rfl rfl ?_
      refine r_iconst (x := 1) d_X12_point_63 ⟨by decide, by decide⟩ ?_
      refine r_iadd d_X12_point_64 ?_
      refine r_putI (j := 21) d_X12_point_65 kX12 (by decide) fl_X12_255 rfl o_t.1 o_t.2.1 o_t.2.2.1 o_t.2.2.2 rfl ?_
      refine r_nmM (fun τ17 eτ17 => ?_)
      have h := h τ17 eτ17
      exact r_vret d_X12_point_68 rfl (Nat.le_refl 0) (Nat.le_refl 0) ⟨rfl, rfl, rfl, h⟩
  · have h := h.2 hc
    refine r_aload_n (x := t) d_X12_point_16 rfl o_t.1 ?_
    refine r_iload_n (x := x1) d_X12_point_17 rfl ?_
    refine r_iload_n (x := x3) d_X12_point_18 rfl ?_
    refine r_callS (Y2 := mX12_rowOf) (d := d - 1) (mc := 0) (ms := 0) (As := [(0, x1), (0, x3)]) (S := [(2, t)]) d_X12_point_19 ok_mX12_rowOf ml_X12_306 rfl (rmc h0d (by decide)) rm00 (Nat.le_of_ble_eq_true rfl) rfl (MC.mono h (fun r N1 Λ1 σ18 hq => ?_))
    obtain ⟨v19, rfl, rfl, rfl, h⟩ := hq
    refine r_callV (Y2 := mX12_empties) (d := d - 1) (mc := 0) (ms := 0) (c := t) (As := [(0, v19)]) (S := []) d_X12_point_22 ok_mX12_empties ml_X12_105 rfl (rmc h0d (by decide)) rm00 (Nat.le_of_ble_eq_true rfl) rfl kX12 o_t.1 o_t.2.1 o_t.2.2.1 o_t.2.2.2 (MC.mono h (fun r N1 Λ1 σ20 hq => ?_))
    obtain ⟨rfl, rfl, rfl, h⟩ := hq
    refine x_iinc (x := x3) (L := [(2, t), (0, x1), (0, x2), (0, x3)]) d_X12_point_25 rfl (by decide) rfl (fun y21 ey21 => ?_)
    have h := h y21 ey21
    show WP _ _ _ _ _ _ _ _ [(2, t), (0, x1), (0, x2), (0, y21)] _ _ _ _
    refine r_goto (tgt := 10) d_X12_point_28 rfl ?_
    exact h
theorem v_X12_meets_0 {l : Launch} {d N : Nat} {Λ : Lay} {P : Mem → Prop} {σ : Mem} {x1 x2 t : Int} (o_t : Ob N Λ t 21 36) (h0d : 1 ≤ d)
    (h : (((σ t 8) = 0 → (CV l mX12_brackets (d - 1) [(2, t), (0, x1), (0, (addI x1 2)), (0, (addI x1 3)), (0, 3)] N Λ σ (fun σ1 => (CV l mX12_brackets (d - 1) [(2, t), (0, (addI x1 1)), (0, (addI x1 2)), (0, (addI x1 3)), (0, 4)] N Λ σ1 (fun σ2 => WV l mX12_meets d P 36 [(2, t), (0, x1), (0, x2), (0, 0)] [] N Λ σ2))))) ∧ (¬ ((σ t 8) = 0) → P σ))) :
    WV l mX12_meets d P 0 [(2, t), (0, x1), (0, x2), (3, 0)] [] N Λ σ := by
  refine r_aload_n (x := t) d_X12_meets_0 rfl o_t.1 ?_
  refine r_getf (j := 8) (t := 0) (x := (σ t 8)) d_X12_meets_1 kX12 (by decide) fl_X12_102 o_t.1 o_t.2.1 o_t.2.2.1 o_t.2.2.2 rfl rfl ?_
  refine r_if_eq (tgt := 8) d_X12_meets_4 rfl (fun hc => ?_) (fun hc => ?_)
  · have h := h.1 hc
    refine r_aload_n (x := t) d_X12_meets_8 rfl o_t.1 ?_
    refine r_iload_n (x := x1) d_X12_meets_9 rfl ?_
    refine r_iload_n (x := x1) d_X12_meets_10 rfl ?_
    refine r_iconst (x := 2) d_X12_meets_11 ⟨by decide, by decide⟩ ?_
    refine r_iadd d_X12_meets_12 ?_
    refine r_iload_n (x := x1) d_X12_meets_13 rfl ?_
    refine r_iconst (x := 3) d_X12_meets_14 ⟨by decide, by decide⟩ ?_
    refine r_iadd d_X12_meets_15 ?_
    refine r_iconst (x := 3) d_X12_meets_16 ⟨by decide, by decide⟩ ?_
    refine r_callV (Y2 := mX12_brackets) (d := d - 1) (mc := 0) (ms := 0) (c := t) (As := [(0, x1), (0, (addI x1 2)), (0, (addI x1 3)), (0, 3)]) (S := []) d_X12_meets_17 ok_mX12_brackets ml_X12_315 rfl (rmc h0d (by decide)) rm00 (Nat.le_of_ble_eq_true rfl) rfl kX12 o_t.1 o_t.2.1 o_t.2.2.1 o_t.2.2.2 (MC.mono h (fun r N1 Λ1 σ1 hq => ?_))
    obtain ⟨rfl, rfl, rfl, h⟩ := hq
    refine r_aload_n (x := t) d_X12_meets_20 rfl o_t.1 ?_
    refine r_iload_n (x := x1) d_X12_meets_21 rfl ?_
    refine r_iconst (x := 1) d_X12_meets_22 ⟨by decide, by decide⟩ ?_
    refine r_iadd d_X12_meets_23 ?_
    refine r_iload_n (x := x1) d_X12_meets_24 rfl ?_
    refine r_iconst (x := 2) d_X12_meets_25 ⟨by decide, by decide⟩ ?_
    refine r_iadd d_X12_meets_26 ?_
    refine r_iload_n (x := x1) d_X12_meets_27 rfl ?_
    refine r_iconst (x := 3) d_X12_meets_28 ⟨by decide, by decide⟩ ?_
    refine r_iadd d_X12_meets_29 ?_
    refine r_iconst (x := 4) d_X12_meets_30 ⟨by decide, by decide⟩ ?_
    refine r_callV (Y2 := mX12_brackets) (d := d - 1) (mc := 0) (ms := 0) (c := t) (As := [(0, (addI x1 1)), (0, (addI x1 2)), (0, (addI x1 3)), (0, 4)]) (S := []) d_X12_meets_31 ok_mX12_brackets ml_X12_315 rfl (rmc h0d (by decide)) rm00 (Nat.le_of_ble_eq_true rfl) rfl kX12 o_t.1 o_t.2.1 o_t.2.2.1 o_t.2.2.2 (MC.mono h (fun r N1 Λ1 σ2 hq => ?_))
    obtain ⟨rfl, rfl, rfl, h⟩ := hq
    refine r_iconst (x := 0) d_X12_meets_34 ⟨by decide, by decide⟩ ?_
    refine r_istore_n (L2 := [(2, t), (0, x1), (0, x2), (0, 0)]) d_X12_meets_35 (by decide) rfl rfl ?_
    exact h
  · have h := h.2 hc
    exact r_vret d_X12_meets_7 rfl (Nat.le_refl 0) (Nat.le_refl 0) ⟨rfl, rfl, rfl, h⟩
theorem v_X12_meets_36 {l : Launch} {d N : Nat} {Λ : Lay} {P : Mem → Prop} {σ : Mem} {x1 x2 x3 t : Int} (o_t : Ob N Λ t 21 36) (h0d : 1 ≤ d)
    (h : ((10 ≤ x3 → WV l mX12_meets d P 75 [(2, t), (0, x1), (0, x2), (0, 0)] [] N Λ σ) ∧ (¬ (10 ≤ x3) → ((¬ (σ t 8) = 0 → WV l mX12_meets d P 75 [(2, t), (0, x1), (0, x2), (0, 0)] [] N Λ σ) ∧ ((σ t 8) = 0 → (CI l mX12_rowOf (d - 1) [(0, (addI x1 1)), (0, x3)] N Λ σ (fun v2 σ1 => (CI l mX12_rowOf (d - 1) [(0, x2), (0, x3)] N Λ σ1 (fun v4 σ3 => (CV l mX12_putsProduct (d - 1) [(2, t), (0, 3), (0, v2), (1, 1), (0, v4)] N Λ σ3 (fun σ5 => (∀ y6, y6 = addI x3 1 → WV l mX12_meets d P 36 [(2, t), (0, x1), (0, x2), (0, y6)] [] N Λ σ5)))))))))))) :
    WV l mX12_meets d P 36 [(2, t), (0, x1), (0, x2), (0, x3)] [] N Λ σ := by
  refine r_iload_n (x := x3) d_X12_meets_36 rfl ?_
  refine r_bipush (x := 10) d_X12_meets_37 ⟨by decide, by decide⟩ (by decide) ?_
  refine r_ic_ge (tgt := 73) d_X12_meets_39 rfl (fun hc => ?_) (fun hc => ?_)
  · have h := h.1 hc
    refine r_iconst (x := 0) d_X12_meets_73 ⟨by decide, by decide⟩ ?_
    refine r_istore_n (L2 := [(2, t), (0, x1), (0, x2), (0, 0)]) d_X12_meets_74 (by decide) rfl rfl ?_
    exact h
  · have h := h.2 hc
    refine r_aload_n (x := t) d_X12_meets_42 rfl o_t.1 ?_
    refine r_getf (j := 8) (t := 0) (x := (σ t 8)) d_X12_meets_43 kX12 (by decide) fl_X12_102 o_t.1 o_t.2.1 o_t.2.2.1 o_t.2.2.2 rfl rfl ?_
    refine r_if_ne (tgt := 73) d_X12_meets_46 rfl (fun hc => ?_) (fun hc => ?_)
    · have h := h.1 hc
      refine r_iconst (x := 0) d_X12_meets_73 ⟨by decide, by decide⟩ ?_
      refine r_istore_n (L2 := [(2, t), (0, x1), (0, x2), (0, 0)]) d_X12_meets_74 (by decide) rfl rfl ?_
      exact h
    · have h := h.2 hc
      refine r_aload_n (x := t) d_X12_meets_49 rfl o_t.1 ?_
      refine r_iconst (x := 3) d_X12_meets_50 ⟨by decide, by decide⟩ ?_
      refine r_iload_n (x := x1) d_X12_meets_51 rfl ?_
      refine r_iconst (x := 1) d_X12_meets_52 ⟨by decide, by decide⟩ ?_
      refine r_iadd d_X12_meets_53 ?_
      refine r_iload_n (x := x3) d_X12_meets_54 rfl ?_
      refine r_callS (Y2 := mX12_rowOf) (d := d - 1) (mc := 0) (ms := 0) (As := [(0, (addI x1 1)), (0, x3)]) (S := [(0, 3), (2, t)]) d_X12_meets_55 ok_mX12_rowOf ml_X12_306 rfl (rmc h0d (by decide)) rm00 (Nat.le_of_ble_eq_true rfl) rfl (MC.mono h (fun r N1 Λ1 σ1 hq => ?_))
      obtain ⟨v2, rfl, rfl, rfl, h⟩ := hq
      refine r_lconst d_X12_meets_58 ?_
      skip
      refine r_iload_n (x := x2) d_X12_meets_59 rfl ?_
      refine r_iload_n (x := x3) d_X12_meets_60 rfl ?_
      refine r_callS (Y2 := mX12_rowOf) (d := d - 1) (mc := 0) (ms := 0) (As := [(0, x2), (0, x3)]) (S := [(1, 1), (0, v2), (0, 3), (2, t)]) d_X12_meets_61 ok_mX12_rowOf ml_X12_306 rfl (rmc h0d (by decide)) rm00 (Nat.le_of_ble_eq_true rfl) rfl (MC.mono h (fun r N1 Λ1 σ3 hq => ?_))
      obtain ⟨v4, rfl, rfl, rfl, h⟩ := hq
      refine r_callV (Y2 := mX12_putsProduct) (d := d - 1) (mc := 0) (ms := 0) (c := t) (As := [(0, 3), (0, v2), (1, 1), (0, v4)]) (S := []) d_X12_meets_64 ok_mX12_putsProduct ml_X12_318 rfl (rmc h0d (by decide)) rm00 (Nat.le_of_ble_eq_true rfl) rfl kX12 o_t.1 o_t.2.1 o_t.2.2.1 o_t.2.2.2 (MC.mono h (fun r N1 Λ1 σ5 hq => ?_))
      obtain ⟨rfl, rfl, rfl, h⟩ := hq
      refine x_iinc (x := x3) (L := [(2, t), (0, x1), (0, x2), (0, x3)]) d_X12_meets_67 rfl (by decide) rfl (fun y6 ey6 => ?_)
      have h := h y6 ey6
      show WP _ _ _ _ _ _ _ _ [(2, t), (0, x1), (0, x2), (0, y6)] _ _ _ _
      refine r_goto (tgt := 36) d_X12_meets_70 rfl ?_
      exact h
theorem v_X12_meets_75 {l : Launch} {d N : Nat} {Λ : Lay} {P : Mem → Prop} {σ : Mem} {x1 x2 x3 t : Int} (o_t : Ob N Λ t 21 36) (h0d : 1 ≤ d)
    (h : ((10 ≤ x3 → P σ) ∧ (¬ (10 ≤ x3) → ((¬ (σ t 8) = 0 → P σ) ∧ ((σ t 8) = 0 → (CI l mX12_rowOf (d - 1) [(0, x1), (0, x3)] N Λ σ (fun v2 σ1 => (CI l mX12_rowOf (d - 1) [(0, x2), (0, x3)] N Λ σ1 (fun v4 σ3 => (CV l mX12_putsProduct (d - 1) [(2, t), (0, 4), (0, v2), (1, (-1)), (0, v4)] N Λ σ3 (fun σ5 => (∀ y6, y6 = addI x3 1 → WV l mX12_meets d P 75 [(2, t), (0, x1), (0, x2), (0, y6)] [] N Λ σ5)))))))))))) :
    WV l mX12_meets d P 75 [(2, t), (0, x1), (0, x2), (0, x3)] [] N Λ σ := by
  refine r_iload_n (x := x3) d_X12_meets_75 rfl ?_
  refine r_bipush (x := 10) d_X12_meets_76 ⟨by decide, by decide⟩ (by decide) ?_
  refine r_ic_ge (tgt := 112) d_X12_meets_78 rfl (fun hc => ?_) (fun hc => ?_)
  · have h := h.1 hc
    exact r_vret d_X12_meets_112 rfl (Nat.le_refl 0) (Nat.le_refl 0) ⟨rfl, rfl, rfl, h⟩
  · have h := h.2 hc
    refine r_aload_n (x := t) d_X12_meets_81 rfl o_t.1 ?_
    refine r_getf (j := 8) (t := 0) (x := (σ t 8)) d_X12_meets_82 kX12 (by decide) fl_X12_102 o_t.1 o_t.2.1 o_t.2.2.1 o_t.2.2.2 rfl rfl ?_
    refine r_if_ne (tgt := 112) d_X12_meets_85 rfl (fun hc => ?_) (fun hc => ?_)
    · have h := h.1 hc
      exact r_vret d_X12_meets_112 rfl (Nat.le_refl 0) (Nat.le_refl 0) ⟨rfl, rfl, rfl, h⟩
    · have h := h.2 hc
      refine r_aload_n (x := t) d_X12_meets_88 rfl o_t.1 ?_
      refine r_iconst (x := 4) d_X12_meets_89 ⟨by decide, by decide⟩ ?_
      refine r_iload_n (x := x1) d_X12_meets_90 rfl ?_
      refine r_iload_n (x := x3) d_X12_meets_91 rfl ?_
      refine r_callS (Y2 := mX12_rowOf) (d := d - 1) (mc := 0) (ms := 0) (As := [(0, x1), (0, x3)]) (S := [(0, 4), (2, t)]) d_X12_meets_92 ok_mX12_rowOf ml_X12_306 rfl (rmc h0d (by decide)) rm00 (Nat.le_of_ble_eq_true rfl) rfl (MC.mono h (fun r N1 Λ1 σ1 hq => ?_))
      obtain ⟨v2, rfl, rfl, rfl, h⟩ := hq
      refine r_ldc2 (x := (-1)) d_X12_meets_95 ck_X12_166 (by decide) ?_
      refine r_iload_n (x := x2) d_X12_meets_98 rfl ?_
      refine r_iload_n (x := x3) d_X12_meets_99 rfl ?_
      refine r_callS (Y2 := mX12_rowOf) (d := d - 1) (mc := 0) (ms := 0) (As := [(0, x2), (0, x3)]) (S := [(1, (-1)), (0, v2), (0, 4), (2, t)]) d_X12_meets_100 ok_mX12_rowOf ml_X12_306 rfl (rmc h0d (by decide)) rm00 (Nat.le_of_ble_eq_true rfl) rfl (MC.mono h (fun r N1 Λ1 σ3 hq => ?_))
      obtain ⟨v4, rfl, rfl, rfl, h⟩ := hq
      refine r_callV (Y2 := mX12_putsProduct) (d := d - 1) (mc := 0) (ms := 0) (c := t) (As := [(0, 4), (0, v2), (1, (-1)), (0, v4)]) (S := []) d_X12_meets_103 ok_mX12_putsProduct ml_X12_318 rfl (rmc h0d (by decide)) rm00 (Nat.le_of_ble_eq_true rfl) rfl kX12 o_t.1 o_t.2.1 o_t.2.2.1 o_t.2.2.2 (MC.mono h (fun r N1 Λ1 σ5 hq => ?_))
      obtain ⟨rfl, rfl, rfl, h⟩ := hq
      refine x_iinc (x := x3) (L := [(2, t), (0, x1), (0, x2), (0, x3)]) d_X12_meets_106 rfl (by decide) rfl (fun y6 ey6 => ?_)
      have h := h y6 ey6
      show WP _ _ _ _ _ _ _ _ [(2, t), (0, x1), (0, x2), (0, y6)] _ _ _ _
      refine r_goto (tgt := 75) d_X12_meets_109 rfl ?_
      exact h
theorem v_X12_putsProduct_0 {l : Launch} {d N : Nat} {Λ : Lay} {P : Mem → Prop} {σ : Mem} {x1 x2 x3 x5 t : Int} (o_t : Ob N Λ t 21 36) (h0d : 1 ≤ d)
    (h : (CV l mX12_empties (d - 1) [(2, t), (0, 5)] N Λ σ (fun σ1 => (CV l mX12_multiplies (d - 1) [(2, t), (0, x1), (0, x2), (0, 1), (0, 5)] N Λ σ1 (fun σ2 => WV l mX12_putsProduct d P 16 [(2, t), (0, x1), (0, x2), (1, x3), (3, 0), (0, x5), (0, 0)] [] N Λ σ2))))) :
    WV l mX12_putsProduct d P 0 [(2, t), (0, x1), (0, x2), (1, x3), (3, 0), (0, x5), (3, 0)] [] N Λ σ := by
  refine r_aload_n (x := t) d_X12_putsProduct_0 rfl o_t.1 ?_
  refine r_iconst (x := 5) d_X12_putsProduct_1 ⟨by decide, by decide⟩ ?_
  refine r_callV (Y2 := mX12_empties) (d := d - 1) (mc := 0) (ms := 0) (c := t) (As := [(0, 5)]) (S := []) d_X12_putsProduct_2 ok_mX12_empties ml_X12_105 rfl (rmc h0d (by decide)) rm00 (Nat.le_of_ble_eq_true rfl) rfl kX12 o_t.1 o_t.2.1 o_t.2.2.1 o_t.2.2.2 (MC.mono h (fun r N1 Λ1 σ1 hq => ?_))
  obtain ⟨rfl, rfl, rfl, h⟩ := hq
  refine r_aload_n (x := t) d_X12_putsProduct_5 rfl o_t.1 ?_
  refine r_iload_n (x := x1) d_X12_putsProduct_6 rfl ?_
  refine r_iload_n (x := x2) d_X12_putsProduct_7 rfl ?_
  refine r_iconst (x := 1) d_X12_putsProduct_8 ⟨by decide, by decide⟩ ?_
  refine r_iconst (x := 5) d_X12_putsProduct_9 ⟨by decide, by decide⟩ ?_
  refine r_callV (Y2 := mX12_multiplies) (d := d - 1) (mc := 0) (ms := 0) (c := t) (As := [(0, x1), (0, x2), (0, 1), (0, 5)]) (S := []) d_X12_putsProduct_10 ok_mX12_multiplies ml_X12_231 rfl (rmc h0d (by decide)) rm00 (Nat.le_of_ble_eq_true rfl) rfl kX12 o_t.1 o_t.2.1 o_t.2.2.1 o_t.2.2.2 (MC.mono h (fun r N1 Λ1 σ2 hq => ?_))
  obtain ⟨rfl, rfl, rfl, h⟩ := hq
  refine r_iconst (x := 0) d_X12_putsProduct_13 ⟨by decide, by decide⟩ ?_
  refine r_istore (L2 := [(2, t), (0, x1), (0, x2), (1, x3), (3, 0), (0, x5), (0, 0)]) d_X12_putsProduct_14 (by decide) rfl rfl ?_
  exact h
theorem v_X12_putsProduct_16 {l : Launch} {d N : Nat} {Λ : Lay} {P : Mem → Prop} {σ : Mem} {x1 x2 x3 x5 x6 t : Int} (o_t : Ob N Λ t 21 36) (h0d : 1 ≤ d)
    (h : (CI l mX12_many (d - 1) [(2, t), (0, 5)] N Λ σ (fun v2 σ1 => ((v2 ≤ x6 → P σ1) ∧ (¬ (v2 ≤ x6) → (CI l mX12_key (d - 1) [(2, t), (0, 5), (0, x6)] N Λ σ1 (fun v4 σ3 => (CI l mX12_number (d - 1) [(2, t), (0, 5), (0, x6)] N Λ σ3 (fun v6 σ5 => (CI l mX12_puts (d - 1) [(2, t), (0, x5), (0, v4), (1, (mulL x3 v6))] N Λ σ5 (fun v8 σ7 => (∀ y9, y9 = addI x6 1 → WV l mX12_putsProduct d P 16 [(2, t), (0, x1), (0, x2), (1, x3), (3, 0), (0, x5), (0, y9)] [] N Λ σ7)))))))))))) :
    WV l mX12_putsProduct d P 16 [(2, t), (0, x1), (0, x2), (1, x3), (3, 0), (0, x5), (0, x6)] [] N Λ σ := by
  refine r_iload (x := x6) d_X12_putsProduct_16 rfl ?_
  refine r_aload_n (x := t) d_X12_putsProduct_18 rfl o_t.1 ?_
  refine r_iconst (x := 5) d_X12_putsProduct_19 ⟨by decide, by decide⟩ ?_
  refine r_callV (Y2 := mX12_many) (d := d - 1) (mc := 0) (ms := 0) (c := t) (As := [(0, 5)]) (S := [(0, x6)]) d_X12_putsProduct_20 ok_mX12_many ml_X12_113 rfl (rmc h0d (by decide)) rm00 (Nat.le_of_ble_eq_true rfl) rfl kX12 o_t.1 o_t.2.1 o_t.2.2.1 o_t.2.2.2 (MC.mono h (fun r N1 Λ1 σ1 hq => ?_))
  obtain ⟨v2, rfl, rfl, rfl, h⟩ := hq
  refine r_ic_ge (tgt := 56) d_X12_putsProduct_23 rfl (fun hc => ?_) (fun hc => ?_)
  · have h := h.1 hc
    exact r_vret d_X12_putsProduct_56 rfl (Nat.le_refl 0) (Nat.le_refl 0) ⟨rfl, rfl, rfl, h⟩
  · have h := h.2 hc
    refine r_aload_n (x := t) d_X12_putsProduct_26 rfl o_t.1 ?_
    refine r_iload (x := x5) d_X12_putsProduct_27 rfl ?_
    refine r_aload_n (x := t) d_X12_putsProduct_29 rfl o_t.1 ?_
    refine r_iconst (x := 5) d_X12_putsProduct_30 ⟨by decide, by decide⟩ ?_
    refine r_iload (x := x6) d_X12_putsProduct_31 rfl ?_
    refine r_callV (Y2 := mX12_key) (d := d - 1) (mc := 0) (ms := 0) (c := t) (As := [(0, 5), (0, x6)]) (S := [(0, x5), (2, t)]) d_X12_putsProduct_33 ok_mX12_key ml_X12_117 rfl (rmc h0d (by decide)) rm00 (Nat.le_of_ble_eq_true rfl) rfl kX12 o_t.1 o_t.2.1 o_t.2.2.1 o_t.2.2.2 (MC.mono h (fun r N1 Λ1 σ3 hq => ?_))
    obtain ⟨v4, rfl, rfl, rfl, h⟩ := hq
    refine r_lload_n (x := x3) d_X12_putsProduct_36 rfl ?_
    refine r_aload_n (x := t) d_X12_putsProduct_37 rfl o_t.1 ?_
    refine r_iconst (x := 5) d_X12_putsProduct_38 ⟨by decide, by decide⟩ ?_
    refine r_iload (x := x6) d_X12_putsProduct_39 rfl ?_
    refine r_callV (Y2 := mX12_number) (d := d - 1) (mc := 0) (ms := 0) (c := t) (As := [(0, 5), (0, x6)]) (S := [(1, x3), (0, v4), (0, x5), (2, t)]) d_X12_putsProduct_41 ok_mX12_number ml_X12_132 rfl (rmc h0d (by decide)) rm00 (Nat.le_of_ble_eq_true rfl) rfl kX12 o_t.1 o_t.2.1 o_t.2.2.1 o_t.2.2.2 (MC.mono h (fun r N1 Λ1 σ5 hq => ?_))
    obtain ⟨v6, rfl, rfl, rfl, h⟩ := hq
    refine r_i2l d_X12_putsProduct_44 ?_
    refine r_lmul d_X12_putsProduct_45 ?_
    refine r_callV (Y2 := mX12_puts) (d := d - 1) (mc := 0) (ms := 0) (c := t) (As := [(0, x5), (0, v4), (1, (mulL x3 v6))]) (S := []) d_X12_putsProduct_46 ok_mX12_puts ml_X12_147 rfl (rmc h0d (by decide)) rm00 (Nat.le_of_ble_eq_true rfl) rfl kX12 o_t.1 o_t.2.1 o_t.2.2.1 o_t.2.2.2 (MC.mono h (fun r N1 Λ1 σ7 hq => ?_))
    obtain ⟨v8, rfl, rfl, rfl, h⟩ := hq
    refine r_pop d_X12_putsProduct_49 rfl ?_
    refine x_iinc (x := x6) (L := [(2, t), (0, x1), (0, x2), (1, x3), (3, 0), (0, x5), (0, x6)]) d_X12_putsProduct_50 rfl (by decide) rfl (fun y9 ey9 => ?_)
    have h := h y9 ey9
    show WP _ _ _ _ _ _ _ _ [(2, t), (0, x1), (0, x2), (1, x3), (3, 0), (0, x5), (0, y9)] _ _ _ _
    refine r_goto (tgt := 16) d_X12_putsProduct_53 rfl ?_
    exact h
theorem v_X12_brackets_0 {l : Launch} {d N : Nat} {Λ : Lay} {P : Mem → Prop} {σ : Mem} {x1 x2 x3 x4 t : Int} (o_t : Ob N Λ t 21 36) (h0d : 1 ≤ d)
    (h : (CV l mX12_empties (d - 1) [(2, t), (0, x4)] N Λ σ (fun σ1 => WV l mX12_brackets d P 9 [(2, t), (0, x1), (0, x2), (0, x3), (0, x4), (0, 0), (3, 0), (3, 0), (3, 0)] [] N Λ σ1))) :
    WV l mX12_brackets d P 0 [(2, t), (0, x1), (0, x2), (0, x3), (0, x4), (3, 0), (3, 0), (3, 0), (3, 0)] [] N Λ σ := by
  refine r_aload_n (x := t) d_X12_brackets_0 rfl o_t.1 ?_
  refine r_iload (x := x4) d_X12_brackets_1 rfl ?_
  refine r_callV (Y2 := mX12_empties) (d := d - 1) (mc := 0) (ms := 0) (c := t) (As := [(0, x4)]) (S := []) d_X12_brackets_3 ok_mX12_empties ml_X12_105 rfl (rmc h0d (by decide)) rm00 (Nat.le_of_ble_eq_true rfl) rfl kX12 o_t.1 o_t.2.1 o_t.2.2.1 o_t.2.2.2 (MC.mono h (fun r N1 Λ1 σ1 hq => ?_))
  obtain ⟨rfl, rfl, rfl, h⟩ := hq
  refine r_iconst (x := 0) d_X12_brackets_6 ⟨by decide, by decide⟩ ?_
  refine r_istore (L2 := [(2, t), (0, x1), (0, x2), (0, x3), (0, x4), (0, 0), (3, 0), (3, 0), (3, 0)]) d_X12_brackets_7 (by decide) rfl rfl ?_
  exact h
theorem v_X12_brackets_9 {l : Launch} {d N : Nat} {Λ : Lay} {P : Mem → Prop} {σ : Mem} {x1 x2 x3 x4 x5 t : Int}
    (h : ((10 ≤ x5 → P σ) ∧ (¬ (10 ≤ x5) → WV l mX12_brackets d P 19 [(2, t), (0, x1), (0, x2), (0, x3), (0, x4), (0, x5), (0, 0), (3, 0), (3, 0)] [] N Λ σ))) :
    WV l mX12_brackets d P 9 [(2, t), (0, x1), (0, x2), (0, x3), (0, x4), (0, x5), (3, 0), (3, 0), (3, 0)] [] N Λ σ := by
  refine r_iload (x := x5) d_X12_brackets_9 rfl ?_
  refine r_bipush (x := 10) d_X12_brackets_11 ⟨by decide, by decide⟩ (by decide) ?_
  refine r_ic_ge (tgt := 157) d_X12_brackets_13 rfl (fun hc => ?_) (fun hc => ?_)
  · have h := h.1 hc
    exact r_vret d_X12_brackets_157 rfl (Nat.le_refl 0) (Nat.le_refl 0) ⟨rfl, rfl, rfl, h⟩
  · have h := h.2 hc
    refine r_iconst (x := 0) d_X12_brackets_16 ⟨by decide, by decide⟩ ?_
    refine r_istore (L2 := [(2, t), (0, x1), (0, x2), (0, x3), (0, x4), (0, x5), (0, 0), (3, 0), (3, 0)]) d_X12_brackets_17 (by decide) rfl rfl ?_
    exact h
theorem v_X12_brackets_19 {l : Launch} {d N : Nat} {Λ : Lay} {P : Mem → Prop} {σ : Mem} {x1 x2 x3 x4 x5 x6 t : Int}
    (h : ((10 ≤ x6 → (∀ y1, y1 = addI x5 1 → WV l mX12_brackets d P 9 [(2, t), (0, x1), (0, x2), (0, x3), (0, x4), (0, y1), (3, 0), (3, 0), (3, 0)] [] N Λ σ)) ∧ (¬ (10 ≤ x6) → WV l mX12_brackets d P 29 [(2, t), (0, x1), (0, x2), (0, x3), (0, x4), (0, x5), (0, x6), (0, 0), (3, 0)] [] N Λ σ))) :
    WV l mX12_brackets d P 19 [(2, t), (0, x1), (0, x2), (0, x3), (0, x4), (0, x5), (0, x6), (3, 0), (3, 0)] [] N Λ σ := by
  refine r_iload (x := x6) d_X12_brackets_19 rfl ?_
  refine r_bipush (x := 10) d_X12_brackets_21 ⟨by decide, by decide⟩ (by decide) ?_
  refine r_ic_ge (tgt := 151) d_X12_brackets_23 rfl (fun hc => ?_) (fun hc => ?_)
  · have h := h.1 hc
    refine x_iinc (x := x5) (L := [(2, t), (0, x1), (0, x2), (0, x3), (0, x4), (0, x5), (0, x6), (3, 0), (3, 0)]) d_X12_brackets_151 rfl (by decide) rfl (fun y1 ey1 => ?_)
    have h := h y1 ey1
    show WP _ _ _ _ _ _ _ _ [(2, t), (0, x1), (0, x2), (0, x3), (0, x4), (0, y1), (0, x6), (3, 0), (3, 0)] _ _ _ _
    refine r_goto (tgt := 9) d_X12_brackets_154 rfl ?_
    exact x_mask h ⟨Or.inr rfl, Or.inr rfl, Or.inr rfl, Or.inr rfl, Or.inr rfl, Or.inr rfl, Or.inl rfl, Or.inl rfl, Or.inl rfl, trivial⟩
  · have h := h.2 hc
    refine r_iconst (x := 0) d_X12_brackets_26 ⟨by decide, by decide⟩ ?_
    refine r_istore (L2 := [(2, t), (0, x1), (0, x2), (0, x3), (0, x4), (0, x5), (0, x6), (0, 0), (3, 0)]) d_X12_brackets_27 (by decide) rfl rfl ?_
    exact h
theorem v_X12_brackets_29 {l : Launch} {d N : Nat} {Λ : Lay} {P : Mem → Prop} {σ : Mem} {x1 x2 x3 x4 x5 x6 x7 t t_rankOf : Int} (o_t : Ob N Λ t 21 36) (f_t_rankOf : (Λ t).2.2 1 = t_rankOf) (h0d : 1 ≤ d)
    (h : ((10 ≤ x7 → (∀ y1, y1 = addI x6 1 → WV l mX12_brackets d P 19 [(2, t), (0, x1), (0, x2), (0, x3), (0, x4), (0, x5), (0, y1), (3, 0), (3, 0)] [] N Λ σ)) ∧ (¬ (10 ≤ x7) → ((¬ (σ t 8) = 0 → (∀ y2, y2 = addI x6 1 → WV l mX12_brackets d P 19 [(2, t), (0, x1), (0, x2), (0, x3), (0, x4), (0, x5), (0, y2), (3, 0), (3, 0)] [] N Λ σ)) ∧ ((σ t 8) = 0 → (CI l mX12_rowOf (d - 1) [(0, x1), (0, x5)] N Λ σ (fun v4 σ3 => (CI l mX12_many (d - 1) [(2, t), (0, v4)] N Λ σ3 (fun v6 σ5 => ((v6 ≤ 0 → (∀ y7, y7 = addI x7 1 → WV l mX12_brackets d P 29 [(2, t), (0, x1), (0, x2), (0, x3), (0, x4), (0, x5), (0, x6), (0, y7), (3, 0)] [] N Λ σ5)) ∧ (¬ (v6 ≤ 0) → (CI l mX12_rowOf (d - 1) [(0, x2), (0, x6)] N Λ σ5 (fun v9 σ8 => (CI l mX12_many (d - 1) [(2, t), (0, v9)] N Λ σ8 (fun v11 σ10 => ((v11 ≤ 0 → (∀ y12, y12 = addI x7 1 → WV l mX12_brackets d P 29 [(2, t), (0, x1), (0, x2), (0, x3), (0, x4), (0, x5), (0, x6), (0, y12), (3, 0)] [] N Λ σ10)) ∧ (¬ (v11 ≤ 0) → (CI l mX12_rowOf (d - 1) [(0, x3), (0, x7)] N Λ σ10 (fun v14 σ13 => (CI l mX12_many (d - 1) [(2, t), (0, v14)] N Λ σ13 (fun v16 σ15 => ((v16 ≤ 0 → (∀ y17, y17 = addI x7 1 → WV l mX12_brackets d P 29 [(2, t), (0, x1), (0, x2), (0, x3), (0, x4), (0, x5), (0, x6), (0, y17), (3, 0)] [] N Λ σ15)) ∧ (¬ (v16 ≤ 0) → (Ix N Λ t_rankOf 0 (addI (addI (mulI 100 x5) (mulI 10 x6)) x7) ∧ (((σ15 t_rankOf (addI (addI (mulI 100 x5) (mulI 10 x6)) x7)) = 0 → (∀ y18, y18 = addI x7 1 → WV l mX12_brackets d P 29 [(2, t), (0, x1), (0, x2), (0, x3), (0, x4), (0, x5), (0, x6), (0, y18), (3, 0)] [] N Λ σ15)) ∧ (¬ ((σ15 t_rankOf (addI (addI (mulI 100 x5) (mulI 10 x6)) x7)) = 0) → (CV l mX12_addsBracket (d - 1) [(2, t), (0, x1), (0, x2), (0, x3), (0, (addI (addI (mulI 100 x5) (mulI 10 x6)) x7)), (0, x4)] N Λ σ15 (fun σ19 => (∀ y20, y20 = addI x7 1 → WV l mX12_brackets d P 29 [(2, t), (0, x1), (0, x2), (0, x3), (0, x4), (0, x5), (0, x6), (0, y20), (3, 0)] [] N Λ σ19))))))))))))))))))))))))))))) :
    WV l mX12_brackets d P 29 [(2, t), (0, x1), (0, x2), (0, x3), (0, x4), (0, x5), (0, x6), (0, x7), (3, 0)] [] N Λ σ := by
  refine r_iload (x := x7) d_X12_brackets_29 rfl ?_
  refine r_bipush (x := 10) d_X12_brackets_31 ⟨by decide, by decide⟩ (by decide) ?_
  refine r_ic_ge (tgt := 145) d_X12_brackets_33 rfl (fun hc => ?_) (fun hc => ?_)
  · have h := h.1 hc
    refine x_iinc (x := x6) (L := [(2, t), (0, x1), (0, x2), (0, x3), (0, x4), (0, x5), (0, x6), (0, x7), (3, 0)]) d_X12_brackets_145 rfl (by decide) rfl (fun y1 ey1 => ?_)
    have h := h y1 ey1
    show WP _ _ _ _ _ _ _ _ [(2, t), (0, x1), (0, x2), (0, x3), (0, x4), (0, x5), (0, y1), (0, x7), (3, 0)] _ _ _ _
    refine r_goto (tgt := 19) d_X12_brackets_148 rfl ?_
    exact x_mask h ⟨Or.inr rfl, Or.inr rfl, Or.inr rfl, Or.inr rfl, Or.inr rfl, Or.inr rfl, Or.inr rfl, Or.inl rfl, Or.inl rfl, trivial⟩
  · have h := h.2 hc
    refine r_aload_n (x := t) d_X12_brackets_36 rfl o_t.1 ?_
    refine r_getf (j := 8) (t := 0) (x := (σ t 8)) d_X12_brackets_37 kX12 (by decide) fl_X12_102 o_t.1 o_t.2.1 o_t.2.2.1 o_t.2.2.2 rfl rfl ?_
    refine r_if_ne (tgt := 145) d_X12_brackets_40 rfl (fun hc => ?_) (fun hc => ?_)
    · have h := h.1 hc
      refine x_iinc (x := x6) (L := [(2, t), (0, x1), (0, x2), (0, x3), (0, x4), (0, x5), (0, x6), (0, x7), (3, 0)]) d_X12_brackets_145 rfl (by decide) rfl (fun y2 ey2 => ?_)
      have h := h y2 ey2
      show WP _ _ _ _ _ _ _ _ [(2, t), (0, x1), (0, x2), (0, x3), (0, x4), (0, x5), (0, y2), (0, x7), (3, 0)] _ _ _ _
      refine r_goto (tgt := 19) d_X12_brackets_148 rfl ?_
      exact x_mask h ⟨Or.inr rfl, Or.inr rfl, Or.inr rfl, Or.inr rfl, Or.inr rfl, Or.inr rfl, Or.inr rfl, Or.inl rfl, Or.inl rfl, trivial⟩
    · have h := h.2 hc
      refine r_aload_n (x := t) d_X12_brackets_43 rfl o_t.1 ?_
      refine r_iload_n (x := x1) d_X12_brackets_44 rfl ?_
      refine r_iload (x := x5) d_X12_brackets_45 rfl ?_
      refine r_callS (Y2 := mX12_rowOf) (d := d - 1) (mc := 0) (ms := 0) (As := [(0, x1), (0, x5)]) (S := [(2, t)]) d_X12_brackets_47 ok_mX12_rowOf ml_X12_306 rfl (rmc h0d (by decide)) rm00 (Nat.le_of_ble_eq_true rfl) rfl (MC.mono h (fun r N1 Λ1 σ3 hq => ?_))
      obtain ⟨v4, rfl, rfl, rfl, h⟩ := hq
      refine r_callV (Y2 := mX12_many) (d := d - 1) (mc := 0) (ms := 0) (c := t) (As := [(0, v4)]) (S := []) d_X12_brackets_50 ok_mX12_many ml_X12_113 rfl (rmc h0d (by decide)) rm00 (Nat.le_of_ble_eq_true rfl) rfl kX12 o_t.1 o_t.2.1 o_t.2.2.1 o_t.2.2.2 (MC.mono h (fun r N1 Λ1 σ5 hq => ?_))
      obtain ⟨v6, rfl, rfl, rfl, h⟩ := hq
      refine r_if_le (tgt := 86) d_X12_brackets_53 rfl (fun hc => ?_) (fun hc => ?_)
      · have h := h.1 hc
        refine r_iconst (x := 0) d_X12_brackets_86 ⟨by decide, by decide⟩ ?_
        refine r_istore (L2 := [(2, t), (0, x1), (0, x2), (0, x3), (0, x4), (0, x5), (0, x6), (0, x7), (0, 0)]) d_X12_brackets_87 (by decide) rfl rfl ?_
        refine r_iload (x := 0) d_X12_brackets_89 rfl ?_
        refine r_if_eq (tgt := 139) d_X12_brackets_91 rfl (fun _ => ?_) (fun hc => absurd hc (by decide))
        refine x_iinc (x := x7) (L := [(2, t), (0, x1), (0, x2), (0, x3), (0, x4), (0, x5), (0, x6), (0, x7), (0, 0)]) d_X12_brackets_139 rfl (by decide) rfl (fun y7 ey7 => ?_)
        have h := h y7 ey7
        show WP _ _ _ _ _ _ _ _ [(2, t), (0, x1), (0, x2), (0, x3), (0, x4), (0, x5), (0, x6), (0, y7), (0, 0)] _ _ _ _
        refine r_goto (tgt := 29) d_X12_brackets_142 rfl ?_
        exact x_mask h ⟨Or.inr rfl, Or.inr rfl, Or.inr rfl, Or.inr rfl, Or.inr rfl, Or.inr rfl, Or.inr rfl, Or.inr rfl, Or.inl rfl, trivial⟩
      · have h := h.2 hc
        refine r_aload_n (x := t) d_X12_brackets_56 rfl o_t.1 ?_
        refine r_iload_n (x := x2) d_X12_brackets_57 rfl ?_
        refine r_iload (x := x6) d_X12_brackets_58 rfl ?_
        refine r_callS (Y2 := mX12_rowOf) (d := d - 1) (mc := 0) (ms := 0) (As := [(0, x2), (0, x6)]) (S := [(2, t)]) d_X12_brackets_60 ok_mX12_rowOf ml_X12_306 rfl (rmc h0d (by decide)) rm00 (Nat.le_of_ble_eq_true rfl) rfl (MC.mono h (fun r N1 Λ1 σ8 hq => ?_))
        obtain ⟨v9, rfl, rfl, rfl, h⟩ := hq
        refine r_callV (Y2 := mX12_many) (d := d - 1) (mc := 0) (ms := 0) (c := t) (As := [(0, v9)]) (S := []) d_X12_brackets_63 ok_mX12_many ml_X12_113 rfl (rmc h0d (by decide)) rm00 (Nat.le_of_ble_eq_true rfl) rfl kX12 o_t.1 o_t.2.1 o_t.2.2.1 o_t.2.2.2 (MC.mono h (fun r N1 Λ1 σ10 hq => ?_))
        obtain ⟨v11, rfl, rfl, rfl, h⟩ := hq
        refine r_if_le (tgt := 86) d_X12_brackets_66 rfl (fun hc => ?_) (fun hc => ?_)
        · have h := h.1 hc
          refine r_iconst (x := 0) d_X12_brackets_86 ⟨by decide, by decide⟩ ?_
          refine r_istore (L2 := [(2, t), (0, x1), (0, x2), (0, x3), (0, x4), (0, x5), (0, x6), (0, x7), (0, 0)]) d_X12_brackets_87 (by decide) rfl rfl ?_
          refine r_iload (x := 0) d_X12_brackets_89 rfl ?_
          refine r_if_eq (tgt := 139) d_X12_brackets_91 rfl (fun _ => ?_) (fun hc => absurd hc (by decide))
          refine x_iinc (x := x7) (L := [(2, t), (0, x1), (0, x2), (0, x3), (0, x4), (0, x5), (0, x6), (0, x7), (0, 0)]) d_X12_brackets_139 rfl (by decide) rfl (fun y12 ey12 => ?_)
          have h := h y12 ey12
          show WP _ _ _ _ _ _ _ _ [(2, t), (0, x1), (0, x2), (0, x3), (0, x4), (0, x5), (0, x6), (0, y12), (0, 0)] _ _ _ _
          refine r_goto (tgt := 29) d_X12_brackets_142 rfl ?_
          exact x_mask h ⟨Or.inr rfl, Or.inr rfl, Or.inr rfl, Or.inr rfl, Or.inr rfl, Or.inr rfl, Or.inr rfl, Or.inr rfl, Or.inl rfl, trivial⟩
        · have h := h.2 hc
          refine r_aload_n (x := t) d_X12_brackets_69 rfl o_t.1 ?_
          refine r_iload_n (x := x3) d_X12_brackets_70 rfl ?_
          refine r_iload (x := x7) d_X12_brackets_71 rfl ?_
          refine r_callS (Y2 := mX12_rowOf) (d := d - 1) (mc := 0) (ms := 0) (As := [(0, x3), (0, x7)]) (S := [(2, t)]) d_X12_brackets_73 ok_mX12_rowOf ml_X12_306 rfl (rmc h0d (by decide)) rm00 (Nat.le_of_ble_eq_true rfl) rfl (MC.mono h (fun r N1 Λ1 σ13 hq => ?_))
          obtain ⟨v14, rfl, rfl, rfl, h⟩ := hq
          refine r_callV (Y2 := mX12_many) (d := d - 1) (mc := 0) (ms := 0) (c := t) (As := [(0, v14)]) (S := []) d_X12_brackets_76 ok_mX12_many ml_X12_113 rfl (rmc h0d (by decide)) rm00 (Nat.le_of_ble_eq_true rfl) rfl kX12 o_t.1 o_t.2.1 o_t.2.2.1 o_t.2.2.2 (MC.mono h (fun r N1 Λ1 σ15 hq => ?_))
          obtain ⟨v16, rfl, rfl, rfl, h⟩ := hq
          refine r_if_le (tgt := 86) d_X12_brackets_79 rfl (fun hc => ?_) (fun hc => ?_)
          · have h := h.1 hc
            refine r_iconst (x := 0) d_X12_brackets_86 ⟨by decide, by decide⟩ ?_
            refine r_istore (L2 := [(2, t), (0, x1), (0, x2), (0, x3), (0, x4), (0, x5), (0, x6), (0, x7), (0, 0)]) d_X12_brackets_87 (by decide) rfl rfl ?_
            refine r_iload (x := 0) d_X12_brackets_89 rfl ?_
            refine r_if_eq (tgt := 139) d_X12_brackets_91 rfl (fun _ => ?_) (fun hc => absurd hc (by decide))
            refine x_iinc (x := x7) (L := [(2, t), (0, x1), (0, x2), (0, x3), (0, x4), (0, x5), (0, x6), (0, x7), (0, 0)]) d_X12_brackets_139 rfl (by decide) rfl (fun y17 ey17 => ?_)
            have h := h y17 ey17
            show WP _ _ _ _ _ _ _ _ [(2, t), (0, x1), (0, x2), (0, x3), (0, x4), (0, x5), (0, x6), (0, y17), (0, 0)] _ _ _ _
            refine r_goto (tgt := 29) d_X12_brackets_142 rfl ?_
            exact x_mask h ⟨Or.inr rfl, Or.inr rfl, Or.inr rfl, Or.inr rfl, Or.inr rfl, Or.inr rfl, Or.inr rfl, Or.inr rfl, Or.inl rfl, trivial⟩
          · have h := h.2 hc
            refine r_iconst (x := 1) d_X12_brackets_82 ⟨by decide, by decide⟩ ?_
            refine r_goto (tgt := 87) d_X12_brackets_83 rfl ?_
            refine r_istore (L2 := [(2, t), (0, x1), (0, x2), (0, x3), (0, x4), (0, x5), (0, x6), (0, x7), (0, 1)]) d_X12_brackets_87 (by decide) rfl rfl ?_
            refine r_iload (x := 1) d_X12_brackets_89 rfl ?_
            refine r_if_eq (tgt := 139) d_X12_brackets_91 rfl (fun hc => absurd hc (by decide)) (fun _ => ?_)
            refine r_aload_n (x := t) d_X12_brackets_94 rfl o_t.1 ?_
            refine r_getf (j := 1) (t := 2) (x := t_rankOf) d_X12_brackets_95 kX12 (by decide) fl_X12_13 o_t.1 o_t.2.1 o_t.2.2.1 o_t.2.2.2 rfl f_t_rankOf ?_
            refine r_bipush (x := 100) d_X12_brackets_98 ⟨by decide, by decide⟩ (by decide) ?_
            refine r_iload (x := x5) d_X12_brackets_100 rfl ?_
            refine r_imul d_X12_brackets_102 ?_
            refine r_bipush (x := 10) d_X12_brackets_103 ⟨by decide, by decide⟩ (by decide) ?_
            refine r_iload (x := x6) d_X12_brackets_105 rfl ?_
            refine r_imul d_X12_brackets_107 ?_
            refine r_iadd d_X12_brackets_108 ?_
            refine r_iload (x := x7) d_X12_brackets_109 rfl ?_
            refine r_iadd d_X12_brackets_111 ?_
            refine x_iald d_X12_brackets_112 h.1 ?_
            have h := h.2
            refine r_if_eq (tgt := 139) d_X12_brackets_113 rfl (fun hc => ?_) (fun hc => ?_)
            · have h := h.1 hc
              refine x_iinc (x := x7) (L := [(2, t), (0, x1), (0, x2), (0, x3), (0, x4), (0, x5), (0, x6), (0, x7), (0, 1)]) d_X12_brackets_139 rfl (by decide) rfl (fun y18 ey18 => ?_)
              have h := h y18 ey18
              show WP _ _ _ _ _ _ _ _ [(2, t), (0, x1), (0, x2), (0, x3), (0, x4), (0, x5), (0, x6), (0, y18), (0, 1)] _ _ _ _
              refine r_goto (tgt := 29) d_X12_brackets_142 rfl ?_
              exact x_mask h ⟨Or.inr rfl, Or.inr rfl, Or.inr rfl, Or.inr rfl, Or.inr rfl, Or.inr rfl, Or.inr rfl, Or.inr rfl, Or.inl rfl, trivial⟩
            · have h := h.2 hc
              refine r_aload_n (x := t) d_X12_brackets_116 rfl o_t.1 ?_
              refine r_iload_n (x := x1) d_X12_brackets_117 rfl ?_
              refine r_iload_n (x := x2) d_X12_brackets_118 rfl ?_
              refine r_iload_n (x := x3) d_X12_brackets_119 rfl ?_
              refine r_bipush (x := 100) d_X12_brackets_120 ⟨by decide, by decide⟩ (by decide) ?_
              refine r_iload (x := x5) d_X12_brackets_122 rfl ?_
              refine r_imul d_X12_brackets_124 ?_
              refine r_bipush (x := 10) d_X12_brackets_125 ⟨by decide, by decide⟩ (by decide) ?_
              refine r_iload (x := x6) d_X12_brackets_127 rfl ?_
              refine r_imul d_X12_brackets_129 ?_
              refine r_iadd d_X12_brackets_130 ?_
              refine r_iload (x := x7) d_X12_brackets_131 rfl ?_
              refine r_iadd d_X12_brackets_133 ?_
              refine r_iload (x := x4) d_X12_brackets_134 rfl ?_
              refine r_callV (Y2 := mX12_addsBracket) (d := d - 1) (mc := 0) (ms := 0) (c := t) (As := [(0, x1), (0, x2), (0, x3), (0, (addI (addI (mulI 100 x5) (mulI 10 x6)) x7)), (0, x4)]) (S := []) d_X12_brackets_136 ok_mX12_addsBracket ml_X12_321 rfl (rmc h0d (by decide)) rm00 (Nat.le_of_ble_eq_true rfl) rfl kX12 o_t.1 o_t.2.1 o_t.2.2.1 o_t.2.2.2 (MC.mono h (fun r N1 Λ1 σ19 hq => ?_))
              obtain ⟨rfl, rfl, rfl, h⟩ := hq
              refine x_iinc (x := x7) (L := [(2, t), (0, x1), (0, x2), (0, x3), (0, x4), (0, x5), (0, x6), (0, x7), (0, 1)]) d_X12_brackets_139 rfl (by decide) rfl (fun y20 ey20 => ?_)
              have h := h y20 ey20
              show WP _ _ _ _ _ _ _ _ [(2, t), (0, x1), (0, x2), (0, x3), (0, x4), (0, x5), (0, x6), (0, y20), (0, 1)] _ _ _ _
              refine r_goto (tgt := 29) d_X12_brackets_142 rfl ?_
              exact x_mask h ⟨Or.inr rfl, Or.inr rfl, Or.inr rfl, Or.inr rfl, Or.inr rfl, Or.inr rfl, Or.inr rfl, Or.inr rfl, Or.inl rfl, trivial⟩
theorem v_X12_addsBracket_0 {l : Launch} {d N : Nat} {Λ : Lay} {P : Mem → Prop} {σ : Mem} {x1 x2 x3 x4 x5 t : Int} (o_t : Ob N Λ t 21 36) (h0d : 1 ≤ d)
    (h : (CV l mX12_empties (d - 1) [(2, t), (0, 1)] N Λ σ (fun σ1 => (CV l mX12_putsBracket (d - 1) [(2, t), (0, (divI x4 100)), (0, (remI (divI x4 10) 10)), (0, (remI x4 10)), (0, 1)] N Λ σ1 (fun σ2 => (CI l mX12_rowOf (d - 1) [(0, x1), (0, (divI x4 100))] N Λ σ2 (fun v4 σ3 => (CV l mX12_timesRow (d - 1) [(2, t), (0, v4)] N Λ σ3 (fun σ5 => (CI l mX12_rowOf (d - 1) [(0, x2), (0, (remI (divI x4 10) 10))] N Λ σ5 (fun v7 σ6 => (CV l mX12_timesRow (d - 1) [(2, t), (0, v7)] N Λ σ6 (fun σ8 => (CI l mX12_rowOf (d - 1) [(0, x3), (0, (remI x4 10))] N Λ σ8 (fun v10 σ9 => (CV l mX12_timesRow (d - 1) [(2, t), (0, v10)] N Λ σ9 (fun σ11 => WV l mX12_addsBracket d P 73 [(2, t), (0, x1), (0, x2), (0, x3), (0, x4), (0, x5), (0, 0)] [] N Λ σ11))))))))))))))))) :
    WV l mX12_addsBracket d P 0 [(2, t), (0, x1), (0, x2), (0, x3), (0, x4), (0, x5), (3, 0)] [] N Λ σ := by
  refine r_aload_n (x := t) d_X12_addsBracket_0 rfl o_t.1 ?_
  refine r_iconst (x := 1) d_X12_addsBracket_1 ⟨by decide, by decide⟩ ?_
  refine r_callV (Y2 := mX12_empties) (d := d - 1) (mc := 0) (ms := 0) (c := t) (As := [(0, 1)]) (S := []) d_X12_addsBracket_2 ok_mX12_empties ml_X12_105 rfl (rmc h0d (by decide)) rm00 (Nat.le_of_ble_eq_true rfl) rfl kX12 o_t.1 o_t.2.1 o_t.2.2.1 o_t.2.2.2 (MC.mono h (fun r N1 Λ1 σ1 hq => ?_))
  obtain ⟨rfl, rfl, rfl, h⟩ := hq
  refine r_aload_n (x := t) d_X12_addsBracket_5 rfl o_t.1 ?_
  refine r_iload (x := x4) d_X12_addsBracket_6 rfl ?_
  refine r_bipush (x := 100) d_X12_addsBracket_8 ⟨by decide, by decide⟩ (by decide) ?_
  refine r_idiv d_X12_addsBracket_10 (by decide) ?_
  refine r_iload (x := x4) d_X12_addsBracket_11 rfl ?_
  refine r_bipush (x := 10) d_X12_addsBracket_13 ⟨by decide, by decide⟩ (by decide) ?_
  refine r_idiv d_X12_addsBracket_15 (by decide) ?_
  refine r_bipush (x := 10) d_X12_addsBracket_16 ⟨by decide, by decide⟩ (by decide) ?_
  refine r_irem d_X12_addsBracket_18 (by decide) ?_
  refine r_iload (x := x4) d_X12_addsBracket_19 rfl ?_
  refine r_bipush (x := 10) d_X12_addsBracket_21 ⟨by decide, by decide⟩ (by decide) ?_
  refine r_irem d_X12_addsBracket_23 (by decide) ?_
  refine r_iconst (x := 1) d_X12_addsBracket_24 ⟨by decide, by decide⟩ ?_
  refine r_callV (Y2 := mX12_putsBracket) (d := d - 1) (mc := 0) (ms := 0) (c := t) (As := [(0, (divI x4 100)), (0, (remI (divI x4 10) 10)), (0, (remI x4 10)), (0, 1)]) (S := []) d_X12_addsBracket_25 ok_mX12_putsBracket ml_X12_211 rfl (rmc h0d (by decide)) rm00 (Nat.le_of_ble_eq_true rfl) rfl kX12 o_t.1 o_t.2.1 o_t.2.2.1 o_t.2.2.2 (MC.mono h (fun r N1 Λ1 σ2 hq => ?_))
  obtain ⟨rfl, rfl, rfl, h⟩ := hq
  refine r_aload_n (x := t) d_X12_addsBracket_28 rfl o_t.1 ?_
  refine r_iload_n (x := x1) d_X12_addsBracket_29 rfl ?_
  refine r_iload (x := x4) d_X12_addsBracket_30 rfl ?_
  refine r_bipush (x := 100) d_X12_addsBracket_32 ⟨by decide, by decide⟩ (by decide) ?_
  refine r_idiv d_X12_addsBracket_34 (by decide) ?_
  refine r_callS (Y2 := mX12_rowOf) (d := d - 1) (mc := 0) (ms := 0) (As := [(0, x1), (0, (divI x4 100))]) (S := [(2, t)]) d_X12_addsBracket_35 ok_mX12_rowOf ml_X12_306 rfl (rmc h0d (by decide)) rm00 (Nat.le_of_ble_eq_true rfl) rfl (MC.mono h (fun r N1 Λ1 σ3 hq => ?_))
  obtain ⟨v4, rfl, rfl, rfl, h⟩ := hq
  refine r_callV (Y2 := mX12_timesRow) (d := d - 1) (mc := 0) (ms := 0) (c := t) (As := [(0, v4)]) (S := []) d_X12_addsBracket_38 ok_mX12_timesRow ml_X12_325 rfl (rmc h0d (by decide)) rm00 (Nat.le_of_ble_eq_true rfl) rfl kX12 o_t.1 o_t.2.1 o_t.2.2.1 o_t.2.2.2 (MC.mono h (fun r N1 Λ1 σ5 hq => ?_))
  obtain ⟨rfl, rfl, rfl, h⟩ := hq
  refine r_aload_n (x := t) d_X12_addsBracket_41 rfl o_t.1 ?_
  refine r_iload_n (x := x2) d_X12_addsBracket_42 rfl ?_
  refine r_iload (x := x4) d_X12_addsBracket_43 rfl ?_
  refine r_bipush (x := 10) d_X12_addsBracket_45 ⟨by decide, by decide⟩ (by decide) ?_
  refine r_idiv d_X12_addsBracket_47 (by decide) ?_
  refine r_bipush (x := 10) d_X12_addsBracket_48 ⟨by decide, by decide⟩ (by decide) ?_
  refine r_irem d_X12_addsBracket_50 (by decide) ?_
  refine r_callS (Y2 := mX12_rowOf) (d := d - 1) (mc := 0) (ms := 0) (As := [(0, x2), (0, (remI (divI x4 10) 10))]) (S := [(2, t)]) d_X12_addsBracket_51 ok_mX12_rowOf ml_X12_306 rfl (rmc h0d (by decide)) rm00 (Nat.le_of_ble_eq_true rfl) rfl (MC.mono h (fun r N1 Λ1 σ6 hq => ?_))
  obtain ⟨v7, rfl, rfl, rfl, h⟩ := hq
  refine r_callV (Y2 := mX12_timesRow) (d := d - 1) (mc := 0) (ms := 0) (c := t) (As := [(0, v7)]) (S := []) d_X12_addsBracket_54 ok_mX12_timesRow ml_X12_325 rfl (rmc h0d (by decide)) rm00 (Nat.le_of_ble_eq_true rfl) rfl kX12 o_t.1 o_t.2.1 o_t.2.2.1 o_t.2.2.2 (MC.mono h (fun r N1 Λ1 σ8 hq => ?_))
  obtain ⟨rfl, rfl, rfl, h⟩ := hq
  refine r_aload_n (x := t) d_X12_addsBracket_57 rfl o_t.1 ?_
  refine r_iload_n (x := x3) d_X12_addsBracket_58 rfl ?_
  refine r_iload (x := x4) d_X12_addsBracket_59 rfl ?_
  refine r_bipush (x := 10) d_X12_addsBracket_61 ⟨by decide, by decide⟩ (by decide) ?_
  refine r_irem d_X12_addsBracket_63 (by decide) ?_
  refine r_callS (Y2 := mX12_rowOf) (d := d - 1) (mc := 0) (ms := 0) (As := [(0, x3), (0, (remI x4 10))]) (S := [(2, t)]) d_X12_addsBracket_64 ok_mX12_rowOf ml_X12_306 rfl (rmc h0d (by decide)) rm00 (Nat.le_of_ble_eq_true rfl) rfl (MC.mono h (fun r N1 Λ1 σ9 hq => ?_))
  obtain ⟨v10, rfl, rfl, rfl, h⟩ := hq
  refine r_callV (Y2 := mX12_timesRow) (d := d - 1) (mc := 0) (ms := 0) (c := t) (As := [(0, v10)]) (S := []) d_X12_addsBracket_67 ok_mX12_timesRow ml_X12_325 rfl (rmc h0d (by decide)) rm00 (Nat.le_of_ble_eq_true rfl) rfl kX12 o_t.1 o_t.2.1 o_t.2.2.1 o_t.2.2.2 (MC.mono h (fun r N1 Λ1 σ11 hq => ?_))
  obtain ⟨rfl, rfl, rfl, h⟩ := hq
  refine r_iconst (x := 0) d_X12_addsBracket_70 ⟨by decide, by decide⟩ ?_
  refine r_istore (L2 := [(2, t), (0, x1), (0, x2), (0, x3), (0, x4), (0, x5), (0, 0)]) d_X12_addsBracket_71 (by decide) rfl rfl ?_
  exact h
theorem v_X12_addsBracket_73 {l : Launch} {d N : Nat} {Λ : Lay} {P : Mem → Prop} {σ : Mem} {x1 x2 x3 x4 x5 x6 t : Int} (o_t : Ob N Λ t 21 36) (h0d : 1 ≤ d)
    (h : (CI l mX12_many (d - 1) [(2, t), (0, 1)] N Λ σ (fun v2 σ1 => ((v2 ≤ x6 → P σ1) ∧ (¬ (v2 ≤ x6) → (CI l mX12_key (d - 1) [(2, t), (0, 1), (0, x6)] N Λ σ1 (fun v4 σ3 => (CI l mX12_number (d - 1) [(2, t), (0, 1), (0, x6)] N Λ σ3 (fun v6 σ5 => (CI l mX12_puts (d - 1) [(2, t), (0, x5), (0, v4), (1, v6)] N Λ σ5 (fun v8 σ7 => (∀ y9, y9 = addI x6 1 → WV l mX12_addsBracket d P 73 [(2, t), (0, x1), (0, x2), (0, x3), (0, x4), (0, x5), (0, y9)] [] N Λ σ7)))))))))))) :
    WV l mX12_addsBracket d P 73 [(2, t), (0, x1), (0, x2), (0, x3), (0, x4), (0, x5), (0, x6)] [] N Λ σ := by
  refine r_iload (x := x6) d_X12_addsBracket_73 rfl ?_
  refine r_aload_n (x := t) d_X12_addsBracket_75 rfl o_t.1 ?_
  refine r_iconst (x := 1) d_X12_addsBracket_76 ⟨by decide, by decide⟩ ?_
  refine r_callV (Y2 := mX12_many) (d := d - 1) (mc := 0) (ms := 0) (c := t) (As := [(0, 1)]) (S := [(0, x6)]) d_X12_addsBracket_77 ok_mX12_many ml_X12_113 rfl (rmc h0d (by decide)) rm00 (Nat.le_of_ble_eq_true rfl) rfl kX12 o_t.1 o_t.2.1 o_t.2.2.1 o_t.2.2.2 (MC.mono h (fun r N1 Λ1 σ1 hq => ?_))
  obtain ⟨v2, rfl, rfl, rfl, h⟩ := hq
  refine r_ic_ge (tgt := 111) d_X12_addsBracket_80 rfl (fun hc => ?_) (fun hc => ?_)
  · have h := h.1 hc
    exact r_vret d_X12_addsBracket_111 rfl (Nat.le_refl 0) (Nat.le_refl 0) ⟨rfl, rfl, rfl, h⟩
  · have h := h.2 hc
    refine r_aload_n (x := t) d_X12_addsBracket_83 rfl o_t.1 ?_
    refine r_iload (x := x5) d_X12_addsBracket_84 rfl ?_
    refine r_aload_n (x := t) d_X12_addsBracket_86 rfl o_t.1 ?_
    refine r_iconst (x := 1) d_X12_addsBracket_87 ⟨by decide, by decide⟩ ?_
    refine r_iload (x := x6) d_X12_addsBracket_88 rfl ?_
    refine r_callV (Y2 := mX12_key) (d := d - 1) (mc := 0) (ms := 0) (c := t) (As := [(0, 1), (0, x6)]) (S := [(0, x5), (2, t)]) d_X12_addsBracket_90 ok_mX12_key ml_X12_117 rfl (rmc h0d (by decide)) rm00 (Nat.le_of_ble_eq_true rfl) rfl kX12 o_t.1 o_t.2.1 o_t.2.2.1 o_t.2.2.2 (MC.mono h (fun r N1 Λ1 σ3 hq => ?_))
    obtain ⟨v4, rfl, rfl, rfl, h⟩ := hq
    refine r_aload_n (x := t) d_X12_addsBracket_93 rfl o_t.1 ?_
    refine r_iconst (x := 1) d_X12_addsBracket_94 ⟨by decide, by decide⟩ ?_
    refine r_iload (x := x6) d_X12_addsBracket_95 rfl ?_
    refine r_callV (Y2 := mX12_number) (d := d - 1) (mc := 0) (ms := 0) (c := t) (As := [(0, 1), (0, x6)]) (S := [(0, v4), (0, x5), (2, t)]) d_X12_addsBracket_97 ok_mX12_number ml_X12_132 rfl (rmc h0d (by decide)) rm00 (Nat.le_of_ble_eq_true rfl) rfl kX12 o_t.1 o_t.2.1 o_t.2.2.1 o_t.2.2.2 (MC.mono h (fun r N1 Λ1 σ5 hq => ?_))
    obtain ⟨v6, rfl, rfl, rfl, h⟩ := hq
    refine r_i2l d_X12_addsBracket_100 ?_
    refine r_callV (Y2 := mX12_puts) (d := d - 1) (mc := 0) (ms := 0) (c := t) (As := [(0, x5), (0, v4), (1, v6)]) (S := []) d_X12_addsBracket_101 ok_mX12_puts ml_X12_147 rfl (rmc h0d (by decide)) rm00 (Nat.le_of_ble_eq_true rfl) rfl kX12 o_t.1 o_t.2.1 o_t.2.2.1 o_t.2.2.2 (MC.mono h (fun r N1 Λ1 σ7 hq => ?_))
    obtain ⟨v8, rfl, rfl, rfl, h⟩ := hq
    refine r_pop d_X12_addsBracket_104 rfl ?_
    refine x_iinc (x := x6) (L := [(2, t), (0, x1), (0, x2), (0, x3), (0, x4), (0, x5), (0, x6)]) d_X12_addsBracket_105 rfl (by decide) rfl (fun y9 ey9 => ?_)
    have h := h y9 ey9
    show WP _ _ _ _ _ _ _ _ [(2, t), (0, x1), (0, x2), (0, x3), (0, x4), (0, x5), (0, y9)] _ _ _ _
    refine r_goto (tgt := 73) d_X12_addsBracket_108 rfl ?_
    exact h
theorem v_X12_timesRow_0 {l : Launch} {d N : Nat} {Λ : Lay} {P : Mem → Prop} {σ : Mem} {x1 t : Int} (o_t : Ob N Λ t 21 36) (h0d : 1 ≤ d)
    (h : (CV l mX12_empties (d - 1) [(2, t), (0, 5)] N Λ σ (fun σ1 => (CV l mX12_multiplies (d - 1) [(2, t), (0, 1), (0, x1), (0, 1), (0, 5)] N Λ σ1 (fun σ2 => (CV l mX12_copiesRow (d - 1) [(2, t), (0, 5), (0, 1)] N Λ σ2 (fun σ3 => P σ3))))))) :
    WV l mX12_timesRow d P 0 [(2, t), (0, x1)] [] N Λ σ := by
  refine r_aload_n (x := t) d_X12_timesRow_0 rfl o_t.1 ?_
  refine r_iconst (x := 5) d_X12_timesRow_1 ⟨by decide, by decide⟩ ?_
  refine r_callV (Y2 := mX12_empties) (d := d - 1) (mc := 0) (ms := 0) (c := t) (As := [(0, 5)]) (S := []) d_X12_timesRow_2 ok_mX12_empties ml_X12_105 rfl (rmc h0d (by decide)) rm00 (Nat.le_of_ble_eq_true rfl) rfl kX12 o_t.1 o_t.2.1 o_t.2.2.1 o_t.2.2.2 (MC.mono h (fun r N1 Λ1 σ1 hq => ?_))
  obtain ⟨rfl, rfl, rfl, h⟩ := hq
  refine r_aload_n (x := t) d_X12_timesRow_5 rfl o_t.1 ?_
  refine r_iconst (x := 1) d_X12_timesRow_6 ⟨by decide, by decide⟩ ?_
  refine r_iload_n (x := x1) d_X12_timesRow_7 rfl ?_
  refine r_iconst (x := 1) d_X12_timesRow_8 ⟨by decide, by decide⟩ ?_
  refine r_iconst (x := 5) d_X12_timesRow_9 ⟨by decide, by decide⟩ ?_
  refine r_callV (Y2 := mX12_multiplies) (d := d - 1) (mc := 0) (ms := 0) (c := t) (As := [(0, 1), (0, x1), (0, 1), (0, 5)]) (S := []) d_X12_timesRow_10 ok_mX12_multiplies ml_X12_231 rfl (rmc h0d (by decide)) rm00 (Nat.le_of_ble_eq_true rfl) rfl kX12 o_t.1 o_t.2.1 o_t.2.2.1 o_t.2.2.2 (MC.mono h (fun r N1 Λ1 σ2 hq => ?_))
  obtain ⟨rfl, rfl, rfl, h⟩ := hq
  refine r_aload_n (x := t) d_X12_timesRow_13 rfl o_t.1 ?_
  refine r_iconst (x := 5) d_X12_timesRow_14 ⟨by decide, by decide⟩ ?_
  refine r_iconst (x := 1) d_X12_timesRow_15 ⟨by decide, by decide⟩ ?_
  refine r_callV (Y2 := mX12_copiesRow) (d := d - 1) (mc := 0) (ms := 0) (c := t) (As := [(0, 5), (0, 1)]) (S := []) d_X12_timesRow_16 ok_mX12_copiesRow ml_X12_328 rfl (rmc h0d (by decide)) rm00 (Nat.le_of_ble_eq_true rfl) rfl kX12 o_t.1 o_t.2.1 o_t.2.2.1 o_t.2.2.2 (MC.mono h (fun r N1 Λ1 σ3 hq => ?_))
  obtain ⟨rfl, rfl, rfl, h⟩ := hq
  exact r_vret d_X12_timesRow_19 rfl (Nat.le_refl 0) (Nat.le_refl 0) ⟨rfl, rfl, rfl, h⟩
theorem v_X12_figure_0 {l : Launch} {d N : Nat} {Λ : Lay} {P : Int → Mem → Prop} {σ : Mem} {x1 x2 t : Int} (o_t : Ob N Λ t 21 36) (h0d : 1 ≤ d)
    (h : (∀ τ1, τ1 = st σ t 0 0 → (CI l mX12_opensText (d - 1) [(2, t), (0, x1), (0, x2)] N Λ τ1 (fun v3 σ2 => ((v3 = 0 → (CV l mX12_figureText (d - 1) [(2, t)] N Λ σ2 (fun σ4 => (((σ4 t 22) = 0 → (CV l mX12_begins (d - 1) [(2, t)] N Λ σ4 (fun σ5 => (∀ τ6, τ6 = st σ5 t 21 0 → WI l mX12_figure d P 53 [(2, t), (0, x1), (0, x2), (0, v3), (0, 0)] [] N Λ τ6)))) ∧ (¬ ((σ4 t 22) = 0) → (CI l mX12_refused (d - 1) [(2, t), (0, (subI (-30) (σ4 t 22)))] N Λ σ4 (fun v8 σ7 => P v8 σ7))))))) ∧ (¬ (v3 = 0) → P v3 σ2)))))) :
    WI l mX12_figure d P 0 [(2, t), (0, x1), (0, x2), (3, 0), (3, 0)] [] N Λ σ := by
  refine r_aload_n (x := t) d_X12_figure_0 rfl o_t.1 ?_
  refine r_iconst (x := 0) d_X12_figure_1 ⟨by decide, by decide⟩ ?_
  refine r_putI (j := 0) d_X12_figure_2 kX12 (by decide) fl_X12_1 rfl o_t.1 o_t.2.1 o_t.2.2.1 o_t.2.2.2 rfl ?_
  refine r_nmM (fun τ1 eτ1 => ?_)
  have h := h τ1 eτ1
  refine r_aload_n (x := t) d_X12_figure_5 rfl o_t.1 ?_
  refine r_iload_n (x := x1) d_X12_figure_6 rfl ?_
  refine r_iload_n (x := x2) d_X12_figure_7 rfl ?_
  refine r_callV (Y2 := mX12_opensText) (d := d - 1) (mc := 0) (ms := 0) (c := t) (As := [(0, x1), (0, x2)]) (S := []) d_X12_figure_8 ok_mX12_opensText ml_X12_297 rfl (rmc h0d (by decide)) rm00 (Nat.le_of_ble_eq_true rfl) rfl kX12 o_t.1 o_t.2.1 o_t.2.2.1 o_t.2.2.2 (MC.mono h (fun r N1 Λ1 σ2 hq => ?_))
  obtain ⟨v3, rfl, rfl, rfl, h⟩ := hq
  refine r_istore_n (L2 := [(2, t), (0, x1), (0, x2), (0, v3), (3, 0)]) d_X12_figure_11 (by decide) rfl rfl ?_
  refine r_iload_n (x := v3) d_X12_figure_12 rfl ?_
  refine r_if_eq (tgt := 18) d_X12_figure_13 rfl (fun hc => ?_) (fun hc => ?_)
  · have h := h.1 hc
    refine r_aload_n (x := t) d_X12_figure_18 rfl o_t.1 ?_
    refine r_callV (Y2 := mX12_figureText) (d := d - 1) (mc := 0) (ms := 0) (c := t) (As := []) (S := []) d_X12_figure_19 ok_mX12_figureText ml_X12_331 rfl (rmc h0d (by decide)) rm00 (Nat.le_of_ble_eq_true rfl) rfl kX12 o_t.1 o_t.2.1 o_t.2.2.1 o_t.2.2.2 (MC.mono h (fun r N1 Λ1 σ4 hq => ?_))
    obtain ⟨rfl, rfl, rfl, h⟩ := hq
    refine r_aload_n (x := t) d_X12_figure_22 rfl o_t.1 ?_
    refine r_getf (j := 22) (t := 0) (x := (σ4 t 22)) d_X12_figure_23 kX12 (by decide) fl_X12_261 o_t.1 o_t.2.1 o_t.2.2.1 o_t.2.2.2 rfl rfl ?_
    refine r_if_eq (tgt := 41) d_X12_figure_26 rfl (fun hc => ?_) (fun hc => ?_)
    · have h := h.1 hc
      refine r_aload_n (x := t) d_X12_figure_41 rfl o_t.1 ?_
      refine r_callV (Y2 := mX12_begins) (d := d - 1) (mc := 0) (ms := 0) (c := t) (As := []) (S := []) d_X12_figure_42 ok_mX12_begins ml_X12_202 rfl (rmc h0d (by decide)) rm00 (Nat.le_of_ble_eq_true rfl) rfl kX12 o_t.1 o_t.2.1 o_t.2.2.1 o_t.2.2.2 (MC.mono h (fun r N1 Λ1 σ5 hq => ?_))
      obtain ⟨rfl, rfl, rfl, h⟩ := hq
      refine r_aload_n (x := t) d_X12_figure_45 rfl o_t.1 ?_
      refine r_iconst (x := 0) d_X12_figure_46 ⟨by decide, by decide⟩ ?_
      refine r_putI (j := 21) d_X12_figure_47 kX12 (by decide) fl_X12_255 rfl o_t.1 o_t.2.1 o_t.2.2.1 o_t.2.2.2 rfl ?_
      refine r_nmM (fun τ6 eτ6 => ?_)
      have h := h τ6 eτ6
      refine r_iconst (x := 0) d_X12_figure_50 ⟨by decide, by decide⟩ ?_
      refine r_istore (L2 := [(2, t), (0, x1), (0, x2), (0, v3), (0, 0)]) d_X12_figure_51 (by decide) rfl rfl ?_
      exact h
    · have h := h.2 hc
      refine r_aload_n (x := t) d_X12_figure_29 rfl o_t.1 ?_
      refine r_bipush (x := (-30)) d_X12_figure_30 ⟨by decide, by decide⟩ (by decide) ?_
      refine r_aload_n (x := t) d_X12_figure_32 rfl o_t.1 ?_
      refine r_getf (j := 22) (t := 0) (x := (σ4 t 22)) d_X12_figure_33 kX12 (by decide) fl_X12_261 o_t.1 o_t.2.1 o_t.2.2.1 o_t.2.2.2 rfl rfl ?_
      refine r_isub d_X12_figure_36 ?_
      refine r_callV (Y2 := mX12_refused) (d := d - 1) (mc := 0) (ms := 0) (c := t) (As := [(0, (subI (-30) (σ4 t 22)))]) (S := []) d_X12_figure_37 ok_mX12_refused ml_X12_218 rfl (rmc h0d (by decide)) rm00 (Nat.le_of_ble_eq_true rfl) rfl kX12 o_t.1 o_t.2.1 o_t.2.2.1 o_t.2.2.2 (MC.mono h (fun r N1 Λ1 σ7 hq => ?_))
      obtain ⟨v8, rfl, rfl, rfl, h⟩ := hq
      exact r_iret d_X12_figure_40 rfl rfl (Nat.le_refl 0) (Nat.le_refl 0) ⟨_, rfl, rfl, rfl, h⟩
  · have h := h.2 hc
    refine r_iload_n (x := v3) d_X12_figure_16 rfl ?_
    exact r_iret d_X12_figure_17 rfl rfl (Nat.le_refl 0) (Nat.le_refl 0) ⟨_, rfl, rfl, rfl, h⟩
theorem v_X12_figure_53 {l : Launch} {d N : Nat} {Λ : Lay} {P : Int → Mem → Prop} {σ : Mem} {x1 x2 x3 x4 t : Int} (o_t : Ob N Λ t 21 36) (h0d : 1 ≤ d)
    (h : ((3 ≤ x4 → ((¬ (σ t 8) = 0 → (CI l mX12_ends (d - 1) [(2, t), (0, x1)] N Λ σ (fun v2 σ1 => P v2 σ1))) ∧ ((σ t 8) = 0 → (CV l mX12_brackets (d - 1) [(2, t), (0, 0), (0, 1), (0, 2), (0, 0)] N Λ σ (fun σ3 => (CI l mX12_ends (d - 1) [(2, t), (0, x1)] N Λ σ3 (fun v5 σ4 => P v5 σ4))))))) ∧ (¬ (3 ≤ x4) → (CV l mX12_point (d - 1) [(2, t), (0, x4), (0, 3)] N Λ σ (fun σ6 => (∀ y7, y7 = addI x4 1 → WI l mX12_figure d P 53 [(2, t), (0, x1), (0, x2), (0, x3), (0, y7)] [] N Λ σ6)))))) :
    WI l mX12_figure d P 53 [(2, t), (0, x1), (0, x2), (0, x3), (0, x4)] [] N Λ σ := by
  refine r_iload (x := x4) d_X12_figure_53 rfl ?_
  refine r_iconst (x := 3) d_X12_figure_55 ⟨by decide, by decide⟩ ?_
  refine r_ic_ge (tgt := 72) d_X12_figure_56 rfl (fun hc => ?_) (fun hc => ?_)
  · have h := h.1 hc
    refine r_aload_n (x := t) d_X12_figure_72 rfl o_t.1 ?_
    refine r_getf (j := 8) (t := 0) (x := (σ t 8)) d_X12_figure_73 kX12 (by decide) fl_X12_102 o_t.1 o_t.2.1 o_t.2.2.1 o_t.2.2.2 rfl rfl ?_
    refine r_if_ne (tgt := 87) d_X12_figure_76 rfl (fun hc => ?_) (fun hc => ?_)
    · have h := h.1 hc
      refine r_aload_n (x := t) d_X12_figure_87 rfl o_t.1 ?_
      refine r_iload_n (x := x1) d_X12_figure_88 rfl ?_
      refine r_callV (Y2 := mX12_ends) (d := d - 1) (mc := 0) (ms := 0) (c := t) (As := [(0, x1)]) (S := []) d_X12_figure_89 ok_mX12_ends ml_X12_228 rfl (rmc h0d (by decide)) rm00 (Nat.le_of_ble_eq_true rfl) rfl kX12 o_t.1 o_t.2.1 o_t.2.2.1 o_t.2.2.2 (MC.mono h (fun r N1 Λ1 σ1 hq => ?_))
      obtain ⟨v2, rfl, rfl, rfl, h⟩ := hq
      exact r_iret d_X12_figure_92 rfl rfl (Nat.le_refl 0) (Nat.le_refl 0) ⟨_, rfl, rfl, rfl, h⟩
    · have h := h.2 hc
      refine r_aload_n (x := t) d_X12_figure_79 rfl o_t.1 ?_
      refine r_iconst (x := 0) d_X12_figure_80 ⟨by decide, by decide⟩ ?_
      refine r_iconst (x := 1) d_X12_figure_81 ⟨by decide, by decide⟩ ?_
      refine r_iconst (x := 2) d_X12_figure_82 ⟨by decide, by decide⟩ ?_
      refine r_iconst (x := 0) d_X12_figure_83 ⟨by decide, by decide⟩ ?_
      refine r_callV (Y2 := mX12_brackets) (d := d - 1) (mc := 0) (ms := 0) (c := t) (As := [(0, 0), (0, 1), (0, 2), (0, 0)]) (S := []) d_X12_figure_84 ok_mX12_brackets ml_X12_315 rfl (rmc h0d (by decide)) rm00 (Nat.le_of_ble_eq_true rfl) rfl kX12 o_t.1 o_t.2.1 o_t.2.2.1 o_t.2.2.2 (MC.mono h (fun r N1 Λ1 σ3 hq => ?_))
      obtain ⟨rfl, rfl, rfl, h⟩ := hq
      refine r_aload_n (x := t) d_X12_figure_87 rfl o_t.1 ?_
      refine r_iload_n (x := x1) d_X12_figure_88 rfl ?_
      refine r_callV (Y2 := mX12_ends) (d := d - 1) (mc := 0) (ms := 0) (c := t) (As := [(0, x1)]) (S := []) d_X12_figure_89 ok_mX12_ends ml_X12_228 rfl (rmc h0d (by decide)) rm00 (Nat.le_of_ble_eq_true rfl) rfl kX12 o_t.1 o_t.2.1 o_t.2.2.1 o_t.2.2.2 (MC.mono h (fun r N1 Λ1 σ4 hq => ?_))
      obtain ⟨v5, rfl, rfl, rfl, h⟩ := hq
      exact r_iret d_X12_figure_92 rfl rfl (Nat.le_refl 0) (Nat.le_refl 0) ⟨_, rfl, rfl, rfl, h⟩
  · have h := h.2 hc
    refine r_aload_n (x := t) d_X12_figure_59 rfl o_t.1 ?_
    refine r_iload (x := x4) d_X12_figure_60 rfl ?_
    refine r_iconst (x := 3) d_X12_figure_62 ⟨by decide, by decide⟩ ?_
    refine r_callV (Y2 := mX12_point) (d := d - 1) (mc := 0) (ms := 0) (c := t) (As := [(0, x4), (0, 3)]) (S := []) d_X12_figure_63 ok_mX12_point ml_X12_309 rfl (rmc h0d (by decide)) rm00 (Nat.le_of_ble_eq_true rfl) rfl kX12 o_t.1 o_t.2.1 o_t.2.2.1 o_t.2.2.2 (MC.mono h (fun r N1 Λ1 σ6 hq => ?_))
    obtain ⟨rfl, rfl, rfl, h⟩ := hq
    refine x_iinc (x := x4) (L := [(2, t), (0, x1), (0, x2), (0, x3), (0, x4)]) d_X12_figure_66 rfl (by decide) rfl (fun y7 ey7 => ?_)
    have h := h y7 ey7
    show WP _ _ _ _ _ _ _ _ [(2, t), (0, x1), (0, x2), (0, x3), (0, y7)] _ _ _ _
    refine r_goto (tgt := 53) d_X12_figure_69 rfl ?_
    exact h
theorem v_X12_terms_0 {l : Launch} {d N : Nat} {Λ : Lay} {P : Int → Mem → Prop} {σ : Mem} {x1 t t_state : Int} (o_t : Ob N Λ t 21 36) (f_t_state : (Λ t).2.2 3 = t_state) (h0d : 1 ≤ d)
    (h : (∀ τ1, τ1 = st σ t 0 0 → (CI l mX12_isShelf (d - 1) [(0, x1)] N Λ τ1 (fun v3 σ2 => ((v3 = 0 → P (-2) σ2) ∧ (¬ (v3 = 0) → (Ix N Λ t_state 0 (mulI 161 x1) ∧ P (σ2 t_state (mulI 161 x1)) σ2))))))) :
    WI l mX12_terms d P 0 [(2, t), (0, x1)] [] N Λ σ := by
  refine r_aload_n (x := t) d_X12_terms_0 rfl o_t.1 ?_
  refine r_iconst (x := 0) d_X12_terms_1 ⟨by decide, by decide⟩ ?_
  refine r_putI (j := 0) d_X12_terms_2 kX12 (by decide) fl_X12_1 rfl o_t.1 o_t.2.1 o_t.2.2.1 o_t.2.2.2 rfl ?_
  refine r_nmM (fun τ1 eτ1 => ?_)
  have h := h τ1 eτ1
  refine r_iload_n (x := x1) d_X12_terms_5 rfl ?_
  refine r_callS (Y2 := mX12_isShelf) (d := d - 1) (mc := 0) (ms := 0) (As := [(0, x1)]) (S := []) d_X12_terms_6 ok_mX12_isShelf ml_X12_199 rfl (rmc h0d (by decide)) rm00 (Nat.le_of_ble_eq_true rfl) rfl (MC.mono h (fun r N1 Λ1 σ2 hq => ?_))
  obtain ⟨v3, rfl, rfl, rfl, h⟩ := hq
  refine r_if_eq (tgt := 25) d_X12_terms_9 rfl (fun hc => ?_) (fun hc => ?_)
  · have h := h.1 hc
    refine r_bipush (x := (-2)) d_X12_terms_25 ⟨by decide, by decide⟩ (by decide) ?_
    exact r_iret d_X12_terms_27 rfl rfl (Nat.le_refl 0) (Nat.le_refl 0) ⟨_, rfl, rfl, rfl, h⟩
  · have h := h.2 hc
    refine r_aload_n (x := t) d_X12_terms_12 rfl o_t.1 ?_
    refine r_getf (j := 3) (t := 2) (x := t_state) d_X12_terms_13 kX12 (by decide) fl_X12_20 o_t.1 o_t.2.1 o_t.2.2.1 o_t.2.2.2 rfl f_t_state ?_
    refine r_sipush (x := 161) d_X12_terms_16 ⟨by decide, by decide⟩ (by decide) ?_
    refine r_iload_n (x := x1) d_X12_terms_19 rfl ?_
    refine r_imul d_X12_terms_20 ?_
    refine x_iald d_X12_terms_21 h.1 ?_
    have h := h.2
    refine r_goto (tgt := 27) d_X12_terms_22 rfl ?_
    exact r_iret d_X12_terms_27 rfl rfl (Nat.le_refl 0) (Nat.le_refl 0) ⟨_, rfl, rfl, rfl, h⟩
theorem v_X12_term__0 {l : Launch} {d N : Nat} {Λ : Lay} {P : Int → Mem → Prop} {σ : Mem} {x1 x2 x3 t t_letterOf t_state : Int} (o_t : Ob N Λ t 21 36) (f_t_state : (Λ t).2.2 3 = t_state) (f_t_letterOf : (Λ t).2.2 2 = t_letterOf) (h0d : 1 ≤ d)
    (h : (∀ τ1, τ1 = st σ t 0 0 → (CI l mX12_isShelf (d - 1) [(0, x1)] N Λ τ1 (fun v3 σ2 => ((v3 = 0 → P (-2147483648) σ2) ∧ (¬ (v3 = 0) → (Ix N Λ t_state 0 (mulI 161 x1) ∧ (CI l mX12_within (d - 1) [(1, x2), (1, 0), (1, (subI (σ2 t_state (mulI 161 x1)) 1))] N Λ σ2 (fun v5 σ4 => ((¬ v5 = 0 → (Ix N Λ t_state 0 (addI (addI (mulI 161 x1) 1) (mulI 2 x2)) ∧ (∀ y6, y6 = (σ4 t_state (addI (addI (mulI 161 x1) 1) (mulI 2 x2))) → (CI l mX12_brokenIn (d - 1) [(2, t), (0, y6)] N Λ σ4 (fun v8 σ7 => (CI l mX12_within (d - 1) [(1, x3), (1, 10), (1, 21)] N Λ σ7 (fun v10 σ9 => ((v10 = 0 → ((x3 < 0 ∨ 4 < x3 → P (-2147483648) σ9) ∧ (x3 = 0 → (Ix N Λ t_state 0 (addI (addI (mulI 161 x1) 2) (mulI 2 x2)) ∧ P (σ9 t_state (addI (addI (mulI 161 x1) 2) (mulI 2 x2))) σ9)) ∧ (x3 = 1 → (CI l mX12_degreeOf (d - 1) [(0, y6)] N Λ σ9 (fun v12 σ11 => P v12 σ11))) ∧ (x3 = 2 → ((¬ v8 = (-1) → P 0 σ9) ∧ (v8 = (-1) → P 1 σ9))) ∧ (x3 = 3 → P v8 σ9) ∧ (x3 = 4 → ((¬ v8 = (-1) → (CI l mX12_rankIn (d - 1) [(0, y6), (0, v8)] N Λ σ9 (fun v14 σ13 => (CI l mX12_rankIn (d - 1) [(0, y6), (0, (addI v8 1))] N Λ σ13 (fun v16 σ15 => (CI l mX12_breakOf (d - 1) [(2, t), (0, v14), (0, v16)] N Λ σ15 (fun v18 σ17 => P v18 σ17))))))) ∧ (v8 = (-1) → P (-1) σ9))))) ∧ (¬ (v10 = 0) → (∀ y19, y19 = (divI (subI x3 10) 3) → (CI l mX12_degreeOf (d - 1) [(0, y6)] N Λ σ9 (fun v21 σ20 => ((v21 ≤ y19 → P (-1) σ20) ∧ (¬ (v21 ≤ y19) → (CI l mX12_rankIn (d - 1) [(0, y6), (0, y19)] N Λ σ20 (fun v23 σ22 => (Ix N Λ t_letterOf 0 (addI (mulI 3 v23) (remI (subI x3 10) 3)) ∧ P (σ22 t_letterOf (addI (mulI 3 v23) (remI (subI x3 10) 3))) σ22))))))))))))))))) ∧ (v5 = 0 → P (-2147483648) σ4))))))))))) :
    WI l mX12_term_ d P 0 [(2, t), (0, x1), (0, x2), (0, x3), (3, 0), (3, 0), (3, 0)] [] N Λ σ := by
  refine r_aload_n (x := t) d_X12_term__0 rfl o_t.1 ?_
  refine r_iconst (x := 0) d_X12_term__1 ⟨by decide, by decide⟩ ?_
  refine r_putI (j := 0) d_X12_term__2 kX12 (by decide) fl_X12_1 rfl o_t.1 o_t.2.1 o_t.2.2.1 o_t.2.2.2 rfl ?_
  refine r_nmM (fun τ1 eτ1 => ?_)
  have h := h τ1 eτ1
  refine r_iload_n (x := x1) d_X12_term__5 rfl ?_
  refine r_callS (Y2 := mX12_isShelf) (d := d - 1) (mc := 0) (ms := 0) (As := [(0, x1)]) (S := []) d_X12_term__6 ok_mX12_isShelf ml_X12_199 rfl (rmc h0d (by decide)) rm00 (Nat.le_of_ble_eq_true rfl) rfl (MC.mono h (fun r N1 Λ1 σ2 hq => ?_))
  obtain ⟨v3, rfl, rfl, rfl, h⟩ := hq
  refine r_if_eq (tgt := 34) d_X12_term__9 rfl (fun hc => ?_) (fun hc => ?_)
  · have h := h.1 hc
    refine r_ldcw (x := (-2147483648)) d_X12_term__34 ck_X12_334 (by decide) ?_
    exact r_iret d_X12_term__37 rfl rfl (Nat.le_refl 0) (Nat.le_refl 0) ⟨_, rfl, rfl, rfl, h⟩
  · have h := h.2 hc
    refine r_iload_n (x := x2) d_X12_term__12 rfl ?_
    refine r_i2l d_X12_term__13 ?_
    refine r_lconst d_X12_term__14 ?_
    skip
    refine r_aload_n (x := t) d_X12_term__15 rfl o_t.1 ?_
    refine r_getf (j := 3) (t := 2) (x := t_state) d_X12_term__16 kX12 (by decide) fl_X12_20 o_t.1 o_t.2.1 o_t.2.2.1 o_t.2.2.2 rfl f_t_state ?_
    refine r_sipush (x := 161) d_X12_term__19 ⟨by decide, by decide⟩ (by decide) ?_
    refine r_iload_n (x := x1) d_X12_term__22 rfl ?_
    refine r_imul d_X12_term__23 ?_
    refine x_iald d_X12_term__24 h.1 ?_
    have h := h.2
    refine r_iconst (x := 1) d_X12_term__25 ⟨by decide, by decide⟩ ?_
    refine r_isub d_X12_term__26 ?_
    refine r_i2l d_X12_term__27 ?_
    refine r_callS (Y2 := mX12_within) (d := d - 1) (mc := 0) (ms := 0) (As := [(1, x2), (1, 0), (1, (subI (σ2 t_state (mulI 161 x1)) 1))]) (S := []) d_X12_term__28 ok_mX12_within ml_X12_91 rfl (rmc h0d (by decide)) rm00 (Nat.le_of_ble_eq_true rfl) rfl (MC.mono h (fun r N1 Λ1 σ4 hq => ?_))
    obtain ⟨v5, rfl, rfl, rfl, h⟩ := hq
    refine r_if_ne (tgt := 38) d_X12_term__31 rfl (fun hc => ?_) (fun hc => ?_)
    · have h := h.1 hc
      refine r_aload_n (x := t) d_X12_term__38 rfl o_t.1 ?_
      refine r_getf (j := 3) (t := 2) (x := t_state) d_X12_term__39 kX12 (by decide) fl_X12_20 o_t.1 o_t.2.1 o_t.2.2.1 o_t.2.2.2 rfl f_t_state ?_
      refine r_sipush (x := 161) d_X12_term__42 ⟨by decide, by decide⟩ (by decide) ?_
      refine r_iload_n (x := x1) d_X12_term__45 rfl ?_
      refine r_imul d_X12_term__46 ?_
      refine r_iconst (x := 1) d_X12_term__47 ⟨by decide, by decide⟩ ?_
      refine r_iadd d_X12_term__48 ?_
      refine r_iconst (x := 2) d_X12_term__49 ⟨by decide, by decide⟩ ?_
      refine r_iload_n (x := x2) d_X12_term__50 rfl ?_
      refine r_imul d_X12_term__51 ?_
      refine r_iadd d_X12_term__52 ?_
      refine x_iald d_X12_term__53 h.1 ?_
      have h := h.2
      refine r_nm (fun y6 ey6 => ?_)
      have h := h y6 ey6
      refine r_istore (L2 := [(2, t), (0, x1), (0, x2), (0, x3), (0, y6), (3, 0), (3, 0)]) d_X12_term__54 (by decide) rfl rfl ?_
      refine r_aload_n (x := t) d_X12_term__56 rfl o_t.1 ?_
      refine r_iload (x := y6) d_X12_term__57 rfl ?_
      refine r_callV (Y2 := mX12_brokenIn) (d := d - 1) (mc := 0) (ms := 0) (c := t) (As := [(0, y6)]) (S := []) d_X12_term__59 ok_mX12_brokenIn ml_X12_171 rfl (rmc h0d (by decide)) rm00 (Nat.le_of_ble_eq_true rfl) rfl kX12 o_t.1 o_t.2.1 o_t.2.2.1 o_t.2.2.2 (MC.mono h (fun r N1 Λ1 σ7 hq => ?_))
      obtain ⟨v8, rfl, rfl, rfl, h⟩ := hq
      refine r_istore (L2 := [(2, t), (0, x1), (0, x2), (0, x3), (0, y6), (0, v8), (3, 0)]) d_X12_term__62 (by decide) rfl rfl ?_
      refine r_iload_n (x := x3) d_X12_term__64 rfl ?_
      refine r_i2l d_X12_term__65 ?_
      refine r_ldc2 (x := 10) d_X12_term__66 ck_X12_335 (by decide) ?_
      refine r_ldc2 (x := 21) d_X12_term__69 ck_X12_337 (by decide) ?_
      refine r_callS (Y2 := mX12_within) (d := d - 1) (mc := 0) (ms := 0) (As := [(1, x3), (1, 10), (1, 21)]) (S := []) d_X12_term__72 ok_mX12_within ml_X12_91 rfl (rmc h0d (by decide)) rm00 (Nat.le_of_ble_eq_true rfl) rfl (MC.mono h (fun r N1 Λ1 σ9 hq => ?_))
      obtain ⟨v10, rfl, rfl, rfl, h⟩ := hq
      refine r_if_eq (tgt := 122) d_X12_term__75 rfl (fun hc => ?_) (fun hc => ?_)
      · have h := h.1 hc
        refine r_iload_n (x := x3) d_X12_term__122 rfl ?_
        by_cases hr : x3 < 0 ∨ 4 < x3
        · have h := h.1 hr
          refine r_tout (tgt := 225) d_X12_term__123 hr rfl ?_
          refine r_ldcw (x := (-2147483648)) d_X12_term__225 ck_X12_334 (by decide) ?_
          exact r_iret d_X12_term__228 rfl rfl (Nat.le_refl 0) (Nat.le_refl 0) ⟨_, rfl, rfl, rfl, h⟩
        · have h := h.2
          by_cases hk0 : x3 = 0
          · have h := h.1 hk0
            refine r_tin (off := 33) (tgt := 156) d_X12_term__123 (by rw [hk0]; decide) (by rw [hk0]; decide) (by rw [hk0]; rfl) rfl ?_
            refine r_aload_n (x := t) d_X12_term__156 rfl o_t.1 ?_
            refine r_getf (j := 3) (t := 2) (x := t_state) d_X12_term__157 kX12 (by decide) fl_X12_20 o_t.1 o_t.2.1 o_t.2.2.1 o_t.2.2.2 rfl f_t_state ?_
            refine r_sipush (x := 161) d_X12_term__160 ⟨by decide, by decide⟩ (by decide) ?_
            refine r_iload_n (x := x1) d_X12_term__163 rfl ?_
            refine r_imul d_X12_term__164 ?_
            refine r_iconst (x := 2) d_X12_term__165 ⟨by decide, by decide⟩ ?_
            refine r_iadd d_X12_term__166 ?_
            refine r_iconst (x := 2) d_X12_term__167 ⟨by decide, by decide⟩ ?_
            refine r_iload_n (x := x2) d_X12_term__168 rfl ?_
            refine r_imul d_X12_term__169 ?_
            refine r_iadd d_X12_term__170 ?_
            refine x_iald d_X12_term__171 h.1 ?_
            have h := h.2
            exact r_iret d_X12_term__172 rfl rfl (Nat.le_refl 0) (Nat.le_refl 0) ⟨_, rfl, rfl, rfl, h⟩
          have h := h.2
          by_cases hk1 : x3 = 1
          · have h := h.1 hk1
            refine r_tin (off := 50) (tgt := 173) d_X12_term__123 (by rw [hk1]; decide) (by rw [hk1]; decide) (by rw [hk1]; rfl) rfl ?_
            refine r_iload (x := y6) d_X12_term__173 rfl ?_
            refine r_callS (Y2 := mX12_degreeOf) (d := d - 1) (mc := 0) (ms := 0) (As := [(0, y6)]) (S := []) d_X12_term__175 ok_mX12_degreeOf ml_X12_138 rfl (rmc h0d (by decide)) rm00 (Nat.le_of_ble_eq_true rfl) rfl (MC.mono h (fun r N1 Λ1 σ11 hq => ?_))
            obtain ⟨v12, rfl, rfl, rfl, h⟩ := hq
            exact r_iret d_X12_term__178 rfl rfl (Nat.le_refl 0) (Nat.le_refl 0) ⟨_, rfl, rfl, rfl, h⟩
          have h := h.2
          by_cases hk2 : x3 = 2
          · have h := h.1 hk2
            refine r_tin (off := 56) (tgt := 179) d_X12_term__123 (by rw [hk2]; decide) (by rw [hk2]; decide) (by rw [hk2]; rfl) rfl ?_
            refine r_iload (x := v8) d_X12_term__179 rfl ?_
            refine r_iconst (x := (-1)) d_X12_term__181 ⟨by decide, by decide⟩ ?_
            refine r_ic_ne (tgt := 189) d_X12_term__182 rfl (fun hc => ?_) (fun hc => ?_)
            · have h := h.1 hc
              refine r_iconst (x := 0) d_X12_term__189 ⟨by decide, by decide⟩ ?_
              exact r_iret d_X12_term__190 rfl rfl (Nat.le_refl 0) (Nat.le_refl 0) ⟨_, rfl, rfl, rfl, h⟩
            · have h := h.2 hc
              refine r_iconst (x := 1) d_X12_term__185 ⟨by decide, by decide⟩ ?_
              refine r_goto (tgt := 190) d_X12_term__186 rfl ?_
              exact r_iret d_X12_term__190 rfl rfl (Nat.le_refl 0) (Nat.le_refl 0) ⟨_, rfl, rfl, rfl, h⟩
          have h := h.2
          by_cases hk3 : x3 = 3
          · have h := h.1 hk3
            refine r_tin (off := 68) (tgt := 191) d_X12_term__123 (by rw [hk3]; decide) (by rw [hk3]; decide) (by rw [hk3]; rfl) rfl ?_
            refine r_iload (x := v8) d_X12_term__191 rfl ?_
            exact r_iret d_X12_term__193 rfl rfl (Nat.le_refl 0) (Nat.le_refl 0) ⟨_, rfl, rfl, rfl, h⟩
          have h := h.2
          by_cases hk4 : x3 = 4
          · have h := h hk4
            refine r_tin (off := 71) (tgt := 194) d_X12_term__123 (by rw [hk4]; decide) (by rw [hk4]; decide) (by rw [hk4]; rfl) rfl ?_
            refine r_iload (x := v8) d_X12_term__194 rfl ?_
            refine r_iconst (x := (-1)) d_X12_term__196 ⟨by decide, by decide⟩ ?_
            refine r_ic_ne (tgt := 204) d_X12_term__197 rfl (fun hc => ?_) (fun hc => ?_)
            · have h := h.1 hc
              refine r_aload_n (x := t) d_X12_term__204 rfl o_t.1 ?_
              refine r_iload (x := y6) d_X12_term__205 rfl ?_
              refine r_iload (x := v8) d_X12_term__207 rfl ?_
              refine r_callS (Y2 := mX12_rankIn) (d := d - 1) (mc := 0) (ms := 0) (As := [(0, y6), (0, v8)]) (S := [(2, t)]) d_X12_term__209 ok_mX12_rankIn ml_X12_135 rfl (rmc h0d (by decide)) rm00 (Nat.le_of_ble_eq_true rfl) rfl (MC.mono h (fun r N1 Λ1 σ13 hq => ?_))
              obtain ⟨v14, rfl, rfl, rfl, h⟩ := hq
              refine r_iload (x := y6) d_X12_term__212 rfl ?_
              refine r_iload (x := v8) d_X12_term__214 rfl ?_
              refine r_iconst (x := 1) d_X12_term__216 ⟨by decide, by decide⟩ ?_
              refine r_iadd d_X12_term__217 ?_
              refine r_callS (Y2 := mX12_rankIn) (d := d - 1) (mc := 0) (ms := 0) (As := [(0, y6), (0, (addI v8 1))]) (S := [(0, v14), (2, t)]) d_X12_term__218 ok_mX12_rankIn ml_X12_135 rfl (rmc h0d (by decide)) rm00 (Nat.le_of_ble_eq_true rfl) rfl (MC.mono h (fun r N1 Λ1 σ15 hq => ?_))
              obtain ⟨v16, rfl, rfl, rfl, h⟩ := hq
              refine r_callV (Y2 := mX12_breakOf) (d := d - 1) (mc := 0) (ms := 0) (c := t) (As := [(0, v14), (0, v16)]) (S := []) d_X12_term__221 ok_mX12_breakOf ml_X12_151 rfl (rmc h0d (by decide)) rm00 (Nat.le_of_ble_eq_true rfl) rfl kX12 o_t.1 o_t.2.1 o_t.2.2.1 o_t.2.2.2 (MC.mono h (fun r N1 Λ1 σ17 hq => ?_))
              obtain ⟨v18, rfl, rfl, rfl, h⟩ := hq
              exact r_iret d_X12_term__224 rfl rfl (Nat.le_refl 0) (Nat.le_refl 0) ⟨_, rfl, rfl, rfl, h⟩
            · have h := h.2 hc
              refine r_iconst (x := (-1)) d_X12_term__200 ⟨by decide, by decide⟩ ?_
              refine r_goto (tgt := 224) d_X12_term__201 rfl ?_
              exact r_iret d_X12_term__224 rfl rfl (Nat.le_refl 0) (Nat.le_refl 0) ⟨_, rfl, rfl, rfl, h⟩
          exact (tsw_4 hr hk0 hk1 hk2 hk3 hk4).elim
      · have h := h.2 hc
        refine r_iload_n (x := x3) d_X12_term__78 rfl ?_
        refine r_bipush (x := 10) d_X12_term__79 ⟨by decide, by decide⟩ (by decide) ?_
        refine r_isub d_X12_term__81 ?_
        refine r_iconst (x := 3) d_X12_term__82 ⟨by decide, by decide⟩ ?_
        refine r_idiv d_X12_term__83 (by decide) ?_
        refine r_nm (fun y19 ey19 => ?_)
        have h := h y19 ey19
        refine r_istore (L2 := [(2, t), (0, x1), (0, x2), (0, x3), (0, y6), (0, v8), (0, y19)]) d_X12_term__84 (by decide) rfl rfl ?_
        refine r_iload (x := y19) d_X12_term__86 rfl ?_
        refine r_iload (x := y6) d_X12_term__88 rfl ?_
        refine r_callS (Y2 := mX12_degreeOf) (d := d - 1) (mc := 0) (ms := 0) (As := [(0, y6)]) (S := [(0, y19)]) d_X12_term__90 ok_mX12_degreeOf ml_X12_138 rfl (rmc h0d (by decide)) rm00 (Nat.le_of_ble_eq_true rfl) rfl (MC.mono h (fun r N1 Λ1 σ20 hq => ?_))
        obtain ⟨v21, rfl, rfl, rfl, h⟩ := hq
        refine r_ic_ge (tgt := 120) d_X12_term__93 rfl (fun hc => ?_) (fun hc => ?_)
        · have h := h.1 hc
          refine r_iconst (x := (-1)) d_X12_term__120 ⟨by decide, by decide⟩ ?_
          exact r_iret d_X12_term__121 rfl rfl (Nat.le_refl 0) (Nat.le_refl 0) ⟨_, rfl, rfl, rfl, h⟩
        · have h := h.2 hc
          refine r_aload_n (x := t) d_X12_term__96 rfl o_t.1 ?_
          refine r_getf (j := 2) (t := 2) (x := t_letterOf) d_X12_term__97 kX12 (by decide) fl_X12_17 o_t.1 o_t.2.1 o_t.2.2.1 o_t.2.2.2 rfl f_t_letterOf ?_
          refine r_iconst (x := 3) d_X12_term__100 ⟨by decide, by decide⟩ ?_
          refine r_iload (x := y6) d_X12_term__101 rfl ?_
          refine r_iload (x := y19) d_X12_term__103 rfl ?_
          refine r_callS (Y2 := mX12_rankIn) (d := d - 1) (mc := 0) (ms := 0) (As := [(0, y6), (0, y19)]) (S := [(0, 3), (2, t_letterOf)]) d_X12_term__105 ok_mX12_rankIn ml_X12_135 rfl (rmc h0d (by decide)) rm00 (Nat.le_of_ble_eq_true rfl) rfl (MC.mono h (fun r N1 Λ1 σ22 hq => ?_))
          obtain ⟨v23, rfl, rfl, rfl, h⟩ := hq
          refine r_imul d_X12_term__108 ?_
          refine r_iload_n (x := x3) d_X12_term__109 rfl ?_
          refine r_bipush (x := 10) d_X12_term__110 ⟨by decide, by decide⟩ (by decide) ?_
          refine r_isub d_X12_term__112 ?_
          refine r_iconst (x := 3) d_X12_term__113 ⟨by decide, by decide⟩ ?_
          refine r_irem d_X12_term__114 (by decide) ?_
          refine r_iadd d_X12_term__115 ?_
          refine x_iald d_X12_term__116 h.1 ?_
          have h := h.2
          refine r_goto (tgt := 121) d_X12_term__117 rfl ?_
          exact r_iret d_X12_term__121 rfl rfl (Nat.le_refl 0) (Nat.le_refl 0) ⟨_, rfl, rfl, rfl, h⟩
    · have h := h.2 hc
      refine r_ldcw (x := (-2147483648)) d_X12_term__34 ck_X12_334 (by decide) ?_
      exact r_iret d_X12_term__37 rfl rfl (Nat.le_refl 0) (Nat.le_refl 0) ⟨_, rfl, rfl, rfl, h⟩
theorem v_X12_keyOn_0 {l : Launch} {d N : Nat} {Λ : Lay} {P : Int → Mem → Prop} {σ : Mem} {x1 x2 a0 : Int} (z_a0 : 0 ≤ a0)
    (h : (Ix N Λ a0 0 (addI (addI (mulI 161 x1) 1) (mulI 2 x2)) ∧ P (σ a0 (addI (addI (mulI 161 x1) 1) (mulI 2 x2))) σ)) :
    WI l mX12_keyOn d P 0 [(2, a0), (0, x1), (0, x2)] [] N Λ σ := by
  refine r_aload_n (x := a0) d_X12_keyOn_0 rfl z_a0 ?_
  refine r_sipush (x := 161) d_X12_keyOn_1 ⟨by decide, by decide⟩ (by decide) ?_
  refine r_iload_n (x := x1) d_X12_keyOn_4 rfl ?_
  refine r_imul d_X12_keyOn_5 ?_
  refine r_iconst (x := 1) d_X12_keyOn_6 ⟨by decide, by decide⟩ ?_
  refine r_iadd d_X12_keyOn_7 ?_
  refine r_iconst (x := 2) d_X12_keyOn_8 ⟨by decide, by decide⟩ ?_
  refine r_iload_n (x := x2) d_X12_keyOn_9 rfl ?_
  refine r_imul d_X12_keyOn_10 ?_
  refine r_iadd d_X12_keyOn_11 ?_
  refine x_iald d_X12_keyOn_12 h.1 ?_
  have h := h.2
  exact r_iret d_X12_keyOn_13 rfl rfl (Nat.le_refl 0) (Nat.le_refl 0) ⟨_, rfl, rfl, rfl, h⟩
theorem v_X12_often_0 {l : Launch} {d N : Nat} {Λ : Lay} {P : Int → Mem → Prop} {σ : Mem} {x1 x2 t : Int}
    (h : WI l mX12_often d P 5 [(2, t), (0, x1), (0, x2), (0, 0), (0, 0), (3, 0)] [] N Λ σ) :
    WI l mX12_often d P 0 [(2, t), (0, x1), (0, x2), (3, 0), (3, 0), (3, 0)] [] N Λ σ := by
  refine r_iconst (x := 0) d_X12_often_0 ⟨by decide, by decide⟩ ?_
  refine r_istore_n (L2 := [(2, t), (0, x1), (0, x2), (0, 0), (3, 0), (3, 0)]) d_X12_often_1 (by decide) rfl rfl ?_
  refine r_iconst (x := 0) d_X12_often_2 ⟨by decide, by decide⟩ ?_
  refine r_istore (L2 := [(2, t), (0, x1), (0, x2), (0, 0), (0, 0), (3, 0)]) d_X12_often_3 (by decide) rfl rfl ?_
  exact h
theorem v_X12_often_5 {l : Launch} {d N : Nat} {Λ : Lay} {P : Int → Mem → Prop} {σ : Mem} {x1 x2 x3 x4 t : Int} (h0d : 1 ≤ d)
    (h : (CI l mX12_degreeOf (d - 1) [(0, x1)] N Λ σ (fun v2 σ1 => ((v2 ≤ x4 → P x3 σ1) ∧ (¬ (v2 ≤ x4) → WI l mX12_often d P 17 [(2, t), (0, x1), (0, x2), (0, x3), (0, x4), (0, 0)] [] N Λ σ1))))) :
    WI l mX12_often d P 5 [(2, t), (0, x1), (0, x2), (0, x3), (0, x4), (3, 0)] [] N Λ σ := by
  refine r_iload (x := x4) d_X12_often_5 rfl ?_
  refine r_iload_n (x := x1) d_X12_often_7 rfl ?_
  refine r_callS (Y2 := mX12_degreeOf) (d := d - 1) (mc := 0) (ms := 0) (As := [(0, x1)]) (S := [(0, x4)]) d_X12_often_8 ok_mX12_degreeOf ml_X12_138 rfl (rmc h0d (by decide)) rm00 (Nat.le_of_ble_eq_true rfl) rfl (MC.mono h (fun r N1 Λ1 σ1 hq => ?_))
  obtain ⟨v2, rfl, rfl, rfl, h⟩ := hq
  refine r_ic_ge (tgt := 63) d_X12_often_11 rfl (fun hc => ?_) (fun hc => ?_)
  · have h := h.1 hc
    refine r_iload_n (x := x3) d_X12_often_63 rfl ?_
    exact r_iret d_X12_often_64 rfl rfl (Nat.le_refl 0) (Nat.le_refl 0) ⟨_, rfl, rfl, rfl, h⟩
  · have h := h.2 hc
    refine r_iconst (x := 0) d_X12_often_14 ⟨by decide, by decide⟩ ?_
    refine r_istore (L2 := [(2, t), (0, x1), (0, x2), (0, x3), (0, x4), (0, 0)]) d_X12_often_15 (by decide) rfl rfl ?_
    exact h
theorem v_X12_often_17 {l : Launch} {d N : Nat} {Λ : Lay} {P : Int → Mem → Prop} {σ : Mem} {x1 x2 x3 x4 x5 t t_letterOf : Int} (o_t : Ob N Λ t 21 36) (f_t_letterOf : (Λ t).2.2 2 = t_letterOf) (h0d : 1 ≤ d)
    (h : ((3 ≤ x5 → (∀ y1, y1 = addI x4 1 → WI l mX12_often d P 5 [(2, t), (0, x1), (0, x2), (0, x3), (0, y1), (3, 0)] [] N Λ σ)) ∧ (¬ (3 ≤ x5) → (CI l mX12_rankIn (d - 1) [(0, x1), (0, x4)] N Λ σ (fun v3 σ2 => (Ix N Λ t_letterOf 0 (addI (mulI 3 v3) x5) ∧ ((¬ (σ2 t_letterOf (addI (mulI 3 v3) x5)) = x2 → (∀ y4, y4 = (addI x3 0) → (∀ y5, y5 = addI x5 1 → WI l mX12_often d P 17 [(2, t), (0, x1), (0, x2), (0, y4), (0, x4), (0, y5)] [] N Λ σ2))) ∧ ((σ2 t_letterOf (addI (mulI 3 v3) x5)) = x2 → (∀ y6, y6 = (addI x3 1) → (∀ y7, y7 = addI x5 1 → WI l mX12_often d P 17 [(2, t), (0, x1), (0, x2), (0, y6), (0, x4), (0, y7)] [] N Λ σ2)))))))))) :
    WI l mX12_often d P 17 [(2, t), (0, x1), (0, x2), (0, x3), (0, x4), (0, x5)] [] N Λ σ := by
  refine r_iload (x := x5) d_X12_often_17 rfl ?_
  refine r_iconst (x := 3) d_X12_often_19 ⟨by decide, by decide⟩ ?_
  refine r_ic_ge (tgt := 57) d_X12_often_20 rfl (fun hc => ?_) (fun hc => ?_)
  · have h := h.1 hc
    refine x_iinc (x := x4) (L := [(2, t), (0, x1), (0, x2), (0, x3), (0, x4), (0, x5)]) d_X12_often_57 rfl (by decide) rfl (fun y1 ey1 => ?_)
    have h := h y1 ey1
    show WP _ _ _ _ _ _ _ _ [(2, t), (0, x1), (0, x2), (0, x3), (0, y1), (0, x5)] _ _ _ _
    refine r_goto (tgt := 5) d_X12_often_60 rfl ?_
    exact x_mask h ⟨Or.inr rfl, Or.inr rfl, Or.inr rfl, Or.inr rfl, Or.inr rfl, Or.inl rfl, trivial⟩
  · have h := h.2 hc
    refine r_iload_n (x := x3) d_X12_often_23 rfl ?_
    refine r_aload_n (x := t) d_X12_often_24 rfl o_t.1 ?_
    refine r_getf (j := 2) (t := 2) (x := t_letterOf) d_X12_often_25 kX12 (by decide) fl_X12_17 o_t.1 o_t.2.1 o_t.2.2.1 o_t.2.2.2 rfl f_t_letterOf ?_
    refine r_iconst (x := 3) d_X12_often_28 ⟨by decide, by decide⟩ ?_
    refine r_iload_n (x := x1) d_X12_often_29 rfl ?_
    refine r_iload (x := x4) d_X12_often_30 rfl ?_
    refine r_callS (Y2 := mX12_rankIn) (d := d - 1) (mc := 0) (ms := 0) (As := [(0, x1), (0, x4)]) (S := [(0, 3), (2, t_letterOf), (0, x3)]) d_X12_often_32 ok_mX12_rankIn ml_X12_135 rfl (rmc h0d (by decide)) rm00 (Nat.le_of_ble_eq_true rfl) rfl (MC.mono h (fun r N1 Λ1 σ2 hq => ?_))
    obtain ⟨v3, rfl, rfl, rfl, h⟩ := hq
    refine r_imul d_X12_often_35 ?_
    refine r_iload (x := x5) d_X12_often_36 rfl ?_
    refine r_iadd d_X12_often_38 ?_
    refine x_iald d_X12_often_39 h.1 ?_
    have h := h.2
    refine r_iload_n (x := x2) d_X12_often_40 rfl ?_
    refine r_ic_ne (tgt := 48) d_X12_often_41 rfl (fun hc => ?_) (fun hc => ?_)
    · have h := h.1 hc
      refine r_iconst (x := 0) d_X12_often_48 ⟨by decide, by decide⟩ ?_
      refine r_iadd d_X12_often_49 ?_
      refine r_nm (fun y4 ey4 => ?_)
      have h := h y4 ey4
      refine r_istore_n (L2 := [(2, t), (0, x1), (0, x2), (0, y4), (0, x4), (0, x5)]) d_X12_often_50 (by decide) rfl rfl ?_
      refine x_iinc (x := x5) (L := [(2, t), (0, x1), (0, x2), (0, y4), (0, x4), (0, x5)]) d_X12_often_51 rfl (by decide) rfl (fun y5 ey5 => ?_)
      have h := h y5 ey5
      show WP _ _ _ _ _ _ _ _ [(2, t), (0, x1), (0, x2), (0, y4), (0, x4), (0, y5)] _ _ _ _
      refine r_goto (tgt := 17) d_X12_often_54 rfl ?_
      exact h
    · have h := h.2 hc
      refine r_iconst (x := 1) d_X12_often_44 ⟨by decide, by decide⟩ ?_
      refine r_goto (tgt := 49) d_X12_often_45 rfl ?_
      refine r_iadd d_X12_often_49 ?_
      refine r_nm (fun y6 ey6 => ?_)
      have h := h y6 ey6
      refine r_istore_n (L2 := [(2, t), (0, x1), (0, x2), (0, y6), (0, x4), (0, x5)]) d_X12_often_50 (by decide) rfl rfl ?_
      refine x_iinc (x := x5) (L := [(2, t), (0, x1), (0, x2), (0, y6), (0, x4), (0, x5)]) d_X12_often_51 rfl (by decide) rfl (fun y7 ey7 => ?_)
      have h := h y7 ey7
      show WP _ _ _ _ _ _ _ _ [(2, t), (0, x1), (0, x2), (0, y6), (0, x4), (0, y7)] _ _ _ _
      refine r_goto (tgt := 17) d_X12_often_54 rfl ?_
      exact h
theorem v_X12_degree_0 {l : Launch} {d N : Nat} {Λ : Lay} {P : Int → Mem → Prop} {σ : Mem} {x1 x2 t : Int} (o_t : Ob N Λ t 21 36) (h0d : 1 ≤ d)
    (h : (∀ τ1, τ1 = st σ t 0 0 → (CI l mX12_isShelf (d - 1) [(0, x1)] N Λ τ1 (fun v3 σ2 => ((v3 = 0 → P (-2) σ2) ∧ (¬ (v3 = 0) → (CI l mX12_isLetter (d - 1) [(0, x2)] N Λ σ2 (fun v5 σ4 => ((¬ v5 = 0 → WI l mX12_degree d P 27 [(2, t), (0, x1), (0, x2), (0, (-1)), (0, 0), (3, 0)] [] N Λ σ4) ∧ (v5 = 0 → P (-2) σ4)))))))))) :
    WI l mX12_degree d P 0 [(2, t), (0, x1), (0, x2), (3, 0), (3, 0), (3, 0)] [] N Λ σ := by
  refine r_aload_n (x := t) d_X12_degree_0 rfl o_t.1 ?_
  refine r_iconst (x := 0) d_X12_degree_1 ⟨by decide, by decide⟩ ?_
  refine r_putI (j := 0) d_X12_degree_2 kX12 (by decide) fl_X12_1 rfl o_t.1 o_t.2.1 o_t.2.2.1 o_t.2.2.2 rfl ?_
  refine r_nmM (fun τ1 eτ1 => ?_)
  have h := h τ1 eτ1
  refine r_iload_n (x := x1) d_X12_degree_5 rfl ?_
  refine r_callS (Y2 := mX12_isShelf) (d := d - 1) (mc := 0) (ms := 0) (As := [(0, x1)]) (S := []) d_X12_degree_6 ok_mX12_isShelf ml_X12_199 rfl (rmc h0d (by decide)) rm00 (Nat.le_of_ble_eq_true rfl) rfl (MC.mono h (fun r N1 Λ1 σ2 hq => ?_))
  obtain ⟨v3, rfl, rfl, rfl, h⟩ := hq
  refine r_if_eq (tgt := 19) d_X12_degree_9 rfl (fun hc => ?_) (fun hc => ?_)
  · have h := h.1 hc
    refine r_bipush (x := (-2)) d_X12_degree_19 ⟨by decide, by decide⟩ (by decide) ?_
    exact r_iret d_X12_degree_21 rfl rfl (Nat.le_refl 0) (Nat.le_refl 0) ⟨_, rfl, rfl, rfl, h⟩
  · have h := h.2 hc
    refine r_iload_n (x := x2) d_X12_degree_12 rfl ?_
    refine r_callS (Y2 := mX12_isLetter) (d := d - 1) (mc := 0) (ms := 0) (As := [(0, x2)]) (S := []) d_X12_degree_13 ok_mX12_isLetter ml_X12_208 rfl (rmc h0d (by decide)) rm00 (Nat.le_of_ble_eq_true rfl) rfl (MC.mono h (fun r N1 Λ1 σ4 hq => ?_))
    obtain ⟨v5, rfl, rfl, rfl, h⟩ := hq
    refine r_if_ne (tgt := 22) d_X12_degree_16 rfl (fun hc => ?_) (fun hc => ?_)
    · have h := h.1 hc
      refine r_iconst (x := (-1)) d_X12_degree_22 ⟨by decide, by decide⟩ ?_
      refine r_istore_n (L2 := [(2, t), (0, x1), (0, x2), (0, (-1)), (3, 0), (3, 0)]) d_X12_degree_23 (by decide) rfl rfl ?_
      refine r_iconst (x := 0) d_X12_degree_24 ⟨by decide, by decide⟩ ?_
      refine r_istore (L2 := [(2, t), (0, x1), (0, x2), (0, (-1)), (0, 0), (3, 0)]) d_X12_degree_25 (by decide) rfl rfl ?_
      exact h
    · have h := h.2 hc
      refine r_bipush (x := (-2)) d_X12_degree_19 ⟨by decide, by decide⟩ (by decide) ?_
      exact r_iret d_X12_degree_21 rfl rfl (Nat.le_refl 0) (Nat.le_refl 0) ⟨_, rfl, rfl, rfl, h⟩
theorem v_X12_degree_27 {l : Launch} {d N : Nat} {Λ : Lay} {P : Int → Mem → Prop} {σ : Mem} {x1 x2 x3 x4 t t_state : Int} (o_t : Ob N Λ t 21 36) (f_t_state : (Λ t).2.2 3 = t_state) (h0d : 1 ≤ d)
    (h : (Ix N Λ t_state 0 (mulI 161 x1) ∧ (((σ t_state (mulI 161 x1)) ≤ x4 → P x3 σ) ∧ (¬ ((σ t_state (mulI 161 x1)) ≤ x4) → (CI l mX12_keyOn (d - 1) [(2, t_state), (0, x1), (0, x4)] N Λ σ (fun v2 σ1 => (CI l mX12_often (d - 1) [(2, t), (0, v2), (0, x2)] N Λ σ1 (fun v4 σ3 => ((x4 ≤ 0 → (∀ y5, y5 = addI x4 1 → WI l mX12_degree d P 27 [(2, t), (0, x1), (0, x2), (0, v4), (0, y5), (3, 0)] [] N Λ σ3)) ∧ (¬ (x4 ≤ 0) → ((v4 = x3 → (∀ y6, y6 = addI x4 1 → WI l mX12_degree d P 27 [(2, t), (0, x1), (0, x2), (0, v4), (0, y6), (3, 0)] [] N Λ σ3)) ∧ (¬ (v4 = x3) → P (-1) σ3)))))))))))) :
    WI l mX12_degree d P 27 [(2, t), (0, x1), (0, x2), (0, x3), (0, x4), (3, 0)] [] N Λ σ := by
  refine r_iload (x := x4) d_X12_degree_27 rfl ?_
  refine r_aload_n (x := t) d_X12_degree_29 rfl o_t.1 ?_
  refine r_getf (j := 3) (t := 2) (x := t_state) d_X12_degree_30 kX12 (by decide) fl_X12_20 o_t.1 o_t.2.1 o_t.2.2.1 o_t.2.2.2 rfl f_t_state ?_
  refine r_sipush (x := 161) d_X12_degree_33 ⟨by decide, by decide⟩ (by decide) ?_
  refine r_iload_n (x := x1) d_X12_degree_36 rfl ?_
  refine r_imul d_X12_degree_37 ?_
  refine x_iald d_X12_degree_38 h.1 ?_
  have h := h.2
  refine r_ic_ge (tgt := 81) d_X12_degree_39 rfl (fun hc => ?_) (fun hc => ?_)
  · have h := h.1 hc
    refine r_iload_n (x := x3) d_X12_degree_81 rfl ?_
    exact r_iret d_X12_degree_82 rfl rfl (Nat.le_refl 0) (Nat.le_refl 0) ⟨_, rfl, rfl, rfl, h⟩
  · have h := h.2 hc
    refine r_aload_n (x := t) d_X12_degree_42 rfl o_t.1 ?_
    refine r_aload_n (x := t) d_X12_degree_43 rfl o_t.1 ?_
    refine r_getf (j := 3) (t := 2) (x := t_state) d_X12_degree_44 kX12 (by decide) fl_X12_20 o_t.1 o_t.2.1 o_t.2.2.1 o_t.2.2.2 rfl f_t_state ?_
    refine r_iload_n (x := x1) d_X12_degree_47 rfl ?_
    refine r_iload (x := x4) d_X12_degree_48 rfl ?_
    refine r_callS (Y2 := mX12_keyOn) (d := d - 1) (mc := 0) (ms := 0) (As := [(2, t_state), (0, x1), (0, x4)]) (S := [(2, t)]) d_X12_degree_50 ok_mX12_keyOn ml_X12_339 rfl (rmc h0d (by decide)) rm00 (Nat.le_of_ble_eq_true rfl) rfl (MC.mono h (fun r N1 Λ1 σ1 hq => ?_))
    obtain ⟨v2, rfl, rfl, rfl, h⟩ := hq
    refine r_iload_n (x := x2) d_X12_degree_53 rfl ?_
    refine r_callV (Y2 := mX12_often) (d := d - 1) (mc := 0) (ms := 0) (c := t) (As := [(0, v2), (0, x2)]) (S := []) d_X12_degree_54 ok_mX12_often ml_X12_343 rfl (rmc h0d (by decide)) rm00 (Nat.le_of_ble_eq_true rfl) rfl kX12 o_t.1 o_t.2.1 o_t.2.2.1 o_t.2.2.2 (MC.mono h (fun r N1 Λ1 σ3 hq => ?_))
    obtain ⟨v4, rfl, rfl, rfl, h⟩ := hq
    refine r_istore (L2 := [(2, t), (0, x1), (0, x2), (0, x3), (0, x4), (0, v4)]) d_X12_degree_57 (by decide) rfl rfl ?_
    refine r_iload (x := x4) d_X12_degree_59 rfl ?_
    refine r_if_le (tgt := 72) d_X12_degree_61 rfl (fun hc => ?_) (fun hc => ?_)
    · have h := h.1 hc
      refine r_iload (x := v4) d_X12_degree_72 rfl ?_
      refine r_istore_n (L2 := [(2, t), (0, x1), (0, x2), (0, v4), (0, x4), (0, v4)]) d_X12_degree_74 (by decide) rfl rfl ?_
      refine x_iinc (x := x4) (L := [(2, t), (0, x1), (0, x2), (0, v4), (0, x4), (0, v4)]) d_X12_degree_75 rfl (by decide) rfl (fun y5 ey5 => ?_)
      have h := h y5 ey5
      show WP _ _ _ _ _ _ _ _ [(2, t), (0, x1), (0, x2), (0, v4), (0, y5), (0, v4)] _ _ _ _
      refine r_goto (tgt := 27) d_X12_degree_78 rfl ?_
      exact x_mask h ⟨Or.inr rfl, Or.inr rfl, Or.inr rfl, Or.inr rfl, Or.inr rfl, Or.inl rfl, trivial⟩
    · have h := h.2 hc
      refine r_iload (x := v4) d_X12_degree_64 rfl ?_
      refine r_iload_n (x := x3) d_X12_degree_66 rfl ?_
      refine r_ic_eq (tgt := 72) d_X12_degree_67 rfl (fun hc => ?_) (fun hc => ?_)
      · have h := h.1 hc
        refine r_iload (x := v4) d_X12_degree_72 rfl ?_
        refine r_istore_n (L2 := [(2, t), (0, x1), (0, x2), (0, v4), (0, x4), (0, v4)]) d_X12_degree_74 (by decide) rfl rfl ?_
        refine x_iinc (x := x4) (L := [(2, t), (0, x1), (0, x2), (0, v4), (0, x4), (0, v4)]) d_X12_degree_75 rfl (by decide) rfl (fun y6 ey6 => ?_)
        have h := h y6 ey6
        show WP _ _ _ _ _ _ _ _ [(2, t), (0, x1), (0, x2), (0, v4), (0, y6), (0, v4)] _ _ _ _
        refine r_goto (tgt := 27) d_X12_degree_78 rfl ?_
        exact x_mask h ⟨Or.inr rfl, Or.inr rfl, Or.inr rfl, Or.inr rfl, Or.inr rfl, Or.inl rfl, trivial⟩
      · have h := h.2 hc
        refine r_iconst (x := (-1)) d_X12_degree_70 ⟨by decide, by decide⟩ ?_
        exact r_iret d_X12_degree_71 rfl rfl (Nat.le_refl 0) (Nat.le_refl 0) ⟨_, rfl, rfl, rfl, h⟩
theorem v_X12_straightInto_0 {l : Launch} {d N : Nat} {Λ : Lay} {P : Int → Mem → Prop} {σ : Mem} {x1 x2 t : Int} (o_t : Ob N Λ t 21 36) (h0d : 1 ≤ d)
    (h : (CV l mX12_takes (d - 1) [(2, t), (0, x1), (0, x2)] N Λ σ (fun σ1 => (CI l mX12_straightens (d - 1) [(2, t), (0, x2)] N Λ σ1 (fun v3 σ2 => (∀ τ4, τ4 = st σ2 t 24 v3 → (∀ τ5, τ5 = st τ4 t 16 (τ4 t 8) → ((¬ (τ5 t 8) = 0 → (CI l mX12_codeOf (d - 1) [(2, t), (0, (τ5 t 8))] N Λ τ5 (fun v7 σ6 => P v7 σ6))) ∧ ((τ5 t 8) = 0 → P 0 τ5))))))))) :
    WI l mX12_straightInto d P 0 [(2, t), (0, x1), (0, x2)] [] N Λ σ := by
  refine r_aload_n (x := t) d_X12_straightInto_0 rfl o_t.1 ?_
  refine r_iload_n (x := x1) d_X12_straightInto_1 rfl ?_
  refine r_iload_n (x := x2) d_X12_straightInto_2 rfl ?_
  refine r_callV (Y2 := mX12_takes) (d := d - 1) (mc := 0) (ms := 0) (c := t) (As := [(0, x1), (0, x2)]) (S := []) d_X12_straightInto_3 ok_mX12_takes ml_X12_205 rfl (rmc h0d (by decide)) rm00 (Nat.le_of_ble_eq_true rfl) rfl kX12 o_t.1 o_t.2.1 o_t.2.2.1 o_t.2.2.2 (MC.mono h (fun r N1 Λ1 σ1 hq => ?_))
  obtain ⟨rfl, rfl, rfl, h⟩ := hq
  refine r_aload_n (x := t) d_X12_straightInto_6 rfl o_t.1 ?_
  refine r_aload_n (x := t) d_X12_straightInto_7 rfl o_t.1 ?_
  refine r_iload_n (x := x2) d_X12_straightInto_8 rfl ?_
  refine r_callV (Y2 := mX12_straightens) (d := d - 1) (mc := 0) (ms := 0) (c := t) (As := [(0, x2)]) (S := [(2, t)]) d_X12_straightInto_9 ok_mX12_straightens ml_X12_241 rfl (rmc h0d (by decide)) rm00 (Nat.le_of_ble_eq_true rfl) rfl kX12 o_t.1 o_t.2.1 o_t.2.2.1 o_t.2.2.2 (MC.mono h (fun r N1 Λ1 σ2 hq => ?_))
  obtain ⟨v3, rfl, rfl, rfl, h⟩ := hq
  refine r_putI (j := 24) d_X12_straightInto_12 kX12 (by decide) fl_X12_346 rfl o_t.1 o_t.2.1 o_t.2.2.1 o_t.2.2.2 rfl ?_
  refine r_nmM (fun τ4 eτ4 => ?_)
  have h := h τ4 eτ4
  refine r_aload_n (x := t) d_X12_straightInto_15 rfl o_t.1 ?_
  refine r_aload_n (x := t) d_X12_straightInto_16 rfl o_t.1 ?_
  refine r_getf (j := 8) (t := 0) (x := (τ4 t 8)) d_X12_straightInto_17 kX12 (by decide) fl_X12_102 o_t.1 o_t.2.1 o_t.2.2.1 o_t.2.2.2 rfl rfl ?_
  refine r_putI (j := 16) d_X12_straightInto_20 kX12 (by decide) fl_X12_187 rfl o_t.1 o_t.2.1 o_t.2.2.1 o_t.2.2.2 rfl ?_
  refine r_nmM (fun τ5 eτ5 => ?_)
  have h := h τ5 eτ5
  refine r_aload_n (x := t) d_X12_straightInto_23 rfl o_t.1 ?_
  refine r_getf (j := 8) (t := 0) (x := (τ5 t 8)) d_X12_straightInto_24 kX12 (by decide) fl_X12_102 o_t.1 o_t.2.1 o_t.2.2.1 o_t.2.2.2 rfl rfl ?_
  refine r_if_ne (tgt := 34) d_X12_straightInto_27 rfl (fun hc => ?_) (fun hc => ?_)
  · have h := h.1 hc
    refine r_aload_n (x := t) d_X12_straightInto_34 rfl o_t.1 ?_
    refine r_aload_n (x := t) d_X12_straightInto_35 rfl o_t.1 ?_
    refine r_getf (j := 8) (t := 0) (x := (τ5 t 8)) d_X12_straightInto_36 kX12 (by decide) fl_X12_102 o_t.1 o_t.2.1 o_t.2.2.1 o_t.2.2.2 rfl rfl ?_
    refine r_callV (Y2 := mX12_codeOf) (d := d - 1) (mc := 0) (ms := 0) (c := t) (As := [(0, (τ5 t 8))]) (S := []) d_X12_straightInto_39 ok_mX12_codeOf ml_X12_193 rfl (rmc h0d (by decide)) rm00 (Nat.le_of_ble_eq_true rfl) rfl kX12 o_t.1 o_t.2.1 o_t.2.2.1 o_t.2.2.2 (MC.mono h (fun r N1 Λ1 σ6 hq => ?_))
    obtain ⟨v7, rfl, rfl, rfl, h⟩ := hq
    exact r_iret d_X12_straightInto_42 rfl rfl (Nat.le_refl 0) (Nat.le_refl 0) ⟨_, rfl, rfl, rfl, h⟩
  · have h := h.2 hc
    refine r_iconst (x := 0) d_X12_straightInto_30 ⟨by decide, by decide⟩ ?_
    refine r_goto (tgt := 42) d_X12_straightInto_31 rfl ?_
    exact r_iret d_X12_straightInto_42 rfl rfl (Nat.le_refl 0) (Nat.le_refl 0) ⟨_, rfl, rfl, rfl, h⟩
theorem v_X12_steps__0 {l : Launch} {d N : Nat} {Λ : Lay} {P : Int → Mem → Prop} {σ : Mem} {x1 t : Int} (o_t : Ob N Λ t 21 36) (h0d : 1 ≤ d)
    (h : (∀ τ1, τ1 = st σ t 0 0 → (CI l mX12_isShelf (d - 1) [(0, x1)] N Λ τ1 (fun v3 σ2 => ((¬ v3 = 0 → (CV l mX12_begins (d - 1) [(2, t)] N Λ σ2 (fun σ4 => (CI l mX12_straightInto (d - 1) [(2, t), (0, x1), (0, 0)] N Λ σ4 (fun v6 σ5 => ((v6 = 0 → P (σ5 t 24) σ5) ∧ (¬ (v6 = 0) → P v6 σ5))))))) ∧ (v3 = 0 → (CI l mX12_refused (d - 1) [(2, t), (0, (-2))] N Λ σ2 (fun v8 σ7 => P v8 σ7)))))))) :
    WI l mX12_steps_ d P 0 [(2, t), (0, x1), (3, 0)] [] N Λ σ := by
  refine r_aload_n (x := t) d_X12_steps__0 rfl o_t.1 ?_
  refine r_iconst (x := 0) d_X12_steps__1 ⟨by decide, by decide⟩ ?_
  refine r_putI (j := 0) d_X12_steps__2 kX12 (by decide) fl_X12_1 rfl o_t.1 o_t.2.1 o_t.2.2.1 o_t.2.2.2 rfl ?_
  refine r_nmM (fun τ1 eτ1 => ?_)
  have h := h τ1 eτ1
  refine r_iload_n (x := x1) d_X12_steps__5 rfl ?_
  refine r_callS (Y2 := mX12_isShelf) (d := d - 1) (mc := 0) (ms := 0) (As := [(0, x1)]) (S := []) d_X12_steps__6 ok_mX12_isShelf ml_X12_199 rfl (rmc h0d (by decide)) rm00 (Nat.le_of_ble_eq_true rfl) rfl (MC.mono h (fun r N1 Λ1 σ2 hq => ?_))
  obtain ⟨v3, rfl, rfl, rfl, h⟩ := hq
  refine r_if_ne (tgt := 19) d_X12_steps__9 rfl (fun hc => ?_) (fun hc => ?_)
  · have h := h.1 hc
    refine r_aload_n (x := t) d_X12_steps__19 rfl o_t.1 ?_
    refine r_callV (Y2 := mX12_begins) (d := d - 1) (mc := 0) (ms := 0) (c := t) (As := []) (S := []) d_X12_steps__20 ok_mX12_begins ml_X12_202 rfl (rmc h0d (by decide)) rm00 (Nat.le_of_ble_eq_true rfl) rfl kX12 o_t.1 o_t.2.1 o_t.2.2.1 o_t.2.2.2 (MC.mono h (fun r N1 Λ1 σ4 hq => ?_))
    obtain ⟨rfl, rfl, rfl, h⟩ := hq
    refine r_aload_n (x := t) d_X12_steps__23 rfl o_t.1 ?_
    refine r_iload_n (x := x1) d_X12_steps__24 rfl ?_
    refine r_iconst (x := 0) d_X12_steps__25 ⟨by decide, by decide⟩ ?_
    refine r_callV (Y2 := mX12_straightInto) (d := d - 1) (mc := 0) (ms := 0) (c := t) (As := [(0, x1), (0, 0)]) (S := []) d_X12_steps__26 ok_mX12_straightInto ml_X12_349 rfl (rmc h0d (by decide)) rm00 (Nat.le_of_ble_eq_true rfl) rfl kX12 o_t.1 o_t.2.1 o_t.2.2.1 o_t.2.2.2 (MC.mono h (fun r N1 Λ1 σ5 hq => ?_))
    obtain ⟨v6, rfl, rfl, rfl, h⟩ := hq
    refine r_istore_n (L2 := [(2, t), (0, x1), (0, v6)]) d_X12_steps__29 (by decide) rfl rfl ?_
    refine r_iload_n (x := v6) d_X12_steps__30 rfl ?_
    refine r_if_eq (tgt := 38) d_X12_steps__31 rfl (fun hc => ?_) (fun hc => ?_)
    · have h := h.1 hc
      refine r_aload_n (x := t) d_X12_steps__38 rfl o_t.1 ?_
      refine r_getf (j := 24) (t := 0) (x := (σ5 t 24)) d_X12_steps__39 kX12 (by decide) fl_X12_346 o_t.1 o_t.2.1 o_t.2.2.1 o_t.2.2.2 rfl rfl ?_
      exact r_iret d_X12_steps__42 rfl rfl (Nat.le_refl 0) (Nat.le_refl 0) ⟨_, rfl, rfl, rfl, h⟩
    · have h := h.2 hc
      refine r_iload_n (x := v6) d_X12_steps__34 rfl ?_
      refine r_goto (tgt := 42) d_X12_steps__35 rfl ?_
      exact r_iret d_X12_steps__42 rfl rfl (Nat.le_refl 0) (Nat.le_refl 0) ⟨_, rfl, rfl, rfl, h⟩
  · have h := h.2 hc
    refine r_aload_n (x := t) d_X12_steps__12 rfl o_t.1 ?_
    refine r_bipush (x := (-2)) d_X12_steps__13 ⟨by decide, by decide⟩ (by decide) ?_
    refine r_callV (Y2 := mX12_refused) (d := d - 1) (mc := 0) (ms := 0) (c := t) (As := [(0, (-2))]) (S := []) d_X12_steps__15 ok_mX12_refused ml_X12_218 rfl (rmc h0d (by decide)) rm00 (Nat.le_of_ble_eq_true rfl) rfl kX12 o_t.1 o_t.2.1 o_t.2.2.1 o_t.2.2.2 (MC.mono h (fun r N1 Λ1 σ7 hq => ?_))
    obtain ⟨v8, rfl, rfl, rfl, h⟩ := hq
    exact r_iret d_X12_steps__18 rfl rfl (Nat.le_refl 0) (Nat.le_refl 0) ⟨_, rfl, rfl, rfl, h⟩
theorem v_X12_left_0 {l : Launch} {d N : Nat} {Λ : Lay} {P : Int → Mem → Prop} {σ : Mem} {x1 t : Int} (o_t : Ob N Λ t 21 36) (h0d : 1 ≤ d)
    (h : (∀ τ1, τ1 = st σ t 0 0 → (CI l mX12_isShelf (d - 1) [(0, x1)] N Λ τ1 (fun v3 σ2 => ((¬ v3 = 0 → (CV l mX12_begins (d - 1) [(2, t)] N Λ σ2 (fun σ4 => (CI l mX12_straightInto (d - 1) [(2, t), (0, x1), (0, 0)] N Λ σ4 (fun v6 σ5 => ((v6 = 0 → (CI l mX12_many (d - 1) [(2, t), (0, 0)] N Λ σ5 (fun v8 σ7 => P v8 σ7))) ∧ (¬ (v6 = 0) → P v6 σ5))))))) ∧ (v3 = 0 → (CI l mX12_refused (d - 1) [(2, t), (0, (-2))] N Λ σ2 (fun v10 σ9 => P v10 σ9)))))))) :
    WI l mX12_left d P 0 [(2, t), (0, x1), (3, 0)] [] N Λ σ := by
  refine r_aload_n (x := t) d_X12_left_0 rfl o_t.1 ?_
  refine r_iconst (x := 0) d_X12_left_1 ⟨by decide, by decide⟩ ?_
  refine r_putI (j := 0) d_X12_left_2 kX12 (by decide) fl_X12_1 rfl o_t.1 o_t.2.1 o_t.2.2.1 o_t.2.2.2 rfl ?_
  refine r_nmM (fun τ1 eτ1 => ?_)
  have h := h τ1 eτ1
  refine r_iload_n (x := x1) d_X12_left_5 rfl ?_
  refine r_callS (Y2 := mX12_isShelf) (d := d - 1) (mc := 0) (ms := 0) (As := [(0, x1)]) (S := []) d_X12_left_6 ok_mX12_isShelf ml_X12_199 rfl (rmc h0d (by decide)) rm00 (Nat.le_of_ble_eq_true rfl) rfl (MC.mono h (fun r N1 Λ1 σ2 hq => ?_))
  obtain ⟨v3, rfl, rfl, rfl, h⟩ := hq
  refine r_if_ne (tgt := 19) d_X12_left_9 rfl (fun hc => ?_) (fun hc => ?_)
  · have h := h.1 hc
    refine r_aload_n (x := t) d_X12_left_19 rfl o_t.1 ?_
    refine r_callV (Y2 := mX12_begins) (d := d - 1) (mc := 0) (ms := 0) (c := t) (As := []) (S := []) d_X12_left_20 ok_mX12_begins ml_X12_202 rfl (rmc h0d (by decide)) rm00 (Nat.le_of_ble_eq_true rfl) rfl kX12 o_t.1 o_t.2.1 o_t.2.2.1 o_t.2.2.2 (MC.mono h (fun r N1 Λ1 σ4 hq => ?_))
    obtain ⟨rfl, rfl, rfl, h⟩ := hq
    refine r_aload_n (x := t) d_X12_left_23 rfl o_t.1 ?_
    refine r_iload_n (x := x1) d_X12_left_24 rfl ?_
    refine r_iconst (x := 0) d_X12_left_25 ⟨by decide, by decide⟩ ?_
    refine r_callV (Y2 := mX12_straightInto) (d := d - 1) (mc := 0) (ms := 0) (c := t) (As := [(0, x1), (0, 0)]) (S := []) d_X12_left_26 ok_mX12_straightInto ml_X12_349 rfl (rmc h0d (by decide)) rm00 (Nat.le_of_ble_eq_true rfl) rfl kX12 o_t.1 o_t.2.1 o_t.2.2.1 o_t.2.2.2 (MC.mono h (fun r N1 Λ1 σ5 hq => ?_))
    obtain ⟨v6, rfl, rfl, rfl, h⟩ := hq
    refine r_istore_n (L2 := [(2, t), (0, x1), (0, v6)]) d_X12_left_29 (by decide) rfl rfl ?_
    refine r_iload_n (x := v6) d_X12_left_30 rfl ?_
    refine r_if_eq (tgt := 38) d_X12_left_31 rfl (fun hc => ?_) (fun hc => ?_)
    · have h := h.1 hc
      refine r_aload_n (x := t) d_X12_left_38 rfl o_t.1 ?_
      refine r_iconst (x := 0) d_X12_left_39 ⟨by decide, by decide⟩ ?_
      refine r_callV (Y2 := mX12_many) (d := d - 1) (mc := 0) (ms := 0) (c := t) (As := [(0, 0)]) (S := []) d_X12_left_40 ok_mX12_many ml_X12_113 rfl (rmc h0d (by decide)) rm00 (Nat.le_of_ble_eq_true rfl) rfl kX12 o_t.1 o_t.2.1 o_t.2.2.1 o_t.2.2.2 (MC.mono h (fun r N1 Λ1 σ7 hq => ?_))
      obtain ⟨v8, rfl, rfl, rfl, h⟩ := hq
      exact r_iret d_X12_left_43 rfl rfl (Nat.le_refl 0) (Nat.le_refl 0) ⟨_, rfl, rfl, rfl, h⟩
    · have h := h.2 hc
      refine r_iload_n (x := v6) d_X12_left_34 rfl ?_
      refine r_goto (tgt := 43) d_X12_left_35 rfl ?_
      exact r_iret d_X12_left_43 rfl rfl (Nat.le_refl 0) (Nat.le_refl 0) ⟨_, rfl, rfl, rfl, h⟩
  · have h := h.2 hc
    refine r_aload_n (x := t) d_X12_left_12 rfl o_t.1 ?_
    refine r_bipush (x := (-2)) d_X12_left_13 ⟨by decide, by decide⟩ (by decide) ?_
    refine r_callV (Y2 := mX12_refused) (d := d - 1) (mc := 0) (ms := 0) (c := t) (As := [(0, (-2))]) (S := []) d_X12_left_15 ok_mX12_refused ml_X12_218 rfl (rmc h0d (by decide)) rm00 (Nat.le_of_ble_eq_true rfl) rfl kX12 o_t.1 o_t.2.1 o_t.2.2.1 o_t.2.2.2 (MC.mono h (fun r N1 Λ1 σ9 hq => ?_))
    obtain ⟨v10, rfl, rfl, rfl, h⟩ := hq
    exact r_iret d_X12_left_18 rfl rfl (Nat.le_refl 0) (Nat.le_refl 0) ⟨_, rfl, rfl, rfl, h⟩
theorem v_X12_equal_0 {l : Launch} {d N : Nat} {Λ : Lay} {P : Int → Mem → Prop} {σ : Mem} {x1 x2 t : Int} (o_t : Ob N Λ t 21 36) (h0d : 1 ≤ d)
    (h : (∀ τ1, τ1 = st σ t 0 0 → (CI l mX12_isShelf (d - 1) [(0, x1)] N Λ τ1 (fun v3 σ2 => ((v3 = 0 → (CI l mX12_refused (d - 1) [(2, t), (0, (-2))] N Λ σ2 (fun v5 σ4 => P v5 σ4))) ∧ (¬ (v3 = 0) → (CI l mX12_isShelf (d - 1) [(0, x2)] N Λ σ2 (fun v7 σ6 => ((¬ v7 = 0 → (CV l mX12_begins (d - 1) [(2, t)] N Λ σ6 (fun σ8 => (CI l mX12_straightInto (d - 1) [(2, t), (0, x1), (0, 3)] N Λ σ8 (fun v10 σ9 => ((v10 = 0 → (CI l mX12_straightInto (d - 1) [(2, t), (0, x2), (0, 4)] N Λ σ9 (fun v12 σ11 => ((v12 = 0 → (CI l mX12_areAlike (d - 1) [(2, t), (0, 3), (0, 4)] N Λ σ11 (fun v14 σ13 => ((v14 = 0 → P 0 σ13) ∧ (¬ (v14 = 0) → P 1 σ13))))) ∧ (¬ (v12 = 0) → P v12 σ11))))) ∧ (¬ (v10 = 0) → P v10 σ9))))))) ∧ (v7 = 0 → (CI l mX12_refused (d - 1) [(2, t), (0, (-2))] N Λ σ6 (fun v16 σ15 => P v16 σ15)))))))))))) :
    WI l mX12_equal d P 0 [(2, t), (0, x1), (0, x2), (3, 0)] [] N Λ σ := by
  refine r_aload_n (x := t) d_X12_equal_0 rfl o_t.1 ?_
  refine r_iconst (x := 0) d_X12_equal_1 ⟨by decide, by decide⟩ ?_
  refine r_putI (j := 0) d_X12_equal_2 kX12 (by decide) fl_X12_1 rfl o_t.1 o_t.2.1 o_t.2.2.1 o_t.2.2.2 rfl ?_
  refine r_nmM (fun τ1 eτ1 => ?_)
  have h := h τ1 eτ1
  refine r_iload_n (x := x1) d_X12_equal_5 rfl ?_
  refine r_callS (Y2 := mX12_isShelf) (d := d - 1) (mc := 0) (ms := 0) (As := [(0, x1)]) (S := []) d_X12_equal_6 ok_mX12_isShelf ml_X12_199 rfl (rmc h0d (by decide)) rm00 (Nat.le_of_ble_eq_true rfl) rfl (MC.mono h (fun r N1 Λ1 σ2 hq => ?_))
  obtain ⟨v3, rfl, rfl, rfl, h⟩ := hq
  refine r_if_eq (tgt := 19) d_X12_equal_9 rfl (fun hc => ?_) (fun hc => ?_)
  · have h := h.1 hc
    refine r_aload_n (x := t) d_X12_equal_19 rfl o_t.1 ?_
    refine r_bipush (x := (-2)) d_X12_equal_20 ⟨by decide, by decide⟩ (by decide) ?_
    refine r_callV (Y2 := mX12_refused) (d := d - 1) (mc := 0) (ms := 0) (c := t) (As := [(0, (-2))]) (S := []) d_X12_equal_22 ok_mX12_refused ml_X12_218 rfl (rmc h0d (by decide)) rm00 (Nat.le_of_ble_eq_true rfl) rfl kX12 o_t.1 o_t.2.1 o_t.2.2.1 o_t.2.2.2 (MC.mono h (fun r N1 Λ1 σ4 hq => ?_))
    obtain ⟨v5, rfl, rfl, rfl, h⟩ := hq
    exact r_iret d_X12_equal_25 rfl rfl (Nat.le_refl 0) (Nat.le_refl 0) ⟨_, rfl, rfl, rfl, h⟩
  · have h := h.2 hc
    refine r_iload_n (x := x2) d_X12_equal_12 rfl ?_
    refine r_callS (Y2 := mX12_isShelf) (d := d - 1) (mc := 0) (ms := 0) (As := [(0, x2)]) (S := []) d_X12_equal_13 ok_mX12_isShelf ml_X12_199 rfl (rmc h0d (by decide)) rm00 (Nat.le_of_ble_eq_true rfl) rfl (MC.mono h (fun r N1 Λ1 σ6 hq => ?_))
    obtain ⟨v7, rfl, rfl, rfl, h⟩ := hq
    refine r_if_ne (tgt := 26) d_X12_equal_16 rfl (fun hc => ?_) (fun hc => ?_)
    · have h := h.1 hc
      refine r_aload_n (x := t) d_X12_equal_26 rfl o_t.1 ?_
      refine r_callV (Y2 := mX12_begins) (d := d - 1) (mc := 0) (ms := 0) (c := t) (As := []) (S := []) d_X12_equal_27 ok_mX12_begins ml_X12_202 rfl (rmc h0d (by decide)) rm00 (Nat.le_of_ble_eq_true rfl) rfl kX12 o_t.1 o_t.2.1 o_t.2.2.1 o_t.2.2.2 (MC.mono h (fun r N1 Λ1 σ8 hq => ?_))
      obtain ⟨rfl, rfl, rfl, h⟩ := hq
      refine r_aload_n (x := t) d_X12_equal_30 rfl o_t.1 ?_
      refine r_iload_n (x := x1) d_X12_equal_31 rfl ?_
      refine r_iconst (x := 3) d_X12_equal_32 ⟨by decide, by decide⟩ ?_
      refine r_callV (Y2 := mX12_straightInto) (d := d - 1) (mc := 0) (ms := 0) (c := t) (As := [(0, x1), (0, 3)]) (S := []) d_X12_equal_33 ok_mX12_straightInto ml_X12_349 rfl (rmc h0d (by decide)) rm00 (Nat.le_of_ble_eq_true rfl) rfl kX12 o_t.1 o_t.2.1 o_t.2.2.1 o_t.2.2.2 (MC.mono h (fun r N1 Λ1 σ9 hq => ?_))
      obtain ⟨v10, rfl, rfl, rfl, h⟩ := hq
      refine r_istore_n (L2 := [(2, t), (0, x1), (0, x2), (0, v10)]) d_X12_equal_36 (by decide) rfl rfl ?_
      refine r_iload_n (x := v10) d_X12_equal_37 rfl ?_
      refine r_if_eq (tgt := 43) d_X12_equal_38 rfl (fun hc => ?_) (fun hc => ?_)
      · have h := h.1 hc
        refine r_aload_n (x := t) d_X12_equal_43 rfl o_t.1 ?_
        refine r_iload_n (x := x2) d_X12_equal_44 rfl ?_
        refine r_iconst (x := 4) d_X12_equal_45 ⟨by decide, by decide⟩ ?_
        refine r_callV (Y2 := mX12_straightInto) (d := d - 1) (mc := 0) (ms := 0) (c := t) (As := [(0, x2), (0, 4)]) (S := []) d_X12_equal_46 ok_mX12_straightInto ml_X12_349 rfl (rmc h0d (by decide)) rm00 (Nat.le_of_ble_eq_true rfl) rfl kX12 o_t.1 o_t.2.1 o_t.2.2.1 o_t.2.2.2 (MC.mono h (fun r N1 Λ1 σ11 hq => ?_))
        obtain ⟨v12, rfl, rfl, rfl, h⟩ := hq
        refine r_istore_n (L2 := [(2, t), (0, x1), (0, x2), (0, v12)]) d_X12_equal_49 (by decide) rfl rfl ?_
        refine r_iload_n (x := v12) d_X12_equal_50 rfl ?_
        refine r_if_eq (tgt := 56) d_X12_equal_51 rfl (fun hc => ?_) (fun hc => ?_)
        · have h := h.1 hc
          refine r_aload_n (x := t) d_X12_equal_56 rfl o_t.1 ?_
          refine r_iconst (x := 3) d_X12_equal_57 ⟨by decide, by decide⟩ ?_
          refine r_iconst (x := 4) d_X12_equal_58 ⟨by decide, by decide⟩ ?_
          refine r_callV (Y2 := mX12_areAlike) (d := d - 1) (mc := 0) (ms := 0) (c := t) (As := [(0, 3), (0, 4)]) (S := []) d_X12_equal_59 ok_mX12_areAlike ml_X12_352 rfl (rmc h0d (by decide)) rm00 (Nat.le_of_ble_eq_true rfl) rfl kX12 o_t.1 o_t.2.1 o_t.2.2.1 o_t.2.2.2 (MC.mono h (fun r N1 Λ1 σ13 hq => ?_))
          obtain ⟨v14, rfl, rfl, rfl, h⟩ := hq
          refine r_if_eq (tgt := 69) d_X12_equal_62 rfl (fun hc => ?_) (fun hc => ?_)
          · have h := h.1 hc
            refine r_iconst (x := 0) d_X12_equal_69 ⟨by decide, by decide⟩ ?_
            exact r_iret d_X12_equal_70 rfl rfl (Nat.le_refl 0) (Nat.le_refl 0) ⟨_, rfl, rfl, rfl, h⟩
          · have h := h.2 hc
            refine r_iconst (x := 1) d_X12_equal_65 ⟨by decide, by decide⟩ ?_
            refine r_goto (tgt := 70) d_X12_equal_66 rfl ?_
            exact r_iret d_X12_equal_70 rfl rfl (Nat.le_refl 0) (Nat.le_refl 0) ⟨_, rfl, rfl, rfl, h⟩
        · have h := h.2 hc
          refine r_iload_n (x := v12) d_X12_equal_54 rfl ?_
          exact r_iret d_X12_equal_55 rfl rfl (Nat.le_refl 0) (Nat.le_refl 0) ⟨_, rfl, rfl, rfl, h⟩
      · have h := h.2 hc
        refine r_iload_n (x := v10) d_X12_equal_41 rfl ?_
        exact r_iret d_X12_equal_42 rfl rfl (Nat.le_refl 0) (Nat.le_refl 0) ⟨_, rfl, rfl, rfl, h⟩
    · have h := h.2 hc
      refine r_aload_n (x := t) d_X12_equal_19 rfl o_t.1 ?_
      refine r_bipush (x := (-2)) d_X12_equal_20 ⟨by decide, by decide⟩ (by decide) ?_
      refine r_callV (Y2 := mX12_refused) (d := d - 1) (mc := 0) (ms := 0) (c := t) (As := [(0, (-2))]) (S := []) d_X12_equal_22 ok_mX12_refused ml_X12_218 rfl (rmc h0d (by decide)) rm00 (Nat.le_of_ble_eq_true rfl) rfl kX12 o_t.1 o_t.2.1 o_t.2.2.1 o_t.2.2.2 (MC.mono h (fun r N1 Λ1 σ15 hq => ?_))
      obtain ⟨v16, rfl, rfl, rfl, h⟩ := hq
      exact r_iret d_X12_equal_25 rfl rfl (Nat.le_refl 0) (Nat.le_refl 0) ⟨_, rfl, rfl, rfl, h⟩
theorem v_X12_counts_0 {l : Launch} {d N : Nat} {Λ : Lay} {P : Mem → Prop} {σ : Mem} {x1 x2 t : Int}
    (h : WV l mX12_counts d P 2 [(2, t), (0, x1), (0, x2), (0, 0)] [] N Λ σ) :
    WV l mX12_counts d P 0 [(2, t), (0, x1), (0, x2), (3, 0)] [] N Λ σ := by
  refine r_iconst (x := 0) d_X12_counts_0 ⟨by decide, by decide⟩ ?_
  refine r_istore_n (L2 := [(2, t), (0, x1), (0, x2), (0, 0)]) d_X12_counts_1 (by decide) rfl rfl ?_
  exact h
theorem v_X12_counts_2 {l : Launch} {d N : Nat} {Λ : Lay} {P : Mem → Prop} {σ : Mem} {x1 x2 x3 t t_counts : Int} (o_t : Ob N Λ t 21 36) (f_t_counts : (Λ t).2.2 25 = t_counts) (h0d : 1 ≤ d)
    (h : ((10 ≤ x3 → P σ) ∧ (¬ (10 ≤ x3) → (Ix N Λ t_counts 0 x3 ∧ (CI l mX12_often (d - 1) [(2, t), (0, x1), (0, x3)] N Λ σ (fun v2 σ1 => (Ix N Λ t_counts 0 x3 ∧ (∀ τ3, τ3 = st σ1 t_counts x3 (addI (σ t_counts x3) (mulI x2 v2)) → (∀ y4, y4 = addI x3 1 → WV l mX12_counts d P 2 [(2, t), (0, x1), (0, x2), (0, y4)] [] N Λ τ3))))))))) :
    WV l mX12_counts d P 2 [(2, t), (0, x1), (0, x2), (0, x3)] [] N Λ σ := by
  refine r_iload_n (x := x3) d_X12_counts_2 rfl ?_
  refine r_bipush (x := 10) d_X12_counts_3 ⟨by decide, by decide⟩ (by decide) ?_
  refine r_ic_ge (tgt := 31) d_X12_counts_5 rfl (fun hc => ?_) (fun hc => ?_)
  · have h := h.1 hc
    exact r_vret d_X12_counts_31 rfl (Nat.le_refl 0) (Nat.le_refl 0) ⟨rfl, rfl, rfl, h⟩
  · have h := h.2 hc
    refine r_aload_n (x := t) d_X12_counts_8 rfl o_t.1 ?_
    refine r_getf (j := 25) (t := 2) (x := t_counts) d_X12_counts_9 kX12 (by decide) fl_X12_64 o_t.1 o_t.2.1 o_t.2.2.1 o_t.2.2.2 rfl f_t_counts ?_
    refine r_iload_n (x := x3) d_X12_counts_12 rfl ?_
    refine r_dup2 d_X12_counts_13 rfl rfl ?_
    refine x_iald d_X12_counts_14 h.1 ?_
    have h := h.2
    refine r_iload_n (x := x2) d_X12_counts_15 rfl ?_
    refine r_aload_n (x := t) d_X12_counts_16 rfl o_t.1 ?_
    refine r_iload_n (x := x1) d_X12_counts_17 rfl ?_
    refine r_iload_n (x := x3) d_X12_counts_18 rfl ?_
    refine r_callV (Y2 := mX12_often) (d := d - 1) (mc := 0) (ms := 0) (c := t) (As := [(0, x1), (0, x3)]) (S := [(0, x2), (0, (σ t_counts x3)), (0, x3), (2, t_counts)]) d_X12_counts_19 ok_mX12_often ml_X12_343 rfl (rmc h0d (by decide)) rm00 (Nat.le_of_ble_eq_true rfl) rfl kX12 o_t.1 o_t.2.1 o_t.2.2.1 o_t.2.2.2 (MC.mono h (fun r N1 Λ1 σ1 hq => ?_))
    obtain ⟨v2, rfl, rfl, rfl, h⟩ := hq
    refine r_imul d_X12_counts_22 ?_
    refine r_iadd d_X12_counts_23 ?_
    refine x_iast d_X12_counts_24 h.1 ?_
    have h := h.2
    refine r_nmM (fun τ3 eτ3 => ?_)
    have h := h τ3 eτ3
    refine x_iinc (x := x3) (L := [(2, t), (0, x1), (0, x2), (0, x3)]) d_X12_counts_25 rfl (by decide) rfl (fun y4 ey4 => ?_)
    have h := h y4 ey4
    show WP _ _ _ _ _ _ _ _ [(2, t), (0, x1), (0, x2), (0, y4)] _ _ _ _
    refine r_goto (tgt := 2) d_X12_counts_28 rfl ?_
    exact h
theorem v_X12_goesOn_0 {l : Launch} {d N : Nat} {Λ : Lay} {P : Int → Mem → Prop} {σ : Mem} {x1 t t_formRank : Int} (o_t : Ob N Λ t 21 36) (f_t_formRank : (Λ t).2.2 26 = t_formRank)
    (h : ((¬ x1 = (σ t 28) → ((¬ x1 = 0 → (Ix N Λ t_formRank 0 (subI x1 1) ∧ (∀ y1, y1 = (σ t_formRank (subI x1 1)) → WI l mX12_goesOn d P 58 [(2, t), (0, x1), (0, y1), (3, 0), (3, 0)] [] N Λ σ))) ∧ (x1 = 0 → WI l mX12_goesOn d P 58 [(2, t), (0, x1), (0, 1), (3, 0), (3, 0)] [] N Λ σ))) ∧ (x1 = (σ t 28) → (∀ τ2, τ2 = st σ t 29 (addI (σ t 29) 1) → (∀ τ3, τ3 = st τ2 t 27 (subI (τ2 t 27) 1) → ((0 ≤ (τ3 t 27) → P 0 τ3) ∧ (¬ (0 ≤ (τ3 t 27)) → P 1 τ3))))))) :
    WI l mX12_goesOn d P 0 [(2, t), (0, x1), (3, 0), (3, 0), (3, 0)] [] N Λ σ := by
  refine r_iload_n (x := x1) d_X12_goesOn_0 rfl ?_
  refine r_aload_n (x := t) d_X12_goesOn_1 rfl o_t.1 ?_
  refine r_getf (j := 28) (t := 0) (x := (σ t 28)) d_X12_goesOn_2 kX12 (by decide) fl_X12_355 o_t.1 o_t.2.1 o_t.2.2.1 o_t.2.2.2 rfl rfl ?_
  refine r_ic_ne (tgt := 41) d_X12_goesOn_5 rfl (fun hc => ?_) (fun hc => ?_)
  · have h := h.1 hc
    refine r_iload_n (x := x1) d_X12_goesOn_41 rfl ?_
    refine r_if_ne (tgt := 49) d_X12_goesOn_42 rfl (fun hc => ?_) (fun hc => ?_)
    · have h := h.1 hc
      refine r_aload_n (x := t) d_X12_goesOn_49 rfl o_t.1 ?_
      refine r_getf (j := 26) (t := 2) (x := t_formRank) d_X12_goesOn_50 kX12 (by decide) fl_X12_67 o_t.1 o_t.2.1 o_t.2.2.1 o_t.2.2.2 rfl f_t_formRank ?_
      refine r_iload_n (x := x1) d_X12_goesOn_53 rfl ?_
      refine r_iconst (x := 1) d_X12_goesOn_54 ⟨by decide, by decide⟩ ?_
      refine r_isub d_X12_goesOn_55 ?_
      refine x_iald d_X12_goesOn_56 h.1 ?_
      have h := h.2
      refine r_nm (fun y1 ey1 => ?_)
      have h := h y1 ey1
      refine r_istore_n (L2 := [(2, t), (0, x1), (0, y1), (3, 0), (3, 0)]) d_X12_goesOn_57 (by decide) rfl rfl ?_
      exact h
    · have h := h.2 hc
      refine r_iconst (x := 1) d_X12_goesOn_45 ⟨by decide, by decide⟩ ?_
      refine r_goto (tgt := 57) d_X12_goesOn_46 rfl ?_
      refine r_istore_n (L2 := [(2, t), (0, x1), (0, 1), (3, 0), (3, 0)]) d_X12_goesOn_57 (by decide) rfl rfl ?_
      exact h
  · have h := h.2 hc
    refine r_aload_n (x := t) d_X12_goesOn_8 rfl o_t.1 ?_
    refine r_dup d_X12_goesOn_9 rfl ?_
    refine r_getf (j := 29) (t := 0) (x := (σ t 29)) d_X12_goesOn_10 kX12 (by decide) fl_X12_358 o_t.1 o_t.2.1 o_t.2.2.1 o_t.2.2.2 rfl rfl ?_
    refine r_iconst (x := 1) d_X12_goesOn_13 ⟨by decide, by decide⟩ ?_
    refine r_iadd d_X12_goesOn_14 ?_
    refine r_putI (j := 29) d_X12_goesOn_15 kX12 (by decide) fl_X12_358 rfl o_t.1 o_t.2.1 o_t.2.2.1 o_t.2.2.2 rfl ?_
    refine r_nmM (fun τ2 eτ2 => ?_)
    have h := h τ2 eτ2
    refine r_aload_n (x := t) d_X12_goesOn_18 rfl o_t.1 ?_
    refine r_dup d_X12_goesOn_19 rfl ?_
    refine r_getf (j := 27) (t := 0) (x := (τ2 t 27)) d_X12_goesOn_20 kX12 (by decide) fl_X12_361 o_t.1 o_t.2.1 o_t.2.2.1 o_t.2.2.2 rfl rfl ?_
    refine r_iconst (x := 1) d_X12_goesOn_23 ⟨by decide, by decide⟩ ?_
    refine r_isub d_X12_goesOn_24 ?_
    refine r_putI (j := 27) d_X12_goesOn_25 kX12 (by decide) fl_X12_361 rfl o_t.1 o_t.2.1 o_t.2.2.1 o_t.2.2.2 rfl ?_
    refine r_nmM (fun τ3 eτ3 => ?_)
    have h := h τ3 eτ3
    refine r_aload_n (x := t) d_X12_goesOn_28 rfl o_t.1 ?_
    refine r_getf (j := 27) (t := 0) (x := (τ3 t 27)) d_X12_goesOn_29 kX12 (by decide) fl_X12_361 o_t.1 o_t.2.1 o_t.2.2.1 o_t.2.2.2 rfl rfl ?_
    refine r_if_ge (tgt := 39) d_X12_goesOn_32 rfl (fun hc => ?_) (fun hc => ?_)
    · have h := h.1 hc
      refine r_iconst (x := 0) d_X12_goesOn_39 ⟨by decide, by decide⟩ ?_
      exact r_iret d_X12_goesOn_40 rfl (by decide) (Nat.le_refl 0) (Nat.le_refl 0) ⟨_, rfl, rfl, rfl, h⟩
    · have h := h.2 hc
      refine r_iconst (x := 1) d_X12_goesOn_35 ⟨by decide, by decide⟩ ?_
      refine r_goto (tgt := 40) d_X12_goesOn_36 rfl ?_
      exact r_iret d_X12_goesOn_40 rfl (by decide) (Nat.le_refl 0) (Nat.le_refl 0) ⟨_, rfl, rfl, rfl, h⟩
theorem v_X12_goesOn_58 {l : Launch} {d N : Nat} {Λ : Lay} {P : Int → Mem → Prop} {σ : Mem} {x1 x2 t t_counts t_formRank t_letterOf : Int} (o_t : Ob N Λ t 21 36) (f_t_counts : (Λ t).2.2 25 = t_counts) (f_t_letterOf : (Λ t).2.2 2 = t_letterOf) (f_t_formRank : (Λ t).2.2 26 = t_formRank) (h0d : 1 ≤ d)
    (h : ((120 < x2 → P 0 σ) ∧ (¬ (120 < x2) → ((x1 ≤ 0 → (Ix N Λ t_letterOf 0 (mulI 3 x2) ∧ (Ix N Λ t_counts 0 (σ t_letterOf (mulI 3 x2)) ∧ (((σ t_counts (σ t_letterOf (mulI 3 x2))) ≤ 0 → (∀ y1, y1 = addI x2 1 → WI l mX12_goesOn d P 58 [(2, t), (0, x1), (0, y1), (3, 0), (3, 0)] [] N Λ σ)) ∧ (¬ ((σ t_counts (σ t_letterOf (mulI 3 x2))) ≤ 0) → (Ix N Λ t_letterOf 0 (addI (mulI 3 x2) 1) ∧ (Ix N Λ t_counts 0 (σ t_letterOf (addI (mulI 3 x2) 1)) ∧ (((σ t_counts (σ t_letterOf (addI (mulI 3 x2) 1))) ≤ 0 → (∀ y2, y2 = addI x2 1 → WI l mX12_goesOn d P 58 [(2, t), (0, x1), (0, y2), (3, 0), (3, 0)] [] N Λ σ)) ∧ (¬ ((σ t_counts (σ t_letterOf (addI (mulI 3 x2) 1))) ≤ 0) → (Ix N Λ t_letterOf 0 (addI (mulI 3 x2) 2) ∧ (Ix N Λ t_counts 0 (σ t_letterOf (addI (mulI 3 x2) 2)) ∧ (((σ t_counts (σ t_letterOf (addI (mulI 3 x2) 2))) ≤ 0 → (∀ y3, y3 = addI x2 1 → WI l mX12_goesOn d P 58 [(2, t), (0, x1), (0, y3), (3, 0), (3, 0)] [] N Λ σ)) ∧ (¬ ((σ t_counts (σ t_letterOf (addI (mulI 3 x2) 2))) ≤ 0) → (Ix N Λ t_formRank 0 x1 ∧ (∀ τ4, τ4 = st σ t_formRank x1 x2 → (CV l mX12_counts (d - 1) [(2, t), (0, (mulI (mulI (mulI x2 121) 121) 121)), (0, (-1))] N Λ τ4 (fun σ5 => (CI l mX12_goesOn (d - 1) [(2, t), (0, (addI x1 1))] N Λ σ5 (fun v7 σ6 => (CV l mX12_counts (d - 1) [(2, t), (0, (mulI (mulI (mulI x2 121) 121) 121)), (0, 1)] N Λ σ6 (fun σ8 => ((v7 = 0 → (∀ y9, y9 = addI x2 1 → WI l mX12_goesOn d P 58 [(2, t), (0, x1), (0, y9), (3, 0), (3, 0)] [] N Λ σ8)) ∧ (¬ (v7 = 0) → P 1 σ8))))))))))))))))))))))) ∧ (¬ (x1 ≤ 0) → (Ix N Λ t_formRank 0 (subI x1 1) ∧ (CI l mX12_isBroken (d - 1) [(2, t), (0, (σ t_formRank (subI x1 1))), (0, x2)] N Λ σ (fun v11 σ10 => ((v11 = 0 → (Ix N Λ t_letterOf 0 (mulI 3 x2) ∧ (Ix N Λ t_counts 0 (σ10 t_letterOf (mulI 3 x2)) ∧ (((σ10 t_counts (σ10 t_letterOf (mulI 3 x2))) ≤ 0 → (∀ y12, y12 = addI x2 1 → WI l mX12_goesOn d P 58 [(2, t), (0, x1), (0, y12), (3, 0), (3, 0)] [] N Λ σ10)) ∧ (¬ ((σ10 t_counts (σ10 t_letterOf (mulI 3 x2))) ≤ 0) → (Ix N Λ t_letterOf 0 (addI (mulI 3 x2) 1) ∧ (Ix N Λ t_counts 0 (σ10 t_letterOf (addI (mulI 3 x2) 1)) ∧ (((σ10 t_counts (σ10 t_letterOf (addI (mulI 3 x2) 1))) ≤ 0 → (∀ y13, y13 = addI x2 1 → WI l mX12_goesOn d P 58 [(2, t), (0, x1), (0, y13), (3, 0), (3, 0)] [] N Λ σ10)) ∧ (¬ ((σ10 t_counts (σ10 t_letterOf (addI (mulI 3 x2) 1))) ≤ 0) → (Ix N Λ t_letterOf 0 (addI (mulI 3 x2) 2) ∧ (Ix N Λ t_counts 0 (σ10 t_letterOf (addI (mulI 3 x2) 2)) ∧ (((σ10 t_counts (σ10 t_letterOf (addI (mulI 3 x2) 2))) ≤ 0 → (∀ y14, y14 = addI x2 1 → WI l mX12_goesOn d P 58 [(2, t), (0, x1), (0, y14), (3, 0), (3, 0)] [] N Λ σ10)) ∧ (¬ ((σ10 t_counts (σ10 t_letterOf (addI (mulI 3 x2) 2))) ≤ 0) → (Ix N Λ t_formRank 0 x1 ∧ (∀ τ15, τ15 = st σ10 t_formRank x1 x2 → (CV l mX12_counts (d - 1) [(2, t), (0, (mulI (mulI (mulI x2 121) 121) 121)), (0, (-1))] N Λ τ15 (fun σ16 => (CI l mX12_goesOn (d - 1) [(2, t), (0, (addI x1 1))] N Λ σ16 (fun v18 σ17 => (CV l mX12_counts (d - 1) [(2, t), (0, (mulI (mulI (mulI x2 121) 121) 121)), (0, 1)] N Λ σ17 (fun σ19 => ((v18 = 0 → (∀ y20, y20 = addI x2 1 → WI l mX12_goesOn d P 58 [(2, t), (0, x1), (0, y20), (3, 0), (3, 0)] [] N Λ σ19)) ∧ (¬ (v18 = 0) → P 1 σ19))))))))))))))))))))))) ∧ (¬ (v11 = 0) → (∀ y21, y21 = addI x2 1 → WI l mX12_goesOn d P 58 [(2, t), (0, x1), (0, y21), (3, 0), (3, 0)] [] N Λ σ10))))))))))) :
    WI l mX12_goesOn d P 58 [(2, t), (0, x1), (0, x2), (3, 0), (3, 0)] [] N Λ σ := by
  refine r_iload_n (x := x2) d_X12_goesOn_58 rfl ?_
  refine r_bipush (x := 120) d_X12_goesOn_59 ⟨by decide, by decide⟩ (by decide) ?_
  refine r_ic_gt (tgt := 211) d_X12_goesOn_61 rfl (fun hc => ?_) (fun hc => ?_)
  · have h := h.1 hc
    refine r_iconst (x := 0) d_X12_goesOn_211 ⟨by decide, by decide⟩ ?_
    exact r_iret d_X12_goesOn_212 rfl (by decide) (Nat.le_refl 0) (Nat.le_refl 0) ⟨_, rfl, rfl, rfl, h⟩
  · have h := h.2 hc
    refine r_iload_n (x := x1) d_X12_goesOn_64 rfl ?_
    refine r_if_le (tgt := 87) d_X12_goesOn_65 rfl (fun hc => ?_) (fun hc => ?_)
    · have h := h.1 hc
      refine r_aload_n (x := t) d_X12_goesOn_87 rfl o_t.1 ?_
      refine r_getf (j := 25) (t := 2) (x := t_counts) d_X12_goesOn_88 kX12 (by decide) fl_X12_64 o_t.1 o_t.2.1 o_t.2.2.1 o_t.2.2.2 rfl f_t_counts ?_
      refine r_aload_n (x := t) d_X12_goesOn_91 rfl o_t.1 ?_
      refine r_getf (j := 2) (t := 2) (x := t_letterOf) d_X12_goesOn_92 kX12 (by decide) fl_X12_17 o_t.1 o_t.2.1 o_t.2.2.1 o_t.2.2.2 rfl f_t_letterOf ?_
      refine r_iconst (x := 3) d_X12_goesOn_95 ⟨by decide, by decide⟩ ?_
      refine r_iload_n (x := x2) d_X12_goesOn_96 rfl ?_
      refine r_imul d_X12_goesOn_97 ?_
      refine x_iald d_X12_goesOn_98 h.1 ?_
      have h := h.2
      refine x_iald d_X12_goesOn_99 h.1 ?_
      have h := h.2
      refine r_if_le (tgt := 143) d_X12_goesOn_100 rfl (fun hc => ?_) (fun hc => ?_)
      · have h := h.1 hc
        refine r_iconst (x := 0) d_X12_goesOn_143 ⟨by decide, by decide⟩ ?_
        refine r_istore_n (L2 := [(2, t), (0, x1), (0, x2), (0, 0), (3, 0)]) d_X12_goesOn_144 (by decide) rfl rfl ?_
        refine r_iload_n (x := 0) d_X12_goesOn_145 rfl ?_
        refine r_if_ne (tgt := 152) d_X12_goesOn_146 rfl (fun hc => absurd hc (by decide)) (fun _ => ?_)
        refine r_goto (tgt := 205) d_X12_goesOn_149 rfl ?_
        refine x_iinc (x := x2) (L := [(2, t), (0, x1), (0, x2), (0, 0), (3, 0)]) d_X12_goesOn_205 rfl (by decide) rfl (fun y1 ey1 => ?_)
        have h := h y1 ey1
        show WP _ _ _ _ _ _ _ _ [(2, t), (0, x1), (0, y1), (0, 0), (3, 0)] _ _ _ _
        refine r_goto (tgt := 58) d_X12_goesOn_208 rfl ?_
        exact x_mask h ⟨Or.inr rfl, Or.inr rfl, Or.inr rfl, Or.inl rfl, Or.inl rfl, trivial⟩
      · have h := h.2 hc
        refine r_aload_n (x := t) d_X12_goesOn_103 rfl o_t.1 ?_
        refine r_getf (j := 25) (t := 2) (x := t_counts) d_X12_goesOn_104 kX12 (by decide) fl_X12_64 o_t.1 o_t.2.1 o_t.2.2.1 o_t.2.2.2 rfl f_t_counts ?_
        refine r_aload_n (x := t) d_X12_goesOn_107 rfl o_t.1 ?_
        refine r_getf (j := 2) (t := 2) (x := t_letterOf) d_X12_goesOn_108 kX12 (by decide) fl_X12_17 o_t.1 o_t.2.1 o_t.2.2.1 o_t.2.2.2 rfl f_t_letterOf ?_
        refine r_iconst (x := 3) d_X12_goesOn_111 ⟨by decide, by decide⟩ ?_
        refine r_iload_n (x := x2) d_X12_goesOn_112 rfl ?_
        refine r_imul d_X12_goesOn_113 ?_
        refine r_iconst (x := 1) d_X12_goesOn_114 ⟨by decide, by decide⟩ ?_
        refine r_iadd d_X12_goesOn_115 ?_
        refine x_iald d_X12_goesOn_116 h.1 ?_
        have h := h.2
        refine x_iald d_X12_goesOn_117 h.1 ?_
        have h := h.2
        refine r_if_le (tgt := 143) d_X12_goesOn_118 rfl (fun hc => ?_) (fun hc => ?_)
        · have h := h.1 hc
          refine r_iconst (x := 0) d_X12_goesOn_143 ⟨by decide, by decide⟩ ?_
          refine r_istore_n (L2 := [(2, t), (0, x1), (0, x2), (0, 0), (3, 0)]) d_X12_goesOn_144 (by decide) rfl rfl ?_
          refine r_iload_n (x := 0) d_X12_goesOn_145 rfl ?_
          refine r_if_ne (tgt := 152) d_X12_goesOn_146 rfl (fun hc => absurd hc (by decide)) (fun _ => ?_)
          refine r_goto (tgt := 205) d_X12_goesOn_149 rfl ?_
          refine x_iinc (x := x2) (L := [(2, t), (0, x1), (0, x2), (0, 0), (3, 0)]) d_X12_goesOn_205 rfl (by decide) rfl (fun y2 ey2 => ?_)
          have h := h y2 ey2
          show WP _ _ _ _ _ _ _ _ [(2, t), (0, x1), (0, y2), (0, 0), (3, 0)] _ _ _ _
          refine r_goto (tgt := 58) d_X12_goesOn_208 rfl ?_
          exact x_mask h ⟨Or.inr rfl, Or.inr rfl, Or.inr rfl, Or.inl rfl, Or.inl rfl, trivial⟩
        · have h := h.2 hc
          refine r_aload_n (x := t) d_X12_goesOn_121 rfl o_t.1 ?_
          refine r_getf (j := 25) (t := 2) (x := t_counts) d_X12_goesOn_122 kX12 (by decide) fl_X12_64 o_t.1 o_t.2.1 o_t.2.2.1 o_t.2.2.2 rfl f_t_counts ?_
          refine r_aload_n (x := t) d_X12_goesOn_125 rfl o_t.1 ?_
          refine r_getf (j := 2) (t := 2) (x := t_letterOf) d_X12_goesOn_126 kX12 (by decide) fl_X12_17 o_t.1 o_t.2.1 o_t.2.2.1 o_t.2.2.2 rfl f_t_letterOf ?_
          refine r_iconst (x := 3) d_X12_goesOn_129 ⟨by decide, by decide⟩ ?_
          refine r_iload_n (x := x2) d_X12_goesOn_130 rfl ?_
          refine r_imul d_X12_goesOn_131 ?_
          refine r_iconst (x := 2) d_X12_goesOn_132 ⟨by decide, by decide⟩ ?_
          refine r_iadd d_X12_goesOn_133 ?_
          refine x_iald d_X12_goesOn_134 h.1 ?_
          have h := h.2
          refine x_iald d_X12_goesOn_135 h.1 ?_
          have h := h.2
          refine r_if_le (tgt := 143) d_X12_goesOn_136 rfl (fun hc => ?_) (fun hc => ?_)
          · have h := h.1 hc
            refine r_iconst (x := 0) d_X12_goesOn_143 ⟨by decide, by decide⟩ ?_
            refine r_istore_n (L2 := [(2, t), (0, x1), (0, x2), (0, 0), (3, 0)]) d_X12_goesOn_144 (by decide) rfl rfl ?_
            refine r_iload_n (x := 0) d_X12_goesOn_145 rfl ?_
            refine r_if_ne (tgt := 152) d_X12_goesOn_146 rfl (fun hc => absurd hc (by decide)) (fun _ => ?_)
            refine r_goto (tgt := 205) d_X12_goesOn_149 rfl ?_
            refine x_iinc (x := x2) (L := [(2, t), (0, x1), (0, x2), (0, 0), (3, 0)]) d_X12_goesOn_205 rfl (by decide) rfl (fun y3 ey3 => ?_)
            have h := h y3 ey3
            show WP _ _ _ _ _ _ _ _ [(2, t), (0, x1), (0, y3), (0, 0), (3, 0)] _ _ _ _
            refine r_goto (tgt := 58) d_X12_goesOn_208 rfl ?_
            exact x_mask h ⟨Or.inr rfl, Or.inr rfl, Or.inr rfl, Or.inl rfl, Or.inl rfl, trivial⟩
          · have h := h.2 hc
            refine r_iconst (x := 1) d_X12_goesOn_139 ⟨by decide, by decide⟩ ?_
            refine r_goto (tgt := 144) d_X12_goesOn_140 rfl ?_
            refine r_istore_n (L2 := [(2, t), (0, x1), (0, x2), (0, 1), (3, 0)]) d_X12_goesOn_144 (by decide) rfl rfl ?_
            refine r_iload_n (x := 1) d_X12_goesOn_145 rfl ?_
            refine r_if_ne (tgt := 152) d_X12_goesOn_146 rfl (fun _ => ?_) (fun hc => absurd hc (by decide))
            refine r_aload_n (x := t) d_X12_goesOn_152 rfl o_t.1 ?_
            refine r_getf (j := 26) (t := 2) (x := t_formRank) d_X12_goesOn_153 kX12 (by decide) fl_X12_67 o_t.1 o_t.2.1 o_t.2.2.1 o_t.2.2.2 rfl f_t_formRank ?_
            refine r_iload_n (x := x1) d_X12_goesOn_156 rfl ?_
            refine r_iload_n (x := x2) d_X12_goesOn_157 rfl ?_
            refine x_iast d_X12_goesOn_158 h.1 ?_
            have h := h.2
            refine r_nmM (fun τ4 eτ4 => ?_)
            have h := h τ4 eτ4
            refine r_aload_n (x := t) d_X12_goesOn_159 rfl o_t.1 ?_
            refine r_iload_n (x := x2) d_X12_goesOn_160 rfl ?_
            refine r_bipush (x := 121) d_X12_goesOn_161 ⟨by decide, by decide⟩ (by decide) ?_
            refine r_imul d_X12_goesOn_163 ?_
            refine r_bipush (x := 121) d_X12_goesOn_164 ⟨by decide, by decide⟩ (by decide) ?_
            refine r_imul d_X12_goesOn_166 ?_
            refine r_bipush (x := 121) d_X12_goesOn_167 ⟨by decide, by decide⟩ (by decide) ?_
            refine r_imul d_X12_goesOn_169 ?_
            refine r_iconst (x := (-1)) d_X12_goesOn_170 ⟨by decide, by decide⟩ ?_
            refine r_callV (Y2 := mX12_counts) (d := d - 1) (mc := 0) (ms := 0) (c := t) (As := [(0, (mulI (mulI (mulI x2 121) 121) 121)), (0, (-1))]) (S := []) d_X12_goesOn_171 ok_mX12_counts ml_X12_364 rfl (rmc h0d (by decide)) rm00 (Nat.le_of_ble_eq_true rfl) rfl kX12 o_t.1 o_t.2.1 o_t.2.2.1 o_t.2.2.2 (MC.mono h (fun r N1 Λ1 σ5 hq => ?_))
            obtain ⟨rfl, rfl, rfl, h⟩ := hq
            refine r_aload_n (x := t) d_X12_goesOn_174 rfl o_t.1 ?_
            refine r_iload_n (x := x1) d_X12_goesOn_175 rfl ?_
            refine r_iconst (x := 1) d_X12_goesOn_176 ⟨by decide, by decide⟩ ?_
            refine r_iadd d_X12_goesOn_177 ?_
            refine r_callV (Y2 := mX12_goesOn) (d := d - 1) (mc := 0) (ms := 0) (c := t) (As := [(0, (addI x1 1))]) (S := []) d_X12_goesOn_178 ok_mX12_goesOn ml_X12_366 rfl (rmc h0d (by decide)) rm00 (Nat.le_of_ble_eq_true rfl) rfl kX12 o_t.1 o_t.2.1 o_t.2.2.1 o_t.2.2.2 (MC.mono h (fun r N1 Λ1 σ6 hq => ?_))
            obtain ⟨v7, rfl, rfl, rfl, h⟩ := hq
            refine r_istore (L2 := [(2, t), (0, x1), (0, x2), (0, 1), (0, v7)]) d_X12_goesOn_181 (by decide) rfl rfl ?_
            refine r_aload_n (x := t) d_X12_goesOn_183 rfl o_t.1 ?_
            refine r_iload_n (x := x2) d_X12_goesOn_184 rfl ?_
            refine r_bipush (x := 121) d_X12_goesOn_185 ⟨by decide, by decide⟩ (by decide) ?_
            refine r_imul d_X12_goesOn_187 ?_
            refine r_bipush (x := 121) d_X12_goesOn_188 ⟨by decide, by decide⟩ (by decide) ?_
            refine r_imul d_X12_goesOn_190 ?_
            refine r_bipush (x := 121) d_X12_goesOn_191 ⟨by decide, by decide⟩ (by decide) ?_
            refine r_imul d_X12_goesOn_193 ?_
            refine r_iconst (x := 1) d_X12_goesOn_194 ⟨by decide, by decide⟩ ?_
            refine r_callV (Y2 := mX12_counts) (d := d - 1) (mc := 0) (ms := 0) (c := t) (As := [(0, (mulI (mulI (mulI x2 121) 121) 121)), (0, 1)]) (S := []) d_X12_goesOn_195 ok_mX12_counts ml_X12_364 rfl (rmc h0d (by decide)) rm00 (Nat.le_of_ble_eq_true rfl) rfl kX12 o_t.1 o_t.2.1 o_t.2.2.1 o_t.2.2.2 (MC.mono h (fun r N1 Λ1 σ8 hq => ?_))
            obtain ⟨rfl, rfl, rfl, h⟩ := hq
            refine r_iload (x := v7) d_X12_goesOn_198 rfl ?_
            refine r_if_eq (tgt := 205) d_X12_goesOn_200 rfl (fun hc => ?_) (fun hc => ?_)
            · have h := h.1 hc
              refine x_iinc (x := x2) (L := [(2, t), (0, x1), (0, x2), (0, 1), (0, v7)]) d_X12_goesOn_205 rfl (by decide) rfl (fun y9 ey9 => ?_)
              have h := h y9 ey9
              show WP _ _ _ _ _ _ _ _ [(2, t), (0, x1), (0, y9), (0, 1), (0, v7)] _ _ _ _
              refine r_goto (tgt := 58) d_X12_goesOn_208 rfl ?_
              exact x_mask h ⟨Or.inr rfl, Or.inr rfl, Or.inr rfl, Or.inl rfl, Or.inl rfl, trivial⟩
            · have h := h.2 hc
              refine r_iconst (x := 1) d_X12_goesOn_203 ⟨by decide, by decide⟩ ?_
              exact r_iret d_X12_goesOn_204 rfl (by decide) (Nat.le_refl 0) (Nat.le_refl 0) ⟨_, rfl, rfl, rfl, h⟩
    · have h := h.2 hc
      refine r_aload_n (x := t) d_X12_goesOn_68 rfl o_t.1 ?_
      refine r_aload_n (x := t) d_X12_goesOn_69 rfl o_t.1 ?_
      refine r_getf (j := 26) (t := 2) (x := t_formRank) d_X12_goesOn_70 kX12 (by decide) fl_X12_67 o_t.1 o_t.2.1 o_t.2.2.1 o_t.2.2.2 rfl f_t_formRank ?_
      refine r_iload_n (x := x1) d_X12_goesOn_73 rfl ?_
      refine r_iconst (x := 1) d_X12_goesOn_74 ⟨by decide, by decide⟩ ?_
      refine r_isub d_X12_goesOn_75 ?_
      refine x_iald d_X12_goesOn_76 h.1 ?_
      have h := h.2
      refine r_iload_n (x := x2) d_X12_goesOn_77 rfl ?_
      refine r_callV (Y2 := mX12_isBroken) (d := d - 1) (mc := 0) (ms := 0) (c := t) (As := [(0, (σ t_formRank (subI x1 1))), (0, x2)]) (S := []) d_X12_goesOn_78 ok_mX12_isBroken ml_X12_154 rfl (rmc h0d (by decide)) rm00 (Nat.le_of_ble_eq_true rfl) rfl kX12 o_t.1 o_t.2.1 o_t.2.2.1 o_t.2.2.2 (MC.mono h (fun r N1 Λ1 σ10 hq => ?_))
      obtain ⟨v11, rfl, rfl, rfl, h⟩ := hq
      refine r_if_eq (tgt := 87) d_X12_goesOn_81 rfl (fun hc => ?_) (fun hc => ?_)
      · have h := h.1 hc
        refine r_aload_n (x := t) d_X12_goesOn_87 rfl o_t.1 ?_
        refine r_getf (j := 25) (t := 2) (x := t_counts) d_X12_goesOn_88 kX12 (by decide) fl_X12_64 o_t.1 o_t.2.1 o_t.2.2.1 o_t.2.2.2 rfl f_t_counts ?_
        refine r_aload_n (x := t) d_X12_goesOn_91 rfl o_t.1 ?_
        refine r_getf (j := 2) (t := 2) (x := t_letterOf) d_X12_goesOn_92 kX12 (by decide) fl_X12_17 o_t.1 o_t.2.1 o_t.2.2.1 o_t.2.2.2 rfl f_t_letterOf ?_
        refine r_iconst (x := 3) d_X12_goesOn_95 ⟨by decide, by decide⟩ ?_
        refine r_iload_n (x := x2) d_X12_goesOn_96 rfl ?_
        refine r_imul d_X12_goesOn_97 ?_
        refine x_iald d_X12_goesOn_98 h.1 ?_
        have h := h.2
        refine x_iald d_X12_goesOn_99 h.1 ?_
        have h := h.2
        refine r_if_le (tgt := 143) d_X12_goesOn_100 rfl (fun hc => ?_) (fun hc => ?_)
        · have h := h.1 hc
          refine r_iconst (x := 0) d_X12_goesOn_143 ⟨by decide, by decide⟩ ?_
          refine r_istore_n (L2 := [(2, t), (0, x1), (0, x2), (0, 0), (3, 0)]) d_X12_goesOn_144 (by decide) rfl rfl ?_
          refine r_iload_n (x := 0) d_X12_goesOn_145 rfl ?_
          refine r_if_ne (tgt := 152) d_X12_goesOn_146 rfl (fun hc => absurd hc (by decide)) (fun _ => ?_)
          refine r_goto (tgt := 205) d_X12_goesOn_149 rfl ?_
          refine x_iinc (x := x2) (L := [(2, t), (0, x1), (0, x2), (0, 0), (3, 0)]) d_X12_goesOn_205 rfl (by decide) rfl (fun y12 ey12 => ?_)
          have h := h y12 ey12
          show WP _ _ _ _ _ _ _ _ [(2, t), (0, x1), (0, y12), (0, 0), (3, 0)] _ _ _ _
          refine r_goto (tgt := 58) d_X12_goesOn_208 rfl ?_
          exact x_mask h ⟨Or.inr rfl, Or.inr rfl, Or.inr rfl, Or.inl rfl, Or.inl rfl, trivial⟩
        · have h := h.2 hc
          refine r_aload_n (x := t) d_X12_goesOn_103 rfl o_t.1 ?_
          refine r_getf (j := 25) (t := 2) (x := t_counts) d_X12_goesOn_104 kX12 (by decide) fl_X12_64 o_t.1 o_t.2.1 o_t.2.2.1 o_t.2.2.2 rfl f_t_counts ?_
          refine r_aload_n (x := t) d_X12_goesOn_107 rfl o_t.1 ?_
          refine r_getf (j := 2) (t := 2) (x := t_letterOf) d_X12_goesOn_108 kX12 (by decide) fl_X12_17 o_t.1 o_t.2.1 o_t.2.2.1 o_t.2.2.2 rfl f_t_letterOf ?_
          refine r_iconst (x := 3) d_X12_goesOn_111 ⟨by decide, by decide⟩ ?_
          refine r_iload_n (x := x2) d_X12_goesOn_112 rfl ?_
          refine r_imul d_X12_goesOn_113 ?_
          refine r_iconst (x := 1) d_X12_goesOn_114 ⟨by decide, by decide⟩ ?_
          refine r_iadd d_X12_goesOn_115 ?_
          refine x_iald d_X12_goesOn_116 h.1 ?_
          have h := h.2
          refine x_iald d_X12_goesOn_117 h.1 ?_
          have h := h.2
          refine r_if_le (tgt := 143) d_X12_goesOn_118 rfl (fun hc => ?_) (fun hc => ?_)
          · have h := h.1 hc
            refine r_iconst (x := 0) d_X12_goesOn_143 ⟨by decide, by decide⟩ ?_
            refine r_istore_n (L2 := [(2, t), (0, x1), (0, x2), (0, 0), (3, 0)]) d_X12_goesOn_144 (by decide) rfl rfl ?_
            refine r_iload_n (x := 0) d_X12_goesOn_145 rfl ?_
            refine r_if_ne (tgt := 152) d_X12_goesOn_146 rfl (fun hc => absurd hc (by decide)) (fun _ => ?_)
            refine r_goto (tgt := 205) d_X12_goesOn_149 rfl ?_
            refine x_iinc (x := x2) (L := [(2, t), (0, x1), (0, x2), (0, 0), (3, 0)]) d_X12_goesOn_205 rfl (by decide) rfl (fun y13 ey13 => ?_)
            have h := h y13 ey13
            show WP _ _ _ _ _ _ _ _ [(2, t), (0, x1), (0, y13), (0, 0), (3, 0)] _ _ _ _
            refine r_goto (tgt := 58) d_X12_goesOn_208 rfl ?_
            exact x_mask h ⟨Or.inr rfl, Or.inr rfl, Or.inr rfl, Or.inl rfl, Or.inl rfl, trivial⟩
          · have h := h.2 hc
            refine r_aload_n (x := t) d_X12_goesOn_121 rfl o_t.1 ?_
            refine r_getf (j := 25) (t := 2) (x := t_counts) d_X12_goesOn_122 kX12 (by decide) fl_X12_64 o_t.1 o_t.2.1 o_t.2.2.1 o_t.2.2.2 rfl f_t_counts ?_
            refine r_aload_n (x := t) d_X12_goesOn_125 rfl o_t.1 ?_
            refine r_getf (j := 2) (t := 2) (x := t_letterOf) d_X12_goesOn_126 kX12 (by decide) fl_X12_17 o_t.1 o_t.2.1 o_t.2.2.1 o_t.2.2.2 rfl f_t_letterOf ?_
            refine r_iconst (x := 3) d_X12_goesOn_129 ⟨by decide, by decide⟩ ?_
            refine r_iload_n (x := x2) d_X12_goesOn_130 rfl ?_
            refine r_imul d_X12_goesOn_131 ?_
            refine r_iconst (x := 2) d_X12_goesOn_132 ⟨by decide, by decide⟩ ?_
            refine r_iadd d_X12_goesOn_133 ?_
            refine x_iald d_X12_goesOn_134 h.1 ?_
            have h := h.2
            refine x_iald d_X12_goesOn_135 h.1 ?_
            have h := h.2
            refine r_if_le (tgt := 143) d_X12_goesOn_136 rfl (fun hc => ?_) (fun hc => ?_)
            · have h := h.1 hc
              refine r_iconst (x := 0) d_X12_goesOn_143 ⟨by decide, by decide⟩ ?_
              refine r_istore_n (L2 := [(2, t), (0, x1), (0, x2), (0, 0), (3, 0)]) d_X12_goesOn_144 (by decide) rfl rfl ?_
              refine r_iload_n (x := 0) d_X12_goesOn_145 rfl ?_
              refine r_if_ne (tgt := 152) d_X12_goesOn_146 rfl (fun hc => absurd hc (by decide)) (fun _ => ?_)
              refine r_goto (tgt := 205) d_X12_goesOn_149 rfl ?_
              refine x_iinc (x := x2) (L := [(2, t), (0, x1), (0, x2), (0, 0), (3, 0)]) d_X12_goesOn_205 rfl (by decide) rfl (fun y14 ey14 => ?_)
              have h := h y14 ey14
              show WP _ _ _ _ _ _ _ _ [(2, t), (0, x1), (0, y14), (0, 0), (3, 0)] _ _ _ _
              refine r_goto (tgt := 58) d_X12_goesOn_208 rfl ?_
              exact x_mask h ⟨Or.inr rfl, Or.inr rfl, Or.inr rfl, Or.inl rfl, Or.inl rfl, trivial⟩
            · have h := h.2 hc
              refine r_iconst (x := 1) d_X12_goesOn_139 ⟨by decide, by decide⟩ ?_
              refine r_goto (tgt := 144) d_X12_goesOn_140 rfl ?_
              refine r_istore_n (L2 := [(2, t), (0, x1), (0, x2), (0, 1), (3, 0)]) d_X12_goesOn_144 (by decide) rfl rfl ?_
              refine r_iload_n (x := 1) d_X12_goesOn_145 rfl ?_
              refine r_if_ne (tgt := 152) d_X12_goesOn_146 rfl (fun _ => ?_) (fun hc => absurd hc (by decide))
              refine r_aload_n (x := t) d_X12_goesOn_152 rfl o_t.1 ?_
              refine r_getf (j := 26) (t := 2) (x := t_formRank) d_X12_goesOn_153 kX12 (by decide) fl_X12_67 o_t.1 o_t.2.1 o_t.2.2.1 o_t.2.2.2 rfl f_t_formRank ?_
              refine r_iload_n (x := x1) d_X12_goesOn_156 rfl ?_
              refine r_iload_n (x := x2) d_X12_goesOn_157 rfl ?_
              refine x_iast d_X12_goesOn_158 h.1 ?_
              have h := h.2
              refine r_nmM (fun τ15 eτ15 => ?_)
              have h := h τ15 eτ15
              refine r_aload_n (x := t) d_X12_goesOn_159 rfl o_t.1 ?_
              refine r_iload_n (x := x2) d_X12_goesOn_160 rfl ?_
              refine r_bipush (x := 121) d_X12_goesOn_161 ⟨by decide, by decide⟩ (by decide) ?_
              refine r_imul d_X12_goesOn_163 ?_
              refine r_bipush (x := 121) d_X12_goesOn_164 ⟨by decide, by decide⟩ (by decide) ?_
              refine r_imul d_X12_goesOn_166 ?_
              refine r_bipush (x := 121) d_X12_goesOn_167 ⟨by decide, by decide⟩ (by decide) ?_
              refine r_imul d_X12_goesOn_169 ?_
              refine r_iconst (x := (-1)) d_X12_goesOn_170 ⟨by decide, by decide⟩ ?_
              refine r_callV (Y2 := mX12_counts) (d := d - 1) (mc := 0) (ms := 0) (c := t) (As := [(0, (mulI (mulI (mulI x2 121) 121) 121)), (0, (-1))]) (S := []) d_X12_goesOn_171 ok_mX12_counts ml_X12_364 rfl (rmc h0d (by decide)) rm00 (Nat.le_of_ble_eq_true rfl) rfl kX12 o_t.1 o_t.2.1 o_t.2.2.1 o_t.2.2.2 (MC.mono h (fun r N1 Λ1 σ16 hq => ?_))
              obtain ⟨rfl, rfl, rfl, h⟩ := hq
              refine r_aload_n (x := t) d_X12_goesOn_174 rfl o_t.1 ?_
              refine r_iload_n (x := x1) d_X12_goesOn_175 rfl ?_
              refine r_iconst (x := 1) d_X12_goesOn_176 ⟨by decide, by decide⟩ ?_
              refine r_iadd d_X12_goesOn_177 ?_
              refine r_callV (Y2 := mX12_goesOn) (d := d - 1) (mc := 0) (ms := 0) (c := t) (As := [(0, (addI x1 1))]) (S := []) d_X12_goesOn_178 ok_mX12_goesOn ml_X12_366 rfl (rmc h0d (by decide)) rm00 (Nat.le_of_ble_eq_true rfl) rfl kX12 o_t.1 o_t.2.1 o_t.2.2.1 o_t.2.2.2 (MC.mono h (fun r N1 Λ1 σ17 hq => ?_))
              obtain ⟨v18, rfl, rfl, rfl, h⟩ := hq
              refine r_istore (L2 := [(2, t), (0, x1), (0, x2), (0, 1), (0, v18)]) d_X12_goesOn_181 (by decide) rfl rfl ?_
              refine r_aload_n (x := t) d_X12_goesOn_183 rfl o_t.1 ?_
              refine r_iload_n (x := x2) d_X12_goesOn_184 rfl ?_
              refine r_bipush (x := 121) d_X12_goesOn_185 ⟨by decide, by decide⟩ (by decide) ?_
              refine r_imul d_X12_goesOn_187 ?_
              refine r_bipush (x := 121) d_X12_goesOn_188 ⟨by decide, by decide⟩ (by decide) ?_
              refine r_imul d_X12_goesOn_190 ?_
              refine r_bipush (x := 121) d_X12_goesOn_191 ⟨by decide, by decide⟩ (by decide) ?_
              refine r_imul d_X12_goesOn_193 ?_
              refine r_iconst (x := 1) d_X12_goesOn_194 ⟨by decide, by decide⟩ ?_
              refine r_callV (Y2 := mX12_counts) (d := d - 1) (mc := 0) (ms := 0) (c := t) (As := [(0, (mulI (mulI (mulI x2 121) 121) 121)), (0, 1)]) (S := []) d_X12_goesOn_195 ok_mX12_counts ml_X12_364 rfl (rmc h0d (by decide)) rm00 (Nat.le_of_ble_eq_true rfl) rfl kX12 o_t.1 o_t.2.1 o_t.2.2.1 o_t.2.2.2 (MC.mono h (fun r N1 Λ1 σ19 hq => ?_))
              obtain ⟨rfl, rfl, rfl, h⟩ := hq
              refine r_iload (x := v18) d_X12_goesOn_198 rfl ?_
              refine r_if_eq (tgt := 205) d_X12_goesOn_200 rfl (fun hc => ?_) (fun hc => ?_)
              · have h := h.1 hc
                refine x_iinc (x := x2) (L := [(2, t), (0, x1), (0, x2), (0, 1), (0, v18)]) d_X12_goesOn_205 rfl (by decide) rfl (fun y20 ey20 => ?_)
                have h := h y20 ey20
                show WP _ _ _ _ _ _ _ _ [(2, t), (0, x1), (0, y20), (0, 1), (0, v18)] _ _ _ _
                refine r_goto (tgt := 58) d_X12_goesOn_208 rfl ?_
                exact x_mask h ⟨Or.inr rfl, Or.inr rfl, Or.inr rfl, Or.inl rfl, Or.inl rfl, trivial⟩
              · have h := h.2 hc
                refine r_iconst (x := 1) d_X12_goesOn_203 ⟨by decide, by decide⟩ ?_
                exact r_iret d_X12_goesOn_204 rfl (by decide) (Nat.le_refl 0) (Nat.le_refl 0) ⟨_, rfl, rfl, rfl, h⟩
      · have h := h.2 hc
        refine r_goto (tgt := 205) d_X12_goesOn_84 rfl ?_
        refine x_iinc (x := x2) (L := [(2, t), (0, x1), (0, x2), (3, 0), (3, 0)]) d_X12_goesOn_205 rfl (by decide) rfl (fun y21 ey21 => ?_)
        have h := h y21 ey21
        show WP _ _ _ _ _ _ _ _ [(2, t), (0, x1), (0, y21), (3, 0), (3, 0)] _ _ _ _
        refine r_goto (tgt := 58) d_X12_goesOn_208 rfl ?_
        exact h
theorem v_X12_laysForms_0 {l : Launch} {d N : Nat} {Λ : Lay} {P : Int → Mem → Prop} {σ : Mem} {x1 x2 t : Int}
    (h : WI l mX12_laysForms d P 2 [(2, t), (0, x1), (0, x2), (0, 0)] [] N Λ σ) :
    WI l mX12_laysForms d P 0 [(2, t), (0, x1), (0, x2), (3, 0)] [] N Λ σ := by
  refine r_iconst (x := 0) d_X12_laysForms_0 ⟨by decide, by decide⟩ ?_
  refine r_istore_n (L2 := [(2, t), (0, x1), (0, x2), (0, 0)]) d_X12_laysForms_1 (by decide) rfl rfl ?_
  exact h
theorem v_X12_laysForms_2 {l : Launch} {d N : Nat} {Λ : Lay} {P : Int → Mem → Prop} {σ : Mem} {x1 x2 x3 t t_counts t_state : Int} (o_t : Ob N Λ t 21 36) (f_t_state : (Λ t).2.2 3 = t_state) (f_t_counts : (Λ t).2.2 25 = t_counts) (h0d : 1 ≤ d)
    (h : ((10 ≤ x3 → (CI l mX12_keyOn (d - 1) [(2, t_state), (0, x1), (0, 0)] N Λ σ (fun v2 σ1 => (CV l mX12_counts (d - 1) [(2, t), (0, v2), (0, 1)] N Λ σ1 (fun σ3 => (CI l mX12_degreeOf (d - 1) [(0, v2)] N Λ σ3 (fun v5 σ4 => (∀ τ6, τ6 = st σ4 t 28 v5 → (∀ τ7, τ7 = st τ6 t 27 x2 → (∀ τ8, τ8 = st τ7 t 29 0 → (CI l mX12_goesOn (d - 1) [(2, t), (0, 0)] N Λ τ8 (fun v10 σ9 => (((v10 : Int) = 0 ∨ (v10 : Int) = 1) ∧ P v10 σ9))))))))))))) ∧ (¬ (10 ≤ x3) → (Ix N Λ t_counts 0 x3 ∧ (∀ τ11, τ11 = st σ t_counts x3 0 → (∀ y12, y12 = addI x3 1 → WI l mX12_laysForms d P 2 [(2, t), (0, x1), (0, x2), (0, y12)] [] N Λ τ11)))))) :
    WI l mX12_laysForms d P 2 [(2, t), (0, x1), (0, x2), (0, x3)] [] N Λ σ := by
  refine r_iload_n (x := x3) d_X12_laysForms_2 rfl ?_
  refine r_bipush (x := 10) d_X12_laysForms_3 ⟨by decide, by decide⟩ (by decide) ?_
  refine r_ic_ge (tgt := 21) d_X12_laysForms_5 rfl (fun hc => ?_) (fun hc => ?_)
  · have h := h.1 hc
    refine r_aload_n (x := t) d_X12_laysForms_21 rfl o_t.1 ?_
    refine r_getf (j := 3) (t := 2) (x := t_state) d_X12_laysForms_22 kX12 (by decide) fl_X12_20 o_t.1 o_t.2.1 o_t.2.2.1 o_t.2.2.2 rfl f_t_state ?_
    refine r_iload_n (x := x1) d_X12_laysForms_25 rfl ?_
    refine r_iconst (x := 0) d_X12_laysForms_26 ⟨by decide, by decide⟩ ?_
    refine r_callS (Y2 := mX12_keyOn) (d := d - 1) (mc := 0) (ms := 0) (As := [(2, t_state), (0, x1), (0, 0)]) (S := []) d_X12_laysForms_27 ok_mX12_keyOn ml_X12_339 rfl (rmc h0d (by decide)) rm00 (Nat.le_of_ble_eq_true rfl) rfl (MC.mono h (fun r N1 Λ1 σ1 hq => ?_))
    obtain ⟨v2, rfl, rfl, rfl, h⟩ := hq
    refine r_istore_n (L2 := [(2, t), (0, x1), (0, x2), (0, v2)]) d_X12_laysForms_30 (by decide) rfl rfl ?_
    refine r_aload_n (x := t) d_X12_laysForms_31 rfl o_t.1 ?_
    refine r_iload_n (x := v2) d_X12_laysForms_32 rfl ?_
    refine r_iconst (x := 1) d_X12_laysForms_33 ⟨by decide, by decide⟩ ?_
    refine r_callV (Y2 := mX12_counts) (d := d - 1) (mc := 0) (ms := 0) (c := t) (As := [(0, v2), (0, 1)]) (S := []) d_X12_laysForms_34 ok_mX12_counts ml_X12_364 rfl (rmc h0d (by decide)) rm00 (Nat.le_of_ble_eq_true rfl) rfl kX12 o_t.1 o_t.2.1 o_t.2.2.1 o_t.2.2.2 (MC.mono h (fun r N1 Λ1 σ3 hq => ?_))
    obtain ⟨rfl, rfl, rfl, h⟩ := hq
    refine r_aload_n (x := t) d_X12_laysForms_37 rfl o_t.1 ?_
    refine r_iload_n (x := v2) d_X12_laysForms_38 rfl ?_
    refine r_callS (Y2 := mX12_degreeOf) (d := d - 1) (mc := 0) (ms := 0) (As := [(0, v2)]) (S := [(2, t)]) d_X12_laysForms_39 ok_mX12_degreeOf ml_X12_138 rfl (rmc h0d (by decide)) rm00 (Nat.le_of_ble_eq_true rfl) rfl (MC.mono h (fun r N1 Λ1 σ4 hq => ?_))
    obtain ⟨v5, rfl, rfl, rfl, h⟩ := hq
    refine r_putI (j := 28) d_X12_laysForms_42 kX12 (by decide) fl_X12_355 rfl o_t.1 o_t.2.1 o_t.2.2.1 o_t.2.2.2 rfl ?_
    refine r_nmM (fun τ6 eτ6 => ?_)
    have h := h τ6 eτ6
    refine r_aload_n (x := t) d_X12_laysForms_45 rfl o_t.1 ?_
    refine r_iload_n (x := x2) d_X12_laysForms_46 rfl ?_
    refine r_putI (j := 27) d_X12_laysForms_47 kX12 (by decide) fl_X12_361 rfl o_t.1 o_t.2.1 o_t.2.2.1 o_t.2.2.2 rfl ?_
    refine r_nmM (fun τ7 eτ7 => ?_)
    have h := h τ7 eτ7
    refine r_aload_n (x := t) d_X12_laysForms_50 rfl o_t.1 ?_
    refine r_iconst (x := 0) d_X12_laysForms_51 ⟨by decide, by decide⟩ ?_
    refine r_putI (j := 29) d_X12_laysForms_52 kX12 (by decide) fl_X12_358 rfl o_t.1 o_t.2.1 o_t.2.2.1 o_t.2.2.2 rfl ?_
    refine r_nmM (fun τ8 eτ8 => ?_)
    have h := h τ8 eτ8
    refine r_aload_n (x := t) d_X12_laysForms_55 rfl o_t.1 ?_
    refine r_iconst (x := 0) d_X12_laysForms_56 ⟨by decide, by decide⟩ ?_
    refine r_callV (Y2 := mX12_goesOn) (d := d - 1) (mc := 0) (ms := 0) (c := t) (As := [(0, 0)]) (S := []) d_X12_laysForms_57 ok_mX12_goesOn ml_X12_366 rfl (rmc h0d (by decide)) rm00 (Nat.le_of_ble_eq_true rfl) rfl kX12 o_t.1 o_t.2.1 o_t.2.2.1 o_t.2.2.2 (MC.mono h (fun r N1 Λ1 σ9 hq => ?_))
    obtain ⟨v10, rfl, rfl, rfl, h⟩ := hq
    exact r_iret d_X12_laysForms_60 rfl (nbool h.1) (Nat.le_refl 0) (Nat.le_refl 0) ⟨_, rfl, rfl, rfl, h.2⟩
  · have h := h.2 hc
    refine r_aload_n (x := t) d_X12_laysForms_8 rfl o_t.1 ?_
    refine r_getf (j := 25) (t := 2) (x := t_counts) d_X12_laysForms_9 kX12 (by decide) fl_X12_64 o_t.1 o_t.2.1 o_t.2.2.1 o_t.2.2.2 rfl f_t_counts ?_
    refine r_iload_n (x := x3) d_X12_laysForms_12 rfl ?_
    refine r_iconst (x := 0) d_X12_laysForms_13 ⟨by decide, by decide⟩ ?_
    refine x_iast d_X12_laysForms_14 h.1 ?_
    have h := h.2
    refine r_nmM (fun τ11 eτ11 => ?_)
    have h := h τ11 eτ11
    refine x_iinc (x := x3) (L := [(2, t), (0, x1), (0, x2), (0, x3)]) d_X12_laysForms_15 rfl (by decide) rfl (fun y12 ey12 => ?_)
    have h := h y12 ey12
    show WP _ _ _ _ _ _ _ _ [(2, t), (0, x1), (0, x2), (0, y12)] _ _ _ _
    refine r_goto (tgt := 2) d_X12_laysForms_18 rfl ?_
    exact h
