theorem d_X12_areSix_0 : DC mX12_areSix 0 (.iconst 0) 1 1 := ⟨by decide +kernel, rfl⟩
theorem d_X12_areSix_1 : DC mX12_areSix 1 (.istore_n 2) 1 2 := ⟨by decide +kernel, rfl⟩
theorem d_X12_areSix_2 : DC mX12_areSix 2 (.aload_n 0) 1 3 := ⟨by decide +kernel, rfl⟩
theorem d_X12_areSix_3 : DC mX12_areSix 3 (.getfield 20) 3 6 := ⟨by decide +kernel, rfl⟩
theorem d_X12_areSix_6 : DC mX12_areSix 6 (.sipush 161) 3 9 := ⟨by decide +kernel, rfl⟩
theorem d_X12_areSix_9 : DC mX12_areSix 9 (.iload_n 1) 1 10 := ⟨by decide +kernel, rfl⟩
theorem d_X12_areSix_10 : DC mX12_areSix 10 (.imul) 1 11 := ⟨by decide +kernel, rfl⟩
theorem d_X12_areSix_11 : DC mX12_areSix 11 (.iaload) 1 12 := ⟨by decide +kernel, rfl⟩
theorem d_X12_areSix_12 : DC mX12_areSix 12 (.ifCond .eq 19) 3 15 := ⟨by decide +kernel, rfl⟩
theorem d_X12_areSix_15 : DC mX12_areSix 15 (.aload_n 0) 1 16 := ⟨by decide +kernel, rfl⟩
theorem d_X12_areSix_16 : DC mX12_areSix 16 (.getfield 20) 3 19 := ⟨by decide +kernel, rfl⟩
theorem d_X12_areSix_19 : DC mX12_areSix 19 (.iload_n 1) 1 20 := ⟨by decide +kernel, rfl⟩
theorem d_X12_areSix_20 : DC mX12_areSix 20 (.iconst 0) 1 21 := ⟨by decide +kernel, rfl⟩
theorem d_X12_areSix_21 : DC mX12_areSix 21 (.invokestatic 339) 3 24 := ⟨by decide +kernel, rfl⟩
theorem d_X12_areSix_24 : DC mX12_areSix 24 (.invokestatic 138) 3 27 := ⟨by decide +kernel, rfl⟩
theorem d_X12_areSix_27 : DC mX12_areSix 27 (.iconst 2) 1 28 := ⟨by decide +kernel, rfl⟩
theorem d_X12_areSix_28 : DC mX12_areSix 28 (.if_icmp .eq 5) 3 31 := ⟨by decide +kernel, rfl⟩
theorem d_X12_areSix_31 : DC mX12_areSix 31 (.iconst 0) 1 32 := ⟨by decide +kernel, rfl⟩
theorem d_X12_areSix_32 : DC mX12_areSix 32 (.ireturn) 1 33 := ⟨by decide +kernel, rfl⟩
theorem d_X12_areSix_33 : DC mX12_areSix 33 (.iconst 0) 1 34 := ⟨by decide +kernel, rfl⟩
theorem d_X12_areSix_34 : DC mX12_areSix 34 (.istore_n 3) 1 35 := ⟨by decide +kernel, rfl⟩
theorem d_X12_areSix_35 : DC mX12_areSix 35 (.iload_n 3) 1 36 := ⟨by decide +kernel, rfl⟩
theorem d_X12_areSix_36 : DC mX12_areSix 36 (.bipush 10) 2 38 := ⟨by decide +kernel, rfl⟩
theorem d_X12_areSix_38 : DC mX12_areSix 38 (.if_icmp .ge 51) 3 41 := ⟨by decide +kernel, rfl⟩
theorem d_X12_areSix_41 : DC mX12_areSix 41 (.aload_n 0) 1 42 := ⟨by decide +kernel, rfl⟩
theorem d_X12_areSix_42 : DC mX12_areSix 42 (.aload_n 0) 1 43 := ⟨by decide +kernel, rfl⟩
theorem d_X12_areSix_43 : DC mX12_areSix 43 (.getfield 20) 3 46 := ⟨by decide +kernel, rfl⟩
theorem d_X12_areSix_46 : DC mX12_areSix 46 (.iload_n 1) 1 47 := ⟨by decide +kernel, rfl⟩
theorem d_X12_areSix_47 : DC mX12_areSix 47 (.iconst 0) 1 48 := ⟨by decide +kernel, rfl⟩
theorem d_X12_areSix_48 : DC mX12_areSix 48 (.invokestatic 339) 3 51 := ⟨by decide +kernel, rfl⟩
theorem d_X12_areSix_51 : DC mX12_areSix 51 (.iload_n 3) 1 52 := ⟨by decide +kernel, rfl⟩
theorem d_X12_areSix_52 : DC mX12_areSix 52 (.invokevirtual 343) 3 55 := ⟨by decide +kernel, rfl⟩
theorem d_X12_areSix_55 : DC mX12_areSix 55 (.istore 4) 2 57 := ⟨by decide +kernel, rfl⟩
theorem d_X12_areSix_57 : DC mX12_areSix 57 (.iload 4) 2 59 := ⟨by decide +kernel, rfl⟩
theorem d_X12_areSix_59 : DC mX12_areSix 59 (.iconst 1) 1 60 := ⟨by decide +kernel, rfl⟩
theorem d_X12_areSix_60 : DC mX12_areSix 60 (.if_icmp .le 5) 3 63 := ⟨by decide +kernel, rfl⟩
theorem d_X12_areSix_63 : DC mX12_areSix 63 (.iconst 0) 1 64 := ⟨by decide +kernel, rfl⟩
theorem d_X12_areSix_64 : DC mX12_areSix 64 (.ireturn) 1 65 := ⟨by decide +kernel, rfl⟩
theorem d_X12_areSix_65 : DC mX12_areSix 65 (.iload 4) 2 67 := ⟨by decide +kernel, rfl⟩
theorem d_X12_areSix_67 : DC mX12_areSix 67 (.ifCond .ne 6) 3 70 := ⟨by decide +kernel, rfl⟩
theorem d_X12_areSix_70 : DC mX12_areSix 70 (.goto 13) 3 73 := ⟨by decide +kernel, rfl⟩
theorem d_X12_areSix_73 : DC mX12_areSix 73 (.aload_n 0) 1 74 := ⟨by decide +kernel, rfl⟩
theorem d_X12_areSix_74 : DC mX12_areSix 74 (.getfield 77) 3 77 := ⟨by decide +kernel, rfl⟩
theorem d_X12_areSix_77 : DC mX12_areSix 77 (.iload_n 2) 1 78 := ⟨by decide +kernel, rfl⟩
theorem d_X12_areSix_78 : DC mX12_areSix 78 (.iload_n 3) 1 79 := ⟨by decide +kernel, rfl⟩
theorem d_X12_areSix_79 : DC mX12_areSix 79 (.iastore) 1 80 := ⟨by decide +kernel, rfl⟩
theorem d_X12_areSix_80 : DC mX12_areSix 80 (.iinc 2 1) 3 83 := ⟨by decide +kernel, rfl⟩
theorem d_X12_areSix_83 : DC mX12_areSix 83 (.iinc 3 1) 3 86 := ⟨by decide +kernel, rfl⟩
theorem d_X12_areSix_86 : DC mX12_areSix 86 (.goto (-51)) 3 89 := ⟨by decide +kernel, rfl⟩
theorem d_X12_areSix_89 : DC mX12_areSix 89 (.iload_n 2) 1 90 := ⟨by decide +kernel, rfl⟩
theorem d_X12_areSix_90 : DC mX12_areSix 90 (.bipush 6) 2 92 := ⟨by decide +kernel, rfl⟩
theorem d_X12_areSix_92 : DC mX12_areSix 92 (.if_icmp .ne 7) 3 95 := ⟨by decide +kernel, rfl⟩
theorem d_X12_areSix_95 : DC mX12_areSix 95 (.iconst 1) 1 96 := ⟨by decide +kernel, rfl⟩
theorem d_X12_areSix_96 : DC mX12_areSix 96 (.goto 4) 3 99 := ⟨by decide +kernel, rfl⟩
theorem d_X12_areSix_99 : DC mX12_areSix 99 (.iconst 0) 1 100 := ⟨by decide +kernel, rfl⟩
theorem d_X12_areSix_100 : DC mX12_areSix 100 (.ireturn) 1 101 := ⟨by decide +kernel, rfl⟩
theorem d_X12_laysSix_0 : DC mX12_laysSix 0 (.aload_n 0) 1 1 := ⟨by decide +kernel, rfl⟩
theorem d_X12_laysSix_1 : DC mX12_laysSix 1 (.iload_n 1) 1 2 := ⟨by decide +kernel, rfl⟩
theorem d_X12_laysSix_2 : DC mX12_laysSix 2 (.invokevirtual 105) 3 5 := ⟨by decide +kernel, rfl⟩
theorem d_X12_laysSix_5 : DC mX12_laysSix 5 (.aload_n 0) 1 6 := ⟨by decide +kernel, rfl⟩
theorem d_X12_laysSix_6 : DC mX12_laysSix 6 (.iconst 1) 1 7 := ⟨by decide +kernel, rfl⟩
theorem d_X12_laysSix_7 : DC mX12_laysSix 7 (.invokevirtual 105) 3 10 := ⟨by decide +kernel, rfl⟩
theorem d_X12_laysSix_10 : DC mX12_laysSix 10 (.aload_n 0) 1 11 := ⟨by decide +kernel, rfl⟩
theorem d_X12_laysSix_11 : DC mX12_laysSix 11 (.iconst 2) 1 12 := ⟨by decide +kernel, rfl⟩
theorem d_X12_laysSix_12 : DC mX12_laysSix 12 (.invokevirtual 105) 3 15 := ⟨by decide +kernel, rfl⟩
theorem d_X12_laysSix_15 : DC mX12_laysSix 15 (.aload_n 0) 1 16 := ⟨by decide +kernel, rfl⟩
theorem d_X12_laysSix_16 : DC mX12_laysSix 16 (.aload_n 0) 1 17 := ⟨by decide +kernel, rfl⟩
theorem d_X12_laysSix_17 : DC mX12_laysSix 17 (.getfield 80) 3 20 := ⟨by decide +kernel, rfl⟩
theorem d_X12_laysSix_20 : DC mX12_laysSix 20 (.iconst 0) 1 21 := ⟨by decide +kernel, rfl⟩
theorem d_X12_laysSix_21 : DC mX12_laysSix 21 (.iaload) 1 22 := ⟨by decide +kernel, rfl⟩
theorem d_X12_laysSix_22 : DC mX12_laysSix 22 (.aload_n 0) 1 23 := ⟨by decide +kernel, rfl⟩
theorem d_X12_laysSix_23 : DC mX12_laysSix 23 (.getfield 80) 3 26 := ⟨by decide +kernel, rfl⟩
theorem d_X12_laysSix_26 : DC mX12_laysSix 26 (.iconst 2) 1 27 := ⟨by decide +kernel, rfl⟩
theorem d_X12_laysSix_27 : DC mX12_laysSix 27 (.iaload) 1 28 := ⟨by decide +kernel, rfl⟩
theorem d_X12_laysSix_28 : DC mX12_laysSix 28 (.aload_n 0) 1 29 := ⟨by decide +kernel, rfl⟩
theorem d_X12_laysSix_29 : DC mX12_laysSix 29 (.getfield 80) 3 32 := ⟨by decide +kernel, rfl⟩
theorem d_X12_laysSix_32 : DC mX12_laysSix 32 (.iconst 3) 1 33 := ⟨by decide +kernel, rfl⟩
theorem d_X12_laysSix_33 : DC mX12_laysSix 33 (.iaload) 1 34 := ⟨by decide +kernel, rfl⟩
theorem d_X12_laysSix_34 : DC mX12_laysSix 34 (.iconst 1) 1 35 := ⟨by decide +kernel, rfl⟩
theorem d_X12_laysSix_35 : DC mX12_laysSix 35 (.invokevirtual 211) 3 38 := ⟨by decide +kernel, rfl⟩
theorem d_X12_laysSix_38 : DC mX12_laysSix 38 (.aload_n 0) 1 39 := ⟨by decide +kernel, rfl⟩
theorem d_X12_laysSix_39 : DC mX12_laysSix 39 (.aload_n 0) 1 40 := ⟨by decide +kernel, rfl⟩
theorem d_X12_laysSix_40 : DC mX12_laysSix 40 (.getfield 80) 3 43 := ⟨by decide +kernel, rfl⟩
theorem d_X12_laysSix_43 : DC mX12_laysSix 43 (.iconst 1) 1 44 := ⟨by decide +kernel, rfl⟩
theorem d_X12_laysSix_44 : DC mX12_laysSix 44 (.iaload) 1 45 := ⟨by decide +kernel, rfl⟩
theorem d_X12_laysSix_45 : DC mX12_laysSix 45 (.aload_n 0) 1 46 := ⟨by decide +kernel, rfl⟩
theorem d_X12_laysSix_46 : DC mX12_laysSix 46 (.getfield 80) 3 49 := ⟨by decide +kernel, rfl⟩
theorem d_X12_laysSix_49 : DC mX12_laysSix 49 (.iconst 4) 1 50 := ⟨by decide +kernel, rfl⟩
theorem d_X12_laysSix_50 : DC mX12_laysSix 50 (.iaload) 1 51 := ⟨by decide +kernel, rfl⟩
theorem d_X12_laysSix_51 : DC mX12_laysSix 51 (.aload_n 0) 1 52 := ⟨by decide +kernel, rfl⟩
theorem d_X12_laysSix_52 : DC mX12_laysSix 52 (.getfield 80) 3 55 := ⟨by decide +kernel, rfl⟩
theorem d_X12_laysSix_55 : DC mX12_laysSix 55 (.iconst 5) 1 56 := ⟨by decide +kernel, rfl⟩
theorem d_X12_laysSix_56 : DC mX12_laysSix 56 (.iaload) 1 57 := ⟨by decide +kernel, rfl⟩
theorem d_X12_laysSix_57 : DC mX12_laysSix 57 (.iconst 2) 1 58 := ⟨by decide +kernel, rfl⟩
theorem d_X12_laysSix_58 : DC mX12_laysSix 58 (.invokevirtual 211) 3 61 := ⟨by decide +kernel, rfl⟩
theorem d_X12_laysSix_61 : DC mX12_laysSix 61 (.aload_n 0) 1 62 := ⟨by decide +kernel, rfl⟩
theorem d_X12_laysSix_62 : DC mX12_laysSix 62 (.iconst 1) 1 63 := ⟨by decide +kernel, rfl⟩
theorem d_X12_laysSix_63 : DC mX12_laysSix 63 (.iconst 2) 1 64 := ⟨by decide +kernel, rfl⟩
theorem d_X12_laysSix_64 : DC mX12_laysSix 64 (.iconst 1) 1 65 := ⟨by decide +kernel, rfl⟩
theorem d_X12_laysSix_65 : DC mX12_laysSix 65 (.iload_n 1) 1 66 := ⟨by decide +kernel, rfl⟩
theorem d_X12_laysSix_66 : DC mX12_laysSix 66 (.invokevirtual 231) 3 69 := ⟨by decide +kernel, rfl⟩
theorem d_X12_laysSix_69 : DC mX12_laysSix 69 (.aload_n 0) 1 70 := ⟨by decide +kernel, rfl⟩
theorem d_X12_laysSix_70 : DC mX12_laysSix 70 (.iconst 1) 1 71 := ⟨by decide +kernel, rfl⟩
theorem d_X12_laysSix_71 : DC mX12_laysSix 71 (.invokevirtual 105) 3 74 := ⟨by decide +kernel, rfl⟩
theorem d_X12_laysSix_74 : DC mX12_laysSix 74 (.aload_n 0) 1 75 := ⟨by decide +kernel, rfl⟩
theorem d_X12_laysSix_75 : DC mX12_laysSix 75 (.iconst 2) 1 76 := ⟨by decide +kernel, rfl⟩
theorem d_X12_laysSix_76 : DC mX12_laysSix 76 (.invokevirtual 105) 3 79 := ⟨by decide +kernel, rfl⟩
theorem d_X12_laysSix_79 : DC mX12_laysSix 79 (.aload_n 0) 1 80 := ⟨by decide +kernel, rfl⟩
theorem d_X12_laysSix_80 : DC mX12_laysSix 80 (.aload_n 0) 1 81 := ⟨by decide +kernel, rfl⟩
theorem d_X12_laysSix_81 : DC mX12_laysSix 81 (.getfield 80) 3 84 := ⟨by decide +kernel, rfl⟩
theorem d_X12_laysSix_84 : DC mX12_laysSix 84 (.iconst 1) 1 85 := ⟨by decide +kernel, rfl⟩
theorem d_X12_laysSix_85 : DC mX12_laysSix 85 (.iaload) 1 86 := ⟨by decide +kernel, rfl⟩
theorem d_X12_laysSix_86 : DC mX12_laysSix 86 (.aload_n 0) 1 87 := ⟨by decide +kernel, rfl⟩
theorem d_X12_laysSix_87 : DC mX12_laysSix 87 (.getfield 80) 3 90 := ⟨by decide +kernel, rfl⟩
theorem d_X12_laysSix_90 : DC mX12_laysSix 90 (.iconst 2) 1 91 := ⟨by decide +kernel, rfl⟩
theorem d_X12_laysSix_91 : DC mX12_laysSix 91 (.iaload) 1 92 := ⟨by decide +kernel, rfl⟩
theorem d_X12_laysSix_92 : DC mX12_laysSix 92 (.aload_n 0) 1 93 := ⟨by decide +kernel, rfl⟩
theorem d_X12_laysSix_93 : DC mX12_laysSix 93 (.getfield 80) 3 96 := ⟨by decide +kernel, rfl⟩
theorem d_X12_laysSix_96 : DC mX12_laysSix 96 (.iconst 3) 1 97 := ⟨by decide +kernel, rfl⟩
theorem d_X12_laysSix_97 : DC mX12_laysSix 97 (.iaload) 1 98 := ⟨by decide +kernel, rfl⟩
theorem d_X12_laysSix_98 : DC mX12_laysSix 98 (.iconst 1) 1 99 := ⟨by decide +kernel, rfl⟩
theorem d_X12_laysSix_99 : DC mX12_laysSix 99 (.invokevirtual 211) 3 102 := ⟨by decide +kernel, rfl⟩
theorem d_X12_laysSix_102 : DC mX12_laysSix 102 (.aload_n 0) 1 103 := ⟨by decide +kernel, rfl⟩
theorem d_X12_laysSix_103 : DC mX12_laysSix 103 (.aload_n 0) 1 104 := ⟨by decide +kernel, rfl⟩
theorem d_X12_laysSix_104 : DC mX12_laysSix 104 (.getfield 80) 3 107 := ⟨by decide +kernel, rfl⟩
theorem d_X12_laysSix_107 : DC mX12_laysSix 107 (.iconst 0) 1 108 := ⟨by decide +kernel, rfl⟩
theorem d_X12_laysSix_108 : DC mX12_laysSix 108 (.iaload) 1 109 := ⟨by decide +kernel, rfl⟩
theorem d_X12_laysSix_109 : DC mX12_laysSix 109 (.aload_n 0) 1 110 := ⟨by decide +kernel, rfl⟩
theorem d_X12_laysSix_110 : DC mX12_laysSix 110 (.getfield 80) 3 113 := ⟨by decide +kernel, rfl⟩
theorem d_X12_laysSix_113 : DC mX12_laysSix 113 (.iconst 4) 1 114 := ⟨by decide +kernel, rfl⟩
theorem d_X12_laysSix_114 : DC mX12_laysSix 114 (.iaload) 1 115 := ⟨by decide +kernel, rfl⟩
theorem d_X12_laysSix_115 : DC mX12_laysSix 115 (.aload_n 0) 1 116 := ⟨by decide +kernel, rfl⟩
theorem d_X12_laysSix_116 : DC mX12_laysSix 116 (.getfield 80) 3 119 := ⟨by decide +kernel, rfl⟩
theorem d_X12_laysSix_119 : DC mX12_laysSix 119 (.iconst 5) 1 120 := ⟨by decide +kernel, rfl⟩
theorem d_X12_laysSix_120 : DC mX12_laysSix 120 (.iaload) 1 121 := ⟨by decide +kernel, rfl⟩
theorem d_X12_laysSix_121 : DC mX12_laysSix 121 (.iconst 2) 1 122 := ⟨by decide +kernel, rfl⟩
theorem d_X12_laysSix_122 : DC mX12_laysSix 122 (.invokevirtual 211) 3 125 := ⟨by decide +kernel, rfl⟩
theorem d_X12_laysSix_125 : DC mX12_laysSix 125 (.aload_n 0) 1 126 := ⟨by decide +kernel, rfl⟩
theorem d_X12_laysSix_126 : DC mX12_laysSix 126 (.iconst 1) 1 127 := ⟨by decide +kernel, rfl⟩
theorem d_X12_laysSix_127 : DC mX12_laysSix 127 (.iconst 2) 1 128 := ⟨by decide +kernel, rfl⟩
theorem d_X12_laysSix_128 : DC mX12_laysSix 128 (.iconst (-1)) 1 129 := ⟨by decide +kernel, rfl⟩
theorem d_X12_laysSix_129 : DC mX12_laysSix 129 (.iload_n 1) 1 130 := ⟨by decide +kernel, rfl⟩
theorem d_X12_laysSix_130 : DC mX12_laysSix 130 (.invokevirtual 231) 3 133 := ⟨by decide +kernel, rfl⟩
theorem d_X12_laysSix_133 : DC mX12_laysSix 133 (.aload_n 0) 1 134 := ⟨by decide +kernel, rfl⟩
theorem d_X12_laysSix_134 : DC mX12_laysSix 134 (.iload_n 1) 1 135 := ⟨by decide +kernel, rfl⟩
theorem d_X12_laysSix_135 : DC mX12_laysSix 135 (.invokevirtual 241) 3 138 := ⟨by decide +kernel, rfl⟩
theorem d_X12_laysSix_138 : DC mX12_laysSix 138 (.istore_n 2) 1 139 := ⟨by decide +kernel, rfl⟩
theorem d_X12_laysSix_139 : DC mX12_laysSix 139 (.return_) 1 140 := ⟨by decide +kernel, rfl⟩
theorem d_X12_multiple_0 : DC mX12_multiple 0 (.aload_n 0) 1 1 := ⟨by decide +kernel, rfl⟩
theorem d_X12_multiple_1 : DC mX12_multiple 1 (.iload_n 1) 1 2 := ⟨by decide +kernel, rfl⟩
theorem d_X12_multiple_2 : DC mX12_multiple 2 (.invokevirtual 113) 3 5 := ⟨by decide +kernel, rfl⟩
theorem d_X12_multiple_5 : DC mX12_multiple 5 (.ifCond .eq 32) 3 8 := ⟨by decide +kernel, rfl⟩
theorem d_X12_multiple_8 : DC mX12_multiple 8 (.aload_n 0) 1 9 := ⟨by decide +kernel, rfl⟩
theorem d_X12_multiple_9 : DC mX12_multiple 9 (.iload_n 1) 1 10 := ⟨by decide +kernel, rfl⟩
theorem d_X12_multiple_10 : DC mX12_multiple 10 (.invokevirtual 113) 3 13 := ⟨by decide +kernel, rfl⟩
theorem d_X12_multiple_13 : DC mX12_multiple 13 (.aload_n 0) 1 14 := ⟨by decide +kernel, rfl⟩
theorem d_X12_multiple_14 : DC mX12_multiple 14 (.iload_n 2) 1 15 := ⟨by decide +kernel, rfl⟩
theorem d_X12_multiple_15 : DC mX12_multiple 15 (.invokevirtual 113) 3 18 := ⟨by decide +kernel, rfl⟩
theorem d_X12_multiple_18 : DC mX12_multiple 18 (.if_icmp .ne 19) 3 21 := ⟨by decide +kernel, rfl⟩
theorem d_X12_multiple_21 : DC mX12_multiple 21 (.aload_n 0) 1 22 := ⟨by decide +kernel, rfl⟩
theorem d_X12_multiple_22 : DC mX12_multiple 22 (.iload_n 1) 1 23 := ⟨by decide +kernel, rfl⟩
theorem d_X12_multiple_23 : DC mX12_multiple 23 (.iconst 0) 1 24 := ⟨by decide +kernel, rfl⟩
theorem d_X12_multiple_24 : DC mX12_multiple 24 (.invokevirtual 132) 3 27 := ⟨by decide +kernel, rfl⟩
theorem d_X12_multiple_27 : DC mX12_multiple 27 (.aload_n 0) 1 28 := ⟨by decide +kernel, rfl⟩
theorem d_X12_multiple_28 : DC mX12_multiple 28 (.iload_n 2) 1 29 := ⟨by decide +kernel, rfl⟩
theorem d_X12_multiple_29 : DC mX12_multiple 29 (.iconst 0) 1 30 := ⟨by decide +kernel, rfl⟩
theorem d_X12_multiple_30 : DC mX12_multiple 30 (.invokevirtual 132) 3 33 := ⟨by decide +kernel, rfl⟩
theorem d_X12_multiple_33 : DC mX12_multiple 33 (.irem) 1 34 := ⟨by decide +kernel, rfl⟩
theorem d_X12_multiple_34 : DC mX12_multiple 34 (.ifCond .eq 5) 3 37 := ⟨by decide +kernel, rfl⟩
theorem d_X12_multiple_37 : DC mX12_multiple 37 (.iconst 0) 1 38 := ⟨by decide +kernel, rfl⟩
theorem d_X12_multiple_38 : DC mX12_multiple 38 (.ireturn) 1 39 := ⟨by decide +kernel, rfl⟩
theorem d_X12_multiple_39 : DC mX12_multiple 39 (.aload_n 0) 1 40 := ⟨by decide +kernel, rfl⟩
theorem d_X12_multiple_40 : DC mX12_multiple 40 (.iload_n 1) 1 41 := ⟨by decide +kernel, rfl⟩
theorem d_X12_multiple_41 : DC mX12_multiple 41 (.iconst 0) 1 42 := ⟨by decide +kernel, rfl⟩
theorem d_X12_multiple_42 : DC mX12_multiple 42 (.invokevirtual 132) 3 45 := ⟨by decide +kernel, rfl⟩
theorem d_X12_multiple_45 : DC mX12_multiple 45 (.aload_n 0) 1 46 := ⟨by decide +kernel, rfl⟩
theorem d_X12_multiple_46 : DC mX12_multiple 46 (.iload_n 2) 1 47 := ⟨by decide +kernel, rfl⟩
theorem d_X12_multiple_47 : DC mX12_multiple 47 (.iconst 0) 1 48 := ⟨by decide +kernel, rfl⟩
theorem d_X12_multiple_48 : DC mX12_multiple 48 (.invokevirtual 132) 3 51 := ⟨by decide +kernel, rfl⟩
theorem d_X12_multiple_51 : DC mX12_multiple 51 (.idiv) 1 52 := ⟨by decide +kernel, rfl⟩
theorem d_X12_multiple_52 : DC mX12_multiple 52 (.istore_n 3) 1 53 := ⟨by decide +kernel, rfl⟩
theorem d_X12_multiple_53 : DC mX12_multiple 53 (.iconst 0) 1 54 := ⟨by decide +kernel, rfl⟩
theorem d_X12_multiple_54 : DC mX12_multiple 54 (.istore 4) 2 56 := ⟨by decide +kernel, rfl⟩
theorem d_X12_multiple_56 : DC mX12_multiple 56 (.iload 4) 2 58 := ⟨by decide +kernel, rfl⟩
theorem d_X12_multiple_58 : DC mX12_multiple 58 (.aload_n 0) 1 59 := ⟨by decide +kernel, rfl⟩
theorem d_X12_multiple_59 : DC mX12_multiple 59 (.iload_n 1) 1 60 := ⟨by decide +kernel, rfl⟩
theorem d_X12_multiple_60 : DC mX12_multiple 60 (.invokevirtual 113) 3 63 := ⟨by decide +kernel, rfl⟩
theorem d_X12_multiple_63 : DC mX12_multiple 63 (.if_icmp .ge 51) 3 66 := ⟨by decide +kernel, rfl⟩
theorem d_X12_multiple_66 : DC mX12_multiple 66 (.aload_n 0) 1 67 := ⟨by decide +kernel, rfl⟩
theorem d_X12_multiple_67 : DC mX12_multiple 67 (.iload_n 1) 1 68 := ⟨by decide +kernel, rfl⟩
theorem d_X12_multiple_68 : DC mX12_multiple 68 (.iload 4) 2 70 := ⟨by decide +kernel, rfl⟩
theorem d_X12_multiple_70 : DC mX12_multiple 70 (.invokevirtual 117) 3 73 := ⟨by decide +kernel, rfl⟩
theorem d_X12_multiple_73 : DC mX12_multiple 73 (.aload_n 0) 1 74 := ⟨by decide +kernel, rfl⟩
theorem d_X12_multiple_74 : DC mX12_multiple 74 (.iload_n 2) 1 75 := ⟨by decide +kernel, rfl⟩
theorem d_X12_multiple_75 : DC mX12_multiple 75 (.iload 4) 2 77 := ⟨by decide +kernel, rfl⟩
theorem d_X12_multiple_77 : DC mX12_multiple 77 (.invokevirtual 117) 3 80 := ⟨by decide +kernel, rfl⟩
theorem d_X12_multiple_80 : DC mX12_multiple 80 (.if_icmp .ne 26) 3 83 := ⟨by decide +kernel, rfl⟩
theorem d_X12_multiple_83 : DC mX12_multiple 83 (.aload_n 0) 1 84 := ⟨by decide +kernel, rfl⟩
theorem d_X12_multiple_84 : DC mX12_multiple 84 (.iload_n 1) 1 85 := ⟨by decide +kernel, rfl⟩
theorem d_X12_multiple_85 : DC mX12_multiple 85 (.iload 4) 2 87 := ⟨by decide +kernel, rfl⟩
theorem d_X12_multiple_87 : DC mX12_multiple 87 (.invokevirtual 132) 3 90 := ⟨by decide +kernel, rfl⟩
theorem d_X12_multiple_90 : DC mX12_multiple 90 (.i2l) 1 91 := ⟨by decide +kernel, rfl⟩
theorem d_X12_multiple_91 : DC mX12_multiple 91 (.iload_n 3) 1 92 := ⟨by decide +kernel, rfl⟩
theorem d_X12_multiple_92 : DC mX12_multiple 92 (.i2l) 1 93 := ⟨by decide +kernel, rfl⟩
theorem d_X12_multiple_93 : DC mX12_multiple 93 (.aload_n 0) 1 94 := ⟨by decide +kernel, rfl⟩
theorem d_X12_multiple_94 : DC mX12_multiple 94 (.iload_n 2) 1 95 := ⟨by decide +kernel, rfl⟩
theorem d_X12_multiple_95 : DC mX12_multiple 95 (.iload 4) 2 97 := ⟨by decide +kernel, rfl⟩
theorem d_X12_multiple_97 : DC mX12_multiple 97 (.invokevirtual 132) 3 100 := ⟨by decide +kernel, rfl⟩
theorem d_X12_multiple_100 : DC mX12_multiple 100 (.i2l) 1 101 := ⟨by decide +kernel, rfl⟩
theorem d_X12_multiple_101 : DC mX12_multiple 101 (.lmul) 1 102 := ⟨by decide +kernel, rfl⟩
theorem d_X12_multiple_102 : DC mX12_multiple 102 (.lcmp) 1 103 := ⟨by decide +kernel, rfl⟩
theorem d_X12_multiple_103 : DC mX12_multiple 103 (.ifCond .eq 5) 3 106 := ⟨by decide +kernel, rfl⟩
theorem d_X12_multiple_106 : DC mX12_multiple 106 (.iconst 0) 1 107 := ⟨by decide +kernel, rfl⟩
theorem d_X12_multiple_107 : DC mX12_multiple 107 (.ireturn) 1 108 := ⟨by decide +kernel, rfl⟩
theorem d_X12_multiple_108 : DC mX12_multiple 108 (.iinc 4 1) 3 111 := ⟨by decide +kernel, rfl⟩
theorem d_X12_multiple_111 : DC mX12_multiple 111 (.goto (-55)) 3 114 := ⟨by decide +kernel, rfl⟩
theorem d_X12_multiple_114 : DC mX12_multiple 114 (.iload_n 3) 1 115 := ⟨by decide +kernel, rfl⟩
theorem d_X12_multiple_115 : DC mX12_multiple 115 (.ireturn) 1 116 := ⟨by decide +kernel, rfl⟩
theorem d_X12_isFound_0 : DC mX12_isFound 0 (.iload_n 1) 1 1 := ⟨by decide +kernel, rfl⟩
theorem d_X12_isFound_1 : DC mX12_isFound 1 (.bipush 6) 2 3 := ⟨by decide +kernel, rfl⟩
theorem d_X12_isFound_3 : DC mX12_isFound 3 (.if_icmp .ne 65) 3 6 := ⟨by decide +kernel, rfl⟩
theorem d_X12_isFound_6 : DC mX12_isFound 6 (.aload_n 0) 1 7 := ⟨by decide +kernel, rfl⟩
theorem d_X12_isFound_7 : DC mX12_isFound 7 (.iconst 4) 1 8 := ⟨by decide +kernel, rfl⟩
theorem d_X12_isFound_8 : DC mX12_isFound 8 (.invokevirtual 398) 3 11 := ⟨by decide +kernel, rfl⟩
theorem d_X12_isFound_11 : DC mX12_isFound 11 (.aload_n 0) 1 12 := ⟨by decide +kernel, rfl⟩
theorem d_X12_isFound_12 : DC mX12_isFound 12 (.getfield 83) 3 15 := ⟨by decide +kernel, rfl⟩
theorem d_X12_isFound_15 : DC mX12_isFound 15 (.iconst 0) 1 16 := ⟨by decide +kernel, rfl⟩
theorem d_X12_isFound_16 : DC mX12_isFound 16 (.aload_n 0) 1 17 := ⟨by decide +kernel, rfl⟩
theorem d_X12_isFound_17 : DC mX12_isFound 17 (.iconst 3) 1 18 := ⟨by decide +kernel, rfl⟩
theorem d_X12_isFound_18 : DC mX12_isFound 18 (.iconst 4) 1 19 := ⟨by decide +kernel, rfl⟩
theorem d_X12_isFound_19 : DC mX12_isFound 19 (.invokevirtual 401) 3 22 := ⟨by decide +kernel, rfl⟩
theorem d_X12_isFound_22 : DC mX12_isFound 22 (.iastore) 1 23 := ⟨by decide +kernel, rfl⟩
theorem d_X12_isFound_23 : DC mX12_isFound 23 (.iconst 0) 1 24 := ⟨by decide +kernel, rfl⟩
theorem d_X12_isFound_24 : DC mX12_isFound 24 (.istore_n 3) 1 25 := ⟨by decide +kernel, rfl⟩
theorem d_X12_isFound_25 : DC mX12_isFound 25 (.iload_n 3) 1 26 := ⟨by decide +kernel, rfl⟩
theorem d_X12_isFound_26 : DC mX12_isFound 26 (.bipush 6) 2 28 := ⟨by decide +kernel, rfl⟩
theorem d_X12_isFound_28 : DC mX12_isFound 28 (.if_icmp .ge 25) 3 31 := ⟨by decide +kernel, rfl⟩
theorem d_X12_isFound_31 : DC mX12_isFound 31 (.aload_n 0) 1 32 := ⟨by decide +kernel, rfl⟩
theorem d_X12_isFound_32 : DC mX12_isFound 32 (.getfield 83) 3 35 := ⟨by decide +kernel, rfl⟩
theorem d_X12_isFound_35 : DC mX12_isFound 35 (.iload_n 3) 1 36 := ⟨by decide +kernel, rfl⟩
theorem d_X12_isFound_36 : DC mX12_isFound 36 (.iconst 1) 1 37 := ⟨by decide +kernel, rfl⟩
theorem d_X12_isFound_37 : DC mX12_isFound 37 (.iadd) 1 38 := ⟨by decide +kernel, rfl⟩
theorem d_X12_isFound_38 : DC mX12_isFound 38 (.aload_n 0) 1 39 := ⟨by decide +kernel, rfl⟩
theorem d_X12_isFound_39 : DC mX12_isFound 39 (.getfield 80) 3 42 := ⟨by decide +kernel, rfl⟩
theorem d_X12_isFound_42 : DC mX12_isFound 42 (.iload_n 3) 1 43 := ⟨by decide +kernel, rfl⟩
theorem d_X12_isFound_43 : DC mX12_isFound 43 (.iaload) 1 44 := ⟨by decide +kernel, rfl⟩
theorem d_X12_isFound_44 : DC mX12_isFound 44 (.iconst 1) 1 45 := ⟨by decide +kernel, rfl⟩
theorem d_X12_isFound_45 : DC mX12_isFound 45 (.iadd) 1 46 := ⟨by decide +kernel, rfl⟩
theorem d_X12_isFound_46 : DC mX12_isFound 46 (.iastore) 1 47 := ⟨by decide +kernel, rfl⟩
theorem d_X12_isFound_47 : DC mX12_isFound 47 (.iinc 3 1) 3 50 := ⟨by decide +kernel, rfl⟩
theorem d_X12_isFound_50 : DC mX12_isFound 50 (.goto (-25)) 3 53 := ⟨by decide +kernel, rfl⟩
theorem d_X12_isFound_53 : DC mX12_isFound 53 (.aload_n 0) 1 54 := ⟨by decide +kernel, rfl⟩
theorem d_X12_isFound_54 : DC mX12_isFound 54 (.getfield 83) 3 57 := ⟨by decide +kernel, rfl⟩
theorem d_X12_isFound_57 : DC mX12_isFound 57 (.iconst 0) 1 58 := ⟨by decide +kernel, rfl⟩
theorem d_X12_isFound_58 : DC mX12_isFound 58 (.iaload) 1 59 := ⟨by decide +kernel, rfl⟩
theorem d_X12_isFound_59 : DC mX12_isFound 59 (.ifCond .eq 7) 3 62 := ⟨by decide +kernel, rfl⟩
theorem d_X12_isFound_62 : DC mX12_isFound 62 (.iconst 1) 1 63 := ⟨by decide +kernel, rfl⟩
theorem d_X12_isFound_63 : DC mX12_isFound 63 (.goto 4) 3 66 := ⟨by decide +kernel, rfl⟩
theorem d_X12_isFound_66 : DC mX12_isFound 66 (.iconst 0) 1 67 := ⟨by decide +kernel, rfl⟩
theorem d_X12_isFound_67 : DC mX12_isFound 67 (.ireturn) 1 68 := ⟨by decide +kernel, rfl⟩
theorem d_X12_isFound_68 : DC mX12_isFound 68 (.iconst 0) 1 69 := ⟨by decide +kernel, rfl⟩
theorem d_X12_isFound_69 : DC mX12_isFound 69 (.istore_n 3) 1 70 := ⟨by decide +kernel, rfl⟩
theorem d_X12_isFound_70 : DC mX12_isFound 70 (.iload_n 3) 1 71 := ⟨by decide +kernel, rfl⟩
theorem d_X12_isFound_71 : DC mX12_isFound 71 (.bipush 6) 2 73 := ⟨by decide +kernel, rfl⟩
theorem d_X12_isFound_73 : DC mX12_isFound 73 (.if_icmp .ge 50) 3 76 := ⟨by decide +kernel, rfl⟩
theorem d_X12_isFound_76 : DC mX12_isFound 76 (.iload_n 2) 1 77 := ⟨by decide +kernel, rfl⟩
theorem d_X12_isFound_77 : DC mX12_isFound 77 (.iload_n 3) 1 78 := ⟨by decide +kernel, rfl⟩
theorem d_X12_isFound_78 : DC mX12_isFound 78 (.ishr) 1 79 := ⟨by decide +kernel, rfl⟩
theorem d_X12_isFound_79 : DC mX12_isFound 79 (.iconst 1) 1 80 := ⟨by decide +kernel, rfl⟩
theorem d_X12_isFound_80 : DC mX12_isFound 80 (.iand) 1 81 := ⟨by decide +kernel, rfl⟩
theorem d_X12_isFound_81 : DC mX12_isFound 81 (.iconst 1) 1 82 := ⟨by decide +kernel, rfl⟩
theorem d_X12_isFound_82 : DC mX12_isFound 82 (.if_icmp .ne 6) 3 85 := ⟨by decide +kernel, rfl⟩
theorem d_X12_isFound_85 : DC mX12_isFound 85 (.goto 32) 3 88 := ⟨by decide +kernel, rfl⟩
theorem d_X12_isFound_88 : DC mX12_isFound 88 (.aload_n 0) 1 89 := ⟨by decide +kernel, rfl⟩
theorem d_X12_isFound_89 : DC mX12_isFound 89 (.getfield 80) 3 92 := ⟨by decide +kernel, rfl⟩
theorem d_X12_isFound_92 : DC mX12_isFound 92 (.iload_n 1) 1 93 := ⟨by decide +kernel, rfl⟩
theorem d_X12_isFound_93 : DC mX12_isFound 93 (.aload_n 0) 1 94 := ⟨by decide +kernel, rfl⟩
theorem d_X12_isFound_94 : DC mX12_isFound 94 (.getfield 77) 3 97 := ⟨by decide +kernel, rfl⟩
theorem d_X12_isFound_97 : DC mX12_isFound 97 (.iload_n 3) 1 98 := ⟨by decide +kernel, rfl⟩
theorem d_X12_isFound_98 : DC mX12_isFound 98 (.iaload) 1 99 := ⟨by decide +kernel, rfl⟩
theorem d_X12_isFound_99 : DC mX12_isFound 99 (.iastore) 1 100 := ⟨by decide +kernel, rfl⟩
theorem d_X12_isFound_100 : DC mX12_isFound 100 (.aload_n 0) 1 101 := ⟨by decide +kernel, rfl⟩
theorem d_X12_isFound_101 : DC mX12_isFound 101 (.iload_n 1) 1 102 := ⟨by decide +kernel, rfl⟩
theorem d_X12_isFound_102 : DC mX12_isFound 102 (.iconst 1) 1 103 := ⟨by decide +kernel, rfl⟩
theorem d_X12_isFound_103 : DC mX12_isFound 103 (.iadd) 1 104 := ⟨by decide +kernel, rfl⟩
theorem d_X12_isFound_104 : DC mX12_isFound 104 (.iload_n 2) 1 105 := ⟨by decide +kernel, rfl⟩
theorem d_X12_isFound_105 : DC mX12_isFound 105 (.iconst 1) 1 106 := ⟨by decide +kernel, rfl⟩
theorem d_X12_isFound_106 : DC mX12_isFound 106 (.iload_n 3) 1 107 := ⟨by decide +kernel, rfl⟩
theorem d_X12_isFound_107 : DC mX12_isFound 107 (.ishl) 1 108 := ⟨by decide +kernel, rfl⟩
theorem d_X12_isFound_108 : DC mX12_isFound 108 (.ior) 1 109 := ⟨by decide +kernel, rfl⟩
theorem d_X12_isFound_109 : DC mX12_isFound 109 (.invokevirtual 404) 3 112 := ⟨by decide +kernel, rfl⟩
theorem d_X12_isFound_112 : DC mX12_isFound 112 (.ifCond .eq 5) 3 115 := ⟨by decide +kernel, rfl⟩
theorem d_X12_isFound_115 : DC mX12_isFound 115 (.iconst 1) 1 116 := ⟨by decide +kernel, rfl⟩
theorem d_X12_isFound_116 : DC mX12_isFound 116 (.ireturn) 1 117 := ⟨by decide +kernel, rfl⟩
theorem d_X12_isFound_117 : DC mX12_isFound 117 (.iinc 3 1) 3 120 := ⟨by decide +kernel, rfl⟩
theorem d_X12_isFound_120 : DC mX12_isFound 120 (.goto (-50)) 3 123 := ⟨by decide +kernel, rfl⟩
theorem d_X12_isFound_123 : DC mX12_isFound 123 (.iconst 0) 1 124 := ⟨by decide +kernel, rfl⟩
theorem d_X12_isFound_124 : DC mX12_isFound 124 (.ireturn) 1 125 := ⟨by decide +kernel, rfl⟩
theorem d_X12_factor_0 : DC mX12_factor 0 (.aload_n 0) 1 1 := ⟨by decide +kernel, rfl⟩
theorem d_X12_factor_1 : DC mX12_factor 1 (.iconst 0) 1 2 := ⟨by decide +kernel, rfl⟩
theorem d_X12_factor_2 : DC mX12_factor 2 (.putfield 1) 3 5 := ⟨by decide +kernel, rfl⟩
theorem d_X12_factor_5 : DC mX12_factor 5 (.iload_n 1) 1 6 := ⟨by decide +kernel, rfl⟩
theorem d_X12_factor_6 : DC mX12_factor 6 (.invokestatic 199) 3 9 := ⟨by decide +kernel, rfl⟩
theorem d_X12_factor_9 : DC mX12_factor 9 (.ifCond .eq 15) 3 12 := ⟨by decide +kernel, rfl⟩
theorem d_X12_factor_12 : DC mX12_factor 12 (.iload_n 2) 1 13 := ⟨by decide +kernel, rfl⟩
theorem d_X12_factor_13 : DC mX12_factor 13 (.i2l) 1 14 := ⟨by decide +kernel, rfl⟩
theorem d_X12_factor_14 : DC mX12_factor 14 (.lconst 0) 1 15 := ⟨by decide +kernel, rfl⟩
theorem d_X12_factor_15 : DC mX12_factor 15 (.ldc2_w 407) 3 18 := ⟨by decide +kernel, rfl⟩
theorem d_X12_factor_18 : DC mX12_factor 18 (.invokestatic 91) 3 21 := ⟨by decide +kernel, rfl⟩
theorem d_X12_factor_21 : DC mX12_factor 21 (.ifCond .ne 10) 3 24 := ⟨by decide +kernel, rfl⟩
theorem d_X12_factor_24 : DC mX12_factor 24 (.aload_n 0) 1 25 := ⟨by decide +kernel, rfl⟩
theorem d_X12_factor_25 : DC mX12_factor 25 (.bipush (-2)) 2 27 := ⟨by decide +kernel, rfl⟩
theorem d_X12_factor_27 : DC mX12_factor 27 (.invokevirtual 218) 3 30 := ⟨by decide +kernel, rfl⟩
theorem d_X12_factor_30 : DC mX12_factor 30 (.ireturn) 1 31 := ⟨by decide +kernel, rfl⟩
theorem d_X12_factor_31 : DC mX12_factor 31 (.aload_n 0) 1 32 := ⟨by decide +kernel, rfl⟩
theorem d_X12_factor_32 : DC mX12_factor 32 (.iload_n 1) 1 33 := ⟨by decide +kernel, rfl⟩
theorem d_X12_factor_33 : DC mX12_factor 33 (.invokevirtual 409) 3 36 := ⟨by decide +kernel, rfl⟩
theorem d_X12_factor_36 : DC mX12_factor 36 (.ifCond .ne 9) 3 39 := ⟨by decide +kernel, rfl⟩
theorem d_X12_factor_39 : DC mX12_factor 39 (.aload_n 0) 1 40 := ⟨by decide +kernel, rfl⟩
theorem d_X12_factor_40 : DC mX12_factor 40 (.iconst 0) 1 41 := ⟨by decide +kernel, rfl⟩
theorem d_X12_factor_41 : DC mX12_factor 41 (.invokevirtual 218) 3 44 := ⟨by decide +kernel, rfl⟩
theorem d_X12_factor_44 : DC mX12_factor 44 (.ireturn) 1 45 := ⟨by decide +kernel, rfl⟩
theorem d_X12_factor_45 : DC mX12_factor 45 (.aload_n 0) 1 46 := ⟨by decide +kernel, rfl⟩
theorem d_X12_factor_46 : DC mX12_factor 46 (.invokevirtual 202) 3 49 := ⟨by decide +kernel, rfl⟩
theorem d_X12_factor_49 : DC mX12_factor 49 (.aload_n 0) 1 50 := ⟨by decide +kernel, rfl⟩
theorem d_X12_factor_50 : DC mX12_factor 50 (.iload_n 1) 1 51 := ⟨by decide +kernel, rfl⟩
theorem d_X12_factor_51 : DC mX12_factor 51 (.iconst 3) 1 52 := ⟨by decide +kernel, rfl⟩
theorem d_X12_factor_52 : DC mX12_factor 52 (.invokevirtual 349) 3 55 := ⟨by decide +kernel, rfl⟩
theorem d_X12_factor_55 : DC mX12_factor 55 (.istore_n 3) 1 56 := ⟨by decide +kernel, rfl⟩
theorem d_X12_factor_56 : DC mX12_factor 56 (.iload_n 3) 1 57 := ⟨by decide +kernel, rfl⟩
theorem d_X12_factor_57 : DC mX12_factor 57 (.ifCond .eq 5) 3 60 := ⟨by decide +kernel, rfl⟩
theorem d_X12_factor_60 : DC mX12_factor 60 (.iload_n 3) 1 61 := ⟨by decide +kernel, rfl⟩
theorem d_X12_factor_61 : DC mX12_factor 61 (.ireturn) 1 62 := ⟨by decide +kernel, rfl⟩
theorem d_X12_factor_62 : DC mX12_factor 62 (.aload_n 0) 1 63 := ⟨by decide +kernel, rfl⟩
theorem d_X12_factor_63 : DC mX12_factor 63 (.iconst 0) 1 64 := ⟨by decide +kernel, rfl⟩
theorem d_X12_factor_64 : DC mX12_factor 64 (.iconst 0) 1 65 := ⟨by decide +kernel, rfl⟩
theorem d_X12_factor_65 : DC mX12_factor 65 (.invokevirtual 404) 3 68 := ⟨by decide +kernel, rfl⟩
theorem d_X12_factor_68 : DC mX12_factor 68 (.ifCond .eq 12) 3 71 := ⟨by decide +kernel, rfl⟩
theorem d_X12_factor_71 : DC mX12_factor 71 (.aload_n 0) 1 72 := ⟨by decide +kernel, rfl⟩
theorem d_X12_factor_72 : DC mX12_factor 72 (.getfield 83) 3 75 := ⟨by decide +kernel, rfl⟩
theorem d_X12_factor_75 : DC mX12_factor 75 (.iload_n 2) 1 76 := ⟨by decide +kernel, rfl⟩
theorem d_X12_factor_76 : DC mX12_factor 76 (.iaload) 1 77 := ⟨by decide +kernel, rfl⟩
theorem d_X12_factor_77 : DC mX12_factor 77 (.goto 4) 3 80 := ⟨by decide +kernel, rfl⟩
theorem d_X12_factor_80 : DC mX12_factor 80 (.iconst 0) 1 81 := ⟨by decide +kernel, rfl⟩
theorem d_X12_factor_81 : DC mX12_factor 81 (.ireturn) 1 82 := ⟨by decide +kernel, rfl⟩
theorem d_X12_isFinal_0 : DC mX12_isFinal 0 (.aload_n 0) 1 1 := ⟨by decide +kernel, rfl⟩
theorem d_X12_isFinal_1 : DC mX12_isFinal 1 (.iconst 0) 1 2 := ⟨by decide +kernel, rfl⟩
theorem d_X12_isFinal_2 : DC mX12_isFinal 2 (.putfield 1) 3 5 := ⟨by decide +kernel, rfl⟩
theorem d_X12_isFinal_5 : DC mX12_isFinal 5 (.iload_n 1) 1 6 := ⟨by decide +kernel, rfl⟩
theorem d_X12_isFinal_6 : DC mX12_isFinal 6 (.invokestatic 199) 3 9 := ⟨by decide +kernel, rfl⟩
theorem d_X12_isFinal_9 : DC mX12_isFinal 9 (.ifCond .ne 10) 3 12 := ⟨by decide +kernel, rfl⟩
theorem d_X12_isFinal_12 : DC mX12_isFinal 12 (.aload_n 0) 1 13 := ⟨by decide +kernel, rfl⟩
theorem d_X12_isFinal_13 : DC mX12_isFinal 13 (.bipush (-2)) 2 15 := ⟨by decide +kernel, rfl⟩
theorem d_X12_isFinal_15 : DC mX12_isFinal 15 (.invokevirtual 218) 3 18 := ⟨by decide +kernel, rfl⟩
theorem d_X12_isFinal_18 : DC mX12_isFinal 18 (.ireturn) 1 19 := ⟨by decide +kernel, rfl⟩
theorem d_X12_isFinal_19 : DC mX12_isFinal 19 (.aload_n 0) 1 20 := ⟨by decide +kernel, rfl⟩
theorem d_X12_isFinal_20 : DC mX12_isFinal 20 (.invokevirtual 202) 3 23 := ⟨by decide +kernel, rfl⟩
theorem d_X12_isFinal_23 : DC mX12_isFinal 23 (.aload_n 0) 1 24 := ⟨by decide +kernel, rfl⟩
theorem d_X12_isFinal_24 : DC mX12_isFinal 24 (.iload_n 1) 1 25 := ⟨by decide +kernel, rfl⟩
theorem d_X12_isFinal_25 : DC mX12_isFinal 25 (.iconst 3) 1 26 := ⟨by decide +kernel, rfl⟩
theorem d_X12_isFinal_26 : DC mX12_isFinal 26 (.invokevirtual 349) 3 29 := ⟨by decide +kernel, rfl⟩
theorem d_X12_isFinal_29 : DC mX12_isFinal 29 (.istore_n 2) 1 30 := ⟨by decide +kernel, rfl⟩
theorem d_X12_isFinal_30 : DC mX12_isFinal 30 (.iload_n 2) 1 31 := ⟨by decide +kernel, rfl⟩
theorem d_X12_isFinal_31 : DC mX12_isFinal 31 (.ifCond .eq 5) 3 34 := ⟨by decide +kernel, rfl⟩
theorem d_X12_isFinal_34 : DC mX12_isFinal 34 (.iload_n 2) 1 35 := ⟨by decide +kernel, rfl⟩
theorem d_X12_isFinal_35 : DC mX12_isFinal 35 (.ireturn) 1 36 := ⟨by decide +kernel, rfl⟩
theorem d_X12_isFinal_36 : DC mX12_isFinal 36 (.aload_n 0) 1 37 := ⟨by decide +kernel, rfl⟩
theorem d_X12_isFinal_37 : DC mX12_isFinal 37 (.iconst 3) 1 38 := ⟨by decide +kernel, rfl⟩
theorem d_X12_isFinal_38 : DC mX12_isFinal 38 (.invokevirtual 113) 3 41 := ⟨by decide +kernel, rfl⟩
theorem d_X12_isFinal_41 : DC mX12_isFinal 41 (.ifCond .le 5) 3 44 := ⟨by decide +kernel, rfl⟩
theorem d_X12_isFinal_44 : DC mX12_isFinal 44 (.iconst 0) 1 45 := ⟨by decide +kernel, rfl⟩
theorem d_X12_isFinal_45 : DC mX12_isFinal 45 (.ireturn) 1 46 := ⟨by decide +kernel, rfl⟩
theorem d_X12_isFinal_46 : DC mX12_isFinal 46 (.aload_n 0) 1 47 := ⟨by decide +kernel, rfl⟩
theorem d_X12_isFinal_47 : DC mX12_isFinal 47 (.iload_n 1) 1 48 := ⟨by decide +kernel, rfl⟩
theorem d_X12_isFinal_48 : DC mX12_isFinal 48 (.invokevirtual 247) 3 51 := ⟨by decide +kernel, rfl⟩
theorem d_X12_isFinal_51 : DC mX12_isFinal 51 (.aload_n 0) 1 52 := ⟨by decide +kernel, rfl⟩
theorem d_X12_isFinal_52 : DC mX12_isFinal 52 (.iconst 0) 1 53 := ⟨by decide +kernel, rfl⟩
theorem d_X12_isFinal_53 : DC mX12_isFinal 53 (.invokevirtual 113) 3 56 := ⟨by decide +kernel, rfl⟩
theorem d_X12_isFinal_56 : DC mX12_isFinal 56 (.iconst 1) 1 57 := ⟨by decide +kernel, rfl⟩
theorem d_X12_isFinal_57 : DC mX12_isFinal 57 (.if_icmp .eq 5) 3 60 := ⟨by decide +kernel, rfl⟩
theorem d_X12_isFinal_60 : DC mX12_isFinal 60 (.iconst 0) 1 61 := ⟨by decide +kernel, rfl⟩
theorem d_X12_isFinal_61 : DC mX12_isFinal 61 (.ireturn) 1 62 := ⟨by decide +kernel, rfl⟩
theorem d_X12_isFinal_62 : DC mX12_isFinal 62 (.aload_n 0) 1 63 := ⟨by decide +kernel, rfl⟩
theorem d_X12_isFinal_63 : DC mX12_isFinal 63 (.iconst 0) 1 64 := ⟨by decide +kernel, rfl⟩
theorem d_X12_isFinal_64 : DC mX12_isFinal 64 (.iconst 0) 1 65 := ⟨by decide +kernel, rfl⟩
theorem d_X12_isFinal_65 : DC mX12_isFinal 65 (.invokevirtual 117) 3 68 := ⟨by decide +kernel, rfl⟩
theorem d_X12_isFinal_68 : DC mX12_isFinal 68 (.istore_n 3) 1 69 := ⟨by decide +kernel, rfl⟩
theorem d_X12_isFinal_69 : DC mX12_isFinal 69 (.iload_n 3) 1 70 := ⟨by decide +kernel, rfl⟩
theorem d_X12_isFinal_70 : DC mX12_isFinal 70 (.invokestatic 138) 3 73 := ⟨by decide +kernel, rfl⟩
theorem d_X12_isFinal_73 : DC mX12_isFinal 73 (.ifCond .le 7) 3 76 := ⟨by decide +kernel, rfl⟩
theorem d_X12_isFinal_76 : DC mX12_isFinal 76 (.iconst 1) 1 77 := ⟨by decide +kernel, rfl⟩
theorem d_X12_isFinal_77 : DC mX12_isFinal 77 (.goto 4) 3 80 := ⟨by decide +kernel, rfl⟩
theorem d_X12_isFinal_80 : DC mX12_isFinal 80 (.iconst 0) 1 81 := ⟨by decide +kernel, rfl⟩
theorem d_X12_isFinal_81 : DC mX12_isFinal 81 (.istore 4) 2 83 := ⟨by decide +kernel, rfl⟩
theorem d_X12_isFinal_83 : DC mX12_isFinal 83 (.iconst 0) 1 84 := ⟨by decide +kernel, rfl⟩
theorem d_X12_isFinal_84 : DC mX12_isFinal 84 (.istore 5) 2 86 := ⟨by decide +kernel, rfl⟩
theorem d_X12_isFinal_86 : DC mX12_isFinal 86 (.iload 5) 2 88 := ⟨by decide +kernel, rfl⟩
theorem d_X12_isFinal_88 : DC mX12_isFinal 88 (.iload_n 3) 1 89 := ⟨by decide +kernel, rfl⟩
theorem d_X12_isFinal_89 : DC mX12_isFinal 89 (.invokestatic 138) 3 92 := ⟨by decide +kernel, rfl⟩
theorem d_X12_isFinal_92 : DC mX12_isFinal 92 (.if_icmp .ge 35) 3 95 := ⟨by decide +kernel, rfl⟩
theorem d_X12_isFinal_95 : DC mX12_isFinal 95 (.iload 4) 2 97 := ⟨by decide +kernel, rfl⟩
theorem d_X12_isFinal_97 : DC mX12_isFinal 97 (.ifCond .eq 21) 3 100 := ⟨by decide +kernel, rfl⟩
theorem d_X12_isFinal_100 : DC mX12_isFinal 100 (.aload_n 0) 1 101 := ⟨by decide +kernel, rfl⟩
theorem d_X12_isFinal_101 : DC mX12_isFinal 101 (.iload_n 3) 1 102 := ⟨by decide +kernel, rfl⟩
theorem d_X12_isFinal_102 : DC mX12_isFinal 102 (.iload 5) 2 104 := ⟨by decide +kernel, rfl⟩
theorem d_X12_isFinal_104 : DC mX12_isFinal 104 (.invokestatic 135) 3 107 := ⟨by decide +kernel, rfl⟩
theorem d_X12_isFinal_107 : DC mX12_isFinal 107 (.invokevirtual 244) 3 110 := ⟨by decide +kernel, rfl⟩
theorem d_X12_isFinal_110 : DC mX12_isFinal 110 (.iconst 1) 1 111 := ⟨by decide +kernel, rfl⟩
theorem d_X12_isFinal_111 : DC mX12_isFinal 111 (.if_icmp .ne 7) 3 114 := ⟨by decide +kernel, rfl⟩
theorem d_X12_isFinal_114 : DC mX12_isFinal 114 (.iconst 1) 1 115 := ⟨by decide +kernel, rfl⟩
theorem d_X12_isFinal_115 : DC mX12_isFinal 115 (.goto 4) 3 118 := ⟨by decide +kernel, rfl⟩
theorem d_X12_isFinal_118 : DC mX12_isFinal 118 (.iconst 0) 1 119 := ⟨by decide +kernel, rfl⟩
theorem d_X12_isFinal_119 : DC mX12_isFinal 119 (.istore 4) 2 121 := ⟨by decide +kernel, rfl⟩
theorem d_X12_isFinal_121 : DC mX12_isFinal 121 (.iinc 5 1) 3 124 := ⟨by decide +kernel, rfl⟩
theorem d_X12_isFinal_124 : DC mX12_isFinal 124 (.goto (-38)) 3 127 := ⟨by decide +kernel, rfl⟩
theorem d_X12_isFinal_127 : DC mX12_isFinal 127 (.iload 4) 2 129 := ⟨by decide +kernel, rfl⟩
theorem d_X12_isFinal_129 : DC mX12_isFinal 129 (.ifCond .eq 7) 3 132 := ⟨by decide +kernel, rfl⟩
theorem d_X12_isFinal_132 : DC mX12_isFinal 132 (.iconst 1) 1 133 := ⟨by decide +kernel, rfl⟩
theorem d_X12_isFinal_133 : DC mX12_isFinal 133 (.goto 4) 3 136 := ⟨by decide +kernel, rfl⟩
theorem d_X12_isFinal_136 : DC mX12_isFinal 136 (.iconst 0) 1 137 := ⟨by decide +kernel, rfl⟩
theorem d_X12_isFinal_137 : DC mX12_isFinal 137 (.ireturn) 1 138 := ⟨by decide +kernel, rfl⟩
theorem d_X12_known_0 : DC mX12_known 0 (.aload_n 0) 1 1 := ⟨by decide +kernel, rfl⟩
theorem d_X12_known_1 : DC mX12_known 1 (.iconst 0) 1 2 := ⟨by decide +kernel, rfl⟩
theorem d_X12_known_2 : DC mX12_known 2 (.putfield 1) 3 5 := ⟨by decide +kernel, rfl⟩
theorem d_X12_known_5 : DC mX12_known 5 (.iload_n 1) 1 6 := ⟨by decide +kernel, rfl⟩
theorem d_X12_known_6 : DC mX12_known 6 (.invokestatic 208) 3 9 := ⟨by decide +kernel, rfl⟩
theorem d_X12_known_9 : DC mX12_known 9 (.ifCond .eq 17) 3 12 := ⟨by decide +kernel, rfl⟩
theorem d_X12_known_12 : DC mX12_known 12 (.iload_n 2) 1 13 := ⟨by decide +kernel, rfl⟩
theorem d_X12_known_13 : DC mX12_known 13 (.invokestatic 208) 3 16 := ⟨by decide +kernel, rfl⟩
theorem d_X12_known_16 : DC mX12_known 16 (.ifCond .eq 10) 3 19 := ⟨by decide +kernel, rfl⟩
theorem d_X12_known_19 : DC mX12_known 19 (.iload_n 3) 1 20 := ⟨by decide +kernel, rfl⟩
theorem d_X12_known_20 : DC mX12_known 20 (.invokestatic 208) 3 23 := ⟨by decide +kernel, rfl⟩
theorem d_X12_known_23 : DC mX12_known 23 (.ifCond .ne 6) 3 26 := ⟨by decide +kernel, rfl⟩
theorem d_X12_known_26 : DC mX12_known 26 (.bipush (-2)) 2 28 := ⟨by decide +kernel, rfl⟩
theorem d_X12_known_28 : DC mX12_known 28 (.ireturn) 1 29 := ⟨by decide +kernel, rfl⟩
theorem d_X12_known_29 : DC mX12_known 29 (.aload_n 0) 1 30 := ⟨by decide +kernel, rfl⟩
theorem d_X12_known_30 : DC mX12_known 30 (.getfield 13) 3 33 := ⟨by decide +kernel, rfl⟩
theorem d_X12_known_33 : DC mX12_known 33 (.bipush 100) 2 35 := ⟨by decide +kernel, rfl⟩
theorem d_X12_known_35 : DC mX12_known 35 (.iload_n 1) 1 36 := ⟨by decide +kernel, rfl⟩
theorem d_X12_known_36 : DC mX12_known 36 (.imul) 1 37 := ⟨by decide +kernel, rfl⟩
theorem d_X12_known_37 : DC mX12_known 37 (.bipush 10) 2 39 := ⟨by decide +kernel, rfl⟩
theorem d_X12_known_39 : DC mX12_known 39 (.iload_n 2) 1 40 := ⟨by decide +kernel, rfl⟩
theorem d_X12_known_40 : DC mX12_known 40 (.imul) 1 41 := ⟨by decide +kernel, rfl⟩
theorem d_X12_known_41 : DC mX12_known 41 (.iadd) 1 42 := ⟨by decide +kernel, rfl⟩
theorem d_X12_known_42 : DC mX12_known 42 (.iload_n 3) 1 43 := ⟨by decide +kernel, rfl⟩
theorem d_X12_known_43 : DC mX12_known 43 (.iadd) 1 44 := ⟨by decide +kernel, rfl⟩
theorem d_X12_known_44 : DC mX12_known 44 (.iaload) 1 45 := ⟨by decide +kernel, rfl⟩
theorem d_X12_known_45 : DC mX12_known 45 (.invokestatic 168) 3 48 := ⟨by decide +kernel, rfl⟩
theorem d_X12_known_48 : DC mX12_known 48 (.istore 4) 2 50 := ⟨by decide +kernel, rfl⟩
theorem d_X12_known_50 : DC mX12_known 50 (.iload 4) 2 52 := ⟨by decide +kernel, rfl⟩
theorem d_X12_known_52 : DC mX12_known 52 (.ifCond .ne 8) 3 55 := ⟨by decide +kernel, rfl⟩
theorem d_X12_known_55 : DC mX12_known 55 (.bipush (-3)) 2 57 := ⟨by decide +kernel, rfl⟩
theorem d_X12_known_57 : DC mX12_known 57 (.goto 9) 3 60 := ⟨by decide +kernel, rfl⟩
theorem d_X12_known_60 : DC mX12_known 60 (.aload_n 0) 1 61 := ⟨by decide +kernel, rfl⟩
theorem d_X12_known_61 : DC mX12_known 61 (.iload 4) 2 63 := ⟨by decide +kernel, rfl⟩
theorem d_X12_known_63 : DC mX12_known 63 (.invokevirtual 244) 3 66 := ⟨by decide +kernel, rfl⟩
theorem d_X12_known_66 : DC mX12_known 66 (.ireturn) 1 67 := ⟨by decide +kernel, rfl⟩
theorem d_X12_at_0 : DC mX12_at 0 (.aload_n 0) 1 1 := ⟨by decide +kernel, rfl⟩
theorem d_X12_at_1 : DC mX12_at 1 (.iconst 0) 1 2 := ⟨by decide +kernel, rfl⟩
theorem d_X12_at_2 : DC mX12_at 2 (.putfield 1) 3 5 := ⟨by decide +kernel, rfl⟩
theorem d_X12_at_5 : DC mX12_at 5 (.iload_n 1) 1 6 := ⟨by decide +kernel, rfl⟩
theorem d_X12_at_6 : DC mX12_at 6 (.invokestatic 208) 3 9 := ⟨by decide +kernel, rfl⟩
theorem d_X12_at_9 : DC mX12_at 9 (.ifCond .eq 32) 3 12 := ⟨by decide +kernel, rfl⟩
theorem d_X12_at_12 : DC mX12_at 12 (.iload_n 2) 1 13 := ⟨by decide +kernel, rfl⟩
theorem d_X12_at_13 : DC mX12_at 13 (.i2l) 1 14 := ⟨by decide +kernel, rfl⟩
theorem d_X12_at_14 : DC mX12_at 14 (.lconst 0) 1 15 := ⟨by decide +kernel, rfl⟩
theorem d_X12_at_15 : DC mX12_at 15 (.ldc2_w 250) 3 18 := ⟨by decide +kernel, rfl⟩
theorem d_X12_at_18 : DC mX12_at 18 (.invokestatic 91) 3 21 := ⟨by decide +kernel, rfl⟩
theorem d_X12_at_21 : DC mX12_at 21 (.ifCond .eq 20) 3 24 := ⟨by decide +kernel, rfl⟩
theorem d_X12_at_24 : DC mX12_at 24 (.aload_n 0) 1 25 := ⟨by decide +kernel, rfl⟩
theorem d_X12_at_25 : DC mX12_at 25 (.getfield 20) 3 28 := ⟨by decide +kernel, rfl⟩
theorem d_X12_at_28 : DC mX12_at 28 (.sipush 966) 3 31 := ⟨by decide +kernel, rfl⟩
theorem d_X12_at_31 : DC mX12_at 31 (.iconst 3) 1 32 := ⟨by decide +kernel, rfl⟩
theorem d_X12_at_32 : DC mX12_at 32 (.iload_n 1) 1 33 := ⟨by decide +kernel, rfl⟩
theorem d_X12_at_33 : DC mX12_at 33 (.imul) 1 34 := ⟨by decide +kernel, rfl⟩
theorem d_X12_at_34 : DC mX12_at 34 (.iadd) 1 35 := ⟨by decide +kernel, rfl⟩
theorem d_X12_at_35 : DC mX12_at 35 (.iload_n 2) 1 36 := ⟨by decide +kernel, rfl⟩
theorem d_X12_at_36 : DC mX12_at 36 (.iadd) 1 37 := ⟨by decide +kernel, rfl⟩
theorem d_X12_at_37 : DC mX12_at 37 (.iaload) 1 38 := ⟨by decide +kernel, rfl⟩
theorem d_X12_at_38 : DC mX12_at 38 (.goto 5) 3 41 := ⟨by decide +kernel, rfl⟩
theorem d_X12_at_41 : DC mX12_at 41 (.bipush (-100)) 2 43 := ⟨by decide +kernel, rfl⟩
theorem d_X12_at_43 : DC mX12_at 43 (.ireturn) 1 44 := ⟨by decide +kernel, rfl⟩
theorem d_X12_worthOf_0 : DC mX12_worthOf 0 (.sipush 966) 3 3 := ⟨by decide +kernel, rfl⟩
theorem d_X12_worthOf_3 : DC mX12_worthOf 3 (.iconst 3) 1 4 := ⟨by decide +kernel, rfl⟩
theorem d_X12_worthOf_4 : DC mX12_worthOf 4 (.iload_n 1) 1 5 := ⟨by decide +kernel, rfl⟩
theorem d_X12_worthOf_5 : DC mX12_worthOf 5 (.imul) 1 6 := ⟨by decide +kernel, rfl⟩
theorem d_X12_worthOf_6 : DC mX12_worthOf 6 (.iadd) 1 7 := ⟨by decide +kernel, rfl⟩
theorem d_X12_worthOf_7 : DC mX12_worthOf 7 (.istore 4) 2 9 := ⟨by decide +kernel, rfl⟩
theorem d_X12_worthOf_9 : DC mX12_worthOf 9 (.sipush 966) 3 12 := ⟨by decide +kernel, rfl⟩
theorem d_X12_worthOf_12 : DC mX12_worthOf 12 (.iconst 3) 1 13 := ⟨by decide +kernel, rfl⟩
theorem d_X12_worthOf_13 : DC mX12_worthOf 13 (.iload_n 2) 1 14 := ⟨by decide +kernel, rfl⟩
theorem d_X12_worthOf_14 : DC mX12_worthOf 14 (.imul) 1 15 := ⟨by decide +kernel, rfl⟩
theorem d_X12_worthOf_15 : DC mX12_worthOf 15 (.iadd) 1 16 := ⟨by decide +kernel, rfl⟩
theorem d_X12_worthOf_16 : DC mX12_worthOf 16 (.istore 5) 2 18 := ⟨by decide +kernel, rfl⟩
theorem d_X12_worthOf_18 : DC mX12_worthOf 18 (.sipush 966) 3 21 := ⟨by decide +kernel, rfl⟩
theorem d_X12_worthOf_21 : DC mX12_worthOf 21 (.iconst 3) 1 22 := ⟨by decide +kernel, rfl⟩
theorem d_X12_worthOf_22 : DC mX12_worthOf 22 (.iload_n 3) 1 23 := ⟨by decide +kernel, rfl⟩
theorem d_X12_worthOf_23 : DC mX12_worthOf 23 (.imul) 1 24 := ⟨by decide +kernel, rfl⟩
theorem d_X12_worthOf_24 : DC mX12_worthOf 24 (.iadd) 1 25 := ⟨by decide +kernel, rfl⟩
theorem d_X12_worthOf_25 : DC mX12_worthOf 25 (.istore 6) 2 27 := ⟨by decide +kernel, rfl⟩
theorem d_X12_worthOf_27 : DC mX12_worthOf 27 (.aload_n 0) 1 28 := ⟨by decide +kernel, rfl⟩
theorem d_X12_worthOf_28 : DC mX12_worthOf 28 (.getfield 20) 3 31 := ⟨by decide +kernel, rfl⟩
theorem d_X12_worthOf_31 : DC mX12_worthOf 31 (.iload 4) 2 33 := ⟨by decide +kernel, rfl⟩
theorem d_X12_worthOf_33 : DC mX12_worthOf 33 (.iaload) 1 34 := ⟨by decide +kernel, rfl⟩
theorem d_X12_worthOf_34 : DC mX12_worthOf 34 (.aload_n 0) 1 35 := ⟨by decide +kernel, rfl⟩
theorem d_X12_worthOf_35 : DC mX12_worthOf 35 (.getfield 20) 3 38 := ⟨by decide +kernel, rfl⟩
theorem d_X12_worthOf_38 : DC mX12_worthOf 38 (.iload 5) 2 40 := ⟨by decide +kernel, rfl⟩
theorem d_X12_worthOf_40 : DC mX12_worthOf 40 (.iconst 1) 1 41 := ⟨by decide +kernel, rfl⟩
theorem d_X12_worthOf_41 : DC mX12_worthOf 41 (.iadd) 1 42 := ⟨by decide +kernel, rfl⟩
theorem d_X12_worthOf_42 : DC mX12_worthOf 42 (.iaload) 1 43 := ⟨by decide +kernel, rfl⟩
theorem d_X12_worthOf_43 : DC mX12_worthOf 43 (.aload_n 0) 1 44 := ⟨by decide +kernel, rfl⟩
theorem d_X12_worthOf_44 : DC mX12_worthOf 44 (.getfield 20) 3 47 := ⟨by decide +kernel, rfl⟩
theorem d_X12_worthOf_47 : DC mX12_worthOf 47 (.iload 6) 2 49 := ⟨by decide +kernel, rfl⟩
theorem d_X12_worthOf_49 : DC mX12_worthOf 49 (.iconst 2) 1 50 := ⟨by decide +kernel, rfl⟩
theorem d_X12_worthOf_50 : DC mX12_worthOf 50 (.iadd) 1 51 := ⟨by decide +kernel, rfl⟩
theorem d_X12_worthOf_51 : DC mX12_worthOf 51 (.iaload) 1 52 := ⟨by decide +kernel, rfl⟩
theorem d_X12_worthOf_52 : DC mX12_worthOf 52 (.imul) 1 53 := ⟨by decide +kernel, rfl⟩
theorem d_X12_worthOf_53 : DC mX12_worthOf 53 (.aload_n 0) 1 54 := ⟨by decide +kernel, rfl⟩
theorem d_X12_worthOf_54 : DC mX12_worthOf 54 (.getfield 20) 3 57 := ⟨by decide +kernel, rfl⟩
theorem d_X12_worthOf_57 : DC mX12_worthOf 57 (.iload 5) 2 59 := ⟨by decide +kernel, rfl⟩
theorem d_X12_worthOf_59 : DC mX12_worthOf 59 (.iconst 2) 1 60 := ⟨by decide +kernel, rfl⟩
theorem d_X12_worthOf_60 : DC mX12_worthOf 60 (.iadd) 1 61 := ⟨by decide +kernel, rfl⟩
theorem d_X12_worthOf_61 : DC mX12_worthOf 61 (.iaload) 1 62 := ⟨by decide +kernel, rfl⟩
theorem d_X12_worthOf_62 : DC mX12_worthOf 62 (.aload_n 0) 1 63 := ⟨by decide +kernel, rfl⟩
theorem d_X12_worthOf_63 : DC mX12_worthOf 63 (.getfield 20) 3 66 := ⟨by decide +kernel, rfl⟩
theorem d_X12_worthOf_66 : DC mX12_worthOf 66 (.iload 6) 2 68 := ⟨by decide +kernel, rfl⟩
theorem d_X12_worthOf_68 : DC mX12_worthOf 68 (.iconst 1) 1 69 := ⟨by decide +kernel, rfl⟩
theorem d_X12_worthOf_69 : DC mX12_worthOf 69 (.iadd) 1 70 := ⟨by decide +kernel, rfl⟩
theorem d_X12_worthOf_70 : DC mX12_worthOf 70 (.iaload) 1 71 := ⟨by decide +kernel, rfl⟩
theorem d_X12_worthOf_71 : DC mX12_worthOf 71 (.imul) 1 72 := ⟨by decide +kernel, rfl⟩
theorem d_X12_worthOf_72 : DC mX12_worthOf 72 (.isub) 1 73 := ⟨by decide +kernel, rfl⟩
theorem d_X12_worthOf_73 : DC mX12_worthOf 73 (.imul) 1 74 := ⟨by decide +kernel, rfl⟩
theorem d_X12_worthOf_74 : DC mX12_worthOf 74 (.aload_n 0) 1 75 := ⟨by decide +kernel, rfl⟩
theorem d_X12_worthOf_75 : DC mX12_worthOf 75 (.getfield 20) 3 78 := ⟨by decide +kernel, rfl⟩
theorem d_X12_worthOf_78 : DC mX12_worthOf 78 (.iload 4) 2 80 := ⟨by decide +kernel, rfl⟩
theorem d_X12_worthOf_80 : DC mX12_worthOf 80 (.iconst 1) 1 81 := ⟨by decide +kernel, rfl⟩
theorem d_X12_worthOf_81 : DC mX12_worthOf 81 (.iadd) 1 82 := ⟨by decide +kernel, rfl⟩
theorem d_X12_worthOf_82 : DC mX12_worthOf 82 (.iaload) 1 83 := ⟨by decide +kernel, rfl⟩
theorem d_X12_worthOf_83 : DC mX12_worthOf 83 (.aload_n 0) 1 84 := ⟨by decide +kernel, rfl⟩
theorem d_X12_worthOf_84 : DC mX12_worthOf 84 (.getfield 20) 3 87 := ⟨by decide +kernel, rfl⟩
theorem d_X12_worthOf_87 : DC mX12_worthOf 87 (.iload 5) 2 89 := ⟨by decide +kernel, rfl⟩
theorem d_X12_worthOf_89 : DC mX12_worthOf 89 (.iaload) 1 90 := ⟨by decide +kernel, rfl⟩
theorem d_X12_worthOf_90 : DC mX12_worthOf 90 (.aload_n 0) 1 91 := ⟨by decide +kernel, rfl⟩
theorem d_X12_worthOf_91 : DC mX12_worthOf 91 (.getfield 20) 3 94 := ⟨by decide +kernel, rfl⟩
theorem d_X12_worthOf_94 : DC mX12_worthOf 94 (.iload 6) 2 96 := ⟨by decide +kernel, rfl⟩
theorem d_X12_worthOf_96 : DC mX12_worthOf 96 (.iconst 2) 1 97 := ⟨by decide +kernel, rfl⟩
theorem d_X12_worthOf_97 : DC mX12_worthOf 97 (.iadd) 1 98 := ⟨by decide +kernel, rfl⟩
theorem d_X12_worthOf_98 : DC mX12_worthOf 98 (.iaload) 1 99 := ⟨by decide +kernel, rfl⟩
theorem d_X12_worthOf_99 : DC mX12_worthOf 99 (.imul) 1 100 := ⟨by decide +kernel, rfl⟩
theorem d_X12_worthOf_100 : DC mX12_worthOf 100 (.aload_n 0) 1 101 := ⟨by decide +kernel, rfl⟩
theorem d_X12_worthOf_101 : DC mX12_worthOf 101 (.getfield 20) 3 104 := ⟨by decide +kernel, rfl⟩
theorem d_X12_worthOf_104 : DC mX12_worthOf 104 (.iload 5) 2 106 := ⟨by decide +kernel, rfl⟩
theorem d_X12_worthOf_106 : DC mX12_worthOf 106 (.iconst 2) 1 107 := ⟨by decide +kernel, rfl⟩
theorem d_X12_worthOf_107 : DC mX12_worthOf 107 (.iadd) 1 108 := ⟨by decide +kernel, rfl⟩
theorem d_X12_worthOf_108 : DC mX12_worthOf 108 (.iaload) 1 109 := ⟨by decide +kernel, rfl⟩
theorem d_X12_worthOf_109 : DC mX12_worthOf 109 (.aload_n 0) 1 110 := ⟨by decide +kernel, rfl⟩
theorem d_X12_worthOf_110 : DC mX12_worthOf 110 (.getfield 20) 3 113 := ⟨by decide +kernel, rfl⟩
theorem d_X12_worthOf_113 : DC mX12_worthOf 113 (.iload 6) 2 115 := ⟨by decide +kernel, rfl⟩
theorem d_X12_worthOf_115 : DC mX12_worthOf 115 (.iaload) 1 116 := ⟨by decide +kernel, rfl⟩
theorem d_X12_worthOf_116 : DC mX12_worthOf 116 (.imul) 1 117 := ⟨by decide +kernel, rfl⟩
theorem d_X12_worthOf_117 : DC mX12_worthOf 117 (.isub) 1 118 := ⟨by decide +kernel, rfl⟩
theorem d_X12_worthOf_118 : DC mX12_worthOf 118 (.imul) 1 119 := ⟨by decide +kernel, rfl⟩
theorem d_X12_worthOf_119 : DC mX12_worthOf 119 (.isub) 1 120 := ⟨by decide +kernel, rfl⟩
theorem d_X12_worthOf_120 : DC mX12_worthOf 120 (.aload_n 0) 1 121 := ⟨by decide +kernel, rfl⟩
theorem d_X12_worthOf_121 : DC mX12_worthOf 121 (.getfield 20) 3 124 := ⟨by decide +kernel, rfl⟩
theorem d_X12_worthOf_124 : DC mX12_worthOf 124 (.iload 4) 2 126 := ⟨by decide +kernel, rfl⟩
theorem d_X12_worthOf_126 : DC mX12_worthOf 126 (.iconst 2) 1 127 := ⟨by decide +kernel, rfl⟩
theorem d_X12_worthOf_127 : DC mX12_worthOf 127 (.iadd) 1 128 := ⟨by decide +kernel, rfl⟩
theorem d_X12_worthOf_128 : DC mX12_worthOf 128 (.iaload) 1 129 := ⟨by decide +kernel, rfl⟩
theorem d_X12_worthOf_129 : DC mX12_worthOf 129 (.aload_n 0) 1 130 := ⟨by decide +kernel, rfl⟩
theorem d_X12_worthOf_130 : DC mX12_worthOf 130 (.getfield 20) 3 133 := ⟨by decide +kernel, rfl⟩
theorem d_X12_worthOf_133 : DC mX12_worthOf 133 (.iload 5) 2 135 := ⟨by decide +kernel, rfl⟩
theorem d_X12_worthOf_135 : DC mX12_worthOf 135 (.iaload) 1 136 := ⟨by decide +kernel, rfl⟩
theorem d_X12_worthOf_136 : DC mX12_worthOf 136 (.aload_n 0) 1 137 := ⟨by decide +kernel, rfl⟩
theorem d_X12_worthOf_137 : DC mX12_worthOf 137 (.getfield 20) 3 140 := ⟨by decide +kernel, rfl⟩
theorem d_X12_worthOf_140 : DC mX12_worthOf 140 (.iload 6) 2 142 := ⟨by decide +kernel, rfl⟩
theorem d_X12_worthOf_142 : DC mX12_worthOf 142 (.iconst 1) 1 143 := ⟨by decide +kernel, rfl⟩
theorem d_X12_worthOf_143 : DC mX12_worthOf 143 (.iadd) 1 144 := ⟨by decide +kernel, rfl⟩
theorem d_X12_worthOf_144 : DC mX12_worthOf 144 (.iaload) 1 145 := ⟨by decide +kernel, rfl⟩
theorem d_X12_worthOf_145 : DC mX12_worthOf 145 (.imul) 1 146 := ⟨by decide +kernel, rfl⟩
theorem d_X12_worthOf_146 : DC mX12_worthOf 146 (.aload_n 0) 1 147 := ⟨by decide +kernel, rfl⟩
theorem d_X12_worthOf_147 : DC mX12_worthOf 147 (.getfield 20) 3 150 := ⟨by decide +kernel, rfl⟩
theorem d_X12_worthOf_150 : DC mX12_worthOf 150 (.iload 5) 2 152 := ⟨by decide +kernel, rfl⟩
theorem d_X12_worthOf_152 : DC mX12_worthOf 152 (.iconst 1) 1 153 := ⟨by decide +kernel, rfl⟩
theorem d_X12_worthOf_153 : DC mX12_worthOf 153 (.iadd) 1 154 := ⟨by decide +kernel, rfl⟩
theorem d_X12_worthOf_154 : DC mX12_worthOf 154 (.iaload) 1 155 := ⟨by decide +kernel, rfl⟩
theorem d_X12_worthOf_155 : DC mX12_worthOf 155 (.aload_n 0) 1 156 := ⟨by decide +kernel, rfl⟩
theorem d_X12_worthOf_156 : DC mX12_worthOf 156 (.getfield 20) 3 159 := ⟨by decide +kernel, rfl⟩
theorem d_X12_worthOf_159 : DC mX12_worthOf 159 (.iload 6) 2 161 := ⟨by decide +kernel, rfl⟩
theorem d_X12_worthOf_161 : DC mX12_worthOf 161 (.iaload) 1 162 := ⟨by decide +kernel, rfl⟩
theorem d_X12_worthOf_162 : DC mX12_worthOf 162 (.imul) 1 163 := ⟨by decide +kernel, rfl⟩
theorem d_X12_worthOf_163 : DC mX12_worthOf 163 (.isub) 1 164 := ⟨by decide +kernel, rfl⟩
theorem d_X12_worthOf_164 : DC mX12_worthOf 164 (.imul) 1 165 := ⟨by decide +kernel, rfl⟩
theorem d_X12_worthOf_165 : DC mX12_worthOf 165 (.iadd) 1 166 := ⟨by decide +kernel, rfl⟩
theorem d_X12_worthOf_166 : DC mX12_worthOf 166 (.ireturn) 1 167 := ⟨by decide +kernel, rfl⟩
theorem d_X12_worth_0 : DC mX12_worth 0 (.aload_n 0) 1 1 := ⟨by decide +kernel, rfl⟩
theorem d_X12_worth_1 : DC mX12_worth 1 (.iconst 0) 1 2 := ⟨by decide +kernel, rfl⟩
theorem d_X12_worth_2 : DC mX12_worth 2 (.putfield 1) 3 5 := ⟨by decide +kernel, rfl⟩
theorem d_X12_worth_5 : DC mX12_worth 5 (.iload_n 1) 1 6 := ⟨by decide +kernel, rfl⟩
theorem d_X12_worth_6 : DC mX12_worth 6 (.invokestatic 208) 3 9 := ⟨by decide +kernel, rfl⟩
theorem d_X12_worth_9 : DC mX12_worth 9 (.ifCond .eq 27) 3 12 := ⟨by decide +kernel, rfl⟩
theorem d_X12_worth_12 : DC mX12_worth 12 (.iload_n 2) 1 13 := ⟨by decide +kernel, rfl⟩
theorem d_X12_worth_13 : DC mX12_worth 13 (.invokestatic 208) 3 16 := ⟨by decide +kernel, rfl⟩
theorem d_X12_worth_16 : DC mX12_worth 16 (.ifCond .eq 20) 3 19 := ⟨by decide +kernel, rfl⟩
theorem d_X12_worth_19 : DC mX12_worth 19 (.iload_n 3) 1 20 := ⟨by decide +kernel, rfl⟩
theorem d_X12_worth_20 : DC mX12_worth 20 (.invokestatic 208) 3 23 := ⟨by decide +kernel, rfl⟩
theorem d_X12_worth_23 : DC mX12_worth 23 (.ifCond .eq 13) 3 26 := ⟨by decide +kernel, rfl⟩
theorem d_X12_worth_26 : DC mX12_worth 26 (.aload_n 0) 1 27 := ⟨by decide +kernel, rfl⟩
theorem d_X12_worth_27 : DC mX12_worth 27 (.iload_n 1) 1 28 := ⟨by decide +kernel, rfl⟩
theorem d_X12_worth_28 : DC mX12_worth 28 (.iload_n 2) 1 29 := ⟨by decide +kernel, rfl⟩
theorem d_X12_worth_29 : DC mX12_worth 29 (.iload_n 3) 1 30 := ⟨by decide +kernel, rfl⟩
theorem d_X12_worth_30 : DC mX12_worth 30 (.invokevirtual 412) 3 33 := ⟨by decide +kernel, rfl⟩
theorem d_X12_worth_33 : DC mX12_worth 33 (.goto 6) 3 36 := ⟨by decide +kernel, rfl⟩
theorem d_X12_worth_36 : DC mX12_worth 36 (.ldc_w 334) 3 39 := ⟨by decide +kernel, rfl⟩
theorem d_X12_worth_39 : DC mX12_worth 39 (.ireturn) 1 40 := ⟨by decide +kernel, rfl⟩
theorem d_X12_worthOfRank_0 : DC mX12_worthOfRank 0 (.aload_n 0) 1 1 := ⟨by decide +kernel, rfl⟩
theorem d_X12_worthOfRank_1 : DC mX12_worthOfRank 1 (.aload_n 0) 1 2 := ⟨by decide +kernel, rfl⟩
theorem d_X12_worthOfRank_2 : DC mX12_worthOfRank 2 (.getfield 17) 3 5 := ⟨by decide +kernel, rfl⟩
theorem d_X12_worthOfRank_5 : DC mX12_worthOfRank 5 (.iconst 3) 1 6 := ⟨by decide +kernel, rfl⟩
theorem d_X12_worthOfRank_6 : DC mX12_worthOfRank 6 (.iload_n 1) 1 7 := ⟨by decide +kernel, rfl⟩
theorem d_X12_worthOfRank_7 : DC mX12_worthOfRank 7 (.imul) 1 8 := ⟨by decide +kernel, rfl⟩
theorem d_X12_worthOfRank_8 : DC mX12_worthOfRank 8 (.iaload) 1 9 := ⟨by decide +kernel, rfl⟩
theorem d_X12_worthOfRank_9 : DC mX12_worthOfRank 9 (.aload_n 0) 1 10 := ⟨by decide +kernel, rfl⟩
theorem d_X12_worthOfRank_10 : DC mX12_worthOfRank 10 (.getfield 17) 3 13 := ⟨by decide +kernel, rfl⟩
theorem d_X12_worthOfRank_13 : DC mX12_worthOfRank 13 (.iconst 3) 1 14 := ⟨by decide +kernel, rfl⟩
theorem d_X12_worthOfRank_14 : DC mX12_worthOfRank 14 (.iload_n 1) 1 15 := ⟨by decide +kernel, rfl⟩
theorem d_X12_worthOfRank_15 : DC mX12_worthOfRank 15 (.imul) 1 16 := ⟨by decide +kernel, rfl⟩
theorem d_X12_worthOfRank_16 : DC mX12_worthOfRank 16 (.iconst 1) 1 17 := ⟨by decide +kernel, rfl⟩
theorem d_X12_worthOfRank_17 : DC mX12_worthOfRank 17 (.iadd) 1 18 := ⟨by decide +kernel, rfl⟩
theorem d_X12_worthOfRank_18 : DC mX12_worthOfRank 18 (.iaload) 1 19 := ⟨by decide +kernel, rfl⟩
theorem d_X12_worthOfRank_19 : DC mX12_worthOfRank 19 (.aload_n 0) 1 20 := ⟨by decide +kernel, rfl⟩
theorem d_X12_worthOfRank_20 : DC mX12_worthOfRank 20 (.getfield 17) 3 23 := ⟨by decide +kernel, rfl⟩
theorem d_X12_worthOfRank_23 : DC mX12_worthOfRank 23 (.iconst 3) 1 24 := ⟨by decide +kernel, rfl⟩
theorem d_X12_worthOfRank_24 : DC mX12_worthOfRank 24 (.iload_n 1) 1 25 := ⟨by decide +kernel, rfl⟩
theorem d_X12_worthOfRank_25 : DC mX12_worthOfRank 25 (.imul) 1 26 := ⟨by decide +kernel, rfl⟩
theorem d_X12_worthOfRank_26 : DC mX12_worthOfRank 26 (.iconst 2) 1 27 := ⟨by decide +kernel, rfl⟩
theorem d_X12_worthOfRank_27 : DC mX12_worthOfRank 27 (.iadd) 1 28 := ⟨by decide +kernel, rfl⟩
theorem d_X12_worthOfRank_28 : DC mX12_worthOfRank 28 (.iaload) 1 29 := ⟨by decide +kernel, rfl⟩
theorem d_X12_worthOfRank_29 : DC mX12_worthOfRank 29 (.invokevirtual 412) 3 32 := ⟨by decide +kernel, rfl⟩
theorem d_X12_worthOfRank_32 : DC mX12_worthOfRank 32 (.ireturn) 1 33 := ⟨by decide +kernel, rfl⟩
theorem d_X12_fits_0 : DC mX12_fits 0 (.lload_n 0) 1 1 := ⟨by decide +kernel, rfl⟩
theorem d_X12_fits_1 : DC mX12_fits 1 (.lconst 0) 1 2 := ⟨by decide +kernel, rfl⟩
theorem d_X12_fits_2 : DC mX12_fits 2 (.lcmp) 1 3 := ⟨by decide +kernel, rfl⟩
theorem d_X12_fits_3 : DC mX12_fits 3 (.ifCond .eq 9) 3 6 := ⟨by decide +kernel, rfl⟩
theorem d_X12_fits_6 : DC mX12_fits 6 (.lload_n 2) 1 7 := ⟨by decide +kernel, rfl⟩
theorem d_X12_fits_7 : DC mX12_fits 7 (.lconst 0) 1 8 := ⟨by decide +kernel, rfl⟩
theorem d_X12_fits_8 : DC mX12_fits 8 (.lcmp) 1 9 := ⟨by decide +kernel, rfl⟩
theorem d_X12_fits_9 : DC mX12_fits 9 (.ifCond .ne 5) 3 12 := ⟨by decide +kernel, rfl⟩
theorem d_X12_fits_12 : DC mX12_fits 12 (.iconst 1) 1 13 := ⟨by decide +kernel, rfl⟩
theorem d_X12_fits_13 : DC mX12_fits 13 (.ireturn) 1 14 := ⟨by decide +kernel, rfl⟩
theorem d_X12_fits_14 : DC mX12_fits 14 (.lload_n 0) 1 15 := ⟨by decide +kernel, rfl⟩
theorem d_X12_fits_15 : DC mX12_fits 15 (.ldc2_w 416) 3 18 := ⟨by decide +kernel, rfl⟩
theorem d_X12_fits_18 : DC mX12_fits 18 (.lcmp) 1 19 := ⟨by decide +kernel, rfl⟩
theorem d_X12_fits_19 : DC mX12_fits 19 (.ifCond .ne 15) 3 22 := ⟨by decide +kernel, rfl⟩
theorem d_X12_fits_22 : DC mX12_fits 22 (.lload_n 2) 1 23 := ⟨by decide +kernel, rfl⟩
theorem d_X12_fits_23 : DC mX12_fits 23 (.lconst 1) 1 24 := ⟨by decide +kernel, rfl⟩
theorem d_X12_fits_24 : DC mX12_fits 24 (.lcmp) 1 25 := ⟨by decide +kernel, rfl⟩
theorem d_X12_fits_25 : DC mX12_fits 25 (.ifCond .ne 7) 3 28 := ⟨by decide +kernel, rfl⟩
theorem d_X12_fits_28 : DC mX12_fits 28 (.iconst 1) 1 29 := ⟨by decide +kernel, rfl⟩
theorem d_X12_fits_29 : DC mX12_fits 29 (.goto 4) 3 32 := ⟨by decide +kernel, rfl⟩
theorem d_X12_fits_32 : DC mX12_fits 32 (.iconst 0) 1 33 := ⟨by decide +kernel, rfl⟩
theorem d_X12_fits_33 : DC mX12_fits 33 (.ireturn) 1 34 := ⟨by decide +kernel, rfl⟩
theorem d_X12_fits_34 : DC mX12_fits 34 (.lload_n 0) 1 35 := ⟨by decide +kernel, rfl⟩
theorem d_X12_fits_35 : DC mX12_fits 35 (.lload_n 2) 1 36 := ⟨by decide +kernel, rfl⟩
theorem d_X12_fits_36 : DC mX12_fits 36 (.lmul) 1 37 := ⟨by decide +kernel, rfl⟩
theorem d_X12_fits_37 : DC mX12_fits 37 (.lload_n 2) 1 38 := ⟨by decide +kernel, rfl⟩
theorem d_X12_fits_38 : DC mX12_fits 38 (.ldiv) 1 39 := ⟨by decide +kernel, rfl⟩
theorem d_X12_fits_39 : DC mX12_fits 39 (.lload_n 0) 1 40 := ⟨by decide +kernel, rfl⟩
theorem d_X12_fits_40 : DC mX12_fits 40 (.lcmp) 1 41 := ⟨by decide +kernel, rfl⟩
theorem d_X12_fits_41 : DC mX12_fits 41 (.ifCond .ne 7) 3 44 := ⟨by decide +kernel, rfl⟩
theorem d_X12_fits_44 : DC mX12_fits 44 (.iconst 1) 1 45 := ⟨by decide +kernel, rfl⟩
theorem d_X12_fits_45 : DC mX12_fits 45 (.goto 4) 3 48 := ⟨by decide +kernel, rfl⟩
theorem d_X12_fits_48 : DC mX12_fits 48 (.iconst 0) 1 49 := ⟨by decide +kernel, rfl⟩
theorem d_X12_fits_49 : DC mX12_fits 49 (.ireturn) 1 50 := ⟨by decide +kernel, rfl⟩
theorem d_X12_value_0 : DC mX12_value 0 (.aload_n 0) 1 1 := ⟨by decide +kernel, rfl⟩
theorem d_X12_value_1 : DC mX12_value 1 (.iconst 0) 1 2 := ⟨by decide +kernel, rfl⟩
theorem d_X12_value_2 : DC mX12_value 2 (.putfield 1) 3 5 := ⟨by decide +kernel, rfl⟩
theorem d_X12_value_5 : DC mX12_value 5 (.iload_n 1) 1 6 := ⟨by decide +kernel, rfl⟩
theorem d_X12_value_6 : DC mX12_value 6 (.invokestatic 199) 3 9 := ⟨by decide +kernel, rfl⟩
theorem d_X12_value_9 : DC mX12_value 9 (.ifCond .ne 7) 3 12 := ⟨by decide +kernel, rfl⟩
theorem d_X12_value_12 : DC mX12_value 12 (.ldc2_w 416) 3 15 := ⟨by decide +kernel, rfl⟩
theorem d_X12_value_15 : DC mX12_value 15 (.lreturn) 1 16 := ⟨by decide +kernel, rfl⟩
theorem d_X12_value_16 : DC mX12_value 16 (.lconst 0) 1 17 := ⟨by decide +kernel, rfl⟩
theorem d_X12_value_17 : DC mX12_value 17 (.lstore_n 2) 1 18 := ⟨by decide +kernel, rfl⟩
theorem d_X12_value_18 : DC mX12_value 18 (.iconst 0) 1 19 := ⟨by decide +kernel, rfl⟩
theorem d_X12_value_19 : DC mX12_value 19 (.istore 4) 2 21 := ⟨by decide +kernel, rfl⟩
theorem d_X12_value_21 : DC mX12_value 21 (.iload 4) 2 23 := ⟨by decide +kernel, rfl⟩
theorem d_X12_value_23 : DC mX12_value 23 (.aload_n 0) 1 24 := ⟨by decide +kernel, rfl⟩
theorem d_X12_value_24 : DC mX12_value 24 (.getfield 20) 3 27 := ⟨by decide +kernel, rfl⟩
theorem d_X12_value_27 : DC mX12_value 27 (.sipush 161) 3 30 := ⟨by decide +kernel, rfl⟩
theorem d_X12_value_30 : DC mX12_value 30 (.iload_n 1) 1 31 := ⟨by decide +kernel, rfl⟩
theorem d_X12_value_31 : DC mX12_value 31 (.imul) 1 32 := ⟨by decide +kernel, rfl⟩
theorem d_X12_value_32 : DC mX12_value 32 (.iaload) 1 33 := ⟨by decide +kernel, rfl⟩
theorem d_X12_value_33 : DC mX12_value 33 (.if_icmp .ge 132) 3 36 := ⟨by decide +kernel, rfl⟩
theorem d_X12_value_36 : DC mX12_value 36 (.aload_n 0) 1 37 := ⟨by decide +kernel, rfl⟩
theorem d_X12_value_37 : DC mX12_value 37 (.getfield 20) 3 40 := ⟨by decide +kernel, rfl⟩
theorem d_X12_value_40 : DC mX12_value 40 (.iload_n 1) 1 41 := ⟨by decide +kernel, rfl⟩
theorem d_X12_value_41 : DC mX12_value 41 (.iload 4) 2 43 := ⟨by decide +kernel, rfl⟩
theorem d_X12_value_43 : DC mX12_value 43 (.invokestatic 339) 3 46 := ⟨by decide +kernel, rfl⟩
theorem d_X12_value_46 : DC mX12_value 46 (.istore 5) 2 48 := ⟨by decide +kernel, rfl⟩
theorem d_X12_value_48 : DC mX12_value 48 (.aload_n 0) 1 49 := ⟨by decide +kernel, rfl⟩
theorem d_X12_value_49 : DC mX12_value 49 (.getfield 20) 3 52 := ⟨by decide +kernel, rfl⟩
theorem d_X12_value_52 : DC mX12_value 52 (.sipush 161) 3 55 := ⟨by decide +kernel, rfl⟩
theorem d_X12_value_55 : DC mX12_value 55 (.iload_n 1) 1 56 := ⟨by decide +kernel, rfl⟩
theorem d_X12_value_56 : DC mX12_value 56 (.imul) 1 57 := ⟨by decide +kernel, rfl⟩
theorem d_X12_value_57 : DC mX12_value 57 (.iconst 2) 1 58 := ⟨by decide +kernel, rfl⟩
theorem d_X12_value_58 : DC mX12_value 58 (.iadd) 1 59 := ⟨by decide +kernel, rfl⟩
theorem d_X12_value_59 : DC mX12_value 59 (.iconst 2) 1 60 := ⟨by decide +kernel, rfl⟩
theorem d_X12_value_60 : DC mX12_value 60 (.iload 4) 2 62 := ⟨by decide +kernel, rfl⟩
theorem d_X12_value_62 : DC mX12_value 62 (.imul) 1 63 := ⟨by decide +kernel, rfl⟩
theorem d_X12_value_63 : DC mX12_value 63 (.iadd) 1 64 := ⟨by decide +kernel, rfl⟩
theorem d_X12_value_64 : DC mX12_value 64 (.iaload) 1 65 := ⟨by decide +kernel, rfl⟩
theorem d_X12_value_65 : DC mX12_value 65 (.i2l) 1 66 := ⟨by decide +kernel, rfl⟩
theorem d_X12_value_66 : DC mX12_value 66 (.lstore 6) 2 68 := ⟨by decide +kernel, rfl⟩
theorem d_X12_value_68 : DC mX12_value 68 (.iconst 0) 1 69 := ⟨by decide +kernel, rfl⟩
theorem d_X12_value_69 : DC mX12_value 69 (.istore 8) 2 71 := ⟨by decide +kernel, rfl⟩
theorem d_X12_value_71 : DC mX12_value 71 (.iload 8) 2 73 := ⟨by decide +kernel, rfl⟩
theorem d_X12_value_73 : DC mX12_value 73 (.iload 5) 2 75 := ⟨by decide +kernel, rfl⟩
theorem d_X12_value_75 : DC mX12_value 75 (.invokestatic 138) 3 78 := ⟨by decide +kernel, rfl⟩
theorem d_X12_value_78 : DC mX12_value 78 (.if_icmp .ge 44) 3 81 := ⟨by decide +kernel, rfl⟩
theorem d_X12_value_81 : DC mX12_value 81 (.aload_n 0) 1 82 := ⟨by decide +kernel, rfl⟩
theorem d_X12_value_82 : DC mX12_value 82 (.iload 5) 2 84 := ⟨by decide +kernel, rfl⟩
theorem d_X12_value_84 : DC mX12_value 84 (.iload 8) 2 86 := ⟨by decide +kernel, rfl⟩
theorem d_X12_value_86 : DC mX12_value 86 (.invokestatic 135) 3 89 := ⟨by decide +kernel, rfl⟩
theorem d_X12_value_89 : DC mX12_value 89 (.invokevirtual 418) 3 92 := ⟨by decide +kernel, rfl⟩
theorem d_X12_value_92 : DC mX12_value 92 (.i2l) 1 93 := ⟨by decide +kernel, rfl⟩
theorem d_X12_value_93 : DC mX12_value 93 (.lstore 9) 2 95 := ⟨by decide +kernel, rfl⟩
theorem d_X12_value_95 : DC mX12_value 95 (.lload 6) 2 97 := ⟨by decide +kernel, rfl⟩
theorem d_X12_value_97 : DC mX12_value 97 (.lload 9) 2 99 := ⟨by decide +kernel, rfl⟩
theorem d_X12_value_99 : DC mX12_value 99 (.invokestatic 421) 3 102 := ⟨by decide +kernel, rfl⟩
theorem d_X12_value_102 : DC mX12_value 102 (.ifCond .ne 7) 3 105 := ⟨by decide +kernel, rfl⟩
theorem d_X12_value_105 : DC mX12_value 105 (.ldc2_w 416) 3 108 := ⟨by decide +kernel, rfl⟩
theorem d_X12_value_108 : DC mX12_value 108 (.lreturn) 1 109 := ⟨by decide +kernel, rfl⟩
theorem d_X12_value_109 : DC mX12_value 109 (.lload 6) 2 111 := ⟨by decide +kernel, rfl⟩
theorem d_X12_value_111 : DC mX12_value 111 (.lload 9) 2 113 := ⟨by decide +kernel, rfl⟩
theorem d_X12_value_113 : DC mX12_value 113 (.lmul) 1 114 := ⟨by decide +kernel, rfl⟩
theorem d_X12_value_114 : DC mX12_value 114 (.lstore 6) 2 116 := ⟨by decide +kernel, rfl⟩
theorem d_X12_value_116 : DC mX12_value 116 (.iinc 8 1) 3 119 := ⟨by decide +kernel, rfl⟩
theorem d_X12_value_119 : DC mX12_value 119 (.goto (-48)) 3 122 := ⟨by decide +kernel, rfl⟩
theorem d_X12_value_122 : DC mX12_value 122 (.lload_n 2) 1 123 := ⟨by decide +kernel, rfl⟩
theorem d_X12_value_123 : DC mX12_value 123 (.lload 6) 2 125 := ⟨by decide +kernel, rfl⟩
theorem d_X12_value_125 : DC mX12_value 125 (.ladd) 1 126 := ⟨by decide +kernel, rfl⟩
theorem d_X12_value_126 : DC mX12_value 126 (.lstore 8) 2 128 := ⟨by decide +kernel, rfl⟩
theorem d_X12_value_128 : DC mX12_value 128 (.lload 6) 2 130 := ⟨by decide +kernel, rfl⟩
theorem d_X12_value_130 : DC mX12_value 130 (.lconst 0) 1 131 := ⟨by decide +kernel, rfl⟩
theorem d_X12_value_131 : DC mX12_value 131 (.lcmp) 1 132 := ⟨by decide +kernel, rfl⟩
theorem d_X12_value_132 : DC mX12_value 132 (.ifCond .le 13) 3 135 := ⟨by decide +kernel, rfl⟩
theorem d_X12_value_135 : DC mX12_value 135 (.lload 8) 2 137 := ⟨by decide +kernel, rfl⟩
theorem d_X12_value_137 : DC mX12_value 137 (.lload_n 2) 1 138 := ⟨by decide +kernel, rfl⟩
theorem d_X12_value_138 : DC mX12_value 138 (.lcmp) 1 139 := ⟨by decide +kernel, rfl⟩
theorem d_X12_value_139 : DC mX12_value 139 (.ifCond .ge 17) 3 142 := ⟨by decide +kernel, rfl⟩
theorem d_X12_value_142 : DC mX12_value 142 (.goto 10) 3 145 := ⟨by decide +kernel, rfl⟩
theorem d_X12_value_145 : DC mX12_value 145 (.lload 8) 2 147 := ⟨by decide +kernel, rfl⟩
theorem d_X12_value_147 : DC mX12_value 147 (.lload_n 2) 1 148 := ⟨by decide +kernel, rfl⟩
theorem d_X12_value_148 : DC mX12_value 148 (.lcmp) 1 149 := ⟨by decide +kernel, rfl⟩
theorem d_X12_value_149 : DC mX12_value 149 (.ifCond .le 7) 3 152 := ⟨by decide +kernel, rfl⟩
theorem d_X12_value_152 : DC mX12_value 152 (.ldc2_w 416) 3 155 := ⟨by decide +kernel, rfl⟩
theorem d_X12_value_155 : DC mX12_value 155 (.lreturn) 1 156 := ⟨by decide +kernel, rfl⟩
theorem d_X12_value_156 : DC mX12_value 156 (.lload 8) 2 158 := ⟨by decide +kernel, rfl⟩
theorem d_X12_value_158 : DC mX12_value 158 (.lstore_n 2) 1 159 := ⟨by decide +kernel, rfl⟩
theorem d_X12_value_159 : DC mX12_value 159 (.iinc 4 1) 3 162 := ⟨by decide +kernel, rfl⟩
theorem d_X12_value_162 : DC mX12_value 162 (.goto (-141)) 3 165 := ⟨by decide +kernel, rfl⟩
theorem d_X12_value_165 : DC mX12_value 165 (.lload_n 2) 1 166 := ⟨by decide +kernel, rfl⟩
theorem d_X12_value_166 : DC mX12_value 166 (.lreturn) 1 167 := ⟨by decide +kernel, rfl⟩
theorem d_X12_undo_0 : DC mX12_undo 0 (.aload_n 0) 1 1 := ⟨by decide +kernel, rfl⟩
theorem d_X12_undo_1 : DC mX12_undo 1 (.iconst 0) 1 2 := ⟨by decide +kernel, rfl⟩
theorem d_X12_undo_2 : DC mX12_undo 2 (.putfield 1) 3 5 := ⟨by decide +kernel, rfl⟩
theorem d_X12_undo_5 : DC mX12_undo 5 (.iload_n 1) 1 6 := ⟨by decide +kernel, rfl⟩
theorem d_X12_undo_6 : DC mX12_undo 6 (.i2l) 1 7 := ⟨by decide +kernel, rfl⟩
theorem d_X12_undo_7 : DC mX12_undo 7 (.lconst 1) 1 8 := ⟨by decide +kernel, rfl⟩
theorem d_X12_undo_8 : DC mX12_undo 8 (.ldc2_w 335) 3 11 := ⟨by decide +kernel, rfl⟩
theorem d_X12_undo_11 : DC mX12_undo 11 (.invokestatic 91) 3 14 := ⟨by decide +kernel, rfl⟩
theorem d_X12_undo_14 : DC mX12_undo 14 (.ifCond .eq 11) 3 17 := ⟨by decide +kernel, rfl⟩
theorem d_X12_undo_17 : DC mX12_undo 17 (.iload_n 1) 1 18 := ⟨by decide +kernel, rfl⟩
theorem d_X12_undo_18 : DC mX12_undo 18 (.aload_n 0) 1 19 := ⟨by decide +kernel, rfl⟩
theorem d_X12_undo_19 : DC mX12_undo 19 (.getfield 95) 3 22 := ⟨by decide +kernel, rfl⟩
theorem d_X12_undo_22 : DC mX12_undo 22 (.if_icmp .le 6) 3 25 := ⟨by decide +kernel, rfl⟩
theorem d_X12_undo_25 : DC mX12_undo 25 (.bipush (-3)) 2 27 := ⟨by decide +kernel, rfl⟩
theorem d_X12_undo_27 : DC mX12_undo 27 (.ireturn) 1 28 := ⟨by decide +kernel, rfl⟩
theorem d_X12_undo_28 : DC mX12_undo 28 (.aload_n 0) 1 29 := ⟨by decide +kernel, rfl⟩
theorem d_X12_undo_29 : DC mX12_undo 29 (.dup) 1 30 := ⟨by decide +kernel, rfl⟩
theorem d_X12_undo_30 : DC mX12_undo 30 (.getfield 95) 3 33 := ⟨by decide +kernel, rfl⟩
theorem d_X12_undo_33 : DC mX12_undo 33 (.iload_n 1) 1 34 := ⟨by decide +kernel, rfl⟩
theorem d_X12_undo_34 : DC mX12_undo 34 (.isub) 1 35 := ⟨by decide +kernel, rfl⟩
theorem d_X12_undo_35 : DC mX12_undo 35 (.putfield 95) 3 38 := ⟨by decide +kernel, rfl⟩
theorem d_X12_undo_38 : DC mX12_undo 38 (.aload_n 0) 1 39 := ⟨by decide +kernel, rfl⟩
theorem d_X12_undo_39 : DC mX12_undo 39 (.getfield 23) 3 42 := ⟨by decide +kernel, rfl⟩
theorem d_X12_undo_42 : DC mX12_undo 42 (.sipush 1116) 3 45 := ⟨by decide +kernel, rfl⟩
theorem d_X12_undo_45 : DC mX12_undo 45 (.aload_n 0) 1 46 := ⟨by decide +kernel, rfl⟩
theorem d_X12_undo_46 : DC mX12_undo 46 (.getfield 95) 3 49 := ⟨by decide +kernel, rfl⟩
theorem d_X12_undo_49 : DC mX12_undo 49 (.imul) 1 50 := ⟨by decide +kernel, rfl⟩
theorem d_X12_undo_50 : DC mX12_undo 50 (.aload_n 0) 1 51 := ⟨by decide +kernel, rfl⟩
theorem d_X12_undo_51 : DC mX12_undo 51 (.getfield 20) 3 54 := ⟨by decide +kernel, rfl⟩
theorem d_X12_undo_54 : DC mX12_undo 54 (.iconst 0) 1 55 := ⟨by decide +kernel, rfl⟩
theorem d_X12_undo_55 : DC mX12_undo 55 (.sipush 1116) 3 58 := ⟨by decide +kernel, rfl⟩
theorem d_X12_undo_58 : DC mX12_undo 58 (.invokestatic 98) 3 61 := ⟨by decide +kernel, rfl⟩
theorem d_X12_undo_61 : DC mX12_undo 61 (.aload_n 0) 1 62 := ⟨by decide +kernel, rfl⟩
theorem d_X12_undo_62 : DC mX12_undo 62 (.getfield 95) 3 65 := ⟨by decide +kernel, rfl⟩
theorem d_X12_undo_65 : DC mX12_undo 65 (.ireturn) 1 66 := ⟨by decide +kernel, rfl⟩
theorem d_X12_image_0 : DC mX12_image 0 (.aload_n 0) 1 1 := ⟨by decide +kernel, rfl⟩
theorem d_X12_image_1 : DC mX12_image 1 (.iconst 0) 1 2 := ⟨by decide +kernel, rfl⟩
theorem d_X12_image_2 : DC mX12_image 2 (.putfield 1) 3 5 := ⟨by decide +kernel, rfl⟩
theorem d_X12_image_5 : DC mX12_image 5 (.iload_n 1) 1 6 := ⟨by decide +kernel, rfl⟩
theorem d_X12_image_6 : DC mX12_image 6 (.i2l) 1 7 := ⟨by decide +kernel, rfl⟩
theorem d_X12_image_7 : DC mX12_image 7 (.lconst 0) 1 8 := ⟨by decide +kernel, rfl⟩
theorem d_X12_image_8 : DC mX12_image 8 (.lconst 1) 1 9 := ⟨by decide +kernel, rfl⟩
theorem d_X12_image_9 : DC mX12_image 9 (.invokestatic 91) 3 12 := ⟨by decide +kernel, rfl⟩
theorem d_X12_image_12 : DC mX12_image 12 (.ifCond .ne 6) 3 15 := ⟨by decide +kernel, rfl⟩
theorem d_X12_image_15 : DC mX12_image 15 (.bipush (-2)) 2 17 := ⟨by decide +kernel, rfl⟩
theorem d_X12_image_17 : DC mX12_image 17 (.ireturn) 1 18 := ⟨by decide +kernel, rfl⟩
theorem d_X12_image_18 : DC mX12_image 18 (.aload_n 0) 1 19 := ⟨by decide +kernel, rfl⟩
theorem d_X12_image_19 : DC mX12_image 19 (.getfield 20) 3 22 := ⟨by decide +kernel, rfl⟩
theorem d_X12_image_22 : DC mX12_image 22 (.iconst 0) 1 23 := ⟨by decide +kernel, rfl⟩
theorem d_X12_image_23 : DC mX12_image 23 (.aload_n 0) 1 24 := ⟨by decide +kernel, rfl⟩
theorem d_X12_image_24 : DC mX12_image 24 (.getfield 20) 3 27 := ⟨by decide +kernel, rfl⟩
theorem d_X12_image_27 : DC mX12_image 27 (.sipush 1116) 3 30 := ⟨by decide +kernel, rfl⟩
theorem d_X12_image_30 : DC mX12_image 30 (.iload_n 1) 1 31 := ⟨by decide +kernel, rfl⟩
theorem d_X12_image_31 : DC mX12_image 31 (.iconst 1) 1 32 := ⟨by decide +kernel, rfl⟩
theorem d_X12_image_32 : DC mX12_image 32 (.iadd) 1 33 := ⟨by decide +kernel, rfl⟩
theorem d_X12_image_33 : DC mX12_image 33 (.imul) 1 34 := ⟨by decide +kernel, rfl⟩
theorem d_X12_image_34 : DC mX12_image 34 (.sipush 1116) 3 37 := ⟨by decide +kernel, rfl⟩
theorem d_X12_image_37 : DC mX12_image 37 (.invokestatic 98) 3 40 := ⟨by decide +kernel, rfl⟩
theorem d_X12_image_40 : DC mX12_image 40 (.aload_n 0) 1 41 := ⟨by decide +kernel, rfl⟩
theorem d_X12_image_41 : DC mX12_image 41 (.getfield 26) 3 44 := ⟨by decide +kernel, rfl⟩
theorem d_X12_image_44 : DC mX12_image 44 (.iload_n 1) 1 45 := ⟨by decide +kernel, rfl⟩
theorem d_X12_image_45 : DC mX12_image 45 (.iconst 1) 1 46 := ⟨by decide +kernel, rfl⟩
theorem d_X12_image_46 : DC mX12_image 46 (.bastore) 1 47 := ⟨by decide +kernel, rfl⟩
theorem d_X12_image_47 : DC mX12_image 47 (.iconst 0) 1 48 := ⟨by decide +kernel, rfl⟩
theorem d_X12_image_48 : DC mX12_image 48 (.ireturn) 1 49 := ⟨by decide +kernel, rfl⟩
theorem d_X12_restore_0 : DC mX12_restore 0 (.aload_n 0) 1 1 := ⟨by decide +kernel, rfl⟩
theorem d_X12_restore_1 : DC mX12_restore 1 (.iconst 0) 1 2 := ⟨by decide +kernel, rfl⟩
theorem d_X12_restore_2 : DC mX12_restore 2 (.putfield 1) 3 5 := ⟨by decide +kernel, rfl⟩
theorem d_X12_restore_5 : DC mX12_restore 5 (.iload_n 1) 1 6 := ⟨by decide +kernel, rfl⟩
theorem d_X12_restore_6 : DC mX12_restore 6 (.i2l) 1 7 := ⟨by decide +kernel, rfl⟩
theorem d_X12_restore_7 : DC mX12_restore 7 (.lconst 0) 1 8 := ⟨by decide +kernel, rfl⟩
theorem d_X12_restore_8 : DC mX12_restore 8 (.lconst 1) 1 9 := ⟨by decide +kernel, rfl⟩
theorem d_X12_restore_9 : DC mX12_restore 9 (.invokestatic 91) 3 12 := ⟨by decide +kernel, rfl⟩
theorem d_X12_restore_12 : DC mX12_restore 12 (.ifCond .ne 6) 3 15 := ⟨by decide +kernel, rfl⟩
theorem d_X12_restore_15 : DC mX12_restore 15 (.bipush (-2)) 2 17 := ⟨by decide +kernel, rfl⟩
theorem d_X12_restore_17 : DC mX12_restore 17 (.ireturn) 1 18 := ⟨by decide +kernel, rfl⟩
theorem d_X12_restore_18 : DC mX12_restore 18 (.aload_n 0) 1 19 := ⟨by decide +kernel, rfl⟩
theorem d_X12_restore_19 : DC mX12_restore 19 (.getfield 26) 3 22 := ⟨by decide +kernel, rfl⟩
theorem d_X12_restore_22 : DC mX12_restore 22 (.iload_n 1) 1 23 := ⟨by decide +kernel, rfl⟩
theorem d_X12_restore_23 : DC mX12_restore 23 (.baload) 1 24 := ⟨by decide +kernel, rfl⟩
theorem d_X12_restore_24 : DC mX12_restore 24 (.ifCond .ne 6) 3 27 := ⟨by decide +kernel, rfl⟩
theorem d_X12_restore_27 : DC mX12_restore 27 (.bipush (-6)) 2 29 := ⟨by decide +kernel, rfl⟩
theorem d_X12_restore_29 : DC mX12_restore 29 (.ireturn) 1 30 := ⟨by decide +kernel, rfl⟩
theorem d_X12_restore_30 : DC mX12_restore 30 (.aload_n 0) 1 31 := ⟨by decide +kernel, rfl⟩
theorem d_X12_restore_31 : DC mX12_restore 31 (.getfield 20) 3 34 := ⟨by decide +kernel, rfl⟩
theorem d_X12_restore_34 : DC mX12_restore 34 (.sipush 1116) 3 37 := ⟨by decide +kernel, rfl⟩
theorem d_X12_restore_37 : DC mX12_restore 37 (.iload_n 1) 1 38 := ⟨by decide +kernel, rfl⟩
theorem d_X12_restore_38 : DC mX12_restore 38 (.iconst 1) 1 39 := ⟨by decide +kernel, rfl⟩
theorem d_X12_restore_39 : DC mX12_restore 39 (.iadd) 1 40 := ⟨by decide +kernel, rfl⟩
theorem d_X12_restore_40 : DC mX12_restore 40 (.imul) 1 41 := ⟨by decide +kernel, rfl⟩
theorem d_X12_restore_41 : DC mX12_restore 41 (.aload_n 0) 1 42 := ⟨by decide +kernel, rfl⟩
theorem d_X12_restore_42 : DC mX12_restore 42 (.getfield 20) 3 45 := ⟨by decide +kernel, rfl⟩
theorem d_X12_restore_45 : DC mX12_restore 45 (.iconst 0) 1 46 := ⟨by decide +kernel, rfl⟩
theorem d_X12_restore_46 : DC mX12_restore 46 (.sipush 1116) 3 49 := ⟨by decide +kernel, rfl⟩
theorem d_X12_restore_49 : DC mX12_restore 49 (.invokestatic 98) 3 52 := ⟨by decide +kernel, rfl⟩
theorem d_X12_restore_52 : DC mX12_restore 52 (.aload_n 0) 1 53 := ⟨by decide +kernel, rfl⟩
theorem d_X12_restore_53 : DC mX12_restore 53 (.iconst 0) 1 54 := ⟨by decide +kernel, rfl⟩
theorem d_X12_restore_54 : DC mX12_restore 54 (.putfield 95) 3 57 := ⟨by decide +kernel, rfl⟩
theorem d_X12_restore_57 : DC mX12_restore 57 (.iconst 0) 1 58 := ⟨by decide +kernel, rfl⟩
theorem d_X12_restore_58 : DC mX12_restore 58 (.ireturn) 1 59 := ⟨by decide +kernel, rfl⟩
theorem d_X12_facts_0 : DC mX12_facts 0 (.iconst 0) 1 1 := ⟨by decide +kernel, rfl⟩
theorem d_X12_facts_1 : DC mX12_facts 1 (.istore_n 2) 1 2 := ⟨by decide +kernel, rfl⟩
theorem d_X12_facts_2 : DC mX12_facts 2 (.iconst 1) 1 3 := ⟨by decide +kernel, rfl⟩
theorem d_X12_facts_3 : DC mX12_facts 3 (.istore_n 3) 1 4 := ⟨by decide +kernel, rfl⟩
theorem d_X12_facts_4 : DC mX12_facts 4 (.iload_n 3) 1 5 := ⟨by decide +kernel, rfl⟩
theorem d_X12_facts_5 : DC mX12_facts 5 (.bipush 120) 2 7 := ⟨by decide +kernel, rfl⟩
theorem d_X12_facts_7 : DC mX12_facts 7 (.if_icmp .gt 26) 3 10 := ⟨by decide +kernel, rfl⟩
theorem d_X12_facts_10 : DC mX12_facts 10 (.iload_n 2) 1 11 := ⟨by decide +kernel, rfl⟩
theorem d_X12_facts_11 : DC mX12_facts 11 (.aload_n 0) 1 12 := ⟨by decide +kernel, rfl⟩
theorem d_X12_facts_12 : DC mX12_facts 12 (.iload_n 3) 1 13 := ⟨by decide +kernel, rfl⟩
theorem d_X12_facts_13 : DC mX12_facts 13 (.invokevirtual 244) 3 16 := ⟨by decide +kernel, rfl⟩
theorem d_X12_facts_16 : DC mX12_facts 16 (.iload_n 1) 1 17 := ⟨by decide +kernel, rfl⟩
theorem d_X12_facts_17 : DC mX12_facts 17 (.if_icmp .ne 7) 3 20 := ⟨by decide +kernel, rfl⟩
theorem d_X12_facts_20 : DC mX12_facts 20 (.iconst 1) 1 21 := ⟨by decide +kernel, rfl⟩
theorem d_X12_facts_21 : DC mX12_facts 21 (.goto 4) 3 24 := ⟨by decide +kernel, rfl⟩
theorem d_X12_facts_24 : DC mX12_facts 24 (.iconst 0) 1 25 := ⟨by decide +kernel, rfl⟩
theorem d_X12_facts_25 : DC mX12_facts 25 (.iadd) 1 26 := ⟨by decide +kernel, rfl⟩
theorem d_X12_facts_26 : DC mX12_facts 26 (.istore_n 2) 1 27 := ⟨by decide +kernel, rfl⟩
theorem d_X12_facts_27 : DC mX12_facts 27 (.iinc 3 1) 3 30 := ⟨by decide +kernel, rfl⟩
theorem d_X12_facts_30 : DC mX12_facts 30 (.goto (-26)) 3 33 := ⟨by decide +kernel, rfl⟩
theorem d_X12_facts_33 : DC mX12_facts 33 (.iload_n 2) 1 34 := ⟨by decide +kernel, rfl⟩
theorem d_X12_facts_34 : DC mX12_facts 34 (.ireturn) 1 35 := ⟨by decide +kernel, rfl⟩
theorem d_X12_count_0 : DC mX12_count 0 (.aload_n 0) 1 1 := ⟨by decide +kernel, rfl⟩
theorem d_X12_count_1 : DC mX12_count 1 (.iconst 0) 1 2 := ⟨by decide +kernel, rfl⟩
theorem d_X12_count_2 : DC mX12_count 2 (.putfield 1) 3 5 := ⟨by decide +kernel, rfl⟩
theorem d_X12_count_5 : DC mX12_count 5 (.iconst 0) 1 6 := ⟨by decide +kernel, rfl⟩
theorem d_X12_count_6 : DC mX12_count 6 (.istore_n 2) 1 7 := ⟨by decide +kernel, rfl⟩
theorem d_X12_count_7 : DC mX12_count 7 (.iload_n 1) 1 8 := ⟨by decide +kernel, rfl⟩
theorem d_X12_count_8 : DC mX12_count 8 (.tableswitch 123 0 5 #[40, 69, 75, 81, 86, 91]) 40 48 := ⟨by decide +kernel, rfl⟩
theorem d_X12_count_48 : DC mX12_count 48 (.iconst 0) 1 49 := ⟨by decide +kernel, rfl⟩
theorem d_X12_count_49 : DC mX12_count 49 (.istore_n 3) 1 50 := ⟨by decide +kernel, rfl⟩
theorem d_X12_count_50 : DC mX12_count 50 (.iload_n 3) 1 51 := ⟨by decide +kernel, rfl⟩
theorem d_X12_count_51 : DC mX12_count 51 (.bipush 6) 2 53 := ⟨by decide +kernel, rfl⟩
theorem d_X12_count_53 : DC mX12_count 53 (.if_icmp .ge 22) 3 56 := ⟨by decide +kernel, rfl⟩
theorem d_X12_count_56 : DC mX12_count 56 (.iload_n 2) 1 57 := ⟨by decide +kernel, rfl⟩
theorem d_X12_count_57 : DC mX12_count 57 (.aload_n 0) 1 58 := ⟨by decide +kernel, rfl⟩
theorem d_X12_count_58 : DC mX12_count 58 (.getfield 20) 3 61 := ⟨by decide +kernel, rfl⟩
theorem d_X12_count_61 : DC mX12_count 61 (.sipush 161) 3 64 := ⟨by decide +kernel, rfl⟩
theorem d_X12_count_64 : DC mX12_count 64 (.iload_n 3) 1 65 := ⟨by decide +kernel, rfl⟩
theorem d_X12_count_65 : DC mX12_count 65 (.imul) 1 66 := ⟨by decide +kernel, rfl⟩
theorem d_X12_count_66 : DC mX12_count 66 (.iaload) 1 67 := ⟨by decide +kernel, rfl⟩
theorem d_X12_count_67 : DC mX12_count 67 (.iadd) 1 68 := ⟨by decide +kernel, rfl⟩
theorem d_X12_count_68 : DC mX12_count 68 (.istore_n 2) 1 69 := ⟨by decide +kernel, rfl⟩
theorem d_X12_count_69 : DC mX12_count 69 (.iinc 3 1) 3 72 := ⟨by decide +kernel, rfl⟩
theorem d_X12_count_72 : DC mX12_count 72 (.goto (-22)) 3 75 := ⟨by decide +kernel, rfl⟩
theorem d_X12_count_75 : DC mX12_count 75 (.iload_n 2) 1 76 := ⟨by decide +kernel, rfl⟩
theorem d_X12_count_76 : DC mX12_count 76 (.ireturn) 1 77 := ⟨by decide +kernel, rfl⟩
theorem d_X12_count_77 : DC mX12_count 77 (.aload_n 0) 1 78 := ⟨by decide +kernel, rfl⟩
theorem d_X12_count_78 : DC mX12_count 78 (.iconst 0) 1 79 := ⟨by decide +kernel, rfl⟩
theorem d_X12_count_79 : DC mX12_count 79 (.invokevirtual 425) 3 82 := ⟨by decide +kernel, rfl⟩
theorem d_X12_count_82 : DC mX12_count 82 (.ireturn) 1 83 := ⟨by decide +kernel, rfl⟩
theorem d_X12_count_83 : DC mX12_count 83 (.aload_n 0) 1 84 := ⟨by decide +kernel, rfl⟩
theorem d_X12_count_84 : DC mX12_count 84 (.iconst 1) 1 85 := ⟨by decide +kernel, rfl⟩
theorem d_X12_count_85 : DC mX12_count 85 (.invokevirtual 425) 3 88 := ⟨by decide +kernel, rfl⟩
theorem d_X12_count_88 : DC mX12_count 88 (.ireturn) 1 89 := ⟨by decide +kernel, rfl⟩
theorem d_X12_count_89 : DC mX12_count 89 (.aload_n 0) 1 90 := ⟨by decide +kernel, rfl⟩
theorem d_X12_count_90 : DC mX12_count 90 (.getfield 252) 3 93 := ⟨by decide +kernel, rfl⟩
theorem d_X12_count_93 : DC mX12_count 93 (.ireturn) 1 94 := ⟨by decide +kernel, rfl⟩
theorem d_X12_count_94 : DC mX12_count 94 (.aload_n 0) 1 95 := ⟨by decide +kernel, rfl⟩
theorem d_X12_count_95 : DC mX12_count 95 (.getfield 95) 3 98 := ⟨by decide +kernel, rfl⟩
theorem d_X12_count_98 : DC mX12_count 98 (.ireturn) 1 99 := ⟨by decide +kernel, rfl⟩
theorem d_X12_count_99 : DC mX12_count 99 (.iconst 1) 1 100 := ⟨by decide +kernel, rfl⟩
theorem d_X12_count_100 : DC mX12_count 100 (.istore_n 3) 1 101 := ⟨by decide +kernel, rfl⟩
theorem d_X12_count_101 : DC mX12_count 101 (.iload_n 3) 1 102 := ⟨by decide +kernel, rfl⟩
theorem d_X12_count_102 : DC mX12_count 102 (.bipush 120) 2 104 := ⟨by decide +kernel, rfl⟩
theorem d_X12_count_104 : DC mX12_count 104 (.if_icmp .gt 25) 3 107 := ⟨by decide +kernel, rfl⟩
theorem d_X12_count_107 : DC mX12_count 107 (.iload_n 2) 1 108 := ⟨by decide +kernel, rfl⟩
theorem d_X12_count_108 : DC mX12_count 108 (.aload_n 0) 1 109 := ⟨by decide +kernel, rfl⟩
theorem d_X12_count_109 : DC mX12_count 109 (.iload_n 3) 1 110 := ⟨by decide +kernel, rfl⟩
theorem d_X12_count_110 : DC mX12_count 110 (.invokevirtual 418) 3 113 := ⟨by decide +kernel, rfl⟩
theorem d_X12_count_113 : DC mX12_count 113 (.ifCond .ne 7) 3 116 := ⟨by decide +kernel, rfl⟩
theorem d_X12_count_116 : DC mX12_count 116 (.iconst 1) 1 117 := ⟨by decide +kernel, rfl⟩
theorem d_X12_count_117 : DC mX12_count 117 (.goto 4) 3 120 := ⟨by decide +kernel, rfl⟩
theorem d_X12_count_120 : DC mX12_count 120 (.iconst 0) 1 121 := ⟨by decide +kernel, rfl⟩
theorem d_X12_count_121 : DC mX12_count 121 (.iadd) 1 122 := ⟨by decide +kernel, rfl⟩
theorem d_X12_count_122 : DC mX12_count 122 (.istore_n 2) 1 123 := ⟨by decide +kernel, rfl⟩
theorem d_X12_count_123 : DC mX12_count 123 (.iinc 3 1) 3 126 := ⟨by decide +kernel, rfl⟩
theorem d_X12_count_126 : DC mX12_count 126 (.goto (-25)) 3 129 := ⟨by decide +kernel, rfl⟩
theorem d_X12_count_129 : DC mX12_count 129 (.iload_n 2) 1 130 := ⟨by decide +kernel, rfl⟩
theorem d_X12_count_130 : DC mX12_count 130 (.ireturn) 1 131 := ⟨by decide +kernel, rfl⟩
theorem d_X12_count_131 : DC mX12_count 131 (.iconst (-1)) 1 132 := ⟨by decide +kernel, rfl⟩
theorem d_X12_count_132 : DC mX12_count 132 (.ireturn) 1 133 := ⟨by decide +kernel, rfl⟩
theorem v_X12_areSix_0 {l : Launch} {d N : Nat} {Λ : Lay} {P : Int → Mem → Prop} {σ : Mem} {x1 t t_state : Int} (o_t : Ob N Λ t 21 36) (f_t_state : (Λ t).2.2 3 = t_state) (z_t_state : 0 ≤ t_state) (h0d : 1 ≤ d)
    (h : (Ix N Λ t_state 0 (mulI 161 x1) ∧ (((σ t_state (mulI 161 x1)) = 0 → P 0 σ) ∧ (¬ ((σ t_state (mulI 161 x1)) = 0) → (Ix N Λ t_state 0 (addI (addI (mulI 161 x1) 1) (mulI 2 0)) ∧ (CI l mX12_degreeOf (d - 1) [(0, (σ t_state (addI (addI (mulI 161 x1) 1) (mulI 2 0))))] N Λ σ (fun v2 σ1 => ((v2 = 2 → WI l mX12_areSix d P 35 [(2, t), (0, x1), (0, 0), (0, 0), (3, 0)] [] N Λ σ1) ∧ (¬ (v2 = 2) → P 0 σ1))))))))) :
    WI l mX12_areSix d P 0 [(2, t), (0, x1), (3, 0), (3, 0), (3, 0)] [] N Λ σ := by
  have hd_1 : 1 ≤ d := Nat.le_trans (by decide) h0d
  refine r_iconst (x := 0) d_X12_areSix_0 ⟨by decide, by decide⟩ ?_
  refine r_istore_n (L2 := [(2, t), (0, x1), (0, 0), (3, 0), (3, 0)]) d_X12_areSix_1 (by decide) rfl rfl ?_
  refine r_aload_n (x := t) d_X12_areSix_2 rfl o_t.1 ?_
  refine r_getf (j := 3) (t := 2) (x := t_state) d_X12_areSix_3 kX12 (by decide) fl_X12_20 o_t.1 o_t.2.1 o_t.2.2.1 o_t.2.2.2 rfl f_t_state ?_
  refine r_sipush (x := 161) d_X12_areSix_6 ⟨by decide, by decide⟩ (by decide) ?_
  refine r_iload_n (x := x1) d_X12_areSix_9 rfl ?_
  refine r_imul d_X12_areSix_10 ?_
  refine x_iald d_X12_areSix_11 h.1 ?_
  have h := h.2
  refine r_if_eq (tgt := 31) d_X12_areSix_12 rfl (fun hc => ?_) (fun hc => ?_)
  · have h := h.1 hc
    refine r_iconst (x := 0) d_X12_areSix_31 ⟨by decide, by decide⟩ ?_
    exact r_iret d_X12_areSix_32 rfl (by decide) (Nat.le_refl 0) (Nat.le_refl 0) ⟨_, rfl, rfl, rfl, h⟩
  · have h := h.2 hc
    refine r_aload_n (x := t) d_X12_areSix_15 rfl o_t.1 ?_
    refine r_getf (j := 3) (t := 2) (x := t_state) d_X12_areSix_16 kX12 (by decide) fl_X12_20 o_t.1 o_t.2.1 o_t.2.2.1 o_t.2.2.2 rfl f_t_state ?_
    refine r_iload_n (x := x1) d_X12_areSix_19 rfl ?_
    refine r_iconst (x := 0) d_X12_areSix_20 ⟨by decide, by decide⟩ ?_
    refine x_callSI (Y2 := mX12_keyOn) (As := [(2, t_state), (0, x1), (0, 0)]) (S := []) d_X12_areSix_21 ok_mX12_keyOn ml_X12_339 rfl (Nat.le_of_ble_eq_true rfl) (Nat.le_of_ble_eq_true rfl) rfl hd_1 (c_X12_keyOn (v_X12_keyOn_0 z_t_state ?_))
    refine ⟨h.1, ?_⟩
    have h := h.2
    show WP l mX12_areSix (rm d 0 0) noX _ 0 0 24 [(2, t), (0, x1), (0, 0), (3, 0), (3, 0)] [(0, (σ t_state (addI (addI (mulI 161 x1) 1) (mulI 2 0))))] N Λ σ
    refine x_callSI (Y2 := mX12_degreeOf) (As := [(0, (σ t_state (addI (addI (mulI 161 x1) 1) (mulI 2 0))))]) (S := []) d_X12_areSix_24 ok_mX12_degreeOf ml_X12_138 rfl (Nat.le_of_ble_eq_true rfl) (Nat.le_of_ble_eq_true rfl) rfl hd_1 (CI.mono h (fun v2 σ1 h => ?_))
    refine r_iconst (x := 2) d_X12_areSix_27 ⟨by decide, by decide⟩ ?_
    refine r_ic_eq (tgt := 33) d_X12_areSix_28 rfl (fun hc => ?_) (fun hc => ?_)
    · have h := h.1 hc
      refine r_iconst (x := 0) d_X12_areSix_33 ⟨by decide, by decide⟩ ?_
      refine r_istore_n (L2 := [(2, t), (0, x1), (0, 0), (0, 0), (3, 0)]) d_X12_areSix_34 (by decide) rfl rfl ?_
      exact h
    · have h := h.2 hc
      refine r_iconst (x := 0) d_X12_areSix_31 ⟨by decide, by decide⟩ ?_
      exact r_iret d_X12_areSix_32 rfl (by decide) (Nat.le_refl 0) (Nat.le_refl 0) ⟨_, rfl, rfl, rfl, h⟩
theorem v_X12_areSix_35 {l : Launch} {d N : Nat} {Λ : Lay} {P : Int → Mem → Prop} {σ : Mem} {x1 x2 x3 t t_six t_state : Int} (o_t : Ob N Λ t 21 36) (f_t_state : (Λ t).2.2 3 = t_state) (z_t_state : 0 ≤ t_state) (f_t_six : (Λ t).2.2 33 = t_six) (h0d : 1 ≤ d)
    (h : ((10 ≤ x3 → ((¬ x2 = 6 → P 0 σ) ∧ (x2 = 6 → P 1 σ))) ∧ (¬ (10 ≤ x3) → (Ix N Λ t_state 0 (addI (addI (mulI 161 x1) 1) (mulI 2 0)) ∧ (CI l mX12_often (d - 1) [(2, t), (0, (σ t_state (addI (addI (mulI 161 x1) 1) (mulI 2 0)))), (0, x3)] N Λ σ (fun v2 σ1 => ((v2 ≤ 1 → ((¬ v2 = 0 → (Ix N Λ t_six 0 x2 ∧ (∀ τ3, τ3 = st σ1 t_six x2 x3 → (∀ y4, y4 = addI x2 1 → (∀ y5, y5 = addI x3 1 → WI l mX12_areSix d P 35 [(2, t), (0, x1), (0, y4), (0, y5), (3, 0)] [] N Λ τ3))))) ∧ (v2 = 0 → (∀ y6, y6 = addI x3 1 → WI l mX12_areSix d P 35 [(2, t), (0, x1), (0, x2), (0, y6), (3, 0)] [] N Λ σ1)))) ∧ (¬ (v2 ≤ 1) → P 0 σ1)))))))) :
    WI l mX12_areSix d P 35 [(2, t), (0, x1), (0, x2), (0, x3), (3, 0)] [] N Λ σ := by
  have hd_1 : 1 ≤ d := Nat.le_trans (by decide) h0d
  refine r_iload_n (x := x3) d_X12_areSix_35 rfl ?_
  refine r_bipush (x := 10) d_X12_areSix_36 ⟨by decide, by decide⟩ (by decide) ?_
  refine r_ic_ge (tgt := 89) d_X12_areSix_38 rfl (fun hc => ?_) (fun hc => ?_)
  · have h := h.1 hc
    refine r_iload_n (x := x2) d_X12_areSix_89 rfl ?_
    refine r_bipush (x := 6) d_X12_areSix_90 ⟨by decide, by decide⟩ (by decide) ?_
    refine r_ic_ne (tgt := 99) d_X12_areSix_92 rfl (fun hc => ?_) (fun hc => ?_)
    · have h := h.1 hc
      refine r_iconst (x := 0) d_X12_areSix_99 ⟨by decide, by decide⟩ ?_
      exact r_iret d_X12_areSix_100 rfl (by decide) (Nat.le_refl 0) (Nat.le_refl 0) ⟨_, rfl, rfl, rfl, h⟩
    · have h := h.2 hc
      refine r_iconst (x := 1) d_X12_areSix_95 ⟨by decide, by decide⟩ ?_
      refine r_goto (tgt := 100) d_X12_areSix_96 rfl ?_
      exact r_iret d_X12_areSix_100 rfl (by decide) (Nat.le_refl 0) (Nat.le_refl 0) ⟨_, rfl, rfl, rfl, h⟩
  · have h := h.2 hc
    refine r_aload_n (x := t) d_X12_areSix_41 rfl o_t.1 ?_
    refine r_aload_n (x := t) d_X12_areSix_42 rfl o_t.1 ?_
    refine r_getf (j := 3) (t := 2) (x := t_state) d_X12_areSix_43 kX12 (by decide) fl_X12_20 o_t.1 o_t.2.1 o_t.2.2.1 o_t.2.2.2 rfl f_t_state ?_
    refine r_iload_n (x := x1) d_X12_areSix_46 rfl ?_
    refine r_iconst (x := 0) d_X12_areSix_47 ⟨by decide, by decide⟩ ?_
    refine x_callSI (Y2 := mX12_keyOn) (As := [(2, t_state), (0, x1), (0, 0)]) (S := [(2, t)]) d_X12_areSix_48 ok_mX12_keyOn ml_X12_339 rfl (Nat.le_of_ble_eq_true rfl) (Nat.le_of_ble_eq_true rfl) rfl hd_1 (c_X12_keyOn (v_X12_keyOn_0 z_t_state ?_))
    refine ⟨h.1, ?_⟩
    have h := h.2
    show WP l mX12_areSix (rm d 0 0) noX _ 0 0 51 [(2, t), (0, x1), (0, x2), (0, x3), (3, 0)] [(0, (σ t_state (addI (addI (mulI 161 x1) 1) (mulI 2 0)))), (2, t)] N Λ σ
    refine r_iload_n (x := x3) d_X12_areSix_51 rfl ?_
    refine x_callVI (Y2 := mX12_often) (c := t) (As := [(0, (σ t_state (addI (addI (mulI 161 x1) 1) (mulI 2 0)))), (0, x3)]) (S := []) d_X12_areSix_52 ok_mX12_often ml_X12_343 rfl (Nat.le_of_ble_eq_true rfl) (Nat.le_of_ble_eq_true rfl) rfl hd_1 kX12 o_t (CI.mono h (fun v2 σ1 h => ?_))
    refine r_istore (L2 := [(2, t), (0, x1), (0, x2), (0, x3), (0, v2)]) d_X12_areSix_55 (by decide) rfl rfl ?_
    refine r_iload (x := v2) d_X12_areSix_57 rfl ?_
    refine r_iconst (x := 1) d_X12_areSix_59 ⟨by decide, by decide⟩ ?_
    refine r_ic_le (tgt := 65) d_X12_areSix_60 rfl (fun hc => ?_) (fun hc => ?_)
    · have h := h.1 hc
      refine r_iload (x := v2) d_X12_areSix_65 rfl ?_
      refine r_if_ne (tgt := 73) d_X12_areSix_67 rfl (fun hc => ?_) (fun hc => ?_)
      · have h := h.1 hc
        refine r_aload_n (x := t) d_X12_areSix_73 rfl o_t.1 ?_
        refine r_getf (j := 33) (t := 2) (x := t_six) d_X12_areSix_74 kX12 (by decide) fl_X12_77 o_t.1 o_t.2.1 o_t.2.2.1 o_t.2.2.2 rfl f_t_six ?_
        refine r_iload_n (x := x2) d_X12_areSix_77 rfl ?_
        refine r_iload_n (x := x3) d_X12_areSix_78 rfl ?_
        refine x_iast d_X12_areSix_79 h.1 ?_
        have h := h.2
        refine r_nmM (fun τ3 eτ3 => ?_)
        have h := h τ3 eτ3
        refine x_iinc (x := x2) (L := [(2, t), (0, x1), (0, x2), (0, x3), (0, v2)]) d_X12_areSix_80 rfl (by decide) rfl (fun y4 ey4 => ?_)
        have h := h y4 ey4
        show WP _ _ _ _ _ _ _ _ [(2, t), (0, x1), (0, y4), (0, x3), (0, v2)] _ _ _ _
        refine x_iinc (x := x3) (L := [(2, t), (0, x1), (0, y4), (0, x3), (0, v2)]) d_X12_areSix_83 rfl (by decide) rfl (fun y5 ey5 => ?_)
        have h := h y5 ey5
        show WP _ _ _ _ _ _ _ _ [(2, t), (0, x1), (0, y4), (0, y5), (0, v2)] _ _ _ _
        refine r_goto (tgt := 35) d_X12_areSix_86 rfl ?_
        exact x_mask h ⟨Or.inr rfl, Or.inr rfl, Or.inr rfl, Or.inr rfl, Or.inl rfl, trivial⟩
      · have h := h.2 hc
        refine r_goto (tgt := 83) d_X12_areSix_70 rfl ?_
        refine x_iinc (x := x3) (L := [(2, t), (0, x1), (0, x2), (0, x3), (0, v2)]) d_X12_areSix_83 rfl (by decide) rfl (fun y6 ey6 => ?_)
        have h := h y6 ey6
        show WP _ _ _ _ _ _ _ _ [(2, t), (0, x1), (0, x2), (0, y6), (0, v2)] _ _ _ _
        refine r_goto (tgt := 35) d_X12_areSix_86 rfl ?_
        exact x_mask h ⟨Or.inr rfl, Or.inr rfl, Or.inr rfl, Or.inr rfl, Or.inl rfl, trivial⟩
    · have h := h.2 hc
      refine r_iconst (x := 0) d_X12_areSix_63 ⟨by decide, by decide⟩ ?_
      exact r_iret d_X12_areSix_64 rfl (by decide) (Nat.le_refl 0) (Nat.le_refl 0) ⟨_, rfl, rfl, rfl, h⟩
theorem v_X12_laysSix_0 {l : Launch} {d N : Nat} {Λ : Lay} {P : Mem → Prop} {σ : Mem} {x1 t t_pool t_taken : Int} (o_t : Ob N Λ t 21 36) (f_t_pool : (Λ t).2.2 7 = t_pool) (f_t_taken : (Λ t).2.2 34 = t_taken) (h0d : 1 ≤ d)
    (h : (Ix N Λ t_pool 0 (mulI 161 x1) ∧ (∀ τ1, τ1 = st σ t_pool (mulI 161 x1) 0 → (Ix N Λ t_pool 0 (mulI 161 1) ∧ (∀ τ2, τ2 = st τ1 t_pool (mulI 161 1) 0 → (Ix N Λ t_pool 0 (mulI 161 2) ∧ (∀ τ3, τ3 = st τ2 t_pool (mulI 161 2) 0 → (Ix N Λ t_taken 0 0 ∧ (Ix N Λ t_taken 0 2 ∧ (Ix N Λ t_taken 0 3 ∧ (CV l mX12_putsBracket (d - 1) [(2, t), (0, (τ3 t_taken 0)), (0, (τ3 t_taken 2)), (0, (τ3 t_taken 3)), (0, 1)] N Λ τ3 (fun σ4 => (Ix N Λ t_taken 0 1 ∧ (Ix N Λ t_taken 0 4 ∧ (Ix N Λ t_taken 0 5 ∧ (CV l mX12_putsBracket (d - 1) [(2, t), (0, (σ4 t_taken 1)), (0, (σ4 t_taken 4)), (0, (σ4 t_taken 5)), (0, 2)] N Λ σ4 (fun σ5 => (CV l mX12_multiplies (d - 1) [(2, t), (0, 1), (0, 2), (0, 1), (0, x1)] N Λ σ5 (fun σ6 => (Ix N Λ t_pool 0 (mulI 161 1) ∧ (∀ τ7, τ7 = st σ6 t_pool (mulI 161 1) 0 → (Ix N Λ t_pool 0 (mulI 161 2) ∧ (∀ τ8, τ8 = st τ7 t_pool (mulI 161 2) 0 → (Ix N Λ t_taken 0 1 ∧ (Ix N Λ t_taken 0 2 ∧ (Ix N Λ t_taken 0 3 ∧ (CV l mX12_putsBracket (d - 1) [(2, t), (0, (τ8 t_taken 1)), (0, (τ8 t_taken 2)), (0, (τ8 t_taken 3)), (0, 1)] N Λ τ8 (fun σ9 => (Ix N Λ t_taken 0 0 ∧ (Ix N Λ t_taken 0 4 ∧ (Ix N Λ t_taken 0 5 ∧ (CV l mX12_putsBracket (d - 1) [(2, t), (0, (σ9 t_taken 0)), (0, (σ9 t_taken 4)), (0, (σ9 t_taken 5)), (0, 2)] N Λ σ9 (fun σ10 => (CV l mX12_multiplies (d - 1) [(2, t), (0, 1), (0, 2), (0, (-1)), (0, x1)] N Λ σ10 (fun σ11 => (CI l mX12_straightens (d - 1) [(2, t), (0, x1)] N Λ σ11 (fun v13 σ12 => P σ12))))))))))))))))))))))))))))))))))))) :
    WV l mX12_laysSix d P 0 [(2, t), (0, x1), (3, 0)] [] N Λ σ := by
  have hd_1 : 1 ≤ d := Nat.le_trans (by decide) h0d
  refine r_aload_n (x := t) d_X12_laysSix_0 rfl o_t.1 ?_
  refine r_iload_n (x := x1) d_X12_laysSix_1 rfl ?_
  refine x_callVV (Y2 := mX12_empties) (c := t) (As := [(0, x1)]) (S := []) d_X12_laysSix_2 ok_mX12_empties ml_X12_105 rfl (Nat.le_of_ble_eq_true rfl) (Nat.le_of_ble_eq_true rfl) rfl hd_1 kX12 o_t (c_X12_empties (v_X12_empties_0 o_t f_t_pool ?_))
  refine ⟨h.1, ?_⟩
  have h := h.2
  intro τ1 eτ1
  have h := h τ1 eτ1
  show WP l mX12_laysSix (rm d 0 0) noX _ 0 0 5 [(2, t), (0, x1), (3, 0)] [] N Λ τ1
  refine r_aload_n (x := t) d_X12_laysSix_5 rfl o_t.1 ?_
  refine r_iconst (x := 1) d_X12_laysSix_6 ⟨by decide, by decide⟩ ?_
  refine x_callVV (Y2 := mX12_empties) (c := t) (As := [(0, 1)]) (S := []) d_X12_laysSix_7 ok_mX12_empties ml_X12_105 rfl (Nat.le_of_ble_eq_true rfl) (Nat.le_of_ble_eq_true rfl) rfl hd_1 kX12 o_t (c_X12_empties (v_X12_empties_0 o_t f_t_pool ?_))
  refine ⟨h.1, ?_⟩
  have h := h.2
  intro τ2 eτ2
  have h := h τ2 eτ2
  show WP l mX12_laysSix (rm d 0 0) noX _ 0 0 10 [(2, t), (0, x1), (3, 0)] [] N Λ τ2
  refine r_aload_n (x := t) d_X12_laysSix_10 rfl o_t.1 ?_
  refine r_iconst (x := 2) d_X12_laysSix_11 ⟨by decide, by decide⟩ ?_
  refine x_callVV (Y2 := mX12_empties) (c := t) (As := [(0, 2)]) (S := []) d_X12_laysSix_12 ok_mX12_empties ml_X12_105 rfl (Nat.le_of_ble_eq_true rfl) (Nat.le_of_ble_eq_true rfl) rfl hd_1 kX12 o_t (c_X12_empties (v_X12_empties_0 o_t f_t_pool ?_))
  refine ⟨h.1, ?_⟩
  have h := h.2
  intro τ3 eτ3
  have h := h τ3 eτ3
  show WP l mX12_laysSix (rm d 0 0) noX _ 0 0 15 [(2, t), (0, x1), (3, 0)] [] N Λ τ3
  refine r_aload_n (x := t) d_X12_laysSix_15 rfl o_t.1 ?_
  refine r_aload_n (x := t) d_X12_laysSix_16 rfl o_t.1 ?_
  refine r_getf (j := 34) (t := 2) (x := t_taken) d_X12_laysSix_17 kX12 (by decide) fl_X12_80 o_t.1 o_t.2.1 o_t.2.2.1 o_t.2.2.2 rfl f_t_taken ?_
  refine r_iconst (x := 0) d_X12_laysSix_20 ⟨by decide, by decide⟩ ?_
  refine x_iald d_X12_laysSix_21 h.1 ?_
  have h := h.2
  refine r_aload_n (x := t) d_X12_laysSix_22 rfl o_t.1 ?_
  refine r_getf (j := 34) (t := 2) (x := t_taken) d_X12_laysSix_23 kX12 (by decide) fl_X12_80 o_t.1 o_t.2.1 o_t.2.2.1 o_t.2.2.2 rfl f_t_taken ?_
  refine r_iconst (x := 2) d_X12_laysSix_26 ⟨by decide, by decide⟩ ?_
  refine x_iald d_X12_laysSix_27 h.1 ?_
  have h := h.2
  refine r_aload_n (x := t) d_X12_laysSix_28 rfl o_t.1 ?_
  refine r_getf (j := 34) (t := 2) (x := t_taken) d_X12_laysSix_29 kX12 (by decide) fl_X12_80 o_t.1 o_t.2.1 o_t.2.2.1 o_t.2.2.2 rfl f_t_taken ?_
  refine r_iconst (x := 3) d_X12_laysSix_32 ⟨by decide, by decide⟩ ?_
  refine x_iald d_X12_laysSix_33 h.1 ?_
  have h := h.2
  refine r_iconst (x := 1) d_X12_laysSix_34 ⟨by decide, by decide⟩ ?_
  refine x_callVV (Y2 := mX12_putsBracket) (c := t) (As := [(0, (τ3 t_taken 0)), (0, (τ3 t_taken 2)), (0, (τ3 t_taken 3)), (0, 1)]) (S := []) d_X12_laysSix_35 ok_mX12_putsBracket ml_X12_211 rfl (Nat.le_of_ble_eq_true rfl) (Nat.le_of_ble_eq_true rfl) rfl hd_1 kX12 o_t (CV.mono h (fun σ4 h => ?_))
  refine r_aload_n (x := t) d_X12_laysSix_38 rfl o_t.1 ?_
  refine r_aload_n (x := t) d_X12_laysSix_39 rfl o_t.1 ?_
  refine r_getf (j := 34) (t := 2) (x := t_taken) d_X12_laysSix_40 kX12 (by decide) fl_X12_80 o_t.1 o_t.2.1 o_t.2.2.1 o_t.2.2.2 rfl f_t_taken ?_
  refine r_iconst (x := 1) d_X12_laysSix_43 ⟨by decide, by decide⟩ ?_
  refine x_iald d_X12_laysSix_44 h.1 ?_
  have h := h.2
  refine r_aload_n (x := t) d_X12_laysSix_45 rfl o_t.1 ?_
  refine r_getf (j := 34) (t := 2) (x := t_taken) d_X12_laysSix_46 kX12 (by decide) fl_X12_80 o_t.1 o_t.2.1 o_t.2.2.1 o_t.2.2.2 rfl f_t_taken ?_
  refine r_iconst (x := 4) d_X12_laysSix_49 ⟨by decide, by decide⟩ ?_
  refine x_iald d_X12_laysSix_50 h.1 ?_
  have h := h.2
  refine r_aload_n (x := t) d_X12_laysSix_51 rfl o_t.1 ?_
  refine r_getf (j := 34) (t := 2) (x := t_taken) d_X12_laysSix_52 kX12 (by decide) fl_X12_80 o_t.1 o_t.2.1 o_t.2.2.1 o_t.2.2.2 rfl f_t_taken ?_
  refine r_iconst (x := 5) d_X12_laysSix_55 ⟨by decide, by decide⟩ ?_
  refine x_iald d_X12_laysSix_56 h.1 ?_
  have h := h.2
  refine r_iconst (x := 2) d_X12_laysSix_57 ⟨by decide, by decide⟩ ?_
  refine x_callVV (Y2 := mX12_putsBracket) (c := t) (As := [(0, (σ4 t_taken 1)), (0, (σ4 t_taken 4)), (0, (σ4 t_taken 5)), (0, 2)]) (S := []) d_X12_laysSix_58 ok_mX12_putsBracket ml_X12_211 rfl (Nat.le_of_ble_eq_true rfl) (Nat.le_of_ble_eq_true rfl) rfl hd_1 kX12 o_t (CV.mono h (fun σ5 h => ?_))
  refine r_aload_n (x := t) d_X12_laysSix_61 rfl o_t.1 ?_
  refine r_iconst (x := 1) d_X12_laysSix_62 ⟨by decide, by decide⟩ ?_
  refine r_iconst (x := 2) d_X12_laysSix_63 ⟨by decide, by decide⟩ ?_
  refine r_iconst (x := 1) d_X12_laysSix_64 ⟨by decide, by decide⟩ ?_
  refine r_iload_n (x := x1) d_X12_laysSix_65 rfl ?_
  refine x_callVV (Y2 := mX12_multiplies) (c := t) (As := [(0, 1), (0, 2), (0, 1), (0, x1)]) (S := []) d_X12_laysSix_66 ok_mX12_multiplies ml_X12_231 rfl (Nat.le_of_ble_eq_true rfl) (Nat.le_of_ble_eq_true rfl) rfl hd_1 kX12 o_t (CV.mono h (fun σ6 h => ?_))
  refine r_aload_n (x := t) d_X12_laysSix_69 rfl o_t.1 ?_
  refine r_iconst (x := 1) d_X12_laysSix_70 ⟨by decide, by decide⟩ ?_
  refine x_callVV (Y2 := mX12_empties) (c := t) (As := [(0, 1)]) (S := []) d_X12_laysSix_71 ok_mX12_empties ml_X12_105 rfl (Nat.le_of_ble_eq_true rfl) (Nat.le_of_ble_eq_true rfl) rfl hd_1 kX12 o_t (c_X12_empties (v_X12_empties_0 o_t f_t_pool ?_))
  refine ⟨h.1, ?_⟩
  have h := h.2
  intro τ7 eτ7
  have h := h τ7 eτ7
  show WP l mX12_laysSix (rm d 0 0) noX _ 0 0 74 [(2, t), (0, x1), (3, 0)] [] N Λ τ7
  refine r_aload_n (x := t) d_X12_laysSix_74 rfl o_t.1 ?_
  refine r_iconst (x := 2) d_X12_laysSix_75 ⟨by decide, by decide⟩ ?_
  refine x_callVV (Y2 := mX12_empties) (c := t) (As := [(0, 2)]) (S := []) d_X12_laysSix_76 ok_mX12_empties ml_X12_105 rfl (Nat.le_of_ble_eq_true rfl) (Nat.le_of_ble_eq_true rfl) rfl hd_1 kX12 o_t (c_X12_empties (v_X12_empties_0 o_t f_t_pool ?_))
  refine ⟨h.1, ?_⟩
  have h := h.2
  intro τ8 eτ8
  have h := h τ8 eτ8
  show WP l mX12_laysSix (rm d 0 0) noX _ 0 0 79 [(2, t), (0, x1), (3, 0)] [] N Λ τ8
  refine r_aload_n (x := t) d_X12_laysSix_79 rfl o_t.1 ?_
  refine r_aload_n (x := t) d_X12_laysSix_80 rfl o_t.1 ?_
  refine r_getf (j := 34) (t := 2) (x := t_taken) d_X12_laysSix_81 kX12 (by decide) fl_X12_80 o_t.1 o_t.2.1 o_t.2.2.1 o_t.2.2.2 rfl f_t_taken ?_
  refine r_iconst (x := 1) d_X12_laysSix_84 ⟨by decide, by decide⟩ ?_
  refine x_iald d_X12_laysSix_85 h.1 ?_
  have h := h.2
  refine r_aload_n (x := t) d_X12_laysSix_86 rfl o_t.1 ?_
  refine r_getf (j := 34) (t := 2) (x := t_taken) d_X12_laysSix_87 kX12 (by decide) fl_X12_80 o_t.1 o_t.2.1 o_t.2.2.1 o_t.2.2.2 rfl f_t_taken ?_
  refine r_iconst (x := 2) d_X12_laysSix_90 ⟨by decide, by decide⟩ ?_
  refine x_iald d_X12_laysSix_91 h.1 ?_
  have h := h.2
  refine r_aload_n (x := t) d_X12_laysSix_92 rfl o_t.1 ?_
  refine r_getf (j := 34) (t := 2) (x := t_taken) d_X12_laysSix_93 kX12 (by decide) fl_X12_80 o_t.1 o_t.2.1 o_t.2.2.1 o_t.2.2.2 rfl f_t_taken ?_
  refine r_iconst (x := 3) d_X12_laysSix_96 ⟨by decide, by decide⟩ ?_
  refine x_iald d_X12_laysSix_97 h.1 ?_
  have h := h.2
  refine r_iconst (x := 1) d_X12_laysSix_98 ⟨by decide, by decide⟩ ?_
  refine x_callVV (Y2 := mX12_putsBracket) (c := t) (As := [(0, (τ8 t_taken 1)), (0, (τ8 t_taken 2)), (0, (τ8 t_taken 3)), (0, 1)]) (S := []) d_X12_laysSix_99 ok_mX12_putsBracket ml_X12_211 rfl (Nat.le_of_ble_eq_true rfl) (Nat.le_of_ble_eq_true rfl) rfl hd_1 kX12 o_t (CV.mono h (fun σ9 h => ?_))
  refine r_aload_n (x := t) d_X12_laysSix_102 rfl o_t.1 ?_
  refine r_aload_n (x := t) d_X12_laysSix_103 rfl o_t.1 ?_
  refine r_getf (j := 34) (t := 2) (x := t_taken) d_X12_laysSix_104 kX12 (by decide) fl_X12_80 o_t.1 o_t.2.1 o_t.2.2.1 o_t.2.2.2 rfl f_t_taken ?_
  refine r_iconst (x := 0) d_X12_laysSix_107 ⟨by decide, by decide⟩ ?_
  refine x_iald d_X12_laysSix_108 h.1 ?_
  have h := h.2
  refine r_aload_n (x := t) d_X12_laysSix_109 rfl o_t.1 ?_
  refine r_getf (j := 34) (t := 2) (x := t_taken) d_X12_laysSix_110 kX12 (by decide) fl_X12_80 o_t.1 o_t.2.1 o_t.2.2.1 o_t.2.2.2 rfl f_t_taken ?_
  refine r_iconst (x := 4) d_X12_laysSix_113 ⟨by decide, by decide⟩ ?_
  refine x_iald d_X12_laysSix_114 h.1 ?_
  have h := h.2
  refine r_aload_n (x := t) d_X12_laysSix_115 rfl o_t.1 ?_
  refine r_getf (j := 34) (t := 2) (x := t_taken) d_X12_laysSix_116 kX12 (by decide) fl_X12_80 o_t.1 o_t.2.1 o_t.2.2.1 o_t.2.2.2 rfl f_t_taken ?_
  refine r_iconst (x := 5) d_X12_laysSix_119 ⟨by decide, by decide⟩ ?_
  refine x_iald d_X12_laysSix_120 h.1 ?_
  have h := h.2
  refine r_iconst (x := 2) d_X12_laysSix_121 ⟨by decide, by decide⟩ ?_
  refine x_callVV (Y2 := mX12_putsBracket) (c := t) (As := [(0, (σ9 t_taken 0)), (0, (σ9 t_taken 4)), (0, (σ9 t_taken 5)), (0, 2)]) (S := []) d_X12_laysSix_122 ok_mX12_putsBracket ml_X12_211 rfl (Nat.le_of_ble_eq_true rfl) (Nat.le_of_ble_eq_true rfl) rfl hd_1 kX12 o_t (CV.mono h (fun σ10 h => ?_))
  refine r_aload_n (x := t) d_X12_laysSix_125 rfl o_t.1 ?_
  refine r_iconst (x := 1) d_X12_laysSix_126 ⟨by decide, by decide⟩ ?_
  refine r_iconst (x := 2) d_X12_laysSix_127 ⟨by decide, by decide⟩ ?_
  refine r_iconst (x := (-1)) d_X12_laysSix_128 ⟨by decide, by decide⟩ ?_
  refine r_iload_n (x := x1) d_X12_laysSix_129 rfl ?_
  refine x_callVV (Y2 := mX12_multiplies) (c := t) (As := [(0, 1), (0, 2), (0, (-1)), (0, x1)]) (S := []) d_X12_laysSix_130 ok_mX12_multiplies ml_X12_231 rfl (Nat.le_of_ble_eq_true rfl) (Nat.le_of_ble_eq_true rfl) rfl hd_1 kX12 o_t (CV.mono h (fun σ11 h => ?_))
  refine r_aload_n (x := t) d_X12_laysSix_133 rfl o_t.1 ?_
  refine r_iload_n (x := x1) d_X12_laysSix_134 rfl ?_
  refine x_callVI (Y2 := mX12_straightens) (c := t) (As := [(0, x1)]) (S := []) d_X12_laysSix_135 ok_mX12_straightens ml_X12_241 rfl (Nat.le_of_ble_eq_true rfl) (Nat.le_of_ble_eq_true rfl) rfl hd_1 kX12 o_t (CI.mono h (fun v13 σ12 h => ?_))
  refine r_istore_n (L2 := [(2, t), (0, x1), (0, v13)]) d_X12_laysSix_138 (by decide) rfl rfl ?_
  exact r_vret d_X12_laysSix_139 rfl (Nat.le_refl 0) (Nat.le_refl 0) ⟨rfl, rfl, rfl, h⟩
theorem v_X12_multiple_0 {l : Launch} {d N : Nat} {Λ : Lay} {P : Int → Mem → Prop} {σ : Mem} {x1 x2 t t_pool : Int} (o_t : Ob N Λ t 21 36) (f_t_pool : (Λ t).2.2 7 = t_pool) (h0d : 1 ≤ d)
    (h : (Ix N Λ t_pool 0 (mulI 161 x1) ∧ (((σ t_pool (mulI 161 x1)) = 0 → P 0 σ) ∧ (¬ ((σ t_pool (mulI 161 x1)) = 0) → (Ix N Λ t_pool 0 (mulI 161 x1) ∧ (Ix N Λ t_pool 0 (mulI 161 x2) ∧ ((¬ (σ t_pool (mulI 161 x1)) = (σ t_pool (mulI 161 x2)) → P 0 σ) ∧ ((σ t_pool (mulI 161 x1)) = (σ t_pool (mulI 161 x2)) → (Ix N Λ t_pool 0 (addI (addI (mulI 161 x1) 2) (mulI 2 0)) ∧ (Ix N Λ t_pool 0 (addI (addI (mulI 161 x2) 2) (mulI 2 0)) ∧ (¬ (σ t_pool (addI (addI (mulI 161 x2) 2) (mulI 2 0))) = 0 ∧ (((remI (σ t_pool (addI (addI (mulI 161 x1) 2) (mulI 2 0))) (σ t_pool (addI (addI (mulI 161 x2) 2) (mulI 2 0)))) = 0 → (Ix N Λ t_pool 0 (addI (addI (mulI 161 x1) 2) (mulI 2 0)) ∧ (Ix N Λ t_pool 0 (addI (addI (mulI 161 x2) 2) (mulI 2 0)) ∧ (¬ (σ t_pool (addI (addI (mulI 161 x2) 2) (mulI 2 0))) = 0 ∧ (∀ y1, y1 = (divI (σ t_pool (addI (addI (mulI 161 x1) 2) (mulI 2 0))) (σ t_pool (addI (addI (mulI 161 x2) 2) (mulI 2 0)))) → WI l mX12_multiple d P 56 [(2, t), (0, x1), (0, x2), (0, y1), (0, 0)] [] N Λ σ))))) ∧ (¬ ((remI (σ t_pool (addI (addI (mulI 161 x1) 2) (mulI 2 0))) (σ t_pool (addI (addI (mulI 161 x2) 2) (mulI 2 0)))) = 0) → P 0 σ))))))))))))) :
    WI l mX12_multiple d P 0 [(2, t), (0, x1), (0, x2), (3, 0), (3, 0)] [] N Λ σ := by
  have hd_1 : 1 ≤ d := Nat.le_trans (by decide) h0d
  refine r_aload_n (x := t) d_X12_multiple_0 rfl o_t.1 ?_
  refine r_iload_n (x := x1) d_X12_multiple_1 rfl ?_
  refine x_callVI (Y2 := mX12_many) (c := t) (As := [(0, x1)]) (S := []) d_X12_multiple_2 ok_mX12_many ml_X12_113 rfl (Nat.le_of_ble_eq_true rfl) (Nat.le_of_ble_eq_true rfl) rfl hd_1 kX12 o_t (c_X12_many (v_X12_many_0 o_t f_t_pool ?_))
  refine ⟨h.1, ?_⟩
  have h := h.2
  show WP l mX12_multiple (rm d 0 0) noX _ 0 0 5 [(2, t), (0, x1), (0, x2), (3, 0), (3, 0)] [(0, (σ t_pool (mulI 161 x1)))] N Λ σ
  refine r_if_eq (tgt := 37) d_X12_multiple_5 rfl (fun hc => ?_) (fun hc => ?_)
  · have h := h.1 hc
    refine r_iconst (x := 0) d_X12_multiple_37 ⟨by decide, by decide⟩ ?_
    exact r_iret d_X12_multiple_38 rfl rfl (Nat.le_refl 0) (Nat.le_refl 0) ⟨_, rfl, rfl, rfl, h⟩
  · have h := h.2 hc
    refine r_aload_n (x := t) d_X12_multiple_8 rfl o_t.1 ?_
    refine r_iload_n (x := x1) d_X12_multiple_9 rfl ?_
    refine x_callVI (Y2 := mX12_many) (c := t) (As := [(0, x1)]) (S := []) d_X12_multiple_10 ok_mX12_many ml_X12_113 rfl (Nat.le_of_ble_eq_true rfl) (Nat.le_of_ble_eq_true rfl) rfl hd_1 kX12 o_t (c_X12_many (v_X12_many_0 o_t f_t_pool ?_))
    refine ⟨h.1, ?_⟩
    have h := h.2
    show WP l mX12_multiple (rm d 0 0) noX _ 0 0 13 [(2, t), (0, x1), (0, x2), (3, 0), (3, 0)] [(0, (σ t_pool (mulI 161 x1)))] N Λ σ
    refine r_aload_n (x := t) d_X12_multiple_13 rfl o_t.1 ?_
    refine r_iload_n (x := x2) d_X12_multiple_14 rfl ?_
    refine x_callVI (Y2 := mX12_many) (c := t) (As := [(0, x2)]) (S := [(0, (σ t_pool (mulI 161 x1)))]) d_X12_multiple_15 ok_mX12_many ml_X12_113 rfl (Nat.le_of_ble_eq_true rfl) (Nat.le_of_ble_eq_true rfl) rfl hd_1 kX12 o_t (c_X12_many (v_X12_many_0 o_t f_t_pool ?_))
    refine ⟨h.1, ?_⟩
    have h := h.2
    show WP l mX12_multiple (rm d 0 0) noX _ 0 0 18 [(2, t), (0, x1), (0, x2), (3, 0), (3, 0)] [(0, (σ t_pool (mulI 161 x2))), (0, (σ t_pool (mulI 161 x1)))] N Λ σ
    refine r_ic_ne (tgt := 37) d_X12_multiple_18 rfl (fun hc => ?_) (fun hc => ?_)
    · have h := h.1 hc
      refine r_iconst (x := 0) d_X12_multiple_37 ⟨by decide, by decide⟩ ?_
      exact r_iret d_X12_multiple_38 rfl rfl (Nat.le_refl 0) (Nat.le_refl 0) ⟨_, rfl, rfl, rfl, h⟩
    · have h := h.2 hc
      refine r_aload_n (x := t) d_X12_multiple_21 rfl o_t.1 ?_
      refine r_iload_n (x := x1) d_X12_multiple_22 rfl ?_
      refine r_iconst (x := 0) d_X12_multiple_23 ⟨by decide, by decide⟩ ?_
      refine x_callVI (Y2 := mX12_number) (c := t) (As := [(0, x1), (0, 0)]) (S := []) d_X12_multiple_24 ok_mX12_number ml_X12_132 rfl (Nat.le_of_ble_eq_true rfl) (Nat.le_of_ble_eq_true rfl) rfl hd_1 kX12 o_t (c_X12_number (v_X12_number_0 o_t f_t_pool ?_))
      refine ⟨h.1, ?_⟩
      have h := h.2
      show WP l mX12_multiple (rm d 0 0) noX _ 0 0 27 [(2, t), (0, x1), (0, x2), (3, 0), (3, 0)] [(0, (σ t_pool (addI (addI (mulI 161 x1) 2) (mulI 2 0))))] N Λ σ
      refine r_aload_n (x := t) d_X12_multiple_27 rfl o_t.1 ?_
      refine r_iload_n (x := x2) d_X12_multiple_28 rfl ?_
      refine r_iconst (x := 0) d_X12_multiple_29 ⟨by decide, by decide⟩ ?_
      refine x_callVI (Y2 := mX12_number) (c := t) (As := [(0, x2), (0, 0)]) (S := [(0, (σ t_pool (addI (addI (mulI 161 x1) 2) (mulI 2 0))))]) d_X12_multiple_30 ok_mX12_number ml_X12_132 rfl (Nat.le_of_ble_eq_true rfl) (Nat.le_of_ble_eq_true rfl) rfl hd_1 kX12 o_t (c_X12_number (v_X12_number_0 o_t f_t_pool ?_))
      refine ⟨h.1, ?_⟩
      have h := h.2
      show WP l mX12_multiple (rm d 0 0) noX _ 0 0 33 [(2, t), (0, x1), (0, x2), (3, 0), (3, 0)] [(0, (σ t_pool (addI (addI (mulI 161 x2) 2) (mulI 2 0)))), (0, (σ t_pool (addI (addI (mulI 161 x1) 2) (mulI 2 0))))] N Λ σ
      refine r_irem d_X12_multiple_33 h.1 ?_
      have h := h.2
      refine r_if_eq (tgt := 39) d_X12_multiple_34 rfl (fun hc => ?_) (fun hc => ?_)
      · have h := h.1 hc
        refine r_aload_n (x := t) d_X12_multiple_39 rfl o_t.1 ?_
        refine r_iload_n (x := x1) d_X12_multiple_40 rfl ?_
        refine r_iconst (x := 0) d_X12_multiple_41 ⟨by decide, by decide⟩ ?_
        refine x_callVI (Y2 := mX12_number) (c := t) (As := [(0, x1), (0, 0)]) (S := []) d_X12_multiple_42 ok_mX12_number ml_X12_132 rfl (Nat.le_of_ble_eq_true rfl) (Nat.le_of_ble_eq_true rfl) rfl hd_1 kX12 o_t (c_X12_number (v_X12_number_0 o_t f_t_pool ?_))
        refine ⟨h.1, ?_⟩
        have h := h.2
        show WP l mX12_multiple (rm d 0 0) noX _ 0 0 45 [(2, t), (0, x1), (0, x2), (3, 0), (3, 0)] [(0, (σ t_pool (addI (addI (mulI 161 x1) 2) (mulI 2 0))))] N Λ σ
        refine r_aload_n (x := t) d_X12_multiple_45 rfl o_t.1 ?_
        refine r_iload_n (x := x2) d_X12_multiple_46 rfl ?_
        refine r_iconst (x := 0) d_X12_multiple_47 ⟨by decide, by decide⟩ ?_
        refine x_callVI (Y2 := mX12_number) (c := t) (As := [(0, x2), (0, 0)]) (S := [(0, (σ t_pool (addI (addI (mulI 161 x1) 2) (mulI 2 0))))]) d_X12_multiple_48 ok_mX12_number ml_X12_132 rfl (Nat.le_of_ble_eq_true rfl) (Nat.le_of_ble_eq_true rfl) rfl hd_1 kX12 o_t (c_X12_number (v_X12_number_0 o_t f_t_pool ?_))
        refine ⟨h.1, ?_⟩
        have h := h.2
        show WP l mX12_multiple (rm d 0 0) noX _ 0 0 51 [(2, t), (0, x1), (0, x2), (3, 0), (3, 0)] [(0, (σ t_pool (addI (addI (mulI 161 x2) 2) (mulI 2 0)))), (0, (σ t_pool (addI (addI (mulI 161 x1) 2) (mulI 2 0))))] N Λ σ
        refine r_idiv d_X12_multiple_51 h.1 ?_
        have h := h.2
        refine r_nm (fun y1 ey1 => ?_)
        have h := h y1 ey1
        refine r_istore_n (L2 := [(2, t), (0, x1), (0, x2), (0, y1), (3, 0)]) d_X12_multiple_52 (by decide) rfl rfl ?_
        refine r_iconst (x := 0) d_X12_multiple_53 ⟨by decide, by decide⟩ ?_
        refine r_istore (L2 := [(2, t), (0, x1), (0, x2), (0, y1), (0, 0)]) d_X12_multiple_54 (by decide) rfl rfl ?_
        exact h
      · have h := h.2 hc
        refine r_iconst (x := 0) d_X12_multiple_37 ⟨by decide, by decide⟩ ?_
        exact r_iret d_X12_multiple_38 rfl rfl (Nat.le_refl 0) (Nat.le_refl 0) ⟨_, rfl, rfl, rfl, h⟩
theorem v_X12_multiple_56 {l : Launch} {d N : Nat} {Λ : Lay} {P : Int → Mem → Prop} {σ : Mem} {x1 x2 x3 x4 t t_pool : Int} (o_t : Ob N Λ t 21 36) (f_t_pool : (Λ t).2.2 7 = t_pool) (h0d : 1 ≤ d)
    (h : (Ix N Λ t_pool 0 (mulI 161 x1) ∧ (((σ t_pool (mulI 161 x1)) ≤ x4 → P x3 σ) ∧ (¬ ((σ t_pool (mulI 161 x1)) ≤ x4) → (Ix N Λ t_pool 0 (addI (addI (mulI 161 x1) 1) (mulI 2 x4)) ∧ (Ix N Λ t_pool 0 (addI (addI (mulI 161 x2) 1) (mulI 2 x4)) ∧ ((¬ (σ t_pool (addI (addI (mulI 161 x1) 1) (mulI 2 x4))) = (σ t_pool (addI (addI (mulI 161 x2) 1) (mulI 2 x4))) → P 0 σ) ∧ ((σ t_pool (addI (addI (mulI 161 x1) 1) (mulI 2 x4))) = (σ t_pool (addI (addI (mulI 161 x2) 1) (mulI 2 x4))) → (Ix N Λ t_pool 0 (addI (addI (mulI 161 x1) 2) (mulI 2 x4)) ∧ (Ix N Λ t_pool 0 (addI (addI (mulI 161 x2) 2) (mulI 2 x4)) ∧ (((cmpL (σ t_pool (addI (addI (mulI 161 x1) 2) (mulI 2 x4))) (mulL x3 (σ t_pool (addI (addI (mulI 161 x2) 2) (mulI 2 x4))))) = 0 → (∀ y1, y1 = addI x4 1 → WI l mX12_multiple d P 56 [(2, t), (0, x1), (0, x2), (0, x3), (0, y1)] [] N Λ σ)) ∧ (¬ ((cmpL (σ t_pool (addI (addI (mulI 161 x1) 2) (mulI 2 x4))) (mulL x3 (σ t_pool (addI (addI (mulI 161 x2) 2) (mulI 2 x4))))) = 0) → P 0 σ)))))))))))) :
    WI l mX12_multiple d P 56 [(2, t), (0, x1), (0, x2), (0, x3), (0, x4)] [] N Λ σ := by
  have hd_1 : 1 ≤ d := Nat.le_trans (by decide) h0d
  refine r_iload (x := x4) d_X12_multiple_56 rfl ?_
  refine r_aload_n (x := t) d_X12_multiple_58 rfl o_t.1 ?_
  refine r_iload_n (x := x1) d_X12_multiple_59 rfl ?_
  refine x_callVI (Y2 := mX12_many) (c := t) (As := [(0, x1)]) (S := [(0, x4)]) d_X12_multiple_60 ok_mX12_many ml_X12_113 rfl (Nat.le_of_ble_eq_true rfl) (Nat.le_of_ble_eq_true rfl) rfl hd_1 kX12 o_t (c_X12_many (v_X12_many_0 o_t f_t_pool ?_))
  refine ⟨h.1, ?_⟩
  have h := h.2
  show WP l mX12_multiple (rm d 0 0) noX _ 0 0 63 [(2, t), (0, x1), (0, x2), (0, x3), (0, x4)] [(0, (σ t_pool (mulI 161 x1))), (0, x4)] N Λ σ
  refine r_ic_ge (tgt := 114) d_X12_multiple_63 rfl (fun hc => ?_) (fun hc => ?_)
  · have h := h.1 hc
    refine r_iload_n (x := x3) d_X12_multiple_114 rfl ?_
    exact r_iret d_X12_multiple_115 rfl rfl (Nat.le_refl 0) (Nat.le_refl 0) ⟨_, rfl, rfl, rfl, h⟩
  · have h := h.2 hc
    refine r_aload_n (x := t) d_X12_multiple_66 rfl o_t.1 ?_
    refine r_iload_n (x := x1) d_X12_multiple_67 rfl ?_
    refine r_iload (x := x4) d_X12_multiple_68 rfl ?_
    refine x_callVI (Y2 := mX12_key) (c := t) (As := [(0, x1), (0, x4)]) (S := []) d_X12_multiple_70 ok_mX12_key ml_X12_117 rfl (Nat.le_of_ble_eq_true rfl) (Nat.le_of_ble_eq_true rfl) rfl hd_1 kX12 o_t (c_X12_key (v_X12_key_0 o_t f_t_pool ?_))
    refine ⟨h.1, ?_⟩
    have h := h.2
    show WP l mX12_multiple (rm d 0 0) noX _ 0 0 73 [(2, t), (0, x1), (0, x2), (0, x3), (0, x4)] [(0, (σ t_pool (addI (addI (mulI 161 x1) 1) (mulI 2 x4))))] N Λ σ
    refine r_aload_n (x := t) d_X12_multiple_73 rfl o_t.1 ?_
    refine r_iload_n (x := x2) d_X12_multiple_74 rfl ?_
    refine r_iload (x := x4) d_X12_multiple_75 rfl ?_
    refine x_callVI (Y2 := mX12_key) (c := t) (As := [(0, x2), (0, x4)]) (S := [(0, (σ t_pool (addI (addI (mulI 161 x1) 1) (mulI 2 x4))))]) d_X12_multiple_77 ok_mX12_key ml_X12_117 rfl (Nat.le_of_ble_eq_true rfl) (Nat.le_of_ble_eq_true rfl) rfl hd_1 kX12 o_t (c_X12_key (v_X12_key_0 o_t f_t_pool ?_))
    refine ⟨h.1, ?_⟩
    have h := h.2
    show WP l mX12_multiple (rm d 0 0) noX _ 0 0 80 [(2, t), (0, x1), (0, x2), (0, x3), (0, x4)] [(0, (σ t_pool (addI (addI (mulI 161 x2) 1) (mulI 2 x4)))), (0, (σ t_pool (addI (addI (mulI 161 x1) 1) (mulI 2 x4))))] N Λ σ
    refine r_ic_ne (tgt := 106) d_X12_multiple_80 rfl (fun hc => ?_) (fun hc => ?_)
    · have h := h.1 hc
      refine r_iconst (x := 0) d_X12_multiple_106 ⟨by decide, by decide⟩ ?_
      exact r_iret d_X12_multiple_107 rfl rfl (Nat.le_refl 0) (Nat.le_refl 0) ⟨_, rfl, rfl, rfl, h⟩
    · have h := h.2 hc
      refine r_aload_n (x := t) d_X12_multiple_83 rfl o_t.1 ?_
      refine r_iload_n (x := x1) d_X12_multiple_84 rfl ?_
      refine r_iload (x := x4) d_X12_multiple_85 rfl ?_
      refine x_callVI (Y2 := mX12_number) (c := t) (As := [(0, x1), (0, x4)]) (S := []) d_X12_multiple_87 ok_mX12_number ml_X12_132 rfl (Nat.le_of_ble_eq_true rfl) (Nat.le_of_ble_eq_true rfl) rfl hd_1 kX12 o_t (c_X12_number (v_X12_number_0 o_t f_t_pool ?_))
      refine ⟨h.1, ?_⟩
      have h := h.2
      show WP l mX12_multiple (rm d 0 0) noX _ 0 0 90 [(2, t), (0, x1), (0, x2), (0, x3), (0, x4)] [(0, (σ t_pool (addI (addI (mulI 161 x1) 2) (mulI 2 x4))))] N Λ σ
      refine r_i2l d_X12_multiple_90 ?_
      refine r_iload_n (x := x3) d_X12_multiple_91 rfl ?_
      refine r_i2l d_X12_multiple_92 ?_
      refine r_aload_n (x := t) d_X12_multiple_93 rfl o_t.1 ?_
      refine r_iload_n (x := x2) d_X12_multiple_94 rfl ?_
      refine r_iload (x := x4) d_X12_multiple_95 rfl ?_
      refine x_callVI (Y2 := mX12_number) (c := t) (As := [(0, x2), (0, x4)]) (S := [(1, x3), (1, (σ t_pool (addI (addI (mulI 161 x1) 2) (mulI 2 x4))))]) d_X12_multiple_97 ok_mX12_number ml_X12_132 rfl (Nat.le_of_ble_eq_true rfl) (Nat.le_of_ble_eq_true rfl) rfl hd_1 kX12 o_t (c_X12_number (v_X12_number_0 o_t f_t_pool ?_))
      refine ⟨h.1, ?_⟩
      have h := h.2
      show WP l mX12_multiple (rm d 0 0) noX _ 0 0 100 [(2, t), (0, x1), (0, x2), (0, x3), (0, x4)] [(0, (σ t_pool (addI (addI (mulI 161 x2) 2) (mulI 2 x4)))), (1, x3), (1, (σ t_pool (addI (addI (mulI 161 x1) 2) (mulI 2 x4))))] N Λ σ
      refine r_i2l d_X12_multiple_100 ?_
      refine r_lmul d_X12_multiple_101 ?_
      refine r_lcmp d_X12_multiple_102 ?_
      refine r_if_eq (tgt := 108) d_X12_multiple_103 rfl (fun hc => ?_) (fun hc => ?_)
      · have h := h.1 hc
        refine x_iinc (x := x4) (L := [(2, t), (0, x1), (0, x2), (0, x3), (0, x4)]) d_X12_multiple_108 rfl (by decide) rfl (fun y1 ey1 => ?_)
        have h := h y1 ey1
        show WP _ _ _ _ _ _ _ _ [(2, t), (0, x1), (0, x2), (0, x3), (0, y1)] _ _ _ _
        refine r_goto (tgt := 56) d_X12_multiple_111 rfl ?_
        exact h
      · have h := h.2 hc
        refine r_iconst (x := 0) d_X12_multiple_106 ⟨by decide, by decide⟩ ?_
        exact r_iret d_X12_multiple_107 rfl rfl (Nat.le_refl 0) (Nat.le_refl 0) ⟨_, rfl, rfl, rfl, h⟩
theorem v_X12_isFound_0 {l : Launch} {d N : Nat} {Λ : Lay} {P : Int → Mem → Prop} {σ : Mem} {x1 x2 t t_found : Int} (o_t : Ob N Λ t 21 36) (f_t_found : (Λ t).2.2 35 = t_found) (h0d : 1 ≤ d)
    (h : ((¬ x1 = 6 → WI l mX12_isFound d P 70 [(2, t), (0, x1), (0, x2), (0, 0)] [] N Λ σ) ∧ (x1 = 6 → (CV l mX12_laysSix (d - 1) [(2, t), (0, 4)] N Λ σ (fun σ1 => (CI l mX12_multiple (d - 1) [(2, t), (0, 3), (0, 4)] N Λ σ1 (fun v3 σ2 => (Ix N Λ t_found 0 0 ∧ (∀ τ4, τ4 = st σ2 t_found 0 v3 → WI l mX12_isFound d P 25 [(2, t), (0, x1), (0, x2), (0, 0)] [] N Λ τ4))))))))) :
    WI l mX12_isFound d P 0 [(2, t), (0, x1), (0, x2), (3, 0)] [] N Λ σ := by
  have hd_1 : 1 ≤ d := Nat.le_trans (by decide) h0d
  refine r_iload_n (x := x1) d_X12_isFound_0 rfl ?_
  refine r_bipush (x := 6) d_X12_isFound_1 ⟨by decide, by decide⟩ (by decide) ?_
  refine r_ic_ne (tgt := 68) d_X12_isFound_3 rfl (fun hc => ?_) (fun hc => ?_)
  · have h := h.1 hc
    refine r_iconst (x := 0) d_X12_isFound_68 ⟨by decide, by decide⟩ ?_
    refine r_istore_n (L2 := [(2, t), (0, x1), (0, x2), (0, 0)]) d_X12_isFound_69 (by decide) rfl rfl ?_
    exact h
  · have h := h.2 hc
    refine r_aload_n (x := t) d_X12_isFound_6 rfl o_t.1 ?_
    refine r_iconst (x := 4) d_X12_isFound_7 ⟨by decide, by decide⟩ ?_
    refine x_callVV (Y2 := mX12_laysSix) (c := t) (As := [(0, 4)]) (S := []) d_X12_isFound_8 ok_mX12_laysSix ml_X12_398 rfl (Nat.le_of_ble_eq_true rfl) (Nat.le_of_ble_eq_true rfl) rfl hd_1 kX12 o_t (CV.mono h (fun σ1 h => ?_))
    refine r_aload_n (x := t) d_X12_isFound_11 rfl o_t.1 ?_
    refine r_getf (j := 35) (t := 2) (x := t_found) d_X12_isFound_12 kX12 (by decide) fl_X12_83 o_t.1 o_t.2.1 o_t.2.2.1 o_t.2.2.2 rfl f_t_found ?_
    refine r_iconst (x := 0) d_X12_isFound_15 ⟨by decide, by decide⟩ ?_
    refine r_aload_n (x := t) d_X12_isFound_16 rfl o_t.1 ?_
    refine r_iconst (x := 3) d_X12_isFound_17 ⟨by decide, by decide⟩ ?_
    refine r_iconst (x := 4) d_X12_isFound_18 ⟨by decide, by decide⟩ ?_
    refine x_callVI (Y2 := mX12_multiple) (c := t) (As := [(0, 3), (0, 4)]) (S := [(0, 0), (2, t_found)]) d_X12_isFound_19 ok_mX12_multiple ml_X12_401 rfl (Nat.le_of_ble_eq_true rfl) (Nat.le_of_ble_eq_true rfl) rfl hd_1 kX12 o_t (CI.mono h (fun v3 σ2 h => ?_))
    refine x_iast d_X12_isFound_22 h.1 ?_
    have h := h.2
    refine r_nmM (fun τ4 eτ4 => ?_)
    have h := h τ4 eτ4
    refine r_iconst (x := 0) d_X12_isFound_23 ⟨by decide, by decide⟩ ?_
    refine r_istore_n (L2 := [(2, t), (0, x1), (0, x2), (0, 0)]) d_X12_isFound_24 (by decide) rfl rfl ?_
    exact h
theorem v_X12_isFound_25 {l : Launch} {d N : Nat} {Λ : Lay} {P : Int → Mem → Prop} {σ : Mem} {x1 x2 x3 t t_found t_taken : Int} (o_t : Ob N Λ t 21 36) (f_t_found : (Λ t).2.2 35 = t_found) (f_t_taken : (Λ t).2.2 34 = t_taken)
    (h : ((6 ≤ x3 → (Ix N Λ t_found 0 0 ∧ (((σ t_found 0) = 0 → P 0 σ) ∧ (¬ ((σ t_found 0) = 0) → P 1 σ)))) ∧ (¬ (6 ≤ x3) → (Ix N Λ t_taken 0 x3 ∧ (Ix N Λ t_found 0 (addI x3 1) ∧ (∀ τ1, τ1 = st σ t_found (addI x3 1) (addI (σ t_taken x3) 1) → (∀ y2, y2 = addI x3 1 → WI l mX12_isFound d P 25 [(2, t), (0, x1), (0, x2), (0, y2)] [] N Λ τ1))))))) :
    WI l mX12_isFound d P 25 [(2, t), (0, x1), (0, x2), (0, x3)] [] N Λ σ := by
  refine r_iload_n (x := x3) d_X12_isFound_25 rfl ?_
  refine r_bipush (x := 6) d_X12_isFound_26 ⟨by decide, by decide⟩ (by decide) ?_
  refine r_ic_ge (tgt := 53) d_X12_isFound_28 rfl (fun hc => ?_) (fun hc => ?_)
  · have h := h.1 hc
    refine r_aload_n (x := t) d_X12_isFound_53 rfl o_t.1 ?_
    refine r_getf (j := 35) (t := 2) (x := t_found) d_X12_isFound_54 kX12 (by decide) fl_X12_83 o_t.1 o_t.2.1 o_t.2.2.1 o_t.2.2.2 rfl f_t_found ?_
    refine r_iconst (x := 0) d_X12_isFound_57 ⟨by decide, by decide⟩ ?_
    refine x_iald d_X12_isFound_58 h.1 ?_
    have h := h.2
    refine r_if_eq (tgt := 66) d_X12_isFound_59 rfl (fun hc => ?_) (fun hc => ?_)
    · have h := h.1 hc
      refine r_iconst (x := 0) d_X12_isFound_66 ⟨by decide, by decide⟩ ?_
      exact r_iret d_X12_isFound_67 rfl (by decide) (Nat.le_refl 0) (Nat.le_refl 0) ⟨_, rfl, rfl, rfl, h⟩
    · have h := h.2 hc
      refine r_iconst (x := 1) d_X12_isFound_62 ⟨by decide, by decide⟩ ?_
      refine r_goto (tgt := 67) d_X12_isFound_63 rfl ?_
      exact r_iret d_X12_isFound_67 rfl (by decide) (Nat.le_refl 0) (Nat.le_refl 0) ⟨_, rfl, rfl, rfl, h⟩
  · have h := h.2 hc
    refine r_aload_n (x := t) d_X12_isFound_31 rfl o_t.1 ?_
    refine r_getf (j := 35) (t := 2) (x := t_found) d_X12_isFound_32 kX12 (by decide) fl_X12_83 o_t.1 o_t.2.1 o_t.2.2.1 o_t.2.2.2 rfl f_t_found ?_
    refine r_iload_n (x := x3) d_X12_isFound_35 rfl ?_
    refine r_iconst (x := 1) d_X12_isFound_36 ⟨by decide, by decide⟩ ?_
    refine r_iadd d_X12_isFound_37 ?_
    refine r_aload_n (x := t) d_X12_isFound_38 rfl o_t.1 ?_
    refine r_getf (j := 34) (t := 2) (x := t_taken) d_X12_isFound_39 kX12 (by decide) fl_X12_80 o_t.1 o_t.2.1 o_t.2.2.1 o_t.2.2.2 rfl f_t_taken ?_
    refine r_iload_n (x := x3) d_X12_isFound_42 rfl ?_
    refine x_iald d_X12_isFound_43 h.1 ?_
    have h := h.2
    refine r_iconst (x := 1) d_X12_isFound_44 ⟨by decide, by decide⟩ ?_
    refine r_iadd d_X12_isFound_45 ?_
    refine x_iast d_X12_isFound_46 h.1 ?_
    have h := h.2
    refine r_nmM (fun τ1 eτ1 => ?_)
    have h := h τ1 eτ1
    refine x_iinc (x := x3) (L := [(2, t), (0, x1), (0, x2), (0, x3)]) d_X12_isFound_47 rfl (by decide) rfl (fun y2 ey2 => ?_)
    have h := h y2 ey2
    show WP _ _ _ _ _ _ _ _ [(2, t), (0, x1), (0, x2), (0, y2)] _ _ _ _
    refine r_goto (tgt := 25) d_X12_isFound_50 rfl ?_
    exact h
theorem v_X12_isFound_70 {l : Launch} {d N : Nat} {Λ : Lay} {P : Int → Mem → Prop} {σ : Mem} {x1 x2 x3 t t_six t_taken : Int} (o_t : Ob N Λ t 21 36) (f_t_taken : (Λ t).2.2 34 = t_taken) (f_t_six : (Λ t).2.2 33 = t_six) (h0d : 1 ≤ d)
    (h : ((6 ≤ x3 → P 0 σ) ∧ (¬ (6 ≤ x3) → ((¬ (andI (shrI x2 x3) 1) = 1 → (Ix N Λ t_six 0 x3 ∧ (Ix N Λ t_taken 0 x1 ∧ (∀ τ1, τ1 = st σ t_taken x1 (σ t_six x3) → (CI l mX12_isFound (d - 1) [(2, t), (0, (addI x1 1)), (0, (orI x2 (shlI 1 x3)))] N Λ τ1 (fun v3 σ2 => ((v3 = 0 → (∀ y4, y4 = addI x3 1 → WI l mX12_isFound d P 70 [(2, t), (0, x1), (0, x2), (0, y4)] [] N Λ σ2)) ∧ (¬ (v3 = 0) → P 1 σ2)))))))) ∧ ((andI (shrI x2 x3) 1) = 1 → (∀ y5, y5 = addI x3 1 → WI l mX12_isFound d P 70 [(2, t), (0, x1), (0, x2), (0, y5)] [] N Λ σ)))))) :
    WI l mX12_isFound d P 70 [(2, t), (0, x1), (0, x2), (0, x3)] [] N Λ σ := by
  have hd_1 : 1 ≤ d := Nat.le_trans (by decide) h0d
  refine r_iload_n (x := x3) d_X12_isFound_70 rfl ?_
  refine r_bipush (x := 6) d_X12_isFound_71 ⟨by decide, by decide⟩ (by decide) ?_
  refine r_ic_ge (tgt := 123) d_X12_isFound_73 rfl (fun hc => ?_) (fun hc => ?_)
  · have h := h.1 hc
    refine r_iconst (x := 0) d_X12_isFound_123 ⟨by decide, by decide⟩ ?_
    exact r_iret d_X12_isFound_124 rfl (by decide) (Nat.le_refl 0) (Nat.le_refl 0) ⟨_, rfl, rfl, rfl, h⟩
  · have h := h.2 hc
    refine r_iload_n (x := x2) d_X12_isFound_76 rfl ?_
    refine r_iload_n (x := x3) d_X12_isFound_77 rfl ?_
    refine r_ishr d_X12_isFound_78 ?_
    refine r_iconst (x := 1) d_X12_isFound_79 ⟨by decide, by decide⟩ ?_
    refine r_iand d_X12_isFound_80 ?_
    refine r_iconst (x := 1) d_X12_isFound_81 ⟨by decide, by decide⟩ ?_
    refine r_ic_ne (tgt := 88) d_X12_isFound_82 rfl (fun hc => ?_) (fun hc => ?_)
    · have h := h.1 hc
      refine r_aload_n (x := t) d_X12_isFound_88 rfl o_t.1 ?_
      refine r_getf (j := 34) (t := 2) (x := t_taken) d_X12_isFound_89 kX12 (by decide) fl_X12_80 o_t.1 o_t.2.1 o_t.2.2.1 o_t.2.2.2 rfl f_t_taken ?_
      refine r_iload_n (x := x1) d_X12_isFound_92 rfl ?_
      refine r_aload_n (x := t) d_X12_isFound_93 rfl o_t.1 ?_
      refine r_getf (j := 33) (t := 2) (x := t_six) d_X12_isFound_94 kX12 (by decide) fl_X12_77 o_t.1 o_t.2.1 o_t.2.2.1 o_t.2.2.2 rfl f_t_six ?_
      refine r_iload_n (x := x3) d_X12_isFound_97 rfl ?_
      refine x_iald d_X12_isFound_98 h.1 ?_
      have h := h.2
      refine x_iast d_X12_isFound_99 h.1 ?_
      have h := h.2
      refine r_nmM (fun τ1 eτ1 => ?_)
      have h := h τ1 eτ1
      refine r_aload_n (x := t) d_X12_isFound_100 rfl o_t.1 ?_
      refine r_iload_n (x := x1) d_X12_isFound_101 rfl ?_
      refine r_iconst (x := 1) d_X12_isFound_102 ⟨by decide, by decide⟩ ?_
      refine r_iadd d_X12_isFound_103 ?_
      refine r_iload_n (x := x2) d_X12_isFound_104 rfl ?_
      refine r_iconst (x := 1) d_X12_isFound_105 ⟨by decide, by decide⟩ ?_
      refine r_iload_n (x := x3) d_X12_isFound_106 rfl ?_
      refine r_ishl d_X12_isFound_107 ?_
      refine r_ior d_X12_isFound_108 ?_
      refine x_callVI (Y2 := mX12_isFound) (c := t) (As := [(0, (addI x1 1)), (0, (orI x2 (shlI 1 x3)))]) (S := []) d_X12_isFound_109 ok_mX12_isFound ml_X12_404 rfl (Nat.le_of_ble_eq_true rfl) (Nat.le_of_ble_eq_true rfl) rfl hd_1 kX12 o_t (CI.mono h (fun v3 σ2 h => ?_))
      refine r_if_eq (tgt := 117) d_X12_isFound_112 rfl (fun hc => ?_) (fun hc => ?_)
      · have h := h.1 hc
        refine x_iinc (x := x3) (L := [(2, t), (0, x1), (0, x2), (0, x3)]) d_X12_isFound_117 rfl (by decide) rfl (fun y4 ey4 => ?_)
        have h := h y4 ey4
        show WP _ _ _ _ _ _ _ _ [(2, t), (0, x1), (0, x2), (0, y4)] _ _ _ _
        refine r_goto (tgt := 70) d_X12_isFound_120 rfl ?_
        exact h
      · have h := h.2 hc
        refine r_iconst (x := 1) d_X12_isFound_115 ⟨by decide, by decide⟩ ?_
        exact r_iret d_X12_isFound_116 rfl (by decide) (Nat.le_refl 0) (Nat.le_refl 0) ⟨_, rfl, rfl, rfl, h⟩
    · have h := h.2 hc
      refine r_goto (tgt := 117) d_X12_isFound_85 rfl ?_
      refine x_iinc (x := x3) (L := [(2, t), (0, x1), (0, x2), (0, x3)]) d_X12_isFound_117 rfl (by decide) rfl (fun y5 ey5 => ?_)
      have h := h y5 ey5
      show WP _ _ _ _ _ _ _ _ [(2, t), (0, x1), (0, x2), (0, y5)] _ _ _ _
      refine r_goto (tgt := 70) d_X12_isFound_120 rfl ?_
      exact h
theorem v_X12_factor_0 {l : Launch} {d N : Nat} {Λ : Lay} {P : Int → Mem → Prop} {σ : Mem} {x1 x2 t t_found t_pool t_state : Int} (o_t : Ob N Λ t 21 36) (f_t_pool : (Λ t).2.2 7 = t_pool) (f_t_state : (Λ t).2.2 3 = t_state) (f_t_found : (Λ t).2.2 35 = t_found) (h0d : 3 ≤ d)
    (h : (∀ τ1, τ1 = st σ t 0 0 → (((cmpL x1 0) < 0 → (∀ τ2, τ2 = st τ1 t 16 0 → P (-2) τ2)) ∧ (¬ ((cmpL x1 0) < 0) → ((0 < (cmpL x1 5) → (∀ τ3, τ3 = st τ1 t 16 0 → P (-2) τ3)) ∧ (¬ (0 < (cmpL x1 5)) → (((cmpL x2 0) < 0 → (∀ τ4, τ4 = st τ1 t 16 0 → P (-2) τ4)) ∧ (¬ ((cmpL x2 0) < 0) → ((0 < (cmpL x2 6) → (∀ τ5, τ5 = st τ1 t 16 0 → P (-2) τ5)) ∧ (¬ (0 < (cmpL x2 6)) → (CI l mX12_areSix (d - 1) [(2, t), (0, x1)] N Λ τ1 (fun v7 σ6 => ((¬ v7 = 0 → (∀ τ8, τ8 = st σ6 t 8 0 → (Ix N Λ t_pool 0 (mulI 161 0) ∧ (∀ τ9, τ9 = st τ8 t_pool (mulI 161 0) 0 → (CV l mX12_copies (d - 1 - 1 - 1) [(2, t_state), (0, (mulI 161 x1)), (2, t_pool), (0, (mulI 161 3)), (0, 161)] N Λ τ9 (fun σ10 => (CI l mX12_straightens (d - 1 - 1) [(2, t), (0, 3)] N Λ σ10 (fun v11 σ12 => (∀ τ13, τ13 = st σ12 t 24 v11 → (∀ τ14, τ14 = st τ13 t 16 (τ13 t 8) → ((¬ (τ14 t 8) = 0 → ((¬ (τ14 t 8) = 4 → P (-4) τ14) ∧ ((τ14 t 8) = 4 → P (-7) τ14))) ∧ ((τ14 t 8) = 0 → (CI l mX12_isFound (d - 1) [(2, t), (0, 0), (0, 0)] N Λ τ14 (fun v16 σ15 => ((v16 = 0 → P 0 σ15) ∧ (¬ (v16 = 0) → (Ix N Λ t_found 0 x2 ∧ P (σ15 t_found x2) σ15))))))))))))))))) ∧ (v7 = 0 → (∀ τ17, τ17 = st σ6 t 16 0 → P 0 τ17))))))))))))))) :
    WI l mX12_factor d P 0 [(2, t), (0, x1), (0, x2), (3, 0)] [] N Λ σ := by
  have hd_1 : 1 ≤ d := Nat.le_trans (by decide) h0d
  have he_1 : 1 ≤ d - 1 := Nat.le_sub_of_add_le (Nat.le_trans (by decide) h0d)
  have he_2 : 2 ≤ d - 1 := Nat.le_sub_of_add_le (Nat.le_trans (by decide) h0d)
  refine r_aload_n (x := t) d_X12_factor_0 rfl o_t.1 ?_
  refine r_iconst (x := 0) d_X12_factor_1 ⟨by decide, by decide⟩ ?_
  refine r_putI (j := 0) d_X12_factor_2 kX12 (by decide) fl_X12_1 rfl o_t.1 o_t.2.1 o_t.2.2.1 o_t.2.2.2 rfl ?_
  refine r_nmM (fun τ1 eτ1 => ?_)
  have h := h τ1 eτ1
  refine r_iload_n (x := x1) d_X12_factor_5 rfl ?_
  refine x_callSI (Y2 := mX12_isShelf) (As := [(0, x1)]) (S := []) d_X12_factor_6 ok_mX12_isShelf ml_X12_199 rfl (Nat.le_of_ble_eq_true rfl) (Nat.le_of_ble_eq_true rfl) rfl hd_1 (c_X12_isShelf (v_X12_isShelf_0 he_1 ?_))
  refine ⟨fun hc => ?_, fun hc => ?_⟩
  · have h := h.1 hc
    show WP l mX12_factor (rm d 0 0) noX _ 0 0 9 [(2, t), (0, x1), (0, x2), (3, 0)] [(0, 0)] N Λ τ1
    refine r_if_eq (tgt := 24) d_X12_factor_9 rfl (fun _ => ?_) (fun hc => absurd hc (by decide))
    refine r_aload_n (x := t) d_X12_factor_24 rfl o_t.1 ?_
    refine r_bipush (x := (-2)) d_X12_factor_25 ⟨by decide, by decide⟩ (by decide) ?_
    refine x_callVI (Y2 := mX12_refused) (c := t) (As := [(0, (-2))]) (S := []) d_X12_factor_27 ok_mX12_refused ml_X12_218 rfl (Nat.le_of_ble_eq_true rfl) (Nat.le_of_ble_eq_true rfl) rfl hd_1 kX12 o_t (c_X12_refused (v_X12_refused_0 o_t ?_))
    intro τ2 eτ2
    have h := h τ2 eτ2
    show WP l mX12_factor (rm d 0 0) noX _ 0 0 30 [(2, t), (0, x1), (0, x2), (3, 0)] [(0, (-2))] N Λ τ2
    exact r_iret d_X12_factor_30 rfl rfl (Nat.le_refl 0) (Nat.le_refl 0) ⟨_, rfl, rfl, rfl, h⟩
  · have h := h.2 hc
    refine ⟨fun hc => ?_, fun hc => ?_⟩
    · have h := h.1 hc
      show WP l mX12_factor (rm d 0 0) noX _ 0 0 9 [(2, t), (0, x1), (0, x2), (3, 0)] [(0, 0)] N Λ τ1
      refine r_if_eq (tgt := 24) d_X12_factor_9 rfl (fun _ => ?_) (fun hc => absurd hc (by decide))
      refine r_aload_n (x := t) d_X12_factor_24 rfl o_t.1 ?_
      refine r_bipush (x := (-2)) d_X12_factor_25 ⟨by decide, by decide⟩ (by decide) ?_
      refine x_callVI (Y2 := mX12_refused) (c := t) (As := [(0, (-2))]) (S := []) d_X12_factor_27 ok_mX12_refused ml_X12_218 rfl (Nat.le_of_ble_eq_true rfl) (Nat.le_of_ble_eq_true rfl) rfl hd_1 kX12 o_t (c_X12_refused (v_X12_refused_0 o_t ?_))
      intro τ3 eτ3
      have h := h τ3 eτ3
      show WP l mX12_factor (rm d 0 0) noX _ 0 0 30 [(2, t), (0, x1), (0, x2), (3, 0)] [(0, (-2))] N Λ τ3
      exact r_iret d_X12_factor_30 rfl rfl (Nat.le_refl 0) (Nat.le_refl 0) ⟨_, rfl, rfl, rfl, h⟩
    · have h := h.2 hc
      show WP l mX12_factor (rm d 0 0) noX _ 0 0 9 [(2, t), (0, x1), (0, x2), (3, 0)] [(0, 1)] N Λ τ1
      refine r_if_eq (tgt := 24) d_X12_factor_9 rfl (fun hc => absurd hc (by decide)) (fun _ => ?_)
      refine r_iload_n (x := x2) d_X12_factor_12 rfl ?_
      refine r_i2l d_X12_factor_13 ?_
      refine r_lconst d_X12_factor_14 ?_
      skip
      refine r_ldc2 (x := 6) d_X12_factor_15 ck_X12_407 (by decide) ?_
      refine x_callSI (Y2 := mX12_within) (As := [(1, x2), (1, 0), (1, 6)]) (S := []) d_X12_factor_18 ok_mX12_within ml_X12_91 rfl (Nat.le_of_ble_eq_true rfl) (Nat.le_of_ble_eq_true rfl) rfl hd_1 (c_X12_within (v_X12_within_0 ?_))
      refine ⟨fun hc => ?_, fun hc => ?_⟩
      · have h := h.1 hc
        show WP l mX12_factor (rm d 0 0) noX _ 0 0 21 [(2, t), (0, x1), (0, x2), (3, 0)] [(0, 0)] N Λ τ1
        refine r_if_ne (tgt := 31) d_X12_factor_21 rfl (fun hc => absurd hc (by decide)) (fun _ => ?_)
        refine r_aload_n (x := t) d_X12_factor_24 rfl o_t.1 ?_
        refine r_bipush (x := (-2)) d_X12_factor_25 ⟨by decide, by decide⟩ (by decide) ?_
        refine x_callVI (Y2 := mX12_refused) (c := t) (As := [(0, (-2))]) (S := []) d_X12_factor_27 ok_mX12_refused ml_X12_218 rfl (Nat.le_of_ble_eq_true rfl) (Nat.le_of_ble_eq_true rfl) rfl hd_1 kX12 o_t (c_X12_refused (v_X12_refused_0 o_t ?_))
        intro τ4 eτ4
        have h := h τ4 eτ4
        show WP l mX12_factor (rm d 0 0) noX _ 0 0 30 [(2, t), (0, x1), (0, x2), (3, 0)] [(0, (-2))] N Λ τ4
        exact r_iret d_X12_factor_30 rfl rfl (Nat.le_refl 0) (Nat.le_refl 0) ⟨_, rfl, rfl, rfl, h⟩
      · have h := h.2 hc
        refine ⟨fun hc => ?_, fun hc => ?_⟩
        · have h := h.1 hc
          show WP l mX12_factor (rm d 0 0) noX _ 0 0 21 [(2, t), (0, x1), (0, x2), (3, 0)] [(0, 0)] N Λ τ1
          refine r_if_ne (tgt := 31) d_X12_factor_21 rfl (fun hc => absurd hc (by decide)) (fun _ => ?_)
          refine r_aload_n (x := t) d_X12_factor_24 rfl o_t.1 ?_
          refine r_bipush (x := (-2)) d_X12_factor_25 ⟨by decide, by decide⟩ (by decide) ?_
          refine x_callVI (Y2 := mX12_refused) (c := t) (As := [(0, (-2))]) (S := []) d_X12_factor_27 ok_mX12_refused ml_X12_218 rfl (Nat.le_of_ble_eq_true rfl) (Nat.le_of_ble_eq_true rfl) rfl hd_1 kX12 o_t (c_X12_refused (v_X12_refused_0 o_t ?_))
          intro τ5 eτ5
          have h := h τ5 eτ5
          show WP l mX12_factor (rm d 0 0) noX _ 0 0 30 [(2, t), (0, x1), (0, x2), (3, 0)] [(0, (-2))] N Λ τ5
          exact r_iret d_X12_factor_30 rfl rfl (Nat.le_refl 0) (Nat.le_refl 0) ⟨_, rfl, rfl, rfl, h⟩
        · have h := h.2 hc
          show WP l mX12_factor (rm d 0 0) noX _ 0 0 21 [(2, t), (0, x1), (0, x2), (3, 0)] [(0, 1)] N Λ τ1
          refine r_if_ne (tgt := 31) d_X12_factor_21 rfl (fun _ => ?_) (fun hc => absurd hc (by decide))
          refine r_aload_n (x := t) d_X12_factor_31 rfl o_t.1 ?_
          refine r_iload_n (x := x1) d_X12_factor_32 rfl ?_
          refine x_callVI (Y2 := mX12_areSix) (c := t) (As := [(0, x1)]) (S := []) d_X12_factor_33 ok_mX12_areSix ml_X12_409 rfl (Nat.le_of_ble_eq_true rfl) (Nat.le_of_ble_eq_true rfl) rfl hd_1 kX12 o_t (CI.mono h (fun v7 σ6 h => ?_))
          refine r_if_ne (tgt := 45) d_X12_factor_36 rfl (fun hc => ?_) (fun hc => ?_)
          · have h := h.1 hc
            refine r_aload_n (x := t) d_X12_factor_45 rfl o_t.1 ?_
            refine x_callVV (Y2 := mX12_begins) (c := t) (As := []) (S := []) d_X12_factor_46 ok_mX12_begins ml_X12_202 rfl (Nat.le_of_ble_eq_true rfl) (Nat.le_of_ble_eq_true rfl) rfl hd_1 kX12 o_t (c_X12_begins (v_X12_begins_0 o_t f_t_pool he_1 ?_))
            intro τ8 eτ8
            have h := h τ8 eτ8
            refine ⟨h.1, ?_⟩
            have h := h.2
            intro τ9 eτ9
            have h := h τ9 eτ9
            show WP l mX12_factor (rm d 0 0) noX _ 0 0 49 [(2, t), (0, x1), (0, x2), (3, 0)] [] N Λ τ9
            refine r_aload_n (x := t) d_X12_factor_49 rfl o_t.1 ?_
            refine r_iload_n (x := x1) d_X12_factor_50 rfl ?_
            refine r_iconst (x := 3) d_X12_factor_51 ⟨by decide, by decide⟩ ?_
            refine x_callVI (Y2 := mX12_straightInto) (c := t) (As := [(0, x1), (0, 3)]) (S := []) d_X12_factor_52 ok_mX12_straightInto ml_X12_349 rfl (Nat.le_of_ble_eq_true rfl) (Nat.le_of_ble_eq_true rfl) rfl hd_1 kX12 o_t (c_X12_straightInto (v_X12_straightInto_0 o_t f_t_state f_t_pool he_2 ?_))
            refine CV.mono h (fun σ10 h => ?_)
            refine CI.mono h (fun v11 σ12 h => ?_)
            intro τ13 eτ13
            have h := h τ13 eτ13
            intro τ14 eτ14
            have h := h τ14 eτ14
            refine ⟨fun hc => ?_, fun hc => ?_⟩
            · have h := h.1 hc
              refine ⟨fun hc => ?_, fun hc => ?_⟩
              · have h := h.1 hc
                show WP l mX12_factor (rm d 0 0) noX _ 0 0 55 [(2, t), (0, x1), (0, x2), (3, 0)] [(0, (-4))] N Λ τ14
                refine r_istore_n (L2 := [(2, t), (0, x1), (0, x2), (0, (-4))]) d_X12_factor_55 (by decide) rfl rfl ?_
                refine r_iload_n (x := (-4)) d_X12_factor_56 rfl ?_
                refine r_if_eq (tgt := 62) d_X12_factor_57 rfl (fun hc => absurd hc (by decide)) (fun _ => ?_)
                refine r_iload_n (x := (-4)) d_X12_factor_60 rfl ?_
                exact r_iret d_X12_factor_61 rfl rfl (Nat.le_refl 0) (Nat.le_refl 0) ⟨_, rfl, rfl, rfl, h⟩
              · have h := h.2 hc
                show WP l mX12_factor (rm d 0 0) noX _ 0 0 55 [(2, t), (0, x1), (0, x2), (3, 0)] [(0, (-7))] N Λ τ14
                refine r_istore_n (L2 := [(2, t), (0, x1), (0, x2), (0, (-7))]) d_X12_factor_55 (by decide) rfl rfl ?_
                refine r_iload_n (x := (-7)) d_X12_factor_56 rfl ?_
                refine r_if_eq (tgt := 62) d_X12_factor_57 rfl (fun hc => absurd hc (by decide)) (fun _ => ?_)
                refine r_iload_n (x := (-7)) d_X12_factor_60 rfl ?_
                exact r_iret d_X12_factor_61 rfl rfl (Nat.le_refl 0) (Nat.le_refl 0) ⟨_, rfl, rfl, rfl, h⟩
            · have h := h.2 hc
              show WP l mX12_factor (rm d 0 0) noX _ 0 0 55 [(2, t), (0, x1), (0, x2), (3, 0)] [(0, 0)] N Λ τ14
              refine r_istore_n (L2 := [(2, t), (0, x1), (0, x2), (0, 0)]) d_X12_factor_55 (by decide) rfl rfl ?_
              refine r_iload_n (x := 0) d_X12_factor_56 rfl ?_
              refine r_if_eq (tgt := 62) d_X12_factor_57 rfl (fun _ => ?_) (fun hc => absurd hc (by decide))
              refine r_aload_n (x := t) d_X12_factor_62 rfl o_t.1 ?_
              refine r_iconst (x := 0) d_X12_factor_63 ⟨by decide, by decide⟩ ?_
              refine r_iconst (x := 0) d_X12_factor_64 ⟨by decide, by decide⟩ ?_
              refine x_callVI (Y2 := mX12_isFound) (c := t) (As := [(0, 0), (0, 0)]) (S := []) d_X12_factor_65 ok_mX12_isFound ml_X12_404 rfl (Nat.le_of_ble_eq_true rfl) (Nat.le_of_ble_eq_true rfl) rfl hd_1 kX12 o_t (CI.mono h (fun v16 σ15 h => ?_))
              refine r_if_eq (tgt := 80) d_X12_factor_68 rfl (fun hc => ?_) (fun hc => ?_)
              · have h := h.1 hc
                refine r_iconst (x := 0) d_X12_factor_80 ⟨by decide, by decide⟩ ?_
                exact r_iret d_X12_factor_81 rfl rfl (Nat.le_refl 0) (Nat.le_refl 0) ⟨_, rfl, rfl, rfl, h⟩
              · have h := h.2 hc
                refine r_aload_n (x := t) d_X12_factor_71 rfl o_t.1 ?_
                refine r_getf (j := 35) (t := 2) (x := t_found) d_X12_factor_72 kX12 (by decide) fl_X12_83 o_t.1 o_t.2.1 o_t.2.2.1 o_t.2.2.2 rfl f_t_found ?_
                refine r_iload_n (x := x2) d_X12_factor_75 rfl ?_
                refine x_iald d_X12_factor_76 h.1 ?_
                have h := h.2
                refine r_goto (tgt := 81) d_X12_factor_77 rfl ?_
                exact r_iret d_X12_factor_81 rfl rfl (Nat.le_refl 0) (Nat.le_refl 0) ⟨_, rfl, rfl, rfl, h⟩
          · have h := h.2 hc
            refine r_aload_n (x := t) d_X12_factor_39 rfl o_t.1 ?_
            refine r_iconst (x := 0) d_X12_factor_40 ⟨by decide, by decide⟩ ?_
            refine x_callVI (Y2 := mX12_refused) (c := t) (As := [(0, 0)]) (S := []) d_X12_factor_41 ok_mX12_refused ml_X12_218 rfl (Nat.le_of_ble_eq_true rfl) (Nat.le_of_ble_eq_true rfl) rfl hd_1 kX12 o_t (c_X12_refused (v_X12_refused_0 o_t ?_))
            intro τ17 eτ17
            have h := h τ17 eτ17
            show WP l mX12_factor (rm d 0 0) noX _ 0 0 44 [(2, t), (0, x1), (0, x2), (3, 0)] [(0, 0)] N Λ τ17
            exact r_iret d_X12_factor_44 rfl rfl (Nat.le_refl 0) (Nat.le_refl 0) ⟨_, rfl, rfl, rfl, h⟩
theorem v_X12_isFinal_0 {l : Launch} {d N : Nat} {Λ : Lay} {P : Int → Mem → Prop} {σ : Mem} {x1 t t_pool t_state : Int} (o_t : Ob N Λ t 21 36) (f_t_pool : (Λ t).2.2 7 = t_pool) (f_t_state : (Λ t).2.2 3 = t_state) (h0d : 3 ≤ d)
    (h : (∀ τ1, τ1 = st σ t 0 0 → (((cmpL x1 0) < 0 → (∀ τ2, τ2 = st τ1 t 16 0 → P (-2) τ2)) ∧ (¬ ((cmpL x1 0) < 0) → ((0 < (cmpL x1 5) → (∀ τ3, τ3 = st τ1 t 16 0 → P (-2) τ3)) ∧ (¬ (0 < (cmpL x1 5)) → (∀ τ4, τ4 = st τ1 t 8 0 → (Ix N Λ t_pool 0 (mulI 161 0) ∧ (∀ τ5, τ5 = st τ4 t_pool (mulI 161 0) 0 → (CV l mX12_copies (d - 1 - 1 - 1) [(2, t_state), (0, (mulI 161 x1)), (2, t_pool), (0, (mulI 161 3)), (0, 161)] N Λ τ5 (fun σ6 => (CI l mX12_straightens (d - 1 - 1) [(2, t), (0, 3)] N Λ σ6 (fun v7 σ8 => (∀ τ9, τ9 = st σ8 t 24 v7 → (∀ τ10, τ10 = st τ9 t 16 (τ9 t 8) → ((¬ (τ10 t 8) = 0 → ((¬ (τ10 t 8) = 4 → P (-4) τ10) ∧ ((τ10 t 8) = 4 → P (-7) τ10))) ∧ ((τ10 t 8) = 0 → (Ix N Λ t_pool 0 (mulI 161 3) ∧ (((τ10 t_pool (mulI 161 3)) ≤ 0 → (CV l mX12_reduces (d - 1) [(2, t), (0, x1)] N Λ τ10 (fun σ11 => (Ix N Λ t_pool 0 (mulI 161 0) ∧ (((σ11 t_pool (mulI 161 0)) = 1 → (Ix N Λ t_pool 0 (addI (addI (mulI 161 0) 1) (mulI 2 0)) ∧ (∀ y12, y12 = (σ11 t_pool (addI (addI (mulI 161 0) 1) (mulI 2 0))) → (CI l mX12_degreeOf (d - 1) [(0, y12)] N Λ σ11 (fun v14 σ13 => ((v14 ≤ 0 → WI l mX12_isFinal d P 86 [(2, t), (0, x1), (0, 0), (0, y12), (0, 0), (0, 0)] [] N Λ σ13) ∧ (¬ (v14 ≤ 0) → WI l mX12_isFinal d P 86 [(2, t), (0, x1), (0, 0), (0, y12), (0, 1), (0, 0)] [] N Λ σ13))))))) ∧ (¬ ((σ11 t_pool (mulI 161 0)) = 1) → P 0 σ11)))))) ∧ (¬ ((τ10 t_pool (mulI 161 3)) ≤ 0) → P 0 τ10)))))))))))))))))))) :
    WI l mX12_isFinal d P 0 [(2, t), (0, x1), (3, 0), (3, 0), (3, 0), (3, 0)] [] N Λ σ := by
  have hd_1 : 1 ≤ d := Nat.le_trans (by decide) h0d
  have he_1 : 1 ≤ d - 1 := Nat.le_sub_of_add_le (Nat.le_trans (by decide) h0d)
  have he_2 : 2 ≤ d - 1 := Nat.le_sub_of_add_le (Nat.le_trans (by decide) h0d)
  refine r_aload_n (x := t) d_X12_isFinal_0 rfl o_t.1 ?_
  refine r_iconst (x := 0) d_X12_isFinal_1 ⟨by decide, by decide⟩ ?_
  refine r_putI (j := 0) d_X12_isFinal_2 kX12 (by decide) fl_X12_1 rfl o_t.1 o_t.2.1 o_t.2.2.1 o_t.2.2.2 rfl ?_
  refine r_nmM (fun τ1 eτ1 => ?_)
  have h := h τ1 eτ1
  refine r_iload_n (x := x1) d_X12_isFinal_5 rfl ?_
  refine x_callSI (Y2 := mX12_isShelf) (As := [(0, x1)]) (S := []) d_X12_isFinal_6 ok_mX12_isShelf ml_X12_199 rfl (Nat.le_of_ble_eq_true rfl) (Nat.le_of_ble_eq_true rfl) rfl hd_1 (c_X12_isShelf (v_X12_isShelf_0 he_1 ?_))
  refine ⟨fun hc => ?_, fun hc => ?_⟩
  · have h := h.1 hc
    show WP l mX12_isFinal (rm d 0 0) noX _ 0 0 9 [(2, t), (0, x1), (3, 0), (3, 0), (3, 0), (3, 0)] [(0, 0)] N Λ τ1
    refine r_if_ne (tgt := 19) d_X12_isFinal_9 rfl (fun hc => absurd hc (by decide)) (fun _ => ?_)
    refine r_aload_n (x := t) d_X12_isFinal_12 rfl o_t.1 ?_
    refine r_bipush (x := (-2)) d_X12_isFinal_13 ⟨by decide, by decide⟩ (by decide) ?_
    refine x_callVI (Y2 := mX12_refused) (c := t) (As := [(0, (-2))]) (S := []) d_X12_isFinal_15 ok_mX12_refused ml_X12_218 rfl (Nat.le_of_ble_eq_true rfl) (Nat.le_of_ble_eq_true rfl) rfl hd_1 kX12 o_t (c_X12_refused (v_X12_refused_0 o_t ?_))
    intro τ2 eτ2
    have h := h τ2 eτ2
    show WP l mX12_isFinal (rm d 0 0) noX _ 0 0 18 [(2, t), (0, x1), (3, 0), (3, 0), (3, 0), (3, 0)] [(0, (-2))] N Λ τ2
    exact r_iret d_X12_isFinal_18 rfl rfl (Nat.le_refl 0) (Nat.le_refl 0) ⟨_, rfl, rfl, rfl, h⟩
  · have h := h.2 hc
    refine ⟨fun hc => ?_, fun hc => ?_⟩
    · have h := h.1 hc
      show WP l mX12_isFinal (rm d 0 0) noX _ 0 0 9 [(2, t), (0, x1), (3, 0), (3, 0), (3, 0), (3, 0)] [(0, 0)] N Λ τ1
      refine r_if_ne (tgt := 19) d_X12_isFinal_9 rfl (fun hc => absurd hc (by decide)) (fun _ => ?_)
      refine r_aload_n (x := t) d_X12_isFinal_12 rfl o_t.1 ?_
      refine r_bipush (x := (-2)) d_X12_isFinal_13 ⟨by decide, by decide⟩ (by decide) ?_
      refine x_callVI (Y2 := mX12_refused) (c := t) (As := [(0, (-2))]) (S := []) d_X12_isFinal_15 ok_mX12_refused ml_X12_218 rfl (Nat.le_of_ble_eq_true rfl) (Nat.le_of_ble_eq_true rfl) rfl hd_1 kX12 o_t (c_X12_refused (v_X12_refused_0 o_t ?_))
      intro τ3 eτ3
      have h := h τ3 eτ3
      show WP l mX12_isFinal (rm d 0 0) noX _ 0 0 18 [(2, t), (0, x1), (3, 0), (3, 0), (3, 0), (3, 0)] [(0, (-2))] N Λ τ3
      exact r_iret d_X12_isFinal_18 rfl rfl (Nat.le_refl 0) (Nat.le_refl 0) ⟨_, rfl, rfl, rfl, h⟩
    · have h := h.2 hc
      show WP l mX12_isFinal (rm d 0 0) noX _ 0 0 9 [(2, t), (0, x1), (3, 0), (3, 0), (3, 0), (3, 0)] [(0, 1)] N Λ τ1
      refine r_if_ne (tgt := 19) d_X12_isFinal_9 rfl (fun _ => ?_) (fun hc => absurd hc (by decide))
      refine r_aload_n (x := t) d_X12_isFinal_19 rfl o_t.1 ?_
      refine x_callVV (Y2 := mX12_begins) (c := t) (As := []) (S := []) d_X12_isFinal_20 ok_mX12_begins ml_X12_202 rfl (Nat.le_of_ble_eq_true rfl) (Nat.le_of_ble_eq_true rfl) rfl hd_1 kX12 o_t (c_X12_begins (v_X12_begins_0 o_t f_t_pool he_1 ?_))
      intro τ4 eτ4
      have h := h τ4 eτ4
      refine ⟨h.1, ?_⟩
      have h := h.2
      intro τ5 eτ5
      have h := h τ5 eτ5
      show WP l mX12_isFinal (rm d 0 0) noX _ 0 0 23 [(2, t), (0, x1), (3, 0), (3, 0), (3, 0), (3, 0)] [] N Λ τ5
      refine r_aload_n (x := t) d_X12_isFinal_23 rfl o_t.1 ?_
      refine r_iload_n (x := x1) d_X12_isFinal_24 rfl ?_
      refine r_iconst (x := 3) d_X12_isFinal_25 ⟨by decide, by decide⟩ ?_
      refine x_callVI (Y2 := mX12_straightInto) (c := t) (As := [(0, x1), (0, 3)]) (S := []) d_X12_isFinal_26 ok_mX12_straightInto ml_X12_349 rfl (Nat.le_of_ble_eq_true rfl) (Nat.le_of_ble_eq_true rfl) rfl hd_1 kX12 o_t (c_X12_straightInto (v_X12_straightInto_0 o_t f_t_state f_t_pool he_2 ?_))
      refine CV.mono h (fun σ6 h => ?_)
      refine CI.mono h (fun v7 σ8 h => ?_)
      intro τ9 eτ9
      have h := h τ9 eτ9
      intro τ10 eτ10
      have h := h τ10 eτ10
      refine ⟨fun hc => ?_, fun hc => ?_⟩
      · have h := h.1 hc
        refine ⟨fun hc => ?_, fun hc => ?_⟩
        · have h := h.1 hc
          show WP l mX12_isFinal (rm d 0 0) noX _ 0 0 29 [(2, t), (0, x1), (3, 0), (3, 0), (3, 0), (3, 0)] [(0, (-4))] N Λ τ10
          refine r_istore_n (L2 := [(2, t), (0, x1), (0, (-4)), (3, 0), (3, 0), (3, 0)]) d_X12_isFinal_29 (by decide) rfl rfl ?_
          refine r_iload_n (x := (-4)) d_X12_isFinal_30 rfl ?_
          refine r_if_eq (tgt := 36) d_X12_isFinal_31 rfl (fun hc => absurd hc (by decide)) (fun _ => ?_)
          refine r_iload_n (x := (-4)) d_X12_isFinal_34 rfl ?_
          exact r_iret d_X12_isFinal_35 rfl rfl (Nat.le_refl 0) (Nat.le_refl 0) ⟨_, rfl, rfl, rfl, h⟩
        · have h := h.2 hc
          show WP l mX12_isFinal (rm d 0 0) noX _ 0 0 29 [(2, t), (0, x1), (3, 0), (3, 0), (3, 0), (3, 0)] [(0, (-7))] N Λ τ10
          refine r_istore_n (L2 := [(2, t), (0, x1), (0, (-7)), (3, 0), (3, 0), (3, 0)]) d_X12_isFinal_29 (by decide) rfl rfl ?_
          refine r_iload_n (x := (-7)) d_X12_isFinal_30 rfl ?_
          refine r_if_eq (tgt := 36) d_X12_isFinal_31 rfl (fun hc => absurd hc (by decide)) (fun _ => ?_)
          refine r_iload_n (x := (-7)) d_X12_isFinal_34 rfl ?_
          exact r_iret d_X12_isFinal_35 rfl rfl (Nat.le_refl 0) (Nat.le_refl 0) ⟨_, rfl, rfl, rfl, h⟩
      · have h := h.2 hc
        show WP l mX12_isFinal (rm d 0 0) noX _ 0 0 29 [(2, t), (0, x1), (3, 0), (3, 0), (3, 0), (3, 0)] [(0, 0)] N Λ τ10
        refine r_istore_n (L2 := [(2, t), (0, x1), (0, 0), (3, 0), (3, 0), (3, 0)]) d_X12_isFinal_29 (by decide) rfl rfl ?_
        refine r_iload_n (x := 0) d_X12_isFinal_30 rfl ?_
        refine r_if_eq (tgt := 36) d_X12_isFinal_31 rfl (fun _ => ?_) (fun hc => absurd hc (by decide))
        refine r_aload_n (x := t) d_X12_isFinal_36 rfl o_t.1 ?_
        refine r_iconst (x := 3) d_X12_isFinal_37 ⟨by decide, by decide⟩ ?_
        refine x_callVI (Y2 := mX12_many) (c := t) (As := [(0, 3)]) (S := []) d_X12_isFinal_38 ok_mX12_many ml_X12_113 rfl (Nat.le_of_ble_eq_true rfl) (Nat.le_of_ble_eq_true rfl) rfl hd_1 kX12 o_t (c_X12_many (v_X12_many_0 o_t f_t_pool ?_))
        refine ⟨h.1, ?_⟩
        have h := h.2
        show WP l mX12_isFinal (rm d 0 0) noX _ 0 0 41 [(2, t), (0, x1), (0, 0), (3, 0), (3, 0), (3, 0)] [(0, (τ10 t_pool (mulI 161 3)))] N Λ τ10
        refine r_if_le (tgt := 46) d_X12_isFinal_41 rfl (fun hc => ?_) (fun hc => ?_)
        · have h := h.1 hc
          refine r_aload_n (x := t) d_X12_isFinal_46 rfl o_t.1 ?_
          refine r_iload_n (x := x1) d_X12_isFinal_47 rfl ?_
          refine x_callVV (Y2 := mX12_reduces) (c := t) (As := [(0, x1)]) (S := []) d_X12_isFinal_48 ok_mX12_reduces ml_X12_247 rfl (Nat.le_of_ble_eq_true rfl) (Nat.le_of_ble_eq_true rfl) rfl hd_1 kX12 o_t (CV.mono h (fun σ11 h => ?_))
          refine r_aload_n (x := t) d_X12_isFinal_51 rfl o_t.1 ?_
          refine r_iconst (x := 0) d_X12_isFinal_52 ⟨by decide, by decide⟩ ?_
          refine x_callVI (Y2 := mX12_many) (c := t) (As := [(0, 0)]) (S := []) d_X12_isFinal_53 ok_mX12_many ml_X12_113 rfl (Nat.le_of_ble_eq_true rfl) (Nat.le_of_ble_eq_true rfl) rfl hd_1 kX12 o_t (c_X12_many (v_X12_many_0 o_t f_t_pool ?_))
          refine ⟨h.1, ?_⟩
          have h := h.2
          show WP l mX12_isFinal (rm d 0 0) noX _ 0 0 56 [(2, t), (0, x1), (0, 0), (3, 0), (3, 0), (3, 0)] [(0, (σ11 t_pool (mulI 161 0)))] N Λ σ11
          refine r_iconst (x := 1) d_X12_isFinal_56 ⟨by decide, by decide⟩ ?_
          refine r_ic_eq (tgt := 62) d_X12_isFinal_57 rfl (fun hc => ?_) (fun hc => ?_)
          · have h := h.1 hc
            refine r_aload_n (x := t) d_X12_isFinal_62 rfl o_t.1 ?_
            refine r_iconst (x := 0) d_X12_isFinal_63 ⟨by decide, by decide⟩ ?_
            refine r_iconst (x := 0) d_X12_isFinal_64 ⟨by decide, by decide⟩ ?_
            refine x_callVI (Y2 := mX12_key) (c := t) (As := [(0, 0), (0, 0)]) (S := []) d_X12_isFinal_65 ok_mX12_key ml_X12_117 rfl (Nat.le_of_ble_eq_true rfl) (Nat.le_of_ble_eq_true rfl) rfl hd_1 kX12 o_t (c_X12_key (v_X12_key_0 o_t f_t_pool ?_))
            refine ⟨h.1, ?_⟩
            have h := h.2
            show WP l mX12_isFinal (rm d 0 0) noX _ 0 0 68 [(2, t), (0, x1), (0, 0), (3, 0), (3, 0), (3, 0)] [(0, (σ11 t_pool (addI (addI (mulI 161 0) 1) (mulI 2 0))))] N Λ σ11
            refine r_nm (fun y12 ey12 => ?_)
            have h := h y12 ey12
            refine r_istore_n (L2 := [(2, t), (0, x1), (0, 0), (0, y12), (3, 0), (3, 0)]) d_X12_isFinal_68 (by decide) rfl rfl ?_
            refine r_iload_n (x := y12) d_X12_isFinal_69 rfl ?_
            refine x_callSI (Y2 := mX12_degreeOf) (As := [(0, y12)]) (S := []) d_X12_isFinal_70 ok_mX12_degreeOf ml_X12_138 rfl (Nat.le_of_ble_eq_true rfl) (Nat.le_of_ble_eq_true rfl) rfl hd_1 (CI.mono h (fun v14 σ13 h => ?_))
            refine r_if_le (tgt := 80) d_X12_isFinal_73 rfl (fun hc => ?_) (fun hc => ?_)
            · have h := h.1 hc
              refine r_iconst (x := 0) d_X12_isFinal_80 ⟨by decide, by decide⟩ ?_
              refine r_istore (L2 := [(2, t), (0, x1), (0, 0), (0, y12), (0, 0), (3, 0)]) d_X12_isFinal_81 (by decide) rfl rfl ?_
              refine r_iconst (x := 0) d_X12_isFinal_83 ⟨by decide, by decide⟩ ?_
              refine r_istore (L2 := [(2, t), (0, x1), (0, 0), (0, y12), (0, 0), (0, 0)]) d_X12_isFinal_84 (by decide) rfl rfl ?_
              exact h
            · have h := h.2 hc
              refine r_iconst (x := 1) d_X12_isFinal_76 ⟨by decide, by decide⟩ ?_
              refine r_goto (tgt := 81) d_X12_isFinal_77 rfl ?_
              refine r_istore (L2 := [(2, t), (0, x1), (0, 0), (0, y12), (0, 1), (3, 0)]) d_X12_isFinal_81 (by decide) rfl rfl ?_
              refine r_iconst (x := 0) d_X12_isFinal_83 ⟨by decide, by decide⟩ ?_
              refine r_istore (L2 := [(2, t), (0, x1), (0, 0), (0, y12), (0, 1), (0, 0)]) d_X12_isFinal_84 (by decide) rfl rfl ?_
              exact h
          · have h := h.2 hc
            refine r_iconst (x := 0) d_X12_isFinal_60 ⟨by decide, by decide⟩ ?_
            exact r_iret d_X12_isFinal_61 rfl rfl (Nat.le_refl 0) (Nat.le_refl 0) ⟨_, rfl, rfl, rfl, h⟩
        · have h := h.2 hc
          refine r_iconst (x := 0) d_X12_isFinal_44 ⟨by decide, by decide⟩ ?_
          exact r_iret d_X12_isFinal_45 rfl rfl (Nat.le_refl 0) (Nat.le_refl 0) ⟨_, rfl, rfl, rfl, h⟩
theorem v_X12_isFinal_86 {l : Launch} {d N : Nat} {Λ : Lay} {P : Int → Mem → Prop} {σ : Mem} {x1 x2 x3 x4 x5 t t_state : Int} (o_t : Ob N Λ t 21 36) (f_t_state : (Λ t).2.2 3 = t_state) (h0d : 1 ≤ d)
    (h : (CI l mX12_degreeOf (d - 1) [(0, x3)] N Λ σ (fun v2 σ1 => ((v2 ≤ x5 → ((x4 = 0 → P 0 σ1) ∧ (¬ (x4 = 0) → P 1 σ1))) ∧ (¬ (v2 ≤ x5) → ((x4 = 0 → (∀ y3, y3 = addI x5 1 → WI l mX12_isFinal d P 86 [(2, t), (0, x1), (0, x2), (0, x3), (0, 0), (0, y3)] [] N Λ σ1)) ∧ (¬ (x4 = 0) → (CI l mX12_rankIn (d - 1) [(0, x3), (0, x5)] N Λ σ1 (fun v5 σ4 => (Ix N Λ t_state 0 (subI (addI 996 v5) 1) ∧ ((¬ (σ4 t_state (subI (addI 996 v5) 1)) = 1 → (∀ y6, y6 = addI x5 1 → WI l mX12_isFinal d P 86 [(2, t), (0, x1), (0, x2), (0, x3), (0, 0), (0, y6)] [] N Λ σ4)) ∧ ((σ4 t_state (subI (addI 996 v5) 1)) = 1 → (∀ y7, y7 = addI x5 1 → WI l mX12_isFinal d P 86 [(2, t), (0, x1), (0, x2), (0, x3), (0, 1), (0, y7)] [] N Λ σ4))))))))))))) :
    WI l mX12_isFinal d P 86 [(2, t), (0, x1), (0, x2), (0, x3), (0, x4), (0, x5)] [] N Λ σ := by
  have hd_1 : 1 ≤ d := Nat.le_trans (by decide) h0d
  refine r_iload (x := x5) d_X12_isFinal_86 rfl ?_
  refine r_iload_n (x := x3) d_X12_isFinal_88 rfl ?_
  refine x_callSI (Y2 := mX12_degreeOf) (As := [(0, x3)]) (S := [(0, x5)]) d_X12_isFinal_89 ok_mX12_degreeOf ml_X12_138 rfl (Nat.le_of_ble_eq_true rfl) (Nat.le_of_ble_eq_true rfl) rfl hd_1 (CI.mono h (fun v2 σ1 h => ?_))
  refine r_ic_ge (tgt := 127) d_X12_isFinal_92 rfl (fun hc => ?_) (fun hc => ?_)
  · have h := h.1 hc
    refine r_iload (x := x4) d_X12_isFinal_127 rfl ?_
    refine r_if_eq (tgt := 136) d_X12_isFinal_129 rfl (fun hc => ?_) (fun hc => ?_)
    · have h := h.1 hc
      refine r_iconst (x := 0) d_X12_isFinal_136 ⟨by decide, by decide⟩ ?_
      exact r_iret d_X12_isFinal_137 rfl rfl (Nat.le_refl 0) (Nat.le_refl 0) ⟨_, rfl, rfl, rfl, h⟩
    · have h := h.2 hc
      refine r_iconst (x := 1) d_X12_isFinal_132 ⟨by decide, by decide⟩ ?_
      refine r_goto (tgt := 137) d_X12_isFinal_133 rfl ?_
      exact r_iret d_X12_isFinal_137 rfl rfl (Nat.le_refl 0) (Nat.le_refl 0) ⟨_, rfl, rfl, rfl, h⟩
  · have h := h.2 hc
    refine r_iload (x := x4) d_X12_isFinal_95 rfl ?_
    refine r_if_eq (tgt := 118) d_X12_isFinal_97 rfl (fun hc => ?_) (fun hc => ?_)
    · have h := h.1 hc
      refine r_iconst (x := 0) d_X12_isFinal_118 ⟨by decide, by decide⟩ ?_
      refine r_istore (L2 := [(2, t), (0, x1), (0, x2), (0, x3), (0, 0), (0, x5)]) d_X12_isFinal_119 (by decide) rfl rfl ?_
      refine x_iinc (x := x5) (L := [(2, t), (0, x1), (0, x2), (0, x3), (0, 0), (0, x5)]) d_X12_isFinal_121 rfl (by decide) rfl (fun y3 ey3 => ?_)
      have h := h y3 ey3
      show WP _ _ _ _ _ _ _ _ [(2, t), (0, x1), (0, x2), (0, x3), (0, 0), (0, y3)] _ _ _ _
      refine r_goto (tgt := 86) d_X12_isFinal_124 rfl ?_
      exact h
    · have h := h.2 hc
      refine r_aload_n (x := t) d_X12_isFinal_100 rfl o_t.1 ?_
      refine r_iload_n (x := x3) d_X12_isFinal_101 rfl ?_
      refine r_iload (x := x5) d_X12_isFinal_102 rfl ?_
      refine x_callSI (Y2 := mX12_rankIn) (As := [(0, x3), (0, x5)]) (S := [(2, t)]) d_X12_isFinal_104 ok_mX12_rankIn ml_X12_135 rfl (Nat.le_of_ble_eq_true rfl) (Nat.le_of_ble_eq_true rfl) rfl hd_1 (CI.mono h (fun v5 σ4 h => ?_))
      refine x_callVI (Y2 := mX12_factOf) (c := t) (As := [(0, v5)]) (S := []) d_X12_isFinal_107 ok_mX12_factOf ml_X12_244 rfl (Nat.le_of_ble_eq_true rfl) (Nat.le_of_ble_eq_true rfl) rfl hd_1 kX12 o_t (c_X12_factOf (v_X12_factOf_0 o_t f_t_state ?_))
      refine ⟨h.1, ?_⟩
      have h := h.2
      show WP l mX12_isFinal (rm d 0 0) noX _ 0 0 110 [(2, t), (0, x1), (0, x2), (0, x3), (0, x4), (0, x5)] [(0, (σ4 t_state (subI (addI 996 v5) 1)))] N Λ σ4
      refine r_iconst (x := 1) d_X12_isFinal_110 ⟨by decide, by decide⟩ ?_
      refine r_ic_ne (tgt := 118) d_X12_isFinal_111 rfl (fun hc => ?_) (fun hc => ?_)
      · have h := h.1 hc
        refine r_iconst (x := 0) d_X12_isFinal_118 ⟨by decide, by decide⟩ ?_
        refine r_istore (L2 := [(2, t), (0, x1), (0, x2), (0, x3), (0, 0), (0, x5)]) d_X12_isFinal_119 (by decide) rfl rfl ?_
        refine x_iinc (x := x5) (L := [(2, t), (0, x1), (0, x2), (0, x3), (0, 0), (0, x5)]) d_X12_isFinal_121 rfl (by decide) rfl (fun y6 ey6 => ?_)
        have h := h y6 ey6
        show WP _ _ _ _ _ _ _ _ [(2, t), (0, x1), (0, x2), (0, x3), (0, 0), (0, y6)] _ _ _ _
        refine r_goto (tgt := 86) d_X12_isFinal_124 rfl ?_
        exact h
      · have h := h.2 hc
        refine r_iconst (x := 1) d_X12_isFinal_114 ⟨by decide, by decide⟩ ?_
        refine r_goto (tgt := 119) d_X12_isFinal_115 rfl ?_
        refine r_istore (L2 := [(2, t), (0, x1), (0, x2), (0, x3), (0, 1), (0, x5)]) d_X12_isFinal_119 (by decide) rfl rfl ?_
        refine x_iinc (x := x5) (L := [(2, t), (0, x1), (0, x2), (0, x3), (0, 1), (0, x5)]) d_X12_isFinal_121 rfl (by decide) rfl (fun y7 ey7 => ?_)
        have h := h y7 ey7
        show WP _ _ _ _ _ _ _ _ [(2, t), (0, x1), (0, x2), (0, x3), (0, 1), (0, y7)] _ _ _ _
        refine r_goto (tgt := 86) d_X12_isFinal_124 rfl ?_
        exact h
theorem v_X12_known_0 {l : Launch} {d N : Nat} {Λ : Lay} {P : Int → Mem → Prop} {σ : Mem} {x1 x2 x3 t t_rankOf t_state : Int} (o_t : Ob N Λ t 21 36) (f_t_rankOf : (Λ t).2.2 1 = t_rankOf) (f_t_state : (Λ t).2.2 3 = t_state) (h0d : 2 ≤ d)
    (h : (∀ τ1, τ1 = st σ t 0 0 → (((cmpL x1 0) < 0 → P (-2) τ1) ∧ (¬ ((cmpL x1 0) < 0) → ((0 < (cmpL x1 9) → P (-2) τ1) ∧ (¬ (0 < (cmpL x1 9)) → (((cmpL x2 0) < 0 → P (-2) τ1) ∧ (¬ ((cmpL x2 0) < 0) → ((0 < (cmpL x2 9) → P (-2) τ1) ∧ (¬ (0 < (cmpL x2 9)) → (((cmpL x3 0) < 0 → P (-2) τ1) ∧ (¬ ((cmpL x3 0) < 0) → ((0 < (cmpL x3 9) → P (-2) τ1) ∧ (¬ (0 < (cmpL x3 9)) → (Ix N Λ t_rankOf 0 (addI (addI (mulI 100 x1) (mulI 10 x2)) x3) ∧ ((0 ≤ (τ1 t_rankOf (addI (addI (mulI 100 x1) (mulI 10 x2)) x3)) → (∀ y2, y2 = (τ1 t_rankOf (addI (addI (mulI 100 x1) (mulI 10 x2)) x3)) → ((¬ y2 = 0 → (Ix N Λ t_state 0 (subI (addI 996 y2) 1) ∧ P (τ1 t_state (subI (addI 996 y2) 1)) τ1)) ∧ (y2 = 0 → P (-3) τ1)))) ∧ (¬ (0 ≤ (τ1 t_rankOf (addI (addI (mulI 100 x1) (mulI 10 x2)) x3))) → (∀ y3, y3 = (negI (τ1 t_rankOf (addI (addI (mulI 100 x1) (mulI 10 x2)) x3))) → ((¬ y3 = 0 → (Ix N Λ t_state 0 (subI (addI 996 y3) 1) ∧ P (τ1 t_state (subI (addI 996 y3) 1)) τ1)) ∧ (y3 = 0 → P (-3) τ1)))))))))))))))))))) :
    WI l mX12_known d P 0 [(2, t), (0, x1), (0, x2), (0, x3), (3, 0)] [] N Λ σ := by
  have hd_1 : 1 ≤ d := Nat.le_trans (by decide) h0d
  have he_1 : 1 ≤ d - 1 := Nat.le_sub_of_add_le (Nat.le_trans (by decide) h0d)
  refine r_aload_n (x := t) d_X12_known_0 rfl o_t.1 ?_
  refine r_iconst (x := 0) d_X12_known_1 ⟨by decide, by decide⟩ ?_
  refine r_putI (j := 0) d_X12_known_2 kX12 (by decide) fl_X12_1 rfl o_t.1 o_t.2.1 o_t.2.2.1 o_t.2.2.2 rfl ?_
  refine r_nmM (fun τ1 eτ1 => ?_)
  have h := h τ1 eτ1
  refine r_iload_n (x := x1) d_X12_known_5 rfl ?_
  refine x_callSI (Y2 := mX12_isLetter) (As := [(0, x1)]) (S := []) d_X12_known_6 ok_mX12_isLetter ml_X12_208 rfl (Nat.le_of_ble_eq_true rfl) (Nat.le_of_ble_eq_true rfl) rfl hd_1 (c_X12_isLetter (v_X12_isLetter_0 he_1 ?_))
  refine ⟨fun hc => ?_, fun hc => ?_⟩
  · have h := h.1 hc
    show WP l mX12_known (rm d 0 0) noX _ 0 0 9 [(2, t), (0, x1), (0, x2), (0, x3), (3, 0)] [(0, 0)] N Λ τ1
    refine r_if_eq (tgt := 26) d_X12_known_9 rfl (fun _ => ?_) (fun hc => absurd hc (by decide))
    refine r_bipush (x := (-2)) d_X12_known_26 ⟨by decide, by decide⟩ (by decide) ?_
    exact r_iret d_X12_known_28 rfl rfl (Nat.le_refl 0) (Nat.le_refl 0) ⟨_, rfl, rfl, rfl, h⟩
  · have h := h.2 hc
    refine ⟨fun hc => ?_, fun hc => ?_⟩
    · have h := h.1 hc
      show WP l mX12_known (rm d 0 0) noX _ 0 0 9 [(2, t), (0, x1), (0, x2), (0, x3), (3, 0)] [(0, 0)] N Λ τ1
      refine r_if_eq (tgt := 26) d_X12_known_9 rfl (fun _ => ?_) (fun hc => absurd hc (by decide))
      refine r_bipush (x := (-2)) d_X12_known_26 ⟨by decide, by decide⟩ (by decide) ?_
      exact r_iret d_X12_known_28 rfl rfl (Nat.le_refl 0) (Nat.le_refl 0) ⟨_, rfl, rfl, rfl, h⟩
    · have h := h.2 hc
      show WP l mX12_known (rm d 0 0) noX _ 0 0 9 [(2, t), (0, x1), (0, x2), (0, x3), (3, 0)] [(0, 1)] N Λ τ1
      refine r_if_eq (tgt := 26) d_X12_known_9 rfl (fun hc => absurd hc (by decide)) (fun _ => ?_)
      refine r_iload_n (x := x2) d_X12_known_12 rfl ?_
      refine x_callSI (Y2 := mX12_isLetter) (As := [(0, x2)]) (S := []) d_X12_known_13 ok_mX12_isLetter ml_X12_208 rfl (Nat.le_of_ble_eq_true rfl) (Nat.le_of_ble_eq_true rfl) rfl hd_1 (c_X12_isLetter (v_X12_isLetter_0 he_1 ?_))
      refine ⟨fun hc => ?_, fun hc => ?_⟩
      · have h := h.1 hc
        show WP l mX12_known (rm d 0 0) noX _ 0 0 16 [(2, t), (0, x1), (0, x2), (0, x3), (3, 0)] [(0, 0)] N Λ τ1
        refine r_if_eq (tgt := 26) d_X12_known_16 rfl (fun _ => ?_) (fun hc => absurd hc (by decide))
        refine r_bipush (x := (-2)) d_X12_known_26 ⟨by decide, by decide⟩ (by decide) ?_
        exact r_iret d_X12_known_28 rfl rfl (Nat.le_refl 0) (Nat.le_refl 0) ⟨_, rfl, rfl, rfl, h⟩
      · have h := h.2 hc
        refine ⟨fun hc => ?_, fun hc => ?_⟩
        · have h := h.1 hc
          show WP l mX12_known (rm d 0 0) noX _ 0 0 16 [(2, t), (0, x1), (0, x2), (0, x3), (3, 0)] [(0, 0)] N Λ τ1
          refine r_if_eq (tgt := 26) d_X12_known_16 rfl (fun _ => ?_) (fun hc => absurd hc (by decide))
          refine r_bipush (x := (-2)) d_X12_known_26 ⟨by decide, by decide⟩ (by decide) ?_
          exact r_iret d_X12_known_28 rfl rfl (Nat.le_refl 0) (Nat.le_refl 0) ⟨_, rfl, rfl, rfl, h⟩
        · have h := h.2 hc
          show WP l mX12_known (rm d 0 0) noX _ 0 0 16 [(2, t), (0, x1), (0, x2), (0, x3), (3, 0)] [(0, 1)] N Λ τ1
          refine r_if_eq (tgt := 26) d_X12_known_16 rfl (fun hc => absurd hc (by decide)) (fun _ => ?_)
          refine r_iload_n (x := x3) d_X12_known_19 rfl ?_
          refine x_callSI (Y2 := mX12_isLetter) (As := [(0, x3)]) (S := []) d_X12_known_20 ok_mX12_isLetter ml_X12_208 rfl (Nat.le_of_ble_eq_true rfl) (Nat.le_of_ble_eq_true rfl) rfl hd_1 (c_X12_isLetter (v_X12_isLetter_0 he_1 ?_))
          refine ⟨fun hc => ?_, fun hc => ?_⟩
          · have h := h.1 hc
            show WP l mX12_known (rm d 0 0) noX _ 0 0 23 [(2, t), (0, x1), (0, x2), (0, x3), (3, 0)] [(0, 0)] N Λ τ1
            refine r_if_ne (tgt := 29) d_X12_known_23 rfl (fun hc => absurd hc (by decide)) (fun _ => ?_)
            refine r_bipush (x := (-2)) d_X12_known_26 ⟨by decide, by decide⟩ (by decide) ?_
            exact r_iret d_X12_known_28 rfl rfl (Nat.le_refl 0) (Nat.le_refl 0) ⟨_, rfl, rfl, rfl, h⟩
          · have h := h.2 hc
            refine ⟨fun hc => ?_, fun hc => ?_⟩
            · have h := h.1 hc
              show WP l mX12_known (rm d 0 0) noX _ 0 0 23 [(2, t), (0, x1), (0, x2), (0, x3), (3, 0)] [(0, 0)] N Λ τ1
              refine r_if_ne (tgt := 29) d_X12_known_23 rfl (fun hc => absurd hc (by decide)) (fun _ => ?_)
              refine r_bipush (x := (-2)) d_X12_known_26 ⟨by decide, by decide⟩ (by decide) ?_
              exact r_iret d_X12_known_28 rfl rfl (Nat.le_refl 0) (Nat.le_refl 0) ⟨_, rfl, rfl, rfl, h⟩
            · have h := h.2 hc
              show WP l mX12_known (rm d 0 0) noX _ 0 0 23 [(2, t), (0, x1), (0, x2), (0, x3), (3, 0)] [(0, 1)] N Λ τ1
              refine r_if_ne (tgt := 29) d_X12_known_23 rfl (fun _ => ?_) (fun hc => absurd hc (by decide))
              refine r_aload_n (x := t) d_X12_known_29 rfl o_t.1 ?_
              refine r_getf (j := 1) (t := 2) (x := t_rankOf) d_X12_known_30 kX12 (by decide) fl_X12_13 o_t.1 o_t.2.1 o_t.2.2.1 o_t.2.2.2 rfl f_t_rankOf ?_
              refine r_bipush (x := 100) d_X12_known_33 ⟨by decide, by decide⟩ (by decide) ?_
              refine r_iload_n (x := x1) d_X12_known_35 rfl ?_
              refine r_imul d_X12_known_36 ?_
              refine r_bipush (x := 10) d_X12_known_37 ⟨by decide, by decide⟩ (by decide) ?_
              refine r_iload_n (x := x2) d_X12_known_39 rfl ?_
              refine r_imul d_X12_known_40 ?_
              refine r_iadd d_X12_known_41 ?_
              refine r_iload_n (x := x3) d_X12_known_42 rfl ?_
              refine r_iadd d_X12_known_43 ?_
              refine x_iald d_X12_known_44 h.1 ?_
              have h := h.2
              refine x_callSI (Y2 := mX12_sizeOf) (As := [(0, (τ1 t_rankOf (addI (addI (mulI 100 x1) (mulI 10 x2)) x3)))]) (S := []) d_X12_known_45 ok_mX12_sizeOf ml_X12_168 rfl (Nat.le_of_ble_eq_true rfl) (Nat.le_of_ble_eq_true rfl) rfl hd_1 (c_X12_sizeOf (v_X12_sizeOf_0 ?_))
              refine ⟨fun hc => ?_, fun hc => ?_⟩
              · have h := h.1 hc
                show WP l mX12_known (rm d 0 0) noX _ 0 0 48 [(2, t), (0, x1), (0, x2), (0, x3), (3, 0)] [(0, (τ1 t_rankOf (addI (addI (mulI 100 x1) (mulI 10 x2)) x3)))] N Λ τ1
                refine r_nm (fun y2 ey2 => ?_)
                have h := h y2 ey2
                refine r_istore (L2 := [(2, t), (0, x1), (0, x2), (0, x3), (0, y2)]) d_X12_known_48 (by decide) rfl rfl ?_
                refine r_iload (x := y2) d_X12_known_50 rfl ?_
                refine r_if_ne (tgt := 60) d_X12_known_52 rfl (fun hc => ?_) (fun hc => ?_)
                · have h := h.1 hc
                  refine r_aload_n (x := t) d_X12_known_60 rfl o_t.1 ?_
                  refine r_iload (x := y2) d_X12_known_61 rfl ?_
                  refine x_callVI (Y2 := mX12_factOf) (c := t) (As := [(0, y2)]) (S := []) d_X12_known_63 ok_mX12_factOf ml_X12_244 rfl (Nat.le_of_ble_eq_true rfl) (Nat.le_of_ble_eq_true rfl) rfl hd_1 kX12 o_t (c_X12_factOf (v_X12_factOf_0 o_t f_t_state ?_))
                  refine ⟨h.1, ?_⟩
                  have h := h.2
                  show WP l mX12_known (rm d 0 0) noX _ 0 0 66 [(2, t), (0, x1), (0, x2), (0, x3), (0, y2)] [(0, (τ1 t_state (subI (addI 996 y2) 1)))] N Λ τ1
                  exact r_iret d_X12_known_66 rfl rfl (Nat.le_refl 0) (Nat.le_refl 0) ⟨_, rfl, rfl, rfl, h⟩
                · have h := h.2 hc
                  refine r_bipush (x := (-3)) d_X12_known_55 ⟨by decide, by decide⟩ (by decide) ?_
                  refine r_goto (tgt := 66) d_X12_known_57 rfl ?_
                  exact r_iret d_X12_known_66 rfl rfl (Nat.le_refl 0) (Nat.le_refl 0) ⟨_, rfl, rfl, rfl, h⟩
              · have h := h.2 hc
                show WP l mX12_known (rm d 0 0) noX _ 0 0 48 [(2, t), (0, x1), (0, x2), (0, x3), (3, 0)] [(0, (negI (τ1 t_rankOf (addI (addI (mulI 100 x1) (mulI 10 x2)) x3))))] N Λ τ1
                refine r_nm (fun y3 ey3 => ?_)
                have h := h y3 ey3
                refine r_istore (L2 := [(2, t), (0, x1), (0, x2), (0, x3), (0, y3)]) d_X12_known_48 (by decide) rfl rfl ?_
                refine r_iload (x := y3) d_X12_known_50 rfl ?_
                refine r_if_ne (tgt := 60) d_X12_known_52 rfl (fun hc => ?_) (fun hc => ?_)
                · have h := h.1 hc
                  refine r_aload_n (x := t) d_X12_known_60 rfl o_t.1 ?_
                  refine r_iload (x := y3) d_X12_known_61 rfl ?_
                  refine x_callVI (Y2 := mX12_factOf) (c := t) (As := [(0, y3)]) (S := []) d_X12_known_63 ok_mX12_factOf ml_X12_244 rfl (Nat.le_of_ble_eq_true rfl) (Nat.le_of_ble_eq_true rfl) rfl hd_1 kX12 o_t (c_X12_factOf (v_X12_factOf_0 o_t f_t_state ?_))
                  refine ⟨h.1, ?_⟩
                  have h := h.2
                  show WP l mX12_known (rm d 0 0) noX _ 0 0 66 [(2, t), (0, x1), (0, x2), (0, x3), (0, y3)] [(0, (τ1 t_state (subI (addI 996 y3) 1)))] N Λ τ1
                  exact r_iret d_X12_known_66 rfl rfl (Nat.le_refl 0) (Nat.le_refl 0) ⟨_, rfl, rfl, rfl, h⟩
                · have h := h.2 hc
                  refine r_bipush (x := (-3)) d_X12_known_55 ⟨by decide, by decide⟩ (by decide) ?_
                  refine r_goto (tgt := 66) d_X12_known_57 rfl ?_
                  exact r_iret d_X12_known_66 rfl rfl (Nat.le_refl 0) (Nat.le_refl 0) ⟨_, rfl, rfl, rfl, h⟩
theorem v_X12_at_0 {l : Launch} {d N : Nat} {Λ : Lay} {P : Int → Mem → Prop} {σ : Mem} {x1 x2 t t_state : Int} (o_t : Ob N Λ t 21 36) (f_t_state : (Λ t).2.2 3 = t_state) (h0d : 2 ≤ d)
    (h : (∀ τ1, τ1 = st σ t 0 0 → (((cmpL x1 0) < 0 → P (-100) τ1) ∧ (¬ ((cmpL x1 0) < 0) → ((0 < (cmpL x1 9) → P (-100) τ1) ∧ (¬ (0 < (cmpL x1 9)) → (((cmpL x2 0) < 0 → P (-100) τ1) ∧ (¬ ((cmpL x2 0) < 0) → ((0 < (cmpL x2 2) → P (-100) τ1) ∧ (¬ (0 < (cmpL x2 2)) → (Ix N Λ t_state 0 (addI (addI 966 (mulI 3 x1)) x2) ∧ P (τ1 t_state (addI (addI 966 (mulI 3 x1)) x2)) τ1))))))))))) :
    WI l mX12_at d P 0 [(2, t), (0, x1), (0, x2)] [] N Λ σ := by
  have hd_1 : 1 ≤ d := Nat.le_trans (by decide) h0d
  have he_1 : 1 ≤ d - 1 := Nat.le_sub_of_add_le (Nat.le_trans (by decide) h0d)
  refine r_aload_n (x := t) d_X12_at_0 rfl o_t.1 ?_
  refine r_iconst (x := 0) d_X12_at_1 ⟨by decide, by decide⟩ ?_
  refine r_putI (j := 0) d_X12_at_2 kX12 (by decide) fl_X12_1 rfl o_t.1 o_t.2.1 o_t.2.2.1 o_t.2.2.2 rfl ?_
  refine r_nmM (fun τ1 eτ1 => ?_)
  have h := h τ1 eτ1
  refine r_iload_n (x := x1) d_X12_at_5 rfl ?_
  refine x_callSI (Y2 := mX12_isLetter) (As := [(0, x1)]) (S := []) d_X12_at_6 ok_mX12_isLetter ml_X12_208 rfl (Nat.le_of_ble_eq_true rfl) (Nat.le_of_ble_eq_true rfl) rfl hd_1 (c_X12_isLetter (v_X12_isLetter_0 he_1 ?_))
  refine ⟨fun hc => ?_, fun hc => ?_⟩
  · have h := h.1 hc
    show WP l mX12_at (rm d 0 0) noX _ 0 0 9 [(2, t), (0, x1), (0, x2)] [(0, 0)] N Λ τ1
    refine r_if_eq (tgt := 41) d_X12_at_9 rfl (fun _ => ?_) (fun hc => absurd hc (by decide))
    refine r_bipush (x := (-100)) d_X12_at_41 ⟨by decide, by decide⟩ (by decide) ?_
    exact r_iret d_X12_at_43 rfl rfl (Nat.le_refl 0) (Nat.le_refl 0) ⟨_, rfl, rfl, rfl, h⟩
  · have h := h.2 hc
    refine ⟨fun hc => ?_, fun hc => ?_⟩
    · have h := h.1 hc
      show WP l mX12_at (rm d 0 0) noX _ 0 0 9 [(2, t), (0, x1), (0, x2)] [(0, 0)] N Λ τ1
      refine r_if_eq (tgt := 41) d_X12_at_9 rfl (fun _ => ?_) (fun hc => absurd hc (by decide))
      refine r_bipush (x := (-100)) d_X12_at_41 ⟨by decide, by decide⟩ (by decide) ?_
      exact r_iret d_X12_at_43 rfl rfl (Nat.le_refl 0) (Nat.le_refl 0) ⟨_, rfl, rfl, rfl, h⟩
    · have h := h.2 hc
      show WP l mX12_at (rm d 0 0) noX _ 0 0 9 [(2, t), (0, x1), (0, x2)] [(0, 1)] N Λ τ1
      refine r_if_eq (tgt := 41) d_X12_at_9 rfl (fun hc => absurd hc (by decide)) (fun _ => ?_)
      refine r_iload_n (x := x2) d_X12_at_12 rfl ?_
      refine r_i2l d_X12_at_13 ?_
      refine r_lconst d_X12_at_14 ?_
      skip
      refine r_ldc2 (x := 2) d_X12_at_15 ck_X12_250 (by decide) ?_
      refine x_callSI (Y2 := mX12_within) (As := [(1, x2), (1, 0), (1, 2)]) (S := []) d_X12_at_18 ok_mX12_within ml_X12_91 rfl (Nat.le_of_ble_eq_true rfl) (Nat.le_of_ble_eq_true rfl) rfl hd_1 (c_X12_within (v_X12_within_0 ?_))
      refine ⟨fun hc => ?_, fun hc => ?_⟩
      · have h := h.1 hc
        show WP l mX12_at (rm d 0 0) noX _ 0 0 21 [(2, t), (0, x1), (0, x2)] [(0, 0)] N Λ τ1
        refine r_if_eq (tgt := 41) d_X12_at_21 rfl (fun _ => ?_) (fun hc => absurd hc (by decide))
        refine r_bipush (x := (-100)) d_X12_at_41 ⟨by decide, by decide⟩ (by decide) ?_
        exact r_iret d_X12_at_43 rfl rfl (Nat.le_refl 0) (Nat.le_refl 0) ⟨_, rfl, rfl, rfl, h⟩
      · have h := h.2 hc
        refine ⟨fun hc => ?_, fun hc => ?_⟩
        · have h := h.1 hc
          show WP l mX12_at (rm d 0 0) noX _ 0 0 21 [(2, t), (0, x1), (0, x2)] [(0, 0)] N Λ τ1
          refine r_if_eq (tgt := 41) d_X12_at_21 rfl (fun _ => ?_) (fun hc => absurd hc (by decide))
          refine r_bipush (x := (-100)) d_X12_at_41 ⟨by decide, by decide⟩ (by decide) ?_
          exact r_iret d_X12_at_43 rfl rfl (Nat.le_refl 0) (Nat.le_refl 0) ⟨_, rfl, rfl, rfl, h⟩
        · have h := h.2 hc
          show WP l mX12_at (rm d 0 0) noX _ 0 0 21 [(2, t), (0, x1), (0, x2)] [(0, 1)] N Λ τ1
          refine r_if_eq (tgt := 41) d_X12_at_21 rfl (fun hc => absurd hc (by decide)) (fun _ => ?_)
          refine r_aload_n (x := t) d_X12_at_24 rfl o_t.1 ?_
          refine r_getf (j := 3) (t := 2) (x := t_state) d_X12_at_25 kX12 (by decide) fl_X12_20 o_t.1 o_t.2.1 o_t.2.2.1 o_t.2.2.2 rfl f_t_state ?_
          refine r_sipush (x := 966) d_X12_at_28 ⟨by decide, by decide⟩ (by decide) ?_
          refine r_iconst (x := 3) d_X12_at_31 ⟨by decide, by decide⟩ ?_
          refine r_iload_n (x := x1) d_X12_at_32 rfl ?_
          refine r_imul d_X12_at_33 ?_
          refine r_iadd d_X12_at_34 ?_
          refine r_iload_n (x := x2) d_X12_at_35 rfl ?_
          refine r_iadd d_X12_at_36 ?_
          refine x_iald d_X12_at_37 h.1 ?_
          have h := h.2
          refine r_goto (tgt := 43) d_X12_at_38 rfl ?_
          exact r_iret d_X12_at_43 rfl rfl (Nat.le_refl 0) (Nat.le_refl 0) ⟨_, rfl, rfl, rfl, h⟩
theorem v_X12_worthOf_0 {l : Launch} {d N : Nat} {Λ : Lay} {P : Int → Mem → Prop} {σ : Mem} {x1 x2 x3 t t_state : Int} (o_t : Ob N Λ t 21 36) (f_t_state : (Λ t).2.2 3 = t_state)
    (h : (∀ y1, y1 = (addI 966 (mulI 3 x1)) → (∀ y2, y2 = (addI 966 (mulI 3 x2)) → (∀ y3, y3 = (addI 966 (mulI 3 x3)) → (Ix N Λ t_state 0 y1 ∧ (Ix N Λ t_state 0 (addI y2 1) ∧ (Ix N Λ t_state 0 (addI y3 2) ∧ (Ix N Λ t_state 0 (addI y2 2) ∧ (Ix N Λ t_state 0 (addI y3 1) ∧ (Ix N Λ t_state 0 (addI y1 1) ∧ (Ix N Λ t_state 0 y2 ∧ (Ix N Λ t_state 0 (addI y3 2) ∧ (Ix N Λ t_state 0 (addI y2 2) ∧ (Ix N Λ t_state 0 y3 ∧ (Ix N Λ t_state 0 (addI y1 2) ∧ (Ix N Λ t_state 0 y2 ∧ (Ix N Λ t_state 0 (addI y3 1) ∧ (Ix N Λ t_state 0 (addI y2 1) ∧ (Ix N Λ t_state 0 y3 ∧ P (addI (subI (mulI (σ t_state y1) (subI (mulI (σ t_state (addI y2 1)) (σ t_state (addI y3 2))) (mulI (σ t_state (addI y2 2)) (σ t_state (addI y3 1))))) (mulI (σ t_state (addI y1 1)) (subI (mulI (σ t_state y2) (σ t_state (addI y3 2))) (mulI (σ t_state (addI y2 2)) (σ t_state y3))))) (mulI (σ t_state (addI y1 2)) (subI (mulI (σ t_state y2) (σ t_state (addI y3 1))) (mulI (σ t_state (addI y2 1)) (σ t_state y3))))) σ))))))))))))))))))) :
    WI l mX12_worthOf d P 0 [(2, t), (0, x1), (0, x2), (0, x3), (3, 0), (3, 0), (3, 0)] [] N Λ σ := by
  refine r_sipush (x := 966) d_X12_worthOf_0 ⟨by decide, by decide⟩ (by decide) ?_
  refine r_iconst (x := 3) d_X12_worthOf_3 ⟨by decide, by decide⟩ ?_
  refine r_iload_n (x := x1) d_X12_worthOf_4 rfl ?_
  refine r_imul d_X12_worthOf_5 ?_
  refine r_iadd d_X12_worthOf_6 ?_
  refine r_nm (fun y1 ey1 => ?_)
  have h := h y1 ey1
  refine r_istore (L2 := [(2, t), (0, x1), (0, x2), (0, x3), (0, y1), (3, 0), (3, 0)]) d_X12_worthOf_7 (by decide) rfl rfl ?_
  refine r_sipush (x := 966) d_X12_worthOf_9 ⟨by decide, by decide⟩ (by decide) ?_
  refine r_iconst (x := 3) d_X12_worthOf_12 ⟨by decide, by decide⟩ ?_
  refine r_iload_n (x := x2) d_X12_worthOf_13 rfl ?_
  refine r_imul d_X12_worthOf_14 ?_
  refine r_iadd d_X12_worthOf_15 ?_
  refine r_nm (fun y2 ey2 => ?_)
  have h := h y2 ey2
  refine r_istore (L2 := [(2, t), (0, x1), (0, x2), (0, x3), (0, y1), (0, y2), (3, 0)]) d_X12_worthOf_16 (by decide) rfl rfl ?_
  refine r_sipush (x := 966) d_X12_worthOf_18 ⟨by decide, by decide⟩ (by decide) ?_
  refine r_iconst (x := 3) d_X12_worthOf_21 ⟨by decide, by decide⟩ ?_
  refine r_iload_n (x := x3) d_X12_worthOf_22 rfl ?_
  refine r_imul d_X12_worthOf_23 ?_
  refine r_iadd d_X12_worthOf_24 ?_
  refine r_nm (fun y3 ey3 => ?_)
  have h := h y3 ey3
  refine r_istore (L2 := [(2, t), (0, x1), (0, x2), (0, x3), (0, y1), (0, y2), (0, y3)]) d_X12_worthOf_25 (by decide) rfl rfl ?_
  refine r_aload_n (x := t) d_X12_worthOf_27 rfl o_t.1 ?_
  refine r_getf (j := 3) (t := 2) (x := t_state) d_X12_worthOf_28 kX12 (by decide) fl_X12_20 o_t.1 o_t.2.1 o_t.2.2.1 o_t.2.2.2 rfl f_t_state ?_
  refine r_iload (x := y1) d_X12_worthOf_31 rfl ?_
  refine x_iald d_X12_worthOf_33 h.1 ?_
  have h := h.2
  refine r_aload_n (x := t) d_X12_worthOf_34 rfl o_t.1 ?_
  refine r_getf (j := 3) (t := 2) (x := t_state) d_X12_worthOf_35 kX12 (by decide) fl_X12_20 o_t.1 o_t.2.1 o_t.2.2.1 o_t.2.2.2 rfl f_t_state ?_
  refine r_iload (x := y2) d_X12_worthOf_38 rfl ?_
  refine r_iconst (x := 1) d_X12_worthOf_40 ⟨by decide, by decide⟩ ?_
  refine r_iadd d_X12_worthOf_41 ?_
  refine x_iald d_X12_worthOf_42 h.1 ?_
  have h := h.2
  refine r_aload_n (x := t) d_X12_worthOf_43 rfl o_t.1 ?_
  refine r_getf (j := 3) (t := 2) (x := t_state) d_X12_worthOf_44 kX12 (by decide) fl_X12_20 o_t.1 o_t.2.1 o_t.2.2.1 o_t.2.2.2 rfl f_t_state ?_
  refine r_iload (x := y3) d_X12_worthOf_47 rfl ?_
  refine r_iconst (x := 2) d_X12_worthOf_49 ⟨by decide, by decide⟩ ?_
  refine r_iadd d_X12_worthOf_50 ?_
  refine x_iald d_X12_worthOf_51 h.1 ?_
  have h := h.2
  refine r_imul d_X12_worthOf_52 ?_
  refine r_aload_n (x := t) d_X12_worthOf_53 rfl o_t.1 ?_
  refine r_getf (j := 3) (t := 2) (x := t_state) d_X12_worthOf_54 kX12 (by decide) fl_X12_20 o_t.1 o_t.2.1 o_t.2.2.1 o_t.2.2.2 rfl f_t_state ?_
  refine r_iload (x := y2) d_X12_worthOf_57 rfl ?_
  refine r_iconst (x := 2) d_X12_worthOf_59 ⟨by decide, by decide⟩ ?_
  refine r_iadd d_X12_worthOf_60 ?_
  refine x_iald d_X12_worthOf_61 h.1 ?_
  have h := h.2
  refine r_aload_n (x := t) d_X12_worthOf_62 rfl o_t.1 ?_
  refine r_getf (j := 3) (t := 2) (x := t_state) d_X12_worthOf_63 kX12 (by decide) fl_X12_20 o_t.1 o_t.2.1 o_t.2.2.1 o_t.2.2.2 rfl f_t_state ?_
  refine r_iload (x := y3) d_X12_worthOf_66 rfl ?_
  refine r_iconst (x := 1) d_X12_worthOf_68 ⟨by decide, by decide⟩ ?_
  refine r_iadd d_X12_worthOf_69 ?_
  refine x_iald d_X12_worthOf_70 h.1 ?_
  have h := h.2
  refine r_imul d_X12_worthOf_71 ?_
  refine r_isub d_X12_worthOf_72 ?_
  refine r_imul d_X12_worthOf_73 ?_
  refine r_aload_n (x := t) d_X12_worthOf_74 rfl o_t.1 ?_
  refine r_getf (j := 3) (t := 2) (x := t_state) d_X12_worthOf_75 kX12 (by decide) fl_X12_20 o_t.1 o_t.2.1 o_t.2.2.1 o_t.2.2.2 rfl f_t_state ?_
  refine r_iload (x := y1) d_X12_worthOf_78 rfl ?_
  refine r_iconst (x := 1) d_X12_worthOf_80 ⟨by decide, by decide⟩ ?_
  refine r_iadd d_X12_worthOf_81 ?_
  refine x_iald d_X12_worthOf_82 h.1 ?_
  have h := h.2
  refine r_aload_n (x := t) d_X12_worthOf_83 rfl o_t.1 ?_
  refine r_getf (j := 3) (t := 2) (x := t_state) d_X12_worthOf_84 kX12 (by decide) fl_X12_20 o_t.1 o_t.2.1 o_t.2.2.1 o_t.2.2.2 rfl f_t_state ?_
  refine r_iload (x := y2) d_X12_worthOf_87 rfl ?_
  refine x_iald d_X12_worthOf_89 h.1 ?_
  have h := h.2
  refine r_aload_n (x := t) d_X12_worthOf_90 rfl o_t.1 ?_
  refine r_getf (j := 3) (t := 2) (x := t_state) d_X12_worthOf_91 kX12 (by decide) fl_X12_20 o_t.1 o_t.2.1 o_t.2.2.1 o_t.2.2.2 rfl f_t_state ?_
  refine r_iload (x := y3) d_X12_worthOf_94 rfl ?_
  refine r_iconst (x := 2) d_X12_worthOf_96 ⟨by decide, by decide⟩ ?_
  refine r_iadd d_X12_worthOf_97 ?_
  refine x_iald d_X12_worthOf_98 h.1 ?_
  have h := h.2
  refine r_imul d_X12_worthOf_99 ?_
  refine r_aload_n (x := t) d_X12_worthOf_100 rfl o_t.1 ?_
  refine r_getf (j := 3) (t := 2) (x := t_state) d_X12_worthOf_101 kX12 (by decide) fl_X12_20 o_t.1 o_t.2.1 o_t.2.2.1 o_t.2.2.2 rfl f_t_state ?_
  refine r_iload (x := y2) d_X12_worthOf_104 rfl ?_
  refine r_iconst (x := 2) d_X12_worthOf_106 ⟨by decide, by decide⟩ ?_
  refine r_iadd d_X12_worthOf_107 ?_
  refine x_iald d_X12_worthOf_108 h.1 ?_
  have h := h.2
  refine r_aload_n (x := t) d_X12_worthOf_109 rfl o_t.1 ?_
  refine r_getf (j := 3) (t := 2) (x := t_state) d_X12_worthOf_110 kX12 (by decide) fl_X12_20 o_t.1 o_t.2.1 o_t.2.2.1 o_t.2.2.2 rfl f_t_state ?_
  refine r_iload (x := y3) d_X12_worthOf_113 rfl ?_
  refine x_iald d_X12_worthOf_115 h.1 ?_
  have h := h.2
  refine r_imul d_X12_worthOf_116 ?_
  refine r_isub d_X12_worthOf_117 ?_
  refine r_imul d_X12_worthOf_118 ?_
  refine r_isub d_X12_worthOf_119 ?_
  refine r_aload_n (x := t) d_X12_worthOf_120 rfl o_t.1 ?_
  refine r_getf (j := 3) (t := 2) (x := t_state) d_X12_worthOf_121 kX12 (by decide) fl_X12_20 o_t.1 o_t.2.1 o_t.2.2.1 o_t.2.2.2 rfl f_t_state ?_
  refine r_iload (x := y1) d_X12_worthOf_124 rfl ?_
  refine r_iconst (x := 2) d_X12_worthOf_126 ⟨by decide, by decide⟩ ?_
  refine r_iadd d_X12_worthOf_127 ?_
  refine x_iald d_X12_worthOf_128 h.1 ?_
  have h := h.2
  refine r_aload_n (x := t) d_X12_worthOf_129 rfl o_t.1 ?_
  refine r_getf (j := 3) (t := 2) (x := t_state) d_X12_worthOf_130 kX12 (by decide) fl_X12_20 o_t.1 o_t.2.1 o_t.2.2.1 o_t.2.2.2 rfl f_t_state ?_
  refine r_iload (x := y2) d_X12_worthOf_133 rfl ?_
  refine x_iald d_X12_worthOf_135 h.1 ?_
  have h := h.2
  refine r_aload_n (x := t) d_X12_worthOf_136 rfl o_t.1 ?_
  refine r_getf (j := 3) (t := 2) (x := t_state) d_X12_worthOf_137 kX12 (by decide) fl_X12_20 o_t.1 o_t.2.1 o_t.2.2.1 o_t.2.2.2 rfl f_t_state ?_
  refine r_iload (x := y3) d_X12_worthOf_140 rfl ?_
  refine r_iconst (x := 1) d_X12_worthOf_142 ⟨by decide, by decide⟩ ?_
  refine r_iadd d_X12_worthOf_143 ?_
  refine x_iald d_X12_worthOf_144 h.1 ?_
  have h := h.2
  refine r_imul d_X12_worthOf_145 ?_
  refine r_aload_n (x := t) d_X12_worthOf_146 rfl o_t.1 ?_
  refine r_getf (j := 3) (t := 2) (x := t_state) d_X12_worthOf_147 kX12 (by decide) fl_X12_20 o_t.1 o_t.2.1 o_t.2.2.1 o_t.2.2.2 rfl f_t_state ?_
  refine r_iload (x := y2) d_X12_worthOf_150 rfl ?_
  refine r_iconst (x := 1) d_X12_worthOf_152 ⟨by decide, by decide⟩ ?_
  refine r_iadd d_X12_worthOf_153 ?_
  refine x_iald d_X12_worthOf_154 h.1 ?_
  have h := h.2
  refine r_aload_n (x := t) d_X12_worthOf_155 rfl o_t.1 ?_
  refine r_getf (j := 3) (t := 2) (x := t_state) d_X12_worthOf_156 kX12 (by decide) fl_X12_20 o_t.1 o_t.2.1 o_t.2.2.1 o_t.2.2.2 rfl f_t_state ?_
  refine r_iload (x := y3) d_X12_worthOf_159 rfl ?_
  refine x_iald d_X12_worthOf_161 h.1 ?_
  have h := h.2
  refine r_imul d_X12_worthOf_162 ?_
  refine r_isub d_X12_worthOf_163 ?_
  refine r_imul d_X12_worthOf_164 ?_
  refine r_iadd d_X12_worthOf_165 ?_
  exact r_iret d_X12_worthOf_166 rfl rfl (Nat.le_refl 0) (Nat.le_refl 0) ⟨_, rfl, rfl, rfl, h⟩
theorem v_X12_worth_0 {l : Launch} {d N : Nat} {Λ : Lay} {P : Int → Mem → Prop} {σ : Mem} {x1 x2 x3 t : Int} (o_t : Ob N Λ t 21 36) (h0d : 2 ≤ d)
    (h : (∀ τ1, τ1 = st σ t 0 0 → (((cmpL x1 0) < 0 → P (-2147483648) τ1) ∧ (¬ ((cmpL x1 0) < 0) → ((0 < (cmpL x1 9) → P (-2147483648) τ1) ∧ (¬ (0 < (cmpL x1 9)) → (((cmpL x2 0) < 0 → P (-2147483648) τ1) ∧ (¬ ((cmpL x2 0) < 0) → ((0 < (cmpL x2 9) → P (-2147483648) τ1) ∧ (¬ (0 < (cmpL x2 9)) → (((cmpL x3 0) < 0 → P (-2147483648) τ1) ∧ (¬ ((cmpL x3 0) < 0) → ((0 < (cmpL x3 9) → P (-2147483648) τ1) ∧ (¬ (0 < (cmpL x3 9)) → (CI l mX12_worthOf (d - 1) [(2, t), (0, x1), (0, x2), (0, x3)] N Λ τ1 (fun v3 σ2 => P v3 σ2)))))))))))))))) :
    WI l mX12_worth d P 0 [(2, t), (0, x1), (0, x2), (0, x3)] [] N Λ σ := by
  have hd_1 : 1 ≤ d := Nat.le_trans (by decide) h0d
  have he_1 : 1 ≤ d - 1 := Nat.le_sub_of_add_le (Nat.le_trans (by decide) h0d)
  refine r_aload_n (x := t) d_X12_worth_0 rfl o_t.1 ?_
  refine r_iconst (x := 0) d_X12_worth_1 ⟨by decide, by decide⟩ ?_
  refine r_putI (j := 0) d_X12_worth_2 kX12 (by decide) fl_X12_1 rfl o_t.1 o_t.2.1 o_t.2.2.1 o_t.2.2.2 rfl ?_
  refine r_nmM (fun τ1 eτ1 => ?_)
  have h := h τ1 eτ1
  refine r_iload_n (x := x1) d_X12_worth_5 rfl ?_
  refine x_callSI (Y2 := mX12_isLetter) (As := [(0, x1)]) (S := []) d_X12_worth_6 ok_mX12_isLetter ml_X12_208 rfl (Nat.le_of_ble_eq_true rfl) (Nat.le_of_ble_eq_true rfl) rfl hd_1 (c_X12_isLetter (v_X12_isLetter_0 he_1 ?_))
  refine ⟨fun hc => ?_, fun hc => ?_⟩
  · have h := h.1 hc
    show WP l mX12_worth (rm d 0 0) noX _ 0 0 9 [(2, t), (0, x1), (0, x2), (0, x3)] [(0, 0)] N Λ τ1
    refine r_if_eq (tgt := 36) d_X12_worth_9 rfl (fun _ => ?_) (fun hc => absurd hc (by decide))
    refine r_ldcw (x := (-2147483648)) d_X12_worth_36 ck_X12_334 (by decide) ?_
    exact r_iret d_X12_worth_39 rfl rfl (Nat.le_refl 0) (Nat.le_refl 0) ⟨_, rfl, rfl, rfl, h⟩
  · have h := h.2 hc
    refine ⟨fun hc => ?_, fun hc => ?_⟩
    · have h := h.1 hc
      show WP l mX12_worth (rm d 0 0) noX _ 0 0 9 [(2, t), (0, x1), (0, x2), (0, x3)] [(0, 0)] N Λ τ1
      refine r_if_eq (tgt := 36) d_X12_worth_9 rfl (fun _ => ?_) (fun hc => absurd hc (by decide))
      refine r_ldcw (x := (-2147483648)) d_X12_worth_36 ck_X12_334 (by decide) ?_
      exact r_iret d_X12_worth_39 rfl rfl (Nat.le_refl 0) (Nat.le_refl 0) ⟨_, rfl, rfl, rfl, h⟩
    · have h := h.2 hc
      show WP l mX12_worth (rm d 0 0) noX _ 0 0 9 [(2, t), (0, x1), (0, x2), (0, x3)] [(0, 1)] N Λ τ1
      refine r_if_eq (tgt := 36) d_X12_worth_9 rfl (fun hc => absurd hc (by decide)) (fun _ => ?_)
      refine r_iload_n (x := x2) d_X12_worth_12 rfl ?_
      refine x_callSI (Y2 := mX12_isLetter) (As := [(0, x2)]) (S := []) d_X12_worth_13 ok_mX12_isLetter ml_X12_208 rfl (Nat.le_of_ble_eq_true rfl) (Nat.le_of_ble_eq_true rfl) rfl hd_1 (c_X12_isLetter (v_X12_isLetter_0 he_1 ?_))
      refine ⟨fun hc => ?_, fun hc => ?_⟩
      · have h := h.1 hc
        show WP l mX12_worth (rm d 0 0) noX _ 0 0 16 [(2, t), (0, x1), (0, x2), (0, x3)] [(0, 0)] N Λ τ1
        refine r_if_eq (tgt := 36) d_X12_worth_16 rfl (fun _ => ?_) (fun hc => absurd hc (by decide))
        refine r_ldcw (x := (-2147483648)) d_X12_worth_36 ck_X12_334 (by decide) ?_
        exact r_iret d_X12_worth_39 rfl rfl (Nat.le_refl 0) (Nat.le_refl 0) ⟨_, rfl, rfl, rfl, h⟩
      · have h := h.2 hc
        refine ⟨fun hc => ?_, fun hc => ?_⟩
        · have h := h.1 hc
          show WP l mX12_worth (rm d 0 0) noX _ 0 0 16 [(2, t), (0, x1), (0, x2), (0, x3)] [(0, 0)] N Λ τ1
          refine r_if_eq (tgt := 36) d_X12_worth_16 rfl (fun _ => ?_) (fun hc => absurd hc (by decide))
          refine r_ldcw (x := (-2147483648)) d_X12_worth_36 ck_X12_334 (by decide) ?_
          exact r_iret d_X12_worth_39 rfl rfl (Nat.le_refl 0) (Nat.le_refl 0) ⟨_, rfl, rfl, rfl, h⟩
        · have h := h.2 hc
          show WP l mX12_worth (rm d 0 0) noX _ 0 0 16 [(2, t), (0, x1), (0, x2), (0, x3)] [(0, 1)] N Λ τ1
          refine r_if_eq (tgt := 36) d_X12_worth_16 rfl (fun hc => absurd hc (by decide)) (fun _ => ?_)
          refine r_iload_n (x := x3) d_X12_worth_19 rfl ?_
          refine x_callSI (Y2 := mX12_isLetter) (As := [(0, x3)]) (S := []) d_X12_worth_20 ok_mX12_isLetter ml_X12_208 rfl (Nat.le_of_ble_eq_true rfl) (Nat.le_of_ble_eq_true rfl) rfl hd_1 (c_X12_isLetter (v_X12_isLetter_0 he_1 ?_))
          refine ⟨fun hc => ?_, fun hc => ?_⟩
          · have h := h.1 hc
            show WP l mX12_worth (rm d 0 0) noX _ 0 0 23 [(2, t), (0, x1), (0, x2), (0, x3)] [(0, 0)] N Λ τ1
            refine r_if_eq (tgt := 36) d_X12_worth_23 rfl (fun _ => ?_) (fun hc => absurd hc (by decide))
            refine r_ldcw (x := (-2147483648)) d_X12_worth_36 ck_X12_334 (by decide) ?_
            exact r_iret d_X12_worth_39 rfl rfl (Nat.le_refl 0) (Nat.le_refl 0) ⟨_, rfl, rfl, rfl, h⟩
          · have h := h.2 hc
            refine ⟨fun hc => ?_, fun hc => ?_⟩
            · have h := h.1 hc
              show WP l mX12_worth (rm d 0 0) noX _ 0 0 23 [(2, t), (0, x1), (0, x2), (0, x3)] [(0, 0)] N Λ τ1
              refine r_if_eq (tgt := 36) d_X12_worth_23 rfl (fun _ => ?_) (fun hc => absurd hc (by decide))
              refine r_ldcw (x := (-2147483648)) d_X12_worth_36 ck_X12_334 (by decide) ?_
              exact r_iret d_X12_worth_39 rfl rfl (Nat.le_refl 0) (Nat.le_refl 0) ⟨_, rfl, rfl, rfl, h⟩
            · have h := h.2 hc
              show WP l mX12_worth (rm d 0 0) noX _ 0 0 23 [(2, t), (0, x1), (0, x2), (0, x3)] [(0, 1)] N Λ τ1
              refine r_if_eq (tgt := 36) d_X12_worth_23 rfl (fun hc => absurd hc (by decide)) (fun _ => ?_)
              refine r_aload_n (x := t) d_X12_worth_26 rfl o_t.1 ?_
              refine r_iload_n (x := x1) d_X12_worth_27 rfl ?_
              refine r_iload_n (x := x2) d_X12_worth_28 rfl ?_
              refine r_iload_n (x := x3) d_X12_worth_29 rfl ?_
              refine x_callVI (Y2 := mX12_worthOf) (c := t) (As := [(0, x1), (0, x2), (0, x3)]) (S := []) d_X12_worth_30 ok_mX12_worthOf ml_X12_412 rfl (Nat.le_of_ble_eq_true rfl) (Nat.le_of_ble_eq_true rfl) rfl hd_1 kX12 o_t (CI.mono h (fun v3 σ2 h => ?_))
              refine r_goto (tgt := 39) d_X12_worth_33 rfl ?_
              exact r_iret d_X12_worth_39 rfl rfl (Nat.le_refl 0) (Nat.le_refl 0) ⟨_, rfl, rfl, rfl, h⟩
theorem v_X12_worthOfRank_0 {l : Launch} {d N : Nat} {Λ : Lay} {P : Int → Mem → Prop} {σ : Mem} {x1 t t_letterOf : Int} (o_t : Ob N Λ t 21 36) (f_t_letterOf : (Λ t).2.2 2 = t_letterOf) (h0d : 1 ≤ d)
    (h : (Ix N Λ t_letterOf 0 (mulI 3 x1) ∧ (Ix N Λ t_letterOf 0 (addI (mulI 3 x1) 1) ∧ (Ix N Λ t_letterOf 0 (addI (mulI 3 x1) 2) ∧ (CI l mX12_worthOf (d - 1) [(2, t), (0, (σ t_letterOf (mulI 3 x1))), (0, (σ t_letterOf (addI (mulI 3 x1) 1))), (0, (σ t_letterOf (addI (mulI 3 x1) 2)))] N Λ σ (fun v2 σ1 => P v2 σ1)))))) :
    WI l mX12_worthOfRank d P 0 [(2, t), (0, x1)] [] N Λ σ := by
  have hd_1 : 1 ≤ d := Nat.le_trans (by decide) h0d
  refine r_aload_n (x := t) d_X12_worthOfRank_0 rfl o_t.1 ?_
  refine r_aload_n (x := t) d_X12_worthOfRank_1 rfl o_t.1 ?_
  refine r_getf (j := 2) (t := 2) (x := t_letterOf) d_X12_worthOfRank_2 kX12 (by decide) fl_X12_17 o_t.1 o_t.2.1 o_t.2.2.1 o_t.2.2.2 rfl f_t_letterOf ?_
  refine r_iconst (x := 3) d_X12_worthOfRank_5 ⟨by decide, by decide⟩ ?_
  refine r_iload_n (x := x1) d_X12_worthOfRank_6 rfl ?_
  refine r_imul d_X12_worthOfRank_7 ?_
  refine x_iald d_X12_worthOfRank_8 h.1 ?_
  have h := h.2
  refine r_aload_n (x := t) d_X12_worthOfRank_9 rfl o_t.1 ?_
  refine r_getf (j := 2) (t := 2) (x := t_letterOf) d_X12_worthOfRank_10 kX12 (by decide) fl_X12_17 o_t.1 o_t.2.1 o_t.2.2.1 o_t.2.2.2 rfl f_t_letterOf ?_
  refine r_iconst (x := 3) d_X12_worthOfRank_13 ⟨by decide, by decide⟩ ?_
  refine r_iload_n (x := x1) d_X12_worthOfRank_14 rfl ?_
  refine r_imul d_X12_worthOfRank_15 ?_
  refine r_iconst (x := 1) d_X12_worthOfRank_16 ⟨by decide, by decide⟩ ?_
  refine r_iadd d_X12_worthOfRank_17 ?_
  refine x_iald d_X12_worthOfRank_18 h.1 ?_
  have h := h.2
  refine r_aload_n (x := t) d_X12_worthOfRank_19 rfl o_t.1 ?_
  refine r_getf (j := 2) (t := 2) (x := t_letterOf) d_X12_worthOfRank_20 kX12 (by decide) fl_X12_17 o_t.1 o_t.2.1 o_t.2.2.1 o_t.2.2.2 rfl f_t_letterOf ?_
  refine r_iconst (x := 3) d_X12_worthOfRank_23 ⟨by decide, by decide⟩ ?_
  refine r_iload_n (x := x1) d_X12_worthOfRank_24 rfl ?_
  refine r_imul d_X12_worthOfRank_25 ?_
  refine r_iconst (x := 2) d_X12_worthOfRank_26 ⟨by decide, by decide⟩ ?_
  refine r_iadd d_X12_worthOfRank_27 ?_
  refine x_iald d_X12_worthOfRank_28 h.1 ?_
  have h := h.2
  refine x_callVI (Y2 := mX12_worthOf) (c := t) (As := [(0, (σ t_letterOf (mulI 3 x1))), (0, (σ t_letterOf (addI (mulI 3 x1) 1))), (0, (σ t_letterOf (addI (mulI 3 x1) 2)))]) (S := []) d_X12_worthOfRank_29 ok_mX12_worthOf ml_X12_412 rfl (Nat.le_of_ble_eq_true rfl) (Nat.le_of_ble_eq_true rfl) rfl hd_1 kX12 o_t (CI.mono h (fun v2 σ1 h => ?_))
  exact r_iret d_X12_worthOfRank_32 rfl rfl (Nat.le_refl 0) (Nat.le_refl 0) ⟨_, rfl, rfl, rfl, h⟩
theorem v_X12_fits_0 {l : Launch} {d N : Nat} {Λ : Lay} {P : Int → Mem → Prop} {σ : Mem} {x0 x2 : Int}
    (h : (((cmpL x0 0) = 0 → P 1 σ) ∧ (¬ ((cmpL x0 0) = 0) → ((¬ (cmpL x2 0) = 0 → ((¬ (cmpL x0 (-9223372036854775808)) = 0 → (¬ x2 = 0 ∧ ((¬ (cmpL (divL (mulL x0 x2) x2) x0) = 0 → P 0 σ) ∧ ((cmpL (divL (mulL x0 x2) x2) x0) = 0 → P 1 σ)))) ∧ ((cmpL x0 (-9223372036854775808)) = 0 → ((¬ (cmpL x2 1) = 0 → P 0 σ) ∧ ((cmpL x2 1) = 0 → P 1 σ))))) ∧ ((cmpL x2 0) = 0 → P 1 σ))))) :
    WI l mX12_fits d P 0 [(1, x0), (3, 0), (1, x2), (3, 0)] [] N Λ σ := by
  refine r_lload_n (x := x0) d_X12_fits_0 rfl ?_
  refine r_lconst d_X12_fits_1 ?_
  skip
  refine r_lcmp d_X12_fits_2 ?_
  refine r_if_eq (tgt := 12) d_X12_fits_3 rfl (fun hc => ?_) (fun hc => ?_)
  · have h := h.1 hc
    refine r_iconst (x := 1) d_X12_fits_12 ⟨by decide, by decide⟩ ?_
    exact r_iret d_X12_fits_13 rfl (by decide) (Nat.le_refl 0) (Nat.le_refl 0) ⟨_, rfl, rfl, rfl, h⟩
  · have h := h.2 hc
    refine r_lload_n (x := x2) d_X12_fits_6 rfl ?_
    refine r_lconst d_X12_fits_7 ?_
    skip
    refine r_lcmp d_X12_fits_8 ?_
    refine r_if_ne (tgt := 14) d_X12_fits_9 rfl (fun hc => ?_) (fun hc => ?_)
    · have h := h.1 hc
      refine r_lload_n (x := x0) d_X12_fits_14 rfl ?_
      refine r_ldc2 (x := (-9223372036854775808)) d_X12_fits_15 ck_X12_416 (by decide) ?_
      refine r_lcmp d_X12_fits_18 ?_
      refine r_if_ne (tgt := 34) d_X12_fits_19 rfl (fun hc => ?_) (fun hc => ?_)
      · have h := h.1 hc
        refine r_lload_n (x := x0) d_X12_fits_34 rfl ?_
        refine r_lload_n (x := x2) d_X12_fits_35 rfl ?_
        refine r_lmul d_X12_fits_36 ?_
        refine r_lload_n (x := x2) d_X12_fits_37 rfl ?_
        refine r_ldiv d_X12_fits_38 h.1 ?_
        have h := h.2
        refine r_lload_n (x := x0) d_X12_fits_39 rfl ?_
        refine r_lcmp d_X12_fits_40 ?_
        refine r_if_ne (tgt := 48) d_X12_fits_41 rfl (fun hc => ?_) (fun hc => ?_)
        · have h := h.1 hc
          refine r_iconst (x := 0) d_X12_fits_48 ⟨by decide, by decide⟩ ?_
          exact r_iret d_X12_fits_49 rfl (by decide) (Nat.le_refl 0) (Nat.le_refl 0) ⟨_, rfl, rfl, rfl, h⟩
        · have h := h.2 hc
          refine r_iconst (x := 1) d_X12_fits_44 ⟨by decide, by decide⟩ ?_
          refine r_goto (tgt := 49) d_X12_fits_45 rfl ?_
          exact r_iret d_X12_fits_49 rfl (by decide) (Nat.le_refl 0) (Nat.le_refl 0) ⟨_, rfl, rfl, rfl, h⟩
      · have h := h.2 hc
        refine r_lload_n (x := x2) d_X12_fits_22 rfl ?_
        refine r_lconst d_X12_fits_23 ?_
        skip
        refine r_lcmp d_X12_fits_24 ?_
        refine r_if_ne (tgt := 32) d_X12_fits_25 rfl (fun hc => ?_) (fun hc => ?_)
        · have h := h.1 hc
          refine r_iconst (x := 0) d_X12_fits_32 ⟨by decide, by decide⟩ ?_
          exact r_iret d_X12_fits_33 rfl (by decide) (Nat.le_refl 0) (Nat.le_refl 0) ⟨_, rfl, rfl, rfl, h⟩
        · have h := h.2 hc
          refine r_iconst (x := 1) d_X12_fits_28 ⟨by decide, by decide⟩ ?_
          refine r_goto (tgt := 33) d_X12_fits_29 rfl ?_
          exact r_iret d_X12_fits_33 rfl (by decide) (Nat.le_refl 0) (Nat.le_refl 0) ⟨_, rfl, rfl, rfl, h⟩
    · have h := h.2 hc
      refine r_iconst (x := 1) d_X12_fits_12 ⟨by decide, by decide⟩ ?_
      exact r_iret d_X12_fits_13 rfl (by decide) (Nat.le_refl 0) (Nat.le_refl 0) ⟨_, rfl, rfl, rfl, h⟩
theorem v_X12_value_0 {l : Launch} {d N : Nat} {Λ : Lay} {P : Int → Mem → Prop} {σ : Mem} {x1 t : Int} (o_t : Ob N Λ t 21 36) (h0d : 2 ≤ d)
    (h : (∀ τ1, τ1 = st σ t 0 0 → (((cmpL x1 0) < 0 → P (-9223372036854775808) τ1) ∧ (¬ ((cmpL x1 0) < 0) → ((0 < (cmpL x1 5) → P (-9223372036854775808) τ1) ∧ (¬ (0 < (cmpL x1 5)) → WL l mX12_value d P 21 [(2, t), (0, x1), (1, 0), (3, 0), (0, 0), (3, 0), (3, 0), (3, 0), (3, 0), (3, 0), (3, 0)] [] N Λ τ1)))))) :
    WL l mX12_value d P 0 [(2, t), (0, x1), (3, 0), (3, 0), (3, 0), (3, 0), (3, 0), (3, 0), (3, 0), (3, 0), (3, 0)] [] N Λ σ := by
  have hd_1 : 1 ≤ d := Nat.le_trans (by decide) h0d
  have he_1 : 1 ≤ d - 1 := Nat.le_sub_of_add_le (Nat.le_trans (by decide) h0d)
  refine r_aload_n (x := t) d_X12_value_0 rfl o_t.1 ?_
  refine r_iconst (x := 0) d_X12_value_1 ⟨by decide, by decide⟩ ?_
  refine r_putI (j := 0) d_X12_value_2 kX12 (by decide) fl_X12_1 rfl o_t.1 o_t.2.1 o_t.2.2.1 o_t.2.2.2 rfl ?_
  refine r_nmM (fun τ1 eτ1 => ?_)
  have h := h τ1 eτ1
  refine r_iload_n (x := x1) d_X12_value_5 rfl ?_
  refine x_callSI (Y2 := mX12_isShelf) (As := [(0, x1)]) (S := []) d_X12_value_6 ok_mX12_isShelf ml_X12_199 rfl (Nat.le_of_ble_eq_true rfl) (Nat.le_of_ble_eq_true rfl) rfl hd_1 (c_X12_isShelf (v_X12_isShelf_0 he_1 ?_))
  refine ⟨fun hc => ?_, fun hc => ?_⟩
  · have h := h.1 hc
    show WP l mX12_value (rm d 0 0) noX _ 0 0 9 [(2, t), (0, x1), (3, 0), (3, 0), (3, 0), (3, 0), (3, 0), (3, 0), (3, 0), (3, 0), (3, 0)] [(0, 0)] N Λ τ1
    refine r_if_ne (tgt := 16) d_X12_value_9 rfl (fun hc => absurd hc (by decide)) (fun _ => ?_)
    refine r_ldc2 (x := (-9223372036854775808)) d_X12_value_12 ck_X12_416 (by decide) ?_
    exact r_lret d_X12_value_15 rfl (Nat.le_refl 0) (Nat.le_refl 0) ⟨_, rfl, rfl, rfl, h⟩
  · have h := h.2 hc
    refine ⟨fun hc => ?_, fun hc => ?_⟩
    · have h := h.1 hc
      show WP l mX12_value (rm d 0 0) noX _ 0 0 9 [(2, t), (0, x1), (3, 0), (3, 0), (3, 0), (3, 0), (3, 0), (3, 0), (3, 0), (3, 0), (3, 0)] [(0, 0)] N Λ τ1
      refine r_if_ne (tgt := 16) d_X12_value_9 rfl (fun hc => absurd hc (by decide)) (fun _ => ?_)
      refine r_ldc2 (x := (-9223372036854775808)) d_X12_value_12 ck_X12_416 (by decide) ?_
      exact r_lret d_X12_value_15 rfl (Nat.le_refl 0) (Nat.le_refl 0) ⟨_, rfl, rfl, rfl, h⟩
    · have h := h.2 hc
      show WP l mX12_value (rm d 0 0) noX _ 0 0 9 [(2, t), (0, x1), (3, 0), (3, 0), (3, 0), (3, 0), (3, 0), (3, 0), (3, 0), (3, 0), (3, 0)] [(0, 1)] N Λ τ1
      refine r_if_ne (tgt := 16) d_X12_value_9 rfl (fun _ => ?_) (fun hc => absurd hc (by decide))
      refine r_lconst d_X12_value_16 ?_
      skip
      refine r_lstore_n (L2 := [(2, t), (0, x1), (1, 0), (3, 0), (3, 0), (3, 0), (3, 0), (3, 0), (3, 0), (3, 0), (3, 0)]) d_X12_value_17 (by decide) rfl rfl ?_
      refine r_iconst (x := 0) d_X12_value_18 ⟨by decide, by decide⟩ ?_
      refine r_istore (L2 := [(2, t), (0, x1), (1, 0), (3, 0), (0, 0), (3, 0), (3, 0), (3, 0), (3, 0), (3, 0), (3, 0)]) d_X12_value_19 (by decide) rfl rfl ?_
      exact h
theorem v_X12_value_21 {l : Launch} {d N : Nat} {Λ : Lay} {P : Int → Mem → Prop} {σ : Mem} {x1 x2 x4 t t_state : Int} (o_t : Ob N Λ t 21 36) (f_t_state : (Λ t).2.2 3 = t_state) (z_t_state : 0 ≤ t_state) (h0d : 1 ≤ d)
    (h : (Ix N Λ t_state 0 (mulI 161 x1) ∧ (((σ t_state (mulI 161 x1)) ≤ x4 → P x2 σ) ∧ (¬ ((σ t_state (mulI 161 x1)) ≤ x4) → (Ix N Λ t_state 0 (addI (addI (mulI 161 x1) 1) (mulI 2 x4)) ∧ (∀ y1, y1 = (σ t_state (addI (addI (mulI 161 x1) 1) (mulI 2 x4))) → (Ix N Λ t_state 0 (addI (addI (mulI 161 x1) 2) (mulI 2 x4)) ∧ (∀ y2, y2 = (σ t_state (addI (addI (mulI 161 x1) 2) (mulI 2 x4))) → WL l mX12_value d P 71 [(2, t), (0, x1), (1, x2), (3, 0), (0, x4), (0, y1), (1, y2), (3, 0), (0, 0), (3, 0), (3, 0)] [] N Λ σ)))))))) :
    WL l mX12_value d P 21 [(2, t), (0, x1), (1, x2), (3, 0), (0, x4), (3, 0), (3, 0), (3, 0), (3, 0), (3, 0), (3, 0)] [] N Λ σ := by
  have hd_1 : 1 ≤ d := Nat.le_trans (by decide) h0d
  refine r_iload (x := x4) d_X12_value_21 rfl ?_
  refine r_aload_n (x := t) d_X12_value_23 rfl o_t.1 ?_
  refine r_getf (j := 3) (t := 2) (x := t_state) d_X12_value_24 kX12 (by decide) fl_X12_20 o_t.1 o_t.2.1 o_t.2.2.1 o_t.2.2.2 rfl f_t_state ?_
  refine r_sipush (x := 161) d_X12_value_27 ⟨by decide, by decide⟩ (by decide) ?_
  refine r_iload_n (x := x1) d_X12_value_30 rfl ?_
  refine r_imul d_X12_value_31 ?_
  refine x_iald d_X12_value_32 h.1 ?_
  have h := h.2
  refine r_ic_ge (tgt := 165) d_X12_value_33 rfl (fun hc => ?_) (fun hc => ?_)
  · have h := h.1 hc
    refine r_lload_n (x := x2) d_X12_value_165 rfl ?_
    exact r_lret d_X12_value_166 rfl (Nat.le_refl 0) (Nat.le_refl 0) ⟨_, rfl, rfl, rfl, h⟩
  · have h := h.2 hc
    refine r_aload_n (x := t) d_X12_value_36 rfl o_t.1 ?_
    refine r_getf (j := 3) (t := 2) (x := t_state) d_X12_value_37 kX12 (by decide) fl_X12_20 o_t.1 o_t.2.1 o_t.2.2.1 o_t.2.2.2 rfl f_t_state ?_
    refine r_iload_n (x := x1) d_X12_value_40 rfl ?_
    refine r_iload (x := x4) d_X12_value_41 rfl ?_
    refine x_callSI (Y2 := mX12_keyOn) (As := [(2, t_state), (0, x1), (0, x4)]) (S := []) d_X12_value_43 ok_mX12_keyOn ml_X12_339 rfl (Nat.le_of_ble_eq_true rfl) (Nat.le_of_ble_eq_true rfl) rfl hd_1 (c_X12_keyOn (v_X12_keyOn_0 z_t_state ?_))
    refine ⟨h.1, ?_⟩
    have h := h.2
    show WP l mX12_value (rm d 0 0) noX _ 0 0 46 [(2, t), (0, x1), (1, x2), (3, 0), (0, x4), (3, 0), (3, 0), (3, 0), (3, 0), (3, 0), (3, 0)] [(0, (σ t_state (addI (addI (mulI 161 x1) 1) (mulI 2 x4))))] N Λ σ
    refine r_nm (fun y1 ey1 => ?_)
    have h := h y1 ey1
    refine r_istore (L2 := [(2, t), (0, x1), (1, x2), (3, 0), (0, x4), (0, y1), (3, 0), (3, 0), (3, 0), (3, 0), (3, 0)]) d_X12_value_46 (by decide) rfl rfl ?_
    refine r_aload_n (x := t) d_X12_value_48 rfl o_t.1 ?_
    refine r_getf (j := 3) (t := 2) (x := t_state) d_X12_value_49 kX12 (by decide) fl_X12_20 o_t.1 o_t.2.1 o_t.2.2.1 o_t.2.2.2 rfl f_t_state ?_
    refine r_sipush (x := 161) d_X12_value_52 ⟨by decide, by decide⟩ (by decide) ?_
    refine r_iload_n (x := x1) d_X12_value_55 rfl ?_
    refine r_imul d_X12_value_56 ?_
    refine r_iconst (x := 2) d_X12_value_57 ⟨by decide, by decide⟩ ?_
    refine r_iadd d_X12_value_58 ?_
    refine r_iconst (x := 2) d_X12_value_59 ⟨by decide, by decide⟩ ?_
    refine r_iload (x := x4) d_X12_value_60 rfl ?_
    refine r_imul d_X12_value_62 ?_
    refine r_iadd d_X12_value_63 ?_
    refine x_iald d_X12_value_64 h.1 ?_
    have h := h.2
    refine r_i2l d_X12_value_65 ?_
    refine r_nm (fun y2 ey2 => ?_)
    have h := h y2 ey2
    refine r_lstore (L2 := [(2, t), (0, x1), (1, x2), (3, 0), (0, x4), (0, y1), (1, y2), (3, 0), (3, 0), (3, 0), (3, 0)]) d_X12_value_66 (by decide) rfl rfl ?_
    refine r_iconst (x := 0) d_X12_value_68 ⟨by decide, by decide⟩ ?_
    refine r_istore (L2 := [(2, t), (0, x1), (1, x2), (3, 0), (0, x4), (0, y1), (1, y2), (3, 0), (0, 0), (3, 0), (3, 0)]) d_X12_value_69 (by decide) rfl rfl ?_
    exact h
theorem v_X12_value_71 {l : Launch} {d N : Nat} {Λ : Lay} {P : Int → Mem → Prop} {σ : Mem} {x1 x2 x4 x5 x6 x8 t t_letterOf : Int} (o_t : Ob N Λ t 21 36) (f_t_letterOf : (Λ t).2.2 2 = t_letterOf) (h0d : 2 ≤ d)
    (h : (CI l mX12_degreeOf (d - 1) [(0, x5)] N Λ σ (fun v2 σ1 => ((v2 ≤ x8 → (∀ y3, y3 = (addL x2 x6) → (((cmpL x6 0) ≤ 0 → (((cmpL y3 x2) ≤ 0 → (∀ y4, y4 = addI x4 1 → WL l mX12_value d P 21 [(2, t), (0, x1), (1, y3), (3, 0), (0, y4), (3, 0), (3, 0), (3, 0), (3, 0), (3, 0), (3, 0)] [] N Λ σ1)) ∧ (¬ ((cmpL y3 x2) ≤ 0) → P (-9223372036854775808) σ1))) ∧ (¬ ((cmpL x6 0) ≤ 0) → ((0 ≤ (cmpL y3 x2) → (∀ y5, y5 = addI x4 1 → WL l mX12_value d P 21 [(2, t), (0, x1), (1, y3), (3, 0), (0, y5), (3, 0), (3, 0), (3, 0), (3, 0), (3, 0), (3, 0)] [] N Λ σ1)) ∧ (¬ (0 ≤ (cmpL y3 x2)) → P (-9223372036854775808) σ1)))))) ∧ (¬ (v2 ≤ x8) → (CI l mX12_rankIn (d - 1) [(0, x5), (0, x8)] N Λ σ1 (fun v7 σ6 => (Ix N Λ t_letterOf 0 (mulI 3 v7) ∧ (Ix N Λ t_letterOf 0 (addI (mulI 3 v7) 1) ∧ (Ix N Λ t_letterOf 0 (addI (mulI 3 v7) 2) ∧ (CI l mX12_worthOf (d - 1 - 1) [(2, t), (0, (σ6 t_letterOf (mulI 3 v7))), (0, (σ6 t_letterOf (addI (mulI 3 v7) 1))), (0, (σ6 t_letterOf (addI (mulI 3 v7) 2)))] N Λ σ6 (fun v8 σ9 => (CI l mX12_fits (d - 1) [(1, x6), (1, v8)] N Λ σ9 (fun v11 σ10 => ((¬ v11 = 0 → (∀ y12, y12 = (mulL x6 v8) → (∀ y13, y13 = addI x8 1 → WL l mX12_value d P 71 [(2, t), (0, x1), (1, x2), (3, 0), (0, x4), (0, x5), (1, y12), (3, 0), (0, y13), (3, 0), (3, 0)] [] N Λ σ10))) ∧ (v11 = 0 → P (-9223372036854775808) σ10)))))))))))))))) :
    WL l mX12_value d P 71 [(2, t), (0, x1), (1, x2), (3, 0), (0, x4), (0, x5), (1, x6), (3, 0), (0, x8), (3, 0), (3, 0)] [] N Λ σ := by
  have hd_1 : 1 ≤ d := Nat.le_trans (by decide) h0d
  have he_1 : 1 ≤ d - 1 := Nat.le_sub_of_add_le (Nat.le_trans (by decide) h0d)
  refine r_iload (x := x8) d_X12_value_71 rfl ?_
  refine r_iload (x := x5) d_X12_value_73 rfl ?_
  refine x_callSI (Y2 := mX12_degreeOf) (As := [(0, x5)]) (S := [(0, x8)]) d_X12_value_75 ok_mX12_degreeOf ml_X12_138 rfl (Nat.le_of_ble_eq_true rfl) (Nat.le_of_ble_eq_true rfl) rfl hd_1 (CI.mono h (fun v2 σ1 h => ?_))
  refine r_ic_ge (tgt := 122) d_X12_value_78 rfl (fun hc => ?_) (fun hc => ?_)
  · have h := h.1 hc
    refine r_lload_n (x := x2) d_X12_value_122 rfl ?_
    refine r_lload (x := x6) d_X12_value_123 rfl ?_
    refine r_ladd d_X12_value_125 ?_
    refine r_nm (fun y3 ey3 => ?_)
    have h := h y3 ey3
    refine r_lstore (L2 := [(2, t), (0, x1), (1, x2), (3, 0), (0, x4), (0, x5), (1, x6), (3, 0), (1, y3), (3, 0), (3, 0)]) d_X12_value_126 (by decide) rfl rfl ?_
    refine r_lload (x := x6) d_X12_value_128 rfl ?_
    refine r_lconst d_X12_value_130 ?_
    skip
    refine r_lcmp d_X12_value_131 ?_
    refine r_if_le (tgt := 145) d_X12_value_132 rfl (fun hc => ?_) (fun hc => ?_)
    · have h := h.1 hc
      refine r_lload (x := y3) d_X12_value_145 rfl ?_
      refine r_lload_n (x := x2) d_X12_value_147 rfl ?_
      refine r_lcmp d_X12_value_148 ?_
      refine r_if_le (tgt := 156) d_X12_value_149 rfl (fun hc => ?_) (fun hc => ?_)
      · have h := h.1 hc
        refine r_lload (x := y3) d_X12_value_156 rfl ?_
        refine r_lstore_n (L2 := [(2, t), (0, x1), (1, y3), (3, 0), (0, x4), (0, x5), (1, x6), (3, 0), (1, y3), (3, 0), (3, 0)]) d_X12_value_158 (by decide) rfl rfl ?_
        refine x_iinc (x := x4) (L := [(2, t), (0, x1), (1, y3), (3, 0), (0, x4), (0, x5), (1, x6), (3, 0), (1, y3), (3, 0), (3, 0)]) d_X12_value_159 rfl (by decide) rfl (fun y4 ey4 => ?_)
        have h := h y4 ey4
        show WP _ _ _ _ _ _ _ _ [(2, t), (0, x1), (1, y3), (3, 0), (0, y4), (0, x5), (1, x6), (3, 0), (1, y3), (3, 0), (3, 0)] _ _ _ _
        refine r_goto (tgt := 21) d_X12_value_162 rfl ?_
        exact x_mask h ⟨Or.inr rfl, Or.inr rfl, Or.inr rfl, Or.inl rfl, Or.inr rfl, Or.inl rfl, Or.inl rfl, Or.inl rfl, Or.inl rfl, Or.inl rfl, Or.inl rfl, trivial⟩
      · have h := h.2 hc
        refine r_ldc2 (x := (-9223372036854775808)) d_X12_value_152 ck_X12_416 (by decide) ?_
        exact r_lret d_X12_value_155 rfl (Nat.le_refl 0) (Nat.le_refl 0) ⟨_, rfl, rfl, rfl, h⟩
    · have h := h.2 hc
      refine r_lload (x := y3) d_X12_value_135 rfl ?_
      refine r_lload_n (x := x2) d_X12_value_137 rfl ?_
      refine r_lcmp d_X12_value_138 ?_
      refine r_if_ge (tgt := 156) d_X12_value_139 rfl (fun hc => ?_) (fun hc => ?_)
      · have h := h.1 hc
        refine r_lload (x := y3) d_X12_value_156 rfl ?_
        refine r_lstore_n (L2 := [(2, t), (0, x1), (1, y3), (3, 0), (0, x4), (0, x5), (1, x6), (3, 0), (1, y3), (3, 0), (3, 0)]) d_X12_value_158 (by decide) rfl rfl ?_
        refine x_iinc (x := x4) (L := [(2, t), (0, x1), (1, y3), (3, 0), (0, x4), (0, x5), (1, x6), (3, 0), (1, y3), (3, 0), (3, 0)]) d_X12_value_159 rfl (by decide) rfl (fun y5 ey5 => ?_)
        have h := h y5 ey5
        show WP _ _ _ _ _ _ _ _ [(2, t), (0, x1), (1, y3), (3, 0), (0, y5), (0, x5), (1, x6), (3, 0), (1, y3), (3, 0), (3, 0)] _ _ _ _
        refine r_goto (tgt := 21) d_X12_value_162 rfl ?_
        exact x_mask h ⟨Or.inr rfl, Or.inr rfl, Or.inr rfl, Or.inl rfl, Or.inr rfl, Or.inl rfl, Or.inl rfl, Or.inl rfl, Or.inl rfl, Or.inl rfl, Or.inl rfl, trivial⟩
      · have h := h.2 hc
        refine r_goto (tgt := 152) d_X12_value_142 rfl ?_
        refine r_ldc2 (x := (-9223372036854775808)) d_X12_value_152 ck_X12_416 (by decide) ?_
        exact r_lret d_X12_value_155 rfl (Nat.le_refl 0) (Nat.le_refl 0) ⟨_, rfl, rfl, rfl, h⟩
  · have h := h.2 hc
    refine r_aload_n (x := t) d_X12_value_81 rfl o_t.1 ?_
    refine r_iload (x := x5) d_X12_value_82 rfl ?_
    refine r_iload (x := x8) d_X12_value_84 rfl ?_
    refine x_callSI (Y2 := mX12_rankIn) (As := [(0, x5), (0, x8)]) (S := [(2, t)]) d_X12_value_86 ok_mX12_rankIn ml_X12_135 rfl (Nat.le_of_ble_eq_true rfl) (Nat.le_of_ble_eq_true rfl) rfl hd_1 (CI.mono h (fun v7 σ6 h => ?_))
    refine x_callVI (Y2 := mX12_worthOfRank) (c := t) (As := [(0, v7)]) (S := []) d_X12_value_89 ok_mX12_worthOfRank ml_X12_418 rfl (Nat.le_of_ble_eq_true rfl) (Nat.le_of_ble_eq_true rfl) rfl hd_1 kX12 o_t (c_X12_worthOfRank (v_X12_worthOfRank_0 o_t f_t_letterOf he_1 ?_))
    refine ⟨h.1, ?_⟩
    have h := h.2
    refine ⟨h.1, ?_⟩
    have h := h.2
    refine ⟨h.1, ?_⟩
    have h := h.2
    refine CI.mono h (fun v8 σ9 h => ?_)
    show WP l mX12_value (rm d 0 0) noX _ 0 0 92 [(2, t), (0, x1), (1, x2), (3, 0), (0, x4), (0, x5), (1, x6), (3, 0), (0, x8), (3, 0), (3, 0)] [(0, v8)] N Λ σ9
    refine r_i2l d_X12_value_92 ?_
    refine r_lstore (L2 := [(2, t), (0, x1), (1, x2), (3, 0), (0, x4), (0, x5), (1, x6), (3, 0), (0, x8), (1, v8), (3, 0)]) d_X12_value_93 (by decide) rfl rfl ?_
    refine r_lload (x := x6) d_X12_value_95 rfl ?_
    refine r_lload (x := v8) d_X12_value_97 rfl ?_
    refine x_callSI (Y2 := mX12_fits) (As := [(1, x6), (1, v8)]) (S := []) d_X12_value_99 ok_mX12_fits ml_X12_421 rfl (Nat.le_of_ble_eq_true rfl) (Nat.le_of_ble_eq_true rfl) rfl hd_1 (CI.mono h (fun v11 σ10 h => ?_))
    refine r_if_ne (tgt := 109) d_X12_value_102 rfl (fun hc => ?_) (fun hc => ?_)
    · have h := h.1 hc
      refine r_lload (x := x6) d_X12_value_109 rfl ?_
      refine r_lload (x := v8) d_X12_value_111 rfl ?_
      refine r_lmul d_X12_value_113 ?_
      refine r_nm (fun y12 ey12 => ?_)
      have h := h y12 ey12
      refine r_lstore (L2 := [(2, t), (0, x1), (1, x2), (3, 0), (0, x4), (0, x5), (1, y12), (3, 0), (0, x8), (1, v8), (3, 0)]) d_X12_value_114 (by decide) rfl rfl ?_
      refine x_iinc (x := x8) (L := [(2, t), (0, x1), (1, x2), (3, 0), (0, x4), (0, x5), (1, y12), (3, 0), (0, x8), (1, v8), (3, 0)]) d_X12_value_116 rfl (by decide) rfl (fun y13 ey13 => ?_)
      have h := h y13 ey13
      show WP _ _ _ _ _ _ _ _ [(2, t), (0, x1), (1, x2), (3, 0), (0, x4), (0, x5), (1, y12), (3, 0), (0, y13), (1, v8), (3, 0)] _ _ _ _
      refine r_goto (tgt := 71) d_X12_value_119 rfl ?_
      exact x_mask h ⟨Or.inr rfl, Or.inr rfl, Or.inr rfl, Or.inl rfl, Or.inr rfl, Or.inr rfl, Or.inr rfl, Or.inl rfl, Or.inr rfl, Or.inl rfl, Or.inl rfl, trivial⟩
    · have h := h.2 hc
      refine r_ldc2 (x := (-9223372036854775808)) d_X12_value_105 ck_X12_416 (by decide) ?_
      exact r_lret d_X12_value_108 rfl (Nat.le_refl 0) (Nat.le_refl 0) ⟨_, rfl, rfl, rfl, h⟩
theorem v_X12_undo_0 {l : Launch} {d N : Nat} {Λ : Lay} {P : Int → Mem → Prop} {σ : Mem} {x1 t t_deeds t_state : Int} (o_t : Ob N Λ t 21 36) (f_t_deeds : (Λ t).2.2 4 = t_deeds) (f_t_state : (Λ t).2.2 3 = t_state) (h0d : 1 ≤ d)
    (h : (∀ τ1, τ1 = st σ t 0 0 → (((cmpL x1 1) < 0 → P (-3) τ1) ∧ (¬ ((cmpL x1 1) < 0) → ((0 < (cmpL x1 10) → P (-3) τ1) ∧ (¬ (0 < (cmpL x1 10)) → ((x1 ≤ (τ1 t 5) → (∀ τ2, τ2 = st τ1 t 5 (subI (τ1 t 5) x1) → (CV l mX12_copies (d - 1) [(2, t_deeds), (0, (mulI 1116 (τ2 t 5))), (2, t_state), (0, 0), (0, 1116)] N Λ τ2 (fun σ3 => P (σ3 t 5) σ3)))) ∧ (¬ (x1 ≤ (τ1 t 5)) → P (-3) τ1)))))))) :
    WI l mX12_undo d P 0 [(2, t), (0, x1)] [] N Λ σ := by
  have hd_1 : 1 ≤ d := Nat.le_trans (by decide) h0d
  refine r_aload_n (x := t) d_X12_undo_0 rfl o_t.1 ?_
  refine r_iconst (x := 0) d_X12_undo_1 ⟨by decide, by decide⟩ ?_
  refine r_putI (j := 0) d_X12_undo_2 kX12 (by decide) fl_X12_1 rfl o_t.1 o_t.2.1 o_t.2.2.1 o_t.2.2.2 rfl ?_
  refine r_nmM (fun τ1 eτ1 => ?_)
  have h := h τ1 eτ1
  refine r_iload_n (x := x1) d_X12_undo_5 rfl ?_
  refine r_i2l d_X12_undo_6 ?_
  refine r_lconst d_X12_undo_7 ?_
  skip
  refine r_ldc2 (x := 10) d_X12_undo_8 ck_X12_335 (by decide) ?_
  refine x_callSI (Y2 := mX12_within) (As := [(1, x1), (1, 1), (1, 10)]) (S := []) d_X12_undo_11 ok_mX12_within ml_X12_91 rfl (Nat.le_of_ble_eq_true rfl) (Nat.le_of_ble_eq_true rfl) rfl hd_1 (c_X12_within (v_X12_within_0 ?_))
  refine ⟨fun hc => ?_, fun hc => ?_⟩
  · have h := h.1 hc
    show WP l mX12_undo (rm d 0 0) noX _ 0 0 14 [(2, t), (0, x1)] [(0, 0)] N Λ τ1
    refine r_if_eq (tgt := 25) d_X12_undo_14 rfl (fun _ => ?_) (fun hc => absurd hc (by decide))
    refine r_bipush (x := (-3)) d_X12_undo_25 ⟨by decide, by decide⟩ (by decide) ?_
    exact r_iret d_X12_undo_27 rfl rfl (Nat.le_refl 0) (Nat.le_refl 0) ⟨_, rfl, rfl, rfl, h⟩
  · have h := h.2 hc
    refine ⟨fun hc => ?_, fun hc => ?_⟩
    · have h := h.1 hc
      show WP l mX12_undo (rm d 0 0) noX _ 0 0 14 [(2, t), (0, x1)] [(0, 0)] N Λ τ1
      refine r_if_eq (tgt := 25) d_X12_undo_14 rfl (fun _ => ?_) (fun hc => absurd hc (by decide))
      refine r_bipush (x := (-3)) d_X12_undo_25 ⟨by decide, by decide⟩ (by decide) ?_
      exact r_iret d_X12_undo_27 rfl rfl (Nat.le_refl 0) (Nat.le_refl 0) ⟨_, rfl, rfl, rfl, h⟩
    · have h := h.2 hc
      show WP l mX12_undo (rm d 0 0) noX _ 0 0 14 [(2, t), (0, x1)] [(0, 1)] N Λ τ1
      refine r_if_eq (tgt := 25) d_X12_undo_14 rfl (fun hc => absurd hc (by decide)) (fun _ => ?_)
      refine r_iload_n (x := x1) d_X12_undo_17 rfl ?_
      refine r_aload_n (x := t) d_X12_undo_18 rfl o_t.1 ?_
      refine r_getf (j := 5) (t := 0) (x := (τ1 t 5)) d_X12_undo_19 kX12 (by decide) fl_X12_95 o_t.1 o_t.2.1 o_t.2.2.1 o_t.2.2.2 rfl rfl ?_
      refine r_ic_le (tgt := 28) d_X12_undo_22 rfl (fun hc => ?_) (fun hc => ?_)
      · have h := h.1 hc
        refine r_aload_n (x := t) d_X12_undo_28 rfl o_t.1 ?_
        refine r_dup d_X12_undo_29 rfl ?_
        refine r_getf (j := 5) (t := 0) (x := (τ1 t 5)) d_X12_undo_30 kX12 (by decide) fl_X12_95 o_t.1 o_t.2.1 o_t.2.2.1 o_t.2.2.2 rfl rfl ?_
        refine r_iload_n (x := x1) d_X12_undo_33 rfl ?_
        refine r_isub d_X12_undo_34 ?_
        refine r_putI (j := 5) d_X12_undo_35 kX12 (by decide) fl_X12_95 rfl o_t.1 o_t.2.1 o_t.2.2.1 o_t.2.2.2 rfl ?_
        refine r_nmM (fun τ2 eτ2 => ?_)
        have h := h τ2 eτ2
        refine r_aload_n (x := t) d_X12_undo_38 rfl o_t.1 ?_
        refine r_getf (j := 4) (t := 2) (x := t_deeds) d_X12_undo_39 kX12 (by decide) fl_X12_23 o_t.1 o_t.2.1 o_t.2.2.1 o_t.2.2.2 rfl f_t_deeds ?_
        refine r_sipush (x := 1116) d_X12_undo_42 ⟨by decide, by decide⟩ (by decide) ?_
        refine r_aload_n (x := t) d_X12_undo_45 rfl o_t.1 ?_
        refine r_getf (j := 5) (t := 0) (x := (τ2 t 5)) d_X12_undo_46 kX12 (by decide) fl_X12_95 o_t.1 o_t.2.1 o_t.2.2.1 o_t.2.2.2 rfl rfl ?_
        refine r_imul d_X12_undo_49 ?_
        refine r_aload_n (x := t) d_X12_undo_50 rfl o_t.1 ?_
        refine r_getf (j := 3) (t := 2) (x := t_state) d_X12_undo_51 kX12 (by decide) fl_X12_20 o_t.1 o_t.2.1 o_t.2.2.1 o_t.2.2.2 rfl f_t_state ?_
        refine r_iconst (x := 0) d_X12_undo_54 ⟨by decide, by decide⟩ ?_
        refine r_sipush (x := 1116) d_X12_undo_55 ⟨by decide, by decide⟩ (by decide) ?_
        refine x_callSV (Y2 := mX12_copies) (As := [(2, t_deeds), (0, (mulI 1116 (τ2 t 5))), (2, t_state), (0, 0), (0, 1116)]) (S := []) d_X12_undo_58 ok_mX12_copies ml_X12_98 rfl (Nat.le_of_ble_eq_true rfl) (Nat.le_of_ble_eq_true rfl) rfl hd_1 (CV.mono h (fun σ3 h => ?_))
        refine r_aload_n (x := t) d_X12_undo_61 rfl o_t.1 ?_
        refine r_getf (j := 5) (t := 0) (x := (σ3 t 5)) d_X12_undo_62 kX12 (by decide) fl_X12_95 o_t.1 o_t.2.1 o_t.2.2.1 o_t.2.2.2 rfl rfl ?_
        exact r_iret d_X12_undo_65 rfl rfl (Nat.le_refl 0) (Nat.le_refl 0) ⟨_, rfl, rfl, rfl, h⟩
      · have h := h.2 hc
        refine r_bipush (x := (-3)) d_X12_undo_25 ⟨by decide, by decide⟩ (by decide) ?_
        exact r_iret d_X12_undo_27 rfl rfl (Nat.le_refl 0) (Nat.le_refl 0) ⟨_, rfl, rfl, rfl, h⟩
theorem v_X12_image_0 {l : Launch} {d N : Nat} {Λ : Lay} {P : Int → Mem → Prop} {σ : Mem} {x1 t t_hasImage t_state : Int} (o_t : Ob N Λ t 21 36) (f_t_state : (Λ t).2.2 3 = t_state) (f_t_hasImage : (Λ t).2.2 6 = t_hasImage) (h0d : 1 ≤ d)
    (h : (∀ τ1, τ1 = st σ t 0 0 → (((cmpL x1 0) < 0 → P (-2) τ1) ∧ (¬ ((cmpL x1 0) < 0) → ((0 < (cmpL x1 1) → P (-2) τ1) ∧ (¬ (0 < (cmpL x1 1)) → (CV l mX12_copies (d - 1) [(2, t_state), (0, 0), (2, t_state), (0, (mulI 1116 (addI x1 1))), (0, 1116)] N Λ τ1 (fun σ2 => (Ix N Λ t_hasImage 2 x1 ∧ (((1 : Int) = 0 ∨ (1 : Int) = 1) ∧ (∀ τ3, τ3 = st σ2 t_hasImage x1 1 → P 0 τ3))))))))))) :
    WI l mX12_image d P 0 [(2, t), (0, x1)] [] N Λ σ := by
  have hd_1 : 1 ≤ d := Nat.le_trans (by decide) h0d
  refine r_aload_n (x := t) d_X12_image_0 rfl o_t.1 ?_
  refine r_iconst (x := 0) d_X12_image_1 ⟨by decide, by decide⟩ ?_
  refine r_putI (j := 0) d_X12_image_2 kX12 (by decide) fl_X12_1 rfl o_t.1 o_t.2.1 o_t.2.2.1 o_t.2.2.2 rfl ?_
  refine r_nmM (fun τ1 eτ1 => ?_)
  have h := h τ1 eτ1
  refine r_iload_n (x := x1) d_X12_image_5 rfl ?_
  refine r_i2l d_X12_image_6 ?_
  refine r_lconst d_X12_image_7 ?_
  skip
  refine r_lconst d_X12_image_8 ?_
  skip
  refine x_callSI (Y2 := mX12_within) (As := [(1, x1), (1, 0), (1, 1)]) (S := []) d_X12_image_9 ok_mX12_within ml_X12_91 rfl (Nat.le_of_ble_eq_true rfl) (Nat.le_of_ble_eq_true rfl) rfl hd_1 (c_X12_within (v_X12_within_0 ?_))
  refine ⟨fun hc => ?_, fun hc => ?_⟩
  · have h := h.1 hc
    show WP l mX12_image (rm d 0 0) noX _ 0 0 12 [(2, t), (0, x1)] [(0, 0)] N Λ τ1
    refine r_if_ne (tgt := 18) d_X12_image_12 rfl (fun hc => absurd hc (by decide)) (fun _ => ?_)
    refine r_bipush (x := (-2)) d_X12_image_15 ⟨by decide, by decide⟩ (by decide) ?_
    exact r_iret d_X12_image_17 rfl rfl (Nat.le_refl 0) (Nat.le_refl 0) ⟨_, rfl, rfl, rfl, h⟩
  · have h := h.2 hc
    refine ⟨fun hc => ?_, fun hc => ?_⟩
    · have h := h.1 hc
      show WP l mX12_image (rm d 0 0) noX _ 0 0 12 [(2, t), (0, x1)] [(0, 0)] N Λ τ1
      refine r_if_ne (tgt := 18) d_X12_image_12 rfl (fun hc => absurd hc (by decide)) (fun _ => ?_)
      refine r_bipush (x := (-2)) d_X12_image_15 ⟨by decide, by decide⟩ (by decide) ?_
      exact r_iret d_X12_image_17 rfl rfl (Nat.le_refl 0) (Nat.le_refl 0) ⟨_, rfl, rfl, rfl, h⟩
    · have h := h.2 hc
      show WP l mX12_image (rm d 0 0) noX _ 0 0 12 [(2, t), (0, x1)] [(0, 1)] N Λ τ1
      refine r_if_ne (tgt := 18) d_X12_image_12 rfl (fun _ => ?_) (fun hc => absurd hc (by decide))
      refine r_aload_n (x := t) d_X12_image_18 rfl o_t.1 ?_
      refine r_getf (j := 3) (t := 2) (x := t_state) d_X12_image_19 kX12 (by decide) fl_X12_20 o_t.1 o_t.2.1 o_t.2.2.1 o_t.2.2.2 rfl f_t_state ?_
      refine r_iconst (x := 0) d_X12_image_22 ⟨by decide, by decide⟩ ?_
      refine r_aload_n (x := t) d_X12_image_23 rfl o_t.1 ?_
      refine r_getf (j := 3) (t := 2) (x := t_state) d_X12_image_24 kX12 (by decide) fl_X12_20 o_t.1 o_t.2.1 o_t.2.2.1 o_t.2.2.2 rfl f_t_state ?_
      refine r_sipush (x := 1116) d_X12_image_27 ⟨by decide, by decide⟩ (by decide) ?_
      refine r_iload_n (x := x1) d_X12_image_30 rfl ?_
      refine r_iconst (x := 1) d_X12_image_31 ⟨by decide, by decide⟩ ?_
      refine r_iadd d_X12_image_32 ?_
      refine r_imul d_X12_image_33 ?_
      refine r_sipush (x := 1116) d_X12_image_34 ⟨by decide, by decide⟩ (by decide) ?_
      refine x_callSV (Y2 := mX12_copies) (As := [(2, t_state), (0, 0), (2, t_state), (0, (mulI 1116 (addI x1 1))), (0, 1116)]) (S := []) d_X12_image_37 ok_mX12_copies ml_X12_98 rfl (Nat.le_of_ble_eq_true rfl) (Nat.le_of_ble_eq_true rfl) rfl hd_1 (CV.mono h (fun σ2 h => ?_))
      refine r_aload_n (x := t) d_X12_image_40 rfl o_t.1 ?_
      refine r_getf (j := 6) (t := 2) (x := t_hasImage) d_X12_image_41 kX12 (by decide) fl_X12_26 o_t.1 o_t.2.1 o_t.2.2.1 o_t.2.2.2 rfl f_t_hasImage ?_
      refine r_iload_n (x := x1) d_X12_image_44 rfl ?_
      refine r_iconst (x := 1) d_X12_image_45 ⟨by decide, by decide⟩ ?_
      refine x_zast d_X12_image_46 h.1 h.2.1 ?_
      have h := h.2.2
      refine r_nmM (fun τ3 eτ3 => ?_)
      have h := h τ3 eτ3
      refine r_iconst (x := 0) d_X12_image_47 ⟨by decide, by decide⟩ ?_
      exact r_iret d_X12_image_48 rfl rfl (Nat.le_refl 0) (Nat.le_refl 0) ⟨_, rfl, rfl, rfl, h⟩
theorem v_X12_restore_0 {l : Launch} {d N : Nat} {Λ : Lay} {P : Int → Mem → Prop} {σ : Mem} {x1 t t_hasImage t_state : Int} (o_t : Ob N Λ t 21 36) (f_t_hasImage : (Λ t).2.2 6 = t_hasImage) (f_t_state : (Λ t).2.2 3 = t_state) (h0d : 1 ≤ d)
    (h : (∀ τ1, τ1 = st σ t 0 0 → (((cmpL x1 0) < 0 → P (-2) τ1) ∧ (¬ ((cmpL x1 0) < 0) → ((0 < (cmpL x1 1) → P (-2) τ1) ∧ (¬ (0 < (cmpL x1 1)) → (Ix N Λ t_hasImage 2 x1 ∧ ((¬ (τ1 t_hasImage x1) = 0 → (CV l mX12_copies (d - 1) [(2, t_state), (0, (mulI 1116 (addI x1 1))), (2, t_state), (0, 0), (0, 1116)] N Λ τ1 (fun σ2 => (∀ τ3, τ3 = st σ2 t 5 0 → P 0 τ3)))) ∧ ((τ1 t_hasImage x1) = 0 → P (-6) τ1))))))))) :
    WI l mX12_restore d P 0 [(2, t), (0, x1)] [] N Λ σ := by
  have hd_1 : 1 ≤ d := Nat.le_trans (by decide) h0d
  refine r_aload_n (x := t) d_X12_restore_0 rfl o_t.1 ?_
  refine r_iconst (x := 0) d_X12_restore_1 ⟨by decide, by decide⟩ ?_
  refine r_putI (j := 0) d_X12_restore_2 kX12 (by decide) fl_X12_1 rfl o_t.1 o_t.2.1 o_t.2.2.1 o_t.2.2.2 rfl ?_
  refine r_nmM (fun τ1 eτ1 => ?_)
  have h := h τ1 eτ1
  refine r_iload_n (x := x1) d_X12_restore_5 rfl ?_
  refine r_i2l d_X12_restore_6 ?_
  refine r_lconst d_X12_restore_7 ?_
  skip
  refine r_lconst d_X12_restore_8 ?_
  skip
  refine x_callSI (Y2 := mX12_within) (As := [(1, x1), (1, 0), (1, 1)]) (S := []) d_X12_restore_9 ok_mX12_within ml_X12_91 rfl (Nat.le_of_ble_eq_true rfl) (Nat.le_of_ble_eq_true rfl) rfl hd_1 (c_X12_within (v_X12_within_0 ?_))
  refine ⟨fun hc => ?_, fun hc => ?_⟩
  · have h := h.1 hc
    show WP l mX12_restore (rm d 0 0) noX _ 0 0 12 [(2, t), (0, x1)] [(0, 0)] N Λ τ1
    refine r_if_ne (tgt := 18) d_X12_restore_12 rfl (fun hc => absurd hc (by decide)) (fun _ => ?_)
    refine r_bipush (x := (-2)) d_X12_restore_15 ⟨by decide, by decide⟩ (by decide) ?_
    exact r_iret d_X12_restore_17 rfl rfl (Nat.le_refl 0) (Nat.le_refl 0) ⟨_, rfl, rfl, rfl, h⟩
  · have h := h.2 hc
    refine ⟨fun hc => ?_, fun hc => ?_⟩
    · have h := h.1 hc
      show WP l mX12_restore (rm d 0 0) noX _ 0 0 12 [(2, t), (0, x1)] [(0, 0)] N Λ τ1
      refine r_if_ne (tgt := 18) d_X12_restore_12 rfl (fun hc => absurd hc (by decide)) (fun _ => ?_)
      refine r_bipush (x := (-2)) d_X12_restore_15 ⟨by decide, by decide⟩ (by decide) ?_
      exact r_iret d_X12_restore_17 rfl rfl (Nat.le_refl 0) (Nat.le_refl 0) ⟨_, rfl, rfl, rfl, h⟩
    · have h := h.2 hc
      show WP l mX12_restore (rm d 0 0) noX _ 0 0 12 [(2, t), (0, x1)] [(0, 1)] N Λ τ1
      refine r_if_ne (tgt := 18) d_X12_restore_12 rfl (fun _ => ?_) (fun hc => absurd hc (by decide))
      refine r_aload_n (x := t) d_X12_restore_18 rfl o_t.1 ?_
      refine r_getf (j := 6) (t := 2) (x := t_hasImage) d_X12_restore_19 kX12 (by decide) fl_X12_26 o_t.1 o_t.2.1 o_t.2.2.1 o_t.2.2.2 rfl f_t_hasImage ?_
      refine r_iload_n (x := x1) d_X12_restore_22 rfl ?_
      refine x_zald d_X12_restore_23 h.1 ?_
      have h := h.2
      refine r_if_ne (tgt := 30) d_X12_restore_24 rfl (fun hc => ?_) (fun hc => ?_)
      · have h := h.1 hc
        refine r_aload_n (x := t) d_X12_restore_30 rfl o_t.1 ?_
        refine r_getf (j := 3) (t := 2) (x := t_state) d_X12_restore_31 kX12 (by decide) fl_X12_20 o_t.1 o_t.2.1 o_t.2.2.1 o_t.2.2.2 rfl f_t_state ?_
        refine r_sipush (x := 1116) d_X12_restore_34 ⟨by decide, by decide⟩ (by decide) ?_
        refine r_iload_n (x := x1) d_X12_restore_37 rfl ?_
        refine r_iconst (x := 1) d_X12_restore_38 ⟨by decide, by decide⟩ ?_
        refine r_iadd d_X12_restore_39 ?_
        refine r_imul d_X12_restore_40 ?_
        refine r_aload_n (x := t) d_X12_restore_41 rfl o_t.1 ?_
        refine r_getf (j := 3) (t := 2) (x := t_state) d_X12_restore_42 kX12 (by decide) fl_X12_20 o_t.1 o_t.2.1 o_t.2.2.1 o_t.2.2.2 rfl f_t_state ?_
        refine r_iconst (x := 0) d_X12_restore_45 ⟨by decide, by decide⟩ ?_
        refine r_sipush (x := 1116) d_X12_restore_46 ⟨by decide, by decide⟩ (by decide) ?_
        refine x_callSV (Y2 := mX12_copies) (As := [(2, t_state), (0, (mulI 1116 (addI x1 1))), (2, t_state), (0, 0), (0, 1116)]) (S := []) d_X12_restore_49 ok_mX12_copies ml_X12_98 rfl (Nat.le_of_ble_eq_true rfl) (Nat.le_of_ble_eq_true rfl) rfl hd_1 (CV.mono h (fun σ2 h => ?_))
        refine r_aload_n (x := t) d_X12_restore_52 rfl o_t.1 ?_
        refine r_iconst (x := 0) d_X12_restore_53 ⟨by decide, by decide⟩ ?_
        refine r_putI (j := 5) d_X12_restore_54 kX12 (by decide) fl_X12_95 rfl o_t.1 o_t.2.1 o_t.2.2.1 o_t.2.2.2 rfl ?_
        refine r_nmM (fun τ3 eτ3 => ?_)
        have h := h τ3 eτ3
        refine r_iconst (x := 0) d_X12_restore_57 ⟨by decide, by decide⟩ ?_
        exact r_iret d_X12_restore_58 rfl rfl (Nat.le_refl 0) (Nat.le_refl 0) ⟨_, rfl, rfl, rfl, h⟩
      · have h := h.2 hc
        refine r_bipush (x := (-6)) d_X12_restore_27 ⟨by decide, by decide⟩ (by decide) ?_
        exact r_iret d_X12_restore_29 rfl rfl (Nat.le_refl 0) (Nat.le_refl 0) ⟨_, rfl, rfl, rfl, h⟩
theorem v_X12_facts_0 {l : Launch} {d N : Nat} {Λ : Lay} {P : Int → Mem → Prop} {σ : Mem} {x1 t : Int}
    (h : WI l mX12_facts d P 4 [(2, t), (0, x1), (0, 0), (0, 1)] [] N Λ σ) :
    WI l mX12_facts d P 0 [(2, t), (0, x1), (3, 0), (3, 0)] [] N Λ σ := by
  refine r_iconst (x := 0) d_X12_facts_0 ⟨by decide, by decide⟩ ?_
  refine r_istore_n (L2 := [(2, t), (0, x1), (0, 0), (3, 0)]) d_X12_facts_1 (by decide) rfl rfl ?_
  refine r_iconst (x := 1) d_X12_facts_2 ⟨by decide, by decide⟩ ?_
  refine r_istore_n (L2 := [(2, t), (0, x1), (0, 0), (0, 1)]) d_X12_facts_3 (by decide) rfl rfl ?_
  exact h
theorem v_X12_facts_4 {l : Launch} {d N : Nat} {Λ : Lay} {P : Int → Mem → Prop} {σ : Mem} {x1 x2 x3 t t_state : Int} (o_t : Ob N Λ t 21 36) (f_t_state : (Λ t).2.2 3 = t_state) (h0d : 1 ≤ d)
    (h : ((120 < x3 → P x2 σ) ∧ (¬ (120 < x3) → (Ix N Λ t_state 0 (subI (addI 996 x3) 1) ∧ ((¬ (σ t_state (subI (addI 996 x3) 1)) = x1 → (∀ y1, y1 = (addI x2 0) → (∀ y2, y2 = addI x3 1 → WI l mX12_facts d P 4 [(2, t), (0, x1), (0, y1), (0, y2)] [] N Λ σ))) ∧ ((σ t_state (subI (addI 996 x3) 1)) = x1 → (∀ y3, y3 = (addI x2 1) → (∀ y4, y4 = addI x3 1 → WI l mX12_facts d P 4 [(2, t), (0, x1), (0, y3), (0, y4)] [] N Λ σ)))))))) :
    WI l mX12_facts d P 4 [(2, t), (0, x1), (0, x2), (0, x3)] [] N Λ σ := by
  have hd_1 : 1 ≤ d := Nat.le_trans (by decide) h0d
  refine r_iload_n (x := x3) d_X12_facts_4 rfl ?_
  refine r_bipush (x := 120) d_X12_facts_5 ⟨by decide, by decide⟩ (by decide) ?_
  refine r_ic_gt (tgt := 33) d_X12_facts_7 rfl (fun hc => ?_) (fun hc => ?_)
  · have h := h.1 hc
    refine r_iload_n (x := x2) d_X12_facts_33 rfl ?_
    exact r_iret d_X12_facts_34 rfl rfl (Nat.le_refl 0) (Nat.le_refl 0) ⟨_, rfl, rfl, rfl, h⟩
  · have h := h.2 hc
    refine r_iload_n (x := x2) d_X12_facts_10 rfl ?_
    refine r_aload_n (x := t) d_X12_facts_11 rfl o_t.1 ?_
    refine r_iload_n (x := x3) d_X12_facts_12 rfl ?_
    refine x_callVI (Y2 := mX12_factOf) (c := t) (As := [(0, x3)]) (S := [(0, x2)]) d_X12_facts_13 ok_mX12_factOf ml_X12_244 rfl (Nat.le_of_ble_eq_true rfl) (Nat.le_of_ble_eq_true rfl) rfl hd_1 kX12 o_t (c_X12_factOf (v_X12_factOf_0 o_t f_t_state ?_))
    refine ⟨h.1, ?_⟩
    have h := h.2
    show WP l mX12_facts (rm d 0 0) noX _ 0 0 16 [(2, t), (0, x1), (0, x2), (0, x3)] [(0, (σ t_state (subI (addI 996 x3) 1))), (0, x2)] N Λ σ
    refine r_iload_n (x := x1) d_X12_facts_16 rfl ?_
    refine r_ic_ne (tgt := 24) d_X12_facts_17 rfl (fun hc => ?_) (fun hc => ?_)
    · have h := h.1 hc
      refine r_iconst (x := 0) d_X12_facts_24 ⟨by decide, by decide⟩ ?_
      refine r_iadd d_X12_facts_25 ?_
      refine r_nm (fun y1 ey1 => ?_)
      have h := h y1 ey1
      refine r_istore_n (L2 := [(2, t), (0, x1), (0, y1), (0, x3)]) d_X12_facts_26 (by decide) rfl rfl ?_
      refine x_iinc (x := x3) (L := [(2, t), (0, x1), (0, y1), (0, x3)]) d_X12_facts_27 rfl (by decide) rfl (fun y2 ey2 => ?_)
      have h := h y2 ey2
      show WP _ _ _ _ _ _ _ _ [(2, t), (0, x1), (0, y1), (0, y2)] _ _ _ _
      refine r_goto (tgt := 4) d_X12_facts_30 rfl ?_
      exact h
    · have h := h.2 hc
      refine r_iconst (x := 1) d_X12_facts_20 ⟨by decide, by decide⟩ ?_
      refine r_goto (tgt := 25) d_X12_facts_21 rfl ?_
      refine r_iadd d_X12_facts_25 ?_
      refine r_nm (fun y3 ey3 => ?_)
      have h := h y3 ey3
      refine r_istore_n (L2 := [(2, t), (0, x1), (0, y3), (0, x3)]) d_X12_facts_26 (by decide) rfl rfl ?_
      refine x_iinc (x := x3) (L := [(2, t), (0, x1), (0, y3), (0, x3)]) d_X12_facts_27 rfl (by decide) rfl (fun y4 ey4 => ?_)
      have h := h y4 ey4
      show WP _ _ _ _ _ _ _ _ [(2, t), (0, x1), (0, y3), (0, y4)] _ _ _ _
      refine r_goto (tgt := 4) d_X12_facts_30 rfl ?_
      exact h
theorem v_X12_count_0 {l : Launch} {d N : Nat} {Λ : Lay} {P : Int → Mem → Prop} {σ : Mem} {x1 t : Int} (o_t : Ob N Λ t 21 36) (h0d : 1 ≤ d)
    (h : (∀ τ1, τ1 = st σ t 0 0 → ((x1 < 0 ∨ 5 < x1 → P (-1) τ1) ∧ (x1 = 0 → WI l mX12_count d P 50 [(2, t), (0, x1), (0, 0), (0, 0)] [] N Λ τ1) ∧ (x1 = 1 → (CI l mX12_facts (d - 1) [(2, t), (0, 0)] N Λ τ1 (fun v3 σ2 => P v3 σ2))) ∧ (x1 = 2 → (CI l mX12_facts (d - 1) [(2, t), (0, 1)] N Λ τ1 (fun v5 σ4 => P v5 σ4))) ∧ (x1 = 3 → P (τ1 t 19) τ1) ∧ (x1 = 4 → P (τ1 t 5) τ1) ∧ (x1 = 5 → WI l mX12_count d P 101 [(2, t), (0, x1), (0, 0), (0, 1)] [] N Λ τ1)))) :
    WI l mX12_count d P 0 [(2, t), (0, x1), (3, 0), (3, 0)] [] N Λ σ := by
  have hd_1 : 1 ≤ d := Nat.le_trans (by decide) h0d
  refine r_aload_n (x := t) d_X12_count_0 rfl o_t.1 ?_
  refine r_iconst (x := 0) d_X12_count_1 ⟨by decide, by decide⟩ ?_
  refine r_putI (j := 0) d_X12_count_2 kX12 (by decide) fl_X12_1 rfl o_t.1 o_t.2.1 o_t.2.2.1 o_t.2.2.2 rfl ?_
  refine r_nmM (fun τ1 eτ1 => ?_)
  have h := h τ1 eτ1
  refine r_iconst (x := 0) d_X12_count_5 ⟨by decide, by decide⟩ ?_
  refine r_istore_n (L2 := [(2, t), (0, x1), (0, 0), (3, 0)]) d_X12_count_6 (by decide) rfl rfl ?_
  refine r_iload_n (x := x1) d_X12_count_7 rfl ?_
  by_cases hr : x1 < 0 ∨ 5 < x1
  · have h := h.1 hr
    refine r_tout (tgt := 131) d_X12_count_8 hr rfl ?_
    refine r_iconst (x := (-1)) d_X12_count_131 ⟨by decide, by decide⟩ ?_
    exact r_iret d_X12_count_132 rfl rfl (Nat.le_refl 0) (Nat.le_refl 0) ⟨_, rfl, rfl, rfl, h⟩
  · have h := h.2
    by_cases hk0 : x1 = 0
    · have h := h.1 hk0
      refine r_tin (off := 40) (tgt := 48) d_X12_count_8 (by rw [hk0]; decide) (by rw [hk0]; decide) (by rw [hk0]; rfl) rfl ?_
      refine r_iconst (x := 0) d_X12_count_48 ⟨by decide, by decide⟩ ?_
      refine r_istore_n (L2 := [(2, t), (0, x1), (0, 0), (0, 0)]) d_X12_count_49 (by decide) rfl rfl ?_
      exact h
    have h := h.2
    by_cases hk1 : x1 = 1
    · have h := h.1 hk1
      refine r_tin (off := 69) (tgt := 77) d_X12_count_8 (by rw [hk1]; decide) (by rw [hk1]; decide) (by rw [hk1]; rfl) rfl ?_
      refine r_aload_n (x := t) d_X12_count_77 rfl o_t.1 ?_
      refine r_iconst (x := 0) d_X12_count_78 ⟨by decide, by decide⟩ ?_
      refine x_callVI (Y2 := mX12_facts) (c := t) (As := [(0, 0)]) (S := []) d_X12_count_79 ok_mX12_facts ml_X12_425 rfl (Nat.le_of_ble_eq_true rfl) (Nat.le_of_ble_eq_true rfl) rfl hd_1 kX12 o_t (CI.mono h (fun v3 σ2 h => ?_))
      exact r_iret d_X12_count_82 rfl rfl (Nat.le_refl 0) (Nat.le_refl 0) ⟨_, rfl, rfl, rfl, h⟩
    have h := h.2
    by_cases hk2 : x1 = 2
    · have h := h.1 hk2
      refine r_tin (off := 75) (tgt := 83) d_X12_count_8 (by rw [hk2]; decide) (by rw [hk2]; decide) (by rw [hk2]; rfl) rfl ?_
      refine r_aload_n (x := t) d_X12_count_83 rfl o_t.1 ?_
      refine r_iconst (x := 1) d_X12_count_84 ⟨by decide, by decide⟩ ?_
      refine x_callVI (Y2 := mX12_facts) (c := t) (As := [(0, 1)]) (S := []) d_X12_count_85 ok_mX12_facts ml_X12_425 rfl (Nat.le_of_ble_eq_true rfl) (Nat.le_of_ble_eq_true rfl) rfl hd_1 kX12 o_t (CI.mono h (fun v5 σ4 h => ?_))
      exact r_iret d_X12_count_88 rfl rfl (Nat.le_refl 0) (Nat.le_refl 0) ⟨_, rfl, rfl, rfl, h⟩
    have h := h.2
    by_cases hk3 : x1 = 3
    · have h := h.1 hk3
      refine r_tin (off := 81) (tgt := 89) d_X12_count_8 (by rw [hk3]; decide) (by rw [hk3]; decide) (by rw [hk3]; rfl) rfl ?_
      refine r_aload_n (x := t) d_X12_count_89 rfl o_t.1 ?_
      refine r_getf (j := 19) (t := 0) (x := (τ1 t 19)) d_X12_count_90 kX12 (by decide) fl_X12_252 o_t.1 o_t.2.1 o_t.2.2.1 o_t.2.2.2 rfl rfl ?_
      exact r_iret d_X12_count_93 rfl rfl (Nat.le_refl 0) (Nat.le_refl 0) ⟨_, rfl, rfl, rfl, h⟩
    have h := h.2
    by_cases hk4 : x1 = 4
    · have h := h.1 hk4
      refine r_tin (off := 86) (tgt := 94) d_X12_count_8 (by rw [hk4]; decide) (by rw [hk4]; decide) (by rw [hk4]; rfl) rfl ?_
      refine r_aload_n (x := t) d_X12_count_94 rfl o_t.1 ?_
      refine r_getf (j := 5) (t := 0) (x := (τ1 t 5)) d_X12_count_95 kX12 (by decide) fl_X12_95 o_t.1 o_t.2.1 o_t.2.2.1 o_t.2.2.2 rfl rfl ?_
      exact r_iret d_X12_count_98 rfl rfl (Nat.le_refl 0) (Nat.le_refl 0) ⟨_, rfl, rfl, rfl, h⟩
    have h := h.2
    by_cases hk5 : x1 = 5
    · have h := h hk5
      refine r_tin (off := 91) (tgt := 99) d_X12_count_8 (by rw [hk5]; decide) (by rw [hk5]; decide) (by rw [hk5]; rfl) rfl ?_
      refine r_iconst (x := 1) d_X12_count_99 ⟨by decide, by decide⟩ ?_
      refine r_istore_n (L2 := [(2, t), (0, x1), (0, 0), (0, 1)]) d_X12_count_100 (by decide) rfl rfl ?_
      exact h
    exact (tsw_5 hr hk0 hk1 hk2 hk3 hk4 hk5).elim
theorem v_X12_count_50 {l : Launch} {d N : Nat} {Λ : Lay} {P : Int → Mem → Prop} {σ : Mem} {x1 x2 x3 t t_state : Int} (o_t : Ob N Λ t 21 36) (f_t_state : (Λ t).2.2 3 = t_state)
    (h : ((6 ≤ x3 → P x2 σ) ∧ (¬ (6 ≤ x3) → (Ix N Λ t_state 0 (mulI 161 x3) ∧ (∀ y1, y1 = (addI x2 (σ t_state (mulI 161 x3))) → (∀ y2, y2 = addI x3 1 → WI l mX12_count d P 50 [(2, t), (0, x1), (0, y1), (0, y2)] [] N Λ σ)))))) :
    WI l mX12_count d P 50 [(2, t), (0, x1), (0, x2), (0, x3)] [] N Λ σ := by
  refine r_iload_n (x := x3) d_X12_count_50 rfl ?_
  refine r_bipush (x := 6) d_X12_count_51 ⟨by decide, by decide⟩ (by decide) ?_
  refine r_ic_ge (tgt := 75) d_X12_count_53 rfl (fun hc => ?_) (fun hc => ?_)
  · have h := h.1 hc
    refine r_iload_n (x := x2) d_X12_count_75 rfl ?_
    exact r_iret d_X12_count_76 rfl rfl (Nat.le_refl 0) (Nat.le_refl 0) ⟨_, rfl, rfl, rfl, h⟩
  · have h := h.2 hc
    refine r_iload_n (x := x2) d_X12_count_56 rfl ?_
    refine r_aload_n (x := t) d_X12_count_57 rfl o_t.1 ?_
    refine r_getf (j := 3) (t := 2) (x := t_state) d_X12_count_58 kX12 (by decide) fl_X12_20 o_t.1 o_t.2.1 o_t.2.2.1 o_t.2.2.2 rfl f_t_state ?_
    refine r_sipush (x := 161) d_X12_count_61 ⟨by decide, by decide⟩ (by decide) ?_
    refine r_iload_n (x := x3) d_X12_count_64 rfl ?_
    refine r_imul d_X12_count_65 ?_
    refine x_iald d_X12_count_66 h.1 ?_
    have h := h.2
    refine r_iadd d_X12_count_67 ?_
    refine r_nm (fun y1 ey1 => ?_)
    have h := h y1 ey1
    refine r_istore_n (L2 := [(2, t), (0, x1), (0, y1), (0, x3)]) d_X12_count_68 (by decide) rfl rfl ?_
    refine x_iinc (x := x3) (L := [(2, t), (0, x1), (0, y1), (0, x3)]) d_X12_count_69 rfl (by decide) rfl (fun y2 ey2 => ?_)
    have h := h y2 ey2
    show WP _ _ _ _ _ _ _ _ [(2, t), (0, x1), (0, y1), (0, y2)] _ _ _ _
    refine r_goto (tgt := 50) d_X12_count_72 rfl ?_
    exact h
theorem v_X12_count_101 {l : Launch} {d N : Nat} {Λ : Lay} {P : Int → Mem → Prop} {σ : Mem} {x1 x2 x3 t t_letterOf : Int} (o_t : Ob N Λ t 21 36) (f_t_letterOf : (Λ t).2.2 2 = t_letterOf) (h0d : 2 ≤ d)
    (h : ((120 < x3 → P x2 σ) ∧ (¬ (120 < x3) → (Ix N Λ t_letterOf 0 (mulI 3 x3) ∧ (Ix N Λ t_letterOf 0 (addI (mulI 3 x3) 1) ∧ (Ix N Λ t_letterOf 0 (addI (mulI 3 x3) 2) ∧ (CI l mX12_worthOf (d - 1 - 1) [(2, t), (0, (σ t_letterOf (mulI 3 x3))), (0, (σ t_letterOf (addI (mulI 3 x3) 1))), (0, (σ t_letterOf (addI (mulI 3 x3) 2)))] N Λ σ (fun v1 σ2 => ((¬ v1 = 0 → (∀ y3, y3 = (addI x2 0) → (∀ y4, y4 = addI x3 1 → WI l mX12_count d P 101 [(2, t), (0, x1), (0, y3), (0, y4)] [] N Λ σ2))) ∧ (v1 = 0 → (∀ y5, y5 = (addI x2 1) → (∀ y6, y6 = addI x3 1 → WI l mX12_count d P 101 [(2, t), (0, x1), (0, y5), (0, y6)] [] N Λ σ2)))))))))))) :
    WI l mX12_count d P 101 [(2, t), (0, x1), (0, x2), (0, x3)] [] N Λ σ := by
  have hd_1 : 1 ≤ d := Nat.le_trans (by decide) h0d
  have he_1 : 1 ≤ d - 1 := Nat.le_sub_of_add_le (Nat.le_trans (by decide) h0d)
  refine r_iload_n (x := x3) d_X12_count_101 rfl ?_
  refine r_bipush (x := 120) d_X12_count_102 ⟨by decide, by decide⟩ (by decide) ?_
  refine r_ic_gt (tgt := 129) d_X12_count_104 rfl (fun hc => ?_) (fun hc => ?_)
  · have h := h.1 hc
    refine r_iload_n (x := x2) d_X12_count_129 rfl ?_
    exact r_iret d_X12_count_130 rfl rfl (Nat.le_refl 0) (Nat.le_refl 0) ⟨_, rfl, rfl, rfl, h⟩
  · have h := h.2 hc
    refine r_iload_n (x := x2) d_X12_count_107 rfl ?_
    refine r_aload_n (x := t) d_X12_count_108 rfl o_t.1 ?_
    refine r_iload_n (x := x3) d_X12_count_109 rfl ?_
    refine x_callVI (Y2 := mX12_worthOfRank) (c := t) (As := [(0, x3)]) (S := [(0, x2)]) d_X12_count_110 ok_mX12_worthOfRank ml_X12_418 rfl (Nat.le_of_ble_eq_true rfl) (Nat.le_of_ble_eq_true rfl) rfl hd_1 kX12 o_t (c_X12_worthOfRank (v_X12_worthOfRank_0 o_t f_t_letterOf he_1 ?_))
    refine ⟨h.1, ?_⟩
    have h := h.2
    refine ⟨h.1, ?_⟩
    have h := h.2
    refine ⟨h.1, ?_⟩
    have h := h.2
    refine CI.mono h (fun v1 σ2 h => ?_)
    show WP l mX12_count (rm d 0 0) noX _ 0 0 113 [(2, t), (0, x1), (0, x2), (0, x3)] [(0, v1), (0, x2)] N Λ σ2
    refine r_if_ne (tgt := 120) d_X12_count_113 rfl (fun hc => ?_) (fun hc => ?_)
    · have h := h.1 hc
      refine r_iconst (x := 0) d_X12_count_120 ⟨by decide, by decide⟩ ?_
      refine r_iadd d_X12_count_121 ?_
      refine r_nm (fun y3 ey3 => ?_)
      have h := h y3 ey3
      refine r_istore_n (L2 := [(2, t), (0, x1), (0, y3), (0, x3)]) d_X12_count_122 (by decide) rfl rfl ?_
      refine x_iinc (x := x3) (L := [(2, t), (0, x1), (0, y3), (0, x3)]) d_X12_count_123 rfl (by decide) rfl (fun y4 ey4 => ?_)
      have h := h y4 ey4
      show WP _ _ _ _ _ _ _ _ [(2, t), (0, x1), (0, y3), (0, y4)] _ _ _ _
      refine r_goto (tgt := 101) d_X12_count_126 rfl ?_
      exact h
    · have h := h.2 hc
      refine r_iconst (x := 1) d_X12_count_116 ⟨by decide, by decide⟩ ?_
      refine r_goto (tgt := 121) d_X12_count_117 rfl ?_
      refine r_iadd d_X12_count_121 ?_
      refine r_nm (fun y5 ey5 => ?_)
      have h := h y5 ey5
      refine r_istore_n (L2 := [(2, t), (0, x1), (0, y5), (0, x3)]) d_X12_count_122 (by decide) rfl rfl ?_
      refine x_iinc (x := x3) (L := [(2, t), (0, x1), (0, y5), (0, x3)]) d_X12_count_123 rfl (by decide) rfl (fun y6 ey6 => ?_)
      have h := h y6 ey6
      show WP _ _ _ _ _ _ _ _ [(2, t), (0, x1), (0, y5), (0, y6)] _ _ _ _
      refine r_goto (tgt := 101) d_X12_count_126 rfl ?_
      exact h
