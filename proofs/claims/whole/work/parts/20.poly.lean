theorem d_X5_empty_0 : DC mX5_empty 0 (.aload_n 0) 1 1 := ⟨by decide +kernel, rfl⟩
theorem d_X5_empty_1 : DC mX5_empty 1 (.iconst 0) 1 2 := ⟨by decide +kernel, rfl⟩
theorem d_X5_empty_2 : DC mX5_empty 2 (.putfield 19) 3 5 := ⟨by decide +kernel, rfl⟩
theorem d_X5_empty_5 : DC mX5_empty 5 (.return_) 1 6 := ⟨by decide +kernel, rfl⟩
theorem d_X5_take_0 : DC mX5_take 0 (.aload_n 1) 1 1 := ⟨by decide +kernel, rfl⟩
theorem d_X5_take_1 : DC mX5_take 1 (.getfield 9) 3 4 := ⟨by decide +kernel, rfl⟩
theorem d_X5_take_4 : DC mX5_take 4 (.iconst 0) 1 5 := ⟨by decide +kernel, rfl⟩
theorem d_X5_take_5 : DC mX5_take 5 (.aload_n 0) 1 6 := ⟨by decide +kernel, rfl⟩
theorem d_X5_take_6 : DC mX5_take 6 (.getfield 9) 3 9 := ⟨by decide +kernel, rfl⟩
theorem d_X5_take_9 : DC mX5_take 9 (.iconst 0) 1 10 := ⟨by decide +kernel, rfl⟩
theorem d_X5_take_10 : DC mX5_take 10 (.aload_n 1) 1 11 := ⟨by decide +kernel, rfl⟩
theorem d_X5_take_11 : DC mX5_take 11 (.getfield 19) 3 14 := ⟨by decide +kernel, rfl⟩
theorem d_X5_take_14 : DC mX5_take 14 (.invokestatic 23) 3 17 := ⟨by decide +kernel, rfl⟩
theorem d_X5_take_17 : DC mX5_take 17 (.aload_n 1) 1 18 := ⟨by decide +kernel, rfl⟩
theorem d_X5_take_18 : DC mX5_take 18 (.getfield 15) 3 21 := ⟨by decide +kernel, rfl⟩
theorem d_X5_take_21 : DC mX5_take 21 (.iconst 0) 1 22 := ⟨by decide +kernel, rfl⟩
theorem d_X5_take_22 : DC mX5_take 22 (.aload_n 0) 1 23 := ⟨by decide +kernel, rfl⟩
theorem d_X5_take_23 : DC mX5_take 23 (.getfield 15) 3 26 := ⟨by decide +kernel, rfl⟩
theorem d_X5_take_26 : DC mX5_take 26 (.iconst 0) 1 27 := ⟨by decide +kernel, rfl⟩
theorem d_X5_take_27 : DC mX5_take 27 (.aload_n 1) 1 28 := ⟨by decide +kernel, rfl⟩
theorem d_X5_take_28 : DC mX5_take 28 (.getfield 19) 3 31 := ⟨by decide +kernel, rfl⟩
theorem d_X5_take_31 : DC mX5_take 31 (.invokestatic 23) 3 34 := ⟨by decide +kernel, rfl⟩
theorem d_X5_take_34 : DC mX5_take 34 (.aload_n 0) 1 35 := ⟨by decide +kernel, rfl⟩
theorem d_X5_take_35 : DC mX5_take 35 (.aload_n 1) 1 36 := ⟨by decide +kernel, rfl⟩
theorem d_X5_take_36 : DC mX5_take 36 (.getfield 19) 3 39 := ⟨by decide +kernel, rfl⟩
theorem d_X5_take_39 : DC mX5_take 39 (.putfield 19) 3 42 := ⟨by decide +kernel, rfl⟩
theorem d_X5_take_42 : DC mX5_take 42 (.return_) 1 43 := ⟨by decide +kernel, rfl⟩
theorem d_X5_isLike_0 : DC mX5_isLike 0 (.aload_n 0) 1 1 := ⟨by decide +kernel, rfl⟩
theorem d_X5_isLike_1 : DC mX5_isLike 1 (.getfield 19) 3 4 := ⟨by decide +kernel, rfl⟩
theorem d_X5_isLike_4 : DC mX5_isLike 4 (.aload_n 1) 1 5 := ⟨by decide +kernel, rfl⟩
theorem d_X5_isLike_5 : DC mX5_isLike 5 (.getfield 19) 3 8 := ⟨by decide +kernel, rfl⟩
theorem d_X5_isLike_8 : DC mX5_isLike 8 (.if_icmp .eq 5) 3 11 := ⟨by decide +kernel, rfl⟩
theorem d_X5_isLike_11 : DC mX5_isLike 11 (.iconst 0) 1 12 := ⟨by decide +kernel, rfl⟩
theorem d_X5_isLike_12 : DC mX5_isLike 12 (.ireturn) 1 13 := ⟨by decide +kernel, rfl⟩
theorem d_X5_isLike_13 : DC mX5_isLike 13 (.iconst 0) 1 14 := ⟨by decide +kernel, rfl⟩
theorem d_X5_isLike_14 : DC mX5_isLike 14 (.istore_n 2) 1 15 := ⟨by decide +kernel, rfl⟩
theorem d_X5_isLike_15 : DC mX5_isLike 15 (.iload_n 2) 1 16 := ⟨by decide +kernel, rfl⟩
theorem d_X5_isLike_16 : DC mX5_isLike 16 (.aload_n 0) 1 17 := ⟨by decide +kernel, rfl⟩
theorem d_X5_isLike_17 : DC mX5_isLike 17 (.getfield 19) 3 20 := ⟨by decide +kernel, rfl⟩
theorem d_X5_isLike_20 : DC mX5_isLike 20 (.if_icmp .ge 42) 3 23 := ⟨by decide +kernel, rfl⟩
theorem d_X5_isLike_23 : DC mX5_isLike 23 (.aload_n 0) 1 24 := ⟨by decide +kernel, rfl⟩
theorem d_X5_isLike_24 : DC mX5_isLike 24 (.getfield 9) 3 27 := ⟨by decide +kernel, rfl⟩
theorem d_X5_isLike_27 : DC mX5_isLike 27 (.iload_n 2) 1 28 := ⟨by decide +kernel, rfl⟩
theorem d_X5_isLike_28 : DC mX5_isLike 28 (.laload) 1 29 := ⟨by decide +kernel, rfl⟩
theorem d_X5_isLike_29 : DC mX5_isLike 29 (.aload_n 1) 1 30 := ⟨by decide +kernel, rfl⟩
theorem d_X5_isLike_30 : DC mX5_isLike 30 (.getfield 9) 3 33 := ⟨by decide +kernel, rfl⟩
theorem d_X5_isLike_33 : DC mX5_isLike 33 (.iload_n 2) 1 34 := ⟨by decide +kernel, rfl⟩
theorem d_X5_isLike_34 : DC mX5_isLike 34 (.laload) 1 35 := ⟨by decide +kernel, rfl⟩
theorem d_X5_isLike_35 : DC mX5_isLike 35 (.lcmp) 1 36 := ⟨by decide +kernel, rfl⟩
theorem d_X5_isLike_36 : DC mX5_isLike 36 (.ifCond .ne 18) 3 39 := ⟨by decide +kernel, rfl⟩
theorem d_X5_isLike_39 : DC mX5_isLike 39 (.aload_n 0) 1 40 := ⟨by decide +kernel, rfl⟩
theorem d_X5_isLike_40 : DC mX5_isLike 40 (.getfield 15) 3 43 := ⟨by decide +kernel, rfl⟩
theorem d_X5_isLike_43 : DC mX5_isLike 43 (.iload_n 2) 1 44 := ⟨by decide +kernel, rfl⟩
theorem d_X5_isLike_44 : DC mX5_isLike 44 (.iaload) 1 45 := ⟨by decide +kernel, rfl⟩
theorem d_X5_isLike_45 : DC mX5_isLike 45 (.aload_n 1) 1 46 := ⟨by decide +kernel, rfl⟩
theorem d_X5_isLike_46 : DC mX5_isLike 46 (.getfield 15) 3 49 := ⟨by decide +kernel, rfl⟩
theorem d_X5_isLike_49 : DC mX5_isLike 49 (.iload_n 2) 1 50 := ⟨by decide +kernel, rfl⟩
theorem d_X5_isLike_50 : DC mX5_isLike 50 (.iaload) 1 51 := ⟨by decide +kernel, rfl⟩
theorem d_X5_isLike_51 : DC mX5_isLike 51 (.if_icmp .eq 5) 3 54 := ⟨by decide +kernel, rfl⟩
theorem d_X5_isLike_54 : DC mX5_isLike 54 (.iconst 0) 1 55 := ⟨by decide +kernel, rfl⟩
theorem d_X5_isLike_55 : DC mX5_isLike 55 (.ireturn) 1 56 := ⟨by decide +kernel, rfl⟩
theorem d_X5_isLike_56 : DC mX5_isLike 56 (.iinc 2 1) 3 59 := ⟨by decide +kernel, rfl⟩
theorem d_X5_isLike_59 : DC mX5_isLike 59 (.goto (-44)) 3 62 := ⟨by decide +kernel, rfl⟩
theorem d_X5_isLike_62 : DC mX5_isLike 62 (.iconst 1) 1 63 := ⟨by decide +kernel, rfl⟩
theorem d_X5_isLike_63 : DC mX5_isLike 63 (.ireturn) 1 64 := ⟨by decide +kernel, rfl⟩
theorem d_X5_lay_0 : DC mX5_lay 0 (.lload_n 3) 1 1 := ⟨by decide +kernel, rfl⟩
theorem d_X5_lay_1 : DC mX5_lay 1 (.lconst 0) 1 2 := ⟨by decide +kernel, rfl⟩
theorem d_X5_lay_2 : DC mX5_lay 2 (.lcmp) 1 3 := ⟨by decide +kernel, rfl⟩
theorem d_X5_lay_3 : DC mX5_lay 3 (.ifCond .ne 5) 3 6 := ⟨by decide +kernel, rfl⟩
theorem d_X5_lay_6 : DC mX5_lay 6 (.iconst 0) 1 7 := ⟨by decide +kernel, rfl⟩
theorem d_X5_lay_7 : DC mX5_lay 7 (.ireturn) 1 8 := ⟨by decide +kernel, rfl⟩
theorem d_X5_lay_8 : DC mX5_lay 8 (.lload_n 3) 1 9 := ⟨by decide +kernel, rfl⟩
theorem d_X5_lay_9 : DC mX5_lay 9 (.lload_n 3) 1 10 := ⟨by decide +kernel, rfl⟩
theorem d_X5_lay_10 : DC mX5_lay 10 (.l2i) 1 11 := ⟨by decide +kernel, rfl⟩
theorem d_X5_lay_11 : DC mX5_lay 11 (.i2l) 1 12 := ⟨by decide +kernel, rfl⟩
theorem d_X5_lay_12 : DC mX5_lay 12 (.lcmp) 1 13 := ⟨by decide +kernel, rfl⟩
theorem d_X5_lay_13 : DC mX5_lay 13 (.ifCond .eq 5) 3 16 := ⟨by decide +kernel, rfl⟩
theorem d_X5_lay_16 : DC mX5_lay 16 (.iconst 4) 1 17 := ⟨by decide +kernel, rfl⟩
theorem d_X5_lay_17 : DC mX5_lay 17 (.ireturn) 1 18 := ⟨by decide +kernel, rfl⟩
theorem d_X5_lay_18 : DC mX5_lay 18 (.aload_n 0) 1 19 := ⟨by decide +kernel, rfl⟩
theorem d_X5_lay_19 : DC mX5_lay 19 (.lload_n 1) 1 20 := ⟨by decide +kernel, rfl⟩
theorem d_X5_lay_20 : DC mX5_lay 20 (.invokevirtual 29) 3 23 := ⟨by decide +kernel, rfl⟩
theorem d_X5_lay_23 : DC mX5_lay 23 (.istore 5) 2 25 := ⟨by decide +kernel, rfl⟩
theorem d_X5_lay_25 : DC mX5_lay 25 (.iload 5) 2 27 := ⟨by decide +kernel, rfl⟩
theorem d_X5_lay_27 : DC mX5_lay 27 (.aload_n 0) 1 28 := ⟨by decide +kernel, rfl⟩
theorem d_X5_lay_28 : DC mX5_lay 28 (.getfield 19) 3 31 := ⟨by decide +kernel, rfl⟩
theorem d_X5_lay_31 : DC mX5_lay 31 (.if_icmp .ge 32) 3 34 := ⟨by decide +kernel, rfl⟩
theorem d_X5_lay_34 : DC mX5_lay 34 (.aload_n 0) 1 35 := ⟨by decide +kernel, rfl⟩
theorem d_X5_lay_35 : DC mX5_lay 35 (.getfield 9) 3 38 := ⟨by decide +kernel, rfl⟩
theorem d_X5_lay_38 : DC mX5_lay 38 (.iload 5) 2 40 := ⟨by decide +kernel, rfl⟩
theorem d_X5_lay_40 : DC mX5_lay 40 (.laload) 1 41 := ⟨by decide +kernel, rfl⟩
theorem d_X5_lay_41 : DC mX5_lay 41 (.lload_n 1) 1 42 := ⟨by decide +kernel, rfl⟩
theorem d_X5_lay_42 : DC mX5_lay 42 (.lcmp) 1 43 := ⟨by decide +kernel, rfl⟩
theorem d_X5_lay_43 : DC mX5_lay 43 (.ifCond .ne 20) 3 46 := ⟨by decide +kernel, rfl⟩
theorem d_X5_lay_46 : DC mX5_lay 46 (.aload_n 0) 1 47 := ⟨by decide +kernel, rfl⟩
theorem d_X5_lay_47 : DC mX5_lay 47 (.iload 5) 2 49 := ⟨by decide +kernel, rfl⟩
theorem d_X5_lay_49 : DC mX5_lay 49 (.lload_n 3) 1 50 := ⟨by decide +kernel, rfl⟩
theorem d_X5_lay_50 : DC mX5_lay 50 (.aload_n 0) 1 51 := ⟨by decide +kernel, rfl⟩
theorem d_X5_lay_51 : DC mX5_lay 51 (.getfield 15) 3 54 := ⟨by decide +kernel, rfl⟩
theorem d_X5_lay_54 : DC mX5_lay 54 (.iload 5) 2 56 := ⟨by decide +kernel, rfl⟩
theorem d_X5_lay_56 : DC mX5_lay 56 (.iaload) 1 57 := ⟨by decide +kernel, rfl⟩
theorem d_X5_lay_57 : DC mX5_lay 57 (.i2l) 1 58 := ⟨by decide +kernel, rfl⟩
theorem d_X5_lay_58 : DC mX5_lay 58 (.ladd) 1 59 := ⟨by decide +kernel, rfl⟩
theorem d_X5_lay_59 : DC mX5_lay 59 (.invokevirtual 33) 3 62 := ⟨by decide +kernel, rfl⟩
theorem d_X5_lay_62 : DC mX5_lay 62 (.ireturn) 1 63 := ⟨by decide +kernel, rfl⟩
theorem d_X5_lay_63 : DC mX5_lay 63 (.aload_n 0) 1 64 := ⟨by decide +kernel, rfl⟩
theorem d_X5_lay_64 : DC mX5_lay 64 (.getfield 19) 3 67 := ⟨by decide +kernel, rfl⟩
theorem d_X5_lay_67 : DC mX5_lay 67 (.bipush 80) 2 69 := ⟨by decide +kernel, rfl⟩
theorem d_X5_lay_69 : DC mX5_lay 69 (.if_icmp .lt 5) 3 72 := ⟨by decide +kernel, rfl⟩
theorem d_X5_lay_72 : DC mX5_lay 72 (.iconst 1) 1 73 := ⟨by decide +kernel, rfl⟩
theorem d_X5_lay_73 : DC mX5_lay 73 (.ireturn) 1 74 := ⟨by decide +kernel, rfl⟩
theorem d_X5_lay_74 : DC mX5_lay 74 (.aload_n 0) 1 75 := ⟨by decide +kernel, rfl⟩
theorem d_X5_lay_75 : DC mX5_lay 75 (.getfield 9) 3 78 := ⟨by decide +kernel, rfl⟩
theorem d_X5_lay_78 : DC mX5_lay 78 (.iload 5) 2 80 := ⟨by decide +kernel, rfl⟩
theorem d_X5_lay_80 : DC mX5_lay 80 (.aload_n 0) 1 81 := ⟨by decide +kernel, rfl⟩
theorem d_X5_lay_81 : DC mX5_lay 81 (.getfield 9) 3 84 := ⟨by decide +kernel, rfl⟩
theorem d_X5_lay_84 : DC mX5_lay 84 (.iload 5) 2 86 := ⟨by decide +kernel, rfl⟩
theorem d_X5_lay_86 : DC mX5_lay 86 (.iconst 1) 1 87 := ⟨by decide +kernel, rfl⟩
theorem d_X5_lay_87 : DC mX5_lay 87 (.iadd) 1 88 := ⟨by decide +kernel, rfl⟩
theorem d_X5_lay_88 : DC mX5_lay 88 (.aload_n 0) 1 89 := ⟨by decide +kernel, rfl⟩
theorem d_X5_lay_89 : DC mX5_lay 89 (.getfield 19) 3 92 := ⟨by decide +kernel, rfl⟩
theorem d_X5_lay_92 : DC mX5_lay 92 (.iload 5) 2 94 := ⟨by decide +kernel, rfl⟩
theorem d_X5_lay_94 : DC mX5_lay 94 (.isub) 1 95 := ⟨by decide +kernel, rfl⟩
theorem d_X5_lay_95 : DC mX5_lay 95 (.invokestatic 23) 3 98 := ⟨by decide +kernel, rfl⟩
theorem d_X5_lay_98 : DC mX5_lay 98 (.aload_n 0) 1 99 := ⟨by decide +kernel, rfl⟩
theorem d_X5_lay_99 : DC mX5_lay 99 (.getfield 15) 3 102 := ⟨by decide +kernel, rfl⟩
theorem d_X5_lay_102 : DC mX5_lay 102 (.iload 5) 2 104 := ⟨by decide +kernel, rfl⟩
theorem d_X5_lay_104 : DC mX5_lay 104 (.aload_n 0) 1 105 := ⟨by decide +kernel, rfl⟩
theorem d_X5_lay_105 : DC mX5_lay 105 (.getfield 15) 3 108 := ⟨by decide +kernel, rfl⟩
theorem d_X5_lay_108 : DC mX5_lay 108 (.iload 5) 2 110 := ⟨by decide +kernel, rfl⟩
theorem d_X5_lay_110 : DC mX5_lay 110 (.iconst 1) 1 111 := ⟨by decide +kernel, rfl⟩
theorem d_X5_lay_111 : DC mX5_lay 111 (.iadd) 1 112 := ⟨by decide +kernel, rfl⟩
theorem d_X5_lay_112 : DC mX5_lay 112 (.aload_n 0) 1 113 := ⟨by decide +kernel, rfl⟩
theorem d_X5_lay_113 : DC mX5_lay 113 (.getfield 19) 3 116 := ⟨by decide +kernel, rfl⟩
theorem d_X5_lay_116 : DC mX5_lay 116 (.iload 5) 2 118 := ⟨by decide +kernel, rfl⟩
theorem d_X5_lay_118 : DC mX5_lay 118 (.isub) 1 119 := ⟨by decide +kernel, rfl⟩
theorem d_X5_lay_119 : DC mX5_lay 119 (.invokestatic 23) 3 122 := ⟨by decide +kernel, rfl⟩
theorem d_X5_lay_122 : DC mX5_lay 122 (.aload_n 0) 1 123 := ⟨by decide +kernel, rfl⟩
theorem d_X5_lay_123 : DC mX5_lay 123 (.getfield 9) 3 126 := ⟨by decide +kernel, rfl⟩
theorem d_X5_lay_126 : DC mX5_lay 126 (.iload 5) 2 128 := ⟨by decide +kernel, rfl⟩
theorem d_X5_lay_128 : DC mX5_lay 128 (.lload_n 1) 1 129 := ⟨by decide +kernel, rfl⟩
theorem d_X5_lay_129 : DC mX5_lay 129 (.lastore) 1 130 := ⟨by decide +kernel, rfl⟩
theorem d_X5_lay_130 : DC mX5_lay 130 (.aload_n 0) 1 131 := ⟨by decide +kernel, rfl⟩
theorem d_X5_lay_131 : DC mX5_lay 131 (.getfield 15) 3 134 := ⟨by decide +kernel, rfl⟩
theorem d_X5_lay_134 : DC mX5_lay 134 (.iload 5) 2 136 := ⟨by decide +kernel, rfl⟩
theorem d_X5_lay_136 : DC mX5_lay 136 (.lload_n 3) 1 137 := ⟨by decide +kernel, rfl⟩
theorem d_X5_lay_137 : DC mX5_lay 137 (.l2i) 1 138 := ⟨by decide +kernel, rfl⟩
theorem d_X5_lay_138 : DC mX5_lay 138 (.iastore) 1 139 := ⟨by decide +kernel, rfl⟩
theorem d_X5_lay_139 : DC mX5_lay 139 (.aload_n 0) 1 140 := ⟨by decide +kernel, rfl⟩
theorem d_X5_lay_140 : DC mX5_lay 140 (.dup) 1 141 := ⟨by decide +kernel, rfl⟩
theorem d_X5_lay_141 : DC mX5_lay 141 (.getfield 19) 3 144 := ⟨by decide +kernel, rfl⟩
theorem d_X5_lay_144 : DC mX5_lay 144 (.iconst 1) 1 145 := ⟨by decide +kernel, rfl⟩
theorem d_X5_lay_145 : DC mX5_lay 145 (.iadd) 1 146 := ⟨by decide +kernel, rfl⟩
theorem d_X5_lay_146 : DC mX5_lay 146 (.putfield 19) 3 149 := ⟨by decide +kernel, rfl⟩
theorem d_X5_lay_149 : DC mX5_lay 149 (.iconst 0) 1 150 := ⟨by decide +kernel, rfl⟩
theorem d_X5_lay_150 : DC mX5_lay 150 (.ireturn) 1 151 := ⟨by decide +kernel, rfl⟩
theorem d_X5_laySum_0 : DC mX5_laySum 0 (.iconst 0) 1 1 := ⟨by decide +kernel, rfl⟩
theorem d_X5_laySum_1 : DC mX5_laySum 1 (.istore_n 3) 1 2 := ⟨by decide +kernel, rfl⟩
theorem d_X5_laySum_2 : DC mX5_laySum 2 (.iconst 0) 1 3 := ⟨by decide +kernel, rfl⟩
theorem d_X5_laySum_3 : DC mX5_laySum 3 (.istore 4) 2 5 := ⟨by decide +kernel, rfl⟩
theorem d_X5_laySum_5 : DC mX5_laySum 5 (.iload 4) 2 7 := ⟨by decide +kernel, rfl⟩
theorem d_X5_laySum_7 : DC mX5_laySum 7 (.aload_n 1) 1 8 := ⟨by decide +kernel, rfl⟩
theorem d_X5_laySum_8 : DC mX5_laySum 8 (.getfield 19) 3 11 := ⟨by decide +kernel, rfl⟩
theorem d_X5_laySum_11 : DC mX5_laySum 11 (.if_icmp .ge 36) 3 14 := ⟨by decide +kernel, rfl⟩
theorem d_X5_laySum_14 : DC mX5_laySum 14 (.iload_n 3) 1 15 := ⟨by decide +kernel, rfl⟩
theorem d_X5_laySum_15 : DC mX5_laySum 15 (.ifCond .ne 32) 3 18 := ⟨by decide +kernel, rfl⟩
theorem d_X5_laySum_18 : DC mX5_laySum 18 (.aload_n 0) 1 19 := ⟨by decide +kernel, rfl⟩
theorem d_X5_laySum_19 : DC mX5_laySum 19 (.aload_n 1) 1 20 := ⟨by decide +kernel, rfl⟩
theorem d_X5_laySum_20 : DC mX5_laySum 20 (.getfield 9) 3 23 := ⟨by decide +kernel, rfl⟩
theorem d_X5_laySum_23 : DC mX5_laySum 23 (.iload 4) 2 25 := ⟨by decide +kernel, rfl⟩
theorem d_X5_laySum_25 : DC mX5_laySum 25 (.laload) 1 26 := ⟨by decide +kernel, rfl⟩
theorem d_X5_laySum_26 : DC mX5_laySum 26 (.aload_n 1) 1 27 := ⟨by decide +kernel, rfl⟩
theorem d_X5_laySum_27 : DC mX5_laySum 27 (.getfield 15) 3 30 := ⟨by decide +kernel, rfl⟩
theorem d_X5_laySum_30 : DC mX5_laySum 30 (.iload 4) 2 32 := ⟨by decide +kernel, rfl⟩
theorem d_X5_laySum_32 : DC mX5_laySum 32 (.iaload) 1 33 := ⟨by decide +kernel, rfl⟩
theorem d_X5_laySum_33 : DC mX5_laySum 33 (.i2l) 1 34 := ⟨by decide +kernel, rfl⟩
theorem d_X5_laySum_34 : DC mX5_laySum 34 (.iload_n 2) 1 35 := ⟨by decide +kernel, rfl⟩
theorem d_X5_laySum_35 : DC mX5_laySum 35 (.i2l) 1 36 := ⟨by decide +kernel, rfl⟩
theorem d_X5_laySum_36 : DC mX5_laySum 36 (.lmul) 1 37 := ⟨by decide +kernel, rfl⟩
theorem d_X5_laySum_37 : DC mX5_laySum 37 (.invokevirtual 37) 3 40 := ⟨by decide +kernel, rfl⟩
theorem d_X5_laySum_40 : DC mX5_laySum 40 (.istore_n 3) 1 41 := ⟨by decide +kernel, rfl⟩
theorem d_X5_laySum_41 : DC mX5_laySum 41 (.iinc 4 1) 3 44 := ⟨by decide +kernel, rfl⟩
theorem d_X5_laySum_44 : DC mX5_laySum 44 (.goto (-39)) 3 47 := ⟨by decide +kernel, rfl⟩
theorem d_X5_laySum_47 : DC mX5_laySum 47 (.iload_n 3) 1 48 := ⟨by decide +kernel, rfl⟩
theorem d_X5_laySum_48 : DC mX5_laySum 48 (.ireturn) 1 49 := ⟨by decide +kernel, rfl⟩
theorem d_X5_layProduct_0 : DC mX5_layProduct 0 (.iconst 0) 1 1 := ⟨by decide +kernel, rfl⟩
theorem d_X5_layProduct_1 : DC mX5_layProduct 1 (.istore_n 3) 1 2 := ⟨by decide +kernel, rfl⟩
theorem d_X5_layProduct_2 : DC mX5_layProduct 2 (.iconst 0) 1 3 := ⟨by decide +kernel, rfl⟩
theorem d_X5_layProduct_3 : DC mX5_layProduct 3 (.istore 4) 2 5 := ⟨by decide +kernel, rfl⟩
theorem d_X5_layProduct_5 : DC mX5_layProduct 5 (.iload 4) 2 7 := ⟨by decide +kernel, rfl⟩
theorem d_X5_layProduct_7 : DC mX5_layProduct 7 (.aload_n 1) 1 8 := ⟨by decide +kernel, rfl⟩
theorem d_X5_layProduct_8 : DC mX5_layProduct 8 (.getfield 19) 3 11 := ⟨by decide +kernel, rfl⟩
theorem d_X5_layProduct_11 : DC mX5_layProduct 11 (.if_icmp .ge 100) 3 14 := ⟨by decide +kernel, rfl⟩
theorem d_X5_layProduct_14 : DC mX5_layProduct 14 (.iload_n 3) 1 15 := ⟨by decide +kernel, rfl⟩
theorem d_X5_layProduct_15 : DC mX5_layProduct 15 (.ifCond .ne 96) 3 18 := ⟨by decide +kernel, rfl⟩
theorem d_X5_layProduct_18 : DC mX5_layProduct 18 (.iconst 0) 1 19 := ⟨by decide +kernel, rfl⟩
theorem d_X5_layProduct_19 : DC mX5_layProduct 19 (.istore 5) 2 21 := ⟨by decide +kernel, rfl⟩
theorem d_X5_layProduct_21 : DC mX5_layProduct 21 (.iload 5) 2 23 := ⟨by decide +kernel, rfl⟩
theorem d_X5_layProduct_23 : DC mX5_layProduct 23 (.aload_n 2) 1 24 := ⟨by decide +kernel, rfl⟩
theorem d_X5_layProduct_24 : DC mX5_layProduct 24 (.getfield 19) 3 27 := ⟨by decide +kernel, rfl⟩
theorem d_X5_layProduct_27 : DC mX5_layProduct 27 (.if_icmp .ge 78) 3 30 := ⟨by decide +kernel, rfl⟩
theorem d_X5_layProduct_30 : DC mX5_layProduct 30 (.iload_n 3) 1 31 := ⟨by decide +kernel, rfl⟩
theorem d_X5_layProduct_31 : DC mX5_layProduct 31 (.ifCond .ne 74) 3 34 := ⟨by decide +kernel, rfl⟩
theorem d_X5_layProduct_34 : DC mX5_layProduct 34 (.aload_n 1) 1 35 := ⟨by decide +kernel, rfl⟩
theorem d_X5_layProduct_35 : DC mX5_layProduct 35 (.getfield 9) 3 38 := ⟨by decide +kernel, rfl⟩
theorem d_X5_layProduct_38 : DC mX5_layProduct 38 (.iload 4) 2 40 := ⟨by decide +kernel, rfl⟩
theorem d_X5_layProduct_40 : DC mX5_layProduct 40 (.laload) 1 41 := ⟨by decide +kernel, rfl⟩
theorem d_X5_layProduct_41 : DC mX5_layProduct 41 (.lstore 6) 2 43 := ⟨by decide +kernel, rfl⟩
theorem d_X5_layProduct_43 : DC mX5_layProduct 43 (.lload 6) 2 45 := ⟨by decide +kernel, rfl⟩
theorem d_X5_layProduct_45 : DC mX5_layProduct 45 (.invokestatic 41) 3 48 := ⟨by decide +kernel, rfl⟩
theorem d_X5_layProduct_48 : DC mX5_layProduct 48 (.aload_n 2) 1 49 := ⟨by decide +kernel, rfl⟩
theorem d_X5_layProduct_49 : DC mX5_layProduct 49 (.getfield 9) 3 52 := ⟨by decide +kernel, rfl⟩
theorem d_X5_layProduct_52 : DC mX5_layProduct 52 (.iload 5) 2 54 := ⟨by decide +kernel, rfl⟩
theorem d_X5_layProduct_54 : DC mX5_layProduct 54 (.laload) 1 55 := ⟨by decide +kernel, rfl⟩
theorem d_X5_layProduct_55 : DC mX5_layProduct 55 (.invokestatic 41) 3 58 := ⟨by decide +kernel, rfl⟩
theorem d_X5_layProduct_58 : DC mX5_layProduct 58 (.iadd) 1 59 := ⟨by decide +kernel, rfl⟩
theorem d_X5_layProduct_59 : DC mX5_layProduct 59 (.iconst 4) 1 60 := ⟨by decide +kernel, rfl⟩
theorem d_X5_layProduct_60 : DC mX5_layProduct 60 (.if_icmp .le 5) 3 63 := ⟨by decide +kernel, rfl⟩
theorem d_X5_layProduct_63 : DC mX5_layProduct 63 (.iconst 2) 1 64 := ⟨by decide +kernel, rfl⟩
theorem d_X5_layProduct_64 : DC mX5_layProduct 64 (.ireturn) 1 65 := ⟨by decide +kernel, rfl⟩
theorem d_X5_layProduct_65 : DC mX5_layProduct 65 (.aload_n 0) 1 66 := ⟨by decide +kernel, rfl⟩
theorem d_X5_layProduct_66 : DC mX5_layProduct 66 (.lload 6) 2 68 := ⟨by decide +kernel, rfl⟩
theorem d_X5_layProduct_68 : DC mX5_layProduct 68 (.aload_n 2) 1 69 := ⟨by decide +kernel, rfl⟩
theorem d_X5_layProduct_69 : DC mX5_layProduct 69 (.getfield 9) 3 72 := ⟨by decide +kernel, rfl⟩
theorem d_X5_layProduct_72 : DC mX5_layProduct 72 (.iload 5) 2 74 := ⟨by decide +kernel, rfl⟩
theorem d_X5_layProduct_74 : DC mX5_layProduct 74 (.laload) 1 75 := ⟨by decide +kernel, rfl⟩
theorem d_X5_layProduct_75 : DC mX5_layProduct 75 (.invokestatic 46) 3 78 := ⟨by decide +kernel, rfl⟩
theorem d_X5_layProduct_78 : DC mX5_layProduct 78 (.aload_n 1) 1 79 := ⟨by decide +kernel, rfl⟩
theorem d_X5_layProduct_79 : DC mX5_layProduct 79 (.getfield 15) 3 82 := ⟨by decide +kernel, rfl⟩
theorem d_X5_layProduct_82 : DC mX5_layProduct 82 (.iload 4) 2 84 := ⟨by decide +kernel, rfl⟩
theorem d_X5_layProduct_84 : DC mX5_layProduct 84 (.iaload) 1 85 := ⟨by decide +kernel, rfl⟩
theorem d_X5_layProduct_85 : DC mX5_layProduct 85 (.i2l) 1 86 := ⟨by decide +kernel, rfl⟩
theorem d_X5_layProduct_86 : DC mX5_layProduct 86 (.aload_n 2) 1 87 := ⟨by decide +kernel, rfl⟩
theorem d_X5_layProduct_87 : DC mX5_layProduct 87 (.getfield 15) 3 90 := ⟨by decide +kernel, rfl⟩
theorem d_X5_layProduct_90 : DC mX5_layProduct 90 (.iload 5) 2 92 := ⟨by decide +kernel, rfl⟩
theorem d_X5_layProduct_92 : DC mX5_layProduct 92 (.iaload) 1 93 := ⟨by decide +kernel, rfl⟩
theorem d_X5_layProduct_93 : DC mX5_layProduct 93 (.i2l) 1 94 := ⟨by decide +kernel, rfl⟩
theorem d_X5_layProduct_94 : DC mX5_layProduct 94 (.lmul) 1 95 := ⟨by decide +kernel, rfl⟩
theorem d_X5_layProduct_95 : DC mX5_layProduct 95 (.invokevirtual 37) 3 98 := ⟨by decide +kernel, rfl⟩
theorem d_X5_layProduct_98 : DC mX5_layProduct 98 (.istore_n 3) 1 99 := ⟨by decide +kernel, rfl⟩
theorem d_X5_layProduct_99 : DC mX5_layProduct 99 (.iinc 5 1) 3 102 := ⟨by decide +kernel, rfl⟩
theorem d_X5_layProduct_102 : DC mX5_layProduct 102 (.goto (-81)) 3 105 := ⟨by decide +kernel, rfl⟩
theorem d_X5_layProduct_105 : DC mX5_layProduct 105 (.iinc 4 1) 3 108 := ⟨by decide +kernel, rfl⟩
theorem d_X5_layProduct_108 : DC mX5_layProduct 108 (.goto (-103)) 3 111 := ⟨by decide +kernel, rfl⟩
theorem d_X5_layProduct_111 : DC mX5_layProduct 111 (.iload_n 3) 1 112 := ⟨by decide +kernel, rfl⟩
theorem d_X5_layProduct_112 : DC mX5_layProduct 112 (.ireturn) 1 113 := ⟨by decide +kernel, rfl⟩
theorem d_X5_layUpon_0 : DC mX5_layUpon 0 (.lload_n 2) 1 1 := ⟨by decide +kernel, rfl⟩
theorem d_X5_layUpon_1 : DC mX5_layUpon 1 (.lload_n 2) 1 2 := ⟨by decide +kernel, rfl⟩
theorem d_X5_layUpon_2 : DC mX5_layUpon 2 (.l2i) 1 3 := ⟨by decide +kernel, rfl⟩
theorem d_X5_layUpon_3 : DC mX5_layUpon 3 (.i2l) 1 4 := ⟨by decide +kernel, rfl⟩
theorem d_X5_layUpon_4 : DC mX5_layUpon 4 (.lcmp) 1 5 := ⟨by decide +kernel, rfl⟩
theorem d_X5_layUpon_5 : DC mX5_layUpon 5 (.ifCond .eq 5) 3 8 := ⟨by decide +kernel, rfl⟩
theorem d_X5_layUpon_8 : DC mX5_layUpon 8 (.iconst 4) 1 9 := ⟨by decide +kernel, rfl⟩
theorem d_X5_layUpon_9 : DC mX5_layUpon 9 (.ireturn) 1 10 := ⟨by decide +kernel, rfl⟩
theorem d_X5_layUpon_10 : DC mX5_layUpon 10 (.aload_n 0) 1 11 := ⟨by decide +kernel, rfl⟩
theorem d_X5_layUpon_11 : DC mX5_layUpon 11 (.getfield 15) 3 14 := ⟨by decide +kernel, rfl⟩
theorem d_X5_layUpon_14 : DC mX5_layUpon 14 (.iload_n 1) 1 15 := ⟨by decide +kernel, rfl⟩
theorem d_X5_layUpon_15 : DC mX5_layUpon 15 (.lload_n 2) 1 16 := ⟨by decide +kernel, rfl⟩
theorem d_X5_layUpon_16 : DC mX5_layUpon 16 (.l2i) 1 17 := ⟨by decide +kernel, rfl⟩
theorem d_X5_layUpon_17 : DC mX5_layUpon 17 (.iastore) 1 18 := ⟨by decide +kernel, rfl⟩
theorem d_X5_layUpon_18 : DC mX5_layUpon 18 (.lload_n 2) 1 19 := ⟨by decide +kernel, rfl⟩
theorem d_X5_layUpon_19 : DC mX5_layUpon 19 (.lconst 0) 1 20 := ⟨by decide +kernel, rfl⟩
theorem d_X5_layUpon_20 : DC mX5_layUpon 20 (.lcmp) 1 21 := ⟨by decide +kernel, rfl⟩
theorem d_X5_layUpon_21 : DC mX5_layUpon 21 (.ifCond .ne 55) 3 24 := ⟨by decide +kernel, rfl⟩
theorem d_X5_layUpon_24 : DC mX5_layUpon 24 (.aload_n 0) 1 25 := ⟨by decide +kernel, rfl⟩
theorem d_X5_layUpon_25 : DC mX5_layUpon 25 (.dup) 1 26 := ⟨by decide +kernel, rfl⟩
theorem d_X5_layUpon_26 : DC mX5_layUpon 26 (.getfield 19) 3 29 := ⟨by decide +kernel, rfl⟩
theorem d_X5_layUpon_29 : DC mX5_layUpon 29 (.iconst 1) 1 30 := ⟨by decide +kernel, rfl⟩
theorem d_X5_layUpon_30 : DC mX5_layUpon 30 (.isub) 1 31 := ⟨by decide +kernel, rfl⟩
theorem d_X5_layUpon_31 : DC mX5_layUpon 31 (.putfield 19) 3 34 := ⟨by decide +kernel, rfl⟩
theorem d_X5_layUpon_34 : DC mX5_layUpon 34 (.aload_n 0) 1 35 := ⟨by decide +kernel, rfl⟩
theorem d_X5_layUpon_35 : DC mX5_layUpon 35 (.getfield 9) 3 38 := ⟨by decide +kernel, rfl⟩
theorem d_X5_layUpon_38 : DC mX5_layUpon 38 (.iload_n 1) 1 39 := ⟨by decide +kernel, rfl⟩
theorem d_X5_layUpon_39 : DC mX5_layUpon 39 (.iconst 1) 1 40 := ⟨by decide +kernel, rfl⟩
theorem d_X5_layUpon_40 : DC mX5_layUpon 40 (.iadd) 1 41 := ⟨by decide +kernel, rfl⟩
theorem d_X5_layUpon_41 : DC mX5_layUpon 41 (.aload_n 0) 1 42 := ⟨by decide +kernel, rfl⟩
theorem d_X5_layUpon_42 : DC mX5_layUpon 42 (.getfield 9) 3 45 := ⟨by decide +kernel, rfl⟩
theorem d_X5_layUpon_45 : DC mX5_layUpon 45 (.iload_n 1) 1 46 := ⟨by decide +kernel, rfl⟩
theorem d_X5_layUpon_46 : DC mX5_layUpon 46 (.aload_n 0) 1 47 := ⟨by decide +kernel, rfl⟩
theorem d_X5_layUpon_47 : DC mX5_layUpon 47 (.getfield 19) 3 50 := ⟨by decide +kernel, rfl⟩
theorem d_X5_layUpon_50 : DC mX5_layUpon 50 (.iload_n 1) 1 51 := ⟨by decide +kernel, rfl⟩
theorem d_X5_layUpon_51 : DC mX5_layUpon 51 (.isub) 1 52 := ⟨by decide +kernel, rfl⟩
theorem d_X5_layUpon_52 : DC mX5_layUpon 52 (.invokestatic 23) 3 55 := ⟨by decide +kernel, rfl⟩
theorem d_X5_layUpon_55 : DC mX5_layUpon 55 (.aload_n 0) 1 56 := ⟨by decide +kernel, rfl⟩
theorem d_X5_layUpon_56 : DC mX5_layUpon 56 (.getfield 15) 3 59 := ⟨by decide +kernel, rfl⟩
theorem d_X5_layUpon_59 : DC mX5_layUpon 59 (.iload_n 1) 1 60 := ⟨by decide +kernel, rfl⟩
theorem d_X5_layUpon_60 : DC mX5_layUpon 60 (.iconst 1) 1 61 := ⟨by decide +kernel, rfl⟩
theorem d_X5_layUpon_61 : DC mX5_layUpon 61 (.iadd) 1 62 := ⟨by decide +kernel, rfl⟩
theorem d_X5_layUpon_62 : DC mX5_layUpon 62 (.aload_n 0) 1 63 := ⟨by decide +kernel, rfl⟩
theorem d_X5_layUpon_63 : DC mX5_layUpon 63 (.getfield 15) 3 66 := ⟨by decide +kernel, rfl⟩
theorem d_X5_layUpon_66 : DC mX5_layUpon 66 (.iload_n 1) 1 67 := ⟨by decide +kernel, rfl⟩
theorem d_X5_layUpon_67 : DC mX5_layUpon 67 (.aload_n 0) 1 68 := ⟨by decide +kernel, rfl⟩
theorem d_X5_layUpon_68 : DC mX5_layUpon 68 (.getfield 19) 3 71 := ⟨by decide +kernel, rfl⟩
theorem d_X5_layUpon_71 : DC mX5_layUpon 71 (.iload_n 1) 1 72 := ⟨by decide +kernel, rfl⟩
theorem d_X5_layUpon_72 : DC mX5_layUpon 72 (.isub) 1 73 := ⟨by decide +kernel, rfl⟩
theorem d_X5_layUpon_73 : DC mX5_layUpon 73 (.invokestatic 23) 3 76 := ⟨by decide +kernel, rfl⟩
theorem d_X5_layUpon_76 : DC mX5_layUpon 76 (.iconst 0) 1 77 := ⟨by decide +kernel, rfl⟩
theorem d_X5_layUpon_77 : DC mX5_layUpon 77 (.ireturn) 1 78 := ⟨by decide +kernel, rfl⟩
theorem d_X5_find_0 : DC mX5_find 0 (.iconst 0) 1 1 := ⟨by decide +kernel, rfl⟩
theorem d_X5_find_1 : DC mX5_find 1 (.istore_n 3) 1 2 := ⟨by decide +kernel, rfl⟩
theorem d_X5_find_2 : DC mX5_find 2 (.bipush 64) 2 4 := ⟨by decide +kernel, rfl⟩
theorem d_X5_find_4 : DC mX5_find 4 (.istore 4) 2 6 := ⟨by decide +kernel, rfl⟩
theorem d_X5_find_6 : DC mX5_find 6 (.iload 4) 2 8 := ⟨by decide +kernel, rfl⟩
theorem d_X5_find_8 : DC mX5_find 8 (.ifCond .le 44) 3 11 := ⟨by decide +kernel, rfl⟩
theorem d_X5_find_11 : DC mX5_find 11 (.iload_n 3) 1 12 := ⟨by decide +kernel, rfl⟩
theorem d_X5_find_12 : DC mX5_find 12 (.iload 4) 2 14 := ⟨by decide +kernel, rfl⟩
theorem d_X5_find_14 : DC mX5_find 14 (.iadd) 1 15 := ⟨by decide +kernel, rfl⟩
theorem d_X5_find_15 : DC mX5_find 15 (.aload_n 0) 1 16 := ⟨by decide +kernel, rfl⟩
theorem d_X5_find_16 : DC mX5_find 16 (.getfield 19) 3 19 := ⟨by decide +kernel, rfl⟩
theorem d_X5_find_19 : DC mX5_find 19 (.if_icmp .gt 24) 3 22 := ⟨by decide +kernel, rfl⟩
theorem d_X5_find_22 : DC mX5_find 22 (.aload_n 0) 1 23 := ⟨by decide +kernel, rfl⟩
theorem d_X5_find_23 : DC mX5_find 23 (.getfield 9) 3 26 := ⟨by decide +kernel, rfl⟩
theorem d_X5_find_26 : DC mX5_find 26 (.iload_n 3) 1 27 := ⟨by decide +kernel, rfl⟩
theorem d_X5_find_27 : DC mX5_find 27 (.iload 4) 2 29 := ⟨by decide +kernel, rfl⟩
theorem d_X5_find_29 : DC mX5_find 29 (.iadd) 1 30 := ⟨by decide +kernel, rfl⟩
theorem d_X5_find_30 : DC mX5_find 30 (.iconst 1) 1 31 := ⟨by decide +kernel, rfl⟩
theorem d_X5_find_31 : DC mX5_find 31 (.isub) 1 32 := ⟨by decide +kernel, rfl⟩
theorem d_X5_find_32 : DC mX5_find 32 (.laload) 1 33 := ⟨by decide +kernel, rfl⟩
theorem d_X5_find_33 : DC mX5_find 33 (.lload_n 1) 1 34 := ⟨by decide +kernel, rfl⟩
theorem d_X5_find_34 : DC mX5_find 34 (.lcmp) 1 35 := ⟨by decide +kernel, rfl⟩
theorem d_X5_find_35 : DC mX5_find 35 (.ifCond .ge 8) 3 38 := ⟨by decide +kernel, rfl⟩
theorem d_X5_find_38 : DC mX5_find 38 (.iload_n 3) 1 39 := ⟨by decide +kernel, rfl⟩
theorem d_X5_find_39 : DC mX5_find 39 (.iload 4) 2 41 := ⟨by decide +kernel, rfl⟩
theorem d_X5_find_41 : DC mX5_find 41 (.iadd) 1 42 := ⟨by decide +kernel, rfl⟩
theorem d_X5_find_42 : DC mX5_find 42 (.istore_n 3) 1 43 := ⟨by decide +kernel, rfl⟩
theorem d_X5_find_43 : DC mX5_find 43 (.iload 4) 2 45 := ⟨by decide +kernel, rfl⟩
theorem d_X5_find_45 : DC mX5_find 45 (.iconst 1) 1 46 := ⟨by decide +kernel, rfl⟩
theorem d_X5_find_46 : DC mX5_find 46 (.ishr) 1 47 := ⟨by decide +kernel, rfl⟩
theorem d_X5_find_47 : DC mX5_find 47 (.istore 4) 2 49 := ⟨by decide +kernel, rfl⟩
theorem d_X5_find_49 : DC mX5_find 49 (.goto (-43)) 3 52 := ⟨by decide +kernel, rfl⟩
theorem d_X5_find_52 : DC mX5_find 52 (.iload_n 3) 1 53 := ⟨by decide +kernel, rfl⟩
theorem d_X5_find_53 : DC mX5_find 53 (.ireturn) 1 54 := ⟨by decide +kernel, rfl⟩
theorem d_X6_row_0 : DC mX6_row 0 (.iload_n 0) 1 1 := ⟨by decide +kernel, rfl⟩
theorem d_X6_row_1 : DC mX6_row 1 (.bipush 8) 2 3 := ⟨by decide +kernel, rfl⟩
theorem d_X6_row_3 : DC mX6_row 3 (.ishl) 1 4 := ⟨by decide +kernel, rfl⟩
theorem d_X6_row_4 : DC mX6_row 4 (.iload_n 1) 1 5 := ⟨by decide +kernel, rfl⟩
theorem d_X6_row_5 : DC mX6_row 5 (.iconst 4) 1 6 := ⟨by decide +kernel, rfl⟩
theorem d_X6_row_6 : DC mX6_row 6 (.ishl) 1 7 := ⟨by decide +kernel, rfl⟩
theorem d_X6_row_7 : DC mX6_row 7 (.ior) 1 8 := ⟨by decide +kernel, rfl⟩
theorem d_X6_row_8 : DC mX6_row 8 (.iload_n 2) 1 9 := ⟨by decide +kernel, rfl⟩
theorem d_X6_row_9 : DC mX6_row 9 (.ior) 1 10 := ⟨by decide +kernel, rfl⟩
theorem d_X6_row_10 : DC mX6_row 10 (.ireturn) 1 11 := ⟨by decide +kernel, rfl⟩
theorem d_X6_letter_0 : DC mX6_letter 0 (.iload_n 0) 1 1 := ⟨by decide +kernel, rfl⟩
theorem d_X6_letter_1 : DC mX6_letter 1 (.iconst 4) 1 2 := ⟨by decide +kernel, rfl⟩
theorem d_X6_letter_2 : DC mX6_letter 2 (.iconst 2) 1 3 := ⟨by decide +kernel, rfl⟩
theorem d_X6_letter_3 : DC mX6_letter 3 (.iload_n 1) 1 4 := ⟨by decide +kernel, rfl⟩
theorem d_X6_letter_4 : DC mX6_letter 4 (.isub) 1 5 := ⟨by decide +kernel, rfl⟩
theorem d_X6_letter_5 : DC mX6_letter 5 (.imul) 1 6 := ⟨by decide +kernel, rfl⟩
theorem d_X6_letter_6 : DC mX6_letter 6 (.ishr) 1 7 := ⟨by decide +kernel, rfl⟩
theorem d_X6_letter_7 : DC mX6_letter 7 (.bipush 15) 2 9 := ⟨by decide +kernel, rfl⟩
theorem d_X6_letter_9 : DC mX6_letter 9 (.iand) 1 10 := ⟨by decide +kernel, rfl⟩
theorem d_X6_letter_10 : DC mX6_letter 10 (.ireturn) 1 11 := ⟨by decide +kernel, rfl⟩
theorem d_X6_ordered_0 : DC mX6_ordered 0 (.iload_n 0) 1 1 := ⟨by decide +kernel, rfl⟩
theorem d_X6_ordered_1 : DC mX6_ordered 1 (.bipush 8) 2 3 := ⟨by decide +kernel, rfl⟩
theorem d_X6_ordered_3 : DC mX6_ordered 3 (.ishr) 1 4 := ⟨by decide +kernel, rfl⟩
theorem d_X6_ordered_4 : DC mX6_ordered 4 (.bipush 15) 2 6 := ⟨by decide +kernel, rfl⟩
theorem d_X6_ordered_6 : DC mX6_ordered 6 (.iand) 1 7 := ⟨by decide +kernel, rfl⟩
theorem d_X6_ordered_7 : DC mX6_ordered 7 (.istore_n 1) 1 8 := ⟨by decide +kernel, rfl⟩
theorem d_X6_ordered_8 : DC mX6_ordered 8 (.iload_n 0) 1 9 := ⟨by decide +kernel, rfl⟩
theorem d_X6_ordered_9 : DC mX6_ordered 9 (.iconst 4) 1 10 := ⟨by decide +kernel, rfl⟩
theorem d_X6_ordered_10 : DC mX6_ordered 10 (.ishr) 1 11 := ⟨by decide +kernel, rfl⟩
theorem d_X6_ordered_11 : DC mX6_ordered 11 (.bipush 15) 2 13 := ⟨by decide +kernel, rfl⟩
theorem d_X6_ordered_13 : DC mX6_ordered 13 (.iand) 1 14 := ⟨by decide +kernel, rfl⟩
theorem d_X6_ordered_14 : DC mX6_ordered 14 (.istore_n 2) 1 15 := ⟨by decide +kernel, rfl⟩
theorem d_X6_ordered_15 : DC mX6_ordered 15 (.iload_n 0) 1 16 := ⟨by decide +kernel, rfl⟩
theorem d_X6_ordered_16 : DC mX6_ordered 16 (.bipush 15) 2 18 := ⟨by decide +kernel, rfl⟩
theorem d_X6_ordered_18 : DC mX6_ordered 18 (.iand) 1 19 := ⟨by decide +kernel, rfl⟩
theorem d_X6_ordered_19 : DC mX6_ordered 19 (.istore_n 3) 1 20 := ⟨by decide +kernel, rfl⟩
theorem d_X6_ordered_20 : DC mX6_ordered 20 (.iload_n 1) 1 21 := ⟨by decide +kernel, rfl⟩
theorem d_X6_ordered_21 : DC mX6_ordered 21 (.iload_n 2) 1 22 := ⟨by decide +kernel, rfl⟩
theorem d_X6_ordered_22 : DC mX6_ordered 22 (.if_icmp .eq 13) 3 25 := ⟨by decide +kernel, rfl⟩
theorem d_X6_ordered_25 : DC mX6_ordered 25 (.iload_n 1) 1 26 := ⟨by decide +kernel, rfl⟩
theorem d_X6_ordered_26 : DC mX6_ordered 26 (.iload_n 3) 1 27 := ⟨by decide +kernel, rfl⟩
theorem d_X6_ordered_27 : DC mX6_ordered 27 (.if_icmp .eq 8) 3 30 := ⟨by decide +kernel, rfl⟩
theorem d_X6_ordered_30 : DC mX6_ordered 30 (.iload_n 2) 1 31 := ⟨by decide +kernel, rfl⟩
theorem d_X6_ordered_31 : DC mX6_ordered 31 (.iload_n 3) 1 32 := ⟨by decide +kernel, rfl⟩
theorem d_X6_ordered_32 : DC mX6_ordered 32 (.if_icmp .ne 5) 3 35 := ⟨by decide +kernel, rfl⟩
theorem d_X6_ordered_35 : DC mX6_ordered 35 (.iconst 0) 1 36 := ⟨by decide +kernel, rfl⟩
theorem d_X6_ordered_36 : DC mX6_ordered 36 (.ireturn) 1 37 := ⟨by decide +kernel, rfl⟩
theorem d_X6_ordered_37 : DC mX6_ordered 37 (.iload_n 1) 1 38 := ⟨by decide +kernel, rfl⟩
theorem d_X6_ordered_38 : DC mX6_ordered 38 (.iload_n 2) 1 39 := ⟨by decide +kernel, rfl⟩
theorem d_X6_ordered_39 : DC mX6_ordered 39 (.if_icmp .ge 7) 3 42 := ⟨by decide +kernel, rfl⟩
theorem d_X6_ordered_42 : DC mX6_ordered 42 (.iload_n 1) 1 43 := ⟨by decide +kernel, rfl⟩
theorem d_X6_ordered_43 : DC mX6_ordered 43 (.goto 4) 3 46 := ⟨by decide +kernel, rfl⟩
theorem d_X6_ordered_46 : DC mX6_ordered 46 (.iload_n 2) 1 47 := ⟨by decide +kernel, rfl⟩
theorem d_X6_ordered_47 : DC mX6_ordered 47 (.istore 4) 2 49 := ⟨by decide +kernel, rfl⟩
theorem d_X6_ordered_49 : DC mX6_ordered 49 (.iload 4) 2 51 := ⟨by decide +kernel, rfl⟩
theorem d_X6_ordered_51 : DC mX6_ordered 51 (.iload_n 3) 1 52 := ⟨by decide +kernel, rfl⟩
theorem d_X6_ordered_52 : DC mX6_ordered 52 (.if_icmp .ge 8) 3 55 := ⟨by decide +kernel, rfl⟩
theorem d_X6_ordered_55 : DC mX6_ordered 55 (.iload 4) 2 57 := ⟨by decide +kernel, rfl⟩
theorem d_X6_ordered_57 : DC mX6_ordered 57 (.goto 4) 3 60 := ⟨by decide +kernel, rfl⟩
theorem d_X6_ordered_60 : DC mX6_ordered 60 (.iload_n 3) 1 61 := ⟨by decide +kernel, rfl⟩
theorem d_X6_ordered_61 : DC mX6_ordered 61 (.istore 4) 2 63 := ⟨by decide +kernel, rfl⟩
theorem d_X6_ordered_63 : DC mX6_ordered 63 (.iload_n 1) 1 64 := ⟨by decide +kernel, rfl⟩
theorem d_X6_ordered_64 : DC mX6_ordered 64 (.iload_n 2) 1 65 := ⟨by decide +kernel, rfl⟩
theorem d_X6_ordered_65 : DC mX6_ordered 65 (.if_icmp .le 7) 3 68 := ⟨by decide +kernel, rfl⟩
theorem d_X6_ordered_68 : DC mX6_ordered 68 (.iload_n 1) 1 69 := ⟨by decide +kernel, rfl⟩
theorem d_X6_ordered_69 : DC mX6_ordered 69 (.goto 4) 3 72 := ⟨by decide +kernel, rfl⟩
theorem d_X6_ordered_72 : DC mX6_ordered 72 (.iload_n 2) 1 73 := ⟨by decide +kernel, rfl⟩
theorem d_X6_ordered_73 : DC mX6_ordered 73 (.istore 5) 2 75 := ⟨by decide +kernel, rfl⟩
theorem d_X6_ordered_75 : DC mX6_ordered 75 (.iload 5) 2 77 := ⟨by decide +kernel, rfl⟩
theorem d_X6_ordered_77 : DC mX6_ordered 77 (.iload_n 3) 1 78 := ⟨by decide +kernel, rfl⟩
theorem d_X6_ordered_78 : DC mX6_ordered 78 (.if_icmp .le 8) 3 81 := ⟨by decide +kernel, rfl⟩
theorem d_X6_ordered_81 : DC mX6_ordered 81 (.iload 5) 2 83 := ⟨by decide +kernel, rfl⟩
theorem d_X6_ordered_83 : DC mX6_ordered 83 (.goto 4) 3 86 := ⟨by decide +kernel, rfl⟩
theorem d_X6_ordered_86 : DC mX6_ordered 86 (.iload_n 3) 1 87 := ⟨by decide +kernel, rfl⟩
theorem d_X6_ordered_87 : DC mX6_ordered 87 (.istore 5) 2 89 := ⟨by decide +kernel, rfl⟩
theorem d_X6_ordered_89 : DC mX6_ordered 89 (.iload 4) 2 91 := ⟨by decide +kernel, rfl⟩
theorem d_X6_ordered_91 : DC mX6_ordered 91 (.bipush 8) 2 93 := ⟨by decide +kernel, rfl⟩
theorem d_X6_ordered_93 : DC mX6_ordered 93 (.ishl) 1 94 := ⟨by decide +kernel, rfl⟩
theorem d_X6_ordered_94 : DC mX6_ordered 94 (.iload_n 1) 1 95 := ⟨by decide +kernel, rfl⟩
theorem d_X6_ordered_95 : DC mX6_ordered 95 (.iload_n 2) 1 96 := ⟨by decide +kernel, rfl⟩
theorem d_X6_ordered_96 : DC mX6_ordered 96 (.iadd) 1 97 := ⟨by decide +kernel, rfl⟩
theorem d_X6_ordered_97 : DC mX6_ordered 97 (.iload_n 3) 1 98 := ⟨by decide +kernel, rfl⟩
theorem d_X6_ordered_98 : DC mX6_ordered 98 (.iadd) 1 99 := ⟨by decide +kernel, rfl⟩
theorem d_X6_ordered_99 : DC mX6_ordered 99 (.iload 4) 2 101 := ⟨by decide +kernel, rfl⟩
theorem d_X6_ordered_101 : DC mX6_ordered 101 (.isub) 1 102 := ⟨by decide +kernel, rfl⟩
theorem d_X6_ordered_102 : DC mX6_ordered 102 (.iload 5) 2 104 := ⟨by decide +kernel, rfl⟩
theorem d_X6_ordered_104 : DC mX6_ordered 104 (.isub) 1 105 := ⟨by decide +kernel, rfl⟩
theorem d_X6_ordered_105 : DC mX6_ordered 105 (.iconst 4) 1 106 := ⟨by decide +kernel, rfl⟩
theorem d_X6_ordered_106 : DC mX6_ordered 106 (.ishl) 1 107 := ⟨by decide +kernel, rfl⟩
theorem d_X6_ordered_107 : DC mX6_ordered 107 (.ior) 1 108 := ⟨by decide +kernel, rfl⟩
theorem d_X6_ordered_108 : DC mX6_ordered 108 (.iload 5) 2 110 := ⟨by decide +kernel, rfl⟩
theorem d_X6_ordered_110 : DC mX6_ordered 110 (.ior) 1 111 := ⟨by decide +kernel, rfl⟩
theorem d_X6_ordered_111 : DC mX6_ordered 111 (.istore 6) 2 113 := ⟨by decide +kernel, rfl⟩
theorem d_X6_ordered_113 : DC mX6_ordered 113 (.iload_n 1) 1 114 := ⟨by decide +kernel, rfl⟩
theorem d_X6_ordered_114 : DC mX6_ordered 114 (.iload_n 2) 1 115 := ⟨by decide +kernel, rfl⟩
theorem d_X6_ordered_115 : DC mX6_ordered 115 (.if_icmp .le 7) 3 118 := ⟨by decide +kernel, rfl⟩
theorem d_X6_ordered_118 : DC mX6_ordered 118 (.iconst 1) 1 119 := ⟨by decide +kernel, rfl⟩
theorem d_X6_ordered_119 : DC mX6_ordered 119 (.goto 4) 3 122 := ⟨by decide +kernel, rfl⟩
theorem d_X6_ordered_122 : DC mX6_ordered 122 (.iconst 0) 1 123 := ⟨by decide +kernel, rfl⟩
theorem d_X6_ordered_123 : DC mX6_ordered 123 (.iload_n 1) 1 124 := ⟨by decide +kernel, rfl⟩
theorem d_X6_ordered_124 : DC mX6_ordered 124 (.iload_n 3) 1 125 := ⟨by decide +kernel, rfl⟩
theorem d_X6_ordered_125 : DC mX6_ordered 125 (.if_icmp .le 7) 3 128 := ⟨by decide +kernel, rfl⟩
theorem d_X6_ordered_128 : DC mX6_ordered 128 (.iconst 1) 1 129 := ⟨by decide +kernel, rfl⟩
theorem d_X6_ordered_129 : DC mX6_ordered 129 (.goto 4) 3 132 := ⟨by decide +kernel, rfl⟩
theorem d_X6_ordered_132 : DC mX6_ordered 132 (.iconst 0) 1 133 := ⟨by decide +kernel, rfl⟩
theorem d_X6_ordered_133 : DC mX6_ordered 133 (.iadd) 1 134 := ⟨by decide +kernel, rfl⟩
theorem d_X6_ordered_134 : DC mX6_ordered 134 (.iload_n 2) 1 135 := ⟨by decide +kernel, rfl⟩
theorem d_X6_ordered_135 : DC mX6_ordered 135 (.iload_n 3) 1 136 := ⟨by decide +kernel, rfl⟩
theorem d_X6_ordered_136 : DC mX6_ordered 136 (.if_icmp .le 7) 3 139 := ⟨by decide +kernel, rfl⟩
theorem d_X6_ordered_139 : DC mX6_ordered 139 (.iconst 1) 1 140 := ⟨by decide +kernel, rfl⟩
theorem d_X6_ordered_140 : DC mX6_ordered 140 (.goto 4) 3 143 := ⟨by decide +kernel, rfl⟩
theorem d_X6_ordered_143 : DC mX6_ordered 143 (.iconst 0) 1 144 := ⟨by decide +kernel, rfl⟩
theorem d_X6_ordered_144 : DC mX6_ordered 144 (.iadd) 1 145 := ⟨by decide +kernel, rfl⟩
theorem d_X6_ordered_145 : DC mX6_ordered 145 (.istore 7) 2 147 := ⟨by decide +kernel, rfl⟩
theorem d_X6_ordered_147 : DC mX6_ordered 147 (.iload 7) 2 149 := ⟨by decide +kernel, rfl⟩
theorem d_X6_ordered_149 : DC mX6_ordered 149 (.iconst 2) 1 150 := ⟨by decide +kernel, rfl⟩
theorem d_X6_ordered_150 : DC mX6_ordered 150 (.irem) 1 151 := ⟨by decide +kernel, rfl⟩
theorem d_X6_ordered_151 : DC mX6_ordered 151 (.ifCond .ne 8) 3 154 := ⟨by decide +kernel, rfl⟩
theorem d_X6_ordered_154 : DC mX6_ordered 154 (.iload 6) 2 156 := ⟨by decide +kernel, rfl⟩
theorem d_X6_ordered_156 : DC mX6_ordered 156 (.goto 6) 3 159 := ⟨by decide +kernel, rfl⟩
theorem d_X6_ordered_159 : DC mX6_ordered 159 (.iload 6) 2 161 := ⟨by decide +kernel, rfl⟩
theorem d_X6_ordered_161 : DC mX6_ordered 161 (.ineg) 1 162 := ⟨by decide +kernel, rfl⟩
theorem d_X6_ordered_162 : DC mX6_ordered 162 (.ireturn) 1 163 := ⟨by decide +kernel, rfl⟩
theorem d_X6_indexOf_0 : DC mX6_indexOf 0 (.iload_n 0) 1 1 := ⟨by decide +kernel, rfl⟩
theorem d_X6_indexOf_1 : DC mX6_indexOf 1 (.iconst 0) 1 2 := ⟨by decide +kernel, rfl⟩
theorem d_X6_indexOf_2 : DC mX6_indexOf 2 (.invokestatic 9) 3 5 := ⟨by decide +kernel, rfl⟩
theorem d_X6_indexOf_5 : DC mX6_indexOf 5 (.istore_n 1) 1 6 := ⟨by decide +kernel, rfl⟩
theorem d_X6_indexOf_6 : DC mX6_indexOf 6 (.iload_n 0) 1 7 := ⟨by decide +kernel, rfl⟩
theorem d_X6_indexOf_7 : DC mX6_indexOf 7 (.iconst 1) 1 8 := ⟨by decide +kernel, rfl⟩
theorem d_X6_indexOf_8 : DC mX6_indexOf 8 (.invokestatic 9) 3 11 := ⟨by decide +kernel, rfl⟩
theorem d_X6_indexOf_11 : DC mX6_indexOf 11 (.istore_n 2) 1 12 := ⟨by decide +kernel, rfl⟩
theorem d_X6_indexOf_12 : DC mX6_indexOf 12 (.iload_n 0) 1 13 := ⟨by decide +kernel, rfl⟩
theorem d_X6_indexOf_13 : DC mX6_indexOf 13 (.iconst 2) 1 14 := ⟨by decide +kernel, rfl⟩
theorem d_X6_indexOf_14 : DC mX6_indexOf 14 (.invokestatic 9) 3 17 := ⟨by decide +kernel, rfl⟩
theorem d_X6_indexOf_17 : DC mX6_indexOf 17 (.istore_n 3) 1 18 := ⟨by decide +kernel, rfl⟩
theorem d_X6_indexOf_18 : DC mX6_indexOf 18 (.iload_n 3) 1 19 := ⟨by decide +kernel, rfl⟩
theorem d_X6_indexOf_19 : DC mX6_indexOf 19 (.iload_n 3) 1 20 := ⟨by decide +kernel, rfl⟩
theorem d_X6_indexOf_20 : DC mX6_indexOf 20 (.iconst 1) 1 21 := ⟨by decide +kernel, rfl⟩
theorem d_X6_indexOf_21 : DC mX6_indexOf 21 (.isub) 1 22 := ⟨by decide +kernel, rfl⟩
theorem d_X6_indexOf_22 : DC mX6_indexOf 22 (.imul) 1 23 := ⟨by decide +kernel, rfl⟩
theorem d_X6_indexOf_23 : DC mX6_indexOf 23 (.iload_n 3) 1 24 := ⟨by decide +kernel, rfl⟩
theorem d_X6_indexOf_24 : DC mX6_indexOf 24 (.iconst 2) 1 25 := ⟨by decide +kernel, rfl⟩
theorem d_X6_indexOf_25 : DC mX6_indexOf 25 (.isub) 1 26 := ⟨by decide +kernel, rfl⟩
theorem d_X6_indexOf_26 : DC mX6_indexOf 26 (.imul) 1 27 := ⟨by decide +kernel, rfl⟩
theorem d_X6_indexOf_27 : DC mX6_indexOf 27 (.bipush 6) 2 29 := ⟨by decide +kernel, rfl⟩
theorem d_X6_indexOf_29 : DC mX6_indexOf 29 (.idiv) 1 30 := ⟨by decide +kernel, rfl⟩
theorem d_X6_indexOf_30 : DC mX6_indexOf 30 (.iload_n 2) 1 31 := ⟨by decide +kernel, rfl⟩
theorem d_X6_indexOf_31 : DC mX6_indexOf 31 (.iload_n 2) 1 32 := ⟨by decide +kernel, rfl⟩
theorem d_X6_indexOf_32 : DC mX6_indexOf 32 (.iconst 1) 1 33 := ⟨by decide +kernel, rfl⟩
theorem d_X6_indexOf_33 : DC mX6_indexOf 33 (.isub) 1 34 := ⟨by decide +kernel, rfl⟩
theorem d_X6_indexOf_34 : DC mX6_indexOf 34 (.imul) 1 35 := ⟨by decide +kernel, rfl⟩
theorem d_X6_indexOf_35 : DC mX6_indexOf 35 (.iconst 2) 1 36 := ⟨by decide +kernel, rfl⟩
theorem d_X6_indexOf_36 : DC mX6_indexOf 36 (.idiv) 1 37 := ⟨by decide +kernel, rfl⟩
theorem d_X6_indexOf_37 : DC mX6_indexOf 37 (.iadd) 1 38 := ⟨by decide +kernel, rfl⟩
theorem d_X6_indexOf_38 : DC mX6_indexOf 38 (.iload_n 1) 1 39 := ⟨by decide +kernel, rfl⟩
theorem d_X6_indexOf_39 : DC mX6_indexOf 39 (.iadd) 1 40 := ⟨by decide +kernel, rfl⟩
theorem d_X6_indexOf_40 : DC mX6_indexOf 40 (.ireturn) 1 41 := ⟨by decide +kernel, rfl⟩
theorem d_X6_bracketAt_0 : DC mX6_bracketAt 0 (.lload_n 0) 1 1 := ⟨by decide +kernel, rfl⟩
theorem d_X6_bracketAt_1 : DC mX6_bracketAt 1 (.bipush 12) 2 3 := ⟨by decide +kernel, rfl⟩
theorem d_X6_bracketAt_3 : DC mX6_bracketAt 3 (.iconst 3) 1 4 := ⟨by decide +kernel, rfl⟩
theorem d_X6_bracketAt_4 : DC mX6_bracketAt 4 (.iload_n 2) 1 5 := ⟨by decide +kernel, rfl⟩
theorem d_X6_bracketAt_5 : DC mX6_bracketAt 5 (.isub) 1 6 := ⟨by decide +kernel, rfl⟩
theorem d_X6_bracketAt_6 : DC mX6_bracketAt 6 (.imul) 1 7 := ⟨by decide +kernel, rfl⟩
theorem d_X6_bracketAt_7 : DC mX6_bracketAt 7 (.lushr) 1 8 := ⟨by decide +kernel, rfl⟩
theorem d_X6_bracketAt_8 : DC mX6_bracketAt 8 (.l2i) 1 9 := ⟨by decide +kernel, rfl⟩
theorem d_X6_bracketAt_9 : DC mX6_bracketAt 9 (.sipush 4095) 3 12 := ⟨by decide +kernel, rfl⟩
theorem d_X6_bracketAt_12 : DC mX6_bracketAt 12 (.iand) 1 13 := ⟨by decide +kernel, rfl⟩
theorem d_X6_bracketAt_13 : DC mX6_bracketAt 13 (.ireturn) 1 14 := ⟨by decide +kernel, rfl⟩
theorem d_X6_bracketsIn_0 : DC mX6_bracketsIn 0 (.iconst 0) 1 1 := ⟨by decide +kernel, rfl⟩
theorem d_X6_bracketsIn_1 : DC mX6_bracketsIn 1 (.istore_n 2) 1 2 := ⟨by decide +kernel, rfl⟩
theorem d_X6_bracketsIn_2 : DC mX6_bracketsIn 2 (.iload_n 2) 1 3 := ⟨by decide +kernel, rfl⟩
theorem d_X6_bracketsIn_3 : DC mX6_bracketsIn 3 (.iconst 4) 1 4 := ⟨by decide +kernel, rfl⟩
theorem d_X6_bracketsIn_4 : DC mX6_bracketsIn 4 (.if_icmp .ge 17) 3 7 := ⟨by decide +kernel, rfl⟩
theorem d_X6_bracketsIn_7 : DC mX6_bracketsIn 7 (.lload_n 0) 1 8 := ⟨by decide +kernel, rfl⟩
theorem d_X6_bracketsIn_8 : DC mX6_bracketsIn 8 (.iload_n 2) 1 9 := ⟨by decide +kernel, rfl⟩
theorem d_X6_bracketsIn_9 : DC mX6_bracketsIn 9 (.invokestatic 15) 3 12 := ⟨by decide +kernel, rfl⟩
theorem d_X6_bracketsIn_12 : DC mX6_bracketsIn 12 (.ifCond .eq 9) 3 15 := ⟨by decide +kernel, rfl⟩
theorem d_X6_bracketsIn_15 : DC mX6_bracketsIn 15 (.iinc 2 1) 3 18 := ⟨by decide +kernel, rfl⟩
theorem d_X6_bracketsIn_18 : DC mX6_bracketsIn 18 (.goto (-16)) 3 21 := ⟨by decide +kernel, rfl⟩
theorem d_X6_bracketsIn_21 : DC mX6_bracketsIn 21 (.iload_n 2) 1 22 := ⟨by decide +kernel, rfl⟩
theorem d_X6_bracketsIn_22 : DC mX6_bracketsIn 22 (.ireturn) 1 23 := ⟨by decide +kernel, rfl⟩
theorem d_X6_letterOfKey_0 : DC mX6_letterOfKey 0 (.lload_n 0) 1 1 := ⟨by decide +kernel, rfl⟩
theorem d_X6_letterOfKey_1 : DC mX6_letterOfKey 1 (.iload_n 2) 1 2 := ⟨by decide +kernel, rfl⟩
theorem d_X6_letterOfKey_2 : DC mX6_letterOfKey 2 (.iconst 3) 1 3 := ⟨by decide +kernel, rfl⟩
theorem d_X6_letterOfKey_3 : DC mX6_letterOfKey 3 (.idiv) 1 4 := ⟨by decide +kernel, rfl⟩
theorem d_X6_letterOfKey_4 : DC mX6_letterOfKey 4 (.invokestatic 15) 3 7 := ⟨by decide +kernel, rfl⟩
theorem d_X6_letterOfKey_7 : DC mX6_letterOfKey 7 (.istore_n 3) 1 8 := ⟨by decide +kernel, rfl⟩
theorem d_X6_letterOfKey_8 : DC mX6_letterOfKey 8 (.iload_n 3) 1 9 := ⟨by decide +kernel, rfl⟩
theorem d_X6_letterOfKey_9 : DC mX6_letterOfKey 9 (.ifCond .ne 7) 3 12 := ⟨by decide +kernel, rfl⟩
theorem d_X6_letterOfKey_12 : DC mX6_letterOfKey 12 (.iconst (-1)) 1 13 := ⟨by decide +kernel, rfl⟩
theorem d_X6_letterOfKey_13 : DC mX6_letterOfKey 13 (.goto 10) 3 16 := ⟨by decide +kernel, rfl⟩
theorem d_X6_letterOfKey_16 : DC mX6_letterOfKey 16 (.iload_n 3) 1 17 := ⟨by decide +kernel, rfl⟩
theorem d_X6_letterOfKey_17 : DC mX6_letterOfKey 17 (.iload_n 2) 1 18 := ⟨by decide +kernel, rfl⟩
theorem d_X6_letterOfKey_18 : DC mX6_letterOfKey 18 (.iconst 3) 1 19 := ⟨by decide +kernel, rfl⟩
theorem d_X6_letterOfKey_19 : DC mX6_letterOfKey 19 (.irem) 1 20 := ⟨by decide +kernel, rfl⟩
theorem d_X6_letterOfKey_20 : DC mX6_letterOfKey 20 (.invokestatic 9) 3 23 := ⟨by decide +kernel, rfl⟩
theorem d_X6_letterOfKey_23 : DC mX6_letterOfKey 23 (.ireturn) 1 24 := ⟨by decide +kernel, rfl⟩
theorem d_X6_timesOf_0 : DC mX6_timesOf 0 (.iconst 0) 1 1 := ⟨by decide +kernel, rfl⟩
theorem d_X6_timesOf_1 : DC mX6_timesOf 1 (.istore_n 3) 1 2 := ⟨by decide +kernel, rfl⟩
theorem d_X6_timesOf_2 : DC mX6_timesOf 2 (.iconst 0) 1 3 := ⟨by decide +kernel, rfl⟩
theorem d_X6_timesOf_3 : DC mX6_timesOf 3 (.istore 4) 2 5 := ⟨by decide +kernel, rfl⟩
theorem d_X6_timesOf_5 : DC mX6_timesOf 5 (.iload 4) 2 7 := ⟨by decide +kernel, rfl⟩
theorem d_X6_timesOf_7 : DC mX6_timesOf 7 (.bipush 12) 2 9 := ⟨by decide +kernel, rfl⟩
theorem d_X6_timesOf_9 : DC mX6_timesOf 9 (.if_icmp .ge 22) 3 12 := ⟨by decide +kernel, rfl⟩
theorem d_X6_timesOf_12 : DC mX6_timesOf 12 (.lload_n 0) 1 13 := ⟨by decide +kernel, rfl⟩
theorem d_X6_timesOf_13 : DC mX6_timesOf 13 (.iload 4) 2 15 := ⟨by decide +kernel, rfl⟩
theorem d_X6_timesOf_15 : DC mX6_timesOf 15 (.invokestatic 19) 3 18 := ⟨by decide +kernel, rfl⟩
theorem d_X6_timesOf_18 : DC mX6_timesOf 18 (.iload_n 2) 1 19 := ⟨by decide +kernel, rfl⟩
theorem d_X6_timesOf_19 : DC mX6_timesOf 19 (.if_icmp .ne 6) 3 22 := ⟨by decide +kernel, rfl⟩
theorem d_X6_timesOf_22 : DC mX6_timesOf 22 (.iinc 3 1) 3 25 := ⟨by decide +kernel, rfl⟩
theorem d_X6_timesOf_25 : DC mX6_timesOf 25 (.iinc 4 1) 3 28 := ⟨by decide +kernel, rfl⟩
theorem d_X6_timesOf_28 : DC mX6_timesOf 28 (.goto (-23)) 3 31 := ⟨by decide +kernel, rfl⟩
theorem d_X6_timesOf_31 : DC mX6_timesOf 31 (.iload_n 3) 1 32 := ⟨by decide +kernel, rfl⟩
theorem d_X6_timesOf_32 : DC mX6_timesOf 32 (.ireturn) 1 33 := ⟨by decide +kernel, rfl⟩
theorem d_X6_with_0 : DC mX6_with 0 (.bipush 36) 2 2 := ⟨by decide +kernel, rfl⟩
theorem d_X6_with_2 : DC mX6_with 2 (.istore_n 3) 1 3 := ⟨by decide +kernel, rfl⟩
theorem d_X6_with_3 : DC mX6_with 3 (.iload_n 3) 1 4 := ⟨by decide +kernel, rfl⟩
theorem d_X6_with_4 : DC mX6_with 4 (.ifCond .lt 58) 3 7 := ⟨by decide +kernel, rfl⟩
theorem d_X6_with_7 : DC mX6_with 7 (.lload_n 0) 1 8 := ⟨by decide +kernel, rfl⟩
theorem d_X6_with_8 : DC mX6_with 8 (.iload_n 3) 1 9 := ⟨by decide +kernel, rfl⟩
theorem d_X6_with_9 : DC mX6_with 9 (.lushr) 1 10 := ⟨by decide +kernel, rfl⟩
theorem d_X6_with_10 : DC mX6_with 10 (.l2i) 1 11 := ⟨by decide +kernel, rfl⟩
theorem d_X6_with_11 : DC mX6_with 11 (.sipush 4095) 3 14 := ⟨by decide +kernel, rfl⟩
theorem d_X6_with_14 : DC mX6_with 14 (.iand) 1 15 := ⟨by decide +kernel, rfl⟩
theorem d_X6_with_15 : DC mX6_with 15 (.istore 4) 2 17 := ⟨by decide +kernel, rfl⟩
theorem d_X6_with_17 : DC mX6_with 17 (.iload 4) 2 19 := ⟨by decide +kernel, rfl⟩
theorem d_X6_with_19 : DC mX6_with 19 (.ifCond .eq 9) 3 22 := ⟨by decide +kernel, rfl⟩
theorem d_X6_with_22 : DC mX6_with 22 (.iload 4) 2 24 := ⟨by decide +kernel, rfl⟩
theorem d_X6_with_24 : DC mX6_with 24 (.iload_n 2) 1 25 := ⟨by decide +kernel, rfl⟩
theorem d_X6_with_25 : DC mX6_with 25 (.if_icmp .le 31) 3 28 := ⟨by decide +kernel, rfl⟩
theorem d_X6_with_28 : DC mX6_with 28 (.lload_n 0) 1 29 := ⟨by decide +kernel, rfl⟩
theorem d_X6_with_29 : DC mX6_with 29 (.lconst 1) 1 30 := ⟨by decide +kernel, rfl⟩
theorem d_X6_with_30 : DC mX6_with 30 (.iload_n 3) 1 31 := ⟨by decide +kernel, rfl⟩
theorem d_X6_with_31 : DC mX6_with 31 (.bipush 12) 2 33 := ⟨by decide +kernel, rfl⟩
theorem d_X6_with_33 : DC mX6_with 33 (.iadd) 1 34 := ⟨by decide +kernel, rfl⟩
theorem d_X6_with_34 : DC mX6_with 34 (.lshl) 1 35 := ⟨by decide +kernel, rfl⟩
theorem d_X6_with_35 : DC mX6_with 35 (.lconst 1) 1 36 := ⟨by decide +kernel, rfl⟩
theorem d_X6_with_36 : DC mX6_with 36 (.lsub) 1 37 := ⟨by decide +kernel, rfl⟩
theorem d_X6_with_37 : DC mX6_with 37 (.land) 1 38 := ⟨by decide +kernel, rfl⟩
theorem d_X6_with_38 : DC mX6_with 38 (.lstore 5) 2 40 := ⟨by decide +kernel, rfl⟩
theorem d_X6_with_40 : DC mX6_with 40 (.lload_n 0) 1 41 := ⟨by decide +kernel, rfl⟩
theorem d_X6_with_41 : DC mX6_with 41 (.lload 5) 2 43 := ⟨by decide +kernel, rfl⟩
theorem d_X6_with_43 : DC mX6_with 43 (.lsub) 1 44 := ⟨by decide +kernel, rfl⟩
theorem d_X6_with_44 : DC mX6_with 44 (.iload_n 2) 1 45 := ⟨by decide +kernel, rfl⟩
theorem d_X6_with_45 : DC mX6_with 45 (.i2l) 1 46 := ⟨by decide +kernel, rfl⟩
theorem d_X6_with_46 : DC mX6_with 46 (.iload_n 3) 1 47 := ⟨by decide +kernel, rfl⟩
theorem d_X6_with_47 : DC mX6_with 47 (.lshl) 1 48 := ⟨by decide +kernel, rfl⟩
theorem d_X6_with_48 : DC mX6_with 48 (.lor) 1 49 := ⟨by decide +kernel, rfl⟩
theorem d_X6_with_49 : DC mX6_with 49 (.lload 5) 2 51 := ⟨by decide +kernel, rfl⟩
theorem d_X6_with_51 : DC mX6_with 51 (.bipush 12) 2 53 := ⟨by decide +kernel, rfl⟩
theorem d_X6_with_53 : DC mX6_with 53 (.lushr) 1 54 := ⟨by decide +kernel, rfl⟩
theorem d_X6_with_54 : DC mX6_with 54 (.lor) 1 55 := ⟨by decide +kernel, rfl⟩
theorem d_X6_with_55 : DC mX6_with 55 (.lreturn) 1 56 := ⟨by decide +kernel, rfl⟩
theorem d_X6_with_56 : DC mX6_with 56 (.iinc 3 (-12)) 3 59 := ⟨by decide +kernel, rfl⟩
theorem d_X6_with_59 : DC mX6_with 59 (.goto (-56)) 3 62 := ⟨by decide +kernel, rfl⟩
theorem d_X6_with_62 : DC mX6_with 62 (.lload_n 0) 1 63 := ⟨by decide +kernel, rfl⟩
theorem d_X6_with_63 : DC mX6_with 63 (.lreturn) 1 64 := ⟨by decide +kernel, rfl⟩
theorem d_X6_withoutTwo_0 : DC mX6_withoutTwo 0 (.lconst 0) 1 1 := ⟨by decide +kernel, rfl⟩
theorem d_X6_withoutTwo_1 : DC mX6_withoutTwo 1 (.lstore_n 3) 1 2 := ⟨by decide +kernel, rfl⟩
theorem d_X6_withoutTwo_2 : DC mX6_withoutTwo 2 (.iconst 0) 1 3 := ⟨by decide +kernel, rfl⟩
theorem d_X6_withoutTwo_3 : DC mX6_withoutTwo 3 (.istore 5) 2 5 := ⟨by decide +kernel, rfl⟩
theorem d_X6_withoutTwo_5 : DC mX6_withoutTwo 5 (.iload 5) 2 7 := ⟨by decide +kernel, rfl⟩
theorem d_X6_withoutTwo_7 : DC mX6_withoutTwo 7 (.iconst 4) 1 8 := ⟨by decide +kernel, rfl⟩
theorem d_X6_withoutTwo_8 : DC mX6_withoutTwo 8 (.if_icmp .ge 43) 3 11 := ⟨by decide +kernel, rfl⟩
theorem d_X6_withoutTwo_11 : DC mX6_withoutTwo 11 (.lload_n 0) 1 12 := ⟨by decide +kernel, rfl⟩
theorem d_X6_withoutTwo_12 : DC mX6_withoutTwo 12 (.iload 5) 2 14 := ⟨by decide +kernel, rfl⟩
theorem d_X6_withoutTwo_14 : DC mX6_withoutTwo 14 (.invokestatic 15) 3 17 := ⟨by decide +kernel, rfl⟩
theorem d_X6_withoutTwo_17 : DC mX6_withoutTwo 17 (.istore 6) 2 19 := ⟨by decide +kernel, rfl⟩
theorem d_X6_withoutTwo_19 : DC mX6_withoutTwo 19 (.iload 5) 2 21 := ⟨by decide +kernel, rfl⟩
theorem d_X6_withoutTwo_21 : DC mX6_withoutTwo 21 (.iload_n 2) 1 22 := ⟨by decide +kernel, rfl⟩
theorem d_X6_withoutTwo_22 : DC mX6_withoutTwo 22 (.if_icmp .eq 23) 3 25 := ⟨by decide +kernel, rfl⟩
theorem d_X6_withoutTwo_25 : DC mX6_withoutTwo 25 (.iload 5) 2 27 := ⟨by decide +kernel, rfl⟩
theorem d_X6_withoutTwo_27 : DC mX6_withoutTwo 27 (.iload_n 2) 1 28 := ⟨by decide +kernel, rfl⟩
theorem d_X6_withoutTwo_28 : DC mX6_withoutTwo 28 (.iconst 1) 1 29 := ⟨by decide +kernel, rfl⟩
theorem d_X6_withoutTwo_29 : DC mX6_withoutTwo 29 (.iadd) 1 30 := ⟨by decide +kernel, rfl⟩
theorem d_X6_withoutTwo_30 : DC mX6_withoutTwo 30 (.if_icmp .eq 15) 3 33 := ⟨by decide +kernel, rfl⟩
theorem d_X6_withoutTwo_33 : DC mX6_withoutTwo 33 (.iload 6) 2 35 := ⟨by decide +kernel, rfl⟩
theorem d_X6_withoutTwo_35 : DC mX6_withoutTwo 35 (.ifCond .eq 10) 3 38 := ⟨by decide +kernel, rfl⟩
theorem d_X6_withoutTwo_38 : DC mX6_withoutTwo 38 (.lload_n 3) 1 39 := ⟨by decide +kernel, rfl⟩
theorem d_X6_withoutTwo_39 : DC mX6_withoutTwo 39 (.iload 6) 2 41 := ⟨by decide +kernel, rfl⟩
theorem d_X6_withoutTwo_41 : DC mX6_withoutTwo 41 (.invokestatic 22) 3 44 := ⟨by decide +kernel, rfl⟩
theorem d_X6_withoutTwo_44 : DC mX6_withoutTwo 44 (.lstore_n 3) 1 45 := ⟨by decide +kernel, rfl⟩
theorem d_X6_withoutTwo_45 : DC mX6_withoutTwo 45 (.iinc 5 1) 3 48 := ⟨by decide +kernel, rfl⟩
theorem d_X6_withoutTwo_48 : DC mX6_withoutTwo 48 (.goto (-43)) 3 51 := ⟨by decide +kernel, rfl⟩
theorem d_X6_withoutTwo_51 : DC mX6_withoutTwo 51 (.lload_n 3) 1 52 := ⟨by decide +kernel, rfl⟩
theorem d_X6_withoutTwo_52 : DC mX6_withoutTwo 52 (.lreturn) 1 53 := ⟨by decide +kernel, rfl⟩
theorem d_X6_joined_0 : DC mX6_joined 0 (.lload_n 0) 1 1 := ⟨by decide +kernel, rfl⟩
theorem d_X6_joined_1 : DC mX6_joined 1 (.lstore 4) 2 3 := ⟨by decide +kernel, rfl⟩
theorem d_X6_joined_3 : DC mX6_joined 3 (.iconst 0) 1 4 := ⟨by decide +kernel, rfl⟩
theorem d_X6_joined_4 : DC mX6_joined 4 (.istore 6) 2 6 := ⟨by decide +kernel, rfl⟩
theorem d_X6_joined_6 : DC mX6_joined 6 (.iload 6) 2 8 := ⟨by decide +kernel, rfl⟩
theorem d_X6_joined_8 : DC mX6_joined 8 (.iconst 4) 1 9 := ⟨by decide +kernel, rfl⟩
theorem d_X6_joined_9 : DC mX6_joined 9 (.if_icmp .ge 31) 3 12 := ⟨by decide +kernel, rfl⟩
theorem d_X6_joined_12 : DC mX6_joined 12 (.lload_n 2) 1 13 := ⟨by decide +kernel, rfl⟩
theorem d_X6_joined_13 : DC mX6_joined 13 (.iload 6) 2 15 := ⟨by decide +kernel, rfl⟩
theorem d_X6_joined_15 : DC mX6_joined 15 (.invokestatic 15) 3 18 := ⟨by decide +kernel, rfl⟩
theorem d_X6_joined_18 : DC mX6_joined 18 (.istore 7) 2 20 := ⟨by decide +kernel, rfl⟩
theorem d_X6_joined_20 : DC mX6_joined 20 (.iload 7) 2 22 := ⟨by decide +kernel, rfl⟩
theorem d_X6_joined_22 : DC mX6_joined 22 (.ifCond .eq 12) 3 25 := ⟨by decide +kernel, rfl⟩
theorem d_X6_joined_25 : DC mX6_joined 25 (.lload 4) 2 27 := ⟨by decide +kernel, rfl⟩
theorem d_X6_joined_27 : DC mX6_joined 27 (.iload 7) 2 29 := ⟨by decide +kernel, rfl⟩
theorem d_X6_joined_29 : DC mX6_joined 29 (.invokestatic 22) 3 32 := ⟨by decide +kernel, rfl⟩
theorem d_X6_joined_32 : DC mX6_joined 32 (.lstore 4) 2 34 := ⟨by decide +kernel, rfl⟩
theorem d_X6_joined_34 : DC mX6_joined 34 (.iinc 6 1) 3 37 := ⟨by decide +kernel, rfl⟩
theorem d_X6_joined_37 : DC mX6_joined 37 (.goto (-31)) 3 40 := ⟨by decide +kernel, rfl⟩
theorem d_X6_joined_40 : DC mX6_joined 40 (.lload 4) 2 42 := ⟨by decide +kernel, rfl⟩
theorem d_X6_joined_42 : DC mX6_joined 42 (.lreturn) 1 43 := ⟨by decide +kernel, rfl⟩
theorem d_X6_breakOf_0 : DC mX6_breakOf 0 (.iconst 0) 1 1 := ⟨by decide +kernel, rfl⟩
theorem d_X6_breakOf_1 : DC mX6_breakOf 1 (.istore_n 2) 1 2 := ⟨by decide +kernel, rfl⟩
theorem d_X6_breakOf_2 : DC mX6_breakOf 2 (.iload_n 2) 1 3 := ⟨by decide +kernel, rfl⟩
theorem d_X6_breakOf_3 : DC mX6_breakOf 3 (.iconst 1) 1 4 := ⟨by decide +kernel, rfl⟩
theorem d_X6_breakOf_4 : DC mX6_breakOf 4 (.iadd) 1 5 := ⟨by decide +kernel, rfl⟩
theorem d_X6_breakOf_5 : DC mX6_breakOf 5 (.iconst 4) 1 6 := ⟨by decide +kernel, rfl⟩
theorem d_X6_breakOf_6 : DC mX6_breakOf 6 (.if_icmp .ge 46) 3 9 := ⟨by decide +kernel, rfl⟩
theorem d_X6_breakOf_9 : DC mX6_breakOf 9 (.lload_n 0) 1 10 := ⟨by decide +kernel, rfl⟩
theorem d_X6_breakOf_10 : DC mX6_breakOf 10 (.iload_n 2) 1 11 := ⟨by decide +kernel, rfl⟩
theorem d_X6_breakOf_11 : DC mX6_breakOf 11 (.iconst 1) 1 12 := ⟨by decide +kernel, rfl⟩
theorem d_X6_breakOf_12 : DC mX6_breakOf 12 (.iadd) 1 13 := ⟨by decide +kernel, rfl⟩
theorem d_X6_breakOf_13 : DC mX6_breakOf 13 (.invokestatic 15) 3 16 := ⟨by decide +kernel, rfl⟩
theorem d_X6_breakOf_16 : DC mX6_breakOf 16 (.istore_n 3) 1 17 := ⟨by decide +kernel, rfl⟩
theorem d_X6_breakOf_17 : DC mX6_breakOf 17 (.iload_n 3) 1 18 := ⟨by decide +kernel, rfl⟩
theorem d_X6_breakOf_18 : DC mX6_breakOf 18 (.ifCond .ne 5) 3 21 := ⟨by decide +kernel, rfl⟩
theorem d_X6_breakOf_21 : DC mX6_breakOf 21 (.iconst 0) 1 22 := ⟨by decide +kernel, rfl⟩
theorem d_X6_breakOf_22 : DC mX6_breakOf 22 (.ireturn) 1 23 := ⟨by decide +kernel, rfl⟩
theorem d_X6_breakOf_23 : DC mX6_breakOf 23 (.lload_n 0) 1 24 := ⟨by decide +kernel, rfl⟩
theorem d_X6_breakOf_24 : DC mX6_breakOf 24 (.iload_n 2) 1 25 := ⟨by decide +kernel, rfl⟩
theorem d_X6_breakOf_25 : DC mX6_breakOf 25 (.invokestatic 15) 3 28 := ⟨by decide +kernel, rfl⟩
theorem d_X6_breakOf_28 : DC mX6_breakOf 28 (.iload_n 3) 1 29 := ⟨by decide +kernel, rfl⟩
theorem d_X6_breakOf_29 : DC mX6_breakOf 29 (.invokestatic 26) 3 32 := ⟨by decide +kernel, rfl⟩
theorem d_X6_breakOf_32 : DC mX6_breakOf 32 (.istore 4) 2 34 := ⟨by decide +kernel, rfl⟩
theorem d_X6_breakOf_34 : DC mX6_breakOf 34 (.iload 4) 2 36 := ⟨by decide +kernel, rfl⟩
theorem d_X6_breakOf_36 : DC mX6_breakOf 36 (.ifCond .eq 10) 3 39 := ⟨by decide +kernel, rfl⟩
theorem d_X6_breakOf_39 : DC mX6_breakOf 39 (.iconst 4) 1 40 := ⟨by decide +kernel, rfl⟩
theorem d_X6_breakOf_40 : DC mX6_breakOf 40 (.iload_n 2) 1 41 := ⟨by decide +kernel, rfl⟩
theorem d_X6_breakOf_41 : DC mX6_breakOf 41 (.imul) 1 42 := ⟨by decide +kernel, rfl⟩
theorem d_X6_breakOf_42 : DC mX6_breakOf 42 (.iload 4) 2 44 := ⟨by decide +kernel, rfl⟩
theorem d_X6_breakOf_44 : DC mX6_breakOf 44 (.iadd) 1 45 := ⟨by decide +kernel, rfl⟩
theorem d_X6_breakOf_45 : DC mX6_breakOf 45 (.ireturn) 1 46 := ⟨by decide +kernel, rfl⟩
theorem d_X6_breakOf_46 : DC mX6_breakOf 46 (.iinc 2 1) 3 49 := ⟨by decide +kernel, rfl⟩
theorem d_X6_breakOf_49 : DC mX6_breakOf 49 (.goto (-47)) 3 52 := ⟨by decide +kernel, rfl⟩
theorem d_X6_breakOf_52 : DC mX6_breakOf 52 (.iconst 0) 1 53 := ⟨by decide +kernel, rfl⟩
theorem d_X6_breakOf_53 : DC mX6_breakOf 53 (.ireturn) 1 54 := ⟨by decide +kernel, rfl⟩
theorem d_X6_bracketOfBreak_0 : DC mX6_bracketOfBreak 0 (.iload_n 0) 1 1 := ⟨by decide +kernel, rfl⟩
theorem d_X6_bracketOfBreak_1 : DC mX6_bracketOfBreak 1 (.iconst 4) 1 2 := ⟨by decide +kernel, rfl⟩
theorem d_X6_bracketOfBreak_2 : DC mX6_bracketOfBreak 2 (.idiv) 1 3 := ⟨by decide +kernel, rfl⟩
theorem d_X6_bracketOfBreak_3 : DC mX6_bracketOfBreak 3 (.ireturn) 1 4 := ⟨by decide +kernel, rfl⟩
theorem d_X6_placeOfBreak_0 : DC mX6_placeOfBreak 0 (.iload_n 0) 1 1 := ⟨by decide +kernel, rfl⟩
theorem d_X6_placeOfBreak_1 : DC mX6_placeOfBreak 1 (.iconst 4) 1 2 := ⟨by decide +kernel, rfl⟩
theorem d_X6_placeOfBreak_2 : DC mX6_placeOfBreak 2 (.irem) 1 3 := ⟨by decide +kernel, rfl⟩
theorem d_X6_placeOfBreak_3 : DC mX6_placeOfBreak 3 (.ireturn) 1 4 := ⟨by decide +kernel, rfl⟩
theorem d_X6_breakBetween_0 : DC mX6_breakBetween 0 (.iconst 1) 1 1 := ⟨by decide +kernel, rfl⟩
theorem d_X6_breakBetween_1 : DC mX6_breakBetween 1 (.istore_n 2) 1 2 := ⟨by decide +kernel, rfl⟩
theorem d_X6_breakBetween_2 : DC mX6_breakBetween 2 (.iload_n 2) 1 3 := ⟨by decide +kernel, rfl⟩
theorem d_X6_breakBetween_3 : DC mX6_breakBetween 3 (.iconst 3) 1 4 := ⟨by decide +kernel, rfl⟩
theorem d_X6_breakBetween_4 : DC mX6_breakBetween 4 (.if_icmp .gt 28) 3 7 := ⟨by decide +kernel, rfl⟩
theorem d_X6_breakBetween_7 : DC mX6_breakBetween 7 (.iload_n 0) 1 8 := ⟨by decide +kernel, rfl⟩
theorem d_X6_breakBetween_8 : DC mX6_breakBetween 8 (.iload_n 2) 1 9 := ⟨by decide +kernel, rfl⟩
theorem d_X6_breakBetween_9 : DC mX6_breakBetween 9 (.iconst 1) 1 10 := ⟨by decide +kernel, rfl⟩
theorem d_X6_breakBetween_10 : DC mX6_breakBetween 10 (.isub) 1 11 := ⟨by decide +kernel, rfl⟩
theorem d_X6_breakBetween_11 : DC mX6_breakBetween 11 (.invokestatic 9) 3 14 := ⟨by decide +kernel, rfl⟩
theorem d_X6_breakBetween_14 : DC mX6_breakBetween 14 (.iload_n 1) 1 15 := ⟨by decide +kernel, rfl⟩
theorem d_X6_breakBetween_15 : DC mX6_breakBetween 15 (.iload_n 2) 1 16 := ⟨by decide +kernel, rfl⟩
theorem d_X6_breakBetween_16 : DC mX6_breakBetween 16 (.iconst 1) 1 17 := ⟨by decide +kernel, rfl⟩
theorem d_X6_breakBetween_17 : DC mX6_breakBetween 17 (.isub) 1 18 := ⟨by decide +kernel, rfl⟩
theorem d_X6_breakBetween_18 : DC mX6_breakBetween 18 (.invokestatic 9) 3 21 := ⟨by decide +kernel, rfl⟩
theorem d_X6_breakBetween_21 : DC mX6_breakBetween 21 (.if_icmp .le 5) 3 24 := ⟨by decide +kernel, rfl⟩
theorem d_X6_breakBetween_24 : DC mX6_breakBetween 24 (.iload_n 2) 1 25 := ⟨by decide +kernel, rfl⟩
theorem d_X6_breakBetween_25 : DC mX6_breakBetween 25 (.ireturn) 1 26 := ⟨by decide +kernel, rfl⟩
theorem d_X6_breakBetween_26 : DC mX6_breakBetween 26 (.iinc 2 1) 3 29 := ⟨by decide +kernel, rfl⟩
theorem d_X6_breakBetween_29 : DC mX6_breakBetween 29 (.goto (-27)) 3 32 := ⟨by decide +kernel, rfl⟩
theorem d_X6_breakBetween_32 : DC mX6_breakBetween 32 (.iconst 0) 1 33 := ⟨by decide +kernel, rfl⟩
theorem d_X6_breakBetween_33 : DC mX6_breakBetween 33 (.ireturn) 1 34 := ⟨by decide +kernel, rfl⟩
theorem d_X10_begin_0 : DC mX10_begin 0 (.aload_n 0) 1 1 := ⟨by decide +kernel, rfl⟩
theorem d_X10_begin_1 : DC mX10_begin 1 (.lload_n 1) 1 2 := ⟨by decide +kernel, rfl⟩
theorem d_X10_begin_2 : DC mX10_begin 2 (.putfield 7) 3 5 := ⟨by decide +kernel, rfl⟩
theorem d_X10_begin_5 : DC mX10_begin 5 (.aload_n 0) 1 6 := ⟨by decide +kernel, rfl⟩
theorem d_X10_begin_6 : DC mX10_begin 6 (.iconst 1) 1 7 := ⟨by decide +kernel, rfl⟩
theorem d_X10_begin_7 : DC mX10_begin 7 (.putfield 13) 3 10 := ⟨by decide +kernel, rfl⟩
theorem d_X10_begin_10 : DC mX10_begin 10 (.return_) 1 11 := ⟨by decide +kernel, rfl⟩
theorem d_X10_attach_0 : DC mX10_attach 0 (.iload_n 1) 1 1 := ⟨by decide +kernel, rfl⟩
theorem d_X10_attach_1 : DC mX10_attach 1 (.invokestatic 17) 3 4 := ⟨by decide +kernel, rfl⟩
theorem d_X10_attach_4 : DC mX10_attach 4 (.istore_n 2) 1 5 := ⟨by decide +kernel, rfl⟩
theorem d_X10_attach_5 : DC mX10_attach 5 (.iload_n 2) 1 6 := ⟨by decide +kernel, rfl⟩
theorem d_X10_attach_6 : DC mX10_attach 6 (.ifCond .ne 11) 3 9 := ⟨by decide +kernel, rfl⟩
theorem d_X10_attach_9 : DC mX10_attach 9 (.aload_n 0) 1 10 := ⟨by decide +kernel, rfl⟩
theorem d_X10_attach_10 : DC mX10_attach 10 (.iconst 0) 1 11 := ⟨by decide +kernel, rfl⟩
theorem d_X10_attach_11 : DC mX10_attach 11 (.putfield 13) 3 14 := ⟨by decide +kernel, rfl⟩
theorem d_X10_attach_14 : DC mX10_attach 14 (.goto 38) 3 17 := ⟨by decide +kernel, rfl⟩
theorem d_X10_attach_17 : DC mX10_attach 17 (.aload_n 0) 1 18 := ⟨by decide +kernel, rfl⟩
theorem d_X10_attach_18 : DC mX10_attach 18 (.aload_n 0) 1 19 := ⟨by decide +kernel, rfl⟩
theorem d_X10_attach_19 : DC mX10_attach 19 (.getfield 7) 3 22 := ⟨by decide +kernel, rfl⟩
theorem d_X10_attach_22 : DC mX10_attach 22 (.iload_n 2) 1 23 := ⟨by decide +kernel, rfl⟩
theorem d_X10_attach_23 : DC mX10_attach 23 (.invokestatic 23) 3 26 := ⟨by decide +kernel, rfl⟩
theorem d_X10_attach_26 : DC mX10_attach 26 (.invokestatic 28) 3 29 := ⟨by decide +kernel, rfl⟩
theorem d_X10_attach_29 : DC mX10_attach 29 (.putfield 7) 3 32 := ⟨by decide +kernel, rfl⟩
theorem d_X10_attach_32 : DC mX10_attach 32 (.aload_n 0) 1 33 := ⟨by decide +kernel, rfl⟩
theorem d_X10_attach_33 : DC mX10_attach 33 (.iload_n 2) 1 34 := ⟨by decide +kernel, rfl⟩
theorem d_X10_attach_34 : DC mX10_attach 34 (.ifCond .ge 11) 3 37 := ⟨by decide +kernel, rfl⟩
theorem d_X10_attach_37 : DC mX10_attach 37 (.aload_n 0) 1 38 := ⟨by decide +kernel, rfl⟩
theorem d_X10_attach_38 : DC mX10_attach 38 (.getfield 13) 3 41 := ⟨by decide +kernel, rfl⟩
theorem d_X10_attach_41 : DC mX10_attach 41 (.ineg) 1 42 := ⟨by decide +kernel, rfl⟩
theorem d_X10_attach_42 : DC mX10_attach 42 (.goto 7) 3 45 := ⟨by decide +kernel, rfl⟩
theorem d_X10_attach_45 : DC mX10_attach 45 (.aload_n 0) 1 46 := ⟨by decide +kernel, rfl⟩
theorem d_X10_attach_46 : DC mX10_attach 46 (.getfield 13) 3 49 := ⟨by decide +kernel, rfl⟩
theorem d_X10_attach_49 : DC mX10_attach 49 (.putfield 13) 3 52 := ⟨by decide +kernel, rfl⟩
theorem d_X10_attach_52 : DC mX10_attach 52 (.return_) 1 53 := ⟨by decide +kernel, rfl⟩
theorem d_X10_rename_0 : DC mX10_rename 0 (.aload_n 0) 1 1 := ⟨by decide +kernel, rfl⟩
theorem d_X10_rename_1 : DC mX10_rename 1 (.lconst 0) 1 2 := ⟨by decide +kernel, rfl⟩
theorem d_X10_rename_2 : DC mX10_rename 2 (.invokevirtual 32) 3 5 := ⟨by decide +kernel, rfl⟩
theorem d_X10_rename_5 : DC mX10_rename 5 (.lload_n 1) 1 6 := ⟨by decide +kernel, rfl⟩
theorem d_X10_rename_6 : DC mX10_rename 6 (.invokestatic 36) 3 9 := ⟨by decide +kernel, rfl⟩
theorem d_X10_rename_9 : DC mX10_rename 9 (.istore 6) 2 11 := ⟨by decide +kernel, rfl⟩
theorem d_X10_rename_11 : DC mX10_rename 11 (.iconst 0) 1 12 := ⟨by decide +kernel, rfl⟩
theorem d_X10_rename_12 : DC mX10_rename 12 (.istore 7) 2 14 := ⟨by decide +kernel, rfl⟩
theorem d_X10_rename_14 : DC mX10_rename 14 (.iload 7) 2 16 := ⟨by decide +kernel, rfl⟩
theorem d_X10_rename_16 : DC mX10_rename 16 (.iload 6) 2 18 := ⟨by decide +kernel, rfl⟩
theorem d_X10_rename_18 : DC mX10_rename 18 (.if_icmp .ge 63) 3 21 := ⟨by decide +kernel, rfl⟩
theorem d_X10_rename_21 : DC mX10_rename 21 (.iconst 0) 1 22 := ⟨by decide +kernel, rfl⟩
theorem d_X10_rename_22 : DC mX10_rename 22 (.istore 8) 2 24 := ⟨by decide +kernel, rfl⟩
theorem d_X10_rename_24 : DC mX10_rename 24 (.iconst 0) 1 25 := ⟨by decide +kernel, rfl⟩
theorem d_X10_rename_25 : DC mX10_rename 25 (.istore 9) 2 27 := ⟨by decide +kernel, rfl⟩
theorem d_X10_rename_27 : DC mX10_rename 27 (.iload 9) 2 29 := ⟨by decide +kernel, rfl⟩
theorem d_X10_rename_29 : DC mX10_rename 29 (.iconst 3) 1 30 := ⟨by decide +kernel, rfl⟩
theorem d_X10_rename_30 : DC mX10_rename 30 (.if_icmp .ge 39) 3 33 := ⟨by decide +kernel, rfl⟩
theorem d_X10_rename_33 : DC mX10_rename 33 (.lload_n 1) 1 34 := ⟨by decide +kernel, rfl⟩
theorem d_X10_rename_34 : DC mX10_rename 34 (.iload 7) 2 36 := ⟨by decide +kernel, rfl⟩
theorem d_X10_rename_36 : DC mX10_rename 36 (.invokestatic 40) 3 39 := ⟨by decide +kernel, rfl⟩
theorem d_X10_rename_39 : DC mX10_rename 39 (.iload 9) 2 41 := ⟨by decide +kernel, rfl⟩
theorem d_X10_rename_41 : DC mX10_rename 41 (.invokestatic 44) 3 44 := ⟨by decide +kernel, rfl⟩
theorem d_X10_rename_44 : DC mX10_rename 44 (.istore 10) 2 46 := ⟨by decide +kernel, rfl⟩
theorem d_X10_rename_46 : DC mX10_rename 46 (.iload 8) 2 48 := ⟨by decide +kernel, rfl⟩
theorem d_X10_rename_48 : DC mX10_rename 48 (.iconst 4) 1 49 := ⟨by decide +kernel, rfl⟩
theorem d_X10_rename_49 : DC mX10_rename 49 (.ishl) 1 50 := ⟨by decide +kernel, rfl⟩
theorem d_X10_rename_50 : DC mX10_rename 50 (.iload 10) 2 52 := ⟨by decide +kernel, rfl⟩
theorem d_X10_rename_52 : DC mX10_rename 52 (.iload_n 3) 1 53 := ⟨by decide +kernel, rfl⟩
theorem d_X10_rename_53 : DC mX10_rename 53 (.iload 4) 2 55 := ⟨by decide +kernel, rfl⟩
theorem d_X10_rename_55 : DC mX10_rename 55 (.iload 5) 2 57 := ⟨by decide +kernel, rfl⟩
theorem d_X10_rename_57 : DC mX10_rename 57 (.invokestatic 48) 3 60 := ⟨by decide +kernel, rfl⟩
theorem d_X10_rename_60 : DC mX10_rename 60 (.ior) 1 61 := ⟨by decide +kernel, rfl⟩
theorem d_X10_rename_61 : DC mX10_rename 61 (.istore 8) 2 63 := ⟨by decide +kernel, rfl⟩
theorem d_X10_rename_63 : DC mX10_rename 63 (.iinc 9 1) 3 66 := ⟨by decide +kernel, rfl⟩
theorem d_X10_rename_66 : DC mX10_rename 66 (.goto (-39)) 3 69 := ⟨by decide +kernel, rfl⟩
theorem d_X10_rename_69 : DC mX10_rename 69 (.aload_n 0) 1 70 := ⟨by decide +kernel, rfl⟩
theorem d_X10_rename_70 : DC mX10_rename 70 (.iload 8) 2 72 := ⟨by decide +kernel, rfl⟩
theorem d_X10_rename_72 : DC mX10_rename 72 (.invokevirtual 52) 3 75 := ⟨by decide +kernel, rfl⟩
theorem d_X10_rename_75 : DC mX10_rename 75 (.iinc 7 1) 3 78 := ⟨by decide +kernel, rfl⟩
theorem d_X10_rename_78 : DC mX10_rename 78 (.goto (-64)) 3 81 := ⟨by decide +kernel, rfl⟩
theorem d_X10_rename_81 : DC mX10_rename 81 (.return_) 1 82 := ⟨by decide +kernel, rfl⟩
theorem d_X10_renamed_0 : DC mX10_renamed 0 (.iload_n 0) 1 1 := ⟨by decide +kernel, rfl⟩
theorem d_X10_renamed_1 : DC mX10_renamed 1 (.iload_n 1) 1 2 := ⟨by decide +kernel, rfl⟩
theorem d_X10_renamed_2 : DC mX10_renamed 2 (.if_icmp .ne 5) 3 5 := ⟨by decide +kernel, rfl⟩
theorem d_X10_renamed_5 : DC mX10_renamed 5 (.iload_n 2) 1 6 := ⟨by decide +kernel, rfl⟩
theorem d_X10_renamed_6 : DC mX10_renamed 6 (.ireturn) 1 7 := ⟨by decide +kernel, rfl⟩
theorem d_X10_renamed_7 : DC mX10_renamed 7 (.iload_n 3) 1 8 := ⟨by decide +kernel, rfl⟩
theorem d_X10_renamed_8 : DC mX10_renamed 8 (.ifCond .eq 12) 3 11 := ⟨by decide +kernel, rfl⟩
theorem d_X10_renamed_11 : DC mX10_renamed 11 (.iload_n 0) 1 12 := ⟨by decide +kernel, rfl⟩
theorem d_X10_renamed_12 : DC mX10_renamed 12 (.iload_n 2) 1 13 := ⟨by decide +kernel, rfl⟩
theorem d_X10_renamed_13 : DC mX10_renamed 13 (.if_icmp .ne 7) 3 16 := ⟨by decide +kernel, rfl⟩
theorem d_X10_renamed_16 : DC mX10_renamed 16 (.iload_n 1) 1 17 := ⟨by decide +kernel, rfl⟩
theorem d_X10_renamed_17 : DC mX10_renamed 17 (.goto 4) 3 20 := ⟨by decide +kernel, rfl⟩
theorem d_X10_renamed_20 : DC mX10_renamed 20 (.iload_n 0) 1 21 := ⟨by decide +kernel, rfl⟩
theorem d_X10_renamed_21 : DC mX10_renamed 21 (.ireturn) 1 22 := ⟨by decide +kernel, rfl⟩
theorem v_X5_empty_0 {l : Launch} {d N : Nat} {Λ : Lay} {P : Mem → Prop} {σ : Mem} {t : Int} (o_t : Ob N Λ t 15 3)
    (h : (∀ τ1, τ1 = st σ t 2 0 → P τ1)) :
    WV l mX5_empty d P 0 [(2, t)] [] N Λ σ := by
  refine r_aload_n (x := t) d_X5_empty_0 rfl o_t.1 ?_
  refine r_iconst (x := 0) d_X5_empty_1 ⟨by decide, by decide⟩ ?_
  refine r_putI (j := 2) d_X5_empty_2 kX5 (by decide) fl_X5_19 rfl o_t.1 o_t.2.1 o_t.2.2.1 o_t.2.2.2 rfl ?_
  refine r_nmM (fun τ1 eτ1 => ?_)
  have h := h τ1 eτ1
  exact r_vret d_X5_empty_5 rfl (Nat.le_refl 0) (Nat.le_refl 0) ⟨rfl, rfl, rfl, h⟩
theorem v_X5_take_0 {l : Launch} {d N : Nat} {Λ : Lay} {P : Mem → Prop} {σ : Mem} {a1 a1_keys a1_numbers t t_keys t_numbers : Int} (o_a1 : Ob N Λ a1 15 3) (f_a1_keys : (Λ a1).2.2 0 = a1_keys) (o_t : Ob N Λ t 15 3) (f_t_keys : (Λ t).2.2 0 = t_keys) (f_a1_numbers : (Λ a1).2.2 1 = a1_numbers) (f_t_numbers : (Λ t).2.2 1 = t_numbers) (h0d : 1 ≤ d)
    (h : (Cp N Λ a1_keys t_keys 1 0 0 (σ a1 2) ∧ ∀ τ1, τ1 = cpM σ a1_keys 0 t_keys 0 (σ a1 2) → (Cp N Λ a1_numbers t_numbers 0 0 0 (τ1 a1 2) ∧ ∀ τ2, τ2 = cpM τ1 a1_numbers 0 t_numbers 0 (τ1 a1 2) → (∀ τ3, τ3 = st τ2 t 2 (τ2 a1 2) → P τ3)))) :
    WV l mX5_take d P 0 [(2, t), (2, a1)] [] N Λ σ := by
  refine r_aload_n (x := a1) d_X5_take_0 rfl o_a1.1 ?_
  refine r_getf (j := 0) (t := 2) (x := a1_keys) d_X5_take_1 kX5 (by decide) fl_X5_9 o_a1.1 o_a1.2.1 o_a1.2.2.1 o_a1.2.2.2 rfl f_a1_keys ?_
  refine r_iconst (x := 0) d_X5_take_4 ⟨by decide, by decide⟩ ?_
  refine r_aload_n (x := t) d_X5_take_5 rfl o_t.1 ?_
  refine r_getf (j := 0) (t := 2) (x := t_keys) d_X5_take_6 kX5 (by decide) fl_X5_9 o_t.1 o_t.2.1 o_t.2.2.1 o_t.2.2.2 rfl f_t_keys ?_
  refine r_iconst (x := 0) d_X5_take_9 ⟨by decide, by decide⟩ ?_
  refine r_aload_n (x := a1) d_X5_take_10 rfl o_a1.1 ?_
  refine r_getf (j := 2) (t := 0) (x := (σ a1 2)) d_X5_take_11 kX5 (by decide) fl_X5_19 o_a1.1 o_a1.2.1 o_a1.2.2.1 o_a1.2.2.2 rfl rfl ?_
  refine x_acp1 d_X5_take_14 ml_X5_23 h0d (Nat.le_of_ble_eq_true rfl) h.1 ?_
  have h := h.2
  refine r_nmM (fun τ1 eτ1 => ?_)
  have h := h τ1 eτ1
  refine r_aload_n (x := a1) d_X5_take_17 rfl o_a1.1 ?_
  refine r_getf (j := 1) (t := 2) (x := a1_numbers) d_X5_take_18 kX5 (by decide) fl_X5_15 o_a1.1 o_a1.2.1 o_a1.2.2.1 o_a1.2.2.2 rfl f_a1_numbers ?_
  refine r_iconst (x := 0) d_X5_take_21 ⟨by decide, by decide⟩ ?_
  refine r_aload_n (x := t) d_X5_take_22 rfl o_t.1 ?_
  refine r_getf (j := 1) (t := 2) (x := t_numbers) d_X5_take_23 kX5 (by decide) fl_X5_15 o_t.1 o_t.2.1 o_t.2.2.1 o_t.2.2.2 rfl f_t_numbers ?_
  refine r_iconst (x := 0) d_X5_take_26 ⟨by decide, by decide⟩ ?_
  refine r_aload_n (x := a1) d_X5_take_27 rfl o_a1.1 ?_
  refine r_getf (j := 2) (t := 0) (x := (τ1 a1 2)) d_X5_take_28 kX5 (by decide) fl_X5_19 o_a1.1 o_a1.2.1 o_a1.2.2.1 o_a1.2.2.2 rfl rfl ?_
  refine x_acp0 d_X5_take_31 ml_X5_23 h0d (Nat.le_of_ble_eq_true rfl) h.1 ?_
  have h := h.2
  refine r_nmM (fun τ2 eτ2 => ?_)
  have h := h τ2 eτ2
  refine r_aload_n (x := t) d_X5_take_34 rfl o_t.1 ?_
  refine r_aload_n (x := a1) d_X5_take_35 rfl o_a1.1 ?_
  refine r_getf (j := 2) (t := 0) (x := (τ2 a1 2)) d_X5_take_36 kX5 (by decide) fl_X5_19 o_a1.1 o_a1.2.1 o_a1.2.2.1 o_a1.2.2.2 rfl rfl ?_
  refine r_putI (j := 2) d_X5_take_39 kX5 (by decide) fl_X5_19 rfl o_t.1 o_t.2.1 o_t.2.2.1 o_t.2.2.2 rfl ?_
  refine r_nmM (fun τ3 eτ3 => ?_)
  have h := h τ3 eτ3
  exact r_vret d_X5_take_42 rfl (Nat.le_refl 0) (Nat.le_refl 0) ⟨rfl, rfl, rfl, h⟩
theorem v_X5_isLike_0 {l : Launch} {d N : Nat} {Λ : Lay} {P : Int → Mem → Prop} {σ : Mem} {a1 t : Int} (o_t : Ob N Λ t 15 3) (o_a1 : Ob N Λ a1 15 3)
    (h : (((σ t 2) = (σ a1 2) → WI l mX5_isLike d P 15 [(2, t), (2, a1), (0, 0)] [] N Λ σ) ∧ (¬ ((σ t 2) = (σ a1 2)) → P 0 σ))) :
    WI l mX5_isLike d P 0 [(2, t), (2, a1), (3, 0)] [] N Λ σ := by
  refine r_aload_n (x := t) d_X5_isLike_0 rfl o_t.1 ?_
  refine r_getf (j := 2) (t := 0) (x := (σ t 2)) d_X5_isLike_1 kX5 (by decide) fl_X5_19 o_t.1 o_t.2.1 o_t.2.2.1 o_t.2.2.2 rfl rfl ?_
  refine r_aload_n (x := a1) d_X5_isLike_4 rfl o_a1.1 ?_
  refine r_getf (j := 2) (t := 0) (x := (σ a1 2)) d_X5_isLike_5 kX5 (by decide) fl_X5_19 o_a1.1 o_a1.2.1 o_a1.2.2.1 o_a1.2.2.2 rfl rfl ?_
  refine r_ic_eq (tgt := 13) d_X5_isLike_8 rfl (fun hc => ?_) (fun hc => ?_)
  · have h := h.1 hc
    refine r_iconst (x := 0) d_X5_isLike_13 ⟨by decide, by decide⟩ ?_
    refine r_istore_n (L2 := [(2, t), (2, a1), (0, 0)]) d_X5_isLike_14 (by decide) rfl rfl ?_
    exact h
  · have h := h.2 hc
    refine r_iconst (x := 0) d_X5_isLike_11 ⟨by decide, by decide⟩ ?_
    exact r_iret d_X5_isLike_12 rfl (by decide) (Nat.le_refl 0) (Nat.le_refl 0) ⟨_, rfl, rfl, rfl, h⟩
theorem v_X5_isLike_15 {l : Launch} {d N : Nat} {Λ : Lay} {P : Int → Mem → Prop} {σ : Mem} {x2 a1 a1_keys a1_numbers t t_keys t_numbers : Int} (o_t : Ob N Λ t 15 3) (f_t_keys : (Λ t).2.2 0 = t_keys) (o_a1 : Ob N Λ a1 15 3) (f_a1_keys : (Λ a1).2.2 0 = a1_keys) (f_t_numbers : (Λ t).2.2 1 = t_numbers) (f_a1_numbers : (Λ a1).2.2 1 = a1_numbers)
    (h : (((σ t 2) ≤ x2 → P 1 σ) ∧ (¬ ((σ t 2) ≤ x2) → (Ix N Λ t_keys 1 x2 ∧ (Ix N Λ a1_keys 1 x2 ∧ ((¬ (cmpL (σ t_keys x2) (σ a1_keys x2)) = 0 → P 0 σ) ∧ ((cmpL (σ t_keys x2) (σ a1_keys x2)) = 0 → (Ix N Λ t_numbers 0 x2 ∧ (Ix N Λ a1_numbers 0 x2 ∧ (((σ t_numbers x2) = (σ a1_numbers x2) → (∀ y1, y1 = addI x2 1 → WI l mX5_isLike d P 15 [(2, t), (2, a1), (0, y1)] [] N Λ σ)) ∧ (¬ ((σ t_numbers x2) = (σ a1_numbers x2)) → P 0 σ))))))))))) :
    WI l mX5_isLike d P 15 [(2, t), (2, a1), (0, x2)] [] N Λ σ := by
  refine r_iload_n (x := x2) d_X5_isLike_15 rfl ?_
  refine r_aload_n (x := t) d_X5_isLike_16 rfl o_t.1 ?_
  refine r_getf (j := 2) (t := 0) (x := (σ t 2)) d_X5_isLike_17 kX5 (by decide) fl_X5_19 o_t.1 o_t.2.1 o_t.2.2.1 o_t.2.2.2 rfl rfl ?_
  refine r_ic_ge (tgt := 62) d_X5_isLike_20 rfl (fun hc => ?_) (fun hc => ?_)
  · have h := h.1 hc
    refine r_iconst (x := 1) d_X5_isLike_62 ⟨by decide, by decide⟩ ?_
    exact r_iret d_X5_isLike_63 rfl (by decide) (Nat.le_refl 0) (Nat.le_refl 0) ⟨_, rfl, rfl, rfl, h⟩
  · have h := h.2 hc
    refine r_aload_n (x := t) d_X5_isLike_23 rfl o_t.1 ?_
    refine r_getf (j := 0) (t := 2) (x := t_keys) d_X5_isLike_24 kX5 (by decide) fl_X5_9 o_t.1 o_t.2.1 o_t.2.2.1 o_t.2.2.2 rfl f_t_keys ?_
    refine r_iload_n (x := x2) d_X5_isLike_27 rfl ?_
    refine x_lald d_X5_isLike_28 h.1 ?_
    have h := h.2
    refine r_aload_n (x := a1) d_X5_isLike_29 rfl o_a1.1 ?_
    refine r_getf (j := 0) (t := 2) (x := a1_keys) d_X5_isLike_30 kX5 (by decide) fl_X5_9 o_a1.1 o_a1.2.1 o_a1.2.2.1 o_a1.2.2.2 rfl f_a1_keys ?_
    refine r_iload_n (x := x2) d_X5_isLike_33 rfl ?_
    refine x_lald d_X5_isLike_34 h.1 ?_
    have h := h.2
    refine r_lcmp d_X5_isLike_35 ?_
    refine r_if_ne (tgt := 54) d_X5_isLike_36 rfl (fun hc => ?_) (fun hc => ?_)
    · have h := h.1 hc
      refine r_iconst (x := 0) d_X5_isLike_54 ⟨by decide, by decide⟩ ?_
      exact r_iret d_X5_isLike_55 rfl (by decide) (Nat.le_refl 0) (Nat.le_refl 0) ⟨_, rfl, rfl, rfl, h⟩
    · have h := h.2 hc
      refine r_aload_n (x := t) d_X5_isLike_39 rfl o_t.1 ?_
      refine r_getf (j := 1) (t := 2) (x := t_numbers) d_X5_isLike_40 kX5 (by decide) fl_X5_15 o_t.1 o_t.2.1 o_t.2.2.1 o_t.2.2.2 rfl f_t_numbers ?_
      refine r_iload_n (x := x2) d_X5_isLike_43 rfl ?_
      refine x_iald d_X5_isLike_44 h.1 ?_
      have h := h.2
      refine r_aload_n (x := a1) d_X5_isLike_45 rfl o_a1.1 ?_
      refine r_getf (j := 1) (t := 2) (x := a1_numbers) d_X5_isLike_46 kX5 (by decide) fl_X5_15 o_a1.1 o_a1.2.1 o_a1.2.2.1 o_a1.2.2.2 rfl f_a1_numbers ?_
      refine r_iload_n (x := x2) d_X5_isLike_49 rfl ?_
      refine x_iald d_X5_isLike_50 h.1 ?_
      have h := h.2
      refine r_ic_eq (tgt := 56) d_X5_isLike_51 rfl (fun hc => ?_) (fun hc => ?_)
      · have h := h.1 hc
        refine x_iinc (x := x2) (L := [(2, t), (2, a1), (0, x2)]) d_X5_isLike_56 rfl (by decide) rfl (fun y1 ey1 => ?_)
        have h := h y1 ey1
        show WP _ _ _ _ _ _ _ _ [(2, t), (2, a1), (0, y1)] _ _ _ _
        refine r_goto (tgt := 15) d_X5_isLike_59 rfl ?_
        exact h
      · have h := h.2 hc
        refine r_iconst (x := 0) d_X5_isLike_54 ⟨by decide, by decide⟩ ?_
        exact r_iret d_X5_isLike_55 rfl (by decide) (Nat.le_refl 0) (Nat.le_refl 0) ⟨_, rfl, rfl, rfl, h⟩
theorem v_X5_lay_0 {l : Launch} {d N : Nat} {Λ : Lay} {P : Int → Mem → Prop} {σ : Mem} {x1 x3 t t_keys t_numbers : Int} (o_t : Ob N Λ t 15 3) (f_t_keys : (Λ t).2.2 0 = t_keys) (f_t_numbers : (Λ t).2.2 1 = t_numbers) (h0d : 1 ≤ d)
    (h : ((¬ (cmpL x3 0) = 0 → (((cmpL x3 (l2iI x3)) = 0 → (CI l mX5_find (d - 1) [(2, t), (1, x1)] N Λ σ (fun v2 σ1 => (((σ1 t 2) ≤ v2 → (((σ1 t 2) < 80 → (Cp N Λ t_keys t_keys 1 v2 (addI v2 1) (subI (σ1 t 2) v2) ∧ ∀ τ3, τ3 = cpM σ1 t_keys v2 t_keys (addI v2 1) (subI (σ1 t 2) v2) → (Cp N Λ t_numbers t_numbers 0 v2 (addI v2 1) (subI (τ3 t 2) v2) ∧ ∀ τ4, τ4 = cpM τ3 t_numbers v2 t_numbers (addI v2 1) (subI (τ3 t 2) v2) → (Ix N Λ t_keys 1 v2 ∧ (∀ τ5, τ5 = st τ4 t_keys v2 x1 → (Ix N Λ t_numbers 0 v2 ∧ (∀ τ6, τ6 = st τ5 t_numbers v2 (l2iI x3) → (∀ τ7, τ7 = st τ6 t 2 (addI (τ6 t 2) 1) → P 0 τ7)))))))) ∧ (¬ ((σ1 t 2) < 80) → P 1 σ1))) ∧ (¬ ((σ1 t 2) ≤ v2) → (Ix N Λ t_keys 1 v2 ∧ ((¬ (cmpL (σ1 t_keys v2) x1) = 0 → (((σ1 t 2) < 80 → (Cp N Λ t_keys t_keys 1 v2 (addI v2 1) (subI (σ1 t 2) v2) ∧ ∀ τ8, τ8 = cpM σ1 t_keys v2 t_keys (addI v2 1) (subI (σ1 t 2) v2) → (Cp N Λ t_numbers t_numbers 0 v2 (addI v2 1) (subI (τ8 t 2) v2) ∧ ∀ τ9, τ9 = cpM τ8 t_numbers v2 t_numbers (addI v2 1) (subI (τ8 t 2) v2) → (Ix N Λ t_keys 1 v2 ∧ (∀ τ10, τ10 = st τ9 t_keys v2 x1 → (Ix N Λ t_numbers 0 v2 ∧ (∀ τ11, τ11 = st τ10 t_numbers v2 (l2iI x3) → (∀ τ12, τ12 = st τ11 t 2 (addI (τ11 t 2) 1) → P 0 τ12)))))))) ∧ (¬ ((σ1 t 2) < 80) → P 1 σ1))) ∧ ((cmpL (σ1 t_keys v2) x1) = 0 → (Ix N Λ t_numbers 0 v2 ∧ (CI l mX5_layUpon (d - 1) [(2, t), (0, v2), (1, (addL x3 (σ1 t_numbers v2)))] N Λ σ1 (fun v14 σ13 => P v14 σ13))))))))))) ∧ (¬ ((cmpL x3 (l2iI x3)) = 0) → P 4 σ))) ∧ ((cmpL x3 0) = 0 → P 0 σ))) :
    WI l mX5_lay d P 0 [(2, t), (1, x1), (3, 0), (1, x3), (3, 0), (3, 0)] [] N Λ σ := by
  refine r_lload_n (x := x3) d_X5_lay_0 rfl ?_
  refine r_lconst d_X5_lay_1 ?_
  skip
  refine r_lcmp d_X5_lay_2 ?_
  refine r_if_ne (tgt := 8) d_X5_lay_3 rfl (fun hc => ?_) (fun hc => ?_)
  · have h := h.1 hc
    refine r_lload_n (x := x3) d_X5_lay_8 rfl ?_
    refine r_lload_n (x := x3) d_X5_lay_9 rfl ?_
    refine r_l2i d_X5_lay_10 ?_
    refine r_i2l d_X5_lay_11 ?_
    refine r_lcmp d_X5_lay_12 ?_
    refine r_if_eq (tgt := 18) d_X5_lay_13 rfl (fun hc => ?_) (fun hc => ?_)
    · have h := h.1 hc
      refine r_aload_n (x := t) d_X5_lay_18 rfl o_t.1 ?_
      refine r_lload_n (x := x1) d_X5_lay_19 rfl ?_
      refine r_callV (Y2 := mX5_find) (d := d - 1) (mc := 0) (ms := 0) (c := t) (As := [(1, x1)]) (S := []) d_X5_lay_20 ok_mX5_find ml_X5_29 rfl (rmc h0d (by decide)) rm00 (Nat.le_of_ble_eq_true rfl) rfl kX5 o_t.1 o_t.2.1 o_t.2.2.1 o_t.2.2.2 (MC.mono h (fun r N1 Λ1 σ1 hq => ?_))
      obtain ⟨v2, rfl, rfl, rfl, h⟩ := hq
      refine r_istore (L2 := [(2, t), (1, x1), (3, 0), (1, x3), (3, 0), (0, v2)]) d_X5_lay_23 (by decide) rfl rfl ?_
      refine r_iload (x := v2) d_X5_lay_25 rfl ?_
      refine r_aload_n (x := t) d_X5_lay_27 rfl o_t.1 ?_
      refine r_getf (j := 2) (t := 0) (x := (σ1 t 2)) d_X5_lay_28 kX5 (by decide) fl_X5_19 o_t.1 o_t.2.1 o_t.2.2.1 o_t.2.2.2 rfl rfl ?_
      refine r_ic_ge (tgt := 63) d_X5_lay_31 rfl (fun hc => ?_) (fun hc => ?_)
      · have h := h.1 hc
        refine r_aload_n (x := t) d_X5_lay_63 rfl o_t.1 ?_
        refine r_getf (j := 2) (t := 0) (x := (σ1 t 2)) d_X5_lay_64 kX5 (by decide) fl_X5_19 o_t.1 o_t.2.1 o_t.2.2.1 o_t.2.2.2 rfl rfl ?_
        refine r_bipush (x := 80) d_X5_lay_67 ⟨by decide, by decide⟩ (by decide) ?_
        refine r_ic_lt (tgt := 74) d_X5_lay_69 rfl (fun hc => ?_) (fun hc => ?_)
        · have h := h.1 hc
          refine r_aload_n (x := t) d_X5_lay_74 rfl o_t.1 ?_
          refine r_getf (j := 0) (t := 2) (x := t_keys) d_X5_lay_75 kX5 (by decide) fl_X5_9 o_t.1 o_t.2.1 o_t.2.2.1 o_t.2.2.2 rfl f_t_keys ?_
          refine r_iload (x := v2) d_X5_lay_78 rfl ?_
          refine r_aload_n (x := t) d_X5_lay_80 rfl o_t.1 ?_
          refine r_getf (j := 0) (t := 2) (x := t_keys) d_X5_lay_81 kX5 (by decide) fl_X5_9 o_t.1 o_t.2.1 o_t.2.2.1 o_t.2.2.2 rfl f_t_keys ?_
          refine r_iload (x := v2) d_X5_lay_84 rfl ?_
          refine r_iconst (x := 1) d_X5_lay_86 ⟨by decide, by decide⟩ ?_
          refine r_iadd d_X5_lay_87 ?_
          refine r_aload_n (x := t) d_X5_lay_88 rfl o_t.1 ?_
          refine r_getf (j := 2) (t := 0) (x := (σ1 t 2)) d_X5_lay_89 kX5 (by decide) fl_X5_19 o_t.1 o_t.2.1 o_t.2.2.1 o_t.2.2.2 rfl rfl ?_
          refine r_iload (x := v2) d_X5_lay_92 rfl ?_
          refine r_isub d_X5_lay_94 ?_
          refine x_acp1 d_X5_lay_95 ml_X5_23 h0d (Nat.le_of_ble_eq_true rfl) h.1 ?_
          have h := h.2
          refine r_nmM (fun τ3 eτ3 => ?_)
          have h := h τ3 eτ3
          refine r_aload_n (x := t) d_X5_lay_98 rfl o_t.1 ?_
          refine r_getf (j := 1) (t := 2) (x := t_numbers) d_X5_lay_99 kX5 (by decide) fl_X5_15 o_t.1 o_t.2.1 o_t.2.2.1 o_t.2.2.2 rfl f_t_numbers ?_
          refine r_iload (x := v2) d_X5_lay_102 rfl ?_
          refine r_aload_n (x := t) d_X5_lay_104 rfl o_t.1 ?_
          refine r_getf (j := 1) (t := 2) (x := t_numbers) d_X5_lay_105 kX5 (by decide) fl_X5_15 o_t.1 o_t.2.1 o_t.2.2.1 o_t.2.2.2 rfl f_t_numbers ?_
          refine r_iload (x := v2) d_X5_lay_108 rfl ?_
          refine r_iconst (x := 1) d_X5_lay_110 ⟨by decide, by decide⟩ ?_
          refine r_iadd d_X5_lay_111 ?_
          refine r_aload_n (x := t) d_X5_lay_112 rfl o_t.1 ?_
          refine r_getf (j := 2) (t := 0) (x := (τ3 t 2)) d_X5_lay_113 kX5 (by decide) fl_X5_19 o_t.1 o_t.2.1 o_t.2.2.1 o_t.2.2.2 rfl rfl ?_
          refine r_iload (x := v2) d_X5_lay_116 rfl ?_
          refine r_isub d_X5_lay_118 ?_
          refine x_acp0 d_X5_lay_119 ml_X5_23 h0d (Nat.le_of_ble_eq_true rfl) h.1 ?_
          have h := h.2
          refine r_nmM (fun τ4 eτ4 => ?_)
          have h := h τ4 eτ4
          refine r_aload_n (x := t) d_X5_lay_122 rfl o_t.1 ?_
          refine r_getf (j := 0) (t := 2) (x := t_keys) d_X5_lay_123 kX5 (by decide) fl_X5_9 o_t.1 o_t.2.1 o_t.2.2.1 o_t.2.2.2 rfl f_t_keys ?_
          refine r_iload (x := v2) d_X5_lay_126 rfl ?_
          refine r_lload_n (x := x1) d_X5_lay_128 rfl ?_
          refine x_last d_X5_lay_129 h.1 ?_
          have h := h.2
          refine r_nmM (fun τ5 eτ5 => ?_)
          have h := h τ5 eτ5
          refine r_aload_n (x := t) d_X5_lay_130 rfl o_t.1 ?_
          refine r_getf (j := 1) (t := 2) (x := t_numbers) d_X5_lay_131 kX5 (by decide) fl_X5_15 o_t.1 o_t.2.1 o_t.2.2.1 o_t.2.2.2 rfl f_t_numbers ?_
          refine r_iload (x := v2) d_X5_lay_134 rfl ?_
          refine r_lload_n (x := x3) d_X5_lay_136 rfl ?_
          refine r_l2i d_X5_lay_137 ?_
          refine x_iast d_X5_lay_138 h.1 ?_
          have h := h.2
          refine r_nmM (fun τ6 eτ6 => ?_)
          have h := h τ6 eτ6
          refine r_aload_n (x := t) d_X5_lay_139 rfl o_t.1 ?_
          refine r_dup d_X5_lay_140 rfl ?_
          refine r_getf (j := 2) (t := 0) (x := (τ6 t 2)) d_X5_lay_141 kX5 (by decide) fl_X5_19 o_t.1 o_t.2.1 o_t.2.2.1 o_t.2.2.2 rfl rfl ?_
          refine r_iconst (x := 1) d_X5_lay_144 ⟨by decide, by decide⟩ ?_
          refine r_iadd d_X5_lay_145 ?_
          refine r_putI (j := 2) d_X5_lay_146 kX5 (by decide) fl_X5_19 rfl o_t.1 o_t.2.1 o_t.2.2.1 o_t.2.2.2 rfl ?_
          refine r_nmM (fun τ7 eτ7 => ?_)
          have h := h τ7 eτ7
          refine r_iconst (x := 0) d_X5_lay_149 ⟨by decide, by decide⟩ ?_
          exact r_iret d_X5_lay_150 rfl rfl (Nat.le_refl 0) (Nat.le_refl 0) ⟨_, rfl, rfl, rfl, h⟩
        · have h := h.2 hc
          refine r_iconst (x := 1) d_X5_lay_72 ⟨by decide, by decide⟩ ?_
          exact r_iret d_X5_lay_73 rfl rfl (Nat.le_refl 0) (Nat.le_refl 0) ⟨_, rfl, rfl, rfl, h⟩
      · have h := h.2 hc
        refine r_aload_n (x := t) d_X5_lay_34 rfl o_t.1 ?_
        refine r_getf (j := 0) (t := 2) (x := t_keys) d_X5_lay_35 kX5 (by decide) fl_X5_9 o_t.1 o_t.2.1 o_t.2.2.1 o_t.2.2.2 rfl f_t_keys ?_
        refine r_iload (x := v2) d_X5_lay_38 rfl ?_
        refine x_lald d_X5_lay_40 h.1 ?_
        have h := h.2
        refine r_lload_n (x := x1) d_X5_lay_41 rfl ?_
        refine r_lcmp d_X5_lay_42 ?_
        refine r_if_ne (tgt := 63) d_X5_lay_43 rfl (fun hc => ?_) (fun hc => ?_)
        · have h := h.1 hc
          refine r_aload_n (x := t) d_X5_lay_63 rfl o_t.1 ?_
          refine r_getf (j := 2) (t := 0) (x := (σ1 t 2)) d_X5_lay_64 kX5 (by decide) fl_X5_19 o_t.1 o_t.2.1 o_t.2.2.1 o_t.2.2.2 rfl rfl ?_
          refine r_bipush (x := 80) d_X5_lay_67 ⟨by decide, by decide⟩ (by decide) ?_
          refine r_ic_lt (tgt := 74) d_X5_lay_69 rfl (fun hc => ?_) (fun hc => ?_)
          · have h := h.1 hc
            refine r_aload_n (x := t) d_X5_lay_74 rfl o_t.1 ?_
            refine r_getf (j := 0) (t := 2) (x := t_keys) d_X5_lay_75 kX5 (by decide) fl_X5_9 o_t.1 o_t.2.1 o_t.2.2.1 o_t.2.2.2 rfl f_t_keys ?_
            refine r_iload (x := v2) d_X5_lay_78 rfl ?_
            refine r_aload_n (x := t) d_X5_lay_80 rfl o_t.1 ?_
            refine r_getf (j := 0) (t := 2) (x := t_keys) d_X5_lay_81 kX5 (by decide) fl_X5_9 o_t.1 o_t.2.1 o_t.2.2.1 o_t.2.2.2 rfl f_t_keys ?_
            refine r_iload (x := v2) d_X5_lay_84 rfl ?_
            refine r_iconst (x := 1) d_X5_lay_86 ⟨by decide, by decide⟩ ?_
            refine r_iadd d_X5_lay_87 ?_
            refine r_aload_n (x := t) d_X5_lay_88 rfl o_t.1 ?_
            refine r_getf (j := 2) (t := 0) (x := (σ1 t 2)) d_X5_lay_89 kX5 (by decide) fl_X5_19 o_t.1 o_t.2.1 o_t.2.2.1 o_t.2.2.2 rfl rfl ?_
            refine r_iload (x := v2) d_X5_lay_92 rfl ?_
            refine r_isub d_X5_lay_94 ?_
            refine x_acp1 d_X5_lay_95 ml_X5_23 h0d (Nat.le_of_ble_eq_true rfl) h.1 ?_
            have h := h.2
            refine r_nmM (fun τ8 eτ8 => ?_)
            have h := h τ8 eτ8
            refine r_aload_n (x := t) d_X5_lay_98 rfl o_t.1 ?_
            refine r_getf (j := 1) (t := 2) (x := t_numbers) d_X5_lay_99 kX5 (by decide) fl_X5_15 o_t.1 o_t.2.1 o_t.2.2.1 o_t.2.2.2 rfl f_t_numbers ?_
            refine r_iload (x := v2) d_X5_lay_102 rfl ?_
            refine r_aload_n (x := t) d_X5_lay_104 rfl o_t.1 ?_
            refine r_getf (j := 1) (t := 2) (x := t_numbers) d_X5_lay_105 kX5 (by decide) fl_X5_15 o_t.1 o_t.2.1 o_t.2.2.1 o_t.2.2.2 rfl f_t_numbers ?_
            refine r_iload (x := v2) d_X5_lay_108 rfl ?_
            refine r_iconst (x := 1) d_X5_lay_110 ⟨by decide, by decide⟩ ?_
            refine r_iadd d_X5_lay_111 ?_
            refine r_aload_n (x := t) d_X5_lay_112 rfl o_t.1 ?_
            refine r_getf (j := 2) (t := 0) (x := (τ8 t 2)) d_X5_lay_113 kX5 (by decide) fl_X5_19 o_t.1 o_t.2.1 o_t.2.2.1 o_t.2.2.2 rfl rfl ?_
            refine r_iload (x := v2) d_X5_lay_116 rfl ?_
            refine r_isub d_X5_lay_118 ?_
            refine x_acp0 d_X5_lay_119 ml_X5_23 h0d (Nat.le_of_ble_eq_true rfl) h.1 ?_
            have h := h.2
            refine r_nmM (fun τ9 eτ9 => ?_)
            have h := h τ9 eτ9
            refine r_aload_n (x := t) d_X5_lay_122 rfl o_t.1 ?_
            refine r_getf (j := 0) (t := 2) (x := t_keys) d_X5_lay_123 kX5 (by decide) fl_X5_9 o_t.1 o_t.2.1 o_t.2.2.1 o_t.2.2.2 rfl f_t_keys ?_
            refine r_iload (x := v2) d_X5_lay_126 rfl ?_
            refine r_lload_n (x := x1) d_X5_lay_128 rfl ?_
            refine x_last d_X5_lay_129 h.1 ?_
            have h := h.2
            refine r_nmM (fun τ10 eτ10 => ?_)
            have h := h τ10 eτ10
            refine r_aload_n (x := t) d_X5_lay_130 rfl o_t.1 ?_
            refine r_getf (j := 1) (t := 2) (x := t_numbers) d_X5_lay_131 kX5 (by decide) fl_X5_15 o_t.1 o_t.2.1 o_t.2.2.1 o_t.2.2.2 rfl f_t_numbers ?_
            refine r_iload (x := v2) d_X5_lay_134 rfl ?_
            refine r_lload_n (x := x3) d_X5_lay_136 rfl ?_
            refine r_l2i d_X5_lay_137 ?_
            refine x_iast d_X5_lay_138 h.1 ?_
            have h := h.2
            refine r_nmM (fun τ11 eτ11 => ?_)
            have h := h τ11 eτ11
            refine r_aload_n (x := t) d_X5_lay_139 rfl o_t.1 ?_
            refine r_dup d_X5_lay_140 rfl ?_
            refine r_getf (j := 2) (t := 0) (x := (τ11 t 2)) d_X5_lay_141 kX5 (by decide) fl_X5_19 o_t.1 o_t.2.1 o_t.2.2.1 o_t.2.2.2 rfl rfl ?_
            refine r_iconst (x := 1) d_X5_lay_144 ⟨by decide, by decide⟩ ?_
            refine r_iadd d_X5_lay_145 ?_
            refine r_putI (j := 2) d_X5_lay_146 kX5 (by decide) fl_X5_19 rfl o_t.1 o_t.2.1 o_t.2.2.1 o_t.2.2.2 rfl ?_
            refine r_nmM (fun τ12 eτ12 => ?_)
            have h := h τ12 eτ12
            refine r_iconst (x := 0) d_X5_lay_149 ⟨by decide, by decide⟩ ?_
            exact r_iret d_X5_lay_150 rfl rfl (Nat.le_refl 0) (Nat.le_refl 0) ⟨_, rfl, rfl, rfl, h⟩
          · have h := h.2 hc
            refine r_iconst (x := 1) d_X5_lay_72 ⟨by decide, by decide⟩ ?_
            exact r_iret d_X5_lay_73 rfl rfl (Nat.le_refl 0) (Nat.le_refl 0) ⟨_, rfl, rfl, rfl, h⟩
        · have h := h.2 hc
          refine r_aload_n (x := t) d_X5_lay_46 rfl o_t.1 ?_
          refine r_iload (x := v2) d_X5_lay_47 rfl ?_
          refine r_lload_n (x := x3) d_X5_lay_49 rfl ?_
          refine r_aload_n (x := t) d_X5_lay_50 rfl o_t.1 ?_
          refine r_getf (j := 1) (t := 2) (x := t_numbers) d_X5_lay_51 kX5 (by decide) fl_X5_15 o_t.1 o_t.2.1 o_t.2.2.1 o_t.2.2.2 rfl f_t_numbers ?_
          refine r_iload (x := v2) d_X5_lay_54 rfl ?_
          refine x_iald d_X5_lay_56 h.1 ?_
          have h := h.2
          refine r_i2l d_X5_lay_57 ?_
          refine r_ladd d_X5_lay_58 ?_
          refine r_callV (Y2 := mX5_layUpon) (d := d - 1) (mc := 0) (ms := 0) (c := t) (As := [(0, v2), (1, (addL x3 (σ1 t_numbers v2)))]) (S := []) d_X5_lay_59 ok_mX5_layUpon ml_X5_33 rfl (rmc h0d (by decide)) rm00 (Nat.le_of_ble_eq_true rfl) rfl kX5 o_t.1 o_t.2.1 o_t.2.2.1 o_t.2.2.2 (MC.mono h (fun r N1 Λ1 σ13 hq => ?_))
          obtain ⟨v14, rfl, rfl, rfl, h⟩ := hq
          exact r_iret d_X5_lay_62 rfl rfl (Nat.le_refl 0) (Nat.le_refl 0) ⟨_, rfl, rfl, rfl, h⟩
    · have h := h.2 hc
      refine r_iconst (x := 4) d_X5_lay_16 ⟨by decide, by decide⟩ ?_
      exact r_iret d_X5_lay_17 rfl rfl (Nat.le_refl 0) (Nat.le_refl 0) ⟨_, rfl, rfl, rfl, h⟩
  · have h := h.2 hc
    refine r_iconst (x := 0) d_X5_lay_6 ⟨by decide, by decide⟩ ?_
    exact r_iret d_X5_lay_7 rfl rfl (Nat.le_refl 0) (Nat.le_refl 0) ⟨_, rfl, rfl, rfl, h⟩
theorem v_X5_laySum_0 {l : Launch} {d N : Nat} {Λ : Lay} {P : Int → Mem → Prop} {σ : Mem} {x2 a1 t : Int}
    (h : WI l mX5_laySum d P 5 [(2, t), (2, a1), (0, x2), (0, 0), (0, 0)] [] N Λ σ) :
    WI l mX5_laySum d P 0 [(2, t), (2, a1), (0, x2), (3, 0), (3, 0)] [] N Λ σ := by
  refine r_iconst (x := 0) d_X5_laySum_0 ⟨by decide, by decide⟩ ?_
  refine r_istore_n (L2 := [(2, t), (2, a1), (0, x2), (0, 0), (3, 0)]) d_X5_laySum_1 (by decide) rfl rfl ?_
  refine r_iconst (x := 0) d_X5_laySum_2 ⟨by decide, by decide⟩ ?_
  refine r_istore (L2 := [(2, t), (2, a1), (0, x2), (0, 0), (0, 0)]) d_X5_laySum_3 (by decide) rfl rfl ?_
  exact h
theorem v_X5_laySum_5 {l : Launch} {d N : Nat} {Λ : Lay} {P : Int → Mem → Prop} {σ : Mem} {x2 x3 x4 a1 a1_keys a1_numbers t : Int} (o_a1 : Ob N Λ a1 15 3) (o_t : Ob N Λ t 15 3) (f_a1_keys : (Λ a1).2.2 0 = a1_keys) (f_a1_numbers : (Λ a1).2.2 1 = a1_numbers) (h0d : 1 ≤ d)
    (h : (((σ a1 2) ≤ x4 → P x3 σ) ∧ (¬ ((σ a1 2) ≤ x4) → ((¬ x3 = 0 → P x3 σ) ∧ (x3 = 0 → (Ix N Λ a1_keys 1 x4 ∧ (Ix N Λ a1_numbers 0 x4 ∧ (CI l mX5_lay (d - 1) [(2, t), (1, (σ a1_keys x4)), (1, (mulL (σ a1_numbers x4) x2))] N Λ σ (fun v2 σ1 => (∀ y3, y3 = addI x4 1 → WI l mX5_laySum d P 5 [(2, t), (2, a1), (0, x2), (0, v2), (0, y3)] [] N Λ σ1)))))))))) :
    WI l mX5_laySum d P 5 [(2, t), (2, a1), (0, x2), (0, x3), (0, x4)] [] N Λ σ := by
  refine r_iload (x := x4) d_X5_laySum_5 rfl ?_
  refine r_aload_n (x := a1) d_X5_laySum_7 rfl o_a1.1 ?_
  refine r_getf (j := 2) (t := 0) (x := (σ a1 2)) d_X5_laySum_8 kX5 (by decide) fl_X5_19 o_a1.1 o_a1.2.1 o_a1.2.2.1 o_a1.2.2.2 rfl rfl ?_
  refine r_ic_ge (tgt := 47) d_X5_laySum_11 rfl (fun hc => ?_) (fun hc => ?_)
  · have h := h.1 hc
    refine r_iload_n (x := x3) d_X5_laySum_47 rfl ?_
    exact r_iret d_X5_laySum_48 rfl rfl (Nat.le_refl 0) (Nat.le_refl 0) ⟨_, rfl, rfl, rfl, h⟩
  · have h := h.2 hc
    refine r_iload_n (x := x3) d_X5_laySum_14 rfl ?_
    refine r_if_ne (tgt := 47) d_X5_laySum_15 rfl (fun hc => ?_) (fun hc => ?_)
    · have h := h.1 hc
      refine r_iload_n (x := x3) d_X5_laySum_47 rfl ?_
      exact r_iret d_X5_laySum_48 rfl rfl (Nat.le_refl 0) (Nat.le_refl 0) ⟨_, rfl, rfl, rfl, h⟩
    · have h := h.2 hc
      refine r_aload_n (x := t) d_X5_laySum_18 rfl o_t.1 ?_
      refine r_aload_n (x := a1) d_X5_laySum_19 rfl o_a1.1 ?_
      refine r_getf (j := 0) (t := 2) (x := a1_keys) d_X5_laySum_20 kX5 (by decide) fl_X5_9 o_a1.1 o_a1.2.1 o_a1.2.2.1 o_a1.2.2.2 rfl f_a1_keys ?_
      refine r_iload (x := x4) d_X5_laySum_23 rfl ?_
      refine x_lald d_X5_laySum_25 h.1 ?_
      have h := h.2
      refine r_aload_n (x := a1) d_X5_laySum_26 rfl o_a1.1 ?_
      refine r_getf (j := 1) (t := 2) (x := a1_numbers) d_X5_laySum_27 kX5 (by decide) fl_X5_15 o_a1.1 o_a1.2.1 o_a1.2.2.1 o_a1.2.2.2 rfl f_a1_numbers ?_
      refine r_iload (x := x4) d_X5_laySum_30 rfl ?_
      refine x_iald d_X5_laySum_32 h.1 ?_
      have h := h.2
      refine r_i2l d_X5_laySum_33 ?_
      refine r_iload_n (x := x2) d_X5_laySum_34 rfl ?_
      refine r_i2l d_X5_laySum_35 ?_
      refine r_lmul d_X5_laySum_36 ?_
      refine r_callV (Y2 := mX5_lay) (d := d - 1) (mc := 0) (ms := 0) (c := t) (As := [(1, (σ a1_keys x4)), (1, (mulL (σ a1_numbers x4) x2))]) (S := []) d_X5_laySum_37 ok_mX5_lay ml_X5_37 rfl (rmc h0d (by decide)) rm00 (Nat.le_of_ble_eq_true rfl) rfl kX5 o_t.1 o_t.2.1 o_t.2.2.1 o_t.2.2.2 (MC.mono h (fun r N1 Λ1 σ1 hq => ?_))
      obtain ⟨v2, rfl, rfl, rfl, h⟩ := hq
      refine r_istore_n (L2 := [(2, t), (2, a1), (0, x2), (0, v2), (0, x4)]) d_X5_laySum_40 (by decide) rfl rfl ?_
      refine x_iinc (x := x4) (L := [(2, t), (2, a1), (0, x2), (0, v2), (0, x4)]) d_X5_laySum_41 rfl (by decide) rfl (fun y3 ey3 => ?_)
      have h := h y3 ey3
      show WP _ _ _ _ _ _ _ _ [(2, t), (2, a1), (0, x2), (0, v2), (0, y3)] _ _ _ _
      refine r_goto (tgt := 5) d_X5_laySum_44 rfl ?_
      exact h
theorem v_X5_layProduct_0 {l : Launch} {d N : Nat} {Λ : Lay} {P : Int → Mem → Prop} {σ : Mem} {a1 a2 t : Int}
    (h : WI l mX5_layProduct d P 5 [(2, t), (2, a1), (2, a2), (0, 0), (0, 0), (3, 0), (3, 0), (3, 0)] [] N Λ σ) :
    WI l mX5_layProduct d P 0 [(2, t), (2, a1), (2, a2), (3, 0), (3, 0), (3, 0), (3, 0), (3, 0)] [] N Λ σ := by
  refine r_iconst (x := 0) d_X5_layProduct_0 ⟨by decide, by decide⟩ ?_
  refine r_istore_n (L2 := [(2, t), (2, a1), (2, a2), (0, 0), (3, 0), (3, 0), (3, 0), (3, 0)]) d_X5_layProduct_1 (by decide) rfl rfl ?_
  refine r_iconst (x := 0) d_X5_layProduct_2 ⟨by decide, by decide⟩ ?_
  refine r_istore (L2 := [(2, t), (2, a1), (2, a2), (0, 0), (0, 0), (3, 0), (3, 0), (3, 0)]) d_X5_layProduct_3 (by decide) rfl rfl ?_
  exact h
theorem v_X5_layProduct_5 {l : Launch} {d N : Nat} {Λ : Lay} {P : Int → Mem → Prop} {σ : Mem} {x3 x4 a1 a2 t : Int} (o_a1 : Ob N Λ a1 15 3)
    (h : (((σ a1 2) ≤ x4 → P x3 σ) ∧ (¬ ((σ a1 2) ≤ x4) → ((¬ x3 = 0 → P x3 σ) ∧ (x3 = 0 → WI l mX5_layProduct d P 21 [(2, t), (2, a1), (2, a2), (0, x3), (0, x4), (0, 0), (3, 0), (3, 0)] [] N Λ σ))))) :
    WI l mX5_layProduct d P 5 [(2, t), (2, a1), (2, a2), (0, x3), (0, x4), (3, 0), (3, 0), (3, 0)] [] N Λ σ := by
  refine r_iload (x := x4) d_X5_layProduct_5 rfl ?_
  refine r_aload_n (x := a1) d_X5_layProduct_7 rfl o_a1.1 ?_
  refine r_getf (j := 2) (t := 0) (x := (σ a1 2)) d_X5_layProduct_8 kX5 (by decide) fl_X5_19 o_a1.1 o_a1.2.1 o_a1.2.2.1 o_a1.2.2.2 rfl rfl ?_
  refine r_ic_ge (tgt := 111) d_X5_layProduct_11 rfl (fun hc => ?_) (fun hc => ?_)
  · have h := h.1 hc
    refine r_iload_n (x := x3) d_X5_layProduct_111 rfl ?_
    exact r_iret d_X5_layProduct_112 rfl rfl (Nat.le_refl 0) (Nat.le_refl 0) ⟨_, rfl, rfl, rfl, h⟩
  · have h := h.2 hc
    refine r_iload_n (x := x3) d_X5_layProduct_14 rfl ?_
    refine r_if_ne (tgt := 111) d_X5_layProduct_15 rfl (fun hc => ?_) (fun hc => ?_)
    · have h := h.1 hc
      refine r_iload_n (x := x3) d_X5_layProduct_111 rfl ?_
      exact r_iret d_X5_layProduct_112 rfl rfl (Nat.le_refl 0) (Nat.le_refl 0) ⟨_, rfl, rfl, rfl, h⟩
    · have h := h.2 hc
      refine r_iconst (x := 0) d_X5_layProduct_18 ⟨by decide, by decide⟩ ?_
      refine r_istore (L2 := [(2, t), (2, a1), (2, a2), (0, x3), (0, x4), (0, 0), (3, 0), (3, 0)]) d_X5_layProduct_19 (by decide) rfl rfl ?_
      exact h
theorem v_X5_layProduct_21 {l : Launch} {d N : Nat} {Λ : Lay} {P : Int → Mem → Prop} {σ : Mem} {x3 x4 x5 a1 a1_keys a1_numbers a2 a2_keys a2_numbers t : Int} (o_a2 : Ob N Λ a2 15 3) (o_a1 : Ob N Λ a1 15 3) (f_a1_keys : (Λ a1).2.2 0 = a1_keys) (f_a2_keys : (Λ a2).2.2 0 = a2_keys) (o_t : Ob N Λ t 15 3) (f_a1_numbers : (Λ a1).2.2 1 = a1_numbers) (f_a2_numbers : (Λ a2).2.2 1 = a2_numbers) (h0d : 1 ≤ d)
    (h : (((σ a2 2) ≤ x5 → (∀ y1, y1 = addI x4 1 → WI l mX5_layProduct d P 5 [(2, t), (2, a1), (2, a2), (0, x3), (0, y1), (3, 0), (3, 0), (3, 0)] [] N Λ σ)) ∧ (¬ ((σ a2 2) ≤ x5) → ((¬ x3 = 0 → (∀ y2, y2 = addI x4 1 → WI l mX5_layProduct d P 5 [(2, t), (2, a1), (2, a2), (0, x3), (0, y2), (3, 0), (3, 0), (3, 0)] [] N Λ σ)) ∧ (x3 = 0 → (Ix N Λ a1_keys 1 x4 ∧ (∀ y3, y3 = (σ a1_keys x4) → (CI l mX6_bracketsIn (d - 1) [(1, y3)] N Λ σ (fun v5 σ4 => (Ix N Λ a2_keys 1 x5 ∧ (CI l mX6_bracketsIn (d - 1) [(1, (σ4 a2_keys x5))] N Λ σ4 (fun v7 σ6 => (((addI v5 v7) ≤ 4 → (Ix N Λ a2_keys 1 x5 ∧ (CL l mX6_joined (d - 1) [(1, y3), (1, (σ6 a2_keys x5))] N Λ σ6 (fun v9 σ8 => (Ix N Λ a1_numbers 0 x4 ∧ (Ix N Λ a2_numbers 0 x5 ∧ (CI l mX5_lay (d - 1) [(2, t), (1, v9), (1, (mulL (σ8 a1_numbers x4) (σ8 a2_numbers x5)))] N Λ σ8 (fun v11 σ10 => (∀ y12, y12 = addI x5 1 → WI l mX5_layProduct d P 21 [(2, t), (2, a1), (2, a2), (0, v11), (0, x4), (0, y12), (3, 0), (3, 0)] [] N Λ σ10))))))))) ∧ (¬ ((addI v5 v7) ≤ 4) → P 2 σ6)))))))))))))) :
    WI l mX5_layProduct d P 21 [(2, t), (2, a1), (2, a2), (0, x3), (0, x4), (0, x5), (3, 0), (3, 0)] [] N Λ σ := by
  refine r_iload (x := x5) d_X5_layProduct_21 rfl ?_
  refine r_aload_n (x := a2) d_X5_layProduct_23 rfl o_a2.1 ?_
  refine r_getf (j := 2) (t := 0) (x := (σ a2 2)) d_X5_layProduct_24 kX5 (by decide) fl_X5_19 o_a2.1 o_a2.2.1 o_a2.2.2.1 o_a2.2.2.2 rfl rfl ?_
  refine r_ic_ge (tgt := 105) d_X5_layProduct_27 rfl (fun hc => ?_) (fun hc => ?_)
  · have h := h.1 hc
    refine x_iinc (x := x4) (L := [(2, t), (2, a1), (2, a2), (0, x3), (0, x4), (0, x5), (3, 0), (3, 0)]) d_X5_layProduct_105 rfl (by decide) rfl (fun y1 ey1 => ?_)
    have h := h y1 ey1
    show WP _ _ _ _ _ _ _ _ [(2, t), (2, a1), (2, a2), (0, x3), (0, y1), (0, x5), (3, 0), (3, 0)] _ _ _ _
    refine r_goto (tgt := 5) d_X5_layProduct_108 rfl ?_
    exact x_mask h ⟨Or.inr rfl, Or.inr rfl, Or.inr rfl, Or.inr rfl, Or.inr rfl, Or.inl rfl, Or.inl rfl, Or.inl rfl, trivial⟩
  · have h := h.2 hc
    refine r_iload_n (x := x3) d_X5_layProduct_30 rfl ?_
    refine r_if_ne (tgt := 105) d_X5_layProduct_31 rfl (fun hc => ?_) (fun hc => ?_)
    · have h := h.1 hc
      refine x_iinc (x := x4) (L := [(2, t), (2, a1), (2, a2), (0, x3), (0, x4), (0, x5), (3, 0), (3, 0)]) d_X5_layProduct_105 rfl (by decide) rfl (fun y2 ey2 => ?_)
      have h := h y2 ey2
      show WP _ _ _ _ _ _ _ _ [(2, t), (2, a1), (2, a2), (0, x3), (0, y2), (0, x5), (3, 0), (3, 0)] _ _ _ _
      refine r_goto (tgt := 5) d_X5_layProduct_108 rfl ?_
      exact x_mask h ⟨Or.inr rfl, Or.inr rfl, Or.inr rfl, Or.inr rfl, Or.inr rfl, Or.inl rfl, Or.inl rfl, Or.inl rfl, trivial⟩
    · have h := h.2 hc
      refine r_aload_n (x := a1) d_X5_layProduct_34 rfl o_a1.1 ?_
      refine r_getf (j := 0) (t := 2) (x := a1_keys) d_X5_layProduct_35 kX5 (by decide) fl_X5_9 o_a1.1 o_a1.2.1 o_a1.2.2.1 o_a1.2.2.2 rfl f_a1_keys ?_
      refine r_iload (x := x4) d_X5_layProduct_38 rfl ?_
      refine x_lald d_X5_layProduct_40 h.1 ?_
      have h := h.2
      refine r_nm (fun y3 ey3 => ?_)
      have h := h y3 ey3
      refine r_lstore (L2 := [(2, t), (2, a1), (2, a2), (0, x3), (0, x4), (0, x5), (1, y3), (3, 0)]) d_X5_layProduct_41 (by decide) rfl rfl ?_
      refine r_lload (x := y3) d_X5_layProduct_43 rfl ?_
      refine r_callS (Y2 := mX6_bracketsIn) (d := d - 1) (mc := 0) (ms := 0) (As := [(1, y3)]) (S := []) d_X5_layProduct_45 ok_mX6_bracketsIn ml_X5_41 rfl (rmc h0d (by decide)) rm00 (Nat.le_of_ble_eq_true rfl) rfl (MC.mono h (fun r N1 Λ1 σ4 hq => ?_))
      obtain ⟨v5, rfl, rfl, rfl, h⟩ := hq
      refine r_aload_n (x := a2) d_X5_layProduct_48 rfl o_a2.1 ?_
      refine r_getf (j := 0) (t := 2) (x := a2_keys) d_X5_layProduct_49 kX5 (by decide) fl_X5_9 o_a2.1 o_a2.2.1 o_a2.2.2.1 o_a2.2.2.2 rfl f_a2_keys ?_
      refine r_iload (x := x5) d_X5_layProduct_52 rfl ?_
      refine x_lald d_X5_layProduct_54 h.1 ?_
      have h := h.2
      refine r_callS (Y2 := mX6_bracketsIn) (d := d - 1) (mc := 0) (ms := 0) (As := [(1, (σ4 a2_keys x5))]) (S := [(0, v5)]) d_X5_layProduct_55 ok_mX6_bracketsIn ml_X5_41 rfl (rmc h0d (by decide)) rm00 (Nat.le_of_ble_eq_true rfl) rfl (MC.mono h (fun r N1 Λ1 σ6 hq => ?_))
      obtain ⟨v7, rfl, rfl, rfl, h⟩ := hq
      refine r_iadd d_X5_layProduct_58 ?_
      refine r_iconst (x := 4) d_X5_layProduct_59 ⟨by decide, by decide⟩ ?_
      refine r_ic_le (tgt := 65) d_X5_layProduct_60 rfl (fun hc => ?_) (fun hc => ?_)
      · have h := h.1 hc
        refine r_aload_n (x := t) d_X5_layProduct_65 rfl o_t.1 ?_
        refine r_lload (x := y3) d_X5_layProduct_66 rfl ?_
        refine r_aload_n (x := a2) d_X5_layProduct_68 rfl o_a2.1 ?_
        refine r_getf (j := 0) (t := 2) (x := a2_keys) d_X5_layProduct_69 kX5 (by decide) fl_X5_9 o_a2.1 o_a2.2.1 o_a2.2.2.1 o_a2.2.2.2 rfl f_a2_keys ?_
        refine r_iload (x := x5) d_X5_layProduct_72 rfl ?_
        refine x_lald d_X5_layProduct_74 h.1 ?_
        have h := h.2
        refine r_callS (Y2 := mX6_joined) (d := d - 1) (mc := 0) (ms := 0) (As := [(1, y3), (1, (σ6 a2_keys x5))]) (S := [(2, t)]) d_X5_layProduct_75 ok_mX6_joined ml_X5_46 rfl (rmc h0d (by decide)) rm00 (Nat.le_of_ble_eq_true rfl) rfl (MC.mono h (fun r N1 Λ1 σ8 hq => ?_))
        obtain ⟨v9, rfl, rfl, rfl, h⟩ := hq
        refine r_aload_n (x := a1) d_X5_layProduct_78 rfl o_a1.1 ?_
        refine r_getf (j := 1) (t := 2) (x := a1_numbers) d_X5_layProduct_79 kX5 (by decide) fl_X5_15 o_a1.1 o_a1.2.1 o_a1.2.2.1 o_a1.2.2.2 rfl f_a1_numbers ?_
        refine r_iload (x := x4) d_X5_layProduct_82 rfl ?_
        refine x_iald d_X5_layProduct_84 h.1 ?_
        have h := h.2
        refine r_i2l d_X5_layProduct_85 ?_
        refine r_aload_n (x := a2) d_X5_layProduct_86 rfl o_a2.1 ?_
        refine r_getf (j := 1) (t := 2) (x := a2_numbers) d_X5_layProduct_87 kX5 (by decide) fl_X5_15 o_a2.1 o_a2.2.1 o_a2.2.2.1 o_a2.2.2.2 rfl f_a2_numbers ?_
        refine r_iload (x := x5) d_X5_layProduct_90 rfl ?_
        refine x_iald d_X5_layProduct_92 h.1 ?_
        have h := h.2
        refine r_i2l d_X5_layProduct_93 ?_
        refine r_lmul d_X5_layProduct_94 ?_
        refine r_callV (Y2 := mX5_lay) (d := d - 1) (mc := 0) (ms := 0) (c := t) (As := [(1, v9), (1, (mulL (σ8 a1_numbers x4) (σ8 a2_numbers x5)))]) (S := []) d_X5_layProduct_95 ok_mX5_lay ml_X5_37 rfl (rmc h0d (by decide)) rm00 (Nat.le_of_ble_eq_true rfl) rfl kX5 o_t.1 o_t.2.1 o_t.2.2.1 o_t.2.2.2 (MC.mono h (fun r N1 Λ1 σ10 hq => ?_))
        obtain ⟨v11, rfl, rfl, rfl, h⟩ := hq
        refine r_istore_n (L2 := [(2, t), (2, a1), (2, a2), (0, v11), (0, x4), (0, x5), (1, y3), (3, 0)]) d_X5_layProduct_98 (by decide) rfl rfl ?_
        refine x_iinc (x := x5) (L := [(2, t), (2, a1), (2, a2), (0, v11), (0, x4), (0, x5), (1, y3), (3, 0)]) d_X5_layProduct_99 rfl (by decide) rfl (fun y12 ey12 => ?_)
        have h := h y12 ey12
        show WP _ _ _ _ _ _ _ _ [(2, t), (2, a1), (2, a2), (0, v11), (0, x4), (0, y12), (1, y3), (3, 0)] _ _ _ _
        refine r_goto (tgt := 21) d_X5_layProduct_102 rfl ?_
        exact x_mask h ⟨Or.inr rfl, Or.inr rfl, Or.inr rfl, Or.inr rfl, Or.inr rfl, Or.inr rfl, Or.inl rfl, Or.inl rfl, trivial⟩
      · have h := h.2 hc
        refine r_iconst (x := 2) d_X5_layProduct_63 ⟨by decide, by decide⟩ ?_
        exact r_iret d_X5_layProduct_64 rfl rfl (Nat.le_refl 0) (Nat.le_refl 0) ⟨_, rfl, rfl, rfl, h⟩
theorem v_X5_layUpon_0 {l : Launch} {d N : Nat} {Λ : Lay} {P : Int → Mem → Prop} {σ : Mem} {x1 x2 t t_keys t_numbers : Int} (o_t : Ob N Λ t 15 3) (f_t_numbers : (Λ t).2.2 1 = t_numbers) (f_t_keys : (Λ t).2.2 0 = t_keys) (h0d : 1 ≤ d)
    (h : (((cmpL x2 (l2iI x2)) = 0 → (Ix N Λ t_numbers 0 x1 ∧ (∀ τ1, τ1 = st σ t_numbers x1 (l2iI x2) → ((¬ (cmpL x2 0) = 0 → P 0 τ1) ∧ ((cmpL x2 0) = 0 → (∀ τ2, τ2 = st τ1 t 2 (subI (τ1 t 2) 1) → (Cp N Λ t_keys t_keys 1 (addI x1 1) x1 (subI (τ2 t 2) x1) ∧ ∀ τ3, τ3 = cpM τ2 t_keys (addI x1 1) t_keys x1 (subI (τ2 t 2) x1) → (Cp N Λ t_numbers t_numbers 0 (addI x1 1) x1 (subI (τ3 t 2) x1) ∧ ∀ τ4, τ4 = cpM τ3 t_numbers (addI x1 1) t_numbers x1 (subI (τ3 t 2) x1) → P 0 τ4)))))))) ∧ (¬ ((cmpL x2 (l2iI x2)) = 0) → P 4 σ))) :
    WI l mX5_layUpon d P 0 [(2, t), (0, x1), (1, x2), (3, 0)] [] N Λ σ := by
  refine r_lload_n (x := x2) d_X5_layUpon_0 rfl ?_
  refine r_lload_n (x := x2) d_X5_layUpon_1 rfl ?_
  refine r_l2i d_X5_layUpon_2 ?_
  refine r_i2l d_X5_layUpon_3 ?_
  refine r_lcmp d_X5_layUpon_4 ?_
  refine r_if_eq (tgt := 10) d_X5_layUpon_5 rfl (fun hc => ?_) (fun hc => ?_)
  · have h := h.1 hc
    refine r_aload_n (x := t) d_X5_layUpon_10 rfl o_t.1 ?_
    refine r_getf (j := 1) (t := 2) (x := t_numbers) d_X5_layUpon_11 kX5 (by decide) fl_X5_15 o_t.1 o_t.2.1 o_t.2.2.1 o_t.2.2.2 rfl f_t_numbers ?_
    refine r_iload_n (x := x1) d_X5_layUpon_14 rfl ?_
    refine r_lload_n (x := x2) d_X5_layUpon_15 rfl ?_
    refine r_l2i d_X5_layUpon_16 ?_
    refine x_iast d_X5_layUpon_17 h.1 ?_
    have h := h.2
    refine r_nmM (fun τ1 eτ1 => ?_)
    have h := h τ1 eτ1
    refine r_lload_n (x := x2) d_X5_layUpon_18 rfl ?_
    refine r_lconst d_X5_layUpon_19 ?_
    skip
    refine r_lcmp d_X5_layUpon_20 ?_
    refine r_if_ne (tgt := 76) d_X5_layUpon_21 rfl (fun hc => ?_) (fun hc => ?_)
    · have h := h.1 hc
      refine r_iconst (x := 0) d_X5_layUpon_76 ⟨by decide, by decide⟩ ?_
      exact r_iret d_X5_layUpon_77 rfl rfl (Nat.le_refl 0) (Nat.le_refl 0) ⟨_, rfl, rfl, rfl, h⟩
    · have h := h.2 hc
      refine r_aload_n (x := t) d_X5_layUpon_24 rfl o_t.1 ?_
      refine r_dup d_X5_layUpon_25 rfl ?_
      refine r_getf (j := 2) (t := 0) (x := (τ1 t 2)) d_X5_layUpon_26 kX5 (by decide) fl_X5_19 o_t.1 o_t.2.1 o_t.2.2.1 o_t.2.2.2 rfl rfl ?_
      refine r_iconst (x := 1) d_X5_layUpon_29 ⟨by decide, by decide⟩ ?_
      refine r_isub d_X5_layUpon_30 ?_
      refine r_putI (j := 2) d_X5_layUpon_31 kX5 (by decide) fl_X5_19 rfl o_t.1 o_t.2.1 o_t.2.2.1 o_t.2.2.2 rfl ?_
      refine r_nmM (fun τ2 eτ2 => ?_)
      have h := h τ2 eτ2
      refine r_aload_n (x := t) d_X5_layUpon_34 rfl o_t.1 ?_
      refine r_getf (j := 0) (t := 2) (x := t_keys) d_X5_layUpon_35 kX5 (by decide) fl_X5_9 o_t.1 o_t.2.1 o_t.2.2.1 o_t.2.2.2 rfl f_t_keys ?_
      refine r_iload_n (x := x1) d_X5_layUpon_38 rfl ?_
      refine r_iconst (x := 1) d_X5_layUpon_39 ⟨by decide, by decide⟩ ?_
      refine r_iadd d_X5_layUpon_40 ?_
      refine r_aload_n (x := t) d_X5_layUpon_41 rfl o_t.1 ?_
      refine r_getf (j := 0) (t := 2) (x := t_keys) d_X5_layUpon_42 kX5 (by decide) fl_X5_9 o_t.1 o_t.2.1 o_t.2.2.1 o_t.2.2.2 rfl f_t_keys ?_
      refine r_iload_n (x := x1) d_X5_layUpon_45 rfl ?_
      refine r_aload_n (x := t) d_X5_layUpon_46 rfl o_t.1 ?_
      refine r_getf (j := 2) (t := 0) (x := (τ2 t 2)) d_X5_layUpon_47 kX5 (by decide) fl_X5_19 o_t.1 o_t.2.1 o_t.2.2.1 o_t.2.2.2 rfl rfl ?_
      refine r_iload_n (x := x1) d_X5_layUpon_50 rfl ?_
      refine r_isub d_X5_layUpon_51 ?_
      refine x_acp1 d_X5_layUpon_52 ml_X5_23 h0d (Nat.le_of_ble_eq_true rfl) h.1 ?_
      have h := h.2
      refine r_nmM (fun τ3 eτ3 => ?_)
      have h := h τ3 eτ3
      refine r_aload_n (x := t) d_X5_layUpon_55 rfl o_t.1 ?_
      refine r_getf (j := 1) (t := 2) (x := t_numbers) d_X5_layUpon_56 kX5 (by decide) fl_X5_15 o_t.1 o_t.2.1 o_t.2.2.1 o_t.2.2.2 rfl f_t_numbers ?_
      refine r_iload_n (x := x1) d_X5_layUpon_59 rfl ?_
      refine r_iconst (x := 1) d_X5_layUpon_60 ⟨by decide, by decide⟩ ?_
      refine r_iadd d_X5_layUpon_61 ?_
      refine r_aload_n (x := t) d_X5_layUpon_62 rfl o_t.1 ?_
      refine r_getf (j := 1) (t := 2) (x := t_numbers) d_X5_layUpon_63 kX5 (by decide) fl_X5_15 o_t.1 o_t.2.1 o_t.2.2.1 o_t.2.2.2 rfl f_t_numbers ?_
      refine r_iload_n (x := x1) d_X5_layUpon_66 rfl ?_
      refine r_aload_n (x := t) d_X5_layUpon_67 rfl o_t.1 ?_
      refine r_getf (j := 2) (t := 0) (x := (τ3 t 2)) d_X5_layUpon_68 kX5 (by decide) fl_X5_19 o_t.1 o_t.2.1 o_t.2.2.1 o_t.2.2.2 rfl rfl ?_
      refine r_iload_n (x := x1) d_X5_layUpon_71 rfl ?_
      refine r_isub d_X5_layUpon_72 ?_
      refine x_acp0 d_X5_layUpon_73 ml_X5_23 h0d (Nat.le_of_ble_eq_true rfl) h.1 ?_
      have h := h.2
      refine r_nmM (fun τ4 eτ4 => ?_)
      have h := h τ4 eτ4
      refine r_iconst (x := 0) d_X5_layUpon_76 ⟨by decide, by decide⟩ ?_
      exact r_iret d_X5_layUpon_77 rfl rfl (Nat.le_refl 0) (Nat.le_refl 0) ⟨_, rfl, rfl, rfl, h⟩
  · have h := h.2 hc
    refine r_iconst (x := 4) d_X5_layUpon_8 ⟨by decide, by decide⟩ ?_
    exact r_iret d_X5_layUpon_9 rfl rfl (Nat.le_refl 0) (Nat.le_refl 0) ⟨_, rfl, rfl, rfl, h⟩
theorem v_X5_find_0 {l : Launch} {d N : Nat} {Λ : Lay} {P : Int → Mem → Prop} {σ : Mem} {x1 t : Int}
    (h : WI l mX5_find d P 6 [(2, t), (1, x1), (3, 0), (0, 0), (0, 64)] [] N Λ σ) :
    WI l mX5_find d P 0 [(2, t), (1, x1), (3, 0), (3, 0), (3, 0)] [] N Λ σ := by
  refine r_iconst (x := 0) d_X5_find_0 ⟨by decide, by decide⟩ ?_
  refine r_istore_n (L2 := [(2, t), (1, x1), (3, 0), (0, 0), (3, 0)]) d_X5_find_1 (by decide) rfl rfl ?_
  refine r_bipush (x := 64) d_X5_find_2 ⟨by decide, by decide⟩ (by decide) ?_
  refine r_istore (L2 := [(2, t), (1, x1), (3, 0), (0, 0), (0, 64)]) d_X5_find_4 (by decide) rfl rfl ?_
  exact h
theorem v_X5_find_6 {l : Launch} {d N : Nat} {Λ : Lay} {P : Int → Mem → Prop} {σ : Mem} {x1 x3 x4 t t_keys : Int} (o_t : Ob N Λ t 15 3) (f_t_keys : (Λ t).2.2 0 = t_keys)
    (h : ((x4 ≤ 0 → P x3 σ) ∧ (¬ (x4 ≤ 0) → (((σ t 2) < (addI x3 x4) → (∀ y1, y1 = (shrI x4 1) → WI l mX5_find d P 6 [(2, t), (1, x1), (3, 0), (0, x3), (0, y1)] [] N Λ σ)) ∧ (¬ ((σ t 2) < (addI x3 x4)) → (Ix N Λ t_keys 1 (subI (addI x3 x4) 1) ∧ ((0 ≤ (cmpL (σ t_keys (subI (addI x3 x4) 1)) x1) → (∀ y2, y2 = (shrI x4 1) → WI l mX5_find d P 6 [(2, t), (1, x1), (3, 0), (0, x3), (0, y2)] [] N Λ σ)) ∧ (¬ (0 ≤ (cmpL (σ t_keys (subI (addI x3 x4) 1)) x1)) → (∀ y3, y3 = (addI x3 x4) → (∀ y4, y4 = (shrI x4 1) → WI l mX5_find d P 6 [(2, t), (1, x1), (3, 0), (0, y3), (0, y4)] [] N Λ σ)))))))))) :
    WI l mX5_find d P 6 [(2, t), (1, x1), (3, 0), (0, x3), (0, x4)] [] N Λ σ := by
  refine r_iload (x := x4) d_X5_find_6 rfl ?_
  refine r_if_le (tgt := 52) d_X5_find_8 rfl (fun hc => ?_) (fun hc => ?_)
  · have h := h.1 hc
    refine r_iload_n (x := x3) d_X5_find_52 rfl ?_
    exact r_iret d_X5_find_53 rfl rfl (Nat.le_refl 0) (Nat.le_refl 0) ⟨_, rfl, rfl, rfl, h⟩
  · have h := h.2 hc
    refine r_iload_n (x := x3) d_X5_find_11 rfl ?_
    refine r_iload (x := x4) d_X5_find_12 rfl ?_
    refine r_iadd d_X5_find_14 ?_
    refine r_aload_n (x := t) d_X5_find_15 rfl o_t.1 ?_
    refine r_getf (j := 2) (t := 0) (x := (σ t 2)) d_X5_find_16 kX5 (by decide) fl_X5_19 o_t.1 o_t.2.1 o_t.2.2.1 o_t.2.2.2 rfl rfl ?_
    refine r_ic_gt (tgt := 43) d_X5_find_19 rfl (fun hc => ?_) (fun hc => ?_)
    · have h := h.1 hc
      refine r_iload (x := x4) d_X5_find_43 rfl ?_
      refine r_iconst (x := 1) d_X5_find_45 ⟨by decide, by decide⟩ ?_
      refine r_ishr d_X5_find_46 ?_
      refine r_nm (fun y1 ey1 => ?_)
      have h := h y1 ey1
      refine r_istore (L2 := [(2, t), (1, x1), (3, 0), (0, x3), (0, y1)]) d_X5_find_47 (by decide) rfl rfl ?_
      refine r_goto (tgt := 6) d_X5_find_49 rfl ?_
      exact h
    · have h := h.2 hc
      refine r_aload_n (x := t) d_X5_find_22 rfl o_t.1 ?_
      refine r_getf (j := 0) (t := 2) (x := t_keys) d_X5_find_23 kX5 (by decide) fl_X5_9 o_t.1 o_t.2.1 o_t.2.2.1 o_t.2.2.2 rfl f_t_keys ?_
      refine r_iload_n (x := x3) d_X5_find_26 rfl ?_
      refine r_iload (x := x4) d_X5_find_27 rfl ?_
      refine r_iadd d_X5_find_29 ?_
      refine r_iconst (x := 1) d_X5_find_30 ⟨by decide, by decide⟩ ?_
      refine r_isub d_X5_find_31 ?_
      refine x_lald d_X5_find_32 h.1 ?_
      have h := h.2
      refine r_lload_n (x := x1) d_X5_find_33 rfl ?_
      refine r_lcmp d_X5_find_34 ?_
      refine r_if_ge (tgt := 43) d_X5_find_35 rfl (fun hc => ?_) (fun hc => ?_)
      · have h := h.1 hc
        refine r_iload (x := x4) d_X5_find_43 rfl ?_
        refine r_iconst (x := 1) d_X5_find_45 ⟨by decide, by decide⟩ ?_
        refine r_ishr d_X5_find_46 ?_
        refine r_nm (fun y2 ey2 => ?_)
        have h := h y2 ey2
        refine r_istore (L2 := [(2, t), (1, x1), (3, 0), (0, x3), (0, y2)]) d_X5_find_47 (by decide) rfl rfl ?_
        refine r_goto (tgt := 6) d_X5_find_49 rfl ?_
        exact h
      · have h := h.2 hc
        refine r_iload_n (x := x3) d_X5_find_38 rfl ?_
        refine r_iload (x := x4) d_X5_find_39 rfl ?_
        refine r_iadd d_X5_find_41 ?_
        refine r_nm (fun y3 ey3 => ?_)
        have h := h y3 ey3
        refine r_istore_n (L2 := [(2, t), (1, x1), (3, 0), (0, y3), (0, x4)]) d_X5_find_42 (by decide) rfl rfl ?_
        refine r_iload (x := x4) d_X5_find_43 rfl ?_
        refine r_iconst (x := 1) d_X5_find_45 ⟨by decide, by decide⟩ ?_
        refine r_ishr d_X5_find_46 ?_
        refine r_nm (fun y4 ey4 => ?_)
        have h := h y4 ey4
        refine r_istore (L2 := [(2, t), (1, x1), (3, 0), (0, y3), (0, y4)]) d_X5_find_47 (by decide) rfl rfl ?_
        refine r_goto (tgt := 6) d_X5_find_49 rfl ?_
        exact h
theorem v_X6_row_0 {l : Launch} {d N : Nat} {Λ : Lay} {P : Int → Mem → Prop} {σ : Mem} {x0 x1 x2 : Int}
    (h : P (orI (orI (shlI x0 8) (shlI x1 4)) x2) σ) :
    WI l mX6_row d P 0 [(0, x0), (0, x1), (0, x2)] [] N Λ σ := by
  refine r_iload_n (x := x0) d_X6_row_0 rfl ?_
  refine r_bipush (x := 8) d_X6_row_1 ⟨by decide, by decide⟩ (by decide) ?_
  refine r_ishl d_X6_row_3 ?_
  refine r_iload_n (x := x1) d_X6_row_4 rfl ?_
  refine r_iconst (x := 4) d_X6_row_5 ⟨by decide, by decide⟩ ?_
  refine r_ishl d_X6_row_6 ?_
  refine r_ior d_X6_row_7 ?_
  refine r_iload_n (x := x2) d_X6_row_8 rfl ?_
  refine r_ior d_X6_row_9 ?_
  exact r_iret d_X6_row_10 rfl rfl (Nat.le_refl 0) (Nat.le_refl 0) ⟨_, rfl, rfl, rfl, h⟩
theorem v_X6_letter_0 {l : Launch} {d N : Nat} {Λ : Lay} {P : Int → Mem → Prop} {σ : Mem} {x0 x1 : Int}
    (h : P (andI (shrI x0 (mulI 4 (subI 2 x1))) 15) σ) :
    WI l mX6_letter d P 0 [(0, x0), (0, x1)] [] N Λ σ := by
  refine r_iload_n (x := x0) d_X6_letter_0 rfl ?_
  refine r_iconst (x := 4) d_X6_letter_1 ⟨by decide, by decide⟩ ?_
  refine r_iconst (x := 2) d_X6_letter_2 ⟨by decide, by decide⟩ ?_
  refine r_iload_n (x := x1) d_X6_letter_3 rfl ?_
  refine r_isub d_X6_letter_4 ?_
  refine r_imul d_X6_letter_5 ?_
  refine r_ishr d_X6_letter_6 ?_
  refine r_bipush (x := 15) d_X6_letter_7 ⟨by decide, by decide⟩ (by decide) ?_
  refine r_iand d_X6_letter_9 ?_
  exact r_iret d_X6_letter_10 rfl rfl (Nat.le_refl 0) (Nat.le_refl 0) ⟨_, rfl, rfl, rfl, h⟩
theorem v_X6_ordered_0 {l : Launch} {d N : Nat} {Λ : Lay} {P : Int → Mem → Prop} {σ : Mem} {x0 : Int}
    (h : (∀ y1, y1 = (andI (shrI x0 8) 15) → (∀ y2, y2 = (andI (shrI x0 4) 15) → (∀ y3, y3 = (andI x0 15) → ((y1 = y2 → WI l mX6_ordered d P 35 [(0, x0), (0, y1), (0, y2), (0, y3), (3, 0), (3, 0), (3, 0), (3, 0)] [] N Λ σ) ∧ (¬ (y1 = y2) → ((y1 = y3 → WI l mX6_ordered d P 35 [(0, x0), (0, y1), (0, y2), (0, y3), (3, 0), (3, 0), (3, 0), (3, 0)] [] N Λ σ) ∧ (¬ (y1 = y3) → ((¬ y2 = y3 → ((y2 ≤ y1 → WI l mX6_ordered d P 47 [(0, x0), (0, y1), (0, y2), (0, y3), (3, 0), (3, 0), (3, 0), (3, 0)] [(0, y2)] N Λ σ) ∧ (¬ (y2 ≤ y1) → WI l mX6_ordered d P 47 [(0, x0), (0, y1), (0, y2), (0, y3), (3, 0), (3, 0), (3, 0), (3, 0)] [(0, y1)] N Λ σ))) ∧ (y2 = y3 → WI l mX6_ordered d P 35 [(0, x0), (0, y1), (0, y2), (0, y3), (3, 0), (3, 0), (3, 0), (3, 0)] [] N Λ σ)))))))))) :
    WI l mX6_ordered d P 0 [(0, x0), (3, 0), (3, 0), (3, 0), (3, 0), (3, 0), (3, 0), (3, 0)] [] N Λ σ := by
  refine r_iload_n (x := x0) d_X6_ordered_0 rfl ?_
  refine r_bipush (x := 8) d_X6_ordered_1 ⟨by decide, by decide⟩ (by decide) ?_
  refine r_ishr d_X6_ordered_3 ?_
  refine r_bipush (x := 15) d_X6_ordered_4 ⟨by decide, by decide⟩ (by decide) ?_
  refine r_iand d_X6_ordered_6 ?_
  refine r_nm (fun y1 ey1 => ?_)
  have h := h y1 ey1
  refine r_istore_n (L2 := [(0, x0), (0, y1), (3, 0), (3, 0), (3, 0), (3, 0), (3, 0), (3, 0)]) d_X6_ordered_7 (by decide) rfl rfl ?_
  refine r_iload_n (x := x0) d_X6_ordered_8 rfl ?_
  refine r_iconst (x := 4) d_X6_ordered_9 ⟨by decide, by decide⟩ ?_
  refine r_ishr d_X6_ordered_10 ?_
  refine r_bipush (x := 15) d_X6_ordered_11 ⟨by decide, by decide⟩ (by decide) ?_
  refine r_iand d_X6_ordered_13 ?_
  refine r_nm (fun y2 ey2 => ?_)
  have h := h y2 ey2
  refine r_istore_n (L2 := [(0, x0), (0, y1), (0, y2), (3, 0), (3, 0), (3, 0), (3, 0), (3, 0)]) d_X6_ordered_14 (by decide) rfl rfl ?_
  refine r_iload_n (x := x0) d_X6_ordered_15 rfl ?_
  refine r_bipush (x := 15) d_X6_ordered_16 ⟨by decide, by decide⟩ (by decide) ?_
  refine r_iand d_X6_ordered_18 ?_
  refine r_nm (fun y3 ey3 => ?_)
  have h := h y3 ey3
  refine r_istore_n (L2 := [(0, x0), (0, y1), (0, y2), (0, y3), (3, 0), (3, 0), (3, 0), (3, 0)]) d_X6_ordered_19 (by decide) rfl rfl ?_
  refine r_iload_n (x := y1) d_X6_ordered_20 rfl ?_
  refine r_iload_n (x := y2) d_X6_ordered_21 rfl ?_
  refine r_ic_eq (tgt := 35) d_X6_ordered_22 rfl (fun hc => ?_) (fun hc => ?_)
  · have h := h.1 hc
    exact h
  · have h := h.2 hc
    refine r_iload_n (x := y1) d_X6_ordered_25 rfl ?_
    refine r_iload_n (x := y3) d_X6_ordered_26 rfl ?_
    refine r_ic_eq (tgt := 35) d_X6_ordered_27 rfl (fun hc => ?_) (fun hc => ?_)
    · have h := h.1 hc
      exact h
    · have h := h.2 hc
      refine r_iload_n (x := y2) d_X6_ordered_30 rfl ?_
      refine r_iload_n (x := y3) d_X6_ordered_31 rfl ?_
      refine r_ic_ne (tgt := 37) d_X6_ordered_32 rfl (fun hc => ?_) (fun hc => ?_)
      · have h := h.1 hc
        refine r_iload_n (x := y1) d_X6_ordered_37 rfl ?_
        refine r_iload_n (x := y2) d_X6_ordered_38 rfl ?_
        refine r_ic_ge (tgt := 46) d_X6_ordered_39 rfl (fun hc => ?_) (fun hc => ?_)
        · have h := h.1 hc
          refine r_iload_n (x := y2) d_X6_ordered_46 rfl ?_
          exact h
        · have h := h.2 hc
          refine r_iload_n (x := y1) d_X6_ordered_42 rfl ?_
          refine r_goto (tgt := 47) d_X6_ordered_43 rfl ?_
          exact h
      · have h := h.2 hc
        exact h
theorem v_X6_ordered_35 {l : Launch} {d N : Nat} {Λ : Lay} {P : Int → Mem → Prop} {σ : Mem} {x0 x1 x2 x3 : Int}
    (h : P 0 σ) :
    WI l mX6_ordered d P 35 [(0, x0), (0, x1), (0, x2), (0, x3), (3, 0), (3, 0), (3, 0), (3, 0)] [] N Λ σ := by
  refine r_iconst (x := 0) d_X6_ordered_35 ⟨by decide, by decide⟩ ?_
  exact r_iret d_X6_ordered_36 rfl rfl (Nat.le_refl 0) (Nat.le_refl 0) ⟨_, rfl, rfl, rfl, h⟩
theorem v_X6_ordered_47 {l : Launch} {d N : Nat} {Λ : Lay} {P : Int → Mem → Prop} {σ : Mem} {x0 x1 x2 x3 w0 : Int}
    (h : ((x3 ≤ w0 → WI l mX6_ordered d P 61 [(0, x0), (0, x1), (0, x2), (0, x3), (0, w0), (3, 0), (3, 0), (3, 0)] [(0, x3)] N Λ σ) ∧ (¬ (x3 ≤ w0) → WI l mX6_ordered d P 61 [(0, x0), (0, x1), (0, x2), (0, x3), (0, w0), (3, 0), (3, 0), (3, 0)] [(0, w0)] N Λ σ))) :
    WI l mX6_ordered d P 47 [(0, x0), (0, x1), (0, x2), (0, x3), (3, 0), (3, 0), (3, 0), (3, 0)] [(0, w0)] N Λ σ := by
  refine r_istore (L2 := [(0, x0), (0, x1), (0, x2), (0, x3), (0, w0), (3, 0), (3, 0), (3, 0)]) d_X6_ordered_47 (by decide) rfl rfl ?_
  refine r_iload (x := w0) d_X6_ordered_49 rfl ?_
  refine r_iload_n (x := x3) d_X6_ordered_51 rfl ?_
  refine r_ic_ge (tgt := 60) d_X6_ordered_52 rfl (fun hc => ?_) (fun hc => ?_)
  · have h := h.1 hc
    refine r_iload_n (x := x3) d_X6_ordered_60 rfl ?_
    exact h
  · have h := h.2 hc
    refine r_iload (x := w0) d_X6_ordered_55 rfl ?_
    refine r_goto (tgt := 61) d_X6_ordered_57 rfl ?_
    exact h
theorem v_X6_ordered_61 {l : Launch} {d N : Nat} {Λ : Lay} {P : Int → Mem → Prop} {σ : Mem} {x0 x1 x2 x3 x4 w0 : Int}
    (h : ((x1 ≤ x2 → WI l mX6_ordered d P 73 [(0, x0), (0, x1), (0, x2), (0, x3), (0, w0), (3, 0), (3, 0), (3, 0)] [(0, x2)] N Λ σ) ∧ (¬ (x1 ≤ x2) → WI l mX6_ordered d P 73 [(0, x0), (0, x1), (0, x2), (0, x3), (0, w0), (3, 0), (3, 0), (3, 0)] [(0, x1)] N Λ σ))) :
    WI l mX6_ordered d P 61 [(0, x0), (0, x1), (0, x2), (0, x3), (0, x4), (3, 0), (3, 0), (3, 0)] [(0, w0)] N Λ σ := by
  refine r_istore (L2 := [(0, x0), (0, x1), (0, x2), (0, x3), (0, w0), (3, 0), (3, 0), (3, 0)]) d_X6_ordered_61 (by decide) rfl rfl ?_
  refine r_iload_n (x := x1) d_X6_ordered_63 rfl ?_
  refine r_iload_n (x := x2) d_X6_ordered_64 rfl ?_
  refine r_ic_le (tgt := 72) d_X6_ordered_65 rfl (fun hc => ?_) (fun hc => ?_)
  · have h := h.1 hc
    refine r_iload_n (x := x2) d_X6_ordered_72 rfl ?_
    exact h
  · have h := h.2 hc
    refine r_iload_n (x := x1) d_X6_ordered_68 rfl ?_
    refine r_goto (tgt := 73) d_X6_ordered_69 rfl ?_
    exact h
theorem v_X6_ordered_73 {l : Launch} {d N : Nat} {Λ : Lay} {P : Int → Mem → Prop} {σ : Mem} {x0 x1 x2 x3 x4 w0 : Int}
    (h : ((w0 ≤ x3 → WI l mX6_ordered d P 87 [(0, x0), (0, x1), (0, x2), (0, x3), (0, x4), (0, w0), (3, 0), (3, 0)] [(0, x3)] N Λ σ) ∧ (¬ (w0 ≤ x3) → WI l mX6_ordered d P 87 [(0, x0), (0, x1), (0, x2), (0, x3), (0, x4), (0, w0), (3, 0), (3, 0)] [(0, w0)] N Λ σ))) :
    WI l mX6_ordered d P 73 [(0, x0), (0, x1), (0, x2), (0, x3), (0, x4), (3, 0), (3, 0), (3, 0)] [(0, w0)] N Λ σ := by
  refine r_istore (L2 := [(0, x0), (0, x1), (0, x2), (0, x3), (0, x4), (0, w0), (3, 0), (3, 0)]) d_X6_ordered_73 (by decide) rfl rfl ?_
  refine r_iload (x := w0) d_X6_ordered_75 rfl ?_
  refine r_iload_n (x := x3) d_X6_ordered_77 rfl ?_
  refine r_ic_le (tgt := 86) d_X6_ordered_78 rfl (fun hc => ?_) (fun hc => ?_)
  · have h := h.1 hc
    refine r_iload_n (x := x3) d_X6_ordered_86 rfl ?_
    exact h
  · have h := h.2 hc
    refine r_iload (x := w0) d_X6_ordered_81 rfl ?_
    refine r_goto (tgt := 87) d_X6_ordered_83 rfl ?_
    exact h
theorem v_X6_ordered_87 {l : Launch} {d N : Nat} {Λ : Lay} {P : Int → Mem → Prop} {σ : Mem} {x0 x1 x2 x3 x4 x5 w0 : Int}
    (h : (∀ y1, y1 = (orI (orI (shlI x4 8) (shlI (subI (subI (addI (addI x1 x2) x3) x4) w0) 4)) w0) → ((x1 ≤ x2 → WI l mX6_ordered d P 123 [(0, x0), (0, x1), (0, x2), (0, x3), (0, x4), (0, w0), (0, y1), (3, 0)] [(0, 0)] N Λ σ) ∧ (¬ (x1 ≤ x2) → WI l mX6_ordered d P 123 [(0, x0), (0, x1), (0, x2), (0, x3), (0, x4), (0, w0), (0, y1), (3, 0)] [(0, 1)] N Λ σ)))) :
    WI l mX6_ordered d P 87 [(0, x0), (0, x1), (0, x2), (0, x3), (0, x4), (0, x5), (3, 0), (3, 0)] [(0, w0)] N Λ σ := by
  refine r_istore (L2 := [(0, x0), (0, x1), (0, x2), (0, x3), (0, x4), (0, w0), (3, 0), (3, 0)]) d_X6_ordered_87 (by decide) rfl rfl ?_
  refine r_iload (x := x4) d_X6_ordered_89 rfl ?_
  refine r_bipush (x := 8) d_X6_ordered_91 ⟨by decide, by decide⟩ (by decide) ?_
  refine r_ishl d_X6_ordered_93 ?_
  refine r_iload_n (x := x1) d_X6_ordered_94 rfl ?_
  refine r_iload_n (x := x2) d_X6_ordered_95 rfl ?_
  refine r_iadd d_X6_ordered_96 ?_
  refine r_iload_n (x := x3) d_X6_ordered_97 rfl ?_
  refine r_iadd d_X6_ordered_98 ?_
  refine r_iload (x := x4) d_X6_ordered_99 rfl ?_
  refine r_isub d_X6_ordered_101 ?_
  refine r_iload (x := w0) d_X6_ordered_102 rfl ?_
  refine r_isub d_X6_ordered_104 ?_
  refine r_iconst (x := 4) d_X6_ordered_105 ⟨by decide, by decide⟩ ?_
  refine r_ishl d_X6_ordered_106 ?_
  refine r_ior d_X6_ordered_107 ?_
  refine r_iload (x := w0) d_X6_ordered_108 rfl ?_
  refine r_ior d_X6_ordered_110 ?_
  refine r_nm (fun y1 ey1 => ?_)
  have h := h y1 ey1
  refine r_istore (L2 := [(0, x0), (0, x1), (0, x2), (0, x3), (0, x4), (0, w0), (0, y1), (3, 0)]) d_X6_ordered_111 (by decide) rfl rfl ?_
  refine r_iload_n (x := x1) d_X6_ordered_113 rfl ?_
  refine r_iload_n (x := x2) d_X6_ordered_114 rfl ?_
  refine r_ic_le (tgt := 122) d_X6_ordered_115 rfl (fun hc => ?_) (fun hc => ?_)
  · have h := h.1 hc
    refine r_iconst (x := 0) d_X6_ordered_122 ⟨by decide, by decide⟩ ?_
    exact h
  · have h := h.2 hc
    refine r_iconst (x := 1) d_X6_ordered_118 ⟨by decide, by decide⟩ ?_
    refine r_goto (tgt := 123) d_X6_ordered_119 rfl ?_
    exact h
theorem v_X6_ordered_123 {l : Launch} {d N : Nat} {Λ : Lay} {P : Int → Mem → Prop} {σ : Mem} {x0 x1 x2 x3 x4 x5 x6 w0 : Int}
    (h : ((x1 ≤ x3 → WI l mX6_ordered d P 133 [(0, x0), (0, x1), (0, x2), (0, x3), (0, x4), (0, x5), (0, x6), (3, 0)] [(0, 0), (0, w0)] N Λ σ) ∧ (¬ (x1 ≤ x3) → WI l mX6_ordered d P 133 [(0, x0), (0, x1), (0, x2), (0, x3), (0, x4), (0, x5), (0, x6), (3, 0)] [(0, 1), (0, w0)] N Λ σ))) :
    WI l mX6_ordered d P 123 [(0, x0), (0, x1), (0, x2), (0, x3), (0, x4), (0, x5), (0, x6), (3, 0)] [(0, w0)] N Λ σ := by
  refine r_iload_n (x := x1) d_X6_ordered_123 rfl ?_
  refine r_iload_n (x := x3) d_X6_ordered_124 rfl ?_
  refine r_ic_le (tgt := 132) d_X6_ordered_125 rfl (fun hc => ?_) (fun hc => ?_)
  · have h := h.1 hc
    refine r_iconst (x := 0) d_X6_ordered_132 ⟨by decide, by decide⟩ ?_
    exact h
  · have h := h.2 hc
    refine r_iconst (x := 1) d_X6_ordered_128 ⟨by decide, by decide⟩ ?_
    refine r_goto (tgt := 133) d_X6_ordered_129 rfl ?_
    exact h
theorem v_X6_ordered_133 {l : Launch} {d N : Nat} {Λ : Lay} {P : Int → Mem → Prop} {σ : Mem} {x0 x1 x2 x3 x4 x5 x6 w0 w1 : Int}
    (h : ((x2 ≤ x3 → WI l mX6_ordered d P 144 [(0, x0), (0, x1), (0, x2), (0, x3), (0, x4), (0, x5), (0, x6), (3, 0)] [(0, 0), (0, (addI w1 w0))] N Λ σ) ∧ (¬ (x2 ≤ x3) → WI l mX6_ordered d P 144 [(0, x0), (0, x1), (0, x2), (0, x3), (0, x4), (0, x5), (0, x6), (3, 0)] [(0, 1), (0, (addI w1 w0))] N Λ σ))) :
    WI l mX6_ordered d P 133 [(0, x0), (0, x1), (0, x2), (0, x3), (0, x4), (0, x5), (0, x6), (3, 0)] [(0, w0), (0, w1)] N Λ σ := by
  refine r_iadd d_X6_ordered_133 ?_
  refine r_iload_n (x := x2) d_X6_ordered_134 rfl ?_
  refine r_iload_n (x := x3) d_X6_ordered_135 rfl ?_
  refine r_ic_le (tgt := 143) d_X6_ordered_136 rfl (fun hc => ?_) (fun hc => ?_)
  · have h := h.1 hc
    refine r_iconst (x := 0) d_X6_ordered_143 ⟨by decide, by decide⟩ ?_
    exact h
  · have h := h.2 hc
    refine r_iconst (x := 1) d_X6_ordered_139 ⟨by decide, by decide⟩ ?_
    refine r_goto (tgt := 144) d_X6_ordered_140 rfl ?_
    exact h
theorem v_X6_ordered_144 {l : Launch} {d N : Nat} {Λ : Lay} {P : Int → Mem → Prop} {σ : Mem} {x0 x1 x2 x3 x4 x5 x6 w0 w1 : Int}
    (h : (∀ y1, y1 = (addI w1 w0) → ((¬ (remI y1 2) = 0 → WI l mX6_ordered d P 162 [(0, x0), (0, x1), (0, x2), (0, x3), (0, x4), (0, x5), (0, x6), (0, y1)] [(0, (negI x6))] N Λ σ) ∧ ((remI y1 2) = 0 → WI l mX6_ordered d P 162 [(0, x0), (0, x1), (0, x2), (0, x3), (0, x4), (0, x5), (0, x6), (0, y1)] [(0, x6)] N Λ σ)))) :
    WI l mX6_ordered d P 144 [(0, x0), (0, x1), (0, x2), (0, x3), (0, x4), (0, x5), (0, x6), (3, 0)] [(0, w0), (0, w1)] N Λ σ := by
  refine r_iadd d_X6_ordered_144 ?_
  refine r_nm (fun y1 ey1 => ?_)
  have h := h y1 ey1
  refine r_istore (L2 := [(0, x0), (0, x1), (0, x2), (0, x3), (0, x4), (0, x5), (0, x6), (0, y1)]) d_X6_ordered_145 (by decide) rfl rfl ?_
  refine r_iload (x := y1) d_X6_ordered_147 rfl ?_
  refine r_iconst (x := 2) d_X6_ordered_149 ⟨by decide, by decide⟩ ?_
  refine r_irem d_X6_ordered_150 (by decide) ?_
  refine r_if_ne (tgt := 159) d_X6_ordered_151 rfl (fun hc => ?_) (fun hc => ?_)
  · have h := h.1 hc
    refine r_iload (x := x6) d_X6_ordered_159 rfl ?_
    refine r_ineg d_X6_ordered_161 ?_
    exact h
  · have h := h.2 hc
    refine r_iload (x := x6) d_X6_ordered_154 rfl ?_
    refine r_goto (tgt := 162) d_X6_ordered_156 rfl ?_
    exact h
theorem v_X6_ordered_162 {l : Launch} {d N : Nat} {Λ : Lay} {P : Int → Mem → Prop} {σ : Mem} {x0 x1 x2 x3 x4 x5 x6 x7 w0 : Int}
    (h : P w0 σ) :
    WI l mX6_ordered d P 162 [(0, x0), (0, x1), (0, x2), (0, x3), (0, x4), (0, x5), (0, x6), (0, x7)] [(0, w0)] N Λ σ := by
  exact r_iret d_X6_ordered_162 rfl rfl (Nat.le_refl 0) (Nat.le_refl 0) ⟨_, rfl, rfl, rfl, h⟩
theorem v_X6_indexOf_0 {l : Launch} {d N : Nat} {Λ : Lay} {P : Int → Mem → Prop} {σ : Mem} {x0 : Int} (h0d : 1 ≤ d)
    (h : (CI l mX6_letter (d - 1) [(0, x0), (0, 0)] N Λ σ (fun v2 σ1 => (CI l mX6_letter (d - 1) [(0, x0), (0, 1)] N Λ σ1 (fun v4 σ3 => (CI l mX6_letter (d - 1) [(0, x0), (0, 2)] N Λ σ3 (fun v6 σ5 => P (addI (addI (divI (mulI (mulI v6 (subI v6 1)) (subI v6 2)) 6) (divI (mulI v4 (subI v4 1)) 2)) v2) σ5))))))) :
    WI l mX6_indexOf d P 0 [(0, x0), (3, 0), (3, 0), (3, 0)] [] N Λ σ := by
  refine r_iload_n (x := x0) d_X6_indexOf_0 rfl ?_
  refine r_iconst (x := 0) d_X6_indexOf_1 ⟨by decide, by decide⟩ ?_
  refine r_callS (Y2 := mX6_letter) (d := d - 1) (mc := 0) (ms := 0) (As := [(0, x0), (0, 0)]) (S := []) d_X6_indexOf_2 ok_mX6_letter ml_X6_9 rfl (rmc h0d (by decide)) rm00 (Nat.le_of_ble_eq_true rfl) rfl (MC.mono h (fun r N1 Λ1 σ1 hq => ?_))
  obtain ⟨v2, rfl, rfl, rfl, h⟩ := hq
  refine r_istore_n (L2 := [(0, x0), (0, v2), (3, 0), (3, 0)]) d_X6_indexOf_5 (by decide) rfl rfl ?_
  refine r_iload_n (x := x0) d_X6_indexOf_6 rfl ?_
  refine r_iconst (x := 1) d_X6_indexOf_7 ⟨by decide, by decide⟩ ?_
  refine r_callS (Y2 := mX6_letter) (d := d - 1) (mc := 0) (ms := 0) (As := [(0, x0), (0, 1)]) (S := []) d_X6_indexOf_8 ok_mX6_letter ml_X6_9 rfl (rmc h0d (by decide)) rm00 (Nat.le_of_ble_eq_true rfl) rfl (MC.mono h (fun r N1 Λ1 σ3 hq => ?_))
  obtain ⟨v4, rfl, rfl, rfl, h⟩ := hq
  refine r_istore_n (L2 := [(0, x0), (0, v2), (0, v4), (3, 0)]) d_X6_indexOf_11 (by decide) rfl rfl ?_
  refine r_iload_n (x := x0) d_X6_indexOf_12 rfl ?_
  refine r_iconst (x := 2) d_X6_indexOf_13 ⟨by decide, by decide⟩ ?_
  refine r_callS (Y2 := mX6_letter) (d := d - 1) (mc := 0) (ms := 0) (As := [(0, x0), (0, 2)]) (S := []) d_X6_indexOf_14 ok_mX6_letter ml_X6_9 rfl (rmc h0d (by decide)) rm00 (Nat.le_of_ble_eq_true rfl) rfl (MC.mono h (fun r N1 Λ1 σ5 hq => ?_))
  obtain ⟨v6, rfl, rfl, rfl, h⟩ := hq
  refine r_istore_n (L2 := [(0, x0), (0, v2), (0, v4), (0, v6)]) d_X6_indexOf_17 (by decide) rfl rfl ?_
  refine r_iload_n (x := v6) d_X6_indexOf_18 rfl ?_
  refine r_iload_n (x := v6) d_X6_indexOf_19 rfl ?_
  refine r_iconst (x := 1) d_X6_indexOf_20 ⟨by decide, by decide⟩ ?_
  refine r_isub d_X6_indexOf_21 ?_
  refine r_imul d_X6_indexOf_22 ?_
  refine r_iload_n (x := v6) d_X6_indexOf_23 rfl ?_
  refine r_iconst (x := 2) d_X6_indexOf_24 ⟨by decide, by decide⟩ ?_
  refine r_isub d_X6_indexOf_25 ?_
  refine r_imul d_X6_indexOf_26 ?_
  refine r_bipush (x := 6) d_X6_indexOf_27 ⟨by decide, by decide⟩ (by decide) ?_
  refine r_idiv d_X6_indexOf_29 (by decide) ?_
  refine r_iload_n (x := v4) d_X6_indexOf_30 rfl ?_
  refine r_iload_n (x := v4) d_X6_indexOf_31 rfl ?_
  refine r_iconst (x := 1) d_X6_indexOf_32 ⟨by decide, by decide⟩ ?_
  refine r_isub d_X6_indexOf_33 ?_
  refine r_imul d_X6_indexOf_34 ?_
  refine r_iconst (x := 2) d_X6_indexOf_35 ⟨by decide, by decide⟩ ?_
  refine r_idiv d_X6_indexOf_36 (by decide) ?_
  refine r_iadd d_X6_indexOf_37 ?_
  refine r_iload_n (x := v2) d_X6_indexOf_38 rfl ?_
  refine r_iadd d_X6_indexOf_39 ?_
  exact r_iret d_X6_indexOf_40 rfl rfl (Nat.le_refl 0) (Nat.le_refl 0) ⟨_, rfl, rfl, rfl, h⟩
theorem v_X6_bracketAt_0 {l : Launch} {d N : Nat} {Λ : Lay} {P : Int → Mem → Prop} {σ : Mem} {x0 x2 : Int}
    (h : P (andI (l2iI (ushrL x0 (mulI 12 (subI 3 x2)))) 4095) σ) :
    WI l mX6_bracketAt d P 0 [(1, x0), (3, 0), (0, x2)] [] N Λ σ := by
  refine r_lload_n (x := x0) d_X6_bracketAt_0 rfl ?_
  refine r_bipush (x := 12) d_X6_bracketAt_1 ⟨by decide, by decide⟩ (by decide) ?_
  refine r_iconst (x := 3) d_X6_bracketAt_3 ⟨by decide, by decide⟩ ?_
  refine r_iload_n (x := x2) d_X6_bracketAt_4 rfl ?_
  refine r_isub d_X6_bracketAt_5 ?_
  refine r_imul d_X6_bracketAt_6 ?_
  refine r_lushr d_X6_bracketAt_7 ?_
  refine r_l2i d_X6_bracketAt_8 ?_
  refine r_sipush (x := 4095) d_X6_bracketAt_9 ⟨by decide, by decide⟩ (by decide) ?_
  refine r_iand d_X6_bracketAt_12 ?_
  exact r_iret d_X6_bracketAt_13 rfl rfl (Nat.le_refl 0) (Nat.le_refl 0) ⟨_, rfl, rfl, rfl, h⟩
theorem v_X6_bracketsIn_0 {l : Launch} {d N : Nat} {Λ : Lay} {P : Int → Mem → Prop} {σ : Mem} {x0 : Int}
    (h : WI l mX6_bracketsIn d P 2 [(1, x0), (3, 0), (0, 0)] [] N Λ σ) :
    WI l mX6_bracketsIn d P 0 [(1, x0), (3, 0), (3, 0)] [] N Λ σ := by
  refine r_iconst (x := 0) d_X6_bracketsIn_0 ⟨by decide, by decide⟩ ?_
  refine r_istore_n (L2 := [(1, x0), (3, 0), (0, 0)]) d_X6_bracketsIn_1 (by decide) rfl rfl ?_
  exact h
theorem v_X6_bracketsIn_2 {l : Launch} {d N : Nat} {Λ : Lay} {P : Int → Mem → Prop} {σ : Mem} {x0 x2 : Int} (h0d : 1 ≤ d)
    (h : ((4 ≤ x2 → P x2 σ) ∧ (¬ (4 ≤ x2) → (CI l mX6_bracketAt (d - 1) [(1, x0), (0, x2)] N Λ σ (fun v2 σ1 => ((v2 = 0 → P x2 σ1) ∧ (¬ (v2 = 0) → (∀ y3, y3 = addI x2 1 → WI l mX6_bracketsIn d P 2 [(1, x0), (3, 0), (0, y3)] [] N Λ σ1)))))))) :
    WI l mX6_bracketsIn d P 2 [(1, x0), (3, 0), (0, x2)] [] N Λ σ := by
  refine r_iload_n (x := x2) d_X6_bracketsIn_2 rfl ?_
  refine r_iconst (x := 4) d_X6_bracketsIn_3 ⟨by decide, by decide⟩ ?_
  refine r_ic_ge (tgt := 21) d_X6_bracketsIn_4 rfl (fun hc => ?_) (fun hc => ?_)
  · have h := h.1 hc
    refine r_iload_n (x := x2) d_X6_bracketsIn_21 rfl ?_
    exact r_iret d_X6_bracketsIn_22 rfl rfl (Nat.le_refl 0) (Nat.le_refl 0) ⟨_, rfl, rfl, rfl, h⟩
  · have h := h.2 hc
    refine r_lload_n (x := x0) d_X6_bracketsIn_7 rfl ?_
    refine r_iload_n (x := x2) d_X6_bracketsIn_8 rfl ?_
    refine r_callS (Y2 := mX6_bracketAt) (d := d - 1) (mc := 0) (ms := 0) (As := [(1, x0), (0, x2)]) (S := []) d_X6_bracketsIn_9 ok_mX6_bracketAt ml_X6_15 rfl (rmc h0d (by decide)) rm00 (Nat.le_of_ble_eq_true rfl) rfl (MC.mono h (fun r N1 Λ1 σ1 hq => ?_))
    obtain ⟨v2, rfl, rfl, rfl, h⟩ := hq
    refine r_if_eq (tgt := 21) d_X6_bracketsIn_12 rfl (fun hc => ?_) (fun hc => ?_)
    · have h := h.1 hc
      refine r_iload_n (x := x2) d_X6_bracketsIn_21 rfl ?_
      exact r_iret d_X6_bracketsIn_22 rfl rfl (Nat.le_refl 0) (Nat.le_refl 0) ⟨_, rfl, rfl, rfl, h⟩
    · have h := h.2 hc
      refine x_iinc (x := x2) (L := [(1, x0), (3, 0), (0, x2)]) d_X6_bracketsIn_15 rfl (by decide) rfl (fun y3 ey3 => ?_)
      have h := h y3 ey3
      show WP _ _ _ _ _ _ _ _ [(1, x0), (3, 0), (0, y3)] _ _ _ _
      refine r_goto (tgt := 2) d_X6_bracketsIn_18 rfl ?_
      exact h
theorem v_X6_letterOfKey_0 {l : Launch} {d N : Nat} {Λ : Lay} {P : Int → Mem → Prop} {σ : Mem} {x0 x2 : Int} (h0d : 1 ≤ d)
    (h : (CI l mX6_bracketAt (d - 1) [(1, x0), (0, (divI x2 3))] N Λ σ (fun v2 σ1 => ((¬ v2 = 0 → (CI l mX6_letter (d - 1) [(0, v2), (0, (remI x2 3))] N Λ σ1 (fun v4 σ3 => P v4 σ3))) ∧ (v2 = 0 → P (-1) σ1))))) :
    WI l mX6_letterOfKey d P 0 [(1, x0), (3, 0), (0, x2), (3, 0)] [] N Λ σ := by
  refine r_lload_n (x := x0) d_X6_letterOfKey_0 rfl ?_
  refine r_iload_n (x := x2) d_X6_letterOfKey_1 rfl ?_
  refine r_iconst (x := 3) d_X6_letterOfKey_2 ⟨by decide, by decide⟩ ?_
  refine r_idiv d_X6_letterOfKey_3 (by decide) ?_
  refine r_callS (Y2 := mX6_bracketAt) (d := d - 1) (mc := 0) (ms := 0) (As := [(1, x0), (0, (divI x2 3))]) (S := []) d_X6_letterOfKey_4 ok_mX6_bracketAt ml_X6_15 rfl (rmc h0d (by decide)) rm00 (Nat.le_of_ble_eq_true rfl) rfl (MC.mono h (fun r N1 Λ1 σ1 hq => ?_))
  obtain ⟨v2, rfl, rfl, rfl, h⟩ := hq
  refine r_istore_n (L2 := [(1, x0), (3, 0), (0, x2), (0, v2)]) d_X6_letterOfKey_7 (by decide) rfl rfl ?_
  refine r_iload_n (x := v2) d_X6_letterOfKey_8 rfl ?_
  refine r_if_ne (tgt := 16) d_X6_letterOfKey_9 rfl (fun hc => ?_) (fun hc => ?_)
  · have h := h.1 hc
    refine r_iload_n (x := v2) d_X6_letterOfKey_16 rfl ?_
    refine r_iload_n (x := x2) d_X6_letterOfKey_17 rfl ?_
    refine r_iconst (x := 3) d_X6_letterOfKey_18 ⟨by decide, by decide⟩ ?_
    refine r_irem d_X6_letterOfKey_19 (by decide) ?_
    refine r_callS (Y2 := mX6_letter) (d := d - 1) (mc := 0) (ms := 0) (As := [(0, v2), (0, (remI x2 3))]) (S := []) d_X6_letterOfKey_20 ok_mX6_letter ml_X6_9 rfl (rmc h0d (by decide)) rm00 (Nat.le_of_ble_eq_true rfl) rfl (MC.mono h (fun r N1 Λ1 σ3 hq => ?_))
    obtain ⟨v4, rfl, rfl, rfl, h⟩ := hq
    exact r_iret d_X6_letterOfKey_23 rfl rfl (Nat.le_refl 0) (Nat.le_refl 0) ⟨_, rfl, rfl, rfl, h⟩
  · have h := h.2 hc
    refine r_iconst (x := (-1)) d_X6_letterOfKey_12 ⟨by decide, by decide⟩ ?_
    refine r_goto (tgt := 23) d_X6_letterOfKey_13 rfl ?_
    exact r_iret d_X6_letterOfKey_23 rfl rfl (Nat.le_refl 0) (Nat.le_refl 0) ⟨_, rfl, rfl, rfl, h⟩
theorem v_X6_timesOf_0 {l : Launch} {d N : Nat} {Λ : Lay} {P : Int → Mem → Prop} {σ : Mem} {x0 x2 : Int}
    (h : WI l mX6_timesOf d P 5 [(1, x0), (3, 0), (0, x2), (0, 0), (0, 0)] [] N Λ σ) :
    WI l mX6_timesOf d P 0 [(1, x0), (3, 0), (0, x2), (3, 0), (3, 0)] [] N Λ σ := by
  refine r_iconst (x := 0) d_X6_timesOf_0 ⟨by decide, by decide⟩ ?_
  refine r_istore_n (L2 := [(1, x0), (3, 0), (0, x2), (0, 0), (3, 0)]) d_X6_timesOf_1 (by decide) rfl rfl ?_
  refine r_iconst (x := 0) d_X6_timesOf_2 ⟨by decide, by decide⟩ ?_
  refine r_istore (L2 := [(1, x0), (3, 0), (0, x2), (0, 0), (0, 0)]) d_X6_timesOf_3 (by decide) rfl rfl ?_
  exact h
theorem v_X6_timesOf_5 {l : Launch} {d N : Nat} {Λ : Lay} {P : Int → Mem → Prop} {σ : Mem} {x0 x2 x3 x4 : Int} (h0d : 1 ≤ d)
    (h : ((12 ≤ x4 → P x3 σ) ∧ (¬ (12 ≤ x4) → (CI l mX6_letterOfKey (d - 1) [(1, x0), (0, x4)] N Λ σ (fun v2 σ1 => ((¬ v2 = x2 → (∀ y3, y3 = addI x4 1 → WI l mX6_timesOf d P 5 [(1, x0), (3, 0), (0, x2), (0, x3), (0, y3)] [] N Λ σ1)) ∧ (v2 = x2 → (∀ y4, y4 = addI x3 1 → (∀ y5, y5 = addI x4 1 → WI l mX6_timesOf d P 5 [(1, x0), (3, 0), (0, x2), (0, y4), (0, y5)] [] N Λ σ1))))))))) :
    WI l mX6_timesOf d P 5 [(1, x0), (3, 0), (0, x2), (0, x3), (0, x4)] [] N Λ σ := by
  refine r_iload (x := x4) d_X6_timesOf_5 rfl ?_
  refine r_bipush (x := 12) d_X6_timesOf_7 ⟨by decide, by decide⟩ (by decide) ?_
  refine r_ic_ge (tgt := 31) d_X6_timesOf_9 rfl (fun hc => ?_) (fun hc => ?_)
  · have h := h.1 hc
    refine r_iload_n (x := x3) d_X6_timesOf_31 rfl ?_
    exact r_iret d_X6_timesOf_32 rfl rfl (Nat.le_refl 0) (Nat.le_refl 0) ⟨_, rfl, rfl, rfl, h⟩
  · have h := h.2 hc
    refine r_lload_n (x := x0) d_X6_timesOf_12 rfl ?_
    refine r_iload (x := x4) d_X6_timesOf_13 rfl ?_
    refine r_callS (Y2 := mX6_letterOfKey) (d := d - 1) (mc := 0) (ms := 0) (As := [(1, x0), (0, x4)]) (S := []) d_X6_timesOf_15 ok_mX6_letterOfKey ml_X6_19 rfl (rmc h0d (by decide)) rm00 (Nat.le_of_ble_eq_true rfl) rfl (MC.mono h (fun r N1 Λ1 σ1 hq => ?_))
    obtain ⟨v2, rfl, rfl, rfl, h⟩ := hq
    refine r_iload_n (x := x2) d_X6_timesOf_18 rfl ?_
    refine r_ic_ne (tgt := 25) d_X6_timesOf_19 rfl (fun hc => ?_) (fun hc => ?_)
    · have h := h.1 hc
      refine x_iinc (x := x4) (L := [(1, x0), (3, 0), (0, x2), (0, x3), (0, x4)]) d_X6_timesOf_25 rfl (by decide) rfl (fun y3 ey3 => ?_)
      have h := h y3 ey3
      show WP _ _ _ _ _ _ _ _ [(1, x0), (3, 0), (0, x2), (0, x3), (0, y3)] _ _ _ _
      refine r_goto (tgt := 5) d_X6_timesOf_28 rfl ?_
      exact h
    · have h := h.2 hc
      refine x_iinc (x := x3) (L := [(1, x0), (3, 0), (0, x2), (0, x3), (0, x4)]) d_X6_timesOf_22 rfl (by decide) rfl (fun y4 ey4 => ?_)
      have h := h y4 ey4
      show WP _ _ _ _ _ _ _ _ [(1, x0), (3, 0), (0, x2), (0, y4), (0, x4)] _ _ _ _
      refine x_iinc (x := x4) (L := [(1, x0), (3, 0), (0, x2), (0, y4), (0, x4)]) d_X6_timesOf_25 rfl (by decide) rfl (fun y5 ey5 => ?_)
      have h := h y5 ey5
      show WP _ _ _ _ _ _ _ _ [(1, x0), (3, 0), (0, x2), (0, y4), (0, y5)] _ _ _ _
      refine r_goto (tgt := 5) d_X6_timesOf_28 rfl ?_
      exact h
theorem v_X6_with_0 {l : Launch} {d N : Nat} {Λ : Lay} {P : Int → Mem → Prop} {σ : Mem} {x0 x2 : Int}
    (h : WL l mX6_with d P 3 [(1, x0), (3, 0), (0, x2), (0, 36), (3, 0), (3, 0), (3, 0)] [] N Λ σ) :
    WL l mX6_with d P 0 [(1, x0), (3, 0), (0, x2), (3, 0), (3, 0), (3, 0), (3, 0)] [] N Λ σ := by
  refine r_bipush (x := 36) d_X6_with_0 ⟨by decide, by decide⟩ (by decide) ?_
  refine r_istore_n (L2 := [(1, x0), (3, 0), (0, x2), (0, 36), (3, 0), (3, 0), (3, 0)]) d_X6_with_2 (by decide) rfl rfl ?_
  exact h
theorem v_X6_with_3 {l : Launch} {d N : Nat} {Λ : Lay} {P : Int → Mem → Prop} {σ : Mem} {x0 x2 x3 : Int}
    (h : ((x3 < 0 → P x0 σ) ∧ (¬ (x3 < 0) → (∀ y1, y1 = (andI (l2iI (ushrL x0 x3)) 4095) → ((y1 = 0 → (∀ y2, y2 = (andL x0 (subL (shlL 1 (addI x3 12)) 1)) → P (orL (orL (subL x0 y2) (shlL x2 x3)) (ushrL y2 12)) σ)) ∧ (¬ (y1 = 0) → ((y1 ≤ x2 → (∀ y3, y3 = addI x3 (-12) → WL l mX6_with d P 3 [(1, x0), (3, 0), (0, x2), (0, y3), (3, 0), (3, 0), (3, 0)] [] N Λ σ)) ∧ (¬ (y1 ≤ x2) → (∀ y4, y4 = (andL x0 (subL (shlL 1 (addI x3 12)) 1)) → P (orL (orL (subL x0 y4) (shlL x2 x3)) (ushrL y4 12)) σ))))))))) :
    WL l mX6_with d P 3 [(1, x0), (3, 0), (0, x2), (0, x3), (3, 0), (3, 0), (3, 0)] [] N Λ σ := by
  refine r_iload_n (x := x3) d_X6_with_3 rfl ?_
  refine r_if_lt (tgt := 62) d_X6_with_4 rfl (fun hc => ?_) (fun hc => ?_)
  · have h := h.1 hc
    refine r_lload_n (x := x0) d_X6_with_62 rfl ?_
    exact r_lret d_X6_with_63 rfl (Nat.le_refl 0) (Nat.le_refl 0) ⟨_, rfl, rfl, rfl, h⟩
  · have h := h.2 hc
    refine r_lload_n (x := x0) d_X6_with_7 rfl ?_
    refine r_iload_n (x := x3) d_X6_with_8 rfl ?_
    refine r_lushr d_X6_with_9 ?_
    refine r_l2i d_X6_with_10 ?_
    refine r_sipush (x := 4095) d_X6_with_11 ⟨by decide, by decide⟩ (by decide) ?_
    refine r_iand d_X6_with_14 ?_
    refine r_nm (fun y1 ey1 => ?_)
    have h := h y1 ey1
    refine r_istore (L2 := [(1, x0), (3, 0), (0, x2), (0, x3), (0, y1), (3, 0), (3, 0)]) d_X6_with_15 (by decide) rfl rfl ?_
    refine r_iload (x := y1) d_X6_with_17 rfl ?_
    refine r_if_eq (tgt := 28) d_X6_with_19 rfl (fun hc => ?_) (fun hc => ?_)
    · have h := h.1 hc
      refine r_lload_n (x := x0) d_X6_with_28 rfl ?_
      refine r_lconst d_X6_with_29 ?_
      skip
      refine r_iload_n (x := x3) d_X6_with_30 rfl ?_
      refine r_bipush (x := 12) d_X6_with_31 ⟨by decide, by decide⟩ (by decide) ?_
      refine r_iadd d_X6_with_33 ?_
      refine r_lshl d_X6_with_34 ?_
      refine r_lconst d_X6_with_35 ?_
      skip
      refine r_lsub d_X6_with_36 ?_
      refine r_land d_X6_with_37 ?_
      refine r_nm (fun y2 ey2 => ?_)
      have h := h y2 ey2
      refine r_lstore (L2 := [(1, x0), (3, 0), (0, x2), (0, x3), (0, y1), (1, y2), (3, 0)]) d_X6_with_38 (by decide) rfl rfl ?_
      refine r_lload_n (x := x0) d_X6_with_40 rfl ?_
      refine r_lload (x := y2) d_X6_with_41 rfl ?_
      refine r_lsub d_X6_with_43 ?_
      refine r_iload_n (x := x2) d_X6_with_44 rfl ?_
      refine r_i2l d_X6_with_45 ?_
      refine r_iload_n (x := x3) d_X6_with_46 rfl ?_
      refine r_lshl d_X6_with_47 ?_
      refine r_lor d_X6_with_48 ?_
      refine r_lload (x := y2) d_X6_with_49 rfl ?_
      refine r_bipush (x := 12) d_X6_with_51 ⟨by decide, by decide⟩ (by decide) ?_
      refine r_lushr d_X6_with_53 ?_
      refine r_lor d_X6_with_54 ?_
      exact r_lret d_X6_with_55 rfl (Nat.le_refl 0) (Nat.le_refl 0) ⟨_, rfl, rfl, rfl, h⟩
    · have h := h.2 hc
      refine r_iload (x := y1) d_X6_with_22 rfl ?_
      refine r_iload_n (x := x2) d_X6_with_24 rfl ?_
      refine r_ic_le (tgt := 56) d_X6_with_25 rfl (fun hc => ?_) (fun hc => ?_)
      · have h := h.1 hc
        refine x_iinc (x := x3) (L := [(1, x0), (3, 0), (0, x2), (0, x3), (0, y1), (3, 0), (3, 0)]) d_X6_with_56 rfl (by decide) rfl (fun y3 ey3 => ?_)
        have h := h y3 ey3
        show WP _ _ _ _ _ _ _ _ [(1, x0), (3, 0), (0, x2), (0, y3), (0, y1), (3, 0), (3, 0)] _ _ _ _
        refine r_goto (tgt := 3) d_X6_with_59 rfl ?_
        exact x_mask h ⟨Or.inr rfl, Or.inl rfl, Or.inr rfl, Or.inr rfl, Or.inl rfl, Or.inl rfl, Or.inl rfl, trivial⟩
      · have h := h.2 hc
        refine r_lload_n (x := x0) d_X6_with_28 rfl ?_
        refine r_lconst d_X6_with_29 ?_
        skip
        refine r_iload_n (x := x3) d_X6_with_30 rfl ?_
        refine r_bipush (x := 12) d_X6_with_31 ⟨by decide, by decide⟩ (by decide) ?_
        refine r_iadd d_X6_with_33 ?_
        refine r_lshl d_X6_with_34 ?_
        refine r_lconst d_X6_with_35 ?_
        skip
        refine r_lsub d_X6_with_36 ?_
        refine r_land d_X6_with_37 ?_
        refine r_nm (fun y4 ey4 => ?_)
        have h := h y4 ey4
        refine r_lstore (L2 := [(1, x0), (3, 0), (0, x2), (0, x3), (0, y1), (1, y4), (3, 0)]) d_X6_with_38 (by decide) rfl rfl ?_
        refine r_lload_n (x := x0) d_X6_with_40 rfl ?_
        refine r_lload (x := y4) d_X6_with_41 rfl ?_
        refine r_lsub d_X6_with_43 ?_
        refine r_iload_n (x := x2) d_X6_with_44 rfl ?_
        refine r_i2l d_X6_with_45 ?_
        refine r_iload_n (x := x3) d_X6_with_46 rfl ?_
        refine r_lshl d_X6_with_47 ?_
        refine r_lor d_X6_with_48 ?_
        refine r_lload (x := y4) d_X6_with_49 rfl ?_
        refine r_bipush (x := 12) d_X6_with_51 ⟨by decide, by decide⟩ (by decide) ?_
        refine r_lushr d_X6_with_53 ?_
        refine r_lor d_X6_with_54 ?_
        exact r_lret d_X6_with_55 rfl (Nat.le_refl 0) (Nat.le_refl 0) ⟨_, rfl, rfl, rfl, h⟩
theorem v_X6_withoutTwo_0 {l : Launch} {d N : Nat} {Λ : Lay} {P : Int → Mem → Prop} {σ : Mem} {x0 x2 : Int}
    (h : WL l mX6_withoutTwo d P 5 [(1, x0), (3, 0), (0, x2), (1, 0), (3, 0), (0, 0), (3, 0)] [] N Λ σ) :
    WL l mX6_withoutTwo d P 0 [(1, x0), (3, 0), (0, x2), (3, 0), (3, 0), (3, 0), (3, 0)] [] N Λ σ := by
  refine r_lconst d_X6_withoutTwo_0 ?_
  skip
  refine r_lstore_n (L2 := [(1, x0), (3, 0), (0, x2), (1, 0), (3, 0), (3, 0), (3, 0)]) d_X6_withoutTwo_1 (by decide) rfl rfl ?_
  refine r_iconst (x := 0) d_X6_withoutTwo_2 ⟨by decide, by decide⟩ ?_
  refine r_istore (L2 := [(1, x0), (3, 0), (0, x2), (1, 0), (3, 0), (0, 0), (3, 0)]) d_X6_withoutTwo_3 (by decide) rfl rfl ?_
  exact h
theorem v_X6_withoutTwo_5 {l : Launch} {d N : Nat} {Λ : Lay} {P : Int → Mem → Prop} {σ : Mem} {x0 x2 x3 x5 : Int} (h0d : 1 ≤ d)
    (h : ((4 ≤ x5 → P x3 σ) ∧ (¬ (4 ≤ x5) → (CI l mX6_bracketAt (d - 1) [(1, x0), (0, x5)] N Λ σ (fun v2 σ1 => ((x5 = x2 → (∀ y3, y3 = addI x5 1 → WL l mX6_withoutTwo d P 5 [(1, x0), (3, 0), (0, x2), (1, x3), (3, 0), (0, y3), (3, 0)] [] N Λ σ1)) ∧ (¬ (x5 = x2) → ((x5 = (addI x2 1) → (∀ y4, y4 = addI x5 1 → WL l mX6_withoutTwo d P 5 [(1, x0), (3, 0), (0, x2), (1, x3), (3, 0), (0, y4), (3, 0)] [] N Λ σ1)) ∧ (¬ (x5 = (addI x2 1)) → ((v2 = 0 → (∀ y5, y5 = addI x5 1 → WL l mX6_withoutTwo d P 5 [(1, x0), (3, 0), (0, x2), (1, x3), (3, 0), (0, y5), (3, 0)] [] N Λ σ1)) ∧ (¬ (v2 = 0) → (CL l mX6_with (d - 1) [(1, x3), (0, v2)] N Λ σ1 (fun v7 σ6 => (∀ y8, y8 = addI x5 1 → WL l mX6_withoutTwo d P 5 [(1, x0), (3, 0), (0, x2), (1, v7), (3, 0), (0, y8), (3, 0)] [] N Λ σ6)))))))))))))) :
    WL l mX6_withoutTwo d P 5 [(1, x0), (3, 0), (0, x2), (1, x3), (3, 0), (0, x5), (3, 0)] [] N Λ σ := by
  refine r_iload (x := x5) d_X6_withoutTwo_5 rfl ?_
  refine r_iconst (x := 4) d_X6_withoutTwo_7 ⟨by decide, by decide⟩ ?_
  refine r_ic_ge (tgt := 51) d_X6_withoutTwo_8 rfl (fun hc => ?_) (fun hc => ?_)
  · have h := h.1 hc
    refine r_lload_n (x := x3) d_X6_withoutTwo_51 rfl ?_
    exact r_lret d_X6_withoutTwo_52 rfl (Nat.le_refl 0) (Nat.le_refl 0) ⟨_, rfl, rfl, rfl, h⟩
  · have h := h.2 hc
    refine r_lload_n (x := x0) d_X6_withoutTwo_11 rfl ?_
    refine r_iload (x := x5) d_X6_withoutTwo_12 rfl ?_
    refine r_callS (Y2 := mX6_bracketAt) (d := d - 1) (mc := 0) (ms := 0) (As := [(1, x0), (0, x5)]) (S := []) d_X6_withoutTwo_14 ok_mX6_bracketAt ml_X6_15 rfl (rmc h0d (by decide)) rm00 (Nat.le_of_ble_eq_true rfl) rfl (MC.mono h (fun r N1 Λ1 σ1 hq => ?_))
    obtain ⟨v2, rfl, rfl, rfl, h⟩ := hq
    refine r_istore (L2 := [(1, x0), (3, 0), (0, x2), (1, x3), (3, 0), (0, x5), (0, v2)]) d_X6_withoutTwo_17 (by decide) rfl rfl ?_
    refine r_iload (x := x5) d_X6_withoutTwo_19 rfl ?_
    refine r_iload_n (x := x2) d_X6_withoutTwo_21 rfl ?_
    refine r_ic_eq (tgt := 45) d_X6_withoutTwo_22 rfl (fun hc => ?_) (fun hc => ?_)
    · have h := h.1 hc
      refine x_iinc (x := x5) (L := [(1, x0), (3, 0), (0, x2), (1, x3), (3, 0), (0, x5), (0, v2)]) d_X6_withoutTwo_45 rfl (by decide) rfl (fun y3 ey3 => ?_)
      have h := h y3 ey3
      show WP _ _ _ _ _ _ _ _ [(1, x0), (3, 0), (0, x2), (1, x3), (3, 0), (0, y3), (0, v2)] _ _ _ _
      refine r_goto (tgt := 5) d_X6_withoutTwo_48 rfl ?_
      exact x_mask h ⟨Or.inr rfl, Or.inl rfl, Or.inr rfl, Or.inr rfl, Or.inl rfl, Or.inr rfl, Or.inl rfl, trivial⟩
    · have h := h.2 hc
      refine r_iload (x := x5) d_X6_withoutTwo_25 rfl ?_
      refine r_iload_n (x := x2) d_X6_withoutTwo_27 rfl ?_
      refine r_iconst (x := 1) d_X6_withoutTwo_28 ⟨by decide, by decide⟩ ?_
      refine r_iadd d_X6_withoutTwo_29 ?_
      refine r_ic_eq (tgt := 45) d_X6_withoutTwo_30 rfl (fun hc => ?_) (fun hc => ?_)
      · have h := h.1 hc
        refine x_iinc (x := x5) (L := [(1, x0), (3, 0), (0, x2), (1, x3), (3, 0), (0, x5), (0, v2)]) d_X6_withoutTwo_45 rfl (by decide) rfl (fun y4 ey4 => ?_)
        have h := h y4 ey4
        show WP _ _ _ _ _ _ _ _ [(1, x0), (3, 0), (0, x2), (1, x3), (3, 0), (0, y4), (0, v2)] _ _ _ _
        refine r_goto (tgt := 5) d_X6_withoutTwo_48 rfl ?_
        exact x_mask h ⟨Or.inr rfl, Or.inl rfl, Or.inr rfl, Or.inr rfl, Or.inl rfl, Or.inr rfl, Or.inl rfl, trivial⟩
      · have h := h.2 hc
        refine r_iload (x := v2) d_X6_withoutTwo_33 rfl ?_
        refine r_if_eq (tgt := 45) d_X6_withoutTwo_35 rfl (fun hc => ?_) (fun hc => ?_)
        · have h := h.1 hc
          refine x_iinc (x := x5) (L := [(1, x0), (3, 0), (0, x2), (1, x3), (3, 0), (0, x5), (0, v2)]) d_X6_withoutTwo_45 rfl (by decide) rfl (fun y5 ey5 => ?_)
          have h := h y5 ey5
          show WP _ _ _ _ _ _ _ _ [(1, x0), (3, 0), (0, x2), (1, x3), (3, 0), (0, y5), (0, v2)] _ _ _ _
          refine r_goto (tgt := 5) d_X6_withoutTwo_48 rfl ?_
          exact x_mask h ⟨Or.inr rfl, Or.inl rfl, Or.inr rfl, Or.inr rfl, Or.inl rfl, Or.inr rfl, Or.inl rfl, trivial⟩
        · have h := h.2 hc
          refine r_lload_n (x := x3) d_X6_withoutTwo_38 rfl ?_
          refine r_iload (x := v2) d_X6_withoutTwo_39 rfl ?_
          refine r_callS (Y2 := mX6_with) (d := d - 1) (mc := 0) (ms := 0) (As := [(1, x3), (0, v2)]) (S := []) d_X6_withoutTwo_41 ok_mX6_with ml_X6_22 rfl (rmc h0d (by decide)) rm00 (Nat.le_of_ble_eq_true rfl) rfl (MC.mono h (fun r N1 Λ1 σ6 hq => ?_))
          obtain ⟨v7, rfl, rfl, rfl, h⟩ := hq
          refine r_lstore_n (L2 := [(1, x0), (3, 0), (0, x2), (1, v7), (3, 0), (0, x5), (0, v2)]) d_X6_withoutTwo_44 (by decide) rfl rfl ?_
          refine x_iinc (x := x5) (L := [(1, x0), (3, 0), (0, x2), (1, v7), (3, 0), (0, x5), (0, v2)]) d_X6_withoutTwo_45 rfl (by decide) rfl (fun y8 ey8 => ?_)
          have h := h y8 ey8
          show WP _ _ _ _ _ _ _ _ [(1, x0), (3, 0), (0, x2), (1, v7), (3, 0), (0, y8), (0, v2)] _ _ _ _
          refine r_goto (tgt := 5) d_X6_withoutTwo_48 rfl ?_
          exact x_mask h ⟨Or.inr rfl, Or.inl rfl, Or.inr rfl, Or.inr rfl, Or.inl rfl, Or.inr rfl, Or.inl rfl, trivial⟩
theorem v_X6_joined_0 {l : Launch} {d N : Nat} {Λ : Lay} {P : Int → Mem → Prop} {σ : Mem} {x0 x2 : Int}
    (h : WL l mX6_joined d P 6 [(1, x0), (3, 0), (1, x2), (3, 0), (1, x0), (3, 0), (0, 0), (3, 0)] [] N Λ σ) :
    WL l mX6_joined d P 0 [(1, x0), (3, 0), (1, x2), (3, 0), (3, 0), (3, 0), (3, 0), (3, 0)] [] N Λ σ := by
  refine r_lload_n (x := x0) d_X6_joined_0 rfl ?_
  refine r_lstore (L2 := [(1, x0), (3, 0), (1, x2), (3, 0), (1, x0), (3, 0), (3, 0), (3, 0)]) d_X6_joined_1 (by decide) rfl rfl ?_
  refine r_iconst (x := 0) d_X6_joined_3 ⟨by decide, by decide⟩ ?_
  refine r_istore (L2 := [(1, x0), (3, 0), (1, x2), (3, 0), (1, x0), (3, 0), (0, 0), (3, 0)]) d_X6_joined_4 (by decide) rfl rfl ?_
  exact h
theorem v_X6_joined_6 {l : Launch} {d N : Nat} {Λ : Lay} {P : Int → Mem → Prop} {σ : Mem} {x0 x2 x4 x6 : Int} (h0d : 1 ≤ d)
    (h : ((4 ≤ x6 → P x4 σ) ∧ (¬ (4 ≤ x6) → (CI l mX6_bracketAt (d - 1) [(1, x2), (0, x6)] N Λ σ (fun v2 σ1 => ((v2 = 0 → (∀ y3, y3 = addI x6 1 → WL l mX6_joined d P 6 [(1, x0), (3, 0), (1, x2), (3, 0), (1, x4), (3, 0), (0, y3), (3, 0)] [] N Λ σ1)) ∧ (¬ (v2 = 0) → (CL l mX6_with (d - 1) [(1, x4), (0, v2)] N Λ σ1 (fun v5 σ4 => (∀ y6, y6 = addI x6 1 → WL l mX6_joined d P 6 [(1, x0), (3, 0), (1, x2), (3, 0), (1, v5), (3, 0), (0, y6), (3, 0)] [] N Λ σ4)))))))))) :
    WL l mX6_joined d P 6 [(1, x0), (3, 0), (1, x2), (3, 0), (1, x4), (3, 0), (0, x6), (3, 0)] [] N Λ σ := by
  refine r_iload (x := x6) d_X6_joined_6 rfl ?_
  refine r_iconst (x := 4) d_X6_joined_8 ⟨by decide, by decide⟩ ?_
  refine r_ic_ge (tgt := 40) d_X6_joined_9 rfl (fun hc => ?_) (fun hc => ?_)
  · have h := h.1 hc
    refine r_lload (x := x4) d_X6_joined_40 rfl ?_
    exact r_lret d_X6_joined_42 rfl (Nat.le_refl 0) (Nat.le_refl 0) ⟨_, rfl, rfl, rfl, h⟩
  · have h := h.2 hc
    refine r_lload_n (x := x2) d_X6_joined_12 rfl ?_
    refine r_iload (x := x6) d_X6_joined_13 rfl ?_
    refine r_callS (Y2 := mX6_bracketAt) (d := d - 1) (mc := 0) (ms := 0) (As := [(1, x2), (0, x6)]) (S := []) d_X6_joined_15 ok_mX6_bracketAt ml_X6_15 rfl (rmc h0d (by decide)) rm00 (Nat.le_of_ble_eq_true rfl) rfl (MC.mono h (fun r N1 Λ1 σ1 hq => ?_))
    obtain ⟨v2, rfl, rfl, rfl, h⟩ := hq
    refine r_istore (L2 := [(1, x0), (3, 0), (1, x2), (3, 0), (1, x4), (3, 0), (0, x6), (0, v2)]) d_X6_joined_18 (by decide) rfl rfl ?_
    refine r_iload (x := v2) d_X6_joined_20 rfl ?_
    refine r_if_eq (tgt := 34) d_X6_joined_22 rfl (fun hc => ?_) (fun hc => ?_)
    · have h := h.1 hc
      refine x_iinc (x := x6) (L := [(1, x0), (3, 0), (1, x2), (3, 0), (1, x4), (3, 0), (0, x6), (0, v2)]) d_X6_joined_34 rfl (by decide) rfl (fun y3 ey3 => ?_)
      have h := h y3 ey3
      show WP _ _ _ _ _ _ _ _ [(1, x0), (3, 0), (1, x2), (3, 0), (1, x4), (3, 0), (0, y3), (0, v2)] _ _ _ _
      refine r_goto (tgt := 6) d_X6_joined_37 rfl ?_
      exact x_mask h ⟨Or.inr rfl, Or.inl rfl, Or.inr rfl, Or.inl rfl, Or.inr rfl, Or.inl rfl, Or.inr rfl, Or.inl rfl, trivial⟩
    · have h := h.2 hc
      refine r_lload (x := x4) d_X6_joined_25 rfl ?_
      refine r_iload (x := v2) d_X6_joined_27 rfl ?_
      refine r_callS (Y2 := mX6_with) (d := d - 1) (mc := 0) (ms := 0) (As := [(1, x4), (0, v2)]) (S := []) d_X6_joined_29 ok_mX6_with ml_X6_22 rfl (rmc h0d (by decide)) rm00 (Nat.le_of_ble_eq_true rfl) rfl (MC.mono h (fun r N1 Λ1 σ4 hq => ?_))
      obtain ⟨v5, rfl, rfl, rfl, h⟩ := hq
      refine r_lstore (L2 := [(1, x0), (3, 0), (1, x2), (3, 0), (1, v5), (3, 0), (0, x6), (0, v2)]) d_X6_joined_32 (by decide) rfl rfl ?_
      refine x_iinc (x := x6) (L := [(1, x0), (3, 0), (1, x2), (3, 0), (1, v5), (3, 0), (0, x6), (0, v2)]) d_X6_joined_34 rfl (by decide) rfl (fun y6 ey6 => ?_)
      have h := h y6 ey6
      show WP _ _ _ _ _ _ _ _ [(1, x0), (3, 0), (1, x2), (3, 0), (1, v5), (3, 0), (0, y6), (0, v2)] _ _ _ _
      refine r_goto (tgt := 6) d_X6_joined_37 rfl ?_
      exact x_mask h ⟨Or.inr rfl, Or.inl rfl, Or.inr rfl, Or.inl rfl, Or.inr rfl, Or.inl rfl, Or.inr rfl, Or.inl rfl, trivial⟩
theorem v_X6_breakOf_0 {l : Launch} {d N : Nat} {Λ : Lay} {P : Int → Mem → Prop} {σ : Mem} {x0 : Int}
    (h : WI l mX6_breakOf d P 2 [(1, x0), (3, 0), (0, 0), (3, 0), (3, 0)] [] N Λ σ) :
    WI l mX6_breakOf d P 0 [(1, x0), (3, 0), (3, 0), (3, 0), (3, 0)] [] N Λ σ := by
  refine r_iconst (x := 0) d_X6_breakOf_0 ⟨by decide, by decide⟩ ?_
  refine r_istore_n (L2 := [(1, x0), (3, 0), (0, 0), (3, 0), (3, 0)]) d_X6_breakOf_1 (by decide) rfl rfl ?_
  exact h
theorem v_X6_breakOf_2 {l : Launch} {d N : Nat} {Λ : Lay} {P : Int → Mem → Prop} {σ : Mem} {x0 x2 : Int} (h0d : 1 ≤ d)
    (h : ((4 ≤ (addI x2 1) → P 0 σ) ∧ (¬ (4 ≤ (addI x2 1)) → (CI l mX6_bracketAt (d - 1) [(1, x0), (0, (addI x2 1))] N Λ σ (fun v2 σ1 => ((¬ v2 = 0 → (CI l mX6_bracketAt (d - 1) [(1, x0), (0, x2)] N Λ σ1 (fun v4 σ3 => (CI l mX6_breakBetween (d - 1) [(0, v4), (0, v2)] N Λ σ3 (fun v6 σ5 => ((v6 = 0 → (∀ y7, y7 = addI x2 1 → WI l mX6_breakOf d P 2 [(1, x0), (3, 0), (0, y7), (3, 0), (3, 0)] [] N Λ σ5)) ∧ (¬ (v6 = 0) → P (addI (mulI 4 x2) v6) σ5))))))) ∧ (v2 = 0 → P 0 σ1))))))) :
    WI l mX6_breakOf d P 2 [(1, x0), (3, 0), (0, x2), (3, 0), (3, 0)] [] N Λ σ := by
  refine r_iload_n (x := x2) d_X6_breakOf_2 rfl ?_
  refine r_iconst (x := 1) d_X6_breakOf_3 ⟨by decide, by decide⟩ ?_
  refine r_iadd d_X6_breakOf_4 ?_
  refine r_iconst (x := 4) d_X6_breakOf_5 ⟨by decide, by decide⟩ ?_
  refine r_ic_ge (tgt := 52) d_X6_breakOf_6 rfl (fun hc => ?_) (fun hc => ?_)
  · have h := h.1 hc
    refine r_iconst (x := 0) d_X6_breakOf_52 ⟨by decide, by decide⟩ ?_
    exact r_iret d_X6_breakOf_53 rfl rfl (Nat.le_refl 0) (Nat.le_refl 0) ⟨_, rfl, rfl, rfl, h⟩
  · have h := h.2 hc
    refine r_lload_n (x := x0) d_X6_breakOf_9 rfl ?_
    refine r_iload_n (x := x2) d_X6_breakOf_10 rfl ?_
    refine r_iconst (x := 1) d_X6_breakOf_11 ⟨by decide, by decide⟩ ?_
    refine r_iadd d_X6_breakOf_12 ?_
    refine r_callS (Y2 := mX6_bracketAt) (d := d - 1) (mc := 0) (ms := 0) (As := [(1, x0), (0, (addI x2 1))]) (S := []) d_X6_breakOf_13 ok_mX6_bracketAt ml_X6_15 rfl (rmc h0d (by decide)) rm00 (Nat.le_of_ble_eq_true rfl) rfl (MC.mono h (fun r N1 Λ1 σ1 hq => ?_))
    obtain ⟨v2, rfl, rfl, rfl, h⟩ := hq
    refine r_istore_n (L2 := [(1, x0), (3, 0), (0, x2), (0, v2), (3, 0)]) d_X6_breakOf_16 (by decide) rfl rfl ?_
    refine r_iload_n (x := v2) d_X6_breakOf_17 rfl ?_
    refine r_if_ne (tgt := 23) d_X6_breakOf_18 rfl (fun hc => ?_) (fun hc => ?_)
    · have h := h.1 hc
      refine r_lload_n (x := x0) d_X6_breakOf_23 rfl ?_
      refine r_iload_n (x := x2) d_X6_breakOf_24 rfl ?_
      refine r_callS (Y2 := mX6_bracketAt) (d := d - 1) (mc := 0) (ms := 0) (As := [(1, x0), (0, x2)]) (S := []) d_X6_breakOf_25 ok_mX6_bracketAt ml_X6_15 rfl (rmc h0d (by decide)) rm00 (Nat.le_of_ble_eq_true rfl) rfl (MC.mono h (fun r N1 Λ1 σ3 hq => ?_))
      obtain ⟨v4, rfl, rfl, rfl, h⟩ := hq
      refine r_iload_n (x := v2) d_X6_breakOf_28 rfl ?_
      refine r_callS (Y2 := mX6_breakBetween) (d := d - 1) (mc := 0) (ms := 0) (As := [(0, v4), (0, v2)]) (S := []) d_X6_breakOf_29 ok_mX6_breakBetween ml_X6_26 rfl (rmc h0d (by decide)) rm00 (Nat.le_of_ble_eq_true rfl) rfl (MC.mono h (fun r N1 Λ1 σ5 hq => ?_))
      obtain ⟨v6, rfl, rfl, rfl, h⟩ := hq
      refine r_istore (L2 := [(1, x0), (3, 0), (0, x2), (0, v2), (0, v6)]) d_X6_breakOf_32 (by decide) rfl rfl ?_
      refine r_iload (x := v6) d_X6_breakOf_34 rfl ?_
      refine r_if_eq (tgt := 46) d_X6_breakOf_36 rfl (fun hc => ?_) (fun hc => ?_)
      · have h := h.1 hc
        refine x_iinc (x := x2) (L := [(1, x0), (3, 0), (0, x2), (0, v2), (0, v6)]) d_X6_breakOf_46 rfl (by decide) rfl (fun y7 ey7 => ?_)
        have h := h y7 ey7
        show WP _ _ _ _ _ _ _ _ [(1, x0), (3, 0), (0, y7), (0, v2), (0, v6)] _ _ _ _
        refine r_goto (tgt := 2) d_X6_breakOf_49 rfl ?_
        exact x_mask h ⟨Or.inr rfl, Or.inl rfl, Or.inr rfl, Or.inl rfl, Or.inl rfl, trivial⟩
      · have h := h.2 hc
        refine r_iconst (x := 4) d_X6_breakOf_39 ⟨by decide, by decide⟩ ?_
        refine r_iload_n (x := x2) d_X6_breakOf_40 rfl ?_
        refine r_imul d_X6_breakOf_41 ?_
        refine r_iload (x := v6) d_X6_breakOf_42 rfl ?_
        refine r_iadd d_X6_breakOf_44 ?_
        exact r_iret d_X6_breakOf_45 rfl rfl (Nat.le_refl 0) (Nat.le_refl 0) ⟨_, rfl, rfl, rfl, h⟩
    · have h := h.2 hc
      refine r_iconst (x := 0) d_X6_breakOf_21 ⟨by decide, by decide⟩ ?_
      exact r_iret d_X6_breakOf_22 rfl rfl (Nat.le_refl 0) (Nat.le_refl 0) ⟨_, rfl, rfl, rfl, h⟩
theorem v_X6_bracketOfBreak_0 {l : Launch} {d N : Nat} {Λ : Lay} {P : Int → Mem → Prop} {σ : Mem} {x0 : Int}
    (h : P (divI x0 4) σ) :
    WI l mX6_bracketOfBreak d P 0 [(0, x0)] [] N Λ σ := by
  refine r_iload_n (x := x0) d_X6_bracketOfBreak_0 rfl ?_
  refine r_iconst (x := 4) d_X6_bracketOfBreak_1 ⟨by decide, by decide⟩ ?_
  refine r_idiv d_X6_bracketOfBreak_2 (by decide) ?_
  exact r_iret d_X6_bracketOfBreak_3 rfl rfl (Nat.le_refl 0) (Nat.le_refl 0) ⟨_, rfl, rfl, rfl, h⟩
theorem v_X6_placeOfBreak_0 {l : Launch} {d N : Nat} {Λ : Lay} {P : Int → Mem → Prop} {σ : Mem} {x0 : Int}
    (h : P (remI x0 4) σ) :
    WI l mX6_placeOfBreak d P 0 [(0, x0)] [] N Λ σ := by
  refine r_iload_n (x := x0) d_X6_placeOfBreak_0 rfl ?_
  refine r_iconst (x := 4) d_X6_placeOfBreak_1 ⟨by decide, by decide⟩ ?_
  refine r_irem d_X6_placeOfBreak_2 (by decide) ?_
  exact r_iret d_X6_placeOfBreak_3 rfl rfl (Nat.le_refl 0) (Nat.le_refl 0) ⟨_, rfl, rfl, rfl, h⟩
theorem v_X6_breakBetween_0 {l : Launch} {d N : Nat} {Λ : Lay} {P : Int → Mem → Prop} {σ : Mem} {x0 x1 : Int}
    (h : WI l mX6_breakBetween d P 2 [(0, x0), (0, x1), (0, 1)] [] N Λ σ) :
    WI l mX6_breakBetween d P 0 [(0, x0), (0, x1), (3, 0)] [] N Λ σ := by
  refine r_iconst (x := 1) d_X6_breakBetween_0 ⟨by decide, by decide⟩ ?_
  refine r_istore_n (L2 := [(0, x0), (0, x1), (0, 1)]) d_X6_breakBetween_1 (by decide) rfl rfl ?_
  exact h
theorem v_X6_breakBetween_2 {l : Launch} {d N : Nat} {Λ : Lay} {P : Int → Mem → Prop} {σ : Mem} {x0 x1 x2 : Int} (h0d : 1 ≤ d)
    (h : ((3 < x2 → P 0 σ) ∧ (¬ (3 < x2) → (CI l mX6_letter (d - 1) [(0, x0), (0, (subI x2 1))] N Λ σ (fun v2 σ1 => (CI l mX6_letter (d - 1) [(0, x1), (0, (subI x2 1))] N Λ σ1 (fun v4 σ3 => ((v2 ≤ v4 → (∀ y5, y5 = addI x2 1 → WI l mX6_breakBetween d P 2 [(0, x0), (0, x1), (0, y5)] [] N Λ σ3)) ∧ (¬ (v2 ≤ v4) → P x2 σ3))))))))) :
    WI l mX6_breakBetween d P 2 [(0, x0), (0, x1), (0, x2)] [] N Λ σ := by
  refine r_iload_n (x := x2) d_X6_breakBetween_2 rfl ?_
  refine r_iconst (x := 3) d_X6_breakBetween_3 ⟨by decide, by decide⟩ ?_
  refine r_ic_gt (tgt := 32) d_X6_breakBetween_4 rfl (fun hc => ?_) (fun hc => ?_)
  · have h := h.1 hc
    refine r_iconst (x := 0) d_X6_breakBetween_32 ⟨by decide, by decide⟩ ?_
    exact r_iret d_X6_breakBetween_33 rfl rfl (Nat.le_refl 0) (Nat.le_refl 0) ⟨_, rfl, rfl, rfl, h⟩
  · have h := h.2 hc
    refine r_iload_n (x := x0) d_X6_breakBetween_7 rfl ?_
    refine r_iload_n (x := x2) d_X6_breakBetween_8 rfl ?_
    refine r_iconst (x := 1) d_X6_breakBetween_9 ⟨by decide, by decide⟩ ?_
    refine r_isub d_X6_breakBetween_10 ?_
    refine r_callS (Y2 := mX6_letter) (d := d - 1) (mc := 0) (ms := 0) (As := [(0, x0), (0, (subI x2 1))]) (S := []) d_X6_breakBetween_11 ok_mX6_letter ml_X6_9 rfl (rmc h0d (by decide)) rm00 (Nat.le_of_ble_eq_true rfl) rfl (MC.mono h (fun r N1 Λ1 σ1 hq => ?_))
    obtain ⟨v2, rfl, rfl, rfl, h⟩ := hq
    refine r_iload_n (x := x1) d_X6_breakBetween_14 rfl ?_
    refine r_iload_n (x := x2) d_X6_breakBetween_15 rfl ?_
    refine r_iconst (x := 1) d_X6_breakBetween_16 ⟨by decide, by decide⟩ ?_
    refine r_isub d_X6_breakBetween_17 ?_
    refine r_callS (Y2 := mX6_letter) (d := d - 1) (mc := 0) (ms := 0) (As := [(0, x1), (0, (subI x2 1))]) (S := [(0, v2)]) d_X6_breakBetween_18 ok_mX6_letter ml_X6_9 rfl (rmc h0d (by decide)) rm00 (Nat.le_of_ble_eq_true rfl) rfl (MC.mono h (fun r N1 Λ1 σ3 hq => ?_))
    obtain ⟨v4, rfl, rfl, rfl, h⟩ := hq
    refine r_ic_le (tgt := 26) d_X6_breakBetween_21 rfl (fun hc => ?_) (fun hc => ?_)
    · have h := h.1 hc
      refine x_iinc (x := x2) (L := [(0, x0), (0, x1), (0, x2)]) d_X6_breakBetween_26 rfl (by decide) rfl (fun y5 ey5 => ?_)
      have h := h y5 ey5
      show WP _ _ _ _ _ _ _ _ [(0, x0), (0, x1), (0, y5)] _ _ _ _
      refine r_goto (tgt := 2) d_X6_breakBetween_29 rfl ?_
      exact h
    · have h := h.2 hc
      refine r_iload_n (x := x2) d_X6_breakBetween_24 rfl ?_
      exact r_iret d_X6_breakBetween_25 rfl rfl (Nat.le_refl 0) (Nat.le_refl 0) ⟨_, rfl, rfl, rfl, h⟩
theorem v_X10_begin_0 {l : Launch} {d N : Nat} {Λ : Lay} {P : Mem → Prop} {σ : Mem} {x1 t : Int} (o_t : Ob N Λ t 19 2)
    (h : (∀ τ1, τ1 = st σ t 0 x1 → (∀ τ2, τ2 = st τ1 t 1 1 → P τ2))) :
    WV l mX10_begin d P 0 [(2, t), (1, x1), (3, 0)] [] N Λ σ := by
  refine r_aload_n (x := t) d_X10_begin_0 rfl o_t.1 ?_
  refine r_lload_n (x := x1) d_X10_begin_1 rfl ?_
  refine r_putL (j := 0) d_X10_begin_2 kX10 (by decide) fl_X10_7 rfl o_t.1 o_t.2.1 o_t.2.2.1 o_t.2.2.2 rfl ?_
  refine r_nmM (fun τ1 eτ1 => ?_)
  have h := h τ1 eτ1
  refine r_aload_n (x := t) d_X10_begin_5 rfl o_t.1 ?_
  refine r_iconst (x := 1) d_X10_begin_6 ⟨by decide, by decide⟩ ?_
  refine r_putI (j := 1) d_X10_begin_7 kX10 (by decide) fl_X10_13 rfl o_t.1 o_t.2.1 o_t.2.2.1 o_t.2.2.2 rfl ?_
  refine r_nmM (fun τ2 eτ2 => ?_)
  have h := h τ2 eτ2
  exact r_vret d_X10_begin_10 rfl (Nat.le_refl 0) (Nat.le_refl 0) ⟨rfl, rfl, rfl, h⟩
theorem v_X10_attach_0 {l : Launch} {d N : Nat} {Λ : Lay} {P : Mem → Prop} {σ : Mem} {x1 t : Int} (o_t : Ob N Λ t 19 2) (h0d : 1 ≤ d)
    (h : (CI l mX6_ordered (d - 1) [(0, x1)] N Λ σ (fun v2 σ1 => ((¬ v2 = 0 → (CI l mJ9_abs_0f7a4 (d - 1) [(0, v2)] N Λ σ1 (fun v4 σ3 => (CL l mX6_with (d - 1) [(1, (σ1 t 0)), (0, v4)] N Λ σ3 (fun v6 σ5 => (∀ τ7, τ7 = st σ5 t 0 v6 → ((0 ≤ v2 → (∀ τ8, τ8 = st τ7 t 1 (τ7 t 1) → P τ8)) ∧ (¬ (0 ≤ v2) → (∀ τ9, τ9 = st τ7 t 1 (negI (τ7 t 1)) → P τ9))))))))) ∧ (v2 = 0 → (∀ τ10, τ10 = st σ1 t 1 0 → P τ10)))))) :
    WV l mX10_attach d P 0 [(2, t), (0, x1), (3, 0)] [] N Λ σ := by
  refine r_iload_n (x := x1) d_X10_attach_0 rfl ?_
  refine r_callS (Y2 := mX6_ordered) (d := d - 1) (mc := 0) (ms := 0) (As := [(0, x1)]) (S := []) d_X10_attach_1 ok_mX6_ordered ml_X10_17 rfl (rmc h0d (by decide)) rm00 (Nat.le_of_ble_eq_true rfl) rfl (MC.mono h (fun r N1 Λ1 σ1 hq => ?_))
  obtain ⟨v2, rfl, rfl, rfl, h⟩ := hq
  refine r_istore_n (L2 := [(2, t), (0, x1), (0, v2)]) d_X10_attach_4 (by decide) rfl rfl ?_
  refine r_iload_n (x := v2) d_X10_attach_5 rfl ?_
  refine r_if_ne (tgt := 17) d_X10_attach_6 rfl (fun hc => ?_) (fun hc => ?_)
  · have h := h.1 hc
    refine r_aload_n (x := t) d_X10_attach_17 rfl o_t.1 ?_
    refine r_aload_n (x := t) d_X10_attach_18 rfl o_t.1 ?_
    refine r_getf (j := 0) (t := 1) (x := (σ1 t 0)) d_X10_attach_19 kX10 (by decide) fl_X10_7 o_t.1 o_t.2.1 o_t.2.2.1 o_t.2.2.2 rfl rfl ?_
    refine r_iload_n (x := v2) d_X10_attach_22 rfl ?_
    refine r_callS (Y2 := mJ9_abs_0f7a4) (d := d - 1) (mc := 0) (ms := 0) (As := [(0, v2)]) (S := [(1, (σ1 t 0)), (2, t)]) d_X10_attach_23 ok_mJ9_abs_0f7a4 ml_X10_23 rfl (rmc h0d (by decide)) rm00 (Nat.le_of_ble_eq_true rfl) rfl (MC.mono h (fun r N1 Λ1 σ3 hq => ?_))
    obtain ⟨v4, rfl, rfl, rfl, h⟩ := hq
    refine r_callS (Y2 := mX6_with) (d := d - 1) (mc := 0) (ms := 0) (As := [(1, (σ1 t 0)), (0, v4)]) (S := [(2, t)]) d_X10_attach_26 ok_mX6_with ml_X10_28 rfl (rmc h0d (by decide)) rm00 (Nat.le_of_ble_eq_true rfl) rfl (MC.mono h (fun r N1 Λ1 σ5 hq => ?_))
    obtain ⟨v6, rfl, rfl, rfl, h⟩ := hq
    refine r_putL (j := 0) d_X10_attach_29 kX10 (by decide) fl_X10_7 rfl o_t.1 o_t.2.1 o_t.2.2.1 o_t.2.2.2 rfl ?_
    refine r_nmM (fun τ7 eτ7 => ?_)
    have h := h τ7 eτ7
    refine r_aload_n (x := t) d_X10_attach_32 rfl o_t.1 ?_
    refine r_iload_n (x := v2) d_X10_attach_33 rfl ?_
    refine r_if_ge (tgt := 45) d_X10_attach_34 rfl (fun hc => ?_) (fun hc => ?_)
    · have h := h.1 hc
      refine r_aload_n (x := t) d_X10_attach_45 rfl o_t.1 ?_
      refine r_getf (j := 1) (t := 0) (x := (τ7 t 1)) d_X10_attach_46 kX10 (by decide) fl_X10_13 o_t.1 o_t.2.1 o_t.2.2.1 o_t.2.2.2 rfl rfl ?_
      refine r_putI (j := 1) d_X10_attach_49 kX10 (by decide) fl_X10_13 rfl o_t.1 o_t.2.1 o_t.2.2.1 o_t.2.2.2 rfl ?_
      refine r_nmM (fun τ8 eτ8 => ?_)
      have h := h τ8 eτ8
      exact r_vret d_X10_attach_52 rfl (Nat.le_refl 0) (Nat.le_refl 0) ⟨rfl, rfl, rfl, h⟩
    · have h := h.2 hc
      refine r_aload_n (x := t) d_X10_attach_37 rfl o_t.1 ?_
      refine r_getf (j := 1) (t := 0) (x := (τ7 t 1)) d_X10_attach_38 kX10 (by decide) fl_X10_13 o_t.1 o_t.2.1 o_t.2.2.1 o_t.2.2.2 rfl rfl ?_
      refine r_ineg d_X10_attach_41 ?_
      refine r_goto (tgt := 49) d_X10_attach_42 rfl ?_
      refine r_putI (j := 1) d_X10_attach_49 kX10 (by decide) fl_X10_13 rfl o_t.1 o_t.2.1 o_t.2.2.1 o_t.2.2.2 rfl ?_
      refine r_nmM (fun τ9 eτ9 => ?_)
      have h := h τ9 eτ9
      exact r_vret d_X10_attach_52 rfl (Nat.le_refl 0) (Nat.le_refl 0) ⟨rfl, rfl, rfl, h⟩
  · have h := h.2 hc
    refine r_aload_n (x := t) d_X10_attach_9 rfl o_t.1 ?_
    refine r_iconst (x := 0) d_X10_attach_10 ⟨by decide, by decide⟩ ?_
    refine r_putI (j := 1) d_X10_attach_11 kX10 (by decide) fl_X10_13 rfl o_t.1 o_t.2.1 o_t.2.2.1 o_t.2.2.2 rfl ?_
    refine r_nmM (fun τ10 eτ10 => ?_)
    have h := h τ10 eτ10
    refine r_goto (tgt := 52) d_X10_attach_14 rfl ?_
    exact r_vret d_X10_attach_52 rfl (Nat.le_refl 0) (Nat.le_refl 0) ⟨rfl, rfl, rfl, h⟩
theorem v_X10_rename_0 {l : Launch} {d N : Nat} {Λ : Lay} {P : Mem → Prop} {σ : Mem} {x1 x3 x4 x5 t : Int} (o_t : Ob N Λ t 19 2) (h0d : 1 ≤ d)
    (h : (CV l mX10_begin (d - 1) [(2, t), (1, 0)] N Λ σ (fun σ1 => (CI l mX6_bracketsIn (d - 1) [(1, x1)] N Λ σ1 (fun v3 σ2 => WV l mX10_rename d P 14 [(2, t), (1, x1), (3, 0), (0, x3), (0, x4), (0, x5), (0, v3), (0, 0), (3, 0), (3, 0), (3, 0)] [] N Λ σ2))))) :
    WV l mX10_rename d P 0 [(2, t), (1, x1), (3, 0), (0, x3), (0, x4), (0, x5), (3, 0), (3, 0), (3, 0), (3, 0), (3, 0)] [] N Λ σ := by
  refine r_aload_n (x := t) d_X10_rename_0 rfl o_t.1 ?_
  refine r_lconst d_X10_rename_1 ?_
  skip
  refine r_callV (Y2 := mX10_begin) (d := d - 1) (mc := 0) (ms := 0) (c := t) (As := [(1, 0)]) (S := []) d_X10_rename_2 ok_mX10_begin ml_X10_32 rfl (rmc h0d (by decide)) rm00 (Nat.le_of_ble_eq_true rfl) rfl kX10 o_t.1 o_t.2.1 o_t.2.2.1 o_t.2.2.2 (MC.mono h (fun r N1 Λ1 σ1 hq => ?_))
  obtain ⟨rfl, rfl, rfl, h⟩ := hq
  refine r_lload_n (x := x1) d_X10_rename_5 rfl ?_
  refine r_callS (Y2 := mX6_bracketsIn) (d := d - 1) (mc := 0) (ms := 0) (As := [(1, x1)]) (S := []) d_X10_rename_6 ok_mX6_bracketsIn ml_X10_36 rfl (rmc h0d (by decide)) rm00 (Nat.le_of_ble_eq_true rfl) rfl (MC.mono h (fun r N1 Λ1 σ2 hq => ?_))
  obtain ⟨v3, rfl, rfl, rfl, h⟩ := hq
  refine r_istore (L2 := [(2, t), (1, x1), (3, 0), (0, x3), (0, x4), (0, x5), (0, v3), (3, 0), (3, 0), (3, 0), (3, 0)]) d_X10_rename_9 (by decide) rfl rfl ?_
  refine r_iconst (x := 0) d_X10_rename_11 ⟨by decide, by decide⟩ ?_
  refine r_istore (L2 := [(2, t), (1, x1), (3, 0), (0, x3), (0, x4), (0, x5), (0, v3), (0, 0), (3, 0), (3, 0), (3, 0)]) d_X10_rename_12 (by decide) rfl rfl ?_
  exact h
theorem v_X10_rename_14 {l : Launch} {d N : Nat} {Λ : Lay} {P : Mem → Prop} {σ : Mem} {x1 x3 x4 x5 x6 x7 t : Int}
    (h : ((x6 ≤ x7 → P σ) ∧ (¬ (x6 ≤ x7) → WV l mX10_rename d P 27 [(2, t), (1, x1), (3, 0), (0, x3), (0, x4), (0, x5), (0, x6), (0, x7), (0, 0), (0, 0), (3, 0)] [] N Λ σ))) :
    WV l mX10_rename d P 14 [(2, t), (1, x1), (3, 0), (0, x3), (0, x4), (0, x5), (0, x6), (0, x7), (3, 0), (3, 0), (3, 0)] [] N Λ σ := by
  refine r_iload (x := x7) d_X10_rename_14 rfl ?_
  refine r_iload (x := x6) d_X10_rename_16 rfl ?_
  refine r_ic_ge (tgt := 81) d_X10_rename_18 rfl (fun hc => ?_) (fun hc => ?_)
  · have h := h.1 hc
    exact r_vret d_X10_rename_81 rfl (Nat.le_refl 0) (Nat.le_refl 0) ⟨rfl, rfl, rfl, h⟩
  · have h := h.2 hc
    refine r_iconst (x := 0) d_X10_rename_21 ⟨by decide, by decide⟩ ?_
    refine r_istore (L2 := [(2, t), (1, x1), (3, 0), (0, x3), (0, x4), (0, x5), (0, x6), (0, x7), (0, 0), (3, 0), (3, 0)]) d_X10_rename_22 (by decide) rfl rfl ?_
    refine r_iconst (x := 0) d_X10_rename_24 ⟨by decide, by decide⟩ ?_
    refine r_istore (L2 := [(2, t), (1, x1), (3, 0), (0, x3), (0, x4), (0, x5), (0, x6), (0, x7), (0, 0), (0, 0), (3, 0)]) d_X10_rename_25 (by decide) rfl rfl ?_
    exact h
theorem v_X10_rename_27 {l : Launch} {d N : Nat} {Λ : Lay} {P : Mem → Prop} {σ : Mem} {x1 x3 x4 x5 x6 x7 x8 x9 t : Int} (o_t : Ob N Λ t 19 2) (h0d : 1 ≤ d)
    (h : ((3 ≤ x9 → (CV l mX10_attach (d - 1) [(2, t), (0, x8)] N Λ σ (fun σ1 => (∀ y2, y2 = addI x7 1 → WV l mX10_rename d P 14 [(2, t), (1, x1), (3, 0), (0, x3), (0, x4), (0, x5), (0, x6), (0, y2), (3, 0), (3, 0), (3, 0)] [] N Λ σ1)))) ∧ (¬ (3 ≤ x9) → (CI l mX6_bracketAt (d - 1) [(1, x1), (0, x7)] N Λ σ (fun v4 σ3 => (CI l mX6_letter (d - 1) [(0, v4), (0, x9)] N Λ σ3 (fun v6 σ5 => (CI l mX10_renamed (d - 1) [(0, v6), (0, x3), (0, x4), (0, x5)] N Λ σ5 (fun v8 σ7 => (∀ y9, y9 = (orI (shlI x8 4) v8) → (∀ y10, y10 = addI x9 1 → WV l mX10_rename d P 27 [(2, t), (1, x1), (3, 0), (0, x3), (0, x4), (0, x5), (0, x6), (0, x7), (0, y9), (0, y10), (3, 0)] [] N Λ σ7))))))))))) :
    WV l mX10_rename d P 27 [(2, t), (1, x1), (3, 0), (0, x3), (0, x4), (0, x5), (0, x6), (0, x7), (0, x8), (0, x9), (3, 0)] [] N Λ σ := by
  refine r_iload (x := x9) d_X10_rename_27 rfl ?_
  refine r_iconst (x := 3) d_X10_rename_29 ⟨by decide, by decide⟩ ?_
  refine r_ic_ge (tgt := 69) d_X10_rename_30 rfl (fun hc => ?_) (fun hc => ?_)
  · have h := h.1 hc
    refine r_aload_n (x := t) d_X10_rename_69 rfl o_t.1 ?_
    refine r_iload (x := x8) d_X10_rename_70 rfl ?_
    refine r_callV (Y2 := mX10_attach) (d := d - 1) (mc := 0) (ms := 0) (c := t) (As := [(0, x8)]) (S := []) d_X10_rename_72 ok_mX10_attach ml_X10_52 rfl (rmc h0d (by decide)) rm00 (Nat.le_of_ble_eq_true rfl) rfl kX10 o_t.1 o_t.2.1 o_t.2.2.1 o_t.2.2.2 (MC.mono h (fun r N1 Λ1 σ1 hq => ?_))
    obtain ⟨rfl, rfl, rfl, h⟩ := hq
    refine x_iinc (x := x7) (L := [(2, t), (1, x1), (3, 0), (0, x3), (0, x4), (0, x5), (0, x6), (0, x7), (0, x8), (0, x9), (3, 0)]) d_X10_rename_75 rfl (by decide) rfl (fun y2 ey2 => ?_)
    have h := h y2 ey2
    show WP _ _ _ _ _ _ _ _ [(2, t), (1, x1), (3, 0), (0, x3), (0, x4), (0, x5), (0, x6), (0, y2), (0, x8), (0, x9), (3, 0)] _ _ _ _
    refine r_goto (tgt := 14) d_X10_rename_78 rfl ?_
    exact x_mask h ⟨Or.inr rfl, Or.inr rfl, Or.inl rfl, Or.inr rfl, Or.inr rfl, Or.inr rfl, Or.inr rfl, Or.inr rfl, Or.inl rfl, Or.inl rfl, Or.inl rfl, trivial⟩
  · have h := h.2 hc
    refine r_lload_n (x := x1) d_X10_rename_33 rfl ?_
    refine r_iload (x := x7) d_X10_rename_34 rfl ?_
    refine r_callS (Y2 := mX6_bracketAt) (d := d - 1) (mc := 0) (ms := 0) (As := [(1, x1), (0, x7)]) (S := []) d_X10_rename_36 ok_mX6_bracketAt ml_X10_40 rfl (rmc h0d (by decide)) rm00 (Nat.le_of_ble_eq_true rfl) rfl (MC.mono h (fun r N1 Λ1 σ3 hq => ?_))
    obtain ⟨v4, rfl, rfl, rfl, h⟩ := hq
    refine r_iload (x := x9) d_X10_rename_39 rfl ?_
    refine r_callS (Y2 := mX6_letter) (d := d - 1) (mc := 0) (ms := 0) (As := [(0, v4), (0, x9)]) (S := []) d_X10_rename_41 ok_mX6_letter ml_X10_44 rfl (rmc h0d (by decide)) rm00 (Nat.le_of_ble_eq_true rfl) rfl (MC.mono h (fun r N1 Λ1 σ5 hq => ?_))
    obtain ⟨v6, rfl, rfl, rfl, h⟩ := hq
    refine r_istore (L2 := [(2, t), (1, x1), (3, 0), (0, x3), (0, x4), (0, x5), (0, x6), (0, x7), (0, x8), (0, x9), (0, v6)]) d_X10_rename_44 (by decide) rfl rfl ?_
    refine r_iload (x := x8) d_X10_rename_46 rfl ?_
    refine r_iconst (x := 4) d_X10_rename_48 ⟨by decide, by decide⟩ ?_
    refine r_ishl d_X10_rename_49 ?_
    refine r_iload (x := v6) d_X10_rename_50 rfl ?_
    refine r_iload_n (x := x3) d_X10_rename_52 rfl ?_
    refine r_iload (x := x4) d_X10_rename_53 rfl ?_
    refine r_iload (x := x5) d_X10_rename_55 rfl ?_
    refine r_callS (Y2 := mX10_renamed) (d := d - 1) (mc := 0) (ms := 0) (As := [(0, v6), (0, x3), (0, x4), (0, x5)]) (S := [(0, (shlI x8 4))]) d_X10_rename_57 ok_mX10_renamed ml_X10_48 rfl (rmc h0d (by decide)) rm00 (Nat.le_of_ble_eq_true rfl) rfl (MC.mono h (fun r N1 Λ1 σ7 hq => ?_))
    obtain ⟨v8, rfl, rfl, rfl, h⟩ := hq
    refine r_ior d_X10_rename_60 ?_
    refine r_nm (fun y9 ey9 => ?_)
    have h := h y9 ey9
    refine r_istore (L2 := [(2, t), (1, x1), (3, 0), (0, x3), (0, x4), (0, x5), (0, x6), (0, x7), (0, y9), (0, x9), (0, v6)]) d_X10_rename_61 (by decide) rfl rfl ?_
    refine x_iinc (x := x9) (L := [(2, t), (1, x1), (3, 0), (0, x3), (0, x4), (0, x5), (0, x6), (0, x7), (0, y9), (0, x9), (0, v6)]) d_X10_rename_63 rfl (by decide) rfl (fun y10 ey10 => ?_)
    have h := h y10 ey10
    show WP _ _ _ _ _ _ _ _ [(2, t), (1, x1), (3, 0), (0, x3), (0, x4), (0, x5), (0, x6), (0, x7), (0, y9), (0, y10), (0, v6)] _ _ _ _
    refine r_goto (tgt := 27) d_X10_rename_66 rfl ?_
    exact x_mask h ⟨Or.inr rfl, Or.inr rfl, Or.inl rfl, Or.inr rfl, Or.inr rfl, Or.inr rfl, Or.inr rfl, Or.inr rfl, Or.inr rfl, Or.inr rfl, Or.inl rfl, trivial⟩
theorem v_X10_renamed_0 {l : Launch} {d N : Nat} {Λ : Lay} {P : Int → Mem → Prop} {σ : Mem} {x0 x1 x2 x3 : Int}
    (h : ((¬ x0 = x1 → ((x3 = 0 → P x0 σ) ∧ (¬ (x3 = 0) → ((¬ x0 = x2 → P x0 σ) ∧ (x0 = x2 → P x1 σ))))) ∧ (x0 = x1 → P x2 σ))) :
    WI l mX10_renamed d P 0 [(0, x0), (0, x1), (0, x2), (0, x3)] [] N Λ σ := by
  refine r_iload_n (x := x0) d_X10_renamed_0 rfl ?_
  refine r_iload_n (x := x1) d_X10_renamed_1 rfl ?_
  refine r_ic_ne (tgt := 7) d_X10_renamed_2 rfl (fun hc => ?_) (fun hc => ?_)
  · have h := h.1 hc
    refine r_iload_n (x := x3) d_X10_renamed_7 rfl ?_
    refine r_if_eq (tgt := 20) d_X10_renamed_8 rfl (fun hc => ?_) (fun hc => ?_)
    · have h := h.1 hc
      refine r_iload_n (x := x0) d_X10_renamed_20 rfl ?_
      exact r_iret d_X10_renamed_21 rfl rfl (Nat.le_refl 0) (Nat.le_refl 0) ⟨_, rfl, rfl, rfl, h⟩
    · have h := h.2 hc
      refine r_iload_n (x := x0) d_X10_renamed_11 rfl ?_
      refine r_iload_n (x := x2) d_X10_renamed_12 rfl ?_
      refine r_ic_ne (tgt := 20) d_X10_renamed_13 rfl (fun hc => ?_) (fun hc => ?_)
      · have h := h.1 hc
        refine r_iload_n (x := x0) d_X10_renamed_20 rfl ?_
        exact r_iret d_X10_renamed_21 rfl rfl (Nat.le_refl 0) (Nat.le_refl 0) ⟨_, rfl, rfl, rfl, h⟩
      · have h := h.2 hc
        refine r_iload_n (x := x1) d_X10_renamed_16 rfl ?_
        refine r_goto (tgt := 21) d_X10_renamed_17 rfl ?_
        exact r_iret d_X10_renamed_21 rfl rfl (Nat.le_refl 0) (Nat.le_refl 0) ⟨_, rfl, rfl, rfl, h⟩
  · have h := h.2 hc
    refine r_iload_n (x := x2) d_X10_renamed_5 rfl ?_
    exact r_iret d_X10_renamed_6 rfl rfl (Nat.le_refl 0) (Nat.le_refl 0) ⟨_, rfl, rfl, rfl, h⟩
