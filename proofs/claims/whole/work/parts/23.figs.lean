theorem d_X2_begin_0 : DC mX2_begin 0 (.aload_n 0) 1 1 := ⟨by decide +kernel, rfl⟩
theorem d_X2_begin_1 : DC mX2_begin 1 (.iconst 0) 1 2 := ⟨by decide +kernel, rfl⟩
theorem d_X2_begin_2 : DC mX2_begin 2 (.putfield 21) 3 5 := ⟨by decide +kernel, rfl⟩
theorem d_X2_begin_5 : DC mX2_begin 5 (.return_) 1 6 := ⟨by decide +kernel, rfl⟩
theorem d_X2_take_0 : DC mX2_take 0 (.iload_n 1) 1 1 := ⟨by decide +kernel, rfl⟩
theorem d_X2_take_1 : DC mX2_take 1 (.invokestatic 49) 3 4 := ⟨by decide +kernel, rfl⟩
theorem d_X2_take_4 : DC mX2_take 4 (.ifCond .eq 62) 3 7 := ⟨by decide +kernel, rfl⟩
theorem d_X2_take_7 : DC mX2_take 7 (.aload_n 0) 1 8 := ⟨by decide +kernel, rfl⟩
theorem d_X2_take_8 : DC mX2_take 8 (.getfield 21) 3 11 := ⟨by decide +kernel, rfl⟩
theorem d_X2_take_11 : DC mX2_take 11 (.bipush 9) 2 13 := ⟨by decide +kernel, rfl⟩
theorem d_X2_take_13 : DC mX2_take 13 (.if_icmp .ge 53) 3 16 := ⟨by decide +kernel, rfl⟩
theorem d_X2_take_16 : DC mX2_take 16 (.aload_n 0) 1 17 := ⟨by decide +kernel, rfl⟩
theorem d_X2_take_17 : DC mX2_take 17 (.aload_n 0) 1 18 := ⟨by decide +kernel, rfl⟩
theorem d_X2_take_18 : DC mX2_take 18 (.getfield 17) 3 21 := ⟨by decide +kernel, rfl⟩
theorem d_X2_take_21 : DC mX2_take 21 (.aload_n 0) 1 22 := ⟨by decide +kernel, rfl⟩
theorem d_X2_take_22 : DC mX2_take 22 (.getfield 21) 3 25 := ⟨by decide +kernel, rfl⟩
theorem d_X2_take_25 : DC mX2_take 25 (.iaload) 1 26 := ⟨by decide +kernel, rfl⟩
theorem d_X2_take_26 : DC mX2_take 26 (.invokevirtual 55) 3 29 := ⟨by decide +kernel, rfl⟩
theorem d_X2_take_29 : DC mX2_take 29 (.aload_n 0) 1 30 := ⟨by decide +kernel, rfl⟩
theorem d_X2_take_30 : DC mX2_take 30 (.dup) 1 31 := ⟨by decide +kernel, rfl⟩
theorem d_X2_take_31 : DC mX2_take 31 (.getfield 21) 3 34 := ⟨by decide +kernel, rfl⟩
theorem d_X2_take_34 : DC mX2_take 34 (.iconst 1) 1 35 := ⟨by decide +kernel, rfl⟩
theorem d_X2_take_35 : DC mX2_take 35 (.iadd) 1 36 := ⟨by decide +kernel, rfl⟩
theorem d_X2_take_36 : DC mX2_take 36 (.putfield 21) 3 39 := ⟨by decide +kernel, rfl⟩
theorem d_X2_take_39 : DC mX2_take 39 (.aload_n 0) 1 40 := ⟨by decide +kernel, rfl⟩
theorem d_X2_take_40 : DC mX2_take 40 (.getfield 13) 3 43 := ⟨by decide +kernel, rfl⟩
theorem d_X2_take_43 : DC mX2_take 43 (.aload_n 0) 1 44 := ⟨by decide +kernel, rfl⟩
theorem d_X2_take_44 : DC mX2_take 44 (.getfield 17) 3 47 := ⟨by decide +kernel, rfl⟩
theorem d_X2_take_47 : DC mX2_take 47 (.aload_n 0) 1 48 := ⟨by decide +kernel, rfl⟩
theorem d_X2_take_48 : DC mX2_take 48 (.getfield 21) 3 51 := ⟨by decide +kernel, rfl⟩
theorem d_X2_take_51 : DC mX2_take 51 (.iconst 1) 1 52 := ⟨by decide +kernel, rfl⟩
theorem d_X2_take_52 : DC mX2_take 52 (.isub) 1 53 := ⟨by decide +kernel, rfl⟩
theorem d_X2_take_53 : DC mX2_take 53 (.iaload) 1 54 := ⟨by decide +kernel, rfl⟩
theorem d_X2_take_54 : DC mX2_take 54 (.iload_n 1) 1 55 := ⟨by decide +kernel, rfl⟩
theorem d_X2_take_55 : DC mX2_take 55 (.iadd) 1 56 := ⟨by decide +kernel, rfl⟩
theorem d_X2_take_56 : DC mX2_take 56 (.bipush 97) 2 58 := ⟨by decide +kernel, rfl⟩
theorem d_X2_take_58 : DC mX2_take 58 (.isub) 1 59 := ⟨by decide +kernel, rfl⟩
theorem d_X2_take_59 : DC mX2_take 59 (.aaload) 1 60 := ⟨by decide +kernel, rfl⟩
theorem d_X2_take_60 : DC mX2_take 60 (.lconst 0) 1 61 := ⟨by decide +kernel, rfl⟩
theorem d_X2_take_61 : DC mX2_take 61 (.lconst 1) 1 62 := ⟨by decide +kernel, rfl⟩
theorem d_X2_take_62 : DC mX2_take 62 (.invokevirtual 59) 3 65 := ⟨by decide +kernel, rfl⟩
theorem d_X2_take_65 : DC mX2_take 65 (.ireturn) 1 66 := ⟨by decide +kernel, rfl⟩
theorem d_X2_take_66 : DC mX2_take 66 (.iload_n 1) 1 67 := ⟨by decide +kernel, rfl⟩
theorem d_X2_take_67 : DC mX2_take 67 (.bipush 41) 2 69 := ⟨by decide +kernel, rfl⟩
theorem d_X2_take_69 : DC mX2_take 69 (.if_icmp .ne 11) 3 72 := ⟨by decide +kernel, rfl⟩
theorem d_X2_take_72 : DC mX2_take 72 (.aload_n 0) 1 73 := ⟨by decide +kernel, rfl⟩
theorem d_X2_take_73 : DC mX2_take 73 (.getfield 21) 3 76 := ⟨by decide +kernel, rfl⟩
theorem d_X2_take_76 : DC mX2_take 76 (.iconst 4) 1 77 := ⟨by decide +kernel, rfl⟩
theorem d_X2_take_77 : DC mX2_take 77 (.if_icmp .ge 5) 3 80 := ⟨by decide +kernel, rfl⟩
theorem d_X2_take_80 : DC mX2_take 80 (.iconst 0) 1 81 := ⟨by decide +kernel, rfl⟩
theorem d_X2_take_81 : DC mX2_take 81 (.ireturn) 1 82 := ⟨by decide +kernel, rfl⟩
theorem d_X2_take_82 : DC mX2_take 82 (.aload_n 0) 1 83 := ⟨by decide +kernel, rfl⟩
theorem d_X2_take_83 : DC mX2_take 83 (.getfield 17) 3 86 := ⟨by decide +kernel, rfl⟩
theorem d_X2_take_86 : DC mX2_take 86 (.aload_n 0) 1 87 := ⟨by decide +kernel, rfl⟩
theorem d_X2_take_87 : DC mX2_take 87 (.getfield 21) 3 90 := ⟨by decide +kernel, rfl⟩
theorem d_X2_take_90 : DC mX2_take 90 (.iconst 4) 1 91 := ⟨by decide +kernel, rfl⟩
theorem d_X2_take_91 : DC mX2_take 91 (.isub) 1 92 := ⟨by decide +kernel, rfl⟩
theorem d_X2_take_92 : DC mX2_take 92 (.iaload) 1 93 := ⟨by decide +kernel, rfl⟩
theorem d_X2_take_93 : DC mX2_take 93 (.istore_n 2) 1 94 := ⟨by decide +kernel, rfl⟩
theorem d_X2_take_94 : DC mX2_take 94 (.aload_n 0) 1 95 := ⟨by decide +kernel, rfl⟩
theorem d_X2_take_95 : DC mX2_take 95 (.getfield 17) 3 98 := ⟨by decide +kernel, rfl⟩
theorem d_X2_take_98 : DC mX2_take 98 (.aload_n 0) 1 99 := ⟨by decide +kernel, rfl⟩
theorem d_X2_take_99 : DC mX2_take 99 (.getfield 21) 3 102 := ⟨by decide +kernel, rfl⟩
theorem d_X2_take_102 : DC mX2_take 102 (.iconst 3) 1 103 := ⟨by decide +kernel, rfl⟩
theorem d_X2_take_103 : DC mX2_take 103 (.isub) 1 104 := ⟨by decide +kernel, rfl⟩
theorem d_X2_take_104 : DC mX2_take 104 (.iaload) 1 105 := ⟨by decide +kernel, rfl⟩
theorem d_X2_take_105 : DC mX2_take 105 (.istore_n 3) 1 106 := ⟨by decide +kernel, rfl⟩
theorem d_X2_take_106 : DC mX2_take 106 (.aload_n 0) 1 107 := ⟨by decide +kernel, rfl⟩
theorem d_X2_take_107 : DC mX2_take 107 (.getfield 17) 3 110 := ⟨by decide +kernel, rfl⟩
theorem d_X2_take_110 : DC mX2_take 110 (.aload_n 0) 1 111 := ⟨by decide +kernel, rfl⟩
theorem d_X2_take_111 : DC mX2_take 111 (.getfield 21) 3 114 := ⟨by decide +kernel, rfl⟩
theorem d_X2_take_114 : DC mX2_take 114 (.iconst 2) 1 115 := ⟨by decide +kernel, rfl⟩
theorem d_X2_take_115 : DC mX2_take 115 (.isub) 1 116 := ⟨by decide +kernel, rfl⟩
theorem d_X2_take_116 : DC mX2_take 116 (.iaload) 1 117 := ⟨by decide +kernel, rfl⟩
theorem d_X2_take_117 : DC mX2_take 117 (.istore 4) 2 119 := ⟨by decide +kernel, rfl⟩
theorem d_X2_take_119 : DC mX2_take 119 (.aload_n 0) 1 120 := ⟨by decide +kernel, rfl⟩
theorem d_X2_take_120 : DC mX2_take 120 (.getfield 17) 3 123 := ⟨by decide +kernel, rfl⟩
theorem d_X2_take_123 : DC mX2_take 123 (.aload_n 0) 1 124 := ⟨by decide +kernel, rfl⟩
theorem d_X2_take_124 : DC mX2_take 124 (.getfield 21) 3 127 := ⟨by decide +kernel, rfl⟩
theorem d_X2_take_127 : DC mX2_take 127 (.iconst 1) 1 128 := ⟨by decide +kernel, rfl⟩
theorem d_X2_take_128 : DC mX2_take 128 (.isub) 1 129 := ⟨by decide +kernel, rfl⟩
theorem d_X2_take_129 : DC mX2_take 129 (.iaload) 1 130 := ⟨by decide +kernel, rfl⟩
theorem d_X2_take_130 : DC mX2_take 130 (.istore 5) 2 132 := ⟨by decide +kernel, rfl⟩
theorem d_X2_take_132 : DC mX2_take 132 (.aload_n 0) 1 133 := ⟨by decide +kernel, rfl⟩
theorem d_X2_take_133 : DC mX2_take 133 (.aload_n 0) 1 134 := ⟨by decide +kernel, rfl⟩
theorem d_X2_take_134 : DC mX2_take 134 (.getfield 36) 3 137 := ⟨by decide +kernel, rfl⟩
theorem d_X2_take_137 : DC mX2_take 137 (.iload_n 2) 1 138 := ⟨by decide +kernel, rfl⟩
theorem d_X2_take_138 : DC mX2_take 138 (.iload 4) 2 140 := ⟨by decide +kernel, rfl⟩
theorem d_X2_take_140 : DC mX2_take 140 (.iload 5) 2 142 := ⟨by decide +kernel, rfl⟩
theorem d_X2_take_142 : DC mX2_take 142 (.invokevirtual 63) 3 145 := ⟨by decide +kernel, rfl⟩
theorem d_X2_take_145 : DC mX2_take 145 (.istore 6) 2 147 := ⟨by decide +kernel, rfl⟩
theorem d_X2_take_147 : DC mX2_take 147 (.iload 6) 2 149 := ⟨by decide +kernel, rfl⟩
theorem d_X2_take_149 : DC mX2_take 149 (.ifCond .ne 18) 3 152 := ⟨by decide +kernel, rfl⟩
theorem d_X2_take_152 : DC mX2_take 152 (.aload_n 0) 1 153 := ⟨by decide +kernel, rfl⟩
theorem d_X2_take_153 : DC mX2_take 153 (.aload_n 0) 1 154 := ⟨by decide +kernel, rfl⟩
theorem d_X2_take_154 : DC mX2_take 154 (.getfield 39) 3 157 := ⟨by decide +kernel, rfl⟩
theorem d_X2_take_157 : DC mX2_take 157 (.iload_n 3) 1 158 := ⟨by decide +kernel, rfl⟩
theorem d_X2_take_158 : DC mX2_take 158 (.iload 4) 2 160 := ⟨by decide +kernel, rfl⟩
theorem d_X2_take_160 : DC mX2_take 160 (.iload 5) 2 162 := ⟨by decide +kernel, rfl⟩
theorem d_X2_take_162 : DC mX2_take 162 (.invokevirtual 63) 3 165 := ⟨by decide +kernel, rfl⟩
theorem d_X2_take_165 : DC mX2_take 165 (.istore 6) 2 167 := ⟨by decide +kernel, rfl⟩
theorem d_X2_take_167 : DC mX2_take 167 (.iload 6) 2 169 := ⟨by decide +kernel, rfl⟩
theorem d_X2_take_169 : DC mX2_take 169 (.ifCond .ne 11) 3 172 := ⟨by decide +kernel, rfl⟩
theorem d_X2_take_172 : DC mX2_take 172 (.aload_n 0) 1 173 := ⟨by decide +kernel, rfl⟩
theorem d_X2_take_173 : DC mX2_take 173 (.iload_n 2) 1 174 := ⟨by decide +kernel, rfl⟩
theorem d_X2_take_174 : DC mX2_take 174 (.iload_n 3) 1 175 := ⟨by decide +kernel, rfl⟩
theorem d_X2_take_175 : DC mX2_take 175 (.invokevirtual 67) 3 178 := ⟨by decide +kernel, rfl⟩
theorem d_X2_take_178 : DC mX2_take 178 (.istore 6) 2 180 := ⟨by decide +kernel, rfl⟩
theorem d_X2_take_180 : DC mX2_take 180 (.aload_n 0) 1 181 := ⟨by decide +kernel, rfl⟩
theorem d_X2_take_181 : DC mX2_take 181 (.getfield 17) 3 184 := ⟨by decide +kernel, rfl⟩
theorem d_X2_take_184 : DC mX2_take 184 (.aload_n 0) 1 185 := ⟨by decide +kernel, rfl⟩
theorem d_X2_take_185 : DC mX2_take 185 (.getfield 21) 3 188 := ⟨by decide +kernel, rfl⟩
theorem d_X2_take_188 : DC mX2_take 188 (.iconst 4) 1 189 := ⟨by decide +kernel, rfl⟩
theorem d_X2_take_189 : DC mX2_take 189 (.isub) 1 190 := ⟨by decide +kernel, rfl⟩
theorem d_X2_take_190 : DC mX2_take 190 (.aload_n 0) 1 191 := ⟨by decide +kernel, rfl⟩
theorem d_X2_take_191 : DC mX2_take 191 (.getfield 25) 3 194 := ⟨by decide +kernel, rfl⟩
theorem d_X2_take_194 : DC mX2_take 194 (.iastore) 1 195 := ⟨by decide +kernel, rfl⟩
theorem d_X2_take_195 : DC mX2_take 195 (.aload_n 0) 1 196 := ⟨by decide +kernel, rfl⟩
theorem d_X2_take_196 : DC mX2_take 196 (.iload_n 2) 1 197 := ⟨by decide +kernel, rfl⟩
theorem d_X2_take_197 : DC mX2_take 197 (.putfield 25) 3 200 := ⟨by decide +kernel, rfl⟩
theorem d_X2_take_200 : DC mX2_take 200 (.aload_n 0) 1 201 := ⟨by decide +kernel, rfl⟩
theorem d_X2_take_201 : DC mX2_take 201 (.dup) 1 202 := ⟨by decide +kernel, rfl⟩
theorem d_X2_take_202 : DC mX2_take 202 (.getfield 21) 3 205 := ⟨by decide +kernel, rfl⟩
theorem d_X2_take_205 : DC mX2_take 205 (.iconst 3) 1 206 := ⟨by decide +kernel, rfl⟩
theorem d_X2_take_206 : DC mX2_take 206 (.isub) 1 207 := ⟨by decide +kernel, rfl⟩
theorem d_X2_take_207 : DC mX2_take 207 (.putfield 21) 3 210 := ⟨by decide +kernel, rfl⟩
theorem d_X2_take_210 : DC mX2_take 210 (.iload 6) 2 212 := ⟨by decide +kernel, rfl⟩
theorem d_X2_take_212 : DC mX2_take 212 (.ireturn) 1 213 := ⟨by decide +kernel, rfl⟩
theorem d_X2_makeFigure_0 : DC mX2_makeFigure 0 (.aload_n 0) 1 1 := ⟨by decide +kernel, rfl⟩
theorem d_X2_makeFigure_1 : DC mX2_makeFigure 1 (.aload_n 1) 1 2 := ⟨by decide +kernel, rfl⟩
theorem d_X2_makeFigure_2 : DC mX2_makeFigure 2 (.aload_n 0) 1 3 := ⟨by decide +kernel, rfl⟩
theorem d_X2_makeFigure_3 : DC mX2_makeFigure 3 (.getfield 17) 3 6 := ⟨by decide +kernel, rfl⟩
theorem d_X2_makeFigure_6 : DC mX2_makeFigure 6 (.iconst 0) 1 7 := ⟨by decide +kernel, rfl⟩
theorem d_X2_makeFigure_7 : DC mX2_makeFigure 7 (.iaload) 1 8 := ⟨by decide +kernel, rfl⟩
theorem d_X2_makeFigure_8 : DC mX2_makeFigure 8 (.aload_n 0) 1 9 := ⟨by decide +kernel, rfl⟩
theorem d_X2_makeFigure_9 : DC mX2_makeFigure 9 (.getfield 17) 3 12 := ⟨by decide +kernel, rfl⟩
theorem d_X2_makeFigure_12 : DC mX2_makeFigure 12 (.iconst 1) 1 13 := ⟨by decide +kernel, rfl⟩
theorem d_X2_makeFigure_13 : DC mX2_makeFigure 13 (.iaload) 1 14 := ⟨by decide +kernel, rfl⟩
theorem d_X2_makeFigure_14 : DC mX2_makeFigure 14 (.aload_n 0) 1 15 := ⟨by decide +kernel, rfl⟩
theorem d_X2_makeFigure_15 : DC mX2_makeFigure 15 (.getfield 17) 3 18 := ⟨by decide +kernel, rfl⟩
theorem d_X2_makeFigure_18 : DC mX2_makeFigure 18 (.iconst 2) 1 19 := ⟨by decide +kernel, rfl⟩
theorem d_X2_makeFigure_19 : DC mX2_makeFigure 19 (.iaload) 1 20 := ⟨by decide +kernel, rfl⟩
theorem d_X2_makeFigure_20 : DC mX2_makeFigure 20 (.invokevirtual 63) 3 23 := ⟨by decide +kernel, rfl⟩
theorem d_X2_makeFigure_23 : DC mX2_makeFigure 23 (.ireturn) 1 24 := ⟨by decide +kernel, rfl⟩
theorem d_X2_empty_0 : DC mX2_empty 0 (.iconst 0) 1 1 := ⟨by decide +kernel, rfl⟩
theorem d_X2_empty_1 : DC mX2_empty 1 (.istore_n 2) 1 2 := ⟨by decide +kernel, rfl⟩
theorem d_X2_empty_2 : DC mX2_empty 2 (.iload_n 2) 1 3 := ⟨by decide +kernel, rfl⟩
theorem d_X2_empty_3 : DC mX2_empty 3 (.bipush 10) 2 5 := ⟨by decide +kernel, rfl⟩
theorem d_X2_empty_5 : DC mX2_empty 5 (.if_icmp .ge 20) 3 8 := ⟨by decide +kernel, rfl⟩
theorem d_X2_empty_8 : DC mX2_empty 8 (.aload_n 0) 1 9 := ⟨by decide +kernel, rfl⟩
theorem d_X2_empty_9 : DC mX2_empty 9 (.getfield 13) 3 12 := ⟨by decide +kernel, rfl⟩
theorem d_X2_empty_12 : DC mX2_empty 12 (.iload_n 1) 1 13 := ⟨by decide +kernel, rfl⟩
theorem d_X2_empty_13 : DC mX2_empty 13 (.iload_n 2) 1 14 := ⟨by decide +kernel, rfl⟩
theorem d_X2_empty_14 : DC mX2_empty 14 (.iadd) 1 15 := ⟨by decide +kernel, rfl⟩
theorem d_X2_empty_15 : DC mX2_empty 15 (.aaload) 1 16 := ⟨by decide +kernel, rfl⟩
theorem d_X2_empty_16 : DC mX2_empty 16 (.invokevirtual 71) 3 19 := ⟨by decide +kernel, rfl⟩
theorem d_X2_empty_19 : DC mX2_empty 19 (.iinc 2 1) 3 22 := ⟨by decide +kernel, rfl⟩
theorem d_X2_empty_22 : DC mX2_empty 22 (.goto (-20)) 3 25 := ⟨by decide +kernel, rfl⟩
theorem d_X2_empty_25 : DC mX2_empty 25 (.return_) 1 26 := ⟨by decide +kernel, rfl⟩
theorem d_X2_makeSpare_0 : DC mX2_makeSpare 0 (.aload_n 0) 1 1 := ⟨by decide +kernel, rfl⟩
theorem d_X2_makeSpare_1 : DC mX2_makeSpare 1 (.aload_n 0) 1 2 := ⟨by decide +kernel, rfl⟩
theorem d_X2_makeSpare_2 : DC mX2_makeSpare 2 (.getfield 25) 3 5 := ⟨by decide +kernel, rfl⟩
theorem d_X2_makeSpare_5 : DC mX2_makeSpare 5 (.invokevirtual 55) 3 8 := ⟨by decide +kernel, rfl⟩
theorem d_X2_makeSpare_8 : DC mX2_makeSpare 8 (.iconst 0) 1 9 := ⟨by decide +kernel, rfl⟩
theorem d_X2_makeSpare_9 : DC mX2_makeSpare 9 (.istore_n 3) 1 10 := ⟨by decide +kernel, rfl⟩
theorem d_X2_makeSpare_10 : DC mX2_makeSpare 10 (.iconst 0) 1 11 := ⟨by decide +kernel, rfl⟩
theorem d_X2_makeSpare_11 : DC mX2_makeSpare 11 (.istore 4) 2 13 := ⟨by decide +kernel, rfl⟩
theorem d_X2_makeSpare_13 : DC mX2_makeSpare 13 (.iload 4) 2 15 := ⟨by decide +kernel, rfl⟩
theorem d_X2_makeSpare_15 : DC mX2_makeSpare 15 (.bipush 10) 2 17 := ⟨by decide +kernel, rfl⟩
theorem d_X2_makeSpare_17 : DC mX2_makeSpare 17 (.if_icmp .ge 42) 3 20 := ⟨by decide +kernel, rfl⟩
theorem d_X2_makeSpare_20 : DC mX2_makeSpare 20 (.iload_n 3) 1 21 := ⟨by decide +kernel, rfl⟩
theorem d_X2_makeSpare_21 : DC mX2_makeSpare 21 (.ifCond .ne 38) 3 24 := ⟨by decide +kernel, rfl⟩
theorem d_X2_makeSpare_24 : DC mX2_makeSpare 24 (.aload_n 0) 1 25 := ⟨by decide +kernel, rfl⟩
theorem d_X2_makeSpare_25 : DC mX2_makeSpare 25 (.getfield 13) 3 28 := ⟨by decide +kernel, rfl⟩
theorem d_X2_makeSpare_28 : DC mX2_makeSpare 28 (.aload_n 0) 1 29 := ⟨by decide +kernel, rfl⟩
theorem d_X2_makeSpare_29 : DC mX2_makeSpare 29 (.getfield 25) 3 32 := ⟨by decide +kernel, rfl⟩
theorem d_X2_makeSpare_32 : DC mX2_makeSpare 32 (.iload 4) 2 34 := ⟨by decide +kernel, rfl⟩
theorem d_X2_makeSpare_34 : DC mX2_makeSpare 34 (.iadd) 1 35 := ⟨by decide +kernel, rfl⟩
theorem d_X2_makeSpare_35 : DC mX2_makeSpare 35 (.aaload) 1 36 := ⟨by decide +kernel, rfl⟩
theorem d_X2_makeSpare_36 : DC mX2_makeSpare 36 (.aload_n 0) 1 37 := ⟨by decide +kernel, rfl⟩
theorem d_X2_makeSpare_37 : DC mX2_makeSpare 37 (.getfield 36) 3 40 := ⟨by decide +kernel, rfl⟩
theorem d_X2_makeSpare_40 : DC mX2_makeSpare 40 (.aload_n 0) 1 41 := ⟨by decide +kernel, rfl⟩
theorem d_X2_makeSpare_41 : DC mX2_makeSpare 41 (.getfield 13) 3 44 := ⟨by decide +kernel, rfl⟩
theorem d_X2_makeSpare_44 : DC mX2_makeSpare 44 (.iload_n 2) 1 45 := ⟨by decide +kernel, rfl⟩
theorem d_X2_makeSpare_45 : DC mX2_makeSpare 45 (.iload 4) 2 47 := ⟨by decide +kernel, rfl⟩
theorem d_X2_makeSpare_47 : DC mX2_makeSpare 47 (.iadd) 1 48 := ⟨by decide +kernel, rfl⟩
theorem d_X2_makeSpare_48 : DC mX2_makeSpare 48 (.aaload) 1 49 := ⟨by decide +kernel, rfl⟩
theorem d_X2_makeSpare_49 : DC mX2_makeSpare 49 (.invokevirtual 73) 3 52 := ⟨by decide +kernel, rfl⟩
theorem d_X2_makeSpare_52 : DC mX2_makeSpare 52 (.istore_n 3) 1 53 := ⟨by decide +kernel, rfl⟩
theorem d_X2_makeSpare_53 : DC mX2_makeSpare 53 (.iinc 4 1) 3 56 := ⟨by decide +kernel, rfl⟩
theorem d_X2_makeSpare_56 : DC mX2_makeSpare 56 (.goto (-43)) 3 59 := ⟨by decide +kernel, rfl⟩
theorem d_X2_makeSpare_59 : DC mX2_makeSpare 59 (.iconst 0) 1 60 := ⟨by decide +kernel, rfl⟩
theorem d_X2_makeSpare_60 : DC mX2_makeSpare 60 (.istore 4) 2 62 := ⟨by decide +kernel, rfl⟩
theorem d_X2_makeSpare_62 : DC mX2_makeSpare 62 (.iload 4) 2 64 := ⟨by decide +kernel, rfl⟩
theorem d_X2_makeSpare_64 : DC mX2_makeSpare 64 (.bipush 10) 2 66 := ⟨by decide +kernel, rfl⟩
theorem d_X2_makeSpare_66 : DC mX2_makeSpare 66 (.if_icmp .ge 66) 3 69 := ⟨by decide +kernel, rfl⟩
theorem d_X2_makeSpare_69 : DC mX2_makeSpare 69 (.iload_n 3) 1 70 := ⟨by decide +kernel, rfl⟩
theorem d_X2_makeSpare_70 : DC mX2_makeSpare 70 (.ifCond .ne 62) 3 73 := ⟨by decide +kernel, rfl⟩
theorem d_X2_makeSpare_73 : DC mX2_makeSpare 73 (.aload_n 0) 1 74 := ⟨by decide +kernel, rfl⟩
theorem d_X2_makeSpare_74 : DC mX2_makeSpare 74 (.getfield 29) 3 77 := ⟨by decide +kernel, rfl⟩
theorem d_X2_makeSpare_77 : DC mX2_makeSpare 77 (.invokevirtual 71) 3 80 := ⟨by decide +kernel, rfl⟩
theorem d_X2_makeSpare_80 : DC mX2_makeSpare 80 (.aload_n 0) 1 81 := ⟨by decide +kernel, rfl⟩
theorem d_X2_makeSpare_81 : DC mX2_makeSpare 81 (.getfield 29) 3 84 := ⟨by decide +kernel, rfl⟩
theorem d_X2_makeSpare_84 : DC mX2_makeSpare 84 (.aload_n 0) 1 85 := ⟨by decide +kernel, rfl⟩
theorem d_X2_makeSpare_85 : DC mX2_makeSpare 85 (.getfield 39) 3 88 := ⟨by decide +kernel, rfl⟩
theorem d_X2_makeSpare_88 : DC mX2_makeSpare 88 (.aload_n 0) 1 89 := ⟨by decide +kernel, rfl⟩
theorem d_X2_makeSpare_89 : DC mX2_makeSpare 89 (.getfield 13) 3 92 := ⟨by decide +kernel, rfl⟩
theorem d_X2_makeSpare_92 : DC mX2_makeSpare 92 (.iload_n 1) 1 93 := ⟨by decide +kernel, rfl⟩
theorem d_X2_makeSpare_93 : DC mX2_makeSpare 93 (.iload 4) 2 95 := ⟨by decide +kernel, rfl⟩
theorem d_X2_makeSpare_95 : DC mX2_makeSpare 95 (.iadd) 1 96 := ⟨by decide +kernel, rfl⟩
theorem d_X2_makeSpare_96 : DC mX2_makeSpare 96 (.aaload) 1 97 := ⟨by decide +kernel, rfl⟩
theorem d_X2_makeSpare_97 : DC mX2_makeSpare 97 (.invokevirtual 73) 3 100 := ⟨by decide +kernel, rfl⟩
theorem d_X2_makeSpare_100 : DC mX2_makeSpare 100 (.istore_n 3) 1 101 := ⟨by decide +kernel, rfl⟩
theorem d_X2_makeSpare_101 : DC mX2_makeSpare 101 (.iload_n 3) 1 102 := ⟨by decide +kernel, rfl⟩
theorem d_X2_makeSpare_102 : DC mX2_makeSpare 102 (.ifCond .ne 24) 3 105 := ⟨by decide +kernel, rfl⟩
theorem d_X2_makeSpare_105 : DC mX2_makeSpare 105 (.aload_n 0) 1 106 := ⟨by decide +kernel, rfl⟩
theorem d_X2_makeSpare_106 : DC mX2_makeSpare 106 (.getfield 13) 3 109 := ⟨by decide +kernel, rfl⟩
theorem d_X2_makeSpare_109 : DC mX2_makeSpare 109 (.aload_n 0) 1 110 := ⟨by decide +kernel, rfl⟩
theorem d_X2_makeSpare_110 : DC mX2_makeSpare 110 (.getfield 25) 3 113 := ⟨by decide +kernel, rfl⟩
theorem d_X2_makeSpare_113 : DC mX2_makeSpare 113 (.iload 4) 2 115 := ⟨by decide +kernel, rfl⟩
theorem d_X2_makeSpare_115 : DC mX2_makeSpare 115 (.iadd) 1 116 := ⟨by decide +kernel, rfl⟩
theorem d_X2_makeSpare_116 : DC mX2_makeSpare 116 (.aaload) 1 117 := ⟨by decide +kernel, rfl⟩
theorem d_X2_makeSpare_117 : DC mX2_makeSpare 117 (.aload_n 0) 1 118 := ⟨by decide +kernel, rfl⟩
theorem d_X2_makeSpare_118 : DC mX2_makeSpare 118 (.getfield 29) 3 121 := ⟨by decide +kernel, rfl⟩
theorem d_X2_makeSpare_121 : DC mX2_makeSpare 121 (.iconst (-1)) 1 122 := ⟨by decide +kernel, rfl⟩
theorem d_X2_makeSpare_122 : DC mX2_makeSpare 122 (.invokevirtual 77) 3 125 := ⟨by decide +kernel, rfl⟩
theorem d_X2_makeSpare_125 : DC mX2_makeSpare 125 (.istore_n 3) 1 126 := ⟨by decide +kernel, rfl⟩
theorem d_X2_makeSpare_126 : DC mX2_makeSpare 126 (.iinc 4 1) 3 129 := ⟨by decide +kernel, rfl⟩
theorem d_X2_makeSpare_129 : DC mX2_makeSpare 129 (.goto (-67)) 3 132 := ⟨by decide +kernel, rfl⟩
theorem d_X2_makeSpare_132 : DC mX2_makeSpare 132 (.iload_n 3) 1 133 := ⟨by decide +kernel, rfl⟩
theorem d_X2_makeSpare_133 : DC mX2_makeSpare 133 (.ireturn) 1 134 := ⟨by decide +kernel, rfl⟩
theorem d_X2_makeBracket_0 : DC mX2_makeBracket 0 (.aload_n 1) 1 1 := ⟨by decide +kernel, rfl⟩
theorem d_X2_makeBracket_1 : DC mX2_makeBracket 1 (.invokevirtual 71) 3 4 := ⟨by decide +kernel, rfl⟩
theorem d_X2_makeBracket_4 : DC mX2_makeBracket 4 (.iconst 0) 1 5 := ⟨by decide +kernel, rfl⟩
theorem d_X2_makeBracket_5 : DC mX2_makeBracket 5 (.istore 5) 2 7 := ⟨by decide +kernel, rfl⟩
theorem d_X2_makeBracket_7 : DC mX2_makeBracket 7 (.iconst 0) 1 8 := ⟨by decide +kernel, rfl⟩
theorem d_X2_makeBracket_8 : DC mX2_makeBracket 8 (.istore 6) 2 10 := ⟨by decide +kernel, rfl⟩
theorem d_X2_makeBracket_10 : DC mX2_makeBracket 10 (.iload 6) 2 12 := ⟨by decide +kernel, rfl⟩
theorem d_X2_makeBracket_12 : DC mX2_makeBracket 12 (.bipush 10) 2 14 := ⟨by decide +kernel, rfl⟩
theorem d_X2_makeBracket_14 : DC mX2_makeBracket 14 (.if_icmp .ge 178) 3 17 := ⟨by decide +kernel, rfl⟩
theorem d_X2_makeBracket_17 : DC mX2_makeBracket 17 (.aload_n 0) 1 18 := ⟨by decide +kernel, rfl⟩
theorem d_X2_makeBracket_18 : DC mX2_makeBracket 18 (.getfield 13) 3 21 := ⟨by decide +kernel, rfl⟩
theorem d_X2_makeBracket_21 : DC mX2_makeBracket 21 (.iload_n 2) 1 22 := ⟨by decide +kernel, rfl⟩
theorem d_X2_makeBracket_22 : DC mX2_makeBracket 22 (.iload 6) 2 24 := ⟨by decide +kernel, rfl⟩
theorem d_X2_makeBracket_24 : DC mX2_makeBracket 24 (.iadd) 1 25 := ⟨by decide +kernel, rfl⟩
theorem d_X2_makeBracket_25 : DC mX2_makeBracket 25 (.aaload) 1 26 := ⟨by decide +kernel, rfl⟩
theorem d_X2_makeBracket_26 : DC mX2_makeBracket 26 (.getfield 81) 3 29 := ⟨by decide +kernel, rfl⟩
theorem d_X2_makeBracket_29 : DC mX2_makeBracket 29 (.ifCond .ne 6) 3 32 := ⟨by decide +kernel, rfl⟩
theorem d_X2_makeBracket_32 : DC mX2_makeBracket 32 (.goto 154) 3 35 := ⟨by decide +kernel, rfl⟩
theorem d_X2_makeBracket_35 : DC mX2_makeBracket 35 (.iconst 0) 1 36 := ⟨by decide +kernel, rfl⟩
theorem d_X2_makeBracket_36 : DC mX2_makeBracket 36 (.istore 7) 2 38 := ⟨by decide +kernel, rfl⟩
theorem d_X2_makeBracket_38 : DC mX2_makeBracket 38 (.iload 7) 2 40 := ⟨by decide +kernel, rfl⟩
theorem d_X2_makeBracket_40 : DC mX2_makeBracket 40 (.bipush 10) 2 42 := ⟨by decide +kernel, rfl⟩
theorem d_X2_makeBracket_42 : DC mX2_makeBracket 42 (.if_icmp .ge 144) 3 45 := ⟨by decide +kernel, rfl⟩
theorem d_X2_makeBracket_45 : DC mX2_makeBracket 45 (.aload_n 0) 1 46 := ⟨by decide +kernel, rfl⟩
theorem d_X2_makeBracket_46 : DC mX2_makeBracket 46 (.getfield 13) 3 49 := ⟨by decide +kernel, rfl⟩
theorem d_X2_makeBracket_49 : DC mX2_makeBracket 49 (.iload_n 3) 1 50 := ⟨by decide +kernel, rfl⟩
theorem d_X2_makeBracket_50 : DC mX2_makeBracket 50 (.iload 7) 2 52 := ⟨by decide +kernel, rfl⟩
theorem d_X2_makeBracket_52 : DC mX2_makeBracket 52 (.iadd) 1 53 := ⟨by decide +kernel, rfl⟩
theorem d_X2_makeBracket_53 : DC mX2_makeBracket 53 (.aaload) 1 54 := ⟨by decide +kernel, rfl⟩
theorem d_X2_makeBracket_54 : DC mX2_makeBracket 54 (.getfield 81) 3 57 := ⟨by decide +kernel, rfl⟩
theorem d_X2_makeBracket_57 : DC mX2_makeBracket 57 (.ifCond .eq 123) 3 60 := ⟨by decide +kernel, rfl⟩
theorem d_X2_makeBracket_60 : DC mX2_makeBracket 60 (.iload 6) 2 62 := ⟨by decide +kernel, rfl⟩
theorem d_X2_makeBracket_62 : DC mX2_makeBracket 62 (.iload 7) 2 64 := ⟨by decide +kernel, rfl⟩
theorem d_X2_makeBracket_64 : DC mX2_makeBracket 64 (.if_icmp .ne 6) 3 67 := ⟨by decide +kernel, rfl⟩
theorem d_X2_makeBracket_67 : DC mX2_makeBracket 67 (.goto 113) 3 70 := ⟨by decide +kernel, rfl⟩
theorem d_X2_makeBracket_70 : DC mX2_makeBracket 70 (.iconst 0) 1 71 := ⟨by decide +kernel, rfl⟩
theorem d_X2_makeBracket_71 : DC mX2_makeBracket 71 (.istore 8) 2 73 := ⟨by decide +kernel, rfl⟩
theorem d_X2_makeBracket_73 : DC mX2_makeBracket 73 (.iload 8) 2 75 := ⟨by decide +kernel, rfl⟩
theorem d_X2_makeBracket_75 : DC mX2_makeBracket 75 (.bipush 10) 2 77 := ⟨by decide +kernel, rfl⟩
theorem d_X2_makeBracket_77 : DC mX2_makeBracket 77 (.if_icmp .ge 103) 3 80 := ⟨by decide +kernel, rfl⟩
theorem d_X2_makeBracket_80 : DC mX2_makeBracket 80 (.iload 5) 2 82 := ⟨by decide +kernel, rfl⟩
theorem d_X2_makeBracket_82 : DC mX2_makeBracket 82 (.ifCond .ne 98) 3 85 := ⟨by decide +kernel, rfl⟩
theorem d_X2_makeBracket_85 : DC mX2_makeBracket 85 (.aload_n 0) 1 86 := ⟨by decide +kernel, rfl⟩
theorem d_X2_makeBracket_86 : DC mX2_makeBracket 86 (.getfield 13) 3 89 := ⟨by decide +kernel, rfl⟩
theorem d_X2_makeBracket_89 : DC mX2_makeBracket 89 (.iload 4) 2 91 := ⟨by decide +kernel, rfl⟩
theorem d_X2_makeBracket_91 : DC mX2_makeBracket 91 (.iload 8) 2 93 := ⟨by decide +kernel, rfl⟩
theorem d_X2_makeBracket_93 : DC mX2_makeBracket 93 (.iadd) 1 94 := ⟨by decide +kernel, rfl⟩
theorem d_X2_makeBracket_94 : DC mX2_makeBracket 94 (.aaload) 1 95 := ⟨by decide +kernel, rfl⟩
theorem d_X2_makeBracket_95 : DC mX2_makeBracket 95 (.getfield 81) 3 98 := ⟨by decide +kernel, rfl⟩
theorem d_X2_makeBracket_98 : DC mX2_makeBracket 98 (.ifCond .eq 76) 3 101 := ⟨by decide +kernel, rfl⟩
theorem d_X2_makeBracket_101 : DC mX2_makeBracket 101 (.iload 6) 2 103 := ⟨by decide +kernel, rfl⟩
theorem d_X2_makeBracket_103 : DC mX2_makeBracket 103 (.iload 8) 2 105 := ⟨by decide +kernel, rfl⟩
theorem d_X2_makeBracket_105 : DC mX2_makeBracket 105 (.if_icmp .eq 69) 3 108 := ⟨by decide +kernel, rfl⟩
theorem d_X2_makeBracket_108 : DC mX2_makeBracket 108 (.iload 7) 2 110 := ⟨by decide +kernel, rfl⟩
theorem d_X2_makeBracket_110 : DC mX2_makeBracket 110 (.iload 8) 2 112 := ⟨by decide +kernel, rfl⟩
theorem d_X2_makeBracket_112 : DC mX2_makeBracket 112 (.if_icmp .eq 62) 3 115 := ⟨by decide +kernel, rfl⟩
theorem d_X2_makeBracket_115 : DC mX2_makeBracket 115 (.aload_n 0) 1 116 := ⟨by decide +kernel, rfl⟩
theorem d_X2_makeBracket_116 : DC mX2_makeBracket 116 (.getfield 45) 3 119 := ⟨by decide +kernel, rfl⟩
theorem d_X2_makeBracket_119 : DC mX2_makeBracket 119 (.lconst 0) 1 120 := ⟨by decide +kernel, rfl⟩
theorem d_X2_makeBracket_120 : DC mX2_makeBracket 120 (.invokevirtual 84) 3 123 := ⟨by decide +kernel, rfl⟩
theorem d_X2_makeBracket_123 : DC mX2_makeBracket 123 (.aload_n 0) 1 124 := ⟨by decide +kernel, rfl⟩
theorem d_X2_makeBracket_124 : DC mX2_makeBracket 124 (.getfield 45) 3 127 := ⟨by decide +kernel, rfl⟩
theorem d_X2_makeBracket_127 : DC mX2_makeBracket 127 (.iload 6) 2 129 := ⟨by decide +kernel, rfl⟩
theorem d_X2_makeBracket_129 : DC mX2_makeBracket 129 (.iload 7) 2 131 := ⟨by decide +kernel, rfl⟩
theorem d_X2_makeBracket_131 : DC mX2_makeBracket 131 (.iload 8) 2 133 := ⟨by decide +kernel, rfl⟩
theorem d_X2_makeBracket_133 : DC mX2_makeBracket 133 (.invokestatic 88) 3 136 := ⟨by decide +kernel, rfl⟩
theorem d_X2_makeBracket_136 : DC mX2_makeBracket 136 (.invokevirtual 94) 3 139 := ⟨by decide +kernel, rfl⟩
theorem d_X2_makeBracket_139 : DC mX2_makeBracket 139 (.aload_n 0) 1 140 := ⟨by decide +kernel, rfl⟩
theorem d_X2_makeBracket_140 : DC mX2_makeBracket 140 (.aload_n 1) 1 141 := ⟨by decide +kernel, rfl⟩
theorem d_X2_makeBracket_141 : DC mX2_makeBracket 141 (.aload_n 0) 1 142 := ⟨by decide +kernel, rfl⟩
theorem d_X2_makeBracket_142 : DC mX2_makeBracket 142 (.getfield 13) 3 145 := ⟨by decide +kernel, rfl⟩
theorem d_X2_makeBracket_145 : DC mX2_makeBracket 145 (.iload_n 2) 1 146 := ⟨by decide +kernel, rfl⟩
theorem d_X2_makeBracket_146 : DC mX2_makeBracket 146 (.iload 6) 2 148 := ⟨by decide +kernel, rfl⟩
theorem d_X2_makeBracket_148 : DC mX2_makeBracket 148 (.iadd) 1 149 := ⟨by decide +kernel, rfl⟩
theorem d_X2_makeBracket_149 : DC mX2_makeBracket 149 (.aaload) 1 150 := ⟨by decide +kernel, rfl⟩
theorem d_X2_makeBracket_150 : DC mX2_makeBracket 150 (.aload_n 0) 1 151 := ⟨by decide +kernel, rfl⟩
theorem d_X2_makeBracket_151 : DC mX2_makeBracket 151 (.getfield 13) 3 154 := ⟨by decide +kernel, rfl⟩
theorem d_X2_makeBracket_154 : DC mX2_makeBracket 154 (.iload_n 3) 1 155 := ⟨by decide +kernel, rfl⟩
theorem d_X2_makeBracket_155 : DC mX2_makeBracket 155 (.iload 7) 2 157 := ⟨by decide +kernel, rfl⟩
theorem d_X2_makeBracket_157 : DC mX2_makeBracket 157 (.iadd) 1 158 := ⟨by decide +kernel, rfl⟩
theorem d_X2_makeBracket_158 : DC mX2_makeBracket 158 (.aaload) 1 159 := ⟨by decide +kernel, rfl⟩
theorem d_X2_makeBracket_159 : DC mX2_makeBracket 159 (.aload_n 0) 1 160 := ⟨by decide +kernel, rfl⟩
theorem d_X2_makeBracket_160 : DC mX2_makeBracket 160 (.getfield 13) 3 163 := ⟨by decide +kernel, rfl⟩
theorem d_X2_makeBracket_163 : DC mX2_makeBracket 163 (.iload 4) 2 165 := ⟨by decide +kernel, rfl⟩
theorem d_X2_makeBracket_165 : DC mX2_makeBracket 165 (.iload 8) 2 167 := ⟨by decide +kernel, rfl⟩
theorem d_X2_makeBracket_167 : DC mX2_makeBracket 167 (.iadd) 1 168 := ⟨by decide +kernel, rfl⟩
theorem d_X2_makeBracket_168 : DC mX2_makeBracket 168 (.aaload) 1 169 := ⟨by decide +kernel, rfl⟩
theorem d_X2_makeBracket_169 : DC mX2_makeBracket 169 (.invokevirtual 97) 3 172 := ⟨by decide +kernel, rfl⟩
theorem d_X2_makeBracket_172 : DC mX2_makeBracket 172 (.istore 5) 2 174 := ⟨by decide +kernel, rfl⟩
theorem d_X2_makeBracket_174 : DC mX2_makeBracket 174 (.iinc 8 1) 3 177 := ⟨by decide +kernel, rfl⟩
theorem d_X2_makeBracket_177 : DC mX2_makeBracket 177 (.goto (-104)) 3 180 := ⟨by decide +kernel, rfl⟩
theorem d_X2_makeBracket_180 : DC mX2_makeBracket 180 (.iinc 7 1) 3 183 := ⟨by decide +kernel, rfl⟩
theorem d_X2_makeBracket_183 : DC mX2_makeBracket 183 (.goto (-145)) 3 186 := ⟨by decide +kernel, rfl⟩
theorem d_X2_makeBracket_186 : DC mX2_makeBracket 186 (.iinc 6 1) 3 189 := ⟨by decide +kernel, rfl⟩
theorem d_X2_makeBracket_189 : DC mX2_makeBracket 189 (.goto (-179)) 3 192 := ⟨by decide +kernel, rfl⟩
theorem d_X2_makeBracket_192 : DC mX2_makeBracket 192 (.iload 5) 2 194 := ⟨by decide +kernel, rfl⟩
theorem d_X2_makeBracket_194 : DC mX2_makeBracket 194 (.ireturn) 1 195 := ⟨by decide +kernel, rfl⟩
theorem d_X2_layTimesThree_0 : DC mX2_layTimesThree 0 (.aload_n 0) 1 1 := ⟨by decide +kernel, rfl⟩
theorem d_X2_layTimesThree_1 : DC mX2_layTimesThree 1 (.getfield 29) 3 4 := ⟨by decide +kernel, rfl⟩
theorem d_X2_layTimesThree_4 : DC mX2_layTimesThree 4 (.invokevirtual 71) 3 7 := ⟨by decide +kernel, rfl⟩
theorem d_X2_layTimesThree_7 : DC mX2_layTimesThree 7 (.aload_n 0) 1 8 := ⟨by decide +kernel, rfl⟩
theorem d_X2_layTimesThree_8 : DC mX2_layTimesThree 8 (.getfield 29) 3 11 := ⟨by decide +kernel, rfl⟩
theorem d_X2_layTimesThree_11 : DC mX2_layTimesThree 11 (.aload_n 0) 1 12 := ⟨by decide +kernel, rfl⟩
theorem d_X2_layTimesThree_12 : DC mX2_layTimesThree 12 (.getfield 45) 3 15 := ⟨by decide +kernel, rfl⟩
theorem d_X2_layTimesThree_15 : DC mX2_layTimesThree 15 (.getfield 101) 3 18 := ⟨by decide +kernel, rfl⟩
theorem d_X2_layTimesThree_18 : DC mX2_layTimesThree 18 (.aload_n 0) 1 19 := ⟨by decide +kernel, rfl⟩
theorem d_X2_layTimesThree_19 : DC mX2_layTimesThree 19 (.getfield 45) 3 22 := ⟨by decide +kernel, rfl⟩
theorem d_X2_layTimesThree_22 : DC mX2_layTimesThree 22 (.getfield 105) 3 25 := ⟨by decide +kernel, rfl⟩
theorem d_X2_layTimesThree_25 : DC mX2_layTimesThree 25 (.i2l) 1 26 := ⟨by decide +kernel, rfl⟩
theorem d_X2_layTimesThree_26 : DC mX2_layTimesThree 26 (.invokevirtual 59) 3 29 := ⟨by decide +kernel, rfl⟩
theorem d_X2_layTimesThree_29 : DC mX2_layTimesThree 29 (.pop) 1 30 := ⟨by decide +kernel, rfl⟩
theorem d_X2_layTimesThree_30 : DC mX2_layTimesThree 30 (.aload_n 0) 1 31 := ⟨by decide +kernel, rfl⟩
theorem d_X2_layTimesThree_31 : DC mX2_layTimesThree 31 (.getfield 33) 3 34 := ⟨by decide +kernel, rfl⟩
theorem d_X2_layTimesThree_34 : DC mX2_layTimesThree 34 (.invokevirtual 71) 3 37 := ⟨by decide +kernel, rfl⟩
theorem d_X2_layTimesThree_37 : DC mX2_layTimesThree 37 (.aload_n 0) 1 38 := ⟨by decide +kernel, rfl⟩
theorem d_X2_layTimesThree_38 : DC mX2_layTimesThree 38 (.getfield 33) 3 41 := ⟨by decide +kernel, rfl⟩
theorem d_X2_layTimesThree_41 : DC mX2_layTimesThree 41 (.aload_n 0) 1 42 := ⟨by decide +kernel, rfl⟩
theorem d_X2_layTimesThree_42 : DC mX2_layTimesThree 42 (.getfield 29) 3 45 := ⟨by decide +kernel, rfl⟩
theorem d_X2_layTimesThree_45 : DC mX2_layTimesThree 45 (.aload_n 2) 1 46 := ⟨by decide +kernel, rfl⟩
theorem d_X2_layTimesThree_46 : DC mX2_layTimesThree 46 (.invokevirtual 73) 3 49 := ⟨by decide +kernel, rfl⟩
theorem d_X2_layTimesThree_49 : DC mX2_layTimesThree 49 (.istore 5) 2 51 := ⟨by decide +kernel, rfl⟩
theorem d_X2_layTimesThree_51 : DC mX2_layTimesThree 51 (.iload 5) 2 53 := ⟨by decide +kernel, rfl⟩
theorem d_X2_layTimesThree_53 : DC mX2_layTimesThree 53 (.ifCond .ne 24) 3 56 := ⟨by decide +kernel, rfl⟩
theorem d_X2_layTimesThree_56 : DC mX2_layTimesThree 56 (.aload_n 0) 1 57 := ⟨by decide +kernel, rfl⟩
theorem d_X2_layTimesThree_57 : DC mX2_layTimesThree 57 (.getfield 29) 3 60 := ⟨by decide +kernel, rfl⟩
theorem d_X2_layTimesThree_60 : DC mX2_layTimesThree 60 (.invokevirtual 71) 3 63 := ⟨by decide +kernel, rfl⟩
theorem d_X2_layTimesThree_63 : DC mX2_layTimesThree 63 (.aload_n 0) 1 64 := ⟨by decide +kernel, rfl⟩
theorem d_X2_layTimesThree_64 : DC mX2_layTimesThree 64 (.getfield 29) 3 67 := ⟨by decide +kernel, rfl⟩
theorem d_X2_layTimesThree_67 : DC mX2_layTimesThree 67 (.aload_n 0) 1 68 := ⟨by decide +kernel, rfl⟩
theorem d_X2_layTimesThree_68 : DC mX2_layTimesThree 68 (.getfield 33) 3 71 := ⟨by decide +kernel, rfl⟩
theorem d_X2_layTimesThree_71 : DC mX2_layTimesThree 71 (.aload_n 3) 1 72 := ⟨by decide +kernel, rfl⟩
theorem d_X2_layTimesThree_72 : DC mX2_layTimesThree 72 (.invokevirtual 73) 3 75 := ⟨by decide +kernel, rfl⟩
theorem d_X2_layTimesThree_75 : DC mX2_layTimesThree 75 (.istore 5) 2 77 := ⟨by decide +kernel, rfl⟩
theorem d_X2_layTimesThree_77 : DC mX2_layTimesThree 77 (.iload 5) 2 79 := ⟨by decide +kernel, rfl⟩
theorem d_X2_layTimesThree_79 : DC mX2_layTimesThree 79 (.ifCond .ne 25) 3 82 := ⟨by decide +kernel, rfl⟩
theorem d_X2_layTimesThree_82 : DC mX2_layTimesThree 82 (.aload_n 0) 1 83 := ⟨by decide +kernel, rfl⟩
theorem d_X2_layTimesThree_83 : DC mX2_layTimesThree 83 (.getfield 33) 3 86 := ⟨by decide +kernel, rfl⟩
theorem d_X2_layTimesThree_86 : DC mX2_layTimesThree 86 (.invokevirtual 71) 3 89 := ⟨by decide +kernel, rfl⟩
theorem d_X2_layTimesThree_89 : DC mX2_layTimesThree 89 (.aload_n 0) 1 90 := ⟨by decide +kernel, rfl⟩
theorem d_X2_layTimesThree_90 : DC mX2_layTimesThree 90 (.getfield 33) 3 93 := ⟨by decide +kernel, rfl⟩
theorem d_X2_layTimesThree_93 : DC mX2_layTimesThree 93 (.aload_n 0) 1 94 := ⟨by decide +kernel, rfl⟩
theorem d_X2_layTimesThree_94 : DC mX2_layTimesThree 94 (.getfield 29) 3 97 := ⟨by decide +kernel, rfl⟩
theorem d_X2_layTimesThree_97 : DC mX2_layTimesThree 97 (.aload 4) 2 99 := ⟨by decide +kernel, rfl⟩
theorem d_X2_layTimesThree_99 : DC mX2_layTimesThree 99 (.invokevirtual 73) 3 102 := ⟨by decide +kernel, rfl⟩
theorem d_X2_layTimesThree_102 : DC mX2_layTimesThree 102 (.istore 5) 2 104 := ⟨by decide +kernel, rfl⟩
theorem d_X2_layTimesThree_104 : DC mX2_layTimesThree 104 (.iload 5) 2 106 := ⟨by decide +kernel, rfl⟩
theorem d_X2_layTimesThree_106 : DC mX2_layTimesThree 106 (.ifCond .ne 15) 3 109 := ⟨by decide +kernel, rfl⟩
theorem d_X2_layTimesThree_109 : DC mX2_layTimesThree 109 (.aload_n 1) 1 110 := ⟨by decide +kernel, rfl⟩
theorem d_X2_layTimesThree_110 : DC mX2_layTimesThree 110 (.aload_n 0) 1 111 := ⟨by decide +kernel, rfl⟩
theorem d_X2_layTimesThree_111 : DC mX2_layTimesThree 111 (.getfield 33) 3 114 := ⟨by decide +kernel, rfl⟩
theorem d_X2_layTimesThree_114 : DC mX2_layTimesThree 114 (.iconst 1) 1 115 := ⟨by decide +kernel, rfl⟩
theorem d_X2_layTimesThree_115 : DC mX2_layTimesThree 115 (.invokevirtual 77) 3 118 := ⟨by decide +kernel, rfl⟩
theorem d_X2_layTimesThree_118 : DC mX2_layTimesThree 118 (.goto 5) 3 121 := ⟨by decide +kernel, rfl⟩
theorem d_X2_layTimesThree_121 : DC mX2_layTimesThree 121 (.iload 5) 2 123 := ⟨by decide +kernel, rfl⟩
theorem d_X2_layTimesThree_123 : DC mX2_layTimesThree 123 (.ireturn) 1 124 := ⟨by decide +kernel, rfl⟩
theorem v_X2_begin_0 {l : Launch} {d N : Nat} {Λ : Lay} {P : Mem → Prop} {σ : Mem} {t : Int} (o_t : Ob N Λ t 12 9)
    (h : (∀ τ1, τ1 = st σ t 2 0 → P τ1)) :
    WV l mX2_begin d P 0 [(2, t)] [] N Λ σ := by
  refine r_aload_n (x := t) d_X2_begin_0 rfl o_t.1 ?_
  refine r_iconst (x := 0) d_X2_begin_1 ⟨by decide, by decide⟩ ?_
  refine r_putI (j := 2) d_X2_begin_2 kX2 (by decide) fl_X2_21 rfl o_t.1 o_t.2.1 o_t.2.2.1 o_t.2.2.2 rfl ?_
  refine r_nmM (fun τ1 eτ1 => ?_)
  have h := h τ1 eτ1
  exact r_vret d_X2_begin_5 rfl (Nat.le_refl 0) (Nat.le_refl 0) ⟨rfl, rfl, rfl, h⟩
theorem v_X2_take_0 {l : Launch} {d N : Nat} {Λ : Lay} {P : Int → Mem → Prop} {σ : Mem} {x1 t t_firstBracket t_polys t_secondBracket t_stack : Int} (o_t : Ob N Λ t 12 9) (f_t_stack : (Λ t).2.2 1 = t_stack) (f_t_firstBracket : (Λ t).2.2 6 = t_firstBracket) (f_t_secondBracket : (Λ t).2.2 7 = t_secondBracket) (f_t_polys : (Λ t).2.2 0 = t_polys) (h0d : 1 ≤ d)
    (h : (CI l mX9_isLetterByte (d - 1) [(0, x1)] N Λ σ (fun v2 σ1 => ((v2 = 0 → ((¬ x1 = 41 → P 0 σ1) ∧ (x1 = 41 → ((4 ≤ (σ1 t 2) → (Ix N Λ t_stack 0 (subI (σ1 t 2) 4) ∧ (∀ y3, y3 = (σ1 t_stack (subI (σ1 t 2) 4)) → (Ix N Λ t_stack 0 (subI (σ1 t 2) 3) ∧ (∀ y4, y4 = (σ1 t_stack (subI (σ1 t 2) 3)) → (Ix N Λ t_stack 0 (subI (σ1 t 2) 2) ∧ (∀ y5, y5 = (σ1 t_stack (subI (σ1 t 2) 2)) → (Ix N Λ t_stack 0 (subI (σ1 t 2) 1) ∧ (∀ y6, y6 = (σ1 t_stack (subI (σ1 t 2) 1)) → (CI l mX2_makeBracket (d - 1) [(2, t), (2, t_firstBracket), (0, y3), (0, y5), (0, y6)] N Λ σ1 (fun v8 σ7 => ((¬ v8 = 0 → ((¬ v8 = 0 → (Ix N Λ t_stack 0 (subI (σ7 t 2) 4) ∧ (∀ τ9, τ9 = st σ7 t_stack (subI (σ7 t 2) 4) (σ7 t 3) → (∀ τ10, τ10 = st τ9 t 3 y3 → (∀ τ11, τ11 = st τ10 t 2 (subI (τ10 t 2) 3) → P v8 τ11))))) ∧ (v8 = 0 → (CI l mX2_makeSpare (d - 1) [(2, t), (0, y3), (0, y4)] N Λ σ7 (fun v13 σ12 => (Ix N Λ t_stack 0 (subI (σ12 t 2) 4) ∧ (∀ τ14, τ14 = st σ12 t_stack (subI (σ12 t 2) 4) (σ12 t 3) → (∀ τ15, τ15 = st τ14 t 3 y3 → (∀ τ16, τ16 = st τ15 t 2 (subI (τ15 t 2) 3) → P v13 τ16))))))))) ∧ (v8 = 0 → (CI l mX2_makeBracket (d - 1) [(2, t), (2, t_secondBracket), (0, y4), (0, y5), (0, y6)] N Λ σ7 (fun v18 σ17 => ((¬ v18 = 0 → (Ix N Λ t_stack 0 (subI (σ17 t 2) 4) ∧ (∀ τ19, τ19 = st σ17 t_stack (subI (σ17 t 2) 4) (σ17 t 3) → (∀ τ20, τ20 = st τ19 t 3 y3 → (∀ τ21, τ21 = st τ20 t 2 (subI (τ20 t 2) 3) → P v18 τ21))))) ∧ (v18 = 0 → (CI l mX2_makeSpare (d - 1) [(2, t), (0, y3), (0, y4)] N Λ σ17 (fun v23 σ22 => (Ix N Λ t_stack 0 (subI (σ22 t 2) 4) ∧ (∀ τ24, τ24 = st σ22 t_stack (subI (σ22 t 2) 4) (σ22 t 3) → (∀ τ25, τ25 = st τ24 t 3 y3 → (∀ τ26, τ26 = st τ25 t 2 (subI (τ25 t 2) 3) → P v23 τ26))))))))))))))))))))))) ∧ (¬ (4 ≤ (σ1 t 2)) → P 0 σ1))))) ∧ (¬ (v2 = 0) → ((9 ≤ (σ1 t 2) → ((¬ x1 = 41 → P 0 σ1) ∧ (x1 = 41 → ((4 ≤ (σ1 t 2) → (Ix N Λ t_stack 0 (subI (σ1 t 2) 4) ∧ (∀ y27, y27 = (σ1 t_stack (subI (σ1 t 2) 4)) → (Ix N Λ t_stack 0 (subI (σ1 t 2) 3) ∧ (∀ y28, y28 = (σ1 t_stack (subI (σ1 t 2) 3)) → (Ix N Λ t_stack 0 (subI (σ1 t 2) 2) ∧ (∀ y29, y29 = (σ1 t_stack (subI (σ1 t 2) 2)) → (Ix N Λ t_stack 0 (subI (σ1 t 2) 1) ∧ (∀ y30, y30 = (σ1 t_stack (subI (σ1 t 2) 1)) → (CI l mX2_makeBracket (d - 1) [(2, t), (2, t_firstBracket), (0, y27), (0, y29), (0, y30)] N Λ σ1 (fun v32 σ31 => ((¬ v32 = 0 → ((¬ v32 = 0 → (Ix N Λ t_stack 0 (subI (σ31 t 2) 4) ∧ (∀ τ33, τ33 = st σ31 t_stack (subI (σ31 t 2) 4) (σ31 t 3) → (∀ τ34, τ34 = st τ33 t 3 y27 → (∀ τ35, τ35 = st τ34 t 2 (subI (τ34 t 2) 3) → P v32 τ35))))) ∧ (v32 = 0 → (CI l mX2_makeSpare (d - 1) [(2, t), (0, y27), (0, y28)] N Λ σ31 (fun v37 σ36 => (Ix N Λ t_stack 0 (subI (σ36 t 2) 4) ∧ (∀ τ38, τ38 = st σ36 t_stack (subI (σ36 t 2) 4) (σ36 t 3) → (∀ τ39, τ39 = st τ38 t 3 y27 → (∀ τ40, τ40 = st τ39 t 2 (subI (τ39 t 2) 3) → P v37 τ40))))))))) ∧ (v32 = 0 → (CI l mX2_makeBracket (d - 1) [(2, t), (2, t_secondBracket), (0, y28), (0, y29), (0, y30)] N Λ σ31 (fun v42 σ41 => ((¬ v42 = 0 → (Ix N Λ t_stack 0 (subI (σ41 t 2) 4) ∧ (∀ τ43, τ43 = st σ41 t_stack (subI (σ41 t 2) 4) (σ41 t 3) → (∀ τ44, τ44 = st τ43 t 3 y27 → (∀ τ45, τ45 = st τ44 t 2 (subI (τ44 t 2) 3) → P v42 τ45))))) ∧ (v42 = 0 → (CI l mX2_makeSpare (d - 1) [(2, t), (0, y27), (0, y28)] N Λ σ41 (fun v47 σ46 => (Ix N Λ t_stack 0 (subI (σ46 t 2) 4) ∧ (∀ τ48, τ48 = st σ46 t_stack (subI (σ46 t 2) 4) (σ46 t 3) → (∀ τ49, τ49 = st τ48 t 3 y27 → (∀ τ50, τ50 = st τ49 t 2 (subI (τ49 t 2) 3) → P v47 τ50))))))))))))))))))))))) ∧ (¬ (4 ≤ (σ1 t 2)) → P 0 σ1))))) ∧ (¬ (9 ≤ (σ1 t 2)) → (Ix N Λ t_stack 0 (σ1 t 2) ∧ (CV l mX2_empty (d - 1) [(2, t), (0, (σ1 t_stack (σ1 t 2)))] N Λ σ1 (fun σ51 => (∀ τ52, τ52 = st σ51 t 2 (addI (σ51 t 2) 1) → (Ix N Λ t_stack 0 (subI (τ52 t 2) 1) ∧ (Ix N Λ t_polys 3 (subI (addI (τ52 t_stack (subI (τ52 t 2) 1)) x1) 97) ∧ ∀ b53, b53 = (Λ t_polys).2.2 (subI (addI (τ52 t_stack (subI (τ52 t 2) 1)) x1) 97) → Ob N Λ b53 15 3 ∧ (CI l mX5_lay (d - 1) [(2, b53), (1, 0), (1, 1)] N Λ τ52 (fun v55 σ54 => P v55 σ54))))))))))))))) :
    WI l mX2_take d P 0 [(2, t), (0, x1), (3, 0), (3, 0), (3, 0), (3, 0), (3, 0)] [] N Λ σ := by
  refine r_iload_n (x := x1) d_X2_take_0 rfl ?_
  refine r_callS (Y2 := mX9_isLetterByte) (d := d - 1) (mc := 0) (ms := 0) (As := [(0, x1)]) (S := []) d_X2_take_1 ok_mX9_isLetterByte ml_X2_49 rfl (rmc h0d (by decide)) rm00 (Nat.le_of_ble_eq_true rfl) rfl (MC.mono h (fun r N1 Λ1 σ1 hq => ?_))
  obtain ⟨v2, rfl, rfl, rfl, h⟩ := hq
  refine r_if_eq (tgt := 66) d_X2_take_4 rfl (fun hc => ?_) (fun hc => ?_)
  · have h := h.1 hc
    refine r_iload_n (x := x1) d_X2_take_66 rfl ?_
    refine r_bipush (x := 41) d_X2_take_67 ⟨by decide, by decide⟩ (by decide) ?_
    refine r_ic_ne (tgt := 80) d_X2_take_69 rfl (fun hc => ?_) (fun hc => ?_)
    · have h := h.1 hc
      refine r_iconst (x := 0) d_X2_take_80 ⟨by decide, by decide⟩ ?_
      exact r_iret d_X2_take_81 rfl rfl (Nat.le_refl 0) (Nat.le_refl 0) ⟨_, rfl, rfl, rfl, h⟩
    · have h := h.2 hc
      refine r_aload_n (x := t) d_X2_take_72 rfl o_t.1 ?_
      refine r_getf (j := 2) (t := 0) (x := (σ1 t 2)) d_X2_take_73 kX2 (by decide) fl_X2_21 o_t.1 o_t.2.1 o_t.2.2.1 o_t.2.2.2 rfl rfl ?_
      refine r_iconst (x := 4) d_X2_take_76 ⟨by decide, by decide⟩ ?_
      refine r_ic_ge (tgt := 82) d_X2_take_77 rfl (fun hc => ?_) (fun hc => ?_)
      · have h := h.1 hc
        refine r_aload_n (x := t) d_X2_take_82 rfl o_t.1 ?_
        refine r_getf (j := 1) (t := 2) (x := t_stack) d_X2_take_83 kX2 (by decide) fl_X2_17 o_t.1 o_t.2.1 o_t.2.2.1 o_t.2.2.2 rfl f_t_stack ?_
        refine r_aload_n (x := t) d_X2_take_86 rfl o_t.1 ?_
        refine r_getf (j := 2) (t := 0) (x := (σ1 t 2)) d_X2_take_87 kX2 (by decide) fl_X2_21 o_t.1 o_t.2.1 o_t.2.2.1 o_t.2.2.2 rfl rfl ?_
        refine r_iconst (x := 4) d_X2_take_90 ⟨by decide, by decide⟩ ?_
        refine r_isub d_X2_take_91 ?_
        refine x_iald d_X2_take_92 h.1 ?_
        have h := h.2
        refine r_nm (fun y3 ey3 => ?_)
        have h := h y3 ey3
        refine r_istore_n (L2 := [(2, t), (0, x1), (0, y3), (3, 0), (3, 0), (3, 0), (3, 0)]) d_X2_take_93 (by decide) rfl rfl ?_
        refine r_aload_n (x := t) d_X2_take_94 rfl o_t.1 ?_
        refine r_getf (j := 1) (t := 2) (x := t_stack) d_X2_take_95 kX2 (by decide) fl_X2_17 o_t.1 o_t.2.1 o_t.2.2.1 o_t.2.2.2 rfl f_t_stack ?_
        refine r_aload_n (x := t) d_X2_take_98 rfl o_t.1 ?_
        refine r_getf (j := 2) (t := 0) (x := (σ1 t 2)) d_X2_take_99 kX2 (by decide) fl_X2_21 o_t.1 o_t.2.1 o_t.2.2.1 o_t.2.2.2 rfl rfl ?_
        refine r_iconst (x := 3) d_X2_take_102 ⟨by decide, by decide⟩ ?_
        refine r_isub d_X2_take_103 ?_
        refine x_iald d_X2_take_104 h.1 ?_
        have h := h.2
        refine r_nm (fun y4 ey4 => ?_)
        have h := h y4 ey4
        refine r_istore_n (L2 := [(2, t), (0, x1), (0, y3), (0, y4), (3, 0), (3, 0), (3, 0)]) d_X2_take_105 (by decide) rfl rfl ?_
        refine r_aload_n (x := t) d_X2_take_106 rfl o_t.1 ?_
        refine r_getf (j := 1) (t := 2) (x := t_stack) d_X2_take_107 kX2 (by decide) fl_X2_17 o_t.1 o_t.2.1 o_t.2.2.1 o_t.2.2.2 rfl f_t_stack ?_
        refine r_aload_n (x := t) d_X2_take_110 rfl o_t.1 ?_
        refine r_getf (j := 2) (t := 0) (x := (σ1 t 2)) d_X2_take_111 kX2 (by decide) fl_X2_21 o_t.1 o_t.2.1 o_t.2.2.1 o_t.2.2.2 rfl rfl ?_
        refine r_iconst (x := 2) d_X2_take_114 ⟨by decide, by decide⟩ ?_
        refine r_isub d_X2_take_115 ?_
        refine x_iald d_X2_take_116 h.1 ?_
        have h := h.2
        refine r_nm (fun y5 ey5 => ?_)
        have h := h y5 ey5
        refine r_istore (L2 := [(2, t), (0, x1), (0, y3), (0, y4), (0, y5), (3, 0), (3, 0)]) d_X2_take_117 (by decide) rfl rfl ?_
        refine r_aload_n (x := t) d_X2_take_119 rfl o_t.1 ?_
        refine r_getf (j := 1) (t := 2) (x := t_stack) d_X2_take_120 kX2 (by decide) fl_X2_17 o_t.1 o_t.2.1 o_t.2.2.1 o_t.2.2.2 rfl f_t_stack ?_
        refine r_aload_n (x := t) d_X2_take_123 rfl o_t.1 ?_
        refine r_getf (j := 2) (t := 0) (x := (σ1 t 2)) d_X2_take_124 kX2 (by decide) fl_X2_21 o_t.1 o_t.2.1 o_t.2.2.1 o_t.2.2.2 rfl rfl ?_
        refine r_iconst (x := 1) d_X2_take_127 ⟨by decide, by decide⟩ ?_
        refine r_isub d_X2_take_128 ?_
        refine x_iald d_X2_take_129 h.1 ?_
        have h := h.2
        refine r_nm (fun y6 ey6 => ?_)
        have h := h y6 ey6
        refine r_istore (L2 := [(2, t), (0, x1), (0, y3), (0, y4), (0, y5), (0, y6), (3, 0)]) d_X2_take_130 (by decide) rfl rfl ?_
        refine r_aload_n (x := t) d_X2_take_132 rfl o_t.1 ?_
        refine r_aload_n (x := t) d_X2_take_133 rfl o_t.1 ?_
        refine r_getf (j := 6) (t := 2) (x := t_firstBracket) d_X2_take_134 kX2 (by decide) fl_X2_36 o_t.1 o_t.2.1 o_t.2.2.1 o_t.2.2.2 rfl f_t_firstBracket ?_
        refine r_iload_n (x := y3) d_X2_take_137 rfl ?_
        refine r_iload (x := y5) d_X2_take_138 rfl ?_
        refine r_iload (x := y6) d_X2_take_140 rfl ?_
        refine r_callV (Y2 := mX2_makeBracket) (d := d - 1) (mc := 0) (ms := 0) (c := t) (As := [(2, t_firstBracket), (0, y3), (0, y5), (0, y6)]) (S := []) d_X2_take_142 ok_mX2_makeBracket ml_X2_63 rfl (rmc h0d (by decide)) rm00 (Nat.le_of_ble_eq_true rfl) rfl kX2 o_t.1 o_t.2.1 o_t.2.2.1 o_t.2.2.2 (MC.mono h (fun r N1 Λ1 σ7 hq => ?_))
        obtain ⟨v8, rfl, rfl, rfl, h⟩ := hq
        refine r_istore (L2 := [(2, t), (0, x1), (0, y3), (0, y4), (0, y5), (0, y6), (0, v8)]) d_X2_take_145 (by decide) rfl rfl ?_
        refine r_iload (x := v8) d_X2_take_147 rfl ?_
        refine r_if_ne (tgt := 167) d_X2_take_149 rfl (fun hc => ?_) (fun hc => ?_)
        · have h := h.1 hc
          refine r_iload (x := v8) d_X2_take_167 rfl ?_
          refine r_if_ne (tgt := 180) d_X2_take_169 rfl (fun hc => ?_) (fun hc => ?_)
          · have h := h.1 hc
            refine r_aload_n (x := t) d_X2_take_180 rfl o_t.1 ?_
            refine r_getf (j := 1) (t := 2) (x := t_stack) d_X2_take_181 kX2 (by decide) fl_X2_17 o_t.1 o_t.2.1 o_t.2.2.1 o_t.2.2.2 rfl f_t_stack ?_
            refine r_aload_n (x := t) d_X2_take_184 rfl o_t.1 ?_
            refine r_getf (j := 2) (t := 0) (x := (σ7 t 2)) d_X2_take_185 kX2 (by decide) fl_X2_21 o_t.1 o_t.2.1 o_t.2.2.1 o_t.2.2.2 rfl rfl ?_
            refine r_iconst (x := 4) d_X2_take_188 ⟨by decide, by decide⟩ ?_
            refine r_isub d_X2_take_189 ?_
            refine r_aload_n (x := t) d_X2_take_190 rfl o_t.1 ?_
            refine r_getf (j := 3) (t := 0) (x := (σ7 t 3)) d_X2_take_191 kX2 (by decide) fl_X2_25 o_t.1 o_t.2.1 o_t.2.2.1 o_t.2.2.2 rfl rfl ?_
            refine x_iast d_X2_take_194 h.1 ?_
            have h := h.2
            refine r_nmM (fun τ9 eτ9 => ?_)
            have h := h τ9 eτ9
            refine r_aload_n (x := t) d_X2_take_195 rfl o_t.1 ?_
            refine r_iload_n (x := y3) d_X2_take_196 rfl ?_
            refine r_putI (j := 3) d_X2_take_197 kX2 (by decide) fl_X2_25 rfl o_t.1 o_t.2.1 o_t.2.2.1 o_t.2.2.2 rfl ?_
            refine r_nmM (fun τ10 eτ10 => ?_)
            have h := h τ10 eτ10
            refine r_aload_n (x := t) d_X2_take_200 rfl o_t.1 ?_
            refine r_dup d_X2_take_201 rfl ?_
            refine r_getf (j := 2) (t := 0) (x := (τ10 t 2)) d_X2_take_202 kX2 (by decide) fl_X2_21 o_t.1 o_t.2.1 o_t.2.2.1 o_t.2.2.2 rfl rfl ?_
            refine r_iconst (x := 3) d_X2_take_205 ⟨by decide, by decide⟩ ?_
            refine r_isub d_X2_take_206 ?_
            refine r_putI (j := 2) d_X2_take_207 kX2 (by decide) fl_X2_21 rfl o_t.1 o_t.2.1 o_t.2.2.1 o_t.2.2.2 rfl ?_
            refine r_nmM (fun τ11 eτ11 => ?_)
            have h := h τ11 eτ11
            refine r_iload (x := v8) d_X2_take_210 rfl ?_
            exact r_iret d_X2_take_212 rfl rfl (Nat.le_refl 0) (Nat.le_refl 0) ⟨_, rfl, rfl, rfl, h⟩
          · have h := h.2 hc
            refine r_aload_n (x := t) d_X2_take_172 rfl o_t.1 ?_
            refine r_iload_n (x := y3) d_X2_take_173 rfl ?_
            refine r_iload_n (x := y4) d_X2_take_174 rfl ?_
            refine r_callV (Y2 := mX2_makeSpare) (d := d - 1) (mc := 0) (ms := 0) (c := t) (As := [(0, y3), (0, y4)]) (S := []) d_X2_take_175 ok_mX2_makeSpare ml_X2_67 rfl (rmc h0d (by decide)) rm00 (Nat.le_of_ble_eq_true rfl) rfl kX2 o_t.1 o_t.2.1 o_t.2.2.1 o_t.2.2.2 (MC.mono h (fun r N1 Λ1 σ12 hq => ?_))
            obtain ⟨v13, rfl, rfl, rfl, h⟩ := hq
            refine r_istore (L2 := [(2, t), (0, x1), (0, y3), (0, y4), (0, y5), (0, y6), (0, v13)]) d_X2_take_178 (by decide) rfl rfl ?_
            refine r_aload_n (x := t) d_X2_take_180 rfl o_t.1 ?_
            refine r_getf (j := 1) (t := 2) (x := t_stack) d_X2_take_181 kX2 (by decide) fl_X2_17 o_t.1 o_t.2.1 o_t.2.2.1 o_t.2.2.2 rfl f_t_stack ?_
            refine r_aload_n (x := t) d_X2_take_184 rfl o_t.1 ?_
            refine r_getf (j := 2) (t := 0) (x := (σ12 t 2)) d_X2_take_185 kX2 (by decide) fl_X2_21 o_t.1 o_t.2.1 o_t.2.2.1 o_t.2.2.2 rfl rfl ?_
            refine r_iconst (x := 4) d_X2_take_188 ⟨by decide, by decide⟩ ?_
            refine r_isub d_X2_take_189 ?_
            refine r_aload_n (x := t) d_X2_take_190 rfl o_t.1 ?_
            refine r_getf (j := 3) (t := 0) (x := (σ12 t 3)) d_X2_take_191 kX2 (by decide) fl_X2_25 o_t.1 o_t.2.1 o_t.2.2.1 o_t.2.2.2 rfl rfl ?_
            refine x_iast d_X2_take_194 h.1 ?_
            have h := h.2
            refine r_nmM (fun τ14 eτ14 => ?_)
            have h := h τ14 eτ14
            refine r_aload_n (x := t) d_X2_take_195 rfl o_t.1 ?_
            refine r_iload_n (x := y3) d_X2_take_196 rfl ?_
            refine r_putI (j := 3) d_X2_take_197 kX2 (by decide) fl_X2_25 rfl o_t.1 o_t.2.1 o_t.2.2.1 o_t.2.2.2 rfl ?_
            refine r_nmM (fun τ15 eτ15 => ?_)
            have h := h τ15 eτ15
            refine r_aload_n (x := t) d_X2_take_200 rfl o_t.1 ?_
            refine r_dup d_X2_take_201 rfl ?_
            refine r_getf (j := 2) (t := 0) (x := (τ15 t 2)) d_X2_take_202 kX2 (by decide) fl_X2_21 o_t.1 o_t.2.1 o_t.2.2.1 o_t.2.2.2 rfl rfl ?_
            refine r_iconst (x := 3) d_X2_take_205 ⟨by decide, by decide⟩ ?_
            refine r_isub d_X2_take_206 ?_
            refine r_putI (j := 2) d_X2_take_207 kX2 (by decide) fl_X2_21 rfl o_t.1 o_t.2.1 o_t.2.2.1 o_t.2.2.2 rfl ?_
            refine r_nmM (fun τ16 eτ16 => ?_)
            have h := h τ16 eτ16
            refine r_iload (x := v13) d_X2_take_210 rfl ?_
            exact r_iret d_X2_take_212 rfl rfl (Nat.le_refl 0) (Nat.le_refl 0) ⟨_, rfl, rfl, rfl, h⟩
        · have h := h.2 hc
          refine r_aload_n (x := t) d_X2_take_152 rfl o_t.1 ?_
          refine r_aload_n (x := t) d_X2_take_153 rfl o_t.1 ?_
          refine r_getf (j := 7) (t := 2) (x := t_secondBracket) d_X2_take_154 kX2 (by decide) fl_X2_39 o_t.1 o_t.2.1 o_t.2.2.1 o_t.2.2.2 rfl f_t_secondBracket ?_
          refine r_iload_n (x := y4) d_X2_take_157 rfl ?_
          refine r_iload (x := y5) d_X2_take_158 rfl ?_
          refine r_iload (x := y6) d_X2_take_160 rfl ?_
          refine r_callV (Y2 := mX2_makeBracket) (d := d - 1) (mc := 0) (ms := 0) (c := t) (As := [(2, t_secondBracket), (0, y4), (0, y5), (0, y6)]) (S := []) d_X2_take_162 ok_mX2_makeBracket ml_X2_63 rfl (rmc h0d (by decide)) rm00 (Nat.le_of_ble_eq_true rfl) rfl kX2 o_t.1 o_t.2.1 o_t.2.2.1 o_t.2.2.2 (MC.mono h (fun r N1 Λ1 σ17 hq => ?_))
          obtain ⟨v18, rfl, rfl, rfl, h⟩ := hq
          refine r_istore (L2 := [(2, t), (0, x1), (0, y3), (0, y4), (0, y5), (0, y6), (0, v18)]) d_X2_take_165 (by decide) rfl rfl ?_
          refine r_iload (x := v18) d_X2_take_167 rfl ?_
          refine r_if_ne (tgt := 180) d_X2_take_169 rfl (fun hc => ?_) (fun hc => ?_)
          · have h := h.1 hc
            refine r_aload_n (x := t) d_X2_take_180 rfl o_t.1 ?_
            refine r_getf (j := 1) (t := 2) (x := t_stack) d_X2_take_181 kX2 (by decide) fl_X2_17 o_t.1 o_t.2.1 o_t.2.2.1 o_t.2.2.2 rfl f_t_stack ?_
            refine r_aload_n (x := t) d_X2_take_184 rfl o_t.1 ?_
            refine r_getf (j := 2) (t := 0) (x := (σ17 t 2)) d_X2_take_185 kX2 (by decide) fl_X2_21 o_t.1 o_t.2.1 o_t.2.2.1 o_t.2.2.2 rfl rfl ?_
            refine r_iconst (x := 4) d_X2_take_188 ⟨by decide, by decide⟩ ?_
            refine r_isub d_X2_take_189 ?_
            refine r_aload_n (x := t) d_X2_take_190 rfl o_t.1 ?_
            refine r_getf (j := 3) (t := 0) (x := (σ17 t 3)) d_X2_take_191 kX2 (by decide) fl_X2_25 o_t.1 o_t.2.1 o_t.2.2.1 o_t.2.2.2 rfl rfl ?_
            refine x_iast d_X2_take_194 h.1 ?_
            have h := h.2
            refine r_nmM (fun τ19 eτ19 => ?_)
            have h := h τ19 eτ19
            refine r_aload_n (x := t) d_X2_take_195 rfl o_t.1 ?_
            refine r_iload_n (x := y3) d_X2_take_196 rfl ?_
            refine r_putI (j := 3) d_X2_take_197 kX2 (by decide) fl_X2_25 rfl o_t.1 o_t.2.1 o_t.2.2.1 o_t.2.2.2 rfl ?_
            refine r_nmM (fun τ20 eτ20 => ?_)
            have h := h τ20 eτ20
            refine r_aload_n (x := t) d_X2_take_200 rfl o_t.1 ?_
            refine r_dup d_X2_take_201 rfl ?_
            refine r_getf (j := 2) (t := 0) (x := (τ20 t 2)) d_X2_take_202 kX2 (by decide) fl_X2_21 o_t.1 o_t.2.1 o_t.2.2.1 o_t.2.2.2 rfl rfl ?_
            refine r_iconst (x := 3) d_X2_take_205 ⟨by decide, by decide⟩ ?_
            refine r_isub d_X2_take_206 ?_
            refine r_putI (j := 2) d_X2_take_207 kX2 (by decide) fl_X2_21 rfl o_t.1 o_t.2.1 o_t.2.2.1 o_t.2.2.2 rfl ?_
            refine r_nmM (fun τ21 eτ21 => ?_)
            have h := h τ21 eτ21
            refine r_iload (x := v18) d_X2_take_210 rfl ?_
            exact r_iret d_X2_take_212 rfl rfl (Nat.le_refl 0) (Nat.le_refl 0) ⟨_, rfl, rfl, rfl, h⟩
          · have h := h.2 hc
            refine r_aload_n (x := t) d_X2_take_172 rfl o_t.1 ?_
            refine r_iload_n (x := y3) d_X2_take_173 rfl ?_
            refine r_iload_n (x := y4) d_X2_take_174 rfl ?_
            refine r_callV (Y2 := mX2_makeSpare) (d := d - 1) (mc := 0) (ms := 0) (c := t) (As := [(0, y3), (0, y4)]) (S := []) d_X2_take_175 ok_mX2_makeSpare ml_X2_67 rfl (rmc h0d (by decide)) rm00 (Nat.le_of_ble_eq_true rfl) rfl kX2 o_t.1 o_t.2.1 o_t.2.2.1 o_t.2.2.2 (MC.mono h (fun r N1 Λ1 σ22 hq => ?_))
            obtain ⟨v23, rfl, rfl, rfl, h⟩ := hq
            refine r_istore (L2 := [(2, t), (0, x1), (0, y3), (0, y4), (0, y5), (0, y6), (0, v23)]) d_X2_take_178 (by decide) rfl rfl ?_
            refine r_aload_n (x := t) d_X2_take_180 rfl o_t.1 ?_
            refine r_getf (j := 1) (t := 2) (x := t_stack) d_X2_take_181 kX2 (by decide) fl_X2_17 o_t.1 o_t.2.1 o_t.2.2.1 o_t.2.2.2 rfl f_t_stack ?_
            refine r_aload_n (x := t) d_X2_take_184 rfl o_t.1 ?_
            refine r_getf (j := 2) (t := 0) (x := (σ22 t 2)) d_X2_take_185 kX2 (by decide) fl_X2_21 o_t.1 o_t.2.1 o_t.2.2.1 o_t.2.2.2 rfl rfl ?_
            refine r_iconst (x := 4) d_X2_take_188 ⟨by decide, by decide⟩ ?_
            refine r_isub d_X2_take_189 ?_
            refine r_aload_n (x := t) d_X2_take_190 rfl o_t.1 ?_
            refine r_getf (j := 3) (t := 0) (x := (σ22 t 3)) d_X2_take_191 kX2 (by decide) fl_X2_25 o_t.1 o_t.2.1 o_t.2.2.1 o_t.2.2.2 rfl rfl ?_
            refine x_iast d_X2_take_194 h.1 ?_
            have h := h.2
            refine r_nmM (fun τ24 eτ24 => ?_)
            have h := h τ24 eτ24
            refine r_aload_n (x := t) d_X2_take_195 rfl o_t.1 ?_
            refine r_iload_n (x := y3) d_X2_take_196 rfl ?_
            refine r_putI (j := 3) d_X2_take_197 kX2 (by decide) fl_X2_25 rfl o_t.1 o_t.2.1 o_t.2.2.1 o_t.2.2.2 rfl ?_
            refine r_nmM (fun τ25 eτ25 => ?_)
            have h := h τ25 eτ25
            refine r_aload_n (x := t) d_X2_take_200 rfl o_t.1 ?_
            refine r_dup d_X2_take_201 rfl ?_
            refine r_getf (j := 2) (t := 0) (x := (τ25 t 2)) d_X2_take_202 kX2 (by decide) fl_X2_21 o_t.1 o_t.2.1 o_t.2.2.1 o_t.2.2.2 rfl rfl ?_
            refine r_iconst (x := 3) d_X2_take_205 ⟨by decide, by decide⟩ ?_
            refine r_isub d_X2_take_206 ?_
            refine r_putI (j := 2) d_X2_take_207 kX2 (by decide) fl_X2_21 rfl o_t.1 o_t.2.1 o_t.2.2.1 o_t.2.2.2 rfl ?_
            refine r_nmM (fun τ26 eτ26 => ?_)
            have h := h τ26 eτ26
            refine r_iload (x := v23) d_X2_take_210 rfl ?_
            exact r_iret d_X2_take_212 rfl rfl (Nat.le_refl 0) (Nat.le_refl 0) ⟨_, rfl, rfl, rfl, h⟩
      · have h := h.2 hc
        refine r_iconst (x := 0) d_X2_take_80 ⟨by decide, by decide⟩ ?_
        exact r_iret d_X2_take_81 rfl rfl (Nat.le_refl 0) (Nat.le_refl 0) ⟨_, rfl, rfl, rfl, h⟩
  · have h := h.2 hc
    refine r_aload_n (x := t) d_X2_take_7 rfl o_t.1 ?_
    refine r_getf (j := 2) (t := 0) (x := (σ1 t 2)) d_X2_take_8 kX2 (by decide) fl_X2_21 o_t.1 o_t.2.1 o_t.2.2.1 o_t.2.2.2 rfl rfl ?_
    refine r_bipush (x := 9) d_X2_take_11 ⟨by decide, by decide⟩ (by decide) ?_
    refine r_ic_ge (tgt := 66) d_X2_take_13 rfl (fun hc => ?_) (fun hc => ?_)
    · have h := h.1 hc
      refine r_iload_n (x := x1) d_X2_take_66 rfl ?_
      refine r_bipush (x := 41) d_X2_take_67 ⟨by decide, by decide⟩ (by decide) ?_
      refine r_ic_ne (tgt := 80) d_X2_take_69 rfl (fun hc => ?_) (fun hc => ?_)
      · have h := h.1 hc
        refine r_iconst (x := 0) d_X2_take_80 ⟨by decide, by decide⟩ ?_
        exact r_iret d_X2_take_81 rfl rfl (Nat.le_refl 0) (Nat.le_refl 0) ⟨_, rfl, rfl, rfl, h⟩
      · have h := h.2 hc
        refine r_aload_n (x := t) d_X2_take_72 rfl o_t.1 ?_
        refine r_getf (j := 2) (t := 0) (x := (σ1 t 2)) d_X2_take_73 kX2 (by decide) fl_X2_21 o_t.1 o_t.2.1 o_t.2.2.1 o_t.2.2.2 rfl rfl ?_
        refine r_iconst (x := 4) d_X2_take_76 ⟨by decide, by decide⟩ ?_
        refine r_ic_ge (tgt := 82) d_X2_take_77 rfl (fun hc => ?_) (fun hc => ?_)
        · have h := h.1 hc
          refine r_aload_n (x := t) d_X2_take_82 rfl o_t.1 ?_
          refine r_getf (j := 1) (t := 2) (x := t_stack) d_X2_take_83 kX2 (by decide) fl_X2_17 o_t.1 o_t.2.1 o_t.2.2.1 o_t.2.2.2 rfl f_t_stack ?_
          refine r_aload_n (x := t) d_X2_take_86 rfl o_t.1 ?_
          refine r_getf (j := 2) (t := 0) (x := (σ1 t 2)) d_X2_take_87 kX2 (by decide) fl_X2_21 o_t.1 o_t.2.1 o_t.2.2.1 o_t.2.2.2 rfl rfl ?_
          refine r_iconst (x := 4) d_X2_take_90 ⟨by decide, by decide⟩ ?_
          refine r_isub d_X2_take_91 ?_
          refine x_iald d_X2_take_92 h.1 ?_
          have h := h.2
          refine r_nm (fun y27 ey27 => ?_)
          have h := h y27 ey27
          refine r_istore_n (L2 := [(2, t), (0, x1), (0, y27), (3, 0), (3, 0), (3, 0), (3, 0)]) d_X2_take_93 (by decide) rfl rfl ?_
          refine r_aload_n (x := t) d_X2_take_94 rfl o_t.1 ?_
          refine r_getf (j := 1) (t := 2) (x := t_stack) d_X2_take_95 kX2 (by decide) fl_X2_17 o_t.1 o_t.2.1 o_t.2.2.1 o_t.2.2.2 rfl f_t_stack ?_
          refine r_aload_n (x := t) d_X2_take_98 rfl o_t.1 ?_
          refine r_getf (j := 2) (t := 0) (x := (σ1 t 2)) d_X2_take_99 kX2 (by decide) fl_X2_21 o_t.1 o_t.2.1 o_t.2.2.1 o_t.2.2.2 rfl rfl ?_
          refine r_iconst (x := 3) d_X2_take_102 ⟨by decide, by decide⟩ ?_
          refine r_isub d_X2_take_103 ?_
          refine x_iald d_X2_take_104 h.1 ?_
          have h := h.2
          refine r_nm (fun y28 ey28 => ?_)
          have h := h y28 ey28
          refine r_istore_n (L2 := [(2, t), (0, x1), (0, y27), (0, y28), (3, 0), (3, 0), (3, 0)]) d_X2_take_105 (by decide) rfl rfl ?_
          refine r_aload_n (x := t) d_X2_take_106 rfl o_t.1 ?_
          refine r_getf (j := 1) (t := 2) (x := t_stack) d_X2_take_107 kX2 (by decide) fl_X2_17 o_t.1 o_t.2.1 o_t.2.2.1 o_t.2.2.2 rfl f_t_stack ?_
          refine r_aload_n (x := t) d_X2_take_110 rfl o_t.1 ?_
          refine r_getf (j := 2) (t := 0) (x := (σ1 t 2)) d_X2_take_111 kX2 (by decide) fl_X2_21 o_t.1 o_t.2.1 o_t.2.2.1 o_t.2.2.2 rfl rfl ?_
          refine r_iconst (x := 2) d_X2_take_114 ⟨by decide, by decide⟩ ?_
          refine r_isub d_X2_take_115 ?_
          refine x_iald d_X2_take_116 h.1 ?_
          have h := h.2
          refine r_nm (fun y29 ey29 => ?_)
          have h := h y29 ey29
          refine r_istore (L2 := [(2, t), (0, x1), (0, y27), (0, y28), (0, y29), (3, 0), (3, 0)]) d_X2_take_117 (by decide) rfl rfl ?_
          refine r_aload_n (x := t) d_X2_take_119 rfl o_t.1 ?_
          refine r_getf (j := 1) (t := 2) (x := t_stack) d_X2_take_120 kX2 (by decide) fl_X2_17 o_t.1 o_t.2.1 o_t.2.2.1 o_t.2.2.2 rfl f_t_stack ?_
          refine r_aload_n (x := t) d_X2_take_123 rfl o_t.1 ?_
          refine r_getf (j := 2) (t := 0) (x := (σ1 t 2)) d_X2_take_124 kX2 (by decide) fl_X2_21 o_t.1 o_t.2.1 o_t.2.2.1 o_t.2.2.2 rfl rfl ?_
          refine r_iconst (x := 1) d_X2_take_127 ⟨by decide, by decide⟩ ?_
          refine r_isub d_X2_take_128 ?_
          refine x_iald d_X2_take_129 h.1 ?_
          have h := h.2
          refine r_nm (fun y30 ey30 => ?_)
          have h := h y30 ey30
          refine r_istore (L2 := [(2, t), (0, x1), (0, y27), (0, y28), (0, y29), (0, y30), (3, 0)]) d_X2_take_130 (by decide) rfl rfl ?_
          refine r_aload_n (x := t) d_X2_take_132 rfl o_t.1 ?_
          refine r_aload_n (x := t) d_X2_take_133 rfl o_t.1 ?_
          refine r_getf (j := 6) (t := 2) (x := t_firstBracket) d_X2_take_134 kX2 (by decide) fl_X2_36 o_t.1 o_t.2.1 o_t.2.2.1 o_t.2.2.2 rfl f_t_firstBracket ?_
          refine r_iload_n (x := y27) d_X2_take_137 rfl ?_
          refine r_iload (x := y29) d_X2_take_138 rfl ?_
          refine r_iload (x := y30) d_X2_take_140 rfl ?_
          refine r_callV (Y2 := mX2_makeBracket) (d := d - 1) (mc := 0) (ms := 0) (c := t) (As := [(2, t_firstBracket), (0, y27), (0, y29), (0, y30)]) (S := []) d_X2_take_142 ok_mX2_makeBracket ml_X2_63 rfl (rmc h0d (by decide)) rm00 (Nat.le_of_ble_eq_true rfl) rfl kX2 o_t.1 o_t.2.1 o_t.2.2.1 o_t.2.2.2 (MC.mono h (fun r N1 Λ1 σ31 hq => ?_))
          obtain ⟨v32, rfl, rfl, rfl, h⟩ := hq
          refine r_istore (L2 := [(2, t), (0, x1), (0, y27), (0, y28), (0, y29), (0, y30), (0, v32)]) d_X2_take_145 (by decide) rfl rfl ?_
          refine r_iload (x := v32) d_X2_take_147 rfl ?_
          refine r_if_ne (tgt := 167) d_X2_take_149 rfl (fun hc => ?_) (fun hc => ?_)
          · have h := h.1 hc
            refine r_iload (x := v32) d_X2_take_167 rfl ?_
            refine r_if_ne (tgt := 180) d_X2_take_169 rfl (fun hc => ?_) (fun hc => ?_)
            · have h := h.1 hc
              refine r_aload_n (x := t) d_X2_take_180 rfl o_t.1 ?_
              refine r_getf (j := 1) (t := 2) (x := t_stack) d_X2_take_181 kX2 (by decide) fl_X2_17 o_t.1 o_t.2.1 o_t.2.2.1 o_t.2.2.2 rfl f_t_stack ?_
              refine r_aload_n (x := t) d_X2_take_184 rfl o_t.1 ?_
              refine r_getf (j := 2) (t := 0) (x := (σ31 t 2)) d_X2_take_185 kX2 (by decide) fl_X2_21 o_t.1 o_t.2.1 o_t.2.2.1 o_t.2.2.2 rfl rfl ?_
              refine r_iconst (x := 4) d_X2_take_188 ⟨by decide, by decide⟩ ?_
              refine r_isub d_X2_take_189 ?_
              refine r_aload_n (x := t) d_X2_take_190 rfl o_t.1 ?_
              refine r_getf (j := 3) (t := 0) (x := (σ31 t 3)) d_X2_take_191 kX2 (by decide) fl_X2_25 o_t.1 o_t.2.1 o_t.2.2.1 o_t.2.2.2 rfl rfl ?_
              refine x_iast d_X2_take_194 h.1 ?_
              have h := h.2
              refine r_nmM (fun τ33 eτ33 => ?_)
              have h := h τ33 eτ33
              refine r_aload_n (x := t) d_X2_take_195 rfl o_t.1 ?_
              refine r_iload_n (x := y27) d_X2_take_196 rfl ?_
              refine r_putI (j := 3) d_X2_take_197 kX2 (by decide) fl_X2_25 rfl o_t.1 o_t.2.1 o_t.2.2.1 o_t.2.2.2 rfl ?_
              refine r_nmM (fun τ34 eτ34 => ?_)
              have h := h τ34 eτ34
              refine r_aload_n (x := t) d_X2_take_200 rfl o_t.1 ?_
              refine r_dup d_X2_take_201 rfl ?_
              refine r_getf (j := 2) (t := 0) (x := (τ34 t 2)) d_X2_take_202 kX2 (by decide) fl_X2_21 o_t.1 o_t.2.1 o_t.2.2.1 o_t.2.2.2 rfl rfl ?_
              refine r_iconst (x := 3) d_X2_take_205 ⟨by decide, by decide⟩ ?_
              refine r_isub d_X2_take_206 ?_
              refine r_putI (j := 2) d_X2_take_207 kX2 (by decide) fl_X2_21 rfl o_t.1 o_t.2.1 o_t.2.2.1 o_t.2.2.2 rfl ?_
              refine r_nmM (fun τ35 eτ35 => ?_)
              have h := h τ35 eτ35
              refine r_iload (x := v32) d_X2_take_210 rfl ?_
              exact r_iret d_X2_take_212 rfl rfl (Nat.le_refl 0) (Nat.le_refl 0) ⟨_, rfl, rfl, rfl, h⟩
            · have h := h.2 hc
              refine r_aload_n (x := t) d_X2_take_172 rfl o_t.1 ?_
              refine r_iload_n (x := y27) d_X2_take_173 rfl ?_
              refine r_iload_n (x := y28) d_X2_take_174 rfl ?_
              refine r_callV (Y2 := mX2_makeSpare) (d := d - 1) (mc := 0) (ms := 0) (c := t) (As := [(0, y27), (0, y28)]) (S := []) d_X2_take_175 ok_mX2_makeSpare ml_X2_67 rfl (rmc h0d (by decide)) rm00 (Nat.le_of_ble_eq_true rfl) rfl kX2 o_t.1 o_t.2.1 o_t.2.2.1 o_t.2.2.2 (MC.mono h (fun r N1 Λ1 σ36 hq => ?_))
              obtain ⟨v37, rfl, rfl, rfl, h⟩ := hq
              refine r_istore (L2 := [(2, t), (0, x1), (0, y27), (0, y28), (0, y29), (0, y30), (0, v37)]) d_X2_take_178 (by decide) rfl rfl ?_
              refine r_aload_n (x := t) d_X2_take_180 rfl o_t.1 ?_
              refine r_getf (j := 1) (t := 2) (x := t_stack) d_X2_take_181 kX2 (by decide) fl_X2_17 o_t.1 o_t.2.1 o_t.2.2.1 o_t.2.2.2 rfl f_t_stack ?_
              refine r_aload_n (x := t) d_X2_take_184 rfl o_t.1 ?_
              refine r_getf (j := 2) (t := 0) (x := (σ36 t 2)) d_X2_take_185 kX2 (by decide) fl_X2_21 o_t.1 o_t.2.1 o_t.2.2.1 o_t.2.2.2 rfl rfl ?_
              refine r_iconst (x := 4) d_X2_take_188 ⟨by decide, by decide⟩ ?_
              refine r_isub d_X2_take_189 ?_
              refine r_aload_n (x := t) d_X2_take_190 rfl o_t.1 ?_
              refine r_getf (j := 3) (t := 0) (x := (σ36 t 3)) d_X2_take_191 kX2 (by decide) fl_X2_25 o_t.1 o_t.2.1 o_t.2.2.1 o_t.2.2.2 rfl rfl ?_
              refine x_iast d_X2_take_194 h.1 ?_
              have h := h.2
              refine r_nmM (fun τ38 eτ38 => ?_)
              have h := h τ38 eτ38
              refine r_aload_n (x := t) d_X2_take_195 rfl o_t.1 ?_
              refine r_iload_n (x := y27) d_X2_take_196 rfl ?_
              refine r_putI (j := 3) d_X2_take_197 kX2 (by decide) fl_X2_25 rfl o_t.1 o_t.2.1 o_t.2.2.1 o_t.2.2.2 rfl ?_
              refine r_nmM (fun τ39 eτ39 => ?_)
              have h := h τ39 eτ39
              refine r_aload_n (x := t) d_X2_take_200 rfl o_t.1 ?_
              refine r_dup d_X2_take_201 rfl ?_
              refine r_getf (j := 2) (t := 0) (x := (τ39 t 2)) d_X2_take_202 kX2 (by decide) fl_X2_21 o_t.1 o_t.2.1 o_t.2.2.1 o_t.2.2.2 rfl rfl ?_
              refine r_iconst (x := 3) d_X2_take_205 ⟨by decide, by decide⟩ ?_
              refine r_isub d_X2_take_206 ?_
              refine r_putI (j := 2) d_X2_take_207 kX2 (by decide) fl_X2_21 rfl o_t.1 o_t.2.1 o_t.2.2.1 o_t.2.2.2 rfl ?_
              refine r_nmM (fun τ40 eτ40 => ?_)
              have h := h τ40 eτ40
              refine r_iload (x := v37) d_X2_take_210 rfl ?_
              exact r_iret d_X2_take_212 rfl rfl (Nat.le_refl 0) (Nat.le_refl 0) ⟨_, rfl, rfl, rfl, h⟩
          · have h := h.2 hc
            refine r_aload_n (x := t) d_X2_take_152 rfl o_t.1 ?_
            refine r_aload_n (x := t) d_X2_take_153 rfl o_t.1 ?_
            refine r_getf (j := 7) (t := 2) (x := t_secondBracket) d_X2_take_154 kX2 (by decide) fl_X2_39 o_t.1 o_t.2.1 o_t.2.2.1 o_t.2.2.2 rfl f_t_secondBracket ?_
            refine r_iload_n (x := y28) d_X2_take_157 rfl ?_
            refine r_iload (x := y29) d_X2_take_158 rfl ?_
            refine r_iload (x := y30) d_X2_take_160 rfl ?_
            refine r_callV (Y2 := mX2_makeBracket) (d := d - 1) (mc := 0) (ms := 0) (c := t) (As := [(2, t_secondBracket), (0, y28), (0, y29), (0, y30)]) (S := []) d_X2_take_162 ok_mX2_makeBracket ml_X2_63 rfl (rmc h0d (by decide)) rm00 (Nat.le_of_ble_eq_true rfl) rfl kX2 o_t.1 o_t.2.1 o_t.2.2.1 o_t.2.2.2 (MC.mono h (fun r N1 Λ1 σ41 hq => ?_))
            obtain ⟨v42, rfl, rfl, rfl, h⟩ := hq
            refine r_istore (L2 := [(2, t), (0, x1), (0, y27), (0, y28), (0, y29), (0, y30), (0, v42)]) d_X2_take_165 (by decide) rfl rfl ?_
            refine r_iload (x := v42) d_X2_take_167 rfl ?_
            refine r_if_ne (tgt := 180) d_X2_take_169 rfl (fun hc => ?_) (fun hc => ?_)
            · have h := h.1 hc
              refine r_aload_n (x := t) d_X2_take_180 rfl o_t.1 ?_
              refine r_getf (j := 1) (t := 2) (x := t_stack) d_X2_take_181 kX2 (by decide) fl_X2_17 o_t.1 o_t.2.1 o_t.2.2.1 o_t.2.2.2 rfl f_t_stack ?_
              refine r_aload_n (x := t) d_X2_take_184 rfl o_t.1 ?_
              refine r_getf (j := 2) (t := 0) (x := (σ41 t 2)) d_X2_take_185 kX2 (by decide) fl_X2_21 o_t.1 o_t.2.1 o_t.2.2.1 o_t.2.2.2 rfl rfl ?_
              refine r_iconst (x := 4) d_X2_take_188 ⟨by decide, by decide⟩ ?_
              refine r_isub d_X2_take_189 ?_
              refine r_aload_n (x := t) d_X2_take_190 rfl o_t.1 ?_
              refine r_getf (j := 3) (t := 0) (x := (σ41 t 3)) d_X2_take_191 kX2 (by decide) fl_X2_25 o_t.1 o_t.2.1 o_t.2.2.1 o_t.2.2.2 rfl rfl ?_
              refine x_iast d_X2_take_194 h.1 ?_
              have h := h.2
              refine r_nmM (fun τ43 eτ43 => ?_)
              have h := h τ43 eτ43
              refine r_aload_n (x := t) d_X2_take_195 rfl o_t.1 ?_
              refine r_iload_n (x := y27) d_X2_take_196 rfl ?_
              refine r_putI (j := 3) d_X2_take_197 kX2 (by decide) fl_X2_25 rfl o_t.1 o_t.2.1 o_t.2.2.1 o_t.2.2.2 rfl ?_
              refine r_nmM (fun τ44 eτ44 => ?_)
              have h := h τ44 eτ44
              refine r_aload_n (x := t) d_X2_take_200 rfl o_t.1 ?_
              refine r_dup d_X2_take_201 rfl ?_
              refine r_getf (j := 2) (t := 0) (x := (τ44 t 2)) d_X2_take_202 kX2 (by decide) fl_X2_21 o_t.1 o_t.2.1 o_t.2.2.1 o_t.2.2.2 rfl rfl ?_
              refine r_iconst (x := 3) d_X2_take_205 ⟨by decide, by decide⟩ ?_
              refine r_isub d_X2_take_206 ?_
              refine r_putI (j := 2) d_X2_take_207 kX2 (by decide) fl_X2_21 rfl o_t.1 o_t.2.1 o_t.2.2.1 o_t.2.2.2 rfl ?_
              refine r_nmM (fun τ45 eτ45 => ?_)
              have h := h τ45 eτ45
              refine r_iload (x := v42) d_X2_take_210 rfl ?_
              exact r_iret d_X2_take_212 rfl rfl (Nat.le_refl 0) (Nat.le_refl 0) ⟨_, rfl, rfl, rfl, h⟩
            · have h := h.2 hc
              refine r_aload_n (x := t) d_X2_take_172 rfl o_t.1 ?_
              refine r_iload_n (x := y27) d_X2_take_173 rfl ?_
              refine r_iload_n (x := y28) d_X2_take_174 rfl ?_
              refine r_callV (Y2 := mX2_makeSpare) (d := d - 1) (mc := 0) (ms := 0) (c := t) (As := [(0, y27), (0, y28)]) (S := []) d_X2_take_175 ok_mX2_makeSpare ml_X2_67 rfl (rmc h0d (by decide)) rm00 (Nat.le_of_ble_eq_true rfl) rfl kX2 o_t.1 o_t.2.1 o_t.2.2.1 o_t.2.2.2 (MC.mono h (fun r N1 Λ1 σ46 hq => ?_))
              obtain ⟨v47, rfl, rfl, rfl, h⟩ := hq
              refine r_istore (L2 := [(2, t), (0, x1), (0, y27), (0, y28), (0, y29), (0, y30), (0, v47)]) d_X2_take_178 (by decide) rfl rfl ?_
              refine r_aload_n (x := t) d_X2_take_180 rfl o_t.1 ?_
              refine r_getf (j := 1) (t := 2) (x := t_stack) d_X2_take_181 kX2 (by decide) fl_X2_17 o_t.1 o_t.2.1 o_t.2.2.1 o_t.2.2.2 rfl f_t_stack ?_
              refine r_aload_n (x := t) d_X2_take_184 rfl o_t.1 ?_
              refine r_getf (j := 2) (t := 0) (x := (σ46 t 2)) d_X2_take_185 kX2 (by decide) fl_X2_21 o_t.1 o_t.2.1 o_t.2.2.1 o_t.2.2.2 rfl rfl ?_
              refine r_iconst (x := 4) d_X2_take_188 ⟨by decide, by decide⟩ ?_
              refine r_isub d_X2_take_189 ?_
              refine r_aload_n (x := t) d_X2_take_190 rfl o_t.1 ?_
              refine r_getf (j := 3) (t := 0) (x := (σ46 t 3)) d_X2_take_191 kX2 (by decide) fl_X2_25 o_t.1 o_t.2.1 o_t.2.2.1 o_t.2.2.2 rfl rfl ?_
              refine x_iast d_X2_take_194 h.1 ?_
              have h := h.2
              refine r_nmM (fun τ48 eτ48 => ?_)
              have h := h τ48 eτ48
              refine r_aload_n (x := t) d_X2_take_195 rfl o_t.1 ?_
              refine r_iload_n (x := y27) d_X2_take_196 rfl ?_
              refine r_putI (j := 3) d_X2_take_197 kX2 (by decide) fl_X2_25 rfl o_t.1 o_t.2.1 o_t.2.2.1 o_t.2.2.2 rfl ?_
              refine r_nmM (fun τ49 eτ49 => ?_)
              have h := h τ49 eτ49
              refine r_aload_n (x := t) d_X2_take_200 rfl o_t.1 ?_
              refine r_dup d_X2_take_201 rfl ?_
              refine r_getf (j := 2) (t := 0) (x := (τ49 t 2)) d_X2_take_202 kX2 (by decide) fl_X2_21 o_t.1 o_t.2.1 o_t.2.2.1 o_t.2.2.2 rfl rfl ?_
              refine r_iconst (x := 3) d_X2_take_205 ⟨by decide, by decide⟩ ?_
              refine r_isub d_X2_take_206 ?_
              refine r_putI (j := 2) d_X2_take_207 kX2 (by decide) fl_X2_21 rfl o_t.1 o_t.2.1 o_t.2.2.1 o_t.2.2.2 rfl ?_
              refine r_nmM (fun τ50 eτ50 => ?_)
              have h := h τ50 eτ50
              refine r_iload (x := v47) d_X2_take_210 rfl ?_
              exact r_iret d_X2_take_212 rfl rfl (Nat.le_refl 0) (Nat.le_refl 0) ⟨_, rfl, rfl, rfl, h⟩
        · have h := h.2 hc
          refine r_iconst (x := 0) d_X2_take_80 ⟨by decide, by decide⟩ ?_
          exact r_iret d_X2_take_81 rfl rfl (Nat.le_refl 0) (Nat.le_refl 0) ⟨_, rfl, rfl, rfl, h⟩
    · have h := h.2 hc
      refine r_aload_n (x := t) d_X2_take_16 rfl o_t.1 ?_
      refine r_aload_n (x := t) d_X2_take_17 rfl o_t.1 ?_
      refine r_getf (j := 1) (t := 2) (x := t_stack) d_X2_take_18 kX2 (by decide) fl_X2_17 o_t.1 o_t.2.1 o_t.2.2.1 o_t.2.2.2 rfl f_t_stack ?_
      refine r_aload_n (x := t) d_X2_take_21 rfl o_t.1 ?_
      refine r_getf (j := 2) (t := 0) (x := (σ1 t 2)) d_X2_take_22 kX2 (by decide) fl_X2_21 o_t.1 o_t.2.1 o_t.2.2.1 o_t.2.2.2 rfl rfl ?_
      refine x_iald d_X2_take_25 h.1 ?_
      have h := h.2
      refine r_callV (Y2 := mX2_empty) (d := d - 1) (mc := 0) (ms := 0) (c := t) (As := [(0, (σ1 t_stack (σ1 t 2)))]) (S := []) d_X2_take_26 ok_mX2_empty ml_X2_55 rfl (rmc h0d (by decide)) rm00 (Nat.le_of_ble_eq_true rfl) rfl kX2 o_t.1 o_t.2.1 o_t.2.2.1 o_t.2.2.2 (MC.mono h (fun r N1 Λ1 σ51 hq => ?_))
      obtain ⟨rfl, rfl, rfl, h⟩ := hq
      refine r_aload_n (x := t) d_X2_take_29 rfl o_t.1 ?_
      refine r_dup d_X2_take_30 rfl ?_
      refine r_getf (j := 2) (t := 0) (x := (σ51 t 2)) d_X2_take_31 kX2 (by decide) fl_X2_21 o_t.1 o_t.2.1 o_t.2.2.1 o_t.2.2.2 rfl rfl ?_
      refine r_iconst (x := 1) d_X2_take_34 ⟨by decide, by decide⟩ ?_
      refine r_iadd d_X2_take_35 ?_
      refine r_putI (j := 2) d_X2_take_36 kX2 (by decide) fl_X2_21 rfl o_t.1 o_t.2.1 o_t.2.2.1 o_t.2.2.2 rfl ?_
      refine r_nmM (fun τ52 eτ52 => ?_)
      have h := h τ52 eτ52
      refine r_aload_n (x := t) d_X2_take_39 rfl o_t.1 ?_
      refine r_getf (j := 0) (t := 2) (x := t_polys) d_X2_take_40 kX2 (by decide) fl_X2_13 o_t.1 o_t.2.1 o_t.2.2.1 o_t.2.2.2 rfl f_t_polys ?_
      refine r_aload_n (x := t) d_X2_take_43 rfl o_t.1 ?_
      refine r_getf (j := 1) (t := 2) (x := t_stack) d_X2_take_44 kX2 (by decide) fl_X2_17 o_t.1 o_t.2.1 o_t.2.2.1 o_t.2.2.2 rfl f_t_stack ?_
      refine r_aload_n (x := t) d_X2_take_47 rfl o_t.1 ?_
      refine r_getf (j := 2) (t := 0) (x := (τ52 t 2)) d_X2_take_48 kX2 (by decide) fl_X2_21 o_t.1 o_t.2.1 o_t.2.2.1 o_t.2.2.2 rfl rfl ?_
      refine r_iconst (x := 1) d_X2_take_51 ⟨by decide, by decide⟩ ?_
      refine r_isub d_X2_take_52 ?_
      refine x_iald d_X2_take_53 h.1 ?_
      have h := h.2
      refine r_iload_n (x := x1) d_X2_take_54 rfl ?_
      refine r_iadd d_X2_take_55 ?_
      refine r_bipush (x := 97) d_X2_take_56 ⟨by decide, by decide⟩ (by decide) ?_
      refine r_isub d_X2_take_58 ?_
      refine x_aald (t := 3) (by decide) d_X2_take_59 h.1 (fun b53 eb53 => ?_)
      have h := h.2 b53 eb53
      have oob53 := h.1
      have h := h.2
      refine r_lconst d_X2_take_60 ?_
      skip
      refine r_lconst d_X2_take_61 ?_
      skip
      refine r_callV (Y2 := mX5_lay) (d := d - 1) (mc := 0) (ms := 0) (c := b53) (As := [(1, 0), (1, 1)]) (S := []) d_X2_take_62 ok_mX5_lay ml_X2_59 rfl (rmc h0d (by decide)) rm00 (Nat.le_of_ble_eq_true rfl) rfl kX5 oob53.1 oob53.2.1 oob53.2.2.1 oob53.2.2.2 (MC.mono h (fun r N1 Λ1 σ54 hq => ?_))
      obtain ⟨v55, rfl, rfl, rfl, h⟩ := hq
      exact r_iret d_X2_take_65 rfl rfl (Nat.le_refl 0) (Nat.le_refl 0) ⟨_, rfl, rfl, rfl, h⟩
theorem v_X2_makeFigure_0 {l : Launch} {d N : Nat} {Λ : Lay} {P : Int → Mem → Prop} {σ : Mem} {a1 t t_stack : Int} (o_t : Ob N Λ t 12 9) (o_a1 : Ob N Λ a1 15 3) (f_t_stack : (Λ t).2.2 1 = t_stack) (h0d : 1 ≤ d)
    (h : (Ix N Λ t_stack 0 0 ∧ (Ix N Λ t_stack 0 1 ∧ (Ix N Λ t_stack 0 2 ∧ (CI l mX2_makeBracket (d - 1) [(2, t), (2, a1), (0, (σ t_stack 0)), (0, (σ t_stack 1)), (0, (σ t_stack 2))] N Λ σ (fun v2 σ1 => P v2 σ1)))))) :
    WI l mX2_makeFigure d P 0 [(2, t), (2, a1)] [] N Λ σ := by
  refine r_aload_n (x := t) d_X2_makeFigure_0 rfl o_t.1 ?_
  refine r_aload_n (x := a1) d_X2_makeFigure_1 rfl o_a1.1 ?_
  refine r_aload_n (x := t) d_X2_makeFigure_2 rfl o_t.1 ?_
  refine r_getf (j := 1) (t := 2) (x := t_stack) d_X2_makeFigure_3 kX2 (by decide) fl_X2_17 o_t.1 o_t.2.1 o_t.2.2.1 o_t.2.2.2 rfl f_t_stack ?_
  refine r_iconst (x := 0) d_X2_makeFigure_6 ⟨by decide, by decide⟩ ?_
  refine x_iald d_X2_makeFigure_7 h.1 ?_
  have h := h.2
  refine r_aload_n (x := t) d_X2_makeFigure_8 rfl o_t.1 ?_
  refine r_getf (j := 1) (t := 2) (x := t_stack) d_X2_makeFigure_9 kX2 (by decide) fl_X2_17 o_t.1 o_t.2.1 o_t.2.2.1 o_t.2.2.2 rfl f_t_stack ?_
  refine r_iconst (x := 1) d_X2_makeFigure_12 ⟨by decide, by decide⟩ ?_
  refine x_iald d_X2_makeFigure_13 h.1 ?_
  have h := h.2
  refine r_aload_n (x := t) d_X2_makeFigure_14 rfl o_t.1 ?_
  refine r_getf (j := 1) (t := 2) (x := t_stack) d_X2_makeFigure_15 kX2 (by decide) fl_X2_17 o_t.1 o_t.2.1 o_t.2.2.1 o_t.2.2.2 rfl f_t_stack ?_
  refine r_iconst (x := 2) d_X2_makeFigure_18 ⟨by decide, by decide⟩ ?_
  refine x_iald d_X2_makeFigure_19 h.1 ?_
  have h := h.2
  refine r_callV (Y2 := mX2_makeBracket) (d := d - 1) (mc := 0) (ms := 0) (c := t) (As := [(2, a1), (0, (σ t_stack 0)), (0, (σ t_stack 1)), (0, (σ t_stack 2))]) (S := []) d_X2_makeFigure_20 ok_mX2_makeBracket ml_X2_63 rfl (rmc h0d (by decide)) rm00 (Nat.le_of_ble_eq_true rfl) rfl kX2 o_t.1 o_t.2.1 o_t.2.2.1 o_t.2.2.2 (MC.mono h (fun r N1 Λ1 σ1 hq => ?_))
  obtain ⟨v2, rfl, rfl, rfl, h⟩ := hq
  exact r_iret d_X2_makeFigure_23 rfl rfl (Nat.le_refl 0) (Nat.le_refl 0) ⟨_, rfl, rfl, rfl, h⟩
theorem v_X2_empty_0 {l : Launch} {d N : Nat} {Λ : Lay} {P : Mem → Prop} {σ : Mem} {x1 t : Int}
    (h : WV l mX2_empty d P 2 [(2, t), (0, x1), (0, 0)] [] N Λ σ) :
    WV l mX2_empty d P 0 [(2, t), (0, x1), (3, 0)] [] N Λ σ := by
  refine r_iconst (x := 0) d_X2_empty_0 ⟨by decide, by decide⟩ ?_
  refine r_istore_n (L2 := [(2, t), (0, x1), (0, 0)]) d_X2_empty_1 (by decide) rfl rfl ?_
  exact h
theorem v_X2_empty_2 {l : Launch} {d N : Nat} {Λ : Lay} {P : Mem → Prop} {σ : Mem} {x1 x2 t t_polys : Int} (o_t : Ob N Λ t 12 9) (f_t_polys : (Λ t).2.2 0 = t_polys) (h0d : 1 ≤ d)
    (h : ((10 ≤ x2 → P σ) ∧ (¬ (10 ≤ x2) → (Ix N Λ t_polys 3 (addI x1 x2) ∧ ∀ b1, b1 = (Λ t_polys).2.2 (addI x1 x2) → Ob N Λ b1 15 3 ∧ (CV l mX5_empty (d - 1) [(2, b1)] N Λ σ (fun σ2 => (∀ y3, y3 = addI x2 1 → WV l mX2_empty d P 2 [(2, t), (0, x1), (0, y3)] [] N Λ σ2))))))) :
    WV l mX2_empty d P 2 [(2, t), (0, x1), (0, x2)] [] N Λ σ := by
  refine r_iload_n (x := x2) d_X2_empty_2 rfl ?_
  refine r_bipush (x := 10) d_X2_empty_3 ⟨by decide, by decide⟩ (by decide) ?_
  refine r_ic_ge (tgt := 25) d_X2_empty_5 rfl (fun hc => ?_) (fun hc => ?_)
  · have h := h.1 hc
    exact r_vret d_X2_empty_25 rfl (Nat.le_refl 0) (Nat.le_refl 0) ⟨rfl, rfl, rfl, h⟩
  · have h := h.2 hc
    refine r_aload_n (x := t) d_X2_empty_8 rfl o_t.1 ?_
    refine r_getf (j := 0) (t := 2) (x := t_polys) d_X2_empty_9 kX2 (by decide) fl_X2_13 o_t.1 o_t.2.1 o_t.2.2.1 o_t.2.2.2 rfl f_t_polys ?_
    refine r_iload_n (x := x1) d_X2_empty_12 rfl ?_
    refine r_iload_n (x := x2) d_X2_empty_13 rfl ?_
    refine r_iadd d_X2_empty_14 ?_
    refine x_aald (t := 3) (by decide) d_X2_empty_15 h.1 (fun b1 eb1 => ?_)
    have h := h.2 b1 eb1
    have oob1 := h.1
    have h := h.2
    refine r_callV (Y2 := mX5_empty) (d := d - 1) (mc := 0) (ms := 0) (c := b1) (As := []) (S := []) d_X2_empty_16 ok_mX5_empty ml_X2_71 rfl (rmc h0d (by decide)) rm00 (Nat.le_of_ble_eq_true rfl) rfl kX5 oob1.1 oob1.2.1 oob1.2.2.1 oob1.2.2.2 (MC.mono h (fun r N1 Λ1 σ2 hq => ?_))
    obtain ⟨rfl, rfl, rfl, h⟩ := hq
    refine x_iinc (x := x2) (L := [(2, t), (0, x1), (0, x2)]) d_X2_empty_19 rfl (by decide) rfl (fun y3 ey3 => ?_)
    have h := h y3 ey3
    show WP _ _ _ _ _ _ _ _ [(2, t), (0, x1), (0, y3)] _ _ _ _
    refine r_goto (tgt := 2) d_X2_empty_22 rfl ?_
    exact h
theorem v_X2_makeSpare_0 {l : Launch} {d N : Nat} {Λ : Lay} {P : Int → Mem → Prop} {σ : Mem} {x1 x2 t : Int} (o_t : Ob N Λ t 12 9) (h0d : 1 ≤ d)
    (h : (CV l mX2_empty (d - 1) [(2, t), (0, (σ t 3))] N Λ σ (fun σ1 => WI l mX2_makeSpare d P 13 [(2, t), (0, x1), (0, x2), (0, 0), (0, 0)] [] N Λ σ1))) :
    WI l mX2_makeSpare d P 0 [(2, t), (0, x1), (0, x2), (3, 0), (3, 0)] [] N Λ σ := by
  refine r_aload_n (x := t) d_X2_makeSpare_0 rfl o_t.1 ?_
  refine r_aload_n (x := t) d_X2_makeSpare_1 rfl o_t.1 ?_
  refine r_getf (j := 3) (t := 0) (x := (σ t 3)) d_X2_makeSpare_2 kX2 (by decide) fl_X2_25 o_t.1 o_t.2.1 o_t.2.2.1 o_t.2.2.2 rfl rfl ?_
  refine r_callV (Y2 := mX2_empty) (d := d - 1) (mc := 0) (ms := 0) (c := t) (As := [(0, (σ t 3))]) (S := []) d_X2_makeSpare_5 ok_mX2_empty ml_X2_55 rfl (rmc h0d (by decide)) rm00 (Nat.le_of_ble_eq_true rfl) rfl kX2 o_t.1 o_t.2.1 o_t.2.2.1 o_t.2.2.2 (MC.mono h (fun r N1 Λ1 σ1 hq => ?_))
  obtain ⟨rfl, rfl, rfl, h⟩ := hq
  refine r_iconst (x := 0) d_X2_makeSpare_8 ⟨by decide, by decide⟩ ?_
  refine r_istore_n (L2 := [(2, t), (0, x1), (0, x2), (0, 0), (3, 0)]) d_X2_makeSpare_9 (by decide) rfl rfl ?_
  refine r_iconst (x := 0) d_X2_makeSpare_10 ⟨by decide, by decide⟩ ?_
  refine r_istore (L2 := [(2, t), (0, x1), (0, x2), (0, 0), (0, 0)]) d_X2_makeSpare_11 (by decide) rfl rfl ?_
  exact h
theorem v_X2_makeSpare_13 {l : Launch} {d N : Nat} {Λ : Lay} {P : Int → Mem → Prop} {σ : Mem} {x1 x2 x3 x4 t t_firstBracket t_polys : Int} (o_t : Ob N Λ t 12 9) (f_t_polys : (Λ t).2.2 0 = t_polys) (f_t_firstBracket : (Λ t).2.2 6 = t_firstBracket) (h0d : 1 ≤ d)
    (h : ((10 ≤ x4 → WI l mX2_makeSpare d P 62 [(2, t), (0, x1), (0, x2), (0, x3), (0, 0)] [] N Λ σ) ∧ (¬ (10 ≤ x4) → ((¬ x3 = 0 → WI l mX2_makeSpare d P 62 [(2, t), (0, x1), (0, x2), (0, x3), (0, 0)] [] N Λ σ) ∧ (x3 = 0 → (Ix N Λ t_polys 3 (addI (σ t 3) x4) ∧ ∀ b1, b1 = (Λ t_polys).2.2 (addI (σ t 3) x4) → Ob N Λ b1 15 3 ∧ (Ix N Λ t_polys 3 (addI x2 x4) ∧ ∀ b2, b2 = (Λ t_polys).2.2 (addI x2 x4) → Ob N Λ b2 15 3 ∧ (CI l mX5_layProduct (d - 1) [(2, b1), (2, t_firstBracket), (2, b2)] N Λ σ (fun v4 σ3 => (∀ y5, y5 = addI x4 1 → WI l mX2_makeSpare d P 13 [(2, t), (0, x1), (0, x2), (0, v4), (0, y5)] [] N Λ σ3)))))))))) :
    WI l mX2_makeSpare d P 13 [(2, t), (0, x1), (0, x2), (0, x3), (0, x4)] [] N Λ σ := by
  refine r_iload (x := x4) d_X2_makeSpare_13 rfl ?_
  refine r_bipush (x := 10) d_X2_makeSpare_15 ⟨by decide, by decide⟩ (by decide) ?_
  refine r_ic_ge (tgt := 59) d_X2_makeSpare_17 rfl (fun hc => ?_) (fun hc => ?_)
  · have h := h.1 hc
    refine r_iconst (x := 0) d_X2_makeSpare_59 ⟨by decide, by decide⟩ ?_
    refine r_istore (L2 := [(2, t), (0, x1), (0, x2), (0, x3), (0, 0)]) d_X2_makeSpare_60 (by decide) rfl rfl ?_
    exact h
  · have h := h.2 hc
    refine r_iload_n (x := x3) d_X2_makeSpare_20 rfl ?_
    refine r_if_ne (tgt := 59) d_X2_makeSpare_21 rfl (fun hc => ?_) (fun hc => ?_)
    · have h := h.1 hc
      refine r_iconst (x := 0) d_X2_makeSpare_59 ⟨by decide, by decide⟩ ?_
      refine r_istore (L2 := [(2, t), (0, x1), (0, x2), (0, x3), (0, 0)]) d_X2_makeSpare_60 (by decide) rfl rfl ?_
      exact h
    · have h := h.2 hc
      refine r_aload_n (x := t) d_X2_makeSpare_24 rfl o_t.1 ?_
      refine r_getf (j := 0) (t := 2) (x := t_polys) d_X2_makeSpare_25 kX2 (by decide) fl_X2_13 o_t.1 o_t.2.1 o_t.2.2.1 o_t.2.2.2 rfl f_t_polys ?_
      refine r_aload_n (x := t) d_X2_makeSpare_28 rfl o_t.1 ?_
      refine r_getf (j := 3) (t := 0) (x := (σ t 3)) d_X2_makeSpare_29 kX2 (by decide) fl_X2_25 o_t.1 o_t.2.1 o_t.2.2.1 o_t.2.2.2 rfl rfl ?_
      refine r_iload (x := x4) d_X2_makeSpare_32 rfl ?_
      refine r_iadd d_X2_makeSpare_34 ?_
      refine x_aald (t := 3) (by decide) d_X2_makeSpare_35 h.1 (fun b1 eb1 => ?_)
      have h := h.2 b1 eb1
      have oob1 := h.1
      have h := h.2
      refine r_aload_n (x := t) d_X2_makeSpare_36 rfl o_t.1 ?_
      refine r_getf (j := 6) (t := 2) (x := t_firstBracket) d_X2_makeSpare_37 kX2 (by decide) fl_X2_36 o_t.1 o_t.2.1 o_t.2.2.1 o_t.2.2.2 rfl f_t_firstBracket ?_
      refine r_aload_n (x := t) d_X2_makeSpare_40 rfl o_t.1 ?_
      refine r_getf (j := 0) (t := 2) (x := t_polys) d_X2_makeSpare_41 kX2 (by decide) fl_X2_13 o_t.1 o_t.2.1 o_t.2.2.1 o_t.2.2.2 rfl f_t_polys ?_
      refine r_iload_n (x := x2) d_X2_makeSpare_44 rfl ?_
      refine r_iload (x := x4) d_X2_makeSpare_45 rfl ?_
      refine r_iadd d_X2_makeSpare_47 ?_
      refine x_aald (t := 3) (by decide) d_X2_makeSpare_48 h.1 (fun b2 eb2 => ?_)
      have h := h.2 b2 eb2
      have oob2 := h.1
      have h := h.2
      refine r_callV (Y2 := mX5_layProduct) (d := d - 1) (mc := 0) (ms := 0) (c := b1) (As := [(2, t_firstBracket), (2, b2)]) (S := []) d_X2_makeSpare_49 ok_mX5_layProduct ml_X2_73 rfl (rmc h0d (by decide)) rm00 (Nat.le_of_ble_eq_true rfl) rfl kX5 oob1.1 oob1.2.1 oob1.2.2.1 oob1.2.2.2 (MC.mono h (fun r N1 Λ1 σ3 hq => ?_))
      obtain ⟨v4, rfl, rfl, rfl, h⟩ := hq
      refine r_istore_n (L2 := [(2, t), (0, x1), (0, x2), (0, v4), (0, x4)]) d_X2_makeSpare_52 (by decide) rfl rfl ?_
      refine x_iinc (x := x4) (L := [(2, t), (0, x1), (0, x2), (0, v4), (0, x4)]) d_X2_makeSpare_53 rfl (by decide) rfl (fun y5 ey5 => ?_)
      have h := h y5 ey5
      show WP _ _ _ _ _ _ _ _ [(2, t), (0, x1), (0, x2), (0, v4), (0, y5)] _ _ _ _
      refine r_goto (tgt := 13) d_X2_makeSpare_56 rfl ?_
      exact h
theorem v_X2_makeSpare_62 {l : Launch} {d N : Nat} {Λ : Lay} {P : Int → Mem → Prop} {σ : Mem} {x1 x2 x3 x4 t t_first t_polys t_secondBracket : Int} (o_t : Ob N Λ t 12 9) (f_t_first : (Λ t).2.2 4 = t_first) (o_t_first : Ob N Λ t_first 15 3) (f_t_secondBracket : (Λ t).2.2 7 = t_secondBracket) (f_t_polys : (Λ t).2.2 0 = t_polys) (h0d : 1 ≤ d)
    (h : ((10 ≤ x4 → P x3 σ) ∧ (¬ (10 ≤ x4) → ((¬ x3 = 0 → P x3 σ) ∧ (x3 = 0 → (CV l mX5_empty (d - 1) [(2, t_first)] N Λ σ (fun σ1 => (Ix N Λ t_polys 3 (addI x1 x4) ∧ ∀ b2, b2 = (Λ t_polys).2.2 (addI x1 x4) → Ob N Λ b2 15 3 ∧ (CI l mX5_layProduct (d - 1) [(2, t_first), (2, t_secondBracket), (2, b2)] N Λ σ1 (fun v4 σ3 => ((¬ v4 = 0 → (∀ y5, y5 = addI x4 1 → WI l mX2_makeSpare d P 62 [(2, t), (0, x1), (0, x2), (0, v4), (0, y5)] [] N Λ σ3)) ∧ (v4 = 0 → (Ix N Λ t_polys 3 (addI (σ3 t 3) x4) ∧ ∀ b6, b6 = (Λ t_polys).2.2 (addI (σ3 t 3) x4) → Ob N Λ b6 15 3 ∧ (CI l mX5_laySum (d - 1) [(2, b6), (2, t_first), (0, (-1))] N Λ σ3 (fun v8 σ7 => (∀ y9, y9 = addI x4 1 → WI l mX2_makeSpare d P 62 [(2, t), (0, x1), (0, x2), (0, v8), (0, y9)] [] N Λ σ7)))))))))))))))) :
    WI l mX2_makeSpare d P 62 [(2, t), (0, x1), (0, x2), (0, x3), (0, x4)] [] N Λ σ := by
  refine r_iload (x := x4) d_X2_makeSpare_62 rfl ?_
  refine r_bipush (x := 10) d_X2_makeSpare_64 ⟨by decide, by decide⟩ (by decide) ?_
  refine r_ic_ge (tgt := 132) d_X2_makeSpare_66 rfl (fun hc => ?_) (fun hc => ?_)
  · have h := h.1 hc
    refine r_iload_n (x := x3) d_X2_makeSpare_132 rfl ?_
    exact r_iret d_X2_makeSpare_133 rfl rfl (Nat.le_refl 0) (Nat.le_refl 0) ⟨_, rfl, rfl, rfl, h⟩
  · have h := h.2 hc
    refine r_iload_n (x := x3) d_X2_makeSpare_69 rfl ?_
    refine r_if_ne (tgt := 132) d_X2_makeSpare_70 rfl (fun hc => ?_) (fun hc => ?_)
    · have h := h.1 hc
      refine r_iload_n (x := x3) d_X2_makeSpare_132 rfl ?_
      exact r_iret d_X2_makeSpare_133 rfl rfl (Nat.le_refl 0) (Nat.le_refl 0) ⟨_, rfl, rfl, rfl, h⟩
    · have h := h.2 hc
      refine r_aload_n (x := t) d_X2_makeSpare_73 rfl o_t.1 ?_
      refine r_getf (j := 4) (t := 2) (x := t_first) d_X2_makeSpare_74 kX2 (by decide) fl_X2_29 o_t.1 o_t.2.1 o_t.2.2.1 o_t.2.2.2 rfl f_t_first ?_
      refine r_callV (Y2 := mX5_empty) (d := d - 1) (mc := 0) (ms := 0) (c := t_first) (As := []) (S := []) d_X2_makeSpare_77 ok_mX5_empty ml_X2_71 rfl (rmc h0d (by decide)) rm00 (Nat.le_of_ble_eq_true rfl) rfl kX5 o_t_first.1 o_t_first.2.1 o_t_first.2.2.1 o_t_first.2.2.2 (MC.mono h (fun r N1 Λ1 σ1 hq => ?_))
      obtain ⟨rfl, rfl, rfl, h⟩ := hq
      refine r_aload_n (x := t) d_X2_makeSpare_80 rfl o_t.1 ?_
      refine r_getf (j := 4) (t := 2) (x := t_first) d_X2_makeSpare_81 kX2 (by decide) fl_X2_29 o_t.1 o_t.2.1 o_t.2.2.1 o_t.2.2.2 rfl f_t_first ?_
      refine r_aload_n (x := t) d_X2_makeSpare_84 rfl o_t.1 ?_
      refine r_getf (j := 7) (t := 2) (x := t_secondBracket) d_X2_makeSpare_85 kX2 (by decide) fl_X2_39 o_t.1 o_t.2.1 o_t.2.2.1 o_t.2.2.2 rfl f_t_secondBracket ?_
      refine r_aload_n (x := t) d_X2_makeSpare_88 rfl o_t.1 ?_
      refine r_getf (j := 0) (t := 2) (x := t_polys) d_X2_makeSpare_89 kX2 (by decide) fl_X2_13 o_t.1 o_t.2.1 o_t.2.2.1 o_t.2.2.2 rfl f_t_polys ?_
      refine r_iload_n (x := x1) d_X2_makeSpare_92 rfl ?_
      refine r_iload (x := x4) d_X2_makeSpare_93 rfl ?_
      refine r_iadd d_X2_makeSpare_95 ?_
      refine x_aald (t := 3) (by decide) d_X2_makeSpare_96 h.1 (fun b2 eb2 => ?_)
      have h := h.2 b2 eb2
      have oob2 := h.1
      have h := h.2
      refine r_callV (Y2 := mX5_layProduct) (d := d - 1) (mc := 0) (ms := 0) (c := t_first) (As := [(2, t_secondBracket), (2, b2)]) (S := []) d_X2_makeSpare_97 ok_mX5_layProduct ml_X2_73 rfl (rmc h0d (by decide)) rm00 (Nat.le_of_ble_eq_true rfl) rfl kX5 o_t_first.1 o_t_first.2.1 o_t_first.2.2.1 o_t_first.2.2.2 (MC.mono h (fun r N1 Λ1 σ3 hq => ?_))
      obtain ⟨v4, rfl, rfl, rfl, h⟩ := hq
      refine r_istore_n (L2 := [(2, t), (0, x1), (0, x2), (0, v4), (0, x4)]) d_X2_makeSpare_100 (by decide) rfl rfl ?_
      refine r_iload_n (x := v4) d_X2_makeSpare_101 rfl ?_
      refine r_if_ne (tgt := 126) d_X2_makeSpare_102 rfl (fun hc => ?_) (fun hc => ?_)
      · have h := h.1 hc
        refine x_iinc (x := x4) (L := [(2, t), (0, x1), (0, x2), (0, v4), (0, x4)]) d_X2_makeSpare_126 rfl (by decide) rfl (fun y5 ey5 => ?_)
        have h := h y5 ey5
        show WP _ _ _ _ _ _ _ _ [(2, t), (0, x1), (0, x2), (0, v4), (0, y5)] _ _ _ _
        refine r_goto (tgt := 62) d_X2_makeSpare_129 rfl ?_
        exact h
      · have h := h.2 hc
        refine r_aload_n (x := t) d_X2_makeSpare_105 rfl o_t.1 ?_
        refine r_getf (j := 0) (t := 2) (x := t_polys) d_X2_makeSpare_106 kX2 (by decide) fl_X2_13 o_t.1 o_t.2.1 o_t.2.2.1 o_t.2.2.2 rfl f_t_polys ?_
        refine r_aload_n (x := t) d_X2_makeSpare_109 rfl o_t.1 ?_
        refine r_getf (j := 3) (t := 0) (x := (σ3 t 3)) d_X2_makeSpare_110 kX2 (by decide) fl_X2_25 o_t.1 o_t.2.1 o_t.2.2.1 o_t.2.2.2 rfl rfl ?_
        refine r_iload (x := x4) d_X2_makeSpare_113 rfl ?_
        refine r_iadd d_X2_makeSpare_115 ?_
        refine x_aald (t := 3) (by decide) d_X2_makeSpare_116 h.1 (fun b6 eb6 => ?_)
        have h := h.2 b6 eb6
        have oob6 := h.1
        have h := h.2
        refine r_aload_n (x := t) d_X2_makeSpare_117 rfl o_t.1 ?_
        refine r_getf (j := 4) (t := 2) (x := t_first) d_X2_makeSpare_118 kX2 (by decide) fl_X2_29 o_t.1 o_t.2.1 o_t.2.2.1 o_t.2.2.2 rfl f_t_first ?_
        refine r_iconst (x := (-1)) d_X2_makeSpare_121 ⟨by decide, by decide⟩ ?_
        refine r_callV (Y2 := mX5_laySum) (d := d - 1) (mc := 0) (ms := 0) (c := b6) (As := [(2, t_first), (0, (-1))]) (S := []) d_X2_makeSpare_122 ok_mX5_laySum ml_X2_77 rfl (rmc h0d (by decide)) rm00 (Nat.le_of_ble_eq_true rfl) rfl kX5 oob6.1 oob6.2.1 oob6.2.2.1 oob6.2.2.2 (MC.mono h (fun r N1 Λ1 σ7 hq => ?_))
        obtain ⟨v8, rfl, rfl, rfl, h⟩ := hq
        refine r_istore_n (L2 := [(2, t), (0, x1), (0, x2), (0, v8), (0, x4)]) d_X2_makeSpare_125 (by decide) rfl rfl ?_
        refine x_iinc (x := x4) (L := [(2, t), (0, x1), (0, x2), (0, v8), (0, x4)]) d_X2_makeSpare_126 rfl (by decide) rfl (fun y9 ey9 => ?_)
        have h := h y9 ey9
        show WP _ _ _ _ _ _ _ _ [(2, t), (0, x1), (0, x2), (0, v8), (0, y9)] _ _ _ _
        refine r_goto (tgt := 62) d_X2_makeSpare_129 rfl ?_
        exact h
theorem v_X2_makeBracket_0 {l : Launch} {d N : Nat} {Λ : Lay} {P : Int → Mem → Prop} {σ : Mem} {x2 x3 x4 a1 t : Int} (o_a1 : Ob N Λ a1 15 3) (h0d : 1 ≤ d)
    (h : (CV l mX5_empty (d - 1) [(2, a1)] N Λ σ (fun σ1 => WI l mX2_makeBracket d P 10 [(2, t), (2, a1), (0, x2), (0, x3), (0, x4), (0, 0), (0, 0), (3, 0), (3, 0)] [] N Λ σ1))) :
    WI l mX2_makeBracket d P 0 [(2, t), (2, a1), (0, x2), (0, x3), (0, x4), (3, 0), (3, 0), (3, 0), (3, 0)] [] N Λ σ := by
  refine r_aload_n (x := a1) d_X2_makeBracket_0 rfl o_a1.1 ?_
  refine r_callV (Y2 := mX5_empty) (d := d - 1) (mc := 0) (ms := 0) (c := a1) (As := []) (S := []) d_X2_makeBracket_1 ok_mX5_empty ml_X2_71 rfl (rmc h0d (by decide)) rm00 (Nat.le_of_ble_eq_true rfl) rfl kX5 o_a1.1 o_a1.2.1 o_a1.2.2.1 o_a1.2.2.2 (MC.mono h (fun r N1 Λ1 σ1 hq => ?_))
  obtain ⟨rfl, rfl, rfl, h⟩ := hq
  refine r_iconst (x := 0) d_X2_makeBracket_4 ⟨by decide, by decide⟩ ?_
  refine r_istore (L2 := [(2, t), (2, a1), (0, x2), (0, x3), (0, x4), (0, 0), (3, 0), (3, 0), (3, 0)]) d_X2_makeBracket_5 (by decide) rfl rfl ?_
  refine r_iconst (x := 0) d_X2_makeBracket_7 ⟨by decide, by decide⟩ ?_
  refine r_istore (L2 := [(2, t), (2, a1), (0, x2), (0, x3), (0, x4), (0, 0), (0, 0), (3, 0), (3, 0)]) d_X2_makeBracket_8 (by decide) rfl rfl ?_
  exact h
theorem v_X2_makeBracket_10 {l : Launch} {d N : Nat} {Λ : Lay} {P : Int → Mem → Prop} {σ : Mem} {x2 x3 x4 x5 x6 a1 t t_polys : Int} (o_t : Ob N Λ t 12 9) (f_t_polys : (Λ t).2.2 0 = t_polys)
    (h : ((10 ≤ x6 → P x5 σ) ∧ (¬ (10 ≤ x6) → (Ix N Λ t_polys 3 (addI x2 x6) ∧ ∀ b1, b1 = (Λ t_polys).2.2 (addI x2 x6) → Ob N Λ b1 15 3 ∧ ((¬ (σ b1 2) = 0 → WI l mX2_makeBracket d P 38 [(2, t), (2, a1), (0, x2), (0, x3), (0, x4), (0, x5), (0, x6), (0, 0), (3, 0)] [] N Λ σ) ∧ ((σ b1 2) = 0 → (∀ y2, y2 = addI x6 1 → WI l mX2_makeBracket d P 10 [(2, t), (2, a1), (0, x2), (0, x3), (0, x4), (0, x5), (0, y2), (3, 0), (3, 0)] [] N Λ σ))))))) :
    WI l mX2_makeBracket d P 10 [(2, t), (2, a1), (0, x2), (0, x3), (0, x4), (0, x5), (0, x6), (3, 0), (3, 0)] [] N Λ σ := by
  refine r_iload (x := x6) d_X2_makeBracket_10 rfl ?_
  refine r_bipush (x := 10) d_X2_makeBracket_12 ⟨by decide, by decide⟩ (by decide) ?_
  refine r_ic_ge (tgt := 192) d_X2_makeBracket_14 rfl (fun hc => ?_) (fun hc => ?_)
  · have h := h.1 hc
    refine r_iload (x := x5) d_X2_makeBracket_192 rfl ?_
    exact r_iret d_X2_makeBracket_194 rfl rfl (Nat.le_refl 0) (Nat.le_refl 0) ⟨_, rfl, rfl, rfl, h⟩
  · have h := h.2 hc
    refine r_aload_n (x := t) d_X2_makeBracket_17 rfl o_t.1 ?_
    refine r_getf (j := 0) (t := 2) (x := t_polys) d_X2_makeBracket_18 kX2 (by decide) fl_X2_13 o_t.1 o_t.2.1 o_t.2.2.1 o_t.2.2.2 rfl f_t_polys ?_
    refine r_iload_n (x := x2) d_X2_makeBracket_21 rfl ?_
    refine r_iload (x := x6) d_X2_makeBracket_22 rfl ?_
    refine r_iadd d_X2_makeBracket_24 ?_
    refine x_aald (t := 3) (by decide) d_X2_makeBracket_25 h.1 (fun b1 eb1 => ?_)
    have h := h.2 b1 eb1
    have oob1 := h.1
    have h := h.2
    refine r_getf (j := 2) (t := 0) (x := (σ b1 2)) d_X2_makeBracket_26 kX5 (by decide) fl_X2_81 oob1.1 oob1.2.1 oob1.2.2.1 oob1.2.2.2 rfl rfl ?_
    refine r_if_ne (tgt := 35) d_X2_makeBracket_29 rfl (fun hc => ?_) (fun hc => ?_)
    · have h := h.1 hc
      refine r_iconst (x := 0) d_X2_makeBracket_35 ⟨by decide, by decide⟩ ?_
      refine r_istore (L2 := [(2, t), (2, a1), (0, x2), (0, x3), (0, x4), (0, x5), (0, x6), (0, 0), (3, 0)]) d_X2_makeBracket_36 (by decide) rfl rfl ?_
      exact h
    · have h := h.2 hc
      refine r_goto (tgt := 186) d_X2_makeBracket_32 rfl ?_
      refine x_iinc (x := x6) (L := [(2, t), (2, a1), (0, x2), (0, x3), (0, x4), (0, x5), (0, x6), (3, 0), (3, 0)]) d_X2_makeBracket_186 rfl (by decide) rfl (fun y2 ey2 => ?_)
      have h := h y2 ey2
      show WP _ _ _ _ _ _ _ _ [(2, t), (2, a1), (0, x2), (0, x3), (0, x4), (0, x5), (0, y2), (3, 0), (3, 0)] _ _ _ _
      refine r_goto (tgt := 10) d_X2_makeBracket_189 rfl ?_
      exact h
theorem v_X2_makeBracket_38 {l : Launch} {d N : Nat} {Λ : Lay} {P : Int → Mem → Prop} {σ : Mem} {x2 x3 x4 x5 x6 x7 a1 t t_polys : Int} (o_t : Ob N Λ t 12 9) (f_t_polys : (Λ t).2.2 0 = t_polys)
    (h : ((10 ≤ x7 → (∀ y1, y1 = addI x6 1 → WI l mX2_makeBracket d P 10 [(2, t), (2, a1), (0, x2), (0, x3), (0, x4), (0, x5), (0, y1), (3, 0), (3, 0)] [] N Λ σ)) ∧ (¬ (10 ≤ x7) → (Ix N Λ t_polys 3 (addI x3 x7) ∧ ∀ b2, b2 = (Λ t_polys).2.2 (addI x3 x7) → Ob N Λ b2 15 3 ∧ (((σ b2 2) = 0 → (∀ y3, y3 = addI x7 1 → WI l mX2_makeBracket d P 38 [(2, t), (2, a1), (0, x2), (0, x3), (0, x4), (0, x5), (0, x6), (0, y3), (3, 0)] [] N Λ σ)) ∧ (¬ ((σ b2 2) = 0) → ((¬ x6 = x7 → WI l mX2_makeBracket d P 73 [(2, t), (2, a1), (0, x2), (0, x3), (0, x4), (0, x5), (0, x6), (0, x7), (0, 0)] [] N Λ σ) ∧ (x6 = x7 → (∀ y4, y4 = addI x7 1 → WI l mX2_makeBracket d P 38 [(2, t), (2, a1), (0, x2), (0, x3), (0, x4), (0, x5), (0, x6), (0, y4), (3, 0)] [] N Λ σ))))))))) :
    WI l mX2_makeBracket d P 38 [(2, t), (2, a1), (0, x2), (0, x3), (0, x4), (0, x5), (0, x6), (0, x7), (3, 0)] [] N Λ σ := by
  refine r_iload (x := x7) d_X2_makeBracket_38 rfl ?_
  refine r_bipush (x := 10) d_X2_makeBracket_40 ⟨by decide, by decide⟩ (by decide) ?_
  refine r_ic_ge (tgt := 186) d_X2_makeBracket_42 rfl (fun hc => ?_) (fun hc => ?_)
  · have h := h.1 hc
    refine x_iinc (x := x6) (L := [(2, t), (2, a1), (0, x2), (0, x3), (0, x4), (0, x5), (0, x6), (0, x7), (3, 0)]) d_X2_makeBracket_186 rfl (by decide) rfl (fun y1 ey1 => ?_)
    have h := h y1 ey1
    show WP _ _ _ _ _ _ _ _ [(2, t), (2, a1), (0, x2), (0, x3), (0, x4), (0, x5), (0, y1), (0, x7), (3, 0)] _ _ _ _
    refine r_goto (tgt := 10) d_X2_makeBracket_189 rfl ?_
    exact x_mask h ⟨Or.inr rfl, Or.inr rfl, Or.inr rfl, Or.inr rfl, Or.inr rfl, Or.inr rfl, Or.inr rfl, Or.inl rfl, Or.inl rfl, trivial⟩
  · have h := h.2 hc
    refine r_aload_n (x := t) d_X2_makeBracket_45 rfl o_t.1 ?_
    refine r_getf (j := 0) (t := 2) (x := t_polys) d_X2_makeBracket_46 kX2 (by decide) fl_X2_13 o_t.1 o_t.2.1 o_t.2.2.1 o_t.2.2.2 rfl f_t_polys ?_
    refine r_iload_n (x := x3) d_X2_makeBracket_49 rfl ?_
    refine r_iload (x := x7) d_X2_makeBracket_50 rfl ?_
    refine r_iadd d_X2_makeBracket_52 ?_
    refine x_aald (t := 3) (by decide) d_X2_makeBracket_53 h.1 (fun b2 eb2 => ?_)
    have h := h.2 b2 eb2
    have oob2 := h.1
    have h := h.2
    refine r_getf (j := 2) (t := 0) (x := (σ b2 2)) d_X2_makeBracket_54 kX5 (by decide) fl_X2_81 oob2.1 oob2.2.1 oob2.2.2.1 oob2.2.2.2 rfl rfl ?_
    refine r_if_eq (tgt := 180) d_X2_makeBracket_57 rfl (fun hc => ?_) (fun hc => ?_)
    · have h := h.1 hc
      refine x_iinc (x := x7) (L := [(2, t), (2, a1), (0, x2), (0, x3), (0, x4), (0, x5), (0, x6), (0, x7), (3, 0)]) d_X2_makeBracket_180 rfl (by decide) rfl (fun y3 ey3 => ?_)
      have h := h y3 ey3
      show WP _ _ _ _ _ _ _ _ [(2, t), (2, a1), (0, x2), (0, x3), (0, x4), (0, x5), (0, x6), (0, y3), (3, 0)] _ _ _ _
      refine r_goto (tgt := 38) d_X2_makeBracket_183 rfl ?_
      exact h
    · have h := h.2 hc
      refine r_iload (x := x6) d_X2_makeBracket_60 rfl ?_
      refine r_iload (x := x7) d_X2_makeBracket_62 rfl ?_
      refine r_ic_ne (tgt := 70) d_X2_makeBracket_64 rfl (fun hc => ?_) (fun hc => ?_)
      · have h := h.1 hc
        refine r_iconst (x := 0) d_X2_makeBracket_70 ⟨by decide, by decide⟩ ?_
        refine r_istore (L2 := [(2, t), (2, a1), (0, x2), (0, x3), (0, x4), (0, x5), (0, x6), (0, x7), (0, 0)]) d_X2_makeBracket_71 (by decide) rfl rfl ?_
        exact h
      · have h := h.2 hc
        refine r_goto (tgt := 180) d_X2_makeBracket_67 rfl ?_
        refine x_iinc (x := x7) (L := [(2, t), (2, a1), (0, x2), (0, x3), (0, x4), (0, x5), (0, x6), (0, x7), (3, 0)]) d_X2_makeBracket_180 rfl (by decide) rfl (fun y4 ey4 => ?_)
        have h := h y4 ey4
        show WP _ _ _ _ _ _ _ _ [(2, t), (2, a1), (0, x2), (0, x3), (0, x4), (0, x5), (0, x6), (0, y4), (3, 0)] _ _ _ _
        refine r_goto (tgt := 38) d_X2_makeBracket_183 rfl ?_
        exact h
theorem v_X2_makeBracket_73 {l : Launch} {d N : Nat} {Λ : Lay} {P : Int → Mem → Prop} {σ : Mem} {x2 x3 x4 x5 x6 x7 x8 a1 t t_polys t_term : Int} (o_t : Ob N Λ t 12 9) (f_t_polys : (Λ t).2.2 0 = t_polys) (f_t_term : (Λ t).2.2 8 = t_term) (o_t_term : Ob N Λ t_term 19 2) (o_a1 : Ob N Λ a1 15 3) (h0d : 1 ≤ d)
    (h : ((10 ≤ x8 → (∀ y1, y1 = addI x7 1 → WI l mX2_makeBracket d P 38 [(2, t), (2, a1), (0, x2), (0, x3), (0, x4), (0, x5), (0, x6), (0, y1), (3, 0)] [] N Λ σ)) ∧ (¬ (10 ≤ x8) → ((¬ x5 = 0 → (∀ y2, y2 = addI x7 1 → WI l mX2_makeBracket d P 38 [(2, t), (2, a1), (0, x2), (0, x3), (0, x4), (0, x5), (0, x6), (0, y2), (3, 0)] [] N Λ σ)) ∧ (x5 = 0 → (Ix N Λ t_polys 3 (addI x4 x8) ∧ ∀ b3, b3 = (Λ t_polys).2.2 (addI x4 x8) → Ob N Λ b3 15 3 ∧ (((σ b3 2) = 0 → (∀ y4, y4 = addI x8 1 → WI l mX2_makeBracket d P 73 [(2, t), (2, a1), (0, x2), (0, x3), (0, x4), (0, x5), (0, x6), (0, x7), (0, y4)] [] N Λ σ)) ∧ (¬ ((σ b3 2) = 0) → ((x6 = x8 → (∀ y5, y5 = addI x8 1 → WI l mX2_makeBracket d P 73 [(2, t), (2, a1), (0, x2), (0, x3), (0, x4), (0, x5), (0, x6), (0, x7), (0, y5)] [] N Λ σ)) ∧ (¬ (x6 = x8) → ((x7 = x8 → (∀ y6, y6 = addI x8 1 → WI l mX2_makeBracket d P 73 [(2, t), (2, a1), (0, x2), (0, x3), (0, x4), (0, x5), (0, x6), (0, x7), (0, y6)] [] N Λ σ)) ∧ (¬ (x7 = x8) → (CV l mX10_begin (d - 1) [(2, t_term), (1, 0)] N Λ σ (fun σ7 => (CI l mX6_row (d - 1) [(0, x6), (0, x7), (0, x8)] N Λ σ7 (fun v9 σ8 => (CV l mX10_attach (d - 1) [(2, t_term), (0, v9)] N Λ σ8 (fun σ10 => (Ix N Λ t_polys 3 (addI x2 x6) ∧ ∀ b11, b11 = (Λ t_polys).2.2 (addI x2 x6) → Ob N Λ b11 15 3 ∧ (Ix N Λ t_polys 3 (addI x3 x7) ∧ ∀ b12, b12 = (Λ t_polys).2.2 (addI x3 x7) → Ob N Λ b12 15 3 ∧ (Ix N Λ t_polys 3 (addI x4 x8) ∧ ∀ b13, b13 = (Λ t_polys).2.2 (addI x4 x8) → Ob N Λ b13 15 3 ∧ (CI l mX2_layTimesThree (d - 1) [(2, t), (2, a1), (2, b11), (2, b12), (2, b13)] N Λ σ10 (fun v15 σ14 => (∀ y16, y16 = addI x8 1 → WI l mX2_makeBracket d P 73 [(2, t), (2, a1), (0, x2), (0, x3), (0, x4), (0, v15), (0, x6), (0, x7), (0, y16)] [] N Λ σ14)))))))))))))))))))))))) :
    WI l mX2_makeBracket d P 73 [(2, t), (2, a1), (0, x2), (0, x3), (0, x4), (0, x5), (0, x6), (0, x7), (0, x8)] [] N Λ σ := by
  refine r_iload (x := x8) d_X2_makeBracket_73 rfl ?_
  refine r_bipush (x := 10) d_X2_makeBracket_75 ⟨by decide, by decide⟩ (by decide) ?_
  refine r_ic_ge (tgt := 180) d_X2_makeBracket_77 rfl (fun hc => ?_) (fun hc => ?_)
  · have h := h.1 hc
    refine x_iinc (x := x7) (L := [(2, t), (2, a1), (0, x2), (0, x3), (0, x4), (0, x5), (0, x6), (0, x7), (0, x8)]) d_X2_makeBracket_180 rfl (by decide) rfl (fun y1 ey1 => ?_)
    have h := h y1 ey1
    show WP _ _ _ _ _ _ _ _ [(2, t), (2, a1), (0, x2), (0, x3), (0, x4), (0, x5), (0, x6), (0, y1), (0, x8)] _ _ _ _
    refine r_goto (tgt := 38) d_X2_makeBracket_183 rfl ?_
    exact x_mask h ⟨Or.inr rfl, Or.inr rfl, Or.inr rfl, Or.inr rfl, Or.inr rfl, Or.inr rfl, Or.inr rfl, Or.inr rfl, Or.inl rfl, trivial⟩
  · have h := h.2 hc
    refine r_iload (x := x5) d_X2_makeBracket_80 rfl ?_
    refine r_if_ne (tgt := 180) d_X2_makeBracket_82 rfl (fun hc => ?_) (fun hc => ?_)
    · have h := h.1 hc
      refine x_iinc (x := x7) (L := [(2, t), (2, a1), (0, x2), (0, x3), (0, x4), (0, x5), (0, x6), (0, x7), (0, x8)]) d_X2_makeBracket_180 rfl (by decide) rfl (fun y2 ey2 => ?_)
      have h := h y2 ey2
      show WP _ _ _ _ _ _ _ _ [(2, t), (2, a1), (0, x2), (0, x3), (0, x4), (0, x5), (0, x6), (0, y2), (0, x8)] _ _ _ _
      refine r_goto (tgt := 38) d_X2_makeBracket_183 rfl ?_
      exact x_mask h ⟨Or.inr rfl, Or.inr rfl, Or.inr rfl, Or.inr rfl, Or.inr rfl, Or.inr rfl, Or.inr rfl, Or.inr rfl, Or.inl rfl, trivial⟩
    · have h := h.2 hc
      refine r_aload_n (x := t) d_X2_makeBracket_85 rfl o_t.1 ?_
      refine r_getf (j := 0) (t := 2) (x := t_polys) d_X2_makeBracket_86 kX2 (by decide) fl_X2_13 o_t.1 o_t.2.1 o_t.2.2.1 o_t.2.2.2 rfl f_t_polys ?_
      refine r_iload (x := x4) d_X2_makeBracket_89 rfl ?_
      refine r_iload (x := x8) d_X2_makeBracket_91 rfl ?_
      refine r_iadd d_X2_makeBracket_93 ?_
      refine x_aald (t := 3) (by decide) d_X2_makeBracket_94 h.1 (fun b3 eb3 => ?_)
      have h := h.2 b3 eb3
      have oob3 := h.1
      have h := h.2
      refine r_getf (j := 2) (t := 0) (x := (σ b3 2)) d_X2_makeBracket_95 kX5 (by decide) fl_X2_81 oob3.1 oob3.2.1 oob3.2.2.1 oob3.2.2.2 rfl rfl ?_
      refine r_if_eq (tgt := 174) d_X2_makeBracket_98 rfl (fun hc => ?_) (fun hc => ?_)
      · have h := h.1 hc
        refine x_iinc (x := x8) (L := [(2, t), (2, a1), (0, x2), (0, x3), (0, x4), (0, x5), (0, x6), (0, x7), (0, x8)]) d_X2_makeBracket_174 rfl (by decide) rfl (fun y4 ey4 => ?_)
        have h := h y4 ey4
        show WP _ _ _ _ _ _ _ _ [(2, t), (2, a1), (0, x2), (0, x3), (0, x4), (0, x5), (0, x6), (0, x7), (0, y4)] _ _ _ _
        refine r_goto (tgt := 73) d_X2_makeBracket_177 rfl ?_
        exact h
      · have h := h.2 hc
        refine r_iload (x := x6) d_X2_makeBracket_101 rfl ?_
        refine r_iload (x := x8) d_X2_makeBracket_103 rfl ?_
        refine r_ic_eq (tgt := 174) d_X2_makeBracket_105 rfl (fun hc => ?_) (fun hc => ?_)
        · have h := h.1 hc
          refine x_iinc (x := x8) (L := [(2, t), (2, a1), (0, x2), (0, x3), (0, x4), (0, x5), (0, x6), (0, x7), (0, x8)]) d_X2_makeBracket_174 rfl (by decide) rfl (fun y5 ey5 => ?_)
          have h := h y5 ey5
          show WP _ _ _ _ _ _ _ _ [(2, t), (2, a1), (0, x2), (0, x3), (0, x4), (0, x5), (0, x6), (0, x7), (0, y5)] _ _ _ _
          refine r_goto (tgt := 73) d_X2_makeBracket_177 rfl ?_
          exact h
        · have h := h.2 hc
          refine r_iload (x := x7) d_X2_makeBracket_108 rfl ?_
          refine r_iload (x := x8) d_X2_makeBracket_110 rfl ?_
          refine r_ic_eq (tgt := 174) d_X2_makeBracket_112 rfl (fun hc => ?_) (fun hc => ?_)
          · have h := h.1 hc
            refine x_iinc (x := x8) (L := [(2, t), (2, a1), (0, x2), (0, x3), (0, x4), (0, x5), (0, x6), (0, x7), (0, x8)]) d_X2_makeBracket_174 rfl (by decide) rfl (fun y6 ey6 => ?_)
            have h := h y6 ey6
            show WP _ _ _ _ _ _ _ _ [(2, t), (2, a1), (0, x2), (0, x3), (0, x4), (0, x5), (0, x6), (0, x7), (0, y6)] _ _ _ _
            refine r_goto (tgt := 73) d_X2_makeBracket_177 rfl ?_
            exact h
          · have h := h.2 hc
            refine r_aload_n (x := t) d_X2_makeBracket_115 rfl o_t.1 ?_
            refine r_getf (j := 8) (t := 2) (x := t_term) d_X2_makeBracket_116 kX2 (by decide) fl_X2_45 o_t.1 o_t.2.1 o_t.2.2.1 o_t.2.2.2 rfl f_t_term ?_
            refine r_lconst d_X2_makeBracket_119 ?_
            skip
            refine r_callV (Y2 := mX10_begin) (d := d - 1) (mc := 0) (ms := 0) (c := t_term) (As := [(1, 0)]) (S := []) d_X2_makeBracket_120 ok_mX10_begin ml_X2_84 rfl (rmc h0d (by decide)) rm00 (Nat.le_of_ble_eq_true rfl) rfl kX10 o_t_term.1 o_t_term.2.1 o_t_term.2.2.1 o_t_term.2.2.2 (MC.mono h (fun r N1 Λ1 σ7 hq => ?_))
            obtain ⟨rfl, rfl, rfl, h⟩ := hq
            refine r_aload_n (x := t) d_X2_makeBracket_123 rfl o_t.1 ?_
            refine r_getf (j := 8) (t := 2) (x := t_term) d_X2_makeBracket_124 kX2 (by decide) fl_X2_45 o_t.1 o_t.2.1 o_t.2.2.1 o_t.2.2.2 rfl f_t_term ?_
            refine r_iload (x := x6) d_X2_makeBracket_127 rfl ?_
            refine r_iload (x := x7) d_X2_makeBracket_129 rfl ?_
            refine r_iload (x := x8) d_X2_makeBracket_131 rfl ?_
            refine r_callS (Y2 := mX6_row) (d := d - 1) (mc := 0) (ms := 0) (As := [(0, x6), (0, x7), (0, x8)]) (S := [(2, t_term)]) d_X2_makeBracket_133 ok_mX6_row ml_X2_88 rfl (rmc h0d (by decide)) rm00 (Nat.le_of_ble_eq_true rfl) rfl (MC.mono h (fun r N1 Λ1 σ8 hq => ?_))
            obtain ⟨v9, rfl, rfl, rfl, h⟩ := hq
            refine r_callV (Y2 := mX10_attach) (d := d - 1) (mc := 0) (ms := 0) (c := t_term) (As := [(0, v9)]) (S := []) d_X2_makeBracket_136 ok_mX10_attach ml_X2_94 rfl (rmc h0d (by decide)) rm00 (Nat.le_of_ble_eq_true rfl) rfl kX10 o_t_term.1 o_t_term.2.1 o_t_term.2.2.1 o_t_term.2.2.2 (MC.mono h (fun r N1 Λ1 σ10 hq => ?_))
            obtain ⟨rfl, rfl, rfl, h⟩ := hq
            refine r_aload_n (x := t) d_X2_makeBracket_139 rfl o_t.1 ?_
            refine r_aload_n (x := a1) d_X2_makeBracket_140 rfl o_a1.1 ?_
            refine r_aload_n (x := t) d_X2_makeBracket_141 rfl o_t.1 ?_
            refine r_getf (j := 0) (t := 2) (x := t_polys) d_X2_makeBracket_142 kX2 (by decide) fl_X2_13 o_t.1 o_t.2.1 o_t.2.2.1 o_t.2.2.2 rfl f_t_polys ?_
            refine r_iload_n (x := x2) d_X2_makeBracket_145 rfl ?_
            refine r_iload (x := x6) d_X2_makeBracket_146 rfl ?_
            refine r_iadd d_X2_makeBracket_148 ?_
            refine x_aald (t := 3) (by decide) d_X2_makeBracket_149 h.1 (fun b11 eb11 => ?_)
            have h := h.2 b11 eb11
            have oob11 := h.1
            have h := h.2
            refine r_aload_n (x := t) d_X2_makeBracket_150 rfl o_t.1 ?_
            refine r_getf (j := 0) (t := 2) (x := t_polys) d_X2_makeBracket_151 kX2 (by decide) fl_X2_13 o_t.1 o_t.2.1 o_t.2.2.1 o_t.2.2.2 rfl f_t_polys ?_
            refine r_iload_n (x := x3) d_X2_makeBracket_154 rfl ?_
            refine r_iload (x := x7) d_X2_makeBracket_155 rfl ?_
            refine r_iadd d_X2_makeBracket_157 ?_
            refine x_aald (t := 3) (by decide) d_X2_makeBracket_158 h.1 (fun b12 eb12 => ?_)
            have h := h.2 b12 eb12
            have oob12 := h.1
            have h := h.2
            refine r_aload_n (x := t) d_X2_makeBracket_159 rfl o_t.1 ?_
            refine r_getf (j := 0) (t := 2) (x := t_polys) d_X2_makeBracket_160 kX2 (by decide) fl_X2_13 o_t.1 o_t.2.1 o_t.2.2.1 o_t.2.2.2 rfl f_t_polys ?_
            refine r_iload (x := x4) d_X2_makeBracket_163 rfl ?_
            refine r_iload (x := x8) d_X2_makeBracket_165 rfl ?_
            refine r_iadd d_X2_makeBracket_167 ?_
            refine x_aald (t := 3) (by decide) d_X2_makeBracket_168 h.1 (fun b13 eb13 => ?_)
            have h := h.2 b13 eb13
            have oob13 := h.1
            have h := h.2
            refine r_callV (Y2 := mX2_layTimesThree) (d := d - 1) (mc := 0) (ms := 0) (c := t) (As := [(2, a1), (2, b11), (2, b12), (2, b13)]) (S := []) d_X2_makeBracket_169 ok_mX2_layTimesThree ml_X2_97 rfl (rmc h0d (by decide)) rm00 (Nat.le_of_ble_eq_true rfl) rfl kX2 o_t.1 o_t.2.1 o_t.2.2.1 o_t.2.2.2 (MC.mono h (fun r N1 Λ1 σ14 hq => ?_))
            obtain ⟨v15, rfl, rfl, rfl, h⟩ := hq
            refine r_istore (L2 := [(2, t), (2, a1), (0, x2), (0, x3), (0, x4), (0, v15), (0, x6), (0, x7), (0, x8)]) d_X2_makeBracket_172 (by decide) rfl rfl ?_
            refine x_iinc (x := x8) (L := [(2, t), (2, a1), (0, x2), (0, x3), (0, x4), (0, v15), (0, x6), (0, x7), (0, x8)]) d_X2_makeBracket_174 rfl (by decide) rfl (fun y16 ey16 => ?_)
            have h := h y16 ey16
            show WP _ _ _ _ _ _ _ _ [(2, t), (2, a1), (0, x2), (0, x3), (0, x4), (0, v15), (0, x6), (0, x7), (0, y16)] _ _ _ _
            refine r_goto (tgt := 73) d_X2_makeBracket_177 rfl ?_
            exact h
theorem v_X2_layTimesThree_0 {l : Launch} {d N : Nat} {Λ : Lay} {P : Int → Mem → Prop} {σ : Mem} {a1 a2 a3 a4 t t_first t_second t_term : Int} (o_t : Ob N Λ t 12 9) (f_t_first : (Λ t).2.2 4 = t_first) (o_t_first : Ob N Λ t_first 15 3) (f_t_term : (Λ t).2.2 8 = t_term) (o_t_term : Ob N Λ t_term 19 2) (f_t_second : (Λ t).2.2 5 = t_second) (o_t_second : Ob N Λ t_second 15 3) (o_a2 : Ob N Λ a2 15 3) (o_a1 : Ob N Λ a1 15 3) (o_a4 : Ob N Λ a4 15 3) (o_a3 : Ob N Λ a3 15 3) (h0d : 1 ≤ d)
    (h : (CV l mX5_empty (d - 1) [(2, t_first)] N Λ σ (fun σ1 => (CI l mX5_lay (d - 1) [(2, t_first), (1, (σ1 t_term 0)), (1, (σ1 t_term 1))] N Λ σ1 (fun v3 σ2 => (CV l mX5_empty (d - 1) [(2, t_second)] N Λ σ2 (fun σ4 => (CI l mX5_layProduct (d - 1) [(2, t_second), (2, t_first), (2, a2)] N Λ σ4 (fun v6 σ5 => ((¬ v6 = 0 → ((¬ v6 = 0 → ((¬ v6 = 0 → P v6 σ5) ∧ (v6 = 0 → (CI l mX5_laySum (d - 1) [(2, a1), (2, t_second), (0, 1)] N Λ σ5 (fun v8 σ7 => P v8 σ7))))) ∧ (v6 = 0 → (CV l mX5_empty (d - 1) [(2, t_second)] N Λ σ5 (fun σ9 => (CI l mX5_layProduct (d - 1) [(2, t_second), (2, t_first), (2, a4)] N Λ σ9 (fun v11 σ10 => ((¬ v11 = 0 → P v11 σ10) ∧ (v11 = 0 → (CI l mX5_laySum (d - 1) [(2, a1), (2, t_second), (0, 1)] N Λ σ10 (fun v13 σ12 => P v13 σ12))))))))))) ∧ (v6 = 0 → (CV l mX5_empty (d - 1) [(2, t_first)] N Λ σ5 (fun σ14 => (CI l mX5_layProduct (d - 1) [(2, t_first), (2, t_second), (2, a3)] N Λ σ14 (fun v16 σ15 => ((¬ v16 = 0 → ((¬ v16 = 0 → P v16 σ15) ∧ (v16 = 0 → (CI l mX5_laySum (d - 1) [(2, a1), (2, t_second), (0, 1)] N Λ σ15 (fun v18 σ17 => P v18 σ17))))) ∧ (v16 = 0 → (CV l mX5_empty (d - 1) [(2, t_second)] N Λ σ15 (fun σ19 => (CI l mX5_layProduct (d - 1) [(2, t_second), (2, t_first), (2, a4)] N Λ σ19 (fun v21 σ20 => ((¬ v21 = 0 → P v21 σ20) ∧ (v21 = 0 → (CI l mX5_laySum (d - 1) [(2, a1), (2, t_second), (0, 1)] N Λ σ20 (fun v23 σ22 => P v23 σ22))))))))))))))))))))))))) :
    WI l mX2_layTimesThree d P 0 [(2, t), (2, a1), (2, a2), (2, a3), (2, a4), (3, 0)] [] N Λ σ := by
  refine r_aload_n (x := t) d_X2_layTimesThree_0 rfl o_t.1 ?_
  refine r_getf (j := 4) (t := 2) (x := t_first) d_X2_layTimesThree_1 kX2 (by decide) fl_X2_29 o_t.1 o_t.2.1 o_t.2.2.1 o_t.2.2.2 rfl f_t_first ?_
  refine r_callV (Y2 := mX5_empty) (d := d - 1) (mc := 0) (ms := 0) (c := t_first) (As := []) (S := []) d_X2_layTimesThree_4 ok_mX5_empty ml_X2_71 rfl (rmc h0d (by decide)) rm00 (Nat.le_of_ble_eq_true rfl) rfl kX5 o_t_first.1 o_t_first.2.1 o_t_first.2.2.1 o_t_first.2.2.2 (MC.mono h (fun r N1 Λ1 σ1 hq => ?_))
  obtain ⟨rfl, rfl, rfl, h⟩ := hq
  refine r_aload_n (x := t) d_X2_layTimesThree_7 rfl o_t.1 ?_
  refine r_getf (j := 4) (t := 2) (x := t_first) d_X2_layTimesThree_8 kX2 (by decide) fl_X2_29 o_t.1 o_t.2.1 o_t.2.2.1 o_t.2.2.2 rfl f_t_first ?_
  refine r_aload_n (x := t) d_X2_layTimesThree_11 rfl o_t.1 ?_
  refine r_getf (j := 8) (t := 2) (x := t_term) d_X2_layTimesThree_12 kX2 (by decide) fl_X2_45 o_t.1 o_t.2.1 o_t.2.2.1 o_t.2.2.2 rfl f_t_term ?_
  refine r_getf (j := 0) (t := 1) (x := (σ1 t_term 0)) d_X2_layTimesThree_15 kX10 (by decide) fl_X2_101 o_t_term.1 o_t_term.2.1 o_t_term.2.2.1 o_t_term.2.2.2 rfl rfl ?_
  refine r_aload_n (x := t) d_X2_layTimesThree_18 rfl o_t.1 ?_
  refine r_getf (j := 8) (t := 2) (x := t_term) d_X2_layTimesThree_19 kX2 (by decide) fl_X2_45 o_t.1 o_t.2.1 o_t.2.2.1 o_t.2.2.2 rfl f_t_term ?_
  refine r_getf (j := 1) (t := 0) (x := (σ1 t_term 1)) d_X2_layTimesThree_22 kX10 (by decide) fl_X2_105 o_t_term.1 o_t_term.2.1 o_t_term.2.2.1 o_t_term.2.2.2 rfl rfl ?_
  refine r_i2l d_X2_layTimesThree_25 ?_
  refine r_callV (Y2 := mX5_lay) (d := d - 1) (mc := 0) (ms := 0) (c := t_first) (As := [(1, (σ1 t_term 0)), (1, (σ1 t_term 1))]) (S := []) d_X2_layTimesThree_26 ok_mX5_lay ml_X2_59 rfl (rmc h0d (by decide)) rm00 (Nat.le_of_ble_eq_true rfl) rfl kX5 o_t_first.1 o_t_first.2.1 o_t_first.2.2.1 o_t_first.2.2.2 (MC.mono h (fun r N1 Λ1 σ2 hq => ?_))
  obtain ⟨v3, rfl, rfl, rfl, h⟩ := hq
  refine r_pop d_X2_layTimesThree_29 rfl ?_
  refine r_aload_n (x := t) d_X2_layTimesThree_30 rfl o_t.1 ?_
  refine r_getf (j := 5) (t := 2) (x := t_second) d_X2_layTimesThree_31 kX2 (by decide) fl_X2_33 o_t.1 o_t.2.1 o_t.2.2.1 o_t.2.2.2 rfl f_t_second ?_
  refine r_callV (Y2 := mX5_empty) (d := d - 1) (mc := 0) (ms := 0) (c := t_second) (As := []) (S := []) d_X2_layTimesThree_34 ok_mX5_empty ml_X2_71 rfl (rmc h0d (by decide)) rm00 (Nat.le_of_ble_eq_true rfl) rfl kX5 o_t_second.1 o_t_second.2.1 o_t_second.2.2.1 o_t_second.2.2.2 (MC.mono h (fun r N1 Λ1 σ4 hq => ?_))
  obtain ⟨rfl, rfl, rfl, h⟩ := hq
  refine r_aload_n (x := t) d_X2_layTimesThree_37 rfl o_t.1 ?_
  refine r_getf (j := 5) (t := 2) (x := t_second) d_X2_layTimesThree_38 kX2 (by decide) fl_X2_33 o_t.1 o_t.2.1 o_t.2.2.1 o_t.2.2.2 rfl f_t_second ?_
  refine r_aload_n (x := t) d_X2_layTimesThree_41 rfl o_t.1 ?_
  refine r_getf (j := 4) (t := 2) (x := t_first) d_X2_layTimesThree_42 kX2 (by decide) fl_X2_29 o_t.1 o_t.2.1 o_t.2.2.1 o_t.2.2.2 rfl f_t_first ?_
  refine r_aload_n (x := a2) d_X2_layTimesThree_45 rfl o_a2.1 ?_
  refine r_callV (Y2 := mX5_layProduct) (d := d - 1) (mc := 0) (ms := 0) (c := t_second) (As := [(2, t_first), (2, a2)]) (S := []) d_X2_layTimesThree_46 ok_mX5_layProduct ml_X2_73 rfl (rmc h0d (by decide)) rm00 (Nat.le_of_ble_eq_true rfl) rfl kX5 o_t_second.1 o_t_second.2.1 o_t_second.2.2.1 o_t_second.2.2.2 (MC.mono h (fun r N1 Λ1 σ5 hq => ?_))
  obtain ⟨v6, rfl, rfl, rfl, h⟩ := hq
  refine r_istore (L2 := [(2, t), (2, a1), (2, a2), (2, a3), (2, a4), (0, v6)]) d_X2_layTimesThree_49 (by decide) rfl rfl ?_
  refine r_iload (x := v6) d_X2_layTimesThree_51 rfl ?_
  refine r_if_ne (tgt := 77) d_X2_layTimesThree_53 rfl (fun hc => ?_) (fun hc => ?_)
  · have h := h.1 hc
    refine r_iload (x := v6) d_X2_layTimesThree_77 rfl ?_
    refine r_if_ne (tgt := 104) d_X2_layTimesThree_79 rfl (fun hc => ?_) (fun hc => ?_)
    · have h := h.1 hc
      refine r_iload (x := v6) d_X2_layTimesThree_104 rfl ?_
      refine r_if_ne (tgt := 121) d_X2_layTimesThree_106 rfl (fun hc => ?_) (fun hc => ?_)
      · have h := h.1 hc
        refine r_iload (x := v6) d_X2_layTimesThree_121 rfl ?_
        exact r_iret d_X2_layTimesThree_123 rfl rfl (Nat.le_refl 0) (Nat.le_refl 0) ⟨_, rfl, rfl, rfl, h⟩
      · have h := h.2 hc
        refine r_aload_n (x := a1) d_X2_layTimesThree_109 rfl o_a1.1 ?_
        refine r_aload_n (x := t) d_X2_layTimesThree_110 rfl o_t.1 ?_
        refine r_getf (j := 5) (t := 2) (x := t_second) d_X2_layTimesThree_111 kX2 (by decide) fl_X2_33 o_t.1 o_t.2.1 o_t.2.2.1 o_t.2.2.2 rfl f_t_second ?_
        refine r_iconst (x := 1) d_X2_layTimesThree_114 ⟨by decide, by decide⟩ ?_
        refine r_callV (Y2 := mX5_laySum) (d := d - 1) (mc := 0) (ms := 0) (c := a1) (As := [(2, t_second), (0, 1)]) (S := []) d_X2_layTimesThree_115 ok_mX5_laySum ml_X2_77 rfl (rmc h0d (by decide)) rm00 (Nat.le_of_ble_eq_true rfl) rfl kX5 o_a1.1 o_a1.2.1 o_a1.2.2.1 o_a1.2.2.2 (MC.mono h (fun r N1 Λ1 σ7 hq => ?_))
        obtain ⟨v8, rfl, rfl, rfl, h⟩ := hq
        refine r_goto (tgt := 123) d_X2_layTimesThree_118 rfl ?_
        exact r_iret d_X2_layTimesThree_123 rfl rfl (Nat.le_refl 0) (Nat.le_refl 0) ⟨_, rfl, rfl, rfl, h⟩
    · have h := h.2 hc
      refine r_aload_n (x := t) d_X2_layTimesThree_82 rfl o_t.1 ?_
      refine r_getf (j := 5) (t := 2) (x := t_second) d_X2_layTimesThree_83 kX2 (by decide) fl_X2_33 o_t.1 o_t.2.1 o_t.2.2.1 o_t.2.2.2 rfl f_t_second ?_
      refine r_callV (Y2 := mX5_empty) (d := d - 1) (mc := 0) (ms := 0) (c := t_second) (As := []) (S := []) d_X2_layTimesThree_86 ok_mX5_empty ml_X2_71 rfl (rmc h0d (by decide)) rm00 (Nat.le_of_ble_eq_true rfl) rfl kX5 o_t_second.1 o_t_second.2.1 o_t_second.2.2.1 o_t_second.2.2.2 (MC.mono h (fun r N1 Λ1 σ9 hq => ?_))
      obtain ⟨rfl, rfl, rfl, h⟩ := hq
      refine r_aload_n (x := t) d_X2_layTimesThree_89 rfl o_t.1 ?_
      refine r_getf (j := 5) (t := 2) (x := t_second) d_X2_layTimesThree_90 kX2 (by decide) fl_X2_33 o_t.1 o_t.2.1 o_t.2.2.1 o_t.2.2.2 rfl f_t_second ?_
      refine r_aload_n (x := t) d_X2_layTimesThree_93 rfl o_t.1 ?_
      refine r_getf (j := 4) (t := 2) (x := t_first) d_X2_layTimesThree_94 kX2 (by decide) fl_X2_29 o_t.1 o_t.2.1 o_t.2.2.1 o_t.2.2.2 rfl f_t_first ?_
      refine r_aload (x := a4) d_X2_layTimesThree_97 rfl o_a4.1 ?_
      refine r_callV (Y2 := mX5_layProduct) (d := d - 1) (mc := 0) (ms := 0) (c := t_second) (As := [(2, t_first), (2, a4)]) (S := []) d_X2_layTimesThree_99 ok_mX5_layProduct ml_X2_73 rfl (rmc h0d (by decide)) rm00 (Nat.le_of_ble_eq_true rfl) rfl kX5 o_t_second.1 o_t_second.2.1 o_t_second.2.2.1 o_t_second.2.2.2 (MC.mono h (fun r N1 Λ1 σ10 hq => ?_))
      obtain ⟨v11, rfl, rfl, rfl, h⟩ := hq
      refine r_istore (L2 := [(2, t), (2, a1), (2, a2), (2, a3), (2, a4), (0, v11)]) d_X2_layTimesThree_102 (by decide) rfl rfl ?_
      refine r_iload (x := v11) d_X2_layTimesThree_104 rfl ?_
      refine r_if_ne (tgt := 121) d_X2_layTimesThree_106 rfl (fun hc => ?_) (fun hc => ?_)
      · have h := h.1 hc
        refine r_iload (x := v11) d_X2_layTimesThree_121 rfl ?_
        exact r_iret d_X2_layTimesThree_123 rfl rfl (Nat.le_refl 0) (Nat.le_refl 0) ⟨_, rfl, rfl, rfl, h⟩
      · have h := h.2 hc
        refine r_aload_n (x := a1) d_X2_layTimesThree_109 rfl o_a1.1 ?_
        refine r_aload_n (x := t) d_X2_layTimesThree_110 rfl o_t.1 ?_
        refine r_getf (j := 5) (t := 2) (x := t_second) d_X2_layTimesThree_111 kX2 (by decide) fl_X2_33 o_t.1 o_t.2.1 o_t.2.2.1 o_t.2.2.2 rfl f_t_second ?_
        refine r_iconst (x := 1) d_X2_layTimesThree_114 ⟨by decide, by decide⟩ ?_
        refine r_callV (Y2 := mX5_laySum) (d := d - 1) (mc := 0) (ms := 0) (c := a1) (As := [(2, t_second), (0, 1)]) (S := []) d_X2_layTimesThree_115 ok_mX5_laySum ml_X2_77 rfl (rmc h0d (by decide)) rm00 (Nat.le_of_ble_eq_true rfl) rfl kX5 o_a1.1 o_a1.2.1 o_a1.2.2.1 o_a1.2.2.2 (MC.mono h (fun r N1 Λ1 σ12 hq => ?_))
        obtain ⟨v13, rfl, rfl, rfl, h⟩ := hq
        refine r_goto (tgt := 123) d_X2_layTimesThree_118 rfl ?_
        exact r_iret d_X2_layTimesThree_123 rfl rfl (Nat.le_refl 0) (Nat.le_refl 0) ⟨_, rfl, rfl, rfl, h⟩
  · have h := h.2 hc
    refine r_aload_n (x := t) d_X2_layTimesThree_56 rfl o_t.1 ?_
    refine r_getf (j := 4) (t := 2) (x := t_first) d_X2_layTimesThree_57 kX2 (by decide) fl_X2_29 o_t.1 o_t.2.1 o_t.2.2.1 o_t.2.2.2 rfl f_t_first ?_
    refine r_callV (Y2 := mX5_empty) (d := d - 1) (mc := 0) (ms := 0) (c := t_first) (As := []) (S := []) d_X2_layTimesThree_60 ok_mX5_empty ml_X2_71 rfl (rmc h0d (by decide)) rm00 (Nat.le_of_ble_eq_true rfl) rfl kX5 o_t_first.1 o_t_first.2.1 o_t_first.2.2.1 o_t_first.2.2.2 (MC.mono h (fun r N1 Λ1 σ14 hq => ?_))
    obtain ⟨rfl, rfl, rfl, h⟩ := hq
    refine r_aload_n (x := t) d_X2_layTimesThree_63 rfl o_t.1 ?_
    refine r_getf (j := 4) (t := 2) (x := t_first) d_X2_layTimesThree_64 kX2 (by decide) fl_X2_29 o_t.1 o_t.2.1 o_t.2.2.1 o_t.2.2.2 rfl f_t_first ?_
    refine r_aload_n (x := t) d_X2_layTimesThree_67 rfl o_t.1 ?_
    refine r_getf (j := 5) (t := 2) (x := t_second) d_X2_layTimesThree_68 kX2 (by decide) fl_X2_33 o_t.1 o_t.2.1 o_t.2.2.1 o_t.2.2.2 rfl f_t_second ?_
    refine r_aload_n (x := a3) d_X2_layTimesThree_71 rfl o_a3.1 ?_
    refine r_callV (Y2 := mX5_layProduct) (d := d - 1) (mc := 0) (ms := 0) (c := t_first) (As := [(2, t_second), (2, a3)]) (S := []) d_X2_layTimesThree_72 ok_mX5_layProduct ml_X2_73 rfl (rmc h0d (by decide)) rm00 (Nat.le_of_ble_eq_true rfl) rfl kX5 o_t_first.1 o_t_first.2.1 o_t_first.2.2.1 o_t_first.2.2.2 (MC.mono h (fun r N1 Λ1 σ15 hq => ?_))
    obtain ⟨v16, rfl, rfl, rfl, h⟩ := hq
    refine r_istore (L2 := [(2, t), (2, a1), (2, a2), (2, a3), (2, a4), (0, v16)]) d_X2_layTimesThree_75 (by decide) rfl rfl ?_
    refine r_iload (x := v16) d_X2_layTimesThree_77 rfl ?_
    refine r_if_ne (tgt := 104) d_X2_layTimesThree_79 rfl (fun hc => ?_) (fun hc => ?_)
    · have h := h.1 hc
      refine r_iload (x := v16) d_X2_layTimesThree_104 rfl ?_
      refine r_if_ne (tgt := 121) d_X2_layTimesThree_106 rfl (fun hc => ?_) (fun hc => ?_)
      · have h := h.1 hc
        refine r_iload (x := v16) d_X2_layTimesThree_121 rfl ?_
        exact r_iret d_X2_layTimesThree_123 rfl rfl (Nat.le_refl 0) (Nat.le_refl 0) ⟨_, rfl, rfl, rfl, h⟩
      · have h := h.2 hc
        refine r_aload_n (x := a1) d_X2_layTimesThree_109 rfl o_a1.1 ?_
        refine r_aload_n (x := t) d_X2_layTimesThree_110 rfl o_t.1 ?_
        refine r_getf (j := 5) (t := 2) (x := t_second) d_X2_layTimesThree_111 kX2 (by decide) fl_X2_33 o_t.1 o_t.2.1 o_t.2.2.1 o_t.2.2.2 rfl f_t_second ?_
        refine r_iconst (x := 1) d_X2_layTimesThree_114 ⟨by decide, by decide⟩ ?_
        refine r_callV (Y2 := mX5_laySum) (d := d - 1) (mc := 0) (ms := 0) (c := a1) (As := [(2, t_second), (0, 1)]) (S := []) d_X2_layTimesThree_115 ok_mX5_laySum ml_X2_77 rfl (rmc h0d (by decide)) rm00 (Nat.le_of_ble_eq_true rfl) rfl kX5 o_a1.1 o_a1.2.1 o_a1.2.2.1 o_a1.2.2.2 (MC.mono h (fun r N1 Λ1 σ17 hq => ?_))
        obtain ⟨v18, rfl, rfl, rfl, h⟩ := hq
        refine r_goto (tgt := 123) d_X2_layTimesThree_118 rfl ?_
        exact r_iret d_X2_layTimesThree_123 rfl rfl (Nat.le_refl 0) (Nat.le_refl 0) ⟨_, rfl, rfl, rfl, h⟩
    · have h := h.2 hc
      refine r_aload_n (x := t) d_X2_layTimesThree_82 rfl o_t.1 ?_
      refine r_getf (j := 5) (t := 2) (x := t_second) d_X2_layTimesThree_83 kX2 (by decide) fl_X2_33 o_t.1 o_t.2.1 o_t.2.2.1 o_t.2.2.2 rfl f_t_second ?_
      refine r_callV (Y2 := mX5_empty) (d := d - 1) (mc := 0) (ms := 0) (c := t_second) (As := []) (S := []) d_X2_layTimesThree_86 ok_mX5_empty ml_X2_71 rfl (rmc h0d (by decide)) rm00 (Nat.le_of_ble_eq_true rfl) rfl kX5 o_t_second.1 o_t_second.2.1 o_t_second.2.2.1 o_t_second.2.2.2 (MC.mono h (fun r N1 Λ1 σ19 hq => ?_))
      obtain ⟨rfl, rfl, rfl, h⟩ := hq
      refine r_aload_n (x := t) d_X2_layTimesThree_89 rfl o_t.1 ?_
      refine r_getf (j := 5) (t := 2) (x := t_second) d_X2_layTimesThree_90 kX2 (by decide) fl_X2_33 o_t.1 o_t.2.1 o_t.2.2.1 o_t.2.2.2 rfl f_t_second ?_
      refine r_aload_n (x := t) d_X2_layTimesThree_93 rfl o_t.1 ?_
      refine r_getf (j := 4) (t := 2) (x := t_first) d_X2_layTimesThree_94 kX2 (by decide) fl_X2_29 o_t.1 o_t.2.1 o_t.2.2.1 o_t.2.2.2 rfl f_t_first ?_
      refine r_aload (x := a4) d_X2_layTimesThree_97 rfl o_a4.1 ?_
      refine r_callV (Y2 := mX5_layProduct) (d := d - 1) (mc := 0) (ms := 0) (c := t_second) (As := [(2, t_first), (2, a4)]) (S := []) d_X2_layTimesThree_99 ok_mX5_layProduct ml_X2_73 rfl (rmc h0d (by decide)) rm00 (Nat.le_of_ble_eq_true rfl) rfl kX5 o_t_second.1 o_t_second.2.1 o_t_second.2.2.1 o_t_second.2.2.2 (MC.mono h (fun r N1 Λ1 σ20 hq => ?_))
      obtain ⟨v21, rfl, rfl, rfl, h⟩ := hq
      refine r_istore (L2 := [(2, t), (2, a1), (2, a2), (2, a3), (2, a4), (0, v21)]) d_X2_layTimesThree_102 (by decide) rfl rfl ?_
      refine r_iload (x := v21) d_X2_layTimesThree_104 rfl ?_
      refine r_if_ne (tgt := 121) d_X2_layTimesThree_106 rfl (fun hc => ?_) (fun hc => ?_)
      · have h := h.1 hc
        refine r_iload (x := v21) d_X2_layTimesThree_121 rfl ?_
        exact r_iret d_X2_layTimesThree_123 rfl rfl (Nat.le_refl 0) (Nat.le_refl 0) ⟨_, rfl, rfl, rfl, h⟩
      · have h := h.2 hc
        refine r_aload_n (x := a1) d_X2_layTimesThree_109 rfl o_a1.1 ?_
        refine r_aload_n (x := t) d_X2_layTimesThree_110 rfl o_t.1 ?_
        refine r_getf (j := 5) (t := 2) (x := t_second) d_X2_layTimesThree_111 kX2 (by decide) fl_X2_33 o_t.1 o_t.2.1 o_t.2.2.1 o_t.2.2.2 rfl f_t_second ?_
        refine r_iconst (x := 1) d_X2_layTimesThree_114 ⟨by decide, by decide⟩ ?_
        refine r_callV (Y2 := mX5_laySum) (d := d - 1) (mc := 0) (ms := 0) (c := a1) (As := [(2, t_second), (0, 1)]) (S := []) d_X2_layTimesThree_115 ok_mX5_laySum ml_X2_77 rfl (rmc h0d (by decide)) rm00 (Nat.le_of_ble_eq_true rfl) rfl kX5 o_a1.1 o_a1.2.1 o_a1.2.2.1 o_a1.2.2.2 (MC.mono h (fun r N1 Λ1 σ22 hq => ?_))
        obtain ⟨v23, rfl, rfl, rfl, h⟩ := hq
        refine r_goto (tgt := 123) d_X2_layTimesThree_118 rfl ?_
        exact r_iret d_X2_layTimesThree_123 rfl rfl (Nat.le_refl 0) (Nat.le_refl 0) ⟨_, rfl, rfl, rfl, h⟩
