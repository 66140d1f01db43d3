theorem d_X12_figure_0 : DC mX12_figure 0 (.aload_n 0) 1 1 := ⟨by decide +kernel, rfl⟩
theorem d_X12_figure_1 : DC mX12_figure 1 (.iconst 0) 1 2 := ⟨by decide +kernel, rfl⟩
theorem d_X12_figure_2 : DC mX12_figure 2 (.putfield 1) 3 5 := ⟨by decide +kernel, rfl⟩
theorem d_X12_figure_5 : DC mX12_figure 5 (.aload_n 0) 1 6 := ⟨by decide +kernel, rfl⟩
theorem d_X12_figure_6 : DC mX12_figure 6 (.iload_n 1) 1 7 := ⟨by decide +kernel, rfl⟩
theorem d_X12_figure_7 : DC mX12_figure 7 (.iload_n 2) 1 8 := ⟨by decide +kernel, rfl⟩
theorem d_X12_figure_8 : DC mX12_figure 8 (.invokevirtual 297) 3 11 := ⟨by decide +kernel, rfl⟩
theorem d_X12_figure_11 : DC mX12_figure 11 (.istore_n 3) 1 12 := ⟨by decide +kernel, rfl⟩
theorem d_X12_figure_12 : DC mX12_figure 12 (.iload_n 3) 1 13 := ⟨by decide +kernel, rfl⟩
theorem d_X12_figure_13 : DC mX12_figure 13 (.ifCond .eq 5) 3 16 := ⟨by decide +kernel, rfl⟩
theorem d_X12_figure_16 : DC mX12_figure 16 (.iload_n 3) 1 17 := ⟨by decide +kernel, rfl⟩
theorem d_X12_figure_17 : DC mX12_figure 17 (.ireturn) 1 18 := ⟨by decide +kernel, rfl⟩
theorem d_X12_figure_18 : DC mX12_figure 18 (.aload_n 0) 1 19 := ⟨by decide +kernel, rfl⟩
theorem d_X12_figure_19 : DC mX12_figure 19 (.invokevirtual 331) 3 22 := ⟨by decide +kernel, rfl⟩
theorem d_X12_figure_22 : DC mX12_figure 22 (.aload_n 0) 1 23 := ⟨by decide +kernel, rfl⟩
theorem d_X12_figure_23 : DC mX12_figure 23 (.getfield 261) 3 26 := ⟨by decide +kernel, rfl⟩
theorem d_X12_figure_26 : DC mX12_figure 26 (.ifCond .eq 15) 3 29 := ⟨by decide +kernel, rfl⟩
theorem d_X12_figure_29 : DC mX12_figure 29 (.aload_n 0) 1 30 := ⟨by decide +kernel, rfl⟩
theorem d_X12_figure_30 : DC mX12_figure 30 (.bipush (-30)) 2 32 := ⟨by decide +kernel, rfl⟩
theorem d_X12_figure_32 : DC mX12_figure 32 (.aload_n 0) 1 33 := ⟨by decide +kernel, rfl⟩
theorem d_X12_figure_33 : DC mX12_figure 33 (.getfield 261) 3 36 := ⟨by decide +kernel, rfl⟩
theorem d_X12_figure_36 : DC mX12_figure 36 (.isub) 1 37 := ⟨by decide +kernel, rfl⟩
theorem d_X12_figure_37 : DC mX12_figure 37 (.invokevirtual 218) 3 40 := ⟨by decide +kernel, rfl⟩
theorem d_X12_figure_40 : DC mX12_figure 40 (.ireturn) 1 41 := ⟨by decide +kernel, rfl⟩
theorem d_X12_figure_41 : DC mX12_figure 41 (.aload_n 0) 1 42 := ⟨by decide +kernel, rfl⟩
theorem d_X12_figure_42 : DC mX12_figure 42 (.invokevirtual 202) 3 45 := ⟨by decide +kernel, rfl⟩
theorem d_X12_figure_45 : DC mX12_figure 45 (.aload_n 0) 1 46 := ⟨by decide +kernel, rfl⟩
theorem d_X12_figure_46 : DC mX12_figure 46 (.iconst 0) 1 47 := ⟨by decide +kernel, rfl⟩
theorem d_X12_figure_47 : DC mX12_figure 47 (.putfield 255) 3 50 := ⟨by decide +kernel, rfl⟩
theorem d_X12_figure_50 : DC mX12_figure 50 (.iconst 0) 1 51 := ⟨by decide +kernel, rfl⟩
theorem d_X12_figure_51 : DC mX12_figure 51 (.istore 4) 2 53 := ⟨by decide +kernel, rfl⟩
theorem d_X12_figure_53 : DC mX12_figure 53 (.iload 4) 2 55 := ⟨by decide +kernel, rfl⟩
theorem d_X12_figure_55 : DC mX12_figure 55 (.iconst 3) 1 56 := ⟨by decide +kernel, rfl⟩
theorem d_X12_figure_56 : DC mX12_figure 56 (.if_icmp .ge 16) 3 59 := ⟨by decide +kernel, rfl⟩
theorem d_X12_figure_59 : DC mX12_figure 59 (.aload_n 0) 1 60 := ⟨by decide +kernel, rfl⟩
theorem d_X12_figure_60 : DC mX12_figure 60 (.iload 4) 2 62 := ⟨by decide +kernel, rfl⟩
theorem d_X12_figure_62 : DC mX12_figure 62 (.iconst 3) 1 63 := ⟨by decide +kernel, rfl⟩
theorem d_X12_figure_63 : DC mX12_figure 63 (.invokevirtual 309) 3 66 := ⟨by decide +kernel, rfl⟩
theorem d_X12_figure_66 : DC mX12_figure 66 (.iinc 4 1) 3 69 := ⟨by decide +kernel, rfl⟩
theorem d_X12_figure_69 : DC mX12_figure 69 (.goto (-16)) 3 72 := ⟨by decide +kernel, rfl⟩
theorem d_X12_figure_72 : DC mX12_figure 72 (.aload_n 0) 1 73 := ⟨by decide +kernel, rfl⟩
theorem d_X12_figure_73 : DC mX12_figure 73 (.getfield 102) 3 76 := ⟨by decide +kernel, rfl⟩
theorem d_X12_figure_76 : DC mX12_figure 76 (.ifCond .ne 11) 3 79 := ⟨by decide +kernel, rfl⟩
theorem d_X12_figure_79 : DC mX12_figure 79 (.aload_n 0) 1 80 := ⟨by decide +kernel, rfl⟩
theorem d_X12_figure_80 : DC mX12_figure 80 (.iconst 0) 1 81 := ⟨by decide +kernel, rfl⟩
theorem d_X12_figure_81 : DC mX12_figure 81 (.iconst 1) 1 82 := ⟨by decide +kernel, rfl⟩
theorem d_X12_figure_82 : DC mX12_figure 82 (.iconst 2) 1 83 := ⟨by decide +kernel, rfl⟩
theorem d_X12_figure_83 : DC mX12_figure 83 (.iconst 0) 1 84 := ⟨by decide +kernel, rfl⟩
theorem d_X12_figure_84 : DC mX12_figure 84 (.invokevirtual 315) 3 87 := ⟨by decide +kernel, rfl⟩
theorem d_X12_figure_87 : DC mX12_figure 87 (.aload_n 0) 1 88 := ⟨by decide +kernel, rfl⟩
theorem d_X12_figure_88 : DC mX12_figure 88 (.iload_n 1) 1 89 := ⟨by decide +kernel, rfl⟩
theorem d_X12_figure_89 : DC mX12_figure 89 (.invokevirtual 228) 3 92 := ⟨by decide +kernel, rfl⟩
theorem d_X12_figure_92 : DC mX12_figure 92 (.ireturn) 1 93 := ⟨by decide +kernel, rfl⟩
theorem d_X12_terms_0 : DC mX12_terms 0 (.aload_n 0) 1 1 := ⟨by decide +kernel, rfl⟩
theorem d_X12_terms_1 : DC mX12_terms 1 (.iconst 0) 1 2 := ⟨by decide +kernel, rfl⟩
theorem d_X12_terms_2 : DC mX12_terms 2 (.putfield 1) 3 5 := ⟨by decide +kernel, rfl⟩
theorem d_X12_terms_5 : DC mX12_terms 5 (.iload_n 1) 1 6 := ⟨by decide +kernel, rfl⟩
theorem d_X12_terms_6 : DC mX12_terms 6 (.invokestatic 199) 3 9 := ⟨by decide +kernel, rfl⟩
theorem d_X12_terms_9 : DC mX12_terms 9 (.ifCond .eq 16) 3 12 := ⟨by decide +kernel, rfl⟩
theorem d_X12_terms_12 : DC mX12_terms 12 (.aload_n 0) 1 13 := ⟨by decide +kernel, rfl⟩
theorem d_X12_terms_13 : DC mX12_terms 13 (.getfield 20) 3 16 := ⟨by decide +kernel, rfl⟩
theorem d_X12_terms_16 : DC mX12_terms 16 (.sipush 161) 3 19 := ⟨by decide +kernel, rfl⟩
theorem d_X12_terms_19 : DC mX12_terms 19 (.iload_n 1) 1 20 := ⟨by decide +kernel, rfl⟩
theorem d_X12_terms_20 : DC mX12_terms 20 (.imul) 1 21 := ⟨by decide +kernel, rfl⟩
theorem d_X12_terms_21 : DC mX12_terms 21 (.iaload) 1 22 := ⟨by decide +kernel, rfl⟩
theorem d_X12_terms_22 : DC mX12_terms 22 (.goto 5) 3 25 := ⟨by decide +kernel, rfl⟩
theorem d_X12_terms_25 : DC mX12_terms 25 (.bipush (-2)) 2 27 := ⟨by decide +kernel, rfl⟩
theorem d_X12_terms_27 : DC mX12_terms 27 (.ireturn) 1 28 := ⟨by decide +kernel, rfl⟩
theorem d_X12_term__0 : DC mX12_term_ 0 (.aload_n 0) 1 1 := ⟨by decide +kernel, rfl⟩
theorem d_X12_term__1 : DC mX12_term_ 1 (.iconst 0) 1 2 := ⟨by decide +kernel, rfl⟩
theorem d_X12_term__2 : DC mX12_term_ 2 (.putfield 1) 3 5 := ⟨by decide +kernel, rfl⟩
theorem d_X12_term__5 : DC mX12_term_ 5 (.iload_n 1) 1 6 := ⟨by decide +kernel, rfl⟩
theorem d_X12_term__6 : DC mX12_term_ 6 (.invokestatic 199) 3 9 := ⟨by decide +kernel, rfl⟩
theorem d_X12_term__9 : DC mX12_term_ 9 (.ifCond .eq 25) 3 12 := ⟨by decide +kernel, rfl⟩
theorem d_X12_term__12 : DC mX12_term_ 12 (.iload_n 2) 1 13 := ⟨by decide +kernel, rfl⟩
theorem d_X12_term__13 : DC mX12_term_ 13 (.i2l) 1 14 := ⟨by decide +kernel, rfl⟩
theorem d_X12_term__14 : DC mX12_term_ 14 (.lconst 0) 1 15 := ⟨by decide +kernel, rfl⟩
theorem d_X12_term__15 : DC mX12_term_ 15 (.aload_n 0) 1 16 := ⟨by decide +kernel, rfl⟩
theorem d_X12_term__16 : DC mX12_term_ 16 (.getfield 20) 3 19 := ⟨by decide +kernel, rfl⟩
theorem d_X12_term__19 : DC mX12_term_ 19 (.sipush 161) 3 22 := ⟨by decide +kernel, rfl⟩
theorem d_X12_term__22 : DC mX12_term_ 22 (.iload_n 1) 1 23 := ⟨by decide +kernel, rfl⟩
theorem d_X12_term__23 : DC mX12_term_ 23 (.imul) 1 24 := ⟨by decide +kernel, rfl⟩
theorem d_X12_term__24 : DC mX12_term_ 24 (.iaload) 1 25 := ⟨by decide +kernel, rfl⟩
theorem d_X12_term__25 : DC mX12_term_ 25 (.iconst 1) 1 26 := ⟨by decide +kernel, rfl⟩
theorem d_X12_term__26 : DC mX12_term_ 26 (.isub) 1 27 := ⟨by decide +kernel, rfl⟩
theorem d_X12_term__27 : DC mX12_term_ 27 (.i2l) 1 28 := ⟨by decide +kernel, rfl⟩
theorem d_X12_term__28 : DC mX12_term_ 28 (.invokestatic 91) 3 31 := ⟨by decide +kernel, rfl⟩
theorem d_X12_term__31 : DC mX12_term_ 31 (.ifCond .ne 7) 3 34 := ⟨by decide +kernel, rfl⟩
theorem d_X12_term__34 : DC mX12_term_ 34 (.ldc_w 334) 3 37 := ⟨by decide +kernel, rfl⟩
theorem d_X12_term__37 : DC mX12_term_ 37 (.ireturn) 1 38 := ⟨by decide +kernel, rfl⟩
theorem d_X12_term__38 : DC mX12_term_ 38 (.aload_n 0) 1 39 := ⟨by decide +kernel, rfl⟩
theorem d_X12_term__39 : DC mX12_term_ 39 (.getfield 20) 3 42 := ⟨by decide +kernel, rfl⟩
theorem d_X12_term__42 : DC mX12_term_ 42 (.sipush 161) 3 45 := ⟨by decide +kernel, rfl⟩
theorem d_X12_term__45 : DC mX12_term_ 45 (.iload_n 1) 1 46 := ⟨by decide +kernel, rfl⟩
theorem d_X12_term__46 : DC mX12_term_ 46 (.imul) 1 47 := ⟨by decide +kernel, rfl⟩
theorem d_X12_term__47 : DC mX12_term_ 47 (.iconst 1) 1 48 := ⟨by decide +kernel, rfl⟩
theorem d_X12_term__48 : DC mX12_term_ 48 (.iadd) 1 49 := ⟨by decide +kernel, rfl⟩
theorem d_X12_term__49 : DC mX12_term_ 49 (.iconst 2) 1 50 := ⟨by decide +kernel, rfl⟩
theorem d_X12_term__50 : DC mX12_term_ 50 (.iload_n 2) 1 51 := ⟨by decide +kernel, rfl⟩
theorem d_X12_term__51 : DC mX12_term_ 51 (.imul) 1 52 := ⟨by decide +kernel, rfl⟩
theorem d_X12_term__52 : DC mX12_term_ 52 (.iadd) 1 53 := ⟨by decide +kernel, rfl⟩
theorem d_X12_term__53 : DC mX12_term_ 53 (.iaload) 1 54 := ⟨by decide +kernel, rfl⟩
theorem d_X12_term__54 : DC mX12_term_ 54 (.istore 4) 2 56 := ⟨by decide +kernel, rfl⟩
theorem d_X12_term__56 : DC mX12_term_ 56 (.aload_n 0) 1 57 := ⟨by decide +kernel, rfl⟩
theorem d_X12_term__57 : DC mX12_term_ 57 (.iload 4) 2 59 := ⟨by decide +kernel, rfl⟩
theorem d_X12_term__59 : DC mX12_term_ 59 (.invokevirtual 171) 3 62 := ⟨by decide +kernel, rfl⟩
theorem d_X12_term__62 : DC mX12_term_ 62 (.istore 5) 2 64 := ⟨by decide +kernel, rfl⟩
theorem d_X12_term__64 : DC mX12_term_ 64 (.iload_n 3) 1 65 := ⟨by decide +kernel, rfl⟩
theorem d_X12_term__65 : DC mX12_term_ 65 (.i2l) 1 66 := ⟨by decide +kernel, rfl⟩
theorem d_X12_term__66 : DC mX12_term_ 66 (.ldc2_w 335) 3 69 := ⟨by decide +kernel, rfl⟩
theorem d_X12_term__69 : DC mX12_term_ 69 (.ldc2_w 337) 3 72 := ⟨by decide +kernel, rfl⟩
theorem d_X12_term__72 : DC mX12_term_ 72 (.invokestatic 91) 3 75 := ⟨by decide +kernel, rfl⟩
theorem d_X12_term__75 : DC mX12_term_ 75 (.ifCond .eq 47) 3 78 := ⟨by decide +kernel, rfl⟩
theorem d_X12_term__78 : DC mX12_term_ 78 (.iload_n 3) 1 79 := ⟨by decide +kernel, rfl⟩
theorem d_X12_term__79 : DC mX12_term_ 79 (.bipush 10) 2 81 := ⟨by decide +kernel, rfl⟩
theorem d_X12_term__81 : DC mX12_term_ 81 (.isub) 1 82 := ⟨by decide +kernel, rfl⟩
theorem d_X12_term__82 : DC mX12_term_ 82 (.iconst 3) 1 83 := ⟨by decide +kernel, rfl⟩
theorem d_X12_term__83 : DC mX12_term_ 83 (.idiv) 1 84 := ⟨by decide +kernel, rfl⟩
theorem d_X12_term__84 : DC mX12_term_ 84 (.istore 6) 2 86 := ⟨by decide +kernel, rfl⟩
theorem d_X12_term__86 : DC mX12_term_ 86 (.iload 6) 2 88 := ⟨by decide +kernel, rfl⟩
theorem d_X12_term__88 : DC mX12_term_ 88 (.iload 4) 2 90 := ⟨by decide +kernel, rfl⟩
theorem d_X12_term__90 : DC mX12_term_ 90 (.invokestatic 138) 3 93 := ⟨by decide +kernel, rfl⟩
theorem d_X12_term__93 : DC mX12_term_ 93 (.if_icmp .ge 27) 3 96 := ⟨by decide +kernel, rfl⟩
theorem d_X12_term__96 : DC mX12_term_ 96 (.aload_n 0) 1 97 := ⟨by decide +kernel, rfl⟩
theorem d_X12_term__97 : DC mX12_term_ 97 (.getfield 17) 3 100 := ⟨by decide +kernel, rfl⟩
theorem d_X12_term__100 : DC mX12_term_ 100 (.iconst 3) 1 101 := ⟨by decide +kernel, rfl⟩
theorem d_X12_term__101 : DC mX12_term_ 101 (.iload 4) 2 103 := ⟨by decide +kernel, rfl⟩
theorem d_X12_term__103 : DC mX12_term_ 103 (.iload 6) 2 105 := ⟨by decide +kernel, rfl⟩
theorem d_X12_term__105 : DC mX12_term_ 105 (.invokestatic 135) 3 108 := ⟨by decide +kernel, rfl⟩
theorem d_X12_term__108 : DC mX12_term_ 108 (.imul) 1 109 := ⟨by decide +kernel, rfl⟩
theorem d_X12_term__109 : DC mX12_term_ 109 (.iload_n 3) 1 110 := ⟨by decide +kernel, rfl⟩
theorem d_X12_term__110 : DC mX12_term_ 110 (.bipush 10) 2 112 := ⟨by decide +kernel, rfl⟩
theorem d_X12_term__112 : DC mX12_term_ 112 (.isub) 1 113 := ⟨by decide +kernel, rfl⟩
theorem d_X12_term__113 : DC mX12_term_ 113 (.iconst 3) 1 114 := ⟨by decide +kernel, rfl⟩
theorem d_X12_term__114 : DC mX12_term_ 114 (.irem) 1 115 := ⟨by decide +kernel, rfl⟩
theorem d_X12_term__115 : DC mX12_term_ 115 (.iadd) 1 116 := ⟨by decide +kernel, rfl⟩
theorem d_X12_term__116 : DC mX12_term_ 116 (.iaload) 1 117 := ⟨by decide +kernel, rfl⟩
theorem d_X12_term__117 : DC mX12_term_ 117 (.goto 4) 3 120 := ⟨by decide +kernel, rfl⟩
theorem d_X12_term__120 : DC mX12_term_ 120 (.iconst (-1)) 1 121 := ⟨by decide +kernel, rfl⟩
theorem d_X12_term__121 : DC mX12_term_ 121 (.ireturn) 1 122 := ⟨by decide +kernel, rfl⟩
theorem d_X12_term__122 : DC mX12_term_ 122 (.iload_n 3) 1 123 := ⟨by decide +kernel, rfl⟩
theorem d_X12_term__123 : DC mX12_term_ 123 (.tableswitch 102 0 4 #[33, 50, 56, 68, 71]) 33 156 := ⟨by decide +kernel, rfl⟩
theorem d_X12_term__156 : DC mX12_term_ 156 (.aload_n 0) 1 157 := ⟨by decide +kernel, rfl⟩
theorem d_X12_term__157 : DC mX12_term_ 157 (.getfield 20) 3 160 := ⟨by decide +kernel, rfl⟩
theorem d_X12_term__160 : DC mX12_term_ 160 (.sipush 161) 3 163 := ⟨by decide +kernel, rfl⟩
theorem d_X12_term__163 : DC mX12_term_ 163 (.iload_n 1) 1 164 := ⟨by decide +kernel, rfl⟩
theorem d_X12_term__164 : DC mX12_term_ 164 (.imul) 1 165 := ⟨by decide +kernel, rfl⟩
theorem d_X12_term__165 : DC mX12_term_ 165 (.iconst 2) 1 166 := ⟨by decide +kernel, rfl⟩
theorem d_X12_term__166 : DC mX12_term_ 166 (.iadd) 1 167 := ⟨by decide +kernel, rfl⟩
theorem d_X12_term__167 : DC mX12_term_ 167 (.iconst 2) 1 168 := ⟨by decide +kernel, rfl⟩
theorem d_X12_term__168 : DC mX12_term_ 168 (.iload_n 2) 1 169 := ⟨by decide +kernel, rfl⟩
theorem d_X12_term__169 : DC mX12_term_ 169 (.imul) 1 170 := ⟨by decide +kernel, rfl⟩
theorem d_X12_term__170 : DC mX12_term_ 170 (.iadd) 1 171 := ⟨by decide +kernel, rfl⟩
theorem d_X12_term__171 : DC mX12_term_ 171 (.iaload) 1 172 := ⟨by decide +kernel, rfl⟩
theorem d_X12_term__172 : DC mX12_term_ 172 (.ireturn) 1 173 := ⟨by decide +kernel, rfl⟩
theorem d_X12_term__173 : DC mX12_term_ 173 (.iload 4) 2 175 := ⟨by decide +kernel, rfl⟩
theorem d_X12_term__175 : DC mX12_term_ 175 (.invokestatic 138) 3 178 := ⟨by decide +kernel, rfl⟩
theorem d_X12_term__178 : DC mX12_term_ 178 (.ireturn) 1 179 := ⟨by decide +kernel, rfl⟩
theorem d_X12_term__179 : DC mX12_term_ 179 (.iload 5) 2 181 := ⟨by decide +kernel, rfl⟩
theorem d_X12_term__181 : DC mX12_term_ 181 (.iconst (-1)) 1 182 := ⟨by decide +kernel, rfl⟩
theorem d_X12_term__182 : DC mX12_term_ 182 (.if_icmp .ne 7) 3 185 := ⟨by decide +kernel, rfl⟩
theorem d_X12_term__185 : DC mX12_term_ 185 (.iconst 1) 1 186 := ⟨by decide +kernel, rfl⟩
theorem d_X12_term__186 : DC mX12_term_ 186 (.goto 4) 3 189 := ⟨by decide +kernel, rfl⟩
theorem d_X12_term__189 : DC mX12_term_ 189 (.iconst 0) 1 190 := ⟨by decide +kernel, rfl⟩
theorem d_X12_term__190 : DC mX12_term_ 190 (.ireturn) 1 191 := ⟨by decide +kernel, rfl⟩
theorem d_X12_term__191 : DC mX12_term_ 191 (.iload 5) 2 193 := ⟨by decide +kernel, rfl⟩
theorem d_X12_term__193 : DC mX12_term_ 193 (.ireturn) 1 194 := ⟨by decide +kernel, rfl⟩
theorem d_X12_term__194 : DC mX12_term_ 194 (.iload 5) 2 196 := ⟨by decide +kernel, rfl⟩
theorem d_X12_term__196 : DC mX12_term_ 196 (.iconst (-1)) 1 197 := ⟨by decide +kernel, rfl⟩
theorem d_X12_term__197 : DC mX12_term_ 197 (.if_icmp .ne 7) 3 200 := ⟨by decide +kernel, rfl⟩
theorem d_X12_term__200 : DC mX12_term_ 200 (.iconst (-1)) 1 201 := ⟨by decide +kernel, rfl⟩
theorem d_X12_term__201 : DC mX12_term_ 201 (.goto 23) 3 204 := ⟨by decide +kernel, rfl⟩
theorem d_X12_term__204 : DC mX12_term_ 204 (.aload_n 0) 1 205 := ⟨by decide +kernel, rfl⟩
theorem d_X12_term__205 : DC mX12_term_ 205 (.iload 4) 2 207 := ⟨by decide +kernel, rfl⟩
theorem d_X12_term__207 : DC mX12_term_ 207 (.iload 5) 2 209 := ⟨by decide +kernel, rfl⟩
theorem d_X12_term__209 : DC mX12_term_ 209 (.invokestatic 135) 3 212 := ⟨by decide +kernel, rfl⟩
theorem d_X12_term__212 : DC mX12_term_ 212 (.iload 4) 2 214 := ⟨by decide +kernel, rfl⟩
theorem d_X12_term__214 : DC mX12_term_ 214 (.iload 5) 2 216 := ⟨by decide +kernel, rfl⟩
theorem d_X12_term__216 : DC mX12_term_ 216 (.iconst 1) 1 217 := ⟨by decide +kernel, rfl⟩
theorem d_X12_term__217 : DC mX12_term_ 217 (.iadd) 1 218 := ⟨by decide +kernel, rfl⟩
theorem d_X12_term__218 : DC mX12_term_ 218 (.invokestatic 135) 3 221 := ⟨by decide +kernel, rfl⟩
theorem d_X12_term__221 : DC mX12_term_ 221 (.invokevirtual 151) 3 224 := ⟨by decide +kernel, rfl⟩
theorem d_X12_term__224 : DC mX12_term_ 224 (.ireturn) 1 225 := ⟨by decide +kernel, rfl⟩
theorem d_X12_term__225 : DC mX12_term_ 225 (.ldc_w 334) 3 228 := ⟨by decide +kernel, rfl⟩
theorem d_X12_term__228 : DC mX12_term_ 228 (.ireturn) 1 229 := ⟨by decide +kernel, rfl⟩
theorem d_X12_keyOn_0 : DC mX12_keyOn 0 (.aload_n 0) 1 1 := ⟨by decide +kernel, rfl⟩
theorem d_X12_keyOn_1 : DC mX12_keyOn 1 (.sipush 161) 3 4 := ⟨by decide +kernel, rfl⟩
theorem d_X12_keyOn_4 : DC mX12_keyOn 4 (.iload_n 1) 1 5 := ⟨by decide +kernel, rfl⟩
theorem d_X12_keyOn_5 : DC mX12_keyOn 5 (.imul) 1 6 := ⟨by decide +kernel, rfl⟩
theorem d_X12_keyOn_6 : DC mX12_keyOn 6 (.iconst 1) 1 7 := ⟨by decide +kernel, rfl⟩
theorem d_X12_keyOn_7 : DC mX12_keyOn 7 (.iadd) 1 8 := ⟨by decide +kernel, rfl⟩
theorem d_X12_keyOn_8 : DC mX12_keyOn 8 (.iconst 2) 1 9 := ⟨by decide +kernel, rfl⟩
theorem d_X12_keyOn_9 : DC mX12_keyOn 9 (.iload_n 2) 1 10 := ⟨by decide +kernel, rfl⟩
theorem d_X12_keyOn_10 : DC mX12_keyOn 10 (.imul) 1 11 := ⟨by decide +kernel, rfl⟩
theorem d_X12_keyOn_11 : DC mX12_keyOn 11 (.iadd) 1 12 := ⟨by decide +kernel, rfl⟩
theorem d_X12_keyOn_12 : DC mX12_keyOn 12 (.iaload) 1 13 := ⟨by decide +kernel, rfl⟩
theorem d_X12_keyOn_13 : DC mX12_keyOn 13 (.ireturn) 1 14 := ⟨by decide +kernel, rfl⟩
theorem d_X12_often_0 : DC mX12_often 0 (.iconst 0) 1 1 := ⟨by decide +kernel, rfl⟩
theorem d_X12_often_1 : DC mX12_often 1 (.istore_n 3) 1 2 := ⟨by decide +kernel, rfl⟩
theorem d_X12_often_2 : DC mX12_often 2 (.iconst 0) 1 3 := ⟨by decide +kernel, rfl⟩
theorem d_X12_often_3 : DC mX12_often 3 (.istore 4) 2 5 := ⟨by decide +kernel, rfl⟩
theorem d_X12_often_5 : DC mX12_often 5 (.iload 4) 2 7 := ⟨by decide +kernel, rfl⟩
theorem d_X12_often_7 : DC mX12_often 7 (.iload_n 1) 1 8 := ⟨by decide +kernel, rfl⟩
theorem d_X12_often_8 : DC mX12_often 8 (.invokestatic 138) 3 11 := ⟨by decide +kernel, rfl⟩
theorem d_X12_often_11 : DC mX12_often 11 (.if_icmp .ge 52) 3 14 := ⟨by decide +kernel, rfl⟩
theorem d_X12_often_14 : DC mX12_often 14 (.iconst 0) 1 15 := ⟨by decide +kernel, rfl⟩
theorem d_X12_often_15 : DC mX12_often 15 (.istore 5) 2 17 := ⟨by decide +kernel, rfl⟩
theorem d_X12_often_17 : DC mX12_often 17 (.iload 5) 2 19 := ⟨by decide +kernel, rfl⟩
theorem d_X12_often_19 : DC mX12_often 19 (.iconst 3) 1 20 := ⟨by decide +kernel, rfl⟩
theorem d_X12_often_20 : DC mX12_often 20 (.if_icmp .ge 37) 3 23 := ⟨by decide +kernel, rfl⟩
theorem d_X12_often_23 : DC mX12_often 23 (.iload_n 3) 1 24 := ⟨by decide +kernel, rfl⟩
theorem d_X12_often_24 : DC mX12_often 24 (.aload_n 0) 1 25 := ⟨by decide +kernel, rfl⟩
theorem d_X12_often_25 : DC mX12_often 25 (.getfield 17) 3 28 := ⟨by decide +kernel, rfl⟩
theorem d_X12_often_28 : DC mX12_often 28 (.iconst 3) 1 29 := ⟨by decide +kernel, rfl⟩
theorem d_X12_often_29 : DC mX12_often 29 (.iload_n 1) 1 30 := ⟨by decide +kernel, rfl⟩
theorem d_X12_often_30 : DC mX12_often 30 (.iload 4) 2 32 := ⟨by decide +kernel, rfl⟩
theorem d_X12_often_32 : DC mX12_often 32 (.invokestatic 135) 3 35 := ⟨by decide +kernel, rfl⟩
theorem d_X12_often_35 : DC mX12_often 35 (.imul) 1 36 := ⟨by decide +kernel, rfl⟩
theorem d_X12_often_36 : DC mX12_often 36 (.iload 5) 2 38 := ⟨by decide +kernel, rfl⟩
theorem d_X12_often_38 : DC mX12_often 38 (.iadd) 1 39 := ⟨by decide +kernel, rfl⟩
theorem d_X12_often_39 : DC mX12_often 39 (.iaload) 1 40 := ⟨by decide +kernel, rfl⟩
theorem d_X12_often_40 : DC mX12_often 40 (.iload_n 2) 1 41 := ⟨by decide +kernel, rfl⟩
theorem d_X12_often_41 : DC mX12_often 41 (.if_icmp .ne 7) 3 44 := ⟨by decide +kernel, rfl⟩
theorem d_X12_often_44 : DC mX12_often 44 (.iconst 1) 1 45 := ⟨by decide +kernel, rfl⟩
theorem d_X12_often_45 : DC mX12_often 45 (.goto 4) 3 48 := ⟨by decide +kernel, rfl⟩
theorem d_X12_often_48 : DC mX12_often 48 (.iconst 0) 1 49 := ⟨by decide +kernel, rfl⟩
theorem d_X12_often_49 : DC mX12_often 49 (.iadd) 1 50 := ⟨by decide +kernel, rfl⟩
theorem d_X12_often_50 : DC mX12_often 50 (.istore_n 3) 1 51 := ⟨by decide +kernel, rfl⟩
theorem d_X12_often_51 : DC mX12_often 51 (.iinc 5 1) 3 54 := ⟨by decide +kernel, rfl⟩
theorem d_X12_often_54 : DC mX12_often 54 (.goto (-37)) 3 57 := ⟨by decide +kernel, rfl⟩
theorem d_X12_often_57 : DC mX12_often 57 (.iinc 4 1) 3 60 := ⟨by decide +kernel, rfl⟩
theorem d_X12_often_60 : DC mX12_often 60 (.goto (-55)) 3 63 := ⟨by decide +kernel, rfl⟩
theorem d_X12_often_63 : DC mX12_often 63 (.iload_n 3) 1 64 := ⟨by decide +kernel, rfl⟩
theorem d_X12_often_64 : DC mX12_often 64 (.ireturn) 1 65 := ⟨by decide +kernel, rfl⟩
theorem d_X12_degree_0 : DC mX12_degree 0 (.aload_n 0) 1 1 := ⟨by decide +kernel, rfl⟩
theorem d_X12_degree_1 : DC mX12_degree 1 (.iconst 0) 1 2 := ⟨by decide +kernel, rfl⟩
theorem d_X12_degree_2 : DC mX12_degree 2 (.putfield 1) 3 5 := ⟨by decide +kernel, rfl⟩
theorem d_X12_degree_5 : DC mX12_degree 5 (.iload_n 1) 1 6 := ⟨by decide +kernel, rfl⟩
theorem d_X12_degree_6 : DC mX12_degree 6 (.invokestatic 199) 3 9 := ⟨by decide +kernel, rfl⟩
theorem d_X12_degree_9 : DC mX12_degree 9 (.ifCond .eq 10) 3 12 := ⟨by decide +kernel, rfl⟩
theorem d_X12_degree_12 : DC mX12_degree 12 (.iload_n 2) 1 13 := ⟨by decide +kernel, rfl⟩
theorem d_X12_degree_13 : DC mX12_degree 13 (.invokestatic 208) 3 16 := ⟨by decide +kernel, rfl⟩
theorem d_X12_degree_16 : DC mX12_degree 16 (.ifCond .ne 6) 3 19 := ⟨by decide +kernel, rfl⟩
theorem d_X12_degree_19 : DC mX12_degree 19 (.bipush (-2)) 2 21 := ⟨by decide +kernel, rfl⟩
theorem d_X12_degree_21 : DC mX12_degree 21 (.ireturn) 1 22 := ⟨by decide +kernel, rfl⟩
theorem d_X12_degree_22 : DC mX12_degree 22 (.iconst (-1)) 1 23 := ⟨by decide +kernel, rfl⟩
theorem d_X12_degree_23 : DC mX12_degree 23 (.istore_n 3) 1 24 := ⟨by decide +kernel, rfl⟩
theorem d_X12_degree_24 : DC mX12_degree 24 (.iconst 0) 1 25 := ⟨by decide +kernel, rfl⟩
theorem d_X12_degree_25 : DC mX12_degree 25 (.istore 4) 2 27 := ⟨by decide +kernel, rfl⟩
theorem d_X12_degree_27 : DC mX12_degree 27 (.iload 4) 2 29 := ⟨by decide +kernel, rfl⟩
theorem d_X12_degree_29 : DC mX12_degree 29 (.aload_n 0) 1 30 := ⟨by decide +kernel, rfl⟩
theorem d_X12_degree_30 : DC mX12_degree 30 (.getfield 20) 3 33 := ⟨by decide +kernel, rfl⟩
theorem d_X12_degree_33 : DC mX12_degree 33 (.sipush 161) 3 36 := ⟨by decide +kernel, rfl⟩
theorem d_X12_degree_36 : DC mX12_degree 36 (.iload_n 1) 1 37 := ⟨by decide +kernel, rfl⟩
theorem d_X12_degree_37 : DC mX12_degree 37 (.imul) 1 38 := ⟨by decide +kernel, rfl⟩
theorem d_X12_degree_38 : DC mX12_degree 38 (.iaload) 1 39 := ⟨by decide +kernel, rfl⟩
theorem d_X12_degree_39 : DC mX12_degree 39 (.if_icmp .ge 42) 3 42 := ⟨by decide +kernel, rfl⟩
theorem d_X12_degree_42 : DC mX12_degree 42 (.aload_n 0) 1 43 := ⟨by decide +kernel, rfl⟩
theorem d_X12_degree_43 : DC mX12_degree 43 (.aload_n 0) 1 44 := ⟨by decide +kernel, rfl⟩
theorem d_X12_degree_44 : DC mX12_degree 44 (.getfield 20) 3 47 := ⟨by decide +kernel, rfl⟩
theorem d_X12_degree_47 : DC mX12_degree 47 (.iload_n 1) 1 48 := ⟨by decide +kernel, rfl⟩
theorem d_X12_degree_48 : DC mX12_degree 48 (.iload 4) 2 50 := ⟨by decide +kernel, rfl⟩
theorem d_X12_degree_50 : DC mX12_degree 50 (.invokestatic 339) 3 53 := ⟨by decide +kernel, rfl⟩
theorem d_X12_degree_53 : DC mX12_degree 53 (.iload_n 2) 1 54 := ⟨by decide +kernel, rfl⟩
theorem d_X12_degree_54 : DC mX12_degree 54 (.invokevirtual 343) 3 57 := ⟨by decide +kernel, rfl⟩
theorem d_X12_degree_57 : DC mX12_degree 57 (.istore 5) 2 59 := ⟨by decide +kernel, rfl⟩
theorem d_X12_degree_59 : DC mX12_degree 59 (.iload 4) 2 61 := ⟨by decide +kernel, rfl⟩
theorem d_X12_degree_61 : DC mX12_degree 61 (.ifCond .le 11) 3 64 := ⟨by decide +kernel, rfl⟩
theorem d_X12_degree_64 : DC mX12_degree 64 (.iload 5) 2 66 := ⟨by decide +kernel, rfl⟩
theorem d_X12_degree_66 : DC mX12_degree 66 (.iload_n 3) 1 67 := ⟨by decide +kernel, rfl⟩
theorem d_X12_degree_67 : DC mX12_degree 67 (.if_icmp .eq 5) 3 70 := ⟨by decide +kernel, rfl⟩
theorem d_X12_degree_70 : DC mX12_degree 70 (.iconst (-1)) 1 71 := ⟨by decide +kernel, rfl⟩
theorem d_X12_degree_71 : DC mX12_degree 71 (.ireturn) 1 72 := ⟨by decide +kernel, rfl⟩
theorem d_X12_degree_72 : DC mX12_degree 72 (.iload 5) 2 74 := ⟨by decide +kernel, rfl⟩
theorem d_X12_degree_74 : DC mX12_degree 74 (.istore_n 3) 1 75 := ⟨by decide +kernel, rfl⟩
theorem d_X12_degree_75 : DC mX12_degree 75 (.iinc 4 1) 3 78 := ⟨by decide +kernel, rfl⟩
theorem d_X12_degree_78 : DC mX12_degree 78 (.goto (-51)) 3 81 := ⟨by decide +kernel, rfl⟩
theorem d_X12_degree_81 : DC mX12_degree 81 (.iload_n 3) 1 82 := ⟨by decide +kernel, rfl⟩
theorem d_X12_degree_82 : DC mX12_degree 82 (.ireturn) 1 83 := ⟨by decide +kernel, rfl⟩
theorem d_X12_straightInto_0 : DC mX12_straightInto 0 (.aload_n 0) 1 1 := ⟨by decide +kernel, rfl⟩
theorem d_X12_straightInto_1 : DC mX12_straightInto 1 (.iload_n 1) 1 2 := ⟨by decide +kernel, rfl⟩
theorem d_X12_straightInto_2 : DC mX12_straightInto 2 (.iload_n 2) 1 3 := ⟨by decide +kernel, rfl⟩
theorem d_X12_straightInto_3 : DC mX12_straightInto 3 (.invokevirtual 205) 3 6 := ⟨by decide +kernel, rfl⟩
theorem d_X12_straightInto_6 : DC mX12_straightInto 6 (.aload_n 0) 1 7 := ⟨by decide +kernel, rfl⟩
theorem d_X12_straightInto_7 : DC mX12_straightInto 7 (.aload_n 0) 1 8 := ⟨by decide +kernel, rfl⟩
theorem d_X12_straightInto_8 : DC mX12_straightInto 8 (.iload_n 2) 1 9 := ⟨by decide +kernel, rfl⟩
theorem d_X12_straightInto_9 : DC mX12_straightInto 9 (.invokevirtual 241) 3 12 := ⟨by decide +kernel, rfl⟩
theorem d_X12_straightInto_12 : DC mX12_straightInto 12 (.putfield 346) 3 15 := ⟨by decide +kernel, rfl⟩
theorem d_X12_straightInto_15 : DC mX12_straightInto 15 (.aload_n 0) 1 16 := ⟨by decide +kernel, rfl⟩
theorem d_X12_straightInto_16 : DC mX12_straightInto 16 (.aload_n 0) 1 17 := ⟨by decide +kernel, rfl⟩
theorem d_X12_straightInto_17 : DC mX12_straightInto 17 (.getfield 102) 3 20 := ⟨by decide +kernel, rfl⟩
theorem d_X12_straightInto_20 : DC mX12_straightInto 20 (.putfield 187) 3 23 := ⟨by decide +kernel, rfl⟩
theorem d_X12_straightInto_23 : DC mX12_straightInto 23 (.aload_n 0) 1 24 := ⟨by decide +kernel, rfl⟩
theorem d_X12_straightInto_24 : DC mX12_straightInto 24 (.getfield 102) 3 27 := ⟨by decide +kernel, rfl⟩
theorem d_X12_straightInto_27 : DC mX12_straightInto 27 (.ifCond .ne 7) 3 30 := ⟨by decide +kernel, rfl⟩
theorem d_X12_straightInto_30 : DC mX12_straightInto 30 (.iconst 0) 1 31 := ⟨by decide +kernel, rfl⟩
theorem d_X12_straightInto_31 : DC mX12_straightInto 31 (.goto 11) 3 34 := ⟨by decide +kernel, rfl⟩
theorem d_X12_straightInto_34 : DC mX12_straightInto 34 (.aload_n 0) 1 35 := ⟨by decide +kernel, rfl⟩
theorem d_X12_straightInto_35 : DC mX12_straightInto 35 (.aload_n 0) 1 36 := ⟨by decide +kernel, rfl⟩
theorem d_X12_straightInto_36 : DC mX12_straightInto 36 (.getfield 102) 3 39 := ⟨by decide +kernel, rfl⟩
theorem d_X12_straightInto_39 : DC mX12_straightInto 39 (.invokevirtual 193) 3 42 := ⟨by decide +kernel, rfl⟩
theorem d_X12_straightInto_42 : DC mX12_straightInto 42 (.ireturn) 1 43 := ⟨by decide +kernel, rfl⟩
theorem d_X12_steps__0 : DC mX12_steps_ 0 (.aload_n 0) 1 1 := ⟨by decide +kernel, rfl⟩
theorem d_X12_steps__1 : DC mX12_steps_ 1 (.iconst 0) 1 2 := ⟨by decide +kernel, rfl⟩
theorem d_X12_steps__2 : DC mX12_steps_ 2 (.putfield 1) 3 5 := ⟨by decide +kernel, rfl⟩
theorem d_X12_steps__5 : DC mX12_steps_ 5 (.iload_n 1) 1 6 := ⟨by decide +kernel, rfl⟩
theorem d_X12_steps__6 : DC mX12_steps_ 6 (.invokestatic 199) 3 9 := ⟨by decide +kernel, rfl⟩
theorem d_X12_steps__9 : DC mX12_steps_ 9 (.ifCond .ne 10) 3 12 := ⟨by decide +kernel, rfl⟩
theorem d_X12_steps__12 : DC mX12_steps_ 12 (.aload_n 0) 1 13 := ⟨by decide +kernel, rfl⟩
theorem d_X12_steps__13 : DC mX12_steps_ 13 (.bipush (-2)) 2 15 := ⟨by decide +kernel, rfl⟩
theorem d_X12_steps__15 : DC mX12_steps_ 15 (.invokevirtual 218) 3 18 := ⟨by decide +kernel, rfl⟩
theorem d_X12_steps__18 : DC mX12_steps_ 18 (.ireturn) 1 19 := ⟨by decide +kernel, rfl⟩
theorem d_X12_steps__19 : DC mX12_steps_ 19 (.aload_n 0) 1 20 := ⟨by decide +kernel, rfl⟩
theorem d_X12_steps__20 : DC mX12_steps_ 20 (.invokevirtual 202) 3 23 := ⟨by decide +kernel, rfl⟩
theorem d_X12_steps__23 : DC mX12_steps_ 23 (.aload_n 0) 1 24 := ⟨by decide +kernel, rfl⟩
theorem d_X12_steps__24 : DC mX12_steps_ 24 (.iload_n 1) 1 25 := ⟨by decide +kernel, rfl⟩
theorem d_X12_steps__25 : DC mX12_steps_ 25 (.iconst 0) 1 26 := ⟨by decide +kernel, rfl⟩
theorem d_X12_steps__26 : DC mX12_steps_ 26 (.invokevirtual 349) 3 29 := ⟨by decide +kernel, rfl⟩
theorem d_X12_steps__29 : DC mX12_steps_ 29 (.istore_n 2) 1 30 := ⟨by decide +kernel, rfl⟩
theorem d_X12_steps__30 : DC mX12_steps_ 30 (.iload_n 2) 1 31 := ⟨by decide +kernel, rfl⟩
theorem d_X12_steps__31 : DC mX12_steps_ 31 (.ifCond .eq 7) 3 34 := ⟨by decide +kernel, rfl⟩
theorem d_X12_steps__34 : DC mX12_steps_ 34 (.iload_n 2) 1 35 := ⟨by decide +kernel, rfl⟩
theorem d_X12_steps__35 : DC mX12_steps_ 35 (.goto 7) 3 38 := ⟨by decide +kernel, rfl⟩
theorem d_X12_steps__38 : DC mX12_steps_ 38 (.aload_n 0) 1 39 := ⟨by decide +kernel, rfl⟩
theorem d_X12_steps__39 : DC mX12_steps_ 39 (.getfield 346) 3 42 := ⟨by decide +kernel, rfl⟩
theorem d_X12_steps__42 : DC mX12_steps_ 42 (.ireturn) 1 43 := ⟨by decide +kernel, rfl⟩
theorem d_X12_left_0 : DC mX12_left 0 (.aload_n 0) 1 1 := ⟨by decide +kernel, rfl⟩
theorem d_X12_left_1 : DC mX12_left 1 (.iconst 0) 1 2 := ⟨by decide +kernel, rfl⟩
theorem d_X12_left_2 : DC mX12_left 2 (.putfield 1) 3 5 := ⟨by decide +kernel, rfl⟩
theorem d_X12_left_5 : DC mX12_left 5 (.iload_n 1) 1 6 := ⟨by decide +kernel, rfl⟩
theorem d_X12_left_6 : DC mX12_left 6 (.invokestatic 199) 3 9 := ⟨by decide +kernel, rfl⟩
theorem d_X12_left_9 : DC mX12_left 9 (.ifCond .ne 10) 3 12 := ⟨by decide +kernel, rfl⟩
theorem d_X12_left_12 : DC mX12_left 12 (.aload_n 0) 1 13 := ⟨by decide +kernel, rfl⟩
theorem d_X12_left_13 : DC mX12_left 13 (.bipush (-2)) 2 15 := ⟨by decide +kernel, rfl⟩
theorem d_X12_left_15 : DC mX12_left 15 (.invokevirtual 218) 3 18 := ⟨by decide +kernel, rfl⟩
theorem d_X12_left_18 : DC mX12_left 18 (.ireturn) 1 19 := ⟨by decide +kernel, rfl⟩
theorem d_X12_left_19 : DC mX12_left 19 (.aload_n 0) 1 20 := ⟨by decide +kernel, rfl⟩
theorem d_X12_left_20 : DC mX12_left 20 (.invokevirtual 202) 3 23 := ⟨by decide +kernel, rfl⟩
theorem d_X12_left_23 : DC mX12_left 23 (.aload_n 0) 1 24 := ⟨by decide +kernel, rfl⟩
theorem d_X12_left_24 : DC mX12_left 24 (.iload_n 1) 1 25 := ⟨by decide +kernel, rfl⟩
theorem d_X12_left_25 : DC mX12_left 25 (.iconst 0) 1 26 := ⟨by decide +kernel, rfl⟩
theorem d_X12_left_26 : DC mX12_left 26 (.invokevirtual 349) 3 29 := ⟨by decide +kernel, rfl⟩
theorem d_X12_left_29 : DC mX12_left 29 (.istore_n 2) 1 30 := ⟨by decide +kernel, rfl⟩
theorem d_X12_left_30 : DC mX12_left 30 (.iload_n 2) 1 31 := ⟨by decide +kernel, rfl⟩
theorem d_X12_left_31 : DC mX12_left 31 (.ifCond .eq 7) 3 34 := ⟨by decide +kernel, rfl⟩
theorem d_X12_left_34 : DC mX12_left 34 (.iload_n 2) 1 35 := ⟨by decide +kernel, rfl⟩
theorem d_X12_left_35 : DC mX12_left 35 (.goto 8) 3 38 := ⟨by decide +kernel, rfl⟩
theorem d_X12_left_38 : DC mX12_left 38 (.aload_n 0) 1 39 := ⟨by decide +kernel, rfl⟩
theorem d_X12_left_39 : DC mX12_left 39 (.iconst 0) 1 40 := ⟨by decide +kernel, rfl⟩
theorem d_X12_left_40 : DC mX12_left 40 (.invokevirtual 113) 3 43 := ⟨by decide +kernel, rfl⟩
theorem d_X12_left_43 : DC mX12_left 43 (.ireturn) 1 44 := ⟨by decide +kernel, rfl⟩
theorem d_X12_equal_0 : DC mX12_equal 0 (.aload_n 0) 1 1 := ⟨by decide +kernel, rfl⟩
theorem d_X12_equal_1 : DC mX12_equal 1 (.iconst 0) 1 2 := ⟨by decide +kernel, rfl⟩
theorem d_X12_equal_2 : DC mX12_equal 2 (.putfield 1) 3 5 := ⟨by decide +kernel, rfl⟩
theorem d_X12_equal_5 : DC mX12_equal 5 (.iload_n 1) 1 6 := ⟨by decide +kernel, rfl⟩
theorem d_X12_equal_6 : DC mX12_equal 6 (.invokestatic 199) 3 9 := ⟨by decide +kernel, rfl⟩
theorem d_X12_equal_9 : DC mX12_equal 9 (.ifCond .eq 10) 3 12 := ⟨by decide +kernel, rfl⟩
theorem d_X12_equal_12 : DC mX12_equal 12 (.iload_n 2) 1 13 := ⟨by decide +kernel, rfl⟩
theorem d_X12_equal_13 : DC mX12_equal 13 (.invokestatic 199) 3 16 := ⟨by decide +kernel, rfl⟩
theorem d_X12_equal_16 : DC mX12_equal 16 (.ifCond .ne 10) 3 19 := ⟨by decide +kernel, rfl⟩
theorem d_X12_equal_19 : DC mX12_equal 19 (.aload_n 0) 1 20 := ⟨by decide +kernel, rfl⟩
theorem d_X12_equal_20 : DC mX12_equal 20 (.bipush (-2)) 2 22 := ⟨by decide +kernel, rfl⟩
theorem d_X12_equal_22 : DC mX12_equal 22 (.invokevirtual 218) 3 25 := ⟨by decide +kernel, rfl⟩
theorem d_X12_equal_25 : DC mX12_equal 25 (.ireturn) 1 26 := ⟨by decide +kernel, rfl⟩
theorem d_X12_equal_26 : DC mX12_equal 26 (.aload_n 0) 1 27 := ⟨by decide +kernel, rfl⟩
theorem d_X12_equal_27 : DC mX12_equal 27 (.invokevirtual 202) 3 30 := ⟨by decide +kernel, rfl⟩
theorem d_X12_equal_30 : DC mX12_equal 30 (.aload_n 0) 1 31 := ⟨by decide +kernel, rfl⟩
theorem d_X12_equal_31 : DC mX12_equal 31 (.iload_n 1) 1 32 := ⟨by decide +kernel, rfl⟩
theorem d_X12_equal_32 : DC mX12_equal 32 (.iconst 3) 1 33 := ⟨by decide +kernel, rfl⟩
theorem d_X12_equal_33 : DC mX12_equal 33 (.invokevirtual 349) 3 36 := ⟨by decide +kernel, rfl⟩
theorem d_X12_equal_36 : DC mX12_equal 36 (.istore_n 3) 1 37 := ⟨by decide +kernel, rfl⟩
theorem d_X12_equal_37 : DC mX12_equal 37 (.iload_n 3) 1 38 := ⟨by decide +kernel, rfl⟩
theorem d_X12_equal_38 : DC mX12_equal 38 (.ifCond .eq 5) 3 41 := ⟨by decide +kernel, rfl⟩
theorem d_X12_equal_41 : DC mX12_equal 41 (.iload_n 3) 1 42 := ⟨by decide +kernel, rfl⟩
theorem d_X12_equal_42 : DC mX12_equal 42 (.ireturn) 1 43 := ⟨by decide +kernel, rfl⟩
theorem d_X12_equal_43 : DC mX12_equal 43 (.aload_n 0) 1 44 := ⟨by decide +kernel, rfl⟩
theorem d_X12_equal_44 : DC mX12_equal 44 (.iload_n 2) 1 45 := ⟨by decide +kernel, rfl⟩
theorem d_X12_equal_45 : DC mX12_equal 45 (.iconst 4) 1 46 := ⟨by decide +kernel, rfl⟩
theorem d_X12_equal_46 : DC mX12_equal 46 (.invokevirtual 349) 3 49 := ⟨by decide +kernel, rfl⟩
theorem d_X12_equal_49 : DC mX12_equal 49 (.istore_n 3) 1 50 := ⟨by decide +kernel, rfl⟩
theorem d_X12_equal_50 : DC mX12_equal 50 (.iload_n 3) 1 51 := ⟨by decide +kernel, rfl⟩
theorem d_X12_equal_51 : DC mX12_equal 51 (.ifCond .eq 5) 3 54 := ⟨by decide +kernel, rfl⟩
theorem d_X12_equal_54 : DC mX12_equal 54 (.iload_n 3) 1 55 := ⟨by decide +kernel, rfl⟩
theorem d_X12_equal_55 : DC mX12_equal 55 (.ireturn) 1 56 := ⟨by decide +kernel, rfl⟩
theorem d_X12_equal_56 : DC mX12_equal 56 (.aload_n 0) 1 57 := ⟨by decide +kernel, rfl⟩
theorem d_X12_equal_57 : DC mX12_equal 57 (.iconst 3) 1 58 := ⟨by decide +kernel, rfl⟩
theorem d_X12_equal_58 : DC mX12_equal 58 (.iconst 4) 1 59 := ⟨by decide +kernel, rfl⟩
theorem d_X12_equal_59 : DC mX12_equal 59 (.invokevirtual 352) 3 62 := ⟨by decide +kernel, rfl⟩
theorem d_X12_equal_62 : DC mX12_equal 62 (.ifCond .eq 7) 3 65 := ⟨by decide +kernel, rfl⟩
theorem d_X12_equal_65 : DC mX12_equal 65 (.iconst 1) 1 66 := ⟨by decide +kernel, rfl⟩
theorem d_X12_equal_66 : DC mX12_equal 66 (.goto 4) 3 69 := ⟨by decide +kernel, rfl⟩
theorem d_X12_equal_69 : DC mX12_equal 69 (.iconst 0) 1 70 := ⟨by decide +kernel, rfl⟩
theorem d_X12_equal_70 : DC mX12_equal 70 (.ireturn) 1 71 := ⟨by decide +kernel, rfl⟩
theorem d_X12_counts_0 : DC mX12_counts 0 (.iconst 0) 1 1 := ⟨by decide +kernel, rfl⟩
theorem d_X12_counts_1 : DC mX12_counts 1 (.istore_n 3) 1 2 := ⟨by decide +kernel, rfl⟩
theorem d_X12_counts_2 : DC mX12_counts 2 (.iload_n 3) 1 3 := ⟨by decide +kernel, rfl⟩
theorem d_X12_counts_3 : DC mX12_counts 3 (.bipush 10) 2 5 := ⟨by decide +kernel, rfl⟩
theorem d_X12_counts_5 : DC mX12_counts 5 (.if_icmp .ge 26) 3 8 := ⟨by decide +kernel, rfl⟩
theorem d_X12_counts_8 : DC mX12_counts 8 (.aload_n 0) 1 9 := ⟨by decide +kernel, rfl⟩
theorem d_X12_counts_9 : DC mX12_counts 9 (.getfield 64) 3 12 := ⟨by decide +kernel, rfl⟩
theorem d_X12_counts_12 : DC mX12_counts 12 (.iload_n 3) 1 13 := ⟨by decide +kernel, rfl⟩
theorem d_X12_counts_13 : DC mX12_counts 13 (.dup2) 1 14 := ⟨by decide +kernel, rfl⟩
theorem d_X12_counts_14 : DC mX12_counts 14 (.iaload) 1 15 := ⟨by decide +kernel, rfl⟩
theorem d_X12_counts_15 : DC mX12_counts 15 (.iload_n 2) 1 16 := ⟨by decide +kernel, rfl⟩
theorem d_X12_counts_16 : DC mX12_counts 16 (.aload_n 0) 1 17 := ⟨by decide +kernel, rfl⟩
theorem d_X12_counts_17 : DC mX12_counts 17 (.iload_n 1) 1 18 := ⟨by decide +kernel, rfl⟩
theorem d_X12_counts_18 : DC mX12_counts 18 (.iload_n 3) 1 19 := ⟨by decide +kernel, rfl⟩
theorem d_X12_counts_19 : DC mX12_counts 19 (.invokevirtual 343) 3 22 := ⟨by decide +kernel, rfl⟩
theorem d_X12_counts_22 : DC mX12_counts 22 (.imul) 1 23 := ⟨by decide +kernel, rfl⟩
theorem d_X12_counts_23 : DC mX12_counts 23 (.iadd) 1 24 := ⟨by decide +kernel, rfl⟩
theorem d_X12_counts_24 : DC mX12_counts 24 (.iastore) 1 25 := ⟨by decide +kernel, rfl⟩
theorem d_X12_counts_25 : DC mX12_counts 25 (.iinc 3 1) 3 28 := ⟨by decide +kernel, rfl⟩
theorem d_X12_counts_28 : DC mX12_counts 28 (.goto (-26)) 3 31 := ⟨by decide +kernel, rfl⟩
theorem d_X12_counts_31 : DC mX12_counts 31 (.return_) 1 32 := ⟨by decide +kernel, rfl⟩
theorem d_X12_goesOn_0 : DC mX12_goesOn 0 (.iload_n 1) 1 1 := ⟨by decide +kernel, rfl⟩
theorem d_X12_goesOn_1 : DC mX12_goesOn 1 (.aload_n 0) 1 2 := ⟨by decide +kernel, rfl⟩
theorem d_X12_goesOn_2 : DC mX12_goesOn 2 (.getfield 355) 3 5 := ⟨by decide +kernel, rfl⟩
theorem d_X12_goesOn_5 : DC mX12_goesOn 5 (.if_icmp .ne 36) 3 8 := ⟨by decide +kernel, rfl⟩
theorem d_X12_goesOn_8 : DC mX12_goesOn 8 (.aload_n 0) 1 9 := ⟨by decide +kernel, rfl⟩
theorem d_X12_goesOn_9 : DC mX12_goesOn 9 (.dup) 1 10 := ⟨by decide +kernel, rfl⟩
theorem d_X12_goesOn_10 : DC mX12_goesOn 10 (.getfield 358) 3 13 := ⟨by decide +kernel, rfl⟩
theorem d_X12_goesOn_13 : DC mX12_goesOn 13 (.iconst 1) 1 14 := ⟨by decide +kernel, rfl⟩
theorem d_X12_goesOn_14 : DC mX12_goesOn 14 (.iadd) 1 15 := ⟨by decide +kernel, rfl⟩
theorem d_X12_goesOn_15 : DC mX12_goesOn 15 (.putfield 358) 3 18 := ⟨by decide +kernel, rfl⟩
theorem d_X12_goesOn_18 : DC mX12_goesOn 18 (.aload_n 0) 1 19 := ⟨by decide +kernel, rfl⟩
theorem d_X12_goesOn_19 : DC mX12_goesOn 19 (.dup) 1 20 := ⟨by decide +kernel, rfl⟩
theorem d_X12_goesOn_20 : DC mX12_goesOn 20 (.getfield 361) 3 23 := ⟨by decide +kernel, rfl⟩
theorem d_X12_goesOn_23 : DC mX12_goesOn 23 (.iconst 1) 1 24 := ⟨by decide +kernel, rfl⟩
theorem d_X12_goesOn_24 : DC mX12_goesOn 24 (.isub) 1 25 := ⟨by decide +kernel, rfl⟩
theorem d_X12_goesOn_25 : DC mX12_goesOn 25 (.putfield 361) 3 28 := ⟨by decide +kernel, rfl⟩
theorem d_X12_goesOn_28 : DC mX12_goesOn 28 (.aload_n 0) 1 29 := ⟨by decide +kernel, rfl⟩
theorem d_X12_goesOn_29 : DC mX12_goesOn 29 (.getfield 361) 3 32 := ⟨by decide +kernel, rfl⟩
theorem d_X12_goesOn_32 : DC mX12_goesOn 32 (.ifCond .ge 7) 3 35 := ⟨by decide +kernel, rfl⟩
theorem d_X12_goesOn_35 : DC mX12_goesOn 35 (.iconst 1) 1 36 := ⟨by decide +kernel, rfl⟩
theorem d_X12_goesOn_36 : DC mX12_goesOn 36 (.goto 4) 3 39 := ⟨by decide +kernel, rfl⟩
theorem d_X12_goesOn_39 : DC mX12_goesOn 39 (.iconst 0) 1 40 := ⟨by decide +kernel, rfl⟩
theorem d_X12_goesOn_40 : DC mX12_goesOn 40 (.ireturn) 1 41 := ⟨by decide +kernel, rfl⟩
theorem d_X12_goesOn_41 : DC mX12_goesOn 41 (.iload_n 1) 1 42 := ⟨by decide +kernel, rfl⟩
theorem d_X12_goesOn_42 : DC mX12_goesOn 42 (.ifCond .ne 7) 3 45 := ⟨by decide +kernel, rfl⟩
theorem d_X12_goesOn_45 : DC mX12_goesOn 45 (.iconst 1) 1 46 := ⟨by decide +kernel, rfl⟩
theorem d_X12_goesOn_46 : DC mX12_goesOn 46 (.goto 11) 3 49 := ⟨by decide +kernel, rfl⟩
theorem d_X12_goesOn_49 : DC mX12_goesOn 49 (.aload_n 0) 1 50 := ⟨by decide +kernel, rfl⟩
theorem d_X12_goesOn_50 : DC mX12_goesOn 50 (.getfield 67) 3 53 := ⟨by decide +kernel, rfl⟩
theorem d_X12_goesOn_53 : DC mX12_goesOn 53 (.iload_n 1) 1 54 := ⟨by decide +kernel, rfl⟩
theorem d_X12_goesOn_54 : DC mX12_goesOn 54 (.iconst 1) 1 55 := ⟨by decide +kernel, rfl⟩
theorem d_X12_goesOn_55 : DC mX12_goesOn 55 (.isub) 1 56 := ⟨by decide +kernel, rfl⟩
theorem d_X12_goesOn_56 : DC mX12_goesOn 56 (.iaload) 1 57 := ⟨by decide +kernel, rfl⟩
theorem d_X12_goesOn_57 : DC mX12_goesOn 57 (.istore_n 2) 1 58 := ⟨by decide +kernel, rfl⟩
theorem d_X12_goesOn_58 : DC mX12_goesOn 58 (.iload_n 2) 1 59 := ⟨by decide +kernel, rfl⟩
theorem d_X12_goesOn_59 : DC mX12_goesOn 59 (.bipush 120) 2 61 := ⟨by decide +kernel, rfl⟩
theorem d_X12_goesOn_61 : DC mX12_goesOn 61 (.if_icmp .gt 150) 3 64 := ⟨by decide +kernel, rfl⟩
theorem d_X12_goesOn_64 : DC mX12_goesOn 64 (.iload_n 1) 1 65 := ⟨by decide +kernel, rfl⟩
theorem d_X12_goesOn_65 : DC mX12_goesOn 65 (.ifCond .le 22) 3 68 := ⟨by decide +kernel, rfl⟩
theorem d_X12_goesOn_68 : DC mX12_goesOn 68 (.aload_n 0) 1 69 := ⟨by decide +kernel, rfl⟩
theorem d_X12_goesOn_69 : DC mX12_goesOn 69 (.aload_n 0) 1 70 := ⟨by decide +kernel, rfl⟩
theorem d_X12_goesOn_70 : DC mX12_goesOn 70 (.getfield 67) 3 73 := ⟨by decide +kernel, rfl⟩
theorem d_X12_goesOn_73 : DC mX12_goesOn 73 (.iload_n 1) 1 74 := ⟨by decide +kernel, rfl⟩
theorem d_X12_goesOn_74 : DC mX12_goesOn 74 (.iconst 1) 1 75 := ⟨by decide +kernel, rfl⟩
theorem d_X12_goesOn_75 : DC mX12_goesOn 75 (.isub) 1 76 := ⟨by decide +kernel, rfl⟩
theorem d_X12_goesOn_76 : DC mX12_goesOn 76 (.iaload) 1 77 := ⟨by decide +kernel, rfl⟩
theorem d_X12_goesOn_77 : DC mX12_goesOn 77 (.iload_n 2) 1 78 := ⟨by decide +kernel, rfl⟩
theorem d_X12_goesOn_78 : DC mX12_goesOn 78 (.invokevirtual 154) 3 81 := ⟨by decide +kernel, rfl⟩
theorem d_X12_goesOn_81 : DC mX12_goesOn 81 (.ifCond .eq 6) 3 84 := ⟨by decide +kernel, rfl⟩
theorem d_X12_goesOn_84 : DC mX12_goesOn 84 (.goto 121) 3 87 := ⟨by decide +kernel, rfl⟩
theorem d_X12_goesOn_87 : DC mX12_goesOn 87 (.aload_n 0) 1 88 := ⟨by decide +kernel, rfl⟩
theorem d_X12_goesOn_88 : DC mX12_goesOn 88 (.getfield 64) 3 91 := ⟨by decide +kernel, rfl⟩
theorem d_X12_goesOn_91 : DC mX12_goesOn 91 (.aload_n 0) 1 92 := ⟨by decide +kernel, rfl⟩
theorem d_X12_goesOn_92 : DC mX12_goesOn 92 (.getfield 17) 3 95 := ⟨by decide +kernel, rfl⟩
theorem d_X12_goesOn_95 : DC mX12_goesOn 95 (.iconst 3) 1 96 := ⟨by decide +kernel, rfl⟩
theorem d_X12_goesOn_96 : DC mX12_goesOn 96 (.iload_n 2) 1 97 := ⟨by decide +kernel, rfl⟩
theorem d_X12_goesOn_97 : DC mX12_goesOn 97 (.imul) 1 98 := ⟨by decide +kernel, rfl⟩
theorem d_X12_goesOn_98 : DC mX12_goesOn 98 (.iaload) 1 99 := ⟨by decide +kernel, rfl⟩
theorem d_X12_goesOn_99 : DC mX12_goesOn 99 (.iaload) 1 100 := ⟨by decide +kernel, rfl⟩
theorem d_X12_goesOn_100 : DC mX12_goesOn 100 (.ifCond .le 43) 3 103 := ⟨by decide +kernel, rfl⟩
theorem d_X12_goesOn_103 : DC mX12_goesOn 103 (.aload_n 0) 1 104 := ⟨by decide +kernel, rfl⟩
theorem d_X12_goesOn_104 : DC mX12_goesOn 104 (.getfield 64) 3 107 := ⟨by decide +kernel, rfl⟩
theorem d_X12_goesOn_107 : DC mX12_goesOn 107 (.aload_n 0) 1 108 := ⟨by decide +kernel, rfl⟩
theorem d_X12_goesOn_108 : DC mX12_goesOn 108 (.getfield 17) 3 111 := ⟨by decide +kernel, rfl⟩
theorem d_X12_goesOn_111 : DC mX12_goesOn 111 (.iconst 3) 1 112 := ⟨by decide +kernel, rfl⟩
theorem d_X12_goesOn_112 : DC mX12_goesOn 112 (.iload_n 2) 1 113 := ⟨by decide +kernel, rfl⟩
theorem d_X12_goesOn_113 : DC mX12_goesOn 113 (.imul) 1 114 := ⟨by decide +kernel, rfl⟩
theorem d_X12_goesOn_114 : DC mX12_goesOn 114 (.iconst 1) 1 115 := ⟨by decide +kernel, rfl⟩
theorem d_X12_goesOn_115 : DC mX12_goesOn 115 (.iadd) 1 116 := ⟨by decide +kernel, rfl⟩
theorem d_X12_goesOn_116 : DC mX12_goesOn 116 (.iaload) 1 117 := ⟨by decide +kernel, rfl⟩
theorem d_X12_goesOn_117 : DC mX12_goesOn 117 (.iaload) 1 118 := ⟨by decide +kernel, rfl⟩
theorem d_X12_goesOn_118 : DC mX12_goesOn 118 (.ifCond .le 25) 3 121 := ⟨by decide +kernel, rfl⟩
theorem d_X12_goesOn_121 : DC mX12_goesOn 121 (.aload_n 0) 1 122 := ⟨by decide +kernel, rfl⟩
theorem d_X12_goesOn_122 : DC mX12_goesOn 122 (.getfield 64) 3 125 := ⟨by decide +kernel, rfl⟩
theorem d_X12_goesOn_125 : DC mX12_goesOn 125 (.aload_n 0) 1 126 := ⟨by decide +kernel, rfl⟩
theorem d_X12_goesOn_126 : DC mX12_goesOn 126 (.getfield 17) 3 129 := ⟨by decide +kernel, rfl⟩
theorem d_X12_goesOn_129 : DC mX12_goesOn 129 (.iconst 3) 1 130 := ⟨by decide +kernel, rfl⟩
theorem d_X12_goesOn_130 : DC mX12_goesOn 130 (.iload_n 2) 1 131 := ⟨by decide +kernel, rfl⟩
theorem d_X12_goesOn_131 : DC mX12_goesOn 131 (.imul) 1 132 := ⟨by decide +kernel, rfl⟩
theorem d_X12_goesOn_132 : DC mX12_goesOn 132 (.iconst 2) 1 133 := ⟨by decide +kernel, rfl⟩
theorem d_X12_goesOn_133 : DC mX12_goesOn 133 (.iadd) 1 134 := ⟨by decide +kernel, rfl⟩
theorem d_X12_goesOn_134 : DC mX12_goesOn 134 (.iaload) 1 135 := ⟨by decide +kernel, rfl⟩
theorem d_X12_goesOn_135 : DC mX12_goesOn 135 (.iaload) 1 136 := ⟨by decide +kernel, rfl⟩
theorem d_X12_goesOn_136 : DC mX12_goesOn 136 (.ifCond .le 7) 3 139 := ⟨by decide +kernel, rfl⟩
theorem d_X12_goesOn_139 : DC mX12_goesOn 139 (.iconst 1) 1 140 := ⟨by decide +kernel, rfl⟩
theorem d_X12_goesOn_140 : DC mX12_goesOn 140 (.goto 4) 3 143 := ⟨by decide +kernel, rfl⟩
theorem d_X12_goesOn_143 : DC mX12_goesOn 143 (.iconst 0) 1 144 := ⟨by decide +kernel, rfl⟩
theorem d_X12_goesOn_144 : DC mX12_goesOn 144 (.istore_n 3) 1 145 := ⟨by decide +kernel, rfl⟩
theorem d_X12_goesOn_145 : DC mX12_goesOn 145 (.iload_n 3) 1 146 := ⟨by decide +kernel, rfl⟩
theorem d_X12_goesOn_146 : DC mX12_goesOn 146 (.ifCond .ne 6) 3 149 := ⟨by decide +kernel, rfl⟩
theorem d_X12_goesOn_149 : DC mX12_goesOn 149 (.goto 56) 3 152 := ⟨by decide +kernel, rfl⟩
theorem d_X12_goesOn_152 : DC mX12_goesOn 152 (.aload_n 0) 1 153 := ⟨by decide +kernel, rfl⟩
theorem d_X12_goesOn_153 : DC mX12_goesOn 153 (.getfield 67) 3 156 := ⟨by decide +kernel, rfl⟩
theorem d_X12_goesOn_156 : DC mX12_goesOn 156 (.iload_n 1) 1 157 := ⟨by decide +kernel, rfl⟩
theorem d_X12_goesOn_157 : DC mX12_goesOn 157 (.iload_n 2) 1 158 := ⟨by decide +kernel, rfl⟩
theorem d_X12_goesOn_158 : DC mX12_goesOn 158 (.iastore) 1 159 := ⟨by decide +kernel, rfl⟩
theorem d_X12_goesOn_159 : DC mX12_goesOn 159 (.aload_n 0) 1 160 := ⟨by decide +kernel, rfl⟩
theorem d_X12_goesOn_160 : DC mX12_goesOn 160 (.iload_n 2) 1 161 := ⟨by decide +kernel, rfl⟩
theorem d_X12_goesOn_161 : DC mX12_goesOn 161 (.bipush 121) 2 163 := ⟨by decide +kernel, rfl⟩
theorem d_X12_goesOn_163 : DC mX12_goesOn 163 (.imul) 1 164 := ⟨by decide +kernel, rfl⟩
theorem d_X12_goesOn_164 : DC mX12_goesOn 164 (.bipush 121) 2 166 := ⟨by decide +kernel, rfl⟩
theorem d_X12_goesOn_166 : DC mX12_goesOn 166 (.imul) 1 167 := ⟨by decide +kernel, rfl⟩
theorem d_X12_goesOn_167 : DC mX12_goesOn 167 (.bipush 121) 2 169 := ⟨by decide +kernel, rfl⟩
theorem d_X12_goesOn_169 : DC mX12_goesOn 169 (.imul) 1 170 := ⟨by decide +kernel, rfl⟩
theorem d_X12_goesOn_170 : DC mX12_goesOn 170 (.iconst (-1)) 1 171 := ⟨by decide +kernel, rfl⟩
theorem d_X12_goesOn_171 : DC mX12_goesOn 171 (.invokevirtual 364) 3 174 := ⟨by decide +kernel, rfl⟩
theorem d_X12_goesOn_174 : DC mX12_goesOn 174 (.aload_n 0) 1 175 := ⟨by decide +kernel, rfl⟩
theorem d_X12_goesOn_175 : DC mX12_goesOn 175 (.iload_n 1) 1 176 := ⟨by decide +kernel, rfl⟩
theorem d_X12_goesOn_176 : DC mX12_goesOn 176 (.iconst 1) 1 177 := ⟨by decide +kernel, rfl⟩
theorem d_X12_goesOn_177 : DC mX12_goesOn 177 (.iadd) 1 178 := ⟨by decide +kernel, rfl⟩
theorem d_X12_goesOn_178 : DC mX12_goesOn 178 (.invokevirtual 366) 3 181 := ⟨by decide +kernel, rfl⟩
theorem d_X12_goesOn_181 : DC mX12_goesOn 181 (.istore 4) 2 183 := ⟨by decide +kernel, rfl⟩
theorem d_X12_goesOn_183 : DC mX12_goesOn 183 (.aload_n 0) 1 184 := ⟨by decide +kernel, rfl⟩
theorem d_X12_goesOn_184 : DC mX12_goesOn 184 (.iload_n 2) 1 185 := ⟨by decide +kernel, rfl⟩
theorem d_X12_goesOn_185 : DC mX12_goesOn 185 (.bipush 121) 2 187 := ⟨by decide +kernel, rfl⟩
theorem d_X12_goesOn_187 : DC mX12_goesOn 187 (.imul) 1 188 := ⟨by decide +kernel, rfl⟩
theorem d_X12_goesOn_188 : DC mX12_goesOn 188 (.bipush 121) 2 190 := ⟨by decide +kernel, rfl⟩
theorem d_X12_goesOn_190 : DC mX12_goesOn 190 (.imul) 1 191 := ⟨by decide +kernel, rfl⟩
theorem d_X12_goesOn_191 : DC mX12_goesOn 191 (.bipush 121) 2 193 := ⟨by decide +kernel, rfl⟩
theorem d_X12_goesOn_193 : DC mX12_goesOn 193 (.imul) 1 194 := ⟨by decide +kernel, rfl⟩
theorem d_X12_goesOn_194 : DC mX12_goesOn 194 (.iconst 1) 1 195 := ⟨by decide +kernel, rfl⟩
theorem d_X12_goesOn_195 : DC mX12_goesOn 195 (.invokevirtual 364) 3 198 := ⟨by decide +kernel, rfl⟩
theorem d_X12_goesOn_198 : DC mX12_goesOn 198 (.iload 4) 2 200 := ⟨by decide +kernel, rfl⟩
theorem d_X12_goesOn_200 : DC mX12_goesOn 200 (.ifCond .eq 5) 3 203 := ⟨by decide +kernel, rfl⟩
theorem d_X12_goesOn_203 : DC mX12_goesOn 203 (.iconst 1) 1 204 := ⟨by decide +kernel, rfl⟩
theorem d_X12_goesOn_204 : DC mX12_goesOn 204 (.ireturn) 1 205 := ⟨by decide +kernel, rfl⟩
theorem d_X12_goesOn_205 : DC mX12_goesOn 205 (.iinc 2 1) 3 208 := ⟨by decide +kernel, rfl⟩
theorem d_X12_goesOn_208 : DC mX12_goesOn 208 (.goto (-150)) 3 211 := ⟨by decide +kernel, rfl⟩
theorem d_X12_goesOn_211 : DC mX12_goesOn 211 (.iconst 0) 1 212 := ⟨by decide +kernel, rfl⟩
theorem d_X12_goesOn_212 : DC mX12_goesOn 212 (.ireturn) 1 213 := ⟨by decide +kernel, rfl⟩
theorem d_X12_laysForms_0 : DC mX12_laysForms 0 (.iconst 0) 1 1 := ⟨by decide +kernel, rfl⟩
theorem d_X12_laysForms_1 : DC mX12_laysForms 1 (.istore_n 3) 1 2 := ⟨by decide +kernel, rfl⟩
theorem d_X12_laysForms_2 : DC mX12_laysForms 2 (.iload_n 3) 1 3 := ⟨by decide +kernel, rfl⟩
theorem d_X12_laysForms_3 : DC mX12_laysForms 3 (.bipush 10) 2 5 := ⟨by decide +kernel, rfl⟩
theorem d_X12_laysForms_5 : DC mX12_laysForms 5 (.if_icmp .ge 16) 3 8 := ⟨by decide +kernel, rfl⟩
theorem d_X12_laysForms_8 : DC mX12_laysForms 8 (.aload_n 0) 1 9 := ⟨by decide +kernel, rfl⟩
theorem d_X12_laysForms_9 : DC mX12_laysForms 9 (.getfield 64) 3 12 := ⟨by decide +kernel, rfl⟩
theorem d_X12_laysForms_12 : DC mX12_laysForms 12 (.iload_n 3) 1 13 := ⟨by decide +kernel, rfl⟩
theorem d_X12_laysForms_13 : DC mX12_laysForms 13 (.iconst 0) 1 14 := ⟨by decide +kernel, rfl⟩
theorem d_X12_laysForms_14 : DC mX12_laysForms 14 (.iastore) 1 15 := ⟨by decide +kernel, rfl⟩
theorem d_X12_laysForms_15 : DC mX12_laysForms 15 (.iinc 3 1) 3 18 := ⟨by decide +kernel, rfl⟩
theorem d_X12_laysForms_18 : DC mX12_laysForms 18 (.goto (-16)) 3 21 := ⟨by decide +kernel, rfl⟩
theorem d_X12_laysForms_21 : DC mX12_laysForms 21 (.aload_n 0) 1 22 := ⟨by decide +kernel, rfl⟩
theorem d_X12_laysForms_22 : DC mX12_laysForms 22 (.getfield 20) 3 25 := ⟨by decide +kernel, rfl⟩
theorem d_X12_laysForms_25 : DC mX12_laysForms 25 (.iload_n 1) 1 26 := ⟨by decide +kernel, rfl⟩
theorem d_X12_laysForms_26 : DC mX12_laysForms 26 (.iconst 0) 1 27 := ⟨by decide +kernel, rfl⟩
theorem d_X12_laysForms_27 : DC mX12_laysForms 27 (.invokestatic 339) 3 30 := ⟨by decide +kernel, rfl⟩
theorem d_X12_laysForms_30 : DC mX12_laysForms 30 (.istore_n 3) 1 31 := ⟨by decide +kernel, rfl⟩
theorem d_X12_laysForms_31 : DC mX12_laysForms 31 (.aload_n 0) 1 32 := ⟨by decide +kernel, rfl⟩
theorem d_X12_laysForms_32 : DC mX12_laysForms 32 (.iload_n 3) 1 33 := ⟨by decide +kernel, rfl⟩
theorem d_X12_laysForms_33 : DC mX12_laysForms 33 (.iconst 1) 1 34 := ⟨by decide +kernel, rfl⟩
theorem d_X12_laysForms_34 : DC mX12_laysForms 34 (.invokevirtual 364) 3 37 := ⟨by decide +kernel, rfl⟩
theorem d_X12_laysForms_37 : DC mX12_laysForms 37 (.aload_n 0) 1 38 := ⟨by decide +kernel, rfl⟩
theorem d_X12_laysForms_38 : DC mX12_laysForms 38 (.iload_n 3) 1 39 := ⟨by decide +kernel, rfl⟩
theorem d_X12_laysForms_39 : DC mX12_laysForms 39 (.invokestatic 138) 3 42 := ⟨by decide +kernel, rfl⟩
theorem d_X12_laysForms_42 : DC mX12_laysForms 42 (.putfield 355) 3 45 := ⟨by decide +kernel, rfl⟩
theorem d_X12_laysForms_45 : DC mX12_laysForms 45 (.aload_n 0) 1 46 := ⟨by decide +kernel, rfl⟩
theorem d_X12_laysForms_46 : DC mX12_laysForms 46 (.iload_n 2) 1 47 := ⟨by decide +kernel, rfl⟩
theorem d_X12_laysForms_47 : DC mX12_laysForms 47 (.putfield 361) 3 50 := ⟨by decide +kernel, rfl⟩
theorem d_X12_laysForms_50 : DC mX12_laysForms 50 (.aload_n 0) 1 51 := ⟨by decide +kernel, rfl⟩
theorem d_X12_laysForms_51 : DC mX12_laysForms 51 (.iconst 0) 1 52 := ⟨by decide +kernel, rfl⟩
theorem d_X12_laysForms_52 : DC mX12_laysForms 52 (.putfield 358) 3 55 := ⟨by decide +kernel, rfl⟩
theorem d_X12_laysForms_55 : DC mX12_laysForms 55 (.aload_n 0) 1 56 := ⟨by decide +kernel, rfl⟩
theorem d_X12_laysForms_56 : DC mX12_laysForms 56 (.iconst 0) 1 57 := ⟨by decide +kernel, rfl⟩
theorem d_X12_laysForms_57 : DC mX12_laysForms 57 (.invokevirtual 366) 3 60 := ⟨by decide +kernel, rfl⟩
theorem d_X12_laysForms_60 : DC mX12_laysForms 60 (.ireturn) 1 61 := ⟨by decide +kernel, rfl⟩
theorem d_X12_forms_0 : DC mX12_forms 0 (.aload_n 0) 1 1 := ⟨by decide +kernel, rfl⟩
theorem d_X12_forms_1 : DC mX12_forms 1 (.iconst 0) 1 2 := ⟨by decide +kernel, rfl⟩
theorem d_X12_forms_2 : DC mX12_forms 2 (.putfield 1) 3 5 := ⟨by decide +kernel, rfl⟩
theorem d_X12_forms_5 : DC mX12_forms 5 (.iload_n 1) 1 6 := ⟨by decide +kernel, rfl⟩
theorem d_X12_forms_6 : DC mX12_forms 6 (.invokestatic 199) 3 9 := ⟨by decide +kernel, rfl⟩
theorem d_X12_forms_9 : DC mX12_forms 9 (.ifCond .ne 6) 3 12 := ⟨by decide +kernel, rfl⟩
theorem d_X12_forms_12 : DC mX12_forms 12 (.bipush (-2)) 2 14 := ⟨by decide +kernel, rfl⟩
theorem d_X12_forms_14 : DC mX12_forms 14 (.ireturn) 1 15 := ⟨by decide +kernel, rfl⟩
theorem d_X12_forms_15 : DC mX12_forms 15 (.aload_n 0) 1 16 := ⟨by decide +kernel, rfl⟩
theorem d_X12_forms_16 : DC mX12_forms 16 (.getfield 20) 3 19 := ⟨by decide +kernel, rfl⟩
theorem d_X12_forms_19 : DC mX12_forms 19 (.sipush 161) 3 22 := ⟨by decide +kernel, rfl⟩
theorem d_X12_forms_22 : DC mX12_forms 22 (.iload_n 1) 1 23 := ⟨by decide +kernel, rfl⟩
theorem d_X12_forms_23 : DC mX12_forms 23 (.imul) 1 24 := ⟨by decide +kernel, rfl⟩
theorem d_X12_forms_24 : DC mX12_forms 24 (.iaload) 1 25 := ⟨by decide +kernel, rfl⟩
theorem d_X12_forms_25 : DC mX12_forms 25 (.ifCond .ne 5) 3 28 := ⟨by decide +kernel, rfl⟩
theorem d_X12_forms_28 : DC mX12_forms 28 (.iconst (-1)) 1 29 := ⟨by decide +kernel, rfl⟩
theorem d_X12_forms_29 : DC mX12_forms 29 (.ireturn) 1 30 := ⟨by decide +kernel, rfl⟩
theorem d_X12_forms_30 : DC mX12_forms 30 (.aload_n 0) 1 31 := ⟨by decide +kernel, rfl⟩
theorem d_X12_forms_31 : DC mX12_forms 31 (.iload_n 1) 1 32 := ⟨by decide +kernel, rfl⟩
theorem d_X12_forms_32 : DC mX12_forms 32 (.ldc_w 369) 3 35 := ⟨by decide +kernel, rfl⟩
theorem d_X12_forms_35 : DC mX12_forms 35 (.invokevirtual 370) 3 38 := ⟨by decide +kernel, rfl⟩
theorem d_X12_forms_38 : DC mX12_forms 38 (.istore_n 2) 1 39 := ⟨by decide +kernel, rfl⟩
theorem d_X12_forms_39 : DC mX12_forms 39 (.aload_n 0) 1 40 := ⟨by decide +kernel, rfl⟩
theorem d_X12_forms_40 : DC mX12_forms 40 (.getfield 358) 3 43 := ⟨by decide +kernel, rfl⟩
theorem d_X12_forms_43 : DC mX12_forms 43 (.ireturn) 1 44 := ⟨by decide +kernel, rfl⟩
theorem d_X12_form_0 : DC mX12_form 0 (.aload_n 0) 1 1 := ⟨by decide +kernel, rfl⟩
theorem d_X12_form_1 : DC mX12_form 1 (.iconst 0) 1 2 := ⟨by decide +kernel, rfl⟩
theorem d_X12_form_2 : DC mX12_form 2 (.putfield 1) 3 5 := ⟨by decide +kernel, rfl⟩
theorem d_X12_form_5 : DC mX12_form 5 (.iload_n 1) 1 6 := ⟨by decide +kernel, rfl⟩
theorem d_X12_form_6 : DC mX12_form 6 (.invokestatic 199) 3 9 := ⟨by decide +kernel, rfl⟩
theorem d_X12_form_9 : DC mX12_form 9 (.ifCond .ne 6) 3 12 := ⟨by decide +kernel, rfl⟩
theorem d_X12_form_12 : DC mX12_form 12 (.bipush (-2)) 2 14 := ⟨by decide +kernel, rfl⟩
theorem d_X12_form_14 : DC mX12_form 14 (.ireturn) 1 15 := ⟨by decide +kernel, rfl⟩
theorem d_X12_form_15 : DC mX12_form 15 (.iload_n 2) 1 16 := ⟨by decide +kernel, rfl⟩
theorem d_X12_form_16 : DC mX12_form 16 (.ifCond .lt 7) 3 19 := ⟨by decide +kernel, rfl⟩
theorem d_X12_form_19 : DC mX12_form 19 (.iload_n 3) 1 20 := ⟨by decide +kernel, rfl⟩
theorem d_X12_form_20 : DC mX12_form 20 (.ifCond .ge 6) 3 23 := ⟨by decide +kernel, rfl⟩
theorem d_X12_form_23 : DC mX12_form 23 (.bipush (-3)) 2 25 := ⟨by decide +kernel, rfl⟩
theorem d_X12_form_25 : DC mX12_form 25 (.ireturn) 1 26 := ⟨by decide +kernel, rfl⟩
theorem d_X12_form_26 : DC mX12_form 26 (.aload_n 0) 1 27 := ⟨by decide +kernel, rfl⟩
theorem d_X12_form_27 : DC mX12_form 27 (.getfield 20) 3 30 := ⟨by decide +kernel, rfl⟩
theorem d_X12_form_30 : DC mX12_form 30 (.sipush 161) 3 33 := ⟨by decide +kernel, rfl⟩
theorem d_X12_form_33 : DC mX12_form 33 (.iload_n 1) 1 34 := ⟨by decide +kernel, rfl⟩
theorem d_X12_form_34 : DC mX12_form 34 (.imul) 1 35 := ⟨by decide +kernel, rfl⟩
theorem d_X12_form_35 : DC mX12_form 35 (.iaload) 1 36 := ⟨by decide +kernel, rfl⟩
theorem d_X12_form_36 : DC mX12_form 36 (.ifCond .eq 22) 3 39 := ⟨by decide +kernel, rfl⟩
theorem d_X12_form_39 : DC mX12_form 39 (.aload_n 0) 1 40 := ⟨by decide +kernel, rfl⟩
theorem d_X12_form_40 : DC mX12_form 40 (.iload_n 1) 1 41 := ⟨by decide +kernel, rfl⟩
theorem d_X12_form_41 : DC mX12_form 41 (.iload_n 2) 1 42 := ⟨by decide +kernel, rfl⟩
theorem d_X12_form_42 : DC mX12_form 42 (.invokevirtual 370) 3 45 := ⟨by decide +kernel, rfl⟩
theorem d_X12_form_45 : DC mX12_form 45 (.ifCond .eq 13) 3 48 := ⟨by decide +kernel, rfl⟩
theorem d_X12_form_48 : DC mX12_form 48 (.iload_n 3) 1 49 := ⟨by decide +kernel, rfl⟩
theorem d_X12_form_49 : DC mX12_form 49 (.iconst 3) 1 50 := ⟨by decide +kernel, rfl⟩
theorem d_X12_form_50 : DC mX12_form 50 (.aload_n 0) 1 51 := ⟨by decide +kernel, rfl⟩
theorem d_X12_form_51 : DC mX12_form 51 (.getfield 355) 3 54 := ⟨by decide +kernel, rfl⟩
theorem d_X12_form_54 : DC mX12_form 54 (.imul) 1 55 := ⟨by decide +kernel, rfl⟩
theorem d_X12_form_55 : DC mX12_form 55 (.if_icmp .lt 5) 3 58 := ⟨by decide +kernel, rfl⟩
theorem d_X12_form_58 : DC mX12_form 58 (.iconst (-1)) 1 59 := ⟨by decide +kernel, rfl⟩
theorem d_X12_form_59 : DC mX12_form 59 (.ireturn) 1 60 := ⟨by decide +kernel, rfl⟩
theorem d_X12_form_60 : DC mX12_form 60 (.aload_n 0) 1 61 := ⟨by decide +kernel, rfl⟩
theorem d_X12_form_61 : DC mX12_form 61 (.getfield 17) 3 64 := ⟨by decide +kernel, rfl⟩
theorem d_X12_form_64 : DC mX12_form 64 (.iconst 3) 1 65 := ⟨by decide +kernel, rfl⟩
theorem d_X12_form_65 : DC mX12_form 65 (.aload_n 0) 1 66 := ⟨by decide +kernel, rfl⟩
theorem d_X12_form_66 : DC mX12_form 66 (.getfield 67) 3 69 := ⟨by decide +kernel, rfl⟩
theorem d_X12_form_69 : DC mX12_form 69 (.iload_n 3) 1 70 := ⟨by decide +kernel, rfl⟩
theorem d_X12_form_70 : DC mX12_form 70 (.iconst 3) 1 71 := ⟨by decide +kernel, rfl⟩
theorem d_X12_form_71 : DC mX12_form 71 (.idiv) 1 72 := ⟨by decide +kernel, rfl⟩
theorem d_X12_form_72 : DC mX12_form 72 (.iaload) 1 73 := ⟨by decide +kernel, rfl⟩
theorem d_X12_form_73 : DC mX12_form 73 (.imul) 1 74 := ⟨by decide +kernel, rfl⟩
theorem d_X12_form_74 : DC mX12_form 74 (.iload_n 3) 1 75 := ⟨by decide +kernel, rfl⟩
theorem d_X12_form_75 : DC mX12_form 75 (.iconst 3) 1 76 := ⟨by decide +kernel, rfl⟩
theorem d_X12_form_76 : DC mX12_form 76 (.irem) 1 77 := ⟨by decide +kernel, rfl⟩
theorem d_X12_form_77 : DC mX12_form 77 (.iadd) 1 78 := ⟨by decide +kernel, rfl⟩
theorem d_X12_form_78 : DC mX12_form 78 (.iaload) 1 79 := ⟨by decide +kernel, rfl⟩
theorem d_X12_form_79 : DC mX12_form 79 (.ireturn) 1 80 := ⟨by decide +kernel, rfl⟩
theorem d_X12_columnOf_0 : DC mX12_columnOf 0 (.iconst 0) 1 1 := ⟨by decide +kernel, rfl⟩
theorem d_X12_columnOf_1 : DC mX12_columnOf 1 (.istore_n 2) 1 2 := ⟨by decide +kernel, rfl⟩
theorem d_X12_columnOf_2 : DC mX12_columnOf 2 (.iload_n 2) 1 3 := ⟨by decide +kernel, rfl⟩
theorem d_X12_columnOf_3 : DC mX12_columnOf 3 (.aload_n 0) 1 4 := ⟨by decide +kernel, rfl⟩
theorem d_X12_columnOf_4 : DC mX12_columnOf 4 (.getfield 373) 3 7 := ⟨by decide +kernel, rfl⟩
theorem d_X12_columnOf_7 : DC mX12_columnOf 7 (.if_icmp .ge 21) 3 10 := ⟨by decide +kernel, rfl⟩
theorem d_X12_columnOf_10 : DC mX12_columnOf 10 (.aload_n 0) 1 11 := ⟨by decide +kernel, rfl⟩
theorem d_X12_columnOf_11 : DC mX12_columnOf 11 (.getfield 70) 3 14 := ⟨by decide +kernel, rfl⟩
theorem d_X12_columnOf_14 : DC mX12_columnOf 14 (.iload_n 2) 1 15 := ⟨by decide +kernel, rfl⟩
theorem d_X12_columnOf_15 : DC mX12_columnOf 15 (.iaload) 1 16 := ⟨by decide +kernel, rfl⟩
theorem d_X12_columnOf_16 : DC mX12_columnOf 16 (.iload_n 1) 1 17 := ⟨by decide +kernel, rfl⟩
theorem d_X12_columnOf_17 : DC mX12_columnOf 17 (.if_icmp .ne 5) 3 20 := ⟨by decide +kernel, rfl⟩
theorem d_X12_columnOf_20 : DC mX12_columnOf 20 (.iload_n 2) 1 21 := ⟨by decide +kernel, rfl⟩
theorem d_X12_columnOf_21 : DC mX12_columnOf 21 (.ireturn) 1 22 := ⟨by decide +kernel, rfl⟩
theorem d_X12_columnOf_22 : DC mX12_columnOf 22 (.iinc 2 1) 3 25 := ⟨by decide +kernel, rfl⟩
theorem d_X12_columnOf_25 : DC mX12_columnOf 25 (.goto (-23)) 3 28 := ⟨by decide +kernel, rfl⟩
theorem d_X12_columnOf_28 : DC mX12_columnOf 28 (.aload_n 0) 1 29 := ⟨by decide +kernel, rfl⟩
theorem d_X12_columnOf_29 : DC mX12_columnOf 29 (.getfield 70) 3 32 := ⟨by decide +kernel, rfl⟩
theorem d_X12_columnOf_32 : DC mX12_columnOf 32 (.aload_n 0) 1 33 := ⟨by decide +kernel, rfl⟩
theorem d_X12_columnOf_33 : DC mX12_columnOf 33 (.getfield 373) 3 36 := ⟨by decide +kernel, rfl⟩
theorem d_X12_columnOf_36 : DC mX12_columnOf 36 (.iload_n 1) 1 37 := ⟨by decide +kernel, rfl⟩
theorem d_X12_columnOf_37 : DC mX12_columnOf 37 (.iastore) 1 38 := ⟨by decide +kernel, rfl⟩
theorem d_X12_columnOf_38 : DC mX12_columnOf 38 (.aload_n 0) 1 39 := ⟨by decide +kernel, rfl⟩
theorem d_X12_columnOf_39 : DC mX12_columnOf 39 (.dup) 1 40 := ⟨by decide +kernel, rfl⟩
theorem d_X12_columnOf_40 : DC mX12_columnOf 40 (.getfield 373) 3 43 := ⟨by decide +kernel, rfl⟩
theorem d_X12_columnOf_43 : DC mX12_columnOf 43 (.iconst 1) 1 44 := ⟨by decide +kernel, rfl⟩
theorem d_X12_columnOf_44 : DC mX12_columnOf 44 (.iadd) 1 45 := ⟨by decide +kernel, rfl⟩
theorem d_X12_columnOf_45 : DC mX12_columnOf 45 (.putfield 373) 3 48 := ⟨by decide +kernel, rfl⟩
theorem d_X12_columnOf_48 : DC mX12_columnOf 48 (.aload_n 0) 1 49 := ⟨by decide +kernel, rfl⟩
theorem d_X12_columnOf_49 : DC mX12_columnOf 49 (.getfield 373) 3 52 := ⟨by decide +kernel, rfl⟩
theorem d_X12_columnOf_52 : DC mX12_columnOf 52 (.iconst 1) 1 53 := ⟨by decide +kernel, rfl⟩
theorem d_X12_columnOf_53 : DC mX12_columnOf 53 (.isub) 1 54 := ⟨by decide +kernel, rfl⟩
theorem d_X12_columnOf_54 : DC mX12_columnOf 54 (.ireturn) 1 55 := ⟨by decide +kernel, rfl⟩
theorem d_X12_modulo_0 : DC mX12_modulo 0 (.lload_n 0) 1 1 := ⟨by decide +kernel, rfl⟩
theorem d_X12_modulo_1 : DC mX12_modulo 1 (.ldc2_w 376) 3 4 := ⟨by decide +kernel, rfl⟩
theorem d_X12_modulo_4 : DC mX12_modulo 4 (.lrem) 1 5 := ⟨by decide +kernel, rfl⟩
theorem d_X12_modulo_5 : DC mX12_modulo 5 (.ldc2_w 376) 3 8 := ⟨by decide +kernel, rfl⟩
theorem d_X12_modulo_8 : DC mX12_modulo 8 (.ladd) 1 9 := ⟨by decide +kernel, rfl⟩
theorem d_X12_modulo_9 : DC mX12_modulo 9 (.ldc2_w 376) 3 12 := ⟨by decide +kernel, rfl⟩
theorem d_X12_modulo_12 : DC mX12_modulo 12 (.lrem) 1 13 := ⟨by decide +kernel, rfl⟩
theorem d_X12_modulo_13 : DC mX12_modulo 13 (.lreturn) 1 14 := ⟨by decide +kernel, rfl⟩
theorem d_X12_inverse_0 : DC mX12_inverse 0 (.lconst 1) 1 1 := ⟨by decide +kernel, rfl⟩
theorem d_X12_inverse_1 : DC mX12_inverse 1 (.lstore_n 2) 1 2 := ⟨by decide +kernel, rfl⟩
theorem d_X12_inverse_2 : DC mX12_inverse 2 (.lload_n 0) 1 3 := ⟨by decide +kernel, rfl⟩
theorem d_X12_inverse_3 : DC mX12_inverse 3 (.lstore 4) 2 5 := ⟨by decide +kernel, rfl⟩
theorem d_X12_inverse_5 : DC mX12_inverse 5 (.ldc_w 378) 3 8 := ⟨by decide +kernel, rfl⟩
theorem d_X12_inverse_8 : DC mX12_inverse 8 (.istore 6) 2 10 := ⟨by decide +kernel, rfl⟩
theorem d_X12_inverse_10 : DC mX12_inverse 10 (.iload 6) 2 12 := ⟨by decide +kernel, rfl⟩
theorem d_X12_inverse_12 : DC mX12_inverse 12 (.ifCond .le 44) 3 15 := ⟨by decide +kernel, rfl⟩
theorem d_X12_inverse_15 : DC mX12_inverse 15 (.iload 6) 2 17 := ⟨by decide +kernel, rfl⟩
theorem d_X12_inverse_17 : DC mX12_inverse 17 (.iconst 2) 1 18 := ⟨by decide +kernel, rfl⟩
theorem d_X12_inverse_18 : DC mX12_inverse 18 (.irem) 1 19 := ⟨by decide +kernel, rfl⟩
theorem d_X12_inverse_19 : DC mX12_inverse 19 (.iconst 1) 1 20 := ⟨by decide +kernel, rfl⟩
theorem d_X12_inverse_20 : DC mX12_inverse 20 (.if_icmp .ne 14) 3 23 := ⟨by decide +kernel, rfl⟩
theorem d_X12_inverse_23 : DC mX12_inverse 23 (.lload_n 2) 1 24 := ⟨by decide +kernel, rfl⟩
theorem d_X12_inverse_24 : DC mX12_inverse 24 (.lload 4) 2 26 := ⟨by decide +kernel, rfl⟩
theorem d_X12_inverse_26 : DC mX12_inverse 26 (.lmul) 1 27 := ⟨by decide +kernel, rfl⟩
theorem d_X12_inverse_27 : DC mX12_inverse 27 (.ldc2_w 376) 3 30 := ⟨by decide +kernel, rfl⟩
theorem d_X12_inverse_30 : DC mX12_inverse 30 (.lrem) 1 31 := ⟨by decide +kernel, rfl⟩
theorem d_X12_inverse_31 : DC mX12_inverse 31 (.goto 4) 3 34 := ⟨by decide +kernel, rfl⟩
theorem d_X12_inverse_34 : DC mX12_inverse 34 (.lload_n 2) 1 35 := ⟨by decide +kernel, rfl⟩
theorem d_X12_inverse_35 : DC mX12_inverse 35 (.lstore_n 2) 1 36 := ⟨by decide +kernel, rfl⟩
theorem d_X12_inverse_36 : DC mX12_inverse 36 (.lload 4) 2 38 := ⟨by decide +kernel, rfl⟩
theorem d_X12_inverse_38 : DC mX12_inverse 38 (.lload 4) 2 40 := ⟨by decide +kernel, rfl⟩
theorem d_X12_inverse_40 : DC mX12_inverse 40 (.lmul) 1 41 := ⟨by decide +kernel, rfl⟩
theorem d_X12_inverse_41 : DC mX12_inverse 41 (.ldc2_w 376) 3 44 := ⟨by decide +kernel, rfl⟩
theorem d_X12_inverse_44 : DC mX12_inverse 44 (.lrem) 1 45 := ⟨by decide +kernel, rfl⟩
theorem d_X12_inverse_45 : DC mX12_inverse 45 (.lstore 4) 2 47 := ⟨by decide +kernel, rfl⟩
theorem d_X12_inverse_47 : DC mX12_inverse 47 (.iload 6) 2 49 := ⟨by decide +kernel, rfl⟩
theorem d_X12_inverse_49 : DC mX12_inverse 49 (.iconst 2) 1 50 := ⟨by decide +kernel, rfl⟩
theorem d_X12_inverse_50 : DC mX12_inverse 50 (.idiv) 1 51 := ⟨by decide +kernel, rfl⟩
theorem d_X12_inverse_51 : DC mX12_inverse 51 (.istore 6) 2 53 := ⟨by decide +kernel, rfl⟩
theorem d_X12_inverse_53 : DC mX12_inverse 53 (.goto (-43)) 3 56 := ⟨by decide +kernel, rfl⟩
theorem d_X12_inverse_56 : DC mX12_inverse 56 (.lload_n 2) 1 57 := ⟨by decide +kernel, rfl⟩
theorem d_X12_inverse_57 : DC mX12_inverse 57 (.lreturn) 1 58 := ⟨by decide +kernel, rfl⟩
theorem d_X12_clears_0 : DC mX12_clears 0 (.aload_n 0) 1 1 := ⟨by decide +kernel, rfl⟩
theorem d_X12_clears_1 : DC mX12_clears 1 (.getfield 73) 3 4 := ⟨by decide +kernel, rfl⟩
theorem d_X12_clears_4 : DC mX12_clears 4 (.sipush 480) 3 7 := ⟨by decide +kernel, rfl⟩
theorem d_X12_clears_7 : DC mX12_clears 7 (.iload_n 1) 1 8 := ⟨by decide +kernel, rfl⟩
theorem d_X12_clears_8 : DC mX12_clears 8 (.imul) 1 9 := ⟨by decide +kernel, rfl⟩
theorem d_X12_clears_9 : DC mX12_clears 9 (.iload_n 3) 1 10 := ⟨by decide +kernel, rfl⟩
theorem d_X12_clears_10 : DC mX12_clears 10 (.iadd) 1 11 := ⟨by decide +kernel, rfl⟩
theorem d_X12_clears_11 : DC mX12_clears 11 (.laload) 1 12 := ⟨by decide +kernel, rfl⟩
theorem d_X12_clears_12 : DC mX12_clears 12 (.invokestatic 379) 3 15 := ⟨by decide +kernel, rfl⟩
theorem d_X12_clears_15 : DC mX12_clears 15 (.lstore 4) 2 17 := ⟨by decide +kernel, rfl⟩
theorem d_X12_clears_17 : DC mX12_clears 17 (.iload_n 1) 1 18 := ⟨by decide +kernel, rfl⟩
theorem d_X12_clears_18 : DC mX12_clears 18 (.iconst 1) 1 19 := ⟨by decide +kernel, rfl⟩
theorem d_X12_clears_19 : DC mX12_clears 19 (.iadd) 1 20 := ⟨by decide +kernel, rfl⟩
theorem d_X12_clears_20 : DC mX12_clears 20 (.istore 6) 2 22 := ⟨by decide +kernel, rfl⟩
theorem d_X12_clears_22 : DC mX12_clears 22 (.iload 6) 2 24 := ⟨by decide +kernel, rfl⟩
theorem d_X12_clears_24 : DC mX12_clears 24 (.iload_n 2) 1 25 := ⟨by decide +kernel, rfl⟩
theorem d_X12_clears_25 : DC mX12_clears 25 (.if_icmp .ge 101) 3 28 := ⟨by decide +kernel, rfl⟩
theorem d_X12_clears_28 : DC mX12_clears 28 (.aload_n 0) 1 29 := ⟨by decide +kernel, rfl⟩
theorem d_X12_clears_29 : DC mX12_clears 29 (.getfield 73) 3 32 := ⟨by decide +kernel, rfl⟩
theorem d_X12_clears_32 : DC mX12_clears 32 (.sipush 480) 3 35 := ⟨by decide +kernel, rfl⟩
theorem d_X12_clears_35 : DC mX12_clears 35 (.iload 6) 2 37 := ⟨by decide +kernel, rfl⟩
theorem d_X12_clears_37 : DC mX12_clears 37 (.imul) 1 38 := ⟨by decide +kernel, rfl⟩
theorem d_X12_clears_38 : DC mX12_clears 38 (.iload_n 3) 1 39 := ⟨by decide +kernel, rfl⟩
theorem d_X12_clears_39 : DC mX12_clears 39 (.iadd) 1 40 := ⟨by decide +kernel, rfl⟩
theorem d_X12_clears_40 : DC mX12_clears 40 (.laload) 1 41 := ⟨by decide +kernel, rfl⟩
theorem d_X12_clears_41 : DC mX12_clears 41 (.lload 4) 2 43 := ⟨by decide +kernel, rfl⟩
theorem d_X12_clears_43 : DC mX12_clears 43 (.lmul) 1 44 := ⟨by decide +kernel, rfl⟩
theorem d_X12_clears_44 : DC mX12_clears 44 (.ldc2_w 376) 3 47 := ⟨by decide +kernel, rfl⟩
theorem d_X12_clears_47 : DC mX12_clears 47 (.lrem) 1 48 := ⟨by decide +kernel, rfl⟩
theorem d_X12_clears_48 : DC mX12_clears 48 (.lstore 7) 2 50 := ⟨by decide +kernel, rfl⟩
theorem d_X12_clears_50 : DC mX12_clears 50 (.iconst 0) 1 51 := ⟨by decide +kernel, rfl⟩
theorem d_X12_clears_51 : DC mX12_clears 51 (.istore 9) 2 53 := ⟨by decide +kernel, rfl⟩
theorem d_X12_clears_53 : DC mX12_clears 53 (.iload 9) 2 55 := ⟨by decide +kernel, rfl⟩
theorem d_X12_clears_55 : DC mX12_clears 55 (.aload_n 0) 1 56 := ⟨by decide +kernel, rfl⟩
theorem d_X12_clears_56 : DC mX12_clears 56 (.getfield 373) 3 59 := ⟨by decide +kernel, rfl⟩
theorem d_X12_clears_59 : DC mX12_clears 59 (.if_icmp .ge 61) 3 62 := ⟨by decide +kernel, rfl⟩
theorem d_X12_clears_62 : DC mX12_clears 62 (.aload_n 0) 1 63 := ⟨by decide +kernel, rfl⟩
theorem d_X12_clears_63 : DC mX12_clears 63 (.getfield 73) 3 66 := ⟨by decide +kernel, rfl⟩
theorem d_X12_clears_66 : DC mX12_clears 66 (.sipush 480) 3 69 := ⟨by decide +kernel, rfl⟩
theorem d_X12_clears_69 : DC mX12_clears 69 (.iload 6) 2 71 := ⟨by decide +kernel, rfl⟩
theorem d_X12_clears_71 : DC mX12_clears 71 (.imul) 1 72 := ⟨by decide +kernel, rfl⟩
theorem d_X12_clears_72 : DC mX12_clears 72 (.iload 9) 2 74 := ⟨by decide +kernel, rfl⟩
theorem d_X12_clears_74 : DC mX12_clears 74 (.iadd) 1 75 := ⟨by decide +kernel, rfl⟩
theorem d_X12_clears_75 : DC mX12_clears 75 (.aload_n 0) 1 76 := ⟨by decide +kernel, rfl⟩
theorem d_X12_clears_76 : DC mX12_clears 76 (.getfield 73) 3 79 := ⟨by decide +kernel, rfl⟩
theorem d_X12_clears_79 : DC mX12_clears 79 (.sipush 480) 3 82 := ⟨by decide +kernel, rfl⟩
theorem d_X12_clears_82 : DC mX12_clears 82 (.iload 6) 2 84 := ⟨by decide +kernel, rfl⟩
theorem d_X12_clears_84 : DC mX12_clears 84 (.imul) 1 85 := ⟨by decide +kernel, rfl⟩
theorem d_X12_clears_85 : DC mX12_clears 85 (.iload 9) 2 87 := ⟨by decide +kernel, rfl⟩
theorem d_X12_clears_87 : DC mX12_clears 87 (.iadd) 1 88 := ⟨by decide +kernel, rfl⟩
theorem d_X12_clears_88 : DC mX12_clears 88 (.laload) 1 89 := ⟨by decide +kernel, rfl⟩
theorem d_X12_clears_89 : DC mX12_clears 89 (.lload 7) 2 91 := ⟨by decide +kernel, rfl⟩
theorem d_X12_clears_91 : DC mX12_clears 91 (.aload_n 0) 1 92 := ⟨by decide +kernel, rfl⟩
theorem d_X12_clears_92 : DC mX12_clears 92 (.getfield 73) 3 95 := ⟨by decide +kernel, rfl⟩
theorem d_X12_clears_95 : DC mX12_clears 95 (.sipush 480) 3 98 := ⟨by decide +kernel, rfl⟩
theorem d_X12_clears_98 : DC mX12_clears 98 (.iload_n 1) 1 99 := ⟨by decide +kernel, rfl⟩
theorem d_X12_clears_99 : DC mX12_clears 99 (.imul) 1 100 := ⟨by decide +kernel, rfl⟩
theorem d_X12_clears_100 : DC mX12_clears 100 (.iload 9) 2 102 := ⟨by decide +kernel, rfl⟩
theorem d_X12_clears_102 : DC mX12_clears 102 (.iadd) 1 103 := ⟨by decide +kernel, rfl⟩
theorem d_X12_clears_103 : DC mX12_clears 103 (.laload) 1 104 := ⟨by decide +kernel, rfl⟩
theorem d_X12_clears_104 : DC mX12_clears 104 (.lmul) 1 105 := ⟨by decide +kernel, rfl⟩
theorem d_X12_clears_105 : DC mX12_clears 105 (.ldc2_w 376) 3 108 := ⟨by decide +kernel, rfl⟩
theorem d_X12_clears_108 : DC mX12_clears 108 (.lrem) 1 109 := ⟨by decide +kernel, rfl⟩
theorem d_X12_clears_109 : DC mX12_clears 109 (.lsub) 1 110 := ⟨by decide +kernel, rfl⟩
theorem d_X12_clears_110 : DC mX12_clears 110 (.invokestatic 383) 3 113 := ⟨by decide +kernel, rfl⟩
theorem d_X12_clears_113 : DC mX12_clears 113 (.lastore) 1 114 := ⟨by decide +kernel, rfl⟩
theorem d_X12_clears_114 : DC mX12_clears 114 (.iinc 9 1) 3 117 := ⟨by decide +kernel, rfl⟩
theorem d_X12_clears_117 : DC mX12_clears 117 (.goto (-64)) 3 120 := ⟨by decide +kernel, rfl⟩
theorem d_X12_clears_120 : DC mX12_clears 120 (.iinc 6 1) 3 123 := ⟨by decide +kernel, rfl⟩
theorem d_X12_clears_123 : DC mX12_clears 123 (.goto (-101)) 3 126 := ⟨by decide +kernel, rfl⟩
theorem d_X12_clears_126 : DC mX12_clears 126 (.return_) 1 127 := ⟨by decide +kernel, rfl⟩
theorem d_X12_swapsRows_0 : DC mX12_swapsRows 0 (.iconst 0) 1 1 := ⟨by decide +kernel, rfl⟩
theorem d_X12_swapsRows_1 : DC mX12_swapsRows 1 (.istore_n 3) 1 2 := ⟨by decide +kernel, rfl⟩
theorem d_X12_swapsRows_2 : DC mX12_swapsRows 2 (.iload_n 3) 1 3 := ⟨by decide +kernel, rfl⟩
theorem d_X12_swapsRows_3 : DC mX12_swapsRows 3 (.aload_n 0) 1 4 := ⟨by decide +kernel, rfl⟩
theorem d_X12_swapsRows_4 : DC mX12_swapsRows 4 (.getfield 373) 3 7 := ⟨by decide +kernel, rfl⟩
theorem d_X12_swapsRows_7 : DC mX12_swapsRows 7 (.if_icmp .ge 61) 3 10 := ⟨by decide +kernel, rfl⟩
theorem d_X12_swapsRows_10 : DC mX12_swapsRows 10 (.aload_n 0) 1 11 := ⟨by decide +kernel, rfl⟩
theorem d_X12_swapsRows_11 : DC mX12_swapsRows 11 (.getfield 73) 3 14 := ⟨by decide +kernel, rfl⟩
theorem d_X12_swapsRows_14 : DC mX12_swapsRows 14 (.sipush 480) 3 17 := ⟨by decide +kernel, rfl⟩
theorem d_X12_swapsRows_17 : DC mX12_swapsRows 17 (.iload_n 1) 1 18 := ⟨by decide +kernel, rfl⟩
theorem d_X12_swapsRows_18 : DC mX12_swapsRows 18 (.imul) 1 19 := ⟨by decide +kernel, rfl⟩
theorem d_X12_swapsRows_19 : DC mX12_swapsRows 19 (.iload_n 3) 1 20 := ⟨by decide +kernel, rfl⟩
theorem d_X12_swapsRows_20 : DC mX12_swapsRows 20 (.iadd) 1 21 := ⟨by decide +kernel, rfl⟩
theorem d_X12_swapsRows_21 : DC mX12_swapsRows 21 (.laload) 1 22 := ⟨by decide +kernel, rfl⟩
theorem d_X12_swapsRows_22 : DC mX12_swapsRows 22 (.lstore 4) 2 24 := ⟨by decide +kernel, rfl⟩
theorem d_X12_swapsRows_24 : DC mX12_swapsRows 24 (.aload_n 0) 1 25 := ⟨by decide +kernel, rfl⟩
theorem d_X12_swapsRows_25 : DC mX12_swapsRows 25 (.getfield 73) 3 28 := ⟨by decide +kernel, rfl⟩
theorem d_X12_swapsRows_28 : DC mX12_swapsRows 28 (.sipush 480) 3 31 := ⟨by decide +kernel, rfl⟩
theorem d_X12_swapsRows_31 : DC mX12_swapsRows 31 (.iload_n 1) 1 32 := ⟨by decide +kernel, rfl⟩
theorem d_X12_swapsRows_32 : DC mX12_swapsRows 32 (.imul) 1 33 := ⟨by decide +kernel, rfl⟩
theorem d_X12_swapsRows_33 : DC mX12_swapsRows 33 (.iload_n 3) 1 34 := ⟨by decide +kernel, rfl⟩
theorem d_X12_swapsRows_34 : DC mX12_swapsRows 34 (.iadd) 1 35 := ⟨by decide +kernel, rfl⟩
theorem d_X12_swapsRows_35 : DC mX12_swapsRows 35 (.aload_n 0) 1 36 := ⟨by decide +kernel, rfl⟩
theorem d_X12_swapsRows_36 : DC mX12_swapsRows 36 (.getfield 73) 3 39 := ⟨by decide +kernel, rfl⟩
theorem d_X12_swapsRows_39 : DC mX12_swapsRows 39 (.sipush 480) 3 42 := ⟨by decide +kernel, rfl⟩
theorem d_X12_swapsRows_42 : DC mX12_swapsRows 42 (.iload_n 2) 1 43 := ⟨by decide +kernel, rfl⟩
theorem d_X12_swapsRows_43 : DC mX12_swapsRows 43 (.imul) 1 44 := ⟨by decide +kernel, rfl⟩
theorem d_X12_swapsRows_44 : DC mX12_swapsRows 44 (.iload_n 3) 1 45 := ⟨by decide +kernel, rfl⟩
theorem d_X12_swapsRows_45 : DC mX12_swapsRows 45 (.iadd) 1 46 := ⟨by decide +kernel, rfl⟩
theorem d_X12_swapsRows_46 : DC mX12_swapsRows 46 (.laload) 1 47 := ⟨by decide +kernel, rfl⟩
theorem d_X12_swapsRows_47 : DC mX12_swapsRows 47 (.lastore) 1 48 := ⟨by decide +kernel, rfl⟩
theorem d_X12_swapsRows_48 : DC mX12_swapsRows 48 (.aload_n 0) 1 49 := ⟨by decide +kernel, rfl⟩
theorem d_X12_swapsRows_49 : DC mX12_swapsRows 49 (.getfield 73) 3 52 := ⟨by decide +kernel, rfl⟩
theorem d_X12_swapsRows_52 : DC mX12_swapsRows 52 (.sipush 480) 3 55 := ⟨by decide +kernel, rfl⟩
theorem d_X12_swapsRows_55 : DC mX12_swapsRows 55 (.iload_n 2) 1 56 := ⟨by decide +kernel, rfl⟩
theorem d_X12_swapsRows_56 : DC mX12_swapsRows 56 (.imul) 1 57 := ⟨by decide +kernel, rfl⟩
theorem d_X12_swapsRows_57 : DC mX12_swapsRows 57 (.iload_n 3) 1 58 := ⟨by decide +kernel, rfl⟩
theorem d_X12_swapsRows_58 : DC mX12_swapsRows 58 (.iadd) 1 59 := ⟨by decide +kernel, rfl⟩
theorem d_X12_swapsRows_59 : DC mX12_swapsRows 59 (.lload 4) 2 61 := ⟨by decide +kernel, rfl⟩
theorem d_X12_swapsRows_61 : DC mX12_swapsRows 61 (.lastore) 1 62 := ⟨by decide +kernel, rfl⟩
theorem d_X12_swapsRows_62 : DC mX12_swapsRows 62 (.iinc 3 1) 3 65 := ⟨by decide +kernel, rfl⟩
theorem d_X12_swapsRows_65 : DC mX12_swapsRows 65 (.goto (-63)) 3 68 := ⟨by decide +kernel, rfl⟩
theorem d_X12_swapsRows_68 : DC mX12_swapsRows 68 (.return_) 1 69 := ⟨by decide +kernel, rfl⟩
theorem d_X12_rank_0 : DC mX12_rank 0 (.aload_n 0) 1 1 := ⟨by decide +kernel, rfl⟩
theorem d_X12_rank_1 : DC mX12_rank 1 (.iconst 0) 1 2 := ⟨by decide +kernel, rfl⟩
theorem d_X12_rank_2 : DC mX12_rank 2 (.putfield 1) 3 5 := ⟨by decide +kernel, rfl⟩
theorem d_X12_rank_5 : DC mX12_rank 5 (.iload_n 1) 1 6 := ⟨by decide +kernel, rfl⟩
theorem d_X12_rank_6 : DC mX12_rank 6 (.i2l) 1 7 := ⟨by decide +kernel, rfl⟩
theorem d_X12_rank_7 : DC mX12_rank 7 (.lconst 0) 1 8 := ⟨by decide +kernel, rfl⟩
theorem d_X12_rank_8 : DC mX12_rank 8 (.ldc2_w 386) 3 11 := ⟨by decide +kernel, rfl⟩
theorem d_X12_rank_11 : DC mX12_rank 11 (.invokestatic 91) 3 14 := ⟨by decide +kernel, rfl⟩
theorem d_X12_rank_14 : DC mX12_rank 14 (.ifCond .ne 10) 3 17 := ⟨by decide +kernel, rfl⟩
theorem d_X12_rank_17 : DC mX12_rank 17 (.aload_n 0) 1 18 := ⟨by decide +kernel, rfl⟩
theorem d_X12_rank_18 : DC mX12_rank 18 (.bipush (-2)) 2 20 := ⟨by decide +kernel, rfl⟩
theorem d_X12_rank_20 : DC mX12_rank 20 (.invokevirtual 218) 3 23 := ⟨by decide +kernel, rfl⟩
theorem d_X12_rank_23 : DC mX12_rank 23 (.ireturn) 1 24 := ⟨by decide +kernel, rfl⟩
theorem d_X12_rank_24 : DC mX12_rank 24 (.aload_n 0) 1 25 := ⟨by decide +kernel, rfl⟩
theorem d_X12_rank_25 : DC mX12_rank 25 (.invokevirtual 202) 3 28 := ⟨by decide +kernel, rfl⟩
theorem d_X12_rank_28 : DC mX12_rank 28 (.aload_n 0) 1 29 := ⟨by decide +kernel, rfl⟩
theorem d_X12_rank_29 : DC mX12_rank 29 (.iconst 0) 1 30 := ⟨by decide +kernel, rfl⟩
theorem d_X12_rank_30 : DC mX12_rank 30 (.putfield 187) 3 33 := ⟨by decide +kernel, rfl⟩
theorem d_X12_rank_33 : DC mX12_rank 33 (.aload_n 0) 1 34 := ⟨by decide +kernel, rfl⟩
theorem d_X12_rank_34 : DC mX12_rank 34 (.iconst 0) 1 35 := ⟨by decide +kernel, rfl⟩
theorem d_X12_rank_35 : DC mX12_rank 35 (.putfield 373) 3 38 := ⟨by decide +kernel, rfl⟩
theorem d_X12_rank_38 : DC mX12_rank 38 (.iconst 0) 1 39 := ⟨by decide +kernel, rfl⟩
theorem d_X12_rank_39 : DC mX12_rank 39 (.istore_n 2) 1 40 := ⟨by decide +kernel, rfl⟩
theorem d_X12_rank_40 : DC mX12_rank 40 (.iconst 0) 1 41 := ⟨by decide +kernel, rfl⟩
theorem d_X12_rank_41 : DC mX12_rank 41 (.istore_n 3) 1 42 := ⟨by decide +kernel, rfl⟩
theorem d_X12_rank_42 : DC mX12_rank 42 (.iload_n 3) 1 43 := ⟨by decide +kernel, rfl⟩
theorem d_X12_rank_43 : DC mX12_rank 43 (.sipush 2880) 3 46 := ⟨by decide +kernel, rfl⟩
theorem d_X12_rank_46 : DC mX12_rank 46 (.if_icmp .ge 16) 3 49 := ⟨by decide +kernel, rfl⟩
theorem d_X12_rank_49 : DC mX12_rank 49 (.aload_n 0) 1 50 := ⟨by decide +kernel, rfl⟩
theorem d_X12_rank_50 : DC mX12_rank 50 (.getfield 73) 3 53 := ⟨by decide +kernel, rfl⟩
theorem d_X12_rank_53 : DC mX12_rank 53 (.iload_n 3) 1 54 := ⟨by decide +kernel, rfl⟩
theorem d_X12_rank_54 : DC mX12_rank 54 (.lconst 0) 1 55 := ⟨by decide +kernel, rfl⟩
theorem d_X12_rank_55 : DC mX12_rank 55 (.lastore) 1 56 := ⟨by decide +kernel, rfl⟩
theorem d_X12_rank_56 : DC mX12_rank 56 (.iinc 3 1) 3 59 := ⟨by decide +kernel, rfl⟩
theorem d_X12_rank_59 : DC mX12_rank 59 (.goto (-17)) 3 62 := ⟨by decide +kernel, rfl⟩
theorem d_X12_rank_62 : DC mX12_rank 62 (.iconst 0) 1 63 := ⟨by decide +kernel, rfl⟩
theorem d_X12_rank_63 : DC mX12_rank 63 (.istore_n 3) 1 64 := ⟨by decide +kernel, rfl⟩
theorem d_X12_rank_64 : DC mX12_rank 64 (.iload_n 3) 1 65 := ⟨by decide +kernel, rfl⟩
theorem d_X12_rank_65 : DC mX12_rank 65 (.bipush 6) 2 67 := ⟨by decide +kernel, rfl⟩
theorem d_X12_rank_67 : DC mX12_rank 67 (.if_icmp .ge 91) 3 70 := ⟨by decide +kernel, rfl⟩
theorem d_X12_rank_70 : DC mX12_rank 70 (.iload_n 1) 1 71 := ⟨by decide +kernel, rfl⟩
theorem d_X12_rank_71 : DC mX12_rank 71 (.iload_n 3) 1 72 := ⟨by decide +kernel, rfl⟩
theorem d_X12_rank_72 : DC mX12_rank 72 (.ishr) 1 73 := ⟨by decide +kernel, rfl⟩
theorem d_X12_rank_73 : DC mX12_rank 73 (.iconst 1) 1 74 := ⟨by decide +kernel, rfl⟩
theorem d_X12_rank_74 : DC mX12_rank 74 (.iand) 1 75 := ⟨by decide +kernel, rfl⟩
theorem d_X12_rank_75 : DC mX12_rank 75 (.ifCond .ne 6) 3 78 := ⟨by decide +kernel, rfl⟩
theorem d_X12_rank_78 : DC mX12_rank 78 (.goto 74) 3 81 := ⟨by decide +kernel, rfl⟩
theorem d_X12_rank_81 : DC mX12_rank 81 (.aload_n 0) 1 82 := ⟨by decide +kernel, rfl⟩
theorem d_X12_rank_82 : DC mX12_rank 82 (.iload_n 3) 1 83 := ⟨by decide +kernel, rfl⟩
theorem d_X12_rank_83 : DC mX12_rank 83 (.iconst 3) 1 84 := ⟨by decide +kernel, rfl⟩
theorem d_X12_rank_84 : DC mX12_rank 84 (.invokevirtual 349) 3 87 := ⟨by decide +kernel, rfl⟩
theorem d_X12_rank_87 : DC mX12_rank 87 (.istore 4) 2 89 := ⟨by decide +kernel, rfl⟩
theorem d_X12_rank_89 : DC mX12_rank 89 (.iload 4) 2 91 := ⟨by decide +kernel, rfl⟩
theorem d_X12_rank_91 : DC mX12_rank 91 (.ifCond .eq 6) 3 94 := ⟨by decide +kernel, rfl⟩
theorem d_X12_rank_94 : DC mX12_rank 94 (.iload 4) 2 96 := ⟨by decide +kernel, rfl⟩
theorem d_X12_rank_96 : DC mX12_rank 96 (.ireturn) 1 97 := ⟨by decide +kernel, rfl⟩
theorem d_X12_rank_97 : DC mX12_rank 97 (.iconst 0) 1 98 := ⟨by decide +kernel, rfl⟩
theorem d_X12_rank_98 : DC mX12_rank 98 (.istore 5) 2 100 := ⟨by decide +kernel, rfl⟩
theorem d_X12_rank_100 : DC mX12_rank 100 (.iload 5) 2 102 := ⟨by decide +kernel, rfl⟩
theorem d_X12_rank_102 : DC mX12_rank 102 (.aload_n 0) 1 103 := ⟨by decide +kernel, rfl⟩
theorem d_X12_rank_103 : DC mX12_rank 103 (.iconst 3) 1 104 := ⟨by decide +kernel, rfl⟩
theorem d_X12_rank_104 : DC mX12_rank 104 (.invokevirtual 113) 3 107 := ⟨by decide +kernel, rfl⟩
theorem d_X12_rank_107 : DC mX12_rank 107 (.if_icmp .ge 42) 3 110 := ⟨by decide +kernel, rfl⟩
theorem d_X12_rank_110 : DC mX12_rank 110 (.aload_n 0) 1 111 := ⟨by decide +kernel, rfl⟩
theorem d_X12_rank_111 : DC mX12_rank 111 (.getfield 73) 3 114 := ⟨by decide +kernel, rfl⟩
theorem d_X12_rank_114 : DC mX12_rank 114 (.sipush 480) 3 117 := ⟨by decide +kernel, rfl⟩
theorem d_X12_rank_117 : DC mX12_rank 117 (.iload_n 2) 1 118 := ⟨by decide +kernel, rfl⟩
theorem d_X12_rank_118 : DC mX12_rank 118 (.imul) 1 119 := ⟨by decide +kernel, rfl⟩
theorem d_X12_rank_119 : DC mX12_rank 119 (.aload_n 0) 1 120 := ⟨by decide +kernel, rfl⟩
theorem d_X12_rank_120 : DC mX12_rank 120 (.aload_n 0) 1 121 := ⟨by decide +kernel, rfl⟩
theorem d_X12_rank_121 : DC mX12_rank 121 (.iconst 3) 1 122 := ⟨by decide +kernel, rfl⟩
theorem d_X12_rank_122 : DC mX12_rank 122 (.iload 5) 2 124 := ⟨by decide +kernel, rfl⟩
theorem d_X12_rank_124 : DC mX12_rank 124 (.invokevirtual 117) 3 127 := ⟨by decide +kernel, rfl⟩
theorem d_X12_rank_127 : DC mX12_rank 127 (.invokevirtual 388) 3 130 := ⟨by decide +kernel, rfl⟩
theorem d_X12_rank_130 : DC mX12_rank 130 (.iadd) 1 131 := ⟨by decide +kernel, rfl⟩
theorem d_X12_rank_131 : DC mX12_rank 131 (.aload_n 0) 1 132 := ⟨by decide +kernel, rfl⟩
theorem d_X12_rank_132 : DC mX12_rank 132 (.iconst 3) 1 133 := ⟨by decide +kernel, rfl⟩
theorem d_X12_rank_133 : DC mX12_rank 133 (.iload 5) 2 135 := ⟨by decide +kernel, rfl⟩
theorem d_X12_rank_135 : DC mX12_rank 135 (.invokevirtual 132) 3 138 := ⟨by decide +kernel, rfl⟩
theorem d_X12_rank_138 : DC mX12_rank 138 (.i2l) 1 139 := ⟨by decide +kernel, rfl⟩
theorem d_X12_rank_139 : DC mX12_rank 139 (.invokestatic 383) 3 142 := ⟨by decide +kernel, rfl⟩
theorem d_X12_rank_142 : DC mX12_rank 142 (.lastore) 1 143 := ⟨by decide +kernel, rfl⟩
theorem d_X12_rank_143 : DC mX12_rank 143 (.iinc 5 1) 3 146 := ⟨by decide +kernel, rfl⟩
theorem d_X12_rank_146 : DC mX12_rank 146 (.goto (-46)) 3 149 := ⟨by decide +kernel, rfl⟩
theorem d_X12_rank_149 : DC mX12_rank 149 (.iinc 2 1) 3 152 := ⟨by decide +kernel, rfl⟩
theorem d_X12_rank_152 : DC mX12_rank 152 (.iinc 3 1) 3 155 := ⟨by decide +kernel, rfl⟩
theorem d_X12_rank_155 : DC mX12_rank 155 (.goto (-91)) 3 158 := ⟨by decide +kernel, rfl⟩
theorem d_X12_rank_158 : DC mX12_rank 158 (.iconst 0) 1 159 := ⟨by decide +kernel, rfl⟩
theorem d_X12_rank_159 : DC mX12_rank 159 (.istore_n 3) 1 160 := ⟨by decide +kernel, rfl⟩
theorem d_X12_rank_160 : DC mX12_rank 160 (.iconst 0) 1 161 := ⟨by decide +kernel, rfl⟩
theorem d_X12_rank_161 : DC mX12_rank 161 (.istore 4) 2 163 := ⟨by decide +kernel, rfl⟩
theorem d_X12_rank_163 : DC mX12_rank 163 (.iload 4) 2 165 := ⟨by decide +kernel, rfl⟩
theorem d_X12_rank_165 : DC mX12_rank 165 (.aload_n 0) 1 166 := ⟨by decide +kernel, rfl⟩
theorem d_X12_rank_166 : DC mX12_rank 166 (.getfield 373) 3 169 := ⟨by decide +kernel, rfl⟩
theorem d_X12_rank_169 : DC mX12_rank 169 (.if_icmp .ge 75) 3 172 := ⟨by decide +kernel, rfl⟩
theorem d_X12_rank_172 : DC mX12_rank 172 (.iload_n 3) 1 173 := ⟨by decide +kernel, rfl⟩
theorem d_X12_rank_173 : DC mX12_rank 173 (.iload_n 2) 1 174 := ⟨by decide +kernel, rfl⟩
theorem d_X12_rank_174 : DC mX12_rank 174 (.if_icmp .ge 70) 3 177 := ⟨by decide +kernel, rfl⟩
theorem d_X12_rank_177 : DC mX12_rank 177 (.iload_n 3) 1 178 := ⟨by decide +kernel, rfl⟩
theorem d_X12_rank_178 : DC mX12_rank 178 (.istore 5) 2 180 := ⟨by decide +kernel, rfl⟩
theorem d_X12_rank_180 : DC mX12_rank 180 (.iload 5) 2 182 := ⟨by decide +kernel, rfl⟩
theorem d_X12_rank_182 : DC mX12_rank 182 (.iload_n 2) 1 183 := ⟨by decide +kernel, rfl⟩
theorem d_X12_rank_183 : DC mX12_rank 183 (.if_icmp .ge 28) 3 186 := ⟨by decide +kernel, rfl⟩
theorem d_X12_rank_186 : DC mX12_rank 186 (.aload_n 0) 1 187 := ⟨by decide +kernel, rfl⟩
theorem d_X12_rank_187 : DC mX12_rank 187 (.getfield 73) 3 190 := ⟨by decide +kernel, rfl⟩
theorem d_X12_rank_190 : DC mX12_rank 190 (.sipush 480) 3 193 := ⟨by decide +kernel, rfl⟩
theorem d_X12_rank_193 : DC mX12_rank 193 (.iload 5) 2 195 := ⟨by decide +kernel, rfl⟩
theorem d_X12_rank_195 : DC mX12_rank 195 (.imul) 1 196 := ⟨by decide +kernel, rfl⟩
theorem d_X12_rank_196 : DC mX12_rank 196 (.iload 4) 2 198 := ⟨by decide +kernel, rfl⟩
theorem d_X12_rank_198 : DC mX12_rank 198 (.iadd) 1 199 := ⟨by decide +kernel, rfl⟩
theorem d_X12_rank_199 : DC mX12_rank 199 (.laload) 1 200 := ⟨by decide +kernel, rfl⟩
theorem d_X12_rank_200 : DC mX12_rank 200 (.lconst 0) 1 201 := ⟨by decide +kernel, rfl⟩
theorem d_X12_rank_201 : DC mX12_rank 201 (.lcmp) 1 202 := ⟨by decide +kernel, rfl⟩
theorem d_X12_rank_202 : DC mX12_rank 202 (.ifCond .ne 9) 3 205 := ⟨by decide +kernel, rfl⟩
theorem d_X12_rank_205 : DC mX12_rank 205 (.iinc 5 1) 3 208 := ⟨by decide +kernel, rfl⟩
theorem d_X12_rank_208 : DC mX12_rank 208 (.goto (-28)) 3 211 := ⟨by decide +kernel, rfl⟩
theorem d_X12_rank_211 : DC mX12_rank 211 (.iload 5) 2 213 := ⟨by decide +kernel, rfl⟩
theorem d_X12_rank_213 : DC mX12_rank 213 (.iload_n 2) 1 214 := ⟨by decide +kernel, rfl⟩
theorem d_X12_rank_214 : DC mX12_rank 214 (.if_icmp .ne 6) 3 217 := ⟨by decide +kernel, rfl⟩
theorem d_X12_rank_217 : DC mX12_rank 217 (.goto 21) 3 220 := ⟨by decide +kernel, rfl⟩
theorem d_X12_rank_220 : DC mX12_rank 220 (.aload_n 0) 1 221 := ⟨by decide +kernel, rfl⟩
theorem d_X12_rank_221 : DC mX12_rank 221 (.iload 5) 2 223 := ⟨by decide +kernel, rfl⟩
theorem d_X12_rank_223 : DC mX12_rank 223 (.iload_n 3) 1 224 := ⟨by decide +kernel, rfl⟩
theorem d_X12_rank_224 : DC mX12_rank 224 (.invokevirtual 391) 3 227 := ⟨by decide +kernel, rfl⟩
theorem d_X12_rank_227 : DC mX12_rank 227 (.aload_n 0) 1 228 := ⟨by decide +kernel, rfl⟩
theorem d_X12_rank_228 : DC mX12_rank 228 (.iload_n 3) 1 229 := ⟨by decide +kernel, rfl⟩
theorem d_X12_rank_229 : DC mX12_rank 229 (.iload_n 2) 1 230 := ⟨by decide +kernel, rfl⟩
theorem d_X12_rank_230 : DC mX12_rank 230 (.iload 4) 2 232 := ⟨by decide +kernel, rfl⟩
theorem d_X12_rank_232 : DC mX12_rank 232 (.invokevirtual 394) 3 235 := ⟨by decide +kernel, rfl⟩
theorem d_X12_rank_235 : DC mX12_rank 235 (.iinc 3 1) 3 238 := ⟨by decide +kernel, rfl⟩
theorem d_X12_rank_238 : DC mX12_rank 238 (.iinc 4 1) 3 241 := ⟨by decide +kernel, rfl⟩
theorem d_X12_rank_241 : DC mX12_rank 241 (.goto (-78)) 3 244 := ⟨by decide +kernel, rfl⟩
theorem d_X12_rank_244 : DC mX12_rank 244 (.iload_n 3) 1 245 := ⟨by decide +kernel, rfl⟩
theorem d_X12_rank_245 : DC mX12_rank 245 (.ireturn) 1 246 := ⟨by decide +kernel, rfl⟩
theorem v_X12_figure_0 {l : Launch} {d N : Nat} {Λ : Lay} {P : Int → Mem → Prop} {σ : Mem} {x1 x2 t t_pool : Int} (o_t : Ob N Λ t 21 36) (f_t_pool : (Λ t).2.2 7 = t_pool) (h0d : 2 ≤ d)
    (h : (∀ τ1, τ1 = st σ t 0 0 → (CI l mX12_opensText (d - 1) [(2, t), (0, x1), (0, x2)] N Λ τ1 (fun v3 σ2 => ((v3 = 0 → (CV l mX12_figureText (d - 1) [(2, t)] N Λ σ2 (fun σ4 => (((σ4 t 22) = 0 → (∀ τ5, τ5 = st σ4 t 8 0 → (Ix N Λ t_pool 0 (mulI 161 0) ∧ (∀ τ6, τ6 = st τ5 t_pool (mulI 161 0) 0 → (∀ τ7, τ7 = st τ6 t 21 0 → WI l mX12_figure d P 53 [(2, t), (0, x1), (0, x2), (0, v3), (0, 0)] [] N Λ τ7))))) ∧ (¬ ((σ4 t 22) = 0) → (∀ τ8, τ8 = st σ4 t 16 0 → P (subI (-30) (σ4 t 22)) τ8)))))) ∧ (¬ (v3 = 0) → P v3 σ2)))))) :
    WI l mX12_figure d P 0 [(2, t), (0, x1), (0, x2), (3, 0), (3, 0)] [] N Λ σ := by
  have hd_1 : 1 ≤ d := Nat.le_trans (by decide) h0d
  have he_1 : 1 ≤ d - 1 := Nat.le_sub_of_add_le (Nat.le_trans (by decide) h0d)
  refine r_aload_n (x := t) d_X12_figure_0 rfl o_t.1 ?_
  refine r_iconst (x := 0) d_X12_figure_1 ⟨by decide, by decide⟩ ?_
  refine r_putI (j := 0) d_X12_figure_2 kX12 (by decide) fl_X12_1 rfl o_t.1 o_t.2.1 o_t.2.2.1 o_t.2.2.2 rfl ?_
  refine r_nmM (fun τ1 eτ1 => ?_)
  have h := h τ1 eτ1
  refine r_aload_n (x := t) d_X12_figure_5 rfl o_t.1 ?_
  refine r_iload_n (x := x1) d_X12_figure_6 rfl ?_
  refine r_iload_n (x := x2) d_X12_figure_7 rfl ?_
  refine x_callVI (Y2 := mX12_opensText) (c := t) (As := [(0, x1), (0, x2)]) (S := []) d_X12_figure_8 ok_mX12_opensText ml_X12_297 rfl (Nat.le_of_ble_eq_true rfl) (Nat.le_of_ble_eq_true rfl) rfl hd_1 kX12 o_t (CI.mono h (fun v3 σ2 h => ?_))
  refine r_istore_n (L2 := [(2, t), (0, x1), (0, x2), (0, v3), (3, 0)]) d_X12_figure_11 (by decide) rfl rfl ?_
  refine r_iload_n (x := v3) d_X12_figure_12 rfl ?_
  refine r_if_eq (tgt := 18) d_X12_figure_13 rfl (fun hc => ?_) (fun hc => ?_)
  · have h := h.1 hc
    refine r_aload_n (x := t) d_X12_figure_18 rfl o_t.1 ?_
    refine x_callVV (Y2 := mX12_figureText) (c := t) (As := []) (S := []) d_X12_figure_19 ok_mX12_figureText ml_X12_331 rfl (Nat.le_of_ble_eq_true rfl) (Nat.le_of_ble_eq_true rfl) rfl hd_1 kX12 o_t (CV.mono h (fun σ4 h => ?_))
    refine r_aload_n (x := t) d_X12_figure_22 rfl o_t.1 ?_
    refine r_getf (j := 22) (t := 0) (x := (σ4 t 22)) d_X12_figure_23 kX12 (by decide) fl_X12_261 o_t.1 o_t.2.1 o_t.2.2.1 o_t.2.2.2 rfl rfl ?_
    refine r_if_eq (tgt := 41) d_X12_figure_26 rfl (fun hc => ?_) (fun hc => ?_)
    · have h := h.1 hc
      refine r_aload_n (x := t) d_X12_figure_41 rfl o_t.1 ?_
      refine x_callVV (Y2 := mX12_begins) (c := t) (As := []) (S := []) d_X12_figure_42 ok_mX12_begins ml_X12_202 rfl (Nat.le_of_ble_eq_true rfl) (Nat.le_of_ble_eq_true rfl) rfl hd_1 kX12 o_t (c_X12_begins (v_X12_begins_0 o_t f_t_pool he_1 ?_))
      intro τ5 eτ5
      have h := h τ5 eτ5
      refine ⟨h.1, ?_⟩
      have h := h.2
      intro τ6 eτ6
      have h := h τ6 eτ6
      show WP l mX12_figure (rm d 0 0) noX _ 0 0 45 [(2, t), (0, x1), (0, x2), (0, v3), (3, 0)] [] N Λ τ6
      refine r_aload_n (x := t) d_X12_figure_45 rfl o_t.1 ?_
      refine r_iconst (x := 0) d_X12_figure_46 ⟨by decide, by decide⟩ ?_
      refine r_putI (j := 21) d_X12_figure_47 kX12 (by decide) fl_X12_255 rfl o_t.1 o_t.2.1 o_t.2.2.1 o_t.2.2.2 rfl ?_
      refine r_nmM (fun τ7 eτ7 => ?_)
      have h := h τ7 eτ7
      refine r_iconst (x := 0) d_X12_figure_50 ⟨by decide, by decide⟩ ?_
      refine r_istore (L2 := [(2, t), (0, x1), (0, x2), (0, v3), (0, 0)]) d_X12_figure_51 (by decide) rfl rfl ?_
      exact h
    · have h := h.2 hc
      refine r_aload_n (x := t) d_X12_figure_29 rfl o_t.1 ?_
      refine r_bipush (x := (-30)) d_X12_figure_30 ⟨by decide, by decide⟩ (by decide) ?_
      refine r_aload_n (x := t) d_X12_figure_32 rfl o_t.1 ?_
      refine r_getf (j := 22) (t := 0) (x := (σ4 t 22)) d_X12_figure_33 kX12 (by decide) fl_X12_261 o_t.1 o_t.2.1 o_t.2.2.1 o_t.2.2.2 rfl rfl ?_
      refine r_isub d_X12_figure_36 ?_
      refine x_callVI (Y2 := mX12_refused) (c := t) (As := [(0, (subI (-30) (σ4 t 22)))]) (S := []) d_X12_figure_37 ok_mX12_refused ml_X12_218 rfl (Nat.le_of_ble_eq_true rfl) (Nat.le_of_ble_eq_true rfl) rfl hd_1 kX12 o_t (c_X12_refused (v_X12_refused_0 o_t ?_))
      intro τ8 eτ8
      have h := h τ8 eτ8
      show WP l mX12_figure (rm d 0 0) noX _ 0 0 40 [(2, t), (0, x1), (0, x2), (0, v3), (3, 0)] [(0, (subI (-30) (σ4 t 22)))] N Λ τ8
      exact r_iret d_X12_figure_40 rfl rfl (Nat.le_refl 0) (Nat.le_refl 0) ⟨_, rfl, rfl, rfl, h⟩
  · have h := h.2 hc
    refine r_iload_n (x := v3) d_X12_figure_16 rfl ?_
    exact r_iret d_X12_figure_17 rfl rfl (Nat.le_refl 0) (Nat.le_refl 0) ⟨_, rfl, rfl, rfl, h⟩
theorem v_X12_figure_53 {l : Launch} {d N : Nat} {Λ : Lay} {P : Int → Mem → Prop} {σ : Mem} {x1 x2 x3 x4 t : Int} (o_t : Ob N Λ t 21 36) (h0d : 1 ≤ d)
    (h : ((3 ≤ x4 → ((¬ (σ t 8) = 0 → (CI l mX12_ends (d - 1) [(2, t), (0, x1)] N Λ σ (fun v2 σ1 => P v2 σ1))) ∧ ((σ t 8) = 0 → (CV l mX12_brackets (d - 1) [(2, t), (0, 0), (0, 1), (0, 2), (0, 0)] N Λ σ (fun σ3 => (CI l mX12_ends (d - 1) [(2, t), (0, x1)] N Λ σ3 (fun v5 σ4 => P v5 σ4))))))) ∧ (¬ (3 ≤ x4) → (CV l mX12_point (d - 1) [(2, t), (0, x4), (0, 3)] N Λ σ (fun σ6 => (∀ y7, y7 = addI x4 1 → WI l mX12_figure d P 53 [(2, t), (0, x1), (0, x2), (0, x3), (0, y7)] [] N Λ σ6)))))) :
    WI l mX12_figure d P 53 [(2, t), (0, x1), (0, x2), (0, x3), (0, x4)] [] N Λ σ := by
  have hd_1 : 1 ≤ d := Nat.le_trans (by decide) h0d
  refine r_iload (x := x4) d_X12_figure_53 rfl ?_
  refine r_iconst (x := 3) d_X12_figure_55 ⟨by decide, by decide⟩ ?_
  refine r_ic_ge (tgt := 72) d_X12_figure_56 rfl (fun hc => ?_) (fun hc => ?_)
  · have h := h.1 hc
    refine r_aload_n (x := t) d_X12_figure_72 rfl o_t.1 ?_
    refine r_getf (j := 8) (t := 0) (x := (σ t 8)) d_X12_figure_73 kX12 (by decide) fl_X12_102 o_t.1 o_t.2.1 o_t.2.2.1 o_t.2.2.2 rfl rfl ?_
    refine r_if_ne (tgt := 87) d_X12_figure_76 rfl (fun hc => ?_) (fun hc => ?_)
    · have h := h.1 hc
      refine r_aload_n (x := t) d_X12_figure_87 rfl o_t.1 ?_
      refine r_iload_n (x := x1) d_X12_figure_88 rfl ?_
      refine x_callVI (Y2 := mX12_ends) (c := t) (As := [(0, x1)]) (S := []) d_X12_figure_89 ok_mX12_ends ml_X12_228 rfl (Nat.le_of_ble_eq_true rfl) (Nat.le_of_ble_eq_true rfl) rfl hd_1 kX12 o_t (CI.mono h (fun v2 σ1 h => ?_))
      exact r_iret d_X12_figure_92 rfl rfl (Nat.le_refl 0) (Nat.le_refl 0) ⟨_, rfl, rfl, rfl, h⟩
    · have h := h.2 hc
      refine r_aload_n (x := t) d_X12_figure_79 rfl o_t.1 ?_
      refine r_iconst (x := 0) d_X12_figure_80 ⟨by decide, by decide⟩ ?_
      refine r_iconst (x := 1) d_X12_figure_81 ⟨by decide, by decide⟩ ?_
      refine r_iconst (x := 2) d_X12_figure_82 ⟨by decide, by decide⟩ ?_
      refine r_iconst (x := 0) d_X12_figure_83 ⟨by decide, by decide⟩ ?_
      refine x_callVV (Y2 := mX12_brackets) (c := t) (As := [(0, 0), (0, 1), (0, 2), (0, 0)]) (S := []) d_X12_figure_84 ok_mX12_brackets ml_X12_315 rfl (Nat.le_of_ble_eq_true rfl) (Nat.le_of_ble_eq_true rfl) rfl hd_1 kX12 o_t (CV.mono h (fun σ3 h => ?_))
      refine r_aload_n (x := t) d_X12_figure_87 rfl o_t.1 ?_
      refine r_iload_n (x := x1) d_X12_figure_88 rfl ?_
      refine x_callVI (Y2 := mX12_ends) (c := t) (As := [(0, x1)]) (S := []) d_X12_figure_89 ok_mX12_ends ml_X12_228 rfl (Nat.le_of_ble_eq_true rfl) (Nat.le_of_ble_eq_true rfl) rfl hd_1 kX12 o_t (CI.mono h (fun v5 σ4 h => ?_))
      exact r_iret d_X12_figure_92 rfl rfl (Nat.le_refl 0) (Nat.le_refl 0) ⟨_, rfl, rfl, rfl, h⟩
  · have h := h.2 hc
    refine r_aload_n (x := t) d_X12_figure_59 rfl o_t.1 ?_
    refine r_iload (x := x4) d_X12_figure_60 rfl ?_
    refine r_iconst (x := 3) d_X12_figure_62 ⟨by decide, by decide⟩ ?_
    refine x_callVV (Y2 := mX12_point) (c := t) (As := [(0, x4), (0, 3)]) (S := []) d_X12_figure_63 ok_mX12_point ml_X12_309 rfl (Nat.le_of_ble_eq_true rfl) (Nat.le_of_ble_eq_true rfl) rfl hd_1 kX12 o_t (CV.mono h (fun σ6 h => ?_))
    refine x_iinc (x := x4) (L := [(2, t), (0, x1), (0, x2), (0, x3), (0, x4)]) d_X12_figure_66 rfl (by decide) rfl (fun y7 ey7 => ?_)
    have h := h y7 ey7
    show WP _ _ _ _ _ _ _ _ [(2, t), (0, x1), (0, x2), (0, x3), (0, y7)] _ _ _ _
    refine r_goto (tgt := 53) d_X12_figure_69 rfl ?_
    exact h
theorem v_X12_terms_0 {l : Launch} {d N : Nat} {Λ : Lay} {P : Int → Mem → Prop} {σ : Mem} {x1 t t_state : Int} (o_t : Ob N Λ t 21 36) (f_t_state : (Λ t).2.2 3 = t_state) (h0d : 2 ≤ d)
    (h : (∀ τ1, τ1 = st σ t 0 0 → (((cmpL x1 0) < 0 → P (-2) τ1) ∧ (¬ ((cmpL x1 0) < 0) → ((0 < (cmpL x1 5) → P (-2) τ1) ∧ (¬ (0 < (cmpL x1 5)) → (Ix N Λ t_state 0 (mulI 161 x1) ∧ P (τ1 t_state (mulI 161 x1)) τ1))))))) :
    WI l mX12_terms d P 0 [(2, t), (0, x1)] [] N Λ σ := by
  have hd_1 : 1 ≤ d := Nat.le_trans (by decide) h0d
  have he_1 : 1 ≤ d - 1 := Nat.le_sub_of_add_le (Nat.le_trans (by decide) h0d)
  refine r_aload_n (x := t) d_X12_terms_0 rfl o_t.1 ?_
  refine r_iconst (x := 0) d_X12_terms_1 ⟨by decide, by decide⟩ ?_
  refine r_putI (j := 0) d_X12_terms_2 kX12 (by decide) fl_X12_1 rfl o_t.1 o_t.2.1 o_t.2.2.1 o_t.2.2.2 rfl ?_
  refine r_nmM (fun τ1 eτ1 => ?_)
  have h := h τ1 eτ1
  refine r_iload_n (x := x1) d_X12_terms_5 rfl ?_
  refine x_callSI (Y2 := mX12_isShelf) (As := [(0, x1)]) (S := []) d_X12_terms_6 ok_mX12_isShelf ml_X12_199 rfl (Nat.le_of_ble_eq_true rfl) (Nat.le_of_ble_eq_true rfl) rfl hd_1 (c_X12_isShelf (v_X12_isShelf_0 he_1 ?_))
  refine ⟨fun hc => ?_, fun hc => ?_⟩
  · have h := h.1 hc
    show WP l mX12_terms (rm d 0 0) noX _ 0 0 9 [(2, t), (0, x1)] [(0, 0)] N Λ τ1
    refine r_if_eq (tgt := 25) d_X12_terms_9 rfl (fun _ => ?_) (fun hc => absurd hc (by decide))
    refine r_bipush (x := (-2)) d_X12_terms_25 ⟨by decide, by decide⟩ (by decide) ?_
    exact r_iret d_X12_terms_27 rfl rfl (Nat.le_refl 0) (Nat.le_refl 0) ⟨_, rfl, rfl, rfl, h⟩
  · have h := h.2 hc
    refine ⟨fun hc => ?_, fun hc => ?_⟩
    · have h := h.1 hc
      show WP l mX12_terms (rm d 0 0) noX _ 0 0 9 [(2, t), (0, x1)] [(0, 0)] N Λ τ1
      refine r_if_eq (tgt := 25) d_X12_terms_9 rfl (fun _ => ?_) (fun hc => absurd hc (by decide))
      refine r_bipush (x := (-2)) d_X12_terms_25 ⟨by decide, by decide⟩ (by decide) ?_
      exact r_iret d_X12_terms_27 rfl rfl (Nat.le_refl 0) (Nat.le_refl 0) ⟨_, rfl, rfl, rfl, h⟩
    · have h := h.2 hc
      show WP l mX12_terms (rm d 0 0) noX _ 0 0 9 [(2, t), (0, x1)] [(0, 1)] N Λ τ1
      refine r_if_eq (tgt := 25) d_X12_terms_9 rfl (fun hc => absurd hc (by decide)) (fun _ => ?_)
      refine r_aload_n (x := t) d_X12_terms_12 rfl o_t.1 ?_
      refine r_getf (j := 3) (t := 2) (x := t_state) d_X12_terms_13 kX12 (by decide) fl_X12_20 o_t.1 o_t.2.1 o_t.2.2.1 o_t.2.2.2 rfl f_t_state ?_
      refine r_sipush (x := 161) d_X12_terms_16 ⟨by decide, by decide⟩ (by decide) ?_
      refine r_iload_n (x := x1) d_X12_terms_19 rfl ?_
      refine r_imul d_X12_terms_20 ?_
      refine x_iald d_X12_terms_21 h.1 ?_
      have h := h.2
      refine r_goto (tgt := 27) d_X12_terms_22 rfl ?_
      exact r_iret d_X12_terms_27 rfl rfl (Nat.le_refl 0) (Nat.le_refl 0) ⟨_, rfl, rfl, rfl, h⟩
theorem v_X12_term__0 {l : Launch} {d N : Nat} {Λ : Lay} {P : Int → Mem → Prop} {σ : Mem} {x1 x2 x3 t t_letterOf t_state : Int} (o_t : Ob N Λ t 21 36) (f_t_state : (Λ t).2.2 3 = t_state) (f_t_letterOf : (Λ t).2.2 2 = t_letterOf) (h0d : 2 ≤ d)
    (h : (∀ τ1, τ1 = st σ t 0 0 → (((cmpL x1 0) < 0 → P (-2147483648) τ1) ∧ (¬ ((cmpL x1 0) < 0) → ((0 < (cmpL x1 5) → P (-2147483648) τ1) ∧ (¬ (0 < (cmpL x1 5)) → (Ix N Λ t_state 0 (mulI 161 x1) ∧ (((cmpL x2 0) < 0 → P (-2147483648) τ1) ∧ (¬ ((cmpL x2 0) < 0) → ((0 < (cmpL x2 (subI (τ1 t_state (mulI 161 x1)) 1)) → P (-2147483648) τ1) ∧ (¬ (0 < (cmpL x2 (subI (τ1 t_state (mulI 161 x1)) 1))) → (Ix N Λ t_state 0 (addI (addI (mulI 161 x1) 1) (mulI 2 x2)) ∧ (∀ y2, y2 = (τ1 t_state (addI (addI (mulI 161 x1) 1) (mulI 2 x2))) → (CI l mX12_brokenIn (d - 1) [(2, t), (0, y2)] N Λ τ1 (fun v4 σ3 => (((cmpL x3 10) < 0 → ((x3 < 0 ∨ 4 < x3 → P (-2147483648) σ3) ∧ (x3 = 0 → (Ix N Λ t_state 0 (addI (addI (mulI 161 x1) 2) (mulI 2 x2)) ∧ P (σ3 t_state (addI (addI (mulI 161 x1) 2) (mulI 2 x2))) σ3)) ∧ (x3 = 1 → (CI l mX12_degreeOf (d - 1) [(0, y2)] N Λ σ3 (fun v6 σ5 => P v6 σ5))) ∧ (x3 = 2 → ((¬ v4 = (-1) → P 0 σ3) ∧ (v4 = (-1) → P 1 σ3))) ∧ (x3 = 3 → P v4 σ3) ∧ (x3 = 4 → ((¬ v4 = (-1) → (CI l mX12_rankIn (d - 1) [(0, y2), (0, v4)] N Λ σ3 (fun v8 σ7 => (CI l mX12_rankIn (d - 1) [(0, y2), (0, (addI v4 1))] N Λ σ7 (fun v10 σ9 => (CI l mX12_breakOf (d - 1) [(2, t), (0, v8), (0, v10)] N Λ σ9 (fun v12 σ11 => P v12 σ11))))))) ∧ (v4 = (-1) → P (-1) σ3))))) ∧ (¬ ((cmpL x3 10) < 0) → ((0 < (cmpL x3 21) → ((x3 < 0 ∨ 4 < x3 → P (-2147483648) σ3) ∧ (x3 = 0 → (Ix N Λ t_state 0 (addI (addI (mulI 161 x1) 2) (mulI 2 x2)) ∧ P (σ3 t_state (addI (addI (mulI 161 x1) 2) (mulI 2 x2))) σ3)) ∧ (x3 = 1 → (CI l mX12_degreeOf (d - 1) [(0, y2)] N Λ σ3 (fun v14 σ13 => P v14 σ13))) ∧ (x3 = 2 → ((¬ v4 = (-1) → P 0 σ3) ∧ (v4 = (-1) → P 1 σ3))) ∧ (x3 = 3 → P v4 σ3) ∧ (x3 = 4 → ((¬ v4 = (-1) → (CI l mX12_rankIn (d - 1) [(0, y2), (0, v4)] N Λ σ3 (fun v16 σ15 => (CI l mX12_rankIn (d - 1) [(0, y2), (0, (addI v4 1))] N Λ σ15 (fun v18 σ17 => (CI l mX12_breakOf (d - 1) [(2, t), (0, v16), (0, v18)] N Λ σ17 (fun v20 σ19 => P v20 σ19))))))) ∧ (v4 = (-1) → P (-1) σ3))))) ∧ (¬ (0 < (cmpL x3 21)) → (∀ y21, y21 = (divI (subI x3 10) 3) → (CI l mX12_degreeOf (d - 1) [(0, y2)] N Λ σ3 (fun v23 σ22 => ((v23 ≤ y21 → P (-1) σ22) ∧ (¬ (v23 ≤ y21) → (CI l mX12_rankIn (d - 1) [(0, y2), (0, y21)] N Λ σ22 (fun v25 σ24 => (Ix N Λ t_letterOf 0 (addI (mulI 3 v25) (remI (subI x3 10) 3)) ∧ P (σ24 t_letterOf (addI (mulI 3 v25) (remI (subI x3 10) 3))) σ24))))))))))))))))))))))))))) :
    WI l mX12_term_ d P 0 [(2, t), (0, x1), (0, x2), (0, x3), (3, 0), (3, 0), (3, 0)] [] N Λ σ := by
  have hd_1 : 1 ≤ d := Nat.le_trans (by decide) h0d
  have he_1 : 1 ≤ d - 1 := Nat.le_sub_of_add_le (Nat.le_trans (by decide) h0d)
  refine r_aload_n (x := t) d_X12_term__0 rfl o_t.1 ?_
  refine r_iconst (x := 0) d_X12_term__1 ⟨by decide, by decide⟩ ?_
  refine r_putI (j := 0) d_X12_term__2 kX12 (by decide) fl_X12_1 rfl o_t.1 o_t.2.1 o_t.2.2.1 o_t.2.2.2 rfl ?_
  refine r_nmM (fun τ1 eτ1 => ?_)
  have h := h τ1 eτ1
  refine r_iload_n (x := x1) d_X12_term__5 rfl ?_
  refine x_callSI (Y2 := mX12_isShelf) (As := [(0, x1)]) (S := []) d_X12_term__6 ok_mX12_isShelf ml_X12_199 rfl (Nat.le_of_ble_eq_true rfl) (Nat.le_of_ble_eq_true rfl) rfl hd_1 (c_X12_isShelf (v_X12_isShelf_0 he_1 ?_))
  refine ⟨fun hc => ?_, fun hc => ?_⟩
  · have h := h.1 hc
    show WP l mX12_term_ (rm d 0 0) noX _ 0 0 9 [(2, t), (0, x1), (0, x2), (0, x3), (3, 0), (3, 0), (3, 0)] [(0, 0)] N Λ τ1
    refine r_if_eq (tgt := 34) d_X12_term__9 rfl (fun _ => ?_) (fun hc => absurd hc (by decide))
    refine r_ldcw (x := (-2147483648)) d_X12_term__34 ck_X12_334 (by decide) ?_
    exact r_iret d_X12_term__37 rfl rfl (Nat.le_refl 0) (Nat.le_refl 0) ⟨_, rfl, rfl, rfl, h⟩
  · have h := h.2 hc
    refine ⟨fun hc => ?_, fun hc => ?_⟩
    · have h := h.1 hc
      show WP l mX12_term_ (rm d 0 0) noX _ 0 0 9 [(2, t), (0, x1), (0, x2), (0, x3), (3, 0), (3, 0), (3, 0)] [(0, 0)] N Λ τ1
      refine r_if_eq (tgt := 34) d_X12_term__9 rfl (fun _ => ?_) (fun hc => absurd hc (by decide))
      refine r_ldcw (x := (-2147483648)) d_X12_term__34 ck_X12_334 (by decide) ?_
      exact r_iret d_X12_term__37 rfl rfl (Nat.le_refl 0) (Nat.le_refl 0) ⟨_, rfl, rfl, rfl, h⟩
    · have h := h.2 hc
      show WP l mX12_term_ (rm d 0 0) noX _ 0 0 9 [(2, t), (0, x1), (0, x2), (0, x3), (3, 0), (3, 0), (3, 0)] [(0, 1)] N Λ τ1
      refine r_if_eq (tgt := 34) d_X12_term__9 rfl (fun hc => absurd hc (by decide)) (fun _ => ?_)
      refine r_iload_n (x := x2) d_X12_term__12 rfl ?_
      refine r_i2l d_X12_term__13 ?_
      refine r_lconst d_X12_term__14 ?_
      skip
      refine r_aload_n (x := t) d_X12_term__15 rfl o_t.1 ?_
      refine r_getf (j := 3) (t := 2) (x := t_state) d_X12_term__16 kX12 (by decide) fl_X12_20 o_t.1 o_t.2.1 o_t.2.2.1 o_t.2.2.2 rfl f_t_state ?_
      refine r_sipush (x := 161) d_X12_term__19 ⟨by decide, by decide⟩ (by decide) ?_
      refine r_iload_n (x := x1) d_X12_term__22 rfl ?_
      refine r_imul d_X12_term__23 ?_
      refine x_iald d_X12_term__24 h.1 ?_
      have h := h.2
      refine r_iconst (x := 1) d_X12_term__25 ⟨by decide, by decide⟩ ?_
      refine r_isub d_X12_term__26 ?_
      refine r_i2l d_X12_term__27 ?_
      refine x_callSI (Y2 := mX12_within) (As := [(1, x2), (1, 0), (1, (subI (τ1 t_state (mulI 161 x1)) 1))]) (S := []) d_X12_term__28 ok_mX12_within ml_X12_91 rfl (Nat.le_of_ble_eq_true rfl) (Nat.le_of_ble_eq_true rfl) rfl hd_1 (c_X12_within (v_X12_within_0 ?_))
      refine ⟨fun hc => ?_, fun hc => ?_⟩
      · have h := h.1 hc
        show WP l mX12_term_ (rm d 0 0) noX _ 0 0 31 [(2, t), (0, x1), (0, x2), (0, x3), (3, 0), (3, 0), (3, 0)] [(0, 0)] N Λ τ1
        refine r_if_ne (tgt := 38) d_X12_term__31 rfl (fun hc => absurd hc (by decide)) (fun _ => ?_)
        refine r_ldcw (x := (-2147483648)) d_X12_term__34 ck_X12_334 (by decide) ?_
        exact r_iret d_X12_term__37 rfl rfl (Nat.le_refl 0) (Nat.le_refl 0) ⟨_, rfl, rfl, rfl, h⟩
      · have h := h.2 hc
        refine ⟨fun hc => ?_, fun hc => ?_⟩
        · have h := h.1 hc
          show WP l mX12_term_ (rm d 0 0) noX _ 0 0 31 [(2, t), (0, x1), (0, x2), (0, x3), (3, 0), (3, 0), (3, 0)] [(0, 0)] N Λ τ1
          refine r_if_ne (tgt := 38) d_X12_term__31 rfl (fun hc => absurd hc (by decide)) (fun _ => ?_)
          refine r_ldcw (x := (-2147483648)) d_X12_term__34 ck_X12_334 (by decide) ?_
          exact r_iret d_X12_term__37 rfl rfl (Nat.le_refl 0) (Nat.le_refl 0) ⟨_, rfl, rfl, rfl, h⟩
        · have h := h.2 hc
          show WP l mX12_term_ (rm d 0 0) noX _ 0 0 31 [(2, t), (0, x1), (0, x2), (0, x3), (3, 0), (3, 0), (3, 0)] [(0, 1)] N Λ τ1
          refine r_if_ne (tgt := 38) d_X12_term__31 rfl (fun _ => ?_) (fun hc => absurd hc (by decide))
          refine r_aload_n (x := t) d_X12_term__38 rfl o_t.1 ?_
          refine r_getf (j := 3) (t := 2) (x := t_state) d_X12_term__39 kX12 (by decide) fl_X12_20 o_t.1 o_t.2.1 o_t.2.2.1 o_t.2.2.2 rfl f_t_state ?_
          refine r_sipush (x := 161) d_X12_term__42 ⟨by decide, by decide⟩ (by decide) ?_
          refine r_iload_n (x := x1) d_X12_term__45 rfl ?_
          refine r_imul d_X12_term__46 ?_
          refine r_iconst (x := 1) d_X12_term__47 ⟨by decide, by decide⟩ ?_
          refine r_iadd d_X12_term__48 ?_
          refine r_iconst (x := 2) d_X12_term__49 ⟨by decide, by decide⟩ ?_
          refine r_iload_n (x := x2) d_X12_term__50 rfl ?_
          refine r_imul d_X12_term__51 ?_
          refine r_iadd d_X12_term__52 ?_
          refine x_iald d_X12_term__53 h.1 ?_
          have h := h.2
          refine r_nm (fun y2 ey2 => ?_)
          have h := h y2 ey2
          refine r_istore (L2 := [(2, t), (0, x1), (0, x2), (0, x3), (0, y2), (3, 0), (3, 0)]) d_X12_term__54 (by decide) rfl rfl ?_
          refine r_aload_n (x := t) d_X12_term__56 rfl o_t.1 ?_
          refine r_iload (x := y2) d_X12_term__57 rfl ?_
          refine x_callVI (Y2 := mX12_brokenIn) (c := t) (As := [(0, y2)]) (S := []) d_X12_term__59 ok_mX12_brokenIn ml_X12_171 rfl (Nat.le_of_ble_eq_true rfl) (Nat.le_of_ble_eq_true rfl) rfl hd_1 kX12 o_t (CI.mono h (fun v4 σ3 h => ?_))
          refine r_istore (L2 := [(2, t), (0, x1), (0, x2), (0, x3), (0, y2), (0, v4), (3, 0)]) d_X12_term__62 (by decide) rfl rfl ?_
          refine r_iload_n (x := x3) d_X12_term__64 rfl ?_
          refine r_i2l d_X12_term__65 ?_
          refine r_ldc2 (x := 10) d_X12_term__66 ck_X12_335 (by decide) ?_
          refine r_ldc2 (x := 21) d_X12_term__69 ck_X12_337 (by decide) ?_
          refine x_callSI (Y2 := mX12_within) (As := [(1, x3), (1, 10), (1, 21)]) (S := []) d_X12_term__72 ok_mX12_within ml_X12_91 rfl (Nat.le_of_ble_eq_true rfl) (Nat.le_of_ble_eq_true rfl) rfl hd_1 (c_X12_within (v_X12_within_0 ?_))
          refine ⟨fun hc => ?_, fun hc => ?_⟩
          · have h := h.1 hc
            show WP l mX12_term_ (rm d 0 0) noX _ 0 0 75 [(2, t), (0, x1), (0, x2), (0, x3), (0, y2), (0, v4), (3, 0)] [(0, 0)] N Λ σ3
            refine r_if_eq (tgt := 122) d_X12_term__75 rfl (fun _ => ?_) (fun hc => absurd hc (by decide))
            refine r_iload_n (x := x3) d_X12_term__122 rfl ?_
            by_cases hr : x3 < 0 ∨ 4 < x3
            · have h := h.1 hr
              refine r_tout (tgt := 225) d_X12_term__123 hr rfl ?_
              refine r_ldcw (x := (-2147483648)) d_X12_term__225 ck_X12_334 (by decide) ?_
              exact r_iret d_X12_term__228 rfl rfl (Nat.le_refl 0) (Nat.le_refl 0) ⟨_, rfl, rfl, rfl, h⟩
            · have h := h.2
              by_cases hk0 : x3 = 0
              · have h := h.1 hk0
                refine r_tin (off := 33) (tgt := 156) d_X12_term__123 (by rw [hk0]; decide) (by rw [hk0]; decide) (by rw [hk0]; rfl) rfl ?_
                refine r_aload_n (x := t) d_X12_term__156 rfl o_t.1 ?_
                refine r_getf (j := 3) (t := 2) (x := t_state) d_X12_term__157 kX12 (by decide) fl_X12_20 o_t.1 o_t.2.1 o_t.2.2.1 o_t.2.2.2 rfl f_t_state ?_
                refine r_sipush (x := 161) d_X12_term__160 ⟨by decide, by decide⟩ (by decide) ?_
                refine r_iload_n (x := x1) d_X12_term__163 rfl ?_
                refine r_imul d_X12_term__164 ?_
                refine r_iconst (x := 2) d_X12_term__165 ⟨by decide, by decide⟩ ?_
                refine r_iadd d_X12_term__166 ?_
                refine r_iconst (x := 2) d_X12_term__167 ⟨by decide, by decide⟩ ?_
                refine r_iload_n (x := x2) d_X12_term__168 rfl ?_
                refine r_imul d_X12_term__169 ?_
                refine r_iadd d_X12_term__170 ?_
                refine x_iald d_X12_term__171 h.1 ?_
                have h := h.2
                exact r_iret d_X12_term__172 rfl rfl (Nat.le_refl 0) (Nat.le_refl 0) ⟨_, rfl, rfl, rfl, h⟩
              have h := h.2
              by_cases hk1 : x3 = 1
              · have h := h.1 hk1
                refine r_tin (off := 50) (tgt := 173) d_X12_term__123 (by rw [hk1]; decide) (by rw [hk1]; decide) (by rw [hk1]; rfl) rfl ?_
                refine r_iload (x := y2) d_X12_term__173 rfl ?_
                refine x_callSI (Y2 := mX12_degreeOf) (As := [(0, y2)]) (S := []) d_X12_term__175 ok_mX12_degreeOf ml_X12_138 rfl (Nat.le_of_ble_eq_true rfl) (Nat.le_of_ble_eq_true rfl) rfl hd_1 (CI.mono h (fun v6 σ5 h => ?_))
                exact r_iret d_X12_term__178 rfl rfl (Nat.le_refl 0) (Nat.le_refl 0) ⟨_, rfl, rfl, rfl, h⟩
              have h := h.2
              by_cases hk2 : x3 = 2
              · have h := h.1 hk2
                refine r_tin (off := 56) (tgt := 179) d_X12_term__123 (by rw [hk2]; decide) (by rw [hk2]; decide) (by rw [hk2]; rfl) rfl ?_
                refine r_iload (x := v4) d_X12_term__179 rfl ?_
                refine r_iconst (x := (-1)) d_X12_term__181 ⟨by decide, by decide⟩ ?_
                refine r_ic_ne (tgt := 189) d_X12_term__182 rfl (fun hc => ?_) (fun hc => ?_)
                · have h := h.1 hc
                  refine r_iconst (x := 0) d_X12_term__189 ⟨by decide, by decide⟩ ?_
                  exact r_iret d_X12_term__190 rfl rfl (Nat.le_refl 0) (Nat.le_refl 0) ⟨_, rfl, rfl, rfl, h⟩
                · have h := h.2 hc
                  refine r_iconst (x := 1) d_X12_term__185 ⟨by decide, by decide⟩ ?_
                  refine r_goto (tgt := 190) d_X12_term__186 rfl ?_
                  exact r_iret d_X12_term__190 rfl rfl (Nat.le_refl 0) (Nat.le_refl 0) ⟨_, rfl, rfl, rfl, h⟩
              have h := h.2
              by_cases hk3 : x3 = 3
              · have h := h.1 hk3
                refine r_tin (off := 68) (tgt := 191) d_X12_term__123 (by rw [hk3]; decide) (by rw [hk3]; decide) (by rw [hk3]; rfl) rfl ?_
                refine r_iload (x := v4) d_X12_term__191 rfl ?_
                exact r_iret d_X12_term__193 rfl rfl (Nat.le_refl 0) (Nat.le_refl 0) ⟨_, rfl, rfl, rfl, h⟩
              have h := h.2
              by_cases hk4 : x3 = 4
              · have h := h hk4
                refine r_tin (off := 71) (tgt := 194) d_X12_term__123 (by rw [hk4]; decide) (by rw [hk4]; decide) (by rw [hk4]; rfl) rfl ?_
                refine r_iload (x := v4) d_X12_term__194 rfl ?_
                refine r_iconst (x := (-1)) d_X12_term__196 ⟨by decide, by decide⟩ ?_
                refine r_ic_ne (tgt := 204) d_X12_term__197 rfl (fun hc => ?_) (fun hc => ?_)
                · have h := h.1 hc
                  refine r_aload_n (x := t) d_X12_term__204 rfl o_t.1 ?_
                  refine r_iload (x := y2) d_X12_term__205 rfl ?_
                  refine r_iload (x := v4) d_X12_term__207 rfl ?_
                  refine x_callSI (Y2 := mX12_rankIn) (As := [(0, y2), (0, v4)]) (S := [(2, t)]) d_X12_term__209 ok_mX12_rankIn ml_X12_135 rfl (Nat.le_of_ble_eq_true rfl) (Nat.le_of_ble_eq_true rfl) rfl hd_1 (CI.mono h (fun v8 σ7 h => ?_))
                  refine r_iload (x := y2) d_X12_term__212 rfl ?_
                  refine r_iload (x := v4) d_X12_term__214 rfl ?_
                  refine r_iconst (x := 1) d_X12_term__216 ⟨by decide, by decide⟩ ?_
                  refine r_iadd d_X12_term__217 ?_
                  refine x_callSI (Y2 := mX12_rankIn) (As := [(0, y2), (0, (addI v4 1))]) (S := [(0, v8), (2, t)]) d_X12_term__218 ok_mX12_rankIn ml_X12_135 rfl (Nat.le_of_ble_eq_true rfl) (Nat.le_of_ble_eq_true rfl) rfl hd_1 (CI.mono h (fun v10 σ9 h => ?_))
                  refine x_callVI (Y2 := mX12_breakOf) (c := t) (As := [(0, v8), (0, v10)]) (S := []) d_X12_term__221 ok_mX12_breakOf ml_X12_151 rfl (Nat.le_of_ble_eq_true rfl) (Nat.le_of_ble_eq_true rfl) rfl hd_1 kX12 o_t (CI.mono h (fun v12 σ11 h => ?_))
                  exact r_iret d_X12_term__224 rfl rfl (Nat.le_refl 0) (Nat.le_refl 0) ⟨_, rfl, rfl, rfl, h⟩
                · have h := h.2 hc
                  refine r_iconst (x := (-1)) d_X12_term__200 ⟨by decide, by decide⟩ ?_
                  refine r_goto (tgt := 224) d_X12_term__201 rfl ?_
                  exact r_iret d_X12_term__224 rfl rfl (Nat.le_refl 0) (Nat.le_refl 0) ⟨_, rfl, rfl, rfl, h⟩
              exact (tsw_4 hr hk0 hk1 hk2 hk3 hk4).elim
          · have h := h.2 hc
            refine ⟨fun hc => ?_, fun hc => ?_⟩
            · have h := h.1 hc
              show WP l mX12_term_ (rm d 0 0) noX _ 0 0 75 [(2, t), (0, x1), (0, x2), (0, x3), (0, y2), (0, v4), (3, 0)] [(0, 0)] N Λ σ3
              refine r_if_eq (tgt := 122) d_X12_term__75 rfl (fun _ => ?_) (fun hc => absurd hc (by decide))
              refine r_iload_n (x := x3) d_X12_term__122 rfl ?_
              by_cases hr : x3 < 0 ∨ 4 < x3
              · have h := h.1 hr
                refine r_tout (tgt := 225) d_X12_term__123 hr rfl ?_
                refine r_ldcw (x := (-2147483648)) d_X12_term__225 ck_X12_334 (by decide) ?_
                exact r_iret d_X12_term__228 rfl rfl (Nat.le_refl 0) (Nat.le_refl 0) ⟨_, rfl, rfl, rfl, h⟩
              · have h := h.2
                by_cases hk0 : x3 = 0
                · have h := h.1 hk0
                  refine r_tin (off := 33) (tgt := 156) d_X12_term__123 (by rw [hk0]; decide) (by rw [hk0]; decide) (by rw [hk0]; rfl) rfl ?_
                  refine r_aload_n (x := t) d_X12_term__156 rfl o_t.1 ?_
                  refine r_getf (j := 3) (t := 2) (x := t_state) d_X12_term__157 kX12 (by decide) fl_X12_20 o_t.1 o_t.2.1 o_t.2.2.1 o_t.2.2.2 rfl f_t_state ?_
                  refine r_sipush (x := 161) d_X12_term__160 ⟨by decide, by decide⟩ (by decide) ?_
                  refine r_iload_n (x := x1) d_X12_term__163 rfl ?_
                  refine r_imul d_X12_term__164 ?_
                  refine r_iconst (x := 2) d_X12_term__165 ⟨by decide, by decide⟩ ?_
                  refine r_iadd d_X12_term__166 ?_
                  refine r_iconst (x := 2) d_X12_term__167 ⟨by decide, by decide⟩ ?_
                  refine r_iload_n (x := x2) d_X12_term__168 rfl ?_
                  refine r_imul d_X12_term__169 ?_
                  refine r_iadd d_X12_term__170 ?_
                  refine x_iald d_X12_term__171 h.1 ?_
                  have h := h.2
                  exact r_iret d_X12_term__172 rfl rfl (Nat.le_refl 0) (Nat.le_refl 0) ⟨_, rfl, rfl, rfl, h⟩
                have h := h.2
                by_cases hk1 : x3 = 1
                · have h := h.1 hk1
                  refine r_tin (off := 50) (tgt := 173) d_X12_term__123 (by rw [hk1]; decide) (by rw [hk1]; decide) (by rw [hk1]; rfl) rfl ?_
                  refine r_iload (x := y2) d_X12_term__173 rfl ?_
                  refine x_callSI (Y2 := mX12_degreeOf) (As := [(0, y2)]) (S := []) d_X12_term__175 ok_mX12_degreeOf ml_X12_138 rfl (Nat.le_of_ble_eq_true rfl) (Nat.le_of_ble_eq_true rfl) rfl hd_1 (CI.mono h (fun v14 σ13 h => ?_))
                  exact r_iret d_X12_term__178 rfl rfl (Nat.le_refl 0) (Nat.le_refl 0) ⟨_, rfl, rfl, rfl, h⟩
                have h := h.2
                by_cases hk2 : x3 = 2
                · have h := h.1 hk2
                  refine r_tin (off := 56) (tgt := 179) d_X12_term__123 (by rw [hk2]; decide) (by rw [hk2]; decide) (by rw [hk2]; rfl) rfl ?_
                  refine r_iload (x := v4) d_X12_term__179 rfl ?_
                  refine r_iconst (x := (-1)) d_X12_term__181 ⟨by decide, by decide⟩ ?_
                  refine r_ic_ne (tgt := 189) d_X12_term__182 rfl (fun hc => ?_) (fun hc => ?_)
                  · have h := h.1 hc
                    refine r_iconst (x := 0) d_X12_term__189 ⟨by decide, by decide⟩ ?_
                    exact r_iret d_X12_term__190 rfl rfl (Nat.le_refl 0) (Nat.le_refl 0) ⟨_, rfl, rfl, rfl, h⟩
                  · have h := h.2 hc
                    refine r_iconst (x := 1) d_X12_term__185 ⟨by decide, by decide⟩ ?_
                    refine r_goto (tgt := 190) d_X12_term__186 rfl ?_
                    exact r_iret d_X12_term__190 rfl rfl (Nat.le_refl 0) (Nat.le_refl 0) ⟨_, rfl, rfl, rfl, h⟩
                have h := h.2
                by_cases hk3 : x3 = 3
                · have h := h.1 hk3
                  refine r_tin (off := 68) (tgt := 191) d_X12_term__123 (by rw [hk3]; decide) (by rw [hk3]; decide) (by rw [hk3]; rfl) rfl ?_
                  refine r_iload (x := v4) d_X12_term__191 rfl ?_
                  exact r_iret d_X12_term__193 rfl rfl (Nat.le_refl 0) (Nat.le_refl 0) ⟨_, rfl, rfl, rfl, h⟩
                have h := h.2
                by_cases hk4 : x3 = 4
                · have h := h hk4
                  refine r_tin (off := 71) (tgt := 194) d_X12_term__123 (by rw [hk4]; decide) (by rw [hk4]; decide) (by rw [hk4]; rfl) rfl ?_
                  refine r_iload (x := v4) d_X12_term__194 rfl ?_
                  refine r_iconst (x := (-1)) d_X12_term__196 ⟨by decide, by decide⟩ ?_
                  refine r_ic_ne (tgt := 204) d_X12_term__197 rfl (fun hc => ?_) (fun hc => ?_)
                  · have h := h.1 hc
                    refine r_aload_n (x := t) d_X12_term__204 rfl o_t.1 ?_
                    refine r_iload (x := y2) d_X12_term__205 rfl ?_
                    refine r_iload (x := v4) d_X12_term__207 rfl ?_
                    refine x_callSI (Y2 := mX12_rankIn) (As := [(0, y2), (0, v4)]) (S := [(2, t)]) d_X12_term__209 ok_mX12_rankIn ml_X12_135 rfl (Nat.le_of_ble_eq_true rfl) (Nat.le_of_ble_eq_true rfl) rfl hd_1 (CI.mono h (fun v16 σ15 h => ?_))
                    refine r_iload (x := y2) d_X12_term__212 rfl ?_
                    refine r_iload (x := v4) d_X12_term__214 rfl ?_
                    refine r_iconst (x := 1) d_X12_term__216 ⟨by decide, by decide⟩ ?_
                    refine r_iadd d_X12_term__217 ?_
                    refine x_callSI (Y2 := mX12_rankIn) (As := [(0, y2), (0, (addI v4 1))]) (S := [(0, v16), (2, t)]) d_X12_term__218 ok_mX12_rankIn ml_X12_135 rfl (Nat.le_of_ble_eq_true rfl) (Nat.le_of_ble_eq_true rfl) rfl hd_1 (CI.mono h (fun v18 σ17 h => ?_))
                    refine x_callVI (Y2 := mX12_breakOf) (c := t) (As := [(0, v16), (0, v18)]) (S := []) d_X12_term__221 ok_mX12_breakOf ml_X12_151 rfl (Nat.le_of_ble_eq_true rfl) (Nat.le_of_ble_eq_true rfl) rfl hd_1 kX12 o_t (CI.mono h (fun v20 σ19 h => ?_))
                    exact r_iret d_X12_term__224 rfl rfl (Nat.le_refl 0) (Nat.le_refl 0) ⟨_, rfl, rfl, rfl, h⟩
                  · have h := h.2 hc
                    refine r_iconst (x := (-1)) d_X12_term__200 ⟨by decide, by decide⟩ ?_
                    refine r_goto (tgt := 224) d_X12_term__201 rfl ?_
                    exact r_iret d_X12_term__224 rfl rfl (Nat.le_refl 0) (Nat.le_refl 0) ⟨_, rfl, rfl, rfl, h⟩
                exact (tsw_4 hr hk0 hk1 hk2 hk3 hk4).elim
            · have h := h.2 hc
              show WP l mX12_term_ (rm d 0 0) noX _ 0 0 75 [(2, t), (0, x1), (0, x2), (0, x3), (0, y2), (0, v4), (3, 0)] [(0, 1)] N Λ σ3
              refine r_if_eq (tgt := 122) d_X12_term__75 rfl (fun hc => absurd hc (by decide)) (fun _ => ?_)
              refine r_iload_n (x := x3) d_X12_term__78 rfl ?_
              refine r_bipush (x := 10) d_X12_term__79 ⟨by decide, by decide⟩ (by decide) ?_
              refine r_isub d_X12_term__81 ?_
              refine r_iconst (x := 3) d_X12_term__82 ⟨by decide, by decide⟩ ?_
              refine r_idiv d_X12_term__83 (by decide) ?_
              refine r_nm (fun y21 ey21 => ?_)
              have h := h y21 ey21
              refine r_istore (L2 := [(2, t), (0, x1), (0, x2), (0, x3), (0, y2), (0, v4), (0, y21)]) d_X12_term__84 (by decide) rfl rfl ?_
              refine r_iload (x := y21) d_X12_term__86 rfl ?_
              refine r_iload (x := y2) d_X12_term__88 rfl ?_
              refine x_callSI (Y2 := mX12_degreeOf) (As := [(0, y2)]) (S := [(0, y21)]) d_X12_term__90 ok_mX12_degreeOf ml_X12_138 rfl (Nat.le_of_ble_eq_true rfl) (Nat.le_of_ble_eq_true rfl) rfl hd_1 (CI.mono h (fun v23 σ22 h => ?_))
              refine r_ic_ge (tgt := 120) d_X12_term__93 rfl (fun hc => ?_) (fun hc => ?_)
              · have h := h.1 hc
                refine r_iconst (x := (-1)) d_X12_term__120 ⟨by decide, by decide⟩ ?_
                exact r_iret d_X12_term__121 rfl rfl (Nat.le_refl 0) (Nat.le_refl 0) ⟨_, rfl, rfl, rfl, h⟩
              · have h := h.2 hc
                refine r_aload_n (x := t) d_X12_term__96 rfl o_t.1 ?_
                refine r_getf (j := 2) (t := 2) (x := t_letterOf) d_X12_term__97 kX12 (by decide) fl_X12_17 o_t.1 o_t.2.1 o_t.2.2.1 o_t.2.2.2 rfl f_t_letterOf ?_
                refine r_iconst (x := 3) d_X12_term__100 ⟨by decide, by decide⟩ ?_
                refine r_iload (x := y2) d_X12_term__101 rfl ?_
                refine r_iload (x := y21) d_X12_term__103 rfl ?_
                refine x_callSI (Y2 := mX12_rankIn) (As := [(0, y2), (0, y21)]) (S := [(0, 3), (2, t_letterOf)]) d_X12_term__105 ok_mX12_rankIn ml_X12_135 rfl (Nat.le_of_ble_eq_true rfl) (Nat.le_of_ble_eq_true rfl) rfl hd_1 (CI.mono h (fun v25 σ24 h => ?_))
                refine r_imul d_X12_term__108 ?_
                refine r_iload_n (x := x3) d_X12_term__109 rfl ?_
                refine r_bipush (x := 10) d_X12_term__110 ⟨by decide, by decide⟩ (by decide) ?_
                refine r_isub d_X12_term__112 ?_
                refine r_iconst (x := 3) d_X12_term__113 ⟨by decide, by decide⟩ ?_
                refine r_irem d_X12_term__114 (by decide) ?_
                refine r_iadd d_X12_term__115 ?_
                refine x_iald d_X12_term__116 h.1 ?_
                have h := h.2
                refine r_goto (tgt := 121) d_X12_term__117 rfl ?_
                exact r_iret d_X12_term__121 rfl rfl (Nat.le_refl 0) (Nat.le_refl 0) ⟨_, rfl, rfl, rfl, h⟩
theorem v_X12_keyOn_0 {l : Launch} {d N : Nat} {Λ : Lay} {P : Int → Mem → Prop} {σ : Mem} {x1 x2 a0 : Int} (z_a0 : 0 ≤ a0)
    (h : (Ix N Λ a0 0 (addI (addI (mulI 161 x1) 1) (mulI 2 x2)) ∧ P (σ a0 (addI (addI (mulI 161 x1) 1) (mulI 2 x2))) σ)) :
    WI l mX12_keyOn d P 0 [(2, a0), (0, x1), (0, x2)] [] N Λ σ := by
  refine r_aload_n (x := a0) d_X12_keyOn_0 rfl z_a0 ?_
  refine r_sipush (x := 161) d_X12_keyOn_1 ⟨by decide, by decide⟩ (by decide) ?_
  refine r_iload_n (x := x1) d_X12_keyOn_4 rfl ?_
  refine r_imul d_X12_keyOn_5 ?_
  refine r_iconst (x := 1) d_X12_keyOn_6 ⟨by decide, by decide⟩ ?_
  refine r_iadd d_X12_keyOn_7 ?_
  refine r_iconst (x := 2) d_X12_keyOn_8 ⟨by decide, by decide⟩ ?_
  refine r_iload_n (x := x2) d_X12_keyOn_9 rfl ?_
  refine r_imul d_X12_keyOn_10 ?_
  refine r_iadd d_X12_keyOn_11 ?_
  refine x_iald d_X12_keyOn_12 h.1 ?_
  have h := h.2
  exact r_iret d_X12_keyOn_13 rfl rfl (Nat.le_refl 0) (Nat.le_refl 0) ⟨_, rfl, rfl, rfl, h⟩
theorem v_X12_often_0 {l : Launch} {d N : Nat} {Λ : Lay} {P : Int → Mem → Prop} {σ : Mem} {x1 x2 t : Int}
    (h : WI l mX12_often d P 5 [(2, t), (0, x1), (0, x2), (0, 0), (0, 0), (3, 0)] [] N Λ σ) :
    WI l mX12_often d P 0 [(2, t), (0, x1), (0, x2), (3, 0), (3, 0), (3, 0)] [] N Λ σ := by
  refine r_iconst (x := 0) d_X12_often_0 ⟨by decide, by decide⟩ ?_
  refine r_istore_n (L2 := [(2, t), (0, x1), (0, x2), (0, 0), (3, 0), (3, 0)]) d_X12_often_1 (by decide) rfl rfl ?_
  refine r_iconst (x := 0) d_X12_often_2 ⟨by decide, by decide⟩ ?_
  refine r_istore (L2 := [(2, t), (0, x1), (0, x2), (0, 0), (0, 0), (3, 0)]) d_X12_often_3 (by decide) rfl rfl ?_
  exact h
theorem v_X12_often_5 {l : Launch} {d N : Nat} {Λ : Lay} {P : Int → Mem → Prop} {σ : Mem} {x1 x2 x3 x4 t : Int} (h0d : 1 ≤ d)
    (h : (CI l mX12_degreeOf (d - 1) [(0, x1)] N Λ σ (fun v2 σ1 => ((v2 ≤ x4 → P x3 σ1) ∧ (¬ (v2 ≤ x4) → WI l mX12_often d P 17 [(2, t), (0, x1), (0, x2), (0, x3), (0, x4), (0, 0)] [] N Λ σ1))))) :
    WI l mX12_often d P 5 [(2, t), (0, x1), (0, x2), (0, x3), (0, x4), (3, 0)] [] N Λ σ := by
  have hd_1 : 1 ≤ d := Nat.le_trans (by decide) h0d
  refine r_iload (x := x4) d_X12_often_5 rfl ?_
  refine r_iload_n (x := x1) d_X12_often_7 rfl ?_
  refine x_callSI (Y2 := mX12_degreeOf) (As := [(0, x1)]) (S := [(0, x4)]) d_X12_often_8 ok_mX12_degreeOf ml_X12_138 rfl (Nat.le_of_ble_eq_true rfl) (Nat.le_of_ble_eq_true rfl) rfl hd_1 (CI.mono h (fun v2 σ1 h => ?_))
  refine r_ic_ge (tgt := 63) d_X12_often_11 rfl (fun hc => ?_) (fun hc => ?_)
  · have h := h.1 hc
    refine r_iload_n (x := x3) d_X12_often_63 rfl ?_
    exact r_iret d_X12_often_64 rfl rfl (Nat.le_refl 0) (Nat.le_refl 0) ⟨_, rfl, rfl, rfl, h⟩
  · have h := h.2 hc
    refine r_iconst (x := 0) d_X12_often_14 ⟨by decide, by decide⟩ ?_
    refine r_istore (L2 := [(2, t), (0, x1), (0, x2), (0, x3), (0, x4), (0, 0)]) d_X12_often_15 (by decide) rfl rfl ?_
    exact h
theorem v_X12_often_17 {l : Launch} {d N : Nat} {Λ : Lay} {P : Int → Mem → Prop} {σ : Mem} {x1 x2 x3 x4 x5 t t_letterOf : Int} (o_t : Ob N Λ t 21 36) (f_t_letterOf : (Λ t).2.2 2 = t_letterOf) (h0d : 1 ≤ d)
    (h : ((3 ≤ x5 → (∀ y1, y1 = addI x4 1 → WI l mX12_often d P 5 [(2, t), (0, x1), (0, x2), (0, x3), (0, y1), (3, 0)] [] N Λ σ)) ∧ (¬ (3 ≤ x5) → (CI l mX12_rankIn (d - 1) [(0, x1), (0, x4)] N Λ σ (fun v3 σ2 => (Ix N Λ t_letterOf 0 (addI (mulI 3 v3) x5) ∧ ((¬ (σ2 t_letterOf (addI (mulI 3 v3) x5)) = x2 → (∀ y4, y4 = (addI x3 0) → (∀ y5, y5 = addI x5 1 → WI l mX12_often d P 17 [(2, t), (0, x1), (0, x2), (0, y4), (0, x4), (0, y5)] [] N Λ σ2))) ∧ ((σ2 t_letterOf (addI (mulI 3 v3) x5)) = x2 → (∀ y6, y6 = (addI x3 1) → (∀ y7, y7 = addI x5 1 → WI l mX12_often d P 17 [(2, t), (0, x1), (0, x2), (0, y6), (0, x4), (0, y7)] [] N Λ σ2)))))))))) :
    WI l mX12_often d P 17 [(2, t), (0, x1), (0, x2), (0, x3), (0, x4), (0, x5)] [] N Λ σ := by
  have hd_1 : 1 ≤ d := Nat.le_trans (by decide) h0d
  refine r_iload (x := x5) d_X12_often_17 rfl ?_
  refine r_iconst (x := 3) d_X12_often_19 ⟨by decide, by decide⟩ ?_
  refine r_ic_ge (tgt := 57) d_X12_often_20 rfl (fun hc => ?_) (fun hc => ?_)
  · have h := h.1 hc
    refine x_iinc (x := x4) (L := [(2, t), (0, x1), (0, x2), (0, x3), (0, x4), (0, x5)]) d_X12_often_57 rfl (by decide) rfl (fun y1 ey1 => ?_)
    have h := h y1 ey1
    show WP _ _ _ _ _ _ _ _ [(2, t), (0, x1), (0, x2), (0, x3), (0, y1), (0, x5)] _ _ _ _
    refine r_goto (tgt := 5) d_X12_often_60 rfl ?_
    exact x_mask h ⟨Or.inr rfl, Or.inr rfl, Or.inr rfl, Or.inr rfl, Or.inr rfl, Or.inl rfl, trivial⟩
  · have h := h.2 hc
    refine r_iload_n (x := x3) d_X12_often_23 rfl ?_
    refine r_aload_n (x := t) d_X12_often_24 rfl o_t.1 ?_
    refine r_getf (j := 2) (t := 2) (x := t_letterOf) d_X12_often_25 kX12 (by decide) fl_X12_17 o_t.1 o_t.2.1 o_t.2.2.1 o_t.2.2.2 rfl f_t_letterOf ?_
    refine r_iconst (x := 3) d_X12_often_28 ⟨by decide, by decide⟩ ?_
    refine r_iload_n (x := x1) d_X12_often_29 rfl ?_
    refine r_iload (x := x4) d_X12_often_30 rfl ?_
    refine x_callSI (Y2 := mX12_rankIn) (As := [(0, x1), (0, x4)]) (S := [(0, 3), (2, t_letterOf), (0, x3)]) d_X12_often_32 ok_mX12_rankIn ml_X12_135 rfl (Nat.le_of_ble_eq_true rfl) (Nat.le_of_ble_eq_true rfl) rfl hd_1 (CI.mono h (fun v3 σ2 h => ?_))
    refine r_imul d_X12_often_35 ?_
    refine r_iload (x := x5) d_X12_often_36 rfl ?_
    refine r_iadd d_X12_often_38 ?_
    refine x_iald d_X12_often_39 h.1 ?_
    have h := h.2
    refine r_iload_n (x := x2) d_X12_often_40 rfl ?_
    refine r_ic_ne (tgt := 48) d_X12_often_41 rfl (fun hc => ?_) (fun hc => ?_)
    · have h := h.1 hc
      refine r_iconst (x := 0) d_X12_often_48 ⟨by decide, by decide⟩ ?_
      refine r_iadd d_X12_often_49 ?_
      refine r_nm (fun y4 ey4 => ?_)
      have h := h y4 ey4
      refine r_istore_n (L2 := [(2, t), (0, x1), (0, x2), (0, y4), (0, x4), (0, x5)]) d_X12_often_50 (by decide) rfl rfl ?_
      refine x_iinc (x := x5) (L := [(2, t), (0, x1), (0, x2), (0, y4), (0, x4), (0, x5)]) d_X12_often_51 rfl (by decide) rfl (fun y5 ey5 => ?_)
      have h := h y5 ey5
      show WP _ _ _ _ _ _ _ _ [(2, t), (0, x1), (0, x2), (0, y4), (0, x4), (0, y5)] _ _ _ _
      refine r_goto (tgt := 17) d_X12_often_54 rfl ?_
      exact h
    · have h := h.2 hc
      refine r_iconst (x := 1) d_X12_often_44 ⟨by decide, by decide⟩ ?_
      refine r_goto (tgt := 49) d_X12_often_45 rfl ?_
      refine r_iadd d_X12_often_49 ?_
      refine r_nm (fun y6 ey6 => ?_)
      have h := h y6 ey6
      refine r_istore_n (L2 := [(2, t), (0, x1), (0, x2), (0, y6), (0, x4), (0, x5)]) d_X12_often_50 (by decide) rfl rfl ?_
      refine x_iinc (x := x5) (L := [(2, t), (0, x1), (0, x2), (0, y6), (0, x4), (0, x5)]) d_X12_often_51 rfl (by decide) rfl (fun y7 ey7 => ?_)
      have h := h y7 ey7
      show WP _ _ _ _ _ _ _ _ [(2, t), (0, x1), (0, x2), (0, y6), (0, x4), (0, y7)] _ _ _ _
      refine r_goto (tgt := 17) d_X12_often_54 rfl ?_
      exact h
theorem v_X12_degree_0 {l : Launch} {d N : Nat} {Λ : Lay} {P : Int → Mem → Prop} {σ : Mem} {x1 x2 t : Int} (o_t : Ob N Λ t 21 36) (h0d : 2 ≤ d)
    (h : (∀ τ1, τ1 = st σ t 0 0 → (((cmpL x1 0) < 0 → P (-2) τ1) ∧ (¬ ((cmpL x1 0) < 0) → ((0 < (cmpL x1 5) → P (-2) τ1) ∧ (¬ (0 < (cmpL x1 5)) → (((cmpL x2 0) < 0 → P (-2) τ1) ∧ (¬ ((cmpL x2 0) < 0) → ((0 < (cmpL x2 9) → P (-2) τ1) ∧ (¬ (0 < (cmpL x2 9)) → WI l mX12_degree d P 27 [(2, t), (0, x1), (0, x2), (0, (-1)), (0, 0), (3, 0)] [] N Λ τ1)))))))))) :
    WI l mX12_degree d P 0 [(2, t), (0, x1), (0, x2), (3, 0), (3, 0), (3, 0)] [] N Λ σ := by
  have hd_1 : 1 ≤ d := Nat.le_trans (by decide) h0d
  have he_1 : 1 ≤ d - 1 := Nat.le_sub_of_add_le (Nat.le_trans (by decide) h0d)
  refine r_aload_n (x := t) d_X12_degree_0 rfl o_t.1 ?_
  refine r_iconst (x := 0) d_X12_degree_1 ⟨by decide, by decide⟩ ?_
  refine r_putI (j := 0) d_X12_degree_2 kX12 (by decide) fl_X12_1 rfl o_t.1 o_t.2.1 o_t.2.2.1 o_t.2.2.2 rfl ?_
  refine r_nmM (fun τ1 eτ1 => ?_)
  have h := h τ1 eτ1
  refine r_iload_n (x := x1) d_X12_degree_5 rfl ?_
  refine x_callSI (Y2 := mX12_isShelf) (As := [(0, x1)]) (S := []) d_X12_degree_6 ok_mX12_isShelf ml_X12_199 rfl (Nat.le_of_ble_eq_true rfl) (Nat.le_of_ble_eq_true rfl) rfl hd_1 (c_X12_isShelf (v_X12_isShelf_0 he_1 ?_))
  refine ⟨fun hc => ?_, fun hc => ?_⟩
  · have h := h.1 hc
    show WP l mX12_degree (rm d 0 0) noX _ 0 0 9 [(2, t), (0, x1), (0, x2), (3, 0), (3, 0), (3, 0)] [(0, 0)] N Λ τ1
    refine r_if_eq (tgt := 19) d_X12_degree_9 rfl (fun _ => ?_) (fun hc => absurd hc (by decide))
    refine r_bipush (x := (-2)) d_X12_degree_19 ⟨by decide, by decide⟩ (by decide) ?_
    exact r_iret d_X12_degree_21 rfl rfl (Nat.le_refl 0) (Nat.le_refl 0) ⟨_, rfl, rfl, rfl, h⟩
  · have h := h.2 hc
    refine ⟨fun hc => ?_, fun hc => ?_⟩
    · have h := h.1 hc
      show WP l mX12_degree (rm d 0 0) noX _ 0 0 9 [(2, t), (0, x1), (0, x2), (3, 0), (3, 0), (3, 0)] [(0, 0)] N Λ τ1
      refine r_if_eq (tgt := 19) d_X12_degree_9 rfl (fun _ => ?_) (fun hc => absurd hc (by decide))
      refine r_bipush (x := (-2)) d_X12_degree_19 ⟨by decide, by decide⟩ (by decide) ?_
      exact r_iret d_X12_degree_21 rfl rfl (Nat.le_refl 0) (Nat.le_refl 0) ⟨_, rfl, rfl, rfl, h⟩
    · have h := h.2 hc
      show WP l mX12_degree (rm d 0 0) noX _ 0 0 9 [(2, t), (0, x1), (0, x2), (3, 0), (3, 0), (3, 0)] [(0, 1)] N Λ τ1
      refine r_if_eq (tgt := 19) d_X12_degree_9 rfl (fun hc => absurd hc (by decide)) (fun _ => ?_)
      refine r_iload_n (x := x2) d_X12_degree_12 rfl ?_
      refine x_callSI (Y2 := mX12_isLetter) (As := [(0, x2)]) (S := []) d_X12_degree_13 ok_mX12_isLetter ml_X12_208 rfl (Nat.le_of_ble_eq_true rfl) (Nat.le_of_ble_eq_true rfl) rfl hd_1 (c_X12_isLetter (v_X12_isLetter_0 he_1 ?_))
      refine ⟨fun hc => ?_, fun hc => ?_⟩
      · have h := h.1 hc
        show WP l mX12_degree (rm d 0 0) noX _ 0 0 16 [(2, t), (0, x1), (0, x2), (3, 0), (3, 0), (3, 0)] [(0, 0)] N Λ τ1
        refine r_if_ne (tgt := 22) d_X12_degree_16 rfl (fun hc => absurd hc (by decide)) (fun _ => ?_)
        refine r_bipush (x := (-2)) d_X12_degree_19 ⟨by decide, by decide⟩ (by decide) ?_
        exact r_iret d_X12_degree_21 rfl rfl (Nat.le_refl 0) (Nat.le_refl 0) ⟨_, rfl, rfl, rfl, h⟩
      · have h := h.2 hc
        refine ⟨fun hc => ?_, fun hc => ?_⟩
        · have h := h.1 hc
          show WP l mX12_degree (rm d 0 0) noX _ 0 0 16 [(2, t), (0, x1), (0, x2), (3, 0), (3, 0), (3, 0)] [(0, 0)] N Λ τ1
          refine r_if_ne (tgt := 22) d_X12_degree_16 rfl (fun hc => absurd hc (by decide)) (fun _ => ?_)
          refine r_bipush (x := (-2)) d_X12_degree_19 ⟨by decide, by decide⟩ (by decide) ?_
          exact r_iret d_X12_degree_21 rfl rfl (Nat.le_refl 0) (Nat.le_refl 0) ⟨_, rfl, rfl, rfl, h⟩
        · have h := h.2 hc
          show WP l mX12_degree (rm d 0 0) noX _ 0 0 16 [(2, t), (0, x1), (0, x2), (3, 0), (3, 0), (3, 0)] [(0, 1)] N Λ τ1
          refine r_if_ne (tgt := 22) d_X12_degree_16 rfl (fun _ => ?_) (fun hc => absurd hc (by decide))
          refine r_iconst (x := (-1)) d_X12_degree_22 ⟨by decide, by decide⟩ ?_
          refine r_istore_n (L2 := [(2, t), (0, x1), (0, x2), (0, (-1)), (3, 0), (3, 0)]) d_X12_degree_23 (by decide) rfl rfl ?_
          refine r_iconst (x := 0) d_X12_degree_24 ⟨by decide, by decide⟩ ?_
          refine r_istore (L2 := [(2, t), (0, x1), (0, x2), (0, (-1)), (0, 0), (3, 0)]) d_X12_degree_25 (by decide) rfl rfl ?_
          exact h
theorem v_X12_degree_27 {l : Launch} {d N : Nat} {Λ : Lay} {P : Int → Mem → Prop} {σ : Mem} {x1 x2 x3 x4 t t_state : Int} (o_t : Ob N Λ t 21 36) (f_t_state : (Λ t).2.2 3 = t_state) (z_t_state : 0 ≤ t_state) (h0d : 1 ≤ d)
    (h : (Ix N Λ t_state 0 (mulI 161 x1) ∧ (((σ t_state (mulI 161 x1)) ≤ x4 → P x3 σ) ∧ (¬ ((σ t_state (mulI 161 x1)) ≤ x4) → (Ix N Λ t_state 0 (addI (addI (mulI 161 x1) 1) (mulI 2 x4)) ∧ (CI l mX12_often (d - 1) [(2, t), (0, (σ t_state (addI (addI (mulI 161 x1) 1) (mulI 2 x4)))), (0, x2)] N Λ σ (fun v2 σ1 => ((x4 ≤ 0 → (∀ y3, y3 = addI x4 1 → WI l mX12_degree d P 27 [(2, t), (0, x1), (0, x2), (0, v2), (0, y3), (3, 0)] [] N Λ σ1)) ∧ (¬ (x4 ≤ 0) → ((v2 = x3 → (∀ y4, y4 = addI x4 1 → WI l mX12_degree d P 27 [(2, t), (0, x1), (0, x2), (0, v2), (0, y4), (3, 0)] [] N Λ σ1)) ∧ (¬ (v2 = x3) → P (-1) σ1))))))))))) :
    WI l mX12_degree d P 27 [(2, t), (0, x1), (0, x2), (0, x3), (0, x4), (3, 0)] [] N Λ σ := by
  have hd_1 : 1 ≤ d := Nat.le_trans (by decide) h0d
  refine r_iload (x := x4) d_X12_degree_27 rfl ?_
  refine r_aload_n (x := t) d_X12_degree_29 rfl o_t.1 ?_
  refine r_getf (j := 3) (t := 2) (x := t_state) d_X12_degree_30 kX12 (by decide) fl_X12_20 o_t.1 o_t.2.1 o_t.2.2.1 o_t.2.2.2 rfl f_t_state ?_
  refine r_sipush (x := 161) d_X12_degree_33 ⟨by decide, by decide⟩ (by decide) ?_
  refine r_iload_n (x := x1) d_X12_degree_36 rfl ?_
  refine r_imul d_X12_degree_37 ?_
  refine x_iald d_X12_degree_38 h.1 ?_
  have h := h.2
  refine r_ic_ge (tgt := 81) d_X12_degree_39 rfl (fun hc => ?_) (fun hc => ?_)
  · have h := h.1 hc
    refine r_iload_n (x := x3) d_X12_degree_81 rfl ?_
    exact r_iret d_X12_degree_82 rfl rfl (Nat.le_refl 0) (Nat.le_refl 0) ⟨_, rfl, rfl, rfl, h⟩
  · have h := h.2 hc
    refine r_aload_n (x := t) d_X12_degree_42 rfl o_t.1 ?_
    refine r_aload_n (x := t) d_X12_degree_43 rfl o_t.1 ?_
    refine r_getf (j := 3) (t := 2) (x := t_state) d_X12_degree_44 kX12 (by decide) fl_X12_20 o_t.1 o_t.2.1 o_t.2.2.1 o_t.2.2.2 rfl f_t_state ?_
    refine r_iload_n (x := x1) d_X12_degree_47 rfl ?_
    refine r_iload (x := x4) d_X12_degree_48 rfl ?_
    refine x_callSI (Y2 := mX12_keyOn) (As := [(2, t_state), (0, x1), (0, x4)]) (S := [(2, t)]) d_X12_degree_50 ok_mX12_keyOn ml_X12_339 rfl (Nat.le_of_ble_eq_true rfl) (Nat.le_of_ble_eq_true rfl) rfl hd_1 (c_X12_keyOn (v_X12_keyOn_0 z_t_state ?_))
    refine ⟨h.1, ?_⟩
    have h := h.2
    show WP l mX12_degree (rm d 0 0) noX _ 0 0 53 [(2, t), (0, x1), (0, x2), (0, x3), (0, x4), (3, 0)] [(0, (σ t_state (addI (addI (mulI 161 x1) 1) (mulI 2 x4)))), (2, t)] N Λ σ
    refine r_iload_n (x := x2) d_X12_degree_53 rfl ?_
    refine x_callVI (Y2 := mX12_often) (c := t) (As := [(0, (σ t_state (addI (addI (mulI 161 x1) 1) (mulI 2 x4)))), (0, x2)]) (S := []) d_X12_degree_54 ok_mX12_often ml_X12_343 rfl (Nat.le_of_ble_eq_true rfl) (Nat.le_of_ble_eq_true rfl) rfl hd_1 kX12 o_t (CI.mono h (fun v2 σ1 h => ?_))
    refine r_istore (L2 := [(2, t), (0, x1), (0, x2), (0, x3), (0, x4), (0, v2)]) d_X12_degree_57 (by decide) rfl rfl ?_
    refine r_iload (x := x4) d_X12_degree_59 rfl ?_
    refine r_if_le (tgt := 72) d_X12_degree_61 rfl (fun hc => ?_) (fun hc => ?_)
    · have h := h.1 hc
      refine r_iload (x := v2) d_X12_degree_72 rfl ?_
      refine r_istore_n (L2 := [(2, t), (0, x1), (0, x2), (0, v2), (0, x4), (0, v2)]) d_X12_degree_74 (by decide) rfl rfl ?_
      refine x_iinc (x := x4) (L := [(2, t), (0, x1), (0, x2), (0, v2), (0, x4), (0, v2)]) d_X12_degree_75 rfl (by decide) rfl (fun y3 ey3 => ?_)
      have h := h y3 ey3
      show WP _ _ _ _ _ _ _ _ [(2, t), (0, x1), (0, x2), (0, v2), (0, y3), (0, v2)] _ _ _ _
      refine r_goto (tgt := 27) d_X12_degree_78 rfl ?_
      exact x_mask h ⟨Or.inr rfl, Or.inr rfl, Or.inr rfl, Or.inr rfl, Or.inr rfl, Or.inl rfl, trivial⟩
    · have h := h.2 hc
      refine r_iload (x := v2) d_X12_degree_64 rfl ?_
      refine r_iload_n (x := x3) d_X12_degree_66 rfl ?_
      refine r_ic_eq (tgt := 72) d_X12_degree_67 rfl (fun hc => ?_) (fun hc => ?_)
      · have h := h.1 hc
        refine r_iload (x := v2) d_X12_degree_72 rfl ?_
        refine r_istore_n (L2 := [(2, t), (0, x1), (0, x2), (0, v2), (0, x4), (0, v2)]) d_X12_degree_74 (by decide) rfl rfl ?_
        refine x_iinc (x := x4) (L := [(2, t), (0, x1), (0, x2), (0, v2), (0, x4), (0, v2)]) d_X12_degree_75 rfl (by decide) rfl (fun y4 ey4 => ?_)
        have h := h y4 ey4
        show WP _ _ _ _ _ _ _ _ [(2, t), (0, x1), (0, x2), (0, v2), (0, y4), (0, v2)] _ _ _ _
        refine r_goto (tgt := 27) d_X12_degree_78 rfl ?_
        exact x_mask h ⟨Or.inr rfl, Or.inr rfl, Or.inr rfl, Or.inr rfl, Or.inr rfl, Or.inl rfl, trivial⟩
      · have h := h.2 hc
        refine r_iconst (x := (-1)) d_X12_degree_70 ⟨by decide, by decide⟩ ?_
        exact r_iret d_X12_degree_71 rfl rfl (Nat.le_refl 0) (Nat.le_refl 0) ⟨_, rfl, rfl, rfl, h⟩
theorem v_X12_straightInto_0 {l : Launch} {d N : Nat} {Λ : Lay} {P : Int → Mem → Prop} {σ : Mem} {x1 x2 t t_pool t_state : Int} (o_t : Ob N Λ t 21 36) (f_t_state : (Λ t).2.2 3 = t_state) (f_t_pool : (Λ t).2.2 7 = t_pool) (h0d : 2 ≤ d)
    (h : (CV l mX12_copies (d - 1 - 1) [(2, t_state), (0, (mulI 161 x1)), (2, t_pool), (0, (mulI 161 x2)), (0, 161)] N Λ σ (fun σ1 => (CI l mX12_straightens (d - 1) [(2, t), (0, x2)] N Λ σ1 (fun v3 σ2 => (∀ τ4, τ4 = st σ2 t 24 v3 → (∀ τ5, τ5 = st τ4 t 16 (τ4 t 8) → ((¬ (τ5 t 8) = 0 → ((¬ (τ5 t 8) = 4 → P (-4) τ5) ∧ ((τ5 t 8) = 4 → P (-7) τ5))) ∧ ((τ5 t 8) = 0 → P 0 τ5))))))))) :
    WI l mX12_straightInto d P 0 [(2, t), (0, x1), (0, x2)] [] N Λ σ := by
  have hd_1 : 1 ≤ d := Nat.le_trans (by decide) h0d
  have he_1 : 1 ≤ d - 1 := Nat.le_sub_of_add_le (Nat.le_trans (by decide) h0d)
  refine r_aload_n (x := t) d_X12_straightInto_0 rfl o_t.1 ?_
  refine r_iload_n (x := x1) d_X12_straightInto_1 rfl ?_
  refine r_iload_n (x := x2) d_X12_straightInto_2 rfl ?_
  refine x_callVV (Y2 := mX12_takes) (c := t) (As := [(0, x1), (0, x2)]) (S := []) d_X12_straightInto_3 ok_mX12_takes ml_X12_205 rfl (Nat.le_of_ble_eq_true rfl) (Nat.le_of_ble_eq_true rfl) rfl hd_1 kX12 o_t (c_X12_takes (v_X12_takes_0 o_t f_t_state f_t_pool he_1 ?_))
  refine CV.mono h (fun σ1 h => ?_)
  show WP l mX12_straightInto (rm d 0 0) noX _ 0 0 6 [(2, t), (0, x1), (0, x2)] [] N Λ σ1
  refine r_aload_n (x := t) d_X12_straightInto_6 rfl o_t.1 ?_
  refine r_aload_n (x := t) d_X12_straightInto_7 rfl o_t.1 ?_
  refine r_iload_n (x := x2) d_X12_straightInto_8 rfl ?_
  refine x_callVI (Y2 := mX12_straightens) (c := t) (As := [(0, x2)]) (S := [(2, t)]) d_X12_straightInto_9 ok_mX12_straightens ml_X12_241 rfl (Nat.le_of_ble_eq_true rfl) (Nat.le_of_ble_eq_true rfl) rfl hd_1 kX12 o_t (CI.mono h (fun v3 σ2 h => ?_))
  refine r_putI (j := 24) d_X12_straightInto_12 kX12 (by decide) fl_X12_346 rfl o_t.1 o_t.2.1 o_t.2.2.1 o_t.2.2.2 rfl ?_
  refine r_nmM (fun τ4 eτ4 => ?_)
  have h := h τ4 eτ4
  refine r_aload_n (x := t) d_X12_straightInto_15 rfl o_t.1 ?_
  refine r_aload_n (x := t) d_X12_straightInto_16 rfl o_t.1 ?_
  refine r_getf (j := 8) (t := 0) (x := (τ4 t 8)) d_X12_straightInto_17 kX12 (by decide) fl_X12_102 o_t.1 o_t.2.1 o_t.2.2.1 o_t.2.2.2 rfl rfl ?_
  refine r_putI (j := 16) d_X12_straightInto_20 kX12 (by decide) fl_X12_187 rfl o_t.1 o_t.2.1 o_t.2.2.1 o_t.2.2.2 rfl ?_
  refine r_nmM (fun τ5 eτ5 => ?_)
  have h := h τ5 eτ5
  refine r_aload_n (x := t) d_X12_straightInto_23 rfl o_t.1 ?_
  refine r_getf (j := 8) (t := 0) (x := (τ5 t 8)) d_X12_straightInto_24 kX12 (by decide) fl_X12_102 o_t.1 o_t.2.1 o_t.2.2.1 o_t.2.2.2 rfl rfl ?_
  refine r_if_ne (tgt := 34) d_X12_straightInto_27 rfl (fun hc => ?_) (fun hc => ?_)
  · have h := h.1 hc
    refine r_aload_n (x := t) d_X12_straightInto_34 rfl o_t.1 ?_
    refine r_aload_n (x := t) d_X12_straightInto_35 rfl o_t.1 ?_
    refine r_getf (j := 8) (t := 0) (x := (τ5 t 8)) d_X12_straightInto_36 kX12 (by decide) fl_X12_102 o_t.1 o_t.2.1 o_t.2.2.1 o_t.2.2.2 rfl rfl ?_
    refine x_callVI (Y2 := mX12_codeOf) (c := t) (As := [(0, (τ5 t 8))]) (S := []) d_X12_straightInto_39 ok_mX12_codeOf ml_X12_193 rfl (Nat.le_of_ble_eq_true rfl) (Nat.le_of_ble_eq_true rfl) rfl hd_1 kX12 o_t (c_X12_codeOf (v_X12_codeOf_0 ?_))
    refine ⟨fun hc => ?_, fun hc => ?_⟩
    · have h := h.1 hc
      show WP l mX12_straightInto (rm d 0 0) noX _ 0 0 42 [(2, t), (0, x1), (0, x2)] [(0, (-4))] N Λ τ5
      exact r_iret d_X12_straightInto_42 rfl rfl (Nat.le_refl 0) (Nat.le_refl 0) ⟨_, rfl, rfl, rfl, h⟩
    · have h := h.2 hc
      show WP l mX12_straightInto (rm d 0 0) noX _ 0 0 42 [(2, t), (0, x1), (0, x2)] [(0, (-7))] N Λ τ5
      exact r_iret d_X12_straightInto_42 rfl rfl (Nat.le_refl 0) (Nat.le_refl 0) ⟨_, rfl, rfl, rfl, h⟩
  · have h := h.2 hc
    refine r_iconst (x := 0) d_X12_straightInto_30 ⟨by decide, by decide⟩ ?_
    refine r_goto (tgt := 42) d_X12_straightInto_31 rfl ?_
    exact r_iret d_X12_straightInto_42 rfl rfl (Nat.le_refl 0) (Nat.le_refl 0) ⟨_, rfl, rfl, rfl, h⟩
theorem v_X12_steps__0 {l : Launch} {d N : Nat} {Λ : Lay} {P : Int → Mem → Prop} {σ : Mem} {x1 t t_pool t_state : Int} (o_t : Ob N Λ t 21 36) (f_t_pool : (Λ t).2.2 7 = t_pool) (f_t_state : (Λ t).2.2 3 = t_state) (h0d : 3 ≤ d)
    (h : (∀ τ1, τ1 = st σ t 0 0 → (((cmpL x1 0) < 0 → (∀ τ2, τ2 = st τ1 t 16 0 → P (-2) τ2)) ∧ (¬ ((cmpL x1 0) < 0) → ((0 < (cmpL x1 5) → (∀ τ3, τ3 = st τ1 t 16 0 → P (-2) τ3)) ∧ (¬ (0 < (cmpL x1 5)) → (∀ τ4, τ4 = st τ1 t 8 0 → (Ix N Λ t_pool 0 (mulI 161 0) ∧ (∀ τ5, τ5 = st τ4 t_pool (mulI 161 0) 0 → (CV l mX12_copies (d - 1 - 1 - 1) [(2, t_state), (0, (mulI 161 x1)), (2, t_pool), (0, (mulI 161 0)), (0, 161)] N Λ τ5 (fun σ6 => (CI l mX12_straightens (d - 1 - 1) [(2, t), (0, 0)] N Λ σ6 (fun v7 σ8 => (∀ τ9, τ9 = st σ8 t 24 v7 → (∀ τ10, τ10 = st τ9 t 16 (τ9 t 8) → ((¬ (τ10 t 8) = 0 → ((¬ (τ10 t 8) = 4 → P (-4) τ10) ∧ ((τ10 t 8) = 4 → P (-7) τ10))) ∧ ((τ10 t 8) = 0 → P (τ10 t 24) τ10))))))))))))))))) :
    WI l mX12_steps_ d P 0 [(2, t), (0, x1), (3, 0)] [] N Λ σ := by
  have hd_1 : 1 ≤ d := Nat.le_trans (by decide) h0d
  have he_1 : 1 ≤ d - 1 := Nat.le_sub_of_add_le (Nat.le_trans (by decide) h0d)
  have he_2 : 2 ≤ d - 1 := Nat.le_sub_of_add_le (Nat.le_trans (by decide) h0d)
  refine r_aload_n (x := t) d_X12_steps__0 rfl o_t.1 ?_
  refine r_iconst (x := 0) d_X12_steps__1 ⟨by decide, by decide⟩ ?_
  refine r_putI (j := 0) d_X12_steps__2 kX12 (by decide) fl_X12_1 rfl o_t.1 o_t.2.1 o_t.2.2.1 o_t.2.2.2 rfl ?_
  refine r_nmM (fun τ1 eτ1 => ?_)
  have h := h τ1 eτ1
  refine r_iload_n (x := x1) d_X12_steps__5 rfl ?_
  refine x_callSI (Y2 := mX12_isShelf) (As := [(0, x1)]) (S := []) d_X12_steps__6 ok_mX12_isShelf ml_X12_199 rfl (Nat.le_of_ble_eq_true rfl) (Nat.le_of_ble_eq_true rfl) rfl hd_1 (c_X12_isShelf (v_X12_isShelf_0 he_1 ?_))
  refine ⟨fun hc => ?_, fun hc => ?_⟩
  · have h := h.1 hc
    show WP l mX12_steps_ (rm d 0 0) noX _ 0 0 9 [(2, t), (0, x1), (3, 0)] [(0, 0)] N Λ τ1
    refine r_if_ne (tgt := 19) d_X12_steps__9 rfl (fun hc => absurd hc (by decide)) (fun _ => ?_)
    refine r_aload_n (x := t) d_X12_steps__12 rfl o_t.1 ?_
    refine r_bipush (x := (-2)) d_X12_steps__13 ⟨by decide, by decide⟩ (by decide) ?_
    refine x_callVI (Y2 := mX12_refused) (c := t) (As := [(0, (-2))]) (S := []) d_X12_steps__15 ok_mX12_refused ml_X12_218 rfl (Nat.le_of_ble_eq_true rfl) (Nat.le_of_ble_eq_true rfl) rfl hd_1 kX12 o_t (c_X12_refused (v_X12_refused_0 o_t ?_))
    intro τ2 eτ2
    have h := h τ2 eτ2
    show WP l mX12_steps_ (rm d 0 0) noX _ 0 0 18 [(2, t), (0, x1), (3, 0)] [(0, (-2))] N Λ τ2
    exact r_iret d_X12_steps__18 rfl rfl (Nat.le_refl 0) (Nat.le_refl 0) ⟨_, rfl, rfl, rfl, h⟩
  · have h := h.2 hc
    refine ⟨fun hc => ?_, fun hc => ?_⟩
    · have h := h.1 hc
      show WP l mX12_steps_ (rm d 0 0) noX _ 0 0 9 [(2, t), (0, x1), (3, 0)] [(0, 0)] N Λ τ1
      refine r_if_ne (tgt := 19) d_X12_steps__9 rfl (fun hc => absurd hc (by decide)) (fun _ => ?_)
      refine r_aload_n (x := t) d_X12_steps__12 rfl o_t.1 ?_
      refine r_bipush (x := (-2)) d_X12_steps__13 ⟨by decide, by decide⟩ (by decide) ?_
      refine x_callVI (Y2 := mX12_refused) (c := t) (As := [(0, (-2))]) (S := []) d_X12_steps__15 ok_mX12_refused ml_X12_218 rfl (Nat.le_of_ble_eq_true rfl) (Nat.le_of_ble_eq_true rfl) rfl hd_1 kX12 o_t (c_X12_refused (v_X12_refused_0 o_t ?_))
      intro τ3 eτ3
      have h := h τ3 eτ3
      show WP l mX12_steps_ (rm d 0 0) noX _ 0 0 18 [(2, t), (0, x1), (3, 0)] [(0, (-2))] N Λ τ3
      exact r_iret d_X12_steps__18 rfl rfl (Nat.le_refl 0) (Nat.le_refl 0) ⟨_, rfl, rfl, rfl, h⟩
    · have h := h.2 hc
      show WP l mX12_steps_ (rm d 0 0) noX _ 0 0 9 [(2, t), (0, x1), (3, 0)] [(0, 1)] N Λ τ1
      refine r_if_ne (tgt := 19) d_X12_steps__9 rfl (fun _ => ?_) (fun hc => absurd hc (by decide))
      refine r_aload_n (x := t) d_X12_steps__19 rfl o_t.1 ?_
      refine x_callVV (Y2 := mX12_begins) (c := t) (As := []) (S := []) d_X12_steps__20 ok_mX12_begins ml_X12_202 rfl (Nat.le_of_ble_eq_true rfl) (Nat.le_of_ble_eq_true rfl) rfl hd_1 kX12 o_t (c_X12_begins (v_X12_begins_0 o_t f_t_pool he_1 ?_))
      intro τ4 eτ4
      have h := h τ4 eτ4
      refine ⟨h.1, ?_⟩
      have h := h.2
      intro τ5 eτ5
      have h := h τ5 eτ5
      show WP l mX12_steps_ (rm d 0 0) noX _ 0 0 23 [(2, t), (0, x1), (3, 0)] [] N Λ τ5
      refine r_aload_n (x := t) d_X12_steps__23 rfl o_t.1 ?_
      refine r_iload_n (x := x1) d_X12_steps__24 rfl ?_
      refine r_iconst (x := 0) d_X12_steps__25 ⟨by decide, by decide⟩ ?_
      refine x_callVI (Y2 := mX12_straightInto) (c := t) (As := [(0, x1), (0, 0)]) (S := []) d_X12_steps__26 ok_mX12_straightInto ml_X12_349 rfl (Nat.le_of_ble_eq_true rfl) (Nat.le_of_ble_eq_true rfl) rfl hd_1 kX12 o_t (c_X12_straightInto (v_X12_straightInto_0 o_t f_t_state f_t_pool he_2 ?_))
      refine CV.mono h (fun σ6 h => ?_)
      refine CI.mono h (fun v7 σ8 h => ?_)
      intro τ9 eτ9
      have h := h τ9 eτ9
      intro τ10 eτ10
      have h := h τ10 eτ10
      refine ⟨fun hc => ?_, fun hc => ?_⟩
      · have h := h.1 hc
        refine ⟨fun hc => ?_, fun hc => ?_⟩
        · have h := h.1 hc
          show WP l mX12_steps_ (rm d 0 0) noX _ 0 0 29 [(2, t), (0, x1), (3, 0)] [(0, (-4))] N Λ τ10
          refine r_istore_n (L2 := [(2, t), (0, x1), (0, (-4))]) d_X12_steps__29 (by decide) rfl rfl ?_
          refine r_iload_n (x := (-4)) d_X12_steps__30 rfl ?_
          refine r_if_eq (tgt := 38) d_X12_steps__31 rfl (fun hc => absurd hc (by decide)) (fun _ => ?_)
          refine r_iload_n (x := (-4)) d_X12_steps__34 rfl ?_
          refine r_goto (tgt := 42) d_X12_steps__35 rfl ?_
          exact r_iret d_X12_steps__42 rfl rfl (Nat.le_refl 0) (Nat.le_refl 0) ⟨_, rfl, rfl, rfl, h⟩
        · have h := h.2 hc
          show WP l mX12_steps_ (rm d 0 0) noX _ 0 0 29 [(2, t), (0, x1), (3, 0)] [(0, (-7))] N Λ τ10
          refine r_istore_n (L2 := [(2, t), (0, x1), (0, (-7))]) d_X12_steps__29 (by decide) rfl rfl ?_
          refine r_iload_n (x := (-7)) d_X12_steps__30 rfl ?_
          refine r_if_eq (tgt := 38) d_X12_steps__31 rfl (fun hc => absurd hc (by decide)) (fun _ => ?_)
          refine r_iload_n (x := (-7)) d_X12_steps__34 rfl ?_
          refine r_goto (tgt := 42) d_X12_steps__35 rfl ?_
          exact r_iret d_X12_steps__42 rfl rfl (Nat.le_refl 0) (Nat.le_refl 0) ⟨_, rfl, rfl, rfl, h⟩
      · have h := h.2 hc
        show WP l mX12_steps_ (rm d 0 0) noX _ 0 0 29 [(2, t), (0, x1), (3, 0)] [(0, 0)] N Λ τ10
        refine r_istore_n (L2 := [(2, t), (0, x1), (0, 0)]) d_X12_steps__29 (by decide) rfl rfl ?_
        refine r_iload_n (x := 0) d_X12_steps__30 rfl ?_
        refine r_if_eq (tgt := 38) d_X12_steps__31 rfl (fun _ => ?_) (fun hc => absurd hc (by decide))
        refine r_aload_n (x := t) d_X12_steps__38 rfl o_t.1 ?_
        refine r_getf (j := 24) (t := 0) (x := (τ10 t 24)) d_X12_steps__39 kX12 (by decide) fl_X12_346 o_t.1 o_t.2.1 o_t.2.2.1 o_t.2.2.2 rfl rfl ?_
        exact r_iret d_X12_steps__42 rfl rfl (Nat.le_refl 0) (Nat.le_refl 0) ⟨_, rfl, rfl, rfl, h⟩
theorem v_X12_left_0 {l : Launch} {d N : Nat} {Λ : Lay} {P : Int → Mem → Prop} {σ : Mem} {x1 t t_pool t_state : Int} (o_t : Ob N Λ t 21 36) (f_t_pool : (Λ t).2.2 7 = t_pool) (f_t_state : (Λ t).2.2 3 = t_state) (h0d : 3 ≤ d)
    (h : (∀ τ1, τ1 = st σ t 0 0 → (((cmpL x1 0) < 0 → (∀ τ2, τ2 = st τ1 t 16 0 → P (-2) τ2)) ∧ (¬ ((cmpL x1 0) < 0) → ((0 < (cmpL x1 5) → (∀ τ3, τ3 = st τ1 t 16 0 → P (-2) τ3)) ∧ (¬ (0 < (cmpL x1 5)) → (∀ τ4, τ4 = st τ1 t 8 0 → (Ix N Λ t_pool 0 (mulI 161 0) ∧ (∀ τ5, τ5 = st τ4 t_pool (mulI 161 0) 0 → (CV l mX12_copies (d - 1 - 1 - 1) [(2, t_state), (0, (mulI 161 x1)), (2, t_pool), (0, (mulI 161 0)), (0, 161)] N Λ τ5 (fun σ6 => (CI l mX12_straightens (d - 1 - 1) [(2, t), (0, 0)] N Λ σ6 (fun v7 σ8 => (∀ τ9, τ9 = st σ8 t 24 v7 → (∀ τ10, τ10 = st τ9 t 16 (τ9 t 8) → ((¬ (τ10 t 8) = 0 → ((¬ (τ10 t 8) = 4 → P (-4) τ10) ∧ ((τ10 t 8) = 4 → P (-7) τ10))) ∧ ((τ10 t 8) = 0 → (Ix N Λ t_pool 0 (mulI 161 0) ∧ P (τ10 t_pool (mulI 161 0)) τ10)))))))))))))))))) :
    WI l mX12_left d P 0 [(2, t), (0, x1), (3, 0)] [] N Λ σ := by
  have hd_1 : 1 ≤ d := Nat.le_trans (by decide) h0d
  have he_1 : 1 ≤ d - 1 := Nat.le_sub_of_add_le (Nat.le_trans (by decide) h0d)
  have he_2 : 2 ≤ d - 1 := Nat.le_sub_of_add_le (Nat.le_trans (by decide) h0d)
  refine r_aload_n (x := t) d_X12_left_0 rfl o_t.1 ?_
  refine r_iconst (x := 0) d_X12_left_1 ⟨by decide, by decide⟩ ?_
  refine r_putI (j := 0) d_X12_left_2 kX12 (by decide) fl_X12_1 rfl o_t.1 o_t.2.1 o_t.2.2.1 o_t.2.2.2 rfl ?_
  refine r_nmM (fun τ1 eτ1 => ?_)
  have h := h τ1 eτ1
  refine r_iload_n (x := x1) d_X12_left_5 rfl ?_
  refine x_callSI (Y2 := mX12_isShelf) (As := [(0, x1)]) (S := []) d_X12_left_6 ok_mX12_isShelf ml_X12_199 rfl (Nat.le_of_ble_eq_true rfl) (Nat.le_of_ble_eq_true rfl) rfl hd_1 (c_X12_isShelf (v_X12_isShelf_0 he_1 ?_))
  refine ⟨fun hc => ?_, fun hc => ?_⟩
  · have h := h.1 hc
    show WP l mX12_left (rm d 0 0) noX _ 0 0 9 [(2, t), (0, x1), (3, 0)] [(0, 0)] N Λ τ1
    refine r_if_ne (tgt := 19) d_X12_left_9 rfl (fun hc => absurd hc (by decide)) (fun _ => ?_)
    refine r_aload_n (x := t) d_X12_left_12 rfl o_t.1 ?_
    refine r_bipush (x := (-2)) d_X12_left_13 ⟨by decide, by decide⟩ (by decide) ?_
    refine x_callVI (Y2 := mX12_refused) (c := t) (As := [(0, (-2))]) (S := []) d_X12_left_15 ok_mX12_refused ml_X12_218 rfl (Nat.le_of_ble_eq_true rfl) (Nat.le_of_ble_eq_true rfl) rfl hd_1 kX12 o_t (c_X12_refused (v_X12_refused_0 o_t ?_))
    intro τ2 eτ2
    have h := h τ2 eτ2
    show WP l mX12_left (rm d 0 0) noX _ 0 0 18 [(2, t), (0, x1), (3, 0)] [(0, (-2))] N Λ τ2
    exact r_iret d_X12_left_18 rfl rfl (Nat.le_refl 0) (Nat.le_refl 0) ⟨_, rfl, rfl, rfl, h⟩
  · have h := h.2 hc
    refine ⟨fun hc => ?_, fun hc => ?_⟩
    · have h := h.1 hc
      show WP l mX12_left (rm d 0 0) noX _ 0 0 9 [(2, t), (0, x1), (3, 0)] [(0, 0)] N Λ τ1
      refine r_if_ne (tgt := 19) d_X12_left_9 rfl (fun hc => absurd hc (by decide)) (fun _ => ?_)
      refine r_aload_n (x := t) d_X12_left_12 rfl o_t.1 ?_
      refine r_bipush (x := (-2)) d_X12_left_13 ⟨by decide, by decide⟩ (by decide) ?_
      refine x_callVI (Y2 := mX12_refused) (c := t) (As := [(0, (-2))]) (S := []) d_X12_left_15 ok_mX12_refused ml_X12_218 rfl (Nat.le_of_ble_eq_true rfl) (Nat.le_of_ble_eq_true rfl) rfl hd_1 kX12 o_t (c_X12_refused (v_X12_refused_0 o_t ?_))
      intro τ3 eτ3
      have h := h τ3 eτ3
      show WP l mX12_left (rm d 0 0) noX _ 0 0 18 [(2, t), (0, x1), (3, 0)] [(0, (-2))] N Λ τ3
      exact r_iret d_X12_left_18 rfl rfl (Nat.le_refl 0) (Nat.le_refl 0) ⟨_, rfl, rfl, rfl, h⟩
    · have h := h.2 hc
      show WP l mX12_left (rm d 0 0) noX _ 0 0 9 [(2, t), (0, x1), (3, 0)] [(0, 1)] N Λ τ1
      refine r_if_ne (tgt := 19) d_X12_left_9 rfl (fun _ => ?_) (fun hc => absurd hc (by decide))
      refine r_aload_n (x := t) d_X12_left_19 rfl o_t.1 ?_
      refine x_callVV (Y2 := mX12_begins) (c := t) (As := []) (S := []) d_X12_left_20 ok_mX12_begins ml_X12_202 rfl (Nat.le_of_ble_eq_true rfl) (Nat.le_of_ble_eq_true rfl) rfl hd_1 kX12 o_t (c_X12_begins (v_X12_begins_0 o_t f_t_pool he_1 ?_))
      intro τ4 eτ4
      have h := h τ4 eτ4
      refine ⟨h.1, ?_⟩
      have h := h.2
      intro τ5 eτ5
      have h := h τ5 eτ5
      show WP l mX12_left (rm d 0 0) noX _ 0 0 23 [(2, t), (0, x1), (3, 0)] [] N Λ τ5
      refine r_aload_n (x := t) d_X12_left_23 rfl o_t.1 ?_
      refine r_iload_n (x := x1) d_X12_left_24 rfl ?_
      refine r_iconst (x := 0) d_X12_left_25 ⟨by decide, by decide⟩ ?_
      refine x_callVI (Y2 := mX12_straightInto) (c := t) (As := [(0, x1), (0, 0)]) (S := []) d_X12_left_26 ok_mX12_straightInto ml_X12_349 rfl (Nat.le_of_ble_eq_true rfl) (Nat.le_of_ble_eq_true rfl) rfl hd_1 kX12 o_t (c_X12_straightInto (v_X12_straightInto_0 o_t f_t_state f_t_pool he_2 ?_))
      refine CV.mono h (fun σ6 h => ?_)
      refine CI.mono h (fun v7 σ8 h => ?_)
      intro τ9 eτ9
      have h := h τ9 eτ9
      intro τ10 eτ10
      have h := h τ10 eτ10
      refine ⟨fun hc => ?_, fun hc => ?_⟩
      · have h := h.1 hc
        refine ⟨fun hc => ?_, fun hc => ?_⟩
        · have h := h.1 hc
          show WP l mX12_left (rm d 0 0) noX _ 0 0 29 [(2, t), (0, x1), (3, 0)] [(0, (-4))] N Λ τ10
          refine r_istore_n (L2 := [(2, t), (0, x1), (0, (-4))]) d_X12_left_29 (by decide) rfl rfl ?_
          refine r_iload_n (x := (-4)) d_X12_left_30 rfl ?_
          refine r_if_eq (tgt := 38) d_X12_left_31 rfl (fun hc => absurd hc (by decide)) (fun _ => ?_)
          refine r_iload_n (x := (-4)) d_X12_left_34 rfl ?_
          refine r_goto (tgt := 43) d_X12_left_35 rfl ?_
          exact r_iret d_X12_left_43 rfl rfl (Nat.le_refl 0) (Nat.le_refl 0) ⟨_, rfl, rfl, rfl, h⟩
        · have h := h.2 hc
          show WP l mX12_left (rm d 0 0) noX _ 0 0 29 [(2, t), (0, x1), (3, 0)] [(0, (-7))] N Λ τ10
          refine r_istore_n (L2 := [(2, t), (0, x1), (0, (-7))]) d_X12_left_29 (by decide) rfl rfl ?_
          refine r_iload_n (x := (-7)) d_X12_left_30 rfl ?_
          refine r_if_eq (tgt := 38) d_X12_left_31 rfl (fun hc => absurd hc (by decide)) (fun _ => ?_)
          refine r_iload_n (x := (-7)) d_X12_left_34 rfl ?_
          refine r_goto (tgt := 43) d_X12_left_35 rfl ?_
          exact r_iret d_X12_left_43 rfl rfl (Nat.le_refl 0) (Nat.le_refl 0) ⟨_, rfl, rfl, rfl, h⟩
      · have h := h.2 hc
        show WP l mX12_left (rm d 0 0) noX _ 0 0 29 [(2, t), (0, x1), (3, 0)] [(0, 0)] N Λ τ10
        refine r_istore_n (L2 := [(2, t), (0, x1), (0, 0)]) d_X12_left_29 (by decide) rfl rfl ?_
        refine r_iload_n (x := 0) d_X12_left_30 rfl ?_
        refine r_if_eq (tgt := 38) d_X12_left_31 rfl (fun _ => ?_) (fun hc => absurd hc (by decide))
        refine r_aload_n (x := t) d_X12_left_38 rfl o_t.1 ?_
        refine r_iconst (x := 0) d_X12_left_39 ⟨by decide, by decide⟩ ?_
        refine x_callVI (Y2 := mX12_many) (c := t) (As := [(0, 0)]) (S := []) d_X12_left_40 ok_mX12_many ml_X12_113 rfl (Nat.le_of_ble_eq_true rfl) (Nat.le_of_ble_eq_true rfl) rfl hd_1 kX12 o_t (c_X12_many (v_X12_many_0 o_t f_t_pool ?_))
        refine ⟨h.1, ?_⟩
        have h := h.2
        show WP l mX12_left (rm d 0 0) noX _ 0 0 43 [(2, t), (0, x1), (0, 0)] [(0, (τ10 t_pool (mulI 161 0)))] N Λ τ10
        exact r_iret d_X12_left_43 rfl rfl (Nat.le_refl 0) (Nat.le_refl 0) ⟨_, rfl, rfl, rfl, h⟩
theorem v_X12_equal_0 {l : Launch} {d N : Nat} {Λ : Lay} {P : Int → Mem → Prop} {σ : Mem} {x1 x2 t t_pool t_state : Int} (o_t : Ob N Λ t 21 36) (f_t_pool : (Λ t).2.2 7 = t_pool) (f_t_state : (Λ t).2.2 3 = t_state) (h0d : 3 ≤ d)
    (h : (∀ τ1, τ1 = st σ t 0 0 → (((cmpL x1 0) < 0 → (∀ τ2, τ2 = st τ1 t 16 0 → P (-2) τ2)) ∧ (¬ ((cmpL x1 0) < 0) → ((0 < (cmpL x1 5) → (∀ τ3, τ3 = st τ1 t 16 0 → P (-2) τ3)) ∧ (¬ (0 < (cmpL x1 5)) → (((cmpL x2 0) < 0 → (∀ τ4, τ4 = st τ1 t 16 0 → P (-2) τ4)) ∧ (¬ ((cmpL x2 0) < 0) → ((0 < (cmpL x2 5) → (∀ τ5, τ5 = st τ1 t 16 0 → P (-2) τ5)) ∧ (¬ (0 < (cmpL x2 5)) → (∀ τ6, τ6 = st τ1 t 8 0 → (Ix N Λ t_pool 0 (mulI 161 0) ∧ (∀ τ7, τ7 = st τ6 t_pool (mulI 161 0) 0 → (CV l mX12_copies (d - 1 - 1 - 1) [(2, t_state), (0, (mulI 161 x1)), (2, t_pool), (0, (mulI 161 3)), (0, 161)] N Λ τ7 (fun σ8 => (CI l mX12_straightens (d - 1 - 1) [(2, t), (0, 3)] N Λ σ8 (fun v9 σ10 => (∀ τ11, τ11 = st σ10 t 24 v9 → (∀ τ12, τ12 = st τ11 t 16 (τ11 t 8) → ((¬ (τ12 t 8) = 0 → ((¬ (τ12 t 8) = 4 → P (-4) τ12) ∧ ((τ12 t 8) = 4 → P (-7) τ12))) ∧ ((τ12 t 8) = 0 → (CV l mX12_copies (d - 1 - 1 - 1) [(2, t_state), (0, (mulI 161 x2)), (2, t_pool), (0, (mulI 161 4)), (0, 161)] N Λ τ12 (fun σ13 => (CI l mX12_straightens (d - 1 - 1) [(2, t), (0, 4)] N Λ σ13 (fun v14 σ15 => (∀ τ16, τ16 = st σ15 t 24 v14 → (∀ τ17, τ17 = st τ16 t 16 (τ16 t 8) → ((¬ (τ17 t 8) = 0 → ((¬ (τ17 t 8) = 4 → P (-4) τ17) ∧ ((τ17 t 8) = 4 → P (-7) τ17))) ∧ ((τ17 t 8) = 0 → (CI l mX12_areAlike (d - 1) [(2, t), (0, 3), (0, 4)] N Λ τ17 (fun v19 σ18 => ((v19 = 0 → P 0 σ18) ∧ (¬ (v19 = 0) → P 1 σ18))))))))))))))))))))))))))))))))) :
    WI l mX12_equal d P 0 [(2, t), (0, x1), (0, x2), (3, 0)] [] N Λ σ := by
  have hd_1 : 1 ≤ d := Nat.le_trans (by decide) h0d
  have he_1 : 1 ≤ d - 1 := Nat.le_sub_of_add_le (Nat.le_trans (by decide) h0d)
  have he_2 : 2 ≤ d - 1 := Nat.le_sub_of_add_le (Nat.le_trans (by decide) h0d)
  refine r_aload_n (x := t) d_X12_equal_0 rfl o_t.1 ?_
  refine r_iconst (x := 0) d_X12_equal_1 ⟨by decide, by decide⟩ ?_
  refine r_putI (j := 0) d_X12_equal_2 kX12 (by decide) fl_X12_1 rfl o_t.1 o_t.2.1 o_t.2.2.1 o_t.2.2.2 rfl ?_
  refine r_nmM (fun τ1 eτ1 => ?_)
  have h := h τ1 eτ1
  refine r_iload_n (x := x1) d_X12_equal_5 rfl ?_
  refine x_callSI (Y2 := mX12_isShelf) (As := [(0, x1)]) (S := []) d_X12_equal_6 ok_mX12_isShelf ml_X12_199 rfl (Nat.le_of_ble_eq_true rfl) (Nat.le_of_ble_eq_true rfl) rfl hd_1 (c_X12_isShelf (v_X12_isShelf_0 he_1 ?_))
  refine ⟨fun hc => ?_, fun hc => ?_⟩
  · have h := h.1 hc
    show WP l mX12_equal (rm d 0 0) noX _ 0 0 9 [(2, t), (0, x1), (0, x2), (3, 0)] [(0, 0)] N Λ τ1
    refine r_if_eq (tgt := 19) d_X12_equal_9 rfl (fun _ => ?_) (fun hc => absurd hc (by decide))
    refine r_aload_n (x := t) d_X12_equal_19 rfl o_t.1 ?_
    refine r_bipush (x := (-2)) d_X12_equal_20 ⟨by decide, by decide⟩ (by decide) ?_
    refine x_callVI (Y2 := mX12_refused) (c := t) (As := [(0, (-2))]) (S := []) d_X12_equal_22 ok_mX12_refused ml_X12_218 rfl (Nat.le_of_ble_eq_true rfl) (Nat.le_of_ble_eq_true rfl) rfl hd_1 kX12 o_t (c_X12_refused (v_X12_refused_0 o_t ?_))
    intro τ2 eτ2
    have h := h τ2 eτ2
    show WP l mX12_equal (rm d 0 0) noX _ 0 0 25 [(2, t), (0, x1), (0, x2), (3, 0)] [(0, (-2))] N Λ τ2
    exact r_iret d_X12_equal_25 rfl rfl (Nat.le_refl 0) (Nat.le_refl 0) ⟨_, rfl, rfl, rfl, h⟩
  · have h := h.2 hc
    refine ⟨fun hc => ?_, fun hc => ?_⟩
    · have h := h.1 hc
      show WP l mX12_equal (rm d 0 0) noX _ 0 0 9 [(2, t), (0, x1), (0, x2), (3, 0)] [(0, 0)] N Λ τ1
      refine r_if_eq (tgt := 19) d_X12_equal_9 rfl (fun _ => ?_) (fun hc => absurd hc (by decide))
      refine r_aload_n (x := t) d_X12_equal_19 rfl o_t.1 ?_
      refine r_bipush (x := (-2)) d_X12_equal_20 ⟨by decide, by decide⟩ (by decide) ?_
      refine x_callVI (Y2 := mX12_refused) (c := t) (As := [(0, (-2))]) (S := []) d_X12_equal_22 ok_mX12_refused ml_X12_218 rfl (Nat.le_of_ble_eq_true rfl) (Nat.le_of_ble_eq_true rfl) rfl hd_1 kX12 o_t (c_X12_refused (v_X12_refused_0 o_t ?_))
      intro τ3 eτ3
      have h := h τ3 eτ3
      show WP l mX12_equal (rm d 0 0) noX _ 0 0 25 [(2, t), (0, x1), (0, x2), (3, 0)] [(0, (-2))] N Λ τ3
      exact r_iret d_X12_equal_25 rfl rfl (Nat.le_refl 0) (Nat.le_refl 0) ⟨_, rfl, rfl, rfl, h⟩
    · have h := h.2 hc
      show WP l mX12_equal (rm d 0 0) noX _ 0 0 9 [(2, t), (0, x1), (0, x2), (3, 0)] [(0, 1)] N Λ τ1
      refine r_if_eq (tgt := 19) d_X12_equal_9 rfl (fun hc => absurd hc (by decide)) (fun _ => ?_)
      refine r_iload_n (x := x2) d_X12_equal_12 rfl ?_
      refine x_callSI (Y2 := mX12_isShelf) (As := [(0, x2)]) (S := []) d_X12_equal_13 ok_mX12_isShelf ml_X12_199 rfl (Nat.le_of_ble_eq_true rfl) (Nat.le_of_ble_eq_true rfl) rfl hd_1 (c_X12_isShelf (v_X12_isShelf_0 he_1 ?_))
      refine ⟨fun hc => ?_, fun hc => ?_⟩
      · have h := h.1 hc
        show WP l mX12_equal (rm d 0 0) noX _ 0 0 16 [(2, t), (0, x1), (0, x2), (3, 0)] [(0, 0)] N Λ τ1
        refine r_if_ne (tgt := 26) d_X12_equal_16 rfl (fun hc => absurd hc (by decide)) (fun _ => ?_)
        refine r_aload_n (x := t) d_X12_equal_19 rfl o_t.1 ?_
        refine r_bipush (x := (-2)) d_X12_equal_20 ⟨by decide, by decide⟩ (by decide) ?_
        refine x_callVI (Y2 := mX12_refused) (c := t) (As := [(0, (-2))]) (S := []) d_X12_equal_22 ok_mX12_refused ml_X12_218 rfl (Nat.le_of_ble_eq_true rfl) (Nat.le_of_ble_eq_true rfl) rfl hd_1 kX12 o_t (c_X12_refused (v_X12_refused_0 o_t ?_))
        intro τ4 eτ4
        have h := h τ4 eτ4
        show WP l mX12_equal (rm d 0 0) noX _ 0 0 25 [(2, t), (0, x1), (0, x2), (3, 0)] [(0, (-2))] N Λ τ4
        exact r_iret d_X12_equal_25 rfl rfl (Nat.le_refl 0) (Nat.le_refl 0) ⟨_, rfl, rfl, rfl, h⟩
      · have h := h.2 hc
        refine ⟨fun hc => ?_, fun hc => ?_⟩
        · have h := h.1 hc
          show WP l mX12_equal (rm d 0 0) noX _ 0 0 16 [(2, t), (0, x1), (0, x2), (3, 0)] [(0, 0)] N Λ τ1
          refine r_if_ne (tgt := 26) d_X12_equal_16 rfl (fun hc => absurd hc (by decide)) (fun _ => ?_)
          refine r_aload_n (x := t) d_X12_equal_19 rfl o_t.1 ?_
          refine r_bipush (x := (-2)) d_X12_equal_20 ⟨by decide, by decide⟩ (by decide) ?_
          refine x_callVI (Y2 := mX12_refused) (c := t) (As := [(0, (-2))]) (S := []) d_X12_equal_22 ok_mX12_refused ml_X12_218 rfl (Nat.le_of_ble_eq_true rfl) (Nat.le_of_ble_eq_true rfl) rfl hd_1 kX12 o_t (c_X12_refused (v_X12_refused_0 o_t ?_))
          intro τ5 eτ5
          have h := h τ5 eτ5
          show WP l mX12_equal (rm d 0 0) noX _ 0 0 25 [(2, t), (0, x1), (0, x2), (3, 0)] [(0, (-2))] N Λ τ5
          exact r_iret d_X12_equal_25 rfl rfl (Nat.le_refl 0) (Nat.le_refl 0) ⟨_, rfl, rfl, rfl, h⟩
        · have h := h.2 hc
          show WP l mX12_equal (rm d 0 0) noX _ 0 0 16 [(2, t), (0, x1), (0, x2), (3, 0)] [(0, 1)] N Λ τ1
          refine r_if_ne (tgt := 26) d_X12_equal_16 rfl (fun _ => ?_) (fun hc => absurd hc (by decide))
          refine r_aload_n (x := t) d_X12_equal_26 rfl o_t.1 ?_
          refine x_callVV (Y2 := mX12_begins) (c := t) (As := []) (S := []) d_X12_equal_27 ok_mX12_begins ml_X12_202 rfl (Nat.le_of_ble_eq_true rfl) (Nat.le_of_ble_eq_true rfl) rfl hd_1 kX12 o_t (c_X12_begins (v_X12_begins_0 o_t f_t_pool he_1 ?_))
          intro τ6 eτ6
          have h := h τ6 eτ6
          refine ⟨h.1, ?_⟩
          have h := h.2
          intro τ7 eτ7
          have h := h τ7 eτ7
          show WP l mX12_equal (rm d 0 0) noX _ 0 0 30 [(2, t), (0, x1), (0, x2), (3, 0)] [] N Λ τ7
          refine r_aload_n (x := t) d_X12_equal_30 rfl o_t.1 ?_
          refine r_iload_n (x := x1) d_X12_equal_31 rfl ?_
          refine r_iconst (x := 3) d_X12_equal_32 ⟨by decide, by decide⟩ ?_
          refine x_callVI (Y2 := mX12_straightInto) (c := t) (As := [(0, x1), (0, 3)]) (S := []) d_X12_equal_33 ok_mX12_straightInto ml_X12_349 rfl (Nat.le_of_ble_eq_true rfl) (Nat.le_of_ble_eq_true rfl) rfl hd_1 kX12 o_t (c_X12_straightInto (v_X12_straightInto_0 o_t f_t_state f_t_pool he_2 ?_))
          refine CV.mono h (fun σ8 h => ?_)
          refine CI.mono h (fun v9 σ10 h => ?_)
          intro τ11 eτ11
          have h := h τ11 eτ11
          intro τ12 eτ12
          have h := h τ12 eτ12
          refine ⟨fun hc => ?_, fun hc => ?_⟩
          · have h := h.1 hc
            refine ⟨fun hc => ?_, fun hc => ?_⟩
            · have h := h.1 hc
              show WP l mX12_equal (rm d 0 0) noX _ 0 0 36 [(2, t), (0, x1), (0, x2), (3, 0)] [(0, (-4))] N Λ τ12
              refine r_istore_n (L2 := [(2, t), (0, x1), (0, x2), (0, (-4))]) d_X12_equal_36 (by decide) rfl rfl ?_
              refine r_iload_n (x := (-4)) d_X12_equal_37 rfl ?_
              refine r_if_eq (tgt := 43) d_X12_equal_38 rfl (fun hc => absurd hc (by decide)) (fun _ => ?_)
              refine r_iload_n (x := (-4)) d_X12_equal_41 rfl ?_
              exact r_iret d_X12_equal_42 rfl rfl (Nat.le_refl 0) (Nat.le_refl 0) ⟨_, rfl, rfl, rfl, h⟩
            · have h := h.2 hc
              show WP l mX12_equal (rm d 0 0) noX _ 0 0 36 [(2, t), (0, x1), (0, x2), (3, 0)] [(0, (-7))] N Λ τ12
              refine r_istore_n (L2 := [(2, t), (0, x1), (0, x2), (0, (-7))]) d_X12_equal_36 (by decide) rfl rfl ?_
              refine r_iload_n (x := (-7)) d_X12_equal_37 rfl ?_
              refine r_if_eq (tgt := 43) d_X12_equal_38 rfl (fun hc => absurd hc (by decide)) (fun _ => ?_)
              refine r_iload_n (x := (-7)) d_X12_equal_41 rfl ?_
              exact r_iret d_X12_equal_42 rfl rfl (Nat.le_refl 0) (Nat.le_refl 0) ⟨_, rfl, rfl, rfl, h⟩
          · have h := h.2 hc
            show WP l mX12_equal (rm d 0 0) noX _ 0 0 36 [(2, t), (0, x1), (0, x2), (3, 0)] [(0, 0)] N Λ τ12
            refine r_istore_n (L2 := [(2, t), (0, x1), (0, x2), (0, 0)]) d_X12_equal_36 (by decide) rfl rfl ?_
            refine r_iload_n (x := 0) d_X12_equal_37 rfl ?_
            refine r_if_eq (tgt := 43) d_X12_equal_38 rfl (fun _ => ?_) (fun hc => absurd hc (by decide))
            refine r_aload_n (x := t) d_X12_equal_43 rfl o_t.1 ?_
            refine r_iload_n (x := x2) d_X12_equal_44 rfl ?_
            refine r_iconst (x := 4) d_X12_equal_45 ⟨by decide, by decide⟩ ?_
            refine x_callVI (Y2 := mX12_straightInto) (c := t) (As := [(0, x2), (0, 4)]) (S := []) d_X12_equal_46 ok_mX12_straightInto ml_X12_349 rfl (Nat.le_of_ble_eq_true rfl) (Nat.le_of_ble_eq_true rfl) rfl hd_1 kX12 o_t (c_X12_straightInto (v_X12_straightInto_0 o_t f_t_state f_t_pool he_2 ?_))
            refine CV.mono h (fun σ13 h => ?_)
            refine CI.mono h (fun v14 σ15 h => ?_)
            intro τ16 eτ16
            have h := h τ16 eτ16
            intro τ17 eτ17
            have h := h τ17 eτ17
            refine ⟨fun hc => ?_, fun hc => ?_⟩
            · have h := h.1 hc
              refine ⟨fun hc => ?_, fun hc => ?_⟩
              · have h := h.1 hc
                show WP l mX12_equal (rm d 0 0) noX _ 0 0 49 [(2, t), (0, x1), (0, x2), (0, 0)] [(0, (-4))] N Λ τ17
                refine r_istore_n (L2 := [(2, t), (0, x1), (0, x2), (0, (-4))]) d_X12_equal_49 (by decide) rfl rfl ?_
                refine r_iload_n (x := (-4)) d_X12_equal_50 rfl ?_
                refine r_if_eq (tgt := 56) d_X12_equal_51 rfl (fun hc => absurd hc (by decide)) (fun _ => ?_)
                refine r_iload_n (x := (-4)) d_X12_equal_54 rfl ?_
                exact r_iret d_X12_equal_55 rfl rfl (Nat.le_refl 0) (Nat.le_refl 0) ⟨_, rfl, rfl, rfl, h⟩
              · have h := h.2 hc
                show WP l mX12_equal (rm d 0 0) noX _ 0 0 49 [(2, t), (0, x1), (0, x2), (0, 0)] [(0, (-7))] N Λ τ17
                refine r_istore_n (L2 := [(2, t), (0, x1), (0, x2), (0, (-7))]) d_X12_equal_49 (by decide) rfl rfl ?_
                refine r_iload_n (x := (-7)) d_X12_equal_50 rfl ?_
                refine r_if_eq (tgt := 56) d_X12_equal_51 rfl (fun hc => absurd hc (by decide)) (fun _ => ?_)
                refine r_iload_n (x := (-7)) d_X12_equal_54 rfl ?_
                exact r_iret d_X12_equal_55 rfl rfl (Nat.le_refl 0) (Nat.le_refl 0) ⟨_, rfl, rfl, rfl, h⟩
            · have h := h.2 hc
              show WP l mX12_equal (rm d 0 0) noX _ 0 0 49 [(2, t), (0, x1), (0, x2), (0, 0)] [(0, 0)] N Λ τ17
              refine r_istore_n (L2 := [(2, t), (0, x1), (0, x2), (0, 0)]) d_X12_equal_49 (by decide) rfl rfl ?_
              refine r_iload_n (x := 0) d_X12_equal_50 rfl ?_
              refine r_if_eq (tgt := 56) d_X12_equal_51 rfl (fun _ => ?_) (fun hc => absurd hc (by decide))
              refine r_aload_n (x := t) d_X12_equal_56 rfl o_t.1 ?_
              refine r_iconst (x := 3) d_X12_equal_57 ⟨by decide, by decide⟩ ?_
              refine r_iconst (x := 4) d_X12_equal_58 ⟨by decide, by decide⟩ ?_
              refine x_callVI (Y2 := mX12_areAlike) (c := t) (As := [(0, 3), (0, 4)]) (S := []) d_X12_equal_59 ok_mX12_areAlike ml_X12_352 rfl (Nat.le_of_ble_eq_true rfl) (Nat.le_of_ble_eq_true rfl) rfl hd_1 kX12 o_t (CI.mono h (fun v19 σ18 h => ?_))
              refine r_if_eq (tgt := 69) d_X12_equal_62 rfl (fun hc => ?_) (fun hc => ?_)
              · have h := h.1 hc
                refine r_iconst (x := 0) d_X12_equal_69 ⟨by decide, by decide⟩ ?_
                exact r_iret d_X12_equal_70 rfl rfl (Nat.le_refl 0) (Nat.le_refl 0) ⟨_, rfl, rfl, rfl, h⟩
              · have h := h.2 hc
                refine r_iconst (x := 1) d_X12_equal_65 ⟨by decide, by decide⟩ ?_
                refine r_goto (tgt := 70) d_X12_equal_66 rfl ?_
                exact r_iret d_X12_equal_70 rfl rfl (Nat.le_refl 0) (Nat.le_refl 0) ⟨_, rfl, rfl, rfl, h⟩
theorem v_X12_counts_0 {l : Launch} {d N : Nat} {Λ : Lay} {P : Mem → Prop} {σ : Mem} {x1 x2 t : Int}
    (h : WV l mX12_counts d P 2 [(2, t), (0, x1), (0, x2), (0, 0)] [] N Λ σ) :
    WV l mX12_counts d P 0 [(2, t), (0, x1), (0, x2), (3, 0)] [] N Λ σ := by
  refine r_iconst (x := 0) d_X12_counts_0 ⟨by decide, by decide⟩ ?_
  refine r_istore_n (L2 := [(2, t), (0, x1), (0, x2), (0, 0)]) d_X12_counts_1 (by decide) rfl rfl ?_
  exact h
theorem v_X12_counts_2 {l : Launch} {d N : Nat} {Λ : Lay} {P : Mem → Prop} {σ : Mem} {x1 x2 x3 t t_counts : Int} (o_t : Ob N Λ t 21 36) (f_t_counts : (Λ t).2.2 25 = t_counts) (h0d : 1 ≤ d)
    (h : ((10 ≤ x3 → P σ) ∧ (¬ (10 ≤ x3) → (Ix N Λ t_counts 0 x3 ∧ (CI l mX12_often (d - 1) [(2, t), (0, x1), (0, x3)] N Λ σ (fun v2 σ1 => (Ix N Λ t_counts 0 x3 ∧ (∀ τ3, τ3 = st σ1 t_counts x3 (addI (σ t_counts x3) (mulI x2 v2)) → (∀ y4, y4 = addI x3 1 → WV l mX12_counts d P 2 [(2, t), (0, x1), (0, x2), (0, y4)] [] N Λ τ3))))))))) :
    WV l mX12_counts d P 2 [(2, t), (0, x1), (0, x2), (0, x3)] [] N Λ σ := by
  have hd_1 : 1 ≤ d := Nat.le_trans (by decide) h0d
  refine r_iload_n (x := x3) d_X12_counts_2 rfl ?_
  refine r_bipush (x := 10) d_X12_counts_3 ⟨by decide, by decide⟩ (by decide) ?_
  refine r_ic_ge (tgt := 31) d_X12_counts_5 rfl (fun hc => ?_) (fun hc => ?_)
  · have h := h.1 hc
    exact r_vret d_X12_counts_31 rfl (Nat.le_refl 0) (Nat.le_refl 0) ⟨rfl, rfl, rfl, h⟩
  · have h := h.2 hc
    refine r_aload_n (x := t) d_X12_counts_8 rfl o_t.1 ?_
    refine r_getf (j := 25) (t := 2) (x := t_counts) d_X12_counts_9 kX12 (by decide) fl_X12_64 o_t.1 o_t.2.1 o_t.2.2.1 o_t.2.2.2 rfl f_t_counts ?_
    refine r_iload_n (x := x3) d_X12_counts_12 rfl ?_
    refine r_dup2 d_X12_counts_13 rfl rfl ?_
    refine x_iald d_X12_counts_14 h.1 ?_
    have h := h.2
    refine r_iload_n (x := x2) d_X12_counts_15 rfl ?_
    refine r_aload_n (x := t) d_X12_counts_16 rfl o_t.1 ?_
    refine r_iload_n (x := x1) d_X12_counts_17 rfl ?_
    refine r_iload_n (x := x3) d_X12_counts_18 rfl ?_
    refine x_callVI (Y2 := mX12_often) (c := t) (As := [(0, x1), (0, x3)]) (S := [(0, x2), (0, (σ t_counts x3)), (0, x3), (2, t_counts)]) d_X12_counts_19 ok_mX12_often ml_X12_343 rfl (Nat.le_of_ble_eq_true rfl) (Nat.le_of_ble_eq_true rfl) rfl hd_1 kX12 o_t (CI.mono h (fun v2 σ1 h => ?_))
    refine r_imul d_X12_counts_22 ?_
    refine r_iadd d_X12_counts_23 ?_
    refine x_iast d_X12_counts_24 h.1 ?_
    have h := h.2
    refine r_nmM (fun τ3 eτ3 => ?_)
    have h := h τ3 eτ3
    refine x_iinc (x := x3) (L := [(2, t), (0, x1), (0, x2), (0, x3)]) d_X12_counts_25 rfl (by decide) rfl (fun y4 ey4 => ?_)
    have h := h y4 ey4
    show WP _ _ _ _ _ _ _ _ [(2, t), (0, x1), (0, x2), (0, y4)] _ _ _ _
    refine r_goto (tgt := 2) d_X12_counts_28 rfl ?_
    exact h
theorem v_X12_goesOn_0 {l : Launch} {d N : Nat} {Λ : Lay} {P : Int → Mem → Prop} {σ : Mem} {x1 t t_formRank : Int} (o_t : Ob N Λ t 21 36) (f_t_formRank : (Λ t).2.2 26 = t_formRank)
    (h : ((¬ x1 = (σ t 28) → ((¬ x1 = 0 → (Ix N Λ t_formRank 0 (subI x1 1) ∧ (∀ y1, y1 = (σ t_formRank (subI x1 1)) → WI l mX12_goesOn d P 58 [(2, t), (0, x1), (0, y1), (3, 0), (3, 0)] [] N Λ σ))) ∧ (x1 = 0 → WI l mX12_goesOn d P 58 [(2, t), (0, x1), (0, 1), (3, 0), (3, 0)] [] N Λ σ))) ∧ (x1 = (σ t 28) → (∀ τ2, τ2 = st σ t 29 (addI (σ t 29) 1) → (∀ τ3, τ3 = st τ2 t 27 (subI (τ2 t 27) 1) → ((0 ≤ (τ3 t 27) → P 0 τ3) ∧ (¬ (0 ≤ (τ3 t 27)) → P 1 τ3))))))) :
    WI l mX12_goesOn d P 0 [(2, t), (0, x1), (3, 0), (3, 0), (3, 0)] [] N Λ σ := by
  refine r_iload_n (x := x1) d_X12_goesOn_0 rfl ?_
  refine r_aload_n (x := t) d_X12_goesOn_1 rfl o_t.1 ?_
  refine r_getf (j := 28) (t := 0) (x := (σ t 28)) d_X12_goesOn_2 kX12 (by decide) fl_X12_355 o_t.1 o_t.2.1 o_t.2.2.1 o_t.2.2.2 rfl rfl ?_
  refine r_ic_ne (tgt := 41) d_X12_goesOn_5 rfl (fun hc => ?_) (fun hc => ?_)
  · have h := h.1 hc
    refine r_iload_n (x := x1) d_X12_goesOn_41 rfl ?_
    refine r_if_ne (tgt := 49) d_X12_goesOn_42 rfl (fun hc => ?_) (fun hc => ?_)
    · have h := h.1 hc
      refine r_aload_n (x := t) d_X12_goesOn_49 rfl o_t.1 ?_
      refine r_getf (j := 26) (t := 2) (x := t_formRank) d_X12_goesOn_50 kX12 (by decide) fl_X12_67 o_t.1 o_t.2.1 o_t.2.2.1 o_t.2.2.2 rfl f_t_formRank ?_
      refine r_iload_n (x := x1) d_X12_goesOn_53 rfl ?_
      refine r_iconst (x := 1) d_X12_goesOn_54 ⟨by decide, by decide⟩ ?_
      refine r_isub d_X12_goesOn_55 ?_
      refine x_iald d_X12_goesOn_56 h.1 ?_
      have h := h.2
      refine r_nm (fun y1 ey1 => ?_)
      have h := h y1 ey1
      refine r_istore_n (L2 := [(2, t), (0, x1), (0, y1), (3, 0), (3, 0)]) d_X12_goesOn_57 (by decide) rfl rfl ?_
      exact h
    · have h := h.2 hc
      refine r_iconst (x := 1) d_X12_goesOn_45 ⟨by decide, by decide⟩ ?_
      refine r_goto (tgt := 57) d_X12_goesOn_46 rfl ?_
      refine r_istore_n (L2 := [(2, t), (0, x1), (0, 1), (3, 0), (3, 0)]) d_X12_goesOn_57 (by decide) rfl rfl ?_
      exact h
  · have h := h.2 hc
    refine r_aload_n (x := t) d_X12_goesOn_8 rfl o_t.1 ?_
    refine r_dup d_X12_goesOn_9 rfl ?_
    refine r_getf (j := 29) (t := 0) (x := (σ t 29)) d_X12_goesOn_10 kX12 (by decide) fl_X12_358 o_t.1 o_t.2.1 o_t.2.2.1 o_t.2.2.2 rfl rfl ?_
    refine r_iconst (x := 1) d_X12_goesOn_13 ⟨by decide, by decide⟩ ?_
    refine r_iadd d_X12_goesOn_14 ?_
    refine r_putI (j := 29) d_X12_goesOn_15 kX12 (by decide) fl_X12_358 rfl o_t.1 o_t.2.1 o_t.2.2.1 o_t.2.2.2 rfl ?_
    refine r_nmM (fun τ2 eτ2 => ?_)
    have h := h τ2 eτ2
    refine r_aload_n (x := t) d_X12_goesOn_18 rfl o_t.1 ?_
    refine r_dup d_X12_goesOn_19 rfl ?_
    refine r_getf (j := 27) (t := 0) (x := (τ2 t 27)) d_X12_goesOn_20 kX12 (by decide) fl_X12_361 o_t.1 o_t.2.1 o_t.2.2.1 o_t.2.2.2 rfl rfl ?_
    refine r_iconst (x := 1) d_X12_goesOn_23 ⟨by decide, by decide⟩ ?_
    refine r_isub d_X12_goesOn_24 ?_
    refine r_putI (j := 27) d_X12_goesOn_25 kX12 (by decide) fl_X12_361 rfl o_t.1 o_t.2.1 o_t.2.2.1 o_t.2.2.2 rfl ?_
    refine r_nmM (fun τ3 eτ3 => ?_)
    have h := h τ3 eτ3
    refine r_aload_n (x := t) d_X12_goesOn_28 rfl o_t.1 ?_
    refine r_getf (j := 27) (t := 0) (x := (τ3 t 27)) d_X12_goesOn_29 kX12 (by decide) fl_X12_361 o_t.1 o_t.2.1 o_t.2.2.1 o_t.2.2.2 rfl rfl ?_
    refine r_if_ge (tgt := 39) d_X12_goesOn_32 rfl (fun hc => ?_) (fun hc => ?_)
    · have h := h.1 hc
      refine r_iconst (x := 0) d_X12_goesOn_39 ⟨by decide, by decide⟩ ?_
      exact r_iret d_X12_goesOn_40 rfl (by decide) (Nat.le_refl 0) (Nat.le_refl 0) ⟨_, rfl, rfl, rfl, h⟩
    · have h := h.2 hc
      refine r_iconst (x := 1) d_X12_goesOn_35 ⟨by decide, by decide⟩ ?_
      refine r_goto (tgt := 40) d_X12_goesOn_36 rfl ?_
      exact r_iret d_X12_goesOn_40 rfl (by decide) (Nat.le_refl 0) (Nat.le_refl 0) ⟨_, rfl, rfl, rfl, h⟩
theorem v_X12_goesOn_58 {l : Launch} {d N : Nat} {Λ : Lay} {P : Int → Mem → Prop} {σ : Mem} {x1 x2 t t_counts t_formRank t_letterOf : Int} (o_t : Ob N Λ t 21 36) (f_t_counts : (Λ t).2.2 25 = t_counts) (f_t_letterOf : (Λ t).2.2 2 = t_letterOf) (f_t_formRank : (Λ t).2.2 26 = t_formRank) (h0d : 2 ≤ d)
    (h : ((120 < x2 → P 0 σ) ∧ (¬ (120 < x2) → ((x1 ≤ 0 → (Ix N Λ t_letterOf 0 (mulI 3 x2) ∧ (Ix N Λ t_counts 0 (σ t_letterOf (mulI 3 x2)) ∧ (((σ t_counts (σ t_letterOf (mulI 3 x2))) ≤ 0 → (∀ y1, y1 = addI x2 1 → WI l mX12_goesOn d P 58 [(2, t), (0, x1), (0, y1), (3, 0), (3, 0)] [] N Λ σ)) ∧ (¬ ((σ t_counts (σ t_letterOf (mulI 3 x2))) ≤ 0) → (Ix N Λ t_letterOf 0 (addI (mulI 3 x2) 1) ∧ (Ix N Λ t_counts 0 (σ t_letterOf (addI (mulI 3 x2) 1)) ∧ (((σ t_counts (σ t_letterOf (addI (mulI 3 x2) 1))) ≤ 0 → (∀ y2, y2 = addI x2 1 → WI l mX12_goesOn d P 58 [(2, t), (0, x1), (0, y2), (3, 0), (3, 0)] [] N Λ σ)) ∧ (¬ ((σ t_counts (σ t_letterOf (addI (mulI 3 x2) 1))) ≤ 0) → (Ix N Λ t_letterOf 0 (addI (mulI 3 x2) 2) ∧ (Ix N Λ t_counts 0 (σ t_letterOf (addI (mulI 3 x2) 2)) ∧ (((σ t_counts (σ t_letterOf (addI (mulI 3 x2) 2))) ≤ 0 → (∀ y3, y3 = addI x2 1 → WI l mX12_goesOn d P 58 [(2, t), (0, x1), (0, y3), (3, 0), (3, 0)] [] N Λ σ)) ∧ (¬ ((σ t_counts (σ t_letterOf (addI (mulI 3 x2) 2))) ≤ 0) → (Ix N Λ t_formRank 0 x1 ∧ (∀ τ4, τ4 = st σ t_formRank x1 x2 → (CV l mX12_counts (d - 1) [(2, t), (0, (mulI (mulI (mulI x2 121) 121) 121)), (0, (-1))] N Λ τ4 (fun σ5 => (CI l mX12_goesOn (d - 1) [(2, t), (0, (addI x1 1))] N Λ σ5 (fun v7 σ6 => (CV l mX12_counts (d - 1) [(2, t), (0, (mulI (mulI (mulI x2 121) 121) 121)), (0, 1)] N Λ σ6 (fun σ8 => ((v7 = 0 → (∀ y9, y9 = addI x2 1 → WI l mX12_goesOn d P 58 [(2, t), (0, x1), (0, y9), (3, 0), (3, 0)] [] N Λ σ8)) ∧ (¬ (v7 = 0) → P 1 σ8))))))))))))))))))))))) ∧ (¬ (x1 ≤ 0) → (Ix N Λ t_formRank 0 (subI x1 1) ∧ (CI l mX12_breakOf (d - 1 - 1) [(2, t), (0, (σ t_formRank (subI x1 1))), (0, x2)] N Λ σ (fun v10 σ11 => ((v10 = (-1) → (Ix N Λ t_letterOf 0 (mulI 3 x2) ∧ (Ix N Λ t_counts 0 (σ11 t_letterOf (mulI 3 x2)) ∧ (((σ11 t_counts (σ11 t_letterOf (mulI 3 x2))) ≤ 0 → (∀ y12, y12 = addI x2 1 → WI l mX12_goesOn d P 58 [(2, t), (0, x1), (0, y12), (3, 0), (3, 0)] [] N Λ σ11)) ∧ (¬ ((σ11 t_counts (σ11 t_letterOf (mulI 3 x2))) ≤ 0) → (Ix N Λ t_letterOf 0 (addI (mulI 3 x2) 1) ∧ (Ix N Λ t_counts 0 (σ11 t_letterOf (addI (mulI 3 x2) 1)) ∧ (((σ11 t_counts (σ11 t_letterOf (addI (mulI 3 x2) 1))) ≤ 0 → (∀ y13, y13 = addI x2 1 → WI l mX12_goesOn d P 58 [(2, t), (0, x1), (0, y13), (3, 0), (3, 0)] [] N Λ σ11)) ∧ (¬ ((σ11 t_counts (σ11 t_letterOf (addI (mulI 3 x2) 1))) ≤ 0) → (Ix N Λ t_letterOf 0 (addI (mulI 3 x2) 2) ∧ (Ix N Λ t_counts 0 (σ11 t_letterOf (addI (mulI 3 x2) 2)) ∧ (((σ11 t_counts (σ11 t_letterOf (addI (mulI 3 x2) 2))) ≤ 0 → (∀ y14, y14 = addI x2 1 → WI l mX12_goesOn d P 58 [(2, t), (0, x1), (0, y14), (3, 0), (3, 0)] [] N Λ σ11)) ∧ (¬ ((σ11 t_counts (σ11 t_letterOf (addI (mulI 3 x2) 2))) ≤ 0) → (Ix N Λ t_formRank 0 x1 ∧ (∀ τ15, τ15 = st σ11 t_formRank x1 x2 → (CV l mX12_counts (d - 1) [(2, t), (0, (mulI (mulI (mulI x2 121) 121) 121)), (0, (-1))] N Λ τ15 (fun σ16 => (CI l mX12_goesOn (d - 1) [(2, t), (0, (addI x1 1))] N Λ σ16 (fun v18 σ17 => (CV l mX12_counts (d - 1) [(2, t), (0, (mulI (mulI (mulI x2 121) 121) 121)), (0, 1)] N Λ σ17 (fun σ19 => ((v18 = 0 → (∀ y20, y20 = addI x2 1 → WI l mX12_goesOn d P 58 [(2, t), (0, x1), (0, y20), (3, 0), (3, 0)] [] N Λ σ19)) ∧ (¬ (v18 = 0) → P 1 σ19))))))))))))))))))))))) ∧ (¬ (v10 = (-1)) → (∀ y21, y21 = addI x2 1 → WI l mX12_goesOn d P 58 [(2, t), (0, x1), (0, y21), (3, 0), (3, 0)] [] N Λ σ11))))))))))) :
    WI l mX12_goesOn d P 58 [(2, t), (0, x1), (0, x2), (3, 0), (3, 0)] [] N Λ σ := by
  have hd_1 : 1 ≤ d := Nat.le_trans (by decide) h0d
  have he_1 : 1 ≤ d - 1 := Nat.le_sub_of_add_le (Nat.le_trans (by decide) h0d)
  refine r_iload_n (x := x2) d_X12_goesOn_58 rfl ?_
  refine r_bipush (x := 120) d_X12_goesOn_59 ⟨by decide, by decide⟩ (by decide) ?_
  refine r_ic_gt (tgt := 211) d_X12_goesOn_61 rfl (fun hc => ?_) (fun hc => ?_)
  · have h := h.1 hc
    refine r_iconst (x := 0) d_X12_goesOn_211 ⟨by decide, by decide⟩ ?_
    exact r_iret d_X12_goesOn_212 rfl (by decide) (Nat.le_refl 0) (Nat.le_refl 0) ⟨_, rfl, rfl, rfl, h⟩
  · have h := h.2 hc
    refine r_iload_n (x := x1) d_X12_goesOn_64 rfl ?_
    refine r_if_le (tgt := 87) d_X12_goesOn_65 rfl (fun hc => ?_) (fun hc => ?_)
    · have h := h.1 hc
      refine r_aload_n (x := t) d_X12_goesOn_87 rfl o_t.1 ?_
      refine r_getf (j := 25) (t := 2) (x := t_counts) d_X12_goesOn_88 kX12 (by decide) fl_X12_64 o_t.1 o_t.2.1 o_t.2.2.1 o_t.2.2.2 rfl f_t_counts ?_
      refine r_aload_n (x := t) d_X12_goesOn_91 rfl o_t.1 ?_
      refine r_getf (j := 2) (t := 2) (x := t_letterOf) d_X12_goesOn_92 kX12 (by decide) fl_X12_17 o_t.1 o_t.2.1 o_t.2.2.1 o_t.2.2.2 rfl f_t_letterOf ?_
      refine r_iconst (x := 3) d_X12_goesOn_95 ⟨by decide, by decide⟩ ?_
      refine r_iload_n (x := x2) d_X12_goesOn_96 rfl ?_
      refine r_imul d_X12_goesOn_97 ?_
      refine x_iald d_X12_goesOn_98 h.1 ?_
      have h := h.2
      refine x_iald d_X12_goesOn_99 h.1 ?_
      have h := h.2
      refine r_if_le (tgt := 143) d_X12_goesOn_100 rfl (fun hc => ?_) (fun hc => ?_)
      · have h := h.1 hc
        refine r_iconst (x := 0) d_X12_goesOn_143 ⟨by decide, by decide⟩ ?_
        refine r_istore_n (L2 := [(2, t), (0, x1), (0, x2), (0, 0), (3, 0)]) d_X12_goesOn_144 (by decide) rfl rfl ?_
        refine r_iload_n (x := 0) d_X12_goesOn_145 rfl ?_
        refine r_if_ne (tgt := 152) d_X12_goesOn_146 rfl (fun hc => absurd hc (by decide)) (fun _ => ?_)
        refine r_goto (tgt := 205) d_X12_goesOn_149 rfl ?_
        refine x_iinc (x := x2) (L := [(2, t), (0, x1), (0, x2), (0, 0), (3, 0)]) d_X12_goesOn_205 rfl (by decide) rfl (fun y1 ey1 => ?_)
        have h := h y1 ey1
        show WP _ _ _ _ _ _ _ _ [(2, t), (0, x1), (0, y1), (0, 0), (3, 0)] _ _ _ _
        refine r_goto (tgt := 58) d_X12_goesOn_208 rfl ?_
        exact x_mask h ⟨Or.inr rfl, Or.inr rfl, Or.inr rfl, Or.inl rfl, Or.inl rfl, trivial⟩
      · have h := h.2 hc
        refine r_aload_n (x := t) d_X12_goesOn_103 rfl o_t.1 ?_
        refine r_getf (j := 25) (t := 2) (x := t_counts) d_X12_goesOn_104 kX12 (by decide) fl_X12_64 o_t.1 o_t.2.1 o_t.2.2.1 o_t.2.2.2 rfl f_t_counts ?_
        refine r_aload_n (x := t) d_X12_goesOn_107 rfl o_t.1 ?_
        refine r_getf (j := 2) (t := 2) (x := t_letterOf) d_X12_goesOn_108 kX12 (by decide) fl_X12_17 o_t.1 o_t.2.1 o_t.2.2.1 o_t.2.2.2 rfl f_t_letterOf ?_
        refine r_iconst (x := 3) d_X12_goesOn_111 ⟨by decide, by decide⟩ ?_
        refine r_iload_n (x := x2) d_X12_goesOn_112 rfl ?_
        refine r_imul d_X12_goesOn_113 ?_
        refine r_iconst (x := 1) d_X12_goesOn_114 ⟨by decide, by decide⟩ ?_
        refine r_iadd d_X12_goesOn_115 ?_
        refine x_iald d_X12_goesOn_116 h.1 ?_
        have h := h.2
        refine x_iald d_X12_goesOn_117 h.1 ?_
        have h := h.2
        refine r_if_le (tgt := 143) d_X12_goesOn_118 rfl (fun hc => ?_) (fun hc => ?_)
        · have h := h.1 hc
          refine r_iconst (x := 0) d_X12_goesOn_143 ⟨by decide, by decide⟩ ?_
          refine r_istore_n (L2 := [(2, t), (0, x1), (0, x2), (0, 0), (3, 0)]) d_X12_goesOn_144 (by decide) rfl rfl ?_
          refine r_iload_n (x := 0) d_X12_goesOn_145 rfl ?_
          refine r_if_ne (tgt := 152) d_X12_goesOn_146 rfl (fun hc => absurd hc (by decide)) (fun _ => ?_)
          refine r_goto (tgt := 205) d_X12_goesOn_149 rfl ?_
          refine x_iinc (x := x2) (L := [(2, t), (0, x1), (0, x2), (0, 0), (3, 0)]) d_X12_goesOn_205 rfl (by decide) rfl (fun y2 ey2 => ?_)
          have h := h y2 ey2
          show WP _ _ _ _ _ _ _ _ [(2, t), (0, x1), (0, y2), (0, 0), (3, 0)] _ _ _ _
          refine r_goto (tgt := 58) d_X12_goesOn_208 rfl ?_
          exact x_mask h ⟨Or.inr rfl, Or.inr rfl, Or.inr rfl, Or.inl rfl, Or.inl rfl, trivial⟩
        · have h := h.2 hc
          refine r_aload_n (x := t) d_X12_goesOn_121 rfl o_t.1 ?_
          refine r_getf (j := 25) (t := 2) (x := t_counts) d_X12_goesOn_122 kX12 (by decide) fl_X12_64 o_t.1 o_t.2.1 o_t.2.2.1 o_t.2.2.2 rfl f_t_counts ?_
          refine r_aload_n (x := t) d_X12_goesOn_125 rfl o_t.1 ?_
          refine r_getf (j := 2) (t := 2) (x := t_letterOf) d_X12_goesOn_126 kX12 (by decide) fl_X12_17 o_t.1 o_t.2.1 o_t.2.2.1 o_t.2.2.2 rfl f_t_letterOf ?_
          refine r_iconst (x := 3) d_X12_goesOn_129 ⟨by decide, by decide⟩ ?_
          refine r_iload_n (x := x2) d_X12_goesOn_130 rfl ?_
          refine r_imul d_X12_goesOn_131 ?_
          refine r_iconst (x := 2) d_X12_goesOn_132 ⟨by decide, by decide⟩ ?_
          refine r_iadd d_X12_goesOn_133 ?_
          refine x_iald d_X12_goesOn_134 h.1 ?_
          have h := h.2
          refine x_iald d_X12_goesOn_135 h.1 ?_
          have h := h.2
          refine r_if_le (tgt := 143) d_X12_goesOn_136 rfl (fun hc => ?_) (fun hc => ?_)
          · have h := h.1 hc
            refine r_iconst (x := 0) d_X12_goesOn_143 ⟨by decide, by decide⟩ ?_
            refine r_istore_n (L2 := [(2, t), (0, x1), (0, x2), (0, 0), (3, 0)]) d_X12_goesOn_144 (by decide) rfl rfl ?_
            refine r_iload_n (x := 0) d_X12_goesOn_145 rfl ?_
            refine r_if_ne (tgt := 152) d_X12_goesOn_146 rfl (fun hc => absurd hc (by decide)) (fun _ => ?_)
            refine r_goto (tgt := 205) d_X12_goesOn_149 rfl ?_
            refine x_iinc (x := x2) (L := [(2, t), (0, x1), (0, x2), (0, 0), (3, 0)]) d_X12_goesOn_205 rfl (by decide) rfl (fun y3 ey3 => ?_)
            have h := h y3 ey3
            show WP _ _ _ _ _ _ _ _ [(2, t), (0, x1), (0, y3), (0, 0), (3, 0)] _ _ _ _
            refine r_goto (tgt := 58) d_X12_goesOn_208 rfl ?_
            exact x_mask h ⟨Or.inr rfl, Or.inr rfl, Or.inr rfl, Or.inl rfl, Or.inl rfl, trivial⟩
          · have h := h.2 hc
            refine r_iconst (x := 1) d_X12_goesOn_139 ⟨by decide, by decide⟩ ?_
            refine r_goto (tgt := 144) d_X12_goesOn_140 rfl ?_
            refine r_istore_n (L2 := [(2, t), (0, x1), (0, x2), (0, 1), (3, 0)]) d_X12_goesOn_144 (by decide) rfl rfl ?_
            refine r_iload_n (x := 1) d_X12_goesOn_145 rfl ?_
            refine r_if_ne (tgt := 152) d_X12_goesOn_146 rfl (fun _ => ?_) (fun hc => absurd hc (by decide))
            refine r_aload_n (x := t) d_X12_goesOn_152 rfl o_t.1 ?_
            refine r_getf (j := 26) (t := 2) (x := t_formRank) d_X12_goesOn_153 kX12 (by decide) fl_X12_67 o_t.1 o_t.2.1 o_t.2.2.1 o_t.2.2.2 rfl f_t_formRank ?_
            refine r_iload_n (x := x1) d_X12_goesOn_156 rfl ?_
            refine r_iload_n (x := x2) d_X12_goesOn_157 rfl ?_
            refine x_iast d_X12_goesOn_158 h.1 ?_
            have h := h.2
            refine r_nmM (fun τ4 eτ4 => ?_)
            have h := h τ4 eτ4
            refine r_aload_n (x := t) d_X12_goesOn_159 rfl o_t.1 ?_
            refine r_iload_n (x := x2) d_X12_goesOn_160 rfl ?_
            refine r_bipush (x := 121) d_X12_goesOn_161 ⟨by decide, by decide⟩ (by decide) ?_
            refine r_imul d_X12_goesOn_163 ?_
            refine r_bipush (x := 121) d_X12_goesOn_164 ⟨by decide, by decide⟩ (by decide) ?_
            refine r_imul d_X12_goesOn_166 ?_
            refine r_bipush (x := 121) d_X12_goesOn_167 ⟨by decide, by decide⟩ (by decide) ?_
            refine r_imul d_X12_goesOn_169 ?_
            refine r_iconst (x := (-1)) d_X12_goesOn_170 ⟨by decide, by decide⟩ ?_
            refine x_callVV (Y2 := mX12_counts) (c := t) (As := [(0, (mulI (mulI (mulI x2 121) 121) 121)), (0, (-1))]) (S := []) d_X12_goesOn_171 ok_mX12_counts ml_X12_364 rfl (Nat.le_of_ble_eq_true rfl) (Nat.le_of_ble_eq_true rfl) rfl hd_1 kX12 o_t (CV.mono h (fun σ5 h => ?_))
            refine r_aload_n (x := t) d_X12_goesOn_174 rfl o_t.1 ?_
            refine r_iload_n (x := x1) d_X12_goesOn_175 rfl ?_
            refine r_iconst (x := 1) d_X12_goesOn_176 ⟨by decide, by decide⟩ ?_
            refine r_iadd d_X12_goesOn_177 ?_
            refine x_callVI (Y2 := mX12_goesOn) (c := t) (As := [(0, (addI x1 1))]) (S := []) d_X12_goesOn_178 ok_mX12_goesOn ml_X12_366 rfl (Nat.le_of_ble_eq_true rfl) (Nat.le_of_ble_eq_true rfl) rfl hd_1 kX12 o_t (CI.mono h (fun v7 σ6 h => ?_))
            refine r_istore (L2 := [(2, t), (0, x1), (0, x2), (0, 1), (0, v7)]) d_X12_goesOn_181 (by decide) rfl rfl ?_
            refine r_aload_n (x := t) d_X12_goesOn_183 rfl o_t.1 ?_
            refine r_iload_n (x := x2) d_X12_goesOn_184 rfl ?_
            refine r_bipush (x := 121) d_X12_goesOn_185 ⟨by decide, by decide⟩ (by decide) ?_
            refine r_imul d_X12_goesOn_187 ?_
            refine r_bipush (x := 121) d_X12_goesOn_188 ⟨by decide, by decide⟩ (by decide) ?_
            refine r_imul d_X12_goesOn_190 ?_
            refine r_bipush (x := 121) d_X12_goesOn_191 ⟨by decide, by decide⟩ (by decide) ?_
            refine r_imul d_X12_goesOn_193 ?_
            refine r_iconst (x := 1) d_X12_goesOn_194 ⟨by decide, by decide⟩ ?_
            refine x_callVV (Y2 := mX12_counts) (c := t) (As := [(0, (mulI (mulI (mulI x2 121) 121) 121)), (0, 1)]) (S := []) d_X12_goesOn_195 ok_mX12_counts ml_X12_364 rfl (Nat.le_of_ble_eq_true rfl) (Nat.le_of_ble_eq_true rfl) rfl hd_1 kX12 o_t (CV.mono h (fun σ8 h => ?_))
            refine r_iload (x := v7) d_X12_goesOn_198 rfl ?_
            refine r_if_eq (tgt := 205) d_X12_goesOn_200 rfl (fun hc => ?_) (fun hc => ?_)
            · have h := h.1 hc
              refine x_iinc (x := x2) (L := [(2, t), (0, x1), (0, x2), (0, 1), (0, v7)]) d_X12_goesOn_205 rfl (by decide) rfl (fun y9 ey9 => ?_)
              have h := h y9 ey9
              show WP _ _ _ _ _ _ _ _ [(2, t), (0, x1), (0, y9), (0, 1), (0, v7)] _ _ _ _
              refine r_goto (tgt := 58) d_X12_goesOn_208 rfl ?_
              exact x_mask h ⟨Or.inr rfl, Or.inr rfl, Or.inr rfl, Or.inl rfl, Or.inl rfl, trivial⟩
            · have h := h.2 hc
              refine r_iconst (x := 1) d_X12_goesOn_203 ⟨by decide, by decide⟩ ?_
              exact r_iret d_X12_goesOn_204 rfl (by decide) (Nat.le_refl 0) (Nat.le_refl 0) ⟨_, rfl, rfl, rfl, h⟩
    · have h := h.2 hc
      refine r_aload_n (x := t) d_X12_goesOn_68 rfl o_t.1 ?_
      refine r_aload_n (x := t) d_X12_goesOn_69 rfl o_t.1 ?_
      refine r_getf (j := 26) (t := 2) (x := t_formRank) d_X12_goesOn_70 kX12 (by decide) fl_X12_67 o_t.1 o_t.2.1 o_t.2.2.1 o_t.2.2.2 rfl f_t_formRank ?_
      refine r_iload_n (x := x1) d_X12_goesOn_73 rfl ?_
      refine r_iconst (x := 1) d_X12_goesOn_74 ⟨by decide, by decide⟩ ?_
      refine r_isub d_X12_goesOn_75 ?_
      refine x_iald d_X12_goesOn_76 h.1 ?_
      have h := h.2
      refine r_iload_n (x := x2) d_X12_goesOn_77 rfl ?_
      refine x_callVI (Y2 := mX12_isBroken) (c := t) (As := [(0, (σ t_formRank (subI x1 1))), (0, x2)]) (S := []) d_X12_goesOn_78 ok_mX12_isBroken ml_X12_154 rfl (Nat.le_of_ble_eq_true rfl) (Nat.le_of_ble_eq_true rfl) rfl hd_1 kX12 o_t (c_X12_isBroken (v_X12_isBroken_0 o_t he_1 ?_))
      refine CI.mono h (fun v10 σ11 h => ?_)
      refine ⟨fun hc => ?_, fun hc => ?_⟩
      · have h := h.1 hc
        show WP l mX12_goesOn (rm d 0 0) noX _ 0 0 81 [(2, t), (0, x1), (0, x2), (3, 0), (3, 0)] [(0, 0)] N Λ σ11
        refine r_if_eq (tgt := 87) d_X12_goesOn_81 rfl (fun _ => ?_) (fun hc => absurd hc (by decide))
        refine r_aload_n (x := t) d_X12_goesOn_87 rfl o_t.1 ?_
        refine r_getf (j := 25) (t := 2) (x := t_counts) d_X12_goesOn_88 kX12 (by decide) fl_X12_64 o_t.1 o_t.2.1 o_t.2.2.1 o_t.2.2.2 rfl f_t_counts ?_
        refine r_aload_n (x := t) d_X12_goesOn_91 rfl o_t.1 ?_
        refine r_getf (j := 2) (t := 2) (x := t_letterOf) d_X12_goesOn_92 kX12 (by decide) fl_X12_17 o_t.1 o_t.2.1 o_t.2.2.1 o_t.2.2.2 rfl f_t_letterOf ?_
        refine r_iconst (x := 3) d_X12_goesOn_95 ⟨by decide, by decide⟩ ?_
        refine r_iload_n (x := x2) d_X12_goesOn_96 rfl ?_
        refine r_imul d_X12_goesOn_97 ?_
        refine x_iald d_X12_goesOn_98 h.1 ?_
        have h := h.2
        refine x_iald d_X12_goesOn_99 h.1 ?_
        have h := h.2
        refine r_if_le (tgt := 143) d_X12_goesOn_100 rfl (fun hc => ?_) (fun hc => ?_)
        · have h := h.1 hc
          refine r_iconst (x := 0) d_X12_goesOn_143 ⟨by decide, by decide⟩ ?_
          refine r_istore_n (L2 := [(2, t), (0, x1), (0, x2), (0, 0), (3, 0)]) d_X12_goesOn_144 (by decide) rfl rfl ?_
          refine r_iload_n (x := 0) d_X12_goesOn_145 rfl ?_
          refine r_if_ne (tgt := 152) d_X12_goesOn_146 rfl (fun hc => absurd hc (by decide)) (fun _ => ?_)
          refine r_goto (tgt := 205) d_X12_goesOn_149 rfl ?_
          refine x_iinc (x := x2) (L := [(2, t), (0, x1), (0, x2), (0, 0), (3, 0)]) d_X12_goesOn_205 rfl (by decide) rfl (fun y12 ey12 => ?_)
          have h := h y12 ey12
          show WP _ _ _ _ _ _ _ _ [(2, t), (0, x1), (0, y12), (0, 0), (3, 0)] _ _ _ _
          refine r_goto (tgt := 58) d_X12_goesOn_208 rfl ?_
          exact x_mask h ⟨Or.inr rfl, Or.inr rfl, Or.inr rfl, Or.inl rfl, Or.inl rfl, trivial⟩
        · have h := h.2 hc
          refine r_aload_n (x := t) d_X12_goesOn_103 rfl o_t.1 ?_
          refine r_getf (j := 25) (t := 2) (x := t_counts) d_X12_goesOn_104 kX12 (by decide) fl_X12_64 o_t.1 o_t.2.1 o_t.2.2.1 o_t.2.2.2 rfl f_t_counts ?_
          refine r_aload_n (x := t) d_X12_goesOn_107 rfl o_t.1 ?_
          refine r_getf (j := 2) (t := 2) (x := t_letterOf) d_X12_goesOn_108 kX12 (by decide) fl_X12_17 o_t.1 o_t.2.1 o_t.2.2.1 o_t.2.2.2 rfl f_t_letterOf ?_
          refine r_iconst (x := 3) d_X12_goesOn_111 ⟨by decide, by decide⟩ ?_
          refine r_iload_n (x := x2) d_X12_goesOn_112 rfl ?_
          refine r_imul d_X12_goesOn_113 ?_
          refine r_iconst (x := 1) d_X12_goesOn_114 ⟨by decide, by decide⟩ ?_
          refine r_iadd d_X12_goesOn_115 ?_
          refine x_iald d_X12_goesOn_116 h.1 ?_
          have h := h.2
          refine x_iald d_X12_goesOn_117 h.1 ?_
          have h := h.2
          refine r_if_le (tgt := 143) d_X12_goesOn_118 rfl (fun hc => ?_) (fun hc => ?_)
          · have h := h.1 hc
            refine r_iconst (x := 0) d_X12_goesOn_143 ⟨by decide, by decide⟩ ?_
            refine r_istore_n (L2 := [(2, t), (0, x1), (0, x2), (0, 0), (3, 0)]) d_X12_goesOn_144 (by decide) rfl rfl ?_
            refine r_iload_n (x := 0) d_X12_goesOn_145 rfl ?_
            refine r_if_ne (tgt := 152) d_X12_goesOn_146 rfl (fun hc => absurd hc (by decide)) (fun _ => ?_)
            refine r_goto (tgt := 205) d_X12_goesOn_149 rfl ?_
            refine x_iinc (x := x2) (L := [(2, t), (0, x1), (0, x2), (0, 0), (3, 0)]) d_X12_goesOn_205 rfl (by decide) rfl (fun y13 ey13 => ?_)
            have h := h y13 ey13
            show WP _ _ _ _ _ _ _ _ [(2, t), (0, x1), (0, y13), (0, 0), (3, 0)] _ _ _ _
            refine r_goto (tgt := 58) d_X12_goesOn_208 rfl ?_
            exact x_mask h ⟨Or.inr rfl, Or.inr rfl, Or.inr rfl, Or.inl rfl, Or.inl rfl, trivial⟩
          · have h := h.2 hc
            refine r_aload_n (x := t) d_X12_goesOn_121 rfl o_t.1 ?_
            refine r_getf (j := 25) (t := 2) (x := t_counts) d_X12_goesOn_122 kX12 (by decide) fl_X12_64 o_t.1 o_t.2.1 o_t.2.2.1 o_t.2.2.2 rfl f_t_counts ?_
            refine r_aload_n (x := t) d_X12_goesOn_125 rfl o_t.1 ?_
            refine r_getf (j := 2) (t := 2) (x := t_letterOf) d_X12_goesOn_126 kX12 (by decide) fl_X12_17 o_t.1 o_t.2.1 o_t.2.2.1 o_t.2.2.2 rfl f_t_letterOf ?_
            refine r_iconst (x := 3) d_X12_goesOn_129 ⟨by decide, by decide⟩ ?_
            refine r_iload_n (x := x2) d_X12_goesOn_130 rfl ?_
            refine r_imul d_X12_goesOn_131 ?_
            refine r_iconst (x := 2) d_X12_goesOn_132 ⟨by decide, by decide⟩ ?_
            refine r_iadd d_X12_goesOn_133 ?_
            refine x_iald d_X12_goesOn_134 h.1 ?_
            have h := h.2
            refine x_iald d_X12_goesOn_135 h.1 ?_
            have h := h.2
            refine r_if_le (tgt := 143) d_X12_goesOn_136 rfl (fun hc => ?_) (fun hc => ?_)
            · have h := h.1 hc
              refine r_iconst (x := 0) d_X12_goesOn_143 ⟨by decide, by decide⟩ ?_
              refine r_istore_n (L2 := [(2, t), (0, x1), (0, x2), (0, 0), (3, 0)]) d_X12_goesOn_144 (by decide) rfl rfl ?_
              refine r_iload_n (x := 0) d_X12_goesOn_145 rfl ?_
              refine r_if_ne (tgt := 152) d_X12_goesOn_146 rfl (fun hc => absurd hc (by decide)) (fun _ => ?_)
              refine r_goto (tgt := 205) d_X12_goesOn_149 rfl ?_
              refine x_iinc (x := x2) (L := [(2, t), (0, x1), (0, x2), (0, 0), (3, 0)]) d_X12_goesOn_205 rfl (by decide) rfl (fun y14 ey14 => ?_)
              have h := h y14 ey14
              show WP _ _ _ _ _ _ _ _ [(2, t), (0, x1), (0, y14), (0, 0), (3, 0)] _ _ _ _
              refine r_goto (tgt := 58) d_X12_goesOn_208 rfl ?_
              exact x_mask h ⟨Or.inr rfl, Or.inr rfl, Or.inr rfl, Or.inl rfl, Or.inl rfl, trivial⟩
            · have h := h.2 hc
              refine r_iconst (x := 1) d_X12_goesOn_139 ⟨by decide, by decide⟩ ?_
              refine r_goto (tgt := 144) d_X12_goesOn_140 rfl ?_
              refine r_istore_n (L2 := [(2, t), (0, x1), (0, x2), (0, 1), (3, 0)]) d_X12_goesOn_144 (by decide) rfl rfl ?_
              refine r_iload_n (x := 1) d_X12_goesOn_145 rfl ?_
              refine r_if_ne (tgt := 152) d_X12_goesOn_146 rfl (fun _ => ?_) (fun hc => absurd hc (by decide))
              refine r_aload_n (x := t) d_X12_goesOn_152 rfl o_t.1 ?_
              refine r_getf (j := 26) (t := 2) (x := t_formRank) d_X12_goesOn_153 kX12 (by decide) fl_X12_67 o_t.1 o_t.2.1 o_t.2.2.1 o_t.2.2.2 rfl f_t_formRank ?_
              refine r_iload_n (x := x1) d_X12_goesOn_156 rfl ?_
              refine r_iload_n (x := x2) d_X12_goesOn_157 rfl ?_
              refine x_iast d_X12_goesOn_158 h.1 ?_
              have h := h.2
              refine r_nmM (fun τ15 eτ15 => ?_)
              have h := h τ15 eτ15
              refine r_aload_n (x := t) d_X12_goesOn_159 rfl o_t.1 ?_
              refine r_iload_n (x := x2) d_X12_goesOn_160 rfl ?_
              refine r_bipush (x := 121) d_X12_goesOn_161 ⟨by decide, by decide⟩ (by decide) ?_
              refine r_imul d_X12_goesOn_163 ?_
              refine r_bipush (x := 121) d_X12_goesOn_164 ⟨by decide, by decide⟩ (by decide) ?_
              refine r_imul d_X12_goesOn_166 ?_
              refine r_bipush (x := 121) d_X12_goesOn_167 ⟨by decide, by decide⟩ (by decide) ?_
              refine r_imul d_X12_goesOn_169 ?_
              refine r_iconst (x := (-1)) d_X12_goesOn_170 ⟨by decide, by decide⟩ ?_
              refine x_callVV (Y2 := mX12_counts) (c := t) (As := [(0, (mulI (mulI (mulI x2 121) 121) 121)), (0, (-1))]) (S := []) d_X12_goesOn_171 ok_mX12_counts ml_X12_364 rfl (Nat.le_of_ble_eq_true rfl) (Nat.le_of_ble_eq_true rfl) rfl hd_1 kX12 o_t (CV.mono h (fun σ16 h => ?_))
              refine r_aload_n (x := t) d_X12_goesOn_174 rfl o_t.1 ?_
              refine r_iload_n (x := x1) d_X12_goesOn_175 rfl ?_
              refine r_iconst (x := 1) d_X12_goesOn_176 ⟨by decide, by decide⟩ ?_
              refine r_iadd d_X12_goesOn_177 ?_
              refine x_callVI (Y2 := mX12_goesOn) (c := t) (As := [(0, (addI x1 1))]) (S := []) d_X12_goesOn_178 ok_mX12_goesOn ml_X12_366 rfl (Nat.le_of_ble_eq_true rfl) (Nat.le_of_ble_eq_true rfl) rfl hd_1 kX12 o_t (CI.mono h (fun v18 σ17 h => ?_))
              refine r_istore (L2 := [(2, t), (0, x1), (0, x2), (0, 1), (0, v18)]) d_X12_goesOn_181 (by decide) rfl rfl ?_
              refine r_aload_n (x := t) d_X12_goesOn_183 rfl o_t.1 ?_
              refine r_iload_n (x := x2) d_X12_goesOn_184 rfl ?_
              refine r_bipush (x := 121) d_X12_goesOn_185 ⟨by decide, by decide⟩ (by decide) ?_
              refine r_imul d_X12_goesOn_187 ?_
              refine r_bipush (x := 121) d_X12_goesOn_188 ⟨by decide, by decide⟩ (by decide) ?_
              refine r_imul d_X12_goesOn_190 ?_
              refine r_bipush (x := 121) d_X12_goesOn_191 ⟨by decide, by decide⟩ (by decide) ?_
              refine r_imul d_X12_goesOn_193 ?_
              refine r_iconst (x := 1) d_X12_goesOn_194 ⟨by decide, by decide⟩ ?_
              refine x_callVV (Y2 := mX12_counts) (c := t) (As := [(0, (mulI (mulI (mulI x2 121) 121) 121)), (0, 1)]) (S := []) d_X12_goesOn_195 ok_mX12_counts ml_X12_364 rfl (Nat.le_of_ble_eq_true rfl) (Nat.le_of_ble_eq_true rfl) rfl hd_1 kX12 o_t (CV.mono h (fun σ19 h => ?_))
              refine r_iload (x := v18) d_X12_goesOn_198 rfl ?_
              refine r_if_eq (tgt := 205) d_X12_goesOn_200 rfl (fun hc => ?_) (fun hc => ?_)
              · have h := h.1 hc
                refine x_iinc (x := x2) (L := [(2, t), (0, x1), (0, x2), (0, 1), (0, v18)]) d_X12_goesOn_205 rfl (by decide) rfl (fun y20 ey20 => ?_)
                have h := h y20 ey20
                show WP _ _ _ _ _ _ _ _ [(2, t), (0, x1), (0, y20), (0, 1), (0, v18)] _ _ _ _
                refine r_goto (tgt := 58) d_X12_goesOn_208 rfl ?_
                exact x_mask h ⟨Or.inr rfl, Or.inr rfl, Or.inr rfl, Or.inl rfl, Or.inl rfl, trivial⟩
              · have h := h.2 hc
                refine r_iconst (x := 1) d_X12_goesOn_203 ⟨by decide, by decide⟩ ?_
                exact r_iret d_X12_goesOn_204 rfl (by decide) (Nat.le_refl 0) (Nat.le_refl 0) ⟨_, rfl, rfl, rfl, h⟩
      · have h := h.2 hc
        show WP l mX12_goesOn (rm d 0 0) noX _ 0 0 81 [(2, t), (0, x1), (0, x2), (3, 0), (3, 0)] [(0, 1)] N Λ σ11
        refine r_if_eq (tgt := 87) d_X12_goesOn_81 rfl (fun hc => absurd hc (by decide)) (fun _ => ?_)
        refine r_goto (tgt := 205) d_X12_goesOn_84 rfl ?_
        refine x_iinc (x := x2) (L := [(2, t), (0, x1), (0, x2), (3, 0), (3, 0)]) d_X12_goesOn_205 rfl (by decide) rfl (fun y21 ey21 => ?_)
        have h := h y21 ey21
        show WP _ _ _ _ _ _ _ _ [(2, t), (0, x1), (0, y21), (3, 0), (3, 0)] _ _ _ _
        refine r_goto (tgt := 58) d_X12_goesOn_208 rfl ?_
        exact h
theorem v_X12_laysForms_0 {l : Launch} {d N : Nat} {Λ : Lay} {P : Int → Mem → Prop} {σ : Mem} {x1 x2 t : Int}
    (h : WI l mX12_laysForms d P 2 [(2, t), (0, x1), (0, x2), (0, 0)] [] N Λ σ) :
    WI l mX12_laysForms d P 0 [(2, t), (0, x1), (0, x2), (3, 0)] [] N Λ σ := by
  refine r_iconst (x := 0) d_X12_laysForms_0 ⟨by decide, by decide⟩ ?_
  refine r_istore_n (L2 := [(2, t), (0, x1), (0, x2), (0, 0)]) d_X12_laysForms_1 (by decide) rfl rfl ?_
  exact h
theorem v_X12_laysForms_2 {l : Launch} {d N : Nat} {Λ : Lay} {P : Int → Mem → Prop} {σ : Mem} {x1 x2 x3 t t_counts t_state : Int} (o_t : Ob N Λ t 21 36) (f_t_state : (Λ t).2.2 3 = t_state) (z_t_state : 0 ≤ t_state) (f_t_counts : (Λ t).2.2 25 = t_counts) (h0d : 1 ≤ d)
    (h : ((10 ≤ x3 → (Ix N Λ t_state 0 (addI (addI (mulI 161 x1) 1) (mulI 2 0)) ∧ (∀ y1, y1 = (σ t_state (addI (addI (mulI 161 x1) 1) (mulI 2 0))) → (CV l mX12_counts (d - 1) [(2, t), (0, y1), (0, 1)] N Λ σ (fun σ2 => (CI l mX12_degreeOf (d - 1) [(0, y1)] N Λ σ2 (fun v4 σ3 => (∀ τ5, τ5 = st σ3 t 28 v4 → (∀ τ6, τ6 = st τ5 t 27 x2 → (∀ τ7, τ7 = st τ6 t 29 0 → (CI l mX12_goesOn (d - 1) [(2, t), (0, 0)] N Λ τ7 (fun v9 σ8 => (((v9 : Int) = 0 ∨ (v9 : Int) = 1) ∧ P v9 σ8))))))))))))) ∧ (¬ (10 ≤ x3) → (Ix N Λ t_counts 0 x3 ∧ (∀ τ10, τ10 = st σ t_counts x3 0 → (∀ y11, y11 = addI x3 1 → WI l mX12_laysForms d P 2 [(2, t), (0, x1), (0, x2), (0, y11)] [] N Λ τ10)))))) :
    WI l mX12_laysForms d P 2 [(2, t), (0, x1), (0, x2), (0, x3)] [] N Λ σ := by
  have hd_1 : 1 ≤ d := Nat.le_trans (by decide) h0d
  refine r_iload_n (x := x3) d_X12_laysForms_2 rfl ?_
  refine r_bipush (x := 10) d_X12_laysForms_3 ⟨by decide, by decide⟩ (by decide) ?_
  refine r_ic_ge (tgt := 21) d_X12_laysForms_5 rfl (fun hc => ?_) (fun hc => ?_)
  · have h := h.1 hc
    refine r_aload_n (x := t) d_X12_laysForms_21 rfl o_t.1 ?_
    refine r_getf (j := 3) (t := 2) (x := t_state) d_X12_laysForms_22 kX12 (by decide) fl_X12_20 o_t.1 o_t.2.1 o_t.2.2.1 o_t.2.2.2 rfl f_t_state ?_
    refine r_iload_n (x := x1) d_X12_laysForms_25 rfl ?_
    refine r_iconst (x := 0) d_X12_laysForms_26 ⟨by decide, by decide⟩ ?_
    refine x_callSI (Y2 := mX12_keyOn) (As := [(2, t_state), (0, x1), (0, 0)]) (S := []) d_X12_laysForms_27 ok_mX12_keyOn ml_X12_339 rfl (Nat.le_of_ble_eq_true rfl) (Nat.le_of_ble_eq_true rfl) rfl hd_1 (c_X12_keyOn (v_X12_keyOn_0 z_t_state ?_))
    refine ⟨h.1, ?_⟩
    have h := h.2
    show WP l mX12_laysForms (rm d 0 0) noX _ 0 0 30 [(2, t), (0, x1), (0, x2), (0, x3)] [(0, (σ t_state (addI (addI (mulI 161 x1) 1) (mulI 2 0))))] N Λ σ
    refine r_nm (fun y1 ey1 => ?_)
    have h := h y1 ey1
    refine r_istore_n (L2 := [(2, t), (0, x1), (0, x2), (0, y1)]) d_X12_laysForms_30 (by decide) rfl rfl ?_
    refine r_aload_n (x := t) d_X12_laysForms_31 rfl o_t.1 ?_
    refine r_iload_n (x := y1) d_X12_laysForms_32 rfl ?_
    refine r_iconst (x := 1) d_X12_laysForms_33 ⟨by decide, by decide⟩ ?_
    refine x_callVV (Y2 := mX12_counts) (c := t) (As := [(0, y1), (0, 1)]) (S := []) d_X12_laysForms_34 ok_mX12_counts ml_X12_364 rfl (Nat.le_of_ble_eq_true rfl) (Nat.le_of_ble_eq_true rfl) rfl hd_1 kX12 o_t (CV.mono h (fun σ2 h => ?_))
    refine r_aload_n (x := t) d_X12_laysForms_37 rfl o_t.1 ?_
    refine r_iload_n (x := y1) d_X12_laysForms_38 rfl ?_
    refine x_callSI (Y2 := mX12_degreeOf) (As := [(0, y1)]) (S := [(2, t)]) d_X12_laysForms_39 ok_mX12_degreeOf ml_X12_138 rfl (Nat.le_of_ble_eq_true rfl) (Nat.le_of_ble_eq_true rfl) rfl hd_1 (CI.mono h (fun v4 σ3 h => ?_))
    refine r_putI (j := 28) d_X12_laysForms_42 kX12 (by decide) fl_X12_355 rfl o_t.1 o_t.2.1 o_t.2.2.1 o_t.2.2.2 rfl ?_
    refine r_nmM (fun τ5 eτ5 => ?_)
    have h := h τ5 eτ5
    refine r_aload_n (x := t) d_X12_laysForms_45 rfl o_t.1 ?_
    refine r_iload_n (x := x2) d_X12_laysForms_46 rfl ?_
    refine r_putI (j := 27) d_X12_laysForms_47 kX12 (by decide) fl_X12_361 rfl o_t.1 o_t.2.1 o_t.2.2.1 o_t.2.2.2 rfl ?_
    refine r_nmM (fun τ6 eτ6 => ?_)
    have h := h τ6 eτ6
    refine r_aload_n (x := t) d_X12_laysForms_50 rfl o_t.1 ?_
    refine r_iconst (x := 0) d_X12_laysForms_51 ⟨by decide, by decide⟩ ?_
    refine r_putI (j := 29) d_X12_laysForms_52 kX12 (by decide) fl_X12_358 rfl o_t.1 o_t.2.1 o_t.2.2.1 o_t.2.2.2 rfl ?_
    refine r_nmM (fun τ7 eτ7 => ?_)
    have h := h τ7 eτ7
    refine r_aload_n (x := t) d_X12_laysForms_55 rfl o_t.1 ?_
    refine r_iconst (x := 0) d_X12_laysForms_56 ⟨by decide, by decide⟩ ?_
    refine x_callVI (Y2 := mX12_goesOn) (c := t) (As := [(0, 0)]) (S := []) d_X12_laysForms_57 ok_mX12_goesOn ml_X12_366 rfl (Nat.le_of_ble_eq_true rfl) (Nat.le_of_ble_eq_true rfl) rfl hd_1 kX12 o_t (CI.mono h (fun v9 σ8 h => ?_))
    exact r_iret d_X12_laysForms_60 rfl (nbool h.1) (Nat.le_refl 0) (Nat.le_refl 0) ⟨_, rfl, rfl, rfl, h.2⟩
  · have h := h.2 hc
    refine r_aload_n (x := t) d_X12_laysForms_8 rfl o_t.1 ?_
    refine r_getf (j := 25) (t := 2) (x := t_counts) d_X12_laysForms_9 kX12 (by decide) fl_X12_64 o_t.1 o_t.2.1 o_t.2.2.1 o_t.2.2.2 rfl f_t_counts ?_
    refine r_iload_n (x := x3) d_X12_laysForms_12 rfl ?_
    refine r_iconst (x := 0) d_X12_laysForms_13 ⟨by decide, by decide⟩ ?_
    refine x_iast d_X12_laysForms_14 h.1 ?_
    have h := h.2
    refine r_nmM (fun τ10 eτ10 => ?_)
    have h := h τ10 eτ10
    refine x_iinc (x := x3) (L := [(2, t), (0, x1), (0, x2), (0, x3)]) d_X12_laysForms_15 rfl (by decide) rfl (fun y11 ey11 => ?_)
    have h := h y11 ey11
    show WP _ _ _ _ _ _ _ _ [(2, t), (0, x1), (0, x2), (0, y11)] _ _ _ _
    refine r_goto (tgt := 2) d_X12_laysForms_18 rfl ?_
    exact h
theorem v_X12_forms_0 {l : Launch} {d N : Nat} {Λ : Lay} {P : Int → Mem → Prop} {σ : Mem} {x1 t t_state : Int} (o_t : Ob N Λ t 21 36) (f_t_state : (Λ t).2.2 3 = t_state) (h0d : 2 ≤ d)
    (h : (∀ τ1, τ1 = st σ t 0 0 → (((cmpL x1 0) < 0 → P (-2) τ1) ∧ (¬ ((cmpL x1 0) < 0) → ((0 < (cmpL x1 5) → P (-2) τ1) ∧ (¬ (0 < (cmpL x1 5)) → (Ix N Λ t_state 0 (mulI 161 x1) ∧ ((¬ (τ1 t_state (mulI 161 x1)) = 0 → (CI l mX12_laysForms (d - 1) [(2, t), (0, x1), (0, 1048576)] N Λ τ1 (fun v3 σ2 => P (σ2 t 29) σ2))) ∧ ((τ1 t_state (mulI 161 x1)) = 0 → P (-1) τ1))))))))) :
    WI l mX12_forms d P 0 [(2, t), (0, x1), (3, 0)] [] N Λ σ := by
  have hd_1 : 1 ≤ d := Nat.le_trans (by decide) h0d
  have he_1 : 1 ≤ d - 1 := Nat.le_sub_of_add_le (Nat.le_trans (by decide) h0d)
  refine r_aload_n (x := t) d_X12_forms_0 rfl o_t.1 ?_
  refine r_iconst (x := 0) d_X12_forms_1 ⟨by decide, by decide⟩ ?_
  refine r_putI (j := 0) d_X12_forms_2 kX12 (by decide) fl_X12_1 rfl o_t.1 o_t.2.1 o_t.2.2.1 o_t.2.2.2 rfl ?_
  refine r_nmM (fun τ1 eτ1 => ?_)
  have h := h τ1 eτ1
  refine r_iload_n (x := x1) d_X12_forms_5 rfl ?_
  refine x_callSI (Y2 := mX12_isShelf) (As := [(0, x1)]) (S := []) d_X12_forms_6 ok_mX12_isShelf ml_X12_199 rfl (Nat.le_of_ble_eq_true rfl) (Nat.le_of_ble_eq_true rfl) rfl hd_1 (c_X12_isShelf (v_X12_isShelf_0 he_1 ?_))
  refine ⟨fun hc => ?_, fun hc => ?_⟩
  · have h := h.1 hc
    show WP l mX12_forms (rm d 0 0) noX _ 0 0 9 [(2, t), (0, x1), (3, 0)] [(0, 0)] N Λ τ1
    refine r_if_ne (tgt := 15) d_X12_forms_9 rfl (fun hc => absurd hc (by decide)) (fun _ => ?_)
    refine r_bipush (x := (-2)) d_X12_forms_12 ⟨by decide, by decide⟩ (by decide) ?_
    exact r_iret d_X12_forms_14 rfl rfl (Nat.le_refl 0) (Nat.le_refl 0) ⟨_, rfl, rfl, rfl, h⟩
  · have h := h.2 hc
    refine ⟨fun hc => ?_, fun hc => ?_⟩
    · have h := h.1 hc
      show WP l mX12_forms (rm d 0 0) noX _ 0 0 9 [(2, t), (0, x1), (3, 0)] [(0, 0)] N Λ τ1
      refine r_if_ne (tgt := 15) d_X12_forms_9 rfl (fun hc => absurd hc (by decide)) (fun _ => ?_)
      refine r_bipush (x := (-2)) d_X12_forms_12 ⟨by decide, by decide⟩ (by decide) ?_
      exact r_iret d_X12_forms_14 rfl rfl (Nat.le_refl 0) (Nat.le_refl 0) ⟨_, rfl, rfl, rfl, h⟩
    · have h := h.2 hc
      show WP l mX12_forms (rm d 0 0) noX _ 0 0 9 [(2, t), (0, x1), (3, 0)] [(0, 1)] N Λ τ1
      refine r_if_ne (tgt := 15) d_X12_forms_9 rfl (fun _ => ?_) (fun hc => absurd hc (by decide))
      refine r_aload_n (x := t) d_X12_forms_15 rfl o_t.1 ?_
      refine r_getf (j := 3) (t := 2) (x := t_state) d_X12_forms_16 kX12 (by decide) fl_X12_20 o_t.1 o_t.2.1 o_t.2.2.1 o_t.2.2.2 rfl f_t_state ?_
      refine r_sipush (x := 161) d_X12_forms_19 ⟨by decide, by decide⟩ (by decide) ?_
      refine r_iload_n (x := x1) d_X12_forms_22 rfl ?_
      refine r_imul d_X12_forms_23 ?_
      refine x_iald d_X12_forms_24 h.1 ?_
      have h := h.2
      refine r_if_ne (tgt := 30) d_X12_forms_25 rfl (fun hc => ?_) (fun hc => ?_)
      · have h := h.1 hc
        refine r_aload_n (x := t) d_X12_forms_30 rfl o_t.1 ?_
        refine r_iload_n (x := x1) d_X12_forms_31 rfl ?_
        refine r_ldcw (x := 1048576) d_X12_forms_32 ck_X12_369 (by decide) ?_
        refine x_callVI (Y2 := mX12_laysForms) (c := t) (As := [(0, x1), (0, 1048576)]) (S := []) d_X12_forms_35 ok_mX12_laysForms ml_X12_370 rfl (Nat.le_of_ble_eq_true rfl) (Nat.le_of_ble_eq_true rfl) rfl hd_1 kX12 o_t (CI.mono h (fun v3 σ2 h => ?_))
        refine r_istore_n (L2 := [(2, t), (0, x1), (0, v3)]) d_X12_forms_38 (by decide) rfl rfl ?_
        refine r_aload_n (x := t) d_X12_forms_39 rfl o_t.1 ?_
        refine r_getf (j := 29) (t := 0) (x := (σ2 t 29)) d_X12_forms_40 kX12 (by decide) fl_X12_358 o_t.1 o_t.2.1 o_t.2.2.1 o_t.2.2.2 rfl rfl ?_
        exact r_iret d_X12_forms_43 rfl rfl (Nat.le_refl 0) (Nat.le_refl 0) ⟨_, rfl, rfl, rfl, h⟩
      · have h := h.2 hc
        refine r_iconst (x := (-1)) d_X12_forms_28 ⟨by decide, by decide⟩ ?_
        exact r_iret d_X12_forms_29 rfl rfl (Nat.le_refl 0) (Nat.le_refl 0) ⟨_, rfl, rfl, rfl, h⟩
theorem v_X12_form_0 {l : Launch} {d N : Nat} {Λ : Lay} {P : Int → Mem → Prop} {σ : Mem} {x1 x2 x3 t t_formRank t_letterOf t_state : Int} (o_t : Ob N Λ t 21 36) (f_t_state : (Λ t).2.2 3 = t_state) (f_t_letterOf : (Λ t).2.2 2 = t_letterOf) (f_t_formRank : (Λ t).2.2 26 = t_formRank) (h0d : 2 ≤ d)
    (h : (∀ τ1, τ1 = st σ t 0 0 → (((cmpL x1 0) < 0 → P (-2) τ1) ∧ (¬ ((cmpL x1 0) < 0) → ((0 < (cmpL x1 5) → P (-2) τ1) ∧ (¬ (0 < (cmpL x1 5)) → ((x2 < 0 → P (-3) τ1) ∧ (¬ (x2 < 0) → ((0 ≤ x3 → (Ix N Λ t_state 0 (mulI 161 x1) ∧ (((τ1 t_state (mulI 161 x1)) = 0 → P (-1) τ1) ∧ (¬ ((τ1 t_state (mulI 161 x1)) = 0) → (CI l mX12_laysForms (d - 1) [(2, t), (0, x1), (0, x2)] N Λ τ1 (fun v3 σ2 => ((v3 = 0 → P (-1) σ2) ∧ (¬ (v3 = 0) → ((x3 < (mulI 3 (σ2 t 28)) → (Ix N Λ t_formRank 0 (divI x3 3) ∧ (Ix N Λ t_letterOf 0 (addI (mulI 3 (σ2 t_formRank (divI x3 3))) (remI x3 3)) ∧ P (σ2 t_letterOf (addI (mulI 3 (σ2 t_formRank (divI x3 3))) (remI x3 3))) σ2))) ∧ (¬ (x3 < (mulI 3 (σ2 t 28))) → P (-1) σ2)))))))))) ∧ (¬ (0 ≤ x3) → P (-3) τ1)))))))))) :
    WI l mX12_form d P 0 [(2, t), (0, x1), (0, x2), (0, x3)] [] N Λ σ := by
  have hd_1 : 1 ≤ d := Nat.le_trans (by decide) h0d
  have he_1 : 1 ≤ d - 1 := Nat.le_sub_of_add_le (Nat.le_trans (by decide) h0d)
  refine r_aload_n (x := t) d_X12_form_0 rfl o_t.1 ?_
  refine r_iconst (x := 0) d_X12_form_1 ⟨by decide, by decide⟩ ?_
  refine r_putI (j := 0) d_X12_form_2 kX12 (by decide) fl_X12_1 rfl o_t.1 o_t.2.1 o_t.2.2.1 o_t.2.2.2 rfl ?_
  refine r_nmM (fun τ1 eτ1 => ?_)
  have h := h τ1 eτ1
  refine r_iload_n (x := x1) d_X12_form_5 rfl ?_
  refine x_callSI (Y2 := mX12_isShelf) (As := [(0, x1)]) (S := []) d_X12_form_6 ok_mX12_isShelf ml_X12_199 rfl (Nat.le_of_ble_eq_true rfl) (Nat.le_of_ble_eq_true rfl) rfl hd_1 (c_X12_isShelf (v_X12_isShelf_0 he_1 ?_))
  refine ⟨fun hc => ?_, fun hc => ?_⟩
  · have h := h.1 hc
    show WP l mX12_form (rm d 0 0) noX _ 0 0 9 [(2, t), (0, x1), (0, x2), (0, x3)] [(0, 0)] N Λ τ1
    refine r_if_ne (tgt := 15) d_X12_form_9 rfl (fun hc => absurd hc (by decide)) (fun _ => ?_)
    refine r_bipush (x := (-2)) d_X12_form_12 ⟨by decide, by decide⟩ (by decide) ?_
    exact r_iret d_X12_form_14 rfl rfl (Nat.le_refl 0) (Nat.le_refl 0) ⟨_, rfl, rfl, rfl, h⟩
  · have h := h.2 hc
    refine ⟨fun hc => ?_, fun hc => ?_⟩
    · have h := h.1 hc
      show WP l mX12_form (rm d 0 0) noX _ 0 0 9 [(2, t), (0, x1), (0, x2), (0, x3)] [(0, 0)] N Λ τ1
      refine r_if_ne (tgt := 15) d_X12_form_9 rfl (fun hc => absurd hc (by decide)) (fun _ => ?_)
      refine r_bipush (x := (-2)) d_X12_form_12 ⟨by decide, by decide⟩ (by decide) ?_
      exact r_iret d_X12_form_14 rfl rfl (Nat.le_refl 0) (Nat.le_refl 0) ⟨_, rfl, rfl, rfl, h⟩
    · have h := h.2 hc
      show WP l mX12_form (rm d 0 0) noX _ 0 0 9 [(2, t), (0, x1), (0, x2), (0, x3)] [(0, 1)] N Λ τ1
      refine r_if_ne (tgt := 15) d_X12_form_9 rfl (fun _ => ?_) (fun hc => absurd hc (by decide))
      refine r_iload_n (x := x2) d_X12_form_15 rfl ?_
      refine r_if_lt (tgt := 23) d_X12_form_16 rfl (fun hc => ?_) (fun hc => ?_)
      · have h := h.1 hc
        refine r_bipush (x := (-3)) d_X12_form_23 ⟨by decide, by decide⟩ (by decide) ?_
        exact r_iret d_X12_form_25 rfl rfl (Nat.le_refl 0) (Nat.le_refl 0) ⟨_, rfl, rfl, rfl, h⟩
      · have h := h.2 hc
        refine r_iload_n (x := x3) d_X12_form_19 rfl ?_
        refine r_if_ge (tgt := 26) d_X12_form_20 rfl (fun hc => ?_) (fun hc => ?_)
        · have h := h.1 hc
          refine r_aload_n (x := t) d_X12_form_26 rfl o_t.1 ?_
          refine r_getf (j := 3) (t := 2) (x := t_state) d_X12_form_27 kX12 (by decide) fl_X12_20 o_t.1 o_t.2.1 o_t.2.2.1 o_t.2.2.2 rfl f_t_state ?_
          refine r_sipush (x := 161) d_X12_form_30 ⟨by decide, by decide⟩ (by decide) ?_
          refine r_iload_n (x := x1) d_X12_form_33 rfl ?_
          refine r_imul d_X12_form_34 ?_
          refine x_iald d_X12_form_35 h.1 ?_
          have h := h.2
          refine r_if_eq (tgt := 58) d_X12_form_36 rfl (fun hc => ?_) (fun hc => ?_)
          · have h := h.1 hc
            refine r_iconst (x := (-1)) d_X12_form_58 ⟨by decide, by decide⟩ ?_
            exact r_iret d_X12_form_59 rfl rfl (Nat.le_refl 0) (Nat.le_refl 0) ⟨_, rfl, rfl, rfl, h⟩
          · have h := h.2 hc
            refine r_aload_n (x := t) d_X12_form_39 rfl o_t.1 ?_
            refine r_iload_n (x := x1) d_X12_form_40 rfl ?_
            refine r_iload_n (x := x2) d_X12_form_41 rfl ?_
            refine x_callVI (Y2 := mX12_laysForms) (c := t) (As := [(0, x1), (0, x2)]) (S := []) d_X12_form_42 ok_mX12_laysForms ml_X12_370 rfl (Nat.le_of_ble_eq_true rfl) (Nat.le_of_ble_eq_true rfl) rfl hd_1 kX12 o_t (CI.mono h (fun v3 σ2 h => ?_))
            refine r_if_eq (tgt := 58) d_X12_form_45 rfl (fun hc => ?_) (fun hc => ?_)
            · have h := h.1 hc
              refine r_iconst (x := (-1)) d_X12_form_58 ⟨by decide, by decide⟩ ?_
              exact r_iret d_X12_form_59 rfl rfl (Nat.le_refl 0) (Nat.le_refl 0) ⟨_, rfl, rfl, rfl, h⟩
            · have h := h.2 hc
              refine r_iload_n (x := x3) d_X12_form_48 rfl ?_
              refine r_iconst (x := 3) d_X12_form_49 ⟨by decide, by decide⟩ ?_
              refine r_aload_n (x := t) d_X12_form_50 rfl o_t.1 ?_
              refine r_getf (j := 28) (t := 0) (x := (σ2 t 28)) d_X12_form_51 kX12 (by decide) fl_X12_355 o_t.1 o_t.2.1 o_t.2.2.1 o_t.2.2.2 rfl rfl ?_
              refine r_imul d_X12_form_54 ?_
              refine r_ic_lt (tgt := 60) d_X12_form_55 rfl (fun hc => ?_) (fun hc => ?_)
              · have h := h.1 hc
                refine r_aload_n (x := t) d_X12_form_60 rfl o_t.1 ?_
                refine r_getf (j := 2) (t := 2) (x := t_letterOf) d_X12_form_61 kX12 (by decide) fl_X12_17 o_t.1 o_t.2.1 o_t.2.2.1 o_t.2.2.2 rfl f_t_letterOf ?_
                refine r_iconst (x := 3) d_X12_form_64 ⟨by decide, by decide⟩ ?_
                refine r_aload_n (x := t) d_X12_form_65 rfl o_t.1 ?_
                refine r_getf (j := 26) (t := 2) (x := t_formRank) d_X12_form_66 kX12 (by decide) fl_X12_67 o_t.1 o_t.2.1 o_t.2.2.1 o_t.2.2.2 rfl f_t_formRank ?_
                refine r_iload_n (x := x3) d_X12_form_69 rfl ?_
                refine r_iconst (x := 3) d_X12_form_70 ⟨by decide, by decide⟩ ?_
                refine r_idiv d_X12_form_71 (by decide) ?_
                refine x_iald d_X12_form_72 h.1 ?_
                have h := h.2
                refine r_imul d_X12_form_73 ?_
                refine r_iload_n (x := x3) d_X12_form_74 rfl ?_
                refine r_iconst (x := 3) d_X12_form_75 ⟨by decide, by decide⟩ ?_
                refine r_irem d_X12_form_76 (by decide) ?_
                refine r_iadd d_X12_form_77 ?_
                refine x_iald d_X12_form_78 h.1 ?_
                have h := h.2
                exact r_iret d_X12_form_79 rfl rfl (Nat.le_refl 0) (Nat.le_refl 0) ⟨_, rfl, rfl, rfl, h⟩
              · have h := h.2 hc
                refine r_iconst (x := (-1)) d_X12_form_58 ⟨by decide, by decide⟩ ?_
                exact r_iret d_X12_form_59 rfl rfl (Nat.le_refl 0) (Nat.le_refl 0) ⟨_, rfl, rfl, rfl, h⟩
        · have h := h.2 hc
          refine r_bipush (x := (-3)) d_X12_form_23 ⟨by decide, by decide⟩ (by decide) ?_
          exact r_iret d_X12_form_25 rfl rfl (Nat.le_refl 0) (Nat.le_refl 0) ⟨_, rfl, rfl, rfl, h⟩
theorem v_X12_columnOf_0 {l : Launch} {d N : Nat} {Λ : Lay} {P : Int → Mem → Prop} {σ : Mem} {x1 t : Int}
    (h : WI l mX12_columnOf d P 2 [(2, t), (0, x1), (0, 0)] [] N Λ σ) :
    WI l mX12_columnOf d P 0 [(2, t), (0, x1), (3, 0)] [] N Λ σ := by
  refine r_iconst (x := 0) d_X12_columnOf_0 ⟨by decide, by decide⟩ ?_
  refine r_istore_n (L2 := [(2, t), (0, x1), (0, 0)]) d_X12_columnOf_1 (by decide) rfl rfl ?_
  exact h
theorem v_X12_columnOf_2 {l : Launch} {d N : Nat} {Λ : Lay} {P : Int → Mem → Prop} {σ : Mem} {x1 x2 t t_keys : Int} (o_t : Ob N Λ t 21 36) (f_t_keys : (Λ t).2.2 30 = t_keys)
    (h : (((σ t 32) ≤ x2 → (Ix N Λ t_keys 0 (σ t 32) ∧ (∀ τ1, τ1 = st σ t_keys (σ t 32) x1 → (∀ τ2, τ2 = st τ1 t 32 (addI (τ1 t 32) 1) → P (subI (τ2 t 32) 1) τ2)))) ∧ (¬ ((σ t 32) ≤ x2) → (Ix N Λ t_keys 0 x2 ∧ ((¬ (σ t_keys x2) = x1 → (∀ y3, y3 = addI x2 1 → WI l mX12_columnOf d P 2 [(2, t), (0, x1), (0, y3)] [] N Λ σ)) ∧ ((σ t_keys x2) = x1 → P x2 σ)))))) :
    WI l mX12_columnOf d P 2 [(2, t), (0, x1), (0, x2)] [] N Λ σ := by
  refine r_iload_n (x := x2) d_X12_columnOf_2 rfl ?_
  refine r_aload_n (x := t) d_X12_columnOf_3 rfl o_t.1 ?_
  refine r_getf (j := 32) (t := 0) (x := (σ t 32)) d_X12_columnOf_4 kX12 (by decide) fl_X12_373 o_t.1 o_t.2.1 o_t.2.2.1 o_t.2.2.2 rfl rfl ?_
  refine r_ic_ge (tgt := 28) d_X12_columnOf_7 rfl (fun hc => ?_) (fun hc => ?_)
  · have h := h.1 hc
    refine r_aload_n (x := t) d_X12_columnOf_28 rfl o_t.1 ?_
    refine r_getf (j := 30) (t := 2) (x := t_keys) d_X12_columnOf_29 kX12 (by decide) fl_X12_70 o_t.1 o_t.2.1 o_t.2.2.1 o_t.2.2.2 rfl f_t_keys ?_
    refine r_aload_n (x := t) d_X12_columnOf_32 rfl o_t.1 ?_
    refine r_getf (j := 32) (t := 0) (x := (σ t 32)) d_X12_columnOf_33 kX12 (by decide) fl_X12_373 o_t.1 o_t.2.1 o_t.2.2.1 o_t.2.2.2 rfl rfl ?_
    refine r_iload_n (x := x1) d_X12_columnOf_36 rfl ?_
    refine x_iast d_X12_columnOf_37 h.1 ?_
    have h := h.2
    refine r_nmM (fun τ1 eτ1 => ?_)
    have h := h τ1 eτ1
    refine r_aload_n (x := t) d_X12_columnOf_38 rfl o_t.1 ?_
    refine r_dup d_X12_columnOf_39 rfl ?_
    refine r_getf (j := 32) (t := 0) (x := (τ1 t 32)) d_X12_columnOf_40 kX12 (by decide) fl_X12_373 o_t.1 o_t.2.1 o_t.2.2.1 o_t.2.2.2 rfl rfl ?_
    refine r_iconst (x := 1) d_X12_columnOf_43 ⟨by decide, by decide⟩ ?_
    refine r_iadd d_X12_columnOf_44 ?_
    refine r_putI (j := 32) d_X12_columnOf_45 kX12 (by decide) fl_X12_373 rfl o_t.1 o_t.2.1 o_t.2.2.1 o_t.2.2.2 rfl ?_
    refine r_nmM (fun τ2 eτ2 => ?_)
    have h := h τ2 eτ2
    refine r_aload_n (x := t) d_X12_columnOf_48 rfl o_t.1 ?_
    refine r_getf (j := 32) (t := 0) (x := (τ2 t 32)) d_X12_columnOf_49 kX12 (by decide) fl_X12_373 o_t.1 o_t.2.1 o_t.2.2.1 o_t.2.2.2 rfl rfl ?_
    refine r_iconst (x := 1) d_X12_columnOf_52 ⟨by decide, by decide⟩ ?_
    refine r_isub d_X12_columnOf_53 ?_
    exact r_iret d_X12_columnOf_54 rfl rfl (Nat.le_refl 0) (Nat.le_refl 0) ⟨_, rfl, rfl, rfl, h⟩
  · have h := h.2 hc
    refine r_aload_n (x := t) d_X12_columnOf_10 rfl o_t.1 ?_
    refine r_getf (j := 30) (t := 2) (x := t_keys) d_X12_columnOf_11 kX12 (by decide) fl_X12_70 o_t.1 o_t.2.1 o_t.2.2.1 o_t.2.2.2 rfl f_t_keys ?_
    refine r_iload_n (x := x2) d_X12_columnOf_14 rfl ?_
    refine x_iald d_X12_columnOf_15 h.1 ?_
    have h := h.2
    refine r_iload_n (x := x1) d_X12_columnOf_16 rfl ?_
    refine r_ic_ne (tgt := 22) d_X12_columnOf_17 rfl (fun hc => ?_) (fun hc => ?_)
    · have h := h.1 hc
      refine x_iinc (x := x2) (L := [(2, t), (0, x1), (0, x2)]) d_X12_columnOf_22 rfl (by decide) rfl (fun y3 ey3 => ?_)
      have h := h y3 ey3
      show WP _ _ _ _ _ _ _ _ [(2, t), (0, x1), (0, y3)] _ _ _ _
      refine r_goto (tgt := 2) d_X12_columnOf_25 rfl ?_
      exact h
    · have h := h.2 hc
      refine r_iload_n (x := x2) d_X12_columnOf_20 rfl ?_
      exact r_iret d_X12_columnOf_21 rfl rfl (Nat.le_refl 0) (Nat.le_refl 0) ⟨_, rfl, rfl, rfl, h⟩
theorem v_X12_modulo_0 {l : Launch} {d N : Nat} {Λ : Lay} {P : Int → Mem → Prop} {σ : Mem} {x0 : Int}
    (h : P (remL (addL (remL x0 1000003) 1000003) 1000003) σ) :
    WL l mX12_modulo d P 0 [(1, x0), (3, 0)] [] N Λ σ := by
  refine r_lload_n (x := x0) d_X12_modulo_0 rfl ?_
  refine r_ldc2 (x := 1000003) d_X12_modulo_1 ck_X12_376 (by decide) ?_
  refine r_lrem d_X12_modulo_4 (by decide) ?_
  refine r_ldc2 (x := 1000003) d_X12_modulo_5 ck_X12_376 (by decide) ?_
  refine r_ladd d_X12_modulo_8 ?_
  refine r_ldc2 (x := 1000003) d_X12_modulo_9 ck_X12_376 (by decide) ?_
  refine r_lrem d_X12_modulo_12 (by decide) ?_
  exact r_lret d_X12_modulo_13 rfl (Nat.le_refl 0) (Nat.le_refl 0) ⟨_, rfl, rfl, rfl, h⟩
theorem v_X12_inverse_0 {l : Launch} {d N : Nat} {Λ : Lay} {P : Int → Mem → Prop} {σ : Mem} {x0 : Int}
    (h : WL l mX12_inverse d P 10 [(1, x0), (3, 0), (1, 1), (3, 0), (1, x0), (3, 0), (0, 1000001)] [] N Λ σ) :
    WL l mX12_inverse d P 0 [(1, x0), (3, 0), (3, 0), (3, 0), (3, 0), (3, 0), (3, 0)] [] N Λ σ := by
  refine r_lconst d_X12_inverse_0 ?_
  skip
  refine r_lstore_n (L2 := [(1, x0), (3, 0), (1, 1), (3, 0), (3, 0), (3, 0), (3, 0)]) d_X12_inverse_1 (by decide) rfl rfl ?_
  refine r_lload_n (x := x0) d_X12_inverse_2 rfl ?_
  refine r_lstore (L2 := [(1, x0), (3, 0), (1, 1), (3, 0), (1, x0), (3, 0), (3, 0)]) d_X12_inverse_3 (by decide) rfl rfl ?_
  refine r_ldcw (x := 1000001) d_X12_inverse_5 ck_X12_378 (by decide) ?_
  refine r_istore (L2 := [(1, x0), (3, 0), (1, 1), (3, 0), (1, x0), (3, 0), (0, 1000001)]) d_X12_inverse_8 (by decide) rfl rfl ?_
  exact h
theorem v_X12_inverse_10 {l : Launch} {d N : Nat} {Λ : Lay} {P : Int → Mem → Prop} {σ : Mem} {x0 x2 x4 x6 : Int}
    (h : ((x6 ≤ 0 → P x2 σ) ∧ (¬ (x6 ≤ 0) → ((¬ (remI x6 2) = 1 → (∀ y1, y1 = (remL (mulL x4 x4) 1000003) → (∀ y2, y2 = (divI x6 2) → WL l mX12_inverse d P 10 [(1, x0), (3, 0), (1, x2), (3, 0), (1, y1), (3, 0), (0, y2)] [] N Λ σ))) ∧ ((remI x6 2) = 1 → (∀ y3, y3 = (remL (mulL x2 x4) 1000003) → (∀ y4, y4 = (remL (mulL x4 x4) 1000003) → (∀ y5, y5 = (divI x6 2) → WL l mX12_inverse d P 10 [(1, x0), (3, 0), (1, y3), (3, 0), (1, y4), (3, 0), (0, y5)] [] N Λ σ)))))))) :
    WL l mX12_inverse d P 10 [(1, x0), (3, 0), (1, x2), (3, 0), (1, x4), (3, 0), (0, x6)] [] N Λ σ := by
  refine r_iload (x := x6) d_X12_inverse_10 rfl ?_
  refine r_if_le (tgt := 56) d_X12_inverse_12 rfl (fun hc => ?_) (fun hc => ?_)
  · have h := h.1 hc
    refine r_lload_n (x := x2) d_X12_inverse_56 rfl ?_
    exact r_lret d_X12_inverse_57 rfl (Nat.le_refl 0) (Nat.le_refl 0) ⟨_, rfl, rfl, rfl, h⟩
  · have h := h.2 hc
    refine r_iload (x := x6) d_X12_inverse_15 rfl ?_
    refine r_iconst (x := 2) d_X12_inverse_17 ⟨by decide, by decide⟩ ?_
    refine r_irem d_X12_inverse_18 (by decide) ?_
    refine r_iconst (x := 1) d_X12_inverse_19 ⟨by decide, by decide⟩ ?_
    refine r_ic_ne (tgt := 34) d_X12_inverse_20 rfl (fun hc => ?_) (fun hc => ?_)
    · have h := h.1 hc
      refine r_lload_n (x := x2) d_X12_inverse_34 rfl ?_
      refine r_lstore_n (L2 := [(1, x0), (3, 0), (1, x2), (3, 0), (1, x4), (3, 0), (0, x6)]) d_X12_inverse_35 (by decide) rfl rfl ?_
      refine r_lload (x := x4) d_X12_inverse_36 rfl ?_
      refine r_lload (x := x4) d_X12_inverse_38 rfl ?_
      refine r_lmul d_X12_inverse_40 ?_
      refine r_ldc2 (x := 1000003) d_X12_inverse_41 ck_X12_376 (by decide) ?_
      refine r_lrem d_X12_inverse_44 (by decide) ?_
      refine r_nm (fun y1 ey1 => ?_)
      have h := h y1 ey1
      refine r_lstore (L2 := [(1, x0), (3, 0), (1, x2), (3, 0), (1, y1), (3, 0), (0, x6)]) d_X12_inverse_45 (by decide) rfl rfl ?_
      refine r_iload (x := x6) d_X12_inverse_47 rfl ?_
      refine r_iconst (x := 2) d_X12_inverse_49 ⟨by decide, by decide⟩ ?_
      refine r_idiv d_X12_inverse_50 (by decide) ?_
      refine r_nm (fun y2 ey2 => ?_)
      have h := h y2 ey2
      refine r_istore (L2 := [(1, x0), (3, 0), (1, x2), (3, 0), (1, y1), (3, 0), (0, y2)]) d_X12_inverse_51 (by decide) rfl rfl ?_
      refine r_goto (tgt := 10) d_X12_inverse_53 rfl ?_
      exact h
    · have h := h.2 hc
      refine r_lload_n (x := x2) d_X12_inverse_23 rfl ?_
      refine r_lload (x := x4) d_X12_inverse_24 rfl ?_
      refine r_lmul d_X12_inverse_26 ?_
      refine r_ldc2 (x := 1000003) d_X12_inverse_27 ck_X12_376 (by decide) ?_
      refine r_lrem d_X12_inverse_30 (by decide) ?_
      refine r_goto (tgt := 35) d_X12_inverse_31 rfl ?_
      refine r_nm (fun y3 ey3 => ?_)
      have h := h y3 ey3
      refine r_lstore_n (L2 := [(1, x0), (3, 0), (1, y3), (3, 0), (1, x4), (3, 0), (0, x6)]) d_X12_inverse_35 (by decide) rfl rfl ?_
      refine r_lload (x := x4) d_X12_inverse_36 rfl ?_
      refine r_lload (x := x4) d_X12_inverse_38 rfl ?_
      refine r_lmul d_X12_inverse_40 ?_
      refine r_ldc2 (x := 1000003) d_X12_inverse_41 ck_X12_376 (by decide) ?_
      refine r_lrem d_X12_inverse_44 (by decide) ?_
      refine r_nm (fun y4 ey4 => ?_)
      have h := h y4 ey4
      refine r_lstore (L2 := [(1, x0), (3, 0), (1, y3), (3, 0), (1, y4), (3, 0), (0, x6)]) d_X12_inverse_45 (by decide) rfl rfl ?_
      refine r_iload (x := x6) d_X12_inverse_47 rfl ?_
      refine r_iconst (x := 2) d_X12_inverse_49 ⟨by decide, by decide⟩ ?_
      refine r_idiv d_X12_inverse_50 (by decide) ?_
      refine r_nm (fun y5 ey5 => ?_)
      have h := h y5 ey5
      refine r_istore (L2 := [(1, x0), (3, 0), (1, y3), (3, 0), (1, y4), (3, 0), (0, y5)]) d_X12_inverse_51 (by decide) rfl rfl ?_
      refine r_goto (tgt := 10) d_X12_inverse_53 rfl ?_
      exact h
theorem v_X12_clears_0 {l : Launch} {d N : Nat} {Λ : Lay} {P : Mem → Prop} {σ : Mem} {x1 x2 x3 t t_matrix : Int} (o_t : Ob N Λ t 21 36) (f_t_matrix : (Λ t).2.2 31 = t_matrix) (h0d : 1 ≤ d)
    (h : (Ix N Λ t_matrix 1 (addI (mulI 480 x1) x3) ∧ (CL l mX12_inverse (d - 1) [(1, (σ t_matrix (addI (mulI 480 x1) x3)))] N Λ σ (fun v2 σ1 => (∀ y3, y3 = (addI x1 1) → WV l mX12_clears d P 22 [(2, t), (0, x1), (0, x2), (0, x3), (1, v2), (3, 0), (0, y3), (3, 0), (3, 0), (3, 0)] [] N Λ σ1))))) :
    WV l mX12_clears d P 0 [(2, t), (0, x1), (0, x2), (0, x3), (3, 0), (3, 0), (3, 0), (3, 0), (3, 0), (3, 0)] [] N Λ σ := by
  have hd_1 : 1 ≤ d := Nat.le_trans (by decide) h0d
  refine r_aload_n (x := t) d_X12_clears_0 rfl o_t.1 ?_
  refine r_getf (j := 31) (t := 2) (x := t_matrix) d_X12_clears_1 kX12 (by decide) fl_X12_73 o_t.1 o_t.2.1 o_t.2.2.1 o_t.2.2.2 rfl f_t_matrix ?_
  refine r_sipush (x := 480) d_X12_clears_4 ⟨by decide, by decide⟩ (by decide) ?_
  refine r_iload_n (x := x1) d_X12_clears_7 rfl ?_
  refine r_imul d_X12_clears_8 ?_
  refine r_iload_n (x := x3) d_X12_clears_9 rfl ?_
  refine r_iadd d_X12_clears_10 ?_
  refine x_lald d_X12_clears_11 h.1 ?_
  have h := h.2
  refine x_callSL (Y2 := mX12_inverse) (As := [(1, (σ t_matrix (addI (mulI 480 x1) x3)))]) (S := []) d_X12_clears_12 ok_mX12_inverse ml_X12_379 rfl (Nat.le_of_ble_eq_true rfl) (Nat.le_of_ble_eq_true rfl) rfl hd_1 (CL.mono h (fun v2 σ1 h => ?_))
  refine r_lstore (L2 := [(2, t), (0, x1), (0, x2), (0, x3), (1, v2), (3, 0), (3, 0), (3, 0), (3, 0), (3, 0)]) d_X12_clears_15 (by decide) rfl rfl ?_
  refine r_iload_n (x := x1) d_X12_clears_17 rfl ?_
  refine r_iconst (x := 1) d_X12_clears_18 ⟨by decide, by decide⟩ ?_
  refine r_iadd d_X12_clears_19 ?_
  refine r_nm (fun y3 ey3 => ?_)
  have h := h y3 ey3
  refine r_istore (L2 := [(2, t), (0, x1), (0, x2), (0, x3), (1, v2), (3, 0), (0, y3), (3, 0), (3, 0), (3, 0)]) d_X12_clears_20 (by decide) rfl rfl ?_
  exact h
theorem v_X12_clears_22 {l : Launch} {d N : Nat} {Λ : Lay} {P : Mem → Prop} {σ : Mem} {x1 x2 x3 x4 x6 t t_matrix : Int} (o_t : Ob N Λ t 21 36) (f_t_matrix : (Λ t).2.2 31 = t_matrix)
    (h : ((x2 ≤ x6 → P σ) ∧ (¬ (x2 ≤ x6) → (Ix N Λ t_matrix 1 (addI (mulI 480 x6) x3) ∧ (∀ y1, y1 = (remL (mulL (σ t_matrix (addI (mulI 480 x6) x3)) x4) 1000003) → WV l mX12_clears d P 53 [(2, t), (0, x1), (0, x2), (0, x3), (1, x4), (3, 0), (0, x6), (1, y1), (3, 0), (0, 0)] [] N Λ σ))))) :
    WV l mX12_clears d P 22 [(2, t), (0, x1), (0, x2), (0, x3), (1, x4), (3, 0), (0, x6), (3, 0), (3, 0), (3, 0)] [] N Λ σ := by
  refine r_iload (x := x6) d_X12_clears_22 rfl ?_
  refine r_iload_n (x := x2) d_X12_clears_24 rfl ?_
  refine r_ic_ge (tgt := 126) d_X12_clears_25 rfl (fun hc => ?_) (fun hc => ?_)
  · have h := h.1 hc
    exact r_vret d_X12_clears_126 rfl (Nat.le_refl 0) (Nat.le_refl 0) ⟨rfl, rfl, rfl, h⟩
  · have h := h.2 hc
    refine r_aload_n (x := t) d_X12_clears_28 rfl o_t.1 ?_
    refine r_getf (j := 31) (t := 2) (x := t_matrix) d_X12_clears_29 kX12 (by decide) fl_X12_73 o_t.1 o_t.2.1 o_t.2.2.1 o_t.2.2.2 rfl f_t_matrix ?_
    refine r_sipush (x := 480) d_X12_clears_32 ⟨by decide, by decide⟩ (by decide) ?_
    refine r_iload (x := x6) d_X12_clears_35 rfl ?_
    refine r_imul d_X12_clears_37 ?_
    refine r_iload_n (x := x3) d_X12_clears_38 rfl ?_
    refine r_iadd d_X12_clears_39 ?_
    refine x_lald d_X12_clears_40 h.1 ?_
    have h := h.2
    refine r_lload (x := x4) d_X12_clears_41 rfl ?_
    refine r_lmul d_X12_clears_43 ?_
    refine r_ldc2 (x := 1000003) d_X12_clears_44 ck_X12_376 (by decide) ?_
    refine r_lrem d_X12_clears_47 (by decide) ?_
    refine r_nm (fun y1 ey1 => ?_)
    have h := h y1 ey1
    refine r_lstore (L2 := [(2, t), (0, x1), (0, x2), (0, x3), (1, x4), (3, 0), (0, x6), (1, y1), (3, 0), (3, 0)]) d_X12_clears_48 (by decide) rfl rfl ?_
    refine r_iconst (x := 0) d_X12_clears_50 ⟨by decide, by decide⟩ ?_
    refine r_istore (L2 := [(2, t), (0, x1), (0, x2), (0, x3), (1, x4), (3, 0), (0, x6), (1, y1), (3, 0), (0, 0)]) d_X12_clears_51 (by decide) rfl rfl ?_
    exact h
theorem v_X12_clears_53 {l : Launch} {d N : Nat} {Λ : Lay} {P : Mem → Prop} {σ : Mem} {x1 x2 x3 x4 x6 x7 x9 t t_matrix : Int} (o_t : Ob N Λ t 21 36) (f_t_matrix : (Λ t).2.2 31 = t_matrix) (h0d : 1 ≤ d)
    (h : (((σ t 32) ≤ x9 → (∀ y1, y1 = addI x6 1 → WV l mX12_clears d P 22 [(2, t), (0, x1), (0, x2), (0, x3), (1, x4), (3, 0), (0, y1), (3, 0), (3, 0), (3, 0)] [] N Λ σ)) ∧ (¬ ((σ t 32) ≤ x9) → (Ix N Λ t_matrix 1 (addI (mulI 480 x6) x9) ∧ (Ix N Λ t_matrix 1 (addI (mulI 480 x1) x9) ∧ (Ix N Λ t_matrix 1 (addI (mulI 480 x6) x9) ∧ (∀ τ2, τ2 = st σ t_matrix (addI (mulI 480 x6) x9) (remL (addL (remL (subL (σ t_matrix (addI (mulI 480 x6) x9)) (remL (mulL x7 (σ t_matrix (addI (mulI 480 x1) x9))) 1000003)) 1000003) 1000003) 1000003) → (∀ y3, y3 = addI x9 1 → WV l mX12_clears d P 53 [(2, t), (0, x1), (0, x2), (0, x3), (1, x4), (3, 0), (0, x6), (1, x7), (3, 0), (0, y3)] [] N Λ τ2)))))))) :
    WV l mX12_clears d P 53 [(2, t), (0, x1), (0, x2), (0, x3), (1, x4), (3, 0), (0, x6), (1, x7), (3, 0), (0, x9)] [] N Λ σ := by
  have hd_1 : 1 ≤ d := Nat.le_trans (by decide) h0d
  refine r_iload (x := x9) d_X12_clears_53 rfl ?_
  refine r_aload_n (x := t) d_X12_clears_55 rfl o_t.1 ?_
  refine r_getf (j := 32) (t := 0) (x := (σ t 32)) d_X12_clears_56 kX12 (by decide) fl_X12_373 o_t.1 o_t.2.1 o_t.2.2.1 o_t.2.2.2 rfl rfl ?_
  refine r_ic_ge (tgt := 120) d_X12_clears_59 rfl (fun hc => ?_) (fun hc => ?_)
  · have h := h.1 hc
    refine x_iinc (x := x6) (L := [(2, t), (0, x1), (0, x2), (0, x3), (1, x4), (3, 0), (0, x6), (1, x7), (3, 0), (0, x9)]) d_X12_clears_120 rfl (by decide) rfl (fun y1 ey1 => ?_)
    have h := h y1 ey1
    show WP _ _ _ _ _ _ _ _ [(2, t), (0, x1), (0, x2), (0, x3), (1, x4), (3, 0), (0, y1), (1, x7), (3, 0), (0, x9)] _ _ _ _
    refine r_goto (tgt := 22) d_X12_clears_123 rfl ?_
    exact x_mask h ⟨Or.inr rfl, Or.inr rfl, Or.inr rfl, Or.inr rfl, Or.inr rfl, Or.inl rfl, Or.inr rfl, Or.inl rfl, Or.inl rfl, Or.inl rfl, trivial⟩
  · have h := h.2 hc
    refine r_aload_n (x := t) d_X12_clears_62 rfl o_t.1 ?_
    refine r_getf (j := 31) (t := 2) (x := t_matrix) d_X12_clears_63 kX12 (by decide) fl_X12_73 o_t.1 o_t.2.1 o_t.2.2.1 o_t.2.2.2 rfl f_t_matrix ?_
    refine r_sipush (x := 480) d_X12_clears_66 ⟨by decide, by decide⟩ (by decide) ?_
    refine r_iload (x := x6) d_X12_clears_69 rfl ?_
    refine r_imul d_X12_clears_71 ?_
    refine r_iload (x := x9) d_X12_clears_72 rfl ?_
    refine r_iadd d_X12_clears_74 ?_
    refine r_aload_n (x := t) d_X12_clears_75 rfl o_t.1 ?_
    refine r_getf (j := 31) (t := 2) (x := t_matrix) d_X12_clears_76 kX12 (by decide) fl_X12_73 o_t.1 o_t.2.1 o_t.2.2.1 o_t.2.2.2 rfl f_t_matrix ?_
    refine r_sipush (x := 480) d_X12_clears_79 ⟨by decide, by decide⟩ (by decide) ?_
    refine r_iload (x := x6) d_X12_clears_82 rfl ?_
    refine r_imul d_X12_clears_84 ?_
    refine r_iload (x := x9) d_X12_clears_85 rfl ?_
    refine r_iadd d_X12_clears_87 ?_
    refine x_lald d_X12_clears_88 h.1 ?_
    have h := h.2
    refine r_lload (x := x7) d_X12_clears_89 rfl ?_
    refine r_aload_n (x := t) d_X12_clears_91 rfl o_t.1 ?_
    refine r_getf (j := 31) (t := 2) (x := t_matrix) d_X12_clears_92 kX12 (by decide) fl_X12_73 o_t.1 o_t.2.1 o_t.2.2.1 o_t.2.2.2 rfl f_t_matrix ?_
    refine r_sipush (x := 480) d_X12_clears_95 ⟨by decide, by decide⟩ (by decide) ?_
    refine r_iload_n (x := x1) d_X12_clears_98 rfl ?_
    refine r_imul d_X12_clears_99 ?_
    refine r_iload (x := x9) d_X12_clears_100 rfl ?_
    refine r_iadd d_X12_clears_102 ?_
    refine x_lald d_X12_clears_103 h.1 ?_
    have h := h.2
    refine r_lmul d_X12_clears_104 ?_
    refine r_ldc2 (x := 1000003) d_X12_clears_105 ck_X12_376 (by decide) ?_
    refine r_lrem d_X12_clears_108 (by decide) ?_
    refine r_lsub d_X12_clears_109 ?_
    refine x_callSL (Y2 := mX12_modulo) (As := [(1, (subL (σ t_matrix (addI (mulI 480 x6) x9)) (remL (mulL x7 (σ t_matrix (addI (mulI 480 x1) x9))) 1000003)))]) (S := [(0, (addI (mulI 480 x6) x9)), (2, t_matrix)]) d_X12_clears_110 ok_mX12_modulo ml_X12_383 rfl (Nat.le_of_ble_eq_true rfl) (Nat.le_of_ble_eq_true rfl) rfl hd_1 (c_X12_modulo (v_X12_modulo_0 ?_))
    show WP l mX12_clears (rm d 0 0) noX _ 0 0 113 [(2, t), (0, x1), (0, x2), (0, x3), (1, x4), (3, 0), (0, x6), (1, x7), (3, 0), (0, x9)] [(1, (remL (addL (remL (subL (σ t_matrix (addI (mulI 480 x6) x9)) (remL (mulL x7 (σ t_matrix (addI (mulI 480 x1) x9))) 1000003)) 1000003) 1000003) 1000003)), (0, (addI (mulI 480 x6) x9)), (2, t_matrix)] N Λ σ
    refine x_last d_X12_clears_113 h.1 ?_
    have h := h.2
    refine r_nmM (fun τ2 eτ2 => ?_)
    have h := h τ2 eτ2
    refine x_iinc (x := x9) (L := [(2, t), (0, x1), (0, x2), (0, x3), (1, x4), (3, 0), (0, x6), (1, x7), (3, 0), (0, x9)]) d_X12_clears_114 rfl (by decide) rfl (fun y3 ey3 => ?_)
    have h := h y3 ey3
    show WP _ _ _ _ _ _ _ _ [(2, t), (0, x1), (0, x2), (0, x3), (1, x4), (3, 0), (0, x6), (1, x7), (3, 0), (0, y3)] _ _ _ _
    refine r_goto (tgt := 53) d_X12_clears_117 rfl ?_
    exact h
theorem v_X12_swapsRows_0 {l : Launch} {d N : Nat} {Λ : Lay} {P : Mem → Prop} {σ : Mem} {x1 x2 t : Int}
    (h : WV l mX12_swapsRows d P 2 [(2, t), (0, x1), (0, x2), (0, 0), (3, 0), (3, 0)] [] N Λ σ) :
    WV l mX12_swapsRows d P 0 [(2, t), (0, x1), (0, x2), (3, 0), (3, 0), (3, 0)] [] N Λ σ := by
  refine r_iconst (x := 0) d_X12_swapsRows_0 ⟨by decide, by decide⟩ ?_
  refine r_istore_n (L2 := [(2, t), (0, x1), (0, x2), (0, 0), (3, 0), (3, 0)]) d_X12_swapsRows_1 (by decide) rfl rfl ?_
  exact h
theorem v_X12_swapsRows_2 {l : Launch} {d N : Nat} {Λ : Lay} {P : Mem → Prop} {σ : Mem} {x1 x2 x3 t t_matrix : Int} (o_t : Ob N Λ t 21 36) (f_t_matrix : (Λ t).2.2 31 = t_matrix)
    (h : (((σ t 32) ≤ x3 → P σ) ∧ (¬ ((σ t 32) ≤ x3) → (Ix N Λ t_matrix 1 (addI (mulI 480 x1) x3) ∧ (∀ y1, y1 = (σ t_matrix (addI (mulI 480 x1) x3)) → (Ix N Λ t_matrix 1 (addI (mulI 480 x2) x3) ∧ (Ix N Λ t_matrix 1 (addI (mulI 480 x1) x3) ∧ (∀ τ2, τ2 = st σ t_matrix (addI (mulI 480 x1) x3) (σ t_matrix (addI (mulI 480 x2) x3)) → (Ix N Λ t_matrix 1 (addI (mulI 480 x2) x3) ∧ (∀ τ3, τ3 = st τ2 t_matrix (addI (mulI 480 x2) x3) y1 → (∀ y4, y4 = addI x3 1 → WV l mX12_swapsRows d P 2 [(2, t), (0, x1), (0, x2), (0, y4), (3, 0), (3, 0)] [] N Λ τ3))))))))))) :
    WV l mX12_swapsRows d P 2 [(2, t), (0, x1), (0, x2), (0, x3), (3, 0), (3, 0)] [] N Λ σ := by
  refine r_iload_n (x := x3) d_X12_swapsRows_2 rfl ?_
  refine r_aload_n (x := t) d_X12_swapsRows_3 rfl o_t.1 ?_
  refine r_getf (j := 32) (t := 0) (x := (σ t 32)) d_X12_swapsRows_4 kX12 (by decide) fl_X12_373 o_t.1 o_t.2.1 o_t.2.2.1 o_t.2.2.2 rfl rfl ?_
  refine r_ic_ge (tgt := 68) d_X12_swapsRows_7 rfl (fun hc => ?_) (fun hc => ?_)
  · have h := h.1 hc
    exact r_vret d_X12_swapsRows_68 rfl (Nat.le_refl 0) (Nat.le_refl 0) ⟨rfl, rfl, rfl, h⟩
  · have h := h.2 hc
    refine r_aload_n (x := t) d_X12_swapsRows_10 rfl o_t.1 ?_
    refine r_getf (j := 31) (t := 2) (x := t_matrix) d_X12_swapsRows_11 kX12 (by decide) fl_X12_73 o_t.1 o_t.2.1 o_t.2.2.1 o_t.2.2.2 rfl f_t_matrix ?_
    refine r_sipush (x := 480) d_X12_swapsRows_14 ⟨by decide, by decide⟩ (by decide) ?_
    refine r_iload_n (x := x1) d_X12_swapsRows_17 rfl ?_
    refine r_imul d_X12_swapsRows_18 ?_
    refine r_iload_n (x := x3) d_X12_swapsRows_19 rfl ?_
    refine r_iadd d_X12_swapsRows_20 ?_
    refine x_lald d_X12_swapsRows_21 h.1 ?_
    have h := h.2
    refine r_nm (fun y1 ey1 => ?_)
    have h := h y1 ey1
    refine r_lstore (L2 := [(2, t), (0, x1), (0, x2), (0, x3), (1, y1), (3, 0)]) d_X12_swapsRows_22 (by decide) rfl rfl ?_
    refine r_aload_n (x := t) d_X12_swapsRows_24 rfl o_t.1 ?_
    refine r_getf (j := 31) (t := 2) (x := t_matrix) d_X12_swapsRows_25 kX12 (by decide) fl_X12_73 o_t.1 o_t.2.1 o_t.2.2.1 o_t.2.2.2 rfl f_t_matrix ?_
    refine r_sipush (x := 480) d_X12_swapsRows_28 ⟨by decide, by decide⟩ (by decide) ?_
    refine r_iload_n (x := x1) d_X12_swapsRows_31 rfl ?_
    refine r_imul d_X12_swapsRows_32 ?_
    refine r_iload_n (x := x3) d_X12_swapsRows_33 rfl ?_
    refine r_iadd d_X12_swapsRows_34 ?_
    refine r_aload_n (x := t) d_X12_swapsRows_35 rfl o_t.1 ?_
    refine r_getf (j := 31) (t := 2) (x := t_matrix) d_X12_swapsRows_36 kX12 (by decide) fl_X12_73 o_t.1 o_t.2.1 o_t.2.2.1 o_t.2.2.2 rfl f_t_matrix ?_
    refine r_sipush (x := 480) d_X12_swapsRows_39 ⟨by decide, by decide⟩ (by decide) ?_
    refine r_iload_n (x := x2) d_X12_swapsRows_42 rfl ?_
    refine r_imul d_X12_swapsRows_43 ?_
    refine r_iload_n (x := x3) d_X12_swapsRows_44 rfl ?_
    refine r_iadd d_X12_swapsRows_45 ?_
    refine x_lald d_X12_swapsRows_46 h.1 ?_
    have h := h.2
    refine x_last d_X12_swapsRows_47 h.1 ?_
    have h := h.2
    refine r_nmM (fun τ2 eτ2 => ?_)
    have h := h τ2 eτ2
    refine r_aload_n (x := t) d_X12_swapsRows_48 rfl o_t.1 ?_
    refine r_getf (j := 31) (t := 2) (x := t_matrix) d_X12_swapsRows_49 kX12 (by decide) fl_X12_73 o_t.1 o_t.2.1 o_t.2.2.1 o_t.2.2.2 rfl f_t_matrix ?_
    refine r_sipush (x := 480) d_X12_swapsRows_52 ⟨by decide, by decide⟩ (by decide) ?_
    refine r_iload_n (x := x2) d_X12_swapsRows_55 rfl ?_
    refine r_imul d_X12_swapsRows_56 ?_
    refine r_iload_n (x := x3) d_X12_swapsRows_57 rfl ?_
    refine r_iadd d_X12_swapsRows_58 ?_
    refine r_lload (x := y1) d_X12_swapsRows_59 rfl ?_
    refine x_last d_X12_swapsRows_61 h.1 ?_
    have h := h.2
    refine r_nmM (fun τ3 eτ3 => ?_)
    have h := h τ3 eτ3
    refine x_iinc (x := x3) (L := [(2, t), (0, x1), (0, x2), (0, x3), (1, y1), (3, 0)]) d_X12_swapsRows_62 rfl (by decide) rfl (fun y4 ey4 => ?_)
    have h := h y4 ey4
    show WP _ _ _ _ _ _ _ _ [(2, t), (0, x1), (0, x2), (0, y4), (1, y1), (3, 0)] _ _ _ _
    refine r_goto (tgt := 2) d_X12_swapsRows_65 rfl ?_
    exact x_mask h ⟨Or.inr rfl, Or.inr rfl, Or.inr rfl, Or.inr rfl, Or.inl rfl, Or.inl rfl, trivial⟩
theorem v_X12_rank_0 {l : Launch} {d N : Nat} {Λ : Lay} {P : Int → Mem → Prop} {σ : Mem} {x1 t t_pool : Int} (o_t : Ob N Λ t 21 36) (f_t_pool : (Λ t).2.2 7 = t_pool) (h0d : 2 ≤ d)
    (h : (∀ τ1, τ1 = st σ t 0 0 → (((cmpL x1 0) < 0 → (∀ τ2, τ2 = st τ1 t 16 0 → P (-2) τ2)) ∧ (¬ ((cmpL x1 0) < 0) → ((0 < (cmpL x1 63) → (∀ τ3, τ3 = st τ1 t 16 0 → P (-2) τ3)) ∧ (¬ (0 < (cmpL x1 63)) → (∀ τ4, τ4 = st τ1 t 8 0 → (Ix N Λ t_pool 0 (mulI 161 0) ∧ (∀ τ5, τ5 = st τ4 t_pool (mulI 161 0) 0 → (∀ τ6, τ6 = st τ5 t 16 0 → (∀ τ7, τ7 = st τ6 t 32 0 → WI l mX12_rank d P 42 [(2, t), (0, x1), (0, 0), (0, 0), (3, 0), (3, 0)] [] N Λ τ7))))))))))) :
    WI l mX12_rank d P 0 [(2, t), (0, x1), (3, 0), (3, 0), (3, 0), (3, 0)] [] N Λ σ := by
  have hd_1 : 1 ≤ d := Nat.le_trans (by decide) h0d
  have he_1 : 1 ≤ d - 1 := Nat.le_sub_of_add_le (Nat.le_trans (by decide) h0d)
  refine r_aload_n (x := t) d_X12_rank_0 rfl o_t.1 ?_
  refine r_iconst (x := 0) d_X12_rank_1 ⟨by decide, by decide⟩ ?_
  refine r_putI (j := 0) d_X12_rank_2 kX12 (by decide) fl_X12_1 rfl o_t.1 o_t.2.1 o_t.2.2.1 o_t.2.2.2 rfl ?_
  refine r_nmM (fun τ1 eτ1 => ?_)
  have h := h τ1 eτ1
  refine r_iload_n (x := x1) d_X12_rank_5 rfl ?_
  refine r_i2l d_X12_rank_6 ?_
  refine r_lconst d_X12_rank_7 ?_
  skip
  refine r_ldc2 (x := 63) d_X12_rank_8 ck_X12_386 (by decide) ?_
  refine x_callSI (Y2 := mX12_within) (As := [(1, x1), (1, 0), (1, 63)]) (S := []) d_X12_rank_11 ok_mX12_within ml_X12_91 rfl (Nat.le_of_ble_eq_true rfl) (Nat.le_of_ble_eq_true rfl) rfl hd_1 (c_X12_within (v_X12_within_0 ?_))
  refine ⟨fun hc => ?_, fun hc => ?_⟩
  · have h := h.1 hc
    show WP l mX12_rank (rm d 0 0) noX _ 0 0 14 [(2, t), (0, x1), (3, 0), (3, 0), (3, 0), (3, 0)] [(0, 0)] N Λ τ1
    refine r_if_ne (tgt := 24) d_X12_rank_14 rfl (fun hc => absurd hc (by decide)) (fun _ => ?_)
    refine r_aload_n (x := t) d_X12_rank_17 rfl o_t.1 ?_
    refine r_bipush (x := (-2)) d_X12_rank_18 ⟨by decide, by decide⟩ (by decide) ?_
    refine x_callVI (Y2 := mX12_refused) (c := t) (As := [(0, (-2))]) (S := []) d_X12_rank_20 ok_mX12_refused ml_X12_218 rfl (Nat.le_of_ble_eq_true rfl) (Nat.le_of_ble_eq_true rfl) rfl hd_1 kX12 o_t (c_X12_refused (v_X12_refused_0 o_t ?_))
    intro τ2 eτ2
    have h := h τ2 eτ2
    show WP l mX12_rank (rm d 0 0) noX _ 0 0 23 [(2, t), (0, x1), (3, 0), (3, 0), (3, 0), (3, 0)] [(0, (-2))] N Λ τ2
    exact r_iret d_X12_rank_23 rfl rfl (Nat.le_refl 0) (Nat.le_refl 0) ⟨_, rfl, rfl, rfl, h⟩
  · have h := h.2 hc
    refine ⟨fun hc => ?_, fun hc => ?_⟩
    · have h := h.1 hc
      show WP l mX12_rank (rm d 0 0) noX _ 0 0 14 [(2, t), (0, x1), (3, 0), (3, 0), (3, 0), (3, 0)] [(0, 0)] N Λ τ1
      refine r_if_ne (tgt := 24) d_X12_rank_14 rfl (fun hc => absurd hc (by decide)) (fun _ => ?_)
      refine r_aload_n (x := t) d_X12_rank_17 rfl o_t.1 ?_
      refine r_bipush (x := (-2)) d_X12_rank_18 ⟨by decide, by decide⟩ (by decide) ?_
      refine x_callVI (Y2 := mX12_refused) (c := t) (As := [(0, (-2))]) (S := []) d_X12_rank_20 ok_mX12_refused ml_X12_218 rfl (Nat.le_of_ble_eq_true rfl) (Nat.le_of_ble_eq_true rfl) rfl hd_1 kX12 o_t (c_X12_refused (v_X12_refused_0 o_t ?_))
      intro τ3 eτ3
      have h := h τ3 eτ3
      show WP l mX12_rank (rm d 0 0) noX _ 0 0 23 [(2, t), (0, x1), (3, 0), (3, 0), (3, 0), (3, 0)] [(0, (-2))] N Λ τ3
      exact r_iret d_X12_rank_23 rfl rfl (Nat.le_refl 0) (Nat.le_refl 0) ⟨_, rfl, rfl, rfl, h⟩
    · have h := h.2 hc
      show WP l mX12_rank (rm d 0 0) noX _ 0 0 14 [(2, t), (0, x1), (3, 0), (3, 0), (3, 0), (3, 0)] [(0, 1)] N Λ τ1
      refine r_if_ne (tgt := 24) d_X12_rank_14 rfl (fun _ => ?_) (fun hc => absurd hc (by decide))
      refine r_aload_n (x := t) d_X12_rank_24 rfl o_t.1 ?_
      refine x_callVV (Y2 := mX12_begins) (c := t) (As := []) (S := []) d_X12_rank_25 ok_mX12_begins ml_X12_202 rfl (Nat.le_of_ble_eq_true rfl) (Nat.le_of_ble_eq_true rfl) rfl hd_1 kX12 o_t (c_X12_begins (v_X12_begins_0 o_t f_t_pool he_1 ?_))
      intro τ4 eτ4
      have h := h τ4 eτ4
      refine ⟨h.1, ?_⟩
      have h := h.2
      intro τ5 eτ5
      have h := h τ5 eτ5
      show WP l mX12_rank (rm d 0 0) noX _ 0 0 28 [(2, t), (0, x1), (3, 0), (3, 0), (3, 0), (3, 0)] [] N Λ τ5
      refine r_aload_n (x := t) d_X12_rank_28 rfl o_t.1 ?_
      refine r_iconst (x := 0) d_X12_rank_29 ⟨by decide, by decide⟩ ?_
      refine r_putI (j := 16) d_X12_rank_30 kX12 (by decide) fl_X12_187 rfl o_t.1 o_t.2.1 o_t.2.2.1 o_t.2.2.2 rfl ?_
      refine r_nmM (fun τ6 eτ6 => ?_)
      have h := h τ6 eτ6
      refine r_aload_n (x := t) d_X12_rank_33 rfl o_t.1 ?_
      refine r_iconst (x := 0) d_X12_rank_34 ⟨by decide, by decide⟩ ?_
      refine r_putI (j := 32) d_X12_rank_35 kX12 (by decide) fl_X12_373 rfl o_t.1 o_t.2.1 o_t.2.2.1 o_t.2.2.2 rfl ?_
      refine r_nmM (fun τ7 eτ7 => ?_)
      have h := h τ7 eτ7
      refine r_iconst (x := 0) d_X12_rank_38 ⟨by decide, by decide⟩ ?_
      refine r_istore_n (L2 := [(2, t), (0, x1), (0, 0), (3, 0), (3, 0), (3, 0)]) d_X12_rank_39 (by decide) rfl rfl ?_
      refine r_iconst (x := 0) d_X12_rank_40 ⟨by decide, by decide⟩ ?_
      refine r_istore_n (L2 := [(2, t), (0, x1), (0, 0), (0, 0), (3, 0), (3, 0)]) d_X12_rank_41 (by decide) rfl rfl ?_
      exact h
theorem v_X12_rank_42 {l : Launch} {d N : Nat} {Λ : Lay} {P : Int → Mem → Prop} {σ : Mem} {x1 x2 x3 t t_matrix : Int} (o_t : Ob N Λ t 21 36) (f_t_matrix : (Λ t).2.2 31 = t_matrix)
    (h : ((2880 ≤ x3 → WI l mX12_rank d P 64 [(2, t), (0, x1), (0, x2), (0, 0), (3, 0), (3, 0)] [] N Λ σ) ∧ (¬ (2880 ≤ x3) → (Ix N Λ t_matrix 1 x3 ∧ (∀ τ1, τ1 = st σ t_matrix x3 0 → (∀ y2, y2 = addI x3 1 → WI l mX12_rank d P 42 [(2, t), (0, x1), (0, x2), (0, y2), (3, 0), (3, 0)] [] N Λ τ1)))))) :
    WI l mX12_rank d P 42 [(2, t), (0, x1), (0, x2), (0, x3), (3, 0), (3, 0)] [] N Λ σ := by
  refine r_iload_n (x := x3) d_X12_rank_42 rfl ?_
  refine r_sipush (x := 2880) d_X12_rank_43 ⟨by decide, by decide⟩ (by decide) ?_
  refine r_ic_ge (tgt := 62) d_X12_rank_46 rfl (fun hc => ?_) (fun hc => ?_)
  · have h := h.1 hc
    refine r_iconst (x := 0) d_X12_rank_62 ⟨by decide, by decide⟩ ?_
    refine r_istore_n (L2 := [(2, t), (0, x1), (0, x2), (0, 0), (3, 0), (3, 0)]) d_X12_rank_63 (by decide) rfl rfl ?_
    exact h
  · have h := h.2 hc
    refine r_aload_n (x := t) d_X12_rank_49 rfl o_t.1 ?_
    refine r_getf (j := 31) (t := 2) (x := t_matrix) d_X12_rank_50 kX12 (by decide) fl_X12_73 o_t.1 o_t.2.1 o_t.2.2.1 o_t.2.2.2 rfl f_t_matrix ?_
    refine r_iload_n (x := x3) d_X12_rank_53 rfl ?_
    refine r_lconst d_X12_rank_54 ?_
    skip
    refine x_last d_X12_rank_55 h.1 ?_
    have h := h.2
    refine r_nmM (fun τ1 eτ1 => ?_)
    have h := h τ1 eτ1
    refine x_iinc (x := x3) (L := [(2, t), (0, x1), (0, x2), (0, x3), (3, 0), (3, 0)]) d_X12_rank_56 rfl (by decide) rfl (fun y2 ey2 => ?_)
    have h := h y2 ey2
    show WP _ _ _ _ _ _ _ _ [(2, t), (0, x1), (0, x2), (0, y2), (3, 0), (3, 0)] _ _ _ _
    refine r_goto (tgt := 42) d_X12_rank_59 rfl ?_
    exact h
theorem v_X12_rank_64 {l : Launch} {d N : Nat} {Λ : Lay} {P : Int → Mem → Prop} {σ : Mem} {x1 x2 x3 t t_pool t_state : Int} (o_t : Ob N Λ t 21 36) (f_t_state : (Λ t).2.2 3 = t_state) (f_t_pool : (Λ t).2.2 7 = t_pool) (h0d : 3 ≤ d)
    (h : ((6 ≤ x3 → WI l mX12_rank d P 163 [(2, t), (0, x1), (0, x2), (0, 0), (0, 0), (3, 0)] [] N Λ σ) ∧ (¬ (6 ≤ x3) → ((¬ (andI (shrI x1 x3) 1) = 0 → (CV l mX12_copies (d - 1 - 1 - 1) [(2, t_state), (0, (mulI 161 x3)), (2, t_pool), (0, (mulI 161 3)), (0, 161)] N Λ σ (fun σ1 => (CI l mX12_straightens (d - 1 - 1) [(2, t), (0, 3)] N Λ σ1 (fun v2 σ3 => (∀ τ4, τ4 = st σ3 t 24 v2 → (∀ τ5, τ5 = st τ4 t 16 (τ4 t 8) → ((¬ (τ5 t 8) = 0 → ((¬ (τ5 t 8) = 4 → P (-4) τ5) ∧ ((τ5 t 8) = 4 → P (-7) τ5))) ∧ ((τ5 t 8) = 0 → WI l mX12_rank d P 100 [(2, t), (0, x1), (0, x2), (0, x3), (0, 0), (0, 0)] [] N Λ τ5))))))))) ∧ ((andI (shrI x1 x3) 1) = 0 → (∀ y6, y6 = addI x3 1 → WI l mX12_rank d P 64 [(2, t), (0, x1), (0, x2), (0, y6), (3, 0), (3, 0)] [] N Λ σ)))))) :
    WI l mX12_rank d P 64 [(2, t), (0, x1), (0, x2), (0, x3), (3, 0), (3, 0)] [] N Λ σ := by
  have hd_1 : 1 ≤ d := Nat.le_trans (by decide) h0d
  have he_1 : 1 ≤ d - 1 := Nat.le_sub_of_add_le (Nat.le_trans (by decide) h0d)
  have he_2 : 2 ≤ d - 1 := Nat.le_sub_of_add_le (Nat.le_trans (by decide) h0d)
  refine r_iload_n (x := x3) d_X12_rank_64 rfl ?_
  refine r_bipush (x := 6) d_X12_rank_65 ⟨by decide, by decide⟩ (by decide) ?_
  refine r_ic_ge (tgt := 158) d_X12_rank_67 rfl (fun hc => ?_) (fun hc => ?_)
  · have h := h.1 hc
    refine r_iconst (x := 0) d_X12_rank_158 ⟨by decide, by decide⟩ ?_
    refine r_istore_n (L2 := [(2, t), (0, x1), (0, x2), (0, 0), (3, 0), (3, 0)]) d_X12_rank_159 (by decide) rfl rfl ?_
    refine r_iconst (x := 0) d_X12_rank_160 ⟨by decide, by decide⟩ ?_
    refine r_istore (L2 := [(2, t), (0, x1), (0, x2), (0, 0), (0, 0), (3, 0)]) d_X12_rank_161 (by decide) rfl rfl ?_
    exact h
  · have h := h.2 hc
    refine r_iload_n (x := x1) d_X12_rank_70 rfl ?_
    refine r_iload_n (x := x3) d_X12_rank_71 rfl ?_
    refine r_ishr d_X12_rank_72 ?_
    refine r_iconst (x := 1) d_X12_rank_73 ⟨by decide, by decide⟩ ?_
    refine r_iand d_X12_rank_74 ?_
    refine r_if_ne (tgt := 81) d_X12_rank_75 rfl (fun hc => ?_) (fun hc => ?_)
    · have h := h.1 hc
      refine r_aload_n (x := t) d_X12_rank_81 rfl o_t.1 ?_
      refine r_iload_n (x := x3) d_X12_rank_82 rfl ?_
      refine r_iconst (x := 3) d_X12_rank_83 ⟨by decide, by decide⟩ ?_
      refine x_callVI (Y2 := mX12_straightInto) (c := t) (As := [(0, x3), (0, 3)]) (S := []) d_X12_rank_84 ok_mX12_straightInto ml_X12_349 rfl (Nat.le_of_ble_eq_true rfl) (Nat.le_of_ble_eq_true rfl) rfl hd_1 kX12 o_t (c_X12_straightInto (v_X12_straightInto_0 o_t f_t_state f_t_pool he_2 ?_))
      refine CV.mono h (fun σ1 h => ?_)
      refine CI.mono h (fun v2 σ3 h => ?_)
      intro τ4 eτ4
      have h := h τ4 eτ4
      intro τ5 eτ5
      have h := h τ5 eτ5
      refine ⟨fun hc => ?_, fun hc => ?_⟩
      · have h := h.1 hc
        refine ⟨fun hc => ?_, fun hc => ?_⟩
        · have h := h.1 hc
          show WP l mX12_rank (rm d 0 0) noX _ 0 0 87 [(2, t), (0, x1), (0, x2), (0, x3), (3, 0), (3, 0)] [(0, (-4))] N Λ τ5
          refine r_istore (L2 := [(2, t), (0, x1), (0, x2), (0, x3), (0, (-4)), (3, 0)]) d_X12_rank_87 (by decide) rfl rfl ?_
          refine r_iload (x := (-4)) d_X12_rank_89 rfl ?_
          refine r_if_eq (tgt := 97) d_X12_rank_91 rfl (fun hc => absurd hc (by decide)) (fun _ => ?_)
          refine r_iload (x := (-4)) d_X12_rank_94 rfl ?_
          exact r_iret d_X12_rank_96 rfl rfl (Nat.le_refl 0) (Nat.le_refl 0) ⟨_, rfl, rfl, rfl, h⟩
        · have h := h.2 hc
          show WP l mX12_rank (rm d 0 0) noX _ 0 0 87 [(2, t), (0, x1), (0, x2), (0, x3), (3, 0), (3, 0)] [(0, (-7))] N Λ τ5
          refine r_istore (L2 := [(2, t), (0, x1), (0, x2), (0, x3), (0, (-7)), (3, 0)]) d_X12_rank_87 (by decide) rfl rfl ?_
          refine r_iload (x := (-7)) d_X12_rank_89 rfl ?_
          refine r_if_eq (tgt := 97) d_X12_rank_91 rfl (fun hc => absurd hc (by decide)) (fun _ => ?_)
          refine r_iload (x := (-7)) d_X12_rank_94 rfl ?_
          exact r_iret d_X12_rank_96 rfl rfl (Nat.le_refl 0) (Nat.le_refl 0) ⟨_, rfl, rfl, rfl, h⟩
      · have h := h.2 hc
        show WP l mX12_rank (rm d 0 0) noX _ 0 0 87 [(2, t), (0, x1), (0, x2), (0, x3), (3, 0), (3, 0)] [(0, 0)] N Λ τ5
        refine r_istore (L2 := [(2, t), (0, x1), (0, x2), (0, x3), (0, 0), (3, 0)]) d_X12_rank_87 (by decide) rfl rfl ?_
        refine r_iload (x := 0) d_X12_rank_89 rfl ?_
        refine r_if_eq (tgt := 97) d_X12_rank_91 rfl (fun _ => ?_) (fun hc => absurd hc (by decide))
        refine r_iconst (x := 0) d_X12_rank_97 ⟨by decide, by decide⟩ ?_
        refine r_istore (L2 := [(2, t), (0, x1), (0, x2), (0, x3), (0, 0), (0, 0)]) d_X12_rank_98 (by decide) rfl rfl ?_
        exact h
    · have h := h.2 hc
      refine r_goto (tgt := 152) d_X12_rank_78 rfl ?_
      refine x_iinc (x := x3) (L := [(2, t), (0, x1), (0, x2), (0, x3), (3, 0), (3, 0)]) d_X12_rank_152 rfl (by decide) rfl (fun y6 ey6 => ?_)
      have h := h y6 ey6
      show WP _ _ _ _ _ _ _ _ [(2, t), (0, x1), (0, x2), (0, y6), (3, 0), (3, 0)] _ _ _ _
      refine r_goto (tgt := 64) d_X12_rank_155 rfl ?_
      exact h
theorem v_X12_rank_100 {l : Launch} {d N : Nat} {Λ : Lay} {P : Int → Mem → Prop} {σ : Mem} {x1 x2 x3 x4 x5 t t_matrix t_pool : Int} (o_t : Ob N Λ t 21 36) (f_t_pool : (Λ t).2.2 7 = t_pool) (f_t_matrix : (Λ t).2.2 31 = t_matrix) (h0d : 1 ≤ d)
    (h : (Ix N Λ t_pool 0 (mulI 161 3) ∧ (((σ t_pool (mulI 161 3)) ≤ x5 → (∀ y1, y1 = addI x2 1 → (∀ y2, y2 = addI x3 1 → WI l mX12_rank d P 64 [(2, t), (0, x1), (0, y1), (0, y2), (3, 0), (3, 0)] [] N Λ σ))) ∧ (¬ ((σ t_pool (mulI 161 3)) ≤ x5) → (Ix N Λ t_pool 0 (addI (addI (mulI 161 3) 1) (mulI 2 x5)) ∧ (CI l mX12_columnOf (d - 1) [(2, t), (0, (σ t_pool (addI (addI (mulI 161 3) 1) (mulI 2 x5))))] N Λ σ (fun v4 σ3 => (Ix N Λ t_pool 0 (addI (addI (mulI 161 3) 2) (mulI 2 x5)) ∧ (Ix N Λ t_matrix 1 (addI (mulI 480 x2) v4) ∧ (∀ τ5, τ5 = st σ3 t_matrix (addI (mulI 480 x2) v4) (remL (addL (remL (σ3 t_pool (addI (addI (mulI 161 3) 2) (mulI 2 x5))) 1000003) 1000003) 1000003) → (∀ y6, y6 = addI x5 1 → WI l mX12_rank d P 100 [(2, t), (0, x1), (0, x2), (0, x3), (0, x4), (0, y6)] [] N Λ τ5))))))))))) :
    WI l mX12_rank d P 100 [(2, t), (0, x1), (0, x2), (0, x3), (0, x4), (0, x5)] [] N Λ σ := by
  have hd_1 : 1 ≤ d := Nat.le_trans (by decide) h0d
  refine r_iload (x := x5) d_X12_rank_100 rfl ?_
  refine r_aload_n (x := t) d_X12_rank_102 rfl o_t.1 ?_
  refine r_iconst (x := 3) d_X12_rank_103 ⟨by decide, by decide⟩ ?_
  refine x_callVI (Y2 := mX12_many) (c := t) (As := [(0, 3)]) (S := [(0, x5)]) d_X12_rank_104 ok_mX12_many ml_X12_113 rfl (Nat.le_of_ble_eq_true rfl) (Nat.le_of_ble_eq_true rfl) rfl hd_1 kX12 o_t (c_X12_many (v_X12_many_0 o_t f_t_pool ?_))
  refine ⟨h.1, ?_⟩
  have h := h.2
  show WP l mX12_rank (rm d 0 0) noX _ 0 0 107 [(2, t), (0, x1), (0, x2), (0, x3), (0, x4), (0, x5)] [(0, (σ t_pool (mulI 161 3))), (0, x5)] N Λ σ
  refine r_ic_ge (tgt := 149) d_X12_rank_107 rfl (fun hc => ?_) (fun hc => ?_)
  · have h := h.1 hc
    refine x_iinc (x := x2) (L := [(2, t), (0, x1), (0, x2), (0, x3), (0, x4), (0, x5)]) d_X12_rank_149 rfl (by decide) rfl (fun y1 ey1 => ?_)
    have h := h y1 ey1
    show WP _ _ _ _ _ _ _ _ [(2, t), (0, x1), (0, y1), (0, x3), (0, x4), (0, x5)] _ _ _ _
    refine x_iinc (x := x3) (L := [(2, t), (0, x1), (0, y1), (0, x3), (0, x4), (0, x5)]) d_X12_rank_152 rfl (by decide) rfl (fun y2 ey2 => ?_)
    have h := h y2 ey2
    show WP _ _ _ _ _ _ _ _ [(2, t), (0, x1), (0, y1), (0, y2), (0, x4), (0, x5)] _ _ _ _
    refine r_goto (tgt := 64) d_X12_rank_155 rfl ?_
    exact x_mask h ⟨Or.inr rfl, Or.inr rfl, Or.inr rfl, Or.inr rfl, Or.inl rfl, Or.inl rfl, trivial⟩
  · have h := h.2 hc
    refine r_aload_n (x := t) d_X12_rank_110 rfl o_t.1 ?_
    refine r_getf (j := 31) (t := 2) (x := t_matrix) d_X12_rank_111 kX12 (by decide) fl_X12_73 o_t.1 o_t.2.1 o_t.2.2.1 o_t.2.2.2 rfl f_t_matrix ?_
    refine r_sipush (x := 480) d_X12_rank_114 ⟨by decide, by decide⟩ (by decide) ?_
    refine r_iload_n (x := x2) d_X12_rank_117 rfl ?_
    refine r_imul d_X12_rank_118 ?_
    refine r_aload_n (x := t) d_X12_rank_119 rfl o_t.1 ?_
    refine r_aload_n (x := t) d_X12_rank_120 rfl o_t.1 ?_
    refine r_iconst (x := 3) d_X12_rank_121 ⟨by decide, by decide⟩ ?_
    refine r_iload (x := x5) d_X12_rank_122 rfl ?_
    refine x_callVI (Y2 := mX12_key) (c := t) (As := [(0, 3), (0, x5)]) (S := [(2, t), (0, (mulI 480 x2)), (2, t_matrix)]) d_X12_rank_124 ok_mX12_key ml_X12_117 rfl (Nat.le_of_ble_eq_true rfl) (Nat.le_of_ble_eq_true rfl) rfl hd_1 kX12 o_t (c_X12_key (v_X12_key_0 o_t f_t_pool ?_))
    refine ⟨h.1, ?_⟩
    have h := h.2
    show WP l mX12_rank (rm d 0 0) noX _ 0 0 127 [(2, t), (0, x1), (0, x2), (0, x3), (0, x4), (0, x5)] [(0, (σ t_pool (addI (addI (mulI 161 3) 1) (mulI 2 x5)))), (2, t), (0, (mulI 480 x2)), (2, t_matrix)] N Λ σ
    refine x_callVI (Y2 := mX12_columnOf) (c := t) (As := [(0, (σ t_pool (addI (addI (mulI 161 3) 1) (mulI 2 x5))))]) (S := [(0, (mulI 480 x2)), (2, t_matrix)]) d_X12_rank_127 ok_mX12_columnOf ml_X12_388 rfl (Nat.le_of_ble_eq_true rfl) (Nat.le_of_ble_eq_true rfl) rfl hd_1 kX12 o_t (CI.mono h (fun v4 σ3 h => ?_))
    refine r_iadd d_X12_rank_130 ?_
    refine r_aload_n (x := t) d_X12_rank_131 rfl o_t.1 ?_
    refine r_iconst (x := 3) d_X12_rank_132 ⟨by decide, by decide⟩ ?_
    refine r_iload (x := x5) d_X12_rank_133 rfl ?_
    refine x_callVI (Y2 := mX12_number) (c := t) (As := [(0, 3), (0, x5)]) (S := [(0, (addI (mulI 480 x2) v4)), (2, t_matrix)]) d_X12_rank_135 ok_mX12_number ml_X12_132 rfl (Nat.le_of_ble_eq_true rfl) (Nat.le_of_ble_eq_true rfl) rfl hd_1 kX12 o_t (c_X12_number (v_X12_number_0 o_t f_t_pool ?_))
    refine ⟨h.1, ?_⟩
    have h := h.2
    show WP l mX12_rank (rm d 0 0) noX _ 0 0 138 [(2, t), (0, x1), (0, x2), (0, x3), (0, x4), (0, x5)] [(0, (σ3 t_pool (addI (addI (mulI 161 3) 2) (mulI 2 x5)))), (0, (addI (mulI 480 x2) v4)), (2, t_matrix)] N Λ σ3
    refine r_i2l d_X12_rank_138 ?_
    refine x_callSL (Y2 := mX12_modulo) (As := [(1, (σ3 t_pool (addI (addI (mulI 161 3) 2) (mulI 2 x5))))]) (S := [(0, (addI (mulI 480 x2) v4)), (2, t_matrix)]) d_X12_rank_139 ok_mX12_modulo ml_X12_383 rfl (Nat.le_of_ble_eq_true rfl) (Nat.le_of_ble_eq_true rfl) rfl hd_1 (c_X12_modulo (v_X12_modulo_0 ?_))
    show WP l mX12_rank (rm d 0 0) noX _ 0 0 142 [(2, t), (0, x1), (0, x2), (0, x3), (0, x4), (0, x5)] [(1, (remL (addL (remL (σ3 t_pool (addI (addI (mulI 161 3) 2) (mulI 2 x5))) 1000003) 1000003) 1000003)), (0, (addI (mulI 480 x2) v4)), (2, t_matrix)] N Λ σ3
    refine x_last d_X12_rank_142 h.1 ?_
    have h := h.2
    refine r_nmM (fun τ5 eτ5 => ?_)
    have h := h τ5 eτ5
    refine x_iinc (x := x5) (L := [(2, t), (0, x1), (0, x2), (0, x3), (0, x4), (0, x5)]) d_X12_rank_143 rfl (by decide) rfl (fun y6 ey6 => ?_)
    have h := h y6 ey6
    show WP _ _ _ _ _ _ _ _ [(2, t), (0, x1), (0, x2), (0, x3), (0, x4), (0, y6)] _ _ _ _
    refine r_goto (tgt := 100) d_X12_rank_146 rfl ?_
    exact h
theorem v_X12_rank_163 {l : Launch} {d N : Nat} {Λ : Lay} {P : Int → Mem → Prop} {σ : Mem} {x1 x2 x3 x4 t : Int} (o_t : Ob N Λ t 21 36)
    (h : (((σ t 32) ≤ x4 → P x3 σ) ∧ (¬ ((σ t 32) ≤ x4) → ((x2 ≤ x3 → P x3 σ) ∧ (¬ (x2 ≤ x3) → WI l mX12_rank d P 180 [(2, t), (0, x1), (0, x2), (0, x3), (0, x4), (0, x3)] [] N Λ σ))))) :
    WI l mX12_rank d P 163 [(2, t), (0, x1), (0, x2), (0, x3), (0, x4), (3, 0)] [] N Λ σ := by
  refine r_iload (x := x4) d_X12_rank_163 rfl ?_
  refine r_aload_n (x := t) d_X12_rank_165 rfl o_t.1 ?_
  refine r_getf (j := 32) (t := 0) (x := (σ t 32)) d_X12_rank_166 kX12 (by decide) fl_X12_373 o_t.1 o_t.2.1 o_t.2.2.1 o_t.2.2.2 rfl rfl ?_
  refine r_ic_ge (tgt := 244) d_X12_rank_169 rfl (fun hc => ?_) (fun hc => ?_)
  · have h := h.1 hc
    refine r_iload_n (x := x3) d_X12_rank_244 rfl ?_
    exact r_iret d_X12_rank_245 rfl rfl (Nat.le_refl 0) (Nat.le_refl 0) ⟨_, rfl, rfl, rfl, h⟩
  · have h := h.2 hc
    refine r_iload_n (x := x3) d_X12_rank_172 rfl ?_
    refine r_iload_n (x := x2) d_X12_rank_173 rfl ?_
    refine r_ic_ge (tgt := 244) d_X12_rank_174 rfl (fun hc => ?_) (fun hc => ?_)
    · have h := h.1 hc
      refine r_iload_n (x := x3) d_X12_rank_244 rfl ?_
      exact r_iret d_X12_rank_245 rfl rfl (Nat.le_refl 0) (Nat.le_refl 0) ⟨_, rfl, rfl, rfl, h⟩
    · have h := h.2 hc
      refine r_iload_n (x := x3) d_X12_rank_177 rfl ?_
      refine r_istore (L2 := [(2, t), (0, x1), (0, x2), (0, x3), (0, x4), (0, x3)]) d_X12_rank_178 (by decide) rfl rfl ?_
      exact h
theorem v_X12_rank_180 {l : Launch} {d N : Nat} {Λ : Lay} {P : Int → Mem → Prop} {σ : Mem} {x1 x2 x3 x4 x5 t t_matrix : Int} (o_t : Ob N Λ t 21 36) (f_t_matrix : (Λ t).2.2 31 = t_matrix) (h0d : 1 ≤ d)
    (h : ((x2 ≤ x5 → ((¬ x5 = x2 → (CV l mX12_swapsRows (d - 1) [(2, t), (0, x5), (0, x3)] N Λ σ (fun σ1 => (CV l mX12_clears (d - 1) [(2, t), (0, x3), (0, x2), (0, x4)] N Λ σ1 (fun σ2 => (∀ y3, y3 = addI x3 1 → (∀ y4, y4 = addI x4 1 → WI l mX12_rank d P 163 [(2, t), (0, x1), (0, x2), (0, y3), (0, y4), (3, 0)] [] N Λ σ2))))))) ∧ (x5 = x2 → (∀ y5, y5 = addI x4 1 → WI l mX12_rank d P 163 [(2, t), (0, x1), (0, x2), (0, x3), (0, y5), (3, 0)] [] N Λ σ)))) ∧ (¬ (x2 ≤ x5) → (Ix N Λ t_matrix 1 (addI (mulI 480 x5) x4) ∧ ((¬ (cmpL (σ t_matrix (addI (mulI 480 x5) x4)) 0) = 0 → ((¬ x5 = x2 → (CV l mX12_swapsRows (d - 1) [(2, t), (0, x5), (0, x3)] N Λ σ (fun σ6 => (CV l mX12_clears (d - 1) [(2, t), (0, x3), (0, x2), (0, x4)] N Λ σ6 (fun σ7 => (∀ y8, y8 = addI x3 1 → (∀ y9, y9 = addI x4 1 → WI l mX12_rank d P 163 [(2, t), (0, x1), (0, x2), (0, y8), (0, y9), (3, 0)] [] N Λ σ7))))))) ∧ (x5 = x2 → (∀ y10, y10 = addI x4 1 → WI l mX12_rank d P 163 [(2, t), (0, x1), (0, x2), (0, x3), (0, y10), (3, 0)] [] N Λ σ)))) ∧ ((cmpL (σ t_matrix (addI (mulI 480 x5) x4)) 0) = 0 → (∀ y11, y11 = addI x5 1 → WI l mX12_rank d P 180 [(2, t), (0, x1), (0, x2), (0, x3), (0, x4), (0, y11)] [] N Λ σ))))))) :
    WI l mX12_rank d P 180 [(2, t), (0, x1), (0, x2), (0, x3), (0, x4), (0, x5)] [] N Λ σ := by
  have hd_1 : 1 ≤ d := Nat.le_trans (by decide) h0d
  refine r_iload (x := x5) d_X12_rank_180 rfl ?_
  refine r_iload_n (x := x2) d_X12_rank_182 rfl ?_
  refine r_ic_ge (tgt := 211) d_X12_rank_183 rfl (fun hc => ?_) (fun hc => ?_)
  · have h := h.1 hc
    refine r_iload (x := x5) d_X12_rank_211 rfl ?_
    refine r_iload_n (x := x2) d_X12_rank_213 rfl ?_
    refine r_ic_ne (tgt := 220) d_X12_rank_214 rfl (fun hc => ?_) (fun hc => ?_)
    · have h := h.1 hc
      refine r_aload_n (x := t) d_X12_rank_220 rfl o_t.1 ?_
      refine r_iload (x := x5) d_X12_rank_221 rfl ?_
      refine r_iload_n (x := x3) d_X12_rank_223 rfl ?_
      refine x_callVV (Y2 := mX12_swapsRows) (c := t) (As := [(0, x5), (0, x3)]) (S := []) d_X12_rank_224 ok_mX12_swapsRows ml_X12_391 rfl (Nat.le_of_ble_eq_true rfl) (Nat.le_of_ble_eq_true rfl) rfl hd_1 kX12 o_t (CV.mono h (fun σ1 h => ?_))
      refine r_aload_n (x := t) d_X12_rank_227 rfl o_t.1 ?_
      refine r_iload_n (x := x3) d_X12_rank_228 rfl ?_
      refine r_iload_n (x := x2) d_X12_rank_229 rfl ?_
      refine r_iload (x := x4) d_X12_rank_230 rfl ?_
      refine x_callVV (Y2 := mX12_clears) (c := t) (As := [(0, x3), (0, x2), (0, x4)]) (S := []) d_X12_rank_232 ok_mX12_clears ml_X12_394 rfl (Nat.le_of_ble_eq_true rfl) (Nat.le_of_ble_eq_true rfl) rfl hd_1 kX12 o_t (CV.mono h (fun σ2 h => ?_))
      refine x_iinc (x := x3) (L := [(2, t), (0, x1), (0, x2), (0, x3), (0, x4), (0, x5)]) d_X12_rank_235 rfl (by decide) rfl (fun y3 ey3 => ?_)
      have h := h y3 ey3
      show WP _ _ _ _ _ _ _ _ [(2, t), (0, x1), (0, x2), (0, y3), (0, x4), (0, x5)] _ _ _ _
      refine x_iinc (x := x4) (L := [(2, t), (0, x1), (0, x2), (0, y3), (0, x4), (0, x5)]) d_X12_rank_238 rfl (by decide) rfl (fun y4 ey4 => ?_)
      have h := h y4 ey4
      show WP _ _ _ _ _ _ _ _ [(2, t), (0, x1), (0, x2), (0, y3), (0, y4), (0, x5)] _ _ _ _
      refine r_goto (tgt := 163) d_X12_rank_241 rfl ?_
      exact x_mask h ⟨Or.inr rfl, Or.inr rfl, Or.inr rfl, Or.inr rfl, Or.inr rfl, Or.inl rfl, trivial⟩
    · have h := h.2 hc
      refine r_goto (tgt := 238) d_X12_rank_217 rfl ?_
      refine x_iinc (x := x4) (L := [(2, t), (0, x1), (0, x2), (0, x3), (0, x4), (0, x5)]) d_X12_rank_238 rfl (by decide) rfl (fun y5 ey5 => ?_)
      have h := h y5 ey5
      show WP _ _ _ _ _ _ _ _ [(2, t), (0, x1), (0, x2), (0, x3), (0, y5), (0, x5)] _ _ _ _
      refine r_goto (tgt := 163) d_X12_rank_241 rfl ?_
      exact x_mask h ⟨Or.inr rfl, Or.inr rfl, Or.inr rfl, Or.inr rfl, Or.inr rfl, Or.inl rfl, trivial⟩
  · have h := h.2 hc
    refine r_aload_n (x := t) d_X12_rank_186 rfl o_t.1 ?_
    refine r_getf (j := 31) (t := 2) (x := t_matrix) d_X12_rank_187 kX12 (by decide) fl_X12_73 o_t.1 o_t.2.1 o_t.2.2.1 o_t.2.2.2 rfl f_t_matrix ?_
    refine r_sipush (x := 480) d_X12_rank_190 ⟨by decide, by decide⟩ (by decide) ?_
    refine r_iload (x := x5) d_X12_rank_193 rfl ?_
    refine r_imul d_X12_rank_195 ?_
    refine r_iload (x := x4) d_X12_rank_196 rfl ?_
    refine r_iadd d_X12_rank_198 ?_
    refine x_lald d_X12_rank_199 h.1 ?_
    have h := h.2
    refine r_lconst d_X12_rank_200 ?_
    skip
    refine r_lcmp d_X12_rank_201 ?_
    refine r_if_ne (tgt := 211) d_X12_rank_202 rfl (fun hc => ?_) (fun hc => ?_)
    · have h := h.1 hc
      refine r_iload (x := x5) d_X12_rank_211 rfl ?_
      refine r_iload_n (x := x2) d_X12_rank_213 rfl ?_
      refine r_ic_ne (tgt := 220) d_X12_rank_214 rfl (fun hc => ?_) (fun hc => ?_)
      · have h := h.1 hc
        refine r_aload_n (x := t) d_X12_rank_220 rfl o_t.1 ?_
        refine r_iload (x := x5) d_X12_rank_221 rfl ?_
        refine r_iload_n (x := x3) d_X12_rank_223 rfl ?_
        refine x_callVV (Y2 := mX12_swapsRows) (c := t) (As := [(0, x5), (0, x3)]) (S := []) d_X12_rank_224 ok_mX12_swapsRows ml_X12_391 rfl (Nat.le_of_ble_eq_true rfl) (Nat.le_of_ble_eq_true rfl) rfl hd_1 kX12 o_t (CV.mono h (fun σ6 h => ?_))
        refine r_aload_n (x := t) d_X12_rank_227 rfl o_t.1 ?_
        refine r_iload_n (x := x3) d_X12_rank_228 rfl ?_
        refine r_iload_n (x := x2) d_X12_rank_229 rfl ?_
        refine r_iload (x := x4) d_X12_rank_230 rfl ?_
        refine x_callVV (Y2 := mX12_clears) (c := t) (As := [(0, x3), (0, x2), (0, x4)]) (S := []) d_X12_rank_232 ok_mX12_clears ml_X12_394 rfl (Nat.le_of_ble_eq_true rfl) (Nat.le_of_ble_eq_true rfl) rfl hd_1 kX12 o_t (CV.mono h (fun σ7 h => ?_))
        refine x_iinc (x := x3) (L := [(2, t), (0, x1), (0, x2), (0, x3), (0, x4), (0, x5)]) d_X12_rank_235 rfl (by decide) rfl (fun y8 ey8 => ?_)
        have h := h y8 ey8
        show WP _ _ _ _ _ _ _ _ [(2, t), (0, x1), (0, x2), (0, y8), (0, x4), (0, x5)] _ _ _ _
        refine x_iinc (x := x4) (L := [(2, t), (0, x1), (0, x2), (0, y8), (0, x4), (0, x5)]) d_X12_rank_238 rfl (by decide) rfl (fun y9 ey9 => ?_)
        have h := h y9 ey9
        show WP _ _ _ _ _ _ _ _ [(2, t), (0, x1), (0, x2), (0, y8), (0, y9), (0, x5)] _ _ _ _
        refine r_goto (tgt := 163) d_X12_rank_241 rfl ?_
        exact x_mask h ⟨Or.inr rfl, Or.inr rfl, Or.inr rfl, Or.inr rfl, Or.inr rfl, Or.inl rfl, trivial⟩
      · have h := h.2 hc
        refine r_goto (tgt := 238) d_X12_rank_217 rfl ?_
        refine x_iinc (x := x4) (L := [(2, t), (0, x1), (0, x2), (0, x3), (0, x4), (0, x5)]) d_X12_rank_238 rfl (by decide) rfl (fun y10 ey10 => ?_)
        have h := h y10 ey10
        show WP _ _ _ _ _ _ _ _ [(2, t), (0, x1), (0, x2), (0, x3), (0, y10), (0, x5)] _ _ _ _
        refine r_goto (tgt := 163) d_X12_rank_241 rfl ?_
        exact x_mask h ⟨Or.inr rfl, Or.inr rfl, Or.inr rfl, Or.inr rfl, Or.inr rfl, Or.inl rfl, trivial⟩
    · have h := h.2 hc
      refine x_iinc (x := x5) (L := [(2, t), (0, x1), (0, x2), (0, x3), (0, x4), (0, x5)]) d_X12_rank_205 rfl (by decide) rfl (fun y11 ey11 => ?_)
      have h := h y11 ey11
      show WP _ _ _ _ _ _ _ _ [(2, t), (0, x1), (0, x2), (0, x3), (0, x4), (0, y11)] _ _ _ _
      refine r_goto (tgt := 180) d_X12_rank_208 rfl ?_
      exact h
