theorem d_X12_lastBroken_0 : DC mX12_lastBroken 0 (.aload_n 0) 1 1 := ⟨by decide +kernel, rfl⟩
theorem d_X12_lastBroken_1 : DC mX12_lastBroken 1 (.iload_n 1) 1 2 := ⟨by decide +kernel, rfl⟩
theorem d_X12_lastBroken_2 : DC mX12_lastBroken 2 (.invokevirtual 113) 3 5 := ⟨by decide +kernel, rfl⟩
theorem d_X12_lastBroken_5 : DC mX12_lastBroken 5 (.iconst 1) 1 6 := ⟨by decide +kernel, rfl⟩
theorem d_X12_lastBroken_6 : DC mX12_lastBroken 6 (.isub) 1 7 := ⟨by decide +kernel, rfl⟩
theorem d_X12_lastBroken_7 : DC mX12_lastBroken 7 (.istore_n 2) 1 8 := ⟨by decide +kernel, rfl⟩
theorem d_X12_lastBroken_8 : DC mX12_lastBroken 8 (.iload_n 2) 1 9 := ⟨by decide +kernel, rfl⟩
theorem d_X12_lastBroken_9 : DC mX12_lastBroken 9 (.ifCond .lt 25) 3 12 := ⟨by decide +kernel, rfl⟩
theorem d_X12_lastBroken_12 : DC mX12_lastBroken 12 (.aload_n 0) 1 13 := ⟨by decide +kernel, rfl⟩
theorem d_X12_lastBroken_13 : DC mX12_lastBroken 13 (.aload_n 0) 1 14 := ⟨by decide +kernel, rfl⟩
theorem d_X12_lastBroken_14 : DC mX12_lastBroken 14 (.iload_n 1) 1 15 := ⟨by decide +kernel, rfl⟩
theorem d_X12_lastBroken_15 : DC mX12_lastBroken 15 (.iload_n 2) 1 16 := ⟨by decide +kernel, rfl⟩
theorem d_X12_lastBroken_16 : DC mX12_lastBroken 16 (.invokevirtual 117) 3 19 := ⟨by decide +kernel, rfl⟩
theorem d_X12_lastBroken_19 : DC mX12_lastBroken 19 (.invokevirtual 171) 3 22 := ⟨by decide +kernel, rfl⟩
theorem d_X12_lastBroken_22 : DC mX12_lastBroken 22 (.iconst (-1)) 1 23 := ⟨by decide +kernel, rfl⟩
theorem d_X12_lastBroken_23 : DC mX12_lastBroken 23 (.if_icmp .eq 5) 3 26 := ⟨by decide +kernel, rfl⟩
theorem d_X12_lastBroken_26 : DC mX12_lastBroken 26 (.iload_n 2) 1 27 := ⟨by decide +kernel, rfl⟩
theorem d_X12_lastBroken_27 : DC mX12_lastBroken 27 (.ireturn) 1 28 := ⟨by decide +kernel, rfl⟩
theorem d_X12_lastBroken_28 : DC mX12_lastBroken 28 (.iinc 2 (-1)) 3 31 := ⟨by decide +kernel, rfl⟩
theorem d_X12_lastBroken_31 : DC mX12_lastBroken 31 (.goto (-23)) 3 34 := ⟨by decide +kernel, rfl⟩
theorem d_X12_lastBroken_34 : DC mX12_lastBroken 34 (.iconst (-1)) 1 35 := ⟨by decide +kernel, rfl⟩
theorem d_X12_lastBroken_35 : DC mX12_lastBroken 35 (.ireturn) 1 36 := ⟨by decide +kernel, rfl⟩
theorem d_X12_steps_0 : DC mX12_steps 0 (.aload_n 0) 1 1 := ⟨by decide +kernel, rfl⟩
theorem d_X12_steps_1 : DC mX12_steps 1 (.iload_n 1) 1 2 := ⟨by decide +kernel, rfl⟩
theorem d_X12_steps_2 : DC mX12_steps 2 (.iload_n 2) 1 3 := ⟨by decide +kernel, rfl⟩
theorem d_X12_steps_3 : DC mX12_steps 3 (.invokevirtual 117) 3 6 := ⟨by decide +kernel, rfl⟩
theorem d_X12_steps_6 : DC mX12_steps 6 (.istore_n 3) 1 7 := ⟨by decide +kernel, rfl⟩
theorem d_X12_steps_7 : DC mX12_steps 7 (.aload_n 0) 1 8 := ⟨by decide +kernel, rfl⟩
theorem d_X12_steps_8 : DC mX12_steps 8 (.iload_n 1) 1 9 := ⟨by decide +kernel, rfl⟩
theorem d_X12_steps_9 : DC mX12_steps 9 (.iload_n 2) 1 10 := ⟨by decide +kernel, rfl⟩
theorem d_X12_steps_10 : DC mX12_steps 10 (.invokevirtual 132) 3 13 := ⟨by decide +kernel, rfl⟩
theorem d_X12_steps_13 : DC mX12_steps 13 (.i2l) 1 14 := ⟨by decide +kernel, rfl⟩
theorem d_X12_steps_14 : DC mX12_steps 14 (.lstore 4) 2 16 := ⟨by decide +kernel, rfl⟩
theorem d_X12_steps_16 : DC mX12_steps 16 (.aload_n 0) 1 17 := ⟨by decide +kernel, rfl⟩
theorem d_X12_steps_17 : DC mX12_steps 17 (.iload_n 3) 1 18 := ⟨by decide +kernel, rfl⟩
theorem d_X12_steps_18 : DC mX12_steps 18 (.invokevirtual 171) 3 21 := ⟨by decide +kernel, rfl⟩
theorem d_X12_steps_21 : DC mX12_steps 21 (.istore 6) 2 23 := ⟨by decide +kernel, rfl⟩
theorem d_X12_steps_23 : DC mX12_steps 23 (.iload_n 3) 1 24 := ⟨by decide +kernel, rfl⟩
theorem d_X12_steps_24 : DC mX12_steps 24 (.iload 6) 2 26 := ⟨by decide +kernel, rfl⟩
theorem d_X12_steps_26 : DC mX12_steps 26 (.invokestatic 135) 3 29 := ⟨by decide +kernel, rfl⟩
theorem d_X12_steps_29 : DC mX12_steps 29 (.istore 7) 2 31 := ⟨by decide +kernel, rfl⟩
theorem d_X12_steps_31 : DC mX12_steps 31 (.iload_n 3) 1 32 := ⟨by decide +kernel, rfl⟩
theorem d_X12_steps_32 : DC mX12_steps 32 (.iload 6) 2 34 := ⟨by decide +kernel, rfl⟩
theorem d_X12_steps_34 : DC mX12_steps 34 (.iconst 1) 1 35 := ⟨by decide +kernel, rfl⟩
theorem d_X12_steps_35 : DC mX12_steps 35 (.iadd) 1 36 := ⟨by decide +kernel, rfl⟩
theorem d_X12_steps_36 : DC mX12_steps 36 (.invokestatic 135) 3 39 := ⟨by decide +kernel, rfl⟩
theorem d_X12_steps_39 : DC mX12_steps 39 (.istore 8) 2 41 := ⟨by decide +kernel, rfl⟩
theorem d_X12_steps_41 : DC mX12_steps 41 (.iconst 0) 1 42 := ⟨by decide +kernel, rfl⟩
theorem d_X12_steps_42 : DC mX12_steps 42 (.istore 9) 2 44 := ⟨by decide +kernel, rfl⟩
theorem d_X12_steps_44 : DC mX12_steps 44 (.iload 9) 2 46 := ⟨by decide +kernel, rfl⟩
theorem d_X12_steps_46 : DC mX12_steps 46 (.iconst 3) 1 47 := ⟨by decide +kernel, rfl⟩
theorem d_X12_steps_47 : DC mX12_steps 47 (.if_icmp .ge 47) 3 50 := ⟨by decide +kernel, rfl⟩
theorem d_X12_steps_50 : DC mX12_steps 50 (.aload_n 0) 1 51 := ⟨by decide +kernel, rfl⟩
theorem d_X12_steps_51 : DC mX12_steps 51 (.getfield 36) 3 54 := ⟨by decide +kernel, rfl⟩
theorem d_X12_steps_54 : DC mX12_steps 54 (.iload 9) 2 56 := ⟨by decide +kernel, rfl⟩
theorem d_X12_steps_56 : DC mX12_steps 56 (.aload_n 0) 1 57 := ⟨by decide +kernel, rfl⟩
theorem d_X12_steps_57 : DC mX12_steps 57 (.getfield 17) 3 60 := ⟨by decide +kernel, rfl⟩
theorem d_X12_steps_60 : DC mX12_steps 60 (.iconst 3) 1 61 := ⟨by decide +kernel, rfl⟩
theorem d_X12_steps_61 : DC mX12_steps 61 (.iload 7) 2 63 := ⟨by decide +kernel, rfl⟩
theorem d_X12_steps_63 : DC mX12_steps 63 (.imul) 1 64 := ⟨by decide +kernel, rfl⟩
theorem d_X12_steps_64 : DC mX12_steps 64 (.iload 9) 2 66 := ⟨by decide +kernel, rfl⟩
theorem d_X12_steps_66 : DC mX12_steps 66 (.iadd) 1 67 := ⟨by decide +kernel, rfl⟩
theorem d_X12_steps_67 : DC mX12_steps 67 (.iaload) 1 68 := ⟨by decide +kernel, rfl⟩
theorem d_X12_steps_68 : DC mX12_steps 68 (.iastore) 1 69 := ⟨by decide +kernel, rfl⟩
theorem d_X12_steps_69 : DC mX12_steps 69 (.aload_n 0) 1 70 := ⟨by decide +kernel, rfl⟩
theorem d_X12_steps_70 : DC mX12_steps 70 (.getfield 39) 3 73 := ⟨by decide +kernel, rfl⟩
theorem d_X12_steps_73 : DC mX12_steps 73 (.iload 9) 2 75 := ⟨by decide +kernel, rfl⟩
theorem d_X12_steps_75 : DC mX12_steps 75 (.aload_n 0) 1 76 := ⟨by decide +kernel, rfl⟩
theorem d_X12_steps_76 : DC mX12_steps 76 (.getfield 17) 3 79 := ⟨by decide +kernel, rfl⟩
theorem d_X12_steps_79 : DC mX12_steps 79 (.iconst 3) 1 80 := ⟨by decide +kernel, rfl⟩
theorem d_X12_steps_80 : DC mX12_steps 80 (.iload 8) 2 82 := ⟨by decide +kernel, rfl⟩
theorem d_X12_steps_82 : DC mX12_steps 82 (.imul) 1 83 := ⟨by decide +kernel, rfl⟩
theorem d_X12_steps_83 : DC mX12_steps 83 (.iload 9) 2 85 := ⟨by decide +kernel, rfl⟩
theorem d_X12_steps_85 : DC mX12_steps 85 (.iadd) 1 86 := ⟨by decide +kernel, rfl⟩
theorem d_X12_steps_86 : DC mX12_steps 86 (.iaload) 1 87 := ⟨by decide +kernel, rfl⟩
theorem d_X12_steps_87 : DC mX12_steps 87 (.iastore) 1 88 := ⟨by decide +kernel, rfl⟩
theorem d_X12_steps_88 : DC mX12_steps 88 (.iinc 9 1) 3 91 := ⟨by decide +kernel, rfl⟩
theorem d_X12_steps_91 : DC mX12_steps 91 (.goto (-47)) 3 94 := ⟨by decide +kernel, rfl⟩
theorem d_X12_steps_94 : DC mX12_steps 94 (.iconst 0) 1 95 := ⟨by decide +kernel, rfl⟩
theorem d_X12_steps_95 : DC mX12_steps 95 (.istore 9) 2 97 := ⟨by decide +kernel, rfl⟩
theorem d_X12_steps_97 : DC mX12_steps 97 (.iconst 0) 1 98 := ⟨by decide +kernel, rfl⟩
theorem d_X12_steps_98 : DC mX12_steps 98 (.istore 10) 2 100 := ⟨by decide +kernel, rfl⟩
theorem d_X12_steps_100 : DC mX12_steps 100 (.iload 10) 2 102 := ⟨by decide +kernel, rfl⟩
theorem d_X12_steps_102 : DC mX12_steps 102 (.iload_n 3) 1 103 := ⟨by decide +kernel, rfl⟩
theorem d_X12_steps_103 : DC mX12_steps 103 (.invokestatic 138) 3 106 := ⟨by decide +kernel, rfl⟩
theorem d_X12_steps_106 : DC mX12_steps 106 (.if_icmp .ge 44) 3 109 := ⟨by decide +kernel, rfl⟩
theorem d_X12_steps_109 : DC mX12_steps 109 (.iload 10) 2 111 := ⟨by decide +kernel, rfl⟩
theorem d_X12_steps_111 : DC mX12_steps 111 (.iload 6) 2 113 := ⟨by decide +kernel, rfl⟩
theorem d_X12_steps_113 : DC mX12_steps 113 (.if_icmp .eq 31) 3 116 := ⟨by decide +kernel, rfl⟩
theorem d_X12_steps_116 : DC mX12_steps 116 (.iload 10) 2 118 := ⟨by decide +kernel, rfl⟩
theorem d_X12_steps_118 : DC mX12_steps 118 (.iload 6) 2 120 := ⟨by decide +kernel, rfl⟩
theorem d_X12_steps_120 : DC mX12_steps 120 (.iconst 1) 1 121 := ⟨by decide +kernel, rfl⟩
theorem d_X12_steps_121 : DC mX12_steps 121 (.iadd) 1 122 := ⟨by decide +kernel, rfl⟩
theorem d_X12_steps_122 : DC mX12_steps 122 (.if_icmp .ne 6) 3 125 := ⟨by decide +kernel, rfl⟩
theorem d_X12_steps_125 : DC mX12_steps 125 (.goto 19) 3 128 := ⟨by decide +kernel, rfl⟩
theorem d_X12_steps_128 : DC mX12_steps 128 (.aload_n 0) 1 129 := ⟨by decide +kernel, rfl⟩
theorem d_X12_steps_129 : DC mX12_steps 129 (.getfield 51) 3 132 := ⟨by decide +kernel, rfl⟩
theorem d_X12_steps_132 : DC mX12_steps 132 (.iload 9) 2 134 := ⟨by decide +kernel, rfl⟩
theorem d_X12_steps_134 : DC mX12_steps 134 (.iload_n 3) 1 135 := ⟨by decide +kernel, rfl⟩
theorem d_X12_steps_135 : DC mX12_steps 135 (.iload 10) 2 137 := ⟨by decide +kernel, rfl⟩
theorem d_X12_steps_137 : DC mX12_steps 137 (.invokestatic 135) 3 140 := ⟨by decide +kernel, rfl⟩
theorem d_X12_steps_140 : DC mX12_steps 140 (.iastore) 1 141 := ⟨by decide +kernel, rfl⟩
theorem d_X12_steps_141 : DC mX12_steps 141 (.iinc 9 1) 3 144 := ⟨by decide +kernel, rfl⟩
theorem d_X12_steps_144 : DC mX12_steps 144 (.iinc 10 1) 3 147 := ⟨by decide +kernel, rfl⟩
theorem d_X12_steps_147 : DC mX12_steps 147 (.goto (-47)) 3 150 := ⟨by decide +kernel, rfl⟩
theorem d_X12_steps_150 : DC mX12_steps 150 (.aload_n 0) 1 151 := ⟨by decide +kernel, rfl⟩
theorem d_X12_steps_151 : DC mX12_steps 151 (.aload_n 0) 1 152 := ⟨by decide +kernel, rfl⟩
theorem d_X12_steps_152 : DC mX12_steps 152 (.iload 7) 2 154 := ⟨by decide +kernel, rfl⟩
theorem d_X12_steps_154 : DC mX12_steps 154 (.iload 8) 2 156 := ⟨by decide +kernel, rfl⟩
theorem d_X12_steps_156 : DC mX12_steps 156 (.invokevirtual 151) 3 159 := ⟨by decide +kernel, rfl⟩
theorem d_X12_steps_159 : DC mX12_steps 159 (.iload 9) 2 161 := ⟨by decide +kernel, rfl⟩
theorem d_X12_steps_161 : DC mX12_steps 161 (.lload 4) 2 163 := ⟨by decide +kernel, rfl⟩
theorem d_X12_steps_163 : DC mX12_steps 163 (.lneg) 1 164 := ⟨by decide +kernel, rfl⟩
theorem d_X12_steps_164 : DC mX12_steps 164 (.iload_n 1) 1 165 := ⟨by decide +kernel, rfl⟩
theorem d_X12_steps_165 : DC mX12_steps 165 (.invokevirtual 174) 3 168 := ⟨by decide +kernel, rfl⟩
theorem d_X12_steps_168 : DC mX12_steps 168 (.return_) 1 169 := ⟨by decide +kernel, rfl⟩
theorem d_X12_straightens_0 : DC mX12_straightens 0 (.iconst 0) 1 1 := ⟨by decide +kernel, rfl⟩
theorem d_X12_straightens_1 : DC mX12_straightens 1 (.istore_n 2) 1 2 := ⟨by decide +kernel, rfl⟩
theorem d_X12_straightens_2 : DC mX12_straightens 2 (.aload_n 0) 1 3 := ⟨by decide +kernel, rfl⟩
theorem d_X12_straightens_3 : DC mX12_straightens 3 (.iload_n 1) 1 4 := ⟨by decide +kernel, rfl⟩
theorem d_X12_straightens_4 : DC mX12_straightens 4 (.invokevirtual 178) 3 7 := ⟨by decide +kernel, rfl⟩
theorem d_X12_straightens_7 : DC mX12_straightens 7 (.istore_n 3) 1 8 := ⟨by decide +kernel, rfl⟩
theorem d_X12_straightens_8 : DC mX12_straightens 8 (.iload_n 3) 1 9 := ⟨by decide +kernel, rfl⟩
theorem d_X12_straightens_9 : DC mX12_straightens 9 (.iconst (-1)) 1 10 := ⟨by decide +kernel, rfl⟩
theorem d_X12_straightens_10 : DC mX12_straightens 10 (.if_icmp .eq 43) 3 13 := ⟨by decide +kernel, rfl⟩
theorem d_X12_straightens_13 : DC mX12_straightens 13 (.aload_n 0) 1 14 := ⟨by decide +kernel, rfl⟩
theorem d_X12_straightens_14 : DC mX12_straightens 14 (.getfield 102) 3 17 := ⟨by decide +kernel, rfl⟩
theorem d_X12_straightens_17 : DC mX12_straightens 17 (.ifCond .ne 36) 3 20 := ⟨by decide +kernel, rfl⟩
theorem d_X12_straightens_20 : DC mX12_straightens 20 (.iload_n 2) 1 21 := ⟨by decide +kernel, rfl⟩
theorem d_X12_straightens_21 : DC mX12_straightens 21 (.sipush 900) 3 24 := ⟨by decide +kernel, rfl⟩
theorem d_X12_straightens_24 : DC mX12_straightens 24 (.if_icmp .ne 11) 3 27 := ⟨by decide +kernel, rfl⟩
theorem d_X12_straightens_27 : DC mX12_straightens 27 (.aload_n 0) 1 28 := ⟨by decide +kernel, rfl⟩
theorem d_X12_straightens_28 : DC mX12_straightens 28 (.iconst 3) 1 29 := ⟨by decide +kernel, rfl⟩
theorem d_X12_straightens_29 : DC mX12_straightens 29 (.invokevirtual 125) 3 32 := ⟨by decide +kernel, rfl⟩
theorem d_X12_straightens_32 : DC mX12_straightens 32 (.pop) 1 33 := ⟨by decide +kernel, rfl⟩
theorem d_X12_straightens_33 : DC mX12_straightens 33 (.iload_n 2) 1 34 := ⟨by decide +kernel, rfl⟩
theorem d_X12_straightens_34 : DC mX12_straightens 34 (.ireturn) 1 35 := ⟨by decide +kernel, rfl⟩
theorem d_X12_straightens_35 : DC mX12_straightens 35 (.aload_n 0) 1 36 := ⟨by decide +kernel, rfl⟩
theorem d_X12_straightens_36 : DC mX12_straightens 36 (.iload_n 1) 1 37 := ⟨by decide +kernel, rfl⟩
theorem d_X12_straightens_37 : DC mX12_straightens 37 (.iload_n 3) 1 38 := ⟨by decide +kernel, rfl⟩
theorem d_X12_straightens_38 : DC mX12_straightens 38 (.invokevirtual 181) 3 41 := ⟨by decide +kernel, rfl⟩
theorem d_X12_straightens_41 : DC mX12_straightens 41 (.iinc 2 1) 3 44 := ⟨by decide +kernel, rfl⟩
theorem d_X12_straightens_44 : DC mX12_straightens 44 (.aload_n 0) 1 45 := ⟨by decide +kernel, rfl⟩
theorem d_X12_straightens_45 : DC mX12_straightens 45 (.iload_n 1) 1 46 := ⟨by decide +kernel, rfl⟩
theorem d_X12_straightens_46 : DC mX12_straightens 46 (.invokevirtual 178) 3 49 := ⟨by decide +kernel, rfl⟩
theorem d_X12_straightens_49 : DC mX12_straightens 49 (.istore_n 3) 1 50 := ⟨by decide +kernel, rfl⟩
theorem d_X12_straightens_50 : DC mX12_straightens 50 (.goto (-42)) 3 53 := ⟨by decide +kernel, rfl⟩
theorem d_X12_straightens_53 : DC mX12_straightens 53 (.iload_n 2) 1 54 := ⟨by decide +kernel, rfl⟩
theorem d_X12_straightens_54 : DC mX12_straightens 54 (.ireturn) 1 55 := ⟨by decide +kernel, rfl⟩
theorem d_X12_areAlike_0 : DC mX12_areAlike 0 (.iconst 0) 1 1 := ⟨by decide +kernel, rfl⟩
theorem d_X12_areAlike_1 : DC mX12_areAlike 1 (.istore_n 3) 1 2 := ⟨by decide +kernel, rfl⟩
theorem d_X12_areAlike_2 : DC mX12_areAlike 2 (.iload_n 3) 1 3 := ⟨by decide +kernel, rfl⟩
theorem d_X12_areAlike_3 : DC mX12_areAlike 3 (.iconst 2) 1 4 := ⟨by decide +kernel, rfl⟩
theorem d_X12_areAlike_4 : DC mX12_areAlike 4 (.aload_n 0) 1 5 := ⟨by decide +kernel, rfl⟩
theorem d_X12_areAlike_5 : DC mX12_areAlike 5 (.iload_n 1) 1 6 := ⟨by decide +kernel, rfl⟩
theorem d_X12_areAlike_6 : DC mX12_areAlike 6 (.invokevirtual 113) 3 9 := ⟨by decide +kernel, rfl⟩
theorem d_X12_areAlike_9 : DC mX12_areAlike 9 (.imul) 1 10 := ⟨by decide +kernel, rfl⟩
theorem d_X12_areAlike_10 : DC mX12_areAlike 10 (.if_icmp .gt 38) 3 13 := ⟨by decide +kernel, rfl⟩
theorem d_X12_areAlike_13 : DC mX12_areAlike 13 (.aload_n 0) 1 14 := ⟨by decide +kernel, rfl⟩
theorem d_X12_areAlike_14 : DC mX12_areAlike 14 (.getfield 30) 3 17 := ⟨by decide +kernel, rfl⟩
theorem d_X12_areAlike_17 : DC mX12_areAlike 17 (.sipush 161) 3 20 := ⟨by decide +kernel, rfl⟩
theorem d_X12_areAlike_20 : DC mX12_areAlike 20 (.iload_n 1) 1 21 := ⟨by decide +kernel, rfl⟩
theorem d_X12_areAlike_21 : DC mX12_areAlike 21 (.imul) 1 22 := ⟨by decide +kernel, rfl⟩
theorem d_X12_areAlike_22 : DC mX12_areAlike 22 (.iload_n 3) 1 23 := ⟨by decide +kernel, rfl⟩
theorem d_X12_areAlike_23 : DC mX12_areAlike 23 (.iadd) 1 24 := ⟨by decide +kernel, rfl⟩
theorem d_X12_areAlike_24 : DC mX12_areAlike 24 (.iaload) 1 25 := ⟨by decide +kernel, rfl⟩
theorem d_X12_areAlike_25 : DC mX12_areAlike 25 (.aload_n 0) 1 26 := ⟨by decide +kernel, rfl⟩
theorem d_X12_areAlike_26 : DC mX12_areAlike 26 (.getfield 30) 3 29 := ⟨by decide +kernel, rfl⟩
theorem d_X12_areAlike_29 : DC mX12_areAlike 29 (.sipush 161) 3 32 := ⟨by decide +kernel, rfl⟩
theorem d_X12_areAlike_32 : DC mX12_areAlike 32 (.iload_n 2) 1 33 := ⟨by decide +kernel, rfl⟩
theorem d_X12_areAlike_33 : DC mX12_areAlike 33 (.imul) 1 34 := ⟨by decide +kernel, rfl⟩
theorem d_X12_areAlike_34 : DC mX12_areAlike 34 (.iload_n 3) 1 35 := ⟨by decide +kernel, rfl⟩
theorem d_X12_areAlike_35 : DC mX12_areAlike 35 (.iadd) 1 36 := ⟨by decide +kernel, rfl⟩
theorem d_X12_areAlike_36 : DC mX12_areAlike 36 (.iaload) 1 37 := ⟨by decide +kernel, rfl⟩
theorem d_X12_areAlike_37 : DC mX12_areAlike 37 (.if_icmp .eq 5) 3 40 := ⟨by decide +kernel, rfl⟩
theorem d_X12_areAlike_40 : DC mX12_areAlike 40 (.iconst 0) 1 41 := ⟨by decide +kernel, rfl⟩
theorem d_X12_areAlike_41 : DC mX12_areAlike 41 (.ireturn) 1 42 := ⟨by decide +kernel, rfl⟩
theorem d_X12_areAlike_42 : DC mX12_areAlike 42 (.iinc 3 1) 3 45 := ⟨by decide +kernel, rfl⟩
theorem d_X12_areAlike_45 : DC mX12_areAlike 45 (.goto (-43)) 3 48 := ⟨by decide +kernel, rfl⟩
theorem d_X12_areAlike_48 : DC mX12_areAlike 48 (.iconst 1) 1 49 := ⟨by decide +kernel, rfl⟩
theorem d_X12_areAlike_49 : DC mX12_areAlike 49 (.ireturn) 1 50 := ⟨by decide +kernel, rfl⟩
theorem d_X12_isShelf_0 : DC mX12_isShelf 0 (.iload_n 0) 1 1 := ⟨by decide +kernel, rfl⟩
theorem d_X12_isShelf_1 : DC mX12_isShelf 1 (.i2l) 1 2 := ⟨by decide +kernel, rfl⟩
theorem d_X12_isShelf_2 : DC mX12_isShelf 2 (.lconst 0) 1 3 := ⟨by decide +kernel, rfl⟩
theorem d_X12_isShelf_3 : DC mX12_isShelf 3 (.ldc2_w 185) 3 6 := ⟨by decide +kernel, rfl⟩
theorem d_X12_isShelf_6 : DC mX12_isShelf 6 (.invokestatic 91) 3 9 := ⟨by decide +kernel, rfl⟩
theorem d_X12_isShelf_9 : DC mX12_isShelf 9 (.ireturn) 1 10 := ⟨by decide +kernel, rfl⟩
theorem d_X12_codeOf_0 : DC mX12_codeOf 0 (.iload_n 1) 1 1 := ⟨by decide +kernel, rfl⟩
theorem d_X12_codeOf_1 : DC mX12_codeOf 1 (.iconst 4) 1 2 := ⟨by decide +kernel, rfl⟩
theorem d_X12_codeOf_2 : DC mX12_codeOf 2 (.if_icmp .ne 8) 3 5 := ⟨by decide +kernel, rfl⟩
theorem d_X12_codeOf_5 : DC mX12_codeOf 5 (.bipush (-7)) 2 7 := ⟨by decide +kernel, rfl⟩
theorem d_X12_codeOf_7 : DC mX12_codeOf 7 (.goto 5) 3 10 := ⟨by decide +kernel, rfl⟩
theorem d_X12_codeOf_10 : DC mX12_codeOf 10 (.bipush (-4)) 2 12 := ⟨by decide +kernel, rfl⟩
theorem d_X12_codeOf_12 : DC mX12_codeOf 12 (.ireturn) 1 13 := ⟨by decide +kernel, rfl⟩
theorem d_X12_becomes_0 : DC mX12_becomes 0 (.aload_n 0) 1 1 := ⟨by decide +kernel, rfl⟩
theorem d_X12_becomes_1 : DC mX12_becomes 1 (.invokevirtual 196) 3 4 := ⟨by decide +kernel, rfl⟩
theorem d_X12_becomes_4 : DC mX12_becomes 4 (.aload_n 0) 1 5 := ⟨by decide +kernel, rfl⟩
theorem d_X12_becomes_5 : DC mX12_becomes 5 (.getfield 30) 3 8 := ⟨by decide +kernel, rfl⟩
theorem d_X12_becomes_8 : DC mX12_becomes 8 (.iconst 0) 1 9 := ⟨by decide +kernel, rfl⟩
theorem d_X12_becomes_9 : DC mX12_becomes 9 (.aload_n 0) 1 10 := ⟨by decide +kernel, rfl⟩
theorem d_X12_becomes_10 : DC mX12_becomes 10 (.getfield 20) 3 13 := ⟨by decide +kernel, rfl⟩
theorem d_X12_becomes_13 : DC mX12_becomes 13 (.sipush 161) 3 16 := ⟨by decide +kernel, rfl⟩
theorem d_X12_becomes_16 : DC mX12_becomes 16 (.iload_n 1) 1 17 := ⟨by decide +kernel, rfl⟩
theorem d_X12_becomes_17 : DC mX12_becomes 17 (.imul) 1 18 := ⟨by decide +kernel, rfl⟩
theorem d_X12_becomes_18 : DC mX12_becomes 18 (.sipush 161) 3 21 := ⟨by decide +kernel, rfl⟩
theorem d_X12_becomes_21 : DC mX12_becomes 21 (.invokestatic 98) 3 24 := ⟨by decide +kernel, rfl⟩
theorem d_X12_becomes_24 : DC mX12_becomes 24 (.aload_n 0) 1 25 := ⟨by decide +kernel, rfl⟩
theorem d_X12_becomes_25 : DC mX12_becomes 25 (.iconst 0) 1 26 := ⟨by decide +kernel, rfl⟩
theorem d_X12_becomes_26 : DC mX12_becomes 26 (.invokevirtual 113) 3 29 := ⟨by decide +kernel, rfl⟩
theorem d_X12_becomes_29 : DC mX12_becomes 29 (.ireturn) 1 30 := ⟨by decide +kernel, rfl⟩
theorem d_X12_ends_0 : DC mX12_ends 0 (.aload_n 0) 1 1 := ⟨by decide +kernel, rfl⟩
theorem d_X12_ends_1 : DC mX12_ends 1 (.aload_n 0) 1 2 := ⟨by decide +kernel, rfl⟩
theorem d_X12_ends_2 : DC mX12_ends 2 (.getfield 102) 3 5 := ⟨by decide +kernel, rfl⟩
theorem d_X12_ends_5 : DC mX12_ends 5 (.putfield 187) 3 8 := ⟨by decide +kernel, rfl⟩
theorem d_X12_ends_8 : DC mX12_ends 8 (.aload_n 0) 1 9 := ⟨by decide +kernel, rfl⟩
theorem d_X12_ends_9 : DC mX12_ends 9 (.getfield 102) 3 12 := ⟨by decide +kernel, rfl⟩
theorem d_X12_ends_12 : DC mX12_ends 12 (.ifCond .ne 11) 3 15 := ⟨by decide +kernel, rfl⟩
theorem d_X12_ends_15 : DC mX12_ends 15 (.aload_n 0) 1 16 := ⟨by decide +kernel, rfl⟩
theorem d_X12_ends_16 : DC mX12_ends 16 (.iload_n 1) 1 17 := ⟨by decide +kernel, rfl⟩
theorem d_X12_ends_17 : DC mX12_ends 17 (.invokevirtual 190) 3 20 := ⟨by decide +kernel, rfl⟩
theorem d_X12_ends_20 : DC mX12_ends 20 (.goto 11) 3 23 := ⟨by decide +kernel, rfl⟩
theorem d_X12_ends_23 : DC mX12_ends 23 (.aload_n 0) 1 24 := ⟨by decide +kernel, rfl⟩
theorem d_X12_ends_24 : DC mX12_ends 24 (.aload_n 0) 1 25 := ⟨by decide +kernel, rfl⟩
theorem d_X12_ends_25 : DC mX12_ends 25 (.getfield 102) 3 28 := ⟨by decide +kernel, rfl⟩
theorem d_X12_ends_28 : DC mX12_ends 28 (.invokevirtual 193) 3 31 := ⟨by decide +kernel, rfl⟩
theorem d_X12_ends_31 : DC mX12_ends 31 (.ireturn) 1 32 := ⟨by decide +kernel, rfl⟩
theorem d_X12_refused_0 : DC mX12_refused 0 (.aload_n 0) 1 1 := ⟨by decide +kernel, rfl⟩
theorem d_X12_refused_1 : DC mX12_refused 1 (.iconst 0) 1 2 := ⟨by decide +kernel, rfl⟩
theorem d_X12_refused_2 : DC mX12_refused 2 (.putfield 187) 3 5 := ⟨by decide +kernel, rfl⟩
theorem d_X12_refused_5 : DC mX12_refused 5 (.iload_n 1) 1 6 := ⟨by decide +kernel, rfl⟩
theorem d_X12_refused_6 : DC mX12_refused 6 (.ireturn) 1 7 := ⟨by decide +kernel, rfl⟩
theorem d_X12_why_0 : DC mX12_why 0 (.aload_n 0) 1 1 := ⟨by decide +kernel, rfl⟩
theorem d_X12_why_1 : DC mX12_why 1 (.iconst 0) 1 2 := ⟨by decide +kernel, rfl⟩
theorem d_X12_why_2 : DC mX12_why 2 (.putfield 1) 3 5 := ⟨by decide +kernel, rfl⟩
theorem d_X12_why_5 : DC mX12_why 5 (.aload_n 0) 1 6 := ⟨by decide +kernel, rfl⟩
theorem d_X12_why_6 : DC mX12_why 6 (.getfield 187) 3 9 := ⟨by decide +kernel, rfl⟩
theorem d_X12_why_9 : DC mX12_why 9 (.ireturn) 1 10 := ⟨by decide +kernel, rfl⟩
theorem d_X12_clear_0 : DC mX12_clear 0 (.aload_n 0) 1 1 := ⟨by decide +kernel, rfl⟩
theorem d_X12_clear_1 : DC mX12_clear 1 (.iconst 0) 1 2 := ⟨by decide +kernel, rfl⟩
theorem d_X12_clear_2 : DC mX12_clear 2 (.putfield 1) 3 5 := ⟨by decide +kernel, rfl⟩
theorem d_X12_clear_5 : DC mX12_clear 5 (.iload_n 1) 1 6 := ⟨by decide +kernel, rfl⟩
theorem d_X12_clear_6 : DC mX12_clear 6 (.invokestatic 199) 3 9 := ⟨by decide +kernel, rfl⟩
theorem d_X12_clear_9 : DC mX12_clear 9 (.ifCond .ne 6) 3 12 := ⟨by decide +kernel, rfl⟩
theorem d_X12_clear_12 : DC mX12_clear 12 (.bipush (-2)) 2 14 := ⟨by decide +kernel, rfl⟩
theorem d_X12_clear_14 : DC mX12_clear 14 (.ireturn) 1 15 := ⟨by decide +kernel, rfl⟩
theorem d_X12_clear_15 : DC mX12_clear 15 (.aload_n 0) 1 16 := ⟨by decide +kernel, rfl⟩
theorem d_X12_clear_16 : DC mX12_clear 16 (.invokevirtual 202) 3 19 := ⟨by decide +kernel, rfl⟩
theorem d_X12_clear_19 : DC mX12_clear 19 (.aload_n 0) 1 20 := ⟨by decide +kernel, rfl⟩
theorem d_X12_clear_20 : DC mX12_clear 20 (.getfield 20) 3 23 := ⟨by decide +kernel, rfl⟩
theorem d_X12_clear_23 : DC mX12_clear 23 (.sipush 161) 3 26 := ⟨by decide +kernel, rfl⟩
theorem d_X12_clear_26 : DC mX12_clear 26 (.iload_n 1) 1 27 := ⟨by decide +kernel, rfl⟩
theorem d_X12_clear_27 : DC mX12_clear 27 (.imul) 1 28 := ⟨by decide +kernel, rfl⟩
theorem d_X12_clear_28 : DC mX12_clear 28 (.iaload) 1 29 := ⟨by decide +kernel, rfl⟩
theorem d_X12_clear_29 : DC mX12_clear 29 (.istore_n 2) 1 30 := ⟨by decide +kernel, rfl⟩
theorem d_X12_clear_30 : DC mX12_clear 30 (.aload_n 0) 1 31 := ⟨by decide +kernel, rfl⟩
theorem d_X12_clear_31 : DC mX12_clear 31 (.iload_n 1) 1 32 := ⟨by decide +kernel, rfl⟩
theorem d_X12_clear_32 : DC mX12_clear 32 (.invokevirtual 190) 3 35 := ⟨by decide +kernel, rfl⟩
theorem d_X12_clear_35 : DC mX12_clear 35 (.istore_n 3) 1 36 := ⟨by decide +kernel, rfl⟩
theorem d_X12_clear_36 : DC mX12_clear 36 (.iload_n 2) 1 37 := ⟨by decide +kernel, rfl⟩
theorem d_X12_clear_37 : DC mX12_clear 37 (.ireturn) 1 38 := ⟨by decide +kernel, rfl⟩
theorem d_X12_copy_0 : DC mX12_copy 0 (.aload_n 0) 1 1 := ⟨by decide +kernel, rfl⟩
theorem d_X12_copy_1 : DC mX12_copy 1 (.iconst 0) 1 2 := ⟨by decide +kernel, rfl⟩
theorem d_X12_copy_2 : DC mX12_copy 2 (.putfield 1) 3 5 := ⟨by decide +kernel, rfl⟩
theorem d_X12_copy_5 : DC mX12_copy 5 (.iload_n 1) 1 6 := ⟨by decide +kernel, rfl⟩
theorem d_X12_copy_6 : DC mX12_copy 6 (.invokestatic 199) 3 9 := ⟨by decide +kernel, rfl⟩
theorem d_X12_copy_9 : DC mX12_copy 9 (.ifCond .eq 10) 3 12 := ⟨by decide +kernel, rfl⟩
theorem d_X12_copy_12 : DC mX12_copy 12 (.iload_n 2) 1 13 := ⟨by decide +kernel, rfl⟩
theorem d_X12_copy_13 : DC mX12_copy 13 (.invokestatic 199) 3 16 := ⟨by decide +kernel, rfl⟩
theorem d_X12_copy_16 : DC mX12_copy 16 (.ifCond .ne 6) 3 19 := ⟨by decide +kernel, rfl⟩
theorem d_X12_copy_19 : DC mX12_copy 19 (.bipush (-2)) 2 21 := ⟨by decide +kernel, rfl⟩
theorem d_X12_copy_21 : DC mX12_copy 21 (.ireturn) 1 22 := ⟨by decide +kernel, rfl⟩
theorem d_X12_copy_22 : DC mX12_copy 22 (.aload_n 0) 1 23 := ⟨by decide +kernel, rfl⟩
theorem d_X12_copy_23 : DC mX12_copy 23 (.invokevirtual 202) 3 26 := ⟨by decide +kernel, rfl⟩
theorem d_X12_copy_26 : DC mX12_copy 26 (.aload_n 0) 1 27 := ⟨by decide +kernel, rfl⟩
theorem d_X12_copy_27 : DC mX12_copy 27 (.iload_n 2) 1 28 := ⟨by decide +kernel, rfl⟩
theorem d_X12_copy_28 : DC mX12_copy 28 (.iconst 0) 1 29 := ⟨by decide +kernel, rfl⟩
theorem d_X12_copy_29 : DC mX12_copy 29 (.invokevirtual 205) 3 32 := ⟨by decide +kernel, rfl⟩
theorem d_X12_copy_32 : DC mX12_copy 32 (.aload_n 0) 1 33 := ⟨by decide +kernel, rfl⟩
theorem d_X12_copy_33 : DC mX12_copy 33 (.iload_n 1) 1 34 := ⟨by decide +kernel, rfl⟩
theorem d_X12_copy_34 : DC mX12_copy 34 (.invokevirtual 190) 3 37 := ⟨by decide +kernel, rfl⟩
theorem d_X12_copy_37 : DC mX12_copy 37 (.ireturn) 1 38 := ⟨by decide +kernel, rfl⟩
theorem d_X12_putsBracket_0 : DC mX12_putsBracket 0 (.aload_n 0) 1 1 := ⟨by decide +kernel, rfl⟩
theorem d_X12_putsBracket_1 : DC mX12_putsBracket 1 (.getfield 13) 3 4 := ⟨by decide +kernel, rfl⟩
theorem d_X12_putsBracket_4 : DC mX12_putsBracket 4 (.bipush 100) 2 6 := ⟨by decide +kernel, rfl⟩
theorem d_X12_putsBracket_6 : DC mX12_putsBracket 6 (.iload_n 1) 1 7 := ⟨by decide +kernel, rfl⟩
theorem d_X12_putsBracket_7 : DC mX12_putsBracket 7 (.imul) 1 8 := ⟨by decide +kernel, rfl⟩
theorem d_X12_putsBracket_8 : DC mX12_putsBracket 8 (.bipush 10) 2 10 := ⟨by decide +kernel, rfl⟩
theorem d_X12_putsBracket_10 : DC mX12_putsBracket 10 (.iload_n 2) 1 11 := ⟨by decide +kernel, rfl⟩
theorem d_X12_putsBracket_11 : DC mX12_putsBracket 11 (.imul) 1 12 := ⟨by decide +kernel, rfl⟩
theorem d_X12_putsBracket_12 : DC mX12_putsBracket 12 (.iadd) 1 13 := ⟨by decide +kernel, rfl⟩
theorem d_X12_putsBracket_13 : DC mX12_putsBracket 13 (.iload_n 3) 1 14 := ⟨by decide +kernel, rfl⟩
theorem d_X12_putsBracket_14 : DC mX12_putsBracket 14 (.iadd) 1 15 := ⟨by decide +kernel, rfl⟩
theorem d_X12_putsBracket_15 : DC mX12_putsBracket 15 (.iaload) 1 16 := ⟨by decide +kernel, rfl⟩
theorem d_X12_putsBracket_16 : DC mX12_putsBracket 16 (.istore 5) 2 18 := ⟨by decide +kernel, rfl⟩
theorem d_X12_putsBracket_18 : DC mX12_putsBracket 18 (.aload_n 0) 1 19 := ⟨by decide +kernel, rfl⟩
theorem d_X12_putsBracket_19 : DC mX12_putsBracket 19 (.getfield 33) 3 22 := ⟨by decide +kernel, rfl⟩
theorem d_X12_putsBracket_22 : DC mX12_putsBracket 22 (.iconst 0) 1 23 := ⟨by decide +kernel, rfl⟩
theorem d_X12_putsBracket_23 : DC mX12_putsBracket 23 (.iload 5) 2 25 := ⟨by decide +kernel, rfl⟩
theorem d_X12_putsBracket_25 : DC mX12_putsBracket 25 (.invokestatic 168) 3 28 := ⟨by decide +kernel, rfl⟩
theorem d_X12_putsBracket_28 : DC mX12_putsBracket 28 (.iastore) 1 29 := ⟨by decide +kernel, rfl⟩
theorem d_X12_putsBracket_29 : DC mX12_putsBracket 29 (.iload 5) 2 31 := ⟨by decide +kernel, rfl⟩
theorem d_X12_putsBracket_31 : DC mX12_putsBracket 31 (.ifCond .eq 27) 3 34 := ⟨by decide +kernel, rfl⟩
theorem d_X12_putsBracket_34 : DC mX12_putsBracket 34 (.aload_n 0) 1 35 := ⟨by decide +kernel, rfl⟩
theorem d_X12_putsBracket_35 : DC mX12_putsBracket 35 (.iload 4) 2 37 := ⟨by decide +kernel, rfl⟩
theorem d_X12_putsBracket_37 : DC mX12_putsBracket 37 (.aload_n 0) 1 38 := ⟨by decide +kernel, rfl⟩
theorem d_X12_putsBracket_38 : DC mX12_putsBracket 38 (.iconst 1) 1 39 := ⟨by decide +kernel, rfl⟩
theorem d_X12_putsBracket_39 : DC mX12_putsBracket 39 (.invokevirtual 141) 3 42 := ⟨by decide +kernel, rfl⟩
theorem d_X12_putsBracket_42 : DC mX12_putsBracket 42 (.iload 5) 2 44 := ⟨by decide +kernel, rfl⟩
theorem d_X12_putsBracket_44 : DC mX12_putsBracket 44 (.ifCond .ge 9) 3 47 := ⟨by decide +kernel, rfl⟩
theorem d_X12_putsBracket_47 : DC mX12_putsBracket 47 (.ldc2_w 166) 3 50 := ⟨by decide +kernel, rfl⟩
theorem d_X12_putsBracket_50 : DC mX12_putsBracket 50 (.goto 4) 3 53 := ⟨by decide +kernel, rfl⟩
theorem d_X12_putsBracket_53 : DC mX12_putsBracket 53 (.lconst 1) 1 54 := ⟨by decide +kernel, rfl⟩
theorem d_X12_putsBracket_54 : DC mX12_putsBracket 54 (.invokevirtual 147) 3 57 := ⟨by decide +kernel, rfl⟩
theorem d_X12_putsBracket_57 : DC mX12_putsBracket 57 (.pop) 1 58 := ⟨by decide +kernel, rfl⟩
theorem d_X12_putsBracket_58 : DC mX12_putsBracket 58 (.return_) 1 59 := ⟨by decide +kernel, rfl⟩
theorem d_X12_bracket_0 : DC mX12_bracket 0 (.aload_n 0) 1 1 := ⟨by decide +kernel, rfl⟩
theorem d_X12_bracket_1 : DC mX12_bracket 1 (.iconst 0) 1 2 := ⟨by decide +kernel, rfl⟩
theorem d_X12_bracket_2 : DC mX12_bracket 2 (.putfield 1) 3 5 := ⟨by decide +kernel, rfl⟩
theorem d_X12_bracket_5 : DC mX12_bracket 5 (.iload_n 1) 1 6 := ⟨by decide +kernel, rfl⟩
theorem d_X12_bracket_6 : DC mX12_bracket 6 (.invokestatic 199) 3 9 := ⟨by decide +kernel, rfl⟩
theorem d_X12_bracket_9 : DC mX12_bracket 9 (.ifCond .eq 25) 3 12 := ⟨by decide +kernel, rfl⟩
theorem d_X12_bracket_12 : DC mX12_bracket 12 (.iload_n 2) 1 13 := ⟨by decide +kernel, rfl⟩
theorem d_X12_bracket_13 : DC mX12_bracket 13 (.invokestatic 208) 3 16 := ⟨by decide +kernel, rfl⟩
theorem d_X12_bracket_16 : DC mX12_bracket 16 (.ifCond .eq 18) 3 19 := ⟨by decide +kernel, rfl⟩
theorem d_X12_bracket_19 : DC mX12_bracket 19 (.iload_n 3) 1 20 := ⟨by decide +kernel, rfl⟩
theorem d_X12_bracket_20 : DC mX12_bracket 20 (.invokestatic 208) 3 23 := ⟨by decide +kernel, rfl⟩
theorem d_X12_bracket_23 : DC mX12_bracket 23 (.ifCond .eq 11) 3 26 := ⟨by decide +kernel, rfl⟩
theorem d_X12_bracket_26 : DC mX12_bracket 26 (.iload 4) 2 28 := ⟨by decide +kernel, rfl⟩
theorem d_X12_bracket_28 : DC mX12_bracket 28 (.invokestatic 208) 3 31 := ⟨by decide +kernel, rfl⟩
theorem d_X12_bracket_31 : DC mX12_bracket 31 (.ifCond .ne 6) 3 34 := ⟨by decide +kernel, rfl⟩
theorem d_X12_bracket_34 : DC mX12_bracket 34 (.bipush (-2)) 2 36 := ⟨by decide +kernel, rfl⟩
theorem d_X12_bracket_36 : DC mX12_bracket 36 (.ireturn) 1 37 := ⟨by decide +kernel, rfl⟩
theorem d_X12_bracket_37 : DC mX12_bracket 37 (.aload_n 0) 1 38 := ⟨by decide +kernel, rfl⟩
theorem d_X12_bracket_38 : DC mX12_bracket 38 (.invokevirtual 202) 3 41 := ⟨by decide +kernel, rfl⟩
theorem d_X12_bracket_41 : DC mX12_bracket 41 (.aload_n 0) 1 42 := ⟨by decide +kernel, rfl⟩
theorem d_X12_bracket_42 : DC mX12_bracket 42 (.iload_n 2) 1 43 := ⟨by decide +kernel, rfl⟩
theorem d_X12_bracket_43 : DC mX12_bracket 43 (.iload_n 3) 1 44 := ⟨by decide +kernel, rfl⟩
theorem d_X12_bracket_44 : DC mX12_bracket 44 (.iload 4) 2 46 := ⟨by decide +kernel, rfl⟩
theorem d_X12_bracket_46 : DC mX12_bracket 46 (.iconst 0) 1 47 := ⟨by decide +kernel, rfl⟩
theorem d_X12_bracket_47 : DC mX12_bracket 47 (.invokevirtual 211) 3 50 := ⟨by decide +kernel, rfl⟩
theorem d_X12_bracket_50 : DC mX12_bracket 50 (.aload_n 0) 1 51 := ⟨by decide +kernel, rfl⟩
theorem d_X12_bracket_51 : DC mX12_bracket 51 (.iload_n 1) 1 52 := ⟨by decide +kernel, rfl⟩
theorem d_X12_bracket_52 : DC mX12_bracket 52 (.invokevirtual 190) 3 55 := ⟨by decide +kernel, rfl⟩
theorem d_X12_bracket_55 : DC mX12_bracket 55 (.ireturn) 1 56 := ⟨by decide +kernel, rfl⟩
theorem d_X12_exchange_0 : DC mX12_exchange 0 (.aload_n 0) 1 1 := ⟨by decide +kernel, rfl⟩
theorem d_X12_exchange_1 : DC mX12_exchange 1 (.iconst 0) 1 2 := ⟨by decide +kernel, rfl⟩
theorem d_X12_exchange_2 : DC mX12_exchange 2 (.putfield 1) 3 5 := ⟨by decide +kernel, rfl⟩
theorem d_X12_exchange_5 : DC mX12_exchange 5 (.iload_n 1) 1 6 := ⟨by decide +kernel, rfl⟩
theorem d_X12_exchange_6 : DC mX12_exchange 6 (.invokestatic 199) 3 9 := ⟨by decide +kernel, rfl⟩
theorem d_X12_exchange_9 : DC mX12_exchange 9 (.ifCond .ne 6) 3 12 := ⟨by decide +kernel, rfl⟩
theorem d_X12_exchange_12 : DC mX12_exchange 12 (.bipush (-2)) 2 14 := ⟨by decide +kernel, rfl⟩
theorem d_X12_exchange_14 : DC mX12_exchange 14 (.ireturn) 1 15 := ⟨by decide +kernel, rfl⟩
theorem d_X12_exchange_15 : DC mX12_exchange 15 (.iload_n 2) 1 16 := ⟨by decide +kernel, rfl⟩
theorem d_X12_exchange_16 : DC mX12_exchange 16 (.i2l) 1 17 := ⟨by decide +kernel, rfl⟩
theorem d_X12_exchange_17 : DC mX12_exchange 17 (.lconst 0) 1 18 := ⟨by decide +kernel, rfl⟩
theorem d_X12_exchange_18 : DC mX12_exchange 18 (.ldc2_w 214) 3 21 := ⟨by decide +kernel, rfl⟩
theorem d_X12_exchange_21 : DC mX12_exchange 21 (.invokestatic 91) 3 24 := ⟨by decide +kernel, rfl⟩
theorem d_X12_exchange_24 : DC mX12_exchange 24 (.ifCond .eq 28) 3 27 := ⟨by decide +kernel, rfl⟩
theorem d_X12_exchange_27 : DC mX12_exchange 27 (.iload_n 3) 1 28 := ⟨by decide +kernel, rfl⟩
theorem d_X12_exchange_28 : DC mX12_exchange 28 (.i2l) 1 29 := ⟨by decide +kernel, rfl⟩
theorem d_X12_exchange_29 : DC mX12_exchange 29 (.lconst 0) 1 30 := ⟨by decide +kernel, rfl⟩
theorem d_X12_exchange_30 : DC mX12_exchange 30 (.ldc2_w 214) 3 33 := ⟨by decide +kernel, rfl⟩
theorem d_X12_exchange_33 : DC mX12_exchange 33 (.invokestatic 91) 3 36 := ⟨by decide +kernel, rfl⟩
theorem d_X12_exchange_36 : DC mX12_exchange 36 (.ifCond .eq 16) 3 39 := ⟨by decide +kernel, rfl⟩
theorem d_X12_exchange_39 : DC mX12_exchange 39 (.iload 4) 2 41 := ⟨by decide +kernel, rfl⟩
theorem d_X12_exchange_41 : DC mX12_exchange 41 (.i2l) 1 42 := ⟨by decide +kernel, rfl⟩
theorem d_X12_exchange_42 : DC mX12_exchange 42 (.lconst 1) 1 43 := ⟨by decide +kernel, rfl⟩
theorem d_X12_exchange_43 : DC mX12_exchange 43 (.ldc2_w 216) 3 46 := ⟨by decide +kernel, rfl⟩
theorem d_X12_exchange_46 : DC mX12_exchange 46 (.invokestatic 91) 3 49 := ⟨by decide +kernel, rfl⟩
theorem d_X12_exchange_49 : DC mX12_exchange 49 (.ifCond .ne 6) 3 52 := ⟨by decide +kernel, rfl⟩
theorem d_X12_exchange_52 : DC mX12_exchange 52 (.bipush (-3)) 2 54 := ⟨by decide +kernel, rfl⟩
theorem d_X12_exchange_54 : DC mX12_exchange 54 (.ireturn) 1 55 := ⟨by decide +kernel, rfl⟩
theorem d_X12_exchange_55 : DC mX12_exchange 55 (.aload_n 0) 1 56 := ⟨by decide +kernel, rfl⟩
theorem d_X12_exchange_56 : DC mX12_exchange 56 (.invokevirtual 202) 3 59 := ⟨by decide +kernel, rfl⟩
theorem d_X12_exchange_59 : DC mX12_exchange 59 (.iconst 0) 1 60 := ⟨by decide +kernel, rfl⟩
theorem d_X12_exchange_60 : DC mX12_exchange 60 (.istore 5) 2 62 := ⟨by decide +kernel, rfl⟩
theorem d_X12_exchange_62 : DC mX12_exchange 62 (.iload 5) 2 64 := ⟨by decide +kernel, rfl⟩
theorem d_X12_exchange_64 : DC mX12_exchange 64 (.iconst 3) 1 65 := ⟨by decide +kernel, rfl⟩
theorem d_X12_exchange_65 : DC mX12_exchange 65 (.if_icmp .ge 61) 3 68 := ⟨by decide +kernel, rfl⟩
theorem d_X12_exchange_68 : DC mX12_exchange 68 (.iload 5) 2 70 := ⟨by decide +kernel, rfl⟩
theorem d_X12_exchange_70 : DC mX12_exchange 70 (.ifCond .ne 8) 3 73 := ⟨by decide +kernel, rfl⟩
theorem d_X12_exchange_73 : DC mX12_exchange 73 (.bipush 100) 2 75 := ⟨by decide +kernel, rfl⟩
theorem d_X12_exchange_75 : DC mX12_exchange 75 (.goto 15) 3 78 := ⟨by decide +kernel, rfl⟩
theorem d_X12_exchange_78 : DC mX12_exchange 78 (.iload 5) 2 80 := ⟨by decide +kernel, rfl⟩
theorem d_X12_exchange_80 : DC mX12_exchange 80 (.iconst 1) 1 81 := ⟨by decide +kernel, rfl⟩
theorem d_X12_exchange_81 : DC mX12_exchange 81 (.if_icmp .ne 8) 3 84 := ⟨by decide +kernel, rfl⟩
theorem d_X12_exchange_84 : DC mX12_exchange 84 (.bipush 10) 2 86 := ⟨by decide +kernel, rfl⟩
theorem d_X12_exchange_86 : DC mX12_exchange 86 (.goto 4) 3 89 := ⟨by decide +kernel, rfl⟩
theorem d_X12_exchange_89 : DC mX12_exchange 89 (.iconst 1) 1 90 := ⟨by decide +kernel, rfl⟩
theorem d_X12_exchange_90 : DC mX12_exchange 90 (.istore 6) 2 92 := ⟨by decide +kernel, rfl⟩
theorem d_X12_exchange_92 : DC mX12_exchange 92 (.aload_n 0) 1 93 := ⟨by decide +kernel, rfl⟩
theorem d_X12_exchange_93 : DC mX12_exchange 93 (.getfield 36) 3 96 := ⟨by decide +kernel, rfl⟩
theorem d_X12_exchange_96 : DC mX12_exchange 96 (.iload 5) 2 98 := ⟨by decide +kernel, rfl⟩
theorem d_X12_exchange_98 : DC mX12_exchange 98 (.iload_n 2) 1 99 := ⟨by decide +kernel, rfl⟩
theorem d_X12_exchange_99 : DC mX12_exchange 99 (.iload 6) 2 101 := ⟨by decide +kernel, rfl⟩
theorem d_X12_exchange_101 : DC mX12_exchange 101 (.idiv) 1 102 := ⟨by decide +kernel, rfl⟩
theorem d_X12_exchange_102 : DC mX12_exchange 102 (.bipush 10) 2 104 := ⟨by decide +kernel, rfl⟩
theorem d_X12_exchange_104 : DC mX12_exchange 104 (.irem) 1 105 := ⟨by decide +kernel, rfl⟩
theorem d_X12_exchange_105 : DC mX12_exchange 105 (.iastore) 1 106 := ⟨by decide +kernel, rfl⟩
theorem d_X12_exchange_106 : DC mX12_exchange 106 (.aload_n 0) 1 107 := ⟨by decide +kernel, rfl⟩
theorem d_X12_exchange_107 : DC mX12_exchange 107 (.getfield 39) 3 110 := ⟨by decide +kernel, rfl⟩
theorem d_X12_exchange_110 : DC mX12_exchange 110 (.iload 5) 2 112 := ⟨by decide +kernel, rfl⟩
theorem d_X12_exchange_112 : DC mX12_exchange 112 (.iload_n 3) 1 113 := ⟨by decide +kernel, rfl⟩
theorem d_X12_exchange_113 : DC mX12_exchange 113 (.iload 6) 2 115 := ⟨by decide +kernel, rfl⟩
theorem d_X12_exchange_115 : DC mX12_exchange 115 (.idiv) 1 116 := ⟨by decide +kernel, rfl⟩
theorem d_X12_exchange_116 : DC mX12_exchange 116 (.bipush 10) 2 118 := ⟨by decide +kernel, rfl⟩
theorem d_X12_exchange_118 : DC mX12_exchange 118 (.irem) 1 119 := ⟨by decide +kernel, rfl⟩
theorem d_X12_exchange_119 : DC mX12_exchange 119 (.iastore) 1 120 := ⟨by decide +kernel, rfl⟩
theorem d_X12_exchange_120 : DC mX12_exchange 120 (.iinc 5 1) 3 123 := ⟨by decide +kernel, rfl⟩
theorem d_X12_exchange_123 : DC mX12_exchange 123 (.goto (-61)) 3 126 := ⟨by decide +kernel, rfl⟩
theorem d_X12_exchange_126 : DC mX12_exchange 126 (.aload_n 0) 1 127 := ⟨by decide +kernel, rfl⟩
theorem d_X12_exchange_127 : DC mX12_exchange 127 (.iload 4) 2 129 := ⟨by decide +kernel, rfl⟩
theorem d_X12_exchange_129 : DC mX12_exchange 129 (.iconst 0) 1 130 := ⟨by decide +kernel, rfl⟩
theorem d_X12_exchange_130 : DC mX12_exchange 130 (.lconst 1) 1 131 := ⟨by decide +kernel, rfl⟩
theorem d_X12_exchange_131 : DC mX12_exchange 131 (.iconst 0) 1 132 := ⟨by decide +kernel, rfl⟩
theorem d_X12_exchange_132 : DC mX12_exchange 132 (.invokevirtual 174) 3 135 := ⟨by decide +kernel, rfl⟩
theorem d_X12_exchange_135 : DC mX12_exchange 135 (.aload_n 0) 1 136 := ⟨by decide +kernel, rfl⟩
theorem d_X12_exchange_136 : DC mX12_exchange 136 (.iload_n 1) 1 137 := ⟨by decide +kernel, rfl⟩
theorem d_X12_exchange_137 : DC mX12_exchange 137 (.invokevirtual 190) 3 140 := ⟨by decide +kernel, rfl⟩
theorem d_X12_exchange_140 : DC mX12_exchange 140 (.ireturn) 1 141 := ⟨by decide +kernel, rfl⟩
theorem d_X12_putsTimes_0 : DC mX12_putsTimes 0 (.aload_n 0) 1 1 := ⟨by decide +kernel, rfl⟩
theorem d_X12_putsTimes_1 : DC mX12_putsTimes 1 (.iload_n 1) 1 2 := ⟨by decide +kernel, rfl⟩
theorem d_X12_putsTimes_2 : DC mX12_putsTimes 2 (.iconst 1) 1 3 := ⟨by decide +kernel, rfl⟩
theorem d_X12_putsTimes_3 : DC mX12_putsTimes 3 (.invokevirtual 205) 3 6 := ⟨by decide +kernel, rfl⟩
theorem d_X12_putsTimes_6 : DC mX12_putsTimes 6 (.iconst 0) 1 7 := ⟨by decide +kernel, rfl⟩
theorem d_X12_putsTimes_7 : DC mX12_putsTimes 7 (.istore_n 3) 1 8 := ⟨by decide +kernel, rfl⟩
theorem d_X12_putsTimes_8 : DC mX12_putsTimes 8 (.iload_n 3) 1 9 := ⟨by decide +kernel, rfl⟩
theorem d_X12_putsTimes_9 : DC mX12_putsTimes 9 (.aload_n 0) 1 10 := ⟨by decide +kernel, rfl⟩
theorem d_X12_putsTimes_10 : DC mX12_putsTimes 10 (.iconst 1) 1 11 := ⟨by decide +kernel, rfl⟩
theorem d_X12_putsTimes_11 : DC mX12_putsTimes 11 (.invokevirtual 113) 3 14 := ⟨by decide +kernel, rfl⟩
theorem d_X12_putsTimes_14 : DC mX12_putsTimes 14 (.if_icmp .ge 31) 3 17 := ⟨by decide +kernel, rfl⟩
theorem d_X12_putsTimes_17 : DC mX12_putsTimes 17 (.aload_n 0) 1 18 := ⟨by decide +kernel, rfl⟩
theorem d_X12_putsTimes_18 : DC mX12_putsTimes 18 (.iconst 0) 1 19 := ⟨by decide +kernel, rfl⟩
theorem d_X12_putsTimes_19 : DC mX12_putsTimes 19 (.aload_n 0) 1 20 := ⟨by decide +kernel, rfl⟩
theorem d_X12_putsTimes_20 : DC mX12_putsTimes 20 (.iconst 1) 1 21 := ⟨by decide +kernel, rfl⟩
theorem d_X12_putsTimes_21 : DC mX12_putsTimes 21 (.iload_n 3) 1 22 := ⟨by decide +kernel, rfl⟩
theorem d_X12_putsTimes_22 : DC mX12_putsTimes 22 (.invokevirtual 117) 3 25 := ⟨by decide +kernel, rfl⟩
theorem d_X12_putsTimes_25 : DC mX12_putsTimes 25 (.iload_n 2) 1 26 := ⟨by decide +kernel, rfl⟩
theorem d_X12_putsTimes_26 : DC mX12_putsTimes 26 (.i2l) 1 27 := ⟨by decide +kernel, rfl⟩
theorem d_X12_putsTimes_27 : DC mX12_putsTimes 27 (.aload_n 0) 1 28 := ⟨by decide +kernel, rfl⟩
theorem d_X12_putsTimes_28 : DC mX12_putsTimes 28 (.iconst 1) 1 29 := ⟨by decide +kernel, rfl⟩
theorem d_X12_putsTimes_29 : DC mX12_putsTimes 29 (.iload_n 3) 1 30 := ⟨by decide +kernel, rfl⟩
theorem d_X12_putsTimes_30 : DC mX12_putsTimes 30 (.invokevirtual 132) 3 33 := ⟨by decide +kernel, rfl⟩
theorem d_X12_putsTimes_33 : DC mX12_putsTimes 33 (.i2l) 1 34 := ⟨by decide +kernel, rfl⟩
theorem d_X12_putsTimes_34 : DC mX12_putsTimes 34 (.lmul) 1 35 := ⟨by decide +kernel, rfl⟩
theorem d_X12_putsTimes_35 : DC mX12_putsTimes 35 (.invokevirtual 147) 3 38 := ⟨by decide +kernel, rfl⟩
theorem d_X12_putsTimes_38 : DC mX12_putsTimes 38 (.pop) 1 39 := ⟨by decide +kernel, rfl⟩
theorem d_X12_putsTimes_39 : DC mX12_putsTimes 39 (.iinc 3 1) 3 42 := ⟨by decide +kernel, rfl⟩
theorem d_X12_putsTimes_42 : DC mX12_putsTimes 42 (.goto (-34)) 3 45 := ⟨by decide +kernel, rfl⟩
theorem d_X12_putsTimes_45 : DC mX12_putsTimes 45 (.return_) 1 46 := ⟨by decide +kernel, rfl⟩
theorem d_X12_add_0 : DC mX12_add 0 (.aload_n 0) 1 1 := ⟨by decide +kernel, rfl⟩
theorem d_X12_add_1 : DC mX12_add 1 (.iconst 0) 1 2 := ⟨by decide +kernel, rfl⟩
theorem d_X12_add_2 : DC mX12_add 2 (.putfield 1) 3 5 := ⟨by decide +kernel, rfl⟩
theorem d_X12_add_5 : DC mX12_add 5 (.iload_n 1) 1 6 := ⟨by decide +kernel, rfl⟩
theorem d_X12_add_6 : DC mX12_add 6 (.invokestatic 199) 3 9 := ⟨by decide +kernel, rfl⟩
theorem d_X12_add_9 : DC mX12_add 9 (.ifCond .eq 18) 3 12 := ⟨by decide +kernel, rfl⟩
theorem d_X12_add_12 : DC mX12_add 12 (.iload_n 2) 1 13 := ⟨by decide +kernel, rfl⟩
theorem d_X12_add_13 : DC mX12_add 13 (.invokestatic 199) 3 16 := ⟨by decide +kernel, rfl⟩
theorem d_X12_add_16 : DC mX12_add 16 (.ifCond .eq 11) 3 19 := ⟨by decide +kernel, rfl⟩
theorem d_X12_add_19 : DC mX12_add 19 (.iload 4) 2 21 := ⟨by decide +kernel, rfl⟩
theorem d_X12_add_21 : DC mX12_add 21 (.invokestatic 199) 3 24 := ⟨by decide +kernel, rfl⟩
theorem d_X12_add_24 : DC mX12_add 24 (.ifCond .ne 10) 3 27 := ⟨by decide +kernel, rfl⟩
theorem d_X12_add_27 : DC mX12_add 27 (.aload_n 0) 1 28 := ⟨by decide +kernel, rfl⟩
theorem d_X12_add_28 : DC mX12_add 28 (.bipush (-2)) 2 30 := ⟨by decide +kernel, rfl⟩
theorem d_X12_add_30 : DC mX12_add 30 (.invokevirtual 218) 3 33 := ⟨by decide +kernel, rfl⟩
theorem d_X12_add_33 : DC mX12_add 33 (.ireturn) 1 34 := ⟨by decide +kernel, rfl⟩
theorem d_X12_add_34 : DC mX12_add 34 (.iload_n 3) 1 35 := ⟨by decide +kernel, rfl⟩
theorem d_X12_add_35 : DC mX12_add 35 (.i2l) 1 36 := ⟨by decide +kernel, rfl⟩
theorem d_X12_add_36 : DC mX12_add 36 (.ldc2_w 221) 3 39 := ⟨by decide +kernel, rfl⟩
theorem d_X12_add_39 : DC mX12_add 39 (.ldc2_w 223) 3 42 := ⟨by decide +kernel, rfl⟩
theorem d_X12_add_42 : DC mX12_add 42 (.invokestatic 91) 3 45 := ⟨by decide +kernel, rfl⟩
theorem d_X12_add_45 : DC mX12_add 45 (.ifCond .eq 18) 3 48 := ⟨by decide +kernel, rfl⟩
theorem d_X12_add_48 : DC mX12_add 48 (.iload 5) 2 50 := ⟨by decide +kernel, rfl⟩
theorem d_X12_add_50 : DC mX12_add 50 (.i2l) 1 51 := ⟨by decide +kernel, rfl⟩
theorem d_X12_add_51 : DC mX12_add 51 (.ldc2_w 221) 3 54 := ⟨by decide +kernel, rfl⟩
theorem d_X12_add_54 : DC mX12_add 54 (.ldc2_w 223) 3 57 := ⟨by decide +kernel, rfl⟩
theorem d_X12_add_57 : DC mX12_add 57 (.invokestatic 91) 3 60 := ⟨by decide +kernel, rfl⟩
theorem d_X12_add_60 : DC mX12_add 60 (.ifCond .ne 10) 3 63 := ⟨by decide +kernel, rfl⟩
theorem d_X12_add_63 : DC mX12_add 63 (.aload_n 0) 1 64 := ⟨by decide +kernel, rfl⟩
theorem d_X12_add_64 : DC mX12_add 64 (.bipush (-3)) 2 66 := ⟨by decide +kernel, rfl⟩
theorem d_X12_add_66 : DC mX12_add 66 (.invokevirtual 218) 3 69 := ⟨by decide +kernel, rfl⟩
theorem d_X12_add_69 : DC mX12_add 69 (.ireturn) 1 70 := ⟨by decide +kernel, rfl⟩
theorem d_X12_add_70 : DC mX12_add 70 (.aload_n 0) 1 71 := ⟨by decide +kernel, rfl⟩
theorem d_X12_add_71 : DC mX12_add 71 (.invokevirtual 202) 3 74 := ⟨by decide +kernel, rfl⟩
theorem d_X12_add_74 : DC mX12_add 74 (.aload_n 0) 1 75 := ⟨by decide +kernel, rfl⟩
theorem d_X12_add_75 : DC mX12_add 75 (.iload_n 2) 1 76 := ⟨by decide +kernel, rfl⟩
theorem d_X12_add_76 : DC mX12_add 76 (.iload_n 3) 1 77 := ⟨by decide +kernel, rfl⟩
theorem d_X12_add_77 : DC mX12_add 77 (.invokevirtual 225) 3 80 := ⟨by decide +kernel, rfl⟩
theorem d_X12_add_80 : DC mX12_add 80 (.aload_n 0) 1 81 := ⟨by decide +kernel, rfl⟩
theorem d_X12_add_81 : DC mX12_add 81 (.iload 4) 2 83 := ⟨by decide +kernel, rfl⟩
theorem d_X12_add_83 : DC mX12_add 83 (.iload 5) 2 85 := ⟨by decide +kernel, rfl⟩
theorem d_X12_add_85 : DC mX12_add 85 (.invokevirtual 225) 3 88 := ⟨by decide +kernel, rfl⟩
theorem d_X12_add_88 : DC mX12_add 88 (.aload_n 0) 1 89 := ⟨by decide +kernel, rfl⟩
theorem d_X12_add_89 : DC mX12_add 89 (.iload_n 1) 1 90 := ⟨by decide +kernel, rfl⟩
theorem d_X12_add_90 : DC mX12_add 90 (.invokevirtual 228) 3 93 := ⟨by decide +kernel, rfl⟩
theorem d_X12_add_93 : DC mX12_add 93 (.ireturn) 1 94 := ⟨by decide +kernel, rfl⟩
theorem d_X12_times_0 : DC mX12_times 0 (.aload_n 0) 1 1 := ⟨by decide +kernel, rfl⟩
theorem d_X12_times_1 : DC mX12_times 1 (.iconst 0) 1 2 := ⟨by decide +kernel, rfl⟩
theorem d_X12_times_2 : DC mX12_times 2 (.putfield 1) 3 5 := ⟨by decide +kernel, rfl⟩
theorem d_X12_times_5 : DC mX12_times 5 (.iload_n 1) 1 6 := ⟨by decide +kernel, rfl⟩
theorem d_X12_times_6 : DC mX12_times 6 (.invokestatic 199) 3 9 := ⟨by decide +kernel, rfl⟩
theorem d_X12_times_9 : DC mX12_times 9 (.ifCond .eq 17) 3 12 := ⟨by decide +kernel, rfl⟩
theorem d_X12_times_12 : DC mX12_times 12 (.iload_n 2) 1 13 := ⟨by decide +kernel, rfl⟩
theorem d_X12_times_13 : DC mX12_times 13 (.invokestatic 199) 3 16 := ⟨by decide +kernel, rfl⟩
theorem d_X12_times_16 : DC mX12_times 16 (.ifCond .eq 10) 3 19 := ⟨by decide +kernel, rfl⟩
theorem d_X12_times_19 : DC mX12_times 19 (.iload_n 3) 1 20 := ⟨by decide +kernel, rfl⟩
theorem d_X12_times_20 : DC mX12_times 20 (.invokestatic 199) 3 23 := ⟨by decide +kernel, rfl⟩
theorem d_X12_times_23 : DC mX12_times 23 (.ifCond .ne 10) 3 26 := ⟨by decide +kernel, rfl⟩
theorem d_X12_times_26 : DC mX12_times 26 (.aload_n 0) 1 27 := ⟨by decide +kernel, rfl⟩
theorem d_X12_times_27 : DC mX12_times 27 (.bipush (-2)) 2 29 := ⟨by decide +kernel, rfl⟩
theorem d_X12_times_29 : DC mX12_times 29 (.invokevirtual 218) 3 32 := ⟨by decide +kernel, rfl⟩
theorem d_X12_times_32 : DC mX12_times 32 (.ireturn) 1 33 := ⟨by decide +kernel, rfl⟩
theorem d_X12_times_33 : DC mX12_times 33 (.aload_n 0) 1 34 := ⟨by decide +kernel, rfl⟩
theorem d_X12_times_34 : DC mX12_times 34 (.invokevirtual 202) 3 37 := ⟨by decide +kernel, rfl⟩
theorem d_X12_times_37 : DC mX12_times 37 (.aload_n 0) 1 38 := ⟨by decide +kernel, rfl⟩
theorem d_X12_times_38 : DC mX12_times 38 (.iload_n 2) 1 39 := ⟨by decide +kernel, rfl⟩
theorem d_X12_times_39 : DC mX12_times 39 (.iconst 1) 1 40 := ⟨by decide +kernel, rfl⟩
theorem d_X12_times_40 : DC mX12_times 40 (.invokevirtual 205) 3 43 := ⟨by decide +kernel, rfl⟩
theorem d_X12_times_43 : DC mX12_times 43 (.aload_n 0) 1 44 := ⟨by decide +kernel, rfl⟩
theorem d_X12_times_44 : DC mX12_times 44 (.iload_n 3) 1 45 := ⟨by decide +kernel, rfl⟩
theorem d_X12_times_45 : DC mX12_times 45 (.iconst 2) 1 46 := ⟨by decide +kernel, rfl⟩
theorem d_X12_times_46 : DC mX12_times 46 (.invokevirtual 205) 3 49 := ⟨by decide +kernel, rfl⟩
theorem d_X12_times_49 : DC mX12_times 49 (.aload_n 0) 1 50 := ⟨by decide +kernel, rfl⟩
theorem d_X12_times_50 : DC mX12_times 50 (.iconst 1) 1 51 := ⟨by decide +kernel, rfl⟩
theorem d_X12_times_51 : DC mX12_times 51 (.iconst 2) 1 52 := ⟨by decide +kernel, rfl⟩
theorem d_X12_times_52 : DC mX12_times 52 (.iconst 1) 1 53 := ⟨by decide +kernel, rfl⟩
theorem d_X12_times_53 : DC mX12_times 53 (.iconst 0) 1 54 := ⟨by decide +kernel, rfl⟩
theorem d_X12_times_54 : DC mX12_times 54 (.invokevirtual 231) 3 57 := ⟨by decide +kernel, rfl⟩
theorem d_X12_times_57 : DC mX12_times 57 (.aload_n 0) 1 58 := ⟨by decide +kernel, rfl⟩
theorem d_X12_times_58 : DC mX12_times 58 (.iload_n 1) 1 59 := ⟨by decide +kernel, rfl⟩
theorem d_X12_times_59 : DC mX12_times 59 (.invokevirtual 228) 3 62 := ⟨by decide +kernel, rfl⟩
theorem d_X12_times_62 : DC mX12_times 62 (.ireturn) 1 63 := ⟨by decide +kernel, rfl⟩
theorem d_X12_putsOther_0 : DC mX12_putsOther 0 (.iload_n 1) 1 1 := ⟨by decide +kernel, rfl⟩
theorem d_X12_putsOther_1 : DC mX12_putsOther 1 (.invokestatic 138) 3 4 := ⟨by decide +kernel, rfl⟩
theorem d_X12_putsOther_4 : DC mX12_putsOther 4 (.istore 4) 2 6 := ⟨by decide +kernel, rfl⟩
theorem d_X12_putsOther_6 : DC mX12_putsOther 6 (.iload_n 2) 1 7 := ⟨by decide +kernel, rfl⟩
theorem d_X12_putsOther_7 : DC mX12_putsOther 7 (.i2l) 1 8 := ⟨by decide +kernel, rfl⟩
theorem d_X12_putsOther_8 : DC mX12_putsOther 8 (.lstore 5) 2 10 := ⟨by decide +kernel, rfl⟩
theorem d_X12_putsOther_10 : DC mX12_putsOther 10 (.iconst 0) 1 11 := ⟨by decide +kernel, rfl⟩
theorem d_X12_putsOther_11 : DC mX12_putsOther 11 (.istore 7) 2 13 := ⟨by decide +kernel, rfl⟩
theorem d_X12_putsOther_13 : DC mX12_putsOther 13 (.iload 7) 2 15 := ⟨by decide +kernel, rfl⟩
theorem d_X12_putsOther_15 : DC mX12_putsOther 15 (.iload 4) 2 17 := ⟨by decide +kernel, rfl⟩
theorem d_X12_putsOther_17 : DC mX12_putsOther 17 (.if_icmp .ge 98) 3 20 := ⟨by decide +kernel, rfl⟩
theorem d_X12_putsOther_20 : DC mX12_putsOther 20 (.iconst 3) 1 21 := ⟨by decide +kernel, rfl⟩
theorem d_X12_putsOther_21 : DC mX12_putsOther 21 (.iload_n 1) 1 22 := ⟨by decide +kernel, rfl⟩
theorem d_X12_putsOther_22 : DC mX12_putsOther 22 (.iload 7) 2 24 := ⟨by decide +kernel, rfl⟩
theorem d_X12_putsOther_24 : DC mX12_putsOther 24 (.invokestatic 135) 3 27 := ⟨by decide +kernel, rfl⟩
theorem d_X12_putsOther_27 : DC mX12_putsOther 27 (.imul) 1 28 := ⟨by decide +kernel, rfl⟩
theorem d_X12_putsOther_28 : DC mX12_putsOther 28 (.istore 8) 2 30 := ⟨by decide +kernel, rfl⟩
theorem d_X12_putsOther_30 : DC mX12_putsOther 30 (.aload_n 0) 1 31 := ⟨by decide +kernel, rfl⟩
theorem d_X12_putsOther_31 : DC mX12_putsOther 31 (.getfield 13) 3 34 := ⟨by decide +kernel, rfl⟩
theorem d_X12_putsOther_34 : DC mX12_putsOther 34 (.bipush 100) 2 36 := ⟨by decide +kernel, rfl⟩
theorem d_X12_putsOther_36 : DC mX12_putsOther 36 (.aload_n 3) 1 37 := ⟨by decide +kernel, rfl⟩
theorem d_X12_putsOther_37 : DC mX12_putsOther 37 (.aload_n 0) 1 38 := ⟨by decide +kernel, rfl⟩
theorem d_X12_putsOther_38 : DC mX12_putsOther 38 (.getfield 17) 3 41 := ⟨by decide +kernel, rfl⟩
theorem d_X12_putsOther_41 : DC mX12_putsOther 41 (.iload 8) 2 43 := ⟨by decide +kernel, rfl⟩
theorem d_X12_putsOther_43 : DC mX12_putsOther 43 (.iaload) 1 44 := ⟨by decide +kernel, rfl⟩
theorem d_X12_putsOther_44 : DC mX12_putsOther 44 (.iaload) 1 45 := ⟨by decide +kernel, rfl⟩
theorem d_X12_putsOther_45 : DC mX12_putsOther 45 (.imul) 1 46 := ⟨by decide +kernel, rfl⟩
theorem d_X12_putsOther_46 : DC mX12_putsOther 46 (.bipush 10) 2 48 := ⟨by decide +kernel, rfl⟩
theorem d_X12_putsOther_48 : DC mX12_putsOther 48 (.aload_n 3) 1 49 := ⟨by decide +kernel, rfl⟩
theorem d_X12_putsOther_49 : DC mX12_putsOther 49 (.aload_n 0) 1 50 := ⟨by decide +kernel, rfl⟩
theorem d_X12_putsOther_50 : DC mX12_putsOther 50 (.getfield 17) 3 53 := ⟨by decide +kernel, rfl⟩
theorem d_X12_putsOther_53 : DC mX12_putsOther 53 (.iload 8) 2 55 := ⟨by decide +kernel, rfl⟩
theorem d_X12_putsOther_55 : DC mX12_putsOther 55 (.iconst 1) 1 56 := ⟨by decide +kernel, rfl⟩
theorem d_X12_putsOther_56 : DC mX12_putsOther 56 (.iadd) 1 57 := ⟨by decide +kernel, rfl⟩
theorem d_X12_putsOther_57 : DC mX12_putsOther 57 (.iaload) 1 58 := ⟨by decide +kernel, rfl⟩
theorem d_X12_putsOther_58 : DC mX12_putsOther 58 (.iaload) 1 59 := ⟨by decide +kernel, rfl⟩
theorem d_X12_putsOther_59 : DC mX12_putsOther 59 (.imul) 1 60 := ⟨by decide +kernel, rfl⟩
theorem d_X12_putsOther_60 : DC mX12_putsOther 60 (.iadd) 1 61 := ⟨by decide +kernel, rfl⟩
theorem d_X12_putsOther_61 : DC mX12_putsOther 61 (.aload_n 3) 1 62 := ⟨by decide +kernel, rfl⟩
theorem d_X12_putsOther_62 : DC mX12_putsOther 62 (.aload_n 0) 1 63 := ⟨by decide +kernel, rfl⟩
theorem d_X12_putsOther_63 : DC mX12_putsOther 63 (.getfield 17) 3 66 := ⟨by decide +kernel, rfl⟩
theorem d_X12_putsOther_66 : DC mX12_putsOther 66 (.iload 8) 2 68 := ⟨by decide +kernel, rfl⟩
theorem d_X12_putsOther_68 : DC mX12_putsOther 68 (.iconst 2) 1 69 := ⟨by decide +kernel, rfl⟩
theorem d_X12_putsOther_69 : DC mX12_putsOther 69 (.iadd) 1 70 := ⟨by decide +kernel, rfl⟩
theorem d_X12_putsOther_70 : DC mX12_putsOther 70 (.iaload) 1 71 := ⟨by decide +kernel, rfl⟩
theorem d_X12_putsOther_71 : DC mX12_putsOther 71 (.iaload) 1 72 := ⟨by decide +kernel, rfl⟩
theorem d_X12_putsOther_72 : DC mX12_putsOther 72 (.iadd) 1 73 := ⟨by decide +kernel, rfl⟩
theorem d_X12_putsOther_73 : DC mX12_putsOther 73 (.iaload) 1 74 := ⟨by decide +kernel, rfl⟩
theorem d_X12_putsOther_74 : DC mX12_putsOther 74 (.istore 9) 2 76 := ⟨by decide +kernel, rfl⟩
theorem d_X12_putsOther_76 : DC mX12_putsOther 76 (.iload 9) 2 78 := ⟨by decide +kernel, rfl⟩
theorem d_X12_putsOther_78 : DC mX12_putsOther 78 (.ifCond .ne 4) 3 81 := ⟨by decide +kernel, rfl⟩
theorem d_X12_putsOther_81 : DC mX12_putsOther 81 (.return_) 1 82 := ⟨by decide +kernel, rfl⟩
theorem d_X12_putsOther_82 : DC mX12_putsOther 82 (.iload 9) 2 84 := ⟨by decide +kernel, rfl⟩
theorem d_X12_putsOther_84 : DC mX12_putsOther 84 (.ifCond .ge 9) 3 87 := ⟨by decide +kernel, rfl⟩
theorem d_X12_putsOther_87 : DC mX12_putsOther 87 (.lload 5) 2 89 := ⟨by decide +kernel, rfl⟩
theorem d_X12_putsOther_89 : DC mX12_putsOther 89 (.lneg) 1 90 := ⟨by decide +kernel, rfl⟩
theorem d_X12_putsOther_90 : DC mX12_putsOther 90 (.goto 5) 3 93 := ⟨by decide +kernel, rfl⟩
theorem d_X12_putsOther_93 : DC mX12_putsOther 93 (.lload 5) 2 95 := ⟨by decide +kernel, rfl⟩
theorem d_X12_putsOther_95 : DC mX12_putsOther 95 (.lstore 5) 2 97 := ⟨by decide +kernel, rfl⟩
theorem d_X12_putsOther_97 : DC mX12_putsOther 97 (.aload_n 0) 1 98 := ⟨by decide +kernel, rfl⟩
theorem d_X12_putsOther_98 : DC mX12_putsOther 98 (.getfield 33) 3 101 := ⟨by decide +kernel, rfl⟩
theorem d_X12_putsOther_101 : DC mX12_putsOther 101 (.iload 7) 2 103 := ⟨by decide +kernel, rfl⟩
theorem d_X12_putsOther_103 : DC mX12_putsOther 103 (.iload 9) 2 105 := ⟨by decide +kernel, rfl⟩
theorem d_X12_putsOther_105 : DC mX12_putsOther 105 (.invokestatic 168) 3 108 := ⟨by decide +kernel, rfl⟩
theorem d_X12_putsOther_108 : DC mX12_putsOther 108 (.iastore) 1 109 := ⟨by decide +kernel, rfl⟩
theorem d_X12_putsOther_109 : DC mX12_putsOther 109 (.iinc 7 1) 3 112 := ⟨by decide +kernel, rfl⟩
theorem d_X12_putsOther_112 : DC mX12_putsOther 112 (.goto (-99)) 3 115 := ⟨by decide +kernel, rfl⟩
theorem d_X12_putsOther_115 : DC mX12_putsOther 115 (.aload_n 0) 1 116 := ⟨by decide +kernel, rfl⟩
theorem d_X12_putsOther_116 : DC mX12_putsOther 116 (.iconst 0) 1 117 := ⟨by decide +kernel, rfl⟩
theorem d_X12_putsOther_117 : DC mX12_putsOther 117 (.aload_n 0) 1 118 := ⟨by decide +kernel, rfl⟩
theorem d_X12_putsOther_118 : DC mX12_putsOther 118 (.iload 4) 2 120 := ⟨by decide +kernel, rfl⟩
theorem d_X12_putsOther_120 : DC mX12_putsOther 120 (.invokevirtual 141) 3 123 := ⟨by decide +kernel, rfl⟩
theorem d_X12_putsOther_123 : DC mX12_putsOther 123 (.lload 5) 2 125 := ⟨by decide +kernel, rfl⟩
theorem d_X12_putsOther_125 : DC mX12_putsOther 125 (.invokevirtual 147) 3 128 := ⟨by decide +kernel, rfl⟩
theorem d_X12_putsOther_128 : DC mX12_putsOther 128 (.pop) 1 129 := ⟨by decide +kernel, rfl⟩
theorem d_X12_putsOther_129 : DC mX12_putsOther 129 (.return_) 1 130 := ⟨by decide +kernel, rfl⟩
theorem d_X12_puts__0 : DC mX12_puts_ 0 (.iload_n 1) 1 1 := ⟨by decide +kernel, rfl⟩
theorem d_X12_puts__1 : DC mX12_puts_ 1 (.invokestatic 199) 3 4 := ⟨by decide +kernel, rfl⟩
theorem d_X12_puts__4 : DC mX12_puts_ 4 (.ifCond .eq 25) 3 7 := ⟨by decide +kernel, rfl⟩
theorem d_X12_puts__7 : DC mX12_puts_ 7 (.iload_n 2) 1 8 := ⟨by decide +kernel, rfl⟩
theorem d_X12_puts__8 : DC mX12_puts_ 8 (.invokestatic 199) 3 11 := ⟨by decide +kernel, rfl⟩
theorem d_X12_puts__11 : DC mX12_puts_ 11 (.ifCond .eq 18) 3 14 := ⟨by decide +kernel, rfl⟩
theorem d_X12_puts__14 : DC mX12_puts_ 14 (.iload_n 3) 1 15 := ⟨by decide +kernel, rfl⟩
theorem d_X12_puts__15 : DC mX12_puts_ 15 (.invokestatic 208) 3 18 := ⟨by decide +kernel, rfl⟩
theorem d_X12_puts__18 : DC mX12_puts_ 18 (.ifCond .eq 11) 3 21 := ⟨by decide +kernel, rfl⟩
theorem d_X12_puts__21 : DC mX12_puts_ 21 (.iload 4) 2 23 := ⟨by decide +kernel, rfl⟩
theorem d_X12_puts__23 : DC mX12_puts_ 23 (.invokestatic 208) 3 26 := ⟨by decide +kernel, rfl⟩
theorem d_X12_puts__26 : DC mX12_puts_ 26 (.ifCond .ne 10) 3 29 := ⟨by decide +kernel, rfl⟩
theorem d_X12_puts__29 : DC mX12_puts_ 29 (.aload_n 0) 1 30 := ⟨by decide +kernel, rfl⟩
theorem d_X12_puts__30 : DC mX12_puts_ 30 (.bipush (-2)) 2 32 := ⟨by decide +kernel, rfl⟩
theorem d_X12_puts__32 : DC mX12_puts_ 32 (.invokevirtual 218) 3 35 := ⟨by decide +kernel, rfl⟩
theorem d_X12_puts__35 : DC mX12_puts_ 35 (.ireturn) 1 36 := ⟨by decide +kernel, rfl⟩
theorem d_X12_puts__36 : DC mX12_puts_ 36 (.aload_n 0) 1 37 := ⟨by decide +kernel, rfl⟩
theorem d_X12_puts__37 : DC mX12_puts_ 37 (.invokevirtual 202) 3 40 := ⟨by decide +kernel, rfl⟩
theorem d_X12_puts__40 : DC mX12_puts_ 40 (.aload_n 0) 1 41 := ⟨by decide +kernel, rfl⟩
theorem d_X12_puts__41 : DC mX12_puts_ 41 (.iload_n 2) 1 42 := ⟨by decide +kernel, rfl⟩
theorem d_X12_puts__42 : DC mX12_puts_ 42 (.iconst 1) 1 43 := ⟨by decide +kernel, rfl⟩
theorem d_X12_puts__43 : DC mX12_puts_ 43 (.invokevirtual 205) 3 46 := ⟨by decide +kernel, rfl⟩
theorem d_X12_puts__46 : DC mX12_puts_ 46 (.iconst 0) 1 47 := ⟨by decide +kernel, rfl⟩
theorem d_X12_puts__47 : DC mX12_puts_ 47 (.istore 6) 2 49 := ⟨by decide +kernel, rfl⟩
theorem d_X12_puts__49 : DC mX12_puts_ 49 (.iload 6) 2 51 := ⟨by decide +kernel, rfl⟩
theorem d_X12_puts__51 : DC mX12_puts_ 51 (.bipush 10) 2 53 := ⟨by decide +kernel, rfl⟩
theorem d_X12_puts__53 : DC mX12_puts_ 53 (.if_icmp .ge 45) 3 56 := ⟨by decide +kernel, rfl⟩
theorem d_X12_puts__56 : DC mX12_puts_ 56 (.aload_n 0) 1 57 := ⟨by decide +kernel, rfl⟩
theorem d_X12_puts__57 : DC mX12_puts_ 57 (.getfield 54) 3 60 := ⟨by decide +kernel, rfl⟩
theorem d_X12_puts__60 : DC mX12_puts_ 60 (.iload 6) 2 62 := ⟨by decide +kernel, rfl⟩
theorem d_X12_puts__62 : DC mX12_puts_ 62 (.iload 6) 2 64 := ⟨by decide +kernel, rfl⟩
theorem d_X12_puts__64 : DC mX12_puts_ 64 (.iload_n 3) 1 65 := ⟨by decide +kernel, rfl⟩
theorem d_X12_puts__65 : DC mX12_puts_ 65 (.if_icmp .ne 8) 3 68 := ⟨by decide +kernel, rfl⟩
theorem d_X12_puts__68 : DC mX12_puts_ 68 (.iload 4) 2 70 := ⟨by decide +kernel, rfl⟩
theorem d_X12_puts__70 : DC mX12_puts_ 70 (.goto 21) 3 73 := ⟨by decide +kernel, rfl⟩
theorem d_X12_puts__73 : DC mX12_puts_ 73 (.iload 5) 2 75 := ⟨by decide +kernel, rfl⟩
theorem d_X12_puts__75 : DC mX12_puts_ 75 (.ifCond .eq 14) 3 78 := ⟨by decide +kernel, rfl⟩
theorem d_X12_puts__78 : DC mX12_puts_ 78 (.iload 6) 2 80 := ⟨by decide +kernel, rfl⟩
theorem d_X12_puts__80 : DC mX12_puts_ 80 (.iload 4) 2 82 := ⟨by decide +kernel, rfl⟩
theorem d_X12_puts__82 : DC mX12_puts_ 82 (.if_icmp .ne 7) 3 85 := ⟨by decide +kernel, rfl⟩
theorem d_X12_puts__85 : DC mX12_puts_ 85 (.iload_n 3) 1 86 := ⟨by decide +kernel, rfl⟩
theorem d_X12_puts__86 : DC mX12_puts_ 86 (.goto 5) 3 89 := ⟨by decide +kernel, rfl⟩
theorem d_X12_puts__89 : DC mX12_puts_ 89 (.iload 6) 2 91 := ⟨by decide +kernel, rfl⟩
theorem d_X12_puts__91 : DC mX12_puts_ 91 (.iastore) 1 92 := ⟨by decide +kernel, rfl⟩
theorem d_X12_puts__92 : DC mX12_puts_ 92 (.iinc 6 1) 3 95 := ⟨by decide +kernel, rfl⟩
theorem d_X12_puts__95 : DC mX12_puts_ 95 (.goto (-46)) 3 98 := ⟨by decide +kernel, rfl⟩
theorem d_X12_puts__98 : DC mX12_puts_ 98 (.iconst 0) 1 99 := ⟨by decide +kernel, rfl⟩
theorem d_X12_puts__99 : DC mX12_puts_ 99 (.istore 6) 2 101 := ⟨by decide +kernel, rfl⟩
theorem d_X12_puts__101 : DC mX12_puts_ 101 (.iload 6) 2 103 := ⟨by decide +kernel, rfl⟩
theorem d_X12_puts__103 : DC mX12_puts_ 103 (.aload_n 0) 1 104 := ⟨by decide +kernel, rfl⟩
theorem d_X12_puts__104 : DC mX12_puts_ 104 (.iconst 1) 1 105 := ⟨by decide +kernel, rfl⟩
theorem d_X12_puts__105 : DC mX12_puts_ 105 (.invokevirtual 113) 3 108 := ⟨by decide +kernel, rfl⟩
theorem d_X12_puts__108 : DC mX12_puts_ 108 (.if_icmp .ge 31) 3 111 := ⟨by decide +kernel, rfl⟩
theorem d_X12_puts__111 : DC mX12_puts_ 111 (.aload_n 0) 1 112 := ⟨by decide +kernel, rfl⟩
theorem d_X12_puts__112 : DC mX12_puts_ 112 (.aload_n 0) 1 113 := ⟨by decide +kernel, rfl⟩
theorem d_X12_puts__113 : DC mX12_puts_ 113 (.iconst 1) 1 114 := ⟨by decide +kernel, rfl⟩
theorem d_X12_puts__114 : DC mX12_puts_ 114 (.iload 6) 2 116 := ⟨by decide +kernel, rfl⟩
theorem d_X12_puts__116 : DC mX12_puts_ 116 (.invokevirtual 117) 3 119 := ⟨by decide +kernel, rfl⟩
theorem d_X12_puts__119 : DC mX12_puts_ 119 (.aload_n 0) 1 120 := ⟨by decide +kernel, rfl⟩
theorem d_X12_puts__120 : DC mX12_puts_ 120 (.iconst 1) 1 121 := ⟨by decide +kernel, rfl⟩
theorem d_X12_puts__121 : DC mX12_puts_ 121 (.iload 6) 2 123 := ⟨by decide +kernel, rfl⟩
theorem d_X12_puts__123 : DC mX12_puts_ 123 (.invokevirtual 132) 3 126 := ⟨by decide +kernel, rfl⟩
theorem d_X12_puts__126 : DC mX12_puts_ 126 (.aload_n 0) 1 127 := ⟨by decide +kernel, rfl⟩
theorem d_X12_puts__127 : DC mX12_puts_ 127 (.getfield 54) 3 130 := ⟨by decide +kernel, rfl⟩
theorem d_X12_puts__130 : DC mX12_puts_ 130 (.invokevirtual 234) 3 133 := ⟨by decide +kernel, rfl⟩
theorem d_X12_puts__133 : DC mX12_puts_ 133 (.iinc 6 1) 3 136 := ⟨by decide +kernel, rfl⟩
theorem d_X12_puts__136 : DC mX12_puts_ 136 (.goto (-35)) 3 139 := ⟨by decide +kernel, rfl⟩
theorem d_X12_puts__139 : DC mX12_puts_ 139 (.aload_n 0) 1 140 := ⟨by decide +kernel, rfl⟩
theorem d_X12_puts__140 : DC mX12_puts_ 140 (.iload_n 1) 1 141 := ⟨by decide +kernel, rfl⟩
theorem d_X12_puts__141 : DC mX12_puts_ 141 (.invokevirtual 228) 3 144 := ⟨by decide +kernel, rfl⟩
theorem d_X12_puts__144 : DC mX12_puts_ 144 (.ireturn) 1 145 := ⟨by decide +kernel, rfl⟩
theorem d_X12_put_0 : DC mX12_put 0 (.aload_n 0) 1 1 := ⟨by decide +kernel, rfl⟩
theorem d_X12_put_1 : DC mX12_put 1 (.iconst 0) 1 2 := ⟨by decide +kernel, rfl⟩
theorem d_X12_put_2 : DC mX12_put 2 (.putfield 1) 3 5 := ⟨by decide +kernel, rfl⟩
theorem d_X12_put_5 : DC mX12_put 5 (.aload_n 0) 1 6 := ⟨by decide +kernel, rfl⟩
theorem d_X12_put_6 : DC mX12_put 6 (.iload_n 1) 1 7 := ⟨by decide +kernel, rfl⟩
theorem d_X12_put_7 : DC mX12_put 7 (.iload_n 2) 1 8 := ⟨by decide +kernel, rfl⟩
theorem d_X12_put_8 : DC mX12_put 8 (.iload_n 3) 1 9 := ⟨by decide +kernel, rfl⟩
theorem d_X12_put_9 : DC mX12_put 9 (.iload 4) 2 11 := ⟨by decide +kernel, rfl⟩
theorem d_X12_put_11 : DC mX12_put 11 (.iconst 0) 1 12 := ⟨by decide +kernel, rfl⟩
theorem d_X12_put_12 : DC mX12_put 12 (.invokevirtual 238) 3 15 := ⟨by decide +kernel, rfl⟩
theorem d_X12_put_15 : DC mX12_put 15 (.ireturn) 1 16 := ⟨by decide +kernel, rfl⟩
theorem d_X12_turn_0 : DC mX12_turn 0 (.aload_n 0) 1 1 := ⟨by decide +kernel, rfl⟩
theorem d_X12_turn_1 : DC mX12_turn 1 (.iconst 0) 1 2 := ⟨by decide +kernel, rfl⟩
theorem d_X12_turn_2 : DC mX12_turn 2 (.putfield 1) 3 5 := ⟨by decide +kernel, rfl⟩
theorem d_X12_turn_5 : DC mX12_turn 5 (.aload_n 0) 1 6 := ⟨by decide +kernel, rfl⟩
theorem d_X12_turn_6 : DC mX12_turn 6 (.iload_n 1) 1 7 := ⟨by decide +kernel, rfl⟩
theorem d_X12_turn_7 : DC mX12_turn 7 (.iload_n 2) 1 8 := ⟨by decide +kernel, rfl⟩
theorem d_X12_turn_8 : DC mX12_turn 8 (.iload_n 3) 1 9 := ⟨by decide +kernel, rfl⟩
theorem d_X12_turn_9 : DC mX12_turn 9 (.iload 4) 2 11 := ⟨by decide +kernel, rfl⟩
theorem d_X12_turn_11 : DC mX12_turn 11 (.iconst 1) 1 12 := ⟨by decide +kernel, rfl⟩
theorem d_X12_turn_12 : DC mX12_turn 12 (.invokevirtual 238) 3 15 := ⟨by decide +kernel, rfl⟩
theorem d_X12_turn_15 : DC mX12_turn 15 (.ireturn) 1 16 := ⟨by decide +kernel, rfl⟩
theorem d_X12_straight_0 : DC mX12_straight 0 (.aload_n 0) 1 1 := ⟨by decide +kernel, rfl⟩
theorem d_X12_straight_1 : DC mX12_straight 1 (.iconst 0) 1 2 := ⟨by decide +kernel, rfl⟩
theorem d_X12_straight_2 : DC mX12_straight 2 (.putfield 1) 3 5 := ⟨by decide +kernel, rfl⟩
theorem d_X12_straight_5 : DC mX12_straight 5 (.iload_n 1) 1 6 := ⟨by decide +kernel, rfl⟩
theorem d_X12_straight_6 : DC mX12_straight 6 (.invokestatic 199) 3 9 := ⟨by decide +kernel, rfl⟩
theorem d_X12_straight_9 : DC mX12_straight 9 (.ifCond .eq 10) 3 12 := ⟨by decide +kernel, rfl⟩
theorem d_X12_straight_12 : DC mX12_straight 12 (.iload_n 2) 1 13 := ⟨by decide +kernel, rfl⟩
theorem d_X12_straight_13 : DC mX12_straight 13 (.invokestatic 199) 3 16 := ⟨by decide +kernel, rfl⟩
theorem d_X12_straight_16 : DC mX12_straight 16 (.ifCond .ne 10) 3 19 := ⟨by decide +kernel, rfl⟩
theorem d_X12_straight_19 : DC mX12_straight 19 (.aload_n 0) 1 20 := ⟨by decide +kernel, rfl⟩
theorem d_X12_straight_20 : DC mX12_straight 20 (.bipush (-2)) 2 22 := ⟨by decide +kernel, rfl⟩
theorem d_X12_straight_22 : DC mX12_straight 22 (.invokevirtual 218) 3 25 := ⟨by decide +kernel, rfl⟩
theorem d_X12_straight_25 : DC mX12_straight 25 (.ireturn) 1 26 := ⟨by decide +kernel, rfl⟩
theorem d_X12_straight_26 : DC mX12_straight 26 (.aload_n 0) 1 27 := ⟨by decide +kernel, rfl⟩
theorem d_X12_straight_27 : DC mX12_straight 27 (.invokevirtual 202) 3 30 := ⟨by decide +kernel, rfl⟩
theorem d_X12_straight_30 : DC mX12_straight 30 (.aload_n 0) 1 31 := ⟨by decide +kernel, rfl⟩
theorem d_X12_straight_31 : DC mX12_straight 31 (.iload_n 2) 1 32 := ⟨by decide +kernel, rfl⟩
theorem d_X12_straight_32 : DC mX12_straight 32 (.iconst 0) 1 33 := ⟨by decide +kernel, rfl⟩
theorem d_X12_straight_33 : DC mX12_straight 33 (.invokevirtual 205) 3 36 := ⟨by decide +kernel, rfl⟩
theorem d_X12_straight_36 : DC mX12_straight 36 (.aload_n 0) 1 37 := ⟨by decide +kernel, rfl⟩
theorem d_X12_straight_37 : DC mX12_straight 37 (.iconst 0) 1 38 := ⟨by decide +kernel, rfl⟩
theorem d_X12_straight_38 : DC mX12_straight 38 (.invokevirtual 241) 3 41 := ⟨by decide +kernel, rfl⟩
theorem d_X12_straight_41 : DC mX12_straight 41 (.istore_n 3) 1 42 := ⟨by decide +kernel, rfl⟩
theorem d_X12_straight_42 : DC mX12_straight 42 (.aload_n 0) 1 43 := ⟨by decide +kernel, rfl⟩
theorem d_X12_straight_43 : DC mX12_straight 43 (.iload_n 1) 1 44 := ⟨by decide +kernel, rfl⟩
theorem d_X12_straight_44 : DC mX12_straight 44 (.invokevirtual 228) 3 47 := ⟨by decide +kernel, rfl⟩
theorem d_X12_straight_47 : DC mX12_straight 47 (.ireturn) 1 48 := ⟨by decide +kernel, rfl⟩
theorem d_X12_factOf_0 : DC mX12_factOf 0 (.aload_n 0) 1 1 := ⟨by decide +kernel, rfl⟩
theorem d_X12_factOf_1 : DC mX12_factOf 1 (.getfield 20) 3 4 := ⟨by decide +kernel, rfl⟩
theorem d_X12_factOf_4 : DC mX12_factOf 4 (.sipush 996) 3 7 := ⟨by decide +kernel, rfl⟩
theorem d_X12_factOf_7 : DC mX12_factOf 7 (.iload_n 1) 1 8 := ⟨by decide +kernel, rfl⟩
theorem d_X12_factOf_8 : DC mX12_factOf 8 (.iadd) 1 9 := ⟨by decide +kernel, rfl⟩
theorem d_X12_factOf_9 : DC mX12_factOf 9 (.iconst 1) 1 10 := ⟨by decide +kernel, rfl⟩
theorem d_X12_factOf_10 : DC mX12_factOf 10 (.isub) 1 11 := ⟨by decide +kernel, rfl⟩
theorem d_X12_factOf_11 : DC mX12_factOf 11 (.iaload) 1 12 := ⟨by decide +kernel, rfl⟩
theorem d_X12_factOf_12 : DC mX12_factOf 12 (.ireturn) 1 13 := ⟨by decide +kernel, rfl⟩
theorem d_X12_reduces_0 : DC mX12_reduces 0 (.aload_n 0) 1 1 := ⟨by decide +kernel, rfl⟩
theorem d_X12_reduces_1 : DC mX12_reduces 1 (.iload_n 1) 1 2 := ⟨by decide +kernel, rfl⟩
theorem d_X12_reduces_2 : DC mX12_reduces 2 (.iconst 1) 1 3 := ⟨by decide +kernel, rfl⟩
theorem d_X12_reduces_3 : DC mX12_reduces 3 (.invokevirtual 205) 3 6 := ⟨by decide +kernel, rfl⟩
theorem d_X12_reduces_6 : DC mX12_reduces 6 (.iconst 0) 1 7 := ⟨by decide +kernel, rfl⟩
theorem d_X12_reduces_7 : DC mX12_reduces 7 (.istore_n 2) 1 8 := ⟨by decide +kernel, rfl⟩
theorem d_X12_reduces_8 : DC mX12_reduces 8 (.iload_n 2) 1 9 := ⟨by decide +kernel, rfl⟩
theorem d_X12_reduces_9 : DC mX12_reduces 9 (.aload_n 0) 1 10 := ⟨by decide +kernel, rfl⟩
theorem d_X12_reduces_10 : DC mX12_reduces 10 (.iconst 1) 1 11 := ⟨by decide +kernel, rfl⟩
theorem d_X12_reduces_11 : DC mX12_reduces 11 (.invokevirtual 113) 3 14 := ⟨by decide +kernel, rfl⟩
theorem d_X12_reduces_14 : DC mX12_reduces 14 (.if_icmp .ge 85) 3 17 := ⟨by decide +kernel, rfl⟩
theorem d_X12_reduces_17 : DC mX12_reduces 17 (.iconst 1) 1 18 := ⟨by decide +kernel, rfl⟩
theorem d_X12_reduces_18 : DC mX12_reduces 18 (.istore_n 3) 1 19 := ⟨by decide +kernel, rfl⟩
theorem d_X12_reduces_19 : DC mX12_reduces 19 (.iconst 0) 1 20 := ⟨by decide +kernel, rfl⟩
theorem d_X12_reduces_20 : DC mX12_reduces 20 (.istore 4) 2 22 := ⟨by decide +kernel, rfl⟩
theorem d_X12_reduces_22 : DC mX12_reduces 22 (.iload 4) 2 24 := ⟨by decide +kernel, rfl⟩
theorem d_X12_reduces_24 : DC mX12_reduces 24 (.aload_n 0) 1 25 := ⟨by decide +kernel, rfl⟩
theorem d_X12_reduces_25 : DC mX12_reduces 25 (.iconst 1) 1 26 := ⟨by decide +kernel, rfl⟩
theorem d_X12_reduces_26 : DC mX12_reduces 26 (.iload_n 2) 1 27 := ⟨by decide +kernel, rfl⟩
theorem d_X12_reduces_27 : DC mX12_reduces 27 (.invokevirtual 117) 3 30 := ⟨by decide +kernel, rfl⟩
theorem d_X12_reduces_30 : DC mX12_reduces 30 (.invokestatic 138) 3 33 := ⟨by decide +kernel, rfl⟩
theorem d_X12_reduces_33 : DC mX12_reduces 33 (.if_icmp .ge 37) 3 36 := ⟨by decide +kernel, rfl⟩
theorem d_X12_reduces_36 : DC mX12_reduces 36 (.iload_n 3) 1 37 := ⟨by decide +kernel, rfl⟩
theorem d_X12_reduces_37 : DC mX12_reduces 37 (.ifCond .eq 25) 3 40 := ⟨by decide +kernel, rfl⟩
theorem d_X12_reduces_40 : DC mX12_reduces 40 (.aload_n 0) 1 41 := ⟨by decide +kernel, rfl⟩
theorem d_X12_reduces_41 : DC mX12_reduces 41 (.aload_n 0) 1 42 := ⟨by decide +kernel, rfl⟩
theorem d_X12_reduces_42 : DC mX12_reduces 42 (.iconst 1) 1 43 := ⟨by decide +kernel, rfl⟩
theorem d_X12_reduces_43 : DC mX12_reduces 43 (.iload_n 2) 1 44 := ⟨by decide +kernel, rfl⟩
theorem d_X12_reduces_44 : DC mX12_reduces 44 (.invokevirtual 117) 3 47 := ⟨by decide +kernel, rfl⟩
theorem d_X12_reduces_47 : DC mX12_reduces 47 (.iload 4) 2 49 := ⟨by decide +kernel, rfl⟩
theorem d_X12_reduces_49 : DC mX12_reduces 49 (.invokestatic 135) 3 52 := ⟨by decide +kernel, rfl⟩
theorem d_X12_reduces_52 : DC mX12_reduces 52 (.invokevirtual 244) 3 55 := ⟨by decide +kernel, rfl⟩
theorem d_X12_reduces_55 : DC mX12_reduces 55 (.ifCond .eq 7) 3 58 := ⟨by decide +kernel, rfl⟩
theorem d_X12_reduces_58 : DC mX12_reduces 58 (.iconst 1) 1 59 := ⟨by decide +kernel, rfl⟩
theorem d_X12_reduces_59 : DC mX12_reduces 59 (.goto 4) 3 62 := ⟨by decide +kernel, rfl⟩
theorem d_X12_reduces_62 : DC mX12_reduces 62 (.iconst 0) 1 63 := ⟨by decide +kernel, rfl⟩
theorem d_X12_reduces_63 : DC mX12_reduces 63 (.istore_n 3) 1 64 := ⟨by decide +kernel, rfl⟩
theorem d_X12_reduces_64 : DC mX12_reduces 64 (.iinc 4 1) 3 67 := ⟨by decide +kernel, rfl⟩
theorem d_X12_reduces_67 : DC mX12_reduces 67 (.goto (-45)) 3 70 := ⟨by decide +kernel, rfl⟩
theorem d_X12_reduces_70 : DC mX12_reduces 70 (.iload_n 3) 1 71 := ⟨by decide +kernel, rfl⟩
theorem d_X12_reduces_71 : DC mX12_reduces 71 (.ifCond .eq 22) 3 74 := ⟨by decide +kernel, rfl⟩
theorem d_X12_reduces_74 : DC mX12_reduces 74 (.aload_n 0) 1 75 := ⟨by decide +kernel, rfl⟩
theorem d_X12_reduces_75 : DC mX12_reduces 75 (.iconst 0) 1 76 := ⟨by decide +kernel, rfl⟩
theorem d_X12_reduces_76 : DC mX12_reduces 76 (.aload_n 0) 1 77 := ⟨by decide +kernel, rfl⟩
theorem d_X12_reduces_77 : DC mX12_reduces 77 (.iconst 1) 1 78 := ⟨by decide +kernel, rfl⟩
theorem d_X12_reduces_78 : DC mX12_reduces 78 (.iload_n 2) 1 79 := ⟨by decide +kernel, rfl⟩
theorem d_X12_reduces_79 : DC mX12_reduces 79 (.invokevirtual 117) 3 82 := ⟨by decide +kernel, rfl⟩
theorem d_X12_reduces_82 : DC mX12_reduces 82 (.aload_n 0) 1 83 := ⟨by decide +kernel, rfl⟩
theorem d_X12_reduces_83 : DC mX12_reduces 83 (.iconst 1) 1 84 := ⟨by decide +kernel, rfl⟩
theorem d_X12_reduces_84 : DC mX12_reduces 84 (.iload_n 2) 1 85 := ⟨by decide +kernel, rfl⟩
theorem d_X12_reduces_85 : DC mX12_reduces 85 (.invokevirtual 132) 3 88 := ⟨by decide +kernel, rfl⟩
theorem d_X12_reduces_88 : DC mX12_reduces 88 (.i2l) 1 89 := ⟨by decide +kernel, rfl⟩
theorem d_X12_reduces_89 : DC mX12_reduces 89 (.invokevirtual 147) 3 92 := ⟨by decide +kernel, rfl⟩
theorem d_X12_reduces_92 : DC mX12_reduces 92 (.pop) 1 93 := ⟨by decide +kernel, rfl⟩
theorem d_X12_reduces_93 : DC mX12_reduces 93 (.iinc 2 1) 3 96 := ⟨by decide +kernel, rfl⟩
theorem d_X12_reduces_96 : DC mX12_reduces 96 (.goto (-88)) 3 99 := ⟨by decide +kernel, rfl⟩
theorem d_X12_reduces_99 : DC mX12_reduces 99 (.return_) 1 100 := ⟨by decide +kernel, rfl⟩
theorem d_X12_reduce_0 : DC mX12_reduce 0 (.aload_n 0) 1 1 := ⟨by decide +kernel, rfl⟩
theorem d_X12_reduce_1 : DC mX12_reduce 1 (.iconst 0) 1 2 := ⟨by decide +kernel, rfl⟩
theorem d_X12_reduce_2 : DC mX12_reduce 2 (.putfield 1) 3 5 := ⟨by decide +kernel, rfl⟩
theorem d_X12_reduce_5 : DC mX12_reduce 5 (.iload_n 1) 1 6 := ⟨by decide +kernel, rfl⟩
theorem d_X12_reduce_6 : DC mX12_reduce 6 (.invokestatic 199) 3 9 := ⟨by decide +kernel, rfl⟩
theorem d_X12_reduce_9 : DC mX12_reduce 9 (.ifCond .eq 10) 3 12 := ⟨by decide +kernel, rfl⟩
theorem d_X12_reduce_12 : DC mX12_reduce 12 (.iload_n 2) 1 13 := ⟨by decide +kernel, rfl⟩
theorem d_X12_reduce_13 : DC mX12_reduce 13 (.invokestatic 199) 3 16 := ⟨by decide +kernel, rfl⟩
theorem d_X12_reduce_16 : DC mX12_reduce 16 (.ifCond .ne 6) 3 19 := ⟨by decide +kernel, rfl⟩
theorem d_X12_reduce_19 : DC mX12_reduce 19 (.bipush (-2)) 2 21 := ⟨by decide +kernel, rfl⟩
theorem d_X12_reduce_21 : DC mX12_reduce 21 (.ireturn) 1 22 := ⟨by decide +kernel, rfl⟩
theorem d_X12_reduce_22 : DC mX12_reduce 22 (.aload_n 0) 1 23 := ⟨by decide +kernel, rfl⟩
theorem d_X12_reduce_23 : DC mX12_reduce 23 (.invokevirtual 202) 3 26 := ⟨by decide +kernel, rfl⟩
theorem d_X12_reduce_26 : DC mX12_reduce 26 (.aload_n 0) 1 27 := ⟨by decide +kernel, rfl⟩
theorem d_X12_reduce_27 : DC mX12_reduce 27 (.iload_n 2) 1 28 := ⟨by decide +kernel, rfl⟩
theorem d_X12_reduce_28 : DC mX12_reduce 28 (.invokevirtual 247) 3 31 := ⟨by decide +kernel, rfl⟩
theorem d_X12_reduce_31 : DC mX12_reduce 31 (.aload_n 0) 1 32 := ⟨by decide +kernel, rfl⟩
theorem d_X12_reduce_32 : DC mX12_reduce 32 (.iload_n 1) 1 33 := ⟨by decide +kernel, rfl⟩
theorem d_X12_reduce_33 : DC mX12_reduce 33 (.invokevirtual 190) 3 36 := ⟨by decide +kernel, rfl⟩
theorem d_X12_reduce_36 : DC mX12_reduce 36 (.ireturn) 1 37 := ⟨by decide +kernel, rfl⟩
theorem d_X12_fact_0 : DC mX12_fact 0 (.aload_n 0) 1 1 := ⟨by decide +kernel, rfl⟩
theorem d_X12_fact_1 : DC mX12_fact 1 (.iconst 0) 1 2 := ⟨by decide +kernel, rfl⟩
theorem d_X12_fact_2 : DC mX12_fact 2 (.putfield 1) 3 5 := ⟨by decide +kernel, rfl⟩
theorem d_X12_fact_5 : DC mX12_fact 5 (.iload_n 1) 1 6 := ⟨by decide +kernel, rfl⟩
theorem d_X12_fact_6 : DC mX12_fact 6 (.invokestatic 208) 3 9 := ⟨by decide +kernel, rfl⟩
theorem d_X12_fact_9 : DC mX12_fact 9 (.ifCond .eq 17) 3 12 := ⟨by decide +kernel, rfl⟩
theorem d_X12_fact_12 : DC mX12_fact 12 (.iload_n 2) 1 13 := ⟨by decide +kernel, rfl⟩
theorem d_X12_fact_13 : DC mX12_fact 13 (.invokestatic 208) 3 16 := ⟨by decide +kernel, rfl⟩
theorem d_X12_fact_16 : DC mX12_fact 16 (.ifCond .eq 10) 3 19 := ⟨by decide +kernel, rfl⟩
theorem d_X12_fact_19 : DC mX12_fact 19 (.iload_n 3) 1 20 := ⟨by decide +kernel, rfl⟩
theorem d_X12_fact_20 : DC mX12_fact 20 (.invokestatic 208) 3 23 := ⟨by decide +kernel, rfl⟩
theorem d_X12_fact_23 : DC mX12_fact 23 (.ifCond .ne 6) 3 26 := ⟨by decide +kernel, rfl⟩
theorem d_X12_fact_26 : DC mX12_fact 26 (.bipush (-2)) 2 28 := ⟨by decide +kernel, rfl⟩
theorem d_X12_fact_28 : DC mX12_fact 28 (.ireturn) 1 29 := ⟨by decide +kernel, rfl⟩
theorem d_X12_fact_29 : DC mX12_fact 29 (.aload_n 0) 1 30 := ⟨by decide +kernel, rfl⟩
theorem d_X12_fact_30 : DC mX12_fact 30 (.getfield 13) 3 33 := ⟨by decide +kernel, rfl⟩
theorem d_X12_fact_33 : DC mX12_fact 33 (.bipush 100) 2 35 := ⟨by decide +kernel, rfl⟩
theorem d_X12_fact_35 : DC mX12_fact 35 (.iload_n 1) 1 36 := ⟨by decide +kernel, rfl⟩
theorem d_X12_fact_36 : DC mX12_fact 36 (.imul) 1 37 := ⟨by decide +kernel, rfl⟩
theorem d_X12_fact_37 : DC mX12_fact 37 (.bipush 10) 2 39 := ⟨by decide +kernel, rfl⟩
theorem d_X12_fact_39 : DC mX12_fact 39 (.iload_n 2) 1 40 := ⟨by decide +kernel, rfl⟩
theorem d_X12_fact_40 : DC mX12_fact 40 (.imul) 1 41 := ⟨by decide +kernel, rfl⟩
theorem d_X12_fact_41 : DC mX12_fact 41 (.iadd) 1 42 := ⟨by decide +kernel, rfl⟩
theorem d_X12_fact_42 : DC mX12_fact 42 (.iload_n 3) 1 43 := ⟨by decide +kernel, rfl⟩
theorem d_X12_fact_43 : DC mX12_fact 43 (.iadd) 1 44 := ⟨by decide +kernel, rfl⟩
theorem d_X12_fact_44 : DC mX12_fact 44 (.iaload) 1 45 := ⟨by decide +kernel, rfl⟩
theorem d_X12_fact_45 : DC mX12_fact 45 (.invokestatic 168) 3 48 := ⟨by decide +kernel, rfl⟩
theorem d_X12_fact_48 : DC mX12_fact 48 (.istore 5) 2 50 := ⟨by decide +kernel, rfl⟩
theorem d_X12_fact_50 : DC mX12_fact 50 (.iload 4) 2 52 := ⟨by decide +kernel, rfl⟩
theorem d_X12_fact_52 : DC mX12_fact 52 (.i2l) 1 53 := ⟨by decide +kernel, rfl⟩
theorem d_X12_fact_53 : DC mX12_fact 53 (.lconst 0) 1 54 := ⟨by decide +kernel, rfl⟩
theorem d_X12_fact_54 : DC mX12_fact 54 (.ldc2_w 250) 3 57 := ⟨by decide +kernel, rfl⟩
theorem d_X12_fact_57 : DC mX12_fact 57 (.invokestatic 91) 3 60 := ⟨by decide +kernel, rfl⟩
theorem d_X12_fact_60 : DC mX12_fact 60 (.ifCond .eq 8) 3 63 := ⟨by decide +kernel, rfl⟩
theorem d_X12_fact_63 : DC mX12_fact 63 (.iload 5) 2 65 := ⟨by decide +kernel, rfl⟩
theorem d_X12_fact_65 : DC mX12_fact 65 (.ifCond .ne 6) 3 68 := ⟨by decide +kernel, rfl⟩
theorem d_X12_fact_68 : DC mX12_fact 68 (.bipush (-3)) 2 70 := ⟨by decide +kernel, rfl⟩
theorem d_X12_fact_70 : DC mX12_fact 70 (.ireturn) 1 71 := ⟨by decide +kernel, rfl⟩
theorem d_X12_fact_71 : DC mX12_fact 71 (.aload_n 0) 1 72 := ⟨by decide +kernel, rfl⟩
theorem d_X12_fact_72 : DC mX12_fact 72 (.invokevirtual 196) 3 75 := ⟨by decide +kernel, rfl⟩
theorem d_X12_fact_75 : DC mX12_fact 75 (.aload_n 0) 1 76 := ⟨by decide +kernel, rfl⟩
theorem d_X12_fact_76 : DC mX12_fact 76 (.iload 5) 2 78 := ⟨by decide +kernel, rfl⟩
theorem d_X12_fact_78 : DC mX12_fact 78 (.invokevirtual 244) 3 81 := ⟨by decide +kernel, rfl⟩
theorem d_X12_fact_81 : DC mX12_fact 81 (.istore 6) 2 83 := ⟨by decide +kernel, rfl⟩
theorem d_X12_fact_83 : DC mX12_fact 83 (.aload_n 0) 1 84 := ⟨by decide +kernel, rfl⟩
theorem d_X12_fact_84 : DC mX12_fact 84 (.getfield 20) 3 87 := ⟨by decide +kernel, rfl⟩
theorem d_X12_fact_87 : DC mX12_fact 87 (.sipush 996) 3 90 := ⟨by decide +kernel, rfl⟩
theorem d_X12_fact_90 : DC mX12_fact 90 (.iload 5) 2 92 := ⟨by decide +kernel, rfl⟩
theorem d_X12_fact_92 : DC mX12_fact 92 (.iadd) 1 93 := ⟨by decide +kernel, rfl⟩
theorem d_X12_fact_93 : DC mX12_fact 93 (.iconst 1) 1 94 := ⟨by decide +kernel, rfl⟩
theorem d_X12_fact_94 : DC mX12_fact 94 (.isub) 1 95 := ⟨by decide +kernel, rfl⟩
theorem d_X12_fact_95 : DC mX12_fact 95 (.iload 4) 2 97 := ⟨by decide +kernel, rfl⟩
theorem d_X12_fact_97 : DC mX12_fact 97 (.iastore) 1 98 := ⟨by decide +kernel, rfl⟩
theorem d_X12_fact_98 : DC mX12_fact 98 (.iload 6) 2 100 := ⟨by decide +kernel, rfl⟩
theorem d_X12_fact_100 : DC mX12_fact 100 (.ireturn) 1 101 := ⟨by decide +kernel, rfl⟩
theorem d_X12_place_0 : DC mX12_place 0 (.aload_n 0) 1 1 := ⟨by decide +kernel, rfl⟩
theorem d_X12_place_1 : DC mX12_place 1 (.iconst 0) 1 2 := ⟨by decide +kernel, rfl⟩
theorem d_X12_place_2 : DC mX12_place 2 (.putfield 1) 3 5 := ⟨by decide +kernel, rfl⟩
theorem d_X12_place_5 : DC mX12_place 5 (.iload_n 1) 1 6 := ⟨by decide +kernel, rfl⟩
theorem d_X12_place_6 : DC mX12_place 6 (.invokestatic 208) 3 9 := ⟨by decide +kernel, rfl⟩
theorem d_X12_place_9 : DC mX12_place 9 (.ifCond .ne 6) 3 12 := ⟨by decide +kernel, rfl⟩
theorem d_X12_place_12 : DC mX12_place 12 (.bipush (-2)) 2 14 := ⟨by decide +kernel, rfl⟩
theorem d_X12_place_14 : DC mX12_place 14 (.ireturn) 1 15 := ⟨by decide +kernel, rfl⟩
theorem d_X12_place_15 : DC mX12_place 15 (.iload_n 2) 1 16 := ⟨by decide +kernel, rfl⟩
theorem d_X12_place_16 : DC mX12_place 16 (.i2l) 1 17 := ⟨by decide +kernel, rfl⟩
theorem d_X12_place_17 : DC mX12_place 17 (.ldc2_w 221) 3 20 := ⟨by decide +kernel, rfl⟩
theorem d_X12_place_20 : DC mX12_place 20 (.ldc2_w 223) 3 23 := ⟨by decide +kernel, rfl⟩
theorem d_X12_place_23 : DC mX12_place 23 (.invokestatic 91) 3 26 := ⟨by decide +kernel, rfl⟩
theorem d_X12_place_26 : DC mX12_place 26 (.ifCond .eq 32) 3 29 := ⟨by decide +kernel, rfl⟩
theorem d_X12_place_29 : DC mX12_place 29 (.iload_n 3) 1 30 := ⟨by decide +kernel, rfl⟩
theorem d_X12_place_30 : DC mX12_place 30 (.i2l) 1 31 := ⟨by decide +kernel, rfl⟩
theorem d_X12_place_31 : DC mX12_place 31 (.ldc2_w 221) 3 34 := ⟨by decide +kernel, rfl⟩
theorem d_X12_place_34 : DC mX12_place 34 (.ldc2_w 223) 3 37 := ⟨by decide +kernel, rfl⟩
theorem d_X12_place_37 : DC mX12_place 37 (.invokestatic 91) 3 40 := ⟨by decide +kernel, rfl⟩
theorem d_X12_place_40 : DC mX12_place 40 (.ifCond .eq 18) 3 43 := ⟨by decide +kernel, rfl⟩
theorem d_X12_place_43 : DC mX12_place 43 (.iload 4) 2 45 := ⟨by decide +kernel, rfl⟩
theorem d_X12_place_45 : DC mX12_place 45 (.i2l) 1 46 := ⟨by decide +kernel, rfl⟩
theorem d_X12_place_46 : DC mX12_place 46 (.ldc2_w 221) 3 49 := ⟨by decide +kernel, rfl⟩
theorem d_X12_place_49 : DC mX12_place 49 (.ldc2_w 223) 3 52 := ⟨by decide +kernel, rfl⟩
theorem d_X12_place_52 : DC mX12_place 52 (.invokestatic 91) 3 55 := ⟨by decide +kernel, rfl⟩
theorem d_X12_place_55 : DC mX12_place 55 (.ifCond .ne 6) 3 58 := ⟨by decide +kernel, rfl⟩
theorem d_X12_place_58 : DC mX12_place 58 (.bipush (-3)) 2 60 := ⟨by decide +kernel, rfl⟩
theorem d_X12_place_60 : DC mX12_place 60 (.ireturn) 1 61 := ⟨by decide +kernel, rfl⟩
theorem d_X12_place_61 : DC mX12_place 61 (.aload_n 0) 1 62 := ⟨by decide +kernel, rfl⟩
theorem d_X12_place_62 : DC mX12_place 62 (.invokevirtual 196) 3 65 := ⟨by decide +kernel, rfl⟩
theorem d_X12_place_65 : DC mX12_place 65 (.aload_n 0) 1 66 := ⟨by decide +kernel, rfl⟩
theorem d_X12_place_66 : DC mX12_place 66 (.getfield 20) 3 69 := ⟨by decide +kernel, rfl⟩
theorem d_X12_place_69 : DC mX12_place 69 (.sipush 966) 3 72 := ⟨by decide +kernel, rfl⟩
theorem d_X12_place_72 : DC mX12_place 72 (.iconst 3) 1 73 := ⟨by decide +kernel, rfl⟩
theorem d_X12_place_73 : DC mX12_place 73 (.iload_n 1) 1 74 := ⟨by decide +kernel, rfl⟩
theorem d_X12_place_74 : DC mX12_place 74 (.imul) 1 75 := ⟨by decide +kernel, rfl⟩
theorem d_X12_place_75 : DC mX12_place 75 (.iadd) 1 76 := ⟨by decide +kernel, rfl⟩
theorem d_X12_place_76 : DC mX12_place 76 (.iload_n 2) 1 77 := ⟨by decide +kernel, rfl⟩
theorem d_X12_place_77 : DC mX12_place 77 (.iastore) 1 78 := ⟨by decide +kernel, rfl⟩
theorem d_X12_place_78 : DC mX12_place 78 (.aload_n 0) 1 79 := ⟨by decide +kernel, rfl⟩
theorem d_X12_place_79 : DC mX12_place 79 (.getfield 20) 3 82 := ⟨by decide +kernel, rfl⟩
theorem d_X12_place_82 : DC mX12_place 82 (.sipush 966) 3 85 := ⟨by decide +kernel, rfl⟩
theorem d_X12_place_85 : DC mX12_place 85 (.iconst 3) 1 86 := ⟨by decide +kernel, rfl⟩
theorem d_X12_place_86 : DC mX12_place 86 (.iload_n 1) 1 87 := ⟨by decide +kernel, rfl⟩
theorem d_X12_place_87 : DC mX12_place 87 (.imul) 1 88 := ⟨by decide +kernel, rfl⟩
theorem d_X12_place_88 : DC mX12_place 88 (.iadd) 1 89 := ⟨by decide +kernel, rfl⟩
theorem d_X12_place_89 : DC mX12_place 89 (.iconst 1) 1 90 := ⟨by decide +kernel, rfl⟩
theorem d_X12_place_90 : DC mX12_place 90 (.iadd) 1 91 := ⟨by decide +kernel, rfl⟩
theorem d_X12_place_91 : DC mX12_place 91 (.iload_n 3) 1 92 := ⟨by decide +kernel, rfl⟩
theorem d_X12_place_92 : DC mX12_place 92 (.iastore) 1 93 := ⟨by decide +kernel, rfl⟩
theorem d_X12_place_93 : DC mX12_place 93 (.aload_n 0) 1 94 := ⟨by decide +kernel, rfl⟩
theorem d_X12_place_94 : DC mX12_place 94 (.getfield 20) 3 97 := ⟨by decide +kernel, rfl⟩
theorem d_X12_place_97 : DC mX12_place 97 (.sipush 966) 3 100 := ⟨by decide +kernel, rfl⟩
theorem d_X12_place_100 : DC mX12_place 100 (.iconst 3) 1 101 := ⟨by decide +kernel, rfl⟩
theorem d_X12_place_101 : DC mX12_place 101 (.iload_n 1) 1 102 := ⟨by decide +kernel, rfl⟩
theorem d_X12_place_102 : DC mX12_place 102 (.imul) 1 103 := ⟨by decide +kernel, rfl⟩
theorem d_X12_place_103 : DC mX12_place 103 (.iadd) 1 104 := ⟨by decide +kernel, rfl⟩
theorem d_X12_place_104 : DC mX12_place 104 (.iconst 2) 1 105 := ⟨by decide +kernel, rfl⟩
theorem d_X12_place_105 : DC mX12_place 105 (.iadd) 1 106 := ⟨by decide +kernel, rfl⟩
theorem d_X12_place_106 : DC mX12_place 106 (.iload 4) 2 108 := ⟨by decide +kernel, rfl⟩
theorem d_X12_place_108 : DC mX12_place 108 (.iastore) 1 109 := ⟨by decide +kernel, rfl⟩
theorem d_X12_place_109 : DC mX12_place 109 (.iconst 0) 1 110 := ⟨by decide +kernel, rfl⟩
theorem d_X12_place_110 : DC mX12_place 110 (.ireturn) 1 111 := ⟨by decide +kernel, rfl⟩
theorem v_X12_lastBroken_0 {l : Launch} {d N : Nat} {Λ : Lay} {P : Int → Mem → Prop} {σ : Mem} {x1 t t_pool : Int} (o_t : Ob N Λ t 21 36) (f_t_pool : (Λ t).2.2 7 = t_pool) (h0d : 1 ≤ d)
    (h : (Ix N Λ t_pool 0 (mulI 161 x1) ∧ (∀ y1, y1 = (subI (σ t_pool (mulI 161 x1)) 1) → WI l mX12_lastBroken d P 8 [(2, t), (0, x1), (0, y1)] [] N Λ σ))) :
    WI l mX12_lastBroken d P 0 [(2, t), (0, x1), (3, 0)] [] N Λ σ := by
  have hd_1 : 1 ≤ d := Nat.le_trans (by decide) h0d
  refine r_aload_n (x := t) d_X12_lastBroken_0 rfl o_t.1 ?_
  refine r_iload_n (x := x1) d_X12_lastBroken_1 rfl ?_
  refine x_callVI (Y2 := mX12_many) (c := t) (As := [(0, x1)]) (S := []) d_X12_lastBroken_2 ok_mX12_many ml_X12_113 rfl (Nat.le_of_ble_eq_true rfl) (Nat.le_of_ble_eq_true rfl) rfl hd_1 kX12 o_t (c_X12_many (v_X12_many_0 o_t f_t_pool ?_))
  refine ⟨h.1, ?_⟩
  have h := h.2
  show WP l mX12_lastBroken (rm d 0 0) noX _ 0 0 5 [(2, t), (0, x1), (3, 0)] [(0, (σ t_pool (mulI 161 x1)))] N Λ σ
  refine r_iconst (x := 1) d_X12_lastBroken_5 ⟨by decide, by decide⟩ ?_
  refine r_isub d_X12_lastBroken_6 ?_
  refine r_nm (fun y1 ey1 => ?_)
  have h := h y1 ey1
  refine r_istore_n (L2 := [(2, t), (0, x1), (0, y1)]) d_X12_lastBroken_7 (by decide) rfl rfl ?_
  exact h
theorem v_X12_lastBroken_8 {l : Launch} {d N : Nat} {Λ : Lay} {P : Int → Mem → Prop} {σ : Mem} {x1 x2 t t_pool : Int} (o_t : Ob N Λ t 21 36) (f_t_pool : (Λ t).2.2 7 = t_pool) (h0d : 1 ≤ d)
    (h : ((x2 < 0 → P (-1) σ) ∧ (¬ (x2 < 0) → (Ix N Λ t_pool 0 (addI (addI (mulI 161 x1) 1) (mulI 2 x2)) ∧ (CI l mX12_brokenIn (d - 1) [(2, t), (0, (σ t_pool (addI (addI (mulI 161 x1) 1) (mulI 2 x2))))] N Λ σ (fun v2 σ1 => ((v2 = (-1) → (∀ y3, y3 = addI x2 (-1) → WI l mX12_lastBroken d P 8 [(2, t), (0, x1), (0, y3)] [] N Λ σ1)) ∧ (¬ (v2 = (-1)) → P x2 σ1)))))))) :
    WI l mX12_lastBroken d P 8 [(2, t), (0, x1), (0, x2)] [] N Λ σ := by
  have hd_1 : 1 ≤ d := Nat.le_trans (by decide) h0d
  refine r_iload_n (x := x2) d_X12_lastBroken_8 rfl ?_
  refine r_if_lt (tgt := 34) d_X12_lastBroken_9 rfl (fun hc => ?_) (fun hc => ?_)
  · have h := h.1 hc
    refine r_iconst (x := (-1)) d_X12_lastBroken_34 ⟨by decide, by decide⟩ ?_
    exact r_iret d_X12_lastBroken_35 rfl rfl (Nat.le_refl 0) (Nat.le_refl 0) ⟨_, rfl, rfl, rfl, h⟩
  · have h := h.2 hc
    refine r_aload_n (x := t) d_X12_lastBroken_12 rfl o_t.1 ?_
    refine r_aload_n (x := t) d_X12_lastBroken_13 rfl o_t.1 ?_
    refine r_iload_n (x := x1) d_X12_lastBroken_14 rfl ?_
    refine r_iload_n (x := x2) d_X12_lastBroken_15 rfl ?_
    refine x_callVI (Y2 := mX12_key) (c := t) (As := [(0, x1), (0, x2)]) (S := [(2, t)]) d_X12_lastBroken_16 ok_mX12_key ml_X12_117 rfl (Nat.le_of_ble_eq_true rfl) (Nat.le_of_ble_eq_true rfl) rfl hd_1 kX12 o_t (c_X12_key (v_X12_key_0 o_t f_t_pool ?_))
    refine ⟨h.1, ?_⟩
    have h := h.2
    show WP l mX12_lastBroken (rm d 0 0) noX _ 0 0 19 [(2, t), (0, x1), (0, x2)] [(0, (σ t_pool (addI (addI (mulI 161 x1) 1) (mulI 2 x2)))), (2, t)] N Λ σ
    refine x_callVI (Y2 := mX12_brokenIn) (c := t) (As := [(0, (σ t_pool (addI (addI (mulI 161 x1) 1) (mulI 2 x2))))]) (S := []) d_X12_lastBroken_19 ok_mX12_brokenIn ml_X12_171 rfl (Nat.le_of_ble_eq_true rfl) (Nat.le_of_ble_eq_true rfl) rfl hd_1 kX12 o_t (CI.mono h (fun v2 σ1 h => ?_))
    refine r_iconst (x := (-1)) d_X12_lastBroken_22 ⟨by decide, by decide⟩ ?_
    refine r_ic_eq (tgt := 28) d_X12_lastBroken_23 rfl (fun hc => ?_) (fun hc => ?_)
    · have h := h.1 hc
      refine x_iinc (x := x2) (L := [(2, t), (0, x1), (0, x2)]) d_X12_lastBroken_28 rfl (by decide) rfl (fun y3 ey3 => ?_)
      have h := h y3 ey3
      show WP _ _ _ _ _ _ _ _ [(2, t), (0, x1), (0, y3)] _ _ _ _
      refine r_goto (tgt := 8) d_X12_lastBroken_31 rfl ?_
      exact h
    · have h := h.2 hc
      refine r_iload_n (x := x2) d_X12_lastBroken_26 rfl ?_
      exact r_iret d_X12_lastBroken_27 rfl rfl (Nat.le_refl 0) (Nat.le_refl 0) ⟨_, rfl, rfl, rfl, h⟩
theorem v_X12_steps_0 {l : Launch} {d N : Nat} {Λ : Lay} {P : Mem → Prop} {σ : Mem} {x1 x2 t t_pool : Int} (o_t : Ob N Λ t 21 36) (f_t_pool : (Λ t).2.2 7 = t_pool) (h0d : 1 ≤ d)
    (h : (Ix N Λ t_pool 0 (addI (addI (mulI 161 x1) 1) (mulI 2 x2)) ∧ (∀ y1, y1 = (σ t_pool (addI (addI (mulI 161 x1) 1) (mulI 2 x2))) → (Ix N Λ t_pool 0 (addI (addI (mulI 161 x1) 2) (mulI 2 x2)) ∧ (∀ y2, y2 = (σ t_pool (addI (addI (mulI 161 x1) 2) (mulI 2 x2))) → (CI l mX12_brokenIn (d - 1) [(2, t), (0, y1)] N Λ σ (fun v4 σ3 => (CI l mX12_rankIn (d - 1) [(0, y1), (0, v4)] N Λ σ3 (fun v6 σ5 => (CI l mX12_rankIn (d - 1) [(0, y1), (0, (addI v4 1))] N Λ σ5 (fun v8 σ7 => WV l mX12_steps d P 44 [(2, t), (0, x1), (0, x2), (0, y1), (1, y2), (3, 0), (0, v4), (0, v6), (0, v8), (0, 0), (3, 0)] [] N Λ σ7))))))))))) :
    WV l mX12_steps d P 0 [(2, t), (0, x1), (0, x2), (3, 0), (3, 0), (3, 0), (3, 0), (3, 0), (3, 0), (3, 0), (3, 0)] [] N Λ σ := by
  have hd_1 : 1 ≤ d := Nat.le_trans (by decide) h0d
  refine r_aload_n (x := t) d_X12_steps_0 rfl o_t.1 ?_
  refine r_iload_n (x := x1) d_X12_steps_1 rfl ?_
  refine r_iload_n (x := x2) d_X12_steps_2 rfl ?_
  refine x_callVI (Y2 := mX12_key) (c := t) (As := [(0, x1), (0, x2)]) (S := []) d_X12_steps_3 ok_mX12_key ml_X12_117 rfl (Nat.le_of_ble_eq_true rfl) (Nat.le_of_ble_eq_true rfl) rfl hd_1 kX12 o_t (c_X12_key (v_X12_key_0 o_t f_t_pool ?_))
  refine ⟨h.1, ?_⟩
  have h := h.2
  show WP l mX12_steps (rm d 0 0) noX _ 0 0 6 [(2, t), (0, x1), (0, x2), (3, 0), (3, 0), (3, 0), (3, 0), (3, 0), (3, 0), (3, 0), (3, 0)] [(0, (σ t_pool (addI (addI (mulI 161 x1) 1) (mulI 2 x2))))] N Λ σ
  refine r_nm (fun y1 ey1 => ?_)
  have h := h y1 ey1
  refine r_istore_n (L2 := [(2, t), (0, x1), (0, x2), (0, y1), (3, 0), (3, 0), (3, 0), (3, 0), (3, 0), (3, 0), (3, 0)]) d_X12_steps_6 (by decide) rfl rfl ?_
  refine r_aload_n (x := t) d_X12_steps_7 rfl o_t.1 ?_
  refine r_iload_n (x := x1) d_X12_steps_8 rfl ?_
  refine r_iload_n (x := x2) d_X12_steps_9 rfl ?_
  refine x_callVI (Y2 := mX12_number) (c := t) (As := [(0, x1), (0, x2)]) (S := []) d_X12_steps_10 ok_mX12_number ml_X12_132 rfl (Nat.le_of_ble_eq_true rfl) (Nat.le_of_ble_eq_true rfl) rfl hd_1 kX12 o_t (c_X12_number (v_X12_number_0 o_t f_t_pool ?_))
  refine ⟨h.1, ?_⟩
  have h := h.2
  show WP l mX12_steps (rm d 0 0) noX _ 0 0 13 [(2, t), (0, x1), (0, x2), (0, y1), (3, 0), (3, 0), (3, 0), (3, 0), (3, 0), (3, 0), (3, 0)] [(0, (σ t_pool (addI (addI (mulI 161 x1) 2) (mulI 2 x2))))] N Λ σ
  refine r_i2l d_X12_steps_13 ?_
  refine r_nm (fun y2 ey2 => ?_)
  have h := h y2 ey2
  refine r_lstore (L2 := [(2, t), (0, x1), (0, x2), (0, y1), (1, y2), (3, 0), (3, 0), (3, 0), (3, 0), (3, 0), (3, 0)]) d_X12_steps_14 (by decide) rfl rfl ?_
  refine r_aload_n (x := t) d_X12_steps_16 rfl o_t.1 ?_
  refine r_iload_n (x := y1) d_X12_steps_17 rfl ?_
  refine x_callVI (Y2 := mX12_brokenIn) (c := t) (As := [(0, y1)]) (S := []) d_X12_steps_18 ok_mX12_brokenIn ml_X12_171 rfl (Nat.le_of_ble_eq_true rfl) (Nat.le_of_ble_eq_true rfl) rfl hd_1 kX12 o_t (CI.mono h (fun v4 σ3 h => ?_))
  refine r_istore (L2 := [(2, t), (0, x1), (0, x2), (0, y1), (1, y2), (3, 0), (0, v4), (3, 0), (3, 0), (3, 0), (3, 0)]) d_X12_steps_21 (by decide) rfl rfl ?_
  refine r_iload_n (x := y1) d_X12_steps_23 rfl ?_
  refine r_iload (x := v4) d_X12_steps_24 rfl ?_
  refine x_callSI (Y2 := mX12_rankIn) (As := [(0, y1), (0, v4)]) (S := []) d_X12_steps_26 ok_mX12_rankIn ml_X12_135 rfl (Nat.le_of_ble_eq_true rfl) (Nat.le_of_ble_eq_true rfl) rfl hd_1 (CI.mono h (fun v6 σ5 h => ?_))
  refine r_istore (L2 := [(2, t), (0, x1), (0, x2), (0, y1), (1, y2), (3, 0), (0, v4), (0, v6), (3, 0), (3, 0), (3, 0)]) d_X12_steps_29 (by decide) rfl rfl ?_
  refine r_iload_n (x := y1) d_X12_steps_31 rfl ?_
  refine r_iload (x := v4) d_X12_steps_32 rfl ?_
  refine r_iconst (x := 1) d_X12_steps_34 ⟨by decide, by decide⟩ ?_
  refine r_iadd d_X12_steps_35 ?_
  refine x_callSI (Y2 := mX12_rankIn) (As := [(0, y1), (0, (addI v4 1))]) (S := []) d_X12_steps_36 ok_mX12_rankIn ml_X12_135 rfl (Nat.le_of_ble_eq_true rfl) (Nat.le_of_ble_eq_true rfl) rfl hd_1 (CI.mono h (fun v8 σ7 h => ?_))
  refine r_istore (L2 := [(2, t), (0, x1), (0, x2), (0, y1), (1, y2), (3, 0), (0, v4), (0, v6), (0, v8), (3, 0), (3, 0)]) d_X12_steps_39 (by decide) rfl rfl ?_
  refine r_iconst (x := 0) d_X12_steps_41 ⟨by decide, by decide⟩ ?_
  refine r_istore (L2 := [(2, t), (0, x1), (0, x2), (0, y1), (1, y2), (3, 0), (0, v4), (0, v6), (0, v8), (0, 0), (3, 0)]) d_X12_steps_42 (by decide) rfl rfl ?_
  exact h
theorem v_X12_steps_44 {l : Launch} {d N : Nat} {Λ : Lay} {P : Mem → Prop} {σ : Mem} {x1 x2 x3 x4 x6 x7 x8 x9 t t_letterOf t_rowX t_rowY : Int} (o_t : Ob N Λ t 21 36) (f_t_rowX : (Λ t).2.2 10 = t_rowX) (f_t_letterOf : (Λ t).2.2 2 = t_letterOf) (f_t_rowY : (Λ t).2.2 11 = t_rowY)
    (h : ((3 ≤ x9 → WV l mX12_steps d P 100 [(2, t), (0, x1), (0, x2), (0, x3), (1, x4), (3, 0), (0, x6), (0, x7), (0, x8), (0, 0), (0, 0)] [] N Λ σ) ∧ (¬ (3 ≤ x9) → (Ix N Λ t_letterOf 0 (addI (mulI 3 x7) x9) ∧ (Ix N Λ t_rowX 0 x9 ∧ (∀ τ1, τ1 = st σ t_rowX x9 (σ t_letterOf (addI (mulI 3 x7) x9)) → (Ix N Λ t_letterOf 0 (addI (mulI 3 x8) x9) ∧ (Ix N Λ t_rowY 0 x9 ∧ (∀ τ2, τ2 = st τ1 t_rowY x9 (τ1 t_letterOf (addI (mulI 3 x8) x9)) → (∀ y3, y3 = addI x9 1 → WV l mX12_steps d P 44 [(2, t), (0, x1), (0, x2), (0, x3), (1, x4), (3, 0), (0, x6), (0, x7), (0, x8), (0, y3), (3, 0)] [] N Λ τ2)))))))))) :
    WV l mX12_steps d P 44 [(2, t), (0, x1), (0, x2), (0, x3), (1, x4), (3, 0), (0, x6), (0, x7), (0, x8), (0, x9), (3, 0)] [] N Λ σ := by
  refine r_iload (x := x9) d_X12_steps_44 rfl ?_
  refine r_iconst (x := 3) d_X12_steps_46 ⟨by decide, by decide⟩ ?_
  refine r_ic_ge (tgt := 94) d_X12_steps_47 rfl (fun hc => ?_) (fun hc => ?_)
  · have h := h.1 hc
    refine r_iconst (x := 0) d_X12_steps_94 ⟨by decide, by decide⟩ ?_
    refine r_istore (L2 := [(2, t), (0, x1), (0, x2), (0, x3), (1, x4), (3, 0), (0, x6), (0, x7), (0, x8), (0, 0), (3, 0)]) d_X12_steps_95 (by decide) rfl rfl ?_
    refine r_iconst (x := 0) d_X12_steps_97 ⟨by decide, by decide⟩ ?_
    refine r_istore (L2 := [(2, t), (0, x1), (0, x2), (0, x3), (1, x4), (3, 0), (0, x6), (0, x7), (0, x8), (0, 0), (0, 0)]) d_X12_steps_98 (by decide) rfl rfl ?_
    exact h
  · have h := h.2 hc
    refine r_aload_n (x := t) d_X12_steps_50 rfl o_t.1 ?_
    refine r_getf (j := 10) (t := 2) (x := t_rowX) d_X12_steps_51 kX12 (by decide) fl_X12_36 o_t.1 o_t.2.1 o_t.2.2.1 o_t.2.2.2 rfl f_t_rowX ?_
    refine r_iload (x := x9) d_X12_steps_54 rfl ?_
    refine r_aload_n (x := t) d_X12_steps_56 rfl o_t.1 ?_
    refine r_getf (j := 2) (t := 2) (x := t_letterOf) d_X12_steps_57 kX12 (by decide) fl_X12_17 o_t.1 o_t.2.1 o_t.2.2.1 o_t.2.2.2 rfl f_t_letterOf ?_
    refine r_iconst (x := 3) d_X12_steps_60 ⟨by decide, by decide⟩ ?_
    refine r_iload (x := x7) d_X12_steps_61 rfl ?_
    refine r_imul d_X12_steps_63 ?_
    refine r_iload (x := x9) d_X12_steps_64 rfl ?_
    refine r_iadd d_X12_steps_66 ?_
    refine x_iald d_X12_steps_67 h.1 ?_
    have h := h.2
    refine x_iast d_X12_steps_68 h.1 ?_
    have h := h.2
    refine r_nmM (fun τ1 eτ1 => ?_)
    have h := h τ1 eτ1
    refine r_aload_n (x := t) d_X12_steps_69 rfl o_t.1 ?_
    refine r_getf (j := 11) (t := 2) (x := t_rowY) d_X12_steps_70 kX12 (by decide) fl_X12_39 o_t.1 o_t.2.1 o_t.2.2.1 o_t.2.2.2 rfl f_t_rowY ?_
    refine r_iload (x := x9) d_X12_steps_73 rfl ?_
    refine r_aload_n (x := t) d_X12_steps_75 rfl o_t.1 ?_
    refine r_getf (j := 2) (t := 2) (x := t_letterOf) d_X12_steps_76 kX12 (by decide) fl_X12_17 o_t.1 o_t.2.1 o_t.2.2.1 o_t.2.2.2 rfl f_t_letterOf ?_
    refine r_iconst (x := 3) d_X12_steps_79 ⟨by decide, by decide⟩ ?_
    refine r_iload (x := x8) d_X12_steps_80 rfl ?_
    refine r_imul d_X12_steps_82 ?_
    refine r_iload (x := x9) d_X12_steps_83 rfl ?_
    refine r_iadd d_X12_steps_85 ?_
    refine x_iald d_X12_steps_86 h.1 ?_
    have h := h.2
    refine x_iast d_X12_steps_87 h.1 ?_
    have h := h.2
    refine r_nmM (fun τ2 eτ2 => ?_)
    have h := h τ2 eτ2
    refine x_iinc (x := x9) (L := [(2, t), (0, x1), (0, x2), (0, x3), (1, x4), (3, 0), (0, x6), (0, x7), (0, x8), (0, x9), (3, 0)]) d_X12_steps_88 rfl (by decide) rfl (fun y3 ey3 => ?_)
    have h := h y3 ey3
    show WP _ _ _ _ _ _ _ _ [(2, t), (0, x1), (0, x2), (0, x3), (1, x4), (3, 0), (0, x6), (0, x7), (0, x8), (0, y3), (3, 0)] _ _ _ _
    refine r_goto (tgt := 44) d_X12_steps_91 rfl ?_
    exact h
theorem v_X12_steps_100 {l : Launch} {d N : Nat} {Λ : Lay} {P : Mem → Prop} {σ : Mem} {x1 x2 x3 x4 x6 x7 x8 x9 x10 t t_kept : Int} (o_t : Ob N Λ t 21 36) (f_t_kept : (Λ t).2.2 15 = t_kept) (h0d : 1 ≤ d)
    (h : (CI l mX12_degreeOf (d - 1) [(0, x3)] N Λ σ (fun v2 σ1 => ((v2 ≤ x10 → (CI l mX12_breakOf (d - 1) [(2, t), (0, x7), (0, x8)] N Λ σ1 (fun v4 σ3 => (CV l mX12_exchanges (d - 1) [(2, t), (0, v4), (0, x9), (1, (negL x4)), (0, x1)] N Λ σ3 (fun σ5 => P σ5))))) ∧ (¬ (v2 ≤ x10) → ((x10 = x6 → (∀ y6, y6 = addI x10 1 → WV l mX12_steps d P 100 [(2, t), (0, x1), (0, x2), (0, x3), (1, x4), (3, 0), (0, x6), (0, x7), (0, x8), (0, x9), (0, y6)] [] N Λ σ1)) ∧ (¬ (x10 = x6) → ((¬ x10 = (addI x6 1) → (CI l mX12_rankIn (d - 1) [(0, x3), (0, x10)] N Λ σ1 (fun v8 σ7 => (Ix N Λ t_kept 0 x9 ∧ (∀ τ9, τ9 = st σ7 t_kept x9 v8 → (∀ y10, y10 = addI x9 1 → (∀ y11, y11 = addI x10 1 → WV l mX12_steps d P 100 [(2, t), (0, x1), (0, x2), (0, x3), (1, x4), (3, 0), (0, x6), (0, x7), (0, x8), (0, y10), (0, y11)] [] N Λ τ9))))))) ∧ (x10 = (addI x6 1) → (∀ y12, y12 = addI x10 1 → WV l mX12_steps d P 100 [(2, t), (0, x1), (0, x2), (0, x3), (1, x4), (3, 0), (0, x6), (0, x7), (0, x8), (0, x9), (0, y12)] [] N Λ σ1)))))))))) :
    WV l mX12_steps d P 100 [(2, t), (0, x1), (0, x2), (0, x3), (1, x4), (3, 0), (0, x6), (0, x7), (0, x8), (0, x9), (0, x10)] [] N Λ σ := by
  have hd_1 : 1 ≤ d := Nat.le_trans (by decide) h0d
  refine r_iload (x := x10) d_X12_steps_100 rfl ?_
  refine r_iload_n (x := x3) d_X12_steps_102 rfl ?_
  refine x_callSI (Y2 := mX12_degreeOf) (As := [(0, x3)]) (S := [(0, x10)]) d_X12_steps_103 ok_mX12_degreeOf ml_X12_138 rfl (Nat.le_of_ble_eq_true rfl) (Nat.le_of_ble_eq_true rfl) rfl hd_1 (CI.mono h (fun v2 σ1 h => ?_))
  refine r_ic_ge (tgt := 150) d_X12_steps_106 rfl (fun hc => ?_) (fun hc => ?_)
  · have h := h.1 hc
    refine r_aload_n (x := t) d_X12_steps_150 rfl o_t.1 ?_
    refine r_aload_n (x := t) d_X12_steps_151 rfl o_t.1 ?_
    refine r_iload (x := x7) d_X12_steps_152 rfl ?_
    refine r_iload (x := x8) d_X12_steps_154 rfl ?_
    refine x_callVI (Y2 := mX12_breakOf) (c := t) (As := [(0, x7), (0, x8)]) (S := [(2, t)]) d_X12_steps_156 ok_mX12_breakOf ml_X12_151 rfl (Nat.le_of_ble_eq_true rfl) (Nat.le_of_ble_eq_true rfl) rfl hd_1 kX12 o_t (CI.mono h (fun v4 σ3 h => ?_))
    refine r_iload (x := x9) d_X12_steps_159 rfl ?_
    refine r_lload (x := x4) d_X12_steps_161 rfl ?_
    refine r_lneg d_X12_steps_163 ?_
    refine r_iload_n (x := x1) d_X12_steps_164 rfl ?_
    refine x_callVV (Y2 := mX12_exchanges) (c := t) (As := [(0, v4), (0, x9), (1, (negL x4)), (0, x1)]) (S := []) d_X12_steps_165 ok_mX12_exchanges ml_X12_174 rfl (Nat.le_of_ble_eq_true rfl) (Nat.le_of_ble_eq_true rfl) rfl hd_1 kX12 o_t (CV.mono h (fun σ5 h => ?_))
    exact r_vret d_X12_steps_168 rfl (Nat.le_refl 0) (Nat.le_refl 0) ⟨rfl, rfl, rfl, h⟩
  · have h := h.2 hc
    refine r_iload (x := x10) d_X12_steps_109 rfl ?_
    refine r_iload (x := x6) d_X12_steps_111 rfl ?_
    refine r_ic_eq (tgt := 144) d_X12_steps_113 rfl (fun hc => ?_) (fun hc => ?_)
    · have h := h.1 hc
      refine x_iinc (x := x10) (L := [(2, t), (0, x1), (0, x2), (0, x3), (1, x4), (3, 0), (0, x6), (0, x7), (0, x8), (0, x9), (0, x10)]) d_X12_steps_144 rfl (by decide) rfl (fun y6 ey6 => ?_)
      have h := h y6 ey6
      show WP _ _ _ _ _ _ _ _ [(2, t), (0, x1), (0, x2), (0, x3), (1, x4), (3, 0), (0, x6), (0, x7), (0, x8), (0, x9), (0, y6)] _ _ _ _
      refine r_goto (tgt := 100) d_X12_steps_147 rfl ?_
      exact h
    · have h := h.2 hc
      refine r_iload (x := x10) d_X12_steps_116 rfl ?_
      refine r_iload (x := x6) d_X12_steps_118 rfl ?_
      refine r_iconst (x := 1) d_X12_steps_120 ⟨by decide, by decide⟩ ?_
      refine r_iadd d_X12_steps_121 ?_
      refine r_ic_ne (tgt := 128) d_X12_steps_122 rfl (fun hc => ?_) (fun hc => ?_)
      · have h := h.1 hc
        refine r_aload_n (x := t) d_X12_steps_128 rfl o_t.1 ?_
        refine r_getf (j := 15) (t := 2) (x := t_kept) d_X12_steps_129 kX12 (by decide) fl_X12_51 o_t.1 o_t.2.1 o_t.2.2.1 o_t.2.2.2 rfl f_t_kept ?_
        refine r_iload (x := x9) d_X12_steps_132 rfl ?_
        refine r_iload_n (x := x3) d_X12_steps_134 rfl ?_
        refine r_iload (x := x10) d_X12_steps_135 rfl ?_
        refine x_callSI (Y2 := mX12_rankIn) (As := [(0, x3), (0, x10)]) (S := [(0, x9), (2, t_kept)]) d_X12_steps_137 ok_mX12_rankIn ml_X12_135 rfl (Nat.le_of_ble_eq_true rfl) (Nat.le_of_ble_eq_true rfl) rfl hd_1 (CI.mono h (fun v8 σ7 h => ?_))
        refine x_iast d_X12_steps_140 h.1 ?_
        have h := h.2
        refine r_nmM (fun τ9 eτ9 => ?_)
        have h := h τ9 eτ9
        refine x_iinc (x := x9) (L := [(2, t), (0, x1), (0, x2), (0, x3), (1, x4), (3, 0), (0, x6), (0, x7), (0, x8), (0, x9), (0, x10)]) d_X12_steps_141 rfl (by decide) rfl (fun y10 ey10 => ?_)
        have h := h y10 ey10
        show WP _ _ _ _ _ _ _ _ [(2, t), (0, x1), (0, x2), (0, x3), (1, x4), (3, 0), (0, x6), (0, x7), (0, x8), (0, y10), (0, x10)] _ _ _ _
        refine x_iinc (x := x10) (L := [(2, t), (0, x1), (0, x2), (0, x3), (1, x4), (3, 0), (0, x6), (0, x7), (0, x8), (0, y10), (0, x10)]) d_X12_steps_144 rfl (by decide) rfl (fun y11 ey11 => ?_)
        have h := h y11 ey11
        show WP _ _ _ _ _ _ _ _ [(2, t), (0, x1), (0, x2), (0, x3), (1, x4), (3, 0), (0, x6), (0, x7), (0, x8), (0, y10), (0, y11)] _ _ _ _
        refine r_goto (tgt := 100) d_X12_steps_147 rfl ?_
        exact h
      · have h := h.2 hc
        refine r_goto (tgt := 144) d_X12_steps_125 rfl ?_
        refine x_iinc (x := x10) (L := [(2, t), (0, x1), (0, x2), (0, x3), (1, x4), (3, 0), (0, x6), (0, x7), (0, x8), (0, x9), (0, x10)]) d_X12_steps_144 rfl (by decide) rfl (fun y12 ey12 => ?_)
        have h := h y12 ey12
        show WP _ _ _ _ _ _ _ _ [(2, t), (0, x1), (0, x2), (0, x3), (1, x4), (3, 0), (0, x6), (0, x7), (0, x8), (0, x9), (0, y12)] _ _ _ _
        refine r_goto (tgt := 100) d_X12_steps_147 rfl ?_
        exact h
theorem v_X12_straightens_0 {l : Launch} {d N : Nat} {Λ : Lay} {P : Int → Mem → Prop} {σ : Mem} {x1 t : Int} (o_t : Ob N Λ t 21 36) (h0d : 1 ≤ d)
    (h : (CI l mX12_lastBroken (d - 1) [(2, t), (0, x1)] N Λ σ (fun v2 σ1 => WI l mX12_straightens d P 8 [(2, t), (0, x1), (0, 0), (0, v2)] [] N Λ σ1))) :
    WI l mX12_straightens d P 0 [(2, t), (0, x1), (3, 0), (3, 0)] [] N Λ σ := by
  have hd_1 : 1 ≤ d := Nat.le_trans (by decide) h0d
  refine r_iconst (x := 0) d_X12_straightens_0 ⟨by decide, by decide⟩ ?_
  refine r_istore_n (L2 := [(2, t), (0, x1), (0, 0), (3, 0)]) d_X12_straightens_1 (by decide) rfl rfl ?_
  refine r_aload_n (x := t) d_X12_straightens_2 rfl o_t.1 ?_
  refine r_iload_n (x := x1) d_X12_straightens_3 rfl ?_
  refine x_callVI (Y2 := mX12_lastBroken) (c := t) (As := [(0, x1)]) (S := []) d_X12_straightens_4 ok_mX12_lastBroken ml_X12_178 rfl (Nat.le_of_ble_eq_true rfl) (Nat.le_of_ble_eq_true rfl) rfl hd_1 kX12 o_t (CI.mono h (fun v2 σ1 h => ?_))
  refine r_istore_n (L2 := [(2, t), (0, x1), (0, 0), (0, v2)]) d_X12_straightens_7 (by decide) rfl rfl ?_
  exact h
theorem v_X12_straightens_8 {l : Launch} {d N : Nat} {Λ : Lay} {P : Int → Mem → Prop} {σ : Mem} {x1 x2 x3 t : Int} (o_t : Ob N Λ t 21 36) (h0d : 1 ≤ d)
    (h : ((x3 = (-1) → P x2 σ) ∧ (¬ (x3 = (-1)) → ((¬ (σ t 8) = 0 → P x2 σ) ∧ ((σ t 8) = 0 → ((¬ x2 = 900 → (CV l mX12_steps (d - 1) [(2, t), (0, x1), (0, x3)] N Λ σ (fun σ1 => (∀ y2, y2 = addI x2 1 → (CI l mX12_lastBroken (d - 1) [(2, t), (0, x1)] N Λ σ1 (fun v4 σ3 => WI l mX12_straightens d P 8 [(2, t), (0, x1), (0, y2), (0, v4)] [] N Λ σ3)))))) ∧ (x2 = 900 → ((¬ (σ t 8) = 0 → P x2 σ) ∧ ((σ t 8) = 0 → (∀ τ5, τ5 = st σ t 8 3 → P x2 τ5)))))))))) :
    WI l mX12_straightens d P 8 [(2, t), (0, x1), (0, x2), (0, x3)] [] N Λ σ := by
  have hd_1 : 1 ≤ d := Nat.le_trans (by decide) h0d
  refine r_iload_n (x := x3) d_X12_straightens_8 rfl ?_
  refine r_iconst (x := (-1)) d_X12_straightens_9 ⟨by decide, by decide⟩ ?_
  refine r_ic_eq (tgt := 53) d_X12_straightens_10 rfl (fun hc => ?_) (fun hc => ?_)
  · have h := h.1 hc
    refine r_iload_n (x := x2) d_X12_straightens_53 rfl ?_
    exact r_iret d_X12_straightens_54 rfl rfl (Nat.le_refl 0) (Nat.le_refl 0) ⟨_, rfl, rfl, rfl, h⟩
  · have h := h.2 hc
    refine r_aload_n (x := t) d_X12_straightens_13 rfl o_t.1 ?_
    refine r_getf (j := 8) (t := 0) (x := (σ t 8)) d_X12_straightens_14 kX12 (by decide) fl_X12_102 o_t.1 o_t.2.1 o_t.2.2.1 o_t.2.2.2 rfl rfl ?_
    refine r_if_ne (tgt := 53) d_X12_straightens_17 rfl (fun hc => ?_) (fun hc => ?_)
    · have h := h.1 hc
      refine r_iload_n (x := x2) d_X12_straightens_53 rfl ?_
      exact r_iret d_X12_straightens_54 rfl rfl (Nat.le_refl 0) (Nat.le_refl 0) ⟨_, rfl, rfl, rfl, h⟩
    · have h := h.2 hc
      refine r_iload_n (x := x2) d_X12_straightens_20 rfl ?_
      refine r_sipush (x := 900) d_X12_straightens_21 ⟨by decide, by decide⟩ (by decide) ?_
      refine r_ic_ne (tgt := 35) d_X12_straightens_24 rfl (fun hc => ?_) (fun hc => ?_)
      · have h := h.1 hc
        refine r_aload_n (x := t) d_X12_straightens_35 rfl o_t.1 ?_
        refine r_iload_n (x := x1) d_X12_straightens_36 rfl ?_
        refine r_iload_n (x := x3) d_X12_straightens_37 rfl ?_
        refine x_callVV (Y2 := mX12_steps) (c := t) (As := [(0, x1), (0, x3)]) (S := []) d_X12_straightens_38 ok_mX12_steps ml_X12_181 rfl (Nat.le_of_ble_eq_true rfl) (Nat.le_of_ble_eq_true rfl) rfl hd_1 kX12 o_t (CV.mono h (fun σ1 h => ?_))
        refine x_iinc (x := x2) (L := [(2, t), (0, x1), (0, x2), (0, x3)]) d_X12_straightens_41 rfl (by decide) rfl (fun y2 ey2 => ?_)
        have h := h y2 ey2
        show WP _ _ _ _ _ _ _ _ [(2, t), (0, x1), (0, y2), (0, x3)] _ _ _ _
        refine r_aload_n (x := t) d_X12_straightens_44 rfl o_t.1 ?_
        refine r_iload_n (x := x1) d_X12_straightens_45 rfl ?_
        refine x_callVI (Y2 := mX12_lastBroken) (c := t) (As := [(0, x1)]) (S := []) d_X12_straightens_46 ok_mX12_lastBroken ml_X12_178 rfl (Nat.le_of_ble_eq_true rfl) (Nat.le_of_ble_eq_true rfl) rfl hd_1 kX12 o_t (CI.mono h (fun v4 σ3 h => ?_))
        refine r_istore_n (L2 := [(2, t), (0, x1), (0, y2), (0, v4)]) d_X12_straightens_49 (by decide) rfl rfl ?_
        refine r_goto (tgt := 8) d_X12_straightens_50 rfl ?_
        exact h
      · have h := h.2 hc
        refine r_aload_n (x := t) d_X12_straightens_27 rfl o_t.1 ?_
        refine r_iconst (x := 3) d_X12_straightens_28 ⟨by decide, by decide⟩ ?_
        refine x_callVI (Y2 := mX12_fails) (c := t) (As := [(0, 3)]) (S := []) d_X12_straightens_29 ok_mX12_fails ml_X12_125 rfl (Nat.le_of_ble_eq_true rfl) (Nat.le_of_ble_eq_true rfl) rfl hd_1 kX12 o_t (c_X12_fails (v_X12_fails_0 o_t ?_))
        refine ⟨fun hc => ?_, fun hc => ?_⟩
        · have h := h.1 hc
          show WP l mX12_straightens (rm d 0 0) noX _ 0 0 32 [(2, t), (0, x1), (0, x2), (0, x3)] [(0, 0)] N Λ σ
          refine r_pop d_X12_straightens_32 rfl ?_
          refine r_iload_n (x := x2) d_X12_straightens_33 rfl ?_
          exact r_iret d_X12_straightens_34 rfl rfl (Nat.le_refl 0) (Nat.le_refl 0) ⟨_, rfl, rfl, rfl, h⟩
        · have h := h.2 hc
          intro τ5 eτ5
          have h := h τ5 eτ5
          show WP l mX12_straightens (rm d 0 0) noX _ 0 0 32 [(2, t), (0, x1), (0, x2), (0, x3)] [(0, 0)] N Λ τ5
          refine r_pop d_X12_straightens_32 rfl ?_
          refine r_iload_n (x := x2) d_X12_straightens_33 rfl ?_
          exact r_iret d_X12_straightens_34 rfl rfl (Nat.le_refl 0) (Nat.le_refl 0) ⟨_, rfl, rfl, rfl, h⟩
theorem v_X12_areAlike_0 {l : Launch} {d N : Nat} {Λ : Lay} {P : Int → Mem → Prop} {σ : Mem} {x1 x2 t : Int}
    (h : WI l mX12_areAlike d P 2 [(2, t), (0, x1), (0, x2), (0, 0)] [] N Λ σ) :
    WI l mX12_areAlike d P 0 [(2, t), (0, x1), (0, x2), (3, 0)] [] N Λ σ := by
  refine r_iconst (x := 0) d_X12_areAlike_0 ⟨by decide, by decide⟩ ?_
  refine r_istore_n (L2 := [(2, t), (0, x1), (0, x2), (0, 0)]) d_X12_areAlike_1 (by decide) rfl rfl ?_
  exact h
theorem v_X12_areAlike_2 {l : Launch} {d N : Nat} {Λ : Lay} {P : Int → Mem → Prop} {σ : Mem} {x1 x2 x3 t t_pool : Int} (o_t : Ob N Λ t 21 36) (f_t_pool : (Λ t).2.2 7 = t_pool) (h0d : 1 ≤ d)
    (h : (Ix N Λ t_pool 0 (mulI 161 x1) ∧ (((mulI 2 (σ t_pool (mulI 161 x1))) < x3 → P 1 σ) ∧ (¬ ((mulI 2 (σ t_pool (mulI 161 x1))) < x3) → (Ix N Λ t_pool 0 (addI (mulI 161 x1) x3) ∧ (Ix N Λ t_pool 0 (addI (mulI 161 x2) x3) ∧ (((σ t_pool (addI (mulI 161 x1) x3)) = (σ t_pool (addI (mulI 161 x2) x3)) → (∀ y1, y1 = addI x3 1 → WI l mX12_areAlike d P 2 [(2, t), (0, x1), (0, x2), (0, y1)] [] N Λ σ)) ∧ (¬ ((σ t_pool (addI (mulI 161 x1) x3)) = (σ t_pool (addI (mulI 161 x2) x3))) → P 0 σ)))))))) :
    WI l mX12_areAlike d P 2 [(2, t), (0, x1), (0, x2), (0, x3)] [] N Λ σ := by
  have hd_1 : 1 ≤ d := Nat.le_trans (by decide) h0d
  refine r_iload_n (x := x3) d_X12_areAlike_2 rfl ?_
  refine r_iconst (x := 2) d_X12_areAlike_3 ⟨by decide, by decide⟩ ?_
  refine r_aload_n (x := t) d_X12_areAlike_4 rfl o_t.1 ?_
  refine r_iload_n (x := x1) d_X12_areAlike_5 rfl ?_
  refine x_callVI (Y2 := mX12_many) (c := t) (As := [(0, x1)]) (S := [(0, 2), (0, x3)]) d_X12_areAlike_6 ok_mX12_many ml_X12_113 rfl (Nat.le_of_ble_eq_true rfl) (Nat.le_of_ble_eq_true rfl) rfl hd_1 kX12 o_t (c_X12_many (v_X12_many_0 o_t f_t_pool ?_))
  refine ⟨h.1, ?_⟩
  have h := h.2
  show WP l mX12_areAlike (rm d 0 0) noX _ 0 0 9 [(2, t), (0, x1), (0, x2), (0, x3)] [(0, (σ t_pool (mulI 161 x1))), (0, 2), (0, x3)] N Λ σ
  refine r_imul d_X12_areAlike_9 ?_
  refine r_ic_gt (tgt := 48) d_X12_areAlike_10 rfl (fun hc => ?_) (fun hc => ?_)
  · have h := h.1 hc
    refine r_iconst (x := 1) d_X12_areAlike_48 ⟨by decide, by decide⟩ ?_
    exact r_iret d_X12_areAlike_49 rfl (by decide) (Nat.le_refl 0) (Nat.le_refl 0) ⟨_, rfl, rfl, rfl, h⟩
  · have h := h.2 hc
    refine r_aload_n (x := t) d_X12_areAlike_13 rfl o_t.1 ?_
    refine r_getf (j := 7) (t := 2) (x := t_pool) d_X12_areAlike_14 kX12 (by decide) fl_X12_30 o_t.1 o_t.2.1 o_t.2.2.1 o_t.2.2.2 rfl f_t_pool ?_
    refine r_sipush (x := 161) d_X12_areAlike_17 ⟨by decide, by decide⟩ (by decide) ?_
    refine r_iload_n (x := x1) d_X12_areAlike_20 rfl ?_
    refine r_imul d_X12_areAlike_21 ?_
    refine r_iload_n (x := x3) d_X12_areAlike_22 rfl ?_
    refine r_iadd d_X12_areAlike_23 ?_
    refine x_iald d_X12_areAlike_24 h.1 ?_
    have h := h.2
    refine r_aload_n (x := t) d_X12_areAlike_25 rfl o_t.1 ?_
    refine r_getf (j := 7) (t := 2) (x := t_pool) d_X12_areAlike_26 kX12 (by decide) fl_X12_30 o_t.1 o_t.2.1 o_t.2.2.1 o_t.2.2.2 rfl f_t_pool ?_
    refine r_sipush (x := 161) d_X12_areAlike_29 ⟨by decide, by decide⟩ (by decide) ?_
    refine r_iload_n (x := x2) d_X12_areAlike_32 rfl ?_
    refine r_imul d_X12_areAlike_33 ?_
    refine r_iload_n (x := x3) d_X12_areAlike_34 rfl ?_
    refine r_iadd d_X12_areAlike_35 ?_
    refine x_iald d_X12_areAlike_36 h.1 ?_
    have h := h.2
    refine r_ic_eq (tgt := 42) d_X12_areAlike_37 rfl (fun hc => ?_) (fun hc => ?_)
    · have h := h.1 hc
      refine x_iinc (x := x3) (L := [(2, t), (0, x1), (0, x2), (0, x3)]) d_X12_areAlike_42 rfl (by decide) rfl (fun y1 ey1 => ?_)
      have h := h y1 ey1
      show WP _ _ _ _ _ _ _ _ [(2, t), (0, x1), (0, x2), (0, y1)] _ _ _ _
      refine r_goto (tgt := 2) d_X12_areAlike_45 rfl ?_
      exact h
    · have h := h.2 hc
      refine r_iconst (x := 0) d_X12_areAlike_40 ⟨by decide, by decide⟩ ?_
      exact r_iret d_X12_areAlike_41 rfl (by decide) (Nat.le_refl 0) (Nat.le_refl 0) ⟨_, rfl, rfl, rfl, h⟩
theorem v_X12_isShelf_0 {l : Launch} {d N : Nat} {Λ : Lay} {P : Int → Mem → Prop} {σ : Mem} {x0 : Int} (h0d : 1 ≤ d)
    (h : (((cmpL x0 0) < 0 → P 0 σ) ∧ (¬ ((cmpL x0 0) < 0) → ((0 < (cmpL x0 5) → P 0 σ) ∧ (¬ (0 < (cmpL x0 5)) → P 1 σ))))) :
    WI l mX12_isShelf d P 0 [(0, x0)] [] N Λ σ := by
  have hd_1 : 1 ≤ d := Nat.le_trans (by decide) h0d
  refine r_iload_n (x := x0) d_X12_isShelf_0 rfl ?_
  refine r_i2l d_X12_isShelf_1 ?_
  refine r_lconst d_X12_isShelf_2 ?_
  skip
  refine r_ldc2 (x := 5) d_X12_isShelf_3 ck_X12_185 (by decide) ?_
  refine x_callSI (Y2 := mX12_within) (As := [(1, x0), (1, 0), (1, 5)]) (S := []) d_X12_isShelf_6 ok_mX12_within ml_X12_91 rfl (Nat.le_of_ble_eq_true rfl) (Nat.le_of_ble_eq_true rfl) rfl hd_1 (c_X12_within (v_X12_within_0 ?_))
  refine ⟨fun hc => ?_, fun hc => ?_⟩
  · have h := h.1 hc
    show WP l mX12_isShelf (rm d 0 0) noX _ 0 0 9 [(0, x0)] [(0, 0)] N Λ σ
    exact r_iret d_X12_isShelf_9 rfl (by decide) (Nat.le_refl 0) (Nat.le_refl 0) ⟨_, rfl, rfl, rfl, h⟩
  · have h := h.2 hc
    refine ⟨fun hc => ?_, fun hc => ?_⟩
    · have h := h.1 hc
      show WP l mX12_isShelf (rm d 0 0) noX _ 0 0 9 [(0, x0)] [(0, 0)] N Λ σ
      exact r_iret d_X12_isShelf_9 rfl (by decide) (Nat.le_refl 0) (Nat.le_refl 0) ⟨_, rfl, rfl, rfl, h⟩
    · have h := h.2 hc
      show WP l mX12_isShelf (rm d 0 0) noX _ 0 0 9 [(0, x0)] [(0, 1)] N Λ σ
      exact r_iret d_X12_isShelf_9 rfl (by decide) (Nat.le_refl 0) (Nat.le_refl 0) ⟨_, rfl, rfl, rfl, h⟩
theorem v_X12_codeOf_0 {l : Launch} {d N : Nat} {Λ : Lay} {P : Int → Mem → Prop} {σ : Mem} {x1 t : Int}
    (h : ((¬ x1 = 4 → P (-4) σ) ∧ (x1 = 4 → P (-7) σ))) :
    WI l mX12_codeOf d P 0 [(2, t), (0, x1)] [] N Λ σ := by
  refine r_iload_n (x := x1) d_X12_codeOf_0 rfl ?_
  refine r_iconst (x := 4) d_X12_codeOf_1 ⟨by decide, by decide⟩ ?_
  refine r_ic_ne (tgt := 10) d_X12_codeOf_2 rfl (fun hc => ?_) (fun hc => ?_)
  · have h := h.1 hc
    refine r_bipush (x := (-4)) d_X12_codeOf_10 ⟨by decide, by decide⟩ (by decide) ?_
    exact r_iret d_X12_codeOf_12 rfl rfl (Nat.le_refl 0) (Nat.le_refl 0) ⟨_, rfl, rfl, rfl, h⟩
  · have h := h.2 hc
    refine r_bipush (x := (-7)) d_X12_codeOf_5 ⟨by decide, by decide⟩ (by decide) ?_
    refine r_goto (tgt := 12) d_X12_codeOf_7 rfl ?_
    exact r_iret d_X12_codeOf_12 rfl rfl (Nat.le_refl 0) (Nat.le_refl 0) ⟨_, rfl, rfl, rfl, h⟩
theorem v_X12_becomes_0 {l : Launch} {d N : Nat} {Λ : Lay} {P : Int → Mem → Prop} {σ : Mem} {x1 t t_deeds t_pool t_state : Int} (o_t : Ob N Λ t 21 36) (f_t_state : (Λ t).2.2 3 = t_state) (f_t_deeds : (Λ t).2.2 4 = t_deeds) (f_t_pool : (Λ t).2.2 7 = t_pool) (h0d : 2 ≤ d)
    (h : ((¬ (σ t 5) = 10 → (CV l mX12_copies (d - 1 - 1) [(2, t_state), (0, 0), (2, t_deeds), (0, (mulI 1116 (σ t 5))), (0, 1116)] N Λ σ (fun σ1 => (∀ τ2, τ2 = st σ1 t 5 (addI (σ1 t 5) 1) → (CV l mX12_copies (d - 1) [(2, t_pool), (0, 0), (2, t_state), (0, (mulI 161 x1)), (0, 161)] N Λ τ2 (fun σ3 => (Ix N Λ t_pool 0 (mulI 161 0) ∧ P (σ3 t_pool (mulI 161 0)) σ3))))))) ∧ ((σ t 5) = 10 → (CV l mX12_copies (d - 1 - 1) [(2, t_deeds), (0, 1116), (2, t_deeds), (0, 0), (0, 10044)] N Λ σ (fun σ4 => (∀ τ5, τ5 = st σ4 t 5 (subI (σ4 t 5) 1) → (CV l mX12_copies (d - 1 - 1) [(2, t_state), (0, 0), (2, t_deeds), (0, (mulI 1116 (τ5 t 5))), (0, 1116)] N Λ τ5 (fun σ6 => (∀ τ7, τ7 = st σ6 t 5 (addI (σ6 t 5) 1) → (CV l mX12_copies (d - 1) [(2, t_pool), (0, 0), (2, t_state), (0, (mulI 161 x1)), (0, 161)] N Λ τ7 (fun σ8 => (Ix N Λ t_pool 0 (mulI 161 0) ∧ P (σ8 t_pool (mulI 161 0)) σ8)))))))))))) :
    WI l mX12_becomes d P 0 [(2, t), (0, x1)] [] N Λ σ := by
  have hd_1 : 1 ≤ d := Nat.le_trans (by decide) h0d
  have he_1 : 1 ≤ d - 1 := Nat.le_sub_of_add_le (Nat.le_trans (by decide) h0d)
  refine r_aload_n (x := t) d_X12_becomes_0 rfl o_t.1 ?_
  refine x_callVV (Y2 := mX12_notes) (c := t) (As := []) (S := []) d_X12_becomes_1 ok_mX12_notes ml_X12_196 rfl (Nat.le_of_ble_eq_true rfl) (Nat.le_of_ble_eq_true rfl) rfl hd_1 kX12 o_t (c_X12_notes (v_X12_notes_0 o_t f_t_state f_t_deeds he_1 ?_))
  refine ⟨fun hc => ?_, fun hc => ?_⟩
  · have h := h.1 hc
    refine CV.mono h (fun σ1 h => ?_)
    intro τ2 eτ2
    have h := h τ2 eτ2
    show WP l mX12_becomes (rm d 0 0) noX _ 0 0 4 [(2, t), (0, x1)] [] N Λ τ2
    refine r_aload_n (x := t) d_X12_becomes_4 rfl o_t.1 ?_
    refine r_getf (j := 7) (t := 2) (x := t_pool) d_X12_becomes_5 kX12 (by decide) fl_X12_30 o_t.1 o_t.2.1 o_t.2.2.1 o_t.2.2.2 rfl f_t_pool ?_
    refine r_iconst (x := 0) d_X12_becomes_8 ⟨by decide, by decide⟩ ?_
    refine r_aload_n (x := t) d_X12_becomes_9 rfl o_t.1 ?_
    refine r_getf (j := 3) (t := 2) (x := t_state) d_X12_becomes_10 kX12 (by decide) fl_X12_20 o_t.1 o_t.2.1 o_t.2.2.1 o_t.2.2.2 rfl f_t_state ?_
    refine r_sipush (x := 161) d_X12_becomes_13 ⟨by decide, by decide⟩ (by decide) ?_
    refine r_iload_n (x := x1) d_X12_becomes_16 rfl ?_
    refine r_imul d_X12_becomes_17 ?_
    refine r_sipush (x := 161) d_X12_becomes_18 ⟨by decide, by decide⟩ (by decide) ?_
    refine x_callSV (Y2 := mX12_copies) (As := [(2, t_pool), (0, 0), (2, t_state), (0, (mulI 161 x1)), (0, 161)]) (S := []) d_X12_becomes_21 ok_mX12_copies ml_X12_98 rfl (Nat.le_of_ble_eq_true rfl) (Nat.le_of_ble_eq_true rfl) rfl hd_1 (CV.mono h (fun σ3 h => ?_))
    refine r_aload_n (x := t) d_X12_becomes_24 rfl o_t.1 ?_
    refine r_iconst (x := 0) d_X12_becomes_25 ⟨by decide, by decide⟩ ?_
    refine x_callVI (Y2 := mX12_many) (c := t) (As := [(0, 0)]) (S := []) d_X12_becomes_26 ok_mX12_many ml_X12_113 rfl (Nat.le_of_ble_eq_true rfl) (Nat.le_of_ble_eq_true rfl) rfl hd_1 kX12 o_t (c_X12_many (v_X12_many_0 o_t f_t_pool ?_))
    refine ⟨h.1, ?_⟩
    have h := h.2
    show WP l mX12_becomes (rm d 0 0) noX _ 0 0 29 [(2, t), (0, x1)] [(0, (σ3 t_pool (mulI 161 0)))] N Λ σ3
    exact r_iret d_X12_becomes_29 rfl rfl (Nat.le_refl 0) (Nat.le_refl 0) ⟨_, rfl, rfl, rfl, h⟩
  · have h := h.2 hc
    refine CV.mono h (fun σ4 h => ?_)
    intro τ5 eτ5
    have h := h τ5 eτ5
    refine CV.mono h (fun σ6 h => ?_)
    intro τ7 eτ7
    have h := h τ7 eτ7
    show WP l mX12_becomes (rm d 0 0) noX _ 0 0 4 [(2, t), (0, x1)] [] N Λ τ7
    refine r_aload_n (x := t) d_X12_becomes_4 rfl o_t.1 ?_
    refine r_getf (j := 7) (t := 2) (x := t_pool) d_X12_becomes_5 kX12 (by decide) fl_X12_30 o_t.1 o_t.2.1 o_t.2.2.1 o_t.2.2.2 rfl f_t_pool ?_
    refine r_iconst (x := 0) d_X12_becomes_8 ⟨by decide, by decide⟩ ?_
    refine r_aload_n (x := t) d_X12_becomes_9 rfl o_t.1 ?_
    refine r_getf (j := 3) (t := 2) (x := t_state) d_X12_becomes_10 kX12 (by decide) fl_X12_20 o_t.1 o_t.2.1 o_t.2.2.1 o_t.2.2.2 rfl f_t_state ?_
    refine r_sipush (x := 161) d_X12_becomes_13 ⟨by decide, by decide⟩ (by decide) ?_
    refine r_iload_n (x := x1) d_X12_becomes_16 rfl ?_
    refine r_imul d_X12_becomes_17 ?_
    refine r_sipush (x := 161) d_X12_becomes_18 ⟨by decide, by decide⟩ (by decide) ?_
    refine x_callSV (Y2 := mX12_copies) (As := [(2, t_pool), (0, 0), (2, t_state), (0, (mulI 161 x1)), (0, 161)]) (S := []) d_X12_becomes_21 ok_mX12_copies ml_X12_98 rfl (Nat.le_of_ble_eq_true rfl) (Nat.le_of_ble_eq_true rfl) rfl hd_1 (CV.mono h (fun σ8 h => ?_))
    refine r_aload_n (x := t) d_X12_becomes_24 rfl o_t.1 ?_
    refine r_iconst (x := 0) d_X12_becomes_25 ⟨by decide, by decide⟩ ?_
    refine x_callVI (Y2 := mX12_many) (c := t) (As := [(0, 0)]) (S := []) d_X12_becomes_26 ok_mX12_many ml_X12_113 rfl (Nat.le_of_ble_eq_true rfl) (Nat.le_of_ble_eq_true rfl) rfl hd_1 kX12 o_t (c_X12_many (v_X12_many_0 o_t f_t_pool ?_))
    refine ⟨h.1, ?_⟩
    have h := h.2
    show WP l mX12_becomes (rm d 0 0) noX _ 0 0 29 [(2, t), (0, x1)] [(0, (σ8 t_pool (mulI 161 0)))] N Λ σ8
    exact r_iret d_X12_becomes_29 rfl rfl (Nat.le_refl 0) (Nat.le_refl 0) ⟨_, rfl, rfl, rfl, h⟩
theorem v_X12_ends_0 {l : Launch} {d N : Nat} {Λ : Lay} {P : Int → Mem → Prop} {σ : Mem} {x1 t t_deeds t_pool t_state : Int} (o_t : Ob N Λ t 21 36) (f_t_state : (Λ t).2.2 3 = t_state) (f_t_deeds : (Λ t).2.2 4 = t_deeds) (f_t_pool : (Λ t).2.2 7 = t_pool) (h0d : 3 ≤ d)
    (h : (∀ τ1, τ1 = st σ t 16 (σ t 8) → ((¬ (τ1 t 8) = 0 → ((¬ (τ1 t 8) = 4 → P (-4) τ1) ∧ ((τ1 t 8) = 4 → P (-7) τ1))) ∧ ((τ1 t 8) = 0 → ((¬ (τ1 t 5) = 10 → (CV l mX12_copies (d - 1 - 1 - 1) [(2, t_state), (0, 0), (2, t_deeds), (0, (mulI 1116 (τ1 t 5))), (0, 1116)] N Λ τ1 (fun σ2 => (∀ τ3, τ3 = st σ2 t 5 (addI (σ2 t 5) 1) → (CV l mX12_copies (d - 1 - 1) [(2, t_pool), (0, 0), (2, t_state), (0, (mulI 161 x1)), (0, 161)] N Λ τ3 (fun σ4 => (Ix N Λ t_pool 0 (mulI 161 0) ∧ P (σ4 t_pool (mulI 161 0)) σ4))))))) ∧ ((τ1 t 5) = 10 → (CV l mX12_copies (d - 1 - 1 - 1) [(2, t_deeds), (0, 1116), (2, t_deeds), (0, 0), (0, 10044)] N Λ τ1 (fun σ5 => (∀ τ6, τ6 = st σ5 t 5 (subI (σ5 t 5) 1) → (CV l mX12_copies (d - 1 - 1 - 1) [(2, t_state), (0, 0), (2, t_deeds), (0, (mulI 1116 (τ6 t 5))), (0, 1116)] N Λ τ6 (fun σ7 => (∀ τ8, τ8 = st σ7 t 5 (addI (σ7 t 5) 1) → (CV l mX12_copies (d - 1 - 1) [(2, t_pool), (0, 0), (2, t_state), (0, (mulI 161 x1)), (0, 161)] N Λ τ8 (fun σ9 => (Ix N Λ t_pool 0 (mulI 161 0) ∧ P (σ9 t_pool (mulI 161 0)) σ9))))))))))))))) :
    WI l mX12_ends d P 0 [(2, t), (0, x1)] [] N Λ σ := by
  have hd_1 : 1 ≤ d := Nat.le_trans (by decide) h0d
  have he_1 : 1 ≤ d - 1 := Nat.le_sub_of_add_le (Nat.le_trans (by decide) h0d)
  have he_2 : 2 ≤ d - 1 := Nat.le_sub_of_add_le (Nat.le_trans (by decide) h0d)
  refine r_aload_n (x := t) d_X12_ends_0 rfl o_t.1 ?_
  refine r_aload_n (x := t) d_X12_ends_1 rfl o_t.1 ?_
  refine r_getf (j := 8) (t := 0) (x := (σ t 8)) d_X12_ends_2 kX12 (by decide) fl_X12_102 o_t.1 o_t.2.1 o_t.2.2.1 o_t.2.2.2 rfl rfl ?_
  refine r_putI (j := 16) d_X12_ends_5 kX12 (by decide) fl_X12_187 rfl o_t.1 o_t.2.1 o_t.2.2.1 o_t.2.2.2 rfl ?_
  refine r_nmM (fun τ1 eτ1 => ?_)
  have h := h τ1 eτ1
  refine r_aload_n (x := t) d_X12_ends_8 rfl o_t.1 ?_
  refine r_getf (j := 8) (t := 0) (x := (τ1 t 8)) d_X12_ends_9 kX12 (by decide) fl_X12_102 o_t.1 o_t.2.1 o_t.2.2.1 o_t.2.2.2 rfl rfl ?_
  refine r_if_ne (tgt := 23) d_X12_ends_12 rfl (fun hc => ?_) (fun hc => ?_)
  · have h := h.1 hc
    refine r_aload_n (x := t) d_X12_ends_23 rfl o_t.1 ?_
    refine r_aload_n (x := t) d_X12_ends_24 rfl o_t.1 ?_
    refine r_getf (j := 8) (t := 0) (x := (τ1 t 8)) d_X12_ends_25 kX12 (by decide) fl_X12_102 o_t.1 o_t.2.1 o_t.2.2.1 o_t.2.2.2 rfl rfl ?_
    refine x_callVI (Y2 := mX12_codeOf) (c := t) (As := [(0, (τ1 t 8))]) (S := []) d_X12_ends_28 ok_mX12_codeOf ml_X12_193 rfl (Nat.le_of_ble_eq_true rfl) (Nat.le_of_ble_eq_true rfl) rfl hd_1 kX12 o_t (c_X12_codeOf (v_X12_codeOf_0 ?_))
    refine ⟨fun hc => ?_, fun hc => ?_⟩
    · have h := h.1 hc
      show WP l mX12_ends (rm d 0 0) noX _ 0 0 31 [(2, t), (0, x1)] [(0, (-4))] N Λ τ1
      exact r_iret d_X12_ends_31 rfl rfl (Nat.le_refl 0) (Nat.le_refl 0) ⟨_, rfl, rfl, rfl, h⟩
    · have h := h.2 hc
      show WP l mX12_ends (rm d 0 0) noX _ 0 0 31 [(2, t), (0, x1)] [(0, (-7))] N Λ τ1
      exact r_iret d_X12_ends_31 rfl rfl (Nat.le_refl 0) (Nat.le_refl 0) ⟨_, rfl, rfl, rfl, h⟩
  · have h := h.2 hc
    refine r_aload_n (x := t) d_X12_ends_15 rfl o_t.1 ?_
    refine r_iload_n (x := x1) d_X12_ends_16 rfl ?_
    refine x_callVI (Y2 := mX12_becomes) (c := t) (As := [(0, x1)]) (S := []) d_X12_ends_17 ok_mX12_becomes ml_X12_190 rfl (Nat.le_of_ble_eq_true rfl) (Nat.le_of_ble_eq_true rfl) rfl hd_1 kX12 o_t (c_X12_becomes (v_X12_becomes_0 o_t f_t_state f_t_deeds f_t_pool he_2 ?_))
    refine ⟨fun hc => ?_, fun hc => ?_⟩
    · have h := h.1 hc
      refine CV.mono h (fun σ2 h => ?_)
      intro τ3 eτ3
      have h := h τ3 eτ3
      refine CV.mono h (fun σ4 h => ?_)
      refine ⟨h.1, ?_⟩
      have h := h.2
      show WP l mX12_ends (rm d 0 0) noX _ 0 0 20 [(2, t), (0, x1)] [(0, (σ4 t_pool (mulI 161 0)))] N Λ σ4
      refine r_goto (tgt := 31) d_X12_ends_20 rfl ?_
      exact r_iret d_X12_ends_31 rfl rfl (Nat.le_refl 0) (Nat.le_refl 0) ⟨_, rfl, rfl, rfl, h⟩
    · have h := h.2 hc
      refine CV.mono h (fun σ5 h => ?_)
      intro τ6 eτ6
      have h := h τ6 eτ6
      refine CV.mono h (fun σ7 h => ?_)
      intro τ8 eτ8
      have h := h τ8 eτ8
      refine CV.mono h (fun σ9 h => ?_)
      refine ⟨h.1, ?_⟩
      have h := h.2
      show WP l mX12_ends (rm d 0 0) noX _ 0 0 20 [(2, t), (0, x1)] [(0, (σ9 t_pool (mulI 161 0)))] N Λ σ9
      refine r_goto (tgt := 31) d_X12_ends_20 rfl ?_
      exact r_iret d_X12_ends_31 rfl rfl (Nat.le_refl 0) (Nat.le_refl 0) ⟨_, rfl, rfl, rfl, h⟩
theorem v_X12_refused_0 {l : Launch} {d N : Nat} {Λ : Lay} {P : Int → Mem → Prop} {σ : Mem} {x1 t : Int} (o_t : Ob N Λ t 21 36)
    (h : (∀ τ1, τ1 = st σ t 16 0 → P x1 τ1)) :
    WI l mX12_refused d P 0 [(2, t), (0, x1)] [] N Λ σ := by
  refine r_aload_n (x := t) d_X12_refused_0 rfl o_t.1 ?_
  refine r_iconst (x := 0) d_X12_refused_1 ⟨by decide, by decide⟩ ?_
  refine r_putI (j := 16) d_X12_refused_2 kX12 (by decide) fl_X12_187 rfl o_t.1 o_t.2.1 o_t.2.2.1 o_t.2.2.2 rfl ?_
  refine r_nmM (fun τ1 eτ1 => ?_)
  have h := h τ1 eτ1
  refine r_iload_n (x := x1) d_X12_refused_5 rfl ?_
  exact r_iret d_X12_refused_6 rfl rfl (Nat.le_refl 0) (Nat.le_refl 0) ⟨_, rfl, rfl, rfl, h⟩
theorem v_X12_why_0 {l : Launch} {d N : Nat} {Λ : Lay} {P : Int → Mem → Prop} {σ : Mem} {t : Int} (o_t : Ob N Λ t 21 36)
    (h : (∀ τ1, τ1 = st σ t 0 0 → P (τ1 t 16) τ1)) :
    WI l mX12_why d P 0 [(2, t)] [] N Λ σ := by
  refine r_aload_n (x := t) d_X12_why_0 rfl o_t.1 ?_
  refine r_iconst (x := 0) d_X12_why_1 ⟨by decide, by decide⟩ ?_
  refine r_putI (j := 0) d_X12_why_2 kX12 (by decide) fl_X12_1 rfl o_t.1 o_t.2.1 o_t.2.2.1 o_t.2.2.2 rfl ?_
  refine r_nmM (fun τ1 eτ1 => ?_)
  have h := h τ1 eτ1
  refine r_aload_n (x := t) d_X12_why_5 rfl o_t.1 ?_
  refine r_getf (j := 16) (t := 0) (x := (τ1 t 16)) d_X12_why_6 kX12 (by decide) fl_X12_187 o_t.1 o_t.2.1 o_t.2.2.1 o_t.2.2.2 rfl rfl ?_
  exact r_iret d_X12_why_9 rfl rfl (Nat.le_refl 0) (Nat.le_refl 0) ⟨_, rfl, rfl, rfl, h⟩
theorem v_X12_clear_0 {l : Launch} {d N : Nat} {Λ : Lay} {P : Int → Mem → Prop} {σ : Mem} {x1 t t_deeds t_pool t_state : Int} (o_t : Ob N Λ t 21 36) (f_t_pool : (Λ t).2.2 7 = t_pool) (f_t_state : (Λ t).2.2 3 = t_state) (f_t_deeds : (Λ t).2.2 4 = t_deeds) (h0d : 3 ≤ d)
    (h : (∀ τ1, τ1 = st σ t 0 0 → (((cmpL x1 0) < 0 → P (-2) τ1) ∧ (¬ ((cmpL x1 0) < 0) → ((0 < (cmpL x1 5) → P (-2) τ1) ∧ (¬ (0 < (cmpL x1 5)) → (∀ τ2, τ2 = st τ1 t 8 0 → (Ix N Λ t_pool 0 (mulI 161 0) ∧ (∀ τ3, τ3 = st τ2 t_pool (mulI 161 0) 0 → (Ix N Λ t_state 0 (mulI 161 x1) ∧ (∀ y4, y4 = (τ3 t_state (mulI 161 x1)) → ((¬ (τ3 t 5) = 10 → (CV l mX12_copies (d - 1 - 1 - 1) [(2, t_state), (0, 0), (2, t_deeds), (0, (mulI 1116 (τ3 t 5))), (0, 1116)] N Λ τ3 (fun σ5 => (∀ τ6, τ6 = st σ5 t 5 (addI (σ5 t 5) 1) → (CV l mX12_copies (d - 1 - 1) [(2, t_pool), (0, 0), (2, t_state), (0, (mulI 161 x1)), (0, 161)] N Λ τ6 (fun σ7 => (Ix N Λ t_pool 0 (mulI 161 0) ∧ (∀ y8, y8 = (σ7 t_pool (mulI 161 0)) → P y4 σ7)))))))) ∧ ((τ3 t 5) = 10 → (CV l mX12_copies (d - 1 - 1 - 1) [(2, t_deeds), (0, 1116), (2, t_deeds), (0, 0), (0, 10044)] N Λ τ3 (fun σ9 => (∀ τ10, τ10 = st σ9 t 5 (subI (σ9 t 5) 1) → (CV l mX12_copies (d - 1 - 1 - 1) [(2, t_state), (0, 0), (2, t_deeds), (0, (mulI 1116 (τ10 t 5))), (0, 1116)] N Λ τ10 (fun σ11 => (∀ τ12, τ12 = st σ11 t 5 (addI (σ11 t 5) 1) → (CV l mX12_copies (d - 1 - 1) [(2, t_pool), (0, 0), (2, t_state), (0, (mulI 161 x1)), (0, 161)] N Λ τ12 (fun σ13 => (Ix N Λ t_pool 0 (mulI 161 0) ∧ (∀ y14, y14 = (σ13 t_pool (mulI 161 0)) → P y4 σ13))))))))))))))))))))))) :
    WI l mX12_clear d P 0 [(2, t), (0, x1), (3, 0), (3, 0)] [] N Λ σ := by
  have hd_1 : 1 ≤ d := Nat.le_trans (by decide) h0d
  have he_1 : 1 ≤ d - 1 := Nat.le_sub_of_add_le (Nat.le_trans (by decide) h0d)
  have he_2 : 2 ≤ d - 1 := Nat.le_sub_of_add_le (Nat.le_trans (by decide) h0d)
  refine r_aload_n (x := t) d_X12_clear_0 rfl o_t.1 ?_
  refine r_iconst (x := 0) d_X12_clear_1 ⟨by decide, by decide⟩ ?_
  refine r_putI (j := 0) d_X12_clear_2 kX12 (by decide) fl_X12_1 rfl o_t.1 o_t.2.1 o_t.2.2.1 o_t.2.2.2 rfl ?_
  refine r_nmM (fun τ1 eτ1 => ?_)
  have h := h τ1 eτ1
  refine r_iload_n (x := x1) d_X12_clear_5 rfl ?_
  refine x_callSI (Y2 := mX12_isShelf) (As := [(0, x1)]) (S := []) d_X12_clear_6 ok_mX12_isShelf ml_X12_199 rfl (Nat.le_of_ble_eq_true rfl) (Nat.le_of_ble_eq_true rfl) rfl hd_1 (c_X12_isShelf (v_X12_isShelf_0 he_1 ?_))
  refine ⟨fun hc => ?_, fun hc => ?_⟩
  · have h := h.1 hc
    show WP l mX12_clear (rm d 0 0) noX _ 0 0 9 [(2, t), (0, x1), (3, 0), (3, 0)] [(0, 0)] N Λ τ1
    refine r_if_ne (tgt := 15) d_X12_clear_9 rfl (fun hc => absurd hc (by decide)) (fun _ => ?_)
    refine r_bipush (x := (-2)) d_X12_clear_12 ⟨by decide, by decide⟩ (by decide) ?_
    exact r_iret d_X12_clear_14 rfl rfl (Nat.le_refl 0) (Nat.le_refl 0) ⟨_, rfl, rfl, rfl, h⟩
  · have h := h.2 hc
    refine ⟨fun hc => ?_, fun hc => ?_⟩
    · have h := h.1 hc
      show WP l mX12_clear (rm d 0 0) noX _ 0 0 9 [(2, t), (0, x1), (3, 0), (3, 0)] [(0, 0)] N Λ τ1
      refine r_if_ne (tgt := 15) d_X12_clear_9 rfl (fun hc => absurd hc (by decide)) (fun _ => ?_)
      refine r_bipush (x := (-2)) d_X12_clear_12 ⟨by decide, by decide⟩ (by decide) ?_
      exact r_iret d_X12_clear_14 rfl rfl (Nat.le_refl 0) (Nat.le_refl 0) ⟨_, rfl, rfl, rfl, h⟩
    · have h := h.2 hc
      show WP l mX12_clear (rm d 0 0) noX _ 0 0 9 [(2, t), (0, x1), (3, 0), (3, 0)] [(0, 1)] N Λ τ1
      refine r_if_ne (tgt := 15) d_X12_clear_9 rfl (fun _ => ?_) (fun hc => absurd hc (by decide))
      refine r_aload_n (x := t) d_X12_clear_15 rfl o_t.1 ?_
      refine x_callVV (Y2 := mX12_begins) (c := t) (As := []) (S := []) d_X12_clear_16 ok_mX12_begins ml_X12_202 rfl (Nat.le_of_ble_eq_true rfl) (Nat.le_of_ble_eq_true rfl) rfl hd_1 kX12 o_t (c_X12_begins (v_X12_begins_0 o_t f_t_pool he_1 ?_))
      intro τ2 eτ2
      have h := h τ2 eτ2
      refine ⟨h.1, ?_⟩
      have h := h.2
      intro τ3 eτ3
      have h := h τ3 eτ3
      show WP l mX12_clear (rm d 0 0) noX _ 0 0 19 [(2, t), (0, x1), (3, 0), (3, 0)] [] N Λ τ3
      refine r_aload_n (x := t) d_X12_clear_19 rfl o_t.1 ?_
      refine r_getf (j := 3) (t := 2) (x := t_state) d_X12_clear_20 kX12 (by decide) fl_X12_20 o_t.1 o_t.2.1 o_t.2.2.1 o_t.2.2.2 rfl f_t_state ?_
      refine r_sipush (x := 161) d_X12_clear_23 ⟨by decide, by decide⟩ (by decide) ?_
      refine r_iload_n (x := x1) d_X12_clear_26 rfl ?_
      refine r_imul d_X12_clear_27 ?_
      refine x_iald d_X12_clear_28 h.1 ?_
      have h := h.2
      refine r_nm (fun y4 ey4 => ?_)
      have h := h y4 ey4
      refine r_istore_n (L2 := [(2, t), (0, x1), (0, y4), (3, 0)]) d_X12_clear_29 (by decide) rfl rfl ?_
      refine r_aload_n (x := t) d_X12_clear_30 rfl o_t.1 ?_
      refine r_iload_n (x := x1) d_X12_clear_31 rfl ?_
      refine x_callVI (Y2 := mX12_becomes) (c := t) (As := [(0, x1)]) (S := []) d_X12_clear_32 ok_mX12_becomes ml_X12_190 rfl (Nat.le_of_ble_eq_true rfl) (Nat.le_of_ble_eq_true rfl) rfl hd_1 kX12 o_t (c_X12_becomes (v_X12_becomes_0 o_t f_t_state f_t_deeds f_t_pool he_2 ?_))
      refine ⟨fun hc => ?_, fun hc => ?_⟩
      · have h := h.1 hc
        refine CV.mono h (fun σ5 h => ?_)
        intro τ6 eτ6
        have h := h τ6 eτ6
        refine CV.mono h (fun σ7 h => ?_)
        refine ⟨h.1, ?_⟩
        have h := h.2
        show WP l mX12_clear (rm d 0 0) noX _ 0 0 35 [(2, t), (0, x1), (0, y4), (3, 0)] [(0, (σ7 t_pool (mulI 161 0)))] N Λ σ7
        refine r_nm (fun y8 ey8 => ?_)
        have h := h y8 ey8
        refine r_istore_n (L2 := [(2, t), (0, x1), (0, y4), (0, y8)]) d_X12_clear_35 (by decide) rfl rfl ?_
        refine r_iload_n (x := y4) d_X12_clear_36 rfl ?_
        exact r_iret d_X12_clear_37 rfl rfl (Nat.le_refl 0) (Nat.le_refl 0) ⟨_, rfl, rfl, rfl, h⟩
      · have h := h.2 hc
        refine CV.mono h (fun σ9 h => ?_)
        intro τ10 eτ10
        have h := h τ10 eτ10
        refine CV.mono h (fun σ11 h => ?_)
        intro τ12 eτ12
        have h := h τ12 eτ12
        refine CV.mono h (fun σ13 h => ?_)
        refine ⟨h.1, ?_⟩
        have h := h.2
        show WP l mX12_clear (rm d 0 0) noX _ 0 0 35 [(2, t), (0, x1), (0, y4), (3, 0)] [(0, (σ13 t_pool (mulI 161 0)))] N Λ σ13
        refine r_nm (fun y14 ey14 => ?_)
        have h := h y14 ey14
        refine r_istore_n (L2 := [(2, t), (0, x1), (0, y4), (0, y14)]) d_X12_clear_35 (by decide) rfl rfl ?_
        refine r_iload_n (x := y4) d_X12_clear_36 rfl ?_
        exact r_iret d_X12_clear_37 rfl rfl (Nat.le_refl 0) (Nat.le_refl 0) ⟨_, rfl, rfl, rfl, h⟩
theorem v_X12_copy_0 {l : Launch} {d N : Nat} {Λ : Lay} {P : Int → Mem → Prop} {σ : Mem} {x1 x2 t t_deeds t_pool t_state : Int} (o_t : Ob N Λ t 21 36) (f_t_pool : (Λ t).2.2 7 = t_pool) (f_t_state : (Λ t).2.2 3 = t_state) (f_t_deeds : (Λ t).2.2 4 = t_deeds) (h0d : 3 ≤ d)
    (h : (∀ τ1, τ1 = st σ t 0 0 → (((cmpL x1 0) < 0 → P (-2) τ1) ∧ (¬ ((cmpL x1 0) < 0) → ((0 < (cmpL x1 5) → P (-2) τ1) ∧ (¬ (0 < (cmpL x1 5)) → (((cmpL x2 0) < 0 → P (-2) τ1) ∧ (¬ ((cmpL x2 0) < 0) → ((0 < (cmpL x2 5) → P (-2) τ1) ∧ (¬ (0 < (cmpL x2 5)) → (∀ τ2, τ2 = st τ1 t 8 0 → (Ix N Λ t_pool 0 (mulI 161 0) ∧ (∀ τ3, τ3 = st τ2 t_pool (mulI 161 0) 0 → (CV l mX12_copies (d - 1 - 1) [(2, t_state), (0, (mulI 161 x2)), (2, t_pool), (0, (mulI 161 0)), (0, 161)] N Λ τ3 (fun σ4 => ((¬ (σ4 t 5) = 10 → (CV l mX12_copies (d - 1 - 1 - 1) [(2, t_state), (0, 0), (2, t_deeds), (0, (mulI 1116 (σ4 t 5))), (0, 1116)] N Λ σ4 (fun σ5 => (∀ τ6, τ6 = st σ5 t 5 (addI (σ5 t 5) 1) → (CV l mX12_copies (d - 1 - 1) [(2, t_pool), (0, 0), (2, t_state), (0, (mulI 161 x1)), (0, 161)] N Λ τ6 (fun σ7 => (Ix N Λ t_pool 0 (mulI 161 0) ∧ P (σ7 t_pool (mulI 161 0)) σ7))))))) ∧ ((σ4 t 5) = 10 → (CV l mX12_copies (d - 1 - 1 - 1) [(2, t_deeds), (0, 1116), (2, t_deeds), (0, 0), (0, 10044)] N Λ σ4 (fun σ8 => (∀ τ9, τ9 = st σ8 t 5 (subI (σ8 t 5) 1) → (CV l mX12_copies (d - 1 - 1 - 1) [(2, t_state), (0, 0), (2, t_deeds), (0, (mulI 1116 (τ9 t 5))), (0, 1116)] N Λ τ9 (fun σ10 => (∀ τ11, τ11 = st σ10 t 5 (addI (σ10 t 5) 1) → (CV l mX12_copies (d - 1 - 1) [(2, t_pool), (0, 0), (2, t_state), (0, (mulI 161 x1)), (0, 161)] N Λ τ11 (fun σ12 => (Ix N Λ t_pool 0 (mulI 161 0) ∧ P (σ12 t_pool (mulI 161 0)) σ12)))))))))))))))))))))))))) :
    WI l mX12_copy d P 0 [(2, t), (0, x1), (0, x2)] [] N Λ σ := by
  have hd_1 : 1 ≤ d := Nat.le_trans (by decide) h0d
  have he_1 : 1 ≤ d - 1 := Nat.le_sub_of_add_le (Nat.le_trans (by decide) h0d)
  have he_2 : 2 ≤ d - 1 := Nat.le_sub_of_add_le (Nat.le_trans (by decide) h0d)
  refine r_aload_n (x := t) d_X12_copy_0 rfl o_t.1 ?_
  refine r_iconst (x := 0) d_X12_copy_1 ⟨by decide, by decide⟩ ?_
  refine r_putI (j := 0) d_X12_copy_2 kX12 (by decide) fl_X12_1 rfl o_t.1 o_t.2.1 o_t.2.2.1 o_t.2.2.2 rfl ?_
  refine r_nmM (fun τ1 eτ1 => ?_)
  have h := h τ1 eτ1
  refine r_iload_n (x := x1) d_X12_copy_5 rfl ?_
  refine x_callSI (Y2 := mX12_isShelf) (As := [(0, x1)]) (S := []) d_X12_copy_6 ok_mX12_isShelf ml_X12_199 rfl (Nat.le_of_ble_eq_true rfl) (Nat.le_of_ble_eq_true rfl) rfl hd_1 (c_X12_isShelf (v_X12_isShelf_0 he_1 ?_))
  refine ⟨fun hc => ?_, fun hc => ?_⟩
  · have h := h.1 hc
    show WP l mX12_copy (rm d 0 0) noX _ 0 0 9 [(2, t), (0, x1), (0, x2)] [(0, 0)] N Λ τ1
    refine r_if_eq (tgt := 19) d_X12_copy_9 rfl (fun _ => ?_) (fun hc => absurd hc (by decide))
    refine r_bipush (x := (-2)) d_X12_copy_19 ⟨by decide, by decide⟩ (by decide) ?_
    exact r_iret d_X12_copy_21 rfl rfl (Nat.le_refl 0) (Nat.le_refl 0) ⟨_, rfl, rfl, rfl, h⟩
  · have h := h.2 hc
    refine ⟨fun hc => ?_, fun hc => ?_⟩
    · have h := h.1 hc
      show WP l mX12_copy (rm d 0 0) noX _ 0 0 9 [(2, t), (0, x1), (0, x2)] [(0, 0)] N Λ τ1
      refine r_if_eq (tgt := 19) d_X12_copy_9 rfl (fun _ => ?_) (fun hc => absurd hc (by decide))
      refine r_bipush (x := (-2)) d_X12_copy_19 ⟨by decide, by decide⟩ (by decide) ?_
      exact r_iret d_X12_copy_21 rfl rfl (Nat.le_refl 0) (Nat.le_refl 0) ⟨_, rfl, rfl, rfl, h⟩
    · have h := h.2 hc
      show WP l mX12_copy (rm d 0 0) noX _ 0 0 9 [(2, t), (0, x1), (0, x2)] [(0, 1)] N Λ τ1
      refine r_if_eq (tgt := 19) d_X12_copy_9 rfl (fun hc => absurd hc (by decide)) (fun _ => ?_)
      refine r_iload_n (x := x2) d_X12_copy_12 rfl ?_
      refine x_callSI (Y2 := mX12_isShelf) (As := [(0, x2)]) (S := []) d_X12_copy_13 ok_mX12_isShelf ml_X12_199 rfl (Nat.le_of_ble_eq_true rfl) (Nat.le_of_ble_eq_true rfl) rfl hd_1 (c_X12_isShelf (v_X12_isShelf_0 he_1 ?_))
      refine ⟨fun hc => ?_, fun hc => ?_⟩
      · have h := h.1 hc
        show WP l mX12_copy (rm d 0 0) noX _ 0 0 16 [(2, t), (0, x1), (0, x2)] [(0, 0)] N Λ τ1
        refine r_if_ne (tgt := 22) d_X12_copy_16 rfl (fun hc => absurd hc (by decide)) (fun _ => ?_)
        refine r_bipush (x := (-2)) d_X12_copy_19 ⟨by decide, by decide⟩ (by decide) ?_
        exact r_iret d_X12_copy_21 rfl rfl (Nat.le_refl 0) (Nat.le_refl 0) ⟨_, rfl, rfl, rfl, h⟩
      · have h := h.2 hc
        refine ⟨fun hc => ?_, fun hc => ?_⟩
        · have h := h.1 hc
          show WP l mX12_copy (rm d 0 0) noX _ 0 0 16 [(2, t), (0, x1), (0, x2)] [(0, 0)] N Λ τ1
          refine r_if_ne (tgt := 22) d_X12_copy_16 rfl (fun hc => absurd hc (by decide)) (fun _ => ?_)
          refine r_bipush (x := (-2)) d_X12_copy_19 ⟨by decide, by decide⟩ (by decide) ?_
          exact r_iret d_X12_copy_21 rfl rfl (Nat.le_refl 0) (Nat.le_refl 0) ⟨_, rfl, rfl, rfl, h⟩
        · have h := h.2 hc
          show WP l mX12_copy (rm d 0 0) noX _ 0 0 16 [(2, t), (0, x1), (0, x2)] [(0, 1)] N Λ τ1
          refine r_if_ne (tgt := 22) d_X12_copy_16 rfl (fun _ => ?_) (fun hc => absurd hc (by decide))
          refine r_aload_n (x := t) d_X12_copy_22 rfl o_t.1 ?_
          refine x_callVV (Y2 := mX12_begins) (c := t) (As := []) (S := []) d_X12_copy_23 ok_mX12_begins ml_X12_202 rfl (Nat.le_of_ble_eq_true rfl) (Nat.le_of_ble_eq_true rfl) rfl hd_1 kX12 o_t (c_X12_begins (v_X12_begins_0 o_t f_t_pool he_1 ?_))
          intro τ2 eτ2
          have h := h τ2 eτ2
          refine ⟨h.1, ?_⟩
          have h := h.2
          intro τ3 eτ3
          have h := h τ3 eτ3
          show WP l mX12_copy (rm d 0 0) noX _ 0 0 26 [(2, t), (0, x1), (0, x2)] [] N Λ τ3
          refine r_aload_n (x := t) d_X12_copy_26 rfl o_t.1 ?_
          refine r_iload_n (x := x2) d_X12_copy_27 rfl ?_
          refine r_iconst (x := 0) d_X12_copy_28 ⟨by decide, by decide⟩ ?_
          refine x_callVV (Y2 := mX12_takes) (c := t) (As := [(0, x2), (0, 0)]) (S := []) d_X12_copy_29 ok_mX12_takes ml_X12_205 rfl (Nat.le_of_ble_eq_true rfl) (Nat.le_of_ble_eq_true rfl) rfl hd_1 kX12 o_t (c_X12_takes (v_X12_takes_0 o_t f_t_state f_t_pool he_1 ?_))
          refine CV.mono h (fun σ4 h => ?_)
          show WP l mX12_copy (rm d 0 0) noX _ 0 0 32 [(2, t), (0, x1), (0, x2)] [] N Λ σ4
          refine r_aload_n (x := t) d_X12_copy_32 rfl o_t.1 ?_
          refine r_iload_n (x := x1) d_X12_copy_33 rfl ?_
          refine x_callVI (Y2 := mX12_becomes) (c := t) (As := [(0, x1)]) (S := []) d_X12_copy_34 ok_mX12_becomes ml_X12_190 rfl (Nat.le_of_ble_eq_true rfl) (Nat.le_of_ble_eq_true rfl) rfl hd_1 kX12 o_t (c_X12_becomes (v_X12_becomes_0 o_t f_t_state f_t_deeds f_t_pool he_2 ?_))
          refine ⟨fun hc => ?_, fun hc => ?_⟩
          · have h := h.1 hc
            refine CV.mono h (fun σ5 h => ?_)
            intro τ6 eτ6
            have h := h τ6 eτ6
            refine CV.mono h (fun σ7 h => ?_)
            refine ⟨h.1, ?_⟩
            have h := h.2
            show WP l mX12_copy (rm d 0 0) noX _ 0 0 37 [(2, t), (0, x1), (0, x2)] [(0, (σ7 t_pool (mulI 161 0)))] N Λ σ7
            exact r_iret d_X12_copy_37 rfl rfl (Nat.le_refl 0) (Nat.le_refl 0) ⟨_, rfl, rfl, rfl, h⟩
          · have h := h.2 hc
            refine CV.mono h (fun σ8 h => ?_)
            intro τ9 eτ9
            have h := h τ9 eτ9
            refine CV.mono h (fun σ10 h => ?_)
            intro τ11 eτ11
            have h := h τ11 eτ11
            refine CV.mono h (fun σ12 h => ?_)
            refine ⟨h.1, ?_⟩
            have h := h.2
            show WP l mX12_copy (rm d 0 0) noX _ 0 0 37 [(2, t), (0, x1), (0, x2)] [(0, (σ12 t_pool (mulI 161 0)))] N Λ σ12
            exact r_iret d_X12_copy_37 rfl rfl (Nat.le_refl 0) (Nat.le_refl 0) ⟨_, rfl, rfl, rfl, h⟩
theorem v_X12_putsBracket_0 {l : Launch} {d N : Nat} {Λ : Lay} {P : Mem → Prop} {σ : Mem} {x1 x2 x3 x4 t t_rankOf t_ranks : Int} (o_t : Ob N Λ t 21 36) (f_t_rankOf : (Λ t).2.2 1 = t_rankOf) (f_t_ranks : (Λ t).2.2 9 = t_ranks) (h0d : 1 ≤ d)
    (h : (Ix N Λ t_rankOf 0 (addI (addI (mulI 100 x1) (mulI 10 x2)) x3) ∧ (∀ y1, y1 = (σ t_rankOf (addI (addI (mulI 100 x1) (mulI 10 x2)) x3)) → ((0 ≤ y1 → (Ix N Λ t_ranks 0 0 ∧ (∀ τ2, τ2 = st σ t_ranks 0 y1 → ((y1 = 0 → P τ2) ∧ (¬ (y1 = 0) → (CI l mX12_keyOf (d - 1) [(2, t), (0, 1)] N Λ τ2 (fun v4 σ3 => ((0 ≤ y1 → (CI l mX12_puts (d - 1) [(2, t), (0, x4), (0, v4), (1, 1)] N Λ σ3 (fun v6 σ5 => P σ5))) ∧ (¬ (0 ≤ y1) → (CI l mX12_puts (d - 1) [(2, t), (0, x4), (0, v4), (1, (-1))] N Λ σ3 (fun v8 σ7 => P σ7))))))))))) ∧ (¬ (0 ≤ y1) → (Ix N Λ t_ranks 0 0 ∧ (∀ τ9, τ9 = st σ t_ranks 0 (negI y1) → ((y1 = 0 → P τ9) ∧ (¬ (y1 = 0) → (CI l mX12_keyOf (d - 1) [(2, t), (0, 1)] N Λ τ9 (fun v11 σ10 => ((0 ≤ y1 → (CI l mX12_puts (d - 1) [(2, t), (0, x4), (0, v11), (1, 1)] N Λ σ10 (fun v13 σ12 => P σ12))) ∧ (¬ (0 ≤ y1) → (CI l mX12_puts (d - 1) [(2, t), (0, x4), (0, v11), (1, (-1))] N Λ σ10 (fun v15 σ14 => P σ14))))))))))))))) :
    WV l mX12_putsBracket d P 0 [(2, t), (0, x1), (0, x2), (0, x3), (0, x4), (3, 0)] [] N Λ σ := by
  have hd_1 : 1 ≤ d := Nat.le_trans (by decide) h0d
  refine r_aload_n (x := t) d_X12_putsBracket_0 rfl o_t.1 ?_
  refine r_getf (j := 1) (t := 2) (x := t_rankOf) d_X12_putsBracket_1 kX12 (by decide) fl_X12_13 o_t.1 o_t.2.1 o_t.2.2.1 o_t.2.2.2 rfl f_t_rankOf ?_
  refine r_bipush (x := 100) d_X12_putsBracket_4 ⟨by decide, by decide⟩ (by decide) ?_
  refine r_iload_n (x := x1) d_X12_putsBracket_6 rfl ?_
  refine r_imul d_X12_putsBracket_7 ?_
  refine r_bipush (x := 10) d_X12_putsBracket_8 ⟨by decide, by decide⟩ (by decide) ?_
  refine r_iload_n (x := x2) d_X12_putsBracket_10 rfl ?_
  refine r_imul d_X12_putsBracket_11 ?_
  refine r_iadd d_X12_putsBracket_12 ?_
  refine r_iload_n (x := x3) d_X12_putsBracket_13 rfl ?_
  refine r_iadd d_X12_putsBracket_14 ?_
  refine x_iald d_X12_putsBracket_15 h.1 ?_
  have h := h.2
  refine r_nm (fun y1 ey1 => ?_)
  have h := h y1 ey1
  refine r_istore (L2 := [(2, t), (0, x1), (0, x2), (0, x3), (0, x4), (0, y1)]) d_X12_putsBracket_16 (by decide) rfl rfl ?_
  refine r_aload_n (x := t) d_X12_putsBracket_18 rfl o_t.1 ?_
  refine r_getf (j := 9) (t := 2) (x := t_ranks) d_X12_putsBracket_19 kX12 (by decide) fl_X12_33 o_t.1 o_t.2.1 o_t.2.2.1 o_t.2.2.2 rfl f_t_ranks ?_
  refine r_iconst (x := 0) d_X12_putsBracket_22 ⟨by decide, by decide⟩ ?_
  refine r_iload (x := y1) d_X12_putsBracket_23 rfl ?_
  refine x_callSI (Y2 := mX12_sizeOf) (As := [(0, y1)]) (S := [(0, 0), (2, t_ranks)]) d_X12_putsBracket_25 ok_mX12_sizeOf ml_X12_168 rfl (Nat.le_of_ble_eq_true rfl) (Nat.le_of_ble_eq_true rfl) rfl hd_1 (c_X12_sizeOf (v_X12_sizeOf_0 ?_))
  refine ⟨fun hc => ?_, fun hc => ?_⟩
  · have h := h.1 hc
    show WP l mX12_putsBracket (rm d 0 0) noX _ 0 0 28 [(2, t), (0, x1), (0, x2), (0, x3), (0, x4), (0, y1)] [(0, y1), (0, 0), (2, t_ranks)] N Λ σ
    refine x_iast d_X12_putsBracket_28 h.1 ?_
    have h := h.2
    refine r_nmM (fun τ2 eτ2 => ?_)
    have h := h τ2 eτ2
    refine r_iload (x := y1) d_X12_putsBracket_29 rfl ?_
    refine r_if_eq (tgt := 58) d_X12_putsBracket_31 rfl (fun hc => ?_) (fun hc => ?_)
    · have h := h.1 hc
      exact r_vret d_X12_putsBracket_58 rfl (Nat.le_refl 0) (Nat.le_refl 0) ⟨rfl, rfl, rfl, h⟩
    · have h := h.2 hc
      refine r_aload_n (x := t) d_X12_putsBracket_34 rfl o_t.1 ?_
      refine r_iload (x := x4) d_X12_putsBracket_35 rfl ?_
      refine r_aload_n (x := t) d_X12_putsBracket_37 rfl o_t.1 ?_
      refine r_iconst (x := 1) d_X12_putsBracket_38 ⟨by decide, by decide⟩ ?_
      refine x_callVI (Y2 := mX12_keyOf) (c := t) (As := [(0, 1)]) (S := [(0, x4), (2, t)]) d_X12_putsBracket_39 ok_mX12_keyOf ml_X12_141 rfl (Nat.le_of_ble_eq_true rfl) (Nat.le_of_ble_eq_true rfl) rfl hd_1 kX12 o_t (CI.mono h (fun v4 σ3 h => ?_))
      refine r_iload (x := y1) d_X12_putsBracket_42 rfl ?_
      refine r_if_ge (tgt := 53) d_X12_putsBracket_44 rfl (fun hc => ?_) (fun hc => ?_)
      · have h := h.1 hc
        refine r_lconst d_X12_putsBracket_53 ?_
        skip
        refine x_callVI (Y2 := mX12_puts) (c := t) (As := [(0, x4), (0, v4), (1, 1)]) (S := []) d_X12_putsBracket_54 ok_mX12_puts ml_X12_147 rfl (Nat.le_of_ble_eq_true rfl) (Nat.le_of_ble_eq_true rfl) rfl hd_1 kX12 o_t (CI.mono h (fun v6 σ5 h => ?_))
        refine r_pop d_X12_putsBracket_57 rfl ?_
        exact r_vret d_X12_putsBracket_58 rfl (Nat.le_refl 0) (Nat.le_refl 0) ⟨rfl, rfl, rfl, h⟩
      · have h := h.2 hc
        refine r_ldc2 (x := (-1)) d_X12_putsBracket_47 ck_X12_166 (by decide) ?_
        refine r_goto (tgt := 54) d_X12_putsBracket_50 rfl ?_
        refine x_callVI (Y2 := mX12_puts) (c := t) (As := [(0, x4), (0, v4), (1, (-1))]) (S := []) d_X12_putsBracket_54 ok_mX12_puts ml_X12_147 rfl (Nat.le_of_ble_eq_true rfl) (Nat.le_of_ble_eq_true rfl) rfl hd_1 kX12 o_t (CI.mono h (fun v8 σ7 h => ?_))
        refine r_pop d_X12_putsBracket_57 rfl ?_
        exact r_vret d_X12_putsBracket_58 rfl (Nat.le_refl 0) (Nat.le_refl 0) ⟨rfl, rfl, rfl, h⟩
  · have h := h.2 hc
    show WP l mX12_putsBracket (rm d 0 0) noX _ 0 0 28 [(2, t), (0, x1), (0, x2), (0, x3), (0, x4), (0, y1)] [(0, (negI y1)), (0, 0), (2, t_ranks)] N Λ σ
    refine x_iast d_X12_putsBracket_28 h.1 ?_
    have h := h.2
    refine r_nmM (fun τ9 eτ9 => ?_)
    have h := h τ9 eτ9
    refine r_iload (x := y1) d_X12_putsBracket_29 rfl ?_
    refine r_if_eq (tgt := 58) d_X12_putsBracket_31 rfl (fun hc => ?_) (fun hc => ?_)
    · have h := h.1 hc
      exact r_vret d_X12_putsBracket_58 rfl (Nat.le_refl 0) (Nat.le_refl 0) ⟨rfl, rfl, rfl, h⟩
    · have h := h.2 hc
      refine r_aload_n (x := t) d_X12_putsBracket_34 rfl o_t.1 ?_
      refine r_iload (x := x4) d_X12_putsBracket_35 rfl ?_
      refine r_aload_n (x := t) d_X12_putsBracket_37 rfl o_t.1 ?_
      refine r_iconst (x := 1) d_X12_putsBracket_38 ⟨by decide, by decide⟩ ?_
      refine x_callVI (Y2 := mX12_keyOf) (c := t) (As := [(0, 1)]) (S := [(0, x4), (2, t)]) d_X12_putsBracket_39 ok_mX12_keyOf ml_X12_141 rfl (Nat.le_of_ble_eq_true rfl) (Nat.le_of_ble_eq_true rfl) rfl hd_1 kX12 o_t (CI.mono h (fun v11 σ10 h => ?_))
      refine r_iload (x := y1) d_X12_putsBracket_42 rfl ?_
      refine r_if_ge (tgt := 53) d_X12_putsBracket_44 rfl (fun hc => ?_) (fun hc => ?_)
      · have h := h.1 hc
        refine r_lconst d_X12_putsBracket_53 ?_
        skip
        refine x_callVI (Y2 := mX12_puts) (c := t) (As := [(0, x4), (0, v11), (1, 1)]) (S := []) d_X12_putsBracket_54 ok_mX12_puts ml_X12_147 rfl (Nat.le_of_ble_eq_true rfl) (Nat.le_of_ble_eq_true rfl) rfl hd_1 kX12 o_t (CI.mono h (fun v13 σ12 h => ?_))
        refine r_pop d_X12_putsBracket_57 rfl ?_
        exact r_vret d_X12_putsBracket_58 rfl (Nat.le_refl 0) (Nat.le_refl 0) ⟨rfl, rfl, rfl, h⟩
      · have h := h.2 hc
        refine r_ldc2 (x := (-1)) d_X12_putsBracket_47 ck_X12_166 (by decide) ?_
        refine r_goto (tgt := 54) d_X12_putsBracket_50 rfl ?_
        refine x_callVI (Y2 := mX12_puts) (c := t) (As := [(0, x4), (0, v11), (1, (-1))]) (S := []) d_X12_putsBracket_54 ok_mX12_puts ml_X12_147 rfl (Nat.le_of_ble_eq_true rfl) (Nat.le_of_ble_eq_true rfl) rfl hd_1 kX12 o_t (CI.mono h (fun v15 σ14 h => ?_))
        refine r_pop d_X12_putsBracket_57 rfl ?_
        exact r_vret d_X12_putsBracket_58 rfl (Nat.le_refl 0) (Nat.le_refl 0) ⟨rfl, rfl, rfl, h⟩
theorem v_X12_bracket_0 {l : Launch} {d N : Nat} {Λ : Lay} {P : Int → Mem → Prop} {σ : Mem} {x1 x2 x3 x4 t t_deeds t_pool t_state : Int} (o_t : Ob N Λ t 21 36) (f_t_pool : (Λ t).2.2 7 = t_pool) (f_t_state : (Λ t).2.2 3 = t_state) (f_t_deeds : (Λ t).2.2 4 = t_deeds) (h0d : 3 ≤ d)
    (h : (∀ τ1, τ1 = st σ t 0 0 → (((cmpL x1 0) < 0 → P (-2) τ1) ∧ (¬ ((cmpL x1 0) < 0) → ((0 < (cmpL x1 5) → P (-2) τ1) ∧ (¬ (0 < (cmpL x1 5)) → (((cmpL x2 0) < 0 → P (-2) τ1) ∧ (¬ ((cmpL x2 0) < 0) → ((0 < (cmpL x2 9) → P (-2) τ1) ∧ (¬ (0 < (cmpL x2 9)) → (((cmpL x3 0) < 0 → P (-2) τ1) ∧ (¬ ((cmpL x3 0) < 0) → ((0 < (cmpL x3 9) → P (-2) τ1) ∧ (¬ (0 < (cmpL x3 9)) → (((cmpL x4 0) < 0 → P (-2) τ1) ∧ (¬ ((cmpL x4 0) < 0) → ((0 < (cmpL x4 9) → P (-2) τ1) ∧ (¬ (0 < (cmpL x4 9)) → (∀ τ2, τ2 = st τ1 t 8 0 → (Ix N Λ t_pool 0 (mulI 161 0) ∧ (∀ τ3, τ3 = st τ2 t_pool (mulI 161 0) 0 → (CV l mX12_putsBracket (d - 1) [(2, t), (0, x2), (0, x3), (0, x4), (0, 0)] N Λ τ3 (fun σ4 => ((¬ (σ4 t 5) = 10 → (CV l mX12_copies (d - 1 - 1 - 1) [(2, t_state), (0, 0), (2, t_deeds), (0, (mulI 1116 (σ4 t 5))), (0, 1116)] N Λ σ4 (fun σ5 => (∀ τ6, τ6 = st σ5 t 5 (addI (σ5 t 5) 1) → (CV l mX12_copies (d - 1 - 1) [(2, t_pool), (0, 0), (2, t_state), (0, (mulI 161 x1)), (0, 161)] N Λ τ6 (fun σ7 => (Ix N Λ t_pool 0 (mulI 161 0) ∧ P (σ7 t_pool (mulI 161 0)) σ7))))))) ∧ ((σ4 t 5) = 10 → (CV l mX12_copies (d - 1 - 1 - 1) [(2, t_deeds), (0, 1116), (2, t_deeds), (0, 0), (0, 10044)] N Λ σ4 (fun σ8 => (∀ τ9, τ9 = st σ8 t 5 (subI (σ8 t 5) 1) → (CV l mX12_copies (d - 1 - 1 - 1) [(2, t_state), (0, 0), (2, t_deeds), (0, (mulI 1116 (τ9 t 5))), (0, 1116)] N Λ τ9 (fun σ10 => (∀ τ11, τ11 = st σ10 t 5 (addI (σ10 t 5) 1) → (CV l mX12_copies (d - 1 - 1) [(2, t_pool), (0, 0), (2, t_state), (0, (mulI 161 x1)), (0, 161)] N Λ τ11 (fun σ12 => (Ix N Λ t_pool 0 (mulI 161 0) ∧ P (σ12 t_pool (mulI 161 0)) σ12)))))))))))))))))))))))))))))))))) :
    WI l mX12_bracket d P 0 [(2, t), (0, x1), (0, x2), (0, x3), (0, x4)] [] N Λ σ := by
  have hd_1 : 1 ≤ d := Nat.le_trans (by decide) h0d
  have he_1 : 1 ≤ d - 1 := Nat.le_sub_of_add_le (Nat.le_trans (by decide) h0d)
  have he_2 : 2 ≤ d - 1 := Nat.le_sub_of_add_le (Nat.le_trans (by decide) h0d)
  refine r_aload_n (x := t) d_X12_bracket_0 rfl o_t.1 ?_
  refine r_iconst (x := 0) d_X12_bracket_1 ⟨by decide, by decide⟩ ?_
  refine r_putI (j := 0) d_X12_bracket_2 kX12 (by decide) fl_X12_1 rfl o_t.1 o_t.2.1 o_t.2.2.1 o_t.2.2.2 rfl ?_
  refine r_nmM (fun τ1 eτ1 => ?_)
  have h := h τ1 eτ1
  refine r_iload_n (x := x1) d_X12_bracket_5 rfl ?_
  refine x_callSI (Y2 := mX12_isShelf) (As := [(0, x1)]) (S := []) d_X12_bracket_6 ok_mX12_isShelf ml_X12_199 rfl (Nat.le_of_ble_eq_true rfl) (Nat.le_of_ble_eq_true rfl) rfl hd_1 (c_X12_isShelf (v_X12_isShelf_0 he_1 ?_))
  refine ⟨fun hc => ?_, fun hc => ?_⟩
  · have h := h.1 hc
    show WP l mX12_bracket (rm d 0 0) noX _ 0 0 9 [(2, t), (0, x1), (0, x2), (0, x3), (0, x4)] [(0, 0)] N Λ τ1
    refine r_if_eq (tgt := 34) d_X12_bracket_9 rfl (fun _ => ?_) (fun hc => absurd hc (by decide))
    refine r_bipush (x := (-2)) d_X12_bracket_34 ⟨by decide, by decide⟩ (by decide) ?_
    exact r_iret d_X12_bracket_36 rfl rfl (Nat.le_refl 0) (Nat.le_refl 0) ⟨_, rfl, rfl, rfl, h⟩
  · have h := h.2 hc
    refine ⟨fun hc => ?_, fun hc => ?_⟩
    · have h := h.1 hc
      show WP l mX12_bracket (rm d 0 0) noX _ 0 0 9 [(2, t), (0, x1), (0, x2), (0, x3), (0, x4)] [(0, 0)] N Λ τ1
      refine r_if_eq (tgt := 34) d_X12_bracket_9 rfl (fun _ => ?_) (fun hc => absurd hc (by decide))
      refine r_bipush (x := (-2)) d_X12_bracket_34 ⟨by decide, by decide⟩ (by decide) ?_
      exact r_iret d_X12_bracket_36 rfl rfl (Nat.le_refl 0) (Nat.le_refl 0) ⟨_, rfl, rfl, rfl, h⟩
    · have h := h.2 hc
      show WP l mX12_bracket (rm d 0 0) noX _ 0 0 9 [(2, t), (0, x1), (0, x2), (0, x3), (0, x4)] [(0, 1)] N Λ τ1
      refine r_if_eq (tgt := 34) d_X12_bracket_9 rfl (fun hc => absurd hc (by decide)) (fun _ => ?_)
      refine r_iload_n (x := x2) d_X12_bracket_12 rfl ?_
      refine x_callSI (Y2 := mX12_isLetter) (As := [(0, x2)]) (S := []) d_X12_bracket_13 ok_mX12_isLetter ml_X12_208 rfl (Nat.le_of_ble_eq_true rfl) (Nat.le_of_ble_eq_true rfl) rfl hd_1 (c_X12_isLetter (v_X12_isLetter_0 he_1 ?_))
      refine ⟨fun hc => ?_, fun hc => ?_⟩
      · have h := h.1 hc
        show WP l mX12_bracket (rm d 0 0) noX _ 0 0 16 [(2, t), (0, x1), (0, x2), (0, x3), (0, x4)] [(0, 0)] N Λ τ1
        refine r_if_eq (tgt := 34) d_X12_bracket_16 rfl (fun _ => ?_) (fun hc => absurd hc (by decide))
        refine r_bipush (x := (-2)) d_X12_bracket_34 ⟨by decide, by decide⟩ (by decide) ?_
        exact r_iret d_X12_bracket_36 rfl rfl (Nat.le_refl 0) (Nat.le_refl 0) ⟨_, rfl, rfl, rfl, h⟩
      · have h := h.2 hc
        refine ⟨fun hc => ?_, fun hc => ?_⟩
        · have h := h.1 hc
          show WP l mX12_bracket (rm d 0 0) noX _ 0 0 16 [(2, t), (0, x1), (0, x2), (0, x3), (0, x4)] [(0, 0)] N Λ τ1
          refine r_if_eq (tgt := 34) d_X12_bracket_16 rfl (fun _ => ?_) (fun hc => absurd hc (by decide))
          refine r_bipush (x := (-2)) d_X12_bracket_34 ⟨by decide, by decide⟩ (by decide) ?_
          exact r_iret d_X12_bracket_36 rfl rfl (Nat.le_refl 0) (Nat.le_refl 0) ⟨_, rfl, rfl, rfl, h⟩
        · have h := h.2 hc
          show WP l mX12_bracket (rm d 0 0) noX _ 0 0 16 [(2, t), (0, x1), (0, x2), (0, x3), (0, x4)] [(0, 1)] N Λ τ1
          refine r_if_eq (tgt := 34) d_X12_bracket_16 rfl (fun hc => absurd hc (by decide)) (fun _ => ?_)
          refine r_iload_n (x := x3) d_X12_bracket_19 rfl ?_
          refine x_callSI (Y2 := mX12_isLetter) (As := [(0, x3)]) (S := []) d_X12_bracket_20 ok_mX12_isLetter ml_X12_208 rfl (Nat.le_of_ble_eq_true rfl) (Nat.le_of_ble_eq_true rfl) rfl hd_1 (c_X12_isLetter (v_X12_isLetter_0 he_1 ?_))
          refine ⟨fun hc => ?_, fun hc => ?_⟩
          · have h := h.1 hc
            show WP l mX12_bracket (rm d 0 0) noX _ 0 0 23 [(2, t), (0, x1), (0, x2), (0, x3), (0, x4)] [(0, 0)] N Λ τ1
            refine r_if_eq (tgt := 34) d_X12_bracket_23 rfl (fun _ => ?_) (fun hc => absurd hc (by decide))
            refine r_bipush (x := (-2)) d_X12_bracket_34 ⟨by decide, by decide⟩ (by decide) ?_
            exact r_iret d_X12_bracket_36 rfl rfl (Nat.le_refl 0) (Nat.le_refl 0) ⟨_, rfl, rfl, rfl, h⟩
          · have h := h.2 hc
            refine ⟨fun hc => ?_, fun hc => ?_⟩
            · have h := h.1 hc
              show WP l mX12_bracket (rm d 0 0) noX _ 0 0 23 [(2, t), (0, x1), (0, x2), (0, x3), (0, x4)] [(0, 0)] N Λ τ1
              refine r_if_eq (tgt := 34) d_X12_bracket_23 rfl (fun _ => ?_) (fun hc => absurd hc (by decide))
              refine r_bipush (x := (-2)) d_X12_bracket_34 ⟨by decide, by decide⟩ (by decide) ?_
              exact r_iret d_X12_bracket_36 rfl rfl (Nat.le_refl 0) (Nat.le_refl 0) ⟨_, rfl, rfl, rfl, h⟩
            · have h := h.2 hc
              show WP l mX12_bracket (rm d 0 0) noX _ 0 0 23 [(2, t), (0, x1), (0, x2), (0, x3), (0, x4)] [(0, 1)] N Λ τ1
              refine r_if_eq (tgt := 34) d_X12_bracket_23 rfl (fun hc => absurd hc (by decide)) (fun _ => ?_)
              refine r_iload (x := x4) d_X12_bracket_26 rfl ?_
              refine x_callSI (Y2 := mX12_isLetter) (As := [(0, x4)]) (S := []) d_X12_bracket_28 ok_mX12_isLetter ml_X12_208 rfl (Nat.le_of_ble_eq_true rfl) (Nat.le_of_ble_eq_true rfl) rfl hd_1 (c_X12_isLetter (v_X12_isLetter_0 he_1 ?_))
              refine ⟨fun hc => ?_, fun hc => ?_⟩
              · have h := h.1 hc
                show WP l mX12_bracket (rm d 0 0) noX _ 0 0 31 [(2, t), (0, x1), (0, x2), (0, x3), (0, x4)] [(0, 0)] N Λ τ1
                refine r_if_ne (tgt := 37) d_X12_bracket_31 rfl (fun hc => absurd hc (by decide)) (fun _ => ?_)
                refine r_bipush (x := (-2)) d_X12_bracket_34 ⟨by decide, by decide⟩ (by decide) ?_
                exact r_iret d_X12_bracket_36 rfl rfl (Nat.le_refl 0) (Nat.le_refl 0) ⟨_, rfl, rfl, rfl, h⟩
              · have h := h.2 hc
                refine ⟨fun hc => ?_, fun hc => ?_⟩
                · have h := h.1 hc
                  show WP l mX12_bracket (rm d 0 0) noX _ 0 0 31 [(2, t), (0, x1), (0, x2), (0, x3), (0, x4)] [(0, 0)] N Λ τ1
                  refine r_if_ne (tgt := 37) d_X12_bracket_31 rfl (fun hc => absurd hc (by decide)) (fun _ => ?_)
                  refine r_bipush (x := (-2)) d_X12_bracket_34 ⟨by decide, by decide⟩ (by decide) ?_
                  exact r_iret d_X12_bracket_36 rfl rfl (Nat.le_refl 0) (Nat.le_refl 0) ⟨_, rfl, rfl, rfl, h⟩
                · have h := h.2 hc
                  show WP l mX12_bracket (rm d 0 0) noX _ 0 0 31 [(2, t), (0, x1), (0, x2), (0, x3), (0, x4)] [(0, 1)] N Λ τ1
                  refine r_if_ne (tgt := 37) d_X12_bracket_31 rfl (fun _ => ?_) (fun hc => absurd hc (by decide))
                  refine r_aload_n (x := t) d_X12_bracket_37 rfl o_t.1 ?_
                  refine x_callVV (Y2 := mX12_begins) (c := t) (As := []) (S := []) d_X12_bracket_38 ok_mX12_begins ml_X12_202 rfl (Nat.le_of_ble_eq_true rfl) (Nat.le_of_ble_eq_true rfl) rfl hd_1 kX12 o_t (c_X12_begins (v_X12_begins_0 o_t f_t_pool he_1 ?_))
                  intro τ2 eτ2
                  have h := h τ2 eτ2
                  refine ⟨h.1, ?_⟩
                  have h := h.2
                  intro τ3 eτ3
                  have h := h τ3 eτ3
                  show WP l mX12_bracket (rm d 0 0) noX _ 0 0 41 [(2, t), (0, x1), (0, x2), (0, x3), (0, x4)] [] N Λ τ3
                  refine r_aload_n (x := t) d_X12_bracket_41 rfl o_t.1 ?_
                  refine r_iload_n (x := x2) d_X12_bracket_42 rfl ?_
                  refine r_iload_n (x := x3) d_X12_bracket_43 rfl ?_
                  refine r_iload (x := x4) d_X12_bracket_44 rfl ?_
                  refine r_iconst (x := 0) d_X12_bracket_46 ⟨by decide, by decide⟩ ?_
                  refine x_callVV (Y2 := mX12_putsBracket) (c := t) (As := [(0, x2), (0, x3), (0, x4), (0, 0)]) (S := []) d_X12_bracket_47 ok_mX12_putsBracket ml_X12_211 rfl (Nat.le_of_ble_eq_true rfl) (Nat.le_of_ble_eq_true rfl) rfl hd_1 kX12 o_t (CV.mono h (fun σ4 h => ?_))
                  refine r_aload_n (x := t) d_X12_bracket_50 rfl o_t.1 ?_
                  refine r_iload_n (x := x1) d_X12_bracket_51 rfl ?_
                  refine x_callVI (Y2 := mX12_becomes) (c := t) (As := [(0, x1)]) (S := []) d_X12_bracket_52 ok_mX12_becomes ml_X12_190 rfl (Nat.le_of_ble_eq_true rfl) (Nat.le_of_ble_eq_true rfl) rfl hd_1 kX12 o_t (c_X12_becomes (v_X12_becomes_0 o_t f_t_state f_t_deeds f_t_pool he_2 ?_))
                  refine ⟨fun hc => ?_, fun hc => ?_⟩
                  · have h := h.1 hc
                    refine CV.mono h (fun σ5 h => ?_)
                    intro τ6 eτ6
                    have h := h τ6 eτ6
                    refine CV.mono h (fun σ7 h => ?_)
                    refine ⟨h.1, ?_⟩
                    have h := h.2
                    show WP l mX12_bracket (rm d 0 0) noX _ 0 0 55 [(2, t), (0, x1), (0, x2), (0, x3), (0, x4)] [(0, (σ7 t_pool (mulI 161 0)))] N Λ σ7
                    exact r_iret d_X12_bracket_55 rfl rfl (Nat.le_refl 0) (Nat.le_refl 0) ⟨_, rfl, rfl, rfl, h⟩
                  · have h := h.2 hc
                    refine CV.mono h (fun σ8 h => ?_)
                    intro τ9 eτ9
                    have h := h τ9 eτ9
                    refine CV.mono h (fun σ10 h => ?_)
                    intro τ11 eτ11
                    have h := h τ11 eτ11
                    refine CV.mono h (fun σ12 h => ?_)
                    refine ⟨h.1, ?_⟩
                    have h := h.2
                    show WP l mX12_bracket (rm d 0 0) noX _ 0 0 55 [(2, t), (0, x1), (0, x2), (0, x3), (0, x4)] [(0, (σ12 t_pool (mulI 161 0)))] N Λ σ12
                    exact r_iret d_X12_bracket_55 rfl rfl (Nat.le_refl 0) (Nat.le_refl 0) ⟨_, rfl, rfl, rfl, h⟩
theorem v_X12_exchange_0 {l : Launch} {d N : Nat} {Λ : Lay} {P : Int → Mem → Prop} {σ : Mem} {x1 x2 x3 x4 t t_pool : Int} (o_t : Ob N Λ t 21 36) (f_t_pool : (Λ t).2.2 7 = t_pool) (h0d : 2 ≤ d)
    (h : (∀ τ1, τ1 = st σ t 0 0 → (((cmpL x1 0) < 0 → P (-2) τ1) ∧ (¬ ((cmpL x1 0) < 0) → ((0 < (cmpL x1 5) → P (-2) τ1) ∧ (¬ (0 < (cmpL x1 5)) → (((cmpL x2 0) < 0 → P (-3) τ1) ∧ (¬ ((cmpL x2 0) < 0) → ((0 < (cmpL x2 999) → P (-3) τ1) ∧ (¬ (0 < (cmpL x2 999)) → (((cmpL x3 0) < 0 → P (-3) τ1) ∧ (¬ ((cmpL x3 0) < 0) → ((0 < (cmpL x3 999) → P (-3) τ1) ∧ (¬ (0 < (cmpL x3 999)) → (((cmpL x4 1) < 0 → P (-3) τ1) ∧ (¬ ((cmpL x4 1) < 0) → ((0 < (cmpL x4 3) → P (-3) τ1) ∧ (¬ (0 < (cmpL x4 3)) → (∀ τ2, τ2 = st τ1 t 8 0 → (Ix N Λ t_pool 0 (mulI 161 0) ∧ (∀ τ3, τ3 = st τ2 t_pool (mulI 161 0) 0 → WI l mX12_exchange d P 62 [(2, t), (0, x1), (0, x2), (0, x3), (0, x4), (0, 0), (3, 0)] [] N Λ τ3))))))))))))))))))))) :
    WI l mX12_exchange d P 0 [(2, t), (0, x1), (0, x2), (0, x3), (0, x4), (3, 0), (3, 0)] [] N Λ σ := by
  have hd_1 : 1 ≤ d := Nat.le_trans (by decide) h0d
  have he_1 : 1 ≤ d - 1 := Nat.le_sub_of_add_le (Nat.le_trans (by decide) h0d)
  refine r_aload_n (x := t) d_X12_exchange_0 rfl o_t.1 ?_
  refine r_iconst (x := 0) d_X12_exchange_1 ⟨by decide, by decide⟩ ?_
  refine r_putI (j := 0) d_X12_exchange_2 kX12 (by decide) fl_X12_1 rfl o_t.1 o_t.2.1 o_t.2.2.1 o_t.2.2.2 rfl ?_
  refine r_nmM (fun τ1 eτ1 => ?_)
  have h := h τ1 eτ1
  refine r_iload_n (x := x1) d_X12_exchange_5 rfl ?_
  refine x_callSI (Y2 := mX12_isShelf) (As := [(0, x1)]) (S := []) d_X12_exchange_6 ok_mX12_isShelf ml_X12_199 rfl (Nat.le_of_ble_eq_true rfl) (Nat.le_of_ble_eq_true rfl) rfl hd_1 (c_X12_isShelf (v_X12_isShelf_0 he_1 ?_))
  refine ⟨fun hc => ?_, fun hc => ?_⟩
  · have h := h.1 hc
    show WP l mX12_exchange (rm d 0 0) noX _ 0 0 9 [(2, t), (0, x1), (0, x2), (0, x3), (0, x4), (3, 0), (3, 0)] [(0, 0)] N Λ τ1
    refine r_if_ne (tgt := 15) d_X12_exchange_9 rfl (fun hc => absurd hc (by decide)) (fun _ => ?_)
    refine r_bipush (x := (-2)) d_X12_exchange_12 ⟨by decide, by decide⟩ (by decide) ?_
    exact r_iret d_X12_exchange_14 rfl rfl (Nat.le_refl 0) (Nat.le_refl 0) ⟨_, rfl, rfl, rfl, h⟩
  · have h := h.2 hc
    refine ⟨fun hc => ?_, fun hc => ?_⟩
    · have h := h.1 hc
      show WP l mX12_exchange (rm d 0 0) noX _ 0 0 9 [(2, t), (0, x1), (0, x2), (0, x3), (0, x4), (3, 0), (3, 0)] [(0, 0)] N Λ τ1
      refine r_if_ne (tgt := 15) d_X12_exchange_9 rfl (fun hc => absurd hc (by decide)) (fun _ => ?_)
      refine r_bipush (x := (-2)) d_X12_exchange_12 ⟨by decide, by decide⟩ (by decide) ?_
      exact r_iret d_X12_exchange_14 rfl rfl (Nat.le_refl 0) (Nat.le_refl 0) ⟨_, rfl, rfl, rfl, h⟩
    · have h := h.2 hc
      show WP l mX12_exchange (rm d 0 0) noX _ 0 0 9 [(2, t), (0, x1), (0, x2), (0, x3), (0, x4), (3, 0), (3, 0)] [(0, 1)] N Λ τ1
      refine r_if_ne (tgt := 15) d_X12_exchange_9 rfl (fun _ => ?_) (fun hc => absurd hc (by decide))
      refine r_iload_n (x := x2) d_X12_exchange_15 rfl ?_
      refine r_i2l d_X12_exchange_16 ?_
      refine r_lconst d_X12_exchange_17 ?_
      skip
      refine r_ldc2 (x := 999) d_X12_exchange_18 ck_X12_214 (by decide) ?_
      refine x_callSI (Y2 := mX12_within) (As := [(1, x2), (1, 0), (1, 999)]) (S := []) d_X12_exchange_21 ok_mX12_within ml_X12_91 rfl (Nat.le_of_ble_eq_true rfl) (Nat.le_of_ble_eq_true rfl) rfl hd_1 (c_X12_within (v_X12_within_0 ?_))
      refine ⟨fun hc => ?_, fun hc => ?_⟩
      · have h := h.1 hc
        show WP l mX12_exchange (rm d 0 0) noX _ 0 0 24 [(2, t), (0, x1), (0, x2), (0, x3), (0, x4), (3, 0), (3, 0)] [(0, 0)] N Λ τ1
        refine r_if_eq (tgt := 52) d_X12_exchange_24 rfl (fun _ => ?_) (fun hc => absurd hc (by decide))
        refine r_bipush (x := (-3)) d_X12_exchange_52 ⟨by decide, by decide⟩ (by decide) ?_
        exact r_iret d_X12_exchange_54 rfl rfl (Nat.le_refl 0) (Nat.le_refl 0) ⟨_, rfl, rfl, rfl, h⟩
      · have h := h.2 hc
        refine ⟨fun hc => ?_, fun hc => ?_⟩
        · have h := h.1 hc
          show WP l mX12_exchange (rm d 0 0) noX _ 0 0 24 [(2, t), (0, x1), (0, x2), (0, x3), (0, x4), (3, 0), (3, 0)] [(0, 0)] N Λ τ1
          refine r_if_eq (tgt := 52) d_X12_exchange_24 rfl (fun _ => ?_) (fun hc => absurd hc (by decide))
          refine r_bipush (x := (-3)) d_X12_exchange_52 ⟨by decide, by decide⟩ (by decide) ?_
          exact r_iret d_X12_exchange_54 rfl rfl (Nat.le_refl 0) (Nat.le_refl 0) ⟨_, rfl, rfl, rfl, h⟩
        · have h := h.2 hc
          show WP l mX12_exchange (rm d 0 0) noX _ 0 0 24 [(2, t), (0, x1), (0, x2), (0, x3), (0, x4), (3, 0), (3, 0)] [(0, 1)] N Λ τ1
          refine r_if_eq (tgt := 52) d_X12_exchange_24 rfl (fun hc => absurd hc (by decide)) (fun _ => ?_)
          refine r_iload_n (x := x3) d_X12_exchange_27 rfl ?_
          refine r_i2l d_X12_exchange_28 ?_
          refine r_lconst d_X12_exchange_29 ?_
          skip
          refine r_ldc2 (x := 999) d_X12_exchange_30 ck_X12_214 (by decide) ?_
          refine x_callSI (Y2 := mX12_within) (As := [(1, x3), (1, 0), (1, 999)]) (S := []) d_X12_exchange_33 ok_mX12_within ml_X12_91 rfl (Nat.le_of_ble_eq_true rfl) (Nat.le_of_ble_eq_true rfl) rfl hd_1 (c_X12_within (v_X12_within_0 ?_))
          refine ⟨fun hc => ?_, fun hc => ?_⟩
          · have h := h.1 hc
            show WP l mX12_exchange (rm d 0 0) noX _ 0 0 36 [(2, t), (0, x1), (0, x2), (0, x3), (0, x4), (3, 0), (3, 0)] [(0, 0)] N Λ τ1
            refine r_if_eq (tgt := 52) d_X12_exchange_36 rfl (fun _ => ?_) (fun hc => absurd hc (by decide))
            refine r_bipush (x := (-3)) d_X12_exchange_52 ⟨by decide, by decide⟩ (by decide) ?_
            exact r_iret d_X12_exchange_54 rfl rfl (Nat.le_refl 0) (Nat.le_refl 0) ⟨_, rfl, rfl, rfl, h⟩
          · have h := h.2 hc
            refine ⟨fun hc => ?_, fun hc => ?_⟩
            · have h := h.1 hc
              show WP l mX12_exchange (rm d 0 0) noX _ 0 0 36 [(2, t), (0, x1), (0, x2), (0, x3), (0, x4), (3, 0), (3, 0)] [(0, 0)] N Λ τ1
              refine r_if_eq (tgt := 52) d_X12_exchange_36 rfl (fun _ => ?_) (fun hc => absurd hc (by decide))
              refine r_bipush (x := (-3)) d_X12_exchange_52 ⟨by decide, by decide⟩ (by decide) ?_
              exact r_iret d_X12_exchange_54 rfl rfl (Nat.le_refl 0) (Nat.le_refl 0) ⟨_, rfl, rfl, rfl, h⟩
            · have h := h.2 hc
              show WP l mX12_exchange (rm d 0 0) noX _ 0 0 36 [(2, t), (0, x1), (0, x2), (0, x3), (0, x4), (3, 0), (3, 0)] [(0, 1)] N Λ τ1
              refine r_if_eq (tgt := 52) d_X12_exchange_36 rfl (fun hc => absurd hc (by decide)) (fun _ => ?_)
              refine r_iload (x := x4) d_X12_exchange_39 rfl ?_
              refine r_i2l d_X12_exchange_41 ?_
              refine r_lconst d_X12_exchange_42 ?_
              skip
              refine r_ldc2 (x := 3) d_X12_exchange_43 ck_X12_216 (by decide) ?_
              refine x_callSI (Y2 := mX12_within) (As := [(1, x4), (1, 1), (1, 3)]) (S := []) d_X12_exchange_46 ok_mX12_within ml_X12_91 rfl (Nat.le_of_ble_eq_true rfl) (Nat.le_of_ble_eq_true rfl) rfl hd_1 (c_X12_within (v_X12_within_0 ?_))
              refine ⟨fun hc => ?_, fun hc => ?_⟩
              · have h := h.1 hc
                show WP l mX12_exchange (rm d 0 0) noX _ 0 0 49 [(2, t), (0, x1), (0, x2), (0, x3), (0, x4), (3, 0), (3, 0)] [(0, 0)] N Λ τ1
                refine r_if_ne (tgt := 55) d_X12_exchange_49 rfl (fun hc => absurd hc (by decide)) (fun _ => ?_)
                refine r_bipush (x := (-3)) d_X12_exchange_52 ⟨by decide, by decide⟩ (by decide) ?_
                exact r_iret d_X12_exchange_54 rfl rfl (Nat.le_refl 0) (Nat.le_refl 0) ⟨_, rfl, rfl, rfl, h⟩
              · have h := h.2 hc
                refine ⟨fun hc => ?_, fun hc => ?_⟩
                · have h := h.1 hc
                  show WP l mX12_exchange (rm d 0 0) noX _ 0 0 49 [(2, t), (0, x1), (0, x2), (0, x3), (0, x4), (3, 0), (3, 0)] [(0, 0)] N Λ τ1
                  refine r_if_ne (tgt := 55) d_X12_exchange_49 rfl (fun hc => absurd hc (by decide)) (fun _ => ?_)
                  refine r_bipush (x := (-3)) d_X12_exchange_52 ⟨by decide, by decide⟩ (by decide) ?_
                  exact r_iret d_X12_exchange_54 rfl rfl (Nat.le_refl 0) (Nat.le_refl 0) ⟨_, rfl, rfl, rfl, h⟩
                · have h := h.2 hc
                  show WP l mX12_exchange (rm d 0 0) noX _ 0 0 49 [(2, t), (0, x1), (0, x2), (0, x3), (0, x4), (3, 0), (3, 0)] [(0, 1)] N Λ τ1
                  refine r_if_ne (tgt := 55) d_X12_exchange_49 rfl (fun _ => ?_) (fun hc => absurd hc (by decide))
                  refine r_aload_n (x := t) d_X12_exchange_55 rfl o_t.1 ?_
                  refine x_callVV (Y2 := mX12_begins) (c := t) (As := []) (S := []) d_X12_exchange_56 ok_mX12_begins ml_X12_202 rfl (Nat.le_of_ble_eq_true rfl) (Nat.le_of_ble_eq_true rfl) rfl hd_1 kX12 o_t (c_X12_begins (v_X12_begins_0 o_t f_t_pool he_1 ?_))
                  intro τ2 eτ2
                  have h := h τ2 eτ2
                  refine ⟨h.1, ?_⟩
                  have h := h.2
                  intro τ3 eτ3
                  have h := h τ3 eτ3
                  show WP l mX12_exchange (rm d 0 0) noX _ 0 0 59 [(2, t), (0, x1), (0, x2), (0, x3), (0, x4), (3, 0), (3, 0)] [] N Λ τ3
                  refine r_iconst (x := 0) d_X12_exchange_59 ⟨by decide, by decide⟩ ?_
                  refine r_istore (L2 := [(2, t), (0, x1), (0, x2), (0, x3), (0, x4), (0, 0), (3, 0)]) d_X12_exchange_60 (by decide) rfl rfl ?_
                  exact h
theorem v_X12_exchange_62 {l : Launch} {d N : Nat} {Λ : Lay} {P : Int → Mem → Prop} {σ : Mem} {x1 x2 x3 x4 x5 t t_deeds t_pool t_rowX t_rowY t_state : Int} (o_t : Ob N Λ t 21 36) (f_t_state : (Λ t).2.2 3 = t_state) (f_t_deeds : (Λ t).2.2 4 = t_deeds) (f_t_pool : (Λ t).2.2 7 = t_pool) (f_t_rowX : (Λ t).2.2 10 = t_rowX) (f_t_rowY : (Λ t).2.2 11 = t_rowY) (h0d : 3 ≤ d)
    (h : ((3 ≤ x5 → (CV l mX12_exchanges (d - 1) [(2, t), (0, x4), (0, 0), (1, 1), (0, 0)] N Λ σ (fun σ1 => ((¬ (σ1 t 5) = 10 → (CV l mX12_copies (d - 1 - 1 - 1) [(2, t_state), (0, 0), (2, t_deeds), (0, (mulI 1116 (σ1 t 5))), (0, 1116)] N Λ σ1 (fun σ2 => (∀ τ3, τ3 = st σ2 t 5 (addI (σ2 t 5) 1) → (CV l mX12_copies (d - 1 - 1) [(2, t_pool), (0, 0), (2, t_state), (0, (mulI 161 x1)), (0, 161)] N Λ τ3 (fun σ4 => (Ix N Λ t_pool 0 (mulI 161 0) ∧ P (σ4 t_pool (mulI 161 0)) σ4))))))) ∧ ((σ1 t 5) = 10 → (CV l mX12_copies (d - 1 - 1 - 1) [(2, t_deeds), (0, 1116), (2, t_deeds), (0, 0), (0, 10044)] N Λ σ1 (fun σ5 => (∀ τ6, τ6 = st σ5 t 5 (subI (σ5 t 5) 1) → (CV l mX12_copies (d - 1 - 1 - 1) [(2, t_state), (0, 0), (2, t_deeds), (0, (mulI 1116 (τ6 t 5))), (0, 1116)] N Λ τ6 (fun σ7 => (∀ τ8, τ8 = st σ7 t 5 (addI (σ7 t 5) 1) → (CV l mX12_copies (d - 1 - 1) [(2, t_pool), (0, 0), (2, t_state), (0, (mulI 161 x1)), (0, 161)] N Λ τ8 (fun σ9 => (Ix N Λ t_pool 0 (mulI 161 0) ∧ P (σ9 t_pool (mulI 161 0)) σ9)))))))))))))) ∧ (¬ (3 ≤ x5) → ((¬ x5 = 0 → ((¬ x5 = 1 → (Ix N Λ t_rowX 0 x5 ∧ (∀ τ10, τ10 = st σ t_rowX x5 (remI (divI x2 1) 10) → (Ix N Λ t_rowY 0 x5 ∧ (∀ τ11, τ11 = st τ10 t_rowY x5 (remI (divI x3 1) 10) → (∀ y12, y12 = addI x5 1 → WI l mX12_exchange d P 62 [(2, t), (0, x1), (0, x2), (0, x3), (0, x4), (0, y12), (3, 0)] [] N Λ τ11)))))) ∧ (x5 = 1 → (Ix N Λ t_rowX 0 x5 ∧ (∀ τ13, τ13 = st σ t_rowX x5 (remI (divI x2 10) 10) → (Ix N Λ t_rowY 0 x5 ∧ (∀ τ14, τ14 = st τ13 t_rowY x5 (remI (divI x3 10) 10) → (∀ y15, y15 = addI x5 1 → WI l mX12_exchange d P 62 [(2, t), (0, x1), (0, x2), (0, x3), (0, x4), (0, y15), (3, 0)] [] N Λ τ14)))))))) ∧ (x5 = 0 → (Ix N Λ t_rowX 0 x5 ∧ (∀ τ16, τ16 = st σ t_rowX x5 (remI (divI x2 100) 10) → (Ix N Λ t_rowY 0 x5 ∧ (∀ τ17, τ17 = st τ16 t_rowY x5 (remI (divI x3 100) 10) → (∀ y18, y18 = addI x5 1 → WI l mX12_exchange d P 62 [(2, t), (0, x1), (0, x2), (0, x3), (0, x4), (0, y18), (3, 0)] [] N Λ τ17)))))))))) :
    WI l mX12_exchange d P 62 [(2, t), (0, x1), (0, x2), (0, x3), (0, x4), (0, x5), (3, 0)] [] N Λ σ := by
  have hd_1 : 1 ≤ d := Nat.le_trans (by decide) h0d
  have he_1 : 1 ≤ d - 1 := Nat.le_sub_of_add_le (Nat.le_trans (by decide) h0d)
  have he_2 : 2 ≤ d - 1 := Nat.le_sub_of_add_le (Nat.le_trans (by decide) h0d)
  refine r_iload (x := x5) d_X12_exchange_62 rfl ?_
  refine r_iconst (x := 3) d_X12_exchange_64 ⟨by decide, by decide⟩ ?_
  refine r_ic_ge (tgt := 126) d_X12_exchange_65 rfl (fun hc => ?_) (fun hc => ?_)
  · have h := h.1 hc
    refine r_aload_n (x := t) d_X12_exchange_126 rfl o_t.1 ?_
    refine r_iload (x := x4) d_X12_exchange_127 rfl ?_
    refine r_iconst (x := 0) d_X12_exchange_129 ⟨by decide, by decide⟩ ?_
    refine r_lconst d_X12_exchange_130 ?_
    skip
    refine r_iconst (x := 0) d_X12_exchange_131 ⟨by decide, by decide⟩ ?_
    refine x_callVV (Y2 := mX12_exchanges) (c := t) (As := [(0, x4), (0, 0), (1, 1), (0, 0)]) (S := []) d_X12_exchange_132 ok_mX12_exchanges ml_X12_174 rfl (Nat.le_of_ble_eq_true rfl) (Nat.le_of_ble_eq_true rfl) rfl hd_1 kX12 o_t (CV.mono h (fun σ1 h => ?_))
    refine r_aload_n (x := t) d_X12_exchange_135 rfl o_t.1 ?_
    refine r_iload_n (x := x1) d_X12_exchange_136 rfl ?_
    refine x_callVI (Y2 := mX12_becomes) (c := t) (As := [(0, x1)]) (S := []) d_X12_exchange_137 ok_mX12_becomes ml_X12_190 rfl (Nat.le_of_ble_eq_true rfl) (Nat.le_of_ble_eq_true rfl) rfl hd_1 kX12 o_t (c_X12_becomes (v_X12_becomes_0 o_t f_t_state f_t_deeds f_t_pool he_2 ?_))
    refine ⟨fun hc => ?_, fun hc => ?_⟩
    · have h := h.1 hc
      refine CV.mono h (fun σ2 h => ?_)
      intro τ3 eτ3
      have h := h τ3 eτ3
      refine CV.mono h (fun σ4 h => ?_)
      refine ⟨h.1, ?_⟩
      have h := h.2
      show WP l mX12_exchange (rm d 0 0) noX _ 0 0 140 [(2, t), (0, x1), (0, x2), (0, x3), (0, x4), (0, x5), (3, 0)] [(0, (σ4 t_pool (mulI 161 0)))] N Λ σ4
      exact r_iret d_X12_exchange_140 rfl rfl (Nat.le_refl 0) (Nat.le_refl 0) ⟨_, rfl, rfl, rfl, h⟩
    · have h := h.2 hc
      refine CV.mono h (fun σ5 h => ?_)
      intro τ6 eτ6
      have h := h τ6 eτ6
      refine CV.mono h (fun σ7 h => ?_)
      intro τ8 eτ8
      have h := h τ8 eτ8
      refine CV.mono h (fun σ9 h => ?_)
      refine ⟨h.1, ?_⟩
      have h := h.2
      show WP l mX12_exchange (rm d 0 0) noX _ 0 0 140 [(2, t), (0, x1), (0, x2), (0, x3), (0, x4), (0, x5), (3, 0)] [(0, (σ9 t_pool (mulI 161 0)))] N Λ σ9
      exact r_iret d_X12_exchange_140 rfl rfl (Nat.le_refl 0) (Nat.le_refl 0) ⟨_, rfl, rfl, rfl, h⟩
  · have h := h.2 hc
    refine r_iload (x := x5) d_X12_exchange_68 rfl ?_
    refine r_if_ne (tgt := 78) d_X12_exchange_70 rfl (fun hc => ?_) (fun hc => ?_)
    · have h := h.1 hc
      refine r_iload (x := x5) d_X12_exchange_78 rfl ?_
      refine r_iconst (x := 1) d_X12_exchange_80 ⟨by decide, by decide⟩ ?_
      refine r_ic_ne (tgt := 89) d_X12_exchange_81 rfl (fun hc => ?_) (fun hc => ?_)
      · have h := h.1 hc
        refine r_iconst (x := 1) d_X12_exchange_89 ⟨by decide, by decide⟩ ?_
        refine r_istore (L2 := [(2, t), (0, x1), (0, x2), (0, x3), (0, x4), (0, x5), (0, 1)]) d_X12_exchange_90 (by decide) rfl rfl ?_
        refine r_aload_n (x := t) d_X12_exchange_92 rfl o_t.1 ?_
        refine r_getf (j := 10) (t := 2) (x := t_rowX) d_X12_exchange_93 kX12 (by decide) fl_X12_36 o_t.1 o_t.2.1 o_t.2.2.1 o_t.2.2.2 rfl f_t_rowX ?_
        refine r_iload (x := x5) d_X12_exchange_96 rfl ?_
        refine r_iload_n (x := x2) d_X12_exchange_98 rfl ?_
        refine r_iload (x := 1) d_X12_exchange_99 rfl ?_
        refine r_idiv d_X12_exchange_101 (by decide) ?_
        refine r_bipush (x := 10) d_X12_exchange_102 ⟨by decide, by decide⟩ (by decide) ?_
        refine r_irem d_X12_exchange_104 (by decide) ?_
        refine x_iast d_X12_exchange_105 h.1 ?_
        have h := h.2
        refine r_nmM (fun τ10 eτ10 => ?_)
        have h := h τ10 eτ10
        refine r_aload_n (x := t) d_X12_exchange_106 rfl o_t.1 ?_
        refine r_getf (j := 11) (t := 2) (x := t_rowY) d_X12_exchange_107 kX12 (by decide) fl_X12_39 o_t.1 o_t.2.1 o_t.2.2.1 o_t.2.2.2 rfl f_t_rowY ?_
        refine r_iload (x := x5) d_X12_exchange_110 rfl ?_
        refine r_iload_n (x := x3) d_X12_exchange_112 rfl ?_
        refine r_iload (x := 1) d_X12_exchange_113 rfl ?_
        refine r_idiv d_X12_exchange_115 (by decide) ?_
        refine r_bipush (x := 10) d_X12_exchange_116 ⟨by decide, by decide⟩ (by decide) ?_
        refine r_irem d_X12_exchange_118 (by decide) ?_
        refine x_iast d_X12_exchange_119 h.1 ?_
        have h := h.2
        refine r_nmM (fun τ11 eτ11 => ?_)
        have h := h τ11 eτ11
        refine x_iinc (x := x5) (L := [(2, t), (0, x1), (0, x2), (0, x3), (0, x4), (0, x5), (0, 1)]) d_X12_exchange_120 rfl (by decide) rfl (fun y12 ey12 => ?_)
        have h := h y12 ey12
        show WP _ _ _ _ _ _ _ _ [(2, t), (0, x1), (0, x2), (0, x3), (0, x4), (0, y12), (0, 1)] _ _ _ _
        refine r_goto (tgt := 62) d_X12_exchange_123 rfl ?_
        exact x_mask h ⟨Or.inr rfl, Or.inr rfl, Or.inr rfl, Or.inr rfl, Or.inr rfl, Or.inr rfl, Or.inl rfl, trivial⟩
      · have h := h.2 hc
        refine r_bipush (x := 10) d_X12_exchange_84 ⟨by decide, by decide⟩ (by decide) ?_
        refine r_goto (tgt := 90) d_X12_exchange_86 rfl ?_
        refine r_istore (L2 := [(2, t), (0, x1), (0, x2), (0, x3), (0, x4), (0, x5), (0, 10)]) d_X12_exchange_90 (by decide) rfl rfl ?_
        refine r_aload_n (x := t) d_X12_exchange_92 rfl o_t.1 ?_
        refine r_getf (j := 10) (t := 2) (x := t_rowX) d_X12_exchange_93 kX12 (by decide) fl_X12_36 o_t.1 o_t.2.1 o_t.2.2.1 o_t.2.2.2 rfl f_t_rowX ?_
        refine r_iload (x := x5) d_X12_exchange_96 rfl ?_
        refine r_iload_n (x := x2) d_X12_exchange_98 rfl ?_
        refine r_iload (x := 10) d_X12_exchange_99 rfl ?_
        refine r_idiv d_X12_exchange_101 (by decide) ?_
        refine r_bipush (x := 10) d_X12_exchange_102 ⟨by decide, by decide⟩ (by decide) ?_
        refine r_irem d_X12_exchange_104 (by decide) ?_
        refine x_iast d_X12_exchange_105 h.1 ?_
        have h := h.2
        refine r_nmM (fun τ13 eτ13 => ?_)
        have h := h τ13 eτ13
        refine r_aload_n (x := t) d_X12_exchange_106 rfl o_t.1 ?_
        refine r_getf (j := 11) (t := 2) (x := t_rowY) d_X12_exchange_107 kX12 (by decide) fl_X12_39 o_t.1 o_t.2.1 o_t.2.2.1 o_t.2.2.2 rfl f_t_rowY ?_
        refine r_iload (x := x5) d_X12_exchange_110 rfl ?_
        refine r_iload_n (x := x3) d_X12_exchange_112 rfl ?_
        refine r_iload (x := 10) d_X12_exchange_113 rfl ?_
        refine r_idiv d_X12_exchange_115 (by decide) ?_
        refine r_bipush (x := 10) d_X12_exchange_116 ⟨by decide, by decide⟩ (by decide) ?_
        refine r_irem d_X12_exchange_118 (by decide) ?_
        refine x_iast d_X12_exchange_119 h.1 ?_
        have h := h.2
        refine r_nmM (fun τ14 eτ14 => ?_)
        have h := h τ14 eτ14
        refine x_iinc (x := x5) (L := [(2, t), (0, x1), (0, x2), (0, x3), (0, x4), (0, x5), (0, 10)]) d_X12_exchange_120 rfl (by decide) rfl (fun y15 ey15 => ?_)
        have h := h y15 ey15
        show WP _ _ _ _ _ _ _ _ [(2, t), (0, x1), (0, x2), (0, x3), (0, x4), (0, y15), (0, 10)] _ _ _ _
        refine r_goto (tgt := 62) d_X12_exchange_123 rfl ?_
        exact x_mask h ⟨Or.inr rfl, Or.inr rfl, Or.inr rfl, Or.inr rfl, Or.inr rfl, Or.inr rfl, Or.inl rfl, trivial⟩
    · have h := h.2 hc
      refine r_bipush (x := 100) d_X12_exchange_73 ⟨by decide, by decide⟩ (by decide) ?_
      refine r_goto (tgt := 90) d_X12_exchange_75 rfl ?_
      refine r_istore (L2 := [(2, t), (0, x1), (0, x2), (0, x3), (0, x4), (0, x5), (0, 100)]) d_X12_exchange_90 (by decide) rfl rfl ?_
      refine r_aload_n (x := t) d_X12_exchange_92 rfl o_t.1 ?_
      refine r_getf (j := 10) (t := 2) (x := t_rowX) d_X12_exchange_93 kX12 (by decide) fl_X12_36 o_t.1 o_t.2.1 o_t.2.2.1 o_t.2.2.2 rfl f_t_rowX ?_
      refine r_iload (x := x5) d_X12_exchange_96 rfl ?_
      refine r_iload_n (x := x2) d_X12_exchange_98 rfl ?_
      refine r_iload (x := 100) d_X12_exchange_99 rfl ?_
      refine r_idiv d_X12_exchange_101 (by decide) ?_
      refine r_bipush (x := 10) d_X12_exchange_102 ⟨by decide, by decide⟩ (by decide) ?_
      refine r_irem d_X12_exchange_104 (by decide) ?_
      refine x_iast d_X12_exchange_105 h.1 ?_
      have h := h.2
      refine r_nmM (fun τ16 eτ16 => ?_)
      have h := h τ16 eτ16
      refine r_aload_n (x := t) d_X12_exchange_106 rfl o_t.1 ?_
      refine r_getf (j := 11) (t := 2) (x := t_rowY) d_X12_exchange_107 kX12 (by decide) fl_X12_39 o_t.1 o_t.2.1 o_t.2.2.1 o_t.2.2.2 rfl f_t_rowY ?_
      refine r_iload (x := x5) d_X12_exchange_110 rfl ?_
      refine r_iload_n (x := x3) d_X12_exchange_112 rfl ?_
      refine r_iload (x := 100) d_X12_exchange_113 rfl ?_
      refine r_idiv d_X12_exchange_115 (by decide) ?_
      refine r_bipush (x := 10) d_X12_exchange_116 ⟨by decide, by decide⟩ (by decide) ?_
      refine r_irem d_X12_exchange_118 (by decide) ?_
      refine x_iast d_X12_exchange_119 h.1 ?_
      have h := h.2
      refine r_nmM (fun τ17 eτ17 => ?_)
      have h := h τ17 eτ17
      refine x_iinc (x := x5) (L := [(2, t), (0, x1), (0, x2), (0, x3), (0, x4), (0, x5), (0, 100)]) d_X12_exchange_120 rfl (by decide) rfl (fun y18 ey18 => ?_)
      have h := h y18 ey18
      show WP _ _ _ _ _ _ _ _ [(2, t), (0, x1), (0, x2), (0, x3), (0, x4), (0, y18), (0, 100)] _ _ _ _
      refine r_goto (tgt := 62) d_X12_exchange_123 rfl ?_
      exact x_mask h ⟨Or.inr rfl, Or.inr rfl, Or.inr rfl, Or.inr rfl, Or.inr rfl, Or.inr rfl, Or.inl rfl, trivial⟩
theorem v_X12_putsTimes_0 {l : Launch} {d N : Nat} {Λ : Lay} {P : Mem → Prop} {σ : Mem} {x1 x2 t t_pool t_state : Int} (o_t : Ob N Λ t 21 36) (f_t_state : (Λ t).2.2 3 = t_state) (f_t_pool : (Λ t).2.2 7 = t_pool) (h0d : 2 ≤ d)
    (h : (CV l mX12_copies (d - 1 - 1) [(2, t_state), (0, (mulI 161 x1)), (2, t_pool), (0, (mulI 161 1)), (0, 161)] N Λ σ (fun σ1 => WV l mX12_putsTimes d P 8 [(2, t), (0, x1), (0, x2), (0, 0)] [] N Λ σ1))) :
    WV l mX12_putsTimes d P 0 [(2, t), (0, x1), (0, x2), (3, 0)] [] N Λ σ := by
  have hd_1 : 1 ≤ d := Nat.le_trans (by decide) h0d
  have he_1 : 1 ≤ d - 1 := Nat.le_sub_of_add_le (Nat.le_trans (by decide) h0d)
  refine r_aload_n (x := t) d_X12_putsTimes_0 rfl o_t.1 ?_
  refine r_iload_n (x := x1) d_X12_putsTimes_1 rfl ?_
  refine r_iconst (x := 1) d_X12_putsTimes_2 ⟨by decide, by decide⟩ ?_
  refine x_callVV (Y2 := mX12_takes) (c := t) (As := [(0, x1), (0, 1)]) (S := []) d_X12_putsTimes_3 ok_mX12_takes ml_X12_205 rfl (Nat.le_of_ble_eq_true rfl) (Nat.le_of_ble_eq_true rfl) rfl hd_1 kX12 o_t (c_X12_takes (v_X12_takes_0 o_t f_t_state f_t_pool he_1 ?_))
  refine CV.mono h (fun σ1 h => ?_)
  show WP l mX12_putsTimes (rm d 0 0) noX _ 0 0 6 [(2, t), (0, x1), (0, x2), (3, 0)] [] N Λ σ1
  refine r_iconst (x := 0) d_X12_putsTimes_6 ⟨by decide, by decide⟩ ?_
  refine r_istore_n (L2 := [(2, t), (0, x1), (0, x2), (0, 0)]) d_X12_putsTimes_7 (by decide) rfl rfl ?_
  exact h
theorem v_X12_putsTimes_8 {l : Launch} {d N : Nat} {Λ : Lay} {P : Mem → Prop} {σ : Mem} {x1 x2 x3 t t_pool : Int} (o_t : Ob N Λ t 21 36) (f_t_pool : (Λ t).2.2 7 = t_pool) (h0d : 1 ≤ d)
    (h : (Ix N Λ t_pool 0 (mulI 161 1) ∧ (((σ t_pool (mulI 161 1)) ≤ x3 → P σ) ∧ (¬ ((σ t_pool (mulI 161 1)) ≤ x3) → (Ix N Λ t_pool 0 (addI (addI (mulI 161 1) 1) (mulI 2 x3)) ∧ (Ix N Λ t_pool 0 (addI (addI (mulI 161 1) 2) (mulI 2 x3)) ∧ (CI l mX12_puts (d - 1) [(2, t), (0, 0), (0, (σ t_pool (addI (addI (mulI 161 1) 1) (mulI 2 x3)))), (1, (mulL x2 (σ t_pool (addI (addI (mulI 161 1) 2) (mulI 2 x3)))))] N Λ σ (fun v2 σ1 => (∀ y3, y3 = addI x3 1 → WV l mX12_putsTimes d P 8 [(2, t), (0, x1), (0, x2), (0, y3)] [] N Λ σ1))))))))) :
    WV l mX12_putsTimes d P 8 [(2, t), (0, x1), (0, x2), (0, x3)] [] N Λ σ := by
  have hd_1 : 1 ≤ d := Nat.le_trans (by decide) h0d
  refine r_iload_n (x := x3) d_X12_putsTimes_8 rfl ?_
  refine r_aload_n (x := t) d_X12_putsTimes_9 rfl o_t.1 ?_
  refine r_iconst (x := 1) d_X12_putsTimes_10 ⟨by decide, by decide⟩ ?_
  refine x_callVI (Y2 := mX12_many) (c := t) (As := [(0, 1)]) (S := [(0, x3)]) d_X12_putsTimes_11 ok_mX12_many ml_X12_113 rfl (Nat.le_of_ble_eq_true rfl) (Nat.le_of_ble_eq_true rfl) rfl hd_1 kX12 o_t (c_X12_many (v_X12_many_0 o_t f_t_pool ?_))
  refine ⟨h.1, ?_⟩
  have h := h.2
  show WP l mX12_putsTimes (rm d 0 0) noX _ 0 0 14 [(2, t), (0, x1), (0, x2), (0, x3)] [(0, (σ t_pool (mulI 161 1))), (0, x3)] N Λ σ
  refine r_ic_ge (tgt := 45) d_X12_putsTimes_14 rfl (fun hc => ?_) (fun hc => ?_)
  · have h := h.1 hc
    exact r_vret d_X12_putsTimes_45 rfl (Nat.le_refl 0) (Nat.le_refl 0) ⟨rfl, rfl, rfl, h⟩
  · have h := h.2 hc
    refine r_aload_n (x := t) d_X12_putsTimes_17 rfl o_t.1 ?_
    refine r_iconst (x := 0) d_X12_putsTimes_18 ⟨by decide, by decide⟩ ?_
    refine r_aload_n (x := t) d_X12_putsTimes_19 rfl o_t.1 ?_
    refine r_iconst (x := 1) d_X12_putsTimes_20 ⟨by decide, by decide⟩ ?_
    refine r_iload_n (x := x3) d_X12_putsTimes_21 rfl ?_
    refine x_callVI (Y2 := mX12_key) (c := t) (As := [(0, 1), (0, x3)]) (S := [(0, 0), (2, t)]) d_X12_putsTimes_22 ok_mX12_key ml_X12_117 rfl (Nat.le_of_ble_eq_true rfl) (Nat.le_of_ble_eq_true rfl) rfl hd_1 kX12 o_t (c_X12_key (v_X12_key_0 o_t f_t_pool ?_))
    refine ⟨h.1, ?_⟩
    have h := h.2
    show WP l mX12_putsTimes (rm d 0 0) noX _ 0 0 25 [(2, t), (0, x1), (0, x2), (0, x3)] [(0, (σ t_pool (addI (addI (mulI 161 1) 1) (mulI 2 x3)))), (0, 0), (2, t)] N Λ σ
    refine r_iload_n (x := x2) d_X12_putsTimes_25 rfl ?_
    refine r_i2l d_X12_putsTimes_26 ?_
    refine r_aload_n (x := t) d_X12_putsTimes_27 rfl o_t.1 ?_
    refine r_iconst (x := 1) d_X12_putsTimes_28 ⟨by decide, by decide⟩ ?_
    refine r_iload_n (x := x3) d_X12_putsTimes_29 rfl ?_
    refine x_callVI (Y2 := mX12_number) (c := t) (As := [(0, 1), (0, x3)]) (S := [(1, x2), (0, (σ t_pool (addI (addI (mulI 161 1) 1) (mulI 2 x3)))), (0, 0), (2, t)]) d_X12_putsTimes_30 ok_mX12_number ml_X12_132 rfl (Nat.le_of_ble_eq_true rfl) (Nat.le_of_ble_eq_true rfl) rfl hd_1 kX12 o_t (c_X12_number (v_X12_number_0 o_t f_t_pool ?_))
    refine ⟨h.1, ?_⟩
    have h := h.2
    show WP l mX12_putsTimes (rm d 0 0) noX _ 0 0 33 [(2, t), (0, x1), (0, x2), (0, x3)] [(0, (σ t_pool (addI (addI (mulI 161 1) 2) (mulI 2 x3)))), (1, x2), (0, (σ t_pool (addI (addI (mulI 161 1) 1) (mulI 2 x3)))), (0, 0), (2, t)] N Λ σ
    refine r_i2l d_X12_putsTimes_33 ?_
    refine r_lmul d_X12_putsTimes_34 ?_
    refine x_callVI (Y2 := mX12_puts) (c := t) (As := [(0, 0), (0, (σ t_pool (addI (addI (mulI 161 1) 1) (mulI 2 x3)))), (1, (mulL x2 (σ t_pool (addI (addI (mulI 161 1) 2) (mulI 2 x3)))))]) (S := []) d_X12_putsTimes_35 ok_mX12_puts ml_X12_147 rfl (Nat.le_of_ble_eq_true rfl) (Nat.le_of_ble_eq_true rfl) rfl hd_1 kX12 o_t (CI.mono h (fun v2 σ1 h => ?_))
    refine r_pop d_X12_putsTimes_38 rfl ?_
    refine x_iinc (x := x3) (L := [(2, t), (0, x1), (0, x2), (0, x3)]) d_X12_putsTimes_39 rfl (by decide) rfl (fun y3 ey3 => ?_)
    have h := h y3 ey3
    show WP _ _ _ _ _ _ _ _ [(2, t), (0, x1), (0, x2), (0, y3)] _ _ _ _
    refine r_goto (tgt := 8) d_X12_putsTimes_42 rfl ?_
    exact h
theorem v_X12_add_0 {l : Launch} {d N : Nat} {Λ : Lay} {P : Int → Mem → Prop} {σ : Mem} {x1 x2 x3 x4 x5 t t_pool : Int} (o_t : Ob N Λ t 21 36) (f_t_pool : (Λ t).2.2 7 = t_pool) (h0d : 2 ≤ d)
    (h : (∀ τ1, τ1 = st σ t 0 0 → (((cmpL x1 0) < 0 → (∀ τ2, τ2 = st τ1 t 16 0 → P (-2) τ2)) ∧ (¬ ((cmpL x1 0) < 0) → ((0 < (cmpL x1 5) → (∀ τ3, τ3 = st τ1 t 16 0 → P (-2) τ3)) ∧ (¬ (0 < (cmpL x1 5)) → (((cmpL x2 0) < 0 → (∀ τ4, τ4 = st τ1 t 16 0 → P (-2) τ4)) ∧ (¬ ((cmpL x2 0) < 0) → ((0 < (cmpL x2 5) → (∀ τ5, τ5 = st τ1 t 16 0 → P (-2) τ5)) ∧ (¬ (0 < (cmpL x2 5)) → (((cmpL x4 0) < 0 → (∀ τ6, τ6 = st τ1 t 16 0 → P (-2) τ6)) ∧ (¬ ((cmpL x4 0) < 0) → ((0 < (cmpL x4 5) → (∀ τ7, τ7 = st τ1 t 16 0 → P (-2) τ7)) ∧ (¬ (0 < (cmpL x4 5)) → (((cmpL x3 (-99)) < 0 → (∀ τ8, τ8 = st τ1 t 16 0 → P (-3) τ8)) ∧ (¬ ((cmpL x3 (-99)) < 0) → ((0 < (cmpL x3 99) → (∀ τ9, τ9 = st τ1 t 16 0 → P (-3) τ9)) ∧ (¬ (0 < (cmpL x3 99)) → (((cmpL x5 (-99)) < 0 → (∀ τ10, τ10 = st τ1 t 16 0 → P (-3) τ10)) ∧ (¬ ((cmpL x5 (-99)) < 0) → ((0 < (cmpL x5 99) → (∀ τ11, τ11 = st τ1 t 16 0 → P (-3) τ11)) ∧ (¬ (0 < (cmpL x5 99)) → (∀ τ12, τ12 = st τ1 t 8 0 → (Ix N Λ t_pool 0 (mulI 161 0) ∧ (∀ τ13, τ13 = st τ12 t_pool (mulI 161 0) 0 → (CV l mX12_putsTimes (d - 1) [(2, t), (0, x2), (0, x3)] N Λ τ13 (fun σ14 => (CV l mX12_putsTimes (d - 1) [(2, t), (0, x4), (0, x5)] N Λ σ14 (fun σ15 => (CI l mX12_ends (d - 1) [(2, t), (0, x1)] N Λ σ15 (fun v17 σ16 => P v17 σ16))))))))))))))))))))))))))))))) :
    WI l mX12_add d P 0 [(2, t), (0, x1), (0, x2), (0, x3), (0, x4), (0, x5)] [] N Λ σ := by
  have hd_1 : 1 ≤ d := Nat.le_trans (by decide) h0d
  have he_1 : 1 ≤ d - 1 := Nat.le_sub_of_add_le (Nat.le_trans (by decide) h0d)
  refine r_aload_n (x := t) d_X12_add_0 rfl o_t.1 ?_
  refine r_iconst (x := 0) d_X12_add_1 ⟨by decide, by decide⟩ ?_
  refine r_putI (j := 0) d_X12_add_2 kX12 (by decide) fl_X12_1 rfl o_t.1 o_t.2.1 o_t.2.2.1 o_t.2.2.2 rfl ?_
  refine r_nmM (fun τ1 eτ1 => ?_)
  have h := h τ1 eτ1
  refine r_iload_n (x := x1) d_X12_add_5 rfl ?_
  refine x_callSI (Y2 := mX12_isShelf) (As := [(0, x1)]) (S := []) d_X12_add_6 ok_mX12_isShelf ml_X12_199 rfl (Nat.le_of_ble_eq_true rfl) (Nat.le_of_ble_eq_true rfl) rfl hd_1 (c_X12_isShelf (v_X12_isShelf_0 he_1 ?_))
  refine ⟨fun hc => ?_, fun hc => ?_⟩
  · have h := h.1 hc
    show WP l mX12_add (rm d 0 0) noX _ 0 0 9 [(2, t), (0, x1), (0, x2), (0, x3), (0, x4), (0, x5)] [(0, 0)] N Λ τ1
    refine r_if_eq (tgt := 27) d_X12_add_9 rfl (fun _ => ?_) (fun hc => absurd hc (by decide))
    refine r_aload_n (x := t) d_X12_add_27 rfl o_t.1 ?_
    refine r_bipush (x := (-2)) d_X12_add_28 ⟨by decide, by decide⟩ (by decide) ?_
    refine x_callVI (Y2 := mX12_refused) (c := t) (As := [(0, (-2))]) (S := []) d_X12_add_30 ok_mX12_refused ml_X12_218 rfl (Nat.le_of_ble_eq_true rfl) (Nat.le_of_ble_eq_true rfl) rfl hd_1 kX12 o_t (c_X12_refused (v_X12_refused_0 o_t ?_))
    intro τ2 eτ2
    have h := h τ2 eτ2
    show WP l mX12_add (rm d 0 0) noX _ 0 0 33 [(2, t), (0, x1), (0, x2), (0, x3), (0, x4), (0, x5)] [(0, (-2))] N Λ τ2
    exact r_iret d_X12_add_33 rfl rfl (Nat.le_refl 0) (Nat.le_refl 0) ⟨_, rfl, rfl, rfl, h⟩
  · have h := h.2 hc
    refine ⟨fun hc => ?_, fun hc => ?_⟩
    · have h := h.1 hc
      show WP l mX12_add (rm d 0 0) noX _ 0 0 9 [(2, t), (0, x1), (0, x2), (0, x3), (0, x4), (0, x5)] [(0, 0)] N Λ τ1
      refine r_if_eq (tgt := 27) d_X12_add_9 rfl (fun _ => ?_) (fun hc => absurd hc (by decide))
      refine r_aload_n (x := t) d_X12_add_27 rfl o_t.1 ?_
      refine r_bipush (x := (-2)) d_X12_add_28 ⟨by decide, by decide⟩ (by decide) ?_
      refine x_callVI (Y2 := mX12_refused) (c := t) (As := [(0, (-2))]) (S := []) d_X12_add_30 ok_mX12_refused ml_X12_218 rfl (Nat.le_of_ble_eq_true rfl) (Nat.le_of_ble_eq_true rfl) rfl hd_1 kX12 o_t (c_X12_refused (v_X12_refused_0 o_t ?_))
      intro τ3 eτ3
      have h := h τ3 eτ3
      show WP l mX12_add (rm d 0 0) noX _ 0 0 33 [(2, t), (0, x1), (0, x2), (0, x3), (0, x4), (0, x5)] [(0, (-2))] N Λ τ3
      exact r_iret d_X12_add_33 rfl rfl (Nat.le_refl 0) (Nat.le_refl 0) ⟨_, rfl, rfl, rfl, h⟩
    · have h := h.2 hc
      show WP l mX12_add (rm d 0 0) noX _ 0 0 9 [(2, t), (0, x1), (0, x2), (0, x3), (0, x4), (0, x5)] [(0, 1)] N Λ τ1
      refine r_if_eq (tgt := 27) d_X12_add_9 rfl (fun hc => absurd hc (by decide)) (fun _ => ?_)
      refine r_iload_n (x := x2) d_X12_add_12 rfl ?_
      refine x_callSI (Y2 := mX12_isShelf) (As := [(0, x2)]) (S := []) d_X12_add_13 ok_mX12_isShelf ml_X12_199 rfl (Nat.le_of_ble_eq_true rfl) (Nat.le_of_ble_eq_true rfl) rfl hd_1 (c_X12_isShelf (v_X12_isShelf_0 he_1 ?_))
      refine ⟨fun hc => ?_, fun hc => ?_⟩
      · have h := h.1 hc
        show WP l mX12_add (rm d 0 0) noX _ 0 0 16 [(2, t), (0, x1), (0, x2), (0, x3), (0, x4), (0, x5)] [(0, 0)] N Λ τ1
        refine r_if_eq (tgt := 27) d_X12_add_16 rfl (fun _ => ?_) (fun hc => absurd hc (by decide))
        refine r_aload_n (x := t) d_X12_add_27 rfl o_t.1 ?_
        refine r_bipush (x := (-2)) d_X12_add_28 ⟨by decide, by decide⟩ (by decide) ?_
        refine x_callVI (Y2 := mX12_refused) (c := t) (As := [(0, (-2))]) (S := []) d_X12_add_30 ok_mX12_refused ml_X12_218 rfl (Nat.le_of_ble_eq_true rfl) (Nat.le_of_ble_eq_true rfl) rfl hd_1 kX12 o_t (c_X12_refused (v_X12_refused_0 o_t ?_))
        intro τ4 eτ4
        have h := h τ4 eτ4
        show WP l mX12_add (rm d 0 0) noX _ 0 0 33 [(2, t), (0, x1), (0, x2), (0, x3), (0, x4), (0, x5)] [(0, (-2))] N Λ τ4
        exact r_iret d_X12_add_33 rfl rfl (Nat.le_refl 0) (Nat.le_refl 0) ⟨_, rfl, rfl, rfl, h⟩
      · have h := h.2 hc
        refine ⟨fun hc => ?_, fun hc => ?_⟩
        · have h := h.1 hc
          show WP l mX12_add (rm d 0 0) noX _ 0 0 16 [(2, t), (0, x1), (0, x2), (0, x3), (0, x4), (0, x5)] [(0, 0)] N Λ τ1
          refine r_if_eq (tgt := 27) d_X12_add_16 rfl (fun _ => ?_) (fun hc => absurd hc (by decide))
          refine r_aload_n (x := t) d_X12_add_27 rfl o_t.1 ?_
          refine r_bipush (x := (-2)) d_X12_add_28 ⟨by decide, by decide⟩ (by decide) ?_
          refine x_callVI (Y2 := mX12_refused) (c := t) (As := [(0, (-2))]) (S := []) d_X12_add_30 ok_mX12_refused ml_X12_218 rfl (Nat.le_of_ble_eq_true rfl) (Nat.le_of_ble_eq_true rfl) rfl hd_1 kX12 o_t (c_X12_refused (v_X12_refused_0 o_t ?_))
          intro τ5 eτ5
          have h := h τ5 eτ5
          show WP l mX12_add (rm d 0 0) noX _ 0 0 33 [(2, t), (0, x1), (0, x2), (0, x3), (0, x4), (0, x5)] [(0, (-2))] N Λ τ5
          exact r_iret d_X12_add_33 rfl rfl (Nat.le_refl 0) (Nat.le_refl 0) ⟨_, rfl, rfl, rfl, h⟩
        · have h := h.2 hc
          show WP l mX12_add (rm d 0 0) noX _ 0 0 16 [(2, t), (0, x1), (0, x2), (0, x3), (0, x4), (0, x5)] [(0, 1)] N Λ τ1
          refine r_if_eq (tgt := 27) d_X12_add_16 rfl (fun hc => absurd hc (by decide)) (fun _ => ?_)
          refine r_iload (x := x4) d_X12_add_19 rfl ?_
          refine x_callSI (Y2 := mX12_isShelf) (As := [(0, x4)]) (S := []) d_X12_add_21 ok_mX12_isShelf ml_X12_199 rfl (Nat.le_of_ble_eq_true rfl) (Nat.le_of_ble_eq_true rfl) rfl hd_1 (c_X12_isShelf (v_X12_isShelf_0 he_1 ?_))
          refine ⟨fun hc => ?_, fun hc => ?_⟩
          · have h := h.1 hc
            show WP l mX12_add (rm d 0 0) noX _ 0 0 24 [(2, t), (0, x1), (0, x2), (0, x3), (0, x4), (0, x5)] [(0, 0)] N Λ τ1
            refine r_if_ne (tgt := 34) d_X12_add_24 rfl (fun hc => absurd hc (by decide)) (fun _ => ?_)
            refine r_aload_n (x := t) d_X12_add_27 rfl o_t.1 ?_
            refine r_bipush (x := (-2)) d_X12_add_28 ⟨by decide, by decide⟩ (by decide) ?_
            refine x_callVI (Y2 := mX12_refused) (c := t) (As := [(0, (-2))]) (S := []) d_X12_add_30 ok_mX12_refused ml_X12_218 rfl (Nat.le_of_ble_eq_true rfl) (Nat.le_of_ble_eq_true rfl) rfl hd_1 kX12 o_t (c_X12_refused (v_X12_refused_0 o_t ?_))
            intro τ6 eτ6
            have h := h τ6 eτ6
            show WP l mX12_add (rm d 0 0) noX _ 0 0 33 [(2, t), (0, x1), (0, x2), (0, x3), (0, x4), (0, x5)] [(0, (-2))] N Λ τ6
            exact r_iret d_X12_add_33 rfl rfl (Nat.le_refl 0) (Nat.le_refl 0) ⟨_, rfl, rfl, rfl, h⟩
          · have h := h.2 hc
            refine ⟨fun hc => ?_, fun hc => ?_⟩
            · have h := h.1 hc
              show WP l mX12_add (rm d 0 0) noX _ 0 0 24 [(2, t), (0, x1), (0, x2), (0, x3), (0, x4), (0, x5)] [(0, 0)] N Λ τ1
              refine r_if_ne (tgt := 34) d_X12_add_24 rfl (fun hc => absurd hc (by decide)) (fun _ => ?_)
              refine r_aload_n (x := t) d_X12_add_27 rfl o_t.1 ?_
              refine r_bipush (x := (-2)) d_X12_add_28 ⟨by decide, by decide⟩ (by decide) ?_
              refine x_callVI (Y2 := mX12_refused) (c := t) (As := [(0, (-2))]) (S := []) d_X12_add_30 ok_mX12_refused ml_X12_218 rfl (Nat.le_of_ble_eq_true rfl) (Nat.le_of_ble_eq_true rfl) rfl hd_1 kX12 o_t (c_X12_refused (v_X12_refused_0 o_t ?_))
              intro τ7 eτ7
              have h := h τ7 eτ7
              show WP l mX12_add (rm d 0 0) noX _ 0 0 33 [(2, t), (0, x1), (0, x2), (0, x3), (0, x4), (0, x5)] [(0, (-2))] N Λ τ7
              exact r_iret d_X12_add_33 rfl rfl (Nat.le_refl 0) (Nat.le_refl 0) ⟨_, rfl, rfl, rfl, h⟩
            · have h := h.2 hc
              show WP l mX12_add (rm d 0 0) noX _ 0 0 24 [(2, t), (0, x1), (0, x2), (0, x3), (0, x4), (0, x5)] [(0, 1)] N Λ τ1
              refine r_if_ne (tgt := 34) d_X12_add_24 rfl (fun _ => ?_) (fun hc => absurd hc (by decide))
              refine r_iload_n (x := x3) d_X12_add_34 rfl ?_
              refine r_i2l d_X12_add_35 ?_
              refine r_ldc2 (x := (-99)) d_X12_add_36 ck_X12_221 (by decide) ?_
              refine r_ldc2 (x := 99) d_X12_add_39 ck_X12_223 (by decide) ?_
              refine x_callSI (Y2 := mX12_within) (As := [(1, x3), (1, (-99)), (1, 99)]) (S := []) d_X12_add_42 ok_mX12_within ml_X12_91 rfl (Nat.le_of_ble_eq_true rfl) (Nat.le_of_ble_eq_true rfl) rfl hd_1 (c_X12_within (v_X12_within_0 ?_))
              refine ⟨fun hc => ?_, fun hc => ?_⟩
              · have h := h.1 hc
                show WP l mX12_add (rm d 0 0) noX _ 0 0 45 [(2, t), (0, x1), (0, x2), (0, x3), (0, x4), (0, x5)] [(0, 0)] N Λ τ1
                refine r_if_eq (tgt := 63) d_X12_add_45 rfl (fun _ => ?_) (fun hc => absurd hc (by decide))
                refine r_aload_n (x := t) d_X12_add_63 rfl o_t.1 ?_
                refine r_bipush (x := (-3)) d_X12_add_64 ⟨by decide, by decide⟩ (by decide) ?_
                refine x_callVI (Y2 := mX12_refused) (c := t) (As := [(0, (-3))]) (S := []) d_X12_add_66 ok_mX12_refused ml_X12_218 rfl (Nat.le_of_ble_eq_true rfl) (Nat.le_of_ble_eq_true rfl) rfl hd_1 kX12 o_t (c_X12_refused (v_X12_refused_0 o_t ?_))
                intro τ8 eτ8
                have h := h τ8 eτ8
                show WP l mX12_add (rm d 0 0) noX _ 0 0 69 [(2, t), (0, x1), (0, x2), (0, x3), (0, x4), (0, x5)] [(0, (-3))] N Λ τ8
                exact r_iret d_X12_add_69 rfl rfl (Nat.le_refl 0) (Nat.le_refl 0) ⟨_, rfl, rfl, rfl, h⟩
              · have h := h.2 hc
                refine ⟨fun hc => ?_, fun hc => ?_⟩
                · have h := h.1 hc
                  show WP l mX12_add (rm d 0 0) noX _ 0 0 45 [(2, t), (0, x1), (0, x2), (0, x3), (0, x4), (0, x5)] [(0, 0)] N Λ τ1
                  refine r_if_eq (tgt := 63) d_X12_add_45 rfl (fun _ => ?_) (fun hc => absurd hc (by decide))
                  refine r_aload_n (x := t) d_X12_add_63 rfl o_t.1 ?_
                  refine r_bipush (x := (-3)) d_X12_add_64 ⟨by decide, by decide⟩ (by decide) ?_
                  refine x_callVI (Y2 := mX12_refused) (c := t) (As := [(0, (-3))]) (S := []) d_X12_add_66 ok_mX12_refused ml_X12_218 rfl (Nat.le_of_ble_eq_true rfl) (Nat.le_of_ble_eq_true rfl) rfl hd_1 kX12 o_t (c_X12_refused (v_X12_refused_0 o_t ?_))
                  intro τ9 eτ9
                  have h := h τ9 eτ9
                  show WP l mX12_add (rm d 0 0) noX _ 0 0 69 [(2, t), (0, x1), (0, x2), (0, x3), (0, x4), (0, x5)] [(0, (-3))] N Λ τ9
                  exact r_iret d_X12_add_69 rfl rfl (Nat.le_refl 0) (Nat.le_refl 0) ⟨_, rfl, rfl, rfl, h⟩
                · have h := h.2 hc
                  show WP l mX12_add (rm d 0 0) noX _ 0 0 45 [(2, t), (0, x1), (0, x2), (0, x3), (0, x4), (0, x5)] [(0, 1)] N Λ τ1
                  refine r_if_eq (tgt := 63) d_X12_add_45 rfl (fun hc => absurd hc (by decide)) (fun _ => ?_)
                  refine r_iload (x := x5) d_X12_add_48 rfl ?_
                  refine r_i2l d_X12_add_50 ?_
                  refine r_ldc2 (x := (-99)) d_X12_add_51 ck_X12_221 (by decide) ?_
                  refine r_ldc2 (x := 99) d_X12_add_54 ck_X12_223 (by decide) ?_
                  refine x_callSI (Y2 := mX12_within) (As := [(1, x5), (1, (-99)), (1, 99)]) (S := []) d_X12_add_57 ok_mX12_within ml_X12_91 rfl (Nat.le_of_ble_eq_true rfl) (Nat.le_of_ble_eq_true rfl) rfl hd_1 (c_X12_within (v_X12_within_0 ?_))
                  refine ⟨fun hc => ?_, fun hc => ?_⟩
                  · have h := h.1 hc
                    show WP l mX12_add (rm d 0 0) noX _ 0 0 60 [(2, t), (0, x1), (0, x2), (0, x3), (0, x4), (0, x5)] [(0, 0)] N Λ τ1
                    refine r_if_ne (tgt := 70) d_X12_add_60 rfl (fun hc => absurd hc (by decide)) (fun _ => ?_)
                    refine r_aload_n (x := t) d_X12_add_63 rfl o_t.1 ?_
                    refine r_bipush (x := (-3)) d_X12_add_64 ⟨by decide, by decide⟩ (by decide) ?_
                    refine x_callVI (Y2 := mX12_refused) (c := t) (As := [(0, (-3))]) (S := []) d_X12_add_66 ok_mX12_refused ml_X12_218 rfl (Nat.le_of_ble_eq_true rfl) (Nat.le_of_ble_eq_true rfl) rfl hd_1 kX12 o_t (c_X12_refused (v_X12_refused_0 o_t ?_))
                    intro τ10 eτ10
                    have h := h τ10 eτ10
                    show WP l mX12_add (rm d 0 0) noX _ 0 0 69 [(2, t), (0, x1), (0, x2), (0, x3), (0, x4), (0, x5)] [(0, (-3))] N Λ τ10
                    exact r_iret d_X12_add_69 rfl rfl (Nat.le_refl 0) (Nat.le_refl 0) ⟨_, rfl, rfl, rfl, h⟩
                  · have h := h.2 hc
                    refine ⟨fun hc => ?_, fun hc => ?_⟩
                    · have h := h.1 hc
                      show WP l mX12_add (rm d 0 0) noX _ 0 0 60 [(2, t), (0, x1), (0, x2), (0, x3), (0, x4), (0, x5)] [(0, 0)] N Λ τ1
                      refine r_if_ne (tgt := 70) d_X12_add_60 rfl (fun hc => absurd hc (by decide)) (fun _ => ?_)
                      refine r_aload_n (x := t) d_X12_add_63 rfl o_t.1 ?_
                      refine r_bipush (x := (-3)) d_X12_add_64 ⟨by decide, by decide⟩ (by decide) ?_
                      refine x_callVI (Y2 := mX12_refused) (c := t) (As := [(0, (-3))]) (S := []) d_X12_add_66 ok_mX12_refused ml_X12_218 rfl (Nat.le_of_ble_eq_true rfl) (Nat.le_of_ble_eq_true rfl) rfl hd_1 kX12 o_t (c_X12_refused (v_X12_refused_0 o_t ?_))
                      intro τ11 eτ11
                      have h := h τ11 eτ11
                      show WP l mX12_add (rm d 0 0) noX _ 0 0 69 [(2, t), (0, x1), (0, x2), (0, x3), (0, x4), (0, x5)] [(0, (-3))] N Λ τ11
                      exact r_iret d_X12_add_69 rfl rfl (Nat.le_refl 0) (Nat.le_refl 0) ⟨_, rfl, rfl, rfl, h⟩
                    · have h := h.2 hc
                      show WP l mX12_add (rm d 0 0) noX _ 0 0 60 [(2, t), (0, x1), (0, x2), (0, x3), (0, x4), (0, x5)] [(0, 1)] N Λ τ1
                      refine r_if_ne (tgt := 70) d_X12_add_60 rfl (fun _ => ?_) (fun hc => absurd hc (by decide))
                      refine r_aload_n (x := t) d_X12_add_70 rfl o_t.1 ?_
                      refine x_callVV (Y2 := mX12_begins) (c := t) (As := []) (S := []) d_X12_add_71 ok_mX12_begins ml_X12_202 rfl (Nat.le_of_ble_eq_true rfl) (Nat.le_of_ble_eq_true rfl) rfl hd_1 kX12 o_t (c_X12_begins (v_X12_begins_0 o_t f_t_pool he_1 ?_))
                      intro τ12 eτ12
                      have h := h τ12 eτ12
                      refine ⟨h.1, ?_⟩
                      have h := h.2
                      intro τ13 eτ13
                      have h := h τ13 eτ13
                      show WP l mX12_add (rm d 0 0) noX _ 0 0 74 [(2, t), (0, x1), (0, x2), (0, x3), (0, x4), (0, x5)] [] N Λ τ13
                      refine r_aload_n (x := t) d_X12_add_74 rfl o_t.1 ?_
                      refine r_iload_n (x := x2) d_X12_add_75 rfl ?_
                      refine r_iload_n (x := x3) d_X12_add_76 rfl ?_
                      refine x_callVV (Y2 := mX12_putsTimes) (c := t) (As := [(0, x2), (0, x3)]) (S := []) d_X12_add_77 ok_mX12_putsTimes ml_X12_225 rfl (Nat.le_of_ble_eq_true rfl) (Nat.le_of_ble_eq_true rfl) rfl hd_1 kX12 o_t (CV.mono h (fun σ14 h => ?_))
                      refine r_aload_n (x := t) d_X12_add_80 rfl o_t.1 ?_
                      refine r_iload (x := x4) d_X12_add_81 rfl ?_
                      refine r_iload (x := x5) d_X12_add_83 rfl ?_
                      refine x_callVV (Y2 := mX12_putsTimes) (c := t) (As := [(0, x4), (0, x5)]) (S := []) d_X12_add_85 ok_mX12_putsTimes ml_X12_225 rfl (Nat.le_of_ble_eq_true rfl) (Nat.le_of_ble_eq_true rfl) rfl hd_1 kX12 o_t (CV.mono h (fun σ15 h => ?_))
                      refine r_aload_n (x := t) d_X12_add_88 rfl o_t.1 ?_
                      refine r_iload_n (x := x1) d_X12_add_89 rfl ?_
                      refine x_callVI (Y2 := mX12_ends) (c := t) (As := [(0, x1)]) (S := []) d_X12_add_90 ok_mX12_ends ml_X12_228 rfl (Nat.le_of_ble_eq_true rfl) (Nat.le_of_ble_eq_true rfl) rfl hd_1 kX12 o_t (CI.mono h (fun v17 σ16 h => ?_))
                      exact r_iret d_X12_add_93 rfl rfl (Nat.le_refl 0) (Nat.le_refl 0) ⟨_, rfl, rfl, rfl, h⟩
theorem v_X12_times_0 {l : Launch} {d N : Nat} {Λ : Lay} {P : Int → Mem → Prop} {σ : Mem} {x1 x2 x3 t t_pool t_state : Int} (o_t : Ob N Λ t 21 36) (f_t_pool : (Λ t).2.2 7 = t_pool) (f_t_state : (Λ t).2.2 3 = t_state) (h0d : 2 ≤ d)
    (h : (∀ τ1, τ1 = st σ t 0 0 → (((cmpL x1 0) < 0 → (∀ τ2, τ2 = st τ1 t 16 0 → P (-2) τ2)) ∧ (¬ ((cmpL x1 0) < 0) → ((0 < (cmpL x1 5) → (∀ τ3, τ3 = st τ1 t 16 0 → P (-2) τ3)) ∧ (¬ (0 < (cmpL x1 5)) → (((cmpL x2 0) < 0 → (∀ τ4, τ4 = st τ1 t 16 0 → P (-2) τ4)) ∧ (¬ ((cmpL x2 0) < 0) → ((0 < (cmpL x2 5) → (∀ τ5, τ5 = st τ1 t 16 0 → P (-2) τ5)) ∧ (¬ (0 < (cmpL x2 5)) → (((cmpL x3 0) < 0 → (∀ τ6, τ6 = st τ1 t 16 0 → P (-2) τ6)) ∧ (¬ ((cmpL x3 0) < 0) → ((0 < (cmpL x3 5) → (∀ τ7, τ7 = st τ1 t 16 0 → P (-2) τ7)) ∧ (¬ (0 < (cmpL x3 5)) → (∀ τ8, τ8 = st τ1 t 8 0 → (Ix N Λ t_pool 0 (mulI 161 0) ∧ (∀ τ9, τ9 = st τ8 t_pool (mulI 161 0) 0 → (CV l mX12_copies (d - 1 - 1) [(2, t_state), (0, (mulI 161 x2)), (2, t_pool), (0, (mulI 161 1)), (0, 161)] N Λ τ9 (fun σ10 => (CV l mX12_copies (d - 1 - 1) [(2, t_state), (0, (mulI 161 x3)), (2, t_pool), (0, (mulI 161 2)), (0, 161)] N Λ σ10 (fun σ11 => (CV l mX12_multiplies (d - 1) [(2, t), (0, 1), (0, 2), (0, 1), (0, 0)] N Λ σ11 (fun σ12 => (CI l mX12_ends (d - 1) [(2, t), (0, x1)] N Λ σ12 (fun v14 σ13 => P v14 σ13))))))))))))))))))))))))) :
    WI l mX12_times d P 0 [(2, t), (0, x1), (0, x2), (0, x3)] [] N Λ σ := by
  have hd_1 : 1 ≤ d := Nat.le_trans (by decide) h0d
  have he_1 : 1 ≤ d - 1 := Nat.le_sub_of_add_le (Nat.le_trans (by decide) h0d)
  refine r_aload_n (x := t) d_X12_times_0 rfl o_t.1 ?_
  refine r_iconst (x := 0) d_X12_times_1 ⟨by decide, by decide⟩ ?_
  refine r_putI (j := 0) d_X12_times_2 kX12 (by decide) fl_X12_1 rfl o_t.1 o_t.2.1 o_t.2.2.1 o_t.2.2.2 rfl ?_
  refine r_nmM (fun τ1 eτ1 => ?_)
  have h := h τ1 eτ1
  refine r_iload_n (x := x1) d_X12_times_5 rfl ?_
  refine x_callSI (Y2 := mX12_isShelf) (As := [(0, x1)]) (S := []) d_X12_times_6 ok_mX12_isShelf ml_X12_199 rfl (Nat.le_of_ble_eq_true rfl) (Nat.le_of_ble_eq_true rfl) rfl hd_1 (c_X12_isShelf (v_X12_isShelf_0 he_1 ?_))
  refine ⟨fun hc => ?_, fun hc => ?_⟩
  · have h := h.1 hc
    show WP l mX12_times (rm d 0 0) noX _ 0 0 9 [(2, t), (0, x1), (0, x2), (0, x3)] [(0, 0)] N Λ τ1
    refine r_if_eq (tgt := 26) d_X12_times_9 rfl (fun _ => ?_) (fun hc => absurd hc (by decide))
    refine r_aload_n (x := t) d_X12_times_26 rfl o_t.1 ?_
    refine r_bipush (x := (-2)) d_X12_times_27 ⟨by decide, by decide⟩ (by decide) ?_
    refine x_callVI (Y2 := mX12_refused) (c := t) (As := [(0, (-2))]) (S := []) d_X12_times_29 ok_mX12_refused ml_X12_218 rfl (Nat.le_of_ble_eq_true rfl) (Nat.le_of_ble_eq_true rfl) rfl hd_1 kX12 o_t (c_X12_refused (v_X12_refused_0 o_t ?_))
    intro τ2 eτ2
    have h := h τ2 eτ2
    show WP l mX12_times (rm d 0 0) noX _ 0 0 32 [(2, t), (0, x1), (0, x2), (0, x3)] [(0, (-2))] N Λ τ2
    exact r_iret d_X12_times_32 rfl rfl (Nat.le_refl 0) (Nat.le_refl 0) ⟨_, rfl, rfl, rfl, h⟩
  · have h := h.2 hc
    refine ⟨fun hc => ?_, fun hc => ?_⟩
    · have h := h.1 hc
      show WP l mX12_times (rm d 0 0) noX _ 0 0 9 [(2, t), (0, x1), (0, x2), (0, x3)] [(0, 0)] N Λ τ1
      refine r_if_eq (tgt := 26) d_X12_times_9 rfl (fun _ => ?_) (fun hc => absurd hc (by decide))
      refine r_aload_n (x := t) d_X12_times_26 rfl o_t.1 ?_
      refine r_bipush (x := (-2)) d_X12_times_27 ⟨by decide, by decide⟩ (by decide) ?_
      refine x_callVI (Y2 := mX12_refused) (c := t) (As := [(0, (-2))]) (S := []) d_X12_times_29 ok_mX12_refused ml_X12_218 rfl (Nat.le_of_ble_eq_true rfl) (Nat.le_of_ble_eq_true rfl) rfl hd_1 kX12 o_t (c_X12_refused (v_X12_refused_0 o_t ?_))
      intro τ3 eτ3
      have h := h τ3 eτ3
      show WP l mX12_times (rm d 0 0) noX _ 0 0 32 [(2, t), (0, x1), (0, x2), (0, x3)] [(0, (-2))] N Λ τ3
      exact r_iret d_X12_times_32 rfl rfl (Nat.le_refl 0) (Nat.le_refl 0) ⟨_, rfl, rfl, rfl, h⟩
    · have h := h.2 hc
      show WP l mX12_times (rm d 0 0) noX _ 0 0 9 [(2, t), (0, x1), (0, x2), (0, x3)] [(0, 1)] N Λ τ1
      refine r_if_eq (tgt := 26) d_X12_times_9 rfl (fun hc => absurd hc (by decide)) (fun _ => ?_)
      refine r_iload_n (x := x2) d_X12_times_12 rfl ?_
      refine x_callSI (Y2 := mX12_isShelf) (As := [(0, x2)]) (S := []) d_X12_times_13 ok_mX12_isShelf ml_X12_199 rfl (Nat.le_of_ble_eq_true rfl) (Nat.le_of_ble_eq_true rfl) rfl hd_1 (c_X12_isShelf (v_X12_isShelf_0 he_1 ?_))
      refine ⟨fun hc => ?_, fun hc => ?_⟩
      · have h := h.1 hc
        show WP l mX12_times (rm d 0 0) noX _ 0 0 16 [(2, t), (0, x1), (0, x2), (0, x3)] [(0, 0)] N Λ τ1
        refine r_if_eq (tgt := 26) d_X12_times_16 rfl (fun _ => ?_) (fun hc => absurd hc (by decide))
        refine r_aload_n (x := t) d_X12_times_26 rfl o_t.1 ?_
        refine r_bipush (x := (-2)) d_X12_times_27 ⟨by decide, by decide⟩ (by decide) ?_
        refine x_callVI (Y2 := mX12_refused) (c := t) (As := [(0, (-2))]) (S := []) d_X12_times_29 ok_mX12_refused ml_X12_218 rfl (Nat.le_of_ble_eq_true rfl) (Nat.le_of_ble_eq_true rfl) rfl hd_1 kX12 o_t (c_X12_refused (v_X12_refused_0 o_t ?_))
        intro τ4 eτ4
        have h := h τ4 eτ4
        show WP l mX12_times (rm d 0 0) noX _ 0 0 32 [(2, t), (0, x1), (0, x2), (0, x3)] [(0, (-2))] N Λ τ4
        exact r_iret d_X12_times_32 rfl rfl (Nat.le_refl 0) (Nat.le_refl 0) ⟨_, rfl, rfl, rfl, h⟩
      · have h := h.2 hc
        refine ⟨fun hc => ?_, fun hc => ?_⟩
        · have h := h.1 hc
          show WP l mX12_times (rm d 0 0) noX _ 0 0 16 [(2, t), (0, x1), (0, x2), (0, x3)] [(0, 0)] N Λ τ1
          refine r_if_eq (tgt := 26) d_X12_times_16 rfl (fun _ => ?_) (fun hc => absurd hc (by decide))
          refine r_aload_n (x := t) d_X12_times_26 rfl o_t.1 ?_
          refine r_bipush (x := (-2)) d_X12_times_27 ⟨by decide, by decide⟩ (by decide) ?_
          refine x_callVI (Y2 := mX12_refused) (c := t) (As := [(0, (-2))]) (S := []) d_X12_times_29 ok_mX12_refused ml_X12_218 rfl (Nat.le_of_ble_eq_true rfl) (Nat.le_of_ble_eq_true rfl) rfl hd_1 kX12 o_t (c_X12_refused (v_X12_refused_0 o_t ?_))
          intro τ5 eτ5
          have h := h τ5 eτ5
          show WP l mX12_times (rm d 0 0) noX _ 0 0 32 [(2, t), (0, x1), (0, x2), (0, x3)] [(0, (-2))] N Λ τ5
          exact r_iret d_X12_times_32 rfl rfl (Nat.le_refl 0) (Nat.le_refl 0) ⟨_, rfl, rfl, rfl, h⟩
        · have h := h.2 hc
          show WP l mX12_times (rm d 0 0) noX _ 0 0 16 [(2, t), (0, x1), (0, x2), (0, x3)] [(0, 1)] N Λ τ1
          refine r_if_eq (tgt := 26) d_X12_times_16 rfl (fun hc => absurd hc (by decide)) (fun _ => ?_)
          refine r_iload_n (x := x3) d_X12_times_19 rfl ?_
          refine x_callSI (Y2 := mX12_isShelf) (As := [(0, x3)]) (S := []) d_X12_times_20 ok_mX12_isShelf ml_X12_199 rfl (Nat.le_of_ble_eq_true rfl) (Nat.le_of_ble_eq_true rfl) rfl hd_1 (c_X12_isShelf (v_X12_isShelf_0 he_1 ?_))
          refine ⟨fun hc => ?_, fun hc => ?_⟩
          · have h := h.1 hc
            show WP l mX12_times (rm d 0 0) noX _ 0 0 23 [(2, t), (0, x1), (0, x2), (0, x3)] [(0, 0)] N Λ τ1
            refine r_if_ne (tgt := 33) d_X12_times_23 rfl (fun hc => absurd hc (by decide)) (fun _ => ?_)
            refine r_aload_n (x := t) d_X12_times_26 rfl o_t.1 ?_
            refine r_bipush (x := (-2)) d_X12_times_27 ⟨by decide, by decide⟩ (by decide) ?_
            refine x_callVI (Y2 := mX12_refused) (c := t) (As := [(0, (-2))]) (S := []) d_X12_times_29 ok_mX12_refused ml_X12_218 rfl (Nat.le_of_ble_eq_true rfl) (Nat.le_of_ble_eq_true rfl) rfl hd_1 kX12 o_t (c_X12_refused (v_X12_refused_0 o_t ?_))
            intro τ6 eτ6
            have h := h τ6 eτ6
            show WP l mX12_times (rm d 0 0) noX _ 0 0 32 [(2, t), (0, x1), (0, x2), (0, x3)] [(0, (-2))] N Λ τ6
            exact r_iret d_X12_times_32 rfl rfl (Nat.le_refl 0) (Nat.le_refl 0) ⟨_, rfl, rfl, rfl, h⟩
          · have h := h.2 hc
            refine ⟨fun hc => ?_, fun hc => ?_⟩
            · have h := h.1 hc
              show WP l mX12_times (rm d 0 0) noX _ 0 0 23 [(2, t), (0, x1), (0, x2), (0, x3)] [(0, 0)] N Λ τ1
              refine r_if_ne (tgt := 33) d_X12_times_23 rfl (fun hc => absurd hc (by decide)) (fun _ => ?_)
              refine r_aload_n (x := t) d_X12_times_26 rfl o_t.1 ?_
              refine r_bipush (x := (-2)) d_X12_times_27 ⟨by decide, by decide⟩ (by decide) ?_
              refine x_callVI (Y2 := mX12_refused) (c := t) (As := [(0, (-2))]) (S := []) d_X12_times_29 ok_mX12_refused ml_X12_218 rfl (Nat.le_of_ble_eq_true rfl) (Nat.le_of_ble_eq_true rfl) rfl hd_1 kX12 o_t (c_X12_refused (v_X12_refused_0 o_t ?_))
              intro τ7 eτ7
              have h := h τ7 eτ7
              show WP l mX12_times (rm d 0 0) noX _ 0 0 32 [(2, t), (0, x1), (0, x2), (0, x3)] [(0, (-2))] N Λ τ7
              exact r_iret d_X12_times_32 rfl rfl (Nat.le_refl 0) (Nat.le_refl 0) ⟨_, rfl, rfl, rfl, h⟩
            · have h := h.2 hc
              show WP l mX12_times (rm d 0 0) noX _ 0 0 23 [(2, t), (0, x1), (0, x2), (0, x3)] [(0, 1)] N Λ τ1
              refine r_if_ne (tgt := 33) d_X12_times_23 rfl (fun _ => ?_) (fun hc => absurd hc (by decide))
              refine r_aload_n (x := t) d_X12_times_33 rfl o_t.1 ?_
              refine x_callVV (Y2 := mX12_begins) (c := t) (As := []) (S := []) d_X12_times_34 ok_mX12_begins ml_X12_202 rfl (Nat.le_of_ble_eq_true rfl) (Nat.le_of_ble_eq_true rfl) rfl hd_1 kX12 o_t (c_X12_begins (v_X12_begins_0 o_t f_t_pool he_1 ?_))
              intro τ8 eτ8
              have h := h τ8 eτ8
              refine ⟨h.1, ?_⟩
              have h := h.2
              intro τ9 eτ9
              have h := h τ9 eτ9
              show WP l mX12_times (rm d 0 0) noX _ 0 0 37 [(2, t), (0, x1), (0, x2), (0, x3)] [] N Λ τ9
              refine r_aload_n (x := t) d_X12_times_37 rfl o_t.1 ?_
              refine r_iload_n (x := x2) d_X12_times_38 rfl ?_
              refine r_iconst (x := 1) d_X12_times_39 ⟨by decide, by decide⟩ ?_
              refine x_callVV (Y2 := mX12_takes) (c := t) (As := [(0, x2), (0, 1)]) (S := []) d_X12_times_40 ok_mX12_takes ml_X12_205 rfl (Nat.le_of_ble_eq_true rfl) (Nat.le_of_ble_eq_true rfl) rfl hd_1 kX12 o_t (c_X12_takes (v_X12_takes_0 o_t f_t_state f_t_pool he_1 ?_))
              refine CV.mono h (fun σ10 h => ?_)
              show WP l mX12_times (rm d 0 0) noX _ 0 0 43 [(2, t), (0, x1), (0, x2), (0, x3)] [] N Λ σ10
              refine r_aload_n (x := t) d_X12_times_43 rfl o_t.1 ?_
              refine r_iload_n (x := x3) d_X12_times_44 rfl ?_
              refine r_iconst (x := 2) d_X12_times_45 ⟨by decide, by decide⟩ ?_
              refine x_callVV (Y2 := mX12_takes) (c := t) (As := [(0, x3), (0, 2)]) (S := []) d_X12_times_46 ok_mX12_takes ml_X12_205 rfl (Nat.le_of_ble_eq_true rfl) (Nat.le_of_ble_eq_true rfl) rfl hd_1 kX12 o_t (c_X12_takes (v_X12_takes_0 o_t f_t_state f_t_pool he_1 ?_))
              refine CV.mono h (fun σ11 h => ?_)
              show WP l mX12_times (rm d 0 0) noX _ 0 0 49 [(2, t), (0, x1), (0, x2), (0, x3)] [] N Λ σ11
              refine r_aload_n (x := t) d_X12_times_49 rfl o_t.1 ?_
              refine r_iconst (x := 1) d_X12_times_50 ⟨by decide, by decide⟩ ?_
              refine r_iconst (x := 2) d_X12_times_51 ⟨by decide, by decide⟩ ?_
              refine r_iconst (x := 1) d_X12_times_52 ⟨by decide, by decide⟩ ?_
              refine r_iconst (x := 0) d_X12_times_53 ⟨by decide, by decide⟩ ?_
              refine x_callVV (Y2 := mX12_multiplies) (c := t) (As := [(0, 1), (0, 2), (0, 1), (0, 0)]) (S := []) d_X12_times_54 ok_mX12_multiplies ml_X12_231 rfl (Nat.le_of_ble_eq_true rfl) (Nat.le_of_ble_eq_true rfl) rfl hd_1 kX12 o_t (CV.mono h (fun σ12 h => ?_))
              refine r_aload_n (x := t) d_X12_times_57 rfl o_t.1 ?_
              refine r_iload_n (x := x1) d_X12_times_58 rfl ?_
              refine x_callVI (Y2 := mX12_ends) (c := t) (As := [(0, x1)]) (S := []) d_X12_times_59 ok_mX12_ends ml_X12_228 rfl (Nat.le_of_ble_eq_true rfl) (Nat.le_of_ble_eq_true rfl) rfl hd_1 kX12 o_t (CI.mono h (fun v14 σ13 h => ?_))
              exact r_iret d_X12_times_62 rfl rfl (Nat.le_refl 0) (Nat.le_refl 0) ⟨_, rfl, rfl, rfl, h⟩
theorem v_X12_putsOther_0 {l : Launch} {d N : Nat} {Λ : Lay} {P : Mem → Prop} {σ : Mem} {x1 x2 a3 t : Int} (h0d : 1 ≤ d)
    (h : (CI l mX12_degreeOf (d - 1) [(0, x1)] N Λ σ (fun v2 σ1 => WV l mX12_putsOther d P 13 [(2, t), (0, x1), (0, x2), (2, a3), (0, v2), (1, x2), (3, 0), (0, 0), (3, 0), (3, 0)] [] N Λ σ1))) :
    WV l mX12_putsOther d P 0 [(2, t), (0, x1), (0, x2), (2, a3), (3, 0), (3, 0), (3, 0), (3, 0), (3, 0), (3, 0)] [] N Λ σ := by
  have hd_1 : 1 ≤ d := Nat.le_trans (by decide) h0d
  refine r_iload_n (x := x1) d_X12_putsOther_0 rfl ?_
  refine x_callSI (Y2 := mX12_degreeOf) (As := [(0, x1)]) (S := []) d_X12_putsOther_1 ok_mX12_degreeOf ml_X12_138 rfl (Nat.le_of_ble_eq_true rfl) (Nat.le_of_ble_eq_true rfl) rfl hd_1 (CI.mono h (fun v2 σ1 h => ?_))
  refine r_istore (L2 := [(2, t), (0, x1), (0, x2), (2, a3), (0, v2), (3, 0), (3, 0), (3, 0), (3, 0), (3, 0)]) d_X12_putsOther_4 (by decide) rfl rfl ?_
  refine r_iload_n (x := x2) d_X12_putsOther_6 rfl ?_
  refine r_i2l d_X12_putsOther_7 ?_
  refine r_lstore (L2 := [(2, t), (0, x1), (0, x2), (2, a3), (0, v2), (1, x2), (3, 0), (3, 0), (3, 0), (3, 0)]) d_X12_putsOther_8 (by decide) rfl rfl ?_
  refine r_iconst (x := 0) d_X12_putsOther_10 ⟨by decide, by decide⟩ ?_
  refine r_istore (L2 := [(2, t), (0, x1), (0, x2), (2, a3), (0, v2), (1, x2), (3, 0), (0, 0), (3, 0), (3, 0)]) d_X12_putsOther_11 (by decide) rfl rfl ?_
  exact h
theorem v_X12_putsOther_13 {l : Launch} {d N : Nat} {Λ : Lay} {P : Mem → Prop} {σ : Mem} {x1 x2 x4 x5 x7 a3 t t_letterOf t_rankOf t_ranks : Int} (o_t : Ob N Λ t 21 36) (f_t_rankOf : (Λ t).2.2 1 = t_rankOf) (z_a3 : 0 ≤ a3) (f_t_letterOf : (Λ t).2.2 2 = t_letterOf) (f_t_ranks : (Λ t).2.2 9 = t_ranks) (h0d : 1 ≤ d)
    (h : ((x4 ≤ x7 → (CI l mX12_keyOf (d - 1) [(2, t), (0, x4)] N Λ σ (fun v2 σ1 => (CI l mX12_puts (d - 1) [(2, t), (0, 0), (0, v2), (1, x5)] N Λ σ1 (fun v4 σ3 => P σ3))))) ∧ (¬ (x4 ≤ x7) → (CI l mX12_rankIn (d - 1) [(0, x1), (0, x7)] N Λ σ (fun v6 σ5 => (∀ y7, y7 = (mulI 3 v6) → (Ix N Λ t_letterOf 0 y7 ∧ (Ix N Λ a3 0 (σ5 t_letterOf y7) ∧ (Ix N Λ t_letterOf 0 (addI y7 1) ∧ (Ix N Λ a3 0 (σ5 t_letterOf (addI y7 1)) ∧ (Ix N Λ t_letterOf 0 (addI y7 2) ∧ (Ix N Λ a3 0 (σ5 t_letterOf (addI y7 2)) ∧ (Ix N Λ t_rankOf 0 (addI (addI (mulI 100 (σ5 a3 (σ5 t_letterOf y7))) (mulI 10 (σ5 a3 (σ5 t_letterOf (addI y7 1))))) (σ5 a3 (σ5 t_letterOf (addI y7 2)))) ∧ (∀ y8, y8 = (σ5 t_rankOf (addI (addI (mulI 100 (σ5 a3 (σ5 t_letterOf y7))) (mulI 10 (σ5 a3 (σ5 t_letterOf (addI y7 1))))) (σ5 a3 (σ5 t_letterOf (addI y7 2))))) → ((¬ y8 = 0 → ((0 ≤ y8 → ((0 ≤ y8 → (Ix N Λ t_ranks 0 x7 ∧ (∀ τ9, τ9 = st σ5 t_ranks x7 y8 → (∀ y10, y10 = addI x7 1 → WV l mX12_putsOther d P 13 [(2, t), (0, x1), (0, x2), (2, a3), (0, x4), (1, x5), (3, 0), (0, y10), (3, 0), (3, 0)] [] N Λ τ9)))) ∧ (¬ (0 ≤ y8) → (Ix N Λ t_ranks 0 x7 ∧ (∀ τ11, τ11 = st σ5 t_ranks x7 (negI y8) → (∀ y12, y12 = addI x7 1 → WV l mX12_putsOther d P 13 [(2, t), (0, x1), (0, x2), (2, a3), (0, x4), (1, x5), (3, 0), (0, y12), (3, 0), (3, 0)] [] N Λ τ11)))))) ∧ (¬ (0 ≤ y8) → (∀ y13, y13 = (negL x5) → ((0 ≤ y8 → (Ix N Λ t_ranks 0 x7 ∧ (∀ τ14, τ14 = st σ5 t_ranks x7 y8 → (∀ y15, y15 = addI x7 1 → WV l mX12_putsOther d P 13 [(2, t), (0, x1), (0, x2), (2, a3), (0, x4), (1, y13), (3, 0), (0, y15), (3, 0), (3, 0)] [] N Λ τ14)))) ∧ (¬ (0 ≤ y8) → (Ix N Λ t_ranks 0 x7 ∧ (∀ τ16, τ16 = st σ5 t_ranks x7 (negI y8) → (∀ y17, y17 = addI x7 1 → WV l mX12_putsOther d P 13 [(2, t), (0, x1), (0, x2), (2, a3), (0, x4), (1, y13), (3, 0), (0, y17), (3, 0), (3, 0)] [] N Λ τ16))))))))) ∧ (y8 = 0 → P σ5)))))))))))))))) :
    WV l mX12_putsOther d P 13 [(2, t), (0, x1), (0, x2), (2, a3), (0, x4), (1, x5), (3, 0), (0, x7), (3, 0), (3, 0)] [] N Λ σ := by
  have hd_1 : 1 ≤ d := Nat.le_trans (by decide) h0d
  refine r_iload (x := x7) d_X12_putsOther_13 rfl ?_
  refine r_iload (x := x4) d_X12_putsOther_15 rfl ?_
  refine r_ic_ge (tgt := 115) d_X12_putsOther_17 rfl (fun hc => ?_) (fun hc => ?_)
  · have h := h.1 hc
    refine r_aload_n (x := t) d_X12_putsOther_115 rfl o_t.1 ?_
    refine r_iconst (x := 0) d_X12_putsOther_116 ⟨by decide, by decide⟩ ?_
    refine r_aload_n (x := t) d_X12_putsOther_117 rfl o_t.1 ?_
    refine r_iload (x := x4) d_X12_putsOther_118 rfl ?_
    refine x_callVI (Y2 := mX12_keyOf) (c := t) (As := [(0, x4)]) (S := [(0, 0), (2, t)]) d_X12_putsOther_120 ok_mX12_keyOf ml_X12_141 rfl (Nat.le_of_ble_eq_true rfl) (Nat.le_of_ble_eq_true rfl) rfl hd_1 kX12 o_t (CI.mono h (fun v2 σ1 h => ?_))
    refine r_lload (x := x5) d_X12_putsOther_123 rfl ?_
    refine x_callVI (Y2 := mX12_puts) (c := t) (As := [(0, 0), (0, v2), (1, x5)]) (S := []) d_X12_putsOther_125 ok_mX12_puts ml_X12_147 rfl (Nat.le_of_ble_eq_true rfl) (Nat.le_of_ble_eq_true rfl) rfl hd_1 kX12 o_t (CI.mono h (fun v4 σ3 h => ?_))
    refine r_pop d_X12_putsOther_128 rfl ?_
    exact r_vret d_X12_putsOther_129 rfl (Nat.le_refl 0) (Nat.le_refl 0) ⟨rfl, rfl, rfl, h⟩
  · have h := h.2 hc
    refine r_iconst (x := 3) d_X12_putsOther_20 ⟨by decide, by decide⟩ ?_
    refine r_iload_n (x := x1) d_X12_putsOther_21 rfl ?_
    refine r_iload (x := x7) d_X12_putsOther_22 rfl ?_
    refine x_callSI (Y2 := mX12_rankIn) (As := [(0, x1), (0, x7)]) (S := [(0, 3)]) d_X12_putsOther_24 ok_mX12_rankIn ml_X12_135 rfl (Nat.le_of_ble_eq_true rfl) (Nat.le_of_ble_eq_true rfl) rfl hd_1 (CI.mono h (fun v6 σ5 h => ?_))
    refine r_imul d_X12_putsOther_27 ?_
    refine r_nm (fun y7 ey7 => ?_)
    have h := h y7 ey7
    refine r_istore (L2 := [(2, t), (0, x1), (0, x2), (2, a3), (0, x4), (1, x5), (3, 0), (0, x7), (0, y7), (3, 0)]) d_X12_putsOther_28 (by decide) rfl rfl ?_
    refine r_aload_n (x := t) d_X12_putsOther_30 rfl o_t.1 ?_
    refine r_getf (j := 1) (t := 2) (x := t_rankOf) d_X12_putsOther_31 kX12 (by decide) fl_X12_13 o_t.1 o_t.2.1 o_t.2.2.1 o_t.2.2.2 rfl f_t_rankOf ?_
    refine r_bipush (x := 100) d_X12_putsOther_34 ⟨by decide, by decide⟩ (by decide) ?_
    refine r_aload_n (x := a3) d_X12_putsOther_36 rfl z_a3 ?_
    refine r_aload_n (x := t) d_X12_putsOther_37 rfl o_t.1 ?_
    refine r_getf (j := 2) (t := 2) (x := t_letterOf) d_X12_putsOther_38 kX12 (by decide) fl_X12_17 o_t.1 o_t.2.1 o_t.2.2.1 o_t.2.2.2 rfl f_t_letterOf ?_
    refine r_iload (x := y7) d_X12_putsOther_41 rfl ?_
    refine x_iald d_X12_putsOther_43 h.1 ?_
    have h := h.2
    refine x_iald d_X12_putsOther_44 h.1 ?_
    have h := h.2
    refine r_imul d_X12_putsOther_45 ?_
    refine r_bipush (x := 10) d_X12_putsOther_46 ⟨by decide, by decide⟩ (by decide) ?_
    refine r_aload_n (x := a3) d_X12_putsOther_48 rfl z_a3 ?_
    refine r_aload_n (x := t) d_X12_putsOther_49 rfl o_t.1 ?_
    refine r_getf (j := 2) (t := 2) (x := t_letterOf) d_X12_putsOther_50 kX12 (by decide) fl_X12_17 o_t.1 o_t.2.1 o_t.2.2.1 o_t.2.2.2 rfl f_t_letterOf ?_
    refine r_iload (x := y7) d_X12_putsOther_53 rfl ?_
    refine r_iconst (x := 1) d_X12_putsOther_55 ⟨by decide, by decide⟩ ?_
    refine r_iadd d_X12_putsOther_56 ?_
    refine x_iald d_X12_putsOther_57 h.1 ?_
    have h := h.2
    refine x_iald d_X12_putsOther_58 h.1 ?_
    have h := h.2
    refine r_imul d_X12_putsOther_59 ?_
    refine r_iadd d_X12_putsOther_60 ?_
    refine r_aload_n (x := a3) d_X12_putsOther_61 rfl z_a3 ?_
    refine r_aload_n (x := t) d_X12_putsOther_62 rfl o_t.1 ?_
    refine r_getf (j := 2) (t := 2) (x := t_letterOf) d_X12_putsOther_63 kX12 (by decide) fl_X12_17 o_t.1 o_t.2.1 o_t.2.2.1 o_t.2.2.2 rfl f_t_letterOf ?_
    refine r_iload (x := y7) d_X12_putsOther_66 rfl ?_
    refine r_iconst (x := 2) d_X12_putsOther_68 ⟨by decide, by decide⟩ ?_
    refine r_iadd d_X12_putsOther_69 ?_
    refine x_iald d_X12_putsOther_70 h.1 ?_
    have h := h.2
    refine x_iald d_X12_putsOther_71 h.1 ?_
    have h := h.2
    refine r_iadd d_X12_putsOther_72 ?_
    refine x_iald d_X12_putsOther_73 h.1 ?_
    have h := h.2
    refine r_nm (fun y8 ey8 => ?_)
    have h := h y8 ey8
    refine r_istore (L2 := [(2, t), (0, x1), (0, x2), (2, a3), (0, x4), (1, x5), (3, 0), (0, x7), (0, y7), (0, y8)]) d_X12_putsOther_74 (by decide) rfl rfl ?_
    refine r_iload (x := y8) d_X12_putsOther_76 rfl ?_
    refine r_if_ne (tgt := 82) d_X12_putsOther_78 rfl (fun hc => ?_) (fun hc => ?_)
    · have h := h.1 hc
      refine r_iload (x := y8) d_X12_putsOther_82 rfl ?_
      refine r_if_ge (tgt := 93) d_X12_putsOther_84 rfl (fun hc => ?_) (fun hc => ?_)
      · have h := h.1 hc
        refine r_lload (x := x5) d_X12_putsOther_93 rfl ?_
        refine r_lstore (L2 := [(2, t), (0, x1), (0, x2), (2, a3), (0, x4), (1, x5), (3, 0), (0, x7), (0, y7), (0, y8)]) d_X12_putsOther_95 (by decide) rfl rfl ?_
        refine r_aload_n (x := t) d_X12_putsOther_97 rfl o_t.1 ?_
        refine r_getf (j := 9) (t := 2) (x := t_ranks) d_X12_putsOther_98 kX12 (by decide) fl_X12_33 o_t.1 o_t.2.1 o_t.2.2.1 o_t.2.2.2 rfl f_t_ranks ?_
        refine r_iload (x := x7) d_X12_putsOther_101 rfl ?_
        refine r_iload (x := y8) d_X12_putsOther_103 rfl ?_
        refine x_callSI (Y2 := mX12_sizeOf) (As := [(0, y8)]) (S := [(0, x7), (2, t_ranks)]) d_X12_putsOther_105 ok_mX12_sizeOf ml_X12_168 rfl (Nat.le_of_ble_eq_true rfl) (Nat.le_of_ble_eq_true rfl) rfl hd_1 (c_X12_sizeOf (v_X12_sizeOf_0 ?_))
        refine ⟨fun hc => ?_, fun hc => ?_⟩
        · have h := h.1 hc
          show WP l mX12_putsOther (rm d 0 0) noX _ 0 0 108 [(2, t), (0, x1), (0, x2), (2, a3), (0, x4), (1, x5), (3, 0), (0, x7), (0, y7), (0, y8)] [(0, y8), (0, x7), (2, t_ranks)] N Λ σ5
          refine x_iast d_X12_putsOther_108 h.1 ?_
          have h := h.2
          refine r_nmM (fun τ9 eτ9 => ?_)
          have h := h τ9 eτ9
          refine x_iinc (x := x7) (L := [(2, t), (0, x1), (0, x2), (2, a3), (0, x4), (1, x5), (3, 0), (0, x7), (0, y7), (0, y8)]) d_X12_putsOther_109 rfl (by decide) rfl (fun y10 ey10 => ?_)
          have h := h y10 ey10
          show WP _ _ _ _ _ _ _ _ [(2, t), (0, x1), (0, x2), (2, a3), (0, x4), (1, x5), (3, 0), (0, y10), (0, y7), (0, y8)] _ _ _ _
          refine r_goto (tgt := 13) d_X12_putsOther_112 rfl ?_
          exact x_mask h ⟨Or.inr rfl, Or.inr rfl, Or.inr rfl, Or.inr rfl, Or.inr rfl, Or.inr rfl, Or.inl rfl, Or.inr rfl, Or.inl rfl, Or.inl rfl, trivial⟩
        · have h := h.2 hc
          show WP l mX12_putsOther (rm d 0 0) noX _ 0 0 108 [(2, t), (0, x1), (0, x2), (2, a3), (0, x4), (1, x5), (3, 0), (0, x7), (0, y7), (0, y8)] [(0, (negI y8)), (0, x7), (2, t_ranks)] N Λ σ5
          refine x_iast d_X12_putsOther_108 h.1 ?_
          have h := h.2
          refine r_nmM (fun τ11 eτ11 => ?_)
          have h := h τ11 eτ11
          refine x_iinc (x := x7) (L := [(2, t), (0, x1), (0, x2), (2, a3), (0, x4), (1, x5), (3, 0), (0, x7), (0, y7), (0, y8)]) d_X12_putsOther_109 rfl (by decide) rfl (fun y12 ey12 => ?_)
          have h := h y12 ey12
          show WP _ _ _ _ _ _ _ _ [(2, t), (0, x1), (0, x2), (2, a3), (0, x4), (1, x5), (3, 0), (0, y12), (0, y7), (0, y8)] _ _ _ _
          refine r_goto (tgt := 13) d_X12_putsOther_112 rfl ?_
          exact x_mask h ⟨Or.inr rfl, Or.inr rfl, Or.inr rfl, Or.inr rfl, Or.inr rfl, Or.inr rfl, Or.inl rfl, Or.inr rfl, Or.inl rfl, Or.inl rfl, trivial⟩
      · have h := h.2 hc
        refine r_lload (x := x5) d_X12_putsOther_87 rfl ?_
        refine r_lneg d_X12_putsOther_89 ?_
        refine r_goto (tgt := 95) d_X12_putsOther_90 rfl ?_
        refine r_nm (fun y13 ey13 => ?_)
        have h := h y13 ey13
        refine r_lstore (L2 := [(2, t), (0, x1), (0, x2), (2, a3), (0, x4), (1, y13), (3, 0), (0, x7), (0, y7), (0, y8)]) d_X12_putsOther_95 (by decide) rfl rfl ?_
        refine r_aload_n (x := t) d_X12_putsOther_97 rfl o_t.1 ?_
        refine r_getf (j := 9) (t := 2) (x := t_ranks) d_X12_putsOther_98 kX12 (by decide) fl_X12_33 o_t.1 o_t.2.1 o_t.2.2.1 o_t.2.2.2 rfl f_t_ranks ?_
        refine r_iload (x := x7) d_X12_putsOther_101 rfl ?_
        refine r_iload (x := y8) d_X12_putsOther_103 rfl ?_
        refine x_callSI (Y2 := mX12_sizeOf) (As := [(0, y8)]) (S := [(0, x7), (2, t_ranks)]) d_X12_putsOther_105 ok_mX12_sizeOf ml_X12_168 rfl (Nat.le_of_ble_eq_true rfl) (Nat.le_of_ble_eq_true rfl) rfl hd_1 (c_X12_sizeOf (v_X12_sizeOf_0 ?_))
        refine ⟨fun hc => ?_, fun hc => ?_⟩
        · have h := h.1 hc
          show WP l mX12_putsOther (rm d 0 0) noX _ 0 0 108 [(2, t), (0, x1), (0, x2), (2, a3), (0, x4), (1, y13), (3, 0), (0, x7), (0, y7), (0, y8)] [(0, y8), (0, x7), (2, t_ranks)] N Λ σ5
          refine x_iast d_X12_putsOther_108 h.1 ?_
          have h := h.2
          refine r_nmM (fun τ14 eτ14 => ?_)
          have h := h τ14 eτ14
          refine x_iinc (x := x7) (L := [(2, t), (0, x1), (0, x2), (2, a3), (0, x4), (1, y13), (3, 0), (0, x7), (0, y7), (0, y8)]) d_X12_putsOther_109 rfl (by decide) rfl (fun y15 ey15 => ?_)
          have h := h y15 ey15
          show WP _ _ _ _ _ _ _ _ [(2, t), (0, x1), (0, x2), (2, a3), (0, x4), (1, y13), (3, 0), (0, y15), (0, y7), (0, y8)] _ _ _ _
          refine r_goto (tgt := 13) d_X12_putsOther_112 rfl ?_
          exact x_mask h ⟨Or.inr rfl, Or.inr rfl, Or.inr rfl, Or.inr rfl, Or.inr rfl, Or.inr rfl, Or.inl rfl, Or.inr rfl, Or.inl rfl, Or.inl rfl, trivial⟩
        · have h := h.2 hc
          show WP l mX12_putsOther (rm d 0 0) noX _ 0 0 108 [(2, t), (0, x1), (0, x2), (2, a3), (0, x4), (1, y13), (3, 0), (0, x7), (0, y7), (0, y8)] [(0, (negI y8)), (0, x7), (2, t_ranks)] N Λ σ5
          refine x_iast d_X12_putsOther_108 h.1 ?_
          have h := h.2
          refine r_nmM (fun τ16 eτ16 => ?_)
          have h := h τ16 eτ16
          refine x_iinc (x := x7) (L := [(2, t), (0, x1), (0, x2), (2, a3), (0, x4), (1, y13), (3, 0), (0, x7), (0, y7), (0, y8)]) d_X12_putsOther_109 rfl (by decide) rfl (fun y17 ey17 => ?_)
          have h := h y17 ey17
          show WP _ _ _ _ _ _ _ _ [(2, t), (0, x1), (0, x2), (2, a3), (0, x4), (1, y13), (3, 0), (0, y17), (0, y7), (0, y8)] _ _ _ _
          refine r_goto (tgt := 13) d_X12_putsOther_112 rfl ?_
          exact x_mask h ⟨Or.inr rfl, Or.inr rfl, Or.inr rfl, Or.inr rfl, Or.inr rfl, Or.inr rfl, Or.inl rfl, Or.inr rfl, Or.inl rfl, Or.inl rfl, trivial⟩
    · have h := h.2 hc
      exact r_vret d_X12_putsOther_81 rfl (Nat.le_refl 0) (Nat.le_refl 0) ⟨rfl, rfl, rfl, h⟩
theorem v_X12_puts__0 {l : Launch} {d N : Nat} {Λ : Lay} {P : Int → Mem → Prop} {σ : Mem} {x1 x2 x3 x4 x5 t t_pool t_state : Int} (o_t : Ob N Λ t 21 36) (f_t_pool : (Λ t).2.2 7 = t_pool) (f_t_state : (Λ t).2.2 3 = t_state) (h0d : 2 ≤ d)
    (h : (((cmpL x1 0) < 0 → (∀ τ1, τ1 = st σ t 16 0 → P (-2) τ1)) ∧ (¬ ((cmpL x1 0) < 0) → ((0 < (cmpL x1 5) → (∀ τ2, τ2 = st σ t 16 0 → P (-2) τ2)) ∧ (¬ (0 < (cmpL x1 5)) → (((cmpL x2 0) < 0 → (∀ τ3, τ3 = st σ t 16 0 → P (-2) τ3)) ∧ (¬ ((cmpL x2 0) < 0) → ((0 < (cmpL x2 5) → (∀ τ4, τ4 = st σ t 16 0 → P (-2) τ4)) ∧ (¬ (0 < (cmpL x2 5)) → (((cmpL x3 0) < 0 → (∀ τ5, τ5 = st σ t 16 0 → P (-2) τ5)) ∧ (¬ ((cmpL x3 0) < 0) → ((0 < (cmpL x3 9) → (∀ τ6, τ6 = st σ t 16 0 → P (-2) τ6)) ∧ (¬ (0 < (cmpL x3 9)) → (((cmpL x4 0) < 0 → (∀ τ7, τ7 = st σ t 16 0 → P (-2) τ7)) ∧ (¬ ((cmpL x4 0) < 0) → ((0 < (cmpL x4 9) → (∀ τ8, τ8 = st σ t 16 0 → P (-2) τ8)) ∧ (¬ (0 < (cmpL x4 9)) → (∀ τ9, τ9 = st σ t 8 0 → (Ix N Λ t_pool 0 (mulI 161 0) ∧ (∀ τ10, τ10 = st τ9 t_pool (mulI 161 0) 0 → (CV l mX12_copies (d - 1 - 1) [(2, t_state), (0, (mulI 161 x2)), (2, t_pool), (0, (mulI 161 1)), (0, 161)] N Λ τ10 (fun σ11 => WI l mX12_puts_ d P 49 [(2, t), (0, x1), (0, x2), (0, x3), (0, x4), (0, x5), (0, 0)] [] N Λ σ11)))))))))))))))))))))) :
    WI l mX12_puts_ d P 0 [(2, t), (0, x1), (0, x2), (0, x3), (0, x4), (0, x5), (3, 0)] [] N Λ σ := by
  have hd_1 : 1 ≤ d := Nat.le_trans (by decide) h0d
  have he_1 : 1 ≤ d - 1 := Nat.le_sub_of_add_le (Nat.le_trans (by decide) h0d)
  refine r_iload_n (x := x1) d_X12_puts__0 rfl ?_
  refine x_callSI (Y2 := mX12_isShelf) (As := [(0, x1)]) (S := []) d_X12_puts__1 ok_mX12_isShelf ml_X12_199 rfl (Nat.le_of_ble_eq_true rfl) (Nat.le_of_ble_eq_true rfl) rfl hd_1 (c_X12_isShelf (v_X12_isShelf_0 he_1 ?_))
  refine ⟨fun hc => ?_, fun hc => ?_⟩
  · have h := h.1 hc
    show WP l mX12_puts_ (rm d 0 0) noX _ 0 0 4 [(2, t), (0, x1), (0, x2), (0, x3), (0, x4), (0, x5), (3, 0)] [(0, 0)] N Λ σ
    refine r_if_eq (tgt := 29) d_X12_puts__4 rfl (fun _ => ?_) (fun hc => absurd hc (by decide))
    refine r_aload_n (x := t) d_X12_puts__29 rfl o_t.1 ?_
    refine r_bipush (x := (-2)) d_X12_puts__30 ⟨by decide, by decide⟩ (by decide) ?_
    refine x_callVI (Y2 := mX12_refused) (c := t) (As := [(0, (-2))]) (S := []) d_X12_puts__32 ok_mX12_refused ml_X12_218 rfl (Nat.le_of_ble_eq_true rfl) (Nat.le_of_ble_eq_true rfl) rfl hd_1 kX12 o_t (c_X12_refused (v_X12_refused_0 o_t ?_))
    intro τ1 eτ1
    have h := h τ1 eτ1
    show WP l mX12_puts_ (rm d 0 0) noX _ 0 0 35 [(2, t), (0, x1), (0, x2), (0, x3), (0, x4), (0, x5), (3, 0)] [(0, (-2))] N Λ τ1
    exact r_iret d_X12_puts__35 rfl rfl (Nat.le_refl 0) (Nat.le_refl 0) ⟨_, rfl, rfl, rfl, h⟩
  · have h := h.2 hc
    refine ⟨fun hc => ?_, fun hc => ?_⟩
    · have h := h.1 hc
      show WP l mX12_puts_ (rm d 0 0) noX _ 0 0 4 [(2, t), (0, x1), (0, x2), (0, x3), (0, x4), (0, x5), (3, 0)] [(0, 0)] N Λ σ
      refine r_if_eq (tgt := 29) d_X12_puts__4 rfl (fun _ => ?_) (fun hc => absurd hc (by decide))
      refine r_aload_n (x := t) d_X12_puts__29 rfl o_t.1 ?_
      refine r_bipush (x := (-2)) d_X12_puts__30 ⟨by decide, by decide⟩ (by decide) ?_
      refine x_callVI (Y2 := mX12_refused) (c := t) (As := [(0, (-2))]) (S := []) d_X12_puts__32 ok_mX12_refused ml_X12_218 rfl (Nat.le_of_ble_eq_true rfl) (Nat.le_of_ble_eq_true rfl) rfl hd_1 kX12 o_t (c_X12_refused (v_X12_refused_0 o_t ?_))
      intro τ2 eτ2
      have h := h τ2 eτ2
      show WP l mX12_puts_ (rm d 0 0) noX _ 0 0 35 [(2, t), (0, x1), (0, x2), (0, x3), (0, x4), (0, x5), (3, 0)] [(0, (-2))] N Λ τ2
      exact r_iret d_X12_puts__35 rfl rfl (Nat.le_refl 0) (Nat.le_refl 0) ⟨_, rfl, rfl, rfl, h⟩
    · have h := h.2 hc
      show WP l mX12_puts_ (rm d 0 0) noX _ 0 0 4 [(2, t), (0, x1), (0, x2), (0, x3), (0, x4), (0, x5), (3, 0)] [(0, 1)] N Λ σ
      refine r_if_eq (tgt := 29) d_X12_puts__4 rfl (fun hc => absurd hc (by decide)) (fun _ => ?_)
      refine r_iload_n (x := x2) d_X12_puts__7 rfl ?_
      refine x_callSI (Y2 := mX12_isShelf) (As := [(0, x2)]) (S := []) d_X12_puts__8 ok_mX12_isShelf ml_X12_199 rfl (Nat.le_of_ble_eq_true rfl) (Nat.le_of_ble_eq_true rfl) rfl hd_1 (c_X12_isShelf (v_X12_isShelf_0 he_1 ?_))
      refine ⟨fun hc => ?_, fun hc => ?_⟩
      · have h := h.1 hc
        show WP l mX12_puts_ (rm d 0 0) noX _ 0 0 11 [(2, t), (0, x1), (0, x2), (0, x3), (0, x4), (0, x5), (3, 0)] [(0, 0)] N Λ σ
        refine r_if_eq (tgt := 29) d_X12_puts__11 rfl (fun _ => ?_) (fun hc => absurd hc (by decide))
        refine r_aload_n (x := t) d_X12_puts__29 rfl o_t.1 ?_
        refine r_bipush (x := (-2)) d_X12_puts__30 ⟨by decide, by decide⟩ (by decide) ?_
        refine x_callVI (Y2 := mX12_refused) (c := t) (As := [(0, (-2))]) (S := []) d_X12_puts__32 ok_mX12_refused ml_X12_218 rfl (Nat.le_of_ble_eq_true rfl) (Nat.le_of_ble_eq_true rfl) rfl hd_1 kX12 o_t (c_X12_refused (v_X12_refused_0 o_t ?_))
        intro τ3 eτ3
        have h := h τ3 eτ3
        show WP l mX12_puts_ (rm d 0 0) noX _ 0 0 35 [(2, t), (0, x1), (0, x2), (0, x3), (0, x4), (0, x5), (3, 0)] [(0, (-2))] N Λ τ3
        exact r_iret d_X12_puts__35 rfl rfl (Nat.le_refl 0) (Nat.le_refl 0) ⟨_, rfl, rfl, rfl, h⟩
      · have h := h.2 hc
        refine ⟨fun hc => ?_, fun hc => ?_⟩
        · have h := h.1 hc
          show WP l mX12_puts_ (rm d 0 0) noX _ 0 0 11 [(2, t), (0, x1), (0, x2), (0, x3), (0, x4), (0, x5), (3, 0)] [(0, 0)] N Λ σ
          refine r_if_eq (tgt := 29) d_X12_puts__11 rfl (fun _ => ?_) (fun hc => absurd hc (by decide))
          refine r_aload_n (x := t) d_X12_puts__29 rfl o_t.1 ?_
          refine r_bipush (x := (-2)) d_X12_puts__30 ⟨by decide, by decide⟩ (by decide) ?_
          refine x_callVI (Y2 := mX12_refused) (c := t) (As := [(0, (-2))]) (S := []) d_X12_puts__32 ok_mX12_refused ml_X12_218 rfl (Nat.le_of_ble_eq_true rfl) (Nat.le_of_ble_eq_true rfl) rfl hd_1 kX12 o_t (c_X12_refused (v_X12_refused_0 o_t ?_))
          intro τ4 eτ4
          have h := h τ4 eτ4
          show WP l mX12_puts_ (rm d 0 0) noX _ 0 0 35 [(2, t), (0, x1), (0, x2), (0, x3), (0, x4), (0, x5), (3, 0)] [(0, (-2))] N Λ τ4
          exact r_iret d_X12_puts__35 rfl rfl (Nat.le_refl 0) (Nat.le_refl 0) ⟨_, rfl, rfl, rfl, h⟩
        · have h := h.2 hc
          show WP l mX12_puts_ (rm d 0 0) noX _ 0 0 11 [(2, t), (0, x1), (0, x2), (0, x3), (0, x4), (0, x5), (3, 0)] [(0, 1)] N Λ σ
          refine r_if_eq (tgt := 29) d_X12_puts__11 rfl (fun hc => absurd hc (by decide)) (fun _ => ?_)
          refine r_iload_n (x := x3) d_X12_puts__14 rfl ?_
          refine x_callSI (Y2 := mX12_isLetter) (As := [(0, x3)]) (S := []) d_X12_puts__15 ok_mX12_isLetter ml_X12_208 rfl (Nat.le_of_ble_eq_true rfl) (Nat.le_of_ble_eq_true rfl) rfl hd_1 (c_X12_isLetter (v_X12_isLetter_0 he_1 ?_))
          refine ⟨fun hc => ?_, fun hc => ?_⟩
          · have h := h.1 hc
            show WP l mX12_puts_ (rm d 0 0) noX _ 0 0 18 [(2, t), (0, x1), (0, x2), (0, x3), (0, x4), (0, x5), (3, 0)] [(0, 0)] N Λ σ
            refine r_if_eq (tgt := 29) d_X12_puts__18 rfl (fun _ => ?_) (fun hc => absurd hc (by decide))
            refine r_aload_n (x := t) d_X12_puts__29 rfl o_t.1 ?_
            refine r_bipush (x := (-2)) d_X12_puts__30 ⟨by decide, by decide⟩ (by decide) ?_
            refine x_callVI (Y2 := mX12_refused) (c := t) (As := [(0, (-2))]) (S := []) d_X12_puts__32 ok_mX12_refused ml_X12_218 rfl (Nat.le_of_ble_eq_true rfl) (Nat.le_of_ble_eq_true rfl) rfl hd_1 kX12 o_t (c_X12_refused (v_X12_refused_0 o_t ?_))
            intro τ5 eτ5
            have h := h τ5 eτ5
            show WP l mX12_puts_ (rm d 0 0) noX _ 0 0 35 [(2, t), (0, x1), (0, x2), (0, x3), (0, x4), (0, x5), (3, 0)] [(0, (-2))] N Λ τ5
            exact r_iret d_X12_puts__35 rfl rfl (Nat.le_refl 0) (Nat.le_refl 0) ⟨_, rfl, rfl, rfl, h⟩
          · have h := h.2 hc
            refine ⟨fun hc => ?_, fun hc => ?_⟩
            · have h := h.1 hc
              show WP l mX12_puts_ (rm d 0 0) noX _ 0 0 18 [(2, t), (0, x1), (0, x2), (0, x3), (0, x4), (0, x5), (3, 0)] [(0, 0)] N Λ σ
              refine r_if_eq (tgt := 29) d_X12_puts__18 rfl (fun _ => ?_) (fun hc => absurd hc (by decide))
              refine r_aload_n (x := t) d_X12_puts__29 rfl o_t.1 ?_
              refine r_bipush (x := (-2)) d_X12_puts__30 ⟨by decide, by decide⟩ (by decide) ?_
              refine x_callVI (Y2 := mX12_refused) (c := t) (As := [(0, (-2))]) (S := []) d_X12_puts__32 ok_mX12_refused ml_X12_218 rfl (Nat.le_of_ble_eq_true rfl) (Nat.le_of_ble_eq_true rfl) rfl hd_1 kX12 o_t (c_X12_refused (v_X12_refused_0 o_t ?_))
              intro τ6 eτ6
              have h := h τ6 eτ6
              show WP l mX12_puts_ (rm d 0 0) noX _ 0 0 35 [(2, t), (0, x1), (0, x2), (0, x3), (0, x4), (0, x5), (3, 0)] [(0, (-2))] N Λ τ6
              exact r_iret d_X12_puts__35 rfl rfl (Nat.le_refl 0) (Nat.le_refl 0) ⟨_, rfl, rfl, rfl, h⟩
            · have h := h.2 hc
              show WP l mX12_puts_ (rm d 0 0) noX _ 0 0 18 [(2, t), (0, x1), (0, x2), (0, x3), (0, x4), (0, x5), (3, 0)] [(0, 1)] N Λ σ
              refine r_if_eq (tgt := 29) d_X12_puts__18 rfl (fun hc => absurd hc (by decide)) (fun _ => ?_)
              refine r_iload (x := x4) d_X12_puts__21 rfl ?_
              refine x_callSI (Y2 := mX12_isLetter) (As := [(0, x4)]) (S := []) d_X12_puts__23 ok_mX12_isLetter ml_X12_208 rfl (Nat.le_of_ble_eq_true rfl) (Nat.le_of_ble_eq_true rfl) rfl hd_1 (c_X12_isLetter (v_X12_isLetter_0 he_1 ?_))
              refine ⟨fun hc => ?_, fun hc => ?_⟩
              · have h := h.1 hc
                show WP l mX12_puts_ (rm d 0 0) noX _ 0 0 26 [(2, t), (0, x1), (0, x2), (0, x3), (0, x4), (0, x5), (3, 0)] [(0, 0)] N Λ σ
                refine r_if_ne (tgt := 36) d_X12_puts__26 rfl (fun hc => absurd hc (by decide)) (fun _ => ?_)
                refine r_aload_n (x := t) d_X12_puts__29 rfl o_t.1 ?_
                refine r_bipush (x := (-2)) d_X12_puts__30 ⟨by decide, by decide⟩ (by decide) ?_
                refine x_callVI (Y2 := mX12_refused) (c := t) (As := [(0, (-2))]) (S := []) d_X12_puts__32 ok_mX12_refused ml_X12_218 rfl (Nat.le_of_ble_eq_true rfl) (Nat.le_of_ble_eq_true rfl) rfl hd_1 kX12 o_t (c_X12_refused (v_X12_refused_0 o_t ?_))
                intro τ7 eτ7
                have h := h τ7 eτ7
                show WP l mX12_puts_ (rm d 0 0) noX _ 0 0 35 [(2, t), (0, x1), (0, x2), (0, x3), (0, x4), (0, x5), (3, 0)] [(0, (-2))] N Λ τ7
                exact r_iret d_X12_puts__35 rfl rfl (Nat.le_refl 0) (Nat.le_refl 0) ⟨_, rfl, rfl, rfl, h⟩
              · have h := h.2 hc
                refine ⟨fun hc => ?_, fun hc => ?_⟩
                · have h := h.1 hc
                  show WP l mX12_puts_ (rm d 0 0) noX _ 0 0 26 [(2, t), (0, x1), (0, x2), (0, x3), (0, x4), (0, x5), (3, 0)] [(0, 0)] N Λ σ
                  refine r_if_ne (tgt := 36) d_X12_puts__26 rfl (fun hc => absurd hc (by decide)) (fun _ => ?_)
                  refine r_aload_n (x := t) d_X12_puts__29 rfl o_t.1 ?_
                  refine r_bipush (x := (-2)) d_X12_puts__30 ⟨by decide, by decide⟩ (by decide) ?_
                  refine x_callVI (Y2 := mX12_refused) (c := t) (As := [(0, (-2))]) (S := []) d_X12_puts__32 ok_mX12_refused ml_X12_218 rfl (Nat.le_of_ble_eq_true rfl) (Nat.le_of_ble_eq_true rfl) rfl hd_1 kX12 o_t (c_X12_refused (v_X12_refused_0 o_t ?_))
                  intro τ8 eτ8
                  have h := h τ8 eτ8
                  show WP l mX12_puts_ (rm d 0 0) noX _ 0 0 35 [(2, t), (0, x1), (0, x2), (0, x3), (0, x4), (0, x5), (3, 0)] [(0, (-2))] N Λ τ8
                  exact r_iret d_X12_puts__35 rfl rfl (Nat.le_refl 0) (Nat.le_refl 0) ⟨_, rfl, rfl, rfl, h⟩
                · have h := h.2 hc
                  show WP l mX12_puts_ (rm d 0 0) noX _ 0 0 26 [(2, t), (0, x1), (0, x2), (0, x3), (0, x4), (0, x5), (3, 0)] [(0, 1)] N Λ σ
                  refine r_if_ne (tgt := 36) d_X12_puts__26 rfl (fun _ => ?_) (fun hc => absurd hc (by decide))
                  refine r_aload_n (x := t) d_X12_puts__36 rfl o_t.1 ?_
                  refine x_callVV (Y2 := mX12_begins) (c := t) (As := []) (S := []) d_X12_puts__37 ok_mX12_begins ml_X12_202 rfl (Nat.le_of_ble_eq_true rfl) (Nat.le_of_ble_eq_true rfl) rfl hd_1 kX12 o_t (c_X12_begins (v_X12_begins_0 o_t f_t_pool he_1 ?_))
                  intro τ9 eτ9
                  have h := h τ9 eτ9
                  refine ⟨h.1, ?_⟩
                  have h := h.2
                  intro τ10 eτ10
                  have h := h τ10 eτ10
                  show WP l mX12_puts_ (rm d 0 0) noX _ 0 0 40 [(2, t), (0, x1), (0, x2), (0, x3), (0, x4), (0, x5), (3, 0)] [] N Λ τ10
                  refine r_aload_n (x := t) d_X12_puts__40 rfl o_t.1 ?_
                  refine r_iload_n (x := x2) d_X12_puts__41 rfl ?_
                  refine r_iconst (x := 1) d_X12_puts__42 ⟨by decide, by decide⟩ ?_
                  refine x_callVV (Y2 := mX12_takes) (c := t) (As := [(0, x2), (0, 1)]) (S := []) d_X12_puts__43 ok_mX12_takes ml_X12_205 rfl (Nat.le_of_ble_eq_true rfl) (Nat.le_of_ble_eq_true rfl) rfl hd_1 kX12 o_t (c_X12_takes (v_X12_takes_0 o_t f_t_state f_t_pool he_1 ?_))
                  refine CV.mono h (fun σ11 h => ?_)
                  show WP l mX12_puts_ (rm d 0 0) noX _ 0 0 46 [(2, t), (0, x1), (0, x2), (0, x3), (0, x4), (0, x5), (3, 0)] [] N Λ σ11
                  refine r_iconst (x := 0) d_X12_puts__46 ⟨by decide, by decide⟩ ?_
                  refine r_istore (L2 := [(2, t), (0, x1), (0, x2), (0, x3), (0, x4), (0, x5), (0, 0)]) d_X12_puts__47 (by decide) rfl rfl ?_
                  exact h
theorem v_X12_puts__49 {l : Launch} {d N : Nat} {Λ : Lay} {P : Int → Mem → Prop} {σ : Mem} {x1 x2 x3 x4 x5 x6 t t_row : Int} (o_t : Ob N Λ t 21 36) (f_t_row : (Λ t).2.2 17 = t_row)
    (h : ((10 ≤ x6 → WI l mX12_puts_ d P 101 [(2, t), (0, x1), (0, x2), (0, x3), (0, x4), (0, x5), (0, 0)] [] N Λ σ) ∧ (¬ (10 ≤ x6) → ((¬ x6 = x3 → ((x5 = 0 → (Ix N Λ t_row 0 x6 ∧ (∀ τ1, τ1 = st σ t_row x6 x6 → (∀ y2, y2 = addI x6 1 → WI l mX12_puts_ d P 49 [(2, t), (0, x1), (0, x2), (0, x3), (0, x4), (0, x5), (0, y2)] [] N Λ τ1)))) ∧ (¬ (x5 = 0) → ((¬ x6 = x4 → (Ix N Λ t_row 0 x6 ∧ (∀ τ3, τ3 = st σ t_row x6 x6 → (∀ y4, y4 = addI x6 1 → WI l mX12_puts_ d P 49 [(2, t), (0, x1), (0, x2), (0, x3), (0, x4), (0, x5), (0, y4)] [] N Λ τ3)))) ∧ (x6 = x4 → (Ix N Λ t_row 0 x6 ∧ (∀ τ5, τ5 = st σ t_row x6 x3 → (∀ y6, y6 = addI x6 1 → WI l mX12_puts_ d P 49 [(2, t), (0, x1), (0, x2), (0, x3), (0, x4), (0, x5), (0, y6)] [] N Λ τ5)))))))) ∧ (x6 = x3 → (Ix N Λ t_row 0 x6 ∧ (∀ τ7, τ7 = st σ t_row x6 x4 → (∀ y8, y8 = addI x6 1 → WI l mX12_puts_ d P 49 [(2, t), (0, x1), (0, x2), (0, x3), (0, x4), (0, x5), (0, y8)] [] N Λ τ7)))))))) :
    WI l mX12_puts_ d P 49 [(2, t), (0, x1), (0, x2), (0, x3), (0, x4), (0, x5), (0, x6)] [] N Λ σ := by
  refine r_iload (x := x6) d_X12_puts__49 rfl ?_
  refine r_bipush (x := 10) d_X12_puts__51 ⟨by decide, by decide⟩ (by decide) ?_
  refine r_ic_ge (tgt := 98) d_X12_puts__53 rfl (fun hc => ?_) (fun hc => ?_)
  · have h := h.1 hc
    refine r_iconst (x := 0) d_X12_puts__98 ⟨by decide, by decide⟩ ?_
    refine r_istore (L2 := [(2, t), (0, x1), (0, x2), (0, x3), (0, x4), (0, x5), (0, 0)]) d_X12_puts__99 (by decide) rfl rfl ?_
    exact h
  · have h := h.2 hc
    refine r_aload_n (x := t) d_X12_puts__56 rfl o_t.1 ?_
    refine r_getf (j := 17) (t := 2) (x := t_row) d_X12_puts__57 kX12 (by decide) fl_X12_54 o_t.1 o_t.2.1 o_t.2.2.1 o_t.2.2.2 rfl f_t_row ?_
    refine r_iload (x := x6) d_X12_puts__60 rfl ?_
    refine r_iload (x := x6) d_X12_puts__62 rfl ?_
    refine r_iload_n (x := x3) d_X12_puts__64 rfl ?_
    refine r_ic_ne (tgt := 73) d_X12_puts__65 rfl (fun hc => ?_) (fun hc => ?_)
    · have h := h.1 hc
      refine r_iload (x := x5) d_X12_puts__73 rfl ?_
      refine r_if_eq (tgt := 89) d_X12_puts__75 rfl (fun hc => ?_) (fun hc => ?_)
      · have h := h.1 hc
        refine r_iload (x := x6) d_X12_puts__89 rfl ?_
        refine x_iast d_X12_puts__91 h.1 ?_
        have h := h.2
        refine r_nmM (fun τ1 eτ1 => ?_)
        have h := h τ1 eτ1
        refine x_iinc (x := x6) (L := [(2, t), (0, x1), (0, x2), (0, x3), (0, x4), (0, x5), (0, x6)]) d_X12_puts__92 rfl (by decide) rfl (fun y2 ey2 => ?_)
        have h := h y2 ey2
        show WP _ _ _ _ _ _ _ _ [(2, t), (0, x1), (0, x2), (0, x3), (0, x4), (0, x5), (0, y2)] _ _ _ _
        refine r_goto (tgt := 49) d_X12_puts__95 rfl ?_
        exact h
      · have h := h.2 hc
        refine r_iload (x := x6) d_X12_puts__78 rfl ?_
        refine r_iload (x := x4) d_X12_puts__80 rfl ?_
        refine r_ic_ne (tgt := 89) d_X12_puts__82 rfl (fun hc => ?_) (fun hc => ?_)
        · have h := h.1 hc
          refine r_iload (x := x6) d_X12_puts__89 rfl ?_
          refine x_iast d_X12_puts__91 h.1 ?_
          have h := h.2
          refine r_nmM (fun τ3 eτ3 => ?_)
          have h := h τ3 eτ3
          refine x_iinc (x := x6) (L := [(2, t), (0, x1), (0, x2), (0, x3), (0, x4), (0, x5), (0, x6)]) d_X12_puts__92 rfl (by decide) rfl (fun y4 ey4 => ?_)
          have h := h y4 ey4
          show WP _ _ _ _ _ _ _ _ [(2, t), (0, x1), (0, x2), (0, x3), (0, x4), (0, x5), (0, y4)] _ _ _ _
          refine r_goto (tgt := 49) d_X12_puts__95 rfl ?_
          exact h
        · have h := h.2 hc
          refine r_iload_n (x := x3) d_X12_puts__85 rfl ?_
          refine r_goto (tgt := 91) d_X12_puts__86 rfl ?_
          refine x_iast d_X12_puts__91 h.1 ?_
          have h := h.2
          refine r_nmM (fun τ5 eτ5 => ?_)
          have h := h τ5 eτ5
          refine x_iinc (x := x6) (L := [(2, t), (0, x1), (0, x2), (0, x3), (0, x4), (0, x5), (0, x6)]) d_X12_puts__92 rfl (by decide) rfl (fun y6 ey6 => ?_)
          have h := h y6 ey6
          show WP _ _ _ _ _ _ _ _ [(2, t), (0, x1), (0, x2), (0, x3), (0, x4), (0, x5), (0, y6)] _ _ _ _
          refine r_goto (tgt := 49) d_X12_puts__95 rfl ?_
          exact h
    · have h := h.2 hc
      refine r_iload (x := x4) d_X12_puts__68 rfl ?_
      refine r_goto (tgt := 91) d_X12_puts__70 rfl ?_
      refine x_iast d_X12_puts__91 h.1 ?_
      have h := h.2
      refine r_nmM (fun τ7 eτ7 => ?_)
      have h := h τ7 eτ7
      refine x_iinc (x := x6) (L := [(2, t), (0, x1), (0, x2), (0, x3), (0, x4), (0, x5), (0, x6)]) d_X12_puts__92 rfl (by decide) rfl (fun y8 ey8 => ?_)
      have h := h y8 ey8
      show WP _ _ _ _ _ _ _ _ [(2, t), (0, x1), (0, x2), (0, x3), (0, x4), (0, x5), (0, y8)] _ _ _ _
      refine r_goto (tgt := 49) d_X12_puts__95 rfl ?_
      exact h
theorem v_X12_puts__101 {l : Launch} {d N : Nat} {Λ : Lay} {P : Int → Mem → Prop} {σ : Mem} {x1 x2 x3 x4 x5 x6 t t_pool t_row : Int} (o_t : Ob N Λ t 21 36) (f_t_pool : (Λ t).2.2 7 = t_pool) (f_t_row : (Λ t).2.2 17 = t_row) (h0d : 1 ≤ d)
    (h : (Ix N Λ t_pool 0 (mulI 161 1) ∧ (((σ t_pool (mulI 161 1)) ≤ x6 → (CI l mX12_ends (d - 1) [(2, t), (0, x1)] N Λ σ (fun v2 σ1 => P v2 σ1))) ∧ (¬ ((σ t_pool (mulI 161 1)) ≤ x6) → (Ix N Λ t_pool 0 (addI (addI (mulI 161 1) 1) (mulI 2 x6)) ∧ (Ix N Λ t_pool 0 (addI (addI (mulI 161 1) 2) (mulI 2 x6)) ∧ (CV l mX12_putsOther (d - 1) [(2, t), (0, (σ t_pool (addI (addI (mulI 161 1) 1) (mulI 2 x6)))), (0, (σ t_pool (addI (addI (mulI 161 1) 2) (mulI 2 x6)))), (2, t_row)] N Λ σ (fun σ3 => (∀ y4, y4 = addI x6 1 → WI l mX12_puts_ d P 101 [(2, t), (0, x1), (0, x2), (0, x3), (0, x4), (0, x5), (0, y4)] [] N Λ σ3))))))))) :
    WI l mX12_puts_ d P 101 [(2, t), (0, x1), (0, x2), (0, x3), (0, x4), (0, x5), (0, x6)] [] N Λ σ := by
  have hd_1 : 1 ≤ d := Nat.le_trans (by decide) h0d
  refine r_iload (x := x6) d_X12_puts__101 rfl ?_
  refine r_aload_n (x := t) d_X12_puts__103 rfl o_t.1 ?_
  refine r_iconst (x := 1) d_X12_puts__104 ⟨by decide, by decide⟩ ?_
  refine x_callVI (Y2 := mX12_many) (c := t) (As := [(0, 1)]) (S := [(0, x6)]) d_X12_puts__105 ok_mX12_many ml_X12_113 rfl (Nat.le_of_ble_eq_true rfl) (Nat.le_of_ble_eq_true rfl) rfl hd_1 kX12 o_t (c_X12_many (v_X12_many_0 o_t f_t_pool ?_))
  refine ⟨h.1, ?_⟩
  have h := h.2
  show WP l mX12_puts_ (rm d 0 0) noX _ 0 0 108 [(2, t), (0, x1), (0, x2), (0, x3), (0, x4), (0, x5), (0, x6)] [(0, (σ t_pool (mulI 161 1))), (0, x6)] N Λ σ
  refine r_ic_ge (tgt := 139) d_X12_puts__108 rfl (fun hc => ?_) (fun hc => ?_)
  · have h := h.1 hc
    refine r_aload_n (x := t) d_X12_puts__139 rfl o_t.1 ?_
    refine r_iload_n (x := x1) d_X12_puts__140 rfl ?_
    refine x_callVI (Y2 := mX12_ends) (c := t) (As := [(0, x1)]) (S := []) d_X12_puts__141 ok_mX12_ends ml_X12_228 rfl (Nat.le_of_ble_eq_true rfl) (Nat.le_of_ble_eq_true rfl) rfl hd_1 kX12 o_t (CI.mono h (fun v2 σ1 h => ?_))
    exact r_iret d_X12_puts__144 rfl rfl (Nat.le_refl 0) (Nat.le_refl 0) ⟨_, rfl, rfl, rfl, h⟩
  · have h := h.2 hc
    refine r_aload_n (x := t) d_X12_puts__111 rfl o_t.1 ?_
    refine r_aload_n (x := t) d_X12_puts__112 rfl o_t.1 ?_
    refine r_iconst (x := 1) d_X12_puts__113 ⟨by decide, by decide⟩ ?_
    refine r_iload (x := x6) d_X12_puts__114 rfl ?_
    refine x_callVI (Y2 := mX12_key) (c := t) (As := [(0, 1), (0, x6)]) (S := [(2, t)]) d_X12_puts__116 ok_mX12_key ml_X12_117 rfl (Nat.le_of_ble_eq_true rfl) (Nat.le_of_ble_eq_true rfl) rfl hd_1 kX12 o_t (c_X12_key (v_X12_key_0 o_t f_t_pool ?_))
    refine ⟨h.1, ?_⟩
    have h := h.2
    show WP l mX12_puts_ (rm d 0 0) noX _ 0 0 119 [(2, t), (0, x1), (0, x2), (0, x3), (0, x4), (0, x5), (0, x6)] [(0, (σ t_pool (addI (addI (mulI 161 1) 1) (mulI 2 x6)))), (2, t)] N Λ σ
    refine r_aload_n (x := t) d_X12_puts__119 rfl o_t.1 ?_
    refine r_iconst (x := 1) d_X12_puts__120 ⟨by decide, by decide⟩ ?_
    refine r_iload (x := x6) d_X12_puts__121 rfl ?_
    refine x_callVI (Y2 := mX12_number) (c := t) (As := [(0, 1), (0, x6)]) (S := [(0, (σ t_pool (addI (addI (mulI 161 1) 1) (mulI 2 x6)))), (2, t)]) d_X12_puts__123 ok_mX12_number ml_X12_132 rfl (Nat.le_of_ble_eq_true rfl) (Nat.le_of_ble_eq_true rfl) rfl hd_1 kX12 o_t (c_X12_number (v_X12_number_0 o_t f_t_pool ?_))
    refine ⟨h.1, ?_⟩
    have h := h.2
    show WP l mX12_puts_ (rm d 0 0) noX _ 0 0 126 [(2, t), (0, x1), (0, x2), (0, x3), (0, x4), (0, x5), (0, x6)] [(0, (σ t_pool (addI (addI (mulI 161 1) 2) (mulI 2 x6)))), (0, (σ t_pool (addI (addI (mulI 161 1) 1) (mulI 2 x6)))), (2, t)] N Λ σ
    refine r_aload_n (x := t) d_X12_puts__126 rfl o_t.1 ?_
    refine r_getf (j := 17) (t := 2) (x := t_row) d_X12_puts__127 kX12 (by decide) fl_X12_54 o_t.1 o_t.2.1 o_t.2.2.1 o_t.2.2.2 rfl f_t_row ?_
    refine x_callVV (Y2 := mX12_putsOther) (c := t) (As := [(0, (σ t_pool (addI (addI (mulI 161 1) 1) (mulI 2 x6)))), (0, (σ t_pool (addI (addI (mulI 161 1) 2) (mulI 2 x6)))), (2, t_row)]) (S := []) d_X12_puts__130 ok_mX12_putsOther ml_X12_234 rfl (Nat.le_of_ble_eq_true rfl) (Nat.le_of_ble_eq_true rfl) rfl hd_1 kX12 o_t (CV.mono h (fun σ3 h => ?_))
    refine x_iinc (x := x6) (L := [(2, t), (0, x1), (0, x2), (0, x3), (0, x4), (0, x5), (0, x6)]) d_X12_puts__133 rfl (by decide) rfl (fun y4 ey4 => ?_)
    have h := h y4 ey4
    show WP _ _ _ _ _ _ _ _ [(2, t), (0, x1), (0, x2), (0, x3), (0, x4), (0, x5), (0, y4)] _ _ _ _
    refine r_goto (tgt := 101) d_X12_puts__136 rfl ?_
    exact h
theorem v_X12_put_0 {l : Launch} {d N : Nat} {Λ : Lay} {P : Int → Mem → Prop} {σ : Mem} {x1 x2 x3 x4 t : Int} (o_t : Ob N Λ t 21 36) (h0d : 1 ≤ d)
    (h : (∀ τ1, τ1 = st σ t 0 0 → (CI l mX12_puts_ (d - 1) [(2, t), (0, x1), (0, x2), (0, x3), (0, x4), (0, 0)] N Λ τ1 (fun v3 σ2 => P v3 σ2)))) :
    WI l mX12_put d P 0 [(2, t), (0, x1), (0, x2), (0, x3), (0, x4)] [] N Λ σ := by
  have hd_1 : 1 ≤ d := Nat.le_trans (by decide) h0d
  refine r_aload_n (x := t) d_X12_put_0 rfl o_t.1 ?_
  refine r_iconst (x := 0) d_X12_put_1 ⟨by decide, by decide⟩ ?_
  refine r_putI (j := 0) d_X12_put_2 kX12 (by decide) fl_X12_1 rfl o_t.1 o_t.2.1 o_t.2.2.1 o_t.2.2.2 rfl ?_
  refine r_nmM (fun τ1 eτ1 => ?_)
  have h := h τ1 eτ1
  refine r_aload_n (x := t) d_X12_put_5 rfl o_t.1 ?_
  refine r_iload_n (x := x1) d_X12_put_6 rfl ?_
  refine r_iload_n (x := x2) d_X12_put_7 rfl ?_
  refine r_iload_n (x := x3) d_X12_put_8 rfl ?_
  refine r_iload (x := x4) d_X12_put_9 rfl ?_
  refine r_iconst (x := 0) d_X12_put_11 ⟨by decide, by decide⟩ ?_
  refine x_callVI (Y2 := mX12_puts_) (c := t) (As := [(0, x1), (0, x2), (0, x3), (0, x4), (0, 0)]) (S := []) d_X12_put_12 ok_mX12_puts_ ml_X12_238 rfl (Nat.le_of_ble_eq_true rfl) (Nat.le_of_ble_eq_true rfl) rfl hd_1 kX12 o_t (CI.mono h (fun v3 σ2 h => ?_))
  exact r_iret d_X12_put_15 rfl rfl (Nat.le_refl 0) (Nat.le_refl 0) ⟨_, rfl, rfl, rfl, h⟩
theorem v_X12_turn_0 {l : Launch} {d N : Nat} {Λ : Lay} {P : Int → Mem → Prop} {σ : Mem} {x1 x2 x3 x4 t : Int} (o_t : Ob N Λ t 21 36) (h0d : 1 ≤ d)
    (h : (∀ τ1, τ1 = st σ t 0 0 → (CI l mX12_puts_ (d - 1) [(2, t), (0, x1), (0, x2), (0, x3), (0, x4), (0, 1)] N Λ τ1 (fun v3 σ2 => P v3 σ2)))) :
    WI l mX12_turn d P 0 [(2, t), (0, x1), (0, x2), (0, x3), (0, x4)] [] N Λ σ := by
  have hd_1 : 1 ≤ d := Nat.le_trans (by decide) h0d
  refine r_aload_n (x := t) d_X12_turn_0 rfl o_t.1 ?_
  refine r_iconst (x := 0) d_X12_turn_1 ⟨by decide, by decide⟩ ?_
  refine r_putI (j := 0) d_X12_turn_2 kX12 (by decide) fl_X12_1 rfl o_t.1 o_t.2.1 o_t.2.2.1 o_t.2.2.2 rfl ?_
  refine r_nmM (fun τ1 eτ1 => ?_)
  have h := h τ1 eτ1
  refine r_aload_n (x := t) d_X12_turn_5 rfl o_t.1 ?_
  refine r_iload_n (x := x1) d_X12_turn_6 rfl ?_
  refine r_iload_n (x := x2) d_X12_turn_7 rfl ?_
  refine r_iload_n (x := x3) d_X12_turn_8 rfl ?_
  refine r_iload (x := x4) d_X12_turn_9 rfl ?_
  refine r_iconst (x := 1) d_X12_turn_11 ⟨by decide, by decide⟩ ?_
  refine x_callVI (Y2 := mX12_puts_) (c := t) (As := [(0, x1), (0, x2), (0, x3), (0, x4), (0, 1)]) (S := []) d_X12_turn_12 ok_mX12_puts_ ml_X12_238 rfl (Nat.le_of_ble_eq_true rfl) (Nat.le_of_ble_eq_true rfl) rfl hd_1 kX12 o_t (CI.mono h (fun v3 σ2 h => ?_))
  exact r_iret d_X12_turn_15 rfl rfl (Nat.le_refl 0) (Nat.le_refl 0) ⟨_, rfl, rfl, rfl, h⟩
theorem v_X12_straight_0 {l : Launch} {d N : Nat} {Λ : Lay} {P : Int → Mem → Prop} {σ : Mem} {x1 x2 t t_pool t_state : Int} (o_t : Ob N Λ t 21 36) (f_t_pool : (Λ t).2.2 7 = t_pool) (f_t_state : (Λ t).2.2 3 = t_state) (h0d : 2 ≤ d)
    (h : (∀ τ1, τ1 = st σ t 0 0 → (((cmpL x1 0) < 0 → (∀ τ2, τ2 = st τ1 t 16 0 → P (-2) τ2)) ∧ (¬ ((cmpL x1 0) < 0) → ((0 < (cmpL x1 5) → (∀ τ3, τ3 = st τ1 t 16 0 → P (-2) τ3)) ∧ (¬ (0 < (cmpL x1 5)) → (((cmpL x2 0) < 0 → (∀ τ4, τ4 = st τ1 t 16 0 → P (-2) τ4)) ∧ (¬ ((cmpL x2 0) < 0) → ((0 < (cmpL x2 5) → (∀ τ5, τ5 = st τ1 t 16 0 → P (-2) τ5)) ∧ (¬ (0 < (cmpL x2 5)) → (∀ τ6, τ6 = st τ1 t 8 0 → (Ix N Λ t_pool 0 (mulI 161 0) ∧ (∀ τ7, τ7 = st τ6 t_pool (mulI 161 0) 0 → (CV l mX12_copies (d - 1 - 1) [(2, t_state), (0, (mulI 161 x2)), (2, t_pool), (0, (mulI 161 0)), (0, 161)] N Λ τ7 (fun σ8 => (CI l mX12_straightens (d - 1) [(2, t), (0, 0)] N Λ σ8 (fun v10 σ9 => (CI l mX12_ends (d - 1) [(2, t), (0, x1)] N Λ σ9 (fun v12 σ11 => P v12 σ11))))))))))))))))))) :
    WI l mX12_straight d P 0 [(2, t), (0, x1), (0, x2), (3, 0)] [] N Λ σ := by
  have hd_1 : 1 ≤ d := Nat.le_trans (by decide) h0d
  have he_1 : 1 ≤ d - 1 := Nat.le_sub_of_add_le (Nat.le_trans (by decide) h0d)
  refine r_aload_n (x := t) d_X12_straight_0 rfl o_t.1 ?_
  refine r_iconst (x := 0) d_X12_straight_1 ⟨by decide, by decide⟩ ?_
  refine r_putI (j := 0) d_X12_straight_2 kX12 (by decide) fl_X12_1 rfl o_t.1 o_t.2.1 o_t.2.2.1 o_t.2.2.2 rfl ?_
  refine r_nmM (fun τ1 eτ1 => ?_)
  have h := h τ1 eτ1
  refine r_iload_n (x := x1) d_X12_straight_5 rfl ?_
  refine x_callSI (Y2 := mX12_isShelf) (As := [(0, x1)]) (S := []) d_X12_straight_6 ok_mX12_isShelf ml_X12_199 rfl (Nat.le_of_ble_eq_true rfl) (Nat.le_of_ble_eq_true rfl) rfl hd_1 (c_X12_isShelf (v_X12_isShelf_0 he_1 ?_))
  refine ⟨fun hc => ?_, fun hc => ?_⟩
  · have h := h.1 hc
    show WP l mX12_straight (rm d 0 0) noX _ 0 0 9 [(2, t), (0, x1), (0, x2), (3, 0)] [(0, 0)] N Λ τ1
    refine r_if_eq (tgt := 19) d_X12_straight_9 rfl (fun _ => ?_) (fun hc => absurd hc (by decide))
    refine r_aload_n (x := t) d_X12_straight_19 rfl o_t.1 ?_
    refine r_bipush (x := (-2)) d_X12_straight_20 ⟨by decide, by decide⟩ (by decide) ?_
    refine x_callVI (Y2 := mX12_refused) (c := t) (As := [(0, (-2))]) (S := []) d_X12_straight_22 ok_mX12_refused ml_X12_218 rfl (Nat.le_of_ble_eq_true rfl) (Nat.le_of_ble_eq_true rfl) rfl hd_1 kX12 o_t (c_X12_refused (v_X12_refused_0 o_t ?_))
    intro τ2 eτ2
    have h := h τ2 eτ2
    show WP l mX12_straight (rm d 0 0) noX _ 0 0 25 [(2, t), (0, x1), (0, x2), (3, 0)] [(0, (-2))] N Λ τ2
    exact r_iret d_X12_straight_25 rfl rfl (Nat.le_refl 0) (Nat.le_refl 0) ⟨_, rfl, rfl, rfl, h⟩
  · have h := h.2 hc
    refine ⟨fun hc => ?_, fun hc => ?_⟩
    · have h := h.1 hc
      show WP l mX12_straight (rm d 0 0) noX _ 0 0 9 [(2, t), (0, x1), (0, x2), (3, 0)] [(0, 0)] N Λ τ1
      refine r_if_eq (tgt := 19) d_X12_straight_9 rfl (fun _ => ?_) (fun hc => absurd hc (by decide))
      refine r_aload_n (x := t) d_X12_straight_19 rfl o_t.1 ?_
      refine r_bipush (x := (-2)) d_X12_straight_20 ⟨by decide, by decide⟩ (by decide) ?_
      refine x_callVI (Y2 := mX12_refused) (c := t) (As := [(0, (-2))]) (S := []) d_X12_straight_22 ok_mX12_refused ml_X12_218 rfl (Nat.le_of_ble_eq_true rfl) (Nat.le_of_ble_eq_true rfl) rfl hd_1 kX12 o_t (c_X12_refused (v_X12_refused_0 o_t ?_))
      intro τ3 eτ3
      have h := h τ3 eτ3
      show WP l mX12_straight (rm d 0 0) noX _ 0 0 25 [(2, t), (0, x1), (0, x2), (3, 0)] [(0, (-2))] N Λ τ3
      exact r_iret d_X12_straight_25 rfl rfl (Nat.le_refl 0) (Nat.le_refl 0) ⟨_, rfl, rfl, rfl, h⟩
    · have h := h.2 hc
      show WP l mX12_straight (rm d 0 0) noX _ 0 0 9 [(2, t), (0, x1), (0, x2), (3, 0)] [(0, 1)] N Λ τ1
      refine r_if_eq (tgt := 19) d_X12_straight_9 rfl (fun hc => absurd hc (by decide)) (fun _ => ?_)
      refine r_iload_n (x := x2) d_X12_straight_12 rfl ?_
      refine x_callSI (Y2 := mX12_isShelf) (As := [(0, x2)]) (S := []) d_X12_straight_13 ok_mX12_isShelf ml_X12_199 rfl (Nat.le_of_ble_eq_true rfl) (Nat.le_of_ble_eq_true rfl) rfl hd_1 (c_X12_isShelf (v_X12_isShelf_0 he_1 ?_))
      refine ⟨fun hc => ?_, fun hc => ?_⟩
      · have h := h.1 hc
        show WP l mX12_straight (rm d 0 0) noX _ 0 0 16 [(2, t), (0, x1), (0, x2), (3, 0)] [(0, 0)] N Λ τ1
        refine r_if_ne (tgt := 26) d_X12_straight_16 rfl (fun hc => absurd hc (by decide)) (fun _ => ?_)
        refine r_aload_n (x := t) d_X12_straight_19 rfl o_t.1 ?_
        refine r_bipush (x := (-2)) d_X12_straight_20 ⟨by decide, by decide⟩ (by decide) ?_
        refine x_callVI (Y2 := mX12_refused) (c := t) (As := [(0, (-2))]) (S := []) d_X12_straight_22 ok_mX12_refused ml_X12_218 rfl (Nat.le_of_ble_eq_true rfl) (Nat.le_of_ble_eq_true rfl) rfl hd_1 kX12 o_t (c_X12_refused (v_X12_refused_0 o_t ?_))
        intro τ4 eτ4
        have h := h τ4 eτ4
        show WP l mX12_straight (rm d 0 0) noX _ 0 0 25 [(2, t), (0, x1), (0, x2), (3, 0)] [(0, (-2))] N Λ τ4
        exact r_iret d_X12_straight_25 rfl rfl (Nat.le_refl 0) (Nat.le_refl 0) ⟨_, rfl, rfl, rfl, h⟩
      · have h := h.2 hc
        refine ⟨fun hc => ?_, fun hc => ?_⟩
        · have h := h.1 hc
          show WP l mX12_straight (rm d 0 0) noX _ 0 0 16 [(2, t), (0, x1), (0, x2), (3, 0)] [(0, 0)] N Λ τ1
          refine r_if_ne (tgt := 26) d_X12_straight_16 rfl (fun hc => absurd hc (by decide)) (fun _ => ?_)
          refine r_aload_n (x := t) d_X12_straight_19 rfl o_t.1 ?_
          refine r_bipush (x := (-2)) d_X12_straight_20 ⟨by decide, by decide⟩ (by decide) ?_
          refine x_callVI (Y2 := mX12_refused) (c := t) (As := [(0, (-2))]) (S := []) d_X12_straight_22 ok_mX12_refused ml_X12_218 rfl (Nat.le_of_ble_eq_true rfl) (Nat.le_of_ble_eq_true rfl) rfl hd_1 kX12 o_t (c_X12_refused (v_X12_refused_0 o_t ?_))
          intro τ5 eτ5
          have h := h τ5 eτ5
          show WP l mX12_straight (rm d 0 0) noX _ 0 0 25 [(2, t), (0, x1), (0, x2), (3, 0)] [(0, (-2))] N Λ τ5
          exact r_iret d_X12_straight_25 rfl rfl (Nat.le_refl 0) (Nat.le_refl 0) ⟨_, rfl, rfl, rfl, h⟩
        · have h := h.2 hc
          show WP l mX12_straight (rm d 0 0) noX _ 0 0 16 [(2, t), (0, x1), (0, x2), (3, 0)] [(0, 1)] N Λ τ1
          refine r_if_ne (tgt := 26) d_X12_straight_16 rfl (fun _ => ?_) (fun hc => absurd hc (by decide))
          refine r_aload_n (x := t) d_X12_straight_26 rfl o_t.1 ?_
          refine x_callVV (Y2 := mX12_begins) (c := t) (As := []) (S := []) d_X12_straight_27 ok_mX12_begins ml_X12_202 rfl (Nat.le_of_ble_eq_true rfl) (Nat.le_of_ble_eq_true rfl) rfl hd_1 kX12 o_t (c_X12_begins (v_X12_begins_0 o_t f_t_pool he_1 ?_))
          intro τ6 eτ6
          have h := h τ6 eτ6
          refine ⟨h.1, ?_⟩
          have h := h.2
          intro τ7 eτ7
          have h := h τ7 eτ7
          show WP l mX12_straight (rm d 0 0) noX _ 0 0 30 [(2, t), (0, x1), (0, x2), (3, 0)] [] N Λ τ7
          refine r_aload_n (x := t) d_X12_straight_30 rfl o_t.1 ?_
          refine r_iload_n (x := x2) d_X12_straight_31 rfl ?_
          refine r_iconst (x := 0) d_X12_straight_32 ⟨by decide, by decide⟩ ?_
          refine x_callVV (Y2 := mX12_takes) (c := t) (As := [(0, x2), (0, 0)]) (S := []) d_X12_straight_33 ok_mX12_takes ml_X12_205 rfl (Nat.le_of_ble_eq_true rfl) (Nat.le_of_ble_eq_true rfl) rfl hd_1 kX12 o_t (c_X12_takes (v_X12_takes_0 o_t f_t_state f_t_pool he_1 ?_))
          refine CV.mono h (fun σ8 h => ?_)
          show WP l mX12_straight (rm d 0 0) noX _ 0 0 36 [(2, t), (0, x1), (0, x2), (3, 0)] [] N Λ σ8
          refine r_aload_n (x := t) d_X12_straight_36 rfl o_t.1 ?_
          refine r_iconst (x := 0) d_X12_straight_37 ⟨by decide, by decide⟩ ?_
          refine x_callVI (Y2 := mX12_straightens) (c := t) (As := [(0, 0)]) (S := []) d_X12_straight_38 ok_mX12_straightens ml_X12_241 rfl (Nat.le_of_ble_eq_true rfl) (Nat.le_of_ble_eq_true rfl) rfl hd_1 kX12 o_t (CI.mono h (fun v10 σ9 h => ?_))
          refine r_istore_n (L2 := [(2, t), (0, x1), (0, x2), (0, v10)]) d_X12_straight_41 (by decide) rfl rfl ?_
          refine r_aload_n (x := t) d_X12_straight_42 rfl o_t.1 ?_
          refine r_iload_n (x := x1) d_X12_straight_43 rfl ?_
          refine x_callVI (Y2 := mX12_ends) (c := t) (As := [(0, x1)]) (S := []) d_X12_straight_44 ok_mX12_ends ml_X12_228 rfl (Nat.le_of_ble_eq_true rfl) (Nat.le_of_ble_eq_true rfl) rfl hd_1 kX12 o_t (CI.mono h (fun v12 σ11 h => ?_))
          exact r_iret d_X12_straight_47 rfl rfl (Nat.le_refl 0) (Nat.le_refl 0) ⟨_, rfl, rfl, rfl, h⟩
theorem v_X12_factOf_0 {l : Launch} {d N : Nat} {Λ : Lay} {P : Int → Mem → Prop} {σ : Mem} {x1 t t_state : Int} (o_t : Ob N Λ t 21 36) (f_t_state : (Λ t).2.2 3 = t_state)
    (h : (Ix N Λ t_state 0 (subI (addI 996 x1) 1) ∧ P (σ t_state (subI (addI 996 x1) 1)) σ)) :
    WI l mX12_factOf d P 0 [(2, t), (0, x1)] [] N Λ σ := by
  refine r_aload_n (x := t) d_X12_factOf_0 rfl o_t.1 ?_
  refine r_getf (j := 3) (t := 2) (x := t_state) d_X12_factOf_1 kX12 (by decide) fl_X12_20 o_t.1 o_t.2.1 o_t.2.2.1 o_t.2.2.2 rfl f_t_state ?_
  refine r_sipush (x := 996) d_X12_factOf_4 ⟨by decide, by decide⟩ (by decide) ?_
  refine r_iload_n (x := x1) d_X12_factOf_7 rfl ?_
  refine r_iadd d_X12_factOf_8 ?_
  refine r_iconst (x := 1) d_X12_factOf_9 ⟨by decide, by decide⟩ ?_
  refine r_isub d_X12_factOf_10 ?_
  refine x_iald d_X12_factOf_11 h.1 ?_
  have h := h.2
  exact r_iret d_X12_factOf_12 rfl rfl (Nat.le_refl 0) (Nat.le_refl 0) ⟨_, rfl, rfl, rfl, h⟩
theorem v_X12_reduces_0 {l : Launch} {d N : Nat} {Λ : Lay} {P : Mem → Prop} {σ : Mem} {x1 t t_pool t_state : Int} (o_t : Ob N Λ t 21 36) (f_t_state : (Λ t).2.2 3 = t_state) (f_t_pool : (Λ t).2.2 7 = t_pool) (h0d : 2 ≤ d)
    (h : (CV l mX12_copies (d - 1 - 1) [(2, t_state), (0, (mulI 161 x1)), (2, t_pool), (0, (mulI 161 1)), (0, 161)] N Λ σ (fun σ1 => WV l mX12_reduces d P 8 [(2, t), (0, x1), (0, 0), (3, 0), (3, 0)] [] N Λ σ1))) :
    WV l mX12_reduces d P 0 [(2, t), (0, x1), (3, 0), (3, 0), (3, 0)] [] N Λ σ := by
  have hd_1 : 1 ≤ d := Nat.le_trans (by decide) h0d
  have he_1 : 1 ≤ d - 1 := Nat.le_sub_of_add_le (Nat.le_trans (by decide) h0d)
  refine r_aload_n (x := t) d_X12_reduces_0 rfl o_t.1 ?_
  refine r_iload_n (x := x1) d_X12_reduces_1 rfl ?_
  refine r_iconst (x := 1) d_X12_reduces_2 ⟨by decide, by decide⟩ ?_
  refine x_callVV (Y2 := mX12_takes) (c := t) (As := [(0, x1), (0, 1)]) (S := []) d_X12_reduces_3 ok_mX12_takes ml_X12_205 rfl (Nat.le_of_ble_eq_true rfl) (Nat.le_of_ble_eq_true rfl) rfl hd_1 kX12 o_t (c_X12_takes (v_X12_takes_0 o_t f_t_state f_t_pool he_1 ?_))
  refine CV.mono h (fun σ1 h => ?_)
  show WP l mX12_reduces (rm d 0 0) noX _ 0 0 6 [(2, t), (0, x1), (3, 0), (3, 0), (3, 0)] [] N Λ σ1
  refine r_iconst (x := 0) d_X12_reduces_6 ⟨by decide, by decide⟩ ?_
  refine r_istore_n (L2 := [(2, t), (0, x1), (0, 0), (3, 0), (3, 0)]) d_X12_reduces_7 (by decide) rfl rfl ?_
  exact h
theorem v_X12_reduces_8 {l : Launch} {d N : Nat} {Λ : Lay} {P : Mem → Prop} {σ : Mem} {x1 x2 t t_pool : Int} (o_t : Ob N Λ t 21 36) (f_t_pool : (Λ t).2.2 7 = t_pool) (h0d : 1 ≤ d)
    (h : (Ix N Λ t_pool 0 (mulI 161 1) ∧ (((σ t_pool (mulI 161 1)) ≤ x2 → P σ) ∧ (¬ ((σ t_pool (mulI 161 1)) ≤ x2) → WV l mX12_reduces d P 22 [(2, t), (0, x1), (0, x2), (0, 1), (0, 0)] [] N Λ σ)))) :
    WV l mX12_reduces d P 8 [(2, t), (0, x1), (0, x2), (3, 0), (3, 0)] [] N Λ σ := by
  have hd_1 : 1 ≤ d := Nat.le_trans (by decide) h0d
  refine r_iload_n (x := x2) d_X12_reduces_8 rfl ?_
  refine r_aload_n (x := t) d_X12_reduces_9 rfl o_t.1 ?_
  refine r_iconst (x := 1) d_X12_reduces_10 ⟨by decide, by decide⟩ ?_
  refine x_callVI (Y2 := mX12_many) (c := t) (As := [(0, 1)]) (S := [(0, x2)]) d_X12_reduces_11 ok_mX12_many ml_X12_113 rfl (Nat.le_of_ble_eq_true rfl) (Nat.le_of_ble_eq_true rfl) rfl hd_1 kX12 o_t (c_X12_many (v_X12_many_0 o_t f_t_pool ?_))
  refine ⟨h.1, ?_⟩
  have h := h.2
  show WP l mX12_reduces (rm d 0 0) noX _ 0 0 14 [(2, t), (0, x1), (0, x2), (3, 0), (3, 0)] [(0, (σ t_pool (mulI 161 1))), (0, x2)] N Λ σ
  refine r_ic_ge (tgt := 99) d_X12_reduces_14 rfl (fun hc => ?_) (fun hc => ?_)
  · have h := h.1 hc
    exact r_vret d_X12_reduces_99 rfl (Nat.le_refl 0) (Nat.le_refl 0) ⟨rfl, rfl, rfl, h⟩
  · have h := h.2 hc
    refine r_iconst (x := 1) d_X12_reduces_17 ⟨by decide, by decide⟩ ?_
    refine r_istore_n (L2 := [(2, t), (0, x1), (0, x2), (0, 1), (3, 0)]) d_X12_reduces_18 (by decide) rfl rfl ?_
    refine r_iconst (x := 0) d_X12_reduces_19 ⟨by decide, by decide⟩ ?_
    refine r_istore (L2 := [(2, t), (0, x1), (0, x2), (0, 1), (0, 0)]) d_X12_reduces_20 (by decide) rfl rfl ?_
    exact h
theorem v_X12_reduces_22 {l : Launch} {d N : Nat} {Λ : Lay} {P : Mem → Prop} {σ : Mem} {x1 x2 x3 x4 t t_pool t_state : Int} (o_t : Ob N Λ t 21 36) (f_t_pool : (Λ t).2.2 7 = t_pool) (f_t_state : (Λ t).2.2 3 = t_state) (h0d : 1 ≤ d)
    (h : (Ix N Λ t_pool 0 (addI (addI (mulI 161 1) 1) (mulI 2 x2)) ∧ (CI l mX12_degreeOf (d - 1) [(0, (σ t_pool (addI (addI (mulI 161 1) 1) (mulI 2 x2))))] N Λ σ (fun v2 σ1 => ((v2 ≤ x4 → ((x3 = 0 → (∀ y3, y3 = addI x2 1 → WV l mX12_reduces d P 8 [(2, t), (0, x1), (0, y3), (3, 0), (3, 0)] [] N Λ σ1)) ∧ (¬ (x3 = 0) → (Ix N Λ t_pool 0 (addI (addI (mulI 161 1) 1) (mulI 2 x2)) ∧ (Ix N Λ t_pool 0 (addI (addI (mulI 161 1) 2) (mulI 2 x2)) ∧ (CI l mX12_puts (d - 1) [(2, t), (0, 0), (0, (σ1 t_pool (addI (addI (mulI 161 1) 1) (mulI 2 x2)))), (1, (σ1 t_pool (addI (addI (mulI 161 1) 2) (mulI 2 x2))))] N Λ σ1 (fun v5 σ4 => (∀ y6, y6 = addI x2 1 → WV l mX12_reduces d P 8 [(2, t), (0, x1), (0, y6), (3, 0), (3, 0)] [] N Λ σ4)))))))) ∧ (¬ (v2 ≤ x4) → ((x3 = 0 → (∀ y7, y7 = addI x4 1 → WV l mX12_reduces d P 22 [(2, t), (0, x1), (0, x2), (0, 0), (0, y7)] [] N Λ σ1)) ∧ (¬ (x3 = 0) → (Ix N Λ t_pool 0 (addI (addI (mulI 161 1) 1) (mulI 2 x2)) ∧ (CI l mX12_rankIn (d - 1) [(0, (σ1 t_pool (addI (addI (mulI 161 1) 1) (mulI 2 x2)))), (0, x4)] N Λ σ1 (fun v9 σ8 => (Ix N Λ t_state 0 (subI (addI 996 v9) 1) ∧ (((σ8 t_state (subI (addI 996 v9) 1)) = 0 → (∀ y10, y10 = addI x4 1 → WV l mX12_reduces d P 22 [(2, t), (0, x1), (0, x2), (0, 0), (0, y10)] [] N Λ σ8)) ∧ (¬ ((σ8 t_state (subI (addI 996 v9) 1)) = 0) → (∀ y11, y11 = addI x4 1 → WV l mX12_reduces d P 22 [(2, t), (0, x1), (0, x2), (0, 1), (0, y11)] [] N Λ σ8))))))))))))))) :
    WV l mX12_reduces d P 22 [(2, t), (0, x1), (0, x2), (0, x3), (0, x4)] [] N Λ σ := by
  have hd_1 : 1 ≤ d := Nat.le_trans (by decide) h0d
  refine r_iload (x := x4) d_X12_reduces_22 rfl ?_
  refine r_aload_n (x := t) d_X12_reduces_24 rfl o_t.1 ?_
  refine r_iconst (x := 1) d_X12_reduces_25 ⟨by decide, by decide⟩ ?_
  refine r_iload_n (x := x2) d_X12_reduces_26 rfl ?_
  refine x_callVI (Y2 := mX12_key) (c := t) (As := [(0, 1), (0, x2)]) (S := [(0, x4)]) d_X12_reduces_27 ok_mX12_key ml_X12_117 rfl (Nat.le_of_ble_eq_true rfl) (Nat.le_of_ble_eq_true rfl) rfl hd_1 kX12 o_t (c_X12_key (v_X12_key_0 o_t f_t_pool ?_))
  refine ⟨h.1, ?_⟩
  have h := h.2
  show WP l mX12_reduces (rm d 0 0) noX _ 0 0 30 [(2, t), (0, x1), (0, x2), (0, x3), (0, x4)] [(0, (σ t_pool (addI (addI (mulI 161 1) 1) (mulI 2 x2)))), (0, x4)] N Λ σ
  refine x_callSI (Y2 := mX12_degreeOf) (As := [(0, (σ t_pool (addI (addI (mulI 161 1) 1) (mulI 2 x2))))]) (S := [(0, x4)]) d_X12_reduces_30 ok_mX12_degreeOf ml_X12_138 rfl (Nat.le_of_ble_eq_true rfl) (Nat.le_of_ble_eq_true rfl) rfl hd_1 (CI.mono h (fun v2 σ1 h => ?_))
  refine r_ic_ge (tgt := 70) d_X12_reduces_33 rfl (fun hc => ?_) (fun hc => ?_)
  · have h := h.1 hc
    refine r_iload_n (x := x3) d_X12_reduces_70 rfl ?_
    refine r_if_eq (tgt := 93) d_X12_reduces_71 rfl (fun hc => ?_) (fun hc => ?_)
    · have h := h.1 hc
      refine x_iinc (x := x2) (L := [(2, t), (0, x1), (0, x2), (0, x3), (0, x4)]) d_X12_reduces_93 rfl (by decide) rfl (fun y3 ey3 => ?_)
      have h := h y3 ey3
      show WP _ _ _ _ _ _ _ _ [(2, t), (0, x1), (0, y3), (0, x3), (0, x4)] _ _ _ _
      refine r_goto (tgt := 8) d_X12_reduces_96 rfl ?_
      exact x_mask h ⟨Or.inr rfl, Or.inr rfl, Or.inr rfl, Or.inl rfl, Or.inl rfl, trivial⟩
    · have h := h.2 hc
      refine r_aload_n (x := t) d_X12_reduces_74 rfl o_t.1 ?_
      refine r_iconst (x := 0) d_X12_reduces_75 ⟨by decide, by decide⟩ ?_
      refine r_aload_n (x := t) d_X12_reduces_76 rfl o_t.1 ?_
      refine r_iconst (x := 1) d_X12_reduces_77 ⟨by decide, by decide⟩ ?_
      refine r_iload_n (x := x2) d_X12_reduces_78 rfl ?_
      refine x_callVI (Y2 := mX12_key) (c := t) (As := [(0, 1), (0, x2)]) (S := [(0, 0), (2, t)]) d_X12_reduces_79 ok_mX12_key ml_X12_117 rfl (Nat.le_of_ble_eq_true rfl) (Nat.le_of_ble_eq_true rfl) rfl hd_1 kX12 o_t (c_X12_key (v_X12_key_0 o_t f_t_pool ?_))
      refine ⟨h.1, ?_⟩
      have h := h.2
      show WP l mX12_reduces (rm d 0 0) noX _ 0 0 82 [(2, t), (0, x1), (0, x2), (0, x3), (0, x4)] [(0, (σ1 t_pool (addI (addI (mulI 161 1) 1) (mulI 2 x2)))), (0, 0), (2, t)] N Λ σ1
      refine r_aload_n (x := t) d_X12_reduces_82 rfl o_t.1 ?_
      refine r_iconst (x := 1) d_X12_reduces_83 ⟨by decide, by decide⟩ ?_
      refine r_iload_n (x := x2) d_X12_reduces_84 rfl ?_
      refine x_callVI (Y2 := mX12_number) (c := t) (As := [(0, 1), (0, x2)]) (S := [(0, (σ1 t_pool (addI (addI (mulI 161 1) 1) (mulI 2 x2)))), (0, 0), (2, t)]) d_X12_reduces_85 ok_mX12_number ml_X12_132 rfl (Nat.le_of_ble_eq_true rfl) (Nat.le_of_ble_eq_true rfl) rfl hd_1 kX12 o_t (c_X12_number (v_X12_number_0 o_t f_t_pool ?_))
      refine ⟨h.1, ?_⟩
      have h := h.2
      show WP l mX12_reduces (rm d 0 0) noX _ 0 0 88 [(2, t), (0, x1), (0, x2), (0, x3), (0, x4)] [(0, (σ1 t_pool (addI (addI (mulI 161 1) 2) (mulI 2 x2)))), (0, (σ1 t_pool (addI (addI (mulI 161 1) 1) (mulI 2 x2)))), (0, 0), (2, t)] N Λ σ1
      refine r_i2l d_X12_reduces_88 ?_
      refine x_callVI (Y2 := mX12_puts) (c := t) (As := [(0, 0), (0, (σ1 t_pool (addI (addI (mulI 161 1) 1) (mulI 2 x2)))), (1, (σ1 t_pool (addI (addI (mulI 161 1) 2) (mulI 2 x2))))]) (S := []) d_X12_reduces_89 ok_mX12_puts ml_X12_147 rfl (Nat.le_of_ble_eq_true rfl) (Nat.le_of_ble_eq_true rfl) rfl hd_1 kX12 o_t (CI.mono h (fun v5 σ4 h => ?_))
      refine r_pop d_X12_reduces_92 rfl ?_
      refine x_iinc (x := x2) (L := [(2, t), (0, x1), (0, x2), (0, x3), (0, x4)]) d_X12_reduces_93 rfl (by decide) rfl (fun y6 ey6 => ?_)
      have h := h y6 ey6
      show WP _ _ _ _ _ _ _ _ [(2, t), (0, x1), (0, y6), (0, x3), (0, x4)] _ _ _ _
      refine r_goto (tgt := 8) d_X12_reduces_96 rfl ?_
      exact x_mask h ⟨Or.inr rfl, Or.inr rfl, Or.inr rfl, Or.inl rfl, Or.inl rfl, trivial⟩
  · have h := h.2 hc
    refine r_iload_n (x := x3) d_X12_reduces_36 rfl ?_
    refine r_if_eq (tgt := 62) d_X12_reduces_37 rfl (fun hc => ?_) (fun hc => ?_)
    · have h := h.1 hc
      refine r_iconst (x := 0) d_X12_reduces_62 ⟨by decide, by decide⟩ ?_
      refine r_istore_n (L2 := [(2, t), (0, x1), (0, x2), (0, 0), (0, x4)]) d_X12_reduces_63 (by decide) rfl rfl ?_
      refine x_iinc (x := x4) (L := [(2, t), (0, x1), (0, x2), (0, 0), (0, x4)]) d_X12_reduces_64 rfl (by decide) rfl (fun y7 ey7 => ?_)
      have h := h y7 ey7
      show WP _ _ _ _ _ _ _ _ [(2, t), (0, x1), (0, x2), (0, 0), (0, y7)] _ _ _ _
      refine r_goto (tgt := 22) d_X12_reduces_67 rfl ?_
      exact h
    · have h := h.2 hc
      refine r_aload_n (x := t) d_X12_reduces_40 rfl o_t.1 ?_
      refine r_aload_n (x := t) d_X12_reduces_41 rfl o_t.1 ?_
      refine r_iconst (x := 1) d_X12_reduces_42 ⟨by decide, by decide⟩ ?_
      refine r_iload_n (x := x2) d_X12_reduces_43 rfl ?_
      refine x_callVI (Y2 := mX12_key) (c := t) (As := [(0, 1), (0, x2)]) (S := [(2, t)]) d_X12_reduces_44 ok_mX12_key ml_X12_117 rfl (Nat.le_of_ble_eq_true rfl) (Nat.le_of_ble_eq_true rfl) rfl hd_1 kX12 o_t (c_X12_key (v_X12_key_0 o_t f_t_pool ?_))
      refine ⟨h.1, ?_⟩
      have h := h.2
      show WP l mX12_reduces (rm d 0 0) noX _ 0 0 47 [(2, t), (0, x1), (0, x2), (0, x3), (0, x4)] [(0, (σ1 t_pool (addI (addI (mulI 161 1) 1) (mulI 2 x2)))), (2, t)] N Λ σ1
      refine r_iload (x := x4) d_X12_reduces_47 rfl ?_
      refine x_callSI (Y2 := mX12_rankIn) (As := [(0, (σ1 t_pool (addI (addI (mulI 161 1) 1) (mulI 2 x2)))), (0, x4)]) (S := [(2, t)]) d_X12_reduces_49 ok_mX12_rankIn ml_X12_135 rfl (Nat.le_of_ble_eq_true rfl) (Nat.le_of_ble_eq_true rfl) rfl hd_1 (CI.mono h (fun v9 σ8 h => ?_))
      refine x_callVI (Y2 := mX12_factOf) (c := t) (As := [(0, v9)]) (S := []) d_X12_reduces_52 ok_mX12_factOf ml_X12_244 rfl (Nat.le_of_ble_eq_true rfl) (Nat.le_of_ble_eq_true rfl) rfl hd_1 kX12 o_t (c_X12_factOf (v_X12_factOf_0 o_t f_t_state ?_))
      refine ⟨h.1, ?_⟩
      have h := h.2
      show WP l mX12_reduces (rm d 0 0) noX _ 0 0 55 [(2, t), (0, x1), (0, x2), (0, x3), (0, x4)] [(0, (σ8 t_state (subI (addI 996 v9) 1)))] N Λ σ8
      refine r_if_eq (tgt := 62) d_X12_reduces_55 rfl (fun hc => ?_) (fun hc => ?_)
      · have h := h.1 hc
        refine r_iconst (x := 0) d_X12_reduces_62 ⟨by decide, by decide⟩ ?_
        refine r_istore_n (L2 := [(2, t), (0, x1), (0, x2), (0, 0), (0, x4)]) d_X12_reduces_63 (by decide) rfl rfl ?_
        refine x_iinc (x := x4) (L := [(2, t), (0, x1), (0, x2), (0, 0), (0, x4)]) d_X12_reduces_64 rfl (by decide) rfl (fun y10 ey10 => ?_)
        have h := h y10 ey10
        show WP _ _ _ _ _ _ _ _ [(2, t), (0, x1), (0, x2), (0, 0), (0, y10)] _ _ _ _
        refine r_goto (tgt := 22) d_X12_reduces_67 rfl ?_
        exact h
      · have h := h.2 hc
        refine r_iconst (x := 1) d_X12_reduces_58 ⟨by decide, by decide⟩ ?_
        refine r_goto (tgt := 63) d_X12_reduces_59 rfl ?_
        refine r_istore_n (L2 := [(2, t), (0, x1), (0, x2), (0, 1), (0, x4)]) d_X12_reduces_63 (by decide) rfl rfl ?_
        refine x_iinc (x := x4) (L := [(2, t), (0, x1), (0, x2), (0, 1), (0, x4)]) d_X12_reduces_64 rfl (by decide) rfl (fun y11 ey11 => ?_)
        have h := h y11 ey11
        show WP _ _ _ _ _ _ _ _ [(2, t), (0, x1), (0, x2), (0, 1), (0, y11)] _ _ _ _
        refine r_goto (tgt := 22) d_X12_reduces_67 rfl ?_
        exact h
theorem v_X12_reduce_0 {l : Launch} {d N : Nat} {Λ : Lay} {P : Int → Mem → Prop} {σ : Mem} {x1 x2 t t_deeds t_pool t_state : Int} (o_t : Ob N Λ t 21 36) (f_t_pool : (Λ t).2.2 7 = t_pool) (f_t_state : (Λ t).2.2 3 = t_state) (f_t_deeds : (Λ t).2.2 4 = t_deeds) (h0d : 3 ≤ d)
    (h : (∀ τ1, τ1 = st σ t 0 0 → (((cmpL x1 0) < 0 → P (-2) τ1) ∧ (¬ ((cmpL x1 0) < 0) → ((0 < (cmpL x1 5) → P (-2) τ1) ∧ (¬ (0 < (cmpL x1 5)) → (((cmpL x2 0) < 0 → P (-2) τ1) ∧ (¬ ((cmpL x2 0) < 0) → ((0 < (cmpL x2 5) → P (-2) τ1) ∧ (¬ (0 < (cmpL x2 5)) → (∀ τ2, τ2 = st τ1 t 8 0 → (Ix N Λ t_pool 0 (mulI 161 0) ∧ (∀ τ3, τ3 = st τ2 t_pool (mulI 161 0) 0 → (CV l mX12_reduces (d - 1) [(2, t), (0, x2)] N Λ τ3 (fun σ4 => ((¬ (σ4 t 5) = 10 → (CV l mX12_copies (d - 1 - 1 - 1) [(2, t_state), (0, 0), (2, t_deeds), (0, (mulI 1116 (σ4 t 5))), (0, 1116)] N Λ σ4 (fun σ5 => (∀ τ6, τ6 = st σ5 t 5 (addI (σ5 t 5) 1) → (CV l mX12_copies (d - 1 - 1) [(2, t_pool), (0, 0), (2, t_state), (0, (mulI 161 x1)), (0, 161)] N Λ τ6 (fun σ7 => (Ix N Λ t_pool 0 (mulI 161 0) ∧ P (σ7 t_pool (mulI 161 0)) σ7))))))) ∧ ((σ4 t 5) = 10 → (CV l mX12_copies (d - 1 - 1 - 1) [(2, t_deeds), (0, 1116), (2, t_deeds), (0, 0), (0, 10044)] N Λ σ4 (fun σ8 => (∀ τ9, τ9 = st σ8 t 5 (subI (σ8 t 5) 1) → (CV l mX12_copies (d - 1 - 1 - 1) [(2, t_state), (0, 0), (2, t_deeds), (0, (mulI 1116 (τ9 t 5))), (0, 1116)] N Λ τ9 (fun σ10 => (∀ τ11, τ11 = st σ10 t 5 (addI (σ10 t 5) 1) → (CV l mX12_copies (d - 1 - 1) [(2, t_pool), (0, 0), (2, t_state), (0, (mulI 161 x1)), (0, 161)] N Λ τ11 (fun σ12 => (Ix N Λ t_pool 0 (mulI 161 0) ∧ P (σ12 t_pool (mulI 161 0)) σ12)))))))))))))))))))))))))) :
    WI l mX12_reduce d P 0 [(2, t), (0, x1), (0, x2)] [] N Λ σ := by
  have hd_1 : 1 ≤ d := Nat.le_trans (by decide) h0d
  have he_1 : 1 ≤ d - 1 := Nat.le_sub_of_add_le (Nat.le_trans (by decide) h0d)
  have he_2 : 2 ≤ d - 1 := Nat.le_sub_of_add_le (Nat.le_trans (by decide) h0d)
  refine r_aload_n (x := t) d_X12_reduce_0 rfl o_t.1 ?_
  refine r_iconst (x := 0) d_X12_reduce_1 ⟨by decide, by decide⟩ ?_
  refine r_putI (j := 0) d_X12_reduce_2 kX12 (by decide) fl_X12_1 rfl o_t.1 o_t.2.1 o_t.2.2.1 o_t.2.2.2 rfl ?_
  refine r_nmM (fun τ1 eτ1 => ?_)
  have h := h τ1 eτ1
  refine r_iload_n (x := x1) d_X12_reduce_5 rfl ?_
  refine x_callSI (Y2 := mX12_isShelf) (As := [(0, x1)]) (S := []) d_X12_reduce_6 ok_mX12_isShelf ml_X12_199 rfl (Nat.le_of_ble_eq_true rfl) (Nat.le_of_ble_eq_true rfl) rfl hd_1 (c_X12_isShelf (v_X12_isShelf_0 he_1 ?_))
  refine ⟨fun hc => ?_, fun hc => ?_⟩
  · have h := h.1 hc
    show WP l mX12_reduce (rm d 0 0) noX _ 0 0 9 [(2, t), (0, x1), (0, x2)] [(0, 0)] N Λ τ1
    refine r_if_eq (tgt := 19) d_X12_reduce_9 rfl (fun _ => ?_) (fun hc => absurd hc (by decide))
    refine r_bipush (x := (-2)) d_X12_reduce_19 ⟨by decide, by decide⟩ (by decide) ?_
    exact r_iret d_X12_reduce_21 rfl rfl (Nat.le_refl 0) (Nat.le_refl 0) ⟨_, rfl, rfl, rfl, h⟩
  · have h := h.2 hc
    refine ⟨fun hc => ?_, fun hc => ?_⟩
    · have h := h.1 hc
      show WP l mX12_reduce (rm d 0 0) noX _ 0 0 9 [(2, t), (0, x1), (0, x2)] [(0, 0)] N Λ τ1
      refine r_if_eq (tgt := 19) d_X12_reduce_9 rfl (fun _ => ?_) (fun hc => absurd hc (by decide))
      refine r_bipush (x := (-2)) d_X12_reduce_19 ⟨by decide, by decide⟩ (by decide) ?_
      exact r_iret d_X12_reduce_21 rfl rfl (Nat.le_refl 0) (Nat.le_refl 0) ⟨_, rfl, rfl, rfl, h⟩
    · have h := h.2 hc
      show WP l mX12_reduce (rm d 0 0) noX _ 0 0 9 [(2, t), (0, x1), (0, x2)] [(0, 1)] N Λ τ1
      refine r_if_eq (tgt := 19) d_X12_reduce_9 rfl (fun hc => absurd hc (by decide)) (fun _ => ?_)
      refine r_iload_n (x := x2) d_X12_reduce_12 rfl ?_
      refine x_callSI (Y2 := mX12_isShelf) (As := [(0, x2)]) (S := []) d_X12_reduce_13 ok_mX12_isShelf ml_X12_199 rfl (Nat.le_of_ble_eq_true rfl) (Nat.le_of_ble_eq_true rfl) rfl hd_1 (c_X12_isShelf (v_X12_isShelf_0 he_1 ?_))
      refine ⟨fun hc => ?_, fun hc => ?_⟩
      · have h := h.1 hc
        show WP l mX12_reduce (rm d 0 0) noX _ 0 0 16 [(2, t), (0, x1), (0, x2)] [(0, 0)] N Λ τ1
        refine r_if_ne (tgt := 22) d_X12_reduce_16 rfl (fun hc => absurd hc (by decide)) (fun _ => ?_)
        refine r_bipush (x := (-2)) d_X12_reduce_19 ⟨by decide, by decide⟩ (by decide) ?_
        exact r_iret d_X12_reduce_21 rfl rfl (Nat.le_refl 0) (Nat.le_refl 0) ⟨_, rfl, rfl, rfl, h⟩
      · have h := h.2 hc
        refine ⟨fun hc => ?_, fun hc => ?_⟩
        · have h := h.1 hc
          show WP l mX12_reduce (rm d 0 0) noX _ 0 0 16 [(2, t), (0, x1), (0, x2)] [(0, 0)] N Λ τ1
          refine r_if_ne (tgt := 22) d_X12_reduce_16 rfl (fun hc => absurd hc (by decide)) (fun _ => ?_)
          refine r_bipush (x := (-2)) d_X12_reduce_19 ⟨by decide, by decide⟩ (by decide) ?_
          exact r_iret d_X12_reduce_21 rfl rfl (Nat.le_refl 0) (Nat.le_refl 0) ⟨_, rfl, rfl, rfl, h⟩
        · have h := h.2 hc
          show WP l mX12_reduce (rm d 0 0) noX _ 0 0 16 [(2, t), (0, x1), (0, x2)] [(0, 1)] N Λ τ1
          refine r_if_ne (tgt := 22) d_X12_reduce_16 rfl (fun _ => ?_) (fun hc => absurd hc (by decide))
          refine r_aload_n (x := t) d_X12_reduce_22 rfl o_t.1 ?_
          refine x_callVV (Y2 := mX12_begins) (c := t) (As := []) (S := []) d_X12_reduce_23 ok_mX12_begins ml_X12_202 rfl (Nat.le_of_ble_eq_true rfl) (Nat.le_of_ble_eq_true rfl) rfl hd_1 kX12 o_t (c_X12_begins (v_X12_begins_0 o_t f_t_pool he_1 ?_))
          intro τ2 eτ2
          have h := h τ2 eτ2
          refine ⟨h.1, ?_⟩
          have h := h.2
          intro τ3 eτ3
          have h := h τ3 eτ3
          show WP l mX12_reduce (rm d 0 0) noX _ 0 0 26 [(2, t), (0, x1), (0, x2)] [] N Λ τ3
          refine r_aload_n (x := t) d_X12_reduce_26 rfl o_t.1 ?_
          refine r_iload_n (x := x2) d_X12_reduce_27 rfl ?_
          refine x_callVV (Y2 := mX12_reduces) (c := t) (As := [(0, x2)]) (S := []) d_X12_reduce_28 ok_mX12_reduces ml_X12_247 rfl (Nat.le_of_ble_eq_true rfl) (Nat.le_of_ble_eq_true rfl) rfl hd_1 kX12 o_t (CV.mono h (fun σ4 h => ?_))
          refine r_aload_n (x := t) d_X12_reduce_31 rfl o_t.1 ?_
          refine r_iload_n (x := x1) d_X12_reduce_32 rfl ?_
          refine x_callVI (Y2 := mX12_becomes) (c := t) (As := [(0, x1)]) (S := []) d_X12_reduce_33 ok_mX12_becomes ml_X12_190 rfl (Nat.le_of_ble_eq_true rfl) (Nat.le_of_ble_eq_true rfl) rfl hd_1 kX12 o_t (c_X12_becomes (v_X12_becomes_0 o_t f_t_state f_t_deeds f_t_pool he_2 ?_))
          refine ⟨fun hc => ?_, fun hc => ?_⟩
          · have h := h.1 hc
            refine CV.mono h (fun σ5 h => ?_)
            intro τ6 eτ6
            have h := h τ6 eτ6
            refine CV.mono h (fun σ7 h => ?_)
            refine ⟨h.1, ?_⟩
            have h := h.2
            show WP l mX12_reduce (rm d 0 0) noX _ 0 0 36 [(2, t), (0, x1), (0, x2)] [(0, (σ7 t_pool (mulI 161 0)))] N Λ σ7
            exact r_iret d_X12_reduce_36 rfl rfl (Nat.le_refl 0) (Nat.le_refl 0) ⟨_, rfl, rfl, rfl, h⟩
          · have h := h.2 hc
            refine CV.mono h (fun σ8 h => ?_)
            intro τ9 eτ9
            have h := h τ9 eτ9
            refine CV.mono h (fun σ10 h => ?_)
            intro τ11 eτ11
            have h := h τ11 eτ11
            refine CV.mono h (fun σ12 h => ?_)
            refine ⟨h.1, ?_⟩
            have h := h.2
            show WP l mX12_reduce (rm d 0 0) noX _ 0 0 36 [(2, t), (0, x1), (0, x2)] [(0, (σ12 t_pool (mulI 161 0)))] N Λ σ12
            exact r_iret d_X12_reduce_36 rfl rfl (Nat.le_refl 0) (Nat.le_refl 0) ⟨_, rfl, rfl, rfl, h⟩
theorem v_X12_fact_0 {l : Launch} {d N : Nat} {Λ : Lay} {P : Int → Mem → Prop} {σ : Mem} {x1 x2 x3 x4 t t_deeds t_rankOf t_state : Int} (o_t : Ob N Λ t 21 36) (f_t_rankOf : (Λ t).2.2 1 = t_rankOf) (f_t_state : (Λ t).2.2 3 = t_state) (f_t_deeds : (Λ t).2.2 4 = t_deeds) (h0d : 2 ≤ d)
    (h : (∀ τ1, τ1 = st σ t 0 0 → (((cmpL x1 0) < 0 → P (-2) τ1) ∧ (¬ ((cmpL x1 0) < 0) → ((0 < (cmpL x1 9) → P (-2) τ1) ∧ (¬ (0 < (cmpL x1 9)) → (((cmpL x2 0) < 0 → P (-2) τ1) ∧ (¬ ((cmpL x2 0) < 0) → ((0 < (cmpL x2 9) → P (-2) τ1) ∧ (¬ (0 < (cmpL x2 9)) → (((cmpL x3 0) < 0 → P (-2) τ1) ∧ (¬ ((cmpL x3 0) < 0) → ((0 < (cmpL x3 9) → P (-2) τ1) ∧ (¬ (0 < (cmpL x3 9)) → (Ix N Λ t_rankOf 0 (addI (addI (mulI 100 x1) (mulI 10 x2)) x3) ∧ ((0 ≤ (τ1 t_rankOf (addI (addI (mulI 100 x1) (mulI 10 x2)) x3)) → (∀ y2, y2 = (τ1 t_rankOf (addI (addI (mulI 100 x1) (mulI 10 x2)) x3)) → (((cmpL x4 0) < 0 → P (-3) τ1) ∧ (¬ ((cmpL x4 0) < 0) → ((0 < (cmpL x4 2) → P (-3) τ1) ∧ (¬ (0 < (cmpL x4 2)) → ((¬ y2 = 0 → ((¬ (τ1 t 5) = 10 → (CV l mX12_copies (d - 1 - 1) [(2, t_state), (0, 0), (2, t_deeds), (0, (mulI 1116 (τ1 t 5))), (0, 1116)] N Λ τ1 (fun σ3 => (∀ τ4, τ4 = st σ3 t 5 (addI (σ3 t 5) 1) → (Ix N Λ t_state 0 (subI (addI 996 y2) 1) ∧ (∀ y5, y5 = (τ4 t_state (subI (addI 996 y2) 1)) → (Ix N Λ t_state 0 (subI (addI 996 y2) 1) ∧ (∀ τ6, τ6 = st τ4 t_state (subI (addI 996 y2) 1) x4 → P y5 τ6)))))))) ∧ ((τ1 t 5) = 10 → (CV l mX12_copies (d - 1 - 1) [(2, t_deeds), (0, 1116), (2, t_deeds), (0, 0), (0, 10044)] N Λ τ1 (fun σ7 => (∀ τ8, τ8 = st σ7 t 5 (subI (σ7 t 5) 1) → (CV l mX12_copies (d - 1 - 1) [(2, t_state), (0, 0), (2, t_deeds), (0, (mulI 1116 (τ8 t 5))), (0, 1116)] N Λ τ8 (fun σ9 => (∀ τ10, τ10 = st σ9 t 5 (addI (σ9 t 5) 1) → (Ix N Λ t_state 0 (subI (addI 996 y2) 1) ∧ (∀ y11, y11 = (τ10 t_state (subI (addI 996 y2) 1)) → (Ix N Λ t_state 0 (subI (addI 996 y2) 1) ∧ (∀ τ12, τ12 = st τ10 t_state (subI (addI 996 y2) 1) x4 → P y11 τ12))))))))))))) ∧ (y2 = 0 → P (-3) τ1)))))))) ∧ (¬ (0 ≤ (τ1 t_rankOf (addI (addI (mulI 100 x1) (mulI 10 x2)) x3))) → (∀ y13, y13 = (negI (τ1 t_rankOf (addI (addI (mulI 100 x1) (mulI 10 x2)) x3))) → (((cmpL x4 0) < 0 → P (-3) τ1) ∧ (¬ ((cmpL x4 0) < 0) → ((0 < (cmpL x4 2) → P (-3) τ1) ∧ (¬ (0 < (cmpL x4 2)) → ((¬ y13 = 0 → ((¬ (τ1 t 5) = 10 → (CV l mX12_copies (d - 1 - 1) [(2, t_state), (0, 0), (2, t_deeds), (0, (mulI 1116 (τ1 t 5))), (0, 1116)] N Λ τ1 (fun σ14 => (∀ τ15, τ15 = st σ14 t 5 (addI (σ14 t 5) 1) → (Ix N Λ t_state 0 (subI (addI 996 y13) 1) ∧ (∀ y16, y16 = (τ15 t_state (subI (addI 996 y13) 1)) → (Ix N Λ t_state 0 (subI (addI 996 y13) 1) ∧ (∀ τ17, τ17 = st τ15 t_state (subI (addI 996 y13) 1) x4 → P y16 τ17)))))))) ∧ ((τ1 t 5) = 10 → (CV l mX12_copies (d - 1 - 1) [(2, t_deeds), (0, 1116), (2, t_deeds), (0, 0), (0, 10044)] N Λ τ1 (fun σ18 => (∀ τ19, τ19 = st σ18 t 5 (subI (σ18 t 5) 1) → (CV l mX12_copies (d - 1 - 1) [(2, t_state), (0, 0), (2, t_deeds), (0, (mulI 1116 (τ19 t 5))), (0, 1116)] N Λ τ19 (fun σ20 => (∀ τ21, τ21 = st σ20 t 5 (addI (σ20 t 5) 1) → (Ix N Λ t_state 0 (subI (addI 996 y13) 1) ∧ (∀ y22, y22 = (τ21 t_state (subI (addI 996 y13) 1)) → (Ix N Λ t_state 0 (subI (addI 996 y13) 1) ∧ (∀ τ23, τ23 = st τ21 t_state (subI (addI 996 y13) 1) x4 → P y22 τ23))))))))))))) ∧ (y13 = 0 → P (-3) τ1)))))))))))))))))))))))) :
    WI l mX12_fact d P 0 [(2, t), (0, x1), (0, x2), (0, x3), (0, x4), (3, 0), (3, 0)] [] N Λ σ := by
  have hd_1 : 1 ≤ d := Nat.le_trans (by decide) h0d
  have he_1 : 1 ≤ d - 1 := Nat.le_sub_of_add_le (Nat.le_trans (by decide) h0d)
  refine r_aload_n (x := t) d_X12_fact_0 rfl o_t.1 ?_
  refine r_iconst (x := 0) d_X12_fact_1 ⟨by decide, by decide⟩ ?_
  refine r_putI (j := 0) d_X12_fact_2 kX12 (by decide) fl_X12_1 rfl o_t.1 o_t.2.1 o_t.2.2.1 o_t.2.2.2 rfl ?_
  refine r_nmM (fun τ1 eτ1 => ?_)
  have h := h τ1 eτ1
  refine r_iload_n (x := x1) d_X12_fact_5 rfl ?_
  refine x_callSI (Y2 := mX12_isLetter) (As := [(0, x1)]) (S := []) d_X12_fact_6 ok_mX12_isLetter ml_X12_208 rfl (Nat.le_of_ble_eq_true rfl) (Nat.le_of_ble_eq_true rfl) rfl hd_1 (c_X12_isLetter (v_X12_isLetter_0 he_1 ?_))
  refine ⟨fun hc => ?_, fun hc => ?_⟩
  · have h := h.1 hc
    show WP l mX12_fact (rm d 0 0) noX _ 0 0 9 [(2, t), (0, x1), (0, x2), (0, x3), (0, x4), (3, 0), (3, 0)] [(0, 0)] N Λ τ1
    refine r_if_eq (tgt := 26) d_X12_fact_9 rfl (fun _ => ?_) (fun hc => absurd hc (by decide))
    refine r_bipush (x := (-2)) d_X12_fact_26 ⟨by decide, by decide⟩ (by decide) ?_
    exact r_iret d_X12_fact_28 rfl rfl (Nat.le_refl 0) (Nat.le_refl 0) ⟨_, rfl, rfl, rfl, h⟩
  · have h := h.2 hc
    refine ⟨fun hc => ?_, fun hc => ?_⟩
    · have h := h.1 hc
      show WP l mX12_fact (rm d 0 0) noX _ 0 0 9 [(2, t), (0, x1), (0, x2), (0, x3), (0, x4), (3, 0), (3, 0)] [(0, 0)] N Λ τ1
      refine r_if_eq (tgt := 26) d_X12_fact_9 rfl (fun _ => ?_) (fun hc => absurd hc (by decide))
      refine r_bipush (x := (-2)) d_X12_fact_26 ⟨by decide, by decide⟩ (by decide) ?_
      exact r_iret d_X12_fact_28 rfl rfl (Nat.le_refl 0) (Nat.le_refl 0) ⟨_, rfl, rfl, rfl, h⟩
    · have h := h.2 hc
      show WP l mX12_fact (rm d 0 0) noX _ 0 0 9 [(2, t), (0, x1), (0, x2), (0, x3), (0, x4), (3, 0), (3, 0)] [(0, 1)] N Λ τ1
      refine r_if_eq (tgt := 26) d_X12_fact_9 rfl (fun hc => absurd hc (by decide)) (fun _ => ?_)
      refine r_iload_n (x := x2) d_X12_fact_12 rfl ?_
      refine x_callSI (Y2 := mX12_isLetter) (As := [(0, x2)]) (S := []) d_X12_fact_13 ok_mX12_isLetter ml_X12_208 rfl (Nat.le_of_ble_eq_true rfl) (Nat.le_of_ble_eq_true rfl) rfl hd_1 (c_X12_isLetter (v_X12_isLetter_0 he_1 ?_))
      refine ⟨fun hc => ?_, fun hc => ?_⟩
      · have h := h.1 hc
        show WP l mX12_fact (rm d 0 0) noX _ 0 0 16 [(2, t), (0, x1), (0, x2), (0, x3), (0, x4), (3, 0), (3, 0)] [(0, 0)] N Λ τ1
        refine r_if_eq (tgt := 26) d_X12_fact_16 rfl (fun _ => ?_) (fun hc => absurd hc (by decide))
        refine r_bipush (x := (-2)) d_X12_fact_26 ⟨by decide, by decide⟩ (by decide) ?_
        exact r_iret d_X12_fact_28 rfl rfl (Nat.le_refl 0) (Nat.le_refl 0) ⟨_, rfl, rfl, rfl, h⟩
      · have h := h.2 hc
        refine ⟨fun hc => ?_, fun hc => ?_⟩
        · have h := h.1 hc
          show WP l mX12_fact (rm d 0 0) noX _ 0 0 16 [(2, t), (0, x1), (0, x2), (0, x3), (0, x4), (3, 0), (3, 0)] [(0, 0)] N Λ τ1
          refine r_if_eq (tgt := 26) d_X12_fact_16 rfl (fun _ => ?_) (fun hc => absurd hc (by decide))
          refine r_bipush (x := (-2)) d_X12_fact_26 ⟨by decide, by decide⟩ (by decide) ?_
          exact r_iret d_X12_fact_28 rfl rfl (Nat.le_refl 0) (Nat.le_refl 0) ⟨_, rfl, rfl, rfl, h⟩
        · have h := h.2 hc
          show WP l mX12_fact (rm d 0 0) noX _ 0 0 16 [(2, t), (0, x1), (0, x2), (0, x3), (0, x4), (3, 0), (3, 0)] [(0, 1)] N Λ τ1
          refine r_if_eq (tgt := 26) d_X12_fact_16 rfl (fun hc => absurd hc (by decide)) (fun _ => ?_)
          refine r_iload_n (x := x3) d_X12_fact_19 rfl ?_
          refine x_callSI (Y2 := mX12_isLetter) (As := [(0, x3)]) (S := []) d_X12_fact_20 ok_mX12_isLetter ml_X12_208 rfl (Nat.le_of_ble_eq_true rfl) (Nat.le_of_ble_eq_true rfl) rfl hd_1 (c_X12_isLetter (v_X12_isLetter_0 he_1 ?_))
          refine ⟨fun hc => ?_, fun hc => ?_⟩
          · have h := h.1 hc
            show WP l mX12_fact (rm d 0 0) noX _ 0 0 23 [(2, t), (0, x1), (0, x2), (0, x3), (0, x4), (3, 0), (3, 0)] [(0, 0)] N Λ τ1
            refine r_if_ne (tgt := 29) d_X12_fact_23 rfl (fun hc => absurd hc (by decide)) (fun _ => ?_)
            refine r_bipush (x := (-2)) d_X12_fact_26 ⟨by decide, by decide⟩ (by decide) ?_
            exact r_iret d_X12_fact_28 rfl rfl (Nat.le_refl 0) (Nat.le_refl 0) ⟨_, rfl, rfl, rfl, h⟩
          · have h := h.2 hc
            refine ⟨fun hc => ?_, fun hc => ?_⟩
            · have h := h.1 hc
              show WP l mX12_fact (rm d 0 0) noX _ 0 0 23 [(2, t), (0, x1), (0, x2), (0, x3), (0, x4), (3, 0), (3, 0)] [(0, 0)] N Λ τ1
              refine r_if_ne (tgt := 29) d_X12_fact_23 rfl (fun hc => absurd hc (by decide)) (fun _ => ?_)
              refine r_bipush (x := (-2)) d_X12_fact_26 ⟨by decide, by decide⟩ (by decide) ?_
              exact r_iret d_X12_fact_28 rfl rfl (Nat.le_refl 0) (Nat.le_refl 0) ⟨_, rfl, rfl, rfl, h⟩
            · have h := h.2 hc
              show WP l mX12_fact (rm d 0 0) noX _ 0 0 23 [(2, t), (0, x1), (0, x2), (0, x3), (0, x4), (3, 0), (3, 0)] [(0, 1)] N Λ τ1
              refine r_if_ne (tgt := 29) d_X12_fact_23 rfl (fun _ => ?_) (fun hc => absurd hc (by decide))
              refine r_aload_n (x := t) d_X12_fact_29 rfl o_t.1 ?_
              refine r_getf (j := 1) (t := 2) (x := t_rankOf) d_X12_fact_30 kX12 (by decide) fl_X12_13 o_t.1 o_t.2.1 o_t.2.2.1 o_t.2.2.2 rfl f_t_rankOf ?_
              refine r_bipush (x := 100) d_X12_fact_33 ⟨by decide, by decide⟩ (by decide) ?_
              refine r_iload_n (x := x1) d_X12_fact_35 rfl ?_
              refine r_imul d_X12_fact_36 ?_
              refine r_bipush (x := 10) d_X12_fact_37 ⟨by decide, by decide⟩ (by decide) ?_
              refine r_iload_n (x := x2) d_X12_fact_39 rfl ?_
              refine r_imul d_X12_fact_40 ?_
              refine r_iadd d_X12_fact_41 ?_
              refine r_iload_n (x := x3) d_X12_fact_42 rfl ?_
              refine r_iadd d_X12_fact_43 ?_
              refine x_iald d_X12_fact_44 h.1 ?_
              have h := h.2
              refine x_callSI (Y2 := mX12_sizeOf) (As := [(0, (τ1 t_rankOf (addI (addI (mulI 100 x1) (mulI 10 x2)) x3)))]) (S := []) d_X12_fact_45 ok_mX12_sizeOf ml_X12_168 rfl (Nat.le_of_ble_eq_true rfl) (Nat.le_of_ble_eq_true rfl) rfl hd_1 (c_X12_sizeOf (v_X12_sizeOf_0 ?_))
              refine ⟨fun hc => ?_, fun hc => ?_⟩
              · have h := h.1 hc
                show WP l mX12_fact (rm d 0 0) noX _ 0 0 48 [(2, t), (0, x1), (0, x2), (0, x3), (0, x4), (3, 0), (3, 0)] [(0, (τ1 t_rankOf (addI (addI (mulI 100 x1) (mulI 10 x2)) x3)))] N Λ τ1
                refine r_nm (fun y2 ey2 => ?_)
                have h := h y2 ey2
                refine r_istore (L2 := [(2, t), (0, x1), (0, x2), (0, x3), (0, x4), (0, y2), (3, 0)]) d_X12_fact_48 (by decide) rfl rfl ?_
                refine r_iload (x := x4) d_X12_fact_50 rfl ?_
                refine r_i2l d_X12_fact_52 ?_
                refine r_lconst d_X12_fact_53 ?_
                skip
                refine r_ldc2 (x := 2) d_X12_fact_54 ck_X12_250 (by decide) ?_
                refine x_callSI (Y2 := mX12_within) (As := [(1, x4), (1, 0), (1, 2)]) (S := []) d_X12_fact_57 ok_mX12_within ml_X12_91 rfl (Nat.le_of_ble_eq_true rfl) (Nat.le_of_ble_eq_true rfl) rfl hd_1 (c_X12_within (v_X12_within_0 ?_))
                refine ⟨fun hc => ?_, fun hc => ?_⟩
                · have h := h.1 hc
                  show WP l mX12_fact (rm d 0 0) noX _ 0 0 60 [(2, t), (0, x1), (0, x2), (0, x3), (0, x4), (0, y2), (3, 0)] [(0, 0)] N Λ τ1
                  refine r_if_eq (tgt := 68) d_X12_fact_60 rfl (fun _ => ?_) (fun hc => absurd hc (by decide))
                  refine r_bipush (x := (-3)) d_X12_fact_68 ⟨by decide, by decide⟩ (by decide) ?_
                  exact r_iret d_X12_fact_70 rfl rfl (Nat.le_refl 0) (Nat.le_refl 0) ⟨_, rfl, rfl, rfl, h⟩
                · have h := h.2 hc
                  refine ⟨fun hc => ?_, fun hc => ?_⟩
                  · have h := h.1 hc
                    show WP l mX12_fact (rm d 0 0) noX _ 0 0 60 [(2, t), (0, x1), (0, x2), (0, x3), (0, x4), (0, y2), (3, 0)] [(0, 0)] N Λ τ1
                    refine r_if_eq (tgt := 68) d_X12_fact_60 rfl (fun _ => ?_) (fun hc => absurd hc (by decide))
                    refine r_bipush (x := (-3)) d_X12_fact_68 ⟨by decide, by decide⟩ (by decide) ?_
                    exact r_iret d_X12_fact_70 rfl rfl (Nat.le_refl 0) (Nat.le_refl 0) ⟨_, rfl, rfl, rfl, h⟩
                  · have h := h.2 hc
                    show WP l mX12_fact (rm d 0 0) noX _ 0 0 60 [(2, t), (0, x1), (0, x2), (0, x3), (0, x4), (0, y2), (3, 0)] [(0, 1)] N Λ τ1
                    refine r_if_eq (tgt := 68) d_X12_fact_60 rfl (fun hc => absurd hc (by decide)) (fun _ => ?_)
                    refine r_iload (x := y2) d_X12_fact_63 rfl ?_
                    refine r_if_ne (tgt := 71) d_X12_fact_65 rfl (fun hc => ?_) (fun hc => ?_)
                    · have h := h.1 hc
                      refine r_aload_n (x := t) d_X12_fact_71 rfl o_t.1 ?_
                      refine x_callVV (Y2 := mX12_notes) (c := t) (As := []) (S := []) d_X12_fact_72 ok_mX12_notes ml_X12_196 rfl (Nat.le_of_ble_eq_true rfl) (Nat.le_of_ble_eq_true rfl) rfl hd_1 kX12 o_t (c_X12_notes (v_X12_notes_0 o_t f_t_state f_t_deeds he_1 ?_))
                      refine ⟨fun hc => ?_, fun hc => ?_⟩
                      · have h := h.1 hc
                        refine CV.mono h (fun σ3 h => ?_)
                        intro τ4 eτ4
                        have h := h τ4 eτ4
                        show WP l mX12_fact (rm d 0 0) noX _ 0 0 75 [(2, t), (0, x1), (0, x2), (0, x3), (0, x4), (0, y2), (3, 0)] [] N Λ τ4
                        refine r_aload_n (x := t) d_X12_fact_75 rfl o_t.1 ?_
                        refine r_iload (x := y2) d_X12_fact_76 rfl ?_
                        refine x_callVI (Y2 := mX12_factOf) (c := t) (As := [(0, y2)]) (S := []) d_X12_fact_78 ok_mX12_factOf ml_X12_244 rfl (Nat.le_of_ble_eq_true rfl) (Nat.le_of_ble_eq_true rfl) rfl hd_1 kX12 o_t (c_X12_factOf (v_X12_factOf_0 o_t f_t_state ?_))
                        refine ⟨h.1, ?_⟩
                        have h := h.2
                        show WP l mX12_fact (rm d 0 0) noX _ 0 0 81 [(2, t), (0, x1), (0, x2), (0, x3), (0, x4), (0, y2), (3, 0)] [(0, (τ4 t_state (subI (addI 996 y2) 1)))] N Λ τ4
                        refine r_nm (fun y5 ey5 => ?_)
                        have h := h y5 ey5
                        refine r_istore (L2 := [(2, t), (0, x1), (0, x2), (0, x3), (0, x4), (0, y2), (0, y5)]) d_X12_fact_81 (by decide) rfl rfl ?_
                        refine r_aload_n (x := t) d_X12_fact_83 rfl o_t.1 ?_
                        refine r_getf (j := 3) (t := 2) (x := t_state) d_X12_fact_84 kX12 (by decide) fl_X12_20 o_t.1 o_t.2.1 o_t.2.2.1 o_t.2.2.2 rfl f_t_state ?_
                        refine r_sipush (x := 996) d_X12_fact_87 ⟨by decide, by decide⟩ (by decide) ?_
                        refine r_iload (x := y2) d_X12_fact_90 rfl ?_
                        refine r_iadd d_X12_fact_92 ?_
                        refine r_iconst (x := 1) d_X12_fact_93 ⟨by decide, by decide⟩ ?_
                        refine r_isub d_X12_fact_94 ?_
                        refine r_iload (x := x4) d_X12_fact_95 rfl ?_
                        refine x_iast d_X12_fact_97 h.1 ?_
                        have h := h.2
                        refine r_nmM (fun τ6 eτ6 => ?_)
                        have h := h τ6 eτ6
                        refine r_iload (x := y5) d_X12_fact_98 rfl ?_
                        exact r_iret d_X12_fact_100 rfl rfl (Nat.le_refl 0) (Nat.le_refl 0) ⟨_, rfl, rfl, rfl, h⟩
                      · have h := h.2 hc
                        refine CV.mono h (fun σ7 h => ?_)
                        intro τ8 eτ8
                        have h := h τ8 eτ8
                        refine CV.mono h (fun σ9 h => ?_)
                        intro τ10 eτ10
                        have h := h τ10 eτ10
                        show WP l mX12_fact (rm d 0 0) noX _ 0 0 75 [(2, t), (0, x1), (0, x2), (0, x3), (0, x4), (0, y2), (3, 0)] [] N Λ τ10
                        refine r_aload_n (x := t) d_X12_fact_75 rfl o_t.1 ?_
                        refine r_iload (x := y2) d_X12_fact_76 rfl ?_
                        refine x_callVI (Y2 := mX12_factOf) (c := t) (As := [(0, y2)]) (S := []) d_X12_fact_78 ok_mX12_factOf ml_X12_244 rfl (Nat.le_of_ble_eq_true rfl) (Nat.le_of_ble_eq_true rfl) rfl hd_1 kX12 o_t (c_X12_factOf (v_X12_factOf_0 o_t f_t_state ?_))
                        refine ⟨h.1, ?_⟩
                        have h := h.2
                        show WP l mX12_fact (rm d 0 0) noX _ 0 0 81 [(2, t), (0, x1), (0, x2), (0, x3), (0, x4), (0, y2), (3, 0)] [(0, (τ10 t_state (subI (addI 996 y2) 1)))] N Λ τ10
                        refine r_nm (fun y11 ey11 => ?_)
                        have h := h y11 ey11
                        refine r_istore (L2 := [(2, t), (0, x1), (0, x2), (0, x3), (0, x4), (0, y2), (0, y11)]) d_X12_fact_81 (by decide) rfl rfl ?_
                        refine r_aload_n (x := t) d_X12_fact_83 rfl o_t.1 ?_
                        refine r_getf (j := 3) (t := 2) (x := t_state) d_X12_fact_84 kX12 (by decide) fl_X12_20 o_t.1 o_t.2.1 o_t.2.2.1 o_t.2.2.2 rfl f_t_state ?_
                        refine r_sipush (x := 996) d_X12_fact_87 ⟨by decide, by decide⟩ (by decide) ?_
                        refine r_iload (x := y2) d_X12_fact_90 rfl ?_
                        refine r_iadd d_X12_fact_92 ?_
                        refine r_iconst (x := 1) d_X12_fact_93 ⟨by decide, by decide⟩ ?_
                        refine r_isub d_X12_fact_94 ?_
                        refine r_iload (x := x4) d_X12_fact_95 rfl ?_
                        refine x_iast d_X12_fact_97 h.1 ?_
                        have h := h.2
                        refine r_nmM (fun τ12 eτ12 => ?_)
                        have h := h τ12 eτ12
                        refine r_iload (x := y11) d_X12_fact_98 rfl ?_
                        exact r_iret d_X12_fact_100 rfl rfl (Nat.le_refl 0) (Nat.le_refl 0) ⟨_, rfl, rfl, rfl, h⟩
                    · have h := h.2 hc
                      refine r_bipush (x := (-3)) d_X12_fact_68 ⟨by decide, by decide⟩ (by decide) ?_
                      exact r_iret d_X12_fact_70 rfl rfl (Nat.le_refl 0) (Nat.le_refl 0) ⟨_, rfl, rfl, rfl, h⟩
              · have h := h.2 hc
                show WP l mX12_fact (rm d 0 0) noX _ 0 0 48 [(2, t), (0, x1), (0, x2), (0, x3), (0, x4), (3, 0), (3, 0)] [(0, (negI (τ1 t_rankOf (addI (addI (mulI 100 x1) (mulI 10 x2)) x3))))] N Λ τ1
                refine r_nm (fun y13 ey13 => ?_)
                have h := h y13 ey13
                refine r_istore (L2 := [(2, t), (0, x1), (0, x2), (0, x3), (0, x4), (0, y13), (3, 0)]) d_X12_fact_48 (by decide) rfl rfl ?_
                refine r_iload (x := x4) d_X12_fact_50 rfl ?_
                refine r_i2l d_X12_fact_52 ?_
                refine r_lconst d_X12_fact_53 ?_
                skip
                refine r_ldc2 (x := 2) d_X12_fact_54 ck_X12_250 (by decide) ?_
                refine x_callSI (Y2 := mX12_within) (As := [(1, x4), (1, 0), (1, 2)]) (S := []) d_X12_fact_57 ok_mX12_within ml_X12_91 rfl (Nat.le_of_ble_eq_true rfl) (Nat.le_of_ble_eq_true rfl) rfl hd_1 (c_X12_within (v_X12_within_0 ?_))
                refine ⟨fun hc => ?_, fun hc => ?_⟩
                · have h := h.1 hc
                  show WP l mX12_fact (rm d 0 0) noX _ 0 0 60 [(2, t), (0, x1), (0, x2), (0, x3), (0, x4), (0, y13), (3, 0)] [(0, 0)] N Λ τ1
                  refine r_if_eq (tgt := 68) d_X12_fact_60 rfl (fun _ => ?_) (fun hc => absurd hc (by decide))
                  refine r_bipush (x := (-3)) d_X12_fact_68 ⟨by decide, by decide⟩ (by decide) ?_
                  exact r_iret d_X12_fact_70 rfl rfl (Nat.le_refl 0) (Nat.le_refl 0) ⟨_, rfl, rfl, rfl, h⟩
                · have h := h.2 hc
                  refine ⟨fun hc => ?_, fun hc => ?_⟩
                  · have h := h.1 hc
                    show WP l mX12_fact (rm d 0 0) noX _ 0 0 60 [(2, t), (0, x1), (0, x2), (0, x3), (0, x4), (0, y13), (3, 0)] [(0, 0)] N Λ τ1
                    refine r_if_eq (tgt := 68) d_X12_fact_60 rfl (fun _ => ?_) (fun hc => absurd hc (by decide))
                    refine r_bipush (x := (-3)) d_X12_fact_68 ⟨by decide, by decide⟩ (by decide) ?_
                    exact r_iret d_X12_fact_70 rfl rfl (Nat.le_refl 0) (Nat.le_refl 0) ⟨_, rfl, rfl, rfl, h⟩
                  · have h := h.2 hc
                    show WP l mX12_fact (rm d 0 0) noX _ 0 0 60 [(2, t), (0, x1), (0, x2), (0, x3), (0, x4), (0, y13), (3, 0)] [(0, 1)] N Λ τ1
                    refine r_if_eq (tgt := 68) d_X12_fact_60 rfl (fun hc => absurd hc (by decide)) (fun _ => ?_)
                    refine r_iload (x := y13) d_X12_fact_63 rfl ?_
                    refine r_if_ne (tgt := 71) d_X12_fact_65 rfl (fun hc => ?_) (fun hc => ?_)
                    · have h := h.1 hc
                      refine r_aload_n (x := t) d_X12_fact_71 rfl o_t.1 ?_
                      refine x_callVV (Y2 := mX12_notes) (c := t) (As := []) (S := []) d_X12_fact_72 ok_mX12_notes ml_X12_196 rfl (Nat.le_of_ble_eq_true rfl) (Nat.le_of_ble_eq_true rfl) rfl hd_1 kX12 o_t (c_X12_notes (v_X12_notes_0 o_t f_t_state f_t_deeds he_1 ?_))
                      refine ⟨fun hc => ?_, fun hc => ?_⟩
                      · have h := h.1 hc
                        refine CV.mono h (fun σ14 h => ?_)
                        intro τ15 eτ15
                        have h := h τ15 eτ15
                        show WP l mX12_fact (rm d 0 0) noX _ 0 0 75 [(2, t), (0, x1), (0, x2), (0, x3), (0, x4), (0, y13), (3, 0)] [] N Λ τ15
                        refine r_aload_n (x := t) d_X12_fact_75 rfl o_t.1 ?_
                        refine r_iload (x := y13) d_X12_fact_76 rfl ?_
                        refine x_callVI (Y2 := mX12_factOf) (c := t) (As := [(0, y13)]) (S := []) d_X12_fact_78 ok_mX12_factOf ml_X12_244 rfl (Nat.le_of_ble_eq_true rfl) (Nat.le_of_ble_eq_true rfl) rfl hd_1 kX12 o_t (c_X12_factOf (v_X12_factOf_0 o_t f_t_state ?_))
                        refine ⟨h.1, ?_⟩
                        have h := h.2
                        show WP l mX12_fact (rm d 0 0) noX _ 0 0 81 [(2, t), (0, x1), (0, x2), (0, x3), (0, x4), (0, y13), (3, 0)] [(0, (τ15 t_state (subI (addI 996 y13) 1)))] N Λ τ15
                        refine r_nm (fun y16 ey16 => ?_)
                        have h := h y16 ey16
                        refine r_istore (L2 := [(2, t), (0, x1), (0, x2), (0, x3), (0, x4), (0, y13), (0, y16)]) d_X12_fact_81 (by decide) rfl rfl ?_
                        refine r_aload_n (x := t) d_X12_fact_83 rfl o_t.1 ?_
                        refine r_getf (j := 3) (t := 2) (x := t_state) d_X12_fact_84 kX12 (by decide) fl_X12_20 o_t.1 o_t.2.1 o_t.2.2.1 o_t.2.2.2 rfl f_t_state ?_
                        refine r_sipush (x := 996) d_X12_fact_87 ⟨by decide, by decide⟩ (by decide) ?_
                        refine r_iload (x := y13) d_X12_fact_90 rfl ?_
                        refine r_iadd d_X12_fact_92 ?_
                        refine r_iconst (x := 1) d_X12_fact_93 ⟨by decide, by decide⟩ ?_
                        refine r_isub d_X12_fact_94 ?_
                        refine r_iload (x := x4) d_X12_fact_95 rfl ?_
                        refine x_iast d_X12_fact_97 h.1 ?_
                        have h := h.2
                        refine r_nmM (fun τ17 eτ17 => ?_)
                        have h := h τ17 eτ17
                        refine r_iload (x := y16) d_X12_fact_98 rfl ?_
                        exact r_iret d_X12_fact_100 rfl rfl (Nat.le_refl 0) (Nat.le_refl 0) ⟨_, rfl, rfl, rfl, h⟩
                      · have h := h.2 hc
                        refine CV.mono h (fun σ18 h => ?_)
                        intro τ19 eτ19
                        have h := h τ19 eτ19
                        refine CV.mono h (fun σ20 h => ?_)
                        intro τ21 eτ21
                        have h := h τ21 eτ21
                        show WP l mX12_fact (rm d 0 0) noX _ 0 0 75 [(2, t), (0, x1), (0, x2), (0, x3), (0, x4), (0, y13), (3, 0)] [] N Λ τ21
                        refine r_aload_n (x := t) d_X12_fact_75 rfl o_t.1 ?_
                        refine r_iload (x := y13) d_X12_fact_76 rfl ?_
                        refine x_callVI (Y2 := mX12_factOf) (c := t) (As := [(0, y13)]) (S := []) d_X12_fact_78 ok_mX12_factOf ml_X12_244 rfl (Nat.le_of_ble_eq_true rfl) (Nat.le_of_ble_eq_true rfl) rfl hd_1 kX12 o_t (c_X12_factOf (v_X12_factOf_0 o_t f_t_state ?_))
                        refine ⟨h.1, ?_⟩
                        have h := h.2
                        show WP l mX12_fact (rm d 0 0) noX _ 0 0 81 [(2, t), (0, x1), (0, x2), (0, x3), (0, x4), (0, y13), (3, 0)] [(0, (τ21 t_state (subI (addI 996 y13) 1)))] N Λ τ21
                        refine r_nm (fun y22 ey22 => ?_)
                        have h := h y22 ey22
                        refine r_istore (L2 := [(2, t), (0, x1), (0, x2), (0, x3), (0, x4), (0, y13), (0, y22)]) d_X12_fact_81 (by decide) rfl rfl ?_
                        refine r_aload_n (x := t) d_X12_fact_83 rfl o_t.1 ?_
                        refine r_getf (j := 3) (t := 2) (x := t_state) d_X12_fact_84 kX12 (by decide) fl_X12_20 o_t.1 o_t.2.1 o_t.2.2.1 o_t.2.2.2 rfl f_t_state ?_
                        refine r_sipush (x := 996) d_X12_fact_87 ⟨by decide, by decide⟩ (by decide) ?_
                        refine r_iload (x := y13) d_X12_fact_90 rfl ?_
                        refine r_iadd d_X12_fact_92 ?_
                        refine r_iconst (x := 1) d_X12_fact_93 ⟨by decide, by decide⟩ ?_
                        refine r_isub d_X12_fact_94 ?_
                        refine r_iload (x := x4) d_X12_fact_95 rfl ?_
                        refine x_iast d_X12_fact_97 h.1 ?_
                        have h := h.2
                        refine r_nmM (fun τ23 eτ23 => ?_)
                        have h := h τ23 eτ23
                        refine r_iload (x := y22) d_X12_fact_98 rfl ?_
                        exact r_iret d_X12_fact_100 rfl rfl (Nat.le_refl 0) (Nat.le_refl 0) ⟨_, rfl, rfl, rfl, h⟩
                    · have h := h.2 hc
                      refine r_bipush (x := (-3)) d_X12_fact_68 ⟨by decide, by decide⟩ (by decide) ?_
                      exact r_iret d_X12_fact_70 rfl rfl (Nat.le_refl 0) (Nat.le_refl 0) ⟨_, rfl, rfl, rfl, h⟩
theorem v_X12_place_0 {l : Launch} {d N : Nat} {Λ : Lay} {P : Int → Mem → Prop} {σ : Mem} {x1 x2 x3 x4 t t_deeds t_state : Int} (o_t : Ob N Λ t 21 36) (f_t_state : (Λ t).2.2 3 = t_state) (f_t_deeds : (Λ t).2.2 4 = t_deeds) (h0d : 2 ≤ d)
    (h : (∀ τ1, τ1 = st σ t 0 0 → (((cmpL x1 0) < 0 → P (-2) τ1) ∧ (¬ ((cmpL x1 0) < 0) → ((0 < (cmpL x1 9) → P (-2) τ1) ∧ (¬ (0 < (cmpL x1 9)) → (((cmpL x2 (-99)) < 0 → P (-3) τ1) ∧ (¬ ((cmpL x2 (-99)) < 0) → ((0 < (cmpL x2 99) → P (-3) τ1) ∧ (¬ (0 < (cmpL x2 99)) → (((cmpL x3 (-99)) < 0 → P (-3) τ1) ∧ (¬ ((cmpL x3 (-99)) < 0) → ((0 < (cmpL x3 99) → P (-3) τ1) ∧ (¬ (0 < (cmpL x3 99)) → (((cmpL x4 (-99)) < 0 → P (-3) τ1) ∧ (¬ ((cmpL x4 (-99)) < 0) → ((0 < (cmpL x4 99) → P (-3) τ1) ∧ (¬ (0 < (cmpL x4 99)) → ((¬ (τ1 t 5) = 10 → (CV l mX12_copies (d - 1 - 1) [(2, t_state), (0, 0), (2, t_deeds), (0, (mulI 1116 (τ1 t 5))), (0, 1116)] N Λ τ1 (fun σ2 => (∀ τ3, τ3 = st σ2 t 5 (addI (σ2 t 5) 1) → (Ix N Λ t_state 0 (addI 966 (mulI 3 x1)) ∧ (∀ τ4, τ4 = st τ3 t_state (addI 966 (mulI 3 x1)) x2 → (Ix N Λ t_state 0 (addI (addI 966 (mulI 3 x1)) 1) ∧ (∀ τ5, τ5 = st τ4 t_state (addI (addI 966 (mulI 3 x1)) 1) x3 → (Ix N Λ t_state 0 (addI (addI 966 (mulI 3 x1)) 2) ∧ (∀ τ6, τ6 = st τ5 t_state (addI (addI 966 (mulI 3 x1)) 2) x4 → P 0 τ6)))))))))) ∧ ((τ1 t 5) = 10 → (CV l mX12_copies (d - 1 - 1) [(2, t_deeds), (0, 1116), (2, t_deeds), (0, 0), (0, 10044)] N Λ τ1 (fun σ7 => (∀ τ8, τ8 = st σ7 t 5 (subI (σ7 t 5) 1) → (CV l mX12_copies (d - 1 - 1) [(2, t_state), (0, 0), (2, t_deeds), (0, (mulI 1116 (τ8 t 5))), (0, 1116)] N Λ τ8 (fun σ9 => (∀ τ10, τ10 = st σ9 t 5 (addI (σ9 t 5) 1) → (Ix N Λ t_state 0 (addI 966 (mulI 3 x1)) ∧ (∀ τ11, τ11 = st τ10 t_state (addI 966 (mulI 3 x1)) x2 → (Ix N Λ t_state 0 (addI (addI 966 (mulI 3 x1)) 1) ∧ (∀ τ12, τ12 = st τ11 t_state (addI (addI 966 (mulI 3 x1)) 1) x3 → (Ix N Λ t_state 0 (addI (addI 966 (mulI 3 x1)) 2) ∧ (∀ τ13, τ13 = st τ12 t_state (addI (addI 966 (mulI 3 x1)) 2) x4 → P 0 τ13)))))))))))))))))))))))))))))))) :
    WI l mX12_place d P 0 [(2, t), (0, x1), (0, x2), (0, x3), (0, x4)] [] N Λ σ := by
  have hd_1 : 1 ≤ d := Nat.le_trans (by decide) h0d
  have he_1 : 1 ≤ d - 1 := Nat.le_sub_of_add_le (Nat.le_trans (by decide) h0d)
  refine r_aload_n (x := t) d_X12_place_0 rfl o_t.1 ?_
  refine r_iconst (x := 0) d_X12_place_1 ⟨by decide, by decide⟩ ?_
  refine r_putI (j := 0) d_X12_place_2 kX12 (by decide) fl_X12_1 rfl o_t.1 o_t.2.1 o_t.2.2.1 o_t.2.2.2 rfl ?_
  refine r_nmM (fun τ1 eτ1 => ?_)
  have h := h τ1 eτ1
  refine r_iload_n (x := x1) d_X12_place_5 rfl ?_
  refine x_callSI (Y2 := mX12_isLetter) (As := [(0, x1)]) (S := []) d_X12_place_6 ok_mX12_isLetter ml_X12_208 rfl (Nat.le_of_ble_eq_true rfl) (Nat.le_of_ble_eq_true rfl) rfl hd_1 (c_X12_isLetter (v_X12_isLetter_0 he_1 ?_))
  refine ⟨fun hc => ?_, fun hc => ?_⟩
  · have h := h.1 hc
    show WP l mX12_place (rm d 0 0) noX _ 0 0 9 [(2, t), (0, x1), (0, x2), (0, x3), (0, x4)] [(0, 0)] N Λ τ1
    refine r_if_ne (tgt := 15) d_X12_place_9 rfl (fun hc => absurd hc (by decide)) (fun _ => ?_)
    refine r_bipush (x := (-2)) d_X12_place_12 ⟨by decide, by decide⟩ (by decide) ?_
    exact r_iret d_X12_place_14 rfl rfl (Nat.le_refl 0) (Nat.le_refl 0) ⟨_, rfl, rfl, rfl, h⟩
  · have h := h.2 hc
    refine ⟨fun hc => ?_, fun hc => ?_⟩
    · have h := h.1 hc
      show WP l mX12_place (rm d 0 0) noX _ 0 0 9 [(2, t), (0, x1), (0, x2), (0, x3), (0, x4)] [(0, 0)] N Λ τ1
      refine r_if_ne (tgt := 15) d_X12_place_9 rfl (fun hc => absurd hc (by decide)) (fun _ => ?_)
      refine r_bipush (x := (-2)) d_X12_place_12 ⟨by decide, by decide⟩ (by decide) ?_
      exact r_iret d_X12_place_14 rfl rfl (Nat.le_refl 0) (Nat.le_refl 0) ⟨_, rfl, rfl, rfl, h⟩
    · have h := h.2 hc
      show WP l mX12_place (rm d 0 0) noX _ 0 0 9 [(2, t), (0, x1), (0, x2), (0, x3), (0, x4)] [(0, 1)] N Λ τ1
      refine r_if_ne (tgt := 15) d_X12_place_9 rfl (fun _ => ?_) (fun hc => absurd hc (by decide))
      refine r_iload_n (x := x2) d_X12_place_15 rfl ?_
      refine r_i2l d_X12_place_16 ?_
      refine r_ldc2 (x := (-99)) d_X12_place_17 ck_X12_221 (by decide) ?_
      refine r_ldc2 (x := 99) d_X12_place_20 ck_X12_223 (by decide) ?_
      refine x_callSI (Y2 := mX12_within) (As := [(1, x2), (1, (-99)), (1, 99)]) (S := []) d_X12_place_23 ok_mX12_within ml_X12_91 rfl (Nat.le_of_ble_eq_true rfl) (Nat.le_of_ble_eq_true rfl) rfl hd_1 (c_X12_within (v_X12_within_0 ?_))
      refine ⟨fun hc => ?_, fun hc => ?_⟩
      · have h := h.1 hc
        show WP l mX12_place (rm d 0 0) noX _ 0 0 26 [(2, t), (0, x1), (0, x2), (0, x3), (0, x4)] [(0, 0)] N Λ τ1
        refine r_if_eq (tgt := 58) d_X12_place_26 rfl (fun _ => ?_) (fun hc => absurd hc (by decide))
        refine r_bipush (x := (-3)) d_X12_place_58 ⟨by decide, by decide⟩ (by decide) ?_
        exact r_iret d_X12_place_60 rfl rfl (Nat.le_refl 0) (Nat.le_refl 0) ⟨_, rfl, rfl, rfl, h⟩
      · have h := h.2 hc
        refine ⟨fun hc => ?_, fun hc => ?_⟩
        · have h := h.1 hc
          show WP l mX12_place (rm d 0 0) noX _ 0 0 26 [(2, t), (0, x1), (0, x2), (0, x3), (0, x4)] [(0, 0)] N Λ τ1
          refine r_if_eq (tgt := 58) d_X12_place_26 rfl (fun _ => ?_) (fun hc => absurd hc (by decide))
          refine r_bipush (x := (-3)) d_X12_place_58 ⟨by decide, by decide⟩ (by decide) ?_
          exact r_iret d_X12_place_60 rfl rfl (Nat.le_refl 0) (Nat.le_refl 0) ⟨_, rfl, rfl, rfl, h⟩
        · have h := h.2 hc
          show WP l mX12_place (rm d 0 0) noX _ 0 0 26 [(2, t), (0, x1), (0, x2), (0, x3), (0, x4)] [(0, 1)] N Λ τ1
          refine r_if_eq (tgt := 58) d_X12_place_26 rfl (fun hc => absurd hc (by decide)) (fun _ => ?_)
          refine r_iload_n (x := x3) d_X12_place_29 rfl ?_
          refine r_i2l d_X12_place_30 ?_
          refine r_ldc2 (x := (-99)) d_X12_place_31 ck_X12_221 (by decide) ?_
          refine r_ldc2 (x := 99) d_X12_place_34 ck_X12_223 (by decide) ?_
          refine x_callSI (Y2 := mX12_within) (As := [(1, x3), (1, (-99)), (1, 99)]) (S := []) d_X12_place_37 ok_mX12_within ml_X12_91 rfl (Nat.le_of_ble_eq_true rfl) (Nat.le_of_ble_eq_true rfl) rfl hd_1 (c_X12_within (v_X12_within_0 ?_))
          refine ⟨fun hc => ?_, fun hc => ?_⟩
          · have h := h.1 hc
            show WP l mX12_place (rm d 0 0) noX _ 0 0 40 [(2, t), (0, x1), (0, x2), (0, x3), (0, x4)] [(0, 0)] N Λ τ1
            refine r_if_eq (tgt := 58) d_X12_place_40 rfl (fun _ => ?_) (fun hc => absurd hc (by decide))
            refine r_bipush (x := (-3)) d_X12_place_58 ⟨by decide, by decide⟩ (by decide) ?_
            exact r_iret d_X12_place_60 rfl rfl (Nat.le_refl 0) (Nat.le_refl 0) ⟨_, rfl, rfl, rfl, h⟩
          · have h := h.2 hc
            refine ⟨fun hc => ?_, fun hc => ?_⟩
            · have h := h.1 hc
              show WP l mX12_place (rm d 0 0) noX _ 0 0 40 [(2, t), (0, x1), (0, x2), (0, x3), (0, x4)] [(0, 0)] N Λ τ1
              refine r_if_eq (tgt := 58) d_X12_place_40 rfl (fun _ => ?_) (fun hc => absurd hc (by decide))
              refine r_bipush (x := (-3)) d_X12_place_58 ⟨by decide, by decide⟩ (by decide) ?_
              exact r_iret d_X12_place_60 rfl rfl (Nat.le_refl 0) (Nat.le_refl 0) ⟨_, rfl, rfl, rfl, h⟩
            · have h := h.2 hc
              show WP l mX12_place (rm d 0 0) noX _ 0 0 40 [(2, t), (0, x1), (0, x2), (0, x3), (0, x4)] [(0, 1)] N Λ τ1
              refine r_if_eq (tgt := 58) d_X12_place_40 rfl (fun hc => absurd hc (by decide)) (fun _ => ?_)
              refine r_iload (x := x4) d_X12_place_43 rfl ?_
              refine r_i2l d_X12_place_45 ?_
              refine r_ldc2 (x := (-99)) d_X12_place_46 ck_X12_221 (by decide) ?_
              refine r_ldc2 (x := 99) d_X12_place_49 ck_X12_223 (by decide) ?_
              refine x_callSI (Y2 := mX12_within) (As := [(1, x4), (1, (-99)), (1, 99)]) (S := []) d_X12_place_52 ok_mX12_within ml_X12_91 rfl (Nat.le_of_ble_eq_true rfl) (Nat.le_of_ble_eq_true rfl) rfl hd_1 (c_X12_within (v_X12_within_0 ?_))
              refine ⟨fun hc => ?_, fun hc => ?_⟩
              · have h := h.1 hc
                show WP l mX12_place (rm d 0 0) noX _ 0 0 55 [(2, t), (0, x1), (0, x2), (0, x3), (0, x4)] [(0, 0)] N Λ τ1
                refine r_if_ne (tgt := 61) d_X12_place_55 rfl (fun hc => absurd hc (by decide)) (fun _ => ?_)
                refine r_bipush (x := (-3)) d_X12_place_58 ⟨by decide, by decide⟩ (by decide) ?_
                exact r_iret d_X12_place_60 rfl rfl (Nat.le_refl 0) (Nat.le_refl 0) ⟨_, rfl, rfl, rfl, h⟩
              · have h := h.2 hc
                refine ⟨fun hc => ?_, fun hc => ?_⟩
                · have h := h.1 hc
                  show WP l mX12_place (rm d 0 0) noX _ 0 0 55 [(2, t), (0, x1), (0, x2), (0, x3), (0, x4)] [(0, 0)] N Λ τ1
                  refine r_if_ne (tgt := 61) d_X12_place_55 rfl (fun hc => absurd hc (by decide)) (fun _ => ?_)
                  refine r_bipush (x := (-3)) d_X12_place_58 ⟨by decide, by decide⟩ (by decide) ?_
                  exact r_iret d_X12_place_60 rfl rfl (Nat.le_refl 0) (Nat.le_refl 0) ⟨_, rfl, rfl, rfl, h⟩
                · have h := h.2 hc
                  show WP l mX12_place (rm d 0 0) noX _ 0 0 55 [(2, t), (0, x1), (0, x2), (0, x3), (0, x4)] [(0, 1)] N Λ τ1
                  refine r_if_ne (tgt := 61) d_X12_place_55 rfl (fun _ => ?_) (fun hc => absurd hc (by decide))
                  refine r_aload_n (x := t) d_X12_place_61 rfl o_t.1 ?_
                  refine x_callVV (Y2 := mX12_notes) (c := t) (As := []) (S := []) d_X12_place_62 ok_mX12_notes ml_X12_196 rfl (Nat.le_of_ble_eq_true rfl) (Nat.le_of_ble_eq_true rfl) rfl hd_1 kX12 o_t (c_X12_notes (v_X12_notes_0 o_t f_t_state f_t_deeds he_1 ?_))
                  refine ⟨fun hc => ?_, fun hc => ?_⟩
                  · have h := h.1 hc
                    refine CV.mono h (fun σ2 h => ?_)
                    intro τ3 eτ3
                    have h := h τ3 eτ3
                    show WP l mX12_place (rm d 0 0) noX _ 0 0 65 [(2, t), (0, x1), (0, x2), (0, x3), (0, x4)] [] N Λ τ3
                    refine r_aload_n (x := t) d_X12_place_65 rfl o_t.1 ?_
                    refine r_getf (j := 3) (t := 2) (x := t_state) d_X12_place_66 kX12 (by decide) fl_X12_20 o_t.1 o_t.2.1 o_t.2.2.1 o_t.2.2.2 rfl f_t_state ?_
                    refine r_sipush (x := 966) d_X12_place_69 ⟨by decide, by decide⟩ (by decide) ?_
                    refine r_iconst (x := 3) d_X12_place_72 ⟨by decide, by decide⟩ ?_
                    refine r_iload_n (x := x1) d_X12_place_73 rfl ?_
                    refine r_imul d_X12_place_74 ?_
                    refine r_iadd d_X12_place_75 ?_
                    refine r_iload_n (x := x2) d_X12_place_76 rfl ?_
                    refine x_iast d_X12_place_77 h.1 ?_
                    have h := h.2
                    refine r_nmM (fun τ4 eτ4 => ?_)
                    have h := h τ4 eτ4
                    refine r_aload_n (x := t) d_X12_place_78 rfl o_t.1 ?_
                    refine r_getf (j := 3) (t := 2) (x := t_state) d_X12_place_79 kX12 (by decide) fl_X12_20 o_t.1 o_t.2.1 o_t.2.2.1 o_t.2.2.2 rfl f_t_state ?_
                    refine r_sipush (x := 966) d_X12_place_82 ⟨by decide, by decide⟩ (by decide) ?_
                    refine r_iconst (x := 3) d_X12_place_85 ⟨by decide, by decide⟩ ?_
                    refine r_iload_n (x := x1) d_X12_place_86 rfl ?_
                    refine r_imul d_X12_place_87 ?_
                    refine r_iadd d_X12_place_88 ?_
                    refine r_iconst (x := 1) d_X12_place_89 ⟨by decide, by decide⟩ ?_
                    refine r_iadd d_X12_place_90 ?_
                    refine r_iload_n (x := x3) d_X12_place_91 rfl ?_
                    refine x_iast d_X12_place_92 h.1 ?_
                    have h := h.2
                    refine r_nmM (fun τ5 eτ5 => ?_)
                    have h := h τ5 eτ5
                    refine r_aload_n (x := t) d_X12_place_93 rfl o_t.1 ?_
                    refine r_getf (j := 3) (t := 2) (x := t_state) d_X12_place_94 kX12 (by decide) fl_X12_20 o_t.1 o_t.2.1 o_t.2.2.1 o_t.2.2.2 rfl f_t_state ?_
                    refine r_sipush (x := 966) d_X12_place_97 ⟨by decide, by decide⟩ (by decide) ?_
                    refine r_iconst (x := 3) d_X12_place_100 ⟨by decide, by decide⟩ ?_
                    refine r_iload_n (x := x1) d_X12_place_101 rfl ?_
                    refine r_imul d_X12_place_102 ?_
                    refine r_iadd d_X12_place_103 ?_
                    refine r_iconst (x := 2) d_X12_place_104 ⟨by decide, by decide⟩ ?_
                    refine r_iadd d_X12_place_105 ?_
                    refine r_iload (x := x4) d_X12_place_106 rfl ?_
                    refine x_iast d_X12_place_108 h.1 ?_
                    have h := h.2
                    refine r_nmM (fun τ6 eτ6 => ?_)
                    have h := h τ6 eτ6
                    refine r_iconst (x := 0) d_X12_place_109 ⟨by decide, by decide⟩ ?_
                    exact r_iret d_X12_place_110 rfl rfl (Nat.le_refl 0) (Nat.le_refl 0) ⟨_, rfl, rfl, rfl, h⟩
                  · have h := h.2 hc
                    refine CV.mono h (fun σ7 h => ?_)
                    intro τ8 eτ8
                    have h := h τ8 eτ8
                    refine CV.mono h (fun σ9 h => ?_)
                    intro τ10 eτ10
                    have h := h τ10 eτ10
                    show WP l mX12_place (rm d 0 0) noX _ 0 0 65 [(2, t), (0, x1), (0, x2), (0, x3), (0, x4)] [] N Λ τ10
                    refine r_aload_n (x := t) d_X12_place_65 rfl o_t.1 ?_
                    refine r_getf (j := 3) (t := 2) (x := t_state) d_X12_place_66 kX12 (by decide) fl_X12_20 o_t.1 o_t.2.1 o_t.2.2.1 o_t.2.2.2 rfl f_t_state ?_
                    refine r_sipush (x := 966) d_X12_place_69 ⟨by decide, by decide⟩ (by decide) ?_
                    refine r_iconst (x := 3) d_X12_place_72 ⟨by decide, by decide⟩ ?_
                    refine r_iload_n (x := x1) d_X12_place_73 rfl ?_
                    refine r_imul d_X12_place_74 ?_
                    refine r_iadd d_X12_place_75 ?_
                    refine r_iload_n (x := x2) d_X12_place_76 rfl ?_
                    refine x_iast d_X12_place_77 h.1 ?_
                    have h := h.2
                    refine r_nmM (fun τ11 eτ11 => ?_)
                    have h := h τ11 eτ11
                    refine r_aload_n (x := t) d_X12_place_78 rfl o_t.1 ?_
                    refine r_getf (j := 3) (t := 2) (x := t_state) d_X12_place_79 kX12 (by decide) fl_X12_20 o_t.1 o_t.2.1 o_t.2.2.1 o_t.2.2.2 rfl f_t_state ?_
                    refine r_sipush (x := 966) d_X12_place_82 ⟨by decide, by decide⟩ (by decide) ?_
                    refine r_iconst (x := 3) d_X12_place_85 ⟨by decide, by decide⟩ ?_
                    refine r_iload_n (x := x1) d_X12_place_86 rfl ?_
                    refine r_imul d_X12_place_87 ?_
                    refine r_iadd d_X12_place_88 ?_
                    refine r_iconst (x := 1) d_X12_place_89 ⟨by decide, by decide⟩ ?_
                    refine r_iadd d_X12_place_90 ?_
                    refine r_iload_n (x := x3) d_X12_place_91 rfl ?_
                    refine x_iast d_X12_place_92 h.1 ?_
                    have h := h.2
                    refine r_nmM (fun τ12 eτ12 => ?_)
                    have h := h τ12 eτ12
                    refine r_aload_n (x := t) d_X12_place_93 rfl o_t.1 ?_
                    refine r_getf (j := 3) (t := 2) (x := t_state) d_X12_place_94 kX12 (by decide) fl_X12_20 o_t.1 o_t.2.1 o_t.2.2.1 o_t.2.2.2 rfl f_t_state ?_
                    refine r_sipush (x := 966) d_X12_place_97 ⟨by decide, by decide⟩ (by decide) ?_
                    refine r_iconst (x := 3) d_X12_place_100 ⟨by decide, by decide⟩ ?_
                    refine r_iload_n (x := x1) d_X12_place_101 rfl ?_
                    refine r_imul d_X12_place_102 ?_
                    refine r_iadd d_X12_place_103 ?_
                    refine r_iconst (x := 2) d_X12_place_104 ⟨by decide, by decide⟩ ?_
                    refine r_iadd d_X12_place_105 ?_
                    refine r_iload (x := x4) d_X12_place_106 rfl ?_
                    refine x_iast d_X12_place_108 h.1 ?_
                    have h := h.2
                    refine r_nmM (fun τ13 eτ13 => ?_)
                    have h := h τ13 eτ13
                    refine r_iconst (x := 0) d_X12_place_109 ⟨by decide, by decide⟩ ?_
                    exact r_iret d_X12_place_110 rfl rfl (Nat.le_refl 0) (Nat.le_refl 0) ⟨_, rfl, rfl, rfl, h⟩
