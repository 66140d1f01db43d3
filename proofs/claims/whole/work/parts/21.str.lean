theorem d_X8_straighten_0 : DC mX8_straighten 0 (.aload_n 2) 1 1 := ⟨by decide +kernel, rfl⟩
theorem d_X8_straighten_1 : DC mX8_straighten 1 (.aload_n 1) 1 2 := ⟨by decide +kernel, rfl⟩
theorem d_X8_straighten_2 : DC mX8_straighten 2 (.invokevirtual 22) 3 5 := ⟨by decide +kernel, rfl⟩
theorem d_X8_straighten_5 : DC mX8_straighten 5 (.aload_n 0) 1 6 := ⟨by decide +kernel, rfl⟩
theorem d_X8_straighten_6 : DC mX8_straighten 6 (.iconst 0) 1 7 := ⟨by decide +kernel, rfl⟩
theorem d_X8_straighten_7 : DC mX8_straighten 7 (.putfield 9) 3 10 := ⟨by decide +kernel, rfl⟩
theorem d_X8_straighten_10 : DC mX8_straighten 10 (.aload_n 2) 1 11 := ⟨by decide +kernel, rfl⟩
theorem d_X8_straighten_11 : DC mX8_straighten 11 (.aload_n 2) 1 12 := ⟨by decide +kernel, rfl⟩
theorem d_X8_straighten_12 : DC mX8_straighten 12 (.getfield 28) 3 15 := ⟨by decide +kernel, rfl⟩
theorem d_X8_straighten_15 : DC mX8_straighten 15 (.iconst 1) 1 16 := ⟨by decide +kernel, rfl⟩
theorem d_X8_straighten_16 : DC mX8_straighten 16 (.isub) 1 17 := ⟨by decide +kernel, rfl⟩
theorem d_X8_straighten_17 : DC mX8_straighten 17 (.invokestatic 31) 3 20 := ⟨by decide +kernel, rfl⟩
theorem d_X8_straighten_20 : DC mX8_straighten 20 (.istore_n 3) 1 21 := ⟨by decide +kernel, rfl⟩
theorem d_X8_straighten_21 : DC mX8_straighten 21 (.iload_n 3) 1 22 := ⟨by decide +kernel, rfl⟩
theorem d_X8_straighten_22 : DC mX8_straighten 22 (.ifCond .lt 135) 3 25 := ⟨by decide +kernel, rfl⟩
theorem d_X8_straighten_25 : DC mX8_straighten 25 (.aload_n 0) 1 26 := ⟨by decide +kernel, rfl⟩
theorem d_X8_straighten_26 : DC mX8_straighten 26 (.getfield 9) 3 29 := ⟨by decide +kernel, rfl⟩
theorem d_X8_straighten_29 : DC mX8_straighten 29 (.sipush 900) 3 32 := ⟨by decide +kernel, rfl⟩
theorem d_X8_straighten_32 : DC mX8_straighten 32 (.if_icmp .ge 125) 3 35 := ⟨by decide +kernel, rfl⟩
theorem d_X8_straighten_35 : DC mX8_straighten 35 (.aload_n 2) 1 36 := ⟨by decide +kernel, rfl⟩
theorem d_X8_straighten_36 : DC mX8_straighten 36 (.getfield 28) 3 39 := ⟨by decide +kernel, rfl⟩
theorem d_X8_straighten_39 : DC mX8_straighten 39 (.iconst 1) 1 40 := ⟨by decide +kernel, rfl⟩
theorem d_X8_straighten_40 : DC mX8_straighten 40 (.isub) 1 41 := ⟨by decide +kernel, rfl⟩
theorem d_X8_straighten_41 : DC mX8_straighten 41 (.iload_n 3) 1 42 := ⟨by decide +kernel, rfl⟩
theorem d_X8_straighten_42 : DC mX8_straighten 42 (.isub) 1 43 := ⟨by decide +kernel, rfl⟩
theorem d_X8_straighten_43 : DC mX8_straighten 43 (.istore 4) 2 45 := ⟨by decide +kernel, rfl⟩
theorem d_X8_straighten_45 : DC mX8_straighten 45 (.aload_n 2) 1 46 := ⟨by decide +kernel, rfl⟩
theorem d_X8_straighten_46 : DC mX8_straighten 46 (.getfield 35) 3 49 := ⟨by decide +kernel, rfl⟩
theorem d_X8_straighten_49 : DC mX8_straighten 49 (.iload_n 3) 1 50 := ⟨by decide +kernel, rfl⟩
theorem d_X8_straighten_50 : DC mX8_straighten 50 (.laload) 1 51 := ⟨by decide +kernel, rfl⟩
theorem d_X8_straighten_51 : DC mX8_straighten 51 (.lstore 5) 2 53 := ⟨by decide +kernel, rfl⟩
theorem d_X8_straighten_53 : DC mX8_straighten 53 (.lload 5) 2 55 := ⟨by decide +kernel, rfl⟩
theorem d_X8_straighten_55 : DC mX8_straighten 55 (.invokestatic 39) 3 58 := ⟨by decide +kernel, rfl⟩
theorem d_X8_straighten_58 : DC mX8_straighten 58 (.istore 7) 2 60 := ⟨by decide +kernel, rfl⟩
theorem d_X8_straighten_60 : DC mX8_straighten 60 (.iload 7) 2 62 := ⟨by decide +kernel, rfl⟩
theorem d_X8_straighten_62 : DC mX8_straighten 62 (.invokestatic 45) 3 65 := ⟨by decide +kernel, rfl⟩
theorem d_X8_straighten_65 : DC mX8_straighten 65 (.istore 8) 2 67 := ⟨by decide +kernel, rfl⟩
theorem d_X8_straighten_67 : DC mX8_straighten 67 (.lload 5) 2 69 := ⟨by decide +kernel, rfl⟩
theorem d_X8_straighten_69 : DC mX8_straighten 69 (.iload 8) 2 71 := ⟨by decide +kernel, rfl⟩
theorem d_X8_straighten_71 : DC mX8_straighten 71 (.invokestatic 49) 3 74 := ⟨by decide +kernel, rfl⟩
theorem d_X8_straighten_74 : DC mX8_straighten 74 (.istore 9) 2 76 := ⟨by decide +kernel, rfl⟩
theorem d_X8_straighten_76 : DC mX8_straighten 76 (.lload 5) 2 78 := ⟨by decide +kernel, rfl⟩
theorem d_X8_straighten_78 : DC mX8_straighten 78 (.iload 8) 2 80 := ⟨by decide +kernel, rfl⟩
theorem d_X8_straighten_80 : DC mX8_straighten 80 (.iconst 1) 1 81 := ⟨by decide +kernel, rfl⟩
theorem d_X8_straighten_81 : DC mX8_straighten 81 (.iadd) 1 82 := ⟨by decide +kernel, rfl⟩
theorem d_X8_straighten_82 : DC mX8_straighten 82 (.invokestatic 49) 3 85 := ⟨by decide +kernel, rfl⟩
theorem d_X8_straighten_85 : DC mX8_straighten 85 (.istore 10) 2 87 := ⟨by decide +kernel, rfl⟩
theorem d_X8_straighten_87 : DC mX8_straighten 87 (.aload_n 2) 1 88 := ⟨by decide +kernel, rfl⟩
theorem d_X8_straighten_88 : DC mX8_straighten 88 (.getfield 53) 3 91 := ⟨by decide +kernel, rfl⟩
theorem d_X8_straighten_91 : DC mX8_straighten 91 (.iload_n 3) 1 92 := ⟨by decide +kernel, rfl⟩
theorem d_X8_straighten_92 : DC mX8_straighten 92 (.iaload) 1 93 := ⟨by decide +kernel, rfl⟩
theorem d_X8_straighten_93 : DC mX8_straighten 93 (.i2l) 1 94 := ⟨by decide +kernel, rfl⟩
theorem d_X8_straighten_94 : DC mX8_straighten 94 (.lneg) 1 95 := ⟨by decide +kernel, rfl⟩
theorem d_X8_straighten_95 : DC mX8_straighten 95 (.lstore 11) 2 97 := ⟨by decide +kernel, rfl⟩
theorem d_X8_straighten_97 : DC mX8_straighten 97 (.aload_n 0) 1 98 := ⟨by decide +kernel, rfl⟩
theorem d_X8_straighten_98 : DC mX8_straighten 98 (.aload_n 2) 1 99 := ⟨by decide +kernel, rfl⟩
theorem d_X8_straighten_99 : DC mX8_straighten 99 (.iload 9) 2 101 := ⟨by decide +kernel, rfl⟩
theorem d_X8_straighten_101 : DC mX8_straighten 101 (.iload 10) 2 103 := ⟨by decide +kernel, rfl⟩
theorem d_X8_straighten_103 : DC mX8_straighten 103 (.iload 7) 2 105 := ⟨by decide +kernel, rfl⟩
theorem d_X8_straighten_105 : DC mX8_straighten 105 (.invokestatic 57) 3 108 := ⟨by decide +kernel, rfl⟩
theorem d_X8_straighten_108 : DC mX8_straighten 108 (.lload 5) 2 110 := ⟨by decide +kernel, rfl⟩
theorem d_X8_straighten_110 : DC mX8_straighten 110 (.iload 8) 2 112 := ⟨by decide +kernel, rfl⟩
theorem d_X8_straighten_112 : DC mX8_straighten 112 (.invokestatic 60) 3 115 := ⟨by decide +kernel, rfl⟩
theorem d_X8_straighten_115 : DC mX8_straighten 115 (.lload 11) 2 117 := ⟨by decide +kernel, rfl⟩
theorem d_X8_straighten_117 : DC mX8_straighten 117 (.invokevirtual 64) 3 120 := ⟨by decide +kernel, rfl⟩
theorem d_X8_straighten_120 : DC mX8_straighten 120 (.istore 13) 2 122 := ⟨by decide +kernel, rfl⟩
theorem d_X8_straighten_122 : DC mX8_straighten 122 (.iload 13) 2 124 := ⟨by decide +kernel, rfl⟩
theorem d_X8_straighten_124 : DC mX8_straighten 124 (.ifCond .eq 6) 3 127 := ⟨by decide +kernel, rfl⟩
theorem d_X8_straighten_127 : DC mX8_straighten 127 (.iload 13) 2 129 := ⟨by decide +kernel, rfl⟩
theorem d_X8_straighten_129 : DC mX8_straighten 129 (.ireturn) 1 130 := ⟨by decide +kernel, rfl⟩
theorem d_X8_straighten_130 : DC mX8_straighten 130 (.aload_n 0) 1 131 := ⟨by decide +kernel, rfl⟩
theorem d_X8_straighten_131 : DC mX8_straighten 131 (.dup) 1 132 := ⟨by decide +kernel, rfl⟩
theorem d_X8_straighten_132 : DC mX8_straighten 132 (.getfield 9) 3 135 := ⟨by decide +kernel, rfl⟩
theorem d_X8_straighten_135 : DC mX8_straighten 135 (.iconst 1) 1 136 := ⟨by decide +kernel, rfl⟩
theorem d_X8_straighten_136 : DC mX8_straighten 136 (.iadd) 1 137 := ⟨by decide +kernel, rfl⟩
theorem d_X8_straighten_137 : DC mX8_straighten 137 (.putfield 9) 3 140 := ⟨by decide +kernel, rfl⟩
theorem d_X8_straighten_140 : DC mX8_straighten 140 (.aload_n 2) 1 141 := ⟨by decide +kernel, rfl⟩
theorem d_X8_straighten_141 : DC mX8_straighten 141 (.aload_n 2) 1 142 := ⟨by decide +kernel, rfl⟩
theorem d_X8_straighten_142 : DC mX8_straighten 142 (.getfield 28) 3 145 := ⟨by decide +kernel, rfl⟩
theorem d_X8_straighten_145 : DC mX8_straighten 145 (.iconst 1) 1 146 := ⟨by decide +kernel, rfl⟩
theorem d_X8_straighten_146 : DC mX8_straighten 146 (.isub) 1 147 := ⟨by decide +kernel, rfl⟩
theorem d_X8_straighten_147 : DC mX8_straighten 147 (.iload 4) 2 149 := ⟨by decide +kernel, rfl⟩
theorem d_X8_straighten_149 : DC mX8_straighten 149 (.isub) 1 150 := ⟨by decide +kernel, rfl⟩
theorem d_X8_straighten_150 : DC mX8_straighten 150 (.invokestatic 31) 3 153 := ⟨by decide +kernel, rfl⟩
theorem d_X8_straighten_153 : DC mX8_straighten 153 (.istore_n 3) 1 154 := ⟨by decide +kernel, rfl⟩
theorem d_X8_straighten_154 : DC mX8_straighten 154 (.goto (-133)) 3 157 := ⟨by decide +kernel, rfl⟩
theorem d_X8_straighten_157 : DC mX8_straighten 157 (.iload_n 3) 1 158 := ⟨by decide +kernel, rfl⟩
theorem d_X8_straighten_158 : DC mX8_straighten 158 (.ifCond .lt 7) 3 161 := ⟨by decide +kernel, rfl⟩
theorem d_X8_straighten_161 : DC mX8_straighten 161 (.iconst 3) 1 162 := ⟨by decide +kernel, rfl⟩
theorem d_X8_straighten_162 : DC mX8_straighten 162 (.goto 4) 3 165 := ⟨by decide +kernel, rfl⟩
theorem d_X8_straighten_165 : DC mX8_straighten 165 (.iconst 0) 1 166 := ⟨by decide +kernel, rfl⟩
theorem d_X8_straighten_166 : DC mX8_straighten 166 (.ireturn) 1 167 := ⟨by decide +kernel, rfl⟩
theorem d_X8_layExchange_0 : DC mX8_layExchange 0 (.iconst 0) 1 1 := ⟨by decide +kernel, rfl⟩
theorem d_X8_layExchange_1 : DC mX8_layExchange 1 (.istore 9) 2 3 := ⟨by decide +kernel, rfl⟩
theorem d_X8_layExchange_3 : DC mX8_layExchange 3 (.iconst 4) 1 4 := ⟨by decide +kernel, rfl⟩
theorem d_X8_layExchange_4 : DC mX8_layExchange 4 (.iconst 3) 1 5 := ⟨by decide +kernel, rfl⟩
theorem d_X8_layExchange_5 : DC mX8_layExchange 5 (.iload 4) 2 7 := ⟨by decide +kernel, rfl⟩
theorem d_X8_layExchange_7 : DC mX8_layExchange 7 (.isub) 1 8 := ⟨by decide +kernel, rfl⟩
theorem d_X8_layExchange_8 : DC mX8_layExchange 8 (.imul) 1 9 := ⟨by decide +kernel, rfl⟩
theorem d_X8_layExchange_9 : DC mX8_layExchange 9 (.istore 10) 2 11 := ⟨by decide +kernel, rfl⟩
theorem d_X8_layExchange_11 : DC mX8_layExchange 11 (.iload_n 2) 1 12 := ⟨by decide +kernel, rfl⟩
theorem d_X8_layExchange_12 : DC mX8_layExchange 12 (.iconst 4) 1 13 := ⟨by decide +kernel, rfl⟩
theorem d_X8_layExchange_13 : DC mX8_layExchange 13 (.iload 4) 2 15 := ⟨by decide +kernel, rfl⟩
theorem d_X8_layExchange_15 : DC mX8_layExchange 15 (.imul) 1 16 := ⟨by decide +kernel, rfl⟩
theorem d_X8_layExchange_16 : DC mX8_layExchange 16 (.ishl) 1 17 := ⟨by decide +kernel, rfl⟩
theorem d_X8_layExchange_17 : DC mX8_layExchange 17 (.iload_n 3) 1 18 := ⟨by decide +kernel, rfl⟩
theorem d_X8_layExchange_18 : DC mX8_layExchange 18 (.iload 10) 2 20 := ⟨by decide +kernel, rfl⟩
theorem d_X8_layExchange_20 : DC mX8_layExchange 20 (.ishr) 1 21 := ⟨by decide +kernel, rfl⟩
theorem d_X8_layExchange_21 : DC mX8_layExchange 21 (.ior) 1 22 := ⟨by decide +kernel, rfl⟩
theorem d_X8_layExchange_22 : DC mX8_layExchange 22 (.ldc 68) 2 24 := ⟨by decide +kernel, rfl⟩
theorem d_X8_layExchange_24 : DC mX8_layExchange 24 (.iand) 1 25 := ⟨by decide +kernel, rfl⟩
theorem d_X8_layExchange_25 : DC mX8_layExchange 25 (.istore 11) 2 27 := ⟨by decide +kernel, rfl⟩
theorem d_X8_layExchange_27 : DC mX8_layExchange 27 (.bipush 15) 2 29 := ⟨by decide +kernel, rfl⟩
theorem d_X8_layExchange_29 : DC mX8_layExchange 29 (.istore 12) 2 31 := ⟨by decide +kernel, rfl⟩
theorem d_X8_layExchange_31 : DC mX8_layExchange 31 (.iload 12) 2 33 := ⟨by decide +kernel, rfl⟩
theorem d_X8_layExchange_33 : DC mX8_layExchange 33 (.ifCond .lt 84) 3 36 := ⟨by decide +kernel, rfl⟩
theorem d_X8_layExchange_36 : DC mX8_layExchange 36 (.iload 9) 2 38 := ⟨by decide +kernel, rfl⟩
theorem d_X8_layExchange_38 : DC mX8_layExchange 38 (.ifCond .ne 79) 3 41 := ⟨by decide +kernel, rfl⟩
theorem d_X8_layExchange_41 : DC mX8_layExchange 41 (.iload 12) 2 43 := ⟨by decide +kernel, rfl⟩
theorem d_X8_layExchange_43 : DC mX8_layExchange 43 (.invokestatic 69) 3 46 := ⟨by decide +kernel, rfl⟩
theorem d_X8_layExchange_46 : DC mX8_layExchange 46 (.iconst 4) 1 47 := ⟨by decide +kernel, rfl⟩
theorem d_X8_layExchange_47 : DC mX8_layExchange 47 (.iload 4) 2 49 := ⟨by decide +kernel, rfl⟩
theorem d_X8_layExchange_49 : DC mX8_layExchange 49 (.isub) 1 50 := ⟨by decide +kernel, rfl⟩
theorem d_X8_layExchange_50 : DC mX8_layExchange 50 (.if_icmp .ne 61) 3 53 := ⟨by decide +kernel, rfl⟩
theorem d_X8_layExchange_53 : DC mX8_layExchange 53 (.aload_n 0) 1 54 := ⟨by decide +kernel, rfl⟩
theorem d_X8_layExchange_54 : DC mX8_layExchange 54 (.getfield 18) 3 57 := ⟨by decide +kernel, rfl⟩
theorem d_X8_layExchange_57 : DC mX8_layExchange 57 (.lload 5) 2 59 := ⟨by decide +kernel, rfl⟩
theorem d_X8_layExchange_59 : DC mX8_layExchange 59 (.invokevirtual 74) 3 62 := ⟨by decide +kernel, rfl⟩
theorem d_X8_layExchange_62 : DC mX8_layExchange 62 (.aload_n 0) 1 63 := ⟨by decide +kernel, rfl⟩
theorem d_X8_layExchange_63 : DC mX8_layExchange 63 (.iload_n 2) 1 64 := ⟨by decide +kernel, rfl⟩
theorem d_X8_layExchange_64 : DC mX8_layExchange 64 (.iconst 4) 1 65 := ⟨by decide +kernel, rfl⟩
theorem d_X8_layExchange_65 : DC mX8_layExchange 65 (.iconst 4) 1 66 := ⟨by decide +kernel, rfl⟩
theorem d_X8_layExchange_66 : DC mX8_layExchange 66 (.iload 4) 2 68 := ⟨by decide +kernel, rfl⟩
theorem d_X8_layExchange_68 : DC mX8_layExchange 68 (.isub) 1 69 := ⟨by decide +kernel, rfl⟩
theorem d_X8_layExchange_69 : DC mX8_layExchange 69 (.imul) 1 70 := ⟨by decide +kernel, rfl⟩
theorem d_X8_layExchange_70 : DC mX8_layExchange 70 (.ishr) 1 71 := ⟨by decide +kernel, rfl⟩
theorem d_X8_layExchange_71 : DC mX8_layExchange 71 (.iload 11) 2 73 := ⟨by decide +kernel, rfl⟩
theorem d_X8_layExchange_73 : DC mX8_layExchange 73 (.iload 12) 2 75 := ⟨by decide +kernel, rfl⟩
theorem d_X8_layExchange_75 : DC mX8_layExchange 75 (.iload_n 3) 1 76 := ⟨by decide +kernel, rfl⟩
theorem d_X8_layExchange_76 : DC mX8_layExchange 76 (.iload 10) 2 78 := ⟨by decide +kernel, rfl⟩
theorem d_X8_layExchange_78 : DC mX8_layExchange 78 (.invokevirtual 78) 3 81 := ⟨by decide +kernel, rfl⟩
theorem d_X8_layExchange_81 : DC mX8_layExchange 81 (.istore 13) 2 83 := ⟨by decide +kernel, rfl⟩
theorem d_X8_layExchange_83 : DC mX8_layExchange 83 (.aload_n 1) 1 84 := ⟨by decide +kernel, rfl⟩
theorem d_X8_layExchange_84 : DC mX8_layExchange 84 (.aload_n 0) 1 85 := ⟨by decide +kernel, rfl⟩
theorem d_X8_layExchange_85 : DC mX8_layExchange 85 (.getfield 18) 3 88 := ⟨by decide +kernel, rfl⟩
theorem d_X8_layExchange_88 : DC mX8_layExchange 88 (.getfield 82) 3 91 := ⟨by decide +kernel, rfl⟩
theorem d_X8_layExchange_91 : DC mX8_layExchange 91 (.lload 7) 2 93 := ⟨by decide +kernel, rfl⟩
theorem d_X8_layExchange_93 : DC mX8_layExchange 93 (.iload 13) 2 95 := ⟨by decide +kernel, rfl⟩
theorem d_X8_layExchange_95 : DC mX8_layExchange 95 (.i2l) 1 96 := ⟨by decide +kernel, rfl⟩
theorem d_X8_layExchange_96 : DC mX8_layExchange 96 (.lmul) 1 97 := ⟨by decide +kernel, rfl⟩
theorem d_X8_layExchange_97 : DC mX8_layExchange 97 (.aload_n 0) 1 98 := ⟨by decide +kernel, rfl⟩
theorem d_X8_layExchange_98 : DC mX8_layExchange 98 (.getfield 18) 3 101 := ⟨by decide +kernel, rfl⟩
theorem d_X8_layExchange_101 : DC mX8_layExchange 101 (.getfield 86) 3 104 := ⟨by decide +kernel, rfl⟩
theorem d_X8_layExchange_104 : DC mX8_layExchange 104 (.i2l) 1 105 := ⟨by decide +kernel, rfl⟩
theorem d_X8_layExchange_105 : DC mX8_layExchange 105 (.lmul) 1 106 := ⟨by decide +kernel, rfl⟩
theorem d_X8_layExchange_106 : DC mX8_layExchange 106 (.invokevirtual 89) 3 109 := ⟨by decide +kernel, rfl⟩
theorem d_X8_layExchange_109 : DC mX8_layExchange 109 (.istore 9) 2 111 := ⟨by decide +kernel, rfl⟩
theorem d_X8_layExchange_111 : DC mX8_layExchange 111 (.iinc 12 (-1)) 3 114 := ⟨by decide +kernel, rfl⟩
theorem d_X8_layExchange_114 : DC mX8_layExchange 114 (.goto (-83)) 3 117 := ⟨by decide +kernel, rfl⟩
theorem d_X8_layExchange_117 : DC mX8_layExchange 117 (.iload 9) 2 119 := ⟨by decide +kernel, rfl⟩
theorem d_X8_layExchange_119 : DC mX8_layExchange 119 (.ireturn) 1 120 := ⟨by decide +kernel, rfl⟩
theorem d_X8_attachWay_0 : DC mX8_attachWay 0 (.iload_n 1) 1 1 := ⟨by decide +kernel, rfl⟩
theorem d_X8_attachWay_1 : DC mX8_attachWay 1 (.istore 6) 2 3 := ⟨by decide +kernel, rfl⟩
theorem d_X8_attachWay_3 : DC mX8_attachWay 3 (.iconst 0) 1 4 := ⟨by decide +kernel, rfl⟩
theorem d_X8_attachWay_4 : DC mX8_attachWay 4 (.istore 7) 2 6 := ⟨by decide +kernel, rfl⟩
theorem d_X8_attachWay_6 : DC mX8_attachWay 6 (.iconst 0) 1 7 := ⟨by decide +kernel, rfl⟩
theorem d_X8_attachWay_7 : DC mX8_attachWay 7 (.istore 8) 2 9 := ⟨by decide +kernel, rfl⟩
theorem d_X8_attachWay_9 : DC mX8_attachWay 9 (.iconst 0) 1 10 := ⟨by decide +kernel, rfl⟩
theorem d_X8_attachWay_10 : DC mX8_attachWay 10 (.istore 9) 2 12 := ⟨by decide +kernel, rfl⟩
theorem d_X8_attachWay_12 : DC mX8_attachWay 12 (.iconst 3) 1 13 := ⟨by decide +kernel, rfl⟩
theorem d_X8_attachWay_13 : DC mX8_attachWay 13 (.istore 10) 2 15 := ⟨by decide +kernel, rfl⟩
theorem d_X8_attachWay_15 : DC mX8_attachWay 15 (.iload 10) 2 17 := ⟨by decide +kernel, rfl⟩
theorem d_X8_attachWay_17 : DC mX8_attachWay 17 (.ifCond .lt 61) 3 20 := ⟨by decide +kernel, rfl⟩
theorem d_X8_attachWay_20 : DC mX8_attachWay 20 (.iload_n 2) 1 21 := ⟨by decide +kernel, rfl⟩
theorem d_X8_attachWay_21 : DC mX8_attachWay 21 (.iconst 4) 1 22 := ⟨by decide +kernel, rfl⟩
theorem d_X8_attachWay_22 : DC mX8_attachWay 22 (.iload 10) 2 24 := ⟨by decide +kernel, rfl⟩
theorem d_X8_attachWay_24 : DC mX8_attachWay 24 (.imul) 1 25 := ⟨by decide +kernel, rfl⟩
theorem d_X8_attachWay_25 : DC mX8_attachWay 25 (.ishr) 1 26 := ⟨by decide +kernel, rfl⟩
theorem d_X8_attachWay_26 : DC mX8_attachWay 26 (.bipush 15) 2 28 := ⟨by decide +kernel, rfl⟩
theorem d_X8_attachWay_28 : DC mX8_attachWay 28 (.iand) 1 29 := ⟨by decide +kernel, rfl⟩
theorem d_X8_attachWay_29 : DC mX8_attachWay 29 (.istore 11) 2 31 := ⟨by decide +kernel, rfl⟩
theorem d_X8_attachWay_31 : DC mX8_attachWay 31 (.iload_n 3) 1 32 := ⟨by decide +kernel, rfl⟩
theorem d_X8_attachWay_32 : DC mX8_attachWay 32 (.iload 10) 2 34 := ⟨by decide +kernel, rfl⟩
theorem d_X8_attachWay_34 : DC mX8_attachWay 34 (.ishr) 1 35 := ⟨by decide +kernel, rfl⟩
theorem d_X8_attachWay_35 : DC mX8_attachWay 35 (.iconst 1) 1 36 := ⟨by decide +kernel, rfl⟩
theorem d_X8_attachWay_36 : DC mX8_attachWay 36 (.iand) 1 37 := ⟨by decide +kernel, rfl⟩
theorem d_X8_attachWay_37 : DC mX8_attachWay 37 (.iconst 1) 1 38 := ⟨by decide +kernel, rfl⟩
theorem d_X8_attachWay_38 : DC mX8_attachWay 38 (.if_icmp .ne 22) 3 41 := ⟨by decide +kernel, rfl⟩
theorem d_X8_attachWay_41 : DC mX8_attachWay 41 (.iload 6) 2 43 := ⟨by decide +kernel, rfl⟩
theorem d_X8_attachWay_43 : DC mX8_attachWay 43 (.iconst 4) 1 44 := ⟨by decide +kernel, rfl⟩
theorem d_X8_attachWay_44 : DC mX8_attachWay 44 (.ishl) 1 45 := ⟨by decide +kernel, rfl⟩
theorem d_X8_attachWay_45 : DC mX8_attachWay 45 (.iload 11) 2 47 := ⟨by decide +kernel, rfl⟩
theorem d_X8_attachWay_47 : DC mX8_attachWay 47 (.ior) 1 48 := ⟨by decide +kernel, rfl⟩
theorem d_X8_attachWay_48 : DC mX8_attachWay 48 (.istore 6) 2 50 := ⟨by decide +kernel, rfl⟩
theorem d_X8_attachWay_50 : DC mX8_attachWay 50 (.iload 9) 2 52 := ⟨by decide +kernel, rfl⟩
theorem d_X8_attachWay_52 : DC mX8_attachWay 52 (.iload 8) 2 54 := ⟨by decide +kernel, rfl⟩
theorem d_X8_attachWay_54 : DC mX8_attachWay 54 (.iadd) 1 55 := ⟨by decide +kernel, rfl⟩
theorem d_X8_attachWay_55 : DC mX8_attachWay 55 (.istore 9) 2 57 := ⟨by decide +kernel, rfl⟩
theorem d_X8_attachWay_57 : DC mX8_attachWay 57 (.goto 15) 3 60 := ⟨by decide +kernel, rfl⟩
theorem d_X8_attachWay_60 : DC mX8_attachWay 60 (.iload 7) 2 62 := ⟨by decide +kernel, rfl⟩
theorem d_X8_attachWay_62 : DC mX8_attachWay 62 (.iconst 4) 1 63 := ⟨by decide +kernel, rfl⟩
theorem d_X8_attachWay_63 : DC mX8_attachWay 63 (.ishl) 1 64 := ⟨by decide +kernel, rfl⟩
theorem d_X8_attachWay_64 : DC mX8_attachWay 64 (.iload 11) 2 66 := ⟨by decide +kernel, rfl⟩
theorem d_X8_attachWay_66 : DC mX8_attachWay 66 (.ior) 1 67 := ⟨by decide +kernel, rfl⟩
theorem d_X8_attachWay_67 : DC mX8_attachWay 67 (.istore 7) 2 69 := ⟨by decide +kernel, rfl⟩
theorem d_X8_attachWay_69 : DC mX8_attachWay 69 (.iinc 8 1) 3 72 := ⟨by decide +kernel, rfl⟩
theorem d_X8_attachWay_72 : DC mX8_attachWay 72 (.iinc 10 (-1)) 3 75 := ⟨by decide +kernel, rfl⟩
theorem d_X8_attachWay_75 : DC mX8_attachWay 75 (.goto (-60)) 3 78 := ⟨by decide +kernel, rfl⟩
theorem d_X8_attachWay_78 : DC mX8_attachWay 78 (.aload_n 0) 1 79 := ⟨by decide +kernel, rfl⟩
theorem d_X8_attachWay_79 : DC mX8_attachWay 79 (.getfield 18) 3 82 := ⟨by decide +kernel, rfl⟩
theorem d_X8_attachWay_82 : DC mX8_attachWay 82 (.iload 6) 2 84 := ⟨by decide +kernel, rfl⟩
theorem d_X8_attachWay_84 : DC mX8_attachWay 84 (.invokevirtual 93) 3 87 := ⟨by decide +kernel, rfl⟩
theorem d_X8_attachWay_87 : DC mX8_attachWay 87 (.aload_n 0) 1 88 := ⟨by decide +kernel, rfl⟩
theorem d_X8_attachWay_88 : DC mX8_attachWay 88 (.getfield 18) 3 91 := ⟨by decide +kernel, rfl⟩
theorem d_X8_attachWay_91 : DC mX8_attachWay 91 (.iload 7) 2 93 := ⟨by decide +kernel, rfl⟩
theorem d_X8_attachWay_93 : DC mX8_attachWay 93 (.iload 5) 2 95 := ⟨by decide +kernel, rfl⟩
theorem d_X8_attachWay_95 : DC mX8_attachWay 95 (.ishl) 1 96 := ⟨by decide +kernel, rfl⟩
theorem d_X8_attachWay_96 : DC mX8_attachWay 96 (.iload 4) 2 98 := ⟨by decide +kernel, rfl⟩
theorem d_X8_attachWay_98 : DC mX8_attachWay 98 (.iconst 1) 1 99 := ⟨by decide +kernel, rfl⟩
theorem d_X8_attachWay_99 : DC mX8_attachWay 99 (.iload 5) 2 101 := ⟨by decide +kernel, rfl⟩
theorem d_X8_attachWay_101 : DC mX8_attachWay 101 (.ishl) 1 102 := ⟨by decide +kernel, rfl⟩
theorem d_X8_attachWay_102 : DC mX8_attachWay 102 (.iconst 1) 1 103 := ⟨by decide +kernel, rfl⟩
theorem d_X8_attachWay_103 : DC mX8_attachWay 103 (.isub) 1 104 := ⟨by decide +kernel, rfl⟩
theorem d_X8_attachWay_104 : DC mX8_attachWay 104 (.iand) 1 105 := ⟨by decide +kernel, rfl⟩
theorem d_X8_attachWay_105 : DC mX8_attachWay 105 (.ior) 1 106 := ⟨by decide +kernel, rfl⟩
theorem d_X8_attachWay_106 : DC mX8_attachWay 106 (.invokevirtual 93) 3 109 := ⟨by decide +kernel, rfl⟩
theorem d_X8_attachWay_109 : DC mX8_attachWay 109 (.iload 9) 2 111 := ⟨by decide +kernel, rfl⟩
theorem d_X8_attachWay_111 : DC mX8_attachWay 111 (.iconst 1) 1 112 := ⟨by decide +kernel, rfl⟩
theorem d_X8_attachWay_112 : DC mX8_attachWay 112 (.iand) 1 113 := ⟨by decide +kernel, rfl⟩
theorem d_X8_attachWay_113 : DC mX8_attachWay 113 (.ifCond .ne 7) 3 116 := ⟨by decide +kernel, rfl⟩
theorem d_X8_attachWay_116 : DC mX8_attachWay 116 (.iconst 1) 1 117 := ⟨by decide +kernel, rfl⟩
theorem d_X8_attachWay_117 : DC mX8_attachWay 117 (.goto 4) 3 120 := ⟨by decide +kernel, rfl⟩
theorem d_X8_attachWay_120 : DC mX8_attachWay 120 (.iconst (-1)) 1 121 := ⟨by decide +kernel, rfl⟩
theorem d_X8_attachWay_121 : DC mX8_attachWay 121 (.ireturn) 1 122 := ⟨by decide +kernel, rfl⟩
theorem d_X8_lastBroken_0 : DC mX8_lastBroken 0 (.iload_n 1) 1 1 := ⟨by decide +kernel, rfl⟩
theorem d_X8_lastBroken_1 : DC mX8_lastBroken 1 (.istore_n 2) 1 2 := ⟨by decide +kernel, rfl⟩
theorem d_X8_lastBroken_2 : DC mX8_lastBroken 2 (.iload_n 2) 1 3 := ⟨by decide +kernel, rfl⟩
theorem d_X8_lastBroken_3 : DC mX8_lastBroken 3 (.ifCond .lt 21) 3 6 := ⟨by decide +kernel, rfl⟩
theorem d_X8_lastBroken_6 : DC mX8_lastBroken 6 (.aload_n 0) 1 7 := ⟨by decide +kernel, rfl⟩
theorem d_X8_lastBroken_7 : DC mX8_lastBroken 7 (.getfield 35) 3 10 := ⟨by decide +kernel, rfl⟩
theorem d_X8_lastBroken_10 : DC mX8_lastBroken 10 (.iload_n 2) 1 11 := ⟨by decide +kernel, rfl⟩
theorem d_X8_lastBroken_11 : DC mX8_lastBroken 11 (.laload) 1 12 := ⟨by decide +kernel, rfl⟩
theorem d_X8_lastBroken_12 : DC mX8_lastBroken 12 (.invokestatic 39) 3 15 := ⟨by decide +kernel, rfl⟩
theorem d_X8_lastBroken_15 : DC mX8_lastBroken 15 (.ifCond .ne 9) 3 18 := ⟨by decide +kernel, rfl⟩
theorem d_X8_lastBroken_18 : DC mX8_lastBroken 18 (.iinc 2 (-1)) 3 21 := ⟨by decide +kernel, rfl⟩
theorem d_X8_lastBroken_21 : DC mX8_lastBroken 21 (.goto (-19)) 3 24 := ⟨by decide +kernel, rfl⟩
theorem d_X8_lastBroken_24 : DC mX8_lastBroken 24 (.iload_n 2) 1 25 := ⟨by decide +kernel, rfl⟩
theorem d_X8_lastBroken_25 : DC mX8_lastBroken 25 (.ireturn) 1 26 := ⟨by decide +kernel, rfl⟩
theorem v_X8_straighten_0 {l : Launch} {d N : Nat} {Λ : Lay} {P : Int → Mem → Prop} {σ : Mem} {a1 a2 t : Int} (o_a2 : Ob N Λ a2 15 3) (o_a1 : Ob N Λ a1 15 3) (o_t : Ob N Λ t 17 2) (h0d : 1 ≤ d)
    (h : (CV l mX5_take (d - 1) [(2, a2), (2, a1)] N Λ σ (fun σ1 => (∀ τ2, τ2 = st σ1 t 0 0 → (CI l mX8_lastBroken (d - 1) [(2, a2), (0, (subI (τ2 a2 2) 1))] N Λ τ2 (fun v4 σ3 => WI l mX8_straighten d P 21 [(2, t), (2, a1), (2, a2), (0, v4), (3, 0), (3, 0), (3, 0), (3, 0), (3, 0), (3, 0), (3, 0), (3, 0), (3, 0), (3, 0)] [] N Λ σ3)))))) :
    WI l mX8_straighten d P 0 [(2, t), (2, a1), (2, a2), (3, 0), (3, 0), (3, 0), (3, 0), (3, 0), (3, 0), (3, 0), (3, 0), (3, 0), (3, 0), (3, 0)] [] N Λ σ := by
  refine r_aload_n (x := a2) d_X8_straighten_0 rfl o_a2.1 ?_
  refine r_aload_n (x := a1) d_X8_straighten_1 rfl o_a1.1 ?_
  refine r_callV (Y2 := mX5_take) (d := d - 1) (mc := 0) (ms := 0) (c := a2) (As := [(2, a1)]) (S := []) d_X8_straighten_2 ok_mX5_take ml_X8_22 rfl (rmc h0d (by decide)) rm00 (Nat.le_of_ble_eq_true rfl) rfl kX5 o_a2.1 o_a2.2.1 o_a2.2.2.1 o_a2.2.2.2 (MC.mono h (fun r N1 Λ1 σ1 hq => ?_))
  obtain ⟨rfl, rfl, rfl, h⟩ := hq
  refine r_aload_n (x := t) d_X8_straighten_5 rfl o_t.1 ?_
  refine r_iconst (x := 0) d_X8_straighten_6 ⟨by decide, by decide⟩ ?_
  refine r_putI (j := 0) d_X8_straighten_7 kX8 (by decide) fl_X8_9 rfl o_t.1 o_t.2.1 o_t.2.2.1 o_t.2.2.2 rfl ?_
  refine r_nmM (fun τ2 eτ2 => ?_)
  have h := h τ2 eτ2
  refine r_aload_n (x := a2) d_X8_straighten_10 rfl o_a2.1 ?_
  refine r_aload_n (x := a2) d_X8_straighten_11 rfl o_a2.1 ?_
  refine r_getf (j := 2) (t := 0) (x := (τ2 a2 2)) d_X8_straighten_12 kX5 (by decide) fl_X8_28 o_a2.1 o_a2.2.1 o_a2.2.2.1 o_a2.2.2.2 rfl rfl ?_
  refine r_iconst (x := 1) d_X8_straighten_15 ⟨by decide, by decide⟩ ?_
  refine r_isub d_X8_straighten_16 ?_
  refine r_callS (Y2 := mX8_lastBroken) (d := d - 1) (mc := 0) (ms := 0) (As := [(2, a2), (0, (subI (τ2 a2 2) 1))]) (S := []) d_X8_straighten_17 ok_mX8_lastBroken ml_X8_31 rfl (rmc h0d (by decide)) rm00 (Nat.le_of_ble_eq_true rfl) rfl (MC.mono h (fun r N1 Λ1 σ3 hq => ?_))
  obtain ⟨v4, rfl, rfl, rfl, h⟩ := hq
  refine r_istore_n (L2 := [(2, t), (2, a1), (2, a2), (0, v4), (3, 0), (3, 0), (3, 0), (3, 0), (3, 0), (3, 0), (3, 0), (3, 0), (3, 0), (3, 0)]) d_X8_straighten_20 (by decide) rfl rfl ?_
  exact h
theorem v_X8_straighten_21 {l : Launch} {d N : Nat} {Λ : Lay} {P : Int → Mem → Prop} {σ : Mem} {x3 a1 a2 a2_keys a2_numbers t : Int} (o_t : Ob N Λ t 17 2) (o_a2 : Ob N Λ a2 15 3) (f_a2_keys : (Λ a2).2.2 0 = a2_keys) (f_a2_numbers : (Λ a2).2.2 1 = a2_numbers) (h0d : 1 ≤ d)
    (h : ((x3 < 0 → ((x3 < 0 → P 0 σ) ∧ (¬ (x3 < 0) → P 3 σ))) ∧ (¬ (x3 < 0) → ((900 ≤ (σ t 0) → ((x3 < 0 → P 0 σ) ∧ (¬ (x3 < 0) → P 3 σ))) ∧ (¬ (900 ≤ (σ t 0)) → (∀ y1, y1 = (subI (subI (σ a2 2) 1) x3) → (Ix N Λ a2_keys 1 x3 ∧ (∀ y2, y2 = (σ a2_keys x3) → (CI l mX6_breakOf (d - 1) [(1, y2)] N Λ σ (fun v4 σ3 => (CI l mX6_bracketOfBreak (d - 1) [(0, v4)] N Λ σ3 (fun v6 σ5 => (CI l mX6_bracketAt (d - 1) [(1, y2), (0, v6)] N Λ σ5 (fun v8 σ7 => (CI l mX6_bracketAt (d - 1) [(1, y2), (0, (addI v6 1))] N Λ σ7 (fun v10 σ9 => (Ix N Λ a2_numbers 0 x3 ∧ (∀ y11, y11 = (negL (σ9 a2_numbers x3)) → (CI l mX6_placeOfBreak (d - 1) [(0, v4)] N Λ σ9 (fun v13 σ12 => (CL l mX6_withoutTwo (d - 1) [(1, y2), (0, v6)] N Λ σ12 (fun v15 σ14 => (CI l mX8_layExchange (d - 1) [(2, t), (2, a2), (0, v8), (0, v10), (0, v13), (1, v15), (1, y11)] N Λ σ14 (fun v17 σ16 => ((v17 = 0 → (∀ τ18, τ18 = st σ16 t 0 (addI (σ16 t 0) 1) → (CI l mX8_lastBroken (d - 1) [(2, a2), (0, (subI (subI (τ18 a2 2) 1) y1))] N Λ τ18 (fun v20 σ19 => WI l mX8_straighten d P 21 [(2, t), (2, a1), (2, a2), (0, v20), (3, 0), (3, 0), (3, 0), (3, 0), (3, 0), (3, 0), (3, 0), (3, 0), (3, 0), (3, 0)] [] N Λ σ19)))) ∧ (¬ (v17 = 0) → P v17 σ16)))))))))))))))))))))))))) :
    WI l mX8_straighten d P 21 [(2, t), (2, a1), (2, a2), (0, x3), (3, 0), (3, 0), (3, 0), (3, 0), (3, 0), (3, 0), (3, 0), (3, 0), (3, 0), (3, 0)] [] N Λ σ := by
  refine r_iload_n (x := x3) d_X8_straighten_21 rfl ?_
  refine r_if_lt (tgt := 157) d_X8_straighten_22 rfl (fun hc => ?_) (fun hc => ?_)
  · have h := h.1 hc
    refine r_iload_n (x := x3) d_X8_straighten_157 rfl ?_
    refine r_if_lt (tgt := 165) d_X8_straighten_158 rfl (fun hc => ?_) (fun hc => ?_)
    · have h := h.1 hc
      refine r_iconst (x := 0) d_X8_straighten_165 ⟨by decide, by decide⟩ ?_
      exact r_iret d_X8_straighten_166 rfl rfl (Nat.le_refl 0) (Nat.le_refl 0) ⟨_, rfl, rfl, rfl, h⟩
    · have h := h.2 hc
      refine r_iconst (x := 3) d_X8_straighten_161 ⟨by decide, by decide⟩ ?_
      refine r_goto (tgt := 166) d_X8_straighten_162 rfl ?_
      exact r_iret d_X8_straighten_166 rfl rfl (Nat.le_refl 0) (Nat.le_refl 0) ⟨_, rfl, rfl, rfl, h⟩
  · have h := h.2 hc
    refine r_aload_n (x := t) d_X8_straighten_25 rfl o_t.1 ?_
    refine r_getf (j := 0) (t := 0) (x := (σ t 0)) d_X8_straighten_26 kX8 (by decide) fl_X8_9 o_t.1 o_t.2.1 o_t.2.2.1 o_t.2.2.2 rfl rfl ?_
    refine r_sipush (x := 900) d_X8_straighten_29 ⟨by decide, by decide⟩ (by decide) ?_
    refine r_ic_ge (tgt := 157) d_X8_straighten_32 rfl (fun hc => ?_) (fun hc => ?_)
    · have h := h.1 hc
      refine r_iload_n (x := x3) d_X8_straighten_157 rfl ?_
      refine r_if_lt (tgt := 165) d_X8_straighten_158 rfl (fun hc => ?_) (fun hc => ?_)
      · have h := h.1 hc
        refine r_iconst (x := 0) d_X8_straighten_165 ⟨by decide, by decide⟩ ?_
        exact r_iret d_X8_straighten_166 rfl rfl (Nat.le_refl 0) (Nat.le_refl 0) ⟨_, rfl, rfl, rfl, h⟩
      · have h := h.2 hc
        refine r_iconst (x := 3) d_X8_straighten_161 ⟨by decide, by decide⟩ ?_
        refine r_goto (tgt := 166) d_X8_straighten_162 rfl ?_
        exact r_iret d_X8_straighten_166 rfl rfl (Nat.le_refl 0) (Nat.le_refl 0) ⟨_, rfl, rfl, rfl, h⟩
    · have h := h.2 hc
      refine r_aload_n (x := a2) d_X8_straighten_35 rfl o_a2.1 ?_
      refine r_getf (j := 2) (t := 0) (x := (σ a2 2)) d_X8_straighten_36 kX5 (by decide) fl_X8_28 o_a2.1 o_a2.2.1 o_a2.2.2.1 o_a2.2.2.2 rfl rfl ?_
      refine r_iconst (x := 1) d_X8_straighten_39 ⟨by decide, by decide⟩ ?_
      refine r_isub d_X8_straighten_40 ?_
      refine r_iload_n (x := x3) d_X8_straighten_41 rfl ?_
      refine r_isub d_X8_straighten_42 ?_
      refine r_nm (fun y1 ey1 => ?_)
      have h := h y1 ey1
      refine r_istore (L2 := [(2, t), (2, a1), (2, a2), (0, x3), (0, y1), (3, 0), (3, 0), (3, 0), (3, 0), (3, 0), (3, 0), (3, 0), (3, 0), (3, 0)]) d_X8_straighten_43 (by decide) rfl rfl ?_
      refine r_aload_n (x := a2) d_X8_straighten_45 rfl o_a2.1 ?_
      refine r_getf (j := 0) (t := 2) (x := a2_keys) d_X8_straighten_46 kX5 (by decide) fl_X8_35 o_a2.1 o_a2.2.1 o_a2.2.2.1 o_a2.2.2.2 rfl f_a2_keys ?_
      refine r_iload_n (x := x3) d_X8_straighten_49 rfl ?_
      refine x_lald d_X8_straighten_50 h.1 ?_
      have h := h.2
      refine r_nm (fun y2 ey2 => ?_)
      have h := h y2 ey2
      refine r_lstore (L2 := [(2, t), (2, a1), (2, a2), (0, x3), (0, y1), (1, y2), (3, 0), (3, 0), (3, 0), (3, 0), (3, 0), (3, 0), (3, 0), (3, 0)]) d_X8_straighten_51 (by decide) rfl rfl ?_
      refine r_lload (x := y2) d_X8_straighten_53 rfl ?_
      refine r_callS (Y2 := mX6_breakOf) (d := d - 1) (mc := 0) (ms := 0) (As := [(1, y2)]) (S := []) d_X8_straighten_55 ok_mX6_breakOf ml_X8_39 rfl (rmc h0d (by decide)) rm00 (Nat.le_of_ble_eq_true rfl) rfl (MC.mono h (fun r N1 Λ1 σ3 hq => ?_))
      obtain ⟨v4, rfl, rfl, rfl, h⟩ := hq
      refine r_istore (L2 := [(2, t), (2, a1), (2, a2), (0, x3), (0, y1), (1, y2), (3, 0), (0, v4), (3, 0), (3, 0), (3, 0), (3, 0), (3, 0), (3, 0)]) d_X8_straighten_58 (by decide) rfl rfl ?_
      refine r_iload (x := v4) d_X8_straighten_60 rfl ?_
      refine r_callS (Y2 := mX6_bracketOfBreak) (d := d - 1) (mc := 0) (ms := 0) (As := [(0, v4)]) (S := []) d_X8_straighten_62 ok_mX6_bracketOfBreak ml_X8_45 rfl (rmc h0d (by decide)) rm00 (Nat.le_of_ble_eq_true rfl) rfl (MC.mono h (fun r N1 Λ1 σ5 hq => ?_))
      obtain ⟨v6, rfl, rfl, rfl, h⟩ := hq
      refine r_istore (L2 := [(2, t), (2, a1), (2, a2), (0, x3), (0, y1), (1, y2), (3, 0), (0, v4), (0, v6), (3, 0), (3, 0), (3, 0), (3, 0), (3, 0)]) d_X8_straighten_65 (by decide) rfl rfl ?_
      refine r_lload (x := y2) d_X8_straighten_67 rfl ?_
      refine r_iload (x := v6) d_X8_straighten_69 rfl ?_
      refine r_callS (Y2 := mX6_bracketAt) (d := d - 1) (mc := 0) (ms := 0) (As := [(1, y2), (0, v6)]) (S := []) d_X8_straighten_71 ok_mX6_bracketAt ml_X8_49 rfl (rmc h0d (by decide)) rm00 (Nat.le_of_ble_eq_true rfl) rfl (MC.mono h (fun r N1 Λ1 σ7 hq => ?_))
      obtain ⟨v8, rfl, rfl, rfl, h⟩ := hq
      refine r_istore (L2 := [(2, t), (2, a1), (2, a2), (0, x3), (0, y1), (1, y2), (3, 0), (0, v4), (0, v6), (0, v8), (3, 0), (3, 0), (3, 0), (3, 0)]) d_X8_straighten_74 (by decide) rfl rfl ?_
      refine r_lload (x := y2) d_X8_straighten_76 rfl ?_
      refine r_iload (x := v6) d_X8_straighten_78 rfl ?_
      refine r_iconst (x := 1) d_X8_straighten_80 ⟨by decide, by decide⟩ ?_
      refine r_iadd d_X8_straighten_81 ?_
      refine r_callS (Y2 := mX6_bracketAt) (d := d - 1) (mc := 0) (ms := 0) (As := [(1, y2), (0, (addI v6 1))]) (S := []) d_X8_straighten_82 ok_mX6_bracketAt ml_X8_49 rfl (rmc h0d (by decide)) rm00 (Nat.le_of_ble_eq_true rfl) rfl (MC.mono h (fun r N1 Λ1 σ9 hq => ?_))
      obtain ⟨v10, rfl, rfl, rfl, h⟩ := hq
      refine r_istore (L2 := [(2, t), (2, a1), (2, a2), (0, x3), (0, y1), (1, y2), (3, 0), (0, v4), (0, v6), (0, v8), (0, v10), (3, 0), (3, 0), (3, 0)]) d_X8_straighten_85 (by decide) rfl rfl ?_
      refine r_aload_n (x := a2) d_X8_straighten_87 rfl o_a2.1 ?_
      refine r_getf (j := 1) (t := 2) (x := a2_numbers) d_X8_straighten_88 kX5 (by decide) fl_X8_53 o_a2.1 o_a2.2.1 o_a2.2.2.1 o_a2.2.2.2 rfl f_a2_numbers ?_
      refine r_iload_n (x := x3) d_X8_straighten_91 rfl ?_
      refine x_iald d_X8_straighten_92 h.1 ?_
      have h := h.2
      refine r_i2l d_X8_straighten_93 ?_
      refine r_lneg d_X8_straighten_94 ?_
      refine r_nm (fun y11 ey11 => ?_)
      have h := h y11 ey11
      refine r_lstore (L2 := [(2, t), (2, a1), (2, a2), (0, x3), (0, y1), (1, y2), (3, 0), (0, v4), (0, v6), (0, v8), (0, v10), (1, y11), (3, 0), (3, 0)]) d_X8_straighten_95 (by decide) rfl rfl ?_
      refine r_aload_n (x := t) d_X8_straighten_97 rfl o_t.1 ?_
      refine r_aload_n (x := a2) d_X8_straighten_98 rfl o_a2.1 ?_
      refine r_iload (x := v8) d_X8_straighten_99 rfl ?_
      refine r_iload (x := v10) d_X8_straighten_101 rfl ?_
      refine r_iload (x := v4) d_X8_straighten_103 rfl ?_
      refine r_callS (Y2 := mX6_placeOfBreak) (d := d - 1) (mc := 0) (ms := 0) (As := [(0, v4)]) (S := [(0, v10), (0, v8), (2, a2), (2, t)]) d_X8_straighten_105 ok_mX6_placeOfBreak ml_X8_57 rfl (rmc h0d (by decide)) rm00 (Nat.le_of_ble_eq_true rfl) rfl (MC.mono h (fun r N1 Λ1 σ12 hq => ?_))
      obtain ⟨v13, rfl, rfl, rfl, h⟩ := hq
      refine r_lload (x := y2) d_X8_straighten_108 rfl ?_
      refine r_iload (x := v6) d_X8_straighten_110 rfl ?_
      refine r_callS (Y2 := mX6_withoutTwo) (d := d - 1) (mc := 0) (ms := 0) (As := [(1, y2), (0, v6)]) (S := [(0, v13), (0, v10), (0, v8), (2, a2), (2, t)]) d_X8_straighten_112 ok_mX6_withoutTwo ml_X8_60 rfl (rmc h0d (by decide)) rm00 (Nat.le_of_ble_eq_true rfl) rfl (MC.mono h (fun r N1 Λ1 σ14 hq => ?_))
      obtain ⟨v15, rfl, rfl, rfl, h⟩ := hq
      refine r_lload (x := y11) d_X8_straighten_115 rfl ?_
      refine r_callV (Y2 := mX8_layExchange) (d := d - 1) (mc := 0) (ms := 0) (c := t) (As := [(2, a2), (0, v8), (0, v10), (0, v13), (1, v15), (1, y11)]) (S := []) d_X8_straighten_117 ok_mX8_layExchange ml_X8_64 rfl (rmc h0d (by decide)) rm00 (Nat.le_of_ble_eq_true rfl) rfl kX8 o_t.1 o_t.2.1 o_t.2.2.1 o_t.2.2.2 (MC.mono h (fun r N1 Λ1 σ16 hq => ?_))
      obtain ⟨v17, rfl, rfl, rfl, h⟩ := hq
      refine r_istore (L2 := [(2, t), (2, a1), (2, a2), (0, x3), (0, y1), (1, y2), (3, 0), (0, v4), (0, v6), (0, v8), (0, v10), (1, y11), (3, 0), (0, v17)]) d_X8_straighten_120 (by decide) rfl rfl ?_
      refine r_iload (x := v17) d_X8_straighten_122 rfl ?_
      refine r_if_eq (tgt := 130) d_X8_straighten_124 rfl (fun hc => ?_) (fun hc => ?_)
      · have h := h.1 hc
        refine r_aload_n (x := t) d_X8_straighten_130 rfl o_t.1 ?_
        refine r_dup d_X8_straighten_131 rfl ?_
        refine r_getf (j := 0) (t := 0) (x := (σ16 t 0)) d_X8_straighten_132 kX8 (by decide) fl_X8_9 o_t.1 o_t.2.1 o_t.2.2.1 o_t.2.2.2 rfl rfl ?_
        refine r_iconst (x := 1) d_X8_straighten_135 ⟨by decide, by decide⟩ ?_
        refine r_iadd d_X8_straighten_136 ?_
        refine r_putI (j := 0) d_X8_straighten_137 kX8 (by decide) fl_X8_9 rfl o_t.1 o_t.2.1 o_t.2.2.1 o_t.2.2.2 rfl ?_
        refine r_nmM (fun τ18 eτ18 => ?_)
        have h := h τ18 eτ18
        refine r_aload_n (x := a2) d_X8_straighten_140 rfl o_a2.1 ?_
        refine r_aload_n (x := a2) d_X8_straighten_141 rfl o_a2.1 ?_
        refine r_getf (j := 2) (t := 0) (x := (τ18 a2 2)) d_X8_straighten_142 kX5 (by decide) fl_X8_28 o_a2.1 o_a2.2.1 o_a2.2.2.1 o_a2.2.2.2 rfl rfl ?_
        refine r_iconst (x := 1) d_X8_straighten_145 ⟨by decide, by decide⟩ ?_
        refine r_isub d_X8_straighten_146 ?_
        refine r_iload (x := y1) d_X8_straighten_147 rfl ?_
        refine r_isub d_X8_straighten_149 ?_
        refine r_callS (Y2 := mX8_lastBroken) (d := d - 1) (mc := 0) (ms := 0) (As := [(2, a2), (0, (subI (subI (τ18 a2 2) 1) y1))]) (S := []) d_X8_straighten_150 ok_mX8_lastBroken ml_X8_31 rfl (rmc h0d (by decide)) rm00 (Nat.le_of_ble_eq_true rfl) rfl (MC.mono h (fun r N1 Λ1 σ19 hq => ?_))
        obtain ⟨v20, rfl, rfl, rfl, h⟩ := hq
        refine r_istore_n (L2 := [(2, t), (2, a1), (2, a2), (0, v20), (0, y1), (1, y2), (3, 0), (0, v4), (0, v6), (0, v8), (0, v10), (1, y11), (3, 0), (0, v17)]) d_X8_straighten_153 (by decide) rfl rfl ?_
        refine r_goto (tgt := 21) d_X8_straighten_154 rfl ?_
        exact x_mask h ⟨Or.inr rfl, Or.inr rfl, Or.inr rfl, Or.inr rfl, Or.inl rfl, Or.inl rfl, Or.inl rfl, Or.inl rfl, Or.inl rfl, Or.inl rfl, Or.inl rfl, Or.inl rfl, Or.inl rfl, Or.inl rfl, trivial⟩
      · have h := h.2 hc
        refine r_iload (x := v17) d_X8_straighten_127 rfl ?_
        exact r_iret d_X8_straighten_129 rfl rfl (Nat.le_refl 0) (Nat.le_refl 0) ⟨_, rfl, rfl, rfl, h⟩
theorem v_X8_layExchange_0 {l : Launch} {d N : Nat} {Λ : Lay} {P : Int → Mem → Prop} {σ : Mem} {x2 x3 x4 x5 x7 a1 t : Int}
    (h : (∀ y1, y1 = (mulI 4 (subI 3 x4)) → (∀ y2, y2 = (andI (orI (shlI x2 (mulI 4 x4)) (shrI x3 y1)) 65535) → WI l mX8_layExchange d P 31 [(2, t), (2, a1), (0, x2), (0, x3), (0, x4), (1, x5), (3, 0), (1, x7), (3, 0), (0, 0), (0, y1), (0, y2), (0, 15), (3, 0)] [] N Λ σ))) :
    WI l mX8_layExchange d P 0 [(2, t), (2, a1), (0, x2), (0, x3), (0, x4), (1, x5), (3, 0), (1, x7), (3, 0), (3, 0), (3, 0), (3, 0), (3, 0), (3, 0)] [] N Λ σ := by
  refine r_iconst (x := 0) d_X8_layExchange_0 ⟨by decide, by decide⟩ ?_
  refine r_istore (L2 := [(2, t), (2, a1), (0, x2), (0, x3), (0, x4), (1, x5), (3, 0), (1, x7), (3, 0), (0, 0), (3, 0), (3, 0), (3, 0), (3, 0)]) d_X8_layExchange_1 (by decide) rfl rfl ?_
  refine r_iconst (x := 4) d_X8_layExchange_3 ⟨by decide, by decide⟩ ?_
  refine r_iconst (x := 3) d_X8_layExchange_4 ⟨by decide, by decide⟩ ?_
  refine r_iload (x := x4) d_X8_layExchange_5 rfl ?_
  refine r_isub d_X8_layExchange_7 ?_
  refine r_imul d_X8_layExchange_8 ?_
  refine r_nm (fun y1 ey1 => ?_)
  have h := h y1 ey1
  refine r_istore (L2 := [(2, t), (2, a1), (0, x2), (0, x3), (0, x4), (1, x5), (3, 0), (1, x7), (3, 0), (0, 0), (0, y1), (3, 0), (3, 0), (3, 0)]) d_X8_layExchange_9 (by decide) rfl rfl ?_
  refine r_iload_n (x := x2) d_X8_layExchange_11 rfl ?_
  refine r_iconst (x := 4) d_X8_layExchange_12 ⟨by decide, by decide⟩ ?_
  refine r_iload (x := x4) d_X8_layExchange_13 rfl ?_
  refine r_imul d_X8_layExchange_15 ?_
  refine r_ishl d_X8_layExchange_16 ?_
  refine r_iload_n (x := x3) d_X8_layExchange_17 rfl ?_
  refine r_iload (x := y1) d_X8_layExchange_18 rfl ?_
  refine r_ishr d_X8_layExchange_20 ?_
  refine r_ior d_X8_layExchange_21 ?_
  refine r_ldc (x := 65535) d_X8_layExchange_22 ck_X8_68 (by decide) ?_
  refine r_iand d_X8_layExchange_24 ?_
  refine r_nm (fun y2 ey2 => ?_)
  have h := h y2 ey2
  refine r_istore (L2 := [(2, t), (2, a1), (0, x2), (0, x3), (0, x4), (1, x5), (3, 0), (1, x7), (3, 0), (0, 0), (0, y1), (0, y2), (3, 0), (3, 0)]) d_X8_layExchange_25 (by decide) rfl rfl ?_
  refine r_bipush (x := 15) d_X8_layExchange_27 ⟨by decide, by decide⟩ (by decide) ?_
  refine r_istore (L2 := [(2, t), (2, a1), (0, x2), (0, x3), (0, x4), (1, x5), (3, 0), (1, x7), (3, 0), (0, 0), (0, y1), (0, y2), (0, 15), (3, 0)]) d_X8_layExchange_29 (by decide) rfl rfl ?_
  exact h
theorem v_X8_layExchange_31 {l : Launch} {d N : Nat} {Λ : Lay} {P : Int → Mem → Prop} {σ : Mem} {x2 x3 x4 x5 x7 x9 x10 x11 x12 a1 t t_term : Int} (o_t : Ob N Λ t 17 2) (f_t_term : (Λ t).2.2 1 = t_term) (o_t_term : Ob N Λ t_term 19 2) (o_a1 : Ob N Λ a1 15 3) (h0d : 1 ≤ d)
    (h : ((x12 < 0 → P x9 σ) ∧ (¬ (x12 < 0) → ((¬ x9 = 0 → P x9 σ) ∧ (x9 = 0 → (CI l mJ6_bitCount_0f7a4 (d - 1) [(0, x12)] N Λ σ (fun v2 σ1 => ((¬ v2 = (subI 4 x4) → (∀ y3, y3 = addI x12 (-1) → WI l mX8_layExchange d P 31 [(2, t), (2, a1), (0, x2), (0, x3), (0, x4), (1, x5), (3, 0), (1, x7), (3, 0), (0, x9), (0, x10), (0, x11), (0, y3), (3, 0)] [] N Λ σ1)) ∧ (v2 = (subI 4 x4) → (CV l mX10_begin (d - 1) [(2, t_term), (1, x5)] N Λ σ1 (fun σ4 => (CI l mX8_attachWay (d - 1) [(2, t), (0, (shrI x2 (mulI 4 (subI 4 x4)))), (0, x11), (0, x12), (0, x3), (0, x10)] N Λ σ4 (fun v6 σ5 => (CI l mX5_lay (d - 1) [(2, a1), (1, (σ5 t_term 0)), (1, (mulL (mulL x7 v6) (σ5 t_term 1)))] N Λ σ5 (fun v8 σ7 => (∀ y9, y9 = addI x12 (-1) → WI l mX8_layExchange d P 31 [(2, t), (2, a1), (0, x2), (0, x3), (0, x4), (1, x5), (3, 0), (1, x7), (3, 0), (0, v8), (0, x10), (0, x11), (0, y9), (3, 0)] [] N Λ σ7)))))))))))))))) :
    WI l mX8_layExchange d P 31 [(2, t), (2, a1), (0, x2), (0, x3), (0, x4), (1, x5), (3, 0), (1, x7), (3, 0), (0, x9), (0, x10), (0, x11), (0, x12), (3, 0)] [] N Λ σ := by
  refine r_iload (x := x12) d_X8_layExchange_31 rfl ?_
  refine r_if_lt (tgt := 117) d_X8_layExchange_33 rfl (fun hc => ?_) (fun hc => ?_)
  · have h := h.1 hc
    refine r_iload (x := x9) d_X8_layExchange_117 rfl ?_
    exact r_iret d_X8_layExchange_119 rfl rfl (Nat.le_refl 0) (Nat.le_refl 0) ⟨_, rfl, rfl, rfl, h⟩
  · have h := h.2 hc
    refine r_iload (x := x9) d_X8_layExchange_36 rfl ?_
    refine r_if_ne (tgt := 117) d_X8_layExchange_38 rfl (fun hc => ?_) (fun hc => ?_)
    · have h := h.1 hc
      refine r_iload (x := x9) d_X8_layExchange_117 rfl ?_
      exact r_iret d_X8_layExchange_119 rfl rfl (Nat.le_refl 0) (Nat.le_refl 0) ⟨_, rfl, rfl, rfl, h⟩
    · have h := h.2 hc
      refine r_iload (x := x12) d_X8_layExchange_41 rfl ?_
      refine r_callS (Y2 := mJ6_bitCount_0f7a4) (d := d - 1) (mc := 0) (ms := 0) (As := [(0, x12)]) (S := []) d_X8_layExchange_43 ok_mJ6_bitCount_0f7a4 ml_X8_69 rfl (rmc h0d (by decide)) rm00 (Nat.le_of_ble_eq_true rfl) rfl (MC.mono h (fun r N1 Λ1 σ1 hq => ?_))
      obtain ⟨v2, rfl, rfl, rfl, h⟩ := hq
      refine r_iconst (x := 4) d_X8_layExchange_46 ⟨by decide, by decide⟩ ?_
      refine r_iload (x := x4) d_X8_layExchange_47 rfl ?_
      refine r_isub d_X8_layExchange_49 ?_
      refine r_ic_ne (tgt := 111) d_X8_layExchange_50 rfl (fun hc => ?_) (fun hc => ?_)
      · have h := h.1 hc
        refine x_iinc (x := x12) (L := [(2, t), (2, a1), (0, x2), (0, x3), (0, x4), (1, x5), (3, 0), (1, x7), (3, 0), (0, x9), (0, x10), (0, x11), (0, x12), (3, 0)]) d_X8_layExchange_111 rfl (by decide) rfl (fun y3 ey3 => ?_)
        have h := h y3 ey3
        show WP _ _ _ _ _ _ _ _ [(2, t), (2, a1), (0, x2), (0, x3), (0, x4), (1, x5), (3, 0), (1, x7), (3, 0), (0, x9), (0, x10), (0, x11), (0, y3), (3, 0)] _ _ _ _
        refine r_goto (tgt := 31) d_X8_layExchange_114 rfl ?_
        exact h
      · have h := h.2 hc
        refine r_aload_n (x := t) d_X8_layExchange_53 rfl o_t.1 ?_
        refine r_getf (j := 1) (t := 2) (x := t_term) d_X8_layExchange_54 kX8 (by decide) fl_X8_18 o_t.1 o_t.2.1 o_t.2.2.1 o_t.2.2.2 rfl f_t_term ?_
        refine r_lload (x := x5) d_X8_layExchange_57 rfl ?_
        refine r_callV (Y2 := mX10_begin) (d := d - 1) (mc := 0) (ms := 0) (c := t_term) (As := [(1, x5)]) (S := []) d_X8_layExchange_59 ok_mX10_begin ml_X8_74 rfl (rmc h0d (by decide)) rm00 (Nat.le_of_ble_eq_true rfl) rfl kX10 o_t_term.1 o_t_term.2.1 o_t_term.2.2.1 o_t_term.2.2.2 (MC.mono h (fun r N1 Λ1 σ4 hq => ?_))
        obtain ⟨rfl, rfl, rfl, h⟩ := hq
        refine r_aload_n (x := t) d_X8_layExchange_62 rfl o_t.1 ?_
        refine r_iload_n (x := x2) d_X8_layExchange_63 rfl ?_
        refine r_iconst (x := 4) d_X8_layExchange_64 ⟨by decide, by decide⟩ ?_
        refine r_iconst (x := 4) d_X8_layExchange_65 ⟨by decide, by decide⟩ ?_
        refine r_iload (x := x4) d_X8_layExchange_66 rfl ?_
        refine r_isub d_X8_layExchange_68 ?_
        refine r_imul d_X8_layExchange_69 ?_
        refine r_ishr d_X8_layExchange_70 ?_
        refine r_iload (x := x11) d_X8_layExchange_71 rfl ?_
        refine r_iload (x := x12) d_X8_layExchange_73 rfl ?_
        refine r_iload_n (x := x3) d_X8_layExchange_75 rfl ?_
        refine r_iload (x := x10) d_X8_layExchange_76 rfl ?_
        refine r_callV (Y2 := mX8_attachWay) (d := d - 1) (mc := 0) (ms := 0) (c := t) (As := [(0, (shrI x2 (mulI 4 (subI 4 x4)))), (0, x11), (0, x12), (0, x3), (0, x10)]) (S := []) d_X8_layExchange_78 ok_mX8_attachWay ml_X8_78 rfl (rmc h0d (by decide)) rm00 (Nat.le_of_ble_eq_true rfl) rfl kX8 o_t.1 o_t.2.1 o_t.2.2.1 o_t.2.2.2 (MC.mono h (fun r N1 Λ1 σ5 hq => ?_))
        obtain ⟨v6, rfl, rfl, rfl, h⟩ := hq
        refine r_istore (L2 := [(2, t), (2, a1), (0, x2), (0, x3), (0, x4), (1, x5), (3, 0), (1, x7), (3, 0), (0, x9), (0, x10), (0, x11), (0, x12), (0, v6)]) d_X8_layExchange_81 (by decide) rfl rfl ?_
        refine r_aload_n (x := a1) d_X8_layExchange_83 rfl o_a1.1 ?_
        refine r_aload_n (x := t) d_X8_layExchange_84 rfl o_t.1 ?_
        refine r_getf (j := 1) (t := 2) (x := t_term) d_X8_layExchange_85 kX8 (by decide) fl_X8_18 o_t.1 o_t.2.1 o_t.2.2.1 o_t.2.2.2 rfl f_t_term ?_
        refine r_getf (j := 0) (t := 1) (x := (σ5 t_term 0)) d_X8_layExchange_88 kX10 (by decide) fl_X8_82 o_t_term.1 o_t_term.2.1 o_t_term.2.2.1 o_t_term.2.2.2 rfl rfl ?_
        refine r_lload (x := x7) d_X8_layExchange_91 rfl ?_
        refine r_iload (x := v6) d_X8_layExchange_93 rfl ?_
        refine r_i2l d_X8_layExchange_95 ?_
        refine r_lmul d_X8_layExchange_96 ?_
        refine r_aload_n (x := t) d_X8_layExchange_97 rfl o_t.1 ?_
        refine r_getf (j := 1) (t := 2) (x := t_term) d_X8_layExchange_98 kX8 (by decide) fl_X8_18 o_t.1 o_t.2.1 o_t.2.2.1 o_t.2.2.2 rfl f_t_term ?_
        refine r_getf (j := 1) (t := 0) (x := (σ5 t_term 1)) d_X8_layExchange_101 kX10 (by decide) fl_X8_86 o_t_term.1 o_t_term.2.1 o_t_term.2.2.1 o_t_term.2.2.2 rfl rfl ?_
        refine r_i2l d_X8_layExchange_104 ?_
        refine r_lmul d_X8_layExchange_105 ?_
        refine r_callV (Y2 := mX5_lay) (d := d - 1) (mc := 0) (ms := 0) (c := a1) (As := [(1, (σ5 t_term 0)), (1, (mulL (mulL x7 v6) (σ5 t_term 1)))]) (S := []) d_X8_layExchange_106 ok_mX5_lay ml_X8_89 rfl (rmc h0d (by decide)) rm00 (Nat.le_of_ble_eq_true rfl) rfl kX5 o_a1.1 o_a1.2.1 o_a1.2.2.1 o_a1.2.2.2 (MC.mono h (fun r N1 Λ1 σ7 hq => ?_))
        obtain ⟨v8, rfl, rfl, rfl, h⟩ := hq
        refine r_istore (L2 := [(2, t), (2, a1), (0, x2), (0, x3), (0, x4), (1, x5), (3, 0), (1, x7), (3, 0), (0, v8), (0, x10), (0, x11), (0, x12), (0, v6)]) d_X8_layExchange_109 (by decide) rfl rfl ?_
        refine x_iinc (x := x12) (L := [(2, t), (2, a1), (0, x2), (0, x3), (0, x4), (1, x5), (3, 0), (1, x7), (3, 0), (0, v8), (0, x10), (0, x11), (0, x12), (0, v6)]) d_X8_layExchange_111 rfl (by decide) rfl (fun y9 ey9 => ?_)
        have h := h y9 ey9
        show WP _ _ _ _ _ _ _ _ [(2, t), (2, a1), (0, x2), (0, x3), (0, x4), (1, x5), (3, 0), (1, x7), (3, 0), (0, v8), (0, x10), (0, x11), (0, y9), (0, v6)] _ _ _ _
        refine r_goto (tgt := 31) d_X8_layExchange_114 rfl ?_
        exact x_mask h ⟨Or.inr rfl, Or.inr rfl, Or.inr rfl, Or.inr rfl, Or.inr rfl, Or.inr rfl, Or.inl rfl, Or.inr rfl, Or.inl rfl, Or.inr rfl, Or.inr rfl, Or.inr rfl, Or.inr rfl, Or.inl rfl, trivial⟩
theorem v_X8_attachWay_0 {l : Launch} {d N : Nat} {Λ : Lay} {P : Int → Mem → Prop} {σ : Mem} {x1 x2 x3 x4 x5 t : Int}
    (h : WI l mX8_attachWay d P 15 [(2, t), (0, x1), (0, x2), (0, x3), (0, x4), (0, x5), (0, x1), (0, 0), (0, 0), (0, 0), (0, 3), (3, 0)] [] N Λ σ) :
    WI l mX8_attachWay d P 0 [(2, t), (0, x1), (0, x2), (0, x3), (0, x4), (0, x5), (3, 0), (3, 0), (3, 0), (3, 0), (3, 0), (3, 0)] [] N Λ σ := by
  refine r_iload_n (x := x1) d_X8_attachWay_0 rfl ?_
  refine r_istore (L2 := [(2, t), (0, x1), (0, x2), (0, x3), (0, x4), (0, x5), (0, x1), (3, 0), (3, 0), (3, 0), (3, 0), (3, 0)]) d_X8_attachWay_1 (by decide) rfl rfl ?_
  refine r_iconst (x := 0) d_X8_attachWay_3 ⟨by decide, by decide⟩ ?_
  refine r_istore (L2 := [(2, t), (0, x1), (0, x2), (0, x3), (0, x4), (0, x5), (0, x1), (0, 0), (3, 0), (3, 0), (3, 0), (3, 0)]) d_X8_attachWay_4 (by decide) rfl rfl ?_
  refine r_iconst (x := 0) d_X8_attachWay_6 ⟨by decide, by decide⟩ ?_
  refine r_istore (L2 := [(2, t), (0, x1), (0, x2), (0, x3), (0, x4), (0, x5), (0, x1), (0, 0), (0, 0), (3, 0), (3, 0), (3, 0)]) d_X8_attachWay_7 (by decide) rfl rfl ?_
  refine r_iconst (x := 0) d_X8_attachWay_9 ⟨by decide, by decide⟩ ?_
  refine r_istore (L2 := [(2, t), (0, x1), (0, x2), (0, x3), (0, x4), (0, x5), (0, x1), (0, 0), (0, 0), (0, 0), (3, 0), (3, 0)]) d_X8_attachWay_10 (by decide) rfl rfl ?_
  refine r_iconst (x := 3) d_X8_attachWay_12 ⟨by decide, by decide⟩ ?_
  refine r_istore (L2 := [(2, t), (0, x1), (0, x2), (0, x3), (0, x4), (0, x5), (0, x1), (0, 0), (0, 0), (0, 0), (0, 3), (3, 0)]) d_X8_attachWay_13 (by decide) rfl rfl ?_
  exact h
theorem v_X8_attachWay_15 {l : Launch} {d N : Nat} {Λ : Lay} {P : Int → Mem → Prop} {σ : Mem} {x1 x2 x3 x4 x5 x6 x7 x8 x9 x10 t t_term : Int} (o_t : Ob N Λ t 17 2) (f_t_term : (Λ t).2.2 1 = t_term) (o_t_term : Ob N Λ t_term 19 2) (h0d : 1 ≤ d)
    (h : ((x10 < 0 → (CV l mX10_attach (d - 1) [(2, t_term), (0, x6)] N Λ σ (fun σ1 => (CV l mX10_attach (d - 1) [(2, t_term), (0, (orI (shlI x7 x5) (andI x4 (subI (shlI 1 x5) 1))))] N Λ σ1 (fun σ2 => ((¬ (andI x9 1) = 0 → P (-1) σ2) ∧ ((andI x9 1) = 0 → P 1 σ2))))))) ∧ (¬ (x10 < 0) → (∀ y3, y3 = (andI (shrI x2 (mulI 4 x10)) 15) → ((¬ (andI (shrI x3 x10) 1) = 1 → (∀ y4, y4 = (orI (shlI x7 4) y3) → (∀ y5, y5 = addI x8 1 → (∀ y6, y6 = addI x10 (-1) → WI l mX8_attachWay d P 15 [(2, t), (0, x1), (0, x2), (0, x3), (0, x4), (0, x5), (0, x6), (0, y4), (0, y5), (0, x9), (0, y6), (3, 0)] [] N Λ σ)))) ∧ ((andI (shrI x3 x10) 1) = 1 → (∀ y7, y7 = (orI (shlI x6 4) y3) → (∀ y8, y8 = (addI x9 x8) → (∀ y9, y9 = addI x10 (-1) → WI l mX8_attachWay d P 15 [(2, t), (0, x1), (0, x2), (0, x3), (0, x4), (0, x5), (0, y7), (0, x7), (0, x8), (0, y8), (0, y9), (3, 0)] [] N Λ σ))))))))) :
    WI l mX8_attachWay d P 15 [(2, t), (0, x1), (0, x2), (0, x3), (0, x4), (0, x5), (0, x6), (0, x7), (0, x8), (0, x9), (0, x10), (3, 0)] [] N Λ σ := by
  refine r_iload (x := x10) d_X8_attachWay_15 rfl ?_
  refine r_if_lt (tgt := 78) d_X8_attachWay_17 rfl (fun hc => ?_) (fun hc => ?_)
  · have h := h.1 hc
    refine r_aload_n (x := t) d_X8_attachWay_78 rfl o_t.1 ?_
    refine r_getf (j := 1) (t := 2) (x := t_term) d_X8_attachWay_79 kX8 (by decide) fl_X8_18 o_t.1 o_t.2.1 o_t.2.2.1 o_t.2.2.2 rfl f_t_term ?_
    refine r_iload (x := x6) d_X8_attachWay_82 rfl ?_
    refine r_callV (Y2 := mX10_attach) (d := d - 1) (mc := 0) (ms := 0) (c := t_term) (As := [(0, x6)]) (S := []) d_X8_attachWay_84 ok_mX10_attach ml_X8_93 rfl (rmc h0d (by decide)) rm00 (Nat.le_of_ble_eq_true rfl) rfl kX10 o_t_term.1 o_t_term.2.1 o_t_term.2.2.1 o_t_term.2.2.2 (MC.mono h (fun r N1 Λ1 σ1 hq => ?_))
    obtain ⟨rfl, rfl, rfl, h⟩ := hq
    refine r_aload_n (x := t) d_X8_attachWay_87 rfl o_t.1 ?_
    refine r_getf (j := 1) (t := 2) (x := t_term) d_X8_attachWay_88 kX8 (by decide) fl_X8_18 o_t.1 o_t.2.1 o_t.2.2.1 o_t.2.2.2 rfl f_t_term ?_
    refine r_iload (x := x7) d_X8_attachWay_91 rfl ?_
    refine r_iload (x := x5) d_X8_attachWay_93 rfl ?_
    refine r_ishl d_X8_attachWay_95 ?_
    refine r_iload (x := x4) d_X8_attachWay_96 rfl ?_
    refine r_iconst (x := 1) d_X8_attachWay_98 ⟨by decide, by decide⟩ ?_
    refine r_iload (x := x5) d_X8_attachWay_99 rfl ?_
    refine r_ishl d_X8_attachWay_101 ?_
    refine r_iconst (x := 1) d_X8_attachWay_102 ⟨by decide, by decide⟩ ?_
    refine r_isub d_X8_attachWay_103 ?_
    refine r_iand d_X8_attachWay_104 ?_
    refine r_ior d_X8_attachWay_105 ?_
    refine r_callV (Y2 := mX10_attach) (d := d - 1) (mc := 0) (ms := 0) (c := t_term) (As := [(0, (orI (shlI x7 x5) (andI x4 (subI (shlI 1 x5) 1))))]) (S := []) d_X8_attachWay_106 ok_mX10_attach ml_X8_93 rfl (rmc h0d (by decide)) rm00 (Nat.le_of_ble_eq_true rfl) rfl kX10 o_t_term.1 o_t_term.2.1 o_t_term.2.2.1 o_t_term.2.2.2 (MC.mono h (fun r N1 Λ1 σ2 hq => ?_))
    obtain ⟨rfl, rfl, rfl, h⟩ := hq
    refine r_iload (x := x9) d_X8_attachWay_109 rfl ?_
    refine r_iconst (x := 1) d_X8_attachWay_111 ⟨by decide, by decide⟩ ?_
    refine r_iand d_X8_attachWay_112 ?_
    refine r_if_ne (tgt := 120) d_X8_attachWay_113 rfl (fun hc => ?_) (fun hc => ?_)
    · have h := h.1 hc
      refine r_iconst (x := (-1)) d_X8_attachWay_120 ⟨by decide, by decide⟩ ?_
      exact r_iret d_X8_attachWay_121 rfl rfl (Nat.le_refl 0) (Nat.le_refl 0) ⟨_, rfl, rfl, rfl, h⟩
    · have h := h.2 hc
      refine r_iconst (x := 1) d_X8_attachWay_116 ⟨by decide, by decide⟩ ?_
      refine r_goto (tgt := 121) d_X8_attachWay_117 rfl ?_
      exact r_iret d_X8_attachWay_121 rfl rfl (Nat.le_refl 0) (Nat.le_refl 0) ⟨_, rfl, rfl, rfl, h⟩
  · have h := h.2 hc
    refine r_iload_n (x := x2) d_X8_attachWay_20 rfl ?_
    refine r_iconst (x := 4) d_X8_attachWay_21 ⟨by decide, by decide⟩ ?_
    refine r_iload (x := x10) d_X8_attachWay_22 rfl ?_
    refine r_imul d_X8_attachWay_24 ?_
    refine r_ishr d_X8_attachWay_25 ?_
    refine r_bipush (x := 15) d_X8_attachWay_26 ⟨by decide, by decide⟩ (by decide) ?_
    refine r_iand d_X8_attachWay_28 ?_
    refine r_nm (fun y3 ey3 => ?_)
    have h := h y3 ey3
    refine r_istore (L2 := [(2, t), (0, x1), (0, x2), (0, x3), (0, x4), (0, x5), (0, x6), (0, x7), (0, x8), (0, x9), (0, x10), (0, y3)]) d_X8_attachWay_29 (by decide) rfl rfl ?_
    refine r_iload_n (x := x3) d_X8_attachWay_31 rfl ?_
    refine r_iload (x := x10) d_X8_attachWay_32 rfl ?_
    refine r_ishr d_X8_attachWay_34 ?_
    refine r_iconst (x := 1) d_X8_attachWay_35 ⟨by decide, by decide⟩ ?_
    refine r_iand d_X8_attachWay_36 ?_
    refine r_iconst (x := 1) d_X8_attachWay_37 ⟨by decide, by decide⟩ ?_
    refine r_ic_ne (tgt := 60) d_X8_attachWay_38 rfl (fun hc => ?_) (fun hc => ?_)
    · have h := h.1 hc
      refine r_iload (x := x7) d_X8_attachWay_60 rfl ?_
      refine r_iconst (x := 4) d_X8_attachWay_62 ⟨by decide, by decide⟩ ?_
      refine r_ishl d_X8_attachWay_63 ?_
      refine r_iload (x := y3) d_X8_attachWay_64 rfl ?_
      refine r_ior d_X8_attachWay_66 ?_
      refine r_nm (fun y4 ey4 => ?_)
      have h := h y4 ey4
      refine r_istore (L2 := [(2, t), (0, x1), (0, x2), (0, x3), (0, x4), (0, x5), (0, x6), (0, y4), (0, x8), (0, x9), (0, x10), (0, y3)]) d_X8_attachWay_67 (by decide) rfl rfl ?_
      refine x_iinc (x := x8) (L := [(2, t), (0, x1), (0, x2), (0, x3), (0, x4), (0, x5), (0, x6), (0, y4), (0, x8), (0, x9), (0, x10), (0, y3)]) d_X8_attachWay_69 rfl (by decide) rfl (fun y5 ey5 => ?_)
      have h := h y5 ey5
      show WP _ _ _ _ _ _ _ _ [(2, t), (0, x1), (0, x2), (0, x3), (0, x4), (0, x5), (0, x6), (0, y4), (0, y5), (0, x9), (0, x10), (0, y3)] _ _ _ _
      refine x_iinc (x := x10) (L := [(2, t), (0, x1), (0, x2), (0, x3), (0, x4), (0, x5), (0, x6), (0, y4), (0, y5), (0, x9), (0, x10), (0, y3)]) d_X8_attachWay_72 rfl (by decide) rfl (fun y6 ey6 => ?_)
      have h := h y6 ey6
      show WP _ _ _ _ _ _ _ _ [(2, t), (0, x1), (0, x2), (0, x3), (0, x4), (0, x5), (0, x6), (0, y4), (0, y5), (0, x9), (0, y6), (0, y3)] _ _ _ _
      refine r_goto (tgt := 15) d_X8_attachWay_75 rfl ?_
      exact x_mask h ⟨Or.inr rfl, Or.inr rfl, Or.inr rfl, Or.inr rfl, Or.inr rfl, Or.inr rfl, Or.inr rfl, Or.inr rfl, Or.inr rfl, Or.inr rfl, Or.inr rfl, Or.inl rfl, trivial⟩
    · have h := h.2 hc
      refine r_iload (x := x6) d_X8_attachWay_41 rfl ?_
      refine r_iconst (x := 4) d_X8_attachWay_43 ⟨by decide, by decide⟩ ?_
      refine r_ishl d_X8_attachWay_44 ?_
      refine r_iload (x := y3) d_X8_attachWay_45 rfl ?_
      refine r_ior d_X8_attachWay_47 ?_
      refine r_nm (fun y7 ey7 => ?_)
      have h := h y7 ey7
      refine r_istore (L2 := [(2, t), (0, x1), (0, x2), (0, x3), (0, x4), (0, x5), (0, y7), (0, x7), (0, x8), (0, x9), (0, x10), (0, y3)]) d_X8_attachWay_48 (by decide) rfl rfl ?_
      refine r_iload (x := x9) d_X8_attachWay_50 rfl ?_
      refine r_iload (x := x8) d_X8_attachWay_52 rfl ?_
      refine r_iadd d_X8_attachWay_54 ?_
      refine r_nm (fun y8 ey8 => ?_)
      have h := h y8 ey8
      refine r_istore (L2 := [(2, t), (0, x1), (0, x2), (0, x3), (0, x4), (0, x5), (0, y7), (0, x7), (0, x8), (0, y8), (0, x10), (0, y3)]) d_X8_attachWay_55 (by decide) rfl rfl ?_
      refine r_goto (tgt := 72) d_X8_attachWay_57 rfl ?_
      refine x_iinc (x := x10) (L := [(2, t), (0, x1), (0, x2), (0, x3), (0, x4), (0, x5), (0, y7), (0, x7), (0, x8), (0, y8), (0, x10), (0, y3)]) d_X8_attachWay_72 rfl (by decide) rfl (fun y9 ey9 => ?_)
      have h := h y9 ey9
      show WP _ _ _ _ _ _ _ _ [(2, t), (0, x1), (0, x2), (0, x3), (0, x4), (0, x5), (0, y7), (0, x7), (0, x8), (0, y8), (0, y9), (0, y3)] _ _ _ _
      refine r_goto (tgt := 15) d_X8_attachWay_75 rfl ?_
      exact x_mask h ⟨Or.inr rfl, Or.inr rfl, Or.inr rfl, Or.inr rfl, Or.inr rfl, Or.inr rfl, Or.inr rfl, Or.inr rfl, Or.inr rfl, Or.inr rfl, Or.inr rfl, Or.inl rfl, trivial⟩
theorem v_X8_lastBroken_0 {l : Launch} {d N : Nat} {Λ : Lay} {P : Int → Mem → Prop} {σ : Mem} {x1 a0 : Int}
    (h : WI l mX8_lastBroken d P 2 [(2, a0), (0, x1), (0, x1)] [] N Λ σ) :
    WI l mX8_lastBroken d P 0 [(2, a0), (0, x1), (3, 0)] [] N Λ σ := by
  refine r_iload_n (x := x1) d_X8_lastBroken_0 rfl ?_
  refine r_istore_n (L2 := [(2, a0), (0, x1), (0, x1)]) d_X8_lastBroken_1 (by decide) rfl rfl ?_
  exact h
theorem v_X8_lastBroken_2 {l : Launch} {d N : Nat} {Λ : Lay} {P : Int → Mem → Prop} {σ : Mem} {x1 x2 a0 a0_keys : Int} (o_a0 : Ob N Λ a0 15 3) (f_a0_keys : (Λ a0).2.2 0 = a0_keys) (h0d : 1 ≤ d)
    (h : ((x2 < 0 → P x2 σ) ∧ (¬ (x2 < 0) → (Ix N Λ a0_keys 1 x2 ∧ (CI l mX6_breakOf (d - 1) [(1, (σ a0_keys x2))] N Λ σ (fun v2 σ1 => ((¬ v2 = 0 → P x2 σ1) ∧ (v2 = 0 → (∀ y3, y3 = addI x2 (-1) → WI l mX8_lastBroken d P 2 [(2, a0), (0, x1), (0, y3)] [] N Λ σ1))))))))) :
    WI l mX8_lastBroken d P 2 [(2, a0), (0, x1), (0, x2)] [] N Λ σ := by
  refine r_iload_n (x := x2) d_X8_lastBroken_2 rfl ?_
  refine r_if_lt (tgt := 24) d_X8_lastBroken_3 rfl (fun hc => ?_) (fun hc => ?_)
  · have h := h.1 hc
    refine r_iload_n (x := x2) d_X8_lastBroken_24 rfl ?_
    exact r_iret d_X8_lastBroken_25 rfl rfl (Nat.le_refl 0) (Nat.le_refl 0) ⟨_, rfl, rfl, rfl, h⟩
  · have h := h.2 hc
    refine r_aload_n (x := a0) d_X8_lastBroken_6 rfl o_a0.1 ?_
    refine r_getf (j := 0) (t := 2) (x := a0_keys) d_X8_lastBroken_7 kX5 (by decide) fl_X8_35 o_a0.1 o_a0.2.1 o_a0.2.2.1 o_a0.2.2.2 rfl f_a0_keys ?_
    refine r_iload_n (x := x2) d_X8_lastBroken_10 rfl ?_
    refine x_lald d_X8_lastBroken_11 h.1 ?_
    have h := h.2
    refine r_callS (Y2 := mX6_breakOf) (d := d - 1) (mc := 0) (ms := 0) (As := [(1, (σ a0_keys x2))]) (S := []) d_X8_lastBroken_12 ok_mX6_breakOf ml_X8_39 rfl (rmc h0d (by decide)) rm00 (Nat.le_of_ble_eq_true rfl) rfl (MC.mono h (fun r N1 Λ1 σ1 hq => ?_))
    obtain ⟨v2, rfl, rfl, rfl, h⟩ := hq
    refine r_if_ne (tgt := 24) d_X8_lastBroken_15 rfl (fun hc => ?_) (fun hc => ?_)
    · have h := h.1 hc
      refine r_iload_n (x := x2) d_X8_lastBroken_24 rfl ?_
      exact r_iret d_X8_lastBroken_25 rfl rfl (Nat.le_refl 0) (Nat.le_refl 0) ⟨_, rfl, rfl, rfl, h⟩
    · have h := h.2 hc
      refine x_iinc (x := x2) (L := [(2, a0), (0, x1), (0, x2)]) d_X8_lastBroken_18 rfl (by decide) rfl (fun y3 ey3 => ?_)
      have h := h y3 ey3
      show WP _ _ _ _ _ _ _ _ [(2, a0), (0, x1), (0, y3)] _ _ _ _
      refine r_goto (tgt := 2) d_X8_lastBroken_21 rfl ?_
      exact h
