theorem d_X3_countAll_0 : DC mX3_countAll 0 (.aload_n 0) 1 1 := ⟨by decide +kernel, rfl⟩
theorem d_X3_countAll_1 : DC mX3_countAll 1 (.lload_n 1) 1 2 := ⟨by decide +kernel, rfl⟩
theorem d_X3_countAll_2 : DC mX3_countAll 2 (.ldc 22) 2 4 := ⟨by decide +kernel, rfl⟩
theorem d_X3_countAll_4 : DC mX3_countAll 4 (.invokevirtual 29) 3 7 := ⟨by decide +kernel, rfl⟩
theorem d_X3_countAll_7 : DC mX3_countAll 7 (.aload_n 0) 1 8 := ⟨by decide +kernel, rfl⟩
theorem d_X3_countAll_8 : DC mX3_countAll 8 (.iconst 0) 1 9 := ⟨by decide +kernel, rfl⟩
theorem d_X3_countAll_9 : DC mX3_countAll 9 (.invokevirtual 33) 3 12 := ⟨by decide +kernel, rfl⟩
theorem d_X3_countAll_12 : DC mX3_countAll 12 (.pop) 1 13 := ⟨by decide +kernel, rfl⟩
theorem d_X3_countAll_13 : DC mX3_countAll 13 (.aload_n 0) 1 14 := ⟨by decide +kernel, rfl⟩
theorem d_X3_countAll_14 : DC mX3_countAll 14 (.getfield 26) 3 17 := ⟨by decide +kernel, rfl⟩
theorem d_X3_countAll_17 : DC mX3_countAll 17 (.ireturn) 1 18 := ⟨by decide +kernel, rfl⟩
theorem d_X3_letterOf_0 : DC mX3_letterOf 0 (.aload_n 0) 1 1 := ⟨by decide +kernel, rfl⟩
theorem d_X3_letterOf_1 : DC mX3_letterOf 1 (.lload_n 1) 1 2 := ⟨by decide +kernel, rfl⟩
theorem d_X3_letterOf_2 : DC mX3_letterOf 2 (.iload_n 3) 1 3 := ⟨by decide +kernel, rfl⟩
theorem d_X3_letterOf_3 : DC mX3_letterOf 3 (.invokevirtual 29) 3 6 := ⟨by decide +kernel, rfl⟩
theorem d_X3_letterOf_6 : DC mX3_letterOf 6 (.iload 4) 2 8 := ⟨by decide +kernel, rfl⟩
theorem d_X3_letterOf_8 : DC mX3_letterOf 8 (.aload_n 0) 1 9 := ⟨by decide +kernel, rfl⟩
theorem d_X3_letterOf_9 : DC mX3_letterOf 9 (.getfield 18) 3 12 := ⟨by decide +kernel, rfl⟩
theorem d_X3_letterOf_12 : DC mX3_letterOf 12 (.if_icmp .ge 11) 3 15 := ⟨by decide +kernel, rfl⟩
theorem d_X3_letterOf_15 : DC mX3_letterOf 15 (.aload_n 0) 1 16 := ⟨by decide +kernel, rfl⟩
theorem d_X3_letterOf_16 : DC mX3_letterOf 16 (.iconst 0) 1 17 := ⟨by decide +kernel, rfl⟩
theorem d_X3_letterOf_17 : DC mX3_letterOf 17 (.invokevirtual 33) 3 20 := ⟨by decide +kernel, rfl⟩
theorem d_X3_letterOf_20 : DC mX3_letterOf 20 (.ifCond .ne 5) 3 23 := ⟨by decide +kernel, rfl⟩
theorem d_X3_letterOf_23 : DC mX3_letterOf 23 (.iconst (-1)) 1 24 := ⟨by decide +kernel, rfl⟩
theorem d_X3_letterOf_24 : DC mX3_letterOf 24 (.ireturn) 1 25 := ⟨by decide +kernel, rfl⟩
theorem d_X3_letterOf_25 : DC mX3_letterOf 25 (.aload_n 0) 1 26 := ⟨by decide +kernel, rfl⟩
theorem d_X3_letterOf_26 : DC mX3_letterOf 26 (.getfield 15) 3 29 := ⟨by decide +kernel, rfl⟩
theorem d_X3_letterOf_29 : DC mX3_letterOf 29 (.iload 4) 2 31 := ⟨by decide +kernel, rfl⟩
theorem d_X3_letterOf_31 : DC mX3_letterOf 31 (.iaload) 1 32 := ⟨by decide +kernel, rfl⟩
theorem d_X3_letterOf_32 : DC mX3_letterOf 32 (.ireturn) 1 33 := ⟨by decide +kernel, rfl⟩
theorem d_X3_begin_0 : DC mX3_begin 0 (.aload_n 0) 1 1 := ⟨by decide +kernel, rfl⟩
theorem d_X3_begin_1 : DC mX3_begin 1 (.iconst 3) 1 2 := ⟨by decide +kernel, rfl⟩
theorem d_X3_begin_2 : DC mX3_begin 2 (.lload_n 1) 1 3 := ⟨by decide +kernel, rfl⟩
theorem d_X3_begin_3 : DC mX3_begin 3 (.invokestatic 37) 3 6 := ⟨by decide +kernel, rfl⟩
theorem d_X3_begin_6 : DC mX3_begin 6 (.imul) 1 7 := ⟨by decide +kernel, rfl⟩
theorem d_X3_begin_7 : DC mX3_begin 7 (.putfield 18) 3 10 := ⟨by decide +kernel, rfl⟩
theorem d_X3_begin_10 : DC mX3_begin 10 (.aload_n 0) 1 11 := ⟨by decide +kernel, rfl⟩
theorem d_X3_begin_11 : DC mX3_begin 11 (.iload_n 3) 1 12 := ⟨by decide +kernel, rfl⟩
theorem d_X3_begin_12 : DC mX3_begin 12 (.putfield 23) 3 15 := ⟨by decide +kernel, rfl⟩
theorem d_X3_begin_15 : DC mX3_begin 15 (.aload_n 0) 1 16 := ⟨by decide +kernel, rfl⟩
theorem d_X3_begin_16 : DC mX3_begin 16 (.iconst 0) 1 17 := ⟨by decide +kernel, rfl⟩
theorem d_X3_begin_17 : DC mX3_begin 17 (.putfield 26) 3 20 := ⟨by decide +kernel, rfl⟩
theorem d_X3_begin_20 : DC mX3_begin 20 (.iconst 0) 1 21 := ⟨by decide +kernel, rfl⟩
theorem d_X3_begin_21 : DC mX3_begin 21 (.istore 4) 2 23 := ⟨by decide +kernel, rfl⟩
theorem d_X3_begin_23 : DC mX3_begin 23 (.iload 4) 2 25 := ⟨by decide +kernel, rfl⟩
theorem d_X3_begin_25 : DC mX3_begin 25 (.bipush 10) 2 27 := ⟨by decide +kernel, rfl⟩
theorem d_X3_begin_27 : DC mX3_begin 27 (.if_icmp .ge 22) 3 30 := ⟨by decide +kernel, rfl⟩
theorem d_X3_begin_30 : DC mX3_begin 30 (.aload_n 0) 1 31 := ⟨by decide +kernel, rfl⟩
theorem d_X3_begin_31 : DC mX3_begin 31 (.getfield 9) 3 34 := ⟨by decide +kernel, rfl⟩
theorem d_X3_begin_34 : DC mX3_begin 34 (.iload 4) 2 36 := ⟨by decide +kernel, rfl⟩
theorem d_X3_begin_36 : DC mX3_begin 36 (.lload_n 1) 1 37 := ⟨by decide +kernel, rfl⟩
theorem d_X3_begin_37 : DC mX3_begin 37 (.iload 4) 2 39 := ⟨by decide +kernel, rfl⟩
theorem d_X3_begin_39 : DC mX3_begin 39 (.invokestatic 43) 3 42 := ⟨by decide +kernel, rfl⟩
theorem d_X3_begin_42 : DC mX3_begin 42 (.iastore) 1 43 := ⟨by decide +kernel, rfl⟩
theorem d_X3_begin_43 : DC mX3_begin 43 (.iinc 4 1) 3 46 := ⟨by decide +kernel, rfl⟩
theorem d_X3_begin_46 : DC mX3_begin 46 (.goto (-23)) 3 49 := ⟨by decide +kernel, rfl⟩
theorem d_X3_begin_49 : DC mX3_begin 49 (.return_) 1 50 := ⟨by decide +kernel, rfl⟩
theorem d_X3_fill_0 : DC mX3_fill 0 (.iload_n 1) 1 1 := ⟨by decide +kernel, rfl⟩
theorem d_X3_fill_1 : DC mX3_fill 1 (.aload_n 0) 1 2 := ⟨by decide +kernel, rfl⟩
theorem d_X3_fill_2 : DC mX3_fill 2 (.getfield 18) 3 5 := ⟨by decide +kernel, rfl⟩
theorem d_X3_fill_5 : DC mX3_fill 5 (.if_icmp .lt 32) 3 8 := ⟨by decide +kernel, rfl⟩
theorem d_X3_fill_8 : DC mX3_fill 8 (.aload_n 0) 1 9 := ⟨by decide +kernel, rfl⟩
theorem d_X3_fill_9 : DC mX3_fill 9 (.dup) 1 10 := ⟨by decide +kernel, rfl⟩
theorem d_X3_fill_10 : DC mX3_fill 10 (.getfield 26) 3 13 := ⟨by decide +kernel, rfl⟩
theorem d_X3_fill_13 : DC mX3_fill 13 (.iconst 1) 1 14 := ⟨by decide +kernel, rfl⟩
theorem d_X3_fill_14 : DC mX3_fill 14 (.iadd) 1 15 := ⟨by decide +kernel, rfl⟩
theorem d_X3_fill_15 : DC mX3_fill 15 (.putfield 26) 3 18 := ⟨by decide +kernel, rfl⟩
theorem d_X3_fill_18 : DC mX3_fill 18 (.aload_n 0) 1 19 := ⟨by decide +kernel, rfl⟩
theorem d_X3_fill_19 : DC mX3_fill 19 (.getfield 26) 3 22 := ⟨by decide +kernel, rfl⟩
theorem d_X3_fill_22 : DC mX3_fill 22 (.iconst 1) 1 23 := ⟨by decide +kernel, rfl⟩
theorem d_X3_fill_23 : DC mX3_fill 23 (.isub) 1 24 := ⟨by decide +kernel, rfl⟩
theorem d_X3_fill_24 : DC mX3_fill 24 (.aload_n 0) 1 25 := ⟨by decide +kernel, rfl⟩
theorem d_X3_fill_25 : DC mX3_fill 25 (.getfield 23) 3 28 := ⟨by decide +kernel, rfl⟩
theorem d_X3_fill_28 : DC mX3_fill 28 (.if_icmp .ne 7) 3 31 := ⟨by decide +kernel, rfl⟩
theorem d_X3_fill_31 : DC mX3_fill 31 (.iconst 1) 1 32 := ⟨by decide +kernel, rfl⟩
theorem d_X3_fill_32 : DC mX3_fill 32 (.goto 4) 3 35 := ⟨by decide +kernel, rfl⟩
theorem d_X3_fill_35 : DC mX3_fill 35 (.iconst 0) 1 36 := ⟨by decide +kernel, rfl⟩
theorem d_X3_fill_36 : DC mX3_fill 36 (.ireturn) 1 37 := ⟨by decide +kernel, rfl⟩
theorem d_X3_fill_37 : DC mX3_fill 37 (.iload_n 1) 1 38 := ⟨by decide +kernel, rfl⟩
theorem d_X3_fill_38 : DC mX3_fill 38 (.iconst 3) 1 39 := ⟨by decide +kernel, rfl⟩
theorem d_X3_fill_39 : DC mX3_fill 39 (.irem) 1 40 := ⟨by decide +kernel, rfl⟩
theorem d_X3_fill_40 : DC mX3_fill 40 (.ifCond .ne 7) 3 43 := ⟨by decide +kernel, rfl⟩
theorem d_X3_fill_43 : DC mX3_fill 43 (.iconst 1) 1 44 := ⟨by decide +kernel, rfl⟩
theorem d_X3_fill_44 : DC mX3_fill 44 (.goto 4) 3 47 := ⟨by decide +kernel, rfl⟩
theorem d_X3_fill_47 : DC mX3_fill 47 (.iconst 0) 1 48 := ⟨by decide +kernel, rfl⟩
theorem d_X3_fill_48 : DC mX3_fill 48 (.istore_n 2) 1 49 := ⟨by decide +kernel, rfl⟩
theorem d_X3_fill_49 : DC mX3_fill 49 (.iload_n 2) 1 50 := ⟨by decide +kernel, rfl⟩
theorem d_X3_fill_50 : DC mX3_fill 50 (.ifCond .eq 7) 3 53 := ⟨by decide +kernel, rfl⟩
theorem d_X3_fill_53 : DC mX3_fill 53 (.iconst 0) 1 54 := ⟨by decide +kernel, rfl⟩
theorem d_X3_fill_54 : DC mX3_fill 54 (.goto 13) 3 57 := ⟨by decide +kernel, rfl⟩
theorem d_X3_fill_57 : DC mX3_fill 57 (.aload_n 0) 1 58 := ⟨by decide +kernel, rfl⟩
theorem d_X3_fill_58 : DC mX3_fill 58 (.getfield 15) 3 61 := ⟨by decide +kernel, rfl⟩
theorem d_X3_fill_61 : DC mX3_fill 61 (.iload_n 1) 1 62 := ⟨by decide +kernel, rfl⟩
theorem d_X3_fill_62 : DC mX3_fill 62 (.iconst 1) 1 63 := ⟨by decide +kernel, rfl⟩
theorem d_X3_fill_63 : DC mX3_fill 63 (.isub) 1 64 := ⟨by decide +kernel, rfl⟩
theorem d_X3_fill_64 : DC mX3_fill 64 (.iaload) 1 65 := ⟨by decide +kernel, rfl⟩
theorem d_X3_fill_65 : DC mX3_fill 65 (.iconst 1) 1 66 := ⟨by decide +kernel, rfl⟩
theorem d_X3_fill_66 : DC mX3_fill 66 (.iadd) 1 67 := ⟨by decide +kernel, rfl⟩
theorem d_X3_fill_67 : DC mX3_fill 67 (.istore_n 3) 1 68 := ⟨by decide +kernel, rfl⟩
theorem d_X3_fill_68 : DC mX3_fill 68 (.iload_n 1) 1 69 := ⟨by decide +kernel, rfl⟩
theorem d_X3_fill_69 : DC mX3_fill 69 (.iconst 3) 1 70 := ⟨by decide +kernel, rfl⟩
theorem d_X3_fill_70 : DC mX3_fill 70 (.if_icmp .lt 16) 3 73 := ⟨by decide +kernel, rfl⟩
theorem d_X3_fill_73 : DC mX3_fill 73 (.iload_n 3) 1 74 := ⟨by decide +kernel, rfl⟩
theorem d_X3_fill_74 : DC mX3_fill 74 (.aload_n 0) 1 75 := ⟨by decide +kernel, rfl⟩
theorem d_X3_fill_75 : DC mX3_fill 75 (.getfield 15) 3 78 := ⟨by decide +kernel, rfl⟩
theorem d_X3_fill_78 : DC mX3_fill 78 (.iload_n 1) 1 79 := ⟨by decide +kernel, rfl⟩
theorem d_X3_fill_79 : DC mX3_fill 79 (.iconst 3) 1 80 := ⟨by decide +kernel, rfl⟩
theorem d_X3_fill_80 : DC mX3_fill 80 (.isub) 1 81 := ⟨by decide +kernel, rfl⟩
theorem d_X3_fill_81 : DC mX3_fill 81 (.iaload) 1 82 := ⟨by decide +kernel, rfl⟩
theorem d_X3_fill_82 : DC mX3_fill 82 (.invokestatic 47) 3 85 := ⟨by decide +kernel, rfl⟩
theorem d_X3_fill_85 : DC mX3_fill 85 (.istore_n 3) 1 86 := ⟨by decide +kernel, rfl⟩
theorem d_X3_fill_86 : DC mX3_fill 86 (.iload_n 3) 1 87 := ⟨by decide +kernel, rfl⟩
theorem d_X3_fill_87 : DC mX3_fill 87 (.istore 4) 2 89 := ⟨by decide +kernel, rfl⟩
theorem d_X3_fill_89 : DC mX3_fill 89 (.iload 4) 2 91 := ⟨by decide +kernel, rfl⟩
theorem d_X3_fill_91 : DC mX3_fill 91 (.bipush 10) 2 93 := ⟨by decide +kernel, rfl⟩
theorem d_X3_fill_93 : DC mX3_fill 93 (.if_icmp .ge 67) 3 96 := ⟨by decide +kernel, rfl⟩
theorem d_X3_fill_96 : DC mX3_fill 96 (.aload_n 0) 1 97 := ⟨by decide +kernel, rfl⟩
theorem d_X3_fill_97 : DC mX3_fill 97 (.getfield 9) 3 100 := ⟨by decide +kernel, rfl⟩
theorem d_X3_fill_100 : DC mX3_fill 100 (.iload 4) 2 102 := ⟨by decide +kernel, rfl⟩
theorem d_X3_fill_102 : DC mX3_fill 102 (.iaload) 1 103 := ⟨by decide +kernel, rfl⟩
theorem d_X3_fill_103 : DC mX3_fill 103 (.ifCond .le 51) 3 106 := ⟨by decide +kernel, rfl⟩
theorem d_X3_fill_106 : DC mX3_fill 106 (.aload_n 0) 1 107 := ⟨by decide +kernel, rfl⟩
theorem d_X3_fill_107 : DC mX3_fill 107 (.getfield 15) 3 110 := ⟨by decide +kernel, rfl⟩
theorem d_X3_fill_110 : DC mX3_fill 110 (.iload_n 1) 1 111 := ⟨by decide +kernel, rfl⟩
theorem d_X3_fill_111 : DC mX3_fill 111 (.iload 4) 2 113 := ⟨by decide +kernel, rfl⟩
theorem d_X3_fill_113 : DC mX3_fill 113 (.iastore) 1 114 := ⟨by decide +kernel, rfl⟩
theorem d_X3_fill_114 : DC mX3_fill 114 (.aload_n 0) 1 115 := ⟨by decide +kernel, rfl⟩
theorem d_X3_fill_115 : DC mX3_fill 115 (.getfield 9) 3 118 := ⟨by decide +kernel, rfl⟩
theorem d_X3_fill_118 : DC mX3_fill 118 (.iload 4) 2 120 := ⟨by decide +kernel, rfl⟩
theorem d_X3_fill_120 : DC mX3_fill 120 (.dup2) 1 121 := ⟨by decide +kernel, rfl⟩
theorem d_X3_fill_121 : DC mX3_fill 121 (.iaload) 1 122 := ⟨by decide +kernel, rfl⟩
theorem d_X3_fill_122 : DC mX3_fill 122 (.iconst 1) 1 123 := ⟨by decide +kernel, rfl⟩
theorem d_X3_fill_123 : DC mX3_fill 123 (.isub) 1 124 := ⟨by decide +kernel, rfl⟩
theorem d_X3_fill_124 : DC mX3_fill 124 (.iastore) 1 125 := ⟨by decide +kernel, rfl⟩
theorem d_X3_fill_125 : DC mX3_fill 125 (.aload_n 0) 1 126 := ⟨by decide +kernel, rfl⟩
theorem d_X3_fill_126 : DC mX3_fill 126 (.iload_n 1) 1 127 := ⟨by decide +kernel, rfl⟩
theorem d_X3_fill_127 : DC mX3_fill 127 (.iconst 1) 1 128 := ⟨by decide +kernel, rfl⟩
theorem d_X3_fill_128 : DC mX3_fill 128 (.iadd) 1 129 := ⟨by decide +kernel, rfl⟩
theorem d_X3_fill_129 : DC mX3_fill 129 (.invokevirtual 33) 3 132 := ⟨by decide +kernel, rfl⟩
theorem d_X3_fill_132 : DC mX3_fill 132 (.ifCond .eq 5) 3 135 := ⟨by decide +kernel, rfl⟩
theorem d_X3_fill_135 : DC mX3_fill 135 (.iconst 1) 1 136 := ⟨by decide +kernel, rfl⟩
theorem d_X3_fill_136 : DC mX3_fill 136 (.ireturn) 1 137 := ⟨by decide +kernel, rfl⟩
theorem d_X3_fill_137 : DC mX3_fill 137 (.aload_n 0) 1 138 := ⟨by decide +kernel, rfl⟩
theorem d_X3_fill_138 : DC mX3_fill 138 (.getfield 9) 3 141 := ⟨by decide +kernel, rfl⟩
theorem d_X3_fill_141 : DC mX3_fill 141 (.iload 4) 2 143 := ⟨by decide +kernel, rfl⟩
theorem d_X3_fill_143 : DC mX3_fill 143 (.dup2) 1 144 := ⟨by decide +kernel, rfl⟩
theorem d_X3_fill_144 : DC mX3_fill 144 (.iaload) 1 145 := ⟨by decide +kernel, rfl⟩
theorem d_X3_fill_145 : DC mX3_fill 145 (.iconst 1) 1 146 := ⟨by decide +kernel, rfl⟩
theorem d_X3_fill_146 : DC mX3_fill 146 (.iadd) 1 147 := ⟨by decide +kernel, rfl⟩
theorem d_X3_fill_147 : DC mX3_fill 147 (.iastore) 1 148 := ⟨by decide +kernel, rfl⟩
theorem d_X3_fill_148 : DC mX3_fill 148 (.iload_n 2) 1 149 := ⟨by decide +kernel, rfl⟩
theorem d_X3_fill_149 : DC mX3_fill 149 (.ifCond .eq 5) 3 152 := ⟨by decide +kernel, rfl⟩
theorem d_X3_fill_152 : DC mX3_fill 152 (.iconst 0) 1 153 := ⟨by decide +kernel, rfl⟩
theorem d_X3_fill_153 : DC mX3_fill 153 (.ireturn) 1 154 := ⟨by decide +kernel, rfl⟩
theorem d_X3_fill_154 : DC mX3_fill 154 (.iinc 4 1) 3 157 := ⟨by decide +kernel, rfl⟩
theorem d_X3_fill_157 : DC mX3_fill 157 (.goto (-68)) 3 160 := ⟨by decide +kernel, rfl⟩
theorem d_X3_fill_160 : DC mX3_fill 160 (.iconst 0) 1 161 := ⟨by decide +kernel, rfl⟩
theorem d_X3_fill_161 : DC mX3_fill 161 (.ireturn) 1 162 := ⟨by decide +kernel, rfl⟩
theorem v_X3_countAll_0 {l : Launch} {d N : Nat} {Λ : Lay} {P : Int → Mem → Prop} {σ : Mem} {x1 t : Int} (o_t : Ob N Λ t 13 5) (h0d : 1 ≤ d)
    (h : (CV l mX3_begin (d - 1) [(2, t), (1, x1), (0, 1000000)] N Λ σ (fun σ1 => (CI l mX3_fill (d - 1) [(2, t), (0, 0)] N Λ σ1 (fun v3 σ2 => P (σ2 t 4) σ2))))) :
    WI l mX3_countAll d P 0 [(2, t), (1, x1), (3, 0)] [] N Λ σ := by
  refine r_aload_n (x := t) d_X3_countAll_0 rfl o_t.1 ?_
  refine r_lload_n (x := x1) d_X3_countAll_1 rfl ?_
  refine r_ldc (x := 1000000) d_X3_countAll_2 ck_X3_22 (by decide) ?_
  refine r_callV (Y2 := mX3_begin) (d := d - 1) (mc := 0) (ms := 0) (c := t) (As := [(1, x1), (0, 1000000)]) (S := []) d_X3_countAll_4 ok_mX3_begin ml_X3_29 rfl (rmc h0d (by decide)) rm00 (Nat.le_of_ble_eq_true rfl) rfl kX3 o_t.1 o_t.2.1 o_t.2.2.1 o_t.2.2.2 (MC.mono h (fun r N1 Λ1 σ1 hq => ?_))
  obtain ⟨rfl, rfl, rfl, h⟩ := hq
  refine r_aload_n (x := t) d_X3_countAll_7 rfl o_t.1 ?_
  refine r_iconst (x := 0) d_X3_countAll_8 ⟨by decide, by decide⟩ ?_
  refine r_callV (Y2 := mX3_fill) (d := d - 1) (mc := 0) (ms := 0) (c := t) (As := [(0, 0)]) (S := []) d_X3_countAll_9 ok_mX3_fill ml_X3_33 rfl (rmc h0d (by decide)) rm00 (Nat.le_of_ble_eq_true rfl) rfl kX3 o_t.1 o_t.2.1 o_t.2.2.1 o_t.2.2.2 (MC.mono h (fun r N1 Λ1 σ2 hq => ?_))
  obtain ⟨v3, rfl, rfl, rfl, h⟩ := hq
  refine r_pop d_X3_countAll_12 rfl ?_
  refine r_aload_n (x := t) d_X3_countAll_13 rfl o_t.1 ?_
  refine r_getf (j := 4) (t := 0) (x := (σ2 t 4)) d_X3_countAll_14 kX3 (by decide) fl_X3_26 o_t.1 o_t.2.1 o_t.2.2.1 o_t.2.2.2 rfl rfl ?_
  exact r_iret d_X3_countAll_17 rfl rfl (Nat.le_refl 0) (Nat.le_refl 0) ⟨_, rfl, rfl, rfl, h⟩
theorem v_X3_letterOf_0 {l : Launch} {d N : Nat} {Λ : Lay} {P : Int → Mem → Prop} {σ : Mem} {x1 x3 x4 t t_cells : Int} (o_t : Ob N Λ t 13 5) (f_t_cells : (Λ t).2.2 1 = t_cells) (h0d : 1 ≤ d)
    (h : (CV l mX3_begin (d - 1) [(2, t), (1, x1), (0, x3)] N Λ σ (fun σ1 => (((σ1 t 2) ≤ x4 → P (-1) σ1) ∧ (¬ ((σ1 t 2) ≤ x4) → (CI l mX3_fill (d - 1) [(2, t), (0, 0)] N Λ σ1 (fun v3 σ2 => ((¬ v3 = 0 → (Ix N Λ t_cells 0 x4 ∧ P (σ2 t_cells x4) σ2)) ∧ (v3 = 0 → P (-1) σ2))))))))) :
    WI l mX3_letterOf d P 0 [(2, t), (1, x1), (3, 0), (0, x3), (0, x4)] [] N Λ σ := by
  refine r_aload_n (x := t) d_X3_letterOf_0 rfl o_t.1 ?_
  refine r_lload_n (x := x1) d_X3_letterOf_1 rfl ?_
  refine r_iload_n (x := x3) d_X3_letterOf_2 rfl ?_
  refine r_callV (Y2 := mX3_begin) (d := d - 1) (mc := 0) (ms := 0) (c := t) (As := [(1, x1), (0, x3)]) (S := []) d_X3_letterOf_3 ok_mX3_begin ml_X3_29 rfl (rmc h0d (by decide)) rm00 (Nat.le_of_ble_eq_true rfl) rfl kX3 o_t.1 o_t.2.1 o_t.2.2.1 o_t.2.2.2 (MC.mono h (fun r N1 Λ1 σ1 hq => ?_))
  obtain ⟨rfl, rfl, rfl, h⟩ := hq
  refine r_iload (x := x4) d_X3_letterOf_6 rfl ?_
  refine r_aload_n (x := t) d_X3_letterOf_8 rfl o_t.1 ?_
  refine r_getf (j := 2) (t := 0) (x := (σ1 t 2)) d_X3_letterOf_9 kX3 (by decide) fl_X3_18 o_t.1 o_t.2.1 o_t.2.2.1 o_t.2.2.2 rfl rfl ?_
  refine r_ic_ge (tgt := 23) d_X3_letterOf_12 rfl (fun hc => ?_) (fun hc => ?_)
  · have h := h.1 hc
    refine r_iconst (x := (-1)) d_X3_letterOf_23 ⟨by decide, by decide⟩ ?_
    exact r_iret d_X3_letterOf_24 rfl rfl (Nat.le_refl 0) (Nat.le_refl 0) ⟨_, rfl, rfl, rfl, h⟩
  · have h := h.2 hc
    refine r_aload_n (x := t) d_X3_letterOf_15 rfl o_t.1 ?_
    refine r_iconst (x := 0) d_X3_letterOf_16 ⟨by decide, by decide⟩ ?_
    refine r_callV (Y2 := mX3_fill) (d := d - 1) (mc := 0) (ms := 0) (c := t) (As := [(0, 0)]) (S := []) d_X3_letterOf_17 ok_mX3_fill ml_X3_33 rfl (rmc h0d (by decide)) rm00 (Nat.le_of_ble_eq_true rfl) rfl kX3 o_t.1 o_t.2.1 o_t.2.2.1 o_t.2.2.2 (MC.mono h (fun r N1 Λ1 σ2 hq => ?_))
    obtain ⟨v3, rfl, rfl, rfl, h⟩ := hq
    refine r_if_ne (tgt := 25) d_X3_letterOf_20 rfl (fun hc => ?_) (fun hc => ?_)
    · have h := h.1 hc
      refine r_aload_n (x := t) d_X3_letterOf_25 rfl o_t.1 ?_
      refine r_getf (j := 1) (t := 2) (x := t_cells) d_X3_letterOf_26 kX3 (by decide) fl_X3_15 o_t.1 o_t.2.1 o_t.2.2.1 o_t.2.2.2 rfl f_t_cells ?_
      refine r_iload (x := x4) d_X3_letterOf_29 rfl ?_
      refine x_iald d_X3_letterOf_31 h.1 ?_
      have h := h.2
      exact r_iret d_X3_letterOf_32 rfl rfl (Nat.le_refl 0) (Nat.le_refl 0) ⟨_, rfl, rfl, rfl, h⟩
    · have h := h.2 hc
      refine r_iconst (x := (-1)) d_X3_letterOf_23 ⟨by decide, by decide⟩ ?_
      exact r_iret d_X3_letterOf_24 rfl rfl (Nat.le_refl 0) (Nat.le_refl 0) ⟨_, rfl, rfl, rfl, h⟩
theorem v_X3_begin_0 {l : Launch} {d N : Nat} {Λ : Lay} {P : Mem → Prop} {σ : Mem} {x1 x3 t : Int} (o_t : Ob N Λ t 13 5) (h0d : 1 ≤ d)
    (h : (CI l mX6_bracketsIn (d - 1) [(1, x1)] N Λ σ (fun v2 σ1 => (∀ τ3, τ3 = st σ1 t 2 (mulI 3 v2) → (∀ τ4, τ4 = st τ3 t 3 x3 → (∀ τ5, τ5 = st τ4 t 4 0 → WV l mX3_begin d P 23 [(2, t), (1, x1), (3, 0), (0, x3), (0, 0)] [] N Λ τ5)))))) :
    WV l mX3_begin d P 0 [(2, t), (1, x1), (3, 0), (0, x3), (3, 0)] [] N Λ σ := by
  refine r_aload_n (x := t) d_X3_begin_0 rfl o_t.1 ?_
  refine r_iconst (x := 3) d_X3_begin_1 ⟨by decide, by decide⟩ ?_
  refine r_lload_n (x := x1) d_X3_begin_2 rfl ?_
  refine r_callS (Y2 := mX6_bracketsIn) (d := d - 1) (mc := 0) (ms := 0) (As := [(1, x1)]) (S := [(0, 3), (2, t)]) d_X3_begin_3 ok_mX6_bracketsIn ml_X3_37 rfl (rmc h0d (by decide)) rm00 (Nat.le_of_ble_eq_true rfl) rfl (MC.mono h (fun r N1 Λ1 σ1 hq => ?_))
  obtain ⟨v2, rfl, rfl, rfl, h⟩ := hq
  refine r_imul d_X3_begin_6 ?_
  refine r_putI (j := 2) d_X3_begin_7 kX3 (by decide) fl_X3_18 rfl o_t.1 o_t.2.1 o_t.2.2.1 o_t.2.2.2 rfl ?_
  refine r_nmM (fun τ3 eτ3 => ?_)
  have h := h τ3 eτ3
  refine r_aload_n (x := t) d_X3_begin_10 rfl o_t.1 ?_
  refine r_iload_n (x := x3) d_X3_begin_11 rfl ?_
  refine r_putI (j := 3) d_X3_begin_12 kX3 (by decide) fl_X3_23 rfl o_t.1 o_t.2.1 o_t.2.2.1 o_t.2.2.2 rfl ?_
  refine r_nmM (fun τ4 eτ4 => ?_)
  have h := h τ4 eτ4
  refine r_aload_n (x := t) d_X3_begin_15 rfl o_t.1 ?_
  refine r_iconst (x := 0) d_X3_begin_16 ⟨by decide, by decide⟩ ?_
  refine r_putI (j := 4) d_X3_begin_17 kX3 (by decide) fl_X3_26 rfl o_t.1 o_t.2.1 o_t.2.2.1 o_t.2.2.2 rfl ?_
  refine r_nmM (fun τ5 eτ5 => ?_)
  have h := h τ5 eτ5
  refine r_iconst (x := 0) d_X3_begin_20 ⟨by decide, by decide⟩ ?_
  refine r_istore (L2 := [(2, t), (1, x1), (3, 0), (0, x3), (0, 0)]) d_X3_begin_21 (by decide) rfl rfl ?_
  exact h
theorem v_X3_begin_23 {l : Launch} {d N : Nat} {Λ : Lay} {P : Mem → Prop} {σ : Mem} {x1 x3 x4 t t_unused : Int} (o_t : Ob N Λ t 13 5) (f_t_unused : (Λ t).2.2 0 = t_unused) (h0d : 1 ≤ d)
    (h : ((10 ≤ x4 → P σ) ∧ (¬ (10 ≤ x4) → (CI l mX6_timesOf (d - 1) [(1, x1), (0, x4)] N Λ σ (fun v2 σ1 => (Ix N Λ t_unused 0 x4 ∧ (∀ τ3, τ3 = st σ1 t_unused x4 v2 → (∀ y4, y4 = addI x4 1 → WV l mX3_begin d P 23 [(2, t), (1, x1), (3, 0), (0, x3), (0, y4)] [] N Λ τ3)))))))) :
    WV l mX3_begin d P 23 [(2, t), (1, x1), (3, 0), (0, x3), (0, x4)] [] N Λ σ := by
  refine r_iload (x := x4) d_X3_begin_23 rfl ?_
  refine r_bipush (x := 10) d_X3_begin_25 ⟨by decide, by decide⟩ (by decide) ?_
  refine r_ic_ge (tgt := 49) d_X3_begin_27 rfl (fun hc => ?_) (fun hc => ?_)
  · have h := h.1 hc
    exact r_vret d_X3_begin_49 rfl (Nat.le_refl 0) (Nat.le_refl 0) ⟨rfl, rfl, rfl, h⟩
  · have h := h.2 hc
    refine r_aload_n (x := t) d_X3_begin_30 rfl o_t.1 ?_
    refine r_getf (j := 0) (t := 2) (x := t_unused) d_X3_begin_31 kX3 (by decide) fl_X3_9 o_t.1 o_t.2.1 o_t.2.2.1 o_t.2.2.2 rfl f_t_unused ?_
    refine r_iload (x := x4) d_X3_begin_34 rfl ?_
    refine r_lload_n (x := x1) d_X3_begin_36 rfl ?_
    refine r_iload (x := x4) d_X3_begin_37 rfl ?_
    refine r_callS (Y2 := mX6_timesOf) (d := d - 1) (mc := 0) (ms := 0) (As := [(1, x1), (0, x4)]) (S := [(0, x4), (2, t_unused)]) d_X3_begin_39 ok_mX6_timesOf ml_X3_43 rfl (rmc h0d (by decide)) rm00 (Nat.le_of_ble_eq_true rfl) rfl (MC.mono h (fun r N1 Λ1 σ1 hq => ?_))
    obtain ⟨v2, rfl, rfl, rfl, h⟩ := hq
    refine x_iast d_X3_begin_42 h.1 ?_
    have h := h.2
    refine r_nmM (fun τ3 eτ3 => ?_)
    have h := h τ3 eτ3
    refine x_iinc (x := x4) (L := [(2, t), (1, x1), (3, 0), (0, x3), (0, x4)]) d_X3_begin_43 rfl (by decide) rfl (fun y4 ey4 => ?_)
    have h := h y4 ey4
    show WP _ _ _ _ _ _ _ _ [(2, t), (1, x1), (3, 0), (0, x3), (0, y4)] _ _ _ _
    refine r_goto (tgt := 23) d_X3_begin_46 rfl ?_
    exact h
theorem v_X3_fill_0 {l : Launch} {d N : Nat} {Λ : Lay} {P : Int → Mem → Prop} {σ : Mem} {x1 t t_cells : Int} (o_t : Ob N Λ t 13 5) (f_t_cells : (Λ t).2.2 1 = t_cells) (h0d : 1 ≤ d)
    (h : ((x1 < (σ t 2) → ((¬ (remI x1 3) = 0 → (Ix N Λ t_cells 0 (subI x1 1) ∧ (∀ y1, y1 = (addI (σ t_cells (subI x1 1)) 1) → ((x1 < 3 → WI l mX3_fill d P 89 [(2, t), (0, x1), (0, 0), (0, y1), (0, y1)] [] N Λ σ) ∧ (¬ (x1 < 3) → (Ix N Λ t_cells 0 (subI x1 3) ∧ (CI l mJ9_max_7cf53 (d - 1) [(0, y1), (0, (σ t_cells (subI x1 3)))] N Λ σ (fun v3 σ2 => WI l mX3_fill d P 89 [(2, t), (0, x1), (0, 0), (0, v3), (0, v3)] [] N Λ σ2)))))))) ∧ ((remI x1 3) = 0 → ((x1 < 3 → WI l mX3_fill d P 89 [(2, t), (0, x1), (0, 1), (0, 0), (0, 0)] [] N Λ σ) ∧ (¬ (x1 < 3) → (Ix N Λ t_cells 0 (subI x1 3) ∧ (CI l mJ9_max_7cf53 (d - 1) [(0, 0), (0, (σ t_cells (subI x1 3)))] N Λ σ (fun v5 σ4 => WI l mX3_fill d P 89 [(2, t), (0, x1), (0, 1), (0, v5), (0, v5)] [] N Λ σ4)))))))) ∧ (¬ (x1 < (σ t 2)) → (∀ τ6, τ6 = st σ t 4 (addI (σ t 4) 1) → ((¬ (subI (τ6 t 4) 1) = (τ6 t 3) → P 0 τ6) ∧ ((subI (τ6 t 4) 1) = (τ6 t 3) → P 1 τ6)))))) :
    WI l mX3_fill d P 0 [(2, t), (0, x1), (3, 0), (3, 0), (3, 0)] [] N Λ σ := by
  refine r_iload_n (x := x1) d_X3_fill_0 rfl ?_
  refine r_aload_n (x := t) d_X3_fill_1 rfl o_t.1 ?_
  refine r_getf (j := 2) (t := 0) (x := (σ t 2)) d_X3_fill_2 kX3 (by decide) fl_X3_18 o_t.1 o_t.2.1 o_t.2.2.1 o_t.2.2.2 rfl rfl ?_
  refine r_ic_lt (tgt := 37) d_X3_fill_5 rfl (fun hc => ?_) (fun hc => ?_)
  · have h := h.1 hc
    refine r_iload_n (x := x1) d_X3_fill_37 rfl ?_
    refine r_iconst (x := 3) d_X3_fill_38 ⟨by decide, by decide⟩ ?_
    refine r_irem d_X3_fill_39 (by decide) ?_
    refine r_if_ne (tgt := 47) d_X3_fill_40 rfl (fun hc => ?_) (fun hc => ?_)
    · have h := h.1 hc
      refine r_iconst (x := 0) d_X3_fill_47 ⟨by decide, by decide⟩ ?_
      refine r_istore_n (L2 := [(2, t), (0, x1), (0, 0), (3, 0), (3, 0)]) d_X3_fill_48 (by decide) rfl rfl ?_
      refine r_iload_n (x := 0) d_X3_fill_49 rfl ?_
      refine r_if_eq (tgt := 57) d_X3_fill_50 rfl (fun _ => ?_) (fun hc => absurd hc (by decide))
      refine r_aload_n (x := t) d_X3_fill_57 rfl o_t.1 ?_
      refine r_getf (j := 1) (t := 2) (x := t_cells) d_X3_fill_58 kX3 (by decide) fl_X3_15 o_t.1 o_t.2.1 o_t.2.2.1 o_t.2.2.2 rfl f_t_cells ?_
      refine r_iload_n (x := x1) d_X3_fill_61 rfl ?_
      refine r_iconst (x := 1) d_X3_fill_62 ⟨by decide, by decide⟩ ?_
      refine r_isub d_X3_fill_63 ?_
      refine x_iald d_X3_fill_64 h.1 ?_
      have h := h.2
      refine r_iconst (x := 1) d_X3_fill_65 ⟨by decide, by decide⟩ ?_
      refine r_iadd d_X3_fill_66 ?_
      refine r_nm (fun y1 ey1 => ?_)
      have h := h y1 ey1
      refine r_istore_n (L2 := [(2, t), (0, x1), (0, 0), (0, y1), (3, 0)]) d_X3_fill_67 (by decide) rfl rfl ?_
      refine r_iload_n (x := x1) d_X3_fill_68 rfl ?_
      refine r_iconst (x := 3) d_X3_fill_69 ⟨by decide, by decide⟩ ?_
      refine r_ic_lt (tgt := 86) d_X3_fill_70 rfl (fun hc => ?_) (fun hc => ?_)
      · have h := h.1 hc
        refine r_iload_n (x := y1) d_X3_fill_86 rfl ?_
        refine r_istore (L2 := [(2, t), (0, x1), (0, 0), (0, y1), (0, y1)]) d_X3_fill_87 (by decide) rfl rfl ?_
        exact h
      · have h := h.2 hc
        refine r_iload_n (x := y1) d_X3_fill_73 rfl ?_
        refine r_aload_n (x := t) d_X3_fill_74 rfl o_t.1 ?_
        refine r_getf (j := 1) (t := 2) (x := t_cells) d_X3_fill_75 kX3 (by decide) fl_X3_15 o_t.1 o_t.2.1 o_t.2.2.1 o_t.2.2.2 rfl f_t_cells ?_
        refine r_iload_n (x := x1) d_X3_fill_78 rfl ?_
        refine r_iconst (x := 3) d_X3_fill_79 ⟨by decide, by decide⟩ ?_
        refine r_isub d_X3_fill_80 ?_
        refine x_iald d_X3_fill_81 h.1 ?_
        have h := h.2
        refine r_callS (Y2 := mJ9_max_7cf53) (d := d - 1) (mc := 0) (ms := 0) (As := [(0, y1), (0, (σ t_cells (subI x1 3)))]) (S := []) d_X3_fill_82 ok_mJ9_max_7cf53 ml_X3_47 rfl (rmc h0d (by decide)) rm00 (Nat.le_of_ble_eq_true rfl) rfl (MC.mono h (fun r N1 Λ1 σ2 hq => ?_))
        obtain ⟨v3, rfl, rfl, rfl, h⟩ := hq
        refine r_istore_n (L2 := [(2, t), (0, x1), (0, 0), (0, v3), (3, 0)]) d_X3_fill_85 (by decide) rfl rfl ?_
        refine r_iload_n (x := v3) d_X3_fill_86 rfl ?_
        refine r_istore (L2 := [(2, t), (0, x1), (0, 0), (0, v3), (0, v3)]) d_X3_fill_87 (by decide) rfl rfl ?_
        exact h
    · have h := h.2 hc
      refine r_iconst (x := 1) d_X3_fill_43 ⟨by decide, by decide⟩ ?_
      refine r_goto (tgt := 48) d_X3_fill_44 rfl ?_
      refine r_istore_n (L2 := [(2, t), (0, x1), (0, 1), (3, 0), (3, 0)]) d_X3_fill_48 (by decide) rfl rfl ?_
      refine r_iload_n (x := 1) d_X3_fill_49 rfl ?_
      refine r_if_eq (tgt := 57) d_X3_fill_50 rfl (fun hc => absurd hc (by decide)) (fun _ => ?_)
      refine r_iconst (x := 0) d_X3_fill_53 ⟨by decide, by decide⟩ ?_
      refine r_goto (tgt := 67) d_X3_fill_54 rfl ?_
      refine r_istore_n (L2 := [(2, t), (0, x1), (0, 1), (0, 0), (3, 0)]) d_X3_fill_67 (by decide) rfl rfl ?_
      refine r_iload_n (x := x1) d_X3_fill_68 rfl ?_
      refine r_iconst (x := 3) d_X3_fill_69 ⟨by decide, by decide⟩ ?_
      refine r_ic_lt (tgt := 86) d_X3_fill_70 rfl (fun hc => ?_) (fun hc => ?_)
      · have h := h.1 hc
        refine r_iload_n (x := 0) d_X3_fill_86 rfl ?_
        refine r_istore (L2 := [(2, t), (0, x1), (0, 1), (0, 0), (0, 0)]) d_X3_fill_87 (by decide) rfl rfl ?_
        exact h
      · have h := h.2 hc
        refine r_iload_n (x := 0) d_X3_fill_73 rfl ?_
        refine r_aload_n (x := t) d_X3_fill_74 rfl o_t.1 ?_
        refine r_getf (j := 1) (t := 2) (x := t_cells) d_X3_fill_75 kX3 (by decide) fl_X3_15 o_t.1 o_t.2.1 o_t.2.2.1 o_t.2.2.2 rfl f_t_cells ?_
        refine r_iload_n (x := x1) d_X3_fill_78 rfl ?_
        refine r_iconst (x := 3) d_X3_fill_79 ⟨by decide, by decide⟩ ?_
        refine r_isub d_X3_fill_80 ?_
        refine x_iald d_X3_fill_81 h.1 ?_
        have h := h.2
        refine r_callS (Y2 := mJ9_max_7cf53) (d := d - 1) (mc := 0) (ms := 0) (As := [(0, 0), (0, (σ t_cells (subI x1 3)))]) (S := []) d_X3_fill_82 ok_mJ9_max_7cf53 ml_X3_47 rfl (rmc h0d (by decide)) rm00 (Nat.le_of_ble_eq_true rfl) rfl (MC.mono h (fun r N1 Λ1 σ4 hq => ?_))
        obtain ⟨v5, rfl, rfl, rfl, h⟩ := hq
        refine r_istore_n (L2 := [(2, t), (0, x1), (0, 1), (0, v5), (3, 0)]) d_X3_fill_85 (by decide) rfl rfl ?_
        refine r_iload_n (x := v5) d_X3_fill_86 rfl ?_
        refine r_istore (L2 := [(2, t), (0, x1), (0, 1), (0, v5), (0, v5)]) d_X3_fill_87 (by decide) rfl rfl ?_
        exact h
  · have h := h.2 hc
    refine r_aload_n (x := t) d_X3_fill_8 rfl o_t.1 ?_
    refine r_dup d_X3_fill_9 rfl ?_
    refine r_getf (j := 4) (t := 0) (x := (σ t 4)) d_X3_fill_10 kX3 (by decide) fl_X3_26 o_t.1 o_t.2.1 o_t.2.2.1 o_t.2.2.2 rfl rfl ?_
    refine r_iconst (x := 1) d_X3_fill_13 ⟨by decide, by decide⟩ ?_
    refine r_iadd d_X3_fill_14 ?_
    refine r_putI (j := 4) d_X3_fill_15 kX3 (by decide) fl_X3_26 rfl o_t.1 o_t.2.1 o_t.2.2.1 o_t.2.2.2 rfl ?_
    refine r_nmM (fun τ6 eτ6 => ?_)
    have h := h τ6 eτ6
    refine r_aload_n (x := t) d_X3_fill_18 rfl o_t.1 ?_
    refine r_getf (j := 4) (t := 0) (x := (τ6 t 4)) d_X3_fill_19 kX3 (by decide) fl_X3_26 o_t.1 o_t.2.1 o_t.2.2.1 o_t.2.2.2 rfl rfl ?_
    refine r_iconst (x := 1) d_X3_fill_22 ⟨by decide, by decide⟩ ?_
    refine r_isub d_X3_fill_23 ?_
    refine r_aload_n (x := t) d_X3_fill_24 rfl o_t.1 ?_
    refine r_getf (j := 3) (t := 0) (x := (τ6 t 3)) d_X3_fill_25 kX3 (by decide) fl_X3_23 o_t.1 o_t.2.1 o_t.2.2.1 o_t.2.2.2 rfl rfl ?_
    refine r_ic_ne (tgt := 35) d_X3_fill_28 rfl (fun hc => ?_) (fun hc => ?_)
    · have h := h.1 hc
      refine r_iconst (x := 0) d_X3_fill_35 ⟨by decide, by decide⟩ ?_
      exact r_iret d_X3_fill_36 rfl (by decide) (Nat.le_refl 0) (Nat.le_refl 0) ⟨_, rfl, rfl, rfl, h⟩
    · have h := h.2 hc
      refine r_iconst (x := 1) d_X3_fill_31 ⟨by decide, by decide⟩ ?_
      refine r_goto (tgt := 36) d_X3_fill_32 rfl ?_
      exact r_iret d_X3_fill_36 rfl (by decide) (Nat.le_refl 0) (Nat.le_refl 0) ⟨_, rfl, rfl, rfl, h⟩
theorem v_X3_fill_89 {l : Launch} {d N : Nat} {Λ : Lay} {P : Int → Mem → Prop} {σ : Mem} {x1 x2 x3 x4 t t_cells t_unused : Int} (o_t : Ob N Λ t 13 5) (f_t_unused : (Λ t).2.2 0 = t_unused) (f_t_cells : (Λ t).2.2 1 = t_cells) (h0d : 1 ≤ d)
    (h : ((10 ≤ x4 → P 0 σ) ∧ (¬ (10 ≤ x4) → (Ix N Λ t_unused 0 x4 ∧ (((σ t_unused x4) ≤ 0 → (∀ y1, y1 = addI x4 1 → WI l mX3_fill d P 89 [(2, t), (0, x1), (0, x2), (0, x3), (0, y1)] [] N Λ σ)) ∧ (¬ ((σ t_unused x4) ≤ 0) → (Ix N Λ t_cells 0 x1 ∧ (∀ τ2, τ2 = st σ t_cells x1 x4 → (Ix N Λ t_unused 0 x4 ∧ (Ix N Λ t_unused 0 x4 ∧ (∀ τ3, τ3 = st τ2 t_unused x4 (subI (τ2 t_unused x4) 1) → (CI l mX3_fill (d - 1) [(2, t), (0, (addI x1 1))] N Λ τ3 (fun v5 σ4 => ((v5 = 0 → (Ix N Λ t_unused 0 x4 ∧ (Ix N Λ t_unused 0 x4 ∧ (∀ τ6, τ6 = st σ4 t_unused x4 (addI (σ4 t_unused x4) 1) → ((x2 = 0 → (∀ y7, y7 = addI x4 1 → WI l mX3_fill d P 89 [(2, t), (0, x1), (0, x2), (0, x3), (0, y7)] [] N Λ τ6)) ∧ (¬ (x2 = 0) → P 0 τ6)))))) ∧ (¬ (v5 = 0) → P 1 σ4))))))))))))))) :
    WI l mX3_fill d P 89 [(2, t), (0, x1), (0, x2), (0, x3), (0, x4)] [] N Λ σ := by
  refine r_iload (x := x4) d_X3_fill_89 rfl ?_
  refine r_bipush (x := 10) d_X3_fill_91 ⟨by decide, by decide⟩ (by decide) ?_
  refine r_ic_ge (tgt := 160) d_X3_fill_93 rfl (fun hc => ?_) (fun hc => ?_)
  · have h := h.1 hc
    refine r_iconst (x := 0) d_X3_fill_160 ⟨by decide, by decide⟩ ?_
    exact r_iret d_X3_fill_161 rfl (by decide) (Nat.le_refl 0) (Nat.le_refl 0) ⟨_, rfl, rfl, rfl, h⟩
  · have h := h.2 hc
    refine r_aload_n (x := t) d_X3_fill_96 rfl o_t.1 ?_
    refine r_getf (j := 0) (t := 2) (x := t_unused) d_X3_fill_97 kX3 (by decide) fl_X3_9 o_t.1 o_t.2.1 o_t.2.2.1 o_t.2.2.2 rfl f_t_unused ?_
    refine r_iload (x := x4) d_X3_fill_100 rfl ?_
    refine x_iald d_X3_fill_102 h.1 ?_
    have h := h.2
    refine r_if_le (tgt := 154) d_X3_fill_103 rfl (fun hc => ?_) (fun hc => ?_)
    · have h := h.1 hc
      refine x_iinc (x := x4) (L := [(2, t), (0, x1), (0, x2), (0, x3), (0, x4)]) d_X3_fill_154 rfl (by decide) rfl (fun y1 ey1 => ?_)
      have h := h y1 ey1
      show WP _ _ _ _ _ _ _ _ [(2, t), (0, x1), (0, x2), (0, x3), (0, y1)] _ _ _ _
      refine r_goto (tgt := 89) d_X3_fill_157 rfl ?_
      exact h
    · have h := h.2 hc
      refine r_aload_n (x := t) d_X3_fill_106 rfl o_t.1 ?_
      refine r_getf (j := 1) (t := 2) (x := t_cells) d_X3_fill_107 kX3 (by decide) fl_X3_15 o_t.1 o_t.2.1 o_t.2.2.1 o_t.2.2.2 rfl f_t_cells ?_
      refine r_iload_n (x := x1) d_X3_fill_110 rfl ?_
      refine r_iload (x := x4) d_X3_fill_111 rfl ?_
      refine x_iast d_X3_fill_113 h.1 ?_
      have h := h.2
      refine r_nmM (fun τ2 eτ2 => ?_)
      have h := h τ2 eτ2
      refine r_aload_n (x := t) d_X3_fill_114 rfl o_t.1 ?_
      refine r_getf (j := 0) (t := 2) (x := t_unused) d_X3_fill_115 kX3 (by decide) fl_X3_9 o_t.1 o_t.2.1 o_t.2.2.1 o_t.2.2.2 rfl f_t_unused ?_
      refine r_iload (x := x4) d_X3_fill_118 rfl ?_
      refine r_dup2 d_X3_fill_120 rfl rfl ?_
      refine x_iald d_X3_fill_121 h.1 ?_
      have h := h.2
      refine r_iconst (x := 1) d_X3_fill_122 ⟨by decide, by decide⟩ ?_
      refine r_isub d_X3_fill_123 ?_
      refine x_iast d_X3_fill_124 h.1 ?_
      have h := h.2
      refine r_nmM (fun τ3 eτ3 => ?_)
      have h := h τ3 eτ3
      refine r_aload_n (x := t) d_X3_fill_125 rfl o_t.1 ?_
      refine r_iload_n (x := x1) d_X3_fill_126 rfl ?_
      refine r_iconst (x := 1) d_X3_fill_127 ⟨by decide, by decide⟩ ?_
      refine r_iadd d_X3_fill_128 ?_
      refine r_callV (Y2 := mX3_fill) (d := d - 1) (mc := 0) (ms := 0) (c := t) (As := [(0, (addI x1 1))]) (S := []) d_X3_fill_129 ok_mX3_fill ml_X3_33 rfl (rmc h0d (by decide)) rm00 (Nat.le_of_ble_eq_true rfl) rfl kX3 o_t.1 o_t.2.1 o_t.2.2.1 o_t.2.2.2 (MC.mono h (fun r N1 Λ1 σ4 hq => ?_))
      obtain ⟨v5, rfl, rfl, rfl, h⟩ := hq
      refine r_if_eq (tgt := 137) d_X3_fill_132 rfl (fun hc => ?_) (fun hc => ?_)
      · have h := h.1 hc
        refine r_aload_n (x := t) d_X3_fill_137 rfl o_t.1 ?_
        refine r_getf (j := 0) (t := 2) (x := t_unused) d_X3_fill_138 kX3 (by decide) fl_X3_9 o_t.1 o_t.2.1 o_t.2.2.1 o_t.2.2.2 rfl f_t_unused ?_
        refine r_iload (x := x4) d_X3_fill_141 rfl ?_
        refine r_dup2 d_X3_fill_143 rfl rfl ?_
        refine x_iald d_X3_fill_144 h.1 ?_
        have h := h.2
        refine r_iconst (x := 1) d_X3_fill_145 ⟨by decide, by decide⟩ ?_
        refine r_iadd d_X3_fill_146 ?_
        refine x_iast d_X3_fill_147 h.1 ?_
        have h := h.2
        refine r_nmM (fun τ6 eτ6 => ?_)
        have h := h τ6 eτ6
        refine r_iload_n (x := x2) d_X3_fill_148 rfl ?_
        refine r_if_eq (tgt := 154) d_X3_fill_149 rfl (fun hc => ?_) (fun hc => ?_)
        · have h := h.1 hc
          refine x_iinc (x := x4) (L := [(2, t), (0, x1), (0, x2), (0, x3), (0, x4)]) d_X3_fill_154 rfl (by decide) rfl (fun y7 ey7 => ?_)
          have h := h y7 ey7
          show WP _ _ _ _ _ _ _ _ [(2, t), (0, x1), (0, x2), (0, x3), (0, y7)] _ _ _ _
          refine r_goto (tgt := 89) d_X3_fill_157 rfl ?_
          exact h
        · have h := h.2 hc
          refine r_iconst (x := 0) d_X3_fill_152 ⟨by decide, by decide⟩ ?_
          exact r_iret d_X3_fill_153 rfl (by decide) (Nat.le_refl 0) (Nat.le_refl 0) ⟨_, rfl, rfl, rfl, h⟩
      · have h := h.2 hc
        refine r_iconst (x := 1) d_X3_fill_135 ⟨by decide, by decide⟩ ?_
        exact r_iret d_X3_fill_136 rfl (by decide) (Nat.le_refl 0) (Nat.le_refl 0) ⟨_, rfl, rfl, rfl, h⟩
