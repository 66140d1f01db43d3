theorem d_X3_countAll_0 : DC mX3_countAll 0 (.aload_n 0) 1 1 := ⟨by decide +kernel, rfl⟩
theorem d_X3_countAll_1 : DC mX3_countAll 1 (.lload_n 1) 1 2 := ⟨by decide +kernel, rfl⟩
theorem d_X3_countAll_2 : DC mX3_countAll 2 (.ldc 22) 2 4 := ⟨by decide +kernel, rfl⟩
theorem d_X3_countAll_4 : DC mX3_countAll 4 (.invokevirtual 29) 3 7 := ⟨by decide +kernel, rfl⟩
theorem d_X3_countAll_7 : DC mX3_countAll 7 (.aload_n 0) 1 8 := ⟨by decide +kernel, rfl⟩
theorem d_X3_countAll_8 : DC mX3_countAll 8 (.iconst 0) 1 9 := ⟨by decide +kernel, rfl⟩
theorem d_X3_countAll_9 : DC mX3_countAll 9 (.invokevirtual 33) 3 12 := ⟨by decide +kernel, rfl⟩
theorem d_X3_countAll_12 : DC mX3_countAll 12 (.pop) 1 13 := ⟨by decide +kernel, rfl⟩
theorem d_X3_countAll_13 : DC mX3_countAll 13 (.aload_n 0) 1 14 := ⟨by decide +kernel, rfl⟩
theorem d_X3_countAll_14 : DC mX3_countAll 14 (.getfield 26) 3 17 := ⟨by decide +kernel, rfl⟩
theorem d_X3_countAll_17 : DC mX3_countAll 17 (.ireturn) 1 18 := ⟨by decide +kernel, rfl⟩
theorem d_X3_letterOf_0 : DC mX3_letterOf 0 (.aload_n 0) 1 1 := ⟨by decide +kernel, rfl⟩
theorem d_X3_letterOf_1 : DC mX3_letterOf 1 (.lload_n 1) 1 2 := ⟨by decide +kernel, rfl⟩
theorem d_X3_letterOf_2 : DC mX3_letterOf 2 (.iload_n 3) 1 3 := ⟨by decide +kernel, rfl⟩
theorem d_X3_letterOf_3 : DC mX3_letterOf 3 (.invokevirtual 29) 3 6 := ⟨by decide +kernel, rfl⟩
theorem d_X3_letterOf_6 : DC mX3_letterOf 6 (.iload 4) 2 8 := ⟨by decide +kernel, rfl⟩
theorem d_X3_letterOf_8 : DC mX3_letterOf 8 (.aload_n 0) 1 9 := ⟨by decide +kernel, rfl⟩
theorem d_X3_letterOf_9 : DC mX3_letterOf 9 (.getfield 18) 3 12 := ⟨by decide +kernel, rfl⟩
theorem d_X3_letterOf_12 : DC mX3_letterOf 12 (.if_icmp .ge 11) 3 15 := ⟨by decide +kernel, rfl⟩
theorem d_X3_letterOf_15 : DC mX3_letterOf 15 (.aload_n 0) 1 16 := ⟨by decide +kernel, rfl⟩
theorem d_X3_letterOf_16 : DC mX3_letterOf 16 (.iconst 0) 1 17 := ⟨by decide +kernel, rfl⟩
theorem d_X3_letterOf_17 : DC mX3_letterOf 17 (.invokevirtual 33) 3 20 := ⟨by decide +kernel, rfl⟩
theorem d_X3_letterOf_20 : DC mX3_letterOf 20 (.ifCond .ne 5) 3 23 := ⟨by decide +kernel, rfl⟩
theorem d_X3_letterOf_23 : DC mX3_letterOf 23 (.iconst (-1)) 1 24 := ⟨by decide +kernel, rfl⟩
theorem d_X3_letterOf_24 : DC mX3_letterOf 24 (.ireturn) 1 25 := ⟨by decide +kernel, rfl⟩
theorem d_X3_letterOf_25 : DC mX3_letterOf 25 (.aload_n 0) 1 26 := ⟨by decide +kernel, rfl⟩
theorem d_X3_letterOf_26 : DC mX3_letterOf 26 (.getfield 15) 3 29 := ⟨by decide +kernel, rfl⟩
theorem d_X3_letterOf_29 : DC mX3_letterOf 29 (.iload 4) 2 31 := ⟨by decide +kernel, rfl⟩
theorem d_X3_letterOf_31 : DC mX3_letterOf 31 (.iaload) 1 32 := ⟨by decide +kernel, rfl⟩
theorem d_X3_letterOf_32 : DC mX3_letterOf 32 (.ireturn) 1 33 := ⟨by decide +kernel, rfl⟩
theorem d_X5_take_0 : DC mX5_take 0 (.aload_n 1) 1 1 := ⟨by decide +kernel, rfl⟩
theorem d_X5_take_1 : DC mX5_take 1 (.getfield 9) 3 4 := ⟨by decide +kernel, rfl⟩
theorem d_X5_take_4 : DC mX5_take 4 (.iconst 0) 1 5 := ⟨by decide +kernel, rfl⟩
theorem d_X5_take_5 : DC mX5_take 5 (.aload_n 0) 1 6 := ⟨by decide +kernel, rfl⟩
theorem d_X5_take_6 : DC mX5_take 6 (.getfield 9) 3 9 := ⟨by decide +kernel, rfl⟩
theorem d_X5_take_9 : DC mX5_take 9 (.iconst 0) 1 10 := ⟨by decide +kernel, rfl⟩
theorem d_X5_take_10 : DC mX5_take 10 (.aload_n 1) 1 11 := ⟨by decide +kernel, rfl⟩
theorem d_X5_take_11 : DC mX5_take 11 (.getfield 19) 3 14 := ⟨by decide +kernel, rfl⟩
theorem d_X5_take_14 : DC mX5_take 14 (.invokestatic 23) 3 17 := ⟨by decide +kernel, rfl⟩
theorem d_X5_take_17 : DC mX5_take 17 (.aload_n 1) 1 18 := ⟨by decide +kernel, rfl⟩
theorem d_X5_take_18 : DC mX5_take 18 (.getfield 15) 3 21 := ⟨by decide +kernel, rfl⟩
theorem d_X5_take_21 : DC mX5_take 21 (.iconst 0) 1 22 := ⟨by decide +kernel, rfl⟩
theorem d_X5_take_22 : DC mX5_take 22 (.aload_n 0) 1 23 := ⟨by decide +kernel, rfl⟩
theorem d_X5_take_23 : DC mX5_take 23 (.getfield 15) 3 26 := ⟨by decide +kernel, rfl⟩
theorem d_X5_take_26 : DC mX5_take 26 (.iconst 0) 1 27 := ⟨by decide +kernel, rfl⟩
theorem d_X5_take_27 : DC mX5_take 27 (.aload_n 1) 1 28 := ⟨by decide +kernel, rfl⟩
theorem d_X5_take_28 : DC mX5_take 28 (.getfield 19) 3 31 := ⟨by decide +kernel, rfl⟩
theorem d_X5_take_31 : DC mX5_take 31 (.invokestatic 23) 3 34 := ⟨by decide +kernel, rfl⟩
theorem d_X5_take_34 : DC mX5_take 34 (.aload_n 0) 1 35 := ⟨by decide +kernel, rfl⟩
theorem d_X5_take_35 : DC mX5_take 35 (.aload_n 1) 1 36 := ⟨by decide +kernel, rfl⟩
theorem d_X5_take_36 : DC mX5_take 36 (.getfield 19) 3 39 := ⟨by decide +kernel, rfl⟩
theorem d_X5_take_39 : DC mX5_take 39 (.putfield 19) 3 42 := ⟨by decide +kernel, rfl⟩
theorem d_X5_take_42 : DC mX5_take 42 (.return_) 1 43 := ⟨by decide +kernel, rfl⟩
theorem d_X7_take_0 : DC mX7_take 0 (.iconst 0) 1 1 := ⟨by decide +kernel, rfl⟩
theorem d_X7_take_1 : DC mX7_take 1 (.istore_n 2) 1 2 := ⟨by decide +kernel, rfl⟩
theorem d_X7_take_2 : DC mX7_take 2 (.iload_n 2) 1 3 := ⟨by decide +kernel, rfl⟩
theorem d_X7_take_3 : DC mX7_take 3 (.bipush 6) 2 5 := ⟨by decide +kernel, rfl⟩
theorem d_X7_take_5 : DC mX7_take 5 (.if_icmp .ge 24) 3 8 := ⟨by decide +kernel, rfl⟩
theorem d_X7_take_8 : DC mX7_take 8 (.aload_n 0) 1 9 := ⟨by decide +kernel, rfl⟩
theorem d_X7_take_9 : DC mX7_take 9 (.getfield 11) 3 12 := ⟨by decide +kernel, rfl⟩
theorem d_X7_take_12 : DC mX7_take 12 (.iload_n 2) 1 13 := ⟨by decide +kernel, rfl⟩
theorem d_X7_take_13 : DC mX7_take 13 (.aaload) 1 14 := ⟨by decide +kernel, rfl⟩
theorem d_X7_take_14 : DC mX7_take 14 (.aload_n 1) 1 15 := ⟨by decide +kernel, rfl⟩
theorem d_X7_take_15 : DC mX7_take 15 (.getfield 11) 3 18 := ⟨by decide +kernel, rfl⟩
theorem d_X7_take_18 : DC mX7_take 18 (.iload_n 2) 1 19 := ⟨by decide +kernel, rfl⟩
theorem d_X7_take_19 : DC mX7_take 19 (.aaload) 1 20 := ⟨by decide +kernel, rfl⟩
theorem d_X7_take_20 : DC mX7_take 20 (.invokevirtual 31) 3 23 := ⟨by decide +kernel, rfl⟩
theorem d_X7_take_23 : DC mX7_take 23 (.iinc 2 1) 3 26 := ⟨by decide +kernel, rfl⟩
theorem d_X7_take_26 : DC mX7_take 26 (.goto (-24)) 3 29 := ⟨by decide +kernel, rfl⟩
theorem d_X7_take_29 : DC mX7_take 29 (.aload_n 1) 1 30 := ⟨by decide +kernel, rfl⟩
theorem d_X7_take_30 : DC mX7_take 30 (.getfield 17) 3 33 := ⟨by decide +kernel, rfl⟩
theorem d_X7_take_33 : DC mX7_take 33 (.iconst 0) 1 34 := ⟨by decide +kernel, rfl⟩
theorem d_X7_take_34 : DC mX7_take 34 (.aload_n 0) 1 35 := ⟨by decide +kernel, rfl⟩
theorem d_X7_take_35 : DC mX7_take 35 (.getfield 17) 3 38 := ⟨by decide +kernel, rfl⟩
theorem d_X7_take_38 : DC mX7_take 38 (.iconst 0) 1 39 := ⟨by decide +kernel, rfl⟩
theorem d_X7_take_39 : DC mX7_take 39 (.aload_n 0) 1 40 := ⟨by decide +kernel, rfl⟩
theorem d_X7_take_40 : DC mX7_take 40 (.getfield 17) 3 43 := ⟨by decide +kernel, rfl⟩
theorem d_X7_take_43 : DC mX7_take 43 (.arraylength) 1 44 := ⟨by decide +kernel, rfl⟩
theorem d_X7_take_44 : DC mX7_take 44 (.invokestatic 35) 3 47 := ⟨by decide +kernel, rfl⟩
theorem d_X7_take_47 : DC mX7_take 47 (.aload_n 1) 1 48 := ⟨by decide +kernel, rfl⟩
theorem d_X7_take_48 : DC mX7_take 48 (.getfield 21) 3 51 := ⟨by decide +kernel, rfl⟩
theorem d_X7_take_51 : DC mX7_take 51 (.iconst 0) 1 52 := ⟨by decide +kernel, rfl⟩
theorem d_X7_take_52 : DC mX7_take 52 (.aload_n 0) 1 53 := ⟨by decide +kernel, rfl⟩
theorem d_X7_take_53 : DC mX7_take 53 (.getfield 21) 3 56 := ⟨by decide +kernel, rfl⟩
theorem d_X7_take_56 : DC mX7_take 56 (.iconst 0) 1 57 := ⟨by decide +kernel, rfl⟩
theorem d_X7_take_57 : DC mX7_take 57 (.aload_n 0) 1 58 := ⟨by decide +kernel, rfl⟩
theorem d_X7_take_58 : DC mX7_take 58 (.getfield 21) 3 61 := ⟨by decide +kernel, rfl⟩
theorem d_X7_take_61 : DC mX7_take 61 (.arraylength) 1 62 := ⟨by decide +kernel, rfl⟩
theorem d_X7_take_62 : DC mX7_take 62 (.invokestatic 35) 3 65 := ⟨by decide +kernel, rfl⟩
theorem d_X7_take_65 : DC mX7_take 65 (.return_) 1 66 := ⟨by decide +kernel, rfl⟩
theorem d_J9_min_7cf53_0 : DC mJ9_min_7cf53 0 (.iload_n 0) 1 1 := ⟨by decide +kernel, rfl⟩
theorem d_J9_min_7cf53_1 : DC mJ9_min_7cf53 1 (.iload_n 1) 1 2 := ⟨by decide +kernel, rfl⟩
theorem d_J9_min_7cf53_2 : DC mJ9_min_7cf53 2 (.if_icmp .gt 7) 3 5 := ⟨by decide +kernel, rfl⟩
theorem d_J9_min_7cf53_5 : DC mJ9_min_7cf53 5 (.iload_n 0) 1 6 := ⟨by decide +kernel, rfl⟩
theorem d_J9_min_7cf53_6 : DC mJ9_min_7cf53 6 (.goto 4) 3 9 := ⟨by decide +kernel, rfl⟩
theorem d_J9_min_7cf53_9 : DC mJ9_min_7cf53 9 (.iload_n 1) 1 10 := ⟨by decide +kernel, rfl⟩
theorem d_J9_min_7cf53_10 : DC mJ9_min_7cf53 10 (.ireturn) 1 11 := ⟨by decide +kernel, rfl⟩
theorem d_X4_keep_0 : DC mX4_keep 0 (.aload_n 0) 1 1 := ⟨by decide +kernel, rfl⟩
theorem d_X4_keep_1 : DC mX4_keep 1 (.getfield 17) 3 4 := ⟨by decide +kernel, rfl⟩
theorem d_X4_keep_4 : DC mX4_keep 4 (.aload_n 0) 1 5 := ⟨by decide +kernel, rfl⟩
theorem d_X4_keep_5 : DC mX4_keep 5 (.getfield 21) 3 8 := ⟨by decide +kernel, rfl⟩
theorem d_X4_keep_8 : DC mX4_keep 8 (.aaload) 1 9 := ⟨by decide +kernel, rfl⟩
theorem d_X4_keep_9 : DC mX4_keep 9 (.aload_n 1) 1 10 := ⟨by decide +kernel, rfl⟩
theorem d_X4_keep_10 : DC mX4_keep 10 (.invokevirtual 25) 3 13 := ⟨by decide +kernel, rfl⟩
theorem d_X4_keep_13 : DC mX4_keep 13 (.aload_n 0) 1 14 := ⟨by decide +kernel, rfl⟩
theorem d_X4_keep_14 : DC mX4_keep 14 (.aload_n 0) 1 15 := ⟨by decide +kernel, rfl⟩
theorem d_X4_keep_15 : DC mX4_keep 15 (.getfield 21) 3 18 := ⟨by decide +kernel, rfl⟩
theorem d_X4_keep_18 : DC mX4_keep 18 (.iconst 1) 1 19 := ⟨by decide +kernel, rfl⟩
theorem d_X4_keep_19 : DC mX4_keep 19 (.iadd) 1 20 := ⟨by decide +kernel, rfl⟩
theorem d_X4_keep_20 : DC mX4_keep 20 (.bipush 10) 2 22 := ⟨by decide +kernel, rfl⟩
theorem d_X4_keep_22 : DC mX4_keep 22 (.irem) 1 23 := ⟨by decide +kernel, rfl⟩
theorem d_X4_keep_23 : DC mX4_keep 23 (.putfield 21) 3 26 := ⟨by decide +kernel, rfl⟩
theorem d_X4_keep_26 : DC mX4_keep 26 (.aload_n 0) 1 27 := ⟨by decide +kernel, rfl⟩
theorem d_X4_keep_27 : DC mX4_keep 27 (.aload_n 0) 1 28 := ⟨by decide +kernel, rfl⟩
theorem d_X4_keep_28 : DC mX4_keep 28 (.getfield 9) 3 31 := ⟨by decide +kernel, rfl⟩
theorem d_X4_keep_31 : DC mX4_keep 31 (.iconst 1) 1 32 := ⟨by decide +kernel, rfl⟩
theorem d_X4_keep_32 : DC mX4_keep 32 (.iadd) 1 33 := ⟨by decide +kernel, rfl⟩
theorem d_X4_keep_33 : DC mX4_keep 33 (.bipush 10) 2 35 := ⟨by decide +kernel, rfl⟩
theorem d_X4_keep_35 : DC mX4_keep 35 (.invokestatic 29) 3 38 := ⟨by decide +kernel, rfl⟩
theorem d_X4_keep_38 : DC mX4_keep 38 (.putfield 9) 3 41 := ⟨by decide +kernel, rfl⟩
theorem d_X4_keep_41 : DC mX4_keep 41 (.return_) 1 42 := ⟨by decide +kernel, rfl⟩
theorem d_X4_goBack_0 : DC mX4_goBack 0 (.aload_n 0) 1 1 := ⟨by decide +kernel, rfl⟩
theorem d_X4_goBack_1 : DC mX4_goBack 1 (.aload_n 0) 1 2 := ⟨by decide +kernel, rfl⟩
theorem d_X4_goBack_2 : DC mX4_goBack 2 (.getfield 21) 3 5 := ⟨by decide +kernel, rfl⟩
theorem d_X4_goBack_5 : DC mX4_goBack 5 (.iload_n 1) 1 6 := ⟨by decide +kernel, rfl⟩
theorem d_X4_goBack_6 : DC mX4_goBack 6 (.isub) 1 7 := ⟨by decide +kernel, rfl⟩
theorem d_X4_goBack_7 : DC mX4_goBack 7 (.bipush 10) 2 9 := ⟨by decide +kernel, rfl⟩
theorem d_X4_goBack_9 : DC mX4_goBack 9 (.invokestatic 35) 3 12 := ⟨by decide +kernel, rfl⟩
theorem d_X4_goBack_12 : DC mX4_goBack 12 (.putfield 21) 3 15 := ⟨by decide +kernel, rfl⟩
theorem d_X4_goBack_15 : DC mX4_goBack 15 (.aload_n 0) 1 16 := ⟨by decide +kernel, rfl⟩
theorem d_X4_goBack_16 : DC mX4_goBack 16 (.dup) 1 17 := ⟨by decide +kernel, rfl⟩
theorem d_X4_goBack_17 : DC mX4_goBack 17 (.getfield 9) 3 20 := ⟨by decide +kernel, rfl⟩
theorem d_X4_goBack_20 : DC mX4_goBack 20 (.iload_n 1) 1 21 := ⟨by decide +kernel, rfl⟩
theorem d_X4_goBack_21 : DC mX4_goBack 21 (.isub) 1 22 := ⟨by decide +kernel, rfl⟩
theorem d_X4_goBack_22 : DC mX4_goBack 22 (.putfield 9) 3 25 := ⟨by decide +kernel, rfl⟩
theorem d_X4_goBack_25 : DC mX4_goBack 25 (.aload_n 2) 1 26 := ⟨by decide +kernel, rfl⟩
theorem d_X4_goBack_26 : DC mX4_goBack 26 (.aload_n 0) 1 27 := ⟨by decide +kernel, rfl⟩
theorem d_X4_goBack_27 : DC mX4_goBack 27 (.getfield 17) 3 30 := ⟨by decide +kernel, rfl⟩
theorem d_X4_goBack_30 : DC mX4_goBack 30 (.aload_n 0) 1 31 := ⟨by decide +kernel, rfl⟩
theorem d_X4_goBack_31 : DC mX4_goBack 31 (.getfield 21) 3 34 := ⟨by decide +kernel, rfl⟩
theorem d_X4_goBack_34 : DC mX4_goBack 34 (.aaload) 1 35 := ⟨by decide +kernel, rfl⟩
theorem d_X4_goBack_35 : DC mX4_goBack 35 (.invokevirtual 25) 3 38 := ⟨by decide +kernel, rfl⟩
theorem d_X4_goBack_38 : DC mX4_goBack 38 (.return_) 1 39 := ⟨by decide +kernel, rfl⟩
theorem d_X4_forget_0 : DC mX4_forget 0 (.aload_n 0) 1 1 := ⟨by decide +kernel, rfl⟩
theorem d_X4_forget_1 : DC mX4_forget 1 (.iconst 0) 1 2 := ⟨by decide +kernel, rfl⟩
theorem d_X4_forget_2 : DC mX4_forget 2 (.putfield 9) 3 5 := ⟨by decide +kernel, rfl⟩
theorem d_X4_forget_5 : DC mX4_forget 5 (.return_) 1 6 := ⟨by decide +kernel, rfl⟩
theorem d_X5_isLike_0 : DC mX5_isLike 0 (.aload_n 0) 1 1 := ⟨by decide +kernel, rfl⟩
theorem d_X5_isLike_1 : DC mX5_isLike 1 (.getfield 19) 3 4 := ⟨by decide +kernel, rfl⟩
theorem d_X5_isLike_4 : DC mX5_isLike 4 (.aload_n 1) 1 5 := ⟨by decide +kernel, rfl⟩
theorem d_X5_isLike_5 : DC mX5_isLike 5 (.getfield 19) 3 8 := ⟨by decide +kernel, rfl⟩
theorem d_X5_isLike_8 : DC mX5_isLike 8 (.if_icmp .eq 5) 3 11 := ⟨by decide +kernel, rfl⟩
theorem d_X5_isLike_11 : DC mX5_isLike 11 (.iconst 0) 1 12 := ⟨by decide +kernel, rfl⟩
theorem d_X5_isLike_12 : DC mX5_isLike 12 (.ireturn) 1 13 := ⟨by decide +kernel, rfl⟩
theorem d_X5_isLike_13 : DC mX5_isLike 13 (.iconst 0) 1 14 := ⟨by decide +kernel, rfl⟩
theorem d_X5_isLike_14 : DC mX5_isLike 14 (.istore_n 2) 1 15 := ⟨by decide +kernel, rfl⟩
theorem d_X5_isLike_15 : DC mX5_isLike 15 (.iload_n 2) 1 16 := ⟨by decide +kernel, rfl⟩
theorem d_X5_isLike_16 : DC mX5_isLike 16 (.aload_n 0) 1 17 := ⟨by decide +kernel, rfl⟩
theorem d_X5_isLike_17 : DC mX5_isLike 17 (.getfield 19) 3 20 := ⟨by decide +kernel, rfl⟩
theorem d_X5_isLike_20 : DC mX5_isLike 20 (.if_icmp .ge 42) 3 23 := ⟨by decide +kernel, rfl⟩
theorem d_X5_isLike_23 : DC mX5_isLike 23 (.aload_n 0) 1 24 := ⟨by decide +kernel, rfl⟩
theorem d_X5_isLike_24 : DC mX5_isLike 24 (.getfield 9) 3 27 := ⟨by decide +kernel, rfl⟩
theorem d_X5_isLike_27 : DC mX5_isLike 27 (.iload_n 2) 1 28 := ⟨by decide +kernel, rfl⟩
theorem d_X5_isLike_28 : DC mX5_isLike 28 (.laload) 1 29 := ⟨by decide +kernel, rfl⟩
theorem d_X5_isLike_29 : DC mX5_isLike 29 (.aload_n 1) 1 30 := ⟨by decide +kernel, rfl⟩
theorem d_X5_isLike_30 : DC mX5_isLike 30 (.getfield 9) 3 33 := ⟨by decide +kernel, rfl⟩
theorem d_X5_isLike_33 : DC mX5_isLike 33 (.iload_n 2) 1 34 := ⟨by decide +kernel, rfl⟩
theorem d_X5_isLike_34 : DC mX5_isLike 34 (.laload) 1 35 := ⟨by decide +kernel, rfl⟩
theorem d_X5_isLike_35 : DC mX5_isLike 35 (.lcmp) 1 36 := ⟨by decide +kernel, rfl⟩
theorem d_X5_isLike_36 : DC mX5_isLike 36 (.ifCond .ne 18) 3 39 := ⟨by decide +kernel, rfl⟩
theorem d_X5_isLike_39 : DC mX5_isLike 39 (.aload_n 0) 1 40 := ⟨by decide +kernel, rfl⟩
theorem d_X5_isLike_40 : DC mX5_isLike 40 (.getfield 15) 3 43 := ⟨by decide +kernel, rfl⟩
theorem d_X5_isLike_43 : DC mX5_isLike 43 (.iload_n 2) 1 44 := ⟨by decide +kernel, rfl⟩
theorem d_X5_isLike_44 : DC mX5_isLike 44 (.iaload) 1 45 := ⟨by decide +kernel, rfl⟩
theorem d_X5_isLike_45 : DC mX5_isLike 45 (.aload_n 1) 1 46 := ⟨by decide +kernel, rfl⟩
theorem d_X5_isLike_46 : DC mX5_isLike 46 (.getfield 15) 3 49 := ⟨by decide +kernel, rfl⟩
theorem d_X5_isLike_49 : DC mX5_isLike 49 (.iload_n 2) 1 50 := ⟨by decide +kernel, rfl⟩
theorem d_X5_isLike_50 : DC mX5_isLike 50 (.iaload) 1 51 := ⟨by decide +kernel, rfl⟩
theorem d_X5_isLike_51 : DC mX5_isLike 51 (.if_icmp .eq 5) 3 54 := ⟨by decide +kernel, rfl⟩
theorem d_X5_isLike_54 : DC mX5_isLike 54 (.iconst 0) 1 55 := ⟨by decide +kernel, rfl⟩
theorem d_X5_isLike_55 : DC mX5_isLike 55 (.ireturn) 1 56 := ⟨by decide +kernel, rfl⟩
theorem d_X5_isLike_56 : DC mX5_isLike 56 (.iinc 2 1) 3 59 := ⟨by decide +kernel, rfl⟩
theorem d_X5_isLike_59 : DC mX5_isLike 59 (.goto (-44)) 3 62 := ⟨by decide +kernel, rfl⟩
theorem d_X5_isLike_62 : DC mX5_isLike 62 (.iconst 1) 1 63 := ⟨by decide +kernel, rfl⟩
theorem d_X5_isLike_63 : DC mX5_isLike 63 (.ireturn) 1 64 := ⟨by decide +kernel, rfl⟩
theorem d_X6_indexOf_0 : DC mX6_indexOf 0 (.iload_n 0) 1 1 := ⟨by decide +kernel, rfl⟩
theorem d_X6_indexOf_1 : DC mX6_indexOf 1 (.iconst 0) 1 2 := ⟨by decide +kernel, rfl⟩
theorem d_X6_indexOf_2 : DC mX6_indexOf 2 (.invokestatic 9) 3 5 := ⟨by decide +kernel, rfl⟩
theorem d_X6_indexOf_5 : DC mX6_indexOf 5 (.istore_n 1) 1 6 := ⟨by decide +kernel, rfl⟩
theorem d_X6_indexOf_6 : DC mX6_indexOf 6 (.iload_n 0) 1 7 := ⟨by decide +kernel, rfl⟩
theorem d_X6_indexOf_7 : DC mX6_indexOf 7 (.iconst 1) 1 8 := ⟨by decide +kernel, rfl⟩
theorem d_X6_indexOf_8 : DC mX6_indexOf 8 (.invokestatic 9) 3 11 := ⟨by decide +kernel, rfl⟩
theorem d_X6_indexOf_11 : DC mX6_indexOf 11 (.istore_n 2) 1 12 := ⟨by decide +kernel, rfl⟩
theorem d_X6_indexOf_12 : DC mX6_indexOf 12 (.iload_n 0) 1 13 := ⟨by decide +kernel, rfl⟩
theorem d_X6_indexOf_13 : DC mX6_indexOf 13 (.iconst 2) 1 14 := ⟨by decide +kernel, rfl⟩
theorem d_X6_indexOf_14 : DC mX6_indexOf 14 (.invokestatic 9) 3 17 := ⟨by decide +kernel, rfl⟩
theorem d_X6_indexOf_17 : DC mX6_indexOf 17 (.istore_n 3) 1 18 := ⟨by decide +kernel, rfl⟩
theorem d_X6_indexOf_18 : DC mX6_indexOf 18 (.iload_n 3) 1 19 := ⟨by decide +kernel, rfl⟩
theorem d_X6_indexOf_19 : DC mX6_indexOf 19 (.iload_n 3) 1 20 := ⟨by decide +kernel, rfl⟩
theorem d_X6_indexOf_20 : DC mX6_indexOf 20 (.iconst 1) 1 21 := ⟨by decide +kernel, rfl⟩
theorem d_X6_indexOf_21 : DC mX6_indexOf 21 (.isub) 1 22 := ⟨by decide +kernel, rfl⟩
theorem d_X6_indexOf_22 : DC mX6_indexOf 22 (.imul) 1 23 := ⟨by decide +kernel, rfl⟩
theorem d_X6_indexOf_23 : DC mX6_indexOf 23 (.iload_n 3) 1 24 := ⟨by decide +kernel, rfl⟩
theorem d_X6_indexOf_24 : DC mX6_indexOf 24 (.iconst 2) 1 25 := ⟨by decide +kernel, rfl⟩
theorem d_X6_indexOf_25 : DC mX6_indexOf 25 (.isub) 1 26 := ⟨by decide +kernel, rfl⟩
theorem d_X6_indexOf_26 : DC mX6_indexOf 26 (.imul) 1 27 := ⟨by decide +kernel, rfl⟩
theorem d_X6_indexOf_27 : DC mX6_indexOf 27 (.bipush 6) 2 29 := ⟨by decide +kernel, rfl⟩
theorem d_X6_indexOf_29 : DC mX6_indexOf 29 (.idiv) 1 30 := ⟨by decide +kernel, rfl⟩
theorem d_X6_indexOf_30 : DC mX6_indexOf 30 (.iload_n 2) 1 31 := ⟨by decide +kernel, rfl⟩
theorem d_X6_indexOf_31 : DC mX6_indexOf 31 (.iload_n 2) 1 32 := ⟨by decide +kernel, rfl⟩
theorem d_X6_indexOf_32 : DC mX6_indexOf 32 (.iconst 1) 1 33 := ⟨by decide +kernel, rfl⟩
theorem d_X6_indexOf_33 : DC mX6_indexOf 33 (.isub) 1 34 := ⟨by decide +kernel, rfl⟩
theorem d_X6_indexOf_34 : DC mX6_indexOf 34 (.imul) 1 35 := ⟨by decide +kernel, rfl⟩
theorem d_X6_indexOf_35 : DC mX6_indexOf 35 (.iconst 2) 1 36 := ⟨by decide +kernel, rfl⟩
theorem d_X6_indexOf_36 : DC mX6_indexOf 36 (.idiv) 1 37 := ⟨by decide +kernel, rfl⟩
theorem d_X6_indexOf_37 : DC mX6_indexOf 37 (.iadd) 1 38 := ⟨by decide +kernel, rfl⟩
theorem d_X6_indexOf_38 : DC mX6_indexOf 38 (.iload_n 1) 1 39 := ⟨by decide +kernel, rfl⟩
theorem d_X6_indexOf_39 : DC mX6_indexOf 39 (.iadd) 1 40 := ⟨by decide +kernel, rfl⟩
theorem d_X6_indexOf_40 : DC mX6_indexOf 40 (.ireturn) 1 41 := ⟨by decide +kernel, rfl⟩
theorem d_X6_withoutTwo_0 : DC mX6_withoutTwo 0 (.lconst 0) 1 1 := ⟨by decide +kernel, rfl⟩
theorem d_X6_withoutTwo_1 : DC mX6_withoutTwo 1 (.lstore_n 3) 1 2 := ⟨by decide +kernel, rfl⟩
theorem d_X6_withoutTwo_2 : DC mX6_withoutTwo 2 (.iconst 0) 1 3 := ⟨by decide +kernel, rfl⟩
theorem d_X6_withoutTwo_3 : DC mX6_withoutTwo 3 (.istore 5) 2 5 := ⟨by decide +kernel, rfl⟩
theorem d_X6_withoutTwo_5 : DC mX6_withoutTwo 5 (.iload 5) 2 7 := ⟨by decide +kernel, rfl⟩
theorem d_X6_withoutTwo_7 : DC mX6_withoutTwo 7 (.iconst 4) 1 8 := ⟨by decide +kernel, rfl⟩
theorem d_X6_withoutTwo_8 : DC mX6_withoutTwo 8 (.if_icmp .ge 43) 3 11 := ⟨by decide +kernel, rfl⟩
theorem d_X6_withoutTwo_11 : DC mX6_withoutTwo 11 (.lload_n 0) 1 12 := ⟨by decide +kernel, rfl⟩
theorem d_X6_withoutTwo_12 : DC mX6_withoutTwo 12 (.iload 5) 2 14 := ⟨by decide +kernel, rfl⟩
theorem d_X6_withoutTwo_14 : DC mX6_withoutTwo 14 (.invokestatic 15) 3 17 := ⟨by decide +kernel, rfl⟩
theorem d_X6_withoutTwo_17 : DC mX6_withoutTwo 17 (.istore 6) 2 19 := ⟨by decide +kernel, rfl⟩
theorem d_X6_withoutTwo_19 : DC mX6_withoutTwo 19 (.iload 5) 2 21 := ⟨by decide +kernel, rfl⟩
theorem d_X6_withoutTwo_21 : DC mX6_withoutTwo 21 (.iload_n 2) 1 22 := ⟨by decide +kernel, rfl⟩
theorem d_X6_withoutTwo_22 : DC mX6_withoutTwo 22 (.if_icmp .eq 23) 3 25 := ⟨by decide +kernel, rfl⟩
theorem d_X6_withoutTwo_25 : DC mX6_withoutTwo 25 (.iload 5) 2 27 := ⟨by decide +kernel, rfl⟩
theorem d_X6_withoutTwo_27 : DC mX6_withoutTwo 27 (.iload_n 2) 1 28 := ⟨by decide +kernel, rfl⟩
theorem d_X6_withoutTwo_28 : DC mX6_withoutTwo 28 (.iconst 1) 1 29 := ⟨by decide +kernel, rfl⟩
theorem d_X6_withoutTwo_29 : DC mX6_withoutTwo 29 (.iadd) 1 30 := ⟨by decide +kernel, rfl⟩
theorem d_X6_withoutTwo_30 : DC mX6_withoutTwo 30 (.if_icmp .eq 15) 3 33 := ⟨by decide +kernel, rfl⟩
theorem d_X6_withoutTwo_33 : DC mX6_withoutTwo 33 (.iload 6) 2 35 := ⟨by decide +kernel, rfl⟩
theorem d_X6_withoutTwo_35 : DC mX6_withoutTwo 35 (.ifCond .eq 10) 3 38 := ⟨by decide +kernel, rfl⟩
theorem d_X6_withoutTwo_38 : DC mX6_withoutTwo 38 (.lload_n 3) 1 39 := ⟨by decide +kernel, rfl⟩
theorem d_X6_withoutTwo_39 : DC mX6_withoutTwo 39 (.iload 6) 2 41 := ⟨by decide +kernel, rfl⟩
theorem d_X6_withoutTwo_41 : DC mX6_withoutTwo 41 (.invokestatic 22) 3 44 := ⟨by decide +kernel, rfl⟩
theorem d_X6_withoutTwo_44 : DC mX6_withoutTwo 44 (.lstore_n 3) 1 45 := ⟨by decide +kernel, rfl⟩
theorem d_X6_withoutTwo_45 : DC mX6_withoutTwo 45 (.iinc 5 1) 3 48 := ⟨by decide +kernel, rfl⟩
theorem d_X6_withoutTwo_48 : DC mX6_withoutTwo 48 (.goto (-43)) 3 51 := ⟨by decide +kernel, rfl⟩
theorem d_X6_withoutTwo_51 : DC mX6_withoutTwo 51 (.lload_n 3) 1 52 := ⟨by decide +kernel, rfl⟩
theorem d_X6_withoutTwo_52 : DC mX6_withoutTwo 52 (.lreturn) 1 53 := ⟨by decide +kernel, rfl⟩
theorem d_X6_breakBetween_0 : DC mX6_breakBetween 0 (.iconst 1) 1 1 := ⟨by decide +kernel, rfl⟩
theorem d_X6_breakBetween_1 : DC mX6_breakBetween 1 (.istore_n 2) 1 2 := ⟨by decide +kernel, rfl⟩
theorem d_X6_breakBetween_2 : DC mX6_breakBetween 2 (.iload_n 2) 1 3 := ⟨by decide +kernel, rfl⟩
theorem d_X6_breakBetween_3 : DC mX6_breakBetween 3 (.iconst 3) 1 4 := ⟨by decide +kernel, rfl⟩
theorem d_X6_breakBetween_4 : DC mX6_breakBetween 4 (.if_icmp .gt 28) 3 7 := ⟨by decide +kernel, rfl⟩
theorem d_X6_breakBetween_7 : DC mX6_breakBetween 7 (.iload_n 0) 1 8 := ⟨by decide +kernel, rfl⟩
theorem d_X6_breakBetween_8 : DC mX6_breakBetween 8 (.iload_n 2) 1 9 := ⟨by decide +kernel, rfl⟩
theorem d_X6_breakBetween_9 : DC mX6_breakBetween 9 (.iconst 1) 1 10 := ⟨by decide +kernel, rfl⟩
theorem d_X6_breakBetween_10 : DC mX6_breakBetween 10 (.isub) 1 11 := ⟨by decide +kernel, rfl⟩
theorem d_X6_breakBetween_11 : DC mX6_breakBetween 11 (.invokestatic 9) 3 14 := ⟨by decide +kernel, rfl⟩
theorem d_X6_breakBetween_14 : DC mX6_breakBetween 14 (.iload_n 1) 1 15 := ⟨by decide +kernel, rfl⟩
theorem d_X6_breakBetween_15 : DC mX6_breakBetween 15 (.iload_n 2) 1 16 := ⟨by decide +kernel, rfl⟩
theorem d_X6_breakBetween_16 : DC mX6_breakBetween 16 (.iconst 1) 1 17 := ⟨by decide +kernel, rfl⟩
theorem d_X6_breakBetween_17 : DC mX6_breakBetween 17 (.isub) 1 18 := ⟨by decide +kernel, rfl⟩
theorem d_X6_breakBetween_18 : DC mX6_breakBetween 18 (.invokestatic 9) 3 21 := ⟨by decide +kernel, rfl⟩
theorem d_X6_breakBetween_21 : DC mX6_breakBetween 21 (.if_icmp .le 5) 3 24 := ⟨by decide +kernel, rfl⟩
theorem d_X6_breakBetween_24 : DC mX6_breakBetween 24 (.iload_n 2) 1 25 := ⟨by decide +kernel, rfl⟩
theorem d_X6_breakBetween_25 : DC mX6_breakBetween 25 (.ireturn) 1 26 := ⟨by decide +kernel, rfl⟩
theorem d_X6_breakBetween_26 : DC mX6_breakBetween 26 (.iinc 2 1) 3 29 := ⟨by decide +kernel, rfl⟩
theorem d_X6_breakBetween_29 : DC mX6_breakBetween 29 (.goto (-27)) 3 32 := ⟨by decide +kernel, rfl⟩
theorem d_X6_breakBetween_32 : DC mX6_breakBetween 32 (.iconst 0) 1 33 := ⟨by decide +kernel, rfl⟩
theorem d_X6_breakBetween_33 : DC mX6_breakBetween 33 (.ireturn) 1 34 := ⟨by decide +kernel, rfl⟩
theorem d_X6_breakOf_0 : DC mX6_breakOf 0 (.iconst 0) 1 1 := ⟨by decide +kernel, rfl⟩
theorem d_X6_breakOf_1 : DC mX6_breakOf 1 (.istore_n 2) 1 2 := ⟨by decide +kernel, rfl⟩
theorem d_X6_breakOf_2 : DC mX6_breakOf 2 (.iload_n 2) 1 3 := ⟨by decide +kernel, rfl⟩
theorem d_X6_breakOf_3 : DC mX6_breakOf 3 (.iconst 1) 1 4 := ⟨by decide +kernel, rfl⟩
theorem d_X6_breakOf_4 : DC mX6_breakOf 4 (.iadd) 1 5 := ⟨by decide +kernel, rfl⟩
theorem d_X6_breakOf_5 : DC mX6_breakOf 5 (.iconst 4) 1 6 := ⟨by decide +kernel, rfl⟩
theorem d_X6_breakOf_6 : DC mX6_breakOf 6 (.if_icmp .ge 46) 3 9 := ⟨by decide +kernel, rfl⟩
theorem d_X6_breakOf_9 : DC mX6_breakOf 9 (.lload_n 0) 1 10 := ⟨by decide +kernel, rfl⟩
theorem d_X6_breakOf_10 : DC mX6_breakOf 10 (.iload_n 2) 1 11 := ⟨by decide +kernel, rfl⟩
theorem d_X6_breakOf_11 : DC mX6_breakOf 11 (.iconst 1) 1 12 := ⟨by decide +kernel, rfl⟩
theorem d_X6_breakOf_12 : DC mX6_breakOf 12 (.iadd) 1 13 := ⟨by decide +kernel, rfl⟩
theorem d_X6_breakOf_13 : DC mX6_breakOf 13 (.invokestatic 15) 3 16 := ⟨by decide +kernel, rfl⟩
theorem d_X6_breakOf_16 : DC mX6_breakOf 16 (.istore_n 3) 1 17 := ⟨by decide +kernel, rfl⟩
theorem d_X6_breakOf_17 : DC mX6_breakOf 17 (.iload_n 3) 1 18 := ⟨by decide +kernel, rfl⟩
theorem d_X6_breakOf_18 : DC mX6_breakOf 18 (.ifCond .ne 5) 3 21 := ⟨by decide +kernel, rfl⟩
theorem d_X6_breakOf_21 : DC mX6_breakOf 21 (.iconst 0) 1 22 := ⟨by decide +kernel, rfl⟩
theorem d_X6_breakOf_22 : DC mX6_breakOf 22 (.ireturn) 1 23 := ⟨by decide +kernel, rfl⟩
theorem d_X6_breakOf_23 : DC mX6_breakOf 23 (.lload_n 0) 1 24 := ⟨by decide +kernel, rfl⟩
theorem d_X6_breakOf_24 : DC mX6_breakOf 24 (.iload_n 2) 1 25 := ⟨by decide +kernel, rfl⟩
theorem d_X6_breakOf_25 : DC mX6_breakOf 25 (.invokestatic 15) 3 28 := ⟨by decide +kernel, rfl⟩
theorem d_X6_breakOf_28 : DC mX6_breakOf 28 (.iload_n 3) 1 29 := ⟨by decide +kernel, rfl⟩
theorem d_X6_breakOf_29 : DC mX6_breakOf 29 (.invokestatic 26) 3 32 := ⟨by decide +kernel, rfl⟩
theorem d_X6_breakOf_32 : DC mX6_breakOf 32 (.istore 4) 2 34 := ⟨by decide +kernel, rfl⟩
theorem d_X6_breakOf_34 : DC mX6_breakOf 34 (.iload 4) 2 36 := ⟨by decide +kernel, rfl⟩
theorem d_X6_breakOf_36 : DC mX6_breakOf 36 (.ifCond .eq 10) 3 39 := ⟨by decide +kernel, rfl⟩
theorem d_X6_breakOf_39 : DC mX6_breakOf 39 (.iconst 4) 1 40 := ⟨by decide +kernel, rfl⟩
theorem d_X6_breakOf_40 : DC mX6_breakOf 40 (.iload_n 2) 1 41 := ⟨by decide +kernel, rfl⟩
theorem d_X6_breakOf_41 : DC mX6_breakOf 41 (.imul) 1 42 := ⟨by decide +kernel, rfl⟩
theorem d_X6_breakOf_42 : DC mX6_breakOf 42 (.iload 4) 2 44 := ⟨by decide +kernel, rfl⟩
theorem d_X6_breakOf_44 : DC mX6_breakOf 44 (.iadd) 1 45 := ⟨by decide +kernel, rfl⟩
theorem d_X6_breakOf_45 : DC mX6_breakOf 45 (.ireturn) 1 46 := ⟨by decide +kernel, rfl⟩
theorem d_X6_breakOf_46 : DC mX6_breakOf 46 (.iinc 2 1) 3 49 := ⟨by decide +kernel, rfl⟩
theorem d_X6_breakOf_49 : DC mX6_breakOf 49 (.goto (-47)) 3 52 := ⟨by decide +kernel, rfl⟩
theorem d_X6_breakOf_52 : DC mX6_breakOf 52 (.iconst 0) 1 53 := ⟨by decide +kernel, rfl⟩
theorem d_X6_breakOf_53 : DC mX6_breakOf 53 (.ireturn) 1 54 := ⟨by decide +kernel, rfl⟩
theorem d_X6_bracketOfBreak_0 : DC mX6_bracketOfBreak 0 (.iload_n 0) 1 1 := ⟨by decide +kernel, rfl⟩
theorem d_X6_bracketOfBreak_1 : DC mX6_bracketOfBreak 1 (.iconst 4) 1 2 := ⟨by decide +kernel, rfl⟩
theorem d_X6_bracketOfBreak_2 : DC mX6_bracketOfBreak 2 (.idiv) 1 3 := ⟨by decide +kernel, rfl⟩
theorem d_X6_bracketOfBreak_3 : DC mX6_bracketOfBreak 3 (.ireturn) 1 4 := ⟨by decide +kernel, rfl⟩
theorem d_X6_placeOfBreak_0 : DC mX6_placeOfBreak 0 (.iload_n 0) 1 1 := ⟨by decide +kernel, rfl⟩
theorem d_X6_placeOfBreak_1 : DC mX6_placeOfBreak 1 (.iconst 4) 1 2 := ⟨by decide +kernel, rfl⟩
theorem d_X6_placeOfBreak_2 : DC mX6_placeOfBreak 2 (.irem) 1 3 := ⟨by decide +kernel, rfl⟩
theorem d_X6_placeOfBreak_3 : DC mX6_placeOfBreak 3 (.ireturn) 1 4 := ⟨by decide +kernel, rfl⟩
theorem d_X7_allTerms_0 : DC mX7_allTerms 0 (.iconst 0) 1 1 := ⟨by decide +kernel, rfl⟩
theorem d_X7_allTerms_1 : DC mX7_allTerms 1 (.istore_n 1) 1 2 := ⟨by decide +kernel, rfl⟩
theorem d_X7_allTerms_2 : DC mX7_allTerms 2 (.iconst 0) 1 3 := ⟨by decide +kernel, rfl⟩
theorem d_X7_allTerms_3 : DC mX7_allTerms 3 (.istore_n 2) 1 4 := ⟨by decide +kernel, rfl⟩
theorem d_X7_allTerms_4 : DC mX7_allTerms 4 (.iload_n 2) 1 5 := ⟨by decide +kernel, rfl⟩
theorem d_X7_allTerms_5 : DC mX7_allTerms 5 (.bipush 6) 2 7 := ⟨by decide +kernel, rfl⟩
theorem d_X7_allTerms_7 : DC mX7_allTerms 7 (.if_icmp .ge 21) 3 10 := ⟨by decide +kernel, rfl⟩
theorem d_X7_allTerms_10 : DC mX7_allTerms 10 (.iload_n 1) 1 11 := ⟨by decide +kernel, rfl⟩
theorem d_X7_allTerms_11 : DC mX7_allTerms 11 (.aload_n 0) 1 12 := ⟨by decide +kernel, rfl⟩
theorem d_X7_allTerms_12 : DC mX7_allTerms 12 (.getfield 11) 3 15 := ⟨by decide +kernel, rfl⟩
theorem d_X7_allTerms_15 : DC mX7_allTerms 15 (.iload_n 2) 1 16 := ⟨by decide +kernel, rfl⟩
theorem d_X7_allTerms_16 : DC mX7_allTerms 16 (.aaload) 1 17 := ⟨by decide +kernel, rfl⟩
theorem d_X7_allTerms_17 : DC mX7_allTerms 17 (.getfield 41) 3 20 := ⟨by decide +kernel, rfl⟩
theorem d_X7_allTerms_20 : DC mX7_allTerms 20 (.iadd) 1 21 := ⟨by decide +kernel, rfl⟩
theorem d_X7_allTerms_21 : DC mX7_allTerms 21 (.istore_n 1) 1 22 := ⟨by decide +kernel, rfl⟩
theorem d_X7_allTerms_22 : DC mX7_allTerms 22 (.iinc 2 1) 3 25 := ⟨by decide +kernel, rfl⟩
theorem d_X7_allTerms_25 : DC mX7_allTerms 25 (.goto (-21)) 3 28 := ⟨by decide +kernel, rfl⟩
theorem d_X7_allTerms_28 : DC mX7_allTerms 28 (.iload_n 1) 1 29 := ⟨by decide +kernel, rfl⟩
theorem d_X7_allTerms_29 : DC mX7_allTerms 29 (.ireturn) 1 30 := ⟨by decide +kernel, rfl⟩
theorem d_X7_factOf_0 : DC mX7_factOf 0 (.aload_n 0) 1 1 := ⟨by decide +kernel, rfl⟩
theorem d_X7_factOf_1 : DC mX7_factOf 1 (.getfield 21) 3 4 := ⟨by decide +kernel, rfl⟩
theorem d_X7_factOf_4 : DC mX7_factOf 4 (.iload_n 1) 1 5 := ⟨by decide +kernel, rfl⟩
theorem d_X7_factOf_5 : DC mX7_factOf 5 (.invokestatic 45) 3 8 := ⟨by decide +kernel, rfl⟩
theorem d_X7_factOf_8 : DC mX7_factOf 8 (.iaload) 1 9 := ⟨by decide +kernel, rfl⟩
theorem d_X7_factOf_9 : DC mX7_factOf 9 (.ireturn) 1 10 := ⟨by decide +kernel, rfl⟩
theorem d_X7_tellFact_0 : DC mX7_tellFact 0 (.aload_n 0) 1 1 := ⟨by decide +kernel, rfl⟩
theorem d_X7_tellFact_1 : DC mX7_tellFact 1 (.getfield 21) 3 4 := ⟨by decide +kernel, rfl⟩
theorem d_X7_tellFact_4 : DC mX7_tellFact 4 (.iload_n 1) 1 5 := ⟨by decide +kernel, rfl⟩
theorem d_X7_tellFact_5 : DC mX7_tellFact 5 (.invokestatic 45) 3 8 := ⟨by decide +kernel, rfl⟩
theorem d_X7_tellFact_8 : DC mX7_tellFact 8 (.iload_n 2) 1 9 := ⟨by decide +kernel, rfl⟩
theorem d_X7_tellFact_9 : DC mX7_tellFact 9 (.iastore) 1 10 := ⟨by decide +kernel, rfl⟩
theorem d_X7_tellFact_10 : DC mX7_tellFact 10 (.return_) 1 11 := ⟨by decide +kernel, rfl⟩
theorem d_X7_factsThatAre_0 : DC mX7_factsThatAre 0 (.iconst 0) 1 1 := ⟨by decide +kernel, rfl⟩
theorem d_X7_factsThatAre_1 : DC mX7_factsThatAre 1 (.istore_n 2) 1 2 := ⟨by decide +kernel, rfl⟩
theorem d_X7_factsThatAre_2 : DC mX7_factsThatAre 2 (.iconst 0) 1 3 := ⟨by decide +kernel, rfl⟩
theorem d_X7_factsThatAre_3 : DC mX7_factsThatAre 3 (.istore_n 3) 1 4 := ⟨by decide +kernel, rfl⟩
theorem d_X7_factsThatAre_4 : DC mX7_factsThatAre 4 (.iload_n 3) 1 5 := ⟨by decide +kernel, rfl⟩
theorem d_X7_factsThatAre_5 : DC mX7_factsThatAre 5 (.bipush 120) 2 7 := ⟨by decide +kernel, rfl⟩
theorem d_X7_factsThatAre_7 : DC mX7_factsThatAre 7 (.if_icmp .ge 22) 3 10 := ⟨by decide +kernel, rfl⟩
theorem d_X7_factsThatAre_10 : DC mX7_factsThatAre 10 (.aload_n 0) 1 11 := ⟨by decide +kernel, rfl⟩
theorem d_X7_factsThatAre_11 : DC mX7_factsThatAre 11 (.getfield 21) 3 14 := ⟨by decide +kernel, rfl⟩
theorem d_X7_factsThatAre_14 : DC mX7_factsThatAre 14 (.iload_n 3) 1 15 := ⟨by decide +kernel, rfl⟩
theorem d_X7_factsThatAre_15 : DC mX7_factsThatAre 15 (.iaload) 1 16 := ⟨by decide +kernel, rfl⟩
theorem d_X7_factsThatAre_16 : DC mX7_factsThatAre 16 (.iload_n 1) 1 17 := ⟨by decide +kernel, rfl⟩
theorem d_X7_factsThatAre_17 : DC mX7_factsThatAre 17 (.if_icmp .ne 6) 3 20 := ⟨by decide +kernel, rfl⟩
theorem d_X7_factsThatAre_20 : DC mX7_factsThatAre 20 (.iinc 2 1) 3 23 := ⟨by decide +kernel, rfl⟩
theorem d_X7_factsThatAre_23 : DC mX7_factsThatAre 23 (.iinc 3 1) 3 26 := ⟨by decide +kernel, rfl⟩
theorem d_X7_factsThatAre_26 : DC mX7_factsThatAre 26 (.goto (-22)) 3 29 := ⟨by decide +kernel, rfl⟩
theorem d_X7_factsThatAre_29 : DC mX7_factsThatAre 29 (.iload_n 2) 1 30 := ⟨by decide +kernel, rfl⟩
theorem d_X7_factsThatAre_30 : DC mX7_factsThatAre 30 (.ireturn) 1 31 := ⟨by decide +kernel, rfl⟩
theorem d_X7_bracketsThatAre_0 : DC mX7_bracketsThatAre 0 (.iconst 0) 1 1 := ⟨by decide +kernel, rfl⟩
theorem d_X7_bracketsThatAre_1 : DC mX7_bracketsThatAre 1 (.istore 4) 2 3 := ⟨by decide +kernel, rfl⟩
theorem d_X7_bracketsThatAre_3 : DC mX7_bracketsThatAre 3 (.lload_n 1) 1 4 := ⟨by decide +kernel, rfl⟩
theorem d_X7_bracketsThatAre_4 : DC mX7_bracketsThatAre 4 (.invokestatic 69) 3 7 := ⟨by decide +kernel, rfl⟩
theorem d_X7_bracketsThatAre_7 : DC mX7_bracketsThatAre 7 (.istore 5) 2 9 := ⟨by decide +kernel, rfl⟩
theorem d_X7_bracketsThatAre_9 : DC mX7_bracketsThatAre 9 (.iconst 0) 1 10 := ⟨by decide +kernel, rfl⟩
theorem d_X7_bracketsThatAre_10 : DC mX7_bracketsThatAre 10 (.istore 6) 2 12 := ⟨by decide +kernel, rfl⟩
theorem d_X7_bracketsThatAre_12 : DC mX7_bracketsThatAre 12 (.iload 6) 2 14 := ⟨by decide +kernel, rfl⟩
theorem d_X7_bracketsThatAre_14 : DC mX7_bracketsThatAre 14 (.iload 5) 2 16 := ⟨by decide +kernel, rfl⟩
theorem d_X7_bracketsThatAre_16 : DC mX7_bracketsThatAre 16 (.if_icmp .ge 26) 3 19 := ⟨by decide +kernel, rfl⟩
theorem d_X7_bracketsThatAre_19 : DC mX7_bracketsThatAre 19 (.aload_n 0) 1 20 := ⟨by decide +kernel, rfl⟩
theorem d_X7_bracketsThatAre_20 : DC mX7_bracketsThatAre 20 (.lload_n 1) 1 21 := ⟨by decide +kernel, rfl⟩
theorem d_X7_bracketsThatAre_21 : DC mX7_bracketsThatAre 21 (.iload 6) 2 23 := ⟨by decide +kernel, rfl⟩
theorem d_X7_bracketsThatAre_23 : DC mX7_bracketsThatAre 23 (.invokestatic 73) 3 26 := ⟨by decide +kernel, rfl⟩
theorem d_X7_bracketsThatAre_26 : DC mX7_bracketsThatAre 26 (.invokevirtual 76) 3 29 := ⟨by decide +kernel, rfl⟩
theorem d_X7_bracketsThatAre_29 : DC mX7_bracketsThatAre 29 (.iload_n 3) 1 30 := ⟨by decide +kernel, rfl⟩
theorem d_X7_bracketsThatAre_30 : DC mX7_bracketsThatAre 30 (.if_icmp .ne 6) 3 33 := ⟨by decide +kernel, rfl⟩
theorem d_X7_bracketsThatAre_33 : DC mX7_bracketsThatAre 33 (.iinc 4 1) 3 36 := ⟨by decide +kernel, rfl⟩
theorem d_X7_bracketsThatAre_36 : DC mX7_bracketsThatAre 36 (.iinc 6 1) 3 39 := ⟨by decide +kernel, rfl⟩
theorem d_X7_bracketsThatAre_39 : DC mX7_bracketsThatAre 39 (.goto (-27)) 3 42 := ⟨by decide +kernel, rfl⟩
theorem d_X7_bracketsThatAre_42 : DC mX7_bracketsThatAre 42 (.iload 4) 2 44 := ⟨by decide +kernel, rfl⟩
theorem d_X7_bracketsThatAre_44 : DC mX7_bracketsThatAre 44 (.ireturn) 1 45 := ⟨by decide +kernel, rfl⟩
theorem d_X7_reduceTo_0 : DC mX7_reduceTo 0 (.aload_n 1) 1 1 := ⟨by decide +kernel, rfl⟩
theorem d_X7_reduceTo_1 : DC mX7_reduceTo 1 (.invokevirtual 51) 3 4 := ⟨by decide +kernel, rfl⟩
theorem d_X7_reduceTo_4 : DC mX7_reduceTo 4 (.iconst 0) 1 5 := ⟨by decide +kernel, rfl⟩
theorem d_X7_reduceTo_5 : DC mX7_reduceTo 5 (.istore_n 3) 1 6 := ⟨by decide +kernel, rfl⟩
theorem d_X7_reduceTo_6 : DC mX7_reduceTo 6 (.iload_n 3) 1 7 := ⟨by decide +kernel, rfl⟩
theorem d_X7_reduceTo_7 : DC mX7_reduceTo 7 (.aload_n 2) 1 8 := ⟨by decide +kernel, rfl⟩
theorem d_X7_reduceTo_8 : DC mX7_reduceTo 8 (.getfield 41) 3 11 := ⟨by decide +kernel, rfl⟩
theorem d_X7_reduceTo_11 : DC mX7_reduceTo 11 (.if_icmp .ge 41) 3 14 := ⟨by decide +kernel, rfl⟩
theorem d_X7_reduceTo_14 : DC mX7_reduceTo 14 (.aload_n 0) 1 15 := ⟨by decide +kernel, rfl⟩
theorem d_X7_reduceTo_15 : DC mX7_reduceTo 15 (.aload_n 2) 1 16 := ⟨by decide +kernel, rfl⟩
theorem d_X7_reduceTo_16 : DC mX7_reduceTo 16 (.getfield 54) 3 19 := ⟨by decide +kernel, rfl⟩
theorem d_X7_reduceTo_19 : DC mX7_reduceTo 19 (.iload_n 3) 1 20 := ⟨by decide +kernel, rfl⟩
theorem d_X7_reduceTo_20 : DC mX7_reduceTo 20 (.laload) 1 21 := ⟨by decide +kernel, rfl⟩
theorem d_X7_reduceTo_21 : DC mX7_reduceTo 21 (.iconst 0) 1 22 := ⟨by decide +kernel, rfl⟩
theorem d_X7_reduceTo_22 : DC mX7_reduceTo 22 (.invokevirtual 58) 3 25 := ⟨by decide +kernel, rfl⟩
theorem d_X7_reduceTo_25 : DC mX7_reduceTo 25 (.ifCond .ne 21) 3 28 := ⟨by decide +kernel, rfl⟩
theorem d_X7_reduceTo_28 : DC mX7_reduceTo 28 (.aload_n 1) 1 29 := ⟨by decide +kernel, rfl⟩
theorem d_X7_reduceTo_29 : DC mX7_reduceTo 29 (.aload_n 2) 1 30 := ⟨by decide +kernel, rfl⟩
theorem d_X7_reduceTo_30 : DC mX7_reduceTo 30 (.getfield 54) 3 33 := ⟨by decide +kernel, rfl⟩
theorem d_X7_reduceTo_33 : DC mX7_reduceTo 33 (.iload_n 3) 1 34 := ⟨by decide +kernel, rfl⟩
theorem d_X7_reduceTo_34 : DC mX7_reduceTo 34 (.laload) 1 35 := ⟨by decide +kernel, rfl⟩
theorem d_X7_reduceTo_35 : DC mX7_reduceTo 35 (.aload_n 2) 1 36 := ⟨by decide +kernel, rfl⟩
theorem d_X7_reduceTo_36 : DC mX7_reduceTo 36 (.getfield 62) 3 39 := ⟨by decide +kernel, rfl⟩
theorem d_X7_reduceTo_39 : DC mX7_reduceTo 39 (.iload_n 3) 1 40 := ⟨by decide +kernel, rfl⟩
theorem d_X7_reduceTo_40 : DC mX7_reduceTo 40 (.iaload) 1 41 := ⟨by decide +kernel, rfl⟩
theorem d_X7_reduceTo_41 : DC mX7_reduceTo 41 (.i2l) 1 42 := ⟨by decide +kernel, rfl⟩
theorem d_X7_reduceTo_42 : DC mX7_reduceTo 42 (.invokevirtual 65) 3 45 := ⟨by decide +kernel, rfl⟩
theorem d_X7_reduceTo_45 : DC mX7_reduceTo 45 (.pop) 1 46 := ⟨by decide +kernel, rfl⟩
theorem d_X7_reduceTo_46 : DC mX7_reduceTo 46 (.iinc 3 1) 3 49 := ⟨by decide +kernel, rfl⟩
theorem d_X7_reduceTo_49 : DC mX7_reduceTo 49 (.goto (-43)) 3 52 := ⟨by decide +kernel, rfl⟩
theorem d_X7_reduceTo_52 : DC mX7_reduceTo 52 (.return_) 1 53 := ⟨by decide +kernel, rfl⟩
theorem d_X7_cannotVanish_0 : DC mX7_cannotVanish 0 (.lload_n 1) 1 1 := ⟨by decide +kernel, rfl⟩
theorem d_X7_cannotVanish_1 : DC mX7_cannotVanish 1 (.invokestatic 69) 3 4 := ⟨by decide +kernel, rfl⟩
theorem d_X7_cannotVanish_4 : DC mX7_cannotVanish 4 (.istore_n 3) 1 5 := ⟨by decide +kernel, rfl⟩
theorem d_X7_cannotVanish_5 : DC mX7_cannotVanish 5 (.iload_n 3) 1 6 := ⟨by decide +kernel, rfl⟩
theorem d_X7_cannotVanish_6 : DC mX7_cannotVanish 6 (.ifCond .le 17) 3 9 := ⟨by decide +kernel, rfl⟩
theorem d_X7_cannotVanish_9 : DC mX7_cannotVanish 9 (.aload_n 0) 1 10 := ⟨by decide +kernel, rfl⟩
theorem d_X7_cannotVanish_10 : DC mX7_cannotVanish 10 (.lload_n 1) 1 11 := ⟨by decide +kernel, rfl⟩
theorem d_X7_cannotVanish_11 : DC mX7_cannotVanish 11 (.iconst 1) 1 12 := ⟨by decide +kernel, rfl⟩
theorem d_X7_cannotVanish_12 : DC mX7_cannotVanish 12 (.invokevirtual 58) 3 15 := ⟨by decide +kernel, rfl⟩
theorem d_X7_cannotVanish_15 : DC mX7_cannotVanish 15 (.iload_n 3) 1 16 := ⟨by decide +kernel, rfl⟩
theorem d_X7_cannotVanish_16 : DC mX7_cannotVanish 16 (.if_icmp .ne 7) 3 19 := ⟨by decide +kernel, rfl⟩
theorem d_X7_cannotVanish_19 : DC mX7_cannotVanish 19 (.iconst 1) 1 20 := ⟨by decide +kernel, rfl⟩
theorem d_X7_cannotVanish_20 : DC mX7_cannotVanish 20 (.goto 4) 3 23 := ⟨by decide +kernel, rfl⟩
theorem d_X7_cannotVanish_23 : DC mX7_cannotVanish 23 (.iconst 0) 1 24 := ⟨by decide +kernel, rfl⟩
theorem d_X7_cannotVanish_24 : DC mX7_cannotVanish 24 (.ireturn) 1 25 := ⟨by decide +kernel, rfl⟩
theorem d_X7_determinant_0 : DC mX7_determinant 0 (.iconst 3) 1 1 := ⟨by decide +kernel, rfl⟩
theorem d_X7_determinant_1 : DC mX7_determinant 1 (.iload_n 1) 1 2 := ⟨by decide +kernel, rfl⟩
theorem d_X7_determinant_2 : DC mX7_determinant 2 (.imul) 1 3 := ⟨by decide +kernel, rfl⟩
theorem d_X7_determinant_3 : DC mX7_determinant 3 (.istore 4) 2 5 := ⟨by decide +kernel, rfl⟩
theorem d_X7_determinant_5 : DC mX7_determinant 5 (.iconst 3) 1 6 := ⟨by decide +kernel, rfl⟩
theorem d_X7_determinant_6 : DC mX7_determinant 6 (.iload_n 2) 1 7 := ⟨by decide +kernel, rfl⟩
theorem d_X7_determinant_7 : DC mX7_determinant 7 (.imul) 1 8 := ⟨by decide +kernel, rfl⟩
theorem d_X7_determinant_8 : DC mX7_determinant 8 (.istore 5) 2 10 := ⟨by decide +kernel, rfl⟩
theorem d_X7_determinant_10 : DC mX7_determinant 10 (.iconst 3) 1 11 := ⟨by decide +kernel, rfl⟩
theorem d_X7_determinant_11 : DC mX7_determinant 11 (.iload_n 3) 1 12 := ⟨by decide +kernel, rfl⟩
theorem d_X7_determinant_12 : DC mX7_determinant 12 (.imul) 1 13 := ⟨by decide +kernel, rfl⟩
theorem d_X7_determinant_13 : DC mX7_determinant 13 (.istore 6) 2 15 := ⟨by decide +kernel, rfl⟩
theorem d_X7_determinant_15 : DC mX7_determinant 15 (.aload_n 0) 1 16 := ⟨by decide +kernel, rfl⟩
theorem d_X7_determinant_16 : DC mX7_determinant 16 (.getfield 17) 3 19 := ⟨by decide +kernel, rfl⟩
theorem d_X7_determinant_19 : DC mX7_determinant 19 (.iload 4) 2 21 := ⟨by decide +kernel, rfl⟩
theorem d_X7_determinant_21 : DC mX7_determinant 21 (.iaload) 1 22 := ⟨by decide +kernel, rfl⟩
theorem d_X7_determinant_22 : DC mX7_determinant 22 (.aload_n 0) 1 23 := ⟨by decide +kernel, rfl⟩
theorem d_X7_determinant_23 : DC mX7_determinant 23 (.getfield 17) 3 26 := ⟨by decide +kernel, rfl⟩
theorem d_X7_determinant_26 : DC mX7_determinant 26 (.iload 5) 2 28 := ⟨by decide +kernel, rfl⟩
theorem d_X7_determinant_28 : DC mX7_determinant 28 (.iconst 1) 1 29 := ⟨by decide +kernel, rfl⟩
theorem d_X7_determinant_29 : DC mX7_determinant 29 (.iadd) 1 30 := ⟨by decide +kernel, rfl⟩
theorem d_X7_determinant_30 : DC mX7_determinant 30 (.iaload) 1 31 := ⟨by decide +kernel, rfl⟩
theorem d_X7_determinant_31 : DC mX7_determinant 31 (.aload_n 0) 1 32 := ⟨by decide +kernel, rfl⟩
theorem d_X7_determinant_32 : DC mX7_determinant 32 (.getfield 17) 3 35 := ⟨by decide +kernel, rfl⟩
theorem d_X7_determinant_35 : DC mX7_determinant 35 (.iload 6) 2 37 := ⟨by decide +kernel, rfl⟩
theorem d_X7_determinant_37 : DC mX7_determinant 37 (.iconst 2) 1 38 := ⟨by decide +kernel, rfl⟩
theorem d_X7_determinant_38 : DC mX7_determinant 38 (.iadd) 1 39 := ⟨by decide +kernel, rfl⟩
theorem d_X7_determinant_39 : DC mX7_determinant 39 (.iaload) 1 40 := ⟨by decide +kernel, rfl⟩
theorem d_X7_determinant_40 : DC mX7_determinant 40 (.imul) 1 41 := ⟨by decide +kernel, rfl⟩
theorem d_X7_determinant_41 : DC mX7_determinant 41 (.aload_n 0) 1 42 := ⟨by decide +kernel, rfl⟩
theorem d_X7_determinant_42 : DC mX7_determinant 42 (.getfield 17) 3 45 := ⟨by decide +kernel, rfl⟩
theorem d_X7_determinant_45 : DC mX7_determinant 45 (.iload 5) 2 47 := ⟨by decide +kernel, rfl⟩
theorem d_X7_determinant_47 : DC mX7_determinant 47 (.iconst 2) 1 48 := ⟨by decide +kernel, rfl⟩
theorem d_X7_determinant_48 : DC mX7_determinant 48 (.iadd) 1 49 := ⟨by decide +kernel, rfl⟩
theorem d_X7_determinant_49 : DC mX7_determinant 49 (.iaload) 1 50 := ⟨by decide +kernel, rfl⟩
theorem d_X7_determinant_50 : DC mX7_determinant 50 (.aload_n 0) 1 51 := ⟨by decide +kernel, rfl⟩
theorem d_X7_determinant_51 : DC mX7_determinant 51 (.getfield 17) 3 54 := ⟨by decide +kernel, rfl⟩
theorem d_X7_determinant_54 : DC mX7_determinant 54 (.iload 6) 2 56 := ⟨by decide +kernel, rfl⟩
theorem d_X7_determinant_56 : DC mX7_determinant 56 (.iconst 1) 1 57 := ⟨by decide +kernel, rfl⟩
theorem d_X7_determinant_57 : DC mX7_determinant 57 (.iadd) 1 58 := ⟨by decide +kernel, rfl⟩
theorem d_X7_determinant_58 : DC mX7_determinant 58 (.iaload) 1 59 := ⟨by decide +kernel, rfl⟩
theorem d_X7_determinant_59 : DC mX7_determinant 59 (.imul) 1 60 := ⟨by decide +kernel, rfl⟩
theorem d_X7_determinant_60 : DC mX7_determinant 60 (.isub) 1 61 := ⟨by decide +kernel, rfl⟩
theorem d_X7_determinant_61 : DC mX7_determinant 61 (.imul) 1 62 := ⟨by decide +kernel, rfl⟩
theorem d_X7_determinant_62 : DC mX7_determinant 62 (.aload_n 0) 1 63 := ⟨by decide +kernel, rfl⟩
theorem d_X7_determinant_63 : DC mX7_determinant 63 (.getfield 17) 3 66 := ⟨by decide +kernel, rfl⟩
theorem d_X7_determinant_66 : DC mX7_determinant 66 (.iload 4) 2 68 := ⟨by decide +kernel, rfl⟩
theorem d_X7_determinant_68 : DC mX7_determinant 68 (.iconst 1) 1 69 := ⟨by decide +kernel, rfl⟩
theorem d_X7_determinant_69 : DC mX7_determinant 69 (.iadd) 1 70 := ⟨by decide +kernel, rfl⟩
theorem d_X7_determinant_70 : DC mX7_determinant 70 (.iaload) 1 71 := ⟨by decide +kernel, rfl⟩
theorem d_X7_determinant_71 : DC mX7_determinant 71 (.aload_n 0) 1 72 := ⟨by decide +kernel, rfl⟩
theorem d_X7_determinant_72 : DC mX7_determinant 72 (.getfield 17) 3 75 := ⟨by decide +kernel, rfl⟩
theorem d_X7_determinant_75 : DC mX7_determinant 75 (.iload 5) 2 77 := ⟨by decide +kernel, rfl⟩
theorem d_X7_determinant_77 : DC mX7_determinant 77 (.iaload) 1 78 := ⟨by decide +kernel, rfl⟩
theorem d_X7_determinant_78 : DC mX7_determinant 78 (.aload_n 0) 1 79 := ⟨by decide +kernel, rfl⟩
theorem d_X7_determinant_79 : DC mX7_determinant 79 (.getfield 17) 3 82 := ⟨by decide +kernel, rfl⟩
theorem d_X7_determinant_82 : DC mX7_determinant 82 (.iload 6) 2 84 := ⟨by decide +kernel, rfl⟩
theorem d_X7_determinant_84 : DC mX7_determinant 84 (.iconst 2) 1 85 := ⟨by decide +kernel, rfl⟩
theorem d_X7_determinant_85 : DC mX7_determinant 85 (.iadd) 1 86 := ⟨by decide +kernel, rfl⟩
theorem d_X7_determinant_86 : DC mX7_determinant 86 (.iaload) 1 87 := ⟨by decide +kernel, rfl⟩
theorem d_X7_determinant_87 : DC mX7_determinant 87 (.imul) 1 88 := ⟨by decide +kernel, rfl⟩
theorem d_X7_determinant_88 : DC mX7_determinant 88 (.aload_n 0) 1 89 := ⟨by decide +kernel, rfl⟩
theorem d_X7_determinant_89 : DC mX7_determinant 89 (.getfield 17) 3 92 := ⟨by decide +kernel, rfl⟩
theorem d_X7_determinant_92 : DC mX7_determinant 92 (.iload 5) 2 94 := ⟨by decide +kernel, rfl⟩
theorem d_X7_determinant_94 : DC mX7_determinant 94 (.iconst 2) 1 95 := ⟨by decide +kernel, rfl⟩
theorem d_X7_determinant_95 : DC mX7_determinant 95 (.iadd) 1 96 := ⟨by decide +kernel, rfl⟩
theorem d_X7_determinant_96 : DC mX7_determinant 96 (.iaload) 1 97 := ⟨by decide +kernel, rfl⟩
theorem d_X7_determinant_97 : DC mX7_determinant 97 (.aload_n 0) 1 98 := ⟨by decide +kernel, rfl⟩
theorem d_X7_determinant_98 : DC mX7_determinant 98 (.getfield 17) 3 101 := ⟨by decide +kernel, rfl⟩
theorem d_X7_determinant_101 : DC mX7_determinant 101 (.iload 6) 2 103 := ⟨by decide +kernel, rfl⟩
theorem d_X7_determinant_103 : DC mX7_determinant 103 (.iaload) 1 104 := ⟨by decide +kernel, rfl⟩
theorem d_X7_determinant_104 : DC mX7_determinant 104 (.imul) 1 105 := ⟨by decide +kernel, rfl⟩
theorem d_X7_determinant_105 : DC mX7_determinant 105 (.isub) 1 106 := ⟨by decide +kernel, rfl⟩
theorem d_X7_determinant_106 : DC mX7_determinant 106 (.imul) 1 107 := ⟨by decide +kernel, rfl⟩
theorem d_X7_determinant_107 : DC mX7_determinant 107 (.isub) 1 108 := ⟨by decide +kernel, rfl⟩
theorem d_X7_determinant_108 : DC mX7_determinant 108 (.aload_n 0) 1 109 := ⟨by decide +kernel, rfl⟩
theorem d_X7_determinant_109 : DC mX7_determinant 109 (.getfield 17) 3 112 := ⟨by decide +kernel, rfl⟩
theorem d_X7_determinant_112 : DC mX7_determinant 112 (.iload 4) 2 114 := ⟨by decide +kernel, rfl⟩
theorem d_X7_determinant_114 : DC mX7_determinant 114 (.iconst 2) 1 115 := ⟨by decide +kernel, rfl⟩
theorem d_X7_determinant_115 : DC mX7_determinant 115 (.iadd) 1 116 := ⟨by decide +kernel, rfl⟩
theorem d_X7_determinant_116 : DC mX7_determinant 116 (.iaload) 1 117 := ⟨by decide +kernel, rfl⟩
theorem d_X7_determinant_117 : DC mX7_determinant 117 (.aload_n 0) 1 118 := ⟨by decide +kernel, rfl⟩
theorem d_X7_determinant_118 : DC mX7_determinant 118 (.getfield 17) 3 121 := ⟨by decide +kernel, rfl⟩
theorem d_X7_determinant_121 : DC mX7_determinant 121 (.iload 5) 2 123 := ⟨by decide +kernel, rfl⟩
theorem d_X7_determinant_123 : DC mX7_determinant 123 (.iaload) 1 124 := ⟨by decide +kernel, rfl⟩
theorem d_X7_determinant_124 : DC mX7_determinant 124 (.aload_n 0) 1 125 := ⟨by decide +kernel, rfl⟩
theorem d_X7_determinant_125 : DC mX7_determinant 125 (.getfield 17) 3 128 := ⟨by decide +kernel, rfl⟩
theorem d_X7_determinant_128 : DC mX7_determinant 128 (.iload 6) 2 130 := ⟨by decide +kernel, rfl⟩
theorem d_X7_determinant_130 : DC mX7_determinant 130 (.iconst 1) 1 131 := ⟨by decide +kernel, rfl⟩
theorem d_X7_determinant_131 : DC mX7_determinant 131 (.iadd) 1 132 := ⟨by decide +kernel, rfl⟩
theorem d_X7_determinant_132 : DC mX7_determinant 132 (.iaload) 1 133 := ⟨by decide +kernel, rfl⟩
theorem d_X7_determinant_133 : DC mX7_determinant 133 (.imul) 1 134 := ⟨by decide +kernel, rfl⟩
theorem d_X7_determinant_134 : DC mX7_determinant 134 (.aload_n 0) 1 135 := ⟨by decide +kernel, rfl⟩
theorem d_X7_determinant_135 : DC mX7_determinant 135 (.getfield 17) 3 138 := ⟨by decide +kernel, rfl⟩
theorem d_X7_determinant_138 : DC mX7_determinant 138 (.iload 5) 2 140 := ⟨by decide +kernel, rfl⟩
theorem d_X7_determinant_140 : DC mX7_determinant 140 (.iconst 1) 1 141 := ⟨by decide +kernel, rfl⟩
theorem d_X7_determinant_141 : DC mX7_determinant 141 (.iadd) 1 142 := ⟨by decide +kernel, rfl⟩
theorem d_X7_determinant_142 : DC mX7_determinant 142 (.iaload) 1 143 := ⟨by decide +kernel, rfl⟩
theorem d_X7_determinant_143 : DC mX7_determinant 143 (.aload_n 0) 1 144 := ⟨by decide +kernel, rfl⟩
theorem d_X7_determinant_144 : DC mX7_determinant 144 (.getfield 17) 3 147 := ⟨by decide +kernel, rfl⟩
theorem d_X7_determinant_147 : DC mX7_determinant 147 (.iload 6) 2 149 := ⟨by decide +kernel, rfl⟩
theorem d_X7_determinant_149 : DC mX7_determinant 149 (.iaload) 1 150 := ⟨by decide +kernel, rfl⟩
theorem d_X7_determinant_150 : DC mX7_determinant 150 (.imul) 1 151 := ⟨by decide +kernel, rfl⟩
theorem d_X7_determinant_151 : DC mX7_determinant 151 (.isub) 1 152 := ⟨by decide +kernel, rfl⟩
theorem d_X7_determinant_152 : DC mX7_determinant 152 (.imul) 1 153 := ⟨by decide +kernel, rfl⟩
theorem d_X7_determinant_153 : DC mX7_determinant 153 (.iadd) 1 154 := ⟨by decide +kernel, rfl⟩
theorem d_X7_determinant_154 : DC mX7_determinant 154 (.ireturn) 1 155 := ⟨by decide +kernel, rfl⟩
theorem d_X7_bracketsWorthZero_0 : DC mX7_bracketsWorthZero 0 (.iconst 0) 1 1 := ⟨by decide +kernel, rfl⟩
theorem d_X7_bracketsWorthZero_1 : DC mX7_bracketsWorthZero 1 (.istore_n 1) 1 2 := ⟨by decide +kernel, rfl⟩
theorem d_X7_bracketsWorthZero_2 : DC mX7_bracketsWorthZero 2 (.iconst 0) 1 3 := ⟨by decide +kernel, rfl⟩
theorem d_X7_bracketsWorthZero_3 : DC mX7_bracketsWorthZero 3 (.istore_n 2) 1 4 := ⟨by decide +kernel, rfl⟩
theorem d_X7_bracketsWorthZero_4 : DC mX7_bracketsWorthZero 4 (.iload_n 2) 1 5 := ⟨by decide +kernel, rfl⟩
theorem d_X7_bracketsWorthZero_5 : DC mX7_bracketsWorthZero 5 (.bipush 10) 2 7 := ⟨by decide +kernel, rfl⟩
theorem d_X7_bracketsWorthZero_7 : DC mX7_bracketsWorthZero 7 (.if_icmp .ge 57) 3 10 := ⟨by decide +kernel, rfl⟩
theorem d_X7_bracketsWorthZero_10 : DC mX7_bracketsWorthZero 10 (.iload_n 2) 1 11 := ⟨by decide +kernel, rfl⟩
theorem d_X7_bracketsWorthZero_11 : DC mX7_bracketsWorthZero 11 (.iconst 1) 1 12 := ⟨by decide +kernel, rfl⟩
theorem d_X7_bracketsWorthZero_12 : DC mX7_bracketsWorthZero 12 (.iadd) 1 13 := ⟨by decide +kernel, rfl⟩
theorem d_X7_bracketsWorthZero_13 : DC mX7_bracketsWorthZero 13 (.istore_n 3) 1 14 := ⟨by decide +kernel, rfl⟩
theorem d_X7_bracketsWorthZero_14 : DC mX7_bracketsWorthZero 14 (.iload_n 3) 1 15 := ⟨by decide +kernel, rfl⟩
theorem d_X7_bracketsWorthZero_15 : DC mX7_bracketsWorthZero 15 (.bipush 10) 2 17 := ⟨by decide +kernel, rfl⟩
theorem d_X7_bracketsWorthZero_17 : DC mX7_bracketsWorthZero 17 (.if_icmp .ge 41) 3 20 := ⟨by decide +kernel, rfl⟩
theorem d_X7_bracketsWorthZero_20 : DC mX7_bracketsWorthZero 20 (.iload_n 3) 1 21 := ⟨by decide +kernel, rfl⟩
theorem d_X7_bracketsWorthZero_21 : DC mX7_bracketsWorthZero 21 (.iconst 1) 1 22 := ⟨by decide +kernel, rfl⟩
theorem d_X7_bracketsWorthZero_22 : DC mX7_bracketsWorthZero 22 (.iadd) 1 23 := ⟨by decide +kernel, rfl⟩
theorem d_X7_bracketsWorthZero_23 : DC mX7_bracketsWorthZero 23 (.istore 4) 2 25 := ⟨by decide +kernel, rfl⟩
theorem d_X7_bracketsWorthZero_25 : DC mX7_bracketsWorthZero 25 (.iload 4) 2 27 := ⟨by decide +kernel, rfl⟩
theorem d_X7_bracketsWorthZero_27 : DC mX7_bracketsWorthZero 27 (.bipush 10) 2 29 := ⟨by decide +kernel, rfl⟩
theorem d_X7_bracketsWorthZero_29 : DC mX7_bracketsWorthZero 29 (.if_icmp .ge 23) 3 32 := ⟨by decide +kernel, rfl⟩
theorem d_X7_bracketsWorthZero_32 : DC mX7_bracketsWorthZero 32 (.aload_n 0) 1 33 := ⟨by decide +kernel, rfl⟩
theorem d_X7_bracketsWorthZero_33 : DC mX7_bracketsWorthZero 33 (.iload_n 2) 1 34 := ⟨by decide +kernel, rfl⟩
theorem d_X7_bracketsWorthZero_34 : DC mX7_bracketsWorthZero 34 (.iload_n 3) 1 35 := ⟨by decide +kernel, rfl⟩
theorem d_X7_bracketsWorthZero_35 : DC mX7_bracketsWorthZero 35 (.iload 4) 2 37 := ⟨by decide +kernel, rfl⟩
theorem d_X7_bracketsWorthZero_37 : DC mX7_bracketsWorthZero 37 (.invokevirtual 79) 3 40 := ⟨by decide +kernel, rfl⟩
theorem d_X7_bracketsWorthZero_40 : DC mX7_bracketsWorthZero 40 (.ifCond .ne 6) 3 43 := ⟨by decide +kernel, rfl⟩
theorem d_X7_bracketsWorthZero_43 : DC mX7_bracketsWorthZero 43 (.iinc 1 1) 3 46 := ⟨by decide +kernel, rfl⟩
theorem d_X7_bracketsWorthZero_46 : DC mX7_bracketsWorthZero 46 (.iinc 4 1) 3 49 := ⟨by decide +kernel, rfl⟩
theorem d_X7_bracketsWorthZero_49 : DC mX7_bracketsWorthZero 49 (.goto (-24)) 3 52 := ⟨by decide +kernel, rfl⟩
theorem d_X7_bracketsWorthZero_52 : DC mX7_bracketsWorthZero 52 (.iinc 3 1) 3 55 := ⟨by decide +kernel, rfl⟩
theorem d_X7_bracketsWorthZero_55 : DC mX7_bracketsWorthZero 55 (.goto (-41)) 3 58 := ⟨by decide +kernel, rfl⟩
theorem d_X7_bracketsWorthZero_58 : DC mX7_bracketsWorthZero 58 (.iinc 2 1) 3 61 := ⟨by decide +kernel, rfl⟩
theorem d_X7_bracketsWorthZero_61 : DC mX7_bracketsWorthZero 61 (.goto (-57)) 3 64 := ⟨by decide +kernel, rfl⟩
theorem d_X7_bracketsWorthZero_64 : DC mX7_bracketsWorthZero 64 (.iload_n 1) 1 65 := ⟨by decide +kernel, rfl⟩
theorem d_X7_bracketsWorthZero_65 : DC mX7_bracketsWorthZero 65 (.ireturn) 1 66 := ⟨by decide +kernel, rfl⟩
theorem d_X7_isTooGreat_0 : DC mX7_isTooGreat 0 (.iload_n 2) 1 1 := ⟨by decide +kernel, rfl⟩
theorem d_X7_isTooGreat_1 : DC mX7_isTooGreat 1 (.ifCond .ne 5) 3 4 := ⟨by decide +kernel, rfl⟩
theorem d_X7_isTooGreat_4 : DC mX7_isTooGreat 4 (.iconst 0) 1 5 := ⟨by decide +kernel, rfl⟩
theorem d_X7_isTooGreat_5 : DC mX7_isTooGreat 5 (.ireturn) 1 6 := ⟨by decide +kernel, rfl⟩
theorem d_X7_isTooGreat_6 : DC mX7_isTooGreat 6 (.iload_n 2) 1 7 := ⟨by decide +kernel, rfl⟩
theorem d_X7_isTooGreat_7 : DC mX7_isTooGreat 7 (.iconst (-1)) 1 8 := ⟨by decide +kernel, rfl⟩
theorem d_X7_isTooGreat_8 : DC mX7_isTooGreat 8 (.if_icmp .ne 17) 3 11 := ⟨by decide +kernel, rfl⟩
theorem d_X7_isTooGreat_11 : DC mX7_isTooGreat 11 (.lload_n 0) 1 12 := ⟨by decide +kernel, rfl⟩
theorem d_X7_isTooGreat_12 : DC mX7_isTooGreat 12 (.ldc2_w 91) 3 15 := ⟨by decide +kernel, rfl⟩
theorem d_X7_isTooGreat_15 : DC mX7_isTooGreat 15 (.lcmp) 1 16 := ⟨by decide +kernel, rfl⟩
theorem d_X7_isTooGreat_16 : DC mX7_isTooGreat 16 (.ifCond .ne 7) 3 19 := ⟨by decide +kernel, rfl⟩
theorem d_X7_isTooGreat_19 : DC mX7_isTooGreat 19 (.iconst 1) 1 20 := ⟨by decide +kernel, rfl⟩
theorem d_X7_isTooGreat_20 : DC mX7_isTooGreat 20 (.goto 4) 3 23 := ⟨by decide +kernel, rfl⟩
theorem d_X7_isTooGreat_23 : DC mX7_isTooGreat 23 (.iconst 0) 1 24 := ⟨by decide +kernel, rfl⟩
theorem d_X7_isTooGreat_24 : DC mX7_isTooGreat 24 (.ireturn) 1 25 := ⟨by decide +kernel, rfl⟩
theorem d_X7_isTooGreat_25 : DC mX7_isTooGreat 25 (.lload_n 0) 1 26 := ⟨by decide +kernel, rfl⟩
theorem d_X7_isTooGreat_26 : DC mX7_isTooGreat 26 (.iload_n 2) 1 27 := ⟨by decide +kernel, rfl⟩
theorem d_X7_isTooGreat_27 : DC mX7_isTooGreat 27 (.i2l) 1 28 := ⟨by decide +kernel, rfl⟩
theorem d_X7_isTooGreat_28 : DC mX7_isTooGreat 28 (.lmul) 1 29 := ⟨by decide +kernel, rfl⟩
theorem d_X7_isTooGreat_29 : DC mX7_isTooGreat 29 (.iload_n 2) 1 30 := ⟨by decide +kernel, rfl⟩
theorem d_X7_isTooGreat_30 : DC mX7_isTooGreat 30 (.i2l) 1 31 := ⟨by decide +kernel, rfl⟩
theorem d_X7_isTooGreat_31 : DC mX7_isTooGreat 31 (.ldiv) 1 32 := ⟨by decide +kernel, rfl⟩
theorem d_X7_isTooGreat_32 : DC mX7_isTooGreat 32 (.lload_n 0) 1 33 := ⟨by decide +kernel, rfl⟩
theorem d_X7_isTooGreat_33 : DC mX7_isTooGreat 33 (.lcmp) 1 34 := ⟨by decide +kernel, rfl⟩
theorem d_X7_isTooGreat_34 : DC mX7_isTooGreat 34 (.ifCond .eq 7) 3 37 := ⟨by decide +kernel, rfl⟩
theorem d_X7_isTooGreat_37 : DC mX7_isTooGreat 37 (.iconst 1) 1 38 := ⟨by decide +kernel, rfl⟩
theorem d_X7_isTooGreat_38 : DC mX7_isTooGreat 38 (.goto 4) 3 41 := ⟨by decide +kernel, rfl⟩
theorem d_X7_isTooGreat_41 : DC mX7_isTooGreat 41 (.iconst 0) 1 42 := ⟨by decide +kernel, rfl⟩
theorem d_X7_isTooGreat_42 : DC mX7_isTooGreat 42 (.ireturn) 1 43 := ⟨by decide +kernel, rfl⟩
theorem d_X7_worthOf_0 : DC mX7_worthOf 0 (.lconst 0) 1 1 := ⟨by decide +kernel, rfl⟩
theorem d_X7_worthOf_1 : DC mX7_worthOf 1 (.lstore_n 2) 1 2 := ⟨by decide +kernel, rfl⟩
theorem d_X7_worthOf_2 : DC mX7_worthOf 2 (.iconst 0) 1 3 := ⟨by decide +kernel, rfl⟩
theorem d_X7_worthOf_3 : DC mX7_worthOf 3 (.istore 4) 2 5 := ⟨by decide +kernel, rfl⟩
theorem d_X7_worthOf_5 : DC mX7_worthOf 5 (.iload 4) 2 7 := ⟨by decide +kernel, rfl⟩
theorem d_X7_worthOf_7 : DC mX7_worthOf 7 (.aload_n 1) 1 8 := ⟨by decide +kernel, rfl⟩
theorem d_X7_worthOf_8 : DC mX7_worthOf 8 (.getfield 41) 3 11 := ⟨by decide +kernel, rfl⟩
theorem d_X7_worthOf_11 : DC mX7_worthOf 11 (.if_icmp .ge 135) 3 14 := ⟨by decide +kernel, rfl⟩
theorem d_X7_worthOf_14 : DC mX7_worthOf 14 (.aload_n 1) 1 15 := ⟨by decide +kernel, rfl⟩
theorem d_X7_worthOf_15 : DC mX7_worthOf 15 (.getfield 62) 3 18 := ⟨by decide +kernel, rfl⟩
theorem d_X7_worthOf_18 : DC mX7_worthOf 18 (.iload 4) 2 20 := ⟨by decide +kernel, rfl⟩
theorem d_X7_worthOf_20 : DC mX7_worthOf 20 (.iaload) 1 21 := ⟨by decide +kernel, rfl⟩
theorem d_X7_worthOf_21 : DC mX7_worthOf 21 (.i2l) 1 22 := ⟨by decide +kernel, rfl⟩
theorem d_X7_worthOf_22 : DC mX7_worthOf 22 (.lstore 5) 2 24 := ⟨by decide +kernel, rfl⟩
theorem d_X7_worthOf_24 : DC mX7_worthOf 24 (.aload_n 1) 1 25 := ⟨by decide +kernel, rfl⟩
theorem d_X7_worthOf_25 : DC mX7_worthOf 25 (.getfield 54) 3 28 := ⟨by decide +kernel, rfl⟩
theorem d_X7_worthOf_28 : DC mX7_worthOf 28 (.iload 4) 2 30 := ⟨by decide +kernel, rfl⟩
theorem d_X7_worthOf_30 : DC mX7_worthOf 30 (.laload) 1 31 := ⟨by decide +kernel, rfl⟩
theorem d_X7_worthOf_31 : DC mX7_worthOf 31 (.invokestatic 69) 3 34 := ⟨by decide +kernel, rfl⟩
theorem d_X7_worthOf_34 : DC mX7_worthOf 34 (.istore 7) 2 36 := ⟨by decide +kernel, rfl⟩
theorem d_X7_worthOf_36 : DC mX7_worthOf 36 (.iconst 0) 1 37 := ⟨by decide +kernel, rfl⟩
theorem d_X7_worthOf_37 : DC mX7_worthOf 37 (.istore 8) 2 39 := ⟨by decide +kernel, rfl⟩
theorem d_X7_worthOf_39 : DC mX7_worthOf 39 (.iload 8) 2 41 := ⟨by decide +kernel, rfl⟩
theorem d_X7_worthOf_41 : DC mX7_worthOf 41 (.iload 7) 2 43 := ⟨by decide +kernel, rfl⟩
theorem d_X7_worthOf_43 : DC mX7_worthOf 43 (.if_icmp .ge 69) 3 46 := ⟨by decide +kernel, rfl⟩
theorem d_X7_worthOf_46 : DC mX7_worthOf 46 (.aload_n 1) 1 47 := ⟨by decide +kernel, rfl⟩
theorem d_X7_worthOf_47 : DC mX7_worthOf 47 (.getfield 54) 3 50 := ⟨by decide +kernel, rfl⟩
theorem d_X7_worthOf_50 : DC mX7_worthOf 50 (.iload 4) 2 52 := ⟨by decide +kernel, rfl⟩
theorem d_X7_worthOf_52 : DC mX7_worthOf 52 (.laload) 1 53 := ⟨by decide +kernel, rfl⟩
theorem d_X7_worthOf_53 : DC mX7_worthOf 53 (.iload 8) 2 55 := ⟨by decide +kernel, rfl⟩
theorem d_X7_worthOf_55 : DC mX7_worthOf 55 (.invokestatic 73) 3 58 := ⟨by decide +kernel, rfl⟩
theorem d_X7_worthOf_58 : DC mX7_worthOf 58 (.istore 9) 2 60 := ⟨by decide +kernel, rfl⟩
theorem d_X7_worthOf_60 : DC mX7_worthOf 60 (.aload_n 0) 1 61 := ⟨by decide +kernel, rfl⟩
theorem d_X7_worthOf_61 : DC mX7_worthOf 61 (.iload 9) 2 63 := ⟨by decide +kernel, rfl⟩
theorem d_X7_worthOf_63 : DC mX7_worthOf 63 (.iconst 0) 1 64 := ⟨by decide +kernel, rfl⟩
theorem d_X7_worthOf_64 : DC mX7_worthOf 64 (.invokestatic 83) 3 67 := ⟨by decide +kernel, rfl⟩
theorem d_X7_worthOf_67 : DC mX7_worthOf 67 (.iload 9) 2 69 := ⟨by decide +kernel, rfl⟩
theorem d_X7_worthOf_69 : DC mX7_worthOf 69 (.iconst 1) 1 70 := ⟨by decide +kernel, rfl⟩
theorem d_X7_worthOf_70 : DC mX7_worthOf 70 (.invokestatic 83) 3 73 := ⟨by decide +kernel, rfl⟩
theorem d_X7_worthOf_73 : DC mX7_worthOf 73 (.iload 9) 2 75 := ⟨by decide +kernel, rfl⟩
theorem d_X7_worthOf_75 : DC mX7_worthOf 75 (.iconst 2) 1 76 := ⟨by decide +kernel, rfl⟩
theorem d_X7_worthOf_76 : DC mX7_worthOf 76 (.invokestatic 83) 3 79 := ⟨by decide +kernel, rfl⟩
theorem d_X7_worthOf_79 : DC mX7_worthOf 79 (.invokevirtual 79) 3 82 := ⟨by decide +kernel, rfl⟩
theorem d_X7_worthOf_82 : DC mX7_worthOf 82 (.istore 10) 2 84 := ⟨by decide +kernel, rfl⟩
theorem d_X7_worthOf_84 : DC mX7_worthOf 84 (.lload 5) 2 86 := ⟨by decide +kernel, rfl⟩
theorem d_X7_worthOf_86 : DC mX7_worthOf 86 (.iload 10) 2 88 := ⟨by decide +kernel, rfl⟩
theorem d_X7_worthOf_88 : DC mX7_worthOf 88 (.invokestatic 87) 3 91 := ⟨by decide +kernel, rfl⟩
theorem d_X7_worthOf_91 : DC mX7_worthOf 91 (.ifCond .eq 7) 3 94 := ⟨by decide +kernel, rfl⟩
theorem d_X7_worthOf_94 : DC mX7_worthOf 94 (.ldc2_w 91) 3 97 := ⟨by decide +kernel, rfl⟩
theorem d_X7_worthOf_97 : DC mX7_worthOf 97 (.lreturn) 1 98 := ⟨by decide +kernel, rfl⟩
theorem d_X7_worthOf_98 : DC mX7_worthOf 98 (.lload 5) 2 100 := ⟨by decide +kernel, rfl⟩
theorem d_X7_worthOf_100 : DC mX7_worthOf 100 (.iload 10) 2 102 := ⟨by decide +kernel, rfl⟩
theorem d_X7_worthOf_102 : DC mX7_worthOf 102 (.i2l) 1 103 := ⟨by decide +kernel, rfl⟩
theorem d_X7_worthOf_103 : DC mX7_worthOf 103 (.lmul) 1 104 := ⟨by decide +kernel, rfl⟩
theorem d_X7_worthOf_104 : DC mX7_worthOf 104 (.lstore 5) 2 106 := ⟨by decide +kernel, rfl⟩
theorem d_X7_worthOf_106 : DC mX7_worthOf 106 (.iinc 8 1) 3 109 := ⟨by decide +kernel, rfl⟩
theorem d_X7_worthOf_109 : DC mX7_worthOf 109 (.goto (-70)) 3 112 := ⟨by decide +kernel, rfl⟩
theorem d_X7_worthOf_112 : DC mX7_worthOf 112 (.lload_n 2) 1 113 := ⟨by decide +kernel, rfl⟩
theorem d_X7_worthOf_113 : DC mX7_worthOf 113 (.lload 5) 2 115 := ⟨by decide +kernel, rfl⟩
theorem d_X7_worthOf_115 : DC mX7_worthOf 115 (.ladd) 1 116 := ⟨by decide +kernel, rfl⟩
theorem d_X7_worthOf_116 : DC mX7_worthOf 116 (.lstore 8) 2 118 := ⟨by decide +kernel, rfl⟩
theorem d_X7_worthOf_118 : DC mX7_worthOf 118 (.lload_n 2) 1 119 := ⟨by decide +kernel, rfl⟩
theorem d_X7_worthOf_119 : DC mX7_worthOf 119 (.lload 8) 2 121 := ⟨by decide +kernel, rfl⟩
theorem d_X7_worthOf_121 : DC mX7_worthOf 121 (.lxor) 1 122 := ⟨by decide +kernel, rfl⟩
theorem d_X7_worthOf_122 : DC mX7_worthOf 122 (.lload 5) 2 124 := ⟨by decide +kernel, rfl⟩
theorem d_X7_worthOf_124 : DC mX7_worthOf 124 (.lload 8) 2 126 := ⟨by decide +kernel, rfl⟩
theorem d_X7_worthOf_126 : DC mX7_worthOf 126 (.lxor) 1 127 := ⟨by decide +kernel, rfl⟩
theorem d_X7_worthOf_127 : DC mX7_worthOf 127 (.land) 1 128 := ⟨by decide +kernel, rfl⟩
theorem d_X7_worthOf_128 : DC mX7_worthOf 128 (.lconst 0) 1 129 := ⟨by decide +kernel, rfl⟩
theorem d_X7_worthOf_129 : DC mX7_worthOf 129 (.lcmp) 1 130 := ⟨by decide +kernel, rfl⟩
theorem d_X7_worthOf_130 : DC mX7_worthOf 130 (.ifCond .ge 7) 3 133 := ⟨by decide +kernel, rfl⟩
theorem d_X7_worthOf_133 : DC mX7_worthOf 133 (.ldc2_w 91) 3 136 := ⟨by decide +kernel, rfl⟩
theorem d_X7_worthOf_136 : DC mX7_worthOf 136 (.lreturn) 1 137 := ⟨by decide +kernel, rfl⟩
theorem d_X7_worthOf_137 : DC mX7_worthOf 137 (.lload 8) 2 139 := ⟨by decide +kernel, rfl⟩
theorem d_X7_worthOf_139 : DC mX7_worthOf 139 (.lstore_n 2) 1 140 := ⟨by decide +kernel, rfl⟩
theorem d_X7_worthOf_140 : DC mX7_worthOf 140 (.iinc 4 1) 3 143 := ⟨by decide +kernel, rfl⟩
theorem d_X7_worthOf_143 : DC mX7_worthOf 143 (.goto (-138)) 3 146 := ⟨by decide +kernel, rfl⟩
theorem d_X7_worthOf_146 : DC mX7_worthOf 146 (.lload_n 2) 1 147 := ⟨by decide +kernel, rfl⟩
theorem d_X7_worthOf_147 : DC mX7_worthOf 147 (.lreturn) 1 148 := ⟨by decide +kernel, rfl⟩
theorem d_X8_lastBroken_0 : DC mX8_lastBroken 0 (.iload_n 1) 1 1 := ⟨by decide +kernel, rfl⟩
theorem d_X8_lastBroken_1 : DC mX8_lastBroken 1 (.istore_n 2) 1 2 := ⟨by decide +kernel, rfl⟩
theorem d_X8_lastBroken_2 : DC mX8_lastBroken 2 (.iload_n 2) 1 3 := ⟨by decide +kernel, rfl⟩
theorem d_X8_lastBroken_3 : DC mX8_lastBroken 3 (.ifCond .lt 21) 3 6 := ⟨by decide +kernel, rfl⟩
theorem d_X8_lastBroken_6 : DC mX8_lastBroken 6 (.aload_n 0) 1 7 := ⟨by decide +kernel, rfl⟩
theorem d_X8_lastBroken_7 : DC mX8_lastBroken 7 (.getfield 35) 3 10 := ⟨by decide +kernel, rfl⟩
theorem d_X8_lastBroken_10 : DC mX8_lastBroken 10 (.iload_n 2) 1 11 := ⟨by decide +kernel, rfl⟩
theorem d_X8_lastBroken_11 : DC mX8_lastBroken 11 (.laload) 1 12 := ⟨by decide +kernel, rfl⟩
theorem d_X8_lastBroken_12 : DC mX8_lastBroken 12 (.invokestatic 39) 3 15 := ⟨by decide +kernel, rfl⟩
theorem d_X8_lastBroken_15 : DC mX8_lastBroken 15 (.ifCond .ne 9) 3 18 := ⟨by decide +kernel, rfl⟩
theorem d_X8_lastBroken_18 : DC mX8_lastBroken 18 (.iinc 2 (-1)) 3 21 := ⟨by decide +kernel, rfl⟩
theorem d_X8_lastBroken_21 : DC mX8_lastBroken 21 (.goto (-19)) 3 24 := ⟨by decide +kernel, rfl⟩
theorem d_X8_lastBroken_24 : DC mX8_lastBroken 24 (.iload_n 2) 1 25 := ⟨by decide +kernel, rfl⟩
theorem d_X8_lastBroken_25 : DC mX8_lastBroken 25 (.ireturn) 1 26 := ⟨by decide +kernel, rfl⟩
theorem d_X8_attachWay_0 : DC mX8_attachWay 0 (.iload_n 1) 1 1 := ⟨by decide +kernel, rfl⟩
theorem d_X8_attachWay_1 : DC mX8_attachWay 1 (.istore 6) 2 3 := ⟨by decide +kernel, rfl⟩
theorem d_X8_attachWay_3 : DC mX8_attachWay 3 (.iconst 0) 1 4 := ⟨by decide +kernel, rfl⟩
theorem d_X8_attachWay_4 : DC mX8_attachWay 4 (.istore 7) 2 6 := ⟨by decide +kernel, rfl⟩
theorem d_X8_attachWay_6 : DC mX8_attachWay 6 (.iconst 0) 1 7 := ⟨by decide +kernel, rfl⟩
theorem d_X8_attachWay_7 : DC mX8_attachWay 7 (.istore 8) 2 9 := ⟨by decide +kernel, rfl⟩
theorem d_X8_attachWay_9 : DC mX8_attachWay 9 (.iconst 0) 1 10 := ⟨by decide +kernel, rfl⟩
theorem d_X8_attachWay_10 : DC mX8_attachWay 10 (.istore 9) 2 12 := ⟨by decide +kernel, rfl⟩
theorem d_X8_attachWay_12 : DC mX8_attachWay 12 (.iconst 3) 1 13 := ⟨by decide +kernel, rfl⟩
theorem d_X8_attachWay_13 : DC mX8_attachWay 13 (.istore 10) 2 15 := ⟨by decide +kernel, rfl⟩
theorem d_X8_attachWay_15 : DC mX8_attachWay 15 (.iload 10) 2 17 := ⟨by decide +kernel, rfl⟩
theorem d_X8_attachWay_17 : DC mX8_attachWay 17 (.ifCond .lt 61) 3 20 := ⟨by decide +kernel, rfl⟩
theorem d_X8_attachWay_20 : DC mX8_attachWay 20 (.iload_n 2) 1 21 := ⟨by decide +kernel, rfl⟩
theorem d_X8_attachWay_21 : DC mX8_attachWay 21 (.iconst 4) 1 22 := ⟨by decide +kernel, rfl⟩
theorem d_X8_attachWay_22 : DC mX8_attachWay 22 (.iload 10) 2 24 := ⟨by decide +kernel, rfl⟩
theorem d_X8_attachWay_24 : DC mX8_attachWay 24 (.imul) 1 25 := ⟨by decide +kernel, rfl⟩
theorem d_X8_attachWay_25 : DC mX8_attachWay 25 (.ishr) 1 26 := ⟨by decide +kernel, rfl⟩
theorem d_X8_attachWay_26 : DC mX8_attachWay 26 (.bipush 15) 2 28 := ⟨by decide +kernel, rfl⟩
theorem d_X8_attachWay_28 : DC mX8_attachWay 28 (.iand) 1 29 := ⟨by decide +kernel, rfl⟩
theorem d_X8_attachWay_29 : DC mX8_attachWay 29 (.istore 11) 2 31 := ⟨by decide +kernel, rfl⟩
theorem d_X8_attachWay_31 : DC mX8_attachWay 31 (.iload_n 3) 1 32 := ⟨by decide +kernel, rfl⟩
theorem d_X8_attachWay_32 : DC mX8_attachWay 32 (.iload 10) 2 34 := ⟨by decide +kernel, rfl⟩
theorem d_X8_attachWay_34 : DC mX8_attachWay 34 (.ishr) 1 35 := ⟨by decide +kernel, rfl⟩
theorem d_X8_attachWay_35 : DC mX8_attachWay 35 (.iconst 1) 1 36 := ⟨by decide +kernel, rfl⟩
theorem d_X8_attachWay_36 : DC mX8_attachWay 36 (.iand) 1 37 := ⟨by decide +kernel, rfl⟩
theorem d_X8_attachWay_37 : DC mX8_attachWay 37 (.iconst 1) 1 38 := ⟨by decide +kernel, rfl⟩
theorem d_X8_attachWay_38 : DC mX8_attachWay 38 (.if_icmp .ne 22) 3 41 := ⟨by decide +kernel, rfl⟩
theorem d_X8_attachWay_41 : DC mX8_attachWay 41 (.iload 6) 2 43 := ⟨by decide +kernel, rfl⟩
theorem d_X8_attachWay_43 : DC mX8_attachWay 43 (.iconst 4) 1 44 := ⟨by decide +kernel, rfl⟩
theorem d_X8_attachWay_44 : DC mX8_attachWay 44 (.ishl) 1 45 := ⟨by decide +kernel, rfl⟩
theorem d_X8_attachWay_45 : DC mX8_attachWay 45 (.iload 11) 2 47 := ⟨by decide +kernel, rfl⟩
theorem d_X8_attachWay_47 : DC mX8_attachWay 47 (.ior) 1 48 := ⟨by decide +kernel, rfl⟩
theorem d_X8_attachWay_48 : DC mX8_attachWay 48 (.istore 6) 2 50 := ⟨by decide +kernel, rfl⟩
theorem d_X8_attachWay_50 : DC mX8_attachWay 50 (.iload 9) 2 52 := ⟨by decide +kernel, rfl⟩
theorem d_X8_attachWay_52 : DC mX8_attachWay 52 (.iload 8) 2 54 := ⟨by decide +kernel, rfl⟩
theorem d_X8_attachWay_54 : DC mX8_attachWay 54 (.iadd) 1 55 := ⟨by decide +kernel, rfl⟩
theorem d_X8_attachWay_55 : DC mX8_attachWay 55 (.istore 9) 2 57 := ⟨by decide +kernel, rfl⟩
theorem d_X8_attachWay_57 : DC mX8_attachWay 57 (.goto 15) 3 60 := ⟨by decide +kernel, rfl⟩
theorem d_X8_attachWay_60 : DC mX8_attachWay 60 (.iload 7) 2 62 := ⟨by decide +kernel, rfl⟩
theorem d_X8_attachWay_62 : DC mX8_attachWay 62 (.iconst 4) 1 63 := ⟨by decide +kernel, rfl⟩
theorem d_X8_attachWay_63 : DC mX8_attachWay 63 (.ishl) 1 64 := ⟨by decide +kernel, rfl⟩
theorem d_X8_attachWay_64 : DC mX8_attachWay 64 (.iload 11) 2 66 := ⟨by decide +kernel, rfl⟩
theorem d_X8_attachWay_66 : DC mX8_attachWay 66 (.ior) 1 67 := ⟨by decide +kernel, rfl⟩
theorem d_X8_attachWay_67 : DC mX8_attachWay 67 (.istore 7) 2 69 := ⟨by decide +kernel, rfl⟩
theorem d_X8_attachWay_69 : DC mX8_attachWay 69 (.iinc 8 1) 3 72 := ⟨by decide +kernel, rfl⟩
theorem d_X8_attachWay_72 : DC mX8_attachWay 72 (.iinc 10 (-1)) 3 75 := ⟨by decide +kernel, rfl⟩
theorem d_X8_attachWay_75 : DC mX8_attachWay 75 (.goto (-60)) 3 78 := ⟨by decide +kernel, rfl⟩
theorem d_X8_attachWay_78 : DC mX8_attachWay 78 (.aload_n 0) 1 79 := ⟨by decide +kernel, rfl⟩
theorem d_X8_attachWay_79 : DC mX8_attachWay 79 (.getfield 18) 3 82 := ⟨by decide +kernel, rfl⟩
theorem d_X8_attachWay_82 : DC mX8_attachWay 82 (.iload 6) 2 84 := ⟨by decide +kernel, rfl⟩
theorem d_X8_attachWay_84 : DC mX8_attachWay 84 (.invokevirtual 93) 3 87 := ⟨by decide +kernel, rfl⟩
theorem d_X8_attachWay_87 : DC mX8_attachWay 87 (.aload_n 0) 1 88 := ⟨by decide +kernel, rfl⟩
theorem d_X8_attachWay_88 : DC mX8_attachWay 88 (.getfield 18) 3 91 := ⟨by decide +kernel, rfl⟩
theorem d_X8_attachWay_91 : DC mX8_attachWay 91 (.iload 7) 2 93 := ⟨by decide +kernel, rfl⟩
theorem d_X8_attachWay_93 : DC mX8_attachWay 93 (.iload 5) 2 95 := ⟨by decide +kernel, rfl⟩
theorem d_X8_attachWay_95 : DC mX8_attachWay 95 (.ishl) 1 96 := ⟨by decide +kernel, rfl⟩
theorem d_X8_attachWay_96 : DC mX8_attachWay 96 (.iload 4) 2 98 := ⟨by decide +kernel, rfl⟩
theorem d_X8_attachWay_98 : DC mX8_attachWay 98 (.iconst 1) 1 99 := ⟨by decide +kernel, rfl⟩
theorem d_X8_attachWay_99 : DC mX8_attachWay 99 (.iload 5) 2 101 := ⟨by decide +kernel, rfl⟩
theorem d_X8_attachWay_101 : DC mX8_attachWay 101 (.ishl) 1 102 := ⟨by decide +kernel, rfl⟩
theorem d_X8_attachWay_102 : DC mX8_attachWay 102 (.iconst 1) 1 103 := ⟨by decide +kernel, rfl⟩
theorem d_X8_attachWay_103 : DC mX8_attachWay 103 (.isub) 1 104 := ⟨by decide +kernel, rfl⟩
theorem d_X8_attachWay_104 : DC mX8_attachWay 104 (.iand) 1 105 := ⟨by decide +kernel, rfl⟩
theorem d_X8_attachWay_105 : DC mX8_attachWay 105 (.ior) 1 106 := ⟨by decide +kernel, rfl⟩
theorem d_X8_attachWay_106 : DC mX8_attachWay 106 (.invokevirtual 93) 3 109 := ⟨by decide +kernel, rfl⟩
theorem d_X8_attachWay_109 : DC mX8_attachWay 109 (.iload 9) 2 111 := ⟨by decide +kernel, rfl⟩
theorem d_X8_attachWay_111 : DC mX8_attachWay 111 (.iconst 1) 1 112 := ⟨by decide +kernel, rfl⟩
theorem d_X8_attachWay_112 : DC mX8_attachWay 112 (.iand) 1 113 := ⟨by decide +kernel, rfl⟩
theorem d_X8_attachWay_113 : DC mX8_attachWay 113 (.ifCond .ne 7) 3 116 := ⟨by decide +kernel, rfl⟩
theorem d_X8_attachWay_116 : DC mX8_attachWay 116 (.iconst 1) 1 117 := ⟨by decide +kernel, rfl⟩
theorem d_X8_attachWay_117 : DC mX8_attachWay 117 (.goto 4) 3 120 := ⟨by decide +kernel, rfl⟩
theorem d_X8_attachWay_120 : DC mX8_attachWay 120 (.iconst (-1)) 1 121 := ⟨by decide +kernel, rfl⟩
theorem d_X8_attachWay_121 : DC mX8_attachWay 121 (.ireturn) 1 122 := ⟨by decide +kernel, rfl⟩
theorem d_X8_layExchange_0 : DC mX8_layExchange 0 (.iconst 0) 1 1 := ⟨by decide +kernel, rfl⟩
theorem d_X8_layExchange_1 : DC mX8_layExchange 1 (.istore 9) 2 3 := ⟨by decide +kernel, rfl⟩
theorem d_X8_layExchange_3 : DC mX8_layExchange 3 (.iconst 4) 1 4 := ⟨by decide +kernel, rfl⟩
theorem d_X8_layExchange_4 : DC mX8_layExchange 4 (.iconst 3) 1 5 := ⟨by decide +kernel, rfl⟩
theorem d_X8_layExchange_5 : DC mX8_layExchange 5 (.iload 4) 2 7 := ⟨by decide +kernel, rfl⟩
theorem d_X8_layExchange_7 : DC mX8_layExchange 7 (.isub) 1 8 := ⟨by decide +kernel, rfl⟩
theorem d_X8_layExchange_8 : DC mX8_layExchange 8 (.imul) 1 9 := ⟨by decide +kernel, rfl⟩
theorem d_X8_layExchange_9 : DC mX8_layExchange 9 (.istore 10) 2 11 := ⟨by decide +kernel, rfl⟩
theorem d_X8_layExchange_11 : DC mX8_layExchange 11 (.iload_n 2) 1 12 := ⟨by decide +kernel, rfl⟩
theorem d_X8_layExchange_12 : DC mX8_layExchange 12 (.iconst 4) 1 13 := ⟨by decide +kernel, rfl⟩
theorem d_X8_layExchange_13 : DC mX8_layExchange 13 (.iload 4) 2 15 := ⟨by decide +kernel, rfl⟩
theorem d_X8_layExchange_15 : DC mX8_layExchange 15 (.imul) 1 16 := ⟨by decide +kernel, rfl⟩
theorem d_X8_layExchange_16 : DC mX8_layExchange 16 (.ishl) 1 17 := ⟨by decide +kernel, rfl⟩
theorem d_X8_layExchange_17 : DC mX8_layExchange 17 (.iload_n 3) 1 18 := ⟨by decide +kernel, rfl⟩
theorem d_X8_layExchange_18 : DC mX8_layExchange 18 (.iload 10) 2 20 := ⟨by decide +kernel, rfl⟩
theorem d_X8_layExchange_20 : DC mX8_layExchange 20 (.ishr) 1 21 := ⟨by decide +kernel, rfl⟩
theorem d_X8_layExchange_21 : DC mX8_layExchange 21 (.ior) 1 22 := ⟨by decide +kernel, rfl⟩
theorem d_X8_layExchange_22 : DC mX8_layExchange 22 (.ldc 68) 2 24 := ⟨by decide +kernel, rfl⟩
theorem d_X8_layExchange_24 : DC mX8_layExchange 24 (.iand) 1 25 := ⟨by decide +kernel, rfl⟩
theorem d_X8_layExchange_25 : DC mX8_layExchange 25 (.istore 11) 2 27 := ⟨by decide +kernel, rfl⟩
theorem d_X8_layExchange_27 : DC mX8_layExchange 27 (.bipush 15) 2 29 := ⟨by decide +kernel, rfl⟩
theorem d_X8_layExchange_29 : DC mX8_layExchange 29 (.istore 12) 2 31 := ⟨by decide +kernel, rfl⟩
theorem d_X8_layExchange_31 : DC mX8_layExchange 31 (.iload 12) 2 33 := ⟨by decide +kernel, rfl⟩
theorem d_X8_layExchange_33 : DC mX8_layExchange 33 (.ifCond .lt 84) 3 36 := ⟨by decide +kernel, rfl⟩
theorem d_X8_layExchange_36 : DC mX8_layExchange 36 (.iload 9) 2 38 := ⟨by decide +kernel, rfl⟩
theorem d_X8_layExchange_38 : DC mX8_layExchange 38 (.ifCond .ne 79) 3 41 := ⟨by decide +kernel, rfl⟩
theorem d_X8_layExchange_41 : DC mX8_layExchange 41 (.iload 12) 2 43 := ⟨by decide +kernel, rfl⟩
theorem d_X8_layExchange_43 : DC mX8_layExchange 43 (.invokestatic 69) 3 46 := ⟨by decide +kernel, rfl⟩
theorem d_X8_layExchange_46 : DC mX8_layExchange 46 (.iconst 4) 1 47 := ⟨by decide +kernel, rfl⟩
theorem d_X8_layExchange_47 : DC mX8_layExchange 47 (.iload 4) 2 49 := ⟨by decide +kernel, rfl⟩
theorem d_X8_layExchange_49 : DC mX8_layExchange 49 (.isub) 1 50 := ⟨by decide +kernel, rfl⟩
theorem d_X8_layExchange_50 : DC mX8_layExchange 50 (.if_icmp .ne 61) 3 53 := ⟨by decide +kernel, rfl⟩
theorem d_X8_layExchange_53 : DC mX8_layExchange 53 (.aload_n 0) 1 54 := ⟨by decide +kernel, rfl⟩
theorem d_X8_layExchange_54 : DC mX8_layExchange 54 (.getfield 18) 3 57 := ⟨by decide +kernel, rfl⟩
theorem d_X8_layExchange_57 : DC mX8_layExchange 57 (.lload 5) 2 59 := ⟨by decide +kernel, rfl⟩
theorem d_X8_layExchange_59 : DC mX8_layExchange 59 (.invokevirtual 74) 3 62 := ⟨by decide +kernel, rfl⟩
theorem d_X8_layExchange_62 : DC mX8_layExchange 62 (.aload_n 0) 1 63 := ⟨by decide +kernel, rfl⟩
theorem d_X8_layExchange_63 : DC mX8_layExchange 63 (.iload_n 2) 1 64 := ⟨by decide +kernel, rfl⟩
theorem d_X8_layExchange_64 : DC mX8_layExchange 64 (.iconst 4) 1 65 := ⟨by decide +kernel, rfl⟩
theorem d_X8_layExchange_65 : DC mX8_layExchange 65 (.iconst 4) 1 66 := ⟨by decide +kernel, rfl⟩
theorem d_X8_layExchange_66 : DC mX8_layExchange 66 (.iload 4) 2 68 := ⟨by decide +kernel, rfl⟩
theorem d_X8_layExchange_68 : DC mX8_layExchange 68 (.isub) 1 69 := ⟨by decide +kernel, rfl⟩
theorem d_X8_layExchange_69 : DC mX8_layExchange 69 (.imul) 1 70 := ⟨by decide +kernel, rfl⟩
theorem d_X8_layExchange_70 : DC mX8_layExchange 70 (.ishr) 1 71 := ⟨by decide +kernel, rfl⟩
theorem d_X8_layExchange_71 : DC mX8_layExchange 71 (.iload 11) 2 73 := ⟨by decide +kernel, rfl⟩
theorem d_X8_layExchange_73 : DC mX8_layExchange 73 (.iload 12) 2 75 := ⟨by decide +kernel, rfl⟩
theorem d_X8_layExchange_75 : DC mX8_layExchange 75 (.iload_n 3) 1 76 := ⟨by decide +kernel, rfl⟩
theorem d_X8_layExchange_76 : DC mX8_layExchange 76 (.iload 10) 2 78 := ⟨by decide +kernel, rfl⟩
theorem d_X8_layExchange_78 : DC mX8_layExchange 78 (.invokevirtual 78) 3 81 := ⟨by decide +kernel, rfl⟩
theorem d_X8_layExchange_81 : DC mX8_layExchange 81 (.istore 13) 2 83 := ⟨by decide +kernel, rfl⟩
theorem d_X8_layExchange_83 : DC mX8_layExchange 83 (.aload_n 1) 1 84 := ⟨by decide +kernel, rfl⟩
theorem d_X8_layExchange_84 : DC mX8_layExchange 84 (.aload_n 0) 1 85 := ⟨by decide +kernel, rfl⟩
theorem d_X8_layExchange_85 : DC mX8_layExchange 85 (.getfield 18) 3 88 := ⟨by decide +kernel, rfl⟩
theorem d_X8_layExchange_88 : DC mX8_layExchange 88 (.getfield 82) 3 91 := ⟨by decide +kernel, rfl⟩
theorem d_X8_layExchange_91 : DC mX8_layExchange 91 (.lload 7) 2 93 := ⟨by decide +kernel, rfl⟩
theorem d_X8_layExchange_93 : DC mX8_layExchange 93 (.iload 13) 2 95 := ⟨by decide +kernel, rfl⟩
theorem d_X8_layExchange_95 : DC mX8_layExchange 95 (.i2l) 1 96 := ⟨by decide +kernel, rfl⟩
theorem d_X8_layExchange_96 : DC mX8_layExchange 96 (.lmul) 1 97 := ⟨by decide +kernel, rfl⟩
theorem d_X8_layExchange_97 : DC mX8_layExchange 97 (.aload_n 0) 1 98 := ⟨by decide +kernel, rfl⟩
theorem d_X8_layExchange_98 : DC mX8_layExchange 98 (.getfield 18) 3 101 := ⟨by decide +kernel, rfl⟩
theorem d_X8_layExchange_101 : DC mX8_layExchange 101 (.getfield 86) 3 104 := ⟨by decide +kernel, rfl⟩
theorem d_X8_layExchange_104 : DC mX8_layExchange 104 (.i2l) 1 105 := ⟨by decide +kernel, rfl⟩
theorem d_X8_layExchange_105 : DC mX8_layExchange 105 (.lmul) 1 106 := ⟨by decide +kernel, rfl⟩
theorem d_X8_layExchange_106 : DC mX8_layExchange 106 (.invokevirtual 89) 3 109 := ⟨by decide +kernel, rfl⟩
theorem d_X8_layExchange_109 : DC mX8_layExchange 109 (.istore 9) 2 111 := ⟨by decide +kernel, rfl⟩
theorem d_X8_layExchange_111 : DC mX8_layExchange 111 (.iinc 12 (-1)) 3 114 := ⟨by decide +kernel, rfl⟩
theorem d_X8_layExchange_114 : DC mX8_layExchange 114 (.goto (-83)) 3 117 := ⟨by decide +kernel, rfl⟩
theorem d_X8_layExchange_117 : DC mX8_layExchange 117 (.iload 9) 2 119 := ⟨by decide +kernel, rfl⟩
theorem d_X8_layExchange_119 : DC mX8_layExchange 119 (.ireturn) 1 120 := ⟨by decide +kernel, rfl⟩
theorem d_X8_straighten_0 : DC mX8_straighten 0 (.aload_n 2) 1 1 := ⟨by decide +kernel, rfl⟩
theorem d_X8_straighten_1 : DC mX8_straighten 1 (.aload_n 1) 1 2 := ⟨by decide +kernel, rfl⟩
theorem d_X8_straighten_2 : DC mX8_straighten 2 (.invokevirtual 22) 3 5 := ⟨by decide +kernel, rfl⟩
theorem d_X8_straighten_5 : DC mX8_straighten 5 (.aload_n 0) 1 6 := ⟨by decide +kernel, rfl⟩
theorem d_X8_straighten_6 : DC mX8_straighten 6 (.iconst 0) 1 7 := ⟨by decide +kernel, rfl⟩
theorem d_X8_straighten_7 : DC mX8_straighten 7 (.putfield 9) 3 10 := ⟨by decide +kernel, rfl⟩
theorem d_X8_straighten_10 : DC mX8_straighten 10 (.aload_n 2) 1 11 := ⟨by decide +kernel, rfl⟩
theorem d_X8_straighten_11 : DC mX8_straighten 11 (.aload_n 2) 1 12 := ⟨by decide +kernel, rfl⟩
theorem d_X8_straighten_12 : DC mX8_straighten 12 (.getfield 28) 3 15 := ⟨by decide +kernel, rfl⟩
theorem d_X8_straighten_15 : DC mX8_straighten 15 (.iconst 1) 1 16 := ⟨by decide +kernel, rfl⟩
theorem d_X8_straighten_16 : DC mX8_straighten 16 (.isub) 1 17 := ⟨by decide +kernel, rfl⟩
theorem d_X8_straighten_17 : DC mX8_straighten 17 (.invokestatic 31) 3 20 := ⟨by decide +kernel, rfl⟩
theorem d_X8_straighten_20 : DC mX8_straighten 20 (.istore_n 3) 1 21 := ⟨by decide +kernel, rfl⟩
theorem d_X8_straighten_21 : DC mX8_straighten 21 (.iload_n 3) 1 22 := ⟨by decide +kernel, rfl⟩
theorem d_X8_straighten_22 : DC mX8_straighten 22 (.ifCond .lt 135) 3 25 := ⟨by decide +kernel, rfl⟩
theorem d_X8_straighten_25 : DC mX8_straighten 25 (.aload_n 0) 1 26 := ⟨by decide +kernel, rfl⟩
theorem d_X8_straighten_26 : DC mX8_straighten 26 (.getfield 9) 3 29 := ⟨by decide +kernel, rfl⟩
theorem d_X8_straighten_29 : DC mX8_straighten 29 (.sipush 900) 3 32 := ⟨by decide +kernel, rfl⟩
theorem d_X8_straighten_32 : DC mX8_straighten 32 (.if_icmp .ge 125) 3 35 := ⟨by decide +kernel, rfl⟩
theorem d_X8_straighten_35 : DC mX8_straighten 35 (.aload_n 2) 1 36 := ⟨by decide +kernel, rfl⟩
theorem d_X8_straighten_36 : DC mX8_straighten 36 (.getfield 28) 3 39 := ⟨by decide +kernel, rfl⟩
theorem d_X8_straighten_39 : DC mX8_straighten 39 (.iconst 1) 1 40 := ⟨by decide +kernel, rfl⟩
theorem d_X8_straighten_40 : DC mX8_straighten 40 (.isub) 1 41 := ⟨by decide +kernel, rfl⟩
theorem d_X8_straighten_41 : DC mX8_straighten 41 (.iload_n 3) 1 42 := ⟨by decide +kernel, rfl⟩
theorem d_X8_straighten_42 : DC mX8_straighten 42 (.isub) 1 43 := ⟨by decide +kernel, rfl⟩
theorem d_X8_straighten_43 : DC mX8_straighten 43 (.istore 4) 2 45 := ⟨by decide +kernel, rfl⟩
theorem d_X8_straighten_45 : DC mX8_straighten 45 (.aload_n 2) 1 46 := ⟨by decide +kernel, rfl⟩
theorem d_X8_straighten_46 : DC mX8_straighten 46 (.getfield 35) 3 49 := ⟨by decide +kernel, rfl⟩
theorem d_X8_straighten_49 : DC mX8_straighten 49 (.iload_n 3) 1 50 := ⟨by decide +kernel, rfl⟩
theorem d_X8_straighten_50 : DC mX8_straighten 50 (.laload) 1 51 := ⟨by decide +kernel, rfl⟩
theorem d_X8_straighten_51 : DC mX8_straighten 51 (.lstore 5) 2 53 := ⟨by decide +kernel, rfl⟩
theorem d_X8_straighten_53 : DC mX8_straighten 53 (.lload 5) 2 55 := ⟨by decide +kernel, rfl⟩
theorem d_X8_straighten_55 : DC mX8_straighten 55 (.invokestatic 39) 3 58 := ⟨by decide +kernel, rfl⟩
theorem d_X8_straighten_58 : DC mX8_straighten 58 (.istore 7) 2 60 := ⟨by decide +kernel, rfl⟩
theorem d_X8_straighten_60 : DC mX8_straighten 60 (.iload 7) 2 62 := ⟨by decide +kernel, rfl⟩
theorem d_X8_straighten_62 : DC mX8_straighten 62 (.invokestatic 45) 3 65 := ⟨by decide +kernel, rfl⟩
theorem d_X8_straighten_65 : DC mX8_straighten 65 (.istore 8) 2 67 := ⟨by decide +kernel, rfl⟩
theorem d_X8_straighten_67 : DC mX8_straighten 67 (.lload 5) 2 69 := ⟨by decide +kernel, rfl⟩
theorem d_X8_straighten_69 : DC mX8_straighten 69 (.iload 8) 2 71 := ⟨by decide +kernel, rfl⟩
theorem d_X8_straighten_71 : DC mX8_straighten 71 (.invokestatic 49) 3 74 := ⟨by decide +kernel, rfl⟩
theorem d_X8_straighten_74 : DC mX8_straighten 74 (.istore 9) 2 76 := ⟨by decide +kernel, rfl⟩
theorem d_X8_straighten_76 : DC mX8_straighten 76 (.lload 5) 2 78 := ⟨by decide +kernel, rfl⟩
theorem d_X8_straighten_78 : DC mX8_straighten 78 (.iload 8) 2 80 := ⟨by decide +kernel, rfl⟩
theorem d_X8_straighten_80 : DC mX8_straighten 80 (.iconst 1) 1 81 := ⟨by decide +kernel, rfl⟩
theorem d_X8_straighten_81 : DC mX8_straighten 81 (.iadd) 1 82 := ⟨by decide +kernel, rfl⟩
theorem d_X8_straighten_82 : DC mX8_straighten 82 (.invokestatic 49) 3 85 := ⟨by decide +kernel, rfl⟩
theorem d_X8_straighten_85 : DC mX8_straighten 85 (.istore 10) 2 87 := ⟨by decide +kernel, rfl⟩
theorem d_X8_straighten_87 : DC mX8_straighten 87 (.aload_n 2) 1 88 := ⟨by decide +kernel, rfl⟩
theorem d_X8_straighten_88 : DC mX8_straighten 88 (.getfield 53) 3 91 := ⟨by decide +kernel, rfl⟩
theorem d_X8_straighten_91 : DC mX8_straighten 91 (.iload_n 3) 1 92 := ⟨by decide +kernel, rfl⟩
theorem d_X8_straighten_92 : DC mX8_straighten 92 (.iaload) 1 93 := ⟨by decide +kernel, rfl⟩
theorem d_X8_straighten_93 : DC mX8_straighten 93 (.i2l) 1 94 := ⟨by decide +kernel, rfl⟩
theorem d_X8_straighten_94 : DC mX8_straighten 94 (.lneg) 1 95 := ⟨by decide +kernel, rfl⟩
theorem d_X8_straighten_95 : DC mX8_straighten 95 (.lstore 11) 2 97 := ⟨by decide +kernel, rfl⟩
theorem d_X8_straighten_97 : DC mX8_straighten 97 (.aload_n 0) 1 98 := ⟨by decide +kernel, rfl⟩
theorem d_X8_straighten_98 : DC mX8_straighten 98 (.aload_n 2) 1 99 := ⟨by decide +kernel, rfl⟩
theorem d_X8_straighten_99 : DC mX8_straighten 99 (.iload 9) 2 101 := ⟨by decide +kernel, rfl⟩
theorem d_X8_straighten_101 : DC mX8_straighten 101 (.iload 10) 2 103 := ⟨by decide +kernel, rfl⟩
theorem d_X8_straighten_103 : DC mX8_straighten 103 (.iload 7) 2 105 := ⟨by decide +kernel, rfl⟩
theorem d_X8_straighten_105 : DC mX8_straighten 105 (.invokestatic 57) 3 108 := ⟨by decide +kernel, rfl⟩
theorem d_X8_straighten_108 : DC mX8_straighten 108 (.lload 5) 2 110 := ⟨by decide +kernel, rfl⟩
theorem d_X8_straighten_110 : DC mX8_straighten 110 (.iload 8) 2 112 := ⟨by decide +kernel, rfl⟩
theorem d_X8_straighten_112 : DC mX8_straighten 112 (.invokestatic 60) 3 115 := ⟨by decide +kernel, rfl⟩
theorem d_X8_straighten_115 : DC mX8_straighten 115 (.lload 11) 2 117 := ⟨by decide +kernel, rfl⟩
theorem d_X8_straighten_117 : DC mX8_straighten 117 (.invokevirtual 64) 3 120 := ⟨by decide +kernel, rfl⟩
theorem d_X8_straighten_120 : DC mX8_straighten 120 (.istore 13) 2 122 := ⟨by decide +kernel, rfl⟩
theorem d_X8_straighten_122 : DC mX8_straighten 122 (.iload 13) 2 124 := ⟨by decide +kernel, rfl⟩
theorem d_X8_straighten_124 : DC mX8_straighten 124 (.ifCond .eq 6) 3 127 := ⟨by decide +kernel, rfl⟩
theorem d_X8_straighten_127 : DC mX8_straighten 127 (.iload 13) 2 129 := ⟨by decide +kernel, rfl⟩
theorem d_X8_straighten_129 : DC mX8_straighten 129 (.ireturn) 1 130 := ⟨by decide +kernel, rfl⟩
theorem d_X8_straighten_130 : DC mX8_straighten 130 (.aload_n 0) 1 131 := ⟨by decide +kernel, rfl⟩
theorem d_X8_straighten_131 : DC mX8_straighten 131 (.dup) 1 132 := ⟨by decide +kernel, rfl⟩
theorem d_X8_straighten_132 : DC mX8_straighten 132 (.getfield 9) 3 135 := ⟨by decide +kernel, rfl⟩
theorem d_X8_straighten_135 : DC mX8_straighten 135 (.iconst 1) 1 136 := ⟨by decide +kernel, rfl⟩
theorem d_X8_straighten_136 : DC mX8_straighten 136 (.iadd) 1 137 := ⟨by decide +kernel, rfl⟩
theorem d_X8_straighten_137 : DC mX8_straighten 137 (.putfield 9) 3 140 := ⟨by decide +kernel, rfl⟩
theorem d_X8_straighten_140 : DC mX8_straighten 140 (.aload_n 2) 1 141 := ⟨by decide +kernel, rfl⟩
theorem d_X8_straighten_141 : DC mX8_straighten 141 (.aload_n 2) 1 142 := ⟨by decide +kernel, rfl⟩
theorem d_X8_straighten_142 : DC mX8_straighten 142 (.getfield 28) 3 145 := ⟨by decide +kernel, rfl⟩
theorem d_X8_straighten_145 : DC mX8_straighten 145 (.iconst 1) 1 146 := ⟨by decide +kernel, rfl⟩
theorem d_X8_straighten_146 : DC mX8_straighten 146 (.isub) 1 147 := ⟨by decide +kernel, rfl⟩
theorem d_X8_straighten_147 : DC mX8_straighten 147 (.iload 4) 2 149 := ⟨by decide +kernel, rfl⟩
theorem d_X8_straighten_149 : DC mX8_straighten 149 (.isub) 1 150 := ⟨by decide +kernel, rfl⟩
theorem d_X8_straighten_150 : DC mX8_straighten 150 (.invokestatic 31) 3 153 := ⟨by decide +kernel, rfl⟩
theorem d_X8_straighten_153 : DC mX8_straighten 153 (.istore_n 3) 1 154 := ⟨by decide +kernel, rfl⟩
theorem d_X8_straighten_154 : DC mX8_straighten 154 (.goto (-133)) 3 157 := ⟨by decide +kernel, rfl⟩
theorem d_X8_straighten_157 : DC mX8_straighten 157 (.iload_n 3) 1 158 := ⟨by decide +kernel, rfl⟩
theorem d_X8_straighten_158 : DC mX8_straighten 158 (.ifCond .lt 7) 3 161 := ⟨by decide +kernel, rfl⟩
theorem d_X8_straighten_161 : DC mX8_straighten 161 (.iconst 3) 1 162 := ⟨by decide +kernel, rfl⟩
theorem d_X8_straighten_162 : DC mX8_straighten 162 (.goto 4) 3 165 := ⟨by decide +kernel, rfl⟩
theorem d_X8_straighten_165 : DC mX8_straighten 165 (.iconst 0) 1 166 := ⟨by decide +kernel, rfl⟩
theorem d_X8_straighten_166 : DC mX8_straighten 166 (.ireturn) 1 167 := ⟨by decide +kernel, rfl⟩
theorem v_X3_countAll_0 {l : Launch} {d N : Nat} {Λ : Lay} {P : Int → Mem → Prop} {σ : Mem} {x1 t : Int} (o_t : Ob N Λ t 13 5) (h0d : 1 ≤ d)
    (h : (CV l mX3_begin (d - 1) [(2, t), (1, x1), (0, 1000000)] N Λ σ (fun σ1 => (CI l mX3_fill (d - 1) [(2, t), (0, 0)] N Λ σ1 (fun v3 σ2 => P (σ2 t 4) σ2))))) :
    WI l mX3_countAll d P 0 [(2, t), (1, x1), (3, 0)] [] N Λ σ := by
  have hd_1 : 1 ≤ d := Nat.le_trans (by decide) h0d
  refine r_aload_n (x := t) d_X3_countAll_0 rfl o_t.1 ?_
  refine r_lload_n (x := x1) d_X3_countAll_1 rfl ?_
  refine r_ldc (x := 1000000) d_X3_countAll_2 ck_X3_22 (by decide) ?_
  refine x_callVV (Y2 := mX3_begin) (c := t) (As := [(1, x1), (0, 1000000)]) (S := []) d_X3_countAll_4 ok_mX3_begin ml_X3_29 rfl (Nat.le_of_ble_eq_true rfl) (Nat.le_of_ble_eq_true rfl) rfl hd_1 kX3 o_t (CV.mono h (fun σ1 h => ?_))
  refine r_aload_n (x := t) d_X3_countAll_7 rfl o_t.1 ?_
  refine r_iconst (x := 0) d_X3_countAll_8 ⟨by decide, by decide⟩ ?_
  refine x_callVI (Y2 := mX3_fill) (c := t) (As := [(0, 0)]) (S := []) d_X3_countAll_9 ok_mX3_fill ml_X3_33 rfl (Nat.le_of_ble_eq_true rfl) (Nat.le_of_ble_eq_true rfl) rfl hd_1 kX3 o_t (CI.mono h (fun v3 σ2 h => ?_))
  refine r_pop d_X3_countAll_12 rfl ?_
  refine r_aload_n (x := t) d_X3_countAll_13 rfl o_t.1 ?_
  refine r_getf (j := 4) (t := 0) (x := (σ2 t 4)) d_X3_countAll_14 kX3 (by decide) fl_X3_26 o_t.1 o_t.2.1 o_t.2.2.1 o_t.2.2.2 rfl rfl ?_
  exact r_iret d_X3_countAll_17 rfl rfl (Nat.le_refl 0) (Nat.le_refl 0) ⟨_, rfl, rfl, rfl, h⟩
theorem v_X3_letterOf_0 {l : Launch} {d N : Nat} {Λ : Lay} {P : Int → Mem → Prop} {σ : Mem} {x1 x3 x4 t t_cells : Int} (o_t : Ob N Λ t 13 5) (f_t_cells : (Λ t).2.2 1 = t_cells) (h0d : 1 ≤ d)
    (h : (CV l mX3_begin (d - 1) [(2, t), (1, x1), (0, x3)] N Λ σ (fun σ1 => (((σ1 t 2) ≤ x4 → P (-1) σ1) ∧ (¬ ((σ1 t 2) ≤ x4) → (CI l mX3_fill (d - 1) [(2, t), (0, 0)] N Λ σ1 (fun v3 σ2 => ((¬ v3 = 0 → (Ix N Λ t_cells 0 x4 ∧ P (σ2 t_cells x4) σ2)) ∧ (v3 = 0 → P (-1) σ2))))))))) :
    WI l mX3_letterOf d P 0 [(2, t), (1, x1), (3, 0), (0, x3), (0, x4)] [] N Λ σ := by
  have hd_1 : 1 ≤ d := Nat.le_trans (by decide) h0d
  refine r_aload_n (x := t) d_X3_letterOf_0 rfl o_t.1 ?_
  refine r_lload_n (x := x1) d_X3_letterOf_1 rfl ?_
  refine r_iload_n (x := x3) d_X3_letterOf_2 rfl ?_
  refine x_callVV (Y2 := mX3_begin) (c := t) (As := [(1, x1), (0, x3)]) (S := []) d_X3_letterOf_3 ok_mX3_begin ml_X3_29 rfl (Nat.le_of_ble_eq_true rfl) (Nat.le_of_ble_eq_true rfl) rfl hd_1 kX3 o_t (CV.mono h (fun σ1 h => ?_))
  refine r_iload (x := x4) d_X3_letterOf_6 rfl ?_
  refine r_aload_n (x := t) d_X3_letterOf_8 rfl o_t.1 ?_
  refine r_getf (j := 2) (t := 0) (x := (σ1 t 2)) d_X3_letterOf_9 kX3 (by decide) fl_X3_18 o_t.1 o_t.2.1 o_t.2.2.1 o_t.2.2.2 rfl rfl ?_
  refine r_ic_ge (tgt := 23) d_X3_letterOf_12 rfl (fun hc => ?_) (fun hc => ?_)
  · have h := h.1 hc
    refine r_iconst (x := (-1)) d_X3_letterOf_23 ⟨by decide, by decide⟩ ?_
    exact r_iret d_X3_letterOf_24 rfl rfl (Nat.le_refl 0) (Nat.le_refl 0) ⟨_, rfl, rfl, rfl, h⟩
  · have h := h.2 hc
    refine r_aload_n (x := t) d_X3_letterOf_15 rfl o_t.1 ?_
    refine r_iconst (x := 0) d_X3_letterOf_16 ⟨by decide, by decide⟩ ?_
    refine x_callVI (Y2 := mX3_fill) (c := t) (As := [(0, 0)]) (S := []) d_X3_letterOf_17 ok_mX3_fill ml_X3_33 rfl (Nat.le_of_ble_eq_true rfl) (Nat.le_of_ble_eq_true rfl) rfl hd_1 kX3 o_t (CI.mono h (fun v3 σ2 h => ?_))
    refine r_if_ne (tgt := 25) d_X3_letterOf_20 rfl (fun hc => ?_) (fun hc => ?_)
    · have h := h.1 hc
      refine r_aload_n (x := t) d_X3_letterOf_25 rfl o_t.1 ?_
      refine r_getf (j := 1) (t := 2) (x := t_cells) d_X3_letterOf_26 kX3 (by decide) fl_X3_15 o_t.1 o_t.2.1 o_t.2.2.1 o_t.2.2.2 rfl f_t_cells ?_
      refine r_iload (x := x4) d_X3_letterOf_29 rfl ?_
      refine x_iald d_X3_letterOf_31 h.1 ?_
      have h := h.2
      exact r_iret d_X3_letterOf_32 rfl rfl (Nat.le_refl 0) (Nat.le_refl 0) ⟨_, rfl, rfl, rfl, h⟩
    · have h := h.2 hc
      refine r_iconst (x := (-1)) d_X3_letterOf_23 ⟨by decide, by decide⟩ ?_
      exact r_iret d_X3_letterOf_24 rfl rfl (Nat.le_refl 0) (Nat.le_refl 0) ⟨_, rfl, rfl, rfl, h⟩
theorem v_X5_take_0 {l : Launch} {d N : Nat} {Λ : Lay} {P : Mem → Prop} {σ : Mem} {a1 a1_keys a1_numbers t t_keys t_numbers : Int} (o_a1 : Ob N Λ a1 15 3) (f_a1_keys : (Λ a1).2.2 0 = a1_keys) (o_t : Ob N Λ t 15 3) (f_t_keys : (Λ t).2.2 0 = t_keys) (f_a1_numbers : (Λ a1).2.2 1 = a1_numbers) (f_t_numbers : (Λ t).2.2 1 = t_numbers) (h0d : 1 ≤ d)
    (h : (Cp N Λ a1_keys t_keys 1 0 0 (σ a1 2) ∧ (∀ τ1, τ1 = cpM σ a1_keys 0 t_keys 0 (σ a1 2) → (Cp N Λ a1_numbers t_numbers 0 0 0 (τ1 a1 2) ∧ (∀ τ2, τ2 = cpM τ1 a1_numbers 0 t_numbers 0 (τ1 a1 2) → (∀ τ3, τ3 = st τ2 t 2 (τ2 a1 2) → P τ3)))))) :
    WV l mX5_take d P 0 [(2, t), (2, a1)] [] N Λ σ := by
  have hd_1 : 1 ≤ d := Nat.le_trans (by decide) h0d
  refine r_aload_n (x := a1) d_X5_take_0 rfl o_a1.1 ?_
  refine r_getf (j := 0) (t := 2) (x := a1_keys) d_X5_take_1 kX5 (by decide) fl_X5_9 o_a1.1 o_a1.2.1 o_a1.2.2.1 o_a1.2.2.2 rfl f_a1_keys ?_
  refine r_iconst (x := 0) d_X5_take_4 ⟨by decide, by decide⟩ ?_
  refine r_aload_n (x := t) d_X5_take_5 rfl o_t.1 ?_
  refine r_getf (j := 0) (t := 2) (x := t_keys) d_X5_take_6 kX5 (by decide) fl_X5_9 o_t.1 o_t.2.1 o_t.2.2.1 o_t.2.2.2 rfl f_t_keys ?_
  refine r_iconst (x := 0) d_X5_take_9 ⟨by decide, by decide⟩ ?_
  refine r_aload_n (x := a1) d_X5_take_10 rfl o_a1.1 ?_
  refine r_getf (j := 2) (t := 0) (x := (σ a1 2)) d_X5_take_11 kX5 (by decide) fl_X5_19 o_a1.1 o_a1.2.1 o_a1.2.2.1 o_a1.2.2.2 rfl rfl ?_
  refine x_acp1 d_X5_take_14 ml_X5_23 hd_1 (Nat.le_of_ble_eq_true rfl) h.1 ?_
  have h := h.2
  refine r_nmM (fun τ1 eτ1 => ?_)
  have h := h τ1 eτ1
  refine r_aload_n (x := a1) d_X5_take_17 rfl o_a1.1 ?_
  refine r_getf (j := 1) (t := 2) (x := a1_numbers) d_X5_take_18 kX5 (by decide) fl_X5_15 o_a1.1 o_a1.2.1 o_a1.2.2.1 o_a1.2.2.2 rfl f_a1_numbers ?_
  refine r_iconst (x := 0) d_X5_take_21 ⟨by decide, by decide⟩ ?_
  refine r_aload_n (x := t) d_X5_take_22 rfl o_t.1 ?_
  refine r_getf (j := 1) (t := 2) (x := t_numbers) d_X5_take_23 kX5 (by decide) fl_X5_15 o_t.1 o_t.2.1 o_t.2.2.1 o_t.2.2.2 rfl f_t_numbers ?_
  refine r_iconst (x := 0) d_X5_take_26 ⟨by decide, by decide⟩ ?_
  refine r_aload_n (x := a1) d_X5_take_27 rfl o_a1.1 ?_
  refine r_getf (j := 2) (t := 0) (x := (τ1 a1 2)) d_X5_take_28 kX5 (by decide) fl_X5_19 o_a1.1 o_a1.2.1 o_a1.2.2.1 o_a1.2.2.2 rfl rfl ?_
  refine x_acp0 d_X5_take_31 ml_X5_23 hd_1 (Nat.le_of_ble_eq_true rfl) h.1 ?_
  have h := h.2
  refine r_nmM (fun τ2 eτ2 => ?_)
  have h := h τ2 eτ2
  refine r_aload_n (x := t) d_X5_take_34 rfl o_t.1 ?_
  refine r_aload_n (x := a1) d_X5_take_35 rfl o_a1.1 ?_
  refine r_getf (j := 2) (t := 0) (x := (τ2 a1 2)) d_X5_take_36 kX5 (by decide) fl_X5_19 o_a1.1 o_a1.2.1 o_a1.2.2.1 o_a1.2.2.2 rfl rfl ?_
  refine r_putI (j := 2) d_X5_take_39 kX5 (by decide) fl_X5_19 rfl o_t.1 o_t.2.1 o_t.2.2.1 o_t.2.2.2 rfl ?_
  refine r_nmM (fun τ3 eτ3 => ?_)
  have h := h τ3 eτ3
  exact r_vret d_X5_take_42 rfl (Nat.le_refl 0) (Nat.le_refl 0) ⟨rfl, rfl, rfl, h⟩
theorem v_X7_take_0 {l : Launch} {d N : Nat} {Λ : Lay} {P : Mem → Prop} {σ : Mem} {a1 t : Int}
    (h : WV l mX7_take d P 2 [(2, t), (2, a1), (0, 0)] [] N Λ σ) :
    WV l mX7_take d P 0 [(2, t), (2, a1), (3, 0)] [] N Λ σ := by
  refine r_iconst (x := 0) d_X7_take_0 ⟨by decide, by decide⟩ ?_
  refine r_istore_n (L2 := [(2, t), (2, a1), (0, 0)]) d_X7_take_1 (by decide) rfl rfl ?_
  exact h
theorem v_X7_take_2 {l : Launch} {d N : Nat} {Λ : Lay} {P : Mem → Prop} {σ : Mem} {x2 a1 a1_facts a1_places a1_shelves n_t_facts n_t_places t t_facts t_places t_shelves : Int} (o_a1 : Ob N Λ a1 16 3) (f_a1_places : (Λ a1).2.2 1 = a1_places) (o_t : Ob N Λ t 16 3) (f_t_places : (Λ t).2.2 1 = t_places) (q_t_places : Ob N Λ t_places 0 n_t_places ∧ 0 ≤ n_t_places ∧ n_t_places ≤ 2147483647) (f_a1_facts : (Λ a1).2.2 2 = a1_facts) (f_t_facts : (Λ t).2.2 2 = t_facts) (q_t_facts : Ob N Λ t_facts 0 n_t_facts ∧ 0 ≤ n_t_facts ∧ n_t_facts ≤ 2147483647) (f_t_shelves : (Λ t).2.2 0 = t_shelves) (f_a1_shelves : (Λ a1).2.2 0 = a1_shelves) (h0d : 1 ≤ d)
    (h : ((6 ≤ x2 → (Cp N Λ a1_places t_places 0 0 0 n_t_places ∧ (∀ τ1, τ1 = cpM σ a1_places 0 t_places 0 n_t_places → (Cp N Λ a1_facts t_facts 0 0 0 n_t_facts ∧ (∀ τ2, τ2 = cpM τ1 a1_facts 0 t_facts 0 n_t_facts → P τ2))))) ∧ (¬ (6 ≤ x2) → (Ix N Λ t_shelves 3 x2 ∧ (∀ b3, b3 = (Λ t_shelves).2.2 x2 → (Ob N Λ b3 15 3 ∧ (Ix N Λ a1_shelves 3 x2 ∧ (∀ b4, b4 = (Λ a1_shelves).2.2 x2 → (Ob N Λ b4 15 3 ∧ (CV l mX5_take (d - 1) [(2, b3), (2, b4)] N Λ σ (fun σ5 => (∀ y6, y6 = addI x2 1 → WV l mX7_take d P 2 [(2, t), (2, a1), (0, y6)] [] N Λ σ5)))))))))))) :
    WV l mX7_take d P 2 [(2, t), (2, a1), (0, x2)] [] N Λ σ := by
  have hd_1 : 1 ≤ d := Nat.le_trans (by decide) h0d
  refine r_iload_n (x := x2) d_X7_take_2 rfl ?_
  refine r_bipush (x := 6) d_X7_take_3 ⟨by decide, by decide⟩ (by decide) ?_
  refine r_ic_ge (tgt := 29) d_X7_take_5 rfl (fun hc => ?_) (fun hc => ?_)
  · have h := h.1 hc
    refine r_aload_n (x := a1) d_X7_take_29 rfl o_a1.1 ?_
    refine r_getf (j := 1) (t := 2) (x := a1_places) d_X7_take_30 kX7 (by decide) fl_X7_17 o_a1.1 o_a1.2.1 o_a1.2.2.1 o_a1.2.2.2 rfl f_a1_places ?_
    refine r_iconst (x := 0) d_X7_take_33 ⟨by decide, by decide⟩ ?_
    refine r_aload_n (x := t) d_X7_take_34 rfl o_t.1 ?_
    refine r_getf (j := 1) (t := 2) (x := t_places) d_X7_take_35 kX7 (by decide) fl_X7_17 o_t.1 o_t.2.1 o_t.2.2.1 o_t.2.2.2 rfl f_t_places ?_
    refine r_iconst (x := 0) d_X7_take_38 ⟨by decide, by decide⟩ ?_
    refine r_aload_n (x := t) d_X7_take_39 rfl o_t.1 ?_
    refine r_getf (j := 1) (t := 2) (x := t_places) d_X7_take_40 kX7 (by decide) fl_X7_17 o_t.1 o_t.2.1 o_t.2.2.1 o_t.2.2.2 rfl f_t_places ?_
    refine r_alen (len := n_t_places) d_X7_take_43 q_t_places.1.1 q_t_places.1.2.1 (by rw [q_t_places.1.2.2.1]; decide) q_t_places.1.2.2.2 q_t_places.2.1 q_t_places.2.2 ?_
    refine x_acp0 d_X7_take_44 ml_X7_35 hd_1 (Nat.le_of_ble_eq_true rfl) h.1 ?_
    have h := h.2
    refine r_nmM (fun τ1 eτ1 => ?_)
    have h := h τ1 eτ1
    refine r_aload_n (x := a1) d_X7_take_47 rfl o_a1.1 ?_
    refine r_getf (j := 2) (t := 2) (x := a1_facts) d_X7_take_48 kX7 (by decide) fl_X7_21 o_a1.1 o_a1.2.1 o_a1.2.2.1 o_a1.2.2.2 rfl f_a1_facts ?_
    refine r_iconst (x := 0) d_X7_take_51 ⟨by decide, by decide⟩ ?_
    refine r_aload_n (x := t) d_X7_take_52 rfl o_t.1 ?_
    refine r_getf (j := 2) (t := 2) (x := t_facts) d_X7_take_53 kX7 (by decide) fl_X7_21 o_t.1 o_t.2.1 o_t.2.2.1 o_t.2.2.2 rfl f_t_facts ?_
    refine r_iconst (x := 0) d_X7_take_56 ⟨by decide, by decide⟩ ?_
    refine r_aload_n (x := t) d_X7_take_57 rfl o_t.1 ?_
    refine r_getf (j := 2) (t := 2) (x := t_facts) d_X7_take_58 kX7 (by decide) fl_X7_21 o_t.1 o_t.2.1 o_t.2.2.1 o_t.2.2.2 rfl f_t_facts ?_
    refine r_alen (len := n_t_facts) d_X7_take_61 q_t_facts.1.1 q_t_facts.1.2.1 (by rw [q_t_facts.1.2.2.1]; decide) q_t_facts.1.2.2.2 q_t_facts.2.1 q_t_facts.2.2 ?_
    refine x_acp0 d_X7_take_62 ml_X7_35 hd_1 (Nat.le_of_ble_eq_true rfl) h.1 ?_
    have h := h.2
    refine r_nmM (fun τ2 eτ2 => ?_)
    have h := h τ2 eτ2
    exact r_vret d_X7_take_65 rfl (Nat.le_refl 0) (Nat.le_refl 0) ⟨rfl, rfl, rfl, h⟩
  · have h := h.2 hc
    refine r_aload_n (x := t) d_X7_take_8 rfl o_t.1 ?_
    refine r_getf (j := 0) (t := 2) (x := t_shelves) d_X7_take_9 kX7 (by decide) fl_X7_11 o_t.1 o_t.2.1 o_t.2.2.1 o_t.2.2.2 rfl f_t_shelves ?_
    refine r_iload_n (x := x2) d_X7_take_12 rfl ?_
    refine x_aald (t := 3) (by decide) d_X7_take_13 h.1 (fun b3 eb3 => ?_)
    have h := h.2 b3 eb3
    have oob3 := h.1
    have h := h.2
    refine r_aload_n (x := a1) d_X7_take_14 rfl o_a1.1 ?_
    refine r_getf (j := 0) (t := 2) (x := a1_shelves) d_X7_take_15 kX7 (by decide) fl_X7_11 o_a1.1 o_a1.2.1 o_a1.2.2.1 o_a1.2.2.2 rfl f_a1_shelves ?_
    refine r_iload_n (x := x2) d_X7_take_18 rfl ?_
    refine x_aald (t := 3) (by decide) d_X7_take_19 h.1 (fun b4 eb4 => ?_)
    have h := h.2 b4 eb4
    have oob4 := h.1
    have h := h.2
    refine x_callVV (Y2 := mX5_take) (c := b3) (As := [(2, b4)]) (S := []) d_X7_take_20 ok_mX5_take ml_X7_31 rfl (Nat.le_of_ble_eq_true rfl) (Nat.le_of_ble_eq_true rfl) rfl hd_1 kX5 oob3 (CV.mono h (fun σ5 h => ?_))
    refine x_iinc (x := x2) (L := [(2, t), (2, a1), (0, x2)]) d_X7_take_23 rfl (by decide) rfl (fun y6 ey6 => ?_)
    have h := h y6 ey6
    show WP _ _ _ _ _ _ _ _ [(2, t), (2, a1), (0, y6)] _ _ _ _
    refine r_goto (tgt := 2) d_X7_take_26 rfl ?_
    exact h
theorem v_J9_min_7cf53_0 {l : Launch} {d N : Nat} {Λ : Lay} {P : Int → Mem → Prop} {σ : Mem} {x0 x1 : Int}
    (h : ((x1 < x0 → P x1 σ) ∧ (¬ (x1 < x0) → P x0 σ))) :
    WI l mJ9_min_7cf53 d P 0 [(0, x0), (0, x1)] [] N Λ σ := by
  refine r_iload_n (x := x0) d_J9_min_7cf53_0 rfl ?_
  refine r_iload_n (x := x1) d_J9_min_7cf53_1 rfl ?_
  refine r_ic_gt (tgt := 9) d_J9_min_7cf53_2 rfl (fun hc => ?_) (fun hc => ?_)
  · have h := h.1 hc
    refine r_iload_n (x := x1) d_J9_min_7cf53_9 rfl ?_
    exact r_iret d_J9_min_7cf53_10 rfl rfl (Nat.le_refl 0) (Nat.le_refl 0) ⟨_, rfl, rfl, rfl, h⟩
  · have h := h.2 hc
    refine r_iload_n (x := x0) d_J9_min_7cf53_5 rfl ?_
    refine r_goto (tgt := 10) d_J9_min_7cf53_6 rfl ?_
    exact r_iret d_J9_min_7cf53_10 rfl rfl (Nat.le_refl 0) (Nat.le_refl 0) ⟨_, rfl, rfl, rfl, h⟩
theorem v_X4_keep_0 {l : Launch} {d N : Nat} {Λ : Lay} {P : Mem → Prop} {σ : Mem} {a1 t t_kept : Int} (o_t : Ob N Λ t 14 3) (f_t_kept : (Λ t).2.2 1 = t_kept) (o_a1 : Ob N Λ a1 16 3) (h0d : 1 ≤ d)
    (h : (Ix N Λ t_kept 4 (σ t 2) ∧ (∀ b1, b1 = (Λ t_kept).2.2 (σ t 2) → (Ob N Λ b1 16 3 ∧ (CV l mX7_take (d - 1) [(2, b1), (2, a1)] N Λ σ (fun σ2 => (∀ τ3, τ3 = st σ2 t 2 (remI (addI (σ2 t 2) 1) 10) → ((10 < (addI (τ3 t 0) 1) → (∀ τ4, τ4 = st τ3 t 0 10 → P τ4)) ∧ (¬ (10 < (addI (τ3 t 0) 1)) → (∀ τ5, τ5 = st τ3 t 0 (addI (τ3 t 0) 1) → P τ5)))))))))) :
    WV l mX4_keep d P 0 [(2, t), (2, a1)] [] N Λ σ := by
  have hd_1 : 1 ≤ d := Nat.le_trans (by decide) h0d
  refine r_aload_n (x := t) d_X4_keep_0 rfl o_t.1 ?_
  refine r_getf (j := 1) (t := 2) (x := t_kept) d_X4_keep_1 kX4 (by decide) fl_X4_17 o_t.1 o_t.2.1 o_t.2.2.1 o_t.2.2.2 rfl f_t_kept ?_
  refine r_aload_n (x := t) d_X4_keep_4 rfl o_t.1 ?_
  refine r_getf (j := 2) (t := 0) (x := (σ t 2)) d_X4_keep_5 kX4 (by decide) fl_X4_21 o_t.1 o_t.2.1 o_t.2.2.1 o_t.2.2.2 rfl rfl ?_
  refine x_aald (t := 4) (by decide) d_X4_keep_8 h.1 (fun b1 eb1 => ?_)
  have h := h.2 b1 eb1
  have oob1 := h.1
  have h := h.2
  refine r_aload_n (x := a1) d_X4_keep_9 rfl o_a1.1 ?_
  refine x_callVV (Y2 := mX7_take) (c := b1) (As := [(2, a1)]) (S := []) d_X4_keep_10 ok_mX7_take ml_X4_25 rfl (Nat.le_of_ble_eq_true rfl) (Nat.le_of_ble_eq_true rfl) rfl hd_1 kX7 oob1 (CV.mono h (fun σ2 h => ?_))
  refine r_aload_n (x := t) d_X4_keep_13 rfl o_t.1 ?_
  refine r_aload_n (x := t) d_X4_keep_14 rfl o_t.1 ?_
  refine r_getf (j := 2) (t := 0) (x := (σ2 t 2)) d_X4_keep_15 kX4 (by decide) fl_X4_21 o_t.1 o_t.2.1 o_t.2.2.1 o_t.2.2.2 rfl rfl ?_
  refine r_iconst (x := 1) d_X4_keep_18 ⟨by decide, by decide⟩ ?_
  refine r_iadd d_X4_keep_19 ?_
  refine r_bipush (x := 10) d_X4_keep_20 ⟨by decide, by decide⟩ (by decide) ?_
  refine r_irem d_X4_keep_22 (by decide) ?_
  refine r_putI (j := 2) d_X4_keep_23 kX4 (by decide) fl_X4_21 rfl o_t.1 o_t.2.1 o_t.2.2.1 o_t.2.2.2 rfl ?_
  refine r_nmM (fun τ3 eτ3 => ?_)
  have h := h τ3 eτ3
  refine r_aload_n (x := t) d_X4_keep_26 rfl o_t.1 ?_
  refine r_aload_n (x := t) d_X4_keep_27 rfl o_t.1 ?_
  refine r_getf (j := 0) (t := 0) (x := (τ3 t 0)) d_X4_keep_28 kX4 (by decide) fl_X4_9 o_t.1 o_t.2.1 o_t.2.2.1 o_t.2.2.2 rfl rfl ?_
  refine r_iconst (x := 1) d_X4_keep_31 ⟨by decide, by decide⟩ ?_
  refine r_iadd d_X4_keep_32 ?_
  refine r_bipush (x := 10) d_X4_keep_33 ⟨by decide, by decide⟩ (by decide) ?_
  refine x_callSI (Y2 := mJ9_min_7cf53) (As := [(0, (addI (τ3 t 0) 1)), (0, 10)]) (S := [(2, t)]) d_X4_keep_35 ok_mJ9_min_7cf53 ml_X4_29 rfl (Nat.le_of_ble_eq_true rfl) (Nat.le_of_ble_eq_true rfl) rfl hd_1 (c_J9_min_7cf53 (v_J9_min_7cf53_0 ?_))
  refine ⟨fun hc => ?_, fun hc => ?_⟩
  · have h := h.1 hc
    show WP l mX4_keep (rm d 0 0) noX _ 0 0 38 [(2, t), (2, a1)] [(0, 10), (2, t)] N Λ τ3
    refine r_putI (j := 0) d_X4_keep_38 kX4 (by decide) fl_X4_9 rfl o_t.1 o_t.2.1 o_t.2.2.1 o_t.2.2.2 rfl ?_
    refine r_nmM (fun τ4 eτ4 => ?_)
    have h := h τ4 eτ4
    exact r_vret d_X4_keep_41 rfl (Nat.le_refl 0) (Nat.le_refl 0) ⟨rfl, rfl, rfl, h⟩
  · have h := h.2 hc
    show WP l mX4_keep (rm d 0 0) noX _ 0 0 38 [(2, t), (2, a1)] [(0, (addI (τ3 t 0) 1)), (2, t)] N Λ τ3
    refine r_putI (j := 0) d_X4_keep_38 kX4 (by decide) fl_X4_9 rfl o_t.1 o_t.2.1 o_t.2.2.1 o_t.2.2.2 rfl ?_
    refine r_nmM (fun τ5 eτ5 => ?_)
    have h := h τ5 eτ5
    exact r_vret d_X4_keep_41 rfl (Nat.le_refl 0) (Nat.le_refl 0) ⟨rfl, rfl, rfl, h⟩
theorem v_X4_goBack_0 {l : Launch} {d N : Nat} {Λ : Lay} {P : Mem → Prop} {σ : Mem} {x1 a2 t t_kept : Int} (o_t : Ob N Λ t 14 3) (o_a2 : Ob N Λ a2 16 3) (f_t_kept : (Λ t).2.2 1 = t_kept) (h0d : 1 ≤ d)
    (h : (¬ (10 : Int) = 0 ∧ (∀ y1, y1 = (remI (subI (σ t 2) x1) 10) → ((0 ≤ (xorI (subI (σ t 2) x1) 10) → (∀ τ2, τ2 = st σ t 2 y1 → (∀ τ3, τ3 = st τ2 t 0 (subI (τ2 t 0) x1) → (Ix N Λ t_kept 4 (τ3 t 2) ∧ (∀ b4, b4 = (Λ t_kept).2.2 (τ3 t 2) → (Ob N Λ b4 16 3 ∧ (CV l mX7_take (d - 1) [(2, a2), (2, b4)] N Λ τ3 (fun σ5 => P σ5)))))))) ∧ (¬ (0 ≤ (xorI (subI (σ t 2) x1) 10)) → ((y1 = 0 → (∀ τ6, τ6 = st σ t 2 y1 → (∀ τ7, τ7 = st τ6 t 0 (subI (τ6 t 0) x1) → (Ix N Λ t_kept 4 (τ7 t 2) ∧ (∀ b8, b8 = (Λ t_kept).2.2 (τ7 t 2) → (Ob N Λ b8 16 3 ∧ (CV l mX7_take (d - 1) [(2, a2), (2, b8)] N Λ τ7 (fun σ9 => P σ9)))))))) ∧ (¬ (y1 = 0) → (∀ τ10, τ10 = st σ t 2 (addI y1 10) → (∀ τ11, τ11 = st τ10 t 0 (subI (τ10 t 0) x1) → (Ix N Λ t_kept 4 (τ11 t 2) ∧ (∀ b12, b12 = (Λ t_kept).2.2 (τ11 t 2) → (Ob N Λ b12 16 3 ∧ (CV l mX7_take (d - 1) [(2, a2), (2, b12)] N Λ τ11 (fun σ13 => P σ13)))))))))))))) :
    WV l mX4_goBack d P 0 [(2, t), (0, x1), (2, a2)] [] N Λ σ := by
  have hd_1 : 1 ≤ d := Nat.le_trans (by decide) h0d
  refine r_aload_n (x := t) d_X4_goBack_0 rfl o_t.1 ?_
  refine r_aload_n (x := t) d_X4_goBack_1 rfl o_t.1 ?_
  refine r_getf (j := 2) (t := 0) (x := (σ t 2)) d_X4_goBack_2 kX4 (by decide) fl_X4_21 o_t.1 o_t.2.1 o_t.2.2.1 o_t.2.2.2 rfl rfl ?_
  refine r_iload_n (x := x1) d_X4_goBack_5 rfl ?_
  refine r_isub d_X4_goBack_6 ?_
  refine r_bipush (x := 10) d_X4_goBack_7 ⟨by decide, by decide⟩ (by decide) ?_
  refine x_callSI (Y2 := mJ9_floorMod_7cf53) (As := [(0, (subI (σ t 2) x1)), (0, 10)]) (S := [(2, t)]) d_X4_goBack_9 ok_mJ9_floorMod_7cf53 ml_X4_35 rfl (Nat.le_of_ble_eq_true rfl) (Nat.le_of_ble_eq_true rfl) rfl hd_1 (c_J9_floorMod_7cf53 (v_J9_floorMod_7cf53_0 ?_))
  refine ⟨h.1, ?_⟩
  have h := h.2
  intro y1 ey1
  have h := h y1 ey1
  refine ⟨fun hc => ?_, fun hc => ?_⟩
  · have h := h.1 hc
    show WP l mX4_goBack (rm d 0 0) noX _ 0 0 12 [(2, t), (0, x1), (2, a2)] [(0, y1), (2, t)] N Λ σ
    refine r_putI (j := 2) d_X4_goBack_12 kX4 (by decide) fl_X4_21 rfl o_t.1 o_t.2.1 o_t.2.2.1 o_t.2.2.2 rfl ?_
    refine r_nmM (fun τ2 eτ2 => ?_)
    have h := h τ2 eτ2
    refine r_aload_n (x := t) d_X4_goBack_15 rfl o_t.1 ?_
    refine r_dup d_X4_goBack_16 rfl ?_
    refine r_getf (j := 0) (t := 0) (x := (τ2 t 0)) d_X4_goBack_17 kX4 (by decide) fl_X4_9 o_t.1 o_t.2.1 o_t.2.2.1 o_t.2.2.2 rfl rfl ?_
    refine r_iload_n (x := x1) d_X4_goBack_20 rfl ?_
    refine r_isub d_X4_goBack_21 ?_
    refine r_putI (j := 0) d_X4_goBack_22 kX4 (by decide) fl_X4_9 rfl o_t.1 o_t.2.1 o_t.2.2.1 o_t.2.2.2 rfl ?_
    refine r_nmM (fun τ3 eτ3 => ?_)
    have h := h τ3 eτ3
    refine r_aload_n (x := a2) d_X4_goBack_25 rfl o_a2.1 ?_
    refine r_aload_n (x := t) d_X4_goBack_26 rfl o_t.1 ?_
    refine r_getf (j := 1) (t := 2) (x := t_kept) d_X4_goBack_27 kX4 (by decide) fl_X4_17 o_t.1 o_t.2.1 o_t.2.2.1 o_t.2.2.2 rfl f_t_kept ?_
    refine r_aload_n (x := t) d_X4_goBack_30 rfl o_t.1 ?_
    refine r_getf (j := 2) (t := 0) (x := (τ3 t 2)) d_X4_goBack_31 kX4 (by decide) fl_X4_21 o_t.1 o_t.2.1 o_t.2.2.1 o_t.2.2.2 rfl rfl ?_
    refine x_aald (t := 4) (by decide) d_X4_goBack_34 h.1 (fun b4 eb4 => ?_)
    have h := h.2 b4 eb4
    have oob4 := h.1
    have h := h.2
    refine x_callVV (Y2 := mX7_take) (c := a2) (As := [(2, b4)]) (S := []) d_X4_goBack_35 ok_mX7_take ml_X4_25 rfl (Nat.le_of_ble_eq_true rfl) (Nat.le_of_ble_eq_true rfl) rfl hd_1 kX7 o_a2 (CV.mono h (fun σ5 h => ?_))
    exact r_vret d_X4_goBack_38 rfl (Nat.le_refl 0) (Nat.le_refl 0) ⟨rfl, rfl, rfl, h⟩
  · have h := h.2 hc
    refine ⟨fun hc => ?_, fun hc => ?_⟩
    · have h := h.1 hc
      show WP l mX4_goBack (rm d 0 0) noX _ 0 0 12 [(2, t), (0, x1), (2, a2)] [(0, y1), (2, t)] N Λ σ
      refine r_putI (j := 2) d_X4_goBack_12 kX4 (by decide) fl_X4_21 rfl o_t.1 o_t.2.1 o_t.2.2.1 o_t.2.2.2 rfl ?_
      refine r_nmM (fun τ6 eτ6 => ?_)
      have h := h τ6 eτ6
      refine r_aload_n (x := t) d_X4_goBack_15 rfl o_t.1 ?_
      refine r_dup d_X4_goBack_16 rfl ?_
      refine r_getf (j := 0) (t := 0) (x := (τ6 t 0)) d_X4_goBack_17 kX4 (by decide) fl_X4_9 o_t.1 o_t.2.1 o_t.2.2.1 o_t.2.2.2 rfl rfl ?_
      refine r_iload_n (x := x1) d_X4_goBack_20 rfl ?_
      refine r_isub d_X4_goBack_21 ?_
      refine r_putI (j := 0) d_X4_goBack_22 kX4 (by decide) fl_X4_9 rfl o_t.1 o_t.2.1 o_t.2.2.1 o_t.2.2.2 rfl ?_
      refine r_nmM (fun τ7 eτ7 => ?_)
      have h := h τ7 eτ7
      refine r_aload_n (x := a2) d_X4_goBack_25 rfl o_a2.1 ?_
      refine r_aload_n (x := t) d_X4_goBack_26 rfl o_t.1 ?_
      refine r_getf (j := 1) (t := 2) (x := t_kept) d_X4_goBack_27 kX4 (by decide) fl_X4_17 o_t.1 o_t.2.1 o_t.2.2.1 o_t.2.2.2 rfl f_t_kept ?_
      refine r_aload_n (x := t) d_X4_goBack_30 rfl o_t.1 ?_
      refine r_getf (j := 2) (t := 0) (x := (τ7 t 2)) d_X4_goBack_31 kX4 (by decide) fl_X4_21 o_t.1 o_t.2.1 o_t.2.2.1 o_t.2.2.2 rfl rfl ?_
      refine x_aald (t := 4) (by decide) d_X4_goBack_34 h.1 (fun b8 eb8 => ?_)
      have h := h.2 b8 eb8
      have oob8 := h.1
      have h := h.2
      refine x_callVV (Y2 := mX7_take) (c := a2) (As := [(2, b8)]) (S := []) d_X4_goBack_35 ok_mX7_take ml_X4_25 rfl (Nat.le_of_ble_eq_true rfl) (Nat.le_of_ble_eq_true rfl) rfl hd_1 kX7 o_a2 (CV.mono h (fun σ9 h => ?_))
      exact r_vret d_X4_goBack_38 rfl (Nat.le_refl 0) (Nat.le_refl 0) ⟨rfl, rfl, rfl, h⟩
    · have h := h.2 hc
      show WP l mX4_goBack (rm d 0 0) noX _ 0 0 12 [(2, t), (0, x1), (2, a2)] [(0, (addI y1 10)), (2, t)] N Λ σ
      refine r_putI (j := 2) d_X4_goBack_12 kX4 (by decide) fl_X4_21 rfl o_t.1 o_t.2.1 o_t.2.2.1 o_t.2.2.2 rfl ?_
      refine r_nmM (fun τ10 eτ10 => ?_)
      have h := h τ10 eτ10
      refine r_aload_n (x := t) d_X4_goBack_15 rfl o_t.1 ?_
      refine r_dup d_X4_goBack_16 rfl ?_
      refine r_getf (j := 0) (t := 0) (x := (τ10 t 0)) d_X4_goBack_17 kX4 (by decide) fl_X4_9 o_t.1 o_t.2.1 o_t.2.2.1 o_t.2.2.2 rfl rfl ?_
      refine r_iload_n (x := x1) d_X4_goBack_20 rfl ?_
      refine r_isub d_X4_goBack_21 ?_
      refine r_putI (j := 0) d_X4_goBack_22 kX4 (by decide) fl_X4_9 rfl o_t.1 o_t.2.1 o_t.2.2.1 o_t.2.2.2 rfl ?_
      refine r_nmM (fun τ11 eτ11 => ?_)
      have h := h τ11 eτ11
      refine r_aload_n (x := a2) d_X4_goBack_25 rfl o_a2.1 ?_
      refine r_aload_n (x := t) d_X4_goBack_26 rfl o_t.1 ?_
      refine r_getf (j := 1) (t := 2) (x := t_kept) d_X4_goBack_27 kX4 (by decide) fl_X4_17 o_t.1 o_t.2.1 o_t.2.2.1 o_t.2.2.2 rfl f_t_kept ?_
      refine r_aload_n (x := t) d_X4_goBack_30 rfl o_t.1 ?_
      refine r_getf (j := 2) (t := 0) (x := (τ11 t 2)) d_X4_goBack_31 kX4 (by decide) fl_X4_21 o_t.1 o_t.2.1 o_t.2.2.1 o_t.2.2.2 rfl rfl ?_
      refine x_aald (t := 4) (by decide) d_X4_goBack_34 h.1 (fun b12 eb12 => ?_)
      have h := h.2 b12 eb12
      have oob12 := h.1
      have h := h.2
      refine x_callVV (Y2 := mX7_take) (c := a2) (As := [(2, b12)]) (S := []) d_X4_goBack_35 ok_mX7_take ml_X4_25 rfl (Nat.le_of_ble_eq_true rfl) (Nat.le_of_ble_eq_true rfl) rfl hd_1 kX7 o_a2 (CV.mono h (fun σ13 h => ?_))
      exact r_vret d_X4_goBack_38 rfl (Nat.le_refl 0) (Nat.le_refl 0) ⟨rfl, rfl, rfl, h⟩
theorem v_X4_forget_0 {l : Launch} {d N : Nat} {Λ : Lay} {P : Mem → Prop} {σ : Mem} {t : Int} (o_t : Ob N Λ t 14 3)
    (h : (∀ τ1, τ1 = st σ t 0 0 → P τ1)) :
    WV l mX4_forget d P 0 [(2, t)] [] N Λ σ := by
  refine r_aload_n (x := t) d_X4_forget_0 rfl o_t.1 ?_
  refine r_iconst (x := 0) d_X4_forget_1 ⟨by decide, by decide⟩ ?_
  refine r_putI (j := 0) d_X4_forget_2 kX4 (by decide) fl_X4_9 rfl o_t.1 o_t.2.1 o_t.2.2.1 o_t.2.2.2 rfl ?_
  refine r_nmM (fun τ1 eτ1 => ?_)
  have h := h τ1 eτ1
  exact r_vret d_X4_forget_5 rfl (Nat.le_refl 0) (Nat.le_refl 0) ⟨rfl, rfl, rfl, h⟩
theorem v_X5_isLike_0 {l : Launch} {d N : Nat} {Λ : Lay} {P : Int → Mem → Prop} {σ : Mem} {a1 t : Int} (o_t : Ob N Λ t 15 3) (o_a1 : Ob N Λ a1 15 3)
    (h : (((σ t 2) = (σ a1 2) → WI l mX5_isLike d P 15 [(2, t), (2, a1), (0, 0)] [] N Λ σ) ∧ (¬ ((σ t 2) = (σ a1 2)) → P 0 σ))) :
    WI l mX5_isLike d P 0 [(2, t), (2, a1), (3, 0)] [] N Λ σ := by
  refine r_aload_n (x := t) d_X5_isLike_0 rfl o_t.1 ?_
  refine r_getf (j := 2) (t := 0) (x := (σ t 2)) d_X5_isLike_1 kX5 (by decide) fl_X5_19 o_t.1 o_t.2.1 o_t.2.2.1 o_t.2.2.2 rfl rfl ?_
  refine r_aload_n (x := a1) d_X5_isLike_4 rfl o_a1.1 ?_
  refine r_getf (j := 2) (t := 0) (x := (σ a1 2)) d_X5_isLike_5 kX5 (by decide) fl_X5_19 o_a1.1 o_a1.2.1 o_a1.2.2.1 o_a1.2.2.2 rfl rfl ?_
  refine r_ic_eq (tgt := 13) d_X5_isLike_8 rfl (fun hc => ?_) (fun hc => ?_)
  · have h := h.1 hc
    refine r_iconst (x := 0) d_X5_isLike_13 ⟨by decide, by decide⟩ ?_
    refine r_istore_n (L2 := [(2, t), (2, a1), (0, 0)]) d_X5_isLike_14 (by decide) rfl rfl ?_
    exact h
  · have h := h.2 hc
    refine r_iconst (x := 0) d_X5_isLike_11 ⟨by decide, by decide⟩ ?_
    exact r_iret d_X5_isLike_12 rfl (by decide) (Nat.le_refl 0) (Nat.le_refl 0) ⟨_, rfl, rfl, rfl, h⟩
theorem v_X5_isLike_15 {l : Launch} {d N : Nat} {Λ : Lay} {P : Int → Mem → Prop} {σ : Mem} {x2 a1 a1_keys a1_numbers t t_keys t_numbers : Int} (o_t : Ob N Λ t 15 3) (f_t_keys : (Λ t).2.2 0 = t_keys) (o_a1 : Ob N Λ a1 15 3) (f_a1_keys : (Λ a1).2.2 0 = a1_keys) (f_t_numbers : (Λ t).2.2 1 = t_numbers) (f_a1_numbers : (Λ a1).2.2 1 = a1_numbers)
    (h : (((σ t 2) ≤ x2 → P 1 σ) ∧ (¬ ((σ t 2) ≤ x2) → (Ix N Λ t_keys 1 x2 ∧ (Ix N Λ a1_keys 1 x2 ∧ ((¬ (cmpL (σ t_keys x2) (σ a1_keys x2)) = 0 → P 0 σ) ∧ ((cmpL (σ t_keys x2) (σ a1_keys x2)) = 0 → (Ix N Λ t_numbers 0 x2 ∧ (Ix N Λ a1_numbers 0 x2 ∧ (((σ t_numbers x2) = (σ a1_numbers x2) → (∀ y1, y1 = addI x2 1 → WI l mX5_isLike d P 15 [(2, t), (2, a1), (0, y1)] [] N Λ σ)) ∧ (¬ ((σ t_numbers x2) = (σ a1_numbers x2)) → P 0 σ))))))))))) :
    WI l mX5_isLike d P 15 [(2, t), (2, a1), (0, x2)] [] N Λ σ := by
  refine r_iload_n (x := x2) d_X5_isLike_15 rfl ?_
  refine r_aload_n (x := t) d_X5_isLike_16 rfl o_t.1 ?_
  refine r_getf (j := 2) (t := 0) (x := (σ t 2)) d_X5_isLike_17 kX5 (by decide) fl_X5_19 o_t.1 o_t.2.1 o_t.2.2.1 o_t.2.2.2 rfl rfl ?_
  refine r_ic_ge (tgt := 62) d_X5_isLike_20 rfl (fun hc => ?_) (fun hc => ?_)
  · have h := h.1 hc
    refine r_iconst (x := 1) d_X5_isLike_62 ⟨by decide, by decide⟩ ?_
    exact r_iret d_X5_isLike_63 rfl (by decide) (Nat.le_refl 0) (Nat.le_refl 0) ⟨_, rfl, rfl, rfl, h⟩
  · have h := h.2 hc
    refine r_aload_n (x := t) d_X5_isLike_23 rfl o_t.1 ?_
    refine r_getf (j := 0) (t := 2) (x := t_keys) d_X5_isLike_24 kX5 (by decide) fl_X5_9 o_t.1 o_t.2.1 o_t.2.2.1 o_t.2.2.2 rfl f_t_keys ?_
    refine r_iload_n (x := x2) d_X5_isLike_27 rfl ?_
    refine x_lald d_X5_isLike_28 h.1 ?_
    have h := h.2
    refine r_aload_n (x := a1) d_X5_isLike_29 rfl o_a1.1 ?_
    refine r_getf (j := 0) (t := 2) (x := a1_keys) d_X5_isLike_30 kX5 (by decide) fl_X5_9 o_a1.1 o_a1.2.1 o_a1.2.2.1 o_a1.2.2.2 rfl f_a1_keys ?_
    refine r_iload_n (x := x2) d_X5_isLike_33 rfl ?_
    refine x_lald d_X5_isLike_34 h.1 ?_
    have h := h.2
    refine r_lcmp d_X5_isLike_35 ?_
    refine r_if_ne (tgt := 54) d_X5_isLike_36 rfl (fun hc => ?_) (fun hc => ?_)
    · have h := h.1 hc
      refine r_iconst (x := 0) d_X5_isLike_54 ⟨by decide, by decide⟩ ?_
      exact r_iret d_X5_isLike_55 rfl (by decide) (Nat.le_refl 0) (Nat.le_refl 0) ⟨_, rfl, rfl, rfl, h⟩
    · have h := h.2 hc
      refine r_aload_n (x := t) d_X5_isLike_39 rfl o_t.1 ?_
      refine r_getf (j := 1) (t := 2) (x := t_numbers) d_X5_isLike_40 kX5 (by decide) fl_X5_15 o_t.1 o_t.2.1 o_t.2.2.1 o_t.2.2.2 rfl f_t_numbers ?_
      refine r_iload_n (x := x2) d_X5_isLike_43 rfl ?_
      refine x_iald d_X5_isLike_44 h.1 ?_
      have h := h.2
      refine r_aload_n (x := a1) d_X5_isLike_45 rfl o_a1.1 ?_
      refine r_getf (j := 1) (t := 2) (x := a1_numbers) d_X5_isLike_46 kX5 (by decide) fl_X5_15 o_a1.1 o_a1.2.1 o_a1.2.2.1 o_a1.2.2.2 rfl f_a1_numbers ?_
      refine r_iload_n (x := x2) d_X5_isLike_49 rfl ?_
      refine x_iald d_X5_isLike_50 h.1 ?_
      have h := h.2
      refine r_ic_eq (tgt := 56) d_X5_isLike_51 rfl (fun hc => ?_) (fun hc => ?_)
      · have h := h.1 hc
        refine x_iinc (x := x2) (L := [(2, t), (2, a1), (0, x2)]) d_X5_isLike_56 rfl (by decide) rfl (fun y1 ey1 => ?_)
        have h := h y1 ey1
        show WP _ _ _ _ _ _ _ _ [(2, t), (2, a1), (0, y1)] _ _ _ _
        refine r_goto (tgt := 15) d_X5_isLike_59 rfl ?_
        exact h
      · have h := h.2 hc
        refine r_iconst (x := 0) d_X5_isLike_54 ⟨by decide, by decide⟩ ?_
        exact r_iret d_X5_isLike_55 rfl (by decide) (Nat.le_refl 0) (Nat.le_refl 0) ⟨_, rfl, rfl, rfl, h⟩
theorem v_X6_indexOf_0 {l : Launch} {d N : Nat} {Λ : Lay} {P : Int → Mem → Prop} {σ : Mem} {x0 : Int} (h0d : 1 ≤ d)
    (h : (∀ y1, y1 = (andI (shrI x0 (mulI 4 (subI 2 0))) 15) → (∀ y2, y2 = (andI (shrI x0 (mulI 4 (subI 2 1))) 15) → (∀ y3, y3 = (andI (shrI x0 (mulI 4 (subI 2 2))) 15) → P (addI (addI (divI (mulI (mulI y3 (subI y3 1)) (subI y3 2)) 6) (divI (mulI y2 (subI y2 1)) 2)) y1) σ)))) :
    WI l mX6_indexOf d P 0 [(0, x0), (3, 0), (3, 0), (3, 0)] [] N Λ σ := by
  have hd_1 : 1 ≤ d := Nat.le_trans (by decide) h0d
  refine r_iload_n (x := x0) d_X6_indexOf_0 rfl ?_
  refine r_iconst (x := 0) d_X6_indexOf_1 ⟨by decide, by decide⟩ ?_
  refine x_callSI (Y2 := mX6_letter) (As := [(0, x0), (0, 0)]) (S := []) d_X6_indexOf_2 ok_mX6_letter ml_X6_9 rfl (Nat.le_of_ble_eq_true rfl) (Nat.le_of_ble_eq_true rfl) rfl hd_1 (c_X6_letter (v_X6_letter_0 ?_))
  show WP l mX6_indexOf (rm d 0 0) noX _ 0 0 5 [(0, x0), (3, 0), (3, 0), (3, 0)] [(0, (andI (shrI x0 (mulI 4 (subI 2 0))) 15))] N Λ σ
  refine r_nm (fun y1 ey1 => ?_)
  have h := h y1 ey1
  refine r_istore_n (L2 := [(0, x0), (0, y1), (3, 0), (3, 0)]) d_X6_indexOf_5 (by decide) rfl rfl ?_
  refine r_iload_n (x := x0) d_X6_indexOf_6 rfl ?_
  refine r_iconst (x := 1) d_X6_indexOf_7 ⟨by decide, by decide⟩ ?_
  refine x_callSI (Y2 := mX6_letter) (As := [(0, x0), (0, 1)]) (S := []) d_X6_indexOf_8 ok_mX6_letter ml_X6_9 rfl (Nat.le_of_ble_eq_true rfl) (Nat.le_of_ble_eq_true rfl) rfl hd_1 (c_X6_letter (v_X6_letter_0 ?_))
  show WP l mX6_indexOf (rm d 0 0) noX _ 0 0 11 [(0, x0), (0, y1), (3, 0), (3, 0)] [(0, (andI (shrI x0 (mulI 4 (subI 2 1))) 15))] N Λ σ
  refine r_nm (fun y2 ey2 => ?_)
  have h := h y2 ey2
  refine r_istore_n (L2 := [(0, x0), (0, y1), (0, y2), (3, 0)]) d_X6_indexOf_11 (by decide) rfl rfl ?_
  refine r_iload_n (x := x0) d_X6_indexOf_12 rfl ?_
  refine r_iconst (x := 2) d_X6_indexOf_13 ⟨by decide, by decide⟩ ?_
  refine x_callSI (Y2 := mX6_letter) (As := [(0, x0), (0, 2)]) (S := []) d_X6_indexOf_14 ok_mX6_letter ml_X6_9 rfl (Nat.le_of_ble_eq_true rfl) (Nat.le_of_ble_eq_true rfl) rfl hd_1 (c_X6_letter (v_X6_letter_0 ?_))
  show WP l mX6_indexOf (rm d 0 0) noX _ 0 0 17 [(0, x0), (0, y1), (0, y2), (3, 0)] [(0, (andI (shrI x0 (mulI 4 (subI 2 2))) 15))] N Λ σ
  refine r_nm (fun y3 ey3 => ?_)
  have h := h y3 ey3
  refine r_istore_n (L2 := [(0, x0), (0, y1), (0, y2), (0, y3)]) d_X6_indexOf_17 (by decide) rfl rfl ?_
  refine r_iload_n (x := y3) d_X6_indexOf_18 rfl ?_
  refine r_iload_n (x := y3) d_X6_indexOf_19 rfl ?_
  refine r_iconst (x := 1) d_X6_indexOf_20 ⟨by decide, by decide⟩ ?_
  refine r_isub d_X6_indexOf_21 ?_
  refine r_imul d_X6_indexOf_22 ?_
  refine r_iload_n (x := y3) d_X6_indexOf_23 rfl ?_
  refine r_iconst (x := 2) d_X6_indexOf_24 ⟨by decide, by decide⟩ ?_
  refine r_isub d_X6_indexOf_25 ?_
  refine r_imul d_X6_indexOf_26 ?_
  refine r_bipush (x := 6) d_X6_indexOf_27 ⟨by decide, by decide⟩ (by decide) ?_
  refine r_idiv d_X6_indexOf_29 (by decide) ?_
  refine r_iload_n (x := y2) d_X6_indexOf_30 rfl ?_
  refine r_iload_n (x := y2) d_X6_indexOf_31 rfl ?_
  refine r_iconst (x := 1) d_X6_indexOf_32 ⟨by decide, by decide⟩ ?_
  refine r_isub d_X6_indexOf_33 ?_
  refine r_imul d_X6_indexOf_34 ?_
  refine r_iconst (x := 2) d_X6_indexOf_35 ⟨by decide, by decide⟩ ?_
  refine r_idiv d_X6_indexOf_36 (by decide) ?_
  refine r_iadd d_X6_indexOf_37 ?_
  refine r_iload_n (x := y1) d_X6_indexOf_38 rfl ?_
  refine r_iadd d_X6_indexOf_39 ?_
  exact r_iret d_X6_indexOf_40 rfl rfl (Nat.le_refl 0) (Nat.le_refl 0) ⟨_, rfl, rfl, rfl, h⟩
theorem v_X6_withoutTwo_0 {l : Launch} {d N : Nat} {Λ : Lay} {P : Int → Mem → Prop} {σ : Mem} {x0 x2 : Int}
    (h : WL l mX6_withoutTwo d P 5 [(1, x0), (3, 0), (0, x2), (1, 0), (3, 0), (0, 0), (3, 0)] [] N Λ σ) :
    WL l mX6_withoutTwo d P 0 [(1, x0), (3, 0), (0, x2), (3, 0), (3, 0), (3, 0), (3, 0)] [] N Λ σ := by
  refine r_lconst d_X6_withoutTwo_0 ?_
  skip
  refine r_lstore_n (L2 := [(1, x0), (3, 0), (0, x2), (1, 0), (3, 0), (3, 0), (3, 0)]) d_X6_withoutTwo_1 (by decide) rfl rfl ?_
  refine r_iconst (x := 0) d_X6_withoutTwo_2 ⟨by decide, by decide⟩ ?_
  refine r_istore (L2 := [(1, x0), (3, 0), (0, x2), (1, 0), (3, 0), (0, 0), (3, 0)]) d_X6_withoutTwo_3 (by decide) rfl rfl ?_
  exact h
theorem v_X6_withoutTwo_5 {l : Launch} {d N : Nat} {Λ : Lay} {P : Int → Mem → Prop} {σ : Mem} {x0 x2 x3 x5 : Int} (h0d : 1 ≤ d)
    (h : ((4 ≤ x5 → P x3 σ) ∧ (¬ (4 ≤ x5) → (∀ y1, y1 = (andI (l2iI (ushrL x0 (mulI 12 (subI 3 x5)))) 4095) → ((x5 = x2 → (∀ y2, y2 = addI x5 1 → WL l mX6_withoutTwo d P 5 [(1, x0), (3, 0), (0, x2), (1, x3), (3, 0), (0, y2), (3, 0)] [] N Λ σ)) ∧ (¬ (x5 = x2) → ((x5 = (addI x2 1) → (∀ y3, y3 = addI x5 1 → WL l mX6_withoutTwo d P 5 [(1, x0), (3, 0), (0, x2), (1, x3), (3, 0), (0, y3), (3, 0)] [] N Λ σ)) ∧ (¬ (x5 = (addI x2 1)) → ((y1 = 0 → (∀ y4, y4 = addI x5 1 → WL l mX6_withoutTwo d P 5 [(1, x0), (3, 0), (0, x2), (1, x3), (3, 0), (0, y4), (3, 0)] [] N Λ σ)) ∧ (¬ (y1 = 0) → (CL l mX6_with (d - 1) [(1, x3), (0, y1)] N Λ σ (fun v6 σ5 => (∀ y7, y7 = addI x5 1 → WL l mX6_withoutTwo d P 5 [(1, x0), (3, 0), (0, x2), (1, v6), (3, 0), (0, y7), (3, 0)] [] N Λ σ5))))))))))))) :
    WL l mX6_withoutTwo d P 5 [(1, x0), (3, 0), (0, x2), (1, x3), (3, 0), (0, x5), (3, 0)] [] N Λ σ := by
  have hd_1 : 1 ≤ d := Nat.le_trans (by decide) h0d
  refine r_iload (x := x5) d_X6_withoutTwo_5 rfl ?_
  refine r_iconst (x := 4) d_X6_withoutTwo_7 ⟨by decide, by decide⟩ ?_
  refine r_ic_ge (tgt := 51) d_X6_withoutTwo_8 rfl (fun hc => ?_) (fun hc => ?_)
  · have h := h.1 hc
    refine r_lload_n (x := x3) d_X6_withoutTwo_51 rfl ?_
    exact r_lret d_X6_withoutTwo_52 rfl (Nat.le_refl 0) (Nat.le_refl 0) ⟨_, rfl, rfl, rfl, h⟩
  · have h := h.2 hc
    refine r_lload_n (x := x0) d_X6_withoutTwo_11 rfl ?_
    refine r_iload (x := x5) d_X6_withoutTwo_12 rfl ?_
    refine x_callSI (Y2 := mX6_bracketAt) (As := [(1, x0), (0, x5)]) (S := []) d_X6_withoutTwo_14 ok_mX6_bracketAt ml_X6_15 rfl (Nat.le_of_ble_eq_true rfl) (Nat.le_of_ble_eq_true rfl) rfl hd_1 (c_X6_bracketAt (v_X6_bracketAt_0 ?_))
    show WP l mX6_withoutTwo (rm d 0 0) noX _ 0 0 17 [(1, x0), (3, 0), (0, x2), (1, x3), (3, 0), (0, x5), (3, 0)] [(0, (andI (l2iI (ushrL x0 (mulI 12 (subI 3 x5)))) 4095))] N Λ σ
    refine r_nm (fun y1 ey1 => ?_)
    have h := h y1 ey1
    refine r_istore (L2 := [(1, x0), (3, 0), (0, x2), (1, x3), (3, 0), (0, x5), (0, y1)]) d_X6_withoutTwo_17 (by decide) rfl rfl ?_
    refine r_iload (x := x5) d_X6_withoutTwo_19 rfl ?_
    refine r_iload_n (x := x2) d_X6_withoutTwo_21 rfl ?_
    refine r_ic_eq (tgt := 45) d_X6_withoutTwo_22 rfl (fun hc => ?_) (fun hc => ?_)
    · have h := h.1 hc
      refine x_iinc (x := x5) (L := [(1, x0), (3, 0), (0, x2), (1, x3), (3, 0), (0, x5), (0, y1)]) d_X6_withoutTwo_45 rfl (by decide) rfl (fun y2 ey2 => ?_)
      have h := h y2 ey2
      show WP _ _ _ _ _ _ _ _ [(1, x0), (3, 0), (0, x2), (1, x3), (3, 0), (0, y2), (0, y1)] _ _ _ _
      refine r_goto (tgt := 5) d_X6_withoutTwo_48 rfl ?_
      exact x_mask h ⟨Or.inr rfl, Or.inl rfl, Or.inr rfl, Or.inr rfl, Or.inl rfl, Or.inr rfl, Or.inl rfl, trivial⟩
    · have h := h.2 hc
      refine r_iload (x := x5) d_X6_withoutTwo_25 rfl ?_
      refine r_iload_n (x := x2) d_X6_withoutTwo_27 rfl ?_
      refine r_iconst (x := 1) d_X6_withoutTwo_28 ⟨by decide, by decide⟩ ?_
      refine r_iadd d_X6_withoutTwo_29 ?_
      refine r_ic_eq (tgt := 45) d_X6_withoutTwo_30 rfl (fun hc => ?_) (fun hc => ?_)
      · have h := h.1 hc
        refine x_iinc (x := x5) (L := [(1, x0), (3, 0), (0, x2), (1, x3), (3, 0), (0, x5), (0, y1)]) d_X6_withoutTwo_45 rfl (by decide) rfl (fun y3 ey3 => ?_)
        have h := h y3 ey3
        show WP _ _ _ _ _ _ _ _ [(1, x0), (3, 0), (0, x2), (1, x3), (3, 0), (0, y3), (0, y1)] _ _ _ _
        refine r_goto (tgt := 5) d_X6_withoutTwo_48 rfl ?_
        exact x_mask h ⟨Or.inr rfl, Or.inl rfl, Or.inr rfl, Or.inr rfl, Or.inl rfl, Or.inr rfl, Or.inl rfl, trivial⟩
      · have h := h.2 hc
        refine r_iload (x := y1) d_X6_withoutTwo_33 rfl ?_
        refine r_if_eq (tgt := 45) d_X6_withoutTwo_35 rfl (fun hc => ?_) (fun hc => ?_)
        · have h := h.1 hc
          refine x_iinc (x := x5) (L := [(1, x0), (3, 0), (0, x2), (1, x3), (3, 0), (0, x5), (0, y1)]) d_X6_withoutTwo_45 rfl (by decide) rfl (fun y4 ey4 => ?_)
          have h := h y4 ey4
          show WP _ _ _ _ _ _ _ _ [(1, x0), (3, 0), (0, x2), (1, x3), (3, 0), (0, y4), (0, y1)] _ _ _ _
          refine r_goto (tgt := 5) d_X6_withoutTwo_48 rfl ?_
          exact x_mask h ⟨Or.inr rfl, Or.inl rfl, Or.inr rfl, Or.inr rfl, Or.inl rfl, Or.inr rfl, Or.inl rfl, trivial⟩
        · have h := h.2 hc
          refine r_lload_n (x := x3) d_X6_withoutTwo_38 rfl ?_
          refine r_iload (x := y1) d_X6_withoutTwo_39 rfl ?_
          refine x_callSL (Y2 := mX6_with) (As := [(1, x3), (0, y1)]) (S := []) d_X6_withoutTwo_41 ok_mX6_with ml_X6_22 rfl (Nat.le_of_ble_eq_true rfl) (Nat.le_of_ble_eq_true rfl) rfl hd_1 (CL.mono h (fun v6 σ5 h => ?_))
          refine r_lstore_n (L2 := [(1, x0), (3, 0), (0, x2), (1, v6), (3, 0), (0, x5), (0, y1)]) d_X6_withoutTwo_44 (by decide) rfl rfl ?_
          refine x_iinc (x := x5) (L := [(1, x0), (3, 0), (0, x2), (1, v6), (3, 0), (0, x5), (0, y1)]) d_X6_withoutTwo_45 rfl (by decide) rfl (fun y7 ey7 => ?_)
          have h := h y7 ey7
          show WP _ _ _ _ _ _ _ _ [(1, x0), (3, 0), (0, x2), (1, v6), (3, 0), (0, y7), (0, y1)] _ _ _ _
          refine r_goto (tgt := 5) d_X6_withoutTwo_48 rfl ?_
          exact x_mask h ⟨Or.inr rfl, Or.inl rfl, Or.inr rfl, Or.inr rfl, Or.inl rfl, Or.inr rfl, Or.inl rfl, trivial⟩
theorem v_X6_breakBetween_0 {l : Launch} {d N : Nat} {Λ : Lay} {P : Int → Mem → Prop} {σ : Mem} {x0 x1 : Int}
    (h : WI l mX6_breakBetween d P 2 [(0, x0), (0, x1), (0, 1)] [] N Λ σ) :
    WI l mX6_breakBetween d P 0 [(0, x0), (0, x1), (3, 0)] [] N Λ σ := by
  refine r_iconst (x := 1) d_X6_breakBetween_0 ⟨by decide, by decide⟩ ?_
  refine r_istore_n (L2 := [(0, x0), (0, x1), (0, 1)]) d_X6_breakBetween_1 (by decide) rfl rfl ?_
  exact h
theorem v_X6_breakBetween_2 {l : Launch} {d N : Nat} {Λ : Lay} {P : Int → Mem → Prop} {σ : Mem} {x0 x1 x2 : Int} (h0d : 1 ≤ d)
    (h : ((3 < x2 → P 0 σ) ∧ (¬ (3 < x2) → (((andI (shrI x0 (mulI 4 (subI 2 (subI x2 1)))) 15) ≤ (andI (shrI x1 (mulI 4 (subI 2 (subI x2 1)))) 15) → (∀ y1, y1 = addI x2 1 → WI l mX6_breakBetween d P 2 [(0, x0), (0, x1), (0, y1)] [] N Λ σ)) ∧ (¬ ((andI (shrI x0 (mulI 4 (subI 2 (subI x2 1)))) 15) ≤ (andI (shrI x1 (mulI 4 (subI 2 (subI x2 1)))) 15)) → P x2 σ))))) :
    WI l mX6_breakBetween d P 2 [(0, x0), (0, x1), (0, x2)] [] N Λ σ := by
  have hd_1 : 1 ≤ d := Nat.le_trans (by decide) h0d
  refine r_iload_n (x := x2) d_X6_breakBetween_2 rfl ?_
  refine r_iconst (x := 3) d_X6_breakBetween_3 ⟨by decide, by decide⟩ ?_
  refine r_ic_gt (tgt := 32) d_X6_breakBetween_4 rfl (fun hc => ?_) (fun hc => ?_)
  · have h := h.1 hc
    refine r_iconst (x := 0) d_X6_breakBetween_32 ⟨by decide, by decide⟩ ?_
    exact r_iret d_X6_breakBetween_33 rfl rfl (Nat.le_refl 0) (Nat.le_refl 0) ⟨_, rfl, rfl, rfl, h⟩
  · have h := h.2 hc
    refine r_iload_n (x := x0) d_X6_breakBetween_7 rfl ?_
    refine r_iload_n (x := x2) d_X6_breakBetween_8 rfl ?_
    refine r_iconst (x := 1) d_X6_breakBetween_9 ⟨by decide, by decide⟩ ?_
    refine r_isub d_X6_breakBetween_10 ?_
    refine x_callSI (Y2 := mX6_letter) (As := [(0, x0), (0, (subI x2 1))]) (S := []) d_X6_breakBetween_11 ok_mX6_letter ml_X6_9 rfl (Nat.le_of_ble_eq_true rfl) (Nat.le_of_ble_eq_true rfl) rfl hd_1 (c_X6_letter (v_X6_letter_0 ?_))
    show WP l mX6_breakBetween (rm d 0 0) noX _ 0 0 14 [(0, x0), (0, x1), (0, x2)] [(0, (andI (shrI x0 (mulI 4 (subI 2 (subI x2 1)))) 15))] N Λ σ
    refine r_iload_n (x := x1) d_X6_breakBetween_14 rfl ?_
    refine r_iload_n (x := x2) d_X6_breakBetween_15 rfl ?_
    refine r_iconst (x := 1) d_X6_breakBetween_16 ⟨by decide, by decide⟩ ?_
    refine r_isub d_X6_breakBetween_17 ?_
    refine x_callSI (Y2 := mX6_letter) (As := [(0, x1), (0, (subI x2 1))]) (S := [(0, (andI (shrI x0 (mulI 4 (subI 2 (subI x2 1)))) 15))]) d_X6_breakBetween_18 ok_mX6_letter ml_X6_9 rfl (Nat.le_of_ble_eq_true rfl) (Nat.le_of_ble_eq_true rfl) rfl hd_1 (c_X6_letter (v_X6_letter_0 ?_))
    show WP l mX6_breakBetween (rm d 0 0) noX _ 0 0 21 [(0, x0), (0, x1), (0, x2)] [(0, (andI (shrI x1 (mulI 4 (subI 2 (subI x2 1)))) 15)), (0, (andI (shrI x0 (mulI 4 (subI 2 (subI x2 1)))) 15))] N Λ σ
    refine r_ic_le (tgt := 26) d_X6_breakBetween_21 rfl (fun hc => ?_) (fun hc => ?_)
    · have h := h.1 hc
      refine x_iinc (x := x2) (L := [(0, x0), (0, x1), (0, x2)]) d_X6_breakBetween_26 rfl (by decide) rfl (fun y1 ey1 => ?_)
      have h := h y1 ey1
      show WP _ _ _ _ _ _ _ _ [(0, x0), (0, x1), (0, y1)] _ _ _ _
      refine r_goto (tgt := 2) d_X6_breakBetween_29 rfl ?_
      exact h
    · have h := h.2 hc
      refine r_iload_n (x := x2) d_X6_breakBetween_24 rfl ?_
      exact r_iret d_X6_breakBetween_25 rfl rfl (Nat.le_refl 0) (Nat.le_refl 0) ⟨_, rfl, rfl, rfl, h⟩
theorem v_X6_breakOf_0 {l : Launch} {d N : Nat} {Λ : Lay} {P : Int → Mem → Prop} {σ : Mem} {x0 : Int}
    (h : WI l mX6_breakOf d P 2 [(1, x0), (3, 0), (0, 0), (3, 0), (3, 0)] [] N Λ σ) :
    WI l mX6_breakOf d P 0 [(1, x0), (3, 0), (3, 0), (3, 0), (3, 0)] [] N Λ σ := by
  refine r_iconst (x := 0) d_X6_breakOf_0 ⟨by decide, by decide⟩ ?_
  refine r_istore_n (L2 := [(1, x0), (3, 0), (0, 0), (3, 0), (3, 0)]) d_X6_breakOf_1 (by decide) rfl rfl ?_
  exact h
theorem v_X6_breakOf_2 {l : Launch} {d N : Nat} {Λ : Lay} {P : Int → Mem → Prop} {σ : Mem} {x0 x2 : Int} (h0d : 1 ≤ d)
    (h : ((4 ≤ (addI x2 1) → P 0 σ) ∧ (¬ (4 ≤ (addI x2 1)) → (∀ y1, y1 = (andI (l2iI (ushrL x0 (mulI 12 (subI 3 (addI x2 1))))) 4095) → ((¬ y1 = 0 → (CI l mX6_breakBetween (d - 1) [(0, (andI (l2iI (ushrL x0 (mulI 12 (subI 3 x2)))) 4095)), (0, y1)] N Λ σ (fun v3 σ2 => ((v3 = 0 → (∀ y4, y4 = addI x2 1 → WI l mX6_breakOf d P 2 [(1, x0), (3, 0), (0, y4), (3, 0), (3, 0)] [] N Λ σ2)) ∧ (¬ (v3 = 0) → P (addI (mulI 4 x2) v3) σ2))))) ∧ (y1 = 0 → P 0 σ)))))) :
    WI l mX6_breakOf d P 2 [(1, x0), (3, 0), (0, x2), (3, 0), (3, 0)] [] N Λ σ := by
  have hd_1 : 1 ≤ d := Nat.le_trans (by decide) h0d
  refine r_iload_n (x := x2) d_X6_breakOf_2 rfl ?_
  refine r_iconst (x := 1) d_X6_breakOf_3 ⟨by decide, by decide⟩ ?_
  refine r_iadd d_X6_breakOf_4 ?_
  refine r_iconst (x := 4) d_X6_breakOf_5 ⟨by decide, by decide⟩ ?_
  refine r_ic_ge (tgt := 52) d_X6_breakOf_6 rfl (fun hc => ?_) (fun hc => ?_)
  · have h := h.1 hc
    refine r_iconst (x := 0) d_X6_breakOf_52 ⟨by decide, by decide⟩ ?_
    exact r_iret d_X6_breakOf_53 rfl rfl (Nat.le_refl 0) (Nat.le_refl 0) ⟨_, rfl, rfl, rfl, h⟩
  · have h := h.2 hc
    refine r_lload_n (x := x0) d_X6_breakOf_9 rfl ?_
    refine r_iload_n (x := x2) d_X6_breakOf_10 rfl ?_
    refine r_iconst (x := 1) d_X6_breakOf_11 ⟨by decide, by decide⟩ ?_
    refine r_iadd d_X6_breakOf_12 ?_
    refine x_callSI (Y2 := mX6_bracketAt) (As := [(1, x0), (0, (addI x2 1))]) (S := []) d_X6_breakOf_13 ok_mX6_bracketAt ml_X6_15 rfl (Nat.le_of_ble_eq_true rfl) (Nat.le_of_ble_eq_true rfl) rfl hd_1 (c_X6_bracketAt (v_X6_bracketAt_0 ?_))
    show WP l mX6_breakOf (rm d 0 0) noX _ 0 0 16 [(1, x0), (3, 0), (0, x2), (3, 0), (3, 0)] [(0, (andI (l2iI (ushrL x0 (mulI 12 (subI 3 (addI x2 1))))) 4095))] N Λ σ
    refine r_nm (fun y1 ey1 => ?_)
    have h := h y1 ey1
    refine r_istore_n (L2 := [(1, x0), (3, 0), (0, x2), (0, y1), (3, 0)]) d_X6_breakOf_16 (by decide) rfl rfl ?_
    refine r_iload_n (x := y1) d_X6_breakOf_17 rfl ?_
    refine r_if_ne (tgt := 23) d_X6_breakOf_18 rfl (fun hc => ?_) (fun hc => ?_)
    · have h := h.1 hc
      refine r_lload_n (x := x0) d_X6_breakOf_23 rfl ?_
      refine r_iload_n (x := x2) d_X6_breakOf_24 rfl ?_
      refine x_callSI (Y2 := mX6_bracketAt) (As := [(1, x0), (0, x2)]) (S := []) d_X6_breakOf_25 ok_mX6_bracketAt ml_X6_15 rfl (Nat.le_of_ble_eq_true rfl) (Nat.le_of_ble_eq_true rfl) rfl hd_1 (c_X6_bracketAt (v_X6_bracketAt_0 ?_))
      show WP l mX6_breakOf (rm d 0 0) noX _ 0 0 28 [(1, x0), (3, 0), (0, x2), (0, y1), (3, 0)] [(0, (andI (l2iI (ushrL x0 (mulI 12 (subI 3 x2)))) 4095))] N Λ σ
      refine r_iload_n (x := y1) d_X6_breakOf_28 rfl ?_
      refine x_callSI (Y2 := mX6_breakBetween) (As := [(0, (andI (l2iI (ushrL x0 (mulI 12 (subI 3 x2)))) 4095)), (0, y1)]) (S := []) d_X6_breakOf_29 ok_mX6_breakBetween ml_X6_26 rfl (Nat.le_of_ble_eq_true rfl) (Nat.le_of_ble_eq_true rfl) rfl hd_1 (CI.mono h (fun v3 σ2 h => ?_))
      refine r_istore (L2 := [(1, x0), (3, 0), (0, x2), (0, y1), (0, v3)]) d_X6_breakOf_32 (by decide) rfl rfl ?_
      refine r_iload (x := v3) d_X6_breakOf_34 rfl ?_
      refine r_if_eq (tgt := 46) d_X6_breakOf_36 rfl (fun hc => ?_) (fun hc => ?_)
      · have h := h.1 hc
        refine x_iinc (x := x2) (L := [(1, x0), (3, 0), (0, x2), (0, y1), (0, v3)]) d_X6_breakOf_46 rfl (by decide) rfl (fun y4 ey4 => ?_)
        have h := h y4 ey4
        show WP _ _ _ _ _ _ _ _ [(1, x0), (3, 0), (0, y4), (0, y1), (0, v3)] _ _ _ _
        refine r_goto (tgt := 2) d_X6_breakOf_49 rfl ?_
        exact x_mask h ⟨Or.inr rfl, Or.inl rfl, Or.inr rfl, Or.inl rfl, Or.inl rfl, trivial⟩
      · have h := h.2 hc
        refine r_iconst (x := 4) d_X6_breakOf_39 ⟨by decide, by decide⟩ ?_
        refine r_iload_n (x := x2) d_X6_breakOf_40 rfl ?_
        refine r_imul d_X6_breakOf_41 ?_
        refine r_iload (x := v3) d_X6_breakOf_42 rfl ?_
        refine r_iadd d_X6_breakOf_44 ?_
        exact r_iret d_X6_breakOf_45 rfl rfl (Nat.le_refl 0) (Nat.le_refl 0) ⟨_, rfl, rfl, rfl, h⟩
    · have h := h.2 hc
      refine r_iconst (x := 0) d_X6_breakOf_21 ⟨by decide, by decide⟩ ?_
      exact r_iret d_X6_breakOf_22 rfl rfl (Nat.le_refl 0) (Nat.le_refl 0) ⟨_, rfl, rfl, rfl, h⟩
theorem v_X6_bracketOfBreak_0 {l : Launch} {d N : Nat} {Λ : Lay} {P : Int → Mem → Prop} {σ : Mem} {x0 : Int}
    (h : P (divI x0 4) σ) :
    WI l mX6_bracketOfBreak d P 0 [(0, x0)] [] N Λ σ := by
  refine r_iload_n (x := x0) d_X6_bracketOfBreak_0 rfl ?_
  refine r_iconst (x := 4) d_X6_bracketOfBreak_1 ⟨by decide, by decide⟩ ?_
  refine r_idiv d_X6_bracketOfBreak_2 (by decide) ?_
  exact r_iret d_X6_bracketOfBreak_3 rfl rfl (Nat.le_refl 0) (Nat.le_refl 0) ⟨_, rfl, rfl, rfl, h⟩
theorem v_X6_placeOfBreak_0 {l : Launch} {d N : Nat} {Λ : Lay} {P : Int → Mem → Prop} {σ : Mem} {x0 : Int}
    (h : P (remI x0 4) σ) :
    WI l mX6_placeOfBreak d P 0 [(0, x0)] [] N Λ σ := by
  refine r_iload_n (x := x0) d_X6_placeOfBreak_0 rfl ?_
  refine r_iconst (x := 4) d_X6_placeOfBreak_1 ⟨by decide, by decide⟩ ?_
  refine r_irem d_X6_placeOfBreak_2 (by decide) ?_
  exact r_iret d_X6_placeOfBreak_3 rfl rfl (Nat.le_refl 0) (Nat.le_refl 0) ⟨_, rfl, rfl, rfl, h⟩
theorem v_X7_allTerms_0 {l : Launch} {d N : Nat} {Λ : Lay} {P : Int → Mem → Prop} {σ : Mem} {t : Int}
    (h : WI l mX7_allTerms d P 4 [(2, t), (0, 0), (0, 0)] [] N Λ σ) :
    WI l mX7_allTerms d P 0 [(2, t), (3, 0), (3, 0)] [] N Λ σ := by
  refine r_iconst (x := 0) d_X7_allTerms_0 ⟨by decide, by decide⟩ ?_
  refine r_istore_n (L2 := [(2, t), (0, 0), (3, 0)]) d_X7_allTerms_1 (by decide) rfl rfl ?_
  refine r_iconst (x := 0) d_X7_allTerms_2 ⟨by decide, by decide⟩ ?_
  refine r_istore_n (L2 := [(2, t), (0, 0), (0, 0)]) d_X7_allTerms_3 (by decide) rfl rfl ?_
  exact h
theorem v_X7_allTerms_4 {l : Launch} {d N : Nat} {Λ : Lay} {P : Int → Mem → Prop} {σ : Mem} {x1 x2 t t_shelves : Int} (o_t : Ob N Λ t 16 3) (f_t_shelves : (Λ t).2.2 0 = t_shelves)
    (h : ((6 ≤ x2 → P x1 σ) ∧ (¬ (6 ≤ x2) → (Ix N Λ t_shelves 3 x2 ∧ (∀ b1, b1 = (Λ t_shelves).2.2 x2 → (Ob N Λ b1 15 3 ∧ (∀ y2, y2 = (addI x1 (σ b1 2)) → (∀ y3, y3 = addI x2 1 → WI l mX7_allTerms d P 4 [(2, t), (0, y2), (0, y3)] [] N Λ σ)))))))) :
    WI l mX7_allTerms d P 4 [(2, t), (0, x1), (0, x2)] [] N Λ σ := by
  refine r_iload_n (x := x2) d_X7_allTerms_4 rfl ?_
  refine r_bipush (x := 6) d_X7_allTerms_5 ⟨by decide, by decide⟩ (by decide) ?_
  refine r_ic_ge (tgt := 28) d_X7_allTerms_7 rfl (fun hc => ?_) (fun hc => ?_)
  · have h := h.1 hc
    refine r_iload_n (x := x1) d_X7_allTerms_28 rfl ?_
    exact r_iret d_X7_allTerms_29 rfl rfl (Nat.le_refl 0) (Nat.le_refl 0) ⟨_, rfl, rfl, rfl, h⟩
  · have h := h.2 hc
    refine r_iload_n (x := x1) d_X7_allTerms_10 rfl ?_
    refine r_aload_n (x := t) d_X7_allTerms_11 rfl o_t.1 ?_
    refine r_getf (j := 0) (t := 2) (x := t_shelves) d_X7_allTerms_12 kX7 (by decide) fl_X7_11 o_t.1 o_t.2.1 o_t.2.2.1 o_t.2.2.2 rfl f_t_shelves ?_
    refine r_iload_n (x := x2) d_X7_allTerms_15 rfl ?_
    refine x_aald (t := 3) (by decide) d_X7_allTerms_16 h.1 (fun b1 eb1 => ?_)
    have h := h.2 b1 eb1
    have oob1 := h.1
    have h := h.2
    refine r_getf (j := 2) (t := 0) (x := (σ b1 2)) d_X7_allTerms_17 kX5 (by decide) fl_X7_41 oob1.1 oob1.2.1 oob1.2.2.1 oob1.2.2.2 rfl rfl ?_
    refine r_iadd d_X7_allTerms_20 ?_
    refine r_nm (fun y2 ey2 => ?_)
    have h := h y2 ey2
    refine r_istore_n (L2 := [(2, t), (0, y2), (0, x2)]) d_X7_allTerms_21 (by decide) rfl rfl ?_
    refine x_iinc (x := x2) (L := [(2, t), (0, y2), (0, x2)]) d_X7_allTerms_22 rfl (by decide) rfl (fun y3 ey3 => ?_)
    have h := h y3 ey3
    show WP _ _ _ _ _ _ _ _ [(2, t), (0, y2), (0, y3)] _ _ _ _
    refine r_goto (tgt := 4) d_X7_allTerms_25 rfl ?_
    exact h
theorem v_X7_factOf_0 {l : Launch} {d N : Nat} {Λ : Lay} {P : Int → Mem → Prop} {σ : Mem} {x1 t t_facts : Int} (o_t : Ob N Λ t 16 3) (f_t_facts : (Λ t).2.2 2 = t_facts) (h0d : 2 ≤ d)
    (h : (∀ y1, y1 = (andI (shrI x1 (mulI 4 (subI 2 0))) 15) → (∀ y2, y2 = (andI (shrI x1 (mulI 4 (subI 2 1))) 15) → (∀ y3, y3 = (andI (shrI x1 (mulI 4 (subI 2 2))) 15) → (Ix N Λ t_facts 0 (addI (addI (divI (mulI (mulI y3 (subI y3 1)) (subI y3 2)) 6) (divI (mulI y2 (subI y2 1)) 2)) y1) ∧ P (σ t_facts (addI (addI (divI (mulI (mulI y3 (subI y3 1)) (subI y3 2)) 6) (divI (mulI y2 (subI y2 1)) 2)) y1)) σ))))) :
    WI l mX7_factOf d P 0 [(2, t), (0, x1)] [] N Λ σ := by
  have hd_1 : 1 ≤ d := Nat.le_trans (by decide) h0d
  have he_1 : 1 ≤ d - 1 := Nat.le_sub_of_add_le (Nat.le_trans (by decide) h0d)
  refine r_aload_n (x := t) d_X7_factOf_0 rfl o_t.1 ?_
  refine r_getf (j := 2) (t := 2) (x := t_facts) d_X7_factOf_1 kX7 (by decide) fl_X7_21 o_t.1 o_t.2.1 o_t.2.2.1 o_t.2.2.2 rfl f_t_facts ?_
  refine r_iload_n (x := x1) d_X7_factOf_4 rfl ?_
  refine x_callSI (Y2 := mX6_indexOf) (As := [(0, x1)]) (S := [(2, t_facts)]) d_X7_factOf_5 ok_mX6_indexOf ml_X7_45 rfl (Nat.le_of_ble_eq_true rfl) (Nat.le_of_ble_eq_true rfl) rfl hd_1 (c_X6_indexOf (v_X6_indexOf_0 he_1 ?_))
  intro y1 ey1
  have h := h y1 ey1
  intro y2 ey2
  have h := h y2 ey2
  intro y3 ey3
  have h := h y3 ey3
  show WP l mX7_factOf (rm d 0 0) noX _ 0 0 8 [(2, t), (0, x1)] [(0, (addI (addI (divI (mulI (mulI y3 (subI y3 1)) (subI y3 2)) 6) (divI (mulI y2 (subI y2 1)) 2)) y1)), (2, t_facts)] N Λ σ
  refine x_iald d_X7_factOf_8 h.1 ?_
  have h := h.2
  exact r_iret d_X7_factOf_9 rfl rfl (Nat.le_refl 0) (Nat.le_refl 0) ⟨_, rfl, rfl, rfl, h⟩
theorem v_X7_tellFact_0 {l : Launch} {d N : Nat} {Λ : Lay} {P : Mem → Prop} {σ : Mem} {x1 x2 t t_facts : Int} (o_t : Ob N Λ t 16 3) (f_t_facts : (Λ t).2.2 2 = t_facts) (h0d : 2 ≤ d)
    (h : (∀ y1, y1 = (andI (shrI x1 (mulI 4 (subI 2 0))) 15) → (∀ y2, y2 = (andI (shrI x1 (mulI 4 (subI 2 1))) 15) → (∀ y3, y3 = (andI (shrI x1 (mulI 4 (subI 2 2))) 15) → (Ix N Λ t_facts 0 (addI (addI (divI (mulI (mulI y3 (subI y3 1)) (subI y3 2)) 6) (divI (mulI y2 (subI y2 1)) 2)) y1) ∧ (∀ τ4, τ4 = st σ t_facts (addI (addI (divI (mulI (mulI y3 (subI y3 1)) (subI y3 2)) 6) (divI (mulI y2 (subI y2 1)) 2)) y1) x2 → P τ4)))))) :
    WV l mX7_tellFact d P 0 [(2, t), (0, x1), (0, x2)] [] N Λ σ := by
  have hd_1 : 1 ≤ d := Nat.le_trans (by decide) h0d
  have he_1 : 1 ≤ d - 1 := Nat.le_sub_of_add_le (Nat.le_trans (by decide) h0d)
  refine r_aload_n (x := t) d_X7_tellFact_0 rfl o_t.1 ?_
  refine r_getf (j := 2) (t := 2) (x := t_facts) d_X7_tellFact_1 kX7 (by decide) fl_X7_21 o_t.1 o_t.2.1 o_t.2.2.1 o_t.2.2.2 rfl f_t_facts ?_
  refine r_iload_n (x := x1) d_X7_tellFact_4 rfl ?_
  refine x_callSI (Y2 := mX6_indexOf) (As := [(0, x1)]) (S := [(2, t_facts)]) d_X7_tellFact_5 ok_mX6_indexOf ml_X7_45 rfl (Nat.le_of_ble_eq_true rfl) (Nat.le_of_ble_eq_true rfl) rfl hd_1 (c_X6_indexOf (v_X6_indexOf_0 he_1 ?_))
  intro y1 ey1
  have h := h y1 ey1
  intro y2 ey2
  have h := h y2 ey2
  intro y3 ey3
  have h := h y3 ey3
  show WP l mX7_tellFact (rm d 0 0) noX _ 0 0 8 [(2, t), (0, x1), (0, x2)] [(0, (addI (addI (divI (mulI (mulI y3 (subI y3 1)) (subI y3 2)) 6) (divI (mulI y2 (subI y2 1)) 2)) y1)), (2, t_facts)] N Λ σ
  refine r_iload_n (x := x2) d_X7_tellFact_8 rfl ?_
  refine x_iast d_X7_tellFact_9 h.1 ?_
  have h := h.2
  refine r_nmM (fun τ4 eτ4 => ?_)
  have h := h τ4 eτ4
  exact r_vret d_X7_tellFact_10 rfl (Nat.le_refl 0) (Nat.le_refl 0) ⟨rfl, rfl, rfl, h⟩
theorem v_X7_factsThatAre_0 {l : Launch} {d N : Nat} {Λ : Lay} {P : Int → Mem → Prop} {σ : Mem} {x1 t : Int}
    (h : WI l mX7_factsThatAre d P 4 [(2, t), (0, x1), (0, 0), (0, 0)] [] N Λ σ) :
    WI l mX7_factsThatAre d P 0 [(2, t), (0, x1), (3, 0), (3, 0)] [] N Λ σ := by
  refine r_iconst (x := 0) d_X7_factsThatAre_0 ⟨by decide, by decide⟩ ?_
  refine r_istore_n (L2 := [(2, t), (0, x1), (0, 0), (3, 0)]) d_X7_factsThatAre_1 (by decide) rfl rfl ?_
  refine r_iconst (x := 0) d_X7_factsThatAre_2 ⟨by decide, by decide⟩ ?_
  refine r_istore_n (L2 := [(2, t), (0, x1), (0, 0), (0, 0)]) d_X7_factsThatAre_3 (by decide) rfl rfl ?_
  exact h
theorem v_X7_factsThatAre_4 {l : Launch} {d N : Nat} {Λ : Lay} {P : Int → Mem → Prop} {σ : Mem} {x1 x2 x3 t t_facts : Int} (o_t : Ob N Λ t 16 3) (f_t_facts : (Λ t).2.2 2 = t_facts)
    (h : ((120 ≤ x3 → P x2 σ) ∧ (¬ (120 ≤ x3) → (Ix N Λ t_facts 0 x3 ∧ ((¬ (σ t_facts x3) = x1 → (∀ y1, y1 = addI x3 1 → WI l mX7_factsThatAre d P 4 [(2, t), (0, x1), (0, x2), (0, y1)] [] N Λ σ)) ∧ ((σ t_facts x3) = x1 → (∀ y2, y2 = addI x2 1 → (∀ y3, y3 = addI x3 1 → WI l mX7_factsThatAre d P 4 [(2, t), (0, x1), (0, y2), (0, y3)] [] N Λ σ)))))))) :
    WI l mX7_factsThatAre d P 4 [(2, t), (0, x1), (0, x2), (0, x3)] [] N Λ σ := by
  refine r_iload_n (x := x3) d_X7_factsThatAre_4 rfl ?_
  refine r_bipush (x := 120) d_X7_factsThatAre_5 ⟨by decide, by decide⟩ (by decide) ?_
  refine r_ic_ge (tgt := 29) d_X7_factsThatAre_7 rfl (fun hc => ?_) (fun hc => ?_)
  · have h := h.1 hc
    refine r_iload_n (x := x2) d_X7_factsThatAre_29 rfl ?_
    exact r_iret d_X7_factsThatAre_30 rfl rfl (Nat.le_refl 0) (Nat.le_refl 0) ⟨_, rfl, rfl, rfl, h⟩
  · have h := h.2 hc
    refine r_aload_n (x := t) d_X7_factsThatAre_10 rfl o_t.1 ?_
    refine r_getf (j := 2) (t := 2) (x := t_facts) d_X7_factsThatAre_11 kX7 (by decide) fl_X7_21 o_t.1 o_t.2.1 o_t.2.2.1 o_t.2.2.2 rfl f_t_facts ?_
    refine r_iload_n (x := x3) d_X7_factsThatAre_14 rfl ?_
    refine x_iald d_X7_factsThatAre_15 h.1 ?_
    have h := h.2
    refine r_iload_n (x := x1) d_X7_factsThatAre_16 rfl ?_
    refine r_ic_ne (tgt := 23) d_X7_factsThatAre_17 rfl (fun hc => ?_) (fun hc => ?_)
    · have h := h.1 hc
      refine x_iinc (x := x3) (L := [(2, t), (0, x1), (0, x2), (0, x3)]) d_X7_factsThatAre_23 rfl (by decide) rfl (fun y1 ey1 => ?_)
      have h := h y1 ey1
      show WP _ _ _ _ _ _ _ _ [(2, t), (0, x1), (0, x2), (0, y1)] _ _ _ _
      refine r_goto (tgt := 4) d_X7_factsThatAre_26 rfl ?_
      exact h
    · have h := h.2 hc
      refine x_iinc (x := x2) (L := [(2, t), (0, x1), (0, x2), (0, x3)]) d_X7_factsThatAre_20 rfl (by decide) rfl (fun y2 ey2 => ?_)
      have h := h y2 ey2
      show WP _ _ _ _ _ _ _ _ [(2, t), (0, x1), (0, y2), (0, x3)] _ _ _ _
      refine x_iinc (x := x3) (L := [(2, t), (0, x1), (0, y2), (0, x3)]) d_X7_factsThatAre_23 rfl (by decide) rfl (fun y3 ey3 => ?_)
      have h := h y3 ey3
      show WP _ _ _ _ _ _ _ _ [(2, t), (0, x1), (0, y2), (0, y3)] _ _ _ _
      refine r_goto (tgt := 4) d_X7_factsThatAre_26 rfl ?_
      exact h
theorem v_X7_bracketsThatAre_0 {l : Launch} {d N : Nat} {Λ : Lay} {P : Int → Mem → Prop} {σ : Mem} {x1 x3 t : Int} (h0d : 1 ≤ d)
    (h : (CI l mX6_bracketsIn (d - 1) [(1, x1)] N Λ σ (fun v2 σ1 => WI l mX7_bracketsThatAre d P 12 [(2, t), (1, x1), (3, 0), (0, x3), (0, 0), (0, v2), (0, 0)] [] N Λ σ1))) :
    WI l mX7_bracketsThatAre d P 0 [(2, t), (1, x1), (3, 0), (0, x3), (3, 0), (3, 0), (3, 0)] [] N Λ σ := by
  have hd_1 : 1 ≤ d := Nat.le_trans (by decide) h0d
  refine r_iconst (x := 0) d_X7_bracketsThatAre_0 ⟨by decide, by decide⟩ ?_
  refine r_istore (L2 := [(2, t), (1, x1), (3, 0), (0, x3), (0, 0), (3, 0), (3, 0)]) d_X7_bracketsThatAre_1 (by decide) rfl rfl ?_
  refine r_lload_n (x := x1) d_X7_bracketsThatAre_3 rfl ?_
  refine x_callSI (Y2 := mX6_bracketsIn) (As := [(1, x1)]) (S := []) d_X7_bracketsThatAre_4 ok_mX6_bracketsIn ml_X7_69 rfl (Nat.le_of_ble_eq_true rfl) (Nat.le_of_ble_eq_true rfl) rfl hd_1 (CI.mono h (fun v2 σ1 h => ?_))
  refine r_istore (L2 := [(2, t), (1, x1), (3, 0), (0, x3), (0, 0), (0, v2), (3, 0)]) d_X7_bracketsThatAre_7 (by decide) rfl rfl ?_
  refine r_iconst (x := 0) d_X7_bracketsThatAre_9 ⟨by decide, by decide⟩ ?_
  refine r_istore (L2 := [(2, t), (1, x1), (3, 0), (0, x3), (0, 0), (0, v2), (0, 0)]) d_X7_bracketsThatAre_10 (by decide) rfl rfl ?_
  exact h
theorem v_X7_bracketsThatAre_12 {l : Launch} {d N : Nat} {Λ : Lay} {P : Int → Mem → Prop} {σ : Mem} {x1 x3 x4 x5 x6 t t_facts : Int} (o_t : Ob N Λ t 16 3) (f_t_facts : (Λ t).2.2 2 = t_facts) (h0d : 3 ≤ d)
    (h : ((x5 ≤ x6 → P x4 σ) ∧ (¬ (x5 ≤ x6) → (∀ y1, y1 = (andI (shrI (andI (l2iI (ushrL x1 (mulI 12 (subI 3 x6)))) 4095) (mulI 4 (subI 2 0))) 15) → (∀ y2, y2 = (andI (shrI (andI (l2iI (ushrL x1 (mulI 12 (subI 3 x6)))) 4095) (mulI 4 (subI 2 1))) 15) → (∀ y3, y3 = (andI (shrI (andI (l2iI (ushrL x1 (mulI 12 (subI 3 x6)))) 4095) (mulI 4 (subI 2 2))) 15) → (Ix N Λ t_facts 0 (addI (addI (divI (mulI (mulI y3 (subI y3 1)) (subI y3 2)) 6) (divI (mulI y2 (subI y2 1)) 2)) y1) ∧ ((¬ (σ t_facts (addI (addI (divI (mulI (mulI y3 (subI y3 1)) (subI y3 2)) 6) (divI (mulI y2 (subI y2 1)) 2)) y1)) = x3 → (∀ y4, y4 = addI x6 1 → WI l mX7_bracketsThatAre d P 12 [(2, t), (1, x1), (3, 0), (0, x3), (0, x4), (0, x5), (0, y4)] [] N Λ σ)) ∧ ((σ t_facts (addI (addI (divI (mulI (mulI y3 (subI y3 1)) (subI y3 2)) 6) (divI (mulI y2 (subI y2 1)) 2)) y1)) = x3 → (∀ y5, y5 = addI x4 1 → (∀ y6, y6 = addI x6 1 → WI l mX7_bracketsThatAre d P 12 [(2, t), (1, x1), (3, 0), (0, x3), (0, y5), (0, x5), (0, y6)] [] N Λ σ))))))))))) :
    WI l mX7_bracketsThatAre d P 12 [(2, t), (1, x1), (3, 0), (0, x3), (0, x4), (0, x5), (0, x6)] [] N Λ σ := by
  have hd_1 : 1 ≤ d := Nat.le_trans (by decide) h0d
  have he_1 : 1 ≤ d - 1 := Nat.le_sub_of_add_le (Nat.le_trans (by decide) h0d)
  have he_2 : 2 ≤ d - 1 := Nat.le_sub_of_add_le (Nat.le_trans (by decide) h0d)
  refine r_iload (x := x6) d_X7_bracketsThatAre_12 rfl ?_
  refine r_iload (x := x5) d_X7_bracketsThatAre_14 rfl ?_
  refine r_ic_ge (tgt := 42) d_X7_bracketsThatAre_16 rfl (fun hc => ?_) (fun hc => ?_)
  · have h := h.1 hc
    refine r_iload (x := x4) d_X7_bracketsThatAre_42 rfl ?_
    exact r_iret d_X7_bracketsThatAre_44 rfl rfl (Nat.le_refl 0) (Nat.le_refl 0) ⟨_, rfl, rfl, rfl, h⟩
  · have h := h.2 hc
    refine r_aload_n (x := t) d_X7_bracketsThatAre_19 rfl o_t.1 ?_
    refine r_lload_n (x := x1) d_X7_bracketsThatAre_20 rfl ?_
    refine r_iload (x := x6) d_X7_bracketsThatAre_21 rfl ?_
    refine x_callSI (Y2 := mX6_bracketAt) (As := [(1, x1), (0, x6)]) (S := [(2, t)]) d_X7_bracketsThatAre_23 ok_mX6_bracketAt ml_X7_73 rfl (Nat.le_of_ble_eq_true rfl) (Nat.le_of_ble_eq_true rfl) rfl hd_1 (c_X6_bracketAt (v_X6_bracketAt_0 ?_))
    show WP l mX7_bracketsThatAre (rm d 0 0) noX _ 0 0 26 [(2, t), (1, x1), (3, 0), (0, x3), (0, x4), (0, x5), (0, x6)] [(0, (andI (l2iI (ushrL x1 (mulI 12 (subI 3 x6)))) 4095)), (2, t)] N Λ σ
    refine x_callVI (Y2 := mX7_factOf) (c := t) (As := [(0, (andI (l2iI (ushrL x1 (mulI 12 (subI 3 x6)))) 4095))]) (S := []) d_X7_bracketsThatAre_26 ok_mX7_factOf ml_X7_76 rfl (Nat.le_of_ble_eq_true rfl) (Nat.le_of_ble_eq_true rfl) rfl hd_1 kX7 o_t (c_X7_factOf (v_X7_factOf_0 o_t f_t_facts he_2 ?_))
    intro y1 ey1
    have h := h y1 ey1
    intro y2 ey2
    have h := h y2 ey2
    intro y3 ey3
    have h := h y3 ey3
    refine ⟨h.1, ?_⟩
    have h := h.2
    show WP l mX7_bracketsThatAre (rm d 0 0) noX _ 0 0 29 [(2, t), (1, x1), (3, 0), (0, x3), (0, x4), (0, x5), (0, x6)] [(0, (σ t_facts (addI (addI (divI (mulI (mulI y3 (subI y3 1)) (subI y3 2)) 6) (divI (mulI y2 (subI y2 1)) 2)) y1)))] N Λ σ
    refine r_iload_n (x := x3) d_X7_bracketsThatAre_29 rfl ?_
    refine r_ic_ne (tgt := 36) d_X7_bracketsThatAre_30 rfl (fun hc => ?_) (fun hc => ?_)
    · have h := h.1 hc
      refine x_iinc (x := x6) (L := [(2, t), (1, x1), (3, 0), (0, x3), (0, x4), (0, x5), (0, x6)]) d_X7_bracketsThatAre_36 rfl (by decide) rfl (fun y4 ey4 => ?_)
      have h := h y4 ey4
      show WP _ _ _ _ _ _ _ _ [(2, t), (1, x1), (3, 0), (0, x3), (0, x4), (0, x5), (0, y4)] _ _ _ _
      refine r_goto (tgt := 12) d_X7_bracketsThatAre_39 rfl ?_
      exact h
    · have h := h.2 hc
      refine x_iinc (x := x4) (L := [(2, t), (1, x1), (3, 0), (0, x3), (0, x4), (0, x5), (0, x6)]) d_X7_bracketsThatAre_33 rfl (by decide) rfl (fun y5 ey5 => ?_)
      have h := h y5 ey5
      show WP _ _ _ _ _ _ _ _ [(2, t), (1, x1), (3, 0), (0, x3), (0, y5), (0, x5), (0, x6)] _ _ _ _
      refine x_iinc (x := x6) (L := [(2, t), (1, x1), (3, 0), (0, x3), (0, y5), (0, x5), (0, x6)]) d_X7_bracketsThatAre_36 rfl (by decide) rfl (fun y6 ey6 => ?_)
      have h := h y6 ey6
      show WP _ _ _ _ _ _ _ _ [(2, t), (1, x1), (3, 0), (0, x3), (0, y5), (0, x5), (0, y6)] _ _ _ _
      refine r_goto (tgt := 12) d_X7_bracketsThatAre_39 rfl ?_
      exact h
theorem v_X7_reduceTo_0 {l : Launch} {d N : Nat} {Λ : Lay} {P : Mem → Prop} {σ : Mem} {a1 a2 t : Int} (o_a1 : Ob N Λ a1 15 3) (h0d : 1 ≤ d)
    (h : (∀ τ1, τ1 = st σ a1 2 0 → WV l mX7_reduceTo d P 6 [(2, t), (2, a1), (2, a2), (0, 0)] [] N Λ τ1)) :
    WV l mX7_reduceTo d P 0 [(2, t), (2, a1), (2, a2), (3, 0)] [] N Λ σ := by
  have hd_1 : 1 ≤ d := Nat.le_trans (by decide) h0d
  refine r_aload_n (x := a1) d_X7_reduceTo_0 rfl o_a1.1 ?_
  refine x_callVV (Y2 := mX5_empty) (c := a1) (As := []) (S := []) d_X7_reduceTo_1 ok_mX5_empty ml_X7_51 rfl (Nat.le_of_ble_eq_true rfl) (Nat.le_of_ble_eq_true rfl) rfl hd_1 kX5 o_a1 (c_X5_empty (v_X5_empty_0 o_a1 ?_))
  intro τ1 eτ1
  have h := h τ1 eτ1
  show WP l mX7_reduceTo (rm d 0 0) noX _ 0 0 4 [(2, t), (2, a1), (2, a2), (3, 0)] [] N Λ τ1
  refine r_iconst (x := 0) d_X7_reduceTo_4 ⟨by decide, by decide⟩ ?_
  refine r_istore_n (L2 := [(2, t), (2, a1), (2, a2), (0, 0)]) d_X7_reduceTo_5 (by decide) rfl rfl ?_
  exact h
theorem v_X7_reduceTo_6 {l : Launch} {d N : Nat} {Λ : Lay} {P : Mem → Prop} {σ : Mem} {x3 a1 a2 a2_keys a2_numbers t : Int} (o_a2 : Ob N Λ a2 15 3) (o_t : Ob N Λ t 16 3) (f_a2_keys : (Λ a2).2.2 0 = a2_keys) (o_a1 : Ob N Λ a1 15 3) (f_a2_numbers : (Λ a2).2.2 1 = a2_numbers) (h0d : 1 ≤ d)
    (h : (((σ a2 2) ≤ x3 → P σ) ∧ (¬ ((σ a2 2) ≤ x3) → (Ix N Λ a2_keys 1 x3 ∧ (CI l mX7_bracketsThatAre (d - 1) [(2, t), (1, (σ a2_keys x3)), (0, 0)] N Λ σ (fun v2 σ1 => ((¬ v2 = 0 → (∀ y3, y3 = addI x3 1 → WV l mX7_reduceTo d P 6 [(2, t), (2, a1), (2, a2), (0, y3)] [] N Λ σ1)) ∧ (v2 = 0 → (Ix N Λ a2_keys 1 x3 ∧ (Ix N Λ a2_numbers 0 x3 ∧ (CI l mX5_lay (d - 1) [(2, a1), (1, (σ1 a2_keys x3)), (1, (σ1 a2_numbers x3))] N Λ σ1 (fun v5 σ4 => (∀ y6, y6 = addI x3 1 → WV l mX7_reduceTo d P 6 [(2, t), (2, a1), (2, a2), (0, y6)] [] N Λ σ4))))))))))))) :
    WV l mX7_reduceTo d P 6 [(2, t), (2, a1), (2, a2), (0, x3)] [] N Λ σ := by
  have hd_1 : 1 ≤ d := Nat.le_trans (by decide) h0d
  refine r_iload_n (x := x3) d_X7_reduceTo_6 rfl ?_
  refine r_aload_n (x := a2) d_X7_reduceTo_7 rfl o_a2.1 ?_
  refine r_getf (j := 2) (t := 0) (x := (σ a2 2)) d_X7_reduceTo_8 kX5 (by decide) fl_X7_41 o_a2.1 o_a2.2.1 o_a2.2.2.1 o_a2.2.2.2 rfl rfl ?_
  refine r_ic_ge (tgt := 52) d_X7_reduceTo_11 rfl (fun hc => ?_) (fun hc => ?_)
  · have h := h.1 hc
    exact r_vret d_X7_reduceTo_52 rfl (Nat.le_refl 0) (Nat.le_refl 0) ⟨rfl, rfl, rfl, h⟩
  · have h := h.2 hc
    refine r_aload_n (x := t) d_X7_reduceTo_14 rfl o_t.1 ?_
    refine r_aload_n (x := a2) d_X7_reduceTo_15 rfl o_a2.1 ?_
    refine r_getf (j := 0) (t := 2) (x := a2_keys) d_X7_reduceTo_16 kX5 (by decide) fl_X7_54 o_a2.1 o_a2.2.1 o_a2.2.2.1 o_a2.2.2.2 rfl f_a2_keys ?_
    refine r_iload_n (x := x3) d_X7_reduceTo_19 rfl ?_
    refine x_lald d_X7_reduceTo_20 h.1 ?_
    have h := h.2
    refine r_iconst (x := 0) d_X7_reduceTo_21 ⟨by decide, by decide⟩ ?_
    refine x_callVI (Y2 := mX7_bracketsThatAre) (c := t) (As := [(1, (σ a2_keys x3)), (0, 0)]) (S := []) d_X7_reduceTo_22 ok_mX7_bracketsThatAre ml_X7_58 rfl (Nat.le_of_ble_eq_true rfl) (Nat.le_of_ble_eq_true rfl) rfl hd_1 kX7 o_t (CI.mono h (fun v2 σ1 h => ?_))
    refine r_if_ne (tgt := 46) d_X7_reduceTo_25 rfl (fun hc => ?_) (fun hc => ?_)
    · have h := h.1 hc
      refine x_iinc (x := x3) (L := [(2, t), (2, a1), (2, a2), (0, x3)]) d_X7_reduceTo_46 rfl (by decide) rfl (fun y3 ey3 => ?_)
      have h := h y3 ey3
      show WP _ _ _ _ _ _ _ _ [(2, t), (2, a1), (2, a2), (0, y3)] _ _ _ _
      refine r_goto (tgt := 6) d_X7_reduceTo_49 rfl ?_
      exact h
    · have h := h.2 hc
      refine r_aload_n (x := a1) d_X7_reduceTo_28 rfl o_a1.1 ?_
      refine r_aload_n (x := a2) d_X7_reduceTo_29 rfl o_a2.1 ?_
      refine r_getf (j := 0) (t := 2) (x := a2_keys) d_X7_reduceTo_30 kX5 (by decide) fl_X7_54 o_a2.1 o_a2.2.1 o_a2.2.2.1 o_a2.2.2.2 rfl f_a2_keys ?_
      refine r_iload_n (x := x3) d_X7_reduceTo_33 rfl ?_
      refine x_lald d_X7_reduceTo_34 h.1 ?_
      have h := h.2
      refine r_aload_n (x := a2) d_X7_reduceTo_35 rfl o_a2.1 ?_
      refine r_getf (j := 1) (t := 2) (x := a2_numbers) d_X7_reduceTo_36 kX5 (by decide) fl_X7_62 o_a2.1 o_a2.2.1 o_a2.2.2.1 o_a2.2.2.2 rfl f_a2_numbers ?_
      refine r_iload_n (x := x3) d_X7_reduceTo_39 rfl ?_
      refine x_iald d_X7_reduceTo_40 h.1 ?_
      have h := h.2
      refine r_i2l d_X7_reduceTo_41 ?_
      refine x_callVI (Y2 := mX5_lay) (c := a1) (As := [(1, (σ1 a2_keys x3)), (1, (σ1 a2_numbers x3))]) (S := []) d_X7_reduceTo_42 ok_mX5_lay ml_X7_65 rfl (Nat.le_of_ble_eq_true rfl) (Nat.le_of_ble_eq_true rfl) rfl hd_1 kX5 o_a1 (CI.mono h (fun v5 σ4 h => ?_))
      refine r_pop d_X7_reduceTo_45 rfl ?_
      refine x_iinc (x := x3) (L := [(2, t), (2, a1), (2, a2), (0, x3)]) d_X7_reduceTo_46 rfl (by decide) rfl (fun y6 ey6 => ?_)
      have h := h y6 ey6
      show WP _ _ _ _ _ _ _ _ [(2, t), (2, a1), (2, a2), (0, y6)] _ _ _ _
      refine r_goto (tgt := 6) d_X7_reduceTo_49 rfl ?_
      exact h
theorem v_X7_cannotVanish_0 {l : Launch} {d N : Nat} {Λ : Lay} {P : Int → Mem → Prop} {σ : Mem} {x1 t : Int} (o_t : Ob N Λ t 16 3) (h0d : 1 ≤ d)
    (h : (CI l mX6_bracketsIn (d - 1) [(1, x1)] N Λ σ (fun v2 σ1 => ((v2 ≤ 0 → P 0 σ1) ∧ (¬ (v2 ≤ 0) → (CI l mX7_bracketsThatAre (d - 1) [(2, t), (1, x1), (0, 1)] N Λ σ1 (fun v4 σ3 => ((¬ v4 = v2 → P 0 σ3) ∧ (v4 = v2 → P 1 σ3))))))))) :
    WI l mX7_cannotVanish d P 0 [(2, t), (1, x1), (3, 0), (3, 0)] [] N Λ σ := by
  have hd_1 : 1 ≤ d := Nat.le_trans (by decide) h0d
  refine r_lload_n (x := x1) d_X7_cannotVanish_0 rfl ?_
  refine x_callSI (Y2 := mX6_bracketsIn) (As := [(1, x1)]) (S := []) d_X7_cannotVanish_1 ok_mX6_bracketsIn ml_X7_69 rfl (Nat.le_of_ble_eq_true rfl) (Nat.le_of_ble_eq_true rfl) rfl hd_1 (CI.mono h (fun v2 σ1 h => ?_))
  refine r_istore_n (L2 := [(2, t), (1, x1), (3, 0), (0, v2)]) d_X7_cannotVanish_4 (by decide) rfl rfl ?_
  refine r_iload_n (x := v2) d_X7_cannotVanish_5 rfl ?_
  refine r_if_le (tgt := 23) d_X7_cannotVanish_6 rfl (fun hc => ?_) (fun hc => ?_)
  · have h := h.1 hc
    refine r_iconst (x := 0) d_X7_cannotVanish_23 ⟨by decide, by decide⟩ ?_
    exact r_iret d_X7_cannotVanish_24 rfl (by decide) (Nat.le_refl 0) (Nat.le_refl 0) ⟨_, rfl, rfl, rfl, h⟩
  · have h := h.2 hc
    refine r_aload_n (x := t) d_X7_cannotVanish_9 rfl o_t.1 ?_
    refine r_lload_n (x := x1) d_X7_cannotVanish_10 rfl ?_
    refine r_iconst (x := 1) d_X7_cannotVanish_11 ⟨by decide, by decide⟩ ?_
    refine x_callVI (Y2 := mX7_bracketsThatAre) (c := t) (As := [(1, x1), (0, 1)]) (S := []) d_X7_cannotVanish_12 ok_mX7_bracketsThatAre ml_X7_58 rfl (Nat.le_of_ble_eq_true rfl) (Nat.le_of_ble_eq_true rfl) rfl hd_1 kX7 o_t (CI.mono h (fun v4 σ3 h => ?_))
    refine r_iload_n (x := v2) d_X7_cannotVanish_15 rfl ?_
    refine r_ic_ne (tgt := 23) d_X7_cannotVanish_16 rfl (fun hc => ?_) (fun hc => ?_)
    · have h := h.1 hc
      refine r_iconst (x := 0) d_X7_cannotVanish_23 ⟨by decide, by decide⟩ ?_
      exact r_iret d_X7_cannotVanish_24 rfl (by decide) (Nat.le_refl 0) (Nat.le_refl 0) ⟨_, rfl, rfl, rfl, h⟩
    · have h := h.2 hc
      refine r_iconst (x := 1) d_X7_cannotVanish_19 ⟨by decide, by decide⟩ ?_
      refine r_goto (tgt := 24) d_X7_cannotVanish_20 rfl ?_
      exact r_iret d_X7_cannotVanish_24 rfl (by decide) (Nat.le_refl 0) (Nat.le_refl 0) ⟨_, rfl, rfl, rfl, h⟩
theorem v_X7_determinant_0 {l : Launch} {d N : Nat} {Λ : Lay} {P : Int → Mem → Prop} {σ : Mem} {x1 x2 x3 t t_places : Int} (o_t : Ob N Λ t 16 3) (f_t_places : (Λ t).2.2 1 = t_places)
    (h : (∀ y1, y1 = (mulI 3 x1) → (∀ y2, y2 = (mulI 3 x2) → (∀ y3, y3 = (mulI 3 x3) → (Ix N Λ t_places 0 y1 ∧ (Ix N Λ t_places 0 (addI y2 1) ∧ (Ix N Λ t_places 0 (addI y3 2) ∧ (Ix N Λ t_places 0 (addI y2 2) ∧ (Ix N Λ t_places 0 (addI y3 1) ∧ (Ix N Λ t_places 0 (addI y1 1) ∧ (Ix N Λ t_places 0 y2 ∧ (Ix N Λ t_places 0 (addI y3 2) ∧ (Ix N Λ t_places 0 (addI y2 2) ∧ (Ix N Λ t_places 0 y3 ∧ (Ix N Λ t_places 0 (addI y1 2) ∧ (Ix N Λ t_places 0 y2 ∧ (Ix N Λ t_places 0 (addI y3 1) ∧ (Ix N Λ t_places 0 (addI y2 1) ∧ (Ix N Λ t_places 0 y3 ∧ P (addI (subI (mulI (σ t_places y1) (subI (mulI (σ t_places (addI y2 1)) (σ t_places (addI y3 2))) (mulI (σ t_places (addI y2 2)) (σ t_places (addI y3 1))))) (mulI (σ t_places (addI y1 1)) (subI (mulI (σ t_places y2) (σ t_places (addI y3 2))) (mulI (σ t_places (addI y2 2)) (σ t_places y3))))) (mulI (σ t_places (addI y1 2)) (subI (mulI (σ t_places y2) (σ t_places (addI y3 1))) (mulI (σ t_places (addI y2 1)) (σ t_places y3))))) σ))))))))))))))))))) :
    WI l mX7_determinant d P 0 [(2, t), (0, x1), (0, x2), (0, x3), (3, 0), (3, 0), (3, 0)] [] N Λ σ := by
  refine r_iconst (x := 3) d_X7_determinant_0 ⟨by decide, by decide⟩ ?_
  refine r_iload_n (x := x1) d_X7_determinant_1 rfl ?_
  refine r_imul d_X7_determinant_2 ?_
  refine r_nm (fun y1 ey1 => ?_)
  have h := h y1 ey1
  refine r_istore (L2 := [(2, t), (0, x1), (0, x2), (0, x3), (0, y1), (3, 0), (3, 0)]) d_X7_determinant_3 (by decide) rfl rfl ?_
  refine r_iconst (x := 3) d_X7_determinant_5 ⟨by decide, by decide⟩ ?_
  refine r_iload_n (x := x2) d_X7_determinant_6 rfl ?_
  refine r_imul d_X7_determinant_7 ?_
  refine r_nm (fun y2 ey2 => ?_)
  have h := h y2 ey2
  refine r_istore (L2 := [(2, t), (0, x1), (0, x2), (0, x3), (0, y1), (0, y2), (3, 0)]) d_X7_determinant_8 (by decide) rfl rfl ?_
  refine r_iconst (x := 3) d_X7_determinant_10 ⟨by decide, by decide⟩ ?_
  refine r_iload_n (x := x3) d_X7_determinant_11 rfl ?_
  refine r_imul d_X7_determinant_12 ?_
  refine r_nm (fun y3 ey3 => ?_)
  have h := h y3 ey3
  refine r_istore (L2 := [(2, t), (0, x1), (0, x2), (0, x3), (0, y1), (0, y2), (0, y3)]) d_X7_determinant_13 (by decide) rfl rfl ?_
  refine r_aload_n (x := t) d_X7_determinant_15 rfl o_t.1 ?_
  refine r_getf (j := 1) (t := 2) (x := t_places) d_X7_determinant_16 kX7 (by decide) fl_X7_17 o_t.1 o_t.2.1 o_t.2.2.1 o_t.2.2.2 rfl f_t_places ?_
  refine r_iload (x := y1) d_X7_determinant_19 rfl ?_
  refine x_iald d_X7_determinant_21 h.1 ?_
  have h := h.2
  refine r_aload_n (x := t) d_X7_determinant_22 rfl o_t.1 ?_
  refine r_getf (j := 1) (t := 2) (x := t_places) d_X7_determinant_23 kX7 (by decide) fl_X7_17 o_t.1 o_t.2.1 o_t.2.2.1 o_t.2.2.2 rfl f_t_places ?_
  refine r_iload (x := y2) d_X7_determinant_26 rfl ?_
  refine r_iconst (x := 1) d_X7_determinant_28 ⟨by decide, by decide⟩ ?_
  refine r_iadd d_X7_determinant_29 ?_
  refine x_iald d_X7_determinant_30 h.1 ?_
  have h := h.2
  refine r_aload_n (x := t) d_X7_determinant_31 rfl o_t.1 ?_
  refine r_getf (j := 1) (t := 2) (x := t_places) d_X7_determinant_32 kX7 (by decide) fl_X7_17 o_t.1 o_t.2.1 o_t.2.2.1 o_t.2.2.2 rfl f_t_places ?_
  refine r_iload (x := y3) d_X7_determinant_35 rfl ?_
  refine r_iconst (x := 2) d_X7_determinant_37 ⟨by decide, by decide⟩ ?_
  refine r_iadd d_X7_determinant_38 ?_
  refine x_iald d_X7_determinant_39 h.1 ?_
  have h := h.2
  refine r_imul d_X7_determinant_40 ?_
  refine r_aload_n (x := t) d_X7_determinant_41 rfl o_t.1 ?_
  refine r_getf (j := 1) (t := 2) (x := t_places) d_X7_determinant_42 kX7 (by decide) fl_X7_17 o_t.1 o_t.2.1 o_t.2.2.1 o_t.2.2.2 rfl f_t_places ?_
  refine r_iload (x := y2) d_X7_determinant_45 rfl ?_
  refine r_iconst (x := 2) d_X7_determinant_47 ⟨by decide, by decide⟩ ?_
  refine r_iadd d_X7_determinant_48 ?_
  refine x_iald d_X7_determinant_49 h.1 ?_
  have h := h.2
  refine r_aload_n (x := t) d_X7_determinant_50 rfl o_t.1 ?_
  refine r_getf (j := 1) (t := 2) (x := t_places) d_X7_determinant_51 kX7 (by decide) fl_X7_17 o_t.1 o_t.2.1 o_t.2.2.1 o_t.2.2.2 rfl f_t_places ?_
  refine r_iload (x := y3) d_X7_determinant_54 rfl ?_
  refine r_iconst (x := 1) d_X7_determinant_56 ⟨by decide, by decide⟩ ?_
  refine r_iadd d_X7_determinant_57 ?_
  refine x_iald d_X7_determinant_58 h.1 ?_
  have h := h.2
  refine r_imul d_X7_determinant_59 ?_
  refine r_isub d_X7_determinant_60 ?_
  refine r_imul d_X7_determinant_61 ?_
  refine r_aload_n (x := t) d_X7_determinant_62 rfl o_t.1 ?_
  refine r_getf (j := 1) (t := 2) (x := t_places) d_X7_determinant_63 kX7 (by decide) fl_X7_17 o_t.1 o_t.2.1 o_t.2.2.1 o_t.2.2.2 rfl f_t_places ?_
  refine r_iload (x := y1) d_X7_determinant_66 rfl ?_
  refine r_iconst (x := 1) d_X7_determinant_68 ⟨by decide, by decide⟩ ?_
  refine r_iadd d_X7_determinant_69 ?_
  refine x_iald d_X7_determinant_70 h.1 ?_
  have h := h.2
  refine r_aload_n (x := t) d_X7_determinant_71 rfl o_t.1 ?_
  refine r_getf (j := 1) (t := 2) (x := t_places) d_X7_determinant_72 kX7 (by decide) fl_X7_17 o_t.1 o_t.2.1 o_t.2.2.1 o_t.2.2.2 rfl f_t_places ?_
  refine r_iload (x := y2) d_X7_determinant_75 rfl ?_
  refine x_iald d_X7_determinant_77 h.1 ?_
  have h := h.2
  refine r_aload_n (x := t) d_X7_determinant_78 rfl o_t.1 ?_
  refine r_getf (j := 1) (t := 2) (x := t_places) d_X7_determinant_79 kX7 (by decide) fl_X7_17 o_t.1 o_t.2.1 o_t.2.2.1 o_t.2.2.2 rfl f_t_places ?_
  refine r_iload (x := y3) d_X7_determinant_82 rfl ?_
  refine r_iconst (x := 2) d_X7_determinant_84 ⟨by decide, by decide⟩ ?_
  refine r_iadd d_X7_determinant_85 ?_
  refine x_iald d_X7_determinant_86 h.1 ?_
  have h := h.2
  refine r_imul d_X7_determinant_87 ?_
  refine r_aload_n (x := t) d_X7_determinant_88 rfl o_t.1 ?_
  refine r_getf (j := 1) (t := 2) (x := t_places) d_X7_determinant_89 kX7 (by decide) fl_X7_17 o_t.1 o_t.2.1 o_t.2.2.1 o_t.2.2.2 rfl f_t_places ?_
  refine r_iload (x := y2) d_X7_determinant_92 rfl ?_
  refine r_iconst (x := 2) d_X7_determinant_94 ⟨by decide, by decide⟩ ?_
  refine r_iadd d_X7_determinant_95 ?_
  refine x_iald d_X7_determinant_96 h.1 ?_
  have h := h.2
  refine r_aload_n (x := t) d_X7_determinant_97 rfl o_t.1 ?_
  refine r_getf (j := 1) (t := 2) (x := t_places) d_X7_determinant_98 kX7 (by decide) fl_X7_17 o_t.1 o_t.2.1 o_t.2.2.1 o_t.2.2.2 rfl f_t_places ?_
  refine r_iload (x := y3) d_X7_determinant_101 rfl ?_
  refine x_iald d_X7_determinant_103 h.1 ?_
  have h := h.2
  refine r_imul d_X7_determinant_104 ?_
  refine r_isub d_X7_determinant_105 ?_
  refine r_imul d_X7_determinant_106 ?_
  refine r_isub d_X7_determinant_107 ?_
  refine r_aload_n (x := t) d_X7_determinant_108 rfl o_t.1 ?_
  refine r_getf (j := 1) (t := 2) (x := t_places) d_X7_determinant_109 kX7 (by decide) fl_X7_17 o_t.1 o_t.2.1 o_t.2.2.1 o_t.2.2.2 rfl f_t_places ?_
  refine r_iload (x := y1) d_X7_determinant_112 rfl ?_
  refine r_iconst (x := 2) d_X7_determinant_114 ⟨by decide, by decide⟩ ?_
  refine r_iadd d_X7_determinant_115 ?_
  refine x_iald d_X7_determinant_116 h.1 ?_
  have h := h.2
  refine r_aload_n (x := t) d_X7_determinant_117 rfl o_t.1 ?_
  refine r_getf (j := 1) (t := 2) (x := t_places) d_X7_determinant_118 kX7 (by decide) fl_X7_17 o_t.1 o_t.2.1 o_t.2.2.1 o_t.2.2.2 rfl f_t_places ?_
  refine r_iload (x := y2) d_X7_determinant_121 rfl ?_
  refine x_iald d_X7_determinant_123 h.1 ?_
  have h := h.2
  refine r_aload_n (x := t) d_X7_determinant_124 rfl o_t.1 ?_
  refine r_getf (j := 1) (t := 2) (x := t_places) d_X7_determinant_125 kX7 (by decide) fl_X7_17 o_t.1 o_t.2.1 o_t.2.2.1 o_t.2.2.2 rfl f_t_places ?_
  refine r_iload (x := y3) d_X7_determinant_128 rfl ?_
  refine r_iconst (x := 1) d_X7_determinant_130 ⟨by decide, by decide⟩ ?_
  refine r_iadd d_X7_determinant_131 ?_
  refine x_iald d_X7_determinant_132 h.1 ?_
  have h := h.2
  refine r_imul d_X7_determinant_133 ?_
  refine r_aload_n (x := t) d_X7_determinant_134 rfl o_t.1 ?_
  refine r_getf (j := 1) (t := 2) (x := t_places) d_X7_determinant_135 kX7 (by decide) fl_X7_17 o_t.1 o_t.2.1 o_t.2.2.1 o_t.2.2.2 rfl f_t_places ?_
  refine r_iload (x := y2) d_X7_determinant_138 rfl ?_
  refine r_iconst (x := 1) d_X7_determinant_140 ⟨by decide, by decide⟩ ?_
  refine r_iadd d_X7_determinant_141 ?_
  refine x_iald d_X7_determinant_142 h.1 ?_
  have h := h.2
  refine r_aload_n (x := t) d_X7_determinant_143 rfl o_t.1 ?_
  refine r_getf (j := 1) (t := 2) (x := t_places) d_X7_determinant_144 kX7 (by decide) fl_X7_17 o_t.1 o_t.2.1 o_t.2.2.1 o_t.2.2.2 rfl f_t_places ?_
  refine r_iload (x := y3) d_X7_determinant_147 rfl ?_
  refine x_iald d_X7_determinant_149 h.1 ?_
  have h := h.2
  refine r_imul d_X7_determinant_150 ?_
  refine r_isub d_X7_determinant_151 ?_
  refine r_imul d_X7_determinant_152 ?_
  refine r_iadd d_X7_determinant_153 ?_
  exact r_iret d_X7_determinant_154 rfl rfl (Nat.le_refl 0) (Nat.le_refl 0) ⟨_, rfl, rfl, rfl, h⟩
theorem v_X7_bracketsWorthZero_0 {l : Launch} {d N : Nat} {Λ : Lay} {P : Int → Mem → Prop} {σ : Mem} {t : Int}
    (h : WI l mX7_bracketsWorthZero d P 4 [(2, t), (0, 0), (0, 0), (3, 0), (3, 0)] [] N Λ σ) :
    WI l mX7_bracketsWorthZero d P 0 [(2, t), (3, 0), (3, 0), (3, 0), (3, 0)] [] N Λ σ := by
  refine r_iconst (x := 0) d_X7_bracketsWorthZero_0 ⟨by decide, by decide⟩ ?_
  refine r_istore_n (L2 := [(2, t), (0, 0), (3, 0), (3, 0), (3, 0)]) d_X7_bracketsWorthZero_1 (by decide) rfl rfl ?_
  refine r_iconst (x := 0) d_X7_bracketsWorthZero_2 ⟨by decide, by decide⟩ ?_
  refine r_istore_n (L2 := [(2, t), (0, 0), (0, 0), (3, 0), (3, 0)]) d_X7_bracketsWorthZero_3 (by decide) rfl rfl ?_
  exact h
theorem v_X7_bracketsWorthZero_4 {l : Launch} {d N : Nat} {Λ : Lay} {P : Int → Mem → Prop} {σ : Mem} {x1 x2 t : Int}
    (h : ((10 ≤ x2 → P x1 σ) ∧ (¬ (10 ≤ x2) → (∀ y1, y1 = (addI x2 1) → WI l mX7_bracketsWorthZero d P 14 [(2, t), (0, x1), (0, x2), (0, y1), (3, 0)] [] N Λ σ)))) :
    WI l mX7_bracketsWorthZero d P 4 [(2, t), (0, x1), (0, x2), (3, 0), (3, 0)] [] N Λ σ := by
  refine r_iload_n (x := x2) d_X7_bracketsWorthZero_4 rfl ?_
  refine r_bipush (x := 10) d_X7_bracketsWorthZero_5 ⟨by decide, by decide⟩ (by decide) ?_
  refine r_ic_ge (tgt := 64) d_X7_bracketsWorthZero_7 rfl (fun hc => ?_) (fun hc => ?_)
  · have h := h.1 hc
    refine r_iload_n (x := x1) d_X7_bracketsWorthZero_64 rfl ?_
    exact r_iret d_X7_bracketsWorthZero_65 rfl rfl (Nat.le_refl 0) (Nat.le_refl 0) ⟨_, rfl, rfl, rfl, h⟩
  · have h := h.2 hc
    refine r_iload_n (x := x2) d_X7_bracketsWorthZero_10 rfl ?_
    refine r_iconst (x := 1) d_X7_bracketsWorthZero_11 ⟨by decide, by decide⟩ ?_
    refine r_iadd d_X7_bracketsWorthZero_12 ?_
    refine r_nm (fun y1 ey1 => ?_)
    have h := h y1 ey1
    refine r_istore_n (L2 := [(2, t), (0, x1), (0, x2), (0, y1), (3, 0)]) d_X7_bracketsWorthZero_13 (by decide) rfl rfl ?_
    exact h
theorem v_X7_bracketsWorthZero_14 {l : Launch} {d N : Nat} {Λ : Lay} {P : Int → Mem → Prop} {σ : Mem} {x1 x2 x3 t : Int}
    (h : ((10 ≤ x3 → (∀ y1, y1 = addI x2 1 → WI l mX7_bracketsWorthZero d P 4 [(2, t), (0, x1), (0, y1), (3, 0), (3, 0)] [] N Λ σ)) ∧ (¬ (10 ≤ x3) → (∀ y2, y2 = (addI x3 1) → WI l mX7_bracketsWorthZero d P 25 [(2, t), (0, x1), (0, x2), (0, x3), (0, y2)] [] N Λ σ)))) :
    WI l mX7_bracketsWorthZero d P 14 [(2, t), (0, x1), (0, x2), (0, x3), (3, 0)] [] N Λ σ := by
  refine r_iload_n (x := x3) d_X7_bracketsWorthZero_14 rfl ?_
  refine r_bipush (x := 10) d_X7_bracketsWorthZero_15 ⟨by decide, by decide⟩ (by decide) ?_
  refine r_ic_ge (tgt := 58) d_X7_bracketsWorthZero_17 rfl (fun hc => ?_) (fun hc => ?_)
  · have h := h.1 hc
    refine x_iinc (x := x2) (L := [(2, t), (0, x1), (0, x2), (0, x3), (3, 0)]) d_X7_bracketsWorthZero_58 rfl (by decide) rfl (fun y1 ey1 => ?_)
    have h := h y1 ey1
    show WP _ _ _ _ _ _ _ _ [(2, t), (0, x1), (0, y1), (0, x3), (3, 0)] _ _ _ _
    refine r_goto (tgt := 4) d_X7_bracketsWorthZero_61 rfl ?_
    exact x_mask h ⟨Or.inr rfl, Or.inr rfl, Or.inr rfl, Or.inl rfl, Or.inl rfl, trivial⟩
  · have h := h.2 hc
    refine r_iload_n (x := x3) d_X7_bracketsWorthZero_20 rfl ?_
    refine r_iconst (x := 1) d_X7_bracketsWorthZero_21 ⟨by decide, by decide⟩ ?_
    refine r_iadd d_X7_bracketsWorthZero_22 ?_
    refine r_nm (fun y2 ey2 => ?_)
    have h := h y2 ey2
    refine r_istore (L2 := [(2, t), (0, x1), (0, x2), (0, x3), (0, y2)]) d_X7_bracketsWorthZero_23 (by decide) rfl rfl ?_
    exact h
theorem v_X7_bracketsWorthZero_25 {l : Launch} {d N : Nat} {Λ : Lay} {P : Int → Mem → Prop} {σ : Mem} {x1 x2 x3 x4 t : Int} (o_t : Ob N Λ t 16 3) (h0d : 1 ≤ d)
    (h : ((10 ≤ x4 → (∀ y1, y1 = addI x3 1 → WI l mX7_bracketsWorthZero d P 14 [(2, t), (0, x1), (0, x2), (0, y1), (3, 0)] [] N Λ σ)) ∧ (¬ (10 ≤ x4) → (CI l mX7_determinant (d - 1) [(2, t), (0, x2), (0, x3), (0, x4)] N Λ σ (fun v3 σ2 => ((¬ v3 = 0 → (∀ y4, y4 = addI x4 1 → WI l mX7_bracketsWorthZero d P 25 [(2, t), (0, x1), (0, x2), (0, x3), (0, y4)] [] N Λ σ2)) ∧ (v3 = 0 → (∀ y5, y5 = addI x1 1 → (∀ y6, y6 = addI x4 1 → WI l mX7_bracketsWorthZero d P 25 [(2, t), (0, y5), (0, x2), (0, x3), (0, y6)] [] N Λ σ2))))))))) :
    WI l mX7_bracketsWorthZero d P 25 [(2, t), (0, x1), (0, x2), (0, x3), (0, x4)] [] N Λ σ := by
  have hd_1 : 1 ≤ d := Nat.le_trans (by decide) h0d
  refine r_iload (x := x4) d_X7_bracketsWorthZero_25 rfl ?_
  refine r_bipush (x := 10) d_X7_bracketsWorthZero_27 ⟨by decide, by decide⟩ (by decide) ?_
  refine r_ic_ge (tgt := 52) d_X7_bracketsWorthZero_29 rfl (fun hc => ?_) (fun hc => ?_)
  · have h := h.1 hc
    refine x_iinc (x := x3) (L := [(2, t), (0, x1), (0, x2), (0, x3), (0, x4)]) d_X7_bracketsWorthZero_52 rfl (by decide) rfl (fun y1 ey1 => ?_)
    have h := h y1 ey1
    show WP _ _ _ _ _ _ _ _ [(2, t), (0, x1), (0, x2), (0, y1), (0, x4)] _ _ _ _
    refine r_goto (tgt := 14) d_X7_bracketsWorthZero_55 rfl ?_
    exact x_mask h ⟨Or.inr rfl, Or.inr rfl, Or.inr rfl, Or.inr rfl, Or.inl rfl, trivial⟩
  · have h := h.2 hc
    refine r_aload_n (x := t) d_X7_bracketsWorthZero_32 rfl o_t.1 ?_
    refine r_iload_n (x := x2) d_X7_bracketsWorthZero_33 rfl ?_
    refine r_iload_n (x := x3) d_X7_bracketsWorthZero_34 rfl ?_
    refine r_iload (x := x4) d_X7_bracketsWorthZero_35 rfl ?_
    refine x_callVI (Y2 := mX7_determinant) (c := t) (As := [(0, x2), (0, x3), (0, x4)]) (S := []) d_X7_bracketsWorthZero_37 ok_mX7_determinant ml_X7_79 rfl (Nat.le_of_ble_eq_true rfl) (Nat.le_of_ble_eq_true rfl) rfl hd_1 kX7 o_t (CI.mono h (fun v3 σ2 h => ?_))
    refine r_if_ne (tgt := 46) d_X7_bracketsWorthZero_40 rfl (fun hc => ?_) (fun hc => ?_)
    · have h := h.1 hc
      refine x_iinc (x := x4) (L := [(2, t), (0, x1), (0, x2), (0, x3), (0, x4)]) d_X7_bracketsWorthZero_46 rfl (by decide) rfl (fun y4 ey4 => ?_)
      have h := h y4 ey4
      show WP _ _ _ _ _ _ _ _ [(2, t), (0, x1), (0, x2), (0, x3), (0, y4)] _ _ _ _
      refine r_goto (tgt := 25) d_X7_bracketsWorthZero_49 rfl ?_
      exact h
    · have h := h.2 hc
      refine x_iinc (x := x1) (L := [(2, t), (0, x1), (0, x2), (0, x3), (0, x4)]) d_X7_bracketsWorthZero_43 rfl (by decide) rfl (fun y5 ey5 => ?_)
      have h := h y5 ey5
      show WP _ _ _ _ _ _ _ _ [(2, t), (0, y5), (0, x2), (0, x3), (0, x4)] _ _ _ _
      refine x_iinc (x := x4) (L := [(2, t), (0, y5), (0, x2), (0, x3), (0, x4)]) d_X7_bracketsWorthZero_46 rfl (by decide) rfl (fun y6 ey6 => ?_)
      have h := h y6 ey6
      show WP _ _ _ _ _ _ _ _ [(2, t), (0, y5), (0, x2), (0, x3), (0, y6)] _ _ _ _
      refine r_goto (tgt := 25) d_X7_bracketsWorthZero_49 rfl ?_
      exact h
theorem v_X7_isTooGreat_0 {l : Launch} {d N : Nat} {Λ : Lay} {P : Int → Mem → Prop} {σ : Mem} {x0 x2 : Int}
    (h : ((¬ x2 = 0 → ((¬ x2 = (-1) → (¬ x2 = 0 ∧ (((cmpL (divL (mulL x0 x2) x2) x0) = 0 → P 0 σ) ∧ (¬ ((cmpL (divL (mulL x0 x2) x2) x0) = 0) → P 1 σ)))) ∧ (x2 = (-1) → ((¬ (cmpL x0 (-9223372036854775808)) = 0 → P 0 σ) ∧ ((cmpL x0 (-9223372036854775808)) = 0 → P 1 σ))))) ∧ (x2 = 0 → P 0 σ))) :
    WI l mX7_isTooGreat d P 0 [(1, x0), (3, 0), (0, x2)] [] N Λ σ := by
  refine r_iload_n (x := x2) d_X7_isTooGreat_0 rfl ?_
  refine r_if_ne (tgt := 6) d_X7_isTooGreat_1 rfl (fun hc => ?_) (fun hc => ?_)
  · have h := h.1 hc
    refine r_iload_n (x := x2) d_X7_isTooGreat_6 rfl ?_
    refine r_iconst (x := (-1)) d_X7_isTooGreat_7 ⟨by decide, by decide⟩ ?_
    refine r_ic_ne (tgt := 25) d_X7_isTooGreat_8 rfl (fun hc => ?_) (fun hc => ?_)
    · have h := h.1 hc
      refine r_lload_n (x := x0) d_X7_isTooGreat_25 rfl ?_
      refine r_iload_n (x := x2) d_X7_isTooGreat_26 rfl ?_
      refine r_i2l d_X7_isTooGreat_27 ?_
      refine r_lmul d_X7_isTooGreat_28 ?_
      refine r_iload_n (x := x2) d_X7_isTooGreat_29 rfl ?_
      refine r_i2l d_X7_isTooGreat_30 ?_
      refine r_ldiv d_X7_isTooGreat_31 h.1 ?_
      have h := h.2
      refine r_lload_n (x := x0) d_X7_isTooGreat_32 rfl ?_
      refine r_lcmp d_X7_isTooGreat_33 ?_
      refine r_if_eq (tgt := 41) d_X7_isTooGreat_34 rfl (fun hc => ?_) (fun hc => ?_)
      · have h := h.1 hc
        refine r_iconst (x := 0) d_X7_isTooGreat_41 ⟨by decide, by decide⟩ ?_
        exact r_iret d_X7_isTooGreat_42 rfl (by decide) (Nat.le_refl 0) (Nat.le_refl 0) ⟨_, rfl, rfl, rfl, h⟩
      · have h := h.2 hc
        refine r_iconst (x := 1) d_X7_isTooGreat_37 ⟨by decide, by decide⟩ ?_
        refine r_goto (tgt := 42) d_X7_isTooGreat_38 rfl ?_
        exact r_iret d_X7_isTooGreat_42 rfl (by decide) (Nat.le_refl 0) (Nat.le_refl 0) ⟨_, rfl, rfl, rfl, h⟩
    · have h := h.2 hc
      refine r_lload_n (x := x0) d_X7_isTooGreat_11 rfl ?_
      refine r_ldc2 (x := (-9223372036854775808)) d_X7_isTooGreat_12 ck_X7_91 (by decide) ?_
      refine r_lcmp d_X7_isTooGreat_15 ?_
      refine r_if_ne (tgt := 23) d_X7_isTooGreat_16 rfl (fun hc => ?_) (fun hc => ?_)
      · have h := h.1 hc
        refine r_iconst (x := 0) d_X7_isTooGreat_23 ⟨by decide, by decide⟩ ?_
        exact r_iret d_X7_isTooGreat_24 rfl (by decide) (Nat.le_refl 0) (Nat.le_refl 0) ⟨_, rfl, rfl, rfl, h⟩
      · have h := h.2 hc
        refine r_iconst (x := 1) d_X7_isTooGreat_19 ⟨by decide, by decide⟩ ?_
        refine r_goto (tgt := 24) d_X7_isTooGreat_20 rfl ?_
        exact r_iret d_X7_isTooGreat_24 rfl (by decide) (Nat.le_refl 0) (Nat.le_refl 0) ⟨_, rfl, rfl, rfl, h⟩
  · have h := h.2 hc
    refine r_iconst (x := 0) d_X7_isTooGreat_4 ⟨by decide, by decide⟩ ?_
    exact r_iret d_X7_isTooGreat_5 rfl (by decide) (Nat.le_refl 0) (Nat.le_refl 0) ⟨_, rfl, rfl, rfl, h⟩
theorem v_X7_worthOf_0 {l : Launch} {d N : Nat} {Λ : Lay} {P : Int → Mem → Prop} {σ : Mem} {a1 t : Int}
    (h : WL l mX7_worthOf d P 5 [(2, t), (2, a1), (1, 0), (3, 0), (0, 0), (3, 0), (3, 0), (3, 0), (3, 0), (3, 0), (3, 0)] [] N Λ σ) :
    WL l mX7_worthOf d P 0 [(2, t), (2, a1), (3, 0), (3, 0), (3, 0), (3, 0), (3, 0), (3, 0), (3, 0), (3, 0), (3, 0)] [] N Λ σ := by
  refine r_lconst d_X7_worthOf_0 ?_
  skip
  refine r_lstore_n (L2 := [(2, t), (2, a1), (1, 0), (3, 0), (3, 0), (3, 0), (3, 0), (3, 0), (3, 0), (3, 0), (3, 0)]) d_X7_worthOf_1 (by decide) rfl rfl ?_
  refine r_iconst (x := 0) d_X7_worthOf_2 ⟨by decide, by decide⟩ ?_
  refine r_istore (L2 := [(2, t), (2, a1), (1, 0), (3, 0), (0, 0), (3, 0), (3, 0), (3, 0), (3, 0), (3, 0), (3, 0)]) d_X7_worthOf_3 (by decide) rfl rfl ?_
  exact h
theorem v_X7_worthOf_5 {l : Launch} {d N : Nat} {Λ : Lay} {P : Int → Mem → Prop} {σ : Mem} {x2 x4 a1 a1_keys a1_numbers t : Int} (o_a1 : Ob N Λ a1 15 3) (f_a1_numbers : (Λ a1).2.2 1 = a1_numbers) (f_a1_keys : (Λ a1).2.2 0 = a1_keys) (h0d : 1 ≤ d)
    (h : (((σ a1 2) ≤ x4 → P x2 σ) ∧ (¬ ((σ a1 2) ≤ x4) → (Ix N Λ a1_numbers 0 x4 ∧ (∀ y1, y1 = (σ a1_numbers x4) → (Ix N Λ a1_keys 1 x4 ∧ (CI l mX6_bracketsIn (d - 1) [(1, (σ a1_keys x4))] N Λ σ (fun v3 σ2 => WL l mX7_worthOf d P 39 [(2, t), (2, a1), (1, x2), (3, 0), (0, x4), (1, y1), (3, 0), (0, v3), (0, 0), (3, 0), (3, 0)] [] N Λ σ2)))))))) :
    WL l mX7_worthOf d P 5 [(2, t), (2, a1), (1, x2), (3, 0), (0, x4), (3, 0), (3, 0), (3, 0), (3, 0), (3, 0), (3, 0)] [] N Λ σ := by
  have hd_1 : 1 ≤ d := Nat.le_trans (by decide) h0d
  refine r_iload (x := x4) d_X7_worthOf_5 rfl ?_
  refine r_aload_n (x := a1) d_X7_worthOf_7 rfl o_a1.1 ?_
  refine r_getf (j := 2) (t := 0) (x := (σ a1 2)) d_X7_worthOf_8 kX5 (by decide) fl_X7_41 o_a1.1 o_a1.2.1 o_a1.2.2.1 o_a1.2.2.2 rfl rfl ?_
  refine r_ic_ge (tgt := 146) d_X7_worthOf_11 rfl (fun hc => ?_) (fun hc => ?_)
  · have h := h.1 hc
    refine r_lload_n (x := x2) d_X7_worthOf_146 rfl ?_
    exact r_lret d_X7_worthOf_147 rfl (Nat.le_refl 0) (Nat.le_refl 0) ⟨_, rfl, rfl, rfl, h⟩
  · have h := h.2 hc
    refine r_aload_n (x := a1) d_X7_worthOf_14 rfl o_a1.1 ?_
    refine r_getf (j := 1) (t := 2) (x := a1_numbers) d_X7_worthOf_15 kX5 (by decide) fl_X7_62 o_a1.1 o_a1.2.1 o_a1.2.2.1 o_a1.2.2.2 rfl f_a1_numbers ?_
    refine r_iload (x := x4) d_X7_worthOf_18 rfl ?_
    refine x_iald d_X7_worthOf_20 h.1 ?_
    have h := h.2
    refine r_i2l d_X7_worthOf_21 ?_
    refine r_nm (fun y1 ey1 => ?_)
    have h := h y1 ey1
    refine r_lstore (L2 := [(2, t), (2, a1), (1, x2), (3, 0), (0, x4), (1, y1), (3, 0), (3, 0), (3, 0), (3, 0), (3, 0)]) d_X7_worthOf_22 (by decide) rfl rfl ?_
    refine r_aload_n (x := a1) d_X7_worthOf_24 rfl o_a1.1 ?_
    refine r_getf (j := 0) (t := 2) (x := a1_keys) d_X7_worthOf_25 kX5 (by decide) fl_X7_54 o_a1.1 o_a1.2.1 o_a1.2.2.1 o_a1.2.2.2 rfl f_a1_keys ?_
    refine r_iload (x := x4) d_X7_worthOf_28 rfl ?_
    refine x_lald d_X7_worthOf_30 h.1 ?_
    have h := h.2
    refine x_callSI (Y2 := mX6_bracketsIn) (As := [(1, (σ a1_keys x4))]) (S := []) d_X7_worthOf_31 ok_mX6_bracketsIn ml_X7_69 rfl (Nat.le_of_ble_eq_true rfl) (Nat.le_of_ble_eq_true rfl) rfl hd_1 (CI.mono h (fun v3 σ2 h => ?_))
    refine r_istore (L2 := [(2, t), (2, a1), (1, x2), (3, 0), (0, x4), (1, y1), (3, 0), (0, v3), (3, 0), (3, 0), (3, 0)]) d_X7_worthOf_34 (by decide) rfl rfl ?_
    refine r_iconst (x := 0) d_X7_worthOf_36 ⟨by decide, by decide⟩ ?_
    refine r_istore (L2 := [(2, t), (2, a1), (1, x2), (3, 0), (0, x4), (1, y1), (3, 0), (0, v3), (0, 0), (3, 0), (3, 0)]) d_X7_worthOf_37 (by decide) rfl rfl ?_
    exact h
theorem v_X7_worthOf_39 {l : Launch} {d N : Nat} {Λ : Lay} {P : Int → Mem → Prop} {σ : Mem} {x2 x4 x5 x7 x8 a1 a1_keys t : Int} (o_a1 : Ob N Λ a1 15 3) (f_a1_keys : (Λ a1).2.2 0 = a1_keys) (o_t : Ob N Λ t 16 3) (h0d : 1 ≤ d)
    (h : ((x7 ≤ x8 → (∀ y1, y1 = (addL x2 x5) → ((0 ≤ (cmpL (andL (xorL x2 y1) (xorL x5 y1)) 0) → (∀ y2, y2 = addI x4 1 → WL l mX7_worthOf d P 5 [(2, t), (2, a1), (1, y1), (3, 0), (0, y2), (3, 0), (3, 0), (3, 0), (3, 0), (3, 0), (3, 0)] [] N Λ σ)) ∧ (¬ (0 ≤ (cmpL (andL (xorL x2 y1) (xorL x5 y1)) 0)) → P (-9223372036854775808) σ)))) ∧ (¬ (x7 ≤ x8) → (Ix N Λ a1_keys 1 x4 ∧ (∀ y3, y3 = (andI (l2iI (ushrL (σ a1_keys x4) (mulI 12 (subI 3 x8)))) 4095) → (CI l mX7_determinant (d - 1) [(2, t), (0, (andI (shrI y3 (mulI 4 (subI 2 0))) 15)), (0, (andI (shrI y3 (mulI 4 (subI 2 1))) 15)), (0, (andI (shrI y3 (mulI 4 (subI 2 2))) 15))] N Λ σ (fun v5 σ4 => (CI l mX7_isTooGreat (d - 1) [(1, x5), (0, v5)] N Λ σ4 (fun v7 σ6 => ((v7 = 0 → (∀ y8, y8 = (mulL x5 v5) → (∀ y9, y9 = addI x8 1 → WL l mX7_worthOf d P 39 [(2, t), (2, a1), (1, x2), (3, 0), (0, x4), (1, y8), (3, 0), (0, x7), (0, y9), (3, 0), (3, 0)] [] N Λ σ6))) ∧ (¬ (v7 = 0) → P (-9223372036854775808) σ6))))))))))) :
    WL l mX7_worthOf d P 39 [(2, t), (2, a1), (1, x2), (3, 0), (0, x4), (1, x5), (3, 0), (0, x7), (0, x8), (3, 0), (3, 0)] [] N Λ σ := by
  have hd_1 : 1 ≤ d := Nat.le_trans (by decide) h0d
  refine r_iload (x := x8) d_X7_worthOf_39 rfl ?_
  refine r_iload (x := x7) d_X7_worthOf_41 rfl ?_
  refine r_ic_ge (tgt := 112) d_X7_worthOf_43 rfl (fun hc => ?_) (fun hc => ?_)
  · have h := h.1 hc
    refine r_lload_n (x := x2) d_X7_worthOf_112 rfl ?_
    refine r_lload (x := x5) d_X7_worthOf_113 rfl ?_
    refine r_ladd d_X7_worthOf_115 ?_
    refine r_nm (fun y1 ey1 => ?_)
    have h := h y1 ey1
    refine r_lstore (L2 := [(2, t), (2, a1), (1, x2), (3, 0), (0, x4), (1, x5), (3, 0), (0, x7), (1, y1), (3, 0), (3, 0)]) d_X7_worthOf_116 (by decide) rfl rfl ?_
    refine r_lload_n (x := x2) d_X7_worthOf_118 rfl ?_
    refine r_lload (x := y1) d_X7_worthOf_119 rfl ?_
    refine r_lxor d_X7_worthOf_121 ?_
    refine r_lload (x := x5) d_X7_worthOf_122 rfl ?_
    refine r_lload (x := y1) d_X7_worthOf_124 rfl ?_
    refine r_lxor d_X7_worthOf_126 ?_
    refine r_land d_X7_worthOf_127 ?_
    refine r_lconst d_X7_worthOf_128 ?_
    skip
    refine r_lcmp d_X7_worthOf_129 ?_
    refine r_if_ge (tgt := 137) d_X7_worthOf_130 rfl (fun hc => ?_) (fun hc => ?_)
    · have h := h.1 hc
      refine r_lload (x := y1) d_X7_worthOf_137 rfl ?_
      refine r_lstore_n (L2 := [(2, t), (2, a1), (1, y1), (3, 0), (0, x4), (1, x5), (3, 0), (0, x7), (1, y1), (3, 0), (3, 0)]) d_X7_worthOf_139 (by decide) rfl rfl ?_
      refine x_iinc (x := x4) (L := [(2, t), (2, a1), (1, y1), (3, 0), (0, x4), (1, x5), (3, 0), (0, x7), (1, y1), (3, 0), (3, 0)]) d_X7_worthOf_140 rfl (by decide) rfl (fun y2 ey2 => ?_)
      have h := h y2 ey2
      show WP _ _ _ _ _ _ _ _ [(2, t), (2, a1), (1, y1), (3, 0), (0, y2), (1, x5), (3, 0), (0, x7), (1, y1), (3, 0), (3, 0)] _ _ _ _
      refine r_goto (tgt := 5) d_X7_worthOf_143 rfl ?_
      exact x_mask h ⟨Or.inr rfl, Or.inr rfl, Or.inr rfl, Or.inl rfl, Or.inr rfl, Or.inl rfl, Or.inl rfl, Or.inl rfl, Or.inl rfl, Or.inl rfl, Or.inl rfl, trivial⟩
    · have h := h.2 hc
      refine r_ldc2 (x := (-9223372036854775808)) d_X7_worthOf_133 ck_X7_91 (by decide) ?_
      exact r_lret d_X7_worthOf_136 rfl (Nat.le_refl 0) (Nat.le_refl 0) ⟨_, rfl, rfl, rfl, h⟩
  · have h := h.2 hc
    refine r_aload_n (x := a1) d_X7_worthOf_46 rfl o_a1.1 ?_
    refine r_getf (j := 0) (t := 2) (x := a1_keys) d_X7_worthOf_47 kX5 (by decide) fl_X7_54 o_a1.1 o_a1.2.1 o_a1.2.2.1 o_a1.2.2.2 rfl f_a1_keys ?_
    refine r_iload (x := x4) d_X7_worthOf_50 rfl ?_
    refine x_lald d_X7_worthOf_52 h.1 ?_
    have h := h.2
    refine r_iload (x := x8) d_X7_worthOf_53 rfl ?_
    refine x_callSI (Y2 := mX6_bracketAt) (As := [(1, (σ a1_keys x4)), (0, x8)]) (S := []) d_X7_worthOf_55 ok_mX6_bracketAt ml_X7_73 rfl (Nat.le_of_ble_eq_true rfl) (Nat.le_of_ble_eq_true rfl) rfl hd_1 (c_X6_bracketAt (v_X6_bracketAt_0 ?_))
    show WP l mX7_worthOf (rm d 0 0) noX _ 0 0 58 [(2, t), (2, a1), (1, x2), (3, 0), (0, x4), (1, x5), (3, 0), (0, x7), (0, x8), (3, 0), (3, 0)] [(0, (andI (l2iI (ushrL (σ a1_keys x4) (mulI 12 (subI 3 x8)))) 4095))] N Λ σ
    refine r_nm (fun y3 ey3 => ?_)
    have h := h y3 ey3
    refine r_istore (L2 := [(2, t), (2, a1), (1, x2), (3, 0), (0, x4), (1, x5), (3, 0), (0, x7), (0, x8), (0, y3), (3, 0)]) d_X7_worthOf_58 (by decide) rfl rfl ?_
    refine r_aload_n (x := t) d_X7_worthOf_60 rfl o_t.1 ?_
    refine r_iload (x := y3) d_X7_worthOf_61 rfl ?_
    refine r_iconst (x := 0) d_X7_worthOf_63 ⟨by decide, by decide⟩ ?_
    refine x_callSI (Y2 := mX6_letter) (As := [(0, y3), (0, 0)]) (S := [(2, t)]) d_X7_worthOf_64 ok_mX6_letter ml_X7_83 rfl (Nat.le_of_ble_eq_true rfl) (Nat.le_of_ble_eq_true rfl) rfl hd_1 (c_X6_letter (v_X6_letter_0 ?_))
    show WP l mX7_worthOf (rm d 0 0) noX _ 0 0 67 [(2, t), (2, a1), (1, x2), (3, 0), (0, x4), (1, x5), (3, 0), (0, x7), (0, x8), (0, y3), (3, 0)] [(0, (andI (shrI y3 (mulI 4 (subI 2 0))) 15)), (2, t)] N Λ σ
    refine r_iload (x := y3) d_X7_worthOf_67 rfl ?_
    refine r_iconst (x := 1) d_X7_worthOf_69 ⟨by decide, by decide⟩ ?_
    refine x_callSI (Y2 := mX6_letter) (As := [(0, y3), (0, 1)]) (S := [(0, (andI (shrI y3 (mulI 4 (subI 2 0))) 15)), (2, t)]) d_X7_worthOf_70 ok_mX6_letter ml_X7_83 rfl (Nat.le_of_ble_eq_true rfl) (Nat.le_of_ble_eq_true rfl) rfl hd_1 (c_X6_letter (v_X6_letter_0 ?_))
    show WP l mX7_worthOf (rm d 0 0) noX _ 0 0 73 [(2, t), (2, a1), (1, x2), (3, 0), (0, x4), (1, x5), (3, 0), (0, x7), (0, x8), (0, y3), (3, 0)] [(0, (andI (shrI y3 (mulI 4 (subI 2 1))) 15)), (0, (andI (shrI y3 (mulI 4 (subI 2 0))) 15)), (2, t)] N Λ σ
    refine r_iload (x := y3) d_X7_worthOf_73 rfl ?_
    refine r_iconst (x := 2) d_X7_worthOf_75 ⟨by decide, by decide⟩ ?_
    refine x_callSI (Y2 := mX6_letter) (As := [(0, y3), (0, 2)]) (S := [(0, (andI (shrI y3 (mulI 4 (subI 2 1))) 15)), (0, (andI (shrI y3 (mulI 4 (subI 2 0))) 15)), (2, t)]) d_X7_worthOf_76 ok_mX6_letter ml_X7_83 rfl (Nat.le_of_ble_eq_true rfl) (Nat.le_of_ble_eq_true rfl) rfl hd_1 (c_X6_letter (v_X6_letter_0 ?_))
    show WP l mX7_worthOf (rm d 0 0) noX _ 0 0 79 [(2, t), (2, a1), (1, x2), (3, 0), (0, x4), (1, x5), (3, 0), (0, x7), (0, x8), (0, y3), (3, 0)] [(0, (andI (shrI y3 (mulI 4 (subI 2 2))) 15)), (0, (andI (shrI y3 (mulI 4 (subI 2 1))) 15)), (0, (andI (shrI y3 (mulI 4 (subI 2 0))) 15)), (2, t)] N Λ σ
    refine x_callVI (Y2 := mX7_determinant) (c := t) (As := [(0, (andI (shrI y3 (mulI 4 (subI 2 0))) 15)), (0, (andI (shrI y3 (mulI 4 (subI 2 1))) 15)), (0, (andI (shrI y3 (mulI 4 (subI 2 2))) 15))]) (S := []) d_X7_worthOf_79 ok_mX7_determinant ml_X7_79 rfl (Nat.le_of_ble_eq_true rfl) (Nat.le_of_ble_eq_true rfl) rfl hd_1 kX7 o_t (CI.mono h (fun v5 σ4 h => ?_))
    refine r_istore (L2 := [(2, t), (2, a1), (1, x2), (3, 0), (0, x4), (1, x5), (3, 0), (0, x7), (0, x8), (0, y3), (0, v5)]) d_X7_worthOf_82 (by decide) rfl rfl ?_
    refine r_lload (x := x5) d_X7_worthOf_84 rfl ?_
    refine r_iload (x := v5) d_X7_worthOf_86 rfl ?_
    refine x_callSI (Y2 := mX7_isTooGreat) (As := [(1, x5), (0, v5)]) (S := []) d_X7_worthOf_88 ok_mX7_isTooGreat ml_X7_87 rfl (Nat.le_of_ble_eq_true rfl) (Nat.le_of_ble_eq_true rfl) rfl hd_1 (CI.mono h (fun v7 σ6 h => ?_))
    refine r_if_eq (tgt := 98) d_X7_worthOf_91 rfl (fun hc => ?_) (fun hc => ?_)
    · have h := h.1 hc
      refine r_lload (x := x5) d_X7_worthOf_98 rfl ?_
      refine r_iload (x := v5) d_X7_worthOf_100 rfl ?_
      refine r_i2l d_X7_worthOf_102 ?_
      refine r_lmul d_X7_worthOf_103 ?_
      refine r_nm (fun y8 ey8 => ?_)
      have h := h y8 ey8
      refine r_lstore (L2 := [(2, t), (2, a1), (1, x2), (3, 0), (0, x4), (1, y8), (3, 0), (0, x7), (0, x8), (0, y3), (0, v5)]) d_X7_worthOf_104 (by decide) rfl rfl ?_
      refine x_iinc (x := x8) (L := [(2, t), (2, a1), (1, x2), (3, 0), (0, x4), (1, y8), (3, 0), (0, x7), (0, x8), (0, y3), (0, v5)]) d_X7_worthOf_106 rfl (by decide) rfl (fun y9 ey9 => ?_)
      have h := h y9 ey9
      show WP _ _ _ _ _ _ _ _ [(2, t), (2, a1), (1, x2), (3, 0), (0, x4), (1, y8), (3, 0), (0, x7), (0, y9), (0, y3), (0, v5)] _ _ _ _
      refine r_goto (tgt := 39) d_X7_worthOf_109 rfl ?_
      exact x_mask h ⟨Or.inr rfl, Or.inr rfl, Or.inr rfl, Or.inl rfl, Or.inr rfl, Or.inr rfl, Or.inl rfl, Or.inr rfl, Or.inr rfl, Or.inl rfl, Or.inl rfl, trivial⟩
    · have h := h.2 hc
      refine r_ldc2 (x := (-9223372036854775808)) d_X7_worthOf_94 ck_X7_91 (by decide) ?_
      exact r_lret d_X7_worthOf_97 rfl (Nat.le_refl 0) (Nat.le_refl 0) ⟨_, rfl, rfl, rfl, h⟩
theorem v_X8_lastBroken_0 {l : Launch} {d N : Nat} {Λ : Lay} {P : Int → Mem → Prop} {σ : Mem} {x1 a0 : Int}
    (h : WI l mX8_lastBroken d P 2 [(2, a0), (0, x1), (0, x1)] [] N Λ σ) :
    WI l mX8_lastBroken d P 0 [(2, a0), (0, x1), (3, 0)] [] N Λ σ := by
  refine r_iload_n (x := x1) d_X8_lastBroken_0 rfl ?_
  refine r_istore_n (L2 := [(2, a0), (0, x1), (0, x1)]) d_X8_lastBroken_1 (by decide) rfl rfl ?_
  exact h
theorem v_X8_lastBroken_2 {l : Launch} {d N : Nat} {Λ : Lay} {P : Int → Mem → Prop} {σ : Mem} {x1 x2 a0 a0_keys : Int} (o_a0 : Ob N Λ a0 15 3) (f_a0_keys : (Λ a0).2.2 0 = a0_keys) (h0d : 1 ≤ d)
    (h : ((x2 < 0 → P x2 σ) ∧ (¬ (x2 < 0) → (Ix N Λ a0_keys 1 x2 ∧ (CI l mX6_breakOf (d - 1) [(1, (σ a0_keys x2))] N Λ σ (fun v2 σ1 => ((¬ v2 = 0 → P x2 σ1) ∧ (v2 = 0 → (∀ y3, y3 = addI x2 (-1) → WI l mX8_lastBroken d P 2 [(2, a0), (0, x1), (0, y3)] [] N Λ σ1))))))))) :
    WI l mX8_lastBroken d P 2 [(2, a0), (0, x1), (0, x2)] [] N Λ σ := by
  have hd_1 : 1 ≤ d := Nat.le_trans (by decide) h0d
  refine r_iload_n (x := x2) d_X8_lastBroken_2 rfl ?_
  refine r_if_lt (tgt := 24) d_X8_lastBroken_3 rfl (fun hc => ?_) (fun hc => ?_)
  · have h := h.1 hc
    refine r_iload_n (x := x2) d_X8_lastBroken_24 rfl ?_
    exact r_iret d_X8_lastBroken_25 rfl rfl (Nat.le_refl 0) (Nat.le_refl 0) ⟨_, rfl, rfl, rfl, h⟩
  · have h := h.2 hc
    refine r_aload_n (x := a0) d_X8_lastBroken_6 rfl o_a0.1 ?_
    refine r_getf (j := 0) (t := 2) (x := a0_keys) d_X8_lastBroken_7 kX5 (by decide) fl_X8_35 o_a0.1 o_a0.2.1 o_a0.2.2.1 o_a0.2.2.2 rfl f_a0_keys ?_
    refine r_iload_n (x := x2) d_X8_lastBroken_10 rfl ?_
    refine x_lald d_X8_lastBroken_11 h.1 ?_
    have h := h.2
    refine x_callSI (Y2 := mX6_breakOf) (As := [(1, (σ a0_keys x2))]) (S := []) d_X8_lastBroken_12 ok_mX6_breakOf ml_X8_39 rfl (Nat.le_of_ble_eq_true rfl) (Nat.le_of_ble_eq_true rfl) rfl hd_1 (CI.mono h (fun v2 σ1 h => ?_))
    refine r_if_ne (tgt := 24) d_X8_lastBroken_15 rfl (fun hc => ?_) (fun hc => ?_)
    · have h := h.1 hc
      refine r_iload_n (x := x2) d_X8_lastBroken_24 rfl ?_
      exact r_iret d_X8_lastBroken_25 rfl rfl (Nat.le_refl 0) (Nat.le_refl 0) ⟨_, rfl, rfl, rfl, h⟩
    · have h := h.2 hc
      refine x_iinc (x := x2) (L := [(2, a0), (0, x1), (0, x2)]) d_X8_lastBroken_18 rfl (by decide) rfl (fun y3 ey3 => ?_)
      have h := h y3 ey3
      show WP _ _ _ _ _ _ _ _ [(2, a0), (0, x1), (0, y3)] _ _ _ _
      refine r_goto (tgt := 2) d_X8_lastBroken_21 rfl ?_
      exact h
theorem v_X8_attachWay_0 {l : Launch} {d N : Nat} {Λ : Lay} {P : Int → Mem → Prop} {σ : Mem} {x1 x2 x3 x4 x5 t : Int}
    (h : WI l mX8_attachWay d P 15 [(2, t), (0, x1), (0, x2), (0, x3), (0, x4), (0, x5), (0, x1), (0, 0), (0, 0), (0, 0), (0, 3), (3, 0)] [] N Λ σ) :
    WI l mX8_attachWay d P 0 [(2, t), (0, x1), (0, x2), (0, x3), (0, x4), (0, x5), (3, 0), (3, 0), (3, 0), (3, 0), (3, 0), (3, 0)] [] N Λ σ := by
  refine r_iload_n (x := x1) d_X8_attachWay_0 rfl ?_
  refine r_istore (L2 := [(2, t), (0, x1), (0, x2), (0, x3), (0, x4), (0, x5), (0, x1), (3, 0), (3, 0), (3, 0), (3, 0), (3, 0)]) d_X8_attachWay_1 (by decide) rfl rfl ?_
  refine r_iconst (x := 0) d_X8_attachWay_3 ⟨by decide, by decide⟩ ?_
  refine r_istore (L2 := [(2, t), (0, x1), (0, x2), (0, x3), (0, x4), (0, x5), (0, x1), (0, 0), (3, 0), (3, 0), (3, 0), (3, 0)]) d_X8_attachWay_4 (by decide) rfl rfl ?_
  refine r_iconst (x := 0) d_X8_attachWay_6 ⟨by decide, by decide⟩ ?_
  refine r_istore (L2 := [(2, t), (0, x1), (0, x2), (0, x3), (0, x4), (0, x5), (0, x1), (0, 0), (0, 0), (3, 0), (3, 0), (3, 0)]) d_X8_attachWay_7 (by decide) rfl rfl ?_
  refine r_iconst (x := 0) d_X8_attachWay_9 ⟨by decide, by decide⟩ ?_
  refine r_istore (L2 := [(2, t), (0, x1), (0, x2), (0, x3), (0, x4), (0, x5), (0, x1), (0, 0), (0, 0), (0, 0), (3, 0), (3, 0)]) d_X8_attachWay_10 (by decide) rfl rfl ?_
  refine r_iconst (x := 3) d_X8_attachWay_12 ⟨by decide, by decide⟩ ?_
  refine r_istore (L2 := [(2, t), (0, x1), (0, x2), (0, x3), (0, x4), (0, x5), (0, x1), (0, 0), (0, 0), (0, 0), (0, 3), (3, 0)]) d_X8_attachWay_13 (by decide) rfl rfl ?_
  exact h
theorem v_X8_attachWay_15 {l : Launch} {d N : Nat} {Λ : Lay} {P : Int → Mem → Prop} {σ : Mem} {x1 x2 x3 x4 x5 x6 x7 x8 x9 x10 t t_term : Int} (o_t : Ob N Λ t 17 2) (f_t_term : (Λ t).2.2 1 = t_term) (o_t_term : Ob N Λ t_term 19 2) (h0d : 1 ≤ d)
    (h : ((x10 < 0 → (CV l mX10_attach (d - 1) [(2, t_term), (0, x6)] N Λ σ (fun σ1 => (CV l mX10_attach (d - 1) [(2, t_term), (0, (orI (shlI x7 x5) (andI x4 (subI (shlI 1 x5) 1))))] N Λ σ1 (fun σ2 => ((¬ (andI x9 1) = 0 → P (-1) σ2) ∧ ((andI x9 1) = 0 → P 1 σ2))))))) ∧ (¬ (x10 < 0) → (∀ y3, y3 = (andI (shrI x2 (mulI 4 x10)) 15) → ((¬ (andI (shrI x3 x10) 1) = 1 → (∀ y4, y4 = (orI (shlI x7 4) y3) → (∀ y5, y5 = addI x8 1 → (∀ y6, y6 = addI x10 (-1) → WI l mX8_attachWay d P 15 [(2, t), (0, x1), (0, x2), (0, x3), (0, x4), (0, x5), (0, x6), (0, y4), (0, y5), (0, x9), (0, y6), (3, 0)] [] N Λ σ)))) ∧ ((andI (shrI x3 x10) 1) = 1 → (∀ y7, y7 = (orI (shlI x6 4) y3) → (∀ y8, y8 = (addI x9 x8) → (∀ y9, y9 = addI x10 (-1) → WI l mX8_attachWay d P 15 [(2, t), (0, x1), (0, x2), (0, x3), (0, x4), (0, x5), (0, y7), (0, x7), (0, x8), (0, y8), (0, y9), (3, 0)] [] N Λ σ))))))))) :
    WI l mX8_attachWay d P 15 [(2, t), (0, x1), (0, x2), (0, x3), (0, x4), (0, x5), (0, x6), (0, x7), (0, x8), (0, x9), (0, x10), (3, 0)] [] N Λ σ := by
  have hd_1 : 1 ≤ d := Nat.le_trans (by decide) h0d
  refine r_iload (x := x10) d_X8_attachWay_15 rfl ?_
  refine r_if_lt (tgt := 78) d_X8_attachWay_17 rfl (fun hc => ?_) (fun hc => ?_)
  · have h := h.1 hc
    refine r_aload_n (x := t) d_X8_attachWay_78 rfl o_t.1 ?_
    refine r_getf (j := 1) (t := 2) (x := t_term) d_X8_attachWay_79 kX8 (by decide) fl_X8_18 o_t.1 o_t.2.1 o_t.2.2.1 o_t.2.2.2 rfl f_t_term ?_
    refine r_iload (x := x6) d_X8_attachWay_82 rfl ?_
    refine x_callVV (Y2 := mX10_attach) (c := t_term) (As := [(0, x6)]) (S := []) d_X8_attachWay_84 ok_mX10_attach ml_X8_93 rfl (Nat.le_of_ble_eq_true rfl) (Nat.le_of_ble_eq_true rfl) rfl hd_1 kX10 o_t_term (CV.mono h (fun σ1 h => ?_))
    refine r_aload_n (x := t) d_X8_attachWay_87 rfl o_t.1 ?_
    refine r_getf (j := 1) (t := 2) (x := t_term) d_X8_attachWay_88 kX8 (by decide) fl_X8_18 o_t.1 o_t.2.1 o_t.2.2.1 o_t.2.2.2 rfl f_t_term ?_
    refine r_iload (x := x7) d_X8_attachWay_91 rfl ?_
    refine r_iload (x := x5) d_X8_attachWay_93 rfl ?_
    refine r_ishl d_X8_attachWay_95 ?_
    refine r_iload (x := x4) d_X8_attachWay_96 rfl ?_
    refine r_iconst (x := 1) d_X8_attachWay_98 ⟨by decide, by decide⟩ ?_
    refine r_iload (x := x5) d_X8_attachWay_99 rfl ?_
    refine r_ishl d_X8_attachWay_101 ?_
    refine r_iconst (x := 1) d_X8_attachWay_102 ⟨by decide, by decide⟩ ?_
    refine r_isub d_X8_attachWay_103 ?_
    refine r_iand d_X8_attachWay_104 ?_
    refine r_ior d_X8_attachWay_105 ?_
    refine x_callVV (Y2 := mX10_attach) (c := t_term) (As := [(0, (orI (shlI x7 x5) (andI x4 (subI (shlI 1 x5) 1))))]) (S := []) d_X8_attachWay_106 ok_mX10_attach ml_X8_93 rfl (Nat.le_of_ble_eq_true rfl) (Nat.le_of_ble_eq_true rfl) rfl hd_1 kX10 o_t_term (CV.mono h (fun σ2 h => ?_))
    refine r_iload (x := x9) d_X8_attachWay_109 rfl ?_
    refine r_iconst (x := 1) d_X8_attachWay_111 ⟨by decide, by decide⟩ ?_
    refine r_iand d_X8_attachWay_112 ?_
    refine r_if_ne (tgt := 120) d_X8_attachWay_113 rfl (fun hc => ?_) (fun hc => ?_)
    · have h := h.1 hc
      refine r_iconst (x := (-1)) d_X8_attachWay_120 ⟨by decide, by decide⟩ ?_
      exact r_iret d_X8_attachWay_121 rfl rfl (Nat.le_refl 0) (Nat.le_refl 0) ⟨_, rfl, rfl, rfl, h⟩
    · have h := h.2 hc
      refine r_iconst (x := 1) d_X8_attachWay_116 ⟨by decide, by decide⟩ ?_
      refine r_goto (tgt := 121) d_X8_attachWay_117 rfl ?_
      exact r_iret d_X8_attachWay_121 rfl rfl (Nat.le_refl 0) (Nat.le_refl 0) ⟨_, rfl, rfl, rfl, h⟩
  · have h := h.2 hc
    refine r_iload_n (x := x2) d_X8_attachWay_20 rfl ?_
    refine r_iconst (x := 4) d_X8_attachWay_21 ⟨by decide, by decide⟩ ?_
    refine r_iload (x := x10) d_X8_attachWay_22 rfl ?_
    refine r_imul d_X8_attachWay_24 ?_
    refine r_ishr d_X8_attachWay_25 ?_
    refine r_bipush (x := 15) d_X8_attachWay_26 ⟨by decide, by decide⟩ (by decide) ?_
    refine r_iand d_X8_attachWay_28 ?_
    refine r_nm (fun y3 ey3 => ?_)
    have h := h y3 ey3
    refine r_istore (L2 := [(2, t), (0, x1), (0, x2), (0, x3), (0, x4), (0, x5), (0, x6), (0, x7), (0, x8), (0, x9), (0, x10), (0, y3)]) d_X8_attachWay_29 (by decide) rfl rfl ?_
    refine r_iload_n (x := x3) d_X8_attachWay_31 rfl ?_
    refine r_iload (x := x10) d_X8_attachWay_32 rfl ?_
    refine r_ishr d_X8_attachWay_34 ?_
    refine r_iconst (x := 1) d_X8_attachWay_35 ⟨by decide, by decide⟩ ?_
    refine r_iand d_X8_attachWay_36 ?_
    refine r_iconst (x := 1) d_X8_attachWay_37 ⟨by decide, by decide⟩ ?_
    refine r_ic_ne (tgt := 60) d_X8_attachWay_38 rfl (fun hc => ?_) (fun hc => ?_)
    · have h := h.1 hc
      refine r_iload (x := x7) d_X8_attachWay_60 rfl ?_
      refine r_iconst (x := 4) d_X8_attachWay_62 ⟨by decide, by decide⟩ ?_
      refine r_ishl d_X8_attachWay_63 ?_
      refine r_iload (x := y3) d_X8_attachWay_64 rfl ?_
      refine r_ior d_X8_attachWay_66 ?_
      refine r_nm (fun y4 ey4 => ?_)
      have h := h y4 ey4
      refine r_istore (L2 := [(2, t), (0, x1), (0, x2), (0, x3), (0, x4), (0, x5), (0, x6), (0, y4), (0, x8), (0, x9), (0, x10), (0, y3)]) d_X8_attachWay_67 (by decide) rfl rfl ?_
      refine x_iinc (x := x8) (L := [(2, t), (0, x1), (0, x2), (0, x3), (0, x4), (0, x5), (0, x6), (0, y4), (0, x8), (0, x9), (0, x10), (0, y3)]) d_X8_attachWay_69 rfl (by decide) rfl (fun y5 ey5 => ?_)
      have h := h y5 ey5
      show WP _ _ _ _ _ _ _ _ [(2, t), (0, x1), (0, x2), (0, x3), (0, x4), (0, x5), (0, x6), (0, y4), (0, y5), (0, x9), (0, x10), (0, y3)] _ _ _ _
      refine x_iinc (x := x10) (L := [(2, t), (0, x1), (0, x2), (0, x3), (0, x4), (0, x5), (0, x6), (0, y4), (0, y5), (0, x9), (0, x10), (0, y3)]) d_X8_attachWay_72 rfl (by decide) rfl (fun y6 ey6 => ?_)
      have h := h y6 ey6
      show WP _ _ _ _ _ _ _ _ [(2, t), (0, x1), (0, x2), (0, x3), (0, x4), (0, x5), (0, x6), (0, y4), (0, y5), (0, x9), (0, y6), (0, y3)] _ _ _ _
      refine r_goto (tgt := 15) d_X8_attachWay_75 rfl ?_
      exact x_mask h ⟨Or.inr rfl, Or.inr rfl, Or.inr rfl, Or.inr rfl, Or.inr rfl, Or.inr rfl, Or.inr rfl, Or.inr rfl, Or.inr rfl, Or.inr rfl, Or.inr rfl, Or.inl rfl, trivial⟩
    · have h := h.2 hc
      refine r_iload (x := x6) d_X8_attachWay_41 rfl ?_
      refine r_iconst (x := 4) d_X8_attachWay_43 ⟨by decide, by decide⟩ ?_
      refine r_ishl d_X8_attachWay_44 ?_
      refine r_iload (x := y3) d_X8_attachWay_45 rfl ?_
      refine r_ior d_X8_attachWay_47 ?_
      refine r_nm (fun y7 ey7 => ?_)
      have h := h y7 ey7
      refine r_istore (L2 := [(2, t), (0, x1), (0, x2), (0, x3), (0, x4), (0, x5), (0, y7), (0, x7), (0, x8), (0, x9), (0, x10), (0, y3)]) d_X8_attachWay_48 (by decide) rfl rfl ?_
      refine r_iload (x := x9) d_X8_attachWay_50 rfl ?_
      refine r_iload (x := x8) d_X8_attachWay_52 rfl ?_
      refine r_iadd d_X8_attachWay_54 ?_
      refine r_nm (fun y8 ey8 => ?_)
      have h := h y8 ey8
      refine r_istore (L2 := [(2, t), (0, x1), (0, x2), (0, x3), (0, x4), (0, x5), (0, y7), (0, x7), (0, x8), (0, y8), (0, x10), (0, y3)]) d_X8_attachWay_55 (by decide) rfl rfl ?_
      refine r_goto (tgt := 72) d_X8_attachWay_57 rfl ?_
      refine x_iinc (x := x10) (L := [(2, t), (0, x1), (0, x2), (0, x3), (0, x4), (0, x5), (0, y7), (0, x7), (0, x8), (0, y8), (0, x10), (0, y3)]) d_X8_attachWay_72 rfl (by decide) rfl (fun y9 ey9 => ?_)
      have h := h y9 ey9
      show WP _ _ _ _ _ _ _ _ [(2, t), (0, x1), (0, x2), (0, x3), (0, x4), (0, x5), (0, y7), (0, x7), (0, x8), (0, y8), (0, y9), (0, y3)] _ _ _ _
      refine r_goto (tgt := 15) d_X8_attachWay_75 rfl ?_
      exact x_mask h ⟨Or.inr rfl, Or.inr rfl, Or.inr rfl, Or.inr rfl, Or.inr rfl, Or.inr rfl, Or.inr rfl, Or.inr rfl, Or.inr rfl, Or.inr rfl, Or.inr rfl, Or.inl rfl, trivial⟩
theorem v_X8_layExchange_0 {l : Launch} {d N : Nat} {Λ : Lay} {P : Int → Mem → Prop} {σ : Mem} {x2 x3 x4 x5 x7 a1 t : Int}
    (h : (∀ y1, y1 = (mulI 4 (subI 3 x4)) → (∀ y2, y2 = (andI (orI (shlI x2 (mulI 4 x4)) (shrI x3 y1)) 65535) → WI l mX8_layExchange d P 31 [(2, t), (2, a1), (0, x2), (0, x3), (0, x4), (1, x5), (3, 0), (1, x7), (3, 0), (0, 0), (0, y1), (0, y2), (0, 15), (3, 0)] [] N Λ σ))) :
    WI l mX8_layExchange d P 0 [(2, t), (2, a1), (0, x2), (0, x3), (0, x4), (1, x5), (3, 0), (1, x7), (3, 0), (3, 0), (3, 0), (3, 0), (3, 0), (3, 0)] [] N Λ σ := by
  refine r_iconst (x := 0) d_X8_layExchange_0 ⟨by decide, by decide⟩ ?_
  refine r_istore (L2 := [(2, t), (2, a1), (0, x2), (0, x3), (0, x4), (1, x5), (3, 0), (1, x7), (3, 0), (0, 0), (3, 0), (3, 0), (3, 0), (3, 0)]) d_X8_layExchange_1 (by decide) rfl rfl ?_
  refine r_iconst (x := 4) d_X8_layExchange_3 ⟨by decide, by decide⟩ ?_
  refine r_iconst (x := 3) d_X8_layExchange_4 ⟨by decide, by decide⟩ ?_
  refine r_iload (x := x4) d_X8_layExchange_5 rfl ?_
  refine r_isub d_X8_layExchange_7 ?_
  refine r_imul d_X8_layExchange_8 ?_
  refine r_nm (fun y1 ey1 => ?_)
  have h := h y1 ey1
  refine r_istore (L2 := [(2, t), (2, a1), (0, x2), (0, x3), (0, x4), (1, x5), (3, 0), (1, x7), (3, 0), (0, 0), (0, y1), (3, 0), (3, 0), (3, 0)]) d_X8_layExchange_9 (by decide) rfl rfl ?_
  refine r_iload_n (x := x2) d_X8_layExchange_11 rfl ?_
  refine r_iconst (x := 4) d_X8_layExchange_12 ⟨by decide, by decide⟩ ?_
  refine r_iload (x := x4) d_X8_layExchange_13 rfl ?_
  refine r_imul d_X8_layExchange_15 ?_
  refine r_ishl d_X8_layExchange_16 ?_
  refine r_iload_n (x := x3) d_X8_layExchange_17 rfl ?_
  refine r_iload (x := y1) d_X8_layExchange_18 rfl ?_
  refine r_ishr d_X8_layExchange_20 ?_
  refine r_ior d_X8_layExchange_21 ?_
  refine r_ldc (x := 65535) d_X8_layExchange_22 ck_X8_68 (by decide) ?_
  refine r_iand d_X8_layExchange_24 ?_
  refine r_nm (fun y2 ey2 => ?_)
  have h := h y2 ey2
  refine r_istore (L2 := [(2, t), (2, a1), (0, x2), (0, x3), (0, x4), (1, x5), (3, 0), (1, x7), (3, 0), (0, 0), (0, y1), (0, y2), (3, 0), (3, 0)]) d_X8_layExchange_25 (by decide) rfl rfl ?_
  refine r_bipush (x := 15) d_X8_layExchange_27 ⟨by decide, by decide⟩ (by decide) ?_
  refine r_istore (L2 := [(2, t), (2, a1), (0, x2), (0, x3), (0, x4), (1, x5), (3, 0), (1, x7), (3, 0), (0, 0), (0, y1), (0, y2), (0, 15), (3, 0)]) d_X8_layExchange_29 (by decide) rfl rfl ?_
  exact h
theorem v_X8_layExchange_31 {l : Launch} {d N : Nat} {Λ : Lay} {P : Int → Mem → Prop} {σ : Mem} {x2 x3 x4 x5 x7 x9 x10 x11 x12 a1 t t_term : Int} (o_t : Ob N Λ t 17 2) (f_t_term : (Λ t).2.2 1 = t_term) (o_t_term : Ob N Λ t_term 19 2) (o_a1 : Ob N Λ a1 15 3) (h0d : 1 ≤ d)
    (h : ((x12 < 0 → P x9 σ) ∧ (¬ (x12 < 0) → ((¬ x9 = 0 → P x9 σ) ∧ (x9 = 0 → (CI l mJ6_bitCount_0f7a4 (d - 1) [(0, x12)] N Λ σ (fun v2 σ1 => ((¬ v2 = (subI 4 x4) → (∀ y3, y3 = addI x12 (-1) → WI l mX8_layExchange d P 31 [(2, t), (2, a1), (0, x2), (0, x3), (0, x4), (1, x5), (3, 0), (1, x7), (3, 0), (0, x9), (0, x10), (0, x11), (0, y3), (3, 0)] [] N Λ σ1)) ∧ (v2 = (subI 4 x4) → (∀ τ4, τ4 = st σ1 t_term 0 x5 → (∀ τ5, τ5 = st τ4 t_term 1 1 → (CI l mX8_attachWay (d - 1) [(2, t), (0, (shrI x2 (mulI 4 (subI 4 x4)))), (0, x11), (0, x12), (0, x3), (0, x10)] N Λ τ5 (fun v7 σ6 => (CI l mX5_lay (d - 1) [(2, a1), (1, (σ6 t_term 0)), (1, (mulL (mulL x7 v7) (σ6 t_term 1)))] N Λ σ6 (fun v9 σ8 => (∀ y10, y10 = addI x12 (-1) → WI l mX8_layExchange d P 31 [(2, t), (2, a1), (0, x2), (0, x3), (0, x4), (1, x5), (3, 0), (1, x7), (3, 0), (0, v9), (0, x10), (0, x11), (0, y10), (3, 0)] [] N Λ σ8)))))))))))))))) :
    WI l mX8_layExchange d P 31 [(2, t), (2, a1), (0, x2), (0, x3), (0, x4), (1, x5), (3, 0), (1, x7), (3, 0), (0, x9), (0, x10), (0, x11), (0, x12), (3, 0)] [] N Λ σ := by
  have hd_1 : 1 ≤ d := Nat.le_trans (by decide) h0d
  refine r_iload (x := x12) d_X8_layExchange_31 rfl ?_
  refine r_if_lt (tgt := 117) d_X8_layExchange_33 rfl (fun hc => ?_) (fun hc => ?_)
  · have h := h.1 hc
    refine r_iload (x := x9) d_X8_layExchange_117 rfl ?_
    exact r_iret d_X8_layExchange_119 rfl rfl (Nat.le_refl 0) (Nat.le_refl 0) ⟨_, rfl, rfl, rfl, h⟩
  · have h := h.2 hc
    refine r_iload (x := x9) d_X8_layExchange_36 rfl ?_
    refine r_if_ne (tgt := 117) d_X8_layExchange_38 rfl (fun hc => ?_) (fun hc => ?_)
    · have h := h.1 hc
      refine r_iload (x := x9) d_X8_layExchange_117 rfl ?_
      exact r_iret d_X8_layExchange_119 rfl rfl (Nat.le_refl 0) (Nat.le_refl 0) ⟨_, rfl, rfl, rfl, h⟩
    · have h := h.2 hc
      refine r_iload (x := x12) d_X8_layExchange_41 rfl ?_
      refine x_callSI (Y2 := mJ6_bitCount_0f7a4) (As := [(0, x12)]) (S := []) d_X8_layExchange_43 ok_mJ6_bitCount_0f7a4 ml_X8_69 rfl (Nat.le_of_ble_eq_true rfl) (Nat.le_of_ble_eq_true rfl) rfl hd_1 (CI.mono h (fun v2 σ1 h => ?_))
      refine r_iconst (x := 4) d_X8_layExchange_46 ⟨by decide, by decide⟩ ?_
      refine r_iload (x := x4) d_X8_layExchange_47 rfl ?_
      refine r_isub d_X8_layExchange_49 ?_
      refine r_ic_ne (tgt := 111) d_X8_layExchange_50 rfl (fun hc => ?_) (fun hc => ?_)
      · have h := h.1 hc
        refine x_iinc (x := x12) (L := [(2, t), (2, a1), (0, x2), (0, x3), (0, x4), (1, x5), (3, 0), (1, x7), (3, 0), (0, x9), (0, x10), (0, x11), (0, x12), (3, 0)]) d_X8_layExchange_111 rfl (by decide) rfl (fun y3 ey3 => ?_)
        have h := h y3 ey3
        show WP _ _ _ _ _ _ _ _ [(2, t), (2, a1), (0, x2), (0, x3), (0, x4), (1, x5), (3, 0), (1, x7), (3, 0), (0, x9), (0, x10), (0, x11), (0, y3), (3, 0)] _ _ _ _
        refine r_goto (tgt := 31) d_X8_layExchange_114 rfl ?_
        exact h
      · have h := h.2 hc
        refine r_aload_n (x := t) d_X8_layExchange_53 rfl o_t.1 ?_
        refine r_getf (j := 1) (t := 2) (x := t_term) d_X8_layExchange_54 kX8 (by decide) fl_X8_18 o_t.1 o_t.2.1 o_t.2.2.1 o_t.2.2.2 rfl f_t_term ?_
        refine r_lload (x := x5) d_X8_layExchange_57 rfl ?_
        refine x_callVV (Y2 := mX10_begin) (c := t_term) (As := [(1, x5)]) (S := []) d_X8_layExchange_59 ok_mX10_begin ml_X8_74 rfl (Nat.le_of_ble_eq_true rfl) (Nat.le_of_ble_eq_true rfl) rfl hd_1 kX10 o_t_term (c_X10_begin (v_X10_begin_0 o_t_term ?_))
        intro τ4 eτ4
        have h := h τ4 eτ4
        intro τ5 eτ5
        have h := h τ5 eτ5
        show WP l mX8_layExchange (rm d 0 0) noX _ 0 0 62 [(2, t), (2, a1), (0, x2), (0, x3), (0, x4), (1, x5), (3, 0), (1, x7), (3, 0), (0, x9), (0, x10), (0, x11), (0, x12), (3, 0)] [] N Λ τ5
        refine r_aload_n (x := t) d_X8_layExchange_62 rfl o_t.1 ?_
        refine r_iload_n (x := x2) d_X8_layExchange_63 rfl ?_
        refine r_iconst (x := 4) d_X8_layExchange_64 ⟨by decide, by decide⟩ ?_
        refine r_iconst (x := 4) d_X8_layExchange_65 ⟨by decide, by decide⟩ ?_
        refine r_iload (x := x4) d_X8_layExchange_66 rfl ?_
        refine r_isub d_X8_layExchange_68 ?_
        refine r_imul d_X8_layExchange_69 ?_
        refine r_ishr d_X8_layExchange_70 ?_
        refine r_iload (x := x11) d_X8_layExchange_71 rfl ?_
        refine r_iload (x := x12) d_X8_layExchange_73 rfl ?_
        refine r_iload_n (x := x3) d_X8_layExchange_75 rfl ?_
        refine r_iload (x := x10) d_X8_layExchange_76 rfl ?_
        refine x_callVI (Y2 := mX8_attachWay) (c := t) (As := [(0, (shrI x2 (mulI 4 (subI 4 x4)))), (0, x11), (0, x12), (0, x3), (0, x10)]) (S := []) d_X8_layExchange_78 ok_mX8_attachWay ml_X8_78 rfl (Nat.le_of_ble_eq_true rfl) (Nat.le_of_ble_eq_true rfl) rfl hd_1 kX8 o_t (CI.mono h (fun v7 σ6 h => ?_))
        refine r_istore (L2 := [(2, t), (2, a1), (0, x2), (0, x3), (0, x4), (1, x5), (3, 0), (1, x7), (3, 0), (0, x9), (0, x10), (0, x11), (0, x12), (0, v7)]) d_X8_layExchange_81 (by decide) rfl rfl ?_
        refine r_aload_n (x := a1) d_X8_layExchange_83 rfl o_a1.1 ?_
        refine r_aload_n (x := t) d_X8_layExchange_84 rfl o_t.1 ?_
        refine r_getf (j := 1) (t := 2) (x := t_term) d_X8_layExchange_85 kX8 (by decide) fl_X8_18 o_t.1 o_t.2.1 o_t.2.2.1 o_t.2.2.2 rfl f_t_term ?_
        refine r_getf (j := 0) (t := 1) (x := (σ6 t_term 0)) d_X8_layExchange_88 kX10 (by decide) fl_X8_82 o_t_term.1 o_t_term.2.1 o_t_term.2.2.1 o_t_term.2.2.2 rfl rfl ?_
        refine r_lload (x := x7) d_X8_layExchange_91 rfl ?_
        refine r_iload (x := v7) d_X8_layExchange_93 rfl ?_
        refine r_i2l d_X8_layExchange_95 ?_
        refine r_lmul d_X8_layExchange_96 ?_
        refine r_aload_n (x := t) d_X8_layExchange_97 rfl o_t.1 ?_
        refine r_getf (j := 1) (t := 2) (x := t_term) d_X8_layExchange_98 kX8 (by decide) fl_X8_18 o_t.1 o_t.2.1 o_t.2.2.1 o_t.2.2.2 rfl f_t_term ?_
        refine r_getf (j := 1) (t := 0) (x := (σ6 t_term 1)) d_X8_layExchange_101 kX10 (by decide) fl_X8_86 o_t_term.1 o_t_term.2.1 o_t_term.2.2.1 o_t_term.2.2.2 rfl rfl ?_
        refine r_i2l d_X8_layExchange_104 ?_
        refine r_lmul d_X8_layExchange_105 ?_
        refine x_callVI (Y2 := mX5_lay) (c := a1) (As := [(1, (σ6 t_term 0)), (1, (mulL (mulL x7 v7) (σ6 t_term 1)))]) (S := []) d_X8_layExchange_106 ok_mX5_lay ml_X8_89 rfl (Nat.le_of_ble_eq_true rfl) (Nat.le_of_ble_eq_true rfl) rfl hd_1 kX5 o_a1 (CI.mono h (fun v9 σ8 h => ?_))
        refine r_istore (L2 := [(2, t), (2, a1), (0, x2), (0, x3), (0, x4), (1, x5), (3, 0), (1, x7), (3, 0), (0, v9), (0, x10), (0, x11), (0, x12), (0, v7)]) d_X8_layExchange_109 (by decide) rfl rfl ?_
        refine x_iinc (x := x12) (L := [(2, t), (2, a1), (0, x2), (0, x3), (0, x4), (1, x5), (3, 0), (1, x7), (3, 0), (0, v9), (0, x10), (0, x11), (0, x12), (0, v7)]) d_X8_layExchange_111 rfl (by decide) rfl (fun y10 ey10 => ?_)
        have h := h y10 ey10
        show WP _ _ _ _ _ _ _ _ [(2, t), (2, a1), (0, x2), (0, x3), (0, x4), (1, x5), (3, 0), (1, x7), (3, 0), (0, v9), (0, x10), (0, x11), (0, y10), (0, v7)] _ _ _ _
        refine r_goto (tgt := 31) d_X8_layExchange_114 rfl ?_
        exact x_mask h ⟨Or.inr rfl, Or.inr rfl, Or.inr rfl, Or.inr rfl, Or.inr rfl, Or.inr rfl, Or.inl rfl, Or.inr rfl, Or.inl rfl, Or.inr rfl, Or.inr rfl, Or.inr rfl, Or.inr rfl, Or.inl rfl, trivial⟩
theorem v_X8_straighten_0 {l : Launch} {d N : Nat} {Λ : Lay} {P : Int → Mem → Prop} {σ : Mem} {a1 a1_keys a1_numbers a2 a2_keys a2_numbers t : Int} (o_a2 : Ob N Λ a2 15 3) (o_a1 : Ob N Λ a1 15 3) (f_a1_keys : (Λ a1).2.2 0 = a1_keys) (f_a2_keys : (Λ a2).2.2 0 = a2_keys) (f_a1_numbers : (Λ a1).2.2 1 = a1_numbers) (f_a2_numbers : (Λ a2).2.2 1 = a2_numbers) (o_t : Ob N Λ t 17 2) (h0d : 2 ≤ d)
    (h : (Cp N Λ a1_keys a2_keys 1 0 0 (σ a1 2) ∧ (∀ τ1, τ1 = cpM σ a1_keys 0 a2_keys 0 (σ a1 2) → (Cp N Λ a1_numbers a2_numbers 0 0 0 (τ1 a1 2) ∧ (∀ τ2, τ2 = cpM τ1 a1_numbers 0 a2_numbers 0 (τ1 a1 2) → (∀ τ3, τ3 = st τ2 a2 2 (τ2 a1 2) → (∀ τ4, τ4 = st τ3 t 0 0 → (CI l mX8_lastBroken (d - 1) [(2, a2), (0, (subI (τ4 a2 2) 1))] N Λ τ4 (fun v6 σ5 => WI l mX8_straighten d P 21 [(2, t), (2, a1), (2, a2), (0, v6), (3, 0), (3, 0), (3, 0), (3, 0), (3, 0), (3, 0), (3, 0), (3, 0), (3, 0), (3, 0)] [] N Λ σ5))))))))) :
    WI l mX8_straighten d P 0 [(2, t), (2, a1), (2, a2), (3, 0), (3, 0), (3, 0), (3, 0), (3, 0), (3, 0), (3, 0), (3, 0), (3, 0), (3, 0), (3, 0)] [] N Λ σ := by
  have hd_1 : 1 ≤ d := Nat.le_trans (by decide) h0d
  have he_1 : 1 ≤ d - 1 := Nat.le_sub_of_add_le (Nat.le_trans (by decide) h0d)
  refine r_aload_n (x := a2) d_X8_straighten_0 rfl o_a2.1 ?_
  refine r_aload_n (x := a1) d_X8_straighten_1 rfl o_a1.1 ?_
  refine x_callVV (Y2 := mX5_take) (c := a2) (As := [(2, a1)]) (S := []) d_X8_straighten_2 ok_mX5_take ml_X8_22 rfl (Nat.le_of_ble_eq_true rfl) (Nat.le_of_ble_eq_true rfl) rfl hd_1 kX5 o_a2 (c_X5_take (v_X5_take_0 o_a1 f_a1_keys o_a2 f_a2_keys f_a1_numbers f_a2_numbers he_1 ?_))
  refine ⟨h.1, ?_⟩
  have h := h.2
  intro τ1 eτ1
  have h := h τ1 eτ1
  refine ⟨h.1, ?_⟩
  have h := h.2
  intro τ2 eτ2
  have h := h τ2 eτ2
  intro τ3 eτ3
  have h := h τ3 eτ3
  show WP l mX8_straighten (rm d 0 0) noX _ 0 0 5 [(2, t), (2, a1), (2, a2), (3, 0), (3, 0), (3, 0), (3, 0), (3, 0), (3, 0), (3, 0), (3, 0), (3, 0), (3, 0), (3, 0)] [] N Λ τ3
  refine r_aload_n (x := t) d_X8_straighten_5 rfl o_t.1 ?_
  refine r_iconst (x := 0) d_X8_straighten_6 ⟨by decide, by decide⟩ ?_
  refine r_putI (j := 0) d_X8_straighten_7 kX8 (by decide) fl_X8_9 rfl o_t.1 o_t.2.1 o_t.2.2.1 o_t.2.2.2 rfl ?_
  refine r_nmM (fun τ4 eτ4 => ?_)
  have h := h τ4 eτ4
  refine r_aload_n (x := a2) d_X8_straighten_10 rfl o_a2.1 ?_
  refine r_aload_n (x := a2) d_X8_straighten_11 rfl o_a2.1 ?_
  refine r_getf (j := 2) (t := 0) (x := (τ4 a2 2)) d_X8_straighten_12 kX5 (by decide) fl_X8_28 o_a2.1 o_a2.2.1 o_a2.2.2.1 o_a2.2.2.2 rfl rfl ?_
  refine r_iconst (x := 1) d_X8_straighten_15 ⟨by decide, by decide⟩ ?_
  refine r_isub d_X8_straighten_16 ?_
  refine x_callSI (Y2 := mX8_lastBroken) (As := [(2, a2), (0, (subI (τ4 a2 2) 1))]) (S := []) d_X8_straighten_17 ok_mX8_lastBroken ml_X8_31 rfl (Nat.le_of_ble_eq_true rfl) (Nat.le_of_ble_eq_true rfl) rfl hd_1 (CI.mono h (fun v6 σ5 h => ?_))
  refine r_istore_n (L2 := [(2, t), (2, a1), (2, a2), (0, v6), (3, 0), (3, 0), (3, 0), (3, 0), (3, 0), (3, 0), (3, 0), (3, 0), (3, 0), (3, 0)]) d_X8_straighten_20 (by decide) rfl rfl ?_
  exact h
theorem v_X8_straighten_21 {l : Launch} {d N : Nat} {Λ : Lay} {P : Int → Mem → Prop} {σ : Mem} {x3 a1 a2 a2_keys a2_numbers t : Int} (o_t : Ob N Λ t 17 2) (o_a2 : Ob N Λ a2 15 3) (f_a2_keys : (Λ a2).2.2 0 = a2_keys) (f_a2_numbers : (Λ a2).2.2 1 = a2_numbers) (h0d : 1 ≤ d)
    (h : ((x3 < 0 → ((x3 < 0 → P 0 σ) ∧ (¬ (x3 < 0) → P 3 σ))) ∧ (¬ (x3 < 0) → ((900 ≤ (σ t 0) → ((x3 < 0 → P 0 σ) ∧ (¬ (x3 < 0) → P 3 σ))) ∧ (¬ (900 ≤ (σ t 0)) → (∀ y1, y1 = (subI (subI (σ a2 2) 1) x3) → (Ix N Λ a2_keys 1 x3 ∧ (∀ y2, y2 = (σ a2_keys x3) → (CI l mX6_breakOf (d - 1) [(1, y2)] N Λ σ (fun v4 σ3 => (∀ y5, y5 = (divI v4 4) → (∀ y6, y6 = (andI (l2iI (ushrL y2 (mulI 12 (subI 3 y5)))) 4095) → (∀ y7, y7 = (andI (l2iI (ushrL y2 (mulI 12 (subI 3 (addI y5 1))))) 4095) → (Ix N Λ a2_numbers 0 x3 ∧ (∀ y8, y8 = (negL (σ3 a2_numbers x3)) → (CL l mX6_withoutTwo (d - 1) [(1, y2), (0, y5)] N Λ σ3 (fun v10 σ9 => (CI l mX8_layExchange (d - 1) [(2, t), (2, a2), (0, y6), (0, y7), (0, (remI v4 4)), (1, v10), (1, y8)] N Λ σ9 (fun v12 σ11 => ((v12 = 0 → (∀ τ13, τ13 = st σ11 t 0 (addI (σ11 t 0) 1) → (CI l mX8_lastBroken (d - 1) [(2, a2), (0, (subI (subI (τ13 a2 2) 1) y1))] N Λ τ13 (fun v15 σ14 => WI l mX8_straighten d P 21 [(2, t), (2, a1), (2, a2), (0, v15), (3, 0), (3, 0), (3, 0), (3, 0), (3, 0), (3, 0), (3, 0), (3, 0), (3, 0), (3, 0)] [] N Λ σ14)))) ∧ (¬ (v12 = 0) → P v12 σ11))))))))))))))))))))) :
    WI l mX8_straighten d P 21 [(2, t), (2, a1), (2, a2), (0, x3), (3, 0), (3, 0), (3, 0), (3, 0), (3, 0), (3, 0), (3, 0), (3, 0), (3, 0), (3, 0)] [] N Λ σ := by
  have hd_1 : 1 ≤ d := Nat.le_trans (by decide) h0d
  refine r_iload_n (x := x3) d_X8_straighten_21 rfl ?_
  refine r_if_lt (tgt := 157) d_X8_straighten_22 rfl (fun hc => ?_) (fun hc => ?_)
  · have h := h.1 hc
    refine r_iload_n (x := x3) d_X8_straighten_157 rfl ?_
    refine r_if_lt (tgt := 165) d_X8_straighten_158 rfl (fun hc => ?_) (fun hc => ?_)
    · have h := h.1 hc
      refine r_iconst (x := 0) d_X8_straighten_165 ⟨by decide, by decide⟩ ?_
      exact r_iret d_X8_straighten_166 rfl rfl (Nat.le_refl 0) (Nat.le_refl 0) ⟨_, rfl, rfl, rfl, h⟩
    · have h := h.2 hc
      refine r_iconst (x := 3) d_X8_straighten_161 ⟨by decide, by decide⟩ ?_
      refine r_goto (tgt := 166) d_X8_straighten_162 rfl ?_
      exact r_iret d_X8_straighten_166 rfl rfl (Nat.le_refl 0) (Nat.le_refl 0) ⟨_, rfl, rfl, rfl, h⟩
  · have h := h.2 hc
    refine r_aload_n (x := t) d_X8_straighten_25 rfl o_t.1 ?_
    refine r_getf (j := 0) (t := 0) (x := (σ t 0)) d_X8_straighten_26 kX8 (by decide) fl_X8_9 o_t.1 o_t.2.1 o_t.2.2.1 o_t.2.2.2 rfl rfl ?_
    refine r_sipush (x := 900) d_X8_straighten_29 ⟨by decide, by decide⟩ (by decide) ?_
    refine r_ic_ge (tgt := 157) d_X8_straighten_32 rfl (fun hc => ?_) (fun hc => ?_)
    · have h := h.1 hc
      refine r_iload_n (x := x3) d_X8_straighten_157 rfl ?_
      refine r_if_lt (tgt := 165) d_X8_straighten_158 rfl (fun hc => ?_) (fun hc => ?_)
      · have h := h.1 hc
        refine r_iconst (x := 0) d_X8_straighten_165 ⟨by decide, by decide⟩ ?_
        exact r_iret d_X8_straighten_166 rfl rfl (Nat.le_refl 0) (Nat.le_refl 0) ⟨_, rfl, rfl, rfl, h⟩
      · have h := h.2 hc
        refine r_iconst (x := 3) d_X8_straighten_161 ⟨by decide, by decide⟩ ?_
        refine r_goto (tgt := 166) d_X8_straighten_162 rfl ?_
        exact r_iret d_X8_straighten_166 rfl rfl (Nat.le_refl 0) (Nat.le_refl 0) ⟨_, rfl, rfl, rfl, h⟩
    · have h := h.2 hc
      refine r_aload_n (x := a2) d_X8_straighten_35 rfl o_a2.1 ?_
      refine r_getf (j := 2) (t := 0) (x := (σ a2 2)) d_X8_straighten_36 kX5 (by decide) fl_X8_28 o_a2.1 o_a2.2.1 o_a2.2.2.1 o_a2.2.2.2 rfl rfl ?_
      refine r_iconst (x := 1) d_X8_straighten_39 ⟨by decide, by decide⟩ ?_
      refine r_isub d_X8_straighten_40 ?_
      refine r_iload_n (x := x3) d_X8_straighten_41 rfl ?_
      refine r_isub d_X8_straighten_42 ?_
      refine r_nm (fun y1 ey1 => ?_)
      have h := h y1 ey1
      refine r_istore (L2 := [(2, t), (2, a1), (2, a2), (0, x3), (0, y1), (3, 0), (3, 0), (3, 0), (3, 0), (3, 0), (3, 0), (3, 0), (3, 0), (3, 0)]) d_X8_straighten_43 (by decide) rfl rfl ?_
      refine r_aload_n (x := a2) d_X8_straighten_45 rfl o_a2.1 ?_
      refine r_getf (j := 0) (t := 2) (x := a2_keys) d_X8_straighten_46 kX5 (by decide) fl_X8_35 o_a2.1 o_a2.2.1 o_a2.2.2.1 o_a2.2.2.2 rfl f_a2_keys ?_
      refine r_iload_n (x := x3) d_X8_straighten_49 rfl ?_
      refine x_lald d_X8_straighten_50 h.1 ?_
      have h := h.2
      refine r_nm (fun y2 ey2 => ?_)
      have h := h y2 ey2
      refine r_lstore (L2 := [(2, t), (2, a1), (2, a2), (0, x3), (0, y1), (1, y2), (3, 0), (3, 0), (3, 0), (3, 0), (3, 0), (3, 0), (3, 0), (3, 0)]) d_X8_straighten_51 (by decide) rfl rfl ?_
      refine r_lload (x := y2) d_X8_straighten_53 rfl ?_
      refine x_callSI (Y2 := mX6_breakOf) (As := [(1, y2)]) (S := []) d_X8_straighten_55 ok_mX6_breakOf ml_X8_39 rfl (Nat.le_of_ble_eq_true rfl) (Nat.le_of_ble_eq_true rfl) rfl hd_1 (CI.mono h (fun v4 σ3 h => ?_))
      refine r_istore (L2 := [(2, t), (2, a1), (2, a2), (0, x3), (0, y1), (1, y2), (3, 0), (0, v4), (3, 0), (3, 0), (3, 0), (3, 0), (3, 0), (3, 0)]) d_X8_straighten_58 (by decide) rfl rfl ?_
      refine r_iload (x := v4) d_X8_straighten_60 rfl ?_
      refine x_callSI (Y2 := mX6_bracketOfBreak) (As := [(0, v4)]) (S := []) d_X8_straighten_62 ok_mX6_bracketOfBreak ml_X8_45 rfl (Nat.le_of_ble_eq_true rfl) (Nat.le_of_ble_eq_true rfl) rfl hd_1 (c_X6_bracketOfBreak (v_X6_bracketOfBreak_0 ?_))
      show WP l mX8_straighten (rm d 0 0) noX _ 0 0 65 [(2, t), (2, a1), (2, a2), (0, x3), (0, y1), (1, y2), (3, 0), (0, v4), (3, 0), (3, 0), (3, 0), (3, 0), (3, 0), (3, 0)] [(0, (divI v4 4))] N Λ σ3
      refine r_nm (fun y5 ey5 => ?_)
      have h := h y5 ey5
      refine r_istore (L2 := [(2, t), (2, a1), (2, a2), (0, x3), (0, y1), (1, y2), (3, 0), (0, v4), (0, y5), (3, 0), (3, 0), (3, 0), (3, 0), (3, 0)]) d_X8_straighten_65 (by decide) rfl rfl ?_
      refine r_lload (x := y2) d_X8_straighten_67 rfl ?_
      refine r_iload (x := y5) d_X8_straighten_69 rfl ?_
      refine x_callSI (Y2 := mX6_bracketAt) (As := [(1, y2), (0, y5)]) (S := []) d_X8_straighten_71 ok_mX6_bracketAt ml_X8_49 rfl (Nat.le_of_ble_eq_true rfl) (Nat.le_of_ble_eq_true rfl) rfl hd_1 (c_X6_bracketAt (v_X6_bracketAt_0 ?_))
      show WP l mX8_straighten (rm d 0 0) noX _ 0 0 74 [(2, t), (2, a1), (2, a2), (0, x3), (0, y1), (1, y2), (3, 0), (0, v4), (0, y5), (3, 0), (3, 0), (3, 0), (3, 0), (3, 0)] [(0, (andI (l2iI (ushrL y2 (mulI 12 (subI 3 y5)))) 4095))] N Λ σ3
      refine r_nm (fun y6 ey6 => ?_)
      have h := h y6 ey6
      refine r_istore (L2 := [(2, t), (2, a1), (2, a2), (0, x3), (0, y1), (1, y2), (3, 0), (0, v4), (0, y5), (0, y6), (3, 0), (3, 0), (3, 0), (3, 0)]) d_X8_straighten_74 (by decide) rfl rfl ?_
      refine r_lload (x := y2) d_X8_straighten_76 rfl ?_
      refine r_iload (x := y5) d_X8_straighten_78 rfl ?_
      refine r_iconst (x := 1) d_X8_straighten_80 ⟨by decide, by decide⟩ ?_
      refine r_iadd d_X8_straighten_81 ?_
      refine x_callSI (Y2 := mX6_bracketAt) (As := [(1, y2), (0, (addI y5 1))]) (S := []) d_X8_straighten_82 ok_mX6_bracketAt ml_X8_49 rfl (Nat.le_of_ble_eq_true rfl) (Nat.le_of_ble_eq_true rfl) rfl hd_1 (c_X6_bracketAt (v_X6_bracketAt_0 ?_))
      show WP l mX8_straighten (rm d 0 0) noX _ 0 0 85 [(2, t), (2, a1), (2, a2), (0, x3), (0, y1), (1, y2), (3, 0), (0, v4), (0, y5), (0, y6), (3, 0), (3, 0), (3, 0), (3, 0)] [(0, (andI (l2iI (ushrL y2 (mulI 12 (subI 3 (addI y5 1))))) 4095))] N Λ σ3
      refine r_nm (fun y7 ey7 => ?_)
      have h := h y7 ey7
      refine r_istore (L2 := [(2, t), (2, a1), (2, a2), (0, x3), (0, y1), (1, y2), (3, 0), (0, v4), (0, y5), (0, y6), (0, y7), (3, 0), (3, 0), (3, 0)]) d_X8_straighten_85 (by decide) rfl rfl ?_
      refine r_aload_n (x := a2) d_X8_straighten_87 rfl o_a2.1 ?_
      refine r_getf (j := 1) (t := 2) (x := a2_numbers) d_X8_straighten_88 kX5 (by decide) fl_X8_53 o_a2.1 o_a2.2.1 o_a2.2.2.1 o_a2.2.2.2 rfl f_a2_numbers ?_
      refine r_iload_n (x := x3) d_X8_straighten_91 rfl ?_
      refine x_iald d_X8_straighten_92 h.1 ?_
      have h := h.2
      refine r_i2l d_X8_straighten_93 ?_
      refine r_lneg d_X8_straighten_94 ?_
      refine r_nm (fun y8 ey8 => ?_)
      have h := h y8 ey8
      refine r_lstore (L2 := [(2, t), (2, a1), (2, a2), (0, x3), (0, y1), (1, y2), (3, 0), (0, v4), (0, y5), (0, y6), (0, y7), (1, y8), (3, 0), (3, 0)]) d_X8_straighten_95 (by decide) rfl rfl ?_
      refine r_aload_n (x := t) d_X8_straighten_97 rfl o_t.1 ?_
      refine r_aload_n (x := a2) d_X8_straighten_98 rfl o_a2.1 ?_
      refine r_iload (x := y6) d_X8_straighten_99 rfl ?_
      refine r_iload (x := y7) d_X8_straighten_101 rfl ?_
      refine r_iload (x := v4) d_X8_straighten_103 rfl ?_
      refine x_callSI (Y2 := mX6_placeOfBreak) (As := [(0, v4)]) (S := [(0, y7), (0, y6), (2, a2), (2, t)]) d_X8_straighten_105 ok_mX6_placeOfBreak ml_X8_57 rfl (Nat.le_of_ble_eq_true rfl) (Nat.le_of_ble_eq_true rfl) rfl hd_1 (c_X6_placeOfBreak (v_X6_placeOfBreak_0 ?_))
      show WP l mX8_straighten (rm d 0 0) noX _ 0 0 108 [(2, t), (2, a1), (2, a2), (0, x3), (0, y1), (1, y2), (3, 0), (0, v4), (0, y5), (0, y6), (0, y7), (1, y8), (3, 0), (3, 0)] [(0, (remI v4 4)), (0, y7), (0, y6), (2, a2), (2, t)] N Λ σ3
      refine r_lload (x := y2) d_X8_straighten_108 rfl ?_
      refine r_iload (x := y5) d_X8_straighten_110 rfl ?_
      refine x_callSL (Y2 := mX6_withoutTwo) (As := [(1, y2), (0, y5)]) (S := [(0, (remI v4 4)), (0, y7), (0, y6), (2, a2), (2, t)]) d_X8_straighten_112 ok_mX6_withoutTwo ml_X8_60 rfl (Nat.le_of_ble_eq_true rfl) (Nat.le_of_ble_eq_true rfl) rfl hd_1 (CL.mono h (fun v10 σ9 h => ?_))
      refine r_lload (x := y8) d_X8_straighten_115 rfl ?_
      refine x_callVI (Y2 := mX8_layExchange) (c := t) (As := [(2, a2), (0, y6), (0, y7), (0, (remI v4 4)), (1, v10), (1, y8)]) (S := []) d_X8_straighten_117 ok_mX8_layExchange ml_X8_64 rfl (Nat.le_of_ble_eq_true rfl) (Nat.le_of_ble_eq_true rfl) rfl hd_1 kX8 o_t (CI.mono h (fun v12 σ11 h => ?_))
      refine r_istore (L2 := [(2, t), (2, a1), (2, a2), (0, x3), (0, y1), (1, y2), (3, 0), (0, v4), (0, y5), (0, y6), (0, y7), (1, y8), (3, 0), (0, v12)]) d_X8_straighten_120 (by decide) rfl rfl ?_
      refine r_iload (x := v12) d_X8_straighten_122 rfl ?_
      refine r_if_eq (tgt := 130) d_X8_straighten_124 rfl (fun hc => ?_) (fun hc => ?_)
      · have h := h.1 hc
        refine r_aload_n (x := t) d_X8_straighten_130 rfl o_t.1 ?_
        refine r_dup d_X8_straighten_131 rfl ?_
        refine r_getf (j := 0) (t := 0) (x := (σ11 t 0)) d_X8_straighten_132 kX8 (by decide) fl_X8_9 o_t.1 o_t.2.1 o_t.2.2.1 o_t.2.2.2 rfl rfl ?_
        refine r_iconst (x := 1) d_X8_straighten_135 ⟨by decide, by decide⟩ ?_
        refine r_iadd d_X8_straighten_136 ?_
        refine r_putI (j := 0) d_X8_straighten_137 kX8 (by decide) fl_X8_9 rfl o_t.1 o_t.2.1 o_t.2.2.1 o_t.2.2.2 rfl ?_
        refine r_nmM (fun τ13 eτ13 => ?_)
        have h := h τ13 eτ13
        refine r_aload_n (x := a2) d_X8_straighten_140 rfl o_a2.1 ?_
        refine r_aload_n (x := a2) d_X8_straighten_141 rfl o_a2.1 ?_
        refine r_getf (j := 2) (t := 0) (x := (τ13 a2 2)) d_X8_straighten_142 kX5 (by decide) fl_X8_28 o_a2.1 o_a2.2.1 o_a2.2.2.1 o_a2.2.2.2 rfl rfl ?_
        refine r_iconst (x := 1) d_X8_straighten_145 ⟨by decide, by decide⟩ ?_
        refine r_isub d_X8_straighten_146 ?_
        refine r_iload (x := y1) d_X8_straighten_147 rfl ?_
        refine r_isub d_X8_straighten_149 ?_
        refine x_callSI (Y2 := mX8_lastBroken) (As := [(2, a2), (0, (subI (subI (τ13 a2 2) 1) y1))]) (S := []) d_X8_straighten_150 ok_mX8_lastBroken ml_X8_31 rfl (Nat.le_of_ble_eq_true rfl) (Nat.le_of_ble_eq_true rfl) rfl hd_1 (CI.mono h (fun v15 σ14 h => ?_))
        refine r_istore_n (L2 := [(2, t), (2, a1), (2, a2), (0, v15), (0, y1), (1, y2), (3, 0), (0, v4), (0, y5), (0, y6), (0, y7), (1, y8), (3, 0), (0, v12)]) d_X8_straighten_153 (by decide) rfl rfl ?_
        refine r_goto (tgt := 21) d_X8_straighten_154 rfl ?_
        exact x_mask h ⟨Or.inr rfl, Or.inr rfl, Or.inr rfl, Or.inr rfl, Or.inl rfl, Or.inl rfl, Or.inl rfl, Or.inl rfl, Or.inl rfl, Or.inl rfl, Or.inl rfl, Or.inl rfl, Or.inl rfl, Or.inl rfl, trivial⟩
      · have h := h.2 hc
        refine r_iload (x := v12) d_X8_straighten_127 rfl ?_
        exact r_iret d_X8_straighten_129 rfl rfl (Nat.le_refl 0) (Nat.le_refl 0) ⟨_, rfl, rfl, rfl, h⟩
