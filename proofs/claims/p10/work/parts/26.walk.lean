theorem d_X12_within_0 : DC mX12_within 0 (.lload_n 0) 1 1 := ⟨by decide +kernel, rfl⟩
theorem d_X12_within_1 : DC mX12_within 1 (.lload_n 2) 1 2 := ⟨by decide +kernel, rfl⟩
theorem d_X12_within_2 : DC mX12_within 2 (.lcmp) 1 3 := ⟨by decide +kernel, rfl⟩
theorem d_X12_within_3 : DC mX12_within 3 (.ifCond .lt 14) 3 6 := ⟨by decide +kernel, rfl⟩
theorem d_X12_within_6 : DC mX12_within 6 (.lload_n 0) 1 7 := ⟨by decide +kernel, rfl⟩
theorem d_X12_within_7 : DC mX12_within 7 (.lload 4) 2 9 := ⟨by decide +kernel, rfl⟩
theorem d_X12_within_9 : DC mX12_within 9 (.lcmp) 1 10 := ⟨by decide +kernel, rfl⟩
theorem d_X12_within_10 : DC mX12_within 10 (.ifCond .gt 7) 3 13 := ⟨by decide +kernel, rfl⟩
theorem d_X12_within_13 : DC mX12_within 13 (.iconst 1) 1 14 := ⟨by decide +kernel, rfl⟩
theorem d_X12_within_14 : DC mX12_within 14 (.goto 4) 3 17 := ⟨by decide +kernel, rfl⟩
theorem d_X12_within_17 : DC mX12_within 17 (.iconst 0) 1 18 := ⟨by decide +kernel, rfl⟩
theorem d_X12_within_18 : DC mX12_within 18 (.ireturn) 1 19 := ⟨by decide +kernel, rfl⟩
theorem d_X12_ranks_0 : DC mX12_ranks 0 (.aload_n 0) 1 1 := ⟨by decide +kernel, rfl⟩
theorem d_X12_ranks_1 : DC mX12_ranks 1 (.getfield 13) 3 4 := ⟨by decide +kernel, rfl⟩
theorem d_X12_ranks_4 : DC mX12_ranks 4 (.bipush 100) 2 6 := ⟨by decide +kernel, rfl⟩
theorem d_X12_ranks_6 : DC mX12_ranks 6 (.iload_n 1) 1 7 := ⟨by decide +kernel, rfl⟩
theorem d_X12_ranks_7 : DC mX12_ranks 7 (.imul) 1 8 := ⟨by decide +kernel, rfl⟩
theorem d_X12_ranks_8 : DC mX12_ranks 8 (.bipush 10) 2 10 := ⟨by decide +kernel, rfl⟩
theorem d_X12_ranks_10 : DC mX12_ranks 10 (.iload_n 2) 1 11 := ⟨by decide +kernel, rfl⟩
theorem d_X12_ranks_11 : DC mX12_ranks 11 (.imul) 1 12 := ⟨by decide +kernel, rfl⟩
theorem d_X12_ranks_12 : DC mX12_ranks 12 (.iadd) 1 13 := ⟨by decide +kernel, rfl⟩
theorem d_X12_ranks_13 : DC mX12_ranks 13 (.iload_n 3) 1 14 := ⟨by decide +kernel, rfl⟩
theorem d_X12_ranks_14 : DC mX12_ranks 14 (.iadd) 1 15 := ⟨by decide +kernel, rfl⟩
theorem d_X12_ranks_15 : DC mX12_ranks 15 (.iload 4) 2 17 := ⟨by decide +kernel, rfl⟩
theorem d_X12_ranks_17 : DC mX12_ranks 17 (.iastore) 1 18 := ⟨by decide +kernel, rfl⟩
theorem d_X12_ranks_18 : DC mX12_ranks 18 (.aload_n 0) 1 19 := ⟨by decide +kernel, rfl⟩
theorem d_X12_ranks_19 : DC mX12_ranks 19 (.getfield 13) 3 22 := ⟨by decide +kernel, rfl⟩
theorem d_X12_ranks_22 : DC mX12_ranks 22 (.bipush 100) 2 24 := ⟨by decide +kernel, rfl⟩
theorem d_X12_ranks_24 : DC mX12_ranks 24 (.iload_n 1) 1 25 := ⟨by decide +kernel, rfl⟩
theorem d_X12_ranks_25 : DC mX12_ranks 25 (.imul) 1 26 := ⟨by decide +kernel, rfl⟩
theorem d_X12_ranks_26 : DC mX12_ranks 26 (.bipush 10) 2 28 := ⟨by decide +kernel, rfl⟩
theorem d_X12_ranks_28 : DC mX12_ranks 28 (.iload_n 3) 1 29 := ⟨by decide +kernel, rfl⟩
theorem d_X12_ranks_29 : DC mX12_ranks 29 (.imul) 1 30 := ⟨by decide +kernel, rfl⟩
theorem d_X12_ranks_30 : DC mX12_ranks 30 (.iadd) 1 31 := ⟨by decide +kernel, rfl⟩
theorem d_X12_ranks_31 : DC mX12_ranks 31 (.iload_n 2) 1 32 := ⟨by decide +kernel, rfl⟩
theorem d_X12_ranks_32 : DC mX12_ranks 32 (.iadd) 1 33 := ⟨by decide +kernel, rfl⟩
theorem d_X12_ranks_33 : DC mX12_ranks 33 (.iload 4) 2 35 := ⟨by decide +kernel, rfl⟩
theorem d_X12_ranks_35 : DC mX12_ranks 35 (.ineg) 1 36 := ⟨by decide +kernel, rfl⟩
theorem d_X12_ranks_36 : DC mX12_ranks 36 (.iastore) 1 37 := ⟨by decide +kernel, rfl⟩
theorem d_X12_ranks_37 : DC mX12_ranks 37 (.return_) 1 38 := ⟨by decide +kernel, rfl⟩
theorem d_X12_isLetter_0 : DC mX12_isLetter 0 (.iload_n 0) 1 1 := ⟨by decide +kernel, rfl⟩
theorem d_X12_isLetter_1 : DC mX12_isLetter 1 (.i2l) 1 2 := ⟨by decide +kernel, rfl⟩
theorem d_X12_isLetter_2 : DC mX12_isLetter 2 (.lconst 0) 1 3 := ⟨by decide +kernel, rfl⟩
theorem d_X12_isLetter_3 : DC mX12_isLetter 3 (.ldc2_w 89) 3 6 := ⟨by decide +kernel, rfl⟩
theorem d_X12_isLetter_6 : DC mX12_isLetter 6 (.invokestatic 91) 3 9 := ⟨by decide +kernel, rfl⟩
theorem d_X12_isLetter_9 : DC mX12_isLetter 9 (.ireturn) 1 10 := ⟨by decide +kernel, rfl⟩
theorem d_X12_sizeOf_0 : DC mX12_sizeOf 0 (.iload_n 0) 1 1 := ⟨by decide +kernel, rfl⟩
theorem d_X12_sizeOf_1 : DC mX12_sizeOf 1 (.ifCond .ge 8) 3 4 := ⟨by decide +kernel, rfl⟩
theorem d_X12_sizeOf_4 : DC mX12_sizeOf 4 (.iload_n 0) 1 5 := ⟨by decide +kernel, rfl⟩
theorem d_X12_sizeOf_5 : DC mX12_sizeOf 5 (.ineg) 1 6 := ⟨by decide +kernel, rfl⟩
theorem d_X12_sizeOf_6 : DC mX12_sizeOf 6 (.goto 4) 3 9 := ⟨by decide +kernel, rfl⟩
theorem d_X12_sizeOf_9 : DC mX12_sizeOf 9 (.iload_n 0) 1 10 := ⟨by decide +kernel, rfl⟩
theorem d_X12_sizeOf_10 : DC mX12_sizeOf 10 (.ireturn) 1 11 := ⟨by decide +kernel, rfl⟩
theorem d_X12_copies_0 : DC mX12_copies 0 (.iconst 0) 1 1 := ⟨by decide +kernel, rfl⟩
theorem d_X12_copies_1 : DC mX12_copies 1 (.istore 5) 2 3 := ⟨by decide +kernel, rfl⟩
theorem d_X12_copies_3 : DC mX12_copies 3 (.iload 5) 2 5 := ⟨by decide +kernel, rfl⟩
theorem d_X12_copies_5 : DC mX12_copies 5 (.iload 4) 2 7 := ⟨by decide +kernel, rfl⟩
theorem d_X12_copies_7 : DC mX12_copies 7 (.if_icmp .ge 21) 3 10 := ⟨by decide +kernel, rfl⟩
theorem d_X12_copies_10 : DC mX12_copies 10 (.aload_n 2) 1 11 := ⟨by decide +kernel, rfl⟩
theorem d_X12_copies_11 : DC mX12_copies 11 (.iload_n 3) 1 12 := ⟨by decide +kernel, rfl⟩
theorem d_X12_copies_12 : DC mX12_copies 12 (.iload 5) 2 14 := ⟨by decide +kernel, rfl⟩
theorem d_X12_copies_14 : DC mX12_copies 14 (.iadd) 1 15 := ⟨by decide +kernel, rfl⟩
theorem d_X12_copies_15 : DC mX12_copies 15 (.aload_n 0) 1 16 := ⟨by decide +kernel, rfl⟩
theorem d_X12_copies_16 : DC mX12_copies 16 (.iload_n 1) 1 17 := ⟨by decide +kernel, rfl⟩
theorem d_X12_copies_17 : DC mX12_copies 17 (.iload 5) 2 19 := ⟨by decide +kernel, rfl⟩
theorem d_X12_copies_19 : DC mX12_copies 19 (.iadd) 1 20 := ⟨by decide +kernel, rfl⟩
theorem d_X12_copies_20 : DC mX12_copies 20 (.iaload) 1 21 := ⟨by decide +kernel, rfl⟩
theorem d_X12_copies_21 : DC mX12_copies 21 (.iastore) 1 22 := ⟨by decide +kernel, rfl⟩
theorem d_X12_copies_22 : DC mX12_copies 22 (.iinc 5 1) 3 25 := ⟨by decide +kernel, rfl⟩
theorem d_X12_copies_25 : DC mX12_copies 25 (.goto (-22)) 3 28 := ⟨by decide +kernel, rfl⟩
theorem d_X12_copies_28 : DC mX12_copies 28 (.return_) 1 29 := ⟨by decide +kernel, rfl⟩
theorem d_X12_notes_0 : DC mX12_notes 0 (.aload_n 0) 1 1 := ⟨by decide +kernel, rfl⟩
theorem d_X12_notes_1 : DC mX12_notes 1 (.getfield 95) 3 4 := ⟨by decide +kernel, rfl⟩
theorem d_X12_notes_4 : DC mX12_notes 4 (.bipush 10) 2 6 := ⟨by decide +kernel, rfl⟩
theorem d_X12_notes_6 : DC mX12_notes 6 (.if_icmp .ne 31) 3 9 := ⟨by decide +kernel, rfl⟩
theorem d_X12_notes_9 : DC mX12_notes 9 (.aload_n 0) 1 10 := ⟨by decide +kernel, rfl⟩
theorem d_X12_notes_10 : DC mX12_notes 10 (.getfield 23) 3 13 := ⟨by decide +kernel, rfl⟩
theorem d_X12_notes_13 : DC mX12_notes 13 (.sipush 1116) 3 16 := ⟨by decide +kernel, rfl⟩
theorem d_X12_notes_16 : DC mX12_notes 16 (.aload_n 0) 1 17 := ⟨by decide +kernel, rfl⟩
theorem d_X12_notes_17 : DC mX12_notes 17 (.getfield 23) 3 20 := ⟨by decide +kernel, rfl⟩
theorem d_X12_notes_20 : DC mX12_notes 20 (.iconst 0) 1 21 := ⟨by decide +kernel, rfl⟩
theorem d_X12_notes_21 : DC mX12_notes 21 (.sipush 10044) 3 24 := ⟨by decide +kernel, rfl⟩
theorem d_X12_notes_24 : DC mX12_notes 24 (.invokestatic 98) 3 27 := ⟨by decide +kernel, rfl⟩
theorem d_X12_notes_27 : DC mX12_notes 27 (.aload_n 0) 1 28 := ⟨by decide +kernel, rfl⟩
theorem d_X12_notes_28 : DC mX12_notes 28 (.dup) 1 29 := ⟨by decide +kernel, rfl⟩
theorem d_X12_notes_29 : DC mX12_notes 29 (.getfield 95) 3 32 := ⟨by decide +kernel, rfl⟩
theorem d_X12_notes_32 : DC mX12_notes 32 (.iconst 1) 1 33 := ⟨by decide +kernel, rfl⟩
theorem d_X12_notes_33 : DC mX12_notes 33 (.isub) 1 34 := ⟨by decide +kernel, rfl⟩
theorem d_X12_notes_34 : DC mX12_notes 34 (.putfield 95) 3 37 := ⟨by decide +kernel, rfl⟩
theorem d_X12_notes_37 : DC mX12_notes 37 (.aload_n 0) 1 38 := ⟨by decide +kernel, rfl⟩
theorem d_X12_notes_38 : DC mX12_notes 38 (.getfield 20) 3 41 := ⟨by decide +kernel, rfl⟩
theorem d_X12_notes_41 : DC mX12_notes 41 (.iconst 0) 1 42 := ⟨by decide +kernel, rfl⟩
theorem d_X12_notes_42 : DC mX12_notes 42 (.aload_n 0) 1 43 := ⟨by decide +kernel, rfl⟩
theorem d_X12_notes_43 : DC mX12_notes 43 (.getfield 23) 3 46 := ⟨by decide +kernel, rfl⟩
theorem d_X12_notes_46 : DC mX12_notes 46 (.sipush 1116) 3 49 := ⟨by decide +kernel, rfl⟩
theorem d_X12_notes_49 : DC mX12_notes 49 (.aload_n 0) 1 50 := ⟨by decide +kernel, rfl⟩
theorem d_X12_notes_50 : DC mX12_notes 50 (.getfield 95) 3 53 := ⟨by decide +kernel, rfl⟩
theorem d_X12_notes_53 : DC mX12_notes 53 (.imul) 1 54 := ⟨by decide +kernel, rfl⟩
theorem d_X12_notes_54 : DC mX12_notes 54 (.sipush 1116) 3 57 := ⟨by decide +kernel, rfl⟩
theorem d_X12_notes_57 : DC mX12_notes 57 (.invokestatic 98) 3 60 := ⟨by decide +kernel, rfl⟩
theorem d_X12_notes_60 : DC mX12_notes 60 (.aload_n 0) 1 61 := ⟨by decide +kernel, rfl⟩
theorem d_X12_notes_61 : DC mX12_notes 61 (.dup) 1 62 := ⟨by decide +kernel, rfl⟩
theorem d_X12_notes_62 : DC mX12_notes 62 (.getfield 95) 3 65 := ⟨by decide +kernel, rfl⟩
theorem d_X12_notes_65 : DC mX12_notes 65 (.iconst 1) 1 66 := ⟨by decide +kernel, rfl⟩
theorem d_X12_notes_66 : DC mX12_notes 66 (.iadd) 1 67 := ⟨by decide +kernel, rfl⟩
theorem d_X12_notes_67 : DC mX12_notes 67 (.putfield 95) 3 70 := ⟨by decide +kernel, rfl⟩
theorem d_X12_notes_70 : DC mX12_notes 70 (.return_) 1 71 := ⟨by decide +kernel, rfl⟩
theorem d_X12_empties_0 : DC mX12_empties 0 (.aload_n 0) 1 1 := ⟨by decide +kernel, rfl⟩
theorem d_X12_empties_1 : DC mX12_empties 1 (.getfield 30) 3 4 := ⟨by decide +kernel, rfl⟩
theorem d_X12_empties_4 : DC mX12_empties 4 (.sipush 161) 3 7 := ⟨by decide +kernel, rfl⟩
theorem d_X12_empties_7 : DC mX12_empties 7 (.iload_n 1) 1 8 := ⟨by decide +kernel, rfl⟩
theorem d_X12_empties_8 : DC mX12_empties 8 (.imul) 1 9 := ⟨by decide +kernel, rfl⟩
theorem d_X12_empties_9 : DC mX12_empties 9 (.iconst 0) 1 10 := ⟨by decide +kernel, rfl⟩
theorem d_X12_empties_10 : DC mX12_empties 10 (.iastore) 1 11 := ⟨by decide +kernel, rfl⟩
theorem d_X12_empties_11 : DC mX12_empties 11 (.return_) 1 12 := ⟨by decide +kernel, rfl⟩
theorem d_X12_begins_0 : DC mX12_begins 0 (.aload_n 0) 1 1 := ⟨by decide +kernel, rfl⟩
theorem d_X12_begins_1 : DC mX12_begins 1 (.iconst 0) 1 2 := ⟨by decide +kernel, rfl⟩
theorem d_X12_begins_2 : DC mX12_begins 2 (.putfield 102) 3 5 := ⟨by decide +kernel, rfl⟩
theorem d_X12_begins_5 : DC mX12_begins 5 (.aload_n 0) 1 6 := ⟨by decide +kernel, rfl⟩
theorem d_X12_begins_6 : DC mX12_begins 6 (.iconst 0) 1 7 := ⟨by decide +kernel, rfl⟩
theorem d_X12_begins_7 : DC mX12_begins 7 (.invokevirtual 105) 3 10 := ⟨by decide +kernel, rfl⟩
theorem d_X12_begins_10 : DC mX12_begins 10 (.return_) 1 11 := ⟨by decide +kernel, rfl⟩
theorem d_X12_many_0 : DC mX12_many 0 (.aload_n 0) 1 1 := ⟨by decide +kernel, rfl⟩
theorem d_X12_many_1 : DC mX12_many 1 (.getfield 30) 3 4 := ⟨by decide +kernel, rfl⟩
theorem d_X12_many_4 : DC mX12_many 4 (.sipush 161) 3 7 := ⟨by decide +kernel, rfl⟩
theorem d_X12_many_7 : DC mX12_many 7 (.iload_n 1) 1 8 := ⟨by decide +kernel, rfl⟩
theorem d_X12_many_8 : DC mX12_many 8 (.imul) 1 9 := ⟨by decide +kernel, rfl⟩
theorem d_X12_many_9 : DC mX12_many 9 (.iaload) 1 10 := ⟨by decide +kernel, rfl⟩
theorem d_X12_many_10 : DC mX12_many 10 (.ireturn) 1 11 := ⟨by decide +kernel, rfl⟩
theorem d_X12_key_0 : DC mX12_key 0 (.aload_n 0) 1 1 := ⟨by decide +kernel, rfl⟩
theorem d_X12_key_1 : DC mX12_key 1 (.getfield 30) 3 4 := ⟨by decide +kernel, rfl⟩
theorem d_X12_key_4 : DC mX12_key 4 (.sipush 161) 3 7 := ⟨by decide +kernel, rfl⟩
theorem d_X12_key_7 : DC mX12_key 7 (.iload_n 1) 1 8 := ⟨by decide +kernel, rfl⟩
theorem d_X12_key_8 : DC mX12_key 8 (.imul) 1 9 := ⟨by decide +kernel, rfl⟩
theorem d_X12_key_9 : DC mX12_key 9 (.iconst 1) 1 10 := ⟨by decide +kernel, rfl⟩
theorem d_X12_key_10 : DC mX12_key 10 (.iadd) 1 11 := ⟨by decide +kernel, rfl⟩
theorem d_X12_key_11 : DC mX12_key 11 (.iconst 2) 1 12 := ⟨by decide +kernel, rfl⟩
theorem d_X12_key_12 : DC mX12_key 12 (.iload_n 2) 1 13 := ⟨by decide +kernel, rfl⟩
theorem d_X12_key_13 : DC mX12_key 13 (.imul) 1 14 := ⟨by decide +kernel, rfl⟩
theorem d_X12_key_14 : DC mX12_key 14 (.iadd) 1 15 := ⟨by decide +kernel, rfl⟩
theorem d_X12_key_15 : DC mX12_key 15 (.iaload) 1 16 := ⟨by decide +kernel, rfl⟩
theorem d_X12_key_16 : DC mX12_key 16 (.ireturn) 1 17 := ⟨by decide +kernel, rfl⟩
theorem d_X12_number_0 : DC mX12_number 0 (.aload_n 0) 1 1 := ⟨by decide +kernel, rfl⟩
theorem d_X12_number_1 : DC mX12_number 1 (.getfield 30) 3 4 := ⟨by decide +kernel, rfl⟩
theorem d_X12_number_4 : DC mX12_number 4 (.sipush 161) 3 7 := ⟨by decide +kernel, rfl⟩
theorem d_X12_number_7 : DC mX12_number 7 (.iload_n 1) 1 8 := ⟨by decide +kernel, rfl⟩
theorem d_X12_number_8 : DC mX12_number 8 (.imul) 1 9 := ⟨by decide +kernel, rfl⟩
theorem d_X12_number_9 : DC mX12_number 9 (.iconst 2) 1 10 := ⟨by decide +kernel, rfl⟩
theorem d_X12_number_10 : DC mX12_number 10 (.iadd) 1 11 := ⟨by decide +kernel, rfl⟩
theorem d_X12_number_11 : DC mX12_number 11 (.iconst 2) 1 12 := ⟨by decide +kernel, rfl⟩
theorem d_X12_number_12 : DC mX12_number 12 (.iload_n 2) 1 13 := ⟨by decide +kernel, rfl⟩
theorem d_X12_number_13 : DC mX12_number 13 (.imul) 1 14 := ⟨by decide +kernel, rfl⟩
theorem d_X12_number_14 : DC mX12_number 14 (.iadd) 1 15 := ⟨by decide +kernel, rfl⟩
theorem d_X12_number_15 : DC mX12_number 15 (.iaload) 1 16 := ⟨by decide +kernel, rfl⟩
theorem d_X12_number_16 : DC mX12_number 16 (.ireturn) 1 17 := ⟨by decide +kernel, rfl⟩
theorem d_X12_takes_0 : DC mX12_takes 0 (.aload_n 0) 1 1 := ⟨by decide +kernel, rfl⟩
theorem d_X12_takes_1 : DC mX12_takes 1 (.getfield 20) 3 4 := ⟨by decide +kernel, rfl⟩
theorem d_X12_takes_4 : DC mX12_takes 4 (.sipush 161) 3 7 := ⟨by decide +kernel, rfl⟩
theorem d_X12_takes_7 : DC mX12_takes 7 (.iload_n 1) 1 8 := ⟨by decide +kernel, rfl⟩
theorem d_X12_takes_8 : DC mX12_takes 8 (.imul) 1 9 := ⟨by decide +kernel, rfl⟩
theorem d_X12_takes_9 : DC mX12_takes 9 (.aload_n 0) 1 10 := ⟨by decide +kernel, rfl⟩
theorem d_X12_takes_10 : DC mX12_takes 10 (.getfield 30) 3 13 := ⟨by decide +kernel, rfl⟩
theorem d_X12_takes_13 : DC mX12_takes 13 (.sipush 161) 3 16 := ⟨by decide +kernel, rfl⟩
theorem d_X12_takes_16 : DC mX12_takes 16 (.iload_n 2) 1 17 := ⟨by decide +kernel, rfl⟩
theorem d_X12_takes_17 : DC mX12_takes 17 (.imul) 1 18 := ⟨by decide +kernel, rfl⟩
theorem d_X12_takes_18 : DC mX12_takes 18 (.sipush 161) 3 21 := ⟨by decide +kernel, rfl⟩
theorem d_X12_takes_21 : DC mX12_takes 21 (.invokestatic 98) 3 24 := ⟨by decide +kernel, rfl⟩
theorem d_X12_takes_24 : DC mX12_takes 24 (.return_) 1 25 := ⟨by decide +kernel, rfl⟩
theorem d_X12_copiesRow_0 : DC mX12_copiesRow 0 (.aload_n 0) 1 1 := ⟨by decide +kernel, rfl⟩
theorem d_X12_copiesRow_1 : DC mX12_copiesRow 1 (.getfield 30) 3 4 := ⟨by decide +kernel, rfl⟩
theorem d_X12_copiesRow_4 : DC mX12_copiesRow 4 (.sipush 161) 3 7 := ⟨by decide +kernel, rfl⟩
theorem d_X12_copiesRow_7 : DC mX12_copiesRow 7 (.iload_n 1) 1 8 := ⟨by decide +kernel, rfl⟩
theorem d_X12_copiesRow_8 : DC mX12_copiesRow 8 (.imul) 1 9 := ⟨by decide +kernel, rfl⟩
theorem d_X12_copiesRow_9 : DC mX12_copiesRow 9 (.aload_n 0) 1 10 := ⟨by decide +kernel, rfl⟩
theorem d_X12_copiesRow_10 : DC mX12_copiesRow 10 (.getfield 30) 3 13 := ⟨by decide +kernel, rfl⟩
theorem d_X12_copiesRow_13 : DC mX12_copiesRow 13 (.sipush 161) 3 16 := ⟨by decide +kernel, rfl⟩
theorem d_X12_copiesRow_16 : DC mX12_copiesRow 16 (.iload_n 2) 1 17 := ⟨by decide +kernel, rfl⟩
theorem d_X12_copiesRow_17 : DC mX12_copiesRow 17 (.imul) 1 18 := ⟨by decide +kernel, rfl⟩
theorem d_X12_copiesRow_18 : DC mX12_copiesRow 18 (.sipush 161) 3 21 := ⟨by decide +kernel, rfl⟩
theorem d_X12_copiesRow_21 : DC mX12_copiesRow 21 (.invokestatic 98) 3 24 := ⟨by decide +kernel, rfl⟩
theorem d_X12_copiesRow_24 : DC mX12_copiesRow 24 (.return_) 1 25 := ⟨by decide +kernel, rfl⟩
theorem d_X12_fails_0 : DC mX12_fails 0 (.aload_n 0) 1 1 := ⟨by decide +kernel, rfl⟩
theorem d_X12_fails_1 : DC mX12_fails 1 (.getfield 102) 3 4 := ⟨by decide +kernel, rfl⟩
theorem d_X12_fails_4 : DC mX12_fails 4 (.ifCond .ne 8) 3 7 := ⟨by decide +kernel, rfl⟩
theorem d_X12_fails_7 : DC mX12_fails 7 (.aload_n 0) 1 8 := ⟨by decide +kernel, rfl⟩
theorem d_X12_fails_8 : DC mX12_fails 8 (.iload_n 1) 1 9 := ⟨by decide +kernel, rfl⟩
theorem d_X12_fails_9 : DC mX12_fails 9 (.putfield 102) 3 12 := ⟨by decide +kernel, rfl⟩
theorem d_X12_fails_12 : DC mX12_fails 12 (.iconst 0) 1 13 := ⟨by decide +kernel, rfl⟩
theorem d_X12_fails_13 : DC mX12_fails 13 (.ireturn) 1 14 := ⟨by decide +kernel, rfl⟩
theorem d_X12_isInt_0 : DC mX12_isInt 0 (.lload_n 0) 1 1 := ⟨by decide +kernel, rfl⟩
theorem d_X12_isInt_1 : DC mX12_isInt 1 (.ldc2_w 109) 3 4 := ⟨by decide +kernel, rfl⟩
theorem d_X12_isInt_4 : DC mX12_isInt 4 (.ldc2_w 111) 3 7 := ⟨by decide +kernel, rfl⟩
theorem d_X12_isInt_7 : DC mX12_isInt 7 (.invokestatic 91) 3 10 := ⟨by decide +kernel, rfl⟩
theorem d_X12_isInt_10 : DC mX12_isInt 10 (.ireturn) 1 11 := ⟨by decide +kernel, rfl⟩
theorem d_X12_placeOf_0 : DC mX12_placeOf 0 (.iconst 0) 1 1 := ⟨by decide +kernel, rfl⟩
theorem d_X12_placeOf_1 : DC mX12_placeOf 1 (.istore_n 3) 1 2 := ⟨by decide +kernel, rfl⟩
theorem d_X12_placeOf_2 : DC mX12_placeOf 2 (.iload_n 3) 1 3 := ⟨by decide +kernel, rfl⟩
theorem d_X12_placeOf_3 : DC mX12_placeOf 3 (.aload_n 0) 1 4 := ⟨by decide +kernel, rfl⟩
theorem d_X12_placeOf_4 : DC mX12_placeOf 4 (.iload_n 1) 1 5 := ⟨by decide +kernel, rfl⟩
theorem d_X12_placeOf_5 : DC mX12_placeOf 5 (.invokevirtual 113) 3 8 := ⟨by decide +kernel, rfl⟩
theorem d_X12_placeOf_8 : DC mX12_placeOf 8 (.if_icmp .ge 19) 3 11 := ⟨by decide +kernel, rfl⟩
theorem d_X12_placeOf_11 : DC mX12_placeOf 11 (.aload_n 0) 1 12 := ⟨by decide +kernel, rfl⟩
theorem d_X12_placeOf_12 : DC mX12_placeOf 12 (.iload_n 1) 1 13 := ⟨by decide +kernel, rfl⟩
theorem d_X12_placeOf_13 : DC mX12_placeOf 13 (.iload_n 3) 1 14 := ⟨by decide +kernel, rfl⟩
theorem d_X12_placeOf_14 : DC mX12_placeOf 14 (.invokevirtual 117) 3 17 := ⟨by decide +kernel, rfl⟩
theorem d_X12_placeOf_17 : DC mX12_placeOf 17 (.iload_n 2) 1 18 := ⟨by decide +kernel, rfl⟩
theorem d_X12_placeOf_18 : DC mX12_placeOf 18 (.if_icmp .ge 9) 3 21 := ⟨by decide +kernel, rfl⟩
theorem d_X12_placeOf_21 : DC mX12_placeOf 21 (.iinc 3 1) 3 24 := ⟨by decide +kernel, rfl⟩
theorem d_X12_placeOf_24 : DC mX12_placeOf 24 (.goto (-22)) 3 27 := ⟨by decide +kernel, rfl⟩
theorem d_X12_placeOf_27 : DC mX12_placeOf 27 (.iload_n 3) 1 28 := ⟨by decide +kernel, rfl⟩
theorem d_X12_placeOf_28 : DC mX12_placeOf 28 (.ireturn) 1 29 := ⟨by decide +kernel, rfl⟩
theorem d_X12_puts_0 : DC mX12_puts 0 (.aload_n 0) 1 1 := ⟨by decide +kernel, rfl⟩
theorem d_X12_puts_1 : DC mX12_puts 1 (.getfield 102) 3 4 := ⟨by decide +kernel, rfl⟩
theorem d_X12_puts_4 : DC mX12_puts 4 (.ifCond .eq 5) 3 7 := ⟨by decide +kernel, rfl⟩
theorem d_X12_puts_7 : DC mX12_puts 7 (.iconst 0) 1 8 := ⟨by decide +kernel, rfl⟩
theorem d_X12_puts_8 : DC mX12_puts 8 (.ireturn) 1 9 := ⟨by decide +kernel, rfl⟩
theorem d_X12_puts_9 : DC mX12_puts 9 (.lload_n 3) 1 10 := ⟨by decide +kernel, rfl⟩
theorem d_X12_puts_10 : DC mX12_puts 10 (.invokestatic 121) 3 13 := ⟨by decide +kernel, rfl⟩
theorem d_X12_puts_13 : DC mX12_puts 13 (.ifCond .ne 9) 3 16 := ⟨by decide +kernel, rfl⟩
theorem d_X12_puts_16 : DC mX12_puts 16 (.aload_n 0) 1 17 := ⟨by decide +kernel, rfl⟩
theorem d_X12_puts_17 : DC mX12_puts 17 (.iconst 4) 1 18 := ⟨by decide +kernel, rfl⟩
theorem d_X12_puts_18 : DC mX12_puts 18 (.invokevirtual 125) 3 21 := ⟨by decide +kernel, rfl⟩
theorem d_X12_puts_21 : DC mX12_puts 21 (.ireturn) 1 22 := ⟨by decide +kernel, rfl⟩
theorem d_X12_puts_22 : DC mX12_puts 22 (.lload_n 3) 1 23 := ⟨by decide +kernel, rfl⟩
theorem d_X12_puts_23 : DC mX12_puts 23 (.lconst 0) 1 24 := ⟨by decide +kernel, rfl⟩
theorem d_X12_puts_24 : DC mX12_puts 24 (.lcmp) 1 25 := ⟨by decide +kernel, rfl⟩
theorem d_X12_puts_25 : DC mX12_puts 25 (.ifCond .ne 5) 3 28 := ⟨by decide +kernel, rfl⟩
theorem d_X12_puts_28 : DC mX12_puts 28 (.iconst 1) 1 29 := ⟨by decide +kernel, rfl⟩
theorem d_X12_puts_29 : DC mX12_puts 29 (.ireturn) 1 30 := ⟨by decide +kernel, rfl⟩
theorem d_X12_puts_30 : DC mX12_puts 30 (.aload_n 0) 1 31 := ⟨by decide +kernel, rfl⟩
theorem d_X12_puts_31 : DC mX12_puts 31 (.iload_n 1) 1 32 := ⟨by decide +kernel, rfl⟩
theorem d_X12_puts_32 : DC mX12_puts 32 (.iload_n 2) 1 33 := ⟨by decide +kernel, rfl⟩
theorem d_X12_puts_33 : DC mX12_puts 33 (.invokevirtual 129) 3 36 := ⟨by decide +kernel, rfl⟩
theorem d_X12_puts_36 : DC mX12_puts 36 (.istore 5) 2 38 := ⟨by decide +kernel, rfl⟩
theorem d_X12_puts_38 : DC mX12_puts 38 (.sipush 161) 3 41 := ⟨by decide +kernel, rfl⟩
theorem d_X12_puts_41 : DC mX12_puts 41 (.iload_n 1) 1 42 := ⟨by decide +kernel, rfl⟩
theorem d_X12_puts_42 : DC mX12_puts 42 (.imul) 1 43 := ⟨by decide +kernel, rfl⟩
theorem d_X12_puts_43 : DC mX12_puts 43 (.iconst 1) 1 44 := ⟨by decide +kernel, rfl⟩
theorem d_X12_puts_44 : DC mX12_puts 44 (.iadd) 1 45 := ⟨by decide +kernel, rfl⟩
theorem d_X12_puts_45 : DC mX12_puts 45 (.iconst 2) 1 46 := ⟨by decide +kernel, rfl⟩
theorem d_X12_puts_46 : DC mX12_puts 46 (.iload 5) 2 48 := ⟨by decide +kernel, rfl⟩
theorem d_X12_puts_48 : DC mX12_puts 48 (.imul) 1 49 := ⟨by decide +kernel, rfl⟩
theorem d_X12_puts_49 : DC mX12_puts 49 (.iadd) 1 50 := ⟨by decide +kernel, rfl⟩
theorem d_X12_puts_50 : DC mX12_puts 50 (.istore 6) 2 52 := ⟨by decide +kernel, rfl⟩
theorem d_X12_puts_52 : DC mX12_puts 52 (.sipush 161) 3 55 := ⟨by decide +kernel, rfl⟩
theorem d_X12_puts_55 : DC mX12_puts 55 (.iload_n 1) 1 56 := ⟨by decide +kernel, rfl⟩
theorem d_X12_puts_56 : DC mX12_puts 56 (.imul) 1 57 := ⟨by decide +kernel, rfl⟩
theorem d_X12_puts_57 : DC mX12_puts 57 (.iconst 1) 1 58 := ⟨by decide +kernel, rfl⟩
theorem d_X12_puts_58 : DC mX12_puts 58 (.iadd) 1 59 := ⟨by decide +kernel, rfl⟩
theorem d_X12_puts_59 : DC mX12_puts 59 (.iconst 2) 1 60 := ⟨by decide +kernel, rfl⟩
theorem d_X12_puts_60 : DC mX12_puts 60 (.aload_n 0) 1 61 := ⟨by decide +kernel, rfl⟩
theorem d_X12_puts_61 : DC mX12_puts 61 (.iload_n 1) 1 62 := ⟨by decide +kernel, rfl⟩
theorem d_X12_puts_62 : DC mX12_puts 62 (.invokevirtual 113) 3 65 := ⟨by decide +kernel, rfl⟩
theorem d_X12_puts_65 : DC mX12_puts 65 (.imul) 1 66 := ⟨by decide +kernel, rfl⟩
theorem d_X12_puts_66 : DC mX12_puts 66 (.iadd) 1 67 := ⟨by decide +kernel, rfl⟩
theorem d_X12_puts_67 : DC mX12_puts 67 (.istore 7) 2 69 := ⟨by decide +kernel, rfl⟩
theorem d_X12_puts_69 : DC mX12_puts 69 (.iload 5) 2 71 := ⟨by decide +kernel, rfl⟩
theorem d_X12_puts_71 : DC mX12_puts 71 (.aload_n 0) 1 72 := ⟨by decide +kernel, rfl⟩
theorem d_X12_puts_72 : DC mX12_puts 72 (.iload_n 1) 1 73 := ⟨by decide +kernel, rfl⟩
theorem d_X12_puts_73 : DC mX12_puts 73 (.invokevirtual 113) 3 76 := ⟨by decide +kernel, rfl⟩
theorem d_X12_puts_76 : DC mX12_puts 76 (.if_icmp .ge 112) 3 79 := ⟨by decide +kernel, rfl⟩
theorem d_X12_puts_79 : DC mX12_puts 79 (.aload_n 0) 1 80 := ⟨by decide +kernel, rfl⟩
theorem d_X12_puts_80 : DC mX12_puts 80 (.iload_n 1) 1 81 := ⟨by decide +kernel, rfl⟩
theorem d_X12_puts_81 : DC mX12_puts 81 (.iload 5) 2 83 := ⟨by decide +kernel, rfl⟩
theorem d_X12_puts_83 : DC mX12_puts 83 (.invokevirtual 117) 3 86 := ⟨by decide +kernel, rfl⟩
theorem d_X12_puts_86 : DC mX12_puts 86 (.iload_n 2) 1 87 := ⟨by decide +kernel, rfl⟩
theorem d_X12_puts_87 : DC mX12_puts 87 (.if_icmp .ne 101) 3 90 := ⟨by decide +kernel, rfl⟩
theorem d_X12_puts_90 : DC mX12_puts 90 (.aload_n 0) 1 91 := ⟨by decide +kernel, rfl⟩
theorem d_X12_puts_91 : DC mX12_puts 91 (.iload_n 1) 1 92 := ⟨by decide +kernel, rfl⟩
theorem d_X12_puts_92 : DC mX12_puts 92 (.iload 5) 2 94 := ⟨by decide +kernel, rfl⟩
theorem d_X12_puts_94 : DC mX12_puts 94 (.invokevirtual 132) 3 97 := ⟨by decide +kernel, rfl⟩
theorem d_X12_puts_97 : DC mX12_puts 97 (.i2l) 1 98 := ⟨by decide +kernel, rfl⟩
theorem d_X12_puts_98 : DC mX12_puts 98 (.lload_n 3) 1 99 := ⟨by decide +kernel, rfl⟩
theorem d_X12_puts_99 : DC mX12_puts 99 (.ladd) 1 100 := ⟨by decide +kernel, rfl⟩
theorem d_X12_puts_100 : DC mX12_puts 100 (.lstore 8) 2 102 := ⟨by decide +kernel, rfl⟩
theorem d_X12_puts_102 : DC mX12_puts 102 (.lload 8) 2 104 := ⟨by decide +kernel, rfl⟩
theorem d_X12_puts_104 : DC mX12_puts 104 (.invokestatic 121) 3 107 := ⟨by decide +kernel, rfl⟩
theorem d_X12_puts_107 : DC mX12_puts 107 (.ifCond .ne 9) 3 110 := ⟨by decide +kernel, rfl⟩
theorem d_X12_puts_110 : DC mX12_puts 110 (.aload_n 0) 1 111 := ⟨by decide +kernel, rfl⟩
theorem d_X12_puts_111 : DC mX12_puts 111 (.iconst 4) 1 112 := ⟨by decide +kernel, rfl⟩
theorem d_X12_puts_112 : DC mX12_puts 112 (.invokevirtual 125) 3 115 := ⟨by decide +kernel, rfl⟩
theorem d_X12_puts_115 : DC mX12_puts 115 (.ireturn) 1 116 := ⟨by decide +kernel, rfl⟩
theorem d_X12_puts_116 : DC mX12_puts 116 (.aload_n 0) 1 117 := ⟨by decide +kernel, rfl⟩
theorem d_X12_puts_117 : DC mX12_puts 117 (.getfield 30) 3 120 := ⟨by decide +kernel, rfl⟩
theorem d_X12_puts_120 : DC mX12_puts 120 (.iload 6) 2 122 := ⟨by decide +kernel, rfl⟩
theorem d_X12_puts_122 : DC mX12_puts 122 (.iconst 1) 1 123 := ⟨by decide +kernel, rfl⟩
theorem d_X12_puts_123 : DC mX12_puts 123 (.iadd) 1 124 := ⟨by decide +kernel, rfl⟩
theorem d_X12_puts_124 : DC mX12_puts 124 (.lload 8) 2 126 := ⟨by decide +kernel, rfl⟩
theorem d_X12_puts_126 : DC mX12_puts 126 (.l2i) 1 127 := ⟨by decide +kernel, rfl⟩
theorem d_X12_puts_127 : DC mX12_puts 127 (.iastore) 1 128 := ⟨by decide +kernel, rfl⟩
theorem d_X12_puts_128 : DC mX12_puts 128 (.lload 8) 2 130 := ⟨by decide +kernel, rfl⟩
theorem d_X12_puts_130 : DC mX12_puts 130 (.lconst 0) 1 131 := ⟨by decide +kernel, rfl⟩
theorem d_X12_puts_131 : DC mX12_puts 131 (.lcmp) 1 132 := ⟨by decide +kernel, rfl⟩
theorem d_X12_puts_132 : DC mX12_puts 132 (.ifCond .eq 5) 3 135 := ⟨by decide +kernel, rfl⟩
theorem d_X12_puts_135 : DC mX12_puts 135 (.iconst 1) 1 136 := ⟨by decide +kernel, rfl⟩
theorem d_X12_puts_136 : DC mX12_puts 136 (.ireturn) 1 137 := ⟨by decide +kernel, rfl⟩
theorem d_X12_puts_137 : DC mX12_puts 137 (.iload 6) 2 139 := ⟨by decide +kernel, rfl⟩
theorem d_X12_puts_139 : DC mX12_puts 139 (.istore 10) 2 141 := ⟨by decide +kernel, rfl⟩
theorem d_X12_puts_141 : DC mX12_puts 141 (.iload 10) 2 143 := ⟨by decide +kernel, rfl⟩
theorem d_X12_puts_143 : DC mX12_puts 143 (.iload 7) 2 145 := ⟨by decide +kernel, rfl⟩
theorem d_X12_puts_145 : DC mX12_puts 145 (.iconst 2) 1 146 := ⟨by decide +kernel, rfl⟩
theorem d_X12_puts_146 : DC mX12_puts 146 (.isub) 1 147 := ⟨by decide +kernel, rfl⟩
theorem d_X12_puts_147 : DC mX12_puts 147 (.if_icmp .ge 25) 3 150 := ⟨by decide +kernel, rfl⟩
theorem d_X12_puts_150 : DC mX12_puts 150 (.aload_n 0) 1 151 := ⟨by decide +kernel, rfl⟩
theorem d_X12_puts_151 : DC mX12_puts 151 (.getfield 30) 3 154 := ⟨by decide +kernel, rfl⟩
theorem d_X12_puts_154 : DC mX12_puts 154 (.iload 10) 2 156 := ⟨by decide +kernel, rfl⟩
theorem d_X12_puts_156 : DC mX12_puts 156 (.aload_n 0) 1 157 := ⟨by decide +kernel, rfl⟩
theorem d_X12_puts_157 : DC mX12_puts 157 (.getfield 30) 3 160 := ⟨by decide +kernel, rfl⟩
theorem d_X12_puts_160 : DC mX12_puts 160 (.iload 10) 2 162 := ⟨by decide +kernel, rfl⟩
theorem d_X12_puts_162 : DC mX12_puts 162 (.iconst 2) 1 163 := ⟨by decide +kernel, rfl⟩
theorem d_X12_puts_163 : DC mX12_puts 163 (.iadd) 1 164 := ⟨by decide +kernel, rfl⟩
theorem d_X12_puts_164 : DC mX12_puts 164 (.iaload) 1 165 := ⟨by decide +kernel, rfl⟩
theorem d_X12_puts_165 : DC mX12_puts 165 (.iastore) 1 166 := ⟨by decide +kernel, rfl⟩
theorem d_X12_puts_166 : DC mX12_puts 166 (.iinc 10 1) 3 169 := ⟨by decide +kernel, rfl⟩
theorem d_X12_puts_169 : DC mX12_puts 169 (.goto (-28)) 3 172 := ⟨by decide +kernel, rfl⟩
theorem d_X12_puts_172 : DC mX12_puts 172 (.aload_n 0) 1 173 := ⟨by decide +kernel, rfl⟩
theorem d_X12_puts_173 : DC mX12_puts 173 (.getfield 30) 3 176 := ⟨by decide +kernel, rfl⟩
theorem d_X12_puts_176 : DC mX12_puts 176 (.sipush 161) 3 179 := ⟨by decide +kernel, rfl⟩
theorem d_X12_puts_179 : DC mX12_puts 179 (.iload_n 1) 1 180 := ⟨by decide +kernel, rfl⟩
theorem d_X12_puts_180 : DC mX12_puts 180 (.imul) 1 181 := ⟨by decide +kernel, rfl⟩
theorem d_X12_puts_181 : DC mX12_puts 181 (.dup2) 1 182 := ⟨by decide +kernel, rfl⟩
theorem d_X12_puts_182 : DC mX12_puts 182 (.iaload) 1 183 := ⟨by decide +kernel, rfl⟩
theorem d_X12_puts_183 : DC mX12_puts 183 (.iconst 1) 1 184 := ⟨by decide +kernel, rfl⟩
theorem d_X12_puts_184 : DC mX12_puts 184 (.isub) 1 185 := ⟨by decide +kernel, rfl⟩
theorem d_X12_puts_185 : DC mX12_puts 185 (.iastore) 1 186 := ⟨by decide +kernel, rfl⟩
theorem d_X12_puts_186 : DC mX12_puts 186 (.iconst 1) 1 187 := ⟨by decide +kernel, rfl⟩
theorem d_X12_puts_187 : DC mX12_puts 187 (.ireturn) 1 188 := ⟨by decide +kernel, rfl⟩
theorem d_X12_puts_188 : DC mX12_puts 188 (.aload_n 0) 1 189 := ⟨by decide +kernel, rfl⟩
theorem d_X12_puts_189 : DC mX12_puts 189 (.iload_n 1) 1 190 := ⟨by decide +kernel, rfl⟩
theorem d_X12_puts_190 : DC mX12_puts 190 (.invokevirtual 113) 3 193 := ⟨by decide +kernel, rfl⟩
theorem d_X12_puts_193 : DC mX12_puts 193 (.bipush 80) 2 195 := ⟨by decide +kernel, rfl⟩
theorem d_X12_puts_195 : DC mX12_puts 195 (.if_icmp .ne 9) 3 198 := ⟨by decide +kernel, rfl⟩
theorem d_X12_puts_198 : DC mX12_puts 198 (.aload_n 0) 1 199 := ⟨by decide +kernel, rfl⟩
theorem d_X12_puts_199 : DC mX12_puts 199 (.iconst 1) 1 200 := ⟨by decide +kernel, rfl⟩
theorem d_X12_puts_200 : DC mX12_puts 200 (.invokevirtual 125) 3 203 := ⟨by decide +kernel, rfl⟩
theorem d_X12_puts_203 : DC mX12_puts 203 (.ireturn) 1 204 := ⟨by decide +kernel, rfl⟩
theorem d_X12_puts_204 : DC mX12_puts 204 (.iload 7) 2 206 := ⟨by decide +kernel, rfl⟩
theorem d_X12_puts_206 : DC mX12_puts 206 (.iconst 1) 1 207 := ⟨by decide +kernel, rfl⟩
theorem d_X12_puts_207 : DC mX12_puts 207 (.isub) 1 208 := ⟨by decide +kernel, rfl⟩
theorem d_X12_puts_208 : DC mX12_puts 208 (.istore 8) 2 210 := ⟨by decide +kernel, rfl⟩
theorem d_X12_puts_210 : DC mX12_puts 210 (.iload 8) 2 212 := ⟨by decide +kernel, rfl⟩
theorem d_X12_puts_212 : DC mX12_puts 212 (.iload 6) 2 214 := ⟨by decide +kernel, rfl⟩
theorem d_X12_puts_214 : DC mX12_puts 214 (.if_icmp .lt 25) 3 217 := ⟨by decide +kernel, rfl⟩
theorem d_X12_puts_217 : DC mX12_puts 217 (.aload_n 0) 1 218 := ⟨by decide +kernel, rfl⟩
theorem d_X12_puts_218 : DC mX12_puts 218 (.getfield 30) 3 221 := ⟨by decide +kernel, rfl⟩
theorem d_X12_puts_221 : DC mX12_puts 221 (.iload 8) 2 223 := ⟨by decide +kernel, rfl⟩
theorem d_X12_puts_223 : DC mX12_puts 223 (.iconst 2) 1 224 := ⟨by decide +kernel, rfl⟩
theorem d_X12_puts_224 : DC mX12_puts 224 (.iadd) 1 225 := ⟨by decide +kernel, rfl⟩
theorem d_X12_puts_225 : DC mX12_puts 225 (.aload_n 0) 1 226 := ⟨by decide +kernel, rfl⟩
theorem d_X12_puts_226 : DC mX12_puts 226 (.getfield 30) 3 229 := ⟨by decide +kernel, rfl⟩
theorem d_X12_puts_229 : DC mX12_puts 229 (.iload 8) 2 231 := ⟨by decide +kernel, rfl⟩
theorem d_X12_puts_231 : DC mX12_puts 231 (.iaload) 1 232 := ⟨by decide +kernel, rfl⟩
theorem d_X12_puts_232 : DC mX12_puts 232 (.iastore) 1 233 := ⟨by decide +kernel, rfl⟩
theorem d_X12_puts_233 : DC mX12_puts 233 (.iinc 8 (-1)) 3 236 := ⟨by decide +kernel, rfl⟩
theorem d_X12_puts_236 : DC mX12_puts 236 (.goto (-26)) 3 239 := ⟨by decide +kernel, rfl⟩
theorem d_X12_puts_239 : DC mX12_puts 239 (.aload_n 0) 1 240 := ⟨by decide +kernel, rfl⟩
theorem d_X12_puts_240 : DC mX12_puts 240 (.getfield 30) 3 243 := ⟨by decide +kernel, rfl⟩
theorem d_X12_puts_243 : DC mX12_puts 243 (.iload 6) 2 245 := ⟨by decide +kernel, rfl⟩
theorem d_X12_puts_245 : DC mX12_puts 245 (.iload_n 2) 1 246 := ⟨by decide +kernel, rfl⟩
theorem d_X12_puts_246 : DC mX12_puts 246 (.iastore) 1 247 := ⟨by decide +kernel, rfl⟩
theorem d_X12_puts_247 : DC mX12_puts 247 (.aload_n 0) 1 248 := ⟨by decide +kernel, rfl⟩
theorem d_X12_puts_248 : DC mX12_puts 248 (.getfield 30) 3 251 := ⟨by decide +kernel, rfl⟩
theorem d_X12_puts_251 : DC mX12_puts 251 (.iload 6) 2 253 := ⟨by decide +kernel, rfl⟩
theorem d_X12_puts_253 : DC mX12_puts 253 (.iconst 1) 1 254 := ⟨by decide +kernel, rfl⟩
theorem d_X12_puts_254 : DC mX12_puts 254 (.iadd) 1 255 := ⟨by decide +kernel, rfl⟩
theorem d_X12_puts_255 : DC mX12_puts 255 (.lload_n 3) 1 256 := ⟨by decide +kernel, rfl⟩
theorem d_X12_puts_256 : DC mX12_puts 256 (.l2i) 1 257 := ⟨by decide +kernel, rfl⟩
theorem d_X12_puts_257 : DC mX12_puts 257 (.iastore) 1 258 := ⟨by decide +kernel, rfl⟩
theorem d_X12_puts_258 : DC mX12_puts 258 (.aload_n 0) 1 259 := ⟨by decide +kernel, rfl⟩
theorem d_X12_puts_259 : DC mX12_puts 259 (.getfield 30) 3 262 := ⟨by decide +kernel, rfl⟩
theorem d_X12_puts_262 : DC mX12_puts 262 (.sipush 161) 3 265 := ⟨by decide +kernel, rfl⟩
theorem d_X12_puts_265 : DC mX12_puts 265 (.iload_n 1) 1 266 := ⟨by decide +kernel, rfl⟩
theorem d_X12_puts_266 : DC mX12_puts 266 (.imul) 1 267 := ⟨by decide +kernel, rfl⟩
theorem d_X12_puts_267 : DC mX12_puts 267 (.dup2) 1 268 := ⟨by decide +kernel, rfl⟩
theorem d_X12_puts_268 : DC mX12_puts 268 (.iaload) 1 269 := ⟨by decide +kernel, rfl⟩
theorem d_X12_puts_269 : DC mX12_puts 269 (.iconst 1) 1 270 := ⟨by decide +kernel, rfl⟩
theorem d_X12_puts_270 : DC mX12_puts 270 (.iadd) 1 271 := ⟨by decide +kernel, rfl⟩
theorem d_X12_puts_271 : DC mX12_puts 271 (.iastore) 1 272 := ⟨by decide +kernel, rfl⟩
theorem d_X12_puts_272 : DC mX12_puts 272 (.iconst 1) 1 273 := ⟨by decide +kernel, rfl⟩
theorem d_X12_puts_273 : DC mX12_puts 273 (.ireturn) 1 274 := ⟨by decide +kernel, rfl⟩
theorem d_X12_rankIn_0 : DC mX12_rankIn 0 (.iload_n 0) 1 1 := ⟨by decide +kernel, rfl⟩
theorem d_X12_rankIn_1 : DC mX12_rankIn 1 (.istore_n 2) 1 2 := ⟨by decide +kernel, rfl⟩
theorem d_X12_rankIn_2 : DC mX12_rankIn 2 (.iconst 3) 1 3 := ⟨by decide +kernel, rfl⟩
theorem d_X12_rankIn_3 : DC mX12_rankIn 3 (.istore_n 3) 1 4 := ⟨by decide +kernel, rfl⟩
theorem d_X12_rankIn_4 : DC mX12_rankIn 4 (.iload_n 3) 1 5 := ⟨by decide +kernel, rfl⟩
theorem d_X12_rankIn_5 : DC mX12_rankIn 5 (.iload_n 1) 1 6 := ⟨by decide +kernel, rfl⟩
theorem d_X12_rankIn_6 : DC mX12_rankIn 6 (.if_icmp .le 14) 3 9 := ⟨by decide +kernel, rfl⟩
theorem d_X12_rankIn_9 : DC mX12_rankIn 9 (.iload_n 2) 1 10 := ⟨by decide +kernel, rfl⟩
theorem d_X12_rankIn_10 : DC mX12_rankIn 10 (.bipush 121) 2 12 := ⟨by decide +kernel, rfl⟩
theorem d_X12_rankIn_12 : DC mX12_rankIn 12 (.idiv) 1 13 := ⟨by decide +kernel, rfl⟩
theorem d_X12_rankIn_13 : DC mX12_rankIn 13 (.istore_n 2) 1 14 := ⟨by decide +kernel, rfl⟩
theorem d_X12_rankIn_14 : DC mX12_rankIn 14 (.iinc 3 (-1)) 3 17 := ⟨by decide +kernel, rfl⟩
theorem d_X12_rankIn_17 : DC mX12_rankIn 17 (.goto (-13)) 3 20 := ⟨by decide +kernel, rfl⟩
theorem d_X12_rankIn_20 : DC mX12_rankIn 20 (.iload_n 2) 1 21 := ⟨by decide +kernel, rfl⟩
theorem d_X12_rankIn_21 : DC mX12_rankIn 21 (.bipush 121) 2 23 := ⟨by decide +kernel, rfl⟩
theorem d_X12_rankIn_23 : DC mX12_rankIn 23 (.irem) 1 24 := ⟨by decide +kernel, rfl⟩
theorem d_X12_rankIn_24 : DC mX12_rankIn 24 (.ireturn) 1 25 := ⟨by decide +kernel, rfl⟩
theorem d_X12_degreeOf_0 : DC mX12_degreeOf 0 (.iconst 0) 1 1 := ⟨by decide +kernel, rfl⟩
theorem d_X12_degreeOf_1 : DC mX12_degreeOf 1 (.istore_n 1) 1 2 := ⟨by decide +kernel, rfl⟩
theorem d_X12_degreeOf_2 : DC mX12_degreeOf 2 (.iload_n 1) 1 3 := ⟨by decide +kernel, rfl⟩
theorem d_X12_degreeOf_3 : DC mX12_degreeOf 3 (.iconst 4) 1 4 := ⟨by decide +kernel, rfl⟩
theorem d_X12_degreeOf_4 : DC mX12_degreeOf 4 (.if_icmp .ge 17) 3 7 := ⟨by decide +kernel, rfl⟩
theorem d_X12_degreeOf_7 : DC mX12_degreeOf 7 (.iload_n 0) 1 8 := ⟨by decide +kernel, rfl⟩
theorem d_X12_degreeOf_8 : DC mX12_degreeOf 8 (.iload_n 1) 1 9 := ⟨by decide +kernel, rfl⟩
theorem d_X12_degreeOf_9 : DC mX12_degreeOf 9 (.invokestatic 135) 3 12 := ⟨by decide +kernel, rfl⟩
theorem d_X12_degreeOf_12 : DC mX12_degreeOf 12 (.ifCond .le 9) 3 15 := ⟨by decide +kernel, rfl⟩
theorem d_X12_degreeOf_15 : DC mX12_degreeOf 15 (.iinc 1 1) 3 18 := ⟨by decide +kernel, rfl⟩
theorem d_X12_degreeOf_18 : DC mX12_degreeOf 18 (.goto (-16)) 3 21 := ⟨by decide +kernel, rfl⟩
theorem d_X12_degreeOf_21 : DC mX12_degreeOf 21 (.iload_n 1) 1 22 := ⟨by decide +kernel, rfl⟩
theorem d_X12_degreeOf_22 : DC mX12_degreeOf 22 (.ireturn) 1 23 := ⟨by decide +kernel, rfl⟩
theorem d_X12_keyOf_0 : DC mX12_keyOf 0 (.iconst 1) 1 1 := ⟨by decide +kernel, rfl⟩
theorem d_X12_keyOf_1 : DC mX12_keyOf 1 (.istore_n 2) 1 2 := ⟨by decide +kernel, rfl⟩
theorem d_X12_keyOf_2 : DC mX12_keyOf 2 (.iload_n 2) 1 3 := ⟨by decide +kernel, rfl⟩
theorem d_X12_keyOf_3 : DC mX12_keyOf 3 (.iload_n 1) 1 4 := ⟨by decide +kernel, rfl⟩
theorem d_X12_keyOf_4 : DC mX12_keyOf 4 (.if_icmp .ge 67) 3 7 := ⟨by decide +kernel, rfl⟩
theorem d_X12_keyOf_7 : DC mX12_keyOf 7 (.aload_n 0) 1 8 := ⟨by decide +kernel, rfl⟩
theorem d_X12_keyOf_8 : DC mX12_keyOf 8 (.getfield 33) 3 11 := ⟨by decide +kernel, rfl⟩
theorem d_X12_keyOf_11 : DC mX12_keyOf 11 (.iload_n 2) 1 12 := ⟨by decide +kernel, rfl⟩
theorem d_X12_keyOf_12 : DC mX12_keyOf 12 (.iaload) 1 13 := ⟨by decide +kernel, rfl⟩
theorem d_X12_keyOf_13 : DC mX12_keyOf 13 (.istore_n 3) 1 14 := ⟨by decide +kernel, rfl⟩
theorem d_X12_keyOf_14 : DC mX12_keyOf 14 (.iload_n 2) 1 15 := ⟨by decide +kernel, rfl⟩
theorem d_X12_keyOf_15 : DC mX12_keyOf 15 (.istore 4) 2 17 := ⟨by decide +kernel, rfl⟩
theorem d_X12_keyOf_17 : DC mX12_keyOf 17 (.iload 4) 2 19 := ⟨by decide +kernel, rfl⟩
theorem d_X12_keyOf_19 : DC mX12_keyOf 19 (.ifCond .le 38) 3 22 := ⟨by decide +kernel, rfl⟩
theorem d_X12_keyOf_22 : DC mX12_keyOf 22 (.aload_n 0) 1 23 := ⟨by decide +kernel, rfl⟩
theorem d_X12_keyOf_23 : DC mX12_keyOf 23 (.getfield 33) 3 26 := ⟨by decide +kernel, rfl⟩
theorem d_X12_keyOf_26 : DC mX12_keyOf 26 (.iload 4) 2 28 := ⟨by decide +kernel, rfl⟩
theorem d_X12_keyOf_28 : DC mX12_keyOf 28 (.iconst 1) 1 29 := ⟨by decide +kernel, rfl⟩
theorem d_X12_keyOf_29 : DC mX12_keyOf 29 (.isub) 1 30 := ⟨by decide +kernel, rfl⟩
theorem d_X12_keyOf_30 : DC mX12_keyOf 30 (.iaload) 1 31 := ⟨by decide +kernel, rfl⟩
theorem d_X12_keyOf_31 : DC mX12_keyOf 31 (.iload_n 3) 1 32 := ⟨by decide +kernel, rfl⟩
theorem d_X12_keyOf_32 : DC mX12_keyOf 32 (.if_icmp .le 25) 3 35 := ⟨by decide +kernel, rfl⟩
theorem d_X12_keyOf_35 : DC mX12_keyOf 35 (.aload_n 0) 1 36 := ⟨by decide +kernel, rfl⟩
theorem d_X12_keyOf_36 : DC mX12_keyOf 36 (.getfield 33) 3 39 := ⟨by decide +kernel, rfl⟩
theorem d_X12_keyOf_39 : DC mX12_keyOf 39 (.iload 4) 2 41 := ⟨by decide +kernel, rfl⟩
theorem d_X12_keyOf_41 : DC mX12_keyOf 41 (.aload_n 0) 1 42 := ⟨by decide +kernel, rfl⟩
theorem d_X12_keyOf_42 : DC mX12_keyOf 42 (.getfield 33) 3 45 := ⟨by decide +kernel, rfl⟩
theorem d_X12_keyOf_45 : DC mX12_keyOf 45 (.iload 4) 2 47 := ⟨by decide +kernel, rfl⟩
theorem d_X12_keyOf_47 : DC mX12_keyOf 47 (.iconst 1) 1 48 := ⟨by decide +kernel, rfl⟩
theorem d_X12_keyOf_48 : DC mX12_keyOf 48 (.isub) 1 49 := ⟨by decide +kernel, rfl⟩
theorem d_X12_keyOf_49 : DC mX12_keyOf 49 (.iaload) 1 50 := ⟨by decide +kernel, rfl⟩
theorem d_X12_keyOf_50 : DC mX12_keyOf 50 (.iastore) 1 51 := ⟨by decide +kernel, rfl⟩
theorem d_X12_keyOf_51 : DC mX12_keyOf 51 (.iinc 4 (-1)) 3 54 := ⟨by decide +kernel, rfl⟩
theorem d_X12_keyOf_54 : DC mX12_keyOf 54 (.goto (-37)) 3 57 := ⟨by decide +kernel, rfl⟩
theorem d_X12_keyOf_57 : DC mX12_keyOf 57 (.aload_n 0) 1 58 := ⟨by decide +kernel, rfl⟩
theorem d_X12_keyOf_58 : DC mX12_keyOf 58 (.getfield 33) 3 61 := ⟨by decide +kernel, rfl⟩
theorem d_X12_keyOf_61 : DC mX12_keyOf 61 (.iload 4) 2 63 := ⟨by decide +kernel, rfl⟩
theorem d_X12_keyOf_63 : DC mX12_keyOf 63 (.iload_n 3) 1 64 := ⟨by decide +kernel, rfl⟩
theorem d_X12_keyOf_64 : DC mX12_keyOf 64 (.iastore) 1 65 := ⟨by decide +kernel, rfl⟩
theorem d_X12_keyOf_65 : DC mX12_keyOf 65 (.iinc 2 1) 3 68 := ⟨by decide +kernel, rfl⟩
theorem d_X12_keyOf_68 : DC mX12_keyOf 68 (.goto (-66)) 3 71 := ⟨by decide +kernel, rfl⟩
theorem d_X12_keyOf_71 : DC mX12_keyOf 71 (.iconst 0) 1 72 := ⟨by decide +kernel, rfl⟩
theorem d_X12_keyOf_72 : DC mX12_keyOf 72 (.istore_n 2) 1 73 := ⟨by decide +kernel, rfl⟩
theorem d_X12_keyOf_73 : DC mX12_keyOf 73 (.iconst 0) 1 74 := ⟨by decide +kernel, rfl⟩
theorem d_X12_keyOf_74 : DC mX12_keyOf 74 (.istore_n 3) 1 75 := ⟨by decide +kernel, rfl⟩
theorem d_X12_keyOf_75 : DC mX12_keyOf 75 (.iload_n 3) 1 76 := ⟨by decide +kernel, rfl⟩
theorem d_X12_keyOf_76 : DC mX12_keyOf 76 (.iconst 4) 1 77 := ⟨by decide +kernel, rfl⟩
theorem d_X12_keyOf_77 : DC mX12_keyOf 77 (.if_icmp .ge 30) 3 80 := ⟨by decide +kernel, rfl⟩
theorem d_X12_keyOf_80 : DC mX12_keyOf 80 (.bipush 121) 2 82 := ⟨by decide +kernel, rfl⟩
theorem d_X12_keyOf_82 : DC mX12_keyOf 82 (.iload_n 2) 1 83 := ⟨by decide +kernel, rfl⟩
theorem d_X12_keyOf_83 : DC mX12_keyOf 83 (.imul) 1 84 := ⟨by decide +kernel, rfl⟩
theorem d_X12_keyOf_84 : DC mX12_keyOf 84 (.iload_n 3) 1 85 := ⟨by decide +kernel, rfl⟩
theorem d_X12_keyOf_85 : DC mX12_keyOf 85 (.iload_n 1) 1 86 := ⟨by decide +kernel, rfl⟩
theorem d_X12_keyOf_86 : DC mX12_keyOf 86 (.if_icmp .ge 12) 3 89 := ⟨by decide +kernel, rfl⟩
theorem d_X12_keyOf_89 : DC mX12_keyOf 89 (.aload_n 0) 1 90 := ⟨by decide +kernel, rfl⟩
theorem d_X12_keyOf_90 : DC mX12_keyOf 90 (.getfield 33) 3 93 := ⟨by decide +kernel, rfl⟩
theorem d_X12_keyOf_93 : DC mX12_keyOf 93 (.iload_n 3) 1 94 := ⟨by decide +kernel, rfl⟩
theorem d_X12_keyOf_94 : DC mX12_keyOf 94 (.iaload) 1 95 := ⟨by decide +kernel, rfl⟩
theorem d_X12_keyOf_95 : DC mX12_keyOf 95 (.goto 4) 3 98 := ⟨by decide +kernel, rfl⟩
theorem d_X12_keyOf_98 : DC mX12_keyOf 98 (.iconst 0) 1 99 := ⟨by decide +kernel, rfl⟩
theorem d_X12_keyOf_99 : DC mX12_keyOf 99 (.iadd) 1 100 := ⟨by decide +kernel, rfl⟩
theorem d_X12_keyOf_100 : DC mX12_keyOf 100 (.istore_n 2) 1 101 := ⟨by decide +kernel, rfl⟩
theorem d_X12_keyOf_101 : DC mX12_keyOf 101 (.iinc 3 1) 3 104 := ⟨by decide +kernel, rfl⟩
theorem d_X12_keyOf_104 : DC mX12_keyOf 104 (.goto (-29)) 3 107 := ⟨by decide +kernel, rfl⟩
theorem d_X12_keyOf_107 : DC mX12_keyOf 107 (.iload_n 2) 1 108 := ⟨by decide +kernel, rfl⟩
theorem d_X12_keyOf_108 : DC mX12_keyOf 108 (.ireturn) 1 109 := ⟨by decide +kernel, rfl⟩
theorem d_X12_keyTimes_0 : DC mX12_keyTimes 0 (.iload_n 1) 1 1 := ⟨by decide +kernel, rfl⟩
theorem d_X12_keyTimes_1 : DC mX12_keyTimes 1 (.invokestatic 138) 3 4 := ⟨by decide +kernel, rfl⟩
theorem d_X12_keyTimes_4 : DC mX12_keyTimes 4 (.istore_n 3) 1 5 := ⟨by decide +kernel, rfl⟩
theorem d_X12_keyTimes_5 : DC mX12_keyTimes 5 (.iload_n 2) 1 6 := ⟨by decide +kernel, rfl⟩
theorem d_X12_keyTimes_6 : DC mX12_keyTimes 6 (.invokestatic 138) 3 9 := ⟨by decide +kernel, rfl⟩
theorem d_X12_keyTimes_9 : DC mX12_keyTimes 9 (.istore 4) 2 11 := ⟨by decide +kernel, rfl⟩
theorem d_X12_keyTimes_11 : DC mX12_keyTimes 11 (.iload_n 3) 1 12 := ⟨by decide +kernel, rfl⟩
theorem d_X12_keyTimes_12 : DC mX12_keyTimes 12 (.iload 4) 2 14 := ⟨by decide +kernel, rfl⟩
theorem d_X12_keyTimes_14 : DC mX12_keyTimes 14 (.iadd) 1 15 := ⟨by decide +kernel, rfl⟩
theorem d_X12_keyTimes_15 : DC mX12_keyTimes 15 (.iconst 4) 1 16 := ⟨by decide +kernel, rfl⟩
theorem d_X12_keyTimes_16 : DC mX12_keyTimes 16 (.if_icmp .le 24) 3 19 := ⟨by decide +kernel, rfl⟩
theorem d_X12_keyTimes_19 : DC mX12_keyTimes 19 (.aload_n 0) 1 20 := ⟨by decide +kernel, rfl⟩
theorem d_X12_keyTimes_20 : DC mX12_keyTimes 20 (.aload_n 0) 1 21 := ⟨by decide +kernel, rfl⟩
theorem d_X12_keyTimes_21 : DC mX12_keyTimes 21 (.getfield 102) 3 24 := ⟨by decide +kernel, rfl⟩
theorem d_X12_keyTimes_24 : DC mX12_keyTimes 24 (.ifCond .ne 7) 3 27 := ⟨by decide +kernel, rfl⟩
theorem d_X12_keyTimes_27 : DC mX12_keyTimes 27 (.iconst 2) 1 28 := ⟨by decide +kernel, rfl⟩
theorem d_X12_keyTimes_28 : DC mX12_keyTimes 28 (.goto 7) 3 31 := ⟨by decide +kernel, rfl⟩
theorem d_X12_keyTimes_31 : DC mX12_keyTimes 31 (.aload_n 0) 1 32 := ⟨by decide +kernel, rfl⟩
theorem d_X12_keyTimes_32 : DC mX12_keyTimes 32 (.getfield 102) 3 35 := ⟨by decide +kernel, rfl⟩
theorem d_X12_keyTimes_35 : DC mX12_keyTimes 35 (.putfield 102) 3 38 := ⟨by decide +kernel, rfl⟩
theorem d_X12_keyTimes_38 : DC mX12_keyTimes 38 (.iconst (-1)) 1 39 := ⟨by decide +kernel, rfl⟩
theorem d_X12_keyTimes_39 : DC mX12_keyTimes 39 (.ireturn) 1 40 := ⟨by decide +kernel, rfl⟩
theorem d_X12_keyTimes_40 : DC mX12_keyTimes 40 (.iconst 0) 1 41 := ⟨by decide +kernel, rfl⟩
theorem d_X12_keyTimes_41 : DC mX12_keyTimes 41 (.istore 5) 2 43 := ⟨by decide +kernel, rfl⟩
theorem d_X12_keyTimes_43 : DC mX12_keyTimes 43 (.iload 5) 2 45 := ⟨by decide +kernel, rfl⟩
theorem d_X12_keyTimes_45 : DC mX12_keyTimes 45 (.iload_n 3) 1 46 := ⟨by decide +kernel, rfl⟩
theorem d_X12_keyTimes_46 : DC mX12_keyTimes 46 (.if_icmp .ge 22) 3 49 := ⟨by decide +kernel, rfl⟩
theorem d_X12_keyTimes_49 : DC mX12_keyTimes 49 (.aload_n 0) 1 50 := ⟨by decide +kernel, rfl⟩
theorem d_X12_keyTimes_50 : DC mX12_keyTimes 50 (.getfield 33) 3 53 := ⟨by decide +kernel, rfl⟩
theorem d_X12_keyTimes_53 : DC mX12_keyTimes 53 (.iload 5) 2 55 := ⟨by decide +kernel, rfl⟩
theorem d_X12_keyTimes_55 : DC mX12_keyTimes 55 (.iload_n 1) 1 56 := ⟨by decide +kernel, rfl⟩
theorem d_X12_keyTimes_56 : DC mX12_keyTimes 56 (.iload 5) 2 58 := ⟨by decide +kernel, rfl⟩
theorem d_X12_keyTimes_58 : DC mX12_keyTimes 58 (.invokestatic 135) 3 61 := ⟨by decide +kernel, rfl⟩
theorem d_X12_keyTimes_61 : DC mX12_keyTimes 61 (.iastore) 1 62 := ⟨by decide +kernel, rfl⟩
theorem d_X12_keyTimes_62 : DC mX12_keyTimes 62 (.iinc 5 1) 3 65 := ⟨by decide +kernel, rfl⟩
theorem d_X12_keyTimes_65 : DC mX12_keyTimes 65 (.goto (-22)) 3 68 := ⟨by decide +kernel, rfl⟩
theorem d_X12_keyTimes_68 : DC mX12_keyTimes 68 (.iconst 0) 1 69 := ⟨by decide +kernel, rfl⟩
theorem d_X12_keyTimes_69 : DC mX12_keyTimes 69 (.istore 5) 2 71 := ⟨by decide +kernel, rfl⟩
theorem d_X12_keyTimes_71 : DC mX12_keyTimes 71 (.iload 5) 2 73 := ⟨by decide +kernel, rfl⟩
theorem d_X12_keyTimes_73 : DC mX12_keyTimes 73 (.iload 4) 2 75 := ⟨by decide +kernel, rfl⟩
theorem d_X12_keyTimes_75 : DC mX12_keyTimes 75 (.if_icmp .ge 24) 3 78 := ⟨by decide +kernel, rfl⟩
theorem d_X12_keyTimes_78 : DC mX12_keyTimes 78 (.aload_n 0) 1 79 := ⟨by decide +kernel, rfl⟩
theorem d_X12_keyTimes_79 : DC mX12_keyTimes 79 (.getfield 33) 3 82 := ⟨by decide +kernel, rfl⟩
theorem d_X12_keyTimes_82 : DC mX12_keyTimes 82 (.iload_n 3) 1 83 := ⟨by decide +kernel, rfl⟩
theorem d_X12_keyTimes_83 : DC mX12_keyTimes 83 (.iload 5) 2 85 := ⟨by decide +kernel, rfl⟩
theorem d_X12_keyTimes_85 : DC mX12_keyTimes 85 (.iadd) 1 86 := ⟨by decide +kernel, rfl⟩
theorem d_X12_keyTimes_86 : DC mX12_keyTimes 86 (.iload_n 2) 1 87 := ⟨by decide +kernel, rfl⟩
theorem d_X12_keyTimes_87 : DC mX12_keyTimes 87 (.iload 5) 2 89 := ⟨by decide +kernel, rfl⟩
theorem d_X12_keyTimes_89 : DC mX12_keyTimes 89 (.invokestatic 135) 3 92 := ⟨by decide +kernel, rfl⟩
theorem d_X12_keyTimes_92 : DC mX12_keyTimes 92 (.iastore) 1 93 := ⟨by decide +kernel, rfl⟩
theorem d_X12_keyTimes_93 : DC mX12_keyTimes 93 (.iinc 5 1) 3 96 := ⟨by decide +kernel, rfl⟩
theorem d_X12_keyTimes_96 : DC mX12_keyTimes 96 (.goto (-25)) 3 99 := ⟨by decide +kernel, rfl⟩
theorem d_X12_keyTimes_99 : DC mX12_keyTimes 99 (.aload_n 0) 1 100 := ⟨by decide +kernel, rfl⟩
theorem d_X12_keyTimes_100 : DC mX12_keyTimes 100 (.iload_n 3) 1 101 := ⟨by decide +kernel, rfl⟩
theorem d_X12_keyTimes_101 : DC mX12_keyTimes 101 (.iload 4) 2 103 := ⟨by decide +kernel, rfl⟩
theorem d_X12_keyTimes_103 : DC mX12_keyTimes 103 (.iadd) 1 104 := ⟨by decide +kernel, rfl⟩
theorem d_X12_keyTimes_104 : DC mX12_keyTimes 104 (.invokevirtual 141) 3 107 := ⟨by decide +kernel, rfl⟩
theorem d_X12_keyTimes_107 : DC mX12_keyTimes 107 (.ireturn) 1 108 := ⟨by decide +kernel, rfl⟩
theorem d_X12_multiplies_0 : DC mX12_multiplies 0 (.iconst 0) 1 1 := ⟨by decide +kernel, rfl⟩
theorem d_X12_multiplies_1 : DC mX12_multiplies 1 (.istore 5) 2 3 := ⟨by decide +kernel, rfl⟩
theorem d_X12_multiplies_3 : DC mX12_multiplies 3 (.iload 5) 2 5 := ⟨by decide +kernel, rfl⟩
theorem d_X12_multiplies_5 : DC mX12_multiplies 5 (.aload_n 0) 1 6 := ⟨by decide +kernel, rfl⟩
theorem d_X12_multiplies_6 : DC mX12_multiplies 6 (.iload_n 1) 1 7 := ⟨by decide +kernel, rfl⟩
theorem d_X12_multiplies_7 : DC mX12_multiplies 7 (.invokevirtual 113) 3 10 := ⟨by decide +kernel, rfl⟩
theorem d_X12_multiplies_10 : DC mX12_multiplies 10 (.if_icmp .ge 117) 3 13 := ⟨by decide +kernel, rfl⟩
theorem d_X12_multiplies_13 : DC mX12_multiplies 13 (.aload_n 0) 1 14 := ⟨by decide +kernel, rfl⟩
theorem d_X12_multiplies_14 : DC mX12_multiplies 14 (.getfield 102) 3 17 := ⟨by decide +kernel, rfl⟩
theorem d_X12_multiplies_17 : DC mX12_multiplies 17 (.ifCond .ne 110) 3 20 := ⟨by decide +kernel, rfl⟩
theorem d_X12_multiplies_20 : DC mX12_multiplies 20 (.iconst 0) 1 21 := ⟨by decide +kernel, rfl⟩
theorem d_X12_multiplies_21 : DC mX12_multiplies 21 (.istore 6) 2 23 := ⟨by decide +kernel, rfl⟩
theorem d_X12_multiplies_23 : DC mX12_multiplies 23 (.iload 6) 2 25 := ⟨by decide +kernel, rfl⟩
theorem d_X12_multiplies_25 : DC mX12_multiplies 25 (.aload_n 0) 1 26 := ⟨by decide +kernel, rfl⟩
theorem d_X12_multiplies_26 : DC mX12_multiplies 26 (.iload_n 2) 1 27 := ⟨by decide +kernel, rfl⟩
theorem d_X12_multiplies_27 : DC mX12_multiplies 27 (.invokevirtual 113) 3 30 := ⟨by decide +kernel, rfl⟩
theorem d_X12_multiplies_30 : DC mX12_multiplies 30 (.if_icmp .ge 91) 3 33 := ⟨by decide +kernel, rfl⟩
theorem d_X12_multiplies_33 : DC mX12_multiplies 33 (.aload_n 0) 1 34 := ⟨by decide +kernel, rfl⟩
theorem d_X12_multiplies_34 : DC mX12_multiplies 34 (.getfield 102) 3 37 := ⟨by decide +kernel, rfl⟩
theorem d_X12_multiplies_37 : DC mX12_multiplies 37 (.ifCond .ne 84) 3 40 := ⟨by decide +kernel, rfl⟩
theorem d_X12_multiplies_40 : DC mX12_multiplies 40 (.aload_n 0) 1 41 := ⟨by decide +kernel, rfl⟩
theorem d_X12_multiplies_41 : DC mX12_multiplies 41 (.aload_n 0) 1 42 := ⟨by decide +kernel, rfl⟩
theorem d_X12_multiplies_42 : DC mX12_multiplies 42 (.iload_n 1) 1 43 := ⟨by decide +kernel, rfl⟩
theorem d_X12_multiplies_43 : DC mX12_multiplies 43 (.iload 5) 2 45 := ⟨by decide +kernel, rfl⟩
theorem d_X12_multiplies_45 : DC mX12_multiplies 45 (.invokevirtual 117) 3 48 := ⟨by decide +kernel, rfl⟩
theorem d_X12_multiplies_48 : DC mX12_multiplies 48 (.aload_n 0) 1 49 := ⟨by decide +kernel, rfl⟩
theorem d_X12_multiplies_49 : DC mX12_multiplies 49 (.iload_n 2) 1 50 := ⟨by decide +kernel, rfl⟩
theorem d_X12_multiplies_50 : DC mX12_multiplies 50 (.iload 6) 2 52 := ⟨by decide +kernel, rfl⟩
theorem d_X12_multiplies_52 : DC mX12_multiplies 52 (.invokevirtual 117) 3 55 := ⟨by decide +kernel, rfl⟩
theorem d_X12_multiplies_55 : DC mX12_multiplies 55 (.invokevirtual 144) 3 58 := ⟨by decide +kernel, rfl⟩
theorem d_X12_multiplies_58 : DC mX12_multiplies 58 (.istore 7) 2 60 := ⟨by decide +kernel, rfl⟩
theorem d_X12_multiplies_60 : DC mX12_multiplies 60 (.aload_n 0) 1 61 := ⟨by decide +kernel, rfl⟩
theorem d_X12_multiplies_61 : DC mX12_multiplies 61 (.getfield 102) 3 64 := ⟨by decide +kernel, rfl⟩
theorem d_X12_multiplies_64 : DC mX12_multiplies 64 (.ifCond .eq 4) 3 67 := ⟨by decide +kernel, rfl⟩
theorem d_X12_multiplies_67 : DC mX12_multiplies 67 (.return_) 1 68 := ⟨by decide +kernel, rfl⟩
theorem d_X12_multiplies_68 : DC mX12_multiplies 68 (.aload_n 0) 1 69 := ⟨by decide +kernel, rfl⟩
theorem d_X12_multiplies_69 : DC mX12_multiplies 69 (.iload_n 1) 1 70 := ⟨by decide +kernel, rfl⟩
theorem d_X12_multiplies_70 : DC mX12_multiplies 70 (.iload 5) 2 72 := ⟨by decide +kernel, rfl⟩
theorem d_X12_multiplies_72 : DC mX12_multiplies 72 (.invokevirtual 132) 3 75 := ⟨by decide +kernel, rfl⟩
theorem d_X12_multiplies_75 : DC mX12_multiplies 75 (.i2l) 1 76 := ⟨by decide +kernel, rfl⟩
theorem d_X12_multiplies_76 : DC mX12_multiplies 76 (.aload_n 0) 1 77 := ⟨by decide +kernel, rfl⟩
theorem d_X12_multiplies_77 : DC mX12_multiplies 77 (.iload_n 2) 1 78 := ⟨by decide +kernel, rfl⟩
theorem d_X12_multiplies_78 : DC mX12_multiplies 78 (.iload 6) 2 80 := ⟨by decide +kernel, rfl⟩
theorem d_X12_multiplies_80 : DC mX12_multiplies 80 (.invokevirtual 132) 3 83 := ⟨by decide +kernel, rfl⟩
theorem d_X12_multiplies_83 : DC mX12_multiplies 83 (.i2l) 1 84 := ⟨by decide +kernel, rfl⟩
theorem d_X12_multiplies_84 : DC mX12_multiplies 84 (.lmul) 1 85 := ⟨by decide +kernel, rfl⟩
theorem d_X12_multiplies_85 : DC mX12_multiplies 85 (.lstore 8) 2 87 := ⟨by decide +kernel, rfl⟩
theorem d_X12_multiplies_87 : DC mX12_multiplies 87 (.lload 8) 2 89 := ⟨by decide +kernel, rfl⟩
theorem d_X12_multiplies_89 : DC mX12_multiplies 89 (.invokestatic 121) 3 92 := ⟨by decide +kernel, rfl⟩
theorem d_X12_multiplies_92 : DC mX12_multiplies 92 (.ifCond .ne 9) 3 95 := ⟨by decide +kernel, rfl⟩
theorem d_X12_multiplies_95 : DC mX12_multiplies 95 (.aload_n 0) 1 96 := ⟨by decide +kernel, rfl⟩
theorem d_X12_multiplies_96 : DC mX12_multiplies 96 (.iconst 4) 1 97 := ⟨by decide +kernel, rfl⟩
theorem d_X12_multiplies_97 : DC mX12_multiplies 97 (.invokevirtual 125) 3 100 := ⟨by decide +kernel, rfl⟩
theorem d_X12_multiplies_100 : DC mX12_multiplies 100 (.pop) 1 101 := ⟨by decide +kernel, rfl⟩
theorem d_X12_multiplies_101 : DC mX12_multiplies 101 (.aload_n 0) 1 102 := ⟨by decide +kernel, rfl⟩
theorem d_X12_multiplies_102 : DC mX12_multiplies 102 (.iload 4) 2 104 := ⟨by decide +kernel, rfl⟩
theorem d_X12_multiplies_104 : DC mX12_multiplies 104 (.iload 7) 2 106 := ⟨by decide +kernel, rfl⟩
theorem d_X12_multiplies_106 : DC mX12_multiplies 106 (.iload_n 3) 1 107 := ⟨by decide +kernel, rfl⟩
theorem d_X12_multiplies_107 : DC mX12_multiplies 107 (.i2l) 1 108 := ⟨by decide +kernel, rfl⟩
theorem d_X12_multiplies_108 : DC mX12_multiplies 108 (.lload 8) 2 110 := ⟨by decide +kernel, rfl⟩
theorem d_X12_multiplies_110 : DC mX12_multiplies 110 (.lmul) 1 111 := ⟨by decide +kernel, rfl⟩
theorem d_X12_multiplies_111 : DC mX12_multiplies 111 (.invokevirtual 147) 3 114 := ⟨by decide +kernel, rfl⟩
theorem d_X12_multiplies_114 : DC mX12_multiplies 114 (.pop) 1 115 := ⟨by decide +kernel, rfl⟩
theorem d_X12_multiplies_115 : DC mX12_multiplies 115 (.iinc 6 1) 3 118 := ⟨by decide +kernel, rfl⟩
theorem d_X12_multiplies_118 : DC mX12_multiplies 118 (.goto (-95)) 3 121 := ⟨by decide +kernel, rfl⟩
theorem d_X12_multiplies_121 : DC mX12_multiplies 121 (.iinc 5 1) 3 124 := ⟨by decide +kernel, rfl⟩
theorem d_X12_multiplies_124 : DC mX12_multiplies 124 (.goto (-121)) 3 127 := ⟨by decide +kernel, rfl⟩
theorem d_X12_multiplies_127 : DC mX12_multiplies 127 (.return_) 1 128 := ⟨by decide +kernel, rfl⟩
theorem d_X12_breakOf_0 : DC mX12_breakOf 0 (.iconst 0) 1 1 := ⟨by decide +kernel, rfl⟩
theorem d_X12_breakOf_1 : DC mX12_breakOf 1 (.istore_n 3) 1 2 := ⟨by decide +kernel, rfl⟩
theorem d_X12_breakOf_2 : DC mX12_breakOf 2 (.iload_n 3) 1 3 := ⟨by decide +kernel, rfl⟩
theorem d_X12_breakOf_3 : DC mX12_breakOf 3 (.iconst 3) 1 4 := ⟨by decide +kernel, rfl⟩
theorem d_X12_breakOf_4 : DC mX12_breakOf 4 (.if_icmp .ge 36) 3 7 := ⟨by decide +kernel, rfl⟩
theorem d_X12_breakOf_7 : DC mX12_breakOf 7 (.aload_n 0) 1 8 := ⟨by decide +kernel, rfl⟩
theorem d_X12_breakOf_8 : DC mX12_breakOf 8 (.getfield 17) 3 11 := ⟨by decide +kernel, rfl⟩
theorem d_X12_breakOf_11 : DC mX12_breakOf 11 (.iconst 3) 1 12 := ⟨by decide +kernel, rfl⟩
theorem d_X12_breakOf_12 : DC mX12_breakOf 12 (.iload_n 1) 1 13 := ⟨by decide +kernel, rfl⟩
theorem d_X12_breakOf_13 : DC mX12_breakOf 13 (.imul) 1 14 := ⟨by decide +kernel, rfl⟩
theorem d_X12_breakOf_14 : DC mX12_breakOf 14 (.iload_n 3) 1 15 := ⟨by decide +kernel, rfl⟩
theorem d_X12_breakOf_15 : DC mX12_breakOf 15 (.iadd) 1 16 := ⟨by decide +kernel, rfl⟩
theorem d_X12_breakOf_16 : DC mX12_breakOf 16 (.iaload) 1 17 := ⟨by decide +kernel, rfl⟩
theorem d_X12_breakOf_17 : DC mX12_breakOf 17 (.aload_n 0) 1 18 := ⟨by decide +kernel, rfl⟩
theorem d_X12_breakOf_18 : DC mX12_breakOf 18 (.getfield 17) 3 21 := ⟨by decide +kernel, rfl⟩
theorem d_X12_breakOf_21 : DC mX12_breakOf 21 (.iconst 3) 1 22 := ⟨by decide +kernel, rfl⟩
theorem d_X12_breakOf_22 : DC mX12_breakOf 22 (.iload_n 2) 1 23 := ⟨by decide +kernel, rfl⟩
theorem d_X12_breakOf_23 : DC mX12_breakOf 23 (.imul) 1 24 := ⟨by decide +kernel, rfl⟩
theorem d_X12_breakOf_24 : DC mX12_breakOf 24 (.iload_n 3) 1 25 := ⟨by decide +kernel, rfl⟩
theorem d_X12_breakOf_25 : DC mX12_breakOf 25 (.iadd) 1 26 := ⟨by decide +kernel, rfl⟩
theorem d_X12_breakOf_26 : DC mX12_breakOf 26 (.iaload) 1 27 := ⟨by decide +kernel, rfl⟩
theorem d_X12_breakOf_27 : DC mX12_breakOf 27 (.if_icmp .le 7) 3 30 := ⟨by decide +kernel, rfl⟩
theorem d_X12_breakOf_30 : DC mX12_breakOf 30 (.iload_n 3) 1 31 := ⟨by decide +kernel, rfl⟩
theorem d_X12_breakOf_31 : DC mX12_breakOf 31 (.iconst 1) 1 32 := ⟨by decide +kernel, rfl⟩
theorem d_X12_breakOf_32 : DC mX12_breakOf 32 (.iadd) 1 33 := ⟨by decide +kernel, rfl⟩
theorem d_X12_breakOf_33 : DC mX12_breakOf 33 (.ireturn) 1 34 := ⟨by decide +kernel, rfl⟩
theorem d_X12_breakOf_34 : DC mX12_breakOf 34 (.iinc 3 1) 3 37 := ⟨by decide +kernel, rfl⟩
theorem d_X12_breakOf_37 : DC mX12_breakOf 37 (.goto (-35)) 3 40 := ⟨by decide +kernel, rfl⟩
theorem d_X12_breakOf_40 : DC mX12_breakOf 40 (.iconst (-1)) 1 41 := ⟨by decide +kernel, rfl⟩
theorem d_X12_breakOf_41 : DC mX12_breakOf 41 (.ireturn) 1 42 := ⟨by decide +kernel, rfl⟩
theorem d_X12_isBroken_0 : DC mX12_isBroken 0 (.aload_n 0) 1 1 := ⟨by decide +kernel, rfl⟩
theorem d_X12_isBroken_1 : DC mX12_isBroken 1 (.iload_n 1) 1 2 := ⟨by decide +kernel, rfl⟩
theorem d_X12_isBroken_2 : DC mX12_isBroken 2 (.iload_n 2) 1 3 := ⟨by decide +kernel, rfl⟩
theorem d_X12_isBroken_3 : DC mX12_isBroken 3 (.invokevirtual 151) 3 6 := ⟨by decide +kernel, rfl⟩
theorem d_X12_isBroken_6 : DC mX12_isBroken 6 (.iconst (-1)) 1 7 := ⟨by decide +kernel, rfl⟩
theorem d_X12_isBroken_7 : DC mX12_isBroken 7 (.if_icmp .eq 7) 3 10 := ⟨by decide +kernel, rfl⟩
theorem d_X12_isBroken_10 : DC mX12_isBroken 10 (.iconst 1) 1 11 := ⟨by decide +kernel, rfl⟩
theorem d_X12_isBroken_11 : DC mX12_isBroken 11 (.goto 4) 3 14 := ⟨by decide +kernel, rfl⟩
theorem d_X12_isBroken_14 : DC mX12_isBroken 14 (.iconst 0) 1 15 := ⟨by decide +kernel, rfl⟩
theorem d_X12_isBroken_15 : DC mX12_isBroken 15 (.ireturn) 1 16 := ⟨by decide +kernel, rfl⟩
theorem d_X12_brokenIn_0 : DC mX12_brokenIn 0 (.iconst 0) 1 1 := ⟨by decide +kernel, rfl⟩
theorem d_X12_brokenIn_1 : DC mX12_brokenIn 1 (.istore_n 2) 1 2 := ⟨by decide +kernel, rfl⟩
theorem d_X12_brokenIn_2 : DC mX12_brokenIn 2 (.iload_n 2) 1 3 := ⟨by decide +kernel, rfl⟩
theorem d_X12_brokenIn_3 : DC mX12_brokenIn 3 (.iconst 1) 1 4 := ⟨by decide +kernel, rfl⟩
theorem d_X12_brokenIn_4 : DC mX12_brokenIn 4 (.iadd) 1 5 := ⟨by decide +kernel, rfl⟩
theorem d_X12_brokenIn_5 : DC mX12_brokenIn 5 (.iload_n 1) 1 6 := ⟨by decide +kernel, rfl⟩
theorem d_X12_brokenIn_6 : DC mX12_brokenIn 6 (.invokestatic 138) 3 9 := ⟨by decide +kernel, rfl⟩
theorem d_X12_brokenIn_9 : DC mX12_brokenIn 9 (.if_icmp .ge 30) 3 12 := ⟨by decide +kernel, rfl⟩
theorem d_X12_brokenIn_12 : DC mX12_brokenIn 12 (.aload_n 0) 1 13 := ⟨by decide +kernel, rfl⟩
theorem d_X12_brokenIn_13 : DC mX12_brokenIn 13 (.iload_n 1) 1 14 := ⟨by decide +kernel, rfl⟩
theorem d_X12_brokenIn_14 : DC mX12_brokenIn 14 (.iload_n 2) 1 15 := ⟨by decide +kernel, rfl⟩
theorem d_X12_brokenIn_15 : DC mX12_brokenIn 15 (.invokestatic 135) 3 18 := ⟨by decide +kernel, rfl⟩
theorem d_X12_brokenIn_18 : DC mX12_brokenIn 18 (.iload_n 1) 1 19 := ⟨by decide +kernel, rfl⟩
theorem d_X12_brokenIn_19 : DC mX12_brokenIn 19 (.iload_n 2) 1 20 := ⟨by decide +kernel, rfl⟩
theorem d_X12_brokenIn_20 : DC mX12_brokenIn 20 (.iconst 1) 1 21 := ⟨by decide +kernel, rfl⟩
theorem d_X12_brokenIn_21 : DC mX12_brokenIn 21 (.iadd) 1 22 := ⟨by decide +kernel, rfl⟩
theorem d_X12_brokenIn_22 : DC mX12_brokenIn 22 (.invokestatic 135) 3 25 := ⟨by decide +kernel, rfl⟩
theorem d_X12_brokenIn_25 : DC mX12_brokenIn 25 (.invokevirtual 154) 3 28 := ⟨by decide +kernel, rfl⟩
theorem d_X12_brokenIn_28 : DC mX12_brokenIn 28 (.ifCond .eq 5) 3 31 := ⟨by decide +kernel, rfl⟩
theorem d_X12_brokenIn_31 : DC mX12_brokenIn 31 (.iload_n 2) 1 32 := ⟨by decide +kernel, rfl⟩
theorem d_X12_brokenIn_32 : DC mX12_brokenIn 32 (.ireturn) 1 33 := ⟨by decide +kernel, rfl⟩
theorem d_X12_brokenIn_33 : DC mX12_brokenIn 33 (.iinc 2 1) 3 36 := ⟨by decide +kernel, rfl⟩
theorem d_X12_brokenIn_36 : DC mX12_brokenIn 36 (.goto (-34)) 3 39 := ⟨by decide +kernel, rfl⟩
theorem d_X12_brokenIn_39 : DC mX12_brokenIn 39 (.iconst (-1)) 1 40 := ⟨by decide +kernel, rfl⟩
theorem d_X12_brokenIn_40 : DC mX12_brokenIn 40 (.ireturn) 1 41 := ⟨by decide +kernel, rfl⟩
theorem d_X12_layWay_0 : DC mX12_layWay 0 (.iconst 0) 1 1 := ⟨by decide +kernel, rfl⟩
theorem d_X12_layWay_1 : DC mX12_layWay 1 (.istore_n 3) 1 2 := ⟨by decide +kernel, rfl⟩
theorem d_X12_layWay_2 : DC mX12_layWay 2 (.iconst 0) 1 3 := ⟨by decide +kernel, rfl⟩
theorem d_X12_layWay_3 : DC mX12_layWay 3 (.istore 4) 2 5 := ⟨by decide +kernel, rfl⟩
theorem d_X12_layWay_5 : DC mX12_layWay 5 (.iconst 0) 1 6 := ⟨by decide +kernel, rfl⟩
theorem d_X12_layWay_6 : DC mX12_layWay 6 (.istore 5) 2 8 := ⟨by decide +kernel, rfl⟩
theorem d_X12_layWay_8 : DC mX12_layWay 8 (.iload_n 3) 1 9 := ⟨by decide +kernel, rfl⟩
theorem d_X12_layWay_9 : DC mX12_layWay 9 (.iload_n 1) 1 10 := ⟨by decide +kernel, rfl⟩
theorem d_X12_layWay_10 : DC mX12_layWay 10 (.iconst 1) 1 11 := ⟨by decide +kernel, rfl⟩
theorem d_X12_layWay_11 : DC mX12_layWay 11 (.isub) 1 12 := ⟨by decide +kernel, rfl⟩
theorem d_X12_layWay_12 : DC mX12_layWay 12 (.if_icmp .ge 21) 3 15 := ⟨by decide +kernel, rfl⟩
theorem d_X12_layWay_15 : DC mX12_layWay 15 (.aload_n 0) 1 16 := ⟨by decide +kernel, rfl⟩
theorem d_X12_layWay_16 : DC mX12_layWay 16 (.getfield 45) 3 19 := ⟨by decide +kernel, rfl⟩
theorem d_X12_layWay_19 : DC mX12_layWay 19 (.iload_n 3) 1 20 := ⟨by decide +kernel, rfl⟩
theorem d_X12_layWay_20 : DC mX12_layWay 20 (.aload_n 0) 1 21 := ⟨by decide +kernel, rfl⟩
theorem d_X12_layWay_21 : DC mX12_layWay 21 (.getfield 36) 3 24 := ⟨by decide +kernel, rfl⟩
theorem d_X12_layWay_24 : DC mX12_layWay 24 (.iload_n 3) 1 25 := ⟨by decide +kernel, rfl⟩
theorem d_X12_layWay_25 : DC mX12_layWay 25 (.iaload) 1 26 := ⟨by decide +kernel, rfl⟩
theorem d_X12_layWay_26 : DC mX12_layWay 26 (.iastore) 1 27 := ⟨by decide +kernel, rfl⟩
theorem d_X12_layWay_27 : DC mX12_layWay 27 (.iinc 3 1) 3 30 := ⟨by decide +kernel, rfl⟩
theorem d_X12_layWay_30 : DC mX12_layWay 30 (.goto (-22)) 3 33 := ⟨by decide +kernel, rfl⟩
theorem d_X12_layWay_33 : DC mX12_layWay 33 (.iconst 0) 1 34 := ⟨by decide +kernel, rfl⟩
theorem d_X12_layWay_34 : DC mX12_layWay 34 (.istore 6) 2 36 := ⟨by decide +kernel, rfl⟩
theorem d_X12_layWay_36 : DC mX12_layWay 36 (.iload 6) 2 38 := ⟨by decide +kernel, rfl⟩
theorem d_X12_layWay_38 : DC mX12_layWay 38 (.iconst 4) 1 39 := ⟨by decide +kernel, rfl⟩
theorem d_X12_layWay_39 : DC mX12_layWay 39 (.if_icmp .ge 64) 3 42 := ⟨by decide +kernel, rfl⟩
theorem d_X12_layWay_42 : DC mX12_layWay 42 (.iload_n 2) 1 43 := ⟨by decide +kernel, rfl⟩
theorem d_X12_layWay_43 : DC mX12_layWay 43 (.iconst 3) 1 44 := ⟨by decide +kernel, rfl⟩
theorem d_X12_layWay_44 : DC mX12_layWay 44 (.iload 6) 2 46 := ⟨by decide +kernel, rfl⟩
theorem d_X12_layWay_46 : DC mX12_layWay 46 (.isub) 1 47 := ⟨by decide +kernel, rfl⟩
theorem d_X12_layWay_47 : DC mX12_layWay 47 (.ishr) 1 48 := ⟨by decide +kernel, rfl⟩
theorem d_X12_layWay_48 : DC mX12_layWay 48 (.iconst 1) 1 49 := ⟨by decide +kernel, rfl⟩
theorem d_X12_layWay_49 : DC mX12_layWay 49 (.iand) 1 50 := ⟨by decide +kernel, rfl⟩
theorem d_X12_layWay_50 : DC mX12_layWay 50 (.iconst 1) 1 51 := ⟨by decide +kernel, rfl⟩
theorem d_X12_layWay_51 : DC mX12_layWay 51 (.if_icmp .ne 29) 3 54 := ⟨by decide +kernel, rfl⟩
theorem d_X12_layWay_54 : DC mX12_layWay 54 (.aload_n 0) 1 55 := ⟨by decide +kernel, rfl⟩
theorem d_X12_layWay_55 : DC mX12_layWay 55 (.getfield 45) 3 58 := ⟨by decide +kernel, rfl⟩
theorem d_X12_layWay_58 : DC mX12_layWay 58 (.iload_n 3) 1 59 := ⟨by decide +kernel, rfl⟩
theorem d_X12_layWay_59 : DC mX12_layWay 59 (.aload_n 0) 1 60 := ⟨by decide +kernel, rfl⟩
theorem d_X12_layWay_60 : DC mX12_layWay 60 (.getfield 42) 3 63 := ⟨by decide +kernel, rfl⟩
theorem d_X12_layWay_63 : DC mX12_layWay 63 (.iload 6) 2 65 := ⟨by decide +kernel, rfl⟩
theorem d_X12_layWay_65 : DC mX12_layWay 65 (.iaload) 1 66 := ⟨by decide +kernel, rfl⟩
theorem d_X12_layWay_66 : DC mX12_layWay 66 (.iastore) 1 67 := ⟨by decide +kernel, rfl⟩
theorem d_X12_layWay_67 : DC mX12_layWay 67 (.iinc 3 1) 3 70 := ⟨by decide +kernel, rfl⟩
theorem d_X12_layWay_70 : DC mX12_layWay 70 (.iload 5) 2 72 := ⟨by decide +kernel, rfl⟩
theorem d_X12_layWay_72 : DC mX12_layWay 72 (.iload 4) 2 74 := ⟨by decide +kernel, rfl⟩
theorem d_X12_layWay_74 : DC mX12_layWay 74 (.iadd) 1 75 := ⟨by decide +kernel, rfl⟩
theorem d_X12_layWay_75 : DC mX12_layWay 75 (.istore 5) 2 77 := ⟨by decide +kernel, rfl⟩
theorem d_X12_layWay_77 : DC mX12_layWay 77 (.goto 20) 3 80 := ⟨by decide +kernel, rfl⟩
theorem d_X12_layWay_80 : DC mX12_layWay 80 (.aload_n 0) 1 81 := ⟨by decide +kernel, rfl⟩
theorem d_X12_layWay_81 : DC mX12_layWay 81 (.getfield 48) 3 84 := ⟨by decide +kernel, rfl⟩
theorem d_X12_layWay_84 : DC mX12_layWay 84 (.iload 4) 2 86 := ⟨by decide +kernel, rfl⟩
theorem d_X12_layWay_86 : DC mX12_layWay 86 (.aload_n 0) 1 87 := ⟨by decide +kernel, rfl⟩
theorem d_X12_layWay_87 : DC mX12_layWay 87 (.getfield 42) 3 90 := ⟨by decide +kernel, rfl⟩
theorem d_X12_layWay_90 : DC mX12_layWay 90 (.iload 6) 2 92 := ⟨by decide +kernel, rfl⟩
theorem d_X12_layWay_92 : DC mX12_layWay 92 (.iaload) 1 93 := ⟨by decide +kernel, rfl⟩
theorem d_X12_layWay_93 : DC mX12_layWay 93 (.iastore) 1 94 := ⟨by decide +kernel, rfl⟩
theorem d_X12_layWay_94 : DC mX12_layWay 94 (.iinc 4 1) 3 97 := ⟨by decide +kernel, rfl⟩
theorem d_X12_layWay_97 : DC mX12_layWay 97 (.iinc 6 1) 3 100 := ⟨by decide +kernel, rfl⟩
theorem d_X12_layWay_100 : DC mX12_layWay 100 (.goto (-64)) 3 103 := ⟨by decide +kernel, rfl⟩
theorem d_X12_layWay_103 : DC mX12_layWay 103 (.iload_n 1) 1 104 := ⟨by decide +kernel, rfl⟩
theorem d_X12_layWay_104 : DC mX12_layWay 104 (.istore 6) 2 106 := ⟨by decide +kernel, rfl⟩
theorem d_X12_layWay_106 : DC mX12_layWay 106 (.iload 6) 2 108 := ⟨by decide +kernel, rfl⟩
theorem d_X12_layWay_108 : DC mX12_layWay 108 (.iconst 3) 1 109 := ⟨by decide +kernel, rfl⟩
theorem d_X12_layWay_109 : DC mX12_layWay 109 (.if_icmp .ge 23) 3 112 := ⟨by decide +kernel, rfl⟩
theorem d_X12_layWay_112 : DC mX12_layWay 112 (.aload_n 0) 1 113 := ⟨by decide +kernel, rfl⟩
theorem d_X12_layWay_113 : DC mX12_layWay 113 (.getfield 48) 3 116 := ⟨by decide +kernel, rfl⟩
theorem d_X12_layWay_116 : DC mX12_layWay 116 (.iload 6) 2 118 := ⟨by decide +kernel, rfl⟩
theorem d_X12_layWay_118 : DC mX12_layWay 118 (.aload_n 0) 1 119 := ⟨by decide +kernel, rfl⟩
theorem d_X12_layWay_119 : DC mX12_layWay 119 (.getfield 39) 3 122 := ⟨by decide +kernel, rfl⟩
theorem d_X12_layWay_122 : DC mX12_layWay 122 (.iload 6) 2 124 := ⟨by decide +kernel, rfl⟩
theorem d_X12_layWay_124 : DC mX12_layWay 124 (.iaload) 1 125 := ⟨by decide +kernel, rfl⟩
theorem d_X12_layWay_125 : DC mX12_layWay 125 (.iastore) 1 126 := ⟨by decide +kernel, rfl⟩
theorem d_X12_layWay_126 : DC mX12_layWay 126 (.iinc 6 1) 3 129 := ⟨by decide +kernel, rfl⟩
theorem d_X12_layWay_129 : DC mX12_layWay 129 (.goto (-23)) 3 132 := ⟨by decide +kernel, rfl⟩
theorem d_X12_layWay_132 : DC mX12_layWay 132 (.iload 5) 2 134 := ⟨by decide +kernel, rfl⟩
theorem d_X12_layWay_134 : DC mX12_layWay 134 (.ireturn) 1 135 := ⟨by decide +kernel, rfl⟩
theorem d_X12_exchanges_0 : DC mX12_exchanges 0 (.iconst 0) 1 1 := ⟨by decide +kernel, rfl⟩
theorem d_X12_exchanges_1 : DC mX12_exchanges 1 (.istore 6) 2 3 := ⟨by decide +kernel, rfl⟩
theorem d_X12_exchanges_3 : DC mX12_exchanges 3 (.iload 6) 2 5 := ⟨by decide +kernel, rfl⟩
theorem d_X12_exchanges_5 : DC mX12_exchanges 5 (.iconst 4) 1 6 := ⟨by decide +kernel, rfl⟩
theorem d_X12_exchanges_6 : DC mX12_exchanges 6 (.if_icmp .ge 49) 3 9 := ⟨by decide +kernel, rfl⟩
theorem d_X12_exchanges_9 : DC mX12_exchanges 9 (.aload_n 0) 1 10 := ⟨by decide +kernel, rfl⟩
theorem d_X12_exchanges_10 : DC mX12_exchanges 10 (.getfield 42) 3 13 := ⟨by decide +kernel, rfl⟩
theorem d_X12_exchanges_13 : DC mX12_exchanges 13 (.iload 6) 2 15 := ⟨by decide +kernel, rfl⟩
theorem d_X12_exchanges_15 : DC mX12_exchanges 15 (.iload 6) 2 17 := ⟨by decide +kernel, rfl⟩
theorem d_X12_exchanges_17 : DC mX12_exchanges 17 (.iconst 4) 1 18 := ⟨by decide +kernel, rfl⟩
theorem d_X12_exchanges_18 : DC mX12_exchanges 18 (.iload_n 1) 1 19 := ⟨by decide +kernel, rfl⟩
theorem d_X12_exchanges_19 : DC mX12_exchanges 19 (.isub) 1 20 := ⟨by decide +kernel, rfl⟩
theorem d_X12_exchanges_20 : DC mX12_exchanges 20 (.if_icmp .ge 17) 3 23 := ⟨by decide +kernel, rfl⟩
theorem d_X12_exchanges_23 : DC mX12_exchanges 23 (.aload_n 0) 1 24 := ⟨by decide +kernel, rfl⟩
theorem d_X12_exchanges_24 : DC mX12_exchanges 24 (.getfield 36) 3 27 := ⟨by decide +kernel, rfl⟩
theorem d_X12_exchanges_27 : DC mX12_exchanges 27 (.iload_n 1) 1 28 := ⟨by decide +kernel, rfl⟩
theorem d_X12_exchanges_28 : DC mX12_exchanges 28 (.iconst 1) 1 29 := ⟨by decide +kernel, rfl⟩
theorem d_X12_exchanges_29 : DC mX12_exchanges 29 (.isub) 1 30 := ⟨by decide +kernel, rfl⟩
theorem d_X12_exchanges_30 : DC mX12_exchanges 30 (.iload 6) 2 32 := ⟨by decide +kernel, rfl⟩
theorem d_X12_exchanges_32 : DC mX12_exchanges 32 (.iadd) 1 33 := ⟨by decide +kernel, rfl⟩
theorem d_X12_exchanges_33 : DC mX12_exchanges 33 (.iaload) 1 34 := ⟨by decide +kernel, rfl⟩
theorem d_X12_exchanges_34 : DC mX12_exchanges 34 (.goto 14) 3 37 := ⟨by decide +kernel, rfl⟩
theorem d_X12_exchanges_37 : DC mX12_exchanges 37 (.aload_n 0) 1 38 := ⟨by decide +kernel, rfl⟩
theorem d_X12_exchanges_38 : DC mX12_exchanges 38 (.getfield 39) 3 41 := ⟨by decide +kernel, rfl⟩
theorem d_X12_exchanges_41 : DC mX12_exchanges 41 (.iload 6) 2 43 := ⟨by decide +kernel, rfl⟩
theorem d_X12_exchanges_43 : DC mX12_exchanges 43 (.iconst 4) 1 44 := ⟨by decide +kernel, rfl⟩
theorem d_X12_exchanges_44 : DC mX12_exchanges 44 (.iload_n 1) 1 45 := ⟨by decide +kernel, rfl⟩
theorem d_X12_exchanges_45 : DC mX12_exchanges 45 (.isub) 1 46 := ⟨by decide +kernel, rfl⟩
theorem d_X12_exchanges_46 : DC mX12_exchanges 46 (.isub) 1 47 := ⟨by decide +kernel, rfl⟩
theorem d_X12_exchanges_47 : DC mX12_exchanges 47 (.iaload) 1 48 := ⟨by decide +kernel, rfl⟩
theorem d_X12_exchanges_48 : DC mX12_exchanges 48 (.iastore) 1 49 := ⟨by decide +kernel, rfl⟩
theorem d_X12_exchanges_49 : DC mX12_exchanges 49 (.iinc 6 1) 3 52 := ⟨by decide +kernel, rfl⟩
theorem d_X12_exchanges_52 : DC mX12_exchanges 52 (.goto (-49)) 3 55 := ⟨by decide +kernel, rfl⟩
theorem d_X12_exchanges_55 : DC mX12_exchanges 55 (.bipush 15) 2 57 := ⟨by decide +kernel, rfl⟩
theorem d_X12_exchanges_57 : DC mX12_exchanges 57 (.istore 6) 2 59 := ⟨by decide +kernel, rfl⟩
theorem d_X12_exchanges_59 : DC mX12_exchanges 59 (.iload 6) 2 61 := ⟨by decide +kernel, rfl⟩
theorem d_X12_exchanges_61 : DC mX12_exchanges 61 (.ifCond .le 231) 3 64 := ⟨by decide +kernel, rfl⟩
theorem d_X12_exchanges_64 : DC mX12_exchanges 64 (.aload_n 0) 1 65 := ⟨by decide +kernel, rfl⟩
theorem d_X12_exchanges_65 : DC mX12_exchanges 65 (.getfield 102) 3 68 := ⟨by decide +kernel, rfl⟩
theorem d_X12_exchanges_68 : DC mX12_exchanges 68 (.ifCond .ne 224) 3 71 := ⟨by decide +kernel, rfl⟩
theorem d_X12_exchanges_71 : DC mX12_exchanges 71 (.iload 6) 2 73 := ⟨by decide +kernel, rfl⟩
theorem d_X12_exchanges_73 : DC mX12_exchanges 73 (.invokestatic 158) 3 76 := ⟨by decide +kernel, rfl⟩
theorem d_X12_exchanges_76 : DC mX12_exchanges 76 (.iconst 4) 1 77 := ⟨by decide +kernel, rfl⟩
theorem d_X12_exchanges_77 : DC mX12_exchanges 77 (.iload_n 1) 1 78 := ⟨by decide +kernel, rfl⟩
theorem d_X12_exchanges_78 : DC mX12_exchanges 78 (.isub) 1 79 := ⟨by decide +kernel, rfl⟩
theorem d_X12_exchanges_79 : DC mX12_exchanges 79 (.if_icmp .eq 6) 3 82 := ⟨by decide +kernel, rfl⟩
theorem d_X12_exchanges_82 : DC mX12_exchanges 82 (.goto 204) 3 85 := ⟨by decide +kernel, rfl⟩
theorem d_X12_exchanges_85 : DC mX12_exchanges 85 (.aload_n 0) 1 86 := ⟨by decide +kernel, rfl⟩
theorem d_X12_exchanges_86 : DC mX12_exchanges 86 (.iload_n 1) 1 87 := ⟨by decide +kernel, rfl⟩
theorem d_X12_exchanges_87 : DC mX12_exchanges 87 (.iload 6) 2 89 := ⟨by decide +kernel, rfl⟩
theorem d_X12_exchanges_89 : DC mX12_exchanges 89 (.invokevirtual 163) 3 92 := ⟨by decide +kernel, rfl⟩
theorem d_X12_exchanges_92 : DC mX12_exchanges 92 (.istore 7) 2 94 := ⟨by decide +kernel, rfl⟩
theorem d_X12_exchanges_94 : DC mX12_exchanges 94 (.aload_n 0) 1 95 := ⟨by decide +kernel, rfl⟩
theorem d_X12_exchanges_95 : DC mX12_exchanges 95 (.getfield 13) 3 98 := ⟨by decide +kernel, rfl⟩
theorem d_X12_exchanges_98 : DC mX12_exchanges 98 (.bipush 100) 2 100 := ⟨by decide +kernel, rfl⟩
theorem d_X12_exchanges_100 : DC mX12_exchanges 100 (.aload_n 0) 1 101 := ⟨by decide +kernel, rfl⟩
theorem d_X12_exchanges_101 : DC mX12_exchanges 101 (.getfield 45) 3 104 := ⟨by decide +kernel, rfl⟩
theorem d_X12_exchanges_104 : DC mX12_exchanges 104 (.iconst 0) 1 105 := ⟨by decide +kernel, rfl⟩
theorem d_X12_exchanges_105 : DC mX12_exchanges 105 (.iaload) 1 106 := ⟨by decide +kernel, rfl⟩
theorem d_X12_exchanges_106 : DC mX12_exchanges 106 (.imul) 1 107 := ⟨by decide +kernel, rfl⟩
theorem d_X12_exchanges_107 : DC mX12_exchanges 107 (.bipush 10) 2 109 := ⟨by decide +kernel, rfl⟩
theorem d_X12_exchanges_109 : DC mX12_exchanges 109 (.aload_n 0) 1 110 := ⟨by decide +kernel, rfl⟩
theorem d_X12_exchanges_110 : DC mX12_exchanges 110 (.getfield 45) 3 113 := ⟨by decide +kernel, rfl⟩
theorem d_X12_exchanges_113 : DC mX12_exchanges 113 (.iconst 1) 1 114 := ⟨by decide +kernel, rfl⟩
theorem d_X12_exchanges_114 : DC mX12_exchanges 114 (.iaload) 1 115 := ⟨by decide +kernel, rfl⟩
theorem d_X12_exchanges_115 : DC mX12_exchanges 115 (.imul) 1 116 := ⟨by decide +kernel, rfl⟩
theorem d_X12_exchanges_116 : DC mX12_exchanges 116 (.iadd) 1 117 := ⟨by decide +kernel, rfl⟩
theorem d_X12_exchanges_117 : DC mX12_exchanges 117 (.aload_n 0) 1 118 := ⟨by decide +kernel, rfl⟩
theorem d_X12_exchanges_118 : DC mX12_exchanges 118 (.getfield 45) 3 121 := ⟨by decide +kernel, rfl⟩
theorem d_X12_exchanges_121 : DC mX12_exchanges 121 (.iconst 2) 1 122 := ⟨by decide +kernel, rfl⟩
theorem d_X12_exchanges_122 : DC mX12_exchanges 122 (.iaload) 1 123 := ⟨by decide +kernel, rfl⟩
theorem d_X12_exchanges_123 : DC mX12_exchanges 123 (.iadd) 1 124 := ⟨by decide +kernel, rfl⟩
theorem d_X12_exchanges_124 : DC mX12_exchanges 124 (.iaload) 1 125 := ⟨by decide +kernel, rfl⟩
theorem d_X12_exchanges_125 : DC mX12_exchanges 125 (.istore 8) 2 127 := ⟨by decide +kernel, rfl⟩
theorem d_X12_exchanges_127 : DC mX12_exchanges 127 (.aload_n 0) 1 128 := ⟨by decide +kernel, rfl⟩
theorem d_X12_exchanges_128 : DC mX12_exchanges 128 (.getfield 13) 3 131 := ⟨by decide +kernel, rfl⟩
theorem d_X12_exchanges_131 : DC mX12_exchanges 131 (.bipush 100) 2 133 := ⟨by decide +kernel, rfl⟩
theorem d_X12_exchanges_133 : DC mX12_exchanges 133 (.aload_n 0) 1 134 := ⟨by decide +kernel, rfl⟩
theorem d_X12_exchanges_134 : DC mX12_exchanges 134 (.getfield 48) 3 137 := ⟨by decide +kernel, rfl⟩
theorem d_X12_exchanges_137 : DC mX12_exchanges 137 (.iconst 0) 1 138 := ⟨by decide +kernel, rfl⟩
theorem d_X12_exchanges_138 : DC mX12_exchanges 138 (.iaload) 1 139 := ⟨by decide +kernel, rfl⟩
theorem d_X12_exchanges_139 : DC mX12_exchanges 139 (.imul) 1 140 := ⟨by decide +kernel, rfl⟩
theorem d_X12_exchanges_140 : DC mX12_exchanges 140 (.bipush 10) 2 142 := ⟨by decide +kernel, rfl⟩
theorem d_X12_exchanges_142 : DC mX12_exchanges 142 (.aload_n 0) 1 143 := ⟨by decide +kernel, rfl⟩
theorem d_X12_exchanges_143 : DC mX12_exchanges 143 (.getfield 48) 3 146 := ⟨by decide +kernel, rfl⟩
theorem d_X12_exchanges_146 : DC mX12_exchanges 146 (.iconst 1) 1 147 := ⟨by decide +kernel, rfl⟩
theorem d_X12_exchanges_147 : DC mX12_exchanges 147 (.iaload) 1 148 := ⟨by decide +kernel, rfl⟩
theorem d_X12_exchanges_148 : DC mX12_exchanges 148 (.imul) 1 149 := ⟨by decide +kernel, rfl⟩
theorem d_X12_exchanges_149 : DC mX12_exchanges 149 (.iadd) 1 150 := ⟨by decide +kernel, rfl⟩
theorem d_X12_exchanges_150 : DC mX12_exchanges 150 (.aload_n 0) 1 151 := ⟨by decide +kernel, rfl⟩
theorem d_X12_exchanges_151 : DC mX12_exchanges 151 (.getfield 48) 3 154 := ⟨by decide +kernel, rfl⟩
theorem d_X12_exchanges_154 : DC mX12_exchanges 154 (.iconst 2) 1 155 := ⟨by decide +kernel, rfl⟩
theorem d_X12_exchanges_155 : DC mX12_exchanges 155 (.iaload) 1 156 := ⟨by decide +kernel, rfl⟩
theorem d_X12_exchanges_156 : DC mX12_exchanges 156 (.iadd) 1 157 := ⟨by decide +kernel, rfl⟩
theorem d_X12_exchanges_157 : DC mX12_exchanges 157 (.iaload) 1 158 := ⟨by decide +kernel, rfl⟩
theorem d_X12_exchanges_158 : DC mX12_exchanges 158 (.istore 9) 2 160 := ⟨by decide +kernel, rfl⟩
theorem d_X12_exchanges_160 : DC mX12_exchanges 160 (.iload 8) 2 162 := ⟨by decide +kernel, rfl⟩
theorem d_X12_exchanges_162 : DC mX12_exchanges 162 (.ifCond .eq 124) 3 165 := ⟨by decide +kernel, rfl⟩
theorem d_X12_exchanges_165 : DC mX12_exchanges 165 (.iload 9) 2 167 := ⟨by decide +kernel, rfl⟩
theorem d_X12_exchanges_167 : DC mX12_exchanges 167 (.ifCond .ne 6) 3 170 := ⟨by decide +kernel, rfl⟩
theorem d_X12_exchanges_170 : DC mX12_exchanges 170 (.goto 116) 3 173 := ⟨by decide +kernel, rfl⟩
theorem d_X12_exchanges_173 : DC mX12_exchanges 173 (.iload 7) 2 175 := ⟨by decide +kernel, rfl⟩
theorem d_X12_exchanges_175 : DC mX12_exchanges 175 (.iconst 2) 1 176 := ⟨by decide +kernel, rfl⟩
theorem d_X12_exchanges_176 : DC mX12_exchanges 176 (.irem) 1 177 := ⟨by decide +kernel, rfl⟩
theorem d_X12_exchanges_177 : DC mX12_exchanges 177 (.ifCond .ne 7) 3 180 := ⟨by decide +kernel, rfl⟩
theorem d_X12_exchanges_180 : DC mX12_exchanges 180 (.lconst 1) 1 181 := ⟨by decide +kernel, rfl⟩
theorem d_X12_exchanges_181 : DC mX12_exchanges 181 (.goto 6) 3 184 := ⟨by decide +kernel, rfl⟩
theorem d_X12_exchanges_184 : DC mX12_exchanges 184 (.ldc2_w 166) 3 187 := ⟨by decide +kernel, rfl⟩
theorem d_X12_exchanges_187 : DC mX12_exchanges 187 (.iload 8) 2 189 := ⟨by decide +kernel, rfl⟩
theorem d_X12_exchanges_189 : DC mX12_exchanges 189 (.ifCond .ge 9) 3 192 := ⟨by decide +kernel, rfl⟩
theorem d_X12_exchanges_192 : DC mX12_exchanges 192 (.ldc2_w 166) 3 195 := ⟨by decide +kernel, rfl⟩
theorem d_X12_exchanges_195 : DC mX12_exchanges 195 (.goto 4) 3 198 := ⟨by decide +kernel, rfl⟩
theorem d_X12_exchanges_198 : DC mX12_exchanges 198 (.lconst 1) 1 199 := ⟨by decide +kernel, rfl⟩
theorem d_X12_exchanges_199 : DC mX12_exchanges 199 (.lmul) 1 200 := ⟨by decide +kernel, rfl⟩
theorem d_X12_exchanges_200 : DC mX12_exchanges 200 (.iload 9) 2 202 := ⟨by decide +kernel, rfl⟩
theorem d_X12_exchanges_202 : DC mX12_exchanges 202 (.ifCond .ge 9) 3 205 := ⟨by decide +kernel, rfl⟩
theorem d_X12_exchanges_205 : DC mX12_exchanges 205 (.ldc2_w 166) 3 208 := ⟨by decide +kernel, rfl⟩
theorem d_X12_exchanges_208 : DC mX12_exchanges 208 (.goto 4) 3 211 := ⟨by decide +kernel, rfl⟩
theorem d_X12_exchanges_211 : DC mX12_exchanges 211 (.lconst 1) 1 212 := ⟨by decide +kernel, rfl⟩
theorem d_X12_exchanges_212 : DC mX12_exchanges 212 (.lmul) 1 213 := ⟨by decide +kernel, rfl⟩
theorem d_X12_exchanges_213 : DC mX12_exchanges 213 (.lstore 10) 2 215 := ⟨by decide +kernel, rfl⟩
theorem d_X12_exchanges_215 : DC mX12_exchanges 215 (.iconst 0) 1 216 := ⟨by decide +kernel, rfl⟩
theorem d_X12_exchanges_216 : DC mX12_exchanges 216 (.istore 12) 2 218 := ⟨by decide +kernel, rfl⟩
theorem d_X12_exchanges_218 : DC mX12_exchanges 218 (.iload 12) 2 220 := ⟨by decide +kernel, rfl⟩
theorem d_X12_exchanges_220 : DC mX12_exchanges 220 (.iload_n 2) 1 221 := ⟨by decide +kernel, rfl⟩
theorem d_X12_exchanges_221 : DC mX12_exchanges 221 (.if_icmp .ge 23) 3 224 := ⟨by decide +kernel, rfl⟩
theorem d_X12_exchanges_224 : DC mX12_exchanges 224 (.aload_n 0) 1 225 := ⟨by decide +kernel, rfl⟩
theorem d_X12_exchanges_225 : DC mX12_exchanges 225 (.getfield 33) 3 228 := ⟨by decide +kernel, rfl⟩
theorem d_X12_exchanges_228 : DC mX12_exchanges 228 (.iload 12) 2 230 := ⟨by decide +kernel, rfl⟩
theorem d_X12_exchanges_230 : DC mX12_exchanges 230 (.aload_n 0) 1 231 := ⟨by decide +kernel, rfl⟩
theorem d_X12_exchanges_231 : DC mX12_exchanges 231 (.getfield 51) 3 234 := ⟨by decide +kernel, rfl⟩
theorem d_X12_exchanges_234 : DC mX12_exchanges 234 (.iload 12) 2 236 := ⟨by decide +kernel, rfl⟩
theorem d_X12_exchanges_236 : DC mX12_exchanges 236 (.iaload) 1 237 := ⟨by decide +kernel, rfl⟩
theorem d_X12_exchanges_237 : DC mX12_exchanges 237 (.iastore) 1 238 := ⟨by decide +kernel, rfl⟩
theorem d_X12_exchanges_238 : DC mX12_exchanges 238 (.iinc 12 1) 3 241 := ⟨by decide +kernel, rfl⟩
theorem d_X12_exchanges_241 : DC mX12_exchanges 241 (.goto (-23)) 3 244 := ⟨by decide +kernel, rfl⟩
theorem d_X12_exchanges_244 : DC mX12_exchanges 244 (.aload_n 0) 1 245 := ⟨by decide +kernel, rfl⟩
theorem d_X12_exchanges_245 : DC mX12_exchanges 245 (.getfield 33) 3 248 := ⟨by decide +kernel, rfl⟩
theorem d_X12_exchanges_248 : DC mX12_exchanges 248 (.iload_n 2) 1 249 := ⟨by decide +kernel, rfl⟩
theorem d_X12_exchanges_249 : DC mX12_exchanges 249 (.iload 8) 2 251 := ⟨by decide +kernel, rfl⟩
theorem d_X12_exchanges_251 : DC mX12_exchanges 251 (.invokestatic 168) 3 254 := ⟨by decide +kernel, rfl⟩
theorem d_X12_exchanges_254 : DC mX12_exchanges 254 (.iastore) 1 255 := ⟨by decide +kernel, rfl⟩
theorem d_X12_exchanges_255 : DC mX12_exchanges 255 (.aload_n 0) 1 256 := ⟨by decide +kernel, rfl⟩
theorem d_X12_exchanges_256 : DC mX12_exchanges 256 (.getfield 33) 3 259 := ⟨by decide +kernel, rfl⟩
theorem d_X12_exchanges_259 : DC mX12_exchanges 259 (.iload_n 2) 1 260 := ⟨by decide +kernel, rfl⟩
theorem d_X12_exchanges_260 : DC mX12_exchanges 260 (.iconst 1) 1 261 := ⟨by decide +kernel, rfl⟩
theorem d_X12_exchanges_261 : DC mX12_exchanges 261 (.iadd) 1 262 := ⟨by decide +kernel, rfl⟩
theorem d_X12_exchanges_262 : DC mX12_exchanges 262 (.iload 9) 2 264 := ⟨by decide +kernel, rfl⟩
theorem d_X12_exchanges_264 : DC mX12_exchanges 264 (.invokestatic 168) 3 267 := ⟨by decide +kernel, rfl⟩
theorem d_X12_exchanges_267 : DC mX12_exchanges 267 (.iastore) 1 268 := ⟨by decide +kernel, rfl⟩
theorem d_X12_exchanges_268 : DC mX12_exchanges 268 (.aload_n 0) 1 269 := ⟨by decide +kernel, rfl⟩
theorem d_X12_exchanges_269 : DC mX12_exchanges 269 (.iload 5) 2 271 := ⟨by decide +kernel, rfl⟩
theorem d_X12_exchanges_271 : DC mX12_exchanges 271 (.aload_n 0) 1 272 := ⟨by decide +kernel, rfl⟩
theorem d_X12_exchanges_272 : DC mX12_exchanges 272 (.iload_n 2) 1 273 := ⟨by decide +kernel, rfl⟩
theorem d_X12_exchanges_273 : DC mX12_exchanges 273 (.iconst 2) 1 274 := ⟨by decide +kernel, rfl⟩
theorem d_X12_exchanges_274 : DC mX12_exchanges 274 (.iadd) 1 275 := ⟨by decide +kernel, rfl⟩
theorem d_X12_exchanges_275 : DC mX12_exchanges 275 (.invokevirtual 141) 3 278 := ⟨by decide +kernel, rfl⟩
theorem d_X12_exchanges_278 : DC mX12_exchanges 278 (.lload 10) 2 280 := ⟨by decide +kernel, rfl⟩
theorem d_X12_exchanges_280 : DC mX12_exchanges 280 (.lload_n 3) 1 281 := ⟨by decide +kernel, rfl⟩
theorem d_X12_exchanges_281 : DC mX12_exchanges 281 (.lmul) 1 282 := ⟨by decide +kernel, rfl⟩
theorem d_X12_exchanges_282 : DC mX12_exchanges 282 (.invokevirtual 147) 3 285 := ⟨by decide +kernel, rfl⟩
theorem d_X12_exchanges_285 : DC mX12_exchanges 285 (.pop) 1 286 := ⟨by decide +kernel, rfl⟩
theorem d_X12_exchanges_286 : DC mX12_exchanges 286 (.iinc 6 (-1)) 3 289 := ⟨by decide +kernel, rfl⟩
theorem d_X12_exchanges_289 : DC mX12_exchanges 289 (.goto (-230)) 3 292 := ⟨by decide +kernel, rfl⟩
theorem d_X12_exchanges_292 : DC mX12_exchanges 292 (.return_) 1 293 := ⟨by decide +kernel, rfl⟩
theorem v_X12_within_0 {l : Launch} {d N : Nat} {Λ : Lay} {P : Int → Mem → Prop} {σ : Mem} {x0 x2 x4 : Int}
    (h : (((cmpL x0 x2) < 0 → P 0 σ) ∧ (¬ ((cmpL x0 x2) < 0) → ((0 < (cmpL x0 x4) → P 0 σ) ∧ (¬ (0 < (cmpL x0 x4)) → P 1 σ))))) :
    WI l mX12_within d P 0 [(1, x0), (3, 0), (1, x2), (3, 0), (1, x4), (3, 0)] [] N Λ σ := by
  refine r_lload_n (x := x0) d_X12_within_0 rfl ?_
  refine r_lload_n (x := x2) d_X12_within_1 rfl ?_
  refine r_lcmp d_X12_within_2 ?_
  refine r_if_lt (tgt := 17) d_X12_within_3 rfl (fun hc => ?_) (fun hc => ?_)
  · have h := h.1 hc
    refine r_iconst (x := 0) d_X12_within_17 ⟨by decide, by decide⟩ ?_
    exact r_iret d_X12_within_18 rfl (by decide) (Nat.le_refl 0) (Nat.le_refl 0) ⟨_, rfl, rfl, rfl, h⟩
  · have h := h.2 hc
    refine r_lload_n (x := x0) d_X12_within_6 rfl ?_
    refine r_lload (x := x4) d_X12_within_7 rfl ?_
    refine r_lcmp d_X12_within_9 ?_
    refine r_if_gt (tgt := 17) d_X12_within_10 rfl (fun hc => ?_) (fun hc => ?_)
    · have h := h.1 hc
      refine r_iconst (x := 0) d_X12_within_17 ⟨by decide, by decide⟩ ?_
      exact r_iret d_X12_within_18 rfl (by decide) (Nat.le_refl 0) (Nat.le_refl 0) ⟨_, rfl, rfl, rfl, h⟩
    · have h := h.2 hc
      refine r_iconst (x := 1) d_X12_within_13 ⟨by decide, by decide⟩ ?_
      refine r_goto (tgt := 18) d_X12_within_14 rfl ?_
      exact r_iret d_X12_within_18 rfl (by decide) (Nat.le_refl 0) (Nat.le_refl 0) ⟨_, rfl, rfl, rfl, h⟩
theorem v_X12_ranks_0 {l : Launch} {d N : Nat} {Λ : Lay} {P : Mem → Prop} {σ : Mem} {x1 x2 x3 x4 t t_rankOf : Int} (o_t : Ob N Λ t 21 36) (f_t_rankOf : (Λ t).2.2 1 = t_rankOf)
    (h : (Ix N Λ t_rankOf 0 (addI (addI (mulI 100 x1) (mulI 10 x2)) x3) ∧ (∀ τ1, τ1 = st σ t_rankOf (addI (addI (mulI 100 x1) (mulI 10 x2)) x3) x4 → (Ix N Λ t_rankOf 0 (addI (addI (mulI 100 x1) (mulI 10 x3)) x2) ∧ (∀ τ2, τ2 = st τ1 t_rankOf (addI (addI (mulI 100 x1) (mulI 10 x3)) x2) (negI x4) → P τ2))))) :
    WV l mX12_ranks d P 0 [(2, t), (0, x1), (0, x2), (0, x3), (0, x4)] [] N Λ σ := by
  refine r_aload_n (x := t) d_X12_ranks_0 rfl o_t.1 ?_
  refine r_getf (j := 1) (t := 2) (x := t_rankOf) d_X12_ranks_1 kX12 (by decide) fl_X12_13 o_t.1 o_t.2.1 o_t.2.2.1 o_t.2.2.2 rfl f_t_rankOf ?_
  refine r_bipush (x := 100) d_X12_ranks_4 ⟨by decide, by decide⟩ (by decide) ?_
  refine r_iload_n (x := x1) d_X12_ranks_6 rfl ?_
  refine r_imul d_X12_ranks_7 ?_
  refine r_bipush (x := 10) d_X12_ranks_8 ⟨by decide, by decide⟩ (by decide) ?_
  refine r_iload_n (x := x2) d_X12_ranks_10 rfl ?_
  refine r_imul d_X12_ranks_11 ?_
  refine r_iadd d_X12_ranks_12 ?_
  refine r_iload_n (x := x3) d_X12_ranks_13 rfl ?_
  refine r_iadd d_X12_ranks_14 ?_
  refine r_iload (x := x4) d_X12_ranks_15 rfl ?_
  refine x_iast d_X12_ranks_17 h.1 ?_
  have h := h.2
  refine r_nmM (fun τ1 eτ1 => ?_)
  have h := h τ1 eτ1
  refine r_aload_n (x := t) d_X12_ranks_18 rfl o_t.1 ?_
  refine r_getf (j := 1) (t := 2) (x := t_rankOf) d_X12_ranks_19 kX12 (by decide) fl_X12_13 o_t.1 o_t.2.1 o_t.2.2.1 o_t.2.2.2 rfl f_t_rankOf ?_
  refine r_bipush (x := 100) d_X12_ranks_22 ⟨by decide, by decide⟩ (by decide) ?_
  refine r_iload_n (x := x1) d_X12_ranks_24 rfl ?_
  refine r_imul d_X12_ranks_25 ?_
  refine r_bipush (x := 10) d_X12_ranks_26 ⟨by decide, by decide⟩ (by decide) ?_
  refine r_iload_n (x := x3) d_X12_ranks_28 rfl ?_
  refine r_imul d_X12_ranks_29 ?_
  refine r_iadd d_X12_ranks_30 ?_
  refine r_iload_n (x := x2) d_X12_ranks_31 rfl ?_
  refine r_iadd d_X12_ranks_32 ?_
  refine r_iload (x := x4) d_X12_ranks_33 rfl ?_
  refine r_ineg d_X12_ranks_35 ?_
  refine x_iast d_X12_ranks_36 h.1 ?_
  have h := h.2
  refine r_nmM (fun τ2 eτ2 => ?_)
  have h := h τ2 eτ2
  exact r_vret d_X12_ranks_37 rfl (Nat.le_refl 0) (Nat.le_refl 0) ⟨rfl, rfl, rfl, h⟩
theorem v_X12_isLetter_0 {l : Launch} {d N : Nat} {Λ : Lay} {P : Int → Mem → Prop} {σ : Mem} {x0 : Int} (h0d : 1 ≤ d)
    (h : (((cmpL x0 0) < 0 → P 0 σ) ∧ (¬ ((cmpL x0 0) < 0) → ((0 < (cmpL x0 9) → P 0 σ) ∧ (¬ (0 < (cmpL x0 9)) → P 1 σ))))) :
    WI l mX12_isLetter d P 0 [(0, x0)] [] N Λ σ := by
  have hd_1 : 1 ≤ d := Nat.le_trans (by decide) h0d
  refine r_iload_n (x := x0) d_X12_isLetter_0 rfl ?_
  refine r_i2l d_X12_isLetter_1 ?_
  refine r_lconst d_X12_isLetter_2 ?_
  skip
  refine r_ldc2 (x := 9) d_X12_isLetter_3 ck_X12_89 (by decide) ?_
  refine x_callSI (Y2 := mX12_within) (As := [(1, x0), (1, 0), (1, 9)]) (S := []) d_X12_isLetter_6 ok_mX12_within ml_X12_91 rfl (Nat.le_of_ble_eq_true rfl) (Nat.le_of_ble_eq_true rfl) rfl hd_1 (c_X12_within (v_X12_within_0 ?_))
  refine ⟨fun hc => ?_, fun hc => ?_⟩
  · have h := h.1 hc
    show WP l mX12_isLetter (rm d 0 0) noX _ 0 0 9 [(0, x0)] [(0, 0)] N Λ σ
    exact r_iret d_X12_isLetter_9 rfl (by decide) (Nat.le_refl 0) (Nat.le_refl 0) ⟨_, rfl, rfl, rfl, h⟩
  · have h := h.2 hc
    refine ⟨fun hc => ?_, fun hc => ?_⟩
    · have h := h.1 hc
      show WP l mX12_isLetter (rm d 0 0) noX _ 0 0 9 [(0, x0)] [(0, 0)] N Λ σ
      exact r_iret d_X12_isLetter_9 rfl (by decide) (Nat.le_refl 0) (Nat.le_refl 0) ⟨_, rfl, rfl, rfl, h⟩
    · have h := h.2 hc
      show WP l mX12_isLetter (rm d 0 0) noX _ 0 0 9 [(0, x0)] [(0, 1)] N Λ σ
      exact r_iret d_X12_isLetter_9 rfl (by decide) (Nat.le_refl 0) (Nat.le_refl 0) ⟨_, rfl, rfl, rfl, h⟩
theorem v_X12_sizeOf_0 {l : Launch} {d N : Nat} {Λ : Lay} {P : Int → Mem → Prop} {σ : Mem} {x0 : Int}
    (h : ((0 ≤ x0 → P x0 σ) ∧ (¬ (0 ≤ x0) → P (negI x0) σ))) :
    WI l mX12_sizeOf d P 0 [(0, x0)] [] N Λ σ := by
  refine r_iload_n (x := x0) d_X12_sizeOf_0 rfl ?_
  refine r_if_ge (tgt := 9) d_X12_sizeOf_1 rfl (fun hc => ?_) (fun hc => ?_)
  · have h := h.1 hc
    refine r_iload_n (x := x0) d_X12_sizeOf_9 rfl ?_
    exact r_iret d_X12_sizeOf_10 rfl rfl (Nat.le_refl 0) (Nat.le_refl 0) ⟨_, rfl, rfl, rfl, h⟩
  · have h := h.2 hc
    refine r_iload_n (x := x0) d_X12_sizeOf_4 rfl ?_
    refine r_ineg d_X12_sizeOf_5 ?_
    refine r_goto (tgt := 10) d_X12_sizeOf_6 rfl ?_
    exact r_iret d_X12_sizeOf_10 rfl rfl (Nat.le_refl 0) (Nat.le_refl 0) ⟨_, rfl, rfl, rfl, h⟩
theorem v_X12_copies_0 {l : Launch} {d N : Nat} {Λ : Lay} {P : Mem → Prop} {σ : Mem} {x1 x3 x4 a0 a2 : Int}
    (h : WV l mX12_copies d P 3 [(2, a0), (0, x1), (2, a2), (0, x3), (0, x4), (0, 0)] [] N Λ σ) :
    WV l mX12_copies d P 0 [(2, a0), (0, x1), (2, a2), (0, x3), (0, x4), (3, 0)] [] N Λ σ := by
  refine r_iconst (x := 0) d_X12_copies_0 ⟨by decide, by decide⟩ ?_
  refine r_istore (L2 := [(2, a0), (0, x1), (2, a2), (0, x3), (0, x4), (0, 0)]) d_X12_copies_1 (by decide) rfl rfl ?_
  exact h
theorem v_X12_copies_3 {l : Launch} {d N : Nat} {Λ : Lay} {P : Mem → Prop} {σ : Mem} {x1 x3 x4 x5 a0 a2 : Int} (z_a2 : 0 ≤ a2) (z_a0 : 0 ≤ a0)
    (h : ((x4 ≤ x5 → P σ) ∧ (¬ (x4 ≤ x5) → (Ix N Λ a0 0 (addI x1 x5) ∧ (Ix N Λ a2 0 (addI x3 x5) ∧ (∀ τ1, τ1 = st σ a2 (addI x3 x5) (σ a0 (addI x1 x5)) → (∀ y2, y2 = addI x5 1 → WV l mX12_copies d P 3 [(2, a0), (0, x1), (2, a2), (0, x3), (0, x4), (0, y2)] [] N Λ τ1))))))) :
    WV l mX12_copies d P 3 [(2, a0), (0, x1), (2, a2), (0, x3), (0, x4), (0, x5)] [] N Λ σ := by
  refine r_iload (x := x5) d_X12_copies_3 rfl ?_
  refine r_iload (x := x4) d_X12_copies_5 rfl ?_
  refine r_ic_ge (tgt := 28) d_X12_copies_7 rfl (fun hc => ?_) (fun hc => ?_)
  · have h := h.1 hc
    exact r_vret d_X12_copies_28 rfl (Nat.le_refl 0) (Nat.le_refl 0) ⟨rfl, rfl, rfl, h⟩
  · have h := h.2 hc
    refine r_aload_n (x := a2) d_X12_copies_10 rfl z_a2 ?_
    refine r_iload_n (x := x3) d_X12_copies_11 rfl ?_
    refine r_iload (x := x5) d_X12_copies_12 rfl ?_
    refine r_iadd d_X12_copies_14 ?_
    refine r_aload_n (x := a0) d_X12_copies_15 rfl z_a0 ?_
    refine r_iload_n (x := x1) d_X12_copies_16 rfl ?_
    refine r_iload (x := x5) d_X12_copies_17 rfl ?_
    refine r_iadd d_X12_copies_19 ?_
    refine x_iald d_X12_copies_20 h.1 ?_
    have h := h.2
    refine x_iast d_X12_copies_21 h.1 ?_
    have h := h.2
    refine r_nmM (fun τ1 eτ1 => ?_)
    have h := h τ1 eτ1
    refine x_iinc (x := x5) (L := [(2, a0), (0, x1), (2, a2), (0, x3), (0, x4), (0, x5)]) d_X12_copies_22 rfl (by decide) rfl (fun y2 ey2 => ?_)
    have h := h y2 ey2
    show WP _ _ _ _ _ _ _ _ [(2, a0), (0, x1), (2, a2), (0, x3), (0, x4), (0, y2)] _ _ _ _
    refine r_goto (tgt := 3) d_X12_copies_25 rfl ?_
    exact h
theorem v_X12_notes_0 {l : Launch} {d N : Nat} {Λ : Lay} {P : Mem → Prop} {σ : Mem} {t t_deeds t_state : Int} (o_t : Ob N Λ t 21 36) (f_t_state : (Λ t).2.2 3 = t_state) (f_t_deeds : (Λ t).2.2 4 = t_deeds) (h0d : 1 ≤ d)
    (h : ((¬ (σ t 5) = 10 → (CV l mX12_copies (d - 1) [(2, t_state), (0, 0), (2, t_deeds), (0, (mulI 1116 (σ t 5))), (0, 1116)] N Λ σ (fun σ1 => (∀ τ2, τ2 = st σ1 t 5 (addI (σ1 t 5) 1) → P τ2)))) ∧ ((σ t 5) = 10 → (CV l mX12_copies (d - 1) [(2, t_deeds), (0, 1116), (2, t_deeds), (0, 0), (0, 10044)] N Λ σ (fun σ3 => (∀ τ4, τ4 = st σ3 t 5 (subI (σ3 t 5) 1) → (CV l mX12_copies (d - 1) [(2, t_state), (0, 0), (2, t_deeds), (0, (mulI 1116 (τ4 t 5))), (0, 1116)] N Λ τ4 (fun σ5 => (∀ τ6, τ6 = st σ5 t 5 (addI (σ5 t 5) 1) → P τ6))))))))) :
    WV l mX12_notes d P 0 [(2, t)] [] N Λ σ := by
  have hd_1 : 1 ≤ d := Nat.le_trans (by decide) h0d
  refine r_aload_n (x := t) d_X12_notes_0 rfl o_t.1 ?_
  refine r_getf (j := 5) (t := 0) (x := (σ t 5)) d_X12_notes_1 kX12 (by decide) fl_X12_95 o_t.1 o_t.2.1 o_t.2.2.1 o_t.2.2.2 rfl rfl ?_
  refine r_bipush (x := 10) d_X12_notes_4 ⟨by decide, by decide⟩ (by decide) ?_
  refine r_ic_ne (tgt := 37) d_X12_notes_6 rfl (fun hc => ?_) (fun hc => ?_)
  · have h := h.1 hc
    refine r_aload_n (x := t) d_X12_notes_37 rfl o_t.1 ?_
    refine r_getf (j := 3) (t := 2) (x := t_state) d_X12_notes_38 kX12 (by decide) fl_X12_20 o_t.1 o_t.2.1 o_t.2.2.1 o_t.2.2.2 rfl f_t_state ?_
    refine r_iconst (x := 0) d_X12_notes_41 ⟨by decide, by decide⟩ ?_
    refine r_aload_n (x := t) d_X12_notes_42 rfl o_t.1 ?_
    refine r_getf (j := 4) (t := 2) (x := t_deeds) d_X12_notes_43 kX12 (by decide) fl_X12_23 o_t.1 o_t.2.1 o_t.2.2.1 o_t.2.2.2 rfl f_t_deeds ?_
    refine r_sipush (x := 1116) d_X12_notes_46 ⟨by decide, by decide⟩ (by decide) ?_
    refine r_aload_n (x := t) d_X12_notes_49 rfl o_t.1 ?_
    refine r_getf (j := 5) (t := 0) (x := (σ t 5)) d_X12_notes_50 kX12 (by decide) fl_X12_95 o_t.1 o_t.2.1 o_t.2.2.1 o_t.2.2.2 rfl rfl ?_
    refine r_imul d_X12_notes_53 ?_
    refine r_sipush (x := 1116) d_X12_notes_54 ⟨by decide, by decide⟩ (by decide) ?_
    refine x_callSV (Y2 := mX12_copies) (As := [(2, t_state), (0, 0), (2, t_deeds), (0, (mulI 1116 (σ t 5))), (0, 1116)]) (S := []) d_X12_notes_57 ok_mX12_copies ml_X12_98 rfl (Nat.le_of_ble_eq_true rfl) (Nat.le_of_ble_eq_true rfl) rfl hd_1 (CV.mono h (fun σ1 h => ?_))
    refine r_aload_n (x := t) d_X12_notes_60 rfl o_t.1 ?_
    refine r_dup d_X12_notes_61 rfl ?_
    refine r_getf (j := 5) (t := 0) (x := (σ1 t 5)) d_X12_notes_62 kX12 (by decide) fl_X12_95 o_t.1 o_t.2.1 o_t.2.2.1 o_t.2.2.2 rfl rfl ?_
    refine r_iconst (x := 1) d_X12_notes_65 ⟨by decide, by decide⟩ ?_
    refine r_iadd d_X12_notes_66 ?_
    refine r_putI (j := 5) d_X12_notes_67 kX12 (by decide) fl_X12_95 rfl o_t.1 o_t.2.1 o_t.2.2.1 o_t.2.2.2 rfl ?_
    refine r_nmM (fun τ2 eτ2 => ?_)
    have h := h τ2 eτ2
    exact r_vret d_X12_notes_70 rfl (Nat.le_refl 0) (Nat.le_refl 0) ⟨rfl, rfl, rfl, h⟩
  · have h := h.2 hc
    refine r_aload_n (x := t) d_X12_notes_9 rfl o_t.1 ?_
    refine r_getf (j := 4) (t := 2) (x := t_deeds) d_X12_notes_10 kX12 (by decide) fl_X12_23 o_t.1 o_t.2.1 o_t.2.2.1 o_t.2.2.2 rfl f_t_deeds ?_
    refine r_sipush (x := 1116) d_X12_notes_13 ⟨by decide, by decide⟩ (by decide) ?_
    refine r_aload_n (x := t) d_X12_notes_16 rfl o_t.1 ?_
    refine r_getf (j := 4) (t := 2) (x := t_deeds) d_X12_notes_17 kX12 (by decide) fl_X12_23 o_t.1 o_t.2.1 o_t.2.2.1 o_t.2.2.2 rfl f_t_deeds ?_
    refine r_iconst (x := 0) d_X12_notes_20 ⟨by decide, by decide⟩ ?_
    refine r_sipush (x := 10044) d_X12_notes_21 ⟨by decide, by decide⟩ (by decide) ?_
    refine x_callSV (Y2 := mX12_copies) (As := [(2, t_deeds), (0, 1116), (2, t_deeds), (0, 0), (0, 10044)]) (S := []) d_X12_notes_24 ok_mX12_copies ml_X12_98 rfl (Nat.le_of_ble_eq_true rfl) (Nat.le_of_ble_eq_true rfl) rfl hd_1 (CV.mono h (fun σ3 h => ?_))
    refine r_aload_n (x := t) d_X12_notes_27 rfl o_t.1 ?_
    refine r_dup d_X12_notes_28 rfl ?_
    refine r_getf (j := 5) (t := 0) (x := (σ3 t 5)) d_X12_notes_29 kX12 (by decide) fl_X12_95 o_t.1 o_t.2.1 o_t.2.2.1 o_t.2.2.2 rfl rfl ?_
    refine r_iconst (x := 1) d_X12_notes_32 ⟨by decide, by decide⟩ ?_
    refine r_isub d_X12_notes_33 ?_
    refine r_putI (j := 5) d_X12_notes_34 kX12 (by decide) fl_X12_95 rfl o_t.1 o_t.2.1 o_t.2.2.1 o_t.2.2.2 rfl ?_
    refine r_nmM (fun τ4 eτ4 => ?_)
    have h := h τ4 eτ4
    refine r_aload_n (x := t) d_X12_notes_37 rfl o_t.1 ?_
    refine r_getf (j := 3) (t := 2) (x := t_state) d_X12_notes_38 kX12 (by decide) fl_X12_20 o_t.1 o_t.2.1 o_t.2.2.1 o_t.2.2.2 rfl f_t_state ?_
    refine r_iconst (x := 0) d_X12_notes_41 ⟨by decide, by decide⟩ ?_
    refine r_aload_n (x := t) d_X12_notes_42 rfl o_t.1 ?_
    refine r_getf (j := 4) (t := 2) (x := t_deeds) d_X12_notes_43 kX12 (by decide) fl_X12_23 o_t.1 o_t.2.1 o_t.2.2.1 o_t.2.2.2 rfl f_t_deeds ?_
    refine r_sipush (x := 1116) d_X12_notes_46 ⟨by decide, by decide⟩ (by decide) ?_
    refine r_aload_n (x := t) d_X12_notes_49 rfl o_t.1 ?_
    refine r_getf (j := 5) (t := 0) (x := (τ4 t 5)) d_X12_notes_50 kX12 (by decide) fl_X12_95 o_t.1 o_t.2.1 o_t.2.2.1 o_t.2.2.2 rfl rfl ?_
    refine r_imul d_X12_notes_53 ?_
    refine r_sipush (x := 1116) d_X12_notes_54 ⟨by decide, by decide⟩ (by decide) ?_
    refine x_callSV (Y2 := mX12_copies) (As := [(2, t_state), (0, 0), (2, t_deeds), (0, (mulI 1116 (τ4 t 5))), (0, 1116)]) (S := []) d_X12_notes_57 ok_mX12_copies ml_X12_98 rfl (Nat.le_of_ble_eq_true rfl) (Nat.le_of_ble_eq_true rfl) rfl hd_1 (CV.mono h (fun σ5 h => ?_))
    refine r_aload_n (x := t) d_X12_notes_60 rfl o_t.1 ?_
    refine r_dup d_X12_notes_61 rfl ?_
    refine r_getf (j := 5) (t := 0) (x := (σ5 t 5)) d_X12_notes_62 kX12 (by decide) fl_X12_95 o_t.1 o_t.2.1 o_t.2.2.1 o_t.2.2.2 rfl rfl ?_
    refine r_iconst (x := 1) d_X12_notes_65 ⟨by decide, by decide⟩ ?_
    refine r_iadd d_X12_notes_66 ?_
    refine r_putI (j := 5) d_X12_notes_67 kX12 (by decide) fl_X12_95 rfl o_t.1 o_t.2.1 o_t.2.2.1 o_t.2.2.2 rfl ?_
    refine r_nmM (fun τ6 eτ6 => ?_)
    have h := h τ6 eτ6
    exact r_vret d_X12_notes_70 rfl (Nat.le_refl 0) (Nat.le_refl 0) ⟨rfl, rfl, rfl, h⟩
theorem v_X12_empties_0 {l : Launch} {d N : Nat} {Λ : Lay} {P : Mem → Prop} {σ : Mem} {x1 t t_pool : Int} (o_t : Ob N Λ t 21 36) (f_t_pool : (Λ t).2.2 7 = t_pool)
    (h : (Ix N Λ t_pool 0 (mulI 161 x1) ∧ (∀ τ1, τ1 = st σ t_pool (mulI 161 x1) 0 → P τ1))) :
    WV l mX12_empties d P 0 [(2, t), (0, x1)] [] N Λ σ := by
  refine r_aload_n (x := t) d_X12_empties_0 rfl o_t.1 ?_
  refine r_getf (j := 7) (t := 2) (x := t_pool) d_X12_empties_1 kX12 (by decide) fl_X12_30 o_t.1 o_t.2.1 o_t.2.2.1 o_t.2.2.2 rfl f_t_pool ?_
  refine r_sipush (x := 161) d_X12_empties_4 ⟨by decide, by decide⟩ (by decide) ?_
  refine r_iload_n (x := x1) d_X12_empties_7 rfl ?_
  refine r_imul d_X12_empties_8 ?_
  refine r_iconst (x := 0) d_X12_empties_9 ⟨by decide, by decide⟩ ?_
  refine x_iast d_X12_empties_10 h.1 ?_
  have h := h.2
  refine r_nmM (fun τ1 eτ1 => ?_)
  have h := h τ1 eτ1
  exact r_vret d_X12_empties_11 rfl (Nat.le_refl 0) (Nat.le_refl 0) ⟨rfl, rfl, rfl, h⟩
theorem v_X12_begins_0 {l : Launch} {d N : Nat} {Λ : Lay} {P : Mem → Prop} {σ : Mem} {t t_pool : Int} (o_t : Ob N Λ t 21 36) (f_t_pool : (Λ t).2.2 7 = t_pool) (h0d : 1 ≤ d)
    (h : (∀ τ1, τ1 = st σ t 8 0 → (Ix N Λ t_pool 0 (mulI 161 0) ∧ (∀ τ2, τ2 = st τ1 t_pool (mulI 161 0) 0 → P τ2)))) :
    WV l mX12_begins d P 0 [(2, t)] [] N Λ σ := by
  have hd_1 : 1 ≤ d := Nat.le_trans (by decide) h0d
  refine r_aload_n (x := t) d_X12_begins_0 rfl o_t.1 ?_
  refine r_iconst (x := 0) d_X12_begins_1 ⟨by decide, by decide⟩ ?_
  refine r_putI (j := 8) d_X12_begins_2 kX12 (by decide) fl_X12_102 rfl o_t.1 o_t.2.1 o_t.2.2.1 o_t.2.2.2 rfl ?_
  refine r_nmM (fun τ1 eτ1 => ?_)
  have h := h τ1 eτ1
  refine r_aload_n (x := t) d_X12_begins_5 rfl o_t.1 ?_
  refine r_iconst (x := 0) d_X12_begins_6 ⟨by decide, by decide⟩ ?_
  refine x_callVV (Y2 := mX12_empties) (c := t) (As := [(0, 0)]) (S := []) d_X12_begins_7 ok_mX12_empties ml_X12_105 rfl (Nat.le_of_ble_eq_true rfl) (Nat.le_of_ble_eq_true rfl) rfl hd_1 kX12 o_t (c_X12_empties (v_X12_empties_0 o_t f_t_pool ?_))
  refine ⟨h.1, ?_⟩
  have h := h.2
  intro τ2 eτ2
  have h := h τ2 eτ2
  show WP l mX12_begins (rm d 0 0) noX _ 0 0 10 [(2, t)] [] N Λ τ2
  exact r_vret d_X12_begins_10 rfl (Nat.le_refl 0) (Nat.le_refl 0) ⟨rfl, rfl, rfl, h⟩
theorem v_X12_many_0 {l : Launch} {d N : Nat} {Λ : Lay} {P : Int → Mem → Prop} {σ : Mem} {x1 t t_pool : Int} (o_t : Ob N Λ t 21 36) (f_t_pool : (Λ t).2.2 7 = t_pool)
    (h : (Ix N Λ t_pool 0 (mulI 161 x1) ∧ P (σ t_pool (mulI 161 x1)) σ)) :
    WI l mX12_many d P 0 [(2, t), (0, x1)] [] N Λ σ := by
  refine r_aload_n (x := t) d_X12_many_0 rfl o_t.1 ?_
  refine r_getf (j := 7) (t := 2) (x := t_pool) d_X12_many_1 kX12 (by decide) fl_X12_30 o_t.1 o_t.2.1 o_t.2.2.1 o_t.2.2.2 rfl f_t_pool ?_
  refine r_sipush (x := 161) d_X12_many_4 ⟨by decide, by decide⟩ (by decide) ?_
  refine r_iload_n (x := x1) d_X12_many_7 rfl ?_
  refine r_imul d_X12_many_8 ?_
  refine x_iald d_X12_many_9 h.1 ?_
  have h := h.2
  exact r_iret d_X12_many_10 rfl rfl (Nat.le_refl 0) (Nat.le_refl 0) ⟨_, rfl, rfl, rfl, h⟩
theorem v_X12_key_0 {l : Launch} {d N : Nat} {Λ : Lay} {P : Int → Mem → Prop} {σ : Mem} {x1 x2 t t_pool : Int} (o_t : Ob N Λ t 21 36) (f_t_pool : (Λ t).2.2 7 = t_pool)
    (h : (Ix N Λ t_pool 0 (addI (addI (mulI 161 x1) 1) (mulI 2 x2)) ∧ P (σ t_pool (addI (addI (mulI 161 x1) 1) (mulI 2 x2))) σ)) :
    WI l mX12_key d P 0 [(2, t), (0, x1), (0, x2)] [] N Λ σ := by
  refine r_aload_n (x := t) d_X12_key_0 rfl o_t.1 ?_
  refine r_getf (j := 7) (t := 2) (x := t_pool) d_X12_key_1 kX12 (by decide) fl_X12_30 o_t.1 o_t.2.1 o_t.2.2.1 o_t.2.2.2 rfl f_t_pool ?_
  refine r_sipush (x := 161) d_X12_key_4 ⟨by decide, by decide⟩ (by decide) ?_
  refine r_iload_n (x := x1) d_X12_key_7 rfl ?_
  refine r_imul d_X12_key_8 ?_
  refine r_iconst (x := 1) d_X12_key_9 ⟨by decide, by decide⟩ ?_
  refine r_iadd d_X12_key_10 ?_
  refine r_iconst (x := 2) d_X12_key_11 ⟨by decide, by decide⟩ ?_
  refine r_iload_n (x := x2) d_X12_key_12 rfl ?_
  refine r_imul d_X12_key_13 ?_
  refine r_iadd d_X12_key_14 ?_
  refine x_iald d_X12_key_15 h.1 ?_
  have h := h.2
  exact r_iret d_X12_key_16 rfl rfl (Nat.le_refl 0) (Nat.le_refl 0) ⟨_, rfl, rfl, rfl, h⟩
theorem v_X12_number_0 {l : Launch} {d N : Nat} {Λ : Lay} {P : Int → Mem → Prop} {σ : Mem} {x1 x2 t t_pool : Int} (o_t : Ob N Λ t 21 36) (f_t_pool : (Λ t).2.2 7 = t_pool)
    (h : (Ix N Λ t_pool 0 (addI (addI (mulI 161 x1) 2) (mulI 2 x2)) ∧ P (σ t_pool (addI (addI (mulI 161 x1) 2) (mulI 2 x2))) σ)) :
    WI l mX12_number d P 0 [(2, t), (0, x1), (0, x2)] [] N Λ σ := by
  refine r_aload_n (x := t) d_X12_number_0 rfl o_t.1 ?_
  refine r_getf (j := 7) (t := 2) (x := t_pool) d_X12_number_1 kX12 (by decide) fl_X12_30 o_t.1 o_t.2.1 o_t.2.2.1 o_t.2.2.2 rfl f_t_pool ?_
  refine r_sipush (x := 161) d_X12_number_4 ⟨by decide, by decide⟩ (by decide) ?_
  refine r_iload_n (x := x1) d_X12_number_7 rfl ?_
  refine r_imul d_X12_number_8 ?_
  refine r_iconst (x := 2) d_X12_number_9 ⟨by decide, by decide⟩ ?_
  refine r_iadd d_X12_number_10 ?_
  refine r_iconst (x := 2) d_X12_number_11 ⟨by decide, by decide⟩ ?_
  refine r_iload_n (x := x2) d_X12_number_12 rfl ?_
  refine r_imul d_X12_number_13 ?_
  refine r_iadd d_X12_number_14 ?_
  refine x_iald d_X12_number_15 h.1 ?_
  have h := h.2
  exact r_iret d_X12_number_16 rfl rfl (Nat.le_refl 0) (Nat.le_refl 0) ⟨_, rfl, rfl, rfl, h⟩
theorem v_X12_takes_0 {l : Launch} {d N : Nat} {Λ : Lay} {P : Mem → Prop} {σ : Mem} {x1 x2 t t_pool t_state : Int} (o_t : Ob N Λ t 21 36) (f_t_state : (Λ t).2.2 3 = t_state) (f_t_pool : (Λ t).2.2 7 = t_pool) (h0d : 1 ≤ d)
    (h : (CV l mX12_copies (d - 1) [(2, t_state), (0, (mulI 161 x1)), (2, t_pool), (0, (mulI 161 x2)), (0, 161)] N Λ σ (fun σ1 => P σ1))) :
    WV l mX12_takes d P 0 [(2, t), (0, x1), (0, x2)] [] N Λ σ := by
  have hd_1 : 1 ≤ d := Nat.le_trans (by decide) h0d
  refine r_aload_n (x := t) d_X12_takes_0 rfl o_t.1 ?_
  refine r_getf (j := 3) (t := 2) (x := t_state) d_X12_takes_1 kX12 (by decide) fl_X12_20 o_t.1 o_t.2.1 o_t.2.2.1 o_t.2.2.2 rfl f_t_state ?_
  refine r_sipush (x := 161) d_X12_takes_4 ⟨by decide, by decide⟩ (by decide) ?_
  refine r_iload_n (x := x1) d_X12_takes_7 rfl ?_
  refine r_imul d_X12_takes_8 ?_
  refine r_aload_n (x := t) d_X12_takes_9 rfl o_t.1 ?_
  refine r_getf (j := 7) (t := 2) (x := t_pool) d_X12_takes_10 kX12 (by decide) fl_X12_30 o_t.1 o_t.2.1 o_t.2.2.1 o_t.2.2.2 rfl f_t_pool ?_
  refine r_sipush (x := 161) d_X12_takes_13 ⟨by decide, by decide⟩ (by decide) ?_
  refine r_iload_n (x := x2) d_X12_takes_16 rfl ?_
  refine r_imul d_X12_takes_17 ?_
  refine r_sipush (x := 161) d_X12_takes_18 ⟨by decide, by decide⟩ (by decide) ?_
  refine x_callSV (Y2 := mX12_copies) (As := [(2, t_state), (0, (mulI 161 x1)), (2, t_pool), (0, (mulI 161 x2)), (0, 161)]) (S := []) d_X12_takes_21 ok_mX12_copies ml_X12_98 rfl (Nat.le_of_ble_eq_true rfl) (Nat.le_of_ble_eq_true rfl) rfl hd_1 (CV.mono h (fun σ1 h => ?_))
  exact r_vret d_X12_takes_24 rfl (Nat.le_refl 0) (Nat.le_refl 0) ⟨rfl, rfl, rfl, h⟩
theorem v_X12_copiesRow_0 {l : Launch} {d N : Nat} {Λ : Lay} {P : Mem → Prop} {σ : Mem} {x1 x2 t t_pool : Int} (o_t : Ob N Λ t 21 36) (f_t_pool : (Λ t).2.2 7 = t_pool) (h0d : 1 ≤ d)
    (h : (CV l mX12_copies (d - 1) [(2, t_pool), (0, (mulI 161 x1)), (2, t_pool), (0, (mulI 161 x2)), (0, 161)] N Λ σ (fun σ1 => P σ1))) :
    WV l mX12_copiesRow d P 0 [(2, t), (0, x1), (0, x2)] [] N Λ σ := by
  have hd_1 : 1 ≤ d := Nat.le_trans (by decide) h0d
  refine r_aload_n (x := t) d_X12_copiesRow_0 rfl o_t.1 ?_
  refine r_getf (j := 7) (t := 2) (x := t_pool) d_X12_copiesRow_1 kX12 (by decide) fl_X12_30 o_t.1 o_t.2.1 o_t.2.2.1 o_t.2.2.2 rfl f_t_pool ?_
  refine r_sipush (x := 161) d_X12_copiesRow_4 ⟨by decide, by decide⟩ (by decide) ?_
  refine r_iload_n (x := x1) d_X12_copiesRow_7 rfl ?_
  refine r_imul d_X12_copiesRow_8 ?_
  refine r_aload_n (x := t) d_X12_copiesRow_9 rfl o_t.1 ?_
  refine r_getf (j := 7) (t := 2) (x := t_pool) d_X12_copiesRow_10 kX12 (by decide) fl_X12_30 o_t.1 o_t.2.1 o_t.2.2.1 o_t.2.2.2 rfl f_t_pool ?_
  refine r_sipush (x := 161) d_X12_copiesRow_13 ⟨by decide, by decide⟩ (by decide) ?_
  refine r_iload_n (x := x2) d_X12_copiesRow_16 rfl ?_
  refine r_imul d_X12_copiesRow_17 ?_
  refine r_sipush (x := 161) d_X12_copiesRow_18 ⟨by decide, by decide⟩ (by decide) ?_
  refine x_callSV (Y2 := mX12_copies) (As := [(2, t_pool), (0, (mulI 161 x1)), (2, t_pool), (0, (mulI 161 x2)), (0, 161)]) (S := []) d_X12_copiesRow_21 ok_mX12_copies ml_X12_98 rfl (Nat.le_of_ble_eq_true rfl) (Nat.le_of_ble_eq_true rfl) rfl hd_1 (CV.mono h (fun σ1 h => ?_))
  exact r_vret d_X12_copiesRow_24 rfl (Nat.le_refl 0) (Nat.le_refl 0) ⟨rfl, rfl, rfl, h⟩
theorem v_X12_fails_0 {l : Launch} {d N : Nat} {Λ : Lay} {P : Int → Mem → Prop} {σ : Mem} {x1 t : Int} (o_t : Ob N Λ t 21 36)
    (h : ((¬ (σ t 8) = 0 → P 0 σ) ∧ ((σ t 8) = 0 → (∀ τ1, τ1 = st σ t 8 x1 → P 0 τ1)))) :
    WI l mX12_fails d P 0 [(2, t), (0, x1)] [] N Λ σ := by
  refine r_aload_n (x := t) d_X12_fails_0 rfl o_t.1 ?_
  refine r_getf (j := 8) (t := 0) (x := (σ t 8)) d_X12_fails_1 kX12 (by decide) fl_X12_102 o_t.1 o_t.2.1 o_t.2.2.1 o_t.2.2.2 rfl rfl ?_
  refine r_if_ne (tgt := 12) d_X12_fails_4 rfl (fun hc => ?_) (fun hc => ?_)
  · have h := h.1 hc
    refine r_iconst (x := 0) d_X12_fails_12 ⟨by decide, by decide⟩ ?_
    exact r_iret d_X12_fails_13 rfl (by decide) (Nat.le_refl 0) (Nat.le_refl 0) ⟨_, rfl, rfl, rfl, h⟩
  · have h := h.2 hc
    refine r_aload_n (x := t) d_X12_fails_7 rfl o_t.1 ?_
    refine r_iload_n (x := x1) d_X12_fails_8 rfl ?_
    refine r_putI (j := 8) d_X12_fails_9 kX12 (by decide) fl_X12_102 rfl o_t.1 o_t.2.1 o_t.2.2.1 o_t.2.2.2 rfl ?_
    refine r_nmM (fun τ1 eτ1 => ?_)
    have h := h τ1 eτ1
    refine r_iconst (x := 0) d_X12_fails_12 ⟨by decide, by decide⟩ ?_
    exact r_iret d_X12_fails_13 rfl (by decide) (Nat.le_refl 0) (Nat.le_refl 0) ⟨_, rfl, rfl, rfl, h⟩
theorem v_X12_isInt_0 {l : Launch} {d N : Nat} {Λ : Lay} {P : Int → Mem → Prop} {σ : Mem} {x0 : Int} (h0d : 1 ≤ d)
    (h : (((cmpL x0 (-2147483648)) < 0 → P 0 σ) ∧ (¬ ((cmpL x0 (-2147483648)) < 0) → ((0 < (cmpL x0 2147483647) → P 0 σ) ∧ (¬ (0 < (cmpL x0 2147483647)) → P 1 σ))))) :
    WI l mX12_isInt d P 0 [(1, x0), (3, 0)] [] N Λ σ := by
  have hd_1 : 1 ≤ d := Nat.le_trans (by decide) h0d
  refine r_lload_n (x := x0) d_X12_isInt_0 rfl ?_
  refine r_ldc2 (x := (-2147483648)) d_X12_isInt_1 ck_X12_109 (by decide) ?_
  refine r_ldc2 (x := 2147483647) d_X12_isInt_4 ck_X12_111 (by decide) ?_
  refine x_callSI (Y2 := mX12_within) (As := [(1, x0), (1, (-2147483648)), (1, 2147483647)]) (S := []) d_X12_isInt_7 ok_mX12_within ml_X12_91 rfl (Nat.le_of_ble_eq_true rfl) (Nat.le_of_ble_eq_true rfl) rfl hd_1 (c_X12_within (v_X12_within_0 ?_))
  refine ⟨fun hc => ?_, fun hc => ?_⟩
  · have h := h.1 hc
    show WP l mX12_isInt (rm d 0 0) noX _ 0 0 10 [(1, x0), (3, 0)] [(0, 0)] N Λ σ
    exact r_iret d_X12_isInt_10 rfl (by decide) (Nat.le_refl 0) (Nat.le_refl 0) ⟨_, rfl, rfl, rfl, h⟩
  · have h := h.2 hc
    refine ⟨fun hc => ?_, fun hc => ?_⟩
    · have h := h.1 hc
      show WP l mX12_isInt (rm d 0 0) noX _ 0 0 10 [(1, x0), (3, 0)] [(0, 0)] N Λ σ
      exact r_iret d_X12_isInt_10 rfl (by decide) (Nat.le_refl 0) (Nat.le_refl 0) ⟨_, rfl, rfl, rfl, h⟩
    · have h := h.2 hc
      show WP l mX12_isInt (rm d 0 0) noX _ 0 0 10 [(1, x0), (3, 0)] [(0, 1)] N Λ σ
      exact r_iret d_X12_isInt_10 rfl (by decide) (Nat.le_refl 0) (Nat.le_refl 0) ⟨_, rfl, rfl, rfl, h⟩
theorem v_X12_placeOf_0 {l : Launch} {d N : Nat} {Λ : Lay} {P : Int → Mem → Prop} {σ : Mem} {x1 x2 t : Int}
    (h : WI l mX12_placeOf d P 2 [(2, t), (0, x1), (0, x2), (0, 0)] [] N Λ σ) :
    WI l mX12_placeOf d P 0 [(2, t), (0, x1), (0, x2), (3, 0)] [] N Λ σ := by
  refine r_iconst (x := 0) d_X12_placeOf_0 ⟨by decide, by decide⟩ ?_
  refine r_istore_n (L2 := [(2, t), (0, x1), (0, x2), (0, 0)]) d_X12_placeOf_1 (by decide) rfl rfl ?_
  exact h
theorem v_X12_placeOf_2 {l : Launch} {d N : Nat} {Λ : Lay} {P : Int → Mem → Prop} {σ : Mem} {x1 x2 x3 t t_pool : Int} (o_t : Ob N Λ t 21 36) (f_t_pool : (Λ t).2.2 7 = t_pool) (h0d : 1 ≤ d)
    (h : (Ix N Λ t_pool 0 (mulI 161 x1) ∧ (((σ t_pool (mulI 161 x1)) ≤ x3 → P x3 σ) ∧ (¬ ((σ t_pool (mulI 161 x1)) ≤ x3) → (Ix N Λ t_pool 0 (addI (addI (mulI 161 x1) 1) (mulI 2 x3)) ∧ ((x2 ≤ (σ t_pool (addI (addI (mulI 161 x1) 1) (mulI 2 x3))) → P x3 σ) ∧ (¬ (x2 ≤ (σ t_pool (addI (addI (mulI 161 x1) 1) (mulI 2 x3)))) → (∀ y1, y1 = addI x3 1 → WI l mX12_placeOf d P 2 [(2, t), (0, x1), (0, x2), (0, y1)] [] N Λ σ)))))))) :
    WI l mX12_placeOf d P 2 [(2, t), (0, x1), (0, x2), (0, x3)] [] N Λ σ := by
  have hd_1 : 1 ≤ d := Nat.le_trans (by decide) h0d
  refine r_iload_n (x := x3) d_X12_placeOf_2 rfl ?_
  refine r_aload_n (x := t) d_X12_placeOf_3 rfl o_t.1 ?_
  refine r_iload_n (x := x1) d_X12_placeOf_4 rfl ?_
  refine x_callVI (Y2 := mX12_many) (c := t) (As := [(0, x1)]) (S := [(0, x3)]) d_X12_placeOf_5 ok_mX12_many ml_X12_113 rfl (Nat.le_of_ble_eq_true rfl) (Nat.le_of_ble_eq_true rfl) rfl hd_1 kX12 o_t (c_X12_many (v_X12_many_0 o_t f_t_pool ?_))
  refine ⟨h.1, ?_⟩
  have h := h.2
  show WP l mX12_placeOf (rm d 0 0) noX _ 0 0 8 [(2, t), (0, x1), (0, x2), (0, x3)] [(0, (σ t_pool (mulI 161 x1))), (0, x3)] N Λ σ
  refine r_ic_ge (tgt := 27) d_X12_placeOf_8 rfl (fun hc => ?_) (fun hc => ?_)
  · have h := h.1 hc
    refine r_iload_n (x := x3) d_X12_placeOf_27 rfl ?_
    exact r_iret d_X12_placeOf_28 rfl rfl (Nat.le_refl 0) (Nat.le_refl 0) ⟨_, rfl, rfl, rfl, h⟩
  · have h := h.2 hc
    refine r_aload_n (x := t) d_X12_placeOf_11 rfl o_t.1 ?_
    refine r_iload_n (x := x1) d_X12_placeOf_12 rfl ?_
    refine r_iload_n (x := x3) d_X12_placeOf_13 rfl ?_
    refine x_callVI (Y2 := mX12_key) (c := t) (As := [(0, x1), (0, x3)]) (S := []) d_X12_placeOf_14 ok_mX12_key ml_X12_117 rfl (Nat.le_of_ble_eq_true rfl) (Nat.le_of_ble_eq_true rfl) rfl hd_1 kX12 o_t (c_X12_key (v_X12_key_0 o_t f_t_pool ?_))
    refine ⟨h.1, ?_⟩
    have h := h.2
    show WP l mX12_placeOf (rm d 0 0) noX _ 0 0 17 [(2, t), (0, x1), (0, x2), (0, x3)] [(0, (σ t_pool (addI (addI (mulI 161 x1) 1) (mulI 2 x3))))] N Λ σ
    refine r_iload_n (x := x2) d_X12_placeOf_17 rfl ?_
    refine r_ic_ge (tgt := 27) d_X12_placeOf_18 rfl (fun hc => ?_) (fun hc => ?_)
    · have h := h.1 hc
      refine r_iload_n (x := x3) d_X12_placeOf_27 rfl ?_
      exact r_iret d_X12_placeOf_28 rfl rfl (Nat.le_refl 0) (Nat.le_refl 0) ⟨_, rfl, rfl, rfl, h⟩
    · have h := h.2 hc
      refine x_iinc (x := x3) (L := [(2, t), (0, x1), (0, x2), (0, x3)]) d_X12_placeOf_21 rfl (by decide) rfl (fun y1 ey1 => ?_)
      have h := h y1 ey1
      show WP _ _ _ _ _ _ _ _ [(2, t), (0, x1), (0, x2), (0, y1)] _ _ _ _
      refine r_goto (tgt := 2) d_X12_placeOf_24 rfl ?_
      exact h
theorem v_X12_puts_0 {l : Launch} {d N : Nat} {Λ : Lay} {P : Int → Mem → Prop} {σ : Mem} {x1 x2 x3 t t_pool : Int} (o_t : Ob N Λ t 21 36) (f_t_pool : (Λ t).2.2 7 = t_pool) (h0d : 2 ≤ d)
    (h : (((σ t 8) = 0 → (((cmpL x3 (-2147483648)) < 0 → ((¬ (σ t 8) = 0 → P 0 σ) ∧ ((σ t 8) = 0 → (∀ τ1, τ1 = st σ t 8 4 → P 0 τ1)))) ∧ (¬ ((cmpL x3 (-2147483648)) < 0) → ((0 < (cmpL x3 2147483647) → ((¬ (σ t 8) = 0 → P 0 σ) ∧ ((σ t 8) = 0 → (∀ τ2, τ2 = st σ t 8 4 → P 0 τ2)))) ∧ (¬ (0 < (cmpL x3 2147483647)) → ((¬ (cmpL x3 0) = 0 → (CI l mX12_placeOf (d - 1) [(2, t), (0, x1), (0, x2)] N Λ σ (fun v4 σ3 => (∀ y5, y5 = (addI (addI (mulI 161 x1) 1) (mulI 2 v4)) → (Ix N Λ t_pool 0 (mulI 161 x1) ∧ (∀ y6, y6 = (addI (addI (mulI 161 x1) 1) (mulI 2 (σ3 t_pool (mulI 161 x1)))) → (Ix N Λ t_pool 0 (mulI 161 x1) ∧ (((σ3 t_pool (mulI 161 x1)) ≤ v4 → (Ix N Λ t_pool 0 (mulI 161 x1) ∧ ((¬ (σ3 t_pool (mulI 161 x1)) = 80 → (∀ y7, y7 = (subI y6 1) → WI l mX12_puts d P 210 [(2, t), (0, x1), (0, x2), (1, x3), (3, 0), (0, v4), (0, y5), (0, y6), (0, y7), (3, 0), (3, 0)] [] N Λ σ3)) ∧ ((σ3 t_pool (mulI 161 x1)) = 80 → ((¬ (σ3 t 8) = 0 → P 0 σ3) ∧ ((σ3 t 8) = 0 → (∀ τ8, τ8 = st σ3 t 8 1 → P 0 τ8))))))) ∧ (¬ ((σ3 t_pool (mulI 161 x1)) ≤ v4) → (Ix N Λ t_pool 0 (addI (addI (mulI 161 x1) 1) (mulI 2 v4)) ∧ ((¬ (σ3 t_pool (addI (addI (mulI 161 x1) 1) (mulI 2 v4))) = x2 → (Ix N Λ t_pool 0 (mulI 161 x1) ∧ ((¬ (σ3 t_pool (mulI 161 x1)) = 80 → (∀ y9, y9 = (subI y6 1) → WI l mX12_puts d P 210 [(2, t), (0, x1), (0, x2), (1, x3), (3, 0), (0, v4), (0, y5), (0, y6), (0, y9), (3, 0), (3, 0)] [] N Λ σ3)) ∧ ((σ3 t_pool (mulI 161 x1)) = 80 → ((¬ (σ3 t 8) = 0 → P 0 σ3) ∧ ((σ3 t 8) = 0 → (∀ τ10, τ10 = st σ3 t 8 1 → P 0 τ10))))))) ∧ ((σ3 t_pool (addI (addI (mulI 161 x1) 1) (mulI 2 v4))) = x2 → (Ix N Λ t_pool 0 (addI (addI (mulI 161 x1) 2) (mulI 2 v4)) ∧ (∀ y11, y11 = (addL (σ3 t_pool (addI (addI (mulI 161 x1) 2) (mulI 2 v4))) x3) → (((cmpL y11 (-2147483648)) < 0 → ((¬ (σ3 t 8) = 0 → P 0 σ3) ∧ ((σ3 t 8) = 0 → (∀ τ12, τ12 = st σ3 t 8 4 → P 0 τ12)))) ∧ (¬ ((cmpL y11 (-2147483648)) < 0) → ((0 < (cmpL y11 2147483647) → ((¬ (σ3 t 8) = 0 → P 0 σ3) ∧ ((σ3 t 8) = 0 → (∀ τ13, τ13 = st σ3 t 8 4 → P 0 τ13)))) ∧ (¬ (0 < (cmpL y11 2147483647)) → (Ix N Λ t_pool 0 (addI y5 1) ∧ (∀ τ14, τ14 = st σ3 t_pool (addI y5 1) (l2iI y11) → (((cmpL y11 0) = 0 → WI l mX12_puts d P 141 [(2, t), (0, x1), (0, x2), (1, x3), (3, 0), (0, v4), (0, y5), (0, y6), (1, y11), (3, 0), (0, y5)] [] N Λ τ14) ∧ (¬ ((cmpL y11 0) = 0) → P 1 τ14)))))))))))))))))))))) ∧ ((cmpL x3 0) = 0 → P 1 σ))))))) ∧ (¬ ((σ t 8) = 0) → P 0 σ))) :
    WI l mX12_puts d P 0 [(2, t), (0, x1), (0, x2), (1, x3), (3, 0), (3, 0), (3, 0), (3, 0), (3, 0), (3, 0), (3, 0)] [] N Λ σ := by
  have hd_1 : 1 ≤ d := Nat.le_trans (by decide) h0d
  have he_1 : 1 ≤ d - 1 := Nat.le_sub_of_add_le (Nat.le_trans (by decide) h0d)
  refine r_aload_n (x := t) d_X12_puts_0 rfl o_t.1 ?_
  refine r_getf (j := 8) (t := 0) (x := (σ t 8)) d_X12_puts_1 kX12 (by decide) fl_X12_102 o_t.1 o_t.2.1 o_t.2.2.1 o_t.2.2.2 rfl rfl ?_
  refine r_if_eq (tgt := 9) d_X12_puts_4 rfl (fun hc => ?_) (fun hc => ?_)
  · have h := h.1 hc
    refine r_lload_n (x := x3) d_X12_puts_9 rfl ?_
    refine x_callSI (Y2 := mX12_isInt) (As := [(1, x3)]) (S := []) d_X12_puts_10 ok_mX12_isInt ml_X12_121 rfl (Nat.le_of_ble_eq_true rfl) (Nat.le_of_ble_eq_true rfl) rfl hd_1 (c_X12_isInt (v_X12_isInt_0 he_1 ?_))
    refine ⟨fun hc => ?_, fun hc => ?_⟩
    · have h := h.1 hc
      show WP l mX12_puts (rm d 0 0) noX _ 0 0 13 [(2, t), (0, x1), (0, x2), (1, x3), (3, 0), (3, 0), (3, 0), (3, 0), (3, 0), (3, 0), (3, 0)] [(0, 0)] N Λ σ
      refine r_if_ne (tgt := 22) d_X12_puts_13 rfl (fun hc => absurd hc (by decide)) (fun _ => ?_)
      refine r_aload_n (x := t) d_X12_puts_16 rfl o_t.1 ?_
      refine r_iconst (x := 4) d_X12_puts_17 ⟨by decide, by decide⟩ ?_
      refine x_callVI (Y2 := mX12_fails) (c := t) (As := [(0, 4)]) (S := []) d_X12_puts_18 ok_mX12_fails ml_X12_125 rfl (Nat.le_of_ble_eq_true rfl) (Nat.le_of_ble_eq_true rfl) rfl hd_1 kX12 o_t (c_X12_fails (v_X12_fails_0 o_t ?_))
      refine ⟨fun hc => ?_, fun hc => ?_⟩
      · have h := h.1 hc
        show WP l mX12_puts (rm d 0 0) noX _ 0 0 21 [(2, t), (0, x1), (0, x2), (1, x3), (3, 0), (3, 0), (3, 0), (3, 0), (3, 0), (3, 0), (3, 0)] [(0, 0)] N Λ σ
        exact r_iret d_X12_puts_21 rfl (by decide) (Nat.le_refl 0) (Nat.le_refl 0) ⟨_, rfl, rfl, rfl, h⟩
      · have h := h.2 hc
        intro τ1 eτ1
        have h := h τ1 eτ1
        show WP l mX12_puts (rm d 0 0) noX _ 0 0 21 [(2, t), (0, x1), (0, x2), (1, x3), (3, 0), (3, 0), (3, 0), (3, 0), (3, 0), (3, 0), (3, 0)] [(0, 0)] N Λ τ1
        exact r_iret d_X12_puts_21 rfl (by decide) (Nat.le_refl 0) (Nat.le_refl 0) ⟨_, rfl, rfl, rfl, h⟩
    · have h := h.2 hc
      refine ⟨fun hc => ?_, fun hc => ?_⟩
      · have h := h.1 hc
        show WP l mX12_puts (rm d 0 0) noX _ 0 0 13 [(2, t), (0, x1), (0, x2), (1, x3), (3, 0), (3, 0), (3, 0), (3, 0), (3, 0), (3, 0), (3, 0)] [(0, 0)] N Λ σ
        refine r_if_ne (tgt := 22) d_X12_puts_13 rfl (fun hc => absurd hc (by decide)) (fun _ => ?_)
        refine r_aload_n (x := t) d_X12_puts_16 rfl o_t.1 ?_
        refine r_iconst (x := 4) d_X12_puts_17 ⟨by decide, by decide⟩ ?_
        refine x_callVI (Y2 := mX12_fails) (c := t) (As := [(0, 4)]) (S := []) d_X12_puts_18 ok_mX12_fails ml_X12_125 rfl (Nat.le_of_ble_eq_true rfl) (Nat.le_of_ble_eq_true rfl) rfl hd_1 kX12 o_t (c_X12_fails (v_X12_fails_0 o_t ?_))
        refine ⟨fun hc => ?_, fun hc => ?_⟩
        · have h := h.1 hc
          show WP l mX12_puts (rm d 0 0) noX _ 0 0 21 [(2, t), (0, x1), (0, x2), (1, x3), (3, 0), (3, 0), (3, 0), (3, 0), (3, 0), (3, 0), (3, 0)] [(0, 0)] N Λ σ
          exact r_iret d_X12_puts_21 rfl (by decide) (Nat.le_refl 0) (Nat.le_refl 0) ⟨_, rfl, rfl, rfl, h⟩
        · have h := h.2 hc
          intro τ2 eτ2
          have h := h τ2 eτ2
          show WP l mX12_puts (rm d 0 0) noX _ 0 0 21 [(2, t), (0, x1), (0, x2), (1, x3), (3, 0), (3, 0), (3, 0), (3, 0), (3, 0), (3, 0), (3, 0)] [(0, 0)] N Λ τ2
          exact r_iret d_X12_puts_21 rfl (by decide) (Nat.le_refl 0) (Nat.le_refl 0) ⟨_, rfl, rfl, rfl, h⟩
      · have h := h.2 hc
        show WP l mX12_puts (rm d 0 0) noX _ 0 0 13 [(2, t), (0, x1), (0, x2), (1, x3), (3, 0), (3, 0), (3, 0), (3, 0), (3, 0), (3, 0), (3, 0)] [(0, 1)] N Λ σ
        refine r_if_ne (tgt := 22) d_X12_puts_13 rfl (fun _ => ?_) (fun hc => absurd hc (by decide))
        refine r_lload_n (x := x3) d_X12_puts_22 rfl ?_
        refine r_lconst d_X12_puts_23 ?_
        skip
        refine r_lcmp d_X12_puts_24 ?_
        refine r_if_ne (tgt := 30) d_X12_puts_25 rfl (fun hc => ?_) (fun hc => ?_)
        · have h := h.1 hc
          refine r_aload_n (x := t) d_X12_puts_30 rfl o_t.1 ?_
          refine r_iload_n (x := x1) d_X12_puts_31 rfl ?_
          refine r_iload_n (x := x2) d_X12_puts_32 rfl ?_
          refine x_callVI (Y2 := mX12_placeOf) (c := t) (As := [(0, x1), (0, x2)]) (S := []) d_X12_puts_33 ok_mX12_placeOf ml_X12_129 rfl (Nat.le_of_ble_eq_true rfl) (Nat.le_of_ble_eq_true rfl) rfl hd_1 kX12 o_t (CI.mono h (fun v4 σ3 h => ?_))
          refine r_istore (L2 := [(2, t), (0, x1), (0, x2), (1, x3), (3, 0), (0, v4), (3, 0), (3, 0), (3, 0), (3, 0), (3, 0)]) d_X12_puts_36 (by decide) rfl rfl ?_
          refine r_sipush (x := 161) d_X12_puts_38 ⟨by decide, by decide⟩ (by decide) ?_
          refine r_iload_n (x := x1) d_X12_puts_41 rfl ?_
          refine r_imul d_X12_puts_42 ?_
          refine r_iconst (x := 1) d_X12_puts_43 ⟨by decide, by decide⟩ ?_
          refine r_iadd d_X12_puts_44 ?_
          refine r_iconst (x := 2) d_X12_puts_45 ⟨by decide, by decide⟩ ?_
          refine r_iload (x := v4) d_X12_puts_46 rfl ?_
          refine r_imul d_X12_puts_48 ?_
          refine r_iadd d_X12_puts_49 ?_
          refine r_nm (fun y5 ey5 => ?_)
          have h := h y5 ey5
          refine r_istore (L2 := [(2, t), (0, x1), (0, x2), (1, x3), (3, 0), (0, v4), (0, y5), (3, 0), (3, 0), (3, 0), (3, 0)]) d_X12_puts_50 (by decide) rfl rfl ?_
          refine r_sipush (x := 161) d_X12_puts_52 ⟨by decide, by decide⟩ (by decide) ?_
          refine r_iload_n (x := x1) d_X12_puts_55 rfl ?_
          refine r_imul d_X12_puts_56 ?_
          refine r_iconst (x := 1) d_X12_puts_57 ⟨by decide, by decide⟩ ?_
          refine r_iadd d_X12_puts_58 ?_
          refine r_iconst (x := 2) d_X12_puts_59 ⟨by decide, by decide⟩ ?_
          refine r_aload_n (x := t) d_X12_puts_60 rfl o_t.1 ?_
          refine r_iload_n (x := x1) d_X12_puts_61 rfl ?_
          refine x_callVI (Y2 := mX12_many) (c := t) (As := [(0, x1)]) (S := [(0, 2), (0, (addI (mulI 161 x1) 1))]) d_X12_puts_62 ok_mX12_many ml_X12_113 rfl (Nat.le_of_ble_eq_true rfl) (Nat.le_of_ble_eq_true rfl) rfl hd_1 kX12 o_t (c_X12_many (v_X12_many_0 o_t f_t_pool ?_))
          refine ⟨h.1, ?_⟩
          have h := h.2
          show WP l mX12_puts (rm d 0 0) noX _ 0 0 65 [(2, t), (0, x1), (0, x2), (1, x3), (3, 0), (0, v4), (0, y5), (3, 0), (3, 0), (3, 0), (3, 0)] [(0, (σ3 t_pool (mulI 161 x1))), (0, 2), (0, (addI (mulI 161 x1) 1))] N Λ σ3
          refine r_imul d_X12_puts_65 ?_
          refine r_iadd d_X12_puts_66 ?_
          refine r_nm (fun y6 ey6 => ?_)
          have h := h y6 ey6
          refine r_istore (L2 := [(2, t), (0, x1), (0, x2), (1, x3), (3, 0), (0, v4), (0, y5), (0, y6), (3, 0), (3, 0), (3, 0)]) d_X12_puts_67 (by decide) rfl rfl ?_
          refine r_iload (x := v4) d_X12_puts_69 rfl ?_
          refine r_aload_n (x := t) d_X12_puts_71 rfl o_t.1 ?_
          refine r_iload_n (x := x1) d_X12_puts_72 rfl ?_
          refine x_callVI (Y2 := mX12_many) (c := t) (As := [(0, x1)]) (S := [(0, v4)]) d_X12_puts_73 ok_mX12_many ml_X12_113 rfl (Nat.le_of_ble_eq_true rfl) (Nat.le_of_ble_eq_true rfl) rfl hd_1 kX12 o_t (c_X12_many (v_X12_many_0 o_t f_t_pool ?_))
          refine ⟨h.1, ?_⟩
          have h := h.2
          show WP l mX12_puts (rm d 0 0) noX _ 0 0 76 [(2, t), (0, x1), (0, x2), (1, x3), (3, 0), (0, v4), (0, y5), (0, y6), (3, 0), (3, 0), (3, 0)] [(0, (σ3 t_pool (mulI 161 x1))), (0, v4)] N Λ σ3
          refine r_ic_ge (tgt := 188) d_X12_puts_76 rfl (fun hc => ?_) (fun hc => ?_)
          · have h := h.1 hc
            refine r_aload_n (x := t) d_X12_puts_188 rfl o_t.1 ?_
            refine r_iload_n (x := x1) d_X12_puts_189 rfl ?_
            refine x_callVI (Y2 := mX12_many) (c := t) (As := [(0, x1)]) (S := []) d_X12_puts_190 ok_mX12_many ml_X12_113 rfl (Nat.le_of_ble_eq_true rfl) (Nat.le_of_ble_eq_true rfl) rfl hd_1 kX12 o_t (c_X12_many (v_X12_many_0 o_t f_t_pool ?_))
            refine ⟨h.1, ?_⟩
            have h := h.2
            show WP l mX12_puts (rm d 0 0) noX _ 0 0 193 [(2, t), (0, x1), (0, x2), (1, x3), (3, 0), (0, v4), (0, y5), (0, y6), (3, 0), (3, 0), (3, 0)] [(0, (σ3 t_pool (mulI 161 x1)))] N Λ σ3
            refine r_bipush (x := 80) d_X12_puts_193 ⟨by decide, by decide⟩ (by decide) ?_
            refine r_ic_ne (tgt := 204) d_X12_puts_195 rfl (fun hc => ?_) (fun hc => ?_)
            · have h := h.1 hc
              refine r_iload (x := y6) d_X12_puts_204 rfl ?_
              refine r_iconst (x := 1) d_X12_puts_206 ⟨by decide, by decide⟩ ?_
              refine r_isub d_X12_puts_207 ?_
              refine r_nm (fun y7 ey7 => ?_)
              have h := h y7 ey7
              refine r_istore (L2 := [(2, t), (0, x1), (0, x2), (1, x3), (3, 0), (0, v4), (0, y5), (0, y6), (0, y7), (3, 0), (3, 0)]) d_X12_puts_208 (by decide) rfl rfl ?_
              exact h
            · have h := h.2 hc
              refine r_aload_n (x := t) d_X12_puts_198 rfl o_t.1 ?_
              refine r_iconst (x := 1) d_X12_puts_199 ⟨by decide, by decide⟩ ?_
              refine x_callVI (Y2 := mX12_fails) (c := t) (As := [(0, 1)]) (S := []) d_X12_puts_200 ok_mX12_fails ml_X12_125 rfl (Nat.le_of_ble_eq_true rfl) (Nat.le_of_ble_eq_true rfl) rfl hd_1 kX12 o_t (c_X12_fails (v_X12_fails_0 o_t ?_))
              refine ⟨fun hc => ?_, fun hc => ?_⟩
              · have h := h.1 hc
                show WP l mX12_puts (rm d 0 0) noX _ 0 0 203 [(2, t), (0, x1), (0, x2), (1, x3), (3, 0), (0, v4), (0, y5), (0, y6), (3, 0), (3, 0), (3, 0)] [(0, 0)] N Λ σ3
                exact r_iret d_X12_puts_203 rfl (by decide) (Nat.le_refl 0) (Nat.le_refl 0) ⟨_, rfl, rfl, rfl, h⟩
              · have h := h.2 hc
                intro τ8 eτ8
                have h := h τ8 eτ8
                show WP l mX12_puts (rm d 0 0) noX _ 0 0 203 [(2, t), (0, x1), (0, x2), (1, x3), (3, 0), (0, v4), (0, y5), (0, y6), (3, 0), (3, 0), (3, 0)] [(0, 0)] N Λ τ8
                exact r_iret d_X12_puts_203 rfl (by decide) (Nat.le_refl 0) (Nat.le_refl 0) ⟨_, rfl, rfl, rfl, h⟩
          · have h := h.2 hc
            refine r_aload_n (x := t) d_X12_puts_79 rfl o_t.1 ?_
            refine r_iload_n (x := x1) d_X12_puts_80 rfl ?_
            refine r_iload (x := v4) d_X12_puts_81 rfl ?_
            refine x_callVI (Y2 := mX12_key) (c := t) (As := [(0, x1), (0, v4)]) (S := []) d_X12_puts_83 ok_mX12_key ml_X12_117 rfl (Nat.le_of_ble_eq_true rfl) (Nat.le_of_ble_eq_true rfl) rfl hd_1 kX12 o_t (c_X12_key (v_X12_key_0 o_t f_t_pool ?_))
            refine ⟨h.1, ?_⟩
            have h := h.2
            show WP l mX12_puts (rm d 0 0) noX _ 0 0 86 [(2, t), (0, x1), (0, x2), (1, x3), (3, 0), (0, v4), (0, y5), (0, y6), (3, 0), (3, 0), (3, 0)] [(0, (σ3 t_pool (addI (addI (mulI 161 x1) 1) (mulI 2 v4))))] N Λ σ3
            refine r_iload_n (x := x2) d_X12_puts_86 rfl ?_
            refine r_ic_ne (tgt := 188) d_X12_puts_87 rfl (fun hc => ?_) (fun hc => ?_)
            · have h := h.1 hc
              refine r_aload_n (x := t) d_X12_puts_188 rfl o_t.1 ?_
              refine r_iload_n (x := x1) d_X12_puts_189 rfl ?_
              refine x_callVI (Y2 := mX12_many) (c := t) (As := [(0, x1)]) (S := []) d_X12_puts_190 ok_mX12_many ml_X12_113 rfl (Nat.le_of_ble_eq_true rfl) (Nat.le_of_ble_eq_true rfl) rfl hd_1 kX12 o_t (c_X12_many (v_X12_many_0 o_t f_t_pool ?_))
              refine ⟨h.1, ?_⟩
              have h := h.2
              show WP l mX12_puts (rm d 0 0) noX _ 0 0 193 [(2, t), (0, x1), (0, x2), (1, x3), (3, 0), (0, v4), (0, y5), (0, y6), (3, 0), (3, 0), (3, 0)] [(0, (σ3 t_pool (mulI 161 x1)))] N Λ σ3
              refine r_bipush (x := 80) d_X12_puts_193 ⟨by decide, by decide⟩ (by decide) ?_
              refine r_ic_ne (tgt := 204) d_X12_puts_195 rfl (fun hc => ?_) (fun hc => ?_)
              · have h := h.1 hc
                refine r_iload (x := y6) d_X12_puts_204 rfl ?_
                refine r_iconst (x := 1) d_X12_puts_206 ⟨by decide, by decide⟩ ?_
                refine r_isub d_X12_puts_207 ?_
                refine r_nm (fun y9 ey9 => ?_)
                have h := h y9 ey9
                refine r_istore (L2 := [(2, t), (0, x1), (0, x2), (1, x3), (3, 0), (0, v4), (0, y5), (0, y6), (0, y9), (3, 0), (3, 0)]) d_X12_puts_208 (by decide) rfl rfl ?_
                exact h
              · have h := h.2 hc
                refine r_aload_n (x := t) d_X12_puts_198 rfl o_t.1 ?_
                refine r_iconst (x := 1) d_X12_puts_199 ⟨by decide, by decide⟩ ?_
                refine x_callVI (Y2 := mX12_fails) (c := t) (As := [(0, 1)]) (S := []) d_X12_puts_200 ok_mX12_fails ml_X12_125 rfl (Nat.le_of_ble_eq_true rfl) (Nat.le_of_ble_eq_true rfl) rfl hd_1 kX12 o_t (c_X12_fails (v_X12_fails_0 o_t ?_))
                refine ⟨fun hc => ?_, fun hc => ?_⟩
                · have h := h.1 hc
                  show WP l mX12_puts (rm d 0 0) noX _ 0 0 203 [(2, t), (0, x1), (0, x2), (1, x3), (3, 0), (0, v4), (0, y5), (0, y6), (3, 0), (3, 0), (3, 0)] [(0, 0)] N Λ σ3
                  exact r_iret d_X12_puts_203 rfl (by decide) (Nat.le_refl 0) (Nat.le_refl 0) ⟨_, rfl, rfl, rfl, h⟩
                · have h := h.2 hc
                  intro τ10 eτ10
                  have h := h τ10 eτ10
                  show WP l mX12_puts (rm d 0 0) noX _ 0 0 203 [(2, t), (0, x1), (0, x2), (1, x3), (3, 0), (0, v4), (0, y5), (0, y6), (3, 0), (3, 0), (3, 0)] [(0, 0)] N Λ τ10
                  exact r_iret d_X12_puts_203 rfl (by decide) (Nat.le_refl 0) (Nat.le_refl 0) ⟨_, rfl, rfl, rfl, h⟩
            · have h := h.2 hc
              refine r_aload_n (x := t) d_X12_puts_90 rfl o_t.1 ?_
              refine r_iload_n (x := x1) d_X12_puts_91 rfl ?_
              refine r_iload (x := v4) d_X12_puts_92 rfl ?_
              refine x_callVI (Y2 := mX12_number) (c := t) (As := [(0, x1), (0, v4)]) (S := []) d_X12_puts_94 ok_mX12_number ml_X12_132 rfl (Nat.le_of_ble_eq_true rfl) (Nat.le_of_ble_eq_true rfl) rfl hd_1 kX12 o_t (c_X12_number (v_X12_number_0 o_t f_t_pool ?_))
              refine ⟨h.1, ?_⟩
              have h := h.2
              show WP l mX12_puts (rm d 0 0) noX _ 0 0 97 [(2, t), (0, x1), (0, x2), (1, x3), (3, 0), (0, v4), (0, y5), (0, y6), (3, 0), (3, 0), (3, 0)] [(0, (σ3 t_pool (addI (addI (mulI 161 x1) 2) (mulI 2 v4))))] N Λ σ3
              refine r_i2l d_X12_puts_97 ?_
              refine r_lload_n (x := x3) d_X12_puts_98 rfl ?_
              refine r_ladd d_X12_puts_99 ?_
              refine r_nm (fun y11 ey11 => ?_)
              have h := h y11 ey11
              refine r_lstore (L2 := [(2, t), (0, x1), (0, x2), (1, x3), (3, 0), (0, v4), (0, y5), (0, y6), (1, y11), (3, 0), (3, 0)]) d_X12_puts_100 (by decide) rfl rfl ?_
              refine r_lload (x := y11) d_X12_puts_102 rfl ?_
              refine x_callSI (Y2 := mX12_isInt) (As := [(1, y11)]) (S := []) d_X12_puts_104 ok_mX12_isInt ml_X12_121 rfl (Nat.le_of_ble_eq_true rfl) (Nat.le_of_ble_eq_true rfl) rfl hd_1 (c_X12_isInt (v_X12_isInt_0 he_1 ?_))
              refine ⟨fun hc => ?_, fun hc => ?_⟩
              · have h := h.1 hc
                show WP l mX12_puts (rm d 0 0) noX _ 0 0 107 [(2, t), (0, x1), (0, x2), (1, x3), (3, 0), (0, v4), (0, y5), (0, y6), (1, y11), (3, 0), (3, 0)] [(0, 0)] N Λ σ3
                refine r_if_ne (tgt := 116) d_X12_puts_107 rfl (fun hc => absurd hc (by decide)) (fun _ => ?_)
                refine r_aload_n (x := t) d_X12_puts_110 rfl o_t.1 ?_
                refine r_iconst (x := 4) d_X12_puts_111 ⟨by decide, by decide⟩ ?_
                refine x_callVI (Y2 := mX12_fails) (c := t) (As := [(0, 4)]) (S := []) d_X12_puts_112 ok_mX12_fails ml_X12_125 rfl (Nat.le_of_ble_eq_true rfl) (Nat.le_of_ble_eq_true rfl) rfl hd_1 kX12 o_t (c_X12_fails (v_X12_fails_0 o_t ?_))
                refine ⟨fun hc => ?_, fun hc => ?_⟩
                · have h := h.1 hc
                  show WP l mX12_puts (rm d 0 0) noX _ 0 0 115 [(2, t), (0, x1), (0, x2), (1, x3), (3, 0), (0, v4), (0, y5), (0, y6), (1, y11), (3, 0), (3, 0)] [(0, 0)] N Λ σ3
                  exact r_iret d_X12_puts_115 rfl (by decide) (Nat.le_refl 0) (Nat.le_refl 0) ⟨_, rfl, rfl, rfl, h⟩
                · have h := h.2 hc
                  intro τ12 eτ12
                  have h := h τ12 eτ12
                  show WP l mX12_puts (rm d 0 0) noX _ 0 0 115 [(2, t), (0, x1), (0, x2), (1, x3), (3, 0), (0, v4), (0, y5), (0, y6), (1, y11), (3, 0), (3, 0)] [(0, 0)] N Λ τ12
                  exact r_iret d_X12_puts_115 rfl (by decide) (Nat.le_refl 0) (Nat.le_refl 0) ⟨_, rfl, rfl, rfl, h⟩
              · have h := h.2 hc
                refine ⟨fun hc => ?_, fun hc => ?_⟩
                · have h := h.1 hc
                  show WP l mX12_puts (rm d 0 0) noX _ 0 0 107 [(2, t), (0, x1), (0, x2), (1, x3), (3, 0), (0, v4), (0, y5), (0, y6), (1, y11), (3, 0), (3, 0)] [(0, 0)] N Λ σ3
                  refine r_if_ne (tgt := 116) d_X12_puts_107 rfl (fun hc => absurd hc (by decide)) (fun _ => ?_)
                  refine r_aload_n (x := t) d_X12_puts_110 rfl o_t.1 ?_
                  refine r_iconst (x := 4) d_X12_puts_111 ⟨by decide, by decide⟩ ?_
                  refine x_callVI (Y2 := mX12_fails) (c := t) (As := [(0, 4)]) (S := []) d_X12_puts_112 ok_mX12_fails ml_X12_125 rfl (Nat.le_of_ble_eq_true rfl) (Nat.le_of_ble_eq_true rfl) rfl hd_1 kX12 o_t (c_X12_fails (v_X12_fails_0 o_t ?_))
                  refine ⟨fun hc => ?_, fun hc => ?_⟩
                  · have h := h.1 hc
                    show WP l mX12_puts (rm d 0 0) noX _ 0 0 115 [(2, t), (0, x1), (0, x2), (1, x3), (3, 0), (0, v4), (0, y5), (0, y6), (1, y11), (3, 0), (3, 0)] [(0, 0)] N Λ σ3
                    exact r_iret d_X12_puts_115 rfl (by decide) (Nat.le_refl 0) (Nat.le_refl 0) ⟨_, rfl, rfl, rfl, h⟩
                  · have h := h.2 hc
                    intro τ13 eτ13
                    have h := h τ13 eτ13
                    show WP l mX12_puts (rm d 0 0) noX _ 0 0 115 [(2, t), (0, x1), (0, x2), (1, x3), (3, 0), (0, v4), (0, y5), (0, y6), (1, y11), (3, 0), (3, 0)] [(0, 0)] N Λ τ13
                    exact r_iret d_X12_puts_115 rfl (by decide) (Nat.le_refl 0) (Nat.le_refl 0) ⟨_, rfl, rfl, rfl, h⟩
                · have h := h.2 hc
                  show WP l mX12_puts (rm d 0 0) noX _ 0 0 107 [(2, t), (0, x1), (0, x2), (1, x3), (3, 0), (0, v4), (0, y5), (0, y6), (1, y11), (3, 0), (3, 0)] [(0, 1)] N Λ σ3
                  refine r_if_ne (tgt := 116) d_X12_puts_107 rfl (fun _ => ?_) (fun hc => absurd hc (by decide))
                  refine r_aload_n (x := t) d_X12_puts_116 rfl o_t.1 ?_
                  refine r_getf (j := 7) (t := 2) (x := t_pool) d_X12_puts_117 kX12 (by decide) fl_X12_30 o_t.1 o_t.2.1 o_t.2.2.1 o_t.2.2.2 rfl f_t_pool ?_
                  refine r_iload (x := y5) d_X12_puts_120 rfl ?_
                  refine r_iconst (x := 1) d_X12_puts_122 ⟨by decide, by decide⟩ ?_
                  refine r_iadd d_X12_puts_123 ?_
                  refine r_lload (x := y11) d_X12_puts_124 rfl ?_
                  refine r_l2i d_X12_puts_126 ?_
                  refine x_iast d_X12_puts_127 h.1 ?_
                  have h := h.2
                  refine r_nmM (fun τ14 eτ14 => ?_)
                  have h := h τ14 eτ14
                  refine r_lload (x := y11) d_X12_puts_128 rfl ?_
                  refine r_lconst d_X12_puts_130 ?_
                  skip
                  refine r_lcmp d_X12_puts_131 ?_
                  refine r_if_eq (tgt := 137) d_X12_puts_132 rfl (fun hc => ?_) (fun hc => ?_)
                  · have h := h.1 hc
                    refine r_iload (x := y5) d_X12_puts_137 rfl ?_
                    refine r_istore (L2 := [(2, t), (0, x1), (0, x2), (1, x3), (3, 0), (0, v4), (0, y5), (0, y6), (1, y11), (3, 0), (0, y5)]) d_X12_puts_139 (by decide) rfl rfl ?_
                    exact h
                  · have h := h.2 hc
                    refine r_iconst (x := 1) d_X12_puts_135 ⟨by decide, by decide⟩ ?_
                    exact r_iret d_X12_puts_136 rfl (by decide) (Nat.le_refl 0) (Nat.le_refl 0) ⟨_, rfl, rfl, rfl, h⟩
        · have h := h.2 hc
          refine r_iconst (x := 1) d_X12_puts_28 ⟨by decide, by decide⟩ ?_
          exact r_iret d_X12_puts_29 rfl (by decide) (Nat.le_refl 0) (Nat.le_refl 0) ⟨_, rfl, rfl, rfl, h⟩
  · have h := h.2 hc
    refine r_iconst (x := 0) d_X12_puts_7 ⟨by decide, by decide⟩ ?_
    exact r_iret d_X12_puts_8 rfl (by decide) (Nat.le_refl 0) (Nat.le_refl 0) ⟨_, rfl, rfl, rfl, h⟩
theorem v_X12_puts_141 {l : Launch} {d N : Nat} {Λ : Lay} {P : Int → Mem → Prop} {σ : Mem} {x1 x2 x3 x5 x6 x7 x8 x10 t t_pool : Int} (o_t : Ob N Λ t 21 36) (f_t_pool : (Λ t).2.2 7 = t_pool)
    (h : (((subI x7 2) ≤ x10 → (Ix N Λ t_pool 0 (mulI 161 x1) ∧ (Ix N Λ t_pool 0 (mulI 161 x1) ∧ (∀ τ1, τ1 = st σ t_pool (mulI 161 x1) (subI (σ t_pool (mulI 161 x1)) 1) → P 1 τ1)))) ∧ (¬ ((subI x7 2) ≤ x10) → (Ix N Λ t_pool 0 (addI x10 2) ∧ (Ix N Λ t_pool 0 x10 ∧ (∀ τ2, τ2 = st σ t_pool x10 (σ t_pool (addI x10 2)) → (∀ y3, y3 = addI x10 1 → WI l mX12_puts d P 141 [(2, t), (0, x1), (0, x2), (1, x3), (3, 0), (0, x5), (0, x6), (0, x7), (1, x8), (3, 0), (0, y3)] [] N Λ τ2))))))) :
    WI l mX12_puts d P 141 [(2, t), (0, x1), (0, x2), (1, x3), (3, 0), (0, x5), (0, x6), (0, x7), (1, x8), (3, 0), (0, x10)] [] N Λ σ := by
  refine r_iload (x := x10) d_X12_puts_141 rfl ?_
  refine r_iload (x := x7) d_X12_puts_143 rfl ?_
  refine r_iconst (x := 2) d_X12_puts_145 ⟨by decide, by decide⟩ ?_
  refine r_isub d_X12_puts_146 ?_
  refine r_ic_ge (tgt := 172) d_X12_puts_147 rfl (fun hc => ?_) (fun hc => ?_)
  · have h := h.1 hc
    refine r_aload_n (x := t) d_X12_puts_172 rfl o_t.1 ?_
    refine r_getf (j := 7) (t := 2) (x := t_pool) d_X12_puts_173 kX12 (by decide) fl_X12_30 o_t.1 o_t.2.1 o_t.2.2.1 o_t.2.2.2 rfl f_t_pool ?_
    refine r_sipush (x := 161) d_X12_puts_176 ⟨by decide, by decide⟩ (by decide) ?_
    refine r_iload_n (x := x1) d_X12_puts_179 rfl ?_
    refine r_imul d_X12_puts_180 ?_
    refine r_dup2 d_X12_puts_181 rfl rfl ?_
    refine x_iald d_X12_puts_182 h.1 ?_
    have h := h.2
    refine r_iconst (x := 1) d_X12_puts_183 ⟨by decide, by decide⟩ ?_
    refine r_isub d_X12_puts_184 ?_
    refine x_iast d_X12_puts_185 h.1 ?_
    have h := h.2
    refine r_nmM (fun τ1 eτ1 => ?_)
    have h := h τ1 eτ1
    refine r_iconst (x := 1) d_X12_puts_186 ⟨by decide, by decide⟩ ?_
    exact r_iret d_X12_puts_187 rfl (by decide) (Nat.le_refl 0) (Nat.le_refl 0) ⟨_, rfl, rfl, rfl, h⟩
  · have h := h.2 hc
    refine r_aload_n (x := t) d_X12_puts_150 rfl o_t.1 ?_
    refine r_getf (j := 7) (t := 2) (x := t_pool) d_X12_puts_151 kX12 (by decide) fl_X12_30 o_t.1 o_t.2.1 o_t.2.2.1 o_t.2.2.2 rfl f_t_pool ?_
    refine r_iload (x := x10) d_X12_puts_154 rfl ?_
    refine r_aload_n (x := t) d_X12_puts_156 rfl o_t.1 ?_
    refine r_getf (j := 7) (t := 2) (x := t_pool) d_X12_puts_157 kX12 (by decide) fl_X12_30 o_t.1 o_t.2.1 o_t.2.2.1 o_t.2.2.2 rfl f_t_pool ?_
    refine r_iload (x := x10) d_X12_puts_160 rfl ?_
    refine r_iconst (x := 2) d_X12_puts_162 ⟨by decide, by decide⟩ ?_
    refine r_iadd d_X12_puts_163 ?_
    refine x_iald d_X12_puts_164 h.1 ?_
    have h := h.2
    refine x_iast d_X12_puts_165 h.1 ?_
    have h := h.2
    refine r_nmM (fun τ2 eτ2 => ?_)
    have h := h τ2 eτ2
    refine x_iinc (x := x10) (L := [(2, t), (0, x1), (0, x2), (1, x3), (3, 0), (0, x5), (0, x6), (0, x7), (1, x8), (3, 0), (0, x10)]) d_X12_puts_166 rfl (by decide) rfl (fun y3 ey3 => ?_)
    have h := h y3 ey3
    show WP _ _ _ _ _ _ _ _ [(2, t), (0, x1), (0, x2), (1, x3), (3, 0), (0, x5), (0, x6), (0, x7), (1, x8), (3, 0), (0, y3)] _ _ _ _
    refine r_goto (tgt := 141) d_X12_puts_169 rfl ?_
    exact h
theorem v_X12_puts_210 {l : Launch} {d N : Nat} {Λ : Lay} {P : Int → Mem → Prop} {σ : Mem} {x1 x2 x3 x5 x6 x7 x8 t t_pool : Int} (o_t : Ob N Λ t 21 36) (f_t_pool : (Λ t).2.2 7 = t_pool)
    (h : ((x8 < x6 → (Ix N Λ t_pool 0 x6 ∧ (∀ τ1, τ1 = st σ t_pool x6 x2 → (Ix N Λ t_pool 0 (addI x6 1) ∧ (∀ τ2, τ2 = st τ1 t_pool (addI x6 1) (l2iI x3) → (Ix N Λ t_pool 0 (mulI 161 x1) ∧ (Ix N Λ t_pool 0 (mulI 161 x1) ∧ (∀ τ3, τ3 = st τ2 t_pool (mulI 161 x1) (addI (τ2 t_pool (mulI 161 x1)) 1) → P 1 τ3)))))))) ∧ (¬ (x8 < x6) → (Ix N Λ t_pool 0 x8 ∧ (Ix N Λ t_pool 0 (addI x8 2) ∧ (∀ τ4, τ4 = st σ t_pool (addI x8 2) (σ t_pool x8) → (∀ y5, y5 = addI x8 (-1) → WI l mX12_puts d P 210 [(2, t), (0, x1), (0, x2), (1, x3), (3, 0), (0, x5), (0, x6), (0, x7), (0, y5), (3, 0), (3, 0)] [] N Λ τ4))))))) :
    WI l mX12_puts d P 210 [(2, t), (0, x1), (0, x2), (1, x3), (3, 0), (0, x5), (0, x6), (0, x7), (0, x8), (3, 0), (3, 0)] [] N Λ σ := by
  refine r_iload (x := x8) d_X12_puts_210 rfl ?_
  refine r_iload (x := x6) d_X12_puts_212 rfl ?_
  refine r_ic_lt (tgt := 239) d_X12_puts_214 rfl (fun hc => ?_) (fun hc => ?_)
  · have h := h.1 hc
    refine r_aload_n (x := t) d_X12_puts_239 rfl o_t.1 ?_
    refine r_getf (j := 7) (t := 2) (x := t_pool) d_X12_puts_240 kX12 (by decide) fl_X12_30 o_t.1 o_t.2.1 o_t.2.2.1 o_t.2.2.2 rfl f_t_pool ?_
    refine r_iload (x := x6) d_X12_puts_243 rfl ?_
    refine r_iload_n (x := x2) d_X12_puts_245 rfl ?_
    refine x_iast d_X12_puts_246 h.1 ?_
    have h := h.2
    refine r_nmM (fun τ1 eτ1 => ?_)
    have h := h τ1 eτ1
    refine r_aload_n (x := t) d_X12_puts_247 rfl o_t.1 ?_
    refine r_getf (j := 7) (t := 2) (x := t_pool) d_X12_puts_248 kX12 (by decide) fl_X12_30 o_t.1 o_t.2.1 o_t.2.2.1 o_t.2.2.2 rfl f_t_pool ?_
    refine r_iload (x := x6) d_X12_puts_251 rfl ?_
    refine r_iconst (x := 1) d_X12_puts_253 ⟨by decide, by decide⟩ ?_
    refine r_iadd d_X12_puts_254 ?_
    refine r_lload_n (x := x3) d_X12_puts_255 rfl ?_
    refine r_l2i d_X12_puts_256 ?_
    refine x_iast d_X12_puts_257 h.1 ?_
    have h := h.2
    refine r_nmM (fun τ2 eτ2 => ?_)
    have h := h τ2 eτ2
    refine r_aload_n (x := t) d_X12_puts_258 rfl o_t.1 ?_
    refine r_getf (j := 7) (t := 2) (x := t_pool) d_X12_puts_259 kX12 (by decide) fl_X12_30 o_t.1 o_t.2.1 o_t.2.2.1 o_t.2.2.2 rfl f_t_pool ?_
    refine r_sipush (x := 161) d_X12_puts_262 ⟨by decide, by decide⟩ (by decide) ?_
    refine r_iload_n (x := x1) d_X12_puts_265 rfl ?_
    refine r_imul d_X12_puts_266 ?_
    refine r_dup2 d_X12_puts_267 rfl rfl ?_
    refine x_iald d_X12_puts_268 h.1 ?_
    have h := h.2
    refine r_iconst (x := 1) d_X12_puts_269 ⟨by decide, by decide⟩ ?_
    refine r_iadd d_X12_puts_270 ?_
    refine x_iast d_X12_puts_271 h.1 ?_
    have h := h.2
    refine r_nmM (fun τ3 eτ3 => ?_)
    have h := h τ3 eτ3
    refine r_iconst (x := 1) d_X12_puts_272 ⟨by decide, by decide⟩ ?_
    exact r_iret d_X12_puts_273 rfl (by decide) (Nat.le_refl 0) (Nat.le_refl 0) ⟨_, rfl, rfl, rfl, h⟩
  · have h := h.2 hc
    refine r_aload_n (x := t) d_X12_puts_217 rfl o_t.1 ?_
    refine r_getf (j := 7) (t := 2) (x := t_pool) d_X12_puts_218 kX12 (by decide) fl_X12_30 o_t.1 o_t.2.1 o_t.2.2.1 o_t.2.2.2 rfl f_t_pool ?_
    refine r_iload (x := x8) d_X12_puts_221 rfl ?_
    refine r_iconst (x := 2) d_X12_puts_223 ⟨by decide, by decide⟩ ?_
    refine r_iadd d_X12_puts_224 ?_
    refine r_aload_n (x := t) d_X12_puts_225 rfl o_t.1 ?_
    refine r_getf (j := 7) (t := 2) (x := t_pool) d_X12_puts_226 kX12 (by decide) fl_X12_30 o_t.1 o_t.2.1 o_t.2.2.1 o_t.2.2.2 rfl f_t_pool ?_
    refine r_iload (x := x8) d_X12_puts_229 rfl ?_
    refine x_iald d_X12_puts_231 h.1 ?_
    have h := h.2
    refine x_iast d_X12_puts_232 h.1 ?_
    have h := h.2
    refine r_nmM (fun τ4 eτ4 => ?_)
    have h := h τ4 eτ4
    refine x_iinc (x := x8) (L := [(2, t), (0, x1), (0, x2), (1, x3), (3, 0), (0, x5), (0, x6), (0, x7), (0, x8), (3, 0), (3, 0)]) d_X12_puts_233 rfl (by decide) rfl (fun y5 ey5 => ?_)
    have h := h y5 ey5
    show WP _ _ _ _ _ _ _ _ [(2, t), (0, x1), (0, x2), (1, x3), (3, 0), (0, x5), (0, x6), (0, x7), (0, y5), (3, 0), (3, 0)] _ _ _ _
    refine r_goto (tgt := 210) d_X12_puts_236 rfl ?_
    exact h
theorem v_X12_rankIn_0 {l : Launch} {d N : Nat} {Λ : Lay} {P : Int → Mem → Prop} {σ : Mem} {x0 x1 : Int}
    (h : WI l mX12_rankIn d P 4 [(0, x0), (0, x1), (0, x0), (0, 3)] [] N Λ σ) :
    WI l mX12_rankIn d P 0 [(0, x0), (0, x1), (3, 0), (3, 0)] [] N Λ σ := by
  refine r_iload_n (x := x0) d_X12_rankIn_0 rfl ?_
  refine r_istore_n (L2 := [(0, x0), (0, x1), (0, x0), (3, 0)]) d_X12_rankIn_1 (by decide) rfl rfl ?_
  refine r_iconst (x := 3) d_X12_rankIn_2 ⟨by decide, by decide⟩ ?_
  refine r_istore_n (L2 := [(0, x0), (0, x1), (0, x0), (0, 3)]) d_X12_rankIn_3 (by decide) rfl rfl ?_
  exact h
theorem v_X12_rankIn_4 {l : Launch} {d N : Nat} {Λ : Lay} {P : Int → Mem → Prop} {σ : Mem} {x0 x1 x2 x3 : Int}
    (h : ((x3 ≤ x1 → P (remI x2 121) σ) ∧ (¬ (x3 ≤ x1) → (∀ y1, y1 = (divI x2 121) → (∀ y2, y2 = addI x3 (-1) → WI l mX12_rankIn d P 4 [(0, x0), (0, x1), (0, y1), (0, y2)] [] N Λ σ))))) :
    WI l mX12_rankIn d P 4 [(0, x0), (0, x1), (0, x2), (0, x3)] [] N Λ σ := by
  refine r_iload_n (x := x3) d_X12_rankIn_4 rfl ?_
  refine r_iload_n (x := x1) d_X12_rankIn_5 rfl ?_
  refine r_ic_le (tgt := 20) d_X12_rankIn_6 rfl (fun hc => ?_) (fun hc => ?_)
  · have h := h.1 hc
    refine r_iload_n (x := x2) d_X12_rankIn_20 rfl ?_
    refine r_bipush (x := 121) d_X12_rankIn_21 ⟨by decide, by decide⟩ (by decide) ?_
    refine r_irem d_X12_rankIn_23 (by decide) ?_
    exact r_iret d_X12_rankIn_24 rfl rfl (Nat.le_refl 0) (Nat.le_refl 0) ⟨_, rfl, rfl, rfl, h⟩
  · have h := h.2 hc
    refine r_iload_n (x := x2) d_X12_rankIn_9 rfl ?_
    refine r_bipush (x := 121) d_X12_rankIn_10 ⟨by decide, by decide⟩ (by decide) ?_
    refine r_idiv d_X12_rankIn_12 (by decide) ?_
    refine r_nm (fun y1 ey1 => ?_)
    have h := h y1 ey1
    refine r_istore_n (L2 := [(0, x0), (0, x1), (0, y1), (0, x3)]) d_X12_rankIn_13 (by decide) rfl rfl ?_
    refine x_iinc (x := x3) (L := [(0, x0), (0, x1), (0, y1), (0, x3)]) d_X12_rankIn_14 rfl (by decide) rfl (fun y2 ey2 => ?_)
    have h := h y2 ey2
    show WP _ _ _ _ _ _ _ _ [(0, x0), (0, x1), (0, y1), (0, y2)] _ _ _ _
    refine r_goto (tgt := 4) d_X12_rankIn_17 rfl ?_
    exact h
theorem v_X12_degreeOf_0 {l : Launch} {d N : Nat} {Λ : Lay} {P : Int → Mem → Prop} {σ : Mem} {x0 : Int}
    (h : WI l mX12_degreeOf d P 2 [(0, x0), (0, 0)] [] N Λ σ) :
    WI l mX12_degreeOf d P 0 [(0, x0), (3, 0)] [] N Λ σ := by
  refine r_iconst (x := 0) d_X12_degreeOf_0 ⟨by decide, by decide⟩ ?_
  refine r_istore_n (L2 := [(0, x0), (0, 0)]) d_X12_degreeOf_1 (by decide) rfl rfl ?_
  exact h
theorem v_X12_degreeOf_2 {l : Launch} {d N : Nat} {Λ : Lay} {P : Int → Mem → Prop} {σ : Mem} {x0 x1 : Int} (h0d : 1 ≤ d)
    (h : ((4 ≤ x1 → P x1 σ) ∧ (¬ (4 ≤ x1) → (CI l mX12_rankIn (d - 1) [(0, x0), (0, x1)] N Λ σ (fun v2 σ1 => ((v2 ≤ 0 → P x1 σ1) ∧ (¬ (v2 ≤ 0) → (∀ y3, y3 = addI x1 1 → WI l mX12_degreeOf d P 2 [(0, x0), (0, y3)] [] N Λ σ1)))))))) :
    WI l mX12_degreeOf d P 2 [(0, x0), (0, x1)] [] N Λ σ := by
  have hd_1 : 1 ≤ d := Nat.le_trans (by decide) h0d
  refine r_iload_n (x := x1) d_X12_degreeOf_2 rfl ?_
  refine r_iconst (x := 4) d_X12_degreeOf_3 ⟨by decide, by decide⟩ ?_
  refine r_ic_ge (tgt := 21) d_X12_degreeOf_4 rfl (fun hc => ?_) (fun hc => ?_)
  · have h := h.1 hc
    refine r_iload_n (x := x1) d_X12_degreeOf_21 rfl ?_
    exact r_iret d_X12_degreeOf_22 rfl rfl (Nat.le_refl 0) (Nat.le_refl 0) ⟨_, rfl, rfl, rfl, h⟩
  · have h := h.2 hc
    refine r_iload_n (x := x0) d_X12_degreeOf_7 rfl ?_
    refine r_iload_n (x := x1) d_X12_degreeOf_8 rfl ?_
    refine x_callSI (Y2 := mX12_rankIn) (As := [(0, x0), (0, x1)]) (S := []) d_X12_degreeOf_9 ok_mX12_rankIn ml_X12_135 rfl (Nat.le_of_ble_eq_true rfl) (Nat.le_of_ble_eq_true rfl) rfl hd_1 (CI.mono h (fun v2 σ1 h => ?_))
    refine r_if_le (tgt := 21) d_X12_degreeOf_12 rfl (fun hc => ?_) (fun hc => ?_)
    · have h := h.1 hc
      refine r_iload_n (x := x1) d_X12_degreeOf_21 rfl ?_
      exact r_iret d_X12_degreeOf_22 rfl rfl (Nat.le_refl 0) (Nat.le_refl 0) ⟨_, rfl, rfl, rfl, h⟩
    · have h := h.2 hc
      refine x_iinc (x := x1) (L := [(0, x0), (0, x1)]) d_X12_degreeOf_15 rfl (by decide) rfl (fun y3 ey3 => ?_)
      have h := h y3 ey3
      show WP _ _ _ _ _ _ _ _ [(0, x0), (0, y3)] _ _ _ _
      refine r_goto (tgt := 2) d_X12_degreeOf_18 rfl ?_
      exact h
theorem v_X12_keyOf_0 {l : Launch} {d N : Nat} {Λ : Lay} {P : Int → Mem → Prop} {σ : Mem} {x1 t : Int}
    (h : WI l mX12_keyOf d P 2 [(2, t), (0, x1), (0, 1), (3, 0), (3, 0)] [] N Λ σ) :
    WI l mX12_keyOf d P 0 [(2, t), (0, x1), (3, 0), (3, 0), (3, 0)] [] N Λ σ := by
  refine r_iconst (x := 1) d_X12_keyOf_0 ⟨by decide, by decide⟩ ?_
  refine r_istore_n (L2 := [(2, t), (0, x1), (0, 1), (3, 0), (3, 0)]) d_X12_keyOf_1 (by decide) rfl rfl ?_
  exact h
theorem v_X12_keyOf_2 {l : Launch} {d N : Nat} {Λ : Lay} {P : Int → Mem → Prop} {σ : Mem} {x1 x2 t t_ranks : Int} (o_t : Ob N Λ t 21 36) (f_t_ranks : (Λ t).2.2 9 = t_ranks)
    (h : ((x1 ≤ x2 → WI l mX12_keyOf d P 75 [(2, t), (0, x1), (0, 0), (0, 0), (3, 0)] [] N Λ σ) ∧ (¬ (x1 ≤ x2) → (Ix N Λ t_ranks 0 x2 ∧ (∀ y1, y1 = (σ t_ranks x2) → WI l mX12_keyOf d P 17 [(2, t), (0, x1), (0, x2), (0, y1), (0, x2)] [] N Λ σ))))) :
    WI l mX12_keyOf d P 2 [(2, t), (0, x1), (0, x2), (3, 0), (3, 0)] [] N Λ σ := by
  refine r_iload_n (x := x2) d_X12_keyOf_2 rfl ?_
  refine r_iload_n (x := x1) d_X12_keyOf_3 rfl ?_
  refine r_ic_ge (tgt := 71) d_X12_keyOf_4 rfl (fun hc => ?_) (fun hc => ?_)
  · have h := h.1 hc
    refine r_iconst (x := 0) d_X12_keyOf_71 ⟨by decide, by decide⟩ ?_
    refine r_istore_n (L2 := [(2, t), (0, x1), (0, 0), (3, 0), (3, 0)]) d_X12_keyOf_72 (by decide) rfl rfl ?_
    refine r_iconst (x := 0) d_X12_keyOf_73 ⟨by decide, by decide⟩ ?_
    refine r_istore_n (L2 := [(2, t), (0, x1), (0, 0), (0, 0), (3, 0)]) d_X12_keyOf_74 (by decide) rfl rfl ?_
    exact h
  · have h := h.2 hc
    refine r_aload_n (x := t) d_X12_keyOf_7 rfl o_t.1 ?_
    refine r_getf (j := 9) (t := 2) (x := t_ranks) d_X12_keyOf_8 kX12 (by decide) fl_X12_33 o_t.1 o_t.2.1 o_t.2.2.1 o_t.2.2.2 rfl f_t_ranks ?_
    refine r_iload_n (x := x2) d_X12_keyOf_11 rfl ?_
    refine x_iald d_X12_keyOf_12 h.1 ?_
    have h := h.2
    refine r_nm (fun y1 ey1 => ?_)
    have h := h y1 ey1
    refine r_istore_n (L2 := [(2, t), (0, x1), (0, x2), (0, y1), (3, 0)]) d_X12_keyOf_13 (by decide) rfl rfl ?_
    refine r_iload_n (x := x2) d_X12_keyOf_14 rfl ?_
    refine r_istore (L2 := [(2, t), (0, x1), (0, x2), (0, y1), (0, x2)]) d_X12_keyOf_15 (by decide) rfl rfl ?_
    exact h
theorem v_X12_keyOf_17 {l : Launch} {d N : Nat} {Λ : Lay} {P : Int → Mem → Prop} {σ : Mem} {x1 x2 x3 x4 t t_ranks : Int} (o_t : Ob N Λ t 21 36) (f_t_ranks : (Λ t).2.2 9 = t_ranks)
    (h : ((x4 ≤ 0 → (Ix N Λ t_ranks 0 x4 ∧ (∀ τ1, τ1 = st σ t_ranks x4 x3 → (∀ y2, y2 = addI x2 1 → WI l mX12_keyOf d P 2 [(2, t), (0, x1), (0, y2), (3, 0), (3, 0)] [] N Λ τ1)))) ∧ (¬ (x4 ≤ 0) → (Ix N Λ t_ranks 0 (subI x4 1) ∧ (((σ t_ranks (subI x4 1)) ≤ x3 → (Ix N Λ t_ranks 0 x4 ∧ (∀ τ3, τ3 = st σ t_ranks x4 x3 → (∀ y4, y4 = addI x2 1 → WI l mX12_keyOf d P 2 [(2, t), (0, x1), (0, y4), (3, 0), (3, 0)] [] N Λ τ3)))) ∧ (¬ ((σ t_ranks (subI x4 1)) ≤ x3) → (Ix N Λ t_ranks 0 (subI x4 1) ∧ (Ix N Λ t_ranks 0 x4 ∧ (∀ τ5, τ5 = st σ t_ranks x4 (σ t_ranks (subI x4 1)) → (∀ y6, y6 = addI x4 (-1) → WI l mX12_keyOf d P 17 [(2, t), (0, x1), (0, x2), (0, x3), (0, y6)] [] N Λ τ5)))))))))) :
    WI l mX12_keyOf d P 17 [(2, t), (0, x1), (0, x2), (0, x3), (0, x4)] [] N Λ σ := by
  refine r_iload (x := x4) d_X12_keyOf_17 rfl ?_
  refine r_if_le (tgt := 57) d_X12_keyOf_19 rfl (fun hc => ?_) (fun hc => ?_)
  · have h := h.1 hc
    refine r_aload_n (x := t) d_X12_keyOf_57 rfl o_t.1 ?_
    refine r_getf (j := 9) (t := 2) (x := t_ranks) d_X12_keyOf_58 kX12 (by decide) fl_X12_33 o_t.1 o_t.2.1 o_t.2.2.1 o_t.2.2.2 rfl f_t_ranks ?_
    refine r_iload (x := x4) d_X12_keyOf_61 rfl ?_
    refine r_iload_n (x := x3) d_X12_keyOf_63 rfl ?_
    refine x_iast d_X12_keyOf_64 h.1 ?_
    have h := h.2
    refine r_nmM (fun τ1 eτ1 => ?_)
    have h := h τ1 eτ1
    refine x_iinc (x := x2) (L := [(2, t), (0, x1), (0, x2), (0, x3), (0, x4)]) d_X12_keyOf_65 rfl (by decide) rfl (fun y2 ey2 => ?_)
    have h := h y2 ey2
    show WP _ _ _ _ _ _ _ _ [(2, t), (0, x1), (0, y2), (0, x3), (0, x4)] _ _ _ _
    refine r_goto (tgt := 2) d_X12_keyOf_68 rfl ?_
    exact x_mask h ⟨Or.inr rfl, Or.inr rfl, Or.inr rfl, Or.inl rfl, Or.inl rfl, trivial⟩
  · have h := h.2 hc
    refine r_aload_n (x := t) d_X12_keyOf_22 rfl o_t.1 ?_
    refine r_getf (j := 9) (t := 2) (x := t_ranks) d_X12_keyOf_23 kX12 (by decide) fl_X12_33 o_t.1 o_t.2.1 o_t.2.2.1 o_t.2.2.2 rfl f_t_ranks ?_
    refine r_iload (x := x4) d_X12_keyOf_26 rfl ?_
    refine r_iconst (x := 1) d_X12_keyOf_28 ⟨by decide, by decide⟩ ?_
    refine r_isub d_X12_keyOf_29 ?_
    refine x_iald d_X12_keyOf_30 h.1 ?_
    have h := h.2
    refine r_iload_n (x := x3) d_X12_keyOf_31 rfl ?_
    refine r_ic_le (tgt := 57) d_X12_keyOf_32 rfl (fun hc => ?_) (fun hc => ?_)
    · have h := h.1 hc
      refine r_aload_n (x := t) d_X12_keyOf_57 rfl o_t.1 ?_
      refine r_getf (j := 9) (t := 2) (x := t_ranks) d_X12_keyOf_58 kX12 (by decide) fl_X12_33 o_t.1 o_t.2.1 o_t.2.2.1 o_t.2.2.2 rfl f_t_ranks ?_
      refine r_iload (x := x4) d_X12_keyOf_61 rfl ?_
      refine r_iload_n (x := x3) d_X12_keyOf_63 rfl ?_
      refine x_iast d_X12_keyOf_64 h.1 ?_
      have h := h.2
      refine r_nmM (fun τ3 eτ3 => ?_)
      have h := h τ3 eτ3
      refine x_iinc (x := x2) (L := [(2, t), (0, x1), (0, x2), (0, x3), (0, x4)]) d_X12_keyOf_65 rfl (by decide) rfl (fun y4 ey4 => ?_)
      have h := h y4 ey4
      show WP _ _ _ _ _ _ _ _ [(2, t), (0, x1), (0, y4), (0, x3), (0, x4)] _ _ _ _
      refine r_goto (tgt := 2) d_X12_keyOf_68 rfl ?_
      exact x_mask h ⟨Or.inr rfl, Or.inr rfl, Or.inr rfl, Or.inl rfl, Or.inl rfl, trivial⟩
    · have h := h.2 hc
      refine r_aload_n (x := t) d_X12_keyOf_35 rfl o_t.1 ?_
      refine r_getf (j := 9) (t := 2) (x := t_ranks) d_X12_keyOf_36 kX12 (by decide) fl_X12_33 o_t.1 o_t.2.1 o_t.2.2.1 o_t.2.2.2 rfl f_t_ranks ?_
      refine r_iload (x := x4) d_X12_keyOf_39 rfl ?_
      refine r_aload_n (x := t) d_X12_keyOf_41 rfl o_t.1 ?_
      refine r_getf (j := 9) (t := 2) (x := t_ranks) d_X12_keyOf_42 kX12 (by decide) fl_X12_33 o_t.1 o_t.2.1 o_t.2.2.1 o_t.2.2.2 rfl f_t_ranks ?_
      refine r_iload (x := x4) d_X12_keyOf_45 rfl ?_
      refine r_iconst (x := 1) d_X12_keyOf_47 ⟨by decide, by decide⟩ ?_
      refine r_isub d_X12_keyOf_48 ?_
      refine x_iald d_X12_keyOf_49 h.1 ?_
      have h := h.2
      refine x_iast d_X12_keyOf_50 h.1 ?_
      have h := h.2
      refine r_nmM (fun τ5 eτ5 => ?_)
      have h := h τ5 eτ5
      refine x_iinc (x := x4) (L := [(2, t), (0, x1), (0, x2), (0, x3), (0, x4)]) d_X12_keyOf_51 rfl (by decide) rfl (fun y6 ey6 => ?_)
      have h := h y6 ey6
      show WP _ _ _ _ _ _ _ _ [(2, t), (0, x1), (0, x2), (0, x3), (0, y6)] _ _ _ _
      refine r_goto (tgt := 17) d_X12_keyOf_54 rfl ?_
      exact h
theorem v_X12_keyOf_75 {l : Launch} {d N : Nat} {Λ : Lay} {P : Int → Mem → Prop} {σ : Mem} {x1 x2 x3 t t_ranks : Int} (o_t : Ob N Λ t 21 36) (f_t_ranks : (Λ t).2.2 9 = t_ranks)
    (h : ((4 ≤ x3 → P x2 σ) ∧ (¬ (4 ≤ x3) → ((x1 ≤ x3 → (∀ y1, y1 = (addI (mulI 121 x2) 0) → (∀ y2, y2 = addI x3 1 → WI l mX12_keyOf d P 75 [(2, t), (0, x1), (0, y1), (0, y2), (3, 0)] [] N Λ σ))) ∧ (¬ (x1 ≤ x3) → (Ix N Λ t_ranks 0 x3 ∧ (∀ y3, y3 = (addI (mulI 121 x2) (σ t_ranks x3)) → (∀ y4, y4 = addI x3 1 → WI l mX12_keyOf d P 75 [(2, t), (0, x1), (0, y3), (0, y4), (3, 0)] [] N Λ σ)))))))) :
    WI l mX12_keyOf d P 75 [(2, t), (0, x1), (0, x2), (0, x3), (3, 0)] [] N Λ σ := by
  refine r_iload_n (x := x3) d_X12_keyOf_75 rfl ?_
  refine r_iconst (x := 4) d_X12_keyOf_76 ⟨by decide, by decide⟩ ?_
  refine r_ic_ge (tgt := 107) d_X12_keyOf_77 rfl (fun hc => ?_) (fun hc => ?_)
  · have h := h.1 hc
    refine r_iload_n (x := x2) d_X12_keyOf_107 rfl ?_
    exact r_iret d_X12_keyOf_108 rfl rfl (Nat.le_refl 0) (Nat.le_refl 0) ⟨_, rfl, rfl, rfl, h⟩
  · have h := h.2 hc
    refine r_bipush (x := 121) d_X12_keyOf_80 ⟨by decide, by decide⟩ (by decide) ?_
    refine r_iload_n (x := x2) d_X12_keyOf_82 rfl ?_
    refine r_imul d_X12_keyOf_83 ?_
    refine r_iload_n (x := x3) d_X12_keyOf_84 rfl ?_
    refine r_iload_n (x := x1) d_X12_keyOf_85 rfl ?_
    refine r_ic_ge (tgt := 98) d_X12_keyOf_86 rfl (fun hc => ?_) (fun hc => ?_)
    · have h := h.1 hc
      refine r_iconst (x := 0) d_X12_keyOf_98 ⟨by decide, by decide⟩ ?_
      refine r_iadd d_X12_keyOf_99 ?_
      refine r_nm (fun y1 ey1 => ?_)
      have h := h y1 ey1
      refine r_istore_n (L2 := [(2, t), (0, x1), (0, y1), (0, x3), (3, 0)]) d_X12_keyOf_100 (by decide) rfl rfl ?_
      refine x_iinc (x := x3) (L := [(2, t), (0, x1), (0, y1), (0, x3), (3, 0)]) d_X12_keyOf_101 rfl (by decide) rfl (fun y2 ey2 => ?_)
      have h := h y2 ey2
      show WP _ _ _ _ _ _ _ _ [(2, t), (0, x1), (0, y1), (0, y2), (3, 0)] _ _ _ _
      refine r_goto (tgt := 75) d_X12_keyOf_104 rfl ?_
      exact h
    · have h := h.2 hc
      refine r_aload_n (x := t) d_X12_keyOf_89 rfl o_t.1 ?_
      refine r_getf (j := 9) (t := 2) (x := t_ranks) d_X12_keyOf_90 kX12 (by decide) fl_X12_33 o_t.1 o_t.2.1 o_t.2.2.1 o_t.2.2.2 rfl f_t_ranks ?_
      refine r_iload_n (x := x3) d_X12_keyOf_93 rfl ?_
      refine x_iald d_X12_keyOf_94 h.1 ?_
      have h := h.2
      refine r_goto (tgt := 99) d_X12_keyOf_95 rfl ?_
      refine r_iadd d_X12_keyOf_99 ?_
      refine r_nm (fun y3 ey3 => ?_)
      have h := h y3 ey3
      refine r_istore_n (L2 := [(2, t), (0, x1), (0, y3), (0, x3), (3, 0)]) d_X12_keyOf_100 (by decide) rfl rfl ?_
      refine x_iinc (x := x3) (L := [(2, t), (0, x1), (0, y3), (0, x3), (3, 0)]) d_X12_keyOf_101 rfl (by decide) rfl (fun y4 ey4 => ?_)
      have h := h y4 ey4
      show WP _ _ _ _ _ _ _ _ [(2, t), (0, x1), (0, y3), (0, y4), (3, 0)] _ _ _ _
      refine r_goto (tgt := 75) d_X12_keyOf_104 rfl ?_
      exact h
theorem v_X12_keyTimes_0 {l : Launch} {d N : Nat} {Λ : Lay} {P : Int → Mem → Prop} {σ : Mem} {x1 x2 t : Int} (o_t : Ob N Λ t 21 36) (h0d : 1 ≤ d)
    (h : (CI l mX12_degreeOf (d - 1) [(0, x1)] N Λ σ (fun v2 σ1 => (CI l mX12_degreeOf (d - 1) [(0, x2)] N Λ σ1 (fun v4 σ3 => (((addI v2 v4) ≤ 4 → WI l mX12_keyTimes d P 43 [(2, t), (0, x1), (0, x2), (0, v2), (0, v4), (0, 0)] [] N Λ σ3) ∧ (¬ ((addI v2 v4) ≤ 4) → ((¬ (σ3 t 8) = 0 → (∀ τ5, τ5 = st σ3 t 8 (σ3 t 8) → P (-1) τ5)) ∧ ((σ3 t 8) = 0 → (∀ τ6, τ6 = st σ3 t 8 2 → P (-1) τ6)))))))))) :
    WI l mX12_keyTimes d P 0 [(2, t), (0, x1), (0, x2), (3, 0), (3, 0), (3, 0)] [] N Λ σ := by
  have hd_1 : 1 ≤ d := Nat.le_trans (by decide) h0d
  refine r_iload_n (x := x1) d_X12_keyTimes_0 rfl ?_
  refine x_callSI (Y2 := mX12_degreeOf) (As := [(0, x1)]) (S := []) d_X12_keyTimes_1 ok_mX12_degreeOf ml_X12_138 rfl (Nat.le_of_ble_eq_true rfl) (Nat.le_of_ble_eq_true rfl) rfl hd_1 (CI.mono h (fun v2 σ1 h => ?_))
  refine r_istore_n (L2 := [(2, t), (0, x1), (0, x2), (0, v2), (3, 0), (3, 0)]) d_X12_keyTimes_4 (by decide) rfl rfl ?_
  refine r_iload_n (x := x2) d_X12_keyTimes_5 rfl ?_
  refine x_callSI (Y2 := mX12_degreeOf) (As := [(0, x2)]) (S := []) d_X12_keyTimes_6 ok_mX12_degreeOf ml_X12_138 rfl (Nat.le_of_ble_eq_true rfl) (Nat.le_of_ble_eq_true rfl) rfl hd_1 (CI.mono h (fun v4 σ3 h => ?_))
  refine r_istore (L2 := [(2, t), (0, x1), (0, x2), (0, v2), (0, v4), (3, 0)]) d_X12_keyTimes_9 (by decide) rfl rfl ?_
  refine r_iload_n (x := v2) d_X12_keyTimes_11 rfl ?_
  refine r_iload (x := v4) d_X12_keyTimes_12 rfl ?_
  refine r_iadd d_X12_keyTimes_14 ?_
  refine r_iconst (x := 4) d_X12_keyTimes_15 ⟨by decide, by decide⟩ ?_
  refine r_ic_le (tgt := 40) d_X12_keyTimes_16 rfl (fun hc => ?_) (fun hc => ?_)
  · have h := h.1 hc
    refine r_iconst (x := 0) d_X12_keyTimes_40 ⟨by decide, by decide⟩ ?_
    refine r_istore (L2 := [(2, t), (0, x1), (0, x2), (0, v2), (0, v4), (0, 0)]) d_X12_keyTimes_41 (by decide) rfl rfl ?_
    exact h
  · have h := h.2 hc
    refine r_aload_n (x := t) d_X12_keyTimes_19 rfl o_t.1 ?_
    refine r_aload_n (x := t) d_X12_keyTimes_20 rfl o_t.1 ?_
    refine r_getf (j := 8) (t := 0) (x := (σ3 t 8)) d_X12_keyTimes_21 kX12 (by decide) fl_X12_102 o_t.1 o_t.2.1 o_t.2.2.1 o_t.2.2.2 rfl rfl ?_
    refine r_if_ne (tgt := 31) d_X12_keyTimes_24 rfl (fun hc => ?_) (fun hc => ?_)
    · have h := h.1 hc
      refine r_aload_n (x := t) d_X12_keyTimes_31 rfl o_t.1 ?_
      refine r_getf (j := 8) (t := 0) (x := (σ3 t 8)) d_X12_keyTimes_32 kX12 (by decide) fl_X12_102 o_t.1 o_t.2.1 o_t.2.2.1 o_t.2.2.2 rfl rfl ?_
      refine r_putI (j := 8) d_X12_keyTimes_35 kX12 (by decide) fl_X12_102 rfl o_t.1 o_t.2.1 o_t.2.2.1 o_t.2.2.2 rfl ?_
      refine r_nmM (fun τ5 eτ5 => ?_)
      have h := h τ5 eτ5
      refine r_iconst (x := (-1)) d_X12_keyTimes_38 ⟨by decide, by decide⟩ ?_
      exact r_iret d_X12_keyTimes_39 rfl rfl (Nat.le_refl 0) (Nat.le_refl 0) ⟨_, rfl, rfl, rfl, h⟩
    · have h := h.2 hc
      refine r_iconst (x := 2) d_X12_keyTimes_27 ⟨by decide, by decide⟩ ?_
      refine r_goto (tgt := 35) d_X12_keyTimes_28 rfl ?_
      refine r_putI (j := 8) d_X12_keyTimes_35 kX12 (by decide) fl_X12_102 rfl o_t.1 o_t.2.1 o_t.2.2.1 o_t.2.2.2 rfl ?_
      refine r_nmM (fun τ6 eτ6 => ?_)
      have h := h τ6 eτ6
      refine r_iconst (x := (-1)) d_X12_keyTimes_38 ⟨by decide, by decide⟩ ?_
      exact r_iret d_X12_keyTimes_39 rfl rfl (Nat.le_refl 0) (Nat.le_refl 0) ⟨_, rfl, rfl, rfl, h⟩
theorem v_X12_keyTimes_43 {l : Launch} {d N : Nat} {Λ : Lay} {P : Int → Mem → Prop} {σ : Mem} {x1 x2 x3 x4 x5 t t_ranks : Int} (o_t : Ob N Λ t 21 36) (f_t_ranks : (Λ t).2.2 9 = t_ranks) (h0d : 1 ≤ d)
    (h : ((x3 ≤ x5 → WI l mX12_keyTimes d P 71 [(2, t), (0, x1), (0, x2), (0, x3), (0, x4), (0, 0)] [] N Λ σ) ∧ (¬ (x3 ≤ x5) → (CI l mX12_rankIn (d - 1) [(0, x1), (0, x5)] N Λ σ (fun v2 σ1 => (Ix N Λ t_ranks 0 x5 ∧ (∀ τ3, τ3 = st σ1 t_ranks x5 v2 → (∀ y4, y4 = addI x5 1 → WI l mX12_keyTimes d P 43 [(2, t), (0, x1), (0, x2), (0, x3), (0, x4), (0, y4)] [] N Λ τ3)))))))) :
    WI l mX12_keyTimes d P 43 [(2, t), (0, x1), (0, x2), (0, x3), (0, x4), (0, x5)] [] N Λ σ := by
  have hd_1 : 1 ≤ d := Nat.le_trans (by decide) h0d
  refine r_iload (x := x5) d_X12_keyTimes_43 rfl ?_
  refine r_iload_n (x := x3) d_X12_keyTimes_45 rfl ?_
  refine r_ic_ge (tgt := 68) d_X12_keyTimes_46 rfl (fun hc => ?_) (fun hc => ?_)
  · have h := h.1 hc
    refine r_iconst (x := 0) d_X12_keyTimes_68 ⟨by decide, by decide⟩ ?_
    refine r_istore (L2 := [(2, t), (0, x1), (0, x2), (0, x3), (0, x4), (0, 0)]) d_X12_keyTimes_69 (by decide) rfl rfl ?_
    exact h
  · have h := h.2 hc
    refine r_aload_n (x := t) d_X12_keyTimes_49 rfl o_t.1 ?_
    refine r_getf (j := 9) (t := 2) (x := t_ranks) d_X12_keyTimes_50 kX12 (by decide) fl_X12_33 o_t.1 o_t.2.1 o_t.2.2.1 o_t.2.2.2 rfl f_t_ranks ?_
    refine r_iload (x := x5) d_X12_keyTimes_53 rfl ?_
    refine r_iload_n (x := x1) d_X12_keyTimes_55 rfl ?_
    refine r_iload (x := x5) d_X12_keyTimes_56 rfl ?_
    refine x_callSI (Y2 := mX12_rankIn) (As := [(0, x1), (0, x5)]) (S := [(0, x5), (2, t_ranks)]) d_X12_keyTimes_58 ok_mX12_rankIn ml_X12_135 rfl (Nat.le_of_ble_eq_true rfl) (Nat.le_of_ble_eq_true rfl) rfl hd_1 (CI.mono h (fun v2 σ1 h => ?_))
    refine x_iast d_X12_keyTimes_61 h.1 ?_
    have h := h.2
    refine r_nmM (fun τ3 eτ3 => ?_)
    have h := h τ3 eτ3
    refine x_iinc (x := x5) (L := [(2, t), (0, x1), (0, x2), (0, x3), (0, x4), (0, x5)]) d_X12_keyTimes_62 rfl (by decide) rfl (fun y4 ey4 => ?_)
    have h := h y4 ey4
    show WP _ _ _ _ _ _ _ _ [(2, t), (0, x1), (0, x2), (0, x3), (0, x4), (0, y4)] _ _ _ _
    refine r_goto (tgt := 43) d_X12_keyTimes_65 rfl ?_
    exact h
theorem v_X12_keyTimes_71 {l : Launch} {d N : Nat} {Λ : Lay} {P : Int → Mem → Prop} {σ : Mem} {x1 x2 x3 x4 x5 t t_ranks : Int} (o_t : Ob N Λ t 21 36) (f_t_ranks : (Λ t).2.2 9 = t_ranks) (h0d : 1 ≤ d)
    (h : ((x4 ≤ x5 → (CI l mX12_keyOf (d - 1) [(2, t), (0, (addI x3 x4))] N Λ σ (fun v2 σ1 => P v2 σ1))) ∧ (¬ (x4 ≤ x5) → (CI l mX12_rankIn (d - 1) [(0, x2), (0, x5)] N Λ σ (fun v4 σ3 => (Ix N Λ t_ranks 0 (addI x3 x5) ∧ (∀ τ5, τ5 = st σ3 t_ranks (addI x3 x5) v4 → (∀ y6, y6 = addI x5 1 → WI l mX12_keyTimes d P 71 [(2, t), (0, x1), (0, x2), (0, x3), (0, x4), (0, y6)] [] N Λ τ5)))))))) :
    WI l mX12_keyTimes d P 71 [(2, t), (0, x1), (0, x2), (0, x3), (0, x4), (0, x5)] [] N Λ σ := by
  have hd_1 : 1 ≤ d := Nat.le_trans (by decide) h0d
  refine r_iload (x := x5) d_X12_keyTimes_71 rfl ?_
  refine r_iload (x := x4) d_X12_keyTimes_73 rfl ?_
  refine r_ic_ge (tgt := 99) d_X12_keyTimes_75 rfl (fun hc => ?_) (fun hc => ?_)
  · have h := h.1 hc
    refine r_aload_n (x := t) d_X12_keyTimes_99 rfl o_t.1 ?_
    refine r_iload_n (x := x3) d_X12_keyTimes_100 rfl ?_
    refine r_iload (x := x4) d_X12_keyTimes_101 rfl ?_
    refine r_iadd d_X12_keyTimes_103 ?_
    refine x_callVI (Y2 := mX12_keyOf) (c := t) (As := [(0, (addI x3 x4))]) (S := []) d_X12_keyTimes_104 ok_mX12_keyOf ml_X12_141 rfl (Nat.le_of_ble_eq_true rfl) (Nat.le_of_ble_eq_true rfl) rfl hd_1 kX12 o_t (CI.mono h (fun v2 σ1 h => ?_))
    exact r_iret d_X12_keyTimes_107 rfl rfl (Nat.le_refl 0) (Nat.le_refl 0) ⟨_, rfl, rfl, rfl, h⟩
  · have h := h.2 hc
    refine r_aload_n (x := t) d_X12_keyTimes_78 rfl o_t.1 ?_
    refine r_getf (j := 9) (t := 2) (x := t_ranks) d_X12_keyTimes_79 kX12 (by decide) fl_X12_33 o_t.1 o_t.2.1 o_t.2.2.1 o_t.2.2.2 rfl f_t_ranks ?_
    refine r_iload_n (x := x3) d_X12_keyTimes_82 rfl ?_
    refine r_iload (x := x5) d_X12_keyTimes_83 rfl ?_
    refine r_iadd d_X12_keyTimes_85 ?_
    refine r_iload_n (x := x2) d_X12_keyTimes_86 rfl ?_
    refine r_iload (x := x5) d_X12_keyTimes_87 rfl ?_
    refine x_callSI (Y2 := mX12_rankIn) (As := [(0, x2), (0, x5)]) (S := [(0, (addI x3 x5)), (2, t_ranks)]) d_X12_keyTimes_89 ok_mX12_rankIn ml_X12_135 rfl (Nat.le_of_ble_eq_true rfl) (Nat.le_of_ble_eq_true rfl) rfl hd_1 (CI.mono h (fun v4 σ3 h => ?_))
    refine x_iast d_X12_keyTimes_92 h.1 ?_
    have h := h.2
    refine r_nmM (fun τ5 eτ5 => ?_)
    have h := h τ5 eτ5
    refine x_iinc (x := x5) (L := [(2, t), (0, x1), (0, x2), (0, x3), (0, x4), (0, x5)]) d_X12_keyTimes_93 rfl (by decide) rfl (fun y6 ey6 => ?_)
    have h := h y6 ey6
    show WP _ _ _ _ _ _ _ _ [(2, t), (0, x1), (0, x2), (0, x3), (0, x4), (0, y6)] _ _ _ _
    refine r_goto (tgt := 71) d_X12_keyTimes_96 rfl ?_
    exact h
theorem v_X12_multiplies_0 {l : Launch} {d N : Nat} {Λ : Lay} {P : Mem → Prop} {σ : Mem} {x1 x2 x3 x4 t : Int}
    (h : WV l mX12_multiplies d P 3 [(2, t), (0, x1), (0, x2), (0, x3), (0, x4), (0, 0), (3, 0), (3, 0), (3, 0), (3, 0)] [] N Λ σ) :
    WV l mX12_multiplies d P 0 [(2, t), (0, x1), (0, x2), (0, x3), (0, x4), (3, 0), (3, 0), (3, 0), (3, 0), (3, 0)] [] N Λ σ := by
  refine r_iconst (x := 0) d_X12_multiplies_0 ⟨by decide, by decide⟩ ?_
  refine r_istore (L2 := [(2, t), (0, x1), (0, x2), (0, x3), (0, x4), (0, 0), (3, 0), (3, 0), (3, 0), (3, 0)]) d_X12_multiplies_1 (by decide) rfl rfl ?_
  exact h
theorem v_X12_multiplies_3 {l : Launch} {d N : Nat} {Λ : Lay} {P : Mem → Prop} {σ : Mem} {x1 x2 x3 x4 x5 t t_pool : Int} (o_t : Ob N Λ t 21 36) (f_t_pool : (Λ t).2.2 7 = t_pool) (h0d : 1 ≤ d)
    (h : (Ix N Λ t_pool 0 (mulI 161 x1) ∧ (((σ t_pool (mulI 161 x1)) ≤ x5 → P σ) ∧ (¬ ((σ t_pool (mulI 161 x1)) ≤ x5) → ((¬ (σ t 8) = 0 → P σ) ∧ ((σ t 8) = 0 → WV l mX12_multiplies d P 23 [(2, t), (0, x1), (0, x2), (0, x3), (0, x4), (0, x5), (0, 0), (3, 0), (3, 0), (3, 0)] [] N Λ σ)))))) :
    WV l mX12_multiplies d P 3 [(2, t), (0, x1), (0, x2), (0, x3), (0, x4), (0, x5), (3, 0), (3, 0), (3, 0), (3, 0)] [] N Λ σ := by
  have hd_1 : 1 ≤ d := Nat.le_trans (by decide) h0d
  refine r_iload (x := x5) d_X12_multiplies_3 rfl ?_
  refine r_aload_n (x := t) d_X12_multiplies_5 rfl o_t.1 ?_
  refine r_iload_n (x := x1) d_X12_multiplies_6 rfl ?_
  refine x_callVI (Y2 := mX12_many) (c := t) (As := [(0, x1)]) (S := [(0, x5)]) d_X12_multiplies_7 ok_mX12_many ml_X12_113 rfl (Nat.le_of_ble_eq_true rfl) (Nat.le_of_ble_eq_true rfl) rfl hd_1 kX12 o_t (c_X12_many (v_X12_many_0 o_t f_t_pool ?_))
  refine ⟨h.1, ?_⟩
  have h := h.2
  show WP l mX12_multiplies (rm d 0 0) noX _ 0 0 10 [(2, t), (0, x1), (0, x2), (0, x3), (0, x4), (0, x5), (3, 0), (3, 0), (3, 0), (3, 0)] [(0, (σ t_pool (mulI 161 x1))), (0, x5)] N Λ σ
  refine r_ic_ge (tgt := 127) d_X12_multiplies_10 rfl (fun hc => ?_) (fun hc => ?_)
  · have h := h.1 hc
    exact r_vret d_X12_multiplies_127 rfl (Nat.le_refl 0) (Nat.le_refl 0) ⟨rfl, rfl, rfl, h⟩
  · have h := h.2 hc
    refine r_aload_n (x := t) d_X12_multiplies_13 rfl o_t.1 ?_
    refine r_getf (j := 8) (t := 0) (x := (σ t 8)) d_X12_multiplies_14 kX12 (by decide) fl_X12_102 o_t.1 o_t.2.1 o_t.2.2.1 o_t.2.2.2 rfl rfl ?_
    refine r_if_ne (tgt := 127) d_X12_multiplies_17 rfl (fun hc => ?_) (fun hc => ?_)
    · have h := h.1 hc
      exact r_vret d_X12_multiplies_127 rfl (Nat.le_refl 0) (Nat.le_refl 0) ⟨rfl, rfl, rfl, h⟩
    · have h := h.2 hc
      refine r_iconst (x := 0) d_X12_multiplies_20 ⟨by decide, by decide⟩ ?_
      refine r_istore (L2 := [(2, t), (0, x1), (0, x2), (0, x3), (0, x4), (0, x5), (0, 0), (3, 0), (3, 0), (3, 0)]) d_X12_multiplies_21 (by decide) rfl rfl ?_
      exact h
theorem v_X12_multiplies_23 {l : Launch} {d N : Nat} {Λ : Lay} {P : Mem → Prop} {σ : Mem} {x1 x2 x3 x4 x5 x6 t t_pool : Int} (o_t : Ob N Λ t 21 36) (f_t_pool : (Λ t).2.2 7 = t_pool) (h0d : 2 ≤ d)
    (h : (Ix N Λ t_pool 0 (mulI 161 x2) ∧ (((σ t_pool (mulI 161 x2)) ≤ x6 → (∀ y1, y1 = addI x5 1 → WV l mX12_multiplies d P 3 [(2, t), (0, x1), (0, x2), (0, x3), (0, x4), (0, y1), (3, 0), (3, 0), (3, 0), (3, 0)] [] N Λ σ)) ∧ (¬ ((σ t_pool (mulI 161 x2)) ≤ x6) → ((¬ (σ t 8) = 0 → (∀ y2, y2 = addI x5 1 → WV l mX12_multiplies d P 3 [(2, t), (0, x1), (0, x2), (0, x3), (0, x4), (0, y2), (3, 0), (3, 0), (3, 0), (3, 0)] [] N Λ σ)) ∧ ((σ t 8) = 0 → (Ix N Λ t_pool 0 (addI (addI (mulI 161 x1) 1) (mulI 2 x5)) ∧ (Ix N Λ t_pool 0 (addI (addI (mulI 161 x2) 1) (mulI 2 x6)) ∧ (CI l mX12_keyTimes (d - 1) [(2, t), (0, (σ t_pool (addI (addI (mulI 161 x1) 1) (mulI 2 x5)))), (0, (σ t_pool (addI (addI (mulI 161 x2) 1) (mulI 2 x6))))] N Λ σ (fun v4 σ3 => (((σ3 t 8) = 0 → (Ix N Λ t_pool 0 (addI (addI (mulI 161 x1) 2) (mulI 2 x5)) ∧ (Ix N Λ t_pool 0 (addI (addI (mulI 161 x2) 2) (mulI 2 x6)) ∧ (∀ y5, y5 = (mulL (σ3 t_pool (addI (addI (mulI 161 x1) 2) (mulI 2 x5))) (σ3 t_pool (addI (addI (mulI 161 x2) 2) (mulI 2 x6)))) → (((cmpL y5 (-2147483648)) < 0 → ((¬ (σ3 t 8) = 0 → (CI l mX12_puts (d - 1) [(2, t), (0, x4), (0, v4), (1, (mulL x3 y5))] N Λ σ3 (fun v7 σ6 => (∀ y8, y8 = addI x6 1 → WV l mX12_multiplies d P 23 [(2, t), (0, x1), (0, x2), (0, x3), (0, x4), (0, x5), (0, y8), (3, 0), (3, 0), (3, 0)] [] N Λ σ6)))) ∧ ((σ3 t 8) = 0 → (∀ τ9, τ9 = st σ3 t 8 4 → (CI l mX12_puts (d - 1) [(2, t), (0, x4), (0, v4), (1, (mulL x3 y5))] N Λ τ9 (fun v11 σ10 => (∀ y12, y12 = addI x6 1 → WV l mX12_multiplies d P 23 [(2, t), (0, x1), (0, x2), (0, x3), (0, x4), (0, x5), (0, y12), (3, 0), (3, 0), (3, 0)] [] N Λ σ10))))))) ∧ (¬ ((cmpL y5 (-2147483648)) < 0) → ((0 < (cmpL y5 2147483647) → ((¬ (σ3 t 8) = 0 → (CI l mX12_puts (d - 1) [(2, t), (0, x4), (0, v4), (1, (mulL x3 y5))] N Λ σ3 (fun v14 σ13 => (∀ y15, y15 = addI x6 1 → WV l mX12_multiplies d P 23 [(2, t), (0, x1), (0, x2), (0, x3), (0, x4), (0, x5), (0, y15), (3, 0), (3, 0), (3, 0)] [] N Λ σ13)))) ∧ ((σ3 t 8) = 0 → (∀ τ16, τ16 = st σ3 t 8 4 → (CI l mX12_puts (d - 1) [(2, t), (0, x4), (0, v4), (1, (mulL x3 y5))] N Λ τ16 (fun v18 σ17 => (∀ y19, y19 = addI x6 1 → WV l mX12_multiplies d P 23 [(2, t), (0, x1), (0, x2), (0, x3), (0, x4), (0, x5), (0, y19), (3, 0), (3, 0), (3, 0)] [] N Λ σ17))))))) ∧ (¬ (0 < (cmpL y5 2147483647)) → (CI l mX12_puts (d - 1) [(2, t), (0, x4), (0, v4), (1, (mulL x3 y5))] N Λ σ3 (fun v21 σ20 => (∀ y22, y22 = addI x6 1 → WV l mX12_multiplies d P 23 [(2, t), (0, x1), (0, x2), (0, x3), (0, x4), (0, x5), (0, y22), (3, 0), (3, 0), (3, 0)] [] N Λ σ20))))))))))) ∧ (¬ ((σ3 t 8) = 0) → P σ3)))))))))))) :
    WV l mX12_multiplies d P 23 [(2, t), (0, x1), (0, x2), (0, x3), (0, x4), (0, x5), (0, x6), (3, 0), (3, 0), (3, 0)] [] N Λ σ := by
  have hd_1 : 1 ≤ d := Nat.le_trans (by decide) h0d
  have he_1 : 1 ≤ d - 1 := Nat.le_sub_of_add_le (Nat.le_trans (by decide) h0d)
  refine r_iload (x := x6) d_X12_multiplies_23 rfl ?_
  refine r_aload_n (x := t) d_X12_multiplies_25 rfl o_t.1 ?_
  refine r_iload_n (x := x2) d_X12_multiplies_26 rfl ?_
  refine x_callVI (Y2 := mX12_many) (c := t) (As := [(0, x2)]) (S := [(0, x6)]) d_X12_multiplies_27 ok_mX12_many ml_X12_113 rfl (Nat.le_of_ble_eq_true rfl) (Nat.le_of_ble_eq_true rfl) rfl hd_1 kX12 o_t (c_X12_many (v_X12_many_0 o_t f_t_pool ?_))
  refine ⟨h.1, ?_⟩
  have h := h.2
  show WP l mX12_multiplies (rm d 0 0) noX _ 0 0 30 [(2, t), (0, x1), (0, x2), (0, x3), (0, x4), (0, x5), (0, x6), (3, 0), (3, 0), (3, 0)] [(0, (σ t_pool (mulI 161 x2))), (0, x6)] N Λ σ
  refine r_ic_ge (tgt := 121) d_X12_multiplies_30 rfl (fun hc => ?_) (fun hc => ?_)
  · have h := h.1 hc
    refine x_iinc (x := x5) (L := [(2, t), (0, x1), (0, x2), (0, x3), (0, x4), (0, x5), (0, x6), (3, 0), (3, 0), (3, 0)]) d_X12_multiplies_121 rfl (by decide) rfl (fun y1 ey1 => ?_)
    have h := h y1 ey1
    show WP _ _ _ _ _ _ _ _ [(2, t), (0, x1), (0, x2), (0, x3), (0, x4), (0, y1), (0, x6), (3, 0), (3, 0), (3, 0)] _ _ _ _
    refine r_goto (tgt := 3) d_X12_multiplies_124 rfl ?_
    exact x_mask h ⟨Or.inr rfl, Or.inr rfl, Or.inr rfl, Or.inr rfl, Or.inr rfl, Or.inr rfl, Or.inl rfl, Or.inl rfl, Or.inl rfl, Or.inl rfl, trivial⟩
  · have h := h.2 hc
    refine r_aload_n (x := t) d_X12_multiplies_33 rfl o_t.1 ?_
    refine r_getf (j := 8) (t := 0) (x := (σ t 8)) d_X12_multiplies_34 kX12 (by decide) fl_X12_102 o_t.1 o_t.2.1 o_t.2.2.1 o_t.2.2.2 rfl rfl ?_
    refine r_if_ne (tgt := 121) d_X12_multiplies_37 rfl (fun hc => ?_) (fun hc => ?_)
    · have h := h.1 hc
      refine x_iinc (x := x5) (L := [(2, t), (0, x1), (0, x2), (0, x3), (0, x4), (0, x5), (0, x6), (3, 0), (3, 0), (3, 0)]) d_X12_multiplies_121 rfl (by decide) rfl (fun y2 ey2 => ?_)
      have h := h y2 ey2
      show WP _ _ _ _ _ _ _ _ [(2, t), (0, x1), (0, x2), (0, x3), (0, x4), (0, y2), (0, x6), (3, 0), (3, 0), (3, 0)] _ _ _ _
      refine r_goto (tgt := 3) d_X12_multiplies_124 rfl ?_
      exact x_mask h ⟨Or.inr rfl, Or.inr rfl, Or.inr rfl, Or.inr rfl, Or.inr rfl, Or.inr rfl, Or.inl rfl, Or.inl rfl, Or.inl rfl, Or.inl rfl, trivial⟩
    · have h := h.2 hc
      refine r_aload_n (x := t) d_X12_multiplies_40 rfl o_t.1 ?_
      refine r_aload_n (x := t) d_X12_multiplies_41 rfl o_t.1 ?_
      refine r_iload_n (x := x1) d_X12_multiplies_42 rfl ?_
      refine r_iload (x := x5) d_X12_multiplies_43 rfl ?_
      refine x_callVI (Y2 := mX12_key) (c := t) (As := [(0, x1), (0, x5)]) (S := [(2, t)]) d_X12_multiplies_45 ok_mX12_key ml_X12_117 rfl (Nat.le_of_ble_eq_true rfl) (Nat.le_of_ble_eq_true rfl) rfl hd_1 kX12 o_t (c_X12_key (v_X12_key_0 o_t f_t_pool ?_))
      refine ⟨h.1, ?_⟩
      have h := h.2
      show WP l mX12_multiplies (rm d 0 0) noX _ 0 0 48 [(2, t), (0, x1), (0, x2), (0, x3), (0, x4), (0, x5), (0, x6), (3, 0), (3, 0), (3, 0)] [(0, (σ t_pool (addI (addI (mulI 161 x1) 1) (mulI 2 x5)))), (2, t)] N Λ σ
      refine r_aload_n (x := t) d_X12_multiplies_48 rfl o_t.1 ?_
      refine r_iload_n (x := x2) d_X12_multiplies_49 rfl ?_
      refine r_iload (x := x6) d_X12_multiplies_50 rfl ?_
      refine x_callVI (Y2 := mX12_key) (c := t) (As := [(0, x2), (0, x6)]) (S := [(0, (σ t_pool (addI (addI (mulI 161 x1) 1) (mulI 2 x5)))), (2, t)]) d_X12_multiplies_52 ok_mX12_key ml_X12_117 rfl (Nat.le_of_ble_eq_true rfl) (Nat.le_of_ble_eq_true rfl) rfl hd_1 kX12 o_t (c_X12_key (v_X12_key_0 o_t f_t_pool ?_))
      refine ⟨h.1, ?_⟩
      have h := h.2
      show WP l mX12_multiplies (rm d 0 0) noX _ 0 0 55 [(2, t), (0, x1), (0, x2), (0, x3), (0, x4), (0, x5), (0, x6), (3, 0), (3, 0), (3, 0)] [(0, (σ t_pool (addI (addI (mulI 161 x2) 1) (mulI 2 x6)))), (0, (σ t_pool (addI (addI (mulI 161 x1) 1) (mulI 2 x5)))), (2, t)] N Λ σ
      refine x_callVI (Y2 := mX12_keyTimes) (c := t) (As := [(0, (σ t_pool (addI (addI (mulI 161 x1) 1) (mulI 2 x5)))), (0, (σ t_pool (addI (addI (mulI 161 x2) 1) (mulI 2 x6))))]) (S := []) d_X12_multiplies_55 ok_mX12_keyTimes ml_X12_144 rfl (Nat.le_of_ble_eq_true rfl) (Nat.le_of_ble_eq_true rfl) rfl hd_1 kX12 o_t (CI.mono h (fun v4 σ3 h => ?_))
      refine r_istore (L2 := [(2, t), (0, x1), (0, x2), (0, x3), (0, x4), (0, x5), (0, x6), (0, v4), (3, 0), (3, 0)]) d_X12_multiplies_58 (by decide) rfl rfl ?_
      refine r_aload_n (x := t) d_X12_multiplies_60 rfl o_t.1 ?_
      refine r_getf (j := 8) (t := 0) (x := (σ3 t 8)) d_X12_multiplies_61 kX12 (by decide) fl_X12_102 o_t.1 o_t.2.1 o_t.2.2.1 o_t.2.2.2 rfl rfl ?_
      refine r_if_eq (tgt := 68) d_X12_multiplies_64 rfl (fun hc => ?_) (fun hc => ?_)
      · have h := h.1 hc
        refine r_aload_n (x := t) d_X12_multiplies_68 rfl o_t.1 ?_
        refine r_iload_n (x := x1) d_X12_multiplies_69 rfl ?_
        refine r_iload (x := x5) d_X12_multiplies_70 rfl ?_
        refine x_callVI (Y2 := mX12_number) (c := t) (As := [(0, x1), (0, x5)]) (S := []) d_X12_multiplies_72 ok_mX12_number ml_X12_132 rfl (Nat.le_of_ble_eq_true rfl) (Nat.le_of_ble_eq_true rfl) rfl hd_1 kX12 o_t (c_X12_number (v_X12_number_0 o_t f_t_pool ?_))
        refine ⟨h.1, ?_⟩
        have h := h.2
        show WP l mX12_multiplies (rm d 0 0) noX _ 0 0 75 [(2, t), (0, x1), (0, x2), (0, x3), (0, x4), (0, x5), (0, x6), (0, v4), (3, 0), (3, 0)] [(0, (σ3 t_pool (addI (addI (mulI 161 x1) 2) (mulI 2 x5))))] N Λ σ3
        refine r_i2l d_X12_multiplies_75 ?_
        refine r_aload_n (x := t) d_X12_multiplies_76 rfl o_t.1 ?_
        refine r_iload_n (x := x2) d_X12_multiplies_77 rfl ?_
        refine r_iload (x := x6) d_X12_multiplies_78 rfl ?_
        refine x_callVI (Y2 := mX12_number) (c := t) (As := [(0, x2), (0, x6)]) (S := [(1, (σ3 t_pool (addI (addI (mulI 161 x1) 2) (mulI 2 x5))))]) d_X12_multiplies_80 ok_mX12_number ml_X12_132 rfl (Nat.le_of_ble_eq_true rfl) (Nat.le_of_ble_eq_true rfl) rfl hd_1 kX12 o_t (c_X12_number (v_X12_number_0 o_t f_t_pool ?_))
        refine ⟨h.1, ?_⟩
        have h := h.2
        show WP l mX12_multiplies (rm d 0 0) noX _ 0 0 83 [(2, t), (0, x1), (0, x2), (0, x3), (0, x4), (0, x5), (0, x6), (0, v4), (3, 0), (3, 0)] [(0, (σ3 t_pool (addI (addI (mulI 161 x2) 2) (mulI 2 x6)))), (1, (σ3 t_pool (addI (addI (mulI 161 x1) 2) (mulI 2 x5))))] N Λ σ3
        refine r_i2l d_X12_multiplies_83 ?_
        refine r_lmul d_X12_multiplies_84 ?_
        refine r_nm (fun y5 ey5 => ?_)
        have h := h y5 ey5
        refine r_lstore (L2 := [(2, t), (0, x1), (0, x2), (0, x3), (0, x4), (0, x5), (0, x6), (0, v4), (1, y5), (3, 0)]) d_X12_multiplies_85 (by decide) rfl rfl ?_
        refine r_lload (x := y5) d_X12_multiplies_87 rfl ?_
        refine x_callSI (Y2 := mX12_isInt) (As := [(1, y5)]) (S := []) d_X12_multiplies_89 ok_mX12_isInt ml_X12_121 rfl (Nat.le_of_ble_eq_true rfl) (Nat.le_of_ble_eq_true rfl) rfl hd_1 (c_X12_isInt (v_X12_isInt_0 he_1 ?_))
        refine ⟨fun hc => ?_, fun hc => ?_⟩
        · have h := h.1 hc
          show WP l mX12_multiplies (rm d 0 0) noX _ 0 0 92 [(2, t), (0, x1), (0, x2), (0, x3), (0, x4), (0, x5), (0, x6), (0, v4), (1, y5), (3, 0)] [(0, 0)] N Λ σ3
          refine r_if_ne (tgt := 101) d_X12_multiplies_92 rfl (fun hc => absurd hc (by decide)) (fun _ => ?_)
          refine r_aload_n (x := t) d_X12_multiplies_95 rfl o_t.1 ?_
          refine r_iconst (x := 4) d_X12_multiplies_96 ⟨by decide, by decide⟩ ?_
          refine x_callVI (Y2 := mX12_fails) (c := t) (As := [(0, 4)]) (S := []) d_X12_multiplies_97 ok_mX12_fails ml_X12_125 rfl (Nat.le_of_ble_eq_true rfl) (Nat.le_of_ble_eq_true rfl) rfl hd_1 kX12 o_t (c_X12_fails (v_X12_fails_0 o_t ?_))
          refine ⟨fun hc => ?_, fun hc => ?_⟩
          · have h := h.1 hc
            show WP l mX12_multiplies (rm d 0 0) noX _ 0 0 100 [(2, t), (0, x1), (0, x2), (0, x3), (0, x4), (0, x5), (0, x6), (0, v4), (1, y5), (3, 0)] [(0, 0)] N Λ σ3
            refine r_pop d_X12_multiplies_100 rfl ?_
            refine r_aload_n (x := t) d_X12_multiplies_101 rfl o_t.1 ?_
            refine r_iload (x := x4) d_X12_multiplies_102 rfl ?_
            refine r_iload (x := v4) d_X12_multiplies_104 rfl ?_
            refine r_iload_n (x := x3) d_X12_multiplies_106 rfl ?_
            refine r_i2l d_X12_multiplies_107 ?_
            refine r_lload (x := y5) d_X12_multiplies_108 rfl ?_
            refine r_lmul d_X12_multiplies_110 ?_
            refine x_callVI (Y2 := mX12_puts) (c := t) (As := [(0, x4), (0, v4), (1, (mulL x3 y5))]) (S := []) d_X12_multiplies_111 ok_mX12_puts ml_X12_147 rfl (Nat.le_of_ble_eq_true rfl) (Nat.le_of_ble_eq_true rfl) rfl hd_1 kX12 o_t (CI.mono h (fun v7 σ6 h => ?_))
            refine r_pop d_X12_multiplies_114 rfl ?_
            refine x_iinc (x := x6) (L := [(2, t), (0, x1), (0, x2), (0, x3), (0, x4), (0, x5), (0, x6), (0, v4), (1, y5), (3, 0)]) d_X12_multiplies_115 rfl (by decide) rfl (fun y8 ey8 => ?_)
            have h := h y8 ey8
            show WP _ _ _ _ _ _ _ _ [(2, t), (0, x1), (0, x2), (0, x3), (0, x4), (0, x5), (0, y8), (0, v4), (1, y5), (3, 0)] _ _ _ _
            refine r_goto (tgt := 23) d_X12_multiplies_118 rfl ?_
            exact x_mask h ⟨Or.inr rfl, Or.inr rfl, Or.inr rfl, Or.inr rfl, Or.inr rfl, Or.inr rfl, Or.inr rfl, Or.inl rfl, Or.inl rfl, Or.inl rfl, trivial⟩
          · have h := h.2 hc
            intro τ9 eτ9
            have h := h τ9 eτ9
            show WP l mX12_multiplies (rm d 0 0) noX _ 0 0 100 [(2, t), (0, x1), (0, x2), (0, x3), (0, x4), (0, x5), (0, x6), (0, v4), (1, y5), (3, 0)] [(0, 0)] N Λ τ9
            refine r_pop d_X12_multiplies_100 rfl ?_
            refine r_aload_n (x := t) d_X12_multiplies_101 rfl o_t.1 ?_
            refine r_iload (x := x4) d_X12_multiplies_102 rfl ?_
            refine r_iload (x := v4) d_X12_multiplies_104 rfl ?_
            refine r_iload_n (x := x3) d_X12_multiplies_106 rfl ?_
            refine r_i2l d_X12_multiplies_107 ?_
            refine r_lload (x := y5) d_X12_multiplies_108 rfl ?_
            refine r_lmul d_X12_multiplies_110 ?_
            refine x_callVI (Y2 := mX12_puts) (c := t) (As := [(0, x4), (0, v4), (1, (mulL x3 y5))]) (S := []) d_X12_multiplies_111 ok_mX12_puts ml_X12_147 rfl (Nat.le_of_ble_eq_true rfl) (Nat.le_of_ble_eq_true rfl) rfl hd_1 kX12 o_t (CI.mono h (fun v11 σ10 h => ?_))
            refine r_pop d_X12_multiplies_114 rfl ?_
            refine x_iinc (x := x6) (L := [(2, t), (0, x1), (0, x2), (0, x3), (0, x4), (0, x5), (0, x6), (0, v4), (1, y5), (3, 0)]) d_X12_multiplies_115 rfl (by decide) rfl (fun y12 ey12 => ?_)
            have h := h y12 ey12
            show WP _ _ _ _ _ _ _ _ [(2, t), (0, x1), (0, x2), (0, x3), (0, x4), (0, x5), (0, y12), (0, v4), (1, y5), (3, 0)] _ _ _ _
            refine r_goto (tgt := 23) d_X12_multiplies_118 rfl ?_
            exact x_mask h ⟨Or.inr rfl, Or.inr rfl, Or.inr rfl, Or.inr rfl, Or.inr rfl, Or.inr rfl, Or.inr rfl, Or.inl rfl, Or.inl rfl, Or.inl rfl, trivial⟩
        · have h := h.2 hc
          refine ⟨fun hc => ?_, fun hc => ?_⟩
          · have h := h.1 hc
            show WP l mX12_multiplies (rm d 0 0) noX _ 0 0 92 [(2, t), (0, x1), (0, x2), (0, x3), (0, x4), (0, x5), (0, x6), (0, v4), (1, y5), (3, 0)] [(0, 0)] N Λ σ3
            refine r_if_ne (tgt := 101) d_X12_multiplies_92 rfl (fun hc => absurd hc (by decide)) (fun _ => ?_)
            refine r_aload_n (x := t) d_X12_multiplies_95 rfl o_t.1 ?_
            refine r_iconst (x := 4) d_X12_multiplies_96 ⟨by decide, by decide⟩ ?_
            refine x_callVI (Y2 := mX12_fails) (c := t) (As := [(0, 4)]) (S := []) d_X12_multiplies_97 ok_mX12_fails ml_X12_125 rfl (Nat.le_of_ble_eq_true rfl) (Nat.le_of_ble_eq_true rfl) rfl hd_1 kX12 o_t (c_X12_fails (v_X12_fails_0 o_t ?_))
            refine ⟨fun hc => ?_, fun hc => ?_⟩
            · have h := h.1 hc
              show WP l mX12_multiplies (rm d 0 0) noX _ 0 0 100 [(2, t), (0, x1), (0, x2), (0, x3), (0, x4), (0, x5), (0, x6), (0, v4), (1, y5), (3, 0)] [(0, 0)] N Λ σ3
              refine r_pop d_X12_multiplies_100 rfl ?_
              refine r_aload_n (x := t) d_X12_multiplies_101 rfl o_t.1 ?_
              refine r_iload (x := x4) d_X12_multiplies_102 rfl ?_
              refine r_iload (x := v4) d_X12_multiplies_104 rfl ?_
              refine r_iload_n (x := x3) d_X12_multiplies_106 rfl ?_
              refine r_i2l d_X12_multiplies_107 ?_
              refine r_lload (x := y5) d_X12_multiplies_108 rfl ?_
              refine r_lmul d_X12_multiplies_110 ?_
              refine x_callVI (Y2 := mX12_puts) (c := t) (As := [(0, x4), (0, v4), (1, (mulL x3 y5))]) (S := []) d_X12_multiplies_111 ok_mX12_puts ml_X12_147 rfl (Nat.le_of_ble_eq_true rfl) (Nat.le_of_ble_eq_true rfl) rfl hd_1 kX12 o_t (CI.mono h (fun v14 σ13 h => ?_))
              refine r_pop d_X12_multiplies_114 rfl ?_
              refine x_iinc (x := x6) (L := [(2, t), (0, x1), (0, x2), (0, x3), (0, x4), (0, x5), (0, x6), (0, v4), (1, y5), (3, 0)]) d_X12_multiplies_115 rfl (by decide) rfl (fun y15 ey15 => ?_)
              have h := h y15 ey15
              show WP _ _ _ _ _ _ _ _ [(2, t), (0, x1), (0, x2), (0, x3), (0, x4), (0, x5), (0, y15), (0, v4), (1, y5), (3, 0)] _ _ _ _
              refine r_goto (tgt := 23) d_X12_multiplies_118 rfl ?_
              exact x_mask h ⟨Or.inr rfl, Or.inr rfl, Or.inr rfl, Or.inr rfl, Or.inr rfl, Or.inr rfl, Or.inr rfl, Or.inl rfl, Or.inl rfl, Or.inl rfl, trivial⟩
            · have h := h.2 hc
              intro τ16 eτ16
              have h := h τ16 eτ16
              show WP l mX12_multiplies (rm d 0 0) noX _ 0 0 100 [(2, t), (0, x1), (0, x2), (0, x3), (0, x4), (0, x5), (0, x6), (0, v4), (1, y5), (3, 0)] [(0, 0)] N Λ τ16
              refine r_pop d_X12_multiplies_100 rfl ?_
              refine r_aload_n (x := t) d_X12_multiplies_101 rfl o_t.1 ?_
              refine r_iload (x := x4) d_X12_multiplies_102 rfl ?_
              refine r_iload (x := v4) d_X12_multiplies_104 rfl ?_
              refine r_iload_n (x := x3) d_X12_multiplies_106 rfl ?_
              refine r_i2l d_X12_multiplies_107 ?_
              refine r_lload (x := y5) d_X12_multiplies_108 rfl ?_
              refine r_lmul d_X12_multiplies_110 ?_
              refine x_callVI (Y2 := mX12_puts) (c := t) (As := [(0, x4), (0, v4), (1, (mulL x3 y5))]) (S := []) d_X12_multiplies_111 ok_mX12_puts ml_X12_147 rfl (Nat.le_of_ble_eq_true rfl) (Nat.le_of_ble_eq_true rfl) rfl hd_1 kX12 o_t (CI.mono h (fun v18 σ17 h => ?_))
              refine r_pop d_X12_multiplies_114 rfl ?_
              refine x_iinc (x := x6) (L := [(2, t), (0, x1), (0, x2), (0, x3), (0, x4), (0, x5), (0, x6), (0, v4), (1, y5), (3, 0)]) d_X12_multiplies_115 rfl (by decide) rfl (fun y19 ey19 => ?_)
              have h := h y19 ey19
              show WP _ _ _ _ _ _ _ _ [(2, t), (0, x1), (0, x2), (0, x3), (0, x4), (0, x5), (0, y19), (0, v4), (1, y5), (3, 0)] _ _ _ _
              refine r_goto (tgt := 23) d_X12_multiplies_118 rfl ?_
              exact x_mask h ⟨Or.inr rfl, Or.inr rfl, Or.inr rfl, Or.inr rfl, Or.inr rfl, Or.inr rfl, Or.inr rfl, Or.inl rfl, Or.inl rfl, Or.inl rfl, trivial⟩
          · have h := h.2 hc
            show WP l mX12_multiplies (rm d 0 0) noX _ 0 0 92 [(2, t), (0, x1), (0, x2), (0, x3), (0, x4), (0, x5), (0, x6), (0, v4), (1, y5), (3, 0)] [(0, 1)] N Λ σ3
            refine r_if_ne (tgt := 101) d_X12_multiplies_92 rfl (fun _ => ?_) (fun hc => absurd hc (by decide))
            refine r_aload_n (x := t) d_X12_multiplies_101 rfl o_t.1 ?_
            refine r_iload (x := x4) d_X12_multiplies_102 rfl ?_
            refine r_iload (x := v4) d_X12_multiplies_104 rfl ?_
            refine r_iload_n (x := x3) d_X12_multiplies_106 rfl ?_
            refine r_i2l d_X12_multiplies_107 ?_
            refine r_lload (x := y5) d_X12_multiplies_108 rfl ?_
            refine r_lmul d_X12_multiplies_110 ?_
            refine x_callVI (Y2 := mX12_puts) (c := t) (As := [(0, x4), (0, v4), (1, (mulL x3 y5))]) (S := []) d_X12_multiplies_111 ok_mX12_puts ml_X12_147 rfl (Nat.le_of_ble_eq_true rfl) (Nat.le_of_ble_eq_true rfl) rfl hd_1 kX12 o_t (CI.mono h (fun v21 σ20 h => ?_))
            refine r_pop d_X12_multiplies_114 rfl ?_
            refine x_iinc (x := x6) (L := [(2, t), (0, x1), (0, x2), (0, x3), (0, x4), (0, x5), (0, x6), (0, v4), (1, y5), (3, 0)]) d_X12_multiplies_115 rfl (by decide) rfl (fun y22 ey22 => ?_)
            have h := h y22 ey22
            show WP _ _ _ _ _ _ _ _ [(2, t), (0, x1), (0, x2), (0, x3), (0, x4), (0, x5), (0, y22), (0, v4), (1, y5), (3, 0)] _ _ _ _
            refine r_goto (tgt := 23) d_X12_multiplies_118 rfl ?_
            exact x_mask h ⟨Or.inr rfl, Or.inr rfl, Or.inr rfl, Or.inr rfl, Or.inr rfl, Or.inr rfl, Or.inr rfl, Or.inl rfl, Or.inl rfl, Or.inl rfl, trivial⟩
      · have h := h.2 hc
        exact r_vret d_X12_multiplies_67 rfl (Nat.le_refl 0) (Nat.le_refl 0) ⟨rfl, rfl, rfl, h⟩
theorem v_X12_breakOf_0 {l : Launch} {d N : Nat} {Λ : Lay} {P : Int → Mem → Prop} {σ : Mem} {x1 x2 t : Int}
    (h : WI l mX12_breakOf d P 2 [(2, t), (0, x1), (0, x2), (0, 0)] [] N Λ σ) :
    WI l mX12_breakOf d P 0 [(2, t), (0, x1), (0, x2), (3, 0)] [] N Λ σ := by
  refine r_iconst (x := 0) d_X12_breakOf_0 ⟨by decide, by decide⟩ ?_
  refine r_istore_n (L2 := [(2, t), (0, x1), (0, x2), (0, 0)]) d_X12_breakOf_1 (by decide) rfl rfl ?_
  exact h
theorem v_X12_breakOf_2 {l : Launch} {d N : Nat} {Λ : Lay} {P : Int → Mem → Prop} {σ : Mem} {x1 x2 x3 t t_letterOf : Int} (o_t : Ob N Λ t 21 36) (f_t_letterOf : (Λ t).2.2 2 = t_letterOf)
    (h : ((3 ≤ x3 → P (-1) σ) ∧ (¬ (3 ≤ x3) → (Ix N Λ t_letterOf 0 (addI (mulI 3 x1) x3) ∧ (Ix N Λ t_letterOf 0 (addI (mulI 3 x2) x3) ∧ (((σ t_letterOf (addI (mulI 3 x1) x3)) ≤ (σ t_letterOf (addI (mulI 3 x2) x3)) → (∀ y1, y1 = addI x3 1 → WI l mX12_breakOf d P 2 [(2, t), (0, x1), (0, x2), (0, y1)] [] N Λ σ)) ∧ (¬ ((σ t_letterOf (addI (mulI 3 x1) x3)) ≤ (σ t_letterOf (addI (mulI 3 x2) x3))) → P (addI x3 1) σ))))))) :
    WI l mX12_breakOf d P 2 [(2, t), (0, x1), (0, x2), (0, x3)] [] N Λ σ := by
  refine r_iload_n (x := x3) d_X12_breakOf_2 rfl ?_
  refine r_iconst (x := 3) d_X12_breakOf_3 ⟨by decide, by decide⟩ ?_
  refine r_ic_ge (tgt := 40) d_X12_breakOf_4 rfl (fun hc => ?_) (fun hc => ?_)
  · have h := h.1 hc
    refine r_iconst (x := (-1)) d_X12_breakOf_40 ⟨by decide, by decide⟩ ?_
    exact r_iret d_X12_breakOf_41 rfl rfl (Nat.le_refl 0) (Nat.le_refl 0) ⟨_, rfl, rfl, rfl, h⟩
  · have h := h.2 hc
    refine r_aload_n (x := t) d_X12_breakOf_7 rfl o_t.1 ?_
    refine r_getf (j := 2) (t := 2) (x := t_letterOf) d_X12_breakOf_8 kX12 (by decide) fl_X12_17 o_t.1 o_t.2.1 o_t.2.2.1 o_t.2.2.2 rfl f_t_letterOf ?_
    refine r_iconst (x := 3) d_X12_breakOf_11 ⟨by decide, by decide⟩ ?_
    refine r_iload_n (x := x1) d_X12_breakOf_12 rfl ?_
    refine r_imul d_X12_breakOf_13 ?_
    refine r_iload_n (x := x3) d_X12_breakOf_14 rfl ?_
    refine r_iadd d_X12_breakOf_15 ?_
    refine x_iald d_X12_breakOf_16 h.1 ?_
    have h := h.2
    refine r_aload_n (x := t) d_X12_breakOf_17 rfl o_t.1 ?_
    refine r_getf (j := 2) (t := 2) (x := t_letterOf) d_X12_breakOf_18 kX12 (by decide) fl_X12_17 o_t.1 o_t.2.1 o_t.2.2.1 o_t.2.2.2 rfl f_t_letterOf ?_
    refine r_iconst (x := 3) d_X12_breakOf_21 ⟨by decide, by decide⟩ ?_
    refine r_iload_n (x := x2) d_X12_breakOf_22 rfl ?_
    refine r_imul d_X12_breakOf_23 ?_
    refine r_iload_n (x := x3) d_X12_breakOf_24 rfl ?_
    refine r_iadd d_X12_breakOf_25 ?_
    refine x_iald d_X12_breakOf_26 h.1 ?_
    have h := h.2
    refine r_ic_le (tgt := 34) d_X12_breakOf_27 rfl (fun hc => ?_) (fun hc => ?_)
    · have h := h.1 hc
      refine x_iinc (x := x3) (L := [(2, t), (0, x1), (0, x2), (0, x3)]) d_X12_breakOf_34 rfl (by decide) rfl (fun y1 ey1 => ?_)
      have h := h y1 ey1
      show WP _ _ _ _ _ _ _ _ [(2, t), (0, x1), (0, x2), (0, y1)] _ _ _ _
      refine r_goto (tgt := 2) d_X12_breakOf_37 rfl ?_
      exact h
    · have h := h.2 hc
      refine r_iload_n (x := x3) d_X12_breakOf_30 rfl ?_
      refine r_iconst (x := 1) d_X12_breakOf_31 ⟨by decide, by decide⟩ ?_
      refine r_iadd d_X12_breakOf_32 ?_
      exact r_iret d_X12_breakOf_33 rfl rfl (Nat.le_refl 0) (Nat.le_refl 0) ⟨_, rfl, rfl, rfl, h⟩
theorem v_X12_isBroken_0 {l : Launch} {d N : Nat} {Λ : Lay} {P : Int → Mem → Prop} {σ : Mem} {x1 x2 t : Int} (o_t : Ob N Λ t 21 36) (h0d : 1 ≤ d)
    (h : (CI l mX12_breakOf (d - 1) [(2, t), (0, x1), (0, x2)] N Λ σ (fun v2 σ1 => ((v2 = (-1) → P 0 σ1) ∧ (¬ (v2 = (-1)) → P 1 σ1))))) :
    WI l mX12_isBroken d P 0 [(2, t), (0, x1), (0, x2)] [] N Λ σ := by
  have hd_1 : 1 ≤ d := Nat.le_trans (by decide) h0d
  refine r_aload_n (x := t) d_X12_isBroken_0 rfl o_t.1 ?_
  refine r_iload_n (x := x1) d_X12_isBroken_1 rfl ?_
  refine r_iload_n (x := x2) d_X12_isBroken_2 rfl ?_
  refine x_callVI (Y2 := mX12_breakOf) (c := t) (As := [(0, x1), (0, x2)]) (S := []) d_X12_isBroken_3 ok_mX12_breakOf ml_X12_151 rfl (Nat.le_of_ble_eq_true rfl) (Nat.le_of_ble_eq_true rfl) rfl hd_1 kX12 o_t (CI.mono h (fun v2 σ1 h => ?_))
  refine r_iconst (x := (-1)) d_X12_isBroken_6 ⟨by decide, by decide⟩ ?_
  refine r_ic_eq (tgt := 14) d_X12_isBroken_7 rfl (fun hc => ?_) (fun hc => ?_)
  · have h := h.1 hc
    refine r_iconst (x := 0) d_X12_isBroken_14 ⟨by decide, by decide⟩ ?_
    exact r_iret d_X12_isBroken_15 rfl (by decide) (Nat.le_refl 0) (Nat.le_refl 0) ⟨_, rfl, rfl, rfl, h⟩
  · have h := h.2 hc
    refine r_iconst (x := 1) d_X12_isBroken_10 ⟨by decide, by decide⟩ ?_
    refine r_goto (tgt := 15) d_X12_isBroken_11 rfl ?_
    exact r_iret d_X12_isBroken_15 rfl (by decide) (Nat.le_refl 0) (Nat.le_refl 0) ⟨_, rfl, rfl, rfl, h⟩
theorem v_X12_brokenIn_0 {l : Launch} {d N : Nat} {Λ : Lay} {P : Int → Mem → Prop} {σ : Mem} {x1 t : Int}
    (h : WI l mX12_brokenIn d P 2 [(2, t), (0, x1), (0, 0)] [] N Λ σ) :
    WI l mX12_brokenIn d P 0 [(2, t), (0, x1), (3, 0)] [] N Λ σ := by
  refine r_iconst (x := 0) d_X12_brokenIn_0 ⟨by decide, by decide⟩ ?_
  refine r_istore_n (L2 := [(2, t), (0, x1), (0, 0)]) d_X12_brokenIn_1 (by decide) rfl rfl ?_
  exact h
theorem v_X12_brokenIn_2 {l : Launch} {d N : Nat} {Λ : Lay} {P : Int → Mem → Prop} {σ : Mem} {x1 x2 t : Int} (o_t : Ob N Λ t 21 36) (h0d : 2 ≤ d)
    (h : (CI l mX12_degreeOf (d - 1) [(0, x1)] N Λ σ (fun v2 σ1 => ((v2 ≤ (addI x2 1) → P (-1) σ1) ∧ (¬ (v2 ≤ (addI x2 1)) → (CI l mX12_rankIn (d - 1) [(0, x1), (0, x2)] N Λ σ1 (fun v4 σ3 => (CI l mX12_rankIn (d - 1) [(0, x1), (0, (addI x2 1))] N Λ σ3 (fun v6 σ5 => (CI l mX12_breakOf (d - 1 - 1) [(2, t), (0, v4), (0, v6)] N Λ σ5 (fun v7 σ8 => ((v7 = (-1) → (∀ y9, y9 = addI x2 1 → WI l mX12_brokenIn d P 2 [(2, t), (0, x1), (0, y9)] [] N Λ σ8)) ∧ (¬ (v7 = (-1)) → P x2 σ8))))))))))))) :
    WI l mX12_brokenIn d P 2 [(2, t), (0, x1), (0, x2)] [] N Λ σ := by
  have hd_1 : 1 ≤ d := Nat.le_trans (by decide) h0d
  have he_1 : 1 ≤ d - 1 := Nat.le_sub_of_add_le (Nat.le_trans (by decide) h0d)
  refine r_iload_n (x := x2) d_X12_brokenIn_2 rfl ?_
  refine r_iconst (x := 1) d_X12_brokenIn_3 ⟨by decide, by decide⟩ ?_
  refine r_iadd d_X12_brokenIn_4 ?_
  refine r_iload_n (x := x1) d_X12_brokenIn_5 rfl ?_
  refine x_callSI (Y2 := mX12_degreeOf) (As := [(0, x1)]) (S := [(0, (addI x2 1))]) d_X12_brokenIn_6 ok_mX12_degreeOf ml_X12_138 rfl (Nat.le_of_ble_eq_true rfl) (Nat.le_of_ble_eq_true rfl) rfl hd_1 (CI.mono h (fun v2 σ1 h => ?_))
  refine r_ic_ge (tgt := 39) d_X12_brokenIn_9 rfl (fun hc => ?_) (fun hc => ?_)
  · have h := h.1 hc
    refine r_iconst (x := (-1)) d_X12_brokenIn_39 ⟨by decide, by decide⟩ ?_
    exact r_iret d_X12_brokenIn_40 rfl rfl (Nat.le_refl 0) (Nat.le_refl 0) ⟨_, rfl, rfl, rfl, h⟩
  · have h := h.2 hc
    refine r_aload_n (x := t) d_X12_brokenIn_12 rfl o_t.1 ?_
    refine r_iload_n (x := x1) d_X12_brokenIn_13 rfl ?_
    refine r_iload_n (x := x2) d_X12_brokenIn_14 rfl ?_
    refine x_callSI (Y2 := mX12_rankIn) (As := [(0, x1), (0, x2)]) (S := [(2, t)]) d_X12_brokenIn_15 ok_mX12_rankIn ml_X12_135 rfl (Nat.le_of_ble_eq_true rfl) (Nat.le_of_ble_eq_true rfl) rfl hd_1 (CI.mono h (fun v4 σ3 h => ?_))
    refine r_iload_n (x := x1) d_X12_brokenIn_18 rfl ?_
    refine r_iload_n (x := x2) d_X12_brokenIn_19 rfl ?_
    refine r_iconst (x := 1) d_X12_brokenIn_20 ⟨by decide, by decide⟩ ?_
    refine r_iadd d_X12_brokenIn_21 ?_
    refine x_callSI (Y2 := mX12_rankIn) (As := [(0, x1), (0, (addI x2 1))]) (S := [(0, v4), (2, t)]) d_X12_brokenIn_22 ok_mX12_rankIn ml_X12_135 rfl (Nat.le_of_ble_eq_true rfl) (Nat.le_of_ble_eq_true rfl) rfl hd_1 (CI.mono h (fun v6 σ5 h => ?_))
    refine x_callVI (Y2 := mX12_isBroken) (c := t) (As := [(0, v4), (0, v6)]) (S := []) d_X12_brokenIn_25 ok_mX12_isBroken ml_X12_154 rfl (Nat.le_of_ble_eq_true rfl) (Nat.le_of_ble_eq_true rfl) rfl hd_1 kX12 o_t (c_X12_isBroken (v_X12_isBroken_0 o_t he_1 ?_))
    refine CI.mono h (fun v7 σ8 h => ?_)
    refine ⟨fun hc => ?_, fun hc => ?_⟩
    · have h := h.1 hc
      show WP l mX12_brokenIn (rm d 0 0) noX _ 0 0 28 [(2, t), (0, x1), (0, x2)] [(0, 0)] N Λ σ8
      refine r_if_eq (tgt := 33) d_X12_brokenIn_28 rfl (fun _ => ?_) (fun hc => absurd hc (by decide))
      refine x_iinc (x := x2) (L := [(2, t), (0, x1), (0, x2)]) d_X12_brokenIn_33 rfl (by decide) rfl (fun y9 ey9 => ?_)
      have h := h y9 ey9
      show WP _ _ _ _ _ _ _ _ [(2, t), (0, x1), (0, y9)] _ _ _ _
      refine r_goto (tgt := 2) d_X12_brokenIn_36 rfl ?_
      exact h
    · have h := h.2 hc
      show WP l mX12_brokenIn (rm d 0 0) noX _ 0 0 28 [(2, t), (0, x1), (0, x2)] [(0, 1)] N Λ σ8
      refine r_if_eq (tgt := 33) d_X12_brokenIn_28 rfl (fun hc => absurd hc (by decide)) (fun _ => ?_)
      refine r_iload_n (x := x2) d_X12_brokenIn_31 rfl ?_
      exact r_iret d_X12_brokenIn_32 rfl rfl (Nat.le_refl 0) (Nat.le_refl 0) ⟨_, rfl, rfl, rfl, h⟩
theorem v_X12_layWay_0 {l : Launch} {d N : Nat} {Λ : Lay} {P : Int → Mem → Prop} {σ : Mem} {x1 x2 t : Int}
    (h : WI l mX12_layWay d P 8 [(2, t), (0, x1), (0, x2), (0, 0), (0, 0), (0, 0), (3, 0)] [] N Λ σ) :
    WI l mX12_layWay d P 0 [(2, t), (0, x1), (0, x2), (3, 0), (3, 0), (3, 0), (3, 0)] [] N Λ σ := by
  refine r_iconst (x := 0) d_X12_layWay_0 ⟨by decide, by decide⟩ ?_
  refine r_istore_n (L2 := [(2, t), (0, x1), (0, x2), (0, 0), (3, 0), (3, 0), (3, 0)]) d_X12_layWay_1 (by decide) rfl rfl ?_
  refine r_iconst (x := 0) d_X12_layWay_2 ⟨by decide, by decide⟩ ?_
  refine r_istore (L2 := [(2, t), (0, x1), (0, x2), (0, 0), (0, 0), (3, 0), (3, 0)]) d_X12_layWay_3 (by decide) rfl rfl ?_
  refine r_iconst (x := 0) d_X12_layWay_5 ⟨by decide, by decide⟩ ?_
  refine r_istore (L2 := [(2, t), (0, x1), (0, x2), (0, 0), (0, 0), (0, 0), (3, 0)]) d_X12_layWay_6 (by decide) rfl rfl ?_
  exact h
theorem v_X12_layWay_8 {l : Launch} {d N : Nat} {Λ : Lay} {P : Int → Mem → Prop} {σ : Mem} {x1 x2 x3 x4 x5 t t_newX t_rowX : Int} (o_t : Ob N Λ t 21 36) (f_t_newX : (Λ t).2.2 13 = t_newX) (f_t_rowX : (Λ t).2.2 10 = t_rowX)
    (h : (((subI x1 1) ≤ x3 → WI l mX12_layWay d P 36 [(2, t), (0, x1), (0, x2), (0, x3), (0, x4), (0, x5), (0, 0)] [] N Λ σ) ∧ (¬ ((subI x1 1) ≤ x3) → (Ix N Λ t_rowX 0 x3 ∧ (Ix N Λ t_newX 0 x3 ∧ (∀ τ1, τ1 = st σ t_newX x3 (σ t_rowX x3) → (∀ y2, y2 = addI x3 1 → WI l mX12_layWay d P 8 [(2, t), (0, x1), (0, x2), (0, y2), (0, x4), (0, x5), (3, 0)] [] N Λ τ1))))))) :
    WI l mX12_layWay d P 8 [(2, t), (0, x1), (0, x2), (0, x3), (0, x4), (0, x5), (3, 0)] [] N Λ σ := by
  refine r_iload_n (x := x3) d_X12_layWay_8 rfl ?_
  refine r_iload_n (x := x1) d_X12_layWay_9 rfl ?_
  refine r_iconst (x := 1) d_X12_layWay_10 ⟨by decide, by decide⟩ ?_
  refine r_isub d_X12_layWay_11 ?_
  refine r_ic_ge (tgt := 33) d_X12_layWay_12 rfl (fun hc => ?_) (fun hc => ?_)
  · have h := h.1 hc
    refine r_iconst (x := 0) d_X12_layWay_33 ⟨by decide, by decide⟩ ?_
    refine r_istore (L2 := [(2, t), (0, x1), (0, x2), (0, x3), (0, x4), (0, x5), (0, 0)]) d_X12_layWay_34 (by decide) rfl rfl ?_
    exact h
  · have h := h.2 hc
    refine r_aload_n (x := t) d_X12_layWay_15 rfl o_t.1 ?_
    refine r_getf (j := 13) (t := 2) (x := t_newX) d_X12_layWay_16 kX12 (by decide) fl_X12_45 o_t.1 o_t.2.1 o_t.2.2.1 o_t.2.2.2 rfl f_t_newX ?_
    refine r_iload_n (x := x3) d_X12_layWay_19 rfl ?_
    refine r_aload_n (x := t) d_X12_layWay_20 rfl o_t.1 ?_
    refine r_getf (j := 10) (t := 2) (x := t_rowX) d_X12_layWay_21 kX12 (by decide) fl_X12_36 o_t.1 o_t.2.1 o_t.2.2.1 o_t.2.2.2 rfl f_t_rowX ?_
    refine r_iload_n (x := x3) d_X12_layWay_24 rfl ?_
    refine x_iald d_X12_layWay_25 h.1 ?_
    have h := h.2
    refine x_iast d_X12_layWay_26 h.1 ?_
    have h := h.2
    refine r_nmM (fun τ1 eτ1 => ?_)
    have h := h τ1 eτ1
    refine x_iinc (x := x3) (L := [(2, t), (0, x1), (0, x2), (0, x3), (0, x4), (0, x5), (3, 0)]) d_X12_layWay_27 rfl (by decide) rfl (fun y2 ey2 => ?_)
    have h := h y2 ey2
    show WP _ _ _ _ _ _ _ _ [(2, t), (0, x1), (0, x2), (0, y2), (0, x4), (0, x5), (3, 0)] _ _ _ _
    refine r_goto (tgt := 8) d_X12_layWay_30 rfl ?_
    exact h
theorem v_X12_layWay_36 {l : Launch} {d N : Nat} {Λ : Lay} {P : Int → Mem → Prop} {σ : Mem} {x1 x2 x3 x4 x5 x6 t t_four t_newX t_newY : Int} (o_t : Ob N Λ t 21 36) (f_t_newY : (Λ t).2.2 14 = t_newY) (f_t_four : (Λ t).2.2 12 = t_four) (f_t_newX : (Λ t).2.2 13 = t_newX)
    (h : ((4 ≤ x6 → WI l mX12_layWay d P 106 [(2, t), (0, x1), (0, x2), (0, x3), (0, x4), (0, x5), (0, x1)] [] N Λ σ) ∧ (¬ (4 ≤ x6) → ((¬ (andI (shrI x2 (subI 3 x6)) 1) = 1 → (Ix N Λ t_four 0 x6 ∧ (Ix N Λ t_newY 0 x4 ∧ (∀ τ1, τ1 = st σ t_newY x4 (σ t_four x6) → (∀ y2, y2 = addI x4 1 → (∀ y3, y3 = addI x6 1 → WI l mX12_layWay d P 36 [(2, t), (0, x1), (0, x2), (0, x3), (0, y2), (0, x5), (0, y3)] [] N Λ τ1)))))) ∧ ((andI (shrI x2 (subI 3 x6)) 1) = 1 → (Ix N Λ t_four 0 x6 ∧ (Ix N Λ t_newX 0 x3 ∧ (∀ τ4, τ4 = st σ t_newX x3 (σ t_four x6) → (∀ y5, y5 = addI x3 1 → (∀ y6, y6 = (addI x5 x4) → (∀ y7, y7 = addI x6 1 → WI l mX12_layWay d P 36 [(2, t), (0, x1), (0, x2), (0, y5), (0, x4), (0, y6), (0, y7)] [] N Λ τ4))))))))))) :
    WI l mX12_layWay d P 36 [(2, t), (0, x1), (0, x2), (0, x3), (0, x4), (0, x5), (0, x6)] [] N Λ σ := by
  refine r_iload (x := x6) d_X12_layWay_36 rfl ?_
  refine r_iconst (x := 4) d_X12_layWay_38 ⟨by decide, by decide⟩ ?_
  refine r_ic_ge (tgt := 103) d_X12_layWay_39 rfl (fun hc => ?_) (fun hc => ?_)
  · have h := h.1 hc
    refine r_iload_n (x := x1) d_X12_layWay_103 rfl ?_
    refine r_istore (L2 := [(2, t), (0, x1), (0, x2), (0, x3), (0, x4), (0, x5), (0, x1)]) d_X12_layWay_104 (by decide) rfl rfl ?_
    exact h
  · have h := h.2 hc
    refine r_iload_n (x := x2) d_X12_layWay_42 rfl ?_
    refine r_iconst (x := 3) d_X12_layWay_43 ⟨by decide, by decide⟩ ?_
    refine r_iload (x := x6) d_X12_layWay_44 rfl ?_
    refine r_isub d_X12_layWay_46 ?_
    refine r_ishr d_X12_layWay_47 ?_
    refine r_iconst (x := 1) d_X12_layWay_48 ⟨by decide, by decide⟩ ?_
    refine r_iand d_X12_layWay_49 ?_
    refine r_iconst (x := 1) d_X12_layWay_50 ⟨by decide, by decide⟩ ?_
    refine r_ic_ne (tgt := 80) d_X12_layWay_51 rfl (fun hc => ?_) (fun hc => ?_)
    · have h := h.1 hc
      refine r_aload_n (x := t) d_X12_layWay_80 rfl o_t.1 ?_
      refine r_getf (j := 14) (t := 2) (x := t_newY) d_X12_layWay_81 kX12 (by decide) fl_X12_48 o_t.1 o_t.2.1 o_t.2.2.1 o_t.2.2.2 rfl f_t_newY ?_
      refine r_iload (x := x4) d_X12_layWay_84 rfl ?_
      refine r_aload_n (x := t) d_X12_layWay_86 rfl o_t.1 ?_
      refine r_getf (j := 12) (t := 2) (x := t_four) d_X12_layWay_87 kX12 (by decide) fl_X12_42 o_t.1 o_t.2.1 o_t.2.2.1 o_t.2.2.2 rfl f_t_four ?_
      refine r_iload (x := x6) d_X12_layWay_90 rfl ?_
      refine x_iald d_X12_layWay_92 h.1 ?_
      have h := h.2
      refine x_iast d_X12_layWay_93 h.1 ?_
      have h := h.2
      refine r_nmM (fun τ1 eτ1 => ?_)
      have h := h τ1 eτ1
      refine x_iinc (x := x4) (L := [(2, t), (0, x1), (0, x2), (0, x3), (0, x4), (0, x5), (0, x6)]) d_X12_layWay_94 rfl (by decide) rfl (fun y2 ey2 => ?_)
      have h := h y2 ey2
      show WP _ _ _ _ _ _ _ _ [(2, t), (0, x1), (0, x2), (0, x3), (0, y2), (0, x5), (0, x6)] _ _ _ _
      refine x_iinc (x := x6) (L := [(2, t), (0, x1), (0, x2), (0, x3), (0, y2), (0, x5), (0, x6)]) d_X12_layWay_97 rfl (by decide) rfl (fun y3 ey3 => ?_)
      have h := h y3 ey3
      show WP _ _ _ _ _ _ _ _ [(2, t), (0, x1), (0, x2), (0, x3), (0, y2), (0, x5), (0, y3)] _ _ _ _
      refine r_goto (tgt := 36) d_X12_layWay_100 rfl ?_
      exact h
    · have h := h.2 hc
      refine r_aload_n (x := t) d_X12_layWay_54 rfl o_t.1 ?_
      refine r_getf (j := 13) (t := 2) (x := t_newX) d_X12_layWay_55 kX12 (by decide) fl_X12_45 o_t.1 o_t.2.1 o_t.2.2.1 o_t.2.2.2 rfl f_t_newX ?_
      refine r_iload_n (x := x3) d_X12_layWay_58 rfl ?_
      refine r_aload_n (x := t) d_X12_layWay_59 rfl o_t.1 ?_
      refine r_getf (j := 12) (t := 2) (x := t_four) d_X12_layWay_60 kX12 (by decide) fl_X12_42 o_t.1 o_t.2.1 o_t.2.2.1 o_t.2.2.2 rfl f_t_four ?_
      refine r_iload (x := x6) d_X12_layWay_63 rfl ?_
      refine x_iald d_X12_layWay_65 h.1 ?_
      have h := h.2
      refine x_iast d_X12_layWay_66 h.1 ?_
      have h := h.2
      refine r_nmM (fun τ4 eτ4 => ?_)
      have h := h τ4 eτ4
      refine x_iinc (x := x3) (L := [(2, t), (0, x1), (0, x2), (0, x3), (0, x4), (0, x5), (0, x6)]) d_X12_layWay_67 rfl (by decide) rfl (fun y5 ey5 => ?_)
      have h := h y5 ey5
      show WP _ _ _ _ _ _ _ _ [(2, t), (0, x1), (0, x2), (0, y5), (0, x4), (0, x5), (0, x6)] _ _ _ _
      refine r_iload (x := x5) d_X12_layWay_70 rfl ?_
      refine r_iload (x := x4) d_X12_layWay_72 rfl ?_
      refine r_iadd d_X12_layWay_74 ?_
      refine r_nm (fun y6 ey6 => ?_)
      have h := h y6 ey6
      refine r_istore (L2 := [(2, t), (0, x1), (0, x2), (0, y5), (0, x4), (0, y6), (0, x6)]) d_X12_layWay_75 (by decide) rfl rfl ?_
      refine r_goto (tgt := 97) d_X12_layWay_77 rfl ?_
      refine x_iinc (x := x6) (L := [(2, t), (0, x1), (0, x2), (0, y5), (0, x4), (0, y6), (0, x6)]) d_X12_layWay_97 rfl (by decide) rfl (fun y7 ey7 => ?_)
      have h := h y7 ey7
      show WP _ _ _ _ _ _ _ _ [(2, t), (0, x1), (0, x2), (0, y5), (0, x4), (0, y6), (0, y7)] _ _ _ _
      refine r_goto (tgt := 36) d_X12_layWay_100 rfl ?_
      exact h
theorem v_X12_layWay_106 {l : Launch} {d N : Nat} {Λ : Lay} {P : Int → Mem → Prop} {σ : Mem} {x1 x2 x3 x4 x5 x6 t t_newY t_rowY : Int} (o_t : Ob N Λ t 21 36) (f_t_newY : (Λ t).2.2 14 = t_newY) (f_t_rowY : (Λ t).2.2 11 = t_rowY)
    (h : ((3 ≤ x6 → P x5 σ) ∧ (¬ (3 ≤ x6) → (Ix N Λ t_rowY 0 x6 ∧ (Ix N Λ t_newY 0 x6 ∧ (∀ τ1, τ1 = st σ t_newY x6 (σ t_rowY x6) → (∀ y2, y2 = addI x6 1 → WI l mX12_layWay d P 106 [(2, t), (0, x1), (0, x2), (0, x3), (0, x4), (0, x5), (0, y2)] [] N Λ τ1))))))) :
    WI l mX12_layWay d P 106 [(2, t), (0, x1), (0, x2), (0, x3), (0, x4), (0, x5), (0, x6)] [] N Λ σ := by
  refine r_iload (x := x6) d_X12_layWay_106 rfl ?_
  refine r_iconst (x := 3) d_X12_layWay_108 ⟨by decide, by decide⟩ ?_
  refine r_ic_ge (tgt := 132) d_X12_layWay_109 rfl (fun hc => ?_) (fun hc => ?_)
  · have h := h.1 hc
    refine r_iload (x := x5) d_X12_layWay_132 rfl ?_
    exact r_iret d_X12_layWay_134 rfl rfl (Nat.le_refl 0) (Nat.le_refl 0) ⟨_, rfl, rfl, rfl, h⟩
  · have h := h.2 hc
    refine r_aload_n (x := t) d_X12_layWay_112 rfl o_t.1 ?_
    refine r_getf (j := 14) (t := 2) (x := t_newY) d_X12_layWay_113 kX12 (by decide) fl_X12_48 o_t.1 o_t.2.1 o_t.2.2.1 o_t.2.2.2 rfl f_t_newY ?_
    refine r_iload (x := x6) d_X12_layWay_116 rfl ?_
    refine r_aload_n (x := t) d_X12_layWay_118 rfl o_t.1 ?_
    refine r_getf (j := 11) (t := 2) (x := t_rowY) d_X12_layWay_119 kX12 (by decide) fl_X12_39 o_t.1 o_t.2.1 o_t.2.2.1 o_t.2.2.2 rfl f_t_rowY ?_
    refine r_iload (x := x6) d_X12_layWay_122 rfl ?_
    refine x_iald d_X12_layWay_124 h.1 ?_
    have h := h.2
    refine x_iast d_X12_layWay_125 h.1 ?_
    have h := h.2
    refine r_nmM (fun τ1 eτ1 => ?_)
    have h := h τ1 eτ1
    refine x_iinc (x := x6) (L := [(2, t), (0, x1), (0, x2), (0, x3), (0, x4), (0, x5), (0, x6)]) d_X12_layWay_126 rfl (by decide) rfl (fun y2 ey2 => ?_)
    have h := h y2 ey2
    show WP _ _ _ _ _ _ _ _ [(2, t), (0, x1), (0, x2), (0, x3), (0, x4), (0, x5), (0, y2)] _ _ _ _
    refine r_goto (tgt := 106) d_X12_layWay_129 rfl ?_
    exact h
theorem v_X12_exchanges_0 {l : Launch} {d N : Nat} {Λ : Lay} {P : Mem → Prop} {σ : Mem} {x1 x2 x3 x5 t : Int}
    (h : WV l mX12_exchanges d P 3 [(2, t), (0, x1), (0, x2), (1, x3), (3, 0), (0, x5), (0, 0), (3, 0), (3, 0), (3, 0), (3, 0), (3, 0), (3, 0)] [] N Λ σ) :
    WV l mX12_exchanges d P 0 [(2, t), (0, x1), (0, x2), (1, x3), (3, 0), (0, x5), (3, 0), (3, 0), (3, 0), (3, 0), (3, 0), (3, 0), (3, 0)] [] N Λ σ := by
  refine r_iconst (x := 0) d_X12_exchanges_0 ⟨by decide, by decide⟩ ?_
  refine r_istore (L2 := [(2, t), (0, x1), (0, x2), (1, x3), (3, 0), (0, x5), (0, 0), (3, 0), (3, 0), (3, 0), (3, 0), (3, 0), (3, 0)]) d_X12_exchanges_1 (by decide) rfl rfl ?_
  exact h
theorem v_X12_exchanges_3 {l : Launch} {d N : Nat} {Λ : Lay} {P : Mem → Prop} {σ : Mem} {x1 x2 x3 x5 x6 t t_four t_rowX t_rowY : Int} (o_t : Ob N Λ t 21 36) (f_t_four : (Λ t).2.2 12 = t_four) (f_t_rowY : (Λ t).2.2 11 = t_rowY) (f_t_rowX : (Λ t).2.2 10 = t_rowX)
    (h : ((4 ≤ x6 → WV l mX12_exchanges d P 59 [(2, t), (0, x1), (0, x2), (1, x3), (3, 0), (0, x5), (0, 15), (3, 0), (3, 0), (3, 0), (3, 0), (3, 0), (3, 0)] [] N Λ σ) ∧ (¬ (4 ≤ x6) → (((subI 4 x1) ≤ x6 → (Ix N Λ t_rowY 0 (subI x6 (subI 4 x1)) ∧ (Ix N Λ t_four 0 x6 ∧ (∀ τ1, τ1 = st σ t_four x6 (σ t_rowY (subI x6 (subI 4 x1))) → (∀ y2, y2 = addI x6 1 → WV l mX12_exchanges d P 3 [(2, t), (0, x1), (0, x2), (1, x3), (3, 0), (0, x5), (0, y2), (3, 0), (3, 0), (3, 0), (3, 0), (3, 0), (3, 0)] [] N Λ τ1))))) ∧ (¬ ((subI 4 x1) ≤ x6) → (Ix N Λ t_rowX 0 (addI (subI x1 1) x6) ∧ (Ix N Λ t_four 0 x6 ∧ (∀ τ3, τ3 = st σ t_four x6 (σ t_rowX (addI (subI x1 1) x6)) → (∀ y4, y4 = addI x6 1 → WV l mX12_exchanges d P 3 [(2, t), (0, x1), (0, x2), (1, x3), (3, 0), (0, x5), (0, y4), (3, 0), (3, 0), (3, 0), (3, 0), (3, 0), (3, 0)] [] N Λ τ3))))))))) :
    WV l mX12_exchanges d P 3 [(2, t), (0, x1), (0, x2), (1, x3), (3, 0), (0, x5), (0, x6), (3, 0), (3, 0), (3, 0), (3, 0), (3, 0), (3, 0)] [] N Λ σ := by
  refine r_iload (x := x6) d_X12_exchanges_3 rfl ?_
  refine r_iconst (x := 4) d_X12_exchanges_5 ⟨by decide, by decide⟩ ?_
  refine r_ic_ge (tgt := 55) d_X12_exchanges_6 rfl (fun hc => ?_) (fun hc => ?_)
  · have h := h.1 hc
    refine r_bipush (x := 15) d_X12_exchanges_55 ⟨by decide, by decide⟩ (by decide) ?_
    refine r_istore (L2 := [(2, t), (0, x1), (0, x2), (1, x3), (3, 0), (0, x5), (0, 15), (3, 0), (3, 0), (3, 0), (3, 0), (3, 0), (3, 0)]) d_X12_exchanges_57 (by decide) rfl rfl ?_
    exact h
  · have h := h.2 hc
    refine r_aload_n (x := t) d_X12_exchanges_9 rfl o_t.1 ?_
    refine r_getf (j := 12) (t := 2) (x := t_four) d_X12_exchanges_10 kX12 (by decide) fl_X12_42 o_t.1 o_t.2.1 o_t.2.2.1 o_t.2.2.2 rfl f_t_four ?_
    refine r_iload (x := x6) d_X12_exchanges_13 rfl ?_
    refine r_iload (x := x6) d_X12_exchanges_15 rfl ?_
    refine r_iconst (x := 4) d_X12_exchanges_17 ⟨by decide, by decide⟩ ?_
    refine r_iload_n (x := x1) d_X12_exchanges_18 rfl ?_
    refine r_isub d_X12_exchanges_19 ?_
    refine r_ic_ge (tgt := 37) d_X12_exchanges_20 rfl (fun hc => ?_) (fun hc => ?_)
    · have h := h.1 hc
      refine r_aload_n (x := t) d_X12_exchanges_37 rfl o_t.1 ?_
      refine r_getf (j := 11) (t := 2) (x := t_rowY) d_X12_exchanges_38 kX12 (by decide) fl_X12_39 o_t.1 o_t.2.1 o_t.2.2.1 o_t.2.2.2 rfl f_t_rowY ?_
      refine r_iload (x := x6) d_X12_exchanges_41 rfl ?_
      refine r_iconst (x := 4) d_X12_exchanges_43 ⟨by decide, by decide⟩ ?_
      refine r_iload_n (x := x1) d_X12_exchanges_44 rfl ?_
      refine r_isub d_X12_exchanges_45 ?_
      refine r_isub d_X12_exchanges_46 ?_
      refine x_iald d_X12_exchanges_47 h.1 ?_
      have h := h.2
      refine x_iast d_X12_exchanges_48 h.1 ?_
      have h := h.2
      refine r_nmM (fun τ1 eτ1 => ?_)
      have h := h τ1 eτ1
      refine x_iinc (x := x6) (L := [(2, t), (0, x1), (0, x2), (1, x3), (3, 0), (0, x5), (0, x6), (3, 0), (3, 0), (3, 0), (3, 0), (3, 0), (3, 0)]) d_X12_exchanges_49 rfl (by decide) rfl (fun y2 ey2 => ?_)
      have h := h y2 ey2
      show WP _ _ _ _ _ _ _ _ [(2, t), (0, x1), (0, x2), (1, x3), (3, 0), (0, x5), (0, y2), (3, 0), (3, 0), (3, 0), (3, 0), (3, 0), (3, 0)] _ _ _ _
      refine r_goto (tgt := 3) d_X12_exchanges_52 rfl ?_
      exact h
    · have h := h.2 hc
      refine r_aload_n (x := t) d_X12_exchanges_23 rfl o_t.1 ?_
      refine r_getf (j := 10) (t := 2) (x := t_rowX) d_X12_exchanges_24 kX12 (by decide) fl_X12_36 o_t.1 o_t.2.1 o_t.2.2.1 o_t.2.2.2 rfl f_t_rowX ?_
      refine r_iload_n (x := x1) d_X12_exchanges_27 rfl ?_
      refine r_iconst (x := 1) d_X12_exchanges_28 ⟨by decide, by decide⟩ ?_
      refine r_isub d_X12_exchanges_29 ?_
      refine r_iload (x := x6) d_X12_exchanges_30 rfl ?_
      refine r_iadd d_X12_exchanges_32 ?_
      refine x_iald d_X12_exchanges_33 h.1 ?_
      have h := h.2
      refine r_goto (tgt := 48) d_X12_exchanges_34 rfl ?_
      refine x_iast d_X12_exchanges_48 h.1 ?_
      have h := h.2
      refine r_nmM (fun τ3 eτ3 => ?_)
      have h := h τ3 eτ3
      refine x_iinc (x := x6) (L := [(2, t), (0, x1), (0, x2), (1, x3), (3, 0), (0, x5), (0, x6), (3, 0), (3, 0), (3, 0), (3, 0), (3, 0), (3, 0)]) d_X12_exchanges_49 rfl (by decide) rfl (fun y4 ey4 => ?_)
      have h := h y4 ey4
      show WP _ _ _ _ _ _ _ _ [(2, t), (0, x1), (0, x2), (1, x3), (3, 0), (0, x5), (0, y4), (3, 0), (3, 0), (3, 0), (3, 0), (3, 0), (3, 0)] _ _ _ _
      refine r_goto (tgt := 3) d_X12_exchanges_52 rfl ?_
      exact h
theorem v_X12_exchanges_59 {l : Launch} {d N : Nat} {Λ : Lay} {P : Mem → Prop} {σ : Mem} {x1 x2 x3 x5 x6 t t_newX t_newY t_rankOf : Int} (o_t : Ob N Λ t 21 36) (f_t_rankOf : (Λ t).2.2 1 = t_rankOf) (f_t_newX : (Λ t).2.2 13 = t_newX) (f_t_newY : (Λ t).2.2 14 = t_newY) (h0d : 1 ≤ d)
    (h : ((x6 ≤ 0 → P σ) ∧ (¬ (x6 ≤ 0) → ((¬ (σ t 8) = 0 → P σ) ∧ ((σ t 8) = 0 → (CI l mJ6_bitCount_0f7a4 (d - 1) [(0, x6)] N Λ σ (fun v2 σ1 => ((v2 = (subI 4 x1) → (CI l mX12_layWay (d - 1) [(2, t), (0, x1), (0, x6)] N Λ σ1 (fun v4 σ3 => (Ix N Λ t_newX 0 0 ∧ (Ix N Λ t_newX 0 1 ∧ (Ix N Λ t_newX 0 2 ∧ (Ix N Λ t_rankOf 0 (addI (addI (mulI 100 (σ3 t_newX 0)) (mulI 10 (σ3 t_newX 1))) (σ3 t_newX 2)) ∧ (∀ y5, y5 = (σ3 t_rankOf (addI (addI (mulI 100 (σ3 t_newX 0)) (mulI 10 (σ3 t_newX 1))) (σ3 t_newX 2))) → (Ix N Λ t_newY 0 0 ∧ (Ix N Λ t_newY 0 1 ∧ (Ix N Λ t_newY 0 2 ∧ (Ix N Λ t_rankOf 0 (addI (addI (mulI 100 (σ3 t_newY 0)) (mulI 10 (σ3 t_newY 1))) (σ3 t_newY 2)) ∧ (∀ y6, y6 = (σ3 t_rankOf (addI (addI (mulI 100 (σ3 t_newY 0)) (mulI 10 (σ3 t_newY 1))) (σ3 t_newY 2))) → ((y5 = 0 → (∀ y7, y7 = addI x6 (-1) → WV l mX12_exchanges d P 59 [(2, t), (0, x1), (0, x2), (1, x3), (3, 0), (0, x5), (0, y7), (3, 0), (3, 0), (3, 0), (3, 0), (3, 0), (3, 0)] [] N Λ σ3)) ∧ (¬ (y5 = 0) → ((¬ y6 = 0 → ((¬ (remI v4 2) = 0 → ((0 ≤ y5 → ((0 ≤ y6 → (∀ y8, y8 = (mulL (mulL (-1) 1) 1) → WV l mX12_exchanges d P 218 [(2, t), (0, x1), (0, x2), (1, x3), (3, 0), (0, x5), (0, x6), (0, v4), (0, y5), (0, y6), (1, y8), (3, 0), (0, 0)] [] N Λ σ3)) ∧ (¬ (0 ≤ y6) → (∀ y9, y9 = (mulL (mulL (-1) 1) (-1)) → WV l mX12_exchanges d P 218 [(2, t), (0, x1), (0, x2), (1, x3), (3, 0), (0, x5), (0, x6), (0, v4), (0, y5), (0, y6), (1, y9), (3, 0), (0, 0)] [] N Λ σ3)))) ∧ (¬ (0 ≤ y5) → ((0 ≤ y6 → (∀ y10, y10 = (mulL (mulL (-1) (-1)) 1) → WV l mX12_exchanges d P 218 [(2, t), (0, x1), (0, x2), (1, x3), (3, 0), (0, x5), (0, x6), (0, v4), (0, y5), (0, y6), (1, y10), (3, 0), (0, 0)] [] N Λ σ3)) ∧ (¬ (0 ≤ y6) → (∀ y11, y11 = (mulL (mulL (-1) (-1)) (-1)) → WV l mX12_exchanges d P 218 [(2, t), (0, x1), (0, x2), (1, x3), (3, 0), (0, x5), (0, x6), (0, v4), (0, y5), (0, y6), (1, y11), (3, 0), (0, 0)] [] N Λ σ3)))))) ∧ ((remI v4 2) = 0 → ((0 ≤ y5 → ((0 ≤ y6 → (∀ y12, y12 = (mulL (mulL 1 1) 1) → WV l mX12_exchanges d P 218 [(2, t), (0, x1), (0, x2), (1, x3), (3, 0), (0, x5), (0, x6), (0, v4), (0, y5), (0, y6), (1, y12), (3, 0), (0, 0)] [] N Λ σ3)) ∧ (¬ (0 ≤ y6) → (∀ y13, y13 = (mulL (mulL 1 1) (-1)) → WV l mX12_exchanges d P 218 [(2, t), (0, x1), (0, x2), (1, x3), (3, 0), (0, x5), (0, x6), (0, v4), (0, y5), (0, y6), (1, y13), (3, 0), (0, 0)] [] N Λ σ3)))) ∧ (¬ (0 ≤ y5) → ((0 ≤ y6 → (∀ y14, y14 = (mulL (mulL 1 (-1)) 1) → WV l mX12_exchanges d P 218 [(2, t), (0, x1), (0, x2), (1, x3), (3, 0), (0, x5), (0, x6), (0, v4), (0, y5), (0, y6), (1, y14), (3, 0), (0, 0)] [] N Λ σ3)) ∧ (¬ (0 ≤ y6) → (∀ y15, y15 = (mulL (mulL 1 (-1)) (-1)) → WV l mX12_exchanges d P 218 [(2, t), (0, x1), (0, x2), (1, x3), (3, 0), (0, x5), (0, x6), (0, v4), (0, y5), (0, y6), (1, y15), (3, 0), (0, 0)] [] N Λ σ3)))))))) ∧ (y6 = 0 → (∀ y16, y16 = addI x6 (-1) → WV l mX12_exchanges d P 59 [(2, t), (0, x1), (0, x2), (1, x3), (3, 0), (0, x5), (0, y16), (3, 0), (3, 0), (3, 0), (3, 0), (3, 0), (3, 0)] [] N Λ σ3)))))))))))))))))) ∧ (¬ (v2 = (subI 4 x1)) → (∀ y17, y17 = addI x6 (-1) → WV l mX12_exchanges d P 59 [(2, t), (0, x1), (0, x2), (1, x3), (3, 0), (0, x5), (0, y17), (3, 0), (3, 0), (3, 0), (3, 0), (3, 0), (3, 0)] [] N Λ σ1)))))))))) :
    WV l mX12_exchanges d P 59 [(2, t), (0, x1), (0, x2), (1, x3), (3, 0), (0, x5), (0, x6), (3, 0), (3, 0), (3, 0), (3, 0), (3, 0), (3, 0)] [] N Λ σ := by
  have hd_1 : 1 ≤ d := Nat.le_trans (by decide) h0d
  refine r_iload (x := x6) d_X12_exchanges_59 rfl ?_
  refine r_if_le (tgt := 292) d_X12_exchanges_61 rfl (fun hc => ?_) (fun hc => ?_)
  · have h := h.1 hc
    exact r_vret d_X12_exchanges_292 rfl (Nat.le_refl 0) (Nat.le_refl 0) ⟨rfl, rfl, rfl, h⟩
  · have h := h.2 hc
    refine r_aload_n (x := t) d_X12_exchanges_64 rfl o_t.1 ?_
    refine r_getf (j := 8) (t := 0) (x := (σ t 8)) d_X12_exchanges_65 kX12 (by decide) fl_X12_102 o_t.1 o_t.2.1 o_t.2.2.1 o_t.2.2.2 rfl rfl ?_
    refine r_if_ne (tgt := 292) d_X12_exchanges_68 rfl (fun hc => ?_) (fun hc => ?_)
    · have h := h.1 hc
      exact r_vret d_X12_exchanges_292 rfl (Nat.le_refl 0) (Nat.le_refl 0) ⟨rfl, rfl, rfl, h⟩
    · have h := h.2 hc
      refine r_iload (x := x6) d_X12_exchanges_71 rfl ?_
      refine x_callSI (Y2 := mJ6_bitCount_0f7a4) (As := [(0, x6)]) (S := []) d_X12_exchanges_73 ok_mJ6_bitCount_0f7a4 ml_X12_158 rfl (Nat.le_of_ble_eq_true rfl) (Nat.le_of_ble_eq_true rfl) rfl hd_1 (CI.mono h (fun v2 σ1 h => ?_))
      refine r_iconst (x := 4) d_X12_exchanges_76 ⟨by decide, by decide⟩ ?_
      refine r_iload_n (x := x1) d_X12_exchanges_77 rfl ?_
      refine r_isub d_X12_exchanges_78 ?_
      refine r_ic_eq (tgt := 85) d_X12_exchanges_79 rfl (fun hc => ?_) (fun hc => ?_)
      · have h := h.1 hc
        refine r_aload_n (x := t) d_X12_exchanges_85 rfl o_t.1 ?_
        refine r_iload_n (x := x1) d_X12_exchanges_86 rfl ?_
        refine r_iload (x := x6) d_X12_exchanges_87 rfl ?_
        refine x_callVI (Y2 := mX12_layWay) (c := t) (As := [(0, x1), (0, x6)]) (S := []) d_X12_exchanges_89 ok_mX12_layWay ml_X12_163 rfl (Nat.le_of_ble_eq_true rfl) (Nat.le_of_ble_eq_true rfl) rfl hd_1 kX12 o_t (CI.mono h (fun v4 σ3 h => ?_))
        refine r_istore (L2 := [(2, t), (0, x1), (0, x2), (1, x3), (3, 0), (0, x5), (0, x6), (0, v4), (3, 0), (3, 0), (3, 0), (3, 0), (3, 0)]) d_X12_exchanges_92 (by decide) rfl rfl ?_
        refine r_aload_n (x := t) d_X12_exchanges_94 rfl o_t.1 ?_
        refine r_getf (j := 1) (t := 2) (x := t_rankOf) d_X12_exchanges_95 kX12 (by decide) fl_X12_13 o_t.1 o_t.2.1 o_t.2.2.1 o_t.2.2.2 rfl f_t_rankOf ?_
        refine r_bipush (x := 100) d_X12_exchanges_98 ⟨by decide, by decide⟩ (by decide) ?_
        refine r_aload_n (x := t) d_X12_exchanges_100 rfl o_t.1 ?_
        refine r_getf (j := 13) (t := 2) (x := t_newX) d_X12_exchanges_101 kX12 (by decide) fl_X12_45 o_t.1 o_t.2.1 o_t.2.2.1 o_t.2.2.2 rfl f_t_newX ?_
        refine r_iconst (x := 0) d_X12_exchanges_104 ⟨by decide, by decide⟩ ?_
        refine x_iald d_X12_exchanges_105 h.1 ?_
        have h := h.2
        refine r_imul d_X12_exchanges_106 ?_
        refine r_bipush (x := 10) d_X12_exchanges_107 ⟨by decide, by decide⟩ (by decide) ?_
        refine r_aload_n (x := t) d_X12_exchanges_109 rfl o_t.1 ?_
        refine r_getf (j := 13) (t := 2) (x := t_newX) d_X12_exchanges_110 kX12 (by decide) fl_X12_45 o_t.1 o_t.2.1 o_t.2.2.1 o_t.2.2.2 rfl f_t_newX ?_
        refine r_iconst (x := 1) d_X12_exchanges_113 ⟨by decide, by decide⟩ ?_
        refine x_iald d_X12_exchanges_114 h.1 ?_
        have h := h.2
        refine r_imul d_X12_exchanges_115 ?_
        refine r_iadd d_X12_exchanges_116 ?_
        refine r_aload_n (x := t) d_X12_exchanges_117 rfl o_t.1 ?_
        refine r_getf (j := 13) (t := 2) (x := t_newX) d_X12_exchanges_118 kX12 (by decide) fl_X12_45 o_t.1 o_t.2.1 o_t.2.2.1 o_t.2.2.2 rfl f_t_newX ?_
        refine r_iconst (x := 2) d_X12_exchanges_121 ⟨by decide, by decide⟩ ?_
        refine x_iald d_X12_exchanges_122 h.1 ?_
        have h := h.2
        refine r_iadd d_X12_exchanges_123 ?_
        refine x_iald d_X12_exchanges_124 h.1 ?_
        have h := h.2
        refine r_nm (fun y5 ey5 => ?_)
        have h := h y5 ey5
        refine r_istore (L2 := [(2, t), (0, x1), (0, x2), (1, x3), (3, 0), (0, x5), (0, x6), (0, v4), (0, y5), (3, 0), (3, 0), (3, 0), (3, 0)]) d_X12_exchanges_125 (by decide) rfl rfl ?_
        refine r_aload_n (x := t) d_X12_exchanges_127 rfl o_t.1 ?_
        refine r_getf (j := 1) (t := 2) (x := t_rankOf) d_X12_exchanges_128 kX12 (by decide) fl_X12_13 o_t.1 o_t.2.1 o_t.2.2.1 o_t.2.2.2 rfl f_t_rankOf ?_
        refine r_bipush (x := 100) d_X12_exchanges_131 ⟨by decide, by decide⟩ (by decide) ?_
        refine r_aload_n (x := t) d_X12_exchanges_133 rfl o_t.1 ?_
        refine r_getf (j := 14) (t := 2) (x := t_newY) d_X12_exchanges_134 kX12 (by decide) fl_X12_48 o_t.1 o_t.2.1 o_t.2.2.1 o_t.2.2.2 rfl f_t_newY ?_
        refine r_iconst (x := 0) d_X12_exchanges_137 ⟨by decide, by decide⟩ ?_
        refine x_iald d_X12_exchanges_138 h.1 ?_
        have h := h.2
        refine r_imul d_X12_exchanges_139 ?_
        refine r_bipush (x := 10) d_X12_exchanges_140 ⟨by decide, by decide⟩ (by decide) ?_
        refine r_aload_n (x := t) d_X12_exchanges_142 rfl o_t.1 ?_
        refine r_getf (j := 14) (t := 2) (x := t_newY) d_X12_exchanges_143 kX12 (by decide) fl_X12_48 o_t.1 o_t.2.1 o_t.2.2.1 o_t.2.2.2 rfl f_t_newY ?_
        refine r_iconst (x := 1) d_X12_exchanges_146 ⟨by decide, by decide⟩ ?_
        refine x_iald d_X12_exchanges_147 h.1 ?_
        have h := h.2
        refine r_imul d_X12_exchanges_148 ?_
        refine r_iadd d_X12_exchanges_149 ?_
        refine r_aload_n (x := t) d_X12_exchanges_150 rfl o_t.1 ?_
        refine r_getf (j := 14) (t := 2) (x := t_newY) d_X12_exchanges_151 kX12 (by decide) fl_X12_48 o_t.1 o_t.2.1 o_t.2.2.1 o_t.2.2.2 rfl f_t_newY ?_
        refine r_iconst (x := 2) d_X12_exchanges_154 ⟨by decide, by decide⟩ ?_
        refine x_iald d_X12_exchanges_155 h.1 ?_
        have h := h.2
        refine r_iadd d_X12_exchanges_156 ?_
        refine x_iald d_X12_exchanges_157 h.1 ?_
        have h := h.2
        refine r_nm (fun y6 ey6 => ?_)
        have h := h y6 ey6
        refine r_istore (L2 := [(2, t), (0, x1), (0, x2), (1, x3), (3, 0), (0, x5), (0, x6), (0, v4), (0, y5), (0, y6), (3, 0), (3, 0), (3, 0)]) d_X12_exchanges_158 (by decide) rfl rfl ?_
        refine r_iload (x := y5) d_X12_exchanges_160 rfl ?_
        refine r_if_eq (tgt := 286) d_X12_exchanges_162 rfl (fun hc => ?_) (fun hc => ?_)
        · have h := h.1 hc
          refine x_iinc (x := x6) (L := [(2, t), (0, x1), (0, x2), (1, x3), (3, 0), (0, x5), (0, x6), (0, v4), (0, y5), (0, y6), (3, 0), (3, 0), (3, 0)]) d_X12_exchanges_286 rfl (by decide) rfl (fun y7 ey7 => ?_)
          have h := h y7 ey7
          show WP _ _ _ _ _ _ _ _ [(2, t), (0, x1), (0, x2), (1, x3), (3, 0), (0, x5), (0, y7), (0, v4), (0, y5), (0, y6), (3, 0), (3, 0), (3, 0)] _ _ _ _
          refine r_goto (tgt := 59) d_X12_exchanges_289 rfl ?_
          exact x_mask h ⟨Or.inr rfl, Or.inr rfl, Or.inr rfl, Or.inr rfl, Or.inl rfl, Or.inr rfl, Or.inr rfl, Or.inl rfl, Or.inl rfl, Or.inl rfl, Or.inl rfl, Or.inl rfl, Or.inl rfl, trivial⟩
        · have h := h.2 hc
          refine r_iload (x := y6) d_X12_exchanges_165 rfl ?_
          refine r_if_ne (tgt := 173) d_X12_exchanges_167 rfl (fun hc => ?_) (fun hc => ?_)
          · have h := h.1 hc
            refine r_iload (x := v4) d_X12_exchanges_173 rfl ?_
            refine r_iconst (x := 2) d_X12_exchanges_175 ⟨by decide, by decide⟩ ?_
            refine r_irem d_X12_exchanges_176 (by decide) ?_
            refine r_if_ne (tgt := 184) d_X12_exchanges_177 rfl (fun hc => ?_) (fun hc => ?_)
            · have h := h.1 hc
              refine r_ldc2 (x := (-1)) d_X12_exchanges_184 ck_X12_166 (by decide) ?_
              refine r_iload (x := y5) d_X12_exchanges_187 rfl ?_
              refine r_if_ge (tgt := 198) d_X12_exchanges_189 rfl (fun hc => ?_) (fun hc => ?_)
              · have h := h.1 hc
                refine r_lconst d_X12_exchanges_198 ?_
                skip
                refine r_lmul d_X12_exchanges_199 ?_
                refine r_iload (x := y6) d_X12_exchanges_200 rfl ?_
                refine r_if_ge (tgt := 211) d_X12_exchanges_202 rfl (fun hc => ?_) (fun hc => ?_)
                · have h := h.1 hc
                  refine r_lconst d_X12_exchanges_211 ?_
                  skip
                  refine r_lmul d_X12_exchanges_212 ?_
                  refine r_nm (fun y8 ey8 => ?_)
                  have h := h y8 ey8
                  refine r_lstore (L2 := [(2, t), (0, x1), (0, x2), (1, x3), (3, 0), (0, x5), (0, x6), (0, v4), (0, y5), (0, y6), (1, y8), (3, 0), (3, 0)]) d_X12_exchanges_213 (by decide) rfl rfl ?_
                  refine r_iconst (x := 0) d_X12_exchanges_215 ⟨by decide, by decide⟩ ?_
                  refine r_istore (L2 := [(2, t), (0, x1), (0, x2), (1, x3), (3, 0), (0, x5), (0, x6), (0, v4), (0, y5), (0, y6), (1, y8), (3, 0), (0, 0)]) d_X12_exchanges_216 (by decide) rfl rfl ?_
                  exact h
                · have h := h.2 hc
                  refine r_ldc2 (x := (-1)) d_X12_exchanges_205 ck_X12_166 (by decide) ?_
                  refine r_goto (tgt := 212) d_X12_exchanges_208 rfl ?_
                  refine r_lmul d_X12_exchanges_212 ?_
                  refine r_nm (fun y9 ey9 => ?_)
                  have h := h y9 ey9
                  refine r_lstore (L2 := [(2, t), (0, x1), (0, x2), (1, x3), (3, 0), (0, x5), (0, x6), (0, v4), (0, y5), (0, y6), (1, y9), (3, 0), (3, 0)]) d_X12_exchanges_213 (by decide) rfl rfl ?_
                  refine r_iconst (x := 0) d_X12_exchanges_215 ⟨by decide, by decide⟩ ?_
                  refine r_istore (L2 := [(2, t), (0, x1), (0, x2), (1, x3), (3, 0), (0, x5), (0, x6), (0, v4), (0, y5), (0, y6), (1, y9), (3, 0), (0, 0)]) d_X12_exchanges_216 (by decide) rfl rfl ?_
                  exact h
              · have h := h.2 hc
                refine r_ldc2 (x := (-1)) d_X12_exchanges_192 ck_X12_166 (by decide) ?_
                refine r_goto (tgt := 199) d_X12_exchanges_195 rfl ?_
                refine r_lmul d_X12_exchanges_199 ?_
                refine r_iload (x := y6) d_X12_exchanges_200 rfl ?_
                refine r_if_ge (tgt := 211) d_X12_exchanges_202 rfl (fun hc => ?_) (fun hc => ?_)
                · have h := h.1 hc
                  refine r_lconst d_X12_exchanges_211 ?_
                  skip
                  refine r_lmul d_X12_exchanges_212 ?_
                  refine r_nm (fun y10 ey10 => ?_)
                  have h := h y10 ey10
                  refine r_lstore (L2 := [(2, t), (0, x1), (0, x2), (1, x3), (3, 0), (0, x5), (0, x6), (0, v4), (0, y5), (0, y6), (1, y10), (3, 0), (3, 0)]) d_X12_exchanges_213 (by decide) rfl rfl ?_
                  refine r_iconst (x := 0) d_X12_exchanges_215 ⟨by decide, by decide⟩ ?_
                  refine r_istore (L2 := [(2, t), (0, x1), (0, x2), (1, x3), (3, 0), (0, x5), (0, x6), (0, v4), (0, y5), (0, y6), (1, y10), (3, 0), (0, 0)]) d_X12_exchanges_216 (by decide) rfl rfl ?_
                  exact h
                · have h := h.2 hc
                  refine r_ldc2 (x := (-1)) d_X12_exchanges_205 ck_X12_166 (by decide) ?_
                  refine r_goto (tgt := 212) d_X12_exchanges_208 rfl ?_
                  refine r_lmul d_X12_exchanges_212 ?_
                  refine r_nm (fun y11 ey11 => ?_)
                  have h := h y11 ey11
                  refine r_lstore (L2 := [(2, t), (0, x1), (0, x2), (1, x3), (3, 0), (0, x5), (0, x6), (0, v4), (0, y5), (0, y6), (1, y11), (3, 0), (3, 0)]) d_X12_exchanges_213 (by decide) rfl rfl ?_
                  refine r_iconst (x := 0) d_X12_exchanges_215 ⟨by decide, by decide⟩ ?_
                  refine r_istore (L2 := [(2, t), (0, x1), (0, x2), (1, x3), (3, 0), (0, x5), (0, x6), (0, v4), (0, y5), (0, y6), (1, y11), (3, 0), (0, 0)]) d_X12_exchanges_216 (by decide) rfl rfl ?_
                  exact h
            · have h := h.2 hc
              refine r_lconst d_X12_exchanges_180 ?_
              skip
              refine r_goto (tgt := 187) d_X12_exchanges_181 rfl ?_
              refine r_iload (x := y5) d_X12_exchanges_187 rfl ?_
              refine r_if_ge (tgt := 198) d_X12_exchanges_189 rfl (fun hc => ?_) (fun hc => ?_)
              · have h := h.1 hc
                refine r_lconst d_X12_exchanges_198 ?_
                skip
                refine r_lmul d_X12_exchanges_199 ?_
                refine r_iload (x := y6) d_X12_exchanges_200 rfl ?_
                refine r_if_ge (tgt := 211) d_X12_exchanges_202 rfl (fun hc => ?_) (fun hc => ?_)
                · have h := h.1 hc
                  refine r_lconst d_X12_exchanges_211 ?_
                  skip
                  refine r_lmul d_X12_exchanges_212 ?_
                  refine r_nm (fun y12 ey12 => ?_)
                  have h := h y12 ey12
                  refine r_lstore (L2 := [(2, t), (0, x1), (0, x2), (1, x3), (3, 0), (0, x5), (0, x6), (0, v4), (0, y5), (0, y6), (1, y12), (3, 0), (3, 0)]) d_X12_exchanges_213 (by decide) rfl rfl ?_
                  refine r_iconst (x := 0) d_X12_exchanges_215 ⟨by decide, by decide⟩ ?_
                  refine r_istore (L2 := [(2, t), (0, x1), (0, x2), (1, x3), (3, 0), (0, x5), (0, x6), (0, v4), (0, y5), (0, y6), (1, y12), (3, 0), (0, 0)]) d_X12_exchanges_216 (by decide) rfl rfl ?_
                  exact h
                · have h := h.2 hc
                  refine r_ldc2 (x := (-1)) d_X12_exchanges_205 ck_X12_166 (by decide) ?_
                  refine r_goto (tgt := 212) d_X12_exchanges_208 rfl ?_
                  refine r_lmul d_X12_exchanges_212 ?_
                  refine r_nm (fun y13 ey13 => ?_)
                  have h := h y13 ey13
                  refine r_lstore (L2 := [(2, t), (0, x1), (0, x2), (1, x3), (3, 0), (0, x5), (0, x6), (0, v4), (0, y5), (0, y6), (1, y13), (3, 0), (3, 0)]) d_X12_exchanges_213 (by decide) rfl rfl ?_
                  refine r_iconst (x := 0) d_X12_exchanges_215 ⟨by decide, by decide⟩ ?_
                  refine r_istore (L2 := [(2, t), (0, x1), (0, x2), (1, x3), (3, 0), (0, x5), (0, x6), (0, v4), (0, y5), (0, y6), (1, y13), (3, 0), (0, 0)]) d_X12_exchanges_216 (by decide) rfl rfl ?_
                  exact h
              · have h := h.2 hc
                refine r_ldc2 (x := (-1)) d_X12_exchanges_192 ck_X12_166 (by decide) ?_
                refine r_goto (tgt := 199) d_X12_exchanges_195 rfl ?_
                refine r_lmul d_X12_exchanges_199 ?_
                refine r_iload (x := y6) d_X12_exchanges_200 rfl ?_
                refine r_if_ge (tgt := 211) d_X12_exchanges_202 rfl (fun hc => ?_) (fun hc => ?_)
                · have h := h.1 hc
                  refine r_lconst d_X12_exchanges_211 ?_
                  skip
                  refine r_lmul d_X12_exchanges_212 ?_
                  refine r_nm (fun y14 ey14 => ?_)
                  have h := h y14 ey14
                  refine r_lstore (L2 := [(2, t), (0, x1), (0, x2), (1, x3), (3, 0), (0, x5), (0, x6), (0, v4), (0, y5), (0, y6), (1, y14), (3, 0), (3, 0)]) d_X12_exchanges_213 (by decide) rfl rfl ?_
                  refine r_iconst (x := 0) d_X12_exchanges_215 ⟨by decide, by decide⟩ ?_
                  refine r_istore (L2 := [(2, t), (0, x1), (0, x2), (1, x3), (3, 0), (0, x5), (0, x6), (0, v4), (0, y5), (0, y6), (1, y14), (3, 0), (0, 0)]) d_X12_exchanges_216 (by decide) rfl rfl ?_
                  exact h
                · have h := h.2 hc
                  refine r_ldc2 (x := (-1)) d_X12_exchanges_205 ck_X12_166 (by decide) ?_
                  refine r_goto (tgt := 212) d_X12_exchanges_208 rfl ?_
                  refine r_lmul d_X12_exchanges_212 ?_
                  refine r_nm (fun y15 ey15 => ?_)
                  have h := h y15 ey15
                  refine r_lstore (L2 := [(2, t), (0, x1), (0, x2), (1, x3), (3, 0), (0, x5), (0, x6), (0, v4), (0, y5), (0, y6), (1, y15), (3, 0), (3, 0)]) d_X12_exchanges_213 (by decide) rfl rfl ?_
                  refine r_iconst (x := 0) d_X12_exchanges_215 ⟨by decide, by decide⟩ ?_
                  refine r_istore (L2 := [(2, t), (0, x1), (0, x2), (1, x3), (3, 0), (0, x5), (0, x6), (0, v4), (0, y5), (0, y6), (1, y15), (3, 0), (0, 0)]) d_X12_exchanges_216 (by decide) rfl rfl ?_
                  exact h
          · have h := h.2 hc
            refine r_goto (tgt := 286) d_X12_exchanges_170 rfl ?_
            refine x_iinc (x := x6) (L := [(2, t), (0, x1), (0, x2), (1, x3), (3, 0), (0, x5), (0, x6), (0, v4), (0, y5), (0, y6), (3, 0), (3, 0), (3, 0)]) d_X12_exchanges_286 rfl (by decide) rfl (fun y16 ey16 => ?_)
            have h := h y16 ey16
            show WP _ _ _ _ _ _ _ _ [(2, t), (0, x1), (0, x2), (1, x3), (3, 0), (0, x5), (0, y16), (0, v4), (0, y5), (0, y6), (3, 0), (3, 0), (3, 0)] _ _ _ _
            refine r_goto (tgt := 59) d_X12_exchanges_289 rfl ?_
            exact x_mask h ⟨Or.inr rfl, Or.inr rfl, Or.inr rfl, Or.inr rfl, Or.inl rfl, Or.inr rfl, Or.inr rfl, Or.inl rfl, Or.inl rfl, Or.inl rfl, Or.inl rfl, Or.inl rfl, Or.inl rfl, trivial⟩
      · have h := h.2 hc
        refine r_goto (tgt := 286) d_X12_exchanges_82 rfl ?_
        refine x_iinc (x := x6) (L := [(2, t), (0, x1), (0, x2), (1, x3), (3, 0), (0, x5), (0, x6), (3, 0), (3, 0), (3, 0), (3, 0), (3, 0), (3, 0)]) d_X12_exchanges_286 rfl (by decide) rfl (fun y17 ey17 => ?_)
        have h := h y17 ey17
        show WP _ _ _ _ _ _ _ _ [(2, t), (0, x1), (0, x2), (1, x3), (3, 0), (0, x5), (0, y17), (3, 0), (3, 0), (3, 0), (3, 0), (3, 0), (3, 0)] _ _ _ _
        refine r_goto (tgt := 59) d_X12_exchanges_289 rfl ?_
        exact h
theorem v_X12_exchanges_218 {l : Launch} {d N : Nat} {Λ : Lay} {P : Mem → Prop} {σ : Mem} {x1 x2 x3 x5 x6 x7 x8 x9 x10 x12 t t_kept t_ranks : Int} (o_t : Ob N Λ t 21 36) (f_t_ranks : (Λ t).2.2 9 = t_ranks) (f_t_kept : (Λ t).2.2 15 = t_kept) (h0d : 1 ≤ d)
    (h : ((x2 ≤ x12 → ((0 ≤ x8 → (Ix N Λ t_ranks 0 x2 ∧ (∀ τ1, τ1 = st σ t_ranks x2 x8 → ((0 ≤ x9 → (Ix N Λ t_ranks 0 (addI x2 1) ∧ (∀ τ2, τ2 = st τ1 t_ranks (addI x2 1) x9 → (CI l mX12_keyOf (d - 1) [(2, t), (0, (addI x2 2))] N Λ τ2 (fun v4 σ3 => (CI l mX12_puts (d - 1) [(2, t), (0, x5), (0, v4), (1, (mulL x10 x3))] N Λ σ3 (fun v6 σ5 => (∀ y7, y7 = addI x6 (-1) → WV l mX12_exchanges d P 59 [(2, t), (0, x1), (0, x2), (1, x3), (3, 0), (0, x5), (0, y7), (3, 0), (3, 0), (3, 0), (3, 0), (3, 0), (3, 0)] [] N Λ σ5)))))))) ∧ (¬ (0 ≤ x9) → (Ix N Λ t_ranks 0 (addI x2 1) ∧ (∀ τ8, τ8 = st τ1 t_ranks (addI x2 1) (negI x9) → (CI l mX12_keyOf (d - 1) [(2, t), (0, (addI x2 2))] N Λ τ8 (fun v10 σ9 => (CI l mX12_puts (d - 1) [(2, t), (0, x5), (0, v10), (1, (mulL x10 x3))] N Λ σ9 (fun v12 σ11 => (∀ y13, y13 = addI x6 (-1) → WV l mX12_exchanges d P 59 [(2, t), (0, x1), (0, x2), (1, x3), (3, 0), (0, x5), (0, y13), (3, 0), (3, 0), (3, 0), (3, 0), (3, 0), (3, 0)] [] N Λ σ11)))))))))))) ∧ (¬ (0 ≤ x8) → (Ix N Λ t_ranks 0 x2 ∧ (∀ τ14, τ14 = st σ t_ranks x2 (negI x8) → ((0 ≤ x9 → (Ix N Λ t_ranks 0 (addI x2 1) ∧ (∀ τ15, τ15 = st τ14 t_ranks (addI x2 1) x9 → (CI l mX12_keyOf (d - 1) [(2, t), (0, (addI x2 2))] N Λ τ15 (fun v17 σ16 => (CI l mX12_puts (d - 1) [(2, t), (0, x5), (0, v17), (1, (mulL x10 x3))] N Λ σ16 (fun v19 σ18 => (∀ y20, y20 = addI x6 (-1) → WV l mX12_exchanges d P 59 [(2, t), (0, x1), (0, x2), (1, x3), (3, 0), (0, x5), (0, y20), (3, 0), (3, 0), (3, 0), (3, 0), (3, 0), (3, 0)] [] N Λ σ18)))))))) ∧ (¬ (0 ≤ x9) → (Ix N Λ t_ranks 0 (addI x2 1) ∧ (∀ τ21, τ21 = st τ14 t_ranks (addI x2 1) (negI x9) → (CI l mX12_keyOf (d - 1) [(2, t), (0, (addI x2 2))] N Λ τ21 (fun v23 σ22 => (CI l mX12_puts (d - 1) [(2, t), (0, x5), (0, v23), (1, (mulL x10 x3))] N Λ σ22 (fun v25 σ24 => (∀ y26, y26 = addI x6 (-1) → WV l mX12_exchanges d P 59 [(2, t), (0, x1), (0, x2), (1, x3), (3, 0), (0, x5), (0, y26), (3, 0), (3, 0), (3, 0), (3, 0), (3, 0), (3, 0)] [] N Λ σ24)))))))))))))) ∧ (¬ (x2 ≤ x12) → (Ix N Λ t_kept 0 x12 ∧ (Ix N Λ t_ranks 0 x12 ∧ (∀ τ27, τ27 = st σ t_ranks x12 (σ t_kept x12) → (∀ y28, y28 = addI x12 1 → WV l mX12_exchanges d P 218 [(2, t), (0, x1), (0, x2), (1, x3), (3, 0), (0, x5), (0, x6), (0, x7), (0, x8), (0, x9), (1, x10), (3, 0), (0, y28)] [] N Λ τ27))))))) :
    WV l mX12_exchanges d P 218 [(2, t), (0, x1), (0, x2), (1, x3), (3, 0), (0, x5), (0, x6), (0, x7), (0, x8), (0, x9), (1, x10), (3, 0), (0, x12)] [] N Λ σ := by
  have hd_1 : 1 ≤ d := Nat.le_trans (by decide) h0d
  refine r_iload (x := x12) d_X12_exchanges_218 rfl ?_
  refine r_iload_n (x := x2) d_X12_exchanges_220 rfl ?_
  refine r_ic_ge (tgt := 244) d_X12_exchanges_221 rfl (fun hc => ?_) (fun hc => ?_)
  · have h := h.1 hc
    refine r_aload_n (x := t) d_X12_exchanges_244 rfl o_t.1 ?_
    refine r_getf (j := 9) (t := 2) (x := t_ranks) d_X12_exchanges_245 kX12 (by decide) fl_X12_33 o_t.1 o_t.2.1 o_t.2.2.1 o_t.2.2.2 rfl f_t_ranks ?_
    refine r_iload_n (x := x2) d_X12_exchanges_248 rfl ?_
    refine r_iload (x := x8) d_X12_exchanges_249 rfl ?_
    refine x_callSI (Y2 := mX12_sizeOf) (As := [(0, x8)]) (S := [(0, x2), (2, t_ranks)]) d_X12_exchanges_251 ok_mX12_sizeOf ml_X12_168 rfl (Nat.le_of_ble_eq_true rfl) (Nat.le_of_ble_eq_true rfl) rfl hd_1 (c_X12_sizeOf (v_X12_sizeOf_0 ?_))
    refine ⟨fun hc => ?_, fun hc => ?_⟩
    · have h := h.1 hc
      show WP l mX12_exchanges (rm d 0 0) noX _ 0 0 254 [(2, t), (0, x1), (0, x2), (1, x3), (3, 0), (0, x5), (0, x6), (0, x7), (0, x8), (0, x9), (1, x10), (3, 0), (0, x12)] [(0, x8), (0, x2), (2, t_ranks)] N Λ σ
      refine x_iast d_X12_exchanges_254 h.1 ?_
      have h := h.2
      refine r_nmM (fun τ1 eτ1 => ?_)
      have h := h τ1 eτ1
      refine r_aload_n (x := t) d_X12_exchanges_255 rfl o_t.1 ?_
      refine r_getf (j := 9) (t := 2) (x := t_ranks) d_X12_exchanges_256 kX12 (by decide) fl_X12_33 o_t.1 o_t.2.1 o_t.2.2.1 o_t.2.2.2 rfl f_t_ranks ?_
      refine r_iload_n (x := x2) d_X12_exchanges_259 rfl ?_
      refine r_iconst (x := 1) d_X12_exchanges_260 ⟨by decide, by decide⟩ ?_
      refine r_iadd d_X12_exchanges_261 ?_
      refine r_iload (x := x9) d_X12_exchanges_262 rfl ?_
      refine x_callSI (Y2 := mX12_sizeOf) (As := [(0, x9)]) (S := [(0, (addI x2 1)), (2, t_ranks)]) d_X12_exchanges_264 ok_mX12_sizeOf ml_X12_168 rfl (Nat.le_of_ble_eq_true rfl) (Nat.le_of_ble_eq_true rfl) rfl hd_1 (c_X12_sizeOf (v_X12_sizeOf_0 ?_))
      refine ⟨fun hc => ?_, fun hc => ?_⟩
      · have h := h.1 hc
        show WP l mX12_exchanges (rm d 0 0) noX _ 0 0 267 [(2, t), (0, x1), (0, x2), (1, x3), (3, 0), (0, x5), (0, x6), (0, x7), (0, x8), (0, x9), (1, x10), (3, 0), (0, x12)] [(0, x9), (0, (addI x2 1)), (2, t_ranks)] N Λ τ1
        refine x_iast d_X12_exchanges_267 h.1 ?_
        have h := h.2
        refine r_nmM (fun τ2 eτ2 => ?_)
        have h := h τ2 eτ2
        refine r_aload_n (x := t) d_X12_exchanges_268 rfl o_t.1 ?_
        refine r_iload (x := x5) d_X12_exchanges_269 rfl ?_
        refine r_aload_n (x := t) d_X12_exchanges_271 rfl o_t.1 ?_
        refine r_iload_n (x := x2) d_X12_exchanges_272 rfl ?_
        refine r_iconst (x := 2) d_X12_exchanges_273 ⟨by decide, by decide⟩ ?_
        refine r_iadd d_X12_exchanges_274 ?_
        refine x_callVI (Y2 := mX12_keyOf) (c := t) (As := [(0, (addI x2 2))]) (S := [(0, x5), (2, t)]) d_X12_exchanges_275 ok_mX12_keyOf ml_X12_141 rfl (Nat.le_of_ble_eq_true rfl) (Nat.le_of_ble_eq_true rfl) rfl hd_1 kX12 o_t (CI.mono h (fun v4 σ3 h => ?_))
        refine r_lload (x := x10) d_X12_exchanges_278 rfl ?_
        refine r_lload_n (x := x3) d_X12_exchanges_280 rfl ?_
        refine r_lmul d_X12_exchanges_281 ?_
        refine x_callVI (Y2 := mX12_puts) (c := t) (As := [(0, x5), (0, v4), (1, (mulL x10 x3))]) (S := []) d_X12_exchanges_282 ok_mX12_puts ml_X12_147 rfl (Nat.le_of_ble_eq_true rfl) (Nat.le_of_ble_eq_true rfl) rfl hd_1 kX12 o_t (CI.mono h (fun v6 σ5 h => ?_))
        refine r_pop d_X12_exchanges_285 rfl ?_
        refine x_iinc (x := x6) (L := [(2, t), (0, x1), (0, x2), (1, x3), (3, 0), (0, x5), (0, x6), (0, x7), (0, x8), (0, x9), (1, x10), (3, 0), (0, x12)]) d_X12_exchanges_286 rfl (by decide) rfl (fun y7 ey7 => ?_)
        have h := h y7 ey7
        show WP _ _ _ _ _ _ _ _ [(2, t), (0, x1), (0, x2), (1, x3), (3, 0), (0, x5), (0, y7), (0, x7), (0, x8), (0, x9), (1, x10), (3, 0), (0, x12)] _ _ _ _
        refine r_goto (tgt := 59) d_X12_exchanges_289 rfl ?_
        exact x_mask h ⟨Or.inr rfl, Or.inr rfl, Or.inr rfl, Or.inr rfl, Or.inl rfl, Or.inr rfl, Or.inr rfl, Or.inl rfl, Or.inl rfl, Or.inl rfl, Or.inl rfl, Or.inl rfl, Or.inl rfl, trivial⟩
      · have h := h.2 hc
        show WP l mX12_exchanges (rm d 0 0) noX _ 0 0 267 [(2, t), (0, x1), (0, x2), (1, x3), (3, 0), (0, x5), (0, x6), (0, x7), (0, x8), (0, x9), (1, x10), (3, 0), (0, x12)] [(0, (negI x9)), (0, (addI x2 1)), (2, t_ranks)] N Λ τ1
        refine x_iast d_X12_exchanges_267 h.1 ?_
        have h := h.2
        refine r_nmM (fun τ8 eτ8 => ?_)
        have h := h τ8 eτ8
        refine r_aload_n (x := t) d_X12_exchanges_268 rfl o_t.1 ?_
        refine r_iload (x := x5) d_X12_exchanges_269 rfl ?_
        refine r_aload_n (x := t) d_X12_exchanges_271 rfl o_t.1 ?_
        refine r_iload_n (x := x2) d_X12_exchanges_272 rfl ?_
        refine r_iconst (x := 2) d_X12_exchanges_273 ⟨by decide, by decide⟩ ?_
        refine r_iadd d_X12_exchanges_274 ?_
        refine x_callVI (Y2 := mX12_keyOf) (c := t) (As := [(0, (addI x2 2))]) (S := [(0, x5), (2, t)]) d_X12_exchanges_275 ok_mX12_keyOf ml_X12_141 rfl (Nat.le_of_ble_eq_true rfl) (Nat.le_of_ble_eq_true rfl) rfl hd_1 kX12 o_t (CI.mono h (fun v10 σ9 h => ?_))
        refine r_lload (x := x10) d_X12_exchanges_278 rfl ?_
        refine r_lload_n (x := x3) d_X12_exchanges_280 rfl ?_
        refine r_lmul d_X12_exchanges_281 ?_
        refine x_callVI (Y2 := mX12_puts) (c := t) (As := [(0, x5), (0, v10), (1, (mulL x10 x3))]) (S := []) d_X12_exchanges_282 ok_mX12_puts ml_X12_147 rfl (Nat.le_of_ble_eq_true rfl) (Nat.le_of_ble_eq_true rfl) rfl hd_1 kX12 o_t (CI.mono h (fun v12 σ11 h => ?_))
        refine r_pop d_X12_exchanges_285 rfl ?_
        refine x_iinc (x := x6) (L := [(2, t), (0, x1), (0, x2), (1, x3), (3, 0), (0, x5), (0, x6), (0, x7), (0, x8), (0, x9), (1, x10), (3, 0), (0, x12)]) d_X12_exchanges_286 rfl (by decide) rfl (fun y13 ey13 => ?_)
        have h := h y13 ey13
        show WP _ _ _ _ _ _ _ _ [(2, t), (0, x1), (0, x2), (1, x3), (3, 0), (0, x5), (0, y13), (0, x7), (0, x8), (0, x9), (1, x10), (3, 0), (0, x12)] _ _ _ _
        refine r_goto (tgt := 59) d_X12_exchanges_289 rfl ?_
        exact x_mask h ⟨Or.inr rfl, Or.inr rfl, Or.inr rfl, Or.inr rfl, Or.inl rfl, Or.inr rfl, Or.inr rfl, Or.inl rfl, Or.inl rfl, Or.inl rfl, Or.inl rfl, Or.inl rfl, Or.inl rfl, trivial⟩
    · have h := h.2 hc
      show WP l mX12_exchanges (rm d 0 0) noX _ 0 0 254 [(2, t), (0, x1), (0, x2), (1, x3), (3, 0), (0, x5), (0, x6), (0, x7), (0, x8), (0, x9), (1, x10), (3, 0), (0, x12)] [(0, (negI x8)), (0, x2), (2, t_ranks)] N Λ σ
      refine x_iast d_X12_exchanges_254 h.1 ?_
      have h := h.2
      refine r_nmM (fun τ14 eτ14 => ?_)
      have h := h τ14 eτ14
      refine r_aload_n (x := t) d_X12_exchanges_255 rfl o_t.1 ?_
      refine r_getf (j := 9) (t := 2) (x := t_ranks) d_X12_exchanges_256 kX12 (by decide) fl_X12_33 o_t.1 o_t.2.1 o_t.2.2.1 o_t.2.2.2 rfl f_t_ranks ?_
      refine r_iload_n (x := x2) d_X12_exchanges_259 rfl ?_
      refine r_iconst (x := 1) d_X12_exchanges_260 ⟨by decide, by decide⟩ ?_
      refine r_iadd d_X12_exchanges_261 ?_
      refine r_iload (x := x9) d_X12_exchanges_262 rfl ?_
      refine x_callSI (Y2 := mX12_sizeOf) (As := [(0, x9)]) (S := [(0, (addI x2 1)), (2, t_ranks)]) d_X12_exchanges_264 ok_mX12_sizeOf ml_X12_168 rfl (Nat.le_of_ble_eq_true rfl) (Nat.le_of_ble_eq_true rfl) rfl hd_1 (c_X12_sizeOf (v_X12_sizeOf_0 ?_))
      refine ⟨fun hc => ?_, fun hc => ?_⟩
      · have h := h.1 hc
        show WP l mX12_exchanges (rm d 0 0) noX _ 0 0 267 [(2, t), (0, x1), (0, x2), (1, x3), (3, 0), (0, x5), (0, x6), (0, x7), (0, x8), (0, x9), (1, x10), (3, 0), (0, x12)] [(0, x9), (0, (addI x2 1)), (2, t_ranks)] N Λ τ14
        refine x_iast d_X12_exchanges_267 h.1 ?_
        have h := h.2
        refine r_nmM (fun τ15 eτ15 => ?_)
        have h := h τ15 eτ15
        refine r_aload_n (x := t) d_X12_exchanges_268 rfl o_t.1 ?_
        refine r_iload (x := x5) d_X12_exchanges_269 rfl ?_
        refine r_aload_n (x := t) d_X12_exchanges_271 rfl o_t.1 ?_
        refine r_iload_n (x := x2) d_X12_exchanges_272 rfl ?_
        refine r_iconst (x := 2) d_X12_exchanges_273 ⟨by decide, by decide⟩ ?_
        refine r_iadd d_X12_exchanges_274 ?_
        refine x_callVI (Y2 := mX12_keyOf) (c := t) (As := [(0, (addI x2 2))]) (S := [(0, x5), (2, t)]) d_X12_exchanges_275 ok_mX12_keyOf ml_X12_141 rfl (Nat.le_of_ble_eq_true rfl) (Nat.le_of_ble_eq_true rfl) rfl hd_1 kX12 o_t (CI.mono h (fun v17 σ16 h => ?_))
        refine r_lload (x := x10) d_X12_exchanges_278 rfl ?_
        refine r_lload_n (x := x3) d_X12_exchanges_280 rfl ?_
        refine r_lmul d_X12_exchanges_281 ?_
        refine x_callVI (Y2 := mX12_puts) (c := t) (As := [(0, x5), (0, v17), (1, (mulL x10 x3))]) (S := []) d_X12_exchanges_282 ok_mX12_puts ml_X12_147 rfl (Nat.le_of_ble_eq_true rfl) (Nat.le_of_ble_eq_true rfl) rfl hd_1 kX12 o_t (CI.mono h (fun v19 σ18 h => ?_))
        refine r_pop d_X12_exchanges_285 rfl ?_
        refine x_iinc (x := x6) (L := [(2, t), (0, x1), (0, x2), (1, x3), (3, 0), (0, x5), (0, x6), (0, x7), (0, x8), (0, x9), (1, x10), (3, 0), (0, x12)]) d_X12_exchanges_286 rfl (by decide) rfl (fun y20 ey20 => ?_)
        have h := h y20 ey20
        show WP _ _ _ _ _ _ _ _ [(2, t), (0, x1), (0, x2), (1, x3), (3, 0), (0, x5), (0, y20), (0, x7), (0, x8), (0, x9), (1, x10), (3, 0), (0, x12)] _ _ _ _
        refine r_goto (tgt := 59) d_X12_exchanges_289 rfl ?_
        exact x_mask h ⟨Or.inr rfl, Or.inr rfl, Or.inr rfl, Or.inr rfl, Or.inl rfl, Or.inr rfl, Or.inr rfl, Or.inl rfl, Or.inl rfl, Or.inl rfl, Or.inl rfl, Or.inl rfl, Or.inl rfl, trivial⟩
      · have h := h.2 hc
        show WP l mX12_exchanges (rm d 0 0) noX _ 0 0 267 [(2, t), (0, x1), (0, x2), (1, x3), (3, 0), (0, x5), (0, x6), (0, x7), (0, x8), (0, x9), (1, x10), (3, 0), (0, x12)] [(0, (negI x9)), (0, (addI x2 1)), (2, t_ranks)] N Λ τ14
        refine x_iast d_X12_exchanges_267 h.1 ?_
        have h := h.2
        refine r_nmM (fun τ21 eτ21 => ?_)
        have h := h τ21 eτ21
        refine r_aload_n (x := t) d_X12_exchanges_268 rfl o_t.1 ?_
        refine r_iload (x := x5) d_X12_exchanges_269 rfl ?_
        refine r_aload_n (x := t) d_X12_exchanges_271 rfl o_t.1 ?_
        refine r_iload_n (x := x2) d_X12_exchanges_272 rfl ?_
        refine r_iconst (x := 2) d_X12_exchanges_273 ⟨by decide, by decide⟩ ?_
        refine r_iadd d_X12_exchanges_274 ?_
        refine x_callVI (Y2 := mX12_keyOf) (c := t) (As := [(0, (addI x2 2))]) (S := [(0, x5), (2, t)]) d_X12_exchanges_275 ok_mX12_keyOf ml_X12_141 rfl (Nat.le_of_ble_eq_true rfl) (Nat.le_of_ble_eq_true rfl) rfl hd_1 kX12 o_t (CI.mono h (fun v23 σ22 h => ?_))
        refine r_lload (x := x10) d_X12_exchanges_278 rfl ?_
        refine r_lload_n (x := x3) d_X12_exchanges_280 rfl ?_
        refine r_lmul d_X12_exchanges_281 ?_
        refine x_callVI (Y2 := mX12_puts) (c := t) (As := [(0, x5), (0, v23), (1, (mulL x10 x3))]) (S := []) d_X12_exchanges_282 ok_mX12_puts ml_X12_147 rfl (Nat.le_of_ble_eq_true rfl) (Nat.le_of_ble_eq_true rfl) rfl hd_1 kX12 o_t (CI.mono h (fun v25 σ24 h => ?_))
        refine r_pop d_X12_exchanges_285 rfl ?_
        refine x_iinc (x := x6) (L := [(2, t), (0, x1), (0, x2), (1, x3), (3, 0), (0, x5), (0, x6), (0, x7), (0, x8), (0, x9), (1, x10), (3, 0), (0, x12)]) d_X12_exchanges_286 rfl (by decide) rfl (fun y26 ey26 => ?_)
        have h := h y26 ey26
        show WP _ _ _ _ _ _ _ _ [(2, t), (0, x1), (0, x2), (1, x3), (3, 0), (0, x5), (0, y26), (0, x7), (0, x8), (0, x9), (1, x10), (3, 0), (0, x12)] _ _ _ _
        refine r_goto (tgt := 59) d_X12_exchanges_289 rfl ?_
        exact x_mask h ⟨Or.inr rfl, Or.inr rfl, Or.inr rfl, Or.inr rfl, Or.inl rfl, Or.inr rfl, Or.inr rfl, Or.inl rfl, Or.inl rfl, Or.inl rfl, Or.inl rfl, Or.inl rfl, Or.inl rfl, trivial⟩
  · have h := h.2 hc
    refine r_aload_n (x := t) d_X12_exchanges_224 rfl o_t.1 ?_
    refine r_getf (j := 9) (t := 2) (x := t_ranks) d_X12_exchanges_225 kX12 (by decide) fl_X12_33 o_t.1 o_t.2.1 o_t.2.2.1 o_t.2.2.2 rfl f_t_ranks ?_
    refine r_iload (x := x12) d_X12_exchanges_228 rfl ?_
    refine r_aload_n (x := t) d_X12_exchanges_230 rfl o_t.1 ?_
    refine r_getf (j := 15) (t := 2) (x := t_kept) d_X12_exchanges_231 kX12 (by decide) fl_X12_51 o_t.1 o_t.2.1 o_t.2.2.1 o_t.2.2.2 rfl f_t_kept ?_
    refine r_iload (x := x12) d_X12_exchanges_234 rfl ?_
    refine x_iald d_X12_exchanges_236 h.1 ?_
    have h := h.2
    refine x_iast d_X12_exchanges_237 h.1 ?_
    have h := h.2
    refine r_nmM (fun τ27 eτ27 => ?_)
    have h := h τ27 eτ27
    refine x_iinc (x := x12) (L := [(2, t), (0, x1), (0, x2), (1, x3), (3, 0), (0, x5), (0, x6), (0, x7), (0, x8), (0, x9), (1, x10), (3, 0), (0, x12)]) d_X12_exchanges_238 rfl (by decide) rfl (fun y28 ey28 => ?_)
    have h := h y28 ey28
    show WP _ _ _ _ _ _ _ _ [(2, t), (0, x1), (0, x2), (1, x3), (3, 0), (0, x5), (0, x6), (0, x7), (0, x8), (0, x9), (1, x10), (3, 0), (0, y28)] _ _ _ _
    refine r_goto (tgt := 218) d_X12_exchanges_241 rfl ?_
    exact h
