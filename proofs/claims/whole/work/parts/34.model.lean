theorem d_X12_undo_0 : DC mX12_undo 0 (.aload_n 0) 1 1 := ⟨by decide +kernel, rfl⟩
theorem d_X12_undo_1 : DC mX12_undo 1 (.iconst 0) 1 2 := ⟨by decide +kernel, rfl⟩
theorem d_X12_undo_2 : DC mX12_undo 2 (.putfield 1) 3 5 := ⟨by decide +kernel, rfl⟩
theorem d_X12_undo_5 : DC mX12_undo 5 (.iload_n 1) 1 6 := ⟨by decide +kernel, rfl⟩
theorem d_X12_undo_6 : DC mX12_undo 6 (.i2l) 1 7 := ⟨by decide +kernel, rfl⟩
theorem d_X12_undo_7 : DC mX12_undo 7 (.lconst 1) 1 8 := ⟨by decide +kernel, rfl⟩
theorem d_X12_undo_8 : DC mX12_undo 8 (.ldc2_w 335) 3 11 := ⟨by decide +kernel, rfl⟩
theorem d_X12_undo_11 : DC mX12_undo 11 (.invokestatic 91) 3 14 := ⟨by decide +kernel, rfl⟩
theorem d_X12_undo_14 : DC mX12_undo 14 (.ifCond .eq 11) 3 17 := ⟨by decide +kernel, rfl⟩
theorem d_X12_undo_17 : DC mX12_undo 17 (.iload_n 1) 1 18 := ⟨by decide +kernel, rfl⟩
theorem d_X12_undo_18 : DC mX12_undo 18 (.aload_n 0) 1 19 := ⟨by decide +kernel, rfl⟩
theorem d_X12_undo_19 : DC mX12_undo 19 (.getfield 95) 3 22 := ⟨by decide +kernel, rfl⟩
theorem d_X12_undo_22 : DC mX12_undo 22 (.if_icmp .le 6) 3 25 := ⟨by decide +kernel, rfl⟩
theorem d_X12_undo_25 : DC mX12_undo 25 (.bipush (-3)) 2 27 := ⟨by decide +kernel, rfl⟩
theorem d_X12_undo_27 : DC mX12_undo 27 (.ireturn) 1 28 := ⟨by decide +kernel, rfl⟩
theorem d_X12_undo_28 : DC mX12_undo 28 (.aload_n 0) 1 29 := ⟨by decide +kernel, rfl⟩
theorem d_X12_undo_29 : DC mX12_undo 29 (.dup) 1 30 := ⟨by decide +kernel, rfl⟩
theorem d_X12_undo_30 : DC mX12_undo 30 (.getfield 95) 3 33 := ⟨by decide +kernel, rfl⟩
theorem d_X12_undo_33 : DC mX12_undo 33 (.iload_n 1) 1 34 := ⟨by decide +kernel, rfl⟩
theorem d_X12_undo_34 : DC mX12_undo 34 (.isub) 1 35 := ⟨by decide +kernel, rfl⟩
theorem d_X12_undo_35 : DC mX12_undo 35 (.putfield 95) 3 38 := ⟨by decide +kernel, rfl⟩
theorem d_X12_undo_38 : DC mX12_undo 38 (.aload_n 0) 1 39 := ⟨by decide +kernel, rfl⟩
theorem d_X12_undo_39 : DC mX12_undo 39 (.getfield 23) 3 42 := ⟨by decide +kernel, rfl⟩
theorem d_X12_undo_42 : DC mX12_undo 42 (.sipush 1116) 3 45 := ⟨by decide +kernel, rfl⟩
theorem d_X12_undo_45 : DC mX12_undo 45 (.aload_n 0) 1 46 := ⟨by decide +kernel, rfl⟩
theorem d_X12_undo_46 : DC mX12_undo 46 (.getfield 95) 3 49 := ⟨by decide +kernel, rfl⟩
theorem d_X12_undo_49 : DC mX12_undo 49 (.imul) 1 50 := ⟨by decide +kernel, rfl⟩
theorem d_X12_undo_50 : DC mX12_undo 50 (.aload_n 0) 1 51 := ⟨by decide +kernel, rfl⟩
theorem d_X12_undo_51 : DC mX12_undo 51 (.getfield 20) 3 54 := ⟨by decide +kernel, rfl⟩
theorem d_X12_undo_54 : DC mX12_undo 54 (.iconst 0) 1 55 := ⟨by decide +kernel, rfl⟩
theorem d_X12_undo_55 : DC mX12_undo 55 (.sipush 1116) 3 58 := ⟨by decide +kernel, rfl⟩
theorem d_X12_undo_58 : DC mX12_undo 58 (.invokestatic 98) 3 61 := ⟨by decide +kernel, rfl⟩
theorem d_X12_undo_61 : DC mX12_undo 61 (.aload_n 0) 1 62 := ⟨by decide +kernel, rfl⟩
theorem d_X12_undo_62 : DC mX12_undo 62 (.getfield 95) 3 65 := ⟨by decide +kernel, rfl⟩
theorem d_X12_undo_65 : DC mX12_undo 65 (.ireturn) 1 66 := ⟨by decide +kernel, rfl⟩
theorem d_X12_image_0 : DC mX12_image 0 (.aload_n 0) 1 1 := ⟨by decide +kernel, rfl⟩
theorem d_X12_image_1 : DC mX12_image 1 (.iconst 0) 1 2 := ⟨by decide +kernel, rfl⟩
theorem d_X12_image_2 : DC mX12_image 2 (.putfield 1) 3 5 := ⟨by decide +kernel, rfl⟩
theorem d_X12_image_5 : DC mX12_image 5 (.iload_n 1) 1 6 := ⟨by decide +kernel, rfl⟩
theorem d_X12_image_6 : DC mX12_image 6 (.i2l) 1 7 := ⟨by decide +kernel, rfl⟩
theorem d_X12_image_7 : DC mX12_image 7 (.lconst 0) 1 8 := ⟨by decide +kernel, rfl⟩
theorem d_X12_image_8 : DC mX12_image 8 (.lconst 1) 1 9 := ⟨by decide +kernel, rfl⟩
theorem d_X12_image_9 : DC mX12_image 9 (.invokestatic 91) 3 12 := ⟨by decide +kernel, rfl⟩
theorem d_X12_image_12 : DC mX12_image 12 (.ifCond .ne 6) 3 15 := ⟨by decide +kernel, rfl⟩
theorem d_X12_image_15 : DC mX12_image 15 (.bipush (-2)) 2 17 := ⟨by decide +kernel, rfl⟩
theorem d_X12_image_17 : DC mX12_image 17 (.ireturn) 1 18 := ⟨by decide +kernel, rfl⟩
theorem d_X12_image_18 : DC mX12_image 18 (.aload_n 0) 1 19 := ⟨by decide +kernel, rfl⟩
theorem d_X12_image_19 : DC mX12_image 19 (.getfield 20) 3 22 := ⟨by decide +kernel, rfl⟩
theorem d_X12_image_22 : DC mX12_image 22 (.iconst 0) 1 23 := ⟨by decide +kernel, rfl⟩
theorem d_X12_image_23 : DC mX12_image 23 (.aload_n 0) 1 24 := ⟨by decide +kernel, rfl⟩
theorem d_X12_image_24 : DC mX12_image 24 (.getfield 20) 3 27 := ⟨by decide +kernel, rfl⟩
theorem d_X12_image_27 : DC mX12_image 27 (.sipush 1116) 3 30 := ⟨by decide +kernel, rfl⟩
theorem d_X12_image_30 : DC mX12_image 30 (.iload_n 1) 1 31 := ⟨by decide +kernel, rfl⟩
theorem d_X12_image_31 : DC mX12_image 31 (.iconst 1) 1 32 := ⟨by decide +kernel, rfl⟩
theorem d_X12_image_32 : DC mX12_image 32 (.iadd) 1 33 := ⟨by decide +kernel, rfl⟩
theorem d_X12_image_33 : DC mX12_image 33 (.imul) 1 34 := ⟨by decide +kernel, rfl⟩
theorem d_X12_image_34 : DC mX12_image 34 (.sipush 1116) 3 37 := ⟨by decide +kernel, rfl⟩
theorem d_X12_image_37 : DC mX12_image 37 (.invokestatic 98) 3 40 := ⟨by decide +kernel, rfl⟩
theorem d_X12_image_40 : DC mX12_image 40 (.aload_n 0) 1 41 := ⟨by decide +kernel, rfl⟩
theorem d_X12_image_41 : DC mX12_image 41 (.getfield 26) 3 44 := ⟨by decide +kernel, rfl⟩
theorem d_X12_image_44 : DC mX12_image 44 (.iload_n 1) 1 45 := ⟨by decide +kernel, rfl⟩
theorem d_X12_image_45 : DC mX12_image 45 (.iconst 1) 1 46 := ⟨by decide +kernel, rfl⟩
theorem d_X12_image_46 : DC mX12_image 46 (.bastore) 1 47 := ⟨by decide +kernel, rfl⟩
theorem d_X12_image_47 : DC mX12_image 47 (.iconst 0) 1 48 := ⟨by decide +kernel, rfl⟩
theorem d_X12_image_48 : DC mX12_image 48 (.ireturn) 1 49 := ⟨by decide +kernel, rfl⟩
theorem d_X12_restore_0 : DC mX12_restore 0 (.aload_n 0) 1 1 := ⟨by decide +kernel, rfl⟩
theorem d_X12_restore_1 : DC mX12_restore 1 (.iconst 0) 1 2 := ⟨by decide +kernel, rfl⟩
theorem d_X12_restore_2 : DC mX12_restore 2 (.putfield 1) 3 5 := ⟨by decide +kernel, rfl⟩
theorem d_X12_restore_5 : DC mX12_restore 5 (.iload_n 1) 1 6 := ⟨by decide +kernel, rfl⟩
theorem d_X12_restore_6 : DC mX12_restore 6 (.i2l) 1 7 := ⟨by decide +kernel, rfl⟩
theorem d_X12_restore_7 : DC mX12_restore 7 (.lconst 0) 1 8 := ⟨by decide +kernel, rfl⟩
theorem d_X12_restore_8 : DC mX12_restore 8 (.lconst 1) 1 9 := ⟨by decide +kernel, rfl⟩
theorem d_X12_restore_9 : DC mX12_restore 9 (.invokestatic 91) 3 12 := ⟨by decide +kernel, rfl⟩
theorem d_X12_restore_12 : DC mX12_restore 12 (.ifCond .ne 6) 3 15 := ⟨by decide +kernel, rfl⟩
theorem d_X12_restore_15 : DC mX12_restore 15 (.bipush (-2)) 2 17 := ⟨by decide +kernel, rfl⟩
theorem d_X12_restore_17 : DC mX12_restore 17 (.ireturn) 1 18 := ⟨by decide +kernel, rfl⟩
theorem d_X12_restore_18 : DC mX12_restore 18 (.aload_n 0) 1 19 := ⟨by decide +kernel, rfl⟩
theorem d_X12_restore_19 : DC mX12_restore 19 (.getfield 26) 3 22 := ⟨by decide +kernel, rfl⟩
theorem d_X12_restore_22 : DC mX12_restore 22 (.iload_n 1) 1 23 := ⟨by decide +kernel, rfl⟩
theorem d_X12_restore_23 : DC mX12_restore 23 (.baload) 1 24 := ⟨by decide +kernel, rfl⟩
theorem d_X12_restore_24 : DC mX12_restore 24 (.ifCond .ne 6) 3 27 := ⟨by decide +kernel, rfl⟩
theorem d_X12_restore_27 : DC mX12_restore 27 (.bipush (-6)) 2 29 := ⟨by decide +kernel, rfl⟩
theorem d_X12_restore_29 : DC mX12_restore 29 (.ireturn) 1 30 := ⟨by decide +kernel, rfl⟩
theorem d_X12_restore_30 : DC mX12_restore 30 (.aload_n 0) 1 31 := ⟨by decide +kernel, rfl⟩
theorem d_X12_restore_31 : DC mX12_restore 31 (.getfield 20) 3 34 := ⟨by decide +kernel, rfl⟩
theorem d_X12_restore_34 : DC mX12_restore 34 (.sipush 1116) 3 37 := ⟨by decide +kernel, rfl⟩
theorem d_X12_restore_37 : DC mX12_restore 37 (.iload_n 1) 1 38 := ⟨by decide +kernel, rfl⟩
theorem d_X12_restore_38 : DC mX12_restore 38 (.iconst 1) 1 39 := ⟨by decide +kernel, rfl⟩
theorem d_X12_restore_39 : DC mX12_restore 39 (.iadd) 1 40 := ⟨by decide +kernel, rfl⟩
theorem d_X12_restore_40 : DC mX12_restore 40 (.imul) 1 41 := ⟨by decide +kernel, rfl⟩
theorem d_X12_restore_41 : DC mX12_restore 41 (.aload_n 0) 1 42 := ⟨by decide +kernel, rfl⟩
theorem d_X12_restore_42 : DC mX12_restore 42 (.getfield 20) 3 45 := ⟨by decide +kernel, rfl⟩
theorem d_X12_restore_45 : DC mX12_restore 45 (.iconst 0) 1 46 := ⟨by decide +kernel, rfl⟩
theorem d_X12_restore_46 : DC mX12_restore 46 (.sipush 1116) 3 49 := ⟨by decide +kernel, rfl⟩
theorem d_X12_restore_49 : DC mX12_restore 49 (.invokestatic 98) 3 52 := ⟨by decide +kernel, rfl⟩
theorem d_X12_restore_52 : DC mX12_restore 52 (.aload_n 0) 1 53 := ⟨by decide +kernel, rfl⟩
theorem d_X12_restore_53 : DC mX12_restore 53 (.iconst 0) 1 54 := ⟨by decide +kernel, rfl⟩
theorem d_X12_restore_54 : DC mX12_restore 54 (.putfield 95) 3 57 := ⟨by decide +kernel, rfl⟩
theorem d_X12_restore_57 : DC mX12_restore 57 (.iconst 0) 1 58 := ⟨by decide +kernel, rfl⟩
theorem d_X12_restore_58 : DC mX12_restore 58 (.ireturn) 1 59 := ⟨by decide +kernel, rfl⟩
theorem d_X12_facts_0 : DC mX12_facts 0 (.iconst 0) 1 1 := ⟨by decide +kernel, rfl⟩
theorem d_X12_facts_1 : DC mX12_facts 1 (.istore_n 2) 1 2 := ⟨by decide +kernel, rfl⟩
theorem d_X12_facts_2 : DC mX12_facts 2 (.iconst 1) 1 3 := ⟨by decide +kernel, rfl⟩
theorem d_X12_facts_3 : DC mX12_facts 3 (.istore_n 3) 1 4 := ⟨by decide +kernel, rfl⟩
theorem d_X12_facts_4 : DC mX12_facts 4 (.iload_n 3) 1 5 := ⟨by decide +kernel, rfl⟩
theorem d_X12_facts_5 : DC mX12_facts 5 (.bipush 120) 2 7 := ⟨by decide +kernel, rfl⟩
theorem d_X12_facts_7 : DC mX12_facts 7 (.if_icmp .gt 26) 3 10 := ⟨by decide +kernel, rfl⟩
theorem d_X12_facts_10 : DC mX12_facts 10 (.iload_n 2) 1 11 := ⟨by decide +kernel, rfl⟩
theorem d_X12_facts_11 : DC mX12_facts 11 (.aload_n 0) 1 12 := ⟨by decide +kernel, rfl⟩
theorem d_X12_facts_12 : DC mX12_facts 12 (.iload_n 3) 1 13 := ⟨by decide +kernel, rfl⟩
theorem d_X12_facts_13 : DC mX12_facts 13 (.invokevirtual 244) 3 16 := ⟨by decide +kernel, rfl⟩
theorem d_X12_facts_16 : DC mX12_facts 16 (.iload_n 1) 1 17 := ⟨by decide +kernel, rfl⟩
theorem d_X12_facts_17 : DC mX12_facts 17 (.if_icmp .ne 7) 3 20 := ⟨by decide +kernel, rfl⟩
theorem d_X12_facts_20 : DC mX12_facts 20 (.iconst 1) 1 21 := ⟨by decide +kernel, rfl⟩
theorem d_X12_facts_21 : DC mX12_facts 21 (.goto 4) 3 24 := ⟨by decide +kernel, rfl⟩
theorem d_X12_facts_24 : DC mX12_facts 24 (.iconst 0) 1 25 := ⟨by decide +kernel, rfl⟩
theorem d_X12_facts_25 : DC mX12_facts 25 (.iadd) 1 26 := ⟨by decide +kernel, rfl⟩
theorem d_X12_facts_26 : DC mX12_facts 26 (.istore_n 2) 1 27 := ⟨by decide +kernel, rfl⟩
theorem d_X12_facts_27 : DC mX12_facts 27 (.iinc 3 1) 3 30 := ⟨by decide +kernel, rfl⟩
theorem d_X12_facts_30 : DC mX12_facts 30 (.goto (-26)) 3 33 := ⟨by decide +kernel, rfl⟩
theorem d_X12_facts_33 : DC mX12_facts 33 (.iload_n 2) 1 34 := ⟨by decide +kernel, rfl⟩
theorem d_X12_facts_34 : DC mX12_facts 34 (.ireturn) 1 35 := ⟨by decide +kernel, rfl⟩
theorem d_X12_count_0 : DC mX12_count 0 (.aload_n 0) 1 1 := ⟨by decide +kernel, rfl⟩
theorem d_X12_count_1 : DC mX12_count 1 (.iconst 0) 1 2 := ⟨by decide +kernel, rfl⟩
theorem d_X12_count_2 : DC mX12_count 2 (.putfield 1) 3 5 := ⟨by decide +kernel, rfl⟩
theorem d_X12_count_5 : DC mX12_count 5 (.iconst 0) 1 6 := ⟨by decide +kernel, rfl⟩
theorem d_X12_count_6 : DC mX12_count 6 (.istore_n 2) 1 7 := ⟨by decide +kernel, rfl⟩
theorem d_X12_count_7 : DC mX12_count 7 (.iload_n 1) 1 8 := ⟨by decide +kernel, rfl⟩
theorem d_X12_count_8 : DC mX12_count 8 (.tableswitch 123 0 5 #[40, 69, 75, 81, 86, 91]) 40 48 := ⟨by decide +kernel, rfl⟩
theorem d_X12_count_48 : DC mX12_count 48 (.iconst 0) 1 49 := ⟨by decide +kernel, rfl⟩
theorem d_X12_count_49 : DC mX12_count 49 (.istore_n 3) 1 50 := ⟨by decide +kernel, rfl⟩
theorem d_X12_count_50 : DC mX12_count 50 (.iload_n 3) 1 51 := ⟨by decide +kernel, rfl⟩
theorem d_X12_count_51 : DC mX12_count 51 (.bipush 6) 2 53 := ⟨by decide +kernel, rfl⟩
theorem d_X12_count_53 : DC mX12_count 53 (.if_icmp .ge 22) 3 56 := ⟨by decide +kernel, rfl⟩
theorem d_X12_count_56 : DC mX12_count 56 (.iload_n 2) 1 57 := ⟨by decide +kernel, rfl⟩
theorem d_X12_count_57 : DC mX12_count 57 (.aload_n 0) 1 58 := ⟨by decide +kernel, rfl⟩
theorem d_X12_count_58 : DC mX12_count 58 (.getfield 20) 3 61 := ⟨by decide +kernel, rfl⟩
theorem d_X12_count_61 : DC mX12_count 61 (.sipush 161) 3 64 := ⟨by decide +kernel, rfl⟩
theorem d_X12_count_64 : DC mX12_count 64 (.iload_n 3) 1 65 := ⟨by decide +kernel, rfl⟩
theorem d_X12_count_65 : DC mX12_count 65 (.imul) 1 66 := ⟨by decide +kernel, rfl⟩
theorem d_X12_count_66 : DC mX12_count 66 (.iaload) 1 67 := ⟨by decide +kernel, rfl⟩
theorem d_X12_count_67 : DC mX12_count 67 (.iadd) 1 68 := ⟨by decide +kernel, rfl⟩
theorem d_X12_count_68 : DC mX12_count 68 (.istore_n 2) 1 69 := ⟨by decide +kernel, rfl⟩
theorem d_X12_count_69 : DC mX12_count 69 (.iinc 3 1) 3 72 := ⟨by decide +kernel, rfl⟩
theorem d_X12_count_72 : DC mX12_count 72 (.goto (-22)) 3 75 := ⟨by decide +kernel, rfl⟩
theorem d_X12_count_75 : DC mX12_count 75 (.iload_n 2) 1 76 := ⟨by decide +kernel, rfl⟩
theorem d_X12_count_76 : DC mX12_count 76 (.ireturn) 1 77 := ⟨by decide +kernel, rfl⟩
theorem d_X12_count_77 : DC mX12_count 77 (.aload_n 0) 1 78 := ⟨by decide +kernel, rfl⟩
theorem d_X12_count_78 : DC mX12_count 78 (.iconst 0) 1 79 := ⟨by decide +kernel, rfl⟩
theorem d_X12_count_79 : DC mX12_count 79 (.invokevirtual 425) 3 82 := ⟨by decide +kernel, rfl⟩
theorem d_X12_count_82 : DC mX12_count 82 (.ireturn) 1 83 := ⟨by decide +kernel, rfl⟩
theorem d_X12_count_83 : DC mX12_count 83 (.aload_n 0) 1 84 := ⟨by decide +kernel, rfl⟩
theorem d_X12_count_84 : DC mX12_count 84 (.iconst 1) 1 85 := ⟨by decide +kernel, rfl⟩
theorem d_X12_count_85 : DC mX12_count 85 (.invokevirtual 425) 3 88 := ⟨by decide +kernel, rfl⟩
theorem d_X12_count_88 : DC mX12_count 88 (.ireturn) 1 89 := ⟨by decide +kernel, rfl⟩
theorem d_X12_count_89 : DC mX12_count 89 (.aload_n 0) 1 90 := ⟨by decide +kernel, rfl⟩
theorem d_X12_count_90 : DC mX12_count 90 (.getfield 252) 3 93 := ⟨by decide +kernel, rfl⟩
theorem d_X12_count_93 : DC mX12_count 93 (.ireturn) 1 94 := ⟨by decide +kernel, rfl⟩
theorem d_X12_count_94 : DC mX12_count 94 (.aload_n 0) 1 95 := ⟨by decide +kernel, rfl⟩
theorem d_X12_count_95 : DC mX12_count 95 (.getfield 95) 3 98 := ⟨by decide +kernel, rfl⟩
theorem d_X12_count_98 : DC mX12_count 98 (.ireturn) 1 99 := ⟨by decide +kernel, rfl⟩
theorem d_X12_count_99 : DC mX12_count 99 (.iconst 1) 1 100 := ⟨by decide +kernel, rfl⟩
theorem d_X12_count_100 : DC mX12_count 100 (.istore_n 3) 1 101 := ⟨by decide +kernel, rfl⟩
theorem d_X12_count_101 : DC mX12_count 101 (.iload_n 3) 1 102 := ⟨by decide +kernel, rfl⟩
theorem d_X12_count_102 : DC mX12_count 102 (.bipush 120) 2 104 := ⟨by decide +kernel, rfl⟩
theorem d_X12_count_104 : DC mX12_count 104 (.if_icmp .gt 25) 3 107 := ⟨by decide +kernel, rfl⟩
theorem d_X12_count_107 : DC mX12_count 107 (.iload_n 2) 1 108 := ⟨by decide +kernel, rfl⟩
theorem d_X12_count_108 : DC mX12_count 108 (.aload_n 0) 1 109 := ⟨by decide +kernel, rfl⟩
theorem d_X12_count_109 : DC mX12_count 109 (.iload_n 3) 1 110 := ⟨by decide +kernel, rfl⟩
theorem d_X12_count_110 : DC mX12_count 110 (.invokevirtual 418) 3 113 := ⟨by decide +kernel, rfl⟩
theorem d_X12_count_113 : DC mX12_count 113 (.ifCond .ne 7) 3 116 := ⟨by decide +kernel, rfl⟩
theorem d_X12_count_116 : DC mX12_count 116 (.iconst 1) 1 117 := ⟨by decide +kernel, rfl⟩
theorem d_X12_count_117 : DC mX12_count 117 (.goto 4) 3 120 := ⟨by decide +kernel, rfl⟩
theorem d_X12_count_120 : DC mX12_count 120 (.iconst 0) 1 121 := ⟨by decide +kernel, rfl⟩
theorem d_X12_count_121 : DC mX12_count 121 (.iadd) 1 122 := ⟨by decide +kernel, rfl⟩
theorem d_X12_count_122 : DC mX12_count 122 (.istore_n 2) 1 123 := ⟨by decide +kernel, rfl⟩
theorem d_X12_count_123 : DC mX12_count 123 (.iinc 3 1) 3 126 := ⟨by decide +kernel, rfl⟩
theorem d_X12_count_126 : DC mX12_count 126 (.goto (-25)) 3 129 := ⟨by decide +kernel, rfl⟩
theorem d_X12_count_129 : DC mX12_count 129 (.iload_n 2) 1 130 := ⟨by decide +kernel, rfl⟩
theorem d_X12_count_130 : DC mX12_count 130 (.ireturn) 1 131 := ⟨by decide +kernel, rfl⟩
theorem d_X12_count_131 : DC mX12_count 131 (.iconst (-1)) 1 132 := ⟨by decide +kernel, rfl⟩
theorem d_X12_count_132 : DC mX12_count 132 (.ireturn) 1 133 := ⟨by decide +kernel, rfl⟩
theorem v_X12_undo_0 {l : Launch} {d N : Nat} {Λ : Lay} {P : Int → Mem → Prop} {σ : Mem} {x1 t t_deeds t_state : Int} (o_t : Ob N Λ t 21 36) (f_t_deeds : (Λ t).2.2 4 = t_deeds) (f_t_state : (Λ t).2.2 3 = t_state) (h0d : 1 ≤ d)
    (h : (∀ τ1, τ1 = st σ t 0 0 → (CI l mX12_within (d - 1) [(1, x1), (1, 1), (1, 10)] N Λ τ1 (fun v3 σ2 => ((v3 = 0 → P (-3) σ2) ∧ (¬ (v3 = 0) → ((x1 ≤ (σ2 t 5) → (∀ τ4, τ4 = st σ2 t 5 (subI (σ2 t 5) x1) → (CV l mX12_copies (d - 1) [(2, t_deeds), (0, (mulI 1116 (τ4 t 5))), (2, t_state), (0, 0), (0, 1116)] N Λ τ4 (fun σ5 => P (σ5 t 5) σ5)))) ∧ (¬ (x1 ≤ (σ2 t 5)) → P (-3) σ2)))))))) :
    WI l mX12_undo d P 0 [(2, t), (0, x1)] [] N Λ σ := by
  refine r_aload_n (x := t) d_X12_undo_0 rfl o_t.1 ?_
  refine r_iconst (x := 0) d_X12_undo_1 ⟨by decide, by decide⟩ ?_
  refine r_putI (j := 0) d_X12_undo_2 kX12 (by decide) fl_X12_1 rfl o_t.1 o_t.2.1 o_t.2.2.1 o_t.2.2.2 rfl ?_
  refine r_nmM (fun τ1 eτ1 => ?_)
  have h := h τ1 eτ1
  refine r_iload_n (x := x1) d_X12_undo_5 rfl ?_
  refine r_i2l d_X12_undo_6 ?_
  refine r_lconst d_X12_undo_7 ?_
  skip
  refine r_ldc2 (x := 10) d_X12_undo_8 ck_X12_335 (by decide) ?_
  refine r_callS (Y2 := mX12_within) (d := d - 1) (mc := 0) (ms := 0) (As := [(1, x1), (1, 1), (1, 10)]) (S := []) d_X12_undo_11 ok_mX12_within ml_X12_91 rfl (rmc h0d (by decide)) rm00 (Nat.le_of_ble_eq_true rfl) rfl (MC.mono h (fun r N1 Λ1 σ2 hq => ?_))
  obtain ⟨v3, rfl, rfl, rfl, h⟩ := hq
  refine r_if_eq (tgt := 25) d_X12_undo_14 rfl (fun hc => ?_) (fun hc => ?_)
  · have h := h.1 hc
    refine r_bipush (x := (-3)) d_X12_undo_25 ⟨by decide, by decide⟩ (by decide) ?_
    exact r_iret d_X12_undo_27 rfl rfl (Nat.le_refl 0) (Nat.le_refl 0) ⟨_, rfl, rfl, rfl, h⟩
  · have h := h.2 hc
    refine r_iload_n (x := x1) d_X12_undo_17 rfl ?_
    refine r_aload_n (x := t) d_X12_undo_18 rfl o_t.1 ?_
    refine r_getf (j := 5) (t := 0) (x := (σ2 t 5)) d_X12_undo_19 kX12 (by decide) fl_X12_95 o_t.1 o_t.2.1 o_t.2.2.1 o_t.2.2.2 rfl rfl ?_
    refine r_ic_le (tgt := 28) d_X12_undo_22 rfl (fun hc => ?_) (fun hc => ?_)
    · have h := h.1 hc
      refine r_aload_n (x := t) d_X12_undo_28 rfl o_t.1 ?_
      refine r_dup d_X12_undo_29 rfl ?_
      refine r_getf (j := 5) (t := 0) (x := (σ2 t 5)) d_X12_undo_30 kX12 (by decide) fl_X12_95 o_t.1 o_t.2.1 o_t.2.2.1 o_t.2.2.2 rfl rfl ?_
      refine r_iload_n (x := x1) d_X12_undo_33 rfl ?_
      refine r_isub d_X12_undo_34 ?_
      refine r_putI (j := 5) d_X12_undo_35 kX12 (by decide) fl_X12_95 rfl o_t.1 o_t.2.1 o_t.2.2.1 o_t.2.2.2 rfl ?_
      refine r_nmM (fun τ4 eτ4 => ?_)
      have h := h τ4 eτ4
      refine r_aload_n (x := t) d_X12_undo_38 rfl o_t.1 ?_
      refine r_getf (j := 4) (t := 2) (x := t_deeds) d_X12_undo_39 kX12 (by decide) fl_X12_23 o_t.1 o_t.2.1 o_t.2.2.1 o_t.2.2.2 rfl f_t_deeds ?_
      refine r_sipush (x := 1116) d_X12_undo_42 ⟨by decide, by decide⟩ (by decide) ?_
      refine r_aload_n (x := t) d_X12_undo_45 rfl o_t.1 ?_
      refine r_getf (j := 5) (t := 0) (x := (τ4 t 5)) d_X12_undo_46 kX12 (by decide) fl_X12_95 o_t.1 o_t.2.1 o_t.2.2.1 o_t.2.2.2 rfl rfl ?_
      refine r_imul d_X12_undo_49 ?_
      refine r_aload_n (x := t) d_X12_undo_50 rfl o_t.1 ?_
      refine r_getf (j := 3) (t := 2) (x := t_state) d_X12_undo_51 kX12 (by decide) fl_X12_20 o_t.1 o_t.2.1 o_t.2.2.1 o_t.2.2.2 rfl f_t_state ?_
      refine r_iconst (x := 0) d_X12_undo_54 ⟨by decide, by decide⟩ ?_
      refine r_sipush (x := 1116) d_X12_undo_55 ⟨by decide, by decide⟩ (by decide) ?_
      refine r_callS (Y2 := mX12_copies) (d := d - 1) (mc := 0) (ms := 0) (As := [(2, t_deeds), (0, (mulI 1116 (τ4 t 5))), (2, t_state), (0, 0), (0, 1116)]) (S := []) d_X12_undo_58 ok_mX12_copies ml_X12_98 rfl (rmc h0d (by decide)) rm00 (Nat.le_of_ble_eq_true rfl) rfl (MC.mono h (fun r N1 Λ1 σ5 hq => ?_))
      obtain ⟨rfl, rfl, rfl, h⟩ := hq
      refine r_aload_n (x := t) d_X12_undo_61 rfl o_t.1 ?_
      refine r_getf (j := 5) (t := 0) (x := (σ5 t 5)) d_X12_undo_62 kX12 (by decide) fl_X12_95 o_t.1 o_t.2.1 o_t.2.2.1 o_t.2.2.2 rfl rfl ?_
      exact r_iret d_X12_undo_65 rfl rfl (Nat.le_refl 0) (Nat.le_refl 0) ⟨_, rfl, rfl, rfl, h⟩
    · have h := h.2 hc
      refine r_bipush (x := (-3)) d_X12_undo_25 ⟨by decide, by decide⟩ (by decide) ?_
      exact r_iret d_X12_undo_27 rfl rfl (Nat.le_refl 0) (Nat.le_refl 0) ⟨_, rfl, rfl, rfl, h⟩
theorem v_X12_image_0 {l : Launch} {d N : Nat} {Λ : Lay} {P : Int → Mem → Prop} {σ : Mem} {x1 t t_hasImage t_state : Int} (o_t : Ob N Λ t 21 36) (f_t_state : (Λ t).2.2 3 = t_state) (f_t_hasImage : (Λ t).2.2 6 = t_hasImage) (h0d : 1 ≤ d)
    (h : (∀ τ1, τ1 = st σ t 0 0 → (CI l mX12_within (d - 1) [(1, x1), (1, 0), (1, 1)] N Λ τ1 (fun v3 σ2 => ((¬ v3 = 0 → (CV l mX12_copies (d - 1) [(2, t_state), (0, 0), (2, t_state), (0, (mulI 1116 (addI x1 1))), (0, 1116)] N Λ σ2 (fun σ4 => (Ix N Λ t_hasImage 2 x1 ∧ ((1 : Int) = 0 ∨ (1 : Int) = 1) ∧ (∀ τ5, τ5 = st σ4 t_hasImage x1 1 → P 0 τ5))))) ∧ (v3 = 0 → P (-2) σ2)))))) :
    WI l mX12_image d P 0 [(2, t), (0, x1)] [] N Λ σ := by
  refine r_aload_n (x := t) d_X12_image_0 rfl o_t.1 ?_
  refine r_iconst (x := 0) d_X12_image_1 ⟨by decide, by decide⟩ ?_
  refine r_putI (j := 0) d_X12_image_2 kX12 (by decide) fl_X12_1 rfl o_t.1 o_t.2.1 o_t.2.2.1 o_t.2.2.2 rfl ?_
  refine r_nmM (fun τ1 eτ1 => ?_)
  have h := h τ1 eτ1
  refine r_iload_n (x := x1) d_X12_image_5 rfl ?_
  refine r_i2l d_X12_image_6 ?_
  refine r_lconst d_X12_image_7 ?_
  skip
  refine r_lconst d_X12_image_8 ?_
  skip
  refine r_callS (Y2 := mX12_within) (d := d - 1) (mc := 0) (ms := 0) (As := [(1, x1), (1, 0), (1, 1)]) (S := []) d_X12_image_9 ok_mX12_within ml_X12_91 rfl (rmc h0d (by decide)) rm00 (Nat.le_of_ble_eq_true rfl) rfl (MC.mono h (fun r N1 Λ1 σ2 hq => ?_))
  obtain ⟨v3, rfl, rfl, rfl, h⟩ := hq
  refine r_if_ne (tgt := 18) d_X12_image_12 rfl (fun hc => ?_) (fun hc => ?_)
  · have h := h.1 hc
    refine r_aload_n (x := t) d_X12_image_18 rfl o_t.1 ?_
    refine r_getf (j := 3) (t := 2) (x := t_state) d_X12_image_19 kX12 (by decide) fl_X12_20 o_t.1 o_t.2.1 o_t.2.2.1 o_t.2.2.2 rfl f_t_state ?_
    refine r_iconst (x := 0) d_X12_image_22 ⟨by decide, by decide⟩ ?_
    refine r_aload_n (x := t) d_X12_image_23 rfl o_t.1 ?_
    refine r_getf (j := 3) (t := 2) (x := t_state) d_X12_image_24 kX12 (by decide) fl_X12_20 o_t.1 o_t.2.1 o_t.2.2.1 o_t.2.2.2 rfl f_t_state ?_
    refine r_sipush (x := 1116) d_X12_image_27 ⟨by decide, by decide⟩ (by decide) ?_
    refine r_iload_n (x := x1) d_X12_image_30 rfl ?_
    refine r_iconst (x := 1) d_X12_image_31 ⟨by decide, by decide⟩ ?_
    refine r_iadd d_X12_image_32 ?_
    refine r_imul d_X12_image_33 ?_
    refine r_sipush (x := 1116) d_X12_image_34 ⟨by decide, by decide⟩ (by decide) ?_
    refine r_callS (Y2 := mX12_copies) (d := d - 1) (mc := 0) (ms := 0) (As := [(2, t_state), (0, 0), (2, t_state), (0, (mulI 1116 (addI x1 1))), (0, 1116)]) (S := []) d_X12_image_37 ok_mX12_copies ml_X12_98 rfl (rmc h0d (by decide)) rm00 (Nat.le_of_ble_eq_true rfl) rfl (MC.mono h (fun r N1 Λ1 σ4 hq => ?_))
    obtain ⟨rfl, rfl, rfl, h⟩ := hq
    refine r_aload_n (x := t) d_X12_image_40 rfl o_t.1 ?_
    refine r_getf (j := 6) (t := 2) (x := t_hasImage) d_X12_image_41 kX12 (by decide) fl_X12_26 o_t.1 o_t.2.1 o_t.2.2.1 o_t.2.2.2 rfl f_t_hasImage ?_
    refine r_iload_n (x := x1) d_X12_image_44 rfl ?_
    refine r_iconst (x := 1) d_X12_image_45 ⟨by decide, by decide⟩ ?_
    refine x_zast d_X12_image_46 h.1 h.2.1 ?_
    have h := h.2.2
    refine r_nmM (fun τ5 eτ5 => ?_)
    have h := h τ5 eτ5
    refine r_iconst (x := 0) d_X12_image_47 ⟨by decide, by decide⟩ ?_
    exact r_iret d_X12_image_48 rfl rfl (Nat.le_refl 0) (Nat.le_refl 0) ⟨_, rfl, rfl, rfl, h⟩
  · have h := h.2 hc
    refine r_bipush (x := (-2)) d_X12_image_15 ⟨by decide, by decide⟩ (by decide) ?_
    exact r_iret d_X12_image_17 rfl rfl (Nat.le_refl 0) (Nat.le_refl 0) ⟨_, rfl, rfl, rfl, h⟩
theorem v_X12_restore_0 {l : Launch} {d N : Nat} {Λ : Lay} {P : Int → Mem → Prop} {σ : Mem} {x1 t t_hasImage t_state : Int} (o_t : Ob N Λ t 21 36) (f_t_hasImage : (Λ t).2.2 6 = t_hasImage) (f_t_state : (Λ t).2.2 3 = t_state) (h0d : 1 ≤ d)
    (h : (∀ τ1, τ1 = st σ t 0 0 → (CI l mX12_within (d - 1) [(1, x1), (1, 0), (1, 1)] N Λ τ1 (fun v3 σ2 => ((¬ v3 = 0 → (Ix N Λ t_hasImage 2 x1 ∧ ((¬ (σ2 t_hasImage x1) = 0 → (CV l mX12_copies (d - 1) [(2, t_state), (0, (mulI 1116 (addI x1 1))), (2, t_state), (0, 0), (0, 1116)] N Λ σ2 (fun σ4 => (∀ τ5, τ5 = st σ4 t 5 0 → P 0 τ5)))) ∧ ((σ2 t_hasImage x1) = 0 → P (-6) σ2)))) ∧ (v3 = 0 → P (-2) σ2)))))) :
    WI l mX12_restore d P 0 [(2, t), (0, x1)] [] N Λ σ := by
  refine r_aload_n (x := t) d_X12_restore_0 rfl o_t.1 ?_
  refine r_iconst (x := 0) d_X12_restore_1 ⟨by decide, by decide⟩ ?_
  refine r_putI (j := 0) d_X12_restore_2 kX12 (by decide) fl_X12_1 rfl o_t.1 o_t.2.1 o_t.2.2.1 o_t.2.2.2 rfl ?_
  refine r_nmM (fun τ1 eτ1 => ?_)
  have h := h τ1 eτ1
  refine r_iload_n (x := x1) d_X12_restore_5 rfl ?_
  refine r_i2l d_X12_restore_6 ?_
  refine r_lconst d_X12_restore_7 ?_
  skip
  refine r_lconst d_X12_restore_8 ?_
  skip
  refine r_callS (Y2 := mX12_within) (d := d - 1) (mc := 0) (ms := 0) (As := [(1, x1), (1, 0), (1, 1)]) (S := []) d_X12_restore_9 ok_mX12_within ml_X12_91 rfl (rmc h0d (by decide)) rm00 (Nat.le_of_ble_eq_true rfl) rfl (MC.mono h (fun r N1 Λ1 σ2 hq => ?_))
  obtain ⟨v3, rfl, rfl, rfl, h⟩ := hq
  refine r_if_ne (tgt := 18) d_X12_restore_12 rfl (fun hc => ?_) (fun hc => ?_)
  · have h := h.1 hc
    refine r_aload_n (x := t) d_X12_restore_18 rfl o_t.1 ?_
    refine r_getf (j := 6) (t := 2) (x := t_hasImage) d_X12_restore_19 kX12 (by decide) fl_X12_26 o_t.1 o_t.2.1 o_t.2.2.1 o_t.2.2.2 rfl f_t_hasImage ?_
    refine r_iload_n (x := x1) d_X12_restore_22 rfl ?_
    refine x_zald d_X12_restore_23 h.1 ?_
    have h := h.2
    refine r_if_ne (tgt := 30) d_X12_restore_24 rfl (fun hc => ?_) (fun hc => ?_)
    · have h := h.1 hc
      refine r_aload_n (x := t) d_X12_restore_30 rfl o_t.1 ?_
      refine r_getf (j := 3) (t := 2) (x := t_state) d_X12_restore_31 kX12 (by decide) fl_X12_20 o_t.1 o_t.2.1 o_t.2.2.1 o_t.2.2.2 rfl f_t_state ?_
      refine r_sipush (x := 1116) d_X12_restore_34 ⟨by decide, by decide⟩ (by decide) ?_
      refine r_iload_n (x := x1) d_X12_restore_37 rfl ?_
      refine r_iconst (x := 1) d_X12_restore_38 ⟨by decide, by decide⟩ ?_
      refine r_iadd d_X12_restore_39 ?_
      refine r_imul d_X12_restore_40 ?_
      refine r_aload_n (x := t) d_X12_restore_41 rfl o_t.1 ?_
      refine r_getf (j := 3) (t := 2) (x := t_state) d_X12_restore_42 kX12 (by decide) fl_X12_20 o_t.1 o_t.2.1 o_t.2.2.1 o_t.2.2.2 rfl f_t_state ?_
      refine r_iconst (x := 0) d_X12_restore_45 ⟨by decide, by decide⟩ ?_
      refine r_sipush (x := 1116) d_X12_restore_46 ⟨by decide, by decide⟩ (by decide) ?_
      refine r_callS (Y2 := mX12_copies) (d := d - 1) (mc := 0) (ms := 0) (As := [(2, t_state), (0, (mulI 1116 (addI x1 1))), (2, t_state), (0, 0), (0, 1116)]) (S := []) d_X12_restore_49 ok_mX12_copies ml_X12_98 rfl (rmc h0d (by decide)) rm00 (Nat.le_of_ble_eq_true rfl) rfl (MC.mono h (fun r N1 Λ1 σ4 hq => ?_))
      obtain ⟨rfl, rfl, rfl, h⟩ := hq
      refine r_aload_n (x := t) d_X12_restore_52 rfl o_t.1 ?_
      refine r_iconst (x := 0) d_X12_restore_53 ⟨by decide, by decide⟩ ?_
      refine r_putI (j := 5) d_X12_restore_54 kX12 (by decide) fl_X12_95 rfl o_t.1 o_t.2.1 o_t.2.2.1 o_t.2.2.2 rfl ?_
      refine r_nmM (fun τ5 eτ5 => ?_)
      have h := h τ5 eτ5
      refine r_iconst (x := 0) d_X12_restore_57 ⟨by decide, by decide⟩ ?_
      exact r_iret d_X12_restore_58 rfl rfl (Nat.le_refl 0) (Nat.le_refl 0) ⟨_, rfl, rfl, rfl, h⟩
    · have h := h.2 hc
      refine r_bipush (x := (-6)) d_X12_restore_27 ⟨by decide, by decide⟩ (by decide) ?_
      exact r_iret d_X12_restore_29 rfl rfl (Nat.le_refl 0) (Nat.le_refl 0) ⟨_, rfl, rfl, rfl, h⟩
  · have h := h.2 hc
    refine r_bipush (x := (-2)) d_X12_restore_15 ⟨by decide, by decide⟩ (by decide) ?_
    exact r_iret d_X12_restore_17 rfl rfl (Nat.le_refl 0) (Nat.le_refl 0) ⟨_, rfl, rfl, rfl, h⟩
theorem v_X12_facts_0 {l : Launch} {d N : Nat} {Λ : Lay} {P : Int → Mem → Prop} {σ : Mem} {x1 t : Int}
    (h : WI l mX12_facts d P 4 [(2, t), (0, x1), (0, 0), (0, 1)] [] N Λ σ) :
    WI l mX12_facts d P 0 [(2, t), (0, x1), (3, 0), (3, 0)] [] N Λ σ := by
  refine r_iconst (x := 0) d_X12_facts_0 ⟨by decide, by decide⟩ ?_
  refine r_istore_n (L2 := [(2, t), (0, x1), (0, 0), (3, 0)]) d_X12_facts_1 (by decide) rfl rfl ?_
  refine r_iconst (x := 1) d_X12_facts_2 ⟨by decide, by decide⟩ ?_
  refine r_istore_n (L2 := [(2, t), (0, x1), (0, 0), (0, 1)]) d_X12_facts_3 (by decide) rfl rfl ?_
  exact h
theorem v_X12_facts_4 {l : Launch} {d N : Nat} {Λ : Lay} {P : Int → Mem → Prop} {σ : Mem} {x1 x2 x3 t : Int} (o_t : Ob N Λ t 21 36) (h0d : 1 ≤ d)
    (h : ((120 < x3 → P x2 σ) ∧ (¬ (120 < x3) → (CI l mX12_factOf (d - 1) [(2, t), (0, x3)] N Λ σ (fun v2 σ1 => ((¬ v2 = x1 → (∀ y3, y3 = (addI x2 0) → (∀ y4, y4 = addI x3 1 → WI l mX12_facts d P 4 [(2, t), (0, x1), (0, y3), (0, y4)] [] N Λ σ1))) ∧ (v2 = x1 → (∀ y5, y5 = (addI x2 1) → (∀ y6, y6 = addI x3 1 → WI l mX12_facts d P 4 [(2, t), (0, x1), (0, y5), (0, y6)] [] N Λ σ1))))))))) :
    WI l mX12_facts d P 4 [(2, t), (0, x1), (0, x2), (0, x3)] [] N Λ σ := by
  refine r_iload_n (x := x3) d_X12_facts_4 rfl ?_
  refine r_bipush (x := 120) d_X12_facts_5 ⟨by decide, by decide⟩ (by decide) ?_
  refine r_ic_gt (tgt := 33) d_X12_facts_7 rfl (fun hc => ?_) (fun hc => ?_)
  · have h := h.1 hc
    refine r_iload_n (x := x2) d_X12_facts_33 rfl ?_
    exact r_iret d_X12_facts_34 rfl rfl (Nat.le_refl 0) (Nat.le_refl 0) ⟨_, rfl, rfl, rfl, h⟩
  · have h := h.2 hc
    refine r_iload_n (x := x2) d_X12_facts_10 rfl ?_
    refine r_aload_n (x := t) d_X12_facts_11 rfl o_t.1 ?_
    refine r_iload_n (x := x3) d_X12_facts_12 rfl ?_
    refine r_callV (Y2 := mX12_factOf) (d := d - 1) (mc := 0) (ms := 0) (c := t) (As := [(0, x3)]) (S := [(0, x2)]) d_X12_facts_13 ok_mX12_factOf ml_X12_244 rfl (rmc h0d (by decide)) rm00 (Nat.le_of_ble_eq_true rfl) rfl kX12 o_t.1 o_t.2.1 o_t.2.2.1 o_t.2.2.2 (MC.mono h (fun r N1 Λ1 σ1 hq => ?_))
    obtain ⟨v2, rfl, rfl, rfl, h⟩ := hq
    refine r_iload_n (x := x1) d_X12_facts_16 rfl ?_
    refine r_ic_ne (tgt := 24) d_X12_facts_17 rfl (fun hc => ?_) (fun hc => ?_)
    · have h := h.1 hc
      refine r_iconst (x := 0) d_X12_facts_24 ⟨by decide, by decide⟩ ?_
      refine r_iadd d_X12_facts_25 ?_
      refine r_nm (fun y3 ey3 => ?_)
      have h := h y3 ey3
      refine r_istore_n (L2 := [(2, t), (0, x1), (0, y3), (0, x3)]) d_X12_facts_26 (by decide) rfl rfl ?_
      refine x_iinc (x := x3) (L := [(2, t), (0, x1), (0, y3), (0, x3)]) d_X12_facts_27 rfl (by decide) rfl (fun y4 ey4 => ?_)
      have h := h y4 ey4
      show WP _ _ _ _ _ _ _ _ [(2, t), (0, x1), (0, y3), (0, y4)] _ _ _ _
      refine r_goto (tgt := 4) d_X12_facts_30 rfl ?_
      exact h
    · have h := h.2 hc
      refine r_iconst (x := 1) d_X12_facts_20 ⟨by decide, by decide⟩ ?_
      refine r_goto (tgt := 25) d_X12_facts_21 rfl ?_
      refine r_iadd d_X12_facts_25 ?_
      refine r_nm (fun y5 ey5 => ?_)
      have h := h y5 ey5
      refine r_istore_n (L2 := [(2, t), (0, x1), (0, y5), (0, x3)]) d_X12_facts_26 (by decide) rfl rfl ?_
      refine x_iinc (x := x3) (L := [(2, t), (0, x1), (0, y5), (0, x3)]) d_X12_facts_27 rfl (by decide) rfl (fun y6 ey6 => ?_)
      have h := h y6 ey6
      show WP _ _ _ _ _ _ _ _ [(2, t), (0, x1), (0, y5), (0, y6)] _ _ _ _
      refine r_goto (tgt := 4) d_X12_facts_30 rfl ?_
      exact h
theorem v_X12_count_0 {l : Launch} {d N : Nat} {Λ : Lay} {P : Int → Mem → Prop} {σ : Mem} {x1 t : Int} (o_t : Ob N Λ t 21 36) (h0d : 1 ≤ d)
    (h : (∀ τ1, τ1 = st σ t 0 0 → ((x1 < 0 ∨ 5 < x1 → P (-1) τ1) ∧ (x1 = 0 → WI l mX12_count d P 50 [(2, t), (0, x1), (0, 0), (0, 0)] [] N Λ τ1) ∧ (x1 = 1 → (CI l mX12_facts (d - 1) [(2, t), (0, 0)] N Λ τ1 (fun v3 σ2 => P v3 σ2))) ∧ (x1 = 2 → (CI l mX12_facts (d - 1) [(2, t), (0, 1)] N Λ τ1 (fun v5 σ4 => P v5 σ4))) ∧ (x1 = 3 → P (τ1 t 19) τ1) ∧ (x1 = 4 → P (τ1 t 5) τ1) ∧ (x1 = 5 → WI l mX12_count d P 101 [(2, t), (0, x1), (0, 0), (0, 1)] [] N Λ τ1)))) :
    WI l mX12_count d P 0 [(2, t), (0, x1), (3, 0), (3, 0)] [] N Λ σ := by
  refine r_aload_n (x := t) d_X12_count_0 rfl o_t.1 ?_
  refine r_iconst (x := 0) d_X12_count_1 ⟨by decide, by decide⟩ ?_
  refine r_putI (j := 0) d_X12_count_2 kX12 (by decide) fl_X12_1 rfl o_t.1 o_t.2.1 o_t.2.2.1 o_t.2.2.2 rfl ?_
  refine r_nmM (fun τ1 eτ1 => ?_)
  have h := h τ1 eτ1
  refine r_iconst (x := 0) d_X12_count_5 ⟨by decide, by decide⟩ ?_
  refine r_istore_n (L2 := [(2, t), (0, x1), (0, 0), (3, 0)]) d_X12_count_6 (by decide) rfl rfl ?_
  refine r_iload_n (x := x1) d_X12_count_7 rfl ?_
  by_cases hr : x1 < 0 ∨ 5 < x1
  · have h := h.1 hr
    refine r_tout (tgt := 131) d_X12_count_8 hr rfl ?_
    refine r_iconst (x := (-1)) d_X12_count_131 ⟨by decide, by decide⟩ ?_
    exact r_iret d_X12_count_132 rfl rfl (Nat.le_refl 0) (Nat.le_refl 0) ⟨_, rfl, rfl, rfl, h⟩
  · have h := h.2
    by_cases hk0 : x1 = 0
    · have h := h.1 hk0
      refine r_tin (off := 40) (tgt := 48) d_X12_count_8 (by rw [hk0]; decide) (by rw [hk0]; decide) (by rw [hk0]; rfl) rfl ?_
      refine r_iconst (x := 0) d_X12_count_48 ⟨by decide, by decide⟩ ?_
      refine r_istore_n (L2 := [(2, t), (0, x1), (0, 0), (0, 0)]) d_X12_count_49 (by decide) rfl rfl ?_
      exact h
    have h := h.2
    by_cases hk1 : x1 = 1
    · have h := h.1 hk1
      refine r_tin (off := 69) (tgt := 77) d_X12_count_8 (by rw [hk1]; decide) (by rw [hk1]; decide) (by rw [hk1]; rfl) rfl ?_
      refine r_aload_n (x := t) d_X12_count_77 rfl o_t.1 ?_
      refine r_iconst (x := 0) d_X12_count_78 ⟨by decide, by decide⟩ ?_
      refine r_callV (Y2 := mX12_facts) (d := d - 1) (mc := 0) (ms := 0) (c := t) (As := [(0, 0)]) (S := []) d_X12_count_79 ok_mX12_facts ml_X12_425 rfl (rmc h0d (by decide)) rm00 (Nat.le_of_ble_eq_true rfl) rfl kX12 o_t.1 o_t.2.1 o_t.2.2.1 o_t.2.2.2 (MC.mono h (fun r N1 Λ1 σ2 hq => ?_))
      obtain ⟨v3, rfl, rfl, rfl, h⟩ := hq
      exact r_iret d_X12_count_82 rfl rfl (Nat.le_refl 0) (Nat.le_refl 0) ⟨_, rfl, rfl, rfl, h⟩
    have h := h.2
    by_cases hk2 : x1 = 2
    · have h := h.1 hk2
      refine r_tin (off := 75) (tgt := 83) d_X12_count_8 (by rw [hk2]; decide) (by rw [hk2]; decide) (by rw [hk2]; rfl) rfl ?_
      refine r_aload_n (x := t) d_X12_count_83 rfl o_t.1 ?_
      refine r_iconst (x := 1) d_X12_count_84 ⟨by decide, by decide⟩ ?_
      refine r_callV (Y2 := mX12_facts) (d := d - 1) (mc := 0) (ms := 0) (c := t) (As := [(0, 1)]) (S := []) d_X12_count_85 ok_mX12_facts ml_X12_425 rfl (rmc h0d (by decide)) rm00 (Nat.le_of_ble_eq_true rfl) rfl kX12 o_t.1 o_t.2.1 o_t.2.2.1 o_t.2.2.2 (MC.mono h (fun r N1 Λ1 σ4 hq => ?_))
      obtain ⟨v5, rfl, rfl, rfl, h⟩ := hq
      exact r_iret d_X12_count_88 rfl rfl (Nat.le_refl 0) (Nat.le_refl 0) ⟨_, rfl, rfl, rfl, h⟩
    have h := h.2
    by_cases hk3 : x1 = 3
    · have h := h.1 hk3
      refine r_tin (off := 81) (tgt := 89) d_X12_count_8 (by rw [hk3]; decide) (by rw [hk3]; decide) (by rw [hk3]; rfl) rfl ?_
      refine r_aload_n (x := t) d_X12_count_89 rfl o_t.1 ?_
      refine r_getf (j := 19) (t := 0) (x := (τ1 t 19)) d_X12_count_90 kX12 (by decide) fl_X12_252 o_t.1 o_t.2.1 o_t.2.2.1 o_t.2.2.2 rfl rfl ?_
      exact r_iret d_X12_count_93 rfl rfl (Nat.le_refl 0) (Nat.le_refl 0) ⟨_, rfl, rfl, rfl, h⟩
    have h := h.2
    by_cases hk4 : x1 = 4
    · have h := h.1 hk4
      refine r_tin (off := 86) (tgt := 94) d_X12_count_8 (by rw [hk4]; decide) (by rw [hk4]; decide) (by rw [hk4]; rfl) rfl ?_
      refine r_aload_n (x := t) d_X12_count_94 rfl o_t.1 ?_
      refine r_getf (j := 5) (t := 0) (x := (τ1 t 5)) d_X12_count_95 kX12 (by decide) fl_X12_95 o_t.1 o_t.2.1 o_t.2.2.1 o_t.2.2.2 rfl rfl ?_
      exact r_iret d_X12_count_98 rfl rfl (Nat.le_refl 0) (Nat.le_refl 0) ⟨_, rfl, rfl, rfl, h⟩
    have h := h.2
    by_cases hk5 : x1 = 5
    · have h := h hk5
      refine r_tin (off := 91) (tgt := 99) d_X12_count_8 (by rw [hk5]; decide) (by rw [hk5]; decide) (by rw [hk5]; rfl) rfl ?_
      refine r_iconst (x := 1) d_X12_count_99 ⟨by decide, by decide⟩ ?_
      refine r_istore_n (L2 := [(2, t), (0, x1), (0, 0), (0, 1)]) d_X12_count_100 (by decide) rfl rfl ?_
      exact h
    exact (tsw_5 hr hk0 hk1 hk2 hk3 hk4 hk5).elim
theorem v_X12_count_50 {l : Launch} {d N : Nat} {Λ : Lay} {P : Int → Mem → Prop} {σ : Mem} {x1 x2 x3 t t_state : Int} (o_t : Ob N Λ t 21 36) (f_t_state : (Λ t).2.2 3 = t_state)
    (h : ((6 ≤ x3 → P x2 σ) ∧ (¬ (6 ≤ x3) → (Ix N Λ t_state 0 (mulI 161 x3) ∧ (∀ y1, y1 = (addI x2 (σ t_state (mulI 161 x3))) → (∀ y2, y2 = addI x3 1 → WI l mX12_count d P 50 [(2, t), (0, x1), (0, y1), (0, y2)] [] N Λ σ)))))) :
    WI l mX12_count d P 50 [(2, t), (0, x1), (0, x2), (0, x3)] [] N Λ σ := by
  refine r_iload_n (x := x3) d_X12_count_50 rfl ?_
  refine r_bipush (x := 6) d_X12_count_51 ⟨by decide, by decide⟩ (by decide) ?_
  refine r_ic_ge (tgt := 75) d_X12_count_53 rfl (fun hc => ?_) (fun hc => ?_)
  · have h := h.1 hc
    refine r_iload_n (x := x2) d_X12_count_75 rfl ?_
    exact r_iret d_X12_count_76 rfl rfl (Nat.le_refl 0) (Nat.le_refl 0) ⟨_, rfl, rfl, rfl, h⟩
  · have h := h.2 hc
    refine r_iload_n (x := x2) d_X12_count_56 rfl ?_
    refine r_aload_n (x := t) d_X12_count_57 rfl o_t.1 ?_
    refine r_getf (j := 3) (t := 2) (x := t_state) d_X12_count_58 kX12 (by decide) fl_X12_20 o_t.1 o_t.2.1 o_t.2.2.1 o_t.2.2.2 rfl f_t_state ?_
    refine r_sipush (x := 161) d_X12_count_61 ⟨by decide, by decide⟩ (by decide) ?_
    refine r_iload_n (x := x3) d_X12_count_64 rfl ?_
    refine r_imul d_X12_count_65 ?_
    refine x_iald d_X12_count_66 h.1 ?_
    have h := h.2
    refine r_iadd d_X12_count_67 ?_
    refine r_nm (fun y1 ey1 => ?_)
    have h := h y1 ey1
    refine r_istore_n (L2 := [(2, t), (0, x1), (0, y1), (0, x3)]) d_X12_count_68 (by decide) rfl rfl ?_
    refine x_iinc (x := x3) (L := [(2, t), (0, x1), (0, y1), (0, x3)]) d_X12_count_69 rfl (by decide) rfl (fun y2 ey2 => ?_)
    have h := h y2 ey2
    show WP _ _ _ _ _ _ _ _ [(2, t), (0, x1), (0, y1), (0, y2)] _ _ _ _
    refine r_goto (tgt := 50) d_X12_count_72 rfl ?_
    exact h
theorem v_X12_count_101 {l : Launch} {d N : Nat} {Λ : Lay} {P : Int → Mem → Prop} {σ : Mem} {x1 x2 x3 t : Int} (o_t : Ob N Λ t 21 36) (h0d : 1 ≤ d)
    (h : ((120 < x3 → P x2 σ) ∧ (¬ (120 < x3) → (CI l mX12_worthOfRank (d - 1) [(2, t), (0, x3)] N Λ σ (fun v2 σ1 => ((¬ v2 = 0 → (∀ y3, y3 = (addI x2 0) → (∀ y4, y4 = addI x3 1 → WI l mX12_count d P 101 [(2, t), (0, x1), (0, y3), (0, y4)] [] N Λ σ1))) ∧ (v2 = 0 → (∀ y5, y5 = (addI x2 1) → (∀ y6, y6 = addI x3 1 → WI l mX12_count d P 101 [(2, t), (0, x1), (0, y5), (0, y6)] [] N Λ σ1))))))))) :
    WI l mX12_count d P 101 [(2, t), (0, x1), (0, x2), (0, x3)] [] N Λ σ := by
  refine r_iload_n (x := x3) d_X12_count_101 rfl ?_
  refine r_bipush (x := 120) d_X12_count_102 ⟨by decide, by decide⟩ (by decide) ?_
  refine r_ic_gt (tgt := 129) d_X12_count_104 rfl (fun hc => ?_) (fun hc => ?_)
  · have h := h.1 hc
    refine r_iload_n (x := x2) d_X12_count_129 rfl ?_
    exact r_iret d_X12_count_130 rfl rfl (Nat.le_refl 0) (Nat.le_refl 0) ⟨_, rfl, rfl, rfl, h⟩
  · have h := h.2 hc
    refine r_iload_n (x := x2) d_X12_count_107 rfl ?_
    refine r_aload_n (x := t) d_X12_count_108 rfl o_t.1 ?_
    refine r_iload_n (x := x3) d_X12_count_109 rfl ?_
    refine r_callV (Y2 := mX12_worthOfRank) (d := d - 1) (mc := 0) (ms := 0) (c := t) (As := [(0, x3)]) (S := [(0, x2)]) d_X12_count_110 ok_mX12_worthOfRank ml_X12_418 rfl (rmc h0d (by decide)) rm00 (Nat.le_of_ble_eq_true rfl) rfl kX12 o_t.1 o_t.2.1 o_t.2.2.1 o_t.2.2.2 (MC.mono h (fun r N1 Λ1 σ1 hq => ?_))
    obtain ⟨v2, rfl, rfl, rfl, h⟩ := hq
    refine r_if_ne (tgt := 120) d_X12_count_113 rfl (fun hc => ?_) (fun hc => ?_)
    · have h := h.1 hc
      refine r_iconst (x := 0) d_X12_count_120 ⟨by decide, by decide⟩ ?_
      refine r_iadd d_X12_count_121 ?_
      refine r_nm (fun y3 ey3 => ?_)
      have h := h y3 ey3
      refine r_istore_n (L2 := [(2, t), (0, x1), (0, y3), (0, x3)]) d_X12_count_122 (by decide) rfl rfl ?_
      refine x_iinc (x := x3) (L := [(2, t), (0, x1), (0, y3), (0, x3)]) d_X12_count_123 rfl (by decide) rfl (fun y4 ey4 => ?_)
      have h := h y4 ey4
      show WP _ _ _ _ _ _ _ _ [(2, t), (0, x1), (0, y3), (0, y4)] _ _ _ _
      refine r_goto (tgt := 101) d_X12_count_126 rfl ?_
      exact h
    · have h := h.2 hc
      refine r_iconst (x := 1) d_X12_count_116 ⟨by decide, by decide⟩ ?_
      refine r_goto (tgt := 121) d_X12_count_117 rfl ?_
      refine r_iadd d_X12_count_121 ?_
      refine r_nm (fun y5 ey5 => ?_)
      have h := h y5 ey5
      refine r_istore_n (L2 := [(2, t), (0, x1), (0, y5), (0, x3)]) d_X12_count_122 (by decide) rfl rfl ?_
      refine x_iinc (x := x3) (L := [(2, t), (0, x1), (0, y5), (0, x3)]) d_X12_count_123 rfl (by decide) rfl (fun y6 ey6 => ?_)
      have h := h y6 ey6
      show WP _ _ _ _ _ _ _ _ [(2, t), (0, x1), (0, y5), (0, y6)] _ _ _ _
      refine r_goto (tgt := 101) d_X12_count_126 rfl ?_
      exact h
